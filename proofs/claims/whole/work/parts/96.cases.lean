/-! the law's calls, one by one (printed by jm.py) -/
abbrev sx (xs : Nat → Int32) (n : Nat) (j : Int32) : Int32 := xs (nI (7 * n) + j).toNatClampNeg
def bo (x : Int32) : Int32 := if x = 0 then 0 else 1
theorem bo_B (x : Int32) : isB (bo x) := by
  unfold bo
  by_cases h : x = 0
  · rw [if_pos h]; exact Or.inl rfl
  · rw [if_neg h]; exact Or.inr rfl
theorem in_scr {n L : Nat} (h7 : 7 * n + 7 ≤ L) (hL : L ≤ 3584) {j : Nat} (hj : j < 7) {x : Int32} (hx : x = nI j) : vp_in (nI (7 * n) + x) L := by
  rw [hx, nI_add]
  exact inb_nI (by omega) (by omega)
theorem lrA {a k r m : Nat} (h : a + m ≤ r) (hk : k ≤ m) : a + k ≤ r := Nat.le_trans (Nat.add_le_add_left hk a) h
theorem lr0 {a r m : Nat} (h : a + m ≤ r) : a ≤ r := Nat.le_trans (Nat.le_add_right a m) h
theorem dL36 {np : Nat} : dL np 36 0 0 := dL_e (by unfold eL; omega)
theorem dL37 {np : Nat} : dL np 37 0 0 := dL_e (by unfold eL; omega)
section VBO
variable {D : va_G} {cA : Nat → ClassId} {dm : Dm} {ad : Ad} {A : Nat → Prop} {nL : Nat} {p : Program} {l : Launch} {e : Env} {R : Room} {s : State} {m : MethodId} {args : Array Value} {below : List Frame} {meth : Method} {c : Code} {cells slots : Nat} {Q : State → Prop} {own : String} {cc : ByteArray} {S S' : S4} {pc : Nat} {lv : List (Nat × Value)} {st : List Value} {x : Int32}
theorem V_bool (X : GX D cA dm ad A nL p s m args meth c own cc) (d0 : decode cc pc = .ok (.ifCond .eq 7, 3)) (d1 : decode cc (pc + 3) = .ok (.iconst 1, 1)) (d2 : decode cc (pc + 3 + 1) = .ok (.goto 4, 3)) (d3 : decode cc (pc + 7) = .ok (.iconst 0, 1)) (kk : V D cA dm ad A nL p l e R s m args below meth c cells slots Q S (pc + 8) lv (.int (bo x) :: st)) : V D cA dm ad A nL p l e R s m args below meth c cells slots Q S pc lv (.int x :: st) := by
  refine V_if_eq X (pc + 7) d0 (by omega) (fun h => ?_) (fun h => ?_)
  · refine V_iconst X (0 : Int32) d3 (by decide) ?_
    rw [show bo x = 0 from if_pos h] at kk
    exact kk
  · refine V_iconst X (1 : Int32) d1 (by decide) ?_
    refine V_goto X (pc + 8) d2 (by omega) ?_
    rw [show bo x = 1 from if_neg h] at kk
    exact kk
theorem V_boolL (X : GX D cA dm ad A nL p s m args meth c own cc) (d0 : decode cc pc = .ok (.ifCond .eq 7, 3)) (d1 : decode cc (pc + 3) = .ok (.lconst 1, 1)) (d2 : decode cc (pc + 3 + 1) = .ok (.goto 4, 3)) (d3 : decode cc (pc + 7) = .ok (.lconst 0, 1)) (kk : V D cA dm ad A nL p l e R s m args below meth c cells slots Q S (pc + 8) lv (.long (bo x).toInt64 :: st)) : V D cA dm ad A nL p l e R s m args below meth c cells slots Q S pc lv (.int x :: st) := by
  refine V_if_eq X (pc + 7) d0 (by omega) (fun h => ?_) (fun h => ?_)
  · refine V_lconst X ((0 : Int32).toInt64) d3 (by decide) ?_
    rw [show bo x = 0 from if_pos h] at kk
    exact kk
  · refine V_lconst X ((1 : Int32).toInt64) d1 (by decide) ?_
    refine V_goto X (pc + 8) d2 (by omega) ?_
    rw [show bo x = 1 from if_neg h] at kk
    exact kk
theorem V_callSCs (X : GX D cA dm ad A nL p s m args meth c own cc) (hZ : gZ A s s.heap) {y : MethodName} {cy : ByteArray} {mL idx n rf rl : Nat} {ret : Option FieldType} {hh : List (Nat × Nat × Nat × Nat)} {k : Int32} {S1 : S4} (As : List Value) {rest : List Value} (hdg : decode cc pc = .ok (.invokestatic idx, 3)) (hM : MLW own idx y cy mL ret hh n) (hR : rf + 1 ≤ R.frames ∧ 8 + (mL + 11) + rl ≤ R.locals) (hf : cells + 1 ≤ R.cells ∧ slots + 6 ≤ R.slots) (hn : As.length = n) (hst : (rest.map fun v => v.category).sum ≤ 8)
    (hC : Cw D cA dm ad l y cy mL ret hh rf rl S As (some (.int k)) S1) (kk : V D cA dm ad A nL p l e R s m args below meth c (cells + 1) (slots + 6) Q S1 (pc + 3) lv (.int k :: rest)) : V D cA dm ad A nL p l e R s m args below meth c cells slots Q S pc lv (As.reverse ++ rest) :=
  V_callSC X hZ As hdg hM hR hf hn hst hC kk
theorem V_callSCJs {E : Dm} {mc ms : Nat} (X : GX D cA dm ad A nL p s m args meth c own cc) (hZ : gZ A s s.heap) (hY : gY A s s.heap) {y : MethodName} {cy : ByteArray} {mL idx n rf rl : Nat} {ret : Option FieldType} {hh : List (Nat × Nat × Nat × Nat)} {k : Int32} {S1 : S4} (As : List Value) {rest : List Value} (hdg : decode cc pc = .ok (.invokestatic idx, 3)) (hM : MLW own idx y cy mL ret hh n) (hR : rf + 1 ≤ R.frames ∧ 8 + (mL + 11) + rl ≤ R.locals) (hf : cells + mc ≤ R.cells ∧ slots + ms ≤ R.slots) (hn : As.length = n) (hst : (rest.map fun v => v.category).sum ≤ 8)
    (hC : CwJ D cA dm E ad l y cy mL ret hh rf rl mc ms S As (some (.int k)) S1) (kk : ∀ ad' : Ad, agM true dm ad ad' → GX D cA E ad' A nL p s m args meth c own cc → V D cA E ad' A nL p l e R s m args below meth c (cells + mc) (slots + ms) Q S1 (pc + 3) lv (.int k :: rest)) : V D cA dm ad A nL p l e R s m args below meth c cells slots Q S pc lv (As.reverse ++ rest) :=
  V_callSCJ X hZ hY As hdg hM hR hf hn hst hC kk
end VBO
def KK (l : Launch) (D : va_G) (cA : Nat → ClassId) (p : Program) (e : Env) (s : State) (m : MethodId) (below : List Frame) (meth : Method) (c : Code) (b : Nat) (Q : State → Prop) (n cells slots : Nat) : Prop := ∀ (np' T' : Nat) (S' : S4) (ad' : Ad), np' ≤ n + 1 → T' ≤ 200 * (n + 1) → LI np' T' S' → GX D cA (dL np') ad' (lwA s) 9 p s m #[Value.ref b] meth c RL cL_law → V D cA (dL np') ad' (lwA s) 9 p l e room_1 s m #[Value.ref b] below meth c (cells + 150) (slots + 400) Q S' 1838 (lvL ad' b (nI (7 * n))) []
/-- the law's references stay where they are when the builder's bytes move -/
theorem lvL_ag {np b : Nat} {i : Int32} {ad ad' : Ad} (h : agM true (dL np) ad ad') : lvL ad' b i = lvL ad b i := by
  have e : ∀ k, (k = 6 ∨ k = 7 ∨ k = 36 ∨ k = 37) → ad' k 0 0 = ad k 0 0 := fun k hk => h k 0 0 (dL_e (by unfold eL; omega)) (Or.inl (by omega))
  unfold lvL
  rw [e 6 (by decide), e 7 (by decide), e 36 (by decide), e 37 (by decide)]
theorem w_L_build : MLW RL 111 yL_build cL_build 4 (some .int) [(0, 9, 12, 13)] 3 := ⟨gin 489 (by decide +kernel) (by decide +kernel), nw_L_build, ni_L, by decide +kernel, t_L_build⟩
set_option maxHeartbeats 1000000 in
theorem law_c0 {l : Launch} {D : va_G} {cA : Nat → ClassId} {p : Program} {e : Env} {s : State} {m : MethodId} {below : List Frame} {meth : Method} {c : Code} {b L : Nat} {xs : Nat → Int32} {Q : State → Prop} {n np T cells slots : Nat} {S : S4} {ad : Ad} (X : GX D cA (dL np) ad (lwA s) 9 p s m #[Value.ref b] meth c RL cL_law) (hI : LI np T S) (hn : np ≤ n) (hT : T ≤ 200 * n) (hn5 : n < 512) (hZ : gZ (lwA s) s s.heap) (hY : gY (lwA s) s s.heap) (hl : l.stackTraces = false) (hX : va_X b L xs s s.heap) (hbl : b < s.heap.size) (h7 : 7 * n + 7 ≤ L) (hL : L ≤ 3584) (hc : cells + 150 ≤ room_1.cells) (hs : slots + 400 ≤ room_1.slots) (kk : KK l D cA p e s m below meth c b Q n cells slots) : V D cA (dL np) ad (lwA s) 9 p l e room_1 s m #[Value.ref b] below meth c cells slots Q S 168 (lvL ad b (nI (7 * n))) [] := by
  obtain ⟨k, S1, y, S2, e1, e2, g7, g36, hG⟩ := st_build (fu := 9601) (p2 := (sx xs n 1)) hI.1 (by omega) (by omega) (by decide)
  have hI2 : LI np (T) S2 := hI.next (fz_L_build _ e1) (fr_X7_build e2) hG
  refine V_aload_n X dL_law_168 rfl 1 rfl ?_
  refine V_aload_n X dL_law_169 rfl 0 rfl ?_
  refine V_iload X dL_law_170 5 rfl ?_
  refine V_iconst X (1 : Int32) dL_law_172 (by decide) ?_
  refine V_iadd X dL_law_173 ?_
  refine V_sld X hX hbl (lwA_not _ hbl) (in_scr h7 hL (j := 1) (by decide) (by decide)) dL_law_174 ?_
  refine V_aload_n X dL_law_175 rfl 3 rfl ?_
  refine V_callSCs X hZ [.ref (ad 6 0 0), .int (sx xs n 1), .ref (ad 36 0 0)] dL_law_176 w_L_build ⟨Nat.le_of_ble_eq_true rfl, Nat.le_of_ble_eq_true rfl⟩ ⟨lrA hc (by decide), lrA hs (by decide)⟩ rfl (Nat.le_of_ble_eq_true rfl) (c_L_build dL_K dL36 hl e1) ?_
  refine V_istore X dL_law_179 ((6, .int k) :: lvL ad b (nI (7 * n))) (by decide) rfl ?_
  refine V_aload_n X dL_law_181 rfl 3 rfl ?_
  refine V_aload_n X dL_law_182 rfl 1 rfl ?_
  refine V_iload X dL_law_183 6 rfl ?_
  refine V_iconst X (1 : Int32) dL_law_185 (by decide) ?_
  refine V_iadd X dL_law_186 ?_
  refine V_sld X hX hbl (lwA_not _ hbl) (in_scr h7 hL (j := 1) (by decide) (by decide)) dL_law_187 ?_
  refine V_callVs X [.int (sx xs n 1)] dL_law_188 m_L_116 v_X7_build ⟨Nat.le_of_ble_eq_true rfl, Nat.le_of_ble_eq_true rfl⟩ ⟨lrA hc (by decide), lrA hs (by decide)⟩ rfl (Nat.le_of_ble_eq_true rfl) (gm7 dL_M) rfl cl7 (c_X7_build dL_M e2) ?_
  exact law_tail X dL_M dL36 ⟨lrA hc (by decide), lrA hs (by decide)⟩ g7 g36 dL_law_191 dL_law_193 dL_law_194 dL_law_197 dL_law_199 dL_law_204 dL_law_206 dL_law_209 dL_law_210 dL_law_211 dL_law_212 dL_law_214 dL_law_215 dL_law_216 dL_law_221 (by decide) (V_widen (Nat.add_le_add_left (by decide) _) (Nat.add_le_add_left (by decide) _) (kk (np) (T) S2 ad (by omega) (by omega) hI2 X))
theorem w_L_addStation : MLW RL 120 yL_addStation cL_addStation 4 (some .int) [(0, 9, 12, 13), (0, 9, 15, 18)] 3 := ⟨gin 574 (by decide +kernel) (by decide +kernel), nw_L_addStation, ni_L, by decide +kernel, t_L_addStation⟩
set_option maxHeartbeats 1000000 in
theorem law_c1 {l : Launch} {D : va_G} {cA : Nat → ClassId} {p : Program} {e : Env} {s : State} {m : MethodId} {below : List Frame} {meth : Method} {c : Code} {b L : Nat} {xs : Nat → Int32} {Q : State → Prop} {n np T cells slots : Nat} {S : S4} {ad : Ad} (X : GX D cA (dL np) ad (lwA s) 9 p s m #[Value.ref b] meth c RL cL_law) (hI : LI np T S) (hn : np ≤ n) (hT : T ≤ 200 * n) (hn5 : n < 512) (hZ : gZ (lwA s) s s.heap) (hY : gY (lwA s) s s.heap) (hl : l.stackTraces = false) (hX : va_X b L xs s s.heap) (hbl : b < s.heap.size) (h7 : 7 * n + 7 ≤ L) (hL : L ≤ 3584) (hc : cells + 150 ≤ room_1.cells) (hs : slots + 400 ≤ room_1.slots) (kk : KK l D cA p e s m below meth c b Q n cells slots) : V D cA (dL np) ad (lwA s) 9 p l e room_1 s m #[Value.ref b] below meth c cells slots Q S 224 (lvL ad b (nI (7 * n))) [] := by
  obtain ⟨k, S1, y, S2, e1, e2, g7, g36, hG⟩ := st_addStation (fu := 9601) (p2 := (sx xs n 1)) hI.1 (by omega) (by omega) (by decide)
  have hI2 : LI np (T) S2 := hI.next (fz_L_addStation _ e1) (fr_X7_addStation e2) hG
  refine V_aload_n X dL_law_224 rfl 1 rfl ?_
  refine V_aload_n X dL_law_225 rfl 0 rfl ?_
  refine V_iload X dL_law_226 5 rfl ?_
  refine V_iconst X (1 : Int32) dL_law_228 (by decide) ?_
  refine V_iadd X dL_law_229 ?_
  refine V_sld X hX hbl (lwA_not _ hbl) (in_scr h7 hL (j := 1) (by decide) (by decide)) dL_law_230 ?_
  refine V_aload_n X dL_law_231 rfl 3 rfl ?_
  refine V_callSCs X hZ [.ref (ad 6 0 0), .int (sx xs n 1), .ref (ad 36 0 0)] dL_law_232 w_L_addStation ⟨Nat.le_of_ble_eq_true rfl, Nat.le_of_ble_eq_true rfl⟩ ⟨lrA hc (by decide), lrA hs (by decide)⟩ rfl (Nat.le_of_ble_eq_true rfl) (c_L_addStation dL_K dL36 dL_P hl e1) ?_
  refine V_istore X dL_law_235 ((6, .int k) :: lvL ad b (nI (7 * n))) (by decide) rfl ?_
  refine V_aload_n X dL_law_237 rfl 3 rfl ?_
  refine V_aload_n X dL_law_238 rfl 1 rfl ?_
  refine V_iload X dL_law_239 6 rfl ?_
  refine V_iconst X (1 : Int32) dL_law_241 (by decide) ?_
  refine V_iadd X dL_law_242 ?_
  refine V_sld X hX hbl (lwA_not _ hbl) (in_scr h7 hL (j := 1) (by decide) (by decide)) dL_law_243 ?_
  refine V_callVs X [.int (sx xs n 1)] dL_law_244 m_L_122 v_X7_addStation ⟨Nat.le_of_ble_eq_true rfl, Nat.le_of_ble_eq_true rfl⟩ ⟨lrA hc (by decide), lrA hs (by decide)⟩ rfl (Nat.le_of_ble_eq_true rfl) (gm7 dL_M) rfl cl7 (c_X7_addStation dL_M e2) ?_
  exact law_tail X dL_M dL36 ⟨lrA hc (by decide), lrA hs (by decide)⟩ g7 g36 dL_law_247 dL_law_249 dL_law_250 dL_law_253 dL_law_255 dL_law_260 dL_law_262 dL_law_265 dL_law_266 dL_law_267 dL_law_268 dL_law_270 dL_law_271 dL_law_272 dL_law_277 (by decide) (V_widen (Nat.add_le_add_left (by decide) _) (Nat.add_le_add_left (by decide) _) (kk (np) (T) S2 ad (by omega) (by omega) hI2 X))
theorem w_L_addChute : MLW RL 123 yL_addChute cL_addChute 9 (some .int) [(0, 18, 21, 13), (0, 18, 25, 18)] 8 := ⟨gin 621 (by decide +kernel) (by decide +kernel), nw_L_addChute, ni_L, by decide +kernel, t_L_addChute⟩
set_option maxHeartbeats 1000000 in
theorem law_c2 {l : Launch} {D : va_G} {cA : Nat → ClassId} {p : Program} {e : Env} {s : State} {m : MethodId} {below : List Frame} {meth : Method} {c : Code} {b L : Nat} {xs : Nat → Int32} {Q : State → Prop} {n np T cells slots : Nat} {S : S4} {ad : Ad} (X : GX D cA (dL np) ad (lwA s) 9 p s m #[Value.ref b] meth c RL cL_law) (hI : LI np T S) (hn : np ≤ n) (hT : T ≤ 200 * n) (hn5 : n < 512) (hZ : gZ (lwA s) s s.heap) (hY : gY (lwA s) s s.heap) (hl : l.stackTraces = false) (hX : va_X b L xs s s.heap) (hbl : b < s.heap.size) (h7 : 7 * n + 7 ≤ L) (hL : L ≤ 3584) (hc : cells + 150 ≤ room_1.cells) (hs : slots + 400 ≤ room_1.slots) (kk : KK l D cA p e s m below meth c b Q n cells slots) : V D cA (dL np) ad (lwA s) 9 p l e room_1 s m #[Value.ref b] below meth c cells slots Q S 280 (lvL ad b (nI (7 * n))) [] := by
  obtain ⟨k, S1, y, S2, e1, e2, g7, g36, hG⟩ := st_addChute (fu := 9601) (p2 := (sx xs n 1)) (p3 := (sx xs n 2)) (p4 := (sx xs n 3)) (p5 := (sx xs n 4)) (p6 := (sx xs n 5)) (p7 := (sx xs n 6)) hI.1 (by omega) (by omega) (by decide)
  have hI2 : LI np (T) S2 := hI.next (fz_L_addChute _ e1) (fr_X7_addChute e2) hG
  refine V_aload_n X dL_law_280 rfl 1 rfl ?_
  refine V_aload_n X dL_law_281 rfl 0 rfl ?_
  refine V_iload X dL_law_282 5 rfl ?_
  refine V_iconst X (1 : Int32) dL_law_284 (by decide) ?_
  refine V_iadd X dL_law_285 ?_
  refine V_sld X hX hbl (lwA_not _ hbl) (in_scr h7 hL (j := 1) (by decide) (by decide)) dL_law_286 ?_
  refine V_aload_n X dL_law_287 rfl 0 rfl ?_
  refine V_iload X dL_law_288 5 rfl ?_
  refine V_iconst X (2 : Int32) dL_law_290 (by decide) ?_
  refine V_iadd X dL_law_291 ?_
  refine V_sld X hX hbl (lwA_not _ hbl) (in_scr h7 hL (j := 2) (by decide) (by decide)) dL_law_292 ?_
  refine V_aload_n X dL_law_293 rfl 0 rfl ?_
  refine V_iload X dL_law_294 5 rfl ?_
  refine V_iconst X (3 : Int32) dL_law_296 (by decide) ?_
  refine V_iadd X dL_law_297 ?_
  refine V_sld X hX hbl (lwA_not _ hbl) (in_scr h7 hL (j := 3) (by decide) (by decide)) dL_law_298 ?_
  refine V_aload_n X dL_law_299 rfl 0 rfl ?_
  refine V_iload X dL_law_300 5 rfl ?_
  refine V_iconst X (4 : Int32) dL_law_302 (by decide) ?_
  refine V_iadd X dL_law_303 ?_
  refine V_sld X hX hbl (lwA_not _ hbl) (in_scr h7 hL (j := 4) (by decide) (by decide)) dL_law_304 ?_
  refine V_aload_n X dL_law_305 rfl 0 rfl ?_
  refine V_iload X dL_law_306 5 rfl ?_
  refine V_iconst X (5 : Int32) dL_law_308 (by decide) ?_
  refine V_iadd X dL_law_309 ?_
  refine V_sld X hX hbl (lwA_not _ hbl) (in_scr h7 hL (j := 5) (by decide) (by decide)) dL_law_310 ?_
  refine V_aload_n X dL_law_311 rfl 0 rfl ?_
  refine V_iload X dL_law_312 5 rfl ?_
  refine V_bipush X (6 : Int32) dL_law_314 (by decide) ?_
  refine V_iadd X dL_law_316 ?_
  refine V_sld X hX hbl (lwA_not _ hbl) (in_scr h7 hL (j := 6) (by decide) (by decide)) dL_law_317 ?_
  refine V_aload_n X dL_law_318 rfl 3 rfl ?_
  refine V_callSCs X hZ [.ref (ad 6 0 0), .int (sx xs n 1), .int (sx xs n 2), .int (sx xs n 3), .int (sx xs n 4), .int (sx xs n 5), .int (sx xs n 6), .ref (ad 36 0 0)] dL_law_319 w_L_addChute ⟨Nat.le_of_ble_eq_true rfl, Nat.le_of_ble_eq_true rfl⟩ ⟨lrA hc (by decide), lrA hs (by decide)⟩ rfl (Nat.le_of_ble_eq_true rfl) (c_L_addChute dL_K dL36 dL_P hl e1) ?_
  refine V_istore X dL_law_322 ((6, .int k) :: lvL ad b (nI (7 * n))) (by decide) rfl ?_
  refine V_aload_n X dL_law_324 rfl 3 rfl ?_
  refine V_aload_n X dL_law_325 rfl 1 rfl ?_
  refine V_iload X dL_law_326 6 rfl ?_
  refine V_iconst X (1 : Int32) dL_law_328 (by decide) ?_
  refine V_iadd X dL_law_329 ?_
  refine V_sld X hX hbl (lwA_not _ hbl) (in_scr h7 hL (j := 1) (by decide) (by decide)) dL_law_330 ?_
  refine V_aload_n X dL_law_331 rfl 1 rfl ?_
  refine V_iload X dL_law_332 6 rfl ?_
  refine V_iconst X (2 : Int32) dL_law_334 (by decide) ?_
  refine V_iadd X dL_law_335 ?_
  refine V_sld X hX hbl (lwA_not _ hbl) (in_scr h7 hL (j := 2) (by decide) (by decide)) dL_law_336 ?_
  refine V_aload_n X dL_law_337 rfl 1 rfl ?_
  refine V_iload X dL_law_338 6 rfl ?_
  refine V_iconst X (3 : Int32) dL_law_340 (by decide) ?_
  refine V_iadd X dL_law_341 ?_
  refine V_sld X hX hbl (lwA_not _ hbl) (in_scr h7 hL (j := 3) (by decide) (by decide)) dL_law_342 ?_
  refine V_aload_n X dL_law_343 rfl 1 rfl ?_
  refine V_iload X dL_law_344 6 rfl ?_
  refine V_iconst X (4 : Int32) dL_law_346 (by decide) ?_
  refine V_iadd X dL_law_347 ?_
  refine V_sld X hX hbl (lwA_not _ hbl) (in_scr h7 hL (j := 4) (by decide) (by decide)) dL_law_348 ?_
  refine V_aload_n X dL_law_349 rfl 1 rfl ?_
  refine V_iload X dL_law_350 6 rfl ?_
  refine V_iconst X (5 : Int32) dL_law_352 (by decide) ?_
  refine V_iadd X dL_law_353 ?_
  refine V_sld X hX hbl (lwA_not _ hbl) (in_scr h7 hL (j := 5) (by decide) (by decide)) dL_law_354 ?_
  refine V_aload_n X dL_law_355 rfl 1 rfl ?_
  refine V_iload X dL_law_356 6 rfl ?_
  refine V_bipush X (6 : Int32) dL_law_358 (by decide) ?_
  refine V_iadd X dL_law_360 ?_
  refine V_sld X hX hbl (lwA_not _ hbl) (in_scr h7 hL (j := 6) (by decide) (by decide)) dL_law_361 ?_
  refine V_callVs X [.int (sx xs n 1), .int (sx xs n 2), .int (sx xs n 3), .int (sx xs n 4), .int (sx xs n 5), .int (sx xs n 6)] dL_law_362 m_L_126 v_X7_addChute ⟨Nat.le_of_ble_eq_true rfl, Nat.le_of_ble_eq_true rfl⟩ ⟨lrA hc (by decide), lrA hs (by decide)⟩ rfl (Nat.le_of_ble_eq_true rfl) (gm7 dL_M) rfl cl7 (c_X7_addChute dL_M e2) ?_
  exact law_tail X dL_M dL36 ⟨lrA hc (by decide), lrA hs (by decide)⟩ g7 g36 dL_law_365 dL_law_367 dL_law_368 dL_law_371 dL_law_373 dL_law_378 dL_law_380 dL_law_383 dL_law_384 dL_law_385 dL_law_386 dL_law_388 dL_law_389 dL_law_390 dL_law_395 (by decide) (V_widen (Nat.add_le_add_left (by decide) _) (Nat.add_le_add_left (by decide) _) (kk (np) (T) S2 ad (by omega) (by omega) hI2 X))
theorem w_L_feed : MLW RL 127 yL_feed cL_feed 4 (some .int) [(0, 9, 12, 18)] 3 := ⟨gin 639 (by decide +kernel) (by decide +kernel), nw_L_feed, ni_L, by decide +kernel, t_L_feed⟩
set_option maxHeartbeats 1000000 in
theorem law_c3 {l : Launch} {D : va_G} {cA : Nat → ClassId} {p : Program} {e : Env} {s : State} {m : MethodId} {below : List Frame} {meth : Method} {c : Code} {b L : Nat} {xs : Nat → Int32} {Q : State → Prop} {n np T cells slots : Nat} {S : S4} {ad : Ad} (X : GX D cA (dL np) ad (lwA s) 9 p s m #[Value.ref b] meth c RL cL_law) (hI : LI np T S) (hn : np ≤ n) (hT : T ≤ 200 * n) (hn5 : n < 512) (hZ : gZ (lwA s) s s.heap) (hY : gY (lwA s) s s.heap) (hl : l.stackTraces = false) (hX : va_X b L xs s s.heap) (hbl : b < s.heap.size) (h7 : 7 * n + 7 ≤ L) (hL : L ≤ 3584) (hc : cells + 150 ≤ room_1.cells) (hs : slots + 400 ≤ room_1.slots) (kk : KK l D cA p e s m below meth c b Q n cells slots) : V D cA (dL np) ad (lwA s) 9 p l e room_1 s m #[Value.ref b] below meth c cells slots Q S 398 (lvL ad b (nI (7 * n))) [] := by
  obtain ⟨k, S1, y, S2, e1, e2, g7, g36, hG⟩ := st_feed (fu := 9601) (p2 := ((sx xs n 1).toUInt32 % 65536).toInt32) hI.1 (by omega) (by omega) (by decide)
  have hI2 : LI np (T) S2 := hI.next (fz_L_feed _ e1) (fr_X7_feed e2) hG
  refine V_aload_n X dL_law_398 rfl 1 rfl ?_
  refine V_aload_n X dL_law_399 rfl 0 rfl ?_
  refine V_iload X dL_law_400 5 rfl ?_
  refine V_iconst X (1 : Int32) dL_law_402 (by decide) ?_
  refine V_iadd X dL_law_403 ?_
  refine V_sld X hX hbl (lwA_not _ hbl) (in_scr h7 hL (j := 1) (by decide) (by decide)) dL_law_404 ?_
  refine V_i2c X dL_law_405 ?_
  refine V_aload_n X dL_law_406 rfl 3 rfl ?_
  refine V_callSCs X hZ [.ref (ad 6 0 0), .int ((sx xs n 1).toUInt32 % 65536).toInt32, .ref (ad 36 0 0)] dL_law_407 w_L_feed ⟨Nat.le_of_ble_eq_true rfl, Nat.le_of_ble_eq_true rfl⟩ ⟨lrA hc (by decide), lrA hs (by decide)⟩ rfl (Nat.le_of_ble_eq_true rfl) (c_L_feed dL_K dL36 hl e1) ?_
  refine V_istore X dL_law_410 ((6, .int k) :: lvL ad b (nI (7 * n))) (by decide) rfl ?_
  refine V_aload_n X dL_law_412 rfl 3 rfl ?_
  refine V_aload_n X dL_law_413 rfl 1 rfl ?_
  refine V_iload X dL_law_414 6 rfl ?_
  refine V_iconst X (1 : Int32) dL_law_416 (by decide) ?_
  refine V_iadd X dL_law_417 ?_
  refine V_sld X hX hbl (lwA_not _ hbl) (in_scr h7 hL (j := 1) (by decide) (by decide)) dL_law_418 ?_
  refine V_i2c X dL_law_419 ?_
  refine V_callVs X [.int ((sx xs n 1).toUInt32 % 65536).toInt32] dL_law_420 m_L_130 v_X7_feed ⟨Nat.le_of_ble_eq_true rfl, Nat.le_of_ble_eq_true rfl⟩ ⟨lrA hc (by decide), lrA hs (by decide)⟩ rfl (Nat.le_of_ble_eq_true rfl) (gm7 dL_M) rfl cl7 (c_X7_feed dL_M e2) ?_
  exact law_tail X dL_M dL36 ⟨lrA hc (by decide), lrA hs (by decide)⟩ g7 g36 dL_law_423 dL_law_425 dL_law_426 dL_law_429 dL_law_431 dL_law_436 dL_law_438 dL_law_441 dL_law_442 dL_law_443 dL_law_444 dL_law_446 dL_law_447 dL_law_448 dL_law_453 (by decide) (V_widen (Nat.add_le_add_left (by decide) _) (Nat.add_le_add_left (by decide) _) (kk (np) (T) S2 ad (by omega) (by omega) hI2 X))
theorem w_L_addPlan : MLW RL 131 yL_addPlan cL_addPlan 3 (some .int) [(0, 8, 11, 32), (0, 8, 14, 18)] 2 := ⟨gin 647 (by decide +kernel) (by decide +kernel), nw_L_addPlan, ni_L, by decide +kernel, t_L_addPlan⟩
set_option maxHeartbeats 1000000 in
theorem law_c4 {l : Launch} {D : va_G} {cA : Nat → ClassId} {p : Program} {e : Env} {s : State} {m : MethodId} {below : List Frame} {meth : Method} {c : Code} {b L : Nat} {xs : Nat → Int32} {Q : State → Prop} {n np T cells slots : Nat} {S : S4} {ad : Ad} (X : GX D cA (dL np) ad (lwA s) 9 p s m #[Value.ref b] meth c RL cL_law) (hI : LI np T S) (hn : np ≤ n) (hT : T ≤ 200 * n) (hn5 : n < 512) (hZ : gZ (lwA s) s s.heap) (hY : gY (lwA s) s s.heap) (hl : l.stackTraces = false) (hX : va_X b L xs s s.heap) (hbl : b < s.heap.size) (h7 : 7 * n + 7 ≤ L) (hL : L ≤ 3584) (hc : cells + 150 ≤ room_1.cells) (hs : slots + 400 ≤ room_1.slots) (kk : KK l D cA p e s m below meth c b Q n cells slots) : V D cA (dL np) ad (lwA s) 9 p l e room_1 s m #[Value.ref b] below meth c cells slots Q S 456 (lvL ad b (nI (7 * n))) [] := by
  obtain ⟨k, S1, y, S2, e1, e2, g7, g36, hI2⟩ := li_addPlan (fu := 9601) hI (by omega) (by decide)
  refine V_aload_n X dL_law_456 rfl 1 rfl ?_
  refine V_aload_n X dL_law_457 rfl 3 rfl ?_
  refine V_callSCJs X hZ hY [.ref (ad 6 0 0), .ref (ad 36 0 0)] dL_law_458 w_L_addPlan ⟨Nat.le_of_ble_eq_true rfl, Nat.le_of_ble_eq_true rfl⟩ ⟨lrA hc (by decide), lrA hs (by decide)⟩ rfl (Nat.le_of_ble_eq_true rfl) (c_L_addPlan dL_K dL_P dL_Fr (fun t i j _ z => Nat.lt_irrefl _ (hI.2.1 t i j _ z)) dL36 hl e1) (fun ad2 hag X2 => ?_)
  rw [← lvL_ag hag]
  refine V_dom X2 (dm' := dL (np + 1)) (S' := S1) (fun k t x h => ⟨dL_up h, rfl⟩) (fun X3 => ?_)
  refine V_istore X3 dL_law_461 ((6, .int k) :: lvL ad2 b (nI (7 * n))) (by decide) rfl ?_
  refine V_aload_n X3 dL_law_463 rfl 3 rfl ?_
  refine V_callVs X3 [] dL_law_464 m_L_134 v_X7_addPlan ⟨Nat.le_of_ble_eq_true rfl, Nat.le_of_ble_eq_true rfl⟩ ⟨lrA hc (by decide), lrA hs (by decide)⟩ rfl (Nat.le_of_ble_eq_true rfl) (gm7 dL_M) rfl cl7 (c_X7_addPlan dL_M e2) ?_
  exact law_tail X3 dL_M dL36 ⟨lrA hc (by decide), lrA hs (by decide)⟩ g7 g36 dL_law_467 dL_law_469 dL_law_470 dL_law_473 dL_law_475 dL_law_480 dL_law_482 dL_law_485 dL_law_486 dL_law_487 dL_law_488 dL_law_490 dL_law_491 dL_law_492 dL_law_497 (by decide) (V_widen (Nat.add_le_add_left (by decide) _) (Nat.add_le_add_left (by decide) _) (kk (np + 1) (T) S2 ad2 (by omega) (by omega) hI2 X3))
theorem w_L_plan : MLW RL 135 yL_plan cL_plan 5 (some .int) [(0, 10, 13, 38), (0, 10, 17, 13)] 4 := ⟨gin 811 (by decide +kernel) (by decide +kernel), nw_L_plan, ni_L, by decide +kernel, t_L_plan⟩
set_option maxHeartbeats 1000000 in
theorem law_c5 {l : Launch} {D : va_G} {cA : Nat → ClassId} {p : Program} {e : Env} {s : State} {m : MethodId} {below : List Frame} {meth : Method} {c : Code} {b L : Nat} {xs : Nat → Int32} {Q : State → Prop} {n np T cells slots : Nat} {S : S4} {ad : Ad} (X : GX D cA (dL np) ad (lwA s) 9 p s m #[Value.ref b] meth c RL cL_law) (hI : LI np T S) (hn : np ≤ n) (hT : T ≤ 200 * n) (hn5 : n < 512) (hZ : gZ (lwA s) s s.heap) (hY : gY (lwA s) s s.heap) (hl : l.stackTraces = false) (hX : va_X b L xs s s.heap) (hbl : b < s.heap.size) (h7 : 7 * n + 7 ≤ L) (hL : L ≤ 3584) (hc : cells + 150 ≤ room_1.cells) (hs : slots + 400 ≤ room_1.slots) (kk : KK l D cA p e s m below meth c b Q n cells slots) : V D cA (dL np) ad (lwA s) 9 p l e room_1 s m #[Value.ref b] below meth c cells slots Q S 500 (lvL ad b (nI (7 * n))) [] := by
  obtain ⟨k, S1, y, S2, e1, e2, g7, g36, hG⟩ := st_plan (fu := 9601) (p2 := (sx xs n 1)) (p3 := (sx xs n 2)) hI.1 (by omega) (by omega) (by decide)
  have hI2 : LI np (T) S2 := hI.next (fz_L_plan _ e1) (fr_X7_plan e2) hG
  refine V_aload_n X dL_law_500 rfl 1 rfl ?_
  refine V_aload_n X dL_law_501 rfl 0 rfl ?_
  refine V_iload X dL_law_502 5 rfl ?_
  refine V_iconst X (1 : Int32) dL_law_504 (by decide) ?_
  refine V_iadd X dL_law_505 ?_
  refine V_sld X hX hbl (lwA_not _ hbl) (in_scr h7 hL (j := 1) (by decide) (by decide)) dL_law_506 ?_
  refine V_aload_n X dL_law_507 rfl 0 rfl ?_
  refine V_iload X dL_law_508 5 rfl ?_
  refine V_iconst X (2 : Int32) dL_law_510 (by decide) ?_
  refine V_iadd X dL_law_511 ?_
  refine V_sld X hX hbl (lwA_not _ hbl) (in_scr h7 hL (j := 2) (by decide) (by decide)) dL_law_512 ?_
  refine V_aload_n X dL_law_513 rfl 3 rfl ?_
  refine V_callSCs X hZ [.ref (ad 6 0 0), .int (sx xs n 1), .int (sx xs n 2), .ref (ad 36 0 0)] dL_law_514 w_L_plan ⟨Nat.le_of_ble_eq_true rfl, Nat.le_of_ble_eq_true rfl⟩ ⟨lrA hc (by decide), lrA hs (by decide)⟩ rfl (Nat.le_of_ble_eq_true rfl) (c_L_plan dL_K dL36 dL_P hl e1) ?_
  refine V_istore X dL_law_517 ((6, .int k) :: lvL ad b (nI (7 * n))) (by decide) rfl ?_
  refine V_aload_n X dL_law_519 rfl 3 rfl ?_
  refine V_aload_n X dL_law_520 rfl 1 rfl ?_
  refine V_iload X dL_law_521 6 rfl ?_
  refine V_iconst X (1 : Int32) dL_law_523 (by decide) ?_
  refine V_iadd X dL_law_524 ?_
  refine V_sld X hX hbl (lwA_not _ hbl) (in_scr h7 hL (j := 1) (by decide) (by decide)) dL_law_525 ?_
  refine V_aload_n X dL_law_526 rfl 1 rfl ?_
  refine V_iload X dL_law_527 6 rfl ?_
  refine V_iconst X (2 : Int32) dL_law_529 (by decide) ?_
  refine V_iadd X dL_law_530 ?_
  refine V_sld X hX hbl (lwA_not _ hbl) (in_scr h7 hL (j := 2) (by decide) (by decide)) dL_law_531 ?_
  refine V_callVs X [.int (sx xs n 1), .int (sx xs n 2)] dL_law_532 m_L_138 v_X7_plan ⟨Nat.le_of_ble_eq_true rfl, Nat.le_of_ble_eq_true rfl⟩ ⟨lrA hc (by decide), lrA hs (by decide)⟩ rfl (Nat.le_of_ble_eq_true rfl) (gm7 dL_M) rfl cl7 (c_X7_plan dL_M e2) ?_
  exact law_tail X dL_M dL36 ⟨lrA hc (by decide), lrA hs (by decide)⟩ g7 g36 dL_law_535 dL_law_537 dL_law_538 dL_law_541 dL_law_543 dL_law_548 dL_law_550 dL_law_553 dL_law_554 dL_law_555 dL_law_556 dL_law_558 dL_law_559 dL_law_560 dL_law_565 (by decide) (V_widen (Nat.add_le_add_left (by decide) _) (Nat.add_le_add_left (by decide) _) (kk (np) (T) S2 ad (by omega) (by omega) hI2 X))
theorem w_L_route : MLW RL 139 yL_route cL_route 6 (some .int) [(0, 12, 15, 13), (0, 12, 19, 18), (0, 12, 23, 44)] 5 := ⟨gin 871 (by decide +kernel) (by decide +kernel), nw_L_route, ni_L, by decide +kernel, t_L_route⟩
set_option maxHeartbeats 1000000 in
theorem law_c6 {l : Launch} {D : va_G} {cA : Nat → ClassId} {p : Program} {e : Env} {s : State} {m : MethodId} {below : List Frame} {meth : Method} {c : Code} {b L : Nat} {xs : Nat → Int32} {Q : State → Prop} {n np T cells slots : Nat} {S : S4} {ad : Ad} (X : GX D cA (dL np) ad (lwA s) 9 p s m #[Value.ref b] meth c RL cL_law) (hI : LI np T S) (hn : np ≤ n) (hT : T ≤ 200 * n) (hn5 : n < 512) (hZ : gZ (lwA s) s s.heap) (hY : gY (lwA s) s s.heap) (hl : l.stackTraces = false) (hX : va_X b L xs s s.heap) (hbl : b < s.heap.size) (h7 : 7 * n + 7 ≤ L) (hL : L ≤ 3584) (hc : cells + 150 ≤ room_1.cells) (hs : slots + 400 ≤ room_1.slots) (kk : KK l D cA p e s m below meth c b Q n cells slots) : V D cA (dL np) ad (lwA s) 9 p l e room_1 s m #[Value.ref b] below meth c cells slots Q S 568 (lvL ad b (nI (7 * n))) [] := by
  obtain ⟨k, S1, y, S2, e1, e2, g7, g36, hG⟩ := st_route (fu := 9601) (p2 := (sx xs n 1)) (p3 := (sx xs n 2)) (p4 := (sx xs n 3)) hI.1 (by omega) (by omega) (by decide)
  have hI2 : LI np (T) S2 := hI.next (fz_L_route _ e1) (fr_X7_route e2) hG
  refine V_aload_n X dL_law_568 rfl 1 rfl ?_
  refine V_aload_n X dL_law_569 rfl 0 rfl ?_
  refine V_iload X dL_law_570 5 rfl ?_
  refine V_iconst X (1 : Int32) dL_law_572 (by decide) ?_
  refine V_iadd X dL_law_573 ?_
  refine V_sld X hX hbl (lwA_not _ hbl) (in_scr h7 hL (j := 1) (by decide) (by decide)) dL_law_574 ?_
  refine V_aload_n X dL_law_575 rfl 0 rfl ?_
  refine V_iload X dL_law_576 5 rfl ?_
  refine V_iconst X (2 : Int32) dL_law_578 (by decide) ?_
  refine V_iadd X dL_law_579 ?_
  refine V_sld X hX hbl (lwA_not _ hbl) (in_scr h7 hL (j := 2) (by decide) (by decide)) dL_law_580 ?_
  refine V_aload_n X dL_law_581 rfl 0 rfl ?_
  refine V_iload X dL_law_582 5 rfl ?_
  refine V_iconst X (3 : Int32) dL_law_584 (by decide) ?_
  refine V_iadd X dL_law_585 ?_
  refine V_sld X hX hbl (lwA_not _ hbl) (in_scr h7 hL (j := 3) (by decide) (by decide)) dL_law_586 ?_
  refine V_aload_n X dL_law_587 rfl 3 rfl ?_
  refine V_callSCs X hZ [.ref (ad 6 0 0), .int (sx xs n 1), .int (sx xs n 2), .int (sx xs n 3), .ref (ad 36 0 0)] dL_law_588 w_L_route ⟨Nat.le_of_ble_eq_true rfl, Nat.le_of_ble_eq_true rfl⟩ ⟨lrA hc (by decide), lrA hs (by decide)⟩ rfl (Nat.le_of_ble_eq_true rfl) (c_L_route dL_K dL36 dL_P hl e1) ?_
  refine V_istore X dL_law_591 ((6, .int k) :: lvL ad b (nI (7 * n))) (by decide) rfl ?_
  refine V_aload_n X dL_law_593 rfl 3 rfl ?_
  refine V_aload_n X dL_law_594 rfl 1 rfl ?_
  refine V_iload X dL_law_595 6 rfl ?_
  refine V_iconst X (1 : Int32) dL_law_597 (by decide) ?_
  refine V_iadd X dL_law_598 ?_
  refine V_sld X hX hbl (lwA_not _ hbl) (in_scr h7 hL (j := 1) (by decide) (by decide)) dL_law_599 ?_
  refine V_aload_n X dL_law_600 rfl 1 rfl ?_
  refine V_iload X dL_law_601 6 rfl ?_
  refine V_iconst X (2 : Int32) dL_law_603 (by decide) ?_
  refine V_iadd X dL_law_604 ?_
  refine V_sld X hX hbl (lwA_not _ hbl) (in_scr h7 hL (j := 2) (by decide) (by decide)) dL_law_605 ?_
  refine V_aload_n X dL_law_606 rfl 1 rfl ?_
  refine V_iload X dL_law_607 6 rfl ?_
  refine V_iconst X (3 : Int32) dL_law_609 (by decide) ?_
  refine V_iadd X dL_law_610 ?_
  refine V_sld X hX hbl (lwA_not _ hbl) (in_scr h7 hL (j := 3) (by decide) (by decide)) dL_law_611 ?_
  refine V_callVs X [.int (sx xs n 1), .int (sx xs n 2), .int (sx xs n 3)] dL_law_612 m_L_142 v_X7_route ⟨Nat.le_of_ble_eq_true rfl, Nat.le_of_ble_eq_true rfl⟩ ⟨lrA hc (by decide), lrA hs (by decide)⟩ rfl (Nat.le_of_ble_eq_true rfl) (gm7 dL_M) rfl cl7 (c_X7_route dL_M e2) ?_
  exact law_tail X dL_M dL36 ⟨lrA hc (by decide), lrA hs (by decide)⟩ g7 g36 dL_law_615 dL_law_617 dL_law_618 dL_law_621 dL_law_623 dL_law_628 dL_law_630 dL_law_633 dL_law_634 dL_law_635 dL_law_636 dL_law_638 dL_law_639 dL_law_640 dL_law_645 (by decide) (V_widen (Nat.add_le_add_left (by decide) _) (Nat.add_le_add_left (by decide) _) (kk (np) (T) S2 ad (by omega) (by omega) hI2 X))
theorem w_L_arrive : MLW RL 143 yL_arrive cL_arrive 7 (some .int) [(0, 14, 17, 38), (0, 14, 21, 13), (0, 14, 25, 18)] 6 := ⟨gin 900 (by decide +kernel) (by decide +kernel), nw_L_arrive, ni_L, by decide +kernel, t_L_arrive⟩
set_option maxHeartbeats 1000000 in
theorem law_c7 {l : Launch} {D : va_G} {cA : Nat → ClassId} {p : Program} {e : Env} {s : State} {m : MethodId} {below : List Frame} {meth : Method} {c : Code} {b L : Nat} {xs : Nat → Int32} {Q : State → Prop} {n np T cells slots : Nat} {S : S4} {ad : Ad} (X : GX D cA (dL np) ad (lwA s) 9 p s m #[Value.ref b] meth c RL cL_law) (hI : LI np T S) (hn : np ≤ n) (hT : T ≤ 200 * n) (hn5 : n < 512) (hZ : gZ (lwA s) s s.heap) (hY : gY (lwA s) s s.heap) (hl : l.stackTraces = false) (hX : va_X b L xs s s.heap) (hbl : b < s.heap.size) (h7 : 7 * n + 7 ≤ L) (hL : L ≤ 3584) (hc : cells + 150 ≤ room_1.cells) (hs : slots + 400 ≤ room_1.slots) (kk : KK l D cA p e s m below meth c b Q n cells slots) : V D cA (dL np) ad (lwA s) 9 p l e room_1 s m #[Value.ref b] below meth c cells slots Q S 648 (lvL ad b (nI (7 * n))) [] := by
  obtain ⟨k, S1, y, S2, e1, e2, g7, g36, hG⟩ := st_arrive (fu := 9601) (p2 := (sx xs n 1)) (p3 := (sx xs n 2)) (p4 := (sx xs n 3)) (p5 := (sx xs n 4)) hI.1 (by omega) (by omega) (by decide)
  have hI2 : LI np (T) S2 := hI.next (fz_L_arrive _ e1) (fr_X7_arrive e2) hG
  refine V_aload_n X dL_law_648 rfl 1 rfl ?_
  refine V_aload_n X dL_law_649 rfl 0 rfl ?_
  refine V_iload X dL_law_650 5 rfl ?_
  refine V_iconst X (1 : Int32) dL_law_652 (by decide) ?_
  refine V_iadd X dL_law_653 ?_
  refine V_sld X hX hbl (lwA_not _ hbl) (in_scr h7 hL (j := 1) (by decide) (by decide)) dL_law_654 ?_
  refine V_aload_n X dL_law_655 rfl 0 rfl ?_
  refine V_iload X dL_law_656 5 rfl ?_
  refine V_iconst X (2 : Int32) dL_law_658 (by decide) ?_
  refine V_iadd X dL_law_659 ?_
  refine V_sld X hX hbl (lwA_not _ hbl) (in_scr h7 hL (j := 2) (by decide) (by decide)) dL_law_660 ?_
  refine V_aload_n X dL_law_661 rfl 0 rfl ?_
  refine V_iload X dL_law_662 5 rfl ?_
  refine V_iconst X (3 : Int32) dL_law_664 (by decide) ?_
  refine V_iadd X dL_law_665 ?_
  refine V_sld X hX hbl (lwA_not _ hbl) (in_scr h7 hL (j := 3) (by decide) (by decide)) dL_law_666 ?_
  refine V_aload_n X dL_law_667 rfl 0 rfl ?_
  refine V_iload X dL_law_668 5 rfl ?_
  refine V_iconst X (4 : Int32) dL_law_670 (by decide) ?_
  refine V_iadd X dL_law_671 ?_
  refine V_sld X hX hbl (lwA_not _ hbl) (in_scr h7 hL (j := 4) (by decide) (by decide)) dL_law_672 ?_
  refine V_aload_n X dL_law_673 rfl 3 rfl ?_
  refine V_callSCs X hZ [.ref (ad 6 0 0), .int (sx xs n 1), .int (sx xs n 2), .int (sx xs n 3), .int (sx xs n 4), .ref (ad 36 0 0)] dL_law_674 w_L_arrive ⟨Nat.le_of_ble_eq_true rfl, Nat.le_of_ble_eq_true rfl⟩ ⟨lrA hc (by decide), lrA hs (by decide)⟩ rfl (Nat.le_of_ble_eq_true rfl) (c_L_arrive dL_K dL36 dL_P hl e1) ?_
  refine V_istore X dL_law_677 ((6, .int k) :: lvL ad b (nI (7 * n))) (by decide) rfl ?_
  refine V_aload_n X dL_law_679 rfl 3 rfl ?_
  refine V_aload_n X dL_law_680 rfl 1 rfl ?_
  refine V_iload X dL_law_681 6 rfl ?_
  refine V_iconst X (1 : Int32) dL_law_683 (by decide) ?_
  refine V_iadd X dL_law_684 ?_
  refine V_sld X hX hbl (lwA_not _ hbl) (in_scr h7 hL (j := 1) (by decide) (by decide)) dL_law_685 ?_
  refine V_aload_n X dL_law_686 rfl 1 rfl ?_
  refine V_iload X dL_law_687 6 rfl ?_
  refine V_iconst X (2 : Int32) dL_law_689 (by decide) ?_
  refine V_iadd X dL_law_690 ?_
  refine V_sld X hX hbl (lwA_not _ hbl) (in_scr h7 hL (j := 2) (by decide) (by decide)) dL_law_691 ?_
  refine V_aload_n X dL_law_692 rfl 1 rfl ?_
  refine V_iload X dL_law_693 6 rfl ?_
  refine V_iconst X (3 : Int32) dL_law_695 (by decide) ?_
  refine V_iadd X dL_law_696 ?_
  refine V_sld X hX hbl (lwA_not _ hbl) (in_scr h7 hL (j := 3) (by decide) (by decide)) dL_law_697 ?_
  refine V_aload_n X dL_law_698 rfl 1 rfl ?_
  refine V_iload X dL_law_699 6 rfl ?_
  refine V_iconst X (4 : Int32) dL_law_701 (by decide) ?_
  refine V_iadd X dL_law_702 ?_
  refine V_sld X hX hbl (lwA_not _ hbl) (in_scr h7 hL (j := 4) (by decide) (by decide)) dL_law_703 ?_
  refine V_callVs X [.int (sx xs n 1), .int (sx xs n 2), .int (sx xs n 3), .int (sx xs n 4)] dL_law_704 m_L_146 v_X7_arrive ⟨Nat.le_of_ble_eq_true rfl, Nat.le_of_ble_eq_true rfl⟩ ⟨lrA hc (by decide), lrA hs (by decide)⟩ rfl (Nat.le_of_ble_eq_true rfl) (gm7 dL_M) rfl cl7 (c_X7_arrive dL_M e2) ?_
  exact law_tail X dL_M dL36 ⟨lrA hc (by decide), lrA hs (by decide)⟩ g7 g36 dL_law_707 dL_law_709 dL_law_710 dL_law_713 dL_law_715 dL_law_720 dL_law_722 dL_law_725 dL_law_726 dL_law_727 dL_law_728 dL_law_730 dL_law_731 dL_law_732 dL_law_737 (by decide) (V_widen (Nat.add_le_add_left (by decide) _) (Nat.add_le_add_left (by decide) _) (kk (np) (T) S2 ad (by omega) (by omega) hI2 X))
theorem w_L_find : MLW RL 147 yL_find cL_find 5 (some .int) [(0, 10, 13, 44)] 4 := ⟨gin 925 (by decide +kernel) (by decide +kernel), nw_L_find, ni_L, by decide +kernel, t_L_find⟩
set_option maxHeartbeats 1000000 in
theorem law_c8 {l : Launch} {D : va_G} {cA : Nat → ClassId} {p : Program} {e : Env} {s : State} {m : MethodId} {below : List Frame} {meth : Method} {c : Code} {b L : Nat} {xs : Nat → Int32} {Q : State → Prop} {n np T cells slots : Nat} {S : S4} {ad : Ad} (X : GX D cA (dL np) ad (lwA s) 9 p s m #[Value.ref b] meth c RL cL_law) (hI : LI np T S) (hn : np ≤ n) (hT : T ≤ 200 * n) (hn5 : n < 512) (hZ : gZ (lwA s) s s.heap) (hY : gY (lwA s) s s.heap) (hl : l.stackTraces = false) (hX : va_X b L xs s s.heap) (hbl : b < s.heap.size) (h7 : 7 * n + 7 ≤ L) (hL : L ≤ 3584) (hc : cells + 150 ≤ room_1.cells) (hs : slots + 400 ≤ room_1.slots) (kk : KK l D cA p e s m below meth c b Q n cells slots) : V D cA (dL np) ad (lwA s) 9 p l e room_1 s m #[Value.ref b] below meth c cells slots Q S 740 (lvL ad b (nI (7 * n))) [] := by
  obtain ⟨k, S1, y, S2, e1, e2, g7, g36, hG⟩ := st_find (fu := 9601) (p2 := (sx xs n 1)) (p3 := (sx xs n 2)) hI.1 (by omega) (by omega) (by decide)
  have hI2 : LI np (T) S2 := hI.next (fz_L_find _ e1) (fr_X7_find e2) hG
  refine V_aload_n X dL_law_740 rfl 1 rfl ?_
  refine V_aload_n X dL_law_741 rfl 0 rfl ?_
  refine V_iload X dL_law_742 5 rfl ?_
  refine V_iconst X (1 : Int32) dL_law_744 (by decide) ?_
  refine V_iadd X dL_law_745 ?_
  refine V_sld X hX hbl (lwA_not _ hbl) (in_scr h7 hL (j := 1) (by decide) (by decide)) dL_law_746 ?_
  refine V_aload_n X dL_law_747 rfl 0 rfl ?_
  refine V_iload X dL_law_748 5 rfl ?_
  refine V_iconst X (2 : Int32) dL_law_750 (by decide) ?_
  refine V_iadd X dL_law_751 ?_
  refine V_sld X hX hbl (lwA_not _ hbl) (in_scr h7 hL (j := 2) (by decide) (by decide)) dL_law_752 ?_
  refine V_aload_n X dL_law_753 rfl 3 rfl ?_
  refine V_callSCs X hZ [.ref (ad 6 0 0), .int (sx xs n 1), .int (sx xs n 2), .ref (ad 36 0 0)] dL_law_754 w_L_find ⟨Nat.le_of_ble_eq_true rfl, Nat.le_of_ble_eq_true rfl⟩ ⟨lrA hc (by decide), lrA hs (by decide)⟩ rfl (Nat.le_of_ble_eq_true rfl) (c_L_find dL_K dL36 hl e1) ?_
  refine V_istore X dL_law_757 ((6, .int k) :: lvL ad b (nI (7 * n))) (by decide) rfl ?_
  refine V_aload_n X dL_law_759 rfl 3 rfl ?_
  refine V_aload_n X dL_law_760 rfl 1 rfl ?_
  refine V_iload X dL_law_761 6 rfl ?_
  refine V_iconst X (1 : Int32) dL_law_763 (by decide) ?_
  refine V_iadd X dL_law_764 ?_
  refine V_sld X hX hbl (lwA_not _ hbl) (in_scr h7 hL (j := 1) (by decide) (by decide)) dL_law_765 ?_
  refine V_aload_n X dL_law_766 rfl 1 rfl ?_
  refine V_iload X dL_law_767 6 rfl ?_
  refine V_iconst X (2 : Int32) dL_law_769 (by decide) ?_
  refine V_iadd X dL_law_770 ?_
  refine V_sld X hX hbl (lwA_not _ hbl) (in_scr h7 hL (j := 2) (by decide) (by decide)) dL_law_771 ?_
  refine V_callVs X [.int (sx xs n 1), .int (sx xs n 2)] dL_law_772 m_L_149 v_X7_find ⟨Nat.le_of_ble_eq_true rfl, Nat.le_of_ble_eq_true rfl⟩ ⟨lrA hc (by decide), lrA hs (by decide)⟩ rfl (Nat.le_of_ble_eq_true rfl) (gm7 dL_M) rfl cl7 (c_X7_find dL_M e2) ?_
  exact law_tail X dL_M dL36 ⟨lrA hc (by decide), lrA hs (by decide)⟩ g7 g36 dL_law_775 dL_law_777 dL_law_778 dL_law_781 dL_law_783 dL_law_788 dL_law_790 dL_law_793 dL_law_794 dL_law_795 dL_law_796 dL_law_798 dL_law_799 dL_law_800 dL_law_805 (by decide) (V_widen (Nat.add_le_add_left (by decide) _) (Nat.add_le_add_left (by decide) _) (kk (np) (T) S2 ad (by omega) (by omega) hI2 X))
theorem w_L_parcel : MLW RL 150 yL_parcel cL_parcel 5 (some .int) [(0, 10, 13, 38), (0, 10, 17, 13)] 4 := ⟨gin 933 (by decide +kernel) (by decide +kernel), nw_L_parcel, ni_L, by decide +kernel, t_L_parcel⟩
set_option maxHeartbeats 1000000 in
theorem law_c9 {l : Launch} {D : va_G} {cA : Nat → ClassId} {p : Program} {e : Env} {s : State} {m : MethodId} {below : List Frame} {meth : Method} {c : Code} {b L : Nat} {xs : Nat → Int32} {Q : State → Prop} {n np T cells slots : Nat} {S : S4} {ad : Ad} (X : GX D cA (dL np) ad (lwA s) 9 p s m #[Value.ref b] meth c RL cL_law) (hI : LI np T S) (hn : np ≤ n) (hT : T ≤ 200 * n) (hn5 : n < 512) (hZ : gZ (lwA s) s s.heap) (hY : gY (lwA s) s s.heap) (hl : l.stackTraces = false) (hX : va_X b L xs s s.heap) (hbl : b < s.heap.size) (h7 : 7 * n + 7 ≤ L) (hL : L ≤ 3584) (hc : cells + 150 ≤ room_1.cells) (hs : slots + 400 ≤ room_1.slots) (kk : KK l D cA p e s m below meth c b Q n cells slots) : V D cA (dL np) ad (lwA s) 9 p l e room_1 s m #[Value.ref b] below meth c cells slots Q S 808 (lvL ad b (nI (7 * n))) [] := by
  obtain ⟨k, S1, y, S2, e1, e2, g7, g36, hG⟩ := st_parcel (fu := 9601) (p2 := (sx xs n 1)) (p3 := (sx xs n 2)) hI.1 (by omega) (by omega) (by decide)
  have hI2 : LI np (T) S2 := hI.next (fz_L_parcel _ e1) (fr_X7_parcel e2) hG
  refine V_aload_n X dL_law_808 rfl 1 rfl ?_
  refine V_aload_n X dL_law_809 rfl 0 rfl ?_
  refine V_iload X dL_law_810 5 rfl ?_
  refine V_iconst X (1 : Int32) dL_law_812 (by decide) ?_
  refine V_iadd X dL_law_813 ?_
  refine V_sld X hX hbl (lwA_not _ hbl) (in_scr h7 hL (j := 1) (by decide) (by decide)) dL_law_814 ?_
  refine V_aload_n X dL_law_815 rfl 0 rfl ?_
  refine V_iload X dL_law_816 5 rfl ?_
  refine V_iconst X (2 : Int32) dL_law_818 (by decide) ?_
  refine V_iadd X dL_law_819 ?_
  refine V_sld X hX hbl (lwA_not _ hbl) (in_scr h7 hL (j := 2) (by decide) (by decide)) dL_law_820 ?_
  refine V_aload_n X dL_law_821 rfl 3 rfl ?_
  refine V_callSCs X hZ [.ref (ad 6 0 0), .int (sx xs n 1), .int (sx xs n 2), .ref (ad 36 0 0)] dL_law_822 w_L_parcel ⟨Nat.le_of_ble_eq_true rfl, Nat.le_of_ble_eq_true rfl⟩ ⟨lrA hc (by decide), lrA hs (by decide)⟩ rfl (Nat.le_of_ble_eq_true rfl) (c_L_parcel dL_K dL36 hl e1) ?_
  refine V_istore X dL_law_825 ((6, .int k) :: lvL ad b (nI (7 * n))) (by decide) rfl ?_
  refine V_aload_n X dL_law_827 rfl 3 rfl ?_
  refine V_aload_n X dL_law_828 rfl 1 rfl ?_
  refine V_iload X dL_law_829 6 rfl ?_
  refine V_iconst X (1 : Int32) dL_law_831 (by decide) ?_
  refine V_iadd X dL_law_832 ?_
  refine V_sld X hX hbl (lwA_not _ hbl) (in_scr h7 hL (j := 1) (by decide) (by decide)) dL_law_833 ?_
  refine V_aload_n X dL_law_834 rfl 1 rfl ?_
  refine V_iload X dL_law_835 6 rfl ?_
  refine V_iconst X (2 : Int32) dL_law_837 (by decide) ?_
  refine V_iadd X dL_law_838 ?_
  refine V_sld X hX hbl (lwA_not _ hbl) (in_scr h7 hL (j := 2) (by decide) (by decide)) dL_law_839 ?_
  refine V_callVs X [.int (sx xs n 1), .int (sx xs n 2)] dL_law_840 m_L_152 v_X7_parcel ⟨Nat.le_of_ble_eq_true rfl, Nat.le_of_ble_eq_true rfl⟩ ⟨lrA hc (by decide), lrA hs (by decide)⟩ rfl (Nat.le_of_ble_eq_true rfl) (gm7 dL_M) rfl cl7 (c_X7_parcel dL_M e2) ?_
  exact law_tail X dL_M dL36 ⟨lrA hc (by decide), lrA hs (by decide)⟩ g7 g36 dL_law_843 dL_law_845 dL_law_846 dL_law_849 dL_law_851 dL_law_856 dL_law_858 dL_law_861 dL_law_862 dL_law_863 dL_law_864 dL_law_866 dL_law_867 dL_law_868 dL_law_873 (by decide) (V_widen (Nat.add_le_add_left (by decide) _) (Nat.add_le_add_left (by decide) _) (kk (np) (T) S2 ad (by omega) (by omega) hI2 X))
theorem w_L_carried : MLW RL 153 yL_carried cL_carried 4 (some .int) [(0, 9, 12, 38), (0, 9, 15, 44)] 3 := ⟨gin 944 (by decide +kernel) (by decide +kernel), nw_L_carried, ni_L, by decide +kernel, t_L_carried⟩
set_option maxHeartbeats 1000000 in
theorem law_c10 {l : Launch} {D : va_G} {cA : Nat → ClassId} {p : Program} {e : Env} {s : State} {m : MethodId} {below : List Frame} {meth : Method} {c : Code} {b L : Nat} {xs : Nat → Int32} {Q : State → Prop} {n np T cells slots : Nat} {S : S4} {ad : Ad} (X : GX D cA (dL np) ad (lwA s) 9 p s m #[Value.ref b] meth c RL cL_law) (hI : LI np T S) (hn : np ≤ n) (hT : T ≤ 200 * n) (hn5 : n < 512) (hZ : gZ (lwA s) s s.heap) (hY : gY (lwA s) s s.heap) (hl : l.stackTraces = false) (hX : va_X b L xs s s.heap) (hbl : b < s.heap.size) (h7 : 7 * n + 7 ≤ L) (hL : L ≤ 3584) (hc : cells + 150 ≤ room_1.cells) (hs : slots + 400 ≤ room_1.slots) (kk : KK l D cA p e s m below meth c b Q n cells slots) : V D cA (dL np) ad (lwA s) 9 p l e room_1 s m #[Value.ref b] below meth c cells slots Q S 876 (lvL ad b (nI (7 * n))) [] := by
  obtain ⟨k, S1, y, S2, e1, e2, g7, g36, hG⟩ := st_carried (fu := 9601) (p2 := (sx xs n 1)) hI.1 (by omega) (by omega) (by decide)
  have hI2 : LI np (T) S2 := hI.next (fz_L_carried _ e1) (fr_X7_carried e2) hG
  refine V_aload_n X dL_law_876 rfl 1 rfl ?_
  refine V_aload_n X dL_law_877 rfl 0 rfl ?_
  refine V_iload X dL_law_878 5 rfl ?_
  refine V_iconst X (1 : Int32) dL_law_880 (by decide) ?_
  refine V_iadd X dL_law_881 ?_
  refine V_sld X hX hbl (lwA_not _ hbl) (in_scr h7 hL (j := 1) (by decide) (by decide)) dL_law_882 ?_
  refine V_aload_n X dL_law_883 rfl 3 rfl ?_
  refine V_callSCs X hZ [.ref (ad 6 0 0), .int (sx xs n 1), .ref (ad 36 0 0)] dL_law_884 w_L_carried ⟨Nat.le_of_ble_eq_true rfl, Nat.le_of_ble_eq_true rfl⟩ ⟨lrA hc (by decide), lrA hs (by decide)⟩ rfl (Nat.le_of_ble_eq_true rfl) (c_L_carried dL_K dL36 hl e1) ?_
  refine V_istore X dL_law_887 ((6, .int k) :: lvL ad b (nI (7 * n))) (by decide) rfl ?_
  refine V_aload_n X dL_law_889 rfl 3 rfl ?_
  refine V_aload_n X dL_law_890 rfl 1 rfl ?_
  refine V_iload X dL_law_891 6 rfl ?_
  refine V_iconst X (1 : Int32) dL_law_893 (by decide) ?_
  refine V_iadd X dL_law_894 ?_
  refine V_sld X hX hbl (lwA_not _ hbl) (in_scr h7 hL (j := 1) (by decide) (by decide)) dL_law_895 ?_
  refine V_callVs X [.int (sx xs n 1)] dL_law_896 m_L_155 v_X7_carried ⟨Nat.le_of_ble_eq_true rfl, Nat.le_of_ble_eq_true rfl⟩ ⟨lrA hc (by decide), lrA hs (by decide)⟩ rfl (Nat.le_of_ble_eq_true rfl) (gm7 dL_M) rfl cl7 (c_X7_carried dL_M e2) ?_
  exact law_tail X dL_M dL36 ⟨lrA hc (by decide), lrA hs (by decide)⟩ g7 g36 dL_law_899 dL_law_901 dL_law_902 dL_law_905 dL_law_907 dL_law_912 dL_law_914 dL_law_917 dL_law_918 dL_law_919 dL_law_920 dL_law_922 dL_law_923 dL_law_924 dL_law_929 (by decide) (V_widen (Nat.add_le_add_left (by decide) _) (Nat.add_le_add_left (by decide) _) (kk (np) (T) S2 ad (by omega) (by omega) hI2 X))
theorem w_L_run : MLW RL 156 yL_run cL_run 4 (some .int) [(0, 9, 12, 13)] 3 := ⟨gin 960 (by decide +kernel) (by decide +kernel), nw_L_run, ni_L, by decide +kernel, t_L_run⟩
set_option maxHeartbeats 1000000 in
theorem law_c11 {l : Launch} {D : va_G} {cA : Nat → ClassId} {p : Program} {e : Env} {s : State} {m : MethodId} {below : List Frame} {meth : Method} {c : Code} {b L : Nat} {xs : Nat → Int32} {Q : State → Prop} {n np T cells slots : Nat} {S : S4} {ad : Ad} (X : GX D cA (dL np) ad (lwA s) 9 p s m #[Value.ref b] meth c RL cL_law) (hI : LI np T S) (hn : np ≤ n) (hT : T ≤ 200 * n) (hn5 : n < 512) (hZ : gZ (lwA s) s s.heap) (hY : gY (lwA s) s s.heap) (hl : l.stackTraces = false) (hX : va_X b L xs s s.heap) (hbl : b < s.heap.size) (h7 : 7 * n + 7 ≤ L) (hL : L ≤ 3584) (hc : cells + 150 ≤ room_1.cells) (hs : slots + 400 ≤ room_1.slots) (kk : KK l D cA p e s m below meth c b Q n cells slots) : V D cA (dL np) ad (lwA s) 9 p l e room_1 s m #[Value.ref b] below meth c cells slots Q S 932 (lvL ad b (nI (7 * n))) [] := by
  obtain ⟨k, S1, y, S2, e1, e2, g7, g36, hG⟩ := st_run (fu := 9601) (p2 := (sx xs n 1)) hI.1 (by omega) (by omega) (by decide)
  have hI2 : LI np (T + 200) S2 := hI.next (fz_L_run _ e1) (fr_X7_run e2) hG
  refine V_aload_n X dL_law_932 rfl 1 rfl ?_
  refine V_aload_n X dL_law_933 rfl 0 rfl ?_
  refine V_iload X dL_law_934 5 rfl ?_
  refine V_iconst X (1 : Int32) dL_law_936 (by decide) ?_
  refine V_iadd X dL_law_937 ?_
  refine V_sld X hX hbl (lwA_not _ hbl) (in_scr h7 hL (j := 1) (by decide) (by decide)) dL_law_938 ?_
  refine V_aload_n X dL_law_939 rfl 3 rfl ?_
  refine V_callSCs X hZ [.ref (ad 6 0 0), .int (sx xs n 1), .ref (ad 36 0 0)] dL_law_940 w_L_run ⟨Nat.le_of_ble_eq_true rfl, Nat.le_of_ble_eq_true rfl⟩ ⟨lrA hc (by decide), lrA hs (by decide)⟩ rfl (Nat.le_of_ble_eq_true rfl) (c_L_run dL_K dL36 dL_P hl e1) ?_
  refine V_istore X dL_law_943 ((6, .int k) :: lvL ad b (nI (7 * n))) (by decide) rfl ?_
  refine V_aload_n X dL_law_945 rfl 3 rfl ?_
  refine V_aload_n X dL_law_946 rfl 1 rfl ?_
  refine V_iload X dL_law_947 6 rfl ?_
  refine V_iconst X (1 : Int32) dL_law_949 (by decide) ?_
  refine V_iadd X dL_law_950 ?_
  refine V_sld X hX hbl (lwA_not _ hbl) (in_scr h7 hL (j := 1) (by decide) (by decide)) dL_law_951 ?_
  refine V_callVs X [.int (sx xs n 1)] dL_law_952 m_L_158 v_X7_run ⟨Nat.le_of_ble_eq_true rfl, Nat.le_of_ble_eq_true rfl⟩ ⟨lrA hc (by decide), lrA hs (by decide)⟩ rfl (Nat.le_of_ble_eq_true rfl) (gm7 dL_M) rfl cl7 (c_X7_run dL_M e2) ?_
  exact law_tail X dL_M dL36 ⟨lrA hc (by decide), lrA hs (by decide)⟩ g7 g36 dL_law_955 dL_law_957 dL_law_958 dL_law_961 dL_law_963 dL_law_968 dL_law_970 dL_law_973 dL_law_974 dL_law_975 dL_law_976 dL_law_978 dL_law_979 dL_law_980 dL_law_985 (by decide) (V_widen (Nat.add_le_add_left (by decide) _) (Nat.add_le_add_left (by decide) _) (kk (np) (T + 200) S2 ad (by omega) (by omega) hI2 X))
theorem w_L_setClosed : MLW RL 159 yL_setClosed cL_setClosed 5 (some .int) [(0, 17, 20, 38)] 4 := ⟨gin 1063 (by decide +kernel) (by decide +kernel), nw_L_setClosed, ni_L, by decide +kernel, t_L_setClosed⟩
set_option maxHeartbeats 1000000 in
theorem law_c12 {l : Launch} {D : va_G} {cA : Nat → ClassId} {p : Program} {e : Env} {s : State} {m : MethodId} {below : List Frame} {meth : Method} {c : Code} {b L : Nat} {xs : Nat → Int32} {Q : State → Prop} {n np T cells slots : Nat} {S : S4} {ad : Ad} (X : GX D cA (dL np) ad (lwA s) 9 p s m #[Value.ref b] meth c RL cL_law) (hI : LI np T S) (hn : np ≤ n) (hT : T ≤ 200 * n) (hn5 : n < 512) (hZ : gZ (lwA s) s s.heap) (hY : gY (lwA s) s s.heap) (hl : l.stackTraces = false) (hX : va_X b L xs s s.heap) (hbl : b < s.heap.size) (h7 : 7 * n + 7 ≤ L) (hL : L ≤ 3584) (hc : cells + 150 ≤ room_1.cells) (hs : slots + 400 ≤ room_1.slots) (kk : KK l D cA p e s m below meth c b Q n cells slots) : V D cA (dL np) ad (lwA s) 9 p l e room_1 s m #[Value.ref b] below meth c cells slots Q S 988 (lvL ad b (nI (7 * n))) [] := by
  obtain ⟨k, S1, y, S2, e1, e2, g7, g36, hG⟩ := st_setClosed (fu := 9601) (p2 := (sx xs n 1)) (p3 := (bo (sx xs n 2))) hI.1 (bo_B _) (by omega) (by decide)
  have hI2 : LI np (T) S2 := hI.next (fz_L_setClosed _ e1) (fr_X7_setClosed e2) hG
  refine V_aload_n X dL_law_988 rfl 1 rfl ?_
  refine V_aload_n X dL_law_989 rfl 0 rfl ?_
  refine V_iload X dL_law_990 5 rfl ?_
  refine V_iconst X (1 : Int32) dL_law_992 (by decide) ?_
  refine V_iadd X dL_law_993 ?_
  refine V_sld X hX hbl (lwA_not _ hbl) (in_scr h7 hL (j := 1) (by decide) (by decide)) dL_law_994 ?_
  refine V_aload_n X dL_law_995 rfl 0 rfl ?_
  refine V_iload X dL_law_996 5 rfl ?_
  refine V_iconst X (2 : Int32) dL_law_998 (by decide) ?_
  refine V_iadd X dL_law_999 ?_
  refine V_sld X hX hbl (lwA_not _ hbl) (in_scr h7 hL (j := 2) (by decide) (by decide)) dL_law_1000 ?_
  refine V_bool X dL_law_1001 dL_law_1004 dL_law_1005 dL_law_1008 ?_
  refine V_aload_n X dL_law_1009 rfl 3 rfl ?_
  refine V_callSCs X hZ [.ref (ad 6 0 0), .int (sx xs n 1), .int (bo (sx xs n 2)), .ref (ad 36 0 0)] dL_law_1010 w_L_setClosed ⟨Nat.le_of_ble_eq_true rfl, Nat.le_of_ble_eq_true rfl⟩ ⟨lrA hc (by decide), lrA hs (by decide)⟩ rfl (Nat.le_of_ble_eq_true rfl) (c_L_setClosed dL_K dL36 dL_P hl e1) ?_
  refine V_istore X dL_law_1013 ((6, .int k) :: lvL ad b (nI (7 * n))) (by decide) rfl ?_
  refine V_aload_n X dL_law_1015 rfl 3 rfl ?_
  refine V_aload_n X dL_law_1016 rfl 1 rfl ?_
  refine V_iload X dL_law_1017 6 rfl ?_
  refine V_iconst X (1 : Int32) dL_law_1019 (by decide) ?_
  refine V_iadd X dL_law_1020 ?_
  refine V_sld X hX hbl (lwA_not _ hbl) (in_scr h7 hL (j := 1) (by decide) (by decide)) dL_law_1021 ?_
  refine V_aload_n X dL_law_1022 rfl 1 rfl ?_
  refine V_iload X dL_law_1023 6 rfl ?_
  refine V_iconst X (2 : Int32) dL_law_1025 (by decide) ?_
  refine V_iadd X dL_law_1026 ?_
  refine V_sld X hX hbl (lwA_not _ hbl) (in_scr h7 hL (j := 2) (by decide) (by decide)) dL_law_1027 ?_
  refine V_bool X dL_law_1028 dL_law_1031 dL_law_1032 dL_law_1035 ?_
  refine V_callVs X [.int (sx xs n 1), .int (bo (sx xs n 2))] dL_law_1036 m_L_162 v_X7_setClosed ⟨Nat.le_of_ble_eq_true rfl, Nat.le_of_ble_eq_true rfl⟩ ⟨lrA hc (by decide), lrA hs (by decide)⟩ rfl (Nat.le_of_ble_eq_true rfl) (gm7 dL_M) rfl cl7 (c_X7_setClosed dL_M e2) ?_
  refine V_istore X dL_law_1039 ((7, .int y) :: (6, .int k) :: lvL ad b (nI (7 * n))) (by decide) rfl ?_
  refine V_aload_n X dL_law_1041 rfl 4 rfl ?_
  refine V_callVs X [] dL_law_1042 m_L_117 v_X7_thrown ⟨Nat.le_of_ble_eq_true rfl, Nat.le_of_ble_eq_true rfl⟩ ⟨lrA hc (by decide), lrA hs (by decide)⟩ rfl (Nat.le_of_ble_eq_true rfl) (gm7 dL_M) rfl cl7 (c_X7_thrown dL_M (rfl : s_X7_thrown S2 = some (S2 7 0 0 0))) ?_
  refine V_iload X dL_law_1045 1 rfl ?_
  refine V_icmp_eq X 1052 dL_law_1047 (by decide) (fun _ => ?_) (fun h => absurd g7 h)
  refine V_iload X dL_law_1052 1 rfl ?_
  refine V_if_ne X 1076 dL_law_1054 (by decide) (fun _ => ?_) (fun h0 => ?_)
  · refine V_goto X 1838 dL_law_1076 (by decide) ?_
    exact V_sub [2, 3, 4, 5, 6, 7] rfl (V_widen (Nat.add_le_add_left (by decide) _) (Nat.add_le_add_left (by decide) _) (kk (np) (T) S2 ad (by omega) (by omega) hI2 X))
  · refine V_aload_n X dL_law_1057 rfl 5 rfl ?_
    refine V_iconst X (0 : Int32) dL_law_1058 (by decide) ?_
    refine V_lald0 X dL36 dL_law_1059 ?_
    refine V_iload X dL_law_1060 0 rfl ?_
    refine V_boolL X dL_law_1062 dL_law_1065 dL_law_1066 dL_law_1069 ?_
    rw [show (y, S2).2 36 0 0 0 = bo y from g36 h0]
    refine V_lcmp0 X dL_law_1070 ?_
    refine V_if_eq X 1076 dL_law_1071 (by decide) (fun _ => ?_) (fun h => absurd rfl h)
    refine V_goto X 1838 dL_law_1076 (by decide) ?_
    exact V_sub [2, 3, 4, 5, 6, 7] rfl (V_widen (Nat.add_le_add_left (by decide) _) (Nat.add_le_add_left (by decide) _) (kk (np) (T) S2 ad (by omega) (by omega) hI2 X))
theorem w_L_clear : MLW RL 163 yL_clear cL_clear 4 (some .int) [(0, 9, 12, 38), (0, 9, 15, 18)] 3 := ⟨gin 1070 (by decide +kernel) (by decide +kernel), nw_L_clear, ni_L, by decide +kernel, t_L_clear⟩
set_option maxHeartbeats 1000000 in
theorem law_c13 {l : Launch} {D : va_G} {cA : Nat → ClassId} {p : Program} {e : Env} {s : State} {m : MethodId} {below : List Frame} {meth : Method} {c : Code} {b L : Nat} {xs : Nat → Int32} {Q : State → Prop} {n np T cells slots : Nat} {S : S4} {ad : Ad} (X : GX D cA (dL np) ad (lwA s) 9 p s m #[Value.ref b] meth c RL cL_law) (hI : LI np T S) (hn : np ≤ n) (hT : T ≤ 200 * n) (hn5 : n < 512) (hZ : gZ (lwA s) s s.heap) (hY : gY (lwA s) s s.heap) (hl : l.stackTraces = false) (hX : va_X b L xs s s.heap) (hbl : b < s.heap.size) (h7 : 7 * n + 7 ≤ L) (hL : L ≤ 3584) (hc : cells + 150 ≤ room_1.cells) (hs : slots + 400 ≤ room_1.slots) (kk : KK l D cA p e s m below meth c b Q n cells slots) : V D cA (dL np) ad (lwA s) 9 p l e room_1 s m #[Value.ref b] below meth c cells slots Q S 1079 (lvL ad b (nI (7 * n))) [] := by
  obtain ⟨k, S1, y, S2, e1, e2, g7, g36, hG⟩ := st_clear (fu := 9601) (p2 := (sx xs n 1)) hI.1 (by omega) (by omega) (by decide)
  have hI2 : LI np (T) S2 := hI.next (fz_L_clear _ e1) (fr_X7_clear e2) hG
  refine V_aload_n X dL_law_1079 rfl 1 rfl ?_
  refine V_aload_n X dL_law_1080 rfl 0 rfl ?_
  refine V_iload X dL_law_1081 5 rfl ?_
  refine V_iconst X (1 : Int32) dL_law_1083 (by decide) ?_
  refine V_iadd X dL_law_1084 ?_
  refine V_sld X hX hbl (lwA_not _ hbl) (in_scr h7 hL (j := 1) (by decide) (by decide)) dL_law_1085 ?_
  refine V_aload_n X dL_law_1086 rfl 3 rfl ?_
  refine V_callSCs X hZ [.ref (ad 6 0 0), .int (sx xs n 1), .ref (ad 36 0 0)] dL_law_1087 w_L_clear ⟨Nat.le_of_ble_eq_true rfl, Nat.le_of_ble_eq_true rfl⟩ ⟨lrA hc (by decide), lrA hs (by decide)⟩ rfl (Nat.le_of_ble_eq_true rfl) (c_L_clear dL_K dL36 dL_P hl e1) ?_
  refine V_istore X dL_law_1090 ((6, .int k) :: lvL ad b (nI (7 * n))) (by decide) rfl ?_
  refine V_aload_n X dL_law_1092 rfl 3 rfl ?_
  refine V_aload_n X dL_law_1093 rfl 1 rfl ?_
  refine V_iload X dL_law_1094 6 rfl ?_
  refine V_iconst X (1 : Int32) dL_law_1096 (by decide) ?_
  refine V_iadd X dL_law_1097 ?_
  refine V_sld X hX hbl (lwA_not _ hbl) (in_scr h7 hL (j := 1) (by decide) (by decide)) dL_law_1098 ?_
  refine V_callVs X [.int (sx xs n 1)] dL_law_1099 m_L_165 v_X7_clear ⟨Nat.le_of_ble_eq_true rfl, Nat.le_of_ble_eq_true rfl⟩ ⟨lrA hc (by decide), lrA hs (by decide)⟩ rfl (Nat.le_of_ble_eq_true rfl) (gm7 dL_M) rfl cl7 (c_X7_clear dL_M e2) ?_
  exact law_tail X dL_M dL36 ⟨lrA hc (by decide), lrA hs (by decide)⟩ g7 g36 dL_law_1102 dL_law_1104 dL_law_1105 dL_law_1108 dL_law_1110 dL_law_1115 dL_law_1117 dL_law_1120 dL_law_1121 dL_law_1122 dL_law_1123 dL_law_1125 dL_law_1126 dL_law_1127 dL_law_1132 (by decide) (V_widen (Nat.add_le_add_left (by decide) _) (Nat.add_le_add_left (by decide) _) (kk (np) (T) S2 ad (by omega) (by omega) hI2 X))
theorem w_L_chute : MLW RL 166 yL_chute cL_chute 5 (some .int) [(0, 10, 13, 38), (0, 10, 17, 13)] 4 := ⟨gin 1078 (by decide +kernel) (by decide +kernel), nw_L_chute, ni_L, by decide +kernel, t_L_chute⟩
set_option maxHeartbeats 1000000 in
theorem law_c14 {l : Launch} {D : va_G} {cA : Nat → ClassId} {p : Program} {e : Env} {s : State} {m : MethodId} {below : List Frame} {meth : Method} {c : Code} {b L : Nat} {xs : Nat → Int32} {Q : State → Prop} {n np T cells slots : Nat} {S : S4} {ad : Ad} (X : GX D cA (dL np) ad (lwA s) 9 p s m #[Value.ref b] meth c RL cL_law) (hI : LI np T S) (hn : np ≤ n) (hT : T ≤ 200 * n) (hn5 : n < 512) (hZ : gZ (lwA s) s s.heap) (hY : gY (lwA s) s s.heap) (hl : l.stackTraces = false) (hX : va_X b L xs s s.heap) (hbl : b < s.heap.size) (h7 : 7 * n + 7 ≤ L) (hL : L ≤ 3584) (hc : cells + 150 ≤ room_1.cells) (hs : slots + 400 ≤ room_1.slots) (kk : KK l D cA p e s m below meth c b Q n cells slots) : V D cA (dL np) ad (lwA s) 9 p l e room_1 s m #[Value.ref b] below meth c cells slots Q S 1135 (lvL ad b (nI (7 * n))) [] := by
  obtain ⟨k, S1, y, S2, e1, e2, g7, g36, hG⟩ := st_chute (fu := 9601) (p2 := (sx xs n 1)) (p3 := (sx xs n 2)) hI.1 (by omega) (by omega) (by decide)
  have hI2 : LI np (T) S2 := hI.next (fz_L_chute _ e1) (fr_X7_chute e2) hG
  refine V_aload_n X dL_law_1135 rfl 1 rfl ?_
  refine V_aload_n X dL_law_1136 rfl 0 rfl ?_
  refine V_iload X dL_law_1137 5 rfl ?_
  refine V_iconst X (1 : Int32) dL_law_1139 (by decide) ?_
  refine V_iadd X dL_law_1140 ?_
  refine V_sld X hX hbl (lwA_not _ hbl) (in_scr h7 hL (j := 1) (by decide) (by decide)) dL_law_1141 ?_
  refine V_aload_n X dL_law_1142 rfl 0 rfl ?_
  refine V_iload X dL_law_1143 5 rfl ?_
  refine V_iconst X (2 : Int32) dL_law_1145 (by decide) ?_
  refine V_iadd X dL_law_1146 ?_
  refine V_sld X hX hbl (lwA_not _ hbl) (in_scr h7 hL (j := 2) (by decide) (by decide)) dL_law_1147 ?_
  refine V_aload_n X dL_law_1148 rfl 3 rfl ?_
  refine V_callSCs X hZ [.ref (ad 6 0 0), .int (sx xs n 1), .int (sx xs n 2), .ref (ad 36 0 0)] dL_law_1149 w_L_chute ⟨Nat.le_of_ble_eq_true rfl, Nat.le_of_ble_eq_true rfl⟩ ⟨lrA hc (by decide), lrA hs (by decide)⟩ rfl (Nat.le_of_ble_eq_true rfl) (c_L_chute dL_K dL36 hl e1) ?_
  refine V_istore X dL_law_1152 ((6, .int k) :: lvL ad b (nI (7 * n))) (by decide) rfl ?_
  refine V_aload_n X dL_law_1154 rfl 3 rfl ?_
  refine V_aload_n X dL_law_1155 rfl 1 rfl ?_
  refine V_iload X dL_law_1156 6 rfl ?_
  refine V_iconst X (1 : Int32) dL_law_1158 (by decide) ?_
  refine V_iadd X dL_law_1159 ?_
  refine V_sld X hX hbl (lwA_not _ hbl) (in_scr h7 hL (j := 1) (by decide) (by decide)) dL_law_1160 ?_
  refine V_aload_n X dL_law_1161 rfl 1 rfl ?_
  refine V_iload X dL_law_1162 6 rfl ?_
  refine V_iconst X (2 : Int32) dL_law_1164 (by decide) ?_
  refine V_iadd X dL_law_1165 ?_
  refine V_sld X hX hbl (lwA_not _ hbl) (in_scr h7 hL (j := 2) (by decide) (by decide)) dL_law_1166 ?_
  refine V_callVs X [.int (sx xs n 1), .int (sx xs n 2)] dL_law_1167 m_L_168 v_X7_chute ⟨Nat.le_of_ble_eq_true rfl, Nat.le_of_ble_eq_true rfl⟩ ⟨lrA hc (by decide), lrA hs (by decide)⟩ rfl (Nat.le_of_ble_eq_true rfl) (gm7 dL_M) rfl cl7 (c_X7_chute dL_M e2) ?_
  exact law_tail X dL_M dL36 ⟨lrA hc (by decide), lrA hs (by decide)⟩ g7 g36 dL_law_1170 dL_law_1172 dL_law_1173 dL_law_1176 dL_law_1178 dL_law_1183 dL_law_1185 dL_law_1188 dL_law_1189 dL_law_1190 dL_law_1191 dL_law_1193 dL_law_1194 dL_law_1195 dL_law_1200 (by decide) (V_widen (Nat.add_le_add_left (by decide) _) (Nat.add_le_add_left (by decide) _) (kk (np) (T) S2 ad (by omega) (by omega) hI2 X))
theorem w_L_station : MLW RL 169 yL_station cL_station 5 (some .int) [(0, 10, 13, 38), (0, 10, 17, 13)] 4 := ⟨gin 1090 (by decide +kernel) (by decide +kernel), nw_L_station, ni_L, by decide +kernel, t_L_station⟩
set_option maxHeartbeats 1000000 in
theorem law_c15 {l : Launch} {D : va_G} {cA : Nat → ClassId} {p : Program} {e : Env} {s : State} {m : MethodId} {below : List Frame} {meth : Method} {c : Code} {b L : Nat} {xs : Nat → Int32} {Q : State → Prop} {n np T cells slots : Nat} {S : S4} {ad : Ad} (X : GX D cA (dL np) ad (lwA s) 9 p s m #[Value.ref b] meth c RL cL_law) (hI : LI np T S) (hn : np ≤ n) (hT : T ≤ 200 * n) (hn5 : n < 512) (hZ : gZ (lwA s) s s.heap) (hY : gY (lwA s) s s.heap) (hl : l.stackTraces = false) (hX : va_X b L xs s s.heap) (hbl : b < s.heap.size) (h7 : 7 * n + 7 ≤ L) (hL : L ≤ 3584) (hc : cells + 150 ≤ room_1.cells) (hs : slots + 400 ≤ room_1.slots) (kk : KK l D cA p e s m below meth c b Q n cells slots) : V D cA (dL np) ad (lwA s) 9 p l e room_1 s m #[Value.ref b] below meth c cells slots Q S 1203 (lvL ad b (nI (7 * n))) [] := by
  obtain ⟨k, S1, y, S2, e1, e2, g7, g36, hG⟩ := st_station (fu := 9601) (p2 := (sx xs n 1)) (p3 := (sx xs n 2)) hI.1 (by omega) (by omega) (by decide)
  have hI2 : LI np (T) S2 := hI.next (fz_L_station _ e1) (fr_X7_station e2) hG
  refine V_aload_n X dL_law_1203 rfl 1 rfl ?_
  refine V_aload_n X dL_law_1204 rfl 0 rfl ?_
  refine V_iload X dL_law_1205 5 rfl ?_
  refine V_iconst X (1 : Int32) dL_law_1207 (by decide) ?_
  refine V_iadd X dL_law_1208 ?_
  refine V_sld X hX hbl (lwA_not _ hbl) (in_scr h7 hL (j := 1) (by decide) (by decide)) dL_law_1209 ?_
  refine V_aload_n X dL_law_1210 rfl 0 rfl ?_
  refine V_iload X dL_law_1211 5 rfl ?_
  refine V_iconst X (2 : Int32) dL_law_1213 (by decide) ?_
  refine V_iadd X dL_law_1214 ?_
  refine V_sld X hX hbl (lwA_not _ hbl) (in_scr h7 hL (j := 2) (by decide) (by decide)) dL_law_1215 ?_
  refine V_aload_n X dL_law_1216 rfl 3 rfl ?_
  refine V_callSCs X hZ [.ref (ad 6 0 0), .int (sx xs n 1), .int (sx xs n 2), .ref (ad 36 0 0)] dL_law_1217 w_L_station ⟨Nat.le_of_ble_eq_true rfl, Nat.le_of_ble_eq_true rfl⟩ ⟨lrA hc (by decide), lrA hs (by decide)⟩ rfl (Nat.le_of_ble_eq_true rfl) (c_L_station dL_K dL36 hl e1) ?_
  refine V_istore X dL_law_1220 ((6, .int k) :: lvL ad b (nI (7 * n))) (by decide) rfl ?_
  refine V_aload_n X dL_law_1222 rfl 3 rfl ?_
  refine V_aload_n X dL_law_1223 rfl 1 rfl ?_
  refine V_iload X dL_law_1224 6 rfl ?_
  refine V_iconst X (1 : Int32) dL_law_1226 (by decide) ?_
  refine V_iadd X dL_law_1227 ?_
  refine V_sld X hX hbl (lwA_not _ hbl) (in_scr h7 hL (j := 1) (by decide) (by decide)) dL_law_1228 ?_
  refine V_aload_n X dL_law_1229 rfl 1 rfl ?_
  refine V_iload X dL_law_1230 6 rfl ?_
  refine V_iconst X (2 : Int32) dL_law_1232 (by decide) ?_
  refine V_iadd X dL_law_1233 ?_
  refine V_sld X hX hbl (lwA_not _ hbl) (in_scr h7 hL (j := 2) (by decide) (by decide)) dL_law_1234 ?_
  refine V_callVs X [.int (sx xs n 1), .int (sx xs n 2)] dL_law_1235 m_L_171 v_X7_station ⟨Nat.le_of_ble_eq_true rfl, Nat.le_of_ble_eq_true rfl⟩ ⟨lrA hc (by decide), lrA hs (by decide)⟩ rfl (Nat.le_of_ble_eq_true rfl) (gm7 dL_M) rfl cl7 (c_X7_station dL_M e2) ?_
  exact law_tail X dL_M dL36 ⟨lrA hc (by decide), lrA hs (by decide)⟩ g7 g36 dL_law_1238 dL_law_1240 dL_law_1241 dL_law_1244 dL_law_1246 dL_law_1251 dL_law_1253 dL_law_1256 dL_law_1257 dL_law_1258 dL_law_1259 dL_law_1261 dL_law_1262 dL_law_1263 dL_law_1268 (by decide) (V_widen (Nat.add_le_add_left (by decide) _) (Nat.add_le_add_left (by decide) _) (kk (np) (T) S2 ad (by omega) (by omega) hI2 X))
theorem w_L_count : MLW RL 172 yL_count cL_count 4 (some .int) [(0, 9, 12, 13)] 3 := ⟨gin 1098 (by decide +kernel) (by decide +kernel), nw_L_count, ni_L, by decide +kernel, t_L_count⟩
set_option maxHeartbeats 1000000 in
theorem law_c16 {l : Launch} {D : va_G} {cA : Nat → ClassId} {p : Program} {e : Env} {s : State} {m : MethodId} {below : List Frame} {meth : Method} {c : Code} {b L : Nat} {xs : Nat → Int32} {Q : State → Prop} {n np T cells slots : Nat} {S : S4} {ad : Ad} (X : GX D cA (dL np) ad (lwA s) 9 p s m #[Value.ref b] meth c RL cL_law) (hI : LI np T S) (hn : np ≤ n) (hT : T ≤ 200 * n) (hn5 : n < 512) (hZ : gZ (lwA s) s s.heap) (hY : gY (lwA s) s s.heap) (hl : l.stackTraces = false) (hX : va_X b L xs s s.heap) (hbl : b < s.heap.size) (h7 : 7 * n + 7 ≤ L) (hL : L ≤ 3584) (hc : cells + 150 ≤ room_1.cells) (hs : slots + 400 ≤ room_1.slots) (kk : KK l D cA p e s m below meth c b Q n cells slots) : V D cA (dL np) ad (lwA s) 9 p l e room_1 s m #[Value.ref b] below meth c cells slots Q S 1271 (lvL ad b (nI (7 * n))) [] := by
  obtain ⟨k, S1, y, S2, e1, e2, g7, g36, hG⟩ := st_count (fu := 9601) (p2 := (sx xs n 1)) hI.1 (by omega) (by omega) (by decide)
  have hI2 : LI np (T) S2 := hI.next (fz_L_count _ e1) (fr_X7_count e2) hG
  refine V_aload_n X dL_law_1271 rfl 1 rfl ?_
  refine V_aload_n X dL_law_1272 rfl 0 rfl ?_
  refine V_iload X dL_law_1273 5 rfl ?_
  refine V_iconst X (1 : Int32) dL_law_1275 (by decide) ?_
  refine V_iadd X dL_law_1276 ?_
  refine V_sld X hX hbl (lwA_not _ hbl) (in_scr h7 hL (j := 1) (by decide) (by decide)) dL_law_1277 ?_
  refine V_aload_n X dL_law_1278 rfl 3 rfl ?_
  refine V_callSCs X hZ [.ref (ad 6 0 0), .int (sx xs n 1), .ref (ad 36 0 0)] dL_law_1279 w_L_count ⟨Nat.le_of_ble_eq_true rfl, Nat.le_of_ble_eq_true rfl⟩ ⟨lrA hc (by decide), lrA hs (by decide)⟩ rfl (Nat.le_of_ble_eq_true rfl) (c_L_count dL_K dL36 hl e1) ?_
  refine V_istore X dL_law_1282 ((6, .int k) :: lvL ad b (nI (7 * n))) (by decide) rfl ?_
  refine V_aload_n X dL_law_1284 rfl 3 rfl ?_
  refine V_aload_n X dL_law_1285 rfl 1 rfl ?_
  refine V_iload X dL_law_1286 6 rfl ?_
  refine V_iconst X (1 : Int32) dL_law_1288 (by decide) ?_
  refine V_iadd X dL_law_1289 ?_
  refine V_sld X hX hbl (lwA_not _ hbl) (in_scr h7 hL (j := 1) (by decide) (by decide)) dL_law_1290 ?_
  refine V_callVs X [.int (sx xs n 1)] dL_law_1291 m_L_174 v_X7_count ⟨Nat.le_of_ble_eq_true rfl, Nat.le_of_ble_eq_true rfl⟩ ⟨lrA hc (by decide), lrA hs (by decide)⟩ rfl (Nat.le_of_ble_eq_true rfl) (gm7 dL_M) rfl cl7 (c_X7_count dL_M e2) ?_
  exact law_tail X dL_M dL36 ⟨lrA hc (by decide), lrA hs (by decide)⟩ g7 g36 dL_law_1294 dL_law_1296 dL_law_1297 dL_law_1300 dL_law_1302 dL_law_1307 dL_law_1309 dL_law_1312 dL_law_1313 dL_law_1314 dL_law_1315 dL_law_1317 dL_law_1318 dL_law_1319 dL_law_1324 (by decide) (V_widen (Nat.add_le_add_left (by decide) _) (Nat.add_le_add_left (by decide) _) (kk (np) (T) S2 ad (by omega) (by omega) hI2 X))
theorem w_L_foresee : MLW RL 179 yL_foresee cL_foresee 6 (some .int) [(0, 12, 15, 38), (0, 12, 19, 13), (0, 12, 23, 44)] 5 := ⟨gin 1146 (by decide +kernel) (by decide +kernel), nw_L_foresee, ni_L, by decide +kernel, t_L_foresee⟩
set_option maxHeartbeats 1000000 in
theorem law_c18 {l : Launch} {D : va_G} {cA : Nat → ClassId} {p : Program} {e : Env} {s : State} {m : MethodId} {below : List Frame} {meth : Method} {c : Code} {b L : Nat} {xs : Nat → Int32} {Q : State → Prop} {n np T cells slots : Nat} {S : S4} {ad : Ad} (X : GX D cA (dL np) ad (lwA s) 9 p s m #[Value.ref b] meth c RL cL_law) (hI : LI np T S) (hn : np ≤ n) (hT : T ≤ 200 * n) (hn5 : n < 512) (hZ : gZ (lwA s) s s.heap) (hY : gY (lwA s) s s.heap) (hl : l.stackTraces = false) (hX : va_X b L xs s s.heap) (hbl : b < s.heap.size) (h7 : 7 * n + 7 ≤ L) (hL : L ≤ 3584) (hc : cells + 150 ≤ room_1.cells) (hs : slots + 400 ≤ room_1.slots) (kk : KK l D cA p e s m below meth c b Q n cells slots) : V D cA (dL np) ad (lwA s) 9 p l e room_1 s m #[Value.ref b] below meth c cells slots Q S 1392 (lvL ad b (nI (7 * n))) [] := by
  obtain ⟨k, S1, y, S2, e1, e2, g7, g36, hG⟩ := st_foresee (fu := 9601) (p2 := (sx xs n 1)) (p3 := (sx xs n 2)) (p4 := (bo (sx xs n 3))) hI.1 (by omega) (by omega) (by decide)
  have hI2 : LI np (T) S2 := hI.next (fz_L_foresee _ e1) (fr_X7_foresee e2) hG
  refine V_aload_n X dL_law_1392 rfl 1 rfl ?_
  refine V_aload_n X dL_law_1393 rfl 0 rfl ?_
  refine V_iload X dL_law_1394 5 rfl ?_
  refine V_iconst X (1 : Int32) dL_law_1396 (by decide) ?_
  refine V_iadd X dL_law_1397 ?_
  refine V_sld X hX hbl (lwA_not _ hbl) (in_scr h7 hL (j := 1) (by decide) (by decide)) dL_law_1398 ?_
  refine V_aload_n X dL_law_1399 rfl 0 rfl ?_
  refine V_iload X dL_law_1400 5 rfl ?_
  refine V_iconst X (2 : Int32) dL_law_1402 (by decide) ?_
  refine V_iadd X dL_law_1403 ?_
  refine V_sld X hX hbl (lwA_not _ hbl) (in_scr h7 hL (j := 2) (by decide) (by decide)) dL_law_1404 ?_
  refine V_aload_n X dL_law_1405 rfl 0 rfl ?_
  refine V_iload X dL_law_1406 5 rfl ?_
  refine V_iconst X (3 : Int32) dL_law_1408 (by decide) ?_
  refine V_iadd X dL_law_1409 ?_
  refine V_sld X hX hbl (lwA_not _ hbl) (in_scr h7 hL (j := 3) (by decide) (by decide)) dL_law_1410 ?_
  refine V_bool X dL_law_1411 dL_law_1414 dL_law_1415 dL_law_1418 ?_
  refine V_aload_n X dL_law_1419 rfl 3 rfl ?_
  refine V_callSCs X hZ [.ref (ad 6 0 0), .int (sx xs n 1), .int (sx xs n 2), .int (bo (sx xs n 3)), .ref (ad 36 0 0)] dL_law_1420 w_L_foresee ⟨Nat.le_of_ble_eq_true rfl, Nat.le_of_ble_eq_true rfl⟩ ⟨lrA hc (by decide), lrA hs (by decide)⟩ rfl (Nat.le_of_ble_eq_true rfl) (c_L_foresee dL_K dL36 dL_P hl e1) ?_
  refine V_istore X dL_law_1423 ((6, .int k) :: lvL ad b (nI (7 * n))) (by decide) rfl ?_
  refine V_aload_n X dL_law_1425 rfl 3 rfl ?_
  refine V_aload_n X dL_law_1426 rfl 1 rfl ?_
  refine V_iload X dL_law_1427 6 rfl ?_
  refine V_iconst X (1 : Int32) dL_law_1429 (by decide) ?_
  refine V_iadd X dL_law_1430 ?_
  refine V_sld X hX hbl (lwA_not _ hbl) (in_scr h7 hL (j := 1) (by decide) (by decide)) dL_law_1431 ?_
  refine V_aload_n X dL_law_1432 rfl 1 rfl ?_
  refine V_iload X dL_law_1433 6 rfl ?_
  refine V_iconst X (2 : Int32) dL_law_1435 (by decide) ?_
  refine V_iadd X dL_law_1436 ?_
  refine V_sld X hX hbl (lwA_not _ hbl) (in_scr h7 hL (j := 2) (by decide) (by decide)) dL_law_1437 ?_
  refine V_aload_n X dL_law_1438 rfl 1 rfl ?_
  refine V_iload X dL_law_1439 6 rfl ?_
  refine V_iconst X (3 : Int32) dL_law_1441 (by decide) ?_
  refine V_iadd X dL_law_1442 ?_
  refine V_sld X hX hbl (lwA_not _ hbl) (in_scr h7 hL (j := 3) (by decide) (by decide)) dL_law_1443 ?_
  refine V_bool X dL_law_1444 dL_law_1447 dL_law_1448 dL_law_1451 ?_
  refine V_callVs X [.int (sx xs n 1), .int (sx xs n 2), .int (bo (sx xs n 3))] dL_law_1452 m_L_182 v_X7_foresee ⟨Nat.le_of_ble_eq_true rfl, Nat.le_of_ble_eq_true rfl⟩ ⟨lrA hc (by decide), lrA hs (by decide)⟩ rfl (Nat.le_of_ble_eq_true rfl) (gm7 dL_M) rfl cl7 (c_X7_foresee dL_M e2) ?_
  exact law_tail X dL_M dL36 ⟨lrA hc (by decide), lrA hs (by decide)⟩ g7 g36 dL_law_1455 dL_law_1457 dL_law_1458 dL_law_1461 dL_law_1463 dL_law_1468 dL_law_1470 dL_law_1473 dL_law_1474 dL_law_1475 dL_law_1476 dL_law_1478 dL_law_1479 dL_law_1480 dL_law_1485 (by decide) (V_widen (Nat.add_le_add_left (by decide) _) (Nat.add_le_add_left (by decide) _) (kk (np) (T) S2 ad (by omega) (by omega) hI2 X))
theorem w_L_untilEmpty : MLW RL 183 yL_untilEmpty cL_untilEmpty 4 (some .int) [(0, 9, 12, 13), (0, 9, 15, 44)] 3 := ⟨gin 1154 (by decide +kernel) (by decide +kernel), nw_L_untilEmpty, ni_L, by decide +kernel, t_L_untilEmpty⟩
set_option maxHeartbeats 1000000 in
theorem law_c19 {l : Launch} {D : va_G} {cA : Nat → ClassId} {p : Program} {e : Env} {s : State} {m : MethodId} {below : List Frame} {meth : Method} {c : Code} {b L : Nat} {xs : Nat → Int32} {Q : State → Prop} {n np T cells slots : Nat} {S : S4} {ad : Ad} (X : GX D cA (dL np) ad (lwA s) 9 p s m #[Value.ref b] meth c RL cL_law) (hI : LI np T S) (hn : np ≤ n) (hT : T ≤ 200 * n) (hn5 : n < 512) (hZ : gZ (lwA s) s s.heap) (hY : gY (lwA s) s s.heap) (hl : l.stackTraces = false) (hX : va_X b L xs s s.heap) (hbl : b < s.heap.size) (h7 : 7 * n + 7 ≤ L) (hL : L ≤ 3584) (hc : cells + 150 ≤ room_1.cells) (hs : slots + 400 ≤ room_1.slots) (kk : KK l D cA p e s m below meth c b Q n cells slots) : V D cA (dL np) ad (lwA s) 9 p l e room_1 s m #[Value.ref b] below meth c cells slots Q S 1488 (lvL ad b (nI (7 * n))) [] := by
  obtain ⟨k, S1, y, S2, e1, e2, g7, g36, hG⟩ := st_untilEmpty (fu := 9601) (p2 := (sx xs n 1)) hI.1 (by omega) (by omega) (by decide)
  have hI2 : LI np (T) S2 := hI.next (fz_L_untilEmpty _ e1) (fr_X7_untilEmpty e2) hG
  refine V_aload_n X dL_law_1488 rfl 1 rfl ?_
  refine V_aload_n X dL_law_1489 rfl 0 rfl ?_
  refine V_iload X dL_law_1490 5 rfl ?_
  refine V_iconst X (1 : Int32) dL_law_1492 (by decide) ?_
  refine V_iadd X dL_law_1493 ?_
  refine V_sld X hX hbl (lwA_not _ hbl) (in_scr h7 hL (j := 1) (by decide) (by decide)) dL_law_1494 ?_
  refine V_aload_n X dL_law_1495 rfl 3 rfl ?_
  refine V_callSCs X hZ [.ref (ad 6 0 0), .int (sx xs n 1), .ref (ad 36 0 0)] dL_law_1496 w_L_untilEmpty ⟨Nat.le_of_ble_eq_true rfl, Nat.le_of_ble_eq_true rfl⟩ ⟨lrA hc (by decide), lrA hs (by decide)⟩ rfl (Nat.le_of_ble_eq_true rfl) (c_L_untilEmpty dL_K dL36 dL_P hl e1) ?_
  refine V_istore X dL_law_1499 ((6, .int k) :: lvL ad b (nI (7 * n))) (by decide) rfl ?_
  refine V_aload_n X dL_law_1501 rfl 3 rfl ?_
  refine V_aload_n X dL_law_1502 rfl 1 rfl ?_
  refine V_iload X dL_law_1503 6 rfl ?_
  refine V_iconst X (1 : Int32) dL_law_1505 (by decide) ?_
  refine V_iadd X dL_law_1506 ?_
  refine V_sld X hX hbl (lwA_not _ hbl) (in_scr h7 hL (j := 1) (by decide) (by decide)) dL_law_1507 ?_
  refine V_callVs X [.int (sx xs n 1)] dL_law_1508 m_L_185 v_X7_untilEmpty ⟨Nat.le_of_ble_eq_true rfl, Nat.le_of_ble_eq_true rfl⟩ ⟨lrA hc (by decide), lrA hs (by decide)⟩ rfl (Nat.le_of_ble_eq_true rfl) (gm7 dL_M) rfl cl7 (c_X7_untilEmpty dL_M e2) ?_
  exact law_tail X dL_M dL36 ⟨lrA hc (by decide), lrA hs (by decide)⟩ g7 g36 dL_law_1511 dL_law_1513 dL_law_1514 dL_law_1517 dL_law_1519 dL_law_1524 dL_law_1526 dL_law_1529 dL_law_1530 dL_law_1531 dL_law_1532 dL_law_1534 dL_law_1535 dL_law_1536 dL_law_1541 (by decide) (V_widen (Nat.add_le_add_left (by decide) _) (Nat.add_le_add_left (by decide) _) (kk (np) (T) S2 ad (by omega) (by omega) hI2 X))
theorem w_L_ledger : MLW RL 191 yL_ledger cL_ledger 5 (some .int) [(0, 10, 13, 38), (0, 10, 17, 13)] 4 := ⟨gin 1166 (by decide +kernel) (by decide +kernel), nw_L_ledger, ni_L, by decide +kernel, t_L_ledger⟩
set_option maxHeartbeats 1000000 in
theorem law_c21 {l : Launch} {D : va_G} {cA : Nat → ClassId} {p : Program} {e : Env} {s : State} {m : MethodId} {below : List Frame} {meth : Method} {c : Code} {b L : Nat} {xs : Nat → Int32} {Q : State → Prop} {n np T cells slots : Nat} {S : S4} {ad : Ad} (X : GX D cA (dL np) ad (lwA s) 9 p s m #[Value.ref b] meth c RL cL_law) (hI : LI np T S) (hn : np ≤ n) (hT : T ≤ 200 * n) (hn5 : n < 512) (hZ : gZ (lwA s) s s.heap) (hY : gY (lwA s) s s.heap) (hl : l.stackTraces = false) (hX : va_X b L xs s s.heap) (hbl : b < s.heap.size) (h7 : 7 * n + 7 ≤ L) (hL : L ≤ 3584) (hc : cells + 150 ≤ room_1.cells) (hs : slots + 400 ≤ room_1.slots) (kk : KK l D cA p e s m below meth c b Q n cells slots) : V D cA (dL np) ad (lwA s) 9 p l e room_1 s m #[Value.ref b] below meth c cells slots Q S 1557 (lvL ad b (nI (7 * n))) [] := by
  obtain ⟨k, S1, y, S2, e1, e2, g7, g36, hG⟩ := st_ledger (fu := 9601) (p2 := (sx xs n 1)) (p3 := (sx xs n 2)) hI.1 (by omega) (by omega) (by decide)
  have hI2 : LI np (T) S2 := hI.next (fz_L_ledger _ e1) (fr_X7_ledger e2) hG
  refine V_aload_n X dL_law_1557 rfl 1 rfl ?_
  refine V_aload_n X dL_law_1558 rfl 0 rfl ?_
  refine V_iload X dL_law_1559 5 rfl ?_
  refine V_iconst X (1 : Int32) dL_law_1561 (by decide) ?_
  refine V_iadd X dL_law_1562 ?_
  refine V_sld X hX hbl (lwA_not _ hbl) (in_scr h7 hL (j := 1) (by decide) (by decide)) dL_law_1563 ?_
  refine V_aload_n X dL_law_1564 rfl 0 rfl ?_
  refine V_iload X dL_law_1565 5 rfl ?_
  refine V_iconst X (2 : Int32) dL_law_1567 (by decide) ?_
  refine V_iadd X dL_law_1568 ?_
  refine V_sld X hX hbl (lwA_not _ hbl) (in_scr h7 hL (j := 2) (by decide) (by decide)) dL_law_1569 ?_
  refine V_aload_n X dL_law_1570 rfl 3 rfl ?_
  refine V_callSCs X hZ [.ref (ad 6 0 0), .int (sx xs n 1), .int (sx xs n 2), .ref (ad 36 0 0)] dL_law_1571 w_L_ledger ⟨Nat.le_of_ble_eq_true rfl, Nat.le_of_ble_eq_true rfl⟩ ⟨lrA hc (by decide), lrA hs (by decide)⟩ rfl (Nat.le_of_ble_eq_true rfl) (c_L_ledger dL_K dL36 hl e1) ?_
  refine V_istore X dL_law_1574 ((6, .int k) :: lvL ad b (nI (7 * n))) (by decide) rfl ?_
  refine V_aload_n X dL_law_1576 rfl 3 rfl ?_
  refine V_aload_n X dL_law_1577 rfl 1 rfl ?_
  refine V_iload X dL_law_1578 6 rfl ?_
  refine V_iconst X (1 : Int32) dL_law_1580 (by decide) ?_
  refine V_iadd X dL_law_1581 ?_
  refine V_sld X hX hbl (lwA_not _ hbl) (in_scr h7 hL (j := 1) (by decide) (by decide)) dL_law_1582 ?_
  refine V_aload_n X dL_law_1583 rfl 1 rfl ?_
  refine V_iload X dL_law_1584 6 rfl ?_
  refine V_iconst X (2 : Int32) dL_law_1586 (by decide) ?_
  refine V_iadd X dL_law_1587 ?_
  refine V_sld X hX hbl (lwA_not _ hbl) (in_scr h7 hL (j := 2) (by decide) (by decide)) dL_law_1588 ?_
  refine V_callVs X [.int (sx xs n 1), .int (sx xs n 2)] dL_law_1589 m_L_193 v_X7_ledger ⟨Nat.le_of_ble_eq_true rfl, Nat.le_of_ble_eq_true rfl⟩ ⟨lrA hc (by decide), lrA hs (by decide)⟩ rfl (Nat.le_of_ble_eq_true rfl) (gm7 dL_M) rfl cl7 (c_X7_ledger dL_M e2) ?_
  exact law_tail X dL_M dL36 ⟨lrA hc (by decide), lrA hs (by decide)⟩ g7 g36 dL_law_1592 dL_law_1594 dL_law_1595 dL_law_1598 dL_law_1600 dL_law_1605 dL_law_1607 dL_law_1610 dL_law_1611 dL_law_1612 dL_law_1613 dL_law_1615 dL_law_1616 dL_law_1617 dL_law_1622 (by decide) (V_widen (Nat.add_le_add_left (by decide) _) (Nat.add_le_add_left (by decide) _) (kk (np) (T) S2 ad (by omega) (by omega) hI2 X))
theorem w_L_undo : MLW RL 194 yL_undo cL_undo 3 (some .int) [(0, 8, 11, 18)] 2 := ⟨gin 1173 (by decide +kernel) (by decide +kernel), nw_L_undo, ni_L, by decide +kernel, t_L_undo⟩
set_option maxHeartbeats 1000000 in
theorem law_c22 {l : Launch} {D : va_G} {cA : Nat → ClassId} {p : Program} {e : Env} {s : State} {m : MethodId} {below : List Frame} {meth : Method} {c : Code} {b L : Nat} {xs : Nat → Int32} {Q : State → Prop} {n np T cells slots : Nat} {S : S4} {ad : Ad} (X : GX D cA (dL np) ad (lwA s) 9 p s m #[Value.ref b] meth c RL cL_law) (hI : LI np T S) (hn : np ≤ n) (hT : T ≤ 200 * n) (hn5 : n < 512) (hZ : gZ (lwA s) s s.heap) (hY : gY (lwA s) s s.heap) (hl : l.stackTraces = false) (hX : va_X b L xs s s.heap) (hbl : b < s.heap.size) (h7 : 7 * n + 7 ≤ L) (hL : L ≤ 3584) (hc : cells + 150 ≤ room_1.cells) (hs : slots + 400 ≤ room_1.slots) (kk : KK l D cA p e s m below meth c b Q n cells slots) : V D cA (dL np) ad (lwA s) 9 p l e room_1 s m #[Value.ref b] below meth c cells slots Q S 1625 (lvL ad b (nI (7 * n))) [] := by
  obtain ⟨k, S1, y, S2, e1, e2, g7, g36, hG⟩ := st_undo (fu := 9601) hI.1 (by omega) (by omega) (by decide)
  have hI2 : LI np (T) S2 := hI.next (fz_L_undo _ e1) (fr_X7_undo e2) hG
  refine V_aload_n X dL_law_1625 rfl 1 rfl ?_
  refine V_aload_n X dL_law_1626 rfl 3 rfl ?_
  refine V_callSCs X hZ [.ref (ad 6 0 0), .ref (ad 36 0 0)] dL_law_1627 w_L_undo ⟨Nat.le_of_ble_eq_true rfl, Nat.le_of_ble_eq_true rfl⟩ ⟨lrA hc (by decide), lrA hs (by decide)⟩ rfl (Nat.le_of_ble_eq_true rfl) (c_L_undo dL_K dL36 dL_P hl e1) ?_
  refine V_istore X dL_law_1630 ((6, .int k) :: lvL ad b (nI (7 * n))) (by decide) rfl ?_
  refine V_aload_n X dL_law_1632 rfl 3 rfl ?_
  refine V_callVs X [] dL_law_1633 m_L_196 v_X7_undo ⟨Nat.le_of_ble_eq_true rfl, Nat.le_of_ble_eq_true rfl⟩ ⟨lrA hc (by decide), lrA hs (by decide)⟩ rfl (Nat.le_of_ble_eq_true rfl) (gm7 dL_M) rfl cl7 (c_X7_undo dL_M e2) ?_
  exact law_tail X dL_M dL36 ⟨lrA hc (by decide), lrA hs (by decide)⟩ g7 g36 dL_law_1636 dL_law_1638 dL_law_1639 dL_law_1642 dL_law_1644 dL_law_1649 dL_law_1651 dL_law_1654 dL_law_1655 dL_law_1656 dL_law_1657 dL_law_1659 dL_law_1660 dL_law_1661 dL_law_1666 (by decide) (V_widen (Nat.add_le_add_left (by decide) _) (Nat.add_le_add_left (by decide) _) (kk (np) (T) S2 ad (by omega) (by omega) hI2 X))
theorem w_L_restoreSnapshot : MLW RL 201 yL_restoreSnapshot cL_restoreSnapshot 3 (some .int) [(0, 8, 11, 18)] 2 := ⟨gin 1181 (by decide +kernel) (by decide +kernel), nw_L_restoreSnapshot, ni_L, by decide +kernel, t_L_restoreSnapshot⟩
set_option maxHeartbeats 1000000 in
theorem law_c24 {l : Launch} {D : va_G} {cA : Nat → ClassId} {p : Program} {e : Env} {s : State} {m : MethodId} {below : List Frame} {meth : Method} {c : Code} {b L : Nat} {xs : Nat → Int32} {Q : State → Prop} {n np T cells slots : Nat} {S : S4} {ad : Ad} (X : GX D cA (dL np) ad (lwA s) 9 p s m #[Value.ref b] meth c RL cL_law) (hI : LI np T S) (hn : np ≤ n) (hT : T ≤ 200 * n) (hn5 : n < 512) (hZ : gZ (lwA s) s s.heap) (hY : gY (lwA s) s s.heap) (hl : l.stackTraces = false) (hX : va_X b L xs s s.heap) (hbl : b < s.heap.size) (h7 : 7 * n + 7 ≤ L) (hL : L ≤ 3584) (hc : cells + 150 ≤ room_1.cells) (hs : slots + 400 ≤ room_1.slots) (kk : KK l D cA p e s m below meth c b Q n cells slots) : V D cA (dL np) ad (lwA s) 9 p l e room_1 s m #[Value.ref b] below meth c cells slots Q S 1682 (lvL ad b (nI (7 * n))) [] := by
  obtain ⟨k, S1, y, S2, e1, e2, g7, g36, hG⟩ := st_restoreSnapshot (fu := 9601) hI.1 (by omega) (by omega) (by decide)
  have hI2 : LI np (T) S2 := hI.next (fz_L_restoreSnapshot _ e1) (fr_X7_restoreSnapshot e2) hG
  refine V_aload_n X dL_law_1682 rfl 1 rfl ?_
  refine V_aload_n X dL_law_1683 rfl 3 rfl ?_
  refine V_callSCs X hZ [.ref (ad 6 0 0), .ref (ad 36 0 0)] dL_law_1684 w_L_restoreSnapshot ⟨Nat.le_of_ble_eq_true rfl, Nat.le_of_ble_eq_true rfl⟩ ⟨lrA hc (by decide), lrA hs (by decide)⟩ rfl (Nat.le_of_ble_eq_true rfl) (c_L_restoreSnapshot dL_K dL36 dL_P hl e1) ?_
  refine V_istore X dL_law_1687 ((6, .int k) :: lvL ad b (nI (7 * n))) (by decide) rfl ?_
  refine V_aload_n X dL_law_1689 rfl 3 rfl ?_
  refine V_callVs X [] dL_law_1690 m_L_203 v_X7_restoreSnapshot ⟨Nat.le_of_ble_eq_true rfl, Nat.le_of_ble_eq_true rfl⟩ ⟨lrA hc (by decide), lrA hs (by decide)⟩ rfl (Nat.le_of_ble_eq_true rfl) (gm7 dL_M) rfl cl7 (c_X7_restoreSnapshot dL_M e2) ?_
  exact law_tail X dL_M dL36 ⟨lrA hc (by decide), lrA hs (by decide)⟩ g7 g36 dL_law_1693 dL_law_1695 dL_law_1696 dL_law_1699 dL_law_1701 dL_law_1706 dL_law_1708 dL_law_1711 dL_law_1712 dL_law_1713 dL_law_1714 dL_law_1716 dL_law_1717 dL_law_1718 dL_law_1723 (by decide) (V_widen (Nat.add_le_add_left (by decide) _) (Nat.add_le_add_left (by decide) _) (kk (np) (T) S2 ad (by omega) (by omega) hI2 X))
