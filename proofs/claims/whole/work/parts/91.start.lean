/-! what the Statement gives of the start, as the world asks it -/
theorem tin {ps : List Nat} {ws : List Cond} (hp : ws = ps.filterMap (fun i => lw_tbl[i]?)) : ∀ w ∈ ws, w ∈ lw_tbl := fun w hw => by
  rw [hp] at hw
  obtain ⟨i, -, e⟩ := List.mem_filterMap.mp hw
  exact List.mem_of_getElem? e
theorem tat {w : Cond} (i : Nat) (h : lw_tbl[i]? = some w) : w ∈ lw_tbl := List.mem_of_getElem? h
abbrev nrL : List Cond := flatC (Jvm.Cond.and given_1 narrow_1)
theorem nat' {w : Cond} (i : Nat) (h : nrL[i]? = some w) : w ∈ nrL := List.mem_of_getElem? h
section ST0
variable {s : State} {args : Array Value}
theorem sel_up {y z : MethodName} {C : String} (hy : y.cls ≠ "java/lang/invoke/MethodHandle" ∧ y.cls ≠ "java/lang/invoke/VarHandle") (hz : z.cls = y.cls) (hsel : (Cond.selects C z z).before args s = true) (hpriv : (Cond.privateMethod y).before args s = true) (hinst : (Cond.instanceMethod y).before args s = true) :
    (Cond.selects C y y).before args s = true := by
  obtain ⟨c, r, m0, hc, -, hm0, -, mk0, hmk0, hni⟩ := Cond.selects_spec hsel
  obtain ⟨mk, methM, hnamed, hmethM, -, -⟩ := Cond.instanceMethod_spec hinst
  have hfound : s.methodFound? y.cls y.name y.desc = some mk := State.methodFound?_of_named hnamed hy
  have hcls : mk.cls = m0.cls := Option.some.inj ((findClass_of_methodNamed hnamed).symm.trans (by rw [← hz]; exact findClass_of_methodNamed hm0))
  have hsl : selectMethod {} s.vm c mk = .method mk := selectMethod_private hmethM (Cond.privateMethod_at hpriv mk methM hnamed hmethM)
  simp only [Cond.before, Cond.holds, Cond.value, hc, hfound, hnamed, hsl, hcls, hmk0]
  simp; exact hni
theorem law_AO (hts : ∀ w ∈ lw_tbl, w.before args s = true) : ∀ C ∈ gAO, va_AO C s := fun C hC => by
  have h : ∀ w ∈ gAO.map (fun C => Cond.arrayOver (.object C)), w ∈ lw_tbl := tin (ps := [123, 125, 127, 129, 360]) (by decide +kernel)
  exact va_AO.of (hts _ (h _ (List.mem_map.mpr ⟨C, hC, rfl⟩)))
theorem law_K (hts : ∀ w ∈ lw_tbl, w.before args s = true) : ∃ (D : va_G) (cA : Nat → ClassId), gK D cA s := by
  have hg : ∀ w ∈ gT, w.before args s = true := fun w h => hts w (gT_in h)
  have hw : ∀ (C : String) (T : u_T) (N ci : Nat) (ty : Nat → FieldType), GC ci C T N ty → Cond.instantiable C N ∈ gT → ∃ q : ClassId × (Nat → Nat), u_Kn s C T N q.1 q.2 := fun C T N ci ty g h => by
    obtain ⟨c, i, hk⟩ := u_known hg g.2.1 (hg _ h)
    exact ⟨(c, i), hk⟩
  obtain ⟨q0, h0⟩ := hw _ _ _ _ _ gc0 in_RX0
  obtain ⟨q1, h1⟩ := hw _ _ _ _ _ gc1 in_RX1
  obtain ⟨q2, h2⟩ := hw _ _ _ _ _ gc2 in_RX2
  obtain ⟨q3, h3⟩ := hw _ _ _ _ _ gc3 in_RX3
  obtain ⟨q4, h4⟩ := hw _ _ _ _ _ gc4 in_RX4
  obtain ⟨q5, h5⟩ := hw _ _ _ _ _ gc5 in_RX5
  obtain ⟨q6, h6⟩ := hw _ _ _ _ _ gc6 in_RX6
  obtain ⟨q7, h7⟩ := hw _ _ _ _ _ gc7 in_RX7
  obtain ⟨q8, h8⟩ := hw _ _ _ _ _ gc8 in_RJ4
  have pr : ∀ ty : FieldType, Cond.arrayClass ty ∈ lw_tbl → ∃ c, ArrOfT s c ty ∧ s.vm.findClass ("[" ++ ty.toString) = some c := fun ty h => by
    obtain ⟨c, k, comp, e1, e2, e3⟩ := Cond.arrayClass_spec (hts _ h)
    exact ⟨c, fun n z => ⟨fun k h => (by cases h), k, e2, comp, e3⟩, e1⟩
  have ob : ∀ C, C ∈ gAO → ∃ c, ArrOfT s c (.object C) ∧ va_RA s c (.object C) := fun C h => by
    obtain ⟨comp, c, k, e1, e2, e3, e4, e5⟩ := Cond.arrayOver_spec (law_AO hts C h)
    exact ⟨c, fun n z => ⟨fun k h => (by cases h), k, e3, comp, e4⟩, k, comp, e3, e4, e1, e5⟩
  obtain ⟨a0, x0, y0⟩ := pr .int (tat 153 (by decide +kernel))
  obtain ⟨a1, x1, y1⟩ := pr .char (tat 393 (by decide +kernel))
  obtain ⟨a2, x2, y2⟩ := ob RX4 (by decide)
  obtain ⟨a3, x3, y3⟩ := ob RX5 (by decide)
  obtain ⟨a4, x4, y4⟩ := ob RX0 (by decide)
  obtain ⟨a5, x5, y5⟩ := ob RX2 (by decide)
  obtain ⟨a6, x6, y6⟩ := ob RX1 (by decide)
  obtain ⟨a7, x7, y7⟩ := pr .long (tat 1902 (by decide +kernel))
  obtain ⟨a8, x8, y8⟩ := pr .double (tat 1903 (by decide +kernel))
  obtain ⟨a9, x9, y9⟩ := pr .byte (tat 394 (by decide +kernel))
  let Q : Nat → ClassId × (Nat → Nat) := fun c => match c with
    | 0 => q0 | 1 => q1 | 2 => q2 | 3 => q3 | 4 => q4 | 5 => q5 | 6 => q6 | 7 => q7 | _ => q8
  let B : Nat → ClassId := fun c => match c with
    | 0 => a0 | 1 => a1 | 2 => a2 | 3 => a3 | 4 => a4 | 5 => a5 | 6 => a6 | 7 => a7 | 8 => a8 | _ => a9
  refine ⟨(fun c => (Q c).1, fun c => (Q c).2), B, fun c q hq => ?_, fun k q hq => ?_⟩
  · have hc : c < 9 := (List.getElem?_eq_some_iff.mp hq).1
    rcases (by omega : c = 0 ∨ c = 1 ∨ c = 2 ∨ c = 3 ∨ c = 4 ∨ c = 5 ∨ c = 6 ∨ c = 7 ∨ c = 8) with rfl | rfl | rfl | rfl | rfl | rfl | rfl | rfl | rfl
    · cases hq; exact h0
    · cases hq; exact h1
    · cases hq; exact h2
    · cases hq; exact h3
    · cases hq; exact h4
    · cases hq; exact h5
    · cases hq; exact h6
    · cases hq; exact h7
    · cases hq; exact h8
  · have hc : k < 10 := (List.getElem?_eq_some_iff.mp hq).1
    rcases (by omega : k = 0 ∨ k = 1 ∨ k = 2 ∨ k = 3 ∨ k = 4 ∨ k = 5 ∨ k = 6 ∨ k = 7 ∨ k = 8 ∨ k = 9) with rfl | rfl | rfl | rfl | rfl | rfl | rfl | rfl | rfl | rfl
    · cases hq; exact ⟨x0, y0⟩
    · cases hq; exact ⟨x1, y1⟩
    · cases hq; exact ⟨x2, y2⟩
    · cases hq; exact ⟨x3, y3⟩
    · cases hq; exact ⟨x4, y4⟩
    · cases hq; exact ⟨x5, y5⟩
    · cases hq; exact ⟨x6, y6⟩
    · cases hq; exact ⟨x7, y7⟩
    · cases hq; exact ⟨x8, y8⟩
    · cases hq; exact ⟨x9, y9⟩
theorem law_N (hts : ∀ w ∈ lw_tbl, w.before args s = true) (hnr : ∀ w ∈ nrL, w.before args s = true) {D : va_G} {cA : Nat → ClassId} (hK : gK D cA s) : gN s := by
  refine ⟨fun w hw => ?_, fun q hq => ?_, fun q hq => ?_⟩
  · have h := hts w (tin (ps := [131, 155, 227, 586, 663, 870, 499, 592, 779, 884, 847, 1133, 501, 503, 505]) (by decide +kernel) w hw)
    rcases gNx_cases hw with ⟨a, i, x, b, rfl⟩ | ⟨n, rfl⟩ | ⟨x, rfl⟩ <;> exact va_Nw.of rfl h
  · have h : ∀ w ∈ gStr.map (fun q => Cond.stringRef RX6 q.1 q.2), w ∈ lw_tbl := tin (ps := [543, 589, 599, 629, 630, 646, 786, 805, 854, 861, 880, 891, 898, 911, 932, 959, 970, 1077, 1140, 1153, 1165, 1180, 1188]) (by decide +kernel)
    have hw := hts _ (h _ (List.mem_map.mpr ⟨q, hq, rfl⟩))
    obtain ⟨-, -, -, sa, -, -, -, -, -, hev⟩ := Cond.stringRef_spec (hK.1 6 _ rfl).2.1 hw
    exact ⟨sa, vk_R.of hw hev⟩
  · have h : ∀ q ∈ gNc, Cond.not (.castable q.1 q.2) ∈ nrL := by decide +kernel
    exact va_Nc.of (hnr _ (h q hq))
abbrev lwA (s : State) : Nat → Prop := fun q => s.heap.size ≤ q
theorem lwA_not {s : State} : ∀ a : Nat, a < s.heap.size → ¬ lwA s a := fun a h h2 => Nat.not_le.mpr h h2
theorem law_Z (hts : ∀ w ∈ lw_tbl, w.before args s = true) (hnr : ∀ w ∈ nrL, w.before args s = true) : gZ (lwA s) s s.heap :=
  ⟨vx_Zqof (hts _ (tat 524 (by decide +kernel))) (hts _ (tat 88 (by decide +kernel))) (hnr _ (nat' 5 (by decide +kernel))) lwA_not, vx_Zqof (hts _ (tat 526 (by decide +kernel))) (hts _ (tat 88 (by decide +kernel))) (hnr _ (nat' 6 (by decide +kernel))) lwA_not⟩
theorem dig1 : (nrL.drop 14).take 100 = (List.range 100).map (fun j => Cond.eq (.elem (.static "java/lang/Integer" "DigitOnes" "[B") (.int (Int32.ofNat j))) (.int (nI (48 + j % 10)))) := by decide +kernel
theorem dig2 : (nrL.drop 117).take 100 = (List.range 100).map (fun j => Cond.eq (.elem (.static "java/lang/Integer" "DigitTens" "[B") (.int (Int32.ofNat j))) (.int (nI (48 + j / 10)))) := by decide +kernel
theorem dig_at {a : Nat} {f : Nat → Cond} (h : (nrL.drop a).take 100 = (List.range 100).map f) {j : Nat} (hj : j < 100) : f j ∈ nrL := by
  have h1 : f j ∈ (nrL.drop a).take 100 := by rw [h]; exact List.mem_map.mpr ⟨j, List.mem_range.mpr hj, rfl⟩
  exact List.mem_of_mem_drop (List.mem_of_mem_take h1)
theorem law_Y (hts : ∀ w ∈ lw_tbl, w.before args s = true) (hnr : ∀ w ∈ nrL, w.before args s = true) : gY (lwA s) s s.heap := by
  refine ⟨⟨?_, ?_, ?_, ?_⟩, ?_, law_AO hts⟩
  · exact va_Zof (hts _ (tat 371 (by decide +kernel))) (hts _ (tat 85 (by decide +kernel))) (Cond.eq_int (b := .int 1) (hnr _ (nat' 4 (by decide +kernel))) rfl) lwA_not
  · obtain ⟨t, h1, h2⟩ := va_Tof (args := args) (s := s) (tm := .static "java/lang/Integer" "DigitOnes" "[B") (ty := .byte) (N := 100) (f := fun j => .int (nI (48 + j % 10))) (A := lwA s) (by decide) (hnr _ (nat' 12 (by decide +kernel))) (Cond.eq_int (b := .int 100) (hnr _ (nat' 13 (by decide +kernel))) rfl) (fun j hj => Cond.eq_int (hnr _ (dig_at dig1 hj)) rfl) lwA_not
    exact ⟨t, va_Zof (hts _ (tat 1339 (by decide +kernel))) (hts _ (tat 107 (by decide +kernel))) h1 lwA_not, h2⟩
  · obtain ⟨t, h1, h2⟩ := va_Tof (args := args) (s := s) (tm := .static "java/lang/Integer" "DigitTens" "[B") (ty := .byte) (N := 100) (f := fun j => .int (nI (48 + j / 10))) (A := lwA s) (by decide) (hnr _ (nat' 115 (by decide +kernel))) (Cond.eq_int (b := .int 100) (hnr _ (nat' 116 (by decide +kernel))) rfl) (fun j hj => Cond.eq_int (hnr _ (dig_at dig2 hj)) rfl) lwA_not
    exact ⟨t, va_Zof (hts _ (tat 1341 (by decide +kernel))) (hts _ (tat 107 (by decide +kernel))) h1 lwA_not, h2⟩
  · exact va_Zqof (hts _ (tat 1269 (by decide +kernel))) (hts _ (tat 104 (by decide +kernel))) (hnr _ (nat' 7 (by decide +kernel))) lwA_not
  · intro w hw
    have hs := hts (Cond.selects RJ4 yJ5_isLatin1_aae02 yJ5_isLatin1_aae02) (tat 1254 (by decide +kernel))
    simp only [gJw, List.mem_cons, List.not_mem_nil, or_false] at hw
    rcases hw with rfl | rfl
    · exact va_Nw.of rfl (sel_up (y := yJ5_ensureCapacityInternal_d00df) (z := yJ5_isLatin1_aae02) (by decide) rfl hs (hts _ (tat 1223 (by decide +kernel))) (hts _ (tat 1224 (by decide +kernel))))
    · exact va_Nw.of rfl (sel_up (y := yJ5_newCapacity_0f7a4) (z := yJ5_isLatin1_aae02) (by decide) rfl hs (hts _ (tat 1227 (by decide +kernel))) (hts _ (tat 1228 (by decide +kernel))))
end ST0
