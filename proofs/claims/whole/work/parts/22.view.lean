/-! the reference's numbers as a view -/
abbrev Vw : Type := Nat → Nat → Nat → Int32
def us (v : Vw) (k i j : Nat) (x : Int32) : Vw := fun k' i' j' => if k' = k ∧ i' = i ∧ j' = j then x else v k' i' j'
theorem us_self (v : Vw) (k i j : Nat) (x : Int32) : us v k i j x k i j = x := if_pos ⟨rfl, rfl, rfl⟩
theorem us_ne {v : Vw} {k i j k' i' j' : Nat} {x : Int32} (h : ¬ (k' = k ∧ i' = i ∧ j' = j)) : us v k i j x k' i' j' = v k' i' j' := if_neg h
theorem us_app (v : Vw) (k i j k' i' j' : Nat) (x : Int32) : us v k i j x k' i' j' = if k' = k ∧ i' = i ∧ j' = j then x else v k' i' j' := rfl
def inV : Nat → Nat → Nat → Bool
  | 0, i, j => decide (i = 0 ∧ j < 30)
  | 1, i, j => decide (i < 3 ∧ j < 13)
  | 2, i, j => decide (i < 8 ∧ j < 15)
  | 3, i, j => decide (i < 5 ∧ j < 52)
  | 4, i, j => decide (i < 60 ∧ j < 12)
  | 5, i, j => decide (i = 0 ∧ j < 60)
  | 6, i, j => decide (i = 0 ∧ j < 7)
  | _, _, _ => false
def ofs : Nat → Nat → Nat → Nat
  | 1, i, j => 13 * i + j
  | 2, i, j => 15 * i + j
  | 3, i, j => 52 * i + j
  | 4, i, j => 12 * i + j
  | _, _, j => j
def bas : Nat → Nat
  | 0 => 0 | 1 => 30 | 2 => 69 | 3 => 189 | 4 => 449 | 5 => 1169 | _ => 1229
theorem inV_lt {k i j : Nat} (h : inV k i j = true) : k < 7 := by
  rcases k with _|_|_|_|_|_|_|k
  all_goals first | omega | (simp [inV] at h)
theorem ofs_inj {k i j i' j' : Nat} (h : inV k i j = true) (h' : inV k i' j' = true) (e : ofs k i j = ofs k i' j') : i = i' ∧ j = j' := by
  rcases k with _|_|_|_|_|_|_|k
  all_goals (simp [inV] at h h'; try simp [ofs] at e)
  all_goals omega
theorem ofs_lt {k i j : Nat} (h : inV k i j = true) : bas k + ofs k i j < bas (k + 1) ∨ (k = 6 ∧ ofs k i j < 7) := by
  rcases k with _|_|_|_|_|_|_|k
  all_goals (simp [inV] at h; try simp [ofs, bas])
  all_goals omega
def live (Z : S4) : Vw := fun k i j => if inV k i j = true then (if k = 6 then Z 7 0 0 (7 + j) else Z (24 + k) 0 0 (ofs k i j)) else 0
theorem live_app (Z : S4) (k i j : Nat) : live Z k i j = if inV k i j = true then (if k = 6 then Z 7 0 0 (7 + j) else Z (24 + k) 0 0 (ofs k i j)) else 0 := rfl
def rowv (Z : S4) (a o : Nat) : Vw := fun k i j => if inV k i j = true then Z a 0 0 (o + bas k + ofs k i j) else 0
theorem u4_app (S : S4) (k t i j k' t' i' j' : Nat) (x : Int32) : u4 S k t i j x k' t' i' j' = if k' = k ∧ t' = t ∧ i' = i ∧ j' = j then x else S k' t' i' j' := by
  unfold u4 w4
  by_cases h : k' = k ∧ t' = t ∧ i' = i
  · obtain ⟨rfl, rfl, rfl⟩ := h
    rw [if_pos ⟨rfl, rfl, rfl⟩]
    unfold upd
    by_cases hj : j' = j
    · rw [if_pos hj, if_pos ⟨rfl, rfl, rfl, hj⟩]
    · rw [if_neg hj, if_neg (fun z => hj z.2.2.2)]
  · rw [if_neg h, if_neg (fun z => h ⟨z.1, z.2.1, z.2.2.1⟩)]
theorem live_u {Z : S4} {k0 c w : Nat} {x : Int32} (hk : k0 < 6) (hi : inV k0 c w = true) : live (u4 Z (24 + k0) 0 0 (ofs k0 c w) x) = us (live Z) k0 c w x := by
  funext k i j
  rw [live_app, us_app, live_app]
  by_cases h : inV k i j = true
  · rw [if_pos h, if_pos h]
    by_cases h6 : k = 6
    · rw [if_pos h6, if_pos h6, u4_app, if_neg (by omega), if_neg (by omega)]
    · rw [if_neg h6, if_neg h6, u4_app]
      by_cases e : k = k0 ∧ i = c ∧ j = w
      · obtain ⟨rfl, rfl, rfl⟩ := e
        rw [if_pos ⟨rfl, rfl, rfl, rfl⟩, if_pos ⟨rfl, rfl, rfl⟩]
      · rw [if_neg e, if_neg]
        rintro ⟨e1, -, -, e2⟩
        obtain rfl : k = k0 := by omega
        obtain ⟨rfl, rfl⟩ := ofs_inj h hi e2
        exact e ⟨rfl, rfl, rfl⟩
  · rw [if_neg h, if_neg h, if_neg]
    rintro ⟨rfl, rfl, rfl⟩
    exact h hi
theorem live_u7 {Z : S4} {w : Nat} {x : Int32} (hw : w < 7) : live (u4 Z 7 0 0 (7 + w) x) = us (live Z) 6 0 w x := by
  funext k i j
  rw [live_app, us_app, live_app]
  by_cases h : inV k i j = true
  · have hk := inV_lt h
    rw [if_pos h, if_pos h]
    by_cases h6 : k = 6
    · subst h6
      have h0 : i = 0 ∧ j < 7 := by simpa [inV] using h
      rw [if_pos rfl, if_pos rfl, u4_app]
      by_cases e : j = w
      · rw [if_pos ⟨rfl, rfl, rfl, by omega⟩, if_pos ⟨rfl, h0.1, e⟩]
      · rw [if_neg (by omega), if_neg (fun z => e z.2.2)]
    · rw [if_neg h6, if_neg h6, u4_app, if_neg (by omega), if_neg (by omega)]
  · rw [if_neg h, if_neg h, if_neg]
    rintro ⟨rfl, rfl, rfl⟩
    exact h (by simp [inV, hw])
theorem live_un {Z : S4} {k0 t i0 j0 : Nat} {x : Int32} (hk : ¬ (24 ≤ k0 ∧ k0 < 30)) (h7 : k0 = 7 → j0 < 7 ∨ 14 ≤ j0) : live (u4 Z k0 t i0 j0 x) = live Z := by
  funext k i j
  unfold live
  by_cases h : inV k i j = true
  · have hk' := inV_lt h
    rw [if_pos h, if_pos h]
    by_cases h6 : k = 6
    · subst h6
      have h0 : i = 0 ∧ j < 7 := by simpa [inV] using h
      rw [if_pos rfl, if_pos rfl, u4_app, if_neg]
      rintro ⟨e, -, -, e2⟩
      have := h7 e.symm
      omega
    · rw [if_neg h6, if_neg h6, u4_app, if_neg (by omega)]
  · rw [if_neg h, if_neg h]
theorem live_fs {t : Nat} {S S' : S4} (h : FS t S S') : live S' = live S := by
  funext k i j
  unfold live
  by_cases hk : inV k i j = true
  · have hk' := inV_lt hk
    rw [if_pos hk, if_pos hk, h 7 0 (by simp [stk]), h (24 + k) 0 (by simp [stk]; omega)]
  · rw [if_neg hk, if_neg hk]
theorem rowv_u {Z : S4} {k0 t i0 j0 a o : Nat} {x : Int32} (hk : k0 ≠ a) : rowv (u4 Z k0 t i0 j0 x) a o = rowv Z a o := by
  funext k i j
  unfold rowv
  by_cases h : inV k i j = true
  · rw [if_pos h, if_pos h, u4_app, if_neg (fun z => hk z.1.symm)]
  · rw [if_neg h, if_neg h]
/-! the reference's writers -/
def zb (Z : S4) (j : Nat) (x : Int32) : S4 := u4 Z 24 0 0 j x
def zs (Z : S4) (s w : Nat) (x : Int32) : S4 := u4 Z 25 0 0 (13 * s + w) x
def zc (Z : S4) (c w : Nat) (x : Int32) : S4 := u4 Z 26 0 0 (15 * c + w) x
def zl (Z : S4) (p w : Nat) (x : Int32) : S4 := u4 Z 27 0 0 (52 * p + w) x
def zp (Z : S4) (p w : Nat) (x : Int32) : S4 := u4 Z 28 0 0 (12 * p + w) x
def zg (Z : S4) (j : Nat) (x : Int32) : S4 := u4 Z 29 0 0 j x
def zn (Z : S4) (j : Nat) (x : Int32) : S4 := u4 Z 7 0 0 (7 + j) x
theorem live_zb {Z : S4} {j : Nat} {x : Int32} (h : j < 30) : live (zb Z j x) = us (live Z) 0 0 j x := live_u (k0 := 0) (by decide) (by simp [inV, h])
theorem live_zs {Z : S4} {s w : Nat} {x : Int32} (hs : s < 3) (h : w < 13) : live (zs Z s w x) = us (live Z) 1 s w x := live_u (k0 := 1) (by decide) (by simp [inV, h, hs])
theorem live_zc {Z : S4} {s w : Nat} {x : Int32} (hs : s < 8) (h : w < 15) : live (zc Z s w x) = us (live Z) 2 s w x := live_u (k0 := 2) (by decide) (by simp [inV, h, hs])
theorem live_zl {Z : S4} {s w : Nat} {x : Int32} (hs : s < 5) (h : w < 52) : live (zl Z s w x) = us (live Z) 3 s w x := live_u (k0 := 3) (by decide) (by simp [inV, h, hs])
theorem live_zp {Z : S4} {s w : Nat} {x : Int32} (hs : s < 60) (h : w < 12) : live (zp Z s w x) = us (live Z) 4 s w x := live_u (k0 := 4) (by decide) (by simp [inV, h, hs])
theorem live_zg {Z : S4} {j : Nat} {x : Int32} (h : j < 60) : live (zg Z j x) = us (live Z) 5 0 j x := live_u (k0 := 5) (by decide) (by simp [inV, h])
theorem live_zn {Z : S4} {j : Nat} {x : Int32} (h : j < 7) : live (zn Z j x) = us (live Z) 6 0 j x := live_u7 h
/-! the reference's readers -/
theorem rd_b (Z : S4) {j : Nat} (h : j < 30) : Z 24 0 0 j = live Z 0 0 j := by simp [live, inV, ofs, h]
theorem rd_s (Z : S4) {s w : Nat} (hs : s < 3) (h : w < 13) : Z 25 0 0 (13 * s + w) = live Z 1 s w := by simp [live, inV, ofs, h, hs]
theorem rd_c (Z : S4) {s w : Nat} (hs : s < 8) (h : w < 15) : Z 26 0 0 (15 * s + w) = live Z 2 s w := by simp [live, inV, ofs, h, hs]
theorem rd_l (Z : S4) {s w : Nat} (hs : s < 5) (h : w < 52) : Z 27 0 0 (52 * s + w) = live Z 3 s w := by simp [live, inV, ofs, h, hs]
theorem rd_p (Z : S4) {s w : Nat} (hs : s < 60) (h : w < 12) : Z 28 0 0 (12 * s + w) = live Z 4 s w := by simp [live, inV, ofs, h, hs]
theorem rd_g (Z : S4) {j : Nat} (h : j < 60) : Z 29 0 0 j = live Z 5 0 j := by simp [live, inV, ofs, h]
theorem rd_n0 (Z : S4) : Z 7 0 0 7 = live Z 6 0 0 := by simp [live, inV]
theorem rd_n1 (Z : S4) : Z 7 0 0 8 = live Z 6 0 1 := by simp [live, inV]
theorem rd_n2 (Z : S4) : Z 7 0 0 9 = live Z 6 0 2 := by simp [live, inV]
theorem rd_n3 (Z : S4) : Z 7 0 0 10 = live Z 6 0 3 := by simp [live, inV]
theorem rd_n4 (Z : S4) : Z 7 0 0 11 = live Z 6 0 4 := by simp [live, inV]
theorem rd_n5 (Z : S4) : Z 7 0 0 12 = live Z 6 0 5 := by simp [live, inV]
theorem rd_n6 (Z : S4) : Z 7 0 0 13 = live Z 6 0 6 := by simp [live, inV]
theorem n_ofStation {Z : S4} {s w : Nat} (hs : s < 3) (hw : w < 13) : s_X7_ofStation (nI s) (nI w) Z = some (live Z 1 s w) := by rw [p_ofStation hs hw, rd_s Z hs hw]
theorem n_ofChute {Z : S4} {c w : Nat} (hc : c < 8) (hw : w < 15) : s_X7_ofChute (nI c) (nI w) Z = some (live Z 2 c w) := by rw [p_ofChute hc hw, rd_c Z hc hw]
theorem n_ofPlan {Z : S4} {c w : Nat} (hc : c < 5) (hw : w < 52) : s_X7_ofPlan (nI c) (nI w) Z = some (live Z 3 c w) := by rw [p_ofPlan hc hw, rd_l Z hc hw]
theorem n_ofParcel {Z : S4} {c w : Nat} (hc : c < 60) (hw : w < 12) : s_X7_ofParcel (nI c) (nI w) Z = some (live Z 4 c w) := by rw [p_ofParcel hc hw, rd_p Z hc hw]
theorem n_ofRule {Z : S4} {c r w : Nat} (hc : c < 5) (hr : r < 8) (hw : w < 6) : s_X7_ofRule (nI c) (nI r) (nI w) Z = some (live Z 3 c (4 + 6 * r + w)) := by
  have e : (((52 : Int32) * nI c) + (4 : Int32)) + ((6 : Int32) * nI r) + nI w = nI (52 * c + (4 + 6 * r + w)) := by
    rw [show (52 : Int32) = nI 52 from rfl, show (4 : Int32) = nI 4 from rfl, show (6 : Int32) = nI 6 from rfl, pk_mul, pk_mul, nI_add, nI_add, nI_add]
    congr 1
    omega
  obtain ⟨h1, h2⟩ := idx_nI (N := 260) e (by omega) (by omega)
  unfold s_X7_ofRule
  rw [gd_t h1, h2, rd_l Z hc (by omega)]
theorem n_setsChute {Z : S4} {c w : Nat} {v : Int32} (hc : c < 8) (hw : w < 15) : s_X7_setsChute (nI c) (nI w) v Z = some (zc Z c w v) := p_setsChute hc hw
theorem n_addsChute {Z : S4} {c w : Nat} {v : Int32} (hc : c < 8) (hw : w < 15) : s_X7_addsChute (nI c) (nI w) v Z = some (zc Z c w (live Z 2 c w + v)) := by
  have e : (15 : Int32) * nI c + nI w = nI (15 * c + w) := by rw [show (15 : Int32) = nI 15 from rfl, pk_mul, nI_add]
  obtain ⟨h1, h2⟩ := idx_nI (N := 120) e (by omega) (by omega)
  unfold s_X7_addsChute
  rw [gd_t h1, gd_t h1, h2, rd_c Z hc hw]
  rfl
theorem n_setsParcel {Z : S4} {c w : Nat} {v : Int32} (hc : c < 60) (hw : w < 12) : s_X7_setsParcel (nI c) (nI w) v Z = some (zp Z c w v) := by
  have e : (12 : Int32) * nI c + nI w = nI (12 * c + w) := by rw [show (12 : Int32) = nI 12 from rfl, pk_mul, nI_add]
  obtain ⟨h1, h2⟩ := idx_nI (N := 720) e (by omega) (by omega)
  unfold s_X7_setsParcel
  rw [gd_t h1, h2]
  rfl
theorem q_ofStation {Z : S4} {s w : Nat} (hs : s < 3) (hw : w < 13) : s_X7_ofStation (nI s) (OfNat.ofNat w) Z = some (live Z 1 s w) := n_ofStation hs hw
theorem q_ofChute {Z : S4} {c w : Nat} (hc : c < 8) (hw : w < 15) : s_X7_ofChute (nI c) (OfNat.ofNat w) Z = some (live Z 2 c w) := n_ofChute hc hw
theorem q_ofPlan {Z : S4} {c w : Nat} (hc : c < 5) (hw : w < 52) : s_X7_ofPlan (nI c) (OfNat.ofNat w) Z = some (live Z 3 c w) := n_ofPlan hc hw
theorem q_ofParcel {Z : S4} {c w : Nat} (hc : c < 60) (hw : w < 12) : s_X7_ofParcel (nI c) (OfNat.ofNat w) Z = some (live Z 4 c w) := n_ofParcel hc hw
theorem q_ofRule {Z : S4} {c r w : Nat} (hc : c < 5) (hr : r < 8) (hw : w < 6) : s_X7_ofRule (nI c) (nI r) (OfNat.ofNat w) Z = some (live Z 3 c (4 + 6 * r + w)) := n_ofRule hc hr hw
theorem q_setsChute {Z : S4} {c w : Nat} {v : Int32} (hc : c < 8) (hw : w < 15) : s_X7_setsChute (nI c) (OfNat.ofNat w) v Z = some (zc Z c w v) := n_setsChute hc hw
theorem q_addsChute {Z : S4} {c w : Nat} {v : Int32} (hc : c < 8) (hw : w < 15) : s_X7_addsChute (nI c) (OfNat.ofNat w) v Z = some (zc Z c w (live Z 2 c w + v)) := n_addsChute hc hw
theorem q_setsParcel {Z : S4} {c w : Nat} {v : Int32} (hc : c < 60) (hw : w < 12) : s_X7_setsParcel (nI c) (OfNat.ofNat w) v Z = some (zp Z c w v) := n_setsParcel hc hw
