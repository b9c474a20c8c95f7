/-! the digits that getChars puts, as one row -/
def gch (b P : Nat) (Z : S4) : S4 := if b < 10 then u4 Z 9 0 0 (P - 1) (nI (48 + b % 10)) else u4 (u4 Z 9 0 0 (P - 1) (nI (48 + b % 10))) 9 0 0 (P - 1 - 1) (nI (48 + b / 10))
def dgr (a w : Nat) (S : S4) : S4 := w4 S 9 0 0 (fun j => if w ≤ j ∧ j < w + nsz a then ndg a (nsz a) (j - w) else S 9 0 0 j)
section GC
variable {a w : Nat} {S : S4}
theorem w4_u4 {k t i j : Nat} {x : Int32} : u4 S k t i j x = w4 S k t i (upd (S k t i) j x) := rfl
theorem w4_w4 {k t i : Nat} {r r' : Nat → Int32} : w4 (w4 S k t i r) k t i r' = w4 S k t i r' := by
  funext k1 t1 i1
  unfold w4
  by_cases h : k1 = k ∧ t1 = t ∧ i1 = i
  · rw [if_pos h, if_pos h]
  · rw [if_neg h, if_neg h, if_neg h]
theorem w4_at {k t i : Nat} {r : Nat → Int32} : w4 S k t i r k t i = r := w4_self S k t i r
theorem nsz_e1 (h : a < 10) : nsz a = 1 := if_pos h
theorem nsz_e2 (h : 10 ≤ a) (h2 : a < 100) : nsz a = 2 := by unfold nsz; rw [if_neg (by omega), if_pos (by omega)]
theorem nsz_e3 (h : 100 ≤ a) (h2 : a < 1000) : nsz a = 3 := by unfold nsz; rw [if_neg (by omega), if_neg (by omega), if_pos (by omega)]
theorem nsz_e4 (h : 1000 ≤ a) : nsz a = 4 := by unfold nsz; rw [if_neg (by omega), if_neg (by omega), if_neg (by omega)]
theorem gch_1 (h : a < 10) : gch a (w + 1) S = dgr a w S := by
  unfold gch dgr
  rw [nsz_e1 h, if_pos h, w4_u4]
  congr 1
  funext j
  unfold upd
  by_cases e : j = w
  · subst e
    rw [if_pos (by omega), if_pos (by omega), Nat.sub_self]
    exact congrArg nI (show 48 + a % 10 = 48 + a / 1 % 10 by omega)
  · rw [if_neg (by omega), if_neg (by omega)]
theorem gch_2 (h : 10 ≤ a) (h2 : a < 100) : gch a (w + 2) S = dgr a w S := by
  unfold gch dgr
  rw [nsz_e2 h h2, if_neg (by omega), w4_u4, w4_u4, w4_w4, w4_at]
  congr 1
  funext j
  unfold upd
  by_cases e : j = w
  · subst e
    rw [if_pos (by omega), if_pos (by omega), Nat.sub_self]
    exact congrArg nI (show 48 + a / 10 = 48 + a / 10 % 10 by omega)
  · by_cases e1 : j = w + 1
    · subst e1
      rw [if_neg (by omega), if_pos (by omega), if_pos (by omega), show w + 1 - w = 1 by omega]
      exact congrArg nI (show 48 + a % 10 = 48 + a / 1 % 10 by omega)
    · rw [if_neg (by omega), if_neg (by omega), if_neg (by omega)]
theorem gch_3 (h : 100 ≤ a) (h2 : a < 1000) : gch (a / 100) (w + 3 - 1 - 1) (u4 (u4 S 9 0 0 (w + 3 - 1) (nI (48 + a % 100 % 10))) 9 0 0 (w + 3 - 1 - 1) (nI (48 + a % 100 / 10))) = dgr a w S := by
  unfold gch dgr
  rw [nsz_e3 h h2, if_pos (by omega), w4_u4, w4_u4, w4_w4, w4_at, w4_u4, w4_w4, w4_at]
  congr 1
  funext j
  unfold upd
  by_cases e : j = w
  · subst e
    rw [if_pos (by omega), if_pos (by omega), Nat.sub_self]
    exact congrArg nI (show 48 + a / 100 % 10 = 48 + a / 100 % 10 by omega)
  · by_cases e1 : j = w + 1
    · subst e1
      rw [if_neg (by omega), if_pos (by omega), if_pos (by omega), show w + 1 - w = 1 by omega]
      exact congrArg nI (show 48 + a % 100 / 10 = 48 + a / 10 % 10 by omega)
    · by_cases e2 : j = w + 2
      · subst e2
        rw [if_neg (by omega), if_neg (by omega), if_pos (by omega), if_pos (by omega), show w + 2 - w = 2 by omega]
        exact congrArg nI (show 48 + a % 100 % 10 = 48 + a / 1 % 10 by omega)
      · rw [if_neg (by omega), if_neg (by omega), if_neg (by omega), if_neg (by omega)]
theorem gch_4 (h : 1000 ≤ a) (h2 : a ≤ 9999) : gch (a / 100) (w + 4 - 1 - 1) (u4 (u4 S 9 0 0 (w + 4 - 1) (nI (48 + a % 100 % 10))) 9 0 0 (w + 4 - 1 - 1) (nI (48 + a % 100 / 10))) = dgr a w S := by
  unfold gch dgr
  rw [nsz_e4 h, if_neg (by omega), w4_u4, w4_u4, w4_w4, w4_at, w4_u4, w4_w4, w4_at, w4_u4, w4_w4, w4_at]
  congr 1
  funext j
  unfold upd
  by_cases e : j = w
  · subst e
    rw [if_pos (by omega), if_pos (by omega), Nat.sub_self]
    exact congrArg nI (show 48 + a / 100 / 10 = 48 + a / 1000 % 10 by omega)
  · by_cases e1 : j = w + 1
    · subst e1
      rw [if_neg (by omega), if_pos (by omega), if_pos (by omega), show w + 1 - w = 1 by omega]
      exact congrArg nI (show 48 + a / 100 % 10 = 48 + a / 100 % 10 by omega)
    · by_cases e2 : j = w + 2
      · subst e2
        rw [if_neg (by omega), if_neg (by omega), if_pos (by omega), if_pos (by omega), show w + 2 - w = 2 by omega]
        exact congrArg nI (show 48 + a % 100 / 10 = 48 + a / 10 % 10 by omega)
      · by_cases e3 : j = w + 3
        · subst e3
          rw [if_neg (by omega), if_neg (by omega), if_neg (by omega), if_pos (by omega), if_pos (by omega), show w + 3 - w = 3 by omega]
          exact congrArg nI (show 48 + a % 100 % 10 = 48 + a / 1 % 10 by omega)
        · rw [if_neg (by omega), if_neg (by omega), if_neg (by omega), if_neg (by omega), if_neg (by omega)]
theorem gch_all (h : a ≤ 9999) : (a < 100 → gch a (w + nsz a) S = dgr a w S) ∧ (100 ≤ a → gch (a / 100) (w + nsz a - 1 - 1) (u4 (u4 S 9 0 0 (w + nsz a - 1) (nI (48 + a % 100 % 10))) 9 0 0 (w + nsz a - 1 - 1) (nI (48 + a % 100 / 10))) = dgr a w S) := by
  by_cases h1 : a < 10
  · rw [nsz_e1 h1]; exact ⟨fun _ => gch_1 h1, fun z => by omega⟩
  · by_cases h2 : a < 100
    · rw [nsz_e2 (by omega) h2]; exact ⟨fun _ => gch_2 (by omega) h2, fun z => by omega⟩
    · by_cases h3 : a < 1000
      · rw [nsz_e3 (by omega) h3]; exact ⟨fun z => by omega, fun _ => gch_3 (by omega) h3⟩
      · rw [nsz_e4 (by omega)]; exact ⟨fun z => by omega, fun _ => gch_4 (by omega) h⟩
theorem nsz_100 (h : a ≤ 9999) (h1 : 100 ≤ a) : nsz a = nsz (a / 100) + 2 := by
  by_cases h2 : a < 1000
  · rw [nsz_e3 h1 h2, nsz_e1 (a := a / 100) (by omega)]
  · rw [nsz_e4 (by omega), nsz_e2 (a := a / 100) (by omega) (by omega)]
end GC
