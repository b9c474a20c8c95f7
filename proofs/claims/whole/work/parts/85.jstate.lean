/-! State's constructor (printed by jf.py) -/
/-- kinds of a state's cells -/
def sk (k : Nat) : Prop := k = 0 ∨ k = 1 ∨ k = 4 ∨ k = 5 ∨ (14 ≤ k ∧ k ≤ 21) ∨ k = 44 ∨ k = 45 ∨ k = 55 ∨ k = 56 ∨ k = 58
def skb (k : Nat) : Bool := k == 0 || k == 1 || k == 4 || k == 5 || (decide (14 ≤ k) && decide (k ≤ 21)) || k == 44 || k == 45 || k == 55 || k == 56 || k == 58
theorem skb_iff (k : Nat) : skb k = true ↔ sk k := by
  unfold skb sk
  simp only [Bool.or_eq_true, beq_iff_eq, Bool.and_eq_true, decide_eq_true_eq]
  omega
/-- where a state's cells lie: its object at b -/
def aS (ad : Ad) (t b : Nat) : Prop := (ad 44 t 0 = b ∧ ad 4 t 0 = b ∧ ad 55 t 0 = b + 1 ∧ ad 15 t 0 = b + 1 ∧ ad 56 t 0 = b + 2 ∧ ad 16 t 0 = b + 2 ∧ ad 17 t 0 = b + 3 ∧ ad 58 t 0 = b + 4 ∧ ad 18 t 0 = b + 4 ∧ ad 19 t 0 = b + 5 ∧ ad 20 t 0 = b + 6 ∧ ad 21 t 0 = b + 7) ∧ (∀ x, x < 3 → ad 45 t x = b + 8 + 2 * x ∧ ad 5 t x = b + 8 + 2 * x ∧ ad 14 t x = b + 9 + 2 * x) ∧ (∀ x, x < 8 → ad 0 t x = b + 14 + x) ∧ ∀ x, x < 60 → ad 1 t x = b + 22 + x
def NS (dm : Dm) (t : Nat) : Prop := ∀ k x, sk k → dm k t x → k = 44 ∧ x = 0
/-- the names while a state is being filled -/
def uP (a b c k x : Nat) : Prop := (x = 0 ∧ (k = 55 ∨ k = 56 ∨ k = 17 ∨ k = 58 ∨ k = 19 ∨ k = 20 ∨ k = 21)) ∨ ((k = 5 ∨ k = 14) ∧ x < a) ∨ (k = 0 ∧ x < b) ∨ (k = 1 ∧ x < c)
def dU (dm : Dm) (t a b c : Nat) : Dm := fun k t' x => (t' = t ∧ uP a b c k x) ∨ dm k t' x
def dE (dm : Dm) (t : Nat) : Dm := fun k t' x => (t' = t ∧ stK k x) ∨ (dm k t' x ∧ ¬ (t' = t ∧ k = 44))
/-- the row of a kind while a state is being filled -/
def zrow (a b c k : Nat) : Nat → Int32 := fun j => if k = 17 then -1 else if k = 44 then (if 9 ≤ j ∧ j ≤ 15 then 1 else 0) else if k = 55 then (if j < a then 1 else 0) else if k = 56 then (if j < b then 1 else 0) else if k = 58 then (if j < c then 1 else 0) else 0

def zS (S : S4) (t a b c : Nat) : S4 := fun k t' x => if t' = t ∧ skb k = true then zrow a b c k else S k t' x
section ZS
variable {S : S4} {t a b c k t' x j : Nat} {dm : Dm}
theorem zS_in (h : sk k) : zS S t a b c k t x = zrow a b c k := if_pos ⟨rfl, (skb_iff k).mpr h⟩
theorem zS_out (h : ¬ (t' = t ∧ sk k)) : zS S t a b c k t' x = S k t' x := if_neg (fun z => h ⟨z.1, (skb_iff k).mp z.2⟩)
theorem zS_44 (h : 9 ≤ j ∧ j ≤ 15) : zS S t a b c 44 t 0 j = 1 := by rw [zS_in (by unfold sk; omega)]; unfold zrow; rw [if_neg (by decide), if_pos rfl, if_pos h]
theorem zS_44' (h : j < 9) : zS S t a b c 44 t 0 j = 0 := by rw [zS_in (by unfold sk; omega)]; unfold zrow; rw [if_neg (by decide), if_pos rfl, if_neg (by omega)]
theorem rc_v {y : Int32} {q : Nat} (h : y = 1) : rc y q = .ref q := by rw [h]; rfl
theorem ro_v {y : Int32} {q : Nat} (h : y = 1) : ro y q = some q := by rw [h]; rfl
/-- a flag more in an array -/
theorem zS_flag {kf : Nat} {a' b' c' : Nat} (hd : dU dm t a' b' c' k t' x) (hkf : kf = 55 ∨ kf = 56 ∨ kf = 58) {i : Nat} (hrow : ∀ j, zrow a' b' c' kf j = if j = i then 1 else zrow a b c kf j) (hoth : ∀ k, k ≠ kf → zrow a' b' c' k = zrow a b c k) (hN : NS dm t) : zS S t a' b' c' k t' x = u4 (zS S t a b c) kf t 0 i 1 k t' x := by
  have hskf : sk kf := by unfold sk; omega
  funext j
  rw [u4_app]
  by_cases hk : t' = t ∧ sk k
  · obtain ⟨rfl, hsk⟩ := hk
    rw [zS_in hsk, zS_in hsk]
    by_cases e : k = kf
    · subst e
      have hx : x = 0 := by
        rcases hd with ⟨-, h⟩ | h
        · unfold uP at h; omega
        · exact (hN _ _ hsk h).2
      subst hx
      rw [hrow]
      by_cases ej : j = i
      · rw [if_pos ej, if_pos ⟨rfl, rfl, rfl, ej⟩]
      · rw [if_neg ej, if_neg (fun z => ej z.2.2.2)]
    · rw [hoth k e, if_neg (fun z => e z.1)]
  · rw [zS_out hk, zS_out hk, if_neg (fun z => hk ⟨z.2.1, by rw [z.1]; exact hskf⟩)]
end ZS
section AS
variable {ad : Ad} {t b x y k t' : Nat} {dm : Dm} {S : S4}
theorem as44 (h : aS ad t b) : ad 44 t 0 = b := h.1.1
theorem as4 (h : aS ad t b) : ad 4 t 0 = b := h.1.2.1
theorem as55 (h : aS ad t b) : ad 55 t 0 = b + 1 := h.1.2.2.1
theorem as15 (h : aS ad t b) : ad 15 t 0 = b + 1 := h.1.2.2.2.1
theorem as56 (h : aS ad t b) : ad 56 t 0 = b + 2 := h.1.2.2.2.2.1
theorem as16 (h : aS ad t b) : ad 16 t 0 = b + 2 := h.1.2.2.2.2.2.1
theorem as17 (h : aS ad t b) : ad 17 t 0 = b + 3 := h.1.2.2.2.2.2.2.1
theorem as58 (h : aS ad t b) : ad 58 t 0 = b + 4 := h.1.2.2.2.2.2.2.2.1
theorem as18 (h : aS ad t b) : ad 18 t 0 = b + 4 := h.1.2.2.2.2.2.2.2.2.1
theorem as19 (h : aS ad t b) : ad 19 t 0 = b + 5 := h.1.2.2.2.2.2.2.2.2.2.1
theorem as20 (h : aS ad t b) : ad 20 t 0 = b + 6 := h.1.2.2.2.2.2.2.2.2.2.2.1
theorem as21 (h : aS ad t b) : ad 21 t 0 = b + 7 := h.1.2.2.2.2.2.2.2.2.2.2.2
theorem as45 (h : aS ad t b) (hx : x < 3) : ad 45 t x = b + 8 + 2 * x := (h.2.1 x hx).1
theorem as5 (h : aS ad t b) (hx : x < 3) : ad 5 t x = b + 8 + 2 * x := (h.2.1 x hx).2.1
theorem as14 (h : aS ad t b) (hx : x < 3) : ad 14 t x = b + 9 + 2 * x := (h.2.1 x hx).2.2
theorem as0 (h : aS ad t b) (hx : x < 8) : ad 0 t x = b + 14 + x := h.2.2.1 x hx
theorem as1 (h : aS ad t b) (hx : x < 60) : ad 1 t x = b + 22 + x := h.2.2.2 x hx
theorem had45 (h : aS ad t b) (hx : x < 3) : ad 45 t x = b + 1 + (7 + 2 * x) := by rw [as45 h hx]; omega
theorem had14 (h : aS ad t b) (hx : x < 3) : ad 14 t x = b + 1 + (7 + 2 * x + 1) := by rw [as14 h hx]; omega
theorem had0 (h : aS ad t b) (hx : x < 8) : ad 0 t x = b + 1 + (13 + x) := by rw [as0 h hx]; omega
theorem had1 (h : aS ad t b) (hx : x < 60) : ad 1 t x = b + 1 + (21 + x) := by rw [as1 h hx]; omega
theorem hlast (h : ad k t x = b + y) : ad k t x + 1 = b + (y + 1) := by rw [h]; omega
theorem last_A (h : aS ad t b) (hx : x ≤ 3) : lastN (dU dm t x 0 0) ad (b + 1) (7 + 2 * x) := by
  cases x with
  | zero => exact Or.inr ⟨21, t, 0, Or.inl ⟨rfl, Or.inl ⟨rfl, by decide⟩⟩, by rw [as21 h]⟩
  | succ y => exact Or.inr ⟨14, t, y, Or.inl ⟨rfl, Or.inr (Or.inl ⟨Or.inr rfl, Nat.lt_succ_self y⟩)⟩, by rw [as14 h (by omega)]; omega⟩
theorem last_B (h : aS ad t b) (hx : x ≤ 8) : lastN (dU dm t 3 x 0) ad (b + 1) (13 + x) := by
  cases x with
  | zero => exact Or.inr ⟨14, t, 2, Or.inl ⟨rfl, Or.inr (Or.inl ⟨Or.inr rfl, by decide⟩)⟩, by rw [as14 h (by decide)]⟩
  | succ y => exact Or.inr ⟨0, t, y, Or.inl ⟨rfl, Or.inr (Or.inr (Or.inl ⟨rfl, Nat.lt_succ_self y⟩))⟩, by rw [as0 h (by omega)]; omega⟩
theorem last_C (h : aS ad t b) (hx : x ≤ 60) : lastN (dU dm t 3 8 x) ad (b + 1) (21 + x) := by
  cases x with
  | zero => exact Or.inr ⟨0, t, 7, Or.inl ⟨rfl, Or.inr (Or.inr (Or.inl ⟨rfl, by decide⟩))⟩, by rw [as0 h (by decide)]⟩
  | succ y => exact Or.inr ⟨1, t, y, Or.inl ⟨rfl, Or.inr (Or.inr (Or.inr ⟨rfl, Nat.lt_succ_self y⟩))⟩, by rw [as1 h (by omega)]; omega⟩
theorem dB_in (h : dU dm t 3 (x + 1) 0 k t' y) : dmu (dU dm t 3 x 0) 0 t x k t' y ∧ zS S t 3 x 0 k t' y = w4 (zS S t 3 x 0) 0 t x (fun _ => 0) k t' y := by
  refine ⟨?_, ?_⟩
  · rcases h with ⟨rfl, h⟩ | h
    · unfold uP at h
      unfold dmu dU uP
      omega
    · exact Or.inr (Or.inr h)
  · by_cases e : k = 0 ∧ t' = t ∧ y = x
    · obtain ⟨rfl, rfl, rfl⟩ := e
      rw [w4_self, zS_in (by unfold sk; omega)]
      rfl
    · rw [w4_ne e]
theorem dC_in (h : dU dm t 3 8 (x + 1) k t' y) : dmu (dU dm t 3 8 x) 1 t x k t' y ∧ zS S t 3 8 x k t' y = w4 (zS S t 3 8 x) 1 t x (fun _ => 0) k t' y := by
  refine ⟨?_, ?_⟩
  · rcases h with ⟨rfl, h⟩ | h
    · unfold uP at h
      unfold dmu dU uP
      omega
    · exact Or.inr (Or.inr h)
  · by_cases e : k = 1 ∧ t' = t ∧ y = x
    · obtain ⟨rfl, rfl, rfl⟩ := e
      rw [w4_self, zS_in (by unfold sk; omega)]
      rfl
    · rw [w4_ne e]
theorem dA_in (hN : NS dm t) (h : dU dm t (x + 1) 0 0 k t' y) : (k = 5 ∧ t' = t ∧ y = x) ∨ (dmu (dmu (dU dm t x 0 0) 45 t x) 14 t x k t' y ∧ ¬ (k = 45 ∧ t' = t ∧ y = x) ∧ zS S t x 0 0 k t' y = u4 (w4 (w4 (zS S t x 0 0) 45 t x (fun _ => 0)) 14 t x (fun _ => 0)) 45 t x 3 1 k t' y) := by
  by_cases e5 : k = 5 ∧ t' = t ∧ y = x
  · exact Or.inl e5
  · have n45 : ¬ (k = 45 ∧ t' = t ∧ y = x) := by
      rintro ⟨rfl, rfl, rfl⟩
      rcases h with ⟨-, h⟩ | h
      · unfold uP at h; omega
      · exact absurd (hN 45 _ (by unfold sk; omega) h).1 (by decide)
    refine Or.inr ⟨?_, n45, ?_⟩
    · rcases h with ⟨rfl, h⟩ | h
      · unfold uP at h
        unfold dmu dU uP
        omega
      · exact Or.inr (Or.inr (Or.inr h))
    · funext j
      rw [u4_app, if_neg (fun z => n45 ⟨z.1, z.2.1, z.2.2.1⟩)]
      by_cases e14 : k = 14 ∧ t' = t ∧ y = x
      · obtain ⟨rfl, rfl, rfl⟩ := e14
        rw [w4_self, zS_in (by unfold sk; omega)]
        rfl
      · rw [w4_ne e14, w4_ne n45]
theorem ct_5 {cA : Nat → ClassId} : ct cA ad 5 t x (zS S t x 0 0 5 t x) = ct cA ad 45 t x (u4 (w4 (w4 (zS S t x 0 0) 45 t x (fun _ => 0)) 14 t x (fun _ => 0)) 45 t x 3 1 45 t x) := by
  have e5 : ∀ j, zS S t x 0 0 5 t x j = 0 := fun j => by rw [zS_in (by unfold sk; omega)]; rfl
  have e45 : ∀ j, u4 (w4 (w4 (zS S t x 0 0) 45 t x (fun _ => 0)) 14 t x (fun _ => 0)) 45 t x 3 1 45 t x j = if j = 3 then 1 else 0 := fun j => by
    rw [u4_app]
    by_cases e : j = 3
    · rw [if_pos e, if_pos ⟨rfl, rfl, rfl, e⟩]
    · rw [if_neg e, if_neg (fun z => e z.2.2.2), w4_ne (by omega), w4_self]
  simp only [ct, e5, e45]
  rfl
theorem ct_4 {cA : Nat → ClassId} : ct cA ad 4 t 0 (zS S t 3 8 60 4 t 0) = ct cA ad 44 t 0 (zS S t 3 8 60 44 t 0) := by
  have e4 : ∀ j, zS S t 3 8 60 4 t 0 j = 0 := fun j => by rw [zS_in (by unfold sk; omega)]; rfl
  simp only [ct, e4]
  rw [zS_44' (by decide), zS_44' (by decide), zS_44' (by decide), zS_44' (by decide), zS_44' (by decide), zS_44' (by decide), zS_44' (by decide), zS_44' (by decide), zS_44' (by decide), zS_44 (by decide), zS_44 (by decide), zS_44 (by decide), zS_44 (by decide), zS_44 (by decide), zS_44 (by decide), zS_44 (by decide)]
  rfl
theorem zS_fl {kf : Nat} (hk : kf = 55 ∨ kf = 56 ∨ kf = 58) (j : Nat) : zS S t 3 8 60 kf t 0 j = if j < (if kf = 55 then 3 else if kf = 56 then 8 else 60) then 1 else 0 := by
  rw [zS_in (by unfold sk; omega)]
  unfold zrow
  rcases hk with rfl | rfl | rfl <;> simp
theorem dE_in (hN : NS dm t) (h : dE dm t k t' x) : ren (ren (ren (ren (dU dm t 3 8 60) 55 t 0 15) 56 t 0 16) 58 t 0 18) 44 t 0 4 k t' x := by
  rcases h with ⟨rfl, h⟩ | ⟨h, hne⟩
  · unfold stK at h
    unfold ren dU uP
    omega
  · by_cases hk : t' = t ∧ sk k
    · have := hN k x hk.2 (by rw [← hk.1]; exact h)
      exact absurd ⟨hk.1, this.1⟩ hne
    · have n1 : ∀ k0, sk k0 → ¬ (k = k0 ∧ t' = t ∧ x = 0) := fun k0 h0 z => hk ⟨z.2.1, by rw [z.1]; exact h0⟩
      exact Or.inr ⟨Or.inr ⟨Or.inr ⟨Or.inr ⟨Or.inr h, n1 55 (by unfold sk; omega)⟩, n1 56 (by unfold sk; omega)⟩, n1 58 (by unfold sk; omega)⟩, n1 44 (by unfold sk; omega)⟩
theorem fl_A (h : dU dm t (x + 1) 0 0 k t' y) (hN : NS dm t) : zS S t (x + 1) 0 0 k t' y = u4 (zS S t x 0 0) 55 t 0 x 1 k t' y := zS_flag h (by decide) (fun j => by
  unfold zrow
  simp only [if_neg (show ¬ 55 = 17 by decide), if_neg (show ¬ 55 = 44 by decide), if_true]
  by_cases h1 : j = x
  · rw [if_pos h1, if_pos (by omega)]
  · rw [if_neg h1]
    by_cases h2 : j < x
    · rw [if_pos h2, if_pos (by omega)]
    · rw [if_neg h2, if_neg (by omega)]) (fun k hk => by funext j; unfold zrow; rw [if_neg hk, if_neg hk]) hN
theorem fl_B (h : dU dm t 3 (x + 1) 0 k t' y) (hN : NS dm t) : zS S t 3 (x + 1) 0 k t' y = u4 (zS S t 3 x 0) 56 t 0 x 1 k t' y := zS_flag h (by decide) (fun j => by
  unfold zrow
  simp only [if_neg (show ¬ 56 = 17 by decide), if_neg (show ¬ 56 = 44 by decide), if_neg (show ¬ 56 = 55 by decide), if_true]
  by_cases h1 : j = x
  · rw [if_pos h1, if_pos (by omega)]
  · rw [if_neg h1]
    by_cases h2 : j < x
    · rw [if_pos h2, if_pos (by omega)]
    · rw [if_neg h2, if_neg (by omega)]) (fun k hk => by funext j; unfold zrow; rw [if_neg hk, if_neg hk]) hN
theorem fl_C (h : dU dm t 3 8 (x + 1) k t' y) (hN : NS dm t) : zS S t 3 8 (x + 1) k t' y = u4 (zS S t 3 8 x) 58 t 0 x 1 k t' y := zS_flag h (by decide) (fun j => by
  unfold zrow
  simp only [if_neg (show ¬ 58 = 17 by decide), if_neg (show ¬ 58 = 44 by decide), if_neg (show ¬ 58 = 55 by decide), if_neg (show ¬ 58 = 56 by decide), if_true]
  by_cases h1 : j = x
  · rw [if_pos h1, if_pos (by omega)]
  · rw [if_neg h1]
    by_cases h2 : j < x
    · rw [if_pos h2, if_pos (by omega)]
    · rw [if_neg h2, if_neg (by omega)]) (fun k hk => by funext j; unfold zrow; rw [if_neg hk, if_neg hk]) hN
theorem nx14 (x : Nat) : 7 + 2 * x + 1 + 1 = 7 + 2 * (x + 1) ∧ 170 + 14 * x + 4 + 10 = 170 + 14 * (x + 1) := by omega
theorem nx0 (x : Nat) : 13 + x + 1 + 0 = 13 + (x + 1) ∧ 212 + 15 * x + 15 + 0 = 212 + 15 * (x + 1) := by omega
theorem nx1 (x : Nat) : 21 + x + 1 + 0 = 21 + (x + 1) ∧ 332 + 12 * x + 12 + 0 = 332 + 12 * (x + 1) := by omega
theorem rmA {x : Nat} (hx : x < 3) : 7 + 2 * x + 1 + 1 ≤ 81 ∧ 170 + 14 * x + 4 + 10 ≤ 1052 := by omega
theorem rmA1 {x : Nat} (hx : x < 3) : 7 + 2 * x + 1 ≤ 81 ∧ 170 + 14 * x + 4 ≤ 1052 := by omega
theorem rmB {x : Nat} (hx : x < 8) : 13 + x + 1 + 0 ≤ 81 ∧ 212 + 15 * x + 15 + 0 ≤ 1052 := by omega
theorem rmC {x : Nat} (hx : x < 60) : 21 + x + 1 + 0 ≤ 81 ∧ 332 + 12 * x + 12 + 0 ≤ 1052 := by omega
theorem lt_of {x d n : Nat} (h : x + (d + 1) = n) : x < n := by omega
theorem ih_of {x d n : Nat} (h : x + (d + 1) = n) : x + 1 + d = n := by omega
end AS
theorem zS_open {S : S4} {t k t' x : Nat} {dm : Dm} (hz : ∀ j, S 44 t 0 j = 0) (hN : NS dm t) (h44 : dm 44 t 0) (hd : dU dm t 0 0 0 k t' x) : dmu (dmu (dmu (dmu (dmu (dmu (dmu dm 55 t 0) 56 t 0) 17 t 0) 58 t 0) 19 t 0) 20 t 0) 21 t 0 k t' x ∧ zS S t 0 0 0 k t' x = u4 (w4 (u4 (w4 (u4 (w4 (u4 (w4 (u4 (w4 (u4 (w4 (u4 (w4 S 55 t 0 (fun _ => 0)) 44 t 0 9 1) 56 t 0 (fun _ => 0)) 44 t 0 10 1) 17 t 0 (fun _ => -1)) 44 t 0 11 1) 58 t 0 (fun _ => 0)) 44 t 0 12 1) 19 t 0 (fun _ => 0)) 44 t 0 13 1) 20 t 0 (fun _ => 0)) 44 t 0 14 1) 21 t 0 (fun _ => 0)) 44 t 0 15 1 k t' x := by
  refine ⟨?_, ?_⟩
  · rcases hd with ⟨rfl, h⟩ | h
    · unfold uP at h
      unfold dmu
      omega
    · exact Or.inr (Or.inr (Or.inr (Or.inr (Or.inr (Or.inr (Or.inr h))))))
  · funext j
    simp only [u4_app, w4_app]
    by_cases hk : t' = t ∧ sk k
    · obtain ⟨rfl, hsk⟩ := hk
      rw [zS_in hsk]
      have hx : x = 0 ∧ (k = 44 ∨ k = 55 ∨ k = 56 ∨ k = 17 ∨ k = 58 ∨ k = 19 ∨ k = 20 ∨ k = 21) := by
        rcases hd with ⟨-, h⟩ | h
        · unfold uP at h; omega
        · have := hN _ _ hsk h; omega
      obtain ⟨rfl, hk⟩ := hx
      unfold zrow
      rcases hk with rfl | rfl | rfl | rfl | rfl | rfl | rfl | rfl
      · by_cases j9 : j = 9
        · subst j9; simp
        · by_cases j10 : j = 10
          · subst j10; simp
          · by_cases j11 : j = 11
            · subst j11; simp
            · by_cases j12 : j = 12
              · subst j12; simp
              · by_cases j13 : j = 13
                · subst j13; simp
                · by_cases j14 : j = 14
                  · subst j14; simp
                  · by_cases j15 : j = 15
                    · subst j15; simp
                    · have hj : ¬ (9 ≤ j ∧ j ≤ 15) := by omega
                      simp [j9, j10, j11, j12, j13, j14, j15, hj, hz]
      all_goals simp
    · rw [zS_out hk]
      have hn : ∀ k0, sk k0 → ¬ (k = k0 ∧ t' = t ∧ x = 0) := fun k0 h0 z => hk ⟨z.2.1, by rw [z.1]; exact h0⟩
      have hn' : ∀ k0 i, sk k0 → ¬ (k = k0 ∧ t' = t ∧ x = 0 ∧ j = i) := fun k0 i h0 z => hk ⟨z.2.1, by rw [z.1]; exact h0⟩
      rw [if_neg (hn' 44 15 (by unfold sk; omega)), if_neg (hn 21 (by unfold sk; omega)), if_neg (hn' 44 14 (by unfold sk; omega)), if_neg (hn 20 (by unfold sk; omega)), if_neg (hn' 44 13 (by unfold sk; omega)), if_neg (hn 19 (by unfold sk; omega)), if_neg (hn' 44 12 (by unfold sk; omega)), if_neg (hn 58 (by unfold sk; omega)), if_neg (hn' 44 11 (by unfold sk; omega)), if_neg (hn 17 (by unfold sk; omega)), if_neg (hn' 44 10 (by unfold sk; omega)), if_neg (hn 56 (by unfold sk; omega)), if_neg (hn' 44 9 (by unfold sk; omega)), if_neg (hn 55 (by unfold sk; omega))]
set_option maxHeartbeats 4000000 in
theorem X4_LC {l : Launch} {D : va_G} {cA : Nat → ClassId} {dm : Dm} {ad : Ad} {b : Nat} {S S' : S4} {t fu : Nat} (h44 : dm 44 t 0) (hN : NS dm t) (hA0 : aS ad t b) (hs : s_X4_reset fu t 12 (zS S t 3 8 60) = some S') {p : Program} {e : Env} {s : State} {m : MethodId} {args : Array Value} {below : List Frame} {meth : Method} {c : Code} {A : Nat → Prop} (hr : meth.sig.returnType = none) (hY : gY A s s.heap) (hsz : s.heap.size = b + 1) : ∀ (d x : Nat), x + d = 60 → GX D cA (dU dm t 3 8 x) ad A 2 p s m args meth c yX4_init.cls cX4_init → V D cA (dU dm t 3 8 x) ad A 2 p l e ({ frames := 2, cells := 81, slots := 1052, locals := 60 }) s m args below meth c (21 + x) (332 + 12 * x) (MQ below (gQF D cA (dE dm t) ad S' A) args s 81 1052 A) (zS S t 3 8 x) 116 [(1, .int (nI x)), (0, .ref (ad 44 t 0))] [] := by
  intro d
  induction d with
  | zero =>
    intro x hx X
    obtain rfl : x = 60 := by omega
    refine V_iload_n X dX4_init_116 rfl 0 rfl ?_
    refine V_bipush X (60 : Int32) dX4_init_117 (by decide) ?_
    refine V_icmp_ge X 141 dX4_init_119 (by decide) (fun _ => ?_) (fun c9 => absurd (show nI 60 ≤ nI 60 from nI_le (Nat.le_refl _) (by decide)) c9)
    refine V_aload_n X dX4_init_141 rfl 1 rfl ?_
    refine V_bipush X (12 : Int32) dX4_init_142 (by decide) ?_
    refine V_renF X (k := 55) (k2 := 15) (t := t) (i := 0) (dm' := ren (dU dm t 3 8 60) 55 t 0 15) (S' := zS S t 3 8 60) (Or.inl ⟨rfl, Or.inl ⟨rfl, by decide⟩⟩) ((as15 hA0).trans (as55 hA0).symm) (fun H hv => ?_) (fun k t x h => h.imp id (fun h => ⟨h.1, h.2, rfl⟩)) (fun X0 => ?_)
    · have hv : H[ad 55 t 0]? = some (arrV (cA 3) 3 (fun j => va_rf (ro (zS S t 3 8 60 55 t 0 j) (ad 5 t j)))) := hv
      show H[ad 55 t 0]? = some (arrV (cA 3) 3 (fun j => va_rf (some (ad 5 t j))))
      rw [hv]
      refine congrArg some (arrV_same (fun j hj => ?_))
      rw [zS_fl (by decide), if_pos (by simpa using hj), ro_v rfl]
    refine V_renF X0 (k := 56) (k2 := 16) (t := t) (i := 0) (dm' := ren (ren (dU dm t 3 8 60) 55 t 0 15) 56 t 0 16) (S' := zS S t 3 8 60) (Or.inr ⟨(Or.inl ⟨rfl, Or.inl ⟨rfl, by decide⟩⟩), by omega⟩) ((as16 hA0).trans (as56 hA0).symm) (fun H hv => ?_) (fun k t x h => h.imp id (fun h => ⟨h.1, h.2, rfl⟩)) (fun X1 => ?_)
    · have hv : H[ad 56 t 0]? = some (arrV (cA 4) 8 (fun j => va_rf (ro (zS S t 3 8 60 56 t 0 j) (ad 0 t j)))) := hv
      show H[ad 56 t 0]? = some (arrV (cA 4) 8 (fun j => va_rf (some (ad 0 t j))))
      rw [hv]
      refine congrArg some (arrV_same (fun j hj => ?_))
      rw [zS_fl (by decide), if_pos (by simpa using hj), ro_v rfl]
    refine V_renF X1 (k := 58) (k2 := 18) (t := t) (i := 0) (dm' := ren (ren (ren (dU dm t 3 8 60) 55 t 0 15) 56 t 0 16) 58 t 0 18) (S' := zS S t 3 8 60) (Or.inr ⟨(Or.inr ⟨(Or.inl ⟨rfl, Or.inl ⟨rfl, by decide⟩⟩), by omega⟩), by omega⟩) ((as18 hA0).trans (as58 hA0).symm) (fun H hv => ?_) (fun k t x h => h.imp id (fun h => ⟨h.1, h.2, rfl⟩)) (fun X2 => ?_)
    · have hv : H[ad 58 t 0]? = some (arrV (cA 6) 60 (fun j => va_rf (ro (zS S t 3 8 60 58 t 0 j) (ad 1 t j)))) := hv
      show H[ad 58 t 0]? = some (arrV (cA 6) 60 (fun j => va_rf (some (ad 1 t j))))
      rw [hv]
      refine congrArg some (arrV_same (fun j hj => ?_))
      rw [zS_fl (by decide), if_pos (by simpa using hj), ro_v rfl]
    refine V_renF X2 (k := 44) (k2 := 4) (t := t) (i := 0) (dm' := ren (ren (ren (ren (dU dm t 3 8 60) 55 t 0 15) 56 t 0 16) 58 t 0 18) 44 t 0 4) (S' := zS S t 3 8 60) (Or.inr ⟨(Or.inr ⟨(Or.inr ⟨(Or.inr h44), by omega⟩), by omega⟩), by omega⟩) ((as4 hA0).trans (as44 hA0).symm) (fun H hv => ?_) (fun k t x h => h.imp id (fun h => ⟨h.1, h.2, rfl⟩)) (fun X3 => ?_)
    · rw [ct_4]; exact hv
    refine V_dom X3 (dm' := dE dm t) (S' := zS S t 3 8 60) (fun k t' x h => ⟨dE_in hN h, rfl⟩) (fun X4 => ?_)
    rw [show ad 44 t 0 = ad 4 t 0 from (as44 hA0).trans (as4 hA0).symm]
    have hT : DS (dE dm t) t := fun k x h => Or.inl ⟨rfl, h⟩
    refine V_callVv X4 [.int (12 : Int32)] dX4_init_144 m_X4_48 v_X4_reset ⟨Nat.le_of_ble_eq_true rfl, Nat.le_of_ble_eq_true rfl⟩ ⟨Nat.le_of_ble_eq_true rfl, Nat.le_of_ble_eq_true rfl⟩ rfl (Nat.le_of_ble_eq_true rfl) (gm4 hT) rfl cl4 (c_X4_reset hT hs) ?_
    exact V_sub [] rfl (V_vretF X4 hr dX4_init_147)
  | succ d ih =>
    intro x hx X
    refine V_iload_n X dX4_init_116 rfl 0 rfl ?_
    refine V_bipush X (60 : Int32) dX4_init_117 (by decide) ?_
    have hx3 := lt_of hx
    refine V_icmp_ge X 141 dX4_init_119 (by decide) (fun c9 => absurd c9 (show ¬ nI 60 ≤ nI x from nI_ge hx3 (by decide))) (fun _ => ?_)
    refine V_aload_n X dX4_init_122 rfl 1 rfl ?_
    refine V_get X dX4_init_123 r_X4_31 (Or.inr h44) rfl (v := .ref (ad 58 t 0)) ?_ ?_
    · show some (rc (zS S t 3 8 x 44 t 0 12) (ad 18 t 0)) = _
      rw [zS_44 (by decide), rc_v rfl, as18 hA0, as58 hA0]
    refine V_iload_n X dX4_init_126 rfl 0 rfl ?_
    refine V_newX X hsz (last_C hA0 (Nat.le_of_lt hx3)) (k := 1) (t := t) (i := x) (r0 := fun _ => 0) gc1 cl_X4_29 in_RX1 ni_X1 (had1 hA0 hx3) rfl (fs := [.int 0, .int 0, .int 0, .int 0, .int 0, .int 0, .int 0, .int 0, .int 0, .int 0, .int 0, .int 0]) (by intro j hj; rcases (by omega : j = 0 ∨ j = 1 ∨ j = 2 ∨ j = 3 ∨ j = 4 ∨ j = 5 ∨ j = 6 ∨ j = 7 ∨ j = 8 ∨ j = 9 ∨ j = 10 ∨ j = 11) with rfl | rfl | rfl | rfl | rfl | rfl | rfl | rfl | rfl | rfl | rfl | rfl <;> rfl) (rmC hx3).1 (rmC hx3).2 dX4_init_127 (fun X1 => ?_)
    refine V_dup X1 dX4_init_130 rfl ?_
    refine V_callINF X1 hY hsz (Or.inr ⟨1, t, x, Or.inl ⟨rfl, rfl, rfl⟩, hlast (had1 hA0 hx3)⟩) [] dX4_init_131 nn_X4_47 ⟨Nat.le_of_ble_eq_true rfl, Nat.le_of_ble_eq_true rfl⟩ (rmC hx3) rfl (Nat.le_of_ble_eq_true rfl) c_X1_init (fun X2 => ?_)
    refine V_dom X2 (dm' := (dU dm t 3 8 (x + 1))) (S' := (zS S t 3 8 x)) (fun k t' y h => dC_in h) (fun X3 => ?_)
    refine V_aastU X3 (k := 58) (t := t) (i := 0) (q := 6) (N := 60) (ke := 1) (te := t) (ie := x) (fe := fun j => ad 1 t j) dX4_init_134 (Or.inl ⟨rfl, Or.inl ⟨rfl, by decide⟩⟩) (fun _ => rfl) rfl (inb_nI hx3 (by decide)) (Or.inl ⟨rfl, Or.inr (Or.inr (Or.inr ⟨rfl, Nat.lt_succ_self x⟩))⟩) rfl rfl (by rw [nI_clamp (Nat.lt_trans hx3 (by decide))]) (fun Z eZ => ?_)
    rw [nI_clamp (Nat.lt_trans hx3 (by decide))] at eZ
    refine V_dom X3 (dm' := (dU dm t 3 8 (x + 1))) (S' := (zS S t 3 8 (x + 1))) (fun k t' y h => ⟨h, ?_⟩) (fun X9 => ?_)
    · rw [eZ]
      exact fl_C h hN
    refine V_iinc X9 (nI (x + 1)) dX4_init_135 0 rfl (nI_1 x) [(1, .int (nI (x + 1))), (0, .ref (ad 44 t 0))] (by decide) rfl ?_
    refine V_goto X9 116 dX4_init_138 (by decide) ?_
    exact V_widen (Nat.le_of_eq (nx1 x).1) (Nat.le_of_eq (nx1 x).2) (ih (x + 1) (ih_of hx) X9)
set_option maxHeartbeats 4000000 in
theorem X4_LB {l : Launch} {D : va_G} {cA : Nat → ClassId} {dm : Dm} {ad : Ad} {b : Nat} {S S' : S4} {t fu : Nat} (h44 : dm 44 t 0) (hN : NS dm t) (hA0 : aS ad t b) (hs : s_X4_reset fu t 12 (zS S t 3 8 60) = some S') {p : Program} {e : Env} {s : State} {m : MethodId} {args : Array Value} {below : List Frame} {meth : Method} {c : Code} {A : Nat → Prop} (hr : meth.sig.returnType = none) (hY : gY A s s.heap) (hsz : s.heap.size = b + 1) : ∀ (d x : Nat), x + d = 8 → GX D cA (dU dm t 3 x 0) ad A 2 p s m args meth c yX4_init.cls cX4_init → V D cA (dU dm t 3 x 0) ad A 2 p l e ({ frames := 2, cells := 81, slots := 1052, locals := 60 }) s m args below meth c (13 + x) (212 + 15 * x) (MQ below (gQF D cA (dE dm t) ad S' A) args s 81 1052 A) (zS S t 3 x 0) 89 [(1, .int (nI x)), (0, .ref (ad 44 t 0))] [] := by
  intro d
  induction d with
  | zero =>
    intro x hx X
    obtain rfl : x = 8 := by omega
    refine V_iload_n X dX4_init_89 rfl 0 rfl ?_
    refine V_bipush X (8 : Int32) dX4_init_90 (by decide) ?_
    refine V_icmp_ge X 114 dX4_init_92 (by decide) (fun _ => ?_) (fun c9 => absurd (show nI 8 ≤ nI 8 from nI_le (Nat.le_refl _) (by decide)) c9)
    refine V_iconst X (0 : Int32) dX4_init_114 (by decide) ?_
    refine V_istore_n X dX4_init_115 rfl [(1, .int (0 : Int32)), (0, .ref (ad 44 t 0))] (by decide) rfl ?_
    exact X4_LC h44 hN hA0 hs hr hY hsz 60 0 (by decide) X
  | succ d ih =>
    intro x hx X
    refine V_iload_n X dX4_init_89 rfl 0 rfl ?_
    refine V_bipush X (8 : Int32) dX4_init_90 (by decide) ?_
    have hx3 := lt_of hx
    refine V_icmp_ge X 114 dX4_init_92 (by decide) (fun c9 => absurd c9 (show ¬ nI 8 ≤ nI x from nI_ge hx3 (by decide))) (fun _ => ?_)
    refine V_aload_n X dX4_init_95 rfl 1 rfl ?_
    refine V_get X dX4_init_96 r_X4_19 (Or.inr h44) rfl (v := .ref (ad 56 t 0)) ?_ ?_
    · show some (rc (zS S t 3 x 0 44 t 0 10) (ad 16 t 0)) = _
      rw [zS_44 (by decide), rc_v rfl, as16 hA0, as56 hA0]
    refine V_iload_n X dX4_init_99 rfl 0 rfl ?_
    refine V_newX X hsz (last_B hA0 (Nat.le_of_lt hx3)) (k := 0) (t := t) (i := x) (r0 := fun _ => 0) gc0 cl_X4_17 in_RX0 ni_X0 (had0 hA0 hx3) rfl (fs := [.int 0, .int 0, .int 0, .int 0, .int 0, .int 0, .int 0, .int 0, .int 0, .int 0, .int 0, .int 0, .int 0, .int 0, .int 0]) (by intro j hj; rcases (by omega : j = 0 ∨ j = 1 ∨ j = 2 ∨ j = 3 ∨ j = 4 ∨ j = 5 ∨ j = 6 ∨ j = 7 ∨ j = 8 ∨ j = 9 ∨ j = 10 ∨ j = 11 ∨ j = 12 ∨ j = 13 ∨ j = 14) with rfl | rfl | rfl | rfl | rfl | rfl | rfl | rfl | rfl | rfl | rfl | rfl | rfl | rfl | rfl <;> rfl) (rmB hx3).1 (rmB hx3).2 dX4_init_100 (fun X1 => ?_)
    refine V_dup X1 dX4_init_103 rfl ?_
    refine V_callINF X1 hY hsz (Or.inr ⟨0, t, x, Or.inl ⟨rfl, rfl, rfl⟩, hlast (had0 hA0 hx3)⟩) [] dX4_init_104 nn_X4_46 ⟨Nat.le_of_ble_eq_true rfl, Nat.le_of_ble_eq_true rfl⟩ (rmB hx3) rfl (Nat.le_of_ble_eq_true rfl) c_X0_init (fun X2 => ?_)
    refine V_dom X2 (dm' := (dU dm t 3 (x + 1) 0)) (S' := (zS S t 3 x 0)) (fun k t' y h => dB_in h) (fun X3 => ?_)
    refine V_aastU X3 (k := 56) (t := t) (i := 0) (q := 4) (N := 8) (ke := 0) (te := t) (ie := x) (fe := fun j => ad 0 t j) dX4_init_107 (Or.inl ⟨rfl, Or.inl ⟨rfl, by decide⟩⟩) (fun _ => rfl) rfl (inb_nI hx3 (by decide)) (Or.inl ⟨rfl, Or.inr (Or.inr (Or.inl ⟨rfl, Nat.lt_succ_self x⟩))⟩) rfl rfl (by rw [nI_clamp (Nat.lt_trans hx3 (by decide))]) (fun Z eZ => ?_)
    rw [nI_clamp (Nat.lt_trans hx3 (by decide))] at eZ
    refine V_dom X3 (dm' := (dU dm t 3 (x + 1) 0)) (S' := (zS S t 3 (x + 1) 0)) (fun k t' y h => ⟨h, ?_⟩) (fun X9 => ?_)
    · rw [eZ]
      exact fl_B h hN
    refine V_iinc X9 (nI (x + 1)) dX4_init_108 0 rfl (nI_1 x) [(1, .int (nI (x + 1))), (0, .ref (ad 44 t 0))] (by decide) rfl ?_
    refine V_goto X9 89 dX4_init_111 (by decide) ?_
    exact V_widen (Nat.le_of_eq (nx0 x).1) (Nat.le_of_eq (nx0 x).2) (ih (x + 1) (ih_of hx) X9)
set_option maxHeartbeats 4000000 in
theorem X4_LA {l : Launch} {D : va_G} {cA : Nat → ClassId} {dm : Dm} {ad : Ad} {b : Nat} {S S' : S4} {t fu : Nat} (h44 : dm 44 t 0) (hN : NS dm t) (hA0 : aS ad t b) (hs : s_X4_reset fu t 12 (zS S t 3 8 60) = some S') {p : Program} {e : Env} {s : State} {m : MethodId} {args : Array Value} {below : List Frame} {meth : Method} {c : Code} {A : Nat → Prop} (hr : meth.sig.returnType = none) (hY : gY A s s.heap) (hsz : s.heap.size = b + 1) : ∀ (d x : Nat), x + d = 3 → GX D cA (dU dm t x 0 0) ad A 2 p s m args meth c yX4_init.cls cX4_init → V D cA (dU dm t x 0 0) ad A 2 p l e ({ frames := 2, cells := 81, slots := 1052, locals := 60 }) s m args below meth c (7 + 2 * x) (170 + 14 * x) (MQ below (gQF D cA (dE dm t) ad S' A) args s 81 1052 A) (zS S t x 0 0) 63 [(1, .int (nI x)), (0, .ref (ad 44 t 0))] [] := by
  intro d
  induction d with
  | zero =>
    intro x hx X
    obtain rfl : x = 3 := by omega
    refine V_iload_n X dX4_init_63 rfl 0 rfl ?_
    refine V_iconst X (3 : Int32) dX4_init_64 (by decide) ?_
    refine V_icmp_ge X 87 dX4_init_65 (by decide) (fun _ => ?_) (fun c9 => absurd (show nI 3 ≤ nI 3 from nI_le (Nat.le_refl _) (by decide)) c9)
    refine V_iconst X (0 : Int32) dX4_init_87 (by decide) ?_
    refine V_istore_n X dX4_init_88 rfl [(1, .int (0 : Int32)), (0, .ref (ad 44 t 0))] (by decide) rfl ?_
    exact X4_LB h44 hN hA0 hs hr hY hsz 8 0 (by decide) X
  | succ d ih =>
    intro x hx X
    refine V_iload_n X dX4_init_63 rfl 0 rfl ?_
    refine V_iconst X (3 : Int32) dX4_init_64 (by decide) ?_
    have hx3 := lt_of hx
    refine V_icmp_ge X 87 dX4_init_65 (by decide) (fun c9 => absurd c9 (show ¬ nI 3 ≤ nI x from nI_ge hx3 (by decide))) (fun _ => ?_)
    refine V_aload_n X dX4_init_68 rfl 1 rfl ?_
    refine V_get X dX4_init_69 r_X4_11 (Or.inr h44) rfl (v := .ref (ad 55 t 0)) ?_ ?_
    · show some (rc (zS S t x 0 0 44 t 0 9) (ad 15 t 0)) = _
      rw [zS_44 (by decide), rc_v rfl, as15 hA0, as55 hA0]
    refine V_iload_n X dX4_init_72 rfl 0 rfl ?_
    refine V_newX X hsz (last_A hA0 (Nat.le_of_lt hx3)) (k := 45) (t := t) (i := x) (r0 := fun _ => 0) gc5 cl_X4_9 in_RX5 ni_X5 (had45 hA0 hx3) rfl (fs := [.int 0, .int 0, .int 0, .null]) (by intro j hj; rcases (by omega : j = 0 ∨ j = 1 ∨ j = 2 ∨ j = 3) with rfl | rfl | rfl | rfl <;> rfl) (rmA1 hx3).1 (rmA1 hx3).2 dX4_init_73 (fun X1 => ?_)
    refine V_dup X1 dX4_init_76 rfl ?_
    refine V_callINF X1 hY hsz (Or.inr ⟨45, t, x, Or.inl ⟨rfl, rfl, rfl⟩, hlast (had45 hA0 hx3)⟩) [] dX4_init_77 nn_X4_45 ⟨Nat.le_of_ble_eq_true rfl, Nat.le_of_ble_eq_true rfl⟩ (rmA hx3) rfl (Nat.le_of_ble_eq_true rfl) (c_X5_init (Or.inl ⟨rfl, rfl, rfl⟩) (had14 hA0 hx3)) (fun X2 => ?_)
    refine V_renF X2 (k := 45) (k2 := 5) (t := t) (i := x) (dm' := dU dm t (x + 1) 0 0) (S' := zS S t x 0 0) (Or.inr (Or.inl ⟨rfl, rfl, rfl⟩)) ((as5 hA0 hx3).trans (as45 hA0 hx3).symm) (fun H hv => ?_) (fun k t' y h => dA_in hN h) (fun X3 => ?_)
    · rw [ct_5]; exact hv
    rw [show ad 45 t x = ad 5 t x from (as45 hA0 hx3).trans (as5 hA0 hx3).symm]
    refine V_aastU X3 (k := 55) (t := t) (i := 0) (q := 3) (N := 3) (ke := 5) (te := t) (ie := x) (fe := fun j => ad 5 t j) dX4_init_80 (Or.inl ⟨rfl, Or.inl ⟨rfl, by decide⟩⟩) (fun _ => rfl) rfl (inb_nI hx3 (by decide)) (Or.inl ⟨rfl, Or.inr (Or.inl ⟨Or.inl rfl, Nat.lt_succ_self x⟩)⟩) rfl rfl (by rw [nI_clamp (Nat.lt_trans hx3 (by decide))]) (fun Z eZ => ?_)
    rw [nI_clamp (Nat.lt_trans hx3 (by decide))] at eZ
    refine V_dom X3 (dm' := (dU dm t (x + 1) 0 0)) (S' := (zS S t (x + 1) 0 0)) (fun k t' y h => ⟨h, ?_⟩) (fun X9 => ?_)
    · rw [eZ]
      exact fl_A h hN
    refine V_iinc X9 (nI (x + 1)) dX4_init_81 0 rfl (nI_1 x) [(1, .int (nI (x + 1))), (0, .ref (ad 44 t 0))] (by decide) rfl ?_
    refine V_goto X9 63 dX4_init_84 (by decide) ?_
    exact V_widen (Nat.le_of_eq (nx14 x).1) (Nat.le_of_eq (nx14 x).2) (ih (x + 1) (ih_of hx) X9)
set_option maxHeartbeats 8000000 in
theorem c_X4_init {l : Launch} {D : va_G} {cA : Nat → ClassId} {dm : Dm} {ad : Ad} {b : Nat} {S S' : S4} {t fu : Nat} (h44 : dm 44 t 0) (hN : NS dm t) (hz : ∀ j, S 44 t 0 j = 0) (hA0 : aS ad t b) (hs : s_X4_reset fu t 12 (zS S t 3 8 60) = some S') : CtF D cA dm (dE dm t) ad l yX4_init cX4_init 2 2 60 81 1052 (b + 1) S [.ref (ad 44 t 0)] S' := by
  refine CtF.of (by decide +kernel) (Nat.le_of_ble_eq_true rfl) [(0, .ref (ad 44 t 0))] rfl (fun p e s m args below meth c A X hr hY hnm hsz => ?_)
  obtain ⟨⟨a44, a4, a55, a15, a56, a16, a17, a58, a18, a19, a20, a21⟩, a5, a0, a1⟩ := id hA0
  refine V_aload_n X dX4_init_0 rfl 0 rfl ?_
  refine V_objInit X o_X4_3 o_1 o_2 ⟨Nat.le_of_ble_eq_true rfl, Nat.le_of_ble_eq_true rfl⟩ (Nat.zero_le _) dX4_init_1 ?_
  refine V_aload_n X dX4_init_4 rfl 0 rfl ?_
  refine V_iconst X (3 : Int32) dX4_init_5 (by decide) ?_
  refine V_anewX X hsz (Or.inl rfl) cl_X4_9 (hY.2.2 RX5 (by decide)) (k := 55) (t := t) (i := 0) (q := 3) (N := 3) (a0 := (3, .inr (.inr (.inr (.inr (fun _ => none)))))) (r0 := fun _ => 0) rfl (by omega) (fun _ => rfl) rfl (by decide) (by decide) (by decide) (Nat.le_of_ble_eq_true rfl) (Nat.le_of_ble_eq_true rfl) dX4_init_6 (fun X1 => ?_)
  rw [show ad 55 t 0 = ad 15 t 0 from a55.trans a15.symm]
  refine V_putF X1 hnm (k := 44) (t := t) (i := 0) (x := 1) dX4_init_9 ff_X4_11 (Or.inr h44) rfl (Nat.le_of_ble_eq_true rfl) rfl rfl rfl (fun Y9 eY9 => ?_)
  refine V_aload_n X1 dX4_init_12 rfl 0 rfl ?_
  refine V_bipush X1 (8 : Int32) dX4_init_13 (by decide) ?_
  refine V_anewX X1 hsz (Or.inr ⟨55, t, 0, Or.inl ⟨rfl, rfl, rfl⟩, by omega⟩) cl_X4_17 (hY.2.2 RX0 (by decide)) (k := 56) (t := t) (i := 0) (q := 4) (N := 8) (a0 := (8, .inr (.inr (.inr (.inr (fun _ => none)))))) (r0 := fun _ => 0) rfl (by omega) (fun _ => rfl) rfl (by decide) (by decide) (by decide) (Nat.le_of_ble_eq_true rfl) (Nat.le_of_ble_eq_true rfl) dX4_init_15 (fun X2 => ?_)
  rw [show ad 56 t 0 = ad 16 t 0 from a56.trans a16.symm]
  refine V_putF X2 hnm (k := 44) (t := t) (i := 0) (x := 1) dX4_init_18 ff_X4_19 (Or.inr (Or.inr h44)) rfl (Nat.le_of_ble_eq_true rfl) rfl rfl rfl (fun Y10 eY10 => ?_)
  refine V_aload_n X2 dX4_init_21 rfl 0 rfl ?_
  refine V_iconst X2 (5 : Int32) dX4_init_22 (by decide) ?_
  refine V_anewX X2 hsz (Or.inr ⟨56, t, 0, Or.inl ⟨rfl, rfl, rfl⟩, by omega⟩) cl_X4_23 (hY.2.2 RX2 (by decide)) (k := 17) (t := t) (i := 0) (q := 5) (N := 5) (a0 := (5, .inr (.inr (.inr (.inr (fun _ => none)))))) (r0 := fun _ => -1) rfl (by omega) (fun _ => rfl) rfl (by decide) (by decide) (by decide) (Nat.le_of_ble_eq_true rfl) (Nat.le_of_ble_eq_true rfl) dX4_init_23 (fun X3 => ?_)
  refine V_putF X3 hnm (k := 44) (t := t) (i := 0) (x := 1) dX4_init_26 ff_X4_25 (Or.inr (Or.inr (Or.inr h44))) rfl (Nat.le_of_ble_eq_true rfl) rfl rfl rfl (fun Y11 eY11 => ?_)
  refine V_aload_n X3 dX4_init_29 rfl 0 rfl ?_
  refine V_bipush X3 (60 : Int32) dX4_init_30 (by decide) ?_
  refine V_anewX X3 hsz (Or.inr ⟨17, t, 0, Or.inl ⟨rfl, rfl, rfl⟩, by omega⟩) cl_X4_29 (hY.2.2 RX1 (by decide)) (k := 58) (t := t) (i := 0) (q := 6) (N := 60) (a0 := (60, .inr (.inr (.inr (.inr (fun _ => none)))))) (r0 := fun _ => 0) rfl (by omega) (fun _ => rfl) rfl (by decide) (by decide) (by decide) (Nat.le_of_ble_eq_true rfl) (Nat.le_of_ble_eq_true rfl) dX4_init_32 (fun X4 => ?_)
  rw [show ad 58 t 0 = ad 18 t 0 from a58.trans a18.symm]
  refine V_putF X4 hnm (k := 44) (t := t) (i := 0) (x := 1) dX4_init_35 ff_X4_31 (Or.inr (Or.inr (Or.inr (Or.inr h44)))) rfl (Nat.le_of_ble_eq_true rfl) rfl rfl rfl (fun Y12 eY12 => ?_)
  refine V_aload_n X4 dX4_init_38 rfl 0 rfl ?_
  refine V_bipush X4 (30 : Int32) dX4_init_39 (by decide) ?_
  refine V_newaX X4 hsz (Or.inr ⟨58, t, 0, Or.inl ⟨rfl, rfl, rfl⟩, by omega⟩) (atype := .int) (ty := .int) (k := 19) (t := t) (i := 0) (q := 0) (N := 30) (a0 := (30, .inl (fun _ => 0))) (r0 := fun _ => 0) rfl ar_int rfl (by omega) (fun _ => rfl) rfl (by decide) (by decide) (by decide) (Nat.le_of_ble_eq_true rfl) (Nat.le_of_ble_eq_true rfl) dX4_init_41 (fun X5 => ?_)
  refine V_putF X5 hnm (k := 44) (t := t) (i := 0) (x := 1) dX4_init_43 ff_X4_35 (Or.inr (Or.inr (Or.inr (Or.inr (Or.inr h44))))) rfl (Nat.le_of_ble_eq_true rfl) rfl rfl rfl (fun Y13 eY13 => ?_)
  refine V_aload_n X5 dX4_init_46 rfl 0 rfl ?_
  refine V_bipush X5 (60 : Int32) dX4_init_47 (by decide) ?_
  refine V_newaX X5 hsz (Or.inr ⟨19, t, 0, Or.inl ⟨rfl, rfl, rfl⟩, by omega⟩) (atype := .int) (ty := .int) (k := 20) (t := t) (i := 0) (q := 0) (N := 60) (a0 := (60, .inl (fun _ => 0))) (r0 := fun _ => 0) rfl ar_int rfl (by omega) (fun _ => rfl) rfl (by decide) (by decide) (by decide) (Nat.le_of_ble_eq_true rfl) (Nat.le_of_ble_eq_true rfl) dX4_init_49 (fun X6 => ?_)
  refine V_putF X6 hnm (k := 44) (t := t) (i := 0) (x := 1) dX4_init_51 ff_X4_39 (Or.inr (Or.inr (Or.inr (Or.inr (Or.inr (Or.inr h44)))))) rfl (Nat.le_of_ble_eq_true rfl) rfl rfl rfl (fun Y14 eY14 => ?_)
  refine V_aload_n X6 dX4_init_54 rfl 0 rfl ?_
  refine V_iconst X6 (4 : Int32) dX4_init_55 (by decide) ?_
  refine V_newaX X6 hsz (Or.inr ⟨20, t, 0, Or.inl ⟨rfl, rfl, rfl⟩, by omega⟩) (atype := .int) (ty := .int) (k := 21) (t := t) (i := 0) (q := 0) (N := 4) (a0 := (4, .inl (fun _ => 0))) (r0 := fun _ => 0) rfl ar_int rfl (by omega) (fun _ => rfl) rfl (by decide) (by decide) (by decide) (Nat.le_of_ble_eq_true rfl) (Nat.le_of_ble_eq_true rfl) dX4_init_56 (fun X7 => ?_)
  refine V_putF X7 hnm (k := 44) (t := t) (i := 0) (x := 1) dX4_init_58 ff_X4_42 (Or.inr (Or.inr (Or.inr (Or.inr (Or.inr (Or.inr (Or.inr h44))))))) rfl (Nat.le_of_ble_eq_true rfl) rfl rfl rfl (fun Y15 eY15 => ?_)
  refine V_iconst X7 (0 : Int32) dX4_init_61 (by decide) ?_
  refine V_istore_n X7 dX4_init_62 rfl [(1, .int (0 : Int32)), (0, .ref (ad 44 t 0))] (by decide) rfl ?_
  subst eY9 eY10 eY11 eY12 eY13 eY14 eY15
  refine V_dom X7 (dm' := dU dm t 0 0 0) (S' := zS S t 0 0 0) (fun k t' x h => zS_open hz hN h44 h) (fun X9 => ?_)
  exact X4_LA h44 hN hA0 hs hr hY hsz 3 0 (by decide) X9
