/-! the reference keeps and brings back -/
def flat (Z : S4) (j : Nat) : Int32 := if j < 30 then Z 24 0 0 j else if j < 69 then Z 25 0 0 (j - 30) else if j < 189 then Z 26 0 0 (j - 69) else if j < 449 then Z 27 0 0 (j - 189) else if j < 1169 then Z 28 0 0 (j - 449) else if j < 1229 then Z 29 0 0 (j - 1169) else Z 7 0 0 (7 + (j - 1229))
theorem flat_at {Z : S4} {k i j : Nat} (h : inV k i j = true) : flat Z (bas k + ofs k i j) = live Z k i j := by
  have hk := inV_lt h
  rw [live_app, if_pos h]
  unfold flat
  rcases k with _|_|_|_|_|_|_|k
  · have h0 : i = 0 ∧ j < 30 := by simpa [inV] using h
    rw [if_pos (by simp [bas, ofs]; omega), if_neg (by decide)]
    simp [bas, ofs]
  · have h0 : i < 3 ∧ j < 13 := by simpa [inV] using h
    simp only [bas, ofs]
    rw [if_neg (by omega), if_pos (by omega), if_neg (by decide), Nat.add_sub_cancel_left]
  · have h0 : i < 8 ∧ j < 15 := by simpa [inV] using h
    simp only [bas, ofs]
    rw [if_neg (by omega), if_neg (by omega), if_pos (by omega), if_neg (by decide), Nat.add_sub_cancel_left]
  · have h0 : i < 5 ∧ j < 52 := by simpa [inV] using h
    simp only [bas, ofs]
    rw [if_neg (by omega), if_neg (by omega), if_neg (by omega), if_pos (by omega), if_neg (by decide), Nat.add_sub_cancel_left]
  · have h0 : i < 60 ∧ j < 12 := by simpa [inV] using h
    simp only [bas, ofs]
    rw [if_neg (by omega), if_neg (by omega), if_neg (by omega), if_neg (by omega), if_pos (by omega), if_neg (by decide), Nat.add_sub_cancel_left]
  · have h0 : i = 0 ∧ j < 60 := by simpa [inV] using h
    simp only [bas, ofs]
    rw [if_neg (by omega), if_neg (by omega), if_neg (by omega), if_neg (by omega), if_neg (by omega), if_pos (by omega), if_neg (by decide), Nat.add_sub_cancel_left]
  · have h0 : i = 0 ∧ j < 7 := by simpa [inV] using h
    simp only [bas, ofs]
    rw [if_neg (by omega), if_neg (by omega), if_neg (by omega), if_neg (by omega), if_neg (by omega), if_neg (by omega), if_pos (by decide), Nat.add_sub_cancel_left]
  · omega
theorem rowv_of {Z Z' : S4} {a o : Nat} (h : ∀ j, j < 1236 → Z a 0 0 (o + j) = flat Z' j) : rowv Z a o = live Z' := by
  funext k i j
  unfold rowv
  by_cases hk : inV k i j = true
  · have hl := ofs_lt hk
    have hk7 := inV_lt hk
    have hb : bas k + ofs k i j < 1236 := by
      rcases hl with hl | ⟨h1, h2⟩
      · have : bas (k + 1) ≤ 1229 := by
          rcases k with _|_|_|_|_|_|_|k
          all_goals simp [bas]
        omega
      · subst h1
        simp only [bas]
        omega
    rw [if_pos hk, Nat.add_assoc, h _ hb, flat_at hk]
  · rw [if_neg hk, live_app, if_neg hk]
/-- m numbers are kept -/
def SV (Z : S4) (a o m : Nat) (Y : S4) : Prop := Y 7 0 0 22 = nI (o + m) ∧ Y 7 0 0 23 = 1 ∧ (∀ k t i j, ¬ (k = a ∧ t = 0 ∧ i = 0) → ¬ (k = 7 ∧ t = 0 ∧ i = 0 ∧ (j = 22 ∨ j = 23)) → Y k t i j = Z k t i j) ∧ (∀ j, j < o ∨ o + m ≤ j → Y a 0 0 j = Z a 0 0 j) ∧ ∀ j, j < m → Y a 0 0 (o + j) = flat Z j
/-- m numbers are brought back -/
def LD (Z : S4) (a o m : Nat) (Y : S4) : Prop := Y 7 0 0 22 = nI (o + m) ∧ Y 7 0 0 23 = 0 ∧ (∀ k t i j, ¬ (24 ≤ k ∧ k < 30) → k ≠ 7 → Y k t i j = Z k t i j) ∧ (∀ j, j < 7 ∨ (14 ≤ j ∧ j ≠ 22 ∧ j ≠ 23) → Y 7 0 0 j = Z 7 0 0 j) ∧ ∀ j, j < m → flat Y j = Z a 0 0 (o + j)
theorem sv_step {Z Y : S4} {a o m : Nat} {x : Int32} (ha : a ≠ 7) (hx : x = flat Z m) (h : SV Z a o m Y) : SV Z a o (m + 1) (u4 (u4 Y a 0 0 (o + m) x) 7 0 0 22 (nI (o + m + 1))) := by
  obtain ⟨h1, h2, h3, h4, h5⟩ := h
  refine ⟨?_, ?_, fun k t i j hk hj => ?_, fun j hj => ?_, fun j hj => ?_⟩
  · rw [u4_app, if_pos ⟨rfl, rfl, rfl, rfl⟩]; rfl
  · rw [u4_app, if_neg (by omega), u4_app, if_neg (by omega)]; exact h2
  · rw [u4_app, if_neg (by omega), u4_app, if_neg (by omega)]; exact h3 k t i j hk hj
  · rw [u4_app, if_neg (by omega), u4_app, if_neg (by omega)]; exact h4 j (by omega)
  · rw [u4_app, if_neg (by omega), u4_app]
    by_cases e : j = m
    · subst e; rw [if_pos ⟨rfl, rfl, rfl, rfl⟩, hx]
    · rw [if_neg (by omega)]; exact h5 j (by omega)
theorem flat_u {Y : S4} {kk jj : Nat} {x : Int32} {m : Nat} (hk : kk < 6) (hm : m = bas kk + jj) (hj : bas kk + jj < bas (kk + 1)) : ∀ j, flat (u4 Y (24 + kk) 0 0 jj x) j = if j = m then x else flat Y j := by
  intro j
  subst hm
  have hne : ∀ k' j', k' ≠ 24 + kk → u4 Y (24 + kk) 0 0 jj x k' 0 0 j' = Y k' 0 0 j' := fun k' j' h => by rw [u4_app, if_neg (fun z => h z.1)]
  have heq : ∀ j', u4 Y (24 + kk) 0 0 jj x (24 + kk) 0 0 j' = if j' = jj then x else Y (24 + kk) 0 0 j' := fun j' => by
    rw [u4_app]
    by_cases e : j' = jj
    · rw [if_pos ⟨rfl, rfl, rfl, e⟩, if_pos e]
    · rw [if_neg (fun z => e z.2.2.2), if_neg e]
  unfold flat
  rcases kk with _|_|_|_|_|_|kk
  all_goals first | omega | (simp only [bas, Nat.reduceAdd, Nat.zero_add] at hj heq hne ⊢)
  all_goals (rw [hne 7 _ (by decide)])
  all_goals (try rw [hne 24 _ (by decide)])
  all_goals (try rw [hne 25 _ (by decide)])
  all_goals (try rw [hne 26 _ (by decide)])
  all_goals (try rw [hne 27 _ (by decide)])
  all_goals (try rw [hne 28 _ (by decide)])
  all_goals (try rw [hne 29 _ (by decide)])
  all_goals (rw [heq])
  all_goals (repeat' split)
  all_goals first | rfl | omega
theorem flat_un {Y : S4} {k t i j0 : Nat} {x : Int32} (hk : ¬ (24 ≤ k ∧ k < 30)) (h7 : k = 7 → j0 < 7 ∨ 14 ≤ j0) : ∀ j, j < 1236 → flat (u4 Y k t i j0 x) j = flat Y j := by
  intro j hj2
  have h24 : ∀ kk, 24 ≤ kk → kk < 30 → ∀ jj, u4 Y k t i j0 x kk 0 0 jj = Y kk 0 0 jj := fun kk h1 h2 jj => by rw [u4_app, if_neg (by omega)]
  have h7' : u4 Y k t i j0 x 7 0 0 (7 + (j - 1229)) = Y 7 0 0 (7 + (j - 1229)) := by
    rw [u4_app, if_neg]
    rintro ⟨e, -, -, e2⟩
    have := h7 e.symm
    omega
  unfold flat
  rw [h24 24 (by decide) (by decide), h24 25 (by decide) (by decide), h24 26 (by decide) (by decide), h24 27 (by decide) (by decide), h24 28 (by decide) (by decide), h24 29 (by decide) (by decide), h7']
theorem flat_u7 {Y : S4} {jj : Nat} {x : Int32} (hj : jj < 7) : ∀ j, j < 1236 → flat (u4 Y 7 0 0 (7 + jj) x) j = if j = 1229 + jj then x else flat Y j := by
  intro j hj2
  have h24 : ∀ kk, 24 ≤ kk → ∀ j', u4 Y 7 0 0 (7 + jj) x kk 0 0 j' = Y kk 0 0 j' := fun kk h1 j' => by rw [u4_app, if_neg (by omega)]
  unfold flat
  rw [h24 24 (by decide), h24 25 (by decide), h24 26 (by decide), h24 27 (by decide), h24 28 (by decide), h24 29 (by decide), u4_app]
  by_cases h : j < 1229
  · rw [if_neg (show ¬ j = 1229 + jj by omega), if_pos h, if_pos h]
  · rw [if_neg h, if_neg h, if_neg (show ¬ j < 1169 by omega), if_neg (show ¬ j < 1169 by omega), if_neg (show ¬ j < 449 by omega), if_neg (show ¬ j < 449 by omega), if_neg (show ¬ j < 189 by omega), if_neg (show ¬ j < 189 by omega), if_neg (show ¬ j < 69 by omega), if_neg (show ¬ j < 69 by omega), if_neg (show ¬ j < 30 by omega), if_neg (show ¬ j < 30 by omega)]
    by_cases e : j = 1229 + jj
    · rw [if_pos e, if_pos ⟨rfl, rfl, rfl, by omega⟩]
    · rw [if_neg e, if_neg (by omega)]
theorem hands_S {Z : S4} {fu a ln2 kk ln o m : Nat} (ha : a ≠ 7) (ha2 : ¬ (24 ≤ a ∧ a < 30)) (hkk : 24 ≤ kk ∧ kk < 30) (hl : o + m + ln ≤ ln2) (h2 : ln2 ≤ 10880) (hln : ln ≤ 720) (hsrc : ∀ j, j < ln → Z kk 0 0 j = flat Z (m + j)) : ∀ (d j f : Nat) (Y : S4), j + d = ln → d < f → SV Z a o (m + j) Y → ∃ Y', s_X7_hands_L2 fu kk 0 0 ln a 0 0 ln2 f (nI j) Y = some Y' ∧ SV Z a o (m + ln) Y' := by
  intro d
  induction d with
  | zero =>
    intro j f Y hj hf h
    obtain ⟨f, rfl⟩ : ∃ g, f = g + 1 := ⟨f - 1, by omega⟩
    obtain rfl : j = ln := by omega
    rw [s_X7_hands_L2, if_pos (nI_le (by omega) (by omega))]
    exact ⟨Y, rfl, h⟩
  | succ d ih =>
    intro j f Y hj hf h
    obtain ⟨f, rfl⟩ : ∃ g, f = g + 1 := ⟨f - 1, by omega⟩
    have hs := sv_step ha (hsrc j (by omega)) h
    obtain ⟨h1, h2', h3, h4, h5⟩ := id h
    rw [s_X7_hands_L2, if_neg (nI_ge (by omega) (by omega)), h2', if_neg (by decide), gd_t (inb_nI (by omega) (by omega)), h1, gd_t (inb_nI (by omega) (by omega)), nI_clamp (by omega), nI_clamp (by omega), sv_e, sv_e, show u4 Y a 0 0 (o + (m + j)) (Y kk 0 0 j) 7 0 0 22 = nI (o + (m + j)) from by rw [u4_app, if_neg (by omega)]; exact h1, nI_1, nI_1, h3 kk 0 0 j (by omega) (by omega)]
    exact ih (j + 1) f _ (by omega) (by omega) hs
theorem hands_L {Z : S4} {fu a ln2 kk ln o m : Nat} (ha : a ≠ 7) (ha2 : ¬ (24 ≤ a ∧ a < 30)) (hkk : kk < 6) (hm : m = bas kk) (hln2 : m + ln = bas (kk + 1)) (hl : o + m + ln ≤ ln2) (h2 : ln2 ≤ 10880) (hln : ln ≤ 720) : ∀ (d j f : Nat) (Y : S4), j + d = ln → d < f → LD Z a o (m + j) Y → ∃ Y', s_X7_hands_L2 fu (24 + kk) 0 0 ln a 0 0 ln2 f (nI j) Y = some Y' ∧ LD Z a o (m + ln) Y' := by
  intro d
  induction d with
  | zero =>
    intro j f Y hj hf h
    obtain ⟨f, rfl⟩ : ∃ g, f = g + 1 := ⟨f - 1, by omega⟩
    obtain rfl : j = ln := by omega
    rw [s_X7_hands_L2, if_pos (nI_le (by omega) (by omega))]
    exact ⟨Y, rfl, h⟩
  | succ d ih =>
    intro j f Y hj hf h
    obtain ⟨f, rfl⟩ : ∃ g, f = g + 1 := ⟨f - 1, by omega⟩
    obtain ⟨h1, h2', h3, h4, h5⟩ := id h
    rw [s_X7_hands_L2, if_neg (nI_ge (by omega) (by omega)), h2', if_pos rfl, h1, gd_t (inb_nI (by omega) (by omega)), gd_t (inb_nI (by omega) (by omega)), nI_clamp (by omega), nI_clamp (by omega), sv_e, sv_e, show u4 Y (24 + kk) 0 0 j (Y a 0 0 (o + (m + j))) 7 0 0 22 = nI (o + (m + j)) from by rw [u4_app, if_neg (by omega)]; exact h1, nI_1, nI_1]
    refine ih (j + 1) f _ (by omega) (by omega) ⟨?_, ?_, fun k t i j' hk h7 => ?_, fun j' hj' => ?_, fun j' hj' => ?_⟩
    · rw [u4_app, if_pos ⟨rfl, rfl, rfl, rfl⟩]; rfl
    · rw [u4_app, if_neg (by omega), u4_app, if_neg (by omega)]; exact h2'
    · rw [u4_app, if_neg (by omega), u4_app, if_neg (by omega)]; exact h3 k t i j' hk h7
    · rw [u4_app, if_neg (by omega), u4_app, if_neg (by omega)]; exact h4 j' hj'
    · have hb : bas (kk + 1) ≤ 1229 := by
        rcases kk with _|_|_|_|_|_|kk
        all_goals first | omega | simp [bas]
      rw [flat_un (by omega) (by omega) j' (by omega), flat_u hkk (m := m + j) (by omega) (by omega)]
      by_cases e : j' = m + j
      · subst e; rw [if_pos rfl]; exact h3 a 0 0 _ ha2 ha
      · rw [if_neg e]; exact h5 j' (by omega)
theorem hand_S {Z Y : S4} {a ln2 o m j : Nat} {β : Type} {F : S4 → Option β} (ha : a ≠ 7) (hj : j < 7) (hm : m = 1229 + j) (hl : o + m + 1 ≤ ln2) (h2 : ln2 ≤ 10880) (h : SV Z a o m Y) : ∃ Y', SV Z a o (m + 1) Y' ∧ ((s_X7_hand (Y 7 0 0 (7 + j)) a 0 0 ln2 Y).bind fun q16 => sv (u4 q16.2 7 0 0 (7 + j) q16.1) F) = F Y' := by
  obtain ⟨h1, h2', h3, h4, h5⟩ := id h
  have hv : Y 7 0 0 (7 + j) = flat Z m := by
    rw [h3 7 0 0 (7 + j) (by omega) (by omega)]
    unfold flat
    rw [if_neg (by omega), if_neg (by omega), if_neg (by omega), if_neg (by omega), if_neg (by omega), if_neg (by omega), show m - 1229 = j by omega]
  have hs := sv_step ha hv h
  unfold s_X7_hand
  rw [h2', if_neg (by decide), bd_s, h1, gd_t (inb_nI (by omega) (by omega)), nI_clamp (by omega), sv_e, sv_e, show u4 Y a 0 0 (o + m) (Y 7 0 0 (7 + j)) 7 0 0 22 = nI (o + m) from by rw [u4_app, if_neg (by omega)]; exact h1, nI_1, bd_s, sv_e]
  refine ⟨_, ?_, rfl⟩
  rw [show u4 (u4 (u4 Y a 0 0 (o + m) (Y 7 0 0 (7 + j))) 7 0 0 22 (nI (o + m + 1))) 7 0 0 (7 + j) (Y 7 0 0 (7 + j)) = u4 (u4 Y a 0 0 (o + m) (Y 7 0 0 (7 + j))) 7 0 0 22 (nI (o + m + 1)) from ?_]
  · exact hs
  · funext k t i j'
    rw [u4_app]
    by_cases e : k = 7 ∧ t = 0 ∧ i = 0 ∧ j' = 7 + j
    · obtain ⟨rfl, rfl, rfl, rfl⟩ := e
      rw [if_pos ⟨rfl, rfl, rfl, rfl⟩, u4_app, if_neg (by omega), u4_app, if_neg (by omega)]
    · rw [if_neg e]
theorem hand_L {Z Y : S4} {a ln2 o m j : Nat} {β : Type} {F : S4 → Option β} {x : Int32} (ha : a ≠ 7) (ha2 : ¬ (24 ≤ a ∧ a < 30)) (hj : j < 7) (hm : m = 1229 + j) (hl : o + m + 1 ≤ ln2) (h2 : ln2 ≤ 10880) (h : LD Z a o m Y) : ∃ Y', LD Z a o (m + 1) Y' ∧ ((s_X7_hand x a 0 0 ln2 Y).bind fun q16 => sv (u4 q16.2 7 0 0 (7 + j) q16.1) F) = F Y' := by
  obtain ⟨h1, h2', h3, h4, h5⟩ := id h
  unfold s_X7_hand
  rw [h2', if_pos rfl, h1, gd_t (inb_nI (by omega) (by omega)), bd_s, gd_t (inb_nI (by omega) (by omega)), nI_clamp (by omega), sv_e, sv_e, show ∀ y, u4 Y a 0 0 (o + m) y 7 0 0 22 = nI (o + m) from fun y => by rw [u4_app, if_neg (by omega)]; exact h1, nI_1, bd_s, sv_e]
  dsimp only
  refine ⟨_, ⟨?_, ?_, fun k t i j' hk h7 => ?_, fun j' hj' => ?_, fun j' hj' => ?_⟩, rfl⟩
  · rw [u4_app, if_neg (by omega), u4_app, if_pos ⟨rfl, rfl, rfl, rfl⟩]; rfl
  · rw [u4_app, if_neg (by omega), u4_app, if_neg (by omega), u4_app, if_neg (by omega)]; exact h2'
  · rw [u4_app, if_neg (by omega), u4_app, if_neg (by omega), u4_app]
    by_cases e : k = a ∧ t = 0 ∧ i = 0 ∧ j' = o + m
    · obtain ⟨rfl, rfl, rfl, rfl⟩ := e
      rw [if_pos ⟨rfl, rfl, rfl, rfl⟩]
      exact h3 _ _ _ _ hk h7
    · rw [if_neg e]; exact h3 k t i j' hk h7
  · rw [u4_app, if_neg (by omega), u4_app, if_neg (by omega), u4_app, if_neg (by omega)]; exact h4 j' hj'
  · rw [flat_u7 hj j' (by omega), flat_un (by omega) (by omega) j' (by omega), flat_un ha2 (by omega) j' (by omega)]
    by_cases e : j' = 1229 + j
    · rw [if_pos e]
      obtain rfl : j' = m := by omega
      exact h3 a 0 0 _ ha2 ha
    · rw [if_neg e]; exact h5 j' (by omega)
theorem src_24 {Z : S4} {k m ln : Nat} (hk : k < 6) (hm : m = bas k) (hln : m + ln = bas (k + 1)) : ∀ j, j < ln → Z (24 + k) 0 0 j = flat Z (m + j) := by
  intro j hj
  subst hm
  unfold flat
  rcases k with _|_|_|_|_|_|k
  all_goals first | omega | (simp only [bas] at hln ⊢)
  all_goals (repeat' split)
  all_goals first | omega | (rw [Nat.add_sub_cancel_left]) | (rw [Nat.zero_add])
theorem r_keep {Z : S4} {fu a ln2 o : Nat} (ha : a ≠ 7) (ha2 : ¬ (24 ≤ a ∧ a < 30)) (hl : o + 1236 ≤ ln2) (h2 : ln2 ≤ 10880) (hf : 720 < fu) : ∃ Z', s_X7_handsAll fu a 0 0 ln2 (nI o) 1 Z = some Z' ∧ SV Z a o 1236 Z' := by
  unfold s_X7_handsAll
  rw [gd_t (Or.inr rfl), sv_e, sv_e]
  have h0 : SV Z a o 0 (u4 (u4 Z 7 0 0 23 1) 7 0 0 22 (nI o)) := by
    refine ⟨?_, ?_, fun k t i j hk hj => ?_, fun j hj => ?_, fun j hj => absurd hj (by omega)⟩
    · rw [u4_app, if_pos ⟨rfl, rfl, rfl, rfl⟩]; rfl
    · rw [u4_app, if_neg (by omega), u4_app, if_pos ⟨rfl, rfl, rfl, rfl⟩]
    · rw [u4_app, if_neg (by omega), u4_app, if_neg (by omega)]
    · rw [u4_app, if_neg (by omega), u4_app, if_neg (by omega)]
  unfold s_X7_hands
  obtain ⟨Y1, e1, H1⟩ := hands_S (fu := fu) (kk := 24) (ln := 30) (m := 0) ha ha2 (by omega) (by omega) h2 (by omega) (src_24 (k := 0) (by decide) rfl rfl) 30 0 fu _ (by omega) (by omega) h0
  rw [show (0 : Int32) = nI 0 from rfl, e1, bd_s]
  obtain ⟨Y2, e2, H2⟩ := hands_S (fu := fu) (kk := 25) (ln := 39) (m := 30) ha ha2 (by omega) (by omega) h2 (by omega) (src_24 (k := 1) (by decide) rfl rfl) 39 0 fu _ (by omega) (by omega) H1
  rw [e2, bd_s]
  obtain ⟨Y3, e3, H3⟩ := hands_S (fu := fu) (kk := 26) (ln := 120) (m := 69) ha ha2 (by omega) (by omega) h2 (by omega) (src_24 (k := 2) (by decide) rfl rfl) 120 0 fu _ (by omega) (by omega) H2
  rw [e3, bd_s]
  obtain ⟨Y4, e4, H4⟩ := hands_S (fu := fu) (kk := 27) (ln := 260) (m := 189) ha ha2 (by omega) (by omega) h2 (by omega) (src_24 (k := 3) (by decide) rfl rfl) 260 0 fu _ (by omega) (by omega) H3
  rw [e4, bd_s]
  obtain ⟨Y5, e5, H5⟩ := hands_S (fu := fu) (kk := 28) (ln := 720) (m := 449) ha ha2 (by omega) (by omega) h2 (by omega) (src_24 (k := 4) (by decide) rfl rfl) 720 0 fu _ (by omega) (by omega) H4
  rw [e5, bd_s]
  obtain ⟨Y6, e6, H6⟩ := hands_S (fu := fu) (kk := 29) (ln := 60) (m := 1169) ha ha2 (by omega) (by omega) h2 (by omega) (src_24 (k := 5) (by decide) rfl rfl) 60 0 fu _ (by omega) (by omega) H5
  rw [e6, bd_s]
  obtain ⟨Y7, H7, e7⟩ := hand_S (ln2 := ln2) (j := 0) ha (by decide) rfl (by omega) h2 H6
  rw [e7]
  obtain ⟨Y8, H8, e8⟩ := hand_S (ln2 := ln2) (j := 1) ha (by decide) rfl (by omega) h2 H7
  rw [e8]
  obtain ⟨Y9, H9, e9⟩ := hand_S (ln2 := ln2) (j := 2) ha (by decide) rfl (by omega) h2 H8
  rw [e9]
  obtain ⟨Y10, H10, e10⟩ := hand_S (ln2 := ln2) (j := 3) ha (by decide) rfl (by omega) h2 H9
  rw [e10]
  obtain ⟨Y11, H11, e11⟩ := hand_S (ln2 := ln2) (j := 4) ha (by decide) rfl (by omega) h2 H10
  rw [e11]
  obtain ⟨Y12, H12, e12⟩ := hand_S (ln2 := ln2) (j := 5) ha (by decide) rfl (by omega) h2 H11
  rw [e12]
  obtain ⟨Y13, H13, e13⟩ := hand_S (ln2 := ln2) (j := 6) ha (by decide) rfl (by omega) h2 H12
  rw [e13]
  exact ⟨Y13, rfl, H13⟩
theorem r_back {Z : S4} {fu a ln2 o : Nat} (ha : a ≠ 7) (ha2 : ¬ (24 ≤ a ∧ a < 30)) (hl : o + 1236 ≤ ln2) (h2 : ln2 ≤ 10880) (hf : 720 < fu) : ∃ Z', s_X7_handsAll fu a 0 0 ln2 (nI o) 0 Z = some Z' ∧ LD Z a o 1236 Z' := by
  unfold s_X7_handsAll
  rw [gd_t (Or.inl rfl), sv_e, sv_e]
  have h0 : LD Z a o 0 (u4 (u4 Z 7 0 0 23 0) 7 0 0 22 (nI o)) := by
    refine ⟨?_, ?_, fun k t i j hk hj => ?_, fun j hj => ?_, fun j hj => absurd hj (by omega)⟩
    · rw [u4_app, if_pos ⟨rfl, rfl, rfl, rfl⟩]; rfl
    · rw [u4_app, if_neg (by omega), u4_app, if_pos ⟨rfl, rfl, rfl, rfl⟩]
    · rw [u4_app, if_neg (by omega), u4_app, if_neg (by omega)]
    · rw [u4_app, if_neg (by omega), u4_app, if_neg (by omega)]
  unfold s_X7_hands
  obtain ⟨Y1, e1, H1⟩ := hands_L (fu := fu) (kk := 0) (ln := 30) (m := 0) ha ha2 (by omega) rfl rfl (by omega) h2 (by omega) 30 0 fu _ (by omega) (by omega) h0
  rw [show ∀ x, s_X7_hands_L2 fu 24 0 0 30 a 0 0 ln2 fu 0 x = s_X7_hands_L2 fu (24 + 0) 0 0 30 a 0 0 ln2 fu (nI 0) x from fun _ => rfl, e1, bd_s]
  obtain ⟨Y2, e2, H2⟩ := hands_L (fu := fu) (kk := 1) (ln := 39) (m := 30) ha ha2 (by omega) rfl rfl (by omega) h2 (by omega) 39 0 fu _ (by omega) (by omega) H1
  rw [show ∀ x, s_X7_hands_L2 fu 25 0 0 39 a 0 0 ln2 fu 0 x = s_X7_hands_L2 fu (24 + 1) 0 0 39 a 0 0 ln2 fu (nI 0) x from fun _ => rfl, e2, bd_s]
  obtain ⟨Y3, e3, H3⟩ := hands_L (fu := fu) (kk := 2) (ln := 120) (m := 69) ha ha2 (by omega) rfl rfl (by omega) h2 (by omega) 120 0 fu _ (by omega) (by omega) H2
  rw [show ∀ x, s_X7_hands_L2 fu 26 0 0 120 a 0 0 ln2 fu 0 x = s_X7_hands_L2 fu (24 + 2) 0 0 120 a 0 0 ln2 fu (nI 0) x from fun _ => rfl, e3, bd_s]
  obtain ⟨Y4, e4, H4⟩ := hands_L (fu := fu) (kk := 3) (ln := 260) (m := 189) ha ha2 (by omega) rfl rfl (by omega) h2 (by omega) 260 0 fu _ (by omega) (by omega) H3
  rw [show ∀ x, s_X7_hands_L2 fu 27 0 0 260 a 0 0 ln2 fu 0 x = s_X7_hands_L2 fu (24 + 3) 0 0 260 a 0 0 ln2 fu (nI 0) x from fun _ => rfl, e4, bd_s]
  obtain ⟨Y5, e5, H5⟩ := hands_L (fu := fu) (kk := 4) (ln := 720) (m := 449) ha ha2 (by omega) rfl rfl (by omega) h2 (by omega) 720 0 fu _ (by omega) (by omega) H4
  rw [show ∀ x, s_X7_hands_L2 fu 28 0 0 720 a 0 0 ln2 fu 0 x = s_X7_hands_L2 fu (24 + 4) 0 0 720 a 0 0 ln2 fu (nI 0) x from fun _ => rfl, e5, bd_s]
  obtain ⟨Y6, e6, H6⟩ := hands_L (fu := fu) (kk := 5) (ln := 60) (m := 1169) ha ha2 (by omega) rfl rfl (by omega) h2 (by omega) 60 0 fu _ (by omega) (by omega) H5
  rw [show ∀ x, s_X7_hands_L2 fu 29 0 0 60 a 0 0 ln2 fu 0 x = s_X7_hands_L2 fu (24 + 5) 0 0 60 a 0 0 ln2 fu (nI 0) x from fun _ => rfl, e6, bd_s]
  obtain ⟨Y7, H7, e7⟩ := hand_L (ln2 := ln2) (j := 0) ha ha2 (by decide) rfl (by omega) h2 H6
  rw [e7]
  obtain ⟨Y8, H8, e8⟩ := hand_L (ln2 := ln2) (j := 1) ha ha2 (by decide) rfl (by omega) h2 H7
  rw [e8]
  obtain ⟨Y9, H9, e9⟩ := hand_L (ln2 := ln2) (j := 2) ha ha2 (by decide) rfl (by omega) h2 H8
  rw [e9]
  obtain ⟨Y10, H10, e10⟩ := hand_L (ln2 := ln2) (j := 3) ha ha2 (by decide) rfl (by omega) h2 H9
  rw [e10]
  obtain ⟨Y11, H11, e11⟩ := hand_L (ln2 := ln2) (j := 4) ha ha2 (by decide) rfl (by omega) h2 H10
  rw [e11]
  obtain ⟨Y12, H12, e12⟩ := hand_L (ln2 := ln2) (j := 5) ha ha2 (by decide) rfl (by omega) h2 H11
  rw [e12]
  obtain ⟨Y13, H13, e13⟩ := hand_L (ln2 := ln2) (j := 6) ha ha2 (by decide) rfl (by omega) h2 H12
  rw [e13]
  exact ⟨Y13, rfl, H13⟩
