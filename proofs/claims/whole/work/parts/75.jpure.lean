/-! the builder's numbers: what the appends keep -/
def ln (S : S4) : Nat := (S 9 0 0 200).toNatClampNeg
def JB (S : S4) : Prop := S 8 0 0 1 = 0 ∧ ∀ j, j ≠ 200 → fits .byte (.int (S 9 0 0 j)) = true
theorem i32n {x : Int32} {b : Nat} (h0 : 0 ≤ x) (h1 : x ≤ nI b) (hb : b < 2 ^ 31) : ∃ m, m ≤ b ∧ x = nI m := by
  have a0 : (0 : Int) ≤ x.toInt := by simpa using Int32.le_iff_toInt_le.mp h0
  have a1 : x.toInt ≤ (b : Int) := by
    have := Int32.le_iff_toInt_le.mp h1
    rw [nI_toInt hb] at this
    exact this
  refine ⟨x.toInt.toNat, by omega, ?_⟩
  apply Int32.toInt_inj.mp
  rw [nI_toInt (by omega)]
  omega
theorem i32l {x : Int32} {b : Nat} (h0 : 0 ≤ x) (h1 : x < nI b) (hb : b < 2 ^ 31) : ∃ m, m < b ∧ x = nI m := by
  have a0 : (0 : Int) ≤ x.toInt := by simpa using Int32.le_iff_toInt_le.mp h0
  have a1 : x.toInt < (b : Int) := by
    have := Int32.lt_iff_toInt_lt.mp h1
    rw [nI_toInt hb] at this
    exact this
  refine ⟨x.toInt.toNat, by omega, ?_⟩
  apply Int32.toInt_inj.mp
  rw [nI_toInt (by omega)]
  omega
theorem fit_k : ∀ k, k < 128 → fits .byte (.int (nI k)) = true ∧ vp_nar .byte (nI k) = nI k ∧ (nI k).toInt8.toInt32 = nI k ∧ ((nI k &&& 255).toUInt32 % 65536).toInt32 = nI k := by decide +kernel
theorem fit_ndg (v k j : Nat) : ∃ d, d < 10 ∧ ndg v k j = nI (48 + d) := ⟨v / 10 ^ (k - 1 - j) % 10, Nat.mod_lt _ (by decide), rfl⟩
section JP
variable {q c v : Int32} {S S1 S' : S4}
theorem ens_spec (hs : s_ens q S = some S1) : (q ≤ S 9 0 0 200 ∧ S1 = S) ∨ (¬ q ≤ S 9 0 0 200 ∧ ∃ m, m ≤ 70 ∧ S 9 0 0 200 = nI m ∧ q ≤ nI (2 * m + 2) ∧ S1 = w4 S 9 0 0 (fun j => if j = 200 then nI (2 * m + 2) else if j < m then S 9 0 0 j else 0)) := by
  unfold s_ens at hs
  by_cases h : q ≤ S 9 0 0 200
  · rw [if_pos h] at hs
    exact Or.inl ⟨h, (Option.some.inj hs).symm⟩
  · rw [if_neg h] at hs
    obtain ⟨⟨g1, g2, g3⟩, hs⟩ := gd_some hs
    obtain ⟨m, hm, em⟩ := i32n (b := 70) g1 g2 (by decide)
    have e2 : (2 : Int32) * S 9 0 0 200 + 2 = nI (2 * m + 2) := by rw [em, show (2 : Int32) * nI m = nI (2 * m) from pk_mul 2 m]; exact nI_add _ 2
    rw [e2] at hs g3
    rw [em, nI_clamp (by omega)] at hs
    exact Or.inr ⟨h, m, hm, em, g3, (Option.some.inj hs).symm⟩
theorem ens_ok (hs : s_ens q S = some S1) : (JB S → JB S1) ∧ S1 8 = S 8 ∧ ln S ≤ ln S1 ∧ ∀ k, k ≠ 9 → S1 k = S k := by
  rcases ens_spec hs with ⟨-, rfl⟩ | ⟨-, m, hm, em, -, rfl⟩
  · exact ⟨id, rfl, Nat.le_refl _, fun _ _ => rfl⟩
  · have e8 : ∀ k, k ≠ 9 → (w4 S 9 0 0 (fun j => if j = 200 then nI (2 * m + 2) else if j < m then S 9 0 0 j else 0)) k = S k := fun k hk => by
      funext t i
      exact w4_ne (fun z => hk z.1)
    refine ⟨fun hB => ⟨by rw [e8 8 (by decide)]; exact hB.1, fun j hj => ?_⟩, e8 8 (by decide), ?_, e8⟩
    · rw [w4_self, if_neg hj]
      split
      · exact hB.2 j hj
      · rfl
    · unfold ln
      rw [w4_self, if_pos rfl, em, nI_clamp (by omega), nI_clamp (by omega)]
      omega
theorem apc_spec (hs : s_apc c S = some S') : ∃ S1 w m k, s_ens (S 8 0 0 0 + 1) S = some S1 ∧ w < m ∧ m ≤ 142 ∧ k < 128 ∧ S1 8 0 0 0 = nI w ∧ S1 9 0 0 200 = nI m ∧ c = nI k ∧ S' = u4 (u4 S1 8 0 0 0 (nI (w + 1))) 9 0 0 w (nI k) := by
  obtain ⟨S1, h1, hs⟩ := bd_some hs
  obtain ⟨⟨g1, g2, g3, g4, g5⟩, hs⟩ := gd_some hs
  obtain ⟨m, hm, em⟩ := i32n (x := S1 9 0 0 200) (b := 142) (Int32.le_trans g1 (Int32.le_of_lt g2)) g3 (by decide)
  rw [em] at g2
  obtain ⟨w, hw, ew⟩ := i32l g1 g2 (by omega)
  obtain ⟨k, hk, ek⟩ := i32l (b := 128) g4 g5 (by decide)
  refine ⟨S1, w, m, k, h1, hw, hm, hk, ew, em, ek, ?_⟩
  rw [← Option.some.inj hs, ew, ek, nI_clamp (by omega), nI_1]
  funext k t i j
  rw [u4_app, u4_app, u4_app, u4_app]
  by_cases a : k = 8 ∧ t = 0 ∧ i = 0 ∧ j = 0
  · rw [if_pos a, if_neg (by omega), if_pos a]
  · rw [if_neg a]
    by_cases b : k = 9 ∧ t = 0 ∧ i = 0 ∧ j = w
    · rw [if_pos b, if_pos b]
    · rw [if_neg b, if_neg b, if_neg a]
theorem apc_ok (hs : s_apc c S = some S') : (JB S → JB S') ∧ ln S ≤ ln S' ∧ ∀ k, k ≠ 8 → k ≠ 9 → S' k = S k := by
  obtain ⟨S1, w, m, k, h1, hw, hm, hk, ew, em, ek, rfl⟩ := apc_spec hs
  obtain ⟨o1, o2, o3, o4⟩ := ens_ok h1
  refine ⟨fun hB => ⟨?_, fun j hj => ?_⟩, ?_, fun kk n8 n9 => ?_⟩
  · rw [u4_app, if_neg (by omega), u4_app, if_neg (by omega)]
    exact (o1 hB).1
  · rw [u4_app]
    split
    · exact (fit_k k hk).1
    · rw [u4_app, if_neg (by omega)]
      exact (o1 hB).2 j hj
  · refine Nat.le_trans o3 (Nat.le_of_eq ?_)
    unfold ln
    rw [u4_app, if_neg (by omega), u4_app, if_neg (by omega)]
  · funext t i j
    rw [u4_app, if_neg (by omega), u4_app, if_neg (by omega), o4 kk n9]
theorem apn_spec (hs : s_apn v S = some S') : ∃ S1 a w m, a ≤ 9999 ∧ v = nI a ∧ s_ens (S 8 0 0 0 + nI (nsz a)) S = some S1 ∧ w + nsz a ≤ m ∧ m ≤ 142 ∧ S1 8 0 0 0 = nI w ∧ S1 9 0 0 200 = nI m ∧ S' = u4 (w4 S1 9 0 0 (fun j => if w ≤ j ∧ j < w + nsz a then ndg a (nsz a) (j - w) else S1 9 0 0 j)) 8 0 0 0 (nI (w + nsz a)) := by
  obtain ⟨⟨v0, v1⟩, hs⟩ := gd_some hs
  obtain ⟨a, ha, ea⟩ := i32n (b := 9999) v0 v1 (by decide)
  have ca : v.toNatClampNeg = a := by rw [ea]; exact nI_clamp (by omega)
  rw [ca] at hs
  obtain ⟨S1, h1, hs⟩ := bd_some hs
  obtain ⟨⟨g1, g0, g2, g3⟩, hs⟩ := gd_some hs
  have hn := nsz_le a
  obtain ⟨w, hw, ew⟩ := i32n (b := 142) g1 g0 (by decide)
  rw [ew, nI_add] at g2
  have e0 : (0 : Int32) ≤ S1 9 0 0 200 := Int32.le_trans (nI_pos' (by omega)) g2
  obtain ⟨m, hm, em⟩ := i32n (b := 142) e0 g3 (by decide)
  have hwm : w + nsz a ≤ m := by
    rw [em] at g2
    have := Int32.le_iff_toInt_le.mp g2
    rw [nI_toInt (by omega), nI_toInt (by omega)] at this
    omega
  refine ⟨S1, a, w, m, ha, ea, h1, hwm, hm, ew, em, ?_⟩
  rw [← Option.some.inj hs, ew, nI_clamp (by omega), nI_add]
theorem apn_ok (hs : s_apn v S = some S') : (JB S → JB S') ∧ ln S ≤ ln S' ∧ ∀ k, k ≠ 8 → k ≠ 9 → S' k = S k := by
  obtain ⟨S1, a, w, m, ha, ea, h1, hwm, hm, ew, em, rfl⟩ := apn_spec hs
  obtain ⟨o1, o2, o3, o4⟩ := ens_ok h1
  have hn := nsz_le a
  refine ⟨fun hB => ⟨?_, fun j hj => ?_⟩, ?_, fun kk n8 n9 => ?_⟩
  · rw [u4_app, if_neg (by omega), w4_ne (by omega)]
    exact (o1 hB).1
  · rw [u4_app, if_neg (by omega), w4_self]
    split
    · obtain ⟨d, hd, e⟩ := fit_ndg a (nsz a) (j - w)
      rw [e]
      exact (fit_k _ (by omega)).1
    · exact (o1 hB).2 j hj
  · refine Nat.le_trans o3 (Nat.le_of_eq ?_)
    unfold ln
    rw [u4_app, if_neg (by omega), w4_self, if_neg (by omega)]
  · funext t i j
    rw [u4_app, if_neg (by omega), w4_ne (by omega), o4 kk n9]
end JP
