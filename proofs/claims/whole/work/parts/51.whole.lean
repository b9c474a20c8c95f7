def SP (S S' : S4) (i : Nat) : Prop := ∀ k t j w, ¬ ((k = 2 ∨ k = 3 ∨ (10 ≤ k ∧ k ≤ 13)) ∧ j = i) → S' k t j w = S k t j w
def ZP (Z Z' : S4) : Prop := ∀ k t j w, ¬ (k = 7 ∧ w = 17) → k ≠ 31 → Z' k t j w = Z k t j w
theorem SP.refl {S : S4} {i : Nat} : SP S S i := fun _ _ _ _ _ => rfl
theorem ZP.refl {Z : S4} : ZP Z Z := fun _ _ _ _ _ _ => rfl
theorem SP.trans {S1 S2 S3 : S4} {i : Nat} (a : SP S1 S2 i) (b : SP S2 S3 i) : SP S1 S3 i := fun k t j w h => (b k t j w h).trans (a k t j w h)
theorem ZP.trans {S1 S2 S3 : S4} (a : ZP S1 S2) (b : ZP S2 S3) : ZP S1 S3 := fun k t j w h1 h2 => (b k t j w h1 h2).trans (a k t j w h1 h2)
theorem SP.wps {S : S4} {i a : Nat} : SP S (wps S i a) i := fun k t j w h => wps_ne (by omega)
theorem ZP.wat {Z : S4} {a : Nat} : ZP Z (wat Z a) := fun k t j w h1 h2 => wat_ne h1
theorem SP.u2 {S : S4} {i w : Nat} {x : Int32} : SP S (u4 S 2 0 i w x) i := fun k t j w' h => by rw [u4_app, if_neg (by omega)]
theorem ZP.u31 {Z : S4} {w : Nat} {x : Int32} : ZP Z (u4 Z 31 0 0 w x) := fun k t j w' h1 h2 => by rw [u4_app, if_neg (by omega)]
theorem SX.sp {S S' : S4} {i lo hi : Nat} (h : SX S S' i lo hi) : SP S S' i := fun k t j w g => h k t j w (by omega) (by omega) (by omega) (by omega)
theorem ZX.zp {Z Z' : S4} {lo hi : Nat} (h : ZX Z Z' lo hi) : ZP Z Z' := fun k t j w g1 g2 => h k t j w g1 (fun z => g2 z.1) (fun z => g2 z.1)
section PL
variable {fu i len : Nat}
theorem TX.s2 {S Z : S4} {a w : Nat} {x : Int32} (h : TX S Z i len a) : TX (u4 S 2 0 i w x) Z i len a :=
  h.of (by funext j; rw [u4_app, if_neg (by omega)]) (by funext t j w'; rw [u4_app, if_neg (by omega)]) rfl rfl
theorem TX.z31 {S Z : S4} {a w : Nat} {x : Int32} (h : TX S Z i len a) : TX S (u4 Z 31 0 0 w x) i len a :=
  h.of rfl rfl (by funext t j w'; rw [u4_app, if_neg (by omega)]) (by funext t j w'; rw [u4_app, if_neg (by omega)])
def PD (S Z : S4) (i : Nat) : Prop := ∃ t R e b, t ≤ 9999 ∧ 1 ≤ R ∧ R ≤ 8 ∧ e < 8 ∧ b ≤ 9 ∧ S 2 0 i 0 = nI t ∧ Z 31 0 0 0 = nI t ∧ S 2 0 i 1 = nI R ∧ Z 31 0 0 1 = nI R ∧ S 2 0 i 2 = nI e ∧ Z 31 0 0 2 = nI e ∧ S 2 0 i 3 = nI b ∧ Z 31 0 0 3 = nI b ∧ ∀ w, w < R → QR S Z i w
theorem QR.two {S S' Z Z' : S4} {r : Nat} (h : QR S Z i r) (hS : ∀ k t j w, 10 ≤ k → S' k t j w = S k t j w) (hZ : ∀ w, 4 ≤ w → Z' 31 0 0 w = Z 31 0 0 w) : QR S' Z' i r := by
  obtain ⟨a, b, n, h1, h2, h3, h4, h5, h6, h7, h8, h9, h10, h11⟩ := h
  refine ⟨a, b, n, h1, h2, h3, h4, ?_, ?_, ?_, ?_, ?_, ?_, fun k hk => ?_⟩
  · rw [hS 10 0 i r (by omega)]; exact h5
  · rw [hZ _ (by omega)]; exact h6
  · rw [hS 11 0 i r (by omega)]; exact h7
  · rw [hZ _ (by omega)]; exact h8
  · rw [hS 12 0 i r (by omega)]; exact h9
  · rw [hZ _ (by omega)]; exact h10
  · obtain ⟨c, c1, c2, c3⟩ := h11 k hk
    exact ⟨c, c1, by rw [hS 13 0 i _ (by omega)]; exact c2, by rw [hZ _ (by omega)]; exact c3⟩
theorem t_end {S Z : S4} {a : Nat} (hT : TX S Z i len a) : ∃ x, (if S 3 0 i 1 = S 3 0 i 3 then some ((1 : Int32), S) else some (0, S)) = some (x, S) ∧ (if Z 7 0 0 17 = Z 7 0 0 16 then some ((1 : Int32), Z) else some (0, Z)) = some (x, Z) ∧ (x = 0 ∨ x = 1) := by
  rw [hT.1, hT.2.1, hT.2.2.1, hT.2.2.2.1]
  by_cases e : nI a = nI len
  · rw [if_pos e, if_pos e]; exact ⟨1, rfl, rfl, Or.inr rfl⟩
  · rw [if_neg e, if_neg e]; exact ⟨0, rfl, rfl, Or.inl rfl⟩
theorem t_plan {S Z : S4} (hfu : 20 < fu) (hT : TX S (wat Z 0) i len 0) (h1 : S 2 0 i 1 = nI 0) (h3 : S 2 0 i 3 = nI 3) (h12 : ∀ w, w < 8 → S 12 0 i w = nI 0) : ∃ x S' Z' a', s_X3_readPlan fu i S = some (x, S') ∧ s_X7_takesPlan fu Z = some (x, Z') ∧ S' 3 0 i 1 = nI a' ∧ Z' 7 0 0 17 = nI a' ∧ a' ≤ len ∧ SP S S' i ∧ ZP Z Z' ∧ (x = 0 ∨ (x = 1 ∧ PD S' Z' i)) := by
  have i0 : inb (0 : Int32) 52 := inb_nI (n := 0) (by decide) (by decide)
  have i1 : inb (1 : Int32) 52 := inb_nI (n := 1) (by decide) (by decide)
  have i2 : inb (2 : Int32) 52 := inb_nI (n := 2) (by decide) (by decide)
  have i3 : inb (3 : Int32) 52 := inb_nI (n := 3) (by decide) (by decide)
  have h80 := hT.2.2.2.2.2.1
  have fin : ∀ (x : Int32) (S' Z' : S4) (a' : Nat), TX S' Z' i len a' → SP S S' i → ZP Z Z' → (x = 0 ∨ (x = 1 ∧ PD S' Z' i)) → ∃ x1 S1 Z1 a1, some (x, S') = some (x1, S1) ∧ some (x, Z') = some (x1, Z1) ∧ S1 3 0 i 1 = nI a1 ∧ Z1 7 0 0 17 = nI a1 ∧ a1 ≤ len ∧ SP S S1 i ∧ ZP Z Z1 ∧ (x1 = 0 ∨ (x1 = 1 ∧ PD S1 Z1 i)) := fun x S' Z' a' g1 g2 g3 g4 => ⟨x, S', Z', a', rfl, rfl, g1.1, g1.2.2.1, g1.2.2.2.2.1, g2, g3, g4⟩
  unfold s_X3_readPlan s_X7_takesPlan
  rw [sv_e, show u4 Z 7 0 0 17 0 = wat Z 0 from rfl]
  rcases t_skip (x := 64) hT with ⟨k1, k2⟩ | ⟨k0, k1, k2⟩
  · rw [k1, bd_s, k2, bd_s, if_pos rfl, if_pos rfl]
    exact fin 0 S _ 0 hT SP.refl ZP.wat (Or.inl rfl)
  · rw [k1, bd_s, k2, bd_s, if_neg (show ¬ (1 : Int32) = 0 by decide), if_neg (show ¬ (1 : Int32) = 0 by decide), wat_wat]
    dsimp only
    have hT1 := hT.go (a' := 0 + 1) (by omega)
    rw [wat_wat] at hT1
    rcases t_number (fu := fu) (by omega) hT1 with ⟨e1, e2⟩ | ⟨n, a1, hn, ha1, e1, e2⟩
    · rw [e1, bd_s, e2, bd_s, sv_e, gd_t i0, sv_e, gd_t i0]
      dsimp only
      rw [show u4 (wps S i (0 + 1)) 2 0 i 0 (-1) 2 0 i 0 = -1 from by rw [u4_app, if_pos ⟨rfl, rfl, rfl, rfl⟩], if_pos rfl, show (0 : Int32).toNatClampNeg = 0 from rfl, show u4 (wat Z (0 + 1)) 31 0 0 0 (-1) 31 0 0 0 = -1 from by rw [u4_app, if_pos ⟨rfl, rfl, rfl, rfl⟩], if_pos (by decide)]
      exact fin 0 _ _ (0 + 1) hT1.s2.z31 (SP.wps.trans SP.u2) (ZP.wat.trans ZP.u31) (Or.inl rfl)
    · rw [e1, bd_s, e2, bd_s, sv_e, gd_t i0, sv_e, gd_t i0, wps_wps, wat_wat]
      dsimp only
      rw [show u4 (wps S i a1) 2 0 i 0 (nI n) 2 0 i 0 = nI n from by rw [u4_app, if_pos ⟨rfl, rfl, rfl, rfl⟩], if_neg (nI_m1 (by omega)), show (0 : Int32).toNatClampNeg = 0 from rfl, show u4 (wat Z a1) 31 0 0 0 (nI n) 31 0 0 0 = nI n from by rw [u4_app, if_pos ⟨rfl, rfl, rfl, rfl⟩], if_neg (nI_pos (by omega))]
      have hT2 : TX (u4 (wps S i a1) 2 0 i 0 (nI n)) (u4 (wat Z a1) 31 0 0 0 (nI n)) i len a1 := by
        have := hT.go (a' := a1) ha1
        rw [wat_wat] at this
        exact this.s2.z31
      have sp2 : SP S (u4 (wps S i a1) 2 0 i 0 (nI n)) i := SP.wps.trans SP.u2
      have zp2 : ZP Z (u4 (wat Z a1) 31 0 0 0 (nI n)) := ZP.wat.trans ZP.u31
      have y0 : u4 (wps S i a1) 2 0 i 0 (nI n) 2 0 i 0 = nI n := by rw [u4_app, if_pos ⟨rfl, rfl, rfl, rfl⟩]
      have y1 : u4 (wps S i a1) 2 0 i 0 (nI n) 2 0 i 1 = nI 0 := by rw [u4_app, if_neg (by omega), wps_ne (by omega)]; exact h1
      have y3 : u4 (wps S i a1) 2 0 i 0 (nI n) 2 0 i 3 = nI 3 := by rw [u4_app, if_neg (by omega), wps_ne (by omega)]; exact h3
      have y12 : ∀ w, w < 8 → u4 (wps S i a1) 2 0 i 0 (nI n) 12 0 i w = nI 0 := fun w hw => by rw [u4_app, if_neg (by omega), wps_ne (by omega)]; exact h12 w hw
      have x0 : u4 (wat Z a1) 31 0 0 0 (nI n) 31 0 0 0 = nI n := by rw [u4_app, if_pos ⟨rfl, rfl, rfl, rfl⟩]
      generalize u4 (wps S i a1) 2 0 i 0 (nI n) = Y at hT2 sp2 y0 y1 y3 y12 ⊢
      generalize u4 (wat Z a1) 31 0 0 0 (nI n) = X at hT2 zp2 x0 ⊢
      rcases t_skip (x := 58) hT2 with ⟨k1, k2⟩ | ⟨k0, k1, k2⟩
      · rw [k1, bd_s, k2, bd_s, if_pos rfl, if_pos rfl]
        exact fin 0 Y X a1 hT2 sp2 zp2 (Or.inl rfl)
      · rw [k1, bd_s, k2, bd_s, if_neg (show ¬ (1 : Int32) = 0 by decide), if_neg (show ¬ (1 : Int32) = 0 by decide)]
        dsimp only
        unfold s_X7_takesRules
        rw [gd_t i1, sv_e, show (1 : Int32).toNatClampNeg = 1 from rfl]
        have hT3 : TX (wps Y i (a1 + 1)) (u4 (wat X (a1 + 1)) 31 0 0 1 0) i len (a1 + 1) := (hT2.go (by omega)).z31
        obtain ⟨x, S1, Z1, a2, f1, f2, f3, f4, f5, f6⟩ := t_rules_L (fu := fu) (i := i) (len := len) hfu 8 0 fu fu (a1 + 1) (wps Y i (a1 + 1)) (u4 (wat X (a1 + 1)) 31 0 0 1 0) (by omega) (by omega) (by omega) (by omega) hT3 (by rw [wps_ne (by omega)]; exact y1) (by rw [u4_app, if_pos ⟨rfl, rfl, rfl, rfl⟩]; rfl) (fun w _ hw => by rw [wps_ne (by omega)]; exact y12 w hw) (fun w hw => absurd hw (by omega))
        have f1' : s_X3_readRules fu i (wps Y i (a1 + 1)) = some (x, S1) := f1
        have sp3 : SP S S1 i := (sp2.trans SP.wps).trans f4.sp
        have zp3 : ZP Z Z1 := (zp2.trans (ZP.wat.trans ZP.u31)).trans f5.zp
        rw [f1', bd_s, f2, bd_s]
        rcases f6 with rfl | ⟨rfl, R, r1, r8, q1, q31, qr⟩
        · rw [if_pos rfl, if_pos rfl]
          exact fin 0 S1 Z1 a2 f3 sp3 zp3 (Or.inl rfl)
        · have s0 : S1 2 0 i 0 = nI n := by rw [f4 2 0 i 0 (by omega) (by omega) (by omega) (by omega), wps_ne (by omega)]; exact y0
          have s3 : S1 2 0 i 3 = nI 3 := by rw [f4 2 0 i 3 (by omega) (by omega) (by omega) (by omega), wps_ne (by omega)]; exact y3
          have z0 : Z1 31 0 0 0 = nI n := by rw [f5 31 0 0 0 (by omega) (by omega) (by omega), u4_app, if_neg (by omega), wat_ne (by omega)]; exact x0
          rw [if_neg (show ¬ (1 : Int32) = 0 by decide), if_neg (show ¬ (1 : Int32) = 0 by decide)]
          dsimp only
          rcases t_skip (x := 120) f3 with ⟨k1, k2⟩ | ⟨k0, k1, k2⟩
          · rw [k1, bd_s, k2, bd_s, if_pos rfl, if_pos rfl]
            exact fin 0 S1 Z1 a2 f3 sp3 zp3 (Or.inl rfl)
          · have hT4 := f3.go (a' := a2 + 1) (by omega)
            rw [k1, bd_s, k2, bd_s, if_neg (show ¬ (1 : Int32) = 0 by decide), if_neg (show ¬ (1 : Int32) = 0 by decide)]
            dsimp only
            rcases t_readDigit (g := 7) (hi := 55) (by decide) rfl hT4 with ⟨e1, e2⟩ | ⟨e, he, ha, e1, e2, e3, e4⟩
            · have e1' : s_X3_readDigit i 7 (wps S1 i (a2 + 1)) = _ := e1
              rw [e1', bd_s, e2, bd_s, if_pos rfl, sv_e]
              dsimp only
              rw [show u4 (wps S1 i (a2 + 1)) 2 0 i 2 (-1) 2 0 i 2 = -1 from by rw [u4_app, if_pos ⟨rfl, rfl, rfl, rfl⟩], if_pos rfl]
              exact fin 0 _ _ (a2 + 1) hT4.s2 ((sp3.trans SP.wps).trans SP.u2) (zp3.trans ZP.wat) (Or.inl rfl)
            · have e1' : s_X3_readDigit i 7 (wps S1 i (a2 + 1)) = _ := e1
              have hat : wat Z1 (a2 + 1) 7 0 0 17 = nI (a2 + 1) := hT4.2.2.1
              rw [e1', bd_s, e2, bd_s, if_neg (show ¬ (1 : Int32) = 0 by decide), gd_t (show inb (wat Z1 (a2 + 1) 7 0 0 17) 80 from by rw [hat]; exact inb_nI (by omega) (by decide)), hat, nI_clamp (by omega), gd_t i2, e4, sv_e, sv_e, show ∀ y, u4 (wat Z1 (a2 + 1)) 31 0 0 (2 : Int32).toNatClampNeg y 7 0 0 17 = nI (a2 + 1) from fun y => by rw [u4_app, if_neg (by omega)]; exact hat, nI_1, sv_e, gd_t i3, sv_e, wps_wps]
              dsimp only
              rw [show u4 (wps S1 i (a2 + 1 + 1)) 2 0 i 2 (nI e) 2 0 i 2 = nI e from by rw [u4_app, if_pos ⟨rfl, rfl, rfl, rfl⟩], if_neg (nI_m1 (by omega))]
              have hX : u4 (u4 (u4 (wat Z1 (a2 + 1)) 31 0 0 (2 : Int32).toNatClampNeg (nI e)) 7 0 0 17 (nI (a2 + 1 + 1))) 31 0 0 (3 : Int32).toNatClampNeg 3 = u4 (wat (u4 (wat Z1 (a2 + 1)) 31 0 0 2 (nI e)) (a2 + 1 + 1)) 31 0 0 3 (nI 3) := rfl
              rw [hX]
              have hT5 : TX (u4 (wps S1 i (a2 + 1 + 1)) 2 0 i 2 (nI e)) (u4 (wat (u4 (wat Z1 (a2 + 1)) 31 0 0 2 (nI e)) (a2 + 1 + 1)) 31 0 0 3 (nI 3)) i len (a2 + 1 + 1) := by
                have := (hT4.z31 (w := 2) (x := nI e)).go (a' := a2 + 1 + 1) (by omega)
                rw [wps_wps] at this
                exact this.s2.z31
              have sp5 : SP S (u4 (wps S1 i (a2 + 1 + 1)) 2 0 i 2 (nI e)) i := (sp3.trans SP.wps).trans SP.u2
              have zp5 : ZP Z (u4 (wat (u4 (wat Z1 (a2 + 1)) 31 0 0 2 (nI e)) (a2 + 1 + 1)) 31 0 0 3 (nI 3)) := (((zp3.trans ZP.wat).trans ZP.u31).trans ZP.wat).trans ZP.u31
              have w0 : u4 (wps S1 i (a2 + 1 + 1)) 2 0 i 2 (nI e) 2 0 i 0 = nI n := by rw [u4_app, if_neg (by omega), wps_ne (by omega)]; exact s0
              have w1 : u4 (wps S1 i (a2 + 1 + 1)) 2 0 i 2 (nI e) 2 0 i 1 = nI R := by rw [u4_app, if_neg (by omega), wps_ne (by omega)]; exact q1
              have w2 : u4 (wps S1 i (a2 + 1 + 1)) 2 0 i 2 (nI e) 2 0 i 2 = nI e := by rw [u4_app, if_pos ⟨rfl, rfl, rfl, rfl⟩]
              have w3 : u4 (wps S1 i (a2 + 1 + 1)) 2 0 i 2 (nI e) 2 0 i 3 = nI 3 := by rw [u4_app, if_neg (by omega), wps_ne (by omega)]; exact s3
              have v0 : u4 (wat (u4 (wat Z1 (a2 + 1)) 31 0 0 2 (nI e)) (a2 + 1 + 1)) 31 0 0 3 (nI 3) 31 0 0 0 = nI n := by rw [u4_app, if_neg (by omega), wat_ne (by omega), u4_app, if_neg (by omega), wat_ne (by omega)]; exact z0
              have v1 : u4 (wat (u4 (wat Z1 (a2 + 1)) 31 0 0 2 (nI e)) (a2 + 1 + 1)) 31 0 0 3 (nI 3) 31 0 0 1 = nI R := by rw [u4_app, if_neg (by omega), wat_ne (by omega), u4_app, if_neg (by omega), wat_ne (by omega)]; exact q31
              have v2 : u4 (wat (u4 (wat Z1 (a2 + 1)) 31 0 0 2 (nI e)) (a2 + 1 + 1)) 31 0 0 3 (nI 3) 31 0 0 2 = nI e := by rw [u4_app, if_neg (by omega), wat_ne (by omega), u4_app, if_pos ⟨rfl, rfl, rfl, rfl⟩]
              have v3 : u4 (wat (u4 (wat Z1 (a2 + 1)) 31 0 0 2 (nI e)) (a2 + 1 + 1)) 31 0 0 3 (nI 3) 31 0 0 3 = nI 3 := by rw [u4_app, if_pos ⟨rfl, rfl, rfl, rfl⟩]
              have qr5 : ∀ w, w < R → QR (u4 (wps S1 i (a2 + 1 + 1)) 2 0 i 2 (nI e)) (u4 (wat (u4 (wat Z1 (a2 + 1)) 31 0 0 2 (nI e)) (a2 + 1 + 1)) 31 0 0 3 (nI 3)) i w := fun w hw => (qr w hw).two (fun k t j w' hk => by rw [u4_app, if_neg (by omega), wps_ne (by omega)]) (fun w' hw' => by rw [u4_app, if_neg (by omega), wat_ne (by omega), u4_app, if_neg (by omega), wat_ne (by omega)])
              generalize u4 (wps S1 i (a2 + 1 + 1)) 2 0 i 2 (nI e) = Y5 at hT5 sp5 w0 w1 w2 w3 qr5 ⊢
              generalize u4 (wat (u4 (wat Z1 (a2 + 1)) 31 0 0 2 (nI e)) (a2 + 1 + 1)) 31 0 0 3 (nI 3) = X5 at hT5 zp5 v0 v1 v2 v3 qr5 ⊢
              unfold s_X3_readBound
              rcases t_skip (x := 42) hT5 with ⟨k1, k2⟩ | ⟨k0, k1, k2⟩
              · rw [k1, bd_s, k2, bd_s, if_pos rfl, if_pos rfl]
                dsimp only
                rw [if_neg (show ¬ Y5 2 0 i 3 = -1 by rw [w3]; exact nI_m1 (by decide)), bd_s, if_neg (show ¬ (1 : Int32) = 0 by decide)]
                obtain ⟨x, g1, g2, g3⟩ := t_end hT5
                dsimp only
                rw [g1, g2]
                refine fin x Y5 X5 _ hT5 sp5 zp5 ?_
                rcases g3 with g3 | g3
                · exact Or.inl g3
                · exact Or.inr ⟨g3, n, R, e, 3, hn, r1, r8, by omega, by decide, w0, v0, w1, v1, w2, v2, w3, v3, qr5⟩
              · have hT6 := hT5.go (a' := a2 + 1 + 1 + 1) (by omega)
                rw [k1, bd_s, k2, bd_s, if_neg (show ¬ (1 : Int32) = 0 by decide), if_neg (show ¬ (1 : Int32) = 0 by decide)]
                dsimp only
                rcases t_readDigit (g := 9) (hi := 57) (by decide) rfl hT6 with ⟨e1, e2⟩ | ⟨d, hd, ha', e1, e2, e3, e4⟩
                · have e1' : s_X3_readDigit i 9 (wps Y5 i (a2 + 1 + 1 + 1)) = _ := e1
                  rw [e1', bd_s, e2, bd_s, if_pos rfl, sv_e]
                  dsimp only
                  rw [show u4 (wps Y5 i (a2 + 1 + 1 + 1)) 2 0 i 3 (-1) 2 0 i 3 = -1 from by rw [u4_app, if_pos ⟨rfl, rfl, rfl, rfl⟩], if_pos rfl, bd_s, if_pos rfl]
                  exact fin 0 _ _ _ hT6.s2 ((sp5.trans SP.wps).trans SP.u2) (zp5.trans ZP.wat) (Or.inl rfl)
                · have e1' : s_X3_readDigit i 9 (wps Y5 i (a2 + 1 + 1 + 1)) = _ := e1
                  have hat : wat X5 (a2 + 1 + 1 + 1) 7 0 0 17 = nI (a2 + 1 + 1 + 1) := hT6.2.2.1
                  rw [e1', bd_s, e2, bd_s, if_neg (show ¬ (1 : Int32) = 0 by decide), gd_t (show inb (wat X5 (a2 + 1 + 1 + 1) 7 0 0 17) 80 from by rw [hat]; exact inb_nI (by omega) (by decide)), hat, nI_clamp (by omega), gd_t i3, e4, sv_e, sv_e, show ∀ y, u4 (wat X5 (a2 + 1 + 1 + 1)) 31 0 0 (3 : Int32).toNatClampNeg y 7 0 0 17 = nI (a2 + 1 + 1 + 1) from fun y => by rw [u4_app, if_neg (by omega)]; exact hat, nI_1, sv_e, wps_wps]
                  dsimp only
                  rw [show u4 (wps Y5 i (a2 + 1 + 1 + 1 + 1)) 2 0 i 3 (nI d) 2 0 i 3 = nI d from by rw [u4_app, if_pos ⟨rfl, rfl, rfl, rfl⟩], if_neg (nI_m1 (by omega)), bd_s, if_neg (show ¬ (1 : Int32) = 0 by decide)]
                  have hX' : u4 (u4 (wat X5 (a2 + 1 + 1 + 1)) 31 0 0 (3 : Int32).toNatClampNeg (nI d)) 7 0 0 17 (nI (a2 + 1 + 1 + 1 + 1)) = wat (u4 (wat X5 (a2 + 1 + 1 + 1)) 31 0 0 3 (nI d)) (a2 + 1 + 1 + 1 + 1) := rfl
                  rw [hX']
                  have hT7 : TX (u4 (wps Y5 i (a2 + 1 + 1 + 1 + 1)) 2 0 i 3 (nI d)) (wat (u4 (wat X5 (a2 + 1 + 1 + 1)) 31 0 0 3 (nI d)) (a2 + 1 + 1 + 1 + 1)) i len (a2 + 1 + 1 + 1 + 1) := by
                    have := (hT6.z31 (w := 3) (x := nI d)).go (a' := a2 + 1 + 1 + 1 + 1) (by omega)
                    rw [wps_wps] at this
                    exact this.s2
                  obtain ⟨x, g1, g2, g3⟩ := t_end hT7
                  dsimp only
                  rw [g1, g2]
                  refine fin x _ _ _ hT7 ((sp5.trans SP.wps).trans SP.u2) (((zp5.trans ZP.wat).trans ZP.u31).trans ZP.wat) ?_
                  rcases g3 with g3 | g3
                  · exact Or.inl g3
                  · refine Or.inr ⟨g3, n, R, e, d, hn, r1, r8, by omega, hd, ?_, ?_, ?_, ?_, ?_, ?_, ?_, ?_, fun w hw => (qr5 w hw).two (fun k t j w' hk => by rw [u4_app, if_neg (by omega), wps_ne (by omega)]) (fun w' hw' => by rw [wat_ne (by omega), u4_app, if_neg (by omega), wat_ne (by omega)])⟩
                    · rw [u4_app, if_neg (by omega), wps_ne (by omega)]; exact w0
                    · rw [wat_ne (by omega), u4_app, if_neg (by omega), wat_ne (by omega)]; exact v0
                    · rw [u4_app, if_neg (by omega), wps_ne (by omega)]; exact w1
                    · rw [wat_ne (by omega), u4_app, if_neg (by omega), wat_ne (by omega)]; exact v1
                    · rw [u4_app, if_neg (by omega), wps_ne (by omega)]; exact w2
                    · rw [wat_ne (by omega), u4_app, if_neg (by omega), wat_ne (by omega)]; exact v2
                    · rw [u4_app, if_pos ⟨rfl, rfl, rfl, rfl⟩]
                    · rw [wat_ne (by omega), u4_app, if_pos ⟨rfl, rfl, rfl, rfl⟩]
end PL
