/-! sums and counts -/
def sm (f : Nat → Int32) : Nat → Int32
  | 0 => 0
  | n + 1 => sm f n + f n
def cn (P : Nat → Prop) [DecidablePred P] : Nat → Nat
  | 0 => 0
  | n + 1 => cn P n + if P n then 1 else 0
theorem sm_congr {f g : Nat → Int32} {n : Nat} (h : ∀ k, k < n → g k = f k) : sm g n = sm f n := by
  induction n with
  | zero => rfl
  | succ n ih => rw [sm, sm, ih (fun k hk => h k (by omega)), h n (by omega)]
theorem sm_one {f g : Nat → Int32} {n : Nat} (k : Nat) (hk : k < n) (h : ∀ j, j < n → j ≠ k → g j = f j) : sm g n = sm f n + (g k - f k) := by
  induction n with
  | zero => omega
  | succ n ih =>
    rw [sm, sm]
    by_cases e : k = n
    · subst e
      rw [sm_congr (f := f) (fun j hj => h j (by omega) (by omega))]
      grind
    · rw [ih (by omega) (fun j hj hne => h j (by omega) hne), h n (by omega) (fun z => e z.symm)]
      grind
theorem sm_zero {f : Nat → Int32} {n : Nat} (h : ∀ k, k < n → f k = 0) : sm f n = 0 := by
  induction n with
  | zero => rfl
  | succ n ih => rw [sm, ih (fun k hk => h k (by omega)), h n (by omega)]; rfl
theorem sm_add {f g : Nat → Int32} {n : Nat} : sm (fun k => f k + g k) n = sm f n + sm g n := by
  induction n with
  | zero => rfl
  | succ n ih => rw [sm, sm, sm, ih]; grind
theorem cn_congr {P Q : Nat → Prop} [DecidablePred P] [DecidablePred Q] {n : Nat} (h : ∀ k, k < n → (Q k ↔ P k)) : cn Q n = cn P n := by
  induction n with
  | zero => rfl
  | succ n ih =>
    rw [cn, cn, ih (fun k hk => h k (by omega))]
    by_cases hP : P n
    · rw [if_pos hP, if_pos ((h n (by omega)).mpr hP)]
    · rw [if_neg hP, if_neg (fun z => hP ((h n (by omega)).mp z))]
theorem cn_le {P : Nat → Prop} [DecidablePred P] {n : Nat} : cn P n ≤ n := by
  induction n with
  | zero => exact Nat.le_refl 0
  | succ n ih => rw [cn]; split <;> omega
theorem cn_lt {P : Nat → Prop} [DecidablePred P] {n : Nat} (k : Nat) (hk : k < n) (h : ¬ P k) : cn P n < n := by
  induction n with
  | zero => omega
  | succ n ih =>
    rw [cn]
    by_cases e : k = n
    · subst e
      rw [if_neg h]
      have := cn_le (P := P) (n := k)
      omega
    · have := ih (by omega)
      split <;> omega
theorem cn_one {P Q : Nat → Prop} [DecidablePred P] [DecidablePred Q] {n : Nat} (k : Nat) (hk : k < n) (h : ∀ j, j < n → j ≠ k → (Q j ↔ P j)) (hP : ¬ P k) (hQ : Q k) : cn Q n = cn P n + 1 := by
  induction n with
  | zero => omega
  | succ n ih =>
    rw [cn, cn]
    by_cases e : k = n
    · subst e
      rw [cn_congr (P := P) (fun j hj => h j (by omega) (by omega)), if_neg hP, if_pos hQ]
    · rw [ih (by omega) (fun j hj hne => h j (by omega) hne)]
      have := h n (by omega) (fun z => e z.symm)
      by_cases hp : P n
      · rw [if_pos hp, if_pos (this.mpr hp)]
      · rw [if_neg hp, if_neg (fun z => hp (this.mp z))]
theorem cn_sm {P : Nat → Prop} [DecidablePred P] {n : Nat} : sm (fun k => b2 (P k)) n = nI (cn P n) := by
  induction n with
  | zero => rfl
  | succ n ih =>
    rw [sm, cn, ih]
    by_cases h : P n
    · rw [if_pos h, b2_t h]; exact nI_1 _
    · rw [if_neg h, b2_f h]; simp
/-! what both sides compute, over the reference's view -/
theorem b2_if {p : Prop} [Decidable p] {α : Type} {a b : α} : (if b2 p = 0 then a else b) = if p then b else a := by
  by_cases h : p
  · rw [b2_t h, if_pos h]; rfl
  · rw [b2_f h, if_neg h]; rfl
def cd : Option Nat → Int32
  | none => -1
  | some n => nI n
abbrev usbl (v : Vw) (c : Nat) : Prop := v 2 c 9 = 0 ∧ v 2 c 7 = 0 ∧ v 2 c 8 = 0 ∧ v 2 c 6 < v 2 c 1
abbrev splt (x : Int32) (c : Nat) : Prop := (x >>> (nI c &&& 31)) &&& 1 = 1
abbrev cgo (v : Vw) (p c : Nat) : Prop := usbl v c ∧ ¬ splt (v 4 p 11) c
def pof (v : Vw) (tick : Int32) : Nat → Option Nat
  | 0 => none
  | n + 1 => if v 3 n 0 ≤ tick then some n else pof v tick n
/-- the first rule from r on, m rules -/
def rul (v : Vw) (p : Nat) (d : Int32) : Nat → Nat → Option Nat
  | 0, _ => none
  | m + 1, r => if v 3 p (4 + 6 * r + 0) ≤ d ∧ d ≤ v 3 p (4 + 6 * r + 1) then some r else rul v p d m (r + 1)
/-- the first chute of a rule from k on that can be gone to -/
def fgo (v : Vw) (q p r : Nat) : Nat → Nat → Option Nat
  | 0, _ => none
  | m + 1, k => if cgo v q (v 3 p (4 + 6 * r + (3 + k))).toNatClampNeg then some k else fgo v q p r m (k + 1)
def hasc (v : Vw) (p r : Nat) (c : Int32) : Nat → Nat → Bool
  | 0, _ => false
  | m + 1, k => if v 3 p (4 + 6 * r + (3 + k)) = c then true else hasc v p r c m (k + 1)
def dread (v : Vw) (q : Nat) : Int32 := if v 4 q 3 = 1 then 10 * (v 4 q 0 - v 4 q 0 / 10 * 10) + v 4 q 0 / 10 else v 4 q 0
abbrev nlp (v : Vw) : Nat := (v 6 0 3).toNatClampNeg
abbrev rof (v : Vw) (p : Nat) (d : Int32) : Option Nat := rul v p d (v 3 p 1).toNatClampNeg 0
abbrev tmv (v : Vw) : Int32 := v 6 0 6
def aim (v : Vw) (q : Nat) (t r : Int32) : Vw := us (us v 4 q 7 t) 4 q 8 r
def exc (v : Vw) (q p : Nat) (r : Int32) : Vw := if cgo v q (v 3 p 2).toNatClampNeg then aim v q (v 3 p 2) r else aim v q (-1) (r + 10)
def fgr (w : Vw) (q p r : Nat) (o : Option Nat) : Vw := match o with
  | none => aim w q (-1) 6
  | some k => aim w q (w 3 p (4 + 6 * r + (3 + k))) (if k = 0 then 0 else 1)
def scn1 (v : Vw) (q : Nat) : Vw :=
  match pof v (tmv v) (nlp v) with
  | none => aim v q (-1) 5
  | some p => if v 4 q 3 = 2 then exc v q p 2 else if ¬ v 4 q 6 - 1 ≤ v 3 p 3 then exc v q p 3 else
    match rof v p (dread v q) with
    | none => exc v q p 4
    | some r => fgr v q p r (fgo v q p r (v 3 p (4 + 6 * r + 2)).toNatClampNeg 0)
def scn (v0 : Vw) (q : Nat) : Vw := scn1 (us v0 4 q 6 (v0 4 q 6 + 1)) q
def wrong (v : Vw) (q : Nat) : Int32 := if v 4 q 3 = 1 then 2 else 3
def verd (v : Vw) (q c : Nat) : Int32 :=
  match pof v (tmv v) (nlp v) with
  | none => wrong v q
  | some p => if v 3 p 2 = nI c then 1 else
    match rof v p (v 4 q 0) with
    | none => wrong v q
    | some r => if hasc v p r (nI c) (v 3 p (4 + 6 * r + 2)).toNatClampNeg 0 then 0 else wrong v q
def ctk2 (v : Vw) (c : Nat) : Vw := if v 2 c 8 = 0 then v else
  if v 2 c 8 + (-1) = 0 then us (us v 2 c 8 (v 2 c 8 + (-1))) 2 c 6 0 else us v 2 c 8 (v 2 c 8 + (-1))
/-- a chute's own tick -/
def ctk (v : Vw) (c : Nat) : Vw := ctk2 (if v 2 c 7 ≤ 0 then v else us v 2 c 7 (v 2 c 7 + (-1))) c
def jamd (v : Vw) (c : Nat) : Vw := us (us v 2 c 7 (v 2 c 4)) 2 c 12 (v 2 c 12 + 1)
/-- a bag that is finished -/
def bag (v : Vw) (c : Nat) : Vw := let v5 := us (us v 2 c 14 (v 2 c 14 + 1)) 2 c 8 (v 2 c 5); if v 2 c 5 = 0 then us v5 2 c 6 0 else v5
def rcv0 (v : Vw) (c : Nat) : Vw := us (us (us v 2 c 10 (tmv v)) 2 c 11 (v 2 c 11 + 1)) 2 c 6 (v 2 c 6 + 1)
def rcv (v : Vw) (c : Nat) : Vw := if v 2 c 1 ≤ v 2 c 6 + 1 then bag (rcv0 v c) c else rcv0 v c
/-- a dropped parcel's own numbers -/
def drq (v : Vw) (q c : Nat) (x : Int32) : Vw := us (us (us (us (us v 4 q 10 x) 4 q 4 2) 4 q 5 (nI c)) 4 q 7 (-1)) 4 q 9 (tmv v)
def drg (v : Vw) (q : Nat) : Vw := us (us v 5 0 (v 6 0 5).toNatClampNeg (nI q)) 6 0 5 (v 6 0 5 + 1)
def drp (v : Vw) (q c : Nat) : Vw :=
  let v1 := us v 0 0 (v 4 q 5).toNatClampNeg (-1)
  rcv (drg (drq v1 q c (verd v1 q c)) q) c
abbrev hvy (v : Vw) (q c : Nat) : Prop := ¬ v 4 q 2 ≤ v 2 c 3
abbrev clo (v : Vw) (c : Nat) : Prop := ¬ v 2 c 10 < 0 ∧ ¬ v 2 c 2 ≤ tmv v - v 2 c 10
def trx (v : Vw) (q c : Nat) (h : Prop) [Decidable h] : Vw :=
  let v1 := us v 4 q 7 (-1)
  if usbl v c then jamd (if h then us v1 4 q 11 (v 4 q 11 ||| 1 <<< (nI c &&& 31)) else v1) c else us v1 2 c 13 (v 2 c 13 + 1)
def tri (v : Vw) (q c : Nat) : Vw :=
  if usbl v c ∧ ¬ hvy v q c ∧ ¬ clo v c then drp v q c else trx v q c (hvy v q c)
/-- a row's first n entries from j on moved down by one -/
def shf (v : Vw) (s : Nat) : Nat → Nat → Vw
  | 0, _ => v
  | m + 1, k => shf (us v 1 s k (v 1 s (k + 1))) s m (k + 1)
def snd1 (v : Vw) (s : Nat) (q p : Nat) : Vw :=
  us (us (us (us (us v 1 s 1 (v 1 s 1 - 1)) 1 s 2 (v 1 s 2 + 1)) 0 0 p (nI q)) 4 q 4 1) 4 q 5 (nI p)
def snd0 (v : Vw) (s : Nat) : Vw :=
  if v 0 0 (v 1 s 0).toNatClampNeg < 0 ∧ ¬ v 1 s 1 = 0 then snd1 (shf v s ((v 1 s 1).toNatClampNeg - 1) 3) s (v 1 s 3).toNatClampNeg (v 1 s 0).toNatClampNeg else v
def rot (v : Vw) : Nat → Vw
  | 0 => v
  | k + 1 => rot (us v 0 0 (k + 1) (v 0 0 k)) k
def ats (v : Vw) : Nat → Nat → Vw
  | 0, _ => v
  | m + 1, k => ats (if v 0 0 k < 0 then v else us v 4 (v 0 0 k).toNatClampNeg 5 (nI k)) m (k + 1)
def trn (v : Vw) (pc : Nat) : Vw := ats (us (rot v (pc - 1)) 0 0 0 (v 0 0 (pc - 1))) pc 0
