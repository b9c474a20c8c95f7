/-! the words of the tables that any method may use -/
def gT : List Cond := lw_tbl.filter goodWord
theorem gin {w : Cond} (i : Nat) (h : lw_tbl[i]? = some w) (g : goodWord w = true) : w ∈ gT := List.mem_filter.mpr ⟨List.mem_of_getElem? h, g⟩
theorem gT_good {w : Cond} (h : w ∈ gT) : goodWord w = true := (List.mem_filter.mp h).2
theorem gT_in {w : Cond} (h : w ∈ gT) : w ∈ lw_tbl := (List.mem_filter.mp h).1
theorem gGood {c : Cond} (h : c ∈ gT) : GoodIn gT (c :: gT) := fun w hw => by
  have hm : w ∈ gT := (List.mem_cons.mp hw).elim (fun e => by rw [e]; exact h) id
  exact ⟨hm, good_of_word (gT_good hm)⟩
theorem gws {ps : List Nat} {ws : List Cond} (hp : ws = ps.filterMap (fun i => lw_tbl[i]?)) (h : ws.all goodWord = true) : ∀ w ∈ ws, w ∈ gT := fun w hw => by
  have h1 := goodIn_r ws ps hp h w hw
  exact List.mem_filter.mpr ⟨h1.1, List.all_eq_true.mp h w hw⟩
/-! the store of numbers: kind, state, instance, place -/
abbrev S4 : Type := Nat → Nat → Nat → Nat → Int32
def w4 (S : S4) (k t i : Nat) (r : Nat → Int32) : S4 := fun k' t' i' => if k' = k ∧ t' = t ∧ i' = i then r else S k' t' i'
def u4 (S : S4) (k t i j : Nat) (x : Int32) : S4 := w4 S k t i (upd (S k t i) j x)
theorem w4_self (S : S4) (k t i : Nat) (r : Nat → Int32) : w4 S k t i r k t i = r := if_pos ⟨rfl, rfl, rfl⟩
theorem w4_ne {S : S4} {k t i k' t' i' : Nat} {r : Nat → Int32} (h : ¬ (k' = k ∧ t' = t ∧ i' = i)) : w4 S k t i r k' t' i' = S k' t' i' := if_neg h
abbrev Ad : Type := Nat → Nat → Nat → Nat
def pcd (c : Int32) : Option Nat := if c < 0 then none else some c.toNatClampNeg
def dbl (hi lo : Int32) : UInt64 := (hi.toUInt32.toUInt64 <<< 32) ||| lo.toUInt32.toUInt64
/-! guards and steps of the walked functions -/
def gd {α : Type} (c : Prop) [Decidable c] (r : Option α) : Option α := if c then r else none
theorem gd_some {α : Type} {c : Prop} [Decidable c] {r : Option α} {o : α} (h : gd c r = some o) : c ∧ r = some o := by
  unfold gd at h
  by_cases hc : c
  · rw [if_pos hc] at h; exact ⟨hc, h⟩
  · rw [if_neg hc] at h; cases h
theorem gd_t {α : Type} {c : Prop} [Decidable c] {r : Option α} (h : c) : gd c r = r := if_pos h
def sv {α β : Type} (x : α) (f : α → β) : β := f x
theorem sv_some {α β : Type} {x : α} {f : α → Option β} {o : β} (h : sv x f = some o) (y : α) (e : y = x) : f y = some o := by rw [e]; exact h
theorem sv_e {α β : Type} (x : α) (f : α → β) : sv x f = f x := rfl
theorem bd_some {α β : Type} {x : Option α} {f : α → Option β} {o : β} (h : x.bind f = some o) : ∃ y, x = some y ∧ f y = some o := by
  cases x with
  | none => cases h
  | some y => exact ⟨y, rfl, h⟩
theorem if_t {α : Type} {c : Prop} [Decidable c] {a b : α} {o : α} (h : (if c then a else b) = o) (hc : c) : a = o := by rw [if_pos hc] at h; exact h
theorem if_f {α : Type} {c : Prop} [Decidable c] {a b : α} {o : α} (h : (if c then a else b) = o) (hc : ¬ c) : b = o := by rw [if_neg hc] at h; exact h

theorem vp_in_dec (i : Int32) (n : Nat) : vp_in i n ↔ ¬ (i < 0 ∨ n ≤ i.toNatClampNeg) := Iff.rfl
abbrev inb (i : Int32) (n : Nat) : Prop := ¬ (i < 0 ∨ n ≤ i.toNatClampNeg)
abbrev isB (x : Int32) : Prop := x = 0 ∨ x = 1
/-! the classes; the JDK's StringBuilder is the last of them -/
def RJ4 : String := "java/lang/StringBuilder"
def TJ4 : u_T := fun k => match k with
  | 0 => ("java/lang/AbstractStringBuilder", "value", "[B", false)
  | 1 => ("java/lang/AbstractStringBuilder", "coder", "B", false)
  | 2 => ("java/lang/AbstractStringBuilder", "maybeLatin1", "Z", false)
  | _ => ("java/lang/AbstractStringBuilder", "count", "I", false)
def tyJ4 : Nat → FieldType := fun k => match k with
  | 0 => .array .byte
  | 1 => .byte
  | 2 => .boolean
  | _ => .int
theorem nmJ4 : ∀ a, a < 4 → ∀ b, b < 4 → a ≠ b → (TJ4 a).2.1 ≠ (TJ4 b).2.1 := by decide +kernel
theorem tyJ4_ok : ∀ k, k < 4 → parseFieldDescriptor (TJ4 k).2.2.1 = some (tyJ4 k) := by decide +kernel
abbrev gCl : List vw_C := [(RX0, TX0, 15), (RX1, TX1, 12), (RX2, TX2, 8), (RX3, TX3, 4), (RX4, TX4, 16), (RX5, TX5, 4), (RX6, TX6, 10), (RX7, TX7, 27), (RJ4, TJ4, 4)]
/-- a class of the list with its words -/
def GC (ci : Nat) (C : String) (T : u_T) (N : Nat) (ty : Nat → FieldType) : Prop := gCl[ci]? = some (C, T, N) ∧ (∀ w ∈ u_ws C T N, w ∈ gT) ∧ (∀ k, k < N → parseFieldDescriptor (T k).2.2.1 = some (ty k)) ∧ ∀ a, a < N → ∀ b, b < N → a ≠ b → (T a).2.1 ≠ (T b).2.1
/-- a field as a class's pool names it: field j of class ci -/
def FL (own : String) (idx ci j : Nat) (ty : FieldType) : Prop := ∃ (C : String) (T : u_T) (N : Nat) (tys : Nat → FieldType), GC ci C T N tys ∧ j < N ∧ tys j = ty ∧ (T j).2.2.2 = false ∧ Cond.fieldLink own idx C (T j).2.1 (T j).2.2.1 ∈ gT ∧ (T j).1 = C
/-- .. one that may be final: for reading alone -/
def FR (own : String) (idx ci j : Nat) : Prop := ∃ (C : String) (T : u_T) (N : Nat) (tys : Nat → FieldType), GC ci C T N tys ∧ j < N ∧ Cond.fieldLink own idx C (T j).2.1 (T j).2.2.1 ∈ gT ∧ (T j).1 = C
theorem FL.r {own : String} {idx ci j : Nat} {ty : FieldType} (h : FL own idx ci j ty) : FR own idx ci j := by
  obtain ⟨C, T, N, tys, h1, h2, -, -, h3, h4⟩ := h
  exact ⟨C, T, N, tys, h1, h2, h3, h4⟩
def ML (own : String) (idx : Nat) (y : MethodName) (cy : ByteArray) (mL : Nat) (ret : Option FieldType) (n : Nat) : Prop := Cond.methodLink own idx y ∈ gT ∧ Cond.code y cy mL ret ∈ gT ∧ Cond.initialized y.cls ∈ gT ∧ (y.cls ≠ "java/lang/invoke/MethodHandle" ∧ y.cls ≠ "java/lang/invoke/VarHandle" ∧ (parseMethodDescriptor y.desc).map (fun d => d.parameters.length) = some n)
def MV (y : MethodName) : Prop := Cond.instanceMethod y ∈ gT ∧ Cond.selects y.cls y y ∈ gT

