/-! ===== memory as a function: a cell's address (from 1 on), a slot ===== -/
abbrev zM : Type := Int → Int → Int
abbrev zL : Type := Int → Int × Int
def w32 (x : Int) : Int := (x + 2147483648) % 4294967296 - 2147483648
abbrev InR (x : Int) : Prop := -2147483648 ≤ x ∧ x < 2147483648
def zO (x : Int) : Int32 := Int32.ofInt x
def mu (M : zM) (a i v : Int) : zM := fun b j => if b = a ∧ j = i then v else M b j
def lu (L : zL) (a : Int) (v : Int × Int) : zL := fun b => if b = a then v else L b
def mz (M : zM) (a : Int) : zM := fun b j => if b = a then 0 else M b j
/-- shallow steps -/
def bd1 {α γ : Type} (x : Option α) (k : α → Option γ) : Option γ := match x with | none => none | some a => k a
def bd2 {α β γ : Type} (x : Option (α × β)) (k : α → β → Option γ) : Option γ := match x with | none => none | some p => k p.1 p.2
def bd3 {α β δ γ : Type} (x : Option (α × β × δ)) (k : α → β → δ → Option γ) : Option γ := match x with | none => none | some p => k p.1 p.2.1 p.2.2
def bd4 {α β δ ε γ : Type} (x : Option (α × β × δ × ε)) (k : α → β → δ → ε → Option γ) : Option γ := match x with | none => none | some p => k p.1 p.2.1 p.2.2.1 p.2.2.2
def lt1 {α γ : Type} (x : α) (k : α → Option γ) : Option γ := k x
theorem bd1_e {α γ : Type} {x : Option α} {k : α → Option γ} {r : γ} (h : bd1 x k = some r) : ∃ a, x = some a ∧ k a = some r := by
  cases x with
  | none => cases h
  | some a => exact ⟨a, rfl, h⟩
theorem bd2_e {α β γ : Type} {x : Option (α × β)} {k : α → β → Option γ} {r : γ} (h : bd2 x k = some r) : ∃ a b, x = some (a, b) ∧ k a b = some r := by
  cases x with
  | none => cases h
  | some a => exact ⟨a.1, a.2, rfl, h⟩
theorem bd3_e {α β δ γ : Type} {x : Option (α × β × δ)} {k : α → β → δ → Option γ} {r : γ} (h : bd3 x k = some r) : ∃ a b c, x = some (a, b, c) ∧ k a b c = some r := by
  cases x with
  | none => cases h
  | some a => exact ⟨a.1, a.2.1, a.2.2, rfl, h⟩
theorem bd4_e {α β δ ε γ : Type} {x : Option (α × β × δ × ε)} {k : α → β → δ → ε → Option γ} {r : γ} (h : bd4 x k = some r) : ∃ a b c d, x = some (a, b, c, d) ∧ k a b c d = some r := by
  cases x with
  | none => cases h
  | some a => exact ⟨a.1, a.2.1, a.2.2.1, a.2.2.2, rfl, h⟩
theorem lt1_e {α γ : Type} {x : α} {k : α → Option γ} {r : γ} (h : lt1 x k = some r) : ∃ a, a = x ∧ k a = some r := ⟨x, rfl, h⟩
theorem ite_e {P : Prop} [Decidable P] {γ : Type} {x : Option γ} {r : γ} (h : (if P then x else none) = some r) : P ∧ x = some r := by
  by_cases hP : P
  · rw [if_pos hP] at h; exact ⟨hP, h⟩
  · rw [if_neg hP] at h; cases h
theorem ite_t {P : Prop} [Decidable P] {γ : Type} {x y : Option γ} {r : γ} (h : (if P then x else y) = some r) (hP : P) : x = some r := by rw [if_pos hP] at h; exact h
theorem ite_f {P : Prop} [Decidable P] {γ : Type} {x y : Option γ} {r : γ} (h : (if P then x else y) = some r) (hP : ¬ P) : y = some r := by rw [if_neg hP] at h; exact h
theorem inR_w32 (x : Int) : InR (w32 x) := by unfold w32; omega
theorem inR_of (x : Int32) : InR x.toInt := ⟨Int32.le_toInt x, Int32.toInt_lt x⟩
theorem inR_max {x y : Int} (h : InR x) (h' : InR y) : InR (max x y) := by omega
theorem inR_min {x y : Int} (h : InR x) (h' : InR y) : InR (min x y) := by omega
theorem i32_size : ((Int32.size : Nat) : Int) = 4294967296 := rfl
theorem zO_toInt {x : Int} (h : InR x) : (zO x).toInt = x := by
  unfold zO
  rw [Int32.toInt_ofInt]
  simp only [Int.bmod, i32_size]
  omega
theorem zO_of (x : Int32) : zO x.toInt = x := Int32.toInt_inj.mp (zO_toInt (inR_of x))
theorem zO_w (x : Int) : zO (w32 x) = zO x := by
  unfold zO
  apply Int32.toInt_inj.mp
  rw [Int32.toInt_ofInt, Int32.toInt_ofInt]
  unfold w32
  simp only [Int.bmod, i32_size]
  omega
theorem zO_add (x y : Int) : zO x + zO y = zO (w32 (x + y)) := by rw [zO_w]; unfold zO; rw [Int32.ofInt_add]
theorem zO_sub (x y : Int) : zO x - zO y = zO (w32 (x - y)) := by rw [zO_w]; unfold zO; rw [Int32.ofInt_sub]
theorem zO_mul (x y : Int) : zO x * zO y = zO (w32 (x * y)) := by rw [zO_w]; unfold zO; rw [Int32.ofInt_mul]
theorem zO_neg (x : Int) : -zO x = zO (w32 (-x)) := by rw [zO_w]; unfold zO; rw [Int32.ofInt_neg]
theorem zO_lt {x y : Int} (h : InR x) (h' : InR y) : zO x < zO y ↔ x < y := by rw [Int32.lt_iff_toInt_lt, zO_toInt h, zO_toInt h']
theorem zO_le {x y : Int} (h : InR x) (h' : InR y) : zO x ≤ zO y ↔ x ≤ y := by rw [Int32.le_iff_toInt_le, zO_toInt h, zO_toInt h']
theorem zO_eq {x y : Int} (h : InR x) (h' : InR y) : zO x = zO y ↔ x = y := by rw [← Int32.toInt_inj, zO_toInt h, zO_toInt h']
theorem zO_div {x y : Int} (h : InR x) (h' : InR y) (h0 : y ≠ 0) : zO x / zO y = zO (w32 (x.tdiv y)) := by
  apply Int32.toInt_inj.mp
  rw [Int32.toInt_div, zO_toInt h, zO_toInt h', zO_w]
  unfold zO
  rw [Int32.toInt_ofInt]
theorem zO_rem {x y : Int} (h : InR x) (h' : InR y) (h0 : y ≠ 0) : zO x - zO x / zO y * zO y = zO (w32 (x.tmod y)) := by
  rw [zO_div h h' h0, zO_w, zO_w]
  unfold zO
  rw [← Int32.ofInt_mul, ← Int32.ofInt_sub]
  congr 1
  rw [Int.tmod_def, Int.mul_comm]
def iand (x y : Int) : Int := (zO x &&& zO y).toInt
def ior (x y : Int) : Int := (zO x ||| zO y).toInt
def ishl (x y : Int) : Int := (zO x <<< (zO y &&& 31)).toInt
def ishr (x y : Int) : Int := (zO x >>> (zO y &&& 31)).toInt
def iushr (x y : Int) : Int := ((zO x).toUInt32 >>> ((zO y).toUInt32 &&& Int32.toUInt32 31)).toInt32.toInt
theorem zO_idx {x : Int} {n : Int} (h : 0 ≤ x) (h2 : x < n) (hn : n < 2147483648) : vp_in (zO x) n.toNat ∧ (zO x).toNatClampNeg = x.toNat := by
  have h3 : (zO x).toInt = x := zO_toInt ⟨by omega, by omega⟩
  have h4 : (zO x).toNatClampNeg = x.toNat := by
    show (zO x).toInt.toNat = x.toNat
    rw [h3]
  refine ⟨?_, h4⟩
  intro q
  rcases q with q | q
  · have := Int32.lt_iff_toInt_lt.mp q
    rw [h3] at this
    simp at this
    omega
  · rw [h4] at q
    omega
