/-! ===== pure: part 62: signs and steps of a gift; the answers of its steps ===== -/
/-- what a family of ranges must be closed under: S signs (e of them), K N A F steps (st of them); 0 a fact, 1 a way, 2 ways; a height; signs from i to j, steps from p to q -/
def y_cl (S K N A F : Int → Int) (lv e st : Int) (P : Nat → Nat → Int → Int → Int → Int → Prop) : Prop :=
  (∀ d i p k n l, 0 ≤ k → k ≤ 4 → 0 ≤ n → n ≤ 99 → 0 ≤ l → l < 8 → (k = 1 ∨ k = 4 → l < lv ∧ A p = l) → 0 ≤ i → i < e → 0 ≤ p → p < st → S i = 10000 * n + 100 * l + k → K p = k → N p = n → P 0 d i (i + 1) p (p + 1)) ∧
  (∀ d i j p q n, P 0 d (i + 1) j p q → 0 ≤ n → n ≤ 99 → 0 ≤ i → q < st → S i = 10000 * n + 5 → K q = 5 → N q = n → P 0 (d + 1) i j p (q + 1)) ∧
  (∀ d i j p q, P 2 d (i + 1) j p q → 0 ≤ i → j < e → S i = 6 → S j = 7 → P 0 (d + 1) i (j + 1) p q) ∧
  (∀ d i j p q, P 0 d i j p q → P 1 d i j p q) ∧
  (∀ d i m j p r q, P 1 d i m p r → S m = 8 → P 0 d (m + 1) j r q → q < st → K q = 6 → F q = r - 1 → P 1 d i j p (q + 1)) ∧
  (∀ d i j p q, P 1 d i j p q → (j < e → S j ≠ 8) → P 2 d i j p q) ∧
  (∀ d i m j p r q, P 2 d i m p r → S m = 9 → P 1 d (m + 1) j r q → (j < e → S j ≠ 8) → q < st → K q = 7 → F q = r - 1 → P 2 d i j p (q + 1))
/-- the least such family -/
def y_seg (S K N A F : Int → Int) (lv e st : Int) (md d : Nat) (i j p q : Int) : Prop := ∀ P, y_cl S K N A F lv e st P → P md d i j p q
section
variable {S K N A F : Int → Int} {lv e st : Int}
theorem y_seg_cl : y_cl S K N A F lv e st (y_seg S K N A F lv e st) :=
  ⟨fun d i p k n l h1 h2 h3 h4 h5 h6 h7 h8 h9 h10 h11 h12 h13 h14 P c => c.1 d i p k n l h1 h2 h3 h4 h5 h6 h7 h8 h9 h10 h11 h12 h13 h14,
   fun d i j p q n h h1 h2 h3 h4 h5 h6 h7 P c => c.2.1 d i j p q n (h P c) h1 h2 h3 h4 h5 h6 h7,
   fun d i j p q h h1 h2 h3 h4 P c => c.2.2.1 d i j p q (h P c) h1 h2 h3 h4,
   fun d i j p q h P c => c.2.2.2.1 d i j p q (h P c),
   fun d i m j p r q h h1 h2 h3 h4 h5 P c => c.2.2.2.2.1 d i m j p r q (h P c) h1 (h2 P c) h3 h4 h5,
   fun d i j p q h h1 P c => c.2.2.2.2.2.1 d i j p q (h P c) h1,
   fun d i m j p r q h h1 h2 h3 h4 h5 h6 P c => c.2.2.2.2.2.2 d i m j p r q (h P c) h1 (h2 P c) h3 h4 h5 h6⟩
/-- a step that is told rightly -/
def y_sk (K N A F : Int → Int) (lv k : Int) : Prop := (0 ≤ K k ∧ K k ≤ 7) ∧ (K k ≤ 5 → 0 ≤ N k ∧ N k ≤ 99) ∧ (K k = 1 ∨ K k = 4 → 0 ≤ A k ∧ A k < lv) ∧ (6 ≤ K k → 0 ≤ F k ∧ F k < k) ∧ (5 ≤ K k → 1 ≤ k)
theorem y_seg_b {md d : Nat} {i j p q : Int} (h : y_seg S K N A F lv e st md d i j p q) : (0 ≤ i ∧ i < j ∧ j ≤ e) ∧ (0 ≤ p ∧ p < q ∧ q ≤ st) ∧ ∀ k, p ≤ k → k < q → y_sk K N A F lv k := by
  refine h (fun md d i j p q => (0 ≤ i ∧ i < j ∧ j ≤ e) ∧ (0 ≤ p ∧ p < q ∧ q ≤ st) ∧ ∀ k, p ≤ k → k < q → y_sk K N A F lv k) ⟨?_, ?_, ?_, ?_, ?_, ?_, ?_⟩
  · intro d i p k n l h1 h2 h3 h4 h5 h6 h7 h8 h9 h10 h11 h12 h13 h14
    refine ⟨by omega, by omega, fun x hx hy => ?_⟩
    have e : x = p := by omega
    subst e
    refine ⟨by omega, fun _ => by omega, fun c => ?_, fun c => by omega, fun c => by omega⟩
    have := h7 (by omega)
    omega
  · intro d i j p q n ⟨h, h', h''⟩ h1 h2 h3 h4 h5 h6 h7
    refine ⟨by omega, by omega, fun x hx hy => ?_⟩
    by_cases c : x = q
    · subst c
      exact ⟨by omega, fun _ => by omega, fun c => by omega, fun c => by omega, fun c => by omega⟩
    · exact h'' x hx (by omega)
  · intro d i j p q ⟨h, h', h''⟩ h1 h2 h3 h4
    exact ⟨by omega, by omega, h''⟩
  · intro d i j p q h
    exact h
  · intro d i m j p r q ⟨a1, a2, a3⟩ h1 ⟨b1, b2, b3⟩ h3 h4 h5
    refine ⟨by omega, by omega, fun x hx hy => ?_⟩
    by_cases c : x = q
    · subst c
      exact ⟨by omega, fun _ => by omega, fun c => by omega, fun c => by omega, fun c => by omega⟩
    · by_cases c2 : x < r
      · exact a3 x hx c2
      · exact b3 x (by omega) (by omega)
  · intro d i j p q h h1
    exact h
  · intro d i m j p r q ⟨a1, a2, a3⟩ h1 ⟨b1, b2, b3⟩ hn h3 h4 h5
    refine ⟨by omega, by omega, fun x hx hy => ?_⟩
    by_cases c : x = q
    · subst c
      exact ⟨by omega, fun _ => by omega, fun c => by omega, fun c => by omega, fun c => by omega⟩
    · by_cases c2 : x < r
      · exact a3 x hx c2
      · exact b3 x (by omega) (by omega)
/-- induction that keeps what is known of the ranges -/
theorem y_seg_ind (P : Nat → Nat → Int → Int → Int → Int → Prop)
    (h1 : ∀ d i p k n l, 0 ≤ k → k ≤ 4 → 0 ≤ n → n ≤ 99 → 0 ≤ l → l < 8 → (k = 1 ∨ k = 4 → l < lv ∧ A p = l) → 0 ≤ i → i < e → 0 ≤ p → p < st → S i = 10000 * n + 100 * l + k → K p = k → N p = n → P 0 d i (i + 1) p (p + 1))
    (h2 : ∀ d i j p q n, y_seg S K N A F lv e st 0 d (i + 1) j p q → P 0 d (i + 1) j p q → 0 ≤ n → n ≤ 99 → 0 ≤ i → q < st → S i = 10000 * n + 5 → K q = 5 → N q = n → P 0 (d + 1) i j p (q + 1))
    (h3 : ∀ d i j p q, y_seg S K N A F lv e st 2 d (i + 1) j p q → P 2 d (i + 1) j p q → 0 ≤ i → j < e → S i = 6 → S j = 7 → P 0 (d + 1) i (j + 1) p q)
    (h4 : ∀ d i j p q, y_seg S K N A F lv e st 0 d i j p q → P 0 d i j p q → P 1 d i j p q)
    (h5 : ∀ d i m j p r q, y_seg S K N A F lv e st 1 d i m p r → P 1 d i m p r → S m = 8 → y_seg S K N A F lv e st 0 d (m + 1) j r q → P 0 d (m + 1) j r q → q < st → K q = 6 → F q = r - 1 → P 1 d i j p (q + 1))
    (h6 : ∀ d i j p q, y_seg S K N A F lv e st 1 d i j p q → P 1 d i j p q → (j < e → S j ≠ 8) → P 2 d i j p q)
    (h7 : ∀ d i m j p r q, y_seg S K N A F lv e st 2 d i m p r → P 2 d i m p r → S m = 9 → y_seg S K N A F lv e st 1 d (m + 1) j r q → P 1 d (m + 1) j r q → (j < e → S j ≠ 8) → q < st → K q = 7 → F q = r - 1 → P 2 d i j p (q + 1))
    {md d : Nat} {i j p q : Int} (h : y_seg S K N A F lv e st md d i j p q) : P md d i j p q := by
  have c := y_seg_cl (S := S) (K := K) (N := N) (A := A) (F := F) (lv := lv) (e := e) (st := st)
  refine (h (fun md d i j p q => y_seg S K N A F lv e st md d i j p q ∧ P md d i j p q) ⟨?_, ?_, ?_, ?_, ?_, ?_, ?_⟩).2
  · intro d i p k n l g1 g2 g3 g4 g5 g6 g7 g8 g9 g10 g11 g12 g13 g14
    exact ⟨c.1 d i p k n l g1 g2 g3 g4 g5 g6 g7 g8 g9 g10 g11 g12 g13 g14, h1 d i p k n l g1 g2 g3 g4 g5 g6 g7 g8 g9 g10 g11 g12 g13 g14⟩
  · intro d i j p q n h g1 g2 g3 g4 g5 g6 g7
    exact ⟨c.2.1 d i j p q n h.1 g1 g2 g3 g4 g5 g6 g7, h2 d i j p q n h.1 h.2 g1 g2 g3 g4 g5 g6 g7⟩
  · intro d i j p q h g1 g2 g3 g4
    exact ⟨c.2.2.1 d i j p q h.1 g1 g2 g3 g4, h3 d i j p q h.1 h.2 g1 g2 g3 g4⟩
  · intro d i j p q h
    exact ⟨c.2.2.2.1 d i j p q h.1, h4 d i j p q h.1 h.2⟩
  · intro d i m j p r q h g1 h' g3 g4 g5
    exact ⟨c.2.2.2.2.1 d i m j p r q h.1 g1 h'.1 g3 g4 g5, h5 d i m j p r q h.1 h.2 g1 h'.1 h'.2 g3 g4 g5⟩
  · intro d i j p q h g1
    exact ⟨c.2.2.2.2.2.1 d i j p q h.1 g1, h6 d i j p q h.1 h.2 g1⟩
  · intro d i m j p r q h g1 h' g2 g3 g4 g5
    exact ⟨c.2.2.2.2.2.2 d i m j p r q h.1 g1 h'.1 g2 g3 g4 g5, h7 d i m j p r q h.1 h.2 g1 h'.1 h'.2 g2 g3 g4 g5⟩
end
/-- the answers of the steps, told by what a step answers (its number, the first's answer, that of the one ahead) -/
def y_tab {V : Type} (d : V) (op : Int → V → V → V) (F : Int → Int) : Nat → Int → V
  | 0, _ => d
  | k + 1, j => if j = k then op k (y_tab d op F k (F k)) (y_tab d op F k (k - 1)) else y_tab d op F k j
def y_val {V : Type} (d : V) (op : Int → V → V → V) (F : Int → Int) (p : Int) : V := y_tab d op F (p.toNat + 1) p
section
variable {V : Type} {d : V} {op : Int → V → V → V} {F : Int → Int}
theorem y_tab_val : ∀ (k : Nat) (j : Int), 0 ≤ j → j < k → y_tab d op F k j = y_val d op F j
  | 0, j, h0, h1 => absurd h1 (by omega)
  | k + 1, j, h0, h1 => by
    by_cases c : j = k
    · unfold y_val; rw [show j.toNat = k by omega]
    · have e : y_tab d op F (k + 1) j = y_tab d op F k j := by
        show (if j = k then _ else _) = _
        rw [if_neg c]
      rw [e]; exact y_tab_val k j h0 (by omega)
theorem y_val_eq {p : Int} (h : 0 ≤ p) : y_val d op F p = op p (y_tab d op F p.toNat (F p)) (y_tab d op F p.toNat (p - 1)) := by
  have e : (p.toNat : Int) = p := by omega
  unfold y_val
  show (if p = (p.toNat : Int) then op (p.toNat : Int) (y_tab d op F p.toNat (F p.toNat)) (y_tab d op F p.toNat (p.toNat - 1)) else _) = _
  rw [e, if_pos rfl]
theorem y_val_2 {p : Int} (h1 : 1 ≤ p) (h2 : 0 ≤ F p) (h3 : F p < p) : y_val d op F p = op p (y_val d op F (F p)) (y_val d op F (p - 1)) := by
  rw [y_val_eq (by omega), y_tab_val p.toNat (F p) h2 (by omega), y_tab_val p.toNat (p - 1) (by omega) (by omega)]
theorem y_val_1 {p : Int} (h1 : 1 ≤ p) : y_val d op F p = op p (y_tab d op F p.toNat (F p)) (y_val d op F (p - 1)) := by
  rw [y_val_eq (by omega), y_tab_val p.toNat (p - 1) (by omega) (by omega)]
end
/-- a sign's parts -/
theorem y_dec {s n l k : Int} (h : s = 10000 * n + 100 * l + k) (k0 : 0 ≤ k) (k1 : k < 100) (l0 : 0 ≤ l) (l1 : l < 100) (n0 : 0 ≤ n) (n1 : n ≤ 99) : w32 (Int.tmod s 100) = k ∧ w32 (Int.tmod (w32 (Int.tdiv s 100)) 100) = l ∧ w32 (Int.tdiv s 10000) = n := by
  have s0 : 0 ≤ s := by omega
  have e1 : Int.tmod s 100 = k := by rw [Int.tmod_eq_emod_of_nonneg s0]; omega
  have e2 : Int.tdiv s 100 = 100 * n + l := by rw [Int.tdiv_eq_ediv_of_nonneg s0]; omega
  have e3 : Int.tdiv s 10000 = n := by rw [Int.tdiv_eq_ediv_of_nonneg s0]; omega
  have e4 : w32 (100 * n + l) = 100 * n + l := w32_id (by omega)
  have e5 : Int.tmod (100 * n + l) 100 = l := by rw [Int.tmod_eq_emod_of_nonneg (by omega)]; omega
  rw [e1, e2, e3, e4, e5, w32_id (by omega), w32_id (by omega), w32_id (by omega)]
  exact ⟨rfl, rfl, rfl⟩
