/-! ===== pure: part 9u: what a reader of gifts has read ===== -/
/-- told by signs i to j, steps p to q, whatever comes behind -/
def y_psg (S K N A F : Int → Int) (lv : Int) (md d : Nat) (i j p q : Int) : Prop := ∀ (S' K' N' A' F' : Int → Int) (e st : Int), (∀ x, i ≤ x → x < j → S' x = S x) → (∀ x, p ≤ x → x < q → K' x = K x ∧ N' x = N x ∧ A' x = A x ∧ F' x = F x) → j ≤ e → q ≤ st → (md = 2 → j < e → S' j ≠ 8) → y_seg S' K' N' A' F' lv e st md d i j p q
section
variable {S K N A F : Int → Int} {lv : Int}
theorem y_psg.ext {S' K' N' A' F' : Int → Int} {md d : Nat} {i j p q : Int} (h : y_psg S K N A F lv md d i j p q) (hS : ∀ x, i ≤ x → x < j → S' x = S x) (hK : ∀ x, p ≤ x → x < q → K' x = K x ∧ N' x = N x ∧ A' x = A x ∧ F' x = F x) : y_psg S' K' N' A' F' lv md d i j p q := fun S2 K2 N2 A2 F2 e st h1 h2 h3 h4 h5 =>
  h S2 K2 N2 A2 F2 e st (fun x x0 x1 => (h1 x x0 x1).trans (hS x x0 x1)) (fun x x0 x1 => by
    obtain ⟨a1, a2, a3, a4⟩ := h2 x x0 x1
    obtain ⟨b1, b2, b3, b4⟩ := hK x x0 x1
    exact ⟨a1.trans b1, a2.trans b2, a3.trans b3, a4.trans b4⟩) h3 h4 h5
theorem y_psg_1 {d : Nat} {i p k n l : Int} (h1 : 0 ≤ k) (h2 : k ≤ 4) (h3 : 0 ≤ n) (h4 : n ≤ 99) (h5 : 0 ≤ l) (h6 : l < 8) (h7 : k = 1 ∨ k = 4 → l < lv ∧ A p = l) (h8 : 0 ≤ i) (h9 : 0 ≤ p) (hS : S i = 10000 * n + 100 * l + k) (hK : K p = k) (hN : N p = n) : y_psg S K N A F lv 0 d i (i + 1) p (p + 1) := fun S' K' N' A' F' e st e1 e2 e3 e4 _ => by
  obtain ⟨a1, a2, a3, a4⟩ := e2 p (Int.le_refl _) (by omega)
  exact y_seg_cl.1 d i p k n l h1 h2 h3 h4 h5 h6 (fun c => ⟨(h7 c).1, a3.trans (h7 c).2⟩) h8 (by omega) h9 (by omega) ((e1 i (Int.le_refl _) (by omega)).trans hS) (a1.trans hK) (a2.trans hN)
theorem y_psg_a {d : Nat} {i j p q n : Int} (h : y_psg S K N A F lv 0 d (i + 1) j p q) (hij : i + 1 ≤ j) (hpq : p ≤ q) (h3 : 0 ≤ n) (h4 : n ≤ 99) (h8 : 0 ≤ i) (hS : S i = 10000 * n + 5) (hK : K q = 5) (hN : N q = n) : y_psg S K N A F lv 0 (d + 1) i j p (q + 1) := fun S' K' N' A' F' e st e1 e2 e3 e4 _ => by
  obtain ⟨a1, a2, a3, a4⟩ := e2 q hpq (by omega)
  exact y_seg_cl.2.1 d i j p q n (h S' K' N' A' F' e st (fun x x0 x1 => e1 x (by omega) x1) (fun x x0 x1 => e2 x x0 (by omega)) e3 (by omega) (fun c => absurd c (by decide))) h3 h4 h8 (by omega) ((e1 i (Int.le_refl _) (by omega)).trans hS) (a1.trans hK) (a2.trans hN)
theorem y_psg_g {d : Nat} {i j p q : Int} (h : y_psg S K N A F lv 2 d (i + 1) j p q) (hij : i + 1 ≤ j) (h8 : 0 ≤ i) (hS : S i = 6) (hS2 : S j = 7) : y_psg S K N A F lv 0 (d + 1) i (j + 1) p q := fun S' K' N' A' F' e st e1 e2 e3 e4 _ => by
  have s7 := (e1 j (by omega) (by omega)).trans hS2
  exact y_seg_cl.2.2.1 d i j p q (h S' K' N' A' F' e st (fun x x0 x1 => e1 x (by omega) (by omega)) e2 (by omega) e4 (fun _ _ => by rw [s7]; decide)) h8 (by omega) ((e1 i (Int.le_refl _) (by omega)).trans hS) s7
theorem y_psg_01 {d : Nat} {i j p q : Int} (h : y_psg S K N A F lv 0 d i j p q) : y_psg S K N A F lv 1 d i j p q := fun S' K' N' A' F' e st e1 e2 e3 e4 _ =>
  y_seg_cl.2.2.2.1 d i j p q (h S' K' N' A' F' e st e1 e2 e3 e4 (fun c => absurd c (by decide)))
theorem y_psg_and {d : Nat} {i m j p r q : Int} (h : y_psg S K N A F lv 1 d i m p r) (h' : y_psg S K N A F lv 0 d (m + 1) j r q) (b1 : i ≤ m) (b2 : m + 1 ≤ j) (b3 : p ≤ r) (b4 : r ≤ q) (hS : S m = 8) (hK : K q = 6) (hF : F q = r - 1) : y_psg S K N A F lv 1 d i j p (q + 1) := fun S' K' N' A' F' e st e1 e2 e3 e4 _ => by
  obtain ⟨a1, a2, a3, a4⟩ := e2 q (by omega) (by omega)
  exact y_seg_cl.2.2.2.2.1 d i m j p r q (h S' K' N' A' F' e st (fun x x0 x1 => e1 x x0 (by omega)) (fun x x0 x1 => e2 x x0 (by omega)) (by omega) (by omega) (fun c => absurd c (by decide))) ((e1 m b1 (by omega)).trans hS) (h' S' K' N' A' F' e st (fun x x0 x1 => e1 x (by omega) x1) (fun x x0 x1 => e2 x (by omega) (by omega)) e3 (by omega) (fun c => absurd c (by decide))) (by omega) (a1.trans hK) (a4.trans hF)
theorem y_psg_12 {d : Nat} {i j p q : Int} (h : y_psg S K N A F lv 1 d i j p q) : y_psg S K N A F lv 2 d i j p q := fun S' K' N' A' F' e st e1 e2 e3 e4 e5 =>
  y_seg_cl.2.2.2.2.2.1 d i j p q (h S' K' N' A' F' e st e1 e2 e3 e4 (fun c => absurd c (by decide))) (e5 rfl)
theorem y_psg_or {d : Nat} {i m j p r q : Int} (h : y_psg S K N A F lv 2 d i m p r) (h' : y_psg S K N A F lv 1 d (m + 1) j r q) (b1 : i ≤ m) (b2 : m + 1 ≤ j) (b3 : p ≤ r) (b4 : r ≤ q) (hS : S m = 9) (hK : K q = 7) (hF : F q = r - 1) : y_psg S K N A F lv 2 d i j p (q + 1) := fun S' K' N' A' F' e st e1 e2 e3 e4 e5 => by
  obtain ⟨a1, a2, a3, a4⟩ := e2 q (by omega) (by omega)
  have s9 := (e1 m b1 (by omega)).trans hS
  exact y_seg_cl.2.2.2.2.2.2 d i m j p r q (h S' K' N' A' F' e st (fun x x0 x1 => e1 x x0 (by omega)) (fun x x0 x1 => e2 x x0 (by omega)) (by omega) (by omega) (fun _ _ => by rw [s9]; decide)) s9 (h' S' K' N' A' F' e st (fun x x0 x1 => e1 x (by omega) x1) (fun x x0 x1 => e2 x (by omega) (by omega)) e3 (by omega) (fun c => absurd c (by decide))) (e5 rfl) (by omega) (a1.trans hK) (a4.trans hF)
end
/-- the text of signs told one behind another -/
theorem y_tsl_app (nm S : Int → Int) : ∀ (k m : Nat) (i : Int), y_tsl nm S (k + m) i = y_tsl nm S k i ++ y_tsl nm S m (i + k)
  | 0, m, i => by
    show y_tsl nm S (0 + m) i = [] ++ y_tsl nm S m (i + ((0 : Nat) : Int))
    rw [Nat.zero_add, List.nil_append, show i + ((0 : Nat) : Int) = i by omega]
  | k + 1, m, i => by
    rw [show k + 1 + m = (k + m) + 1 by omega, y_tsl_s, y_tsl_s, y_tsl_app nm S k m (i + 1), List.cons_append, List.append_assoc, show i + 1 + (k : Int) = i + ((k + 1 : Nat) : Int) by omega]
theorem y_tsl_1 (nm S : Int → Int) (i : Int) : y_tsl nm S 1 i = 32 :: y_tsg nm (S i) := by
  rw [y_tsl_s]
  show 32 :: (y_tsg nm (S i) ++ []) = _
  rw [List.append_nil]
section
variable {fu : Nat} {L : zL} {M0 M N : zM} {top b : Int}
/-- a step is noted -/
def y_ns (M M' : zM) (k n l f : Int) : Prop := (M' 10 (M 9 10) = k ∧ M' 11 (M 9 10) = n ∧ M' 12 (M 9 10) = l ∧ M' 13 (M 9 10) = f) ∧ M' 9 10 = M 9 10 + 1 ∧ ∀ a i, ¬ (10 ≤ a ∧ a ≤ 13 ∧ i = M 9 10) → ¬ (a = 9 ∧ i = 10) → M' a i = M a i
theorem Gr_noteStep_y (hL : Lay L) (hP : Ptr M) (h : 0 ≤ M 9 10 ∧ M 9 10 < 31) (k n l : Int) : ∃ M', Gr_noteStep fu L M 9 k n l = some M' ∧ y_ns M M' k n l (-1) := by
  have l9 : L 9 = (5, 0) := hL 9 (by decide)
  have l10 : L 10 = (101, 31) := hL 10 (by decide)
  have l11 : L 11 = (101, 31) := hL 11 (by decide)
  have l12 : L 12 = (101, 31) := hL 12 (by decide)
  have l13 : L 13 = (101, 31) := hL 13 (by decide)
  have p1 : M 9 1 = 10 := hP (9, 1, 10) (by decide +kernel)
  have p2 : M 9 2 = 11 := hP (9, 2, 11) (by decide +kernel)
  have p3 : M 9 3 = 12 := hP (9, 3, 12) (by decide +kernel)
  have p4 : M 9 4 = 13 := hP (9, 4, 13) (by decide +kernel)
  generalize hp : M 9 10 = p at *
  have g : 0 ≤ p ∧ p < ((101, 31) : Int × Int).2 := h
  have a2 : mu M 10 p k 9 2 = 11 := (mx_ne (by omega)).trans p2
  have a10 : mu M 10 p k 9 10 = p := (mx_ne (by omega)).trans hp
  have b3 : mu (mu M 10 p k) 11 p n 9 3 = 12 := (mx_ne (by omega)).trans ((mx_ne (by omega)).trans p3)
  have b10 : mu (mu M 10 p k) 11 p n 9 10 = p := (mx_ne (by omega)).trans a10
  have c4 : mu (mu (mu M 10 p k) 11 p n) 12 p l 9 4 = 13 := (mx_ne (by omega)).trans ((mx_ne (by omega)).trans ((mx_ne (by omega)).trans p4))
  have c10 : mu (mu (mu M 10 p k) 11 p n) 12 p l 9 10 = p := (mx_ne (by omega)).trans b10
  have d10 : mu (mu (mu (mu M 10 p k) 11 p n) 12 p l) 13 p (-1) 9 10 = p := (mx_ne (by omega)).trans c10
  refine ⟨mu (mu (mu (mu (mu M 10 p k) 11 p n) 12 p l) 13 p (-1)) 9 10 (p + 1), ?_, ⟨⟨?_, ?_, ?_, ?_⟩, ?_, fun a i q1 q2 => ?_⟩⟩
  · unfold Gr_noteStep
    rw [l9, if_pos rfl, hp, if_neg (by omega), if_pos h.2, p1, l10, if_pos rfl, if_pos g, lt1_def, a2, l11, if_pos rfl, a10, if_pos g, lt1_def, b3, l12, if_pos rfl, b10, if_pos g, lt1_def, c4, l13, if_pos rfl, c10, if_pos g, lt1_def, d10, w32_id (by omega), lt1_def]
  · rw [hp, mx_ne (by omega), mx_ne (by omega), mx_ne (by omega), mx_ne (by omega), mx_same]
  · rw [hp, mx_ne (by omega), mx_ne (by omega), mx_ne (by omega), mx_same]
  · rw [hp, mx_ne (by omega), mx_ne (by omega), mx_same]
  · rw [hp, mx_ne (by omega), mx_same]
  · rw [mx_same, hp]
  · rw [hp] at q1
    rw [mx_ne (by omega), mx_ne (by omega), mx_ne (by omega), mx_ne (by omega), mx_ne (by omega)]
theorem Gr_noteJoint_y (hL : Lay L) (hP : Ptr M) (h : 0 ≤ M 9 10 ∧ M 9 10 < 31) (k f : Int) : ∃ M', Gr_noteJoint fu L M 9 k f = some M' ∧ y_ns M M' k 0 (-1) f := by
  have l9 : L 9 = (5, 0) := hL 9 (by decide)
  have l10 : L 10 = (101, 31) := hL 10 (by decide)
  have l11 : L 11 = (101, 31) := hL 11 (by decide)
  have l12 : L 12 = (101, 31) := hL 12 (by decide)
  have l13 : L 13 = (101, 31) := hL 13 (by decide)
  have p1 : M 9 1 = 10 := hP (9, 1, 10) (by decide +kernel)
  have p2 : M 9 2 = 11 := hP (9, 2, 11) (by decide +kernel)
  have p3 : M 9 3 = 12 := hP (9, 3, 12) (by decide +kernel)
  have p4 : M 9 4 = 13 := hP (9, 4, 13) (by decide +kernel)
  generalize hp : M 9 10 = p at *
  have g : 0 ≤ p ∧ p < ((101, 31) : Int × Int).2 := h
  have a1 : mu M 13 p f 9 1 = 10 := (mx_ne (by omega)).trans p1
  have a10 : mu M 13 p f 9 10 = p := (mx_ne (by omega)).trans hp
  have b2 : mu (mu M 13 p f) 10 p k 9 2 = 11 := (mx_ne (by omega)).trans ((mx_ne (by omega)).trans p2)
  have b10 : mu (mu M 13 p f) 10 p k 9 10 = p := (mx_ne (by omega)).trans a10
  have c3 : mu (mu (mu M 13 p f) 10 p k) 11 p 0 9 3 = 12 := (mx_ne (by omega)).trans ((mx_ne (by omega)).trans ((mx_ne (by omega)).trans p3))
  have c10 : mu (mu (mu M 13 p f) 10 p k) 11 p 0 9 10 = p := (mx_ne (by omega)).trans b10
  have d10 : mu (mu (mu (mu M 13 p f) 10 p k) 11 p 0) 12 p (-1) 9 10 = p := (mx_ne (by omega)).trans c10
  refine ⟨mu (mu (mu (mu (mu M 13 p f) 10 p k) 11 p 0) 12 p (-1)) 9 10 (p + 1), ?_, ⟨⟨?_, ?_, ?_, ?_⟩, ?_, fun a i q1 q2 => ?_⟩⟩
  · unfold Gr_noteJoint
    rw [l9, if_pos rfl, hp, if_neg (by omega), if_pos h.2, p4, l13, if_pos rfl, if_pos g, lt1_def, a1, l10, if_pos rfl, a10, if_pos g, lt1_def, b2, l11, if_pos rfl, b10, if_pos g, lt1_def, c3, l12, if_pos rfl, c10, if_pos g, lt1_def, d10, w32_id (by omega), lt1_def]
  · rw [hp, mx_ne (by omega), mx_ne (by omega), mx_ne (by omega), mx_same]
  · rw [hp, mx_ne (by omega), mx_ne (by omega), mx_same]
  · rw [hp, mx_ne (by omega), mx_same]
  · rw [hp, mx_ne (by omega), mx_ne (by omega), mx_ne (by omega), mx_ne (by omega), mx_same]
  · rw [mx_same, hp]
  · rw [hp] at q1
    rw [mx_ne (by omega), mx_ne (by omega), mx_ne (by omega), mx_ne (by omega), mx_ne (by omega)]
theorem y_ns.rc {M' : zM} {k n l f : Int} (h : y_ns M M' k n l f) (hr : y_rc M0 M b) : y_rc M0 M' b := by
  have o : ∀ a i, ¬ (a = 9 ∧ i = 10) → ¬ (10 ≤ a ∧ a ≤ 13) → M' a i = M a i := fun a i q1 q2 => h.2.2 a i (by omega) q1
  refine ⟨hr.1.trans fun a i c => o a i (by omega) (by omega), ?_⟩
  have t := hr.2
  have e3 : M' 3 = M 3 := funext fun i => o 3 i (by omega) (by omega)
  unfold CTok at t ⊢
  rw [e3, o 2 _ (by omega) (by omega), o 2 _ (by omega) (by omega), o 2 _ (by omega) (by omega), o 2 _ (by omega) (by omega), o 2 _ (by omega) (by omega)]
  exact t
/-- a sign is laid -/
def y_ly (N N' : zM) (s : Int) : Prop := N' 159 (5 + N 159 4) = s ∧ N' 159 4 = N 159 4 + 1 ∧ ∀ a i, ¬ (a = 159 ∧ (i = 4 ∨ i = 5 + N 159 4)) → N' a i = N a i
theorem Mo_lays_y (hL : Lay L) (hP : Ptr N) (hw : N 154 5 = -1) (h : 0 ≤ N 159 4 ∧ N 159 4 ≤ 309) {k l n : Int} (hk : 0 ≤ k ∧ k ≤ 9) (hl : 0 ≤ l ∧ l ≤ 7) (hn : 0 ≤ n ∧ n ≤ 99) : ∃ N', Mo_lays fu L N 154 k l n = some N' ∧ y_ly N N' (10000 * n + 100 * l + k) := by
  have l4 : L 154 = (13, 0) := hL 154 (by decide)
  have l59 : L 159 = (101, 315) := hL 159 (by decide)
  have p12 : N 154 12 = 159 := hP (154, 12, 159) (by decide +kernel)
  generalize hm : N 159 4 = m at *
  have e1 : w32 (5 + m) = 5 + m := w32_id (by omega)
  have e2 : w32 (10000 * n) = 10000 * n := w32_id (by omega)
  have e3 : w32 (100 * l) = 100 * l := w32_id (by omega)
  have e4 : w32 (10000 * n + 100 * l) = 10000 * n + 100 * l := w32_id (by omega)
  have e5 : w32 (10000 * n + 100 * l + k) = 10000 * n + 100 * l + k := w32_id (by omega)
  have g4 : (0 : Int) ≤ 4 ∧ (4 : Int) < ((101, 315) : Int × Int).2 := by decide
  have g5 : 0 ≤ 5 + m ∧ 5 + m < ((101, 315) : Int × Int).2 := by show _ ∧ _ < (315 : Int); omega
  have a12 : mu N 159 (5 + m) (10000 * n + 100 * l + k) 154 12 = 159 := (mx_ne (by omega)).trans p12
  have a4 : mu N 159 (5 + m) (10000 * n + 100 * l + k) 159 4 = m := (mx_ne (by omega)).trans hm
  refine ⟨mu (mu N 159 (5 + m) (10000 * n + 100 * l + k)) 159 4 (m + 1), ?_, ?_, ?_, fun a i q => ?_⟩
  · unfold Mo_lays
    rw [l4, if_pos rfl, if_pos hw, p12, l59, if_pos rfl, if_pos g4, hm, e1, if_pos g5, e2, e3, e4, e5, lt1_def, a12, l59, if_pos rfl, if_pos g4, if_pos g4, a4, w32_id (by omega), lt1_def]
  · rw [hm, mx_ne (by omega), mx_same]
  · rw [mx_same, hm]
  · rw [hm] at q
    rw [mx_ne (by omega), mx_ne (by omega)]
theorem Mo_lays_n (hL : Lay L) (hw : N 154 5 ≠ -1) (k l n : Int) : Mo_lays fu L N 154 k l n = some N := by
  have l4 : L 154 = (13, 0) := hL 154 (by decide)
  unfold Mo_lays
  rw [l4, if_pos rfl, if_neg hw]
theorem y_ly.mf {N' : zM} {s : Int} (h : y_ly N N' s) : y_mf N N' := fun a i q1 q2 q3 q4 => h.2.2 a i (by omega)
theorem y_ly.rm {N' : zM} {s : Int} (h : y_ly N N' s) (hr : y_rm M0 N b) : y_rm M0 N' b :=
  ⟨hr.1.trans (h.mf.off), y_mtok hr.2 (fun i _ => h.2.2 154 i (by omega)) (funext fun i => h.2.2 155 i (by omega))⟩
/-- states of the class's reader of gifts -/
def y_gc0 (M : zM) (b : Int) : Prop := (0 ≤ M 9 9 ∧ M 9 9 ≤ 16) ∧ (0 ≤ M 9 10 ∧ M 9 10 ≤ 2 * M 9 9) ∧ (1 ≤ M 9 12 ∧ M 9 12 ≤ 2 * b)
def y_gfr (M M' : zM) : Prop := ∀ a i, ¬ (a = 2 ∧ 4 ≤ i ∧ i ≤ 7) → ¬ (a = 9 ∧ 9 ≤ i ∧ i ≤ 12) → ¬ (10 ≤ a ∧ a ≤ 13 ∧ M 9 10 ≤ i) → a ≠ 14 → ¬ (a = 15 ∧ M 9 12 ≤ i) → M' a i = M a i
/-- the parts stay -/
def y_gpa (M M' : zM) : Prop := M' 9 11 = M 9 11 ∧ M' 14 = M 14
def y_gc1 (M M' : zM) (b' : Int) : Prop := (M 9 9 + 1 ≤ M' 9 9 ∧ M' 9 9 ≤ 16) ∧ (M 9 10 + 1 ≤ M' 9 10 ∧ M' 9 10 - M 9 10 ≤ 2 * (M' 9 9 - M 9 9) - 1) ∧ (M 9 12 ≤ M' 9 12 ∧ M' 9 12 ≤ 2 * b') ∧ y_gfr M M'
def y_gr0 (d : Nat) (M N : zM) (b : Int) : Prop := N 159 2 = M 9 9 ∧ (0 ≤ N 159 4 ∧ N 159 4 ≤ b) ∧ N 154 13 = 5 - (d : Int)
def y_gr1 (M0 : zM) (md d : Nat) (M M' N N' : zM) (b' : Int) : Prop := (N' 159 2 = M' 9 9 ∧ (N 159 4 + 1 ≤ N' 159 4 ∧ N' 159 4 ≤ b') ∧ N' 154 13 = N 154 13) ∧ (∀ x, ¬ (x = 2 ∨ x = 4 ∨ 5 + N 159 4 ≤ x) → N' 159 x = N 159 x) ∧ y_psg (fun x => N' 159 (5 + x)) (M' 10) (M' 11) (M' 12) (M' 13) (M0 154 20) md d (N 159 4) (N' 159 4) (M 9 10) (M' 9 10) ∧ y_tq M M' (y_tsl (M0 163) (fun x => N' 159 (5 + x)) (N' 159 4 - N 159 4).toNat (N 159 4))
/-- a function of the class and one of the model read the same -/
def y_stp (M0 : zM) (md d : Nat) (cf : zM → Option (zM × Int)) (mf : zM → Option zM) : Prop :=
  ∀ M b, y_rc M0 M b → y_gc0 M b → ∃ M' r b', cf M = some (M', r) ∧ y_rc M0 M' b' ∧ (r = 0 ∨ (r = 1 ∧ y_gc1 M M' b' ∧ y_gpa M M')) ∧ ∀ N, y_rm M0 N b → N 154 5 = -1 → y_gr0 d M N b → ∃ N', mf N = some N' ∧ y_mf N N' ∧ ((r = 0 ∧ N' 154 5 = b' ∧ ∃ b'', y_rm M0 N' b'') ∨ (r = 1 ∧ N' 154 5 = -1 ∧ y_rm M0 N' b' ∧ y_gr1 M0 md d M M' N N' b'))
end
