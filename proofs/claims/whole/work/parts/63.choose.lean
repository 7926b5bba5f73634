/-! ===== pure: part 63: the steps that are chosen ===== -/
theorem y_lpx {σ ρ : Type} {F : Nat → σ → Int → Option ρ} {N : Int} (J : Int → σ → Prop)
    (hs : ∀ n s i, 0 ≤ i → i < N → J i s → ∃ s', F (n + 1) s i = F n s' (i + 1) ∧ J (i + 1) s') :
    ∀ (k n : Nat) (s : σ) (i : Int), 0 ≤ i → i + k = N → k < n → J i s → ∃ s' m, F n s i = F (m + 1) s' N ∧ J N s'
  | 0, 0, _, _, _, _, hn, _ => absurd hn (Nat.not_lt_zero _)
  | _ + 1, 0, _, _, _, _, hn, _ => absurd hn (Nat.not_lt_zero _)
  | 0, n + 1, s, i, _, hN, _, hJ => by
    have e : i = N := by omega
    exact ⟨s, n, by rw [e], e ▸ hJ⟩
  | k + 1, n + 1, s, i, h0, hN, hn, hJ => by
    obtain ⟨s', e, hJ'⟩ := hs n s i h0 (by omega) hJ
    obtain ⟨t, m, e2, hJ2⟩ := y_lpx J hs k n s' (i + 1) (by omega) (by omega) (by omega) hJ'
    exact ⟨t, m, e.trans e2, hJ2⟩
theorem bd1_eq {α γ : Type} {x : Option α} {a : α} (h : x = some a) (k : α → Option γ) : bd1 x k = k a := by rw [h]; rfl
theorem bd2_eq {α β γ : Type} {x : Option (α × β)} {a : α} {b : β} (h : x = some (a, b)) (k : α → β → Option γ) : bd2 x k = k a b := by rw [h]; rfl
/-- a Gift of the class lies at g, with st steps, pt parts, tl bytes -/
def y_gc (L : zL) (M : zM) (g st pt tl : Int) : Prop :=
  L g = (4, 0) ∧ (M g 3 = st ∧ M g 4 = pt) ∧ (L (M g 5) = (101, st) ∧ L (M g 6) = (101, st) ∧ L (M g 7) = (101, st) ∧ L (M g 8) = (101, st) ∧ L (M g 9) = (101, pt) ∧ L (M g 10) = (101, tl)) ∧ (172 ≤ g ∧ 172 ≤ M g 5 ∧ 172 ≤ M g 6 ∧ 172 ≤ M g 7 ∧ 172 ≤ M g 8 ∧ 172 ≤ M g 9 ∧ 172 ≤ M g 10) ∧ (0 ≤ st ∧ st ≤ 31) ∧ (0 ≤ pt ∧ pt ≤ 16) ∧ 0 ≤ tl
def y_low (K N : Int → Int) (n j : Int) : Int := if K j = 3 ∨ K j = 4 then min n (N j) else N j
/-- the Reckoner holds the first m steps of those told, ages lowered to n -/
def y_rk (M : zM) (K N A F : Int → Int) (m n : Int) : Prop := M 133 6 = m ∧ ∀ j, 0 ≤ j → j < m → M 134 j = K j ∧ M 135 j = y_low K N n j ∧ M 136 j = A j ∧ M 137 j = F j
/-- the Reckoner's chosen steps aside -/
def y_oc (M M' : zM) : Prop := ∀ a i, ¬ (a = 133 ∧ i = 6) → ¬ (134 ≤ a ∧ a ≤ 137) → M' a i = M a i
theorem Gf_hasStep_ok {fu : Nat} {L : zL} {M : zM} {g st pt tl : Int} (h : y_gc L M g st pt tl) {i : Int} (h0 : 0 ≤ i) (h1 : i < st) : Gf_hasStep fu L M g i = some 1 := by
  obtain ⟨g1, ⟨g2, g3⟩, ⟨g4, g5, g6, g7, g8, g9⟩, _⟩ := h
  unfold Gf_hasStep
  simp (disch := omega) only [g1, g4, g5, g6, g7, if_pos, if_neg, ↓reduceIte]
theorem Rk_choose_ok {fu : Nat} (hf : 400 ≤ fu) {L : zL} (hL : Lay L) {M : zM} (hP : Ptr M) {g st pt tl : Int} (h : y_gc L M g st pt tl) {m n : Int} (m0 : 0 ≤ m) (m1 : m ≤ st) :
    ∃ M', Rk_choose fu L M 133 g m n = some M' ∧ y_oc M M' ∧ y_rk M' (M (M g 5)) (M (M g 6)) (M (M g 7)) (M (M g 8)) m n := by
  have hh := h
  obtain ⟨g1, ⟨g2, g3⟩, ⟨g4, g5, g6, g7, g8, g9⟩, ⟨q0, q5, q6, q7, q8, q9, q10⟩, st0, _⟩ := h
  have l33 : L 133 = (6, 0) := hL 133 (by decide)
  have l34 : L 134 = (101, 31) := hL 134 (by decide)
  have l35 : L 135 = (101, 31) := hL 135 (by decide)
  have l36 : L 136 = (101, 31) := hL 136 (by decide)
  have l37 : L 137 = (101, 31) := hL 137 (by decide)
  have p0 : M 133 0 = 134 := hP (133, 0, 134) (by decide +kernel)
  have p1 : M 133 1 = 135 := hP (133, 1, 135) (by decide +kernel)
  have p2 : M 133 2 = 136 := hP (133, 2, 136) (by decide +kernel)
  have p3 : M 133 3 = 137 := hP (133, 3, 137) (by decide +kernel)
  unfold Rk_choose
  rw [l33, if_pos rfl, lt1_def]
  obtain ⟨M', k, e, hJ1, hJ2⟩ := y_lpx (F := fun k A i => Rk_choose_l8 fu L k A 133 g m n i) (N := m) (fun i A => y_oc M A ∧ y_rk A (M (M g 5)) (M (M g 6)) (M (M g 7)) (M (M g 8)) i n)
    (fun k A i h0 hN hJ => by
      obtain ⟨o, r1, r2⟩ := hJ
      have G : ∀ a j, 172 ≤ a → A a j = M a j := fun a j ha => o a j (by omega) (by omega)
      have hA : y_gc L A g st pt tl := by
        unfold y_gc
        rw [G g 3 q0, G g 4 q0, G g 5 q0, G g 6 q0, G g 7 q0, G g 8 q0, G g 9 q0, G g 10 q0]
        exact hh
      have a0 : A 133 0 = 134 := (o _ _ (by omega) (by omega)).trans p0
      have a1 : A 133 1 = 135 := (o _ _ (by omega) (by omega)).trans p1
      have a2 : A 133 2 = 136 := (o _ _ (by omega) (by omega)).trans p2
      have a3 : A 133 3 = 137 := (o _ _ (by omega) (by omega)).trans p3
      have e5 := G g 5 q0
      have e6 := G g 6 q0
      have e7 := G g 7 q0
      have e8 := G g 8 q0
      have f5 := G (M g 5) i q5
      have f6 := G (M g 6) i q6
      have f7 := G (M g 7) i q7
      have f8 := G (M g 8) i q8
      have ew : w32 (i + 1) = i + 1 := w32_id (by omega)
      have er : w32 (A 133 6 + 1) = i + 1 := by rw [r1, ew]
      refine ⟨mu (mu (mu (mu (mu A 134 i (M (M g 5) i)) 135 i (y_low (M (M g 5)) (M (M g 6)) n i)) 136 i (M (M g 7) i)) 137 i (M (M g 8) i)) 133 6 (i + 1), ?_, ?_, ?_, ?_⟩
      · show Rk_choose_s8 _ _ _ _ _ _ _ _ _ = _
        unfold Rk_choose_s8
        have i31 : i < 31 := by omega
        have ist : i < st := by omega
        have gs := Gf_hasStep_ok (fu := fu) hA h0 ist
        simp only [hN, i31, ↓bd1_eq gs, ↓reduceIte, Int.reduceEq, e5, f5, g1, g4, h0, ist, and_self]
        unfold y_low
        unfold Rk_choose_b57 Rk_choose_b105
        by_cases c4 : M (M g 5) i = 4
        · have c3 : ¬ M (M g 5) i = 3 := by omega
          simp (disch := omega) only [c4, g1, g4, g5, g6, g7, l33, l34, l35, l36, l37, e5, e6, e7, e8, f5, f6, f7, f8, a0, a1, a2, a3, er, ew, h0, i31, ist, and_self, ↓lt1_def, mx_ne, mx_same, ↓reduceIte, true_or, or_true, or_self, Int.reduceEq]
        · by_cases c3 : M (M g 5) i = 3
          · simp (disch := omega) only [c3, g1, g4, g5, g6, g7, l33, l34, l35, l36, l37, e5, e6, e7, e8, f5, f6, f7, f8, a0, a1, a2, a3, er, ew, h0, i31, ist, and_self, ↓lt1_def, mx_ne, mx_same, ↓reduceIte, true_or, or_true, or_self, Int.reduceEq]
          · simp (disch := omega) only [c3, c4, g1, g4, g5, g6, g7, l33, l34, l35, l36, l37, e5, e6, e7, e8, f5, f6, f7, f8, a0, a1, a2, a3, er, ew, h0, i31, ist, and_self, ↓lt1_def, mx_ne, mx_same, ↓reduceIte, true_or, or_true, or_self, Int.reduceEq]
      · intro a j h1 h2
        simp (disch := omega) only [mx_ne]
        exact o a j h1 h2
      · exact mx_same _ _ _ _
      · intro j j0 j1
        by_cases c : j = i
        · subst c
          simp (disch := omega) only [mx_ne, mx_same, and_self]
        · have := r2 j j0 (by omega)
          simp (disch := omega) only [mx_ne]
          exact this) m.toNat fu (mu M 133 6 0) 0 (by omega) (by omega) (by omega) ⟨fun a i h1 _ => mx_ne (by omega), mx_same _ _ _ _, fun j j0 j1 => absurd j1 (by omega)⟩
  refine ⟨M', ?_, hJ1, hJ2⟩
  refine e.trans ?_
  show Rk_choose_s8 _ _ _ _ _ _ _ _ _ = _
  unfold Rk_choose_s8
  rw [if_neg (by omega)]
