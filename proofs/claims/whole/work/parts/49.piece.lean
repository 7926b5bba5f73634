/-! ===== pure: part 49 ===== -/
/-! ===== pure: a piece of a family, the class ===== -/
theorem Fr_isParent_ok {fu : Nat} {L : zL} {M : zM} (hL : Lay L) (hP : Ptr M) (h0 : 0 ≤ M 5 4) (h8 : M 5 4 ≤ 8) (hA : ∀ k, 0 ≤ k → k < M 5 4 → 0 ≤ M 7 k ∧ M 7 k ≤ 99) {p a : Int} (ha : 0 ≤ a ∧ a ≤ 999) : Fr_isParent fu L M 5 p a = some (if 0 ≤ p ∧ p < M 5 4 ∧ 13 ≤ M 7 p - a then 1 else 0) := by
  have l5 : L 5 = (3, 0) := hL 5 (by decide)
  have l7 : L 7 = (101, 8) := hL 7 (by decide)
  have q : M 5 2 = 7 := hP (5, 2, 7) (by decide +kernel)
  unfold Fr_isParent
  by_cases hp : p < 0
  · rw [if_pos hp, if_neg (by omega)]
  · rw [if_neg hp, l5, if_pos rfl]
    by_cases h1 : p < M 5 4
    · have h2 := hA p (by omega) h1
      rw [if_pos h1, q, l7, if_pos rfl, if_pos (by show p < 8; omega), if_pos (by show 0 ≤ p ∧ p < 8; omega), w32_id (by omega)]
      by_cases h3 : M 7 p - a < 13
      · rw [if_pos h3, if_neg (by omega)]
      · rw [if_neg h3, if_pos (by omega)]
    · rw [if_neg h1, if_neg (by omega)]
/-- what a piece adds -/
def fadd (M : zM) (c a p : Int) : zM := mu (mu (mu (mu M 6 (M 5 4) c) 7 (M 5 4) a) 8 (M 5 4) p) 5 4 (M 5 4 + 1)
theorem Fr_note_ok {fu : Nat} {L : zL} {M : zM} (hL : Lay L) (hP : Ptr M) (h0 : 0 ≤ M 5 4) (h8 : M 5 4 < 8) (c a p : Int) : Fr_note fu L M 5 c a p = some (fadd M c a p) := by
  have l5 : L 5 = (3, 0) := hL 5 (by decide)
  have l6 : L 6 = (101, 8) := hL 6 (by decide)
  have l7 : L 7 = (101, 8) := hL 7 (by decide)
  have l8 : L 8 = (101, 8) := hL 8 (by decide)
  have q1 : M 5 1 = 6 := hP (5, 1, 6) (by decide +kernel)
  have q2 : M 5 2 = 7 := hP (5, 2, 7) (by decide +kernel)
  have q3 : M 5 3 = 8 := hP (5, 3, 8) (by decide +kernel)
  unfold Fr_note fadd
  rw [l5, if_pos rfl, if_neg (by omega), q1, l6, if_pos rfl, if_pos (by show M 5 4 < 8; omega), q2, l7, if_pos rfl, if_pos (by show M 5 4 < 8; omega), q3, l8, if_pos rfl, if_pos (by show M 5 4 < 8; omega), if_pos (by show 0 ≤ M 5 4 ∧ M 5 4 < 8; omega), lt1_def]
  generalize hn : M 5 4 = n at *
  have a2 : mu M 6 n c 5 2 = 7 := by rw [mx_ne (by omega), q2]
  have a4 : mu M 6 n c 5 4 = n := by rw [mx_ne (by omega), hn]
  have a3 : mu (mu M 6 n c) 7 n a 5 3 = 8 := by rw [mx_ne (by omega), mx_ne (by omega), q3]
  have a5 : mu (mu M 6 n c) 7 n a 5 4 = n := by rw [mx_ne (by omega), a4]
  have a6 : mu (mu (mu M 6 n c) 7 n a) 8 n p 5 4 = n := by rw [mx_ne (by omega), a5]
  rw [a2, a4, l7, if_pos rfl, if_pos (by show 0 ≤ n ∧ n < 8; omega), lt1_def, a3, a5, l8, if_pos rfl, if_pos (by show 0 ≤ n ∧ n < 8; omega), lt1_def, lt1_def, a6, w32_id (by omega)]
/-- a piece of a family from b on: 1 and where the next part begins, or 0 and where the fault is; the letter, the age, the parent -/
def piece (f : Int → Int) (n many : Int) (g h : Int → Int) (b : Int) : Int × Int × Int × Int × Int :=
  if many < 8 ∧ 97 ≤ ltr f n b ∧ ltr f n b ≤ 104 ∧ fnd g (ltr f n b) many.toNat 0 = -1 then
    (if isN 99 f n (nxt f n b) = true then
      (if isW 0 f n (nxt f n (nxt f n b)) = true then
        (if 0 ≤ fnd g (ltr f n (nxt f n (nxt f n (nxt f n b)))) many.toNat 0 ∧ 13 ≤ h (fnd g (ltr f n (nxt f n (nxt f n (nxt f n b)))) many.toNat 0) - tkV f n (nxt f n b) then
          (1, nxt f n (nxt f n (nxt f n (nxt f n b))), ltr f n b, tkV f n (nxt f n b), fnd g (ltr f n (nxt f n (nxt f n (nxt f n b)))) many.toNat 0)
        else (0, nxt f n (nxt f n (nxt f n b)), 0, 0, 0))
      else (1, nxt f n (nxt f n b), ltr f n b, tkV f n (nxt f n b), -1))
    else (0, nxt f n b, 0, 0, 0))
  else (0, b, 0, 0, 0)
/-- the class's scratch fields of the tape, and the family reader's rows, aside -/
theorem COff.five {M M' : zM} (h : COff M M') (i : Int) : M' 5 i = M 5 i := h 5 i (by omega)
theorem COff.row {M M' : zM} (h : COff M M') {a : Int} (ha : a ≠ 2) : M' a = M a := funext fun i => h a i (Or.inl ha)
theorem CTok.store {M : zM} {b a i v : Int} (h : CTok M b) (h2 : a ≠ 2) (h3 : a ≠ 3) : CTok (mu M a i v) b := by
  have e : ∀ j, mu M a i v 2 j = M 2 j := fun j => mx_ne (Or.inl (fun z => h2 z.symm))
  have e3 : mu M a i v 3 = M 3 := funext fun j => mx_ne (Or.inl (fun z => h3 z.symm))
  unfold CTok at h ⊢
  rw [e, e, e, e, e, e3]
  exact h
theorem CTok.fadd {M : zM} {b c a p : Int} (h : CTok M b) : CTok (fadd M c a p) b := (((h.store (by decide) (by decide)).store (by decide) (by decide)).store (by decide) (by decide)).store (by decide) (by decide)
theorem Fr_b128_ok {fu : Nat} {L : zL} {M : zM} (hL : Lay L) (hP : Ptr M) (h0 : 0 ≤ M 5 4) (h8 : M 5 4 < 8) (c a p : Int) : Fr_readPiece_b128 fu L M 5 c a p = some (fadd M c a p, 1) := by
  have l5 : L 5 = (3, 0) := hL 5 (by decide)
  unfold Fr_readPiece_b128
  rw [l5, if_pos rfl, Fr_note_ok hL hP h0 h8, bd1_some]
theorem Fr_readPiece_ok {fu : Nat} (hf : 400 ≤ fu) {L : zL} {M : zM} (hL : Lay L) (hP : Ptr M) (hT : TapC M) {b : Int} (hb : CTok M b) (h0 : 0 ≤ M 5 4) (h8 : M 5 4 ≤ 8) (hA : ∀ k, 0 ≤ k → k < M 5 4 → 0 ≤ M 7 k ∧ M 7 k ≤ 99) :
    ∃ M1, COff M M1 ∧ CTok M1 (piece (M 3) (M 2 2) (M 5 4) (M 6) (M 7) b).2.1 ∧
      ((piece (M 3) (M 2 2) (M 5 4) (M 6) (M 7) b).1 = 0 ∧ Fr_readPiece fu L M 5 = some (M1, 0) ∨
       (piece (M 3) (M 2 2) (M 5 4) (M 6) (M 7) b).1 = 1 ∧ M 5 4 < 8 ∧ Fr_readPiece fu L M 5 = some (fadd M1 (piece (M 3) (M 2 2) (M 5 4) (M 6) (M 7) b).2.2.1 (piece (M 3) (M 2 2) (M 5 4) (M 6) (M 7) b).2.2.2.1 (piece (M 3) (M 2 2) (M 5 4) (M 6) (M 7) b).2.2.2.2, 1)) := by
  have l5 : L 5 = (3, 0) := hL 5 (by decide)
  have l2 : L 2 = (8, 0) := hL 2 (by decide)
  have q0 : M 5 0 = 2 := hP (5, 0, 2) (by decide +kernel)
  unfold Fr_readPiece piece
  rw [l5, if_pos rfl, q0, l2, if_pos rfl, Tp_letter_ok hL hP hT hb, bd1_some]
  generalize hc : ltr (M 3) (M 2 2) b = c
  by_cases g1 : M 5 4 < 8
  · rw [if_pos g1]
    by_cases g2 : c < 97
    · rw [if_pos g2, if_neg (by omega)]
      exact ⟨M, COff.refl M, hb, Or.inl ⟨rfl, rfl⟩⟩
    · rw [if_neg g2]
      by_cases g3 : 104 < c
      · rw [if_pos g3, if_neg (by omega)]
        exact ⟨M, COff.refl M, hb, Or.inl ⟨rfl, rfl⟩⟩
      · rw [if_neg g3, Fr_indexOf_ok hf hL hP h0 h8, bd1_some]
        by_cases g4 : fnd (M 6) c (M 5 4).toNat 0 = -1
        · obtain ⟨A, a1, a2, a3⟩ := Tp_step hf hL hP hT hb
          have aP := a2.ptr hP
          have aT := a2.tap hT
          have aq : A 5 0 = 2 := aP (5, 0, 2) (by decide +kernel)
          have an := Tp_isNumber_ok (fu := fu) hL a3 (m := 99) (by decide)
          rw [a2.f, a2.n] at an
          rw [if_pos g4, if_pos ⟨g1, by omega, by omega, g4⟩, a1, bd1_some, aq, l2, if_pos rfl]
          have an1 := an.1
          generalize hb1 : nxt (M 3) (M 2 2) b = b1 at *
          by_cases g5 : isN 99 (M 3) (M 2 2) b1 = true
          · have v7 := an.2 g5
            have vb := tkV_b (of_decide_eq_true g5).1 (of_decide_eq_true g5).2.1
            obtain ⟨B, c1, c2, c3⟩ := Tp_step hf hL aP aT a3
            rw [a2.f, a2.n] at c3
            have cP := c2.ptr aP
            have cT := c2.tap aT
            have o2 := a2.trans c2
            have cq : B 5 0 = 2 := cP (5, 0, 2) (by decide +kernel)
            have cw := Tp_isWord_ok hf hL cP cT c3 (s := 0) (by decide)
            rw [o2.f, o2.n] at cw
            rw [if_pos g5] at an1
            rw [if_pos g5, an1, bd1_some, if_neg (show ¬ (1 : Int) = 0 by decide), lt1_def, v7, c1, bd1_some, cq, l2, if_pos rfl]
            generalize hb2 : nxt (M 3) (M 2 2) b1 = b2 at *
            generalize hv : tkV (M 3) (M 2 2) b1 = v at *
            by_cases g6 : isW 0 (M 3) (M 2 2) b2 = true
            · obtain ⟨C, d1, d2, d3⟩ := Tp_step hf hL cP cT c3
              rw [o2.f, o2.n] at d3
              have dP := d2.ptr cP
              have dT := d2.tap cT
              have o3 := o2.trans d2
              have dq : C 5 0 = 2 := dP (5, 0, 2) (by decide +kernel)
              have dl := Tp_letter_ok (fu := fu) hL dP dT d3
              rw [o3.f, o3.n] at dl
              have d54 : C 5 4 = M 5 4 := o3.five 4
              have di := fun z => Fr_indexOf_ok hf hL dP (by rw [d54]; exact h0) (by rw [d54]; exact h8) z
              rw [d54, o3.row (a := 6) (by decide)] at di
              have dp := fun p => Fr_isParent_ok (fu := fu) hL dP (by rw [d54]; exact h0) (by rw [d54]; exact h8) (by rw [d54, o3.row (a := 7) (by decide)]; exact hA) (p := p) (a := v) vb
              rw [d54, o3.row (a := 7) (by decide)] at dp
              rw [if_pos g6] at cw
              rw [if_pos g6, cw, bd1_some, if_neg (show ¬ (1 : Int) = 0 by decide), d1, bd1_some, dq, l2, if_pos rfl, dl, bd1_some, di, bd1_some]
              generalize hb3 : nxt (M 3) (M 2 2) b2 = b3 at *
              generalize hp : fnd (M 6) (ltr (M 3) (M 2 2) b3) (M 5 4).toNat 0 = p
              have pr := fnd_r (M 6) (ltr (M 3) (M 2 2) b3) (M 5 4).toNat 0
              rw [hp] at pr
              by_cases g7 : 0 ≤ p ∧ 13 ≤ M 7 p - v
              · obtain ⟨D, e1, e2, e3⟩ := Tp_step hf hL dP dT d3
                rw [o3.f, o3.n] at e3
                have o4 := o3.trans e2
                have e54 : D 5 4 = M 5 4 := o4.five 4
                have dp1 := dp p
                rw [if_pos ⟨g7.1, by omega, g7.2⟩] at dp1
                rw [if_pos g7, dp1, bd1_some, if_neg (show ¬ (1 : Int) = 0 by decide), e1, bd1_some, Fr_b128_ok hL (e2.ptr dP) (by omega) (by omega)]
                exact ⟨D, o4, e3, Or.inr ⟨rfl, g1, rfl⟩⟩
              · have dp1 := dp p
                rw [if_neg (fun z => g7 ⟨z.1, z.2.2⟩)] at dp1
                rw [if_neg g7, dp1, bd1_some, if_pos rfl]
                exact ⟨C, o3, d3, Or.inl ⟨rfl, rfl⟩⟩
            · have c54 : B 5 4 = M 5 4 := o2.five 4
              rw [if_neg g6] at cw
              rw [if_neg g6, cw, bd1_some, if_pos rfl, Fr_b128_ok hL cP (by omega) (by omega)]
              exact ⟨B, o2, c3, Or.inr ⟨rfl, g1, rfl⟩⟩
          · rw [if_neg g5] at an1
            rw [if_neg g5, an1, bd1_some, if_pos rfl]
            exact ⟨A, a2, a3, Or.inl ⟨rfl, rfl⟩⟩
        · rw [if_neg g4, if_neg (fun z => g4 z.2.2.2)]
          exact ⟨M, COff.refl M, hb, Or.inl ⟨rfl, rfl⟩⟩
  · rw [if_neg g1, if_neg (fun z => g1 z.1)]
    exact ⟨M, COff.refl M, hb, Or.inl ⟨rfl, rfl⟩⟩
