/-! ===== pure: part 44 ===== -/
/-! ===== pure: the model's parts of the tape ===== -/
def TapM (M : zM) : Prop := 0 ≤ M 154 2 ∧ M 154 2 ≤ 300 ∧ ∀ i, 0 ≤ i → i < M 154 2 → 1 ≤ M 155 i ∧ M 155 i ≤ 255
/-- the scratch fields of the model's reader: at, from, part, number -/
def NOff (M M' : zM) : Prop := ∀ a i, (a ≠ 154 ∨ (i ≠ 3 ∧ i ≠ 4 ∧ i ≠ 6 ∧ i ≠ 7)) → M' a i = M a i
theorem NOff.refl (M : zM) : NOff M M := fun _ _ _ => rfl
theorem NOff.trans {A B C : zM} (h : NOff A B) (h2 : NOff B C) : NOff A C := fun a i q => (h2 a i q).trans (h a i q)
theorem NOff.mu {A B : zM} (h : NOff A B) {i v : Int} (hi : i = 3 ∨ i = 4 ∨ i = 6 ∨ i = 7) : NOff A (mu B 154 i v) := fun a j q => by
  rw [mx_ne (by omega)]; exact h a j q
theorem NOff.ptr {M M' : zM} (h : NOff M M') (hP : Ptr M) : Ptr M' := fun q hq => by
  have h9 : ∀ q ∈ zPt, (q.1 : Int) ≠ 154 ∨ ((q.2.1 : Int) ≠ 3 ∧ (q.2.1 : Int) ≠ 4 ∧ (q.2.1 : Int) ≠ 6 ∧ (q.2.1 : Int) ≠ 7) := by decide +kernel
  rw [h _ _ (h9 q hq)]
  exact hP q hq
theorem NOff.n {M M' : zM} (h : NOff M M') : M' 154 2 = M 154 2 := h 154 2 (by omega)
theorem NOff.f {M M' : zM} (h : NOff M M') : M' 155 = M 155 := funext fun i => h 155 i (by omega)
theorem NOff.tap {M M' : zM} (h : NOff M M') (hT : TapM M) : TapM M' := by
  unfold TapM
  rw [h.n, h.f]
  exact hT
theorem Mo_see_ok {fu : Nat} {L : zL} {M : zM} (hL : Lay L) (hP : Ptr M) (hT : TapM M) {i : Int} (h : 0 ≤ i) : Mo_see fu L M 154 i = some (if i < M 154 2 then M 155 i else -1) := by
  have l4 : L 154 = (13, 0) := hL 154 (by decide)
  have l5 : L 155 = (101, 300) := hL 155 (by decide)
  have p : M 154 1 = 155 := hP (154, 1, 155) (by decide +kernel)
  have t1 := hT.2.1
  unfold Mo_see
  rw [l4, if_pos rfl, p, l5]
  by_cases hi : i < M 154 2
  · rw [if_pos hi, if_pos rfl, if_pos (by show 0 ≤ i ∧ i < 300; omega), if_pos hi]
  · rw [if_neg hi, if_neg hi]
theorem Mo_isSmall_ok {fu : Nat} {L : zL} {M : zM} (c : Int) : Mo_isSmall fu L M c = some (if isS c = true then 1 else 0) := Tp_isLetter_ok (fu := fu) (L := L) (M := M) c
theorem Mo_isDigit_ok {fu : Nat} {L : zL} {M : zM} (c : Int) : Mo_isDigit fu L M c = some (if isD c = true then 1 else 0) := Tp_isDigit_ok (fu := fu) (L := L) (M := M) c
/-- the digits: k of them are left -/
theorem Mo_next_dig {fu : Nat} {L : zL} (hL : Lay L) : ∀ (n k : Nat) (M : zM), Ptr M → TapM M → M 154 6 = 2 → 0 ≤ M 154 3 → M 154 3 ≤ M 154 2 → M 154 2 - M 154 3 ≤ k → k < n → 0 ≤ M 154 7 → M 154 7 ≤ 1000000 →
    ∃ M', Mo_next_l137 fu L n M 154 = some M' ∧ NOff M M' ∧ M' 154 3 = wh isD (M 155) (M 154 2) k (M 154 3) ∧ M' 154 4 = M 154 4 ∧ M' 154 6 = 2 ∧ 0 ≤ M' 154 7 ∧ M' 154 7 ≤ 1000000 ∧
      (∀ j : Nat, M' 154 3 - M 154 3 = j → ((j = 3 → M 154 7 ≤ 0) ∧ (j = 2 → M 154 7 ≤ 9) ∧ (j = 1 → M 154 7 ≤ 99) ∧ (j = 0 → M 154 7 ≤ 999) ∧ j ≤ 3) → M' 154 7 = dv (M 155) j (M 154 3) (M 154 7))
  | 0, k, M, _, _, _, _, _, _, hn, _, _ => absurd hn (Nat.not_lt_zero _)
  | n + 1, k, M, hP, hT, h6, h0, h3, hk, hn, hv0, hv1 => by
    have l4 : L 154 = (13, 0) := hL 154 (by decide)
    have t1 := hT.2.1
    show ∃ M', Mo_next_s137 _ _ _ _ _ = some M' ∧ _
    unfold Mo_next_s137
    rw [l4, if_pos rfl, h6, if_pos rfl, Mo_see_ok hL hP hT h0, bd1_some, Mo_isDigit_ok, bd1_some]
    by_cases hi : M 154 3 < M 154 2
    · obtain ⟨k', rfl⟩ : ∃ k', k = k' + 1 := ⟨k - 1, by omega⟩
      rw [if_pos hi]
      by_cases hd : isD (M 155 (M 154 3)) = true
      · have hb := of_decide_eq_true hd
        rw [if_pos hd, if_neg (by decide), bd1_some, lt1_def]
        have e3 : mu M 154 7 (min 1000000 (w32 ((w32 ((w32 (10 * (M 154 7))) + M 155 (M 154 3))) - 48))) 154 3 = M 154 3 := mx_ne (by omega)
        rw [lt1_def, e3]
        have ew : w32 ((w32 ((w32 (10 * (M 154 7))) + M 155 (M 154 3))) - 48) = 10 * M 154 7 + M 155 (M 154 3) - 48 := by
          simp (disch := omega) only [w32_id]
        rw [ew, w32_id (by omega)]
        generalize hv : min 1000000 (10 * M 154 7 + M 155 (M 154 3) - 48) = v
        have o1 : NOff M (mu (mu M 154 7 v) 154 3 (M 154 3 + 1)) := ((NOff.refl M).mu (by omega)).mu (by omega)
        have y3 : mu (mu M 154 7 v) 154 3 (M 154 3 + 1) 154 3 = M 154 3 + 1 := mx_same _ _ _ _
        have y7 : mu (mu M 154 7 v) 154 3 (M 154 3 + 1) 154 7 = v := by rw [mx_ne (by omega), mx_same]
        have y6 : mu (mu M 154 7 v) 154 3 (M 154 3 + 1) 154 6 = 2 := by rw [mx_ne (by omega), mx_ne (by omega), h6]
        have y4 : mu (mu M 154 7 v) 154 3 (M 154 3 + 1) 154 4 = M 154 4 := by rw [mx_ne (by omega), mx_ne (by omega)]
        generalize mu (mu M 154 7 v) 154 3 (M 154 3 + 1) = N at *
        obtain ⟨M', g1, g2, g3, g4, g5, g6, g7, g8⟩ := Mo_next_dig (fu := fu) hL n k' N (o1.ptr hP) (o1.tap hT) y6 (by omega) (by rw [o1.n]; omega) (by rw [o1.n]; omega) (by omega) (by omega) (by omega)
        rw [o1.n, o1.f, y3] at g3
        refine ⟨M', g1, o1.trans g2, ?_, by rw [g4, y4], g5, g6, g7, fun j hj hx => ?_⟩
        · rw [g3]
          conv => rhs; unfold wh
          rw [if_pos ⟨hi, hd⟩]
        · rw [y3, y7, o1.f] at g8
          have w0 := wh_ge isD (M 155) (M 154 2) k' (M 154 3 + 1)
          obtain ⟨j', rfl⟩ : ∃ j', j = j' + 1 := ⟨j - 1, by omega⟩
          have hvx : v = M 154 7 * 10 + M 155 (M 154 3) - 48 := by omega
          rw [g8 j' (by omega) (by omega), hvx]
          rfl
      · rw [if_neg hd, if_pos rfl]
        refine ⟨M, rfl, NOff.refl M, ?_, rfl, h6, hv0, hv1, fun j hj hx => ?_⟩
        · unfold wh; rw [if_neg (fun q => hd q.2)]
        · rw [show j = 0 by omega]; rfl
    · rw [if_neg hi]
      have hd : isD (-1) = false := by decide
      rw [hd, if_pos (by decide)]
      refine ⟨M, rfl, NOff.refl M, ?_, rfl, h6, hv0, hv1, fun j hj hx => ?_⟩
      · cases k with
        | zero => rfl
        | succ k => unfold wh; rw [if_neg (fun q => hi q.1)]
      · rw [show j = 0 by omega]; rfl
/-- the letters, and then on -/
theorem Mo_next_wrd {fu : Nat} (hf : 400 ≤ fu) {L : zL} (hL : Lay L) : ∀ (n k : Nat) (M : zM), Ptr M → TapM M → M 154 6 = 1 → 0 ≤ M 154 3 → M 154 3 ≤ M 154 2 → M 154 2 - M 154 3 ≤ k → k < n →
    ∃ M', Mo_next_l102 fu L n M 154 = some M' ∧ NOff M M' ∧ M' 154 3 = wh isS (M 155) (M 154 2) k (M 154 3) ∧ M' 154 4 = M 154 4 ∧ M' 154 6 = 1 ∧ M' 154 7 = M 154 7
  | 0, k, M, _, _, _, _, _, _, hn => absurd hn (Nat.not_lt_zero _)
  | n + 1, k, M, hP, hT, h6, h0, h3, hk, hn => by
    have l4 : L 154 = (13, 0) := hL 154 (by decide)
    have t1 := hT.2.1
    have hend : Mo_next_l137 fu L fu M 154 = some M := by
      obtain ⟨q, rfl⟩ : ∃ q, fu = q + 1 := ⟨fu - 1, by omega⟩
      show Mo_next_s137 _ _ _ _ _ = _
      unfold Mo_next_s137
      rw [l4, if_pos rfl, if_neg (by omega)]
    show ∃ M', Mo_next_s102 _ _ _ _ _ = some M' ∧ _
    unfold Mo_next_s102
    rw [l4, if_pos rfl, if_pos h6, Mo_see_ok hL hP hT h0, bd1_some, Mo_isSmall_ok, bd1_some]
    by_cases hi : M 154 3 < M 154 2
    · obtain ⟨k', rfl⟩ : ∃ k', k = k' + 1 := ⟨k - 1, by omega⟩
      rw [if_pos hi]
      by_cases hd : isS (M 155 (M 154 3)) = true
      · rw [if_pos hd, if_neg (by decide), lt1_def, w32_id (by omega)]
        have o1 : NOff M (mu M 154 3 (M 154 3 + 1)) := (NOff.refl M).mu (by omega)
        have y3 : mu M 154 3 (M 154 3 + 1) 154 3 = M 154 3 + 1 := mx_same _ _ _ _
        have y7 : mu M 154 3 (M 154 3 + 1) 154 7 = M 154 7 := mx_ne (by omega)
        have y6 : mu M 154 3 (M 154 3 + 1) 154 6 = 1 := by rw [mx_ne (by omega), h6]
        have y4 : mu M 154 3 (M 154 3 + 1) 154 4 = M 154 4 := mx_ne (by omega)
        generalize mu M 154 3 (M 154 3 + 1) = N at *
        obtain ⟨M', g1, g2, g3, g4, g5, g6⟩ := Mo_next_wrd hf hL n k' N (o1.ptr hP) (o1.tap hT) y6 (by omega) (by rw [o1.n]; omega) (by rw [o1.n]; omega) (by omega)
        rw [o1.n, o1.f, y3] at g3
        refine ⟨M', g1, o1.trans g2, ?_, by rw [g4, y4], g5, by rw [g6, y7]⟩
        rw [g3]
        conv => rhs; unfold wh
        rw [if_pos ⟨hi, hd⟩]
      · rw [if_neg hd, if_pos rfl, hend]
        refine ⟨M, rfl, NOff.refl M, ?_, rfl, h6, rfl⟩
        unfold wh; rw [if_neg (fun q => hd q.2)]
    · rw [if_neg hi]
      have hd : isS (-1) = false := by decide
      rw [hd, if_pos (by decide), hend]
      refine ⟨M, rfl, NOff.refl M, ?_, rfl, h6, rfl⟩
      cases k with
      | zero => rfl
      | succ k => unfold wh; rw [if_neg (fun q => hi q.1)]
/-- the part that stands at its begin b, its kind told -/
theorem Mo_next_part {fu : Nat} (hf : 400 ≤ fu) {L : zL} (hL : Lay L) {M : zM} (hP : Ptr M) (hT : TapM M) {b : Int} (h0 : 0 ≤ b) (hb : b ≤ M 154 2) (h3 : M 154 3 = b) (h4 : M 154 4 = b) {K : Int} (hK : K = tkK (M 155) (M 154 2) b) :
    ∃ M', Mo_next_b76 fu L M 154 154 K = some M' ∧ NOff M M' ∧ M' 154 4 = b ∧ M' 154 6 = K ∧ M' 154 3 = tkE (M 155) (M 154 2) b ∧ 0 ≤ M' 154 7 ∧ M' 154 7 ≤ 1000000 ∧ (K = 2 → M' 154 3 - b ≤ 3 → M' 154 7 = tkV (M 155) (M 154 2) b) := by
  have l4 : L 154 = (13, 0) := hL 154 (by decide)
  have t1 := hT.2.1
  obtain ⟨q, rfl⟩ : ∃ q, fu = q + 1 := ⟨fu - 1, by omega⟩
  unfold Mo_next_b76
  rw [l4, if_pos rfl, lt1_def, if_pos rfl, lt1_def]
  have y6 : mu (mu M 154 6 K) 154 7 0 154 6 = K := by rw [mx_ne (by omega), mx_same]
  have y7 : mu (mu M 154 6 K) 154 7 0 154 7 = 0 := mx_same _ _ _ _
  have y3 : mu (mu M 154 6 K) 154 7 0 154 3 = b := by rw [mx_ne (by omega), mx_ne (by omega), h3]
  have y4 : mu (mu M 154 6 K) 154 7 0 154 4 = b := by rw [mx_ne (by omega), mx_ne (by omega), h4]
  have o1 : NOff M (mu (mu M 154 6 K) 154 7 0) := ((NOff.refl M).mu (by omega)).mu (by omega)
  generalize mu (mu M 154 6 K) 154 7 0 = N at *
  have skip : ∀ {N : zM}, N 154 6 ≠ 1 → Mo_next_l102 (q + 1) L (q + 1) N 154 = Mo_next_l137 (q + 1) L (q + 1) N 154 := fun h => by
    show Mo_next_s102 _ _ _ _ _ = _
    unfold Mo_next_s102
    rw [l4, if_pos rfl, if_neg h]
  have fin : ∀ {N : zM}, N 154 6 ≠ 2 → Mo_next_l137 (q + 1) L (q + 1) N 154 = some N := fun h => by
    show Mo_next_s137 _ _ _ _ _ = _
    unfold Mo_next_s137
    rw [l4, if_pos rfl, if_neg h]
  rw [y6, y3]
  unfold tkK at hK
  unfold tkE
  by_cases hi : b < M 154 2
  · rw [if_pos hi] at hK ⊢
    by_cases hs : isS (M 155 b) = true
    · rw [if_pos hs] at hK ⊢
      subst hK
      rw [if_neg (by decide)]
      obtain ⟨M', g1, g2, g3, g4, g5, g6⟩ := Mo_next_wrd hf hL (q + 1) 301 N (o1.ptr hP) (o1.tap hT) y6 (by omega) (by rw [o1.n]; omega) (by rw [o1.n]; omega) (by omega)
      rw [o1.n, o1.f, y3] at g3
      exact ⟨M', g1, o1.trans g2, by rw [g4, y4], g5, g3, by omega, by omega, fun h => absurd h (by decide)⟩
    · rw [if_neg hs] at hK ⊢
      by_cases hd : isD (M 155 b) = true
      · rw [if_pos hd] at hK ⊢
        subst hK
        rw [if_neg (by decide), skip (by omega)]
        obtain ⟨M', g1, g2, g3, g4, g5, g6, g7, g8⟩ := Mo_next_dig (fu := q + 1) hL (q + 1) 301 N (o1.ptr hP) (o1.tap hT) y6 (by omega) (by rw [o1.n]; omega) (by rw [o1.n]; omega) (by omega) (by omega) (by omega)
        rw [o1.n, o1.f, y3] at g3
        refine ⟨M', g1, o1.trans g2, by rw [g4, y4], g5, g3, g6, g7, fun _ h => ?_⟩
        rw [y3, y7, o1.f] at g8
        have w0 := wh_ge isD (M 155) (M 154 2) 301 b
        have hj := g8 (M' 154 3 - b).toNat (by omega) (by omega)
        rw [hj]
        unfold tkV tkE
        rw [if_pos hi, if_neg hs, if_pos hd, g3]
      · rw [if_neg hd] at hK ⊢
        subst hK
        rw [if_pos rfl, lt1_def, w32_id (by omega)]
        have z6 : mu N 154 3 (b + 1) 154 6 = 3 := by rw [mx_ne (by omega), y6]
        rw [skip (by omega), fin (by omega)]
        refine ⟨_, rfl, o1.mu (by omega), by rw [mx_ne (by omega), y4], z6, mx_same _ _ _ _, ?_, ?_, fun h => absurd h (by decide)⟩
        · rw [mx_ne (by omega), y7]; exact Int.le_refl 0
        · rw [mx_ne (by omega), y7]; decide
  · rw [if_neg hi] at hK ⊢
    subst hK
    rw [if_neg (by decide), skip (by omega), fin (by omega)]
    exact ⟨_, rfl, o1, y4, y6, y3, by omega, by omega, fun h => absurd h (by decide)⟩
theorem Mo_next_bl {fu : Nat} (hf : 400 ≤ fu) {L : zL} (hL : Lay L) : ∀ (n k : Nat) (M : zM), Ptr M → TapM M → 0 ≤ M 154 3 → M 154 3 ≤ M 154 2 → M 154 2 - M 154 3 ≤ k → k < n →
    ∃ M', Mo_next_l0 fu L n M 154 = some M' ∧ NOff M M' ∧ M' 154 4 = wh isB (M 155) (M 154 2) k (M 154 3) ∧ M' 154 6 = tkK (M 155) (M 154 2) (M' 154 4) ∧ M' 154 3 = tkE (M 155) (M 154 2) (M' 154 4) ∧ 0 ≤ M' 154 7 ∧ M' 154 7 ≤ 1000000 ∧ (M' 154 6 = 2 → M' 154 3 - M' 154 4 ≤ 3 → M' 154 7 = tkV (M 155) (M 154 2) (M' 154 4))
  | 0, k, M, _, _, _, _, _, hn => absurd hn (Nat.not_lt_zero _)
  | n + 1, k, M, hP, hT, h0, h3, hk, hn => by
    have l4 : L 154 = (13, 0) := hL 154 (by decide)
    have t1 := hT.2.1
    show ∃ M', Mo_next_s0 _ _ _ _ _ = some M' ∧ _
    unfold Mo_next_s0
    rw [l4, if_pos rfl, Mo_see_ok hL hP hT h0, bd1_some]
    by_cases hbl : M 154 3 < M 154 2 ∧ M 155 (M 154 3) = 32
    · obtain ⟨hi, hbl⟩ := hbl
      obtain ⟨k', rfl⟩ : ∃ k', k = k' + 1 := ⟨k - 1, by omega⟩
      rw [if_pos hi, if_pos hbl, lt1_def, w32_id (by omega)]
      have o1 : NOff M (mu M 154 3 (M 154 3 + 1)) := (NOff.refl M).mu (by omega)
      have y3 : mu M 154 3 (M 154 3 + 1) 154 3 = M 154 3 + 1 := mx_same _ _ _ _
      generalize mu M 154 3 (M 154 3 + 1) = N at *
      obtain ⟨M', g1, g2, g3, g4, g5, g6, g7, g8⟩ := Mo_next_bl hf hL n k' N (o1.ptr hP) (o1.tap hT) (by omega) (by rw [o1.n]; omega) (by rw [o1.n]; omega) (by omega)
      rw [o1.n, o1.f] at g3 g4 g5 g8
      rw [y3] at g3
      refine ⟨M', g1, o1.trans g2, ?_, g4, g5, g6, g7, g8⟩
      rw [g3]
      conv => rhs; unfold wh
      rw [if_pos ⟨hi, by rw [hbl]; rfl⟩]
    · have hw : wh isB (M 155) (M 154 2) k (M 154 3) = M 154 3 := by
        cases k with
        | zero => rfl
        | succ k => unfold wh; rw [if_neg (fun q => hbl ⟨q.1, of_decide_eq_true q.2⟩)]
      have hne : (if M 154 3 < M 154 2 then M 155 (M 154 3) else -1) ≠ 32 := by
        split
        · next h => exact fun z => hbl ⟨h, z⟩
        · decide
      rw [if_neg hne, lt1_def]
      have o1 : NOff M (mu M 154 4 (M 154 3)) := (NOff.refl M).mu (by omega)
      have y3 : mu M 154 4 (M 154 3) 154 3 = M 154 3 := mx_ne (by omega)
      have y4 : mu M 154 4 (M 154 3) 154 4 = M 154 3 := mx_same _ _ _ _
      rw [y3, hw]
      generalize hb : M 154 3 = b at *
      generalize mu M 154 4 b = N at *
      have fin := fun K hK => Mo_next_part hf hL (o1.ptr hP) (o1.tap hT) (b := b) h0 (by rw [o1.n]; omega) y3 y4 (K := K) hK
      rw [o1.n, o1.f] at fin
      rw [Mo_see_ok hL (o1.ptr hP) (o1.tap hT) h0, bd1_some, o1.n, o1.f]
      have done : ∀ K, K = tkK (M 155) (M 154 2) b → ∃ M', Mo_next_b76 fu L N 154 154 K = some M' ∧ NOff M M' ∧ M' 154 4 = b ∧ M' 154 6 = tkK (M 155) (M 154 2) (M' 154 4) ∧ M' 154 3 = tkE (M 155) (M 154 2) (M' 154 4) ∧ 0 ≤ M' 154 7 ∧ M' 154 7 ≤ 1000000 ∧ (M' 154 6 = 2 → M' 154 3 - M' 154 4 ≤ 3 → M' 154 7 = tkV (M 155) (M 154 2) (M' 154 4)) := fun K hK => by
        obtain ⟨M', g1, g2, g3, g4, g5, g6, g7, g8⟩ := fin K hK
        refine ⟨M', g1, o1.trans g2, g3, by rw [g3, g4, hK], by rw [g3, g5], g6, g7, fun h1 h2 => ?_⟩
        rw [g3] at h2 ⊢
        exact g8 (by rw [← g4]; exact h1) h2
      by_cases hi : b < M 154 2
      · have hbyte := hT.2.2 b h0 hi
        rw [if_pos hi, if_neg (by omega), Mo_isSmall_ok, bd1_some]
        by_cases hs : isS (M 155 b) = true
        · rw [if_pos hs, if_neg (by decide)]
          exact done 1 (by unfold tkK; rw [if_pos hi, if_pos hs])
        · rw [if_neg hs, if_pos rfl, Mo_isDigit_ok, bd1_some]
          by_cases hd : isD (M 155 b) = true
          · rw [if_pos hd, if_neg (by decide)]
            exact done 2 (by unfold tkK; rw [if_pos hi, if_neg hs, if_pos hd])
          · rw [if_neg hd, if_pos rfl]
            exact done 3 (by unfold tkK; rw [if_pos hi, if_neg hs, if_neg hd])
      · rw [if_neg hi, if_pos rfl]
        exact done 0 (by unfold tkK; rw [if_neg hi])
theorem Mo_next_ok {fu : Nat} (hf : 400 ≤ fu) {L : zL} (hL : Lay L) {M : zM} (hP : Ptr M) (hT : TapM M) (h0 : 0 ≤ M 154 3) (h3 : M 154 3 ≤ M 154 2) :
    ∃ M', Mo_next fu L M 154 = some M' ∧ NOff M M' ∧ M' 154 4 = tkB (M 155) (M 154 2) (M 154 3) ∧ M' 154 6 = tkK (M 155) (M 154 2) (M' 154 4) ∧ M' 154 3 = tkE (M 155) (M 154 2) (M' 154 4) ∧ 0 ≤ M' 154 7 ∧ M' 154 7 ≤ 1000000 ∧ (M' 154 6 = 2 → M' 154 3 - M' 154 4 ≤ 3 → M' 154 7 = tkV (M 155) (M 154 2) (M' 154 4)) := by
  have t1 := hT.2.1
  exact Mo_next_bl hf hL fu 301 M hP hT h0 h3 (by omega) (by omega)
