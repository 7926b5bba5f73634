/-! ===== pure: part 52 ===== -/
/-! ===== pure: the family's loop ===== -/
theorem Tp_restart_ok {fu : Nat} (hf : 400 ≤ fu) {L : zL} {M : zM} (hL : Lay L) (hP : Ptr M) (hT : TapC M) : ∃ M', Tp_restart fu L M 2 = some M' ∧ COff M M' ∧ CTok M' (tkB (M 3) (M 2 2) 0) := by
  have l2 : L 2 = (8, 0) := hL 2 (by decide)
  have o : COff M (mu M 2 6 0) := fun a i h => mx_ne (by omega)
  have e : mu M 2 6 0 2 6 = 0 := mx_same _ _ _ _
  have t0 := hT.1
  obtain ⟨M', g1, g2, g3⟩ := Tp_adv hf hL (o.ptr hP) (o.tap hT) (by omega) (by rw [e, o.n]; exact t0)
  rw [e, o.f, o.n] at g3
  refine ⟨M', ?_, o.trans g2, g3⟩
  unfold Tp_restart
  rw [l2, if_pos rfl, lt1_def, g1, bd1_some]
theorem Mo_begins_ok {fu : Nat} (hf : 400 ≤ fu) {L : zL} {M : zM} (hL : Lay L) (hP : Ptr M) (hT : TapM M) : ∃ M', Mo_begins fu L M 154 = some M' ∧ QOff M M' ∧ MTok M' (tkB (M 155) (M 154 2) 0) ∧ M' 154 5 = -1 := by
  have l4 : L 154 = (13, 0) := hL 154 (by decide)
  have o : NOff M (mu M 154 3 0) := (NOff.refl M).mu (by omega)
  have oP := ptr_bad (o.ptr hP) (-1)
  have oT := (o.tap hT).bad (-1)
  have e3 : mu (mu M 154 3 0) 154 5 (-1) 154 3 = 0 := by rw [mx_ne (by omega), mx_same]
  have e5 : mu (mu M 154 3 0) 154 5 (-1) 154 5 = -1 := mx_same _ _ _ _
  have e2 : mu (mu M 154 3 0) 154 5 (-1) 154 2 = M 154 2 := by rw [mx_ne (by omega), o.n]
  have ef : mu (mu M 154 3 0) 154 5 (-1) 155 = M 155 := funext fun i => by rw [mx_ne (by omega), o.f]
  have t0 := hT.1
  obtain ⟨M', g1, g2, g3⟩ := Mo_adv hf hL oP oT (by omega) (by rw [e3, e2]; exact t0)
  rw [e3, ef, e2] at g3
  refine ⟨M', ?_, (o.q.bad (-1)).trans g2.q, g3, by rw [g2.w, e5]⟩
  unfold Mo_begins
  rw [l4, if_pos rfl, lt1_def, lt1_def, g1, bd1_some]
def iupd (g : Int → Int) (i v : Int) : Int → Int := fun j => if j = i then v else g j
/-- pieces from b on, at most k of them: the fault or none, how many, the rows -/
def famL (f : Int → Int) (n : Int) : Nat → Int → (Int → Int) → (Int → Int) → (Int → Int) → Int → Int × Int × (Int → Int) × (Int → Int) × (Int → Int)
  | 0, m, g, h, q, b => (b, m, g, h, q)
  | k + 1, m, g, h, q, b =>
    if (piece f n m g h b).1 = 0 then ((piece f n m g h b).2.1, m, g, h, q) else
    if tkK f n (piece f n m g h b).2.1 = 0 then (-1, m + 1, iupd g m (piece f n m g h b).2.2.1, iupd h m (piece f n m g h b).2.2.2.1, iupd q m (piece f n m g h b).2.2.2.2) else
    if isG 59 f n (piece f n m g h b).2.1 = true then famL f n k (m + 1) (iupd g m (piece f n m g h b).2.2.1) (iupd h m (piece f n m g h b).2.2.2.1) (iupd q m (piece f n m g h b).2.2.2.2) (nxt f n (piece f n m g h b).2.1)
    else ((piece f n m g h b).2.1, m + 1, iupd g m (piece f n m g h b).2.2.1, iupd h m (piece f n m g h b).2.2.2.1, iupd q m (piece f n m g h b).2.2.2.2)
/-- all that a piece adds lies in its bounds -/
theorem piece_1 {f : Int → Int} {n m b : Int} {g h : Int → Int} (h1 : (piece f n m g h b).1 ≠ 0) : (97 ≤ (piece f n m g h b).2.2.1 ∧ (piece f n m g h b).2.2.1 ≤ 104) ∧ (0 ≤ (piece f n m g h b).2.2.2.1 ∧ (piece f n m g h b).2.2.2.1 ≤ 99) ∧ (-1 ≤ (piece f n m g h b).2.2.2.2 ∧ ((piece f n m g h b).2.2.2.2 < m ∨ (piece f n m g h b).2.2.2.2 = -1)) ∧ m < 8 := by
  unfold piece at h1 ⊢
  by_cases c1 : m < 8 ∧ 97 ≤ ltr f n b ∧ ltr f n b ≤ 104 ∧ fnd g (ltr f n b) m.toNat 0 = -1
  · rw [if_pos c1] at h1 ⊢
    by_cases c2 : isN 99 f n (nxt f n b) = true
    · rw [if_pos c2] at h1 ⊢
      have v := of_decide_eq_true c2
      have vb := tkV_b v.1 v.2.1
      by_cases c3 : isW 0 f n (nxt f n (nxt f n b)) = true
      · rw [if_pos c3] at h1 ⊢
        have pr := fnd_r g (ltr f n (nxt f n (nxt f n (nxt f n b)))) m.toNat 0
        generalize fnd g (ltr f n (nxt f n (nxt f n (nxt f n b)))) m.toNat 0 = p at *
        by_cases c4 : 0 ≤ p ∧ 13 ≤ h p - tkV f n (nxt f n b)
        · rw [if_pos c4]
          exact ⟨⟨c1.2.1, c1.2.2.1⟩, ⟨vb.1, v.2.2⟩, ⟨by show -1 ≤ p; omega, by show p < m ∨ p = -1; omega⟩, c1.1⟩
        · rw [if_neg c4] at h1; exact absurd rfl h1
      · rw [if_neg c3]
        exact ⟨⟨c1.2.1, c1.2.2.1⟩, ⟨vb.1, v.2.2⟩, ⟨Int.le_refl _, Or.inr rfl⟩, c1.1⟩
    · rw [if_neg c2] at h1; exact absurd rfl h1
  · rw [if_neg c1] at h1; exact absurd rfl h1
def FOff (M M' : zM) : Prop := ∀ a i, (a ≠ 2 ∨ i < 4 ∨ 7 < i) → (a ≠ 5 ∨ i ≠ 4) → a ≠ 6 → a ≠ 7 → a ≠ 8 → M' a i = M a i
theorem COff.fo {M M' : zM} (h : COff M M') : FOff M M' := fun a i h1 _ _ _ _ => h a i h1
theorem FOff.trans {A B C : zM} (h : FOff A B) (h2 : FOff B C) : FOff A C := fun a i q1 q2 q3 q4 q5 => (h2 a i q1 q2 q3 q4 q5).trans (h a i q1 q2 q3 q4 q5)
theorem foff_fadd {M N : zM} (h : FOff M N) (c a p : Int) : FOff M (fadd N c a p) := fun x i q1 q2 q3 q4 q5 => by
  unfold fadd
  rw [mx_ne (by omega), mx_ne (by omega), mx_ne (by omega), mx_ne (by omega)]
  exact h x i q1 q2 q3 q4 q5
theorem FOff.ptr {M M' : zM} (h : FOff M M') (hP : Ptr M) : Ptr M' := fun q hq => by
  have h9 : ∀ q ∈ zPt, ((q.1 : Int) ≠ 2 ∨ (q.2.1 : Int) < 4 ∨ 7 < (q.2.1 : Int)) ∧ ((q.1 : Int) ≠ 5 ∨ (q.2.1 : Int) ≠ 4) ∧ (q.1 : Int) ≠ 6 ∧ (q.1 : Int) ≠ 7 ∧ (q.1 : Int) ≠ 8 := by decide +kernel
  obtain ⟨a1, a2, a3, a4, a5⟩ := h9 q hq
  rw [h _ _ a1 a2 a3 a4 a5]
  exact hP q hq
theorem FOff.n {M M' : zM} (h : FOff M M') : M' 2 2 = M 2 2 := h 2 2 (by omega) (by omega) (by omega) (by omega) (by omega)
theorem FOff.f {M M' : zM} (h : FOff M M') : M' 3 = M 3 := funext fun i => h 3 i (by omega) (by omega) (by omega) (by omega) (by omega)
theorem FOff.tap {M M' : zM} (h : FOff M M') (hT : TapC M) : TapC M' := by
  unfold TapC
  rw [h.n, h.f]
  exact hT
theorem fadd_m (M : zM) (c a p : Int) : fadd M c a p 5 4 = M 5 4 + 1 := mx_same _ _ _ _
theorem fadd_6 (M : zM) (c a p : Int) : fadd M c a p 6 = iupd (M 6) (M 5 4) c := funext fun j => by
  unfold fadd iupd
  rw [mx_ne (by omega), mx_ne (by omega), mx_ne (by omega)]
  by_cases h : j = M 5 4
  · rw [h, mx_same, if_pos rfl]
  · rw [mx_ne (Or.inr h), if_neg h]
theorem fadd_7 (M : zM) (c a p : Int) : fadd M c a p 7 = iupd (M 7) (M 5 4) a := funext fun j => by
  unfold fadd iupd
  rw [mx_ne (by omega), mx_ne (by omega)]
  by_cases h : j = M 5 4
  · rw [h, mx_same, if_pos rfl]
  · rw [mx_ne (Or.inr h), mx_ne (by omega), if_neg h]
theorem fadd_8 (M : zM) (c a p : Int) : fadd M c a p 8 = iupd (M 8) (M 5 4) p := funext fun j => by
  unfold fadd iupd
  rw [mx_ne (by omega)]
  by_cases h : j = M 5 4
  · rw [h, mx_same, if_pos rfl]
  · rw [mx_ne (Or.inr h), mx_ne (by omega), mx_ne (by omega), if_neg h]
theorem Fr_read_l {fu : Nat} (hf : 400 ≤ fu) {L : zL} (hL : Lay L) : ∀ (k n : Nat) (M : zM) (b : Int), Ptr M → TapC M → CTok M b → 0 ≤ M 5 4 → M 5 4 ≤ 8 → M 5 4 + k = 9 → k < n → (∀ i, 0 ≤ i → i < M 5 4 → 0 ≤ M 7 i ∧ M 7 i ≤ 99) →
    ∃ M', Fr_read_l14 fu L n M 5 (M 5 4) = some (M', (famL (M 3) (M 2 2) k (M 5 4) (M 6) (M 7) (M 8) b).1) ∧ FOff M M' ∧ M' 5 4 = (famL (M 3) (M 2 2) k (M 5 4) (M 6) (M 7) (M 8) b).2.1 ∧ M' 6 = (famL (M 3) (M 2 2) k (M 5 4) (M 6) (M 7) (M 8) b).2.2.1 ∧ M' 7 = (famL (M 3) (M 2 2) k (M 5 4) (M 6) (M 7) (M 8) b).2.2.2.1 ∧ M' 8 = (famL (M 3) (M 2 2) k (M 5 4) (M 6) (M 7) (M 8) b).2.2.2.2
  | 0, n, M, b, _, _, _, _, h8, hk, _, _ => absurd hk (by omega)
  | k + 1, 0, M, b, _, _, _, _, _, _, hn, _ => absurd hn (Nat.not_lt_zero _)
  | k + 1, n + 1, M, b, hP, hT, hb, h0, h8, hk, hn, hA => by
    have l5 : L 5 = (3, 0) := hL 5 (by decide)
    have l2 : L 2 = (8, 0) := hL 2 (by decide)
    have q0 : ∀ {N : zM}, Ptr N → N 5 0 = 2 := fun h => h (5, 0, 2) (by decide +kernel)
    show ∃ M', Fr_read_s14 _ _ _ _ _ _ = some _ ∧ _
    unfold Fr_read_s14 famL
    obtain ⟨N, o1, tk, hh⟩ := Fr_readPiece_ok hf hL hP hT hb h0 h8 hA
    have pb := fun z => piece_1 (f := M 3) (n := M 2 2) (m := M 5 4) (g := M 6) (h := M 7) (b := b) z
    generalize piece (M 3) (M 2 2) (M 5 4) (M 6) (M 7) b = t at *
    obtain ⟨t1, t2, t3, t4, t5⟩ := t
    dsimp only at tk hh pb ⊢
    rw [if_neg (by omega), l5, if_pos rfl]
    rcases hh with ⟨e1, e2⟩ | ⟨e1, e3, e2⟩
    · rw [e2, bd2_some, if_pos rfl, q0 (o1.ptr hP), l2, if_pos rfl, if_pos e1, tk.2.2.1]
      exact ⟨N, rfl, o1.fo, o1.five 4, o1.row (by decide), o1.row (by decide), o1.row (by decide)⟩
    · have hp := pb (by omega)
      rw [e2, bd2_some, if_neg (show ¬ (1 : Int) = 0 by decide), if_neg (show ¬ t1 = 0 by omega)]
      have nP := o1.ptr hP
      have o2 := foff_fadd o1.fo t3 t4 t5
      have tk2 := CTok.fadd (c := t3) (a := t4) (p := t5) tk
      have m54 := fadd_m N t3 t4 t5
      have r6 := fadd_6 N t3 t4 t5
      have r7 := fadd_7 N t3 t4 t5
      have r8 := fadd_8 N t3 t4 t5
      rw [o1.five 4] at m54 r6 r7 r8
      rw [o1.row (a := 6) (by decide)] at r6
      rw [o1.row (a := 7) (by decide)] at r7
      rw [o1.row (a := 8) (by decide)] at r8
      generalize fadd N t3 t4 t5 = A at *
      have aP := o2.ptr hP
      have aT := o2.tap hT
      have ov := Tp_isOver_ok (fu := fu) hL tk2
      rw [o2.f, o2.n] at ov
      have sg := Tp_isSign_ok (fu := fu) hL aP aT tk2 59
      rw [o2.f, o2.n] at sg
      rw [q0 aP, l2, if_pos rfl, ov, bd1_some]
      by_cases c1 : tkK (M 3) (M 2 2) t2 = 0
      · rw [if_pos c1, if_pos c1, if_neg (show ¬ (1 : Int) = 0 by decide)]
        exact ⟨A, rfl, o2, m54, r6, r7, r8⟩
      · rw [if_neg c1, if_neg c1, if_pos rfl, sg, bd1_some]
        by_cases c2 : isG 59 (M 3) (M 2 2) t2 = true
        · obtain ⟨B, b1, b2, b3⟩ := Tp_step hf hL aP aT tk2
          rw [o2.f, o2.n] at b3
          have o3 := o2.trans b2.fo
          rw [if_pos c2, if_pos c2, if_neg (show ¬ (1 : Int) = 0 by decide), b1, bd1_some, lt1_def, w32_id (by omega)]
          have m54' : B 5 4 = M 5 4 + 1 := (b2.five 4).trans m54
          have s6 : B 6 = iupd (M 6) (M 5 4) t3 := (b2.row (by decide)).trans r6
          have s7 : B 7 = iupd (M 7) (M 5 4) t4 := (b2.row (by decide)).trans r7
          have s8 : B 8 = iupd (M 8) (M 5 4) t5 := (b2.row (by decide)).trans r8
          obtain ⟨M', g1, g2, g3, g4, g5, g6⟩ := Fr_read_l hf hL k n B _ (o3.ptr hP) (o3.tap hT) b3 (by omega) (by omega) (by omega) (by omega) (by
            rw [s7, m54']
            intro i i0 i1
            unfold iupd
            by_cases hi : i = M 5 4
            · rw [if_pos hi]; omega
            · rw [if_neg hi]; exact hA i i0 (by omega))
          rw [o3.f, o3.n, m54', s6, s7, s8] at g1 g3 g4 g5 g6
          exact ⟨M', g1, o3.trans g2, g3, g4, g5, g6⟩
        · rw [if_neg c2, if_neg c2, if_pos rfl, tk2.2.2.1]
          exact ⟨A, rfl, o2, m54, r6, r7, r8⟩
