/-! ===== pure: part 54 ===== -/
theorem add97 (g : Int → Int) (m c : Int) : (fun i => iupd g m (c - 97) i + 97) = iupd (fun i => g i + 97) m c := funext fun i => by
  unfold iupd
  by_cases h : i = m
  · rw [if_pos h, if_pos h]; omega
  · rw [if_neg h, if_neg h]
theorem Mo_fam_l {fu : Nat} (hf : 400 ≤ fu) {L : zL} (hL : Lay L) : ∀ (k n : Nat) (N : zM) (b : Int), Ptr N → TapM N → MTok N b → N 154 5 = -1 → 0 ≤ N 154 11 → N 154 11 ≤ 8 → N 154 11 + k = 9 → k < n → (∀ i, 0 ≤ i → i < N 154 11 → 0 ≤ N 157 i ∧ N 157 i ≤ 99) → (∀ i, 0 ≤ i → i < N 154 11 → 0 ≤ N 156 i ∧ N 156 i ≤ 7) →
    ∃ N', bd1 (Mo_readsPiece fu L N 154) (fun M6 => Mo_readsFamily_l13 fu L n M6 154) = some (N', (famL (N 155) (N 154 2) k (N 154 11) (fun i => N 156 i + 97) (N 157) (N 158) b).1) ∧ GOff N N' ∧ N' 154 5 = (famL (N 155) (N 154 2) k (N 154 11) (fun i => N 156 i + 97) (N 157) (N 158) b).1 ∧ N' 154 11 = (famL (N 155) (N 154 2) k (N 154 11) (fun i => N 156 i + 97) (N 157) (N 158) b).2.1 ∧ (fun i => N' 156 i + 97) = (famL (N 155) (N 154 2) k (N 154 11) (fun i => N 156 i + 97) (N 157) (N 158) b).2.2.1 ∧ N' 157 = (famL (N 155) (N 154 2) k (N 154 11) (fun i => N 156 i + 97) (N 157) (N 158) b).2.2.2.1 ∧ N' 158 = (famL (N 155) (N 154 2) k (N 154 11) (fun i => N 156 i + 97) (N 157) (N 158) b).2.2.2.2
  | 0, n, N, b, _, _, _, _, _, h8, hk, _, _, _ => absurd hk (by omega)
  | k + 1, 0, N, b, _, _, _, _, _, _, _, hn, _, _ => absurd hn (Nat.not_lt_zero _)
  | k + 1, n + 1, N, b, hP, hT, hb, hw, h0, h8, hk, hn, hA, hN => by
    have l4 : L 154 = (13, 0) := hL 154 (by decide)
    unfold famL
    obtain ⟨A, o1, tk, hh⟩ := Mo_readsPiece_ok hf hL hP hT hb hw h0 h8 hA hN
    have pb := fun z => piece_1 (f := N 155) (n := N 154 2) (m := N 154 11) (g := fun i => N 156 i + 97) (h := N 157) (b := b) z
    generalize piece (N 155) (N 154 2) (N 154 11) (fun i => N 156 i + 97) (N 157) b = t at *
    obtain ⟨t1, t2, t3, t4, t5⟩ := t
    dsimp only at tk hh pb ⊢
    have tb := tk.1
    rcases hh with ⟨e1, e4, e2⟩ | ⟨e1, e3, e4, e2⟩
    · rw [e2, bd1_some, if_pos e1]
      have aP := o1.go.ptr hP
      have aT := o1.go.tap hT
      refine ⟨A, ?_, o1.go, e4, o1.many, by rw [o1.row (a := 156) (by decide)], o1.row (by decide), o1.row (by decide)⟩
      show Mo_readsFamily_s13 _ _ _ _ _ = _
      unfold Mo_readsFamily_s13
      rw [l4, if_pos rfl, Mo_takesSign_n hL aP aT tk (fun z => by have := z.1; omega), bd2_some, if_pos rfl, Mo_mustEnd_y hL tk (Or.inl (by omega)), bd1_some, e4]
    · have hp := pb (by omega)
      rw [e2, bd1_some, if_neg (show ¬ t1 = 0 by omega)]
      have o2 := goff_madd o1.go (t3 - 97) t4 t5
      have tk2 := mtok_madd (c := t3 - 97) (a := t4) (p := t5) tk
      have m11 := madd_m A (t3 - 97) t4 t5
      have mw := madd_w A (t3 - 97) t4 t5
      have r6 := madd_6 A (t3 - 97) t4 t5
      have r7 := madd_7 A (t3 - 97) t4 t5
      have r8 := madd_8 A (t3 - 97) t4 t5
      rw [o1.many] at m11 r6 r7 r8
      rw [o1.row (a := 156) (by decide)] at r6
      rw [o1.row (a := 157) (by decide)] at r7
      rw [o1.row (a := 158) (by decide)] at r8
      rw [e4] at mw
      generalize madd A (t3 - 97) t4 t5 = B at *
      have bP := o2.ptr hP
      have bT := o2.tap hT
      have g6 : (fun i => B 156 i + 97) = iupd (fun i => N 156 i + 97) (N 154 11) t3 := by rw [r6, add97]
      show ∃ N', Mo_readsFamily_s13 _ _ _ _ _ = _ ∧ _
      unfold Mo_readsFamily_s13
      rw [l4, if_pos rfl]
      by_cases c2 : isG 59 (N 155) (N 154 2) t2 = true
      · have c1 : ¬ tkK (N 155) (N 154 2) t2 = 0 := by have := (of_decide_eq_true c2).1; omega
        obtain ⟨C, b1, b2, b3⟩ := Mo_takesSign_y hf hL bP bT tk2 mw (c := 59) (by rw [o2.f, o2.n]; exact c2)
        rw [o2.f, o2.n] at b3
        have o3 := o2.trans b2.q.go
        have m11' : C 154 11 = N 154 11 + 1 := b2.many.trans m11
        have s6 : C 156 = B 156 := b2.row (by decide)
        have s7 : C 157 = iupd (N 157) (N 154 11) t4 := (b2.row (by decide)).trans r7
        have s8 : C 158 = iupd (N 158) (N 154 11) t5 := (b2.row (by decide)).trans r8
        rw [b1, bd2_some, if_neg (show ¬ (1 : Int) = 0 by decide), if_neg c1, if_pos c2]
        obtain ⟨N', g1, g2, g3, g4, g5, g7, g8⟩ := Mo_fam_l hf hL k n C _ (o3.ptr hP) (o3.tap hT) b3 (b2.w.trans mw) (by omega) (by omega) (by omega) (by omega) (by
            rw [s7, m11']
            intro i i0 i1
            unfold iupd
            by_cases hi : i = N 154 11
            · rw [if_pos hi]; omega
            · rw [if_neg hi]; exact hA i i0 (by omega)) (by
            rw [s6, r6, m11']
            intro i i0 i1
            unfold iupd
            by_cases hi : i = N 154 11
            · rw [if_pos hi]; omega
            · rw [if_neg hi]; exact hN i i0 (by omega))
        rw [o3.f, o3.n, m11', s6, g6, s7, s8] at g1 g3 g4 g5 g7 g8
        exact ⟨N', g1, o3.trans g2, g3, g4, g5, g7, g8⟩
      · rw [Mo_takesSign_n hL bP bT tk2 (fun z => c2 (by have := z.2; rw [o2.f, o2.n] at this; exact this)), bd2_some, if_pos rfl]
        by_cases c1 : tkK (N 155) (N 154 2) t2 = 0
        · rw [Mo_mustEnd_y hL tk2 (Or.inr (by rw [o2.f, o2.n]; exact c1)), bd1_some, if_pos c1, mw]
          exact ⟨B, rfl, o2, mw, m11, g6, r7, r8⟩
        · have hbad := Mo_mustEnd_n (fu := fu) hL tk2 mw (by rw [o2.f, o2.n]; exact c1)
          have w5 : mu B 154 5 t2 154 5 = t2 := mx_same _ _ _ _
          rw [hbad, bd1_some, if_neg c1, if_neg c2, w5]
          have ro : ∀ a : Int, a ≠ 154 → mu B 154 5 t2 a = B a := fun a ha => funext fun i => mx_ne (Or.inl ha)
          refine ⟨_, rfl, fun a i q1 q2 q3 q4 => ?_, w5, ?_, ?_, ?_, ?_⟩
          · rw [mx_ne (by omega)]; exact o2 a i q1 q2 q3 q4
          · rw [mx_ne (by omega)]; exact m11
          · rw [ro 156 (by decide)]; exact g6
          · rw [ro 157 (by decide)]; exact r7
          · rw [ro 158 (by decide)]; exact r8
