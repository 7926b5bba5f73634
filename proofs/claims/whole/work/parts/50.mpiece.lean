/-! ===== pure: part 50 ===== -/
/-! ===== pure: a piece of a family, the model ===== -/
def madd (N : zM) (c a p : Int) : zM := mu (mu (mu (mu N 156 (N 154 11) c) 157 (N 154 11) a) 158 (N 154 11) p) 154 11 (N 154 11 + 1)
theorem Mo_b105_y {fu : Nat} {L : zL} {N : zM} (hL : Lay L) (hP : Ptr N) (hw : N 154 5 = -1) (h0 : 0 ≤ N 154 11) (h8 : N 154 11 < 8) (c a p : Int) : Mo_readsPiece_b105 fu L N 154 c a p = some (madd N c a p) := by
  have l4 : L 154 = (13, 0) := hL 154 (by decide)
  have l6 : L 156 = (101, 8) := hL 156 (by decide)
  have l7 : L 157 = (101, 8) := hL 157 (by decide)
  have l8 : L 158 = (101, 8) := hL 158 (by decide)
  have q1 : N 154 8 = 156 := hP (154, 8, 156) (by decide +kernel)
  have q2 : N 154 9 = 157 := hP (154, 9, 157) (by decide +kernel)
  have q3 : N 154 10 = 158 := hP (154, 10, 158) (by decide +kernel)
  unfold Mo_readsPiece_b105 madd
  generalize hn : N 154 11 = n at *
  have a2 : mu N 156 n c 154 9 = 157 := by rw [mx_ne (by omega), q2]
  have a4 : mu N 156 n c 154 11 = n := by rw [mx_ne (by omega), hn]
  have a3 : mu (mu N 156 n c) 157 n a 154 10 = 158 := by rw [mx_ne (by omega), mx_ne (by omega), q3]
  have a5 : mu (mu N 156 n c) 157 n a 154 11 = n := by rw [mx_ne (by omega), a4]
  have a6 : mu (mu (mu N 156 n c) 157 n a) 158 n p 154 11 = n := by rw [mx_ne (by omega), a5]
  rw [l4, if_pos rfl, if_pos hw, q1, l6, if_pos rfl, if_pos (by show 0 ≤ n ∧ n < 8; omega), lt1_def, a2, a4, l7, if_pos rfl, if_pos (by show 0 ≤ n ∧ n < 8; omega), lt1_def, a3, a5, l8, if_pos rfl, if_pos (by show 0 ≤ n ∧ n < 8; omega), lt1_def, lt1_def, a6, w32_id (by omega)]
theorem Mo_b105_n {fu : Nat} {L : zL} {N : zM} (hL : Lay L) (hw : N 154 5 ≠ -1) (c a p : Int) : Mo_readsPiece_b105 fu L N 154 c a p = some N := by
  have l4 : L 154 = (13, 0) := hL 154 (by decide)
  unfold Mo_readsPiece_b105
  rw [l4, if_pos rfl, if_neg hw]
/-- the model's reader, with what is wrong, aside -/
def QOff (M M' : zM) : Prop := ∀ a i, (a ≠ 154 ∨ (i < 3 ∨ 7 < i)) → M' a i = M a i
theorem NOff.q {M M' : zM} (h : NOff M M') : QOff M M' := fun a i hi => h a i (by omega)
theorem QOff.trans {A B C : zM} (h : QOff A B) (h2 : QOff B C) : QOff A C := fun a i q => (h2 a i q).trans (h a i q)
theorem QOff.bad {A B : zM} (h : QOff A B) (v : Int) : QOff A (mu B 154 5 v) := fun a i q => by rw [mx_ne (by omega)]; exact h a i q
theorem QOff.refl (M : zM) : QOff M M := fun _ _ _ => rfl
theorem NOff.w {M M' : zM} (h : NOff M M') : M' 154 5 = M 154 5 := h 154 5 (by omega)
theorem NOff.many {M M' : zM} (h : NOff M M') : M' 154 11 = M 154 11 := h 154 11 (by omega)
theorem NOff.row {M M' : zM} (h : NOff M M') {a : Int} (ha : a ≠ 154) : M' a = M a := funext fun i => h a i (Or.inl ha)
theorem MTok.bad {N : zM} {b : Int} (h : MTok N b) (v : Int) : MTok (mu N 154 5 v) b := by
  have e : ∀ j, j ≠ 5 → mu N 154 5 v 154 j = N 154 j := fun j hj => mx_ne (Or.inr hj)
  have e3 : mu N 154 5 v 155 = N 155 := funext fun j => mx_ne (Or.inl (by decide))
  unfold MTok at h ⊢
  rw [e 2 (by decide), e 4 (by decide), e 6 (by decide), e 3 (by decide), e 7 (by decide), e3]
  exact h
theorem ptr_bad {N : zM} (h : Ptr N) (v : Int) : Ptr (mu N 154 5 v) := h.mu (by decide +kernel)
theorem TapM.bad {N : zM} (h : TapM N) (v : Int) : TapM (mu N 154 5 v) := by
  have e : mu N 154 5 v 154 2 = N 154 2 := mx_ne (by omega)
  have e3 : mu N 154 5 v 155 = N 155 := funext fun j => mx_ne (Or.inl (by decide))
  unfold TapM at h ⊢
  rw [e, e3]
  exact h
theorem isW_of (f : Int → Int) (n b : Int) : isW 16 f n b = isW 0 f n b := rfl
/-- from b on: the letters are 97 more than the model's names -/
theorem fnd_m {g : Int → Int} {c : Int} (k : Nat) : fnd g (c - 97) k 0 = fnd (fun i => g i + 97) c k 0 := fnd_shift k 0 (fun j _ _ => ⟨fun h => by show g j + 97 = c; omega, fun h => by have : g j + 97 = c := h; omega⟩)
theorem Mo_readsPiece_ok {fu : Nat} (hf : 400 ≤ fu) {L : zL} {N : zM} (hL : Lay L) (hP : Ptr N) (hT : TapM N) {b : Int} (hb : MTok N b) (hw : N 154 5 = -1) (h0 : 0 ≤ N 154 11) (h8 : N 154 11 ≤ 8) (hA : ∀ k, 0 ≤ k → k < N 154 11 → 0 ≤ N 157 k ∧ N 157 k ≤ 99) (hN : ∀ k, 0 ≤ k → k < N 154 11 → 0 ≤ N 156 k ∧ N 156 k ≤ 7) :
    ∃ N1, QOff N N1 ∧ MTok N1 (piece (N 155) (N 154 2) (N 154 11) (fun i => N 156 i + 97) (N 157) b).2.1 ∧
      ((piece (N 155) (N 154 2) (N 154 11) (fun i => N 156 i + 97) (N 157) b).1 = 0 ∧ N1 154 5 = (piece (N 155) (N 154 2) (N 154 11) (fun i => N 156 i + 97) (N 157) b).2.1 ∧ Mo_readsPiece fu L N 154 = some N1 ∨
       (piece (N 155) (N 154 2) (N 154 11) (fun i => N 156 i + 97) (N 157) b).1 = 1 ∧ N 154 11 < 8 ∧ N1 154 5 = -1 ∧ Mo_readsPiece fu L N 154 = some (madd N1 ((piece (N 155) (N 154 2) (N 154 11) (fun i => N 156 i + 97) (N 157) b).2.2.1 - 97) (piece (N 155) (N 154 2) (N 154 11) (fun i => N 156 i + 97) (N 157) b).2.2.2.1 (piece (N 155) (N 154 2) (N 154 11) (fun i => N 156 i + 97) (N 157) b).2.2.2.2)) := by
  have l4 : L 154 = (13, 0) := hL 154 (by decide)
  have l7 : L 157 = (101, 8) := hL 157 (by decide)
  have b0 := hb.1
  have bad0 : Mo_bad fu L N 154 = some (mu N 154 5 b) := by rw [Mo_bad_ok hL, if_pos hw, hb.2.2.1]
  have out0 : QOff N (mu N 154 5 b) ∧ MTok (mu N 154 5 b) b ∧ (mu N 154 5 b) 154 5 = b := ⟨(QOff.refl N).bad b, hb.bad b, mx_same _ _ _ _⟩
  unfold Mo_readsPiece piece
  rw [l4, if_pos rfl, Mo_letter_ok hL hP hT hb, if_pos hw, bd1_some, bad0]
  have hlt := ltr_b (f := N 155) (n := N 154 2) (b := b)
  unfold mltr
  generalize hc : ltr (N 155) (N 154 2) b = c at *
  by_cases g3 : c = 0 ∨ 104 < c
  · rw [if_pos g3, if_pos rfl, bd1_some, if_neg (by omega)]
    exact ⟨_, out0.1, out0.2.1, Or.inl ⟨rfl, out0.2.2, rfl⟩⟩
  · have hr := hlt (by omega)
    rw [if_neg g3, if_neg (show ¬ c - 97 = -1 by omega)]
    by_cases g1 : N 154 11 = 8
    · rw [if_pos g1, bd1_some, if_neg (by omega)]
      exact ⟨_, out0.1, out0.2.1, Or.inl ⟨rfl, out0.2.2, rfl⟩⟩
    · rw [if_neg g1, Mo_readLife_ok hf hL hP h0 h8, bd1_some, fnd_m]
      by_cases g4 : fnd (fun i => N 156 i + 97) c (N 154 11).toNat 0 = -1
      · obtain ⟨A, a1, a2, a3⟩ := Mo_step hf hL hP hT hb
        have aP := a2.ptr hP
        have aT := a2.tap hT
        have aw : A 154 5 = -1 := a2.w.trans hw
        rw [if_pos g4, if_pos ⟨by omega, by omega, by omega, g4⟩, a1, bd1_some]
        generalize hb1 : nxt (N 155) (N 154 2) b = b1 at *
        have b10 := a3.1
        by_cases g5 : isN 99 (N 155) (N 154 2) b1 = true
        · have vb := tkV_b (of_decide_eq_true g5).1 (of_decide_eq_true g5).2.1
          obtain ⟨B, c1, c2, c3⟩ := Mo_takesNumber_y hf hL aP aT a3 aw (m := 99) (by rw [a2.f, a2.n]; exact g5)
          rw [a2.f, a2.n] at c1 c3
          have cP := c2.ptr aP
          have cT := c2.tap aT
          have o2 := a2.trans c2
          have cw : B 154 5 = -1 := o2.w.trans hw
          rw [if_pos g5, c1, bd2_some]
          generalize hb2 : nxt (N 155) (N 154 2) b1 = b2 at *
          generalize hv : tkV (N 155) (N 154 2) b1 = v at *
          by_cases g6 : isW 0 (N 155) (N 154 2) b2 = true
          · obtain ⟨C, d1, d2, d3⟩ := Mo_takesWord_y hf hL cP cT c3 cw (s := 16) (by decide) (by rw [isW_of, o2.f, o2.n]; exact g6)
            rw [o2.f, o2.n] at d3
            have dP := d2.ptr cP
            have dT := d2.tap cT
            have o3 := o2.trans d2
            have dw : C 154 5 = -1 := o3.w.trans hw
            have d11 : C 154 11 = N 154 11 := o3.many
            have dl := Mo_letter_ok (fu := fu) hL dP dT d3
            rw [if_pos dw, o3.f, o3.n] at dl
            have q9 : C 154 9 = 157 := dP (154, 9, 157) (by decide +kernel)
            rw [if_pos g6, d1, bd2_some, if_neg (show ¬ (1 : Int) = 0 by decide), dl, bd1_some, bd1_some]
            generalize hb3 : nxt (N 155) (N 154 2) b2 = b3 at *
            have b30 := d3.1
            have bad3 : Mo_bad fu L C 154 = some (mu C 154 5 b3) := by rw [Mo_bad_ok hL, if_pos dw, d3.2.2.1]
            have out3 : QOff N (mu C 154 5 b3) ∧ MTok (mu C 154 5 b3) b3 ∧ (mu C 154 5 b3) 154 5 = b3 := ⟨o3.q.bad b3, d3.bad b3, mx_same _ _ _ _⟩
            have dr := Mo_readLife_ok hf hL dP (by omega) (by omega) (mltr (N 155) (N 154 2) b3)
            rw [d11, o3.row (a := 156) (by decide)] at dr
            have hN' := hN
            have l2r := ltr_b (f := N 155) (n := N 154 2) (b := b3)
            -- the parent as the class finds it
            have pr := fnd_r (fun i => N 156 i + 97) (ltr (N 155) (N 154 2) b3) (N 154 11).toNat 0
            generalize hp : fnd (fun i => N 156 i + 97) (ltr (N 155) (N 154 2) b3) (N 154 11).toNat 0 = p at *
            have bad75 : ∀ y : Int, Mo_readsPiece_b75 fu L C 154 (c - 97) v (-1) = some (mu C 154 5 b3) := fun _ => by
              unfold Mo_readsPiece_b75
              rw [if_pos rfl, l4, if_pos rfl, bad3, bd1_some, Mo_b105_n hL (by omega)]
            by_cases gm : mltr (N 155) (N 154 2) b3 = -1
            · have hp1 : p = -1 := by
                rw [← hp]
                refine fnd_none _ 0 (fun j j1 j2 => ?_)
                have hj := hN j j1 (by omega)
                show N 156 j + 97 ≠ _
                unfold mltr at gm
                by_cases gx : ltr (N 155) (N 154 2) b3 = 0 ∨ 104 < ltr (N 155) (N 154 2) b3
                · omega
                · rw [if_neg gx] at gm
                  have := l2r (by omega)
                  omega
              rw [if_pos gm, if_neg (show ¬ (0 ≤ p ∧ 13 ≤ N 157 p - v) by omega), bad75 0]
              exact ⟨_, out3.1, out3.2.1, Or.inl ⟨rfl, out3.2.2, rfl⟩⟩
            · have gx : mltr (N 155) (N 154 2) b3 = ltr (N 155) (N 154 2) b3 - 97 := by
                unfold mltr at gm ⊢
                by_cases gx : ltr (N 155) (N 154 2) b3 = 0 ∨ 104 < ltr (N 155) (N 154 2) b3
                · rw [if_pos gx] at gm; exact absurd rfl gm
                · rw [if_neg gx]
              rw [gx, fnd_m, hp] at dr
              rw [if_neg gm, gx, dr, bd1_some]
              by_cases gp : p = -1
              · rw [if_neg (show ¬ (0 ≤ p ∧ 13 ≤ N 157 p - v) by omega), gp, bad75 0]
                exact ⟨_, out3.1, out3.2.1, Or.inl ⟨rfl, out3.2.2, rfl⟩⟩
              · have hpa := hA p (by omega) (by omega)
                unfold Mo_readsPiece_b75
                rw [if_neg gp, l4, if_pos rfl, q9, l7, if_pos rfl, if_pos (show 0 ≤ p ∧ p < ((101, 8) : Int × Int).2 by show 0 ≤ p ∧ p < 8; omega), o3.row (a := 157) (by decide), w32_id (by omega)]
                by_cases g7 : N 157 p - v < 13
                · rw [if_pos g7, bad3, bd1_some, Mo_b105_n hL (by omega), if_neg (show ¬ (0 ≤ p ∧ 13 ≤ N 157 p - v) by omega)]
                  exact ⟨_, out3.1, out3.2.1, Or.inl ⟨rfl, out3.2.2, rfl⟩⟩
                · obtain ⟨D, e1, e2, e3⟩ := Mo_step hf hL dP dT d3
                  rw [o3.f, o3.n] at e3
                  have o4 := o3.trans e2
                  rw [if_neg g7, e1, bd1_some, Mo_b105_y hL (e2.ptr dP) (o4.w.trans hw) (by rw [o4.many]; exact h0) (by rw [o4.many]; omega), if_pos (show 0 ≤ p ∧ 13 ≤ N 157 p - v by omega)]
                  exact ⟨D, o4.q, e3, Or.inr ⟨rfl, by omega, o4.w.trans hw, rfl⟩⟩
          · rw [if_neg g6, Mo_takesWord_n hf hL cP cT c3 (s := 16) (by decide) (fun z => g6 (by have := z.2; rw [isW_of, o2.f, o2.n] at this; exact this)), bd2_some, if_pos rfl, Mo_b105_y hL cP cw (by rw [o2.many]; exact h0) (by rw [o2.many]; omega)]
            exact ⟨B, o2.q, c3, Or.inr ⟨rfl, by omega, cw, rfl⟩⟩
        · have hn := Mo_takesNumber_n (fu := fu) hL aT a3 (m := 99) (fun z => g5 (by have := z.2; rw [a2.f, a2.n] at this; exact this))
          rw [if_pos aw] at hn
          have aw2 : (mu A 154 5 b1) 154 5 = b1 := mx_same _ _ _ _
          rw [if_neg g5, hn, bd2_some, Mo_takesWord_n hf hL (ptr_bad aP b1) (aT.bad b1) (a3.bad b1) (s := 16) (by decide) (fun z => by have := z.1; omega), bd2_some, if_pos rfl, Mo_b105_n hL (by omega)]
          exact ⟨_, a2.q.bad b1, a3.bad b1, Or.inl ⟨rfl, aw2, rfl⟩⟩
      · rw [if_neg g4, bd1_some, if_neg (fun z => g4 z.2.2.2)]
        exact ⟨_, out0.1, out0.2.1, Or.inl ⟨rfl, out0.2.2, rfl⟩⟩
