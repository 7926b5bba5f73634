/-! ===== pure: part 43 ===== -/
/-- the number that the bytes from i on make, k of them, onto x -/
def dv (f : Int → Int) : Nat → Int → Int → Int
  | 0, _, x => x
  | k + 1, i, x => dv f k (i + 1) (x * 10 + f i - 48)
theorem dv_b {f : Int → Int} : ∀ (k : Nat) (i x : Int), 0 ≤ x → ((k = 3 → x ≤ 0) ∧ (k = 2 → x ≤ 9) ∧ (k = 1 → x ≤ 99) ∧ (k = 0 → x ≤ 999) ∧ k ≤ 3) → (∀ j, i ≤ j → j < i + k → 48 ≤ f j ∧ f j ≤ 57) → 0 ≤ dv f k i x ∧ dv f k i x ≤ 999
  | 0, i, x, h0, h, _ => ⟨h0, h.2.2.2.1 rfl⟩
  | k + 1, i, x, h0, h, hj => by
    have hi := hj i (by omega) (by omega)
    exact dv_b k (i + 1) (x * 10 + f i - 48) (by omega) (by omega) (fun j h1 h2 => hj j (by omega) (by omega))
theorem dv_congr {f g : Int → Int} : ∀ (k : Nat) (i x : Int), (∀ j, i ≤ j → j < i + k → f j = g j) → dv f k i x = dv g k i x
  | 0, _, _, _ => rfl
  | k + 1, i, x, h => by
    unfold dv
    rw [h i (by omega) (by omega)]
    exact dv_congr k (i + 1) _ (fun j h1 h2 => h j (by omega) (by omega))
theorem Tp_valueOf_l {fu : Nat} {L : zL} {M : zM} (hL : Lay L) (hP : Ptr M) (h1 : M 2 2 ≤ 300) {t : Int} (ht : t ≤ M 2 2) : ∀ (k n : Nat) (i x : Int), 0 ≤ i → t - i = k → k < n → 0 ≤ x → ((k = 3 → x ≤ 0) ∧ (k = 2 → x ≤ 9) ∧ (k = 1 → x ≤ 99) ∧ (k = 0 → x ≤ 999) ∧ k ≤ 3) → (∀ j, i ≤ j → j < t → 48 ≤ M 3 j ∧ M 3 j ≤ 57) → Tp_valueOf_l5 fu L n M 2 t x i = some (dv (M 3) k i x)
  | 0, n + 1, i, x, h0, hk, hn, _, _, _ => by
    show Tp_valueOf_s5 _ _ _ _ _ _ _ _ = _
    unfold Tp_valueOf_s5
    rw [if_neg (by omega)]
    rfl
  | k + 1, n + 1, i, x, h0, hk, hn, hx, h3, hj => by
    have l2 : L 2 = (8, 0) := hL 2 (by decide)
    have hi := hj i (by omega) (by omega)
    show Tp_valueOf_s5 _ _ _ _ _ _ _ _ = _
    unfold Tp_valueOf_s5
    rw [if_pos (by omega), l2, if_pos rfl, Tp_at_ok hL hP h1 h0, bd1_some, if_pos (by omega), lt1_def, lt1_def]
    simp (disch := omega) only [w32_id]
    exact Tp_valueOf_l hL hP h1 ht k n (i + 1) _ (by omega) (by omega) (by omega) (by omega) (by omega) (fun j h1 h2 => hj j (by omega) h2)
/-! the part of the tape that stands at p: its begin, its kind, its end, its number -/
def tkB (f : Int → Int) (n p : Int) : Int := wh isB f n 301 p
def tkK (f : Int → Int) (n b : Int) : Int := if b < n then (if isS (f b) = true then 1 else if isD (f b) = true then 2 else 3) else 0
def tkE (f : Int → Int) (n b : Int) : Int := if b < n then (if isS (f b) = true then wh isS f n 301 b else if isD (f b) = true then wh isD f n 301 b else b + 1) else b
def tkV (f : Int → Int) (n b : Int) : Int := dv f (tkE f n b - b).toNat b 0
/-- a tape at 2 with its bytes at 3 -/
def TapC (M : zM) : Prop := 0 ≤ M 2 2 ∧ M 2 2 ≤ 300 ∧ ∀ i, 0 ≤ i → i < M 2 2 → 1 ≤ M 3 i ∧ M 3 i ≤ 255
theorem Tp_advance_ok {fu : Nat} (hf : 400 ≤ fu) {L : zL} {M : zM} (hL : Lay L) (hP : Ptr M) (hT : TapC M) (h0 : 0 ≤ M 2 6) (h6 : M 2 6 ≤ M 2 2) : ∃ M', Tp_advance fu L M 2 = some M' ∧ M' 2 5 = tkB (M 3) (M 2 2) (M 2 6) ∧ M' 2 4 = tkK (M 3) (M 2 2) (M' 2 5) ∧ M' 2 6 = tkE (M 3) (M 2 2) (M' 2 5) ∧ M' 2 7 = (if M' 2 4 = 2 ∧ M' 2 6 - M' 2 5 ≤ 3 then tkV (M 3) (M 2 2) (M' 2 5) else -1) ∧ ∀ a i, (a ≠ 2 ∨ i < 4 ∨ 7 < i) → M' a i = M a i := by
  obtain ⟨t0, t1, t2⟩ := hT
  have l2 : L 2 = (8, 0) := hL 2 (by decide)
  have hB : Tp_pastBlanks fu L M 2 (M 2 6) = some (tkB (M 3) (M 2 2) (M 2 6)) := Tp_pastBlanks_l hL hP t1 fu 301 (M 2 6) h0 (by omega) (by omega) (by omega)
  have b0 : M 2 6 ≤ tkB (M 3) (M 2 2) (M 2 6) := wh_ge _ _ _ _ _
  have b1 : tkB (M 3) (M 2 2) (M 2 6) ≤ M 2 2 := wh_le _ _ _ _ _ h6
  unfold Tp_advance
  rw [l2, if_pos rfl, hB, bd1_some]
  generalize tkB (M 3) (M 2 2) (M 2 6) = b at *
  simp only [lt1_def]
  have hoff : ∀ (N : zM) (i v : Int), (4 ≤ i ∧ i ≤ 7) → (∀ a j, (a ≠ 2 ∨ j < 4 ∨ 7 < j) → N a j = M a j) → ∀ a j, (a ≠ 2 ∨ j < 4 ∨ 7 < j) → mu N 2 i v a j = M a j := fun N i v hi hN a j ha => by
    rw [mx_ne (by omega)]; exact hN a j ha
  have o1 := hoff M 5 b (by omega) (fun a j _ => rfl)
  have o2 := hoff _ 7 (-1) (by omega) o1
  have hPn : ∀ {N : zM}, (∀ a j, (a ≠ 2 ∨ j < 4 ∨ 7 < j) → N a j = M a j) → Ptr N := fun hN q hq => by
    have h9 : ∀ q ∈ zPt, (q.1 : Int) ≠ 2 ∨ (q.2.1 : Int) < 4 ∨ 7 < (q.2.1 : Int) := by decide +kernel
    rw [hN _ _ (h9 q hq)]
    exact hP q hq
  have e5 : mu (mu M 2 5 b) 2 7 (-1) 2 5 = b := by rw [mx_ne (by omega), mx_same]
  have e22 : ∀ {N : zM}, (∀ a j, (a ≠ 2 ∨ j < 4 ∨ 7 < j) → N a j = M a j) → N 2 2 = M 2 2 := fun hN => hN 2 2 (by omega)
  have e3 : ∀ {N : zM}, (∀ a j, (a ≠ 2 ∨ j < 4 ∨ 7 < j) → N a j = M a j) → N 3 = M 3 := fun hN => funext fun j => hN 3 j (by omega)
  rw [e5, Tp_at_ok hL (hPn o2) (by rw [e22 o2]; exact t1) (by omega), bd1_some, e22 o2, e3 o2]
  by_cases hb : b < M 2 2
  · have hbyte := t2 b (by omega) hb
    rw [if_pos hb, if_neg (by omega), Tp_isLetter_ok, bd1_some]
    by_cases hs : isS (M 3 b) = true
    · rw [if_pos hs, if_neg (by decide)]
      have o3 := hoff _ 4 1 (by omega) o2
      have e5' : mu (mu (mu M 2 5 b) 2 7 (-1)) 2 4 1 2 5 = b := by rw [mx_ne (by omega), e5]
      have hw : Tp_pastLetters fu L (mu (mu (mu M 2 5 b) 2 7 (-1)) 2 4 1) 2 b = some (wh isS (M 3) (M 2 2) 301 b) := by
        have := Tp_pastLetters_l (fu := fu) hL (hPn o3) (by rw [e22 o3]; exact t1) fu 301 b (by omega) (by omega) (by rw [e22 o3]; omega) (by omega)
        rw [e22 o3, e3 o3] at this
        exact this
      rw [e5', hw, bd1_some]
      have ex : ∀ z : Int, mu (mu (mu (mu M 2 5 b) 2 7 (-1)) 2 4 1) 2 6 z 2 5 = b := fun z => by rw [mx_ne (by omega), e5']
      refine ⟨_, rfl, ex _, ?_, ?_, ?_, hoff _ 6 _ (by omega) o3⟩
      · rw [ex, mx_ne (by omega), mx_same]; unfold tkK; rw [if_pos hb, if_pos hs]
      · rw [ex, mx_same]; unfold tkE; rw [if_pos hb, if_pos hs]
      · rw [if_neg]
        · rw [mx_ne (by omega), mx_ne (by omega), mx_same]
        · rw [mx_ne (by omega), mx_same]; exact fun q => absurd q.1 (by decide)
    · rw [if_neg hs, if_pos rfl, Tp_isDigit_ok, bd1_some]
      by_cases hd : isD (M 3 b) = true
      · rw [if_pos hd, if_neg (by decide)]
        have o3 := hoff _ 4 2 (by omega) o2
        have e5' : mu (mu (mu M 2 5 b) 2 7 (-1)) 2 4 2 2 5 = b := by rw [mx_ne (by omega), e5]
        have hw : Tp_pastDigits fu L (mu (mu (mu M 2 5 b) 2 7 (-1)) 2 4 2) 2 b = some (wh isD (M 3) (M 2 2) 301 b) := by
          have := Tp_pastDigits_l (fu := fu) hL (hPn o3) (by rw [e22 o3]; exact t1) fu 301 b (by omega) (by omega) (by rw [e22 o3]; omega) (by omega)
          rw [e22 o3, e3 o3] at this
          exact this
        have w0 : b ≤ wh isD (M 3) (M 2 2) 301 b := wh_ge _ _ _ _ _
        have w1 : wh isD (M 3) (M 2 2) 301 b ≤ M 2 2 := wh_le _ _ _ _ _ (by omega)
        have w2 : ∀ j, b ≤ j → j < wh isD (M 3) (M 2 2) 301 b → 48 ≤ M 3 j ∧ M 3 j ≤ 57 := fun j h1 h2 => of_decide_eq_true (wh_in isD (M 3) (M 2 2) 301 b j h1 h2).2
        have tE : tkE (M 3) (M 2 2) b = wh isD (M 3) (M 2 2) 301 b := by unfold tkE; rw [if_pos hb, if_neg hs, if_pos hd]
        have tK : tkK (M 3) (M 2 2) b = 2 := by unfold tkK; rw [if_pos hb, if_neg hs, if_pos hd]
        rw [e5', hw, bd1_some]
        rw [← tE] at w0 w1 w2 ⊢
        generalize hE : tkE (M 3) (M 2 2) b = E at *
        have ex : mu (mu (mu (mu M 2 5 b) 2 7 (-1)) 2 4 2) 2 6 E 2 5 = b := by rw [mx_ne (by omega), e5']
        have ex6 : mu (mu (mu (mu M 2 5 b) 2 7 (-1)) 2 4 2) 2 6 E 2 6 = E := mx_same _ _ _ _
        have ex4 : mu (mu (mu (mu M 2 5 b) 2 7 (-1)) 2 4 2) 2 6 E 2 4 = 2 := by rw [mx_ne (by omega), mx_same]
        have o4 := hoff _ 6 E (by omega) o3
        generalize mu (mu (mu (mu M 2 5 b) 2 7 (-1)) 2 4 2) 2 6 E = N at *
        rw [ex, ex6, w32_id (by omega)]
        by_cases h3 : 3 < E - b
        · rw [if_pos h3]
          have y5 : mu N 2 7 (-1) 2 5 = b := by rw [mx_ne (by omega), ex]
          have y4 : mu N 2 7 (-1) 2 4 = 2 := by rw [mx_ne (by omega), ex4]
          have y6 : mu N 2 7 (-1) 2 6 = E := by rw [mx_ne (by omega), ex6]
          refine ⟨_, rfl, y5, ?_, ?_, ?_, hoff _ 7 _ (by omega) o4⟩
          · rw [y5, y4, tK]
          · rw [y5, y6, hE]
          · rw [mx_same, if_neg]
            rw [y5, y6]
            exact fun q => absurd q.2 (by omega)
        · have hv : Tp_valueOf fu L N 2 b E = some (dv (M 3) (E - b).toNat b 0) := by
            have := Tp_valueOf_l (fu := fu) hL (hPn o4) (by rw [e22 o4]; exact t1) (t := E) (by rw [e22 o4]; exact w1) (E - b).toNat fu b 0 (by omega) (by omega) (by omega) (by omega) (by omega) (by rw [e3 o4]; exact w2)
            rw [e3 o4] at this
            exact this
          rw [if_neg h3, hv, bd1_some]
          generalize hv9 : dv (M 3) (E - b).toNat b 0 = v9
          have y5 : mu N 2 7 v9 2 5 = b := by rw [mx_ne (by omega), ex]
          have y4 : mu N 2 7 v9 2 4 = 2 := by rw [mx_ne (by omega), ex4]
          have y6 : mu N 2 7 v9 2 6 = E := by rw [mx_ne (by omega), ex6]
          refine ⟨_, rfl, y5, ?_, ?_, ?_, hoff _ 7 _ (by omega) o4⟩
          · rw [y5, y4, tK]
          · rw [y5, y6, hE]
          · rw [mx_same, if_pos]
            · rw [y5, ← hv9]; unfold tkV; rw [hE]
            · rw [y4, y5, y6]; omega
      · rw [if_neg hd, if_pos rfl]
        have e5' : mu (mu (mu M 2 5 b) 2 7 (-1)) 2 4 3 2 5 = b := by rw [mx_ne (by omega), e5]
        have o3 := hoff _ 4 3 (by omega) o2
        rw [e5', w32_id (by omega)]
        have ex : mu (mu (mu (mu M 2 5 b) 2 7 (-1)) 2 4 3) 2 6 (b + 1) 2 5 = b := by rw [mx_ne (by omega), e5']
        refine ⟨_, rfl, ex, ?_, ?_, ?_, hoff _ 6 _ (by omega) o3⟩
        · rw [ex, mx_ne (by omega), mx_same]; unfold tkK; rw [if_pos hb, if_neg hs, if_neg hd]
        · rw [ex, mx_same]; unfold tkE; rw [if_pos hb, if_neg hs, if_neg hd]
        · rw [if_neg]
          · rw [mx_ne (by omega), mx_ne (by omega), mx_same]
          · rw [mx_ne (by omega), mx_same]; exact fun q => absurd q.1 (by decide)
  · rw [if_neg hb, if_pos rfl]
    have e5' : mu (mu (mu M 2 5 b) 2 7 (-1)) 2 4 0 2 5 = b := by rw [mx_ne (by omega), e5]
    have o3 := hoff _ 4 0 (by omega) o2
    rw [e5']
    have ex : mu (mu (mu (mu M 2 5 b) 2 7 (-1)) 2 4 0) 2 6 b 2 5 = b := by rw [mx_ne (by omega), e5']
    refine ⟨_, rfl, ex, ?_, ?_, ?_, hoff _ 6 _ (by omega) o3⟩
    · rw [ex, mx_ne (by omega), mx_same]; unfold tkK; rw [if_neg hb]
    · rw [ex, mx_same]; unfold tkE; rw [if_neg hb]
    · rw [if_neg]
      · rw [mx_ne (by omega), mx_ne (by omega), mx_same]
      · rw [mx_ne (by omega), mx_same]; exact fun q => absurd q.1 (by decide)
