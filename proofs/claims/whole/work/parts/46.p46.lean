/-! ===== pure: part 46 ===== -/
theorem Mo_isWord_0 {fu : Nat} {L : zL} {M : zM} (n : Nat) (s : Nat) (j : Int) : Mo_isWord_l40 fu L (n + 1) M 154 s 0 j = some 0 := by
  show Mo_isWord_s40 _ _ _ _ _ _ _ _ = _
  unfold Mo_isWord_s40
  rw [if_pos rfl, if_pos (by decide)]
theorem Mo_isWord_l {fu : Nat} {L : zL} {M : zM} (hL : Lay L) (hP : Ptr M) (hT : TapM M) {b : Int} (hb : MTok M b) {s : Nat} (hs : s < zstr.length) (hl : b + ((zstr.getD s []).length : Int) ≤ M 154 2) : ∀ (k n j : Nat), j + k = (zstr.getD s []).length → k + 1 < n → Mo_isWord_l40 fu L n M 154 s 1 (j : Int) = some (if eqs (M 155) (b + j) ((zstr.getD s []).drop j) = true then 1 else 0)
  | 0, n + 1, j, hj, hn => by
    show Mo_isWord_s40 _ _ _ _ _ _ _ _ = _
    unfold Mo_isWord_s40
    rw [if_neg (by decide), St_len hs, bd1_some, if_neg (by omega), List.drop_eq_nil_of_le (by omega), if_pos (by decide)]
    rfl
  | k + 1, n + 1, j, hj, hn => by
    have l4 : L 154 = (13, 0) := hL 154 (by decide)
    have l5 : L 155 = (101, 300) := hL 155 (by decide)
    have p : M 154 1 = 155 := hP (154, 1, 155) (by decide +kernel)
    have t1 := hT.2.1
    have b0 := hb.1
    have hlt := zstr_len s hs
    show Mo_isWord_s40 _ _ _ _ _ _ _ _ = _
    unfold Mo_isWord_s40
    rw [if_neg (by decide), St_len hs, bd1_some, if_pos (by omega), l4, if_pos rfl, p, l5, if_pos rfl, hb.2.2.1, w32_id (by omega), if_pos (by show 0 ≤ b + (j : Int) ∧ b + (j : Int) < 300; omega), St_at hs (by omega), bd1_some, dropN_get (by omega)]
    have ih := Mo_isWord_l (fu := fu) hL hP hT hb hs hl k n (j + 1) (by omega) (by omega)
    have e1 : ((j + 1 : Nat) : Int) = (j : Int) + 1 := by omega
    rw [e1, show b + ((j : Int) + 1) = b + j + 1 by omega] at ih
    unfold eqs
    by_cases hc : M 155 (b + j) = (((zstr.getD s []).getD j 0 : Nat) : Int)
    · rw [if_pos hc, lt1_def, w32_id (by omega), ih, decide_eq_true hc, Bool.true_and]
    · obtain ⟨n', rfl⟩ : ∃ n', n = n' + 1 := ⟨n - 1, by omega⟩
      rw [if_neg hc, lt1_def, Mo_isWord_0, decide_eq_false hc, Bool.false_and, if_neg (by decide)]
theorem Mo_isWord_ok {fu : Nat} (hf : 400 ≤ fu) {L : zL} {M : zM} (hL : Lay L) (hP : Ptr M) (hT : TapM M) {b : Int} (hb : MTok M b) {s : Nat} (hs : s < zstr.length) : Mo_isWord fu L M 154 s = some (if M 154 5 = -1 ∧ isW s (M 155) (M 154 2) b = true then 1 else 0) := by
  have l4 : L 154 = (13, 0) := hL 154 (by decide)
  have t1 := hT.2.1
  obtain ⟨b0, b1, b2, b3, b4, b5⟩ := hb
  have e0 := tkE_ge (f := M 155) b1
  have e1 := tkE_le (f := M 155) b1
  have hlt := zstr_len s hs
  obtain ⟨q, rfl⟩ : ∃ q, fu = q + 1 := ⟨fu - 1, by omega⟩
  unfold Mo_isWord isW
  rw [l4, if_pos rfl, b3]
  by_cases hw : M 154 5 = -1
  · rw [if_pos hw]
    by_cases hk : tkK (M 155) (M 154 2) b = 1
    · rw [if_pos hk, decide_eq_true hk, Bool.true_and, St_len hs, bd1_some, b4, b2, w32_id (by omega)]
      by_cases he : tkE (M 155) (M 154 2) b - b = ((zstr.getD s []).length : Int)
      · rw [if_pos he, decide_eq_true he, Bool.true_and]
        have h := Mo_isWord_l (fu := q + 1) hL hP hT ⟨b0, b1, b2, b3, b4, b5⟩ hs (by omega) (zstr.getD s []).length (q + 1) 0 (by omega) (by omega)
        rw [List.drop_zero] at h
        have e9 : b + ((0 : Nat) : Int) = b := by omega
        rw [e9] at h
        refine h.trans ?_
        by_cases hq : eqs (M 155) b (zstr.getD s []) = true
        · rw [if_pos hq, if_pos ⟨hw, hq⟩]
        · rw [if_neg hq, if_neg (fun z => hq z.2)]
      · rw [if_neg he, decide_eq_false he, Bool.false_and, Mo_isWord_0, if_neg (fun z => absurd z.2 (by decide))]
    · rw [if_neg hk, decide_eq_false hk, Bool.false_and, Mo_isWord_0, if_neg (fun z => absurd z.2 (by decide))]
  · rw [if_neg hw, Mo_isWord_0, if_neg (fun z => hw z.1)]
/-! signs, numbers, the end -/
def isG (c : Int) (f : Int → Int) (n b : Int) : Bool := decide (tkK f n b = 3 ∧ f b = c)
theorem tkK_lt {f : Int → Int} {n b : Int} (h : tkK f n b ≠ 0) : b < n := by
  unfold tkK at h
  by_cases hb : b < n
  · exact hb
  · rw [if_neg hb] at h; exact absurd rfl h
theorem Tp_isSign_ok {fu : Nat} {L : zL} {M : zM} (hL : Lay L) (hP : Ptr M) (hT : TapC M) {b : Int} (hb : CTok M b) (c : Int) : Tp_isSign fu L M 2 c = some (if isG c (M 3) (M 2 2) b = true then 1 else 0) := by
  have l2 : L 2 = (8, 0) := hL 2 (by decide)
  obtain ⟨b0, b1, b2, b3, b4, b5⟩ := hb
  unfold Tp_isSign isG
  rw [l2, if_pos rfl, b3, b2]
  by_cases hk : tkK (M 3) (M 2 2) b = 3
  · have hlt := tkK_lt (f := M 3) (n := M 2 2) (b := b) (by omega)
    rw [if_pos hk, Tp_at_ok hL hP hT.2.1 b0, bd1_some, if_pos hlt]
    by_cases hc : M 3 b = c
    · rw [if_pos hc, if_pos (decide_eq_true ⟨hk, hc⟩)]
    · rw [if_neg hc, if_neg (fun z => hc (of_decide_eq_true z).2)]
  · rw [if_neg hk, if_neg (fun z => hk (of_decide_eq_true z).1)]
theorem Mo_isSign_ok {fu : Nat} {L : zL} {M : zM} (hL : Lay L) (hP : Ptr M) (hT : TapM M) {b : Int} (hb : MTok M b) (c : Int) : Mo_isSign fu L M 154 c = some (if M 154 5 = -1 ∧ isG c (M 155) (M 154 2) b = true then 1 else 0) := by
  have l4 : L 154 = (13, 0) := hL 154 (by decide)
  have l5 : L 155 = (101, 300) := hL 155 (by decide)
  have p : M 154 1 = 155 := hP (154, 1, 155) (by decide +kernel)
  have t1 := hT.2.1
  obtain ⟨b0, b1, b2, b3, b4, b5⟩ := hb
  unfold Mo_isSign isG
  rw [l4, if_pos rfl, b3, b2]
  by_cases hw : M 154 5 = -1
  · rw [if_pos hw]
    by_cases hk : tkK (M 155) (M 154 2) b = 3
    · have hlt := tkK_lt (f := M 155) (n := M 154 2) (b := b) (by omega)
      rw [if_pos hk, p, l5, if_pos rfl, if_pos (by show 0 ≤ b ∧ b < 300; omega)]
      by_cases hc : M 155 b = c
      · rw [if_pos hc, if_pos ⟨hw, decide_eq_true ⟨hk, hc⟩⟩]
      · rw [if_neg hc, if_neg (fun z => hc (of_decide_eq_true z.2).2)]
    · rw [if_neg hk, if_neg (fun z => hk (of_decide_eq_true z.2).1)]
  · rw [if_neg hw, if_neg (fun z => hw z.1)]
theorem Tp_isOver_ok {fu : Nat} {L : zL} {M : zM} (hL : Lay L) {b : Int} (hb : CTok M b) : Tp_isOver fu L M 2 = some (if tkK (M 3) (M 2 2) b = 0 then 1 else 0) := by
  have l2 : L 2 = (8, 0) := hL 2 (by decide)
  unfold Tp_isOver
  rw [l2, if_pos rfl, hb.2.2.2.1]
  split <;> rfl
/-- a number of at most three digits between 0 and m -/
def isN (m : Int) (f : Int → Int) (n b : Int) : Bool := decide (tkK f n b = 2 ∧ tkE f n b - b ≤ 3 ∧ tkV f n b ≤ m)
theorem tkV_b {f : Int → Int} {n b : Int} (hk : tkK f n b = 2) (h3 : tkE f n b - b ≤ 3) : 0 ≤ tkV f n b ∧ tkV f n b ≤ 999 := by
  have hlt := tkK_lt (f := f) (n := n) (b := b) (by omega)
  have e0 := tkE_ge (f := f) (n := n) (b := b) (by omega)
  unfold tkV
  refine dv_b (tkE f n b - b).toNat b 0 (by omega) (by omega) (fun j h1 h2 => ?_)
  unfold tkK at hk
  rw [if_pos hlt] at hk
  by_cases hs : isS (f b) = true
  · rw [if_pos hs] at hk; exact absurd hk (by decide)
  · rw [if_neg hs] at hk
    by_cases hd : isD (f b) = true
    · have hE : tkE f n b = wh isD f n 301 b := by unfold tkE; rw [if_pos hlt, if_neg hs, if_pos hd]
      rw [hE] at h2 e0
      exact of_decide_eq_true (wh_in isD f n 301 b j h1 (by omega)).2
    · rw [if_neg hd] at hk; exact absurd hk (by decide)
theorem Tp_isNumber_ok {fu : Nat} {L : zL} {M : zM} (hL : Lay L) {b : Int} (hb : CTok M b) {m : Int} (hm : 0 ≤ m) : Tp_isNumber fu L M 2 0 m = some (if isN m (M 3) (M 2 2) b = true then 1 else 0) ∧ (isN m (M 3) (M 2 2) b = true → M 2 7 = tkV (M 3) (M 2 2) b) := by
  have l2 : L 2 = (8, 0) := hL 2 (by decide)
  obtain ⟨b0, b1, b2, b3, b4, b5⟩ := hb
  unfold Tp_isNumber isN
  rw [l2, if_pos rfl, b3]
  by_cases hk : tkK (M 3) (M 2 2) b = 2
  · rw [if_pos hk]
    by_cases h3 : tkE (M 3) (M 2 2) b - b ≤ 3
    · have hv := tkV_b hk h3
      have b6 : M 2 7 = tkV (M 3) (M 2 2) b := by rw [b5, if_pos ⟨hk, h3⟩]
      rw [b6, if_neg (by omega)]
      by_cases hc : m < tkV (M 3) (M 2 2) b
      · rw [if_pos hc, if_neg (fun z => by have := (of_decide_eq_true z).2.2; omega)]
        exact ⟨rfl, fun _ => rfl⟩
      · rw [if_neg hc, if_pos (decide_eq_true ⟨hk, h3, by omega⟩)]
        exact ⟨rfl, fun _ => rfl⟩
    · have b6 : M 2 7 = -1 := by rw [b5, if_neg (fun z => h3 z.2)]
      rw [b6, if_pos (by decide), if_neg (fun z => h3 (of_decide_eq_true z).2.1)]
      exact ⟨rfl, fun z => absurd (of_decide_eq_true z).2.1 h3⟩
  · rw [if_neg hk, if_neg (fun z => hk (of_decide_eq_true z).1)]
    exact ⟨rfl, fun z => absurd (of_decide_eq_true z).1 hk⟩
