/-! ===== pure: part 45 ===== -/
/-! ===== pure: what stands on the tape, asked by both ===== -/
theorem tkE_ge {f : Int → Int} {n b : Int} (h : b ≤ n) : b ≤ tkE f n b := by
  unfold tkE
  by_cases hb : b < n
  · rw [if_pos hb]
    split
    · exact wh_ge _ _ _ _ _
    · split
      · exact wh_ge _ _ _ _ _
      · omega
  · rw [if_neg hb]; exact Int.le_refl b
theorem tkE_le {f : Int → Int} {n b : Int} (h : b ≤ n) : tkE f n b ≤ n := by
  unfold tkE
  by_cases hb : b < n
  · rw [if_pos hb]
    split
    · exact wh_le _ _ _ _ _ h
    · split
      · exact wh_le _ _ _ _ _ h
      · omega
  · rw [if_neg hb]; exact h
theorem tkB_ge {f : Int → Int} {n p : Int} : p ≤ tkB f n p := wh_ge _ _ _ _ _
theorem tkB_le {f : Int → Int} {n p : Int} (h : p ≤ n) : tkB f n p ≤ n := wh_le _ _ _ _ _ h
/-- the class's tape stands at b -/
def CTok (M : zM) (b : Int) : Prop := 0 ≤ b ∧ b ≤ M 2 2 ∧ M 2 5 = b ∧ M 2 4 = tkK (M 3) (M 2 2) b ∧ M 2 6 = tkE (M 3) (M 2 2) b ∧ M 2 7 = (if tkK (M 3) (M 2 2) b = 2 ∧ tkE (M 3) (M 2 2) b - b ≤ 3 then tkV (M 3) (M 2 2) b else -1)
def MTok (M : zM) (b : Int) : Prop := 0 ≤ b ∧ b ≤ M 154 2 ∧ M 154 4 = b ∧ M 154 6 = tkK (M 155) (M 154 2) b ∧ M 154 3 = tkE (M 155) (M 154 2) b ∧ (0 ≤ M 154 7 ∧ M 154 7 ≤ 1000000) ∧ (tkK (M 155) (M 154 2) b = 2 → tkE (M 155) (M 154 2) b - b ≤ 3 → M 154 7 = tkV (M 155) (M 154 2) b)
/-- the class's scratch fields of the tape -/
def COff (M M' : zM) : Prop := ∀ a i, (a ≠ 2 ∨ i < 4 ∨ 7 < i) → M' a i = M a i
theorem COff.refl (M : zM) : COff M M := fun _ _ _ => rfl
theorem COff.trans {A B C : zM} (h : COff A B) (h2 : COff B C) : COff A C := fun a i q => (h2 a i q).trans (h a i q)
theorem COff.n {M M' : zM} (h : COff M M') : M' 2 2 = M 2 2 := h 2 2 (by omega)
theorem COff.f {M M' : zM} (h : COff M M') : M' 3 = M 3 := funext fun i => h 3 i (by omega)
theorem COff.tap {M M' : zM} (h : COff M M') (hT : TapC M) : TapC M' := by
  unfold TapC
  rw [h.n, h.f]
  exact hT
theorem COff.ptr {M M' : zM} (h : COff M M') (hP : Ptr M) : Ptr M' := fun q hq => by
  have h9 : ∀ q ∈ zPt, (q.1 : Int) ≠ 2 ∨ (q.2.1 : Int) < 4 ∨ 7 < (q.2.1 : Int) := by decide +kernel
  rw [h _ _ (h9 q hq)]
  exact hP q hq
theorem Tp_adv {fu : Nat} (hf : 400 ≤ fu) {L : zL} {M : zM} (hL : Lay L) (hP : Ptr M) (hT : TapC M) (h0 : 0 ≤ M 2 6) (h6 : M 2 6 ≤ M 2 2) : ∃ M', Tp_advance fu L M 2 = some M' ∧ COff M M' ∧ CTok M' (tkB (M 3) (M 2 2) (M 2 6)) := by
  obtain ⟨M', g1, g2, g3, g4, g5, g6⟩ := Tp_advance_ok hf hL hP hT h0 h6
  have o : COff M M' := g6
  refine ⟨M', g1, o, ?_⟩
  rw [g3, g4, g2] at g5
  rw [g2] at g3 g4
  unfold CTok
  rw [o.n, o.f]
  have b0 := tkB_ge (f := M 3) (n := M 2 2) (p := M 2 6)
  exact ⟨by omega, tkB_le h6, g2, g3, g4, g5⟩
theorem Mo_adv {fu : Nat} (hf : 400 ≤ fu) {L : zL} {M : zM} (hL : Lay L) (hP : Ptr M) (hT : TapM M) (h0 : 0 ≤ M 154 3) (h3 : M 154 3 ≤ M 154 2) : ∃ M', Mo_next fu L M 154 = some M' ∧ NOff M M' ∧ MTok M' (tkB (M 155) (M 154 2) (M 154 3)) := by
  obtain ⟨M', g1, o, g2, g3, g4, g5, g6, g7⟩ := Mo_next_ok hf hL hP hT h0 h3
  refine ⟨M', g1, o, ?_⟩
  rw [g3, g4, g2] at g7
  rw [g2] at g3 g4
  unfold MTok
  rw [o.n, o.f]
  have b0 := tkB_ge (f := M 155) (n := M 154 2) (p := M 154 3)
  exact ⟨by omega, tkB_le h3, g2, g3, g4, ⟨g5, g6⟩, g7⟩
def eqs (f : Int → Int) : Int → List Nat → Bool
  | _, [] => true
  | i, c :: cs => decide (f i = (c : Int)) && eqs f (i + 1) cs
/-- the word of place s stands at b -/
def isW (s : Nat) (f : Int → Int) (n b : Int) : Bool := decide (tkK f n b = 1) && (decide (tkE f n b - b = ((zstr.getD s []).length : Int)) && eqs f b (zstr.getD s []))
theorem zstr_len : ∀ s, s < zstr.length → (zstr.getD s []).length < 100 := by decide +kernel
theorem St_len {s : Nat} (h : s < zstr.length) : St_length s = some ((zstr.getD s []).length : Int) := if_pos h
theorem St_at {s j : Nat} (h : s < zstr.length) (hj : j < (zstr.getD s []).length) : St_charAt s (j : Int) = some (((zstr.getD s []).getD j 0 : Nat) : Int) := by
  unfold St_charAt
  rw [if_pos ⟨h, by omega, by omega⟩, Int.toNat_natCast]
theorem dropN_get {l : List Nat} {j : Nat} (h : j < l.length) : l.drop j = l.getD j 0 :: l.drop (j + 1) := by
  rw [List.drop_eq_getElem_cons h, List.getD_eq_getElem?_getD, List.getElem?_eq_getElem h]
  rfl
theorem Tp_isWord_l {fu : Nat} {L : zL} {M : zM} (hL : Lay L) (hP : Ptr M) (hT : TapC M) {b : Int} (hb : CTok M b) {s : Nat} (hs : s < zstr.length) (hl : b + ((zstr.getD s []).length : Int) ≤ M 2 2) : ∀ (k n j : Nat), j + k = (zstr.getD s []).length → k < n → Tp_isWord_l28 fu L n M 2 s (j : Int) = some (if eqs (M 3) (b + j) ((zstr.getD s []).drop j) = true then 1 else 0)
  | 0, n + 1, j, hj, hn => by
    show Tp_isWord_s28 _ _ _ _ _ _ _ = _
    unfold Tp_isWord_s28
    rw [St_len hs, bd1_some, if_neg (by omega), List.drop_eq_nil_of_le (by omega)]
    rfl
  | k + 1, n + 1, j, hj, hn => by
    have l2 : L 2 = (8, 0) := hL 2 (by decide)
    have t1 := hT.2.1
    have b0 := hb.1
    have hlt := zstr_len s hs
    show Tp_isWord_s28 _ _ _ _ _ _ _ = _
    unfold Tp_isWord_s28
    rw [St_len hs, bd1_some, if_pos (by omega), l2, if_pos rfl, hb.2.2.1, w32_id (by omega), Tp_at_ok hL hP t1 (by omega), bd1_some, if_pos (by omega), St_at hs (by omega), bd1_some, dropN_get (by omega)]
    have ih := Tp_isWord_l (fu := fu) hL hP hT hb hs hl k n (j + 1) (by omega) (by omega)
    have e1 : ((j + 1 : Nat) : Int) = (j : Int) + 1 := by omega
    rw [e1, show b + ((j : Int) + 1) = b + j + 1 by omega] at ih
    unfold eqs
    by_cases hc : M 3 (b + j) = (((zstr.getD s []).getD j 0 : Nat) : Int)
    · rw [if_pos hc, lt1_def, w32_id (by omega), ih, decide_eq_true hc, Bool.true_and]
    · rw [if_neg hc, decide_eq_false hc, Bool.false_and, if_neg (by decide)]
theorem Tp_isWord_ok {fu : Nat} (hf : 400 ≤ fu) {L : zL} {M : zM} (hL : Lay L) (hP : Ptr M) (hT : TapC M) {b : Int} (hb : CTok M b) {s : Nat} (hs : s < zstr.length) : Tp_isWord fu L M 2 s = some (if isW s (M 3) (M 2 2) b = true then 1 else 0) := by
  have l2 : L 2 = (8, 0) := hL 2 (by decide)
  have t1 := hT.2.1
  obtain ⟨b0, b1, b2, b3, b4, b5⟩ := hb
  have e0 := tkE_ge (f := M 3) b1
  have e1 := tkE_le (f := M 3) b1
  have hlt := zstr_len s hs
  unfold Tp_isWord isW
  rw [l2, if_pos rfl, b3]
  by_cases hk : tkK (M 3) (M 2 2) b = 1
  · rw [if_pos hk, decide_eq_true hk, Bool.true_and, St_len hs, bd1_some, b4, b2, w32_id (by omega)]
    by_cases he : tkE (M 3) (M 2 2) b - b = ((zstr.getD s []).length : Int)
    · rw [if_pos he, decide_eq_true he, Bool.true_and]
      have h := Tp_isWord_l (fu := fu) hL hP hT ⟨b0, b1, b2, b3, b4, b5⟩ hs (by omega) (zstr.getD s []).length fu 0 (by omega) (by omega)
      rw [List.drop_zero] at h
      have e9 : b + ((0 : Nat) : Int) = b := by omega
      rw [e9] at h
      exact h
    · rw [if_neg he, decide_eq_false he, Bool.false_and, if_neg (by decide)]
  · rw [if_neg hk, decide_eq_false hk, Bool.false_and, if_neg (by decide)]
