/-! ===== pure: part 47 ===== -/
/-! ===== pure: what the model takes ===== -/
/-- where the next part begins -/
def nxt (f : Int → Int) (n b : Int) : Int := tkB f n (tkE f n b)
theorem Mo_step {fu : Nat} (hf : 400 ≤ fu) {L : zL} {M : zM} (hL : Lay L) (hP : Ptr M) (hT : TapM M) {b : Int} (hb : MTok M b) : ∃ M', Mo_next fu L M 154 = some M' ∧ NOff M M' ∧ MTok M' (nxt (M 155) (M 154 2) b) := by
  obtain ⟨b0, b1, b2, b3, b4, b5⟩ := hb
  have e0 := tkE_ge (f := M 155) b1
  have e1 := tkE_le (f := M 155) b1
  have h := Mo_adv hf hL hP hT (by omega) (by omega)
  rw [b4] at h
  exact h
theorem Tp_step {fu : Nat} (hf : 400 ≤ fu) {L : zL} {M : zM} (hL : Lay L) (hP : Ptr M) (hT : TapC M) {b : Int} (hb : CTok M b) : ∃ M', Tp_advance fu L M 2 = some M' ∧ COff M M' ∧ CTok M' (nxt (M 3) (M 2 2) b) := by
  obtain ⟨b0, b1, b2, b3, b4, b5⟩ := hb
  have e0 := tkE_ge (f := M 3) b1
  have e1 := tkE_le (f := M 3) b1
  have h := Tp_adv hf hL hP hT (by omega) (by omega)
  rw [b4] at h
  exact h
theorem Mo_bad_ok {fu : Nat} {L : zL} {M : zM} (hL : Lay L) : Mo_bad fu L M 154 = some (mu M 154 5 (if M 154 5 = -1 then M 154 4 else M 154 5)) := by
  have l4 : L 154 = (13, 0) := hL 154 (by decide)
  unfold Mo_bad
  rw [l4, if_pos rfl]
  by_cases hw : M 154 5 = -1
  · rw [if_pos hw, if_pos hw]; rfl
  · rw [if_neg hw, if_neg hw]; rfl
theorem Mo_takesWord_y {fu : Nat} (hf : 400 ≤ fu) {L : zL} {M : zM} (hL : Lay L) (hP : Ptr M) (hT : TapM M) {b : Int} (hb : MTok M b) (hw : M 154 5 = -1) {s : Nat} (hs : s < zstr.length) (h : isW s (M 155) (M 154 2) b = true) : ∃ M', Mo_takesWord fu L M 154 s = some (M', 1) ∧ NOff M M' ∧ MTok M' (nxt (M 155) (M 154 2) b) := by
  have l4 : L 154 = (13, 0) := hL 154 (by decide)
  obtain ⟨M', g1, g2, g3⟩ := Mo_step hf hL hP hT hb
  refine ⟨M', ?_, g2, g3⟩
  unfold Mo_takesWord
  rw [l4, if_pos rfl, Mo_isWord_ok hf hL hP hT hb hs, if_pos ⟨hw, h⟩, bd1_some, if_neg (by decide), g1, bd1_some]
theorem Mo_takesWord_n {fu : Nat} (hf : 400 ≤ fu) {L : zL} {M : zM} (hL : Lay L) (hP : Ptr M) (hT : TapM M) {b : Int} (hb : MTok M b) {s : Nat} (hs : s < zstr.length) (h : ¬ (M 154 5 = -1 ∧ isW s (M 155) (M 154 2) b = true)) : Mo_takesWord fu L M 154 s = some (M, 0) := by
  have l4 : L 154 = (13, 0) := hL 154 (by decide)
  unfold Mo_takesWord
  rw [l4, if_pos rfl, Mo_isWord_ok hf hL hP hT hb hs, if_neg h, bd1_some, if_pos rfl]
theorem Mo_mustWord_y {fu : Nat} (hf : 400 ≤ fu) {L : zL} {M : zM} (hL : Lay L) (hP : Ptr M) (hT : TapM M) {b : Int} (hb : MTok M b) (hw : M 154 5 = -1) {s : Nat} (hs : s < zstr.length) (h : isW s (M 155) (M 154 2) b = true) : ∃ M', Mo_mustWord fu L M 154 s = some M' ∧ NOff M M' ∧ MTok M' (nxt (M 155) (M 154 2) b) := by
  have l4 : L 154 = (13, 0) := hL 154 (by decide)
  obtain ⟨M', g1, g2, g3⟩ := Mo_takesWord_y hf hL hP hT hb hw hs h
  refine ⟨M', ?_, g2, g3⟩
  unfold Mo_mustWord
  rw [l4, if_pos rfl, g1, bd2_some, if_neg (by decide)]
theorem Mo_mustWord_n {fu : Nat} (hf : 400 ≤ fu) {L : zL} {M : zM} (hL : Lay L) (hP : Ptr M) (hT : TapM M) {b : Int} (hb : MTok M b) {s : Nat} (hs : s < zstr.length) (h : ¬ (M 154 5 = -1 ∧ isW s (M 155) (M 154 2) b = true)) : Mo_mustWord fu L M 154 s = some (mu M 154 5 (if M 154 5 = -1 then b else M 154 5)) := by
  have l4 : L 154 = (13, 0) := hL 154 (by decide)
  unfold Mo_mustWord
  rw [l4, if_pos rfl, Mo_takesWord_n hf hL hP hT hb hs h, bd2_some, if_pos rfl, Mo_bad_ok hL, bd1_some, hb.2.2.1]
theorem Mo_takesSign_y {fu : Nat} (hf : 400 ≤ fu) {L : zL} {M : zM} (hL : Lay L) (hP : Ptr M) (hT : TapM M) {b : Int} (hb : MTok M b) (hw : M 154 5 = -1) {c : Int} (h : isG c (M 155) (M 154 2) b = true) : ∃ M', Mo_takesSign fu L M 154 c = some (M', 1) ∧ NOff M M' ∧ MTok M' (nxt (M 155) (M 154 2) b) := by
  have l4 : L 154 = (13, 0) := hL 154 (by decide)
  obtain ⟨M', g1, g2, g3⟩ := Mo_step hf hL hP hT hb
  refine ⟨M', ?_, g2, g3⟩
  unfold Mo_takesSign
  rw [l4, if_pos rfl, Mo_isSign_ok hL hP hT hb, if_pos ⟨hw, h⟩, bd1_some, if_neg (by decide), g1, bd1_some]
theorem Mo_takesSign_n {fu : Nat} {L : zL} {M : zM} (hL : Lay L) (hP : Ptr M) (hT : TapM M) {b : Int} (hb : MTok M b) {c : Int} (h : ¬ (M 154 5 = -1 ∧ isG c (M 155) (M 154 2) b = true)) : Mo_takesSign fu L M 154 c = some (M, 0) := by
  have l4 : L 154 = (13, 0) := hL 154 (by decide)
  unfold Mo_takesSign
  rw [l4, if_pos rfl, Mo_isSign_ok hL hP hT hb, if_neg h, bd1_some, if_pos rfl]
theorem Mo_takesNumber_y {fu : Nat} (hf : 400 ≤ fu) {L : zL} {M : zM} (hL : Lay L) (hP : Ptr M) (hT : TapM M) {b : Int} (hb : MTok M b) (hw : M 154 5 = -1) {m : Int} (h : isN m (M 155) (M 154 2) b = true) : ∃ M', Mo_takesNumber fu L M 154 m = some (M', tkV (M 155) (M 154 2) b) ∧ NOff M M' ∧ MTok M' (nxt (M 155) (M 154 2) b) := by
  have l4 : L 154 = (13, 0) := hL 154 (by decide)
  have t1 := hT.2.1
  obtain ⟨M', g1, g2, g3⟩ := Mo_step hf hL hP hT hb
  obtain ⟨hk, h3, hm⟩ := of_decide_eq_true h
  obtain ⟨b0, b1, b2, b3, b4, b5, b6⟩ := hb
  have e0 := tkE_ge (f := M 155) b1
  have e1 := tkE_le (f := M 155) b1
  refine ⟨M', ?_, g2, g3⟩
  unfold Mo_takesNumber
  rw [l4, if_pos rfl, if_pos hw, b3, if_pos hk, b4, b2, w32_id (by omega), if_neg (by omega), b6 hk h3, if_neg (by omega), lt1_def, g1, bd1_some]
theorem Mo_takesNumber_n {fu : Nat} {L : zL} {M : zM} (hL : Lay L) (hT : TapM M) {b : Int} (hb : MTok M b) {m : Int} (h : ¬ (M 154 5 = -1 ∧ isN m (M 155) (M 154 2) b = true)) : Mo_takesNumber fu L M 154 m = some (mu M 154 5 (if M 154 5 = -1 then b else M 154 5), 0) := by
  have l4 : L 154 = (13, 0) := hL 154 (by decide)
  have t1 := hT.2.1
  obtain ⟨b0, b1, b2, b3, b4, b5, b6⟩ := hb
  have e0 := tkE_ge (f := M 155) b1
  have e1 := tkE_le (f := M 155) b1
  have hbad : Mo_bad fu L M 154 = some (mu M 154 5 (if M 154 5 = -1 then b else M 154 5)) := by rw [Mo_bad_ok hL, b2]
  unfold Mo_takesNumber
  rw [l4, if_pos rfl, hbad]
  simp only [bd1_some]
  by_cases hw : M 154 5 = -1
  · rw [if_pos hw, b3]
    by_cases hk : tkK (M 155) (M 154 2) b = 2
    · rw [if_pos hk, b4, b2, w32_id (by omega)]
      by_cases h3 : 3 < tkE (M 155) (M 154 2) b - b
      · rw [if_pos h3]
      · rw [if_neg h3, b6 hk (by omega), if_pos]
        by_cases hm : m < tkV (M 155) (M 154 2) b
        · exact hm
        · exact absurd ⟨hw, decide_eq_true ⟨hk, by omega, by omega⟩⟩ h
    · rw [if_neg hk]
  · rw [if_neg hw]
theorem Mo_mustEnd_y {fu : Nat} {L : zL} {M : zM} (hL : Lay L) {b : Int} (hb : MTok M b) (h : M 154 5 ≠ -1 ∨ tkK (M 155) (M 154 2) b = 0) : Mo_mustEnd fu L M 154 = some M := by
  have l4 : L 154 = (13, 0) := hL 154 (by decide)
  unfold Mo_mustEnd
  rw [l4, if_pos rfl, hb.2.2.2.1]
  by_cases hw : M 154 5 = -1
  · rw [if_pos hw, if_pos (by rcases h with h | h; exact absurd hw h; exact h)]
  · rw [if_neg hw]
theorem Mo_mustEnd_n {fu : Nat} {L : zL} {M : zM} (hL : Lay L) {b : Int} (hb : MTok M b) (hw : M 154 5 = -1) (h : tkK (M 155) (M 154 2) b ≠ 0) : Mo_mustEnd fu L M 154 = some (mu M 154 5 b) := by
  have l4 : L 154 = (13, 0) := hL 154 (by decide)
  unfold Mo_mustEnd
  rw [l4, if_pos rfl, hb.2.2.2.1, if_pos hw, if_neg h, Mo_bad_ok hL, bd1_some, if_pos hw, hb.2.2.1]
