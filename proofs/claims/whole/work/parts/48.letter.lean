/-! ===== pure: part 48 ===== -/
/-! ===== pure: letters, and the search of a row ===== -/
def ltr (f : Int → Int) (n b : Int) : Int := if tkK f n b = 1 ∧ tkE f n b - b = 1 then f b else 0
theorem ltr_b {f : Int → Int} {n b : Int} (h : ltr f n b ≠ 0) : tkK f n b = 1 ∧ tkE f n b - b = 1 ∧ 97 ≤ ltr f n b ∧ ltr f n b ≤ 122 ∧ b < n := by
  unfold ltr at h ⊢
  by_cases hk : tkK f n b = 1 ∧ tkE f n b - b = 1
  · rw [if_pos hk] at h ⊢
    have hlt := tkK_lt (f := f) (n := n) (b := b) (by omega)
    have hk1 := hk.1
    unfold tkK at hk1
    rw [if_pos hlt] at hk1
    by_cases hs : isS (f b) = true
    · have := of_decide_eq_true hs
      exact ⟨hk.1, hk.2, this.1, this.2, hlt⟩
    · rw [if_neg hs] at hk1
      by_cases hd : isD (f b) = true
      · rw [if_pos hd] at hk1; exact absurd hk1 (by decide)
      · rw [if_neg hd] at hk1; exact absurd hk1 (by decide)
  · rw [if_neg hk] at h; exact absurd rfl h
theorem Tp_letter_ok {fu : Nat} {L : zL} {M : zM} (hL : Lay L) (hP : Ptr M) (hT : TapC M) {b : Int} (hb : CTok M b) : Tp_letter fu L M 2 = some (ltr (M 3) (M 2 2) b) := by
  have l2 : L 2 = (8, 0) := hL 2 (by decide)
  have t1 := hT.2.1
  obtain ⟨b0, b1, b2, b3, b4, b5⟩ := hb
  have e0 := tkE_ge (f := M 3) b1
  have e1 := tkE_le (f := M 3) b1
  unfold Tp_letter ltr
  rw [l2, if_pos rfl, b3]
  by_cases hk : tkK (M 3) (M 2 2) b = 1
  · have hlt := tkK_lt (f := M 3) (n := M 2 2) (b := b) (by omega)
    rw [if_pos hk, b4, b2, w32_id (by omega)]
    by_cases h1 : tkE (M 3) (M 2 2) b - b = 1
    · rw [if_pos h1, Tp_at_ok hL hP t1 b0, bd1_some, if_pos hlt, if_pos ⟨hk, h1⟩]
    · rw [if_neg h1, if_neg (fun z => h1 z.2)]
  · rw [if_neg hk, if_neg (fun z => hk z.1)]
/-- the model's letter: from 0 to 7, or none -/
def mltr (f : Int → Int) (n b : Int) : Int := if ltr f n b = 0 ∨ 104 < ltr f n b then -1 else ltr f n b - 97
theorem Mo_letter_ok {fu : Nat} {L : zL} {M : zM} (hL : Lay L) (hP : Ptr M) (hT : TapM M) {b : Int} (hb : MTok M b) : Mo_letter fu L M 154 = some (if M 154 5 = -1 then mltr (M 155) (M 154 2) b else -1) := by
  have l4 : L 154 = (13, 0) := hL 154 (by decide)
  have l5 : L 155 = (101, 300) := hL 155 (by decide)
  have p : M 154 1 = 155 := hP (154, 1, 155) (by decide +kernel)
  have t1 := hT.2.1
  obtain ⟨b0, b1, b2, b3, b4, b5⟩ := hb
  have e0 := tkE_ge (f := M 155) b1
  have e1 := tkE_le (f := M 155) b1
  unfold Mo_letter mltr
  rw [l4, if_pos rfl, b3]
  by_cases hw : M 154 5 = -1
  · rw [if_pos hw, if_pos hw]
    by_cases hk : tkK (M 155) (M 154 2) b = 1
    · have hlt := tkK_lt (f := M 155) (n := M 154 2) (b := b) (by omega)
      have hbyte := hT.2.2 b b0 hlt
      rw [if_pos hk, b4, b2, w32_id (by omega)]
      by_cases h1 : tkE (M 155) (M 154 2) b - b = 1
      · have hl : ltr (M 155) (M 154 2) b = M 155 b := by unfold ltr; rw [if_pos ⟨hk, h1⟩]
        rw [if_pos h1, p, l5, if_pos rfl, if_pos (by show 0 ≤ b ∧ b < 300; omega), hl]
        by_cases hc : 104 < M 155 b
        · rw [if_pos hc, if_pos (Or.inr hc)]
        · rw [if_neg hc, if_pos (by show 0 ≤ b ∧ b < 300; omega), if_neg (by omega), w32_id (by omega)]
      · have hl : ltr (M 155) (M 154 2) b = 0 := by unfold ltr; rw [if_neg (fun z => h1 z.2)]
        rw [if_neg h1, hl, if_pos (Or.inl rfl)]
    · have hl : ltr (M 155) (M 154 2) b = 0 := by unfold ltr; rw [if_neg (fun z => hk z.1)]
      rw [if_neg hk, hl, if_pos (Or.inl rfl)]
  · rw [if_neg hw, if_neg hw]
/-- the first place from i on, of k places, at which g is c -/
def fnd (g : Int → Int) (c : Int) : Nat → Int → Int
  | 0, _ => -1
  | k + 1, i => if g i = c then i else fnd g c k (i + 1)
theorem fnd_r (g : Int → Int) (c : Int) : ∀ (k : Nat) (i : Int), fnd g c k i = -1 ∨ (i ≤ fnd g c k i ∧ fnd g c k i < i + k ∧ g (fnd g c k i) = c)
  | 0, _ => Or.inl rfl
  | k + 1, i => by
    unfold fnd
    by_cases h : g i = c
    · rw [if_pos h]; exact Or.inr ⟨by omega, by omega, h⟩
    · rw [if_neg h]
      rcases fnd_r g c k (i + 1) with h1 | h1
      · exact Or.inl h1
      · exact Or.inr ⟨by omega, by omega, h1.2.2⟩
theorem fnd_shift {g h : Int → Int} {c d : Int} : ∀ (k : Nat) (i : Int), (∀ j, i ≤ j → j < i + k → (g j = c ↔ h j = d)) → fnd g c k i = fnd h d k i
  | 0, _, _ => rfl
  | k + 1, i, hh => by
    unfold fnd
    have h0 := hh i (by omega) (by omega)
    by_cases hg : g i = c
    · rw [if_pos hg, if_pos (h0.mp hg)]
    · rw [if_neg hg, if_neg (fun z => hg (h0.mpr z))]
      exact fnd_shift k (i + 1) (fun j h1 h2 => hh j (by omega) (by omega))
theorem fnd_none {g : Int → Int} {c : Int} : ∀ (k : Nat) (i : Int), (∀ j, i ≤ j → j < i + k → g j ≠ c) → fnd g c k i = -1
  | 0, _, _ => rfl
  | k + 1, i, hh => by
    unfold fnd
    rw [if_neg (hh i (by omega) (by omega))]
    exact fnd_none k (i + 1) (fun j h1 h2 => hh j (by omega) (by omega))
theorem Fr_indexOf_l {fu : Nat} {L : zL} {M : zM} (hL : Lay L) (hP : Ptr M) (h8 : M 5 4 ≤ 8) (c : Int) : ∀ (k n : Nat) (i : Int), 0 ≤ i → M 5 4 - i = k → k < n → Fr_indexOf_l2 fu L n M 5 c i = some (fnd (M 6) c k i)
  | 0, n + 1, i, h0, hk, hn => by
    have l5 : L 5 = (3, 0) := hL 5 (by decide)
    show Fr_indexOf_s2 _ _ _ _ _ _ _ = _
    unfold Fr_indexOf_s2
    rw [l5, if_pos rfl, if_neg (by omega)]
    rfl
  | k + 1, n + 1, i, h0, hk, hn => by
    have l5 : L 5 = (3, 0) := hL 5 (by decide)
    have l6 : L 6 = (101, 8) := hL 6 (by decide)
    have p : M 5 1 = 6 := hP (5, 1, 6) (by decide +kernel)
    show Fr_indexOf_s2 _ _ _ _ _ _ _ = _
    unfold Fr_indexOf_s2 fnd
    rw [l5, if_pos rfl, if_pos (by omega), p, l6, if_pos rfl, if_pos (by show i < 8; omega), if_pos (by show 0 ≤ i ∧ i < 8; omega)]
    by_cases hc : M 6 i = c
    · rw [if_pos hc, if_pos hc]
    · rw [if_neg hc, if_neg hc, lt1_def, w32_id (by omega)]
      exact Fr_indexOf_l hL hP h8 c k n (i + 1) (by omega) (by omega) (by omega)
theorem Fr_indexOf_ok {fu : Nat} (hf : 400 ≤ fu) {L : zL} {M : zM} (hL : Lay L) (hP : Ptr M) (h0 : 0 ≤ M 5 4) (h8 : M 5 4 ≤ 8) (c : Int) : Fr_indexOf fu L M 5 c = some (fnd (M 6) c (M 5 4).toNat 0) :=
  Fr_indexOf_l hL hP h8 c _ fu 0 (by omega) (by omega) (by omega)
theorem Mo_readLife_l {fu : Nat} {L : zL} {M : zM} (hL : Lay L) (hP : Ptr M) (h8 : M 154 11 ≤ 8) (c : Int) : ∀ (k n : Nat) (i : Int), 0 ≤ i → M 154 11 - i = k → k < n → Mo_readLife_l2 fu L n M 154 c i = some (fnd (M 156) c k i)
  | 0, n + 1, i, h0, hk, hn => by
    have l4 : L 154 = (13, 0) := hL 154 (by decide)
    show Mo_readLife_s2 _ _ _ _ _ _ _ = _
    unfold Mo_readLife_s2
    rw [l4, if_pos rfl, if_neg (by omega)]
    rfl
  | k + 1, n + 1, i, h0, hk, hn => by
    have l4 : L 154 = (13, 0) := hL 154 (by decide)
    have l6 : L 156 = (101, 8) := hL 156 (by decide)
    have p : M 154 8 = 156 := hP (154, 8, 156) (by decide +kernel)
    show Mo_readLife_s2 _ _ _ _ _ _ _ = _
    unfold Mo_readLife_s2 fnd
    rw [l4, if_pos rfl, if_pos (by omega), p, l6, if_pos rfl, if_pos (by show 0 ≤ i ∧ i < 8; omega)]
    by_cases hc : M 156 i = c
    · rw [if_pos hc, if_pos hc]
    · rw [if_neg hc, if_neg hc, lt1_def, w32_id (by omega)]
      exact Mo_readLife_l hL hP h8 c k n (i + 1) (by omega) (by omega) (by omega)
theorem Mo_readLife_ok {fu : Nat} (hf : 400 ≤ fu) {L : zL} {M : zM} (hL : Lay L) (hP : Ptr M) (h0 : 0 ≤ M 154 11) (h8 : M 154 11 ≤ 8) (c : Int) : Mo_readLife fu L M 154 c = some (fnd (M 156) c (M 154 11).toNat 0) :=
  Mo_readLife_l hL hP h8 c _ fu 0 (by omega) (by omega) (by omega)
