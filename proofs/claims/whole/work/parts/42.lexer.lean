/-! ===== pure: part 42 ===== -/
/-! ===== pure: the parts of the tape ===== -/
/-- from i on, past all that p takes -/
def wh (p : Int → Bool) (f : Int → Int) (n : Int) : Nat → Int → Int
  | 0, i => i
  | k + 1, i => if i < n ∧ p (f i) = true then wh p f n k (i + 1) else i
theorem wh_ge (p : Int → Bool) (f : Int → Int) (n : Int) : ∀ (k : Nat) (i : Int), i ≤ wh p f n k i
  | 0, i => Int.le_refl i
  | k + 1, i => by
    unfold wh
    split
    · have := wh_ge p f n k (i + 1); omega
    · exact Int.le_refl i
theorem wh_le (p : Int → Bool) (f : Int → Int) (n : Int) : ∀ (k : Nat) (i : Int), i ≤ n → wh p f n k i ≤ n
  | 0, i, h => h
  | k + 1, i, h => by
    unfold wh
    split
    · next hc => exact wh_le p f n k (i + 1) (by omega)
    · exact h
theorem wh_fu (p : Int → Bool) (f : Int → Int) (n : Int) : ∀ (k m : Nat) (i : Int), n - i ≤ k → n - i ≤ m → wh p f n k i = wh p f n m i
  | 0, 0, i, _, _ => rfl
  | 0, m + 1, i, h1, h2 => by unfold wh; rw [if_neg (fun q => by omega)]
  | k + 1, 0, i, h1, h2 => by unfold wh; rw [if_neg (fun q => by omega)]
  | k + 1, m + 1, i, h1, h2 => by
    unfold wh
    split
    · exact wh_fu p f n k m (i + 1) (by omega) (by omega)
    · rfl
theorem wh_in (p : Int → Bool) (f : Int → Int) (n : Int) : ∀ (k : Nat) (i j : Int), i ≤ j → j < wh p f n k i → j < n ∧ p (f j) = true
  | 0, i, j, h1, h2 => by unfold wh at h2; omega
  | k + 1, i, j, h1, h2 => by
    unfold wh at h2
    split at h2
    · next hc =>
      by_cases e : i = j
      · subst e; exact hc
      · exact wh_in p f n k (i + 1) j (by omega) h2
    · omega
theorem wh_end (p : Int → Bool) (f : Int → Int) (n : Int) : ∀ (k : Nat) (i : Int), n - i ≤ k → wh p f n k i < n → p (f (wh p f n k i)) = false
  | 0, i, h1, h2 => by unfold wh at h2; omega
  | k + 1, i, h1, h2 => by
    unfold wh at h2 ⊢
    split
    · next hc =>
      rw [if_pos hc] at h2
      exact wh_end p f n k (i + 1) (by omega) h2
    · next hc =>
      rw [if_neg hc] at h2
      cases hp : p (f i) with
      | false => rfl
      | true => exact absurd ⟨h2, hp⟩ hc
/-- alike on [0, n) -/
theorem wh_congr {p : Int → Bool} {f g : Int → Int} {n : Int} (he : ∀ i, 0 ≤ i → i < n → f i = g i) : ∀ (k : Nat) (i : Int), 0 ≤ i → wh p f n k i = wh p g n k i
  | 0, _, _ => rfl
  | k + 1, i, h => by
    unfold wh
    by_cases hi : i < n
    · rw [he i h hi]
      split
      · exact wh_congr he k (i + 1) (by omega)
      · rfl
    · rw [if_neg (fun q => hi q.1), if_neg (fun q => hi q.1)]
def isB (c : Int) : Bool := decide (c = 32)
def isS (c : Int) : Bool := decide (97 ≤ c ∧ c ≤ 122)
def isD (c : Int) : Bool := decide (48 ≤ c ∧ c ≤ 57)
theorem Tp_at_ok {fu : Nat} {L : zL} {M : zM} (hL : Lay L) (hP : Ptr M) (h1 : M 2 2 ≤ 300) {i : Int} (h : 0 ≤ i) : Tp_at fu L M 2 i = some (if i < M 2 2 then M 3 i else 0) := by
  have l2 : L 2 = (8, 0) := hL 2 (by decide)
  have l3 : L 3 = (101, 300) := hL 3 (by decide)
  have p : M 2 0 = 3 := hP (2, 0, 3) (by decide)
  unfold Tp_at
  rw [if_neg (by omega), l2, if_pos rfl, p, l3]
  by_cases hi : i < M 2 2
  · rw [if_pos hi, if_pos rfl, if_pos (by show i < 300; omega), if_pos (by show 0 ≤ i ∧ i < 300; omega), if_pos hi]
  · rw [if_neg hi, if_neg hi]
theorem Tp_isLetter_ok {fu : Nat} {L : zL} {M : zM} (c : Int) : Tp_isLetter fu L M c = some (if isS c = true then 1 else 0) := by
  unfold Tp_isLetter isS
  simp only [decide_eq_true_eq]
  by_cases h1 : c < 97
  · rw [if_pos h1, if_neg (by omega)]
  · rw [if_neg h1]
    by_cases h2 : 122 < c
    · rw [if_pos h2, if_neg (by omega)]
    · rw [if_neg h2, if_pos (by omega)]
theorem Tp_isDigit_ok {fu : Nat} {L : zL} {M : zM} (c : Int) : Tp_isDigit fu L M c = some (if isD c = true then 1 else 0) := by
  unfold Tp_isDigit isD
  simp only [decide_eq_true_eq]
  by_cases h1 : c < 48
  · rw [if_pos h1, if_neg (by omega)]
  · rw [if_neg h1]
    by_cases h2 : 57 < c
    · rw [if_pos h2, if_neg (by omega)]
    · rw [if_neg h2, if_pos (by omega)]
theorem Tp_pastBlanks_l {fu : Nat} {L : zL} {M : zM} (hL : Lay L) (hP : Ptr M) (h1 : M 2 2 ≤ 300) : ∀ (n k : Nat) (i : Int), 0 ≤ i → i ≤ 300 → M 2 2 - i ≤ k → k < n → Tp_pastBlanks_l2 fu L n M 2 i = some (wh isB (M 3) (M 2 2) k i)
  | 0, k, i, _, _, _, hn => absurd hn (Nat.not_lt_zero _)
  | n + 1, k, i, h0, hi3, hk, hn => by
    have l2 : L 2 = (8, 0) := hL 2 (by decide)
    show Tp_pastBlanks_s2 _ _ _ _ _ _ = _
    unfold Tp_pastBlanks_s2
    rw [l2, if_pos rfl]
    by_cases hi : i < M 2 2
    · obtain ⟨k', rfl⟩ : ∃ k', k = k' + 1 := ⟨k - 1, by omega⟩
      rw [if_pos hi, Tp_at_ok hL hP h1 h0, bd1_some, if_pos hi]
      unfold wh
      by_cases hb : M 3 i = 32
      · rw [if_pos hb, if_pos ⟨hi, by rw [hb]; rfl⟩, lt1_def, w32_id (by omega)]
        exact Tp_pastBlanks_l hL hP h1 n k' (i + 1) (by omega) (by omega) (by omega) (by omega)
      · rw [if_neg hb, if_neg (fun q => hb (of_decide_eq_true q.2))]
    · rw [if_neg hi]
      cases k with
      | zero => rfl
      | succ k => unfold wh; rw [if_neg (fun q => hi q.1)]
theorem Tp_pastLetters_l {fu : Nat} {L : zL} {M : zM} (hL : Lay L) (hP : Ptr M) (h1 : M 2 2 ≤ 300) : ∀ (n k : Nat) (i : Int), 0 ≤ i → i ≤ 300 → M 2 2 - i ≤ k → k < n → Tp_pastLetters_l2 fu L n M 2 i = some (wh isS (M 3) (M 2 2) k i)
  | 0, k, i, _, _, _, hn => absurd hn (Nat.not_lt_zero _)
  | n + 1, k, i, h0, hi3, hk, hn => by
    have l2 : L 2 = (8, 0) := hL 2 (by decide)
    show Tp_pastLetters_s2 _ _ _ _ _ _ = _
    unfold Tp_pastLetters_s2
    rw [l2, if_pos rfl]
    by_cases hi : i < M 2 2
    · obtain ⟨k', rfl⟩ : ∃ k', k = k' + 1 := ⟨k - 1, by omega⟩
      rw [if_pos hi, Tp_at_ok hL hP h1 h0, bd1_some, if_pos hi, Tp_isLetter_ok, bd1_some]
      unfold wh
      by_cases hb : isS (M 3 i) = true
      · rw [if_pos hb, if_neg (by decide), if_pos ⟨hi, hb⟩, lt1_def, w32_id (by omega)]
        exact Tp_pastLetters_l hL hP h1 n k' (i + 1) (by omega) (by omega) (by omega) (by omega)
      · rw [if_neg hb, if_pos rfl, if_neg (fun q => hb q.2)]
    · rw [if_neg hi]
      cases k with
      | zero => rfl
      | succ k => unfold wh; rw [if_neg (fun q => hi q.1)]
theorem Tp_pastDigits_l {fu : Nat} {L : zL} {M : zM} (hL : Lay L) (hP : Ptr M) (h1 : M 2 2 ≤ 300) : ∀ (n k : Nat) (i : Int), 0 ≤ i → i ≤ 300 → M 2 2 - i ≤ k → k < n → Tp_pastDigits_l2 fu L n M 2 i = some (wh isD (M 3) (M 2 2) k i)
  | 0, k, i, _, _, _, hn => absurd hn (Nat.not_lt_zero _)
  | n + 1, k, i, h0, hi3, hk, hn => by
    have l2 : L 2 = (8, 0) := hL 2 (by decide)
    show Tp_pastDigits_s2 _ _ _ _ _ _ = _
    unfold Tp_pastDigits_s2
    rw [l2, if_pos rfl]
    by_cases hi : i < M 2 2
    · obtain ⟨k', rfl⟩ : ∃ k', k = k' + 1 := ⟨k - 1, by omega⟩
      rw [if_pos hi, Tp_at_ok hL hP h1 h0, bd1_some, if_pos hi, Tp_isDigit_ok, bd1_some]
      unfold wh
      by_cases hb : isD (M 3 i) = true
      · rw [if_pos hb, if_neg (by decide), if_pos ⟨hi, hb⟩, lt1_def, w32_id (by omega)]
        exact Tp_pastDigits_l hL hP h1 n k' (i + 1) (by omega) (by omega) (by omega) (by omega)
      · rw [if_neg hb, if_pos rfl, if_neg (fun q => hb q.2)]
    · rw [if_neg hi]
      cases k with
      | zero => rfl
      | succ k => unfold wh; rw [if_neg (fun q => hi q.1)]
