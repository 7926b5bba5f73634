/-! ===== pure: part 59: loops as folds; rows of the model as worlds ===== -/
def y_fo {σ : Type} (st : Int → σ → σ) : Nat → Int → σ → σ
  | 0, _, s => s
  | k + 1, i, s => y_fo st k (i + 1) (st i s)
def y_fe {σ ρ : Type} (st : Int → σ → σ) (ex : Int → σ → Option ρ) (fin : σ → ρ) : Nat → Int → σ → ρ
  | 0, _, s => fin s
  | k + 1, i, s => (ex i s).elim (y_fe st ex fin k (i + 1) (st i s)) id
theorem y_lp {σ ρ : Type} {F : Nat → σ → Int → Option ρ} {st : Int → σ → σ} {ex : Int → σ → Option ρ} {fin : σ → ρ} {N : Int} (I : Int → σ → Prop)
    (hs : ∀ n s i, 0 ≤ i → i < N → I i s → (∃ r, ex i s = some r ∧ F (n + 1) s i = some r) ∨ (ex i s = none ∧ F (n + 1) s i = F n (st i s) (i + 1) ∧ I (i + 1) (st i s)))
    (hf : ∀ n s i, i = N → I i s → F (n + 1) s i = some (fin s)) : ∀ (k n : Nat) (s : σ) (i : Int), 0 ≤ i → i + k = N → k < n → I i s → F n s i = some (y_fe st ex fin k i s)
  | 0, 0, _, _, _, _, hn, _ => absurd hn (Nat.not_lt_zero _)
  | _ + 1, 0, _, _, _, _, hn, _ => absurd hn (Nat.not_lt_zero _)
  | 0, n + 1, s, i, _, hN, _, hI => hf n s i (by omega) hI
  | k + 1, n + 1, s, i, h0, hN, hn, hI => by
    unfold y_fe
    rcases hs n s i h0 (by omega) hI with ⟨r, e1, e2⟩ | ⟨e1, e2, e3⟩
    · rw [e1, e2]; rfl
    · rw [e1, e2]; exact y_lp I hs hf k n _ _ (by omega) (by omega) (by omega) e3
theorem y_lp0 {σ ρ : Type} {F : Nat → σ → Int → Option ρ} {st : Int → σ → σ} {fin : σ → ρ} {N : Int} (I : Int → σ → Prop)
    (hs : ∀ n s i, 0 ≤ i → i < N → I i s → F (n + 1) s i = F n (st i s) (i + 1) ∧ I (i + 1) (st i s))
    (hf : ∀ n s i, i = N → I i s → F (n + 1) s i = some (fin s)) : ∀ (k n : Nat) (s : σ) (i : Int), 0 ≤ i → i + k = N → k < n → I i s → F n s i = some (fin (y_fo st k i s))
  | 0, 0, _, _, _, _, hn, _ => absurd hn (Nat.not_lt_zero _)
  | _ + 1, 0, _, _, _, _, hn, _ => absurd hn (Nat.not_lt_zero _)
  | 0, n + 1, s, i, _, hN, _, hI => hf n s i (by omega) hI
  | k + 1, n + 1, s, i, h0, hN, hn, hI => by
    unfold y_fo
    obtain ⟨e2, e3⟩ := hs n s i h0 (by omega) hI
    rw [e2]; exact y_lp0 I hs hf k n _ _ (by omega) (by omega) (by omega) e3
theorem y_fo_inv {σ : Type} {st : Int → σ → σ} {N : Int} (I : Int → σ → Prop) (hs : ∀ s i, 0 ≤ i → i < N → I i s → I (i + 1) (st i s)) : ∀ (k : Nat) (s : σ) (i : Int), 0 ≤ i → i + k = N → I i s → I N (y_fo st k i s)
  | 0, s, i, _, hN, hI => by rw [← hN, show i + ((0 : Nat) : Int) = i by omega]; exact hI
  | k + 1, s, i, h0, hN, hI => by unfold y_fo; exact y_fo_inv I hs k _ _ (by omega) (by omega) (hs s i h0 (by omega) hI)
theorem y_fo_congr {σ : Type} {st st' : Int → σ → σ} {N : Int} (hs : ∀ s i, 0 ≤ i → i < N → st i s = st' i s) : ∀ (k : Nat) (s : σ) (i : Int), 0 ≤ i → i + k = N → y_fo st k i s = y_fo st' k i s
  | 0, s, i, _, _ => rfl
  | k + 1, s, i, h0, hN => by unfold y_fo; rw [hs s i h0 (by omega)]; exact y_fo_congr hs k _ _ (by omega) (by omega)
theorem y_fe_congr {σ ρ : Type} {st st' : Int → σ → σ} {ex ex' : Int → σ → Option ρ} {fin : σ → ρ} {N : Int} (hs : ∀ s i, 0 ≤ i → i < N → ex i s = ex' i s ∧ (ex i s = none → st i s = st' i s)) : ∀ (k : Nat) (s : σ) (i : Int), 0 ≤ i → i + k = N → y_fe st ex fin k i s = y_fe st' ex' fin k i s
  | 0, s, i, _, _ => rfl
  | k + 1, s, i, h0, hN => by
    have h := hs s i h0 (by omega)
    unfold y_fe
    rw [← h.1]
    rcases hh : ex i s with _ | r
    · rw [h.2 hh]; exact y_fe_congr hs k _ _ (by omega) (by omega)
    · rfl
/-- what a death of the model's is in the class -/
def y_cD (x : Int) : Int := if x = 16777216 then -1000000 else x
/-- a World at a of the class holds what the row w says, lv LIVES -/
def WR (L : zL) (M : zM) (a B D P : Int) (lv : Int) (w : Int → Int) : Prop :=
  WL L M a B D P ∧ (M a 3 = lv ∧ M a 4 = w 1 ∧ M a 5 = w 0) ∧ ∀ p, 0 ≤ p → p < w 1 → M B p = w (2 + p) ∧ M D p = y_cD (w (26 + p)) ∧ M P p = w (50 + p)
/-- a row is sound -/
def WV (lv : Int) (w : Int → Int) : Prop :=
  (0 ≤ lv ∧ lv ≤ 8 ∧ lv ≤ w 1 ∧ w 1 ≤ 24) ∧ (0 ≤ w 0 ∧ w 0 ≤ 400) ∧ ∀ p, 0 ≤ p → p < w 1 → (-99 ≤ w (2 + p) ∧ w (2 + p) ≤ w 0) ∧ (w (26 + p) = 16777216 ∨ 0 ≤ w (26 + p) ∧ w (26 + p) ≤ w 0) ∧ (-1 ≤ w (50 + p) ∧ w (50 + p) < p)
theorem y_cD_l {x : Int} (h : x = 16777216) : y_cD x = -1000000 := if_pos h
theorem y_cD_d {x : Int} (h : ¬ x = 16777216) : y_cD x = x := if_neg h
section
variable {fu : Nat} {L : zL} {M : zM} {a B D P lv : Int} {w : Int → Int}
theorem Wr_has (h : WR L M a B D P lv w) (v : WV lv w) (p : Int) : Wd_has fu L M a p = some (if 0 ≤ p ∧ p < w 1 then 1 else 0) := by
  rw [Wd_has_ok h.1 (by have := h.2.1.2.1; have := v.1; omega), h.2.1.2.1]
theorem Wr_bornIn (h : WR L M a B D P lv w) (v : WV lv w) (p : Int) : Wd_bornIn fu L M a p = some (if 0 ≤ p ∧ p < w 1 then w (2 + p) else 0) := by
  rw [Wd_bornIn_ok h.1 (by have := h.2.1.2.1; have := v.1; omega), h.2.1.2.1]
  by_cases c : 0 ≤ p ∧ p < w 1
  · rw [if_pos c, if_pos c, (h.2.2 p c.1 c.2).1]
  · rw [if_neg c, if_neg c]
theorem Wr_diedIn (h : WR L M a B D P lv w) (v : WV lv w) (p : Int) : Wd_diedIn fu L M a p = some (if 0 ≤ p ∧ p < w 1 then y_cD (w (26 + p)) else -1000000) := by
  rw [Wd_diedIn_ok h.1 (by have := h.2.1.2.1; have := v.1; omega), h.2.1.2.1]
  by_cases c : 0 ≤ p ∧ p < w 1
  · rw [if_pos c, if_pos c, (h.2.2 p c.1 c.2).2.1]
  · rw [if_neg c, if_neg c]
theorem Wr_parentOf (h : WR L M a B D P lv w) (v : WV lv w) (p : Int) : Wd_parentOf fu L M a p = some (if 0 ≤ p ∧ p < w 1 then w (50 + p) else -1) := by
  rw [Wd_parentOf_ok h.1 (by have := h.2.1.2.1; have := v.1; omega), h.2.1.2.1]
  by_cases c : 0 ≤ p ∧ p < w 1
  · rw [if_pos c, if_pos c, (h.2.2 p c.1 c.2).2.2]
  · rw [if_neg c, if_neg c]
theorem Wr_isAlive (h : WR L M a B D P lv w) (v : WV lv w) (p : Int) : Wd_isAlive fu L M a p = some (if 0 ≤ p ∧ p < w 1 ∧ w (26 + p) = 16777216 then 1 else 0) := by
  obtain ⟨⟨w1, ⟨w2, w3, w4⟩, w5, w6, w7⟩, ⟨w8, w9, w10⟩, wr⟩ := h
  unfold Wd_isAlive
  by_cases h0 : 0 ≤ p
  · have hn : ¬ p < 0 := by omega
    by_cases h1 : p < w 1
    · have h2 : p < 24 := by have := v.1; omega
      have hd := (wr p h0 h1).2.1
      simp only [hn, w1, w9, h1, w3, w6, h2, h0, and_self, ↓reduceIte, hd, true_and]
      by_cases c : w (26 + p) = 16777216
      · rw [y_cD_l c, if_pos rfl, if_pos c]
      · have := (v.2.2 p h0 h1).2.1
        rw [y_cD_d c, if_neg c, if_neg (by omega)]
    · simp only [hn, w1, w9, h1, ↓reduceIte, false_and, and_false]
  · have hn : p < 0 := by omega
    simp only [hn, h0, ↓reduceIte, false_and]
theorem Wr_ageOf (h : WR L M a B D P lv w) (v : WV lv w) {p : Int} (h0 : 0 ≤ p) (h1 : p < w 1) : Wd_ageOf fu L M a p = some (min (w (26 + p)) (w 0) - w (2 + p)) := by
  have hv := v.2.2 p h0 h1
  have hw := v.2.1
  have e1 := h.1.1
  have e2 := h.2.1.2.2
  unfold Wd_ageOf Wd_ageOf_b20
  simp only [e1, Wr_isAlive h v, Wr_diedIn h v, Wr_bornIn h v, h0, h1, true_and, and_self, bd1_some, ↓reduceIte]
  by_cases c : w (26 + p) = 16777216
  · simp only [c, ↓reduceIte]
    rw [if_neg (by decide), e2, w32_id (by omega)]
    congr 2; omega
  · simp only [c, ↓reduceIte]
    rw [y_cD_d c, w32_id (by omega)]
    congr 2; omega
/-- why none can be born -/
def y_wNB (w : Int → Int) (p : Int) : Int := if ¬ (0 ≤ p ∧ p < w 1) then 1 else if w 0 = 0 ∨ w 0 - w (2 + p) < 13 then 2 else if w (26 + p) < w 0 then 3 else if w 1 = 24 then 4 else -1
def y_wND (w : Int → Int) (p : Int) : Int := if ¬ (0 ≤ p ∧ p < w 1) then 1 else if w (26 + p) = 16777216 then -1 else 3
theorem Wr_whyNoBirth (h : WR L M a B D P lv w) (v : WV lv w) (p : Int) : Wd_whyNoBirth fu L M a p = some (y_wNB w p) := by
  have e1 := h.1.1
  have e2 := h.2.1.2.2
  have e3 := h.2.1.2.1
  unfold Wd_whyNoBirth y_wNB
  by_cases c : 0 ≤ p ∧ p < w 1
  · have hv := v.2.2 p c.1 c.2
    have hw := v.1
    have hy := v.2.1
    have ew : w32 (w 0 - w (2 + p)) = w 0 - w (2 + p) := w32_id (by omega)
    simp only [e1, Wr_has h v, Wr_isAlive h v, Wr_diedIn h v, Wr_bornIn h v, c.1, c.2, e2, e3, ew, and_self, bd1_some, ↓reduceIte, true_and, not_true_eq_false]
    rw [if_neg (by decide)]
    by_cases c1 : w 0 = 0
    · simp only [c1, ↓reduceIte, true_or]
    · by_cases c2 : w 0 - w (2 + p) < 13
      · simp only [c1, c2, ↓reduceIte, or_true]
      · simp only [c1, c2, ↓reduceIte, or_self]
        by_cases c3 : w (26 + p) = 16777216
        · rw [if_pos c3, if_neg (by decide)]
          (repeat' split) <;> first | rfl | omega
        · rw [if_neg c3, if_pos rfl, y_cD_d c3]
          (repeat' split) <;> first | rfl | omega
  · simp only [e1, Wr_has h v, c, bd1_some, ↓reduceIte, not_false_eq_true]
theorem Wr_whyNoDeath (h : WR L M a B D P lv w) (v : WV lv w) (p : Int) : Wd_whyNoDeath fu L M a p = some (y_wND w p) := by
  have e1 := h.1.1
  unfold Wd_whyNoDeath y_wND
  by_cases c : 0 ≤ p ∧ p < w 1
  · simp only [e1, Wr_has h v, Wr_isAlive h v, c.1, c.2, and_self, bd1_some, ↓reduceIte, true_and, not_true_eq_false]
    rw [if_neg (by decide)]
    by_cases c3 : w (26 + p) = 16777216
    · rw [if_pos c3, if_neg (by decide), if_pos c3]
    · rw [if_neg c3, if_pos rfl, if_neg c3]
  · simp only [e1, Wr_has h v, c, bd1_some, ↓reduceIte, not_false_eq_true]
/-- the last life's death -/
def y_last (lv : Int) (w : Int → Int) : Int := y_fe (fun i y => max y (w (26 + i))) (fun i _ => if w (26 + i) = 16777216 then some (-1) else none) id lv.toNat 0 (-1)
theorem Wr_lastDeath (hf : 400 ≤ fu) (h : WR L M a B D P lv w) (v : WV lv w) : Wd_lastDeath fu L M a = some (y_last lv w) := by
  have e1 := h.1.1
  have e2 := h.2.1.1
  have hw := v.1
  refine y_lp (F := fun n s i => Wd_lastDeath_l4 fu L n M a s i) (N := lv) (fun _ _ => True) (fun n s i h0 hN _ => ?_) (fun n s i hN _ => ?_) lv.toNat fu (-1) 0 (by omega) (by omega) (by omega) trivial
  · show (∃ r, _ ∧ Wd_lastDeath_s4 _ _ _ _ _ _ _ = _) ∨ (_ ∧ Wd_lastDeath_s4 _ _ _ _ _ _ _ = _ ∧ _)
    unfold Wd_lastDeath_s4
    have h1 : i < w 1 := by omega
    have ew : w32 (i + 1) = i + 1 := w32_id (by omega)
    simp only [e1, e2, hN, h0, h1, Wr_isAlive h v, Wr_diedIn h v, true_and, and_self, bd1_some, ↓reduceIte, lt1_def, ew]
    by_cases c : w (26 + i) = 16777216
    · refine Or.inl ⟨-1, by rw [if_pos c], ?_⟩
      rw [if_pos c, if_neg (by decide)]
    · refine Or.inr ⟨by rw [if_neg c], ?_, trivial⟩
      rw [if_neg c, if_pos rfl, y_cD_d c]
  · show Wd_lastDeath_s4 _ _ _ _ _ _ _ = _
    unfold Wd_lastDeath_s4
    rw [e1, if_pos rfl, if_neg (by omega)]; rfl
theorem y_last_b (v : WV lv w) : -1 ≤ y_last lv w ∧ y_last lv w ≤ 400 := by
  have hw := v.1
  have hy := v.2.1
  have g : ∀ (k : Nat) (i y : Int), 0 ≤ i → i + k = lv → -1 ≤ y → y ≤ 400 → -1 ≤ y_fe (fun i y => max y (w (26 + i))) (fun i _ => if w (26 + i) = 16777216 then some (-1) else none) id k i y ∧ y_fe (fun i y => max y (w (26 + i))) (fun i _ => if w (26 + i) = 16777216 then some (-1) else none) id k i y ≤ 400 := by
    intro k
    induction k with
    | zero => intro i y _ _ h1 h2; exact ⟨h1, h2⟩
    | succ k ih =>
      intro i y h0 hN h1 h2
      unfold y_fe
      have hv := v.2.2 i h0 (by omega)
      by_cases c : w (26 + i) = 16777216
      · rw [if_pos c]; exact ⟨(by decide : (-1 : Int) ≤ -1), (by decide : (-1 : Int) ≤ 400)⟩
      · rw [if_neg c]; exact ih (i + 1) _ (by omega) (by omega) (by omega) (by omega)
  exact g lv.toNat 0 (-1) (by omega) (by omega) (by omega) (by omega)
def y_end (lv per : Int) (w : Int → Int) : Int := if y_last lv w = -1 then -1 else y_last lv w + per
theorem Wr_theEnd (hf : 400 ≤ fu) (h : WR L M a B D P lv w) (v : WV lv w) {per : Int} (hp : 0 ≤ per ∧ per ≤ 99) : Wd_theEnd fu L M a per = some (y_end lv per w) := by
  have e1 := h.1.1
  have b := y_last_b v
  have ew : w32 (y_last lv w + per) = y_last lv w + per := w32_id (by omega)
  unfold Wd_theEnd y_end
  simp only [e1, Wr_lastDeath hf h v, bd1_some, ↓reduceIte, ew]
  by_cases c : y_last lv w = -1
  · rw [if_pos c, if_pos c]
  · rw [if_neg c, if_neg c]
end
