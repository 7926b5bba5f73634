/-! ===== pure: part 55 ===== -/
theorem piece_pos {f : Int → Int} {n m b : Int} {g h : Int → Int} (h0 : 0 ≤ b) (hn : b ≤ n) : 0 ≤ (piece f n m g h b).2.1 ∧ (piece f n m g h b).2.1 ≤ n := by
  have b1 := nxt_ge (f := f) hn
  have c1 := nxt_le (f := f) hn
  have b2 := nxt_ge (f := f) c1
  have c2 := nxt_le (f := f) c1
  have b3 := nxt_ge (f := f) c2
  have c3 := nxt_le (f := f) c2
  have b4 := nxt_ge (f := f) c3
  have c4 := nxt_le (f := f) c3
  unfold piece
  split
  · split
    · split
      · split
        · exact ⟨by show 0 ≤ nxt _ _ _; omega, c4⟩
        · exact ⟨by show 0 ≤ nxt _ _ _; omega, c3⟩
      · exact ⟨by show 0 ≤ nxt _ _ _; omega, c2⟩
    · exact ⟨by show 0 ≤ nxt _ _ _; omega, c1⟩
  · exact ⟨h0, hn⟩
/-- alike on [0, m) -/
def alk (m : Int) (g h : Int → Int) : Prop := ∀ i, 0 ≤ i → i < m → g i = h i
theorem alk_iupd {m v : Int} {g h : Int → Int} (a : alk m g h) : alk (m + 1) (iupd g m v) (iupd h m v) := fun i h0 h1 => by
  unfold iupd
  by_cases e : i = m
  · rw [if_pos e, if_pos e]
  · rw [if_neg e, if_neg e]; exact a i h0 (by omega)
theorem famL_congr {f f' : Int → Int} {n : Int} (he : ∀ i, 0 ≤ i → i < n → f i = f' i) : ∀ (k : Nat) (m b : Int) (g g' h h' q q' : Int → Int), 0 ≤ m → 0 ≤ b → b ≤ n → alk m g g' → alk m h h' → alk m q q' →
    (famL f n k m g h q b).1 = (famL f' n k m g' h' q' b).1 ∧ (famL f n k m g h q b).2.1 = (famL f' n k m g' h' q' b).2.1 ∧ alk (famL f n k m g h q b).2.1 (famL f n k m g h q b).2.2.1 (famL f' n k m g' h' q' b).2.2.1 ∧ alk (famL f n k m g h q b).2.1 (famL f n k m g h q b).2.2.2.1 (famL f' n k m g' h' q' b).2.2.2.1 ∧ alk (famL f n k m g h q b).2.1 (famL f n k m g h q b).2.2.2.2 (famL f' n k m g' h' q' b).2.2.2.2
  | 0, m, b, g, g', h, h', q, q', _, _, _, a1, a2, a3 => ⟨rfl, rfl, a1, a2, a3⟩
  | k + 1, m, b, g, g', h, h', q, q', hm, h0, hn, a1, a2, a3 => by
    have pp := piece_pos (f := f') (m := m) (g := g') (h := h') h0 hn
    unfold famL
    rw [piece_congr he a1 a2 h0 hn hm]
    generalize piece f' n m g' h' b = t at *
    obtain ⟨t1, t2, t3, t4, t5⟩ := t
    dsimp only at pp ⊢
    rw [tkK_congr he pp.1, isG_congr he pp.1, nxt_congr he pp.1 pp.2]
    by_cases c0 : t1 = 0
    · rw [if_pos c0, if_pos c0]; exact ⟨rfl, rfl, a1, a2, a3⟩
    · rw [if_neg c0, if_neg c0]
      by_cases c1 : tkK f' n t2 = 0
      · rw [if_pos c1, if_pos c1]; exact ⟨rfl, rfl, alk_iupd a1, alk_iupd a2, alk_iupd a3⟩
      · rw [if_neg c1, if_neg c1]
        by_cases c2 : isG 59 f' n t2 = true
        · have e0 := nxt_ge (f := f') pp.2
          rw [if_pos c2, if_pos c2]
          exact famL_congr he k (m + 1) _ _ _ _ _ _ _ (by omega) (by omega) (nxt_le pp.2) (alk_iupd a1) (alk_iupd a2) (alk_iupd a3)
        · rw [if_neg c2, if_neg c2]; exact ⟨rfl, rfl, alk_iupd a1, alk_iupd a2, alk_iupd a3⟩
/-- what a family that was read holds -/
theorem famL_b {f : Int → Int} {n : Int} : ∀ (k : Nat) (m b : Int) (g h q : Int → Int), 0 ≤ m → m ≤ 8 → (∀ i, 0 ≤ i → i < m → (97 ≤ g i ∧ g i ≤ 104) ∧ (0 ≤ h i ∧ h i ≤ 99) ∧ (-1 ≤ q i ∧ q i < i ∨ q i = -1)) →
    (m ≤ (famL f n k m g h q b).2.1 ∧ (famL f n k m g h q b).2.1 ≤ 8) ∧ ∀ i, 0 ≤ i → i < (famL f n k m g h q b).2.1 → (97 ≤ (famL f n k m g h q b).2.2.1 i ∧ (famL f n k m g h q b).2.2.1 i ≤ 104) ∧ (0 ≤ (famL f n k m g h q b).2.2.2.1 i ∧ (famL f n k m g h q b).2.2.2.1 i ≤ 99) ∧ (-1 ≤ (famL f n k m g h q b).2.2.2.2 i ∧ (famL f n k m g h q b).2.2.2.2 i < i ∨ (famL f n k m g h q b).2.2.2.2 i = -1)
  | 0, m, b, g, h, q, h0, h8, hh => ⟨⟨Int.le_refl m, h8⟩, hh⟩
  | k + 1, m, b, g, h, q, h0, h8, hh => by
    have pb := fun z => piece_1 (f := f) (n := n) (m := m) (g := g) (h := h) (b := b) z
    unfold famL
    generalize piece f n m g h b = t at *
    obtain ⟨t1, t2, t3, t4, t5⟩ := t
    dsimp only at pb ⊢
    by_cases c0 : t1 = 0
    · rw [if_pos c0]; exact ⟨⟨Int.le_refl m, h8⟩, hh⟩
    · have hp := pb c0
      have h2 : ∀ i, 0 ≤ i → i < m + 1 → (97 ≤ iupd g m t3 i ∧ iupd g m t3 i ≤ 104) ∧ (0 ≤ iupd h m t4 i ∧ iupd h m t4 i ≤ 99) ∧ (-1 ≤ iupd q m t5 i ∧ iupd q m t5 i < i ∨ iupd q m t5 i = -1) := fun i i0 i1 => by
        unfold iupd
        by_cases e : i = m
        · rw [if_pos e, if_pos e, if_pos e]; omega
        · rw [if_neg e, if_neg e, if_neg e]; exact hh i i0 (by omega)
      rw [if_neg c0]
      by_cases c1 : tkK f n t2 = 0
      · rw [if_pos c1]; exact ⟨⟨by show m ≤ m + 1; omega, by show m + 1 ≤ 8; omega⟩, h2⟩
      · rw [if_neg c1]
        by_cases c2 : isG 59 f n t2 = true
        · rw [if_pos c2]
          have ih := famL_b (f := f) (n := n) k (m + 1) (nxt f n t2) (iupd g m t3) (iupd h m t4) (iupd q m t5) (by omega) (by omega) h2
          exact ⟨⟨by have := ih.1.1; omega, ih.1.2⟩, ih.2⟩
        · rw [if_neg c2]; exact ⟨⟨by show m ≤ m + 1; omega, by show m + 1 ≤ 8; omega⟩, h2⟩
