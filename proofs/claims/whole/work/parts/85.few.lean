/-! ===== pure: part 85: fewest lives, the worst, courses: the class ===== -/
def y_bc (a : Int) : Int := (In_bitCount 0 (fun _ => (0, 0)) (fun _ _ => 0) a).getD 0
theorem In_bitCount_ok {fu : Nat} {L : zL} {M : zM} (a : Int) : In_bitCount fu L M a = some (y_bc a) := rfl
/-- the least of the smallest sets that are good; none -/
def y_few (G : Int → Prop) (all r : Int) : Prop := (r = -1 ∧ ∀ s, 0 ≤ s → s ≤ all → ¬ G s) ∨ (0 ≤ r ∧ r ≤ all ∧ G r ∧ ∀ s, 0 ≤ s → s ≤ all → G s → y_bc r < y_bc s ∨ (y_bc r = y_bc s ∧ r ≤ s))
theorem y_few_u {G : Int → Prop} {all r r' : Int} (h : y_few G all r) (h' : y_few G all r') : r = r' := by
  rcases h with ⟨a, b⟩ | ⟨a, b, c, d⟩
  · rcases h' with ⟨a', b'⟩ | ⟨a', b', c', d'⟩
    · omega
    · exact absurd c' (b r' a' b')
  · rcases h' with ⟨a', b'⟩ | ⟨a', b', c', d'⟩
    · exact absurd c (b' r a b)
    · have h1 := d r' a' b' c'
      have h2 := d' r a b c
      omega
/-- the first of the most; none -/
def y_wrs (B : Int → Int) (P : Int → Prop) (r mo : Int) : Prop := (r = -1 ∧ mo = -1 ∧ ∀ k, 0 ≤ k → k < 24 → ¬ P k) ∨ (0 ≤ r ∧ r < 24 ∧ P r ∧ mo = B r ∧ ∀ k, 0 ≤ k → k < 24 → P k → B k ≤ B r ∧ (k < r → B k < B r))
theorem y_wrs_u {B : Int → Int} {P : Int → Prop} {r r' mo mo' : Int} (h : y_wrs B P r mo) (h' : y_wrs B P r' mo') : r = r' ∧ mo = mo' := by
  rcases h with ⟨a, b, c⟩ | ⟨a, b, c, d, e⟩
  · rcases h' with ⟨a', b', c'⟩ | ⟨a', b', c', d', e'⟩
    · omega
    · exact absurd c' (c r' a' b')
  · rcases h' with ⟨a', b', c'⟩ | ⟨a', b', c', d', e'⟩
    · exact absurd c (c' r a b)
    · have h1 := e r' a' b' c'
      have h2 := e' r a b c
      have : r = r' := by omega
      subst this
      omega
/-- the first for which it holds; none -/
def y_fst (P : Int → Prop) (n r : Int) : Prop := (r = -1 ∧ ∀ k, 0 ≤ k → k < n → ¬ P k) ∨ (0 ≤ r ∧ r < n ∧ P r ∧ ∀ k, 0 ≤ k → k < r → ¬ P k)
theorem y_fst_u {P : Int → Prop} {n r r' : Int} (h : y_fst P n r) (h' : y_fst P n r') : r = r' := by
  rcases h with ⟨a, b⟩ | ⟨a, b, c, d⟩
  · rcases h' with ⟨a', b'⟩ | ⟨a', b', c', d'⟩
    · omega
    · exact absurd c' (b r' a' b')
  · rcases h' with ⟨a', b'⟩ | ⟨a', b', c', d'⟩
    · exact absurd c (b' r a b)
    · by_cases h1 : r < r'
      · exact absurd c (d' r a h1)
      · by_cases h2 : r' < r
        · exact absurd c' (d r' a' h2)
        · omega
section
variable {fu : Nat} {L : zL} {M : zM} {lv : Int} {w K Q A F : Int → Int} {m ln wh li per lim op : Int}
theorem Tr_fewestLives_ok (hf : 400 ≤ fu) (hL : Lay L) (hP : Ptr M) (te : y_te lv w K Q A F m ln) (t : y_tr L M lv w K Q A F m ln wh li per lim op) :
    ∃ M' r, Tr_fewestLives fu L M 142 = some (M', r) ∧ y_few (y_good lv w K Q A F m ln wh li per lim op) (y_all lv) r ∧ y_oa M M' := by
  have l42 : L 142 = (9, 0) := hL 142 (by decide)
  have hlv := te.1.1
  have har := y_all_r (lv := lv) (by omega)
  have go : ∀ (k c : Nat) (T : zM) (i b : Int), i = (k : Int) - 1 → i ≤ y_all lv → k < c → y_oa M T →
      ((b = -1 ∧ ∀ s, i < s → s ≤ y_all lv → ¬ y_good lv w K Q A F m ln wh li per lim op s) ∨ (i < b ∧ 0 ≤ b ∧ b ≤ y_all lv ∧ y_good lv w K Q A F m ln wh li per lim op b ∧ ∀ s, i < s → s ≤ y_all lv → y_good lv w K Q A F m ln wh li per lim op s → y_bc b < y_bc s ∨ (y_bc b = y_bc s ∧ b ≤ s))) →
      ∃ M' r, Tr_fewestLives_l7 fu L c T 142 b i = some (M', r) ∧ y_few (y_good lv w K Q A F m ln wh li per lim op) (y_all lv) r ∧ y_oa M M' := by
    intro k
    induction k with
    | zero =>
      intro c T i b hi hia hc o hb
      obtain ⟨c, rfl⟩ : ∃ c', c = c' + 1 := ⟨c - 1, by omega⟩
      refine ⟨T, b, ?_, ?_, o⟩
      · show Tr_fewestLives_s7 _ _ _ _ _ _ _ = _
        unfold Tr_fewestLives_s7
        rw [if_pos (by omega)]
      · rcases hb with ⟨b1, b2⟩ | ⟨b1, b2, b3, b4, b5⟩
        · exact Or.inl ⟨b1, fun s s0 s1 => b2 s (by omega) s1⟩
        · exact Or.inr ⟨b2, b3, b4, fun s s0 s1 hs => b5 s (by omega) s1 hs⟩
    | succ k ih =>
      intro c T i b hi hia hc o hb
      obtain ⟨c, rfl⟩ : ∃ c', c = c' + 1 := ⟨c - 1, by omega⟩
      have ew : w32 (i + -1) = i - 1 := by rw [w32_id (by omega)]; omega
      obtain ⟨T', t1, t2⟩ := Tr_passes_ok (fu := fu) hf hL (o.off.ptr hP) te (t.oa o) i
      have hb32 : ∀ y, Tr_fewestLives_b32 fu (Tr_fewestLives_l7 fu L c) L T 142 b i y = if y = 0 then Tr_fewestLives_l7 fu L c T 142 b (i - 1) else if y_ind (y_good lv w K Q A F m ln wh li per lim op i) = 0 then Tr_fewestLives_l7 fu L c T' 142 b (i - 1) else Tr_fewestLives_l7 fu L c T' 142 i (i - 1) := fun y => by
        unfold Tr_fewestLives_b32
        simp only [l42, ↓reduceIte, ↓bd2_eq t1, ↓lt1_def, ew]
      have e0 : Tr_fewestLives_l7 fu L (c + 1) T 142 b i = if b = -1 ∨ y_bc i ≤ y_bc b then (if y_ind (y_good lv w K Q A F m ln wh li per lim op i) = 0 then Tr_fewestLives_l7 fu L c T' 142 b (i - 1) else Tr_fewestLives_l7 fu L c T' 142 i (i - 1)) else Tr_fewestLives_l7 fu L c T 142 b (i - 1) := by
        show Tr_fewestLives_s7 _ _ _ _ _ _ _ = _
        unfold Tr_fewestLives_s7
        simp only [hb32, In_bitCount_ok, bd1_some, show ¬ i < 0 by omega, ↓reduceIte, Int.reduceEq]
        by_cases c1 : b = -1
        · rw [if_pos c1, if_pos (Or.inl c1)]
        · rw [if_neg c1]
          by_cases c2 : y_bc b < y_bc i
          · rw [if_pos c2, if_neg (show ¬ (b = -1 ∨ y_bc i ≤ y_bc b) by omega)]
          · rw [if_neg c2, if_pos (show b = -1 ∨ y_bc i ≤ y_bc b by omega)]
      rw [e0]
      by_cases cf : b = -1 ∨ y_bc i ≤ y_bc b
      · rw [if_pos cf]
        rcases Classical.em (y_good lv w K Q A F m ln wh li per lim op i) with cg | cg
        · rw [y_ind_1 cg, if_neg (by decide)]
          refine ih c T' (i - 1) i (by omega) (by omega) (by omega) (o.trans t2) (Or.inr ⟨by omega, by omega, hia, cg, fun s s0 s1 hs => ?_⟩)
          by_cases cs : s = i
          · subst cs; exact Or.inr ⟨rfl, Int.le_refl _⟩
          · rcases hb with ⟨b1, b2⟩ | ⟨b1, b2, b3, b4, b5⟩
            · exact absurd hs (b2 s (by omega) s1)
            · have := b5 s (by omega) s1 hs
              omega
        · rw [y_ind_0 cg, if_pos rfl]
          refine ih c T' (i - 1) b (by omega) (by omega) (by omega) (o.trans t2) ?_
          rcases hb with ⟨b1, b2⟩ | ⟨b1, b2, b3, b4, b5⟩
          · refine Or.inl ⟨b1, fun s s0 s1 => ?_⟩
            by_cases cs : s = i
            · subst cs; exact cg
            · exact b2 s (by omega) s1
          · refine Or.inr ⟨by omega, b2, b3, b4, fun s s0 s1 hs => ?_⟩
            by_cases cs : s = i
            · subst cs; exact absurd hs cg
            · exact b5 s (by omega) s1 hs
      · rw [if_neg cf]
        refine ih c T (i - 1) b (by omega) (by omega) (by omega) o ?_
        rcases hb with ⟨b1, b2⟩ | ⟨b1, b2, b3, b4, b5⟩
        · exact absurd (Or.inl b1) cf
        · refine Or.inr ⟨by omega, b2, b3, b4, fun s s0 s1 hs => ?_⟩
          by_cases cs : s = i
          · subst cs; exact Or.inl (by omega)
          · exact b5 s (by omega) s1 hs
  unfold Tr_fewestLives
  rw [l42, if_pos rfl, Tr_allLives_ok hL hP (by omega) t, bd1_some]
  exact go (y_all lv + 1).toNat fu M (y_all lv) (-1) (by omega) (Int.le_refl _) (by omega) (y_oa.refl M) (Or.inl ⟨rfl, fun s s0 s1 => by omega⟩)
theorem y_bhv_b (te : y_te lv w K Q A F m ln) {set sort l : Int} (hl : 0 ≤ l ∧ l < lv) : 0 ≤ y_bhv lv w K Q A F m ln set sort l ∧ y_bhv lv w K Q A F m ln set sort l ≤ 1000000 ∧ (y_bhv lv w K Q A F m ln set sort l < 1000000 → y_bhv lv w K Q A F m ln set sort l ≤ 4600) := by
  obtain ⟨v, hb, hm, hln, sk⟩ := te
  have h := (y_bval_b (ln := ln) (sort := sort) (life := l) (set := set) (F := F) (y_z_v (y := 0) v hb (by omega)) hln hl (by omega) sk (m.toNat + 1) (m - 1) (by omega) (by omega) (by omega)).1
  have h2 := y_bb_b sort l set
  unfold y_eb at h
  unfold y_bhv
  omega
theorem Tr_tellWorst_ok (hf : 400 ≤ fu) (hL : Lay L) (hP : Ptr M) (te : y_te lv w K Q A F m ln) (t : y_tr L M lv w K Q A F m ln wh li per lim op) {what : Int} (hwt : 0 ≤ what ∧ what ≤ 2) :
    ∃ M' r mo, Tr_tellWorst fu L M 142 what = some (M', if r = -1 then -1000000 else if what = 2 then (if mo < 1000000 then mo else -1) else if what = 0 then r / 8 else r % 8) ∧ y_wrs (fun k => y_bhv lv w K Q A F m ln (y_all lv) (k / 8) (k % 8)) (y_is wh li lim lv w op) r mo ∧ y_oa M M' := by
  have l42 : L 142 = (9, 0) := hL 142 (by decide)
  have l51 : L 151 = (101, 24) := hL 151 (by decide)
  have l52 : L 152 = (101, 24) := hL 152 (by decide)
  have hlv := te.1.1
  obtain ⟨n, hn⟩ : ∃ n, n = M 142 5 := ⟨_, rfl⟩
  have mb := t.2.2.2.2.2.2
  rw [← hn] at mb
  have hn24 := mb.2.2.2
  obtain ⟨B, hB⟩ : ∃ B : Int → Int, B = fun k => y_bhv lv w K Q A F m ln (y_all lv) (k / 8) (k % 8) := ⟨_, rfl⟩
  rw [← hB]
  have key : ∀ i, 0 ≤ i → i < n → M 152 i < lv ∧ B (8 * M 151 i + M 152 i) = y_bhv lv w K Q A F m ln (y_all lv) (M 151 i) (M 152 i) := fun i i0 i1 => by
    have hbi := mb.1 i i0 i1
    have ee := mb.ent i0 i1
    refine ⟨by have := hbi.2.1.1; rw [ee.2] at this; exact this, ?_⟩
    rw [hB]
    show y_bhv _ _ _ _ _ _ _ _ _ ((8 * M 151 i + M 152 i) / 8) ((8 * M 151 i + M 152 i) % 8) = _
    rw [ee.1, ee.2]
  have go : ∀ (k c : Nat) (T : zM) (i wi mo : Int), 0 ≤ i → i + k = n → k < c → y_oa M T →
      ((wi = -1 ∧ mo = -1 ∧ i = 0) ∨ (0 ≤ wi ∧ wi < i ∧ mo = B (8 * M 151 wi + M 152 wi) ∧ ∀ j, 0 ≤ j → j < i → B (8 * M 151 j + M 152 j) ≤ mo ∧ (j < wi → B (8 * M 151 j + M 152 j) < mo))) →
      ∃ M' r mo2, Tr_tellWorst_l7 fu L c T 142 what wi mo i = some (M', if r = -1 then -1000000 else if what = 2 then (if mo2 < 1000000 then mo2 else -1) else if what = 0 then r / 8 else r % 8) ∧ y_wrs B (y_is wh li lim lv w op) r mo2 ∧ y_oa M M' := by
    intro k
    induction k with
    | zero =>
      intro c T i wi mo i0 iN hc o hw
      obtain ⟨c, rfl⟩ : ∃ c', c = c' + 1 := ⟨c - 1, by omega⟩
      have q5 : T 142 5 = n := (o _ _ (by omega) (by omega) (by omega) (by omega)).trans hn.symm
      have e0 : Tr_tellWorst_l7 fu L (c + 1) T 142 what wi mo i = Tr_tellWorst_b65 fu L T 142 what wi mo := by
        show Tr_tellWorst_s7 _ _ _ _ _ _ _ _ _ = _
        unfold Tr_tellWorst_s7
        rw [l42, if_pos rfl, q5, if_neg (by omega)]
      rw [e0]
      rcases hw with ⟨b1, b2, b3⟩ | ⟨b1, b2, b3, b4⟩
      · refine ⟨T, -1, -1, ?_, Or.inl ⟨rfl, rfl, fun k k0 k1 hk => ?_⟩, o⟩
        · unfold Tr_tellWorst_b65
          rw [if_pos (by omega), if_pos rfl]
        · obtain ⟨j, j0, j1, _⟩ := mb.2.2.1 k k0 k1 hk
          omega
      · have wn : wi < n := by omega
        have hbi := mb.1 wi b1 wn
        have ee := mb.ent b1 wn
        have q3 : T 142 3 = 151 := (o.off.ptr hP) (142, 3, 151) (by decide +kernel)
        have q4 : T 142 4 = 152 := (o.off.ptr hP) (142, 4, 152) (by decide +kernel)
        have q51 : T 151 wi = M 151 wi := o _ _ (by omega) (by omega) (by omega) (by omega)
        have q52 : T 152 wi = M 152 wi := o _ _ (by omega) (by omega) (by omega) (by omega)
        refine ⟨T, 8 * M 151 wi + M 152 wi, mo, ?_, Or.inr ⟨by omega, by omega, hbi.2.1, b3, fun k k0 k1 hk => ?_⟩, o⟩
        · have w0 : ¬ wi < 0 := by omega
          have w24 : wi < 24 := by omega
          unfold Tr_tellWorst_b65
          rw [ee.1, ee.2, if_neg (show ¬ 8 * M 151 wi + M 152 wi = -1 by omega)]
          simp only [w0, w24, b1, l42, q3, q4, l51, l52, q51, q52, and_self, ↓reduceIte]
          (repeat' split) <;> first | rfl | omega
        · obtain ⟨j, j0, j1, j2⟩ := mb.2.2.1 k k0 k1 hk
          have := b4 j j0 (by omega)
          rw [j2] at this
          refine ⟨by omega, fun hlt => ?_⟩
          rw [← b3]
          refine this.2 ?_
          by_cases c1 : j < wi
          · exact c1
          · by_cases c2 : wi < j
            · have := mb.2.1 wi j b1 c2 j1
              omega
            · have : j = wi := by omega
              subst this
              omega
    | succ k ih =>
      intro c T i wi mo i0 iN hc o hw
      obtain ⟨c, rfl⟩ : ∃ c', c = c' + 1 := ⟨c - 1, by omega⟩
      have i24 : i < 24 := by omega
      have iN' : i < n := by omega
      have hbi := mb.1 i i0 iN'
      have hk := key i i0 iN'
      have PT := o.off.ptr hP
      have tT := t.oa o
      obtain ⟨T', t1, t2⟩ := Tr_behindOf_ok (fu := fu) (set := y_all lv) (sort := M 151 i) (l := M 152 i) hf hL PT te tT ⟨by omega, hk.1⟩
      have bb := (y_bhv_b te (set := y_all lv) (sort := M 151 i) (l := M 152 i) ⟨by omega, hk.1⟩).1
      rw [← hk.2] at t1 bb
      have eal := Tr_allLives_ok (fu := fu) hL PT (by omega) tT
      rw [show w32 (ishl 1 lv - 1) = y_all lv from rfl] at eal
      have q3 : T 142 3 = 151 := PT (142, 3, 151) (by decide +kernel)
      have q4 : T 142 4 = 152 := PT (142, 4, 152) (by decide +kernel)
      have q5 : T 142 5 = n := (o _ _ (by omega) (by omega) (by omega) (by omega)).trans hn.symm
      have q51 : T 151 i = M 151 i := o _ _ (by omega) (by omega) (by omega) (by omega)
      have q52 : T 152 i = M 152 i := o _ _ (by omega) (by omega) (by omega) (by omega)
      have ew : w32 (i + 1) = i + 1 := w32_id (by omega)
      have e0 : Tr_tellWorst_l7 fu L (c + 1) T 142 what wi mo i = if mo < B (8 * M 151 i + M 152 i) then Tr_tellWorst_l7 fu L c T' 142 what i (B (8 * M 151 i + M 152 i)) (i + 1) else Tr_tellWorst_l7 fu L c T' 142 what wi mo (i + 1) := by
        show Tr_tellWorst_s7 _ _ _ _ _ _ _ _ _ = _
        unfold Tr_tellWorst_s7
        simp only [l42, q5, iN', i24, q3, l51, i0, and_self, q4, l52, ↓reduceIte, q51, q52, ↓bd1_eq eal, ↓bd2_eq t1, ↓lt1_def, ew]
      rw [e0]
      by_cases cc : mo < B (8 * M 151 i + M 152 i)
      · rw [if_pos cc]
        refine ih c T' (i + 1) i _ (by omega) (by omega) (by omega) (o.trans t2) (Or.inr ⟨i0, by omega, rfl, fun j j0 j1 => ?_⟩)
        by_cases cj : j = i
        · subst cj; omega
        · rcases hw with ⟨b1, b2, b3⟩ | ⟨b1, b2, b3, b4⟩
          · omega
          · have := (b4 j j0 (by omega)).1
            omega
      · rw [if_neg cc]
        refine ih c T' (i + 1) wi mo (by omega) (by omega) (by omega) (o.trans t2) ?_
        rcases hw with ⟨b1, b2, b3⟩ | ⟨b1, b2, b3, b4⟩
        · omega
        · refine Or.inr ⟨b1, by omega, b3, fun j j0 j1 => ?_⟩
          by_cases cj : j = i
          · subst cj; omega
          · exact b4 j j0 (by omega)
  exact go n.toNat fu M 0 (-1) (-1) (by omega) (by omega) (by omega) (y_oa.refl M) (Or.inl ⟨rfl, rfl, rfl⟩)
end
