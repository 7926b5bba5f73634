/-! ===== pure: part 88: the test, the model ===== -/
/-- what the model's test may change -/
def y_ob (M N : zM) : Prop := ∀ a i, ¬ (a = 154 ∧ (30 ≤ i ∧ i ≤ 31 ∨ 33 ≤ i ∧ i ≤ 36 ∨ 40 ≤ i ∧ i ≤ 44)) → a ≠ 169 → N a i = M a i
theorem y_ob.refl (M : zM) : y_ob M M := fun _ _ _ _ => rfl
theorem y_ob.trans {M N T : zM} (h : y_ob M N) (h' : y_ob N T) : y_ob M T := fun x i a b => (h' x i a b).trans (h x i a b)
theorem y_ob.off {M N : zM} (h : y_ob M N) : y_off M N := fun a i c => h a i (fun e => c (by omega)) (fun e => c (by omega))
theorem y_obm {M N : zM} (h : y_ob M N) {i v : Int} (c : 30 ≤ i ∧ i ≤ 31 ∨ 33 ≤ i ∧ i ≤ 36 ∨ 40 ≤ i ∧ i ≤ 44) : y_ob M (mu N 154 i v) := fun b j d e => by
  by_cases z : b = 154 ∧ j = i
  · exact absurd (by rw [z.1, z.2]; exact ⟨rfl, c⟩) d
  · rw [mx_ne (by omega)]; exact h b j d e
theorem y_ob9 {M N : zM} (h : y_ob M N) {i v : Int} : y_ob M (mu N 169 i v) := fun b j d e => by
  rw [mx_ne (by omega)]; exact h b j d e
/-- the model tests a gift by a range of its signs -/
def y_mt (L : zL) (N : zM) (g wh li per lim lv ln : Int) (w : Int → Int) : Prop :=
  ((0 ≤ g ∧ g ≤ 7) ∧ (0 ≤ wh ∧ wh ≤ 2) ∧ (0 ≤ li ∧ li < lv) ∧ (0 ≤ per ∧ per ≤ 99) ∧ 0 ≤ ln ∧ ln ≤ 99) ∧
  (L 154 = (13, 0) ∧ L 162 = (101, 2597) ∧ L 164 = (101, 8) ∧ L 165 = (101, 8) ∧ L 169 = (101, 74)) ∧
  (N 154 18 = 162 ∧ N 154 22 = 164 ∧ N 154 23 = 165 ∧ N 154 47 = 169 ∧ N 154 20 = lv ∧ N 154 32 = ln) ∧
  (N 162 (77 + 315 * g + 0) = wh ∧ N 162 (77 + 315 * g + 1) = li ∧ N 162 74 = per ∧ N 162 75 = lim) ∧
  (∀ l, 0 ≤ l → l < lv → N 164 l = - w (2 + l) ∧ N 165 l = w (50 + l) ∧ -99 ≤ w (2 + l) ∧ w (2 + l) ≤ 0) ∧ WV lv w
/-- the signs that are asked: from i to e' -/
def y_ms (N : zM) (S K Q A F : Int → Int) (lv e st c i e' p q : Int) : Prop := y_sg N S c e ∧ y_top S K Q A F lv e st i e' p q ∧ (N 154 45 = c + i ∧ N 154 46 = c + e') ∧ (0 ≤ c ∧ c + e ≤ 2597) ∧ st ≤ 31 ∧ ∀ k, 0 ≤ k → k < st → y_sk K Q A F lv k
theorem y_mt.ob {L : zL} {N T : zM} {g wh li per lim lv ln : Int} {w : Int → Int} (h : y_mt L N g wh li per lim lv ln w) (o : y_ob N T) : y_mt L T g wh li per lim lv ln w := by
  obtain ⟨h1, h2, ⟨a1, a2, a3, a4, a5, a6⟩, ⟨b1, b2, b3, b4⟩, h5, h6⟩ := h
  refine ⟨h1, h2, ⟨(o _ _ (by omega) (by omega)).trans a1, (o _ _ (by omega) (by omega)).trans a2, (o _ _ (by omega) (by omega)).trans a3, (o _ _ (by omega) (by omega)).trans a4, (o _ _ (by omega) (by omega)).trans a5, (o _ _ (by omega) (by omega)).trans a6⟩, ⟨(o _ _ (by omega) (by omega)).trans b1, (o _ _ (by omega) (by omega)).trans b2, (o _ _ (by omega) (by omega)).trans b3, (o _ _ (by omega) (by omega)).trans b4⟩, fun l l0 l1 => ?_, h6⟩
  rw [o _ _ (by omega) (by omega), o _ _ (by omega) (by omega)]
  exact h5 l l0 l1
theorem y_ms.ob {N T : zM} {S K Q A F : Int → Int} {lv e st c i e' p q : Int} (h : y_ms N S K Q A F lv e st c i e' p q) (o : y_ob N T) : y_ms T S K Q A F lv e st c i e' p q := by
  obtain ⟨h1, h2, h3, h4, h5⟩ := h
  refine ⟨⟨fun i i0 i1 => (o _ _ (by omega) (by omega)).trans (h1.1 i i0 i1), h1.2⟩, h2, ⟨(o _ _ (by omega) (by omega)).trans h3.1, (o _ _ (by omega) (by omega)).trans h3.2⟩, h4, h5⟩
section
variable {fu : Nat} {L : zL} {N : zM} {g wh li per lim lv ln : Int} {w : Int → Int}
theorem y_mt.to (h : y_mt L N g wh li per lim lv ln w) : Mo_to fu L N 154 g = some wh := by
  obtain ⟨⟨h1, _⟩, ⟨l4, l62, _⟩, ⟨p18, _⟩, ⟨b1, _⟩, _⟩ := h
  have ew : w32 (77 + 315 * g + 0) = 77 + 315 * g + 0 := w32_id (by omega)
  have g1 : 0 ≤ 77 + 315 * g + 0 := by omega
  have g2 : 77 + 315 * g + 0 < 2597 := by omega
  unfold Mo_to
  simp only [l4, Mo_giftAt_ok (show 0 ≤ g ∧ g ≤ 8 by omega), bd1_some, p18, l62, ew, g1, g2, and_self, ↓reduceIte, b1]
theorem y_mt.told (h : y_mt L N g wh li per lim lv ln w) : Mo_toldLife fu L N 154 g = some li := by
  obtain ⟨⟨h1, _⟩, ⟨l4, l62, _⟩, ⟨p18, _⟩, ⟨_, b1, _⟩, _⟩ := h
  have ew : w32 (77 + 315 * g + 1) = 77 + 315 * g + 1 := w32_id (by omega)
  have g1 : 0 ≤ 77 + 315 * g + 1 := by omega
  have g2 : 77 + 315 * g + 1 < 2597 := by omega
  unfold Mo_toldLife
  simp only [l4, Mo_giftAt_ok (show 0 ≤ g ∧ g ≤ 8 by omega), bd1_some, p18, l62, ew, g1, g2, and_self, ↓reduceIte, b1]
theorem Mo_isLifeOf_ok (h : y_mt L N g wh li per lim lv ln w) {l : Int} (l0 : 0 ≤ l) (l1 : l < lv) : Mo_isLifeOf fu L N 154 g l = some (y_icl wh li w l) := by
  obtain ⟨⟨h1, hwh, hli, _⟩, ⟨l4, l62, l64, l65, l69⟩, ⟨_, _, p23, _⟩, _, hag, v⟩ := id h
  have hw := v.1
  have ha := hag l l0 l1
  have hv := v.2.2 l l0 (by omega)
  have l8 : l < 8 := by omega
  unfold Mo_isLifeOf y_icl
  simp only [l4, h.to, h.told, bd1_some, ↓reduceIte, p23, l65, l0, l8, and_self, ha.2.1]
  by_cases c0 : wh = 0
  · rw [if_pos c0, if_neg (show ¬ wh = 1 by omega), if_neg (show ¬ wh = 2 by omega)]; split <;> rfl
  · rw [if_neg c0]
    by_cases c1 : wh = 1
    · rw [if_pos c1, if_pos c1]; split <;> rfl
    · rw [if_neg c1, if_neg c1, if_pos (show wh = 2 by omega)]
      by_cases c2 : w (50 + l) = -1
      · rw [if_pos c2, if_neg (fun z => by omega)]
      · have g5 : 0 ≤ w (50 + l) := by omega
        have g6 : w (50 + l) < 8 := by omega
        have hb := hag (w (50 + l)) g5 (by omega)
        simp only [c2, g5, g6, true_and, and_self, ↓reduceIte, hb.2.1]
        split <;> rfl
theorem Mo_canBear_ok (h : y_mt L N g wh li per lim lv ln w) {l : Int} (l0 : 0 ≤ l) (l1 : l < lv) : Mo_canBear fu L N 154 l = some (if lim < -w (2 + l) then 0 else 1) := by
  obtain ⟨⟨h1, hwh, hli, _⟩, ⟨l4, l62, l64, l65, l69⟩, ⟨p18, p22, p23, _⟩, ⟨_, _, _, b4⟩, hag, v⟩ := id h
  have hw := v.1
  have ha := hag l l0 l1
  have l8 : l < 8 := by omega
  have g1 : (0 : Int) ≤ 75 := by omega
  have g2 : (75 : Int) < 2597 := by omega
  unfold Mo_canBear
  simp only [l4, p22, l64, l0, l8, and_self, ↓reduceIte, p18, l62, g1, g2, b4, ha.1]
  split <;> rfl
theorem Mo_isThere_ok (h : y_mt L N g wh li per lim lv ln w) {sort l op : Int} (hs : 0 ≤ sort ∧ sort ≤ 2) (l0 : 0 ≤ l) (l1 : l < lv) : Mo_isThere fu L N 154 g sort l op = some (y_thr wh li lim w op sort l) := by
  obtain ⟨⟨h1, hwh, hli, _⟩, ⟨l4, l62, l64, l65, l69⟩, ⟨p18, p22, p23, _⟩, ⟨_, _, _, b4⟩, hag, v⟩ := id h
  have hw := v.1
  have ha := hag l l0 l1
  have l8 : l < 8 := by omega
  unfold Mo_isThere Mo_isThere_b40 Mo_isThere_b54 y_thr y_blg
  simp only [l4, h.to, h.told, Mo_isLifeOf_ok h l0 l1, Mo_canBear_ok h l0 l1, bd1_some, ↓reduceIte, p23, l65, l0, l8, and_self, ha.2.1]
  by_cases s0 : sort = 0
  · rw [if_pos s0, if_pos s0]
  · rw [if_neg s0, if_neg s0]
    by_cases o0 : op = 0
    · rw [if_pos o0, if_pos o0]
    · rw [if_neg o0, if_neg o0, if_neg s0]
      by_cases b : lim < -w (2 + l)
      · simp only [b, ↓reduceIte]
        (repeat' split) <;> first | rfl | omega
      · simp only [b, Int.reduceEq, ↓reduceIte]
        (repeat' split) <;> first | rfl | omega
theorem Mo_begin_ok (h : y_mt L N g wh li per lim lv ln w) {S K Q A F : Int → Int} {e st c i e' p q : Int} (s : y_ms N S K Q A F lv e st c i e' p q) : ∃ T, Mo_begin fu L N 154 = some T ∧ y_ob N T ∧ y_go L T c e' ∧ T 154 30 = c + i := by
  obtain ⟨⟨h1, hwh, hli, _⟩, ⟨l4, l62, l64, l65, l69⟩, ⟨p18, _⟩, _⟩ := id h
  obtain ⟨s1, s2, s3, s4, _⟩ := s
  have hb := y_top_b s2
  have e46 : mu N 154 30 (c + i) 154 46 = c + e' := (mx_ne (by omega)).trans s3.2
  have o : y_ob N (mu (mu N 154 30 (c + i)) 154 31 (c + e')) := y_obm (y_obm (y_ob.refl N) (by omega)) (by omega)
  refine ⟨mu (mu N 154 30 (c + i)) 154 31 (c + e'), ?_, o, ⟨l4, l62, (o _ _ (by omega) (by omega)).trans p18, mx_same _ _ _ _, by omega, by omega⟩, ?_⟩
  · unfold Mo_begin
    rw [l4, if_pos rfl, s3.1, lt1_def, e46, lt1_def]
  · rw [mx_ne (by omega), mx_same]
/-- the model's row of the lives -/
def y_zw (N : zM) (lv : Int) (w d : Int → Int) : Prop := ∀ l, 0 ≤ l → l < lv → N 169 (2 + l) = w (2 + l) ∧ N 169 (26 + l) = d l
theorem Mo_beginsWorld_ok (hf : 400 ≤ fu) {x sz : Int} (hx : L x = (101, sz)) (hsz : 74 ≤ sz) (h4 : L 154 = (13, 0)) (l64 : L 164 = (101, 8)) (l65 : L 165 = (101, 8)) (p22 : N 154 22 = 164) (p23 : N 154 23 = 165) (p20 : N 154 20 = lv) (hlv : 0 ≤ lv ∧ lv ≤ 8) (hx4 : x ≠ 154 ∧ x ≠ 164 ∧ x ≠ 165) (hag : ∀ l, 0 ≤ l → l < lv → N 164 l = - w (2 + l) ∧ N 165 l = w (50 + l) ∧ -99 ≤ w (2 + l) ∧ w (2 + l) ≤ 0) :
    ∃ T, Mo_beginsWorld fu L N 154 x = some T ∧ (∀ a i, a ≠ x → T a i = N a i) ∧ T x 0 = 0 ∧ T x 1 = lv ∧ (∀ l, 0 ≤ l → l < lv → T x (2 + l) = w (2 + l) ∧ T x (26 + l) = 16777216 ∧ T x (50 + l) = w (50 + l)) ∧ ∀ i, 74 ≤ i → T x i = N x i := by
  obtain ⟨D, hD⟩ : ∃ D, D = mu (mu N x 0 0) x 1 lv := ⟨_, rfl⟩
  have fD : ∀ a i, a ≠ x → D a i = N a i := fun a i c => by rw [hD, mx_ne (by omega), mx_ne (by omega)]
  have e20 : mu N x 0 0 154 20 = lv := (mx_ne (by omega)).trans p20
  have g0 : (0 : Int) < sz := by omega
  have g00 : (0 : Int) ≤ 0 := by omega
  have g1 : (1 : Int) < sz := by omega
  have g11 : (0 : Int) ≤ 1 := by omega
  have e1 : Mo_beginsWorld fu L N 154 x = Mo_beginsWorld_l13 fu L fu D 154 x 0 := by
    unfold Mo_beginsWorld
    simp only [hx, g0, g00, g1, g11, and_self, ↓reduceIte, ↓lt1_def, h4, e20]
    rw [hD]
  rw [e1]
  obtain ⟨T, k, e, ⟨o, j0, j1, j2, j3⟩⟩ := y_lpx (F := fun k (T : zM) i => Mo_beginsWorld_l13 fu L k T 154 x i) (N := lv)
    (fun i T => (∀ a j, a ≠ x → T a j = N a j) ∧ T x 0 = 0 ∧ T x 1 = lv ∧ (∀ l, 0 ≤ l → l < i → T x (2 + l) = w (2 + l) ∧ T x (26 + l) = 16777216 ∧ T x (50 + l) = w (50 + l)) ∧ ∀ i, 74 ≤ i → T x i = N x i)
    (fun k T i h0 hN hJ => by
      obtain ⟨o, j0, j1, j2, j3⟩ := hJ
      have q20 : T 154 20 = lv := (o _ _ (by omega)).trans p20
      have q22 : T 154 22 = 164 := (o _ _ (by omega)).trans p22
      have q23 : T 154 23 = 165 := (o _ _ (by omega)).trans p23
      have ha := hag i h0 hN
      have q64 : T 164 i = -w (2 + i) := (o _ _ (by omega)).trans ha.1
      have q65 : T 165 i = w (50 + i) := (o _ _ (by omega)).trans ha.2.1
      have i8 : i < 8 := by omega
      have ew : w32 (i + 1) = i + 1 := w32_id (by omega)
      have e2 : w32 (2 + i) = 2 + i := w32_id (by omega)
      have e26 : w32 (26 + i) = 26 + i := w32_id (by omega)
      have e50 : w32 (50 + i) = 50 + i := w32_id (by omega)
      have en : w32 (- -w (2 + i)) = w (2 + i) := by rw [w32_id (by omega)]; omega
      have k2 : 0 ≤ 2 + i := by omega
      have k2' : 2 + i < sz := by omega
      have k26 : 0 ≤ 26 + i := by omega
      have k26' : 26 + i < sz := by omega
      have k50 : 0 ≤ 50 + i := by omega
      have k50' : 50 + i < sz := by omega
      have a23 : mu (mu T x (2 + i) (w (2 + i))) x (26 + i) 16777216 154 23 = 165 := (mx_ne (by omega)).trans ((mx_ne (by omega)).trans q23)
      have a65 : mu (mu T x (2 + i) (w (2 + i))) x (26 + i) 16777216 165 i = w (50 + i) := (mx_ne (by omega)).trans ((mx_ne (by omega)).trans q65)
      refine ⟨mu (mu (mu T x (2 + i) (w (2 + i))) x (26 + i) 16777216) x (50 + i) (w (50 + i)), ?_, ?_, ?_, ?_, ?_, ?_⟩
      · show Mo_beginsWorld_s13 _ _ _ _ _ _ _ = _
        unfold Mo_beginsWorld_s13
        simp only [h4, q20, hN, q22, l64, h0, i8, hx, e2, k2, k2', q64, en, and_self, ↓reduceIte, ↓lt1_def, e26, k26, k26', a23, l65, e50, k50, k50', a65, ew]
      · intro a j c
        rw [mx_ne (by omega), mx_ne (by omega), mx_ne (by omega)]; exact o a j c
      · rw [mx_ne (by omega), mx_ne (by omega), mx_ne (by omega)]; exact j0
      · rw [mx_ne (by omega), mx_ne (by omega), mx_ne (by omega)]; exact j1
      · intro l l0 l1
        by_cases c : l = i
        · subst c
          refine ⟨?_, ?_, mx_same _ _ _ _⟩
          · rw [mx_ne (by omega), mx_ne (by omega), mx_same]
          · rw [mx_ne (by omega), mx_same]
        · have := j2 l l0 (by omega)
          rw [mx_ne (j := 2 + l) (by omega), mx_ne (j := 2 + l) (by omega), mx_ne (j := 2 + l) (by omega), mx_ne (j := 26 + l) (by omega), mx_ne (j := 26 + l) (by omega), mx_ne (j := 26 + l) (by omega), mx_ne (j := 50 + l) (by omega), mx_ne (j := 50 + l) (by omega), mx_ne (j := 50 + l) (by omega)]
          exact this
      · intro j hj
        rw [mx_ne (by omega), mx_ne (by omega), mx_ne (by omega)]; exact j3 j hj) lv.toNat fu D 0 (by omega) (by omega) (by omega) ⟨fD, by rw [hD, mx_ne (by omega), mx_same], by rw [hD, mx_same], fun l l0 l1 => absurd l1 (by omega), fun i hi => by rw [hD, mx_ne (by omega), mx_ne (by omega)]⟩
  refine ⟨T, e.trans ?_, o, j0, j1, j2, j3⟩
  show Mo_beginsWorld_s13 _ _ _ _ _ _ _ = _
  unfold Mo_beginsWorld_s13
  rw [h4, if_pos rfl, o 154 20 (by omega), p20, if_neg (by omega)]
end
