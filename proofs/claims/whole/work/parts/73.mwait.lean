/-! ===== pure: part 73: a gift as things are: the model ===== -/
theorem y_lpm {σ ρ : Type} {F : Nat → zM → σ → Int → Option (zM × ρ)} {st : Int → σ → σ} {ex : Int → σ → Option ρ} {fin : σ → ρ} {N : Int} (J : zM → Prop) (I : Int → σ → Prop)
    (hs : ∀ n M s i, J M → 0 ≤ i → i < N → I i s → (∃ r M', ex i s = some r ∧ F (n + 1) M s i = some (M', r) ∧ J M') ∨ (∃ M', ex i s = none ∧ F (n + 1) M s i = F n M' (st i s) (i + 1) ∧ J M' ∧ I (i + 1) (st i s)))
    (hf : ∀ n M s i, J M → i = N → I i s → ∃ M', F (n + 1) M s i = some (M', fin s) ∧ J M') : ∀ (k n : Nat) (M : zM) (s : σ) (i : Int), J M → 0 ≤ i → i + k = N → k < n → I i s → ∃ M', F n M s i = some (M', y_fe st ex fin k i s) ∧ J M'
  | 0, 0, _, _, _, _, _, _, hn, _ => absurd hn (Nat.not_lt_zero _)
  | _ + 1, 0, _, _, _, _, _, _, hn, _ => absurd hn (Nat.not_lt_zero _)
  | 0, n + 1, M, s, i, hJ, _, hN, _, hI => hf n M s i hJ (by omega) hI
  | k + 1, n + 1, M, s, i, hJ, h0, hN, hn, hI => by
    unfold y_fe
    rcases hs n M s i hJ h0 (by omega) hI with ⟨r, M', e1, e2, e3⟩ | ⟨M', e1, e2, e3, e4⟩
    · rw [e1]; exact ⟨M', e2, e3⟩
    · rw [e1, e2]; exact y_lpm J I hs hf k n M' _ _ e3 (by omega) (by omega) (by omega) e4
theorem y_lpm0 {σ ρ : Type} {F : Nat → zM → σ → Int → Option (zM × ρ)} {st : Int → σ → σ} {fin : σ → ρ} {N : Int} (J : zM → Prop) (I : Int → σ → Prop)
    (hs : ∀ n M s i, J M → 0 ≤ i → i < N → I i s → ∃ M', F (n + 1) M s i = F n M' (st i s) (i + 1) ∧ J M' ∧ I (i + 1) (st i s))
    (hf : ∀ n M s i, J M → i = N → I i s → ∃ M', F (n + 1) M s i = some (M', fin s) ∧ J M') : ∀ (k n : Nat) (M : zM) (s : σ) (i : Int), J M → 0 ≤ i → i + k = N → k < n → I i s → ∃ M', F n M s i = some (M', fin (y_fo st k i s)) ∧ J M'
  | 0, 0, _, _, _, _, _, _, hn, _ => absurd hn (Nat.not_lt_zero _)
  | _ + 1, 0, _, _, _, _, _, _, hn, _ => absurd hn (Nat.not_lt_zero _)
  | 0, n + 1, M, s, i, hJ, _, hN, _, hI => hf n M s i hJ (by omega) hI
  | k + 1, n + 1, M, s, i, hJ, h0, hN, hn, hI => by
    unfold y_fo
    obtain ⟨M', e2, e3, e4⟩ := hs n M s i hJ h0 (by omega) hI
    rw [e2]; exact y_lpm0 J I hs hf k n M' _ _ e3 (by omega) (by omega) (by omega) e4
/-- the model's gift g: its row S, its steps -/
def y_mg (L : zL) (N : zM) (g : Int) (S : Int → Int) (wh li lv e : Int) (K Q A F : Int → Int) (st : Int) : Prop :=
  (0 ≤ g ∧ g ≤ 7) ∧ (L 154 = (13, 0) ∧ L 162 = (101, 2597) ∧ N 154 18 = 162 ∧ N 154 32 = 99) ∧ (∀ i, 0 ≤ i → i < 315 → N 162 (77 + 315 * g + i) = S i) ∧ (S 0 = wh ∧ S 1 = li ∧ S 4 = e) ∧ ((0 ≤ wh ∧ wh ≤ 2) ∧ (0 ≤ li ∧ li < lv) ∧ (0 ≤ e ∧ e ≤ 310) ∧ 1 ≤ st ∧ st ≤ 31) ∧ y_ws (fun i => S (5 + i)) e ∧ y_seg (fun i => S (5 + i)) K Q A F lv e st 2 5 0 e 0 st
/-- a row of the model's: a world -/
def y_mr (L : zL) (N : zM) (x lv : Int) (w : Int → Int) : Prop := (∃ sz, L x = (101, sz) ∧ 74 ≤ sz) ∧ (x = 162 ∨ x = 168) ∧ N x = w ∧ WV lv w ∧ N 154 20 = lv
theorem y_mg.off {L : zL} {N T : zM} {g : Int} {S : Int → Int} {wh li lv e : Int} {K Q A F : Int → Int} {st : Int} (h : y_mg L N g S wh li lv e K Q A F st) (o : y_off N T) : y_mg L T g S wh li lv e K Q A F st := by
  obtain ⟨h1, ⟨h2, h3, h4, h5⟩, h6, h7⟩ := h
  exact ⟨h1, ⟨h2, h3, (o _ _ (by omega)).trans h4, (o _ _ (by omega)).trans h5⟩, fun i q0 q1 => (o _ _ (by omega)).trans (h6 i q0 q1), h7⟩
theorem y_mr.off {L : zL} {N T : zM} {x lv : Int} {w : Int → Int} (h : y_mr L N x lv w) (o : y_off N T) : y_mr L T x lv w := by
  obtain ⟨h1, h2, h3, h4, h5⟩ := h
  exact ⟨h1, h2, (o.row (fun i => by omega)).trans h3, h4, (o _ _ (by omega)).trans h5⟩
theorem Mo_giftAt_ok {fu : Nat} {L : zL} {M : zM} {g : Int} (h : 0 ≤ g ∧ g ≤ 8) : Mo_giftAt fu L M g = some (77 + 315 * g) := by
  unfold Mo_giftAt
  have e : w32 (315 * g) = 315 * g := w32_id (by omega)
  rw [e, w32_id (by omega)]
section
variable {fu : Nat} {L : zL} {N : zM} {g : Int} {S : Int → Int} {wh li lv e : Int} {K Q A F : Int → Int} {st : Int} {x : Int} {w : Int → Int}
theorem y_mg.sk (h : y_mg L N g S wh li lv e K Q A F st) : ∀ k, 0 ≤ k → k < st → y_sk K Q A F lv k := (y_seg_b h.2.2.2.2.2.2).2.2
theorem Mo_to_ok (h : y_mg L N g S wh li lv e K Q A F st) : Mo_to fu L N 154 g = some wh := by
  obtain ⟨h1, ⟨l4, l62, p18, h32⟩, hS, ⟨s0, s1, s4⟩, _⟩ := h
  have e := hS 0 (by omega) (by omega)
  have ew : w32 (77 + 315 * g + 0) = 77 + 315 * g + 0 := w32_id (by omega)
  have g1 : 0 ≤ 77 + 315 * g + 0 := by omega
  have g2 : 77 + 315 * g + 0 < 2597 := by omega
  unfold Mo_to
  simp only [l4, Mo_giftAt_ok (show 0 ≤ g ∧ g ≤ 8 by omega), bd1_some, p18, l62, ew, g1, g2, and_self, ↓reduceIte, e, s0]
theorem Mo_toldLife_ok (h : y_mg L N g S wh li lv e K Q A F st) : Mo_toldLife fu L N 154 g = some li := by
  obtain ⟨h1, ⟨l4, l62, p18, h32⟩, hS, ⟨s0, s1, s4⟩, _⟩ := h
  have e := hS 1 (by omega) (by omega)
  have ew : w32 (77 + 315 * g + 1) = 77 + 315 * g + 1 := w32_id (by omega)
  have g1 : 0 ≤ 77 + 315 * g + 1 := by omega
  have g2 : 77 + 315 * g + 1 < 2597 := by omega
  unfold Mo_toldLife
  simp only [l4, Mo_giftAt_ok (show 0 ≤ g ∧ g ≤ 8 by omega), bd1_some, p18, l62, ew, g1, g2, and_self, ↓reduceIte, e, s1]
theorem Mo_isOfClass_ok (h : y_mg L N g S wh li lv e K Q A F st) (r : y_mr L N x lv w) {p : Int} (p0 : 0 ≤ p) (p1 : p < w 1) : Mo_isOfClass fu L N 154 x g p = some (y_icl wh li w p) := by
  obtain ⟨⟨sz, lx, hsz⟩, hx, rw0, v, r20⟩ := r
  have hw := v.1
  have hv := (v.2.2 p p0 p1).2.2
  have l4 := h.2.1.1
  have hli := h.2.2.2.2.1.2.1
  have e50 : w32 (50 + p) = 50 + p := w32_id (by omega)
  have g1 : 0 ≤ 50 + p := by omega
  have g2 : 50 + p < sz := by omega
  have hwh := h.2.2.2.2.1.1
  unfold Mo_isOfClass y_icl
  simp only [lx, e50, g1, g2, and_self, ↓reduceIte, ↓lt1_def, l4, Mo_to_ok h, Mo_toldLife_ok h, bd1_some, rw0]
  by_cases c0 : wh = 0
  · rw [if_pos c0, if_neg (show ¬ wh = 1 by omega), if_neg (show ¬ wh = 2 by omega)]; split <;> rfl
  · rw [if_neg c0]
    by_cases c1 : wh = 1
    · rw [if_pos c1, if_pos c1]; split <;> rfl
    · rw [if_neg c1, if_neg c1, if_pos (show wh = 2 by omega)]
      by_cases c2 : w (50 + p) = -1
      · rw [if_pos c2, if_neg (fun z => by omega)]
      · have e5 : w32 (50 + w (50 + p)) = 50 + w (50 + p) := w32_id (by omega)
        have g3 : 0 ≤ 50 + w (50 + p) := by omega
        have g4 : 50 + w (50 + p) < sz := by omega
        have g5 : 0 ≤ w (50 + p) := by omega
        simp only [c2, e5, g3, g4, g5, true_and, and_self, ↓reduceIte]
        split <;> rfl
theorem Mo_goesThrough_ok (h : y_mg L N g S wh li lv e K Q A F st) : ∃ T, Mo_goesThrough fu L N 154 g = some T ∧ y_off N T ∧ y_go L T (82 + 315 * g) e ∧ T 154 30 = 82 + 315 * g + 0 ∧ y_sg T (fun i => S (5 + i)) (82 + 315 * g) e := by
  obtain ⟨h1, ⟨l4, l62, p18, h32⟩, hS, ⟨s0, s1, s4⟩, ⟨_, _, he, _⟩, hws, _⟩ := h
  have e4 := hS 4 (by omega) (by omega)
  have ew : w32 (77 + 315 * g + 5) = 82 + 315 * g := by rw [w32_id (by omega)]; omega
  have ew4 : w32 (77 + 315 * g + 4) = 77 + 315 * g + 4 := w32_id (by omega)
  have g1 : 0 ≤ 77 + 315 * g + 4 := by omega
  have g2 : 77 + 315 * g + 4 < 2597 := by omega
  have ewe : w32 (82 + 315 * g + e) = 82 + 315 * g + e := w32_id (by omega)
  have a18 : mu N 154 30 (82 + 315 * g) 154 18 = 162 := (mx_ne (by omega)).trans p18
  have a30 : mu N 154 30 (82 + 315 * g) 154 30 = 82 + 315 * g := mx_same _ _ _ _
  have a62 : mu N 154 30 (82 + 315 * g) 162 (77 + 315 * g + 4) = e := ((mx_ne (by omega)).trans e4).trans s4
  have o : y_off N (mu (mu N 154 30 (82 + 315 * g)) 154 31 (82 + 315 * g + e)) := ((y_off.refl N).mu (by omega)).mu (by omega)
  refine ⟨mu (mu N 154 30 (82 + 315 * g)) 154 31 (82 + 315 * g + e), ?_, o, ⟨l4, l62, (o _ _ (by omega)).trans p18, mx_same _ _ _ _, by omega, by omega⟩, ?_, ⟨fun i i0 i1 => ?_, hws, he.2⟩⟩
  · unfold Mo_goesThrough
    simp only [Mo_giftAt_ok (show 0 ≤ g ∧ g ≤ 8 by omega), bd1_some, l4, ↓reduceIte, ew, ↓lt1_def, a18, l62, ew4, g1, g2, and_self, a30, a62, ewe]
  · rw [mx_ne (by omega), mx_same]; omega
  · have := hS (5 + i) (by omega) (by omega)
    show _ = S (5 + i)
    rw [o _ _ (by omega), ← this]
    congr 1; omega
theorem Mo_vestYear_ok (hf : 400 ≤ fu) (h : y_mg L N g S wh li lv e K Q A F st) (r : y_mr L N x lv w) {p : Int} (p0 : 0 ≤ p) (p1 : p < w 1) : ∃ T, Mo_vestYear fu L N 154 x g p = some (T, y_mv (y_vy w K Q A F 99 (w (2 + p)) (w (26 + p)) st)) ∧ y_off N T := by
  obtain ⟨U, u1, u2, u3, u4, u5⟩ := Mo_goesThrough_ok (fu := fu) h
  have hU := h.off u2
  have rU := r.off u2
  obtain ⟨⟨sz, lx, hsz⟩, hx, rw0, v, r20⟩ := rU
  have hw := v.1
  have hy := v.2.1
  have hv := v.2.2 p p0 p1
  have l4 := h.2.1.1
  have e2 : w32 (2 + p) = 2 + p := w32_id (by omega)
  have e26 : w32 (26 + p) = 26 + p := w32_id (by omega)
  have g1 : 0 ≤ 2 + p := by omega
  have g2 : 2 + p < sz := by omega
  have g3 : 0 ≤ 26 + p := by omega
  have g4 : 26 + p < sz := by omega
  have g5 : (0 : Int) < sz := by omega
  have g6 : (0 : Int) ≤ 0 := by omega
  obtain ⟨T, t1, t2⟩ := Mo_vestsSo_ok (fu := fu) (x := x) (w := w) (lv := lv) (b := w (2 + p)) (d := w (26 + p)) (ln := 99) hf u3 u5 v lx hsz (by omega) (fun l l0 l1 => by rw [rw0]; exact ⟨rfl, rfl⟩) (by omega) (by omega) (by omega) hU.2.1.2.2.2 hU.sk (Or.inr hU.2.2.2.2.2.2) u4
  refine ⟨T, ?_, u2.trans fun a i c => t2 a i (by omega)⟩
  unfold Mo_vestYear
  simp only [l4, u1, bd1_some, lx, e2, e26, g1, g2, g3, g4, g5, g6, and_self, ↓reduceIte, rw0, ↓bd2_eq t1]
theorem y_vy_b (v : WV lv w) {ln b d : Int} (hb : b ≤ 400) (hst : 1 ≤ st) (sk : ∀ k, 0 ≤ k → k < st → y_sk K Q A F lv k) : y_yb (y_vy w K Q A F ln b d st) := by
  have h := y_vval_b (ln := ln) (b := b) (d := d) v hb sk (st.toNat + 1) (st - 1) (by omega) (by omega) (by omega)
  unfold y_vy y_yb at *
  dsimp only
  split <;> omega
end
