/-! ===== pure: part 66: the model's vestsSo ===== -/
/-- a range that is asked as a whole: ways, or one way -/
def y_top (S K N A F : Int → Int) (lv e st : Int) (i e' p q : Int) : Prop := (y_seg S K N A F lv e st 1 5 i e' p q ∨ y_seg S K N A F lv e st 2 5 i e' p q)
theorem y_top_b {S K N A F : Int → Int} {lv e st i e' p q : Int} (h : y_top S K N A F lv e st i e' p q) : (0 ≤ i ∧ i < e' ∧ e' ≤ e) ∧ (0 ≤ p ∧ p < q ∧ q ≤ st) ∧ ∀ k, p ≤ k → k < q → y_sk K N A F lv k := by
  rcases h with h | h
  · exact y_seg_b h
  · exact y_seg_b h
/-- the model's signs from c on, e of them, are S -/
def y_sg (M : zM) (S : Int → Int) (c e : Int) : Prop := (∀ i, 0 ≤ i → i < e → M 162 (c + i) = S i) ∧ y_ws S e ∧ e ≤ 310
section
variable {fu : Nat} {L : zL} {M : zM}
theorem Mo_whenAll_top {S K N A F w : Int → Int} {lv e e' st c x ln b d : Int} (hf : 400 ≤ fu) (g : y_go L M c e') (hS : y_sg M S c e) (v : WV lv w) (wn : y_wn L M x lv ln b d w)
    (yb : ∀ k, 0 ≤ k → k < st → y_yb (y_val (-1) (y_vop w K N A ln b d) F k)) {i p q : Int} (h : y_top S K N A F lv e st i e' p q) (hi : M 154 30 = c + i) :
    Mo_whenAll fu L M 154 = some (mu M 154 30 (c + e'), y_mv (y_val (-1) (y_vop w K N A ln b d) F (q - 1))) := by
  have hb := y_top_b h
  have he3 := hS.2.2
  have eM : M = mu M 154 30 (c + i) := by
    funext a j
    unfold mu
    by_cases c : a = 154 ∧ j = 30
    · rw [if_pos c, c.1, c.2]; exact hi
    · rw [if_neg c]
  have l4 := g.1
  have Tg : ∀ i, y_go L (mu M 154 30 (c + i)) c e' := fun i => ⟨g.1, g.2.1, (mx_ne (by omega)).trans g.2.2.1, (mx_ne (by omega)).trans g.2.2.2.1, g.2.2.2.2⟩
  have TS : ∀ i k, 0 ≤ k → k < e → mu M 154 30 (c + i) 162 (c + k) = S k := fun i k h0 h1 => (mx_ne (by omega)).trans (hS.1 k h0 h1)
  show Mo_whenAll_r fu (zg_Mo_whenAll fu L 39) L M 154 = _
  rcases h with h | h
  · obtain ⟨n, hn, e1⟩ := (y_when hf hb.1.2.2 hS.2.2 g hS.1 hS.2.1 v wn yb h (by omega)).2.1 rfl 38 (by omega)
    obtain ⟨n, rfl⟩ : ∃ n', n = n' + 1 := ⟨n - 1, by omega⟩
    have e3 : (zg_Mo_whenAll fu L 39).2.2 (mu M 154 30 (c + i)) 154 = some (mu M 154 30 (c + e'), y_mv (y_val (-1) (y_vop w K N A ln b d) F (q - 1))) := by
      refine e1.trans ?_
      show Mo_whenWay_s5 _ _ _ _ _ _ _ = _
      unfold Mo_whenWay_s5
      rw [l4, if_pos rfl, Mo_passes_n (k := 8) (i := e') (S := S) (Tg e') (mx_same _ _ _ _) (by omega) (by omega) hb.1.2.2 hS.2.1 (TS e') (by omega) (fun z => by omega), bd2_some, if_pos rfl, mu_mu]
    rw [eM]
    unfold Mo_whenAll_r
    rw [l4, if_pos rfl, e3, bd2_some]
    obtain ⟨f, rfl⟩ : ∃ f', fu = f' + 1 := ⟨fu - 1, by omega⟩
    show Mo_whenAll_s5 _ _ _ _ _ _ _ = _
    unfold Mo_whenAll_s5
    rw [l4, if_pos rfl, Mo_passes_n (k := 9) (i := e') (S := S) (Tg e') (mx_same _ _ _ _) (by omega) (by omega) hb.1.2.2 hS.2.1 (TS e') (by omega) (fun z => by omega), bd2_some, if_pos rfl, mu_mu, mu_mu]
  · obtain ⟨n, hn, e1⟩ := (y_when hf hb.1.2.2 hS.2.2 g hS.1 hS.2.1 v wn yb h (by omega)).2.2 rfl 39 (by omega)
    obtain ⟨n, rfl⟩ : ∃ n', n = n' + 1 := ⟨n - 1, by omega⟩
    rw [eM]
    refine e1.trans ?_
    show Mo_whenAll_s5 _ _ _ _ _ _ _ = _
    unfold Mo_whenAll_s5
    rw [l4, if_pos rfl, Mo_passes_n (k := 9) (i := e') (S := S) (Tg e') (mx_same _ _ _ _) (by omega) (by omega) hb.1.2.2 hS.2.1 (TS e') (by omega) (fun z => by omega), bd2_some, if_pos rfl, mu_mu, mu_mu]
/-- the model's fields of a reckoning of a vesting, aside -/
def y_ow (M M' : zM) : Prop := ∀ a i, ¬ (a = 154 ∧ (i = 30 ∨ 33 ≤ i ∧ i ≤ 36)) → M' a i = M a i
/-- the year of the class: what vestingYear answers -/
def y_vy (w K N A F : Int → Int) (ln b d q : Int) : Int := (fun y => if y < 0 then y else max y b) (y_val (-1) (y_vop w K N A ln b d) F (q - 1))
theorem Mo_vestsSo_ok {S K N A F w : Int → Int} {lv e e' st c x sz ln b d : Int} (hf : 400 ≤ fu) (g : y_go L M c e') (hS : y_sg M S c e) (v : WV lv w)
    (hx : L x = (101, sz)) (hsz : 74 ≤ sz) (x4 : x ≠ 154) (hwx : ∀ l, 0 ≤ l → l < lv → M x (2 + l) = w (2 + l) ∧ M x (26 + l) = w (26 + l)) (hb : -99 ≤ b ∧ b ≤ 400) (hd : d = 16777216 ∨ 0 ≤ d ∧ d ≤ 400) (hln : 0 ≤ ln ∧ ln ≤ 99) (h32 : M 154 32 = ln)
    (sk : ∀ k, 0 ≤ k → k < st → y_sk K N A F lv k) {i p q : Int} (h : y_top S K N A F lv e st i e' p q) (hi : M 154 30 = c + i) :
    ∃ M', Mo_vestsSo fu L M 154 x b d (w 0) = some (M', y_mv (y_vy w K N A F ln b d q)) ∧ y_ow M M' := by
  have l4 := g.1
  have hbd := y_top_b h
  have yb : ∀ k, 0 ≤ k → k < st → y_yb (y_val (-1) (y_vop w K N A ln b d) F k) := fun k h0 h1 => y_vval_b v hb.2 sk (k.toNat + 1) k h0 h1 (by omega)
  obtain ⟨Q, hQ⟩ : ∃ Q, Q = mu (mu (mu (mu M 154 33 x) 154 34 b) 154 35 d) 154 36 (w 0) := ⟨_, rfl⟩
  have hQo : ∀ a i, ¬ (a = 154 ∧ 33 ≤ i ∧ i ≤ 36) → Q a i = M a i := fun a i hh => by
    rw [hQ]
    simp (disch := omega) only [mx_ne]
  have wn : y_wn L Q x lv ln b d w := by
    refine ⟨⟨sz, hx, hsz⟩, x4, ⟨?_, ?_, ?_, ?_, ?_⟩, fun l l0 l1 => ?_, hb, hd, hln⟩
    · rw [hQ]; simp (disch := omega) only [mx_ne, mx_same]
    · rw [hQ]; simp (disch := omega) only [mx_ne, mx_same]
    · rw [hQ]; simp (disch := omega) only [mx_ne, mx_same]
    · rw [hQ]; simp (disch := omega) only [mx_same]
    · rw [hQo _ _ (by omega)]; exact h32
    · rw [hQo _ _ (by omega), hQo _ _ (by omega)]; exact hwx l l0 l1
  have gQ : y_go L Q c e' := ⟨g.1, g.2.1, (hQo _ _ (by omega)).trans g.2.2.1, (hQo _ _ (by omega)).trans g.2.2.2.1, g.2.2.2.2⟩
  have sQ : y_sg Q S c e := ⟨fun i h0 h1 => (hQo _ _ (by omega)).trans (hS.1 i h0 h1), hS.2⟩
  have e1 := Mo_whenAll_top hf gQ sQ v wn yb h ((hQo _ _ (by omega)).trans hi)
  refine ⟨mu Q 154 30 (c + e'), ?_, fun a j hh => ?_⟩
  · unfold Mo_vestsSo
    rw [l4, if_pos rfl, lt1_def, lt1_def, lt1_def, lt1_def, ← hQ, e1, bd2_some]
    have b2 := yb (q - 1) (by omega) (by omega)
    unfold y_vy
    generalize y_val (-1) (y_vop w K N A ln b d) F (q - 1) = z at b2
    have hz := y_mv_lt b2
    dsimp only
    by_cases c2 : z < 0
    · rw [if_neg (fun c3 => by have := hz.1.1 c3; omega), if_pos c2]
    · unfold y_yb at b2
      rw [if_pos (hz.1.2 (by omega)), hz.2 (by omega), if_neg c2, (y_mv_lt (show y_yb (max z b) by unfold y_yb; omega)).2 (by omega)]
  · rw [mx_ne (by omega)]
    exact hQo a j (by omega)
end
