/-! ===== pure: part 68: the model's SOONEST ===== -/
/-- what the model's reckoning of SOONEST stands on -/
def y_sn (L : zL) (M : zM) (lv sort life : Int) (w : Int → Int) : Prop :=
  L 164 = (101, 8) ∧ (M 154 22 = 164 ∧ M 154 40 = sort ∧ M 154 41 = life) ∧ (∀ l, 0 ≤ l → l < lv → M 164 l = - w (2 + l) ∧ -99 ≤ w (2 + l) ∧ w (2 + l) ≤ 0) ∧ 0 ≤ life ∧ life < lv
section
variable {fu : Nat} {L : zL} {M : zM}
theorem y_soon {S K N A F w : Int → Int} {lv e e' st c sort life : Int} (hf : 400 ≤ fu) (he : e' ≤ e) (he3 : e ≤ 310) (g : y_go L M c e') (hS : ∀ i, 0 ≤ i → i < e → M 162 (c + i) = S i) (ws : y_ws S e) (v : WV lv w) (wn : y_sn L M lv sort life w) (hst : st ≤ 31)
    (yb : ∀ k, 0 ≤ k → k < st → y_nb k (y_val 0 (y_sop w K N A 99 sort life) F k)) {md dp : Nat} {i j p q : Int} (h : y_seg S K N A F lv e st md dp i j p q) : j ≤ e' →
    (md = 0 → ∀ r, 3 * dp + 1 ≤ r → (zg_Mo_soonAll fu L r).2.1 (mu M 154 30 (c + i)) 154 = some (mu M 154 30 (c + j), y_val 0 (y_sop w K N A 99 sort life) F (q - 1))) ∧
    (md = 1 → ∀ r, 3 * dp + 1 ≤ r → ∃ n : Nat, fu ≤ n + (j - i) ∧ Mo_soonWay_r fu (zg_Mo_soonAll fu L r) L (mu M 154 30 (c + i)) 154 = Mo_soonWay_l5 fu (zg_Mo_soonAll fu L r) L n (mu M 154 30 (c + j)) 154 (y_val 0 (y_sop w K N A 99 sort life) F (q - 1))) ∧
    (md = 2 → ∀ r, 3 * dp + 2 ≤ r → ∃ n : Nat, fu ≤ n + (j - i) ∧ Mo_soonAll_r fu (zg_Mo_soonAll fu L r) L (mu M 154 30 (c + i)) 154 = Mo_soonAll_l5 fu (zg_Mo_soonAll fu L r) L n (mu M 154 30 (c + j)) 154 (y_val 0 (y_sop w K N A 99 sort life) F (q - 1))) := by
  have hg := g
  obtain ⟨l4, l62, p18, p31, c0, c1⟩ := g
  obtain ⟨l64, ⟨m22, m40, m41⟩, hage, hlf⟩ := wn
  have hw := v.1
  have hy := v.2.1
  have T18 : ∀ i, mu M 154 30 (c + i) 154 18 = 162 := fun i => (mx_ne (by omega)).trans p18
  have T30 : ∀ i, mu M 154 30 (c + i) 154 30 = c + i := fun i => mx_same _ _ _ _
  have T62 : ∀ i j, mu M 154 30 (c + i) 162 j = M 162 j := fun i j => mx_ne (by omega)
  have T22 : ∀ i, mu M 154 30 (c + i) 154 22 = 164 := fun i => (mx_ne (by omega)).trans m22
  have T40 : ∀ i, mu M 154 30 (c + i) 154 40 = sort := fun i => (mx_ne (by omega)).trans m40
  have T41 : ∀ i, mu M 154 30 (c + i) 154 41 = life := fun i => (mx_ne (by omega)).trans m41
  have Tx : ∀ i j, mu M 154 30 (c + i) 164 j = M 164 j := fun i j => mx_ne (by omega)
  have hsb := y_sb_b sort
  have Tsb : ∀ i, Mo_soonBorn fu L (mu M 154 30 (c + i)) 154 = some (y_sb sort) := fun i => by
    unfold Mo_soonBorn y_sb
    rw [l4, if_pos rfl, T40]
    (repeat' split) <;> rfl
  have Tg : ∀ i, y_go L (mu M 154 30 (c + i)) c e' := fun i => ⟨l4, l62, T18 i, (mx_ne (by omega)).trans p31, c0, c1⟩
  have TS : ∀ i k, 0 ≤ k → k < e → mu M 154 30 (c + i) 162 (c + k) = S k := fun i k h0 h1 => (T62 i _).trans (hS k h0 h1)
  refine y_seg_ind (S := S) (K := K) (N := N) (A := A) (F := F) (lv := lv) (e := e) (st := st) (fun md dp i j p q => j ≤ e' →
    (md = 0 → ∀ r, 3 * dp + 1 ≤ r → (zg_Mo_soonAll fu L r).2.1 (mu M 154 30 (c + i)) 154 = some (mu M 154 30 (c + j), y_val 0 (y_sop w K N A 99 sort life) F (q - 1))) ∧
    (md = 1 → ∀ r, 3 * dp + 1 ≤ r → ∃ n : Nat, fu ≤ n + (j - i) ∧ Mo_soonWay_r fu (zg_Mo_soonAll fu L r) L (mu M 154 30 (c + i)) 154 = Mo_soonWay_l5 fu (zg_Mo_soonAll fu L r) L n (mu M 154 30 (c + j)) 154 (y_val 0 (y_sop w K N A 99 sort life) F (q - 1))) ∧
    (md = 2 → ∀ r, 3 * dp + 2 ≤ r → ∃ n : Nat, fu ≤ n + (j - i) ∧ Mo_soonAll_r fu (zg_Mo_soonAll fu L r) L (mu M 154 30 (c + i)) 154 = Mo_soonAll_l5 fu (zg_Mo_soonAll fu L r) L n (mu M 154 30 (c + j)) 154 (y_val 0 (y_sop w K N A 99 sort life) F (q - 1)))) ?_ ?_ ?_ ?_ ?_ ?_ ?_ h
  · intro dp i p k n l k0 k1 n0 n1 l0 l1 hkl i0 i1 p0 p1 hs hK hN hj
    refine ⟨fun _ r hr => ?_, fun c => absurd c (by decide), fun c => absurd c (by decide)⟩
    obtain ⟨r, rfl⟩ : ∃ r', r = r' + 1 := ⟨r - 1, by omega⟩
    show Mo_soonFact_r _ _ _ _ _ = _
    have g2 : 0 ≤ c + i := by omega
    have g3 : c + i < 2597 := by omega
    have hsi : M 162 (c + i) = S i := hS i i0 i1
    obtain ⟨d1, d2, d3⟩ := y_dec hs k0 (by omega) l0 (by omega) n0 n1
    have ew : w32 (c + i + 1) = c + (i + 1) := by rw [w32_id (by omega)]; omega
    unfold Mo_soonFact_r
    simp only [l4, T18, T30, l62, g2, g3, and_self, ↓reduceIte, ↓lt1_def, T62, hsi, d1, d2, d3, ew, mu_mu]
    rw [show p + 1 - 1 = p by omega, y_val_eq p0]
    unfold y_sop
    rw [hK, hN]
    rcases (show k = 0 ∨ k = 1 ∨ k = 2 ∨ k = 3 ∨ k = 4 by omega) with rfl | rfl | rfl | rfl | rfl
    · simp only [Int.reduceEq, ↓reduceIte]
    · simp only [Int.reduceEq, ↓reduceIte]
    · simp only [Int.reduceEq, ↓reduceIte, Tsb, bd1_some]
    · have hg := hage life hlf.1 hlf.2
      have e1 : max 0 (w32 (n - M 164 life)) = max 0 (w (2 + life) + min 99 n) := by rw [hg.1, w32_id (by omega)]; omega
      have e2 : w32 (y_sb sort + n) = y_sb sort + min 99 n := by rw [w32_id (by omega)]; omega
      have h8 : life < 8 := by omega
      by_cases cs : sort = 0
      · simp only [Int.reduceEq, ↓reduceIte, T40, T41, T22, l64, cs, hlf.1, h8, and_self, Tx, e1]
      · simp only [Int.reduceEq, ↓reduceIte, T40, cs, Tsb, bd1_some, e2]
    · obtain ⟨hlv, hA⟩ := hkl (Or.inr rfl)
      have hg := hage l l0 hlv
      have e1 : max 0 (w32 (n - M 164 l)) = max 0 (w (2 + A p) + min 99 n) := by rw [hg.1, w32_id (by omega), hA]; omega
      simp only [Int.reduceEq, ↓reduceIte, T22, l64, l0, l1, and_self, Tx, e1]
  · intro dp i j p q n h ih n0 n1 i0 q1 hs hK hN hj
    have hbd := y_seg_b h
    refine ⟨fun _ r hr => ?_, fun c => absurd c (by decide), fun c => absurd c (by decide)⟩
    obtain ⟨r, rfl⟩ : ∃ r', r = r' + 1 := ⟨r - 1, by omega⟩
    have ih2 := (ih hj).1 rfl r (by omega)
    show Mo_soonFact_r _ _ _ _ _ = _
    have g2 : 0 ≤ c + i := by omega
    have g3 : c + i < 2597 := by omega
    have hsi : M 162 (c + i) = S i := hS i i0 (by omega)
    obtain ⟨d1, d2, d3⟩ := y_dec (n := n) (l := 0) (k := 5) (show S i = 10000 * n + 100 * 0 + 5 by omega) (by omega) (by omega) (by omega) (by omega) n0 n1
    have ew : w32 (c + i + 1) = c + (i + 1) := by rw [w32_id (by omega)]; omega
    have b2 := yb (q - 1) (by omega) (by omega)
    have q01 : (1 : Int) ≤ q := by omega
    unfold Mo_soonFact_r
    simp only [l4, T18, T30, l62, g2, g3, and_self, ↓reduceIte, ↓lt1_def, T62, hsi, d1, d2, d3, ew, mu_mu, Int.reduceEq, ih2, bd2_some]
    rw [show q + 1 - 1 = q by omega, y_val_1 q01]
    generalize y_val 0 (y_sop w K N A 99 sort life) F (q - 1) = z at b2
    unfold y_sop
    rw [hK, hN]
    unfold y_nb at b2
    have e : w32 (n + z) = z + n := by rw [w32_id (by omega)]; omega
    simp only [Int.reduceEq, ↓reduceIte, e]
  · intro dp i j p q h ih i0 j1 hs hs2 hj
    have hbd := y_seg_b h
    refine ⟨fun _ r hr => ?_, fun c => absurd c (by decide), fun c => absurd c (by decide)⟩
    obtain ⟨r, rfl⟩ : ∃ r', r = r' + 1 + 1 := ⟨r - 2, by omega⟩
    obtain ⟨n, hn, ih2⟩ := (ih (by omega)).2.2 rfl r (by omega)
    show Mo_soonFact_r _ _ _ _ _ = _
    have g2 : 0 ≤ c + i := by omega
    have g3 : c + i < 2597 := by omega
    have hsi : M 162 (c + i) = S i := hS i i0 (by omega)
    obtain ⟨d1, d2, d3⟩ := y_dec (n := 0) (l := 0) (k := 6) (show S i = 10000 * 0 + 100 * 0 + 6 by omega) (by omega) (by omega) (by omega) (by omega) (by omega) (by omega)
    have ew : w32 (c + i + 1) = c + (i + 1) := by rw [w32_id (by omega)]; omega
    have ew2 : w32 (c + j + 1) = c + (j + 1) := by rw [w32_id (by omega)]; omega
    obtain ⟨n, rfl⟩ : ∃ n', n = n' + 1 := ⟨n - 1, by omega⟩
    have e3 : (zg_Mo_soonAll fu L (r + 1)).1 (mu M 154 30 (c + (i + 1))) 154 = some (mu M 154 30 (c + j), y_val 0 (y_sop w K N A 99 sort life) F (q - 1)) := by
      refine ih2.trans ?_
      show Mo_soonAll_s5 _ _ _ _ _ _ _ = _
      unfold Mo_soonAll_s5
      rw [l4, if_pos rfl, Mo_passes_n (k := 9) (i := j) (S := S) (Tg j) (T30 j) (by omega) (by omega) he ws (TS j) (by omega) (fun _ => by omega), bd2_some, if_pos rfl, mu_mu]
    unfold Mo_soonFact_r
    simp only [l4, T18, T30, l62, g2, g3, and_self, ↓reduceIte, ↓lt1_def, T62, hsi, d1, d2, d3, ew, mu_mu, Int.reduceEq, e3, bd2_some, ew2]
  · intro dp i j p q h ih hj
    have hbd := y_seg_b h
    refine ⟨fun c => absurd c (by decide), fun _ r hr => ?_, fun c => absurd c (by decide)⟩
    have ih2 := (ih hj).1 rfl r (by omega)
    refine ⟨fu, by omega, ?_⟩
    unfold Mo_soonWay_r
    rw [l4, if_pos rfl, ih2, bd2_some]
  · intro dp i m j p r0 q h ih hs h' ih' q1 hK hF hj
    have hbd := y_seg_b h
    have hbd' := y_seg_b h'
    refine ⟨fun c => absurd c (by decide), fun _ r hr => ?_, fun c => absurd c (by decide)⟩
    obtain ⟨n, hn, ih2⟩ := (ih (by omega)).2.1 rfl r hr
    have ih3 := (ih' hj).1 rfl r (by omega)
    obtain ⟨n, rfl⟩ : ∃ n', n = n' + 1 := ⟨n - 1, by omega⟩
    refine ⟨n, by omega, ih2.trans ?_⟩
    show Mo_soonWay_s5 _ _ _ _ _ _ _ = _
    unfold Mo_soonWay_s5
    have hs2 : M 162 (c + m) = 8 := (hS m (by omega) (by omega)).trans hs
    rw [l4, if_pos rfl, Mo_passes_y (k := 8) (i := m) (Tg m) (T30 m) (by omega) (by omega) ((T62 m _).trans hs2) (by omega), bd2_some, if_neg (by decide), mu_mu, ih3, bd2_some, lt1_def]
    have hq := y_val_2 (d := (0 : Int)) (op := y_sop w K N A 99 sort life) (F := F) (p := q) (by omega) (by omega) (by omega)
    rw [show q + 1 - 1 = q by omega, hq, hF]
    have ev : y_sop w K N A 99 sort life q = fun fi la => max fi la := by
      funext fi la
      unfold y_sop
      rw [hK]
      simp only [Int.reduceEq, ↓reduceIte]
    rw [ev]
  · intro dp i j p q h ih hs hj
    have hbd := y_seg_b h
    refine ⟨fun c => absurd c (by decide), fun c => absurd c (by decide), fun _ r hr => ?_⟩
    obtain ⟨r, rfl⟩ : ∃ r', r = r' + 1 := ⟨r - 1, by omega⟩
    obtain ⟨n, hn, ih2⟩ := (ih hj).2.1 rfl r (by omega)
    obtain ⟨n, rfl⟩ : ∃ n', n = n' + 1 := ⟨n - 1, by omega⟩
    refine ⟨fu, by omega, ?_⟩
    have e3 : (zg_Mo_soonAll fu L (r + 1)).2.2 (mu M 154 30 (c + i)) 154 = some (mu M 154 30 (c + j), y_val 0 (y_sop w K N A 99 sort life) F (q - 1)) := by
      refine ih2.trans ?_
      show Mo_soonWay_s5 _ _ _ _ _ _ _ = _
      unfold Mo_soonWay_s5
      rw [l4, if_pos rfl, Mo_passes_n (k := 8) (i := j) (S := S) (Tg j) (T30 j) (by omega) (by omega) he ws (TS j) (by omega) (fun _ => hs (by omega)), bd2_some, if_pos rfl, mu_mu]
    unfold Mo_soonAll_r
    rw [l4, if_pos rfl, e3, bd2_some]
  · intro dp i m j p r0 q h ih hs h' ih' hn8 q1 hK hF hj
    have hbd := y_seg_b h
    have hbd' := y_seg_b h'
    refine ⟨fun c => absurd c (by decide), fun c => absurd c (by decide), fun _ r hr => ?_⟩
    obtain ⟨n, hn, ih2⟩ := (ih (by omega)).2.2 rfl r hr
    obtain ⟨r, rfl⟩ : ∃ r', r = r' + 1 := ⟨r - 1, by omega⟩
    obtain ⟨n3, hn3, ih3⟩ := (ih' hj).2.1 rfl r (by omega)
    obtain ⟨n, rfl⟩ : ∃ n', n = n' + 1 := ⟨n - 1, by omega⟩
    obtain ⟨n3, rfl⟩ : ∃ n', n3 = n' + 1 := ⟨n3 - 1, by omega⟩
    have e3 : (zg_Mo_soonAll fu L (r + 1)).2.2 (mu M 154 30 (c + (m + 1))) 154 = some (mu M 154 30 (c + j), y_val 0 (y_sop w K N A 99 sort life) F (q - 1)) := by
      refine ih3.trans ?_
      show Mo_soonWay_s5 _ _ _ _ _ _ _ = _
      unfold Mo_soonWay_s5
      rw [l4, if_pos rfl, Mo_passes_n (k := 8) (i := j) (S := S) (Tg j) (T30 j) (by omega) (by omega) he ws (TS j) (by omega) (fun _ => hn8 (by omega)), bd2_some, if_pos rfl, mu_mu]
    refine ⟨n, by omega, ih2.trans ?_⟩
    show Mo_soonAll_s5 _ _ _ _ _ _ _ = _
    unfold Mo_soonAll_s5
    have hs2 : M 162 (c + m) = 9 := (hS m (by omega) (by omega)).trans hs
    rw [l4, if_pos rfl, Mo_passes_y (k := 9) (i := m) (Tg m) (T30 m) (by omega) (by omega) ((T62 m _).trans hs2) (by omega), bd2_some, if_neg (by decide), mu_mu, e3, bd2_some, lt1_def]
    have hq := y_val_2 (d := (0 : Int)) (op := y_sop w K N A 99 sort life) (F := F) (p := q) (by omega) (by omega) (by omega)
    rw [show q + 1 - 1 = q by omega, hq, hF]
    have ev : y_sop w K N A 99 sort life q = fun fi la => min fi la := by
      funext fi la
      unfold y_sop
      rw [hK]
      simp only [Int.reduceEq, ↓reduceIte]
    rw [ev]
theorem Mo_soonAll_top {S K N A F w : Int → Int} {lv e e' st c sort life : Int} (hf : 400 ≤ fu) (g : y_go L M c e') (hS : y_sg M S c e) (v : WV lv w) (wn : y_sn L M lv sort life w) (hst : st ≤ 31)
    (yb : ∀ k, 0 ≤ k → k < st → y_nb k (y_val 0 (y_sop w K N A 99 sort life) F k)) {i p q : Int} (h : y_top S K N A F lv e st i e' p q) (hi : M 154 30 = c + i) :
    Mo_soonAll fu L M 154 = some (mu M 154 30 (c + e'), y_val 0 (y_sop w K N A 99 sort life) F (q - 1)) := by
  have hb := y_top_b h
  have he3 := hS.2.2
  have eM : M = mu M 154 30 (c + i) := by
    funext a j
    unfold mu
    by_cases c : a = 154 ∧ j = 30
    · rw [if_pos c, c.1, c.2]; exact hi
    · rw [if_neg c]
  have l4 := g.1
  have Tg : ∀ i, y_go L (mu M 154 30 (c + i)) c e' := fun i => ⟨g.1, g.2.1, (mx_ne (by omega)).trans g.2.2.1, (mx_ne (by omega)).trans g.2.2.2.1, g.2.2.2.2⟩
  have TS : ∀ i k, 0 ≤ k → k < e → mu M 154 30 (c + i) 162 (c + k) = S k := fun i k h0 h1 => (mx_ne (by omega)).trans (hS.1 k h0 h1)
  show Mo_soonAll_r fu (zg_Mo_soonAll fu L 39) L M 154 = _
  rcases h with h | h
  · obtain ⟨n, hn, e1⟩ := (y_soon hf hb.1.2.2 hS.2.2 g hS.1 hS.2.1 v wn hst yb h (by omega)).2.1 rfl 38 (by omega)
    obtain ⟨n, rfl⟩ : ∃ n', n = n' + 1 := ⟨n - 1, by omega⟩
    have e3 : (zg_Mo_soonAll fu L 39).2.2 (mu M 154 30 (c + i)) 154 = some (mu M 154 30 (c + e'), y_val 0 (y_sop w K N A 99 sort life) F (q - 1)) := by
      refine e1.trans ?_
      show Mo_soonWay_s5 _ _ _ _ _ _ _ = _
      unfold Mo_soonWay_s5
      rw [l4, if_pos rfl, Mo_passes_n (k := 8) (i := e') (S := S) (Tg e') (mx_same _ _ _ _) (by omega) (by omega) hb.1.2.2 hS.2.1 (TS e') (by omega) (fun z => by omega), bd2_some, if_pos rfl, mu_mu]
    rw [eM]
    unfold Mo_soonAll_r
    rw [l4, if_pos rfl, e3, bd2_some]
    obtain ⟨f, rfl⟩ : ∃ f', fu = f' + 1 := ⟨fu - 1, by omega⟩
    show Mo_soonAll_s5 _ _ _ _ _ _ _ = _
    unfold Mo_soonAll_s5
    rw [l4, if_pos rfl, Mo_passes_n (k := 9) (i := e') (S := S) (Tg e') (mx_same _ _ _ _) (by omega) (by omega) hb.1.2.2 hS.2.1 (TS e') (by omega) (fun z => by omega), bd2_some, if_pos rfl, mu_mu, mu_mu]
  · obtain ⟨n, hn, e1⟩ := (y_soon hf hb.1.2.2 hS.2.2 g hS.1 hS.2.1 v wn hst yb h (by omega)).2.2 rfl 39 (by omega)
    obtain ⟨n, rfl⟩ : ∃ n', n = n' + 1 := ⟨n - 1, by omega⟩
    rw [eM]
    refine e1.trans ?_
    show Mo_soonAll_s5 _ _ _ _ _ _ _ = _
    unfold Mo_soonAll_s5
    rw [l4, if_pos rfl, Mo_passes_n (k := 9) (i := e') (S := S) (Tg e') (mx_same _ _ _ _) (by omega) (by omega) hb.1.2.2 hS.2.1 (TS e') (by omega) (fun z => by omega), bd2_some, if_pos rfl, mu_mu, mu_mu]
end
