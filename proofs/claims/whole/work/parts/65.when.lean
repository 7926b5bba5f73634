/-! ===== pure: part 65: the model reckons when one vests ===== -/
theorem y_vval_b {w K N A F : Int → Int} {lv ln b d m : Int} (v : WV lv w) (hb : b ≤ 400) (sk : ∀ k, 0 ≤ k → k < m → y_sk K N A F lv k) : ∀ (n : Nat) (k : Int), 0 ≤ k → k < m → k < n → y_yb (y_val (-1) (y_vop w K N A ln b d) F k)
  | 0, k, h0, _, h1 => absurd h1 (by omega)
  | n + 1, k, h0, hm, h1 => by
    have s := sk k h0 hm
    obtain ⟨s1, s2, s3, s4, s5⟩ := s
    have hd : y_yb (-1) := by unfold y_yb; omega
    have hla : y_yb (y_tab (-1) (y_vop w K N A ln b d) F k.toNat (k - 1)) := by
      by_cases c : 1 ≤ k
      · rw [y_tab_val k.toNat (k - 1) (by omega) (by omega)]
        exact y_vval_b v hb sk n (k - 1) (by omega) (by omega) (by omega)
      · rw [show k = 0 by omega]; exact hd
    rw [y_val_eq h0]
    by_cases c : 6 ≤ K k
    · have s4' := s4 c
      refine y_vop_b v hb s3 s2 ?_ hla
      rw [y_tab_val k.toNat (F k) s4'.1 (by omega)]
      exact y_vval_b v hb sk n (F k) s4'.1 (by omega) (by omega)
    · have e : ∀ z z' y, y_vop w K N A ln b d k z y = y_vop w K N A ln b d k z' y := fun z z' y => by
        unfold y_vop
        rw [if_neg (show ¬ K k = 6 by omega), if_neg (show ¬ K k = 6 by omega)]
        by_cases c5 : K k = 5
        · simp only [c5, Int.reduceEq, ↓reduceIte]
        · (repeat' split) <;> first | rfl | omega
      rw [e _ (-1)]
      exact y_vop_b v hb s3 s2 hd hla
def y_mv (y : Int) : Int := if y = -1 then 1048576 else if y = -2 then 2097152 else y
theorem y_mv_asof {now n : Int} (h : 0 ≤ n) : y_mv (y_asof now n) = if now < n then 1048576 else n := by
  unfold y_mv y_asof
  (repeat' split) <;> omega
theorem y_mv_later {a b : Int} (h : y_yb a) (h' : y_yb b) : y_mv (y_later a b) = max (y_mv a) (y_mv b) := by
  unfold y_yb at *
  unfold y_mv y_later
  (repeat' split) <;> omega
theorem y_mv_earl {a b : Int} (h : y_yb a) (h' : y_yb b) : y_mv (y_earl a b) = min (y_mv a) (y_mv b) := by
  unfold y_yb at *
  unfold y_mv y_earl
  (repeat' split) <;> omega
theorem y_mv_lt {a : Int} (h : y_yb a) : (y_mv a < 1048576 ↔ 0 ≤ a) ∧ (0 ≤ a → y_mv a = a) := by
  unfold y_yb at *
  unfold y_mv
  (repeat' split) <;> omega
theorem y_mv_rch {now b d n : Int} : y_mv (y_rch now b d n) = if d < max 0 (b + n) then 2097152 else if now < max 0 (b + n) then 1048576 else max 0 (b + n) := by
  unfold y_mv y_rch y_asof
  (repeat' split) <;> omega
theorem mu_mu (M : zM) (a i u v : Int) : mu (mu M a i u) a i v = mu M a i v := by
  funext b j
  unfold mu
  by_cases c : b = a ∧ j = i
  · rw [if_pos c, if_pos c]
  · rw [if_neg c, if_neg c, if_neg c]
section
variable {fu : Nat} {L : zL} {M : zM}
/-- what stands still while the model goes through signs from c on, e of them told -/
def y_go (L : zL) (M : zM) (c e : Int) : Prop := L 154 = (13, 0) ∧ L 162 = (101, 2597) ∧ M 154 18 = 162 ∧ M 154 31 = c + e ∧ 0 ≤ c ∧ c + e ≤ 2597
theorem Mo_passes_y {k c e i : Int} (g : y_go L M c e) (hi : M 154 30 = c + i) (h0 : 0 ≤ i) (h1 : i < e) (hs : M 162 (c + i) = k) (hk : 0 ≤ k ∧ k ≤ 9) : Mo_passes fu L M 154 k = some (mu M 154 30 (c + (i + 1)), 1) := by
  obtain ⟨l4, l62, p18, p31, c0, c1⟩ := g
  have et : w32 (Int.tmod k 100) = k := (y_dec (s := k) (n := 0) (l := 0) (k := k) (by omega) hk.1 (by omega) (by omega) (by omega) (by omega) (by omega)).1
  have ew : w32 (c + i + 1) = c + (i + 1) := by rw [w32_id (by omega)]; omega
  have g1 : c + i < c + e := by omega
  have g2 : 0 ≤ c + i := by omega
  have g3 : c + i < 2597 := by omega
  unfold Mo_passes Mo_isNext
  simp only [l4, p18, hi, p31, l62, g1, g2, g3, hs, et, and_self, ↓reduceIte, bd1_some, ↓lt1_def, Int.reduceEq, ew]
/-- all signs of a row, each in its form -/
def y_ws (S : Int → Int) (e : Int) : Prop := ∀ i, 0 ≤ i → i < e → ∃ n l h, S i = 10000 * n + 100 * l + h ∧ (0 ≤ n ∧ n ≤ 99) ∧ (0 ≤ l ∧ l ≤ 7) ∧ (0 ≤ h ∧ h ≤ 9) ∧ (6 ≤ h → n = 0 ∧ l = 0)
theorem Mo_passes_n {S : Int → Int} {k c e e' i : Int} (g : y_go L M c e) (hi : M 154 30 = c + i) (h0 : 0 ≤ i) (h1 : i ≤ e) (he : e ≤ e') (ws : y_ws S e') (hS : ∀ i, 0 ≤ i → i < e' → M 162 (c + i) = S i) (hk : 6 ≤ k) (hs : i < e → S i ≠ k) : Mo_passes fu L M 154 k = some (mu M 154 30 (c + i), 0) := by
  obtain ⟨l4, l62, p18, p31, c0, c1⟩ := g
  have ew : w32 (c + i + 0) = c + i := by rw [w32_id (by omega)]; omega
  unfold Mo_passes Mo_isNext
  by_cases c2 : i < e
  · obtain ⟨n, l, h, hs1, hn, hl, hh, h6⟩ := ws i h0 (by omega)
    have e62 : M 162 (c + i) = 10000 * n + 100 * l + h := (hS i h0 (by omega)).trans hs1
    have et : w32 (Int.tmod (10000 * n + 100 * l + h) 100) = h := (y_dec rfl hh.1 (by omega) hl.1 (by omega) hn.1 hn.2).1
    have g1 : c + i < c + e := by omega
    have g2 : 0 ≤ c + i := by omega
    have g3 : c + i < 2597 := by omega
    have hne : ¬ h = k := fun hk2 => by
      have := h6 (by omega)
      have := hs c2
      omega
    simp only [l4, p18, hi, p31, l62, g1, g2, g3, e62, et, hne, and_self, ↓reduceIte, bd1_some, ↓lt1_def, ew]
  · have g1 : ¬ c + i < c + e := by omega
    simp only [l4, hi, p31, g1, ↓reduceIte, bd1_some, ↓lt1_def, ew]
/-- what the model's reckoning of a vesting stands on: the row x of its world, as w says it -/
def y_wn (L : zL) (M : zM) (x lv ln b d : Int) (w : Int → Int) : Prop :=
  (∃ sz, L x = (101, sz) ∧ 74 ≤ sz) ∧ x ≠ 154 ∧ (M 154 33 = x ∧ M 154 34 = b ∧ M 154 35 = d ∧ M 154 36 = w 0 ∧ M 154 32 = ln) ∧ (∀ l, 0 ≤ l → l < lv → M x (2 + l) = w (2 + l) ∧ M x (26 + l) = w (26 + l)) ∧ (-99 ≤ b ∧ b ≤ 400) ∧ (d = 16777216 ∨ 0 ≤ d ∧ d ≤ 400) ∧ 0 ≤ ln ∧ ln ≤ 99
theorem Mo_reached_ok {b d n now ln : Int} (l4 : L 154 = (13, 0)) (hn : 0 ≤ n ∧ n ≤ 99) (hb : -400 ≤ b ∧ b ≤ 400) (hln : 0 ≤ ln ∧ ln ≤ 99) (h32 : M 154 32 = ln) (h36 : M 154 36 = now) : Mo_reached fu L M 154 b d n = some (y_mv (y_rch now b d (min ln n))) := by
  have e : w32 (b + min n ln) = b + min ln n := by rw [w32_id (by omega)]; omega
  unfold Mo_reached
  rw [l4, if_pos rfl, h32, lt1_def, e, h36, y_mv_rch]
  (repeat' split) <;> rfl
theorem y_when {S K N A F w : Int → Int} {lv e e' st c x ln b d : Int} (hf : 400 ≤ fu) (he : e' ≤ e) (he3 : e ≤ 310) (g : y_go L M c e') (hS : ∀ i, 0 ≤ i → i < e → M 162 (c + i) = S i) (ws : y_ws S e) (v : WV lv w) (wn : y_wn L M x lv ln b d w)
    (yb : ∀ k, 0 ≤ k → k < st → y_yb (y_val (-1) (y_vop w K N A ln b d) F k)) {md dp : Nat} {i j p q : Int} (h : y_seg S K N A F lv e st md dp i j p q) : j ≤ e' →
    (md = 0 → ∀ r, 3 * dp + 1 ≤ r → (zg_Mo_whenAll fu L r).2.1 (mu M 154 30 (c + i)) 154 = some (mu M 154 30 (c + j), y_mv (y_val (-1) (y_vop w K N A ln b d) F (q - 1)))) ∧
    (md = 1 → ∀ r, 3 * dp + 1 ≤ r → ∃ n : Nat, fu ≤ n + (j - i) ∧ Mo_whenWay_r fu (zg_Mo_whenAll fu L r) L (mu M 154 30 (c + i)) 154 = Mo_whenWay_l5 fu (zg_Mo_whenAll fu L r) L n (mu M 154 30 (c + j)) 154 (y_mv (y_val (-1) (y_vop w K N A ln b d) F (q - 1)))) ∧
    (md = 2 → ∀ r, 3 * dp + 2 ≤ r → ∃ n : Nat, fu ≤ n + (j - i) ∧ Mo_whenAll_r fu (zg_Mo_whenAll fu L r) L (mu M 154 30 (c + i)) 154 = Mo_whenAll_l5 fu (zg_Mo_whenAll fu L r) L n (mu M 154 30 (c + j)) 154 (y_mv (y_val (-1) (y_vop w K N A ln b d) F (q - 1)))) := by
  have hg := g
  obtain ⟨l4, l62, p18, p31, c0, c1⟩ := g
  obtain ⟨⟨sz, lx, hsz⟩, x4, ⟨m33, m34, m35, m36, m32⟩, hwx, hb, hd, hln⟩ := wn
  have hw := v.1
  have hy := v.2.1
  have T18 : ∀ i, mu M 154 30 (c + i) 154 18 = 162 := fun i => (mx_ne (by omega)).trans p18
  have T30 : ∀ i, mu M 154 30 (c + i) 154 30 = c + i := fun i => mx_same _ _ _ _
  have T62 : ∀ i j, mu M 154 30 (c + i) 162 j = M 162 j := fun i j => mx_ne (by omega)
  have T33 : ∀ i, mu M 154 30 (c + i) 154 33 = x := fun i => (mx_ne (by omega)).trans m33
  have T34 : ∀ i, mu M 154 30 (c + i) 154 34 = b := fun i => (mx_ne (by omega)).trans m34
  have T35 : ∀ i, mu M 154 30 (c + i) 154 35 = d := fun i => (mx_ne (by omega)).trans m35
  have T36 : ∀ i, mu M 154 30 (c + i) 154 36 = w 0 := fun i => (mx_ne (by omega)).trans m36
  have T32 : ∀ i, mu M 154 30 (c + i) 154 32 = ln := fun i => (mx_ne (by omega)).trans m32
  have Tx : ∀ i j, mu M 154 30 (c + i) x j = M x j := fun i j => mx_ne (by omega)
  have Tg : ∀ i, y_go L (mu M 154 30 (c + i)) c e' := fun i => ⟨l4, l62, T18 i, (mx_ne (by omega)).trans p31, c0, c1⟩
  have TS : ∀ i k, 0 ≤ k → k < e → mu M 154 30 (c + i) 162 (c + k) = S k := fun i k h0 h1 => (T62 i _).trans (hS k h0 h1)
  refine y_seg_ind (S := S) (K := K) (N := N) (A := A) (F := F) (lv := lv) (e := e) (st := st) (fun md dp i j p q => j ≤ e' →
    (md = 0 → ∀ r, 3 * dp + 1 ≤ r → (zg_Mo_whenAll fu L r).2.1 (mu M 154 30 (c + i)) 154 = some (mu M 154 30 (c + j), y_mv (y_val (-1) (y_vop w K N A ln b d) F (q - 1)))) ∧
    (md = 1 → ∀ r, 3 * dp + 1 ≤ r → ∃ n : Nat, fu ≤ n + (j - i) ∧ Mo_whenWay_r fu (zg_Mo_whenAll fu L r) L (mu M 154 30 (c + i)) 154 = Mo_whenWay_l5 fu (zg_Mo_whenAll fu L r) L n (mu M 154 30 (c + j)) 154 (y_mv (y_val (-1) (y_vop w K N A ln b d) F (q - 1)))) ∧
    (md = 2 → ∀ r, 3 * dp + 2 ≤ r → ∃ n : Nat, fu ≤ n + (j - i) ∧ Mo_whenAll_r fu (zg_Mo_whenAll fu L r) L (mu M 154 30 (c + i)) 154 = Mo_whenAll_l5 fu (zg_Mo_whenAll fu L r) L n (mu M 154 30 (c + j)) 154 (y_mv (y_val (-1) (y_vop w K N A ln b d) F (q - 1))))) ?_ ?_ ?_ ?_ ?_ ?_ ?_ h
  · intro dp i p k n l k0 k1 n0 n1 l0 l1 hkl i0 i1 p0 p1 hs hK hN hj
    refine ⟨fun _ r hr => ?_, fun c => absurd c (by decide), fun c => absurd c (by decide)⟩
    obtain ⟨r, rfl⟩ : ∃ r', r = r' + 1 := ⟨r - 1, by omega⟩
    show Mo_whenFact_r _ _ _ _ _ = _
    have g2 : 0 ≤ c + i := by omega
    have g3 : c + i < 2597 := by omega
    have hsi : M 162 (c + i) = S i := hS i i0 i1
    obtain ⟨d1, d2, d3⟩ := y_dec hs k0 (by omega) l0 (by omega) n0 n1
    have ew : w32 (c + i + 1) = c + (i + 1) := by rw [w32_id (by omega)]; omega
    have e26 : w32 (26 + l) = 26 + l := w32_id (by omega)
    have e2 : w32 (2 + l) = 2 + l := w32_id (by omega)
    have gl : 0 ≤ 26 + l := by omega
    have gl2 : 26 + l < sz := by omega
    have gm : 0 ≤ 2 + l := by omega
    have gm2 : 2 + l < sz := by omega
    unfold Mo_whenFact_r
    simp only [l4, T18, T30, l62, g2, g3, and_self, ↓reduceIte, ↓lt1_def, T62, hsi, d1, d2, d3, ew, mu_mu]
    rw [show p + 1 - 1 = p by omega, y_val_eq p0]
    unfold y_vop
    rw [hK, hN]
    rcases (show k = 0 ∨ k = 1 ∨ k = 2 ∨ k = 3 ∨ k = 4 by omega) with rfl | rfl | rfl | rfl | rfl
    · simp only [Int.reduceEq, ↓reduceIte, T36]
      rw [y_mv_asof n0]
      split <;> rfl
    · obtain ⟨hlv, hA⟩ := hkl (Or.inl rfl)
      have hv := v.2.2 l l0 (by omega)
      simp only [Int.reduceEq, ↓reduceIte, T33, lx, e26, gl, gl2, and_self, Tx, (hwx l l0 hlv).2, hA]
      by_cases c2 : w (26 + l) = 16777216
      · simp only [c2, ↓reduceIte]; rfl
      · simp only [c2, ↓reduceIte]
        rw [(y_mv_lt (show y_yb (w (26 + l)) by unfold y_yb; omega)).2 (by omega)]
    · simp only [Int.reduceEq, ↓reduceIte, T34]
      rw [(y_mv_lt (show y_yb (max 0 b) by unfold y_yb; omega)).2 (by omega)]
    · simp only [Int.reduceEq, ↓reduceIte, T34, T35]
      rw [Mo_reached_ok (now := w 0) (ln := ln) l4 ⟨n0, n1⟩ (by omega) hln (T32 _) (T36 _), bd1_some]
    · obtain ⟨hlv, hA⟩ := hkl (Or.inr rfl)
      have hv := v.2.2 l l0 (by omega)
      simp only [Int.reduceEq, ↓reduceIte, T33, lx, e26, e2, gl, gl2, gm, gm2, and_self, Tx, (hwx l l0 hlv).1, (hwx l l0 hlv).2, hA]
      rw [Mo_reached_ok (now := w 0) (ln := ln) l4 ⟨n0, n1⟩ (by omega) hln (T32 _) (T36 _), bd1_some]
  · intro dp i j p q n h ih n0 n1 i0 q1 hs hK hN hj
    have hbd := y_seg_b h
    refine ⟨fun _ r hr => ?_, fun c => absurd c (by decide), fun c => absurd c (by decide)⟩
    obtain ⟨r, rfl⟩ : ∃ r', r = r' + 1 := ⟨r - 1, by omega⟩
    have ih2 := (ih hj).1 rfl r (by omega)
    show Mo_whenFact_r _ _ _ _ _ = _
    have g2 : 0 ≤ c + i := by omega
    have g3 : c + i < 2597 := by omega
    have hsi : M 162 (c + i) = S i := hS i i0 (by omega)
    obtain ⟨d1, d2, d3⟩ := y_dec (n := n) (l := 0) (k := 5) (show S i = 10000 * n + 100 * 0 + 5 by omega) (by omega) (by omega) (by omega) (by omega) n0 n1
    have ew : w32 (c + i + 1) = c + (i + 1) := by rw [w32_id (by omega)]; omega
    have b2 := yb (q - 1) (by omega) (by omega)
    have q01 : (1 : Int) ≤ q := by omega
    unfold Mo_whenFact_r
    simp only [l4, T18, T30, l62, g2, g3, and_self, ↓reduceIte, ↓lt1_def, T62, hsi, d1, d2, d3, ew, mu_mu, Int.reduceEq, ih2, bd2_some, T36]
    rw [show q + 1 - 1 = q by omega, y_val_1 q01]
    generalize y_val (-1) (y_vop w K N A ln b d) F (q - 1) = z at b2
    unfold y_vop
    rw [hK, hN]
    simp only [Int.reduceEq, ↓reduceIte]
    have hz := y_mv_lt b2
    unfold y_yb at b2
    by_cases c2 : 0 ≤ z
    · rw [if_pos (hz.1.2 c2), hz.2 c2, w32_id (by omega), if_neg (show ¬ z < 0 by omega), y_mv_asof (by omega)]
      split <;> rfl
    · rw [if_neg (fun c3 => c2 (hz.1.1 c3)), if_pos (show z < 0 by omega)]
  · intro dp i j p q h ih i0 j1 hs hs2 hj
    have hbd := y_seg_b h
    refine ⟨fun _ r hr => ?_, fun c => absurd c (by decide), fun c => absurd c (by decide)⟩
    obtain ⟨r, rfl⟩ : ∃ r', r = r' + 1 + 1 := ⟨r - 2, by omega⟩
    obtain ⟨n, hn, ih2⟩ := (ih (by omega)).2.2 rfl r (by omega)
    show Mo_whenFact_r _ _ _ _ _ = _
    have g2 : 0 ≤ c + i := by omega
    have g3 : c + i < 2597 := by omega
    have hsi : M 162 (c + i) = S i := hS i i0 (by omega)
    obtain ⟨d1, d2, d3⟩ := y_dec (n := 0) (l := 0) (k := 6) (show S i = 10000 * 0 + 100 * 0 + 6 by omega) (by omega) (by omega) (by omega) (by omega) (by omega) (by omega)
    have ew : w32 (c + i + 1) = c + (i + 1) := by rw [w32_id (by omega)]; omega
    have ew2 : w32 (c + j + 1) = c + (j + 1) := by rw [w32_id (by omega)]; omega
    obtain ⟨n, rfl⟩ : ∃ n', n = n' + 1 := ⟨n - 1, by omega⟩
    have e3 : (zg_Mo_whenAll fu L (r + 1)).1 (mu M 154 30 (c + (i + 1))) 154 = some (mu M 154 30 (c + j), y_mv (y_val (-1) (y_vop w K N A ln b d) F (q - 1))) := by
      refine ih2.trans ?_
      show Mo_whenAll_s5 _ _ _ _ _ _ _ = _
      unfold Mo_whenAll_s5
      rw [l4, if_pos rfl, Mo_passes_n (k := 9) (i := j) (S := S) (Tg j) (T30 j) (by omega) (by omega) he ws (TS j) (by omega) (fun _ => by omega), bd2_some, if_pos rfl, mu_mu]
    unfold Mo_whenFact_r
    simp only [l4, T18, T30, l62, g2, g3, and_self, ↓reduceIte, ↓lt1_def, T62, hsi, d1, d2, d3, ew, mu_mu, Int.reduceEq, e3, bd2_some, ew2]
  · intro dp i j p q h ih hj
    have hbd := y_seg_b h
    refine ⟨fun c => absurd c (by decide), fun _ r hr => ?_, fun c => absurd c (by decide)⟩
    have ih2 := (ih hj).1 rfl r (by omega)
    refine ⟨fu, by omega, ?_⟩
    unfold Mo_whenWay_r
    rw [l4, if_pos rfl, ih2, bd2_some]
  · intro dp i m j p r0 q h ih hs h' ih' q1 hK hF hj
    have hbd := y_seg_b h
    have hbd' := y_seg_b h'
    refine ⟨fun c => absurd c (by decide), fun _ r hr => ?_, fun c => absurd c (by decide)⟩
    obtain ⟨n, hn, ih2⟩ := (ih (by omega)).2.1 rfl r hr
    have ih3 := (ih' hj).1 rfl r (by omega)
    obtain ⟨n, rfl⟩ : ∃ n', n = n' + 1 := ⟨n - 1, by omega⟩
    refine ⟨n, by omega, ih2.trans ?_⟩
    have b1 := yb (r0 - 1) (by omega) (by omega)
    have b2 := yb (q - 1) (by omega) (by omega)
    show Mo_whenWay_s5 _ _ _ _ _ _ _ = _
    unfold Mo_whenWay_s5
    have hs2 : M 162 (c + m) = 8 := (hS m (by omega) (by omega)).trans hs
    rw [l4, if_pos rfl, Mo_passes_y (k := 8) (i := m) (Tg m) (T30 m) (by omega) (by omega) ((T62 m _).trans hs2) (by omega), bd2_some, if_neg (by decide), mu_mu, ih3, bd2_some, lt1_def, ← y_mv_later b1 b2]
    have hq := y_val_2 (d := (-1 : Int)) (op := y_vop w K N A ln b d) (F := F) (p := q) (by omega) (by omega) (by omega)
    rw [show q + 1 - 1 = q by omega, hq, hF]
    have ev : y_vop w K N A ln b d q = fun fi la => y_later fi la := by
      funext fi la
      unfold y_vop
      rw [hK]
      simp only [Int.reduceEq, ↓reduceIte]
    rw [ev]
  · intro dp i j p q h ih hs hj
    have hbd := y_seg_b h
    refine ⟨fun c => absurd c (by decide), fun c => absurd c (by decide), fun _ r hr => ?_⟩
    obtain ⟨r, rfl⟩ : ∃ r', r = r' + 1 := ⟨r - 1, by omega⟩
    obtain ⟨n, hn, ih2⟩ := (ih hj).2.1 rfl r (by omega)
    obtain ⟨n, rfl⟩ : ∃ n', n = n' + 1 := ⟨n - 1, by omega⟩
    refine ⟨fu, by omega, ?_⟩
    have e3 : (zg_Mo_whenAll fu L (r + 1)).2.2 (mu M 154 30 (c + i)) 154 = some (mu M 154 30 (c + j), y_mv (y_val (-1) (y_vop w K N A ln b d) F (q - 1))) := by
      refine ih2.trans ?_
      show Mo_whenWay_s5 _ _ _ _ _ _ _ = _
      unfold Mo_whenWay_s5
      rw [l4, if_pos rfl, Mo_passes_n (k := 8) (i := j) (S := S) (Tg j) (T30 j) (by omega) (by omega) he ws (TS j) (by omega) (fun _ => hs (by omega)), bd2_some, if_pos rfl, mu_mu]
    unfold Mo_whenAll_r
    rw [l4, if_pos rfl, e3, bd2_some]
  · intro dp i m j p r0 q h ih hs h' ih' hn8 q1 hK hF hj
    have hbd := y_seg_b h
    have hbd' := y_seg_b h'
    refine ⟨fun c => absurd c (by decide), fun c => absurd c (by decide), fun _ r hr => ?_⟩
    obtain ⟨n, hn, ih2⟩ := (ih (by omega)).2.2 rfl r hr
    obtain ⟨r, rfl⟩ : ∃ r', r = r' + 1 := ⟨r - 1, by omega⟩
    obtain ⟨n3, hn3, ih3⟩ := (ih' hj).2.1 rfl r (by omega)
    obtain ⟨n, rfl⟩ : ∃ n', n = n' + 1 := ⟨n - 1, by omega⟩
    obtain ⟨n3, rfl⟩ : ∃ n', n3 = n' + 1 := ⟨n3 - 1, by omega⟩
    have e3 : (zg_Mo_whenAll fu L (r + 1)).2.2 (mu M 154 30 (c + (m + 1))) 154 = some (mu M 154 30 (c + j), y_mv (y_val (-1) (y_vop w K N A ln b d) F (q - 1))) := by
      refine ih3.trans ?_
      show Mo_whenWay_s5 _ _ _ _ _ _ _ = _
      unfold Mo_whenWay_s5
      rw [l4, if_pos rfl, Mo_passes_n (k := 8) (i := j) (S := S) (Tg j) (T30 j) (by omega) (by omega) he ws (TS j) (by omega) (fun _ => hn8 (by omega)), bd2_some, if_pos rfl, mu_mu]
    refine ⟨n, by omega, ih2.trans ?_⟩
    have b1 := yb (r0 - 1) (by omega) (by omega)
    have b2 := yb (q - 1) (by omega) (by omega)
    show Mo_whenAll_s5 _ _ _ _ _ _ _ = _
    unfold Mo_whenAll_s5
    have hs2 : M 162 (c + m) = 9 := (hS m (by omega) (by omega)).trans hs
    rw [l4, if_pos rfl, Mo_passes_y (k := 9) (i := m) (Tg m) (T30 m) (by omega) (by omega) ((T62 m _).trans hs2) (by omega), bd2_some, if_neg (by decide), mu_mu, e3, bd2_some, lt1_def, ← y_mv_earl b1 b2]
    have hq := y_val_2 (d := (-1 : Int)) (op := y_vop w K N A ln b d) (F := F) (p := q) (by omega) (by omega) (by omega)
    rw [show q + 1 - 1 = q by omega, hq, hF]
    have ev : y_vop w K N A ln b d q = fun fi la => y_earl fi la := by
      funext fi la
      unfold y_vop
      rw [hK]
      simp only [Int.reduceEq, ↓reduceIte]
    rw [ev]
end
