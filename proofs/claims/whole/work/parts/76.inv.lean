/-! ===== pure: part 76: what holds between two calls ===== -/
/-- bytes of a number, of a sign, of a gift -/
def y_num (v : Int) : List Int := if 10 ≤ v then [48 + v / 10, 48 + v % 10] else [48 + v % 10]
def y_tsg (nm : Int → Int) (s : Int) : List Int :=
  if s % 100 = 0 then [121, 101, 97, 114, 115, 32] ++ y_num (s / 10000) else
  if s % 100 = 1 then [100, 105, 101, 115, 32] ++ [97 + nm (s / 100 % 100)] else
  if s % 100 = 2 then [98, 111, 114, 110] else
  if s % 100 = 3 then [114, 101, 97, 99, 104, 101, 115, 32] ++ y_num (s / 10000) else
  if s % 100 = 4 then [97 + nm (s / 100 % 100)] ++ [32, 114, 101, 97, 99, 104, 101, 115, 32] ++ y_num (s / 10000) else
  if s % 100 = 5 then [97, 102, 116, 101, 114, 32] ++ y_num (s / 10000) else
  if s % 100 = 6 then [40] else if s % 100 = 7 then [41] else if s % 100 = 8 then [97, 110, 100] else [111, 114]
def y_tsl (nm S : Int → Int) : Nat → Int → List Int
  | 0, _ => []
  | k + 1, i => 32 :: (y_tsg nm (S i) ++ y_tsl nm S k (i + 1))
def y_tx (nm S : Int → Int) : List Int :=
  [116, 111, 32] ++ (if S 0 = 1 then [99, 104, 105, 108, 100, 114, 101, 110, 32] else if S 0 = 2 then [103, 114, 97, 110, 100, 99, 104, 105, 108, 100, 114, 101, 110, 32] else []) ++ [97 + nm (S 1)] ++ [32, 119, 104, 101, 110] ++ y_tsl nm (fun i => S (5 + i)) (S 4).toNat 0
/-- the Gift at g of the class is what the model's row S says; lv LIVES, their names nm -/
def y_gp (L : zL) (M : zM) (g top : Int) (S : Int → Int) (lv : Int) (nm : Int → Int) : Prop :=
  ∃ st pt tl, y_gc L M g st pt tl ∧ (M g 0 = S 0 ∧ M g 1 = S 1 ∧ M g 2 = S 2 ∧ pt = S 3) ∧ ((0 ≤ S 0 ∧ S 0 ≤ 2) ∧ (0 ≤ S 1 ∧ S 1 < lv) ∧ (0 ≤ S 4 ∧ S 4 ≤ 310) ∧ 1 ≤ st) ∧ y_ws (fun i => S (5 + i)) (S 4) ∧
  y_seg (fun i => S (5 + i)) (M (M g 5)) (M (M g 6)) (M (M g 7)) (M (M g 8)) lv (S 4) st 2 5 0 (S 4) 0 st ∧
  (1 ≤ pt ∧ ∃ sb pb : Int → Int, sb 0 = 0 ∧ sb pt = S 4 + 1 ∧ ∀ k, 0 ≤ k → k < pt → y_seg (fun i => S (5 + i)) (M (M g 5)) (M (M g 6)) (M (M g 7)) (M (M g 8)) lv (S 4) st 1 5 (sb k) (sb (k + 1) - 1) (pb k) (M (M g 9) k) ∧ (k + 1 < pt → S (5 + (sb (k + 1) - 1)) = 9)) ∧
  (tl = ((y_tx nm S).length : Int) ∧ ∀ i : Nat, i < (y_tx nm S).length → M (M g 10) (i : Int) = (y_tx nm S).getD i 0) ∧
  (g < top ∧ M g 5 < top ∧ M g 6 < top ∧ M g 7 < top ∧ M g 8 < top ∧ M g 9 < top ∧ M g 10 < top ∧ 0 ≤ S 2)
/-- Affairs at a of the class are what the model's row w says -/
def y_ra (L : zL) (M : zM) (a top : Int) (w : Int → Int) (lv : Int) (nm ag pr : Int → Int) : Prop :=
  (L a = (2, 0) ∧ L (a + 5) = (103, 8)) ∧ (M a 0 = a + 1 ∧ M a 1 = a + 5 ∧ M a 2 = w 76 ∧ M a 3 = w 74 ∧ M a 4 = w 75) ∧ ((0 ≤ w 76 ∧ w 76 ≤ 8) ∧ (0 ≤ w 74 ∧ w 74 ≤ 99) ∧ (0 ≤ w 75 ∧ w 75 ≤ 99) ∧ w 0 ≤ 399) ∧
  WR L M (a + 1) (a + 2) (a + 3) (a + 4) lv w ∧ WV lv w ∧ (∀ l, 0 ≤ l → l < lv → w (2 + l) = - ag l ∧ w (50 + l) = pr l) ∧
  ∀ g, 0 ≤ g → g < w 76 → y_gp L M (M (a + 5) g) top (fun i => w (77 + 315 * g + i)) lv nm
/-- all that holds between two calls -/
def y_inv (L : zL) (M : zM) (top : Int) : Prop :=
  (Lay L ∧ Ptr M ∧ 172 ≤ top) ∧ (TapC M ∧ M 154 2 = M 2 2 ∧ ∀ i, 0 ≤ i → i < M 2 2 → M 3 i = M 155 i) ∧
  (M 2 3 = M 154 20 ∧ (∀ l, 0 ≤ l → l < M 154 20 → M 4 l = M 163 l + 97 ∧ 0 ≤ M 163 l ∧ M 163 l ≤ 7 ∧ 0 ≤ M 164 l ∧ M 164 l ≤ 99 ∧ -1 ≤ M 165 l ∧ M 165 l < l)) ∧
  ((M 1 11 = M 154 19 ∧ M 1 12 = M 154 49 ∧ M 1 13 = M 154 38) ∧ (M 154 19 = 0 ∨ M 154 19 = 1) ∧ (M 154 49 = 0 ∨ M 154 49 = 1) ∧ (M 154 38 = 0 ∨ M 154 38 = 1) ∧ (M 154 19 = 0 → M 154 20 = 0 ∧ M 154 49 = 0 ∧ M 154 38 = 0 ∧ M 154 25 = 0 ∧ M 162 76 = 0 ∧ M 162 1 = 0) ∧ (M 154 19 = 1 → 1 ≤ M 154 20)) ∧
  y_ra L M 19 top (M 162) (M 154 20) (M 163) (M 164) (M 165) ∧
  (M 154 49 = 1 → y_ra L M 25 top (M 170) (M 154 20) (M 163) (M 164) (M 165)) ∧
  ((M 31 2 = M 154 25 ∧ 0 ≤ M 154 25 ∧ M 154 25 ≤ 16 ∧ 0 ≤ M 31 1 ∧ M 31 1 ≤ 15) ∧ ∀ j, 0 ≤ j → j < M 154 25 → y_ra L M (33 + 6 * ((M 31 1 - 1 - j) % 16)) top (fun i => M 166 (2597 * (M 154 25 - 1 - j) + i)) (M 154 20) (M 163) (M 164) (M 165)) ∧
  (M 154 38 = 1 → WR L M 129 130 131 132 (M 154 20) (M 168) ∧ WV (M 154 20) (M 168) ∧ M 1 14 = M 154 39) ∧
  (∀ i, 0 ≤ i → i < 5 → M 153 i = M 167 i) ∧ M 154 32 = 99
theorem y_gp.of {L L' : zL} {M N : zM} {g top top' : Int} {S : Int → Int} {lv : Int} {nm : Int → Int} (h : y_gp L M g top S lv nm) (hM : ∀ a, 172 ≤ a → a < top → N a = M a) (hL : ∀ a, 172 ≤ a → a < top → L' a = L a) (ht : top ≤ top') : y_gp L' N g top' S lv nm := by
  obtain ⟨st, pt, tl, h1, h2, h3, h4, h5, h6, h7, h8⟩ := h
  obtain ⟨c1, c2, ⟨c3, c4, c5, c6, c7, c8⟩, c9, c10⟩ := h1
  have e := hM g c9.1 h8.1
  have e5 := hM (M g 5) c9.2.1 h8.2.1
  have e6 := hM (M g 6) c9.2.2.1 h8.2.2.1
  have e7 := hM (M g 7) c9.2.2.2.1 h8.2.2.2.1
  have e8 := hM (M g 8) c9.2.2.2.2.1 h8.2.2.2.2.1
  have e9 := hM (M g 9) c9.2.2.2.2.2.1 h8.2.2.2.2.2.1
  have e10 := hM (M g 10) c9.2.2.2.2.2.2 h8.2.2.2.2.2.2.1
  refine ⟨st, pt, tl, ⟨?_, ?_, ⟨?_, ?_, ?_, ?_, ?_, ?_⟩, ?_, c10⟩, ?_, h3, h4, ?_, ?_, ?_, ?_⟩
  · rw [hL g c9.1 h8.1]; exact c1
  · rw [e]; exact c2
  · rw [e, hL _ c9.2.1 h8.2.1]; exact c3
  · rw [e, hL _ c9.2.2.1 h8.2.2.1]; exact c4
  · rw [e, hL _ c9.2.2.2.1 h8.2.2.2.1]; exact c5
  · rw [e, hL _ c9.2.2.2.2.1 h8.2.2.2.2.1]; exact c6
  · rw [e, hL _ c9.2.2.2.2.2.1 h8.2.2.2.2.2.1]; exact c7
  · rw [e, hL _ c9.2.2.2.2.2.2 h8.2.2.2.2.2.2.1]; exact c8
  · rw [e]; exact c9
  · rw [e]; exact h2
  · rw [e, e5, e6, e7, e8]; exact h5
  · rw [e, e5, e6, e7, e8, e9]; exact h6
  · rw [e, e10]; exact h7
  · rw [e]; omega
theorem y_ra.of {L L' : zL} {M N : zM} {a top top' : Int} {w : Int → Int} {lv : Int} {nm ag pr : Int → Int} (h : y_ra L M a top w lv nm ag pr) (hN : ∀ x, a ≤ x → x ≤ a + 5 → N x = M x) (hM : ∀ a, 172 ≤ a → a < top → N a = M a) (hLa : ∀ x, a ≤ x → x ≤ a + 5 → L' x = L x) (hL : ∀ a, 172 ≤ a → a < top → L' a = L a) (ht : top ≤ top') : y_ra L' N a top' w lv nm ag pr := by
  obtain ⟨⟨h1, h2⟩, h3, h4, ⟨⟨w1, w2, w3, w4, w5⟩, w6, w7⟩, h6, h7, h8⟩ := h
  have e0 := hN a (by omega) (by omega)
  have e1 := hN (a + 1) (by omega) (by omega)
  have e2 := hN (a + 2) (by omega) (by omega)
  have e3 := hN (a + 3) (by omega) (by omega)
  have e4 := hN (a + 4) (by omega) (by omega)
  have e5 := hN (a + 5) (by omega) (by omega)
  refine ⟨⟨?_, ?_⟩, ?_, h4, ⟨⟨?_, ?_, ?_, ?_, ?_⟩, ?_, ?_⟩, h6, h7, fun g g0 g1 => ?_⟩
  · rw [hLa a (by omega) (by omega)]; exact h1
  · rw [hLa (a + 5) (by omega) (by omega)]; exact h2
  · rw [e0]; exact h3
  · rw [hLa (a + 1) (by omega) (by omega)]; exact w1
  · rw [e1]; exact w2
  · rw [hLa (a + 2) (by omega) (by omega)]; exact w3
  · rw [hLa (a + 3) (by omega) (by omega)]; exact w4
  · rw [hLa (a + 4) (by omega) (by omega)]; exact w5
  · rw [e1]; exact w6
  · rw [e2, e3, e4]; exact w7
  · rw [e5]; exact (h8 g g0 g1).of hM hL ht
theorem y_off.ra {L : zL} {M N : zM} {a top : Int} {w : Int → Int} {lv : Int} {nm ag pr : Int → Int} (o : y_off M N) (ha : 19 ≤ a ∧ a ≤ 127) (h : y_ra L M a top w lv nm ag pr) : y_ra L N a top w lv nm ag pr :=
  h.of (fun x h0 h1 => o.row fun i => by omega) (fun x h0 _ => o.hi h0) (fun _ _ _ => rfl) (fun _ _ _ => rfl) (Int.le_refl _)
theorem y_inv.off {L : zL} {M N : zM} {top : Int} (h : y_inv L M top) (o : y_off M N) : y_inv L N top := by
  obtain ⟨⟨h1, h2, h3⟩, h4, h5, h6, h7, h8, h9, h10, h11, h12⟩ := h
  have r3 : N 3 = M 3 := o.row fun i => by omega
  have r155 : N 155 = M 155 := o.row fun i => by omega
  have r4 : N 4 = M 4 := o.row fun i => by omega
  have r163 : N 163 = M 163 := o.row fun i => by omega
  have r164 : N 164 = M 164 := o.row fun i => by omega
  have r165 : N 165 = M 165 := o.row fun i => by omega
  have r162 : N 162 = M 162 := o.row fun i => by omega
  have r166 : N 166 = M 166 := o.row fun i => by omega
  have r168 : N 168 = M 168 := o.row fun i => by omega
  have r170 : N 170 = M 170 := o.row fun i => by omega
  have r153 : N 153 = M 153 := o.row fun i => by omega
  have r167 : N 167 = M 167 := o.row fun i => by omega
  have r31 : N 31 = M 31 := o.row fun i => by omega
  have r1 : N 1 = M 1 := o.row fun i => by omega
  have e22 : N 2 2 = M 2 2 := o _ _ (by omega)
  have e23 : N 2 3 = M 2 3 := o _ _ (by omega)
  have m2 : N 154 2 = M 154 2 := o _ _ (by omega)
  have m19 : N 154 19 = M 154 19 := o _ _ (by omega)
  have m20 : N 154 20 = M 154 20 := o _ _ (by omega)
  have m25 : N 154 25 = M 154 25 := o _ _ (by omega)
  have m32 : N 154 32 = M 154 32 := o _ _ (by omega)
  have m38 : N 154 38 = M 154 38 := o _ _ (by omega)
  have m39 : N 154 39 = M 154 39 := o _ _ (by omega)
  have m49 : N 154 49 = M 154 49 := o _ _ (by omega)
  refine ⟨⟨h1, o.ptr h2, h3⟩, ?_, ?_, ?_, ?_, fun c => ?_, ⟨?_, fun j j0 j1 => ?_⟩, fun c => ?_, ?_, ?_⟩
  · unfold TapC at h4 ⊢; rw [e22, r3, r155, m2]; exact h4
  · rw [e23, m20, r4, r163, r164, r165]; exact h5
  · rw [r1, m19, m20, m25, m38, m49, r162]; exact h6
  · rw [r162, m20, r163, r164, r165]; exact o.ra (by omega) h7
  · rw [m49] at c
    rw [r170, m20, r163, r164, r165]; exact o.ra (by omega) (h8 c)
  · rw [r31, m25]; exact h9.1
  · rw [m25] at j1
    rw [r31, r166, m25, m20, r163, r164, r165]; exact o.ra (by omega) (h9.2 j j0 j1)
  · rw [m38] at c
    rw [m20, r168, r1, m39]
    exact ⟨o.wr (Or.inr ⟨rfl, rfl, rfl, rfl⟩) (h10 c).1, (h10 c).2⟩
  · rw [r153, r167]; exact h11
  · rw [m32]; exact h12
