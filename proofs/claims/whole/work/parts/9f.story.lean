/-! ===== pure: part 9f: the call story ===== -/
/-- whether an event can be: -1, or why not -/
def y_dn (w : Int → Int) (k v : Int) : Int := if k = 0 then -1 else if k = 1 then y_wND w v else y_wNB w v
def y_hap (w : Int → Int) (k v : Int) : Int → Int := if k = 0 then iupd w 0 v else if k = 1 then y_bry w v else y_brn w v
/-- the events played from the i-th on -/
def y_ply (K V : Int → Int) : Nat → Int → (Int → Int) → Int × (Int → Int)
  | 0, i, w => (i, w)
  | n + 1, i, w => if y_dn w (K i) (V i) = -1 then y_ply K V n (i + 1) (y_hap w (K i) (V i)) else (i, w)
section
variable {fu : Nat} {L : zL} {M N : zM} {a lv : Int} {w : Int → Int}
theorem y_hap_v {k v : Int} (h : WV lv w) (d : y_dn w k v = -1) (h0 : k = 0 → w 0 ≤ v ∧ v ≤ 399) : WV lv (y_hap w k v) := by
  unfold y_dn at d
  unfold y_hap
  by_cases c0 : k = 0
  · rw [if_pos c0]
    have := h0 c0
    obtain ⟨v1, v2, v3⟩ := h
    refine ⟨by rw [iupd_n (by omega)]; exact v1, by rw [iupd_s]; omega, fun q q0 q1 => ?_⟩
    rw [iupd_n (by omega)] at q1
    rw [iupd_n (j := 2 + q) (by omega), iupd_n (j := 26 + q) (by omega), iupd_n (j := 50 + q) (by omega), iupd_s]
    have := v3 q q0 q1
    omega
  · rw [if_neg c0] at d ⊢
    by_cases c1 : k = 1
    · rw [if_pos c1] at d ⊢; exact y_bry_v h d
    · rw [if_neg c1] at d ⊢; exact y_brn_v h d
theorem Sr_happen_y (ha : 0 ≤ a) (h : WR L M a (a + 1) (a + 2) (a + 3) lv w) (v : WV lv w) (k x : Int) : ∃ M', Sr_happen fu L M 16 a k x = some (M', if y_dn w k x = -1 then 1 else 0) ∧ WR L M' a (a + 1) (a + 2) (a + 3) lv (if y_dn w k x = -1 then y_hap w k x else w) ∧ ∀ y i, ¬ (a ≤ y ∧ y ≤ a + 3) → M' y i = M y i := by
  have la := h.1.1
  unfold Sr_happen y_dn y_hap
  by_cases c0 : k = 0
  · rw [if_pos c0, if_pos c0, if_pos c0, la, if_pos rfl, lt1_def, if_pos rfl, if_pos rfl]
    refine ⟨mu M a 5 x, rfl, ?_, fun y i c => mx_ne (by omega)⟩
    obtain ⟨⟨w1, ⟨w2, w3, w4⟩, w5, w6, w7⟩, ⟨h2, h3, h4⟩, h5⟩ := h
    refine ⟨⟨w1, ⟨?_, ?_, ?_⟩, w5, w6, w7⟩, ⟨?_, ?_, ?_⟩, fun q q0 q1 => ?_⟩
    · rw [mx_ne (by omega)]; exact w2
    · rw [mx_ne (by omega)]; exact w3
    · rw [mx_ne (by omega)]; exact w4
    · rw [mx_ne (by omega)]; exact h2
    · rw [mx_ne (by omega), iupd_n (by omega)]; exact h3
    · rw [mx_same, iupd_s]
    · rw [iupd_n (by omega)] at q1
      rw [mx_ne (by omega), mx_ne (by omega), mx_ne (by omega), iupd_n (by omega), iupd_n (by omega), iupd_n (by omega)]
      exact h5 q q0 q1
  · rw [if_neg c0, if_neg c0, if_neg c0]
    by_cases c1 : k = 1
    · rw [if_pos c1, if_pos c1, if_pos c1, la, if_pos rfl, Wr_whyNoDeath h v, bd1_some]
      by_cases d : y_wND w x = -1
      · obtain ⟨M', b1, b2, b3⟩ := Wr_bury_y (fu := fu) ha h v d
        rw [if_pos d, if_pos d, if_pos d, b1, bd1_some]
        exact ⟨M', rfl, b2, b3⟩
      · rw [if_neg d, if_neg d, if_neg d]
        exact ⟨M, rfl, h, fun _ _ _ => rfl⟩
    · rw [if_neg c1, if_neg c1, if_neg c1, la, if_pos rfl, Wr_whyNoBirth h v, bd1_some]
      by_cases d : y_wNB w x = -1
      · obtain ⟨M', b1, b2, b3⟩ := Wr_add_y (fu := fu) (p := x) ha h v (y_wNB_y d).2.2.2
        rw [if_pos d, if_pos d, if_pos d, b1, bd1_some]
        exact ⟨M', rfl, b2, b3⟩
      · rw [if_neg d, if_neg d, if_neg d]
        exact ⟨M, rfl, h, fun _ _ _ => rfl⟩
/-- years that are still to come are not below the one it is -/
def y_asc (K V : Int → Int) (n i : Int) (w : Int → Int) : Prop := (∀ j, i ≤ j → j < n → K j = 0 → w 0 ≤ V j ∧ V j ≤ 399) ∧ ∀ j k, i ≤ j → j < k → k < n → K j = 0 → K k = 0 → V j ≤ V k
theorem y_asc.step {K V : Int → Int} {n i : Int} (h : y_asc K V n i w) (hi : i < n) (hk : 0 ≤ i) (v : WV lv w) (d : y_dn w (K i) (V i) = -1) : y_asc K V n (i + 1) (y_hap w (K i) (V i)) := by
  refine ⟨fun j j0 j1 jk => ?_, fun j k j0 jk k1 => h.2 j k (by omega) jk k1⟩
  have hj := h.1 j (by omega) j1 jk
  unfold y_hap
  by_cases c0 : K i = 0
  · rw [if_pos c0, iupd_s]
    exact ⟨h.2 i j (Int.le_refl _) (by omega) j1 c0 jk, hj.2⟩
  · rw [if_neg c0]
    unfold y_dn at d
    rw [if_neg c0] at d
    by_cases c1 : K i = 1
    · rw [if_pos c1] at d ⊢
      have := (y_wND_y d).1
      unfold y_bry
      rw [iupd_n (by omega)]; exact hj
    · rw [if_neg c1] at d ⊢
      have := y_wNB_y d
      have hw := v.1
      rw [(y_brn_0 (w := w) (p := V i) (by omega)).1]; exact hj
theorem y_ply_v {K V : Int → Int} {n : Int} : ∀ (k : Nat) (i : Int) (w : Int → Int), i + k = n → 0 ≤ i → WV lv w → y_asc K V n i w → WV lv (y_ply K V k i w).2
  | 0, i, w, _, _, v, _ => v
  | k + 1, i, w, hn, i0, v, h => by
    unfold y_ply
    by_cases d : y_dn w (K i) (V i) = -1
    · rw [if_pos d]
      exact y_ply_v k (i + 1) _ (by omega) (by omega) (y_hap_v v d (fun c => h.1 i (Int.le_refl _) (by omega) c)) (h.step (by omega) i0 v d)
    · rw [if_neg d]; exact v
/-- the class plays -/
theorem Sr_play_y {n : Int} (hL : Lay L) : ∀ (k m : Nat) (i : Int) (M : zM) (w : Int → Int), Ptr M → i + k = n → k < m → 0 ≤ i → n ≤ 30 → M 16 3 = n → WR L M 129 130 131 132 lv w → WV lv w → y_asc (M 17) (M 18) n i w →
    ∃ M', Sr_play_l7 fu L m M 16 129 i = some (M', (y_ply (M 17) (M 18) k i w).1) ∧ WR L M' 129 130 131 132 lv (y_ply (M 17) (M 18) k i w).2 ∧ ∀ y i, ¬ (129 ≤ y ∧ y ≤ 132) → M' y i = M y i := by
  have l16 : L 16 = (7, 0) := hL 16 (by decide)
  have l17 : L 17 = (101, 30) := hL 17 (by decide)
  have l18 : L 18 = (101, 30) := hL 18 (by decide)
  intro k
  induction k with
  | zero =>
    intro m i M w hP hn hm i0 n30 h3 h v ha
    obtain ⟨m, rfl⟩ : ∃ m', m = m' + 1 := ⟨m - 1, by omega⟩
    refine ⟨M, ?_, h, fun _ _ _ => rfl⟩
    show Sr_play_s7 _ _ _ _ _ _ _ = _
    unfold Sr_play_s7 y_ply
    rw [l16, if_pos rfl, h3, if_neg (by omega), show n = i by omega]
  | succ k ih =>
    intro m i M w hP hn hm i0 n30 h3 h v ha
    obtain ⟨m, rfl⟩ : ∃ m', m = m' + 1 := ⟨m - 1, by omega⟩
    have p1 : M 16 1 = 17 := hP (16, 1, 17) (by decide +kernel)
    have p2 : M 16 2 = 18 := hP (16, 2, 18) (by decide +kernel)
    obtain ⟨M1, a1, a2, a3⟩ := Sr_happen_y (fu := fu) (a := 129) (by decide) h v (M 17 i) (M 18 i)
    have g : i < ((101, 30) : Int × Int).2 := by show i < 30; omega
    have ew : w32 (i + 1) = i + 1 := w32_id (by omega)
    show ∃ M', Sr_play_s7 _ _ _ _ _ _ _ = _ ∧ _
    unfold Sr_play_s7 y_ply
    rw [l16, if_pos rfl, h3, if_pos (by omega), p1, l17, if_pos rfl, if_pos g, p2, l18, if_pos rfl, if_pos g, if_pos (show 0 ≤ i ∧ i < ((101, 30) : Int × Int).2 from ⟨i0, g⟩), if_pos (show 0 ≤ i ∧ i < ((101, 30) : Int × Int).2 from ⟨i0, g⟩), a1, bd2_some]
    by_cases d : y_dn w (M 17 i) (M 18 i) = -1
    · rw [if_pos d] at a2
      rw [if_pos d, if_pos d, if_neg (by decide), lt1_def, ew]
      have r17 : M1 17 = M 17 := funext fun j => a3 17 j (by omega)
      have r18 : M1 18 = M 18 := funext fun j => a3 18 j (by omega)
      have hP1 : Ptr M1 := fun q hq => by
        have h9 : ∀ q ∈ zPt, ¬ (129 ≤ (q.1 : Int) ∧ (q.1 : Int) ≤ 132) ∨ (q.1 = 129 ∧ (q.2.1 : Int) ≤ 2) := by decide +kernel
        rcases h9 q hq with c | c
        · rw [a3 _ _ c]; exact hP q hq
        · have hq1 : (q.1 : Int) = 129 := by omega
          have w0 := a2.1.2.1
          have m0 := h.1.2.1
          have e : M1 129 (q.2.1 : Int) = M 129 (q.2.1 : Int) := by
            have : (q.2.1 : Int) = 0 ∨ (q.2.1 : Int) = 1 ∨ (q.2.1 : Int) = 2 := by omega
            rcases this with z | z | z
            · rw [z]; exact w0.1.trans m0.1.symm
            · rw [z]; exact w0.2.1.trans m0.2.1.symm
            · rw [z]; exact w0.2.2.trans m0.2.2.symm
          rw [hq1, e, ← hq1]; exact hP q hq
      obtain ⟨M', b1, b2, b3⟩ := ih m (i + 1) M1 _ hP1 (by omega) (by omega) (by omega) n30 ((a3 _ _ (by omega)).trans h3) a2 (y_hap_v v d (fun c => ha.1 i (Int.le_refl _) (by omega) c)) (by rw [r17, r18]; exact ha.step (by omega) i0 v d)
      rw [r17, r18] at b1 b2
      exact ⟨M', b1, b2, fun y i c => (b3 y i c).trans (a3 y i c)⟩
    · rw [if_neg d] at a2
      rw [if_neg d, if_neg d, if_pos rfl]
      exact ⟨M1, rfl, a2, a3⟩
/-- the model: one event -/
theorem Mo_isDone_y (hL : Lay L) (hP : Ptr N) (v : WV lv (N 168)) {i : Int} (hi : 0 ≤ i ∧ i < 30) : ∃ N', Mo_isDone fu L N 154 i = some (N', if y_dn (N 168) (N 160 i) (N 161 i) = -1 then 1 else 0) ∧ N' 168 = (if y_dn (N 168) (N 160 i) (N 161 i) = -1 then y_hap (N 168) (N 160 i) (N 161 i) else N 168) ∧ ∀ y, y ≠ 168 → N' y = N y := by
  have l4 : L 154 = (13, 0) := hL 154 (by decide)
  have l60 : L 160 = (101, 30) := hL 160 (by decide)
  have l61 : L 161 = (101, 30) := hL 161 (by decide)
  have l68 : L 168 = (101, 74) := hL 168 (by decide)
  have p14 : N 154 14 = 160 := hP (154, 14, 160) (by decide +kernel)
  have p15 : N 154 15 = 161 := hP (154, 15, 161) (by decide +kernel)
  have p37 : N 154 37 = 168 := hP (154, 37, 168) (by decide +kernel)
  have g : 0 ≤ i ∧ i < ((101, 30) : Int × Int).2 := by show 0 ≤ i ∧ i < 30; omega
  have g0 : (0 : Int) ≤ 0 ∧ (0 : Int) < ((101, 74) : Int × Int).2 := by decide
  unfold Mo_isDone y_dn y_hap
  rw [l4, if_pos rfl, p15, l61, if_pos rfl, if_pos g, lt1_def, p14, l60, if_pos rfl, if_pos g, p37, l68]
  by_cases c0 : N 160 i = 0
  · rw [if_pos c0, if_pos c0, if_pos c0, if_pos rfl, if_pos g0, lt1_def, if_pos rfl, if_pos rfl]
    exact ⟨_, rfl, mu_row _ _ _ _, fun y hy => y_mor hy⟩
  · rw [if_neg c0, if_neg c0, if_neg c0, if_pos g]
    by_cases c1 : N 160 i = 1
    · rw [if_pos c1, if_pos c1, if_pos c1, Mr_isIn l68 (by omega) v, bd1_some]
      unfold y_wND
      by_cases c2 : 0 ≤ N 161 i ∧ N 161 i < N 168 1
      · have hw := v.1
        have e26 : w32 (26 + N 161 i) = 26 + N 161 i := w32_id (by omega)
        have g26 : 0 ≤ 26 + N 161 i ∧ 26 + N 161 i < ((101, 74) : Int × Int).2 := by show _ ∧ _ < (74 : Int); omega
        rw [if_pos c2, if_neg (by decide), if_neg (show ¬ ¬ (0 ≤ N 161 i ∧ N 161 i < N 168 1) from fun z => z c2), if_pos rfl, e26, if_pos g26]
        by_cases c3 : N 168 (26 + N 161 i) = 16777216
        · rw [if_pos c3, if_pos c3, if_pos g0, if_pos g26, lt1_def, if_pos rfl, if_pos rfl]
          exact ⟨_, rfl, mu_row _ _ _ _, fun y hy => y_mor hy⟩
        · rw [if_neg c3, if_neg c3, if_neg (by decide), if_neg (by decide)]
          exact ⟨N, rfl, rfl, fun _ _ => rfl⟩
      · rw [if_neg c2, if_pos rfl, if_pos (show ¬ (0 ≤ N 161 i ∧ N 161 i < N 168 1) from c2), if_neg (by decide), if_neg (by decide)]
        exact ⟨N, rfl, rfl, fun _ _ => rfl⟩
    · rw [if_neg c1, if_neg c1, if_neg c1, Mr_whyNotBorn l68 (by omega) v, bd1_some]
      by_cases d : y_wNB (N 168) (N 161 i) = -1
      · obtain ⟨N', b1, b2, b3⟩ := Mo_isBorn_y (fu := fu) (p := N 161 i) l68 (by omega) v (y_wNB_y d).2.2.2
        rw [if_pos d, if_pos d, if_pos d, b1, bd1_some]
        exact ⟨N', rfl, b2, b3⟩
      · rw [if_neg d, if_neg d, if_neg d]
        exact ⟨N, rfl, rfl, fun _ _ => rfl⟩
end
