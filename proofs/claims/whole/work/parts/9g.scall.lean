/-! ===== pure: part 9g: the invariant anew; the call story ===== -/
/-- rows alike as worlds -/
def y_al (w w' : Int → Int) : Prop := w' 0 = w 0 ∧ w' 1 = w 1 ∧ ∀ p, 0 ≤ p → p < w 1 → w' (2 + p) = w (2 + p) ∧ w' (26 + p) = w (26 + p) ∧ w' (50 + p) = w (50 + p)
theorem y_al_dn {w w' : Int → Int} (h : y_al w w') (k v : Int) : y_dn w' k v = y_dn w k v := by
  obtain ⟨h0, h1, h2⟩ := h
  unfold y_dn y_wND y_wNB
  rw [h0, h1]
  by_cases c : 0 ≤ v ∧ v < w 1
  · obtain ⟨e1, e2, e3⟩ := h2 v c.1 c.2
    rw [e1, e2]
  · have c' : ¬ (0 ≤ v ∧ v < w 1) := c
    rw [if_pos c', if_pos c', if_pos c', if_pos c']
theorem y_al_hap {w w' : Int → Int} {lv : Int} (h : y_al w w') (v : WV lv w) {k x : Int} (d : y_dn w k x = -1) : y_al (y_hap w k x) (y_hap w' k x) := by
  obtain ⟨h0, h1, h2⟩ := h
  have hw := v.1
  unfold y_hap
  unfold y_dn at d
  by_cases c0 : k = 0
  · rw [if_pos c0, if_pos c0]
    refine ⟨by rw [iupd_s, iupd_s], by rw [iupd_n (by omega), iupd_n (by omega)]; exact h1, fun p p0 p1 => ?_⟩
    rw [iupd_n (by omega)] at p1
    rw [iupd_n (by omega), iupd_n (by omega), iupd_n (by omega), iupd_n (by omega), iupd_n (by omega), iupd_n (by omega)]
    exact h2 p p0 p1
  · rw [if_neg c0] at d
    rw [if_neg c0, if_neg c0]
    by_cases c1 : k = 1
    · rw [if_pos c1] at d
      rw [if_pos c1, if_pos c1]
      have q := (y_wND_y d).1
      unfold y_bry
      rw [h0]
      refine ⟨by rw [iupd_n (by omega), iupd_n (by omega)]; exact h0, by rw [iupd_n (by omega), iupd_n (by omega)]; exact h1, fun p p0 p1 => ?_⟩
      rw [iupd_n (by omega)] at p1
      obtain ⟨e1, e2, e3⟩ := h2 p p0 p1
      rw [iupd_n (j := 2 + p) (by omega), iupd_n (j := 2 + p) (by omega), iupd_n (j := 50 + p) (by omega), iupd_n (j := 50 + p) (by omega)]
      refine ⟨e1, ?_, e3⟩
      by_cases c : p = x
      · subst c; rw [iupd_s, iupd_s]
      · rw [iupd_n (by omega), iupd_n (by omega)]; exact e2
    · rw [if_neg c1] at d
      rw [if_neg c1, if_neg c1]
      have q := y_wNB_y d
      obtain ⟨b0, b1, b2, b3⟩ := y_brn_0 (w := w) (p := x) (by omega)
      obtain ⟨c0', c1', c2, c3⟩ := y_brn_0 (w := w') (p := x) (by omega)
      refine ⟨by rw [b0, c0', h0], by rw [b1, c1', h1], fun p p0 p1 => ?_⟩
      rw [b1] at p1
      by_cases c : p = w 1
      · subst c
        rw [b2.1, b2.2.1, b2.2.2]
        rw [h1] at c2
        rw [c2.1, c2.2.1, c2.2.2]
        exact ⟨h0, rfl, rfl⟩
      · obtain ⟨r1, r2, r3⟩ := b3 p p0 (by omega)
        obtain ⟨s1, s2, s3⟩ := c3 p p0 (by omega)
        rw [r1, r2, r3, s1, s2, s3]
        exact h2 p p0 (by omega)
theorem y_al_ply {K V K' V' : Int → Int} {lv n : Int} : ∀ (k : Nat) (i : Int) (w w' : Int → Int), i + k = n → 0 ≤ i → (∀ j, i ≤ j → j < n → K' j = K j ∧ V' j = V j) → WV lv w → y_asc K V n i w → y_al w w' → (y_ply K' V' k i w').1 = (y_ply K V k i w).1 ∧ y_al (y_ply K V k i w).2 (y_ply K' V' k i w').2
  | 0, i, w, w', _, _, _, _, _, h => ⟨rfl, h⟩
  | k + 1, i, w, w', hn, i0, e, v, ha, h => by
    unfold y_ply
    rw [(e i (Int.le_refl _) (by omega)).1, (e i (Int.le_refl _) (by omega)).2, y_al_dn h]
    by_cases d : y_dn w (K i) (V i) = -1
    · rw [if_pos d, if_pos d]
      exact y_al_ply k (i + 1) _ _ (by omega) (by omega) (fun j j0 j1 => e j (by omega) j1) (y_hap_v v d (fun c => ha.1 i (Int.le_refl _) (by omega) c)) (ha.step (by omega) i0 v d) (y_al_hap h v d)
    · rw [if_neg d, if_neg d]
      exact ⟨rfl, h⟩
section
variable {fu : Nat} {L : zL} {M N : zM} {top : Int}
/-- both answer alike, and what holds between calls holds again -/
def y_kep (L : zL) (M : zM) (top : Int) (c m : zM → Option (zM × Int)) : Prop := ∃ M1 r M2, c M = some (M1, r) ∧ m M1 = some (M2, r) ∧ y_inv L M2 top
theorem y_same.kep {c m : zM → Option (zM × Int)} (I : y_inv L M top) (h : y_same L M c m) : y_kep L M top c m := by
  obtain ⟨M1, r, M2, h1, h2, h3⟩ := h
  exact ⟨M1, r, M2, h1, h2, I.off h3⟩
/-- the invariant from its pieces, a family being there -/
theorem y_inv.asm (I : y_inv L M top) (h1 : M 154 19 = 1) (hP : Ptr N)
    (hs : (N 3 = M 3 ∧ N 155 = M 155 ∧ N 4 = M 4 ∧ N 163 = M 163 ∧ N 164 = M 164 ∧ N 165 = M 165) ∧ (N 2 3 = M 2 3 ∧ N 154 20 = M 154 20 ∧ N 154 19 = M 154 19 ∧ N 1 11 = M 1 11 ∧ N 154 32 = M 154 32))
    (ht : (N 2 2 = M 2 2 ∧ N 154 2 = M 154 2) ∨ (N 2 2 = 0 ∧ N 154 2 = 0))
    (hf : (N 1 12 = N 154 49 ∧ N 1 13 = N 154 38) ∧ (N 154 49 = 0 ∨ N 154 49 = 1) ∧ (N 154 38 = 0 ∨ N 154 38 = 1))
    (ra : y_ra L N 19 top (N 162) (M 154 20) (M 163) (M 164) (M 165))
    (ki : N 154 49 = 1 → y_ra L N 25 top (N 170) (M 154 20) (M 163) (M 164) (M 165))
    (ri : (N 31 2 = N 154 25 ∧ 0 ≤ N 154 25 ∧ N 154 25 ≤ 16 ∧ 0 ≤ N 31 1 ∧ N 31 1 ≤ 15) ∧ ∀ j, 0 ≤ j → j < N 154 25 → y_ra L N (33 + 6 * ((N 31 1 - 1 - j) % 16)) top (fun i => N 166 (2597 * (N 154 25 - 1 - j) + i)) (M 154 20) (M 163) (M 164) (M 165))
    (st : N 154 38 = 1 → WR L N 129 130 131 132 (M 154 20) (N 168) ∧ WV (M 154 20) (N 168) ∧ N 1 14 = N 154 39)
    (rf : ∀ i, 0 ≤ i → i < 5 → N 153 i = N 167 i) : y_inv L N top := by
  obtain ⟨⟨s3, s155, s4, s163, s164, s165⟩, ⟨s23, s20, s19, s11, s32⟩⟩ := hs
  obtain ⟨⟨g1, g2, g3⟩, g4, g5, g6, g7, g8, g9, g10, g11, g12⟩ := I
  refine ⟨⟨g1, hP, g3⟩, ?_, ?_, ?_, ?_, fun c => ?_, ⟨ri.1, fun j j0 j1 => ?_⟩, fun c => ?_, rf, s32.trans g12⟩
  · rcases ht with ⟨t1, t2⟩ | ⟨t1, t2⟩
    · unfold TapC at g4 ⊢
      rw [t1, t2, s3, s155]; exact g4
    · unfold TapC
      rw [t1, t2]
      exact ⟨⟨Int.le_refl _, by decide, fun i i0 i1 => by omega⟩, rfl, fun i i0 i1 => by omega⟩
  · rw [s23, s20, s4, s163, s164, s165]; exact g5
  · refine ⟨⟨?_, hf.1.1, hf.1.2⟩, ?_, hf.2.1, hf.2.2, fun c => ?_, fun _ => ?_⟩
    · rw [s11, s19]; exact g6.1.1
    · rw [s19]; exact g6.2.1
    · rw [s19] at c; omega
    · rw [s20]; exact g6.2.2.2.2.2 h1
  · rw [s20, s163, s164, s165]; exact ra
  · rw [s20, s163, s164, s165]; exact ki c
  · rw [s20, s163, s164, s165]; exact ri.2 j j0 j1
  · rw [s20]; exact st c
theorem Mo_story_y {n lv : Int} (hL : Lay L) : ∀ (k m : Nat) (i : Int) (N : zM), Ptr N → i + k = n → k < m → 0 ≤ i → n ≤ 30 → N 154 16 = n → WV lv (N 168) → y_asc (N 160) (N 161) n i (N 168) →
    ∃ N', Mo_story_l42 fu L m N 154 i = some (N', (y_ply (N 160) (N 161) k i (N 168)).1) ∧ N' 168 = (y_ply (N 160) (N 161) k i (N 168)).2 ∧ N' 154 39 = (if (y_ply (N 160) (N 161) k i (N 168)).1 < n then (y_ply (N 160) (N 161) k i (N 168)).1 else -1) ∧ ∀ y j, y ≠ 168 → ¬ (y = 154 ∧ j = 39) → N' y j = N y j := by
  have l4 : L 154 = (13, 0) := hL 154 (by decide)
  have b64 : ∀ (N : zM) (i : Int), N 154 16 = n → Mo_story_b64 fu L N 154 i = some (mu N 154 39 (if i < n then i else -1), i) := fun N i h => by
    unfold Mo_story_b64
    rw [l4, if_pos rfl, h, lt1_def, lt1_def]
    by_cases c : i < n
    · rw [if_pos c, if_pos c]
    · rw [if_neg c, if_neg c]
  have r168 : ∀ (N : zM) (v : Int), mu N 154 39 v 168 = N 168 := fun N v => y_mor (by decide)
  intro k
  induction k with
  | zero =>
    intro m i N hP hn hm i0 n30 h16 v ha
    obtain ⟨m, rfl⟩ : ∃ m', m = m' + 1 := ⟨m - 1, by omega⟩
    refine ⟨mu N 154 39 (if i < n then i else -1), ?_, r168 _ _, mx_same _ _ _ _, fun y j c1 c2 => mx_ne (by omega)⟩
    show Mo_story_s42 _ _ _ _ _ _ = _
    unfold Mo_story_s42
    rw [l4, if_pos rfl, h16, if_neg (by omega), b64 N i h16]; rfl
  | succ k ih =>
    intro m i N hP hn hm i0 n30 h16 v ha
    obtain ⟨m, rfl⟩ : ∃ m', m = m' + 1 := ⟨m - 1, by omega⟩
    obtain ⟨N1, a1, a2, a3⟩ := Mo_isDone_y (fu := fu) hL hP v (i := i) (by omega)
    have ew : w32 (i + 1) = i + 1 := w32_id (by omega)
    have e16 : N1 154 16 = n := by rw [a3 154 (by decide)]; exact h16
    have hP1 : Ptr N1 := fun q hq => by
      have h9 : ∀ q ∈ zPt, (q.1 : Int) ≠ 168 := by decide +kernel
      rw [a3 _ (h9 q hq)]; exact hP q hq
    show ∃ N', Mo_story_s42 _ _ _ _ _ _ = _ ∧ _
    unfold Mo_story_s42 y_ply
    rw [l4, if_pos rfl, h16, if_pos (by omega), a1, bd2_some]
    by_cases d : y_dn (N 168) (N 160 i) (N 161 i) = -1
    · rw [if_pos d] at a2
      rw [if_pos d, if_pos d, if_neg (by decide), lt1_def, ew]
      obtain ⟨N', b1, b2, b3, b4⟩ := ih m (i + 1) N1 hP1 (by omega) (by omega) (by omega) n30 e16 (by rw [a2]; exact y_hap_v v d (fun c => ha.1 i (Int.le_refl _) (by omega) c)) (by rw [a3 160 (by decide), a3 161 (by decide), a2]; exact ha.step (by omega) i0 v d)
      rw [a3 160 (by decide), a3 161 (by decide), a2] at b1 b2 b3
      exact ⟨N', b1, b2, b3, fun y j c1 c2 => (b4 y j c1 c2).trans (by rw [a3 y c1])⟩
    · rw [if_neg d] at a2
      rw [if_neg d, if_neg d, if_pos rfl, b64 N1 i e16]
      exact ⟨_, rfl, (r168 _ _).trans a2, mx_same _ _ _ _, fun y j c1 c2 => (mx_ne (by omega)).trans (by rw [a3 y c1])⟩
end
