/-! ===== pure: part 9l: what an act, a refusal leaves ===== -/
section
variable {fu : Nat} {L : zL} {M N Z : zM} {top : Int}
theorem y_inv.act (I : y_inv L M top) (h1 : M 154 19 = 1) {M1 : zM}
    (k1 : M1 31 1 = (if M 31 1 + 1 < 16 then M 31 1 + 1 else 0) ∧ M1 31 2 = min (M 31 2 + 1) 16)
    (k2 : ∀ x i, ¬ y_wri (33 + 6 * M 31 1) x i → ¬ (x = 31 ∧ (i = 1 ∨ i = 2)) → M1 x i = M x i)
    (k3 : y_ra L M1 (33 + 6 * M 31 1) top (M 162) (M 154 20) (M 163) (M 164) (M 165))
    (m1 : Z 154 25 = (if M 154 25 = 16 then 16 else M 154 25 + 1))
    (m2 : ∀ k, 0 ≤ k → k < 2597 → Z 166 (2597 * (Z 154 25 - 1) + k) = M 162 k)
    (m3 : ∀ j k, 0 ≤ j → j < Z 154 25 - 1 → 0 ≤ k → k < 2597 → Z 166 (2597 * j + k) = M 166 (2597 * (if M 154 25 = 16 then j + 1 else j) + k))
    (zp : Ptr Z)
    (z1 : ∀ x, 31 ≤ x → x ≤ 128 → Z x = M1 x)
    (z2 : ∀ x i, ¬ y_scr x i → ¬ (19 ≤ x ∧ x ≤ 24) → ¬ (31 ≤ x ∧ x ≤ 128) → x ≠ 162 → x ≠ 166 → ¬ (x = 154 ∧ (i = 25 ∨ i = 2)) → ¬ (x = 2 ∧ i = 2) → Z x i = M x i)
    (zt : (Z 2 2 = M 2 2 ∧ Z 154 2 = M 154 2) ∨ (Z 2 2 = 0 ∧ Z 154 2 = 0))
    (ra : y_ra L Z 19 top (Z 162) (M 154 20) (M 163) (M 164) (M 165)) : y_inv L Z top := by
  have h6 := I.2.2.2.1
  have r9 := I.2.2.2.2.2.2.1
  have row : ∀ x, (∀ i, ¬ y_scr x i) → ¬ (19 ≤ x ∧ x ≤ 24) → ¬ (31 ≤ x ∧ x ≤ 128) → x ≠ 162 → x ≠ 166 → x ≠ 154 → x ≠ 2 → Z x = M x := fun x q q1 q2 q3 q4 q5 q6 => funext fun i => z2 x i (q i) q1 q2 q3 q4 (by omega) (by omega)
  have hi : ∀ a, 172 ≤ a → a < top → Z a = M a := fun a q _ => row a (fun i => by omega) (by omega) (by omega) (by omega) (by omega) (by omega) (by omega)
  have raO : ∀ {a : Int} {w : Int → Int} {lv : Int} {nm ag pr : Int → Int}, a = 25 → y_ra L M a top w lv nm ag pr → y_ra L Z a top w lv nm ag pr := fun ha hh => hh.of (fun x q0 q1 => row x (fun i => by omega) (by omega) (by omega) (by omega) (by omega) (by omega) (by omega)) hi (fun _ _ _ => rfl) (fun _ _ _ => rfl) (Int.le_refl _)
  have r1 := row 1 (fun i => by omega) (by decide) (by decide) (by decide) (by decide) (by decide) (by decide)
  have r170 := row 170 (fun i => by omega) (by decide) (by decide) (by decide) (by decide) (by decide) (by decide)
  have r168 := row 168 (fun i => by omega) (by decide) (by decide) (by decide) (by decide) (by decide) (by decide)
  have r153 := row 153 (fun i => by omega) (by decide) (by decide) (by decide) (by decide) (by decide) (by decide)
  have r167 := row 167 (fun i => by omega) (by decide) (by decide) (by decide) (by decide) (by decide) (by decide)
  have e49 : Z 154 49 = M 154 49 := z2 _ _ (by omega) (by decide) (by decide) (by decide) (by decide) (by omega) (by omega)
  have e38 : Z 154 38 = M 154 38 := z2 _ _ (by omega) (by decide) (by decide) (by decide) (by decide) (by omega) (by omega)
  have e39 : Z 154 39 = M 154 39 := z2 _ _ (by omega) (by decide) (by decide) (by decide) (by decide) (by omega) (by omega)
  have e31 := z1 31 (by decide) (by decide)
  have hk := r9.1
  refine I.asm h1 zp ⟨⟨row 3 (fun i => by omega) (by decide) (by decide) (by decide) (by decide) (by decide) (by decide), row 155 (fun i => by omega) (by decide) (by decide) (by decide) (by decide) (by decide) (by decide), row 4 (fun i => by omega) (by decide) (by decide) (by decide) (by decide) (by decide) (by decide), row 163 (fun i => by omega) (by decide) (by decide) (by decide) (by decide) (by decide) (by decide), row 164 (fun i => by omega) (by decide) (by decide) (by decide) (by decide) (by decide) (by decide), row 165 (fun i => by omega) (by decide) (by decide) (by decide) (by decide) (by decide) (by decide)⟩, z2 _ _ (by omega) (by decide) (by decide) (by decide) (by decide) (by omega) (by omega), z2 _ _ (by omega) (by decide) (by decide) (by decide) (by decide) (by omega) (by omega), z2 _ _ (by omega) (by decide) (by decide) (by decide) (by decide) (by omega) (by omega), by rw [r1], z2 _ _ (by omega) (by decide) (by decide) (by decide) (by decide) (by omega) (by omega)⟩ zt ?_ ra (fun q => ?_) ⟨?_, fun j j0 j1 => ?_⟩ (fun q => ?_) ?_
  · rw [r1, e49, e38]
    exact ⟨⟨h6.1.2.1, h6.1.2.2⟩, h6.2.2.1, h6.2.2.2.1⟩
  · rw [e49] at q
    rw [r170]; exact raO rfl (I.2.2.2.2.2.1 q)
  · rw [e31, k1.1, k1.2, m1, hk.1]
    refine ⟨?_, ?_, ?_, ?_, ?_⟩
    all_goals (repeat' split) <;> omega
  · rw [m1] at j1
    have jK : j < M 154 25 + 1 ∧ j ≤ 15 := by
      by_cases c : M 154 25 = 16
      · rw [if_pos c] at j1; omega
      · rw [if_neg c] at j1; omega
    have nx : (M1 31 1 - 1 - j) % 16 = (M 31 1 - j) % 16 := by
      rw [k1.1]
      split <;> omega
    rw [e31, nx]
    by_cases cj : j = 0
    · subst cj
      have e0 : (M 31 1 - 0) % 16 = M 31 1 := by omega
      rw [e0]
      have z := k3.of (N := Z) (L' := L) (top' := top) (fun x q0 q1 => z1 x (by omega) (by omega)) (fun a q0 q1 => (hi a q0 q1).trans (funext fun i => (k2 a i (by unfold y_wri; omega) (by omega)).symm)) (fun _ _ _ => rfl) (fun _ _ _ => rfl) (Int.le_refl _)
      exact z.congr fun i i0 i1 => by
        show Z 166 (2597 * (Z 154 25 - 1 - 0) + i) = _
        rw [show Z 154 25 - 1 - 0 = Z 154 25 - 1 by omega]; exact m2 i i0 i1
    · have hs := r9.2 (j - 1) (by omega) (by omega)
      have es : (M 31 1 - 1 - (j - 1)) % 16 = (M 31 1 - j) % 16 := by congr 1; omega
      rw [es] at hs
      obtain ⟨s, hs0⟩ : ∃ s, s = (M 31 1 - j) % 16 := ⟨_, rfl⟩
      rw [← hs0] at hs ⊢
      have sb : 0 ≤ s ∧ s ≤ 15 ∧ s ≠ M 31 1 := by omega
      have z := hs.of (N := Z) (L' := L) (top' := top) (fun x q0 q1 => (z1 x (by omega) (by omega)).trans (funext fun i => k2 x i (by unfold y_wri; omega) (by omega))) (fun a q0 q1 => hi a q0 q1) (fun _ _ _ => rfl) (fun _ _ _ => rfl) (Int.le_refl _)
      exact z.congr fun i i0 i1 => by
        show Z 166 (2597 * (Z 154 25 - 1 - j) + i) = M 166 (2597 * (M 154 25 - 1 - (j - 1)) + i)
        have zb : 0 ≤ Z 154 25 - 1 - j ∧ Z 154 25 - 1 - j < Z 154 25 - 1 := by rw [m1]; omega
        rw [m3 _ i zb.1 zb.2 i0 i1]
        congr 2
        congr 1
        rw [m1]
        by_cases c : M 154 25 = 16
        · rw [if_pos c, if_pos c]; omega
        · rw [if_neg c, if_neg c]; omega
  · rw [e38] at q
    obtain ⟨q1, q2, q3⟩ := I.2.2.2.2.2.2.2.1 q
    rw [r168, r1, e39]
    exact ⟨q1.of fun x i c => by
      have hx : 129 ≤ x ∧ x ≤ 132 := by omega
      rw [row x (fun i => by omega) (by omega) (by omega) (by omega) (by omega) (by omega) (by omega)], q2, q3⟩
  · rw [r153, r167]; exact I.2.2.2.2.2.2.2.2.1
theorem y_inv.ref (I : y_inv L M top) {r : Int} (zp : Ptr Z) (z2 : ∀ x i, ¬ y_scr x i → x ≠ 153 → x ≠ 167 → Z x i = M x i) (a1 : ∀ i, 0 ≤ i → i < 5 → Z 153 i = if i = r then w32 (M 153 r + 1) else M 153 i) (a2 : ∀ i, 0 ≤ i → i < 5 → Z 167 i = if i = r then w32 (M 167 r + 1) else M 167 i) : y_inv L Z top := by
  obtain ⟨⟨g1, g2, g3⟩, g4, g5, g6, g7, g8, g9, g10, g11, g12⟩ := I
  have row : ∀ x, (∀ i, ¬ y_scr x i) → x ≠ 153 → x ≠ 167 → Z x = M x := fun x q q1 q2 => funext fun i => z2 x i (q i) q1 q2
  have hi : ∀ a, 172 ≤ a → a < top → Z a = M a := fun a q _ => row a (fun i => by omega) (by omega) (by omega)
  have raO : ∀ {a : Int} {w : Int → Int} {lv : Int} {nm ag pr : Int → Int}, 19 ≤ a ∧ a ≤ 123 → y_ra L M a top w lv nm ag pr → y_ra L Z a top w lv nm ag pr := fun ha hh => hh.of (fun x q0 q1 => row x (fun i => by omega) (by omega) (by omega)) hi (fun _ _ _ => rfl) (fun _ _ _ => rfl) (Int.le_refl _)
  have e : ∀ i, ¬ y_scr 154 i → Z 154 i = M 154 i := fun i q => z2 154 i q (by decide) (by decide)
  have e22 : Z 2 2 = M 2 2 := z2 _ _ (by omega) (by decide) (by decide)
  have e23 : Z 2 3 = M 2 3 := z2 _ _ (by omega) (by decide) (by decide)
  have R := fun x (q : ∀ i, ¬ y_scr x i) (q1 : x ≠ 153) (q2 : x ≠ 167) => row x q q1 q2
  refine ⟨⟨g1, zp, g3⟩, ?_, ?_, ?_, ?_, fun c => ?_, ⟨?_, fun j j0 j1 => ?_⟩, fun c => ?_, fun i i0 i1 => ?_, ?_⟩
  · unfold TapC at g4 ⊢; rw [e22, R 3 (fun i => by omega) (by decide) (by decide), R 155 (fun i => by omega) (by decide) (by decide), e 2 (by omega)]; exact g4
  · rw [e23, e 20 (by omega), R 4 (fun i => by omega) (by decide) (by decide), R 163 (fun i => by omega) (by decide) (by decide), R 164 (fun i => by omega) (by decide) (by decide), R 165 (fun i => by omega) (by decide) (by decide)]; exact g5
  · rw [R 1 (fun i => by omega) (by decide) (by decide), e 19 (by omega), e 20 (by omega), e 25 (by omega), e 38 (by omega), e 49 (by omega), R 162 (fun i => by omega) (by decide) (by decide)]; exact g6
  · rw [R 162 (fun i => by omega) (by decide) (by decide), e 20 (by omega), R 163 (fun i => by omega) (by decide) (by decide), R 164 (fun i => by omega) (by decide) (by decide), R 165 (fun i => by omega) (by decide) (by decide)]; exact raO (by decide) g7
  · rw [e 49 (by omega)] at c
    rw [R 170 (fun i => by omega) (by decide) (by decide), e 20 (by omega), R 163 (fun i => by omega) (by decide) (by decide), R 164 (fun i => by omega) (by decide) (by decide), R 165 (fun i => by omega) (by decide) (by decide)]; exact raO (by decide) (g8 c)
  · rw [R 31 (fun i => by omega) (by decide) (by decide), e 25 (by omega)]; exact g9.1
  · rw [e 25 (by omega)] at j1
    rw [R 31 (fun i => by omega) (by decide) (by decide), R 166 (fun i => by omega) (by decide) (by decide), e 25 (by omega), e 20 (by omega), R 163 (fun i => by omega) (by decide) (by decide), R 164 (fun i => by omega) (by decide) (by decide), R 165 (fun i => by omega) (by decide) (by decide)]; exact raO (by omega) (g9.2 j j0 j1)
  · rw [e 38 (by omega)] at c
    rw [e 20 (by omega), R 168 (fun i => by omega) (by decide) (by decide), R 1 (fun i => by omega) (by decide) (by decide), e 39 (by omega)]
    obtain ⟨q1, q2, q3⟩ := g10 c
    exact ⟨q1.of fun x i hx => by
      have hx2 : 129 ≤ x ∧ x ≤ 132 := by omega
      rw [R x (fun i => by omega) (by omega) (by omega)], q2, q3⟩
  · rw [a1 i i0 i1, a2 i i0 i1]
    by_cases c : i = r
    · rw [if_pos c, if_pos c, ← c, g11 i i0 i1]
    · rw [if_neg c, if_neg c]; exact g11 i i0 i1
  · rw [e 32 (by omega)]; exact g12
theorem Lx_refused_y (hL : Lay L) (hP : Ptr M) {r : Int} (hr : 0 ≤ r ∧ r ≤ 4) : Lx_refused fu L M 1 r = some (mu M 153 r (w32 (M 153 r + 1)), -1) := by
  have l1 : L 1 = (12, 0) := hL 1 (by decide)
  have l153 : L 153 = (101, 5) := hL 153 (by decide)
  have p : M 1 10 = 153 := hP (1, 10, 153) (by decide +kernel)
  have g : 0 ≤ r ∧ r < ((101, 5) : Int × Int).2 := by show _ ∧ _ < (5 : Int); omega
  unfold Lx_refused
  rw [if_neg (by omega), l1, if_pos rfl, p, l153, if_pos rfl, if_pos g.2, if_pos g, if_pos g, lt1_def]
theorem Mo_refuses_y (hL : Lay L) (hP : Ptr N) {r : Int} (hr : 0 ≤ r ∧ r ≤ 4) : Mo_refuses fu L N 154 r = some (mu N 167 r (w32 (N 167 r + 1)), -1) := by
  have l4 : L 154 = (13, 0) := hL 154 (by decide)
  have l167 : L 167 = (101, 5) := hL 167 (by decide)
  have p : N 154 26 = 167 := hP (154, 26, 167) (by decide +kernel)
  have g : 0 ≤ r ∧ r < ((101, 5) : Int × Int).2 := by show _ ∧ _ < (5 : Int); omega
  unfold Mo_refuses
  rw [l4, if_pos rfl, p, l167, if_pos rfl, if_pos g, if_pos g, lt1_def]
/-- both refuse for the same reason -/
theorem y_both_ref (I : y_inv L M top) {r : Int} (hr : 0 ≤ r ∧ r ≤ 4) {A N : zM} (oA : y_off M A) (hN : ∀ x i, ¬ y_scr x i → N x i = (mu A 153 r (w32 (A 153 r + 1))) x i) : Lx_refused fu L A 1 r = some (mu A 153 r (w32 (A 153 r + 1)), -1) ∧ Mo_refuses fu L N 154 r = some (mu N 167 r (w32 (N 167 r + 1)), -1) ∧ y_inv L (mu N 167 r (w32 (N 167 r + 1))) top := by
  have AP := oA.ptr I.ptr
  have BP : Ptr (mu A 153 r (w32 (A 153 r + 1))) := AP.mu fun q hq => by
    have h9 : ∀ q ∈ zPt, (q.1 : Int) ≠ 153 := by decide +kernel
    exact Or.inl (h9 q hq)
  have NP : Ptr N := by
    have o : y_off (mu A 153 r (w32 (A 153 r + 1))) N := fun a i c => hN a i c
    exact o.ptr BP
  have eA : ∀ x i, ¬ y_scr x i → A x i = M x i := fun x i c => oA x i c
  have e167 : N 167 r = M 167 r := by rw [hN _ _ (by omega), mx_ne (by omega)]; exact eA _ _ (by omega)
  refine ⟨Lx_refused_y I.lay AP hr, Mo_refuses_y I.lay NP hr, I.ref (r := r) ?_ (fun x i c c1 c2 => ?_) (fun i i0 i1 => ?_) (fun i i0 i1 => ?_)⟩
  · exact NP.mu fun q hq => by
      have h9 : ∀ q ∈ zPt, (q.1 : Int) ≠ 167 := by decide +kernel
      exact Or.inl (h9 q hq)
  · rw [mx_ne (by omega), hN _ _ c, mx_ne (by omega)]; exact eA x i c
  · rw [mx_ne (by omega), hN _ _ (by omega)]
    by_cases c : i = r
    · subst c; rw [mx_same, if_pos rfl, eA _ _ (by omega)]
    · rw [mx_ne (by omega), if_neg c]; exact eA _ _ (by omega)
  · by_cases c : i = r
    · subst c; rw [mx_same, if_pos rfl, e167]
    · rw [mx_ne (by omega), if_neg c, hN _ _ (by omega), mx_ne (by omega)]; exact eA _ _ (by omega)
end
