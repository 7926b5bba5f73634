/-! ===== pure: part 9n: period, limit ===== -/
section
variable {fu : Nat} {L : zL} {M N Z : zM} {top : Int}
theorem c_period (hf : 42000 ≤ fu) (I : y_inv L M top) (n : Int) : y_kep L M top (fun M => Lx_period fu L M 1 n) (fun M => Mo_period fu L M 154 n) := by
  have l1 : L 1 = (12, 0) := I.lay 1 (by decide)
  have l4 : L 154 = (13, 0) := I.lay 154 (by decide)
  have l19 : L 19 = (2, 0) := I.lay 19 (by decide)
  have l31 : L 31 = (1, 0) := I.lay 31 (by decide)
  have l62 : L 162 = (101, 2597) := I.lay 162 (by decide)
  have p4 : M 1 4 = 19 := I.ptr (1, 4, 19) (by decide +kernel)
  have p6 : M 1 6 = 31 := I.ptr (1, 6, 31) (by decide +kernel)
  have h6 := I.2.2.2.1
  have hra := I.2.2.2.2.1
  have w3 : M 19 3 = M 162 74 := hra.2.1.2.2.2.1
  have g0 : (0 : Int) ≤ 74 ∧ (74 : Int) < ((101, 2597) : Int × Int).2 := by decide
  by_cases h : M 154 19 = 0
  · refine y_kep_ref (fu := fu) I (r := 0) (by decide) (fun z => ?_) (fun z => ?_)
    · show Lx_period fu L M 1 n = _
      unfold Lx_period
      rw [l1, if_pos rfl, if_pos (show M 1 11 = 0 by omega), z, bd2_some]
    · show Mo_period fu L (y_rm1 M 0) 154 n = _
      unfold Mo_period Mo_becomes
      rw [l4, if_pos rfl, lt1_def, if_pos rfl, y_rm1_0 M 0 (by decide) (by decide), if_pos h, z, bd2_some, bd2_some]
  have h1 : M 154 19 = 1 := by omega
  by_cases c : 0 ≤ n ∧ n ≤ 99
  · obtain ⟨M1, a1, kk, kr⟩ := y_keepc (fu := fu) (by omega) I
    have q4 : M1 1 4 = 19 := by rw [kr 1 (by decide)]; exact p4
    have q3 : M1 19 3 = M 162 74 := by rw [kr 19 (by decide)]; exact w3
    obtain ⟨M2, hM2⟩ : ∃ M2, M2 = mu M1 19 3 n := ⟨_, rfl⟩
    have P2 : Ptr M2 := by rw [hM2]; exact kk.2.2.2.mu (by decide +kernel)
    have P0 : Ptr (mu M2 154 0 0) := P2.mu (by decide +kernel)
    obtain ⟨N1, b1, b2, b3, b4, b5⟩ := y_act2 (fu := fu) hf I h1 (M1 := M1) (M2 := M2) (N0 := mu M2 154 0 0) kk (fun x i q _ _ => by rw [hM2, mx_ne (by omega)]) (fun x i q _ => mx_ne (by omega)) P0
    have s18 : N1 154 18 = 162 := b3 (154, 18, 162) (by decide +kernel)
    obtain ⟨Z, hZ⟩ : ∃ Z, Z = mu N1 162 74 n := ⟨_, rfl⟩
    have z162 : Z 162 = iupd (M 162) 74 n := by rw [hZ, mu_row, b4]
    have zo : ∀ x i, x ≠ 162 → Z x i = N1 x i := fun x i q => by rw [hZ, mx_ne (Or.inl q)]
    have zc : ∀ x i, x < 31 ∨ 129 ≤ x → ¬ (x = 154 ∧ (i = 0 ∨ i = 25)) → x ≠ 162 → x ≠ 166 → ¬ (x = 19 ∧ i = 3) → Z x i = M x i := fun x i q q1 q2 q3 q4 => by
      rw [zo x i q2, b2 x i q3 (by omega), mx_ne (by omega), hM2, mx_ne (by omega), kr x q]
    refine ⟨M2, M 162 74, Z, ?_, ?_, b5 Z zo (Or.inl ⟨zc _ _ (by decide) (by decide) (by decide) (by decide) (by decide), zc _ _ (by decide) (by decide) (by decide) (by decide) (by decide)⟩) ?_⟩
    · show Lx_period fu L M 1 n = _
      unfold Lx_period
      rw [l1, if_pos rfl, if_neg (show ¬ M 1 11 = 0 by omega), if_neg (show ¬ n < 0 by omega), if_neg (show ¬ 99 < n by omega), p6, l31, if_pos rfl, p4, a1, bd1_some, q4, l19, if_pos rfl, q3, lt1_def, lt1_def, ← hM2]
    · show Mo_period fu L M2 154 n = _
      have u19 : mu M2 154 0 0 154 19 = 1 := by rw [mx_ne (by decide), hM2, mx_ne (by decide), kr 154 (by decide)]; exact h1
      unfold Mo_period Mo_becomes
      rw [l4, if_pos rfl, lt1_def, if_pos rfl, u19, if_neg (by decide), Mo_in_ok, if_pos c, bd1_some, if_neg (by decide), b1, bd1_some, s18, l62, if_pos rfl, if_pos g0, b4, lt1_def, if_pos g0, lt1_def, ← hZ, bd2_some]
    · rw [z162]
      have e0 : iupd (M 162) 74 n 74 = n := iupd_s _ _ _
      have ej : ∀ j, j ≠ 74 → iupd (M 162) 74 n j = M 162 j := fun j q => iupd_n q
      have zr : ∀ x, (x < 31 ∨ 129 ≤ x) → x ≠ 154 → x ≠ 162 → x ≠ 166 → x ≠ 19 → Z x = M x := fun x q q1 q2 q3 q4 => funext fun i => zc x i q (by omega) q2 q3 (by omega)
      obtain ⟨r1, r2, r3, r4, r5, r6, r7⟩ := hra
      refine ⟨r1, ⟨?_, ?_, ?_, ?_, ?_⟩, ?_, ?_, ?_, fun l l0 l1 => ?_, fun g g0 g1 => ?_⟩
      · rw [zc _ _ (by decide) (by decide) (by decide) (by decide) (by decide)]; exact r2.1
      · rw [zc _ _ (by decide) (by decide) (by decide) (by decide) (by decide)]; exact r2.2.1
      · rw [zc _ _ (by decide) (by decide) (by decide) (by decide) (by decide), ej _ (by decide)]; exact r2.2.2.1
      · rw [e0, zo _ _ (by decide), b2 _ _ (by decide) (by decide), mx_ne (by decide), hM2, mx_same]
      · rw [zc _ _ (by decide) (by decide) (by decide) (by decide) (by decide), ej _ (by decide)]; exact r2.2.2.2.2
      · rw [e0, ej 76 (by decide), ej 75 (by decide), ej 0 (by decide)]
        omega
      · have z := r4.of (M' := Z) fun x i q => by rw [zr x (by omega) (by omega) (by omega) (by omega) (by omega)]
        exact z.congr (ej _ (by decide)) (ej _ (by decide)) (fun p p0 p1 => by
          have := r5.1
          exact ⟨ej _ (by omega), ej _ (by omega), ej _ (by omega)⟩)
      · exact r5.congr (ej _ (by decide)) (ej _ (by decide)) (fun p p0 p1 => by
          have := r5.1
          exact ⟨ej _ (by omega), ej _ (by omega), ej _ (by omega)⟩)
      · have := r5.1
        rw [ej _ (by omega), ej _ (by omega)]; exact r6 l l0 l1
      · rw [ej _ (by decide)] at g1
        rw [zr (19 + 5) (by decide) (by decide) (by decide) (by decide) (by decide)]
        exact ((r7 g g0 g1).of (fun x x0 _ => zr x (by omega) (by omega) (by omega) (by omega) (by omega)) (fun _ _ _ => rfl) (Int.le_refl _)).congr fun i i0 i1 => ej _ (by omega)
  · refine y_kep_ref (fu := fu) I (r := 2) (by decide) (fun z => ?_) (fun z => ?_)
    · show Lx_period fu L M 1 n = _
      unfold Lx_period
      rw [l1, if_pos rfl, if_neg (show ¬ M 1 11 = 0 by omega)]
      by_cases c1 : n < 0
      · rw [if_pos c1, z, bd2_some]
      · rw [if_neg c1, if_pos (show 99 < n by omega), z, bd2_some]
    · show Mo_period fu L (y_rm1 M 2) 154 n = _
      unfold Mo_period Mo_becomes
      rw [l4, if_pos rfl, lt1_def, if_pos rfl, y_rm1_0 M 2 (x := 154) (i := 19) (by decide) (by decide), if_neg h, Mo_in_ok, if_neg c, bd1_some, if_pos rfl, z, bd2_some, bd2_some]
theorem c_limit (hf : 42000 ≤ fu) (I : y_inv L M top) (n : Int) : y_kep L M top (fun M => Lx_limit fu L M 1 n) (fun M => Mo_limit fu L M 154 n) := by
  have l1 : L 1 = (12, 0) := I.lay 1 (by decide)
  have l4 : L 154 = (13, 0) := I.lay 154 (by decide)
  have l19 : L 19 = (2, 0) := I.lay 19 (by decide)
  have l31 : L 31 = (1, 0) := I.lay 31 (by decide)
  have l62 : L 162 = (101, 2597) := I.lay 162 (by decide)
  have p4 : M 1 4 = 19 := I.ptr (1, 4, 19) (by decide +kernel)
  have p6 : M 1 6 = 31 := I.ptr (1, 6, 31) (by decide +kernel)
  have h6 := I.2.2.2.1
  have hra := I.2.2.2.2.1
  have w3 : M 19 4 = M 162 75 := hra.2.1.2.2.2.2
  have g0 : (0 : Int) ≤ 75 ∧ (75 : Int) < ((101, 2597) : Int × Int).2 := by decide
  by_cases h : M 154 19 = 0
  · refine y_kep_ref (fu := fu) I (r := 0) (by decide) (fun z => ?_) (fun z => ?_)
    · show Lx_limit fu L M 1 n = _
      unfold Lx_limit
      rw [l1, if_pos rfl, if_pos (show M 1 11 = 0 by omega), z, bd2_some]
    · show Mo_limit fu L (y_rm1 M 0) 154 n = _
      unfold Mo_limit Mo_becomes
      rw [l4, if_pos rfl, lt1_def, if_pos rfl, y_rm1_0 M 0 (by decide) (by decide), if_pos h, z, bd2_some, bd2_some]
  have h1 : M 154 19 = 1 := by omega
  by_cases c : 13 ≤ n ∧ n ≤ 99
  · obtain ⟨M1, a1, kk, kr⟩ := y_keepc (fu := fu) (by omega) I
    have q4 : M1 1 4 = 19 := by rw [kr 1 (by decide)]; exact p4
    have q3 : M1 19 4 = M 162 75 := by rw [kr 19 (by decide)]; exact w3
    obtain ⟨M2, hM2⟩ : ∃ M2, M2 = mu M1 19 4 n := ⟨_, rfl⟩
    have P2 : Ptr M2 := by rw [hM2]; exact kk.2.2.2.mu (by decide +kernel)
    have P0 : Ptr (mu M2 154 0 0) := P2.mu (by decide +kernel)
    obtain ⟨N1, b1, b2, b3, b4, b5⟩ := y_act2 (fu := fu) hf I h1 (M1 := M1) (M2 := M2) (N0 := mu M2 154 0 0) kk (fun x i q _ _ => by rw [hM2, mx_ne (by omega)]) (fun x i q _ => mx_ne (by omega)) P0
    have s18 : N1 154 18 = 162 := b3 (154, 18, 162) (by decide +kernel)
    obtain ⟨Z, hZ⟩ : ∃ Z, Z = mu N1 162 75 n := ⟨_, rfl⟩
    have z162 : Z 162 = iupd (M 162) 75 n := by rw [hZ, mu_row, b4]
    have zo : ∀ x i, x ≠ 162 → Z x i = N1 x i := fun x i q => by rw [hZ, mx_ne (Or.inl q)]
    have zc : ∀ x i, x < 31 ∨ 129 ≤ x → ¬ (x = 154 ∧ (i = 0 ∨ i = 25)) → x ≠ 162 → x ≠ 166 → ¬ (x = 19 ∧ i = 4) → Z x i = M x i := fun x i q q1 q2 q3 q4 => by
      rw [zo x i q2, b2 x i q3 (by omega), mx_ne (by omega), hM2, mx_ne (by omega), kr x q]
    refine ⟨M2, M 162 75, Z, ?_, ?_, b5 Z zo (Or.inl ⟨zc _ _ (by decide) (by decide) (by decide) (by decide) (by decide), zc _ _ (by decide) (by decide) (by decide) (by decide) (by decide)⟩) ?_⟩
    · show Lx_limit fu L M 1 n = _
      unfold Lx_limit
      rw [l1, if_pos rfl, if_neg (show ¬ M 1 11 = 0 by omega), if_neg (show ¬ n < 13 by omega), if_neg (show ¬ 99 < n by omega), p6, l31, if_pos rfl, p4, a1, bd1_some, q4, l19, if_pos rfl, q3, lt1_def, lt1_def, ← hM2]
    · show Mo_limit fu L M2 154 n = _
      have u19 : mu M2 154 0 0 154 19 = 1 := by rw [mx_ne (by decide), hM2, mx_ne (by decide), kr 154 (by decide)]; exact h1
      unfold Mo_limit Mo_becomes
      rw [l4, if_pos rfl, lt1_def, if_pos rfl, u19, if_neg (by decide), Mo_in_ok, if_pos c, bd1_some, if_neg (by decide), b1, bd1_some, s18, l62, if_pos rfl, if_pos g0, b4, lt1_def, if_pos g0, lt1_def, ← hZ, bd2_some]
    · rw [z162]
      have e0 : iupd (M 162) 75 n 75 = n := iupd_s _ _ _
      have ej : ∀ j, j ≠ 75 → iupd (M 162) 75 n j = M 162 j := fun j q => iupd_n q
      have zr : ∀ x, (x < 31 ∨ 129 ≤ x) → x ≠ 154 → x ≠ 162 → x ≠ 166 → x ≠ 19 → Z x = M x := fun x q q1 q2 q3 q4 => funext fun i => zc x i q (by omega) q2 q3 (by omega)
      obtain ⟨r1, r2, r3, r4, r5, r6, r7⟩ := hra
      refine ⟨r1, ⟨?_, ?_, ?_, ?_, ?_⟩, ?_, ?_, ?_, fun l l0 l1 => ?_, fun g g0 g1 => ?_⟩
      · rw [zc _ _ (by decide) (by decide) (by decide) (by decide) (by decide)]; exact r2.1
      · rw [zc _ _ (by decide) (by decide) (by decide) (by decide) (by decide)]; exact r2.2.1
      · rw [zc _ _ (by decide) (by decide) (by decide) (by decide) (by decide), ej _ (by decide)]; exact r2.2.2.1
      · rw [zc _ _ (by decide) (by decide) (by decide) (by decide) (by decide), ej _ (by decide)]; exact r2.2.2.2.1
      · rw [e0, zo _ _ (by decide), b2 _ _ (by decide) (by decide), mx_ne (by decide), hM2, mx_same]
      · rw [e0, ej 76 (by decide), ej 74 (by decide), ej 0 (by decide)]
        omega
      · have z := r4.of (M' := Z) fun x i q => by rw [zr x (by omega) (by omega) (by omega) (by omega) (by omega)]
        exact z.congr (ej _ (by decide)) (ej _ (by decide)) (fun p p0 p1 => by
          have := r5.1
          exact ⟨ej _ (by omega), ej _ (by omega), ej _ (by omega)⟩)
      · exact r5.congr (ej _ (by decide)) (ej _ (by decide)) (fun p p0 p1 => by
          have := r5.1
          exact ⟨ej _ (by omega), ej _ (by omega), ej _ (by omega)⟩)
      · have := r5.1
        rw [ej _ (by omega), ej _ (by omega)]; exact r6 l l0 l1
      · rw [ej _ (by decide)] at g1
        rw [zr (19 + 5) (by decide) (by decide) (by decide) (by decide) (by decide)]
        exact ((r7 g g0 g1).of (fun x x0 _ => zr x (by omega) (by omega) (by omega) (by omega) (by omega)) (fun _ _ _ => rfl) (Int.le_refl _)).congr fun i i0 i1 => ej _ (by omega)
  · refine y_kep_ref (fu := fu) I (r := 2) (by decide) (fun z => ?_) (fun z => ?_)
    · show Lx_limit fu L M 1 n = _
      unfold Lx_limit
      rw [l1, if_pos rfl, if_neg (show ¬ M 1 11 = 0 by omega)]
      by_cases c1 : n < 13
      · rw [if_pos c1, z, bd2_some]
      · rw [if_neg c1, if_pos (show 99 < n by omega), z, bd2_some]
    · show Mo_limit fu L (y_rm1 M 2) 154 n = _
      unfold Mo_limit Mo_becomes
      rw [l4, if_pos rfl, lt1_def, if_pos rfl, y_rm1_0 M 2 (x := 154) (i := 19) (by decide) (by decide), if_neg h, Mo_in_ok, if_neg c, bd1_some, if_pos rfl, z, bd2_some, bd2_some]
end
