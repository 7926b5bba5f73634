/-! ===== pure: part 9p: undo, image, back ===== -/
section
variable {fu : Nat} {L : zL} {M N Z : zM} {top : Int}
/-- rows that an asm's frame leaves as they were -/
theorem y_frm_ra {a : Int} {w : Int → Int} {lv : Int} {nm ag pr : Int → Int} (h : y_ra L M a top w lv nm ag pr) (ha : ∀ x, a ≤ x → x ≤ a + 5 → Z x = M x) (hi : ∀ x, 172 ≤ x → Z x = M x) : y_ra L Z a top w lv nm ag pr :=
  h.of ha (fun x x0 _ => hi x x0) (fun _ _ _ => rfl) (fun _ _ _ => rfl) (Int.le_refl _)
theorem zDs_19 : (19 : Int) ∈ zDs := by decide
theorem zDs_25 : (25 : Int) ∈ zDs := by decide
theorem c_undo (hf : 42000 ≤ fu) (I : y_inv L M top) : y_kep L M top (fun M => Lx_undo fu L M 1) (fun M => Mo_undo fu L M 154) := by
  have l1 : L 1 = (12, 0) := I.lay 1 (by decide)
  have l4 : L 154 = (13, 0) := I.lay 154 (by decide)
  have l19 : L 19 = (2, 0) := I.lay 19 (by decide)
  have l31 : L 31 = (1, 0) := I.lay 31 (by decide)
  have l62 : L 162 = (101, 2597) := I.lay 162 (by decide)
  have l66 : L 166 = (101, 41552) := I.lay 166 (by decide)
  have p4 : M 1 4 = 19 := I.ptr (1, 4, 19) (by decide +kernel)
  have p6 : M 1 6 = 31 := I.ptr (1, 6, 31) (by decide +kernel)
  have h6 := I.2.2.2.1
  have r9 := I.2.2.2.2.2.2.1
  obtain ⟨k0, k1, k2, k3, k4⟩ := r9.1
  obtain ⟨s, hs⟩ : ∃ s, s = (if 0 < M 31 1 then M 31 1 - 1 else 15) := ⟨_, rfl⟩
  have sb : 0 ≤ s ∧ s ≤ 15 := by rw [hs]; split <;> omega
  have es : (M 31 1 - 1 - 0) % 16 = s := by rw [hs]; split <;> omega
  have ew1 : w32 (M 31 1 - 1) = M 31 1 - 1 := w32_id (by omega)
  have pl := Ac_placeAt_y (fu := fu) I.lay I.ptr sb
  have tb : ∀ R, Ac_takeBack_b18 fu L M 31 19 s = R → Ac_takeBack fu L M 31 19 = R := fun R e => by
    unfold Ac_takeBack
    rw [l31, if_pos rfl, ew1, ← e, hs]
    by_cases c : 0 < M 31 1
    · rw [if_pos c, if_pos c]
    · rw [if_neg c, if_neg c]
  by_cases c : M 154 25 = 0
  · refine (y_same.mk (M1 := M) (M2 := mu M 154 0 0) (r := -1) (y_off0 M) ?_ ?_ : y_same L M (fun M => Lx_undo fu L M 1) (fun M => Mo_undo fu L M 154)).kep I
    · show Lx_undo fu L M 1 = _
      unfold Lx_undo
      have e : Ac_takeBack_b18 fu L M 31 19 s = some (M, 0) := by
        unfold Ac_takeBack_b18
        rw [l31, if_pos rfl, pl, bd1_some, if_neg (show ¬ 0 < M 31 2 by omega)]
      rw [l1, if_pos rfl, p6, l31, if_pos rfl, p4, tb _ e, bd2_some, if_pos rfl]
    · show Mo_undo fu L M 154 = _
      unfold Mo_undo
      rw [l4, if_pos rfl, lt1_def, y_off0 M 154 25 (by omega), if_pos c]
  · have h1 : M 154 19 = 1 := by
      rcases h6.2.1 with z | z
      · have := h6.2.2.2.2.1 z; omega
      · exact z
    have hr := r9.2 0 (Int.le_refl 0) (by omega)
    rw [es] at hr
    have hd := zDs_slot sb
    obtain ⟨M1, a1, a2, a3⟩ := Af_copyFrom_ok (fu := fu) (d := 19) (s := 33 + 6 * s) (by omega) hr (by omega) (by decide) (y_afs_ok I.lay I.ptr zDs_19) (Or.inr (by omega))
    have P1 := y_wri_ptr I.ptr zDs_19 a2
    have q31 : ∀ i, M1 31 i = M 31 i := fun i => a2 _ _ (by unfold y_wri; omega)
    obtain ⟨M2, hM2⟩ : ∃ M2, M2 = mu (mu M1 31 1 s) 31 2 (M 31 2 - 1) := ⟨_, rfl⟩
    have ek : w32 (M 31 2 - 1) = M 31 2 - 1 := w32_id (by omega)
    have e : Ac_takeBack_b18 fu L M 31 19 s = some (M2, 1) := by
      unfold Ac_takeBack_b18
      rw [l31, if_pos rfl, pl, bd1_some, if_pos (show 0 < M 31 2 by omega), if_neg (show ¬ 33 + 6 * s = 0 by omega), l19, if_pos rfl, a1, bd1_some, lt1_def, mx_ne (by decide), q31, ek, lt1_def, ← hM2]
    have m2o : ∀ x i, ¬ y_wri 19 x i → ¬ (x = 31 ∧ (i = 1 ∨ i = 2)) → M2 x i = M x i := fun x i q q1 => by
      rw [hM2, mx_ne (by omega), mx_ne (by omega)]; exact a2 x i q
    have P2 : Ptr M2 := by rw [hM2]; exact (P1.mu (by decide +kernel)).mu (by decide +kernel)
    obtain ⟨N0, hN0⟩ : ∃ N0, N0 = mu (mu M2 154 0 0) 154 25 (M 154 25 - 1) := ⟨_, rfl⟩
    have P0 : Ptr N0 := by rw [hN0]; exact (P2.mu (by decide +kernel)).mu (by decide +kernel)
    have n0 : ∀ x i, x ≠ 154 → N0 x i = M2 x i := fun x i q => by rw [hN0, mx_ne (Or.inl q), mx_ne (Or.inl q)]
    have n166 : ∀ i, N0 166 i = M 166 i := fun i => (n0 _ _ (by decide)).trans (m2o _ _ (by unfold y_wri; omega) (by omega))
    have n25 : N0 154 25 = M 154 25 - 1 := by rw [hN0, mx_same]
    have b18 : N0 154 18 = 162 := P0 (154, 18, 162) (by decide +kernel)
    have b24 : N0 154 24 = 166 := P0 (154, 24, 166) (by decide +kernel)
    have ec : w32 (2597 * (M 154 25 - 1)) = 2597 * (M 154 25 - 1) := w32_id (by omega)
    obtain ⟨Z, k, ee, ⟨o, t1⟩⟩ := y_lpx (F := fun k (T : zM) i => Mo_undo_l26 fu L k T 154 i) (N := 2597)
      (fun i T => (∀ x j, x ≠ 162 → T x j = N0 x j) ∧ ∀ k, 0 ≤ k → k < i → T 162 k = M 166 (2597 * (M 154 25 - 1) + k))
      (fun k T i h0 hN hJ => by
        obtain ⟨o, t1⟩ := hJ
        have ew : w32 (i + 1) = i + 1 := w32_id (by omega)
        have e2 : w32 (2597 * (M 154 25 - 1) + i) = 2597 * (M 154 25 - 1) + i := w32_id (by omega)
        have g1 : 0 ≤ i ∧ i < ((101, 2597) : Int × Int).2 := ⟨h0, hN⟩
        have g2 : 0 ≤ 2597 * (M 154 25 - 1) + i ∧ 2597 * (M 154 25 - 1) + i < ((101, 41552) : Int × Int).2 := by show _ ∧ _ < (41552 : Int); omega
        refine ⟨mu T 162 i (M 166 (2597 * (M 154 25 - 1) + i)), ?_, fun x j q => ?_, fun k k0 k1 => ?_⟩
        · show Mo_undo_s26 _ _ _ _ _ _ = _
          unfold Mo_undo_s26
          rw [if_pos hN, l4, if_pos rfl, o 154 24 (by decide), b24, l66, if_pos rfl, o 154 25 (by decide), n25, ec, e2, if_pos g2, o 154 18 (by decide), b18, l62, if_pos rfl, if_pos g1, o 166 _ (by decide), n166, lt1_def, lt1_def, ew]
        · rw [mx_ne (Or.inl q)]; exact o x j q
        · by_cases c1 : k = i
          · subst c1; rw [mx_same]
          · rw [mx_ne (by omega)]; exact t1 k k0 (by omega)) 2597 fu N0 0 (by omega) (by omega) (by omega) ⟨fun _ _ _ => rfl, fun k k0 k1 => absurd k1 (by omega)⟩
    have zo : ∀ x i, x ≠ 162 → ¬ (x = 154 ∧ (i = 0 ∨ i = 25)) → ¬ y_wri 19 x i → ¬ (x = 31 ∧ (i = 1 ∨ i = 2)) → Z x i = M x i := fun x i q q1 q2 q3 => by
      rw [o x i q, hN0, mx_ne (by omega), mx_ne (by omega)]; exact m2o x i q2 q3
    have zm1 : ∀ x, 19 ≤ x → x ≤ 24 → Z x = M1 x := fun x x0 x1 => funext fun i => by
      rw [o x i (by omega), n0 x i (by omega), hM2, mx_ne (by omega), mx_ne (by omega)]
    have zr : ∀ x, x ≠ 162 → x ≠ 154 → ¬ (19 ≤ x ∧ x ≤ 24) → x ≠ 31 → Z x = M x := fun x q q1 q2 q3 => funext fun i => zo x i q (by omega) (by unfold y_wri; omega) (by omega)
    have ZP : Ptr Z := fun q hq => by
      have h9 : ∀ q ∈ zPt, (q.1 : Int) ≠ 162 := by decide +kernel
      rw [o _ _ (h9 q hq)]; exact P0 q hq
    have z4 : ∀ i, i ≠ 0 → i ≠ 25 → Z 154 i = M 154 i := fun i q q1 => zo 154 i (by decide) (by omega) (by unfold y_wri; omega) (by omega)
    have z25 : Z 154 25 = M 154 25 - 1 := (o _ _ (by decide)).trans n25
    have z311 : Z 31 1 = s := by rw [o _ _ (by decide), n0 _ _ (by decide), hM2, mx_ne (by decide), mx_same]
    have z312 : Z 31 2 = M 31 2 - 1 := by rw [o _ _ (by decide), n0 _ _ (by decide), hM2, mx_same]
    refine ⟨M2, M 154 25 - 1, Z, ?_, ?_, ?_⟩
    · show Lx_undo fu L M 1 = _
      have q6 : M2 1 6 = 31 := P2 (1, 6, 31) (by decide +kernel)
      have q2 : M2 31 2 = M 154 25 - 1 := by rw [hM2, mx_same]; omega
      unfold Lx_undo
      rw [l1, if_pos rfl, p6, l31, if_pos rfl, p4, tb _ e, bd2_some, if_neg (by decide), q6, l31, if_pos rfl, q2]
    · show Mo_undo fu L M2 154 = _
      have u25 : mu M2 154 0 0 154 25 = M 154 25 := (mx_ne (by decide)).trans (m2o _ _ (by unfold y_wri; omega) (by omega))
      have ew : w32 (M 154 25 - 1) = M 154 25 - 1 := w32_id (by omega)
      unfold Mo_undo
      rw [l4, if_pos rfl, lt1_def, u25, if_neg c, ew, lt1_def, ← hN0, ee]
      show Mo_undo_s26 _ _ _ _ _ _ = _
      unfold Mo_undo_s26
      rw [if_neg (by decide), l4, if_pos rfl, z25]
    · refine I.asm h1 ZP ⟨⟨zr 3 (by decide) (by decide) (by decide) (by decide), zr 155 (by decide) (by decide) (by decide) (by decide), zr 4 (by decide) (by decide) (by decide) (by decide), zr 163 (by decide) (by decide) (by decide) (by decide), zr 164 (by decide) (by decide) (by decide) (by decide), zr 165 (by decide) (by decide) (by decide) (by decide)⟩, by rw [zr 2 (by decide) (by decide) (by decide) (by decide)], z4 20 (by decide) (by decide), z4 19 (by decide) (by decide), by rw [zr 1 (by decide) (by decide) (by decide) (by decide)], z4 32 (by decide) (by decide)⟩ (Or.inl ⟨by rw [zr 2 (by decide) (by decide) (by decide) (by decide)], z4 2 (by decide) (by decide)⟩) ?_ ?_ (fun q => ?_) ⟨?_, fun j j0 j1 => ?_⟩ (fun q => ?_) ?_
      · rw [zr 1 (by decide) (by decide) (by decide) (by decide), z4 49 (by decide) (by decide), z4 38 (by decide) (by decide)]
        exact ⟨⟨h6.1.2.1, h6.1.2.2⟩, h6.2.2.1, h6.2.2.2.1⟩
      · have z := a3.of (N := Z) (L' := L) (top' := top) (fun x x0 x1 => zm1 x x0 (by omega)) (fun x x0 _ => (zr x (by omega) (by omega) (by omega) (by omega)).trans (funext fun i => (a2 x i (by unfold y_wri; omega)).symm)) (fun _ _ _ => rfl) (fun _ _ _ => rfl) (Int.le_refl _)
        exact z.congr fun i i0 i1 => by
          show Z 162 i = M 166 (2597 * (M 154 25 - 1 - 0) + i)
          rw [t1 i i0 i1, show M 154 25 - 1 - 0 = M 154 25 - 1 by omega]
      · rw [z4 49 (by decide) (by decide)] at q
        rw [zr 170 (by decide) (by decide) (by decide) (by decide)]
        exact y_frm_ra (I.2.2.2.2.2.1 q) (fun x x0 x1 => zr x (by omega) (by omega) (by omega) (by omega)) (fun x x0 => zr x (by omega) (by omega) (by omega) (by omega))
      · rw [z311, z312, z25]; omega
      · rw [z25] at j1
        rw [z311, z25, zr 166 (by decide) (by decide) (by decide) (by decide)]
        have hh := r9.2 (j + 1) (by omega) (by omega)
        have e1 : (M 31 1 - 1 - (j + 1)) % 16 = (s - 1 - j) % 16 := by rw [← es]; omega
        have e2 : M 154 25 - 1 - (j + 1) = M 154 25 - 1 - 1 - j := by omega
        rw [e1, e2] at hh
        have xb : 0 ≤ (s - 1 - j) % 16 ∧ (s - 1 - j) % 16 ≤ 15 := by omega
        exact y_frm_ra hh (fun x x0 x1 => zr x (by omega) (by omega) (by omega) (by omega)) (fun x x0 => zr x (by omega) (by omega) (by omega) (by omega))
      · rw [z4 38 (by decide) (by decide)] at q
        obtain ⟨q1, q2, q3⟩ := I.2.2.2.2.2.2.2.1 q
        rw [zr 168 (by decide) (by decide) (by decide) (by decide), zr 1 (by decide) (by decide) (by decide) (by decide), z4 39 (by decide) (by decide)]
        exact ⟨q1.of fun x i hx => by rw [zr x (by omega) (by omega) (by omega) (by omega)], q2, q3⟩
      · rw [zr 153 (by decide) (by decide) (by decide) (by decide), zr 167 (by decide) (by decide) (by decide) (by decide)]; exact I.2.2.2.2.2.2.2.2.1
theorem c_image (hf : 42000 ≤ fu) (I : y_inv L M top) : y_kep L M top (fun M => Lx_image fu L M 1) (fun M => Mo_image fu L M 154) := by
  have l1 : L 1 = (12, 0) := I.lay 1 (by decide)
  have l4 : L 154 = (13, 0) := I.lay 154 (by decide)
  have l19 : L 19 = (2, 0) := I.lay 19 (by decide)
  have l20 : L 20 = (11, 0) := I.lay 20 (by decide)
  have l25 : L 25 = (2, 0) := I.lay 25 (by decide)
  have l62 : L 162 = (101, 2597) := I.lay 162 (by decide)
  have l70 : L 170 = (101, 2597) := I.lay 170 (by decide)
  have p4 : M 1 4 = 19 := I.ptr (1, 4, 19) (by decide +kernel)
  have p5 : M 1 5 = 25 := I.ptr (1, 5, 25) (by decide +kernel)
  have h6 := I.2.2.2.1
  have w5 : M 20 5 = M 162 0 := I.wr.2.1.2.2
  have g0 : (0 : Int) ≤ 0 ∧ (0 : Int) < ((101, 2597) : Int × Int).2 := by decide
  by_cases h : M 154 19 = 0
  · refine (y_same.mk (M1 := M) (M2 := mu M 154 0 0) (r := -1) (y_off0 M) ?_ ?_ : y_same L M (fun M => Lx_image fu L M 1) (fun M => Mo_image fu L M 154)).kep I
    · show Lx_image fu L M 1 = _
      unfold Lx_image
      rw [l1, if_pos rfl, if_pos (show M 1 11 = 0 by omega)]
    · show Mo_image fu L M 154 = _
      unfold Mo_image
      rw [l4, if_pos rfl, lt1_def, y_off0 M 154 19 (by omega), if_pos h]
  · have h1 : M 154 19 = 1 := by omega
    obtain ⟨M1, a1, a2, a3⟩ := Af_copyFrom_ok (fu := fu) (d := 25) (s := 19) (by omega) I.2.2.2.2.1 (by decide) (by decide) (y_afs_ok I.lay I.ptr zDs_25) (Or.inl (by decide))
    have P1 := y_wri_ptr I.ptr zDs_25 a2
    obtain ⟨M2, hM2⟩ : ∃ M2, M2 = mu M1 1 12 1 := ⟨_, rfl⟩
    have P2 : Ptr M2 := by rw [hM2]; exact P1.mu (by decide +kernel)
    have m2o : ∀ x i, ¬ y_wri 25 x i → ¬ (x = 1 ∧ i = 12) → M2 x i = M x i := fun x i q q1 => by
      rw [hM2, mx_ne (by omega)]; exact a2 x i q
    obtain ⟨N0, hN0⟩ : ∃ N0, N0 = mu M2 154 0 0 := ⟨_, rfl⟩
    have P0 : Ptr N0 := by rw [hN0]; exact P2.mu (by decide +kernel)
    have n0 : ∀ x i, ¬ (x = 154 ∧ i = 0) → N0 x i = M2 x i := fun x i q => by rw [hN0, mx_ne (by omega)]
    have n162 : ∀ i, N0 162 i = M 162 i := fun i => (n0 _ _ (by omega)).trans (m2o _ _ (by unfold y_wri; omega) (by omega))
    have b18 : N0 154 18 = 162 := P0 (154, 18, 162) (by decide +kernel)
    have b48 : N0 154 48 = 170 := P0 (154, 48, 170) (by decide +kernel)
    obtain ⟨T, k, ee, ⟨o, t1⟩⟩ := y_lpx (F := fun k (T : zM) i => Mo_image_l16 fu L k T 154 i) (N := 2597)
      (fun i T => (∀ x j, x ≠ 170 → T x j = N0 x j) ∧ ∀ k, 0 ≤ k → k < i → T 170 k = M 162 k)
      (fun k T i h0 hN hJ => by
        obtain ⟨o, t1⟩ := hJ
        have ew : w32 (i + 1) = i + 1 := w32_id (by omega)
        have g1 : 0 ≤ i ∧ i < ((101, 2597) : Int × Int).2 := ⟨h0, hN⟩
        refine ⟨mu T 170 i (M 162 i), ?_, fun x j q => ?_, fun k k0 k1 => ?_⟩
        · show Mo_image_s16 _ _ _ _ _ _ = _
          unfold Mo_image_s16
          rw [if_pos hN, l4, if_pos rfl, o 154 18 (by decide), b18, l62, if_pos rfl, if_pos g1, o 154 48 (by decide), b48, l70, if_pos rfl, if_pos g1, o 162 _ (by decide), n162, lt1_def, lt1_def, ew]
        · rw [mx_ne (Or.inl q)]; exact o x j q
        · by_cases c1 : k = i
          · subst c1; rw [mx_same]
          · rw [mx_ne (by omega)]; exact t1 k k0 (by omega)) 2597 fu N0 0 (by omega) (by omega) (by omega) ⟨fun _ _ _ => rfl, fun k k0 k1 => absurd k1 (by omega)⟩
    obtain ⟨Z, hZ⟩ : ∃ Z, Z = mu T 154 49 1 := ⟨_, rfl⟩
    have zo : ∀ x i, x ≠ 170 → ¬ (x = 154 ∧ (i = 0 ∨ i = 49)) → ¬ y_wri 25 x i → ¬ (x = 1 ∧ i = 12) → Z x i = M x i := fun x i q q1 q2 q3 => by
      rw [hZ, mx_ne (by omega), o x i q, n0 x i (by omega)]; exact m2o x i q2 q3
    have zr : ∀ x, x ≠ 170 → x ≠ 154 → ¬ (25 ≤ x ∧ x ≤ 30) → x ≠ 1 → Z x = M x := fun x q q1 q2 q3 => funext fun i => zo x i q (by omega) (by unfold y_wri; omega) (by omega)
    have zm1 : ∀ x, 25 ≤ x → x ≤ 30 → Z x = M1 x := fun x x0 x1 => funext fun i => by
      rw [hZ, mx_ne (by omega), o x i (by omega), n0 x i (by omega), hM2, mx_ne (by omega)]
    have ZP : Ptr Z := fun q hq => by
      have h9 : ∀ q ∈ zPt, (q.1 : Int) ≠ 170 ∧ ¬ ((q.1 : Int) = 154 ∧ (q.2.1 : Int) = 49) := by decide +kernel
      have := h9 q hq
      rw [hZ, mx_ne (by omega), o _ _ this.1]; exact P0 q hq
    have z4 : ∀ i, i ≠ 0 → i ≠ 49 → Z 154 i = M 154 i := fun i q q1 => zo 154 i (by decide) (by omega) (by unfold y_wri; omega) (by omega)
    have z1 : ∀ i, i ≠ 12 → Z 1 i = M 1 i := fun i q => zo 1 i (by decide) (by omega) (by unfold y_wri; omega) (by omega)
    have z112 : Z 1 12 = 1 := by rw [hZ, mx_ne (by decide), o _ _ (by decide), n0 _ _ (by decide), hM2, mx_same]
    have z49 : Z 154 49 = 1 := by rw [hZ, mx_same]
    refine ⟨M2, M 162 0, Z, ?_, ?_, ?_⟩
    · show Lx_image fu L M 1 = _
      have q4 : M2 1 4 = 19 := P2 (1, 4, 19) (by decide +kernel)
      have q0 : M2 19 0 = 20 := P2 (19, 0, 20) (by decide +kernel)
      have q5 : M2 20 5 = M 162 0 := (m2o _ _ (by unfold y_wri; omega) (by omega)).trans w5
      unfold Lx_image
      rw [l1, if_pos rfl, if_neg (show ¬ M 1 11 = 0 by omega), p5, l25, if_pos rfl, p4, a1, bd1_some, lt1_def, ← hM2, q4, l19, if_pos rfl, q0, l20, if_pos rfl, q5]
    · show Mo_image fu L M2 154 = _
      have u19 : N0 154 19 = 1 := ((n0 _ _ (by omega)).trans (m2o _ _ (by unfold y_wri; omega) (by omega))).trans h1
      have v18 : Z 154 18 = 162 := ZP (154, 18, 162) (by decide +kernel)
      have v0 : Z 162 0 = M 162 0 := by rw [zr 162 (by decide) (by decide) (by decide) (by decide)]
      unfold Mo_image
      rw [l4, if_pos rfl, lt1_def, ← hN0, u19, if_neg (by decide), ee]
      show Mo_image_s16 _ _ _ _ _ _ = _
      unfold Mo_image_s16
      rw [if_neg (by decide), l4, if_pos rfl, lt1_def, ← hZ, v18, l62, if_pos rfl, if_pos g0, v0]
    · refine I.asm h1 ZP ⟨⟨zr 3 (by decide) (by decide) (by decide) (by decide), zr 155 (by decide) (by decide) (by decide) (by decide), zr 4 (by decide) (by decide) (by decide) (by decide), zr 163 (by decide) (by decide) (by decide) (by decide), zr 164 (by decide) (by decide) (by decide) (by decide), zr 165 (by decide) (by decide) (by decide) (by decide)⟩, by rw [zr 2 (by decide) (by decide) (by decide) (by decide)], z4 20 (by decide) (by decide), z4 19 (by decide) (by decide), z1 11 (by decide), z4 32 (by decide) (by decide)⟩ (Or.inl ⟨by rw [zr 2 (by decide) (by decide) (by decide) (by decide)], z4 2 (by decide) (by decide)⟩) ?_ ?_ (fun q => ?_) ⟨?_, fun j j0 j1 => ?_⟩ (fun q => ?_) ?_
      · rw [z112, z49, z1 13 (by decide), z4 38 (by decide) (by decide)]
        exact ⟨⟨rfl, h6.1.2.2⟩, Or.inr rfl, h6.2.2.2.1⟩
      · rw [zr 162 (by decide) (by decide) (by decide) (by decide)]
        exact y_frm_ra I.2.2.2.2.1 (fun x x0 x1 => zr x (by omega) (by omega) (by omega) (by omega)) (fun x x0 => zr x (by omega) (by omega) (by omega) (by omega))
      · have z := a3.of (N := Z) (L' := L) (top' := top) (fun x x0 x1 => zm1 x x0 (by omega)) (fun x x0 _ => (zr x (by omega) (by omega) (by omega) (by omega)).trans (funext fun i => (a2 x i (by unfold y_wri; omega)).symm)) (fun _ _ _ => rfl) (fun _ _ _ => rfl) (Int.le_refl _)
        exact z.congr fun i i0 i1 => by
          rw [hZ, mx_ne (by omega)]; exact t1 i i0 i1
      · rw [zr 31 (by decide) (by decide) (by decide) (by decide), z4 25 (by decide) (by decide)]; exact I.2.2.2.2.2.2.1.1
      · rw [z4 25 (by decide) (by decide)] at j1
        rw [zr 31 (by decide) (by decide) (by decide) (by decide), z4 25 (by decide) (by decide), zr 166 (by decide) (by decide) (by decide) (by decide)]
        have xb : 0 ≤ (M 31 1 - 1 - j) % 16 ∧ (M 31 1 - 1 - j) % 16 ≤ 15 := by omega
        exact y_frm_ra (I.2.2.2.2.2.2.1.2 j j0 j1) (fun x x0 x1 => zr x (by omega) (by omega) (by omega) (by omega)) (fun x x0 => zr x (by omega) (by omega) (by omega) (by omega))
      · rw [z4 38 (by decide) (by decide)] at q
        obtain ⟨q1, q2, q3⟩ := I.2.2.2.2.2.2.2.1 q
        rw [zr 168 (by decide) (by decide) (by decide) (by decide), z1 14 (by decide), z4 39 (by decide) (by decide)]
        exact ⟨q1.of fun x i hx => by rw [zr x (by omega) (by omega) (by omega) (by omega)], q2, q3⟩
      · rw [zr 153 (by decide) (by decide) (by decide) (by decide), zr 167 (by decide) (by decide) (by decide) (by decide)]; exact I.2.2.2.2.2.2.2.2.1
end
