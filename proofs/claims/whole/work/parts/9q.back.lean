/-! ===== pure: part 9q: back, drop ===== -/
section
variable {fu : Nat} {L : zL} {M N Z : zM} {top : Int}
theorem c_back (hf : 42000 ≤ fu) (I : y_inv L M top) : y_kep L M top (fun M => Lx_back fu L M 1) (fun M => Mo_back fu L M 154) := by
  have l1 : L 1 = (12, 0) := I.lay 1 (by decide)
  have l4 : L 154 = (13, 0) := I.lay 154 (by decide)
  have l19 : L 19 = (2, 0) := I.lay 19 (by decide)
  have l20 : L 20 = (11, 0) := I.lay 20 (by decide)
  have l31 : L 31 = (1, 0) := I.lay 31 (by decide)
  have l62 : L 162 = (101, 2597) := I.lay 162 (by decide)
  have l70 : L 170 = (101, 2597) := I.lay 170 (by decide)
  have p4 : M 1 4 = 19 := I.ptr (1, 4, 19) (by decide +kernel)
  have p5 : M 1 5 = 25 := I.ptr (1, 5, 25) (by decide +kernel)
  have h6 := I.2.2.2.1
  have g0 : (0 : Int) ≤ 0 ∧ (0 : Int) < ((101, 2597) : Int × Int).2 := by decide
  by_cases h : M 154 49 = 0
  · refine (y_same.mk (M1 := M) (M2 := mu M 154 0 0) (r := -1) (y_off0 M) ?_ ?_ : y_same L M (fun M => Lx_back fu L M 1) (fun M => Mo_back fu L M 154)).kep I
    · show Lx_back fu L M 1 = _
      unfold Lx_back
      rw [l1, if_pos rfl, if_pos (show M 1 12 = 0 by omega)]
    · show Mo_back fu L M 154 = _
      unfold Mo_back
      rw [l4, if_pos rfl, lt1_def, y_off0 M 154 49 (by omega), if_pos h]
  · have h49 : M 154 49 = 1 := by omega
    have h1 : M 154 19 = 1 := by
      rcases h6.2.1 with z | z
      · have := h6.2.2.2.2.1 z; omega
      · exact z
    obtain ⟨M1, a1, a2, a3⟩ := Af_copyFrom_ok (fu := fu) (d := 19) (s := 25) (by omega) (I.2.2.2.2.2.1 h49) (by decide) (by decide) (y_afs_ok I.lay I.ptr zDs_19) (Or.inr (by decide))
    have P1 := y_wri_ptr I.ptr zDs_19 a2
    obtain ⟨M2, hM2⟩ : ∃ M2, M2 = mu M1 31 2 0 := ⟨_, rfl⟩
    have P2 : Ptr M2 := by rw [hM2]; exact P1.mu (by decide +kernel)
    have m2o : ∀ x i, ¬ y_wri 19 x i → ¬ (x = 31 ∧ i = 2) → M2 x i = M x i := fun x i q q1 => by
      rw [hM2, mx_ne (by omega)]; exact a2 x i q
    obtain ⟨N0, hN0⟩ : ∃ N0, N0 = mu M2 154 0 0 := ⟨_, rfl⟩
    have P0 : Ptr N0 := by rw [hN0]; exact P2.mu (by decide +kernel)
    have n0 : ∀ x i, ¬ (x = 154 ∧ i = 0) → N0 x i = M2 x i := fun x i q => by rw [hN0, mx_ne (by omega)]
    have n170 : ∀ i, N0 170 i = M 170 i := fun i => (n0 _ _ (by omega)).trans (m2o _ _ (by unfold y_wri; omega) (by omega))
    have b18 : N0 154 18 = 162 := P0 (154, 18, 162) (by decide +kernel)
    have b48 : N0 154 48 = 170 := P0 (154, 48, 170) (by decide +kernel)
    obtain ⟨T, k, ee, ⟨o, t1⟩⟩ := y_lpx (F := fun k (T : zM) i => Mo_back_l16 fu L k T 154 i) (N := 2597)
      (fun i T => (∀ x j, x ≠ 162 → T x j = N0 x j) ∧ ∀ k, 0 ≤ k → k < i → T 162 k = M 170 k)
      (fun k T i h0 hN hJ => by
        obtain ⟨o, t1⟩ := hJ
        have ew : w32 (i + 1) = i + 1 := w32_id (by omega)
        have g1 : 0 ≤ i ∧ i < ((101, 2597) : Int × Int).2 := ⟨h0, hN⟩
        refine ⟨mu T 162 i (M 170 i), ?_, fun x j q => ?_, fun k k0 k1 => ?_⟩
        · show Mo_back_s16 _ _ _ _ _ _ = _
          unfold Mo_back_s16
          rw [if_pos hN, l4, if_pos rfl, o 154 48 (by decide), b48, l70, if_pos rfl, if_pos g1, o 154 18 (by decide), b18, l62, if_pos rfl, if_pos g1, o 170 _ (by decide), n170, lt1_def, lt1_def, ew]
        · rw [mx_ne (Or.inl q)]; exact o x j q
        · by_cases c1 : k = i
          · subst c1; rw [mx_same]
          · rw [mx_ne (by omega)]; exact t1 k k0 (by omega)) 2597 fu N0 0 (by omega) (by omega) (by omega) ⟨fun _ _ _ => rfl, fun k k0 k1 => absurd k1 (by omega)⟩
    obtain ⟨Z, hZ⟩ : ∃ Z, Z = mu T 154 25 0 := ⟨_, rfl⟩
    have zo : ∀ x i, x ≠ 162 → ¬ (x = 154 ∧ (i = 0 ∨ i = 25)) → ¬ y_wri 19 x i → ¬ (x = 31 ∧ i = 2) → Z x i = M x i := fun x i q q1 q2 q3 => by
      rw [hZ, mx_ne (by omega), o x i q, n0 x i (by omega)]; exact m2o x i q2 q3
    have zr : ∀ x, x ≠ 162 → x ≠ 154 → ¬ (19 ≤ x ∧ x ≤ 24) → x ≠ 31 → Z x = M x := fun x q q1 q2 q3 => funext fun i => zo x i q (by omega) (by unfold y_wri; omega) (by omega)
    have zm1 : ∀ x, 19 ≤ x → x ≤ 24 → Z x = M1 x := fun x x0 x1 => funext fun i => by
      rw [hZ, mx_ne (by omega), o x i (by omega), n0 x i (by omega), hM2, mx_ne (by omega)]
    have ZP : Ptr Z := fun q hq => by
      have h9 : ∀ q ∈ zPt, (q.1 : Int) ≠ 162 ∧ ¬ ((q.1 : Int) = 154 ∧ (q.2.1 : Int) = 25) := by decide +kernel
      have := h9 q hq
      rw [hZ, mx_ne (by omega), o _ _ this.1]; exact P0 q hq
    have z4 : ∀ i, i ≠ 0 → i ≠ 25 → Z 154 i = M 154 i := fun i q q1 => zo 154 i (by decide) (by omega) (by unfold y_wri; omega) (by omega)
    have z162 : ∀ i, 0 ≤ i → i < 2597 → Z 162 i = M 170 i := fun i i0 i1 => by rw [hZ, mx_ne (by omega)]; exact t1 i i0 i1
    have z25 : Z 154 25 = 0 := by rw [hZ, mx_same]
    have z312 : Z 31 2 = 0 := by rw [hZ, mx_ne (by decide), o _ _ (by decide), n0 _ _ (by decide), hM2, mx_same]
    have z311 : Z 31 1 = M 31 1 := zo _ _ (by decide) (by decide) (by unfold y_wri; omega) (by decide)
    have r9 := I.2.2.2.2.2.2.1.1
    refine ⟨M2, M 170 0, Z, ?_, ?_, ?_⟩
    · show Lx_back fu L M 1 = _
      have s6 : M1 1 6 = 31 := P1 (1, 6, 31) (by decide +kernel)
      have q4 : M2 1 4 = 19 := P2 (1, 4, 19) (by decide +kernel)
      have q0 : M2 19 0 = 20 := P2 (19, 0, 20) (by decide +kernel)
      have q5 : M2 20 5 = M 170 0 := by rw [hM2, mx_ne (by decide)]; exact a3.2.2.2.1.2.1.2.2
      unfold Lx_back Ac_clear
      rw [l1, if_pos rfl, if_neg (show ¬ M 1 12 = 0 by omega), p4, l19, if_pos rfl, p5, a1, bd1_some, s6, l31, if_pos rfl, if_pos rfl, lt1_def, ← hM2, bd1_some, q4, l19, if_pos rfl, q0, l20, if_pos rfl, q5]
    · show Mo_back fu L M2 154 = _
      have u49 : N0 154 49 = 1 := ((n0 _ _ (by omega)).trans (m2o _ _ (by unfold y_wri; omega) (by omega))).trans h49
      have v18 : Z 154 18 = 162 := ZP (154, 18, 162) (by decide +kernel)
      unfold Mo_back
      rw [l4, if_pos rfl, lt1_def, ← hN0, u49, if_neg (by decide), ee]
      show Mo_back_s16 _ _ _ _ _ _ = _
      unfold Mo_back_s16
      rw [if_neg (by decide), l4, if_pos rfl, lt1_def, ← hZ, v18, l62, if_pos rfl, if_pos g0, z162 0 (by decide) (by decide)]
    · refine I.asm h1 ZP ⟨⟨zr 3 (by decide) (by decide) (by decide) (by decide), zr 155 (by decide) (by decide) (by decide) (by decide), zr 4 (by decide) (by decide) (by decide) (by decide), zr 163 (by decide) (by decide) (by decide) (by decide), zr 164 (by decide) (by decide) (by decide) (by decide), zr 165 (by decide) (by decide) (by decide) (by decide)⟩, by rw [zr 2 (by decide) (by decide) (by decide) (by decide)], z4 20 (by decide) (by decide), z4 19 (by decide) (by decide), by rw [zr 1 (by decide) (by decide) (by decide) (by decide)], z4 32 (by decide) (by decide)⟩ (Or.inl ⟨by rw [zr 2 (by decide) (by decide) (by decide) (by decide)], z4 2 (by decide) (by decide)⟩) ?_ ?_ (fun q => ?_) ⟨?_, fun j j0 j1 => ?_⟩ (fun q => ?_) ?_
      · rw [zr 1 (by decide) (by decide) (by decide) (by decide), z4 49 (by decide) (by decide), z4 38 (by decide) (by decide)]
        exact ⟨⟨h6.1.2.1, h6.1.2.2⟩, h6.2.2.1, h6.2.2.2.1⟩
      · have z := a3.of (N := Z) (L' := L) (top' := top) (fun x x0 x1 => zm1 x x0 (by omega)) (fun x x0 _ => (zr x (by omega) (by omega) (by omega) (by omega)).trans (funext fun i => (a2 x i (by unfold y_wri; omega)).symm)) (fun _ _ _ => rfl) (fun _ _ _ => rfl) (Int.le_refl _)
        exact z.congr z162
      · rw [zr 170 (by decide) (by decide) (by decide) (by decide)]
        exact y_frm_ra (I.2.2.2.2.2.1 h49) (fun x x0 x1 => zr x (by omega) (by omega) (by omega) (by omega)) (fun x x0 => zr x (by omega) (by omega) (by omega) (by omega))
      · rw [z311, z312, z25]; omega
      · rw [z25] at j1; omega
      · rw [z4 38 (by decide) (by decide)] at q
        obtain ⟨q1, q2, q3⟩ := I.2.2.2.2.2.2.2.1 q
        rw [zr 168 (by decide) (by decide) (by decide) (by decide), zr 1 (by decide) (by decide) (by decide) (by decide), z4 39 (by decide) (by decide)]
        exact ⟨q1.of fun x i hx => by rw [zr x (by omega) (by omega) (by omega) (by omega)], q2, q3⟩
      · rw [zr 153 (by decide) (by decide) (by decide) (by decide), zr 167 (by decide) (by decide) (by decide) (by decide)]; exact I.2.2.2.2.2.2.2.2.1
theorem c_drop (hf : 42000 ≤ fu) (I : y_inv L M top) (g : Int) : y_kep L M top (fun M => Lx_drop fu L M 1 g) (fun M => Mo_drop fu L M 154 g) := by
  have l1 : L 1 = (12, 0) := I.lay 1 (by decide)
  have l4 : L 154 = (13, 0) := I.lay 154 (by decide)
  have l19 : L 19 = (2, 0) := I.lay 19 (by decide)
  have l24 : L 24 = (103, 8) := I.lay 24 (by decide)
  have l31 : L 31 = (1, 0) := I.lay 31 (by decide)
  have l62 : L 162 = (101, 2597) := I.lay 162 (by decide)
  have p4 : M 1 4 = 19 := I.ptr (1, 4, 19) (by decide +kernel)
  have p6 : M 1 6 = 31 := I.ptr (1, 6, 31) (by decide +kernel)
  have h6 := I.2.2.2.1
  have hra := I.2.2.2.2.1
  have h76 := hra.2.2.1.1
  have g76 : (0 : Int) ≤ 76 ∧ (76 : Int) < ((101, 2597) : Int × Int).2 := by decide
  by_cases h : M 154 19 = 0
  · refine y_kep_ref (fu := fu) I (r := 0) (by decide) (fun z => ?_) (fun z => ?_)
    · show Lx_drop fu L M 1 g = _
      unfold Lx_drop
      rw [l1, if_pos rfl, if_pos (show M 1 11 = 0 by omega), z, bd2_some]
    · show Mo_drop fu L (y_rm1 M 0) 154 g = _
      unfold Mo_drop
      rw [l4, if_pos rfl, lt1_def, y_rm1_0 M 0 (by decide) (by decide), if_pos h, z, bd2_some]
  have h1 : M 154 19 = 1 := by omega
  by_cases c : M 154 19 = 1 ∧ 0 ≤ g ∧ g < M 162 76
  · obtain ⟨q1, q2, q3, q4, q5⟩ := y_fac (fu := fu) I c
    obtain ⟨M1, a1, kk, kr⟩ := y_keepc (fu := fu) (by omega) I
    have I1 : Af_giftAt fu L M1 19 g = some (M 24 g) := by
      rw [Af_giftAt_g (n := M 162 76) l19 (by rw [kr 19 (by decide)]; exact hra.2.1.2.2.1) (by rw [kr 19 (by decide)]; exact hra.2.1.2.1) l24 ⟨c.2.1, c.2.2, h76.2⟩]
      show some (M1 24 g) = _
      rw [kr 24 (by decide)]
    -- the class closes the gap
    have hgift : ∀ x, 0 ≤ x → x < M 162 76 → L (M 24 x) = (4, 0) := fun x x0 x1 => by
      obtain ⟨_, _, _, gc, _⟩ := hra.2.2.2.2.2.2 x x0 x1
      exact gc.1
    obtain ⟨T, k, ee, ⟨_, o, t1, t2⟩⟩ := y_lpx (F := fun k (T : zM) i => Af_removeGift_l11 fu L k T 19 i) (N := M 162 76 - 1)
      (fun i T => g ≤ i ∧ (∀ x j, x ≠ 24 → T x j = M1 x j) ∧ (∀ k, g ≤ k → k < i → T 24 k = M 24 (k + 1)) ∧ ∀ k, k < g ∨ i ≤ k → T 24 k = M 24 k)
      (fun k T i h0 hN hJ => by
        obtain ⟨hi, o, t1, t2⟩ := hJ
        have ew : w32 (i + 1) = i + 1 := w32_id (by omega)
        have s2 : T 19 2 = M 162 76 := (o _ _ (by decide)).trans (by rw [kr 19 (by decide)]; exact hra.2.1.2.2.1)
        have s1 : T 19 1 = 24 := (o _ _ (by decide)).trans (by rw [kr 19 (by decide)]; exact hra.2.1.2.1)
        have g1 : 0 ≤ i + 1 ∧ i + 1 < ((103, 8) : Int × Int).2 := by show _ ∧ _ < (8 : Int); omega
        have g2 : 0 ≤ i ∧ i < ((103, 8) : Int × Int).2 := by show _ ∧ _ < (8 : Int); omega
        refine ⟨mu T 24 i (M 24 (i + 1)), ?_, by omega, fun x j q => ?_, fun k k0 k1 => ?_, fun k hk => ?_⟩
        · show Af_removeGift_s11 _ _ _ _ _ _ = _
          unfold Af_removeGift_s11
          rw [l19, if_pos rfl, ew, s2, if_pos (by omega), s1, l24, if_pos rfl, if_pos g1.2, if_pos g1, t2 (i + 1) (by omega), hgift (i + 1) (by omega) (by omega), if_pos rfl, if_pos g2, lt1_def, lt1_def]
        · rw [mx_ne (Or.inl q)]; exact o x j q
        · by_cases c1 : k = i
          · subst c1; rw [mx_same]
          · rw [mx_ne (by omega)]; exact t1 k k0 (by omega)
        · rw [mx_ne (by omega)]; exact t2 k (by omega)) (M 162 76 - 1 - g).toNat fu M1 g (by omega) (by omega) (by omega) ⟨Int.le_refl _, fun _ _ _ => rfl, fun k k0 k1 => absurd k1 (by omega), fun k _ => by rw [kr 24 (by decide)]⟩
    have TP : Ptr T := fun q hq => by
      have h9 : ∀ q ∈ zPt, (q.1 : Int) ≠ 24 := by decide +kernel
      rw [o _ _ (h9 q hq)]; exact kk.2.2.2 q hq
    obtain ⟨M2, hM2⟩ : ∃ M2, M2 = mu T 19 2 (M 162 76 - 1) := ⟨_, rfl⟩
    have t192 : T 19 2 = M 162 76 := (o _ _ (by decide)).trans (by rw [kr 19 (by decide)]; exact hra.2.1.2.2.1)
    have ecnt : w32 (M 162 76 - 1) = M 162 76 - 1 := w32_id (by omega)
    have rg : Af_removeGift fu L M1 19 g = some M2 := by
      unfold Af_removeGift
      rw [l19, if_pos rfl, I1, bd1_some, if_neg q2, ee]
      show Af_removeGift_s11 _ _ _ _ _ _ = _
      unfold Af_removeGift_s11
      rw [l19, if_pos rfl, t192, show M 162 76 - 1 + 1 = M 162 76 by omega, w32_id (by omega), if_neg (by omega), ecnt, lt1_def, ← hM2]
    have P2 : Ptr M2 := by rw [hM2]; exact TP.mu (by decide +kernel)
    have m2o : ∀ x i, ¬ (19 ≤ x ∧ x ≤ 24) → M2 x i = M1 x i := fun x i q => by rw [hM2, mx_ne (by omega)]; exact o x i (by omega)
    have P0 : Ptr (mu M2 154 0 0) := P2.mu (by decide +kernel)
    obtain ⟨N1, b1, b2, b3, b4, b5⟩ := y_act2 (fu := fu) hf I h1 (M1 := M1) (M2 := M2) (N0 := mu M2 154 0 0) kk (fun x i q _ _ => m2o x i q) (fun x i q _ => mx_ne (by omega)) P0
    have s18 : N1 154 18 = 162 := b3 (154, 18, 162) (by decide +kernel)
    -- the model closes the gap
    obtain ⟨U, k', uu, ⟨_, v0, v1, v2⟩⟩ := y_lpx (F := fun k (T : zM) i => Mo_drop_l43 fu L k T 154 i) (N := 77 + 315 * M 162 76)
      (fun i T => 77 + 315 * (g + 1) ≤ i ∧ (∀ x j, x ≠ 162 → T x j = N1 x j) ∧ (∀ m, 77 + 315 * g ≤ m → m < i - 315 → T 162 m = M 162 (m + 315)) ∧ ∀ m, m < 77 + 315 * g ∨ i - 315 ≤ m → T 162 m = M 162 m)
      (fun k T i h0 hN hJ => by
        obtain ⟨hi, v0, v1, v2⟩ := hJ
        have ew : w32 (i + 1) = i + 1 := w32_id (by omega)
        have e2 : w32 (i - 315) = i - 315 := w32_id (by omega)
        have s18' : T 154 18 = 162 := (v0 _ _ (by decide)).trans s18
        have s76 : T 162 76 = M 162 76 := v2 _ (by omega)
        have g1 : 0 ≤ i ∧ i < ((101, 2597) : Int × Int).2 := by show _ ∧ _ < (2597 : Int); omega
        have g2 : 0 ≤ i - 315 ∧ i - 315 < ((101, 2597) : Int × Int).2 := by show _ ∧ _ < (2597 : Int); omega
        refine ⟨mu T 162 (i - 315) (M 162 i), ?_, by omega, fun x j q => ?_, fun m m0 m1 => ?_, fun m hm => ?_⟩
        · show Mo_drop_s43 _ _ _ _ _ _ = _
          unfold Mo_drop_s43 Mo_gifts
          rw [l4, if_pos rfl, if_pos rfl, s18', l62, if_pos rfl, if_pos g76, bd1_some, s76, Mo_giftAt_ok (by omega), bd1_some, if_pos hN, if_pos rfl, if_pos g1, e2, if_pos g2, v2 i (by omega), lt1_def, lt1_def, ew]
        · rw [mx_ne (Or.inl q)]; exact v0 x j q
        · by_cases c1 : m = i - 315
          · subst c1; rw [mx_same]; congr 1; omega
          · rw [mx_ne (by omega)]; exact v1 m m0 (by omega)
        · rw [mx_ne (by omega)]; exact v2 m (by omega)) (315 * (M 162 76 - 1 - g)).toNat fu N1 (77 + 315 * (g + 1)) (by omega) (by omega) (by omega) ⟨Int.le_refl _, fun _ _ _ => rfl, fun m m0 m1 => absurd m1 (by omega), fun m _ => by rw [b4]⟩
    obtain ⟨Z, hZ⟩ : ∃ Z, Z = mu U 162 76 (M 162 76 - 1) := ⟨_, rfl⟩
    have zo : ∀ x i, x ≠ 162 → Z x i = N1 x i := fun x i q => by rw [hZ, mx_ne (Or.inl q)]; exact v0 x i q
    have zc : ∀ x i, x < 31 ∨ 129 ≤ x → ¬ (x = 154 ∧ (i = 0 ∨ i = 25)) → x ≠ 162 → x ≠ 166 → ¬ (19 = x ∧ i = 2) → x ≠ 24 → Z x i = M x i := fun x i r r1 r2 r3 r4 r5 => by
      rw [zo x i r2, b2 x i r3 (by omega), mx_ne (by omega), hM2, mx_ne (by omega), o x i r5, kr x r]
    have zlo : ∀ m, m < 76 → Z 162 m = M 162 m := fun m hm => by rw [hZ, mx_ne (by omega)]; exact v2 m (by omega)
    have z76 : Z 162 76 = M 162 76 - 1 := by rw [hZ, mx_same]
    have u76 : U 162 76 = M 162 76 := v2 _ (by omega)
    have z24 : ∀ x, Z 24 x = T 24 x := fun x => by rw [zo _ _ (by omega), b2 _ _ (by omega) (by omega), mx_ne (by omega), hM2, mx_ne (by omega)]
    refine ⟨M2, M 162 76 - 1, Z, ?_, ?_, b5 Z zo (Or.inl ⟨zc _ _ (by decide) (by decide) (by decide) (by decide) (by decide) (by decide), zc _ _ (by decide) (by decide) (by decide) (by decide) (by decide) (by decide)⟩) ?_⟩
    · show Lx_drop fu L M 1 g = _
      have s4 : M1 1 4 = 19 := by rw [kr 1 (by decide)]; exact p4
      have t4 : M2 1 4 = 19 := P2 (1, 4, 19) (by decide +kernel)
      have t2' : M2 19 2 = M 162 76 - 1 := by rw [hM2, mx_same]
      unfold Lx_drop
      rw [l1, if_pos rfl, if_neg (show ¬ M 1 11 = 0 by omega), p4, l19, if_pos rfl, q1, bd1_some, if_neg q2, p6, l31, if_pos rfl, a1, bd1_some, s4, l19, if_pos rfl, rg, bd1_some, t4, l19, if_pos rfl, t2']
    · show Mo_drop fu L M2 154 g = _
      have u : ∀ x i, ¬ (x = 154 ∧ i = 0) → x < 31 ∨ 129 ≤ x → ¬ (19 ≤ x ∧ x ≤ 24) → mu M2 154 0 0 x i = M x i := fun x i r r1 r2 => by rw [mx_ne (by omega), m2o x i r2, kr x r1]
      have u19 : mu M2 154 0 0 154 19 = 1 := (u _ _ (by decide) (by decide) (by decide)).trans h1
      have u18 : mu M2 154 0 0 154 18 = 162 := P0 (154, 18, 162) (by decide +kernel)
      have u76' : mu M2 154 0 0 162 76 = M 162 76 := u _ _ (by decide) (by decide) (by decide)
      have ig : Mo_isGift fu L (mu M2 154 0 0) 154 g = some 1 := by
        unfold Mo_isGift Mo_gifts
        rw [l4, if_pos rfl, u19, if_neg (by decide), if_pos rfl, u18, l62, if_pos rfl, if_pos g76, bd1_some, u76', ecnt, Mo_in_ok, if_pos (show 0 ≤ g ∧ g ≤ M 162 76 - 1 by omega), bd1_some, if_neg (by decide)]
      have v18 : U 154 18 = 162 := (v0 _ _ (by decide)).trans s18
      have w18 : Z 154 18 = 162 := (zo _ _ (by decide)).trans s18
      unfold Mo_drop
      rw [l4, if_pos rfl, lt1_def, u19, if_neg (by decide), ig, bd1_some, if_neg (by decide), b1, bd1_some, w32_id (show -2147483648 ≤ g + 1 ∧ g + 1 < 2147483648 by omega), Mo_giftAt_ok (by omega), bd1_some, uu]
      show Mo_drop_s43 _ _ _ _ _ _ = _
      unfold Mo_drop_s43 Mo_gifts
      rw [l4, if_pos rfl, if_pos rfl, v18, l62, if_pos rfl, if_pos g76, bd1_some, u76, Mo_giftAt_ok (by omega), bd1_some, if_neg (by omega), if_pos rfl, if_pos g76, if_pos g76, ecnt, lt1_def, ← hZ, if_pos rfl, w18, l62, if_pos rfl, if_pos g76, bd1_some, z76]
    · have zr : ∀ x, (x < 31 ∨ 129 ≤ x) → x ≠ 154 → x ≠ 162 → x ≠ 166 → x ≠ 19 → x ≠ 24 → Z x = M x := fun x r r1 r2 r3 r4 r5 => funext fun i => zc x i r (by omega) r2 r3 (by omega) r5
      obtain ⟨r1, r2, r3, r4, r5, r6, r7⟩ := hra
      have hw := r5.1
      refine ⟨r1, ⟨?_, ?_, ?_, ?_, ?_⟩, ?_, ?_, ?_, fun l l0 l1 => ?_, fun x x0 x1 => ?_⟩
      · rw [zc _ _ (by decide) (by decide) (by decide) (by decide) (by decide) (by decide)]; exact r2.1
      · rw [zc _ _ (by decide) (by decide) (by decide) (by decide) (by decide) (by decide)]; exact r2.2.1
      · rw [z76, zo _ _ (by decide), b2 _ _ (by decide) (by decide), mx_ne (by decide), hM2, mx_same]
      · rw [zc _ _ (by decide) (by decide) (by decide) (by decide) (by decide) (by decide), zlo _ (by decide)]; exact r2.2.2.2.1
      · rw [zc _ _ (by decide) (by decide) (by decide) (by decide) (by decide) (by decide), zlo _ (by decide)]; exact r2.2.2.2.2
      · rw [z76, zlo 74 (by decide), zlo 75 (by decide), zlo 0 (by decide)]
        exact ⟨by omega, r3.2⟩
      · exact (r4.of (M' := Z) fun x i q => by rw [zr x (by omega) (by omega) (by omega) (by omega) (by omega) (by omega)]).congr (zlo _ (by decide)) (zlo _ (by decide)) (fun p p0 p1 => ⟨zlo _ (by omega), zlo _ (by omega), zlo _ (by omega)⟩)
      · exact r5.congr (zlo _ (by decide)) (zlo _ (by decide)) (fun p p0 p1 => ⟨zlo _ (by omega), zlo _ (by omega), zlo _ (by omega)⟩)
      · rw [zlo _ (by omega), zlo _ (by omega)]; exact r6 l l0 l1
      · rw [z76] at x1
        show y_gp L Z (Z 24 x) top _ _ _
        rw [z24]
        have up : ∀ y (S : Int → Int), y_gp L M y top S (M 154 20) (M 163) → y_gp L Z y top S (M 154 20) (M 163) := fun y S hh => hh.of (fun a a0 _ => zr a (by omega) (by omega) (by omega) (by omega) (by omega) (by omega)) (fun _ _ _ => rfl) (Int.le_refl _)
        by_cases cx : x < g
        · rw [t2 x (Or.inl cx)]
          exact (up _ _ (r7 x x0 (by omega))).congr fun i i0 i1 => by
            rw [hZ, mx_ne (by omega)]; exact v2 _ (by omega)
        · rw [t1 x (by omega) (by omega)]
          exact (up _ _ (r7 (x + 1) (by omega) (by omega))).congr fun i i0 i1 => by
            show Z 162 (77 + 315 * x + i) = M 162 (77 + 315 * (x + 1) + i)
            rw [hZ, mx_ne (by omega), v1 _ (by omega) (by omega)]
            congr 1; omega
  · refine y_kep_ref (fu := fu) I (r := 1) (by decide) (fun z => ?_) (fun z => ?_)
    · show Lx_drop fu L M 1 g = _
      unfold Lx_drop
      rw [l1, if_pos rfl, if_neg (show ¬ M 1 11 = 0 by omega), p4, l19, if_pos rfl, Af_giftAt_n I c, bd1_some, if_pos rfl, z, bd2_some]
    · show Mo_drop fu L (y_rm1 M 1) 154 g = _
      have u19 : mu (y_rm1 M 1) 154 0 0 154 19 = M 154 19 := y_rm1_0 M _ (by decide) (by decide)
      have u18 : mu (y_rm1 M 1) 154 0 0 154 18 = 162 := (y_rm1_0 M _ (by decide) (by decide)).trans (I.ptr (154, 18, 162) (by decide +kernel))
      have u76' : mu (y_rm1 M 1) 154 0 0 162 76 = M 162 76 := y_rm1_0 M _ (by decide) (by decide)
      have ecnt : w32 (M 162 76 - 1) = M 162 76 - 1 := w32_id (by omega)
      have ig : Mo_isGift fu L (mu (y_rm1 M 1) 154 0 0) 154 g = some 0 := by
        unfold Mo_isGift Mo_gifts
        rw [l4, if_pos rfl, u19, if_neg h, if_pos rfl, u18, l62, if_pos rfl, if_pos g76, bd1_some, u76', ecnt, Mo_in_ok, if_neg (show ¬ (0 ≤ g ∧ g ≤ M 162 76 - 1) by omega), bd1_some, if_pos rfl]
      unfold Mo_drop
      rw [l4, if_pos rfl, lt1_def, u19, if_neg h, ig, bd1_some, if_pos rfl, z, bd2_some]
end
