/-! ===== pure: part 9o: birth, death ===== -/
section
variable {fu : Nat} {L : zL} {M N Z : zM} {top : Int}
theorem y_wNB_r (w : Int → Int) (p : Int) : y_wNB w p = -1 ∨ (1 ≤ y_wNB w p ∧ y_wNB w p ≤ 4) := by
  unfold y_wNB
  (repeat' split) <;> omega
theorem y_wl20 (I : y_inv L M top) : WR L M 20 (20 + 1) (20 + 2) (20 + 3) (M 154 20) (M 162) := I.wr
theorem c_birth (hf : 42000 ≤ fu) (I : y_inv L M top) (p : Int) : y_kep L M top (fun M => Lx_birth fu L M 1 p) (fun M => Mo_birth fu L M 154 p) := by
  have l1 : L 1 = (12, 0) := I.lay 1 (by decide)
  have l4 : L 154 = (13, 0) := I.lay 154 (by decide)
  have l19 : L 19 = (2, 0) := I.lay 19 (by decide)
  have l20 : L 20 = (11, 0) := I.lay 20 (by decide)
  have l31 : L 31 = (1, 0) := I.lay 31 (by decide)
  have l62 : L 162 = (101, 2597) := I.lay 162 (by decide)
  have p4 : M 1 4 = 19 := I.ptr (1, 4, 19) (by decide +kernel)
  have p6 : M 1 6 = 31 := I.ptr (1, 6, 31) (by decide +kernel)
  have p0 : M 19 0 = 20 := I.ptr (19, 0, 20) (by decide +kernel)
  have h6 := I.2.2.2.1
  have wv := I.wv
  have hra := I.2.2.2.2.1
  have g1 : (0 : Int) ≤ 1 ∧ (1 : Int) < ((101, 2597) : Int × Int).2 := by decide
  by_cases h : M 154 19 = 0
  · refine y_kep_ref (fu := fu) I (r := 0) (by decide) (fun z => ?_) (fun z => ?_)
    · show Lx_birth fu L M 1 p = _
      unfold Lx_birth Lx_birth_b22
      rw [l1, if_pos rfl, if_pos (show M 1 11 = 0 by omega), if_neg (show ¬ (0 : Int) = -1 by decide), if_pos rfl, z, bd2_some]
    · show Mo_birth fu L (y_rm1 M 0) 154 p = _
      unfold Mo_birth
      rw [l4, if_pos rfl, lt1_def, y_rm1_0 M 0 (by decide) (by decide), if_pos h, z, bd2_some]
  have h1 : M 154 19 = 1 := by omega
  by_cases c : y_wNB (M 162) p = -1
  · obtain ⟨q1, q2, q3, q4⟩ := y_wNB_y c
    obtain ⟨M1, a1, kk, kr⟩ := y_keepc (fu := fu) (by omega) I
    have s4 : M1 1 4 = 19 := by rw [kr 1 (by decide)]; exact p4
    have s0 : M1 19 0 = 20 := by rw [kr 19 (by decide)]; exact p0
    have W1 : WR L M1 20 (20 + 1) (20 + 2) (20 + 3) (M 154 20) (M 162) := (y_wl20 I).of fun x i hx => by rw [kr x (by omega)]
    obtain ⟨M2, d1, d2, d3⟩ := Wr_add_y (fu := fu) (a := 20) (by decide) W1 wv (p := p) q4
    have P2 : Ptr M2 := fun q hq => by
      have h9 : ∀ q ∈ zPt, ¬ (20 ≤ (q.1 : Int) ∧ (q.1 : Int) ≤ 23) ∨ ((q.1 : Int) = 20 ∧ (q.2.1 : Int) ≤ 2) := by decide +kernel
      rcases h9 q hq with e | e
      · rw [d3 _ _ e]; exact kk.2.2.2 q hq
      · have w0 := d2.1.2.1
        have m0 := W1.1.2.1
        have e9 : M2 20 (q.2.1 : Int) = M1 20 (q.2.1 : Int) := by
          have : (q.2.1 : Int) = 0 ∨ (q.2.1 : Int) = 1 ∨ (q.2.1 : Int) = 2 := by omega
          rcases this with z | z | z
          · rw [z]; exact w0.1.trans m0.1.symm
          · rw [z]; exact w0.2.1.trans m0.2.1.symm
          · rw [z]; exact w0.2.2.trans m0.2.2.symm
        rw [e.1, e9, ← e.1]; exact kk.2.2.2 q hq
    have P0 : Ptr (mu M2 154 0 0) := P2.mu (by decide +kernel)
    obtain ⟨N1, b1, b2, b3, b4, b5⟩ := y_act2 (fu := fu) hf I h1 (M1 := M1) (M2 := M2) (N0 := mu M2 154 0 0) kk (fun x i q _ _ => d3 x i (by omega)) (fun x i q _ => mx_ne (by omega)) P0
    have s18 : N1 154 18 = 162 := b3 (154, 18, 162) (by decide +kernel)
    have v1 : WV (M 154 20) (N1 162) := by rw [b4]; exact wv
    obtain ⟨Z, e1, e2, e3⟩ := Mo_isBorn_y (fu := fu) (p := p) l62 (by decide) v1 (by rw [b4]; exact q4)
    rw [b4] at e2
    have zo : ∀ x i, x ≠ 162 → Z x i = N1 x i := fun x i q => by rw [e3 x q]
    have zc : ∀ x i, x < 31 ∨ 129 ≤ x → ¬ (x = 154 ∧ (i = 0 ∨ i = 25)) → x ≠ 162 → x ≠ 166 → ¬ (20 ≤ x ∧ x ≤ 23) → Z x i = M x i := fun x i r r1 r2 r3 r4 => by
      rw [zo x i r2, b2 x i r3 (by omega), mx_ne (by omega), d3 x i r4, kr x r]
    obtain ⟨f0, f1, f2, f3⟩ := y_brn_0 (w := M 162) (p := p) (by have := wv.1; omega)
    have ew : w32 (M 162 1 + 1 - 1) = M 162 1 := by rw [w32_id (by have := wv.1; omega)]; omega
    refine ⟨M2, M 162 1, Z, ?_, ?_, b5 Z zo (Or.inl ⟨zc _ _ (by decide) (by decide) (by decide) (by decide) (by decide), zc _ _ (by decide) (by decide) (by decide) (by decide) (by decide)⟩) ?_⟩
    · show Lx_birth fu L M 1 p = _
      have t4 : M2 1 4 = 19 := P2 (1, 4, 19) (by decide +kernel)
      have t0 : M2 19 0 = 20 := P2 (19, 0, 20) (by decide +kernel)
      have t5 : M2 20 4 = M 162 1 + 1 := d2.2.1.2.1.trans f1
      unfold Lx_birth Lx_birth_b22
      rw [l1, if_pos rfl, if_neg (show ¬ M 1 11 = 0 by omega), p4, l19, if_pos rfl, p0, l20, if_pos rfl, Wr_whyNoBirth I.wr wv, bd1_some, c, if_pos rfl, if_pos rfl, p6, l31, if_pos rfl, a1, bd1_some, s4, l19, if_pos rfl, s0, l20, if_pos rfl, d1, bd1_some, t4, l19, if_pos rfl, t0, l20, if_pos rfl, t5, ew]
    · show Mo_birth fu L M2 154 p = _
      have u : ∀ x i, ¬ (x = 154 ∧ i = 0) → x < 31 ∨ 129 ≤ x → ¬ (20 ≤ x ∧ x ≤ 23) → mu M2 154 0 0 x i = M x i := fun x i r r1 r2 => by rw [mx_ne (by omega), d3 x i r2, kr x r1]
      have u19 : mu M2 154 0 0 154 19 = 1 := (u _ _ (by decide) (by decide) (by decide)).trans h1
      have u18 : mu M2 154 0 0 154 18 = 162 := P0 (154, 18, 162) (by decide +kernel)
      have u162 : mu M2 154 0 0 162 = M 162 := funext fun i => u _ _ (by omega) (by decide) (by decide)
      have v18 : Z 154 18 = 162 := (zo _ _ (by decide)).trans s18
      have vv : Z 162 1 = M 162 1 + 1 := by rw [e2]; exact f1
      unfold Mo_birth
      rw [l4, if_pos rfl, lt1_def, u19, if_neg (by decide), u18, Mr_whyNotBorn l62 (by decide) (by rw [u162]; exact wv), u162, bd1_some, if_pos c, b1, bd1_some, s18, e1, bd1_some, v18, l62, if_pos rfl, if_pos g1, vv, ew]
    · rw [e2]
      refine y_ra_wld hra (by decide) (fun x q => funext fun i => zc x i (by omega) (by omega) (by omega) (by omega) (by omega)) ?_ (y_brn_v wv c) (by rw [f0]; exact hra.2.2.1.2.2.2) (fun j q => y_brn_hi (by have := wv.1; omega) q) (fun l l0 l1 => ⟨(f3 l l0 (by have := wv.1; omega)).1, (f3 l l0 (by have := wv.1; omega)).2.2⟩)
      exact d2.of fun x i hx => by rw [zo x i (by omega), b2 x i (by omega) (by omega), mx_ne (by omega)]
  · have hr := y_wNB_r (M 162) p
    have hr' : 0 ≤ y_wNB (M 162) p ∧ y_wNB (M 162) p ≤ 4 := by omega
    refine y_kep_ref (fu := fu) I hr' (fun z => ?_) (fun z => ?_)
    · show Lx_birth fu L M 1 p = _
      unfold Lx_birth Lx_birth_b22
      rw [l1, if_pos rfl, if_neg (show ¬ M 1 11 = 0 by omega), p4, l19, if_pos rfl, p0, l20, if_pos rfl, Wr_whyNoBirth I.wr wv, bd1_some, if_neg c, if_pos rfl, z, bd2_some]
    · show Mo_birth fu L (y_rm1 M (y_wNB (M 162) p)) 154 p = _
      have u162 : mu (y_rm1 M (y_wNB (M 162) p)) 154 0 0 162 = M 162 := funext fun i => y_rm1_0 M _ (by decide) (by omega)
      have u18 : mu (y_rm1 M (y_wNB (M 162) p)) 154 0 0 154 18 = 162 := (y_rm1_0 M _ (by decide) (by decide)).trans (I.ptr (154, 18, 162) (by decide +kernel))
      unfold Mo_birth
      rw [l4, if_pos rfl, lt1_def, y_rm1_0 M _ (x := 154) (i := 19) (by decide) (by decide), if_neg h, u18, Mr_whyNotBorn l62 (by decide) (by rw [u162]; exact wv), u162, bd1_some, if_neg c, z, bd2_some]
theorem c_death (hf : 42000 ≤ fu) (I : y_inv L M top) (p : Int) : y_kep L M top (fun M => Lx_death fu L M 1 p) (fun M => Mo_death fu L M 154 p) := by
  have l1 : L 1 = (12, 0) := I.lay 1 (by decide)
  have l4 : L 154 = (13, 0) := I.lay 154 (by decide)
  have l19 : L 19 = (2, 0) := I.lay 19 (by decide)
  have l20 : L 20 = (11, 0) := I.lay 20 (by decide)
  have l31 : L 31 = (1, 0) := I.lay 31 (by decide)
  have l62 : L 162 = (101, 2597) := I.lay 162 (by decide)
  have p4 : M 1 4 = 19 := I.ptr (1, 4, 19) (by decide +kernel)
  have p6 : M 1 6 = 31 := I.ptr (1, 6, 31) (by decide +kernel)
  have p0 : M 19 0 = 20 := I.ptr (19, 0, 20) (by decide +kernel)
  have h6 := I.2.2.2.1
  have wv := I.wv
  have hw := wv.1
  have hra := I.2.2.2.2.1
  have g0 : (0 : Int) ≤ 0 ∧ (0 : Int) < ((101, 2597) : Int × Int).2 := by decide
  have ux : ∀ r, mu (y_rm1 M r) 154 0 0 162 = M 162 := fun r => funext fun i => y_rm1_0 M _ (by decide) (by omega)
  have u8 : ∀ r, mu (y_rm1 M r) 154 0 0 154 18 = 162 := fun r => (y_rm1_0 M _ (by decide) (by decide)).trans (I.ptr (154, 18, 162) (by decide +kernel))
  by_cases h : M 154 19 = 0
  · refine y_kep_ref (fu := fu) I (r := 0) (by decide) (fun z => ?_) (fun z => ?_)
    · show Lx_death fu L M 1 p = _
      unfold Lx_death Lx_death_b22
      rw [l1, if_pos rfl, if_pos (show M 1 11 = 0 by omega), if_neg (show ¬ (0 : Int) = -1 by decide), if_pos rfl, z, bd2_some]
    · show Mo_death fu L (y_rm1 M 0) 154 p = _
      unfold Mo_death
      rw [l4, if_pos rfl, lt1_def, y_rm1_0 M 0 (by decide) (by decide), if_pos h, z, bd2_some]
  have h1 : M 154 19 = 1 := by omega
  by_cases ci : 0 ≤ p ∧ p < M 162 1
  · have e26 : w32 (26 + p) = 26 + p := w32_id (by omega)
    have e2' : w32 (2 + p) = 2 + p := w32_id (by omega)
    have g26 : 0 ≤ 26 + p ∧ 26 + p < ((101, 2597) : Int × Int).2 := by show _ ∧ _ < (2597 : Int); omega
    have g2 : 0 ≤ 2 + p ∧ 2 + p < ((101, 2597) : Int × Int).2 := by show _ ∧ _ < (2597 : Int); omega
    by_cases ca : M 162 (26 + p) = 16777216
    · have c : y_wND (M 162) p = -1 := by unfold y_wND; rw [if_neg (fun z => z ci), if_pos ca]
      obtain ⟨M1, a1, kk, kr⟩ := y_keepc (fu := fu) (by omega) I
      have s4 : M1 1 4 = 19 := by rw [kr 1 (by decide)]; exact p4
      have s0 : M1 19 0 = 20 := by rw [kr 19 (by decide)]; exact p0
      have W1 : WR L M1 20 (20 + 1) (20 + 2) (20 + 3) (M 154 20) (M 162) := (y_wl20 I).of fun x i hx => by rw [kr x (by omega)]
      obtain ⟨M2, d1, d2, d3⟩ := Wr_bury_y (fu := fu) (a := 20) (by decide) W1 wv (p := p) c
      have P2 : Ptr M2 := fun q hq => by
        have h9 : ∀ q ∈ zPt, ¬ (20 ≤ (q.1 : Int) ∧ (q.1 : Int) ≤ 23) ∨ ((q.1 : Int) = 20 ∧ (q.2.1 : Int) ≤ 2) := by decide +kernel
        rcases h9 q hq with e | e
        · rw [d3 _ _ e]; exact kk.2.2.2 q hq
        · have w0 := d2.1.2.1
          have m0 := W1.1.2.1
          have e9 : M2 20 (q.2.1 : Int) = M1 20 (q.2.1 : Int) := by
            have : (q.2.1 : Int) = 0 ∨ (q.2.1 : Int) = 1 ∨ (q.2.1 : Int) = 2 := by omega
            rcases this with z | z | z
            · rw [z]; exact w0.1.trans m0.1.symm
            · rw [z]; exact w0.2.1.trans m0.2.1.symm
            · rw [z]; exact w0.2.2.trans m0.2.2.symm
          rw [e.1, e9, ← e.1]; exact kk.2.2.2 q hq
      have P0 : Ptr (mu M2 154 0 0) := P2.mu (by decide +kernel)
      obtain ⟨N1, b1, b2, b3, b4, b5⟩ := y_act2 (fu := fu) hf I h1 (M1 := M1) (M2 := M2) (N0 := mu M2 154 0 0) kk (fun x i q _ _ => d3 x i (by omega)) (fun x i q _ => mx_ne (by omega)) P0
      have s18 : N1 154 18 = 162 := b3 (154, 18, 162) (by decide +kernel)
      obtain ⟨Z, hZ⟩ : ∃ Z, Z = mu N1 162 (26 + p) (M 162 0) := ⟨_, rfl⟩
      have e2 : Z 162 = y_bry (M 162) p := by rw [hZ, mu_row, b4]; rfl
      have zo : ∀ x i, x ≠ 162 → Z x i = N1 x i := fun x i q => by rw [hZ, mx_ne (Or.inl q)]
      have zc : ∀ x i, x < 31 ∨ 129 ≤ x → ¬ (x = 154 ∧ (i = 0 ∨ i = 25)) → x ≠ 162 → x ≠ 166 → ¬ (20 ≤ x ∧ x ≤ 23) → Z x i = M x i := fun x i r r1 r2 r3 r4 => by
        rw [zo x i r2, b2 x i r3 (by omega), mx_ne (by omega), d3 x i r4, kr x r]
      have ej : ∀ j, j ≠ 26 + p → y_bry (M 162) p j = M 162 j := fun j q => iupd_n q
      have ep : y_bry (M 162) p (26 + p) = M 162 0 := iupd_s _ _ _
      have hvp := wv.2.2 p ci.1 ci.2
      have hv0 := wv.2.1
      have ew : w32 (M 162 0 - M 162 (2 + p)) = M 162 0 - M 162 (2 + p) := w32_id (by omega)
      refine ⟨M2, M 162 0 - M 162 (2 + p), Z, ?_, ?_, b5 Z zo (Or.inl ⟨zc _ _ (by decide) (by decide) (by decide) (by decide) (by decide), zc _ _ (by decide) (by decide) (by decide) (by decide) (by decide)⟩) ?_⟩
      · show Lx_death fu L M 1 p = _
        have t4 : M2 1 4 = 19 := P2 (1, 4, 19) (by decide +kernel)
        have t0 : M2 19 0 = 20 := P2 (19, 0, 20) (by decide +kernel)
        have ag := Wr_ageOf (fu := fu) d2 (y_bry_v wv c) (p := p) ci.1 (by rw [ej 1 (by omega)]; exact ci.2)
        rw [ep, ej 0 (by omega), ej (2 + p) (by omega), Int.min_self] at ag
        unfold Lx_death Lx_death_b22
        rw [l1, if_pos rfl, if_neg (show ¬ M 1 11 = 0 by omega), p4, l19, if_pos rfl, p0, l20, if_pos rfl, Wr_whyNoDeath I.wr wv, bd1_some, c, if_pos rfl, if_pos rfl, p6, l31, if_pos rfl, a1, bd1_some, s4, l19, if_pos rfl, s0, l20, if_pos rfl, d1, bd1_some, t4, l19, if_pos rfl, t0, l20, if_pos rfl, ag, bd1_some]
      · show Mo_death fu L M2 154 p = _
        have u : ∀ x i, ¬ (x = 154 ∧ i = 0) → x < 31 ∨ 129 ≤ x → ¬ (20 ≤ x ∧ x ≤ 23) → mu M2 154 0 0 x i = M x i := fun x i r r1 r2 => by rw [mx_ne (by omega), d3 x i r2, kr x r1]
        have u19 : mu M2 154 0 0 154 19 = 1 := (u _ _ (by decide) (by decide) (by decide)).trans h1
        have u18 : mu M2 154 0 0 154 18 = 162 := P0 (154, 18, 162) (by decide +kernel)
        have u162 : mu M2 154 0 0 162 = M 162 := funext fun i => u _ _ (by omega) (by decide) (by decide)
        have v18 : Z 154 18 = 162 := (zo _ _ (by decide)).trans s18
        unfold Mo_death
        rw [l4, if_pos rfl, lt1_def, u19, if_neg (by decide), u18, Mr_isIn l62 (by decide) (by rw [u162]; exact wv), u162, if_pos ci, bd1_some, if_neg (by decide), l62, if_pos rfl, e26, if_pos g26, if_pos ca, b1, bd1_some, s18, l62, if_pos rfl, if_pos g0, if_pos g26, b4, lt1_def, ← hZ, v18, l62, if_pos rfl, if_pos g0, e2', if_pos g2, e2, ej 0 (by omega), ej (2 + p) (by omega), ew]
      · rw [e2]
        refine y_ra_wld hra (by decide) (fun x q => funext fun i => zc x i (by omega) (by omega) (by omega) (by omega) (by omega)) ?_ (y_bry_v wv c) (by rw [ej 0 (by omega)]; exact hra.2.2.1.2.2.2) (fun j q => ej j (by omega)) (fun l l0 l1 => ⟨ej _ (by omega), ej _ (by omega)⟩)
        exact d2.of fun x i hx => by rw [zo x i (by omega), b2 x i (by omega) (by omega), mx_ne (by omega)]
    · have c : y_wND (M 162) p = 3 := by unfold y_wND; rw [if_neg (fun z => z ci), if_neg ca]
      refine y_kep_ref (fu := fu) I (r := 3) (by decide) (fun z => ?_) (fun z => ?_)
      · show Lx_death fu L M 1 p = _
        unfold Lx_death Lx_death_b22
        rw [l1, if_pos rfl, if_neg (show ¬ M 1 11 = 0 by omega), p4, l19, if_pos rfl, p0, l20, if_pos rfl, Wr_whyNoDeath I.wr wv, bd1_some, c, if_neg (by decide), if_pos rfl, z, bd2_some]
      · show Mo_death fu L (y_rm1 M 3) 154 p = _
        unfold Mo_death
        rw [l4, if_pos rfl, lt1_def, y_rm1_0 M _ (x := 154) (i := 19) (by decide) (by decide), if_neg h, u8, Mr_isIn l62 (by decide) (by rw [ux]; exact wv), ux, if_pos ci, bd1_some, if_neg (by decide), l62, if_pos rfl, e26, if_pos g26, if_neg ca, z, bd2_some]
  · have c : y_wND (M 162) p = 1 := by unfold y_wND; rw [if_pos ci]
    refine y_kep_ref (fu := fu) I (r := 1) (by decide) (fun z => ?_) (fun z => ?_)
    · show Lx_death fu L M 1 p = _
      unfold Lx_death Lx_death_b22
      rw [l1, if_pos rfl, if_neg (show ¬ M 1 11 = 0 by omega), p4, l19, if_pos rfl, p0, l20, if_pos rfl, Wr_whyNoDeath I.wr wv, bd1_some, c, if_neg (by decide), if_pos rfl, z, bd2_some]
    · show Mo_death fu L (y_rm1 M 1) 154 p = _
      unfold Mo_death
      rw [l4, if_pos rfl, lt1_def, y_rm1_0 M _ (x := 154) (i := 19) (by decide) (by decide), if_neg h, u8, Mr_isIn l62 (by decide) (by rw [ux]; exact wv), ux, if_neg ci, bd1_some, if_pos rfl, z, bd2_some]
end
