/-! ===== pure: part 9h: the call story, done ===== -/
section
variable {fu : Nat} {L : zL} {M N : zM} {top : Int}
theorem y_inv.wl129 (I : y_inv L M top) : WL L M 129 130 131 132 := ⟨I.lay 129 (by decide), ⟨I.ptr (129, 0, 130) (by decide +kernel), I.ptr (129, 1, 131) (by decide +kernel), I.ptr (129, 2, 132) (by decide +kernel)⟩, I.lay 130 (by decide), I.lay 131 (by decide), I.lay 132 (by decide)⟩
theorem zPt_129 : ∀ q ∈ zPt, ¬ ((129 ≤ (q.1 : Int) ∧ (q.1 : Int) ≤ 132) ∧ ¬ ((q.1 : Int) = 129 ∧ (q.2.1 : Int) ≤ 2)) := by decide +kernel
theorem c_story (hf : 600 ≤ fu) (I : y_inv L M top) : y_kep L M top (fun M => Lx_story fu L M 1) (fun M => Mo_story fu L M 154) := by
  have l1 : L 1 = (12, 0) := I.lay 1 (by decide)
  have l2 : L 2 = (8, 0) := I.lay 2 (by decide)
  have l4 : L 154 = (13, 0) := I.lay 154 (by decide)
  have l16 : L 16 = (7, 0) := I.lay 16 (by decide)
  have l19 : L 19 = (2, 0) := I.lay 19 (by decide)
  have l129 : L 129 = (11, 0) := I.lay 129 (by decide)
  have h6 := I.2.2.2.1
  have p3 : M 1 3 = 16 := I.ptr (1, 3, 16) (by decide +kernel)
  by_cases h : M 154 19 = 0
  · refine (y_same.mk (M1 := M) (M2 := mu M 154 0 0) (r := -1) (y_off0 M) ?_ ?_ : y_same L M (fun M => Lx_story fu L M 1) (fun M => Mo_story fu L M 154)).kep I
    · show Lx_story fu L M 1 = _
      unfold Lx_story
      rw [l1, if_pos rfl, if_pos (show M 1 11 = 0 by omega)]
    · show Mo_story fu L M 154 = _
      unfold Mo_story
      rw [l4, if_pos rfl, lt1_def, y_off0 M 154 19 (by omega), if_pos h]
  · have h1 : M 154 19 = 1 := by omega
    obtain ⟨A, r, a1, a2, a3, a4, a5⟩ := y_sread (fu := fu) (by omega) I (y_off.refl M)
    by_cases c : r = -1
    · have ec := a3 c
      have AP := a2.ptr I.ptr
      have w20 := a2.wr y_wa20 I.wr
      have wv := I.wv
      have hw := wv.1
      have hage : ∀ l, 0 ≤ l → l < M 154 20 → M 162 (2 + l) ≤ 0 := fun l l0 l1 => (I.age l0 l1).2.2.1
      have wl : WL L A 129 (129 + 1) (129 + 2) (129 + 3) := (I.off a2).wl129
      obtain ⟨B, b1, b2, b3⟩ := Wd_startOf_ok (fu := fu) (s := 20) (a := 129) (by omega) w20 wv hage wl (Or.inl (by decide))
      have oAB : ∀ x j, ¬ (129 ≤ x ∧ x ≤ 132) → B x j = A x j := fun x j q => b2 x j (by omega) (by omega)
      have BP : Ptr B := fun q hq => by
        have z := zPt_129 q hq
        rw [b2 _ _ (by omega) (by omega)]; exact AP q hq
      have B17 : B 17 = A 17 := funext fun j => oAB 17 j (by decide)
      have B18 : B 18 = A 18 := funext fun j => oAB 18 j (by decide)
      have v0 : WV (M 154 20) (y_z (M 162) (M 154 20) 0) := y_z_v wv hage (by decide)
      have z0 : y_z (M 162) (M 154 20) 0 0 = 0 := by unfold y_z; rw [if_pos rfl]
      have z1 : y_z (M 162) (M 154 20) 0 1 = M 154 20 := by unfold y_z; rw [if_neg (by decide), if_pos rfl]
      have asc : y_asc (A 17) (A 18) (A 16 3) 0 (y_z (M 162) (M 154 20) 0) := ⟨fun j j0 j1 jk => by
        have := (ec.2.2.1 j j0 j1).2 jk
        have := ec.2.1
        rw [z0]; omega, fun j k j0 jk k1 c1 c2 => ec.2.2.2 j k j0 jk k1 c1 c2⟩
      obtain ⟨C, c1, c2, c3⟩ := Sr_play_y (fu := fu) (n := A 16 3) I.lay (A 16 3).toNat fu 0 B _ BP (by have := ec.1; omega) (by have := ec.1; omega) (Int.le_refl 0) ec.1.2 (oAB _ _ (by decide)) b3 v0 (by rw [B17, B18]; exact asc)
      rw [B17, B18] at c1 c2
      obtain ⟨cnt, hcnt⟩ : ∃ cnt, cnt = (y_ply (A 17) (A 18) (A 16 3).toNat 0 (y_z (M 162) (M 154 20) 0)).1 := ⟨_, rfl⟩
      obtain ⟨wz, hwz⟩ : ∃ wz, wz = (y_ply (A 17) (A 18) (A 16 3).toNat 0 (y_z (M 162) (M 154 20) 0)).2 := ⟨_, rfl⟩
      rw [← hcnt] at c1
      rw [← hwz] at c2
      have vz : WV (M 154 20) wz := by rw [hwz]; exact y_ply_v _ 0 _ (by have := ec.1; omega) (Int.le_refl 0) v0 asc
      have oAC : ∀ x j, ¬ (129 ≤ x ∧ x ≤ 132) → C x j = A x j := fun x j q => (c3 x j q).trans (oAB x j q)
      have CP : Ptr C := fun q hq => by
        have z := zPt_129 q hq
        by_cases e : 129 ≤ (q.1 : Int) ∧ (q.1 : Int) ≤ 132
        · have e1 : (q.1 : Int) = 129 ∧ (q.2.1 : Int) ≤ 2 := by omega
          have w0 := c2.1.2.1
          have m0 := b3.1.2.1
          have e9 : C 129 (q.2.1 : Int) = B 129 (q.2.1 : Int) := by
            have : (q.2.1 : Int) = 0 ∨ (q.2.1 : Int) = 1 ∨ (q.2.1 : Int) = 2 := by omega
            rcases this with z | z | z
            · rw [z]; exact w0.1.trans m0.1.symm
            · rw [z]; exact w0.2.1.trans m0.2.1.symm
            · rw [z]; exact w0.2.2.trans m0.2.2.symm
          rw [e1.1, e9, ← e1.1]; exact BP q hq
        · rw [oAC _ _ e]; exact AP q hq
      obtain ⟨y, hy⟩ : ∃ y, y = (if cnt < A 16 3 then cnt else -1) := ⟨_, rfl⟩
      obtain ⟨D, hD⟩ : ∃ D, D = mu (mu (mu C 1 14 y) 2 2 0) 1 13 1 := ⟨_, rfl⟩
      have oCD : ∀ x j, ¬ (x = 1 ∧ (j = 13 ∨ j = 14)) → ¬ (x = 2 ∧ j = 2) → D x j = C x j := fun x j q1 q2 => by rw [hD, mx_ne (by omega), mx_ne (by omega), mx_ne (by omega)]
      have DP : Ptr D := fun q hq => by
        have h9 : ∀ q ∈ zPt, ¬ ((q.1 : Int) = 1 ∧ ((q.2.1 : Int) = 13 ∨ (q.2.1 : Int) = 14)) ∧ ¬ ((q.1 : Int) = 2 ∧ (q.2.1 : Int) = 2) := by decide +kernel
        rw [oCD _ _ (h9 q hq).1 (h9 q hq).2]; exact CP q hq
      have oMD : ∀ x j, ¬ y_scr x j → ¬ (x = 1 ∧ (j = 13 ∨ j = 14)) → ¬ (x = 2 ∧ j = 2) → ¬ (129 ≤ x ∧ x ≤ 132) → D x j = M x j := fun x j q q1 q2 q3 => (oCD x j q1 q2).trans ((oAC x j q3).trans (a2 x j q))
      have cl : Lx_story fu L M 1 = some (D, cnt) := by
        have q3 : A 1 3 = 16 := AP (1, 3, 16) (by decide +kernel)
        have q4 : A 1 4 = 19 := AP (1, 4, 19) (by decide +kernel)
        have q7 : A 1 7 = 129 := AP (1, 7, 129) (by decide +kernel)
        have q0 : A 19 0 = 20 := AP (19, 0, 20) (by decide +kernel)
        have s3 : C 1 3 = 16 := CP (1, 3, 16) (by decide +kernel)
        have s16 : C 16 3 = A 16 3 := oAC _ _ (by decide)
        have sp : Sr_play fu L A 16 20 129 = some (C, cnt) := by
          unfold Sr_play
          rw [l129, if_pos rfl, b1, bd1_some, c1]
        have t0 : ∀ v, mu C 1 14 v 1 0 = 2 := fun v => (mx_ne (by decide)).trans (CP (1, 0, 2) (by decide +kernel))
        have b56 : ∀ v, Lx_story_b56 fu L C 1 cnt 1 v = some (mu (mu (mu C 1 14 v) 2 2 0) 1 13 1, cnt) := fun v => by
          unfold Lx_story_b56
          rw [l1, if_pos rfl, lt1_def, if_pos rfl, t0, l2, if_pos rfl, lt1_def, lt1_def]
        unfold Lx_story
        rw [l1, if_pos rfl, if_neg (show ¬ M 1 11 = 0 by omega), p3, l16, if_pos rfl, a1, bd2_some, if_pos c, q4, l19, if_pos rfl, q3, l16, if_pos rfl, q0, q7, sp, bd2_some, s3, l16, if_pos rfl, s16, b56, b56, hD, hy]
        by_cases z : cnt < A 16 3
        · rw [if_pos z, if_pos z]
        · rw [if_neg z, if_neg z]
      -- the model
      have oN : y_ofm M (mu D 154 0 0) := by
        refine ⟨DP.mu (by decide +kernel), fun a i q1 q2 q => ?_⟩
        rw [mx_ne (by omega)]
        exact oMD a i q (by omega) (by omega) (by omega)
      obtain ⟨N1, n1, n2, n3⟩ := a5 _ oN
      obtain ⟨N2, hN2⟩ : ∃ N2, N2 = mu (mu N1 154 2 0) 154 38 1 := ⟨_, rfl⟩
      have o12 : ∀ x j, ¬ (x = 154 ∧ (j = 2 ∨ j = 38)) → N2 x j = N1 x j := fun x j q => by rw [hN2, mx_ne (by omega), mx_ne (by omega)]
      have n2o := n2.off
      have oDN : ∀ x j, ¬ y_scr x j → ¬ (x = 154 ∧ (j = 2 ∨ j = 38)) → N2 x j = D x j := fun x j q q1 => (o12 x j q1).trans ((n2o x j q).trans (mx_ne (by omega)))
      have P1 : Ptr N1 := n2o.ptr oN.1
      have P2 : Ptr N2 := fun q hq => by
        have h9 : ∀ q ∈ zPt, ¬ ((q.1 : Int) = 154 ∧ ((q.2.1 : Int) = 2 ∨ (q.2.1 : Int) = 38)) := by decide +kernel
        rw [o12 _ _ (h9 q hq)]; exact P1 q hq
      have e20 : N2 154 20 = M 154 20 := (oDN _ _ (by omega) (by omega)).trans (oMD _ _ (by omega) (by omega) (by omega) (by omega))
      obtain ⟨T, t1, t2, t3, t4, t5, t6⟩ := Mo_beginsWorld_ok (fu := fu) (N := N2) (x := 168) (sz := 74) (lv := M 154 20) (w := M 162) (by omega) (I.lay 168 (by decide)) (by decide) l4 (I.lay 164 (by decide)) (I.lay 165 (by decide)) (P2 (154, 22, 164) (by decide +kernel)) (P2 (154, 23, 165) (by decide +kernel)) e20 (by omega) (by decide) (fun l l0 l1 => by
        have := I.age l0 l1
        rw [oDN 164 l (by omega) (by omega), oDN 165 l (by omega) (by omega), oMD 164 l (by omega) (by omega) (by omega) (by omega), oMD 165 l (by omega) (by omega) (by omega) (by omega)]
        omega)
      have TP : Ptr T := fun q hq => by
        have h9 : ∀ q ∈ zPt, (q.1 : Int) ≠ 168 := by decide +kernel
        rw [t2 _ _ (h9 q hq)]; exact P2 q hq
      have er := n3 c
      have T16 : T 154 16 = A 16 3 := (t2 _ _ (by decide)).trans ((o12 _ _ (by omega)).trans er.1)
      have al : y_al (y_z (M 162) (M 154 20) 0) (T 168) := by
        refine ⟨by rw [t3, z0], by rw [t4, z1], fun p p0 p1 => ?_⟩
        rw [z1] at p1
        obtain ⟨u1, u2, u3⟩ := t5 p p0 p1
        rw [u1, u2, u3, y_z_b (by omega), y_z_d (by omega), y_z_p (by omega)]
        exact ⟨rfl, rfl, rfl⟩
      have alK : ∀ j, 0 ≤ j → j < A 16 3 → T 160 j = A 17 j ∧ T 161 j = A 18 j := fun j j0 j1 => by
        rw [t2 _ _ (by decide), t2 _ _ (by decide), o12 _ _ (by omega), o12 _ _ (by omega)]
        exact er.2.2 j j0 j1
      have vT : WV (M 154 20) (T 168) := v0.congr al.1 al.2.1 al.2.2
      have ascT : y_asc (T 160) (T 161) (A 16 3) 0 (T 168) := by
        refine ⟨fun j j0 j1 jk => ?_, fun j k j0 jk k1 d1 d2 => ?_⟩
        · obtain ⟨k1, k2⟩ := alK j j0 j1
          rw [k1] at jk
          rw [k2, al.1]
          exact asc.1 j j0 j1 jk
        · obtain ⟨k1', k2⟩ := alK j j0 (by omega)
          obtain ⟨k3, k4⟩ := alK k (by omega) k1
          rw [k1'] at d1
          rw [k3] at d2
          rw [k2, k4]
          exact asc.2 j k j0 jk k1 d1 d2
      obtain ⟨Z, y1, y2, y3, y4⟩ := Mo_story_y (fu := fu) (n := A 16 3) (lv := M 154 20) I.lay (A 16 3).toNat fu 0 T TP (by have := ec.1; omega) (by have := ec.1; omega) (Int.le_refl 0) ec.1.2 T16 vT ascT
      obtain ⟨p1, p2⟩ := y_al_ply (A 16 3).toNat 0 _ (T 168) (by have := ec.1; omega) (Int.le_refl 0) alK v0 asc al
      rw [p1, ← hcnt] at y1 y3
      rw [← hwz] at p2
      rw [← y2] at p2
      have mo : Mo_story fu L D 154 = some (Z, cnt) := by
        have f19 : mu D 154 0 0 154 19 = M 154 19 := (mx_ne (by decide)).trans (oMD _ _ (by omega) (by omega) (by omega) (by omega))
        unfold Mo_story
        rw [l4, if_pos rfl, lt1_def, f19, if_neg h, n1, bd2_some, if_pos c, lt1_def, lt1_def, ← hN2, (show N2 154 37 = 168 from P2 (154, 37, 168) (by decide +kernel)), t1, bd1_some, y1]
      refine ⟨D, cnt, Z, cl, mo, ?_⟩
      have oZ : ∀ x j, ¬ y_scr x j → ¬ (x = 1 ∧ (j = 13 ∨ j = 14)) → ¬ (x = 2 ∧ j = 2) → ¬ (129 ≤ x ∧ x ≤ 132) → x ≠ 168 → ¬ (x = 154 ∧ (j = 2 ∨ j = 38 ∨ j = 39)) → Z x j = M x j := fun x j q q1 q2 q3 q4 q5 =>
        (y4 x j q4 (by omega)).trans ((t2 x j q4).trans ((oDN x j q (by omega)).trans (oMD x j q q1 q2 q3)))
      have oZD : ∀ x j, ¬ y_scr x j → x ≠ 168 → ¬ (x = 154 ∧ (j = 2 ∨ j = 38 ∨ j = 39)) → Z x j = D x j := fun x j q q4 q5 =>
        (y4 x j q4 (by omega)).trans ((t2 x j q4).trans (oDN x j q (by omega)))
      have rw_ : ∀ x, (∀ j, ¬ y_scr x j) → x ≠ 1 → x ≠ 2 → ¬ (129 ≤ x ∧ x ≤ 132) → x ≠ 168 → x ≠ 154 → Z x = M x := fun x q q1 q2 q3 q4 q5 => funext fun j => oZ x j (q j) (by omega) (by omega) q3 q4 (by omega)
      have ZP : Ptr Z := fun q hq => by
        have h9 : ∀ q ∈ zPt, (q.1 : Int) ≠ 168 ∧ ¬ ((q.1 : Int) = 154 ∧ (q.2.1 : Int) = 39) := by decide +kernel
        rw [y4 _ _ (h9 q hq).1 (h9 q hq).2]; exact TP q hq
      have z38 : Z 154 38 = 1 := by rw [y4 _ _ (by decide) (by omega), t2 _ _ (by decide), hN2, mx_same]
      have z2 : Z 154 2 = 0 := by rw [y4 _ _ (by decide) (by omega), t2 _ _ (by decide), hN2, mx_ne (by decide), mx_same]
      have z49 : Z 154 49 = M 154 49 := oZ _ _ (by omega) (by omega) (by omega) (by omega) (by omega) (by omega)
      have z25 : Z 154 25 = M 154 25 := oZ _ _ (by omega) (by omega) (by omega) (by omega) (by omega) (by omega)
      have z113 : Z 1 13 = 1 := by rw [oZD _ _ (by omega) (by omega) (by omega), hD, mx_same]
      have z114 : Z 1 14 = y := by rw [oZD _ _ (by omega) (by omega) (by omega), hD, mx_ne (by decide), mx_ne (by decide), mx_same]
      have z22 : Z 2 2 = 0 := by rw [oZD _ _ (by omega) (by omega) (by omega), hD, mx_ne (by decide), mx_same]
      have z112 : Z 1 12 = M 1 12 := oZ _ _ (by omega) (by omega) (by omega) (by omega) (by omega) (by omega)
      have hi : ∀ a, 172 ≤ a → a < top → Z a = M a := fun a q _ => rw_ a (fun j => by omega) (by omega) (by omega) (by omega) (by omega) (by omega)
      have ra : ∀ {a : Int} {w : Int → Int} {lv : Int} {nm ag pr : Int → Int}, 19 ≤ a ∧ a ≤ 123 → y_ra L M a top w lv nm ag pr → y_ra L Z a top w lv nm ag pr := fun ha hh => hh.of (fun x h0 h1 => rw_ x (fun j => by omega) (by omega) (by omega) (by omega) (by omega) (by omega)) hi (fun _ _ _ => rfl) (fun _ _ _ => rfl) (Int.le_refl _)
      have r162 := rw_ 162 (fun j => by omega) (by decide) (by decide) (by decide) (by decide) (by decide)
      have r170 := rw_ 170 (fun j => by omega) (by decide) (by decide) (by decide) (by decide) (by decide)
      have r166 := rw_ 166 (fun j => by omega) (by decide) (by decide) (by decide) (by decide) (by decide)
      have r31 := rw_ 31 (fun j => by omega) (by decide) (by decide) (by decide) (by decide) (by decide)
      have r153 := rw_ 153 (fun j => by omega) (by decide) (by decide) (by decide) (by decide) (by decide)
      have r167 := rw_ 167 (fun j => by omega) (by decide) (by decide) (by decide) (by decide) (by decide)
      refine I.asm h1 ZP ⟨⟨rw_ 3 (fun j => by omega) (by decide) (by decide) (by decide) (by decide) (by decide), rw_ 155 (fun j => by omega) (by decide) (by decide) (by decide) (by decide) (by decide), rw_ 4 (fun j => by omega) (by decide) (by decide) (by decide) (by decide) (by decide), rw_ 163 (fun j => by omega) (by decide) (by decide) (by decide) (by decide) (by decide), rw_ 164 (fun j => by omega) (by decide) (by decide) (by decide) (by decide) (by decide), rw_ 165 (fun j => by omega) (by decide) (by decide) (by decide) (by decide) (by decide)⟩, oZ _ _ (by omega) (by omega) (by omega) (by omega) (by omega) (by omega), oZ _ _ (by omega) (by omega) (by omega) (by omega) (by omega) (by omega), oZ _ _ (by omega) (by omega) (by omega) (by omega) (by omega) (by omega), oZ _ _ (by omega) (by omega) (by omega) (by omega) (by omega) (by omega), oZ _ _ (by omega) (by omega) (by omega) (by omega) (by omega) (by omega)⟩ (Or.inr ⟨z22, z2⟩) ?_ ?_ (fun q => ?_) ⟨?_, fun j j0 j1 => ?_⟩ (fun _ => ?_) ?_
      · rw [z112, z49, z113, z38]
        exact ⟨⟨h6.1.2.1, rfl⟩, h6.2.2.1, Or.inr rfl⟩
      · rw [r162]; exact ra (by omega) I.2.2.2.2.1
      · rw [z49] at q
        rw [r170]; exact ra (by omega) (I.2.2.2.2.2.1 q)
      · rw [r31, z25]; exact I.2.2.2.2.2.2.1.1
      · rw [z25] at j1
        rw [r31, r166, z25]; exact ra (by omega) (I.2.2.2.2.2.2.1.2 j j0 j1)
      · have cw : WR L Z 129 130 131 132 (M 154 20) wz := c2.of fun x i q => by
          have e : Z x i = D x i := oZD x i (by omega) (by omega) (by omega)
          rw [e]; exact oCD x i (by omega) (by omega)
        refine ⟨cw.congr p2.1 p2.2.1 p2.2.2, vz.congr p2.1 p2.2.1 p2.2.2, ?_⟩
        rw [z114, hy, y3]
      · rw [r153, r167]; exact I.2.2.2.2.2.2.2.2.1
    · have oN : y_off M (mu A 154 0 0) := a2.trans (y_off0 A)
      obtain ⟨N', n1, n2, _⟩ := a5 _ (oN.ofm I)
      refine ⟨A, -1, N', ?_, ?_, I.off (oN.trans n2.off)⟩
      · show Lx_story fu L M 1 = _
        unfold Lx_story
        rw [l1, if_pos rfl, if_neg (show ¬ M 1 11 = 0 by omega), p3, l16, if_pos rfl, a1, bd2_some, if_neg c]
      · show Mo_story fu L A 154 = _
        unfold Mo_story
        rw [l4, if_pos rfl, lt1_def, oN 154 19 (by omega), if_neg h, n1, bd2_some, if_neg c]
end
