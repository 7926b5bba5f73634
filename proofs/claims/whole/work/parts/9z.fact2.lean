/-! ===== pure: part 9z: facts, a group ===== -/
section
variable {fu : Nat} {L : zL} {M0 M M1 N : zM} {top b b1 : Int}
/-- what y_stp says of one place -/
def y_bdy (M0 : zM) (md d : Nat) (cf : zM → Option (zM × Int)) (mf : zM → Option zM) (M : zM) (b : Int) : Prop := ∃ M' r b', cf M = some (M', r) ∧ y_rc M0 M' b' ∧ (r = 0 ∨ (r = 1 ∧ y_gc1 M M' b' ∧ y_gpa M M')) ∧ ∀ N, y_rm M0 N b → N 154 5 = -1 → y_gr0 d M N b → ∃ N', mf N = some N' ∧ y_mf N N' ∧ ((r = 0 ∧ N' 154 5 = b' ∧ ∃ b'', y_rm M0 N' b'') ∨ (r = 1 ∧ N' 154 5 = -1 ∧ y_rm M0 N' b' ∧ y_gr1 M0 md d M M' N N' b'))
theorem y_rm_mu {T : zM} {i v : Int} (h : y_rm M0 T b) (hi : i = 13 ∨ i = 16 ∨ i = 17) : y_rm M0 (mu T 154 i v) b := ⟨h.1.mu (by omega), y_mtok h.2 (fun j hj => mx_ne (by omega)) (funext fun j => mx_ne (by omega))⟩
theorem y_fact_g (hf : 42000 ≤ fu) (I : y_inv L M0 top) {L' : zL} {top' : Int} (J : y_inv L' M0 top') {d : Nat} (hd : d ≤ 5) {rc rc2 : zt_Gr_readAfter} {rm rm2 : zt_Mo_readsAll}
    (hG : rc.2.2.2.2 = Gr_readGroup_r fu rc2 L) (hW : rm.2.2.2 = Mo_readsWithin_r fu rm2 L')
    (An : ∀ d', d = d' + 1 → y_any M0 d' (fun M => rc2.2.2.1 M 9 (5 - (d' : Int))) (fun N => rm2.1 N 154))
    (hr : y_rc M0 M b) (g0 : y_gc0 M b) (c : y_G M0 40 b) : y_bdy M0 0 d (fun M => Gr_readFact_r fu rc L M 9 (5 - (d : Int))) (fun N => Mo_readsFact_r fu rm L' N 154) M b := by
  have l9 : L 9 = (5, 0) := I.lay 9 (by decide)
  have l2 : L 2 = (8, 0) := I.lay 2 (by decide)
  have l4 : L' 154 = (13, 0) := J.lay 154 (by decide)
  have p0 : M 9 0 = 2 := (hr.ptr I) (9, 0, 2) (by decide +kernel)
  have b0 := hr.pb.1
  have cl : ∀ R, Gr_readGroup_r fu rc2 L M 9 (5 - (d : Int)) = some R → Gr_readFact_r fu rc L M 9 (5 - (d : Int)) = some R := fun R e => by
    unfold Gr_readFact_r
    rw [l9, if_pos rfl, p0, l2, if_pos rfl, rc_sign I hr, if_pos c, bd1_some, if_neg (by decide), hG, e, bd2_some]
  have ml : ∀ N R, y_rm M0 N b → N 154 5 = -1 → Mo_readsWithin_r fu rm2 L' N 154 = some R → Mo_readsFact_r fu rm L' N 154 = some R := fun N R hN hw e => by
    unfold Mo_readsFact_r
    rw [l4, if_pos rfl, rm_sign J hN, if_pos ⟨hw, c⟩, bd1_some, if_neg (by decide), hW, e, bd1_some]
  by_cases d0 : d = 0
  · subst d0
    refine ⟨M, 0, b, ?_, hr, Or.inl rfl, fun N hN hw hg => ⟨y_bd N b, ml N _ hN hw ?_, (y_mf.refl N).mu (by omega), Or.inl ⟨rfl, by rw [y_bd_w, if_pos hw], _, hN.bad⟩⟩⟩
    · apply cl
      unfold Gr_readGroup_r
      rw [if_neg (show ¬ (5 - ((0 : Nat) : Int)) < 5 by omega)]
    · have h13 : N 154 13 = 5 := by have := hg.2.2; omega
      unfold Mo_readsWithin_r
      rw [l4, if_pos rfl, if_pos h13, rm_bad J hN, bd1_some]
  · obtain ⟨d', rfl⟩ : ∃ d', d = d' + 1 := ⟨d - 1, by omega⟩
    obtain ⟨k3, pt⟩ := y_pt_g c
    obtain ⟨M2, t1, t2, t3, t4, t5, t6⟩ := Gr_take_y (fu := fu) (by omega) I hr (by omega) (fun z => by omega) ⟨by have := g0.2.2; omega, g0.2.2.2⟩
    rw [if_pos (by have := g0.2.2; omega), pt] at t2
    have e9 : M2 9 9 = M 9 9 := t3 _ _ (by omega) (by omega) (by omega)
    have e10 : M2 9 10 = M 9 10 := t3 _ _ (by omega) (by omega) (by omega)
    have g09 := g0.1
    have g010 := g0.2.1
    have g012 := g0.2.2
    have gc2 : y_gc0 M2 (y_nx M0 b) := ⟨by omega, by omega, by omega⟩
    obtain ⟨M3, r3, b3, ct, f1, f2, f3, f4⟩ := An d' rfl M2 _ t4 gc2 (fun z => by omega)
    have edp : w32 (5 - ((d' + 1 : Nat) : Int) + 1) = 5 - (d' : Int) := by rw [w32_id (by omega)]; omega
    have f1' : rc2.2.2.1 M2 9 (5 - (d' : Int)) = some (M3, r3) := f1
    have q3 : M3 9 0 = 2 := (f2.ptr I) (9, 0, 2) (by decide +kernel)
    have b30 := f2.pb.1
    -- the model up to the ways
    have mpre : ∀ N, y_rm M0 N b → N 154 5 = -1 → y_gr0 (d' + 1) M N b → ∃ N1 N2 N3 N4 cm, Mo_next fu L' N 154 = some N1 ∧ NOff N N1 ∧ N2 = mu N1 154 13 (N 154 13 + 1) ∧ Mo_lays fu L' N2 154 6 0 0 = some N3 ∧ y_ly N2 N3 6 ∧ rm2.1 N3 154 = some (N4, cm) ∧ y_out M0 2 d' M2 M3 N3 N4 r3 b3 ∧ (r3 = 1 → cm = ct ∧ y_pm M0 d' M3 N3 N4 ct) := fun N hN hw hg => by
      obtain ⟨N1, n1, n2, n3⟩ := rm_step (fu := fu) (by omega) J hN
      have g2 := hg.2.2
      have gm := hg.2.1
      have hb := hN.pb I
      have hn3 := I.2.1.1.2.1
      have r2 : y_rm M0 (mu N1 154 13 (N 154 13 + 1)) (y_nx M0 b) := y_rm_mu n3 (Or.inl rfl)
      have m4 : mu N1 154 13 (N 154 13 + 1) 159 4 = N 159 4 := (mx_ne (by omega)).trans (n2 _ _ (by omega))
      obtain ⟨N3, y1, y2⟩ := Mo_lays_y (fu := fu) (N := mu N1 154 13 (N 154 13 + 1)) (k := 6) (l := 0) (n := 0) J.lay (r2.ptr I) ((mx_ne (by omega)).trans (n2.w.trans hw)) (by omega) (by decide) (by decide) (by decide)
      have n5 : N3 154 5 = -1 := (y2.2.2 _ _ (by omega)).trans ((mx_ne (by omega)).trans (n2.w.trans hw))
      obtain ⟨N4, cm, z1, z2, z3⟩ := f4 N3 (y2.rm r2) n5 ⟨by rw [y2.2.2 159 2 (by omega), mx_ne (by omega), n2 _ _ (by omega), hg.1, e9], by rw [y2.2.1, m4]; omega, by rw [y2.2.2 154 13 (by omega), mx_same]; omega⟩
      exact ⟨N1, _, N3, N4, cm, n1, n2, rfl, y1, y2, z1, z2, z3⟩
    have eN : ∀ (N N1 : zM), NOff N N1 → y_gr0 (d' + 1) M N b → w32 (N1 154 13 + 1) = N 154 13 + 1 := fun N N1 n2 hg => by
      have := hg.2.2
      rw [n2 _ _ (by omega), w32_id (by omega)]
    rcases f3 with r0 | ⟨r1, fc, fpc⟩
    · refine ⟨M3, 0, b3, ?_, f2, Or.inl rfl, fun N hN hw hg => ?_⟩
      · apply cl
        unfold Gr_readGroup_r
        rw [if_pos (by omega), l9, if_pos rfl, t1, bd1_some, edp, f1', bd2_some, if_pos r0]
      · obtain ⟨N1, N2, N3, N4, cm, n1, n2, hN2, y1, y2, z1, z2, z3⟩ := mpre N hN hw hg
        have mN : y_mf N N3 := (by rw [hN2] at y2; exact (n2.mf.mu (by omega)).trans y2.mf)
        rcases z2 with ⟨z2a, ⟨_, z4, b'', z5⟩ | ⟨z4, _⟩⟩
        · refine ⟨mu N4 154 13 (w32 (N4 154 13 - 1)), ml N _ hN hw ?_, (mN.trans z2a).mu (by omega), Or.inl ⟨rfl, (mx_ne (by omega)).trans z4, b'', y_rm_mu z5 (Or.inl rfl)⟩⟩
          have g2 := hg.2.2
          unfold Mo_readsWithin_r Mo_readsWithin_b61
          rw [l4, if_pos rfl, if_neg (by omega), n1, bd1_some, eN N N1 n2 hg, lt1_def, ← hN2, y1, bd1_some, z1, bd2_some, if_neg (by omega), if_pos rfl, Mo_lays_n J.lay (by omega), bd1_some, lt1_def]
        · omega
    · have s3 := fc.2.1
      have s9 := fc.1
      have s12 := fc.2.2.1
      have gpa := fpc.1 (by omega)
      by_cases c41 : y_G M0 41 b3
      · obtain ⟨k3', pt'⟩ := y_pt_g c41
        obtain ⟨M4, u1, u2, u3, u4, u5, u6⟩ := Gr_take_y (fu := fu) (by omega) I f2 (by omega) (fun z => by omega) (by omega)
        rw [if_pos (by omega), pt'] at u2
        have v9 : M4 9 9 = M3 9 9 := u3 _ _ (by omega) (by omega) (by omega)
        have v10 : M4 9 10 = M3 9 10 := u3 _ _ (by omega) (by omega) (by omega)
        have h12 := t2.1
        refine ⟨M4, 1, y_nx M0 b3, ?_, u4, Or.inr ⟨rfl, ⟨by omega, by omega, by omega, fun a i q1 q2 q3 q4 q5 => ?_⟩, ?_, funext fun i => ?_⟩, fun N hN hw hg => ?_⟩
        · apply cl
          unfold Gr_readGroup_r
          rw [if_pos (by omega), l9, if_pos rfl, t1, bd1_some, edp, f1', bd2_some, if_neg (by omega), q3, l2, if_pos rfl, rc_sign I f2, if_pos c41, bd1_some, if_neg (by decide), u1, bd1_some]
        · by_cases c15 : a = 15
          · rw [c15, u2.2.1 i (by omega), fc.2.2.2 15 i (by omega) (by omega) (by omega) (by omega) (by omega)]
            exact t2.2.1 i (by omega)
          · rw [u3 a i q1 (by omega) c15, fc.2.2.2 a i q1 (by omega) (by omega) q4 (by omega)]
            exact t3 a i q1 (by omega) c15
        · rw [u3 _ _ (by omega) (by omega) (by omega), gpa.1, t3 _ _ (by omega) (by omega) (by omega)]
        · rw [u3 14 i (by omega) (by omega) (by omega), gpa.2, t3 14 i (by omega) (by omega) (by omega)]
        · obtain ⟨N1, N2, N3, N4, cm, n1, n2, hN2, y1, y2, z1, z2, z3⟩ := mpre N hN hw hg
          have mN : y_mf N N3 := (by rw [hN2] at y2; exact (n2.mf.mu (by omega)).trans y2.mf)
          rcases z2 with ⟨z2a, ⟨z4, _⟩ | ⟨_, z4, z5, z6⟩⟩
          · omega
          · obtain ⟨N5, w1, w2, w3⟩ := rm_tsign_y (fu := fu) (by omega) J z5 z4 c41
            have hb := z5.pb I
            have hn3 := I.2.1.1.2.1
            have m24 : N2 159 4 = N 159 4 := by rw [hN2, mx_ne (by omega)]; exact n2 _ _ (by omega)
            have m34 : N3 159 4 = N 159 4 + 1 := by rw [y2.2.1, m24]
            have m5 : N5 159 4 = N4 159 4 := w2 _ _ (by omega)
            have z61 := z6.1.2.1
            have gm := hg.2.1
            obtain ⟨N6, x1, x2⟩ := Mo_lays_y (fu := fu) (k := 7) (l := 0) (n := 0) J.lay (w3.ptr I) (w2.w.trans z4) (by omega) (by decide) (by decide) (by decide)
            have d13 : N6 154 13 = N 154 13 + 1 := by rw [x2.2.2 154 13 (by omega), w2 _ _ (by omega), z6.1.2.2, y2.2.2 154 13 (by omega), hN2, mx_same]
            have g2 := hg.2.2
            have ed : w32 (N6 154 13 - 1) = N 154 13 := by rw [d13, w32_id (by omega)]; omega
            refine ⟨mu N6 154 13 (N 154 13), ml N _ hN hw ?_, (((mN.trans z2a).trans w2.mf).trans x2.mf).mu (by omega), Or.inr ⟨rfl, ?_, y_rm_mu (x2.rm w3) (Or.inl rfl), ⟨?_, ?_, ?_⟩, fun x hx => ?_, ?_, ?_⟩⟩
            · unfold Mo_readsWithin_r Mo_readsWithin_b61
              rw [l4, if_pos rfl, if_neg (by omega), n1, bd1_some, eN N N1 n2 hg, lt1_def, ← hN2, y1, bd1_some, z1, bd2_some, if_pos z4, w1, bd2_some, if_neg (by decide), if_pos rfl, x1, bd1_some, lt1_def, ed]
            · rw [mx_ne (by omega), x2.2.2 154 5 (by omega)]; exact w2.w.trans z4
            · rw [mx_ne (by omega), x2.2.2 159 2 (by omega), w2 _ _ (by omega), z6.1.1, v9]
            · rw [mx_ne (by omega), x2.2.1, m5]; omega
            · rw [mx_same]
            · rw [mx_ne (by omega), x2.2.2 159 x (by omega), w2 _ _ (by omega), z6.2.1 x (by omega), y2.2.2 159 x (by omega), hN2, mx_ne (by omega)]
              exact n2 _ _ (by omega)
            · have s46 : ∀ x, 0 ≤ x → x < N4 159 4 → mu N6 154 13 (N 154 13) 159 (5 + x) = N4 159 (5 + x) := fun x x0 hx => by
                rw [mx_ne (by omega), x2.2.2 159 (5 + x) (by omega)]; exact w2 _ _ (by omega)
              have sj : mu N6 154 13 (N 154 13) 159 (5 + N4 159 4) = 7 := by
                rw [mx_ne (by omega), ← m5]; exact x2.1
              have si : mu N6 154 13 (N 154 13) 159 (5 + N 159 4) = 6 := by
                rw [s46 _ (by omega) (by omega), z6.2.1 _ (by omega), ← m24]; exact y2.1
              have e46 : mu N6 154 13 (N 154 13) 159 4 = N4 159 4 + 1 := by rw [mx_ne (by omega), x2.2.1, m5]
              have r4 : ∀ a, 10 ≤ a ∧ a ≤ 13 → M4 a = M3 a := fun a ha => funext fun i => u3 a i (by omega) (by omega) (by omega)
              rw [e46, v10, r4 10 (by decide), r4 11 (by decide), r4 12 (by decide), r4 13 (by decide), ← e10]
              have z := z6.2.2.1
              rw [m34] at z
              exact y_psg_g (z.ext (fun x x0 x1 => s46 x (by omega) x1) (fun x x0 x1 => ⟨rfl, rfl, rfl, rfl⟩)) (by omega) gm.1 si sj
            · have s46 : ∀ x, 0 ≤ x → x < N4 159 4 → mu N6 154 13 (N 154 13) 159 (5 + x) = N4 159 (5 + x) := fun x x0 hx => by
                rw [mx_ne (by omega), x2.2.2 159 (5 + x) (by omega)]; exact w2 _ _ (by omega)
              have sj : mu N6 154 13 (N 154 13) 159 (5 + N4 159 4) = 7 := by
                rw [mx_ne (by omega), ← m5]; exact x2.1
              have si : mu N6 154 13 (N 154 13) 159 (5 + N 159 4) = 6 := by
                rw [s46 _ (by omega) (by omega), z6.2.1 _ (by omega), ← m24]; exact y2.1
              have e46 : mu N6 154 13 (N 154 13) 159 4 = N4 159 4 + 1 := by rw [mx_ne (by omega), x2.2.1, m5]
              have tt := (t2.trans z6.2.2.2).trans u2
              have el : y_tsl (M0 163) (fun x => mu N6 154 13 (N 154 13) 159 (5 + x)) (mu N6 154 13 (N 154 13) 159 4 - N 159 4).toNat (N 159 4) = ([32] ++ [40]) ++ y_tsl (M0 163) (fun x => N4 159 (5 + x)) (N4 159 4 - N3 159 4).toNat (N3 159 4) ++ ([32] ++ [41]) := by
                rw [e46, show (N4 159 4 + 1 - N 159 4).toNat = 1 + ((N4 159 4 - N3 159 4).toNat + 1) by omega, y_tsl_app, y_tsl_app, y_tsl_1, y_tsl_1]
                show 32 :: y_tsg (M0 163) (mu N6 154 13 (N 154 13) 159 (5 + N 159 4)) ++ (y_tsl (M0 163) _ _ (N 159 4 + ((1 : Nat) : Int)) ++ 32 :: y_tsg (M0 163) (mu N6 154 13 (N 154 13) 159 (5 + (N 159 4 + ((1 : Nat) : Int) + (((N4 159 4 - N3 159 4).toNat : Nat) : Int))))) = _
                rw [si, show N 159 4 + ((1 : Nat) : Int) = N3 159 4 by omega, show N3 159 4 + (((N4 159 4 - N3 159 4).toNat : Nat) : Int) = N4 159 4 by omega, sj, y_tsl_congr (S := fun x => N4 159 (5 + x)) _ _ (fun x x0 x1 => s46 x (by omega) (by omega)), List.append_assoc]
                rfl
              rw [el]; exact tt
      · refine ⟨M3, 0, b3, ?_, f2, Or.inl rfl, fun N hN hw hg => ?_⟩
        · apply cl
          unfold Gr_readGroup_r
          rw [if_pos (by omega), l9, if_pos rfl, t1, bd1_some, edp, f1', bd2_some, if_neg (by omega), q3, l2, if_pos rfl, rc_sign I f2, if_neg c41, bd1_some, if_pos rfl]
        · obtain ⟨N1, N2, N3, N4, cm, n1, n2, hN2, y1, y2, z1, z2, z3⟩ := mpre N hN hw hg
          have mN : y_mf N N3 := (by rw [hN2] at y2; exact (n2.mf.mu (by omega)).trans y2.mf)
          rcases z2 with ⟨z2a, ⟨z4, _⟩ | ⟨_, z4, z5, z6⟩⟩
          · omega
          · have bd5 : y_bd N4 b3 154 5 = b3 := by rw [y_bd_w, if_pos z4]
            refine ⟨mu (y_bd N4 b3) 154 13 (w32 (y_bd N4 b3 154 13 - 1)), ml N _ hN hw ?_, ((mN.trans z2a).mu (by omega)).mu (by omega), Or.inl ⟨rfl, (mx_ne (by omega)).trans bd5, _, y_rm_mu z5.bad (Or.inl rfl)⟩⟩
            have g2 := hg.2.2
            unfold Mo_readsWithin_r Mo_readsWithin_b61
            rw [l4, if_pos rfl, if_neg (by omega), n1, bd1_some, eN N N1 n2 hg, lt1_def, ← hN2, y1, bd1_some, z1, bd2_some, if_pos z4, rm_tsign_n J z5 (fun z => c41 z.2), bd2_some, if_pos rfl, rm_bad J z5, bd1_some, if_pos rfl, Mo_lays_n J.lay (by omega), bd1_some, lt1_def]
end
