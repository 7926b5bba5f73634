/-! ===== pure: part 9w: a way of a gift ===== -/
section
variable {fu : Nat} {L : zL} {M0 M M1 N : zM} {top b b1 : Int}
/-- how a reading ends, the model beside the class -/
def y_out (M0 : zM) (md d : Nat) (M M' N N' : zM) (r b' : Int) : Prop := y_mf N N' ∧ ((r = 0 ∧ N' 154 5 = b' ∧ ∃ b'', y_rm M0 N' b'') ∨ (r = 1 ∧ N' 154 5 = -1 ∧ y_rm M0 N' b' ∧ y_gr1 M0 md d M M' N N' b'))
theorem y_and_l (hf : 42000 ≤ fu) (I : y_inv L M0 top) {L' : zL} {top' : Int} (J : y_inv L' M0 top') {d : Nat} {rc : zt_Gr_readAfter} {rm : zt_Mo_readsAll} (F : y_stp M0 0 d (fun M => rc.2.2.2.1 M 9 (5 - (d : Int))) (fun N => rm.2.1 N 154)) (g0 : y_gc0 M b) :
    ∀ (k nf : Nat) (c : Int) (M1 : zM) (b1 : Int), 16 - M1 9 9 < k → k ≤ nf → 0 ≤ c → c ≤ M1 9 9 → y_rc M0 M1 b1 → y_gc1 M M1 b1 → y_gpa M M1 →
    ∃ M' r b', Gr_readAll_l12 fu rc L nf M1 9 (5 - (d : Int)) c = some (M', r) ∧ y_rc M0 M' b' ∧ (r = 0 ∨ (r = 1 ∧ y_gc1 M M' b' ∧ y_gpa M M')) ∧
      ∀ (nm : Nat) (N N1 : zM), k < nm → 0 ≤ N 159 4 → y_mf N N1 → y_rm M0 N1 b1 → N1 154 5 = -1 → N1 154 13 = 5 - (d : Int) → y_gr1 M0 1 d M M1 N N1 b1 → ∃ N', Mo_readsWay_l4 fu rm L' nm N1 154 = some N' ∧ y_out M0 1 d M M' N N' r b' := by
  have l9 : L 9 = (5, 0) := I.lay 9 (by decide)
  have l2 : L 2 = (8, 0) := I.lay 2 (by decide)
  have l4 : L' 154 = (13, 0) := J.lay 154 (by decide)
  intro k
  induction k with
  | zero =>
    intro nf c M1 b1 hk hn c0 c1 hr hc hp
    have := hc.1.2
    omega
  | succ k ih =>
    intro nf c M1 b1 hk hn c0 c1 hr hc hp
    obtain ⟨nf, rfl⟩ : ∃ n', nf = n' + 1 := ⟨nf - 1, by omega⟩
    have p0 : M1 9 0 = 2 := (hr.ptr I) (9, 0, 2) (by decide +kernel)
    have c16 := hc.1
    by_cases cw : y_W M0 10 b1
    · obtain ⟨w1, w2⟩ := y_pt_w cw
      have h12 := hc.2.2.1
      have g12 := g0.2.2
      obtain ⟨M2, t1, t2, t3, t4, t5, t6⟩ := Gr_take_y (fu := fu) (by omega) I hr (by omega) (fun z => by omega) (by omega)
      rw [if_pos (by omega), w2] at t2
      have e9 : M2 9 9 = M1 9 9 := t3 _ _ (by omega) (by omega) (by omega)
      have e10 : M2 9 10 = M1 9 10 := t3 _ _ (by omega) (by omega) (by omega)
      have hs := hc.2.1
      have g09 := g0.1
      have g010 := g0.2.1
      have gc2 : y_gc0 M2 (y_nx M0 b1) := ⟨by omega, by omega, by omega⟩
      obtain ⟨M4, r4, b4, f1, f2, f3, f4⟩ := F M2 _ t4 gc2
      have f1' : rc.2.2.2.1 M2 9 (5 - (d : Int)) = some (M4, r4) := f1
      have ew : w32 (M2 9 10 - 1) = M1 9 10 - 1 := by rw [w32_id (by omega)]; omega
      -- the model up to the fact
      have mpre : ∀ (N N1 : zM), 0 ≤ N 159 4 → y_mf N N1 → y_rm M0 N1 b1 → N1 154 5 = -1 → N1 154 13 = 5 - (d : Int) → y_gr1 M0 1 d M M1 N N1 b1 → ∃ N2 N3 N4, Mo_takesWord fu L' N1 154 26 = some (N2, 1) ∧ NOff N1 N2 ∧ Mo_lays fu L' N2 154 8 0 0 = some N3 ∧ y_ly N2 N3 8 ∧ rm.2.1 N3 154 = some N4 ∧ y_mf N1 N3 ∧ y_out M0 0 d M2 M4 N3 N4 r4 b4 := fun N N1 hN0 hmf hrm hw hdp hg => by
        obtain ⟨N2, n1, n2, n3⟩ := rm_tword_y (fu := fu) (by omega) J hrm hw (s := 26) (by decide) cw
        have hm2 : N2 159 4 = N1 159 4 := n2 _ _ (by omega)
        have g1 := hg.1.2.1
        have hb := hrm.pb I
        have hn3 := I.2.1.1.2.1
        obtain ⟨N3, y1, y2⟩ := Mo_lays_y (fu := fu) (k := 8) (l := 0) (n := 0) J.lay (n3.ptr I) (n2.w.trans hw) (by omega) (by decide) (by decide) (by decide)
        have n5 : N3 154 5 = -1 := (y2.2.2 _ _ (by omega)).trans (n2.w.trans hw)
        obtain ⟨N4, z1, z2, z3⟩ := f4 N3 (y2.rm n3) n5 ⟨by rw [y2.2.2 159 2 (by omega), n2 _ _ (by omega), hg.1.1, e9], by rw [y2.2.1, hm2]; omega, by rw [y2.2.2 154 13 (by omega), n2 _ _ (by omega)]; exact hdp⟩
        exact ⟨N2, N3, N4, n1, n2, y1, y2, z1, n2.mf.trans y2.mf, z2, z3⟩
      rcases f3 with r0 | ⟨r1, fc, fp⟩
      · refine ⟨M4, 0, b4, ?_, f2, Or.inl rfl, fun nm N N1 hnm hN0 hmf hrm hw hdp hg => ?_⟩
        · show Gr_readAll_s12 _ _ _ _ _ _ _ _ = _
          unfold Gr_readAll_s12
          rw [if_pos (by omega), l9, if_pos rfl, p0, l2, if_pos rfl, rc_word (by omega) I hr (by decide), if_pos cw, bd1_some, if_neg (by decide), t1, bd1_some, lt1_def, f1', bd2_some, if_pos r0]
        · obtain ⟨nm, rfl⟩ : ∃ n', nm = n' + 2 := ⟨nm - 2, by omega⟩
          obtain ⟨N2, N3, N4, n1, n2, y1, y2, z1, zm, z2, z3⟩ := mpre N N1 hN0 hmf hrm hw hdp hg
          rcases z3 with ⟨_, z4, b'', z5⟩ | ⟨z4, _⟩
          · have b40 := f2.pb.1
            refine ⟨N4, ?_, (hmf.trans zm).trans z2, Or.inl ⟨rfl, z4, b'', z5⟩⟩
            show Mo_readsWay_s4 _ _ _ _ _ _ = _
            unfold Mo_readsWay_s4
            rw [l4, if_pos rfl, if_pos hw, n1, bd2_some, if_neg (by decide), y1, bd1_some, z1, bd1_some]
            show Mo_readsWay_s4 _ _ _ _ _ _ = _
            unfold Mo_readsWay_s4
            rw [l4, if_pos rfl, if_neg (by omega)]
          · omega
      · have s4 := fc.2.1
        have s9 := fc.1
        obtain ⟨M5, j1, j2⟩ := Gr_noteJoint_y (fu := fu) I.lay (f2.ptr I) (show 0 ≤ M4 9 10 ∧ M4 9 10 < 31 by omega) 6 (M1 9 10 - 1)
        have rc5 := j2.rc f2
        have gc5 := y_joint_c (M4' := M4) g0 hc t3 t2 fc (fun _ _ _ _ => rfl) j2
        have e59 : M5 9 9 = M4 9 9 := j2.2.2 _ _ (by omega) (by omega)
        have gp5 : y_gpa M M5 := ⟨by rw [j2.2.2 _ _ (by omega) (by omega), fp.1, t3 _ _ (by omega) (by omega) (by omega)]; exact hp.1, funext fun i => by
          rw [j2.2.2 14 i (by omega) (by omega), fp.2, t3 14 i (by omega) (by omega) (by omega), hp.2]⟩
        obtain ⟨M', r, b', q1, q2, q3, q4⟩ := ih nf (c + 1) M5 b4 (by omega) (by omega) (by omega) (by omega) rc5 gc5 gp5
        refine ⟨M', r, b', ?_, q2, q3, fun nm N N1 hnm hN0 hmf hrm hw hdp hg => ?_⟩
        · have ec : w32 (c + 1) = c + 1 := w32_id (by omega)
          show Gr_readAll_s12 _ _ _ _ _ _ _ _ = _
          unfold Gr_readAll_s12
          rw [if_pos (by omega), l9, if_pos rfl, p0, l2, if_pos rfl, rc_word (by omega) I hr (by decide), if_pos cw, bd1_some, if_neg (by decide), t1, bd1_some, lt1_def, f1', bd2_some, if_neg (by omega), ew, j1, bd1_some, lt1_def, ec, q1]
        · obtain ⟨nm, rfl⟩ : ∃ n', nm = n' + 1 := ⟨nm - 1, by omega⟩
          obtain ⟨N2, N3, N4, n1, n2, y1, y2, z1, zm, z2, z3⟩ := mpre N N1 hN0 hmf hrm hw hdp hg
          rcases z3 with ⟨z4, _⟩ | ⟨_, z4, z5, z6⟩
          · omega
          · have g6 := y_joint_m (M4' := M4) (kd := 6) (sg := 8) (wd := [97, 110, 100]) (mdA := 1) (mdB := 0) (fun h1 h2 h3 h4 h5 h6 h7 h8 h9 => y_psg_and h1 h2 h3 h4 h5 h6 h7 h8 h9) hc t3 t2 fc (fun _ _ _ _ => rfl) j2 hN0 hg n2 y2 z6 rfl
            obtain ⟨N', v1, v2⟩ := q4 nm N N4 (by omega) hN0 ((hmf.trans zm).trans z2) z5 z4 (by rw [z6.1.2.2, y2.2.2 154 13 (by omega), n2 _ _ (by omega)]; exact hdp) g6
            refine ⟨N', ?_, v2⟩
            show Mo_readsWay_s4 _ _ _ _ _ _ = _
            unfold Mo_readsWay_s4
            rw [l4, if_pos rfl, if_pos hw, n1, bd2_some, if_neg (by decide), y1, bd1_some, z1, bd1_some, v1]
    · refine ⟨M1, 1, b1, ?_, hr, Or.inr ⟨rfl, hc, hp⟩, fun nm N N1 hnm hN0 hmf hrm hw hdp hg => ?_⟩
      · show Gr_readAll_s12 _ _ _ _ _ _ _ _ = _
        unfold Gr_readAll_s12
        rw [if_pos (by omega), l9, if_pos rfl, p0, l2, if_pos rfl, rc_word (by omega) I hr (by decide), if_neg cw, bd1_some, if_pos rfl]
      · obtain ⟨nm, rfl⟩ : ∃ n', nm = n' + 1 := ⟨nm - 1, by omega⟩
        refine ⟨N1, ?_, hmf, Or.inr ⟨rfl, hw, hrm, hg⟩⟩
        show Mo_readsWay_s4 _ _ _ _ _ _ = _
        unfold Mo_readsWay_s4
        rw [l4, if_pos rfl, if_pos hw, rm_tword_n (fu := fu) (s := 26) (by omega) J hrm (by decide) (fun z => cw z.2), bd2_some, if_pos rfl]
theorem y_gr1_01 {d : Nat} {M' N N' : zM} {b' : Int} (h : y_gr1 M0 0 d M M' N N' b') : y_gr1 M0 1 d M M' N N' b' := ⟨h.1, h.2.1, y_psg_01 h.2.2.1, h.2.2.2⟩
theorem y_gr1_12 {d : Nat} {M' N N' : zM} {b' : Int} (h : y_gr1 M0 1 d M M' N N' b') : y_gr1 M0 2 d M M' N N' b' := ⟨h.1, h.2.1, y_psg_12 h.2.2.1, h.2.2.2⟩
/-- a way, both -/
theorem y_all_y (hf : 42000 ≤ fu) (I : y_inv L M0 top) {L' : zL} {top' : Int} (J : y_inv L' M0 top') {d : Nat} {rc : zt_Gr_readAfter} {rm : zt_Mo_readsAll} (F : y_stp M0 0 d (fun M => rc.2.2.2.1 M 9 (5 - (d : Int))) (fun N => rm.2.1 N 154)) : y_stp M0 1 d (fun M => Gr_readAll_r fu rc L M 9 (5 - (d : Int))) (fun N => Mo_readsWay_r fu rm L' N 154) := by
  have l9 : L 9 = (5, 0) := I.lay 9 (by decide)
  have l4 : L' 154 = (13, 0) := J.lay 154 (by decide)
  intro M b hr g0
  obtain ⟨M1, r1, b1, f1, f2, f3, f4⟩ := F M b hr g0
  have f1' : rc.2.2.2.1 M 9 (5 - (d : Int)) = some (M1, r1) := f1
  rcases f3 with r0 | ⟨r1', fc, fp⟩
  · refine ⟨M1, 0, b1, ?_, f2, Or.inl rfl, fun N hN hw hg => ?_⟩
    · show Gr_readAll_r _ _ _ _ _ _ = _
      unfold Gr_readAll_r
      rw [l9, if_pos rfl, f1', bd2_some, if_pos r0]
    · obtain ⟨N1, z1, z2, z3⟩ := f4 N hN hw hg
      have z1' : rm.2.1 N 154 = some N1 := z1
      rcases z3 with ⟨_, z4, b'', z5⟩ | ⟨z4, _⟩
      · have b0 := f2.pb.1
        obtain ⟨f, hfu⟩ : ∃ f, fu = f + 1 := ⟨fu - 1, by omega⟩
        refine ⟨N1, ?_, z2, Or.inl ⟨rfl, z4, b'', z5⟩⟩
        show Mo_readsWay_r _ _ _ _ _ = _
        unfold Mo_readsWay_r
        rw [l4, if_pos rfl, z1', bd1_some]
        have e : ∀ f', Mo_readsWay_l4 fu rm L' (f' + 1) N1 154 = some N1 := fun f' => by
          show Mo_readsWay_s4 _ _ _ _ _ _ = _
          unfold Mo_readsWay_s4
          rw [l4, if_pos rfl, if_neg (by omega)]
        have := e f
        rw [← hfu] at this
        exact this
      · omega
  · have s9 := fc.1
    have g09 := g0.1
    obtain ⟨M', r, b', q1, q2, q3, q4⟩ := y_and_l (fu := fu) hf I J F g0 17 fu 0 M1 b1 (by omega) (by omega) (Int.le_refl 0) (by omega) f2 fc fp
    refine ⟨M', r, b', ?_, q2, q3, fun N hN hw hg => ?_⟩
    · show Gr_readAll_r _ _ _ _ _ _ = _
      unfold Gr_readAll_r
      rw [l9, if_pos rfl, f1', bd2_some, if_neg (by omega), q1]
    · obtain ⟨N1, z1, z2, z3⟩ := f4 N hN hw hg
      have z1' : rm.2.1 N 154 = some N1 := z1
      rcases z3 with ⟨z4, _⟩ | ⟨_, z4, z5, z6⟩
      · omega
      · obtain ⟨N', v1, v2, v3⟩ := q4 fu N N1 (by omega) hg.2.1.1 z2 z5 z4 (by rw [z6.1.2.2]; exact hg.2.2) (y_gr1_01 z6)
        refine ⟨N', ?_, v2, v3⟩
        show Mo_readsWay_r _ _ _ _ _ = _
        unfold Mo_readsWay_r
        rw [l4, if_pos rfl, z1', bd1_some, v1]
end
