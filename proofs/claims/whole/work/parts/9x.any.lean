/-! ===== pure: part 9x: ways of a gift ===== -/
section
variable {fu : Nat} {L : zL} {M0 M M1 N : zM} {top b b1 : Int}
theorem Gr_notePart_0 (hL : Lay L) (hP : Ptr M) (h : 0 ≤ M 9 11 ∧ M 9 11 < 16) : ∃ M', Gr_notePart fu L M 9 0 = some M' ∧ M' 14 (M 9 11) = M 9 10 ∧ M' 9 11 = M 9 11 + 1 ∧ ∀ a i, ¬ (a = 9 ∧ i = 11) → ¬ (a = 14 ∧ i = M 9 11) → M' a i = M a i := by
  have l9 : L 9 = (5, 0) := hL 9 (by decide)
  have l14 : L 14 = (101, 16) := hL 14 (by decide)
  have p5 : M 9 5 = 14 := hP (9, 5, 14) (by decide +kernel)
  have e : mu M 14 (M 9 11) (M 9 10) 9 11 = M 9 11 := mx_ne (by omega)
  refine ⟨mu (mu M 14 (M 9 11) (M 9 10)) 9 11 (M 9 11 + 1), ?_, ?_, mx_same _ _ _ _, fun a i q1 q2 => ?_⟩
  · unfold Gr_notePart
    rw [if_pos rfl, l9, if_pos rfl, if_neg (by omega), p5, l14, if_pos rfl, if_pos (show M 9 11 < ((101, 16) : Int × Int).2 from h.2), if_pos (show 0 ≤ M 9 11 ∧ M 9 11 < ((101, 16) : Int × Int).2 from h), lt1_def, e, w32_id (by omega), lt1_def]
  · rw [mx_ne (by omega), mx_same]
  · rw [mx_ne (by omega), mx_ne (by omega)]
theorem Gr_notePart_n {dp : Int} (h : dp ≠ 0) : Gr_notePart fu L M 9 dp = some M := by
  unfold Gr_notePart
  rw [if_neg h]
/-- the parts so far, the class's side: c of them -/
def y_pc (d : Nat) (M M' : zM) (c : Int) : Prop := (d < 5 → y_gpa M M') ∧ (d = 5 → M' 9 11 = c ∧ 1 ≤ c ∧ c ≤ M' 9 9)
/-- beside the model's -/
def y_pm (M0 : zM) (d : Nat) (M' N N' : zM) (c : Int) : Prop := d = 5 → ∃ sb pb : Int → Int, sb 0 = N 159 4 ∧ sb c = N' 159 4 + 1 ∧ ∀ k, 0 ≤ k → k < c → y_psg (fun x => N' 159 (5 + x)) (M' 10) (M' 11) (M' 12) (M' 13) (M0 154 20) 1 5 (sb k) (sb (k + 1) - 1) (pb k) (M' 14 k) ∧ ((N 159 4 ≤ sb k ∧ sb k < sb (k + 1) - 1 ∧ sb (k + 1) - 1 ≤ N' 159 4) ∧ (0 ≤ pb k ∧ M' 14 k ≤ M' 9 10)) ∧ (k + 1 < c → N' 159 (5 + (sb (k + 1) - 1)) = 9)
/-- a part is noted -/
theorem y_note (hL : Lay L) (hP : Ptr M1) {d : Nat} (hd : d ≤ 5) (h : d = 5 → 0 ≤ M1 9 11 ∧ M1 9 11 < 16) : ∃ M', Gr_notePart fu L M1 9 (5 - (d : Int)) = some M' ∧ (∀ a i, ¬ (a = 9 ∧ i = 11) → a ≠ 14 → M' a i = M1 a i) ∧ (d < 5 → M' = M1) ∧ (d = 5 → M' 14 (M1 9 11) = M1 9 10 ∧ M' 9 11 = M1 9 11 + 1 ∧ ∀ i, i ≠ M1 9 11 → M' 14 i = M1 14 i) := by
  by_cases c : d = 5
  · subst c
    obtain ⟨M', a1, a2, a3, a4⟩ := Gr_notePart_0 (fu := fu) hL hP (h rfl)
    exact ⟨M', a1, fun a i q1 q2 => a4 a i q1 (by omega), fun z => by omega, fun _ => ⟨a2, a3, fun i hi => a4 14 i (by omega) (by omega)⟩⟩
  · exact ⟨M1, Gr_notePart_n (by omega), fun _ _ _ _ => rfl, fun _ => rfl, fun z => absurd z c⟩
theorem y_rc_np {M' : zM} (h : y_rc M0 M1 b1) (o : ∀ a i, ¬ (a = 9 ∧ i = 11) → a ≠ 14 → M' a i = M1 a i) : y_rc M0 M' b1 := by
  refine ⟨h.1.trans fun a i c => o a i (by omega) (by omega), ?_⟩
  have t := h.2
  have e3 : M' 3 = M1 3 := funext fun i => o 3 i (by omega) (by omega)
  unfold CTok at t ⊢
  rw [e3, o 2 _ (by omega) (by omega), o 2 _ (by omega) (by omega), o 2 _ (by omega) (by omega), o 2 _ (by omega) (by omega), o 2 _ (by omega) (by omega)]
  exact t
theorem y_or_l (hf : 42000 ≤ fu) (I : y_inv L M0 top) {L' : zL} {top' : Int} (J : y_inv L' M0 top') {d : Nat} (hd : d ≤ 5) {rc : zt_Gr_readAfter} {rm : zt_Mo_readsAll} (F : y_stp M0 1 d (fun M => rc.2.1 M 9 (5 - (d : Int))) (fun N => rm.2.2.1 N 154)) (g0 : y_gc0 M b) :
    ∀ (k nf : Nat) (c ct : Int) (M1 : zM) (b1 : Int), 16 - M1 9 9 < k → k ≤ nf → 0 ≤ c → c ≤ M1 9 9 → y_rc M0 M1 b1 → y_gc1 M M1 b1 → y_pc d M M1 ct →
    ∃ M' r b' ct', Gr_readAny_l22 fu rc L nf M1 9 (5 - (d : Int)) c = some (M', r) ∧ y_rc M0 M' b' ∧ (r = 0 ∨ (r = 1 ∧ y_gc1 M M' b' ∧ y_pc d M M' ct')) ∧
      ∀ (nm : Nat) (N N1 : zM), k < nm → 0 ≤ N 159 4 → 0 ≤ ct → ct ≤ M1 9 9 → y_mf N N1 → y_rm M0 N1 b1 → N1 154 5 = -1 → N1 154 13 = 5 - (d : Int) → y_gr1 M0 2 d M M1 N N1 b1 → y_pm M0 d M1 N N1 ct → ∃ N' cm, Mo_readsAll_l6 fu rm L' nm N1 154 ct = some (N', cm) ∧ y_out M0 2 d M M' N N' r b' ∧ (r = 1 → cm = ct' ∧ y_pm M0 d M' N N' ct') := by
  have l9 : L 9 = (5, 0) := I.lay 9 (by decide)
  have l2 : L 2 = (8, 0) := I.lay 2 (by decide)
  have l4 : L' 154 = (13, 0) := J.lay 154 (by decide)
  intro k
  induction k with
  | zero =>
    intro nf c ct M1 b1 hk hn c0 c1 hr hc hp
    have := hc.1.2
    omega
  | succ k ih =>
    intro nf c ct M1 b1 hk hn c0 c1 hr hc hp
    obtain ⟨nf, rfl⟩ : ∃ n', nf = n' + 1 := ⟨nf - 1, by omega⟩
    have p0 : M1 9 0 = 2 := (hr.ptr I) (9, 0, 2) (by decide +kernel)
    have c16 := hc.1
    by_cases cw : y_W M0 11 b1
    · obtain ⟨w1, w2⟩ := y_pt_w cw
      have h12 := hc.2.2.1
      have g12 := g0.2.2
      obtain ⟨M2, t1, t2, t3, t4, t5, t6⟩ := Gr_take_y (fu := fu) (by omega) I hr (by omega) (fun z => by omega) (by omega)
      rw [if_pos (by omega), w2] at t2
      have e9 : M2 9 9 = M1 9 9 := t3 _ _ (by omega) (by omega) (by omega)
      have e10 : M2 9 10 = M1 9 10 := t3 _ _ (by omega) (by omega) (by omega)
      have e11 : M2 9 11 = M1 9 11 := t3 _ _ (by omega) (by omega) (by omega)
      have e14 : M2 14 = M1 14 := funext fun i => t3 _ _ (by omega) (by omega) (by omega)
      have hs := hc.2.1
      have g09 := g0.1
      have g010 := g0.2.1
      have gc2 : y_gc0 M2 (y_nx M0 b1) := ⟨by omega, by omega, by omega⟩
      obtain ⟨M4, r4, b4, f1, f2, f3, f4⟩ := F M2 _ t4 gc2
      have f1' : rc.2.1 M2 9 (5 - (d : Int)) = some (M4, r4) := f1
      have ew : w32 (M2 9 10 - 1) = M1 9 10 - 1 := by rw [w32_id (by omega)]; omega
      have mpre : ∀ (N N1 : zM), 0 ≤ N 159 4 → y_mf N N1 → y_rm M0 N1 b1 → N1 154 5 = -1 → N1 154 13 = 5 - (d : Int) → y_gr1 M0 2 d M M1 N N1 b1 → ∃ N2 N3 N4, Mo_takesWord fu L' N1 154 27 = some (N2, 1) ∧ NOff N1 N2 ∧ Mo_lays fu L' N2 154 9 0 0 = some N3 ∧ y_ly N2 N3 9 ∧ rm.2.2.1 N3 154 = some N4 ∧ y_mf N1 N3 ∧ y_out M0 1 d M2 M4 N3 N4 r4 b4 := fun N N1 hN0 hmf hrm hw hdp hg => by
        obtain ⟨N2, n1, n2, n3⟩ := rm_tword_y (fu := fu) (by omega) J hrm hw (s := 27) (by decide) cw
        have hm2 : N2 159 4 = N1 159 4 := n2 _ _ (by omega)
        have g1 := hg.1.2.1
        have hb := hrm.pb I
        have hn3 := I.2.1.1.2.1
        obtain ⟨N3, y1, y2⟩ := Mo_lays_y (fu := fu) (k := 9) (l := 0) (n := 0) J.lay (n3.ptr I) (n2.w.trans hw) (by omega) (by decide) (by decide) (by decide)
        have n5 : N3 154 5 = -1 := (y2.2.2 _ _ (by omega)).trans (n2.w.trans hw)
        obtain ⟨N4, z1, z2, z3⟩ := f4 N3 (y2.rm n3) n5 ⟨by rw [y2.2.2 159 2 (by omega), n2 _ _ (by omega), hg.1.1, e9], by rw [y2.2.1, hm2]; omega, by rw [y2.2.2 154 13 (by omega), n2 _ _ (by omega)]; exact hdp⟩
        exact ⟨N2, N3, N4, n1, n2, y1, y2, z1, n2.mf.trans y2.mf, z2, z3⟩
      rcases f3 with r0 | ⟨r1, fc, fp⟩
      · refine ⟨M4, 0, b4, 0, ?_, f2, Or.inl rfl, fun nm N N1 hnm hN0 hct hct2 hmf hrm hw hdp hg hpm => ?_⟩
        · show Gr_readAny_s22 _ _ _ _ _ _ _ _ = _
          unfold Gr_readAny_s22
          rw [if_pos (by omega), l9, if_pos rfl, p0, l2, if_pos rfl, rc_word (by omega) I hr (by decide), if_pos cw, bd1_some, if_neg (by decide), t1, bd1_some, lt1_def, f1', bd2_some, if_pos r0]
        · obtain ⟨nm, rfl⟩ : ∃ n', nm = n' + 2 := ⟨nm - 2, by omega⟩
          obtain ⟨N2, N3, N4, n1, n2, y1, y2, z1, zm, z2, z3⟩ := mpre N N1 hN0 hmf hrm hw hdp hg
          rcases z3 with ⟨_, z4, b'', z5⟩ | ⟨z4, _⟩
          · have b40 := f2.pb.1
            refine ⟨N4, w32 (ct + 1), ?_, ⟨(hmf.trans zm).trans z2, Or.inl ⟨rfl, z4, b'', z5⟩⟩, fun z => by omega⟩
            show Mo_readsAll_s6 _ _ _ _ _ _ _ = _
            unfold Mo_readsAll_s6
            rw [l4, if_pos rfl, if_pos hw, n1, bd2_some, if_neg (by decide), y1, bd1_some, z1, bd1_some, lt1_def]
            show Mo_readsAll_s6 _ _ _ _ _ _ _ = _
            unfold Mo_readsAll_s6
            rw [l4, if_pos rfl, if_neg (by omega)]
          · omega
      · have s4 := fc.2.1
        have s9 := fc.1
        have hpc5 := hp.2
        obtain ⟨M4', np1, np2, np3, np4⟩ := y_note (fu := fu) I.lay (f2.ptr I) hd (fun z => by
          have := hpc5 z
          rw [fp.1, e11]; omega)
        have rc4 := y_rc_np f2 np2
        have p10 : M4' 9 10 = M4 9 10 := np2 _ _ (by omega) (by omega)
        obtain ⟨M5, j1, j2⟩ := Gr_noteJoint_y (fu := fu) I.lay (rc4.ptr I) (show 0 ≤ M4' 9 10 ∧ M4' 9 10 < 31 by omega) 7 (M1 9 10 - 1)
        have rc5 := j2.rc rc4
        have gc5 := y_joint_c (M4' := M4') g0 hc t3 t2 fc np2 j2
        have e59 : M5 9 9 = M4 9 9 := (j2.2.2 _ _ (by omega) (by omega)).trans (np2 _ _ (by omega) (by omega))
        have e511 : M5 9 11 = M4' 9 11 := j2.2.2 _ _ (by omega) (by omega)
        have e514 : M5 14 = M4' 14 := funext fun i => j2.2.2 _ _ (by omega) (by omega)
        have pc5 : y_pc d M M5 (ct + 1) := by
          refine ⟨fun z => ?_, fun z => ?_⟩
          · have h1 := hp.1 z
            unfold y_gpa
            rw [e511, e514, np3 z, fp.1, fp.2, e11, e14]
            exact h1
          · have h1 := hp.2 z
            obtain ⟨q1, q2, q3⟩ := np4 z
            rw [e511, q2, fp.1, e11, e59]; omega
        obtain ⟨M', r, b', ct', q1, q2, q3, q4⟩ := ih nf (c + 1) (ct + 1) M5 b4 (by omega) (by omega) (by omega) (by omega) rc5 gc5 pc5
        refine ⟨M', r, b', ct', ?_, q2, q3, fun nm N N1 hnm hN0 hct hct2 hmf hrm hw hdp hg hpm => ?_⟩
        · have ec : w32 (c + 1) = c + 1 := w32_id (by omega)
          show Gr_readAny_s22 _ _ _ _ _ _ _ _ = _
          unfold Gr_readAny_s22
          rw [if_pos (by omega), l9, if_pos rfl, p0, l2, if_pos rfl, rc_word (by omega) I hr (by decide), if_pos cw, bd1_some, if_neg (by decide), t1, bd1_some, lt1_def, f1', bd2_some, if_neg (by omega), np1, bd1_some, ew, j1, bd1_some, lt1_def, ec, q1]
        · obtain ⟨nm, rfl⟩ : ∃ n', nm = n' + 1 := ⟨nm - 1, by omega⟩
          obtain ⟨N2, N3, N4, n1, n2, y1, y2, z1, zm, z2, z3⟩ := mpre N N1 hN0 hmf hrm hw hdp hg
          rcases z3 with ⟨z4, _⟩ | ⟨_, z4, z5, z6⟩
          · omega
          · have g6 := y_joint_m (M4' := M4') (kd := 7) (sg := 9) (wd := [111, 114]) (mdA := 2) (mdB := 1) (fun h1 h2 h3 h4 h5 h6 h7 h8 h9 => y_psg_or h1 h2 h3 h4 h5 h6 h7 h8 h9) hc t3 t2 fc np2 j2 hN0 hg n2 y2 z6 rfl
            have m2 : N2 159 4 = N1 159 4 := n2 _ _ (by omega)
            have m3 : N3 159 4 = N1 159 4 + 1 := by rw [y2.2.1, m2]
            have g1 := hg.1.2.1
            have g61 := z6.1.2.1
            have pm5 : y_pm M0 d M5 N N4 (ct + 1) := fun z => by
              obtain ⟨sb, pb, x1, x2, x3⟩ := hpm z
              obtain ⟨n5a, n5b, n5c⟩ := np4 z
              have h1 := hp.2 z
              have e4 : M4 9 11 = ct := by rw [fp.1, e11]; exact h1.1
              rw [e4] at n5a n5c
              have s41 : ∀ x, 0 ≤ x → x < N1 159 4 → N4 159 (5 + x) = N1 159 (5 + x) := fun x x0 x1 => by
                rw [z6.2.1 (5 + x) (by omega), y2.2.2 159 (5 + x) (by omega), n2 _ _ (by omega)]
              have s4m : N4 159 (5 + N1 159 4) = 9 := by
                rw [z6.2.1 _ (by omega), ← m2]; exact y2.1
              have k51 : ∀ x a, 10 ≤ a ∧ a ≤ 13 → x < M1 9 10 → M5 a x = M1 a x := fun x a ha hx => (j2.2.2 a x (by omega) (by omega)).trans ((np2 a x (by omega) (by omega)).trans ((fc.2.2.2 a x (by omega) (by omega) (by omega) (by omega) (by omega)).trans (t3 a x (by omega) (by omega) (by omega))))
              have k54 : ∀ x a, 10 ≤ a ∧ a ≤ 13 → x < M4 9 10 → M5 a x = M4 a x := fun x a ha hx => (j2.2.2 a x (by omega) (by omega)).trans (np2 a x (by omega) (by omega))
              have m5 : M5 9 10 = M4 9 10 + 1 := by rw [j2.2.1, p10]
              refine ⟨iupd sb (ct + 1) (N4 159 4 + 1), iupd pb ct (M1 9 10), ?_, iupd_s _ _ _, fun q q0 q1 => ?_⟩
              · rw [iupd_n (by omega)]; exact x1
              · by_cases cq : q = ct
                · rw [cq, iupd_s, iupd_n (by omega), x2, iupd_s, e514, n5a, show N4 159 4 + 1 - 1 = N4 159 4 by omega]
                  refine ⟨?_, by omega, fun w => by omega⟩
                  rw [← m3, ← e10]
                  have hz : y_psg (fun x => N4 159 (5 + x)) (M5 10) (M5 11) (M5 12) (M5 13) (M0 154 20) 1 d (N3 159 4) (N4 159 4) (M2 9 10) (M4 9 10) := z6.2.2.1.ext (fun x x0 x1 => rfl) (fun x x0 x1 => ⟨k54 x 10 (by decide) x1, k54 x 11 (by decide) x1, k54 x 12 (by decide) x1, k54 x 13 (by decide) x1⟩)
                  rw [z] at hz
                  exact hz
                · obtain ⟨u1, u2, u3⟩ := x3 q q0 (by omega)
                  rw [iupd_n (j := q) (by omega), iupd_n (j := q + 1) (by omega), iupd_n (j := q) (by omega), e514, n5c q cq, fp.2, e14]
                  refine ⟨u1.ext (fun x x0 x1 => s41 x (by omega) (by omega)) (fun x x0 x1 => ⟨k51 x 10 (by decide) (by omega), k51 x 11 (by decide) (by omega), k51 x 12 (by decide) (by omega), k51 x 13 (by decide) (by omega)⟩), by omega, fun w => ?_⟩
                  by_cases cl : q + 1 = ct
                  · rw [cl, x2, show N1 159 4 + 1 - 1 = N1 159 4 by omega]; exact s4m
                  · have nq := (x3 (q + 1) (by omega) (by omega)).2.1.1
                    rw [s41 _ (by omega) (by omega)]; exact u3 (by omega)
            have ect : w32 (ct + 1) = ct + 1 := w32_id (by omega)
            obtain ⟨N', cm, v1, v2, v3⟩ := q4 nm N N4 (by omega) hN0 (by omega) (by omega) ((hmf.trans zm).trans z2) z5 z4 (by rw [z6.1.2.2, y2.2.2 154 13 (by omega), n2 _ _ (by omega)]; exact hdp) g6 pm5
            refine ⟨N', cm, ?_, v2, v3⟩
            show Mo_readsAll_s6 _ _ _ _ _ _ _ = _
            unfold Mo_readsAll_s6
            rw [l4, if_pos rfl, if_pos hw, n1, bd2_some, if_neg (by decide), y1, bd1_some, z1, bd1_some, lt1_def, ect, v1]
    · refine ⟨M1, 1, b1, ct, ?_, hr, Or.inr ⟨rfl, hc, hp⟩, fun nm N N1 hnm hN0 hct hct2 hmf hrm hw hdp hg hpm => ?_⟩
      · show Gr_readAny_s22 _ _ _ _ _ _ _ _ = _
        unfold Gr_readAny_s22
        rw [if_pos (by omega), l9, if_pos rfl, p0, l2, if_pos rfl, rc_word (by omega) I hr (by decide), if_neg cw, bd1_some, if_pos rfl]
      · obtain ⟨nm, rfl⟩ : ∃ n', nm = n' + 1 := ⟨nm - 1, by omega⟩
        refine ⟨N1, ct, ?_, ⟨hmf, Or.inr ⟨rfl, hw, hrm, hg⟩⟩, fun _ => ⟨rfl, hpm⟩⟩
        show Mo_readsAll_s6 _ _ _ _ _ _ _ = _
        unfold Mo_readsAll_s6
        rw [l4, if_pos rfl, if_pos hw, rm_tword_n (fu := fu) (s := 27) (by omega) J hrm (by decide) (fun z => cw z.2), bd2_some, if_pos rfl]
end
