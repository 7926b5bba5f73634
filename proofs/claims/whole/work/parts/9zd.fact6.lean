/-! ===== pure: part 9zd: facts, after; facts as a whole ===== -/
section
variable {fu : Nat} {L : zL} {M0 M M1 N N1 N2 : zM} {top b b1 : Int}
abbrev y_xa (fu : Nat) (rec : zt_Mo_readsAll) (L : zL) (M39 : zM) : Option zM :=
  lt1 (mu M39 154 13 (w32 ((M39 154 13) + 1))) fun M51 => (bd2 (Mo_takesNumber fu L M51 154 99) fun M54 r53 => (bd1 (Mo_lays fu L M54 154 5 0 r53) fun M56 => (if ((M56 154 5) : Int) = (-1) then (bd1 (rec.2.1 M56 154) fun M58 => (lt1 (mu M58 154 13 (w32 ((M58 154 13) - 1))) fun M60 => (some M60))) else (lt1 (mu M56 154 13 (w32 ((M56 154 13) - 1))) fun M62 => (some M62)))))
theorem y_xf_25 (hf : 42000 ≤ fu) (I : y_inv L M0 top) {rm : zt_Mo_readsAll} (h : y_1n N N1) (hN : y_rm M0 N1 b) (hw : N 154 5 = -1) (c : y_W M0 25 b) : ∃ N2, y_1n N N2 ∧ y_rm M0 N2 (y_nx M0 b) ∧ y_xf fu rm L N1 = y_xa fu rm L N2 := by
  obtain ⟨N2, n1, n2, n3⟩ := rm_tword_y (fu := fu) (s := 25) (by omega) I hN (h.2.2.1.trans hw) (by decide) c
  refine ⟨N2, h.no n2, n3, ?_⟩
  unfold y_xf
  rw [rm_tword_n (fu := fu) (s := 21) (by omega) I hN (by decide) (fun z => y_W_ne z.2 (by decide) c), bd2_some, if_pos rfl, rm_tword_n (fu := fu) (s := 22) (by omega) I hN (by decide) (fun z => y_W_ne z.2 (by decide) c), bd2_some, if_pos rfl, rm_tword_n (fu := fu) (s := 23) (by omega) I hN (by decide) (fun z => y_W_ne z.2 (by decide) c), bd2_some, if_pos rfl, rm_tword_n (fu := fu) (s := 24) (by omega) I hN (by decide) (fun z => y_W_ne z.2 (by decide) c), bd2_some, if_pos rfl, n1, bd2_some, if_neg (by decide)]
theorem y_tsg_5 {nm : Int → Int} {V : Int} (hV : 0 ≤ V) : y_tsg nm (10000 * V + 100 * 0 + 5) = [97, 102, 116, 101, 114, 32] ++ y_num V := by
  unfold y_tsg
  rw [if_neg (by omega), if_neg (by omega), if_neg (by omega), if_neg (by omega), if_neg (by omega), if_pos (by omega), show (10000 * V + 100 * 0 + 5) / 10000 = V by omega]
theorem y_fact_a (hf : 42000 ≤ fu) (I : y_inv L M0 top) {L' : zL} {top' : Int} (J : y_inv L' M0 top') {d : Nat} (hd : d ≤ 5) {rc rc2 : zt_Gr_readAfter} {rm : zt_Mo_readsAll} (hAf : rc.1 = Gr_readAfter_r fu rc2 L)
    (Fa : ∀ d', d = d' + 1 → y_stp M0 0 d' (fun M => rc2.2.2.2.1 M 9 (5 - (d' : Int))) (fun N => rm.2.1 N 154))
    (hr : y_rc M0 M b) (g0 : y_gc0 M b) (c : ¬ y_G M0 40 b) (h16 : M 9 9 < 16) (w5 : y_W M0 5 b) :
    y_bdy M0 0 d (fun M => Gr_readFact_r fu rc L M 9 (5 - (d : Int))) (fun N => Mo_readsFact_r fu rm L' N 154) M b := by
  have l9 : L 9 = (5, 0) := I.lay 9 (by decide)
  have l2 : L 2 = (8, 0) := I.lay 2 (by decide)
  have l4 : L' 154 = (13, 0) := J.lay 154 (by decide)
  have g1 := g0.1
  have g2 := g0.2.1
  have g3 := g0.2.2
  have hn3 := I.2.1.1.2.1
  have pb := hr.pb
  have hc := (y_cfact (fu := fu) hf I (rc := rc) (dp := 5 - (d : Int)) hr c g1.1).2 h16
  rw [if_pos w5, hAf] at hc
  have hA := y_sa0_rc hr
  have sA := y_sa0 M
  generalize hAe : mu M 9 9 (M 9 9 + 1) = A at hc hA sA
  have a12 : A 9 12 = M 9 12 := by rw [← hAe]; exact mx_ne (by omega)
  have hfb : y_fb M0 b := Or.inr (Or.inr (Or.inr (Or.inr (Or.inr w5))))
  have cl : ∀ R r, Gr_readAfter_r fu rc2 L A 9 (5 - (d : Int)) = some (R, r) → Gr_readFact_r fu rc L M 9 (5 - (d : Int)) = some (R, r) := fun R r e => by
    rw [hc, e, bd2_some]
  by_cases d0 : d = 0
  · subst d0
    refine ⟨A, 0, b, ?_, hA, Or.inl rfl, fun N hN hw hg => ?_⟩
    · apply cl
      unfold Gr_readAfter_r
      rw [if_neg (show ¬ (5 - ((0 : Nat) : Int)) < 5 by omega)]
    · have h13 : N 154 13 = 5 := by have := hg.2.2; omega
      exact ⟨y_bd N b, (y_mfact (fu := fu) (rm := rm) hf J hN hw c).2.1 hfb w5 h13, (y_mf.refl N).mu (by omega), Or.inl ⟨rfl, by rw [y_bd_w, if_pos hw], _, hN.bad⟩⟩
  · obtain ⟨d', rfl⟩ : ∃ d', d = d' + 1 := ⟨d - 1, by omega⟩
    obtain ⟨v1, v2⟩ := y_pt_w w5
    obtain ⟨M2, t1, t2, t3, t4, t5, t6⟩ := Gr_take_y (fu := fu) (by omega) I hA (by omega) (fun z => by omega) (by rw [a12]; omega)
    rw [if_pos (by omega), v2] at t2
    have s2 := sA.take t3 t2
    have p20 : M2 9 0 = 2 := (t4.ptr I) (9, 0, 2) (by decide +kernel)
    have rn := rc_num (fu := fu) I t4 (lo := 0) (m := 99) (by decide) (by decide)
    have pb2 := t4.pb
    -- the model up to the number
    have mpre : ∀ N, y_rm M0 N b → N 154 5 = -1 → y_gr0 (d' + 1) M N b → ∃ N2, y_1n N N2 ∧ y_rm M0 N2 (y_nx M0 b) ∧ Mo_readsFact_r fu rm L' N 154 = y_xa fu rm L' N2 ∧ w32 (N2 154 13 + 1) = N 154 13 + 1 := fun N hN hw hg => by
      have h13 := hg.2.2
      obtain ⟨N1, x1, x2, x3⟩ := y_b121 (fu := fu) (rm := rm) J hN hw (by have := hg.1; omega)
      obtain ⟨N2, y1, y2, y3⟩ := y_xf_25 (fu := fu) (rm := rm) (L := L') hf J x1 x2 hw w5
      refine ⟨N2, y1, y2, ?_, by rw [y1.2.1, w32_id (by omega)]⟩
      rw [(y_mfact (fu := fu) (rm := rm) hf J hN hw c).2.2 hfb (fun z => by omega), x3]; exact y3
    by_cases cn : y_N M0 99 (y_nx M0 b)
    · have e7 := rn.2 cn
      have hn := of_decide_eq_true cn
      have vb := tkV_b hn.1 hn.2.1
      have v99 : y_V M0 (y_nx M0 b) ≤ 99 := hn.2.2
      obtain ⟨k1, k2⟩ := y_pt_n cn
      obtain ⟨M8, u1, u2, u3, u4, u5, u6⟩ := Gr_take_y (fu := fu) (by omega) I t4 (by omega) (fun _ => cn) (by omega)
      rw [if_pos (by omega), k2] at u2
      have s8 := s2.take u3 u2
      have pb3 := u4.pb
      have e89 : M8 9 9 = M 9 9 + 1 := s8.1.1
      have e810 : M8 9 10 = M 9 10 := s8.1.2
      have gc8 : y_gc0 M8 (y_nx M0 (y_nx M0 b)) := ⟨by omega, by omega, by omega⟩
      obtain ⟨M3, r3, b3, f1, f2, f3, f4⟩ := Fa d' rfl M8 _ u4 gc8
      have f1' : rc2.2.2.2.1 M8 9 (5 - (d' : Int)) = some (M3, r3) := f1
      have edp : w32 (5 - ((d' + 1 : Nat) : Int) + 1) = 5 - (d' : Int) := by rw [w32_id (by omega)]; omega
      have chead : Gr_readAfter_r fu rc2 L A 9 (5 - ((d' + 1 : Nat) : Int)) = if r3 = 0 then some (M3, 0) else bd1 (Gr_noteStep fu L M3 9 5 (y_V M0 (y_nx M0 b)) (-1)) fun M13 => some (M13, 1) := by
        unfold Gr_readAfter_r
        rw [if_pos (by omega), l9, if_pos rfl, t1, bd1_some, p20, l2, if_pos rfl, e7, lt1_def, rn.1, if_pos ⟨cn, vb.1⟩, bd1_some, if_neg (by decide), u1, bd1_some, edp, f1', bd2_some]
      -- the model up to the fact
      have mnum : ∀ N, y_rm M0 N b → N 154 5 = -1 → y_gr0 (d' + 1) M N b → ∃ N4 N5, Mo_readsFact_r fu rm L' N 154 = some (mu N5 154 13 (w32 (N5 154 13 - 1))) ∧ y_mf N N5 ∧ ((N4 159 4 = N 159 4 + 1 ∧ N4 159 (5 + N 159 4) = 10000 * y_V M0 (y_nx M0 b) + 100 * 0 + 5 ∧ ∀ x, ¬ (x = 2 ∨ x = 4 ∨ x = 5 + N 159 4) → N4 159 x = N 159 x) ∧ N4 154 13 = N 154 13 + 1) ∧ ((r3 = 0 ∧ N5 154 5 = b3 ∧ ∃ b'', y_rm M0 N5 b'') ∨ (r3 = 1 ∧ N5 154 5 = -1 ∧ y_rm M0 N5 b3 ∧ y_gr1 M0 0 d' M8 M3 N4 N5 b3)) := fun N hN hw hg => by
        obtain ⟨N2, y1, y2, y3, y4⟩ := mpre N hN hw hg
        have hg2 := hg.2.1
        have hg3 := hg.2.2
        have hg1 := hg.1
        have yD : y_rm M0 (mu N2 154 13 (N 154 13 + 1)) (y_nx M0 b) := y_rm_mu y2 (Or.inl rfl)
        have wD : mu N2 154 13 (N 154 13 + 1) 154 5 = -1 := (mx_ne (by omega)).trans (y1.2.2.1.trans hw)
        obtain ⟨N3, n1, n2, n3⟩ := rm_tnum_y (fu := fu) (by omega) J yD wD cn
        have e34 : N3 159 4 = N 159 4 := (n2 _ _ (by omega)).trans ((mx_ne (by omega)).trans (y1.1.2 4 (by decide)))
        obtain ⟨N4, z1, z2⟩ := Mo_lays_y (fu := fu) (N := N3) (k := 5) (l := 0) (n := y_V M0 (y_nx M0 b)) J.lay (n3.ptr I) (n2.w.trans wD) (by rw [e34]; omega) (by decide) (by decide) ⟨vb.1, v99⟩
        have zz1 := z2.1
        have zz2 := z2.2.1
        have zz3 := z2.2.2
        rw [e34] at zz1 zz2 zz3
        have q2 : N4 159 2 = N 159 2 + 1 := (zz3 _ _ (by omega)).trans ((n2 _ _ (by omega)).trans ((mx_ne (by omega)).trans y1.1.1))
        have q13 : N4 154 13 = N 154 13 + 1 := (zz3 _ _ (by omega)).trans ((n2 _ _ (by omega)).trans (mx_same _ _ _ _))
        have q5 : N4 154 5 = -1 := (zz3 _ _ (by omega)).trans (n2.w.trans wD)
        obtain ⟨N5, w1, w2, w3⟩ := f4 N4 (z2.rm n3) q5 ⟨by omega, by omega, by omega⟩
        have w1' : rm.2.1 N4 154 = some N5 := w1
        refine ⟨N4, N5, ?_, ?_, ⟨⟨zz2, zz1, fun x hx => ?_⟩, q13⟩, w3⟩
        · rw [y3]
          unfold y_xa
          rw [y4, lt1_def, n1, bd2_some, z1, bd1_some, if_pos q5, w1', bd1_some, lt1_def]
        · exact (((y1.2.2.2.mu (by omega)).trans n2.mf).trans z2.mf).trans w2
        · exact (zz3 _ _ (by omega)).trans ((n2 _ _ (by omega)).trans ((mx_ne (by omega)).trans (y1.1.2 x (by omega))))
      rcases f3 with r0 | ⟨r1, fc, fp⟩
      · refine ⟨M3, 0, b3, cl _ _ (by rw [chead, if_pos r0]), f2, Or.inl rfl, fun N hN hw hg => ?_⟩
        obtain ⟨N4, N5, y1, y2, _, y4⟩ := mnum N hN hw hg
        rcases y4 with ⟨_, y5, b'', y6⟩ | ⟨y5, _⟩
        · exact ⟨_, y1, y2.mu (by omega), Or.inl ⟨rfl, (mx_ne (by omega)).trans y5, b'', y_rm_mu y6 (Or.inl rfl)⟩⟩
        · omega
      · have c9 := fc.1
        have c10 := fc.2.1
        have c12 := fc.2.2.1
        have cf := fc.2.2.2
        obtain ⟨M5, n1, n2⟩ := Gr_noteStep_y (fu := fu) I.lay (f2.ptr I) (show 0 ≤ M3 9 10 ∧ M3 9 10 < 31 by omega) 5 (y_V M0 (y_nx M0 b)) (-1)
        have n2r := n2.rc f2
        obtain ⟨⟨m1, m2, m3, m4⟩, m5, m6⟩ := n2
        have e12 : M5 9 12 = M3 9 12 := m6 _ _ (by omega) (by omega)
        have e9 : M5 9 9 = M3 9 9 := m6 _ _ (by omega) (by omega)
        have e15 : ∀ x, M5 15 x = M3 15 x := fun x => m6 _ _ (by omega) (by omega)
        have sf := s8.2.2
        have st := s8.2.1
        have st1 := st.1
        refine ⟨M5, 1, b3, cl _ _ (by rw [chead, if_neg (by omega), n1, bd1_some]), n2r, Or.inr ⟨rfl, ⟨by omega, by omega, by omega, fun a i q1 q2 q3 q4 q5 => ?_⟩, ?_, funext fun i => ?_⟩, fun N hN hw hg => ?_⟩
        · rw [m6 a i (by omega) (by omega), cf a i q1 (by omega) (by omega) q4 (by omega)]
          by_cases c15 : a = 15
          · rw [c15]; exact st.2.1 i (by omega)
          · exact sf a i q1 (by omega) c15
        · rw [m6 _ _ (by omega) (by omega), fp.1, sf _ _ (by omega) (by omega) (by omega)]
        · rw [m6 _ _ (by omega) (by omega), fp.2, sf _ _ (by omega) (by omega) (by omega)]
        · obtain ⟨N4, N5, y1, y2, ⟨⟨x1, x2, x3⟩, x4⟩, y4⟩ := mnum N hN hw hg
          have hg2 := hg.2.1
          have hg3 := hg.2.2
          rcases y4 with ⟨y5, _⟩ | ⟨_, y5, y6, ⟨⟨z1, z2, z3⟩, z4, z5, z6⟩⟩
          · omega
          · have ed : w32 (N5 154 13 - 1) = N 154 13 := by rw [z3, x4, w32_id (by omega)]; omega
            have e59 : ∀ x, mu N5 154 13 (N 154 13) 159 x = N5 159 x := fun x => mx_ne (by omega)
            have si : N5 159 (5 + N 159 4) = 10000 * y_V M0 (y_nx M0 b) + 100 * 0 + 5 := (z4 _ (by omega)).trans x2
            have r5 : ∀ a, 10 ≤ a ∧ a ≤ 13 → ∀ x, x < M3 9 10 → M5 a x = M3 a x := fun a ha x hx => m6 _ _ (by omega) (by omega)
            refine ⟨_, y1, y2.mu (by omega), Or.inr ⟨rfl, (mx_ne (by omega)).trans y5, y_rm_mu y6 (Or.inl rfl), ⟨?_, ?_, ?_⟩, fun x hx => ?_, ?_, ?_⟩⟩
            · rw [ed, e59]; omega
            · rw [ed, e59]; omega
            · rw [ed]; exact mx_same _ _ _ _
            · rw [ed, e59, z4 x (by omega)]; exact x3 x (by omega)
            · rw [ed]
              show y_psg (fun x => mu N5 154 13 (N 154 13) 159 (5 + x)) _ _ _ _ _ _ _ _ (mu N5 154 13 (N 154 13) 159 4) _ _
              rw [e59, m5]
              rw [x1, e810] at z5
              refine y_psg_a (n := y_V M0 (y_nx M0 b)) (z5.ext (fun x _ _ => e59 _) (fun x h1 h2 => ⟨r5 10 (by decide) x h2, r5 11 (by decide) x h2, r5 12 (by decide) x h2, r5 13 (by decide) x h2⟩)) (by omega) (by omega) vb.1 v99 hg2.1 ?_ m1 m2
              show mu N5 154 13 (N 154 13) 159 (5 + N 159 4) = _
              rw [e59, si]; omega
            · rw [ed]
              have tt := st.trans z6
              have tt5 : y_tq M M5 (((([] : List Int) ++ ([32] ++ (zstr.getD 5 []).map (fun (c : Nat) => (c : Int)))) ++ ([32] ++ y_num (y_V M0 (y_nx M0 b)))) ++ y_tsl (M0 163) (fun x => N5 159 (5 + x)) (N5 159 4 - N4 159 4).toNat (N4 159 4)) := by
                obtain ⟨p1, p2, p3⟩ := tt
                exact ⟨e12.trans p1, fun x hx => (e15 x).trans (p2 x hx), fun x hx => (e15 _).trans (p3 x hx)⟩
              have el : y_tsl (M0 163) (fun x => mu N5 154 13 (N 154 13) 159 (5 + x)) (mu N5 154 13 (N 154 13) 159 4 - N 159 4).toNat (N 159 4) = ((([] : List Int) ++ ([32] ++ (zstr.getD 5 []).map (fun (c : Nat) => (c : Int)))) ++ ([32] ++ y_num (y_V M0 (y_nx M0 b)))) ++ y_tsl (M0 163) (fun x => N5 159 (5 + x)) (N5 159 4 - N4 159 4).toNat (N4 159 4) := by
                rw [e59, show (N5 159 4 - N 159 4).toNat = 1 + (N5 159 4 - N4 159 4).toNat by omega, y_tsl_app, y_tsl_1]
                show 32 :: y_tsg (M0 163) (mu N5 154 13 (N 154 13) 159 (5 + N 159 4)) ++ y_tsl (M0 163) _ _ (N 159 4 + ((1 : Nat) : Int)) = _
                rw [e59, si, y_tsg_5 vb.1, show N 159 4 + ((1 : Nat) : Int) = N4 159 4 by omega, y_tsl_congr (S := fun x => N5 159 (5 + x)) _ _ (fun x x0 x1 => e59 _)]
                rfl
              rw [el]; exact tt5
    · refine ⟨M2, 0, y_nx M0 b, cl _ _ ?_, t4, Or.inl rfl, fun N hN hw hg => ?_⟩
      · unfold Gr_readAfter_r
        rw [if_pos (by omega), l9, if_pos rfl, t1, bd1_some, p20, l2, if_pos rfl, lt1_def, rn.1, if_neg (fun z => cn z.1), bd1_some, if_pos rfl]
      · obtain ⟨N2, y1, y2, y3, y4⟩ := mpre N hN hw hg
        have yD : y_rm M0 (mu N2 154 13 (N 154 13 + 1)) (y_nx M0 b) := y_rm_mu y2 (Or.inl rfl)
        have wD : mu N2 154 13 (N 154 13 + 1) 154 5 = -1 := (mx_ne (by omega)).trans (y1.2.2.1.trans hw)
        have wB : y_bd (mu N2 154 13 (N 154 13 + 1)) (y_nx M0 b) 154 5 = y_nx M0 b := by rw [y_bd_w, if_pos wD]
        refine ⟨mu (y_bd (mu N2 154 13 (N 154 13 + 1)) (y_nx M0 b)) 154 13 (w32 (y_bd (mu N2 154 13 (N 154 13 + 1)) (y_nx M0 b) 154 13 - 1)), ?_, ((y1.2.2.2.mu (by omega)).mu (by omega)).mu (by omega), Or.inl ⟨rfl, (mx_ne (by omega)).trans wB, _, y_rm_mu yD.bad (Or.inl rfl)⟩⟩
        show Mo_readsFact_r _ _ _ _ _ = _
        rw [y3]
        unfold y_xa
        rw [y4, lt1_def, rm_tnum_n J yD (fun z => cn z.2), bd2_some, Mo_lays_n J.lay (by rw [wB]; omega), bd1_some, if_neg (by rw [wB]; omega), lt1_def]
theorem y_fact_y (hf : 42000 ≤ fu) (I : y_inv L M0 top) {L' : zL} {top' : Int} (J : y_inv L' M0 top') {d : Nat} (hd : d ≤ 5) {rc rc2 : zt_Gr_readAfter} {rm rm2 : zt_Mo_readsAll}
    (hG : rc.2.2.2.2 = Gr_readGroup_r fu rc2 L) (hAf : rc.1 = Gr_readAfter_r fu rc2 L) (hW : rm.2.2.2 = Mo_readsWithin_r fu rm2 L')
    (Fa : ∀ d', d = d' + 1 → y_stp M0 0 d' (fun M => rc2.2.2.2.1 M 9 (5 - (d' : Int))) (fun N => rm.2.1 N 154))
    (An : ∀ d', d = d' + 1 → y_any M0 d' (fun M => rc2.2.2.1 M 9 (5 - (d' : Int))) (fun N => rm2.1 N 154)) :
    y_stp M0 0 d (fun M => Gr_readFact_r fu rc L M 9 (5 - (d : Int))) (fun N => Mo_readsFact_r fu rm L' N 154) := fun M b hr g0 => by
  by_cases c : y_G M0 40 b
  · exact y_fact_g hf I J hd hG hW An hr g0 c
  · by_cases h : M 9 9 < 16 ∧ y_W M0 5 b
    · exact y_fact_a hf I J hd hAf Fa hr g0 c h.1 h.2
    · exact y_fact_s hf I J hd hr g0 c (fun h16 w => h ⟨h16, w⟩)
theorem y_any_of (hf : 42000 ≤ fu) (I : y_inv L M0 top) {L' : zL} {top' : Int} (J : y_inv L' M0 top') {d : Nat} (hd : d ≤ 5) {n n' : Nat} (F : y_stp M0 0 d (fun M => (zg_Gr_readAfter fu L n).2.2.2.1 M 9 (5 - (d : Int))) (fun N => (zg_Mo_readsAll fu L' n').2.1 N 154)) :
    y_any M0 d (fun M => (zg_Gr_readAfter fu L (n + 2)).2.2.1 M 9 (5 - (d : Int))) (fun N => (zg_Mo_readsAll fu L' (n' + 2)).1 N 154) :=
  y_any_y (rc := zg_Gr_readAfter fu L (n + 1)) (rm := zg_Mo_readsAll fu L' (n' + 1)) hf I J hd (y_all_y (rc := zg_Gr_readAfter fu L n) (rm := zg_Mo_readsAll fu L' n') hf I J F)
theorem y_fact_r (hf : 42000 ≤ fu) (I : y_inv L M0 top) {L' : zL} {top' : Int} (J : y_inv L' M0 top') : ∀ (d : Nat), d ≤ 5 → ∀ (n n' : Nat), 4 * d + 2 ≤ n → 4 * d + 2 ≤ n' → y_stp M0 0 d (fun M => (zg_Gr_readAfter fu L n).2.2.2.1 M 9 (5 - (d : Int))) (fun N => (zg_Mo_readsAll fu L' n').2.1 N 154) := by
  intro d
  induction d with
  | zero =>
    intro hd n n' hn hn'
    obtain ⟨j, rfl⟩ : ∃ j, n = j + 2 := ⟨n - 2, by omega⟩
    obtain ⟨j', rfl⟩ : ∃ j', n' = j' + 2 := ⟨n' - 2, by omega⟩
    exact y_fact_y (rc := zg_Gr_readAfter fu L (j + 1)) (rc2 := zg_Gr_readAfter fu L j) (rm := zg_Mo_readsAll fu L' (j' + 1)) (rm2 := zg_Mo_readsAll fu L' j') hf I J hd rfl rfl rfl (fun d' e => by omega) (fun d' e => by omega)
  | succ d ih =>
    intro hd n n' hn hn'
    obtain ⟨j, rfl⟩ : ∃ j, n = j + 4 := ⟨n - 4, by omega⟩
    obtain ⟨j', rfl⟩ : ∃ j', n' = j' + 4 := ⟨n' - 4, by omega⟩
    refine y_fact_y (rc := zg_Gr_readAfter fu L (j + 3)) (rc2 := zg_Gr_readAfter fu L (j + 2)) (rm := zg_Mo_readsAll fu L' (j' + 3)) (rm2 := zg_Mo_readsAll fu L' (j' + 2)) hf I J hd rfl rfl rfl (fun d' e => ?_) (fun d' e => ?_)
    · obtain rfl : d' = d := by omega
      exact ih (by omega) (j + 2) (j' + 3) (by omega) (by omega)
    · obtain rfl : d' = d := by omega
      exact y_any_of hf I J (by omega) (ih (by omega) j j' (by omega) (by omega))
/-- all ways of a gift, read by both -/
theorem y_ways (hf : 42000 ≤ fu) (I : y_inv L M0 top) {L' : zL} {top' : Int} (J : y_inv L' M0 top') : y_any M0 5 (fun M => Gr_readAny fu L M 9 0) (fun N => Mo_readsAll fu L' N 154) :=
  y_any_of (n := 38) (n' := 38) hf I J (Nat.le_refl 5) (y_fact_r hf I J 5 (Nat.le_refl 5) 38 38 (by decide) (by decide))
end
