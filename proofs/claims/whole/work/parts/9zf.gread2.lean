/-! ===== pure: part 9zf: a gift read by both ===== -/
/-- what both have read when a gift is well told -/
def y_grd (M0 A N : zM) : Prop :=
  (A 9 7 = N 159 0 ∧ A 9 8 = N 159 1 ∧ A 9 9 = N 159 2 ∧ A 9 11 = N 159 3) ∧
  ((0 ≤ N 159 0 ∧ N 159 0 ≤ 2) ∧ (0 ≤ N 159 1 ∧ N 159 1 < M0 154 20) ∧ (0 ≤ N 159 4 ∧ N 159 4 ≤ 310) ∧ (1 ≤ A 9 10 ∧ A 9 10 ≤ 31) ∧ (1 ≤ A 9 11 ∧ A 9 11 ≤ 16) ∧ 0 ≤ A 9 9) ∧
  y_seg (fun x => N 159 (5 + x)) (A 10) (A 11) (A 12) (A 13) (M0 154 20) (N 159 4) (A 9 10) 2 5 0 (N 159 4) 0 (A 9 10) ∧
  (∃ sb pb : Int → Int, sb 0 = 0 ∧ sb (A 9 11) = N 159 4 + 1 ∧ ∀ k, 0 ≤ k → k < A 9 11 → y_seg (fun x => N 159 (5 + x)) (A 10) (A 11) (A 12) (A 13) (M0 154 20) (N 159 4) (A 9 10) 1 5 (sb k) (sb (k + 1) - 1) (pb k) (A 14 k) ∧ (k + 1 < A 9 11 → N 159 (5 + (sb (k + 1) - 1)) = 9)) ∧
  (A 9 12 = ((y_tx (M0 163) (N 159)).length : Int) ∧ A 9 12 ≤ 600 ∧ ∀ i : Nat, i < (y_tx (M0 163) (N 159)).length → A 15 (i : Int) = (y_tx (M0 163) (N 159)).getD i 0)
section
variable {fu : Nat} {L : zL} {M0 M N : zM} {top b : Int}
abbrev y_cg (fu : Nat) (L : zL) (M11 : zM) : Option (zM × Int) :=
  bd2 (Gr_readWord fu L M11 9 1) fun M14 r13 => (if r13 = 0 then Gr_read_b75 fu L M14 9 0 else (bd2 (Gr_readWhom fu L M14 9) fun M19 r18 => (if r18 = 0 then Gr_read_b75 fu L M19 9 0 else (bd2 (Gr_readWord fu L M19 9 4) fun M22 r21 => (if r21 = 0 then Gr_read_b75 fu L M22 9 0 else (bd2 (Gr_readAny fu L M22 9 0) fun M25 r24 => (if r24 = 0 then Gr_read_b75 fu L M25 9 0 else (if (L (M25 9 0)).1 = 8 then (bd1 (Tp_isOver fu L M25 (M25 9 0)) fun r28 => (if r28 = 0 then Gr_read_b75 fu L M25 9 0 else Gr_read_b75 fu L M25 9 1)) else none))))))))
theorem y_cb75 (I : y_inv L M0 top) (hr : y_rc M0 M b) : Gr_read_b75 fu L M 9 0 = some (M, b) := by
  have l9 : L 9 = (5, 0) := I.lay 9 (by decide)
  have l2 : L 2 = (8, 0) := I.lay 2 (by decide)
  have p0 : M 9 0 = 2 := (hr.ptr I) (9, 0, 2) (by decide +kernel)
  have e5 : M 2 5 = b := hr.2.2.2.1
  unfold Gr_read_b75
  rw [if_pos rfl, l9, if_pos rfl, p0, l2, if_pos rfl, e5]
theorem y_cg0 (hf : 42000 ≤ fu) (I : y_inv L M0 top) (o : y_off M0 M) : ∃ M1, Gr_read fu L M 9 = y_cg fu L M1 ∧ y_rc M0 M1 (tkB (M0 3) (M0 2 2) 0) ∧ (M1 9 9 = 0 ∧ M1 9 10 = 0 ∧ M1 9 11 = 0 ∧ M1 9 12 = 0) := by
  have l9 : L 9 = (5, 0) := I.lay 9 (by decide)
  have l2 : L 2 = (8, 0) := I.lay 2 (by decide)
  have o8 : y_off M0 (mu (mu (mu (mu M 9 9 0) 9 10 0) 9 11 0) 9 12 0) := (((o.mu (by omega)).mu (by omega)).mu (by omega)).mu (by omega)
  have p80 : mu (mu (mu (mu M 9 9 0) 9 10 0) 9 11 0) 9 12 0 9 0 = 2 := (o8.ptr I.ptr) (9, 0, 2) (by decide +kernel)
  obtain ⟨M1, r1, r2, r3⟩ := rc_restart (fu := fu) (by omega) I o8
  refine ⟨M1, ?_, r3, ?_⟩
  · unfold Gr_read
    rw [l9, if_pos rfl, lt1_def, lt1_def, lt1_def, lt1_def, p80, l2, if_pos rfl, r1, bd1_some]
  · refine ⟨?_, ?_, ?_, ?_⟩
    · rw [r2 _ _ (by omega), mx_ne (by omega), mx_ne (by omega), mx_ne (by omega), mx_same]
    · rw [r2 _ _ (by omega), mx_ne (by omega), mx_ne (by omega), mx_same]
    · rw [r2 _ _ (by omega), mx_ne (by omega), mx_same]
    · rw [r2 _ _ (by omega), mx_same]
theorem y_mg0 (hf : 42000 ≤ fu) (I : y_inv L M0 top) (o : y_ofm M0 N) : ∃ N3, y_mf N N3 ∧ y_rm M0 N3 (tkB (M0 3) (M0 2 2) 0) ∧ N3 154 5 = -1 ∧ (N3 159 2 = 0 ∧ N3 159 4 = 0 ∧ N3 154 13 = 0) ∧ Mo_readsGift fu L N 154 = bd1 (Mo_mustWord fu L N3 154 17) fun M14 => y_g1 fu L M14 (M14 154 12) := by
  have l4 : L 154 = (13, 0) := I.lay 154 (by decide)
  have l59 : L 159 = (101, 315) := I.lay 159 (by decide)
  obtain ⟨N2, r1, r2, r3, r4⟩ := rm_begins (fu := fu) (by omega) I o
  have p12 : N2 154 12 = 159 := (r3.ptr I) (154, 12, 159) (by decide +kernel)
  have q1 : mu N2 154 13 0 154 12 = 159 := (mx_ne (by omega)).trans p12
  have q2 : mu (mu N2 154 13 0) 159 2 0 154 12 = 159 := (mx_ne (by omega)).trans q1
  have g2 : (0 : Int) ≤ 2 ∧ (2 : Int) < ((101, 315) : Int × Int).2 := by decide
  have g4 : (0 : Int) ≤ 4 ∧ (4 : Int) < ((101, 315) : Int × Int).2 := by decide
  refine ⟨mu (mu (mu N2 154 13 0) 159 2 0) 159 4 0, ((r2.mf.mu (by omega)).mu (by omega)).mu (by omega), y_rm_159 (y_rm_159 (y_rm_mu r3 (Or.inl rfl))), ?_, ⟨?_, ?_, ?_⟩, ?_⟩
  · rw [mx_ne (by omega), mx_ne (by omega), mx_ne (by omega)]; exact r4
  · rw [mx_ne (by omega), mx_same]
  · rw [mx_same]
  · rw [mx_ne (by omega), mx_ne (by omega), mx_same]
  · unfold Mo_readsGift
    rw [l4, if_pos rfl, r1, bd1_some, lt1_def, q1, l59, if_pos rfl, if_pos g2, lt1_def, q2, l59, if_pos rfl, if_pos g4, lt1_def]
theorem y_gread (hf : 42000 ≤ fu) (I : y_inv L M0 top) {L' : zL} {top' : Int} (J : y_inv L' M0 top') (o : y_off M0 M) : ∃ M' r, Gr_read fu L M 9 = some (M', r) ∧ y_off M0 M' ∧ -1 ≤ r ∧ ∀ N, y_ofm M0 N → ∃ N', Mo_readsGift fu L' N 154 = some (N', r) ∧ y_mf N N' ∧ (r = -1 → y_grd M0 M' N') := by
  have l9 : L 9 = (5, 0) := I.lay 9 (by decide)
  have l2 : L 2 = (8, 0) := I.lay 2 (by decide)
  have l4 : L' 154 = (13, 0) := J.lay 154 (by decide)
  have l59 : L' 159 = (101, 315) := J.lay 159 (by decide)
  have hn3 := I.2.1.1.2.1
  obtain ⟨M1, c1, c2, c3, c4, c5, c6⟩ := y_cg0 (fu := fu) hf I o
  have pb0 := c2.pb
  generalize hb0 : tkB (M0 3) (M0 2 2) 0 = b0 at c2 pb0
  have mg : ∀ N, y_ofm M0 N → ∃ N3, y_mf N N3 ∧ y_rm M0 N3 b0 ∧ N3 154 5 = -1 ∧ (N3 159 2 = 0 ∧ N3 159 4 = 0 ∧ N3 154 13 = 0) ∧ Mo_readsGift fu L' N 154 = bd1 (Mo_mustWord fu L' N3 154 17) fun M14 => y_g1 fu L' M14 (M14 154 12) := fun N oN => by
    rw [← hb0]; exact y_mg0 hf J oN
  -- to
  rcases (Classical.em (y_W M0 1 b0)).symm with w1 | w1
  · refine ⟨M1, b0, ?_, c2.1, by omega, fun N oN => ?_⟩
    · rw [c1]
      unfold y_cg
      rw [Gr_readWord_n (fu := fu) (s := 1) (by omega) I c2 (by decide) w1, bd2_some, if_pos rfl, y_cb75 I c2]
    · obtain ⟨N3, n1, n2, n3, _, n5⟩ := mg N oN
      obtain ⟨N', x1, x2⟩ := y_g1_f (fu := fu) hf J n2.bad (by rw [y_bd_w, if_pos n3]) (show b0 ≠ -1 by omega)
      have p12 : y_bd N3 b0 154 12 = 159 := (n2.bad.ptr I) (154, 12, 159) (by decide +kernel)
      refine ⟨N', ?_, (n1.mu (by omega)).trans x2, fun z => by omega⟩
      rw [n5, rm_mword_n (fu := fu) (s := 17) (by omega) J n2 (by decide) (fun q => w1 q.2), bd1_some, p12, x1]
  obtain ⟨M2, r1, r2, r3, r4, r5, r6⟩ := Gr_readWord_y (fu := fu) (s := 1) (by omega) I c2 (by decide) w1 (by omega)
  rw [c6, if_neg (by omega)] at r2
  have mg1 : ∀ N, y_ofm M0 N → ∃ N4, y_mf N N4 ∧ y_rm M0 N4 (y_nx M0 b0) ∧ N4 154 5 = -1 ∧ (N4 159 2 = 0 ∧ N4 159 4 = 0 ∧ N4 154 13 = 0) ∧ Mo_readsGift fu L' N 154 = y_g1 fu L' N4 159 := fun N oN => by
    obtain ⟨N3, n1, n2, n3, ⟨n4, n5, n6⟩, n7⟩ := mg N oN
    obtain ⟨N4, m1, m2, m3⟩ := rm_mword_y (fu := fu) (s := 17) (by omega) J n2 n3 (by decide) w1
    have p12 : N4 154 12 = 159 := (m3.ptr I) (154, 12, 159) (by decide +kernel)
    exact ⟨N4, n1.trans m2.mf, m3, m2.w.trans n3, ⟨(m2 _ _ (by omega)).trans n4, (m2 _ _ (by omega)).trans n5, (m2 _ _ (by omega)).trans n6⟩, by rw [n7, m1, bd1_some, p12]⟩
  -- whom
  obtain ⟨M3, wh, b2, h1, h2, h3, h4, h5, h6, h7, h8, h9⟩ := y_whom (fu := fu) hf I J r4 (by omega)
  have pb2 := h6.pb
  have p30 : M3 9 0 = 2 := (h6.ptr I) (9, 0, 2) (by decide +kernel)
  have r98 : y_rc M0 (mu M3 9 8 (y_lf M0 b2)) b2 := by
    refine ⟨h6.1.trans fun a i c => mx_ne (by omega), ?_⟩
    have t := h6.2
    have e3 : mu M3 9 8 (y_lf M0 b2) 3 = M3 3 := funext fun i => mx_ne (by omega)
    unfold CTok at t ⊢
    rw [e3, mx_ne (by omega), mx_ne (by omega), mx_ne (by omega), mx_ne (by omega), mx_ne (by omega)]
    exact t
  have hwhom : Gr_readWhom fu L M2 9 = bd2 (Gr_readLife fu L (mu M3 9 8 (y_lf M0 b2)) 9) fun M17 r16 => some (M17, r16) := by
    rw [h1]
    unfold Gr_readWhom_b36
    rw [l9, if_pos rfl, p30, l2, if_pos rfl, rc_life (by omega) I h6, bd1_some, lt1_def]
  have x12 : mu M3 9 8 (y_lf M0 b2) 9 12 = M3 9 12 := mx_ne (by omega)
  have s12 := h4.1
  have mg2 : ∀ N, y_ofm M0 N → ∃ N5, y_mf N N5 ∧ y_rm M0 N5 b2 ∧ N5 154 5 = -1 ∧ (N5 159 0 = wh ∧ N5 159 2 = 0 ∧ N5 159 4 = 0 ∧ N5 154 13 = 0) ∧ Mo_readsGift fu L' N 154 = bd2 (Mo_takesLife fu L' N5 154) fun M28 r27 => lt1 (mu M28 159 1 r27) fun M32 => y_g3 fu L' M32 := fun N oN => by
    obtain ⟨N4, n1, n2, n3, ⟨n4, n5, n6⟩, n7⟩ := mg1 N oN
    obtain ⟨N', m1, m2, m3⟩ := h9 N4 n2 n3
    refine ⟨mu N' 159 0 wh, (n1.trans m1.mf).mu (by omega), y_rm_159 m2, (mx_ne (by omega)).trans (m1.w.trans n3), ⟨mx_same _ _ _ _, (mx_ne (by omega)).trans ((m1 _ _ (by omega)).trans n4), (mx_ne (by omega)).trans ((m1 _ _ (by omega)).trans n5), (mx_ne (by omega)).trans ((m1 _ _ (by omega)).trans n6)⟩, ?_⟩
    rw [n7, m3, y_b61 J m2]
  have ctop : Gr_read fu L M 9 = (bd2 (Gr_readWhom fu L M2 9) fun M19 r18 => (if r18 = 0 then Gr_read_b75 fu L M19 9 0 else (bd2 (Gr_readWord fu L M19 9 4) fun M22 r21 => (if r21 = 0 then Gr_read_b75 fu L M22 9 0 else (bd2 (Gr_readAny fu L M22 9 0) fun M25 r24 => (if r24 = 0 then Gr_read_b75 fu L M25 9 0 else (if (L (M25 9 0)).1 = 8 then (bd1 (Tp_isOver fu L M25 (M25 9 0)) fun r28 => (if r28 = 0 then Gr_read_b75 fu L M25 9 0 else Gr_read_b75 fu L M25 9 1)) else none))))))) := by
    rw [c1]
    unfold y_cg
    rw [r1, bd2_some, if_neg (by decide)]
  by_cases hl : y_lf M0 b2 = -1
  · refine ⟨mu M3 9 8 (y_lf M0 b2), b2, ?_, r98.1, by omega, fun N oN => ?_⟩
    · rw [ctop, hwhom, Gr_readLife_n (by omega) I r98 hl, bd2_some, bd2_some, if_pos rfl, y_cb75 I r98]
    · obtain ⟨N5, n1, n2, n3, _, n5⟩ := mg2 N oN
      obtain ⟨N', x1, x2⟩ := y_g3_f (fu := fu) hf J (y_rm_159 (i := 1) (v := 0) n2.bad) (w := b2) ((mx_ne (by omega)).trans (by rw [y_bd_w, if_pos n3])) (by omega)
      refine ⟨N', ?_, ((n1.mu (by omega)).mu (by omega)).trans x2, fun z => by omega⟩
      rw [n5, rm_tlife_n (by omega) J n2 (fun q => q.2 hl), bd2_some, lt1_def, x1]
  have lr : 0 ≤ y_lf M0 b2 ∧ y_lf M0 b2 < M0 154 20 := by
    rcases y_lf_r I b2 with z | z
    · exact absurd z hl
    · exact z
  obtain ⟨M4, u1, u2, u3, u4, u5, u6⟩ := Gr_readLife_y (fu := fu) (by omega) I r98 hl (by omega)
  rw [x12, if_pos (by omega)] at u2
  rw [u1, bd2_some] at hwhom
  have pb3 := u4.pb
  have mg3 : ∀ N, y_ofm M0 N → ∃ N6, y_mf N N6 ∧ y_rm M0 N6 (y_nx M0 b2) ∧ N6 154 5 = -1 ∧ (N6 159 0 = wh ∧ N6 159 1 = y_lf M0 b2 ∧ N6 159 2 = 0 ∧ N6 159 4 = 0 ∧ N6 154 13 = 0) ∧ Mo_readsGift fu L' N 154 = y_g3 fu L' N6 := fun N oN => by
    obtain ⟨N5, n1, n2, n3, ⟨n4, n5, n6, n7⟩, n8⟩ := mg2 N oN
    obtain ⟨N', m1, m2, m3⟩ := rm_tlife_y (fu := fu) (by omega) J n2 n3 hl
    refine ⟨mu N' 159 1 (y_lf M0 b2), (n1.trans m2.mf).mu (by omega), y_rm_159 m3, (mx_ne (by omega)).trans (m2.w.trans n3), ⟨(mx_ne (by omega)).trans ((m2 _ _ (by omega)).trans n4), mx_same _ _ _ _, (mx_ne (by omega)).trans ((m2 _ _ (by omega)).trans n5), (mx_ne (by omega)).trans ((m2 _ _ (by omega)).trans n6), (mx_ne (by omega)).trans ((m2 _ _ (by omega)).trans n7)⟩, ?_⟩
    rw [n8, m1, bd2_some, lt1_def]
  -- when
  rcases (Classical.em (y_W M0 4 (y_nx M0 b2))).symm with w4 | w4
  · refine ⟨M4, y_nx M0 b2, ?_, u4.1, by omega, fun N oN => ?_⟩
    · rw [ctop, hwhom, bd2_some, if_neg (by decide), Gr_readWord_n (fu := fu) (s := 4) (by omega) I u4 (by decide) w4, bd2_some, if_pos rfl, y_cb75 I u4]
    · obtain ⟨N6, n1, n2, n3, _, n5⟩ := mg3 N oN
      have wB : y_bd N6 (y_nx M0 b2) 154 5 = y_nx M0 b2 := by rw [y_bd_w, if_pos n3]
      refine ⟨y_bd N6 (y_nx M0 b2), ?_, n1.mu (by omega), fun z => by omega⟩
      rw [n5]
      show bd1 _ _ = _
      rw [rm_mword_n (fu := fu) (s := 20) (by omega) J n2 (by decide) (fun q => w4 q.2), bd1_some, if_neg (by rw [wB]; omega), rm_mend_y J n2.bad (Or.inl (by rw [wB]; omega)), bd1_some, wB]
  obtain ⟨M5, v1, v2, v3, v4, v5, v6⟩ := Gr_readWord_y (fu := fu) (s := 4) (by omega) I u4 (by decide) w4 (by omega)
  rw [if_pos (by omega)] at v2
  have m5 : ∀ i, i = 9 ∨ i = 10 ∨ i = 11 → M5 9 i = 0 := fun i hi => by
    rw [v3 _ _ (by omega) (by omega) (by omega), u3 _ _ (by omega) (by omega) (by omega), mx_ne (by omega), h5 _ _ (by omega) (by omega) (by omega), r3 _ _ (by omega) (by omega) (by omega)]
    rcases hi with z | z | z <;> subst z <;> assumption
  have m57 : M5 9 7 = wh := by
    rw [v3 _ _ (by omega) (by omega) (by omega), u3 _ _ (by omega) (by omega) (by omega), mx_ne (by omega)]; exact h3
  have m58 : M5 9 8 = y_lf M0 b2 := by
    rw [v3 _ _ (by omega) (by omega) (by omega), u3 _ _ (by omega) (by omega) (by omega), mx_same]
  have m59 := m5 9 (by omega)
  have m510 := m5 10 (by omega)
  have m511 := m5 11 (by omega)
  have q98 : y_tq M1 (mu M3 9 8 (y_lf M0 b2)) (((zstr.getD 1 []).map (fun (c : Nat) => (c : Int))) ++ y_tw wh) := by
    obtain ⟨z1, z2, z3⟩ := r2.trans h4
    exact ⟨(mx_ne (by omega)).trans z1, fun x hx => (mx_ne (by omega)).trans (z2 x hx), fun x hx => (mx_ne (by omega)).trans (z3 x hx)⟩
  have u2' : y_tq (mu M3 9 8 (y_lf M0 b2)) M4 ([32] ++ [97 + M0 163 (y_lf M0 b2)]) := u2
  have qt := (q98.trans u2').trans v2
  have v12 := v2.1
  have gc5 : y_gc0 M5 (y_nx M0 (y_nx M0 b2)) := ⟨by omega, by omega, by omega⟩
  -- the ways
  obtain ⟨M6, r, b5, ct, f1, f2, f3, f4⟩ := y_ways (fu := fu) hf I J M5 _ v4 gc5 (fun _ => m511)
  have f1' : Gr_readAny fu L M5 9 0 = some (M6, r) := f1
  have pb5 := f2.pb
  have p60 : M6 9 0 = 2 := (f2.ptr I) (9, 0, 2) (by decide +kernel)
  have ctop2 : Gr_read fu L M 9 = if r = 0 then some (M6, b5) else if y_K M0 b5 = 0 then some (M6, -1) else some (M6, b5) := by
    rw [ctop, hwhom, bd2_some, if_neg (by decide), v1, bd2_some, if_neg (by decide), f1', bd2_some]
    by_cases r0 : r = 0
    · rw [if_pos r0, if_pos r0, y_cb75 I f2]
    · rw [if_neg r0, if_neg r0, p60, l2, if_pos rfl, rc_over I f2, bd1_some]
      by_cases k0 : y_K M0 b5 = 0
      · rw [if_pos k0, if_neg (by decide), if_pos k0]
        unfold Gr_read_b75
        rw [if_neg (by decide)]
      · rw [if_neg k0, if_pos rfl, if_neg k0, y_cb75 I f2]
  have mg4 : ∀ N, y_ofm M0 N → ∃ N7 N8 cm, y_mf N N7 ∧ (N7 159 0 = wh ∧ N7 159 1 = y_lf M0 b2 ∧ N7 159 2 = 0 ∧ N7 159 4 = 0) ∧ y_out M0 2 5 M5 M6 N7 N8 r b5 ∧ (r = 1 → cm = ct ∧ y_pm M0 5 M6 N7 N8 ct) ∧ Mo_readsGift fu L' N 154 = bd1 (Mo_mustEnd fu L' (mu N8 159 3 cm) 154) fun M43 => some (M43, M43 154 5) := fun N oN => by
    obtain ⟨N6, n1, n2, n3, ⟨n4, n5, n6, n7, n8⟩, n9⟩ := mg3 N oN
    obtain ⟨N7, m1, m2, m3⟩ := rm_mword_y (fu := fu) (s := 20) (by omega) J n2 n3 (by decide) w4
    have w7 : N7 154 5 = -1 := m2.w.trans n3
    have p12 : N7 154 12 = 159 := (m3.ptr I) (154, 12, 159) (by decide +kernel)
    have e2 : N7 159 2 = 0 := (m2 _ _ (by omega)).trans n6
    have e4 : N7 159 4 = 0 := (m2 _ _ (by omega)).trans n7
    have e13 : N7 154 13 = 0 := (m2 _ _ (by omega)).trans n8
    obtain ⟨N8, cm, y1, y2, y3⟩ := f4 N7 m3 w7 ⟨by omega, by omega, by rw [e13]; rfl⟩
    have y1' : Mo_readsAll fu L' N7 154 = some (N8, cm) := y1
    have g3 : (0 : Int) ≤ 3 ∧ (3 : Int) < ((101, 315) : Int × Int).2 := by decide
    refine ⟨N7, N8, cm, n1.trans m2.mf, ⟨(m2 _ _ (by omega)).trans n4, (m2 _ _ (by omega)).trans n5, e2, e4⟩, y2, y3, ?_⟩
    rw [n9]
    show bd1 _ _ = _
    rw [m1, bd1_some, if_pos w7, y1', bd2_some, p12, l59, if_pos rfl, if_pos g3, lt1_def]
  rcases f3 with r0 | ⟨r1', fc, fp⟩
  · refine ⟨M6, b5, by rw [ctop2, if_pos r0], f2.1, by omega, fun N oN => ?_⟩
    obtain ⟨N7, N8, cm, n1, n2, ⟨n3, n4⟩, n5, n6⟩ := mg4 N oN
    rcases n4 with ⟨_, z2, b'', z3⟩ | ⟨z1, _⟩
    · have w8 : mu N8 159 3 cm 154 5 = b5 := (mx_ne (by omega)).trans z2
      refine ⟨mu N8 159 3 cm, ?_, (n1.trans n3).mu (by omega), fun z => by omega⟩
      rw [n6, rm_mend_y J (y_rm_159 z3) (Or.inl (by rw [w8]; omega)), bd1_some, w8]
    · omega
  · by_cases k0 : y_K M0 b5 = 0
    · refine ⟨M6, -1, by rw [ctop2, if_neg (by omega), if_pos k0], f2.1, by omega, fun N oN => ?_⟩
      obtain ⟨N7, N8, cm, n1, ⟨a0, a1, a2, a4⟩, ⟨n3, n4⟩, n5, n6⟩ := mg4 N oN
      rcases n4 with ⟨z1, _⟩ | ⟨_, z2, z3, z4⟩
      · omega
      · have w8 : mu N8 159 3 cm 154 5 = -1 := (mx_ne (by omega)).trans z2
        refine ⟨mu N8 159 3 cm, by rw [n6, rm_mend_y J (y_rm_159 z3) (Or.inr k0), bd1_some, w8], (n1.trans n3).mu (by omega), fun _ => ?_⟩
        obtain ⟨q1, q2⟩ := n5 r1'
        obtain ⟨⟨s1, s2, s3⟩, s4, s5, s6⟩ := z4
        have fp5 := fp.2 rfl
        have c9 := fc.1
        have c10 := fc.2.1
        have c12 := fc.2.2.1
        have cf := fc.2.2.2
        have d7 : M6 9 7 = wh := (cf _ _ (by omega) (by omega) (by omega) (by omega) (by omega)).trans m57
        have d8 : M6 9 8 = y_lf M0 b2 := (cf _ _ (by omega) (by omega) (by omega) (by omega) (by omega)).trans m58
        have e0 : ∀ x, x ≠ 3 → mu N8 159 3 cm 159 x = N8 159 x := fun x hx => mx_ne (by omega)
        have g0 : N8 159 0 = wh := (s4 0 (by omega)).trans a0
        have g1 : N8 159 1 = y_lf M0 b2 := (s4 1 (by omega)).trans a1
        have eS : ∀ x, 0 ≤ x → mu N8 159 3 cm 159 (5 + x) = N8 159 (5 + x) := fun x hx => e0 _ (by omega)
        rw [a4, m510] at s5
        obtain ⟨sb, pb, t1, t2, t3⟩ := q2 rfl
        rw [a4] at t1
        have tt := qt.trans s6
        rw [a4, Int.sub_zero] at tt
        have el : y_tx (M0 163) (mu N8 159 3 cm 159) = ((((zstr.getD 1 []).map (fun (c : Nat) => (c : Int))) ++ y_tw wh) ++ ([32] ++ [97 + M0 163 (y_lf M0 b2)])) ++ ([32] ++ (zstr.getD 4 []).map (fun (c : Nat) => (c : Int))) ++ y_tsl (M0 163) (fun x => N8 159 (5 + x)) (N8 159 4).toNat 0 := by
          unfold y_tx
          rw [e0 0 (by omega), g0, e0 1 (by omega), g1, e0 4 (by omega), y_tsl_congr (S := fun x => N8 159 (5 + x)) _ _ (fun x x0 x1 => eS x (by omega))]
          have hw3 : wh = 0 ∨ wh = 1 ∨ wh = 2 := by omega
          rcases hw3 with z | z | z <;> rw [z] <;> rfl
        refine ⟨⟨?_, ?_, ?_, ?_⟩, ⟨?_, ?_, ?_, ?_, ?_, ?_⟩, ?_, ⟨sb, pb, t1, ?_, fun k k0' k1 => ?_⟩, ?_, ?_, ?_⟩
        · rw [e0 0 (by omega), g0, d7]
        · rw [e0 1 (by omega), g1, d8]
        · rw [e0 2 (by omega), s1]
        · rw [mx_same, q1, fp5.1]
        · rw [e0 0 (by omega)]; omega
        · rw [e0 1 (by omega)]; omega
        · rw [e0 4 (by omega)]; omega
        · omega
        · omega
        · omega
        · rw [e0 4 (by omega)]
          exact s5 _ _ _ _ _ _ _ (fun x x0 _ => eS x x0) (fun x _ _ => ⟨rfl, rfl, rfl, rfl⟩) (Int.le_refl _) (Int.le_refl _) (fun _ z => absurd z (Int.lt_irrefl _))
        · rw [fp5.1, t2, e0 4 (by omega)]
        · rw [fp5.1] at k1
          obtain ⟨x1, ⟨⟨x2, x3, x4⟩, x5, x6⟩, x7⟩ := t3 k k0' k1
          rw [a4] at x2
          rw [e0 4 (by omega)]
          refine ⟨x1 _ _ _ _ _ _ _ (fun x x0 _ => eS x (by omega)) (fun x _ _ => ⟨rfl, rfl, rfl, rfl⟩) x4 x6 (fun z => absurd z (by decide)), fun z => ?_⟩
          rw [fp5.1] at z
          rw [eS _ (by omega)]
          exact x7 z
        · rw [el]; exact tt.1.trans (by omega)
        · omega
        · rw [el]
          intro i hi
          have := tt.2.2 i hi
          rw [c6] at this
          rw [← this, show (0 : Int) + (i : Int) = (i : Int) by omega]
    · refine ⟨M6, b5, by rw [ctop2, if_neg (by omega), if_neg k0], f2.1, by omega, fun N oN => ?_⟩
      obtain ⟨N7, N8, cm, n1, _, ⟨n3, n4⟩, n5, n6⟩ := mg4 N oN
      rcases n4 with ⟨z1, _⟩ | ⟨_, z2, z3, z4⟩
      · omega
      · have w8 : mu N8 159 3 cm 154 5 = -1 := (mx_ne (by omega)).trans z2
        refine ⟨mu (mu N8 159 3 cm) 154 5 b5, by rw [n6, rm_mend_n J (y_rm_159 z3) w8 k0, bd1_some, mx_same], ((n1.trans n3).mu (by omega)).mu (by omega), fun z => by omega⟩
end
