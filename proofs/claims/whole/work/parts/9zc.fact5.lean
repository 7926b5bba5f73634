/-! ===== pure: part 9zc: simple facts, read by both ===== -/
section
variable {fu : Nat} {L : zL} {M0 M M1 N N1 N2 : zM} {top b b1 : Int}
theorem y_sa0 (M : zM) : y_sa M (mu M 9 9 (M 9 9 + 1)) [] :=
  ⟨⟨mx_same _ _ _ _, mx_ne (by omega)⟩, ⟨by rw [mx_ne (by omega)]; show _ = _ + 0; omega, fun x _ => mx_ne (by omega), fun x hx => absurd hx (Nat.not_lt_zero _)⟩, fun a i q1 q2 q3 => mx_ne (by omega)⟩
theorem y_sa0_rc (hr : y_rc M0 M b) : y_rc M0 (mu M 9 9 (M 9 9 + 1)) b := by
  refine ⟨hr.1.trans fun a i c => mx_ne (by omega), ?_⟩
  have t := hr.2
  have e3 : mu M 9 9 (M 9 9 + 1) 3 = M 3 := funext fun i => mx_ne (by omega)
  unfold CTok at t ⊢
  rw [e3, mx_ne (by omega), mx_ne (by omega), mx_ne (by omega), mx_ne (by omega), mx_ne (by omega)]
  exact t
theorem y_tsg_k {nm : Int → Int} {V l : Int} (hV : 0 ≤ V) (hl : 0 ≤ l ∧ l < 8) : y_tsg nm (10000 * V + 100 * 0 + 0) = [121, 101, 97, 114, 115, 32] ++ y_num V ∧ y_tsg nm (10000 * V + 100 * 0 + 3) = [114, 101, 97, 99, 104, 101, 115, 32] ++ y_num V ∧ y_tsg nm 2 = [98, 111, 114, 110] ∧ y_tsg nm (100 * l + 1) = [100, 105, 101, 115, 32] ++ [97 + nm l] ∧ y_tsg nm (10000 * V + 100 * l + 4) = [97 + nm l] ++ [32, 114, 101, 97, 99, 104, 101, 115, 32] ++ y_num V := by
  refine ⟨?_, ?_, rfl, ?_, ?_⟩
  · unfold y_tsg
    rw [if_pos (by omega), show (10000 * V + 100 * 0 + 0) / 10000 = V by omega]
  · unfold y_tsg
    rw [if_neg (by omega), if_neg (by omega), if_neg (by omega), if_pos (by omega), show (10000 * V + 100 * 0 + 3) / 10000 = V by omega]
  · unfold y_tsg
    rw [if_neg (by omega), if_pos (by omega), show (100 * l + 1) / 100 % 100 = l by omega]
  · unfold y_tsg
    rw [if_neg (by omega), if_neg (by omega), if_neg (by omega), if_neg (by omega), if_pos (by omega), show (10000 * V + 100 * l + 4) / 10000 = V by omega, show (10000 * V + 100 * l + 4) / 100 % 100 = l by omega]
/-- a fact of a word and a number -/
theorem y_fact_k (hf : 42000 ≤ fu) (I : y_inv L M0 top) {L' : zL} {top' : Int} (J : y_inv L' M0 top') {d : Nat} (hr : y_rc M0 M b) (g0 : y_gc0 M b) (h16 : M 9 9 < 16) {cf : zM → Option (zM × Int)} {mf : zM → Option zM} {sc : Nat} {k : Int} (hsc : sc < zstr.length) (hk : k = 0 ∨ k = 3) (w : y_W M0 sc b)
    (hcl : ∀ M6, Gr_readWord fu L (mu M 9 9 (M 9 9 + 1)) 9 sc = some (M6, 1) → cf M = bd2 (Gr_readNumber fu L M6 9 k (-1)) fun M42 r41 => some (M42, r41))
    (hml : ∀ N, y_rm M0 N b → N 154 5 = -1 → 0 ≤ N 159 2 ∧ N 159 2 < 16 → ∃ N2, y_1n N N2 ∧ y_rm M0 N2 (y_nx M0 b) ∧ mf N = y_tn fu L' N2 k 0)
    (ht : ∀ V, 0 ≤ V → ([] ++ ([32] ++ (zstr.getD sc []).map (fun (c : Nat) => (c : Int)))) ++ ([32] ++ y_num V) = 32 :: y_tsg (M0 163) (10000 * V + 100 * 0 + k)) : y_bdy M0 0 d cf mf M b := by
  have hA := y_sa0_rc hr
  have sA := y_sa0 M
  have a12 : mu M 9 9 (M 9 9 + 1) 9 12 = M 9 12 := mx_ne (by omega)
  have g1 := g0.1
  have g2 := g0.2.1
  have g3 := g0.2.2
  have hn3 := I.2.1.1.2.1
  have pb := hr.pb
  obtain ⟨M6, r1, r2, r3, r4, r5, r6⟩ := Gr_readWord_y (fu := fu) (by omega) I hA hsc w (by rw [a12]; omega)
  rw [if_pos (by omega)] at r2
  have s6 := sA.take r3 r2
  have hc := hcl M6 r1
  by_cases c : y_N M0 99 (y_nx M0 b)
  · obtain ⟨M7, n1, n2, n3, n4, n5⟩ := Gr_readNumber_y (fu := fu) (by omega) I s6 r4 c (by omega) (by omega) k (-1)
    obtain ⟨q1, q2⟩ := n2.gc g0 h16 n4
    have hn := of_decide_eq_true c
    have vb := tkV_b hn.1 hn.2.1
    have v99 : y_V M0 (y_nx M0 b) ≤ 99 := hn.2.2
    refine ⟨M7, 1, y_nx M0 (y_nx M0 b), by rw [hc, n1, bd2_some], n3, Or.inr ⟨rfl, q1, q2⟩, fun N hN hw hg => ?_⟩
    obtain ⟨N2, m1, m2, m3⟩ := hml N hN hw (by have := hg.1; omega)
    have hg4 := hg.2.1
    obtain ⟨N', t1, t2, t3, t4, t5⟩ := y_tn_y hf J m1 m2 hw (by omega) c (k := k) (l := 0) (by omega) (by omega)
    refine ⟨N', by rw [m3, t1], t4, Or.inr ⟨rfl, t3, t5, n2.gr t2 hg g0 (by omega) ⟨0, rfl, by omega, fun z => by omega⟩ (by omega) ⟨vb.1, v99⟩ (ht _ vb.1)⟩⟩
  · refine ⟨M6, 0, y_nx M0 b, by rw [hc, Gr_readNumber_n (by omega) I r4 c, bd2_some], r4, Or.inl rfl, fun N hN hw hg => ?_⟩
    obtain ⟨N2, m1, m2, m3⟩ := hml N hN hw (by have := hg.1; omega)
    obtain ⟨z1, z2, z3⟩ := m1.bd m2 hw
    exact ⟨y_bd N2 (y_nx M0 b), by rw [m3, y_tn_n J m1 m2 hw c (by omega)], z1, Or.inl ⟨rfl, z2, z3⟩⟩
/-- what the class does once a fact is counted and no year is awaited -/
abbrev y_cx (fu : Nat) (L : zL) (M5 : zM) : Option (zM × Int) :=
  bd2 (Gr_readWord fu L M5 9 6) fun M11 r10 => (if r10 = 0 then (bd2 (Gr_readWord fu L M11 9 7) fun M14 r13 => (if r13 = 0 then (bd2 (Gr_readWord fu L M14 9 8) fun M17 r16 => (if r16 = 0 then (bd2 (Gr_readWord fu L M17 9 9) fun M20 r19 => (if (L (M20 9 0)).1 = 8 then (bd1 (Tp_lifeNamed fu L M20 (M20 9 0)) fun r23 => (bd2 (Gr_readLife fu L M20 9) fun M26 r25 => (if r25 = 0 then (some (M26, 0)) else (if r19 = 0 then (bd2 (Gr_readWord fu L M26 9 7) fun M29 r28 => (if r28 = 0 then (some (M29, 0)) else (bd2 (Gr_readNumber fu L M29 9 4 r23) fun M32 r31 => (if r31 = 0 then (some (M32, 0)) else (some (M32, 1)))))) else (bd1 (Gr_noteStep fu L M26 9 1 0 r23) fun M34 => (some (M34, 1))))))) else none)) else (bd1 (Gr_noteStep fu L M17 9 2 0 (-1)) fun M36 => (some (M36, 1))))) else (bd2 (Gr_readNumber fu L M14 9 3 (-1)) fun M39 r38 => (some (M39, r38))))) else (bd2 (Gr_readNumber fu L M11 9 0 (-1)) fun M42 r41 => (some (M42, r41))))
theorem y_cfact (hf : 42000 ≤ fu) (I : y_inv L M0 top) {rc : zt_Gr_readAfter} {dp : Int} (hr : y_rc M0 M b) (c : ¬ y_G M0 40 b) (h : 0 ≤ M 9 9) : (¬ M 9 9 < 16 → Gr_readFact_r fu rc L M 9 dp = some (M, 0)) ∧ (M 9 9 < 16 → Gr_readFact_r fu rc L M 9 dp = if y_W M0 5 b then (bd2 (rc.1 (mu M 9 9 (M 9 9 + 1)) 9 dp) fun M45 r44 => (some (M45, r44))) else y_cx fu L (mu M 9 9 (M 9 9 + 1))) := by
  have l9 : L 9 = (5, 0) := I.lay 9 (by decide)
  have l2 : L 2 = (8, 0) := I.lay 2 (by decide)
  have p0 : M 9 0 = 2 := (hr.ptr I) (9, 0, 2) (by decide +kernel)
  have pA0 : mu M 9 9 (M 9 9 + 1) 9 0 = 2 := (mx_ne (by omega)).trans p0
  have hA := y_sa0_rc hr
  refine ⟨fun z => ?_, fun z => ?_⟩
  · unfold Gr_readFact_r
    rw [l9, if_pos rfl, p0, l2, if_pos rfl, rc_sign I hr, if_neg c, bd1_some, if_pos rfl, if_neg z]
  · unfold Gr_readFact_r
    rw [l9, if_pos rfl, p0, l2, if_pos rfl, rc_sign I hr, if_neg c, bd1_some, if_pos rfl, if_pos z, w32_id (by omega), lt1_def, pA0, l2, if_pos rfl, rc_word (s := 5) (by omega) I hA (by decide)]
    by_cases w : y_W M0 5 b
    · rw [if_pos w, bd1_some, if_neg (by decide), if_pos w]
    · rw [if_neg w, bd1_some, if_pos rfl, if_neg w]
theorem y_fact_s (hf : 42000 ≤ fu) (I : y_inv L M0 top) {L' : zL} {top' : Int} (J : y_inv L' M0 top') {d : Nat} (hd : d ≤ 5) {rc : zt_Gr_readAfter} {rm : zt_Mo_readsAll} (hr : y_rc M0 M b) (g0 : y_gc0 M b) (c : ¬ y_G M0 40 b) (c5 : M 9 9 < 16 → ¬ y_W M0 5 b) :
    y_bdy M0 0 d (fun M => Gr_readFact_r fu rc L M 9 (5 - (d : Int))) (fun N => Mo_readsFact_r fu rm L' N 154) M b := by
  have l9 : L 9 = (5, 0) := I.lay 9 (by decide)
  have l2 : L 2 = (8, 0) := I.lay 2 (by decide)
  have l4 : L' 154 = (13, 0) := J.lay 154 (by decide)
  have g1 := g0.1
  have g2 := g0.2.1
  have g3 := g0.2.2
  have hn3 := I.2.1.1.2.1
  have pb := hr.pb
  obtain ⟨k1, k2⟩ := y_cfact (fu := fu) hf I (rc := rc) (dp := 5 - (d : Int)) hr c g1.1
  have fail : ∀ N, y_rm M0 N b → N 154 5 = -1 → y_mf N (y_bd N b) ∧ (y_bd N b 154 5 = b ∧ ∃ b'', y_rm M0 (y_bd N b) b'') := fun N hN hw => ⟨(y_mf.refl N).mu (by omega), by rw [y_bd_w, if_pos hw], _, hN.bad⟩
  by_cases h16 : M 9 9 < 16
  · have w5 := c5 h16
    have hc := k2 h16
    rw [if_neg w5] at hc
    have hA := y_sa0_rc hr
    have sA := y_sa0 M
    generalize hAe : mu M 9 9 (M 9 9 + 1) = A at hc hA sA
    have a12 : A 9 12 = M 9 12 := by rw [← hAe]; exact mx_ne (by omega)
    -- the model where a fact begins
    have hb121 : ∀ N, y_rm M0 N b → N 154 5 = -1 → 0 ≤ N 159 2 ∧ N 159 2 < 16 → y_fb M0 b → ∃ N1, y_1n N N1 ∧ y_rm M0 N1 b ∧ Mo_readsFact_r fu rm L' N 154 = y_xf fu rm L' N1 := fun N hN hw h2 hfb => by
      obtain ⟨N1, x1, x2, x3⟩ := y_b121 (fu := fu) (rm := rm) J hN hw h2
      exact ⟨N1, x1, x2, by rw [(y_mfact (fu := fu) (rm := rm) hf J hN hw c).2.2 hfb (fun z => w5 z.1), x3]⟩
    by_cases w6 : y_W M0 6 b
    · refine y_fact_k (sc := 6) (k := 0) hf I J hr g0 h16 (by decide) (Or.inl rfl) w6 (fun M6 e => ?_) (fun N hN hw h2 => ?_) (fun V hV => by rw [(y_tsg_k (nm := M0 163) hV (by decide : (0 : Int) ≤ 0 ∧ (0 : Int) < 8)).1]; rfl)
      · rw [hAe] at e
        show Gr_readFact_r _ _ _ _ _ _ = _
        rw [hc]
        unfold y_cx
        rw [e, bd2_some, if_neg (by decide)]
      · obtain ⟨N1, x1, x2, x3⟩ := hb121 N hN hw h2 (Or.inr (Or.inl w6))
        obtain ⟨N2, y1, y2, y3⟩ := y_xf_21 (fu := fu) (rm := rm) (L := L') hf J x1 x2 hw w6
        exact ⟨N2, y1, y2, by rw [← y3]; exact x3⟩
    have n6 := Gr_readWord_n (fu := fu) (s := 6) (by omega) I hA (by decide) w6
    by_cases w7 : y_W M0 7 b
    · refine y_fact_k (sc := 7) (k := 3) hf I J hr g0 h16 (by decide) (Or.inr rfl) w7 (fun M6 e => ?_) (fun N hN hw h2 => ?_) (fun V hV => by rw [(y_tsg_k (nm := M0 163) hV (by decide : (0 : Int) ≤ 0 ∧ (0 : Int) < 8)).2.1]; rfl)
      · rw [hAe] at e
        show Gr_readFact_r _ _ _ _ _ _ = _
        rw [hc]
        unfold y_cx
        rw [n6, bd2_some, if_pos rfl, e, bd2_some, if_neg (by decide)]
      · obtain ⟨N1, x1, x2, x3⟩ := hb121 N hN hw h2 (Or.inr (Or.inr (Or.inr (Or.inr (Or.inl w7)))))
        obtain ⟨N2, y1, y2, y3⟩ := y_xf_24 (fu := fu) (rm := rm) (L := L') hf J x1 x2 hw w7
        exact ⟨N2, y1, y2, by rw [← y3]; exact x3⟩
    have n7 := Gr_readWord_n (fu := fu) (s := 7) (by omega) I hA (by decide) w7
    by_cases w8 : y_W M0 8 b
    · obtain ⟨M6, r1, r2, r3, r4, r5, r6⟩ := Gr_readWord_y (fu := fu) (s := 8) (by omega) I hA (by decide) w8 (by rw [a12]; omega)
      rw [if_pos (by omega)] at r2
      have s6 := sA.take r3 r2
      have a10 : M6 9 10 = M 9 10 := s6.1.2
      obtain ⟨M7, n1, n2⟩ := Gr_noteStep_y (fu := fu) I.lay (r4.ptr I) (by omega) 2 0 (-1)
      have s7 := s6.note n2
      have e12 : M7 9 12 = M6 9 12 := n2.2.2 _ _ (by omega) (by omega)
      obtain ⟨q1, q2⟩ := s7.gc g0 h16 (show M7 9 12 ≤ 2 * y_nx M0 b by omega)
      refine ⟨M7, 1, y_nx M0 b, ?_, n2.rc r4, Or.inr ⟨rfl, q1, q2⟩, fun N hN hw hg => ?_⟩
      · show Gr_readFact_r _ _ _ _ _ _ = _
        rw [hc]
        unfold y_cx
        rw [n6, bd2_some, if_pos rfl, n7, bd2_some, if_pos rfl, r1, bd2_some, if_neg (by decide), n1, bd1_some]
      · have hg4 := hg.2.1
        obtain ⟨N1, x1, x2, x3⟩ := hb121 N hN hw (by have := hg.1; omega) (Or.inr (Or.inr (Or.inr (Or.inl w8))))
        obtain ⟨N', y1, y2, y3, y4, y5⟩ := y_xf_23 (fu := fu) (rm := rm) (L := L') hf J x1 x2 hw (by omega) w8
        exact ⟨N', x3.trans y1, y4, Or.inr ⟨rfl, y3, y5, s7.gr y2 hg g0 (by omega) ⟨0, rfl, by omega, fun z => by omega⟩ (by omega) (by omega) rfl⟩⟩
    have n8 := Gr_readWord_n (fu := fu) (s := 8) (by omega) I hA (by decide) w8
    by_cases w9 : y_W M0 9 b
    · obtain ⟨M6, r1, r2, r3, r4, r5, r6⟩ := Gr_readWord_y (fu := fu) (s := 9) (by omega) I hA (by decide) w9 (by rw [a12]; omega)
      rw [if_pos (by omega)] at r2
      have s6 := sA.take r3 r2
      have a10 : M6 9 10 = M 9 10 := s6.1.2
      have p60 : M6 9 0 = 2 := (r4.ptr I) (9, 0, 2) (by decide +kernel)
      have head : Gr_readFact_r fu rc L M 9 (5 - (d : Int)) = bd2 (Gr_readLife fu L M6 9) fun M26 r25 => (if r25 = 0 then (some (M26, 0)) else (bd1 (Gr_noteStep fu L M26 9 1 0 (y_lf M0 (y_nx M0 b))) fun M34 => (some (M34, 1)))) := by
        rw [hc]
        unfold y_cx
        rw [n6, bd2_some, if_pos rfl, n7, bd2_some, if_pos rfl, n8, bd2_some, if_pos rfl, r1, bd2_some, p60, l2, if_pos rfl, rc_life (by omega) I r4, bd1_some]
        rfl
      have mm : ∀ N, y_rm M0 N b → N 154 5 = -1 → y_gr0 d M N b → ∃ N', Mo_readsFact_r fu rm L' N 154 = some N' ∧ y_mf N N' ∧ (y_lf M0 (y_nx M0 b) = -1 → N' 154 5 = y_nx M0 b ∧ ∃ b'', y_rm M0 N' b'') ∧ (y_lf M0 (y_nx M0 b) ≠ -1 → y_sm N N' (100 * y_lf M0 (y_nx M0 b) + 1) ∧ N' 154 5 = -1 ∧ y_rm M0 N' (y_nx M0 (y_nx M0 b))) := fun N hN hw hg => by
        have hg4 := hg.2.1
        obtain ⟨N1, x1, x2, x3⟩ := hb121 N hN hw (by have := hg.1; omega) (Or.inr (Or.inr (Or.inl w9)))
        obtain ⟨N', y1, y2⟩ := y_xf_22 (fu := fu) (rm := rm) (L := L') hf J x1 x2 hw (by omega) w9 (by omega)
        exact ⟨N', x3.trans y1, y2⟩
      by_cases hl : y_lf M0 (y_nx M0 b) = -1
      · refine ⟨M6, 0, y_nx M0 b, by show Gr_readFact_r _ _ _ _ _ _ = _; rw [head, Gr_readLife_n (by omega) I r4 hl, bd2_some, if_pos rfl], r4, Or.inl rfl, fun N hN hw hg => ?_⟩
        obtain ⟨N', y1, y2, y3, _⟩ := mm N hN hw hg
        exact ⟨N', y1, y2, Or.inl ⟨rfl, y3 hl⟩⟩
      · obtain ⟨M7, u1, u2, u3, u4, u5, u6⟩ := Gr_readLife_y (fu := fu) (by omega) I r4 hl (by omega)
        rw [if_pos (by omega)] at u2
        have s7 := s6.take u3 u2
        have b10 : M7 9 10 = M 9 10 := s7.1.2
        obtain ⟨M8, n1, n2⟩ := Gr_noteStep_y (fu := fu) I.lay (u4.ptr I) (by omega) 1 0 (y_lf M0 (y_nx M0 b))
        have s8 := s7.note n2
        have e12 : M8 9 12 = M7 9 12 := n2.2.2 _ _ (by omega) (by omega)
        obtain ⟨q1, q2⟩ := s8.gc g0 h16 (show M8 9 12 ≤ 2 * y_nx M0 (y_nx M0 b) by omega)
        refine ⟨M8, 1, y_nx M0 (y_nx M0 b), by show Gr_readFact_r _ _ _ _ _ _ = _; rw [head, u1, bd2_some, if_neg (by decide), n1, bd1_some], n2.rc u4, Or.inr ⟨rfl, q1, q2⟩, fun N hN hw hg => ?_⟩
        obtain ⟨N', y1, y2, _, y3⟩ := mm N hN hw hg
        obtain ⟨z1, z2, z3⟩ := y3 hl
        have w8 := I.wv.1
        have lr : 0 ≤ y_lf M0 (y_nx M0 b) ∧ y_lf M0 (y_nx M0 b) < M0 154 20 := by
          rcases y_lf_r I (y_nx M0 b) with z | z
          · exact absurd z hl
          · exact z
        exact ⟨N', y1, y2, Or.inr ⟨rfl, z2, z3, s8.gr z1 hg g0 (by omega) ⟨y_lf M0 (y_nx M0 b), by omega, by omega, fun _ => ⟨rfl, lr.2⟩⟩ (by omega) (by omega) (by rw [(y_tsg_k (nm := M0 163) (Int.le_refl 0) (show 0 ≤ y_lf M0 (y_nx M0 b) ∧ y_lf M0 (y_nx M0 b) < 8 by omega)).2.2.2.1]; rfl)⟩⟩
    have n9 := Gr_readWord_n (fu := fu) (s := 9) (by omega) I hA (by decide) w9
    have pA0 : A 9 0 = 2 := (hA.ptr I) (9, 0, 2) (by decide +kernel)
    have head : Gr_readFact_r fu rc L M 9 (5 - (d : Int)) = bd2 (Gr_readLife fu L A 9) fun M26 r25 => (if r25 = 0 then (some (M26, 0)) else (bd2 (Gr_readWord fu L M26 9 7) fun M29 r28 => (if r28 = 0 then (some (M29, 0)) else (bd2 (Gr_readNumber fu L M29 9 4 (y_lf M0 b)) fun M32 r31 => (if r31 = 0 then (some (M32, 0)) else (some (M32, 1))))))) := by
      rw [hc]
      unfold y_cx
      rw [n6, bd2_some, if_pos rfl, n7, bd2_some, if_pos rfl, n8, bd2_some, if_pos rfl, n9, bd2_some, pA0, l2, if_pos rfl, rc_life (by omega) I hA, bd1_some]
      rfl
    have wn : ∀ s, s = 21 ∨ s = 22 ∨ s = 23 ∨ s = 24 ∨ s = 25 → ¬ y_W M0 s b := fun s hs => by
      rcases hs with z | z | z | z | z <;> subst z
      · exact w6
      · exact w9
      · exact w8
      · exact w7
      · exact w5
    by_cases hl : y_lf M0 b = -1
    · refine ⟨A, 0, b, by show Gr_readFact_r _ _ _ _ _ _ = _; rw [head, Gr_readLife_n (by omega) I hA hl, bd2_some, if_pos rfl], hA, Or.inl rfl, fun N hN hw hg => ?_⟩
      obtain ⟨z1, z2⟩ := fail N hN hw
      refine ⟨y_bd N b, (y_mfact (fu := fu) (rm := rm) hf J hN hw c).1 (fun z => ?_), z1, Or.inl ⟨rfl, z2⟩⟩
      rcases z with z | z | z | z | z | z
      · exact z hl
      · exact w6 z
      · exact w9 z
      · exact w8 z
      · exact w7 z
      · exact w5 z
    · obtain ⟨M6, u1, u2, u3, u4, u5, u6⟩ := Gr_readLife_y (fu := fu) (by omega) I hA hl (by rw [a12]; omega)
      rw [if_pos (by omega)] at u2
      have s6 := sA.take u3 u2
      have hx : ∀ N, y_rm M0 N b → N 154 5 = -1 → y_gr0 d M N b → ∃ N1, y_1n N N1 ∧ y_rm M0 N1 b ∧ Mo_readsFact_r fu rm L' N 154 = y_xf fu rm L' N1 := fun N hN hw hg => hb121 N hN hw (by have := hg.1; omega) (Or.inl hl)
      have pb2 := u4.pb
      by_cases w7' : y_W M0 7 (y_nx M0 b)
      · obtain ⟨M7, r1, r2, r3, r4, r5, r6⟩ := Gr_readWord_y (fu := fu) (s := 7) (by omega) I u4 (by decide) w7' (by omega)
        rw [if_pos (by omega)] at r2
        have s7 := s6.take r3 r2
        have pb3 := r4.pb
        by_cases cn : y_N M0 99 (y_nx M0 (y_nx M0 b))
        · obtain ⟨M8, n1, n2, n3, n4, n5⟩ := Gr_readNumber_y (fu := fu) (by omega) I s7 r4 cn (by omega) (by omega) 4 (y_lf M0 b)
          obtain ⟨q1, q2⟩ := n2.gc g0 h16 n4
          have hn := of_decide_eq_true cn
          have vb := tkV_b hn.1 hn.2.1
          have v99 : y_V M0 (y_nx M0 (y_nx M0 b)) ≤ 99 := hn.2.2
          have w8 := I.wv.1
          have lr : 0 ≤ y_lf M0 b ∧ y_lf M0 b < M0 154 20 := by
            rcases y_lf_r I b with z | z
            · exact absurd z hl
            · exact z
          refine ⟨M8, 1, _, by show Gr_readFact_r _ _ _ _ _ _ = _; rw [head, u1, bd2_some, if_neg (by decide), r1, bd2_some, if_neg (by decide), n1, bd2_some, if_neg (by decide)], n3, Or.inr ⟨rfl, q1, q2⟩, fun N hN hw hg => ?_⟩
          have hg4 := hg.2.1
          obtain ⟨N1, x1, x2, x3⟩ := hx N hN hw hg
          obtain ⟨N2, y1, y2, y3⟩ := (y_xf_n (fu := fu) (rm := rm) (L := L') hf J x1 x2 hw (by omega) hl wn (by omega)).2 w7'
          obtain ⟨N', t1, t2, t3, t4, t5⟩ := y_tn_y hf J y1 y2 hw (by omega) cn (k := 4) (l := y_lf M0 b) (by omega) (by omega)
          exact ⟨N', x3.trans (y3.trans t1), t4, Or.inr ⟨rfl, t3, t5, n2.gr t2 hg g0 (by omega) ⟨y_lf M0 b, rfl, by omega, fun _ => ⟨rfl, lr.2⟩⟩ (by omega) ⟨vb.1, v99⟩ (by rw [(y_tsg_k (nm := M0 163) vb.1 (show 0 ≤ y_lf M0 b ∧ y_lf M0 b < 8 by omega)).2.2.2.2]; rfl)⟩⟩
        · refine ⟨M7, 0, _, by show Gr_readFact_r _ _ _ _ _ _ = _; rw [head, u1, bd2_some, if_neg (by decide), r1, bd2_some, if_neg (by decide), Gr_readNumber_n (by omega) I r4 cn, bd2_some, if_pos rfl], r4, Or.inl rfl, fun N hN hw hg => ?_⟩
          have hg4 := hg.2.1
          obtain ⟨N1, x1, x2, x3⟩ := hx N hN hw hg
          obtain ⟨N2, y1, y2, y3⟩ := (y_xf_n (fu := fu) (rm := rm) (L := L') hf J x1 x2 hw (by omega) hl wn (by omega)).2 w7'
          obtain ⟨z1, z2, z3⟩ := y1.bd y2 hw
          exact ⟨_, x3.trans (y3.trans (y_tn_n J y1 y2 hw cn (by omega))), z1, Or.inl ⟨rfl, z2, z3⟩⟩
      · refine ⟨M6, 0, _, by show Gr_readFact_r _ _ _ _ _ _ = _; rw [head, u1, bd2_some, if_neg (by decide), Gr_readWord_n (fu := fu) (s := 7) (by omega) I u4 (by decide) w7', bd2_some, if_pos rfl], u4, Or.inl rfl, fun N hN hw hg => ?_⟩
        have hg4 := hg.2.1
        obtain ⟨N1, x1, x2, x3⟩ := hx N hN hw hg
        obtain ⟨N', y1, y2, y3, y4⟩ := (y_xf_n (fu := fu) (rm := rm) (L := L') hf J x1 x2 hw (by omega) hl wn (by omega)).1 w7'
        exact ⟨N', x3.trans y1, y2, Or.inl ⟨rfl, y3, y4⟩⟩
  · have e16 : M 9 9 = 16 := by omega
    refine ⟨M, 0, b, k1 h16, hr, Or.inl rfl, fun N hN hw hg => ?_⟩
    obtain ⟨z1, z2⟩ := fail N hN hw
    refine ⟨y_bd N b, ?_, z1, Or.inl ⟨rfl, z2⟩⟩
    obtain ⟨x1, x2, x3⟩ := y_mfact (fu := fu) (rm := rm) hf J hN hw c
    by_cases hfb : y_fb M0 b
    · by_cases hw5 : y_W M0 25 b ∧ N 154 13 = 5
      · exact x2 hfb hw5.1 hw5.2
      · show Mo_readsFact_r _ _ _ _ _ = _
        rw [x3 hfb hw5]
        unfold Mo_readsFact_b121
        rw [l4, if_pos rfl, Mo_oneFact_n J hN (by have := hg.1; omega), bd1_some, if_neg (by rw [z2.1]; omega)]
    · exact x1 hfb
end
