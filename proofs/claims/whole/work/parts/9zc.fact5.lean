/-! ===== pure: part 9zc: simple facts, read by both ===== -/
section
variable {fu : Nat} {L : zL} {M0 M M1 N N1 N2 : zM} {top b b1 : Int}
theorem y_sa0 (M : zM) : y_sa M (mu M 9 9 (M 9 9 + 1)) [] :=
  ⟨⟨mx_same _ _ _ _, mx_ne (by omega)⟩, ⟨by rw [mx_ne (by omega)]; show _ = _ + 0; omega, fun x _ => mx_ne (by omega), fun x hx => absurd hx (Nat.not_lt_zero _)⟩, fun a i q1 q2 q3 => mx_ne (by omega)⟩
theorem y_sa0_rc (hr : y_rc M0 M b) : y_rc M0 (mu M 9 9 (M 9 9 + 1)) b := by
  refine ⟨hr.1.trans fun a i c => mx_ne (by omega), ?_⟩
  have t := hr.2
  have e3 : mu M 9 9 (M 9 9 + 1) 3 = M 3 := funext fun i => mx_ne (by omega)
  unfold CTok at t ⊢
  rw [e3, mx_ne (by omega), mx_ne (by omega), mx_ne (by omega), mx_ne (by omega), mx_ne (by omega)]
  exact t
theorem y_tsg_k {nm : Int → Int} {V l : Int} (hV : 0 ≤ V) (hl : 0 ≤ l ∧ l < 8) : y_tsg nm (10000 * V + 100 * 0 + 0) = [121, 101, 97, 114, 115, 32] ++ y_num V ∧ y_tsg nm (10000 * V + 100 * 0 + 3) = [114, 101, 97, 99, 104, 101, 115, 32] ++ y_num V ∧ y_tsg nm 2 = [98, 111, 114, 110] ∧ y_tsg nm (100 * l + 1) = [100, 105, 101, 115, 32] ++ [97 + nm l] ∧ y_tsg nm (10000 * V + 100 * l + 4) = [97 + nm l] ++ [32, 114, 101, 97, 99, 104, 101, 115, 32] ++ y_num V := by
  refine ⟨?_, ?_, rfl, ?_, ?_⟩
  · unfold y_tsg
    rw [if_pos (by omega), show (10000 * V + 100 * 0 + 0) / 10000 = V by omega]
  · unfold y_tsg
    rw [if_neg (by omega), if_neg (by omega), if_neg (by omega), if_pos (by omega), show (10000 * V + 100 * 0 + 3) / 10000 = V by omega]
  · unfold y_tsg
    rw [if_neg (by omega), if_pos (by omega), show (100 * l + 1) / 100 % 100 = l by omega]
  · unfold y_tsg
    rw [if_neg (by omega), if_neg (by omega), if_neg (by omega), if_neg (by omega), if_pos (by omega), show (10000 * V + 100 * l + 4) / 10000 = V by omega, show (10000 * V + 100 * l + 4) / 100 % 100 = l by omega]
/-- a fact of a word and a number -/
theorem y_fact_k (hf : 42000 ≤ fu) (I : y_inv L M0 top) {d : Nat} (hr : y_rc M0 M b) (g0 : y_gc0 M b) (h16 : M 9 9 < 16) {cf : zM → Option (zM × Int)} {mf : zM → Option zM} {sc : Nat} {k : Int} (hsc : sc < zstr.length) (hk : k = 0 ∨ k = 3) (w : y_W M0 sc b)
    (hcl : ∀ M6, Gr_readWord fu L (mu M 9 9 (M 9 9 + 1)) 9 sc = some (M6, 1) → cf M = bd2 (Gr_readNumber fu L M6 9 k (-1)) fun M42 r41 => some (M42, r41))
    (hml : ∀ N, y_rm M0 N b → N 154 5 = -1 → 0 ≤ N 159 2 ∧ N 159 2 < 16 → ∃ N2, y_1n N N2 ∧ y_rm M0 N2 (y_nx M0 b) ∧ mf N = y_tn fu L N2 k 0)
    (ht : ∀ V, 0 ≤ V → ([] ++ ([32] ++ (zstr.getD sc []).map (fun (c : Nat) => (c : Int)))) ++ ([32] ++ y_num V) = 32 :: y_tsg (M0 163) (10000 * V + 100 * 0 + k)) : y_bdy M0 0 d cf mf M b := by
  have hA := y_sa0_rc hr
  have sA := y_sa0 M
  have a12 : mu M 9 9 (M 9 9 + 1) 9 12 = M 9 12 := mx_ne (by omega)
  have g1 := g0.1
  have g2 := g0.2.1
  have g3 := g0.2.2
  have hn3 := I.2.1.1.2.1
  have pb := hr.pb
  obtain ⟨M6, r1, r2, r3, r4, r5, r6⟩ := Gr_readWord_y (fu := fu) (by omega) I hA hsc w (by rw [a12]; omega)
  rw [if_pos (by omega)] at r2
  have s6 := sA.take r3 r2
  have hc := hcl M6 r1
  by_cases c : y_N M0 99 (y_nx M0 b)
  · obtain ⟨M7, n1, n2, n3, n4, n5⟩ := Gr_readNumber_y (fu := fu) (by omega) I s6 r4 c (by omega) (by omega) k (-1)
    obtain ⟨q1, q2⟩ := n2.gc g0 h16 n4
    have hn := of_decide_eq_true c
    have vb := tkV_b hn.1 hn.2.1
    have v99 : y_V M0 (y_nx M0 b) ≤ 99 := hn.2.2
    refine ⟨M7, 1, y_nx M0 (y_nx M0 b), by rw [hc, n1, bd2_some], n3, Or.inr ⟨rfl, q1, q2⟩, fun N hN hw hg => ?_⟩
    obtain ⟨N2, m1, m2, m3⟩ := hml N hN hw (by have := hg.1; omega)
    have hg4 := hg.2.1
    obtain ⟨N', t1, t2, t3, t4, t5⟩ := y_tn_y hf I m1 m2 hw (by omega) c (k := k) (l := 0) (by omega) (by omega)
    refine ⟨N', by rw [m3, t1], t4, Or.inr ⟨rfl, t3, t5, n2.gr t2 hg g0 (by omega) ⟨0, rfl, by omega, fun z => by omega⟩ (by omega) ⟨vb.1, v99⟩ (ht _ vb.1)⟩⟩
  · refine ⟨M6, 0, y_nx M0 b, by rw [hc, Gr_readNumber_n (by omega) I r4 c, bd2_some], r4, Or.inl rfl, fun N hN hw hg => ?_⟩
    obtain ⟨N2, m1, m2, m3⟩ := hml N hN hw (by have := hg.1; omega)
    obtain ⟨z1, z2, z3⟩ := m1.bd m2 hw
    exact ⟨y_bd N2 (y_nx M0 b), by rw [m3, y_tn_n I m1 m2 hw c (by omega)], z1, Or.inl ⟨rfl, z2, z3⟩⟩
/-- what the class does once a fact is counted and no year is awaited -/
abbrev y_cx (fu : Nat) (L : zL) (M5 : zM) : Option (zM × Int) :=
  bd2 (Gr_readWord fu L M5 9 6) fun M11 r10 => (if r10 = 0 then (bd2 (Gr_readWord fu L M11 9 7) fun M14 r13 => (if r13 = 0 then (bd2 (Gr_readWord fu L M14 9 8) fun M17 r16 => (if r16 = 0 then (bd2 (Gr_readWord fu L M17 9 9) fun M20 r19 => (if (L (M20 9 0)).1 = 8 then (bd1 (Tp_lifeNamed fu L M20 (M20 9 0)) fun r23 => (bd2 (Gr_readLife fu L M20 9) fun M26 r25 => (if r25 = 0 then (some (M26, 0)) else (if r19 = 0 then (bd2 (Gr_readWord fu L M26 9 7) fun M29 r28 => (if r28 = 0 then (some (M29, 0)) else (bd2 (Gr_readNumber fu L M29 9 4 r23) fun M32 r31 => (if r31 = 0 then (some (M32, 0)) else (some (M32, 1)))))) else (bd1 (Gr_noteStep fu L M26 9 1 0 r23) fun M34 => (some (M34, 1))))))) else none)) else (bd1 (Gr_noteStep fu L M17 9 2 0 (-1)) fun M36 => (some (M36, 1))))) else (bd2 (Gr_readNumber fu L M14 9 3 (-1)) fun M39 r38 => (some (M39, r38))))) else (bd2 (Gr_readNumber fu L M11 9 0 (-1)) fun M42 r41 => (some (M42, r41))))
theorem y_cfact (hf : 42000 ≤ fu) (I : y_inv L M0 top) {rc : zt_Gr_readAfter} {dp : Int} (hr : y_rc M0 M b) (c : ¬ y_G M0 40 b) (h : 0 ≤ M 9 9) : (¬ M 9 9 < 16 → Gr_readFact_r fu rc L M 9 dp = some (M, 0)) ∧ (M 9 9 < 16 → Gr_readFact_r fu rc L M 9 dp = if y_W M0 5 b then (bd2 (rc.1 (mu M 9 9 (M 9 9 + 1)) 9 dp) fun M45 r44 => (some (M45, r44))) else y_cx fu L (mu M 9 9 (M 9 9 + 1))) := by
  have l9 : L 9 = (5, 0) := I.lay 9 (by decide)
  have l2 : L 2 = (8, 0) := I.lay 2 (by decide)
  have p0 : M 9 0 = 2 := (hr.ptr I) (9, 0, 2) (by decide +kernel)
  have pA0 : mu M 9 9 (M 9 9 + 1) 9 0 = 2 := (mx_ne (by omega)).trans p0
  have hA := y_sa0_rc hr
  refine ⟨fun z => ?_, fun z => ?_⟩
  · unfold Gr_readFact_r
    rw [l9, if_pos rfl, p0, l2, if_pos rfl, rc_sign I hr, if_neg c, bd1_some, if_pos rfl, if_neg z]
  · unfold Gr_readFact_r
    rw [l9, if_pos rfl, p0, l2, if_pos rfl, rc_sign I hr, if_neg c, bd1_some, if_pos rfl, if_pos z, w32_id (by omega), lt1_def, pA0, l2, if_pos rfl, rc_word (s := 5) (by omega) I hA (by decide)]
    by_cases w : y_W M0 5 b
    · rw [if_pos w, bd1_some, if_neg (by decide), if_pos w]
    · rw [if_neg w, bd1_some, if_pos rfl, if_neg w]
end
