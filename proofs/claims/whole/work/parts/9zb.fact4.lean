/-! ===== pure: part 9zb: facts: the model's ends ===== -/
section
variable {fu : Nat} {L : zL} {M0 M M1 N N1 N2 : zM} {top b b1 : Int}
/-- a fact was counted, parts were taken -/
def y_1n (N N1 : zM) : Prop := (N1 159 2 = N 159 2 + 1 ∧ ∀ x, x ≠ 2 → N1 159 x = N 159 x) ∧ N1 154 13 = N 154 13 ∧ N1 154 5 = N 154 5 ∧ y_mf N N1
theorem y_1n.no (h : y_1n N N1) (o : NOff N1 N2) : y_1n N N2 := by
  obtain ⟨⟨a1, a2⟩, a3, a4, a5⟩ := h
  exact ⟨⟨(o _ _ (by omega)).trans a1, fun x hx => (o _ _ (by omega)).trans (a2 x hx)⟩, (o _ _ (by omega)).trans a3, (o _ _ (by omega)).trans a4, a5.trans o.mf⟩
theorem y_1n.ly {s : Int} (h0 : 0 ≤ N 159 4) (h : y_1n N N1) (y : y_ly N1 N2 s) : y_sm N N2 s ∧ N2 154 5 = N 154 5 ∧ y_mf N N2 := by
  obtain ⟨⟨a1, a2⟩, a3, a4, a5⟩ := h
  have e4 := a2 4 (by decide)
  have y1 := y.1
  have y2 := y.2.1
  have y3 := y.2.2
  rw [e4] at y1 y2 y3
  refine ⟨⟨?_, y2, y1, ?_, fun x hx => ?_⟩, ?_, a5.trans y.mf⟩
  · exact (y3 _ _ (by omega)).trans a1
  · exact (y3 _ _ (by omega)).trans a3
  · exact (y3 _ _ (by omega)).trans (a2 x (by omega))
  · exact (y3 _ _ (by omega)).trans a4
theorem y_1n.bd (h : y_1n N N1) (hN : y_rm M0 N1 b) (hw : N 154 5 = -1) : y_mf N (y_bd N1 b) ∧ y_bd N1 b 154 5 = b ∧ ∃ b'', y_rm M0 (y_bd N1 b) b'' :=
  ⟨h.2.2.2.mu (by omega), by rw [y_bd_w, if_pos (h.2.2.1.trans hw)], _, hN.bad⟩
/-- a number, then a sign -/
abbrev y_tn (fu : Nat) (L : zL) (N : zM) (k l : Int) : Option zM := bd2 (Mo_takesNumber fu L N 154 99) fun M r => bd1 (Mo_lays fu L M 154 k l r) fun M' => some M'
theorem y_tn_y (hf : 42000 ≤ fu) (I : y_inv L M0 top) (h : y_1n N N1) (hN : y_rm M0 N1 b) (hw : N 154 5 = -1) (h4 : 0 ≤ N 159 4 ∧ N 159 4 ≤ 309) (c : y_N M0 99 b) {k l : Int} (hk : 0 ≤ k ∧ k ≤ 9) (hl : 0 ≤ l ∧ l ≤ 7) :
    ∃ N', y_tn fu L N1 k l = some N' ∧ y_sm N N' (10000 * y_V M0 b + 100 * l + k) ∧ N' 154 5 = -1 ∧ y_mf N N' ∧ y_rm M0 N' (y_nx M0 b) := by
  obtain ⟨N2, n1, n2, n3⟩ := rm_tnum_y (fu := fu) (by omega) I hN (h.2.2.1.trans hw) c
  have h2 := h.no n2
  have hn := of_decide_eq_true c
  have vb := tkV_b hn.1 hn.2.1
  have v99 : y_V M0 b ≤ 99 := hn.2.2
  obtain ⟨N', y1, y2⟩ := Mo_lays_y (fu := fu) (k := k) (l := l) (n := y_V M0 b) I.lay (n3.ptr I) (h2.2.2.1.trans hw) (by rw [h2.1.2 4 (by decide)]; exact h4) hk hl ⟨vb.1, v99⟩
  obtain ⟨z1, z2, z3⟩ := h2.ly h4.1 y2
  refine ⟨N', ?_, z1, z2.trans hw, z3, y2.rm n3⟩
  show bd2 _ _ = _
  rw [n1, bd2_some, y1, bd1_some]
theorem y_tn_n (I : y_inv L M0 top) (h : y_1n N N1) (hN : y_rm M0 N1 b) (hw : N 154 5 = -1) (c : ¬ y_N M0 99 b) {k l : Int} (hb : 0 ≤ b) : y_tn fu L N1 k l = some (y_bd N1 b) := by
  show bd2 _ _ = _
  rw [rm_tnum_n I hN (fun z => c z.2), bd2_some, Mo_lays_n I.lay (by rw [(h.bd hN hw).2.1]; omega), bd1_some]
/-- what the model does once a fact is counted -/
abbrev y_xf (fu : Nat) (rec : zt_Mo_readsAll) (L : zL) (M24 : zM) : Option zM :=
  bd2 (Mo_takesWord fu L M24 154 21) fun M27 r26 => (if r26 = 0 then (bd2 (Mo_takesWord fu L M27 154 22) fun M30 r29 => (if r29 = 0 then (bd2 (Mo_takesWord fu L M30 154 23) fun M33 r32 => (if r32 = 0 then (bd2 (Mo_takesWord fu L M33 154 24) fun M36 r35 => (if r35 = 0 then (bd2 (Mo_takesWord fu L M36 154 25) fun M39 r38 => (if r38 = 0 then (bd2 (Mo_takesLife fu L M39 154) fun M42 r41 => (bd1 (Mo_mustWord fu L M42 154 24) fun M44 => (bd2 (Mo_takesNumber fu L M44 154 99) fun M47 r46 => (bd1 (Mo_lays fu L M47 154 4 r41 r46) fun M49 => (some M49))))) else (lt1 (mu M39 154 13 (w32 ((M39 154 13) + 1))) fun M51 => (bd2 (Mo_takesNumber fu L M51 154 99) fun M54 r53 => (bd1 (Mo_lays fu L M54 154 5 0 r53) fun M56 => (if ((M56 154 5) : Int) = (-1) then (bd1 (rec.2.1 M56 154) fun M58 => (lt1 (mu M58 154 13 (w32 ((M58 154 13) - 1))) fun M60 => (some M60))) else (lt1 (mu M56 154 13 (w32 ((M56 154 13) - 1))) fun M62 => (some M62)))))))) else (bd2 (Mo_takesNumber fu L M36 154 99) fun M65 r64 => (bd1 (Mo_lays fu L M65 154 3 0 r64) fun M67 => (some M67))))) else (bd1 (Mo_lays fu L M33 154 2 0 0) fun M69 => (some M69)))) else (bd2 (Mo_takesLife fu L M30 154) fun M72 r71 => (bd1 (Mo_lays fu L M72 154 1 r71 0) fun M74 => (some M74))))) else (bd2 (Mo_takesNumber fu L M27 154 99) fun M77 r76 => (bd1 (Mo_lays fu L M77 154 0 0 r76) fun M79 => (some M79))))
theorem y_b121 (I : y_inv L M0 top) {rm : zt_Mo_readsAll} (hN : y_rm M0 N b) (hw : N 154 5 = -1) (h : 0 ≤ N 159 2 ∧ N 159 2 < 16) : ∃ N1, y_1n N N1 ∧ y_rm M0 N1 b ∧ Mo_readsFact_b121 fu rm L N 154 = y_xf fu rm L N1 := by
  have l4 : L 154 = (13, 0) := I.lay 154 (by decide)
  obtain ⟨N1, q⟩ := Mo_oneFact_y (fu := fu) I hN h.2
  rcases q with ⟨q1, q2, q3, q4, _⟩ | q
  · have w1 : N1 154 5 = -1 := (q3 _ _ (by omega)).trans hw
    refine ⟨N1, ⟨⟨q2, fun x hx => q3 _ _ (by omega)⟩, q3 _ _ (by omega), q3 _ _ (by omega), fun a i c1 c2 c3 c4 => q3 a i (by omega)⟩, q4, ?_⟩
    unfold Mo_readsFact_b121
    rw [l4, if_pos rfl, q1, bd1_some, if_pos w1]
  · omega
/-- the words one after another -/
theorem y_xf_21 (hf : 42000 ≤ fu) (I : y_inv L M0 top) {rm : zt_Mo_readsAll} (h : y_1n N N1) (hN : y_rm M0 N1 b) (hw : N 154 5 = -1) (c : y_W M0 21 b) : ∃ N2, y_1n N N2 ∧ y_rm M0 N2 (y_nx M0 b) ∧ y_xf fu rm L N1 = y_tn fu L N2 0 0 := by
  obtain ⟨N2, n1, n2, n3⟩ := rm_tword_y (fu := fu) (s := 21) (by omega) I hN (h.2.2.1.trans hw) (by decide) c
  refine ⟨N2, h.no n2, n3, ?_⟩
  unfold y_xf
  rw [n1, bd2_some, if_neg (by decide)]
theorem y_xf_24 (hf : 42000 ≤ fu) (I : y_inv L M0 top) {rm : zt_Mo_readsAll} (h : y_1n N N1) (hN : y_rm M0 N1 b) (hw : N 154 5 = -1) (c : y_W M0 24 b) : ∃ N2, y_1n N N2 ∧ y_rm M0 N2 (y_nx M0 b) ∧ y_xf fu rm L N1 = y_tn fu L N2 3 0 := by
  obtain ⟨N2, n1, n2, n3⟩ := rm_tword_y (fu := fu) (s := 24) (by omega) I hN (h.2.2.1.trans hw) (by decide) c
  refine ⟨N2, h.no n2, n3, ?_⟩
  unfold y_xf
  rw [rm_tword_n (fu := fu) (s := 21) (by omega) I hN (by decide) (fun z => y_W_ne z.2 (by decide) c), bd2_some, if_pos rfl, rm_tword_n (fu := fu) (s := 22) (by omega) I hN (by decide) (fun z => y_W_ne z.2 (by decide) c), bd2_some, if_pos rfl, rm_tword_n (fu := fu) (s := 23) (by omega) I hN (by decide) (fun z => y_W_ne z.2 (by decide) c), bd2_some, if_pos rfl, n1, bd2_some, if_neg (by decide)]
theorem y_xf_23 (hf : 42000 ≤ fu) (I : y_inv L M0 top) {rm : zt_Mo_readsAll} (h : y_1n N N1) (hN : y_rm M0 N1 b) (hw : N 154 5 = -1) (h4 : 0 ≤ N 159 4 ∧ N 159 4 ≤ 309) (c : y_W M0 23 b) : ∃ N', y_xf fu rm L N1 = some N' ∧ y_sm N N' 2 ∧ N' 154 5 = -1 ∧ y_mf N N' ∧ y_rm M0 N' (y_nx M0 b) := by
  obtain ⟨N2, n1, n2, n3⟩ := rm_tword_y (fu := fu) (s := 23) (by omega) I hN (h.2.2.1.trans hw) (by decide) c
  have h2 := h.no n2
  obtain ⟨N', y1, y2⟩ := Mo_lays_y (fu := fu) (k := 2) (l := 0) (n := 0) I.lay (n3.ptr I) (h2.2.2.1.trans hw) (by rw [h2.1.2 4 (by decide)]; exact h4) (by decide) (by decide) (by decide)
  obtain ⟨z1, z2, z3⟩ := h2.ly h4.1 y2
  refine ⟨N', ?_, z1, z2.trans hw, z3, y2.rm n3⟩
  unfold y_xf
  rw [rm_tword_n (fu := fu) (s := 21) (by omega) I hN (by decide) (fun z => y_W_ne z.2 (by decide) c), bd2_some, if_pos rfl, rm_tword_n (fu := fu) (s := 22) (by omega) I hN (by decide) (fun z => y_W_ne z.2 (by decide) c), bd2_some, if_pos rfl, n1, bd2_some, if_neg (by decide), y1, bd1_some]
theorem y_xf_22 (hf : 42000 ≤ fu) (I : y_inv L M0 top) {rm : zt_Mo_readsAll} (h : y_1n N N1) (hN : y_rm M0 N1 b) (hw : N 154 5 = -1) (h4 : 0 ≤ N 159 4 ∧ N 159 4 ≤ 309) (c : y_W M0 22 b) (hb : 0 ≤ y_nx M0 b) : ∃ N', y_xf fu rm L N1 = some N' ∧ y_mf N N' ∧ (y_lf M0 (y_nx M0 b) = -1 → N' 154 5 = y_nx M0 b ∧ ∃ b'', y_rm M0 N' b'') ∧ (y_lf M0 (y_nx M0 b) ≠ -1 → y_sm N N' (100 * y_lf M0 (y_nx M0 b) + 1) ∧ N' 154 5 = -1 ∧ y_rm M0 N' (y_nx M0 (y_nx M0 b))) := by
  obtain ⟨N2, n1, n2, n3⟩ := rm_tword_y (fu := fu) (s := 22) (by omega) I hN (h.2.2.1.trans hw) (by decide) c
  have h2 := h.no n2
  have head : y_xf fu rm L N1 = bd2 (Mo_takesLife fu L N2 154) fun M72 r71 => (bd1 (Mo_lays fu L M72 154 1 r71 0) fun M74 => (some M74)) := by
    unfold y_xf
    rw [rm_tword_n (fu := fu) (s := 21) (by omega) I hN (by decide) (fun z => y_W_ne z.2 (by decide) c), bd2_some, if_pos rfl, n1, bd2_some, if_neg (by decide)]
  by_cases hl : y_lf M0 (y_nx M0 b) = -1
  · obtain ⟨z1, z2, z3⟩ := h2.bd n3 hw
    refine ⟨y_bd N2 (y_nx M0 b), ?_, z1, fun _ => ⟨z2, z3⟩, fun z => absurd hl z⟩
    rw [head, rm_tlife_n (by omega) I n3 (fun z => z.2 hl), bd2_some, Mo_lays_n I.lay (by rw [z2]; omega), bd1_some]
  · obtain ⟨N3, l1, l2, l3⟩ := rm_tlife_y (fu := fu) (by omega) I n3 (h2.2.2.1.trans hw) hl
    have h3 := h2.no l2
    have r8 := I.wv.1
    rcases y_lf_r I (y_nx M0 b) with z | z
    · exact absurd z hl
    obtain ⟨N', y1, y2⟩ := Mo_lays_y (fu := fu) (k := 1) (l := y_lf M0 (y_nx M0 b)) (n := 0) I.lay (l3.ptr I) (h3.2.2.1.trans hw) (by rw [h3.1.2 4 (by decide)]; exact h4) (by decide) (by omega) (by decide)
    obtain ⟨z1, z2, z3⟩ := h3.ly h4.1 y2
    refine ⟨N', ?_, z3, fun z => absurd z hl, fun _ => ⟨?_, z2.trans hw, y2.rm l3⟩⟩
    · rw [head, l1, bd2_some, y1, bd1_some]
    · rw [show 100 * y_lf M0 (y_nx M0 b) + 1 = 10000 * 0 + 100 * y_lf M0 (y_nx M0 b) + 1 by omega]; exact z1
/-- no word: a life's name -/
theorem y_xf_n (hf : 42000 ≤ fu) (I : y_inv L M0 top) {rm : zt_Mo_readsAll} (h : y_1n N N1) (hN : y_rm M0 N1 b) (hw : N 154 5 = -1) (h4 : 0 ≤ N 159 4 ∧ N 159 4 ≤ 309) (c : y_lf M0 b ≠ -1) (wn : ∀ s, s = 21 ∨ s = 22 ∨ s = 23 ∨ s = 24 ∨ s = 25 → ¬ y_W M0 s b) (hb : 0 ≤ y_nx M0 b) :
    (¬ y_W M0 24 (y_nx M0 b) → ∃ N', y_xf fu rm L N1 = some N' ∧ y_mf N N' ∧ N' 154 5 = y_nx M0 b ∧ ∃ b'', y_rm M0 N' b'') ∧
    (y_W M0 24 (y_nx M0 b) → ∃ N2, y_1n N N2 ∧ y_rm M0 N2 (y_nx M0 (y_nx M0 b)) ∧ y_xf fu rm L N1 = y_tn fu L N2 4 (y_lf M0 b)) := by
  obtain ⟨N2, l1, l2, l3⟩ := rm_tlife_y (fu := fu) (by omega) I hN (h.2.2.1.trans hw) c
  have h2 := h.no l2
  have head : y_xf fu rm L N1 = bd1 (Mo_mustWord fu L N2 154 24) fun M44 => y_tn fu L M44 4 (y_lf M0 b) := by
    unfold y_xf
    rw [rm_tword_n (fu := fu) (s := 21) (by omega) I hN (by decide) (fun z => wn 21 (by omega) z.2), bd2_some, if_pos rfl, rm_tword_n (fu := fu) (s := 22) (by omega) I hN (by decide) (fun z => wn 22 (by omega) z.2), bd2_some, if_pos rfl, rm_tword_n (fu := fu) (s := 23) (by omega) I hN (by decide) (fun z => wn 23 (by omega) z.2), bd2_some, if_pos rfl, rm_tword_n (fu := fu) (s := 24) (by omega) I hN (by decide) (fun z => wn 24 (by omega) z.2), bd2_some, if_pos rfl, rm_tword_n (fu := fu) (s := 25) (by omega) I hN (by decide) (fun z => wn 25 (by omega) z.2), bd2_some, if_pos rfl, l1, bd2_some]
  refine ⟨fun z => ?_, fun z => ?_⟩
  · obtain ⟨z1, z2, z3⟩ := h2.bd l3 hw
    obtain ⟨b'', z3⟩ := z3
    refine ⟨y_bd N2 (y_nx M0 b), ?_, z1, z2, b'', z3⟩
    have w : y_bd N2 (y_nx M0 b) 154 5 ≠ -1 := by rw [z2]; omega
    rw [head, rm_mword_n (fu := fu) (s := 24) (by omega) I l3 (by decide) (fun q => z q.2), bd1_some]
    show bd2 _ _ = _
    have hb3 := l3.bad
    rw [rm_tnum_n I hb3 (fun q => w q.1), bd2_some]
    have e : y_bd (y_bd N2 (y_nx M0 b)) (y_nx M0 b) = y_bd N2 (y_nx M0 b) := by
      show mu _ _ _ _ = _
      rw [if_neg w]
      exact funext fun a => funext fun i => by
        by_cases q : a = 154 ∧ i = 5
        · rw [q.1, q.2]; exact mx_same _ _ _ _
        · exact mx_ne (by omega)
    rw [e, Mo_lays_n I.lay w, bd1_some]
  · obtain ⟨N3, m1, m2, m3⟩ := rm_mword_y (fu := fu) (s := 24) (by omega) I l3 (h2.2.2.1.trans hw) (by decide) z
    refine ⟨N3, h2.no m2, m3, ?_⟩
    rw [head, m1, bd1_some]
end
