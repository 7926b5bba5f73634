/-! ===== pure: part 9c: an event, both ===== -/
section
variable {fu : Nat} {L : zL} {M0 M N : zM} {top b : Int}
theorem y_bd_r {x i : Int} (h : x ≠ 154 ∨ i ≠ 5) : y_bd N b x i = N x i := mx_ne h
theorem y_mtok {T S : zM} {x : Int} (t : MTok T x) (h1 : ∀ i, i = 2 ∨ i = 3 ∨ i = 4 ∨ i = 6 ∨ i = 7 → S 154 i = T 154 i) (h2 : S 155 = T 155) : MTok S x := by
  unfold MTok at t ⊢
  rw [h2, h1 2 (by decide), h1 4 (by decide), h1 6 (by decide), h1 3 (by decide), h1 7 (by decide)]
  exact t
theorem Mo_deed_n (hf : 400 ≤ fu) (I : y_inv L M0 top) (h : y_rm M0 N b) (he : 0 ≤ N 154 16 ∧ N 154 16 < 30) (hw : N 154 5 ≠ -1) (who : Int) :
    ∃ N', (bd1 (Mo_isWord fu L (mu N 161 (N 154 16) who) 154 22) fun r14 => (if r14 = 0 then Mo_readsEvent_b120 fu L (mu N 161 (N 154 16) who) 154 ((mu N 161 (N 154 16) who) 154 14) ((mu N 161 (N 154 16) who) 154 16) 2 else Mo_readsEvent_b120 fu L (mu N 161 (N 154 16) who) 154 ((mu N 161 (N 154 16) who) 154 14) ((mu N 161 (N 154 16) who) 154 16) 1)) = some N' ∧ y_mf N N' ∧ N' 154 5 = N 154 5 ∧ y_rm M0 N' b := by
  have l4 : L 154 = (13, 0) := I.lay 154 (by decide)
  have l60 : L 160 = (101, 30) := I.lay 160 (by decide)
  obtain ⟨e, hE⟩ : ∃ e, e = N 154 16 := ⟨_, rfl⟩
  rw [← hE] at he ⊢
  obtain ⟨A, hA⟩ : ∃ A, A = mu N 161 e who := ⟨_, rfl⟩
  rw [← hA]
  have A4 : ∀ i, A 154 i = N 154 i := fun i => by rw [hA, mx_ne (by omega)]
  have hA1 : y_rm M0 A b := ⟨by rw [hA]; exact h.1.mu (by omega), y_mtok h.2 (fun i _ => A4 i) (by rw [hA]; exact funext fun i => mx_ne (by omega))⟩
  have p14 : A 154 14 = 160 := (hA1.ptr I) (154, 14, 160) (by decide +kernel)
  have a16 : A 154 16 = e := (A4 16).trans hE.symm
  have a5 : A 154 5 ≠ -1 := by rw [A4]; exact hw
  obtain ⟨B, hB⟩ : ∃ B, B = mu A 160 e 2 := ⟨_, rfl⟩
  have B4 : ∀ i, B 154 i = N 154 i := fun i => by rw [hB, mx_ne (by omega)]; exact A4 i
  have hB1 : y_rm M0 B b := ⟨by rw [hB]; exact hA1.1.mu (by omega), y_mtok h.2 (fun i _ => B4 i) (by rw [hB, hA]; exact funext fun i => by rw [mx_ne (by omega), mx_ne (by omega)])⟩
  have b5 : B 154 5 ≠ -1 := by rw [B4]; exact hw
  have mB : y_mf N B := by rw [hB, hA]; exact ((y_mf.refl N).mu (by omega)).mu (by omega)
  have c5 : y_bd B b 154 5 = N 154 5 := by rw [y_bd_w, if_neg b5, B4]
  rw [rm_word hf I hA1 (by decide), bd1_some, p14, a16, if_neg (show ¬ (A 154 5 = -1 ∧ y_W M0 22 b) from fun z => a5 z.1), if_pos rfl]
  unfold Mo_readsEvent_b120
  rw [l60, if_pos rfl, if_pos (show 0 ≤ e ∧ e < ((101, 30) : Int × Int).2 by show 0 ≤ e ∧ e < 30; omega), lt1_def, ← hB, l4, if_pos rfl, rm_tword_n hf I hB1 (by decide) (fun z => b5 z.1), bd2_some, if_pos rfl, rm_mword_n hf I hB1 (by decide) (fun z => b5 z.1), bd1_some, lt1_def]
  refine ⟨_, rfl, (mB.mu (by omega)).mu (by omega), ?_, hB1.bad.1.mu (by omega), y_mtok hB1.bad.2 (fun i q => mx_ne (by omega)) (funext fun i => mx_ne (by omega))⟩
  rw [mx_ne (by omega)]; exact c5
/-- the model notes a year -/
theorem Mo_b57_y (I : y_inv L M0 top) (h : y_rm M0 N b) {e : Int} (hE : N 154 16 = e) (he : 0 ≤ e ∧ e < 30) (v : Int) :
    ∃ N', Mo_readsEvent_b57 fu L N 154 v = some N' ∧ y_mf N N' ∧ N' 154 5 = N 154 5 ∧ y_rm M0 N' b ∧ (N' 154 16 = e + 1 ∧ N' 154 17 = v ∧ N' 160 e = 0 ∧ N' 161 e = v) ∧ ∀ j, j < e → N' 160 j = N 160 j ∧ N' 161 j = N 161 j := by
  have l4 : L 154 = (13, 0) := I.lay 154 (by decide)
  have l60 : L 160 = (101, 30) := I.lay 160 (by decide)
  have l61 : L 161 = (101, 30) := I.lay 161 (by decide)
  have p14 : N 154 14 = 160 := (h.ptr I) (154, 14, 160) (by decide +kernel)
  have p15 : N 154 15 = 161 := (h.ptr I) (154, 15, 161) (by decide +kernel)
  have a1 : mu N 154 17 v 154 14 = 160 := by rw [mx_ne (by omega), p14]
  have a2 : mu N 154 17 v 154 16 = e := by rw [mx_ne (by omega), hE]
  have a3 : mu (mu N 154 17 v) 160 e 0 154 15 = 161 := by rw [mx_ne (by omega), mx_ne (by omega), p15]
  have a4 : mu (mu N 154 17 v) 160 e 0 154 16 = e := by rw [mx_ne (by omega), a2]
  have a5 : mu (mu (mu N 154 17 v) 160 e 0) 161 e v 154 16 = e := by rw [mx_ne (by omega), a4]
  have g1 : 0 ≤ e ∧ e < ((101, 30) : Int × Int).2 := by show 0 ≤ e ∧ e < 30; omega
  refine ⟨mu (mu (mu (mu N 154 17 v) 160 e 0) 161 e v) 154 16 (e + 1), ?_, ((((y_mf.refl N).mu (by omega)).mu (by omega)).mu (by omega)).mu (by omega), ?_, ⟨(((h.1.mu (by omega)).mu (by omega)).mu (by omega)).mu (by omega), y_mtok h.2 (fun i q => ?_) (funext fun i => ?_)⟩, ⟨mx_same _ _ _ _, ?_, ?_, ?_⟩, fun j hj => ⟨?_, ?_⟩⟩
  · unfold Mo_readsEvent_b57
    rw [l4, if_pos rfl, lt1_def, a1, l60, if_pos rfl, a2, if_pos g1, lt1_def, a3, l61, if_pos rfl, a4, if_pos g1, lt1_def, lt1_def, a5, w32_id (by omega)]
  · rw [mx_ne (by omega), mx_ne (by omega), mx_ne (by omega), mx_ne (by omega)]
  · rw [mx_ne (by omega), mx_ne (by omega), mx_ne (by omega), mx_ne (by omega)]
  · rw [mx_ne (by omega), mx_ne (by omega), mx_ne (by omega), mx_ne (by omega)]
  · rw [mx_ne (by omega), mx_ne (by omega), mx_ne (by omega), mx_same]
  · rw [mx_ne (by omega), mx_ne (by omega), mx_same]
  · rw [mx_ne (by omega), mx_same]
  · rw [mx_ne (by omega), mx_ne (by omega), mx_ne (by omega), mx_ne (by omega)]
  · rw [mx_ne (by omega), mx_ne (by omega), mx_ne (by omega), mx_ne (by omega)]
/-- what the model does beside the class's event -/
def y_evm (M0 M M' N N' : zM) (r b' : Int) : Prop := y_mf N N' ∧ ((r = 0 ∧ N' 154 5 = b' ∧ ∃ b'', y_rm M0 N' b'') ∨ (r = 1 ∧ N' 154 5 = -1 ∧ y_rm M0 N' b' ∧ (N' 154 16 = M 16 3 + 1 ∧ N' 154 17 = M' 16 4 ∧ N' 160 (M 16 3) = M' 17 (M 16 3) ∧ N' 161 (M 16 3) = M' 18 (M 16 3)) ∧ ∀ j, j < M 16 3 → N' 160 j = N 160 j ∧ N' 161 j = N 161 j))
theorem y_ev1.of {M1 M' : zM} {k v : Int} (h : y_ev1 M1 M' k v) (c : M1 16 = M 16 ∧ M1 17 = M 17 ∧ M1 18 = M 18) : y_ev1 M M' k v := by
  unfold y_ev1 at h ⊢
  rw [c.1, c.2.1, c.2.2] at h
  exact h
theorem y_event (hf : 400 ≤ fu) (I : y_inv L M0 top) (h : y_rc M0 M b) (he : 0 ≤ M 16 3 ∧ M 16 3 ≤ 30) (hy : 0 ≤ M 16 4) :
    ∃ M' r b', Sr_readEvent fu L M 16 = some (M', r) ∧ y_rc M0 M' b' ∧ (r = 0 ∨ (r = 1 ∧ M 16 3 < 30 ∧ ∃ k v, y_ev1 M M' k v)) ∧
      ∀ N, y_rm M0 N b → N 154 5 = -1 → N 154 16 = M 16 3 → N 154 17 = M 16 4 → ∃ N', Mo_readsEvent fu L N 154 = some N' ∧ y_evm M0 M M' N N' r b' := by
  have l16 : L 16 = (7, 0) := I.lay 16 (by decide)
  have l2 : L 2 = (8, 0) := I.lay 2 (by decide)
  have l4 : L 154 = (13, 0) := I.lay 154 (by decide)
  have l61 : L 161 = (101, 30) := I.lay 161 (by decide)
  have p0 : M 16 0 = 2 := (h.ptr I) (16, 0, 2) (by decide +kernel)
  have w28 : y_W M0 28 b ↔ y_W M0 12 b := Iff.rfl
  have w29 : y_W M0 29 b ↔ y_W M0 13 b := Iff.rfl
  by_cases h30 : M 16 3 < 30
  · have he' : 0 ≤ M 16 3 ∧ M 16 3 < 30 := ⟨he.1, h30⟩
    by_cases c12 : y_W M0 12 b
    · -- in N
      obtain ⟨M1, a1, a2, a3⟩ := rc_step (fu := fu) hf I h
      have r16 := a2.r16
      have p0' : M1 16 0 = 2 := (a3.ptr I) (16, 0, 2) (by decide +kernel)
      have y3 : M1 16 3 = M 16 3 := by rw [r16.1]
      have y4 : M1 16 4 = M 16 4 := by rw [r16.1]
      have cl : ∀ M' r, Sr_readYear fu L M1 16 = some (M', r) → Sr_readEvent fu L M 16 = some (M', r) := fun M' r e => by
        unfold Sr_readEvent
        rw [l16, if_pos rfl, if_pos h30, p0, l2, if_pos rfl, rc_word hf I h (by decide), if_pos c12, bd1_some, if_neg (by decide), a1, bd1_some, e, bd2_some]
      have b1 := (a3.pb).1
      rcases Sr_readYear_y (fu := fu) hf I a3 (by omega) (by omega) with ⟨c1, c2, M', d1, d2, d3⟩ | ⟨c1, d1⟩
      · have d3' := d3.of r16
        refine ⟨M', 1, _, cl _ _ d1, d2, Or.inr ⟨rfl, h30, 0, _, d3'⟩, fun N hN hw h16 h17 => ?_⟩
        obtain ⟨N1, n1, n2, n3⟩ := rm_tword_y (fu := fu) hf I hN hw (s := 28) (by decide) (w28.2 c12)
        have n5 : N1 154 5 = -1 := n2.w.trans hw
        obtain ⟨N2, m1, m2, m3⟩ := rm_tnum_y (fu := fu) hf I n3 n5 (m := 399) c1
        have m5 : N2 154 5 = -1 := m2.w.trans n5
        have e16 : N2 154 16 = M 16 3 := ((m2 _ _ (by omega)).trans (n2 _ _ (by omega))).trans h16
        have e17 : N2 154 17 = M 16 4 := ((m2 _ _ (by omega)).trans (n2 _ _ (by omega))).trans h17
        obtain ⟨N', f1, f2, f3, f4, f5, f6⟩ := Mo_b57_y (fu := fu) I m3 e16 he' (y_V M0 (y_nx M0 b))
        refine ⟨N', ?_, (n2.trans m2).mf.trans f2, Or.inr ⟨rfl, f3.trans m5, f4, ⟨f5.1, ?_, ?_, ?_⟩, fun j hj => ?_⟩⟩
        · unfold Mo_readsEvent
          rw [l4, if_pos rfl, if_neg (by omega), n1, bd2_some, if_neg (by decide), lt1_def, m1, bd2_some, if_pos m5, e17, if_neg (by omega), f1]
        · rw [f5.2.1]; exact (d3'.2.2.2.1 rfl).1.symm
        · rw [f5.2.2.1]; exact d3'.1.2.1.symm
        · rw [f5.2.2.2]; exact d3'.1.2.2.symm
        · rw [(f6 j hj).1, (f6 j hj).2, m2 _ _ (by omega), m2 _ _ (by omega), n2 _ _ (by omega), n2 _ _ (by omega)]
          exact ⟨rfl, rfl⟩
      · refine ⟨M1, 0, _, cl _ _ d1, a3, Or.inl rfl, fun N hN hw h16 h17 => ?_⟩
        obtain ⟨N1, n1, n2, n3⟩ := rm_tword_y (fu := fu) hf I hN hw (s := 28) (by decide) (w28.2 c12)
        have n5 : N1 154 5 = -1 := n2.w.trans hw
        have n4 : N1 154 4 = y_nx M0 b := n3.2.2.2.1
        by_cases c9 : y_N M0 399 (y_nx M0 b)
        · obtain ⟨N2, m1, m2, m3⟩ := rm_tnum_y (fu := fu) hf I n3 n5 (m := 399) c9
          have m5 : N2 154 5 = -1 := m2.w.trans n5
          have e16 : N2 154 16 = M 16 3 := ((m2 _ _ (by omega)).trans (n2 _ _ (by omega))).trans h16
          have e17 : N2 154 17 = M 16 4 := ((m2 _ _ (by omega)).trans (n2 _ _ (by omega))).trans h17
          have hlt : y_V M0 (y_nx M0 b) < M 16 4 := by
            by_cases z : M1 16 4 ≤ y_V M0 (y_nx M0 b)
            · exact absurd ⟨c9, z⟩ c1
            · omega
          have m6 : y_rm M0 (mu N2 154 5 (y_nx M0 b)) (y_nx M0 (y_nx M0 b)) := ⟨m3.1.mu (by omega), m3.2.bad _⟩
          obtain ⟨N', f1, f2, f3, f4, f5, f6⟩ := Mo_b57_y (fu := fu) I m6 (e := M 16 3) (by rw [mx_ne (by omega)]; exact e16) he' (y_V M0 (y_nx M0 b))
          refine ⟨N', ?_, ((n2.trans m2).mf.mu (by omega)).trans f2, Or.inl ⟨rfl, f3.trans (mx_same _ _ _ _), _, f4⟩⟩
          unfold Mo_readsEvent
          rw [l4, if_pos rfl, if_neg (by omega), n1, bd2_some, if_neg (by decide), lt1_def, m1, bd2_some, if_pos m5, e17, if_pos hlt, n4, lt1_def, f1]
        · have m1 := rm_tnum_n (fu := fu) I n3 (m := 399) (fun z => c9 z.2)
          have q5 : y_bd N1 (y_nx M0 b) 154 5 = y_nx M0 b := by rw [y_bd_w, if_pos n5]
          obtain ⟨N', f1, f2, f3, f4, f5, f6⟩ := Mo_b57_y (fu := fu) I n3.bad (e := M 16 3) (by rw [y_bd_r (by omega), n2 _ _ (by omega)]; exact h16) he' 0
          refine ⟨N', ?_, (n2.mf.mu (by omega)).trans f2, Or.inl ⟨rfl, f3.trans q5, _, f4⟩⟩
          unfold Mo_readsEvent
          rw [l4, if_pos rfl, if_neg (by omega), n1, bd2_some, if_neg (by decide), lt1_def, m1, bd2_some, q5, if_neg (by omega), f1]
    · -- WHO
      have cl : ∀ (M1 : zM) (x : Int) (R : zM × Int), (bd1 (Tp_isWord fu L M 2 13) fun r7 => (if r7 = 0 then Sr_readEvent_b87 fu L M 16 (y_lf M0 b) else (bd1 (Tp_advance fu L M 2) fun M16 => (if (L (M16 16 0)).1 = 8 then (bd1 (Tp_isNumber fu L M16 (M16 16 0) 0 23) fun r19 => (if r19 = 0 then Sr_readEvent_b87 fu L M16 16 (-1) else (lt1 (M16 (M16 16 0) 7) fun v21 => Sr_readEvent_b87 fu L M16 16 v21))) else none)))) = some R → Sr_readEvent fu L M 16 = some R := fun M1 x R e => by
        unfold Sr_readEvent
        rw [l16, if_pos rfl, if_pos h30, p0, l2, if_pos rfl, rc_word hf I h (by decide), if_neg c12, bd1_some, if_pos rfl, rc_life hf I h, bd1_some, e]
      have md : ∀ (N N1 N' : zM) (who : Int), y_rm M0 N b → N 154 5 = -1 → N 154 16 = M 16 3 → Mo_takesWho fu L N 154 = some (N1, who) → N1 154 16 = M 16 3 → (bd1 (Mo_isWord fu L (mu N1 161 (N1 154 16) who) 154 22) fun r14 => (if r14 = 0 then Mo_readsEvent_b120 fu L (mu N1 161 (N1 154 16) who) 154 ((mu N1 161 (N1 154 16) who) 154 14) ((mu N1 161 (N1 154 16) who) 154 16) 2 else Mo_readsEvent_b120 fu L (mu N1 161 (N1 154 16) who) 154 ((mu N1 161 (N1 154 16) who) 154 14) ((mu N1 161 (N1 154 16) who) 154 16) 1)) = some N' → Mo_readsEvent fu L N 154 = some N' := fun N N1 N' who hN hw h16 e1 e16 e2 => by
        have p15 : N 154 15 = 161 := (hN.ptr I) (154, 15, 161) (by decide +kernel)
        rw [e16] at e2
        unfold Mo_readsEvent
        rw [l4, if_pos rfl, if_neg (by omega), rm_tword_n hf I hN (by decide) (fun z => c12 (w28.1 z.2)), bd2_some, if_pos rfl, e1, bd2_some, p15, l61, if_pos rfl, h16, if_pos (show 0 ≤ M 16 3 ∧ M 16 3 < ((101, 30) : Int × Int).2 by show 0 ≤ M 16 3 ∧ M 16 3 < 30; omega), lt1_def, e2]
      -- both tell a deed from a place on
      have deed : ∀ (M1 : zM) (b1 who : Int), y_rc M0 M1 b1 → (M1 16 = M 16 ∧ M1 17 = M 17 ∧ M1 18 = M 18) → ∃ M' r b', Sr_readDeed fu L M1 16 who = some (M', r) ∧ y_rc M0 M' b' ∧ (r = 0 ∨ (r = 1 ∧ M 16 3 < 30 ∧ ∃ k v, y_ev1 M M' k v)) ∧
          ∀ N N1, y_rm M0 N b → N 154 5 = -1 → N 154 16 = M 16 3 → N 154 17 = M 16 4 → Mo_takesWho fu L N 154 = some (N1, who) → y_rm M0 N1 b1 → NOff N N1 → ∃ N', Mo_readsEvent fu L N 154 = some N' ∧ y_evm M0 M M' N N' r b' := fun M1 b1 who h1 r16 => by
        have y3 : M1 16 3 = M 16 3 := by rw [r16.1]
        have model : ∀ N N1, y_rm M0 N b → N 154 5 = -1 → N 154 16 = M 16 3 → N 154 17 = M 16 4 → Mo_takesWho fu L N 154 = some (N1, who) → y_rm M0 N1 b1 → NOff N N1 → ∃ N', Mo_readsEvent fu L N 154 = some N' ∧ y_mf N N' ∧
            ((y_W M0 14 b1 ∧ (y_rm M0 N' (y_nx M0 b1) ∧ N' 154 5 = -1) ∧ N' 160 (M 16 3) = 1) ∨ (¬ y_W M0 14 b1 ∧ y_W M0 15 b1 ∧ (y_rm M0 N' (y_nx M0 b1) ∧ N' 154 5 = -1) ∧ N' 160 (M 16 3) = 2) ∨ (¬ y_W M0 14 b1 ∧ ¬ y_W M0 15 b1 ∧ y_rm M0 N' b1 ∧ N' 154 5 = b1)) ∧
            (N' 154 16 = M 16 3 + 1 ∧ N' 154 17 = M 16 4 ∧ N' 161 (M 16 3) = who ∧ ∀ j, j < M 16 3 → N' 160 j = N 160 j ∧ N' 161 j = N 161 j) := fun N N1 hN hw h16 h17 e1 hN1 o1 => by
          have e16 : N1 154 16 = M 16 3 := (o1 _ _ (by omega)).trans h16
          have e17 : N1 154 17 = M 16 4 := (o1 _ _ (by omega)).trans h17
          obtain ⟨N', f1, f2, f3, f4⟩ := Mo_deed_y (fu := fu) hf I hN1 (by omega) (o1.w.trans hw) who
          rw [e16] at f3 f4
          refine ⟨N', md N N1 N' who hN hw h16 e1 e16 f1, o1.mf.trans f2, f3, f4.1, f4.2.1.trans e17, f4.2.2.1, fun j hj => ?_⟩
          rw [(f4.2.2.2 j hj).1, (f4.2.2.2 j hj).2, o1 _ _ (by omega), o1 _ _ (by omega)]
          exact ⟨rfl, rfl⟩
        rcases Sr_readDeed_y (fu := fu) hf I h1 (by omega) who with ⟨c14, M', d1, d2, d3⟩ | ⟨c14, c15, M', d1, d2, d3⟩ | ⟨c14, c15, d1⟩
        · have d3' := d3.of r16
          refine ⟨M', 1, _, d1, d2, Or.inr ⟨rfl, h30, 1, who, d3'⟩, fun N N1 hN hw h16 h17 e1 hN1 o1 => ?_⟩
          obtain ⟨N', f1, f2, f3, f4⟩ := model N N1 hN hw h16 h17 e1 hN1 o1
          rcases f3 with ⟨_, g2, g3⟩ | ⟨g1, _⟩ | ⟨g1, _⟩
          · exact ⟨N', f1, f2, Or.inr ⟨rfl, g2.2, g2.1, ⟨f4.1, by rw [f4.2.1, d3'.2.2.2.2 (by decide)], by rw [g3]; exact d3'.1.2.1.symm, by rw [f4.2.2.1]; exact d3'.1.2.2.symm⟩, f4.2.2.2⟩⟩
          · exact absurd c14 g1
          · exact absurd c14 g1
        · have d3' := d3.of r16
          refine ⟨M', 1, _, d1, d2, Or.inr ⟨rfl, h30, 2, who, d3'⟩, fun N N1 hN hw h16 h17 e1 hN1 o1 => ?_⟩
          obtain ⟨N', f1, f2, f3, f4⟩ := model N N1 hN hw h16 h17 e1 hN1 o1
          rcases f3 with ⟨g1, _⟩ | ⟨_, _, g2, g3⟩ | ⟨_, g1, _⟩
          · exact absurd g1 c14
          · exact ⟨N', f1, f2, Or.inr ⟨rfl, g2.2, g2.1, ⟨f4.1, by rw [f4.2.1, d3'.2.2.2.2 (by decide)], by rw [g3]; exact d3'.1.2.1.symm, by rw [f4.2.2.1]; exact d3'.1.2.2.symm⟩, f4.2.2.2⟩⟩
          · exact absurd c15 g1
        · refine ⟨M1, 0, _, d1, h1, Or.inl rfl, fun N N1 hN hw h16 h17 e1 hN1 o1 => ?_⟩
          obtain ⟨N', f1, f2, f3, f4⟩ := model N N1 hN hw h16 h17 e1 hN1 o1
          rcases f3 with ⟨g1, _⟩ | ⟨_, g1, _⟩ | ⟨_, _, g2, g3⟩
          · exact absurd g1 c14
          · exact absurd g1 c15
          · exact ⟨N', f1, f2, Or.inl ⟨rfl, g3, _, g2⟩⟩
      by_cases c13 : y_W M0 13 b
      · obtain ⟨M1, a1, a2, a3⟩ := rc_step (fu := fu) hf I h
        have r16 := a2.r16
        have p0' : M1 16 0 = 2 := (a3.ptr I) (16, 0, 2) (by decide +kernel)
        obtain ⟨n1, n2⟩ := rc_num (fu := fu) I a3 (lo := 0) (m := 23) (by decide) (by decide)
        by_cases c : y_N M0 23 (y_nx M0 b)
        · have hv := of_decide_eq_true c
          have v0 : 0 ≤ y_V M0 (y_nx M0 b) ∧ y_V M0 (y_nx M0 b) ≤ 999 := tkV_b hv.1 hv.2.1
          obtain ⟨M2, s1, s2, s3⟩ := rc_step (fu := fu) hf I a3
          have r16' : M2 16 = M 16 ∧ M2 17 = M 17 ∧ M2 18 = M 18 := ⟨s2.r16.1.trans r16.1, s2.r16.2.1.trans r16.2.1, s2.r16.2.2.trans r16.2.2⟩
          obtain ⟨M', r, b', d1, d2, d3, d4⟩ := deed M2 _ (y_V M0 (y_nx M0 b)) s3 r16'
          refine ⟨M', r, b', cl M 0 _ ?_, d2, d3, fun N hN hw h16 h17 => ?_⟩
          · rw [rc_word hf I h (by decide), if_pos c13, bd1_some, if_neg (by decide), a1, bd1_some, p0', l2, if_pos rfl, n1, if_pos ⟨c, v0.1⟩, bd1_some, if_neg (by decide), lt1_def, n2 c]
            unfold Sr_readEvent_b87
            rw [if_neg (show ¬ y_V M0 (y_nx M0 b) = -1 by have := v0.1; omega), l16, if_pos rfl, p0', l2, if_pos rfl, s1, bd1_some, d1, bd2_some]
          · obtain ⟨N1, m1, m2, m3⟩ := rm_tword_y (fu := fu) hf I hN hw (s := 29) (by decide) (w29.2 c13)
            obtain ⟨N2, k1, k2, k3⟩ := rm_tnum_y (fu := fu) hf I m3 (m2.w.trans hw) (m := 23) c
            refine d4 N N2 hN hw h16 h17 ?_ k3 (m2.trans k2)
            unfold Mo_takesWho
            rw [l4, if_pos rfl, m1, bd2_some, if_neg (by decide), k1, bd2_some]
        · refine ⟨M1, 0, _, cl M 0 _ ?_, a3, Or.inl rfl, fun N hN hw h16 h17 => ?_⟩
          · rw [rc_word hf I h (by decide), if_pos c13, bd1_some, if_neg (by decide), a1, bd1_some, p0', l2, if_pos rfl, n1, if_neg (fun z => c z.1), bd1_some, if_pos rfl]
            unfold Sr_readEvent_b87
            rw [if_pos rfl]
          · obtain ⟨N1, m1, m2, m3⟩ := rm_tword_y (fu := fu) hf I hN hw (s := 29) (by decide) (w29.2 c13)
            have m5 : N1 154 5 = -1 := m2.w.trans hw
            have q5 : y_bd N1 (y_nx M0 b) 154 5 = y_nx M0 b := by rw [y_bd_w, if_pos m5]
            have b1 := (a3.pb).1
            have e16 : y_bd N1 (y_nx M0 b) 154 16 = M 16 3 := by rw [y_bd_r (by omega), m2 _ _ (by omega)]; exact h16
            obtain ⟨N', f1, f2, f3, f4⟩ := Mo_deed_n (fu := fu) hf I m3.bad (by omega) (by omega) 0
            refine ⟨N', md N _ N' 0 hN hw h16 ?_ e16 f1, (m2.mf.mu (by omega)).trans f2, Or.inl ⟨rfl, f3.trans q5, _, f4⟩⟩
            unfold Mo_takesWho
            rw [l4, if_pos rfl, m1, bd2_some, if_neg (by decide), rm_tnum_n I m3 (fun z => c z.2), bd2_some]
      · have who_n : ∀ N, y_rm M0 N b → Mo_takesWord fu L N 154 29 = some (N, 0) := fun N hN => rm_tword_n hf I hN (by decide) (fun z => c13 (w29.1 z.2))
        by_cases c : y_lf M0 b = -1
        · refine ⟨M, 0, _, cl M 0 _ ?_, h, Or.inl rfl, fun N hN hw h16 h17 => ?_⟩
          · rw [rc_word hf I h (by decide), if_neg c13, bd1_some, if_pos rfl]
            unfold Sr_readEvent_b87
            rw [if_pos c]
          · have q5 : y_bd N b 154 5 = b := by rw [y_bd_w, if_pos hw]
            have b1 := h.pb.1
            have e16 : y_bd N b 154 16 = M 16 3 := (y_bd_r (by omega)).trans h16
            obtain ⟨N', f1, f2, f3, f4⟩ := Mo_deed_n (fu := fu) hf I hN.bad (by omega) (by omega) 0
            refine ⟨N', md N _ N' 0 hN hw h16 ?_ e16 f1, ((y_mf.refl N).mu (by omega)).trans f2, Or.inl ⟨rfl, f3.trans q5, _, f4⟩⟩
            unfold Mo_takesWho
            rw [l4, if_pos rfl, who_n N hN, bd2_some, if_pos rfl, rm_tlife_n hf I hN (fun z => z.2 c), bd2_some]
        · obtain ⟨M1, a1, a2, a3⟩ := rc_step (fu := fu) hf I h
          obtain ⟨M', r, b', d1, d2, d3, d4⟩ := deed M1 _ (y_lf M0 b) a3 a2.r16
          refine ⟨M', r, b', cl M 0 _ ?_, d2, d3, fun N hN hw h16 h17 => ?_⟩
          · rw [rc_word hf I h (by decide), if_neg c13, bd1_some, if_pos rfl]
            unfold Sr_readEvent_b87
            rw [if_neg c, l16, if_pos rfl, p0, l2, if_pos rfl, a1, bd1_some, d1, bd2_some]
          · obtain ⟨N1, k1, k2, k3⟩ := rm_tlife_y (fu := fu) hf I hN hw c
            refine d4 N N1 hN hw h16 h17 ?_ k3 k2
            unfold Mo_takesWho
            rw [l4, if_pos rfl, who_n N hN, bd2_some, if_pos rfl, k1, bd2_some]
  · refine ⟨M, 0, b, ?_, h, Or.inl rfl, fun N hN hw h16 h17 => ?_⟩
    · unfold Sr_readEvent
      rw [l16, if_pos rfl, if_neg h30]
    · refine ⟨y_bd N b, ?_, (y_mf.refl N).mu (by omega), Or.inl ⟨rfl, by rw [y_bd_w, if_pos hw], _, hN.bad⟩⟩
      unfold Mo_readsEvent
      rw [l4, if_pos rfl, if_pos (by omega), rm_bad I hN, bd1_some]
end
