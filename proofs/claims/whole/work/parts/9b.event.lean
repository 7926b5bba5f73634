/-! ===== pure: part 9b: an event of a story ===== -/
/-- what the model's readers of gifts, stories change -/
def y_mf (N N' : zM) : Prop := ∀ a i, ¬ (a = 154 ∧ ((3 ≤ i ∧ i ≤ 7) ∨ i = 13 ∨ i = 16 ∨ i = 17)) → a ≠ 159 → a ≠ 160 → a ≠ 161 → N' a i = N a i
theorem y_mf.refl (N : zM) : y_mf N N := fun _ _ _ _ _ _ => rfl
theorem y_mf.trans {A B C : zM} (h : y_mf A B) (h2 : y_mf B C) : y_mf A C := fun a i c1 c2 c3 c4 => (h2 a i c1 c2 c3 c4).trans (h a i c1 c2 c3 c4)
theorem NOff.mf {A B : zM} (h : NOff A B) : y_mf A B := fun a i c1 c2 c3 c4 => h a i (by omega)
theorem QOff.mf {A B : zM} (h : QOff A B) : y_mf A B := fun a i c1 c2 c3 c4 => h a i (by omega)
theorem y_mf.mu {A B : zM} (h : y_mf A B) {a i v : Int} (c : (a = 154 ∧ ((3 ≤ i ∧ i ≤ 7) ∨ i = 13 ∨ i = 16 ∨ i = 17)) ∨ a = 159 ∨ a = 160 ∨ a = 161) : y_mf A (mu B a i v) := fun x j c1 c2 c3 c4 => by
  rw [mx_ne (by omega)]; exact h x j c1 c2 c3 c4
theorem y_mf.off {A B : zM} (h : y_mf A B) : y_off A B := fun a i c => h a i (by omega) (by omega) (by omega) (by omega)
section
variable {fu : Nat} {L : zL} {M0 M N : zM} {top b : Int}
/-- the class's reader of a story notes -/
def y_snt (M : zM) (k v : Int) : zM := mu (mu (mu M 17 (M 16 3) k) 18 (M 16 3) v) 16 3 (M 16 3 + 1)
theorem Sr_note_y (hL : Lay L) (hP : Ptr M) (h : 0 ≤ M 16 3 ∧ M 16 3 < 30) (k v : Int) : Sr_note fu L M 16 k v = some (y_snt M k v) := by
  have l16 : L 16 = (7, 0) := hL 16 (by decide)
  have l17 : L 17 = (101, 30) := hL 17 (by decide)
  have l18 : L 18 = (101, 30) := hL 18 (by decide)
  have q1 : M 16 1 = 17 := hP (16, 1, 17) (by decide +kernel)
  have q2 : M 16 2 = 18 := hP (16, 2, 18) (by decide +kernel)
  unfold Sr_note y_snt
  generalize hn : M 16 3 = n at *
  have a2 : mu M 17 n k 16 2 = 18 := by rw [mx_ne (by omega), q2]
  have a3 : mu M 17 n k 16 3 = n := by rw [mx_ne (by omega), hn]
  have a4 : mu (mu M 17 n k) 18 n v 16 3 = n := by rw [mx_ne (by omega), a3]
  have g1 : n < ((101, 30) : Int × Int).2 := by show n < 30; omega
  rw [l16, if_pos rfl, if_neg (by omega), q1, l17, if_pos rfl, if_pos g1, q2, l18, if_pos rfl, if_pos g1, if_pos ⟨h.1, g1⟩, lt1_def, a2, a3, l18, if_pos rfl, if_pos ⟨h.1, g1⟩, lt1_def, lt1_def, a4, w32_id (by omega)]
theorem y_snt_off (h : y_off M0 M) (k v : Int) : y_off M0 (y_snt M k v) := ((h.mu (by omega)).mu (by omega)).mu (by omega)
theorem y_snt_tok (h : CTok M b) (k v : Int) : CTok (y_snt M k v) b := by
  have e : ∀ a i, a ≠ 17 → a ≠ 18 → a ≠ 16 → y_snt M k v a i = M a i := fun a i h1 h2 h3 => by
    unfold y_snt; rw [mx_ne (by omega), mx_ne (by omega), mx_ne (by omega)]
  have e3 : y_snt M k v 3 = M 3 := funext fun i => e 3 i (by decide) (by decide) (by decide)
  unfold CTok at h ⊢
  rw [e3, e 2 2 (by decide) (by decide) (by decide), e 2 5 (by decide) (by decide) (by decide), e 2 4 (by decide) (by decide) (by decide), e 2 6 (by decide) (by decide) (by decide), e 2 7 (by decide) (by decide) (by decide)]
  exact h
theorem y_snt_rd (M : zM) (k v : Int) : (y_snt M k v 16 3 = M 16 3 + 1 ∧ y_snt M k v 16 4 = M 16 4) ∧ (y_snt M k v 17 (M 16 3) = k ∧ y_snt M k v 18 (M 16 3) = v) ∧ ∀ j, j < M 16 3 → y_snt M k v 17 j = M 17 j ∧ y_snt M k v 18 j = M 18 j := by
  unfold y_snt
  refine ⟨⟨mx_same _ _ _ _, ?_⟩, ⟨?_, ?_⟩, fun j hj => ⟨?_, ?_⟩⟩
  · rw [mx_ne (by omega), mx_ne (by omega), mx_ne (by omega)]
  · rw [mx_ne (by omega), mx_ne (by omega), mx_same]
  · rw [mx_ne (by omega), mx_same]
  · rw [mx_ne (by omega), mx_ne (by omega), mx_ne (by omega)]
  · rw [mx_ne (by omega), mx_ne (by omega), mx_ne (by omega)]
theorem COff.r16 {M M' : zM} (h : COff M M') : M' 16 = M 16 ∧ M' 17 = M 17 ∧ M' 18 = M 18 := ⟨funext fun i => h 16 i (by omega), funext fun i => h 17 i (by omega), funext fun i => h 18 i (by omega)⟩
/-- what an event that was read adds: what, who; the year -/
def y_ev1 (M M' : zM) (k v : Int) : Prop := (M' 16 3 = M 16 3 + 1 ∧ M' 17 (M 16 3) = k ∧ M' 18 (M 16 3) = v) ∧ (∀ j, j < M 16 3 → M' 17 j = M 17 j ∧ M' 18 j = M 18 j) ∧ ((0 ≤ k ∧ k ≤ 2) ∧ (k = 0 → M' 16 4 = v ∧ M 16 4 ≤ v ∧ v ≤ 399) ∧ (k ≠ 0 → M' 16 4 = M 16 4))
theorem Sr_readDeed_y (hf : 400 ≤ fu) (I : y_inv L M0 top) (h : y_rc M0 M b) (he : 0 ≤ M 16 3 ∧ M 16 3 < 30) (who : Int) :
    (y_W M0 14 b ∧ ∃ M', Sr_readDeed fu L M 16 who = some (M', 1) ∧ y_rc M0 M' (y_nx M0 b) ∧ y_ev1 M M' 1 who) ∨ (¬ y_W M0 14 b ∧ y_W M0 15 b ∧ ∃ M', Sr_readDeed fu L M 16 who = some (M', 1) ∧ y_rc M0 M' (y_nx M0 b) ∧ y_ev1 M M' 2 who) ∨ (¬ y_W M0 14 b ∧ ¬ y_W M0 15 b ∧ Sr_readDeed fu L M 16 who = some (M, 0)) := by
  have l16 : L 16 = (7, 0) := I.lay 16 (by decide)
  have l2 : L 2 = (8, 0) := I.lay 2 (by decide)
  have p0 : M 16 0 = 2 := (h.ptr I) (16, 0, 2) (by decide +kernel)
  have b38 : ∀ k, 1 ≤ k ∧ k ≤ 2 → ∃ M', Sr_readDeed_b38 fu L M 16 who 16 k = some (M', 1) ∧ y_rc M0 M' (y_nx M0 b) ∧ y_ev1 M M' k who := fun k hk => by
    have hn : y_rc M0 (y_snt M k who) b := ⟨y_snt_off h.1 k who, y_snt_tok h.2 k who⟩
    have p0' : y_snt M k who 16 0 = 2 := (hn.ptr I) (16, 0, 2) (by decide +kernel)
    obtain ⟨M', a1, a2, a3⟩ := rc_step (fu := fu) hf I hn
    obtain ⟨r1, r2, r3⟩ := y_snt_rd M k who
    obtain ⟨c1, c2, c3⟩ := a2.r16
    refine ⟨M', ?_, a3, ?_⟩
    · unfold Sr_readDeed_b38
      rw [l16, if_pos rfl, Sr_note_y I.lay (h.ptr I) he, bd1_some, if_pos rfl, p0', l2, if_pos rfl, a1, bd1_some]
    · unfold y_ev1
      rw [c1, c2, c3]
      exact ⟨⟨r1.1, r2.1, r2.2⟩, r3, ⟨by omega, by omega⟩, fun z => by omega, fun _ => r1.2⟩
  by_cases c14 : y_W M0 14 b
  · obtain ⟨M', m1, m2, m3⟩ := b38 1 (by omega)
    refine Or.inl ⟨c14, M', ?_, m2, m3⟩
    unfold Sr_readDeed Sr_readDeed_b28
    rw [l16, if_pos rfl, p0, l2, if_pos rfl, rc_word hf I h (by decide), if_pos c14, bd1_some, if_neg (by decide), if_neg (by decide), m1]
  · by_cases c15 : y_W M0 15 b
    · obtain ⟨M', m1, m2, m3⟩ := b38 2 (by omega)
      refine Or.inr (Or.inl ⟨c14, c15, M', ?_, m2, m3⟩)
      unfold Sr_readDeed Sr_readDeed_b28
      rw [l16, if_pos rfl, p0, l2, if_pos rfl, rc_word hf I h (by decide), if_neg c14, bd1_some, if_pos rfl, rc_word hf I h (by decide), if_pos c15, bd1_some, if_neg (by decide), if_pos rfl, m1]
    · refine Or.inr (Or.inr ⟨c14, c15, ?_⟩)
      unfold Sr_readDeed
      rw [l16, if_pos rfl, p0, l2, if_pos rfl, rc_word hf I h (by decide), if_neg c14, bd1_some, if_pos rfl, rc_word hf I h (by decide), if_neg c15, bd1_some, if_pos rfl]
theorem Sr_readYear_y (hf : 400 ≤ fu) (I : y_inv L M0 top) (h : y_rc M0 M b) (he : 0 ≤ M 16 3 ∧ M 16 3 < 30) (hy : 0 ≤ M 16 4) :
    (y_N M0 399 b ∧ M 16 4 ≤ y_V M0 b ∧ ∃ M', Sr_readYear fu L M 16 = some (M', 1) ∧ y_rc M0 M' (y_nx M0 b) ∧ y_ev1 M M' 0 (y_V M0 b)) ∨ (¬ (y_N M0 399 b ∧ M 16 4 ≤ y_V M0 b) ∧ Sr_readYear fu L M 16 = some (M, 0)) := by
  have l16 : L 16 = (7, 0) := I.lay 16 (by decide)
  have l2 : L 2 = (8, 0) := I.lay 2 (by decide)
  have p0 : M 16 0 = 2 := (h.ptr I) (16, 0, 2) (by decide +kernel)
  obtain ⟨n1, n2⟩ := rc_num (fu := fu) I h (lo := M 16 4) (m := 399) hy (by decide)
  by_cases c : y_N M0 399 b ∧ M 16 4 ≤ y_V M0 b
  · have e7 := n2 c.1
    have v9 := (of_decide_eq_true c.1).2.2
    obtain ⟨Y, hY⟩ : ∃ Y, Y = mu M 16 4 (M 2 7) := ⟨_, rfl⟩
    have hYe : ∀ a i, a ≠ 16 → Y a i = M a i := fun a i ha => by rw [hY, mx_ne (by omega)]
    have y3 : Y 16 3 = M 16 3 := by rw [hY, mx_ne (by omega)]
    have y4 : Y 16 4 = y_V M0 b := by rw [hY, mx_same, e7]
    have hy1 : y_rc M0 Y b := by
      refine ⟨by rw [hY]; exact h.1.mu (by omega), ?_⟩
      have t := h.2
      have e3 : Y 3 = M 3 := funext fun i => hYe 3 i (by decide)
      unfold CTok at t ⊢
      rw [e3, hYe 2 _ (by decide), hYe 2 _ (by decide), hYe 2 _ (by decide), hYe 2 _ (by decide), hYe 2 _ (by decide)]
      exact t
    have hn : y_rc M0 (y_snt Y 0 (y_V M0 b)) b := ⟨y_snt_off hy1.1 0 _, y_snt_tok hy1.2 0 _⟩
    have p0' : y_snt Y 0 (y_V M0 b) 16 0 = 2 := (hn.ptr I) (16, 0, 2) (by decide +kernel)
    obtain ⟨M', a1, a2, a3⟩ := rc_step (fu := fu) hf I hn
    obtain ⟨r1, r2, r3⟩ := y_snt_rd Y 0 (y_V M0 b)
    obtain ⟨c1, c2, c3⟩ := a2.r16
    refine Or.inl ⟨c.1, c.2, M', ?_, a3, ?_⟩
    · unfold Sr_readYear
      rw [l16, if_pos rfl, p0, l2, if_pos rfl, n1, if_pos c, bd1_some, if_neg (by decide), lt1_def, ← hY, y4, Sr_note_y I.lay (hy1.ptr I) (by omega), bd1_some, p0', l2, if_pos rfl, a1, bd1_some]
    · unfold y_ev1
      rw [y3] at r1 r2 r3
      rw [c1, c2, c3]
      refine ⟨⟨r1.1, r2.1, r2.2⟩, fun j hj => ?_, ⟨by omega, by omega⟩, fun _ => ⟨r1.2.trans y4, c.2, v9⟩, fun z => absurd rfl z⟩
      rw [(r3 j hj).1, (r3 j hj).2]
      exact ⟨hYe 17 j (by decide), hYe 18 j (by decide)⟩
  · refine Or.inr ⟨c, ?_⟩
    unfold Sr_readYear
    rw [l16, if_pos rfl, p0, l2, if_pos rfl, n1, if_neg c, bd1_some, if_pos rfl]
/-- the model's end of a deed: what stands at y_2, at N; who is noted -/
theorem Mo_deed_y (hf : 400 ≤ fu) (I : y_inv L M0 top) (h : y_rm M0 N b) (he : 0 ≤ N 154 16 ∧ N 154 16 < 30) (hw : N 154 5 = -1) (who : Int) :
    ∃ N', (bd1 (Mo_isWord fu L (mu N 161 (N 154 16) who) 154 22) fun r14 => (if r14 = 0 then Mo_readsEvent_b120 fu L (mu N 161 (N 154 16) who) 154 ((mu N 161 (N 154 16) who) 154 14) ((mu N 161 (N 154 16) who) 154 16) 2 else Mo_readsEvent_b120 fu L (mu N 161 (N 154 16) who) 154 ((mu N 161 (N 154 16) who) 154 14) ((mu N 161 (N 154 16) who) 154 16) 1)) = some N' ∧ y_mf N N' ∧
      ((y_W M0 14 b ∧ (y_rm M0 N' (y_nx M0 b) ∧ N' 154 5 = -1) ∧ N' 160 (N 154 16) = 1) ∨ (¬ y_W M0 14 b ∧ y_W M0 15 b ∧ (y_rm M0 N' (y_nx M0 b) ∧ N' 154 5 = -1) ∧ N' 160 (N 154 16) = 2) ∨ (¬ y_W M0 14 b ∧ ¬ y_W M0 15 b ∧ y_rm M0 N' b ∧ N' 154 5 = b)) ∧
      (N' 154 16 = N 154 16 + 1 ∧ N' 154 17 = N 154 17 ∧ N' 161 (N 154 16) = who ∧ ∀ j, j < N 154 16 → N' 160 j = N 160 j ∧ N' 161 j = N 161 j) := by
  have l4 : L 154 = (13, 0) := I.lay 154 (by decide)
  have l60 : L 160 = (101, 30) := I.lay 160 (by decide)
  obtain ⟨e, hE⟩ : ∃ e, e = N 154 16 := ⟨_, rfl⟩
  rw [← hE] at he ⊢
  obtain ⟨A, hA⟩ : ∃ A, A = mu N 161 e who := ⟨_, rfl⟩
  rw [← hA]
  have A4 : ∀ i, A 154 i = N 154 i := fun i => by rw [hA, mx_ne (by omega)]
  have tok : ∀ (T : zM) (x : Int), MTok T x → ∀ (S : zM), (∀ i, i ≠ 16 → i ≠ 17 → S 154 i = T 154 i) → S 155 = T 155 → MTok S x := fun T x t S h1 h2 => by
    unfold MTok at t ⊢
    rw [h2, h1 2 (by decide) (by decide), h1 4 (by decide) (by decide), h1 6 (by decide) (by decide), h1 3 (by decide) (by decide), h1 7 (by decide) (by decide)]
    exact t
  have hA1 : y_rm M0 A b := ⟨by rw [hA]; exact h.1.mu (by omega), tok N b h.2 A (fun i _ _ => A4 i) (by rw [hA]; exact funext fun i => mx_ne (by omega))⟩
  have p14 : A 154 14 = 160 := (hA1.ptr I) (154, 14, 160) (by decide +kernel)
  have a16 : A 154 16 = e := (A4 16).trans hE.symm
  have a5 : A 154 5 = -1 := (A4 5).trans hw
  have w22 : y_W M0 22 b ↔ y_W M0 14 b := Iff.rfl
  have w30 : y_W M0 30 b ↔ y_W M0 15 b := Iff.rfl
  have fin : ∀ k, ∃ N', Mo_readsEvent_b120 fu L A 154 160 e k = some N' ∧ y_mf N N' ∧ ((y_W M0 14 b ∧ (y_rm M0 N' (y_nx M0 b) ∧ N' 154 5 = -1)) ∨ (¬ y_W M0 14 b ∧ y_W M0 15 b ∧ (y_rm M0 N' (y_nx M0 b) ∧ N' 154 5 = -1)) ∨ (¬ y_W M0 14 b ∧ ¬ y_W M0 15 b ∧ y_rm M0 N' b ∧ N' 154 5 = b)) ∧ N' 160 e = k ∧ (N' 154 16 = e + 1 ∧ N' 154 17 = N 154 17 ∧ N' 161 e = who ∧ ∀ j, j < e → N' 160 j = N 160 j ∧ N' 161 j = N 161 j) := fun k => by
    obtain ⟨B, hB⟩ : ∃ B, B = mu A 160 e k := ⟨_, rfl⟩
    have B4 : ∀ i, B 154 i = N 154 i := fun i => by rw [hB, mx_ne (by omega)]; exact A4 i
    have hB1 : y_rm M0 B b := ⟨by rw [hB]; exact hA1.1.mu (by omega), tok A b hA1.2 B (fun i _ _ => (B4 i).trans (A4 i).symm) (by rw [hB]; exact funext fun i => mx_ne (by omega))⟩
    have b5 : B 154 5 = -1 := (B4 5).trans hw
    have rows : ∀ (C : zM) (v : Int), NOff B C ∨ (∃ v, C = mu B 154 5 v) → (mu C 154 16 (w32 (C 154 16 + 1))) 160 e = k ∧ ((mu C 154 16 (w32 (C 154 16 + 1))) 154 16 = e + 1 ∧ (mu C 154 16 (w32 (C 154 16 + 1))) 154 17 = N 154 17 ∧ (mu C 154 16 (w32 (C 154 16 + 1))) 161 e = who ∧ ∀ j, j < e → (mu C 154 16 (w32 (C 154 16 + 1))) 160 j = N 160 j ∧ (mu C 154 16 (w32 (C 154 16 + 1))) 161 j = N 161 j) ∧ y_mf N (mu C 154 16 (w32 (C 154 16 + 1))) := fun C v hC => by
      have cr : ∀ a i, ¬ (a = 154 ∧ 3 ≤ i ∧ i ≤ 7) → C a i = B a i := fun a i q => by
        rcases hC with q2 | ⟨v, q2⟩
        · exact q2 a i (by omega)
        · rw [q2, mx_ne (by omega)]
      have c16 : C 154 16 = e := (cr _ _ (by omega)).trans ((B4 16).trans hE.symm)
      have mB : y_mf N B := by rw [hB, hA]; exact ((y_mf.refl N).mu (by omega)).mu (by omega)
      have mC : y_mf N C := mB.trans fun a i q _ _ _ => cr a i (by omega)
      refine ⟨?_, ⟨?_, ?_, ?_, fun j hj => ⟨?_, ?_⟩⟩, mC.mu (by omega)⟩
      · rw [mx_ne (by omega), cr _ _ (by omega), hB, mx_same]
      · rw [mx_same, c16, w32_id (by omega)]
      · rw [mx_ne (by omega), cr _ _ (by omega), B4]
      · rw [mx_ne (by omega), cr _ _ (by omega), hB, mx_ne (by omega), hA, mx_same]
      · rw [mx_ne (by omega), cr _ _ (by omega), hB, mx_ne (by omega), hA, mx_ne (by omega)]
      · rw [mx_ne (by omega), cr _ _ (by omega), hB, mx_ne (by omega), hA, mx_ne (by omega)]
    have up : ∀ (C : zM) (x : Int), y_rm M0 C x → y_rm M0 (mu C 154 16 (w32 (C 154 16 + 1))) x := fun C x hC => ⟨hC.1.mu (by omega), tok C x hC.2 _ (fun i q1 q2 => mx_ne (by omega)) (funext fun i => mx_ne (by omega))⟩
    unfold Mo_readsEvent_b120
    rw [l60, if_pos rfl, if_pos (show 0 ≤ e ∧ e < ((101, 30) : Int × Int).2 by show 0 ≤ e ∧ e < 30; omega), lt1_def, ← hB, l4, if_pos rfl]
    by_cases c14 : y_W M0 14 b
    · obtain ⟨C, c1, c2, c3⟩ := rm_tword_y (fu := fu) hf I hB1 b5 (s := 22) (by decide) (w22.2 c14)
      obtain ⟨q1, q2, q3⟩ := rows C 0 (Or.inl c2)
      rw [c1, bd2_some, if_neg (by decide), lt1_def]
      exact ⟨_, rfl, q3, Or.inl ⟨c14, up C _ c3, by rw [mx_ne (by omega), c2.w]; exact b5⟩, q1, q2⟩
    · rw [rm_tword_n hf I hB1 (by decide) (fun z => c14 (w22.1 z.2)), bd2_some, if_pos rfl]
      by_cases c15 : y_W M0 15 b
      · obtain ⟨C, c1, c2, c3⟩ := rm_mword_y (fu := fu) hf I hB1 b5 (s := 30) (by decide) (w30.2 c15)
        obtain ⟨q1, q2, q3⟩ := rows C 0 (Or.inl c2)
        rw [c1, bd1_some, lt1_def]
        exact ⟨_, rfl, q3, Or.inr (Or.inl ⟨c14, c15, up C _ c3, by rw [mx_ne (by omega), c2.w]; exact b5⟩), q1, q2⟩
      · obtain ⟨q1, q2, q3⟩ := rows (y_bd B b) 0 (Or.inr ⟨_, rfl⟩)
        rw [rm_mword_n hf I hB1 (by decide) (fun z => c15 (w30.1 z.2)), bd1_some, lt1_def]
        refine ⟨_, rfl, q3, Or.inr (Or.inr ⟨c14, c15, up _ _ hB1.bad, ?_⟩), q1, q2⟩
        rw [mx_ne (by omega), y_bd_w, if_pos b5]
  rw [rm_word hf I hA1 (by decide), bd1_some, p14, a16]
  by_cases c14 : y_W M0 14 b
  · rw [if_pos (show A 154 5 = -1 ∧ y_W M0 22 b from ⟨a5, w22.2 c14⟩), if_neg (by decide)]
    obtain ⟨N', f1, f2, f3, f4, f5⟩ := fin 1
    refine ⟨N', f1, f2, ?_, f5⟩
    rcases f3 with ⟨g1, g2⟩ | ⟨g1, g2⟩ | ⟨g1, g2⟩
    · exact Or.inl ⟨c14, g2, f4⟩
    · exact absurd c14 g1
    · exact absurd c14 g1
  · rw [if_neg (show ¬ (A 154 5 = -1 ∧ y_W M0 22 b) from fun z => c14 (w22.1 z.2)), if_pos rfl]
    obtain ⟨N', f1, f2, f3, f4, f5⟩ := fin 2
    refine ⟨N', f1, f2, ?_, f5⟩
    rcases f3 with ⟨g1, g2⟩ | ⟨g1, g2, g3⟩ | ⟨g1, g2, g3⟩
    · exact absurd g1 c14
    · exact Or.inr (Or.inl ⟨c14, g2, g3, f4⟩)
    · exact Or.inr (Or.inr ⟨c14, g2, g3⟩)
end
