/-! ===== pure: part 9y: ways as a whole; simple facts ===== -/
section
variable {fu : Nat} {L : zL} {M0 M M1 N : zM} {top b b1 : Int}
/-- ways read by both -/
def y_any (M0 : zM) (d : Nat) (cf : zM → Option (zM × Int)) (mf : zM → Option (zM × Int)) : Prop :=
  ∀ M b, y_rc M0 M b → y_gc0 M b → (d = 5 → M 9 11 = 0) → ∃ M' r b' ct, cf M = some (M', r) ∧ y_rc M0 M' b' ∧ (r = 0 ∨ (r = 1 ∧ y_gc1 M M' b' ∧ y_pc d M M' ct)) ∧ ∀ N, y_rm M0 N b → N 154 5 = -1 → y_gr0 d M N b → ∃ N' cm, mf N = some (N', cm) ∧ y_out M0 2 d M M' N N' r b' ∧ (r = 1 → cm = ct ∧ y_pm M0 d M' N N' ct)
theorem y_any_y (hf : 42000 ≤ fu) (I : y_inv L M0 top) {L' : zL} {top' : Int} (J : y_inv L' M0 top') {d : Nat} (hd : d ≤ 5) {rc : zt_Gr_readAfter} {rm : zt_Mo_readsAll} (F : y_stp M0 1 d (fun M => rc.2.1 M 9 (5 - (d : Int))) (fun N => rm.2.2.1 N 154)) : y_any M0 d (fun M => Gr_readAny_r fu rc L M 9 (5 - (d : Int))) (fun N => Mo_readsAll_r fu rm L' N 154) := by
  have l9 : L 9 = (5, 0) := I.lay 9 (by decide)
  have l4 : L' 154 = (13, 0) := J.lay 154 (by decide)
  intro M b hr g0 h11
  obtain ⟨M1, r1, b1, f1, f2, f3, f4⟩ := F M b hr g0
  have f1' : rc.2.1 M 9 (5 - (d : Int)) = some (M1, r1) := f1
  rcases f3 with r0 | ⟨r1', fc, fp⟩
  · refine ⟨M1, 0, b1, 0, ?_, f2, Or.inl rfl, fun N hN hw hg => ?_⟩
    · show Gr_readAny_r _ _ _ _ _ _ = _
      unfold Gr_readAny_r
      rw [if_neg (show ¬ (5 : Int) < 5 - (d : Int) by omega), l9, if_pos rfl, f1', bd2_some, if_pos r0]
    · obtain ⟨N1, z1, z2, z3⟩ := f4 N hN hw hg
      have z1' : rm.2.2.1 N 154 = some N1 := z1
      rcases z3 with ⟨_, z4, b'', z5⟩ | ⟨z4, _⟩
      · have b0 := f2.pb.1
        obtain ⟨f, hfu⟩ : ∃ f, fu = f + 1 := ⟨fu - 1, by omega⟩
        refine ⟨N1, 1, ?_, ⟨z2, Or.inl ⟨rfl, z4, b'', z5⟩⟩, fun z => by omega⟩
        show Mo_readsAll_r _ _ _ _ _ = _
        unfold Mo_readsAll_r
        rw [l4, if_pos rfl, z1', bd1_some]
        have e : ∀ f', Mo_readsAll_l6 fu rm L' (f' + 1) N1 154 1 = some (N1, 1) := fun f' => by
          show Mo_readsAll_s6 _ _ _ _ _ _ _ = _
          unfold Mo_readsAll_s6
          rw [l4, if_pos rfl, if_neg (by omega)]
        have := e f
        rw [← hfu] at this
        exact this
      · omega
  · have s9 := fc.1
    have g09 := g0.1
    obtain ⟨M1', np1, np2, np3, np4⟩ := y_note (fu := fu) I.lay (f2.ptr I) hd (fun z => by rw [fp.1, h11 z]; omega)
    have rc1 := y_rc_np f2 np2
    have e99 : M1' 9 9 = M1 9 9 := np2 _ _ (by omega) (by omega)
    have e910 : M1' 9 10 = M1 9 10 := np2 _ _ (by omega) (by omega)
    have e912 : M1' 9 12 = M1 9 12 := np2 _ _ (by omega) (by omega)
    have er : ∀ a, a ≠ 9 → a ≠ 14 → M1' a = M1 a := fun a q1 q2 => funext fun i => np2 a i (by omega) q2
    have gc1' : y_gc1 M M1' b1 := ⟨by rw [e99]; exact fc.1, by rw [e99, e910]; exact fc.2.1, by rw [e912]; exact fc.2.2.1, fun a i q1 q2 q3 q4 q5 => (np2 a i (by omega) q4).trans (fc.2.2.2 a i q1 q2 q3 q4 q5)⟩
    have pc1 : y_pc d M M1' 1 := ⟨fun z => by rw [np3 z]; exact fp, fun z => by
      have h0 := h11 z
      have := (np4 z).2.1
      rw [this, fp.1, h0, e99]; omega⟩
    obtain ⟨M', r, b', ct', q1, q2, q3, q4⟩ := y_or_l (fu := fu) hf I J hd F g0 17 fu 0 1 M1' b1 (by omega) (by omega) (Int.le_refl 0) (by omega) rc1 gc1' pc1
    refine ⟨M', r, b', ct', ?_, q2, q3, fun N hN hw hg => ?_⟩
    · show Gr_readAny_r _ _ _ _ _ _ = _
      unfold Gr_readAny_r
      rw [if_neg (show ¬ (5 : Int) < 5 - (d : Int) by omega), l9, if_pos rfl, f1', bd2_some, if_neg (by omega), np1, bd1_some, q1]
    · obtain ⟨N1, z1, z2, z3⟩ := f4 N hN hw hg
      have z1' : rm.2.2.1 N 154 = some N1 := z1
      rcases z3 with ⟨z4, _⟩ | ⟨_, z4, z5, z6⟩
      · omega
      · have g6 : y_gr1 M0 2 d M M1' N N1 b1 := by
          obtain ⟨x1, x2, x3, x4⟩ := y_gr1_12 z6
          refine ⟨by rw [e99]; exact x1, x2, ?_, ?_⟩
          · rw [er 10 (by decide) (by decide), er 11 (by decide) (by decide), er 12 (by decide) (by decide), er 13 (by decide) (by decide), e910]; exact x3
          · unfold y_tq at x4 ⊢
            rw [e912, er 15 (by decide) (by decide)]; exact x4
        have pm1 : y_pm M0 d M1' N N1 1 := fun z => by
          have n4 := np4 z
          have h0 := h11 z
          rw [fp.1, h0] at n4
          have m1 := z6.1.2.1
          have s2 := fc.2.1
          have g10 := g0.2.1
          refine ⟨fun k => if k = 0 then N 159 4 else N1 159 4 + 1, fun _ => M 9 10, if_pos rfl, if_neg (by decide), fun k k0 k1 => ?_⟩
          have kz : k = 0 := by omega
          subst kz
          show y_psg _ _ _ _ _ _ 1 5 (if (0 : Int) = 0 then _ else _) ((if (0 : Int) + 1 = 0 then _ else _) - 1) (M 9 10) _ ∧ ((_ ≤ (if (0 : Int) = 0 then _ else _) ∧ (if (0 : Int) = 0 then _ else _) < (if (0 : Int) + 1 = 0 then _ else _) - 1 ∧ (if (0 : Int) + 1 = 0 then _ else _) - 1 ≤ _) ∧ _) ∧ _
          rw [if_pos rfl, if_neg (show ¬ (0 : Int) + 1 = 0 by decide), n4.1, show N1 159 4 + 1 - 1 = N1 159 4 by omega, e910, er 10 (by decide) (by decide), er 11 (by decide) (by decide), er 12 (by decide) (by decide), er 13 (by decide) (by decide)]
          have hz := z6.2.2.1
          rw [z] at hz
          exact ⟨hz, ⟨by omega, (show 0 ≤ M 9 10 by omega), Int.le_refl _⟩, fun w => by omega⟩
        obtain ⟨N', cm, v1, v2, v3⟩ := q4 fu N N1 (by omega) hg.2.1.1 (by decide) (by omega) z2 z5 z4 (by rw [z6.1.2.2]; exact hg.2.2) g6 pm1
        refine ⟨N', cm, ?_, v2, v3⟩
        show Mo_readsAll_r _ _ _ _ _ = _
        unfold Mo_readsAll_r
        rw [l4, if_pos rfl, z1', bd1_some, v1]
/-- a fact is counted, t written; not noted yet, noted -/
def y_sa (M M' : zM) (t : List Int) : Prop := (M' 9 9 = M 9 9 + 1 ∧ M' 9 10 = M 9 10) ∧ y_tq M M' t ∧ ∀ a i, ¬ (a = 2 ∧ 4 ≤ i ∧ i ≤ 7) → ¬ (a = 9 ∧ (i = 9 ∨ i = 12)) → a ≠ 15 → M' a i = M a i
def y_sbb (M M' : zM) (k n l : Int) (t : List Int) : Prop := (M' 9 9 = M 9 9 + 1 ∧ M' 9 10 = M 9 10 + 1) ∧ (M' 10 (M 9 10) = k ∧ M' 11 (M 9 10) = n ∧ M' 12 (M 9 10) = l) ∧ y_tq M M' t ∧ ∀ a i, ¬ (a = 2 ∧ 4 ≤ i ∧ i ≤ 7) → ¬ (a = 9 ∧ (i = 9 ∨ i = 10 ∨ i = 12)) → ¬ (10 ≤ a ∧ a ≤ 13 ∧ i = M 9 10) → a ≠ 15 → M' a i = M a i
theorem y_sa.take {A B : zM} {t l : List Int} (h : y_sa M A t) (f : y_tf A B) (q : y_tq A B l) : y_sa M B (t ++ l) := by
  obtain ⟨⟨a1, a2⟩, a3, a4⟩ := h
  refine ⟨⟨(f _ _ (by omega) (by omega) (by omega)).trans a1, (f _ _ (by omega) (by omega) (by omega)).trans a2⟩, a3.trans q, fun a i q1 q2 q3 => (f a i q1 (by omega) q3).trans (a4 a i q1 q2 q3)⟩
theorem y_sbb.take {A B : zM} {k n l : Int} {t u : List Int} (h : y_sbb M A k n l t) (f : y_tf A B) (q : y_tq A B u) : y_sbb M B k n l (t ++ u) := by
  obtain ⟨⟨a1, a2⟩, ⟨b1, b2, b3⟩, a3, a4⟩ := h
  refine ⟨⟨(f _ _ (by omega) (by omega) (by omega)).trans a1, (f _ _ (by omega) (by omega) (by omega)).trans a2⟩, ⟨(f _ _ (by omega) (by omega) (by omega)).trans b1, (f _ _ (by omega) (by omega) (by omega)).trans b2, (f _ _ (by omega) (by omega) (by omega)).trans b3⟩, a3.trans q, fun a i q1 q2 q3 q4 => (f a i q1 (by omega) q4).trans (a4 a i q1 q2 q3 q4)⟩
theorem y_sa.note {A B : zM} {k n l f : Int} {t : List Int} (h : y_sa M A t) (s : y_ns A B k n l f) : y_sbb M B k n l t := by
  obtain ⟨⟨a1, a2⟩, a3, a4⟩ := h
  obtain ⟨⟨s1, s2, s3, s4⟩, s5, s6⟩ := s
  rw [a2] at s1 s2 s3 s4 s5 s6
  refine ⟨⟨(s6 _ _ (by omega) (by omega)).trans a1, s5⟩, ⟨s1, s2, s3⟩, ?_, fun a i q1 q2 q3 q4 => (s6 a i (by omega) (by omega)).trans (a4 a i q1 (by omega) q4)⟩
  obtain ⟨u1, u2, u3⟩ := a3
  exact ⟨(s6 _ _ (by omega) (by omega)).trans u1, fun x hx => (s6 _ _ (by omega) (by omega)).trans (u2 x hx), fun x hx => (s6 _ _ (by omega) (by omega)).trans (u3 x hx)⟩
theorem y_sbb.gc {M' : zM} {k n l b' : Int} {t : List Int} (h : y_sbb M M' k n l t) (g0 : y_gc0 M b) (h16 : M 9 9 < 16) (hb : M' 9 12 ≤ 2 * b') : y_gc1 M M' b' ∧ y_gpa M M' := by
  obtain ⟨⟨a1, a2⟩, ⟨b1, b2, b3⟩, a3, a4⟩ := h
  have := a3.1
  refine ⟨⟨by omega, by omega, by omega, fun a i q1 q2 q3 q4 q5 => ?_⟩, a4 _ _ (by omega) (by omega) (by omega) (by omega), funext fun i => a4 _ _ (by omega) (by omega) (by omega) (by omega)⟩
  by_cases c : a = 15
  · rw [c]; exact a3.2.1 i (by omega)
  · exact a4 a i q1 (by omega) (by omega) c
/-- a sign is laid by a fact that was counted -/
def y_sm (N N' : zM) (s : Int) : Prop := N' 159 2 = N 159 2 + 1 ∧ N' 159 4 = N 159 4 + 1 ∧ N' 159 (5 + N 159 4) = s ∧ N' 154 13 = N 154 13 ∧ ∀ x, ¬ (x = 2 ∨ x = 4 ∨ x = 5 + N 159 4) → N' 159 x = N 159 x
theorem y_sbb.gr {d : Nat} {M' N' : zM} {k n l s b' : Int} {t : List Int} (h : y_sbb M M' k n l t) (m : y_sm N N' s) (g : y_gr0 d M N b) (g0 : y_gc0 M b) (hb : b + 1 ≤ b') (hs : ∃ l', s = 10000 * n + 100 * l' + k ∧ (0 ≤ l' ∧ l' < 8) ∧ (k = 1 ∨ k = 4 → l' = l ∧ l < M0 154 20)) (hk : 0 ≤ k ∧ k ≤ 4) (hn : 0 ≤ n ∧ n ≤ 99) (ht : t = 32 :: y_tsg (M0 163) s) : y_gr1 M0 0 d M M' N N' b' := by
  obtain ⟨⟨a1, a2⟩, ⟨b1, b2, b3⟩, a3, a4⟩ := h
  obtain ⟨m1, m2, m3, m4, m5⟩ := m
  obtain ⟨g1, g2, g3⟩ := g
  obtain ⟨l', e1, e2, e3⟩ := hs
  have g10 := g0.2.1
  refine ⟨⟨by omega, ⟨by omega, by omega⟩, m4⟩, fun x hx => m5 x (by omega), ?_, ?_⟩
  · rw [m2, a2]
    exact y_psg_1 (k := k) (n := n) (l := l') hk.1 hk.2 hn.1 hn.2 e2.1 e2.2 (fun c => ⟨by have := e3 c; omega, by rw [(e3 c).1]; exact b3⟩) g2.1 g10.1 (m3.trans e1) b1 b2
  · rw [m2, show (N 159 4 + 1 - N 159 4).toNat = 1 by omega, y_tsl_1, m3, ← ht]; exact a3
end
