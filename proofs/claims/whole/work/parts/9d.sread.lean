/-! ===== pure: part 9d: a story read ===== -/
section
variable {fu : Nat} {L : zL} {M0 M N : zM} {top b : Int}
/-- the events read are sound -/
def y_evc (M : zM) : Prop := (0 ≤ M 16 3 ∧ M 16 3 ≤ 30) ∧ (0 ≤ M 16 4 ∧ M 16 4 ≤ 399) ∧ (∀ j, 0 ≤ j → j < M 16 3 → (0 ≤ M 17 j ∧ M 17 j ≤ 2) ∧ (M 17 j = 0 → 0 ≤ M 18 j ∧ M 18 j ≤ M 16 4)) ∧ ∀ j k, 0 ≤ j → j < k → k < M 16 3 → M 17 j = 0 → M 17 k = 0 → M 18 j ≤ M 18 k
/-- both have the same events -/
def y_evr (M N : zM) : Prop := N 154 16 = M 16 3 ∧ N 154 17 = M 16 4 ∧ ∀ j, 0 ≤ j → j < M 16 3 → N 160 j = M 17 j ∧ N 161 j = M 18 j
theorem y_evc.step {M' : zM} {k v : Int} (h : y_evc M) (h30 : M 16 3 < 30) (e : y_ev1 M M' k v) : y_evc M' := by
  obtain ⟨h1, h2, h3, h4⟩ := h
  obtain ⟨⟨e1, e2, e3⟩, e4, e5, e6, e7⟩ := e
  have ey : (k = 0 ∧ M' 16 4 = v ∧ M 16 4 ≤ v ∧ v ≤ 399) ∨ (k ≠ 0 ∧ M' 16 4 = M 16 4) := by
    by_cases c : k = 0
    · exact Or.inl ⟨c, e6 c⟩
    · exact Or.inr ⟨c, e7 c⟩
  refine ⟨by omega, by omega, fun j j0 j1 => ?_, fun j l j0 jl l1 c1 c2 => ?_⟩
  · by_cases c : j = M 16 3
    · rw [c, e2, e3]
      exact ⟨e5, fun z => by omega⟩
    · have := h3 j j0 (by omega)
      rw [(e4 j (by omega)).1, (e4 j (by omega)).2]
      exact ⟨this.1, fun z => by have := this.2 z; omega⟩
  · by_cases c : l = M 16 3
    · rw [c, e2] at c2
      rw [(e4 j (by omega)).1] at c1
      rw [c, e3, (e4 j (by omega)).2]
      have := (h3 j j0 (by omega)).2 c1
      omega
    · rw [(e4 j (by omega)).1] at c1
      rw [(e4 l (by omega)).1] at c2
      rw [(e4 j (by omega)).2, (e4 l (by omega)).2]
      exact h4 j l j0 jl (by omega) c1 c2
theorem Sr_loop (hf : 400 ≤ fu) (I : y_inv L M0 top) : ∀ (k n : Nat) (M : zM) (b : Int), M 16 3 + k = 31 → k < n → y_rc M0 M b → y_evc M →
    ∃ M' r, Sr_read_l19 fu L n M 16 (M 16 3) = some (M', r) ∧ y_off M0 M' ∧ (r = -1 → y_evc M') ∧ -1 ≤ r ∧
      ∀ (n' : Nat) (N : zM), k < n' → y_rm M0 N b → N 154 5 = -1 → y_evr M N → ∃ N', bd1 (Mo_readsEvent fu L N 154) (fun M16 => Mo_readsStory_l18 fu L n' M16 154) = some (N', r) ∧ y_mf N N' ∧ (r = -1 → y_evr M' N') := by
  have l16 : L 16 = (7, 0) := I.lay 16 (by decide)
  have l2 : L 2 = (8, 0) := I.lay 2 (by decide)
  have l4 : L 154 = (13, 0) := I.lay 154 (by decide)
  intro k
  induction k with
  | zero =>
    intro n M b hk hn h hc
    have := hc.1
    omega
  | succ k ih =>
    intro n M b hk hn h hc
    obtain ⟨n, rfl⟩ : ∃ n', n = n' + 1 := ⟨n - 1, by omega⟩
    obtain ⟨M', r, b', a1, a2, a3, a4⟩ := y_event (fu := fu) hf I h hc.1 hc.2.1.1
    have p0 : M' 16 0 = 2 := (a2.ptr I) (16, 0, 2) (by decide +kernel)
    have e5 : M' 2 5 = b' := a2.2.2.2.1
    have b0 := a2.pb.1
    have hex : ∀ (n' : Nat) (N : zM), y_rm M0 N b → N 154 5 = -1 → y_evr M N → ∃ N', Mo_readsEvent fu L N 154 = some N' ∧ y_evm M0 M M' N N' r b' := fun n' N hN hw hr => a4 N hN hw hr.1 hr.2.1
    show ∃ M' r, Sr_read_s19 _ _ _ _ _ _ = _ ∧ _
    unfold Sr_read_s19
    rw [if_neg (by omega), l16, if_pos rfl, a1, bd2_some]
    rcases a3 with a3 | ⟨a3, a5, kk, v, a6⟩
    · rw [if_pos a3, p0, l2, if_pos rfl, e5]
      refine ⟨M', b', rfl, a2.1, fun z => by omega, by omega, fun n' N hn' hN hw hr => ?_⟩
      obtain ⟨N', c1, c2, c3⟩ := hex n' N hN hw hr
      obtain ⟨n', rfl⟩ : ∃ n'', n' = n'' + 1 := ⟨n' - 1, by omega⟩
      rcases c3 with ⟨_, c4, b'', c5⟩ | ⟨c4, _⟩
      · refine ⟨N', ?_, c2, fun z => by omega⟩
        rw [c1, bd1_some]
        show Mo_readsStory_s18 _ _ _ _ _ = _
        unfold Mo_readsStory_s18
        rw [l4, if_pos rfl, rm_tsign_n I c5 (fun z => by omega), bd2_some, if_pos rfl, rm_mend_y I c5 (Or.inl (by omega)), bd1_some, c4]
      · omega
    · have r1 : r ≠ 0 := by omega
      rw [if_neg r1, p0, l2, if_pos rfl, rc_over I a2, bd1_some]
      have hc' := hc.step a5 a6
      have hm : ∀ (n' : Nat) (N : zM), y_rm M0 N b → N 154 5 = -1 → y_evr M N → ∃ N', Mo_readsEvent fu L N 154 = some N' ∧ y_mf N N' ∧ N' 154 5 = -1 ∧ y_rm M0 N' b' ∧ y_evr M' N' := fun n' N hN hw hr => by
        obtain ⟨N', c1, c2, c3⟩ := hex n' N hN hw hr
        rcases c3 with ⟨c4, _⟩ | ⟨_, c4, c5, c6, c7⟩
        · omega
        · refine ⟨N', c1, c2, c4, c5, ?_, c6.2.1, fun j j0 j1 => ?_⟩
          · rw [c6.1, a6.1.1]
          · by_cases z : j = M 16 3
            · rw [z]; exact ⟨c6.2.2.1, c6.2.2.2⟩
            · have j2 : j < M 16 3 := by have := a6.1.1; omega
              rw [(c7 j j2).1, (c7 j j2).2, (a6.2.1 j j2).1, (a6.2.1 j j2).2]
              exact hr.2.2 j j0 j2
      by_cases cK : y_K M0 b' = 0
      · rw [if_pos cK, if_neg (by decide)]
        refine ⟨M', -1, rfl, a2.1, fun _ => hc', Int.le_refl _, fun n' N hn' hN hw hr => ?_⟩
        obtain ⟨N', c1, c2, c3, c4, c5⟩ := hm n' N hN hw hr
        obtain ⟨n', rfl⟩ : ∃ n'', n' = n'' + 1 := ⟨n' - 1, by omega⟩
        refine ⟨N', ?_, c2, fun _ => c5⟩
        rw [c1, bd1_some]
        show Mo_readsStory_s18 _ _ _ _ _ = _
        unfold Mo_readsStory_s18
        rw [l4, if_pos rfl, rm_tsign_n I c4 (fun z => by have := (of_decide_eq_true z.2).1; have e : tkK (M0 3) (M0 2 2) b' = 0 := cK; omega), bd2_some, if_pos rfl, rm_mend_y I c4 (Or.inr cK), bd1_some, c3]
      · rw [if_neg cK, if_pos rfl, rc_sign I a2, bd1_some]
        by_cases cG : y_G M0 59 b'
        · obtain ⟨M2, s1, s2, s3⟩ := rc_step (fu := fu) hf I a2
          have r16 := s2.r16
          have e3 : M2 16 3 = M 16 3 + 1 := by rw [r16.1]; exact a6.1.1
          have hc2 : y_evc M2 := by
            unfold y_evc at hc' ⊢
            rw [r16.1, r16.2.1, r16.2.2]; exact hc'
          obtain ⟨M3, r', d1, d2, d3, d4, d5⟩ := ih n M2 _ (by omega) (by omega) s3 hc2
          have ew : w32 (M 16 3 + 1) = M2 16 3 := by rw [e3, w32_id (by have := hc.1; omega)]
          rw [if_pos cG, if_neg (by decide), s1, bd1_some, lt1_def, ew, d1]
          refine ⟨M3, r', rfl, d2, d3, d4, fun n' N hn' hN hw hr => ?_⟩
          obtain ⟨N', c1, c2, c3, c4, c5⟩ := hm n' N hN hw hr
          obtain ⟨n', rfl⟩ : ∃ n'', n' = n'' + 1 := ⟨n' - 1, by omega⟩
          obtain ⟨N2, m1, m2, m3⟩ := rm_tsign_y (fu := fu) hf I c4 c3 cG
          have hr2 : y_evr M2 N2 := by
            unfold y_evr at c5 ⊢
            rw [r16.1, r16.2.1, r16.2.2, m2 _ _ (by omega), m2 _ _ (by omega)]
            refine ⟨c5.1, c5.2.1, fun j j0 j1 => ?_⟩
            rw [m2 _ _ (by omega), m2 _ _ (by omega)]
            exact c5.2.2 j j0 j1
          obtain ⟨N3, k1, k2, k3⟩ := d5 n' N2 (by omega) m3 (m2.w.trans c3) hr2
          refine ⟨N3, ?_, (c2.trans m2.mf).trans k2, k3⟩
          rw [c1, bd1_some]
          show Mo_readsStory_s18 _ _ _ _ _ = _
          unfold Mo_readsStory_s18
          rw [l4, if_pos rfl, m1, bd2_some, if_neg (by decide)]
          exact k1
        · rw [if_neg cG, if_pos rfl, e5]
          refine ⟨M', b', rfl, a2.1, fun z => by omega, by omega, fun n' N hn' hN hw hr => ?_⟩
          obtain ⟨N', c1, c2, c3, c4, c5⟩ := hm n' N hN hw hr
          obtain ⟨n', rfl⟩ : ∃ n'', n' = n'' + 1 := ⟨n' - 1, by omega⟩
          refine ⟨mu N' 154 5 b', ?_, c2.mu (by omega), fun z => by omega⟩
          rw [c1, bd1_some]
          show Mo_readsStory_s18 _ _ _ _ _ = _
          unfold Mo_readsStory_s18
          rw [l4, if_pos rfl, rm_tsign_n I c4 (fun z => cG z.2), bd2_some, if_pos rfl, rm_mend_n I c4 c3 cK, bd1_some, mx_same]
/-- a story read by both -/
theorem y_sread (hf : 400 ≤ fu) (I : y_inv L M0 top) (o : y_off M0 M) : ∃ M1 r, Sr_read fu L M 16 = some (M1, r) ∧ y_off M0 M1 ∧ (r = -1 → y_evc M1) ∧ -1 ≤ r ∧ ∀ N, y_ofm M0 N → ∃ N', Mo_readsStory fu L N 154 = some (N', r) ∧ y_mf N N' ∧ (r = -1 → y_evr M1 N') := by
  have l16 : L 16 = (7, 0) := I.lay 16 (by decide)
  have l2 : L 2 = (8, 0) := I.lay 2 (by decide)
  have l4 : L 154 = (13, 0) := I.lay 154 (by decide)
  have o1 : y_off M0 (mu (mu M 16 3 0) 16 4 0) := (o.mu (by omega)).mu (by omega)
  have p0 : mu (mu M 16 3 0) 16 4 0 16 0 = 2 := (o1.ptr I.ptr) (16, 0, 2) (by decide +kernel)
  obtain ⟨M2, a1, a2, a3⟩ := rc_restart (fu := fu) hf I o1
  have r16 := a2.r16
  have e3 : M2 16 3 = 0 := by rw [r16.1, mx_ne (by omega), mx_same]
  have e4 : M2 16 4 = 0 := by rw [r16.1, mx_same]
  have hc : y_evc M2 := ⟨by omega, by omega, fun j j0 j1 => by omega, fun j k j0 jk k1 => by omega⟩
  obtain ⟨M3, r, d1, d2, d3, d4, d5⟩ := Sr_loop (fu := fu) hf I 31 fu M2 _ (by omega) (by omega) a3 hc
  rw [e3] at d1
  refine ⟨M3, r, ?_, d2, d3, d4, fun N oN => ?_⟩
  · unfold Sr_read
    rw [l16, if_pos rfl, lt1_def, lt1_def, p0, l2, if_pos rfl, a1, bd1_some, d1]
  · obtain ⟨N1, n1, n2, n3, n4⟩ := rm_begins (fu := fu) hf I oN
    have hN : y_rm M0 (mu (mu N1 154 16 0) 154 17 0) (tkB (M0 3) (M0 2 2) 0) := ⟨(n3.1.mu (by omega)).mu (by omega), y_mtok n3.2 (fun i q => by rw [mx_ne (by omega), mx_ne (by omega)]) (funext fun i => by rw [mx_ne (by omega), mx_ne (by omega)])⟩
    obtain ⟨N', k1, k2, k3⟩ := d5 fu _ (by omega) hN (by rw [mx_ne (by omega), mx_ne (by omega)]; exact n4) ⟨by rw [mx_ne (by omega), mx_same, e3], by rw [mx_same, e4], fun j j0 j1 => by omega⟩
    refine ⟨N', ?_, ((n2.mf.mu (by omega)).mu (by omega)).trans k2, k3⟩
    unfold Mo_readsStory
    rw [l4, if_pos rfl, n1, bd1_some, lt1_def, lt1_def, k1]
end
