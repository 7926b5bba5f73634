/-! ===== pure: part 9k: the model keeps; refusals; what an act leaves ===== -/
section
variable {fu : Nat} {L : zL} {M N Z : zM} {top : Int}
theorem Mo_keeps53_y (hf : 42000 ≤ fu) (hL : Lay L) (hP : Ptr N) {c : Int} (hc : N 154 25 = c) (c0 : 0 ≤ c ∧ c ≤ 15) : ∃ N', Mo_keeps_l53 fu L fu N 154 0 = some N' ∧ N' 154 25 = c + 1 ∧ (∀ x i, x ≠ 166 → ¬ (x = 154 ∧ i = 25) → N' x i = N x i) ∧ (∀ k, 0 ≤ k → k < 2597 → N' 166 (2597 * c + k) = N 162 k) ∧ ∀ m, m < 2597 * c → N' 166 m = N 166 m := by
  have l4 : L 154 = (13, 0) := hL 154 (by decide)
  have l62 : L 162 = (101, 2597) := hL 162 (by decide)
  have l66 : L 166 = (101, 41552) := hL 166 (by decide)
  have p18 : N 154 18 = 162 := hP (154, 18, 162) (by decide +kernel)
  have p24 : N 154 24 = 166 := hP (154, 24, 166) (by decide +kernel)
  have ec : w32 (2597 * c) = 2597 * c := w32_id (by omega)
  obtain ⟨T, k, e, ⟨o, t1, t2⟩⟩ := y_lpx (F := fun k (T : zM) i => Mo_keeps_l53 fu L k T 154 i) (N := 2597)
    (fun i T => (∀ x j, x ≠ 166 → T x j = N x j) ∧ (∀ k, 0 ≤ k → k < i → T 166 (2597 * c + k) = N 162 k) ∧ ∀ m, m < 2597 * c → T 166 m = N 166 m)
    (fun k T i h0 hN hJ => by
      obtain ⟨o, t1, t2⟩ := hJ
      have ew : w32 (i + 1) = i + 1 := w32_id (by omega)
      have e2 : w32 (2597 * c + i) = 2597 * c + i := w32_id (by omega)
      have g1 : 0 ≤ i ∧ i < ((101, 2597) : Int × Int).2 := ⟨h0, hN⟩
      have g2 : 0 ≤ 2597 * c + i ∧ 2597 * c + i < ((101, 41552) : Int × Int).2 := by show _ ∧ _ < (41552 : Int); omega
      refine ⟨mu T 166 (2597 * c + i) (N 162 i), ?_, fun x j q => ?_, fun k k0 k1 => ?_, fun m hm => ?_⟩
      · show Mo_keeps_s53 _ _ _ _ _ _ = _
        unfold Mo_keeps_s53
        rw [if_pos hN, l4, if_pos rfl, o 154 18 (by decide), p18, l62, if_pos rfl, if_pos g1, o 154 24 (by decide), p24, l66, if_pos rfl, o 154 25 (by decide), hc, ec, e2, if_pos g2, o 162 i (by decide), lt1_def, lt1_def, ew]
      · rw [mx_ne (Or.inl q)]; exact o x j q
      · by_cases c1 : k = i
        · subst c1; rw [mx_same]
        · rw [mx_ne (by omega)]; exact t1 k k0 (by omega)
      · rw [mx_ne (by omega)]; exact t2 m hm) 2597 fu N 0 (by omega) (by omega) (by omega) ⟨fun _ _ _ => rfl, fun k k0 k1 => absurd k1 (by omega), fun _ _ => rfl⟩
  refine ⟨mu T 154 25 (c + 1), ?_, mx_same _ _ _ _, fun x i q1 q2 => ?_, fun k k0 k1 => ?_, fun m hm => ?_⟩
  · refine e.trans ?_
    show Mo_keeps_s53 _ _ _ _ _ _ = _
    unfold Mo_keeps_s53
    rw [if_neg (by decide), l4, if_pos rfl, o 154 25 (by decide), hc, w32_id (by omega), lt1_def]
  · rw [mx_ne (by omega)]; exact o x i q1
  · rw [mx_ne (by omega)]; exact t1 k k0 k1
  · rw [mx_ne (by omega)]; exact t2 m hm
theorem Mo_keeps_y (hf : 42000 ≤ fu) (hL : Lay L) (hP : Ptr N) {c : Int} (hc : N 154 25 = c) (c0 : 0 ≤ c ∧ c ≤ 16) : ∃ N', Mo_keeps fu L N 154 = some N' ∧ N' 154 25 = (if c = 16 then 16 else c + 1) ∧ (∀ x i, x ≠ 166 → ¬ (x = 154 ∧ i = 25) → N' x i = N x i) ∧ (∀ k, 0 ≤ k → k < 2597 → N' 166 (2597 * (N' 154 25 - 1) + k) = N 162 k) ∧ ∀ j k, 0 ≤ j → j < N' 154 25 - 1 → 0 ≤ k → k < 2597 → N' 166 (2597 * j + k) = N 166 (2597 * (if c = 16 then j + 1 else j) + k) := by
  have l4 : L 154 = (13, 0) := hL 154 (by decide)
  have l66 : L 166 = (101, 41552) := hL 166 (by decide)
  have p24 : N 154 24 = 166 := hP (154, 24, 166) (by decide +kernel)
  by_cases c16 : c = 16
  · obtain ⟨T, k, e, ⟨_, o, t1, t2⟩⟩ := y_lpx (F := fun k (T : zM) i => Mo_keeps_l13 fu L k T 154 i) (N := 41552)
      (fun i T => 2597 ≤ i ∧ (∀ x j, x ≠ 166 → T x j = N x j) ∧ (∀ m, 0 ≤ m → m < i - 2597 → T 166 m = N 166 (m + 2597)) ∧ ∀ m, i - 2597 ≤ m → T 166 m = N 166 m)
      (fun k T i h0 hN hJ => by
        obtain ⟨hi, o, t1, t2⟩ := hJ
        have ew : w32 (i + 1) = i + 1 := w32_id (by omega)
        have e2 : w32 (i - 2597) = i - 2597 := w32_id (by omega)
        have g1 : 0 ≤ i ∧ i < ((101, 41552) : Int × Int).2 := ⟨h0, hN⟩
        have g2 : 0 ≤ i - 2597 ∧ i - 2597 < ((101, 41552) : Int × Int).2 := by show _ ∧ _ < (41552 : Int); omega
        refine ⟨mu T 166 (i - 2597) (N 166 i), ?_, by omega, fun x j q => ?_, fun m m0 m1 => ?_, fun m hm => ?_⟩
        · show Mo_keeps_s13 _ _ _ _ _ _ = _
          unfold Mo_keeps_s13
          rw [if_pos hN, l4, if_pos rfl, o 154 24 (by decide), p24, l66, if_pos rfl, if_pos g1, e2, if_pos g2, t2 i (by omega), lt1_def, lt1_def, ew]
        · rw [mx_ne (Or.inl q)]; exact o x j q
        · by_cases c1 : m = i - 2597
          · subst c1; rw [mx_same]; congr 1; omega
          · rw [mx_ne (by omega)]; exact t1 m m0 (by omega)
        · rw [mx_ne (by omega)]; exact t2 m (by omega)) (41552 - 2597) fu N 2597 (by omega) (by omega) (by omega) ⟨Int.le_refl _, fun _ _ _ => rfl, fun m m0 m1 => absurd m1 (by omega), fun _ _ => rfl⟩
    obtain ⟨U, hU⟩ : ∃ U, U = mu T 154 25 15 := ⟨_, rfl⟩
    have UP : Ptr U := fun q hq => by
      have h9 : ∀ q ∈ zPt, (q.1 : Int) ≠ 166 ∧ ¬ ((q.1 : Int) = 154 ∧ (q.2.1 : Int) = 25) := by decide +kernel
      have := h9 q hq
      rw [hU, mx_ne (by omega), o _ _ this.1]; exact hP q hq
    obtain ⟨N', a1, a2, a3, a4, a5⟩ := Mo_keeps53_y (fu := fu) (N := U) hf hL UP (c := 15) (by rw [hU, mx_same]) (by decide)
    refine ⟨N', ?_, by rw [a2, if_pos c16]; rfl, fun x i q1 q2 => ?_, fun k k0 k1 => ?_, fun j k j0 j1 k0 k1 => ?_⟩
    · unfold Mo_keeps
      rw [l4, if_pos rfl, hc, if_pos c16]
      refine e.trans ?_
      show Mo_keeps_s13 _ _ _ _ _ _ = _
      unfold Mo_keeps_s13
      rw [if_neg (by decide), l4, if_pos rfl, o 154 25 (by decide), hc, c16, lt1_def, show w32 (16 - 1) = 15 from rfl, ← hU, a1]
    · rw [a3 x i q1 q2, hU, mx_ne (by omega)]; exact o x i q1
    · rw [a2, show 2597 * ((15 : Int) + 1 - 1) + k = 2597 * 15 + k by omega, a4 k k0 k1, hU, mx_ne (by omega)]
      exact o _ _ (by decide)
    · rw [a2] at j1
      rw [if_pos c16, a5 _ (by omega), hU, mx_ne (by omega), t1 _ (by omega) (by omega)]
      congr 1; omega
  · obtain ⟨N', a1, a2, a3, a4, a5⟩ := Mo_keeps53_y (fu := fu) (N := N) hf hL hP (c := c) hc (by omega)
    refine ⟨N', ?_, by rw [a2, if_neg c16], a3, fun k k0 k1 => ?_, fun j k j0 j1 k0 k1 => ?_⟩
    · unfold Mo_keeps
      rw [l4, if_pos rfl, hc, if_neg c16, a1]
    · rw [a2, show c + 1 - 1 = c by omega]; exact a4 k k0 k1
    · rw [a2] at j1
      rw [if_neg c16]; exact a5 _ (by omega)
end
