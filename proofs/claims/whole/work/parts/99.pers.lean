/-! ===== pure: part 99: the invariant above new addresses; person ===== -/
theorem zPt_lt : ∀ q ∈ zPt, (q.1 : Int) < 172 := by decide +kernel
section
variable {fu : Nat} {L : zL} {M : zM} {top : Int}
theorem WR.up {L' : zL} {N : zM} {a B D P lv : Int} {w : Int → Int} (h : WR L M a B D P lv w) (hx : a < 172 ∧ B < 172 ∧ D < 172 ∧ P < 172) (hL : ∀ a, a < 172 → L' a = L a) (hM : ∀ a, a < 172 → N a = M a) : WR L' N a B D P lv w := by
  obtain ⟨⟨w1, w2, w3, w4, w5⟩, w6, w7⟩ := h
  refine ⟨⟨?_, ?_, ?_, ?_, ?_⟩, ?_, ?_⟩
  · rw [hL a hx.1]; exact w1
  · rw [hM a hx.1]; exact w2
  · rw [hL B hx.2.1]; exact w3
  · rw [hL D hx.2.2.1]; exact w4
  · rw [hL P hx.2.2.2]; exact w5
  · rw [hM a hx.1]; exact w6
  · rw [hM B hx.2.1, hM D hx.2.2.1, hM P hx.2.2.2]; exact w7
theorem y_inv.up (I : y_inv L M top) {L' : zL} {N : zM} {top' : Int} (hL : ∀ a, a < top → L' a = L a) (hM : ∀ a, a < top → N a = M a) (ht : top ≤ top') : y_inv L' N top' := by
  obtain ⟨⟨h1, h2, h3⟩, h4, h5, h6, h7, h8, h9, h10, h11, h12⟩ := I
  have e : ∀ a, a < 172 → N a = M a := fun a ha => hM a (by omega)
  have eL : ∀ a, a < 172 → L' a = L a := fun a ha => hL a (by omega)
  have ra : ∀ {a : Int} {w : Int → Int} {lv : Int} {nm ag pr : Int → Int}, 19 ≤ a ∧ a ≤ 127 → y_ra L M a top w lv nm ag pr → y_ra L' N a top' w lv nm ag pr := fun ha h => h.of (fun x h0 h1 => e x (by omega)) (fun x _ h1 => hM x h1) (fun x h0 h1 => eL x (by omega)) (fun x _ h1 => hL x h1) ht
  refine ⟨⟨fun a ha => (eL a (by omega)).trans (h1 a ha), fun q hq => ?_, by omega⟩, ?_, ?_, ?_, ?_, fun c => ?_, ⟨?_, fun j j0 j1 => ?_⟩, fun c => ?_, ?_, ?_⟩
  · rw [e _ (zPt_lt q hq)]; exact h2 q hq
  · unfold TapC at h4 ⊢; rw [e 2 (by omega), e 3 (by omega), e 154 (by omega), e 155 (by omega)]; exact h4
  · rw [e 2 (by omega), e 4 (by omega), e 154 (by omega), e 163 (by omega), e 164 (by omega), e 165 (by omega)]; exact h5
  · rw [e 1 (by omega), e 154 (by omega), e 162 (by omega)]; exact h6
  · rw [e 162 (by omega), e 154 (by omega), e 163 (by omega), e 164 (by omega), e 165 (by omega)]; exact ra (by omega) h7
  · rw [e 154 (by omega)] at c
    rw [e 170 (by omega), e 154 (by omega), e 163 (by omega), e 164 (by omega), e 165 (by omega)]; exact ra (by omega) (h8 c)
  · rw [e 31 (by omega), e 154 (by omega)]; exact h9.1
  · rw [e 154 (by omega)] at j1
    rw [e 31 (by omega), e 166 (by omega), e 154 (by omega), e 163 (by omega), e 164 (by omega), e 165 (by omega)]; exact ra (by omega) (h9.2 j j0 j1)
  · rw [e 154 (by omega)] at c
    rw [e 154 (by omega), e 168 (by omega), e 1 (by omega)]
    exact ⟨(h10 c).1.up (by omega) eL e, (h10 c).2⟩
  · rw [e 153 (by omega), e 167 (by omega)]; exact h11
  · rw [e 154 (by omega)]; exact h12
/-- what person() tells -/
def y_per5 (w : Int → Int) (p k : Int) : Int := if k = 0 then w (2 + p) else if k = 1 then y_cD (w (26 + p)) else if k = 2 then w (50 + p) else if k = 3 then min (w (26 + p)) (w 0) - w (2 + p) else y_kids w p
theorem Lx_person_y (hf : 600 ≤ fu) (I : y_inv L M top) (p k : Int) : Lx_person fu L M 1 p k = some (if (0 ≤ p ∧ p < M 162 1) ∧ 0 ≤ k ∧ k ≤ 4 then some (y_per5 (M 162) p k) else none) := by
  have l1 : L 1 = (12, 0) := I.lay 1 (by decide)
  have l19 : L 19 = (2, 0) := I.lay 19 (by decide)
  have l20 : L 20 = (11, 0) := I.lay 20 (by decide)
  have p4 : M 1 4 = 19 := I.ptr (1, 4, 19) (by decide +kernel)
  have p0 : M 19 0 = 20 := I.ptr (19, 0, 20) (by decide +kernel)
  unfold Lx_person
  rw [l1, if_pos rfl, p4, l19, if_pos rfl, lt1_def, p0, l20, if_pos rfl, Wr_has I.wr I.wv, bd1_some]
  by_cases hp : 0 ≤ p ∧ p < M 162 1
  · rw [if_pos hp, if_neg (by decide)]
    by_cases k0 : k < 0
    · rw [if_pos k0, if_neg (by omega)]
    · rw [if_neg k0]
      by_cases k5 : 4 < k
      · rw [if_pos k5, if_neg (by omega)]
      · rw [if_neg k5, if_pos (show (0 ≤ p ∧ p < M 162 1) ∧ 0 ≤ k ∧ k ≤ 4 by omega)]
        unfold y_per5
        by_cases c0 : k = 0
        · rw [if_pos c0, if_pos c0, Wr_bornIn I.wr I.wv, if_pos hp, bd1_some]
        rw [if_neg c0, if_neg c0]
        by_cases c1 : k = 1
        · rw [if_pos c1, if_pos c1, Wr_diedIn I.wr I.wv, if_pos hp, bd1_some]
        rw [if_neg c1, if_neg c1]
        by_cases c2 : k = 2
        · rw [if_pos c2, if_pos c2, Wr_parentOf I.wr I.wv, if_pos hp, bd1_some]
        rw [if_neg c2, if_neg c2]
        by_cases c3 : k = 3
        · rw [if_pos c3, if_pos c3, Wr_ageOf I.wr I.wv hp.1 hp.2, bd1_some]
        rw [if_neg c3, if_neg c3, Wr_childrenOf (by omega) I.wr I.wv, bd1_some]
  · rw [if_neg hp, if_pos rfl, if_neg (fun z => hp z.1)]
theorem Mo_person_y (hf : 600 ≤ fu) (I : y_inv L M top) (p k : Int) : Mo_person fu L M 154 p k = some (mu M 154 0 (if (0 ≤ p ∧ p < M 162 1) ∧ 0 ≤ k ∧ k ≤ 4 then 0 else 1), if (0 ≤ p ∧ p < M 162 1) ∧ 0 ≤ k ∧ k ≤ 4 then y_per5 (M 162) p k else 0) := by
  have l4 : L 154 = (13, 0) := I.lay 154 (by decide)
  have l62 : L 162 = (101, 2597) := I.lay 162 (by decide)
  have h6 := I.2.2.2.1
  have wv := I.wv
  have b36n : Mo_person_b36 fu L M 154 p k 154 1 = some (mu M 154 0 1, 0) := by
    unfold Mo_person_b36
    rw [l4, if_pos rfl, lt1_def, if_pos rfl, mx_same, if_pos rfl]
  unfold Mo_person
  rw [l4, if_pos rfl, b36n]
  by_cases h0 : M 154 19 = 0
  · have hh := h6.2.2.2.2.1 h0
    rw [if_pos h0, if_neg (show ¬ ((0 ≤ p ∧ p < M 162 1) ∧ 0 ≤ k ∧ k ≤ 4) by omega), if_neg (show ¬ ((0 ≤ p ∧ p < M 162 1) ∧ 0 ≤ k ∧ k ≤ 4) by omega)]
  rw [if_neg h0, y_18 I (y_off.refl M), Mr_isIn l62 (by omega) wv, bd1_some]
  by_cases hp : 0 ≤ p ∧ p < M 162 1
  · rw [if_pos hp, if_neg (by decide), Mo_in_ok, bd1_some]
    by_cases hk : 0 ≤ k ∧ k ≤ 4
    · have o : y_off M (mu M 154 0 0) := y_off0 M
      have m62 : mu M 154 0 0 162 = M 162 := o.row fun i => by omega
      have I' := I.off o
      have wv' := I'.wv
      have p18 := y_18 I o
      have e2 : w32 (2 + p) = 2 + p := w32_id (by have := wv.1; omega)
      have e26 : w32 (26 + p) = 26 + p := w32_id (by have := wv.1; omega)
      have e50 : w32 (50 + p) = 50 + p := w32_id (by have := wv.1; omega)
      have w24 := wv.1
      have g2 : 0 ≤ 2 + p ∧ 2 + p < ((101, 2597) : Int × Int).2 := by show _ ∧ _ < (2597 : Int); omega
      have g26 : 0 ≤ 26 + p ∧ 26 + p < ((101, 2597) : Int × Int).2 := by show _ ∧ _ < (2597 : Int); omega
      have g50 : 0 ≤ 50 + p ∧ 50 + p < ((101, 2597) : Int × Int).2 := by show _ ∧ _ < (2597 : Int); omega
      rw [if_pos hk, if_neg (by decide), if_pos ⟨hp, hk⟩, if_pos ⟨hp, hk⟩]
      unfold Mo_person_b36 y_per5
      rw [l4, if_pos rfl, lt1_def, if_pos rfl, mx_same, if_neg (by decide), p18, l62, e2, e26, e50, m62]
      by_cases c0 : k = 0
      · rw [if_pos c0, if_pos c0, if_pos rfl, if_pos g2]
      rw [if_neg c0, if_neg c0]
      by_cases c1 : k = 1
      · rw [if_pos c1, if_pos c1, if_pos rfl, if_pos g26]
        by_cases c : M 162 (26 + p) = 16777216
        · rw [if_pos c, y_cD_l c]
        · rw [if_neg c, if_pos g26, y_cD_d c]
      rw [if_neg c1, if_neg c1]
      by_cases c2 : k = 2
      · rw [if_pos c2, if_pos c2, if_pos rfl, if_pos g50]
      rw [if_neg c2, if_neg c2]
      by_cases c3 : k = 3
      · rw [if_pos c3, if_pos c3, Mr_ageOf l4 l62 p18 wv' hp.1 (by rw [m62]; exact hp.2), bd1_some, m62]
      rw [if_neg c3, if_neg c3, Mr_children (by omega) l4 l62 p18 wv', bd1_some, m62]
    · rw [if_neg hk, if_pos rfl, if_neg (fun z => hk z.2), if_neg (fun z => hk z.2)]
  · rw [if_neg hp, if_pos rfl, if_neg (fun z => hp z.1), if_neg (fun z => hp z.1)]
theorem bd4_some {α β δ ε γ : Type} {a : α} {b : β} {c : δ} {d : ε} {k : α → β → δ → ε → Option γ} : bd4 (some (a, b, c, d)) k = k a b c d := rfl
/-- a round of the law keeps the invariant and goes on -/
def y_rd (C : (Int → zL → zM → Int → Int → Int → Int → Option Int) → Option Int) (top i : Int) : Prop := ∃ top' L' M', (∀ k, C k = k top' L' M' 1 154 171 (i + 6)) ∧ y_inv L' M' top' ∧ top' ≤ top + 7
theorem rd_person (hf : 600 ≤ fu) (I : y_inv L M top) (ht : top < 1000000) {X : Int → Int} {len i : Int} (hi : 0 ≤ i ∧ i + 6 ≤ len ∧ len ≤ 3072) : y_rd (fun k => Lw_c548 fu X len k top L M 1 154 171 i) top i := by
  have l1 : L 1 = (12, 0) := I.lay 1 (by decide)
  have l171 : L 171 = (102, 1) := I.lay 171 (by decide)
  have e1 : w32 (i + 1) = i + 1 := w32_id (by omega)
  have e2 : w32 (i + 2) = i + 2 := w32_id (by omega)
  have e6 : w32 (i + 6) = i + 6 := w32_id (by omega)
  have htop := I.1.2.2
  by_cases c : (0 ≤ X (i + 1) ∧ X (i + 1) < M 162 1) ∧ 0 ≤ X (i + 2) ∧ X (i + 2) ≤ 4
  · have o : y_off M (mu M 171 0 (y_per5 (M 162) (X (i + 1)) (X (i + 2)))) := (y_off.refl M).mu (by omega)
    have I' := I.off o
    have m62 : mu M 171 0 (y_per5 (M 162) (X (i + 1)) (X (i + 2))) 162 = M 162 := o.row fun i => by omega
    have l4 : L 154 = (13, 0) := I.lay 154 (by decide)
    have pe : Lw_person fu top L M 1 (X (i + 1)) (X (i + 2)) 171 = some (top, L, mu M 171 0 (y_per5 (M 162) (X (i + 1)) (X (i + 2))), 0) := by
      unfold Lw_person
      rw [if_pos (by omega), l1, if_pos rfl, Lx_person_y hf I, if_pos c, bd1_some]
      show (if (L 171).1 = 102 then (if (0 : Int) ≤ 0 ∧ 0 < (L 171).2 then _ else none) else none) = _
      rw [l171, if_pos rfl, if_pos (by decide)]
    have mp := Mo_person_y hf I' (X (i + 1)) (X (i + 2))
    rw [m62, if_pos c, if_pos c] at mp
    refine ⟨top, L, mu (mu M 171 0 (y_per5 (M 162) (X (i + 1)) (X (i + 2)))) 154 0 0, fun k => ?_, I'.off (y_off0 _), by omega⟩
    show Lw_c548 fu X len k top L M 1 154 171 i = _
    unfold Lw_c548
    rw [e1, e2, if_pos (by omega), if_pos (by omega), pe, bd4_some, if_pos (by omega), if_pos (by omega), l4, if_pos rfl, mp, bd2_some]
    unfold Mo_thrown
    rw [l4, if_pos rfl, mx_same, bd1_some, if_pos rfl, if_pos rfl, l171, if_pos rfl, if_pos (by decide), mx_ne (by omega), mx_same, if_pos rfl, lt1_def, e6]
  · have hL : ∀ a, a < top → lu L top (14, 0) a = L a := fun a ha => if_neg (by omega)
    have hM : ∀ a, a < top → mz M top a = M a := fun a ha => funext fun i => if_neg (by omega)
    have I' := I.up hL hM (show top ≤ top + 1 by omega)
    have l4 : lu L top (14, 0) 154 = (13, 0) := I'.lay 154 (by decide)
    have pe : Lw_person fu top L M 1 (X (i + 1)) (X (i + 2)) 171 = some (top + 1, lu L top (14, 0), mz M top, 1) := by
      unfold Lw_person
      rw [if_pos (by omega), l1, if_pos rfl, Lx_person_y hf I, if_neg c, bd1_some]
    have mp := Mo_person_y hf I' (X (i + 1)) (X (i + 2))
    rw [hM 162 (by omega), if_neg c, if_neg c] at mp
    refine ⟨top + 1, lu L top (14, 0), mu (mz M top) 154 0 1, fun k => ?_, I'.off ((y_off.refl _).mu (by omega)), by omega⟩
    show Lw_c548 fu X len k top L M 1 154 171 i = _
    unfold Lw_c548
    rw [e1, e2, if_pos (by omega), if_pos (by omega), pe, bd4_some, if_pos (by omega), if_pos (by omega), l4, if_pos rfl, mp, bd2_some]
    unfold Mo_thrown
    rw [l4, if_pos rfl, mx_same, bd1_some, if_pos rfl, if_neg (by decide), lt1_def, e6]
end
