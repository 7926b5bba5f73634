/-! ===== pure: part 96: lowered ===== -/
section
variable {fu : Nat} {L : zL} {M : zM} {top : Int} {g ga st pt tl wh li e : Int}
/-- the greatest n, 0 to 99, by which P -/
def y_gr (P : Int → Prop) (r : Int) : Prop := (r = -1 ∧ ∀ n, 0 ≤ n → n ≤ 99 → ¬ P n) ∨ ((0 ≤ r ∧ r ≤ 99) ∧ P r ∧ ∀ n, r < n → n ≤ 99 → ¬ P n)
theorem y_gr_u {P : Int → Prop} {r s : Int} (h : y_gr P r) (h' : y_gr P s) : r = s := by
  rcases h with ⟨a1, a2⟩ | ⟨a1, a2, a3⟩
  · rcases h' with ⟨b1, b2⟩ | ⟨b1, b2, b3⟩
    · omega
    · exact absurd b2 (a2 s b1.1 b1.2)
  · rcases h' with ⟨b1, b2⟩ | ⟨b1, b2, b3⟩
    · exact absurd a2 (b2 r a1.1 a1.2)
    · by_cases c : r < s
      · exact absurd b2 (a3 s c b1.2)
      · by_cases c' : s < r
        · exact absurd a2 (b3 r c' a1.2)
        · omega
/-- the gift lowered to n passes the test -/
def y_lg (M : zM) (ga st wh li n : Int) : Prop := y_good (M 154 20) (M 162) (M (M ga 5)) (M (M ga 6)) (M (M ga 7)) (M (M ga 8)) st n wh li (M 162 74) (M 162 75) (1 - y_ind (y_hv wh li (M 154 20) (M 162) (M (M ga 5)) (M (M ga 6)) (M (M ga 7)) (M (M ga 8)) n st)) (y_all (M 154 20))
theorem c_lowered (hf : 600 ≤ fu) (I : y_inv L M top) (g : Int) : y_same L M (fun M => Lx_lowered fu L M 1 g) (fun M => Mo_lowered fu L M 154 g) := by
  have l1 : L 1 = (12, 0) := I.lay 1 (by decide)
  have l4 : L 154 = (13, 0) := I.lay 154 (by decide)
  have l19 : L 19 = (2, 0) := I.lay 19 (by decide)
  have l42 : L 142 = (9, 0) := I.lay 142 (by decide)
  have p4 : M 1 4 = 19 := I.ptr (1, 4, 19) (by decide +kernel)
  by_cases h : M 154 19 = 1 ∧ 0 ≤ g ∧ g < M 162 76
  · obtain ⟨ga, st, pt, tl, wh, li, e, D⟩ := y_gift2 I h
    obtain ⟨g1, g2, g3, g4⟩ := D.at (fu := fu) I (y_off.refl M)
    have gc := D.2.1.2.1
    have hr := gc.2.2.2.1
    have hb := D.2.2.2.1
    have hg8 := D.1
    have A : ∀ (k cc : Nat) (T : zM) (x : Int), x + 1 = k → x ≤ 99 → k < cc → y_off M T → (∀ j, x < j → j ≤ 99 → ¬ y_lg M ga st wh li j) →
        ∃ U r, Lx_lowered_l18 fu L cc T 1 ga x = some (U, r) ∧ y_gr (y_lg M ga st wh li) r ∧ y_off M U := by
      intro k
      induction k with
      | zero =>
        intro cc T x xk x9 hc o hall
        obtain ⟨cc, rfl⟩ : ∃ c'', cc = c'' + 1 := ⟨cc - 1, by omega⟩
        refine ⟨T, -1, ?_, Or.inl ⟨rfl, fun j j0 j1 => hall j (by omega) j1⟩, o⟩
        show Lx_lowered_s18 _ _ _ _ _ _ _ = _
        unfold Lx_lowered_s18
        rw [if_pos (by omega)]
      | succ k ih =>
        intro cc T x xk x9 hc o hall
        obtain ⟨cc, rfl⟩ : ∃ c'', cc = c'' + 1 := ⟨cc - 1, by omega⟩
        obtain ⟨_, _, h3, h4⟩ := D.at (fu := fu) I o
        have p4' : T 1 4 = 19 := (o.ptr I.ptr) (1, 4, 19) (by decide +kernel)
        obtain ⟨N1, N2, a1, a2, a3, a4, a5⟩ := D.take2 (fu := fu) (by omega) I o (m := st) (ln := x) ⟨hb.2.2.2.1, Int.le_refl _⟩ (by omega)
        have ew : w32 (x + -1) = x - 1 := by rw [w32_id (by omega)]; omega
        show ∃ U r, Lx_lowered_s18 _ _ _ _ _ _ _ = _ ∧ _
        unfold Lx_lowered_s18
        rw [if_neg (by omega), l1, if_pos rfl, gc.1, if_pos rfl, y_9 I o, l42, if_pos rfl, p4', h4, a1, bd1_some, a2, l42, if_pos rfl, a3, bd1_some, a4, bd2_some]
        rcases Classical.em (y_lg M ga st wh li x) with c | c
        · have c' := c
          unfold y_lg at c'
          rw [y_ind_1 c', if_neg (by decide)]
          exact ⟨N2, x, rfl, Or.inr ⟨by omega, c, hall⟩, a5⟩
        · have c' := c
          unfold y_lg at c'
          rw [y_ind_0 c', if_pos rfl, lt1_def, ew]
          refine ih cc N2 (x - 1) (by omega) (by omega) (by omega) a5 fun j j0 j1 => ?_
          by_cases cj : j = x
          · subst cj; exact c
          · exact hall j (by omega) j1
    have hM32 : M 154 32 = 99 := I.2.2.2.2.2.2.2.2.2
    have B : ∀ (k cc : Nat) (T : zM) (x b : Int), x + 1 = k → x ≤ 99 → k + 1 < cc → (∀ a i, ¬ (a = 154 ∧ i = 32) → ¬ y_scr a i → T a i = M a i) → (T 154 45 = 82 + 315 * g + 0 ∧ T 154 46 = 82 + 315 * g + e) → ((b = -1 ∧ ∀ j, x < j → j ≤ 99 → ¬ y_lg M ga st wh li j) ∨ (b = x + 1 ∧ x < 99 ∧ y_lg M ga st wh li b ∧ ∀ j, b < j → j ≤ 99 → ¬ y_lg M ga st wh li j)) →
        ∃ U r, Mo_lowered_l25 fu L cc T 154 g b x = some (U, r) ∧ y_gr (y_lg M ga st wh li) r ∧ y_off M U := by
      have fin : ∀ T : zM, (∀ a i, ¬ (a = 154 ∧ i = 32) → ¬ y_scr a i → T a i = M a i) → y_off M (mu T 154 32 99) := fun T o a i c => by
        by_cases z : a = 154 ∧ i = 32
        · rw [z.1, z.2, mx_same, hM32]
        · rw [mx_ne (by omega)]; exact o a i z c
      intro k
      induction k with
      | zero =>
        intro cc T x b xk x9 hc o hs hb2
        obtain ⟨cc, rfl⟩ : ∃ c'', cc = c'' + 1 := ⟨cc - 1, by omega⟩
        refine ⟨mu T 154 32 99, b, ?_, ?_, fin T o⟩
        · show Mo_lowered_s25 _ _ _ _ _ _ _ _ = _
          unfold Mo_lowered_s25
          rw [if_pos (by omega), l4, if_pos rfl]; rfl
        · rcases hb2 with ⟨b1, b2⟩ | ⟨b1, b2, b3, b4⟩
          · exact Or.inl ⟨b1, fun j j0 j1 => b2 j (by omega) j1⟩
          · exact Or.inr ⟨by omega, b3, b4⟩
      | succ k ih =>
        intro cc T x b xk x9 hc o hs hb2
        obtain ⟨cc, rfl⟩ : ∃ c'', cc = c'' + 1 := ⟨cc - 1, by omega⟩
        rcases hb2 with ⟨b1, b2⟩ | ⟨b1, b2, b3, b4⟩
        · have oV : ∀ a i, ¬ (a = 154 ∧ i = 32) → ¬ y_scr a i → mu T 154 32 x a i = M a i := fun a i z c => by
            rw [mx_ne (by omega)]; exact o a i z c
          have mt := D.mt I (N := mu T 154 32 x) oV (ln := x) (mx_same _ _ _ _) (by omega)
          have hop := y_op01 (y_hv wh li (M 154 20) (M 162) (M (M ga 5)) (M (M ga 6)) (M (M ga 7)) (M (M ga 8)) x st)
          have ms : y_ms (mu T 154 32 x) (fun i => M 162 (77 + 315 * g + (5 + i))) (M (M ga 5)) (M (M ga 6)) (M (M ga 7)) (M (M ga 8)) (M 154 20) e st (82 + 315 * g) 0 e 0 st :=
            ⟨D.sg (fun i => oV _ _ (by omega) (by omega)), Or.inr D.2.2.2.2.2.1, ⟨by rw [mx_ne (by omega)]; exact hs.1, by rw [mx_ne (by omega)]; exact hs.2⟩, by omega, hb.2.2.2.2, D.sk⟩
          obtain ⟨W, v1, v2⟩ := Mo_isGood_ok (fu := fu) (by omega) mt ms (y_all (M 154 20)) hop.1 hop.2
          have oW : ∀ a i, ¬ (a = 154 ∧ i = 32) → ¬ y_scr a i → W a i = M a i := fun a i z c => (v2.off a i c).trans (oV a i z c)
          have s45 : W 154 45 = 82 + 315 * g + 0 := by rw [v2 _ _ (by omega) (by omega), mx_ne (by omega)]; exact hs.1
          have s46 : W 154 46 = 82 + 315 * g + e := by rw [v2 _ _ (by omega) (by omega), mx_ne (by omega)]; exact hs.2
          have ew : w32 (x + -1) = x - 1 := by rw [w32_id (by omega)]; omega
          show ∃ U r, Mo_lowered_s25 _ _ _ _ _ _ _ _ = _ ∧ _
          unfold Mo_lowered_s25
          rw [if_neg (by omega), if_pos b1, l4, if_pos rfl, lt1_def, Mo_allLives_ok I (oV _ _ (by omega) (by omega)), bd1_some, v1, bd2_some]
          rcases Classical.em (y_lg M ga st wh li x) with c | c
          · have c' := c
            unfold y_lg at c'
            rw [y_ind_1 c', if_neg (by decide), lt1_def, ew]
            exact ih cc W (x - 1) x (by omega) (by omega) (by omega) oW ⟨s45, s46⟩ (Or.inr ⟨by omega, by omega, c, b2⟩)
          · have c' := c
            unfold y_lg at c'
            rw [y_ind_0 c', if_pos rfl, lt1_def, ew]
            refine ih cc W (x - 1) (-1) (by omega) (by omega) (by omega) oW ⟨s45, s46⟩ (Or.inl ⟨rfl, fun j j0 j1 => ?_⟩)
            by_cases cj : j = x
            · subst cj; exact c
            · exact b2 j (by omega) j1
        · refine ⟨mu T 154 32 99, b, ?_, Or.inr ⟨by omega, b3, b4⟩, fin T o⟩
          show Mo_lowered_s25 _ _ _ _ _ _ _ _ = _
          unfold Mo_lowered_s25
          rw [if_neg (by omega), if_neg (by omega), l4, if_pos rfl]; rfl
    obtain ⟨U, r, u1, u2, u3⟩ := A 100 fu M 99 (by omega) (by omega) (by omega) (y_off.refl M) (fun j j0 j1 => absurd j1 (by omega))
    have o2 := u3.trans (y_off0 U)
    obtain ⟨T, t1, t2, t3, t4⟩ := D.rdy (fu := fu) I o2
    obtain ⟨V, r', v1, v2, v3⟩ := B 100 fu T 99 (-1) (by omega) (by omega) (by omega) (fun a i _ c => t2 a i c) t4.2.2.1 (Or.inl ⟨rfl, fun j j0 j1 => absurd j1 (by omega)⟩)
    have er := y_gr_u u2 v2
    refine y_same.mk (M1 := U) (M2 := V) (r := r) v3 ?_ ?_
    · show Lx_lowered fu L M 1 g = _
      unfold Lx_lowered
      rw [l1, if_pos rfl, p4, l19, if_pos rfl, g1, bd1_some, if_neg g2, u1]
    · show Mo_lowered fu L U 154 g = _
      unfold Mo_lowered
      rw [l4, if_pos rfl, lt1_def, y_isG I o2, if_pos h, bd1_some, if_neg (by decide), t1, bd1_some, v1, er]
  · refine y_same.mk (M1 := M) (M2 := mu M 154 0 0) (r := -1) (y_off0 M) ?_ ?_
    · show Lx_lowered fu L M 1 g = _
      unfold Lx_lowered
      rw [l1, if_pos rfl, p4, l19, if_pos rfl, Af_giftAt_n I h, bd1_some, if_pos rfl]
    · show Mo_lowered fu L M 154 g = _
      unfold Mo_lowered
      rw [l4, if_pos rfl, lt1_def, y_isG I (y_off0 M), if_neg h, bd1_some, if_pos rfl]
end
