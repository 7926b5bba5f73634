/-! ===== pure: part 93: carriers, witness, lates, worst ===== -/
section
variable {fu : Nat} {L : zL} {N : zM} {g wh li per lim lv ln : Int} {w : Int → Int} {S K Q A F : Int → Int} {e st c i e' p q op : Int}
theorem Mo_all_mt (h : y_mt L N g wh li per lim lv ln w) : Mo_allLives fu L N 154 = some (y_all lv) := by
  unfold Mo_allLives
  rw [h.2.1.1, if_pos rfl, h.2.2.1.2.2.2.2.1]; rfl
theorem Mo_carriers_l (hf : 400 ≤ fu) (h : y_mt L N g wh li per lim lv ln w) (s : y_ms N S K Q A F lv e st c i e' p q) (hop : op = 0 ∨ op = 1) (hov : op = 0 ↔ y_hv wh li lv w K Q A F ln q) :
    ∃ U r, Mo_carriers_l24 fu L fu N 154 g (-1) 0 = some (U, r) ∧ y_few (y_good lv w K Q A F q ln wh li per lim op) (y_all lv) r ∧ y_ob N U := by
  have l4 := h.2.1.1
  have hlv := h.2.2.2.2.2.1
  have har := y_all_r (lv := lv) (by omega)
  have gol : ∀ (k cc : Nat) (T : zM) (x b : Int), 0 ≤ x → x + k = y_all lv + 1 → k < cc → y_ob N T →
      ((b = -1 ∧ ∀ s, 0 ≤ s → s < x → ¬ y_good lv w K Q A F q ln wh li per lim op s) ∨ (0 ≤ b ∧ b < x ∧ y_good lv w K Q A F q ln wh li per lim op b ∧ ∀ s, 0 ≤ s → s < x → y_good lv w K Q A F q ln wh li per lim op s → y_bc b < y_bc s ∨ (y_bc b = y_bc s ∧ b ≤ s))) →
      ∃ U r, Mo_carriers_l24 fu L cc T 154 g b x = some (U, r) ∧ y_few (y_good lv w K Q A F q ln wh li per lim op) (y_all lv) r ∧ y_ob N U := by
    intro k
    induction k with
    | zero =>
      intro cc T x b x0 xN hc o hb
      obtain ⟨cc, rfl⟩ : ∃ c'', cc = c'' + 1 := ⟨cc - 1, by omega⟩
      refine ⟨T, b, ?_, ?_, o⟩
      · show Mo_carriers_s24 _ _ _ _ _ _ _ _ = _
        unfold Mo_carriers_s24
        rw [l4, if_pos rfl, Mo_all_mt (h.ob o), bd1_some, if_pos (by omega)]
      · rcases hb with ⟨b1, b2⟩ | ⟨b1, b2, b3, b4⟩
        · exact Or.inl ⟨b1, fun s s0 s1 => b2 s s0 (by omega)⟩
        · exact Or.inr ⟨b1, by omega, b3, fun s s0 s1 hs => b4 s s0 (by omega) hs⟩
    | succ k ih =>
      intro cc T x b x0 xN hc o hb
      obtain ⟨cc, rfl⟩ : ∃ c'', cc = c'' + 1 := ⟨cc - 1, by omega⟩
      obtain ⟨V, v1, v2⟩ := Mo_isGood_ok (fu := fu) hf (h.ob o) (s.ob o) x hop hov
      have ew : w32 (x + 1) = x + 1 := w32_id (by omega)
      have hb53 : ∀ y, Mo_carriers_b53 fu (Mo_carriers_l24 fu L cc) L T 154 g b x y = if y = 0 then Mo_carriers_l24 fu L cc T 154 g b (x + 1) else if y_ind (y_good lv w K Q A F q ln wh li per lim op x) = 0 then Mo_carriers_l24 fu L cc V 154 g b (x + 1) else Mo_carriers_l24 fu L cc V 154 g x (x + 1) := fun y => by
        unfold Mo_carriers_b53
        simp only [l4, ↓reduceIte, ↓bd2_eq v1, ↓lt1_def, ew]
      have e0 : Mo_carriers_l24 fu L (cc + 1) T 154 g b x = if b = -1 ∨ y_bc x < y_bc b then (if y_ind (y_good lv w K Q A F q ln wh li per lim op x) = 0 then Mo_carriers_l24 fu L cc V 154 g b (x + 1) else Mo_carriers_l24 fu L cc V 154 g x (x + 1)) else Mo_carriers_l24 fu L cc T 154 g b (x + 1) := by
        show Mo_carriers_s24 _ _ _ _ _ _ _ _ = _
        unfold Mo_carriers_s24
        rw [l4, if_pos rfl, Mo_all_mt (h.ob o), bd1_some, if_neg (by omega)]
        simp only [hb53, In_bitCount_ok, bd1_some, ↓reduceIte, Int.reduceEq]
        by_cases c1 : b = -1
        · rw [if_pos c1, if_pos (Or.inl c1)]
        · rw [if_neg c1]
          by_cases c2 : y_bc x < y_bc b
          · rw [if_pos c2, if_pos (show b = -1 ∨ y_bc x < y_bc b from Or.inr c2)]
          · rw [if_neg c2, if_neg (show ¬ (b = -1 ∨ y_bc x < y_bc b) by omega)]
      rw [e0]
      by_cases cf : b = -1 ∨ y_bc x < y_bc b
      · rw [if_pos cf]
        rcases Classical.em (y_good lv w K Q A F q ln wh li per lim op x) with cg | cg
        · rw [y_ind_1 cg, if_neg (by decide)]
          refine ih cc V (x + 1) x (by omega) (by omega) (by omega) (o.trans v2) (Or.inr ⟨x0, by omega, cg, fun s s0 s1 hs => ?_⟩)
          by_cases cs : s = x
          · subst cs; exact Or.inr ⟨rfl, Int.le_refl _⟩
          · rcases hb with ⟨b1, b2⟩ | ⟨b1, b2, b3, b4⟩
            · exact absurd hs (b2 s s0 (by omega))
            · have := b4 s s0 (by omega) hs
              omega
        · rw [y_ind_0 cg, if_pos rfl]
          refine ih cc V (x + 1) b (by omega) (by omega) (by omega) (o.trans v2) ?_
          rcases hb with ⟨b1, b2⟩ | ⟨b1, b2, b3, b4⟩
          · refine Or.inl ⟨b1, fun s s0 s1 => ?_⟩
            by_cases cs : s = x
            · subst cs; exact cg
            · exact b2 s s0 (by omega)
          · refine Or.inr ⟨b1, by omega, b3, fun s s0 s1 hs => ?_⟩
            by_cases cs : s = x
            · subst cs; exact absurd hs cg
            · exact b4 s s0 (by omega) hs
      · rw [if_neg cf]
        refine ih cc T (x + 1) b (by omega) (by omega) (by omega) o ?_
        rcases hb with ⟨b1, b2⟩ | ⟨b1, b2, b3, b4⟩
        · exact absurd (Or.inl b1) cf
        · refine Or.inr ⟨b1, by omega, b3, fun s s0 s1 hs => ?_⟩
          by_cases cs : s = x
          · subst cs; omega
          · exact b4 s s0 (by omega) hs
  exact gol (y_all lv + 1).toNat fu N 0 (-1) (by omega) (by omega) (by omega) (y_ob.refl N) (Or.inl ⟨rfl, fun s s0 s1 => absurd s1 (by omega)⟩)
theorem Mo_witness_l (hf : 600 ≤ fu) (h : y_mt L N g wh li per lim lv ln w) (s : y_ms N S K Q A F lv e st c i e' p q) :
    ∃ U r, Mo_witness_l36 fu L fu N 154 g op 0 = some (U, r) ∧ y_fst (fun c => y_isc lv c ∧ y_late lv w K Q A F q ln wh li per lim op c) 512 r ∧ y_ob N U := by
  have l4 := h.2.1.1
  have gol : ∀ (k cc : Nat) (T : zM) (x : Int), 0 ≤ x → x + k = 512 → k < cc → y_ob N T → (∀ j, 0 ≤ j → j < x → ¬ (y_isc lv j ∧ y_late lv w K Q A F q ln wh li per lim op j)) →
      ∃ U r, Mo_witness_l36 fu L cc T 154 g op x = some (U, r) ∧ y_fst (fun c => y_isc lv c ∧ y_late lv w K Q A F q ln wh li per lim op c) 512 r ∧ y_ob N U := by
    intro k
    induction k with
    | zero =>
      intro cc T x x0 xN hc o hall
      obtain ⟨cc, rfl⟩ : ∃ c'', cc = c'' + 1 := ⟨cc - 1, by omega⟩
      refine ⟨T, -1, ?_, Or.inl ⟨rfl, fun k k0 k1 => hall k k0 (by omega)⟩, o⟩
      show Mo_witness_s36 _ _ _ _ _ _ _ _ = _
      unfold Mo_witness_s36
      rw [if_neg (by omega)]
    | succ k ih =>
      intro cc T x x0 xN hc o hall
      obtain ⟨cc, rfl⟩ : ∃ c'', cc = c'' + 1 := ⟨cc - 1, by omega⟩
      have hT := h.ob o
      have x512 : x < 512 := by omega
      have ew : w32 (x + 1) = x + 1 := w32_id (by omega)
      have eC := Mo_isCourse_ok (fu := fu) (L := L) (N := T) l4 hT.2.2.1.2.2.2.2.1 x
      have nx : ¬ (y_isc lv x ∧ y_late lv w K Q A F q ln wh li per lim op x) → ∀ j, 0 ≤ j → j < x + 1 → ¬ (y_isc lv j ∧ y_late lv w K Q A F q ln wh li per lim op j) := fun hn j j0 j1 => by
        by_cases cj : j = x
        · subst cj; exact hn
        · exact hall j j0 (by omega)
      show ∃ U r, Mo_witness_s36 _ _ _ _ _ _ _ _ = _ ∧ _
      unfold Mo_witness_s36
      rw [if_pos x512, l4, if_pos rfl, eC, bd1_some]
      rcases Classical.em (y_isc lv x) with c1 | c1
      · obtain ⟨V, v1, v2⟩ := Mo_isLate_ok (fu := fu) (op := op) (by omega) hT (s.ob o) c1
        rw [y_ind_1 c1, if_neg (by decide), v1, bd2_some]
        rcases Classical.em (y_late lv w K Q A F q ln wh li per lim op x) with c2 | c2
        · rw [y_ind_1 c2, if_neg (by decide)]
          exact ⟨V, x, rfl, Or.inr ⟨x0, x512, ⟨c1, c2⟩, fun j j0 j1 => hall j j0 j1⟩, o.trans v2⟩
        · rw [y_ind_0 c2, if_pos rfl, lt1_def, ew]
          exact ih cc V (x + 1) (by omega) (by omega) (by omega) (o.trans v2) (nx fun z => c2 z.2)
      · rw [y_ind_0 c1, if_pos rfl, lt1_def, ew]
        exact ih cc T (x + 1) (by omega) (by omega) (by omega) o (nx fun z => c1 z.1)
  exact gol 512 fu N 0 (by omega) (by omega) (by omega) (y_ob.refl N) (fun j j0 j1 => absurd j1 (by omega))
theorem Mo_lates_l (hf : 600 ≤ fu) (h : y_mt L N g wh li per lim lv ln w) (s : y_ms N S K Q A F lv e st c i e' p q) :
    ∃ U, Mo_lates_l39 fu L fu N 154 g op 0 0 = some (U, y_cnt (fun c => y_isc lv c ∧ y_late lv w K Q A F q ln wh li per lim op c)) ∧ y_ob N U := by
  have l4 := h.2.1.1
  unfold y_cnt
  generalize h512 : (512 : Nat) = z512
  refine y_lpm0 (F := fun n T s i => Mo_lates_l39 fu L n T 154 g op s i) (fin := fun s => s) (st := fun c s => s + y_ind (y_isc lv c ∧ y_late lv w K Q A F q ln wh li per lim op c)) (N := 512) (fun T => y_ob N T) (fun i s => 0 ≤ s ∧ s ≤ i) (fun n T z x o x0 xN hI => ?_) (fun n T z x o xN hI => ?_) z512 fu N 0 0 (y_ob.refl N) (by omega) (by omega) (by omega) (by omega)
  · have hT := h.ob o
    have ew : w32 (x + 1) = x + 1 := w32_id (by omega)
    have es : w32 (z + 1) = z + 1 := w32_id (by omega)
    have ez : w32 (z + 0) = z := by rw [w32_id (by omega)]; omega
    have eC := Mo_isCourse_ok (fu := fu) (L := L) (N := T) l4 hT.2.2.1.2.2.2.2.1 x
    show ∃ U, Mo_lates_s39 _ _ _ _ _ _ _ _ _ = _ ∧ _
    unfold Mo_lates_s39
    rw [if_pos xN, l4, if_pos rfl, eC, bd1_some]
    rcases Classical.em (y_isc lv x) with c1 | c1
    · obtain ⟨V, v1, v2⟩ := Mo_isLate_ok (fu := fu) (op := op) (by omega) hT (s.ob o) c1
      rw [y_ind_1 c1, if_neg (by decide), v1, bd2_some]
      rcases Classical.em (y_late lv w K Q A F q ln wh li per lim op x) with c2 | c2
      · rw [y_ind_1 c2, if_neg (by decide), y_ind_1 (p := y_isc lv x ∧ y_late lv w K Q A F q ln wh li per lim op x) ⟨c1, c2⟩, lt1_def, lt1_def, es, ew]
        exact ⟨V, rfl, o.trans v2, by omega⟩
      · rw [y_ind_0 c2, if_pos rfl, y_ind_0 (p := y_isc lv x ∧ y_late lv w K Q A F q ln wh li per lim op x) (fun z => c2 z.2), lt1_def, lt1_def, ez, ew, show z + 0 = z by omega]
        exact ⟨V, rfl, o.trans v2, by omega⟩
    · rw [y_ind_0 c1, if_pos rfl, y_ind_0 (p := y_isc lv x ∧ y_late lv w K Q A F q ln wh li per lim op x) (fun z => c1 z.1), lt1_def, lt1_def, ez, ew, show z + 0 = z by omega]
      exact ⟨T, rfl, o, by omega⟩
  · refine ⟨T, ?_, o⟩
    show Mo_lates_s39 _ _ _ _ _ _ _ _ _ = _
    unfold Mo_lates_s39
    rw [if_neg (by omega)]
theorem Mo_worst_l (hf : 400 ≤ fu) (h : y_mt L N g wh li per lim lv ln w) (s : y_ms N S K Q A F lv e st c i e' p q) {what : Int} (hwt : 0 ≤ what ∧ what ≤ 2) :
    ∃ U r mo, Mo_worst_l57 fu L fu N 154 g what op (-1) (-1) 0 = some (U, if r = -1 then -1000000 else if what = 2 then (if mo < 1000000 then mo else -1) else if what = 0 then r / 8 else r % 8) ∧ y_wrs (fun k => y_bhv lv w K Q A F q ln (y_all lv) (k / 8) (k % 8)) (y_is wh li lim lv w op) r mo ∧ y_ob N U := by
  have l4 := h.2.1.1
  have te := s.te h
  obtain ⟨B, hB⟩ : ∃ B : Int → Int, B = fun k => y_bhv lv w K Q A F q ln (y_all lv) (k / 8) (k % 8) := ⟨_, rfl⟩
  rw [← hB]
  have gol : ∀ (k cc : Nat) (T : zM) (x b mo : Int), 0 ≤ x → x + k = 24 → k < cc → y_ob N T →
      ((b = -1 ∧ mo = -1 ∧ ∀ j, 0 ≤ j → j < x → ¬ y_is wh li lim lv w op j) ∨ (0 ≤ b ∧ b < x ∧ y_is wh li lim lv w op b ∧ mo = B b ∧ ∀ j, 0 ≤ j → j < x → y_is wh li lim lv w op j → B j ≤ mo ∧ (j < b → B j < mo))) →
      ∃ U r mo2, Mo_worst_l57 fu L cc T 154 g what op b (if mo = -1 then -1 else y_me mo) x = some (U, if r = -1 then -1000000 else if what = 2 then (if mo2 < 1000000 then mo2 else -1) else if what = 0 then r / 8 else r % 8) ∧ y_wrs B (y_is wh li lim lv w op) r mo2 ∧ y_ob N U := by
    intro k
    induction k with
    | zero =>
      intro cc T x b mo x0 xN hc o hb
      obtain ⟨cc, rfl⟩ : ∃ c'', cc = c'' + 1 := ⟨cc - 1, by omega⟩
      refine ⟨T, b, mo, ?_, ?_, o⟩
      · show Mo_worst_s57 _ _ _ _ _ _ _ _ _ _ _ = _
        unfold Mo_worst_s57
        rw [if_neg (by omega)]
        rcases hb with ⟨b1, b2, b3⟩ | ⟨b1, b2, b3, b4, b5⟩
        · rw [if_pos b1, if_pos b1]
        · have hbb := y_bhv_b te (set := y_all lv) (sort := b / 8) (l := b % 8) ⟨by omega, b3.1⟩
          have hBb : B b = y_bhv lv w K Q A F q ln (y_all lv) (b / 8) (b % 8) := by rw [hB]
          rw [← hBb, ← b4] at hbb
          have em : w32 (Int.tmod b 8) = b % 8 := by rw [Int.tmod_eq_emod_of_nonneg b1, w32_id (by omega)]
          have ed : w32 (Int.tdiv b 8) = b / 8 := by rw [Int.tdiv_eq_ediv_of_nonneg b1, w32_id (by omega)]
          have nb : ¬ b = -1 := by omega
          have nm : ¬ mo = -1 := by omega
          simp only [nb, nm, ↓reduceIte, em, ed]
          unfold y_me
          (repeat' split) <;> first | rfl | omega
      · rcases hb with ⟨b1, b2, b3⟩ | ⟨b1, b2, b3, b4, b5⟩
        · exact Or.inl ⟨b1, b2, fun k k0 k1 => b3 k k0 (by omega)⟩
        · exact Or.inr ⟨b1, by omega, b3, b4, fun k k0 k1 hk => by rw [← b4]; exact b5 k k0 (by omega) hk⟩
    | succ k ih =>
      intro cc T x b mo x0 xN hc o hb
      obtain ⟨cc, rfl⟩ : ∃ c'', cc = c'' + 1 := ⟨cc - 1, by omega⟩
      have hT := h.ob o
      have sT := s.ob o
      have x24 : x < 24 := by omega
      have em : w32 (Int.tmod x 8) = x % 8 := by rw [Int.tmod_eq_emod_of_nonneg x0, w32_id (by omega)]
      have ed : w32 (Int.tdiv x 8) = x / 8 := by rw [Int.tdiv_eq_ediv_of_nonneg x0, w32_id (by omega)]
      have ew : w32 (x + 1) = x + 1 := w32_id (by omega)
      have q20 : T 154 20 = lv := hT.2.2.1.2.2.2.2.1
      have skip : ¬ y_is wh li lim lv w op x → ((b = -1 ∧ mo = -1 ∧ ∀ j, 0 ≤ j → j < x + 1 → ¬ y_is wh li lim lv w op j) ∨ (0 ≤ b ∧ b < x + 1 ∧ y_is wh li lim lv w op b ∧ mo = B b ∧ ∀ j, 0 ≤ j → j < x + 1 → y_is wh li lim lv w op j → B j ≤ mo ∧ (j < b → B j < mo))) := fun hn => by
        rcases hb with ⟨b1, b2, b3⟩ | ⟨b1, b2, b3, b4, b5⟩
        · refine Or.inl ⟨b1, b2, fun j j0 j1 => ?_⟩
          by_cases cj : j = x
          · rw [cj]; exact hn
          · exact b3 j j0 (by omega)
        · refine Or.inr ⟨b1, by omega, b3, b4, fun j j0 j1 hj => ?_⟩
          by_cases cj : j = x
          · rw [cj] at hj; exact absurd hj hn
          · exact b5 j j0 (by omega) hj
      show ∃ U r mo2, Mo_worst_s57 _ _ _ _ _ _ _ _ _ _ _ = _ ∧ _
      unfold Mo_worst_s57
      rw [if_pos x24, l4, if_pos rfl, em, ed, q20]
      by_cases cl : x % 8 < lv
      · have eT := Mo_isThere_ok (fu := fu) hT (sort := x / 8) (l := x % 8) (op := op) (by omega) (by omega) cl
        rw [if_pos cl, eT, bd1_some]
        rcases y_thr_01 wh li lim w op (x / 8) (x % 8) with c0 | c0
        · rw [c0, if_pos rfl, lt1_def, ew]
          exact ih cc T (x + 1) b mo (by omega) (by omega) (by omega) o (skip fun z => by have := z.2; rw [c0] at this; exact absurd this (by decide))
        · obtain ⟨U, u1, u2, u3, u4⟩ := Mo_begin_ok (fu := fu) hT sT
          have oU := o.trans u2
          obtain ⟨V, v1, v2⟩ := Mo_behindSo_ok (fu := fu) hf (h.ob oU) (s.ob oU) u3 u4 (sort := x / 8) (l := x % 8) (set := y_all lv) ⟨by omega, cl⟩
          have oV := oU.trans v2
          have hbb := y_bhv_b te (set := y_all lv) (sort := x / 8) (l := x % 8) ⟨by omega, cl⟩
          have hBx : B x = y_bhv lv w K Q A F q ln (y_all lv) (x / 8) (x % 8) := by rw [hB]
          rw [← hBx] at hbb v1
          have hBb : mo ≠ -1 → mo = B b ∧ 0 ≤ mo ∧ mo ≤ 1000000 ∧ (mo < 1000000 → mo ≤ 4600) := fun hne => by
            rcases hb with ⟨b1, b2, b3⟩ | ⟨b1, b2, b3, b4, b5⟩
            · exact absurd b2 hne
            · have z := y_bhv_b te (set := y_all lv) (sort := b / 8) (l := b % 8) ⟨by omega, b3.1⟩
              have z2 : B b = y_bhv lv w K Q A F q ln (y_all lv) (b / 8) (b % 8) := by rw [hB]
              rw [← z2, ← b4] at z
              exact ⟨b4, z⟩
          have emin : min 1048576 (y_me (B x)) = y_me (B x) := by unfold y_me; split <;> omega
          have hlt : ((if mo = -1 then -1 else y_me mo) < y_me (B x)) ↔ mo < B x := by
            by_cases cm : mo = -1
            · rw [if_pos cm]
              unfold y_me
              split <;> omega
            · have z := hBb cm
              rw [if_neg cm]
              unfold y_me
              (repeat' split) <;> omega
          rw [c0, if_neg (by decide), u1, bd1_some, Mo_all_mt (h.ob oU), bd1_some, v1, bd2_some, lt1_def, emin]
          unfold Mo_worst_b139
          rw [lt1_def, lt1_def, lt1_def, ew]
          by_cases cc1 : mo < B x
          · rw [if_pos (hlt.2 cc1)]
            have emx : max (if mo = -1 then -1 else y_me mo) (y_me (B x)) = if B x = -1 then -1 else y_me (B x) := by
              rw [if_neg (show ¬ B x = -1 by omega)]
              have := hlt.2 cc1
              omega
            rw [emx]
            refine ih cc V (x + 1) x (B x) (by omega) (by omega) (by omega) oV (Or.inr ⟨x0, by omega, ⟨cl, c0⟩, rfl, fun j j0 j1 hj => ?_⟩)
            by_cases cj : j = x
            · subst cj; omega
            · rcases hb with ⟨b1, b2, b3⟩ | ⟨b1, b2, b3, b4, b5⟩
              · exact absurd hj (b3 j j0 (by omega))
              · have := (b5 j j0 (by omega) hj).1
                omega
          · rw [if_neg (fun z => cc1 (hlt.1 z))]
            have emx : max (if mo = -1 then -1 else y_me mo) (y_me (B x)) = if mo = -1 then -1 else y_me mo := by
              have := fun z => cc1 (hlt.1 z)
              omega
            rw [emx]
            refine ih cc V (x + 1) b mo (by omega) (by omega) (by omega) oV ?_
            rcases hb with ⟨b1, b2, b3⟩ | ⟨b1, b2, b3, b4, b5⟩
            · omega
            · refine Or.inr ⟨b1, by omega, b3, b4, fun j j0 j1 hj => ?_⟩
              by_cases cj : j = x
              · subst cj; omega
              · exact b5 j j0 (by omega) hj
      · rw [if_neg cl, lt1_def, ew]
        exact ih cc T (x + 1) b mo (by omega) (by omega) (by omega) o (skip fun z => cl z.1)
  have g1 := gol 24 fu N 0 (-1) (-1) (by omega) (by omega) (by omega) (y_ob.refl N) (Or.inl ⟨rfl, rfl, fun j j0 j1 => absurd j1 (by omega)⟩)
  rw [if_pos rfl] at g1
  exact g1
end
