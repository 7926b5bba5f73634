/-! ===== pure: part 91: courses, the model ===== -/
theorem y_ld_eq {lv c : Int} (hl : 1 ≤ lv ∧ lv ≤ 8) (hc : 0 ≤ c ∧ c < 512) (h : iand c 255 ≤ y_all lv) : y_ld lv c = if iand c 255 = y_all lv then 1 else 60 := by
  have h9 : ∀ l : Nat, l < 9 → 1 ≤ l → ∀ c : Nat, c < 512 → iand c 255 ≤ y_all l → y_ld l c = if iand c 255 = y_all l then 1 else 60 := by decide +kernel
  have := h9 lv.toNat (by omega) (by omega) c.toNat (by omega)
  rw [show ((lv.toNat : Nat) : Int) = lv by omega, show ((c.toNat : Nat) : Int) = c by omega] at this
  exact this h
section
variable {fu : Nat} {L : zL} {N : zM} {g wh li per lim lv ln : Int} {w : Int → Int} {S K Q A F : Int → Int} {e st c i e' p q : Int}
theorem Mo_diesIn_ok (co l : Int) : Mo_diesIn fu L N co l = some (y_dl co l) := by
  unfold Mo_diesIn y_dl
  rw [Mo_has_ok, bd1_some]
  rcases y_has_b co l with z | z
  · rw [z, if_pos rfl, if_neg (by decide)]
  · rw [z, if_neg (by decide), if_pos rfl]
theorem Mo_begin_9 (l4 : L 154 = (13, 0)) {U : zM} (hU : Mo_begin fu L N 154 = some U) (j : Int) : U 169 j = N 169 j := by
  unfold Mo_begin at hU
  rw [l4, if_pos rfl, lt1_def, lt1_def] at hU
  have := Option.some.inj hU
  rw [← this, mx_ne (by omega), mx_ne (by omega)]
theorem Mo_vestsBy_ok (hf : 400 ≤ fu) (h : y_mt L N g wh li per lim lv ln w) (s : y_ms N S K Q A F lv e st c i e' p q) {sort l : Int} (hs : 0 ≤ sort ∧ sort ≤ 2) (hl : 0 ≤ l ∧ l < lv) (co : Int) :
    ∃ T, Mo_vestsBy fu L N 154 sort l co = some (T, y_mv (y_yf lv w K Q A F q ln sort l co)) ∧ y_ob N T := by
  obtain ⟨⟨h1, hwh, hli, hper, hln⟩, ⟨l4, l62, l64, l65, l69⟩, ⟨p18, p22, p23, p47, p20, p32⟩, _, hag, v⟩ := id h
  have hw := v.1
  obtain ⟨B, b1, b2, b3, b4, b5, _⟩ := Mo_beginsWorld_ok (fu := fu) hf l69 (by omega) l4 l64 l65 p22 p23 p20 ⟨by omega, by omega⟩ (by omega) hag
  have oB : y_ob N B := fun a j _ c2 => b2 a j c2
  have vp := y_pw_v (c := co) v h.hb
  have l8 : l < 8 := by omega
  obtain ⟨T, k, e5, ⟨o, j1⟩⟩ := y_lpx (F := fun k (T : zM) i => Mo_vestsBy_l11 fu L k T 154 sort l co i) (N := lv)
    (fun i T => (∀ a j, a ≠ 169 → T a j = N a j) ∧ ∀ z, 0 ≤ z → z < lv → T 169 (2 + z) = w (2 + z) ∧ (z < i → T 169 (26 + z) = y_dl co z))
    (fun k T i h0 hN hJ => by
      obtain ⟨o, j1⟩ := hJ
      have q20 : T 154 20 = lv := (o _ _ (by omega)).trans p20
      have q47 : T 154 47 = 169 := (o _ _ (by omega)).trans p47
      have ew : w32 (i + 1) = i + 1 := w32_id (by omega)
      have e26 : w32 (26 + i) = 26 + i := w32_id (by omega)
      have k26 : 0 ≤ 26 + i := by omega
      have k26' : 26 + i < 74 := by omega
      refine ⟨mu T 169 (26 + i) (y_dl co i), ?_, fun a j z => ?_, fun z z0 z1 => ⟨?_, fun z2 => ?_⟩⟩
      · show Mo_vestsBy_s11 _ _ _ _ _ _ _ _ _ = _
        unfold Mo_vestsBy_s11
        simp only [l4, q20, hN, Mo_diesIn_ok, bd1_some, q47, l69, e26, k26, k26', and_self, ↓reduceIte, ↓lt1_def, ew]
      · rw [mx_ne (by omega)]; exact o a j z
      · rw [mx_ne (by omega)]; exact (j1 z z0 z1).1
      · by_cases c2 : z = i
        · rw [c2, mx_same]
        · rw [mx_ne (by omega)]; exact (j1 z z0 z1).2 (by omega)) lv.toNat fu B 0 (by omega) (by omega) (by omega) ⟨fun a j z => b2 a j z, fun z z0 z1 => ⟨(b5 z z0 z1).1, fun z2 => absurd z2 (by omega)⟩⟩
  have oT : y_ob N T := fun a j _ c2 => o a j c2
  obtain ⟨U, u1, u2, u3, u4⟩ := Mo_begin_ok (fu := fu) (h.ob oT) (s.ob oT)
  have oU := oT.trans u2
  have hU := h.ob oU
  have sU := s.ob oU
  have rU : ∀ j, U 169 j = T 169 j := Mo_begin_9 l4 u1
  have q22 : U 154 22 = 164 := hU.2.2.1.2.1
  have q47 : U 154 47 = 169 := hU.2.2.1.2.2.2.1
  have q64 : U 164 l = -w (2 + l) := (hU.2.2.2.2.1 l hl.1 hl.2).1
  have hbl := hag l hl.1 hl.2
  have hd := y_dl_b co l
  have e00 : y_pw w lv co 0 = 400 := y_pw_0
  have VS : ∀ b d, -99 ≤ b ∧ b ≤ 400 → (d = 16777216 ∨ 0 ≤ d ∧ d ≤ 400) → ∃ V, Mo_vestsSo fu L U 154 169 b d 400 = some (V, y_mv (y_vy (y_pw w lv co) K Q A F ln b d q)) ∧ y_ob N V := fun b d hb hd => by
    obtain ⟨V, v1, v2⟩ := Mo_vestsSo_ok (fu := fu) (x := 169) (w := y_pw w lv co) (lv := lv) (b := b) (d := d) (ln := ln) hf u3 sU.1 vp l69 (by omega) (by omega) (fun z z0 z1 => by
      rw [rU, rU, y_pw_b (by omega), y_pw_d (by omega)]; exact ⟨(j1 z z0 z1).1, (j1 z z0 z1).2 z1⟩) hb hd hln hU.2.2.1.2.2.2.2.2 sU.2.2.2.2.2 sU.2.1 u4
    rw [e00] at v1
    exact ⟨V, v1, oU.trans fun a j z1 z2 => v2 a j (by omega)⟩
  have b59 : ∀ y, y = (if iand co 256 = 0 then y_dl co l else 1) → ∃ V, Mo_vestsBy_b59 fu L T 154 sort l co y = some (V, y_mv (y_yf lv w K Q A F q ln sort l co)) ∧ y_ob N V := fun y hy => by
    have hyb : y = 1 ∨ y = 60 := by rw [hy]; split <;> omega
    unfold Mo_vestsBy_b59 y_yf
    rw [l4, if_pos rfl, u1, bd1_some]
    by_cases s0 : sort = 0
    · obtain ⟨V, v1, v2⟩ := VS (w (2 + l)) (y_dl co l) (by omega) (by omega)
      refine ⟨V, ?_, v2⟩
      have en : w32 (- -w (2 + l)) = w (2 + l) := by rw [w32_id (by omega)]; omega
      rw [if_pos s0, q22, l64, if_pos rfl, if_pos (show 0 ≤ l ∧ l < ((101, 8) : Int × Int).2 from ⟨hl.1, l8⟩), Mo_diesIn_ok, bd1_some, q47, q64, en, v1, bd2_some, if_pos s0]
    · rw [if_neg s0, if_neg s0]
      by_cases s1 : sort = 1
      · obtain ⟨V, v1, v2⟩ := VS y 16777216 (by omega) (Or.inl rfl)
        refine ⟨V, ?_, v2⟩
        rw [if_pos s1, q47, v1, bd2_some, ← hy, if_neg (show ¬ sort = 2 by omega), show y + 0 = y by omega]
      · obtain ⟨V, v1, v2⟩ := VS (y + 30) 16777216 (by omega) (Or.inl rfl)
        refine ⟨V, ?_, v2⟩
        have ey : w32 (y + 30) = y + 30 := w32_id (by omega)
        rw [if_neg s1, q47, ey, v1, bd2_some, ← hy, if_pos (show sort = 2 by omega)]
  have e6 : ∃ V, Mo_vestsBy_l11 fu L fu B 154 sort l co 0 = some (V, y_mv (y_yf lv w K Q A F q ln sort l co)) ∧ y_ob N V := by
    have e7 : Mo_vestsBy_l11 fu L (k + 1) T 154 sort l co lv = if iand co 256 = 0 then Mo_vestsBy_b59 fu L T 154 sort l co (y_dl co l) else Mo_vestsBy_b59 fu L T 154 sort l co 1 := by
      show Mo_vestsBy_s11 _ _ _ _ _ _ _ _ _ = _
      unfold Mo_vestsBy_s11
      rw [l4, if_pos rfl, o 154 20 (by omega), p20, if_neg (by omega), Mo_diesIn_ok, bd1_some]
    rw [e5, e7]
    by_cases c0 : iand co 256 = 0
    · rw [if_pos c0]
      exact b59 _ (by rw [if_pos c0])
    · rw [if_neg c0]
      exact b59 _ (by rw [if_neg c0])
  obtain ⟨V, v1, v2⟩ := e6
  refine ⟨V, ?_, v2⟩
  unfold Mo_vestsBy
  rw [l4, if_pos rfl, p47, b1, bd1_some, v1]
theorem y_yf_b (te : y_te lv w K Q A F q ln) {sort l : Int} (hl : 0 ≤ l ∧ l < lv) (co : Int) : y_yb (y_yf lv w K Q A F q ln sort l co) := by
  obtain ⟨v, hb, hm, hln, sk⟩ := te
  have hw := v.1
  have hv := v.2.2 l hl.1 (by omega)
  have hbl := hb l hl.1 hl.2
  have hd := y_dl_b co l
  have vp := y_pw_v (c := co) v hb
  unfold y_yf
  split
  · exact y_vy_b vp (by omega) hm.1 sk
  · exact y_vy_b vp (by split <;> split <;> omega) hm.1 sk
theorem Mo_isCourse_ok (l4 : L 154 = (13, 0)) (h20 : N 154 20 = lv) (co : Int) : Mo_isCourse fu L N 154 co = some (y_ind (y_isc lv co)) := by
  unfold Mo_isCourse Mo_allLives
  rw [Mo_in_ok]
  by_cases c0 : 0 ≤ co ∧ co ≤ 511
  · rw [if_pos c0, bd1_some, if_neg (by decide), l4, if_pos rfl, if_pos rfl, bd1_some, h20, show w32 (ishl 1 lv - 1) = y_all lv from rfl]
    by_cases c1 : y_all lv < iand co 255
    · rw [if_pos c1, y_ind_0 (fun z => by have := z.2.2; omega)]
    · rw [if_neg c1, y_ind_1 ⟨by omega, by omega, by omega⟩]
  · rw [if_neg c0, bd1_some, if_pos rfl, y_ind_0 (fun z => by have := z.1; have := z.2.1; omega)]
theorem Mo_isLate_ok (hf : 400 ≤ fu) (h : y_mt L N g wh li per lim lv ln w) (s : y_ms N S K Q A F lv e st c i e' p q) {co op : Int} (hco : y_isc lv co) :
    ∃ U, Mo_isLate fu L N 154 g co op = some (U, y_ind (y_late lv w K Q A F q ln wh li per lim op co)) ∧ y_ob N U := by
  obtain ⟨⟨h1, hwh, hli, hper, hln⟩, ⟨l4, l62, l64, l65, l69⟩, ⟨p18, p22, p23, p47, p20, p32⟩, ⟨_, _, q74, _⟩, hag, v⟩ := id h
  have hw := v.1
  have hld := y_ld_eq (lv := lv) (c := co) (by omega) ⟨hco.1, hco.2.1⟩ hco.2.2
  have hlb := y_ld_b lv co
  have te := s.te h
  have gol : ∀ (k cc : Nat) (T : zM) (x : Int), 0 ≤ x → x + k = 24 → k < cc → y_ob N T → (∀ j, 0 ≤ j → j < x → ¬ (y_is wh li lim lv w op j ∧ y_ld lv co + per < y_yf lv w K Q A F q ln (j / 8) (j % 8) co)) →
      ∃ U, Mo_isLate_l31 fu L cc T 154 g co op (y_ld lv co + per) x = some (U, y_ind (y_late lv w K Q A F q ln wh li per lim op co)) ∧ y_ob N U := by
    intro k
    induction k with
    | zero =>
      intro cc T x x0 xN hc o hall
      obtain ⟨cc, rfl⟩ : ∃ c'', cc = c'' + 1 := ⟨cc - 1, by omega⟩
      refine ⟨T, ?_, o⟩
      show Mo_isLate_s31 _ _ _ _ _ _ _ _ _ _ = _
      unfold Mo_isLate_s31
      rw [if_neg (by omega), y_ind_0]
      intro ⟨k, k0, k1, hk, hlt⟩
      exact hall k k0 (by omega) ⟨hk, hlt⟩
    | succ k ih =>
      intro cc T x x0 xN hc o hall
      obtain ⟨cc, rfl⟩ : ∃ c'', cc = c'' + 1 := ⟨cc - 1, by omega⟩
      have x24 : x < 24 := by omega
      have hT := h.ob o
      have sT := s.ob o
      have em : w32 (Int.tmod x 8) = x % 8 := by rw [Int.tmod_eq_emod_of_nonneg x0, w32_id (by omega)]
      have ed : w32 (Int.tdiv x 8) = x / 8 := by rw [Int.tdiv_eq_ediv_of_nonneg x0, w32_id (by omega)]
      have ew : w32 (x + 1) = x + 1 := w32_id (by omega)
      have q20 : T 154 20 = lv := hT.2.2.1.2.2.2.2.1
      have nx : ¬ (y_is wh li lim lv w op x ∧ y_ld lv co + per < y_yf lv w K Q A F q ln (x / 8) (x % 8) co) → ∀ j, 0 ≤ j → j < x + 1 → ¬ (y_is wh li lim lv w op j ∧ y_ld lv co + per < y_yf lv w K Q A F q ln (j / 8) (j % 8) co) := fun hn j j0 j1 => by
        by_cases cj : j = x
        · rw [cj]; exact hn
        · exact hall j j0 (by omega)
      show ∃ U, Mo_isLate_s31 _ _ _ _ _ _ _ _ _ _ = _ ∧ _
      unfold Mo_isLate_s31
      rw [if_pos x24, l4, if_pos rfl, em, ed, q20]
      by_cases cl : x % 8 < lv
      · have eT := Mo_isThere_ok (fu := fu) hT (sort := x / 8) (l := x % 8) (op := op) (by omega) (by omega) cl
        rw [if_pos cl, eT, bd1_some]
        rcases y_thr_01 wh li lim w op (x / 8) (x % 8) with c0 | c0
        · rw [c0, if_pos rfl, lt1_def, ew]
          exact ih cc T (x + 1) (by omega) (by omega) (by omega) o (nx fun z => by have := z.1.2; rw [c0] at this; exact absurd this (by decide))
        · obtain ⟨V, v1, v2⟩ := Mo_vestsBy_ok (fu := fu) hf hT sT (sort := x / 8) (l := x % 8) (by omega) ⟨by omega, cl⟩ co
          have oV := o.trans v2
          have yb := y_yf_b te (sort := x / 8) (l := x % 8) ⟨by omega, cl⟩ co
          have hmv := y_mv_lt yb
          rw [c0, if_neg (by decide), v1, bd2_some, lt1_def, ew]
          by_cases c1 : 0 ≤ y_yf lv w K Q A F q ln (x / 8) (x % 8) co
          · rw [if_pos (hmv.1.2 c1), hmv.2 c1]
            by_cases c2 : y_ld lv co + per < y_yf lv w K Q A F q ln (x / 8) (x % 8) co
            · rw [if_pos c2, y_ind_1 ⟨x, x0, x24, ⟨cl, c0⟩, c2⟩]
              exact ⟨V, rfl, oV⟩
            · rw [if_neg c2]
              exact ih cc V (x + 1) (by omega) (by omega) (by omega) oV (nx fun z => c2 z.2)
          · rw [if_neg (fun z => c1 (hmv.1.1 z))]
            exact ih cc V (x + 1) (by omega) (by omega) (by omega) oV (nx fun z => by have := z.2; omega)
      · rw [if_neg cl, lt1_def, ew]
        exact ih cc T (x + 1) (by omega) (by omega) (by omega) o (nx fun z => cl z.1.1)
  have g1 := gol 24 fu N 0 (by omega) (by omega) (by omega) (y_ob.refl N) (fun j j0 j1 => absurd j1 (by omega))
  unfold Mo_isLate Mo_allLives
  rw [l4, if_pos rfl, p18, l62, if_pos rfl, if_pos (show (0 : Int) ≤ 74 ∧ (74 : Int) < ((101, 2597) : Int × Int).2 by show (0 : Int) ≤ 74 ∧ (74 : Int) < 2597; omega), if_pos rfl, bd1_some, p20, show w32 (ishl 1 lv - 1) = y_all lv from rfl, q74, lt1_def, lt1_def]
  have w1 : w32 (per + 1) = per + 1 := w32_id (by omega)
  have w60 : w32 (per + 60) = per + 60 := w32_id (by omega)
  rw [w1, w60]
  by_cases ca : iand co 255 = y_all lv
  · rw [if_pos ca]
    rw [if_pos ca] at hld
    rw [hld, show (1 : Int) + per = per + 1 by omega] at g1
    exact g1
  · rw [if_neg ca]
    rw [if_neg ca] at hld
    rw [hld, show (60 : Int) + per = per + 60 by omega] at g1
    exact g1
end
