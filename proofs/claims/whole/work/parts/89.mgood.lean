/-! ===== pure: part 89: the model: vested, behind, good ===== -/
section
variable {fu : Nat} {L : zL} {N : zM} {g wh li per lim lv ln : Int} {w : Int → Int} {S K Q A F : Int → Int} {e st c i e' p q : Int}
theorem y_mt.hb (h : y_mt L N g wh li per lim lv ln w) : ∀ l, 0 ≤ l → l < lv → w (2 + l) ≤ 0 := fun l l0 l1 => (h.2.2.2.2.1 l l0 l1).2.2.2
theorem y_ms.q1 (s : y_ms N S K Q A F lv e st c i e' p q) : 1 ≤ q ∧ q ≤ st ∧ q ≤ 31 := by
  have hb := y_top_b s.2.1
  have := s.2.2.2.2.1
  omega
theorem y_ms.sk (s : y_ms N S K Q A F lv e st c i e' p q) : ∀ k, 0 ≤ k → k < q → y_sk K Q A F lv k := fun k k0 k1 => s.2.2.2.2.2 k k0 (by have := s.q1; omega)
theorem y_ms.te (s : y_ms N S K Q A F lv e st c i e' p q) (h : y_mt L N g wh li per lim lv ln w) : y_te lv w K Q A F q ln := ⟨h.2.2.2.2.2, h.hb, ⟨s.q1.1, s.q1.2.2⟩, h.1.2.2.2.2, s.sk⟩
theorem Mo_hasVested_ok (hf : 400 ≤ fu) (h : y_mt L N g wh li per lim lv ln w) (s : y_ms N S K Q A F lv e st c i e' p q) :
    ∃ T, Mo_hasVested fu L N 154 g = some (T, y_ind (y_hv wh li lv w K Q A F ln q)) ∧ y_ob N T := by
  obtain ⟨⟨h1, hwh, hli, hper, hln⟩, ⟨l4, l62, l64, l65, l69⟩, ⟨p18, p22, p23, p47, p20, p32⟩, _, hag, v⟩ := id h
  have hw := v.1
  obtain ⟨B, b1, b2, b3, b4, b5, _⟩ := Mo_beginsWorld_ok (fu := fu) hf l69 (by omega) l4 l64 l65 p22 p23 p20 ⟨by omega, by omega⟩ (by omega) hag
  have oB : y_ob N B := fun a j _ c2 => b2 a j c2
  have vz := y_z_v (y := 0) v h.hb (by omega)
  have go : ∀ (k cc : Nat) (T : zM) (l fl : Int), 0 ≤ l → l + k = lv → k < cc → y_ob N T → (∀ j, T 169 j = B 169 j) →
      ((fl = 0 ∧ ∀ l', 0 ≤ l' → l' < l → y_icl wh li w l' = 1 → ¬ 0 ≤ y_vy (y_z w lv 0) K Q A F ln (w (2 + l')) 16777216 q) ∨ (fl = 1 ∧ y_hv wh li lv w K Q A F ln q)) →
      ∃ U, Mo_hasVested_l12 fu L cc T 154 g fl l = some (U, y_ind (y_hv wh li lv w K Q A F ln q)) ∧ y_ob N U := by
    intro k
    induction k with
    | zero =>
      intro cc T l fl l0 lN hc o hr hfl
      obtain ⟨cc, rfl⟩ : ∃ c'', cc = c'' + 1 := ⟨cc - 1, by omega⟩
      refine ⟨T, ?_, o⟩
      show Mo_hasVested_s12 _ _ _ _ _ _ _ _ = _
      unfold Mo_hasVested_s12
      rw [l4, if_pos rfl, o 154 20 (by omega) (by omega), p20, if_neg (by omega)]
      rcases hfl with ⟨f1, f2⟩ | ⟨f1, f2⟩
      · rw [if_pos (by omega), f1, y_ind_0]
        intro ⟨l', z0, z1, z2, z3⟩
        exact f2 l' z0 (by omega) z2 z3
      · rw [if_pos (by omega), f1, y_ind_1 f2]
    | succ k ih =>
      intro cc T l fl l0 lN hc o hr hfl
      obtain ⟨cc, rfl⟩ : ∃ c'', cc = c'' + 1 := ⟨cc - 1, by omega⟩
      have hT := h.ob o
      have sT := s.ob o
      have l1 : l < lv := by omega
      have l8 : l < 8 := by omega
      have q20 : T 154 20 = lv := hT.2.2.1.2.2.2.2.1
      have ew : w32 (l + 1) = l + 1 := w32_id (by omega)
      have eL := Mo_isLifeOf_ok (fu := fu) hT l0 l1
      have ha := hag l l0 l1
      show ∃ U, Mo_hasVested_s12 _ _ _ _ _ _ _ _ = _ ∧ _
      unfold Mo_hasVested_s12
      rw [l4, if_pos rfl, q20, if_pos l1, eL, bd1_some]
      rcases y_icl_01 wh li w l with c0 | c0
      · rw [c0, if_pos rfl, lt1_def, ew]
        refine ih cc T (l + 1) fl (by omega) (by omega) (by omega) o hr ?_
        rcases hfl with ⟨f1, f2⟩ | ⟨f1, f2⟩
        · refine Or.inl ⟨f1, fun l' z0 z1 z2 => ?_⟩
          by_cases cz : l' = l
          · rw [cz, c0] at z2; exact absurd z2 (by decide)
          · exact f2 l' z0 (by omega) z2
        · exact Or.inr ⟨f1, f2⟩
      · obtain ⟨U, u1, u2, u3, u4⟩ := Mo_begin_ok (fu := fu) hT sT
        rw [c0, if_neg (by decide), u1, bd1_some]
        have oU := o.trans u2
        have hU := h.ob oU
        have sU := s.ob oU
        rcases hfl with ⟨f1, f2⟩ | ⟨f1, f2⟩
        · have q22 : U 154 22 = 164 := hU.2.2.1.2.1
          have q47 : U 154 47 = 169 := hU.2.2.1.2.2.2.1
          have q64 : U 164 l = -w (2 + l) := (hU.2.2.2.2.1 l l0 l1).1
          have en : w32 (- -w (2 + l)) = w (2 + l) := by rw [w32_id (by omega)]; omega
          have e00 : y_z w lv 0 0 = 0 := if_pos rfl
          have rU : ∀ j, U 169 j = B 169 j := fun j => by
            have z : y_ob T U := u2
            have : ∀ (X : zM), Mo_begin fu L T 154 = some X → X 169 j = T 169 j := fun X hX => by
              unfold Mo_begin at hX
              rw [l4, if_pos rfl, lt1_def, lt1_def] at hX
              have := Option.some.inj hX
              rw [← this, mx_ne (by omega), mx_ne (by omega)]
            rw [this U u1, hr j]
          obtain ⟨V, v1, v2⟩ := Mo_vestsSo_ok (fu := fu) (x := 169) (w := y_z w lv 0) (lv := lv) (b := w (2 + l)) (d := 16777216) (ln := ln) hf u3 sU.1 vz l69 (by omega) (by omega) (fun z z0 z1 => by
            rw [rU, rU, y_z_b (by omega), y_z_d (by omega)]; exact ⟨(b5 z z0 z1).1, (b5 z z0 z1).2.1⟩) (by omega) (Or.inl rfl) hln hU.2.2.1.2.2.2.2.2 sU.2.2.2.2.2 sU.2.1 u4
          rw [e00] at v1
          have yb := y_vy_b (Q := Q) (A := A) (F := F) (K := K) (ln := ln) (b := w (2 + l)) (d := 16777216) (st := q) vz (by omega) s.q1.1 s.sk
          have oV : y_ob N V := oU.trans fun a j z1 z2 => v2 a j (by omega)
          have rV : ∀ j, V 169 j = B 169 j := fun j => (v2 169 j (by omega)).trans (rU j)
          rw [f1, if_pos rfl, q22, l64, if_pos rfl, if_pos (show 0 ≤ l ∧ l < ((101, 8) : Int × Int).2 from ⟨l0, l8⟩), q47, q64, en, v1, bd2_some, lt1_def, lt1_def, ew]
          by_cases cv : 0 ≤ y_vy (y_z w lv 0) K Q A F ln (w (2 + l)) 16777216 q
          · rw [if_pos ((y_mv_lt yb).1.2 cv)]
            exact ih cc V (l + 1) 1 (by omega) (by omega) (by omega) oV rV (Or.inr ⟨rfl, ⟨l, l0, l1, c0, cv⟩⟩)
          · rw [if_neg (fun z => cv ((y_mv_lt yb).1.1 z))]
            refine ih cc V (l + 1) 0 (by omega) (by omega) (by omega) oV rV (Or.inl ⟨rfl, fun l' z0 z1 z2 => ?_⟩)
            by_cases cz : l' = l
            · rw [cz]; exact cv
            · exact f2 l' z0 (by omega) z2
        · have rU : ∀ j, U 169 j = B 169 j := fun j => by
            have : ∀ (X : zM), Mo_begin fu L T 154 = some X → X 169 j = T 169 j := fun X hX => by
              unfold Mo_begin at hX
              rw [l4, if_pos rfl, lt1_def, lt1_def] at hX
              have := Option.some.inj hX
              rw [← this, mx_ne (by omega), mx_ne (by omega)]
            rw [this U u1, hr j]
          rw [f1, if_neg (by decide), lt1_def, ew]
          exact ih cc U (l + 1) 1 (by omega) (by omega) (by omega) oU rU (Or.inr ⟨rfl, f2⟩)
  unfold Mo_hasVested
  rw [l4, if_pos rfl, p47, b1, bd1_some]
  exact go lv.toNat fu B 0 0 (by omega) (by omega) (by omega) oB (fun _ => rfl) (Or.inl ⟨rfl, fun l' z0 z1 => absurd z1 (by omega)⟩)
theorem Mo_behindSo_ok (hf : 400 ≤ fu) (h : y_mt L N g wh li per lim lv ln w) (s : y_ms N S K Q A F lv e st c i e' p q) (go : y_go L N c e') (h30 : N 154 30 = c + i) {sort l set : Int} (hl : 0 ≤ l ∧ l < lv) :
    ∃ U, Mo_behindSo fu L N 154 sort l set = some (U, y_me (y_bhv lv w K Q A F q ln set sort l)) ∧ y_ob N U := by
  obtain ⟨⟨h1, hwh, hli, hper, hln⟩, ⟨l4, l62, l64, l65, l69⟩, ⟨p18, p22, p23, p47, p20, p32⟩, _, hag, v⟩ := id h
  have hw := v.1
  have vz := y_z_v (y := 0) v h.hb (by omega)
  obtain ⟨D, hD⟩ : ∃ D, D = mu (mu (mu N 154 40 sort) 154 41 l) 154 42 set := ⟨_, rfl⟩
  have oD : y_ob N D := by rw [hD]; exact y_obm (y_obm (y_obm (y_ob.refl N) (by omega)) (by omega)) (by omega)
  have fD : ∀ j, ¬ (40 ≤ j ∧ j ≤ 42) → D 154 j = N 154 j := fun j hj => by rw [hD, mx_ne (by omega), mx_ne (by omega), mx_ne (by omega)]
  have d40 : D 154 40 = sort ∧ D 154 41 = l ∧ D 154 42 = set := by
    rw [hD]; simp (disch := omega) only [mx_ne, mx_same, and_self]
  have gD : y_go L D c e' := ⟨go.1, go.2.1, (fD _ (by omega)).trans go.2.2.1, (fD _ (by omega)).trans go.2.2.2.1, go.2.2.2.2⟩
  have sD := s.ob oD
  have bn : y_bn L D lv ln sort l set (y_z w lv 0) := ⟨l64, ⟨(fD _ (by omega)).trans p22, d40.1, d40.2.1, d40.2.2, (fD _ (by omega)).trans p32⟩, fun z z0 z1 => by
    have := hag z z0 z1
    rw [oD 164 z (by omega) (by omega), y_z_b (by omega)]
    omega, hl, hln⟩
  have hq := s.q1
  have yb := fun (k : Int) (k0 : 0 ≤ k) (k1 : k < st) => y_bval_b (ln := ln) (sort := sort) (life := l) (set := set) (F := F) vz hln hl (show st ≤ 40 by have := s.2.2.2.2.1; omega) s.2.2.2.2.2 (k.toNat + 1) k k0 k1 (by omega)
  have e1 := Mo_testAll_top (fu := fu) hf gD sD.1 vz bn s.2.2.2.2.1 yb sD.2.1 ((fD _ (by omega)).trans h30)
  have hv := yb (q - 1) (by omega) (by omega)
  obtain ⟨T, hT⟩ : ∃ T, T = y_T D (c + e') (y_me (y_val (1000000, 1000000) (y_bop (y_z w lv 0) K Q A ln sort l set) F (q - 1)).1) (y_me (y_val (1000000, 1000000) (y_bop (y_z w lv 0) K Q A ln sort l set) F (q - 1)).2) := ⟨_, rfl⟩
  have rT : ∀ b j, ¬ (b = 154 ∧ (j = 30 ∨ j = 43 ∨ j = 44)) → T b j = D b j := fun b j hh => by rw [hT]; exact y_T_r hh
  have t43 : T 154 43 = y_me (y_val (1000000, 1000000) (y_bop (y_z w lv 0) K Q A ln sort l set) F (q - 1)).1 := by rw [hT]; exact y_T_h
  rw [← hT] at e1
  have eb := Mo_bornBy_ok (fu := fu) (M := T) l4 ((rT _ _ (by omega)).trans d40.1) ((rT _ _ (by omega)).trans d40.2.1) ((rT _ _ (by omega)).trans d40.2.2)
  refine ⟨T, ?_, oD.trans fun b j z1 z2 => rT b j (by omega)⟩
  unfold Mo_behindSo y_bhv
  rw [l4, if_pos rfl, lt1_def, lt1_def, lt1_def, ← hD, e1, bd1_some, eb, bd1_some, t43]
  have hbb := y_bb_b sort l set
  rw [y_me_max (k := 40) (by omega) (y_eb_up hv.1 (by omega)) (by unfold y_eb; omega)]
  congr 2
  omega
/-- the flag whether the class is open -/
theorem Mo_isGood_ok (hf : 400 ≤ fu) (h : y_mt L N g wh li per lim lv ln w) (s : y_ms N S K Q A F lv e st c i e' p q) (set : Int) {op : Int} (hop : op = 0 ∨ op = 1) (hov : op = 0 ↔ y_hv wh li lv w K Q A F ln q) :
    ∃ U, Mo_isGood fu L N 154 g set = some (U, y_ind (y_good lv w K Q A F q ln wh li per lim op set)) ∧ y_ob N U := by
  obtain ⟨⟨h1, hwh, hli, hper, hln⟩, ⟨l4, l62, l64, l65, l69⟩, ⟨p18, p22, p23, p47, p20, p32⟩, _, hag, v⟩ := id h
  have hw := v.1
  obtain ⟨B, b1, b2⟩ := Mo_hasVested_ok (fu := fu) hf h s
  have gol : ∀ (k cc : Nat) (T : zM) (x fl : Int), 0 ≤ x → x + k = 24 → k < cc → y_ob N T →
      ((fl = 1 ∧ ∀ j, 0 ≤ j → j < x → y_is wh li lim lv w op j → y_bhv lv w K Q A F q ln set (j / 8) (j % 8) ≤ per) ∨ (fl = 0 ∧ ¬ y_good lv w K Q A F q ln wh li per lim op set)) →
      ∃ U, Mo_isGood_l20 fu L cc T 154 g set op fl x = some (U, y_ind (y_good lv w K Q A F q ln wh li per lim op set)) ∧ y_ob N U := by
    intro k
    induction k with
    | zero =>
      intro cc T x fl x0 xN hc o hfl
      obtain ⟨cc, rfl⟩ : ∃ c'', cc = c'' + 1 := ⟨cc - 1, by omega⟩
      refine ⟨T, ?_, o⟩
      show Mo_isGood_s20 _ _ _ _ _ _ _ _ _ _ = _
      unfold Mo_isGood_s20
      rw [if_neg (by omega)]
      rcases hfl with ⟨f1, f2⟩ | ⟨f1, f2⟩
      · rw [if_pos (by omega), f1, y_ind_1 (show y_good lv w K Q A F q ln wh li per lim op set from fun j j0 j1 hj => f2 j j0 (by omega) hj)]
      · rw [if_pos (by omega), f1, y_ind_0 f2]
    | succ k ih =>
      intro cc T x fl x0 xN hc o hfl
      obtain ⟨cc, rfl⟩ : ∃ c'', cc = c'' + 1 := ⟨cc - 1, by omega⟩
      have x24 : x < 24 := by omega
      show ∃ U, Mo_isGood_s20 _ _ _ _ _ _ _ _ _ _ = _ ∧ _
      unfold Mo_isGood_s20
      rw [if_pos x24]
      rcases hfl with ⟨f1, f2⟩ | ⟨f1, f2⟩
      · have hT := h.ob o
        have sT := s.ob o
        have em : w32 (Int.tmod x 8) = x % 8 := by rw [Int.tmod_eq_emod_of_nonneg x0, w32_id (by omega)]
        have ed : w32 (Int.tdiv x 8) = x / 8 := by rw [Int.tdiv_eq_ediv_of_nonneg x0, w32_id (by omega)]
        have ew : w32 (x + 1) = x + 1 := w32_id (by omega)
        have q20 : T 154 20 = lv := hT.2.2.1.2.2.2.2.1
        have skip : ¬ y_is wh li lim lv w op x → ∀ j, 0 ≤ j → j < x + 1 → y_is wh li lim lv w op j → y_bhv lv w K Q A F q ln set (j / 8) (j % 8) ≤ per := fun hn j j0 j1 hj => by
          by_cases cj : j = x
          · rw [cj] at hj; exact absurd hj hn
          · exact f2 j j0 (by omega) hj
        rw [f1, if_neg (by decide), l4, if_pos rfl, em, ed, q20]
        by_cases cl : x % 8 < lv
        · have eT := Mo_isThere_ok (fu := fu) hT (sort := x / 8) (l := x % 8) (op := op) (by omega) (by omega) cl
          rw [if_pos cl, eT, bd1_some]
          rcases y_thr_01 wh li lim w op (x / 8) (x % 8) with c0 | c0
          · rw [c0, if_pos rfl, lt1_def, ew]
            exact ih cc T (x + 1) 1 (by omega) (by omega) (by omega) o (Or.inl ⟨rfl, skip fun z => by rw [z.2] at c0; exact absurd c0 (by decide)⟩)
          · obtain ⟨U, u1, u2, u3, u4⟩ := Mo_begin_ok (fu := fu) hT sT
            have oU := o.trans u2
            obtain ⟨V, v1, v2⟩ := Mo_behindSo_ok (fu := fu) hf (h.ob oU) (s.ob oU) u3 u4 (sort := x / 8) (l := x % 8) (set := set) ⟨by omega, cl⟩
            have oV := oU.trans v2
            have hV := h.ob oV
            have q74 : V 162 74 = per := hV.2.2.2.1.2.2.1
            have hb := y_bhv_b (s.te h) (set := set) (sort := x / 8) (l := x % 8) ⟨by omega, cl⟩
            have hme : per < y_me (y_bhv lv w K Q A F q ln set (x / 8) (x % 8)) ↔ per < y_bhv lv w K Q A F q ln set (x / 8) (x % 8) := by
              unfold y_me
              split <;> omega
            rw [c0, if_neg (by decide), u1, bd1_some, v1, bd2_some, hV.2.2.1.1, l62, if_pos rfl, if_pos (show (0 : Int) ≤ 74 ∧ (74 : Int) < ((101, 2597) : Int × Int).2 by show (0 : Int) ≤ 74 ∧ (74 : Int) < 2597; omega), q74, lt1_def, lt1_def, ew]
            by_cases cb : per < y_bhv lv w K Q A F q ln set (x / 8) (x % 8)
            · rw [if_pos (hme.2 cb)]
              exact ih cc V (x + 1) 0 (by omega) (by omega) (by omega) oV (Or.inr ⟨rfl, fun hg => by
                have := hg x x0 x24 ⟨cl, c0⟩
                omega⟩)
            · rw [if_neg (fun z => cb (hme.1 z))]
              refine ih cc V (x + 1) 1 (by omega) (by omega) (by omega) oV (Or.inl ⟨rfl, fun j j0 j1 hj => ?_⟩)
              by_cases cj : j = x
              · rw [cj]; omega
              · exact f2 j j0 (by omega) hj
        · rw [if_neg cl, lt1_def, ew]
          exact ih cc T (x + 1) 1 (by omega) (by omega) (by omega) o (Or.inl ⟨rfl, skip fun z => cl z.1⟩)
      · refine ⟨T, ?_, o⟩
        rw [f1, if_pos rfl, if_pos (by omega), y_ind_0 f2]
  unfold Mo_isGood
  rw [l4, if_pos rfl, b1, bd2_some]
  rcases hop with z | z
  · rw [y_ind_1 (hov.1 z), if_neg (by decide)]
    rw [z] at gol
    rw [z]
    exact gol 24 fu B 0 1 (by omega) (by omega) (by omega) b2 (Or.inl ⟨rfl, fun j j0 j1 => absurd j1 (by omega)⟩)
  · rw [y_ind_0 (fun hh => by have := hov.2 hh; omega), if_pos rfl]
    rw [z] at gol
    rw [z]
    exact gol 24 fu B 0 1 (by omega) (by omega) (by omega) b2 (Or.inl ⟨rfl, fun j j0 j1 => absurd j1 (by omega)⟩)
end
