/-! ===== pure: part 9s: the call family ===== -/
section
variable {fu : Nat} {L : zL} {M A N Z : zM} {top : Int}
/-- the model founds: from a memory where it has read m LIVES -/
theorem Mo_found_y (hf : 42000 ≤ fu) (hL : Lay L) (hP : Ptr N) {m : Int} (h20 : N 154 20 = m) (hm : 0 ≤ m ∧ m ≤ 8) (hb : ∀ i, 0 ≤ i → i < m → 0 ≤ N 157 i ∧ N 157 i ≤ 99) :
    ∃ Z, Mo_family_l35 fu L fu N 154 0 = some (Z, m) ∧ (∀ x i, x ≠ 162 → ¬ (163 ≤ x ∧ x ≤ 165) → ¬ (x = 154 ∧ (i = 25 ∨ i = 38 ∨ i = 49)) → Z x i = N x i) ∧ (∀ i, 0 ≤ i → i < m → Z 163 i = N 156 i ∧ Z 164 i = N 157 i ∧ Z 165 i = N 158 i) ∧ (Z 154 25 = 0 ∧ Z 154 38 = 0 ∧ Z 154 49 = 0) ∧ (Z 162 0 = 0 ∧ Z 162 1 = m ∧ Z 162 74 = 21 ∧ Z 162 75 = 99 ∧ Z 162 76 = 0) ∧ ∀ i, 0 ≤ i → i < m → Z 162 (2 + i) = - N 157 i ∧ Z 162 (26 + i) = 16777216 ∧ Z 162 (50 + i) = N 158 i := by
  have l4 : L 154 = (13, 0) := hL 154 (by decide)
  have l62 : L 162 = (101, 2597) := hL 162 (by decide)
  have l56 : L 156 = (101, 8) := hL 156 (by decide)
  have l57 : L 157 = (101, 8) := hL 157 (by decide)
  have l58 : L 158 = (101, 8) := hL 158 (by decide)
  have l63 : L 163 = (101, 8) := hL 163 (by decide)
  have l64 : L 164 = (101, 8) := hL 164 (by decide)
  have l65 : L 165 = (101, 8) := hL 165 (by decide)
  have p8 : N 154 8 = 156 := hP (154, 8, 156) (by decide +kernel)
  have p9 : N 154 9 = 157 := hP (154, 9, 157) (by decide +kernel)
  have p10 : N 154 10 = 158 := hP (154, 10, 158) (by decide +kernel)
  have p21 : N 154 21 = 163 := hP (154, 21, 163) (by decide +kernel)
  have p22 : N 154 22 = 164 := hP (154, 22, 164) (by decide +kernel)
  have p23 : N 154 23 = 165 := hP (154, 23, 165) (by decide +kernel)
  have p18 : N 154 18 = 162 := hP (154, 18, 162) (by decide +kernel)
  obtain ⟨T, k, e, ⟨o, s⟩⟩ := y_lpx (F := fun k (T : zM) i => Mo_family_l35 fu L k T 154 i) (N := m)
    (fun i T => (∀ x j, ¬ (163 ≤ x ∧ x ≤ 165) → T x j = N x j) ∧ ∀ p, 0 ≤ p → p < i → T 163 p = N 156 p ∧ T 164 p = N 157 p ∧ T 165 p = N 158 p)
    (fun k T i h0 hN hJ => by
      obtain ⟨o, s⟩ := hJ
      have ew : w32 (i + 1) = i + 1 := w32_id (by omega)
      have g1 : 0 ≤ i ∧ i < ((101, 8) : Int × Int).2 := by show _ ∧ _ < (8 : Int); omega
      have t4 : ∀ j, T 154 j = N 154 j := fun j => o _ _ (by omega)
      have q6 : T 156 i = N 156 i := o _ _ (by omega)
      have a9 : mu T 163 i (N 156 i) 154 9 = 157 := (mx_ne (by omega)).trans ((t4 _).trans p9)
      have a22 : mu T 163 i (N 156 i) 154 22 = 164 := (mx_ne (by omega)).trans ((t4 _).trans p22)
      have a57 : mu T 163 i (N 156 i) 157 i = N 157 i := (mx_ne (by omega)).trans (o _ _ (by omega))
      have c10 : mu (mu T 163 i (N 156 i)) 164 i (N 157 i) 154 10 = 158 := (mx_ne (by omega)).trans ((mx_ne (by omega)).trans ((t4 _).trans p10))
      have c23 : mu (mu T 163 i (N 156 i)) 164 i (N 157 i) 154 23 = 165 := (mx_ne (by omega)).trans ((mx_ne (by omega)).trans ((t4 _).trans p23))
      have c58 : mu (mu T 163 i (N 156 i)) 164 i (N 157 i) 158 i = N 158 i := (mx_ne (by omega)).trans ((mx_ne (by omega)).trans (o _ _ (by omega)))
      refine ⟨mu (mu (mu T 163 i (N 156 i)) 164 i (N 157 i)) 165 i (N 158 i), ?_, fun x j c => ?_, fun p p0 p1 => ?_⟩
      · show Mo_family_s35 _ _ _ _ _ _ = _
        unfold Mo_family_s35
        rw [l4, if_pos rfl, t4, h20, if_pos hN, t4, p8, l56, if_pos rfl, if_pos g1, t4, p21, l63, if_pos rfl, if_pos g1, q6, lt1_def, a9, l57, if_pos rfl, if_pos g1, a22, l64, if_pos rfl, if_pos g1, a57, lt1_def, c10, l58, if_pos rfl, if_pos g1, c23, l65, if_pos rfl, if_pos g1, c58, lt1_def, lt1_def, ew]
      · rw [mx_ne (by omega), mx_ne (by omega), mx_ne (by omega)]; exact o x j c
      · by_cases c : p = i
        · subst c
          refine ⟨?_, ?_, mx_same _ _ _ _⟩
          · rw [mx_ne (by omega), mx_ne (by omega), mx_same]
          · rw [mx_ne (by omega), mx_same]
        · obtain ⟨r1, r2, r3⟩ := s p p0 (by omega)
          rw [mx_ne (by omega), mx_ne (by omega), mx_ne (by omega), mx_ne (by omega), mx_ne (by omega), mx_ne (by omega), mx_ne (by omega), mx_ne (by omega), mx_ne (by omega)]
          exact ⟨r1, r2, r3⟩) m.toNat fu N 0 (by omega) (by omega) (by omega) ⟨fun _ _ _ => rfl, fun p p0 p1 => absurd p1 (by omega)⟩
  have t4 : ∀ j, T 154 j = N 154 j := fun j => o _ _ (by omega)
  obtain ⟨U, k2, e2, ⟨o2, u⟩⟩ := y_lpx (F := fun k (T : zM) i => Mo_family_l87 fu L k T 154 i) (N := 2597)
    (fun i U => (∀ x j, x ≠ 162 → U x j = T x j) ∧ ∀ p, 0 ≤ p → p < i → U 162 p = 0)
    (fun k U i h0 hN hJ => by
      obtain ⟨o2, u⟩ := hJ
      have ew : w32 (i + 1) = i + 1 := w32_id (by omega)
      have q18 : U 154 18 = 162 := (o2 _ _ (by decide)).trans ((t4 _).trans p18)
      refine ⟨mu U 162 i 0, ?_, fun x j c => ?_, fun p p0 p1 => ?_⟩
      · show Mo_family_s87 _ _ _ _ _ _ = _
        unfold Mo_family_s87
        rw [if_pos hN, l4, if_pos rfl, q18, l62, if_pos rfl, if_pos (show 0 ≤ i ∧ i < ((101, 2597) : Int × Int).2 from ⟨h0, hN⟩), lt1_def, lt1_def, ew]
      · rw [mx_ne (by omega)]; exact o2 x j c
      · by_cases c : p = i
        · subst c; rw [mx_same]
        · rw [mx_ne (by omega)]; exact u p p0 (by omega)) 2597 fu T 0 (by omega) (by omega) (by omega) ⟨fun _ _ _ => rfl, fun p p0 p1 => absurd p1 (by omega)⟩
  have u4 : ∀ j, U 154 j = N 154 j := fun j => (o2 _ _ (by decide)).trans (t4 j)
  obtain ⟨w, hw⟩ : ∃ w : Int → Int, w = fun j => if 50 ≤ j then N 158 (j - 50) else - N 157 (j - 2) := ⟨_, rfl⟩
  have w2 : ∀ l, 0 ≤ l → l < m → w (2 + l) = - N 157 l := fun l l0 l1 => by
    rw [hw]
    show (if 50 ≤ 2 + l then _ else _) = _
    rw [if_neg (by omega), show 2 + l - 2 = l by omega]
  have w50 : ∀ l, 0 ≤ l → l < m → w (50 + l) = N 158 l := fun l l0 l1 => by
    rw [hw]
    show (if 50 ≤ 50 + l then _ else _) = _
    rw [if_pos (by omega), show 50 + l - 50 = l by omega]
  obtain ⟨V, v1, v2, v3, v4, v5, v6⟩ := Mo_beginsWorld_ok (fu := fu) (N := U) (x := 162) (sz := 2597) (lv := m) (w := w) (by omega) l62 (by decide) l4 l64 l65 ((u4 _).trans p22) ((u4 _).trans p23) ((u4 _).trans h20) hm (by decide) (fun l l0 l1 => by
    have := hb l l0 l1
    obtain ⟨r1, r2, r3⟩ := s l l0 l1
    rw [o2 _ _ (by decide), o2 _ _ (by decide), r2, r3, w2 l l0 l1, w50 l l0 l1]
    omega)
  have V4 : ∀ j, V 154 j = N 154 j := fun j => (v2 _ _ (by decide)).trans (u4 j)
  obtain ⟨Z, hZ⟩ : ∃ Z, Z = mu (mu (mu (mu (mu V 162 74 21) 162 75 99) 154 25 0) 154 49 0) 154 38 0 := ⟨_, rfl⟩
  have oZ : ∀ x i, ¬ (x = 162 ∧ (i = 74 ∨ i = 75)) → ¬ (x = 154 ∧ (i = 25 ∨ i = 38 ∨ i = 49)) → Z x i = V x i := fun x i q q1 => by
    rw [hZ, mx_ne (by omega), mx_ne (by omega), mx_ne (by omega), mx_ne (by omega), mx_ne (by omega)]
  refine ⟨Z, ?_, fun x i q q1 q2 => ?_, fun i i0 i1 => ?_, ⟨?_, ?_, ?_⟩, ⟨?_, ?_, ?_, ?_, ?_⟩, fun i i0 i1 => ?_⟩
  · refine e.trans ?_
    have g74 : (0 : Int) ≤ 74 ∧ (74 : Int) < ((101, 2597) : Int × Int).2 := by decide
    have g75 : (0 : Int) ≤ 75 ∧ (75 : Int) < ((101, 2597) : Int × Int).2 := by decide
    have q18 : mu V 162 74 21 154 18 = 162 := (mx_ne (by decide)).trans ((V4 _).trans p18)
    have q20 : Z 154 20 = m := by rw [oZ _ _ (by decide) (by decide), V4, h20]
    show Mo_family_s35 _ _ _ _ _ _ = _
    unfold Mo_family_s35
    rw [l4, if_pos rfl, t4, h20, if_neg (by omega), e2]
    show Mo_family_s87 _ _ _ _ _ _ = _
    unfold Mo_family_s87
    rw [if_neg (by decide), l4, if_pos rfl, u4 18, p18, v1, bd1_some, V4 18, p18, l62, if_pos rfl, if_pos g74, lt1_def, q18, l62, if_pos rfl, if_pos g75, lt1_def, lt1_def, lt1_def, lt1_def, ← hZ, q20]
  · rw [oZ x i (by omega) q2, v2 x i q, o2 x i q, o x i q1]
  · rw [oZ _ _ (by omega) (by omega), oZ _ _ (by omega) (by omega), oZ _ _ (by omega) (by omega), v2 _ _ (by decide), v2 _ _ (by decide), v2 _ _ (by decide), o2 _ _ (by decide), o2 _ _ (by decide), o2 _ _ (by decide)]
    exact s i i0 i1
  · rw [hZ, mx_ne (by decide), mx_ne (by decide), mx_same]
  · rw [hZ, mx_same]
  · rw [hZ, mx_ne (by decide), mx_same]
  · exact (oZ _ _ (by decide) (by decide)).trans v3
  · exact (oZ _ _ (by decide) (by decide)).trans v4
  · rw [hZ, mx_ne (by decide), mx_ne (by decide), mx_ne (by decide), mx_ne (by decide), mx_same]
  · rw [hZ, mx_ne (by decide), mx_ne (by decide), mx_ne (by decide), mx_same]
  · rw [oZ _ _ (by decide) (by decide), v6 _ (by decide)]; exact u _ (by decide) (by decide)
  · obtain ⟨r1, r2, r3⟩ := v5 i i0 i1
    rw [oZ _ _ (by omega) (by omega), oZ _ _ (by omega) (by omega), oZ _ _ (by omega) (by omega), r1, r2, r3, w2 i i0 i1, w50 i i0 i1]
    exact ⟨rfl, rfl, rfl⟩
/-- both read a family -/
theorem y_fread (hf : 400 ≤ fu) (I : y_inv L M top) : ∃ A r, Fr_read fu L M 5 = some (A, r) ∧ y_off M A ∧ ((1 ≤ A 5 4 ∨ r ≠ -1) ∧ 0 ≤ A 5 4 ∧ A 5 4 ≤ 8 ∧ ∀ i, 0 ≤ i → i < A 5 4 → (97 ≤ A 6 i ∧ A 6 i ≤ 104) ∧ (0 ≤ A 7 i ∧ A 7 i ≤ 99) ∧ (-1 ≤ A 8 i ∧ A 8 i < i ∨ A 8 i = -1)) ∧
    ∀ N, Ptr N → N 155 = M 155 → N 154 2 = M 154 2 → ∃ N', Mo_readsFamily fu L N 154 = some (N', r) ∧ GOff N N' ∧ N' 154 11 = A 5 4 ∧ ∀ i, 0 ≤ i → i < A 5 4 → N' 156 i + 97 = A 6 i ∧ N' 157 i = A 7 i ∧ N' 158 i = A 8 i := by
  obtain ⟨A, a1, a2, a3, a4, a5, a6⟩ := Fr_read_ok (fu := fu) hf I.lay I.ptr I.2.1.1
  have b0 := tkB0 (f := M 3) I.2.1.1.1
  have fb := famL_b (f := M 3) (n := M 2 2) 9 0 (tkB (M 3) (M 2 2) 0) (M 6) (M 7) (M 8) (Int.le_refl 0) (by decide) (fun i i0 i1 => absurd i1 (by omega))
  refine ⟨A, _, a1, fun a i c => a2 a i (by omega) (by omega) (by omega) (by omega) (by omega), ⟨?_, ?_, ?_, ?_⟩, fun N hN e1 e2 => ?_⟩
  · rw [a3]
    by_cases c : (famL (M 3) (M 2 2) 9 0 (M 6) (M 7) (M 8) (tkB (M 3) (M 2 2) 0)).1 = -1
    · left
      have := famL_1 9 0 (tkB (M 3) (M 2 2) 0) (M 6) (M 7) (M 8) b0.1 b0.2 c
      omega
    · exact Or.inr c
  · rw [a3]; exact fb.1.1
  · rw [a3]; exact fb.1.2
  · rw [a3, a4, a5, a6]; exact fb.2
  · have hal : ∀ i, 0 ≤ i → i < M 2 2 → M 3 i = M 155 i := I.2.1.2.2
    have TN : TapM N := by
      have t := I.2.1.1
      unfold TapC at t
      unfold TapM
      rw [e1, e2, I.2.1.2.1]
      exact ⟨t.1, t.2.1, fun i i0 i1 => by rw [← hal i i0 i1]; exact t.2.2 i i0 i1⟩
    obtain ⟨N', n1, n2, n3, n4, n5, n6⟩ := Mo_readsFamily_ok (fu := fu) hf I.lay hN TN
    rw [e1, e2, I.2.1.2.1, ← tkB_congr hal (Int.le_refl 0)] at n1 n3 n4 n5 n6
    have cg := famL_congr (f := M 3) (f' := M 155) (n := M 2 2) hal 9 0 (tkB (M 3) (M 2 2) 0) (M 6) (fun i => N 156 i + 97) (M 7) (N 157) (M 8) (N 158) (Int.le_refl 0) b0.1 b0.2 (fun i i0 i1 => absurd i1 (by omega)) (fun i i0 i1 => absurd i1 (by omega)) (fun i i0 i1 => absurd i1 (by omega))
    rw [← cg.1] at n1
    rw [← cg.2.1] at n3
    refine ⟨N', n1, n2, n3.trans a3.symm, fun i i0 i1 => ?_⟩
    rw [a3] at i1
    have q1 := cg.2.2.1 i i0 i1
    have q2 := cg.2.2.2.1 i i0 i1
    have q3 := cg.2.2.2.2 i i0 i1
    rw [← n4, ← a4] at q1
    rw [← n5, ← a5] at q2
    rw [← n6, ← a6] at q3
    exact ⟨q1.symm, q2.symm, q3.symm⟩
theorem c_family (hf : 42000 ≤ fu) (I : y_inv L M top) : y_kep L M top (fun M => Lx_family fu L M 1) (fun M => Mo_family fu L M 154) := by
  have l1 : L 1 = (12, 0) := I.lay 1 (by decide)
  have l2 : L 2 = (8, 0) := I.lay 2 (by decide)
  have l4 : L 154 = (13, 0) := I.lay 154 (by decide)
  have l5 : L 5 = (3, 0) := I.lay 5 (by decide)
  have l19 : L 19 = (2, 0) := I.lay 19 (by decide)
  have l20 : L 20 = (11, 0) := I.lay 20 (by decide)
  have l31 : L 31 = (1, 0) := I.lay 31 (by decide)
  have p1 : M 1 1 = 5 := I.ptr (1, 1, 5) (by decide +kernel)
  obtain ⟨A, r, a1, a2, ⟨a0, a3, a4, a5⟩, a6⟩ := y_fread (fu := fu) (by omega) I
  have AP := a2.ptr I.ptr
  by_cases c : r = -1
  · have m1 : 1 ≤ A 5 4 := by
      rcases a0 with z | z
      · exact z
      · exact absurd c z
    obtain ⟨D, d1, d2, d3, ⟨d4, d5, d6⟩, DP⟩ := Fr_found_y (fu := fu) (by omega) I.lay AP (m := A 5 4) rfl ⟨a3, a4⟩ (fun i i0 i1 => (a5 i i0 i1).2.1)
    obtain ⟨E, hE⟩ : ∃ E, E = mu (mu (mu (mu (mu D 31 2 0) 2 2 0) 1 11 1) 1 12 0) 1 13 0 := ⟨_, rfl⟩
    have oE : ∀ x i, ¬ (x = 31 ∧ i = 2) → ¬ (x = 2 ∧ i = 2) → ¬ (x = 1 ∧ 11 ≤ i ∧ i ≤ 13) → E x i = D x i := fun x i q q1 q2 => by
      rw [hE, mx_ne (by omega), mx_ne (by omega), mx_ne (by omega), mx_ne (by omega), mx_ne (by omega)]
    have EP : Ptr E := by
      rw [hE]
      exact ((((DP.mu (by decide +kernel)).mu (by decide +kernel)).mu (by decide +kernel)).mu (by decide +kernel)).mu (by decide +kernel)
    have cl : Lx_family fu L M 1 = some (E, A 5 4) := by
      have q1 : A 1 1 = 5 := AP (1, 1, 5) (by decide +kernel)
      have q4 : A 1 4 = 19 := AP (1, 4, 19) (by decide +kernel)
      have r6 : D 1 6 = 31 := DP (1, 6, 31) (by decide +kernel)
      have r0 : mu D 31 2 0 1 0 = 2 := (mx_ne (by decide)).trans (DP (1, 0, 2) (by decide +kernel))
      have e4 : E 1 4 = 19 := EP (1, 4, 19) (by decide +kernel)
      have e0 : E 19 0 = 20 := EP (19, 0, 20) (by decide +kernel)
      have e3 : E 20 3 = A 5 4 := (oE _ _ (by decide) (by decide) (by decide)).trans d5.2.2.2.1
      unfold Lx_family Ac_clear
      rw [l1, if_pos rfl, p1, l5, if_pos rfl, a1, bd2_some, if_pos c, q1, l5, if_pos rfl, q4, d1, bd1_some, r6, l31, if_pos rfl, if_pos rfl, lt1_def, bd1_some, r0, l2, if_pos rfl, lt1_def, lt1_def, lt1_def, lt1_def, ← hE, e4, l19, if_pos rfl, e0, l20, if_pos rfl, e3]
    obtain ⟨N0, hN0⟩ : ∃ N0, N0 = mu E 154 0 0 := ⟨_, rfl⟩
    have P0 : Ptr N0 := by rw [hN0]; exact EP.mu (by decide +kernel)
    have oN : ∀ x i, ¬ y_scr x i → ¬ (x = 2 ∧ (i = 2 ∨ i = 3)) → x ≠ 4 → ¬ (19 ≤ x ∧ x ≤ 23) → ¬ (x = 31 ∧ i = 2) → ¬ (x = 1 ∧ 11 ≤ i ∧ i ≤ 13) → N0 x i = M x i := fun x i q q1 q2 q3 q4 q5 => by
      rw [hN0, mx_ne (by omega), oE x i q4 (by omega) q5, d2 x i (by omega) q2 (by omega) (by omega)]; exact a2 x i q
    obtain ⟨N1, n1, n2, n3, n4⟩ := a6 N0 P0 (funext fun i => oN _ _ (by omega) (by omega) (by omega) (by omega) (by omega) (by omega)) (oN _ _ (by omega) (by omega) (by omega) (by omega) (by omega) (by omega))
    have P1 : Ptr N1 := n2.ptr P0
    obtain ⟨N2, hN2⟩ : ∃ N2, N2 = mu (mu (mu N1 154 2 0) 154 19 1) 154 20 (A 5 4) := ⟨_, rfl⟩
    have P2 : Ptr N2 := by rw [hN2]; exact ((P1.mu (by decide +kernel)).mu (by decide +kernel)).mu (by decide +kernel)
    have o2 : ∀ x i, ¬ (x = 154 ∧ (i = 2 ∨ i = 19 ∨ i = 20)) → N2 x i = N1 x i := fun x i q => by rw [hN2, mx_ne (by omega), mx_ne (by omega), mx_ne (by omega)]
    obtain ⟨Z, z1, z2, z3, z4, z5, z6⟩ := Mo_found_y (fu := fu) (N := N2) hf I.lay P2 (m := A 5 4) (by rw [hN2, mx_same]) ⟨a3, a4⟩ (fun i i0 i1 => by
      rw [o2 _ _ (by omega), (n4 i i0 i1).2.1]; exact (a5 i i0 i1).2.1)
    have mo : Mo_family fu L E 154 = some (Z, A 5 4) := by
      have e11 : mu (mu N1 154 2 0) 154 19 1 154 11 = A 5 4 := (mx_ne (by decide)).trans ((mx_ne (by decide)).trans n3)
      unfold Mo_family
      rw [l4, if_pos rfl, lt1_def, ← hN0, n1, bd2_some, if_pos c, lt1_def, lt1_def, e11, lt1_def, ← hN2, z1]
    refine ⟨E, A 5 4, Z, cl, mo, ?_⟩
    -- rows of the end
    have zE : ∀ x i, ¬ y_scr x i → ¬ (162 ≤ x ∧ x ≤ 165) → ¬ (x = 154 ∧ (i = 2 ∨ i = 19 ∨ i = 20 ∨ i = 25 ∨ i = 38 ∨ i = 49)) → Z x i = E x i := fun x i q q1 q2 => by
      rw [z2 x i (by omega) (by omega) (by omega), o2 x i (by omega), n2 x i (by omega) (by omega) (by omega) (by omega), hN0, mx_ne (by omega)]
    have zM : ∀ x i, ¬ y_scr x i → ¬ (162 ≤ x ∧ x ≤ 165) → ¬ (x = 154 ∧ (i = 2 ∨ i = 19 ∨ i = 20 ∨ i = 25 ∨ i = 38 ∨ i = 49)) → ¬ (x = 2 ∧ (i = 2 ∨ i = 3)) → x ≠ 4 → ¬ (19 ≤ x ∧ x ≤ 23) → ¬ (x = 31 ∧ i = 2) → ¬ (x = 1 ∧ 11 ≤ i ∧ i ≤ 13) → Z x i = M x i := fun x i q q1 q2 q3 q4 q5 q6 q7 => by
      rw [z2 x i (by omega) (by omega) (by omega), o2 x i (by omega), n2 x i (by omega) (by omega) (by omega) (by omega)]
      exact oN x i q q3 q4 q5 q6 q7
    have ZP : Ptr Z := fun q hq => by
      have h9 : ∀ q ∈ zPt, ¬ (162 ≤ (q.1 : Int) ∧ (q.1 : Int) ≤ 165) ∧ ¬ ((q.1 : Int) = 154 ∧ ((q.2.1 : Int) = 25 ∨ (q.2.1 : Int) = 38 ∨ (q.2.1 : Int) = 49)) := by decide +kernel
      have z := h9 q hq
      rw [z2 _ _ (by omega) (by omega) z.2]; exact P2 q hq
    have w20 : Z 154 20 = A 5 4 := by rw [z2 _ _ (by decide) (by decide) (by decide), hN2, mx_same]
    have w19 : Z 154 19 = 1 := by rw [z2 _ _ (by decide) (by decide) (by decide), hN2, mx_ne (by decide), mx_same]
    have w2 : Z 154 2 = 0 := by rw [z2 _ _ (by decide) (by decide) (by decide), hN2, mx_ne (by decide), mx_ne (by decide), mx_same]
    have e22 : Z 2 2 = 0 := by rw [zE _ _ (by omega) (by omega) (by omega), hE, mx_ne (by decide), mx_ne (by decide), mx_ne (by decide), mx_same]
    have e23 : Z 2 3 = A 5 4 := by rw [zE _ _ (by omega) (by omega) (by omega), oE _ _ (by decide) (by decide) (by decide)]; exact d3.1
    have e111 : Z 1 11 = 1 := by rw [zE _ _ (by omega) (by omega) (by omega), hE, mx_ne (by decide), mx_ne (by decide), mx_same]
    have e112 : Z 1 12 = 0 := by rw [zE _ _ (by omega) (by omega) (by omega), hE, mx_ne (by decide), mx_same]
    have e113 : Z 1 13 = 0 := by rw [zE _ _ (by omega) (by omega) (by omega), hE, mx_same]
    have e312 : Z 31 2 = 0 := by rw [zE _ _ (by omega) (by omega) (by omega), hE, mx_ne (by decide), mx_ne (by decide), mx_ne (by decide), mx_ne (by decide), mx_same]
    have e311 : Z 31 1 = M 31 1 := zM _ _ (by omega) (by omega) (by omega) (by omega) (by omega) (by omega) (by omega) (by omega)
    have eC : ∀ x i, 19 ≤ x ∧ x ≤ 23 → Z x i = D x i := fun x i q => (zE x i (by omega) (by omega) (by omega)).trans (oE x i (by omega) (by omega) (by omega))
    have e4 : ∀ i, 0 ≤ i → i < A 5 4 → Z 4 i = A 6 i := fun i i0 i1 => by
      rw [zE _ _ (by omega) (by omega) (by omega), oE _ _ (by omega) (by omega) (by omega)]; exact d3.2 i i0 i1
    have nn : ∀ i, 0 ≤ i → i < A 5 4 → N2 156 i + 97 = A 6 i ∧ N2 157 i = A 7 i ∧ N2 158 i = A 8 i := fun i i0 i1 => by
      rw [o2 _ _ (by omega), o2 _ _ (by omega), o2 _ _ (by omega)]; exact n4 i i0 i1
    have r9 := I.2.2.2.2.2.2.1.1
    refine ⟨⟨I.lay, ZP, I.1.2.2⟩, ⟨?_, by rw [w2, e22], fun i i0 i1 => by rw [e22] at i1; omega⟩, ⟨by rw [e23, w20], fun l l0 l1 => ?_⟩, ⟨⟨by rw [e111, w19], by rw [e112, z4.2.2], by rw [e113, z4.2.1]⟩, Or.inr w19, Or.inl z4.2.2, Or.inl z4.2.1, fun q => by rw [w19] at q; omega, fun _ => by rw [w20]; exact m1⟩, ?_, fun q => by rw [z4.2.2] at q; omega, ⟨?_, fun j j0 j1 => by rw [z4.1] at j1; omega⟩, fun q => by rw [z4.2.1] at q; omega, fun i i0 i1 => ?_, ?_⟩
    · unfold TapC
      rw [e22]
      exact ⟨Int.le_refl _, by decide, fun i i0 i1 => by omega⟩
    · rw [w20] at l1
      obtain ⟨r1, r2, r3⟩ := z3 l l0 l1
      obtain ⟨s1, s2, s3⟩ := nn l l0 l1
      have bb := a5 l l0 l1
      rw [e4 l l0 l1, r1, r2, r3, s2, s3]
      omega
    · rw [w20]
      refine ⟨⟨l19, I.lay 24 (by decide)⟩, ⟨?_, ?_, ?_, ?_, ?_⟩, ⟨?_, ?_, ?_, ?_⟩, ⟨⟨l20, ⟨?_, ?_, ?_⟩, I.lay 21 (by decide), I.lay 22 (by decide), I.lay 23 (by decide)⟩, ⟨?_, ?_, ?_⟩, fun p pp0 pp1 => ?_⟩, ⟨?_, ?_, fun p pp0 pp1 => ?_⟩, fun l l0 l1 => ?_, fun g g0 g1 => ?_⟩
      · rw [eC _ _ (by decide)]; exact d4.1
      · rw [eC _ _ (by decide)]; exact d4.2.1
      · rw [eC _ _ (by decide), d4.2.2.1, z5.2.2.2.2]
      · rw [eC _ _ (by decide), d4.2.2.2.1, z5.2.2.1]
      · rw [eC _ _ (by decide), d4.2.2.2.2, z5.2.2.2.1]
      · rw [z5.2.2.2.2]; decide
      · rw [z5.2.2.1]; decide
      · rw [z5.2.2.2.1]; decide
      · rw [z5.1]; decide
      · show Z 20 0 = 21
        rw [eC _ _ (by decide)]; exact d5.1
      · show Z 20 1 = 22
        rw [eC _ _ (by decide)]; exact d5.2.1
      · show Z 20 2 = 23
        rw [eC _ _ (by decide)]; exact d5.2.2.1
      · show Z 20 3 = _
        rw [eC _ _ (by decide)]; exact d5.2.2.2.1
      · show Z 20 4 = _
        rw [eC _ _ (by decide), z5.2.1]; exact d5.2.2.2.2.1
      · show Z 20 5 = _
        rw [eC _ _ (by decide), z5.1]; exact d5.2.2.2.2.2
      · rw [z5.2.1] at pp1
        show Z 21 p = _ ∧ Z 22 p = _ ∧ Z 23 p = _
        obtain ⟨r1, r2, r3⟩ := z6 p pp0 pp1
        obtain ⟨s1, s2, s3⟩ := nn p pp0 pp1
        obtain ⟨t1, t2, t3⟩ := d6 p pp0 pp1
        rw [eC 21 p (by omega), eC 22 p (by omega), eC 23 p (by omega), r1, r2, r3, s2, s3, t1, t2, t3]
        exact ⟨rfl, rfl, rfl⟩
      · rw [z5.2.1]; omega
      · rw [z5.1]; decide
      · rw [z5.2.1] at pp1
        obtain ⟨r1, r2, r3⟩ := z6 p pp0 pp1
        obtain ⟨s1, s2, s3⟩ := nn p pp0 pp1
        have bb := a5 p pp0 pp1
        rw [r1, r2, r3, s2, s3, z5.1]
        omega
      · obtain ⟨r1, r2, r3⟩ := z6 l l0 l1
        obtain ⟨t1, t2, t3⟩ := z3 l l0 l1
        rw [r1, r3, t2, t3]
        exact ⟨rfl, rfl⟩
      · rw [z5.2.2.2.2] at g1; omega
    · rw [e312, z4.1, e311]; omega
    · have := I.2.2.2.2.2.2.2.2.1 i i0 i1
      rw [zM 153 i (by omega) (by omega) (by omega) (by omega) (by omega) (by omega) (by omega) (by omega), zM 167 i (by omega) (by omega) (by omega) (by omega) (by omega) (by omega) (by omega) (by omega)]
      exact this
    · rw [zM 154 32 (by omega) (by omega) (by omega) (by omega) (by omega) (by omega) (by omega) (by omega)]
      exact I.2.2.2.2.2.2.2.2.2
  · have oN : y_off M (mu A 154 0 0) := a2.trans (y_off0 A)
    obtain ⟨N', n1, n2, _, _⟩ := a6 (mu A 154 0 0) (oN.ptr I.ptr) (oN.row fun i => by omega) (oN _ _ (by omega))
    refine ⟨A, -1, N', ?_, ?_, I.off (oN.trans fun a i q => n2 a i (by omega) (by omega) (by omega) (by omega))⟩
    · show Lx_family fu L M 1 = _
      unfold Lx_family
      rw [l1, if_pos rfl, p1, l5, if_pos rfl, a1, bd2_some, if_neg c]
    · show Mo_family fu L A 154 = _
      unfold Mo_family
      rw [l4, if_pos rfl, lt1_def, n1, bd2_some, if_neg c]
end
