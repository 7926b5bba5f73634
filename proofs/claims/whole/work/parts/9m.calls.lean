/-! ===== pure: part 9m: pass, period, limit, birth, death ===== -/
def y_rm1 (M : zM) (r : Int) : zM := mu M 153 r (w32 (M 153 r + 1))
def y_rm2 (N : zM) (r : Int) : zM := mu N 167 r (w32 (N 167 r + 1))
section
variable {fu : Nat} {L : zL} {M N Z : zM} {top : Int}
theorem y_kep_ref (I : y_inv L M top) {r : Int} (hr : 0 ≤ r ∧ r ≤ 4) {c m : zM → Option (zM × Int)} (hc : Lx_refused fu L M 1 r = some (y_rm1 M r, -1) → c M = some (y_rm1 M r, -1)) (hm : Mo_refuses fu L (mu (y_rm1 M r) 154 0 0) 154 r = some (y_rm2 (mu (y_rm1 M r) 154 0 0) r, -1) → m (y_rm1 M r) = some (y_rm2 (mu (y_rm1 M r) 154 0 0) r, -1)) : y_kep L M top c m := by
  obtain ⟨h1, h2, h3⟩ := y_both_ref (fu := fu) I hr (A := M) (N := mu (y_rm1 M r) 154 0 0) (y_off.refl M) (fun x i c => mx_ne (by omega))
  exact ⟨_, _, _, hc h1, hm h2, h3⟩
theorem y_rm1_o (M : zM) (r : Int) {x : Int} (h : x ≠ 153) (i : Int) : y_rm1 M r x i = M x i := mx_ne (Or.inl h)
/-- what the model sees at a refusal's begin -/
theorem y_rm1_0 (M : zM) (r : Int) {x i : Int} (h : x ≠ 153) (h2 : ¬ (x = 154 ∧ i = 0)) : mu (y_rm1 M r) 154 0 0 x i = M x i := (mx_ne (by omega)).trans (y_rm1_o M r h i)
theorem y_act2 (hf : 42000 ≤ fu) (I : y_inv L M top) (h1 : M 154 19 = 1) {M1 M2 N0 : zM}
    (kk : (M1 31 1 = (if M 31 1 + 1 < 16 then M 31 1 + 1 else 0) ∧ M1 31 2 = min (M 31 2 + 1) 16) ∧ (∀ x i, ¬ y_wri (33 + 6 * M 31 1) x i → ¬ (x = 31 ∧ (i = 1 ∨ i = 2)) → M1 x i = M x i) ∧ y_ra L M1 (33 + 6 * M 31 1) top (M 162) (M 154 20) (M 163) (M 164) (M 165) ∧ Ptr M1)
    (c2 : ∀ x i, ¬ (19 ≤ x ∧ x ≤ 24) → ¬ y_scr x i → ¬ (x = 2 ∧ i = 2) → M2 x i = M1 x i)
    (n0 : ∀ x i, ¬ y_scr x i → ¬ (x = 154 ∧ i = 2) → N0 x i = M2 x i) (P0 : Ptr N0) :
    ∃ N1, Mo_keeps fu L N0 154 = some N1 ∧ (∀ x i, x ≠ 166 → ¬ (x = 154 ∧ i = 25) → N1 x i = N0 x i) ∧ Ptr N1 ∧ N1 162 = M 162 ∧ ∀ Z, (∀ x i, x ≠ 162 → Z x i = N1 x i) → ((Z 2 2 = M 2 2 ∧ Z 154 2 = M 154 2) ∨ (Z 2 2 = 0 ∧ Z 154 2 = 0)) → y_ra L Z 19 top (Z 162) (M 154 20) (M 163) (M 164) (M 165) → y_inv L Z top := by
  obtain ⟨k1, k2, k3, k4⟩ := kk
  have r9 := I.2.2.2.2.2.2.1.1
  have hnx : 0 ≤ M 31 1 ∧ M 31 1 ≤ 15 := ⟨r9.2.2.2.1, r9.2.2.2.2⟩
  have nm : ∀ x i, 154 ≤ x → x < 171 → ¬ y_scr x i → ¬ (x = 154 ∧ i = 2) → N0 x i = M x i := fun x i q0 q1 q q2 => (n0 x i q q2).trans ((c2 x i (by omega) q (by omega)).trans (k2 x i (by unfold y_wri; omega) (by omega)))
  have e25 : N0 154 25 = M 154 25 := nm _ _ (by decide) (by decide) (by omega) (by omega)
  have e162 : N0 162 = M 162 := funext fun i => nm _ _ (by decide) (by decide) (by omega) (by omega)
  have e166 : N0 166 = M 166 := funext fun i => nm _ _ (by decide) (by decide) (by omega) (by omega)
  obtain ⟨N1, a1, a2, a3, a4, a5⟩ := Mo_keeps_y (fu := fu) hf I.lay P0 e25 (by omega)
  have P1 : Ptr N1 := fun q hq => by
    have h9 : ∀ q ∈ zPt, (q.1 : Int) ≠ 166 ∧ ¬ ((q.1 : Int) = 154 ∧ (q.2.1 : Int) = 25) := by decide +kernel
    rw [a3 _ _ (h9 q hq).1 (h9 q hq).2]; exact P0 q hq
  refine ⟨N1, a1, a3, P1, (funext fun i => a3 162 i (by decide) (by omega)).trans e162, fun Z hZ zt ra => ?_⟩
  have z25 : Z 154 25 = N1 154 25 := hZ _ _ (by decide)
  refine I.act h1 k1 k2 k3 (z25.trans a2) (fun k k0 k1 => ?_) (fun j k j0 j1 q0 q1 => ?_) (fun q hq => ?_) (fun x x0 x1 => funext fun i => ?_) (fun x i q q1 q2 q3 q4 q5 q6 => ?_) zt ra
  · rw [z25, hZ _ _ (by decide), a4 k k0 k1, e162]
  · rw [z25] at j1
    rw [hZ _ _ (by decide), a5 j k j0 j1 q0 q1, e166]
  · have h9 : ∀ q ∈ zPt, (q.1 : Int) ≠ 162 := by decide +kernel
    rw [hZ _ _ (h9 q hq)]; exact P1 q hq
  · rw [hZ x i (by omega), a3 x i (by omega) (by omega), n0 x i (by omega) (by omega)]
    exact c2 x i (by omega) (by omega) (by omega)
  · rw [hZ x i q3, a3 x i q4 (by omega), n0 x i q (by omega), c2 x i q1 q q6]
    exact k2 x i (by unfold y_wri; omega) (by omega)
theorem y_ra_wld {a : Int} {w w' : Int → Int} {lv : Int} {nm ag pr : Int → Int} (h : y_ra L M a top w lv nm ag pr) (ha : 0 ≤ a ∧ a ≤ 123) (hM : ∀ x, x = a ∨ x = a + 5 ∨ 172 ≤ x → Z x = M x) (hW : WR L Z (a + 1) (a + 2) (a + 3) (a + 4) lv w') (hV : WV lv w') (h0 : w' 0 ≤ 399) (h74 : ∀ j, 74 ≤ j → w' j = w j) (hl : ∀ l, 0 ≤ l → l < lv → w' (2 + l) = w (2 + l) ∧ w' (50 + l) = w (50 + l)) : y_ra L Z a top w' lv nm ag pr := by
  obtain ⟨q1, q2, q3, q4, q5, q6, q7⟩ := h
  refine ⟨q1, ?_, ?_, hW, hV, fun l l0 l1 => ?_, fun g g0 g1 => ?_⟩
  · rw [hM a (Or.inl rfl), h74 74 (by decide), h74 75 (by decide), h74 76 (by decide)]; exact q2
  · rw [h74 74 (by decide), h74 75 (by decide), h74 76 (by decide)]; exact ⟨q3.1, q3.2.1, q3.2.2.1, h0⟩
  · rw [(hl l l0 l1).1, (hl l l0 l1).2]; exact q6 l l0 l1
  · rw [h74 76 (by decide)] at g1
    rw [hM (a + 5) (Or.inr (Or.inl rfl))]
    exact ((q7 g g0 g1).of (fun x x0 _ => hM x (Or.inr (Or.inr x0))) (fun _ _ _ => rfl) (Int.le_refl _)).congr fun i i0 i1 => h74 _ (by omega)
/-- the class keeps, told of what calls go on with -/
theorem y_keepc (hf : 400 ≤ fu) (I : y_inv L M top) : ∃ M1, Ac_keep fu L M 31 19 = some M1 ∧ ((M1 31 1 = (if M 31 1 + 1 < 16 then M 31 1 + 1 else 0) ∧ M1 31 2 = min (M 31 2 + 1) 16) ∧ (∀ x i, ¬ y_wri (33 + 6 * M 31 1) x i → ¬ (x = 31 ∧ (i = 1 ∨ i = 2)) → M1 x i = M x i) ∧ y_ra L M1 (33 + 6 * M 31 1) top (M 162) (M 154 20) (M 163) (M 164) (M 165) ∧ Ptr M1) ∧ (∀ x, (x < 31 ∨ 129 ≤ x) → M1 x = M x) := by
  obtain ⟨M1, a1, a2, a3, a4, a5⟩ := Ac_keep_y (fu := fu) hf I
  have r9 := I.2.2.2.2.2.2.1.1
  exact ⟨M1, a1, ⟨a2, a3, a4, a5⟩, fun x hx => funext fun i => a3 x i (by unfold y_wri; omega) (by omega)⟩
theorem c_pass (hf : 42000 ≤ fu) (I : y_inv L M top) (n : Int) : y_kep L M top (fun M => Lx_pass fu L M 1 n) (fun M => Mo_pass fu L M 154 n) := by
  have l1 : L 1 = (12, 0) := I.lay 1 (by decide)
  have l4 : L 154 = (13, 0) := I.lay 154 (by decide)
  have l19 : L 19 = (2, 0) := I.lay 19 (by decide)
  have l20 : L 20 = (11, 0) := I.lay 20 (by decide)
  have l31 : L 31 = (1, 0) := I.lay 31 (by decide)
  have l62 : L 162 = (101, 2597) := I.lay 162 (by decide)
  have p4 : M 1 4 = 19 := I.ptr (1, 4, 19) (by decide +kernel)
  have p6 : M 1 6 = 31 := I.ptr (1, 6, 31) (by decide +kernel)
  have p0 : M 19 0 = 20 := I.ptr (19, 0, 20) (by decide +kernel)
  have h6 := I.2.2.2.1
  have w5 : M 20 5 = M 162 0 := I.wr.2.1.2.2
  have hv := I.wv.2.1
  have g0 : (0 : Int) ≤ 0 ∧ (0 : Int) < ((101, 2597) : Int × Int).2 := by decide
  by_cases h : M 154 19 = 0
  · refine y_kep_ref (fu := fu) I (r := 0) (by decide) (fun z => ?_) (fun z => ?_)
    · show Lx_pass fu L M 1 n = _
      unfold Lx_pass
      rw [l1, if_pos rfl, if_pos (show M 1 11 = 0 by omega), z, bd2_some]
    · show Mo_pass fu L (y_rm1 M 0) 154 n = _
      unfold Mo_pass
      rw [l4, if_pos rfl, lt1_def, y_rm1_0 M 0 (by decide) (by decide), if_pos h, z, bd2_some]
  have h1 : M 154 19 = 1 := by omega
  have p18 : ∀ r, mu (y_rm1 M r) 154 0 0 154 18 = 162 := fun r => (y_rm1_0 M r (by decide) (by decide)).trans (I.ptr (154, 18, 162) (by decide +kernel))
  by_cases c : 1 ≤ n ∧ n ≤ 100
  · have ew : w32 (M 162 0 + n) = M 162 0 + n := w32_id (by omega)
    by_cases c9 : 399 < M 162 0 + n
    · refine y_kep_ref (fu := fu) I (r := 2) (by decide) (fun z => ?_) (fun z => ?_)
      · show Lx_pass fu L M 1 n = _
        unfold Lx_pass
        rw [l1, if_pos rfl, if_neg (show ¬ M 1 11 = 0 by omega), if_neg (show ¬ n < 1 by omega), if_neg (show ¬ 100 < n by omega), p4, l19, if_pos rfl, p0, l20, if_pos rfl, w5, ew, if_pos c9, z, bd2_some]
      · show Mo_pass fu L (y_rm1 M 2) 154 n = _
        unfold Mo_pass
        rw [l4, if_pos rfl, lt1_def, y_rm1_0 M 2 (x := 154) (i := 19) (by decide) (by decide), if_neg h, Mo_in_ok, if_pos c, bd1_some, if_neg (by decide), p18, l62, if_pos rfl, if_pos g0, y_rm1_0 M 2 (by decide) (by decide), ew, if_pos c9, z, bd2_some]
    · obtain ⟨M1, a1, kk, kr⟩ := y_keepc (fu := fu) (by omega) I
      have q4 : M1 1 4 = 19 := by rw [kr 1 (by decide)]; exact p4
      have q0 : M1 19 0 = 20 := by rw [kr 19 (by decide)]; exact p0
      have q5 : M1 20 5 = M 162 0 := by rw [kr 20 (by decide)]; exact w5
      obtain ⟨M2, hM2⟩ : ∃ M2, M2 = mu M1 20 5 (M 162 0 + n) := ⟨_, rfl⟩
      have P2 : Ptr M2 := by rw [hM2]; exact kk.2.2.2.mu (by decide +kernel)
      have P0 : Ptr (mu M2 154 0 0) := P2.mu (by decide +kernel)
      obtain ⟨N1, b1, b2, b3, b4, b5⟩ := y_act2 (fu := fu) hf I h1 (M1 := M1) (M2 := M2) (N0 := mu M2 154 0 0) kk (fun x i q _ _ => by rw [hM2, mx_ne (by omega)]) (fun x i q _ => mx_ne (by omega)) P0
      have s18 : N1 154 18 = 162 := b3 (154, 18, 162) (by decide +kernel)
      obtain ⟨Z, hZ⟩ : ∃ Z, Z = mu N1 162 0 (M 162 0 + n) := ⟨_, rfl⟩
      have z162 : Z 162 = iupd (M 162) 0 (M 162 0 + n) := by rw [hZ, mu_row, b4]
      have zo : ∀ x i, x ≠ 162 → Z x i = N1 x i := fun x i q => by rw [hZ, mx_ne (Or.inl q)]
      have zc : ∀ x i, x < 31 ∨ 129 ≤ x → ¬ (x = 154 ∧ (i = 0 ∨ i = 25)) → x ≠ 162 → x ≠ 166 → ¬ (x = 20 ∧ i = 5) → Z x i = M x i := fun x i q q1 q2 q3 q4 => by
        rw [zo x i q2, b2 x i q3 (by omega), mx_ne (by omega), hM2, mx_ne (by omega), kr x q]
      refine ⟨M2, M 162 0 + n, Z, ?_, ?_, b5 Z zo (Or.inl ⟨zc _ _ (by decide) (by decide) (by decide) (by decide) (by decide), zc _ _ (by decide) (by decide) (by decide) (by decide) (by decide)⟩) ?_⟩
      · show Lx_pass fu L M 1 n = _
        have t4 : M2 1 4 = 19 := P2 (1, 4, 19) (by decide +kernel)
        have t0 : M2 19 0 = 20 := P2 (19, 0, 20) (by decide +kernel)
        have t5 : M2 20 5 = M 162 0 + n := by rw [hM2, mx_same]
        unfold Lx_pass
        rw [l1, if_pos rfl, if_neg (show ¬ M 1 11 = 0 by omega), if_neg (show ¬ n < 1 by omega), if_neg (show ¬ 100 < n by omega), p4, l19, if_pos rfl, p0, l20, if_pos rfl, w5, ew, if_neg c9, p6, l31, if_pos rfl, a1, bd1_some, q4, l19, if_pos rfl, q0, l20, if_pos rfl, q5, ew, lt1_def, ← hM2, t4, l19, if_pos rfl, t0, l20, if_pos rfl, t5]
      · show Mo_pass fu L M2 154 n = _
        have u19 : mu M2 154 0 0 154 19 = 1 := by rw [mx_ne (by decide), hM2, mx_ne (by decide), kr 154 (by decide)]; exact h1
        have u18 : mu M2 154 0 0 154 18 = 162 := P0 (154, 18, 162) (by decide +kernel)
        have u162 : mu M2 154 0 0 162 0 = M 162 0 := by rw [mx_ne (by decide), hM2, mx_ne (by decide), kr 162 (by decide)]
        have v18 : Z 154 18 = 162 := (zo _ _ (by decide)).trans s18
        have v0 : Z 162 0 = M 162 0 + n := by rw [z162, iupd_s]
        unfold Mo_pass
        rw [l4, if_pos rfl, lt1_def, u19, if_neg (by decide), Mo_in_ok, if_pos c, bd1_some, if_neg (by decide), u18, l62, if_pos rfl, if_pos g0, u162, ew, if_neg c9, b1, bd1_some, s18, l62, if_pos rfl, if_pos g0, if_pos g0, b4, ew, lt1_def, ← hZ, v18, l62, if_pos rfl, if_pos g0, v0]
      · rw [z162]
        have e0 : iupd (M 162) 0 (M 162 0 + n) 0 = M 162 0 + n := iupd_s _ _ _
        have ej : ∀ j, j ≠ 0 → iupd (M 162) 0 (M 162 0 + n) j = M 162 j := fun j q => iupd_n q
        refine y_ra_wld I.2.2.2.2.1 (by decide) (fun x q => funext fun i => zc x i (by omega) (by omega) (by omega) (by omega) (by omega)) ?_ ?_ (by rw [e0]; omega) (fun j q => ej j (by omega)) (fun l l0 l1 => ⟨ej _ (by omega), ej _ (by omega)⟩)
        · obtain ⟨w1, ⟨w2, w3, w4⟩, w6⟩ := I.wr
          refine ⟨⟨w1.1, ⟨?_, ?_, ?_⟩, w1.2.2⟩, ⟨?_, ?_, ?_⟩, fun p p0 p1 => ?_⟩
          · rw [zc _ _ (by decide) (by decide) (by decide) (by decide) (by decide)]; exact w1.2.1.1
          · rw [zc _ _ (by decide) (by decide) (by decide) (by decide) (by decide)]; exact w1.2.1.2.1
          · rw [zc _ _ (by decide) (by decide) (by decide) (by decide) (by decide)]; exact w1.2.1.2.2
          · rw [zc _ _ (by decide) (by decide) (by decide) (by decide) (by decide)]; exact w2
          · rw [zc _ _ (by decide) (by decide) (by decide) (by decide) (by decide), ej _ (by decide)]; exact w3
          · rw [e0]
            show Z 20 5 = _
            rw [zo _ _ (by decide), b2 _ _ (by decide) (by decide), mx_ne (by decide), hM2, mx_same]
          · rw [ej _ (by decide)] at p1
            rw [ej _ (by omega), ej _ (by omega), ej _ (by omega)]
            have := w6 p p0 p1
            rw [zc (19 + 2) _ (by decide) (by omega) (by decide) (by decide) (by omega), zc (19 + 3) _ (by decide) (by omega) (by decide) (by decide) (by omega), zc (19 + 4) _ (by decide) (by omega) (by decide) (by decide) (by omega)]
            exact this
        · obtain ⟨v1, v2, v3⟩ := I.wv
          refine ⟨by rw [ej _ (by decide)]; exact v1, by rw [e0]; omega, fun q q0 q1 => ?_⟩
          rw [ej _ (by decide)] at q1
          have := v3 q q0 q1
          rw [ej (2 + q) (by omega), ej (26 + q) (by omega), ej (50 + q) (by omega), e0]
          omega
  · refine y_kep_ref (fu := fu) I (r := 2) (by decide) (fun z => ?_) (fun z => ?_)
    · show Lx_pass fu L M 1 n = _
      unfold Lx_pass
      rw [l1, if_pos rfl, if_neg (show ¬ M 1 11 = 0 by omega)]
      by_cases c1 : n < 1
      · rw [if_pos c1, z, bd2_some]
      · rw [if_neg c1, if_pos (show 100 < n by omega), z, bd2_some]
    · show Mo_pass fu L (y_rm1 M 2) 154 n = _
      unfold Mo_pass
      rw [l4, if_pos rfl, lt1_def, y_rm1_0 M 2 (x := 154) (i := 19) (by decide) (by decide), if_neg h, Mo_in_ok, if_neg c, bd1_some, if_pos rfl, z, bd2_some]
end
