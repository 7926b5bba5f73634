/-! ===== pure: part 82: the class takes a gift to the test ===== -/
/-- a life of the class has vested as things are told -/
def y_hv (wh li lv : Int) (w K Q A F : Int → Int) (ln m : Int) : Prop := ∃ l, 0 ≤ l ∧ l < lv ∧ y_icl wh li w l = 1 ∧ 0 ≤ y_vy (y_z w lv 0) K Q A F ln (w (2 + l)) 16777216 m
/-- the Trial has taken the first m steps, ages lowered to ln -/
def y_tr (L : zL) (M : zM) (lv : Int) (w K Q A F : Int → Int) (m ln wh li per lim op : Int) : Prop :=
  y_rk M K Q A F m ln ∧ y_tb L M wh li lim lv w ∧ M 142 8 = per ∧ (WL L M 147 148 149 150 ∧ M 147 3 = lv ∧ M 147 4 = lv ∧ M 147 5 = 400 ∧ ∀ p, 0 ≤ p → p < lv → M 148 p = w (2 + p) ∧ M 150 p = w (50 + p)) ∧
  (op = 0 ∨ op = 1) ∧ (op = 0 ↔ y_hv wh li lv w K Q A F ln m) ∧ y_mb M (y_is wh li lim lv w op) (M 142 5) 24
theorem y_is_8 {wh li lim lv : Int} {w : Int → Int} {op op' k : Int} (k0 : 0 ≤ k) (k1 : k < 8) : y_is wh li lim lv w op k → y_is wh li lim lv w op' k := fun h => by
  have e : k / 8 = 0 := by omega
  unfold y_is y_thr at *
  rw [e] at h ⊢
  rw [if_pos rfl] at h ⊢
  exact h
theorem y_is_0 {wh li lim lv : Int} {w : Int → Int} {k : Int} (k1 : 8 ≤ k) : ¬ y_is wh li lim lv w 0 k := fun h => by
  have h2 := h.2
  unfold y_thr at h2
  rw [if_neg (by omega), if_pos rfl] at h2
  exact absurd h2 (by decide)
theorem y_mb.shut {M : zM} {wh li lim lv : Int} {w : Int → Int} {n : Int} (h : y_mb M (y_is wh li lim lv w 1) n 8) : y_mb M (y_is wh li lim lv w 0) n 24 := by
  have h1 : y_mb M (y_is wh li lim lv w 0) n 8 := by
    refine ⟨fun i i0 i1 => ?_, h.2.1, fun k k0 k1 hk => h.2.2.1 k k0 k1 (y_is_8 k0 k1 hk), h.2.2.2⟩
    have := h.1 i i0 i1
    exact ⟨this.1, y_is_8 (by omega) this.2.2.2 this.2.1, this.2.2⟩
  have := y_mb.none 16 8 h1 (fun k k0 k1 => y_is_0 k0)
  rw [show (8 : Int) + ((16 : Nat) : Int) = 24 by omega] at this
  exact this
section
variable {fu : Nat} {L : zL} {M : zM}
theorem y_off.of138 {M N : zM} (h : ∀ x i, x ≠ 138 → N x i = M x i) : y_off M N := fun a i c => h a i (fun e => c (by omega))
theorem Tr_vestedAtStart_ok (hf : 400 ≤ fu) (hL : Lay L) (hP : Ptr M) {lv : Int} {w K Q A F : Int → Int} {m ln wh li lim : Int} (v : WV lv w) (hb : ∀ l, 0 ≤ l → l < lv → w (2 + l) ≤ 0) (hr : y_rk M K Q A F m ln) (hm : 1 ≤ m ∧ m ≤ 31) (hl : 0 ≤ ln ∧ ln ≤ 99) (sk : ∀ k, 0 ≤ k → k < m → y_sk K Q A F lv k) (t : y_tb L M wh li lim lv w) (hmb : y_mb M (y_is wh li lim lv w 1) (M 142 5) 8) :
    ∃ M' r, Tr_vestedAtStart fu L M 142 = some (M', r) ∧ (r = 0 ∨ r = 1) ∧ (r = 1 ↔ y_hv wh li lv w K Q A F ln m) ∧ ∀ x i, x ≠ 138 → M' x i = M x i := by
  have l42 : L 142 = (9, 0) := hL 142 (by decide)
  have l43 : L 143 = (11, 0) := hL 143 (by decide)
  have l52 : L 152 = (101, 24) := hL 152 (by decide)
  have l33 : L 133 = (6, 0) := hL 133 (by decide)
  have p0 : M 142 0 = 133 := hP (142, 0, 133) (by decide +kernel)
  have p1 : M 142 1 = 143 := hP (142, 1, 143) (by decide +kernel)
  have p4 : M 142 4 = 152 := hP (142, 4, 152) (by decide +kernel)
  have hw := v.1
  have vz := y_z_v (y := 0) v hb (by omega)
  have e1 : y_z w lv 0 1 = lv := by unfold y_z; rw [if_neg (by decide), if_pos rfl]
  obtain ⟨n, hn⟩ : ∃ n, n = M 142 5 := ⟨_, rfl⟩
  rw [← hn] at hmb
  have hn8 := hmb.2.2.2
  have base : ∀ i, 0 ≤ i → i < n → 0 ≤ M 152 i ∧ M 152 i < lv ∧ M 151 i = 0 ∧ y_icl wh li w (M 152 i) = 1 := fun i i0 i1 => by
    have h := hmb.1 i i0 i1
    have s0 : M 151 i = 0 := by omega
    have h2 := h.2.1
    unfold y_is y_thr y_blg at h2
    rw [show (8 * M 151 i + M 152 i) / 8 = 0 by omega, show (8 * M 151 i + M 152 i) % 8 = M 152 i by omega, if_pos rfl, if_pos rfl] at h2
    exact ⟨h.1.2.2.1, h2.1, s0, h2.2⟩
  -- the loop by hand
  have go : ∀ (k c : Nat) (T : zM) (i : Int), 0 ≤ i → i + k = n → k < c → (∀ x j, x ≠ 138 → T x j = M x j) → (∀ j, 0 ≤ j → j < i → ¬ 0 ≤ y_vy (y_z w lv 0) K Q A F ln (w (2 + M 152 j)) 16777216 m) →
      ∃ M' r, Tr_vestedAtStart_l2 fu L c T 142 i = some (M', r) ∧ (r = 0 ∨ r = 1) ∧ (r = 1 ↔ y_hv wh li lv w K Q A F ln m) ∧ ∀ x j, x ≠ 138 → M' x j = M x j := by
    intro k
    induction k with
    | zero =>
      intro c T i i0 iN hc o hno
      obtain ⟨c, rfl⟩ : ∃ c', c = c' + 1 := ⟨c - 1, by omega⟩
      refine ⟨T, 0, ?_, Or.inl rfl, ?_, o⟩
      · show Tr_vestedAtStart_s2 _ _ _ _ _ _ = _
        unfold Tr_vestedAtStart_s2
        rw [l42, if_pos rfl, o 142 5 (by omega), ← hn, if_neg (by omega)]
      · refine ⟨fun z => absurd z (by decide), fun ⟨l, l0, l1, l2, l3⟩ => ?_⟩
        obtain ⟨j, j0, j1, j2⟩ := hmb.2.2.1 l l0 (by omega) (by
          unfold y_is y_thr y_blg
          rw [show l / 8 = 0 by omega, show l % 8 = l by omega, if_pos rfl, if_pos rfl]
          exact ⟨l1, l2⟩)
        have hbj := base j j0 j1
        rw [hbj.2.2.1] at j2
        have := hno j j0 (by omega)
        rw [show M 152 j = l by omega] at this
        exact absurd l3 this
    | succ k ih =>
      intro c T i i0 iN hc o hno
      obtain ⟨c, rfl⟩ : ∃ c', c = c' + 1 := ⟨c - 1, by omega⟩
      have i24 : i < 24 := by omega
      have iN' : i < n := by omega
      have hbi := base i i0 iN'
      have PT : Ptr T := (y_off.of138 o).ptr hP
      have tW : WR L T 143 144 145 146 lv (y_z w lv 0) := t.1.of fun x j c => o x j (by omega)
      have rT : y_rk T K Q A F m ln := ⟨(o _ _ (by omega)).trans hr.1, fun j j0 j1 => by
        rw [o _ _ (by omega), o _ _ (by omega), o _ _ (by omega), o _ _ (by omega)]; exact hr.2 j j0 j1⟩
      have hv := v.2.2 (M 152 i) hbi.1 (by omega)
      have hbl := hb (M 152 i) hbi.1 hbi.2.1
      obtain ⟨T', t1, t2, t3⟩ := Rk_vestingYear_ok (fu := fu) hf hL PT tW vz (by omega) rT hm hl sk (b := w (2 + M 152 i)) (d := 16777216) (by omega) (by omega)
      have eb : y_z w lv 0 (2 + M 152 i) = w (2 + M 152 i) := y_z_b (by omega)
      have q0 : T 142 0 = 133 := (o _ _ (by omega)).trans p0
      have q1 : T 142 1 = 143 := (o _ _ (by omega)).trans p1
      have q4 : T 142 4 = 152 := (o _ _ (by omega)).trans p4
      have q5 : T 142 5 = n := (o _ _ (by omega)).trans hn.symm
      have q52 : T 152 i = M 152 i := o _ _ (by omega)
      have ew : w32 (i + 1) = i + 1 := w32_id (by omega)
      have hvy : (fun y => if y < 0 then y else max y (w (2 + M 152 i))) (y_val (-1) (y_vop (y_z w lv 0) K Q A ln (w (2 + M 152 i)) 16777216) F (m - 1)) = y_vy (y_z w lv 0) K Q A F ln (w (2 + M 152 i)) 16777216 m := rfl
      rw [hvy] at t1
      have ecD : y_cD 16777216 = -1000000 := rfl
      rw [ecD] at t1
      have o' : ∀ x j, x ≠ 138 → T' x j = M x j := fun x j hx => (t2 x j hx).trans (o x j hx)
      have e0 : Tr_vestedAtStart_l2 fu L (c + 1) T 142 i = if y_vy (y_z w lv 0) K Q A F ln (w (2 + M 152 i)) 16777216 m < 0 then Tr_vestedAtStart_l2 fu L c T' 142 (i + 1) else some (T', 1) := by
        show Tr_vestedAtStart_s2 _ _ _ _ _ _ = _
        unfold Tr_vestedAtStart_s2
        simp only [l42, q5, iN', i24, q4, l52, i0, and_self, q1, l43, ↓reduceIte, q52, Wr_bornIn tW vz, e1, hbi.1, hbi.2.1, bd1_some, eb, q0, l33, ↓bd2_eq t1, ↓lt1_def, ew]
      rw [e0]
      by_cases cc : y_vy (y_z w lv 0) K Q A F ln (w (2 + M 152 i)) 16777216 m < 0
      · rw [if_pos cc]
        refine ih c T' (i + 1) (by omega) (by omega) (by omega) o' fun j j0 j1 => ?_
        by_cases cj : j = i
        · subst cj; omega
        · exact hno j j0 (by omega)
      · rw [if_neg cc]
        exact ⟨T', 1, rfl, Or.inr rfl, ⟨fun _ => ⟨M 152 i, hbi.1, hbi.2.1, hbi.2.2.2, by omega⟩, fun _ => rfl⟩, o'⟩
  exact go n.toNat fu M 0 (by omega) (by omega) (by omega) (fun _ _ _ => rfl) (fun j j0 j1 => absurd j1 (by omega))
end
