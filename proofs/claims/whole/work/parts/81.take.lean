/-! ===== pure: part 81: whom the test is about ===== -/
def y_blg (wh li lim : Int) (w : Int → Int) (sort l : Int) : Int := if sort = 0 then y_icl wh li w l else if lim < -(w (2 + l)) then 0 else if sort = 2 then (if wh = 2 ∧ l = li then 1 else 0) else if wh = 1 then (if l = li then 1 else 0) else if wh = 2 then (if w (50 + l) = li then 1 else 0) else 0
def y_thr (wh li lim : Int) (w : Int → Int) (op sort l : Int) : Int := if sort = 0 then y_blg wh li lim w 0 l else if op = 0 then 0 else y_blg wh li lim w sort l
/-- the k-th of 24 that might be there is there: sorts by eights, lives within -/
def y_is (wh li lim lv : Int) (w : Int → Int) (op k : Int) : Prop := k % 8 < lv ∧ y_thr wh li lim w op (k / 8) (k % 8) = 1
theorem y_blg_01 (wh li lim : Int) (w : Int → Int) (sort l : Int) : y_blg wh li lim w sort l = 0 ∨ y_blg wh li lim w sort l = 1 := by
  unfold y_blg
  split
  · exact y_icl_01 wh li w l
  · (repeat' split) <;> first | exact Or.inl rfl | exact Or.inr rfl
theorem y_thr_01 (wh li lim : Int) (w : Int → Int) (op sort l : Int) : y_thr wh li lim w op sort l = 0 ∨ y_thr wh li lim w op sort l = 1 := by
  unfold y_thr
  split
  · exact y_blg_01 wh li lim w 0 l
  · split
    · exact Or.inl rfl
    · exact y_blg_01 wh li lim w sort l
/-- the first n of the Trial's rows are those below b of whom P says that they are there, in order -/
def y_mb (M : zM) (P : Int → Prop) (n b : Int) : Prop :=
  (∀ i, 0 ≤ i → i < n → (0 ≤ M 151 i ∧ M 151 i ≤ 2 ∧ 0 ≤ M 152 i ∧ M 152 i < 8) ∧ P (8 * M 151 i + M 152 i) ∧ i ≤ 8 * M 151 i + M 152 i ∧ 8 * M 151 i + M 152 i < b) ∧
  (∀ i j, 0 ≤ i → i < j → j < n → 8 * M 151 i + M 152 i < 8 * M 151 j + M 152 j) ∧
  (∀ k, 0 ≤ k → k < b → P k → ∃ i, 0 ≤ i ∧ i < n ∧ 8 * M 151 i + M 152 i = k) ∧ 0 ≤ n ∧ n ≤ b
theorem y_mb.no {M : zM} {P : Int → Prop} {n b : Int} (h : y_mb M P n b) (hb : ¬ P b) : y_mb M P n (b + 1) :=
  ⟨fun i i0 i1 => by have := h.1 i i0 i1; exact ⟨this.1, this.2.1, this.2.2.1, by omega⟩, h.2.1, fun k k0 k1 hk => h.2.2.1 k k0 (by
    by_cases c : k = b
    · subst c; exact absurd hk hb
    · omega) hk, h.2.2.2.1, by have := h.2.2.2.2; omega⟩
theorem y_mb.none {M : zM} {P : Int → Prop} {n : Int} : ∀ (t : Nat) (b : Int), y_mb M P n b → (∀ k, b ≤ k → k < b + t → ¬ P k) → y_mb M P n (b + t)
  | 0, b, h, _ => by rw [show b + ((0 : Nat) : Int) = b by omega]; exact h
  | t + 1, b, h, hn => by
    have := y_mb.none t (b + 1) (h.no (hn b (by omega) (by omega))) (fun k k0 k1 => hn k (by omega) (by omega))
    rw [show b + ((t + 1 : Nat) : Int) = b + 1 + t by omega]
    exact this
theorem y_mb.of {M N : zM} {P : Int → Prop} {n b : Int} (h : y_mb M P n b) (e1 : N 151 = M 151) (e2 : N 152 = M 152) : y_mb N P n b := by
  unfold y_mb
  rw [e1, e2]
  exact h
section
variable {fu : Nat} {L : zL} {M : zM}
/-- the Trial stands on the lives, the gift, the limits -/
def y_tb (L : zL) (M : zM) (wh li lim lv : Int) (w : Int → Int) : Prop := WR L M 143 144 145 146 lv (y_z w lv 0) ∧ M 142 6 = wh ∧ M 142 7 = li ∧ M 142 9 = lim
theorem Tr_belongs_ok (hL : Lay L) (hP : Ptr M) {wh li lim lv : Int} {w : Int → Int} (v : WV lv w) (hb : ∀ l, 0 ≤ l → l < lv → w (2 + l) ≤ 0) (hli : 0 ≤ li) (t : y_tb L M wh li lim lv w) (hwh : 0 ≤ wh ∧ wh ≤ 2) {sort l : Int} (hs : 0 ≤ sort ∧ sort ≤ 2) (l0 : 0 ≤ l) (l1 : l < lv) : Tr_belongs fu L M 142 sort l = some (y_blg wh li lim w sort l) := by
  have l42 : L 142 = (9, 0) := hL 142 (by decide)
  have l43 : L 143 = (11, 0) := hL 143 (by decide)
  have p1 : M 142 1 = 143 := hP (142, 1, 143) (by decide +kernel)
  have hw := v.1
  have vz := y_z_v (y := 0) v hb (by omega)
  obtain ⟨t1, t2, t3, t4⟩ := t
  have e1 : y_z w lv 0 1 = lv := by unfold y_z; rw [if_neg (by decide), if_pos rfl]
  have hv := v.2.2 l l0 (by omega)
  have ep : y_z w lv 0 (50 + l) = w (50 + l) := y_z_p (by omega)
  have eb : y_z w lv 0 (2 + l) = w (2 + l) := y_z_b (by omega)
  have hbl := hb l l0 l1
  have ew : w32 (-w (2 + l)) = -w (2 + l) := w32_id (by omega)
  unfold Tr_belongs y_blg y_icl
  simp only [l42, p1, l43, ↓reduceIte, Wr_parentOf t1 vz, Wr_bornIn t1 vz, e1, l0, l1, and_self, bd1_some, ep, eb, ew, t2, t3, t4]
  by_cases s0 : sort = 0
  · rw [if_pos s0, if_pos s0]
    by_cases w2 : wh = 2
    · rw [if_pos w2, if_neg (show ¬ wh = 1 by omega), if_pos w2]
      by_cases c : 0 ≤ w (50 + l)
      · have c2 : w (50 + l) < lv := by omega
        have ep2 : y_z w lv 0 (50 + w (50 + l)) = w (50 + w (50 + l)) := y_z_p (by omega)
        simp only [c, c2, and_self, ↓reduceIte, ep2, true_and]
        split <;> rfl
      · have c5 : ¬ (-1 = li) := by omega
        simp only [c, false_and, ↓reduceIte, c5]
    · rw [if_neg w2]
      by_cases w1 : wh = 1
      · rw [if_pos w1, if_pos w1]; split <;> rfl
      · rw [if_neg w1, if_neg w1, if_neg w2]; split <;> rfl
  · rw [if_neg s0, if_neg s0]
    (repeat' split) <;> first | rfl | omega
theorem Tr_addMembers_ok (hf : 400 ≤ fu) (hL : Lay L) (hP : Ptr M) {wh li lim lv : Int} {w : Int → Int} (v : WV lv w) (hb : ∀ l, 0 ≤ l → l < lv → w (2 + l) ≤ 0) (hli : 0 ≤ li) (t : y_tb L M wh li lim lv w) (hwh : 0 ≤ wh ∧ wh ≤ 2) {sort : Int} (hs : 0 ≤ sort ∧ sort ≤ 2) (hm : y_mb M (y_is wh li lim lv w 1) (M 142 5) (8 * sort)) :
    ∃ M', Tr_addMembers fu L M 142 sort = some M' ∧ (∀ x j, ¬ (x = 142 ∧ j = 5) → x ≠ 151 → x ≠ 152 → M' x j = M x j) ∧ y_mb M' (y_is wh li lim lv w 1) (M' 142 5) (8 * sort + 8) := by
  have l42 : L 142 = (9, 0) := hL 142 (by decide)
  have l43 : L 143 = (11, 0) := hL 143 (by decide)
  have l51 : L 151 = (101, 24) := hL 151 (by decide)
  have l52 : L 152 = (101, 24) := hL 152 (by decide)
  have p1 : M 142 1 = 143 := hP (142, 1, 143) (by decide +kernel)
  have p3 : M 142 3 = 151 := hP (142, 3, 151) (by decide +kernel)
  have p4 : M 142 4 = 152 := hP (142, 4, 152) (by decide +kernel)
  have hw := v.1
  obtain ⟨T, k, e, ⟨o, tm⟩⟩ := y_lpx (F := fun k (T : zM) i => Tr_addMembers_l2 fu L k T 142 sort i) (N := lv)
    (fun i T => (∀ x j, ¬ (x = 142 ∧ j = 5) → x ≠ 151 → x ≠ 152 → T x j = M x j) ∧ y_mb T (y_is wh li lim lv w 1) (T 142 5) (8 * sort + i))
    (fun k T i h0 hN hJ => by
      obtain ⟨o, tm⟩ := hJ
      have tT : y_tb L T wh li lim lv w := ⟨t.1.of (fun x j c => o x j (by omega) (by omega) (by omega)), (o _ _ (by omega) (by omega) (by omega)).trans t.2.1, (o _ _ (by omega) (by omega) (by omega)).trans t.2.2.1, (o _ _ (by omega) (by omega) (by omega)).trans t.2.2.2⟩
      have PT : Ptr T := fun q hq => by
        have h9 : ∀ q ∈ zPt, ¬ ((q.1 : Int) = 142 ∧ (q.2.1 : Int) = 5) ∧ (q.1 : Int) ≠ 151 ∧ (q.1 : Int) ≠ 152 := by decide +kernel
        obtain ⟨z1, z2, z3⟩ := h9 q hq
        rw [o _ _ z1 z2 z3]
        exact hP q hq
      have ew : w32 (i + 1) = i + 1 := w32_id (by omega)
      have q1 : T 142 1 = 143 := (o _ _ (by omega) (by omega) (by omega)).trans p1
      have q3 : T 142 3 = 151 := (o _ _ (by omega) (by omega) (by omega)).trans p3
      have q4 : T 142 4 = 152 := (o _ _ (by omega) (by omega) (by omega)).trans p4
      have hlv : T 143 3 = lv := tT.1.2.1.1
      have eb := Tr_belongs_ok (fu := fu) hL PT v hb hli tT hwh hs h0 hN
      have k1 : (8 * sort + i) / 8 = sort := by omega
      have k2 : (8 * sort + i) % 8 = i := by omega
      have hth : y_thr wh li lim w 1 sort i = y_blg wh li lim w sort i := by
        unfold y_thr
        by_cases c : sort = 0
        · rw [if_pos c, c]
        · rw [if_neg c, if_neg (by decide)]
      have hn := tm.2.2.2
      rcases y_blg_01 wh li lim w sort i with c | c
      · refine ⟨T, ?_, o, ?_⟩
        · show Tr_addMembers_s2 _ _ _ _ _ _ _ = _
          unfold Tr_addMembers_s2
          simp only [l42, q1, l43, hlv, hN, ↓reduceIte, ↓bd1_eq eb, c, ↓lt1_def, ew]
        · rw [show 8 * sort + (i + 1) = 8 * sort + i + 1 by omega]
          refine tm.no fun hz => ?_
          have := hz.2
          rw [k1, k2, hth, c] at this
          exact absurd this (by decide)
      · have n24 : T 142 5 < 24 := by omega
        have n0 : ¬ T 142 5 < 0 := by omega
        have n0' : 0 ≤ T 142 5 := by omega
        have a5 : mu T 151 (T 142 5) sort 142 5 = T 142 5 := mx_ne (by omega)
        have a4 : mu T 151 (T 142 5) sort 142 4 = 152 := (mx_ne (by omega)).trans q4
        have b5 : mu (mu T 151 (T 142 5) sort) 152 (T 142 5) i 142 5 = T 142 5 := (mx_ne (by omega)).trans a5
        have en : w32 (T 142 5 + 1) = T 142 5 + 1 := w32_id (by omega)
        obtain ⟨n, hn5⟩ : ∃ n, n = T 142 5 := ⟨_, rfl⟩
        rw [← hn5] at n24 n0 n0' a5 a4 b5 en tm hn
        have r51 : ∀ j, mu (mu (mu T 151 n sort) 152 n i) 142 5 (n + 1) 151 j = if j = n then sort else T 151 j := fun j => by
          rw [mx_ne (by omega), mx_ne (by omega)]
          by_cases cj : j = n
          · rw [if_pos cj, cj, mx_same]
          · rw [if_neg cj, mx_ne (by omega)]
        have r52 : ∀ j, mu (mu (mu T 151 n sort) 152 n i) 142 5 (n + 1) 152 j = if j = n then i else T 152 j := fun j => by
          rw [mx_ne (by omega)]
          by_cases cj : j = n
          · rw [if_pos cj, cj, mx_same]
          · rw [if_neg cj, mx_ne (by omega), mx_ne (by omega)]
        refine ⟨mu (mu (mu T 151 n sort) 152 n i) 142 5 (n + 1), ?_, ?_, ?_⟩
        · show Tr_addMembers_s2 _ _ _ _ _ _ _ = _
          unfold Tr_addMembers_s2
          simp only [l42, q1, l43, hlv, hN, ↓reduceIte, ↓bd1_eq eb, c, Int.reduceEq, ← hn5, n24, n0, n0', q3, l51, and_self, ↓lt1_def, a4, l52, a5, b5, en, ew]
        · intro x j c1 c2 c3
          rw [mx_ne (by omega), mx_ne (by omega), mx_ne (by omega)]
          exact o x j c1 c2 c3
        · rw [mx_same, show 8 * sort + (i + 1) = 8 * sort + i + 1 by omega]
          refine ⟨fun j j0 j1 => ?_, fun j j' j0 j1 j2 => ?_, fun k k0 k3 hk => ?_, by omega, by omega⟩
          · rw [r51, r52]
            by_cases cj : j = n
            · rw [if_pos cj, if_pos cj]
              refine ⟨by omega, ⟨?_, ?_⟩, by omega, by omega⟩
              · rw [k2]; exact hN
              · rw [k1, k2, hth]; exact c
            · rw [if_neg cj, if_neg cj]
              have := tm.1 j j0 (by omega)
              exact ⟨this.1, this.2.1, this.2.2.1, by omega⟩
          · rw [r51, r51, r52, r52, if_neg (show ¬ j = n by omega), if_neg (show ¬ j = n by omega)]
            by_cases cj : j' = n
            · rw [if_pos cj, if_pos cj]
              have := (tm.1 j j0 (by omega)).2.2.2
              omega
            · rw [if_neg cj, if_neg cj]
              exact tm.2.1 j j' j0 j1 (by omega)
          · by_cases ck : k = 8 * sort + i
            · refine ⟨n, by omega, by omega, ?_⟩
              rw [r51, r52, if_pos rfl, if_pos rfl]; exact ck.symm
            · obtain ⟨j, j0, j1, j2⟩ := tm.2.2.1 k k0 (by omega) hk
              refine ⟨j, j0, by omega, ?_⟩
              rw [r51, r52, if_neg (show ¬ j = n by omega), if_neg (show ¬ j = n by omega)]; exact j2) lv.toNat fu M 0 (by omega) (by omega) (by omega) ⟨fun _ _ _ _ _ => rfl, by rw [show 8 * sort + 0 = 8 * sort by omega]; exact hm⟩
  have hlv : T 143 3 = lv := (o _ _ (by omega) (by omega) (by omega)).trans t.1.2.1.1
  have q1 : T 142 1 = 143 := (o _ _ (by omega) (by omega) (by omega)).trans p1
  refine ⟨T, ?_, o, ?_⟩
  · refine e.trans ?_
    show Tr_addMembers_s2 _ _ _ _ _ _ _ = _
    unfold Tr_addMembers_s2
    rw [l42, if_pos rfl, q1, l43, if_pos rfl, hlv, if_neg (by omega)]
  · have := y_mb.none (8 - lv).toNat (8 * sort + lv) tm (fun k k0 k1 hk => by have := hk.1; omega)
    rw [show 8 * sort + lv + ((8 - lv).toNat : Int) = 8 * sort + 8 by omega] at this
    exact this
end
