/-! ===== pure: part 98: written ===== -/
/-- the byte asked for -/
def y_bt (xs : List Int) (k : Int) : Int := if 0 ≤ k ∧ k < (xs.length : Int) then xs.getD k.toNat 0 else -1
/-- the model has written xs, byte k asked -/
def y_wrt (M : zM) (k : Int) (xs : List Int) (T : zM) : Prop := y_off M T ∧ T 154 28 = k ∧ T 154 27 = (xs.length : Int) ∧ T 154 29 = y_bt xs k
theorem y_bt_app (xs : List Int) (v k : Int) : y_bt (xs ++ [v]) k = if (xs.length : Int) = k then v else y_bt xs k := by
  unfold y_bt
  have hl : ((xs ++ [v]).length : Int) = xs.length + 1 := by rw [List.length_append]; show ((xs.length + 1 : Nat) : Int) = _; omega
  rw [hl]
  by_cases c : (xs.length : Int) = k
  · subst c
    rw [if_pos (by omega), if_pos rfl, Int.toNat_natCast, List.getD_eq_getElem?_getD, List.getElem?_append_right (Nat.le_refl _), Nat.sub_self]; rfl
  · rw [if_neg c]
    by_cases c2 : 0 ≤ k ∧ k < (xs.length : Int)
    · rw [if_pos (by omega), if_pos c2, List.getD_eq_getElem?_getD, List.getD_eq_getElem?_getD, List.getElem?_append_left (by omega)]
    · rw [if_neg (by omega), if_neg c2]
section
variable {fu : Nat} {L : zL} {M : zM} {top : Int} {k : Int}
theorem Mo_writes_y (I : y_inv L M top) {xs : List Int} {T : zM} (h : y_wrt M k xs T) (hx : xs.length < 1000000) (v : Int) : ∃ T', Mo_writes fu L T 154 v = some T' ∧ y_wrt M k (xs ++ [v]) T' := by
  have l4 : L 154 = (13, 0) := I.lay 154 (by decide)
  obtain ⟨o, h1, h2, h3⟩ := h
  have hl : ((xs ++ [v]).length : Int) = xs.length + 1 := by rw [List.length_append]; show ((xs.length + 1 : Nat) : Int) = _; omega
  have key : ∀ b, b = y_bt (xs ++ [v]) k → y_wrt M k (xs ++ [v]) (mu (mu T 154 29 b) 154 27 (w32 (mu T 154 29 b 154 27 + 1))) := fun b hb => by
    refine ⟨(o.mu (by omega)).mu (by omega), ?_, ?_, ?_⟩
    · rw [mx_ne (by omega), mx_ne (by omega)]; exact h1
    · rw [mx_same, mx_ne (by omega), h2, w32_id (by omega), hl]
    · rw [mx_ne (by omega), mx_same]; exact hb
  rw [y_bt_app] at key
  unfold Mo_writes
  rw [l4, if_pos rfl, h1, h2, h3]
  by_cases c : (xs.length : Int) = k
  · rw [if_pos c]
    exact ⟨_, rfl, key v (if_pos c).symm⟩
  · rw [if_neg c]
    exact ⟨_, rfl, key (y_bt xs k) (if_neg c).symm⟩
theorem Mo_writesAll_l (I : y_inv L M top) {s : Nat} (hs : s < zstr.length) : ∀ (r n j : Nat) (xs : List Int) (T : zM), j + r = (zstr.getD s []).length → r < n → xs.length + r < 1000000 → y_wrt M k xs T →
    ∃ T', Mo_writesAll_l2 fu L n T 154 s (j : Int) = some T' ∧ y_wrt M k (xs ++ ((zstr.getD s []).drop j).map (fun (c : Nat) => (c : Int))) T' := by
  have l4 : L 154 = (13, 0) := I.lay 154 (by decide)
  intro r
  induction r with
  | zero =>
    intro n j xs T hj hn hx h
    obtain ⟨n, rfl⟩ : ∃ n', n = n' + 1 := ⟨n - 1, by omega⟩
    refine ⟨T, ?_, ?_⟩
    · show Mo_writesAll_s2 _ _ _ _ _ _ _ = _
      unfold Mo_writesAll_s2
      rw [St_len hs, bd1_some, if_neg (by omega)]
    · rw [List.drop_eq_nil_of_le (by omega)]
      rw [List.map_nil, List.append_nil]; exact h
  | succ r ih =>
    intro n j xs T hj hn hx h
    obtain ⟨n, rfl⟩ : ∃ n', n = n' + 1 := ⟨n - 1, by omega⟩
    have hlt := zstr_len s hs
    obtain ⟨T', t1, t2⟩ := Mo_writes_y (fu := fu) I h (by omega) (((zstr.getD s []).getD j 0 : Nat) : Int)
    obtain ⟨T'', u1, u2⟩ := ih n (j + 1) _ T' (by omega) (by omega) (by rw [List.length_append]; show xs.length + 1 + r < 1000000; omega) t2
    refine ⟨T'', ?_, ?_⟩
    · show Mo_writesAll_s2 _ _ _ _ _ _ _ = _
      unfold Mo_writesAll_s2
      rw [St_len hs, bd1_some, if_pos (by omega), St_at hs (by omega), bd1_some, l4, if_pos rfl, t1, bd1_some, lt1_def, w32_id (by omega), ← u1]
      congr 1
    · rw [dropN_get (show j < (zstr.getD s []).length by omega), List.map_cons]
      rw [List.append_assoc] at u2
      exact u2
theorem Mo_writesAll_y (hf : 400 ≤ fu) (I : y_inv L M top) {s : Nat} (hs : s < zstr.length) {bs : List Int} (e : (zstr.getD s []).map (fun (c : Nat) => (c : Int)) = bs) {xs : List Int} {T : zM} (h : y_wrt M k xs T) (hx : xs.length < 900000) : ∃ T', Mo_writesAll fu L T 154 s = some T' ∧ y_wrt M k (xs ++ bs) T' := by
  have hlt := zstr_len s hs
  obtain ⟨T', t1, t2⟩ := Mo_writesAll_l (fu := fu) I hs (zstr.getD s []).length fu 0 xs T (by omega) (by omega) (by omega) h
  rw [List.drop_zero, e] at t2
  exact ⟨T', t1, t2⟩
theorem Mo_writesNumber_y (I : y_inv L M top) {xs : List Int} {T : zM} (h : y_wrt M k xs T) (hx : xs.length < 900000) {v : Int} (hv : 0 ≤ v ∧ v ≤ 99) : ∃ T', Mo_writesNumber fu L T 154 v = some T' ∧ y_wrt M k (xs ++ y_num v) T' := by
  have l4 : L 154 = (13, 0) := I.lay 154 (by decide)
  have em0 : w32 (v % 10) = v % 10 := w32_id (by omega)
  have em : w32 (48 + w32 (Int.tmod v 10)) = 48 + v % 10 := by rw [Int.tmod_eq_emod_of_nonneg hv.1, em0, w32_id (by omega)]
  have ed0 : w32 (v / 10) = v / 10 := w32_id (by omega)
  have ed : w32 (48 + w32 (Int.tdiv v 10)) = 48 + v / 10 := by rw [Int.tdiv_eq_ediv_of_nonneg hv.1, ed0, w32_id (by omega)]
  unfold Mo_writesNumber y_num
  by_cases c : v < 10
  · rw [if_pos c, if_neg (show ¬ 10 ≤ v by omega)]
    obtain ⟨T', t1, t2⟩ := Mo_writes_y (fu := fu) I h (by omega) (48 + v % 10)
    refine ⟨T', ?_, t2⟩
    unfold Mo_writesNumber_b17
    rw [l4, if_pos rfl, em, t1, bd1_some]
  · rw [if_neg c, if_pos (show 10 ≤ v by omega)]
    obtain ⟨T', t1, t2⟩ := Mo_writes_y (fu := fu) I h (by omega) (48 + v / 10)
    obtain ⟨T'', u1, u2⟩ := Mo_writes_y (fu := fu) I t2 (by rw [List.length_append]; show xs.length + 1 < 1000000; omega) (48 + v % 10)
    rw [List.append_assoc] at u2
    refine ⟨T'', ?_, u2⟩
    unfold Mo_writesNumber_b17
    rw [l4, if_pos rfl, ed, t1, bd1_some, if_pos rfl, em, u1, bd1_some]
theorem Mo_writesName_y (I : y_inv L M top) {xs : List Int} {T : zM} (h : y_wrt M k xs T) (hx : xs.length < 900000) {l : Int} (hl : 0 ≤ l ∧ l < M 154 20) : ∃ T', Mo_writesName fu L T 154 l = some T' ∧ y_wrt M k (xs ++ [97 + M 163 l]) T' := by
  have l4 : L 154 = (13, 0) := I.lay 154 (by decide)
  have l63 : L 163 = (101, 8) := I.lay 163 (by decide)
  have p21 : T 154 21 = 163 := (h.1.ptr I.ptr) (154, 21, 163) (by decide +kernel)
  have hn := I.2.2.1.2 l hl.1 hl.2
  have h8 := I.wv.1
  have e : T 163 l = M 163 l := h.1 _ _ (by omega)
  obtain ⟨T', t1, t2⟩ := Mo_writes_y (fu := fu) I h (by omega) (97 + M 163 l)
  refine ⟨T', ?_, t2⟩
  unfold Mo_writesName
  rw [l4, if_pos rfl, p21, l63, if_pos rfl, if_pos (show 0 ≤ l ∧ l < ((101, 8) : Int × Int).2 by show _ ∧ _ < (8 : Int); omega), e, w32_id (by omega), t1, bd1_some]
theorem y_num_len (v : Int) : (y_num v).length ≤ 2 := by unfold y_num; split <;> exact Nat.le_of_ble_eq_true rfl
theorem y_tsg_len (nm : Int → Int) (s : Int) : (y_tsg nm s).length ≤ 12 := by
  have h := y_num_len (s / 10000)
  unfold y_tsg
  (repeat' split) <;> first | (rw [List.length_append, List.length_append]; show 1 + 9 + _ ≤ 12; omega) | (rw [List.length_append]; simp only [List.length_cons, List.length_nil]; omega) | decide
theorem Mo_writesSign_y (hf : 400 ≤ fu) (I : y_inv L M top) {xs : List Int} {T : zM} (h : y_wrt M k xs T) (hx : xs.length < 800000) {s n l a : Int} (hs : s = 10000 * n + 100 * l + a) (hn : 0 ≤ n ∧ n ≤ 99) (hl : 0 ≤ l ∧ l ≤ 7) (ha : 0 ≤ a ∧ a ≤ 9) (hlv : a = 1 ∨ a = 4 → l < M 154 20) : ∃ T', Mo_writesSign fu L T 154 s = some T' ∧ y_wrt M k (xs ++ y_tsg (M 163) s) T' := by
  have l4 : L 154 = (13, 0) := I.lay 154 (by decide)
  obtain ⟨d1, d2, d3⟩ := y_dec hs ha.1 (by omega) hl.1 (by omega) hn.1 hn.2
  have q1 : s % 100 = a := by omega
  have q2 : s / 100 % 100 = l := by omega
  have q3 : s / 10000 = n := by omega
  have len1 : ∀ (bs : List Int), bs.length < 100 → (xs ++ bs).length < 900000 := fun bs hb => by rw [List.length_append]; omega
  unfold Mo_writesSign y_tsg
  rw [d1, d2, d3, q1, q2, q3, lt1_def, lt1_def, l4]
  by_cases c0 : a = 0
  · rw [if_pos c0, if_pos c0, if_pos rfl]
    obtain ⟨T1, t1, t2⟩ := Mo_writesAll_y (fu := fu) hf I (s := 36) (by decide) (bs := [121, 101, 97, 114, 115, 32]) rfl h (by omega)
    obtain ⟨T2, u1, u2⟩ := Mo_writesNumber_y (fu := fu) I t2 (len1 _ (by decide)) hn
    rw [List.append_assoc] at u2
    exact ⟨T2, by rw [t1, bd1_some, u1, bd1_some], u2⟩
  rw [if_neg c0, if_neg c0]
  by_cases c1 : a = 1
  · rw [if_pos c1, if_pos c1, if_pos rfl]
    obtain ⟨T1, t1, t2⟩ := Mo_writesAll_y (fu := fu) hf I (s := 37) (by decide) (bs := [100, 105, 101, 115, 32]) rfl h (by omega)
    obtain ⟨T2, u1, u2⟩ := Mo_writesName_y (fu := fu) I t2 (len1 _ (by decide)) ⟨hl.1, hlv (Or.inl c1)⟩
    rw [List.append_assoc] at u2
    exact ⟨T2, by rw [t1, bd1_some, u1, bd1_some], u2⟩
  rw [if_neg c1, if_neg c1]
  by_cases c2 : a = 2
  · rw [if_pos c2, if_pos c2, if_pos rfl]
    obtain ⟨T1, t1, t2⟩ := Mo_writesAll_y (fu := fu) hf I (s := 23) (by decide) (bs := [98, 111, 114, 110]) rfl h (by omega)
    exact ⟨T1, by rw [t1, bd1_some], t2⟩
  rw [if_neg c2, if_neg c2]
  by_cases c3 : a = 3
  · rw [if_pos c3, if_pos c3, if_pos rfl]
    obtain ⟨T1, t1, t2⟩ := Mo_writesAll_y (fu := fu) hf I (s := 38) (by decide) (bs := [114, 101, 97, 99, 104, 101, 115, 32]) rfl h (by omega)
    obtain ⟨T2, u1, u2⟩ := Mo_writesNumber_y (fu := fu) I t2 (len1 _ (by decide)) hn
    rw [List.append_assoc] at u2
    exact ⟨T2, by rw [t1, bd1_some, u1, bd1_some], u2⟩
  rw [if_neg c3, if_neg c3]
  by_cases c4 : a = 4
  · rw [if_pos c4, if_pos c4, if_pos rfl]
    obtain ⟨T1, t1, t2⟩ := Mo_writesName_y (fu := fu) I h (by omega) ⟨hl.1, hlv (Or.inr c4)⟩
    obtain ⟨T2, u1, u2⟩ := Mo_writesAll_y (fu := fu) hf I (s := 39) (by decide) (bs := [32, 114, 101, 97, 99, 104, 101, 115, 32]) rfl t2 (len1 _ (Nat.le_of_ble_eq_true rfl))
    obtain ⟨T3, v1, v2⟩ := Mo_writesNumber_y (fu := fu) I u2 (by rw [List.append_assoc]; exact len1 _ (Nat.le_of_ble_eq_true rfl)) hn
    rw [List.append_assoc, List.append_assoc, ← List.append_assoc [97 + M 163 l]] at v2
    exact ⟨T3, by rw [t1, bd1_some, u1, bd1_some, v1, bd1_some], v2⟩
  rw [if_neg c4, if_neg c4]
  by_cases c5 : a = 5
  · rw [if_pos c5, if_pos c5, if_pos rfl]
    obtain ⟨T1, t1, t2⟩ := Mo_writesAll_y (fu := fu) hf I (s := 40) (by decide) (bs := [97, 102, 116, 101, 114, 32]) rfl h (by omega)
    obtain ⟨T2, u1, u2⟩ := Mo_writesNumber_y (fu := fu) I t2 (len1 _ (by decide)) hn
    rw [List.append_assoc] at u2
    exact ⟨T2, by rw [t1, bd1_some, u1, bd1_some], u2⟩
  rw [if_neg c5, if_neg c5]
  by_cases c6 : a = 6
  · rw [if_pos c6, if_pos c6, if_pos rfl]
    obtain ⟨T1, t1, t2⟩ := Mo_writes_y (fu := fu) I h (by omega) 40
    exact ⟨T1, by rw [t1, bd1_some], t2⟩
  rw [if_neg c6, if_neg c6]
  by_cases c7 : a = 7
  · rw [if_pos c7, if_pos c7, if_pos rfl]
    obtain ⟨T1, t1, t2⟩ := Mo_writes_y (fu := fu) I h (by omega) 41
    exact ⟨T1, by rw [t1, bd1_some], t2⟩
  rw [if_neg c7, if_neg c7]
  by_cases c8 : a = 8
  · rw [if_pos c8, if_pos c8, if_pos rfl]
    obtain ⟨T1, t1, t2⟩ := Mo_writesAll_y (fu := fu) hf I (s := 26) (by decide) (bs := [97, 110, 100]) rfl h (by omega)
    exact ⟨T1, by rw [t1, bd1_some], t2⟩
  rw [if_neg c8, if_neg c8, if_pos rfl]
  obtain ⟨T1, t1, t2⟩ := Mo_writesAll_y (fu := fu) hf I (s := 27) (by decide) (bs := [111, 114]) rfl h (by omega)
  exact ⟨T1, by rw [t1, bd1_some], t2⟩
end
