/-! ===== pure: part 985: the call written ===== -/
/-- a sign that names a LIFE names one that is there -/
theorem y_seg_lv {S K N A F : Int → Int} {lv e st : Int} {md d : Nat} {i j p q : Int} (h : y_seg S K N A F lv e st md d i j p q) : ∀ x, i ≤ x → x < j → (S x % 100 = 1 ∨ S x % 100 = 4) → S x / 100 % 100 < lv := by
  refine y_seg_ind (fun md d i j p q => ∀ x, i ≤ x → x < j → (S x % 100 = 1 ∨ S x % 100 = 4) → S x / 100 % 100 < lv) ?_ ?_ ?_ ?_ ?_ ?_ ?_ h
  · intro d i p k n l h1 h2 h3 h4 h5 h6 h7 h8 h9 h10 h11 h12 h13 h14 x hx hx' c
    have e : x = i := by omega
    subst e
    have := h7 (by omega)
    omega
  · intro d i j p q n hs ih h1 h2 h3 h4 h5 h6 h7 x hx hx' c
    by_cases e : x = i
    · subst e; omega
    · exact ih x (by omega) hx' c
  · intro d i j p q hs ih h1 h2 h3 h4 x hx hx' c
    by_cases e : x = i
    · subst e; omega
    · by_cases e2 : x = j
      · subst e2; omega
      · exact ih x (by omega) (by omega) c
  · intro d i j p q hs ih x hx hx' c
    exact ih x hx hx' c
  · intro d i m j p r q hs ih h1 hs' ih' h3 h4 h5 x hx hx' c
    by_cases e : x = m
    · subst e; omega
    · by_cases e2 : x < m
      · exact ih x hx e2 c
      · exact ih' x (by omega) hx' c
  · intro d i j p q hs ih h1 x hx hx' c
    exact ih x hx hx' c
  · intro d i m j p r q hs ih h1 hs' ih' h2 h3 h4 h5 x hx hx' c
    by_cases e : x = m
    · subst e; omega
    · by_cases e2 : x < m
      · exact ih x hx e2 c
      · exact ih' x (by omega) hx' c
section
variable {fu : Nat} {L : zL} {M : zM} {top : Int} {k : Int}
theorem y_tsl_s (nm S : Int → Int) (n : Nat) (i : Int) : y_tsl nm S (n + 1) i = 32 :: (y_tsg nm (S i) ++ y_tsl nm S n (i + 1)) := rfl
theorem Mo_written_l (hf : 600 ≤ fu) (I : y_inv L M top) {g ga st pt tl wh li e : Int} (D : y_gd L M g ga st pt tl wh li e) : ∀ (r n : Nat) (i : Int) (xs : List Int) (T : zM), 0 ≤ i → i + r = e → r < n → xs.length + 13 * r < 700000 → y_wrt M k xs T →
    ∃ T' zs, Mo_written_l92 fu L n T 154 g k i = some (T', if k = -1 then (zs.length : Int) else y_bt zs k) ∧ y_off M T' ∧ zs = xs ++ y_tsl (M 163) (fun i => M 162 (77 + 315 * g + (5 + i))) r i := by
  have l4 : L 154 = (13, 0) := I.lay 154 (by decide)
  have l62 : L 162 = (101, 2597) := I.lay 162 (by decide)
  obtain ⟨d1, d2, d3, d4⟩ := D.1
  have q4 := D.2.2.1.2.2.2
  have he := D.2.2.2.1.2.2.1
  have ws := D.2.2.2.2.1
  have sg := D.2.2.2.2.2.1
  have ew4 : w32 (77 + 315 * g + 4) = 77 + 315 * g + 4 := w32_id (by omega)
  have g11 : 0 ≤ 77 + 315 * g + 4 ∧ 77 + 315 * g + 4 < ((101, 2597) : Int × Int).2 := by show _ ∧ _ < (2597 : Int); omega
  intro r
  induction r with
  | zero =>
    intro n i xs T i0 iN hn hx h
    obtain ⟨n, rfl⟩ : ∃ n', n = n' + 1 := ⟨n - 1, by omega⟩
    obtain ⟨o, h1, h2, h3⟩ := h
    have e4 : T 162 (77 + 315 * g + 4) = e := (o _ _ (by omega)).trans q4
    refine ⟨T, xs, ?_, o, ?_⟩
    · show Mo_written_s92 _ _ _ _ _ _ _ _ = _
      unfold Mo_written_s92
      rw [l4, if_pos rfl, Mo_giftAt_ok (by omega), bd1_some, y_18 I o, l62, if_pos rfl, ew4, if_pos g11, e4, if_neg (by omega), h2, h3]
      by_cases c : k = -1
      · rw [if_pos c, if_pos c]
      · rw [if_neg c, if_neg c, w32_id (by omega), Mo_in_ok, bd1_some]
        by_cases c2 : 0 ≤ k ∧ k ≤ (xs.length : Int) - 1
        · rw [if_pos c2, if_neg (by decide)]
        · rw [if_neg c2, if_pos rfl]
          unfold y_bt
          rw [if_neg (by omega)]
    · show xs = xs ++ []
      rw [List.append_nil]
  | succ r ih =>
    intro n i xs T i0 iN hn hx h
    obtain ⟨n, rfl⟩ : ∃ n', n = n' + 1 := ⟨n - 1, by omega⟩
    have o := h.1
    have e4 : T 162 (77 + 315 * g + 4) = e := (o _ _ (by omega)).trans q4
    obtain ⟨T1, t1, t2⟩ := Mo_writes_y (fu := fu) I h (by omega) 32
    obtain ⟨nn, ll, aa, w1, w2, w3, w4, w5⟩ := ws i i0 (by omega)
    have hlv := y_seg_lv sg i i0 (by omega)
    have len2 := y_tsg_len (M 163) (M 162 (77 + 315 * g + (5 + i)))
    obtain ⟨T2, u1, u2⟩ := Mo_writesSign_y (fu := fu) (s := M 162 (77 + 315 * g + (5 + i))) (by omega) I t2 (by rw [List.length_append]; show xs.length + 1 < 800000; omega) w1 w2 w3 w4 (fun c => by
      have h := hlv (by show M 162 (77 + 315 * g + (5 + i)) % 100 = 1 ∨ M 162 (77 + 315 * g + (5 + i)) % 100 = 4; simp only at w1; omega)
      simp only at w1 h
      omega)
    obtain ⟨T3, zs, v1, v2, v3⟩ := ih n (i + 1) _ T2 (by omega) (by omega) (by omega) (by rw [List.length_append, List.length_append]; show xs.length + 1 + _ + _ < 700000; omega) u2
    refine ⟨T3, zs, ?_, v2, ?_⟩
    · have ew5 : w32 (w32 (77 + 315 * g + 5) + i) = 77 + 315 * g + (5 + i) := by rw [show w32 (77 + 315 * g + 5) = 77 + 315 * g + 5 from w32_id (by omega), w32_id (by omega)]; omega
      have ewi : w32 (i + 1) = i + 1 := w32_id (by omega)
      have g12 : 0 ≤ 77 + 315 * g + (5 + i) ∧ 77 + 315 * g + (5 + i) < ((101, 2597) : Int × Int).2 := by show _ ∧ _ < (2597 : Int); omega
      show Mo_written_s92 _ _ _ _ _ _ _ _ = _
      unfold Mo_written_s92
      rw [l4, if_pos rfl, Mo_giftAt_ok (by omega), bd1_some, y_18 I o, l62, if_pos rfl, ew4, if_pos g11, e4, if_pos (by omega), t1, bd1_some, Mo_giftAt_ok (by omega), bd1_some, y_18 I t2.1, l62, if_pos rfl, ew5, if_pos g12, t2.1 162 _ (by omega), u1, bd1_some, lt1_def, ewi, v1]
    · rw [v3, y_tsl_s, List.append_assoc, List.append_assoc]
      rfl
theorem c_written (hf : 600 ≤ fu) (I : y_inv L M top) (g k : Int) : y_sam1 L M (fun M => Lx_written fu L M 1 g k) (fun M => Mo_written fu L M 154 g k) := by
  have l1 : L 1 = (12, 0) := I.lay 1 (by decide)
  have l4 : L 154 = (13, 0) := I.lay 154 (by decide)
  have l19 : L 19 = (2, 0) := I.lay 19 (by decide)
  have l62 : L 162 = (101, 2597) := I.lay 162 (by decide)
  have p4 : M 1 4 = 19 := I.ptr (1, 4, 19) (by decide +kernel)
  have o := y_off0 M
  by_cases h : M 154 19 = 1 ∧ 0 ≤ g ∧ g < M 162 76
  · obtain ⟨ga, st, pt, tl, wh, li, e, D⟩ := y_gift2 I h
    obtain ⟨g1, g2, g3, g4⟩ := D.at (fu := fu) I (y_off.refl M)
    have hb := D.2.2.2.1
    obtain ⟨d1, d2, d3, d4⟩ := D.1
    obtain ⟨st', pt', tl', gc, q2, q3, q4, q5, q6, q7, q8⟩ := I.2.2.2.2.1.2.2.2.2.2.2 g h.2.1 h.2.2
    have e1 : M (19 + 5) g = ga := D.2.1.1
    have f1 := D.2.2.1
    rw [e1] at gc q7
    have l10 : L (M ga 10) = (101, tl') := gc.2.2.1.2.2.2.2.2
    have t0 : y_wrt M k [] (mu (mu (mu (mu M 154 0 0) 154 27 0) 154 28 k) 154 29 (-1)) := by
      refine ⟨((o.mu (by omega)).mu (by omega)).mu (by omega), ?_, ?_, ?_⟩
      · rw [mx_ne (by omega), mx_same]
      · rw [mx_ne (by omega), mx_ne (by omega), mx_same]; rfl
      · rw [mx_same]
        unfold y_bt
        rw [if_neg (by show ¬ (0 ≤ k ∧ k < 0); omega)]
    obtain ⟨T1, t1, t2⟩ := Mo_writesAll_y (fu := fu) (by omega) I (s := 31) (by decide) (bs := [116, 111, 32]) rfl t0 (by decide)
    obtain ⟨X, hX, sX, hsX, eX⟩ : ∃ X : List Int, X = (if wh = 1 then [99, 104, 105, 108, 100, 114, 101, 110, 32] else if wh = 2 then [103, 114, 97, 110, 100, 99, 104, 105, 108, 100, 114, 101, 110, 32] else []) ∧ ∃ sX : Nat, sX = (if wh = 1 then 32 else if wh = 2 then 33 else 34) ∧ (sX < zstr.length ∧ X.length < 100 ∧ (zstr.getD sX []).map (fun (c : Nat) => (c : Int)) = X) := by
      refine ⟨_, rfl, _, rfl, ?_⟩
      (repeat' split) <;> exact ⟨by decide, by decide, rfl⟩
    obtain ⟨T2, u1, u2⟩ := Mo_writesAll_y (fu := fu) (by omega) I eX.1 eX.2.2 t2 (by decide)
    have len2 : (([] ++ [116, 111, 32] : List Int) ++ X).length < 200 := by rw [List.length_append]; show 3 + X.length < 200; omega
    obtain ⟨T3, v1, v2⟩ := Mo_writesName_y (fu := fu) I u2 (by omega) (l := li) hb.2.1
    have len3 : ((([] ++ [116, 111, 32] : List Int) ++ X) ++ [97 + M 163 li]).length < 300 := by rw [List.length_append]; show _ + 1 < 300; omega
    obtain ⟨T4, x1, x2⟩ := Mo_writesAll_y (fu := fu) (by omega) I (s := 35) (by decide) (bs := [32, 119, 104, 101, 110]) rfl v2 (by omega)
    have len4 : (((([] ++ [116, 111, 32] : List Int) ++ X) ++ [97 + M 163 li]) ++ [32, 119, 104, 101, 110]).length < 400 := by rw [List.length_append]; show _ + 5 < 400; omega
    obtain ⟨T5, zs, y1, y2, y3⟩ := Mo_written_l (fu := fu) hf I D e.toNat fu 0 _ T4 (by omega) (by omega) (by omega) (by omega) x2
    have ez : zs = y_tx (M 163) (fun i => M 162 (77 + 315 * g + i)) := by
      rw [y3]
      unfold y_tx
      show _ = [116, 111, 32] ++ (if M 162 (77 + 315 * g + 0) = 1 then _ else if M 162 (77 + 315 * g + 0) = 2 then _ else []) ++ [97 + M 163 (M 162 (77 + 315 * g + 1))] ++ [32, 119, 104, 101, 110] ++ y_tsl (M 163) _ (M 162 (77 + 315 * g + 4)).toNat 0
      rw [f1.1, f1.2.1, f1.2.2.2, ← hX]
      rfl
    have ew0 : w32 (77 + 315 * g + 0) = 77 + 315 * g + 0 := w32_id (by omega)
    have ew1 : w32 (77 + 315 * g + 1) = 77 + 315 * g + 1 := w32_id (by omega)
    have g10 : 0 ≤ 77 + 315 * g + 0 ∧ 77 + 315 * g + 0 < ((101, 2597) : Int × Int).2 := by show _ ∧ _ < (2597 : Int); omega
    have g11 : 0 ≤ 77 + 315 * g + 1 ∧ 77 + 315 * g + 1 < ((101, 2597) : Int × Int).2 := by show _ ∧ _ < (2597 : Int); omega
    have to : Mo_to fu L T1 154 g = some wh := by
      unfold Mo_to
      rw [l4, if_pos rfl, Mo_giftAt_ok (by omega), bd1_some, y_18 I t2.1, l62, if_pos rfl, ew0, if_pos g10, t2.1 162 _ (by omega), f1.1]
    have tol : Mo_toldLife fu L T2 154 g = some li := by
      unfold Mo_toldLife
      rw [l4, if_pos rfl, Mo_giftAt_ok (by omega), bd1_some, y_18 I u2.1, l62, if_pos rfl, ew1, if_pos g11, u2.1 162 _ (by omega), f1.2.1]
    have b71 : Mo_written_b71 fu L T1 154 g k 154 sX = some (T5, if k = -1 then (zs.length : Int) else y_bt zs k) := by
      unfold Mo_written_b71
      rw [l4, if_pos rfl, u1, bd1_some, if_pos rfl, tol, bd1_some, v1, bd1_some, x1, bd1_some, y1]
    refine ⟨if k = -1 then (zs.length : Int) else y_bt zs k, T5, ?_, ?_, y2⟩
    · show Lx_written fu L M 1 g k = _
      unfold Lx_written
      rw [l1, if_pos rfl, p4, l19, if_pos rfl, g1, bd1_some, if_neg g2, g3, if_pos rfl, l10, if_pos rfl]
      have htl : tl' = (zs.length : Int) := by rw [ez]; exact q7.1
      by_cases c : k = -1
      · rw [if_pos c, if_pos c]
        exact congrArg some htl
      · rw [if_neg c, if_neg c]
        unfold y_bt
        by_cases c2 : k < 0
        · rw [if_pos c2, if_neg (by omega)]
        · rw [if_neg c2, if_pos rfl, if_pos rfl]
          by_cases c3 : k < tl'
          · rw [if_pos (show k < ((101, tl') : Int × Int).2 from c3), if_pos (show 0 ≤ k ∧ k < ((101, tl') : Int × Int).2 from ⟨by omega, c3⟩), if_pos (by omega)]
            have := q7.2 k.toNat (by rw [← ez]; omega)
            rw [show ((k.toNat : Nat) : Int) = k by omega, ← ez] at this
            exact congrArg some this
          · rw [if_neg (show ¬ k < ((101, tl') : Int × Int).2 from c3), if_neg (by omega)]
    · show Mo_written fu L M 154 g k = _
      unfold Mo_written
      rw [l4, if_pos rfl, lt1_def, y_isG I o, if_pos h, bd1_some, if_neg (by decide), lt1_def, lt1_def, lt1_def, t1, bd1_some, to, bd1_some, bd1_some, ← b71, hsX]
      by_cases c1 : wh = 1
      · rw [if_pos c1, if_pos c1]
      · rw [if_neg c1, if_neg c1]
        by_cases c2 : wh = 2
        · rw [if_pos c2, if_pos c2]
        · rw [if_neg c2, if_neg c2]
  · refine ⟨-1, mu M 154 0 0, ?_, ?_, o⟩
    · show Lx_written fu L M 1 g k = _
      unfold Lx_written
      rw [l1, if_pos rfl, p4, l19, if_pos rfl, Af_giftAt_n I h, bd1_some, if_pos rfl]
    · show Mo_written fu L M 154 g k = _
      unfold Mo_written
      rw [l4, if_pos rfl, lt1_def, y_isG I o, if_neg h, bd1_some, if_pos rfl]
end
