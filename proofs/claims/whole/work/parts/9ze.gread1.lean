/-! ===== pure: part 9ze: a gift read, begun ===== -/
theorem y_seg_ws {S K A Q F : Int → Int} {lv e st : Int} {md d : Nat} {i j p q : Int} (h : y_seg S K Q A F lv e st md d i j p q) : ∀ x, i ≤ x → x < j → ∃ n l h, S x = 10000 * n + 100 * l + h ∧ (0 ≤ n ∧ n ≤ 99) ∧ (0 ≤ l ∧ l ≤ 7) ∧ (0 ≤ h ∧ h ≤ 9) ∧ (6 ≤ h → n = 0 ∧ l = 0) := by
  refine h (fun md d i j p q => ∀ x, i ≤ x → x < j → ∃ n l h, S x = 10000 * n + 100 * l + h ∧ (0 ≤ n ∧ n ≤ 99) ∧ (0 ≤ l ∧ l ≤ 7) ∧ (0 ≤ h ∧ h ≤ 9) ∧ (6 ≤ h → n = 0 ∧ l = 0)) ⟨?_, ?_, ?_, ?_, ?_, ?_, ?_⟩
  · intro d i p k n l h1 h2 h3 h4 h5 h6 h7 h8 h9 h10 h11 h12 h13 h14 x x0 x1
    obtain rfl : x = i := by omega
    exact ⟨n, l, k, h12, by omega, by omega, by omega, by omega⟩
  · intro d i j p q n h h1 h2 h3 h4 h5 h6 h7 x x0 x1
    by_cases c : x = i
    · rw [c]; exact ⟨n, 0, 5, by omega, by omega, by omega, by omega, by omega⟩
    · exact h x (by omega) x1
  · intro d i j p q h h1 h2 h3 h4 x x0 x1
    by_cases c : x = i
    · rw [c]; exact ⟨0, 0, 6, by omega, by omega, by omega, by omega, by omega⟩
    · by_cases c2 : x = j
      · rw [c2]; exact ⟨0, 0, 7, by omega, by omega, by omega, by omega, by omega⟩
      · exact h x (by omega) (by omega)
  · intro d i j p q h
    exact h
  · intro d i m j p r q h h1 h2 h3 h4 h5 x x0 x1
    by_cases c : x = m
    · rw [c]; exact ⟨0, 0, 8, by omega, by omega, by omega, by omega, by omega⟩
    · by_cases c2 : x < m
      · exact h x x0 c2
      · exact h2 x (by omega) x1
  · intro d i j p q h h1
    exact h
  · intro d i m j p r q h h1 h2 hn h3 h4 h5 x x0 x1
    by_cases c : x = m
    · rw [c]; exact ⟨0, 0, 9, by omega, by omega, by omega, by omega, by omega⟩
    · by_cases c2 : x < m
      · exact h x x0 c2
      · exact h2 x (by omega) x1
section
variable {fu : Nat} {L : zL} {M0 M N : zM} {top b : Int}
theorem y_bd_ne {w : Int} (h : N 154 5 = w) (hw : w ≠ -1) (b : Int) : y_bd N b 154 5 = w := by rw [y_bd_w, if_neg (by omega), h]
theorem y_rm_159 {T : zM} {i v : Int} (h : y_rm M0 T b) : y_rm M0 (mu T 159 i v) b := ⟨h.1.mu (by omega), y_mtok h.2 (fun j hj => mx_ne (by omega)) (funext fun j => mx_ne (by omega))⟩
/-- the model's reading of a gift from 'when' on -/
abbrev y_g3 (fu : Nat) (L : zL) (M32 : zM) : Option (zM × Int) :=
  bd1 (Mo_mustWord fu L M32 154 20) fun M34 => (if ((M34 154 5) : Int) = (-1) then (bd2 (Mo_readsAll fu L M34 154) fun M37 r36 => (if (L (M34 154 12)).1 = 101 then (if (0 : Int) ≤ 3 ∧ 3 < (L (M34 154 12)).2 then (lt1 (mu M37 (M34 154 12) 3 r36) fun M41 => (bd1 (Mo_mustEnd fu L M41 154) fun M43 => (some (M43, (M43 154 5))))) else none) else none)) else (bd1 (Mo_mustEnd fu L M34 154) fun M45 => (some (M45, (M45 154 5)))))
theorem y_g3_f (hf : 42000 ≤ fu) (I : y_inv L M0 top) {w : Int} (hN : y_rm M0 N b) (hw : N 154 5 = w) (h : w ≠ -1) : ∃ N', y_g3 fu L N = some (N', w) ∧ y_mf N N' := by
  have wB := y_bd_ne hw h b
  refine ⟨y_bd N b, ?_, (y_mf.refl N).mu (by omega)⟩
  show bd1 _ _ = _
  rw [rm_mword_n (fu := fu) (s := 20) (by omega) I hN (by decide) (fun q => h (hw.symm.trans q.1)), bd1_some, if_neg (by rw [wB]; exact h), rm_mend_y I hN.bad (Or.inl (by rw [wB]; exact h)), bd1_some, wB]
theorem y_b61 (I : y_inv L M0 top) (hN : y_rm M0 N b) (y : Int) : Mo_readsGift_b61 fu L N 154 159 0 y = bd2 (Mo_takesLife fu L (mu N 159 0 y) 154) fun M28 r27 => lt1 (mu M28 159 1 r27) fun M32 => y_g3 fu L M32 := by
  have l4 : L 154 = (13, 0) := I.lay 154 (by decide)
  have l59 : L 159 = (101, 315) := I.lay 159 (by decide)
  have p12 : N 154 12 = 159 := (hN.ptr I) (154, 12, 159) (by decide +kernel)
  have q12 : mu N 159 0 y 154 12 = 159 := (mx_ne (by omega)).trans p12
  have g0 : (0 : Int) ≤ 0 ∧ (0 : Int) < ((101, 315) : Int × Int).2 := by decide
  unfold Mo_readsGift_b61
  rw [l59, if_pos rfl, if_pos g0, lt1_def, l4, if_pos rfl, q12, l59]
  rfl
theorem y_b61_f (hf : 42000 ≤ fu) (I : y_inv L M0 top) {w : Int} (hN : y_rm M0 N b) (hw : N 154 5 = w) (h : w ≠ -1) (y : Int) : ∃ N', Mo_readsGift_b61 fu L N 154 159 0 y = some (N', w) ∧ y_mf N N' := by
  have hN1 : y_rm M0 (mu N 159 0 y) b := y_rm_159 hN
  have w1 : mu N 159 0 y 154 5 = w := (mx_ne (by omega)).trans hw
  have wB := y_bd_ne w1 h b
  obtain ⟨N', e, m⟩ := y_g3_f (fu := fu) hf I (y_rm_159 (i := 1) (v := 0) hN1.bad) ((mx_ne (by omega)).trans wB) h
  refine ⟨N', ?_, (((y_mf.refl N).mu (by omega)).mu (by omega)).mu (by omega) |>.trans m⟩
  rw [y_b61 I hN, rm_tlife_n (by omega) I hN1 (fun q => h (w1.symm.trans q.1)), bd2_some, lt1_def, e]
abbrev y_g1 (fu : Nat) (L : zL) (M14 : zM) (y0 : Int) : Option (zM × Int) :=
  bd2 (Mo_takesWord fu L M14 154 18) fun M17 r16 => (if r16 = 0 then (bd2 (Mo_takesWord fu L M17 154 19) fun M20 r19 => (if r19 = 0 then Mo_readsGift_b61 fu L M20 154 y0 0 0 else Mo_readsGift_b61 fu L M20 154 y0 0 2)) else Mo_readsGift_b61 fu L M17 154 y0 0 1)
theorem y_g1_f (hf : 42000 ≤ fu) (I : y_inv L M0 top) {w : Int} (hN : y_rm M0 N b) (hw : N 154 5 = w) (h : w ≠ -1) : ∃ N', y_g1 fu L N 159 = some (N', w) ∧ y_mf N N' := by
  obtain ⟨N', e, m⟩ := y_b61_f (fu := fu) hf I hN hw h 0
  refine ⟨N', ?_, m⟩
  show bd2 _ _ = _
  rw [rm_tword_n (fu := fu) (s := 18) (by omega) I hN (by decide) (fun q => h (hw.symm.trans q.1)), bd2_some, if_pos rfl, rm_tword_n (fu := fu) (s := 19) (by omega) I hN (by decide) (fun q => h (hw.symm.trans q.1)), bd2_some, if_pos rfl, e]
/-- the words before the life -/
def y_tw (wh : Int) : List Int := if wh = 1 then [32, 99, 104, 105, 108, 100, 114, 101, 110] else if wh = 2 then [32, 103, 114, 97, 110, 100, 99, 104, 105, 108, 100, 114, 101, 110] else []
theorem y_whom (hf : 42000 ≤ fu) (I : y_inv L M0 top) {L' : zL} {top' : Int} (J : y_inv L' M0 top') (hr : y_rc M0 M b) (hl : 1 ≤ M 9 12 ∧ M 9 12 ≤ 2 * b) :
    ∃ M' wh b', Gr_readWhom fu L M 9 = Gr_readWhom_b36 fu L M' 9 ∧ (0 ≤ wh ∧ wh ≤ 2) ∧ M' 9 7 = wh ∧ y_tq M M' (y_tw wh) ∧ (∀ a i, ¬ (a = 2 ∧ 4 ≤ i ∧ i ≤ 7) → ¬ (a = 9 ∧ (i = 7 ∨ i = 12)) → a ≠ 15 → M' a i = M a i) ∧ y_rc M0 M' b' ∧ M' 9 12 ≤ 2 * b' ∧ b ≤ b' ∧
      ∀ N, y_rm M0 N b → N 154 5 = -1 → ∃ N', NOff N N' ∧ y_rm M0 N' b' ∧ y_g1 fu L' N 159 = Mo_readsGift_b61 fu L' N' 154 159 0 wh := by
  have l9 : L 9 = (5, 0) := I.lay 9 (by decide)
  have r97 : ∀ {T : zM} {v b' : Int}, y_rc M0 T b' → y_rc M0 (mu T 9 7 v) b' := fun {T v b'} h => by
    refine ⟨h.1.trans fun a i c => mx_ne (by omega), ?_⟩
    have t := h.2
    have e3 : mu T 9 7 v 3 = T 3 := funext fun i => mx_ne (by omega)
    unfold CTok at t ⊢
    rw [e3, mx_ne (by omega), mx_ne (by omega), mx_ne (by omega), mx_ne (by omega), mx_ne (by omega)]
    exact t
  have q97 : ∀ {A T : zM} {l : List Int} {v : Int}, y_tq A T l → y_tq A (mu T 9 7 v) l := fun {A T l v} h => ⟨(mx_ne (by omega)).trans h.1, fun x hx => (mx_ne (by omega)).trans (h.2.1 x hx), fun x hx => (mx_ne (by omega)).trans (h.2.2 x hx)⟩
  have h0 := r97 (v := 0) hr
  have e12 : mu M 9 7 0 9 12 = M 9 12 := mx_ne (by omega)
  have q0 : y_tq M (mu M 9 7 0) [] := q97 (y_tq.nil M)
  by_cases w2 : y_W M0 2 b
  · obtain ⟨M5, r1, r2, r3, r4, r5, r6⟩ := Gr_readWord_y (fu := fu) (s := 2) (by omega) I h0 (by decide) w2 (by omega)
    rw [if_pos (by omega)] at r2
    have x12 : mu M5 9 7 1 9 12 = M5 9 12 := mx_ne (by omega)
    refine ⟨mu M5 9 7 1, 1, y_nx M0 b, ?_, by omega, mx_same _ _ _ _, ?_, fun a i c1 c2 c3 => ?_, r97 r4, by omega, by omega, fun N hN hw => ?_⟩
    · unfold Gr_readWhom
      rw [l9, if_pos rfl, lt1_def, r1, bd2_some, if_neg (by decide), lt1_def]
    · exact q97 (q0.trans r2)
    · rw [mx_ne (by omega), r3 a i c1 (by omega) c3, mx_ne (by omega)]
    · obtain ⟨N', n1, n2, n3⟩ := rm_tword_y (fu := fu) (s := 18) (by omega) J hN hw (by decide) w2
      refine ⟨N', n2, n3, ?_⟩
      show bd2 _ _ = _
      rw [n1, bd2_some, if_neg (by decide)]
  have n2 := Gr_readWord_n (fu := fu) (s := 2) (by omega) I h0 (by decide) w2
  by_cases w3 : y_W M0 3 b
  · obtain ⟨M5, r1, r2, r3, r4, r5, r6⟩ := Gr_readWord_y (fu := fu) (s := 3) (by omega) I h0 (by decide) w3 (by omega)
    rw [if_pos (by omega)] at r2
    have x12 : mu M5 9 7 2 9 12 = M5 9 12 := mx_ne (by omega)
    refine ⟨mu M5 9 7 2, 2, y_nx M0 b, ?_, by omega, mx_same _ _ _ _, ?_, fun a i c1 c2 c3 => ?_, r97 r4, by omega, by omega, fun N hN hw => ?_⟩
    · unfold Gr_readWhom
      rw [l9, if_pos rfl, lt1_def, n2, bd2_some, if_pos rfl, r1, bd2_some, if_neg (by decide), lt1_def]
    · exact q97 (q0.trans r2)
    · rw [mx_ne (by omega), r3 a i c1 (by omega) c3, mx_ne (by omega)]
    · obtain ⟨N', m1, m2, m3⟩ := rm_tword_y (fu := fu) (s := 19) (by omega) J hN hw (by decide) w3
      refine ⟨N', m2, m3, ?_⟩
      show bd2 _ _ = _
      rw [rm_tword_n (fu := fu) (s := 18) (by omega) J hN (by decide) (fun q => w2 q.2), bd2_some, if_pos rfl, m1, bd2_some, if_neg (by decide)]
  · refine ⟨mu M 9 7 0, 0, b, ?_, by omega, mx_same _ _ _ _, q0, fun a i c1 c2 c3 => mx_ne (by omega), h0, by omega, by omega, fun N hN hw => ?_⟩
    · unfold Gr_readWhom
      rw [l9, if_pos rfl, lt1_def, n2, bd2_some, if_pos rfl, Gr_readWord_n (fu := fu) (s := 3) (by omega) I h0 (by decide) w3, bd2_some, if_pos rfl]
    · refine ⟨N, fun _ _ _ => rfl, hN, ?_⟩
      show bd2 _ _ = _
      rw [rm_tword_n (fu := fu) (s := 18) (by omega) J hN (by decide) (fun q => w2 q.2), bd2_some, if_pos rfl, rm_tword_n (fu := fu) (s := 19) (by omega) J hN (by decide) (fun q => w3 q.2), bd2_some, if_pos rfl]
end
