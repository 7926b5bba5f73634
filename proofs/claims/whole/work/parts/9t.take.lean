/-! ===== pure: part 9t: the class takes a part of the tape and writes it ===== -/
/-- l is written behind what stands -/
def y_tq (M M' : zM) (l : List Int) : Prop := M' 9 12 = M 9 12 + l.length ∧ (∀ x, x < M 9 12 → M' 15 x = M 15 x) ∧ ∀ x : Nat, x < l.length → M' 15 (M 9 12 + x) = l.getD x 0
/-- all else stays, the tape's place aside -/
def y_tf (M M' : zM) : Prop := ∀ a i, ¬ (a = 2 ∧ 4 ≤ i ∧ i ≤ 7) → ¬ (a = 9 ∧ i = 12) → a ≠ 15 → M' a i = M a i
def y_by (f : Int → Int) : Nat → Int → List Int
  | 0, _ => []
  | k + 1, i => f i :: y_by f k (i + 1)
theorem y_by_len (f : Int → Int) : ∀ (k : Nat) (i : Int), (y_by f k i).length = k
  | 0, _ => rfl
  | k + 1, i => congrArg (· + 1) (y_by_len f k (i + 1))
theorem y_tf.refl (M : zM) : y_tf M M := fun _ _ _ _ _ => rfl
theorem y_tf.trans {A B C : zM} (h : y_tf A B) (h2 : y_tf B C) : y_tf A C := fun a i q1 q2 q3 => (h2 a i q1 q2 q3).trans (h a i q1 q2 q3)
theorem y_tf.off {A B : zM} (h : y_tf A B) : y_off A B := fun a i c => h a i (by omega) (by omega) (by omega)
theorem COff.tf {A B : zM} (h : COff A B) : y_tf A B := fun a i q _ _ => h a i (by omega)
theorem y_tq.nil (M : zM) : y_tq M M [] := ⟨by show _ = _ + 0; omega, fun _ _ => rfl, fun x hx => absurd hx (Nat.not_lt_zero _)⟩
theorem y_tq.trans {A B C : zM} {l k : List Int} (h : y_tq A B l) (h2 : y_tq B C k) : y_tq A C (l ++ k) := by
  obtain ⟨a1, a2, a3⟩ := h
  obtain ⟨b1, b2, b3⟩ := h2
  have hl : ((l ++ k).length : Int) = l.length + k.length := by rw [List.length_append]; omega
  refine ⟨by omega, fun x hx => (b2 x (by omega)).trans (a2 x hx), fun x hx => ?_⟩
  by_cases c : x < l.length
  · rw [b2 _ (by omega), a3 x c, List.getD_eq_getElem?_getD, List.getD_eq_getElem?_getD, List.getElem?_append_left c]
  · have e : A 9 12 + (x : Int) = B 9 12 + ((x - l.length : Nat) : Int) := by omega
    rw [e, b3 _ (by rw [List.length_append] at hx; omega), List.getD_eq_getElem?_getD, List.getD_eq_getElem?_getD, List.getElem?_append_right (by omega)]
theorem y_tq.tok {A B C : zM} {l : List Int} (h : y_tq A B l) (h2 : COff B C) : y_tq A C l := by
  obtain ⟨a1, a2, a3⟩ := h
  exact ⟨(h2 _ _ (by omega)).trans a1, fun x hx => (h2 _ _ (by omega)).trans (a2 x hx), fun x hx => (h2 _ _ (by omega)).trans (a3 x hx)⟩
theorem tkE_gt {f : Int → Int} {n b : Int} (h : b < n) : b < tkE f n b := by
  unfold tkE
  rw [if_pos h]
  by_cases c : isS (f b) = true
  · rw [if_pos c]
    show b < wh isS f n (300 + 1) b
    unfold wh
    rw [if_pos ⟨h, c⟩]
    exact Int.lt_of_lt_of_le (show b < b + 1 by omega) (wh_ge isS f n 300 (b + 1))
  · rw [if_neg c]
    by_cases d : isD (f b) = true
    · rw [if_pos d]
      show b < wh isD f n (300 + 1) b
      unfold wh
      rw [if_pos ⟨h, d⟩]
      exact Int.lt_of_lt_of_le (show b < b + 1 by omega) (wh_ge isD f n 300 (b + 1))
    · rw [if_neg d]; omega
section
variable {fu : Nat} {L : zL} {M0 M N : zM} {top b : Int}
theorem y_rc.wf {M' : zM} (h : y_rc M0 M b) (o : ∀ a i, ¬ (a = 9 ∧ i = 12) → a ≠ 15 → M' a i = M a i) : y_rc M0 M' b := by
  refine ⟨h.1.trans fun a i c => o a i (by omega) (by omega), ?_⟩
  have t := h.2
  have e3 : M' 3 = M 3 := funext fun i => o 3 i (by omega) (by omega)
  unfold CTok at t ⊢
  rw [e3, o 2 _ (by omega) (by omega), o 2 _ (by omega) (by omega), o 2 _ (by omega) (by omega), o 2 _ (by omega) (by omega), o 2 _ (by omega) (by omega)]
  exact t
theorem Gr_write_y (hL : Lay L) (hP : Ptr M) (h : 0 ≤ M 9 12 ∧ M 9 12 < 600) (v : Int) : ∃ M', Gr_write fu L M 9 v = some M' ∧ y_tq M M' [v] ∧ ∀ a i, ¬ (a = 9 ∧ i = 12) → a ≠ 15 → M' a i = M a i := by
  have l9 : L 9 = (5, 0) := hL 9 (by decide)
  have l15 : L 15 = (101, 600) := hL 15 (by decide)
  have p6 : M 9 6 = 15 := hP (9, 6, 15) (by decide +kernel)
  have e : mu M 15 (M 9 12) v 9 12 = M 9 12 := mx_ne (by omega)
  refine ⟨mu (mu M 15 (M 9 12) v) 9 12 (M 9 12 + 1), ?_, ⟨?_, fun x hx => ?_, fun x hx => ?_⟩, fun a i q1 q2 => ?_⟩
  · unfold Gr_write
    rw [l9, if_pos rfl, if_neg (by omega), p6, l15, if_pos rfl, if_pos (show M 9 12 < ((101, 600) : Int × Int).2 from h.2), if_pos (show 0 ≤ M 9 12 ∧ M 9 12 < ((101, 600) : Int × Int).2 from h), lt1_def, e, w32_id (by omega), lt1_def]
  · rw [mx_same]; rfl
  · rw [mx_ne (by omega), mx_ne (by omega)]
  · have hx' : x < 1 := hx
    have x0 : x = 0 := by omega
    subst x0
    rw [mx_ne (by omega), show M 9 12 + ((0 : Nat) : Int) = M 9 12 by omega, mx_same]; rfl
  · rw [mx_ne (by omega), mx_ne (by omega)]
theorem Gr_take_l (hf : 400 ≤ fu) (I : y_inv L M0 top) : ∀ (k n : Nat) (x : Int) (M : zM), x + k = M 2 6 → k < n → y_rc M0 M b → b ≤ x → 0 ≤ M 9 12 → M 9 12 + k ≤ 600 → ∃ M', Gr_take_l46 fu L n M 9 x = some M' ∧ y_tq M M' (y_by (M0 3) k x) ∧ y_tf M M' ∧ y_rc M0 M' (y_nx M0 b) := by
  have l9 : L 9 = (5, 0) := I.lay 9 (by decide)
  have l2 : L 2 = (8, 0) := I.lay 2 (by decide)
  intro k
  induction k with
  | zero =>
    intro n x M hx hn h hb h0 h6
    obtain ⟨n, rfl⟩ : ∃ n', n = n' + 1 := ⟨n - 1, by omega⟩
    have p0 : M 9 0 = 2 := (h.ptr I) (9, 0, 2) (by decide +kernel)
    obtain ⟨M', a1, a2, a3⟩ := rc_step (fu := fu) hf I h
    refine ⟨M', ?_, (y_tq.nil M).tok a2, a2.tf, a3⟩
    show Gr_take_s46 _ _ _ _ _ _ = _
    unfold Gr_take_s46
    rw [l9, if_pos rfl, p0, l2, if_pos rfl, if_neg (by omega), a1, bd1_some]
  | succ k ih =>
    intro n x M hx hn h hb h0 h6
    obtain ⟨n, rfl⟩ : ∃ n', n = n' + 1 := ⟨n - 1, by omega⟩
    have p0 : M 9 0 = 2 := (h.ptr I) (9, 0, 2) (by decide +kernel)
    have b0 := h.pb
    have e6 : M 2 6 = tkE (M 3) (M 2 2) b := h.2.2.2.2.2.1
    have e1 := tkE_le (f := M 3) h.2.2.1
    obtain ⟨A, a1, a2, a3⟩ := Gr_write_y (fu := fu) I.lay (h.ptr I) (show 0 ≤ M 9 12 ∧ M 9 12 < 600 by omega) (M 3 x)
    obtain ⟨M', c1, c2, c3, c4⟩ := ih n (x + 1) A (by rw [a3 2 6 (by omega) (by omega)]; omega) (by omega) (h.wf a3) (by omega) (by rw [a2.1]; show 0 ≤ M 9 12 + 1; omega) (by rw [a2.1]; show M 9 12 + 1 + k ≤ 600; omega)
    have hat : Tp_at fu L M 2 x = some (M 3 x) := by
      rw [Tp_at_ok I.lay (h.ptr I) (h.tap I).2.1 (by omega), if_pos (by omega)]
    refine ⟨M', ?_, ?_, ?_, c4⟩
    · have ew : w32 (x + 1) = x + 1 := w32_id (by have := (h.tap I).2.1; omega)
      show Gr_take_s46 _ _ _ _ _ _ = _
      unfold Gr_take_s46
      rw [l9, if_pos rfl, p0, l2, if_pos rfl, if_pos (by omega), hat, bd1_some, a1, bd1_some, lt1_def, ew, c1]
    · have z := a2.trans c2
      rw [h.f] at z
      exact z
    · exact (show y_tf M A from fun a i _ q2 q3 => a3 a i q2 q3).trans c3
/-- what a part is written as -/
def y_pt (M0 : zM) (b : Int) : List Int := if y_K M0 b = 2 then y_num (y_V M0 b) else y_by (M0 3) (tkE (M0 3) (M0 2 2) b - b).toNat b
theorem Gr_take_y (hf : 700 ≤ fu) (I : y_inv L M0 top) (h : y_rc M0 M b) (hK : y_K M0 b ≠ 0) (hN : y_K M0 b = 2 → y_N M0 99 b) (hl : 0 ≤ M 9 12 ∧ M 9 12 ≤ 2 * b) :
    ∃ M', Gr_take fu L M 9 = some M' ∧ y_tq M M' ((if 0 < M 9 12 then [32] else []) ++ y_pt M0 b) ∧ y_tf M M' ∧ y_rc M0 M' (y_nx M0 b) ∧ (M 9 12 + 1 ≤ M' 9 12 ∧ M' 9 12 ≤ 2 * y_nx M0 b) ∧ b < y_nx M0 b := by
  have l9 : L 9 = (5, 0) := I.lay 9 (by decide)
  have l2 : L 2 = (8, 0) := I.lay 2 (by decide)
  have bb := h.pb
  have n3 := I.2.1.1.2.1
  have hbn : b < M0 2 2 := tkK_lt (f := M0 3) hK
  have eg := tkE_gt (f := M0 3) hbn
  have el := tkE_le (f := M0 3) (n := M0 2 2) (b := b) bb.2
  have nx : tkE (M0 3) (M0 2 2) b ≤ y_nx M0 b := tkB_ge
  obtain ⟨E, hE⟩ : ∃ E, E = tkE (M0 3) (M0 2 2) b := ⟨_, rfl⟩
  rw [← hE] at eg el nx
  -- behind the blank
  have rest : ∀ A : zM, y_rc M0 A b → 0 ≤ A 9 12 → A 9 12 ≤ 2 * b + 1 → ∃ M', Gr_take_b13 fu L A 9 = some M' ∧ y_tq A M' (y_pt M0 b) ∧ y_tf A M' ∧ y_rc M0 M' (y_nx M0 b) ∧ (A 9 12 + 1 ≤ M' 9 12 ∧ M' 9 12 ≤ A 9 12 + (E - b)) := by
    intro A hA h0 h1
    have p0 : A 9 0 = 2 := (hA.ptr I) (9, 0, 2) (by decide +kernel)
    have k4 : A 2 4 = y_K M0 b := by
      have := hA.2.2.2.2.1
      rw [this, hA.f, hA.n]
    have k5 : A 2 5 = b := hA.2.2.2.1
    have k6 : A 2 6 = E := by
      have := hA.2.2.2.2.2.1
      rw [this, hA.f, hA.n, hE]
    unfold Gr_take_b13 y_pt
    rw [l9, if_pos rfl, p0, l2, if_pos rfl, k4]
    by_cases c : y_K M0 b = 2
    · rw [if_pos c, if_pos c]
      have hn := of_decide_eq_true (hN c)
      have vb := tkV_b hn.1 hn.2.1
      obtain ⟨V, hV⟩ : ∃ V, V = y_V M0 b := ⟨_, rfl⟩
      have k7 : A 2 7 = V := by
        have := hA.2.2.2.2.2.2
        rw [this, hA.f, hA.n, if_pos ⟨hn.1, hn.2.1⟩, hV]
      have v0 : 0 ≤ V ∧ V ≤ 99 := by rw [hV]; exact ⟨vb.1, hn.2.2⟩
      have v9 : 10 ≤ V → b + 2 ≤ E := fun hv => by
        by_cases z : E = b + 1
        · have hk : (tkE (M0 3) (M0 2 2) b - b).toNat = 1 := by rw [← hE]; omega
          have hd : isD (M0 3 b) = true := by
            have hk2 := hn.1
            unfold tkK at hk2
            rw [if_pos hbn] at hk2
            by_cases s1 : isS (M0 3 b) = true
            · rw [if_pos s1] at hk2; omega
            · rw [if_neg s1] at hk2
              by_cases s2 : isD (M0 3 b) = true
              · exact s2
              · rw [if_neg s2] at hk2; omega
          have hd2 := of_decide_eq_true hd
          have e9 : V = 0 * 10 + M0 3 b - 48 := by
            rw [hV]
            show tkV (M0 3) (M0 2 2) b = _
            unfold tkV
            rw [hk]; rfl
          omega
        · omega
      rw [← hV, k7]
      have em0 : w32 (V % 10) = V % 10 := w32_id (by omega)
      have em : w32 (48 + w32 (Int.tmod V 10)) = 48 + V % 10 := by rw [Int.tmod_eq_emod_of_nonneg v0.1, em0, w32_id (by omega)]
      have ed0 : w32 (V / 10) = V / 10 := w32_id (by omega)
      have ed : w32 (48 + w32 (Int.tdiv V 10)) = 48 + V / 10 := by rw [Int.tdiv_eq_ediv_of_nonneg v0.1, ed0, w32_id (by omega)]
      have fin : ∀ (B : zM) (l : List Int), Gr_writeNumber fu L A 9 V = some B → y_tq A B l → (∀ a i, ¬ (a = 9 ∧ i = 12) → a ≠ 15 → B a i = A a i) → 1 ≤ l.length → (l.length : Int) ≤ E - b → ∃ M', (bd1 (Gr_writeNumber fu L A 9 V) fun M6 => (if (L (M6 9 0)).1 = 8 then (bd1 (Tp_advance fu L M6 (M6 9 0)) fun M9 => (some M9)) else none)) = some M' ∧ y_tq A M' l ∧ y_tf A M' ∧ y_rc M0 M' (y_nx M0 b) ∧ (A 9 12 + 1 ≤ M' 9 12 ∧ M' 9 12 ≤ A 9 12 + (E - b)) := by
        intro B l hw ht hfr l1 l2'
        have hB := hA.wf hfr
        have q0 : B 9 0 = 2 := (hB.ptr I) (9, 0, 2) (by decide +kernel)
        obtain ⟨M', a1, a2, a3⟩ := rc_step (fu := fu) (by omega) I hB
        refine ⟨M', by rw [hw, bd1_some, q0, l2, if_pos rfl, a1, bd1_some], ht.tok a2, (show y_tf A B from fun a i _ q2 q3 => hfr a i q2 q3).trans a2.tf, a3, ?_⟩
        have := (ht.tok a2).1
        omega
      unfold y_num
      by_cases c10 : 10 ≤ V
      · obtain ⟨B1, b1, b2, b3⟩ := Gr_write_y (fu := fu) I.lay (hA.ptr I) (show 0 ≤ A 9 12 ∧ A 9 12 < 600 by omega) (48 + V / 10)
        have hB1 := hA.wf b3
        have t1 : B1 9 12 = A 9 12 + 1 := b2.1
        obtain ⟨B2, d1, d2, d3⟩ := Gr_write_y (fu := fu) I.lay (hB1.ptr I) (show 0 ≤ B1 9 12 ∧ B1 9 12 < 600 by omega) (48 + V % 10)
        rw [if_pos c10]
        refine fin B2 _ ?_ (b2.trans d2) (fun a i q1 q2 => (d3 a i q1 q2).trans (b3 a i q1 q2)) (Nat.le_of_ble_eq_true rfl) (by have := v9 c10; show (2 : Int) ≤ E - b; omega)
        unfold Gr_writeNumber Gr_writeNumber_b17
        rw [if_neg (show ¬ V < 10 by omega), l9, if_pos rfl, ed, b1, bd1_some, if_pos rfl, em, d1, bd1_some]
      · obtain ⟨B1, b1, b2, b3⟩ := Gr_write_y (fu := fu) I.lay (hA.ptr I) (show 0 ≤ A 9 12 ∧ A 9 12 < 600 by omega) (48 + V % 10)
        rw [if_neg c10]
        refine fin B1 _ ?_ b2 b3 (Nat.le_of_ble_eq_true rfl) (by show (1 : Int) ≤ E - b; omega)
        unfold Gr_writeNumber Gr_writeNumber_b17
        rw [if_pos (show V < 10 by omega), l9, if_pos rfl, em, b1, bd1_some]
    · rw [if_neg c, if_neg c, lt1_def, k5]
      obtain ⟨M', a1, a2, a3, a4⟩ := Gr_take_l (fu := fu) (by omega) I (E - b).toNat fu b A (by omega) (by omega) hA (Int.le_refl b) h0 (by omega)
      rw [← hE]
      refine ⟨M', a1, a2, a3, a4, ?_⟩
      have := a2.1
      rw [y_by_len] at this
      omega
  unfold Gr_take
  rw [l9, if_pos rfl]
  by_cases c : 0 < M 9 12
  · rw [if_pos c, if_pos c]
    obtain ⟨A, a1, a2, a3⟩ := Gr_write_y (fu := fu) I.lay (h.ptr I) (show 0 ≤ M 9 12 ∧ M 9 12 < 600 by omega) 32
    have t1 : A 9 12 = M 9 12 + 1 := a2.1
    obtain ⟨M', r1, r2, r3, r4, r5⟩ := rest A (h.wf a3) (by omega) (by omega)
    rw [a1, bd1_some]
    exact ⟨M', r1, a2.trans r2, (show y_tf M A from fun a i _ q2 q3 => a3 a i q2 q3).trans r3, r4, by omega, by omega⟩
  · rw [if_neg c, if_neg c]
    obtain ⟨M', r1, r2, r3, r4, r5⟩ := rest M h hl.1 (by omega)
    exact ⟨M', r1, r2, r3, r4, by omega, by omega⟩
/-- a word's bytes -/
theorem y_eqs_by {f : Int → Int} : ∀ (l : List Nat) (i : Int), eqs f i l = true → y_by f l.length i = l.map (fun (c : Nat) => (c : Int))
  | [], _, _ => rfl
  | c :: cs, i, h => by
    unfold eqs at h
    have h1 := Bool.and_eq_true_iff.mp h
    show f i :: y_by f cs.length (i + 1) = (c : Int) :: cs.map _
    rw [of_decide_eq_true h1.1, y_eqs_by cs (i + 1) h1.2]
theorem y_pt_w {s : Nat} (h : y_W M0 s b) : y_K M0 b = 1 ∧ y_pt M0 b = (zstr.getD s []).map (fun (c : Nat) => (c : Int)) := by
  have h1 := Bool.and_eq_true_iff.mp h
  have h2 := Bool.and_eq_true_iff.mp h1.2
  have k1 := of_decide_eq_true h1.1
  have k2 := of_decide_eq_true h2.1
  have kk : y_K M0 b = 1 := k1
  refine ⟨k1, ?_⟩
  unfold y_pt
  rw [if_neg (by omega), k2, Int.toNat_natCast]
  exact y_eqs_by _ _ h2.2
theorem y_pt_g {c : Int} (h : y_G M0 c b) : y_K M0 b = 3 ∧ y_pt M0 b = [c] := by
  have hh := of_decide_eq_true h
  have kk : y_K M0 b = 3 := hh.1
  have hlt := tkK_lt (f := M0 3) (n := M0 2 2) (b := b) (by omega)
  refine ⟨kk, ?_⟩
  have e1 : tkE (M0 3) (M0 2 2) b = b + 1 := by
    have k3 := hh.1
    unfold tkK at k3
    unfold tkE
    rw [if_pos hlt] at k3 ⊢
    by_cases s1 : isS (M0 3 b) = true
    · rw [if_pos s1] at k3; omega
    · rw [if_neg s1] at k3 ⊢
      by_cases s2 : isD (M0 3 b) = true
      · rw [if_pos s2] at k3; omega
      · rw [if_neg s2]
  unfold y_pt
  rw [if_neg (by omega), e1, show (b + 1 - b).toNat = 1 by omega]
  show [M0 3 b] = [c]
  rw [hh.2]
theorem y_pt_n (h : y_N M0 99 b) : y_K M0 b = 2 ∧ y_pt M0 b = y_num (y_V M0 b) := by
  have hh := of_decide_eq_true h
  have kk : y_K M0 b = 2 := hh.1
  exact ⟨kk, if_pos kk⟩
theorem y_pt_l (I : y_inv L M0 top) (h : y_lf M0 b ≠ -1) : y_K M0 b = 1 ∧ y_pt M0 b = [97 + M0 163 (y_lf M0 b)] := by
  have hn := I.2.2.1
  have w8 := I.wv.1
  rcases fnd_r (M0 4) (ltr (M0 3) (M0 2 2) b) (M0 2 3).toNat 0 with c | ⟨c1, c2, c3⟩
  · exact absurd c h
  · have hr := hn.2 (y_lf M0 b) c1 (by unfold y_lf; omega)
    have e : M0 4 (y_lf M0 b) = ltr (M0 3) (M0 2 2) b := c3
    have hl := ltr_b (f := M0 3) (n := M0 2 2) (b := b) (by omega)
    have kk : y_K M0 b = 1 := hl.1
    refine ⟨kk, ?_⟩
    unfold y_pt
    rw [if_neg (by omega), show (tkE (M0 3) (M0 2 2) b - b).toNat = 1 by omega]
    show [M0 3 b] = _
    have e2 : ltr (M0 3) (M0 2 2) b = M0 3 b := by unfold ltr; rw [if_pos ⟨hl.1, hl.2.1⟩]
    congr 1
    omega
end
