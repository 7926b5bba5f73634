/-! ===== pure: part 9a: both readers in step ===== -/
/-- the class, the model read what M0 holds, and stand at b -/
def y_rc (M0 M : zM) (b : Int) : Prop := y_off M0 M ∧ CTok M b
/-- what the model has beside M0's is what M0 has -/
def y_ofm (M0 N : zM) : Prop := Ptr N ∧ ∀ a i, 154 ≤ a → a < 171 → ¬ y_scr a i → N a i = M0 a i
def y_rm (M0 N : zM) (b : Int) : Prop := y_ofm M0 N ∧ MTok N b
theorem y_ofm.trans {M0 N T : zM} (h : y_ofm M0 N) (o : y_off N T) : y_ofm M0 T := ⟨o.ptr h.1, fun a i c1 c2 c => (o a i c).trans (h.2 a i c1 c2 c)⟩
theorem y_ofm.mu {M0 N : zM} (h : y_ofm M0 N) {a i v : Int} (c : y_scr a i) : y_ofm M0 (mu N a i v) := h.trans ((y_off.refl N).mu c)
abbrev y_W (M0 : zM) (s : Nat) (b : Int) : Prop := isW s (M0 3) (M0 2 2) b = true
abbrev y_G (M0 : zM) (c b : Int) : Prop := isG c (M0 3) (M0 2 2) b = true
abbrev y_N (M0 : zM) (m b : Int) : Prop := isN m (M0 3) (M0 2 2) b = true
abbrev y_K (M0 : zM) (b : Int) : Int := tkK (M0 3) (M0 2 2) b
abbrev y_V (M0 : zM) (b : Int) : Int := tkV (M0 3) (M0 2 2) b
abbrev y_nx (M0 : zM) (b : Int) : Int := nxt (M0 3) (M0 2 2) b
/-- the LIFE whose NAME stands at b, or -1 -/
def y_lf (M0 : zM) (b : Int) : Int := fnd (M0 4) (ltr (M0 3) (M0 2 2) b) (M0 2 3).toNat 0
section
variable {fu : Nat} {L : zL} {M0 M N : zM} {top b : Int}
theorem COff.off {M M' : zM} (h : COff M M') : y_off M M' := fun a i c => h a i (by omega)
theorem NOff.off {M M' : zM} (h : NOff M M') : y_off M M' := fun a i c => h a i (by omega)
theorem y_rc.f (h : y_rc M0 M b) : M 3 = M0 3 := h.1.row fun i => by omega
theorem y_rc.n (h : y_rc M0 M b) : M 2 2 = M0 2 2 := h.1 _ _ (by omega)
theorem y_off.ofm (I : y_inv L M0 top) (o : y_off M0 N) : y_ofm M0 N := ⟨o.ptr I.ptr, fun a i _ _ c => o a i c⟩
theorem y_rm.f (h : y_rm M0 N b) : N 155 = M0 155 := funext fun i => h.1.2 155 i (by decide) (by decide) (by omega)
theorem y_rm.n (I : y_inv L M0 top) (h : y_rm M0 N b) : N 154 2 = M0 2 2 := (h.1.2 154 2 (by decide) (by decide) (by omega)).trans I.2.1.2.1
theorem y_rc.tap (I : y_inv L M0 top) (h : y_rc M0 M b) : TapC M := by
  have := I.2.1.1
  unfold TapC at this ⊢
  rw [h.f, h.n]; exact this
theorem y_alk (I : y_inv L M0 top) : ∀ i, 0 ≤ i → i < M0 2 2 → M0 155 i = M0 3 i := fun i i0 i1 => (I.2.1.2.2 i i0 i1).symm
theorem y_rm.tap (I : y_inv L M0 top) (h : y_rm M0 N b) : TapM N := by
  have t := I.2.1.1
  have a := y_alk I
  unfold TapC at t
  unfold TapM
  rw [h.f, h.n I]
  exact ⟨t.1, t.2.1, fun i i0 i1 => by rw [a i i0 i1]; exact t.2.2 i i0 i1⟩
theorem y_rc.ptr (I : y_inv L M0 top) (h : y_rc M0 M b) : Ptr M := h.1.ptr I.ptr
theorem y_rm.ptr (_I : y_inv L M0 top) (h : y_rm M0 N b) : Ptr N := h.1.1
theorem y_rc.pb (h : y_rc M0 M b) : 0 ≤ b ∧ b ≤ M0 2 2 := ⟨h.2.1, by rw [← h.n]; exact h.2.2.1⟩
theorem y_rm.pb (I : y_inv L M0 top) (h : y_rm M0 N b) : 0 ≤ b ∧ b ≤ M0 2 2 := ⟨h.2.1, by rw [← h.n I]; exact h.2.2.1⟩
theorem y_rm.w (I : y_inv L M0 top) (h : y_rm M0 N b) (s : Nat) : isW s (N 155) (N 154 2) b = isW s (M0 3) (M0 2 2) b := by
  rw [h.f, h.n I]; exact isW_congr (y_alk I) (h.pb I).1 (h.pb I).2 s
theorem y_rm.g (I : y_inv L M0 top) (h : y_rm M0 N b) (c : Int) : isG c (N 155) (N 154 2) b = isG c (M0 3) (M0 2 2) b := by
  rw [h.f, h.n I]; exact isG_congr (y_alk I) (h.pb I).1 c
theorem y_rm.nm (I : y_inv L M0 top) (h : y_rm M0 N b) (m : Int) : isN m (N 155) (N 154 2) b = isN m (M0 3) (M0 2 2) b := by
  rw [h.f, h.n I]; exact isN_congr (y_alk I) (h.pb I).1 (h.pb I).2 m
theorem y_rm.k (I : y_inv L M0 top) (h : y_rm M0 N b) : tkK (N 155) (N 154 2) b = y_K M0 b := by
  rw [h.f, h.n I]; exact tkK_congr (y_alk I) (h.pb I).1
theorem y_rm.v (I : y_inv L M0 top) (h : y_rm M0 N b) : tkV (N 155) (N 154 2) b = y_V M0 b := by
  rw [h.f, h.n I]; exact tkV_congr (y_alk I) (h.pb I).1 (h.pb I).2
theorem y_rm.x (I : y_inv L M0 top) (h : y_rm M0 N b) : nxt (N 155) (N 154 2) b = y_nx M0 b := by
  rw [h.f, h.n I]; exact nxt_congr (y_alk I) (h.pb I).1 (h.pb I).2
theorem y_rm.l (I : y_inv L M0 top) (h : y_rm M0 N b) : ltr (N 155) (N 154 2) b = ltr (M0 3) (M0 2 2) b := by
  rw [h.f, h.n I]; exact ltr_congr (y_alk I) (h.pb I).1
/-- the class -/
theorem rc_word (hf : 400 ≤ fu) (I : y_inv L M0 top) (h : y_rc M0 M b) {s : Nat} (hs : s < zstr.length) : Tp_isWord fu L M 2 s = some (if y_W M0 s b then 1 else 0) := by
  rw [Tp_isWord_ok hf I.lay (h.ptr I) (h.tap I) h.2 hs, h.f, h.n]
theorem rc_sign (I : y_inv L M0 top) (h : y_rc M0 M b) (c : Int) : Tp_isSign fu L M 2 c = some (if y_G M0 c b then 1 else 0) := by
  rw [Tp_isSign_ok I.lay (h.ptr I) (h.tap I) h.2 c, h.f, h.n]
theorem rc_over (I : y_inv L M0 top) (h : y_rc M0 M b) : Tp_isOver fu L M 2 = some (if y_K M0 b = 0 then 1 else 0) := by
  rw [Tp_isOver_ok I.lay h.2, h.f, h.n]
theorem rc_num (I : y_inv L M0 top) (h : y_rc M0 M b) {lo m : Int} (hlo : 0 ≤ lo) (hm : 0 ≤ m) : Tp_isNumber fu L M 2 lo m = some (if y_N M0 m b ∧ lo ≤ y_V M0 b then 1 else 0) ∧ (y_N M0 m b → M 2 7 = y_V M0 b) := by
  have l2 : L 2 = (8, 0) := I.lay 2 (by decide)
  have hn := Tp_isNumber_ok (fu := fu) I.lay h.2 (m := m) hm
  rw [h.f, h.n] at hn
  refine ⟨?_, hn.2⟩
  have h1 := hn.1
  have h2 := hn.2
  unfold Tp_isNumber at h1 ⊢
  rw [l2, if_pos rfl] at h1 ⊢
  by_cases c : y_N M0 m b
  · rw [if_pos c] at h1
    have e := h2 c
    have v9 := (of_decide_eq_true c).2.2
    rw [e] at h1 ⊢
    by_cases k : M 2 4 = 2
    · rw [if_pos k] at h1 ⊢
      by_cases c1 : y_V M0 b < lo
      · rw [if_pos c1, if_neg (show ¬ (y_N M0 m b ∧ lo ≤ y_V M0 b) by omega)]
      · rw [if_neg c1, if_neg (show ¬ m < tkV (M0 3) (M0 2 2) b by omega), if_pos (show y_N M0 m b ∧ lo ≤ y_V M0 b from ⟨c, by omega⟩)]
    · rw [if_neg k] at h1; exact absurd (Option.some.inj h1) (by decide)
  · rw [if_neg c] at h1
    have cc : ¬ (y_N M0 m b ∧ lo ≤ y_V M0 b) := fun z => c z.1
    by_cases k : M 2 4 = 2
    · rw [if_pos k] at h1 ⊢
      by_cases c1 : M 2 7 < lo
      · rw [if_pos c1, if_neg cc]
      · rw [if_neg (show ¬ M 2 7 < 0 by omega)] at h1
        rw [if_neg c1, h1, if_neg cc]
    · rw [if_neg k, if_neg cc]
theorem rc_step (hf : 400 ≤ fu) (I : y_inv L M0 top) (h : y_rc M0 M b) : ∃ M', Tp_advance fu L M 2 = some M' ∧ COff M M' ∧ y_rc M0 M' (y_nx M0 b) := by
  obtain ⟨M', a1, a2, a3⟩ := Tp_step hf I.lay (h.ptr I) (h.tap I) h.2
  rw [h.f, h.n] at a3
  exact ⟨M', a1, a2, h.1.trans a2.off, a3⟩
theorem y_lf_r (I : y_inv L M0 top) (b : Int) : y_lf M0 b = -1 ∨ (0 ≤ y_lf M0 b ∧ y_lf M0 b < M0 154 20) := by
  have h := I.2.2.1.1
  have w := I.wv.1
  rcases fnd_r (M0 4) (ltr (M0 3) (M0 2 2) b) (M0 2 3).toNat 0 with c | c
  · exact Or.inl c
  · refine Or.inr ?_
    unfold y_lf
    omega
theorem rc_life (hf : 400 ≤ fu) (I : y_inv L M0 top) (h : y_rc M0 M b) : Tp_lifeNamed fu L M 2 = some (y_lf M0 b) := by
  have l2 : L 2 = (8, 0) := I.lay 2 (by decide)
  have l4 : L 4 = (101, 8) := I.lay 4 (by decide)
  have p : M 2 1 = 4 := (h.ptr I) (2, 1, 4) (by decide +kernel)
  have e3 : M 2 3 = M0 2 3 := h.1 _ _ (by omega)
  have e4 : M 4 = M0 4 := h.1.row fun i => by omega
  have h8 := I.wv.1
  have hv := I.2.2.1.1
  have key : ∀ (c : Int) (k n : Nat) (i : Int), 0 ≤ i → M0 2 3 - i = k → k < n → Tp_lifeNamed_l7 fu L n M 2 c i = some (fnd (M0 4) c k i) := by
    intro c k
    induction k with
    | zero =>
      intro n i i0 hk hn
      obtain ⟨n, rfl⟩ : ∃ n', n = n' + 1 := ⟨n - 1, by omega⟩
      show Tp_lifeNamed_s7 _ _ _ _ _ _ _ = _
      unfold Tp_lifeNamed_s7
      rw [l2, if_pos rfl, e3, if_neg (by omega)]; rfl
    | succ k ih =>
      intro n i i0 hk hn
      obtain ⟨n, rfl⟩ : ∃ n', n = n' + 1 := ⟨n - 1, by omega⟩
      show Tp_lifeNamed_s7 _ _ _ _ _ _ _ = _
      unfold Tp_lifeNamed_s7 fnd
      rw [l2, if_pos rfl, e3, if_pos (by omega), p, l4, if_pos rfl, if_pos (show i < ((101, 8) : Int × Int).2 by show i < 8; omega), if_pos (show 0 ≤ i ∧ i < ((101, 8) : Int × Int).2 by show 0 ≤ i ∧ i < 8; omega), e4]
      by_cases hc : M0 4 i = c
      · rw [if_pos hc, if_pos hc]
      · rw [if_neg hc, if_neg hc, lt1_def, w32_id (by omega)]
        exact ih n (i + 1) (by omega) (by omega) (by omega)
  unfold Tp_lifeNamed y_lf
  rw [l2, if_pos rfl, Tp_letter_ok I.lay (h.ptr I) (h.tap I) h.2, bd1_some, h.f, h.n]
  exact key _ _ fu 0 (by omega) (by omega) (by omega)
theorem rc_restart (hf : 400 ≤ fu) (I : y_inv L M0 top) (o : y_off M0 M) : ∃ M', Tp_restart fu L M 2 = some M' ∧ COff M M' ∧ y_rc M0 M' (tkB (M0 3) (M0 2 2) 0) := by
  have f : M 3 = M0 3 := o.row fun i => by omega
  have n : M 2 2 = M0 2 2 := o _ _ (by omega)
  have T : TapC M := by
    have := I.2.1.1
    unfold TapC at this ⊢
    rw [f, n]; exact this
  obtain ⟨M', a1, a2, a3⟩ := Tp_restart_ok hf I.lay (o.ptr I.ptr) T
  rw [f, n] at a3
  exact ⟨M', a1, a2, o.trans a2.off, a3⟩
/-- the model -/
theorem rm_begins (hf : 400 ≤ fu) (I : y_inv L M0 top) (o : y_ofm M0 N) : ∃ N', Mo_begins fu L N 154 = some N' ∧ QOff N N' ∧ y_rm M0 N' (tkB (M0 3) (M0 2 2) 0) ∧ N' 154 5 = -1 := by
  have f : N 155 = M0 155 := funext fun i => o.2 155 i (by decide) (by decide) (by omega)
  have n : N 154 2 = M0 2 2 := (o.2 154 2 (by decide) (by decide) (by omega)).trans I.2.1.2.1
  have T : TapM N := by
    have t := I.2.1.1
    have a := y_alk I
    unfold TapC at t
    unfold TapM
    rw [f, n]
    exact ⟨t.1, t.2.1, fun i i0 i1 => by rw [a i i0 i1]; exact t.2.2 i i0 i1⟩
  obtain ⟨N', a1, a2, a3, a4⟩ := Mo_begins_ok hf I.lay o.1 T
  rw [f, n, tkB_congr (y_alk I) (Int.le_refl 0)] at a3
  exact ⟨N', a1, a2, ⟨o.trans fun a i c => a2 a i (by omega), a3⟩, a4⟩
theorem rm_step (hf : 400 ≤ fu) (I : y_inv L M0 top) (h : y_rm M0 N b) : ∃ N', Mo_next fu L N 154 = some N' ∧ NOff N N' ∧ y_rm M0 N' (y_nx M0 b) := by
  obtain ⟨N', a1, a2, a3⟩ := Mo_step hf I.lay (h.ptr I) (h.tap I) h.2
  rw [h.x I] at a3
  exact ⟨N', a1, a2, h.1.trans a2.off, a3⟩
theorem rm_word (hf : 400 ≤ fu) (I : y_inv L M0 top) (h : y_rm M0 N b) {s : Nat} (hs : s < zstr.length) : Mo_isWord fu L N 154 s = some (if N 154 5 = -1 ∧ y_W M0 s b then 1 else 0) := by
  rw [Mo_isWord_ok hf I.lay (h.ptr I) (h.tap I) h.2 hs, h.w I]
theorem rm_sign (I : y_inv L M0 top) (h : y_rm M0 N b) (c : Int) : Mo_isSign fu L N 154 c = some (if N 154 5 = -1 ∧ y_G M0 c b then 1 else 0) := by
  rw [Mo_isSign_ok I.lay (h.ptr I) (h.tap I) h.2 c, h.g I]
theorem rm_tword_y (hf : 400 ≤ fu) (I : y_inv L M0 top) (h : y_rm M0 N b) (hw : N 154 5 = -1) {s : Nat} (hs : s < zstr.length) (c : y_W M0 s b) : ∃ N', Mo_takesWord fu L N 154 s = some (N', 1) ∧ NOff N N' ∧ y_rm M0 N' (y_nx M0 b) := by
  obtain ⟨N', a1, a2, a3⟩ := Mo_takesWord_y hf I.lay (h.ptr I) (h.tap I) h.2 hw hs (by rw [h.w I]; exact c)
  rw [h.x I] at a3
  exact ⟨N', a1, a2, h.1.trans a2.off, a3⟩
theorem rm_tword_n (hf : 400 ≤ fu) (I : y_inv L M0 top) (h : y_rm M0 N b) {s : Nat} (hs : s < zstr.length) (c : ¬ (N 154 5 = -1 ∧ y_W M0 s b)) : Mo_takesWord fu L N 154 s = some (N, 0) :=
  Mo_takesWord_n hf I.lay (h.ptr I) (h.tap I) h.2 hs (by rw [h.w I]; exact c)
theorem rm_mword_y (hf : 400 ≤ fu) (I : y_inv L M0 top) (h : y_rm M0 N b) (hw : N 154 5 = -1) {s : Nat} (hs : s < zstr.length) (c : y_W M0 s b) : ∃ N', Mo_mustWord fu L N 154 s = some N' ∧ NOff N N' ∧ y_rm M0 N' (y_nx M0 b) := by
  obtain ⟨N', a1, a2, a3⟩ := Mo_mustWord_y hf I.lay (h.ptr I) (h.tap I) h.2 hw hs (by rw [h.w I]; exact c)
  rw [h.x I] at a3
  exact ⟨N', a1, a2, h.1.trans a2.off, a3⟩
/-- wrong from now on: b, if nothing was wrong yet -/
abbrev y_bd (N : zM) (b : Int) : zM := mu N 154 5 (if N 154 5 = -1 then b else N 154 5)
theorem y_rm.bad (h : y_rm M0 N b) : y_rm M0 (y_bd N b) b := ⟨h.1.mu (by omega), h.2.bad _⟩
theorem y_bd_w (N : zM) (b : Int) : y_bd N b 154 5 = if N 154 5 = -1 then b else N 154 5 := mx_same _ _ _ _
theorem rm_mword_n (hf : 400 ≤ fu) (I : y_inv L M0 top) (h : y_rm M0 N b) {s : Nat} (hs : s < zstr.length) (c : ¬ (N 154 5 = -1 ∧ y_W M0 s b)) : Mo_mustWord fu L N 154 s = some (y_bd N b) :=
  Mo_mustWord_n hf I.lay (h.ptr I) (h.tap I) h.2 hs (by rw [h.w I]; exact c)
theorem rm_tsign_y (hf : 400 ≤ fu) (I : y_inv L M0 top) (h : y_rm M0 N b) (hw : N 154 5 = -1) {c : Int} (hc : y_G M0 c b) : ∃ N', Mo_takesSign fu L N 154 c = some (N', 1) ∧ NOff N N' ∧ y_rm M0 N' (y_nx M0 b) := by
  obtain ⟨N', a1, a2, a3⟩ := Mo_takesSign_y hf I.lay (h.ptr I) (h.tap I) h.2 hw (c := c) (by rw [h.g I]; exact hc)
  rw [h.x I] at a3
  exact ⟨N', a1, a2, h.1.trans a2.off, a3⟩
theorem rm_tsign_n (I : y_inv L M0 top) (h : y_rm M0 N b) {c : Int} (hc : ¬ (N 154 5 = -1 ∧ y_G M0 c b)) : Mo_takesSign fu L N 154 c = some (N, 0) :=
  Mo_takesSign_n I.lay (h.ptr I) (h.tap I) h.2 (by rw [h.g I]; exact hc)
theorem rm_tnum_y (hf : 400 ≤ fu) (I : y_inv L M0 top) (h : y_rm M0 N b) (hw : N 154 5 = -1) {m : Int} (c : y_N M0 m b) : ∃ N', Mo_takesNumber fu L N 154 m = some (N', y_V M0 b) ∧ NOff N N' ∧ y_rm M0 N' (y_nx M0 b) := by
  obtain ⟨N', a1, a2, a3⟩ := Mo_takesNumber_y hf I.lay (h.ptr I) (h.tap I) h.2 hw (m := m) (by rw [h.nm I]; exact c)
  rw [h.x I] at a3
  rw [h.v I] at a1
  exact ⟨N', a1, a2, h.1.trans a2.off, a3⟩
theorem rm_tnum_n (I : y_inv L M0 top) (h : y_rm M0 N b) {m : Int} (c : ¬ (N 154 5 = -1 ∧ y_N M0 m b)) : Mo_takesNumber fu L N 154 m = some (y_bd N b, 0) :=
  Mo_takesNumber_n I.lay (h.tap I) h.2 (by rw [h.nm I]; exact c)
theorem rm_bad (I : y_inv L M0 top) (h : y_rm M0 N b) : Mo_bad fu L N 154 = some (y_bd N b) := by
  rw [Mo_bad_ok I.lay, h.2.2.2.1]
theorem rm_mend_y (I : y_inv L M0 top) (h : y_rm M0 N b) (c : N 154 5 ≠ -1 ∨ y_K M0 b = 0) : Mo_mustEnd fu L N 154 = some N :=
  Mo_mustEnd_y I.lay h.2 (by rw [h.k I]; exact c)
theorem rm_mend_n (I : y_inv L M0 top) (h : y_rm M0 N b) (hw : N 154 5 = -1) (c : y_K M0 b ≠ 0) : Mo_mustEnd fu L N 154 = some (mu N 154 5 b) :=
  Mo_mustEnd_n I.lay h.2 hw (by rw [h.k I]; exact c)
theorem rm_letter (I : y_inv L M0 top) (h : y_rm M0 N b) : Mo_letter fu L N 154 = some (if N 154 5 = -1 then (if ltr (M0 3) (M0 2 2) b = 0 ∨ 104 < ltr (M0 3) (M0 2 2) b then -1 else ltr (M0 3) (M0 2 2) b - 97) else -1) := by
  rw [Mo_letter_ok I.lay (h.ptr I) (h.tap I) h.2]
  unfold mltr
  rw [h.l I]
theorem rm_lifeOf (hf : 400 ≤ fu) (I : y_inv L M0 top) (o : y_ofm M0 N) (c : Int) : Mo_lifeOf fu L N 154 c = some (fnd (M0 163) c (M0 154 20).toNat 0) := by
  have l4 : L 154 = (13, 0) := I.lay 154 (by decide)
  have l63 : L 163 = (101, 8) := I.lay 163 (by decide)
  have p : N 154 21 = 163 := o.1 (154, 21, 163) (by decide +kernel)
  have e20 : N 154 20 = M0 154 20 := o.2 154 20 (by decide) (by decide) (by omega)
  have e63 : N 163 = M0 163 := funext fun i => o.2 163 i (by decide) (by decide) (by omega)
  have h8 := I.wv.1
  have key : ∀ (k n : Nat) (i : Int), 0 ≤ i → M0 154 20 - i = k → k < n → Mo_lifeOf_l2 fu L n N 154 c i = some (fnd (M0 163) c k i) := by
    intro k
    induction k with
    | zero =>
      intro n i i0 hk hn
      obtain ⟨n, rfl⟩ : ∃ n', n = n' + 1 := ⟨n - 1, by omega⟩
      show Mo_lifeOf_s2 _ _ _ _ _ _ _ = _
      unfold Mo_lifeOf_s2
      rw [l4, if_pos rfl, e20, if_neg (by omega)]; rfl
    | succ k ih =>
      intro n i i0 hk hn
      obtain ⟨n, rfl⟩ : ∃ n', n = n' + 1 := ⟨n - 1, by omega⟩
      show Mo_lifeOf_s2 _ _ _ _ _ _ _ = _
      unfold Mo_lifeOf_s2 fnd
      rw [l4, if_pos rfl, e20, if_pos (by omega), p, l63, if_pos rfl, if_pos (show 0 ≤ i ∧ i < ((101, 8) : Int × Int).2 by show 0 ≤ i ∧ i < 8; omega), e63]
      by_cases hc : M0 163 i = c
      · rw [if_pos hc, if_pos hc]
      · rw [if_neg hc, if_neg hc, lt1_def, w32_id (by omega)]
        exact ih n (i + 1) (by omega) (by omega) (by omega)
  unfold Mo_lifeOf
  exact key _ fu 0 (by omega) (by omega) (by omega)
/-- what the model's letter and lifeOf say together -/
theorem y_lf_m (I : y_inv L M0 top) (b : Int) : (ltr (M0 3) (M0 2 2) b = 0 ∨ 104 < ltr (M0 3) (M0 2 2) b → y_lf M0 b = -1) ∧ (¬ (ltr (M0 3) (M0 2 2) b = 0 ∨ 104 < ltr (M0 3) (M0 2 2) b) → ltr (M0 3) (M0 2 2) b - 97 ≠ -1 ∧ fnd (M0 163) (ltr (M0 3) (M0 2 2) b - 97) (M0 154 20).toNat 0 = y_lf M0 b) := by
  have hv := I.2.2.1.1
  have hn := I.2.2.1.2
  have h8 := I.wv.1
  have hb := ltr_b (f := M0 3) (n := M0 2 2) (b := b)
  unfold y_lf
  rw [hv]
  refine ⟨fun c => ?_, fun c => ⟨?_, ?_⟩⟩
  · refine fnd_none _ 0 fun j j0 j1 => ?_
    have := hn j j0 (by omega)
    omega
  · have := hb (by omega)
    omega
  · refine fnd_shift _ 0 fun j j0 j1 => ?_
    have := hn j j0 (by omega)
    omega
theorem rm_tlife_y (hf : 400 ≤ fu) (I : y_inv L M0 top) (h : y_rm M0 N b) (hw : N 154 5 = -1) (c : y_lf M0 b ≠ -1) : ∃ N', Mo_takesLife fu L N 154 = some (N', y_lf M0 b) ∧ NOff N N' ∧ y_rm M0 N' (y_nx M0 b) := by
  have l4 : L 154 = (13, 0) := I.lay 154 (by decide)
  obtain ⟨m1, m2⟩ := y_lf_m I b
  have hc : ¬ (ltr (M0 3) (M0 2 2) b = 0 ∨ 104 < ltr (M0 3) (M0 2 2) b) := fun z => c (m1 z)
  obtain ⟨q1, q2⟩ := m2 hc
  obtain ⟨N', a1, a2, a3⟩ := rm_step (fu := fu) hf I h
  refine ⟨N', ?_, a2, a3⟩
  unfold Mo_takesLife Mo_takesLife_b20
  rw [l4, if_pos rfl, rm_letter I h, if_pos hw, if_neg hc, bd1_some, if_neg q1, bd1_some, rm_lifeOf hf I h.1, bd1_some, q2, if_neg c, if_pos rfl, a1, bd1_some]
theorem rm_tlife_n (hf : 400 ≤ fu) (I : y_inv L M0 top) (h : y_rm M0 N b) (c : ¬ (N 154 5 = -1 ∧ y_lf M0 b ≠ -1)) : Mo_takesLife fu L N 154 = some (y_bd N b, 0) := by
  have l4 : L 154 = (13, 0) := I.lay 154 (by decide)
  obtain ⟨m1, m2⟩ := y_lf_m I b
  have b20 : Mo_takesLife_b20 fu L N 154 (-1) = some (y_bd N b, 0) := by
    unfold Mo_takesLife_b20
    rw [if_pos rfl, l4, if_pos rfl, rm_bad I h, bd1_some]
  unfold Mo_takesLife
  rw [l4, if_pos rfl, rm_letter I h]
  by_cases hw : N 154 5 = -1
  · rw [if_pos hw]
    by_cases hc : ltr (M0 3) (M0 2 2) b = 0 ∨ 104 < ltr (M0 3) (M0 2 2) b
    · rw [if_pos hc, bd1_some, if_pos rfl, b20]
    · obtain ⟨q1, q2⟩ := m2 hc
      have e : y_lf M0 b = -1 := by
        by_cases z : y_lf M0 b = -1
        · exact z
        · exact absurd ⟨hw, z⟩ c
      rw [if_neg hc, bd1_some, if_neg q1, bd1_some, rm_lifeOf hf I h.1, bd1_some, q2, e, b20]
  · rw [if_neg hw, bd1_some, if_pos rfl, b20]
end
