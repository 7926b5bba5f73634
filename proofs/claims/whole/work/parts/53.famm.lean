/-! ===== pure: part 53 ===== -/
/-! ===== pure: the model's family reader's loop ===== -/
/-- the model's reader and its rows of a family, aside -/
def GOff (M M' : zM) : Prop := ∀ a i, (a ≠ 154 ∨ ((i < 3 ∨ 7 < i) ∧ i ≠ 11)) → a ≠ 156 → a ≠ 157 → a ≠ 158 → M' a i = M a i
theorem QOff.go {M M' : zM} (h : QOff M M') : GOff M M' := fun a i h1 _ _ _ => h a i (by omega)
theorem GOff.trans {A B C : zM} (h : GOff A B) (h2 : GOff B C) : GOff A C := fun a i q1 q2 q3 q4 => (h2 a i q1 q2 q3 q4).trans (h a i q1 q2 q3 q4)
theorem goff_madd {M N : zM} (h : GOff M N) (c a p : Int) : GOff M (madd N c a p) := fun x i q1 q2 q3 q4 => by
  unfold madd
  rw [mx_ne (by omega), mx_ne (by omega), mx_ne (by omega), mx_ne (by omega)]
  exact h x i q1 q2 q3 q4
theorem GOff.ptr {M M' : zM} (h : GOff M M') (hP : Ptr M) : Ptr M' := fun q hq => by
  have h9 : ∀ q ∈ zPt, ((q.1 : Int) ≠ 154 ∨ (((q.2.1 : Int) < 3 ∨ 7 < (q.2.1 : Int)) ∧ (q.2.1 : Int) ≠ 11)) ∧ (q.1 : Int) ≠ 156 ∧ (q.1 : Int) ≠ 157 ∧ (q.1 : Int) ≠ 158 := by decide +kernel
  obtain ⟨a1, a2, a3, a4⟩ := h9 q hq
  rw [h _ _ a1 a2 a3 a4]
  exact hP q hq
theorem GOff.n {M M' : zM} (h : GOff M M') : M' 154 2 = M 154 2 := h 154 2 (by omega) (by omega) (by omega) (by omega)
theorem GOff.f {M M' : zM} (h : GOff M M') : M' 155 = M 155 := funext fun i => h 155 i (by omega) (by omega) (by omega) (by omega)
theorem GOff.tap {M M' : zM} (h : GOff M M') (hT : TapM M) : TapM M' := by
  unfold TapM
  rw [h.n, h.f]
  exact hT
theorem QOff.many {M M' : zM} (h : QOff M M') : M' 154 11 = M 154 11 := h 154 11 (by omega)
theorem QOff.row {M M' : zM} (h : QOff M M') {a : Int} (ha : a ≠ 154) : M' a = M a := funext fun i => h a i (Or.inl ha)
theorem madd_m (M : zM) (c a p : Int) : madd M c a p 154 11 = M 154 11 + 1 := mx_same _ _ _ _
theorem madd_w (M : zM) (c a p : Int) : madd M c a p 154 5 = M 154 5 := by
  unfold madd
  rw [mx_ne (by omega), mx_ne (by omega), mx_ne (by omega), mx_ne (by omega)]
theorem madd_6 (M : zM) (c a p : Int) : madd M c a p 156 = iupd (M 156) (M 154 11) c := funext fun j => by
  unfold madd iupd
  rw [mx_ne (by omega), mx_ne (by omega), mx_ne (by omega)]
  by_cases h : j = M 154 11
  · rw [h, mx_same, if_pos rfl]
  · rw [mx_ne (Or.inr h), if_neg h]
theorem madd_7 (M : zM) (c a p : Int) : madd M c a p 157 = iupd (M 157) (M 154 11) a := funext fun j => by
  unfold madd iupd
  rw [mx_ne (by omega), mx_ne (by omega)]
  by_cases h : j = M 154 11
  · rw [h, mx_same, if_pos rfl]
  · rw [mx_ne (Or.inr h), mx_ne (by omega), if_neg h]
theorem madd_8 (M : zM) (c a p : Int) : madd M c a p 158 = iupd (M 158) (M 154 11) p := funext fun j => by
  unfold madd iupd
  rw [mx_ne (by omega)]
  by_cases h : j = M 154 11
  · rw [h, mx_same, if_pos rfl]
  · rw [mx_ne (Or.inr h), mx_ne (by omega), mx_ne (by omega), if_neg h]
theorem mtok_madd {M : zM} {b c a p : Int} (h : MTok M b) : MTok (madd M c a p) b := by
  have e : ∀ j, j ≠ 11 → madd M c a p 154 j = M 154 j := fun j hj => by
    unfold madd
    rw [mx_ne (by omega), mx_ne (by omega), mx_ne (by omega), mx_ne (by omega)]
  have e5 : madd M c a p 155 = M 155 := funext fun j => by
    unfold madd
    rw [mx_ne (by omega), mx_ne (by omega), mx_ne (by omega), mx_ne (by omega)]
  unfold MTok at h ⊢
  rw [e 2 (by decide), e 4 (by decide), e 6 (by decide), e 3 (by decide), e 7 (by decide), e5]
  exact h
