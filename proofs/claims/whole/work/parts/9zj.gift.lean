/-! ===== pure: part 9zj: the call gift ===== -/
section
variable {fu : Nat} {L L2 : zL} {M A N P M2 Z : zM} {top : Int}
def y_kp4 (fu : Nat) (L : zL) (M : zM) (top : Int) : Prop := ∃ top' L' M1 r M2, Lx_gift fu top L M 1 = some (top', L', M1, r) ∧ Mo_gift fu L' M1 154 = some (M2, r) ∧ y_inv L' M2 top' ∧ top' ≤ top + 7
/-- the model adds the gift read -/
theorem Mo_gift_l (hf : 42000 ≤ fu) (l4 : L 154 = (13, 0)) (l59 : L 159 = (101, 315)) (l62 : L 162 = (101, 2597)) (p12 : N 154 12 = 159) (p18 : N 154 18 = 162) {c e : Int} (hc : N 162 76 = c) (c8 : 0 ≤ c ∧ c < 8) (he : N 159 4 = e) (e3 : 0 ≤ e ∧ e ≤ 310) :
    ∃ Z, Mo_gift_l58 fu L fu N 154 0 = some (Z, c) ∧ (∀ x i, x ≠ 162 → Z x i = N x i) ∧ Z 162 76 = c + 1 ∧ (∀ m, 0 ≤ m → m < 5 + e → Z 162 (77 + 315 * c + m) = N 159 m) ∧ ∀ m, m ≠ 76 → m < 77 + 315 * c → Z 162 m = N 162 m := by
  have g4 : (0 : Int) ≤ 4 ∧ (4 : Int) < ((101, 315) : Int × Int).2 := by decide
  have g76 : (0 : Int) ≤ 76 ∧ (76 : Int) < ((101, 2597) : Int × Int).2 := by decide
  have e5 : w32 (5 + e) = 5 + e := w32_id (by omega)
  have ec : w32 (c + 1) = c + 1 := w32_id (by omega)
  obtain ⟨U, k, uu, ⟨v0, v1, v2⟩⟩ := y_lpx (F := fun k (T : zM) i => Mo_gift_l58 fu L k T 154 i) (N := 5 + e)
    (fun i T => (∀ x j, x ≠ 162 → T x j = N x j) ∧ (∀ m, 0 ≤ m → m < i → T 162 (77 + 315 * c + m) = N 159 m) ∧ ∀ m, m < 77 + 315 * c → T 162 m = N 162 m)
    (fun k T i h0 hN hJ => by
      obtain ⟨v0, v1, v2⟩ := hJ
      have ew : w32 (i + 1) = i + 1 := w32_id (by omega)
      have ew2 : w32 (77 + 315 * c + i) = 77 + 315 * c + i := w32_id (by omega)
      have q12 : T 154 12 = 159 := (v0 _ _ (by decide)).trans p12
      have q18 : T 154 18 = 162 := (v0 _ _ (by decide)).trans p18
      have q4 : T 159 4 = e := (v0 _ _ (by decide)).trans he
      have qi : T 159 i = N 159 i := v0 _ _ (by decide)
      have q76 : T 162 76 = c := (v2 _ (by omega)).trans hc
      have g1 : 0 ≤ i ∧ i < ((101, 315) : Int × Int).2 := by show _ ∧ _ < (315 : Int); omega
      have g2 : 0 ≤ 77 + 315 * c + i ∧ 77 + 315 * c + i < ((101, 2597) : Int × Int).2 := by show _ ∧ _ < (2597 : Int); omega
      refine ⟨mu T 162 (77 + 315 * c + i) (N 159 i), ?_, fun x j q => ?_, fun m m0 m1 => ?_, fun m hm => ?_⟩
      · show Mo_gift_s58 _ _ _ _ _ _ = _
        unfold Mo_gift_s58 Mo_gifts
        rw [l4, if_pos rfl, q12, l59, if_pos rfl, if_pos g4, q4, e5, if_pos hN, if_pos rfl, q18, l62, if_pos rfl, if_pos g76, q76, bd1_some, Mo_giftAt_ok (by omega), bd1_some, if_pos g1, if_pos rfl, ew2, if_pos g2, qi, lt1_def, lt1_def, ew]
      · rw [mx_ne (Or.inl q)]; exact v0 x j q
      · by_cases z : m = i
        · subst z; rw [mx_same]
        · rw [mx_ne (by omega)]; exact v1 m m0 (by omega)
      · rw [mx_ne (by omega)]; exact v2 m hm) (5 + e).toNat fu N 0 (by omega) (by omega) (by omega) ⟨fun _ _ _ => rfl, fun m m0 m1 => absurd m1 (by omega), fun _ _ => rfl⟩
  refine ⟨mu U 162 76 (c + 1), ?_, fun x i q => ?_, mx_same _ _ _ _, fun m m0 m1 => ?_, fun m m0 m1 => ?_⟩
  · have q12 : U 154 12 = 159 := (v0 _ _ (by decide)).trans p12
    have q18 : U 154 18 = 162 := (v0 _ _ (by decide)).trans p18
    have q4 : U 159 4 = e := (v0 _ _ (by decide)).trans he
    have q76 : U 162 76 = c := (v2 _ (by omega)).trans hc
    have w18 : mu U 162 76 (c + 1) 154 18 = 162 := (mx_ne (by omega)).trans q18
    have w76 : mu U 162 76 (c + 1) 162 76 = c + 1 := mx_same _ _ _ _
    have el : w32 (c + 1 - 1) = c := by rw [w32_id (by omega)]; omega
    have uu' : Mo_gift_l58 fu L fu N 154 0 = Mo_gift_l58 fu L (k + 1) U 154 (5 + e) := uu
    rw [uu']
    show Mo_gift_s58 _ _ _ _ _ _ = _
    unfold Mo_gift_s58 Mo_gifts
    rw [l4, if_pos rfl, q12, l59, if_pos rfl, if_pos g4, q4, e5, if_neg (by omega), q18, l62, if_pos rfl, if_pos g76, if_pos g76, q76, ec, lt1_def, if_pos rfl, w18, l62, if_pos rfl, if_pos g76, w76, bd1_some, el]
  · rw [mx_ne (Or.inl q)]; exact v0 x i q
  · rw [mx_ne (by omega)]; exact v1 m m0 m1
  · rw [mx_ne (by omega)]; exact v2 m m1
end
