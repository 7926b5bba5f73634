/-! ===== pure: part 9zl: the call gift: the model ===== -/
section
variable {fu : Nat} {L L2 : zL} {M A B N P M2 Z : zM} {top : Int}
theorem y_gift_k (IA : y_inv L A top) (gl1 : ∀ a, a < top → L2 a = L a) (m2b : ∀ a, a < top → M2 a = B a) (kk : y_kkp L A B top) : ∃ Am : zM, (∀ a, a < top → Am a = A a) ∧ y_inv L2 Am (top + 7) ∧ y_kkp L2 Am M2 (top + 7) := by
  have h172 := IA.1.2.2
  have r9 : 0 ≤ A 31 1 ∧ A 31 1 ≤ 15 := ⟨IA.2.2.2.2.2.2.1.1.2.2.2.1, IA.2.2.2.2.2.2.1.1.2.2.2.2⟩
  obtain ⟨Am, hAm⟩ : ∃ Am : zM, Am = fun a => if a < top then A a else M2 a := ⟨_, rfl⟩
  have am1 : ∀ a, a < top → Am a = A a := fun a ha => by rw [hAm]; exact if_pos ha
  have am2 : ∀ a, top ≤ a → Am a = M2 a := fun a ha => by rw [hAm]; exact if_neg (by omega)
  clear hAm
  refine ⟨Am, am1, IA.up gl1 am1 (by omega), ?_⟩
  unfold y_kkp
  rw [am1 31 (by omega), am1 162 (by omega), am1 154 (by omega), am1 163 (by omega), am1 164 (by omega), am1 165 (by omega)]
  refine ⟨by rw [m2b 31 (by omega)]; exact kk.1, fun x i q1 q2 => ?_, ?_, fun q hq => ?_⟩
  · by_cases z : x < top
    · rw [m2b x z, am1 x z]; exact kk.2.1 x i q1 q2
    · rw [am2 x (by omega)]
  · exact kk.2.2.1.of (fun x x0 x1 => m2b x (by omega)) (fun a _ x1 => m2b a x1) (fun x x0 x1 => gl1 x (by omega)) (fun a _ x1 => gl1 a x1) (by omega)
  · have := zPt_lt q hq
    rw [m2b _ (by omega)]; exact kk.2.2.2 q hq
theorem y_gC_o {c : Int} {x i : Int} (h : ¬ (x = 24) ∧ ¬ (x = 19 ∧ i = 2) ∧ ¬ (x = 2 ∧ i = 2)) : y_gC M2 c top x i = M2 x i := by
  show mu (mu (mu M2 24 c top) 19 2 (c + 1)) 2 2 0 x i = _
  rw [mx_ne (by omega), mx_ne (by omega), mx_ne (by omega)]
theorem y_gift_m (hf : 42000 ≤ fu) (h172 : 172 ≤ top) (h1 : M 154 19 = 1) (a2 : y_off M A) {c : Int} (hc : M 162 76 = c) (c8 : 0 ≤ c ∧ c < 8) (kr : ∀ x, (x < 31 ∨ 129 ≤ x) → B x = A x) (m2b : ∀ a, a < top → M2 a = B a) {Am : zM} (am1 : ∀ a, a < top → Am a = A a) (J : y_inv L2 Am (top + 7)) (kk : y_kkp L2 Am M2 (top + 7)) (hL2 : Lay L2)
    (rdm : ∀ N, y_ofm M N → ∃ N', Mo_readsGift fu L2 N 154 = some (N', -1) ∧ y_mf N N' ∧ y_grd M A N') :
    ∃ N' Z, y_grd M A N' ∧ Mo_gift fu L2 (y_gC M2 c top) 154 = some (Z, c) ∧ (y_ra L2 Z 19 (top + 7) (Z 162) (Am 154 20) (Am 163) (Am 164) (Am 165) → y_inv L2 Z (top + 7)) ∧ (∀ x i, ¬ y_scr x i → x ≠ 162 → x ≠ 166 → ¬ (x = 154 ∧ (i = 2 ∨ i = 25)) → Z x i = y_gC M2 c top x i) ∧ Z 162 76 = c + 1 ∧ (∀ m, 0 ≤ m → m < 5 + N' 159 4 → Z 162 (77 + 315 * c + m) = N' 159 m) ∧ ∀ m, m ≠ 76 → m < 77 + 315 * c → Z 162 m = M 162 m := by
  have l4 : L2 154 = (13, 0) := hL2 154 (by decide)
  have l59 : L2 159 = (101, 315) := hL2 159 (by decide)
  have l62 : L2 162 = (101, 2597) := hL2 162 (by decide)
  have PC : Ptr (y_gC M2 c top) := ((kk.2.2.2.mu fun q hq => by
      have h9 : ∀ q ∈ zPt, (q.1 : Int) ≠ 24 := by decide +kernel
      exact Or.inl (h9 q hq)).mu (by decide +kernel)).mu (by decide +kernel)
  have cM : ∀ x i, 154 ≤ x → x < 171 → ¬ y_scr x i → y_gC M2 c top x i = M x i := fun x i x0 x1 n => by
    rw [y_gC_o (by omega), m2b x (by omega), kr x (by omega)]; exact a2 x i n
  have oC : y_ofm M (mu (y_gC M2 c top) 154 0 0) := ⟨PC.mu (by decide +kernel), fun x i x0 x1 n => by rw [mx_ne (by omega)]; exact cM x i x0 x1 n⟩
  have zt2 : y_gC M2 c top 2 2 = 0 := mx_same _ _ _ _
  have c2 : ∀ x i, ¬ (19 ≤ x ∧ x ≤ 24) → ¬ y_scr x i → ¬ (x = 2 ∧ i = 2) → y_gC M2 c top x i = M2 x i := fun x i q _ q1 => y_gC_o (by omega)
  generalize y_gC M2 c top = C at *
  obtain ⟨N', n1, n2, n3⟩ := rdm _ oC
  have ne := n3.2.1.2.2.1
  have NP : Ptr N' := n2.off.ptr oC.1
  obtain ⟨N1, b1, b2, b3, b4, b5⟩ := y_act2 (fu := fu) hf J (by rw [am1 154 (by omega)]; exact (a2 _ _ (by omega)).trans h1) (M1 := M2) (M2 := C) (N0 := mu N' 154 2 0) kk c2 (fun x i n q => by rw [mx_ne (by omega), n2.off x i n, mx_ne (by omega)]) (NP.mu (by decide +kernel))
  have n1o : ∀ x i, x ≠ 166 → ¬ (x = 154 ∧ (i = 2 ∨ i = 25)) → N1 x i = N' x i := fun x i q q1 => by rw [b2 x i q (by omega), mx_ne (by omega)]
  have e162 : N1 162 = M 162 := by rw [b4, am1 162 (by omega)]; exact funext fun i => a2 162 i (by omega)
  obtain ⟨Z, z1, z2, z3, z4, z5⟩ := Mo_gift_l (fu := fu) (L := L2) (N := N1) hf l4 l59 l62 (b3 (154, 12, 159) (by decide +kernel)) (b3 (154, 18, 162) (by decide +kernel)) (c := c) (e := N' 159 4) (by rw [e162]; exact hc) c8 (n1o _ _ (by omega) (by omega)) ne
  have t2 : ¬ y_scr 2 2 := by omega
  refine ⟨N', Z, n3, ?_, fun ra => b5 Z z2 (Or.inr ⟨?_, ?_⟩) ra, fun x i n q q1 q2 => ?_, z3, fun m m0 m1 => ?_, fun m m0 m1 => ?_⟩
  · have u19 : mu C 154 0 0 154 19 = 1 := (oC.2 154 19 (by omega) (by omega) (by omega)).trans h1
    have u18 : N' 154 18 = 162 := NP (154, 18, 162) (by decide +kernel)
    have u76 : N' 162 76 = c := (n2.off _ _ (by omega)).trans ((oC.2 162 76 (by omega) (by omega) (by omega)).trans hc)
    have g76 : (0 : Int) ≤ 76 ∧ (76 : Int) < ((101, 2597) : Int × Int).2 := by decide
    unfold Mo_gift Mo_gifts
    rw [l4, if_pos rfl, lt1_def, u19, if_neg (by decide), n1, bd2_some, if_pos rfl, if_pos rfl, u18, l62, if_pos rfl, if_pos g76, u76, bd1_some, if_neg (by omega), lt1_def, b1, bd1_some, z1]
  · rw [z2 _ _ (by omega), n1o _ _ (by omega) (by omega), n2.off _ _ t2, mx_ne (by omega)]; exact zt2
  · rw [z2 _ _ (by omega), b2 _ _ (by omega) (by omega)]; exact mx_same _ _ _ _
  · rw [z2 x i q, n1o x i q1 q2, n2.off x i n, mx_ne (by omega)]
  · rw [z4 m m0 m1]; exact n1o _ _ (by omega) (by omega)
  · rw [z5 m m0 m1, e162]
end
