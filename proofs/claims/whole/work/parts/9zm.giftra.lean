/-! ===== pure: part 9zm: the call gift: affairs with a gift more ===== -/
section
variable {fu : Nat} {L L2 : zL} {M A B N P M2 Z : zM} {top : Int}
theorem y_gift_ra (hra : y_ra L M 19 top (M 162) (M 154 20) (M 163) (M 164) (M 165)) (h172 : 172 ≤ top) {c : Int} (hc : M 162 76 = c) (c8 : 0 ≤ c ∧ c < 8) (hL2 : Lay L2) (gl1 : ∀ a, a < top → L2 a = L a)
    (zM : ∀ x i, x < 31 ∨ (129 ≤ x ∧ x < top) → ¬ y_scr x i → x ≠ 162 → x ≠ 166 → x ≠ 154 → ¬ (x = 19 ∧ i = 2) → x ≠ 24 → x ≠ 2 → Z x i = M x i) (z192 : Z 19 2 = c + 1) (z24 : ∀ i, Z 24 i = if i = c then top else M 24 i) (z76 : Z 162 76 = c + 1) (z5 : ∀ m, m ≠ 76 → m < 77 + 315 * c → Z 162 m = M 162 m)
    (ng : y_gp L2 Z top (top + 7) (fun i => Z 162 (77 + 315 * c + i)) (M 154 20) (M 163)) : y_ra L2 Z 19 (top + 7) (Z 162) (M 154 20) (M 163) (M 164) (M 165) := by
  obtain ⟨r1, r2, r3, r4, r5, r6, r7⟩ := hra
  have zlo : ∀ m, m < 76 → Z 162 m = M 162 m := fun m hm => z5 m (by omega) (by omega)
  have hw := r5.1
  have zr : ∀ x, 20 ≤ x → x ≤ 23 → Z x = M x := fun x x0 x1 => funext fun i => zM x i (by omega) (by omega) (by omega) (by omega) (by omega) (by omega) (by omega) (by omega)
  have zh : ∀ a, 172 ≤ a → a < top → Z a = M a := fun x x0 x1 => funext fun i => zM x i (by omega) (by omega) (by omega) (by omega) (by omega) (by omega) (by omega) (by omega)
  have z19 : ∀ i, i ≠ 2 → Z 19 i = M 19 i := fun i hi => zM 19 i (by omega) (by omega) (by omega) (by omega) (by omega) (by omega) (by omega) (by omega)
  have l20 : ∀ x, 20 ≤ x → x ≤ 23 → L2 x = L x := fun x x0 x1 => gl1 x (by omega)
  refine ⟨⟨hL2 19 (by decide), hL2 24 (by decide)⟩, ⟨?_, ?_, ?_, ?_, ?_⟩, ?_, ?_, ?_, fun l l0 l1 => ?_, fun x x0 x1 => ?_⟩
  · rw [z19 0 (by decide)]; exact r2.1
  · rw [z19 1 (by decide)]; exact r2.2.1
  · rw [z76, z192]
  · rw [z19 3 (by decide), zlo 74 (by decide)]; exact r2.2.2.2.1
  · rw [z19 4 (by decide), zlo 75 (by decide)]; exact r2.2.2.2.2
  · rw [z76, zlo 74 (by decide), zlo 75 (by decide), zlo 0 (by decide)]
    exact ⟨⟨by omega, by omega⟩, r3.2⟩
  · have w0 : WR L2 Z 20 21 22 23 (M 154 20) (M 162) := by
      obtain ⟨⟨w1, w2, w3, w4, w5⟩, w6, w7⟩ := r4
      refine ⟨⟨(l20 20 (by decide) (by decide)).trans w1, ?_, (l20 21 (by decide) (by decide)).trans w3, (l20 22 (by decide) (by decide)).trans w4, (l20 23 (by decide) (by decide)).trans w5⟩, ?_, ?_⟩
      · rw [zr 20 (by decide) (by decide)]; exact w2
      · rw [zr 20 (by decide) (by decide)]; exact w6
      · intro p p0 p1
        rw [zr 21 (by decide) (by decide), zr 22 (by decide) (by decide), zr 23 (by decide) (by decide)]; exact w7 p p0 p1
    exact w0.congr (zlo _ (by decide)) (zlo _ (by decide)) (fun p p0 p1 => ⟨zlo _ (by omega), zlo _ (by omega), zlo _ (by omega)⟩)
  · exact r5.congr (zlo _ (by decide)) (zlo _ (by decide)) (fun p p0 p1 => ⟨zlo _ (by omega), zlo _ (by omega), zlo _ (by omega)⟩)
  · rw [zlo _ (by omega), zlo _ (by omega)]; exact r6 l l0 l1
  · rw [z76] at x1
    show y_gp L2 Z (Z 24 x) (top + 7) _ _ _
    rw [z24]
    by_cases cx : x = c
    · rw [if_pos cx, cx]; exact ng
    · rw [if_neg cx]
      have old := (r7 x x0 (by omega)).of (L' := L2) (N := Z) (top' := top + 7) zh (fun a _ a1 => gl1 a a1) (by omega)
      exact old.congr fun i i0 i1 => z5 _ (by omega) (by omega)
theorem c_gift (hf : 42000 ≤ fu) (I : y_inv L M top) (ht : top ≤ 900000) : y_kp4 fu L M top := by
  have l1 : L 1 = (12, 0) := I.lay 1 (by decide)
  have l4 : L 154 = (13, 0) := I.lay 154 (by decide)
  have l9 : L 9 = (5, 0) := I.lay 9 (by decide)
  have l19 : L 19 = (2, 0) := I.lay 19 (by decide)
  have l62 : L 162 = (101, 2597) := I.lay 162 (by decide)
  have p2 : M 1 2 = 9 := I.ptr (1, 2, 9) (by decide +kernel)
  have e11 : M 1 11 = M 154 19 := I.2.2.2.1.1.1
  have e19 : M 154 19 = 0 ∨ M 154 19 = 1 := I.2.2.2.1.2.1
  have hra := I.2.2.2.2.1
  have h76 := hra.2.2.1.1
  have s2M := hra.2.1.2.2.1
  have h172 := I.1.2.2
  have g76 : (0 : Int) ≤ 76 ∧ (76 : Int) < ((101, 2597) : Int × Int).2 := by decide
  by_cases h : M 154 19 = 0
  · obtain ⟨z1, z2, z3⟩ := y_both_ref (fu := fu) I (r := 0) (by decide) (A := M) (N := mu (mu M 153 0 (w32 (M 153 0 + 1))) 154 0 0) (y_off.refl M) (fun x i c => mx_ne (by omega))
    have u19 : mu (mu M 153 0 (w32 (M 153 0 + 1))) 154 0 0 154 19 = 0 := (mx_ne (by omega)).trans ((mx_ne (by omega)).trans h)
    refine ⟨top, L, mu M 153 0 (w32 (M 153 0 + 1)), -1, _, ?_, ?_, z3, by omega⟩
    · unfold Lx_gift
      rw [l1, if_pos rfl, if_pos (show M 1 11 = 0 by omega), z1, bd2_some]
    · unfold Mo_gift
      rw [l4, if_pos rfl, lt1_def, if_pos u19, z2, bd2_some]
  have h1 : M 154 19 = 1 := by omega
  have h11 : ¬ M 1 11 = 0 := by omega
  obtain ⟨A, r, a1, a2, a3, a4⟩ := y_gread (fu := fu) hf I I (y_off.refl M)
  have AP := a2.ptr I.ptr
  have q14 : A 1 4 = 19 := AP (1, 4, 19) (by decide +kernel)
  have s2 : A 19 2 = M 162 76 := (a2 _ _ (by omega)).trans s2M
  have oT : ∀ rr, y_ofm M (mu (mu A 153 rr (w32 (A 153 rr + 1))) 154 0 0) := fun rr => ⟨(AP.mu fun q hq => by
    have h9 : ∀ q ∈ zPt, (q.1 : Int) ≠ 153 := by decide +kernel
    exact Or.inl (h9 q hq)).mu (by decide +kernel), fun x i x0 x1 c => by rw [mx_ne (by omega), mx_ne (by omega)]; exact a2 x i c⟩
  have ref : ∀ rr : Int, 0 ≤ rr ∧ rr ≤ 4 → ∃ N', Mo_readsGift fu L (mu (mu A 153 rr (w32 (A 153 rr + 1))) 154 0 0) 154 = some (N', r) ∧ N' 162 76 = M 162 76 ∧ N' 154 18 = 162 ∧ Lx_refused fu L A 1 rr = some (mu A 153 rr (w32 (A 153 rr + 1)), -1) ∧ Mo_refuses fu L N' 154 rr = some (mu N' 167 rr (w32 (N' 167 rr + 1)), -1) ∧ y_inv L (mu N' 167 rr (w32 (N' 167 rr + 1))) top := fun rr hrr => by
    obtain ⟨N', n1, n2, _⟩ := a4 _ (oT rr)
    have hh := y_both_ref (fu := fu) I hrr (A := A) (N := N') a2 (fun x i c => by rw [n2.off x i c, mx_ne (by omega)])
    have NP : Ptr N' := n2.off.ptr (oT rr).1
    exact ⟨N', n1, by rw [n2.off _ _ (by omega), mx_ne (by omega), mx_ne (by omega)]; exact a2 _ _ (by omega), NP (154, 18, 162) (by decide +kernel), hh⟩
  have u19 : ∀ rr, mu (mu A 153 rr (w32 (A 153 rr + 1))) 154 0 0 154 19 = 1 := fun rr => by
    rw [mx_ne (by omega), mx_ne (by omega)]; exact (a2 _ _ (by omega)).trans h1
  rcases (Classical.em (r = -1)).symm with hr | hr
  · obtain ⟨N', n1, _, _, z1, z2, z3⟩ := ref 2 (by decide)
    refine ⟨top, L, mu A 153 2 (w32 (A 153 2 + 1)), -1, _, ?_, ?_, z3, by omega⟩
    · unfold Lx_gift
      rw [l1, if_pos rfl, if_neg h11, p2, l9, if_pos rfl, a1, bd2_some, if_neg hr, z1, bd2_some]
    · unfold Mo_gift
      rw [l4, if_pos rfl, lt1_def, u19, if_neg (by decide), n1, bd2_some, if_neg hr, z2, bd2_some]
  subst hr
  rcases (Classical.em (M 162 76 < 8)).symm with c8 | c8
  · obtain ⟨N', n1, n2, n3, z1, z2, z3⟩ := ref 4 (by decide)
    refine ⟨top, L, mu A 153 4 (w32 (A 153 4 + 1)), -1, _, ?_, ?_, z3, by omega⟩
    · unfold Lx_gift
      rw [l1, if_pos rfl, if_neg h11, p2, l9, if_pos rfl, a1, bd2_some, if_pos rfl, q14, l19, if_pos rfl, s2, if_neg c8, z1, bd2_some]
    · unfold Mo_gift Mo_gifts
      rw [l4, if_pos rfl, lt1_def, u19, if_neg (by decide), n1, bd2_some, if_pos rfl, if_pos rfl, n3, l62, if_pos rfl, if_pos g76, n2, bd1_some, if_pos (by omega), z2, bd2_some]
  clear ref u19 oT
  obtain ⟨N0', _, _, gd0⟩ := a4 M ⟨I.ptr, fun _ _ _ _ _ => rfl⟩
  have gd := gd0 rfl
  have gb : (0 ≤ A 9 10 ∧ A 9 10 ≤ 31) ∧ (0 ≤ A 9 11 ∧ A 9 11 ≤ 16) ∧ 0 ≤ A 9 12 ∧ A 9 12 ≤ 600 := by
    obtain ⟨_, ⟨_, _, _, b1, b2, _⟩, _, _, b3, b4, _⟩ := gd
    exact ⟨⟨by omega, b1.2⟩, ⟨by omega, b2.2⟩, by omega, b4⟩
  have IA := I.off a2
  obtain ⟨L2, B, M2, k1, kk, kr, g1, gl, gs, hPA, m2b⟩ := y_gift_c1 (fu := fu) hf IA ht gb
  have gl1 := gl.1
  have J' : y_inv L2 M (top + 7) := I.up gl1 (fun _ _ => rfl) (by omega)
  have hL2 := J'.lay
  have cl := y_gift_c2 (fu := fu) I.lay I.ptr AP kk.2.2.2 h172 ht h11 a1 s2 ⟨h76.1, c8⟩ k1 kr g1 hL2 gl.2.1 m2b
  obtain ⟨Am, am1, J, kk'⟩ := y_gift_k IA gl1 m2b kk
  have rdm : ∀ N, y_ofm M N → ∃ N', Mo_readsGift fu L2 N 154 = some (N', -1) ∧ y_mf N N' ∧ y_grd M A N' := fun N oN => by
    obtain ⟨A', r', e1, _, _, e4⟩ := y_gread (fu := fu) hf I J' (y_off.refl M)
    have ee := Option.some.inj (a1.symm.trans e1)
    obtain rfl : A = A' := congrArg Prod.fst ee
    obtain rfl : (-1 : Int) = r' := congrArg Prod.snd ee
    obtain ⟨N', n1, n2, n3⟩ := e4 N oN
    exact ⟨N', n1, n2, n3 rfl⟩
  obtain ⟨N', Z, ng, mg, zi, zC, z76, z4, z5⟩ := y_gift_m (fu := fu) hf h172 h1 a2 rfl ⟨h76.1, c8⟩ kr m2b am1 J kk' hL2 rdm
  refine ⟨top + 7, L2, _, _, Z, cl, mg, zi ?_, Int.le_refl _⟩
  have ar : ∀ x, 162 ≤ x → x ≤ 165 → Am x = M x := fun x x0 x1 => by rw [am1 x (by omega)]; exact funext fun i => a2 x i (by omega)
  have a20 : Am 154 20 = M 154 20 := by rw [am1 154 (by omega)]; exact a2 _ _ (by omega)
  rw [a20, ar 163 (by decide) (by decide), ar 164 (by decide) (by decide), ar 165 (by decide) (by decide)]
  have c8' : 0 ≤ M 162 76 ∧ M 162 76 < 8 := ⟨h76.1, c8⟩
  clear zi mg cl k1 g1 a4 gd0 rdm e19 e11 h76 c8 gb
  refine y_gift_ra hra h172 rfl c8' hL2 gl1 (fun x i r n q q1 q2 q3 q4 q5 => ?_) ?_ (fun i => ?_) z76 z5 ?_
  · rw [zC x i n q q1 (by omega), y_gC_o (by omega), m2b x (by omega), kr x (by omega)]; exact a2 x i n
  · rw [zC 19 2 (by omega) (by decide) (by decide) (by omega)]
    show mu (mu (mu M2 24 _ top) 19 2 _) 2 2 0 19 2 = _
    rw [mx_ne (by omega), mx_same]
  · rw [zC 24 i (by omega) (by decide) (by decide) (by omega)]
    show mu (mu (mu M2 24 _ top) 19 2 _) 2 2 0 24 i = _
    rw [mx_ne (by omega), mx_ne (by omega)]
    by_cases z : i = M 162 76
    · rw [if_pos z, z, mx_same]
    · rw [if_neg z, mx_ne (by omega), m2b 24 (by omega), kr 24 (by omega)]
      exact a2 _ _ (by omega)
  · refine y_newgp (M0 := M) (A := A) (N := N') (P := mz B top) (M2 := M2) h172 ng hPA gl gs (fun a ha => funext fun i => ?_) (fun i i0 i1 => z4 i i0 i1)
    rw [zC a i (by omega) (by omega) (by omega) (by omega), y_gC_o (by omega)]
end
