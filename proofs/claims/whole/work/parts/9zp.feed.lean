/-! ===== pure: part 9zp: rounds of the law: feed ===== -/
theorem y_iand_255 (x : Int) : 0 ≤ iand x 255 ∧ iand x 255 ≤ 255 := by
  show 0 ≤ ((zO x).toBitVec &&& 255#32).toInt ∧ ((zO x).toBitVec &&& 255#32).toInt ≤ 255
  have h : ((zO x).toBitVec &&& 255#32).toNat ≤ 255 := by
    rw [BitVec.toNat_and]; exact Nat.and_le_right
  rw [BitVec.toInt_eq_toNat_of_lt (by omega)]
  omega
theorem y_bys5 (a b c d e : Int) : ∀ x ∈ bys5 a b c d e, 0 ≤ x ∧ x ≤ 255 := by
  have h : ∀ w, ∀ x ∈ bys w, 0 ≤ x ∧ x ≤ 255 := fun w x hx => by
    unfold bys at hx
    simp only [List.mem_cons, List.not_mem_nil, or_false] at hx
    rcases hx with z | z | z | z <;> rw [z] <;> exact y_iand_255 _
  intro x hx
  unfold bys5 at hx
  simp only [List.mem_append] at hx
  rcases hx with (((z | z) | z) | z) | z
  · exact h a x z
  · exact h b x z
  · exact h c x z
  · exact h d x z
  · exact h e x z
theorem y_gputs_tap {A O f : Int} (hA : A ≠ O) : ∀ (bs : List Int) (M : zM), (∀ x ∈ bs, 0 ≤ x ∧ x ≤ 255) → 0 ≤ M O f → (∀ i, 0 ≤ i → i < M O f → 1 ≤ M A i ∧ M A i ≤ 255) → ∀ i, 0 ≤ i → i < gputs A O f M bs O f → 1 ≤ gputs A O f M bs A i ∧ gputs A O f M bs A i ≤ 255
  | [], M, _, _, h => h
  | b :: bs, M, hb, h0, h => by
    have b0 := hb b (List.mem_cons_self ..)
    have hl := gput_len (f := f) hA M b
    have n01 := nz_01 b
    refine y_gputs_tap hA bs (gput A O f M b) (fun x hx => hb x (List.mem_cons_of_mem _ hx)) (by omega) (fun i i0 i1 => ?_)
    by_cases c : i < M O f
    · rw [gput_arr hA M b i c]; exact h i i0 c
    · by_cases bz : b = 0
      · subst bz
        rw [gput_0] at i1
        omega
      · have ei : i = M O f := by omega
        rw [ei, gput_new hA M bz]; omega
section
variable {fu : Nat} {L : zL} {M : zM} {top : Int}
theorem rd_feed (hf : 42000 ≤ fu) (I : y_inv L M top) {X : Int → Int} {len i : Int} (hi : 0 ≤ i ∧ i + 6 ≤ len ∧ len ≤ 3072) : y_rd (fun k => Lw_c224 fu X len k top L M 1 154 171 i) top i := by
  have l1 : L 1 = (12, 0) := I.lay 1 (by decide)
  have l4 : L 154 = (13, 0) := I.lay 154 (by decide)
  have e1 : w32 (i + 1) = i + 1 := w32_id (by omega)
  have e2 : w32 (i + 2) = i + 2 := w32_id (by omega)
  have e3 : w32 (i + 3) = i + 3 := w32_id (by omega)
  have e4 : w32 (i + 4) = i + 4 := w32_id (by omega)
  have e5 : w32 (i + 5) = i + 5 := w32_id (by omega)
  have e6 : w32 (i + 6) = i + 6 := w32_id (by omega)
  have t := I.2.1
  obtain ⟨⟨t0, t1, t2⟩, t3, t4⟩ := t
  have h1 := Lx_feed_ok (fu := fu) (by omega) I.lay I.ptr t0 t1 (X (i + 1)) (X (i + 2)) (X (i + 3)) (X (i + 4)) (X (i + 5))
  have hb := y_bys5 (X (i + 1)) (X (i + 2)) (X (i + 3)) (X (i + 4)) (X (i + 5))
  by_cases c : 300 < M 2 2 + nzs (bys5 (X (i + 1)) (X (i + 2)) (X (i + 3)) (X (i + 4)) (X (i + 5)))
  · have h2 := Mo_feed_ok (fu := fu) (by omega) I.lay I.ptr (by omega) (by omega) (X (i + 1)) (X (i + 2)) (X (i + 3)) (X (i + 4)) (X (i + 5))
    rw [if_pos c] at h1
    rw [t3, if_pos c] at h2
    refine ⟨top, L, mu M 154 0 0, fun k => ?_, I.off ((y_off.refl M).mu (by omega)), by omega⟩
    show Lw_c224 fu X len k top L M 1 154 171 i = _
    unfold Lw_c224
    rw [e1, e2, e3, e4, e5, if_pos (by omega), if_pos (by omega), if_pos (by omega), if_pos (by omega), if_pos (by omega), l1, if_pos rfl, h1, bd2_some, if_pos (by omega), if_pos (by omega), if_pos (by omega), if_pos (by omega), if_pos (by omega), l4, if_pos rfl, h2, bd2_some, if_pos rfl, lt1_def, e6]
  · rw [if_neg c] at h1
    generalize hbs : bys5 (X (i + 1)) (X (i + 2)) (X (i + 3)) (X (i + 4)) (X (i + 5)) = bs at *
    obtain ⟨T, hT⟩ : ∃ T, T = gputs 3 2 2 M bs := ⟨_, rfl⟩
    rw [← hT] at h1
    have PT : Ptr T := by rw [hT]; exact I.ptr.gputs pt_3 pt_2_2 bs
    have oT : ∀ a j, a ≠ 3 → ¬ (a = 2 ∧ j = 2) → T a j = M a j := fun a j q q1 => by rw [hT]; exact gputs_off a j q (by omega) bs M
    have T2 : T 154 2 = M 2 2 := (oT _ _ (by decide) (by omega)).trans t3
    have h2 := Mo_feed_ok (fu := fu) (M := T) (by omega) I.lay PT (by omega) (by omega) (X (i + 1)) (X (i + 2)) (X (i + 3)) (X (i + 4)) (X (i + 5))
    rw [hbs, T2, if_neg c] at h2
    obtain ⟨Q, hQ⟩ : ∃ Q, Q = gputs 155 154 2 (mu T 154 0 0) bs := ⟨_, rfl⟩
    rw [← hQ] at h2
    have oQ : ∀ a j, a ≠ 155 → ¬ (a = 154 ∧ (j = 0 ∨ j = 2)) → Q a j = T a j := fun a j q q1 => by
      rw [hQ, gputs_off a j q (by omega) bs, mx_ne (by omega)]
    have al := gputs_alike (A := 3) (O := 2) (f := 2) (B := 155) (P := 154) (g := 2) (by decide) (by decide) bs (M := M) (N := mu T 154 0 0) (by rw [mx_ne (by omega)]; exact T2.symm) (fun j j0 j1 => by rw [mx_ne (by omega), oT _ _ (by decide) (by omega)]; exact t4 j j0 j1)
    rw [← hT, ← hQ] at al
    have gl := gputs_len (A := 3) (O := 2) (f := 2) (by decide) bs M
    rw [← hT] at gl
    have tp := y_gputs_tap (A := 3) (O := 2) (f := 2) (by decide) bs M hb t0 t2
    rw [← hT] at tp
    have q22 : Q 2 2 = T 2 2 := oQ _ _ (by decide) (by omega)
    have n0 := nzs_01 bs
    have p155 : ∀ q ∈ zPt, (q.1 : Int) ≠ 155 := by decide +kernel
    have p1542 : ∀ q ∈ zPt, (q.1 : Int) ≠ 154 ∨ (q.2.1 : Int) ≠ 2 := by decide +kernel
    refine ⟨top, L, Q, fun k => ?_, I.tape (fun a j q q1 q2 q3 q4 => ?_) (by rw [hQ]; exact Ptr.gputs p155 p1542 (PT.mu (by decide +kernel)) bs) ⟨⟨?_, ?_, fun j j0 j1 => ?_⟩, ?_, fun j j0 j1 => ?_⟩, by omega⟩
    · show Lw_c224 fu X len k top L M 1 154 171 i = _
      unfold Lw_c224
      rw [e1, e2, e3, e4, e5, if_pos (by omega), if_pos (by omega), if_pos (by omega), if_pos (by omega), if_pos (by omega), l1, if_pos rfl, h1, bd2_some, if_pos (by omega), if_pos (by omega), if_pos (by omega), if_pos (by omega), if_pos (by omega), l4, if_pos rfl, h2, bd2_some, if_pos rfl, lt1_def, e6]
    · rw [oQ a j q4 (by omega)]; exact oT a j q3 q1
    · rw [q22, gl]; omega
    · rw [q22, gl]; omega
    · rw [q22] at j1
      rw [oQ 3 j (by decide) (by omega)]; exact tp j j0 j1
    · rw [q22]; exact al.1.symm
    · rw [q22] at j1
      rw [oQ 3 j (by decide) (by omega)]; exact al.2 j j0 j1
end
