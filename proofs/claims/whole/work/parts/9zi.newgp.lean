/-! ===== pure: part 9zi: the new Gift is what was read ===== -/
theorem y_seg.congrK {S K N A F K' N' A' F' : Int → Int} {lv e st : Int} (hK : ∀ x, 0 ≤ x → x < st → K' x = K x ∧ N' x = N x ∧ A' x = A x ∧ F' x = F x) {md d : Nat} {i j p q : Int} (h : y_seg S K N A F lv e st md d i j p q) : y_seg S K' N' A' F' lv e st md d i j p q := by
  have c := y_seg_cl (S := S) (K := K') (N := N') (A := A') (F := F') (lv := lv) (e := e) (st := st)
  refine y_seg_ind (fun md d i j p q => y_seg S K' N' A' F' lv e st md d i j p q) ?_ ?_ ?_ ?_ ?_ ?_ ?_ h
  · intro d i p k n l h1 h2 h3 h4 h5 h6 h7 h8 h9 h10 h11 h12 h13 h14
    obtain ⟨k1, k2, k3, k4⟩ := hK p h10 h11
    exact c.1 d i p k n l h1 h2 h3 h4 h5 h6 (fun z => ⟨(h7 z).1, k3.trans (h7 z).2⟩) h8 h9 h10 h11 h12 (k1.trans h13) (k2.trans h14)
  · intro d i j p q n hs ih h1 h2 h3 h4 h5 h6 h7
    have b := (y_seg_b hs).2.1
    obtain ⟨k1, k2, k3, k4⟩ := hK q (by omega) h4
    exact c.2.1 d i j p q n ih h1 h2 h3 h4 h5 (k1.trans h6) (k2.trans h7)
  · intro d i j p q hs ih h1 h2 h3 h4
    exact c.2.2.1 d i j p q ih h1 h2 h3 h4
  · intro d i j p q hs ih
    exact c.2.2.2.1 d i j p q ih
  · intro d i m j p r q hs ih h1 hs' ih' h3 h4 h5
    have b' := (y_seg_b hs').2.1
    obtain ⟨k1, k2, k3, k4⟩ := hK q (by omega) h3
    exact c.2.2.2.2.1 d i m j p r q ih h1 ih' h3 (k1.trans h4) (k4.trans h5)
  · intro d i j p q hs ih h1
    exact c.2.2.2.2.2.1 d i j p q ih h1
  · intro d i m j p r q hs ih h1 hs' ih' h2 h3 h4 h5
    have b' := (y_seg_b hs').2.1
    obtain ⟨k1, k2, k3, k4⟩ := hK q (by omega) h3
    exact c.2.2.2.2.2.2 d i m j p r q ih h1 ih' h2 h3 (k1.trans h4) (k4.trans h5)
section
variable {fu : Nat} {L L2 : zL} {M0 M A N P M2 Z : zM} {top : Int}
theorem y_newgp (h172 : 172 ≤ top) (h : y_grd M0 A N) (hA : ∀ a, 9 ≤ a → a ≤ 15 → P a = A a) (l : y_gl L L2 P top 6) (s : y_gs P M2 top 6) (hZ : ∀ a, top ≤ a → Z a = M2 a) {S : Int → Int} (hS : ∀ i, 0 ≤ i → i < 5 + N 159 4 → S i = N 159 i) :
    y_gp L2 Z top (top + 7) S (M0 154 20) (M0 163) := by
  obtain ⟨⟨q0, q1, q2, q3⟩, ⟨r0, r1, r2, r3, r4, r5⟩, sg, ⟨sb, pb, w1, w2, w3⟩, t1, t2, t3⟩ := h
  obtain ⟨l1, l2, l3⟩ := l
  obtain ⟨s1, ⟨v0, v1, v2, v3, v4⟩, s3⟩ := s
  have p9 : ∀ i, P 9 i = A 9 i := fun i => by rw [hA 9 (by decide) (by decide)]
  have e0 := hS 0 (by omega) (by omega)
  have e1 := hS 1 (by omega) (by omega)
  have e2 := hS 2 (by omega) (by omega)
  have e3 := hS 3 (by omega) (by omega)
  have e4 := hS 4 (by omega) (by omega)
  have hS5 : ∀ i, 0 ≤ i → i < N 159 4 → (fun i => S (5 + i)) i = (fun i => N 159 (5 + i)) i := fun i i0 i1 => hS (5 + i) (by omega) (by omega)
  have z0 : Z top = M2 top := hZ _ (Int.le_refl _)
  have n1 : y_gn P 1 = A 9 10 := p9 10
  have n2 : y_gn P 2 = A 9 10 := p9 10
  have n3 : y_gn P 3 = A 9 10 := p9 10
  have n4 : y_gn P 4 = A 9 10 := p9 10
  have n5 : y_gn P 5 = A 9 11 := p9 11
  have n6 : y_gn P 6 = A 9 12 := p9 12
  have f5 : Z top 5 = top + 1 := by rw [z0]; exact (s3 1 (by decide) (by decide)).1
  have f6 : Z top 6 = top + 2 := by rw [z0]; exact (s3 2 (by decide) (by decide)).1
  have f7 : Z top 7 = top + 3 := by rw [z0]; exact (s3 3 (by decide) (by decide)).1
  have f8 : Z top 8 = top + 4 := by rw [z0]; exact (s3 4 (by decide) (by decide)).1
  have f9 : Z top 9 = top + 5 := by rw [z0]; exact (s3 5 (by decide) (by decide)).1
  have f10 : Z top 10 = top + 6 := by rw [z0]; exact (s3 6 (by decide) (by decide)).1
  have cp : ∀ j, 1 ≤ j → j ≤ 6 → ∀ x, 0 ≤ x → x < y_gn P j → Z (top + j) x = A (9 + j) x := fun j j0 j1 x x0 x1 => by
    rw [hZ _ (by omega), (s3 j j0 j1).2 x x0 x1, hA _ (by omega) (by omega)]
  have hK : ∀ x, 0 ≤ x → x < A 9 10 → Z (top + 1) x = A 10 x ∧ Z (top + 2) x = A 11 x ∧ Z (top + 3) x = A 12 x ∧ Z (top + 4) x = A 13 x := fun x x0 x1 =>
    ⟨cp 1 (by decide) (by decide) x x0 (by rw [n1]; exact x1), cp 2 (by decide) (by decide) x x0 (by rw [n2]; exact x1), cp 3 (by decide) (by decide) x x0 (by rw [n3]; exact x1), cp 4 (by decide) (by decide) x x0 (by rw [n4]; exact x1)⟩
  have et : y_tx (M0 163) S = y_tx (M0 163) (N 159) := by
    unfold y_tx
    rw [e0, e1, e4, y_tsl_congr (S := fun i => N 159 (5 + i)) (S' := fun i => S (5 + i)) (N 159 4).toNat 0 (fun j j0 j1 => hS5 j j0 (by omega))]
  have tl0 : 0 ≤ A 9 12 := by omega
  refine ⟨A 9 10, A 9 11, A 9 12, ⟨l2, ⟨?_, ?_⟩, ⟨?_, ?_, ?_, ?_, ?_, ?_⟩, ?_, by omega, by omega, by omega⟩, ⟨?_, ?_, ?_, ?_⟩, ?_, ?_, ?_, ⟨by omega, sb, pb, w1, ?_, fun k k0 k1 => ⟨?_, fun c => ?_⟩⟩, ⟨?_, fun i hi => ?_⟩, ?_⟩
  · rw [z0, v3, p9]
  · rw [z0, v4, p9]
  · rw [f5, l3 1 (by decide) (by decide), n1]
  · rw [f6, l3 2 (by decide) (by decide), n2]
  · rw [f7, l3 3 (by decide) (by decide), n3]
  · rw [f8, l3 4 (by decide) (by decide), n4]
  · rw [f9, l3 5 (by decide) (by decide), n5]
  · rw [f10, l3 6 (by decide) (by decide), n6]
  · rw [f5, f6, f7, f8, f9, f10]; omega
  · rw [z0, v0, p9, e0, q0]
  · rw [z0, v1, p9, e1, q1]
  · rw [z0, v2, p9, e2, q2]
  · rw [e3, q3]
  · rw [e0, e1, e4]; omega
  · rw [e4]
    intro i i0 i1
    rw [hS5 i i0 i1]
    exact y_seg_ws sg i i0 i1
  · rw [e4, f5, f6, f7, f8]
    exact (sg.congrK hK).congr hS5
  · rw [e4]; exact w2
  · rw [e4, f5, f6, f7, f8, f9, cp 5 (by decide) (by decide) k k0 (by rw [n5]; exact k1)]
    exact (((w3 k k0 k1).1).congrK hK).congr hS5
  · have b1 := (y_seg_b (w3 k k0 k1).1).1
    have b2 := (y_seg_b (w3 (k + 1) (by omega) c).1).1
    rw [hS _ (by omega) (by omega)]
    exact (w3 k k0 k1).2 c
  · rw [et]; exact t1
  · rw [et] at hi ⊢
    rw [f10, cp 6 (by decide) (by decide) i (by omega) (by rw [n6]; omega)]
    exact t3 i hi
  · rw [f5, f6, f7, f8, f9, f10, e2]; omega
end
