/-! ===== pure: part 9j: affairs copied; acts kept ===== -/
def zDs : List Int := [19, 25, 33, 39, 45, 51, 57, 63, 69, 75, 81, 87, 93, 99, 105, 111, 117, 123]
theorem zDs_pt : ∀ d ∈ zDs, ∀ q ∈ zPt, ¬ (((q.1 : Int) = d ∧ 2 ≤ (q.2.1 : Int) ∧ (q.2.1 : Int) ≤ 4) ∨ ((q.1 : Int) = d + 1 ∧ 3 ≤ (q.2.1 : Int) ∧ (q.2.1 : Int) ≤ 5) ∨ (d + 2 ≤ (q.1 : Int) ∧ (q.1 : Int) ≤ d + 5)) := by decide +kernel
theorem zDs_ok : ∀ d ∈ zDs, (0 ≤ d ∧ d ≤ 123) ∧ (zLay.getD d.toNat (0, 0) = (2, 0) ∧ zLay.getD (d.toNat + 1) (0, 0) = (11, 0) ∧ zLay.getD (d.toNat + 2) (0, 0) = (101, 24) ∧ zLay.getD (d.toNat + 3) (0, 0) = (101, 24) ∧ zLay.getD (d.toNat + 4) (0, 0) = (101, 24) ∧ zLay.getD (d.toNat + 5) (0, 0) = (103, 8)) ∧ ((d.toNat, 0, d + 1) ∈ zPt ∧ (d.toNat, 1, d + 5) ∈ zPt ∧ (d.toNat + 1, 0, d + 2) ∈ zPt ∧ (d.toNat + 1, 1, d + 3) ∈ zPt ∧ (d.toNat + 1, 2, d + 4) ∈ zPt) := by decide +kernel
theorem zDs_slot {s : Int} (h : 0 ≤ s ∧ s ≤ 15) : 33 + 6 * s ∈ zDs := by
  have h9 : ∀ k : Nat, k < 16 → (33 + 6 * (k : Int)) ∈ zDs := by decide +kernel
  have := h9 s.toNat (by omega)
  rw [show ((s.toNat : Nat) : Int) = s by omega] at this
  exact this
section
variable {fu : Nat} {L : zL} {M N : zM} {top : Int}
theorem y_afs_ok (hL : Lay L) (hP : Ptr M) {d : Int} (hd : d ∈ zDs) : y_afs L M d := by
  obtain ⟨h1, ⟨a0, a1, a2, a3, a4, a5⟩, b0, b1, b2, b3, b4⟩ := zDs_ok d hd
  have e : ((d.toNat : Nat) : Int) = d := by omega
  have g : ∀ k : Nat, k ≤ 5 → L (d + k) = zLay.getD (d.toNat + k) (0, 0) := fun k hk => by
    rw [← hL (d.toNat + k) (by omega)]
    congr 1; omega
  have g0 := g 0 (by omega)
  have g1 := g 1 (by omega)
  have g2 := g 2 (by omega)
  have g3 := g 3 (by omega)
  have g4 := g 4 (by omega)
  have g5 := g 5 (by omega)
  have f0 : M ((d.toNat : Nat) : Int) 0 = d + 1 := hP _ b0
  have f1 : M ((d.toNat : Nat) : Int) 1 = d + 5 := hP _ b1
  have f2 : M ((d.toNat + 1 : Nat) : Int) 0 = d + 2 := hP _ b2
  have f3 : M ((d.toNat + 1 : Nat) : Int) 1 = d + 3 := hP _ b3
  have f4 : M ((d.toNat + 1 : Nat) : Int) 2 = d + 4 := hP _ b4
  have e1 : ((d.toNat + 1 : Nat) : Int) = d + 1 := by omega
  rw [e] at f0 f1
  rw [e1] at f2 f3 f4
  refine ⟨⟨?_, ?_⟩, ⟨f0, f1⟩, ?_, ⟨?_, ?_, ?_⟩, ?_, ?_, ?_⟩
  · have z : d + ((0 : Nat) : Int) = d := by omega
    rw [z] at g0; exact g0.trans a0
  · exact g5.trans a5
  · exact g1.trans a1
  · exact f2
  · exact f3
  · exact f4
  · exact g2.trans a2
  · exact g3.trans a3
  · exact g4.trans a4
theorem y_wri_ptr (hP : Ptr M) {d : Int} (hd : d ∈ zDs) (h : ∀ x i, ¬ y_wri d x i → N x i = M x i) : Ptr N := fun q hq => by
  rw [h _ _ (zDs_pt d hd q hq)]; exact hP q hq
theorem Af_giftAt_g {s n g : Int} (h1 : L s = (2, 0)) (h2 : M s 2 = n) (h3 : M s 1 = s + 5) (h4 : L (s + 5) = (103, 8)) (hg : 0 ≤ g ∧ g < n ∧ n ≤ 8) : Af_giftAt fu L M s g = some (M (s + 5) g) := by
  unfold Af_giftAt
  rw [if_neg (by omega), h1, if_pos rfl, h2, if_pos hg.2.1, h3, h4, if_pos rfl, if_pos (show g < ((103, 8) : Int × Int).2 by show g < 8; omega), if_pos (show 0 ≤ g ∧ g < ((103, 8) : Int × Int).2 by show 0 ≤ g ∧ g < 8; omega)]
theorem Af_addGift_g {d n g : Int} (h1 : L d = (2, 0)) (h2 : M d 2 = n) (h3 : M d 1 = d + 5) (h4 : L (d + 5) = (103, 8)) (h5 : L g = (4, 0)) (hn : 0 ≤ n ∧ n < 8) : Af_addGift fu L M d g = some (mu (mu M (d + 5) n g) d 2 (n + 1)) := by
  have e : mu M (d + 5) n g d 2 = n := (mx_ne (by omega)).trans h2
  unfold Af_addGift
  rw [h1, if_pos rfl, h2, if_neg (by omega), h3, h4, if_pos rfl, if_pos (show n < ((103, 8) : Int × Int).2 by show n < 8; omega), h5, if_pos rfl, if_pos (show 0 ≤ n ∧ n < ((103, 8) : Int × Int).2 by show 0 ≤ n ∧ n < 8; omega), lt1_def, lt1_def, e, w32_id (by omega)]
theorem Af_copyFrom_ok (hf : 400 ≤ fu) {d s : Int} {w : Int → Int} {lv : Int} {nm ag pr : Int → Int} (h : y_ra L M s top w lv nm ag pr) (hs0 : 0 ≤ s ∧ s ≤ 123) (hd0 : 0 ≤ d ∧ d ≤ 123) (ha : y_afs L M d) (hs : s + 5 < d ∨ d + 5 < s) :
    ∃ M', Af_copyFrom fu L M d s = some M' ∧ (∀ x i, ¬ y_wri d x i → M' x i = M x i) ∧ y_ra L M' d top w lv nm ag pr := by
  obtain ⟨⟨s1, s2⟩, ⟨s3, s4, s5, s6, s7⟩, ⟨b1, b2, b3, b4⟩, hW, hV, hN, hG⟩ := h
  obtain ⟨⟨d1, d2⟩, ⟨d3, d4⟩, d5⟩ := ha
  rw [show s + 2 = s + 1 + 1 by omega, show s + 3 = s + 1 + 2 by omega, show s + 4 = s + 1 + 3 by omega] at hW
  rw [show d + 2 = d + 1 + 1 by omega, show d + 3 = d + 1 + 2 by omega, show d + 4 = d + 1 + 3 by omega] at d5
  obtain ⟨W, w1, w2, w3⟩ := Wd_copyFrom_ok (fu := fu) hf hW hV d5 (by omega)
  have w2' : ∀ x i, ¬ y_wri d x i → W x i = M x i := fun x i q => by
    unfold y_wri at q
    exact w2 x i (by omega) (by omega)
  obtain ⟨Q, hQ⟩ : ∃ Q, Q = mu W d 2 0 := ⟨_, rfl⟩
  obtain ⟨T, k, e, ⟨o, t2, t5⟩⟩ := y_lpx (F := fun k (T : zM) i => Af_copyFrom_l18 fu L k T d s i) (N := w 76)
    (fun i T => (∀ x j, ¬ (x = d ∧ j = 2) → x ≠ d + 5 → T x j = W x j) ∧ T d 2 = i ∧ ∀ p, 0 ≤ p → p < i → T (d + 5) p = M (s + 5) p)
    (fun k T i h0 hN' hJ => by
      obtain ⟨o, t2, t5⟩ := hJ
      have ew : w32 (i + 1) = i + 1 := w32_id (by omega)
      have q2 : T s 2 = w 76 := ((o _ _ (by omega) (by omega)).trans (w2 _ _ (by omega) (by omega))).trans s5
      have q1 : T s 1 = s + 5 := ((o _ _ (by omega) (by omega)).trans (w2 _ _ (by omega) (by omega))).trans s4
      have q5 : T (s + 5) i = M (s + 5) i := (o _ _ (by omega) (by omega)).trans (w2 _ _ (by omega) (by omega))
      have r1 : T d 1 = d + 5 := ((o _ _ (by omega) (by omega)).trans (w2 _ _ (by omega) (by omega))).trans d4
      obtain ⟨_, _, _, gc, _⟩ := hG i h0 hN'
      refine ⟨mu (mu T (d + 5) i (M (s + 5) i)) d 2 (i + 1), ?_, ?_, mx_same _ _ _ _, ?_⟩
      · show Af_copyFrom_s18 _ _ _ _ _ _ _ = _
        unfold Af_copyFrom_s18
        rw [s1, if_pos rfl, q2, if_pos hN', Af_giftAt_g s1 q2 q1 s2 ⟨h0, hN', b1.2⟩, bd1_some, d1, if_pos rfl, q5, Af_addGift_g d1 t2 r1 d2 gc.1 (by omega), bd1_some, lt1_def, ew]
      · intro x j c1 c2
        rw [mx_ne (by omega), mx_ne (by omega)]; exact o x j c1 c2
      · intro p p0 p1
        by_cases c : p = i
        · subst c
          rw [mx_ne (by omega), mx_same]
        · rw [mx_ne (by omega), mx_ne (by omega)]; exact t5 p p0 (by omega)) (w 76).toNat fu Q 0 (by omega) (by omega) (by omega) ⟨fun x j c1 c2 => by rw [hQ, mx_ne (by omega)], by rw [hQ, mx_same], fun p p0 p1 => absurd p1 (by omega)⟩
  have q2 : T s 2 = w 76 := ((o _ _ (by omega) (by omega)).trans (w2 _ _ (by omega) (by omega))).trans s5
  have q3 : T s 3 = w 74 := ((o _ _ (by omega) (by omega)).trans (w2 _ _ (by omega) (by omega))).trans s6
  have q4 : mu T d 3 (w 74) s 4 = w 75 := ((mx_ne (by omega)).trans ((o _ _ (by omega) (by omega)).trans (w2 _ _ (by omega) (by omega)))).trans s7
  have fin : Af_copyFrom_l18 fu L (k + 1) T d s (w 76) = some (mu (mu T d 3 (w 74)) d 4 (w 75)) := by
    show Af_copyFrom_s18 _ _ _ _ _ _ _ = _
    unfold Af_copyFrom_s18
    rw [s1, if_pos rfl, q2, if_neg (by omega), d1, if_pos rfl, q3, lt1_def, q4, lt1_def]
  have fr : ∀ x i, ¬ (x = d ∧ 2 ≤ i ∧ i ≤ 4) → x ≠ d + 5 → mu (mu T d 3 (w 74)) d 4 (w 75) x i = W x i := fun x i c1 c2 => by
    rw [mx_ne (by omega), mx_ne (by omega)]; exact o x i (by omega) c2
  have fr2 : ∀ x i, ¬ y_wri d x i → mu (mu T d 3 (w 74)) d 4 (w 75) x i = M x i := fun x i c => by
    have c' := c
    unfold y_wri at c'
    rw [fr x i (by omega) (by omega)]; exact w2' x i c
  refine ⟨mu (mu T d 3 (w 74)) d 4 (w 75), ?_, fr2, ⟨d1, d2⟩, ⟨?_, ?_, ?_, ?_, ?_⟩, ⟨b1, b2, b3, b4⟩, ?_, hV, hN, fun g g0 g1 => ?_⟩
  · have w0 : W d 0 = d + 1 := (w2 _ _ (by omega) (by omega)).trans d3
    unfold Af_copyFrom
    rw [d1, if_pos rfl, s1, if_pos rfl, d3, d5.1, if_pos rfl, s3, w1, bd1_some, lt1_def, ← hQ]
    exact e.trans fin
  · rw [fr2 _ _ (by unfold y_wri; omega)]; exact d3
  · rw [fr2 _ _ (by unfold y_wri; omega)]; exact d4
  · rw [mx_ne (by omega), mx_ne (by omega)]; exact t2
  · rw [mx_ne (by omega), mx_same]
  · rw [mx_same]
  · rw [show d + 2 = d + 1 + 1 by omega, show d + 3 = d + 1 + 2 by omega, show d + 4 = d + 1 + 3 by omega]
    exact w3.of fun x i c => fr x i (by omega) (by omega)
  · have e5 : mu (mu T d 3 (w 74)) d 4 (w 75) (d + 5) g = M (s + 5) g := by
      rw [mx_ne (by omega), mx_ne (by omega)]; exact t5 g g0 g1
    rw [e5]
    exact (hG g g0 g1).of (fun a q1 _ => funext fun i => fr2 a i (by unfold y_wri; omega)) (fun _ _ _ => rfl) (Int.le_refl _)
theorem Ac_placeAt_y (hL : Lay L) (hP : Ptr M) {s : Int} (h : 0 ≤ s ∧ s ≤ 15) : Ac_placeAt fu L M 31 s = some (33 + 6 * s) := by
  have l31 : L 31 = (1, 0) := hL 31 (by decide)
  have l32 : L 32 = (104, 16) := hL 32 (by decide)
  have p0 : M 31 0 = 32 := hP (31, 0, 32) (by decide +kernel)
  have h9 : ∀ k : Nat, k < 16 → (32, k, 33 + 6 * (k : Int)) ∈ zPt := by decide +kernel
  have e := hP _ (h9 s.toNat (by omega))
  have e' : M 32 s = 33 + 6 * s := by
    have z : ((s.toNat : Nat) : Int) = s := by omega
    show _ = _
    have e2 : M ((32 : Nat) : Int) ((s.toNat : Nat) : Int) = 33 + 6 * ((s.toNat : Nat) : Int) := e
    rw [z] at e2; exact e2
  unfold Ac_placeAt
  rw [if_neg (by omega), l31, if_pos rfl, p0, l32, if_pos rfl, if_pos (show s < ((104, 16) : Int × Int).2 by show s < 16; omega), if_pos (show 0 ≤ s ∧ s < ((104, 16) : Int × Int).2 by show 0 ≤ s ∧ s < 16; omega), e']
/-- the class keeps the affairs -/
theorem Ac_keep_y (hf : 400 ≤ fu) (I : y_inv L M top) : ∃ M1, Ac_keep fu L M 31 19 = some M1 ∧ (M1 31 1 = (if M 31 1 + 1 < 16 then M 31 1 + 1 else 0) ∧ M1 31 2 = min (M 31 2 + 1) 16) ∧ (∀ x i, ¬ y_wri (33 + 6 * M 31 1) x i → ¬ (x = 31 ∧ (i = 1 ∨ i = 2)) → M1 x i = M x i) ∧ y_ra L M1 (33 + 6 * M 31 1) top (M 162) (M 154 20) (M 163) (M 164) (M 165) ∧ Ptr M1 := by
  have l31 : L 31 = (1, 0) := I.lay 31 (by decide)
  have r9 := I.2.2.2.2.2.2.1.1
  have hd := zDs_slot (s := M 31 1) ⟨r9.2.2.2.1, r9.2.2.2.2⟩
  have af := y_afs_ok I.lay I.ptr hd
  obtain ⟨T, t1, t2, t3⟩ := Af_copyFrom_ok (fu := fu) (d := 33 + 6 * M 31 1) hf I.2.2.2.2.1 (by decide) (by omega) af (Or.inl (by omega))
  have e1 : T 31 1 = M 31 1 := t2 _ _ (by unfold y_wri; omega)
  have e2 : T 31 2 = M 31 2 := t2 _ _ (by unfold y_wri; omega)
  have ew : w32 (M 31 1 + 1) = M 31 1 + 1 := w32_id (by omega)
  have ew2 : w32 (M 31 2 + 1) = M 31 2 + 1 := w32_id (by omega)
  obtain ⟨y, hy⟩ : ∃ y, y = (if M 31 1 + 1 < 16 then M 31 1 + 1 else 0) := ⟨_, rfl⟩
  have b41 : ∀ v, Ac_keep_b41 fu L T 31 31 v = some (mu (mu T 31 1 v) 31 2 (min (M 31 2 + 1) 16)) := fun v => by
    have e3 : mu T 31 1 v 31 2 = M 31 2 := (mx_ne (by omega)).trans e2
    unfold Ac_keep_b41
    rw [l31, if_pos rfl, lt1_def, if_pos rfl, e3, ew2, lt1_def]
  have fr : ∀ x i, ¬ (x = 31 ∧ (i = 1 ∨ i = 2)) → mu (mu T 31 1 y) 31 2 (min (M 31 2 + 1) 16) x i = T x i := fun x i c => by rw [mx_ne (by omega), mx_ne (by omega)]
  refine ⟨mu (mu T 31 1 y) 31 2 (min (M 31 2 + 1) 16), ?_, ⟨?_, mx_same _ _ _ _⟩, fun x i c1 c2 => (fr x i c2).trans (t2 x i c1), ?_, ?_⟩
  · unfold Ac_keep
    rw [l31, if_pos rfl, Ac_placeAt_y I.lay I.ptr ⟨r9.2.2.2.1, r9.2.2.2.2⟩, bd1_some, if_neg (by omega), af.1.1, if_pos rfl, t1, bd1_some, e1, ew, b41, b41, hy]
    by_cases c : M 31 1 + 1 < 16
    · rw [if_pos c, if_pos c]
    · rw [if_neg c, if_neg c]
  · rw [mx_ne (by omega), mx_same, hy]
  · exact t3.of (fun x h0 h1 => funext fun i => fr x i (by omega)) (fun a h0 _ => funext fun i => fr a i (by omega)) (fun _ _ _ => rfl) (fun _ _ _ => rfl) (Int.le_refl _)
  · have TP := y_wri_ptr I.ptr hd t2
    exact (TP.mu (by decide +kernel)).mu (by decide +kernel)
end
