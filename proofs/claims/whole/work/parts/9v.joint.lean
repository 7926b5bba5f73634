/-! ===== pure: part 9v: what a word joins ===== -/
section
variable {fu : Nat} {L : zL} {M0 M M1 M2 M4 M4' M5 N N1 N2 N3 N4 : zM} {top b b1 b2 b4 : Int}
theorem y_gfr.tq {A B : zM} (_h : y_gfr A B) {l : List Int} (t : y_tq A B l) : A 9 12 ≤ B 9 12 := by have := t.1; omega
theorem y_joint_c {kd : Int} {l : List Int} (g0 : y_gc0 M b) (R1 : y_gc1 M M1 b1) (t12 : y_tf M1 M2) (q12 : y_tq M1 M2 l) (R2 : y_gc1 M2 M4 b4) (pt : ∀ a i, ¬ (a = 9 ∧ i = 11) → a ≠ 14 → M4' a i = M4 a i) (ns : y_ns M4' M5 kd 0 (-1) (M1 9 10 - 1)) : y_gc1 M M5 b4 := by
  obtain ⟨a1, a2, a3, a4⟩ := R1
  obtain ⟨c1, c2, c3, c4⟩ := R2
  have e9 : M2 9 9 = M1 9 9 := t12 _ _ (by omega) (by omega) (by omega)
  have e10 : M2 9 10 = M1 9 10 := t12 _ _ (by omega) (by omega) (by omega)
  have f9 : M5 9 9 = M4 9 9 := (ns.2.2 _ _ (by omega) (by omega)).trans (pt _ _ (by omega) (by omega))
  have f10 : M5 9 10 = M4 9 10 + 1 := by rw [ns.2.1, pt 9 10 (by omega) (by omega)]
  have f12 : M5 9 12 = M4 9 12 := (ns.2.2 _ _ (by omega) (by omega)).trans (pt _ _ (by omega) (by omega))
  have h12 := q12.1
  have p10 : M4' 9 10 = M4 9 10 := pt 9 10 (by omega) (by omega)
  refine ⟨by omega, by omega, by omega, fun a i q1 q2 q3 q4 q5 => ?_⟩
  rw [ns.2.2 a i (by omega) (by omega), pt a i (by omega) q4, c4 a i q1 q2 (by omega) q4 (by omega)]
  by_cases c15 : a = 15
  · rw [c15, q12.2.1 i (by omega), ← c15]
    exact a4 a i q1 q2 q3 q4 q5
  · rw [t12 a i q1 (by omega) c15]
    exact a4 a i q1 q2 q3 q4 q5
theorem y_joint_m {mdA mdB d : Nat} {sg kd : Int} {wd : List Int}
    (hps : ∀ {S K Q A F : Int → Int} {i m j p r q : Int}, y_psg S K Q A F (M0 154 20) mdA d i m p r → y_psg S K Q A F (M0 154 20) mdB d (m + 1) j r q → i ≤ m → m + 1 ≤ j → p ≤ r → r ≤ q → S m = sg → K q = kd → F q = r - 1 → y_psg S K Q A F (M0 154 20) mdA d i j p (q + 1))
    (R1 : y_gc1 M M1 b1) (t12 : y_tf M1 M2) (q12 : y_tq M1 M2 ([32] ++ wd)) (R2 : y_gc1 M2 M4 b4) (pt : ∀ a i, ¬ (a = 9 ∧ i = 11) → a ≠ 14 → M4' a i = M4 a i) (ns : y_ns M4' M5 kd 0 (-1) (M1 9 10 - 1))
    (h0 : 0 ≤ N 159 4) (r1 : y_gr1 M0 mdA d M M1 N N1 b1) (n12 : NOff N1 N2) (ly : y_ly N2 N3 sg) (r2 : y_gr1 M0 mdB d M2 M4 N3 N4 b4) (htg : y_tsg (M0 163) sg = wd) : y_gr1 M0 mdA d M M5 N N4 b4 := by
  obtain ⟨⟨a1, a2, a3⟩, a4, a5, a6⟩ := r1
  obtain ⟨⟨c1, c2, c3⟩, c4, c5, c6⟩ := r2
  obtain ⟨y1, y2, y3⟩ := ly
  have m2 : N2 159 4 = N1 159 4 := n12 _ _ (by omega)
  have m3 : N3 159 4 = N1 159 4 + 1 := by omega
  have e10 : M2 9 10 = M1 9 10 := t12 _ _ (by omega) (by omega) (by omega)
  have p10 : M4' 9 10 = M4 9 10 := pt 9 10 (by omega) (by omega)
  have f10 : M5 9 10 = M4 9 10 + 1 := by rw [ns.2.1, p10]
  have f9 : M5 9 9 = M4 9 9 := (ns.2.2 _ _ (by omega) (by omega)).trans (pt _ _ (by omega) (by omega))
  have st1 := R1.2.1
  have st2 := R2.2.1
  have s31 : ∀ x, 0 ≤ x → x < N1 159 4 → N3 159 (5 + x) = N1 159 (5 + x) := fun x x0 hx => by
    rw [y3 159 (5 + x) (by omega)]; exact n12 _ _ (by omega)
  have s43 : ∀ x, 0 ≤ x → x < N3 159 4 → N4 159 (5 + x) = N3 159 (5 + x) := fun x x0 hx => c4 _ (by omega)
  have s4m : N4 159 (5 + N1 159 4) = sg := by
    rw [s43 _ (by omega) (by omega), ← m2]; exact y1
  have k15 : M5 9 12 = M4 9 12 ∧ M5 15 = M4 15 := ⟨(ns.2.2 _ _ (by omega) (by omega)).trans (pt _ _ (by omega) (by omega)), funext fun i => (ns.2.2 _ _ (by omega) (by omega)).trans (pt _ _ (by omega) (by omega))⟩
  have k54 : ∀ x a, 10 ≤ a ∧ a ≤ 13 → x < M4 9 10 → M5 a x = M4 a x := fun x a ha hx => (ns.2.2 a x (by omega) (by omega)).trans (pt a x (by omega) (by omega))
  have k41 : ∀ x a, 10 ≤ a ∧ a ≤ 13 → x < M1 9 10 → M4 a x = M1 a x := fun x a ha hx => (R2.2.2.2 a x (by omega) (by omega) (by omega) (by omega) (by omega)).trans (t12 a x (by omega) (by omega) (by omega))
  refine ⟨⟨by rw [f9]; exact c1, ⟨by omega, c2.2⟩, ?_⟩, fun x hx => ?_, ?_, ?_⟩
  · rw [c3, y3 154 13 (by omega), n12 _ _ (by omega)]; exact a3
  · rw [c4 x (by omega), y3 159 x (by omega), n12 _ _ (by omega)]; exact a4 x hx
  · have z := hps (S := fun x => N4 159 (5 + x)) (K := M5 10) (Q := M5 11) (A := M5 12) (F := M5 13) (i := N 159 4) (m := N1 159 4) (j := N4 159 4) (p := M 9 10) (r := M1 9 10) (q := M4 9 10)
      (a5.ext (fun x x0 x1 => (s43 x (by omega) (by omega)).trans (s31 x (by omega) x1)) (fun x x0 x1 => ⟨(k54 x 10 (by decide) (by omega)).trans (k41 x 10 (by decide) x1), (k54 x 11 (by decide) (by omega)).trans (k41 x 11 (by decide) x1), (k54 x 12 (by decide) (by omega)).trans (k41 x 12 (by decide) x1), (k54 x 13 (by decide) (by omega)).trans (k41 x 13 (by decide) x1)⟩))
      (by rw [← m3, ← e10]; exact c5.ext (fun x x0 x1 => rfl) (fun x x0 x1 => ⟨k54 x 10 (by decide) x1, k54 x 11 (by decide) x1, k54 x 12 (by decide) x1, k54 x 13 (by decide) x1⟩))
      (by omega) (by omega) (by omega) (by omega) s4m (by rw [← p10]; exact ns.1.1) (by rw [← p10]; exact ns.1.2.2.2)
    rw [f10]; exact z
  · have e1 : y_tsl (M0 163) (fun x => N1 159 (5 + x)) (N1 159 4 - N 159 4).toNat (N 159 4) = y_tsl (M0 163) (fun x => N4 159 (5 + x)) (N1 159 4 - N 159 4).toNat (N 159 4) :=
      y_tsl_congr _ _ (fun x x0 x1 => ((s43 x (by omega) (by omega)).trans (s31 x (by omega) (by omega))).symm)
    rw [e1] at a6
    have t := (a6.trans q12).trans c6
    have el : y_tsl (M0 163) (fun x => N4 159 (5 + x)) (N4 159 4 - N 159 4).toNat (N 159 4) = y_tsl (M0 163) (fun x => N4 159 (5 + x)) (N1 159 4 - N 159 4).toNat (N 159 4) ++ ([32] ++ wd) ++ y_tsl (M0 163) (fun x => N4 159 (5 + x)) (N4 159 4 - N3 159 4).toNat (N3 159 4) := by
      rw [show (N4 159 4 - N 159 4).toNat = (N1 159 4 - N 159 4).toNat + (1 + (N4 159 4 - N3 159 4).toNat) by omega, y_tsl_app, y_tsl_app, show N 159 4 + (((N1 159 4 - N 159 4).toNat : Nat) : Int) = N1 159 4 by omega, show N1 159 4 + ((1 : Nat) : Int) = N3 159 4 by omega, y_tsl_1]
      show _ ++ (32 :: y_tsg (M0 163) (N4 159 (5 + N1 159 4)) ++ _) = _
      rw [s4m, htg, List.append_assoc]; rfl
    rw [el]
    obtain ⟨u1, u2, u3⟩ := t
    exact ⟨k15.1.trans u1, fun x hx => by rw [k15.2]; exact u2 x hx, fun x hx => by rw [k15.2]; exact u3 x hx⟩
end
