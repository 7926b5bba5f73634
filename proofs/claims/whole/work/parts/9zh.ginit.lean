/-! ===== pure: part 9zh: a new Gift ===== -/
def y_gn (P : zM) (j : Int) : Int := if j ≤ 4 then P 9 10 else if j = 5 then P 9 11 else P 9 12
def y_gl (L L' : zL) (P : zM) (top k : Int) : Prop := (∀ a, a < top → L' a = L a) ∧ L' top = (4, 0) ∧ ∀ j, 1 ≤ j → j ≤ k → L' (top + j) = (101, y_gn P j)
def y_gs (P M' : zM) (top k : Int) : Prop := (∀ a, a < top → M' a = P a) ∧ (M' top 0 = P 9 7 ∧ M' top 1 = P 9 8 ∧ M' top 2 = P 9 9 ∧ M' top 3 = P 9 10 ∧ M' top 4 = P 9 11) ∧ ∀ j, 1 ≤ j → j ≤ k → M' top (4 + j) = top + j ∧ ∀ x, 0 ≤ x → x < y_gn P j → M' (top + j) x = P (9 + j) x
section
variable {fu : Nat} {L L' : zL} {M P M' : zM} {top : Int}
theorem y_gstep (h172 : 172 ≤ top) (hT : top ≤ 1000000) {k T a f c n : Int} (l : y_gl L L' P top k) (h : y_gs P M' top k) (hk : 0 ≤ k ∧ k ≤ 5) (eT : T = top + 1 + k) (ea : a = 10 + k) (ef : f = 5 + k) (hl : L a = (101, c)) (en : n = y_gn P (k + 1)) (hn : 0 ≤ n ∧ n ≤ c ∧ c ≤ 600) :
    Ar_copyOf fu T L' M' a n = some (T + 1, lu L' T (101, n), mcp M' a n T c, T) ∧ y_gl L (lu L' T (101, n)) P top (k + 1) ∧ y_gs P (mu (mcp M' a n T c) top f T) top (k + 1) := by
  obtain ⟨l1, l2, l3⟩ := l
  obtain ⟨h1, ⟨v0, v1, v2, v3, v4⟩, h3⟩ := h
  have la : L' a = (101, c) := (l1 a (by omega)).trans hl
  have lo : ∀ b, b ≠ T → lu L' T (101, n) b = L' b := fun b hb => if_neg hb
  have mo : ∀ b, b ≠ T → ∀ x, mcp M' a n T c b x = M' b x := fun b hb x => if_neg hb
  have ms : ∀ x, 0 ≤ x → x < n → mcp M' a n T c T x = M' a x := fun x x0 x1 => by
    unfold mcp
    rw [if_pos rfl, if_pos ⟨x0, x1, by omega⟩]
  refine ⟨?_, ⟨fun b hb => (lo b (by omega)).trans (l1 b hb), (lo _ (by omega)).trans l2, fun j j0 j1 => ?_⟩, ⟨fun b hb => funext fun x => ?_, ⟨?_, ?_, ?_, ?_, ?_⟩, fun j j0 j1 => ⟨?_, fun x x0 x1 => ?_⟩⟩⟩
  · unfold Ar_copyOf
    rw [la, if_pos ⟨rfl, by omega, by omega⟩]
  · by_cases z : j = k + 1
    · rw [z, show top + (k + 1) = T by omega, ← en]; exact if_pos rfl
    · rw [lo _ (by omega)]; exact l3 j j0 (by omega)
  · rw [mx_ne (by omega), mo b (by omega), h1 b hb]
  · rw [mx_ne (by omega), mo _ (by omega)]; exact v0
  · rw [mx_ne (by omega), mo _ (by omega)]; exact v1
  · rw [mx_ne (by omega), mo _ (by omega)]; exact v2
  · rw [mx_ne (by omega), mo _ (by omega)]; exact v3
  · rw [mx_ne (by omega), mo _ (by omega)]; exact v4
  · by_cases z : j = k + 1
    · rw [show 4 + j = f by omega, mx_same]; omega
    · rw [mx_ne (by omega), mo _ (by omega)]; exact (h3 j j0 (by omega)).1
  · by_cases z : j = k + 1
    · rw [z, ← en] at x1
      rw [mx_ne (by omega), show top + j = T by omega, ms x x0 x1, h1 a (by omega), show 9 + j = a by omega]
    · rw [mx_ne (by omega), mo _ (by omega)]; exact (h3 j j0 (by omega)).2 x x0 x1
theorem Gf_init_y (hL : Lay L) (hP : ∀ j, 1 ≤ j → j ≤ 6 → P 9 j = 9 + j) (h172 : 172 ≤ top) (hT : top ≤ 1000000) (b1 : 0 ≤ P 9 10 ∧ P 9 10 ≤ 31) (b2 : 0 ≤ P 9 11 ∧ P 9 11 ≤ 16) (b3 : 0 ≤ P 9 12 ∧ P 9 12 ≤ 600) :
    ∃ L2 M2, Gf_init fu (top + 1) (lu L top (4, 0)) P top 9 = some (top + 7, L2, M2) ∧ y_gl L L2 P top 6 ∧ y_gs P M2 top 6 := by
  have l9 : L 9 = (5, 0) := hL 9 (by decide)
  have l10 : L 10 = (101, 31) := hL 10 (by decide)
  have l11 : L 11 = (101, 31) := hL 11 (by decide)
  have l12 : L 12 = (101, 31) := hL 12 (by decide)
  have l13 : L 13 = (101, 31) := hL 13 (by decide)
  have l14 : L 14 = (101, 16) := hL 14 (by decide)
  have l15 : L 15 = (101, 600) := hL 15 (by decide)
  have g0 : y_gl L (lu L top (4, 0)) P top 0 := ⟨fun a ha => if_neg (by omega), if_pos rfl, fun j j0 j1 => absurd j1 (by omega)⟩
  have e1 : mu P top 0 (P 9 7) 9 8 = P 9 8 := mx_ne (by omega)
  have e2 : mu (mu P top 0 (P 9 7)) top 1 (P 9 8) 9 9 = P 9 9 := (mx_ne (by omega)).trans (mx_ne (by omega))
  have e3 : mu (mu (mu P top 0 (P 9 7)) top 1 (P 9 8)) top 2 (P 9 9) 9 10 = P 9 10 := (mx_ne (by omega)).trans ((mx_ne (by omega)).trans (mx_ne (by omega)))
  have e4 : mu (mu (mu (mu P top 0 (P 9 7)) top 1 (P 9 8)) top 2 (P 9 9)) top 3 (P 9 10) 9 11 = P 9 11 := (mx_ne (by omega)).trans ((mx_ne (by omega)).trans ((mx_ne (by omega)).trans (mx_ne (by omega))))
  have m3 : max 0 (P 9 10) = P 9 10 := by omega
  have m4 : max 0 (P 9 11) = P 9 11 := by omega
  have m5 : max 0 (P 9 12) = P 9 12 := by omega
  obtain ⟨Q, hQ⟩ : ∃ Q, Q = mu (mu (mu (mu (mu P top 0 (P 9 7)) top 1 (P 9 8)) top 2 (P 9 9)) top 3 (P 9 10)) top 4 (P 9 11) := ⟨_, rfl⟩
  have s0 : y_gs P Q top 0 := by
    rw [hQ]
    refine ⟨fun b hb => funext fun x => ?_, ⟨?_, ?_, ?_, ?_, ?_⟩, fun j j0 j1 => absurd j1 (by omega)⟩
    · rw [mx_ne (by omega), mx_ne (by omega), mx_ne (by omega), mx_ne (by omega), mx_ne (by omega)]
    · rw [mx_ne (by omega), mx_ne (by omega), mx_ne (by omega), mx_ne (by omega), mx_same]
    · rw [mx_ne (by omega), mx_ne (by omega), mx_ne (by omega), mx_same]
    · rw [mx_ne (by omega), mx_ne (by omega), mx_same]
    · rw [mx_ne (by omega), mx_same]
    · rw [mx_same]
  have rd : ∀ {T : zM} {k : Int}, y_gs P T top k → ∀ j, T 9 j = P 9 j := fun h j => by rw [h.1 9 (by omega)]
  obtain ⟨c1, f1, t1⟩ := y_gstep (fu := fu) (T := top + 1) (a := 10) (f := 5) (n := P 9 10) h172 hT g0 s0 (by decide) (by omega) rfl rfl l10 rfl (by omega)
  obtain ⟨c2, f2, t2⟩ := y_gstep (fu := fu) (T := top + 1 + 1) (a := 11) (f := 6) (n := P 9 10) h172 hT f1 t1 (by decide) (by omega) rfl rfl l11 rfl (by omega)
  obtain ⟨c3, f3, t3⟩ := y_gstep (fu := fu) (T := top + 1 + 1 + 1) (a := 12) (f := 7) (n := P 9 10) h172 hT f2 t2 (by decide) (by omega) rfl rfl l12 rfl (by omega)
  obtain ⟨c4, f4, t4⟩ := y_gstep (fu := fu) (T := top + 1 + 1 + 1 + 1) (a := 13) (f := 8) (n := P 9 10) h172 hT f3 t3 (by decide) (by omega) rfl rfl l13 rfl (by omega)
  obtain ⟨c5, f5, t5⟩ := y_gstep (fu := fu) (T := top + 1 + 1 + 1 + 1 + 1) (a := 14) (f := 9) (n := P 9 11) h172 hT f4 t4 (by decide) (by omega) rfl rfl l14 rfl (by omega)
  obtain ⟨c6, f6, t6⟩ := y_gstep (fu := fu) (T := top + 1 + 1 + 1 + 1 + 1 + 1) (a := 15) (f := 10) (n := P 9 12) h172 hT f5 t5 (by decide) (by omega) rfl rfl l15 rfl (by omega)
  refine ⟨_, _, ?_, f6, t6⟩
  have v3 : ∀ {T : zM} {k : Int}, y_gs P T top k → T top 3 = P 9 10 := fun h => h.2.1.2.2.2.1
  have v4 : ∀ {T : zM} {k : Int}, y_gs P T top k → T top 4 = P 9 11 := fun h => h.2.1.2.2.2.2
  have l9' : ∀ {U : zL} {k : Int}, y_gl L U P top k → U 9 = (5, 0) := fun h => (h.1 9 (by omega)).trans l9
  have p1 : P 9 1 = 10 := hP 1 (by omega) (by omega)
  have p2 : P 9 2 = 11 := hP 2 (by omega) (by omega)
  have p3 : P 9 3 = 12 := hP 3 (by omega) (by omega)
  have p4 : P 9 4 = 13 := hP 4 (by omega) (by omega)
  have p5 : P 9 5 = 14 := hP 5 (by omega) (by omega)
  have p6 : P 9 6 = 15 := hP 6 (by omega) (by omega)
  unfold Gf_init
  rw [g0.2.1, if_pos rfl, l9' g0, if_pos rfl, lt1_def, e1, lt1_def, e2, lt1_def, e3, m3, lt1_def, e4, m4, lt1_def, ← hQ]
  rw [rd s0, p1, v3 s0, c1, bd4_some, f1.2.1, if_pos rfl, lt1_def, l9' f1, if_pos rfl]
  rw [rd t1, p2, v3 t1, c2, bd4_some, f2.2.1, if_pos rfl, lt1_def, l9' f2, if_pos rfl]
  rw [rd t2, p3, v3 t2, c3, bd4_some, f3.2.1, if_pos rfl, lt1_def, l9' f3, if_pos rfl]
  rw [rd t3, p4, v3 t3, c4, bd4_some, f4.2.1, if_pos rfl, lt1_def, l9' f4, if_pos rfl]
  rw [rd t4, p5, v4 t4, c5, bd4_some, f5.2.1, if_pos rfl, lt1_def, l9' f5, if_pos rfl]
  rw [rd t5, p6, rd t5, m5, c6, bd4_some, f6.2.1, if_pos rfl, lt1_def]
  rw [show top + 1 + 1 + 1 + 1 + 1 + 1 + 1 = top + 7 by omega]
end
