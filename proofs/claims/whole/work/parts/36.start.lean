/-! ===== the start ===== -/
theorem zlt_1 {w : Cond} (i : Nat) (h0 : tables_1_1[i]? = some w) : w ∈ lw_tbl := by
  have h := List.mem_of_getElem? h0
  exact List.mem_append_right _ (by unfold tables_1; exact List.mem_append_left _ h)
theorem zlt_2 {w : Cond} (i : Nat) (h0 : tables_1_2[i]? = some w) : w ∈ lw_tbl := by
  have h := List.mem_of_getElem? h0
  exact List.mem_append_right _ (by unfold tables_1; exact List.mem_append_right _ (List.mem_append_left _ h))
theorem zlt_3 {w : Cond} (i : Nat) (h0 : tables_1_3[i]? = some w) : w ∈ lw_tbl := by
  have h := List.mem_of_getElem? h0
  exact List.mem_append_right _ (by unfold tables_1; exact List.mem_append_right _ (List.mem_append_right _ (List.mem_append_left _ h)))
theorem zlt_4 {w : Cond} (i : Nat) (h0 : tables_1_4[i]? = some w) : w ∈ lw_tbl := by
  have h := List.mem_of_getElem? h0
  exact List.mem_append_right _ (by unfold tables_1; exact List.mem_append_right _ (List.mem_append_right _ (List.mem_append_right _ (List.mem_append_left _ h))))
theorem zlt_5 {w : Cond} (i : Nat) (h0 : tables_1_5[i]? = some w) : w ∈ lw_tbl := by
  have h := List.mem_of_getElem? h0
  exact List.mem_append_right _ (by unfold tables_1; exact List.mem_append_right _ (List.mem_append_right _ (List.mem_append_right _ (List.mem_append_right _ (List.mem_append_left _ h)))))
theorem zlt_6 {w : Cond} (i : Nat) (h0 : tables_1_6[i]? = some w) : w ∈ lw_tbl := by
  have h := List.mem_of_getElem? h0
  exact List.mem_append_right _ (by unfold tables_1; exact List.mem_append_right _ (List.mem_append_right _ (List.mem_append_right _ (List.mem_append_right _ (List.mem_append_right _ (List.mem_append_left _ h))))))
theorem zlt_7 {w : Cond} (i : Nat) (h0 : tables_1_7[i]? = some w) : w ∈ lw_tbl := by
  have h := List.mem_of_getElem? h0
  exact List.mem_append_right _ (by unfold tables_1; exact List.mem_append_right _ (List.mem_append_right _ (List.mem_append_right _ (List.mem_append_right _ (List.mem_append_right _ (List.mem_append_right _ (List.mem_append_left _ h)))))))
theorem zlt_8 {w : Cond} (i : Nat) (h0 : tables_1_8[i]? = some w) : w ∈ lw_tbl := by
  have h := List.mem_of_getElem? h0
  exact List.mem_append_right _ (by unfold tables_1; exact List.mem_append_right _ (List.mem_append_right _ (List.mem_append_right _ (List.mem_append_right _ (List.mem_append_right _ (List.mem_append_right _ (List.mem_append_right _ (List.mem_append_left _ h))))))))
theorem zlt_9 {w : Cond} (i : Nat) (h0 : tables_1_9[i]? = some w) : w ∈ lw_tbl := by
  have h := List.mem_of_getElem? h0
  exact List.mem_append_right _ (by unfold tables_1; exact List.mem_append_right _ (List.mem_append_right _ (List.mem_append_right _ (List.mem_append_right _ (List.mem_append_right _ (List.mem_append_right _ (List.mem_append_right _ (List.mem_append_right _ (List.mem_append_left _ h)))))))))
theorem zlt_10 {w : Cond} (i : Nat) (h0 : tables_1_10[i]? = some w) : w ∈ lw_tbl := by
  have h := List.mem_of_getElem? h0
  exact List.mem_append_right _ (by unfold tables_1; exact List.mem_append_right _ (List.mem_append_right _ (List.mem_append_right _ (List.mem_append_right _ (List.mem_append_right _ (List.mem_append_right _ (List.mem_append_right _ (List.mem_append_right _ (List.mem_append_right _ (h))))))))))
theorem zsr_mem : ∀ (i : Nat) (q : String × Nat × String), zsite[i]? = some q → Cond.stringRef q.1 q.2.1 q.2.2 ∈ lw_tbl
  | 0, _, h => by cases h; exact zlt_3 12 rfl
  | 1, _, h => by cases h; exact zlt_3 86 rfl
  | 2, _, h => by cases h; exact zlt_3 110 rfl
  | 3, _, h => by cases h; exact zlt_3 111 rfl
  | 4, _, h => by cases h; exact zlt_3 121 rfl
  | 5, _, h => by cases h; exact zlt_3 139 rfl
  | 6, _, h => by cases h; exact zlt_3 149 rfl
  | 7, _, h => by cases h; exact zlt_3 154 rfl
  | 8, _, h => by cases h; exact zlt_3 155 rfl
  | 9, _, h => by cases h; exact zlt_3 156 rfl
  | 10, _, h => by cases h; exact zlt_3 157 rfl
  | 11, _, h => by cases h; exact zlt_3 166 rfl
  | 12, _, h => by cases h; exact zlt_3 177 rfl
  | 13, _, h => by cases h; exact zlt_3 190 rfl
  | 14, _, h => by cases h; exact zlt_3 195 rfl
  | 15, _, h => by cases h; exact zlt_3 196 rfl
  | 16, _, h => by cases h; exact zlt_7 185 rfl
  | 17, _, h => by cases h; exact zlt_7 212 rfl
  | 18, _, h => by cases h; exact zlt_7 217 rfl
  | 19, _, h => by cases h; exact zlt_7 218 rfl
  | 20, _, h => by cases h; exact zlt_7 227 rfl
  | 21, _, h => by cases h; exact zlt_8 8 rfl
  | 22, _, h => by cases h; exact zlt_8 9 rfl
  | 23, _, h => by cases h; exact zlt_8 10 rfl
  | 24, _, h => by cases h; exact zlt_8 11 rfl
  | 25, _, h => by cases h; exact zlt_8 12 rfl
  | 26, _, h => by cases h; exact zlt_8 17 rfl
  | 27, _, h => by cases h; exact zlt_8 18 rfl
  | 28, _, h => by cases h; exact zlt_8 27 rfl
  | 29, _, h => by cases h; exact zlt_8 32 rfl
  | 30, _, h => by cases h; exact zlt_8 33 rfl
  | 31, _, h => by cases h; exact zlt_8 152 rfl
  | 32, _, h => by cases h; exact zlt_8 165 rfl
  | 33, _, h => by cases h; exact zlt_8 166 rfl
  | 34, _, h => by cases h; exact zlt_8 167 rfl
  | 35, _, h => by cases h; exact zlt_8 176 rfl
  | 36, _, h => by cases h; exact zlt_8 181 rfl
  | 37, _, h => by cases h; exact zlt_8 186 rfl
  | 38, _, h => by cases h; exact zlt_8 187 rfl
  | 39, _, h => by cases h; exact zlt_8 188 rfl
  | 40, _, h => by cases h; exact zlt_8 189 rfl
  | (i + 41), _, h => by have h1 := (List.getElem?_eq_some_iff.mp h).1; exact absurd h1 (by show ¬ (i + 41 < 41); omega)
theorem zNW_tbl : ∀ w ∈ zNW, w ∈ lw_tbl := by
  intro w hw
  simp only [zNW, List.mem_cons, List.not_mem_nil, or_false] at hw
  rcases hw with rfl | rfl | rfl | rfl | rfl | rfl | rfl | rfl | rfl | rfl | rfl | rfl
  · exact zlt_1 36 rfl
  · exact zlt_1 180 rfl
  · exact zlt_1 186 rfl
  · exact zlt_2 12 rfl
  · exact zlt_2 25 rfl
  · exact zlt_2 28 rfl
  · exact zlt_2 94 rfl
  · exact zlt_4 66 rfl
  · exact zlt_6 137 rfl
  · exact zlt_6 138 rfl
  · exact zlt_6 140 rfl
  · exact zlt_6 142 rfl
theorem zls_cs : Cond.laysStatic "java/lang/String" "COMPACT_STRINGS" "Z" ∈ lw_tbl := zlt_3 26 rfl
theorem zls_si : Cond.laysStatic "jdk/internal/util/Preconditions" "SIOOBE_FORMATTER" "Ljava/util/function/BiFunction;" ∈ lw_tbl := zlt_3 42 rfl
theorem zls_us : Cond.laysStatic "java/lang/Throwable" "UNASSIGNED_STACK" "[Ljava/lang/StackTraceElement;" ∈ lw_tbl := zlt_6 162 rfl
theorem zls_ss : Cond.laysStatic "java/lang/Throwable" "SUPPRESSED_SENTINEL" "Ljava/util/List;" ∈ lw_tbl := zlt_6 164 rfl
theorem zin_cs : Cond.initialized "java/lang/String" ∈ lw_tbl := zlt_1 13 rfl
theorem zin_si : Cond.initialized "jdk/internal/util/Preconditions" ∈ lw_tbl := zlt_1 15 rfl
theorem zin_us : Cond.initialized "java/lang/Throwable" ∈ lw_tbl := zlt_1 21 rfl
theorem zao_G : Cond.arrayOver (.object "LaterLives$Gift") ∈ lw_tbl := zlt_1 219 rfl
theorem zao_A : Cond.arrayOver (.object "LaterLives$Affairs") ∈ lw_tbl := zlt_2 11 rfl
theorem zac_I : Cond.arrayClass .int ∈ lw_tbl := zlt_1 74 rfl
theorem zac_J : Cond.arrayClass .long ∈ lw_tbl := zlt_10 28 rfl
def zsw (q : String × Nat × String) (bs : List Nat) : List Cond := [.exactly (.string q.1 q.2.1) "java/lang/String", .eq (.field (.string q.1 q.2.1) "java/lang/String" "coder" "B") (.int 0), .arrayOf (.field (.string q.1 q.2.1) "java/lang/String" "value" "[B") .byte, .eq (.length (.field (.string q.1 q.2.1) "java/lang/String" "value" "[B")) (.int (Int32.ofNat bs.length))] ++ (List.range bs.length).map (fun j => .eq (.elem (.field (.string q.1 q.2.1) "java/lang/String" "value" "[B") (.int (Int32.ofNat j))) (.int (Int32.ofNat (bs.getD j 0))))
def zsq (i : Nat) : String × Nat × String := zsite.getD i ("", 0, "")
def zsf : Cond → Bool
  | .eq (.string _ _) (.string _ _) => false
  | _ => true
set_option maxRecDepth 100000 in
theorem zsw_all : ((flatC narrow_1).drop 52).filter zsf = (List.range 41).flatMap (fun i => zsw (zsq i) (zstr.getD i [])) := by decide +kernel
theorem zsw_mem {i : Nat} (hi : i < 41) {w : Cond} (h : w ∈ zsw (zsq i) (zstr.getD i [])) : w ∈ flatC narrow_1 := List.mem_of_mem_drop (i := 52) ((List.mem_filter (p := zsf)).mp (by rw [zsw_all]; exact List.mem_flatMap.mpr ⟨i, List.mem_range.mpr hi, h⟩)).1
theorem zstart_str {args : Array Value} {s : State} {A : Nat → Prop} (hn : ∀ w ∈ flatC narrow_1, w.before args s = true) (hA : ∀ a : Nat, a < s.heap.size → ¬ A a) : ∃ ad : Nat → Nat × Nat, ∀ i : Nat, i < 41 → (Term.string (zsq i).1 (zsq i).2.1).eval args s none [] s = some (.ref (ad i).1) ∧ va_O "java/lang/String" (ad i).1 A s s.heap ∧ va_OF "java/lang/String" "coder" "B" (.int 0) (ad i).1 A s s.heap ∧ va_OF "java/lang/String" "value" "[B" (.ref (ad i).2) (ad i).1 A s s.heap ∧ va_T .byte (ad i).2 (zstr.getD i []).length (fun j => .int (Int32.ofNat ((zstr.getD i []).getD j 0))) A s s.heap := by
  have h0 : ∀ i : Nat, ∃ q : Nat × Nat, i < 41 → (Term.string (zsq i).1 (zsq i).2.1).eval args s none [] s = some (.ref q.1) ∧ va_O "java/lang/String" q.1 A s s.heap ∧ va_OF "java/lang/String" "coder" "B" (.int 0) q.1 A s s.heap ∧ va_OF "java/lang/String" "value" "[B" (.ref q.2) q.1 A s s.heap ∧ va_T .byte q.2 (zstr.getD i []).length (fun j => .int (Int32.ofNat ((zstr.getD i []).getD j 0))) A s s.heap := by
    intro i
    by_cases hi : i < 41
    · have w1 := hn _ (zsw_mem hi (w := .exactly (.string (zsq i).1 (zsq i).2.1) "java/lang/String") (by simp [zsw]))
      have w2 := hn _ (zsw_mem hi (w := .eq (.field (.string (zsq i).1 (zsq i).2.1) "java/lang/String" "coder" "B") (.int 0)) (by simp [zsw]))
      have w3 := hn _ (zsw_mem hi (w := .arrayOf (.field (.string (zsq i).1 (zsq i).2.1) "java/lang/String" "value" "[B") .byte) (by simp [zsw]))
      have w4 := hn _ (zsw_mem hi (w := .eq (.length (.field (.string (zsq i).1 (zsq i).2.1) "java/lang/String" "value" "[B")) (.int (Int32.ofNat (zstr.getD i []).length))) (by simp [zsw]))
      have w5 : ∀ j : Nat, j < (zstr.getD i []).length → (Term.elem (.field (.string (zsq i).1 (zsq i).2.1) "java/lang/String" "value" "[B") (.int (Int32.ofNat j))).eval args s none [] s = some (.int (Int32.ofNat ((zstr.getD i []).getD j 0))) := fun j hj => va_eqt (hn _ (zsw_mem hi (List.mem_append_right _ (List.mem_map.mpr ⟨j, List.mem_range.mpr hj, rfl⟩))))
      obtain ⟨a, c, cA, kA, q1, q2, q3, q4, q5, q6, -⟩ := Cond.exactly_spec (args := args) (first := s) (o := none) (s := s) (idx := []) (t := .string (zsq i).1 (zsq i).2.1) (cls := "java/lang/String") w1
      have hlen : ∀ i, i < 41 → (zstr.getD i []).length < 2 ^ 31 := by decide +kernel
      obtain ⟨t, ht, hT⟩ := va_Tof (A := A) (hlen i hi) w3 (va_eqt w4) w5 hA
      exact ⟨(a, t), fun _ => ⟨q1, ⟨cA, q3, q5, by rw [q6]; exact q2, hA a (Array.getElem?_eq_some_iff.mp q3).1⟩, vk_OFof q1 (va_eqt w2) hA, vk_OFof q1 ht hA, hT⟩⟩
    · exact ⟨(0, 0), fun h => absurd h hi⟩
  exact Classical.axiomOfChoice h0
theorem zstart_arr {args : Array Value} {s : State} {ty : FieldType} (hty : ty = .int ∨ ty = .long) (h : (Cond.arrayClass ty).before args s = true) : ∃ cA : ClassId, ArrOfT s cA ty ∧ va_RA s cA ty := by
  obtain ⟨cA, kA, comp, h1, h2, h3⟩ := Cond.arrayClass_spec h
  rcases hty with rfl | rfl <;> exact ⟨cA, fun n z => ⟨fun k h => (by cases h), kA, h2, comp, h3⟩, h1⟩
theorem zstart_arrQ {args : Array Value} {s : State} {C : String} (h : (Cond.arrayOver (.object C)).before args s = true) : ∃ cA : ClassId, ArrOfT s cA (.object C) ∧ va_RA s cA (.object C) := by
  obtain ⟨comp, cA, kA, h1, h2, h3, h4, h5⟩ := Cond.arrayOver_spec h
  exact ⟨cA, fun n z => ⟨fun k h => (by cases h), kA, h3, comp, h4⟩, kA, comp, h3, h4, h1, h5⟩
theorem zstart_k {args : Array Value} {s : State} {c : Nat} {C : String} {T : u_T} {N n : Nat} (ht : ∀ w ∈ lw_tbl, w.before args s = true) (F : zcl[c]? = some (C, T, N)) (hin : ∀ w ∈ u_ws C T N, w ∈ zTB) (hi : Cond.instantiable C n ∈ lw_tbl) : ∃ p : ClassId × (Nat → Nat), ∀ q : vw_C, zcl[c]? = some q → u_Kn s q.1 q.2.1 q.2.2 p.1 p.2 := by
  obtain ⟨cC, iS, h⟩ := u_known (ws := lw_tbl) (C := C) (T := T) (N := N) ht (fun w hw => (List.mem_filter.mp (hin w hw)).1) (ht _ hi)
  exact ⟨(cC, iS), fun q hq => by cases Option.some.inj (F.symm.trans hq); exact h⟩
theorem zstart_D {args : Array Value} {s : State} (ht : ∀ w ∈ lw_tbl, w.before args s = true) : ∃ D : Nat → ClassId × (Nat → Nat), ∀ (c : Nat) (q : vw_C), zcl[c]? = some q → u_Kn s q.1 q.2.1 q.2.2 (D c).1 (D c).2 := by
  have h0 : ∀ c : Nat, ∃ p : ClassId × (Nat → Nat), ∀ q : vw_C, zcl[c]? = some q → u_Kn s q.1 q.2.1 q.2.2 p.1 p.2 := fun c => match c with
    | 0 => zstart_k ht zck_0.1 zck_0.2.1 (zlt_2 5 rfl)
    | 1 => zstart_k ht zck_1.1 zck_1.2.1 (zlt_1 179 rfl)
    | 2 => zstart_k ht zck_2.1 zck_2.2.1 (zlt_1 76 rfl)
    | 3 => zstart_k ht zck_3.1 zck_3.2.1 (zlt_4 50 rfl)
    | 4 => zstart_k ht zck_4.1 zck_4.2.1 (zlt_1 98 rfl)
    | 5 => zstart_k ht zck_5.1 zck_5.2.1 (zlt_2 27 rfl)
    | 6 => zstart_k ht zck_6.1 zck_6.2.1 (zlt_1 156 rfl)
    | 7 => zstart_k ht zck_7.1 zck_7.2.1 (zlt_1 35 rfl)
    | 8 => zstart_k ht zck_8.1 zck_8.2.1 (zlt_2 88 rfl)
    | 9 => zstart_k ht zck_9.1 zck_9.2.1 (zlt_2 55 rfl)
    | 10 => zstart_k ht zck_10.1 zck_10.2.1 (zlt_1 185 rfl)
    | 11 => zstart_k ht zck_11.1 zck_11.2.1 (zlt_1 27 rfl)
    | 12 => zstart_k ht zck_12.1 zck_12.2.1 (zlt_6 201 rfl)
    | 13 => zstart_k (C := "java/util/NoSuchElementException") (N := 0) ht rfl (fun w hw => nomatch hw) (zlt_6 136 rfl)
    | (c + 14) => ⟨(0, fun _ => 0), fun q hq => absurd (List.getElem?_eq_some_iff.mp hq).1 (by show ¬ (c + 14 < 14); omega)⟩
  exact Classical.axiomOfChoice h0
