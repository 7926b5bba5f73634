/-! ===== pure: part 87: late courses, the class ===== -/
noncomputable def y_cnt (P : Int → Prop) : Int := y_fo (fun c s => s + y_ind (P c)) 512 0 0
section
variable {fu : Nat} {L : zL} {M : zM} {lv : Int} {w K Q A F : Int → Int} {m ln wh li per lim op : Int}
theorem Tr_firstLateCourse_ok (hf : 600 ≤ fu) (hL : Lay L) (hP : Ptr M) (te : y_te lv w K Q A F m ln) (hper : 0 ≤ per ∧ per ≤ 99) (t : y_tr L M lv w K Q A F m ln wh li per lim op) :
    ∃ M' r, Tr_firstLateCourse fu L M 142 = some (M', r) ∧ y_fst (fun c => y_isc lv c ∧ y_late lv w K Q A F m ln wh li per lim op c) 512 r ∧ y_oa M M' := by
  have l42 : L 142 = (9, 0) := hL 142 (by decide)
  have hlv := te.1.1
  have go : ∀ (k c' : Nat) (T : zM) (i : Int), 0 ≤ i → i + k = 512 → k < c' → y_oa M T → (∀ j, 0 ≤ j → j < i → ¬ (y_isc lv j ∧ y_late lv w K Q A F m ln wh li per lim op j)) →
      ∃ M' r, Tr_firstLateCourse_l2 fu L c' T 142 i = some (M', r) ∧ y_fst (fun c => y_isc lv c ∧ y_late lv w K Q A F m ln wh li per lim op c) 512 r ∧ y_oa M M' := by
    intro k
    induction k with
    | zero =>
      intro c' T i i0 iN hc o hall
      obtain ⟨c', rfl⟩ : ∃ c'', c' = c'' + 1 := ⟨c' - 1, by omega⟩
      refine ⟨T, -1, ?_, Or.inl ⟨rfl, fun k k0 k1 => hall k k0 (by omega)⟩, o⟩
      show Tr_firstLateCourse_s2 _ _ _ _ _ _ = _
      unfold Tr_firstLateCourse_s2
      rw [if_neg (by omega)]
    | succ k ih =>
      intro c' T i i0 iN hc o hall
      obtain ⟨c', rfl⟩ : ∃ c'', c' = c'' + 1 := ⟨c' - 1, by omega⟩
      have PT := o.off.ptr hP
      have tT := t.oa o
      have eC := Tr_isCourse_ok (fu := fu) hL PT (by omega) tT i
      obtain ⟨T', t1, t2⟩ := Tr_isLateBy_ok (fu := fu) (by omega) hL PT te hper tT i
      have ew : w32 (i + 1) = i + 1 := w32_id (by omega)
      have i512 : i < 512 := by omega
      have e0 : Tr_firstLateCourse_l2 fu L (c' + 1) T 142 i = if y_ind (y_isc lv i) = 0 then Tr_firstLateCourse_l2 fu L c' T 142 (i + 1) else if y_ind (y_late lv w K Q A F m ln wh li per lim op i) = 0 then Tr_firstLateCourse_l2 fu L c' T' 142 (i + 1) else some (T', i) := by
        show Tr_firstLateCourse_s2 _ _ _ _ _ _ = _
        unfold Tr_firstLateCourse_s2
        simp only [i512, l42, ↓reduceIte, ↓bd1_eq eC, ↓bd2_eq t1, ↓lt1_def, ew]
      rw [e0]
      have nx : ¬ (y_isc lv i ∧ y_late lv w K Q A F m ln wh li per lim op i) → ∀ j, 0 ≤ j → j < i + 1 → ¬ (y_isc lv j ∧ y_late lv w K Q A F m ln wh li per lim op j) := fun hn j j0 j1 => by
        by_cases cj : j = i
        · subst cj; exact hn
        · exact hall j j0 (by omega)
      rcases Classical.em (y_isc lv i) with c1 | c1
      · rw [y_ind_1 c1, if_neg (by decide)]
        rcases Classical.em (y_late lv w K Q A F m ln wh li per lim op i) with c2 | c2
        · rw [y_ind_1 c2, if_neg (by decide)]
          exact ⟨T', i, rfl, Or.inr ⟨i0, i512, ⟨c1, c2⟩, fun j j0 j1 => hall j j0 j1⟩, o.trans t2⟩
        · rw [y_ind_0 c2, if_pos rfl]
          exact ih c' T' (i + 1) (by omega) (by omega) (by omega) (o.trans t2) (nx fun z => c2 z.2)
      · rw [y_ind_0 c1, if_pos rfl]
        exact ih c' T (i + 1) (by omega) (by omega) (by omega) o (nx fun z => c1 z.1)
  exact go 512 fu M 0 (by omega) (by omega) (by omega) (y_oa.refl M) (fun j j0 j1 => absurd j1 (by omega))
theorem Tr_lateCourses_ok (hf : 600 ≤ fu) (hL : Lay L) (hP : Ptr M) (te : y_te lv w K Q A F m ln) (hper : 0 ≤ per ∧ per ≤ 99) (t : y_tr L M lv w K Q A F m ln wh li per lim op) :
    ∃ M', Tr_lateCourses fu L M 142 = some (M', y_cnt (fun c => y_isc lv c ∧ y_late lv w K Q A F m ln wh li per lim op c)) ∧ y_oa M M' := by
  have l42 : L 142 = (9, 0) := hL 142 (by decide)
  have hlv := te.1.1
  unfold y_cnt Tr_lateCourses
  generalize h512 : (512 : Nat) = z512
  refine y_lpm0 (F := fun n T s i => Tr_lateCourses_l4 fu L n T 142 s i) (fin := fun s => s) (st := fun c s => s + y_ind (y_isc lv c ∧ y_late lv w K Q A F m ln wh li per lim op c)) (N := 512) (fun T => y_oa M T) (fun i s => 0 ≤ s ∧ s ≤ i) (fun n T s i o i0 iN hI => ?_) (fun n T s i o iN hI => ?_) z512 fu M 0 0 (y_oa.refl M) (by omega) (by omega) (by omega) (by omega)
  · have PT := o.off.ptr hP
    have tT := t.oa o
    have eC := Tr_isCourse_ok (fu := fu) hL PT (by omega) tT i
    obtain ⟨T', t1, t2⟩ := Tr_isLateBy_ok (fu := fu) (by omega) hL PT te hper tT i
    have ew : w32 (i + 1) = i + 1 := w32_id (by omega)
    have es : w32 (s + 1) = s + 1 := w32_id (by omega)
    have e0 : Tr_lateCourses_l4 fu L (n + 1) T 142 s i = if y_ind (y_isc lv i) = 0 then Tr_lateCourses_l4 fu L n T 142 s (i + 1) else if y_ind (y_late lv w K Q A F m ln wh li per lim op i) = 0 then Tr_lateCourses_l4 fu L n T' 142 s (i + 1) else Tr_lateCourses_l4 fu L n T' 142 (s + 1) (i + 1) := by
      show Tr_lateCourses_s4 _ _ _ _ _ _ _ = _
      unfold Tr_lateCourses_s4
      simp only [iN, l42, ↓reduceIte, ↓bd1_eq eC, ↓bd2_eq t1, ↓lt1_def, ew, es]
    rcases Classical.em (y_isc lv i) with c1 | c1
    · rcases Classical.em (y_late lv w K Q A F m ln wh li per lim op i) with c2 | c2
      · rw [y_ind_1 (p := y_isc lv i ∧ y_late lv w K Q A F m ln wh li per lim op i) ⟨c1, c2⟩]
        exact ⟨T', by rw [e0, y_ind_1 c1, if_neg (by decide), y_ind_1 c2, if_neg (by decide)], o.trans t2, by omega⟩
      · rw [y_ind_0 (p := y_isc lv i ∧ y_late lv w K Q A F m ln wh li per lim op i) (fun z => c2 z.2)]
        exact ⟨T', by rw [e0, y_ind_1 c1, if_neg (by decide), y_ind_0 c2, if_pos rfl, show s + 0 = s by omega], o.trans t2, by omega⟩
    · rw [y_ind_0 (p := y_isc lv i ∧ y_late lv w K Q A F m ln wh li per lim op i) (fun z => c1 z.1)]
      exact ⟨T, by rw [e0, y_ind_0 c1, if_pos rfl, show s + 0 = s by omega], o, by omega⟩
  · refine ⟨T, ?_, o⟩
    show Tr_lateCourses_s4 _ _ _ _ _ _ _ = _
    unfold Tr_lateCourses_s4
    rw [if_neg (by omega)]
end
