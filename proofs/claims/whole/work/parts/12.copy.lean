/-! ===== Arrays.copyOf ===== -/
section ZY
variable {p : Program} {l : Launch} {e : Env} {R : Room} {s : State} {m : MethodId} {args : Array Value} {below : List Frame} {meth : Method} {c : Code} {H : Heap} {locs : List Loc} {cells slots : Nat} {Q : State → Prop}
variable {cc : ByteArray} {nL pc pc' : Nat} {ls : Array Slot} {rest : List Value} {own : String} {ret : Option FieldType} {G : zG} {top : Int} {L : zL} {M : zM} {vs : List (Option Value)} {P : Prop}
theorem zce_row {L L' : zL} {M M' : zM} {a : Int} (hL : L' a = L a) (hM : M' a = M a) : zce G L' M' a = zce G L M a := by
  unfold zce
  rw [hL, hM]
theorem zws_ext {L L' : zL} {M M' : zM} (h : ∀ a : Int, 0 < a → a < top → zce G L' M' a = zce G L M a) : zws G top L' M' = zws G top L M := by
  unfold zws
  apply List.map_congr_left
  intro k hk
  have hk := List.mem_range.mp hk
  rw [h ((k : Int) + 1) (by omega) (by omega)]
theorem zS.pushG {H1 : Heap} {E : Int × Int} {M1 : zM} (S : zS G top L M s H locs) (ht : top < 2000000000) (hE : E.1 ≠ 0) (hE2 : 0 ≤ E.2 ∧ E.2 < 2147483648) (hM : ∀ b, b ≠ top → M1 b = M b) (hI : ∀ i, InR (M1 top i)) (hc : va_at G.1 zcl (G.2.2.1 + top.toNat, zce G (lu L top E) M1 top) H1) (hz : H1.size = H.size + 1) (ho : ∀ q : Nat, q < H.size → H1[q]? = H[q]?) : zS G (top + 1) (lu L top E) M1 s H1 locs := by
  have h0 := S.1.2.2.1
  refine ⟨⟨?_, by rw [hz, S.1.2.1]; omega, by omega, fun a i => ?_, fun a ha => ?_, fun a => ?_⟩, ⟨Nat.le_trans S.2.1.1 (by omega), fun x h1 h2 => (ho x (Nat.lt_of_lt_of_le h1 S.2.1.1)).trans (S.2.1.2.1 x h1 h2), S.2.1.2.2⟩, S.2.2⟩
  · have hws : zws G (top + 1) (lu L top E) M1 = zws G top L M ++ [(G.2.2.1 + top.toNat, zce G (lu L top E) M1 top)] := by
      unfold zws
      rw [show (top + 1).toNat - 1 = (top.toNat - 1) + 1 by omega, List.range_succ, List.map_append]
      congr 1
      · apply List.map_congr_left
        intro k hk
        have hk := List.mem_range.mp hk
        have hne : (k : Int) + 1 ≠ top := by omega
        rw [zce_row (L := L) (M := M) (by unfold lu; rw [if_neg hne]) (hM _ hne)]
      · simp only [List.map_cons, List.map_nil]
        rw [show top.toNat - 1 + 1 = top.toNat by omega, show ((top.toNat - 1 : Nat) : Int) + 1 = top by omega]
    rw [hws]
    refine va_P.app (S.1.1.kept fun k q hk => ho _ ((S.1.1 k q hk).lt)) ?_
    intro k q hk
    have hz : k < 1 := (List.getElem?_eq_some_iff.mp hk).1
    rw [show k = 0 by omega] at hk
    cases hk
    exact hc
  · by_cases h : a = top
    · rw [h]; exact hI i
    · rw [hM a h]; exact S.1.2.2.2.1 a i
  · unfold lu at ha
    by_cases h : a = top
    · omega
    · rw [if_neg h] at ha
      have := S.1.2.2.2.2.1 a ha
      omega
  · unfold lu
    by_cases h : a = top
    · rw [if_pos h]; exact hE2
    · rw [if_neg h]; exact S.1.2.2.2.2.2 a
theorem zS.setG {H1 : Heap} {M1 : zM} {d : Int} {locs1 : List Loc} (S : zS G top L M s H locs) (t1 : 0 < d) (t2 : d < top) (hM : ∀ b, b ≠ d → M1 b = M b) (hI : ∀ i, InR (M1 d i)) (hc : va_at G.1 zcl (G.2.2.1 + d.toNat, zce G L M1 d) H1) (hz : H1.size = H.size) (oq : ∀ q : Nat, q ≠ G.2.2.1 + d.toNat → H1[q]? = H[q]?) (hl : ∀ q ∈ locs1, q.base = G.2.2.1 + d.toNat) : zS G top L M1 s H1 (locs ++ locs1) := by
  refine ⟨⟨?_, by rw [hz]; exact S.1.2.1, S.1.2.2.1, fun a i => ?_, S.1.2.2.2.2.1, S.1.2.2.2.2.2⟩, ⟨by rw [hz]; exact S.2.1.1, fun q h1 h2 => ?_, fun q hq => ?_⟩, S.2.2⟩
  · rw [← zws_set (M := M) t1 t2 rfl hM]
    exact S.1.1.set (zws_D G top L M) (zws_at t1 t2) hc oq
  · by_cases h : a = d
    · rw [h]; exact hI i
    · rw [hM a h]; exact S.1.2.2.2.1 a i
  · rw [oq q (fun e => h2 (by rw [e]; show G.2.2.1 < _; omega))]
    exact S.2.1.2.1 q h1 h2
  · rcases List.mem_append.mp hq with h | h
    · exact S.2.1.2.2 q h
    · rw [hl q h]
      show G.2.2.1 < _
      omega
theorem arrV_congr {cI : ClassId} {N : Nat} {f g : Nat → Value} (h : ∀ j, j < N → f j = g j) : arrV cI N f = arrV cI N g := by
  unfold arrV
  congr 1
  apply Array.ext
  · simp
  · intro i h1 h2
    simp only [Array.getElem_ofFn]
    exact h i (by simpa using h1)
theorem r_clone (E : zEv p m c cc nL s args "java/util/Arrays" meth ret G) (S : zS G top L M s H locs) {a : Int} {k idx : Nat} {M1 : zM} (h : (L a).1 = 101) (ht : top < 2000000000) (hM : ∀ b, b ≠ top → M1 b = M b) (hM1 : ∀ i : Nat, i < (L a).2.toNat → M1 top i = M a i) (hI : ∀ i, InR (M1 top i)) (hk : (L a).2.toNat ≤ k) (lk : Cond.methodLink "java/util/Arrays" idx ⟨"[I", "clone", "()Ljava/lang/Object;"⟩ ∈ zTB) (hsz : ls.size = nL)
    (hfr : 1 ≤ R.frames) (hlo : (rest.map fun v => v.category).sum + 14 ≤ R.locals) (hroom : cells + 1 ≤ R.cells ∧ slots + k ≤ R.slots) (d : zD cc pc (.invokevirtual idx) 3 pc')
    (kk : ∀ H1 : Heap, zS G (top + 1) (lu L top (101, (L a).2)) M1 s H1 locs → W p l e R s m args below meth c H1 locs (cells + 1) (slots + k) Q (F0 m pc' ls (zR G.2.2.1 top :: rest))) : W p l e R s m args below meth c H locs cells slots Q (F0 m pc ls (zR G.2.2.1 a :: rest)) := by
  obtain ⟨d, rfl⟩ := d
  obtain ⟨hexec, hb, hml, hown, hts⟩ := E.1
  obtain ⟨t1, t2⟩ := S.1.tag h (by omega)
  have h0 := S.1.2.2.1
  have hLa := S.1.2.2.2.2.2 a
  have hat := S.1.1 _ _ (S.1.at h (by omega))
  rw [zce_int h] at hat
  have hcl : va_Nw (.castable "[I" "java/lang/Cloneable") s := E.2.1.2.1 _ (List.mem_of_getElem? (i := 7) rfl)
  obtain ⟨hArr, hnm⟩ := E.2.1.1.2 0 _ rfl
  have hnm : s.vm.findClass "[I" = some (G.2.1 0) := hnm
  obtain ⟨c0, t0', f1, f2, f3⟩ := Cond.castable_spec (va_Nw.use (A := args) rfl hcl)
  cases hnm.symm.trans f1
  rw [zR_some t1]
  intro T hT X
  have hat : H[G.2.2.1 + a.toNat]? = some (vp_cell (G.2.1 0) ((L a).2.toNat, .inl (fun i => zO (M a (i : Int))))) := hat
  generalize hcv : vp_cell (G.2.1 0) ((L a).2.toNat, .inl (fun i => zO (M a (i : Int)))) = cv at hat
  have hcellT : T.heap[G.2.2.1 + a.toNat]? = some cv := by rw [hT]; exact hat
  have hvm0 : cv.vm = .none := by rw [← hcv]; rfl
  have hcl0 : cv.cls = G.2.1 0 := by rw [← hcv]; rfl
  have hszc : cv.slots.size = (L a).2.toNat := by rw [← hcv]; exact arrV_size _ _ _
  obtain ⟨-, kA, hkA, comp, hkind⟩ := State.isArrayOf_alike X.warmed.alike (hArr 0 (fun _ => .null))
  obtain ⟨-, kS, hkS, compS, hkindS⟩ := hArr 0 (fun _ => .null)
  obtain ⟨vm', X', st⟩ := X.cloneArray hexec hown (hts _ lk) (hts _ zw_4_62) (hts _ zw_4_63) (hts _ zw_4_64) (hts _ zw_4_65) (a := G.2.2.1 + a.toNat) (cell := cv) hcellT (fun k h => by rw [hvm0] at h; cases h) (by rw [hvm0]; exact fun h => by cases h) (by rw [hcl0]; exact hnm) f2 (by rw [hcl0]; exact f3)
    (fun i v hv => by
      rw [hcl0]
      have hk' : T.vm.classes[G.2.1 0]? = some kA := hkA
      have hfit : fits .int v = true := by
        rw [← hcv] at hv
        have hi : i < (L a).2.toNat := by
          have := (Array.getElem?_eq_some_iff.mp hv).1
          rwa [show (vp_cell (G.2.1 0) ((L a).2.toNat, .inl (fun i => zO (M a (i : Int))))).slots.size = (L a).2.toNat from arrV_size _ _ _] at this
        rw [show (vp_cell (G.2.1 0) ((L a).2.toNat, .inl (fun i => zO (M a (i : Int))))).slots[i]? = some (.int (zO (M a (i : Int)))) from arrV_read _ _ hi] at hv
        cases hv
        rfl
      simpa [State.fitsSlot, State.slotType?, hk', hkind] using hfit)
    (g := F0 m pc ls (.ref (G.2.2.1 + a.toNat) :: rest)) rfl (by rw [hml]; exact hsz) rfl (by rw [hb]; exact d) hfr (by show 2 * 0 + _ + 14 ≤ _; omega) hroom.1 (by rw [hszc]; omega) (hloader := by rw [hcl0]; exact Vm.clonesLoader_of_array hkS hkindS)
  have hcellE : ({ cls := cv.cls, slots := cv.slots } : Cell) = cv := by rw [← hcv]; rfl
  rw [hcellE, hszc] at X'
  generalize hH1 : H.push cv = H1
  have z1 : H1.size = H.size + 1 := by rw [← hH1, Array.size_push]
  have e1 : H1[H.size]? = some cv := by rw [← hH1, Array.getElem?_push_size]
  have o1 : ∀ q : Nat, q < H.size → H1[q]? = H[q]? := fun q hq => by rw [← hH1, Array.getElem?_push, if_neg (Nat.ne_of_lt hq)]
  have hlu : (lu L top (101, (L a).2) top) = (101, (L a).2) := by unfold lu; rw [if_pos rfl]
  have S1 := S.pushG (E := (101, (L a).2)) (M1 := M1) ht (show (101 : Int) ≠ 0 by decide) hLa hM hI (by
    rw [zce_int (by rw [hlu])]
    show H1[G.2.2.1 + top.toNat]? = some (vp_cell _ _)
    rw [← S.1.2.1, e1, ← hcv, vp_cell_i, vp_cell_i, hlu]
    congr 1
    exact arrV_congr fun j hj => by rw [hM1 j hj]) z1 o1
  obtain ⟨t, b1, b2⟩ := kk H1 S1 ((T.setVm vm').pushCell cv) (by rw [← hH1, ← hT]; rfl) (stand_widen X' (Nat.le_refl _) (Nat.add_le_add_left hk _))
  refine ⟨t, st t ?_, b2⟩
  rw [hcellE, hT]
  rw [zR_some h0.1, ← S.1.2.1] at b1
  exact b1
theorem r_acopy (E : zEv p m c cc nL s args "java/util/Arrays" meth ret G) (S : zS G top L M s H locs) {a d n : Int} {idx : Nat} {M1 : zM} (h : (L a).1 = 101) (hd : (L d).1 = 101) (hne : a ≠ d) (hn : 0 ≤ n ∧ n ≤ (L a).2 ∧ n ≤ (L d).2) (hM : ∀ b, b ≠ d → M1 b = M b) (hM1 : ∀ i : Nat, M1 d i = if (i : Int) < n then M a i else M d i) (hI : ∀ i, InR (M1 d i)) (lk : Cond.methodLink "java/util/Arrays" idx arraycopyName ∈ zTB) (hsz : ls.size = nL)
    (hfr : 1 ≤ R.frames) (hlo : (rest.map fun v => v.category).sum + (nativeFrameWords "java/lang/System" "arraycopy" 5 + 11) ≤ R.locals) (dd : zD cc pc (.invokestatic idx) 3 pc')
    (kk : ∀ (H1 : Heap) (locs1 : List Loc), zS G top L M1 s H1 locs1 → W p l e R s m args below meth c H1 locs1 cells slots Q (F0 m pc' ls rest)) : W p l e R s m args below meth c H locs cells slots Q (F0 m pc ls (.int (zO n) :: .int (zO 0) :: zR G.2.2.1 d :: .int (zO 0) :: zR G.2.2.1 a :: rest)) := by
  obtain ⟨dd, rfl⟩ := dd
  obtain ⟨hexec, hb, hml, hown, hts⟩ := E.1
  obtain ⟨t1, t2⟩ := S.1.tag h (by omega)
  obtain ⟨d1, d2⟩ := S.1.tag hd (by omega)
  have hLa := S.1.2.2.2.2.2 a
  have hLd := S.1.2.2.2.2.2 d
  have hca := S.1.1 _ _ (S.1.at h (by omega))
  rw [zce_int h] at hca
  have hcd := S.1.1 _ _ (S.1.at hd (by omega))
  rw [zce_int hd] at hcd
  have hnT : (zO n).toInt = n := zO_toInt ⟨by omega, by omega⟩
  have hnI : (zO n).toNatClampNeg = n.toNat := by
    show (zO n).toInt.toNat = n.toNat
    rw [hnT]
  rw [zR_some t1, zR_some d1]
  intro T hT X
  have hca' : H[G.2.2.1 + a.toNat]? = some (vp_cell (G.2.1 0) ((L a).2.toNat, .inl (fun i => zO (M a (i : Int))))) := hca
  have hcd' : H[G.2.2.1 + d.toNat]? = some (vp_cell (G.2.1 0) ((L d).2.toNat, .inl (fun i => zO (M d (i : Int))))) := hcd
  obtain ⟨-, k0, hk0, cm0, hkk0⟩ := (E.2.1.1.2 0 _ rfl).1 (L a).2.toNat (fun j => .int (zO (M a (j : Int))))
  obtain ⟨-, k1, hk1, cm1, hkk1⟩ := (E.2.1.1.2 0 _ rfl).1 (L d).2.toNat (fun j => .int (zO (M d (j : Int))))
  have h00 : ¬ zO 0 < 0 := by decide
  have hnn : ¬ zO n < 0 := fun q => by have := (zO_lt (x := n) (y := 0) ⟨by omega, by omega⟩ (by decide)).mp q; omega
  obtain ⟨vm', X', step⟩ := X.arraycopy hexec hown (hts _ lk) (hts _ zw_4_71) (hts _ zw_4_70) (hts _ zw_1_20) (src := G.2.2.1 + a.toNat) (dst := G.2.2.1 + d.toNat) (cs := vp_cell (G.2.1 0) ((L a).2.toNat, .inl (fun i => zO (M a (i : Int))))) (cd := vp_cell (G.2.1 0) ((L d).2.toNat, .inl (fun i => zO (M d (i : Int))))) (srcPos := zO 0) (destPos := zO 0) (n := zO n) (by rw [hT]; exact hca') (by rw [hT]; exact hcd')
    (fun _ h => by cases h) (fun _ h => by cases h) (fun h => by cases h) (fun h => by cases h) hk0 hk1 hkk0 hkk1 (by simp [refKind]) h00 h00 hnn
    (by rw [hnT, show (zO 0).toInt = 0 from rfl]; show ¬ _ > ((arrV (G.2.1 0) (L a).2.toNat (fun j => .int (zO (M a (j : Int))))).slots.size : Int); rw [arrV_size]; omega)
    (by rw [hnT, show (zO 0).toInt = 0 from rfl]; show ¬ _ > ((arrV (G.2.1 0) (L d).2.toNat (fun j => .int (zO (M d (j : Int))))).slots.size : Int); rw [arrV_size]; omega)
    (fun vm₁ _ i hi => by
      have hi : i < n.toNat := by rw [← hnI]; exact hi
      have e : (vp_cell (G.2.1 0) ((L a).2.toNat, .inl (fun i => zO (M a (i : Int))))).slots.getD ((zO 0).toNatClampNeg + i) .null = .int (zO (M a (i : Int))) := by
        show (arrV (G.2.1 0) (L a).2.toNat (fun j => .int (zO (M a (j : Int))))).slots.getD _ _ = _
        rw [show (zO 0).toNatClampNeg + i = i from Nat.zero_add i, Array.getD_eq_getD_getElem?, arrV_read _ _ (by omega)]
        rfl
      refine ⟨?_, ?_⟩
      · rw [e]; rfl
      · rw [e]; exact trivial)
    (g := F0 m pc ls (.int (zO n) :: .int (zO 0) :: .ref (G.2.2.1 + d.toNat) :: .int (zO 0) :: .ref (G.2.2.1 + a.toNat) :: rest)) rfl (by rw [hml]; exact hsz) (rest := rest) rfl (by rw [hb]; exact dd) hfr (by show 2 * 0 + _ + _ ≤ _; omega)
  have e1 : copied (vp_cell (G.2.1 0) ((L a).2.toNat, .inl (fun i => zO (M a (i : Int))))) (vp_cell (G.2.1 0) ((L d).2.toNat, .inl (fun i => zO (M d (i : Int))))) (zO 0) (zO 0) (zO n) = vp_cell (G.2.1 0) ((L d).2.toNat, .inl (va_cpy (fun i => zO (M a (i : Int))) (fun i => zO (M d (i : Int))) (zO 0).toNatClampNeg (zO 0).toNatClampNeg (zO n).toNatClampNeg)) :=
    va_copied (fun z => .int z) (G.2.1 0) (G.2.1 0) (fun i => zO (M a (i : Int))) (fun i => zO (M d (i : Int))) (show (zO 0).toNatClampNeg + (zO n).toNatClampNeg ≤ (L a).2.toNat by rw [hnI, show (zO 0).toNatClampNeg = 0 from rfl]; omega)
  rw [e1] at X' step
  have hl : G.2.2.1 + d.toNat < H.size := (Array.getElem?_eq_some_iff.mp hcd').1
  generalize hnc : vp_cell (G.2.1 0) ((L d).2.toNat, .inl (va_cpy (fun i => zO (M a (i : Int))) (fun i => zO (M d (i : Int))) (zO 0).toNatClampNeg (zO 0).toNatClampNeg (zO n).toNatClampNeg)) = nc at X' step
  have hheap : ((T.setVm vm').setCell (G.2.2.1 + d.toNat) nc).heap = H.setIfInBounds (G.2.2.1 + d.toNat) nc := by rw [← hT]; rfl
  have oq : ∀ q : Nat, q ≠ G.2.2.1 + d.toNat → (H.setIfInBounds (G.2.2.1 + d.toNat) nc)[q]? = H[q]? := fun q hq => by simp [Array.getElem?_setIfInBounds, Ne.symm hq]
  obtain ⟨t, a1, b1⟩ := kk _ _ (S.setG (M1 := M1) (H1 := H.setIfInBounds (G.2.2.1 + d.toNat) nc) d1 d2 hM hI (by
    rw [zce_int hd]
    show (H.setIfInBounds (G.2.2.1 + d.toNat) nc)[G.2.2.1 + d.toNat]? = some (vp_cell _ _)
    rw [show (H.setIfInBounds (G.2.2.1 + d.toNat) nc)[G.2.2.1 + d.toNat]? = some nc by simp [Array.getElem?_setIfInBounds, hl], ← hnc, vp_cell_i, vp_cell_i]
    congr 2
    funext j
    rw [hM1 j]
    unfold va_cpy
    rw [hnI, show (zO 0).toNatClampNeg = 0 from rfl]
    by_cases hj : (j : Int) < n
    · rw [if_pos ⟨Nat.zero_le _, by omega⟩, if_pos hj]
      simp
    · rw [if_neg (fun z => hj (by omega)), if_neg hj]) (by simp) oq (fun q hq => by
      obtain ⟨z, -, hz⟩ := List.mem_map.mp hq
      rw [← hz])) _ hheap X'
  exact ⟨t, step t a1, b1⟩
end ZY
theorem cJ7_copyOf_59c91_dc : zDL cJ7_copyOf_59c91 [(0, .iload_n 1, 1, 1), (1, .aload_n 0, 1, 2), (2, .arraylength, 1, 3), (3, .if_icmp .ne 11, 3, 6), (6, .aload_n 0, 1, 7), (7, .invokevirtual 316, 3, 10), (10, .checkcast 317, 3, 13), (13, .areturn, 1, 14), (14, .iload_n 1, 1, 15), (15, .newarray .int, 2, 17), (17, .astore_n 2, 1, 18), (18, .aload_n 0, 1, 19), (19, .iconst 0, 1, 20), (20, .aload_n 2, 1, 21), (21, .iconst 0, 1, 22), (22, .aload_n 0, 1, 23), (23, .arraylength, 1, 24), (24, .iload_n 1, 1, 25), (25, .invokestatic 304, 3, 28), (28, .invokestatic 150, 3, 31), (31, .aload_n 2, 1, 32), (32, .areturn, 1, 33)] := zDL.of (by decide +kernel)
theorem mcp_ne {M : zM} {a n top k b : Int} (h : b ≠ top) : mcp M a n top k b = M b := by
  funext j
  unfold mcp
  rw [if_neg h]
theorem Ar_copyOf_c (l : Launch) (G : zG) (fu : Nat) (top : Int) (L : zL) (M : zM) (a n : Int) {res : Int × zL × zM × Int} (ha : InR a) (hn : InR n) (h : Ar_copyOf fu top L M a n = some res) : Met l yJ7_copyOf_59c91 (Cond.code yJ7_copyOf_59c91 cJ7_copyOf_59c91 3 (some (.array .int)) :: zTB) (zrm 2 1 600) (va_Pc [zR G.2.2.1 a, .int (zO n)] (zPre G top L M)) (zQ G res.1 res.2.1 res.2.2.1 (some (zR G.2.2.1 res.2.2.2)) (InR res.2.2.2)) 1 600 (zA G) :=
  z_met (by decide +kernel) (by simp [zR_cat, zcat_I]) (Nat.le_of_ble_eq_true rfl) fun p e s m below meth c ls E hnm S hl => by
    unfold Ar_copyOf at h
    obtain ⟨⟨h1, h2, h3⟩, h⟩ := ite_e h
    cases h
    have hl : zLV ls 3 [some (zR G.2.2.1 a), some (.int (zO n)), none] := hl.sub (And.intro rfl (And.intro rfl True.intro))
    have hLa := S.1.2.2.2.2.2 a
    have hat := S.1.tag h1 (by decide)
    have hI : ∀ i, InR (mcp M a n top (L a).2 top i) := by
      intro i
      unfold mcp
      rw [if_pos rfl]
      by_cases hc : 0 ≤ i ∧ i < n ∧ i < (L a).2
      · rw [if_pos hc]; exact S.1.inR _ _
      · rw [if_neg hc]; decide
    refine u_il_n (x := n) E (cJ7_copyOf_59c91_dc.at 0 rfl) hl rfl ?_
    refine u_al_n (x := a) E (cJ7_copyOf_59c91_dc.at 1 rfl) hl rfl ?_
    refine r_alen E S h1 (by decide) (cJ7_copyOf_59c91_dc.at 2 rfl) ?_
    refine r_icmp_ne (tgt := 14) E hn (S.1.lenR _) (cJ7_copyOf_59c91_dc.at 3 rfl) (by decide) (fun q => ?_) (fun q => ?_)
    · refine u_al_n (x := a) E (cJ7_copyOf_59c91_dc.at 4 rfl) hl rfl ?_
      refine r_clone (k := 600) (M1 := mcp M a n top (L a).2) E S h1 h3 (fun b hb => mcp_ne hb) (fun i hi => ?_) hI (by omega) zw_4_61 hl.size (by decide) (by decide) ⟨Nat.le_of_ble_eq_true rfl, Nat.le_of_ble_eq_true rfl⟩ (cJ7_copyOf_59c91_dc.at 5 rfl) (fun H S1 => ?_)
      · unfold mcp
        rw [if_pos rfl, if_pos (by omega)]
      rw [show ((101 : Int), (L a).2) = (101, n) by rw [q]] at S1
      have hlu : (lu L top (101, n) top) = (101, n) := by unfold lu; rw [if_pos rfl]
      have hcell := S1.1.at (a := top) (t := 101) (by rw [hlu]) (by decide)
      have h0 := S.1.2.2.1
      rw [zce_int (by rw [hlu]), ] at hcell
      rw [zR_some h0.1]
      refine va_castA E.1.1 E.1.2.1 E.1.2.2.2.1 (E.1.2.2.2.2 _ zw_4_67) S1.1.1 _ hcell (E.2.1.1.2 0 _ rfl).2 (cJ7_copyOf_59c91_dc.at 6 rfl).1 ?_
      rw [← zR_some h0.1]
      refine W.widen (k := 1) (n := 600) (by omega) (by omega) ?_
      exact r_aret E (Or.inr ⟨_, rfl⟩) S1 (show InR top by omega) (cJ7_copyOf_59c91_dc.at 7 rfl)
    · refine u_il_n (x := n) E (cJ7_copyOf_59c91_dc.at 8 rfl) hl rfl ?_
      have hnT : (zO n).toNatClampNeg = n.toNat := (zO_idx (n := 2147483647) h2.1 (by omega) (by omega)).2
      refine u_newI (k := n.toNat) E S rfl rfl rfl zw_1_74 (by omega) h3 rfl ⟨by show 0 + 1 ≤ 1; omega, by show 0 + n.toNat ≤ 600; omega⟩ (cJ7_copyOf_59c91_dc.at 9 rfl) (fun H S1 g1 => ?_)
      have h0 := S.1.2.2.1
      have hti : InR top := by omega
      refine u_ast_n (y := top) (vs' := [some (zR G.2.2.1 a), some (.int (zO n)), some (zR G.2.2.1 top)]) E rfl (cJ7_copyOf_59c91_dc.at 10 rfl) hl (by decide) rfl (fun ls hl => ?_)
      refine u_al_n (x := a) E (cJ7_copyOf_59c91_dc.at 11 rfl) hl rfl ?_
      refine r_iconst E (cJ7_copyOf_59c91_dc.at 12 rfl) ?_
      refine u_al_n (x := top) E (cJ7_copyOf_59c91_dc.at 13 rfl) hl rfl ?_
      refine r_iconst E (cJ7_copyOf_59c91_dc.at 14 rfl) ?_
      refine u_al_n (x := a) E (cJ7_copyOf_59c91_dc.at 15 rfl) hl rfl ?_
      have hlu : lu L top (101, n) a = L a := by unfold lu; rw [if_neg (by omega)]
      have hlt : lu L top (101, n) top = (101, n) := by unfold lu; rw [if_pos rfl]
      refine r_alen (a := a) (t := 101) E S1 (by rw [hlu]; exact h1) (by decide) (cJ7_copyOf_59c91_dc.at 16 rfl) ?_
      rw [hlu]
      refine u_il_n (x := n) E (cJ7_copyOf_59c91_dc.at 17 rfl) hl rfl ?_
      refine r_min (rest := [.int (zO 0), zR G.2.2.1 top, .int (zO 0), zR G.2.2.1 a]) E (S.1.lenR _) hn hl.size zw_4_68 zw_4_47 zw_1_17 zw_4_48 (by decide) (by simp [zR_cat, zcat_I, zrm]) ⟨Nat.le_of_ble_eq_true rfl, by show 0 + n.toNat ≤ 600; omega⟩ (cJ7_copyOf_59c91_dc.at 18 rfl) ?_
      refine r_acopy (M1 := mcp M a n top (L a).2) E S1 (by rw [hlu]; exact h1) (by rw [hlt]) (by omega) (by rw [hlu, hlt]; show 0 ≤ min (L a).2 n ∧ min (L a).2 n ≤ (L a).2 ∧ min (L a).2 n ≤ n; omega) (fun b hb => by rw [mcp_ne hb]; funext j; unfold mz; rw [if_neg hb]) (fun i => ?_) hI zw_4_69 hl.size (by decide) (by decide) (cJ7_copyOf_59c91_dc.at 19 rfl) (fun H locs S2 => ?_)
      · unfold mcp mz
        rw [if_pos rfl, if_pos rfl]
        by_cases hc : (i : Int) < min (L a).2 n
        · rw [if_pos (by omega), if_pos hc, if_neg (by omega)]
        · rw [if_neg (by omega), if_neg hc]
      refine u_al_n (x := top) E (cJ7_copyOf_59c91_dc.at 20 rfl) hl rfl ?_
      refine W.widen (k := 1) (n := 600) (by omega) (by omega) ?_
      exact r_aret E (Or.inr ⟨_, rfl⟩) S2 hti (cJ7_copyOf_59c91_dc.at 21 rfl)
