/-! ===== LaterLives.person, which may throw, and the law's call of it ===== -/
def zQX (G : zG) (top : Int) (L : zL) (M : zM) (res : Option Int) : Array Value → State → Outcome → State → Prop := fun _ st o t => ∃ x, res = some x ∧ o = .returned (some (.int (zO x))) ∧ InR x ∧ zRel G top L M t.heap ∧ va_F (zA G) st t
def zXX (G : zG) (top : Int) (L : zL) (M : zM) (res : Option Int) : String → State → State → Prop := fun E st t => E = "java/util/NoSuchElementException" ∧ res = none ∧ zRel G (top + 1) (lu L top (14, 0)) (mz M top) t.heap ∧ va_F (zA G) st t
section ZP
variable {p : Program} {l : Launch} {e : Env} {R : Room} {s : State} {m : MethodId} {args : Array Value} {below : List Frame} {meth : Method} {c : Code} {H : Heap} {locs : List Loc} {cells slots : Nat} {Q : State → Prop}
variable {mc ms : Nat} {free : Addr → Prop} {A0 A1 : Nat → Prop} {H0 : Heap} {a : Array Value} {ls : Array Slot} {st0 rest : List Value}
variable {Qc : Array Value → State → Outcome → State → Prop} {XC : String → State → State → Prop}
theorem zx_throw0 {cc : ByteArray} {pc : Nat} (hexec : p.tables.exec = Jvm.exec) (hb : c.code = cc) (hl : l.stackTraces = false) {own cls : String} {names : List String} {ik ic mc ms : Nat} {A : Nat → Prop}
    (hown : s.vm.findClass own = some m.cls) (hcls : Bundle.fit cls = true) (hnames : ∀ n ∈ names, Bundle.fit n = true)
    (hk : (Cond.classLink own ik cls).before args s = true) (hini : (Cond.initialized cls).before args s = true) (hat : ∀ w ∈ vx_at0 own ic cls names, w.before args s = true)
    (hgood : ∀ w ∈ Cond.classLink own ik cls :: Cond.initialized cls :: vx_at0 own ic cls names, vx_ot w = true)
    (hU : vx_Zq Bundle.tN "UNASSIGNED_STACK" Bundle.steD A s s.heap) (hN : vx_Zq Bundle.tN "SUPPRESSED_SENTINEL" Bundle.listD A s s.heap) (hS : va_S A s.heap H locs) (hsize : ls.size = c.maxLocals)
    (d0 : decode cc pc = .ok (.new ik, 3)) (d3 : decode cc (pc + 3) = .ok (.dup, 1)) (d4 : decode cc (pc + 4) = .ok (.invokespecial ic, 3)) (d7 : decode cc (pc + 7) = .ok (.athrow, 1))
    (hout : ∀ x ∈ c.exceptionTable.toList, covers x (pc + 7) = false)
    (hRframes : names.length + 3 < R.frames) (hRlocals : (rest.map fun v => v.category).sum + (13 * (names.length + 1) + 42) ≤ R.locals) (hRcells : cells + 1 ≤ R.cells) (hRslots : slots + 6 ≤ R.slots) (hlocks : meth.locks = false)
    (hx : ∀ (t : State) (ce : Cell), s.vm.Alike t.vm → t.heap.size = H.size + 1 → (∀ q : Nat, q < H.size → t.heap[q]? = H[q]?) → t.heap[H.size]? = some ce → ce.vm = .none → s.vm.findClass cls = some ce.cls → XC cls s t)
    (hf : ∀ z ∈ locs, free z.base) (hc : cells + 1 ≤ mc) (hs : slots + 6 ≤ ms) :
    W p l e R s m args below meth c H locs cells slots (vx_MQ below Qc XC args s mc ms free) (F0 m pc ls rest) := by
  intro T hT X
  have htr : e.platform.stackTraces = false := (show e.platform.stackTraces = l.stackTraces by rw [X.admits.platform]).trans hl
  have Y := vx_rebase X (R' := { frames := R.frames, locals := R.locals, cells := 1, slots := 6 }) (Nat.le_refl _) (Nat.le_refl _) hRcells hRslots
  obtain ⟨s', hA⟩ : ∃ z, z = (T.setVm s.vm).setFrames (.invoking m args :: below) := ⟨_, rfl⟩
  rw [← hA] at Y
  have hvm : s'.vm = s.vm := by rw [hA]; rfl
  have hhp : s'.heap = H := by rw [hA]; exact hT
  have hW0 : s.WarmedH s'.vm := by rw [hvm]; exact State.WarmedH.refl s
  have hat' : ∀ w ∈ vx_at0 own ic cls names, w.before args s' = true := fun w hw => vx_ot_at hW0 hvm.symm (hgood w (List.mem_cons_of_mem _ (List.mem_cons_of_mem _ hw))) (hat w hw)
  have hk' : (Cond.classLink own ik cls).before args s' = true := vx_ot_at hW0 hvm.symm (hgood _ List.mem_cons_self) hk
  have hini' : (Cond.initialized cls).before args s' = true := vx_ot_at hW0 hvm.symm (hgood _ (List.mem_cons_of_mem _ List.mem_cons_self)) hini
  have hU' : vx_Zq Bundle.tN "UNASSIGNED_STACK" Bundle.steD A s' s'.heap := by rw [hhp]; exact vx_Zq.moved hW0.alike (hU.kept hS.2.1)
  have hN' : vx_Zq Bundle.tN "SUPPRESSED_SENTINEL" Bundle.listD A s' s'.heap := by rw [hhp]; exact vx_Zq.moved hW0.alike (hN.kept hS.2.1)
  have h : ∀ w ∈ Bundle.ownAtoms0 own ic cls names, w.before args s' = true := vx_own hat' (vx_isRefq hU'.1) (vx_isRefq hN'.1) hU'.2.word hN'.2.word
  have hown' : s'.vm.findClass own = some m.cls := by rw [hvm]; exact hown
  have hins : (Cond.instantiable cls 6).before args s' = true := h _ (by simp [Bundle.ownAtoms0])
  obtain ⟨vm₁, cX, kX, hfX, hkX, -, -, X₁, st1⟩ := Y.newCold hexec (own := own) (C := cls) (index := ik) (n := 6) hown' hk' hins hini'
    (g := F0 m pc ls rest) rfl (by rw [hb]; exact d0) (Nat.le_refl _) (Nat.le_refl _)
  generalize hT1 : (T.setVm vm₁).pushCell { cls := cX, slots := kX.instanceTypes.map defaultValue, vm := .none } = T1 at X₁ st1
  have hcat : (Value.ref T.heap.size).category = 1 := rfl
  have hcellA : T1.heap[T.heap.size]? = some (freshCell cX kX) := by rw [← hT1]; exact State.heap_pushCell_size _ _
  have d3' : decode c.code (pc + 3) = .ok (.dup, 1) := by rw [hb]; exact d3
  obtain ⟨U, hsteps, hrun, hend, hW, hsame, ce, hce, hO⟩ := X₁.ctorThrow0 hexec htr (own := own) (cls := cls) (names := names) (ic := ic) hown' hcls hnames h (fun x hx => nomatch hx) hfX hkX hcellA (by rw [hhp, hT]; exact Nat.le_refl _)
    (g := { method := m, pc := pc + 4, locals := ls, stack := .ref T.heap.size :: .ref T.heap.size :: rest, locked := none }) rfl hsize rfl rfl (rest := rest) rfl
    (by rw [hb]; exact d4) (by rw [hb]; exact d7) hout hRframes (by simp only [List.map_cons, List.sum_cons, hcat]; omega) hlocks
  obtain ⟨f1, f2⟩ := vx_frame hsame
  rw [hhp] at f1 f2
  have hWs : s.WarmedH U.vm := State.WarmedH.trans hW0 hW
  have hcl : s.vm.findClass cls = some ce.cls := by
    have h9 := hO.cls
    rw [hvm] at h9
    exact h9
  have hsz1 : U.heap.size = H.size + 1 := by
    have h5 : U.heap.size ≤ s'.heap.size + (0 + 1) := hsame.2.2.1
    have h6 := (Array.getElem?_eq_some_iff.mp hce).1
    rw [hhp] at h5
    rw [hT] at h6
    omega
  have hall : s.sameButNew ({ U with vm := s.vm } : State) locs mc ms := by
    subst hA
    obtain ⟨e1, e2⟩ := hsame
    rw [State.setFrames_setFrames] at e1
    have h2 : (T.setVm s.vm).sameButNew ({ U with vm := s.vm } : State) [] (0 + 1) (0 + 6) := ⟨e1, e2⟩
    have h3 := X.same.trans h2
    rw [List.append_nil] at h3
    exact h3.mono hc hs
  refine ⟨U, ?_, .threw T.heap.size, hrun, hend, Or.inr ⟨T.heap.size, rfl, cls, ce, locs, hx U ce hWs.alike hsz1 (fun q hq => f2 q hq (fun z hz => nomatch hz)) (by rw [← hT]; exact hce) hO.vm hcl, hce, hO.vm, hcl, hWs, hall, hf⟩⟩
  refine st1 _ ?_
  show Steps p.tables e below (T1.setTop { method := m, pc := pc + 3, locals := ls, stack := .ref T.heap.size :: rest, locked := none }) _
  jvm_step X₁.here [X₁.here.top, hexec, d3', Value.category]
  exact hsteps
end ZP
section ZP2
variable {p : Program} {l : Launch} {e : Env} {R : Room} {s : State} {m : MethodId} {args : Array Value} {below : List Frame} {meth : Method} {c : Code} {H : Heap} {locs : List Loc} {cells slots : Nat} {Q : State → Prop}
variable {cc : ByteArray} {nL pc pc' : Nat} {ls : Array Slot} {rest : List Value} {own : String} {ret : Option FieldType} {G : zG} {top : Int} {L : zL} {M : zM} {vs : List (Option Value)} {P : Prop} {fu : Nat}
theorem r_iretX (E : zEv p m c cc nL s args own meth (some .int) G) {x : Int} {res : Option Int} (S : zS G top L M s H locs) (hr : res = some x) (hP : InR x) (d : zD cc pc .ireturn 1 pc') : W p l e R s m args below meth c H locs cells slots (MQ below (zQX G top L M res) args s cells slots (zA G)) (F0 m pc ls [.int (zO x)]) :=
  W.iret E.1.1 E.1.2.1 E.2.2.1 (fun t ht _ => ⟨x, hr, rfl, hP, by rw [ht]; exact S.1, S.2.1.F ht⟩) S.2.1.2.2 d.1 E.2.2.2
theorem zat_ok : ∀ w ∈ vx_at0 RX11 198 "java/util/NoSuchElementException" ["java/lang/RuntimeException", "java/lang/Exception"], (w ∈ lw_tbl ∧ goodWord w = true) ∨ w ∈ zNW := by decide +kernel
theorem zat_good : ∀ w ∈ Cond.classLink RX11 196 "java/util/NoSuchElementException" :: Cond.initialized "java/util/NoSuchElementException" :: vx_at0 RX11 198 "java/util/NoSuchElementException" ["java/lang/RuntimeException", "java/lang/Exception"], vx_ot w = true := by decide +kernel
theorem zNW_ot : ∀ w ∈ zNW, w.onTables = true := by decide +kernel
theorem Lx_person_dc : zDL cX11_person [(0, .aload_n 0, 1, 1), (1, .getfield 42, 3, 4), (4, .getfield 124, 3, 7), (7, .astore_n 3, 1, 8), (8, .aload_n 3, 1, 9), (9, .iload_n 1, 1, 10), (10, .invokevirtual 192, 3, 13), (13, .ifCond .eq 12, 3, 16), (16, .iload_n 2, 1, 17), (17, .ifCond .lt 8, 3, 20), (20, .iload_n 2, 1, 21), (21, .iconst 4, 1, 22), (22, .if_icmp .le 11, 3, 25), (25, .new 196, 3, 28), (28, .dup, 1, 29), (29, .invokespecial 198, 3, 32), (32, .athrow, 1, 33), (33, .iload_n 2, 1, 34), (34, .tableswitch 54 0 3 #[30, 36, 42, 48], 30, 64), (64, .aload_n 3, 1, 65), (65, .iload_n 1, 1, 66), (66, .invokevirtual 199, 3, 69), (69, .ireturn, 1, 70), (70, .aload_n 3, 1, 71), (71, .iload_n 1, 1, 72), (72, .invokevirtual 202, 3, 75), (75, .ireturn, 1, 76), (76, .aload_n 3, 1, 77), (77, .iload_n 1, 1, 78), (78, .invokevirtual 205, 3, 81), (81, .ireturn, 1, 82), (82, .aload_n 3, 1, 83), (83, .iload_n 1, 1, 84), (84, .invokevirtual 174, 3, 87), (87, .ireturn, 1, 88), (88, .aload_n 3, 1, 89), (89, .iload_n 1, 1, 90), (90, .invokevirtual 208, 3, 93), (93, .ireturn, 1, 94)] := zDL.of (by decide +kernel)
theorem zx_person (E : zEv p m c cX11_person 4 s args RX11 meth (some .int) G) (S : zS G top L M s H locs) (hl : zLV ls 4 vs) (hlf : l.stackTraces = false) (htop : top < 2000000000) (htab : ∀ x ∈ c.exceptionTable.toList, False) : W p l e (zrm 8 1 6) s m args below meth c H locs 0 0 (vx_MQ below (zQX G top L M none) (zXX G top L M none) args s 1 6 (zA G)) (F0 m 25 ls []) := by
  have hts := E.1.2.2.2.2
  refine zx_throw0 (mc := 1) (ms := 6) (A := zA G) (rest := []) (names := ["java/lang/RuntimeException", "java/lang/Exception"]) (own := RX11) (ik := 196) (ic := 198) E.1.1 E.1.2.1 hlf E.1.2.2.2.1 (by decide) (by decide) (hts _ zw_6_135) (hts _ zw_1_24) (fun w hw => ?_) zat_good E.2.1.2.2.2.2.2.2.2.1 E.2.1.2.2.2.2.2.2.2.2 S.2.1 (hl.size.trans E.1.2.2.1.symm) (Lx_person_dc.at 13 rfl).1 (Lx_person_dc.at 14 rfl).1 (Lx_person_dc.at 15 rfl).1 (Lx_person_dc.at 16 rfl).1 (fun x hx => (htab x hx).elim) (by decide) (by decide) (by decide) (by decide) E.2.2.2 (fun t ce hA hz hk hce hv hcl => ?_) S.2.1.2.2 (by decide) (by decide)
  · rcases zat_ok w hw with h | h
    · exact hts _ (zTB_mem h.1 h.2)
    · exact va_Nw.use (zNW_ot w h) (E.2.1.2.1 w h)
  · have h0 := S.1.2.2.1
    have hlu : (lu L top (14, 0) top) = (14, 0) := by unfold lu; rw [if_pos rfl]
    refine ⟨rfl, rfl, S.1.push htop (show (14 : Int) ≠ 0 by decide) ⟨by decide, by decide⟩ ?_ hz hk, ⟨by rw [hz]; exact Nat.le_trans S.2.1.1 (by omega), fun q h1 h2 => by rw [hk q (Nat.lt_of_lt_of_le h1 S.2.1.1)]; exact S.2.1.2.1 q h1 h2⟩⟩
    rw [zce_obj (ci := 13) (by rw [hlu]; rfl) (by decide)]
    refine ⟨_, rfl, ce, by rw [← S.1.2.1]; exact hce, ?_, hv, fun k hk => absurd (show k < 0 from hk) (Nat.not_lt_zero k)⟩
    exact Option.some.inj (hcl.symm.trans (E.2.1.1.1 13 _ rfl).2.1)
def Lx_person (fu : Nat) (L : zL) (M : zM) (a0 : Int) (a1 : Int) (a2 : Int) : Option (Option Int) :=
  (if (L a0).1 = 12 then (if (L (M a0 4)).1 = 2 then (lt1 (M (M a0 4) 0) fun v3 => (if (L v3).1 = 11 then (bd1 (Wd_has fu L M v3 a1) fun r5 => (if r5 = 0 then (some none) else (if a2 < 0 then (some none) else (if (4 : Int) < a2 then (some none) else (if a2 = 0 then (bd1 (Wd_bornIn fu L M v3 a1) fun r7 => (some (some r7))) else (if a2 = 1 then (bd1 (Wd_diedIn fu L M v3 a1) fun r10 => (some (some r10))) else (if a2 = 2 then (bd1 (Wd_parentOf fu L M v3 a1) fun r13 => (some (some r13))) else (if a2 = 3 then (bd1 (Wd_ageOf fu L M v3 a1) fun r16 => (some (some r16))) else (bd1 (Wd_childrenOf fu L M v3 a1) fun r19 => (some (some r19))))))))))) else none)) else none) else none)
theorem Lx_person_w (E : zEv p m c cX11_person 4 s args RX11 meth (some .int) G) {res : (Option Int)} {M : zM} {a0 : Int} {a1 : Int} {a2 : Int} {H : Heap} {locs : List Loc} {ls : Array Slot} (ha0 : InR a0) (ha1 : InR a1) (ha2 : InR a2) (hlf : l.stackTraces = false) (htop : top < 2000000000) (htab : ∀ x ∈ c.exceptionTable.toList, False) (S : zS G top L M s H locs) (hl : zLV ls 4 [some (zR G.2.2.1 a0), some (.int (zO a1)), some (.int (zO a2)), none]) (h : Lx_person fu L M a0 a1 a2 = some res) : W p l e (zrm 8 1 6) s m args below meth c H locs 0 0 (vx_MQ below (zQX G top L M res) (zXX G top L M res) args s 1 6 (zA G)) (F0 m 0 ls []) := by
  unfold Lx_person at h
  refine u_al_n (x := a0) E (Lx_person_dc.at 0 rfl) hl rfl ?_
  obtain ⟨g1, h⟩ := ite_e h
  refine u_gR E zf_11_4 S g1 zw_2_136 (Lx_person_dc.at 1 rfl) ?_
  obtain ⟨g2, h⟩ := ite_e h
  refine u_gR E zf_1_0 S g2 zw_1_222 (Lx_person_dc.at 2 rfl) ?_
  obtain ⟨v3, ev3, h⟩ := lt1_e h
  have hv3 := inR_eq ev3 (S.1.inR _ _)
  refine u_ast_n (y := v3) (vs' := [some (zR G.2.2.1 a0), some (.int (zO a1)), some (.int (zO a2)), some (zR G.2.2.1 v3)]) E ev3 (Lx_person_dc.at 3 rfl) hl (by decide) rfl (fun ls hl => ?_)
  refine u_al_n (x := v3) E (Lx_person_dc.at 4 rfl) hl rfl ?_
  refine u_il_n (x := a1) E (Lx_person_dc.at 5 rfl) hl rfl ?_
  obtain ⟨g4, h⟩ := ite_e h
  obtain ⟨r5, er5, h⟩ := bd1_e h
  refine u_cVI (As := [.int (zO a1)]) (rest := []) E S zcw_yX10_has zw_4_35 zw_4_36 zw_5_41 zck_10.1 rfl g4 (Wd_has_c l G fu top L M v3 a1 hv3 ha1 er5) (zrm_ok (by decide) (by decide)) ⟨by decide, by decide⟩ rfl (Nat.zero_le 8) hl.size rfl (Lx_person_dc.at 6 rfl) (fun H locs hr5 S6 => ?_)
  refine r_if_eq (tgt := 25) E (inR_01 hr5) (Lx_person_dc.at 7 rfl) (by decide) (fun q => ?_) (fun q => ?_)
  · have h := ite_t h q
    cases h
    exact zx_person E S6 hl hlf htop htab
  · have h := ite_f h q
    refine u_il_n (x := a2) E (Lx_person_dc.at 8 rfl) hl rfl ?_
    refine r_if_lt (tgt := 25) E ha2 (Lx_person_dc.at 9 rfl) (by decide) (fun q => ?_) (fun q => ?_)
    · have h := ite_t h q
      cases h
      exact zx_person E S6 hl hlf htop htab
    · have h := ite_f h q
      refine u_il_n (x := a2) E (Lx_person_dc.at 10 rfl) hl rfl ?_
      refine r_iconst E (Lx_person_dc.at 11 rfl) ?_
      refine r_icmp_le (tgt := 33) E ha2 (show InR 4 by decide) (Lx_person_dc.at 12 rfl) (by decide) (fun q => ?_) (fun q => ?_)
      · have h := ite_t h q
        cases h
        exact zx_person E S6 hl hlf htop htab
      · have h := ite_f h q
        refine u_il_n (x := a2) E (Lx_person_dc.at 17 rfl) hl rfl ?_
        by_cases q9 : a2 = 0
        · have h := ite_t h q9
          refine r_tin (tgt := 64) (k := 0) E ha2 q9 (Lx_person_dc.at 18 rfl) (by decide) (by decide) rfl (by decide) ?_
          refine u_al_n (x := v3) E (Lx_person_dc.at 19 rfl) hl rfl ?_
          refine u_il_n (x := a1) E (Lx_person_dc.at 20 rfl) hl rfl ?_
          obtain ⟨r7, er7, h⟩ := bd1_e h
          refine u_cVI (As := [.int (zO a1)]) (rest := []) E S6 zcw_yX10_bornIn zw_4_19 zw_4_20 zw_6_196 zck_10.1 rfl g4 (Wd_bornIn_c l G fu top L M v3 a1 hv3 ha1 er7) (zrm_ok (by decide) (by decide)) ⟨by decide, by decide⟩ rfl (Nat.zero_le 8) hl.size rfl (Lx_person_dc.at 21 rfl) (fun H locs hr7 S8 => ?_)
          cases h
          refine vx_ret ?_
          refine W.widen (k := 1) (n := 6) (by omega) (by omega) ?_
          exact r_iretX E S8 rfl hr7 (Lx_person_dc.at 22 rfl)
        · have h := ite_f h q9
          by_cases q12 : a2 = 1
          · have h := ite_t h q12
            refine r_tin (tgt := 70) (k := 1) E ha2 q12 (Lx_person_dc.at 18 rfl) (by decide) (by decide) rfl (by decide) ?_
            refine u_al_n (x := v3) E (Lx_person_dc.at 23 rfl) hl rfl ?_
            refine u_il_n (x := a1) E (Lx_person_dc.at 24 rfl) hl rfl ?_
            obtain ⟨r10, er10, h⟩ := bd1_e h
            refine u_cVI (As := [.int (zO a1)]) (rest := []) E S6 zcw_yX10_diedIn zw_4_27 zw_4_28 zw_6_197 zck_10.1 rfl g4 (Wd_diedIn_c l G fu top L M v3 a1 hv3 ha1 er10) (zrm_ok (by decide) (by decide)) ⟨by decide, by decide⟩ rfl (Nat.zero_le 8) hl.size rfl (Lx_person_dc.at 25 rfl) (fun H locs hr10 S11 => ?_)
            cases h
            refine vx_ret ?_
            refine W.widen (k := 1) (n := 6) (by omega) (by omega) ?_
            exact r_iretX E S11 rfl hr10 (Lx_person_dc.at 26 rfl)
          · have h := ite_f h q12
            by_cases q15 : a2 = 2
            · have h := ite_t h q15
              refine r_tin (tgt := 76) (k := 2) E ha2 q15 (Lx_person_dc.at 18 rfl) (by decide) (by decide) rfl (by decide) ?_
              refine u_al_n (x := v3) E (Lx_person_dc.at 27 rfl) hl rfl ?_
              refine u_il_n (x := a1) E (Lx_person_dc.at 28 rfl) hl rfl ?_
              obtain ⟨r13, er13, h⟩ := bd1_e h
              refine u_cVI (As := [.int (zO a1)]) (rest := []) E S6 zcw_yX10_parentOf zw_4_23 zw_4_24 zw_6_198 zck_10.1 rfl g4 (Wd_parentOf_c l G fu top L M v3 a1 hv3 ha1 er13) (zrm_ok (by decide) (by decide)) ⟨by decide, by decide⟩ rfl (Nat.zero_le 8) hl.size rfl (Lx_person_dc.at 29 rfl) (fun H locs hr13 S14 => ?_)
              cases h
              refine vx_ret ?_
              refine W.widen (k := 1) (n := 6) (by omega) (by omega) ?_
              exact r_iretX E S14 rfl hr13 (Lx_person_dc.at 30 rfl)
            · have h := ite_f h q15
              by_cases q18 : a2 = 3
              · have h := ite_t h q18
                refine r_tin (tgt := 82) (k := 3) E ha2 q18 (Lx_person_dc.at 18 rfl) (by decide) (by decide) rfl (by decide) ?_
                refine u_al_n (x := v3) E (Lx_person_dc.at 31 rfl) hl rfl ?_
                refine u_il_n (x := a1) E (Lx_person_dc.at 32 rfl) hl rfl ?_
                obtain ⟨r16, er16, h⟩ := bd1_e h
                refine u_cVI (As := [.int (zO a1)]) (rest := []) E S6 zcw_yX10_ageOf zw_4_163 zw_4_164 zw_4_162 zck_10.1 rfl g4 (Wd_ageOf_c l G fu top L M v3 a1 hv3 ha1 er16) (zrm_ok (by decide) (by decide)) ⟨by decide, by decide⟩ rfl (Nat.zero_le 8) hl.size rfl (Lx_person_dc.at 33 rfl) (fun H locs hr16 S17 => ?_)
                cases h
                refine vx_ret ?_
                refine W.widen (k := 1) (n := 6) (by omega) (by omega) ?_
                exact r_iretX E S17 rfl hr16 (Lx_person_dc.at 34 rfl)
              · have h := ite_f h q18
                refine r_tout (tgt := 88) E ha2 (by omega) (Lx_person_dc.at 18 rfl) (by decide) ?_
                refine u_al_n (x := v3) E (Lx_person_dc.at 35 rfl) hl rfl ?_
                refine u_il_n (x := a1) E (Lx_person_dc.at 36 rfl) hl rfl ?_
                obtain ⟨r19, er19, h⟩ := bd1_e h
                refine u_cVI (As := [.int (zO a1)]) (rest := []) E S6 zcw_yX10_childrenOf zw_6_95 zw_6_96 zw_6_199 zck_10.1 rfl g4 (Wd_childrenOf_c l G fu top L M v3 a1 hv3 ha1 er19) (zrm_ok (by decide) (by decide)) ⟨by decide, by decide⟩ rfl (Nat.zero_le 8) hl.size rfl (Lx_person_dc.at 37 rfl) (fun H locs hr19 S20 => ?_)
                cases h
                refine vx_ret ?_
                refine W.widen (k := 1) (n := 6) (by omega) (by omega) ?_
                exact r_iretX E S20 rfl hr19 (Lx_person_dc.at 38 rfl)

theorem Lx_person_c (l : Launch) (hlf : l.stackTraces = false) (G : zG) (fu : Nat) (top : Int) (htop : top < 2000000000) (L : zL) (M : zM) (a0 a1 a2 : Int) {res : Option Int} (ha0 : InR a0) (ha1 : InR a1) (ha2 : InR a2) (h : Lx_person fu L M a0 a1 a2 = some res) : vx_Met l yX11_person (Cond.code yX11_person cX11_person 4 (some .int) :: zTB) (zrm 8 1 6) (va_Pc [zR G.2.2.1 a0, .int (zO a1), .int (zO a2)] (zPre G top L M)) (zQX G top L M res) (zXX G top L M res) 1 6 (zA G) := by
  refine vx_ofW (cc := cX11_person) (maxL := 4) (ret := some .int) (by decide +kernel) rfl ?_
  intro p e s m args below meth c s₁ B hml htab hv
  obtain ⟨rfl, hR, hK⟩ := hv
  have hts := atoms_spec (ws := Cond.code yX11_person cX11_person 4 (some .int) :: zTB) B.pre
  have hown : s.vm.findClass yX11_person.cls = some m.cls := findClass_of_methodNamed B.named
  rw [lg_entry_eq]
  exact Lx_person_w ⟨⟨B.exec, B.bytes, hml, hown, fun w hw => hts w (List.mem_cons_of_mem _ hw)⟩, hK, B.returns, B.notSynchronized⟩ ha0 ha1 ha2 hlf htop htab ⟨hR, va_S.rf, fun q hq => by
    have h1 := hR.2.1
    have h2 := hR.2.2.1
    show G.2.2.1 < q
    omega⟩ ((zLV.entry (vs := [zR G.2.2.1 a0, .int (zO a1), .int (zO a2)]) (by simp [zR_cat, zcat_I]) (Nat.le_of_ble_eq_true rfl)).sub (And.intro rfl (And.intro rfl (And.intro rfl True.intro)))) h
end ZP2
