theorem Wd_bornIn_dc : zDL cX10_bornIn [(0, .iload_n 1, 1, 1), (1, .ifCond .lt 29, 3, 4), (4, .iload_n 1, 1, 5), (5, .aload_n 0, 1, 6), (6, .getfield 25, 3, 9), (9, .if_icmp .ge 21, 3, 12), (12, .iload_n 1, 1, 13), (13, .aload_n 0, 1, 14), (14, .getfield 9, 3, 17), (17, .arraylength, 1, 18), (18, .if_icmp .ge 12, 3, 21), (21, .aload_n 0, 1, 22), (22, .getfield 9, 3, 25), (25, .iload_n 1, 1, 26), (26, .iaload, 1, 27), (27, .goto 4, 3, 30), (30, .iconst 0, 1, 31), (31, .ireturn, 1, 32)] := zDL.of (by decide +kernel)
section
variable {p : Program} {l : Launch} {e : Env} {s : State} {m : MethodId} {args : Array Value} {below : List Frame} {meth : Method} {c : Code} {G : zG} {top : Int} {L : zL} {fu : Nat}
theorem Wd_bornIn_w (E : zEv p m c cX10_bornIn 2 s args RX10 meth (some .int) G) {res : Int} {M : zM} {a0 : Int} {a1 : Int} {H : Heap} {locs : List Loc} {ls : Array Slot} (ha0 : InR a0) (ha1 : InR a1) (S : zS G top L M s H locs) (hl : zLV ls 2 [some (zR G.2.2.1 a0), some (.int (zO a1))]) (h : Wd_bornIn fu L M a0 a1 = some res) : W p l e (zrm 1 0 0) s m args below meth c H locs 0 0 (MQ below (zQ G top L M (some (.int (zO res))) (InR res)) args s 0 0 (zA G)) (F0 m 0 ls []) := by
  unfold Wd_bornIn at h
  refine u_il_n (x := a1) E (Wd_bornIn_dc.at 0 rfl) hl rfl ?_
  refine r_if_lt (tgt := 30) E ha1 (Wd_bornIn_dc.at 1 rfl) (by decide) (fun q => ?_) (fun q => ?_)
  · have h := ite_t h q
    refine r_iconst E (Wd_bornIn_dc.at 16 rfl) ?_
    cases h
    exact r_iret E S (show InR 0 by decide) (Wd_bornIn_dc.at 17 rfl)
  · have h := ite_f h q
    refine u_il_n (x := a1) E (Wd_bornIn_dc.at 2 rfl) hl rfl ?_
    refine u_al_n (x := a0) E (Wd_bornIn_dc.at 3 rfl) hl rfl ?_
    obtain ⟨g1, h⟩ := ite_e h
    refine u_gI E zf_10_4 S g1 zw_1_197 (Wd_bornIn_dc.at 4 rfl) ?_
    refine r_icmp_ge (tgt := 30) E ha1 (S.1.inR _ _) (Wd_bornIn_dc.at 5 rfl) (by decide) (fun q => ?_) (fun q => ?_)
    · have h := ite_t h q
      refine u_il_n (x := a1) E (Wd_bornIn_dc.at 6 rfl) hl rfl ?_
      refine u_al_n (x := a0) E (Wd_bornIn_dc.at 7 rfl) hl rfl ?_
      refine u_gR E zf_10_0 S g1 zw_1_190 (Wd_bornIn_dc.at 8 rfl) ?_
      obtain ⟨g2, h⟩ := ite_e h
      refine r_alen E S g2 (by decide) (Wd_bornIn_dc.at 9 rfl) ?_
      refine r_icmp_ge (tgt := 30) E ha1 (S.1.lenR _) (Wd_bornIn_dc.at 10 rfl) (by decide) (fun q => ?_) (fun q => ?_)
      · have h := ite_t h q
        refine u_al_n (x := a0) E (Wd_bornIn_dc.at 11 rfl) hl rfl ?_
        refine u_gR E zf_10_0 S g1 zw_1_190 (Wd_bornIn_dc.at 12 rfl) ?_
        refine u_il_n (x := a1) E (Wd_bornIn_dc.at 13 rfl) hl rfl ?_
        obtain ⟨g3, h⟩ := ite_e h
        refine r_iald E S g2 g3 (Wd_bornIn_dc.at 14 rfl) ?_
        refine r_goto (tgt := 31) E (Wd_bornIn_dc.at 15 rfl) (by decide) ?_
        cases h
        exact r_iret E S (S.1.inR _ _) (Wd_bornIn_dc.at 17 rfl)
      · have h := ite_f h q
        refine r_iconst E (Wd_bornIn_dc.at 16 rfl) ?_
        cases h
        exact r_iret E S (show InR 0 by decide) (Wd_bornIn_dc.at 17 rfl)
    · have h := ite_f h q
      refine r_iconst E (Wd_bornIn_dc.at 16 rfl) ?_
      cases h
      exact r_iret E S (show InR 0 by decide) (Wd_bornIn_dc.at 17 rfl)
theorem Wd_bornIn_c (l : Launch) (G : zG) (fu : Nat) (top : Int) (L : zL) (M : zM) (a0 : Int) (a1 : Int) {res : Int} (ha0 : InR a0) (ha1 : InR a1) (h : Wd_bornIn fu L M a0 a1 = some res) : Met l yX10_bornIn (Cond.code yX10_bornIn cX10_bornIn 2 (some .int) :: zTB) (zrm 1 0 0) (va_Pc [zR G.2.2.1 a0, .int (zO a1)] (zPre G top L M)) (zQ G top L M (some (.int (zO res))) (InR res)) 0 0 (zA G) :=
  z_met (by decide +kernel) (by simp [zR_cat, zcat_I, zcat_S]) (Nat.le_of_ble_eq_true rfl) fun p e s m below meth c ls E hn S hl => Wd_bornIn_w E ha0 ha1 S (hl.sub (And.intro rfl (And.intro rfl True.intro))) h
end
theorem Wd_parentOf_dc : zDL cX10_parentOf [(0, .iload_n 1, 1, 1), (1, .ifCond .lt 29, 3, 4), (4, .iload_n 1, 1, 5), (5, .aload_n 0, 1, 6), (6, .getfield 25, 3, 9), (9, .if_icmp .ge 21, 3, 12), (12, .iload_n 1, 1, 13), (13, .aload_n 0, 1, 14), (14, .getfield 18, 3, 17), (17, .arraylength, 1, 18), (18, .if_icmp .ge 12, 3, 21), (21, .aload_n 0, 1, 22), (22, .getfield 18, 3, 25), (25, .iload_n 1, 1, 26), (26, .iaload, 1, 27), (27, .goto 4, 3, 30), (30, .iconst (-1), 1, 31), (31, .ireturn, 1, 32)] := zDL.of (by decide +kernel)
section
variable {p : Program} {l : Launch} {e : Env} {s : State} {m : MethodId} {args : Array Value} {below : List Frame} {meth : Method} {c : Code} {G : zG} {top : Int} {L : zL} {fu : Nat}
theorem Wd_parentOf_w (E : zEv p m c cX10_parentOf 2 s args RX10 meth (some .int) G) {res : Int} {M : zM} {a0 : Int} {a1 : Int} {H : Heap} {locs : List Loc} {ls : Array Slot} (ha0 : InR a0) (ha1 : InR a1) (S : zS G top L M s H locs) (hl : zLV ls 2 [some (zR G.2.2.1 a0), some (.int (zO a1))]) (h : Wd_parentOf fu L M a0 a1 = some res) : W p l e (zrm 1 0 0) s m args below meth c H locs 0 0 (MQ below (zQ G top L M (some (.int (zO res))) (InR res)) args s 0 0 (zA G)) (F0 m 0 ls []) := by
  unfold Wd_parentOf at h
  refine u_il_n (x := a1) E (Wd_parentOf_dc.at 0 rfl) hl rfl ?_
  refine r_if_lt (tgt := 30) E ha1 (Wd_parentOf_dc.at 1 rfl) (by decide) (fun q => ?_) (fun q => ?_)
  · have h := ite_t h q
    refine r_iconst E (Wd_parentOf_dc.at 16 rfl) ?_
    cases h
    exact r_iret E S (show InR (-1) by decide) (Wd_parentOf_dc.at 17 rfl)
  · have h := ite_f h q
    refine u_il_n (x := a1) E (Wd_parentOf_dc.at 2 rfl) hl rfl ?_
    refine u_al_n (x := a0) E (Wd_parentOf_dc.at 3 rfl) hl rfl ?_
    obtain ⟨g1, h⟩ := ite_e h
    refine u_gI E zf_10_4 S g1 zw_1_197 (Wd_parentOf_dc.at 4 rfl) ?_
    refine r_icmp_ge (tgt := 30) E ha1 (S.1.inR _ _) (Wd_parentOf_dc.at 5 rfl) (by decide) (fun q => ?_) (fun q => ?_)
    · have h := ite_t h q
      refine u_il_n (x := a1) E (Wd_parentOf_dc.at 6 rfl) hl rfl ?_
      refine u_al_n (x := a0) E (Wd_parentOf_dc.at 7 rfl) hl rfl ?_
      refine u_gR E zf_10_2 S g1 zw_1_192 (Wd_parentOf_dc.at 8 rfl) ?_
      obtain ⟨g2, h⟩ := ite_e h
      refine r_alen E S g2 (by decide) (Wd_parentOf_dc.at 9 rfl) ?_
      refine r_icmp_ge (tgt := 30) E ha1 (S.1.lenR _) (Wd_parentOf_dc.at 10 rfl) (by decide) (fun q => ?_) (fun q => ?_)
      · have h := ite_t h q
        refine u_al_n (x := a0) E (Wd_parentOf_dc.at 11 rfl) hl rfl ?_
        refine u_gR E zf_10_2 S g1 zw_1_192 (Wd_parentOf_dc.at 12 rfl) ?_
        refine u_il_n (x := a1) E (Wd_parentOf_dc.at 13 rfl) hl rfl ?_
        obtain ⟨g3, h⟩ := ite_e h
        refine r_iald E S g2 g3 (Wd_parentOf_dc.at 14 rfl) ?_
        refine r_goto (tgt := 31) E (Wd_parentOf_dc.at 15 rfl) (by decide) ?_
        cases h
        exact r_iret E S (S.1.inR _ _) (Wd_parentOf_dc.at 17 rfl)
      · have h := ite_f h q
        refine r_iconst E (Wd_parentOf_dc.at 16 rfl) ?_
        cases h
        exact r_iret E S (show InR (-1) by decide) (Wd_parentOf_dc.at 17 rfl)
    · have h := ite_f h q
      refine r_iconst E (Wd_parentOf_dc.at 16 rfl) ?_
      cases h
      exact r_iret E S (show InR (-1) by decide) (Wd_parentOf_dc.at 17 rfl)
theorem Wd_parentOf_c (l : Launch) (G : zG) (fu : Nat) (top : Int) (L : zL) (M : zM) (a0 : Int) (a1 : Int) {res : Int} (ha0 : InR a0) (ha1 : InR a1) (h : Wd_parentOf fu L M a0 a1 = some res) : Met l yX10_parentOf (Cond.code yX10_parentOf cX10_parentOf 2 (some .int) :: zTB) (zrm 1 0 0) (va_Pc [zR G.2.2.1 a0, .int (zO a1)] (zPre G top L M)) (zQ G top L M (some (.int (zO res))) (InR res)) 0 0 (zA G) :=
  z_met (by decide +kernel) (by simp [zR_cat, zcat_I, zcat_S]) (Nat.le_of_ble_eq_true rfl) fun p e s m below meth c ls E hn S hl => Wd_parentOf_w E ha0 ha1 S (hl.sub (And.intro rfl (And.intro rfl True.intro))) h
end
theorem Wd_diedIn_dc : zDL cX10_diedIn [(0, .iload_n 1, 1, 1), (1, .ifCond .lt 29, 3, 4), (4, .iload_n 1, 1, 5), (5, .aload_n 0, 1, 6), (6, .getfield 25, 3, 9), (9, .if_icmp .ge 21, 3, 12), (12, .iload_n 1, 1, 13), (13, .aload_n 0, 1, 14), (14, .getfield 15, 3, 17), (17, .arraylength, 1, 18), (18, .if_icmp .ge 12, 3, 21), (21, .aload_n 0, 1, 22), (22, .getfield 15, 3, 25), (25, .iload_n 1, 1, 26), (26, .iaload, 1, 27), (27, .goto 5, 3, 30), (30, .ldc 31, 2, 32), (32, .ireturn, 1, 33)] := zDL.of (by decide +kernel)
section
variable {p : Program} {l : Launch} {e : Env} {s : State} {m : MethodId} {args : Array Value} {below : List Frame} {meth : Method} {c : Code} {G : zG} {top : Int} {L : zL} {fu : Nat}
theorem Wd_diedIn_w (E : zEv p m c cX10_diedIn 2 s args RX10 meth (some .int) G) {res : Int} {M : zM} {a0 : Int} {a1 : Int} {H : Heap} {locs : List Loc} {ls : Array Slot} (ha0 : InR a0) (ha1 : InR a1) (S : zS G top L M s H locs) (hl : zLV ls 2 [some (zR G.2.2.1 a0), some (.int (zO a1))]) (h : Wd_diedIn fu L M a0 a1 = some res) : W p l e (zrm 1 0 0) s m args below meth c H locs 0 0 (MQ below (zQ G top L M (some (.int (zO res))) (InR res)) args s 0 0 (zA G)) (F0 m 0 ls []) := by
  unfold Wd_diedIn at h
  refine u_il_n (x := a1) E (Wd_diedIn_dc.at 0 rfl) hl rfl ?_
  refine r_if_lt (tgt := 30) E ha1 (Wd_diedIn_dc.at 1 rfl) (by decide) (fun q => ?_) (fun q => ?_)
  · have h := ite_t h q
    refine r_ldc (n := (-1000000)) E (Wd_diedIn_dc.at 16 rfl) zw_3_224 rfl ?_
    cases h
    exact r_iret E S (show InR (-1000000) by decide) (Wd_diedIn_dc.at 17 rfl)
  · have h := ite_f h q
    refine u_il_n (x := a1) E (Wd_diedIn_dc.at 2 rfl) hl rfl ?_
    refine u_al_n (x := a0) E (Wd_diedIn_dc.at 3 rfl) hl rfl ?_
    obtain ⟨g1, h⟩ := ite_e h
    refine u_gI E zf_10_4 S g1 zw_1_197 (Wd_diedIn_dc.at 4 rfl) ?_
    refine r_icmp_ge (tgt := 30) E ha1 (S.1.inR _ _) (Wd_diedIn_dc.at 5 rfl) (by decide) (fun q => ?_) (fun q => ?_)
    · have h := ite_t h q
      refine u_il_n (x := a1) E (Wd_diedIn_dc.at 6 rfl) hl rfl ?_
      refine u_al_n (x := a0) E (Wd_diedIn_dc.at 7 rfl) hl rfl ?_
      refine u_gR E zf_10_1 S g1 zw_1_191 (Wd_diedIn_dc.at 8 rfl) ?_
      obtain ⟨g2, h⟩ := ite_e h
      refine r_alen E S g2 (by decide) (Wd_diedIn_dc.at 9 rfl) ?_
      refine r_icmp_ge (tgt := 30) E ha1 (S.1.lenR _) (Wd_diedIn_dc.at 10 rfl) (by decide) (fun q => ?_) (fun q => ?_)
      · have h := ite_t h q
        refine u_al_n (x := a0) E (Wd_diedIn_dc.at 11 rfl) hl rfl ?_
        refine u_gR E zf_10_1 S g1 zw_1_191 (Wd_diedIn_dc.at 12 rfl) ?_
        refine u_il_n (x := a1) E (Wd_diedIn_dc.at 13 rfl) hl rfl ?_
        obtain ⟨g3, h⟩ := ite_e h
        refine r_iald E S g2 g3 (Wd_diedIn_dc.at 14 rfl) ?_
        refine r_goto (tgt := 32) E (Wd_diedIn_dc.at 15 rfl) (by decide) ?_
        cases h
        exact r_iret E S (S.1.inR _ _) (Wd_diedIn_dc.at 17 rfl)
      · have h := ite_f h q
        refine r_ldc (n := (-1000000)) E (Wd_diedIn_dc.at 16 rfl) zw_3_224 rfl ?_
        cases h
        exact r_iret E S (show InR (-1000000) by decide) (Wd_diedIn_dc.at 17 rfl)
    · have h := ite_f h q
      refine r_ldc (n := (-1000000)) E (Wd_diedIn_dc.at 16 rfl) zw_3_224 rfl ?_
      cases h
      exact r_iret E S (show InR (-1000000) by decide) (Wd_diedIn_dc.at 17 rfl)
theorem Wd_diedIn_c (l : Launch) (G : zG) (fu : Nat) (top : Int) (L : zL) (M : zM) (a0 : Int) (a1 : Int) {res : Int} (ha0 : InR a0) (ha1 : InR a1) (h : Wd_diedIn fu L M a0 a1 = some res) : Met l yX10_diedIn (Cond.code yX10_diedIn cX10_diedIn 2 (some .int) :: zTB) (zrm 1 0 0) (va_Pc [zR G.2.2.1 a0, .int (zO a1)] (zPre G top L M)) (zQ G top L M (some (.int (zO res))) (InR res)) 0 0 (zA G) :=
  z_met (by decide +kernel) (by simp [zR_cat, zcat_I, zcat_S]) (Nat.le_of_ble_eq_true rfl) fun p e s m below meth c ls E hn S hl => Wd_diedIn_w E ha0 ha1 S (hl.sub (And.intro rfl (And.intro rfl True.intro))) h
end
theorem Wd_has_dc : zDL cX10_has [(0, .iload_n 1, 1, 1), (1, .ifCond .lt 21, 3, 4), (4, .iload_n 1, 1, 5), (5, .aload_n 0, 1, 6), (6, .getfield 25, 3, 9), (9, .if_icmp .ge 13, 3, 12), (12, .iload_n 1, 1, 13), (13, .bipush 24, 2, 15), (15, .if_icmp .ge 7, 3, 18), (18, .iconst 1, 1, 19), (19, .goto 4, 3, 22), (22, .iconst 0, 1, 23), (23, .ireturn, 1, 24)] := zDL.of (by decide +kernel)
section
variable {p : Program} {l : Launch} {e : Env} {s : State} {m : MethodId} {args : Array Value} {below : List Frame} {meth : Method} {c : Code} {G : zG} {top : Int} {L : zL} {fu : Nat}
theorem Wd_has_w (E : zEv p m c cX10_has 2 s args RX10 meth (some .boolean) G) {res : Int} {M : zM} {a0 : Int} {a1 : Int} {H : Heap} {locs : List Loc} {ls : Array Slot} (ha0 : InR a0) (ha1 : InR a1) (S : zS G top L M s H locs) (hl : zLV ls 2 [some (zR G.2.2.1 a0), some (.int (zO a1))]) (h : Wd_has fu L M a0 a1 = some res) : W p l e (zrm 1 0 0) s m args below meth c H locs 0 0 (MQ below (zQ G top L M (some (.int (zO res))) (0 ≤ res ∧ res ≤ 1)) args s 0 0 (zA G)) (F0 m 0 ls []) := by
  unfold Wd_has at h
  refine u_il_n (x := a1) E (Wd_has_dc.at 0 rfl) hl rfl ?_
  refine r_if_lt (tgt := 22) E ha1 (Wd_has_dc.at 1 rfl) (by decide) (fun q => ?_) (fun q => ?_)
  · have h := ite_t h q
    refine r_iconst E (Wd_has_dc.at 11 rfl) ?_
    cases h
    exact r_zret E S z01_0 z01_0 (Wd_has_dc.at 12 rfl)
  · have h := ite_f h q
    refine u_il_n (x := a1) E (Wd_has_dc.at 2 rfl) hl rfl ?_
    refine u_al_n (x := a0) E (Wd_has_dc.at 3 rfl) hl rfl ?_
    obtain ⟨g1, h⟩ := ite_e h
    refine u_gI E zf_10_4 S g1 zw_1_197 (Wd_has_dc.at 4 rfl) ?_
    refine r_icmp_ge (tgt := 22) E ha1 (S.1.inR _ _) (Wd_has_dc.at 5 rfl) (by decide) (fun q => ?_) (fun q => ?_)
    · have h := ite_t h q
      refine u_il_n (x := a1) E (Wd_has_dc.at 6 rfl) hl rfl ?_
      refine r_bipush E (Wd_has_dc.at 7 rfl) rfl ?_
      refine r_icmp_ge (tgt := 22) E ha1 (show InR 24 by decide) (Wd_has_dc.at 8 rfl) (by decide) (fun q => ?_) (fun q => ?_)
      · have h := ite_t h q
        refine r_iconst E (Wd_has_dc.at 9 rfl) ?_
        refine r_goto (tgt := 23) E (Wd_has_dc.at 10 rfl) (by decide) ?_
        cases h
        exact r_zret E S z01_1 z01_1 (Wd_has_dc.at 12 rfl)
      · have h := ite_f h q
        refine r_iconst E (Wd_has_dc.at 11 rfl) ?_
        cases h
        exact r_zret E S z01_0 z01_0 (Wd_has_dc.at 12 rfl)
    · have h := ite_f h q
      refine r_iconst E (Wd_has_dc.at 11 rfl) ?_
      cases h
      exact r_zret E S z01_0 z01_0 (Wd_has_dc.at 12 rfl)
theorem Wd_has_c (l : Launch) (G : zG) (fu : Nat) (top : Int) (L : zL) (M : zM) (a0 : Int) (a1 : Int) {res : Int} (ha0 : InR a0) (ha1 : InR a1) (h : Wd_has fu L M a0 a1 = some res) : Met l yX10_has (Cond.code yX10_has cX10_has 2 (some .boolean) :: zTB) (zrm 1 0 0) (va_Pc [zR G.2.2.1 a0, .int (zO a1)] (zPre G top L M)) (zQ G top L M (some (.int (zO res))) (0 ≤ res ∧ res ≤ 1)) 0 0 (zA G) :=
  z_met (by decide +kernel) (by simp [zR_cat, zcat_I, zcat_S]) (Nat.le_of_ble_eq_true rfl) fun p e s m below meth c ls E hn S hl => Wd_has_w E ha0 ha1 S (hl.sub (And.intro rfl (And.intro rfl True.intro))) h
end
theorem Wd_setDeath_dc : zDL cX10_setDeath [(0, .aload_n 0, 1, 1), (1, .iload_n 1, 1, 2), (2, .invokevirtual 55, 3, 5), (5, .ifCond .eq 10, 3, 8), (8, .aload_n 0, 1, 9), (9, .getfield 15, 3, 12), (12, .iload_n 1, 1, 13), (13, .iload_n 2, 1, 14), (14, .iastore, 1, 15), (15, .return_, 1, 16)] := zDL.of (by decide +kernel)
section
variable {p : Program} {l : Launch} {e : Env} {s : State} {m : MethodId} {args : Array Value} {below : List Frame} {meth : Method} {c : Code} {G : zG} {top : Int} {L : zL} {fu : Nat}
theorem Wd_setDeath_w (E : zEv p m c cX10_setDeath 3 s args RX10 meth none G) {res : zM} {M : zM} {a0 : Int} {a1 : Int} {a2 : Int} {H : Heap} {locs : List Loc} {ls : Array Slot} (ha0 : InR a0) (ha1 : InR a1) (ha2 : InR a2) (S : zS G top L M s H locs) (hl : zLV ls 3 [some (zR G.2.2.1 a0), some (.int (zO a1)), some (.int (zO a2))]) (h : Wd_setDeath fu L M a0 a1 a2 = some res) : W p l e (zrm 2 0 0) s m args below meth c H locs 0 0 (MQ below (zQ G top L res none True) args s 0 0 (zA G)) (F0 m 0 ls []) := by
  unfold Wd_setDeath at h
  refine u_al_n (x := a0) E (Wd_setDeath_dc.at 0 rfl) hl rfl ?_
  refine u_il_n (x := a1) E (Wd_setDeath_dc.at 1 rfl) hl rfl ?_
  obtain ⟨g1, h⟩ := ite_e h
  obtain ⟨r2, er2, h⟩ := bd1_e h
  refine u_cVI (As := [.int (zO a1)]) (rest := []) E S zcw_yX10_has zw_4_35 zw_4_36 zw_4_34 zck_10.1 rfl g1 (Wd_has_c l G fu top L M a0 a1 ha0 ha1 er2) (zrm_ok (by decide) (by decide)) ⟨Nat.le_refl 0, Nat.le_refl 0⟩ rfl (Nat.zero_le 8) hl.size rfl (Wd_setDeath_dc.at 2 rfl) (fun H locs hr2 S3 => ?_)
  refine r_if_eq (tgt := 15) E (inR_01 hr2) (Wd_setDeath_dc.at 3 rfl) (by decide) (fun q => ?_) (fun q => ?_)
  · have h := ite_t h q
    cases h
    exact r_vret E S3 True.intro (Wd_setDeath_dc.at 9 rfl)
  · have h := ite_f h q
    refine u_al_n (x := a0) E (Wd_setDeath_dc.at 4 rfl) hl rfl ?_
    refine u_gR E zf_10_1 S3 g1 zw_1_191 (Wd_setDeath_dc.at 5 rfl) ?_
    refine u_il_n (x := a1) E (Wd_setDeath_dc.at 6 rfl) hl rfl ?_
    refine u_il_n (x := a2) E (Wd_setDeath_dc.at 7 rfl) hl rfl ?_
    obtain ⟨g4, h⟩ := ite_e h
    obtain ⟨g5, h⟩ := ite_e h
    obtain ⟨M6, eM6, h⟩ := lt1_e h
    refine u_iast E eM6 S3 g4 g5 ha2 (Wd_setDeath_dc.at 8 rfl) (fun H locs S7 => ?_)
    cases h
    exact r_vret E S7 True.intro (Wd_setDeath_dc.at 9 rfl)
theorem Wd_setDeath_c (l : Launch) (G : zG) (fu : Nat) (top : Int) (L : zL) (M : zM) (a0 : Int) (a1 : Int) (a2 : Int) {res : zM} (ha0 : InR a0) (ha1 : InR a1) (ha2 : InR a2) (h : Wd_setDeath fu L M a0 a1 a2 = some res) : Met l yX10_setDeath (Cond.code yX10_setDeath cX10_setDeath 3 none :: zTB) (zrm 2 0 0) (va_Pc [zR G.2.2.1 a0, .int (zO a1), .int (zO a2)] (zPre G top L M)) (zQ G top L res none True) 0 0 (zA G) :=
  z_met (by decide +kernel) (by simp [zR_cat, zcat_I, zcat_S]) (Nat.le_of_ble_eq_true rfl) fun p e s m below meth c ls E hn S hl => Wd_setDeath_w E ha0 ha1 ha2 S (hl.sub (And.intro rfl (And.intro rfl (And.intro rfl True.intro)))) h
end
theorem Wd_copyFrom_dc : zDL cX10_copyFrom [(0, .aload_n 0, 1, 1), (1, .invokevirtual 36, 3, 4), (4, .iconst 0, 1, 5), (5, .istore_n 2, 1, 6), (6, .iload_n 2, 1, 7), (7, .aload_n 1, 1, 8), (8, .getfield 25, 3, 11), (11, .if_icmp .ge 33, 3, 14), (14, .aload_n 0, 1, 15), (15, .aload_n 1, 1, 16), (16, .iload_n 2, 1, 17), (17, .invokevirtual 39, 3, 20), (20, .aload_n 1, 1, 21), (21, .iload_n 2, 1, 22), (22, .invokevirtual 43, 3, 25), (25, .invokevirtual 32, 3, 28), (28, .aload_n 0, 1, 29), (29, .iload_n 2, 1, 30), (30, .aload_n 1, 1, 31), (31, .iload_n 2, 1, 32), (32, .invokevirtual 49, 3, 35), (35, .invokevirtual 52, 3, 38), (38, .iinc 2 1, 3, 41), (41, .goto (-35), 3, 44), (44, .aload_n 0, 1, 45), (45, .aload_n 1, 1, 46), (46, .getfield 21, 3, 49), (49, .putfield 21, 3, 52), (52, .aload_n 0, 1, 53), (53, .aload_n 1, 1, 54), (54, .getfield 28, 3, 57), (57, .putfield 28, 3, 60), (60, .return_, 1, 61)] := zDL.of (by decide +kernel)
section
variable {p : Program} {l : Launch} {e : Env} {s : State} {m : MethodId} {args : Array Value} {below : List Frame} {meth : Method} {c : Code} {G : zG} {top : Int} {L : zL} {fu : Nat}
theorem Wd_copyFrom_s6_w (E : zEv p m c cX10_copyFrom 3 s args RX10 meth none G) {res : zM} {k6 : zM → Int → Int → Int → Option zM} (hk6 : ∀ (M : zM) (x0 : Int) (x1 : Int) (x2 : Int), InR x0 → InR x1 → InR x2 → ∀ (H : Heap) (locs : List Loc) (ls : Array Slot), zS G top L M s H locs → zLV ls 3 [some (zR G.2.2.1 x0), some (zR G.2.2.1 x1), some (.int (zO x2))] → k6 M x0 x1 x2 = some res → W p l e (zrm 3 0 0) s m args below meth c H locs 0 0 (MQ below (zQ G top L res none True) args s 0 0 (zA G)) (F0 m 6 ls [])) {M : zM} {x0 : Int} {x1 : Int} {x2 : Int} {H : Heap} {locs : List Loc} {ls : Array Slot} (hx0 : InR x0) (hx1 : InR x1) (hx2 : InR x2) (S : zS G top L M s H locs) (hl : zLV ls 3 [some (zR G.2.2.1 x0), some (zR G.2.2.1 x1), some (.int (zO x2))]) (h : Wd_copyFrom_s6 fu k6 L M x0 x1 x2 = some res) : W p l e (zrm 3 0 0) s m args below meth c H locs 0 0 (MQ below (zQ G top L res none True) args s 0 0 (zA G)) (F0 m 6 ls []) := by
  unfold Wd_copyFrom_s6 at h
  refine u_il_n (x := x2) E (Wd_copyFrom_dc.at 4 rfl) hl rfl ?_
  refine u_al_n (x := x1) E (Wd_copyFrom_dc.at 5 rfl) hl rfl ?_
  obtain ⟨g4, h⟩ := ite_e h
  refine u_gI E zf_10_4 S g4 zw_1_197 (Wd_copyFrom_dc.at 6 rfl) ?_
  refine r_icmp_ge (tgt := 44) E hx2 (S.1.inR _ _) (Wd_copyFrom_dc.at 7 rfl) (by decide) (fun q => ?_) (fun q => ?_)
  · have h := ite_t h q
    refine u_al_n (x := x0) E (Wd_copyFrom_dc.at 8 rfl) hl rfl ?_
    refine u_al_n (x := x1) E (Wd_copyFrom_dc.at 9 rfl) hl rfl ?_
    refine u_il_n (x := x2) E (Wd_copyFrom_dc.at 10 rfl) hl rfl ?_
    obtain ⟨r5, er5, h⟩ := bd1_e h
    refine u_cVI (As := [.int (zO x2)]) (rest := [zR G.2.2.1 x0]) E S zcw_yX10_bornIn zw_4_19 zw_4_20 zw_4_18 zck_10.1 rfl g4 (Wd_bornIn_c l G fu top L M x1 x2 hx1 hx2 er5) (zrm_ok (by decide) (by decide)) ⟨Nat.le_refl 0, Nat.le_refl 0⟩ rfl (by simp [zR_cat, zcat_I, zcat_J, zcat_S]) hl.size rfl (Wd_copyFrom_dc.at 11 rfl) (fun H locs hr5 S6 => ?_)
    refine u_al_n (x := x1) E (Wd_copyFrom_dc.at 12 rfl) hl rfl ?_
    refine u_il_n (x := x2) E (Wd_copyFrom_dc.at 13 rfl) hl rfl ?_
    obtain ⟨r7, er7, h⟩ := bd1_e h
    refine u_cVI (As := [.int (zO x2)]) (rest := [.int (zO r5), zR G.2.2.1 x0]) E S6 zcw_yX10_parentOf zw_4_23 zw_4_24 zw_4_22 zck_10.1 rfl g4 (Wd_parentOf_c l G fu top L M x1 x2 hx1 hx2 er7) (zrm_ok (by decide) (by decide)) ⟨Nat.le_refl 0, Nat.le_refl 0⟩ rfl (by simp [zR_cat, zcat_I, zcat_J, zcat_S]) hl.size rfl (Wd_copyFrom_dc.at 14 rfl) (fun H locs hr7 S8 => ?_)
    obtain ⟨g9, h⟩ := ite_e h
    obtain ⟨M10, eM10, h⟩ := bd1_e h
    refine u_cVU (As := [.int (zO r5), .int (zO r7)]) (rest := []) E S8 zcw_yX10_add zw_3_221 zw_3_222 zw_3_220 zck_10.1 rfl g9 (Wd_add_c l G fu top L M x0 r5 r7 hx0 hr5 hr7 eM10) (zrm_ok (by decide) (by decide)) ⟨Nat.le_refl 0, Nat.le_refl 0⟩ rfl (Nat.zero_le 8) hl.size rfl (Wd_copyFrom_dc.at 15 rfl) (fun H locs _ S11 => ?_)
    refine u_al_n (x := x0) E (Wd_copyFrom_dc.at 16 rfl) hl rfl ?_
    refine u_il_n (x := x2) E (Wd_copyFrom_dc.at 17 rfl) hl rfl ?_
    refine u_al_n (x := x1) E (Wd_copyFrom_dc.at 18 rfl) hl rfl ?_
    refine u_il_n (x := x2) E (Wd_copyFrom_dc.at 19 rfl) hl rfl ?_
    obtain ⟨r12, er12, h⟩ := bd1_e h
    refine u_cVI (As := [.int (zO x2)]) (rest := [.int (zO x2), zR G.2.2.1 x0]) E S11 zcw_yX10_diedIn zw_4_27 zw_4_28 zw_4_26 zck_10.1 rfl g4 (Wd_diedIn_c l G fu top L M10 x1 x2 hx1 hx2 er12) (zrm_ok (by decide) (by decide)) ⟨Nat.le_refl 0, Nat.le_refl 0⟩ rfl (by simp [zR_cat, zcat_I, zcat_J, zcat_S]) hl.size rfl (Wd_copyFrom_dc.at 20 rfl) (fun H locs hr12 S13 => ?_)
    obtain ⟨M14, eM14, h⟩ := bd1_e h
    refine u_cVU (As := [.int (zO x2), .int (zO r12)]) (rest := []) E S13 zcw_yX10_setDeath zw_4_31 zw_4_32 zw_4_30 zck_10.1 rfl g9 (Wd_setDeath_c l G fu top L M10 x0 x2 r12 hx0 hx2 hr12 eM14) (zrm_ok (by decide) (by decide)) ⟨Nat.le_refl 0, Nat.le_refl 0⟩ rfl (Nat.zero_le 8) hl.size rfl (Wd_copyFrom_dc.at 21 rfl) (fun H locs _ S15 => ?_)
    obtain ⟨v16, ev16, h⟩ := lt1_e h
    have hv16 := inR_eq ev16 (inR_w32 _)
    refine u_iinc (y := v16) (vs' := [some (zR G.2.2.1 x0), some (zR G.2.2.1 x1), some (.int (zO v16))]) E ev16 (Wd_copyFrom_dc.at 22 rfl) hl rfl (by decide) rfl (fun ls hl => ?_)
    refine r_goto (tgt := 6) E (Wd_copyFrom_dc.at 23 rfl) (by decide) ?_
    exact hk6 _ x0 x1 v16 hx0 hx1 hv16 _ _ _ S15 (hl.sub (And.intro rfl (And.intro rfl (And.intro rfl True.intro)))) h
  · have h := ite_f h q
    refine u_al_n (x := x0) E (Wd_copyFrom_dc.at 24 rfl) hl rfl ?_
    refine u_al_n (x := x1) E (Wd_copyFrom_dc.at 25 rfl) hl rfl ?_
    refine u_gI E zf_10_3 S g4 zw_1_193 (Wd_copyFrom_dc.at 26 rfl) ?_
    obtain ⟨g17, h⟩ := ite_e h
    obtain ⟨M18, eM18, h⟩ := lt1_e h
    refine u_pI E eM18 zf_10_3 S g17 (S.1.inR _ _) (Or.inl rfl) rfl zw_1_193 (Wd_copyFrom_dc.at 27 rfl) (fun H locs S19 => ?_)
    refine u_al_n (x := x0) E (Wd_copyFrom_dc.at 28 rfl) hl rfl ?_
    refine u_al_n (x := x1) E (Wd_copyFrom_dc.at 29 rfl) hl rfl ?_
    refine u_gI E zf_10_5 S19 g4 zw_1_199 (Wd_copyFrom_dc.at 30 rfl) ?_
    obtain ⟨M20, eM20, h⟩ := lt1_e h
    refine u_pI E eM20 zf_10_5 S19 g17 (S19.1.inR _ _) (Or.inl rfl) rfl zw_1_199 (Wd_copyFrom_dc.at 31 rfl) (fun H locs S21 => ?_)
    cases h
    exact r_vret E S21 True.intro (Wd_copyFrom_dc.at 32 rfl)
theorem Wd_copyFrom_l6_w (E : zEv p m c cX10_copyFrom 3 s args RX10 meth none G) {res : zM} : ∀ (n : Nat) (M : zM) (x0 : Int) (x1 : Int) (x2 : Int), InR x0 → InR x1 → InR x2 → ∀ (H : Heap) (locs : List Loc) (ls : Array Slot), zS G top L M s H locs → zLV ls 3 [some (zR G.2.2.1 x0), some (zR G.2.2.1 x1), some (.int (zO x2))] → Wd_copyFrom_l6 fu L n M x0 x1 x2 = some res → W p l e (zrm 3 0 0) s m args below meth c H locs 0 0 (MQ below (zQ G top L res none True) args s 0 0 (zA G)) (F0 m 6 ls [])
  | 0, _, _, _, _ => fun _ _ _ _ _ _ _ _ h => (by cases h)
  | n + 1, M, x0, x1, x2 => fun hx0 hx1 hx2 H locs ls S hl h => Wd_copyFrom_s6_w E (fun M x0 x1 x2 hx0 hx1 hx2 H locs ls S hl h => Wd_copyFrom_l6_w E n M x0 x1 x2 hx0 hx1 hx2 H locs ls S hl h) hx0 hx1 hx2 S hl h
theorem Wd_copyFrom_w (E : zEv p m c cX10_copyFrom 3 s args RX10 meth none G) {res : zM} {M : zM} {a0 : Int} {a1 : Int} {H : Heap} {locs : List Loc} {ls : Array Slot} (ha0 : InR a0) (ha1 : InR a1) (S : zS G top L M s H locs) (hl : zLV ls 3 [some (zR G.2.2.1 a0), some (zR G.2.2.1 a1), none]) (h : Wd_copyFrom fu L M a0 a1 = some res) : W p l e (zrm 3 0 0) s m args below meth c H locs 0 0 (MQ below (zQ G top L res none True) args s 0 0 (zA G)) (F0 m 0 ls []) := by
  unfold Wd_copyFrom at h
  refine u_al_n (x := a0) E (Wd_copyFrom_dc.at 0 rfl) hl rfl ?_
  obtain ⟨g1, h⟩ := ite_e h
  obtain ⟨M2, eM2, h⟩ := bd1_e h
  refine u_cVU (As := []) (rest := []) E S zcw_yX10_clear zw_3_213 zw_3_214 zw_4_17 zck_10.1 rfl g1 (Wd_clear_c l G fu top L M a0 ha0 eM2) (zrm_ok (by decide) (by decide)) ⟨Nat.le_refl 0, Nat.le_refl 0⟩ rfl (Nat.zero_le 8) hl.size rfl (Wd_copyFrom_dc.at 1 rfl) (fun H locs _ S3 => ?_)
  refine r_iconst E (Wd_copyFrom_dc.at 2 rfl) ?_
  refine u_ist_n (y := 0) (vs' := [some (zR G.2.2.1 a0), some (zR G.2.2.1 a1), some (.int (zO 0))]) E rfl (Wd_copyFrom_dc.at 3 rfl) hl (by decide) rfl (fun ls hl => ?_)
  exact Wd_copyFrom_l6_w E fu _ a0 a1 0 ha0 ha1 (show InR 0 by decide) _ _ _ S3 (hl.sub (And.intro rfl (And.intro rfl (And.intro rfl True.intro)))) h
theorem Wd_copyFrom_c (l : Launch) (G : zG) (fu : Nat) (top : Int) (L : zL) (M : zM) (a0 : Int) (a1 : Int) {res : zM} (ha0 : InR a0) (ha1 : InR a1) (h : Wd_copyFrom fu L M a0 a1 = some res) : Met l yX10_copyFrom (Cond.code yX10_copyFrom cX10_copyFrom 3 none :: zTB) (zrm 3 0 0) (va_Pc [zR G.2.2.1 a0, zR G.2.2.1 a1] (zPre G top L M)) (zQ G top L res none True) 0 0 (zA G) :=
  z_met (by decide +kernel) (by simp [zR_cat, zcat_I, zcat_S]) (Nat.le_of_ble_eq_true rfl) fun p e s m below meth c ls E hn S hl => Wd_copyFrom_w E ha0 ha1 S (hl.sub (And.intro rfl (And.intro rfl True.intro))) h
end
theorem Af_giftAt_dc : zDL cX1_giftAt [(0, .iload_n 1, 1, 1), (1, .ifCond .lt 29, 3, 4), (4, .iload_n 1, 1, 5), (5, .aload_n 0, 1, 6), (6, .getfield 27, 3, 9), (9, .if_icmp .ge 21, 3, 12), (12, .iload_n 1, 1, 13), (13, .aload_n 0, 1, 14), (14, .getfield 20, 3, 17), (17, .arraylength, 1, 18), (18, .if_icmp .ge 12, 3, 21), (21, .aload_n 0, 1, 22), (22, .getfield 20, 3, 25), (25, .iload_n 1, 1, 26), (26, .aaload, 1, 27), (27, .goto 4, 3, 30), (30, .aconst_null, 1, 31), (31, .areturn, 1, 32)] := zDL.of (by decide +kernel)
section
variable {p : Program} {l : Launch} {e : Env} {s : State} {m : MethodId} {args : Array Value} {below : List Frame} {meth : Method} {c : Code} {G : zG} {top : Int} {L : zL} {fu : Nat}
theorem Af_giftAt_w (E : zEv p m c cX1_giftAt 2 s args RX1 meth (some (.object "LaterLives$Gift")) G) {res : Int} {M : zM} {a0 : Int} {a1 : Int} {H : Heap} {locs : List Loc} {ls : Array Slot} (ha0 : InR a0) (ha1 : InR a1) (S : zS G top L M s H locs) (hl : zLV ls 2 [some (zR G.2.2.1 a0), some (.int (zO a1))]) (h : Af_giftAt fu L M a0 a1 = some res) : W p l e (zrm 1 0 0) s m args below meth c H locs 0 0 (MQ below (zQ G top L M (some (zR G.2.2.1 res)) (InR res)) args s 0 0 (zA G)) (F0 m 0 ls []) := by
  unfold Af_giftAt at h
  refine u_il_n (x := a1) E (Af_giftAt_dc.at 0 rfl) hl rfl ?_
  refine r_if_lt (tgt := 30) E ha1 (Af_giftAt_dc.at 1 rfl) (by decide) (fun q => ?_) (fun q => ?_)
  · have h := ite_t h q
    refine r_null E (Af_giftAt_dc.at 16 rfl) ?_
    cases h
    exact r_aret E (Or.inl ⟨_, rfl⟩) S (show InR 0 by decide) (Af_giftAt_dc.at 17 rfl)
  · have h := ite_f h q
    refine u_il_n (x := a1) E (Af_giftAt_dc.at 2 rfl) hl rfl ?_
    refine u_al_n (x := a0) E (Af_giftAt_dc.at 3 rfl) hl rfl ?_
    obtain ⟨g1, h⟩ := ite_e h
    refine u_gI E zf_1_2 S g1 zw_1_225 (Af_giftAt_dc.at 4 rfl) ?_
    refine r_icmp_ge (tgt := 30) E ha1 (S.1.inR _ _) (Af_giftAt_dc.at 5 rfl) (by decide) (fun q => ?_) (fun q => ?_)
    · have h := ite_t h q
      refine u_il_n (x := a1) E (Af_giftAt_dc.at 6 rfl) hl rfl ?_
      refine u_al_n (x := a0) E (Af_giftAt_dc.at 7 rfl) hl rfl ?_
      refine u_gR E zf_1_1 S g1 zw_1_224 (Af_giftAt_dc.at 8 rfl) ?_
      obtain ⟨g2, h⟩ := ite_e h
      refine r_alen E S g2 (by decide) (Af_giftAt_dc.at 9 rfl) ?_
      refine r_icmp_ge (tgt := 30) E ha1 (S.1.lenR _) (Af_giftAt_dc.at 10 rfl) (by decide) (fun q => ?_) (fun q => ?_)
      · have h := ite_t h q
        refine u_al_n (x := a0) E (Af_giftAt_dc.at 11 rfl) hl rfl ?_
        refine u_gR E zf_1_1 S g1 zw_1_224 (Af_giftAt_dc.at 12 rfl) ?_
        refine u_il_n (x := a1) E (Af_giftAt_dc.at 13 rfl) hl rfl ?_
        obtain ⟨g3, h⟩ := ite_e h
        refine r_aald E S g2 (by decide) g3 (Af_giftAt_dc.at 14 rfl) ?_
        refine r_goto (tgt := 31) E (Af_giftAt_dc.at 15 rfl) (by decide) ?_
        cases h
        exact r_aret E (Or.inl ⟨_, rfl⟩) S (S.1.inR _ _) (Af_giftAt_dc.at 17 rfl)
      · have h := ite_f h q
        refine r_null E (Af_giftAt_dc.at 16 rfl) ?_
        cases h
        exact r_aret E (Or.inl ⟨_, rfl⟩) S (show InR 0 by decide) (Af_giftAt_dc.at 17 rfl)
    · have h := ite_f h q
      refine r_null E (Af_giftAt_dc.at 16 rfl) ?_
      cases h
      exact r_aret E (Or.inl ⟨_, rfl⟩) S (show InR 0 by decide) (Af_giftAt_dc.at 17 rfl)
theorem Af_giftAt_c (l : Launch) (G : zG) (fu : Nat) (top : Int) (L : zL) (M : zM) (a0 : Int) (a1 : Int) {res : Int} (ha0 : InR a0) (ha1 : InR a1) (h : Af_giftAt fu L M a0 a1 = some res) : Met l yX1_giftAt (Cond.code yX1_giftAt cX1_giftAt 2 (some (.object "LaterLives$Gift")) :: zTB) (zrm 1 0 0) (va_Pc [zR G.2.2.1 a0, .int (zO a1)] (zPre G top L M)) (zQ G top L M (some (zR G.2.2.1 res)) (InR res)) 0 0 (zA G) :=
  z_met (by decide +kernel) (by simp [zR_cat, zcat_I, zcat_S]) (Nat.le_of_ble_eq_true rfl) fun p e s m below meth c ls E hn S hl => Af_giftAt_w E ha0 ha1 S (hl.sub (And.intro rfl (And.intro rfl True.intro))) h
end
theorem Af_addGift_dc : zDL cX1_addGift [(0, .aload_n 0, 1, 1), (1, .getfield 27, 3, 4), (4, .ifCond .lt 35, 3, 7), (7, .aload_n 0, 1, 8), (8, .getfield 27, 3, 11), (11, .aload_n 0, 1, 12), (12, .getfield 20, 3, 15), (15, .arraylength, 1, 16), (16, .if_icmp .ge 23, 3, 19), (19, .aload_n 0, 1, 20), (20, .getfield 20, 3, 23), (23, .aload_n 0, 1, 24), (24, .getfield 27, 3, 27), (27, .aload_n 1, 1, 28), (28, .aastore, 1, 29), (29, .aload_n 0, 1, 30), (30, .dup, 1, 31), (31, .getfield 27, 3, 34), (34, .iconst 1, 1, 35), (35, .iadd, 1, 36), (36, .putfield 27, 3, 39), (39, .return_, 1, 40)] := zDL.of (by decide +kernel)
section
variable {p : Program} {l : Launch} {e : Env} {s : State} {m : MethodId} {args : Array Value} {below : List Frame} {meth : Method} {c : Code} {G : zG} {top : Int} {L : zL} {fu : Nat}
theorem Af_addGift_w (E : zEv p m c cX1_addGift 2 s args RX1 meth none G) {res : zM} {M : zM} {a0 : Int} {a1 : Int} {H : Heap} {locs : List Loc} {ls : Array Slot} (ha0 : InR a0) (ha1 : InR a1) (S : zS G top L M s H locs) (hl : zLV ls 2 [some (zR G.2.2.1 a0), some (zR G.2.2.1 a1)]) (h : Af_addGift fu L M a0 a1 = some res) : W p l e (zrm 1 0 0) s m args below meth c H locs 0 0 (MQ below (zQ G top L res none True) args s 0 0 (zA G)) (F0 m 0 ls []) := by
  unfold Af_addGift at h
  refine u_al_n (x := a0) E (Af_addGift_dc.at 0 rfl) hl rfl ?_
  obtain ⟨g1, h⟩ := ite_e h
  refine u_gI E zf_1_2 S g1 zw_1_225 (Af_addGift_dc.at 1 rfl) ?_
  refine r_if_lt (tgt := 39) E (S.1.inR _ _) (Af_addGift_dc.at 2 rfl) (by decide) (fun q => ?_) (fun q => ?_)
  · have h := ite_t h q
    cases h
    exact r_vret E S True.intro (Af_addGift_dc.at 21 rfl)
  · have h := ite_f h q
    refine u_al_n (x := a0) E (Af_addGift_dc.at 3 rfl) hl rfl ?_
    refine u_gI E zf_1_2 S g1 zw_1_225 (Af_addGift_dc.at 4 rfl) ?_
    refine u_al_n (x := a0) E (Af_addGift_dc.at 5 rfl) hl rfl ?_
    refine u_gR E zf_1_1 S g1 zw_1_224 (Af_addGift_dc.at 6 rfl) ?_
    obtain ⟨g2, h⟩ := ite_e h
    refine r_alen E S g2 (by decide) (Af_addGift_dc.at 7 rfl) ?_
    refine r_icmp_ge (tgt := 39) E (S.1.inR _ _) (S.1.lenR _) (Af_addGift_dc.at 8 rfl) (by decide) (fun q => ?_) (fun q => ?_)
    · have h := ite_t h q
      refine u_al_n (x := a0) E (Af_addGift_dc.at 9 rfl) hl rfl ?_
      refine u_gR E zf_1_1 S g1 zw_1_224 (Af_addGift_dc.at 10 rfl) ?_
      refine u_al_n (x := a0) E (Af_addGift_dc.at 11 rfl) hl rfl ?_
      refine u_gI E zf_1_2 S g1 zw_1_225 (Af_addGift_dc.at 12 rfl) ?_
      refine u_al_n (x := a1) E (Af_addGift_dc.at 13 rfl) hl rfl ?_
      obtain ⟨g3, h⟩ := ite_e h
      obtain ⟨g4, h⟩ := ite_e h
      obtain ⟨M5, eM5, h⟩ := lt1_e h
      refine u_aastG E eM5 S g2 g3 g4 (Af_addGift_dc.at 14 rfl) (fun H locs S6 => ?_)
      refine u_al_n (x := a0) E (Af_addGift_dc.at 15 rfl) hl rfl ?_
      refine r_dup E (Af_addGift_dc.at 16 rfl) (zR_cat _ _) ?_
      refine u_gI E zf_1_2 S6 g1 zw_1_225 (Af_addGift_dc.at 17 rfl) ?_
      refine r_iconst E (Af_addGift_dc.at 18 rfl) ?_
      refine r_iadd E (Af_addGift_dc.at 19 rfl) ?_
      obtain ⟨M7, eM7, h⟩ := lt1_e h
      refine u_pI E eM7 zf_1_2 S6 g1 (inR_w32 _) (Or.inl rfl) rfl zw_1_225 (Af_addGift_dc.at 20 rfl) (fun H locs S8 => ?_)
      cases h
      exact r_vret E S8 True.intro (Af_addGift_dc.at 21 rfl)
    · have h := ite_f h q
      cases h
      exact r_vret E S True.intro (Af_addGift_dc.at 21 rfl)
theorem Af_addGift_c (l : Launch) (G : zG) (fu : Nat) (top : Int) (L : zL) (M : zM) (a0 : Int) (a1 : Int) {res : zM} (ha0 : InR a0) (ha1 : InR a1) (h : Af_addGift fu L M a0 a1 = some res) : Met l yX1_addGift (Cond.code yX1_addGift cX1_addGift 2 none :: zTB) (zrm 1 0 0) (va_Pc [zR G.2.2.1 a0, zR G.2.2.1 a1] (zPre G top L M)) (zQ G top L res none True) 0 0 (zA G) :=
  z_met (by decide +kernel) (by simp [zR_cat, zcat_I, zcat_S]) (Nat.le_of_ble_eq_true rfl) fun p e s m below meth c ls E hn S hl => Af_addGift_w E ha0 ha1 S (hl.sub (And.intro rfl (And.intro rfl True.intro))) h
end
theorem Af_copyFrom_dc : zDL cX1_copyFrom [(0, .aload_n 0, 1, 1), (1, .getfield 12, 3, 4), (4, .aload_n 1, 1, 5), (5, .getfield 12, 3, 8), (8, .invokevirtual 37, 3, 11), (11, .aload_n 0, 1, 12), (12, .iconst 0, 1, 13), (13, .putfield 27, 3, 16), (16, .iconst 0, 1, 17), (17, .istore_n 2, 1, 18), (18, .iload_n 2, 1, 19), (19, .aload_n 1, 1, 20), (20, .getfield 27, 3, 23), (23, .if_icmp .ge 18, 3, 26), (26, .aload_n 0, 1, 27), (27, .aload_n 1, 1, 28), (28, .iload_n 2, 1, 29), (29, .invokevirtual 41, 3, 32), (32, .invokevirtual 45, 3, 35), (35, .iinc 2 1, 3, 38), (38, .goto (-20), 3, 41), (41, .aload_n 0, 1, 42), (42, .aload_n 1, 1, 43), (43, .getfield 31, 3, 46), (46, .putfield 31, 3, 49), (49, .aload_n 0, 1, 50), (50, .aload_n 1, 1, 51), (51, .getfield 34, 3, 54), (54, .putfield 34, 3, 57), (57, .return_, 1, 58)] := zDL.of (by decide +kernel)
section
variable {p : Program} {l : Launch} {e : Env} {s : State} {m : MethodId} {args : Array Value} {below : List Frame} {meth : Method} {c : Code} {G : zG} {top : Int} {L : zL} {fu : Nat}
theorem Af_copyFrom_s18_w (E : zEv p m c cX1_copyFrom 3 s args RX1 meth none G) {res : zM} {k18 : zM → Int → Int → Int → Option zM} (hk18 : ∀ (M : zM) (x0 : Int) (x1 : Int) (x2 : Int), InR x0 → InR x1 → InR x2 → ∀ (H : Heap) (locs : List Loc) (ls : Array Slot), zS G top L M s H locs → zLV ls 3 [some (zR G.2.2.1 x0), some (zR G.2.2.1 x1), some (.int (zO x2))] → k18 M x0 x1 x2 = some res → W p l e (zrm 4 0 0) s m args below meth c H locs 0 0 (MQ below (zQ G top L res none True) args s 0 0 (zA G)) (F0 m 18 ls [])) {M : zM} {x0 : Int} {x1 : Int} {x2 : Int} {H : Heap} {locs : List Loc} {ls : Array Slot} (hx0 : InR x0) (hx1 : InR x1) (hx2 : InR x2) (S : zS G top L M s H locs) (hl : zLV ls 3 [some (zR G.2.2.1 x0), some (zR G.2.2.1 x1), some (.int (zO x2))]) (h : Af_copyFrom_s18 fu k18 L M x0 x1 x2 = some res) : W p l e (zrm 4 0 0) s m args below meth c H locs 0 0 (MQ below (zQ G top L res none True) args s 0 0 (zA G)) (F0 m 18 ls []) := by
  unfold Af_copyFrom_s18 at h
  refine u_il_n (x := x2) E (Af_copyFrom_dc.at 10 rfl) hl rfl ?_
  refine u_al_n (x := x1) E (Af_copyFrom_dc.at 11 rfl) hl rfl ?_
  obtain ⟨g8, h⟩ := ite_e h
  refine u_gI E zf_1_2 S g8 zw_1_225 (Af_copyFrom_dc.at 12 rfl) ?_
  refine r_icmp_ge (tgt := 41) E hx2 (S.1.inR _ _) (Af_copyFrom_dc.at 13 rfl) (by decide) (fun q => ?_) (fun q => ?_)
  · have h := ite_t h q
    refine u_al_n (x := x0) E (Af_copyFrom_dc.at 14 rfl) hl rfl ?_
    refine u_al_n (x := x1) E (Af_copyFrom_dc.at 15 rfl) hl rfl ?_
    refine u_il_n (x := x2) E (Af_copyFrom_dc.at 16 rfl) hl rfl ?_
    obtain ⟨r9, er9, h⟩ := bd1_e h
    refine u_cVR (As := [.int (zO x2)]) (rest := [zR G.2.2.1 x0]) E S zcw_yX1_giftAt zw_4_39 zw_4_40 zw_4_38 zck_1.1 rfl g8 (Af_giftAt_c l G fu top L M x1 x2 hx1 hx2 er9) (zrm_ok (by decide) (by decide)) ⟨Nat.le_refl 0, Nat.le_refl 0⟩ rfl (by simp [zR_cat, zcat_I, zcat_J, zcat_S]) hl.size rfl (Af_copyFrom_dc.at 17 rfl) (fun H locs hr9 S10 => ?_)
    obtain ⟨g11, h⟩ := ite_e h
    obtain ⟨M12, eM12, h⟩ := bd1_e h
    refine u_cVU (As := [zR G.2.2.1 r9]) (rest := []) E S10 zcw_yX1_addGift zw_4_43 zw_4_44 zw_4_42 zck_1.1 rfl g11 (Af_addGift_c l G fu top L M x0 r9 hx0 hr9 eM12) (zrm_ok (by decide) (by decide)) ⟨Nat.le_refl 0, Nat.le_refl 0⟩ rfl (Nat.zero_le 8) hl.size rfl (Af_copyFrom_dc.at 18 rfl) (fun H locs _ S13 => ?_)
    obtain ⟨v14, ev14, h⟩ := lt1_e h
    have hv14 := inR_eq ev14 (inR_w32 _)
    refine u_iinc (y := v14) (vs' := [some (zR G.2.2.1 x0), some (zR G.2.2.1 x1), some (.int (zO v14))]) E ev14 (Af_copyFrom_dc.at 19 rfl) hl rfl (by decide) rfl (fun ls hl => ?_)
    refine r_goto (tgt := 18) E (Af_copyFrom_dc.at 20 rfl) (by decide) ?_
    exact hk18 _ x0 x1 v14 hx0 hx1 hv14 _ _ _ S13 (hl.sub (And.intro rfl (And.intro rfl (And.intro rfl True.intro)))) h
  · have h := ite_f h q
    refine u_al_n (x := x0) E (Af_copyFrom_dc.at 21 rfl) hl rfl ?_
    refine u_al_n (x := x1) E (Af_copyFrom_dc.at 22 rfl) hl rfl ?_
    refine u_gI E zf_1_3 S g8 zw_1_227 (Af_copyFrom_dc.at 23 rfl) ?_
    obtain ⟨g15, h⟩ := ite_e h
    obtain ⟨M16, eM16, h⟩ := lt1_e h
    refine u_pI E eM16 zf_1_3 S g15 (S.1.inR _ _) (Or.inl rfl) rfl zw_1_227 (Af_copyFrom_dc.at 24 rfl) (fun H locs S17 => ?_)
    refine u_al_n (x := x0) E (Af_copyFrom_dc.at 25 rfl) hl rfl ?_
    refine u_al_n (x := x1) E (Af_copyFrom_dc.at 26 rfl) hl rfl ?_
    refine u_gI E zf_1_4 S17 g8 zw_1_230 (Af_copyFrom_dc.at 27 rfl) ?_
    obtain ⟨M18, eM18, h⟩ := lt1_e h
    refine u_pI E eM18 zf_1_4 S17 g15 (S17.1.inR _ _) (Or.inl rfl) rfl zw_1_230 (Af_copyFrom_dc.at 28 rfl) (fun H locs S19 => ?_)
    cases h
    exact r_vret E S19 True.intro (Af_copyFrom_dc.at 29 rfl)
theorem Af_copyFrom_l18_w (E : zEv p m c cX1_copyFrom 3 s args RX1 meth none G) {res : zM} : ∀ (n : Nat) (M : zM) (x0 : Int) (x1 : Int) (x2 : Int), InR x0 → InR x1 → InR x2 → ∀ (H : Heap) (locs : List Loc) (ls : Array Slot), zS G top L M s H locs → zLV ls 3 [some (zR G.2.2.1 x0), some (zR G.2.2.1 x1), some (.int (zO x2))] → Af_copyFrom_l18 fu L n M x0 x1 x2 = some res → W p l e (zrm 4 0 0) s m args below meth c H locs 0 0 (MQ below (zQ G top L res none True) args s 0 0 (zA G)) (F0 m 18 ls [])
  | 0, _, _, _, _ => fun _ _ _ _ _ _ _ _ h => (by cases h)
  | n + 1, M, x0, x1, x2 => fun hx0 hx1 hx2 H locs ls S hl h => Af_copyFrom_s18_w E (fun M x0 x1 x2 hx0 hx1 hx2 H locs ls S hl h => Af_copyFrom_l18_w E n M x0 x1 x2 hx0 hx1 hx2 H locs ls S hl h) hx0 hx1 hx2 S hl h
theorem Af_copyFrom_w (E : zEv p m c cX1_copyFrom 3 s args RX1 meth none G) {res : zM} {M : zM} {a0 : Int} {a1 : Int} {H : Heap} {locs : List Loc} {ls : Array Slot} (ha0 : InR a0) (ha1 : InR a1) (S : zS G top L M s H locs) (hl : zLV ls 3 [some (zR G.2.2.1 a0), some (zR G.2.2.1 a1), none]) (h : Af_copyFrom fu L M a0 a1 = some res) : W p l e (zrm 4 0 0) s m args below meth c H locs 0 0 (MQ below (zQ G top L res none True) args s 0 0 (zA G)) (F0 m 0 ls []) := by
  unfold Af_copyFrom at h
  refine u_al_n (x := a0) E (Af_copyFrom_dc.at 0 rfl) hl rfl ?_
  obtain ⟨g1, h⟩ := ite_e h
  refine u_gR E zf_1_0 S g1 zw_1_220 (Af_copyFrom_dc.at 1 rfl) ?_
  refine u_al_n (x := a1) E (Af_copyFrom_dc.at 2 rfl) hl rfl ?_
  obtain ⟨g2, h⟩ := ite_e h
  refine u_gR E zf_1_0 S g2 zw_1_220 (Af_copyFrom_dc.at 3 rfl) ?_
  obtain ⟨g3, h⟩ := ite_e h
  obtain ⟨M4, eM4, h⟩ := bd1_e h
  refine u_cVU (As := [zR G.2.2.1 (M a1 0)]) (rest := []) E S zcw_yX10_copyFrom zw_4_14 zw_4_15 zw_4_13 zck_10.1 rfl g3 (Wd_copyFrom_c l G fu top L M (M a0 0) (M a1 0) (S.1.inR _ _) (S.1.inR _ _) eM4) (zrm_ok (by decide) (by decide)) ⟨Nat.le_refl 0, Nat.le_refl 0⟩ rfl (Nat.zero_le 8) hl.size rfl (Af_copyFrom_dc.at 4 rfl) (fun H locs _ S5 => ?_)
  refine u_al_n (x := a0) E (Af_copyFrom_dc.at 5 rfl) hl rfl ?_
  refine r_iconst E (Af_copyFrom_dc.at 6 rfl) ?_
  obtain ⟨M6, eM6, h⟩ := lt1_e h
  refine u_pI E eM6 zf_1_2 S5 g1 (show InR 0 by decide) (Or.inl rfl) rfl zw_1_225 (Af_copyFrom_dc.at 7 rfl) (fun H locs S7 => ?_)
  refine r_iconst E (Af_copyFrom_dc.at 8 rfl) ?_
  refine u_ist_n (y := 0) (vs' := [some (zR G.2.2.1 a0), some (zR G.2.2.1 a1), some (.int (zO 0))]) E rfl (Af_copyFrom_dc.at 9 rfl) hl (by decide) rfl (fun ls hl => ?_)
  exact Af_copyFrom_l18_w E fu _ a0 a1 0 ha0 ha1 (show InR 0 by decide) _ _ _ S7 (hl.sub (And.intro rfl (And.intro rfl (And.intro rfl True.intro)))) h
theorem Af_copyFrom_c (l : Launch) (G : zG) (fu : Nat) (top : Int) (L : zL) (M : zM) (a0 : Int) (a1 : Int) {res : zM} (ha0 : InR a0) (ha1 : InR a1) (h : Af_copyFrom fu L M a0 a1 = some res) : Met l yX1_copyFrom (Cond.code yX1_copyFrom cX1_copyFrom 3 none :: zTB) (zrm 4 0 0) (va_Pc [zR G.2.2.1 a0, zR G.2.2.1 a1] (zPre G top L M)) (zQ G top L res none True) 0 0 (zA G) :=
  z_met (by decide +kernel) (by simp [zR_cat, zcat_I, zcat_S]) (Nat.le_of_ble_eq_true rfl) fun p e s m below meth c ls E hn S hl => Af_copyFrom_w E ha0 ha1 S (hl.sub (And.intro rfl (And.intro rfl True.intro))) h
end
theorem Ac_keep_dc : zDL cX0_keep [(0, .aload_n 0, 1, 1), (1, .aload_n 0, 1, 2), (2, .getfield 22, 3, 5), (5, .invokevirtual 25, 3, 8), (8, .astore_n 2, 1, 9), (9, .aload_n 2, 1, 10), (10, .ifnonnull 4, 3, 13), (13, .return_, 1, 14), (14, .aload_n 2, 1, 15), (15, .aload_n 1, 1, 16), (16, .invokevirtual 29, 3, 19), (19, .aload_n 0, 1, 20), (20, .aload_n 0, 1, 21), (21, .getfield 22, 3, 24), (24, .iconst 1, 1, 25), (25, .iadd, 1, 26), (26, .bipush 16, 2, 28), (28, .if_icmp .ge 12, 3, 31), (31, .aload_n 0, 1, 32), (32, .getfield 22, 3, 35), (35, .iconst 1, 1, 36), (36, .iadd, 1, 37), (37, .goto 4, 3, 40), (40, .iconst 0, 1, 41), (41, .putfield 22, 3, 44), (44, .aload_n 0, 1, 45), (45, .aload_n 0, 1, 46), (46, .getfield 18, 3, 49), (49, .iconst 1, 1, 50), (50, .iadd, 1, 51), (51, .bipush 16, 2, 53), (53, .invokestatic 33, 3, 56), (56, .putfield 18, 3, 59), (59, .return_, 1, 60)] := zDL.of (by decide +kernel)
section
variable {p : Program} {l : Launch} {e : Env} {s : State} {m : MethodId} {args : Array Value} {below : List Frame} {meth : Method} {c : Code} {G : zG} {top : Int} {L : zL} {fu : Nat}
theorem Ac_keep_b41_w (E : zEv p m c cX0_keep 3 s args RX0 meth none G) {res : zM} {M : zM} {x0 : Int} {y0 : Int} {y1 : Int} {H : Heap} {locs : List Loc} {ls : Array Slot} (hx0 : InR x0) (hy0 : InR y0) (hy1 : InR y1) (S : zS G top L M s H locs) (hl : zLV ls 3 [some (zR G.2.2.1 x0), none, none]) (h : Ac_keep_b41 fu L M x0 y0 y1 = some res) : W p l e (zrm 5 0 0) s m args below meth c H locs 0 0 (MQ below (zQ G top L res none True) args s 0 0 (zA G)) (F0 m 41 ls [.int (zO y1), zR G.2.2.1 y0]) := by
  unfold Ac_keep_b41 at h
  obtain ⟨g7, h⟩ := ite_e h
  obtain ⟨M8, eM8, h⟩ := lt1_e h
  refine u_pI E eM8 zf_0_1 S g7 hy1 (Or.inl rfl) rfl zw_2_14 (Ac_keep_dc.at 24 rfl) (fun H locs S9 => ?_)
  refine u_al_n (x := x0) E (Ac_keep_dc.at 25 rfl) hl rfl ?_
  refine u_al_n (x := x0) E (Ac_keep_dc.at 26 rfl) hl rfl ?_
  obtain ⟨g10, h⟩ := ite_e h
  refine u_gI E zf_0_2 S9 g10 zw_2_15 (Ac_keep_dc.at 27 rfl) ?_
  refine r_iconst E (Ac_keep_dc.at 28 rfl) ?_
  refine r_iadd E (Ac_keep_dc.at 29 rfl) ?_
  refine r_bipush E (Ac_keep_dc.at 30 rfl) rfl ?_
  refine r_min (rest := [zR G.2.2.1 x0]) E (inR_w32 _) (show InR 16 by decide) hl.size zw_4_46 zw_4_47 zw_1_17 zw_4_48 (by decide) (by simp [zR_cat, zcat_I, zcat_J, zcat_S, zrm]) ⟨Nat.zero_le _, Nat.zero_le _⟩ (Ac_keep_dc.at 31 rfl) ?_
  obtain ⟨M11, eM11, h⟩ := lt1_e h
  refine u_pI E eM11 zf_0_2 S9 g10 (inR_min (inR_w32 _) (show InR 16 by decide)) (Or.inl rfl) rfl zw_2_15 (Ac_keep_dc.at 32 rfl) (fun H locs S12 => ?_)
  cases h
  exact r_vret E S12 True.intro (Ac_keep_dc.at 33 rfl)
theorem Ac_keep_w (E : zEv p m c cX0_keep 3 s args RX0 meth none G) {res : zM} {M : zM} {a0 : Int} {a1 : Int} {H : Heap} {locs : List Loc} {ls : Array Slot} (ha0 : InR a0) (ha1 : InR a1) (S : zS G top L M s H locs) (hl : zLV ls 3 [some (zR G.2.2.1 a0), some (zR G.2.2.1 a1), none]) (h : Ac_keep fu L M a0 a1 = some res) : W p l e (zrm 5 0 0) s m args below meth c H locs 0 0 (MQ below (zQ G top L res none True) args s 0 0 (zA G)) (F0 m 0 ls []) := by
  unfold Ac_keep at h
  refine u_al_n (x := a0) E (Ac_keep_dc.at 0 rfl) hl rfl ?_
  refine u_al_n (x := a0) E (Ac_keep_dc.at 1 rfl) hl rfl ?_
  obtain ⟨g1, h⟩ := ite_e h
  refine u_gI E zf_0_1 S g1 zw_2_14 (Ac_keep_dc.at 2 rfl) ?_
  obtain ⟨r2, er2, h⟩ := bd1_e h
  refine u_cVR (As := [.int (zO (M a0 1))]) (rest := []) E S zcw_yX0_placeAt zw_4_7 zq_2_12 zw_4_5 zck_0.1 rfl g1 (Ac_placeAt_c l G fu top L M a0 (M a0 1) ha0 (S.1.inR _ _) er2) (zrm_ok (by decide) (by decide)) ⟨Nat.le_refl 0, Nat.le_refl 0⟩ rfl (Nat.zero_le 8) hl.size rfl (Ac_keep_dc.at 3 rfl) (fun H locs hr2 S3 => ?_)
  refine u_ast_n (y := r2) (vs' := [some (zR G.2.2.1 a0), some (zR G.2.2.1 a1), some (zR G.2.2.1 r2)]) E rfl (Ac_keep_dc.at 4 rfl) hl (by decide) rfl (fun ls hl => ?_)
  refine u_al_n (x := r2) E (Ac_keep_dc.at 5 rfl) hl rfl ?_
  refine r_ifnonnull (tgt := 14) E (Ac_keep_dc.at 6 rfl) (by decide) (fun q => ?_) (fun q => ?_)
  · have h := ite_t h q
    cases h
    exact r_vret E S3 True.intro (Ac_keep_dc.at 7 rfl)
  · have h := ite_f h q
    refine u_al_n (x := r2) E (Ac_keep_dc.at 8 rfl) hl rfl ?_
    refine u_al_n (x := a1) E (Ac_keep_dc.at 9 rfl) hl rfl ?_
    obtain ⟨g4, h⟩ := ite_e h
    obtain ⟨M5, eM5, h⟩ := bd1_e h
    refine u_cVU (As := [zR G.2.2.1 a1]) (rest := []) E S3 zcw_yX1_copyFrom zw_4_10 zw_4_11 zw_4_9 zck_1.1 rfl g4 (Af_copyFrom_c l G fu top L M r2 a1 hr2 ha1 eM5) (zrm_ok (by decide) (by decide)) ⟨Nat.le_refl 0, Nat.le_refl 0⟩ rfl (Nat.zero_le 8) hl.size rfl (Ac_keep_dc.at 10 rfl) (fun H locs _ S6 => ?_)
    refine u_al_n (x := a0) E (Ac_keep_dc.at 11 rfl) hl rfl ?_
    refine u_al_n (x := a0) E (Ac_keep_dc.at 12 rfl) hl rfl ?_
    refine u_gI E zf_0_1 S6 g1 zw_2_14 (Ac_keep_dc.at 13 rfl) ?_
    refine r_iconst E (Ac_keep_dc.at 14 rfl) ?_
    refine r_iadd E (Ac_keep_dc.at 15 rfl) ?_
    refine r_bipush E (Ac_keep_dc.at 16 rfl) rfl ?_
    refine r_icmp_ge (tgt := 40) E (inR_w32 _) (show InR 16 by decide) (Ac_keep_dc.at 17 rfl) (by decide) (fun q => ?_) (fun q => ?_)
    · have h := ite_t h q
      refine u_al_n (x := a0) E (Ac_keep_dc.at 18 rfl) hl rfl ?_
      refine u_gI E zf_0_1 S6 g1 zw_2_14 (Ac_keep_dc.at 19 rfl) ?_
      refine r_iconst E (Ac_keep_dc.at 20 rfl) ?_
      refine r_iadd E (Ac_keep_dc.at 21 rfl) ?_
      refine r_goto (tgt := 41) E (Ac_keep_dc.at 22 rfl) (by decide) ?_
      exact Ac_keep_b41_w (x0 := a0) (y0 := a0) (y1 := (w32 ((M5 a0 1) + 1))) E ha0 ha0 (inR_w32 _) S6 (hl.sub (And.intro rfl True.intro)) h
    · have h := ite_f h q
      refine r_iconst E (Ac_keep_dc.at 23 rfl) ?_
      exact Ac_keep_b41_w (x0 := a0) (y0 := a0) (y1 := 0) E ha0 ha0 (show InR 0 by decide) S6 (hl.sub (And.intro rfl True.intro)) h
theorem Ac_keep_c (l : Launch) (G : zG) (fu : Nat) (top : Int) (L : zL) (M : zM) (a0 : Int) (a1 : Int) {res : zM} (ha0 : InR a0) (ha1 : InR a1) (h : Ac_keep fu L M a0 a1 = some res) : Met l yX0_keep (Cond.code yX0_keep cX0_keep 3 none :: zTB) (zrm 5 0 0) (va_Pc [zR G.2.2.1 a0, zR G.2.2.1 a1] (zPre G top L M)) (zQ G top L res none True) 0 0 (zA G) :=
  z_met (by decide +kernel) (by simp [zR_cat, zcat_I, zcat_S]) (Nat.le_of_ble_eq_true rfl) fun p e s m below meth c ls E hn S hl => Ac_keep_w E ha0 ha1 S (hl.sub (And.intro rfl (And.intro rfl True.intro))) h
end
theorem Gf_init_dc : zDL cX3_init [(0, .aload_n 0, 1, 1), (1, .invokespecial 1, 3, 4), (4, .aload_n 0, 1, 5), (5, .aload_n 1, 1, 6), (6, .getfield 7, 3, 9), (9, .putfield 13, 3, 12), (12, .aload_n 0, 1, 13), (13, .aload_n 1, 1, 14), (14, .getfield 16, 3, 17), (17, .putfield 19, 3, 20), (20, .aload_n 0, 1, 21), (21, .aload_n 1, 1, 22), (22, .getfield 20, 3, 25), (25, .putfield 23, 3, 28), (28, .aload_n 0, 1, 29), (29, .iconst 0, 1, 30), (30, .aload_n 1, 1, 31), (31, .getfield 24, 3, 34), (34, .invokestatic 27, 3, 37), (37, .putfield 33, 3, 40), (40, .aload_n 0, 1, 41), (41, .iconst 0, 1, 42), (42, .aload_n 1, 1, 43), (43, .getfield 34, 3, 46), (46, .invokestatic 27, 3, 49), (49, .putfield 37, 3, 52), (52, .aload_n 0, 1, 53), (53, .aload_n 1, 1, 54), (54, .getfield 38, 3, 57), (57, .aload_n 0, 1, 58), (58, .getfield 33, 3, 61), (61, .invokestatic 42, 3, 64), (64, .putfield 48, 3, 67), (67, .aload_n 0, 1, 68), (68, .aload_n 1, 1, 69), (69, .getfield 49, 3, 72), (72, .aload_n 0, 1, 73), (73, .getfield 33, 3, 76), (76, .invokestatic 42, 3, 79), (79, .putfield 52, 3, 82), (82, .aload_n 0, 1, 83), (83, .aload_n 1, 1, 84), (84, .getfield 53, 3, 87), (87, .aload_n 0, 1, 88), (88, .getfield 33, 3, 91), (91, .invokestatic 42, 3, 94), (94, .putfield 56, 3, 97), (97, .aload_n 0, 1, 98), (98, .aload_n 1, 1, 99), (99, .getfield 57, 3, 102), (102, .aload_n 0, 1, 103), (103, .getfield 33, 3, 106), (106, .invokestatic 42, 3, 109), (109, .putfield 60, 3, 112), (112, .aload_n 0, 1, 113), (113, .aload_n 1, 1, 114), (114, .getfield 61, 3, 117), (117, .aload_n 0, 1, 118), (118, .getfield 37, 3, 121), (121, .invokestatic 42, 3, 124), (124, .putfield 64, 3, 127), (127, .aload_n 0, 1, 128), (128, .aload_n 1, 1, 129), (129, .getfield 65, 3, 132), (132, .iconst 0, 1, 133), (133, .aload_n 1, 1, 134), (134, .getfield 68, 3, 137), (137, .invokestatic 27, 3, 140), (140, .invokestatic 42, 3, 143), (143, .putfield 71, 3, 146), (146, .return_, 1, 147)] := zDL.of (by decide +kernel)
section
variable {p : Program} {l : Launch} {e : Env} {s : State} {m : MethodId} {args : Array Value} {below : List Frame} {meth : Method} {c : Code} {G : zG} {top : Int} {L : zL} {fu : Nat}
theorem Gf_init_w (E : zEv p m c cX3_init 2 s args RX3 meth none G) (hn : meth.name = "<init>") {res : (Int × zL × zM)} {top : Int} {L : zL} {M : zM} {a0 : Int} {a1 : Int} {H : Heap} {locs : List Loc} {ls : Array Slot} (ha0 : InR a0) (ha1 : InR a1) (S : zS G top L M s H locs) (hl : zLV ls 2 [some (zR G.2.2.1 a0), some (zR G.2.2.1 a1)]) (h : Gf_init fu top L M a0 a1 = some res) : W p l e (zrm 4 6 3600) s m args below meth c H locs 0 0 (MQ below (zQ G res.1 res.2.1 res.2.2 none True) args s 6 3600 (zA G)) (F0 m 0 ls []) := by
  unfold Gf_init at h
  refine u_al_n (x := a0) E (Gf_init_dc.at 0 rfl) hl rfl ?_
  obtain ⟨g1, h⟩ := ite_e h
  refine r_obj (rest := []) E zw_4_54 zw_1_32 zw_1_33 (S.1.tag g1 (by decide)).1 hl.size (by decide) (by simp [zR_cat, zcat_I, zcat_J, zcat_S, zrm]) (Gf_init_dc.at 1 rfl) ?_
  refine u_al_n (x := a0) E (Gf_init_dc.at 2 rfl) hl rfl ?_
  refine u_al_n (x := a1) E (Gf_init_dc.at 3 rfl) hl rfl ?_
  obtain ⟨g2, h⟩ := ite_e h
  refine u_gI E zf_4_7 S g2 zw_1_116 (Gf_init_dc.at 4 rfl) ?_
  obtain ⟨M3, eM3, h⟩ := lt1_e h
  refine u_pI E eM3 zf_3_0 S g1 (S.1.inR _ _) (Or.inr ⟨rfl, hn, rfl⟩) rfl zw_4_72 (Gf_init_dc.at 5 rfl) (fun H locs S4 => ?_)
  refine u_al_n (x := a0) E (Gf_init_dc.at 6 rfl) hl rfl ?_
  refine u_al_n (x := a1) E (Gf_init_dc.at 7 rfl) hl rfl ?_
  refine u_gI E zf_4_8 S4 g2 zw_1_118 (Gf_init_dc.at 8 rfl) ?_
  obtain ⟨M5, eM5, h⟩ := lt1_e h
  refine u_pI E eM5 zf_3_1 S4 g1 (S4.1.inR _ _) (Or.inr ⟨rfl, hn, rfl⟩) rfl zw_4_77 (Gf_init_dc.at 9 rfl) (fun H locs S6 => ?_)
  refine u_al_n (x := a0) E (Gf_init_dc.at 10 rfl) hl rfl ?_
  refine u_al_n (x := a1) E (Gf_init_dc.at 11 rfl) hl rfl ?_
  refine u_gI E zf_4_9 S6 g2 zw_1_120 (Gf_init_dc.at 12 rfl) ?_
  obtain ⟨M7, eM7, h⟩ := lt1_e h
  refine u_pI E eM7 zf_3_2 S6 g1 (S6.1.inR _ _) (Or.inr ⟨rfl, hn, rfl⟩) rfl zw_4_81 (Gf_init_dc.at 13 rfl) (fun H locs S8 => ?_)
  refine u_al_n (x := a0) E (Gf_init_dc.at 14 rfl) hl rfl ?_
  refine r_iconst E (Gf_init_dc.at 15 rfl) ?_
  refine u_al_n (x := a1) E (Gf_init_dc.at 16 rfl) hl rfl ?_
  refine u_gI E zf_4_10 S8 g2 zw_1_122 (Gf_init_dc.at 17 rfl) ?_
  refine r_max (rest := [zR G.2.2.1 a0]) E (show InR 0 by decide) (S8.1.inR _ _) hl.size zw_4_55 zw_4_56 zw_1_17 zw_4_57 (by decide) (by simp [zR_cat, zcat_I, zcat_J, zcat_S, zrm]) ⟨Nat.le_of_ble_eq_true rfl, Nat.le_of_ble_eq_true rfl⟩ (Gf_init_dc.at 18 rfl) ?_
  obtain ⟨M9, eM9, h⟩ := lt1_e h
  refine u_pI E eM9 zf_3_3 S8 g1 (inR_max (show InR 0 by decide) (S8.1.inR _ _)) (Or.inr ⟨rfl, hn, rfl⟩) rfl zw_4_84 (Gf_init_dc.at 19 rfl) (fun H locs S10 => ?_)
  refine u_al_n (x := a0) E (Gf_init_dc.at 20 rfl) hl rfl ?_
  refine r_iconst E (Gf_init_dc.at 21 rfl) ?_
  refine u_al_n (x := a1) E (Gf_init_dc.at 22 rfl) hl rfl ?_
  refine u_gI E zf_4_11 S10 g2 zw_1_124 (Gf_init_dc.at 23 rfl) ?_
  refine r_max (rest := [zR G.2.2.1 a0]) E (show InR 0 by decide) (S10.1.inR _ _) hl.size zw_4_55 zw_4_56 zw_1_17 zw_4_57 (by decide) (by simp [zR_cat, zcat_I, zcat_J, zcat_S, zrm]) ⟨Nat.le_of_ble_eq_true rfl, Nat.le_of_ble_eq_true rfl⟩ (Gf_init_dc.at 24 rfl) ?_
  obtain ⟨M11, eM11, h⟩ := lt1_e h
  refine u_pI E eM11 zf_3_4 S10 g1 (inR_max (show InR 0 by decide) (S10.1.inR _ _)) (Or.inr ⟨rfl, hn, rfl⟩) rfl zw_4_87 (Gf_init_dc.at 25 rfl) (fun H locs S12 => ?_)
  refine u_al_n (x := a0) E (Gf_init_dc.at 26 rfl) hl rfl ?_
  refine u_al_n (x := a1) E (Gf_init_dc.at 27 rfl) hl rfl ?_
  refine u_gR E zf_4_1 S12 g2 zw_1_105 (Gf_init_dc.at 28 rfl) ?_
  refine u_al_n (x := a0) E (Gf_init_dc.at 29 rfl) hl rfl ?_
  refine u_gI E zf_3_3 S12 g1 zw_4_84 (Gf_init_dc.at 30 rfl) ?_
  obtain ⟨T13, L14, M15, r16, eM15, h⟩ := bd4_e h
  refine u_cSA (As := [zR G.2.2.1 (M11 a1 1), .int (zO (M11 a0 3))]) (rest := [zR G.2.2.1 a0]) E S12 zcw_yJ7_copyOf_59c91 zw_4_59 zw_4_58 (Ar_copyOf_c l G fu top L M11 (M11 a1 1) (M11 a0 3) (S12.1.inR _ _) (S12.1.inR _ _) eM15) (zrm_ok (by decide) (by decide)) ⟨Nat.le_of_ble_eq_true rfl, Nat.le_of_ble_eq_true rfl⟩ rfl (by simp [zR_cat, zcat_I, zcat_J, zcat_S]) hl.size rfl (Gf_init_dc.at 31 rfl) (fun H locs hr16 S17 => ?_)
  obtain ⟨g18, h⟩ := ite_e h
  obtain ⟨M19, eM19, h⟩ := lt1_e h
  refine u_pR E eM19 zf_3_5 S17 g18 hr16 (Or.inr ⟨rfl, hn, rfl⟩) zw_4_89 (Gf_init_dc.at 32 rfl) (fun H locs S20 => ?_)
  refine u_al_n (x := a0) E (Gf_init_dc.at 33 rfl) hl rfl ?_
  refine u_al_n (x := a1) E (Gf_init_dc.at 34 rfl) hl rfl ?_
  obtain ⟨g21, h⟩ := ite_e h
  refine u_gR E zf_4_2 S20 g21 zw_1_107 (Gf_init_dc.at 35 rfl) ?_
  refine u_al_n (x := a0) E (Gf_init_dc.at 36 rfl) hl rfl ?_
  refine u_gI E zf_3_3 S20 g18 zw_4_84 (Gf_init_dc.at 37 rfl) ?_
  obtain ⟨T22, L23, M24, r25, eM24, h⟩ := bd4_e h
  refine u_cSA (As := [zR G.2.2.1 (M19 a1 2), .int (zO (M19 a0 3))]) (rest := [zR G.2.2.1 a0]) E S20 zcw_yJ7_copyOf_59c91 zw_4_59 zw_4_58 (Ar_copyOf_c l G fu T13 L14 M19 (M19 a1 2) (M19 a0 3) (S20.1.inR _ _) (S20.1.inR _ _) eM24) (zrm_ok (by decide) (by decide)) ⟨Nat.le_of_ble_eq_true rfl, Nat.le_of_ble_eq_true rfl⟩ rfl (by simp [zR_cat, zcat_I, zcat_J, zcat_S]) hl.size rfl (Gf_init_dc.at 38 rfl) (fun H locs hr25 S26 => ?_)
  obtain ⟨g27, h⟩ := ite_e h
  obtain ⟨M28, eM28, h⟩ := lt1_e h
  refine u_pR E eM28 zf_3_6 S26 g27 hr25 (Or.inr ⟨rfl, hn, rfl⟩) zw_4_91 (Gf_init_dc.at 39 rfl) (fun H locs S29 => ?_)
  refine u_al_n (x := a0) E (Gf_init_dc.at 40 rfl) hl rfl ?_
  refine u_al_n (x := a1) E (Gf_init_dc.at 41 rfl) hl rfl ?_
  obtain ⟨g30, h⟩ := ite_e h
  refine u_gR E zf_4_3 S29 g30 zw_1_109 (Gf_init_dc.at 42 rfl) ?_
  refine u_al_n (x := a0) E (Gf_init_dc.at 43 rfl) hl rfl ?_
  refine u_gI E zf_3_3 S29 g27 zw_4_84 (Gf_init_dc.at 44 rfl) ?_
  obtain ⟨T31, L32, M33, r34, eM33, h⟩ := bd4_e h
  refine u_cSA (As := [zR G.2.2.1 (M28 a1 3), .int (zO (M28 a0 3))]) (rest := [zR G.2.2.1 a0]) E S29 zcw_yJ7_copyOf_59c91 zw_4_59 zw_4_58 (Ar_copyOf_c l G fu T22 L23 M28 (M28 a1 3) (M28 a0 3) (S29.1.inR _ _) (S29.1.inR _ _) eM33) (zrm_ok (by decide) (by decide)) ⟨Nat.le_of_ble_eq_true rfl, Nat.le_of_ble_eq_true rfl⟩ rfl (by simp [zR_cat, zcat_I, zcat_J, zcat_S]) hl.size rfl (Gf_init_dc.at 45 rfl) (fun H locs hr34 S35 => ?_)
  obtain ⟨g36, h⟩ := ite_e h
  obtain ⟨M37, eM37, h⟩ := lt1_e h
  refine u_pR E eM37 zf_3_7 S35 g36 hr34 (Or.inr ⟨rfl, hn, rfl⟩) zw_4_93 (Gf_init_dc.at 46 rfl) (fun H locs S38 => ?_)
  refine u_al_n (x := a0) E (Gf_init_dc.at 47 rfl) hl rfl ?_
  refine u_al_n (x := a1) E (Gf_init_dc.at 48 rfl) hl rfl ?_
  obtain ⟨g39, h⟩ := ite_e h
  refine u_gR E zf_4_4 S38 g39 zw_1_111 (Gf_init_dc.at 49 rfl) ?_
  refine u_al_n (x := a0) E (Gf_init_dc.at 50 rfl) hl rfl ?_
  refine u_gI E zf_3_3 S38 g36 zw_4_84 (Gf_init_dc.at 51 rfl) ?_
  obtain ⟨T40, L41, M42, r43, eM42, h⟩ := bd4_e h
  refine u_cSA (As := [zR G.2.2.1 (M37 a1 4), .int (zO (M37 a0 3))]) (rest := [zR G.2.2.1 a0]) E S38 zcw_yJ7_copyOf_59c91 zw_4_59 zw_4_58 (Ar_copyOf_c l G fu T31 L32 M37 (M37 a1 4) (M37 a0 3) (S38.1.inR _ _) (S38.1.inR _ _) eM42) (zrm_ok (by decide) (by decide)) ⟨Nat.le_of_ble_eq_true rfl, Nat.le_of_ble_eq_true rfl⟩ rfl (by simp [zR_cat, zcat_I, zcat_J, zcat_S]) hl.size rfl (Gf_init_dc.at 52 rfl) (fun H locs hr43 S44 => ?_)
  obtain ⟨g45, h⟩ := ite_e h
  obtain ⟨M46, eM46, h⟩ := lt1_e h
  refine u_pR E eM46 zf_3_8 S44 g45 hr43 (Or.inr ⟨rfl, hn, rfl⟩) zw_4_95 (Gf_init_dc.at 53 rfl) (fun H locs S47 => ?_)
  refine u_al_n (x := a0) E (Gf_init_dc.at 54 rfl) hl rfl ?_
  refine u_al_n (x := a1) E (Gf_init_dc.at 55 rfl) hl rfl ?_
  obtain ⟨g48, h⟩ := ite_e h
  refine u_gR E zf_4_5 S47 g48 zw_1_113 (Gf_init_dc.at 56 rfl) ?_
  refine u_al_n (x := a0) E (Gf_init_dc.at 57 rfl) hl rfl ?_
  refine u_gI E zf_3_4 S47 g45 zw_4_87 (Gf_init_dc.at 58 rfl) ?_
  obtain ⟨T49, L50, M51, r52, eM51, h⟩ := bd4_e h
  refine u_cSA (As := [zR G.2.2.1 (M46 a1 5), .int (zO (M46 a0 4))]) (rest := [zR G.2.2.1 a0]) E S47 zcw_yJ7_copyOf_59c91 zw_4_59 zw_4_58 (Ar_copyOf_c l G fu T40 L41 M46 (M46 a1 5) (M46 a0 4) (S47.1.inR _ _) (S47.1.inR _ _) eM51) (zrm_ok (by decide) (by decide)) ⟨Nat.le_of_ble_eq_true rfl, Nat.le_of_ble_eq_true rfl⟩ rfl (by simp [zR_cat, zcat_I, zcat_J, zcat_S]) hl.size rfl (Gf_init_dc.at 59 rfl) (fun H locs hr52 S53 => ?_)
  obtain ⟨g54, h⟩ := ite_e h
  obtain ⟨M55, eM55, h⟩ := lt1_e h
  refine u_pR E eM55 zf_3_9 S53 g54 hr52 (Or.inr ⟨rfl, hn, rfl⟩) zw_4_97 (Gf_init_dc.at 60 rfl) (fun H locs S56 => ?_)
  refine u_al_n (x := a0) E (Gf_init_dc.at 61 rfl) hl rfl ?_
  refine u_al_n (x := a1) E (Gf_init_dc.at 62 rfl) hl rfl ?_
  obtain ⟨g57, h⟩ := ite_e h
  refine u_gR E zf_4_6 S56 g57 zw_1_115 (Gf_init_dc.at 63 rfl) ?_
  refine r_iconst E (Gf_init_dc.at 64 rfl) ?_
  refine u_al_n (x := a1) E (Gf_init_dc.at 65 rfl) hl rfl ?_
  refine u_gI E zf_4_12 S56 g57 zw_1_126 (Gf_init_dc.at 66 rfl) ?_
  refine r_max (rest := [zR G.2.2.1 (M55 a1 6), zR G.2.2.1 a0]) E (show InR 0 by decide) (S56.1.inR _ _) hl.size zw_4_55 zw_4_56 zw_1_17 zw_4_57 (by decide) (by simp [zR_cat, zcat_I, zcat_J, zcat_S, zrm]) ⟨Nat.le_of_ble_eq_true rfl, Nat.le_of_ble_eq_true rfl⟩ (Gf_init_dc.at 67 rfl) ?_
  obtain ⟨T58, L59, M60, r61, eM60, h⟩ := bd4_e h
  refine u_cSA (As := [zR G.2.2.1 (M55 a1 6), .int (zO (max 0 (M55 a1 12)))]) (rest := [zR G.2.2.1 a0]) E S56 zcw_yJ7_copyOf_59c91 zw_4_59 zw_4_58 (Ar_copyOf_c l G fu T49 L50 M55 (M55 a1 6) (max 0 (M55 a1 12)) (S56.1.inR _ _) (inR_max (show InR 0 by decide) (S56.1.inR _ _)) eM60) (zrm_ok (by decide) (by decide)) ⟨Nat.le_of_ble_eq_true rfl, Nat.le_of_ble_eq_true rfl⟩ rfl (by simp [zR_cat, zcat_I, zcat_J, zcat_S]) hl.size rfl (Gf_init_dc.at 68 rfl) (fun H locs hr61 S62 => ?_)
  obtain ⟨g63, h⟩ := ite_e h
  obtain ⟨M64, eM64, h⟩ := lt1_e h
  refine u_pR E eM64 zf_3_10 S62 g63 hr61 (Or.inr ⟨rfl, hn, rfl⟩) zw_4_98 (Gf_init_dc.at 69 rfl) (fun H locs S65 => ?_)
  cases h
  refine W.widen (k := 6) (n := 3600) (by omega) (by omega) ?_
  exact r_vret E S65 True.intro (Gf_init_dc.at 70 rfl)
theorem Gf_init_c (l : Launch) (G : zG) (fu : Nat) (top : Int) (L : zL) (M : zM) (a0 : Int) (a1 : Int) {res : (Int × zL × zM)} (ha0 : InR a0) (ha1 : InR a1) (h : Gf_init fu top L M a0 a1 = some res) : Met l yX3_init (Cond.code yX3_init cX3_init 2 none :: zTB) (zrm 4 6 3600) (va_Pc [zR G.2.2.1 a0, zR G.2.2.1 a1] (zPre G top L M)) (zQ G res.1 res.2.1 res.2.2 none True) 6 3600 (zA G) :=
  z_met (by decide +kernel) (by simp [zR_cat, zcat_I, zcat_S]) (Nat.le_of_ble_eq_true rfl) fun p e s m below meth c ls E hn S hl => Gf_init_w E hn ha0 ha1 S (hl.sub (And.intro rfl (And.intro rfl True.intro))) h
end
theorem Lx_gift_dc : zDL cX11_gift [(0, .aload_n 0, 1, 1), (1, .getfield 105, 3, 4), (4, .ifCond .ne 9, 3, 7), (7, .aload_n 0, 1, 8), (8, .iconst 0, 1, 9), (9, .invokevirtual 130, 3, 12), (12, .ireturn, 1, 13), (13, .aload_n 0, 1, 14), (14, .getfield 28, 3, 17), (17, .invokevirtual 109, 3, 20), (20, .iconst (-1), 1, 21), (21, .if_icmp .eq 9, 3, 24), (24, .aload_n 0, 1, 25), (25, .iconst 2, 1, 26), (26, .invokevirtual 130, 3, 29), (29, .ireturn, 1, 30), (30, .aload_n 0, 1, 31), (31, .getfield 42, 3, 34), (34, .getfield 133, 3, 37), (37, .bipush 8, 2, 39), (39, .if_icmp .lt 9, 3, 42), (42, .aload_n 0, 1, 43), (43, .iconst 4, 1, 44), (44, .invokevirtual 130, 3, 47), (47, .ireturn, 1, 48), (48, .aload_n 0, 1, 49), (49, .getfield 52, 3, 52), (52, .aload_n 0, 1, 53), (53, .getfield 42, 3, 56), (56, .invokevirtual 136, 3, 59), (59, .aload_n 0, 1, 60), (60, .getfield 42, 3, 63), (63, .new 139, 3, 66), (66, .dup, 1, 67), (67, .aload_n 0, 1, 68), (68, .getfield 28, 3, 71), (71, .invokespecial 141, 3, 74), (74, .invokevirtual 144, 3, 77), (77, .aload_n 0, 1, 78), (78, .getfield 12, 3, 81), (81, .iconst 0, 1, 82), (82, .putfield 94, 3, 85), (85, .aload_n 0, 1, 86), (86, .getfield 42, 3, 89), (89, .getfield 133, 3, 92), (92, .iconst 1, 1, 93), (93, .isub, 1, 94), (94, .ireturn, 1, 95)] := zDL.of (by decide +kernel)
section
variable {p : Program} {l : Launch} {e : Env} {s : State} {m : MethodId} {args : Array Value} {below : List Frame} {meth : Method} {c : Code} {G : zG} {top : Int} {L : zL} {fu : Nat}
theorem Lx_gift_w (E : zEv p m c cX11_gift 1 s args RX11 meth (some .int) G) (hn : meth.name = "gift") {res : (Int × zL × zM × Int)} {top : Int} {L : zL} {M : zM} {a0 : Int} {H : Heap} {locs : List Loc} {ls : Array Slot} (ha0 : InR a0) (S : zS G top L M s H locs) (hl : zLV ls 1 [some (zR G.2.2.1 a0)]) (h : Lx_gift fu top L M a0 = some res) : W p l e (zrm 51 7 3611) s m args below meth c H locs 0 0 (MQ below (zQ G res.1 res.2.1 res.2.2.1 (some (.int (zO res.2.2.2))) (InR res.2.2.2)) args s 7 3611 (zA G)) (F0 m 0 ls []) := by
  unfold Lx_gift at h
  refine u_al_n (x := a0) E (Lx_gift_dc.at 0 rfl) hl rfl ?_
  obtain ⟨g1, h⟩ := ite_e h
  refine u_gI E zf_11_11 S g1 zw_2_143 (Lx_gift_dc.at 1 rfl) ?_
  refine r_if_ne (tgt := 13) E (S.1.inR _ _) (Lx_gift_dc.at 2 rfl) (by decide) (fun q => ?_) (fun q => ?_)
  · have h := ite_t h q
    refine u_al_n (x := a0) E (Lx_gift_dc.at 3 rfl) hl rfl ?_
    refine r_iconst E (Lx_gift_dc.at 4 rfl) ?_
    obtain ⟨M3, r2, er2, h⟩ := bd2_e h
    refine u_cVI (As := [.int (zO 0)]) (rest := []) E S zcw_yX11_refused zw_3_239 zq_2_11 zw_3_237 zck_11.1 rfl g1 (Lx_refused_c l G fu top L M a0 0 ha0 (show InR 0 by decide) er2) (zrm_ok (by decide) (by decide)) ⟨Nat.le_of_ble_eq_true rfl, Nat.le_of_ble_eq_true rfl⟩ rfl (Nat.zero_le 8) hl.size rfl (Lx_gift_dc.at 5 rfl) (fun H locs hr2 S4 => ?_)
    cases h
    refine W.widen (k := 7) (n := 3611) (by omega) (by omega) ?_
    exact r_iret E S4 hr2 (Lx_gift_dc.at 6 rfl)
  · have h := ite_f h q
    refine u_al_n (x := a0) E (Lx_gift_dc.at 7 rfl) hl rfl ?_
    refine u_gR E zf_11_2 S g1 zw_2_134 (Lx_gift_dc.at 8 rfl) ?_
    obtain ⟨g5, h⟩ := ite_e h
    obtain ⟨M7, r6, er6, h⟩ := bd2_e h
    refine u_cVI (As := []) (rest := []) E S zcw_yX4_read zw_3_82 zw_3_83 zw_3_81 zck_4.1 rfl g5 (Gr_read_c l G fu top L M (M a0 2) (S.1.inR _ _) er6) (zrm_ok (by decide) (by decide)) ⟨Nat.le_of_ble_eq_true rfl, Nat.le_of_ble_eq_true rfl⟩ rfl (Nat.zero_le 8) hl.size rfl (Lx_gift_dc.at 9 rfl) (fun H locs hr6 S8 => ?_)
    refine r_iconst E (Lx_gift_dc.at 10 rfl) ?_
    refine r_icmp_eq (tgt := 30) E hr6 (show InR (-1) by decide) (Lx_gift_dc.at 11 rfl) (by decide) (fun q => ?_) (fun q => ?_)
    · have h := ite_t h q
      refine u_al_n (x := a0) E (Lx_gift_dc.at 16 rfl) hl rfl ?_
      refine u_gR E zf_11_4 S8 g1 zw_2_136 (Lx_gift_dc.at 17 rfl) ?_
      obtain ⟨g9, h⟩ := ite_e h
      refine u_gI E zf_1_2 S8 g9 zw_1_226 (Lx_gift_dc.at 18 rfl) ?_
      refine r_bipush E (Lx_gift_dc.at 19 rfl) rfl ?_
      refine r_icmp_lt (tgt := 48) E (S8.1.inR _ _) (show InR 8 by decide) (Lx_gift_dc.at 20 rfl) (by decide) (fun q => ?_) (fun q => ?_)
      · have h := ite_t h q
        refine u_al_n (x := a0) E (Lx_gift_dc.at 25 rfl) hl rfl ?_
        refine u_gR E zf_11_6 S8 g1 zw_2_138 (Lx_gift_dc.at 26 rfl) ?_
        refine u_al_n (x := a0) E (Lx_gift_dc.at 27 rfl) hl rfl ?_
        refine u_gR E zf_11_4 S8 g1 zw_2_136 (Lx_gift_dc.at 28 rfl) ?_
        obtain ⟨g10, h⟩ := ite_e h
        obtain ⟨M11, eM11, h⟩ := bd1_e h
        refine u_cVU (As := [zR G.2.2.1 (M7 a0 4)]) (rest := []) E S8 zcw_yX0_keep zw_4_2 zw_4_3 zw_4_1 zck_0.1 rfl g10 (Ac_keep_c l G fu top L M7 (M7 a0 6) (M7 a0 4) (S8.1.inR _ _) (S8.1.inR _ _) eM11) (zrm_ok (by decide) (by decide)) ⟨Nat.le_of_ble_eq_true rfl, Nat.le_of_ble_eq_true rfl⟩ rfl (Nat.zero_le 8) hl.size rfl (Lx_gift_dc.at 29 rfl) (fun H locs _ S12 => ?_)
        refine u_al_n (x := a0) E (Lx_gift_dc.at 30 rfl) hl rfl ?_
        refine u_gR E zf_11_4 S12 g1 zw_2_136 (Lx_gift_dc.at 31 rfl) ?_
        obtain ⟨g13, h⟩ := ite_e h
        obtain ⟨T14, eT14, h⟩ := lt1_e h
        obtain ⟨L15, eL15, h⟩ := lt1_e h
        obtain ⟨M16, eM16, h⟩ := lt1_e h
        refine u_new E S12 eT14 eL15 eM16 zck_3 rfl (zdf_3 _) zw_4_49 zw_4_50 zw_1_18 g13 ⟨Nat.le_of_ble_eq_true rfl, Nat.le_of_ble_eq_true rfl⟩ (Lx_gift_dc.at 32 rfl) (fun H S17 g18 => ?_)
        refine r_dup E (Lx_gift_dc.at 33 rfl) (zR_cat _ _) ?_
        refine u_al_n (x := a0) E (Lx_gift_dc.at 34 rfl) hl rfl ?_
        obtain ⟨g19, h⟩ := ite_e h
        refine u_gR E zf_11_2 S17 g19 zw_2_134 (Lx_gift_dc.at 35 rfl) ?_
        obtain ⟨T20, L21, M22, eM22, h⟩ := bd3_e h
        refine u_cI (As := [zR G.2.2.1 (M16 a0 2)]) (rest := [zR G.2.2.1 top, zR G.2.2.1 (M11 a0 4)]) E S17 zcw_yX3_init zw_4_52 rfl zw_4_51 (S17.1.tag g18 (by decide)).1 (Gf_init_c l G fu T14 L15 M16 top (M16 a0 2) (S17.1.refR g18 (by decide)) (S17.1.inR _ _) eM22) (zrm_ok (by decide) (by decide)) ⟨Nat.le_of_ble_eq_true rfl, Nat.le_of_ble_eq_true rfl⟩ rfl (by simp [zR_cat, zcat_I, zcat_J, zcat_S]) hl.size rfl (Lx_gift_dc.at 36 rfl) (fun H locs _ S23 => ?_)
        obtain ⟨g24, h⟩ := ite_e h
        obtain ⟨M25, eM25, h⟩ := bd1_e h
        refine u_cVU (As := [zR G.2.2.1 top]) (rest := []) E S23 zcw_yX1_addGift zw_4_43 zw_4_44 zw_4_123 zck_1.1 rfl g24 (Af_addGift_c l G fu T20 L21 M22 (M11 a0 4) top (S12.1.inR _ _) (S17.1.refR g18 (by decide)) eM25) (zrm_ok (by decide) (by decide)) ⟨Nat.le_of_ble_eq_true rfl, Nat.le_of_ble_eq_true rfl⟩ rfl (Nat.zero_le 8) hl.size rfl (Lx_gift_dc.at 37 rfl) (fun H locs _ S26 => ?_)
        refine u_al_n (x := a0) E (Lx_gift_dc.at 38 rfl) hl rfl ?_
        obtain ⟨g27, h⟩ := ite_e h
        refine u_gR E zf_11_0 S26 g27 zw_2_132 (Lx_gift_dc.at 39 rfl) ?_
        refine r_iconst E (Lx_gift_dc.at 40 rfl) ?_
        obtain ⟨g28, h⟩ := ite_e h
        obtain ⟨M29, eM29, h⟩ := lt1_e h
        refine u_pI E eM29 zf_7_2 S26 g28 (show InR 0 by decide) (Or.inl rfl) rfl zw_1_42 (Lx_gift_dc.at 41 rfl) (fun H locs S30 => ?_)
        refine u_al_n (x := a0) E (Lx_gift_dc.at 42 rfl) hl rfl ?_
        refine u_gR E zf_11_4 S30 g27 zw_2_136 (Lx_gift_dc.at 43 rfl) ?_
        obtain ⟨g31, h⟩ := ite_e h
        refine u_gI E zf_1_2 S30 g31 zw_1_226 (Lx_gift_dc.at 44 rfl) ?_
        refine r_iconst E (Lx_gift_dc.at 45 rfl) ?_
        refine r_isub E (Lx_gift_dc.at 46 rfl) ?_
        cases h
        refine W.widen (k := 7) (n := 3611) (by omega) (by omega) ?_
        exact r_iret E S30 (inR_w32 _) (Lx_gift_dc.at 47 rfl)
      · have h := ite_f h q
        refine u_al_n (x := a0) E (Lx_gift_dc.at 21 rfl) hl rfl ?_
        refine r_iconst E (Lx_gift_dc.at 22 rfl) ?_
        obtain ⟨M33, r32, er32, h⟩ := bd2_e h
        refine u_cVI (As := [.int (zO 4)]) (rest := []) E S8 zcw_yX11_refused zw_3_239 zq_2_11 zw_3_237 zck_11.1 rfl g1 (Lx_refused_c l G fu top L M7 a0 4 ha0 (show InR 4 by decide) er32) (zrm_ok (by decide) (by decide)) ⟨Nat.le_of_ble_eq_true rfl, Nat.le_of_ble_eq_true rfl⟩ rfl (Nat.zero_le 8) hl.size rfl (Lx_gift_dc.at 23 rfl) (fun H locs hr32 S34 => ?_)
        cases h
        refine W.widen (k := 7) (n := 3611) (by omega) (by omega) ?_
        exact r_iret E S34 hr32 (Lx_gift_dc.at 24 rfl)
    · have h := ite_f h q
      refine u_al_n (x := a0) E (Lx_gift_dc.at 12 rfl) hl rfl ?_
      refine r_iconst E (Lx_gift_dc.at 13 rfl) ?_
      obtain ⟨M36, r35, er35, h⟩ := bd2_e h
      refine u_cVI (As := [.int (zO 2)]) (rest := []) E S8 zcw_yX11_refused zw_3_239 zq_2_11 zw_3_237 zck_11.1 rfl g1 (Lx_refused_c l G fu top L M7 a0 2 ha0 (show InR 2 by decide) er35) (zrm_ok (by decide) (by decide)) ⟨Nat.le_of_ble_eq_true rfl, Nat.le_of_ble_eq_true rfl⟩ rfl (Nat.zero_le 8) hl.size rfl (Lx_gift_dc.at 14 rfl) (fun H locs hr35 S37 => ?_)
      cases h
      refine W.widen (k := 7) (n := 3611) (by omega) (by omega) ?_
      exact r_iret E S37 hr35 (Lx_gift_dc.at 15 rfl)
theorem Lx_gift_c (l : Launch) (G : zG) (fu : Nat) (top : Int) (L : zL) (M : zM) (a0 : Int) {res : (Int × zL × zM × Int)} (ha0 : InR a0) (h : Lx_gift fu top L M a0 = some res) : Met l yX11_gift (Cond.code yX11_gift cX11_gift 1 (some .int) :: zTB) (zrm 51 7 3611) (va_Pc [zR G.2.2.1 a0] (zPre G top L M)) (zQ G res.1 res.2.1 res.2.2.1 (some (.int (zO res.2.2.2))) (InR res.2.2.2)) 7 3611 (zA G) :=
  z_met (by decide +kernel) (by simp [zR_cat, zcat_I, zcat_S]) (Nat.le_of_ble_eq_true rfl) fun p e s m below meth c ls E hn S hl => Lx_gift_w E hn ha0 S (hl.sub (And.intro rfl True.intro)) h
end
theorem Af_removeGift_dc : zDL cX1_removeGift [(0, .aload_n 0, 1, 1), (1, .iload_n 1, 1, 2), (2, .invokevirtual 41, 3, 5), (5, .ifnonnull 4, 3, 8), (8, .return_, 1, 9), (9, .iload_n 1, 1, 10), (10, .istore_n 2, 1, 11), (11, .iload_n 2, 1, 12), (12, .iconst 1, 1, 13), (13, .iadd, 1, 14), (14, .aload_n 0, 1, 15), (15, .getfield 27, 3, 18), (18, .if_icmp .ge 34, 3, 21), (21, .iload_n 2, 1, 22), (22, .iconst 1, 1, 23), (23, .iadd, 1, 24), (24, .aload_n 0, 1, 25), (25, .getfield 20, 3, 28), (28, .arraylength, 1, 29), (29, .if_icmp .ge 23, 3, 32), (32, .aload_n 0, 1, 33), (33, .getfield 20, 3, 36), (36, .iload_n 2, 1, 37), (37, .aload_n 0, 1, 38), (38, .getfield 20, 3, 41), (41, .iload_n 2, 1, 42), (42, .iconst 1, 1, 43), (43, .iadd, 1, 44), (44, .aaload, 1, 45), (45, .aastore, 1, 46), (46, .iinc 2 1, 3, 49), (49, .goto (-38), 3, 52), (52, .aload_n 0, 1, 53), (53, .dup, 1, 54), (54, .getfield 27, 3, 57), (57, .iconst 1, 1, 58), (58, .isub, 1, 59), (59, .putfield 27, 3, 62), (62, .return_, 1, 63)] := zDL.of (by decide +kernel)
section
variable {p : Program} {l : Launch} {e : Env} {s : State} {m : MethodId} {args : Array Value} {below : List Frame} {meth : Method} {c : Code} {G : zG} {top : Int} {L : zL} {fu : Nat}
theorem Af_removeGift_s11_w (E : zEv p m c cX1_removeGift 3 s args RX1 meth none G) {res : zM} {k11 : zM → Int → Int → Option zM} (hk11 : ∀ (M : zM) (x0 : Int) (x2 : Int), InR x0 → InR x2 → ∀ (H : Heap) (locs : List Loc) (ls : Array Slot), zS G top L M s H locs → zLV ls 3 [some (zR G.2.2.1 x0), none, some (.int (zO x2))] → k11 M x0 x2 = some res → W p l e (zrm 2 0 0) s m args below meth c H locs 0 0 (MQ below (zQ G top L res none True) args s 0 0 (zA G)) (F0 m 11 ls [])) {M : zM} {x0 : Int} {x2 : Int} {H : Heap} {locs : List Loc} {ls : Array Slot} (hx0 : InR x0) (hx2 : InR x2) (S : zS G top L M s H locs) (hl : zLV ls 3 [some (zR G.2.2.1 x0), none, some (.int (zO x2))]) (h : Af_removeGift_s11 fu k11 L M x0 x2 = some res) : W p l e (zrm 2 0 0) s m args below meth c H locs 0 0 (MQ below (zQ G top L res none True) args s 0 0 (zA G)) (F0 m 11 ls []) := by
  unfold Af_removeGift_s11 at h
  refine u_il_n (x := x2) E (Af_removeGift_dc.at 7 rfl) hl rfl ?_
  refine r_iconst E (Af_removeGift_dc.at 8 rfl) ?_
  refine r_iadd E (Af_removeGift_dc.at 9 rfl) ?_
  refine u_al_n (x := x0) E (Af_removeGift_dc.at 10 rfl) hl rfl ?_
  obtain ⟨g4, h⟩ := ite_e h
  refine u_gI E zf_1_2 S g4 zw_1_225 (Af_removeGift_dc.at 11 rfl) ?_
  refine r_icmp_ge (tgt := 52) E (inR_w32 _) (S.1.inR _ _) (Af_removeGift_dc.at 12 rfl) (by decide) (fun q => ?_) (fun q => ?_)
  · have h := ite_t h q
    refine u_il_n (x := x2) E (Af_removeGift_dc.at 13 rfl) hl rfl ?_
    refine r_iconst E (Af_removeGift_dc.at 14 rfl) ?_
    refine r_iadd E (Af_removeGift_dc.at 15 rfl) ?_
    refine u_al_n (x := x0) E (Af_removeGift_dc.at 16 rfl) hl rfl ?_
    refine u_gR E zf_1_1 S g4 zw_1_224 (Af_removeGift_dc.at 17 rfl) ?_
    obtain ⟨g5, h⟩ := ite_e h
    refine r_alen E S g5 (by decide) (Af_removeGift_dc.at 18 rfl) ?_
    refine r_icmp_ge (tgt := 52) E (inR_w32 _) (S.1.lenR _) (Af_removeGift_dc.at 19 rfl) (by decide) (fun q => ?_) (fun q => ?_)
    · have h := ite_t h q
      refine u_al_n (x := x0) E (Af_removeGift_dc.at 20 rfl) hl rfl ?_
      refine u_gR E zf_1_1 S g4 zw_1_224 (Af_removeGift_dc.at 21 rfl) ?_
      refine u_il_n (x := x2) E (Af_removeGift_dc.at 22 rfl) hl rfl ?_
      refine u_al_n (x := x0) E (Af_removeGift_dc.at 23 rfl) hl rfl ?_
      refine u_gR E zf_1_1 S g4 zw_1_224 (Af_removeGift_dc.at 24 rfl) ?_
      refine u_il_n (x := x2) E (Af_removeGift_dc.at 25 rfl) hl rfl ?_
      refine r_iconst E (Af_removeGift_dc.at 26 rfl) ?_
      refine r_iadd E (Af_removeGift_dc.at 27 rfl) ?_
      obtain ⟨g6, h⟩ := ite_e h
      refine r_aald E S g5 (by decide) g6 (Af_removeGift_dc.at 28 rfl) ?_
      obtain ⟨g7, h⟩ := ite_e h
      obtain ⟨g8, h⟩ := ite_e h
      obtain ⟨M9, eM9, h⟩ := lt1_e h
      refine u_aastG E eM9 S g5 g7 g8 (Af_removeGift_dc.at 29 rfl) (fun H locs S10 => ?_)
      obtain ⟨v11, ev11, h⟩ := lt1_e h
      have hv11 := inR_eq ev11 (inR_w32 _)
      refine u_iinc (y := v11) (vs' := [some (zR G.2.2.1 x0), none, some (.int (zO v11))]) E ev11 (Af_removeGift_dc.at 30 rfl) hl rfl (by decide) rfl (fun ls hl => ?_)
      refine r_goto (tgt := 11) E (Af_removeGift_dc.at 31 rfl) (by decide) ?_
      exact hk11 _ x0 v11 hx0 hv11 _ _ _ S10 (hl.sub (And.intro rfl (And.intro rfl True.intro))) h
    · have h := ite_f h q
      refine u_al_n (x := x0) E (Af_removeGift_dc.at 32 rfl) hl rfl ?_
      refine r_dup E (Af_removeGift_dc.at 33 rfl) (zR_cat _ _) ?_
      refine u_gI E zf_1_2 S g4 zw_1_225 (Af_removeGift_dc.at 34 rfl) ?_
      refine r_iconst E (Af_removeGift_dc.at 35 rfl) ?_
      refine r_isub E (Af_removeGift_dc.at 36 rfl) ?_
      obtain ⟨M12, eM12, h⟩ := lt1_e h
      refine u_pI E eM12 zf_1_2 S g4 (inR_w32 _) (Or.inl rfl) rfl zw_1_225 (Af_removeGift_dc.at 37 rfl) (fun H locs S13 => ?_)
      cases h
      exact r_vret E S13 True.intro (Af_removeGift_dc.at 38 rfl)
  · have h := ite_f h q
    refine u_al_n (x := x0) E (Af_removeGift_dc.at 32 rfl) hl rfl ?_
    refine r_dup E (Af_removeGift_dc.at 33 rfl) (zR_cat _ _) ?_
    refine u_gI E zf_1_2 S g4 zw_1_225 (Af_removeGift_dc.at 34 rfl) ?_
    refine r_iconst E (Af_removeGift_dc.at 35 rfl) ?_
    refine r_isub E (Af_removeGift_dc.at 36 rfl) ?_
    obtain ⟨M14, eM14, h⟩ := lt1_e h
    refine u_pI E eM14 zf_1_2 S g4 (inR_w32 _) (Or.inl rfl) rfl zw_1_225 (Af_removeGift_dc.at 37 rfl) (fun H locs S15 => ?_)
    cases h
    exact r_vret E S15 True.intro (Af_removeGift_dc.at 38 rfl)
theorem Af_removeGift_l11_w (E : zEv p m c cX1_removeGift 3 s args RX1 meth none G) {res : zM} : ∀ (n : Nat) (M : zM) (x0 : Int) (x2 : Int), InR x0 → InR x2 → ∀ (H : Heap) (locs : List Loc) (ls : Array Slot), zS G top L M s H locs → zLV ls 3 [some (zR G.2.2.1 x0), none, some (.int (zO x2))] → Af_removeGift_l11 fu L n M x0 x2 = some res → W p l e (zrm 2 0 0) s m args below meth c H locs 0 0 (MQ below (zQ G top L res none True) args s 0 0 (zA G)) (F0 m 11 ls [])
  | 0, _, _, _ => fun _ _ _ _ _ _ _ h => (by cases h)
  | n + 1, M, x0, x2 => fun hx0 hx2 H locs ls S hl h => Af_removeGift_s11_w E (fun M x0 x2 hx0 hx2 H locs ls S hl h => Af_removeGift_l11_w E n M x0 x2 hx0 hx2 H locs ls S hl h) hx0 hx2 S hl h
theorem Af_removeGift_w (E : zEv p m c cX1_removeGift 3 s args RX1 meth none G) {res : zM} {M : zM} {a0 : Int} {a1 : Int} {H : Heap} {locs : List Loc} {ls : Array Slot} (ha0 : InR a0) (ha1 : InR a1) (S : zS G top L M s H locs) (hl : zLV ls 3 [some (zR G.2.2.1 a0), some (.int (zO a1)), none]) (h : Af_removeGift fu L M a0 a1 = some res) : W p l e (zrm 2 0 0) s m args below meth c H locs 0 0 (MQ below (zQ G top L res none True) args s 0 0 (zA G)) (F0 m 0 ls []) := by
  unfold Af_removeGift at h
  refine u_al_n (x := a0) E (Af_removeGift_dc.at 0 rfl) hl rfl ?_
  refine u_il_n (x := a1) E (Af_removeGift_dc.at 1 rfl) hl rfl ?_
  obtain ⟨g1, h⟩ := ite_e h
  obtain ⟨r2, er2, h⟩ := bd1_e h
  refine u_cVR (As := [.int (zO a1)]) (rest := []) E S zcw_yX1_giftAt zw_4_39 zw_4_40 zw_4_38 zck_1.1 rfl g1 (Af_giftAt_c l G fu top L M a0 a1 ha0 ha1 er2) (zrm_ok (by decide) (by decide)) ⟨Nat.le_refl 0, Nat.le_refl 0⟩ rfl (Nat.zero_le 8) hl.size rfl (Af_removeGift_dc.at 2 rfl) (fun H locs hr2 S3 => ?_)
  refine r_ifnonnull (tgt := 9) E (Af_removeGift_dc.at 3 rfl) (by decide) (fun q => ?_) (fun q => ?_)
  · have h := ite_t h q
    cases h
    exact r_vret E S3 True.intro (Af_removeGift_dc.at 4 rfl)
  · have h := ite_f h q
    refine u_il_n (x := a1) E (Af_removeGift_dc.at 5 rfl) hl rfl ?_
    refine u_ist_n (y := a1) (vs' := [some (zR G.2.2.1 a0), some (.int (zO a1)), some (.int (zO a1))]) E rfl (Af_removeGift_dc.at 6 rfl) hl (by decide) rfl (fun ls hl => ?_)
    exact Af_removeGift_l11_w E fu _ a0 a1 ha0 ha1 _ _ _ S3 (hl.sub (And.intro rfl (And.intro rfl True.intro))) h
theorem Af_removeGift_c (l : Launch) (G : zG) (fu : Nat) (top : Int) (L : zL) (M : zM) (a0 : Int) (a1 : Int) {res : zM} (ha0 : InR a0) (ha1 : InR a1) (h : Af_removeGift fu L M a0 a1 = some res) : Met l yX1_removeGift (Cond.code yX1_removeGift cX1_removeGift 3 none :: zTB) (zrm 2 0 0) (va_Pc [zR G.2.2.1 a0, .int (zO a1)] (zPre G top L M)) (zQ G top L res none True) 0 0 (zA G) :=
  z_met (by decide +kernel) (by simp [zR_cat, zcat_I, zcat_S]) (Nat.le_of_ble_eq_true rfl) fun p e s m below meth c ls E hn S hl => Af_removeGift_w E ha0 ha1 S (hl.sub (And.intro rfl (And.intro rfl True.intro))) h
end
theorem Lx_drop_dc : zDL cX11_drop [(0, .aload_n 0, 1, 1), (1, .getfield 105, 3, 4), (4, .ifCond .ne 9, 3, 7), (7, .aload_n 0, 1, 8), (8, .iconst 0, 1, 9), (9, .invokevirtual 130, 3, 12), (12, .ireturn, 1, 13), (13, .aload_n 0, 1, 14), (14, .getfield 42, 3, 17), (17, .iload_n 1, 1, 18), (18, .invokevirtual 148, 3, 21), (21, .ifnonnull 9, 3, 24), (24, .aload_n 0, 1, 25), (25, .iconst 1, 1, 26), (26, .invokevirtual 130, 3, 29), (29, .ireturn, 1, 30), (30, .aload_n 0, 1, 31), (31, .getfield 52, 3, 34), (34, .aload_n 0, 1, 35), (35, .getfield 42, 3, 38), (38, .invokevirtual 136, 3, 41), (41, .aload_n 0, 1, 42), (42, .getfield 42, 3, 45), (45, .iload_n 1, 1, 46), (46, .invokevirtual 152, 3, 49), (49, .aload_n 0, 1, 50), (50, .getfield 42, 3, 53), (53, .getfield 133, 3, 56), (56, .ireturn, 1, 57)] := zDL.of (by decide +kernel)
section
variable {p : Program} {l : Launch} {e : Env} {s : State} {m : MethodId} {args : Array Value} {below : List Frame} {meth : Method} {c : Code} {G : zG} {top : Int} {L : zL} {fu : Nat}
theorem Lx_drop_w (E : zEv p m c cX11_drop 2 s args RX11 meth (some .int) G) {res : (zM × Int)} {M : zM} {a0 : Int} {a1 : Int} {H : Heap} {locs : List Loc} {ls : Array Slot} (ha0 : InR a0) (ha1 : InR a1) (S : zS G top L M s H locs) (hl : zLV ls 2 [some (zR G.2.2.1 a0), some (.int (zO a1))]) (h : Lx_drop fu L M a0 a1 = some res) : W p l e (zrm 6 0 0) s m args below meth c H locs 0 0 (MQ below (zQ G top L res.1 (some (.int (zO res.2))) (InR res.2)) args s 0 0 (zA G)) (F0 m 0 ls []) := by
  unfold Lx_drop at h
  refine u_al_n (x := a0) E (Lx_drop_dc.at 0 rfl) hl rfl ?_
  obtain ⟨g1, h⟩ := ite_e h
  refine u_gI E zf_11_11 S g1 zw_2_143 (Lx_drop_dc.at 1 rfl) ?_
  refine r_if_ne (tgt := 13) E (S.1.inR _ _) (Lx_drop_dc.at 2 rfl) (by decide) (fun q => ?_) (fun q => ?_)
  · have h := ite_t h q
    refine u_al_n (x := a0) E (Lx_drop_dc.at 3 rfl) hl rfl ?_
    refine r_iconst E (Lx_drop_dc.at 4 rfl) ?_
    obtain ⟨M3, r2, er2, h⟩ := bd2_e h
    refine u_cVI (As := [.int (zO 0)]) (rest := []) E S zcw_yX11_refused zw_3_239 zq_2_11 zw_3_237 zck_11.1 rfl g1 (Lx_refused_c l G fu top L M a0 0 ha0 (show InR 0 by decide) er2) (zrm_ok (by decide) (by decide)) ⟨Nat.le_refl 0, Nat.le_refl 0⟩ rfl (Nat.zero_le 8) hl.size rfl (Lx_drop_dc.at 5 rfl) (fun H locs hr2 S4 => ?_)
    cases h
    exact r_iret E S4 hr2 (Lx_drop_dc.at 6 rfl)
  · have h := ite_f h q
    refine u_al_n (x := a0) E (Lx_drop_dc.at 7 rfl) hl rfl ?_
    refine u_gR E zf_11_4 S g1 zw_2_136 (Lx_drop_dc.at 8 rfl) ?_
    refine u_il_n (x := a1) E (Lx_drop_dc.at 9 rfl) hl rfl ?_
    obtain ⟨g5, h⟩ := ite_e h
    obtain ⟨r6, er6, h⟩ := bd1_e h
    refine u_cVR (As := [.int (zO a1)]) (rest := []) E S zcw_yX1_giftAt zw_4_39 zw_4_40 zw_4_128 zck_1.1 rfl g5 (Af_giftAt_c l G fu top L M (M a0 4) a1 (S.1.inR _ _) ha1 er6) (zrm_ok (by decide) (by decide)) ⟨Nat.le_refl 0, Nat.le_refl 0⟩ rfl (Nat.zero_le 8) hl.size rfl (Lx_drop_dc.at 10 rfl) (fun H locs hr6 S7 => ?_)
    refine r_ifnonnull (tgt := 30) E (Lx_drop_dc.at 11 rfl) (by decide) (fun q => ?_) (fun q => ?_)
    · have h := ite_t h q
      refine u_al_n (x := a0) E (Lx_drop_dc.at 12 rfl) hl rfl ?_
      refine r_iconst E (Lx_drop_dc.at 13 rfl) ?_
      obtain ⟨M9, r8, er8, h⟩ := bd2_e h
      refine u_cVI (As := [.int (zO 1)]) (rest := []) E S7 zcw_yX11_refused zw_3_239 zq_2_11 zw_3_237 zck_11.1 rfl g1 (Lx_refused_c l G fu top L M a0 1 ha0 (show InR 1 by decide) er8) (zrm_ok (by decide) (by decide)) ⟨Nat.le_refl 0, Nat.le_refl 0⟩ rfl (Nat.zero_le 8) hl.size rfl (Lx_drop_dc.at 14 rfl) (fun H locs hr8 S10 => ?_)
      cases h
      exact r_iret E S10 hr8 (Lx_drop_dc.at 15 rfl)
    · have h := ite_f h q
      refine u_al_n (x := a0) E (Lx_drop_dc.at 16 rfl) hl rfl ?_
      refine u_gR E zf_11_6 S7 g1 zw_2_138 (Lx_drop_dc.at 17 rfl) ?_
      refine u_al_n (x := a0) E (Lx_drop_dc.at 18 rfl) hl rfl ?_
      refine u_gR E zf_11_4 S7 g1 zw_2_136 (Lx_drop_dc.at 19 rfl) ?_
      obtain ⟨g11, h⟩ := ite_e h
      obtain ⟨M12, eM12, h⟩ := bd1_e h
      refine u_cVU (As := [zR G.2.2.1 (M a0 4)]) (rest := []) E S7 zcw_yX0_keep zw_4_2 zw_4_3 zw_4_1 zck_0.1 rfl g11 (Ac_keep_c l G fu top L M (M a0 6) (M a0 4) (S7.1.inR _ _) (S7.1.inR _ _) eM12) (zrm_ok (by decide) (by decide)) ⟨Nat.le_refl 0, Nat.le_refl 0⟩ rfl (Nat.zero_le 8) hl.size rfl (Lx_drop_dc.at 20 rfl) (fun H locs _ S13 => ?_)
      refine u_al_n (x := a0) E (Lx_drop_dc.at 21 rfl) hl rfl ?_
      refine u_gR E zf_11_4 S13 g1 zw_2_136 (Lx_drop_dc.at 22 rfl) ?_
      refine u_il_n (x := a1) E (Lx_drop_dc.at 23 rfl) hl rfl ?_
      obtain ⟨g14, h⟩ := ite_e h
      obtain ⟨M15, eM15, h⟩ := bd1_e h
      refine u_cVU (As := [.int (zO a1)]) (rest := []) E S13 zcw_yX1_removeGift zw_4_130 zw_4_131 zw_4_129 zck_1.1 rfl g14 (Af_removeGift_c l G fu top L M12 (M12 a0 4) a1 (S13.1.inR _ _) ha1 eM15) (zrm_ok (by decide) (by decide)) ⟨Nat.le_refl 0, Nat.le_refl 0⟩ rfl (Nat.zero_le 8) hl.size rfl (Lx_drop_dc.at 24 rfl) (fun H locs _ S16 => ?_)
      refine u_al_n (x := a0) E (Lx_drop_dc.at 25 rfl) hl rfl ?_
      refine u_gR E zf_11_4 S16 g1 zw_2_136 (Lx_drop_dc.at 26 rfl) ?_
      obtain ⟨g17, h⟩ := ite_e h
      refine u_gI E zf_1_2 S16 g17 zw_1_226 (Lx_drop_dc.at 27 rfl) ?_
      cases h
      exact r_iret E S16 (S16.1.inR _ _) (Lx_drop_dc.at 28 rfl)
theorem Lx_drop_c (l : Launch) (G : zG) (fu : Nat) (top : Int) (L : zL) (M : zM) (a0 : Int) (a1 : Int) {res : (zM × Int)} (ha0 : InR a0) (ha1 : InR a1) (h : Lx_drop fu L M a0 a1 = some res) : Met l yX11_drop (Cond.code yX11_drop cX11_drop 2 (some .int) :: zTB) (zrm 6 0 0) (va_Pc [zR G.2.2.1 a0, .int (zO a1)] (zPre G top L M)) (zQ G top L res.1 (some (.int (zO res.2))) (InR res.2)) 0 0 (zA G) :=
  z_met (by decide +kernel) (by simp [zR_cat, zcat_I, zcat_S]) (Nat.le_of_ble_eq_true rfl) fun p e s m below meth c ls E hn S hl => Lx_drop_w E ha0 ha1 S (hl.sub (And.intro rfl (And.intro rfl True.intro))) h
end
theorem Lx_pass_dc : zDL cX11_pass [(0, .aload_n 0, 1, 1), (1, .getfield 105, 3, 4), (4, .ifCond .ne 9, 3, 7), (7, .aload_n 0, 1, 8), (8, .iconst 0, 1, 9), (9, .invokevirtual 130, 3, 12), (12, .ireturn, 1, 13), (13, .iload_n 1, 1, 14), (14, .iconst 1, 1, 15), (15, .if_icmp .lt 27, 3, 18), (18, .iload_n 1, 1, 19), (19, .bipush 100, 2, 21), (21, .if_icmp .gt 21, 3, 24), (24, .aload_n 0, 1, 25), (25, .getfield 42, 3, 28), (28, .getfield 124, 3, 31), (31, .getfield 155, 3, 34), (34, .iload_n 1, 1, 35), (35, .iadd, 1, 36), (36, .sipush 399, 3, 39), (39, .if_icmp .le 9, 3, 42), (42, .aload_n 0, 1, 43), (43, .iconst 2, 1, 44), (44, .invokevirtual 130, 3, 47), (47, .ireturn, 1, 48), (48, .aload_n 0, 1, 49), (49, .getfield 52, 3, 52), (52, .aload_n 0, 1, 53), (53, .getfield 42, 3, 56), (56, .invokevirtual 136, 3, 59), (59, .aload_n 0, 1, 60), (60, .getfield 42, 3, 63), (63, .getfield 124, 3, 66), (66, .dup, 1, 67), (67, .getfield 155, 3, 70), (70, .iload_n 1, 1, 71), (71, .iadd, 1, 72), (72, .putfield 155, 3, 75), (75, .aload_n 0, 1, 76), (76, .getfield 42, 3, 79), (79, .getfield 124, 3, 82), (82, .getfield 155, 3, 85), (85, .ireturn, 1, 86)] := zDL.of (by decide +kernel)
section
variable {p : Program} {l : Launch} {e : Env} {s : State} {m : MethodId} {args : Array Value} {below : List Frame} {meth : Method} {c : Code} {G : zG} {top : Int} {L : zL} {fu : Nat}
theorem Lx_pass_w (E : zEv p m c cX11_pass 2 s args RX11 meth (some .int) G) {res : (zM × Int)} {M : zM} {a0 : Int} {a1 : Int} {H : Heap} {locs : List Loc} {ls : Array Slot} (ha0 : InR a0) (ha1 : InR a1) (S : zS G top L M s H locs) (hl : zLV ls 2 [some (zR G.2.2.1 a0), some (.int (zO a1))]) (h : Lx_pass fu L M a0 a1 = some res) : W p l e (zrm 6 0 0) s m args below meth c H locs 0 0 (MQ below (zQ G top L res.1 (some (.int (zO res.2))) (InR res.2)) args s 0 0 (zA G)) (F0 m 0 ls []) := by
  unfold Lx_pass at h
  refine u_al_n (x := a0) E (Lx_pass_dc.at 0 rfl) hl rfl ?_
  obtain ⟨g1, h⟩ := ite_e h
  refine u_gI E zf_11_11 S g1 zw_2_143 (Lx_pass_dc.at 1 rfl) ?_
  refine r_if_ne (tgt := 13) E (S.1.inR _ _) (Lx_pass_dc.at 2 rfl) (by decide) (fun q => ?_) (fun q => ?_)
  · have h := ite_t h q
    refine u_al_n (x := a0) E (Lx_pass_dc.at 3 rfl) hl rfl ?_
    refine r_iconst E (Lx_pass_dc.at 4 rfl) ?_
    obtain ⟨M3, r2, er2, h⟩ := bd2_e h
    refine u_cVI (As := [.int (zO 0)]) (rest := []) E S zcw_yX11_refused zw_3_239 zq_2_11 zw_3_237 zck_11.1 rfl g1 (Lx_refused_c l G fu top L M a0 0 ha0 (show InR 0 by decide) er2) (zrm_ok (by decide) (by decide)) ⟨Nat.le_refl 0, Nat.le_refl 0⟩ rfl (Nat.zero_le 8) hl.size rfl (Lx_pass_dc.at 5 rfl) (fun H locs hr2 S4 => ?_)
    cases h
    exact r_iret E S4 hr2 (Lx_pass_dc.at 6 rfl)
  · have h := ite_f h q
    refine u_il_n (x := a1) E (Lx_pass_dc.at 7 rfl) hl rfl ?_
    refine r_iconst E (Lx_pass_dc.at 8 rfl) ?_
    refine r_icmp_lt (tgt := 42) E ha1 (show InR 1 by decide) (Lx_pass_dc.at 9 rfl) (by decide) (fun q => ?_) (fun q => ?_)
    · have h := ite_t h q
      refine u_al_n (x := a0) E (Lx_pass_dc.at 21 rfl) hl rfl ?_
      refine r_iconst E (Lx_pass_dc.at 22 rfl) ?_
      obtain ⟨M6, r5, er5, h⟩ := bd2_e h
      refine u_cVI (As := [.int (zO 2)]) (rest := []) E S zcw_yX11_refused zw_3_239 zq_2_11 zw_3_237 zck_11.1 rfl g1 (Lx_refused_c l G fu top L M a0 2 ha0 (show InR 2 by decide) er5) (zrm_ok (by decide) (by decide)) ⟨Nat.le_refl 0, Nat.le_refl 0⟩ rfl (Nat.zero_le 8) hl.size rfl (Lx_pass_dc.at 23 rfl) (fun H locs hr5 S7 => ?_)
      cases h
      exact r_iret E S7 hr5 (Lx_pass_dc.at 24 rfl)
    · have h := ite_f h q
      refine u_il_n (x := a1) E (Lx_pass_dc.at 10 rfl) hl rfl ?_
      refine r_bipush E (Lx_pass_dc.at 11 rfl) rfl ?_
      refine r_icmp_gt (tgt := 42) E ha1 (show InR 100 by decide) (Lx_pass_dc.at 12 rfl) (by decide) (fun q => ?_) (fun q => ?_)
      · have h := ite_t h q
        refine u_al_n (x := a0) E (Lx_pass_dc.at 21 rfl) hl rfl ?_
        refine r_iconst E (Lx_pass_dc.at 22 rfl) ?_
        obtain ⟨M9, r8, er8, h⟩ := bd2_e h
        refine u_cVI (As := [.int (zO 2)]) (rest := []) E S zcw_yX11_refused zw_3_239 zq_2_11 zw_3_237 zck_11.1 rfl g1 (Lx_refused_c l G fu top L M a0 2 ha0 (show InR 2 by decide) er8) (zrm_ok (by decide) (by decide)) ⟨Nat.le_refl 0, Nat.le_refl 0⟩ rfl (Nat.zero_le 8) hl.size rfl (Lx_pass_dc.at 23 rfl) (fun H locs hr8 S10 => ?_)
        cases h
        exact r_iret E S10 hr8 (Lx_pass_dc.at 24 rfl)
      · have h := ite_f h q
        refine u_al_n (x := a0) E (Lx_pass_dc.at 13 rfl) hl rfl ?_
        refine u_gR E zf_11_4 S g1 zw_2_136 (Lx_pass_dc.at 14 rfl) ?_
        obtain ⟨g11, h⟩ := ite_e h
        refine u_gR E zf_1_0 S g11 zw_1_222 (Lx_pass_dc.at 15 rfl) ?_
        obtain ⟨g12, h⟩ := ite_e h
        refine u_gI E zf_10_5 S g12 zw_1_204 (Lx_pass_dc.at 16 rfl) ?_
        refine u_il_n (x := a1) E (Lx_pass_dc.at 17 rfl) hl rfl ?_
        refine r_iadd E (Lx_pass_dc.at 18 rfl) ?_
        refine r_sipush E (Lx_pass_dc.at 19 rfl) rfl ?_
        refine r_icmp_le (tgt := 48) E (inR_w32 _) (show InR 399 by decide) (Lx_pass_dc.at 20 rfl) (by decide) (fun q => ?_) (fun q => ?_)
        · have h := ite_t h q
          refine u_al_n (x := a0) E (Lx_pass_dc.at 21 rfl) hl rfl ?_
          refine r_iconst E (Lx_pass_dc.at 22 rfl) ?_
          obtain ⟨M14, r13, er13, h⟩ := bd2_e h
          refine u_cVI (As := [.int (zO 2)]) (rest := []) E S zcw_yX11_refused zw_3_239 zq_2_11 zw_3_237 zck_11.1 rfl g1 (Lx_refused_c l G fu top L M a0 2 ha0 (show InR 2 by decide) er13) (zrm_ok (by decide) (by decide)) ⟨Nat.le_refl 0, Nat.le_refl 0⟩ rfl (Nat.zero_le 8) hl.size rfl (Lx_pass_dc.at 23 rfl) (fun H locs hr13 S15 => ?_)
          cases h
          exact r_iret E S15 hr13 (Lx_pass_dc.at 24 rfl)
        · have h := ite_f h q
          refine u_al_n (x := a0) E (Lx_pass_dc.at 25 rfl) hl rfl ?_
          refine u_gR E zf_11_6 S g1 zw_2_138 (Lx_pass_dc.at 26 rfl) ?_
          refine u_al_n (x := a0) E (Lx_pass_dc.at 27 rfl) hl rfl ?_
          refine u_gR E zf_11_4 S g1 zw_2_136 (Lx_pass_dc.at 28 rfl) ?_
          obtain ⟨g16, h⟩ := ite_e h
          obtain ⟨M17, eM17, h⟩ := bd1_e h
          refine u_cVU (As := [zR G.2.2.1 (M a0 4)]) (rest := []) E S zcw_yX0_keep zw_4_2 zw_4_3 zw_4_1 zck_0.1 rfl g16 (Ac_keep_c l G fu top L M (M a0 6) (M a0 4) (S.1.inR _ _) (S.1.inR _ _) eM17) (zrm_ok (by decide) (by decide)) ⟨Nat.le_refl 0, Nat.le_refl 0⟩ rfl (Nat.zero_le 8) hl.size rfl (Lx_pass_dc.at 29 rfl) (fun H locs _ S18 => ?_)
          refine u_al_n (x := a0) E (Lx_pass_dc.at 30 rfl) hl rfl ?_
          refine u_gR E zf_11_4 S18 g1 zw_2_136 (Lx_pass_dc.at 31 rfl) ?_
          obtain ⟨g19, h⟩ := ite_e h
          refine u_gR E zf_1_0 S18 g19 zw_1_222 (Lx_pass_dc.at 32 rfl) ?_
          refine r_dup E (Lx_pass_dc.at 33 rfl) (zR_cat _ _) ?_
          obtain ⟨g20, h⟩ := ite_e h
          refine u_gI E zf_10_5 S18 g20 zw_1_204 (Lx_pass_dc.at 34 rfl) ?_
          refine u_il_n (x := a1) E (Lx_pass_dc.at 35 rfl) hl rfl ?_
          refine r_iadd E (Lx_pass_dc.at 36 rfl) ?_
          obtain ⟨M21, eM21, h⟩ := lt1_e h
          refine u_pI E eM21 zf_10_5 S18 g20 (inR_w32 _) (Or.inl rfl) rfl zw_1_204 (Lx_pass_dc.at 37 rfl) (fun H locs S22 => ?_)
          refine u_al_n (x := a0) E (Lx_pass_dc.at 38 rfl) hl rfl ?_
          refine u_gR E zf_11_4 S22 g1 zw_2_136 (Lx_pass_dc.at 39 rfl) ?_
          obtain ⟨g23, h⟩ := ite_e h
          refine u_gR E zf_1_0 S22 g23 zw_1_222 (Lx_pass_dc.at 40 rfl) ?_
          obtain ⟨g24, h⟩ := ite_e h
          refine u_gI E zf_10_5 S22 g24 zw_1_204 (Lx_pass_dc.at 41 rfl) ?_
          cases h
          exact r_iret E S22 (S22.1.inR _ _) (Lx_pass_dc.at 42 rfl)
theorem Lx_pass_c (l : Launch) (G : zG) (fu : Nat) (top : Int) (L : zL) (M : zM) (a0 : Int) (a1 : Int) {res : (zM × Int)} (ha0 : InR a0) (ha1 : InR a1) (h : Lx_pass fu L M a0 a1 = some res) : Met l yX11_pass (Cond.code yX11_pass cX11_pass 2 (some .int) :: zTB) (zrm 6 0 0) (va_Pc [zR G.2.2.1 a0, .int (zO a1)] (zPre G top L M)) (zQ G top L res.1 (some (.int (zO res.2))) (InR res.2)) 0 0 (zA G) :=
  z_met (by decide +kernel) (by simp [zR_cat, zcat_I, zcat_S]) (Nat.le_of_ble_eq_true rfl) fun p e s m below meth c ls E hn S hl => Lx_pass_w E ha0 ha1 S (hl.sub (And.intro rfl (And.intro rfl True.intro))) h
end
theorem Wd_isAlive_dc : zDL cX10_isAlive [(0, .iload_n 1, 1, 1), (1, .ifCond .lt 35, 3, 4), (4, .iload_n 1, 1, 5), (5, .aload_n 0, 1, 6), (6, .getfield 25, 3, 9), (9, .if_icmp .ge 27, 3, 12), (12, .iload_n 1, 1, 13), (13, .aload_n 0, 1, 14), (14, .getfield 15, 3, 17), (17, .arraylength, 1, 18), (18, .if_icmp .ge 18, 3, 21), (21, .aload_n 0, 1, 22), (22, .getfield 15, 3, 25), (25, .iload_n 1, 1, 26), (26, .iaload, 1, 27), (27, .ldc 31, 2, 29), (29, .if_icmp .ne 7, 3, 32), (32, .iconst 1, 1, 33), (33, .goto 4, 3, 36), (36, .iconst 0, 1, 37), (37, .ireturn, 1, 38)] := zDL.of (by decide +kernel)
section
variable {p : Program} {l : Launch} {e : Env} {s : State} {m : MethodId} {args : Array Value} {below : List Frame} {meth : Method} {c : Code} {G : zG} {top : Int} {L : zL} {fu : Nat}
theorem Wd_isAlive_w (E : zEv p m c cX10_isAlive 2 s args RX10 meth (some .boolean) G) {res : Int} {M : zM} {a0 : Int} {a1 : Int} {H : Heap} {locs : List Loc} {ls : Array Slot} (ha0 : InR a0) (ha1 : InR a1) (S : zS G top L M s H locs) (hl : zLV ls 2 [some (zR G.2.2.1 a0), some (.int (zO a1))]) (h : Wd_isAlive fu L M a0 a1 = some res) : W p l e (zrm 1 0 0) s m args below meth c H locs 0 0 (MQ below (zQ G top L M (some (.int (zO res))) (0 ≤ res ∧ res ≤ 1)) args s 0 0 (zA G)) (F0 m 0 ls []) := by
  unfold Wd_isAlive at h
  refine u_il_n (x := a1) E (Wd_isAlive_dc.at 0 rfl) hl rfl ?_
  refine r_if_lt (tgt := 36) E ha1 (Wd_isAlive_dc.at 1 rfl) (by decide) (fun q => ?_) (fun q => ?_)
  · have h := ite_t h q
    refine r_iconst E (Wd_isAlive_dc.at 19 rfl) ?_
    cases h
    exact r_zret E S z01_0 z01_0 (Wd_isAlive_dc.at 20 rfl)
  · have h := ite_f h q
    refine u_il_n (x := a1) E (Wd_isAlive_dc.at 2 rfl) hl rfl ?_
    refine u_al_n (x := a0) E (Wd_isAlive_dc.at 3 rfl) hl rfl ?_
    obtain ⟨g1, h⟩ := ite_e h
    refine u_gI E zf_10_4 S g1 zw_1_197 (Wd_isAlive_dc.at 4 rfl) ?_
    refine r_icmp_ge (tgt := 36) E ha1 (S.1.inR _ _) (Wd_isAlive_dc.at 5 rfl) (by decide) (fun q => ?_) (fun q => ?_)
    · have h := ite_t h q
      refine u_il_n (x := a1) E (Wd_isAlive_dc.at 6 rfl) hl rfl ?_
      refine u_al_n (x := a0) E (Wd_isAlive_dc.at 7 rfl) hl rfl ?_
      refine u_gR E zf_10_1 S g1 zw_1_191 (Wd_isAlive_dc.at 8 rfl) ?_
      obtain ⟨g2, h⟩ := ite_e h
      refine r_alen E S g2 (by decide) (Wd_isAlive_dc.at 9 rfl) ?_
      refine r_icmp_ge (tgt := 36) E ha1 (S.1.lenR _) (Wd_isAlive_dc.at 10 rfl) (by decide) (fun q => ?_) (fun q => ?_)
      · have h := ite_t h q
        refine u_al_n (x := a0) E (Wd_isAlive_dc.at 11 rfl) hl rfl ?_
        refine u_gR E zf_10_1 S g1 zw_1_191 (Wd_isAlive_dc.at 12 rfl) ?_
        refine u_il_n (x := a1) E (Wd_isAlive_dc.at 13 rfl) hl rfl ?_
        obtain ⟨g3, h⟩ := ite_e h
        refine r_iald E S g2 g3 (Wd_isAlive_dc.at 14 rfl) ?_
        refine r_ldc (n := (-1000000)) E (Wd_isAlive_dc.at 15 rfl) zw_3_224 rfl ?_
        refine r_icmp_ne (tgt := 36) E (S.1.inR _ _) (show InR (-1000000) by decide) (Wd_isAlive_dc.at 16 rfl) (by decide) (fun q => ?_) (fun q => ?_)
        · have h := ite_t h q
          refine r_iconst E (Wd_isAlive_dc.at 17 rfl) ?_
          refine r_goto (tgt := 37) E (Wd_isAlive_dc.at 18 rfl) (by decide) ?_
          cases h
          exact r_zret E S z01_1 z01_1 (Wd_isAlive_dc.at 20 rfl)
        · have h := ite_f h q
          refine r_iconst E (Wd_isAlive_dc.at 19 rfl) ?_
          cases h
          exact r_zret E S z01_0 z01_0 (Wd_isAlive_dc.at 20 rfl)
      · have h := ite_f h q
        refine r_iconst E (Wd_isAlive_dc.at 19 rfl) ?_
        cases h
        exact r_zret E S z01_0 z01_0 (Wd_isAlive_dc.at 20 rfl)
    · have h := ite_f h q
      refine r_iconst E (Wd_isAlive_dc.at 19 rfl) ?_
      cases h
      exact r_zret E S z01_0 z01_0 (Wd_isAlive_dc.at 20 rfl)
theorem Wd_isAlive_c (l : Launch) (G : zG) (fu : Nat) (top : Int) (L : zL) (M : zM) (a0 : Int) (a1 : Int) {res : Int} (ha0 : InR a0) (ha1 : InR a1) (h : Wd_isAlive fu L M a0 a1 = some res) : Met l yX10_isAlive (Cond.code yX10_isAlive cX10_isAlive 2 (some .boolean) :: zTB) (zrm 1 0 0) (va_Pc [zR G.2.2.1 a0, .int (zO a1)] (zPre G top L M)) (zQ G top L M (some (.int (zO res))) (0 ≤ res ∧ res ≤ 1)) 0 0 (zA G) :=
  z_met (by decide +kernel) (by simp [zR_cat, zcat_I, zcat_S]) (Nat.le_of_ble_eq_true rfl) fun p e s m below meth c ls E hn S hl => Wd_isAlive_w E ha0 ha1 S (hl.sub (And.intro rfl (And.intro rfl True.intro))) h
end
theorem Wd_whyNoBirth_dc : zDL cX10_whyNoBirth [(0, .aload_n 0, 1, 1), (1, .iload_n 1, 1, 2), (2, .invokevirtual 55, 3, 5), (5, .ifCond .ne 5, 3, 8), (8, .iconst 1, 1, 9), (9, .ireturn, 1, 10), (10, .aload_n 0, 1, 11), (11, .getfield 28, 3, 14), (14, .ifCond .eq 18, 3, 17), (17, .aload_n 0, 1, 18), (18, .getfield 28, 3, 21), (21, .aload_n 0, 1, 22), (22, .iload_n 1, 1, 23), (23, .invokevirtual 39, 3, 26), (26, .isub, 1, 27), (27, .bipush 13, 2, 29), (29, .if_icmp .ge 5, 3, 32), (32, .iconst 2, 1, 33), (33, .ireturn, 1, 34), (34, .aload_n 0, 1, 35), (35, .iload_n 1, 1, 36), (36, .invokevirtual 59, 3, 39), (39, .ifCond .ne 17, 3, 42), (42, .aload_n 0, 1, 43), (43, .iload_n 1, 1, 44), (44, .invokevirtual 49, 3, 47), (47, .aload_n 0, 1, 48), (48, .getfield 28, 3, 51), (51, .if_icmp .eq 5, 3, 54), (54, .iconst 3, 1, 55), (55, .ireturn, 1, 56), (56, .aload_n 0, 1, 57), (57, .getfield 25, 3, 60), (60, .bipush 24, 2, 62), (62, .if_icmp .lt 7, 3, 65), (65, .iconst 4, 1, 66), (66, .goto 4, 3, 69), (69, .iconst (-1), 1, 70), (70, .ireturn, 1, 71)] := zDL.of (by decide +kernel)
section
variable {p : Program} {l : Launch} {e : Env} {s : State} {m : MethodId} {args : Array Value} {below : List Frame} {meth : Method} {c : Code} {G : zG} {top : Int} {L : zL} {fu : Nat}
theorem Wd_whyNoBirth_w (E : zEv p m c cX10_whyNoBirth 2 s args RX10 meth (some .int) G) {res : Int} {M : zM} {a0 : Int} {a1 : Int} {H : Heap} {locs : List Loc} {ls : Array Slot} (ha0 : InR a0) (ha1 : InR a1) (S : zS G top L M s H locs) (hl : zLV ls 2 [some (zR G.2.2.1 a0), some (.int (zO a1))]) (h : Wd_whyNoBirth fu L M a0 a1 = some res) : W p l e (zrm 2 0 0) s m args below meth c H locs 0 0 (MQ below (zQ G top L M (some (.int (zO res))) (InR res)) args s 0 0 (zA G)) (F0 m 0 ls []) := by
  unfold Wd_whyNoBirth at h
  refine u_al_n (x := a0) E (Wd_whyNoBirth_dc.at 0 rfl) hl rfl ?_
  refine u_il_n (x := a1) E (Wd_whyNoBirth_dc.at 1 rfl) hl rfl ?_
  obtain ⟨g1, h⟩ := ite_e h
  obtain ⟨r2, er2, h⟩ := bd1_e h
  refine u_cVI (As := [.int (zO a1)]) (rest := []) E S zcw_yX10_has zw_4_35 zw_4_36 zw_4_34 zck_10.1 rfl g1 (Wd_has_c l G fu top L M a0 a1 ha0 ha1 er2) (zrm_ok (by decide) (by decide)) ⟨Nat.le_refl 0, Nat.le_refl 0⟩ rfl (Nat.zero_le 8) hl.size rfl (Wd_whyNoBirth_dc.at 2 rfl) (fun H locs hr2 S3 => ?_)
  refine r_if_ne (tgt := 10) E (inR_01 hr2) (Wd_whyNoBirth_dc.at 3 rfl) (by decide) (fun q => ?_) (fun q => ?_)
  · have h := ite_t h q
    refine r_iconst E (Wd_whyNoBirth_dc.at 4 rfl) ?_
    cases h
    exact r_iret E S3 (show InR 1 by decide) (Wd_whyNoBirth_dc.at 5 rfl)
  · have h := ite_f h q
    refine u_al_n (x := a0) E (Wd_whyNoBirth_dc.at 6 rfl) hl rfl ?_
    refine u_gI E zf_10_5 S3 g1 zw_1_199 (Wd_whyNoBirth_dc.at 7 rfl) ?_
    refine r_if_eq (tgt := 32) E (S3.1.inR _ _) (Wd_whyNoBirth_dc.at 8 rfl) (by decide) (fun q => ?_) (fun q => ?_)
    · have h := ite_t h q
      refine r_iconst E (Wd_whyNoBirth_dc.at 17 rfl) ?_
      cases h
      exact r_iret E S3 (show InR 2 by decide) (Wd_whyNoBirth_dc.at 18 rfl)
    · have h := ite_f h q
      refine u_al_n (x := a0) E (Wd_whyNoBirth_dc.at 9 rfl) hl rfl ?_
      refine u_gI E zf_10_5 S3 g1 zw_1_199 (Wd_whyNoBirth_dc.at 10 rfl) ?_
      refine u_al_n (x := a0) E (Wd_whyNoBirth_dc.at 11 rfl) hl rfl ?_
      refine u_il_n (x := a1) E (Wd_whyNoBirth_dc.at 12 rfl) hl rfl ?_
      obtain ⟨r4, er4, h⟩ := bd1_e h
      refine u_cVI (As := [.int (zO a1)]) (rest := [.int (zO (M a0 5))]) E S3 zcw_yX10_bornIn zw_4_19 zw_4_20 zw_4_18 zck_10.1 rfl g1 (Wd_bornIn_c l G fu top L M a0 a1 ha0 ha1 er4) (zrm_ok (by decide) (by decide)) ⟨Nat.le_refl 0, Nat.le_refl 0⟩ rfl (by simp [zR_cat, zcat_I, zcat_J, zcat_S]) hl.size rfl (Wd_whyNoBirth_dc.at 13 rfl) (fun H locs hr4 S5 => ?_)
      refine r_isub E (Wd_whyNoBirth_dc.at 14 rfl) ?_
      refine r_bipush E (Wd_whyNoBirth_dc.at 15 rfl) rfl ?_
      refine r_icmp_ge (tgt := 34) E (inR_w32 _) (show InR 13 by decide) (Wd_whyNoBirth_dc.at 16 rfl) (by decide) (fun q => ?_) (fun q => ?_)
      · have h := ite_t h q
        refine r_iconst E (Wd_whyNoBirth_dc.at 17 rfl) ?_
        cases h
        exact r_iret E S5 (show InR 2 by decide) (Wd_whyNoBirth_dc.at 18 rfl)
      · have h := ite_f h q
        refine u_al_n (x := a0) E (Wd_whyNoBirth_dc.at 19 rfl) hl rfl ?_
        refine u_il_n (x := a1) E (Wd_whyNoBirth_dc.at 20 rfl) hl rfl ?_
        obtain ⟨r6, er6, h⟩ := bd1_e h
        refine u_cVI (As := [.int (zO a1)]) (rest := []) E S5 zcw_yX10_isAlive zw_4_146 zw_4_147 zw_4_145 zck_10.1 rfl g1 (Wd_isAlive_c l G fu top L M a0 a1 ha0 ha1 er6) (zrm_ok (by decide) (by decide)) ⟨Nat.le_refl 0, Nat.le_refl 0⟩ rfl (Nat.zero_le 8) hl.size rfl (Wd_whyNoBirth_dc.at 21 rfl) (fun H locs hr6 S7 => ?_)
        refine r_if_ne (tgt := 56) E (inR_01 hr6) (Wd_whyNoBirth_dc.at 22 rfl) (by decide) (fun q => ?_) (fun q => ?_)
        · have h := ite_t h q
          refine u_al_n (x := a0) E (Wd_whyNoBirth_dc.at 23 rfl) hl rfl ?_
          refine u_il_n (x := a1) E (Wd_whyNoBirth_dc.at 24 rfl) hl rfl ?_
          obtain ⟨r8, er8, h⟩ := bd1_e h
          refine u_cVI (As := [.int (zO a1)]) (rest := []) E S7 zcw_yX10_diedIn zw_4_27 zw_4_28 zw_4_26 zck_10.1 rfl g1 (Wd_diedIn_c l G fu top L M a0 a1 ha0 ha1 er8) (zrm_ok (by decide) (by decide)) ⟨Nat.le_refl 0, Nat.le_refl 0⟩ rfl (Nat.zero_le 8) hl.size rfl (Wd_whyNoBirth_dc.at 25 rfl) (fun H locs hr8 S9 => ?_)
          refine u_al_n (x := a0) E (Wd_whyNoBirth_dc.at 26 rfl) hl rfl ?_
          refine u_gI E zf_10_5 S9 g1 zw_1_199 (Wd_whyNoBirth_dc.at 27 rfl) ?_
          refine r_icmp_eq (tgt := 56) E hr8 (S9.1.inR _ _) (Wd_whyNoBirth_dc.at 28 rfl) (by decide) (fun q => ?_) (fun q => ?_)
          · have h := ite_t h q
            refine u_al_n (x := a0) E (Wd_whyNoBirth_dc.at 31 rfl) hl rfl ?_
            refine u_gI E zf_10_4 S9 g1 zw_1_197 (Wd_whyNoBirth_dc.at 32 rfl) ?_
            refine r_bipush E (Wd_whyNoBirth_dc.at 33 rfl) rfl ?_
            refine r_icmp_lt (tgt := 69) E (S9.1.inR _ _) (show InR 24 by decide) (Wd_whyNoBirth_dc.at 34 rfl) (by decide) (fun q => ?_) (fun q => ?_)
            · have h := ite_t h q
              refine r_iconst E (Wd_whyNoBirth_dc.at 37 rfl) ?_
              cases h
              exact r_iret E S9 (show InR (-1) by decide) (Wd_whyNoBirth_dc.at 38 rfl)
            · have h := ite_f h q
              refine r_iconst E (Wd_whyNoBirth_dc.at 35 rfl) ?_
              refine r_goto (tgt := 70) E (Wd_whyNoBirth_dc.at 36 rfl) (by decide) ?_
              cases h
              exact r_iret E S9 (show InR 4 by decide) (Wd_whyNoBirth_dc.at 38 rfl)
          · have h := ite_f h q
            refine r_iconst E (Wd_whyNoBirth_dc.at 29 rfl) ?_
            cases h
            exact r_iret E S9 (show InR 3 by decide) (Wd_whyNoBirth_dc.at 30 rfl)
        · have h := ite_f h q
          refine u_al_n (x := a0) E (Wd_whyNoBirth_dc.at 31 rfl) hl rfl ?_
          refine u_gI E zf_10_4 S7 g1 zw_1_197 (Wd_whyNoBirth_dc.at 32 rfl) ?_
          refine r_bipush E (Wd_whyNoBirth_dc.at 33 rfl) rfl ?_
          refine r_icmp_lt (tgt := 69) E (S7.1.inR _ _) (show InR 24 by decide) (Wd_whyNoBirth_dc.at 34 rfl) (by decide) (fun q => ?_) (fun q => ?_)
          · have h := ite_t h q
            refine r_iconst E (Wd_whyNoBirth_dc.at 37 rfl) ?_
            cases h
            exact r_iret E S7 (show InR (-1) by decide) (Wd_whyNoBirth_dc.at 38 rfl)
          · have h := ite_f h q
            refine r_iconst E (Wd_whyNoBirth_dc.at 35 rfl) ?_
            refine r_goto (tgt := 70) E (Wd_whyNoBirth_dc.at 36 rfl) (by decide) ?_
            cases h
            exact r_iret E S7 (show InR 4 by decide) (Wd_whyNoBirth_dc.at 38 rfl)
theorem Wd_whyNoBirth_c (l : Launch) (G : zG) (fu : Nat) (top : Int) (L : zL) (M : zM) (a0 : Int) (a1 : Int) {res : Int} (ha0 : InR a0) (ha1 : InR a1) (h : Wd_whyNoBirth fu L M a0 a1 = some res) : Met l yX10_whyNoBirth (Cond.code yX10_whyNoBirth cX10_whyNoBirth 2 (some .int) :: zTB) (zrm 2 0 0) (va_Pc [zR G.2.2.1 a0, .int (zO a1)] (zPre G top L M)) (zQ G top L M (some (.int (zO res))) (InR res)) 0 0 (zA G) :=
  z_met (by decide +kernel) (by simp [zR_cat, zcat_I, zcat_S]) (Nat.le_of_ble_eq_true rfl) fun p e s m below meth c ls E hn S hl => Wd_whyNoBirth_w E ha0 ha1 S (hl.sub (And.intro rfl (And.intro rfl True.intro))) h
end
theorem Lx_birth_dc : zDL cX11_birth [(0, .aload_n 0, 1, 1), (1, .getfield 105, 3, 4), (4, .ifCond .eq 17, 3, 7), (7, .aload_n 0, 1, 8), (8, .getfield 42, 3, 11), (11, .getfield 124, 3, 14), (14, .iload_n 1, 1, 15), (15, .invokevirtual 158, 3, 18), (18, .goto 4, 3, 21), (21, .iconst 0, 1, 22), (22, .istore_n 2, 1, 23), (23, .iload_n 2, 1, 24), (24, .iconst (-1), 1, 25), (25, .if_icmp .eq 9, 3, 28), (28, .aload_n 0, 1, 29), (29, .iload_n 2, 1, 30), (30, .invokevirtual 130, 3, 33), (33, .ireturn, 1, 34), (34, .aload_n 0, 1, 35), (35, .getfield 52, 3, 38), (38, .aload_n 0, 1, 39), (39, .getfield 42, 3, 42), (42, .invokevirtual 136, 3, 45), (45, .aload_n 0, 1, 46), (46, .getfield 42, 3, 49), (49, .getfield 124, 3, 52), (52, .aload_n 0, 1, 53), (53, .getfield 42, 3, 56), (56, .getfield 124, 3, 59), (59, .getfield 155, 3, 62), (62, .iload_n 1, 1, 63), (63, .invokevirtual 161, 3, 66), (66, .aload_n 0, 1, 67), (67, .getfield 42, 3, 70), (70, .getfield 124, 3, 73), (73, .getfield 165, 3, 76), (76, .iconst 1, 1, 77), (77, .isub, 1, 78), (78, .ireturn, 1, 79)] := zDL.of (by decide +kernel)
section
variable {p : Program} {l : Launch} {e : Env} {s : State} {m : MethodId} {args : Array Value} {below : List Frame} {meth : Method} {c : Code} {G : zG} {top : Int} {L : zL} {fu : Nat}
theorem Lx_birth_b22_w (E : zEv p m c cX11_birth 3 s args RX11 meth (some .int) G) {res : (zM × Int)} {M : zM} {x0 : Int} {x1 : Int} {y0 : Int} {H : Heap} {locs : List Loc} {ls : Array Slot} (hx0 : InR x0) (hx1 : InR x1) (hy0 : InR y0) (S : zS G top L M s H locs) (hl : zLV ls 3 [some (zR G.2.2.1 x0), some (.int (zO x1)), none]) (h : Lx_birth_b22 fu L M x0 x1 y0 = some res) : W p l e (zrm 6 0 0) s m args below meth c H locs 0 0 (MQ below (zQ G top L res.1 (some (.int (zO res.2))) (InR res.2)) args s 0 0 (zA G)) (F0 m 22 ls [.int (zO y0)]) := by
  unfold Lx_birth_b22 at h
  refine u_ist_n (y := y0) (vs' := [some (zR G.2.2.1 x0), some (.int (zO x1)), some (.int (zO y0))]) E rfl (Lx_birth_dc.at 10 rfl) hl (by decide) rfl (fun ls hl => ?_)
  refine u_il_n (x := y0) E (Lx_birth_dc.at 11 rfl) hl rfl ?_
  refine r_iconst E (Lx_birth_dc.at 12 rfl) ?_
  refine r_icmp_eq (tgt := 34) E hy0 (show InR (-1) by decide) (Lx_birth_dc.at 13 rfl) (by decide) (fun q => ?_) (fun q => ?_)
  · have h := ite_t h q
    refine u_al_n (x := x0) E (Lx_birth_dc.at 18 rfl) hl rfl ?_
    obtain ⟨g2, h⟩ := ite_e h
    refine u_gR E zf_11_6 S g2 zw_2_138 (Lx_birth_dc.at 19 rfl) ?_
    refine u_al_n (x := x0) E (Lx_birth_dc.at 20 rfl) hl rfl ?_
    refine u_gR E zf_11_4 S g2 zw_2_136 (Lx_birth_dc.at 21 rfl) ?_
    obtain ⟨g3, h⟩ := ite_e h
    obtain ⟨M4, eM4, h⟩ := bd1_e h
    refine u_cVU (As := [zR G.2.2.1 (M x0 4)]) (rest := []) E S zcw_yX0_keep zw_4_2 zw_4_3 zw_4_1 zck_0.1 rfl g3 (Ac_keep_c l G fu top L M (M x0 6) (M x0 4) (S.1.inR _ _) (S.1.inR _ _) eM4) (zrm_ok (by decide) (by decide)) ⟨Nat.le_refl 0, Nat.le_refl 0⟩ rfl (Nat.zero_le 8) hl.size rfl (Lx_birth_dc.at 22 rfl) (fun H locs _ S5 => ?_)
    refine u_al_n (x := x0) E (Lx_birth_dc.at 23 rfl) hl rfl ?_
    refine u_gR E zf_11_4 S5 g2 zw_2_136 (Lx_birth_dc.at 24 rfl) ?_
    obtain ⟨g6, h⟩ := ite_e h
    refine u_gR E zf_1_0 S5 g6 zw_1_222 (Lx_birth_dc.at 25 rfl) ?_
    refine u_al_n (x := x0) E (Lx_birth_dc.at 26 rfl) hl rfl ?_
    refine u_gR E zf_11_4 S5 g2 zw_2_136 (Lx_birth_dc.at 27 rfl) ?_
    refine u_gR E zf_1_0 S5 g6 zw_1_222 (Lx_birth_dc.at 28 rfl) ?_
    obtain ⟨g7, h⟩ := ite_e h
    refine u_gI E zf_10_5 S5 g7 zw_1_204 (Lx_birth_dc.at 29 rfl) ?_
    refine u_il_n (x := x1) E (Lx_birth_dc.at 30 rfl) hl rfl ?_
    obtain ⟨M8, eM8, h⟩ := bd1_e h
    refine u_cVU (As := [.int (zO (M4 (M4 (M4 x0 4) 0) 5)), .int (zO x1)]) (rest := []) E S5 zcw_yX10_add zw_3_221 zw_3_222 zw_4_149 zck_10.1 rfl g7 (Wd_add_c l G fu top L M4 (M4 (M4 x0 4) 0) (M4 (M4 (M4 x0 4) 0) 5) x1 (S5.1.inR _ _) (S5.1.inR _ _) hx1 eM8) (zrm_ok (by decide) (by decide)) ⟨Nat.le_refl 0, Nat.le_refl 0⟩ rfl (Nat.zero_le 8) hl.size rfl (Lx_birth_dc.at 31 rfl) (fun H locs _ S9 => ?_)
    refine u_al_n (x := x0) E (Lx_birth_dc.at 32 rfl) hl rfl ?_
    refine u_gR E zf_11_4 S9 g2 zw_2_136 (Lx_birth_dc.at 33 rfl) ?_
    obtain ⟨g10, h⟩ := ite_e h
    refine u_gR E zf_1_0 S9 g10 zw_1_222 (Lx_birth_dc.at 34 rfl) ?_
    obtain ⟨g11, h⟩ := ite_e h
    refine u_gI E zf_10_4 S9 g11 zw_1_198 (Lx_birth_dc.at 35 rfl) ?_
    refine r_iconst E (Lx_birth_dc.at 36 rfl) ?_
    refine r_isub E (Lx_birth_dc.at 37 rfl) ?_
    cases h
    exact r_iret E S9 (inR_w32 _) (Lx_birth_dc.at 38 rfl)
  · have h := ite_f h q
    refine u_al_n (x := x0) E (Lx_birth_dc.at 14 rfl) hl rfl ?_
    refine u_il_n (x := y0) E (Lx_birth_dc.at 15 rfl) hl rfl ?_
    obtain ⟨g12, h⟩ := ite_e h
    obtain ⟨M14, r13, er13, h⟩ := bd2_e h
    refine u_cVI (As := [.int (zO y0)]) (rest := []) E S zcw_yX11_refused zw_3_239 zq_2_11 zw_3_237 zck_11.1 rfl g12 (Lx_refused_c l G fu top L M x0 y0 hx0 hy0 er13) (zrm_ok (by decide) (by decide)) ⟨Nat.le_refl 0, Nat.le_refl 0⟩ rfl (Nat.zero_le 8) hl.size rfl (Lx_birth_dc.at 16 rfl) (fun H locs hr13 S15 => ?_)
    cases h
    exact r_iret E S15 hr13 (Lx_birth_dc.at 17 rfl)
theorem Lx_birth_w (E : zEv p m c cX11_birth 3 s args RX11 meth (some .int) G) {res : (zM × Int)} {M : zM} {a0 : Int} {a1 : Int} {H : Heap} {locs : List Loc} {ls : Array Slot} (ha0 : InR a0) (ha1 : InR a1) (S : zS G top L M s H locs) (hl : zLV ls 3 [some (zR G.2.2.1 a0), some (.int (zO a1)), none]) (h : Lx_birth fu L M a0 a1 = some res) : W p l e (zrm 6 0 0) s m args below meth c H locs 0 0 (MQ below (zQ G top L res.1 (some (.int (zO res.2))) (InR res.2)) args s 0 0 (zA G)) (F0 m 0 ls []) := by
  unfold Lx_birth at h
  refine u_al_n (x := a0) E (Lx_birth_dc.at 0 rfl) hl rfl ?_
  obtain ⟨g1, h⟩ := ite_e h
  refine u_gI E zf_11_11 S g1 zw_2_143 (Lx_birth_dc.at 1 rfl) ?_
  refine r_if_eq (tgt := 21) E (S.1.inR _ _) (Lx_birth_dc.at 2 rfl) (by decide) (fun q => ?_) (fun q => ?_)
  · have h := ite_t h q
    refine r_iconst E (Lx_birth_dc.at 9 rfl) ?_
    exact Lx_birth_b22_w (x0 := a0) (x1 := a1) (y0 := 0) E ha0 ha1 (show InR 0 by decide) S (hl.sub (And.intro rfl (And.intro rfl True.intro))) h
  · have h := ite_f h q
    refine u_al_n (x := a0) E (Lx_birth_dc.at 3 rfl) hl rfl ?_
    refine u_gR E zf_11_4 S g1 zw_2_136 (Lx_birth_dc.at 4 rfl) ?_
    obtain ⟨g16, h⟩ := ite_e h
    refine u_gR E zf_1_0 S g16 zw_1_222 (Lx_birth_dc.at 5 rfl) ?_
    refine u_il_n (x := a1) E (Lx_birth_dc.at 6 rfl) hl rfl ?_
    obtain ⟨g17, h⟩ := ite_e h
    obtain ⟨r18, er18, h⟩ := bd1_e h
    refine u_cVI (As := [.int (zO a1)]) (rest := []) E S zcw_yX10_whyNoBirth zw_4_142 zw_4_143 zw_4_141 zck_10.1 rfl g17 (Wd_whyNoBirth_c l G fu top L M (M (M a0 4) 0) a1 (S.1.inR _ _) ha1 er18) (zrm_ok (by decide) (by decide)) ⟨Nat.le_refl 0, Nat.le_refl 0⟩ rfl (Nat.zero_le 8) hl.size rfl (Lx_birth_dc.at 7 rfl) (fun H locs hr18 S19 => ?_)
    refine r_goto (tgt := 22) E (Lx_birth_dc.at 8 rfl) (by decide) ?_
    exact Lx_birth_b22_w (x0 := a0) (x1 := a1) (y0 := r18) E ha0 ha1 hr18 S19 (hl.sub (And.intro rfl (And.intro rfl True.intro))) h
theorem Lx_birth_c (l : Launch) (G : zG) (fu : Nat) (top : Int) (L : zL) (M : zM) (a0 : Int) (a1 : Int) {res : (zM × Int)} (ha0 : InR a0) (ha1 : InR a1) (h : Lx_birth fu L M a0 a1 = some res) : Met l yX11_birth (Cond.code yX11_birth cX11_birth 3 (some .int) :: zTB) (zrm 6 0 0) (va_Pc [zR G.2.2.1 a0, .int (zO a1)] (zPre G top L M)) (zQ G top L res.1 (some (.int (zO res.2))) (InR res.2)) 0 0 (zA G) :=
  z_met (by decide +kernel) (by simp [zR_cat, zcat_I, zcat_S]) (Nat.le_of_ble_eq_true rfl) fun p e s m below meth c ls E hn S hl => Lx_birth_w E ha0 ha1 S (hl.sub (And.intro rfl (And.intro rfl True.intro))) h
end
theorem Wd_whyNoDeath_dc : zDL cX10_whyNoDeath [(0, .aload_n 0, 1, 1), (1, .iload_n 1, 1, 2), (2, .invokevirtual 55, 3, 5), (5, .ifCond .ne 5, 3, 8), (8, .iconst 1, 1, 9), (9, .ireturn, 1, 10), (10, .aload_n 0, 1, 11), (11, .iload_n 1, 1, 12), (12, .invokevirtual 59, 3, 15), (15, .ifCond .eq 7, 3, 18), (18, .iconst (-1), 1, 19), (19, .goto 4, 3, 22), (22, .iconst 3, 1, 23), (23, .ireturn, 1, 24)] := zDL.of (by decide +kernel)
section
variable {p : Program} {l : Launch} {e : Env} {s : State} {m : MethodId} {args : Array Value} {below : List Frame} {meth : Method} {c : Code} {G : zG} {top : Int} {L : zL} {fu : Nat}
theorem Wd_whyNoDeath_w (E : zEv p m c cX10_whyNoDeath 2 s args RX10 meth (some .int) G) {res : Int} {M : zM} {a0 : Int} {a1 : Int} {H : Heap} {locs : List Loc} {ls : Array Slot} (ha0 : InR a0) (ha1 : InR a1) (S : zS G top L M s H locs) (hl : zLV ls 2 [some (zR G.2.2.1 a0), some (.int (zO a1))]) (h : Wd_whyNoDeath fu L M a0 a1 = some res) : W p l e (zrm 2 0 0) s m args below meth c H locs 0 0 (MQ below (zQ G top L M (some (.int (zO res))) (InR res)) args s 0 0 (zA G)) (F0 m 0 ls []) := by
  unfold Wd_whyNoDeath at h
  refine u_al_n (x := a0) E (Wd_whyNoDeath_dc.at 0 rfl) hl rfl ?_
  refine u_il_n (x := a1) E (Wd_whyNoDeath_dc.at 1 rfl) hl rfl ?_
  obtain ⟨g1, h⟩ := ite_e h
  obtain ⟨r2, er2, h⟩ := bd1_e h
  refine u_cVI (As := [.int (zO a1)]) (rest := []) E S zcw_yX10_has zw_4_35 zw_4_36 zw_4_34 zck_10.1 rfl g1 (Wd_has_c l G fu top L M a0 a1 ha0 ha1 er2) (zrm_ok (by decide) (by decide)) ⟨Nat.le_refl 0, Nat.le_refl 0⟩ rfl (Nat.zero_le 8) hl.size rfl (Wd_whyNoDeath_dc.at 2 rfl) (fun H locs hr2 S3 => ?_)
  refine r_if_ne (tgt := 10) E (inR_01 hr2) (Wd_whyNoDeath_dc.at 3 rfl) (by decide) (fun q => ?_) (fun q => ?_)
  · have h := ite_t h q
    refine r_iconst E (Wd_whyNoDeath_dc.at 4 rfl) ?_
    cases h
    exact r_iret E S3 (show InR 1 by decide) (Wd_whyNoDeath_dc.at 5 rfl)
  · have h := ite_f h q
    refine u_al_n (x := a0) E (Wd_whyNoDeath_dc.at 6 rfl) hl rfl ?_
    refine u_il_n (x := a1) E (Wd_whyNoDeath_dc.at 7 rfl) hl rfl ?_
    obtain ⟨r4, er4, h⟩ := bd1_e h
    refine u_cVI (As := [.int (zO a1)]) (rest := []) E S3 zcw_yX10_isAlive zw_4_146 zw_4_147 zw_4_145 zck_10.1 rfl g1 (Wd_isAlive_c l G fu top L M a0 a1 ha0 ha1 er4) (zrm_ok (by decide) (by decide)) ⟨Nat.le_refl 0, Nat.le_refl 0⟩ rfl (Nat.zero_le 8) hl.size rfl (Wd_whyNoDeath_dc.at 8 rfl) (fun H locs hr4 S5 => ?_)
    refine r_if_eq (tgt := 22) E (inR_01 hr4) (Wd_whyNoDeath_dc.at 9 rfl) (by decide) (fun q => ?_) (fun q => ?_)
    · have h := ite_t h q
      refine r_iconst E (Wd_whyNoDeath_dc.at 12 rfl) ?_
      cases h
      exact r_iret E S5 (show InR 3 by decide) (Wd_whyNoDeath_dc.at 13 rfl)
    · have h := ite_f h q
      refine r_iconst E (Wd_whyNoDeath_dc.at 10 rfl) ?_
      refine r_goto (tgt := 23) E (Wd_whyNoDeath_dc.at 11 rfl) (by decide) ?_
      cases h
      exact r_iret E S5 (show InR (-1) by decide) (Wd_whyNoDeath_dc.at 13 rfl)
theorem Wd_whyNoDeath_c (l : Launch) (G : zG) (fu : Nat) (top : Int) (L : zL) (M : zM) (a0 : Int) (a1 : Int) {res : Int} (ha0 : InR a0) (ha1 : InR a1) (h : Wd_whyNoDeath fu L M a0 a1 = some res) : Met l yX10_whyNoDeath (Cond.code yX10_whyNoDeath cX10_whyNoDeath 2 (some .int) :: zTB) (zrm 2 0 0) (va_Pc [zR G.2.2.1 a0, .int (zO a1)] (zPre G top L M)) (zQ G top L M (some (.int (zO res))) (InR res)) 0 0 (zA G) :=
  z_met (by decide +kernel) (by simp [zR_cat, zcat_I, zcat_S]) (Nat.le_of_ble_eq_true rfl) fun p e s m below meth c ls E hn S hl => Wd_whyNoDeath_w E ha0 ha1 S (hl.sub (And.intro rfl (And.intro rfl True.intro))) h
end
theorem Wd_bury_dc : zDL cX10_bury [(0, .aload_n 0, 1, 1), (1, .iload_n 1, 1, 2), (2, .aload_n 0, 1, 3), (3, .getfield 28, 3, 6), (6, .invokevirtual 52, 3, 9), (9, .return_, 1, 10)] := zDL.of (by decide +kernel)
section
variable {p : Program} {l : Launch} {e : Env} {s : State} {m : MethodId} {args : Array Value} {below : List Frame} {meth : Method} {c : Code} {G : zG} {top : Int} {L : zL} {fu : Nat}
theorem Wd_bury_w (E : zEv p m c cX10_bury 2 s args RX10 meth none G) {res : zM} {M : zM} {a0 : Int} {a1 : Int} {H : Heap} {locs : List Loc} {ls : Array Slot} (ha0 : InR a0) (ha1 : InR a1) (S : zS G top L M s H locs) (hl : zLV ls 2 [some (zR G.2.2.1 a0), some (.int (zO a1))]) (h : Wd_bury fu L M a0 a1 = some res) : W p l e (zrm 3 0 0) s m args below meth c H locs 0 0 (MQ below (zQ G top L res none True) args s 0 0 (zA G)) (F0 m 0 ls []) := by
  unfold Wd_bury at h
  refine u_al_n (x := a0) E (Wd_bury_dc.at 0 rfl) hl rfl ?_
  refine u_il_n (x := a1) E (Wd_bury_dc.at 1 rfl) hl rfl ?_
  refine u_al_n (x := a0) E (Wd_bury_dc.at 2 rfl) hl rfl ?_
  obtain ⟨g1, h⟩ := ite_e h
  refine u_gI E zf_10_5 S g1 zw_1_199 (Wd_bury_dc.at 3 rfl) ?_
  obtain ⟨M2, eM2, h⟩ := bd1_e h
  refine u_cVU (As := [.int (zO a1), .int (zO (M a0 5))]) (rest := []) E S zcw_yX10_setDeath zw_4_31 zw_4_32 zw_4_30 zck_10.1 rfl g1 (Wd_setDeath_c l G fu top L M a0 a1 (M a0 5) ha0 ha1 (S.1.inR _ _) eM2) (zrm_ok (by decide) (by decide)) ⟨Nat.le_refl 0, Nat.le_refl 0⟩ rfl (Nat.zero_le 8) hl.size rfl (Wd_bury_dc.at 4 rfl) (fun H locs _ S3 => ?_)
  cases h
  exact r_vret E S3 True.intro (Wd_bury_dc.at 5 rfl)
theorem Wd_bury_c (l : Launch) (G : zG) (fu : Nat) (top : Int) (L : zL) (M : zM) (a0 : Int) (a1 : Int) {res : zM} (ha0 : InR a0) (ha1 : InR a1) (h : Wd_bury fu L M a0 a1 = some res) : Met l yX10_bury (Cond.code yX10_bury cX10_bury 2 none :: zTB) (zrm 3 0 0) (va_Pc [zR G.2.2.1 a0, .int (zO a1)] (zPre G top L M)) (zQ G top L res none True) 0 0 (zA G) :=
  z_met (by decide +kernel) (by simp [zR_cat, zcat_I, zcat_S]) (Nat.le_of_ble_eq_true rfl) fun p e s m below meth c ls E hn S hl => Wd_bury_w E ha0 ha1 S (hl.sub (And.intro rfl (And.intro rfl True.intro))) h
end
theorem Wd_ageOf_dc : zDL cX10_ageOf [(0, .aload_n 0, 1, 1), (1, .iload_n 1, 1, 2), (2, .invokevirtual 59, 3, 5), (5, .ifCond .eq 10, 3, 8), (8, .aload_n 0, 1, 9), (9, .getfield 28, 3, 12), (12, .goto 8, 3, 15), (15, .aload_n 0, 1, 16), (16, .iload_n 1, 1, 17), (17, .invokevirtual 49, 3, 20), (20, .istore_n 2, 1, 21), (21, .iload_n 2, 1, 22), (22, .aload_n 0, 1, 23), (23, .iload_n 1, 1, 24), (24, .invokevirtual 39, 3, 27), (27, .isub, 1, 28), (28, .ireturn, 1, 29)] := zDL.of (by decide +kernel)
section
variable {p : Program} {l : Launch} {e : Env} {s : State} {m : MethodId} {args : Array Value} {below : List Frame} {meth : Method} {c : Code} {G : zG} {top : Int} {L : zL} {fu : Nat}
theorem Wd_ageOf_b20_w (E : zEv p m c cX10_ageOf 3 s args RX10 meth (some .int) G) {res : Int} {M : zM} {x0 : Int} {x1 : Int} {y0 : Int} {H : Heap} {locs : List Loc} {ls : Array Slot} (hx0 : InR x0) (hx1 : InR x1) (hy0 : InR y0) (S : zS G top L M s H locs) (hl : zLV ls 3 [some (zR G.2.2.1 x0), some (.int (zO x1)), none]) (h : Wd_ageOf_b20 fu L M x0 x1 y0 = some res) : W p l e (zrm 2 0 0) s m args below meth c H locs 0 0 (MQ below (zQ G top L M (some (.int (zO res))) (InR res)) args s 0 0 (zA G)) (F0 m 20 ls [.int (zO y0)]) := by
  unfold Wd_ageOf_b20 at h
  refine u_ist_n (y := y0) (vs' := [some (zR G.2.2.1 x0), some (.int (zO x1)), some (.int (zO y0))]) E rfl (Wd_ageOf_dc.at 10 rfl) hl (by decide) rfl (fun ls hl => ?_)
  refine u_il_n (x := y0) E (Wd_ageOf_dc.at 11 rfl) hl rfl ?_
  refine u_al_n (x := x0) E (Wd_ageOf_dc.at 12 rfl) hl rfl ?_
  refine u_il_n (x := x1) E (Wd_ageOf_dc.at 13 rfl) hl rfl ?_
  obtain ⟨g6, h⟩ := ite_e h
  obtain ⟨r7, er7, h⟩ := bd1_e h
  refine u_cVI (As := [.int (zO x1)]) (rest := [.int (zO y0)]) E S zcw_yX10_bornIn zw_4_19 zw_4_20 zw_4_18 zck_10.1 rfl g6 (Wd_bornIn_c l G fu top L M x0 x1 hx0 hx1 er7) (zrm_ok (by decide) (by decide)) ⟨Nat.le_refl 0, Nat.le_refl 0⟩ rfl (by simp [zR_cat, zcat_I, zcat_J, zcat_S]) hl.size rfl (Wd_ageOf_dc.at 14 rfl) (fun H locs hr7 S8 => ?_)
  refine r_isub E (Wd_ageOf_dc.at 15 rfl) ?_
  cases h
  exact r_iret E S8 (inR_w32 _) (Wd_ageOf_dc.at 16 rfl)
theorem Wd_ageOf_w (E : zEv p m c cX10_ageOf 3 s args RX10 meth (some .int) G) {res : Int} {M : zM} {a0 : Int} {a1 : Int} {H : Heap} {locs : List Loc} {ls : Array Slot} (ha0 : InR a0) (ha1 : InR a1) (S : zS G top L M s H locs) (hl : zLV ls 3 [some (zR G.2.2.1 a0), some (.int (zO a1)), none]) (h : Wd_ageOf fu L M a0 a1 = some res) : W p l e (zrm 2 0 0) s m args below meth c H locs 0 0 (MQ below (zQ G top L M (some (.int (zO res))) (InR res)) args s 0 0 (zA G)) (F0 m 0 ls []) := by
  unfold Wd_ageOf at h
  refine u_al_n (x := a0) E (Wd_ageOf_dc.at 0 rfl) hl rfl ?_
  refine u_il_n (x := a1) E (Wd_ageOf_dc.at 1 rfl) hl rfl ?_
  obtain ⟨g1, h⟩ := ite_e h
  obtain ⟨r2, er2, h⟩ := bd1_e h
  refine u_cVI (As := [.int (zO a1)]) (rest := []) E S zcw_yX10_isAlive zw_4_146 zw_4_147 zw_4_145 zck_10.1 rfl g1 (Wd_isAlive_c l G fu top L M a0 a1 ha0 ha1 er2) (zrm_ok (by decide) (by decide)) ⟨Nat.le_refl 0, Nat.le_refl 0⟩ rfl (Nat.zero_le 8) hl.size rfl (Wd_ageOf_dc.at 2 rfl) (fun H locs hr2 S3 => ?_)
  refine r_if_eq (tgt := 15) E (inR_01 hr2) (Wd_ageOf_dc.at 3 rfl) (by decide) (fun q => ?_) (fun q => ?_)
  · have h := ite_t h q
    refine u_al_n (x := a0) E (Wd_ageOf_dc.at 7 rfl) hl rfl ?_
    refine u_il_n (x := a1) E (Wd_ageOf_dc.at 8 rfl) hl rfl ?_
    obtain ⟨r4, er4, h⟩ := bd1_e h
    refine u_cVI (As := [.int (zO a1)]) (rest := []) E S3 zcw_yX10_diedIn zw_4_27 zw_4_28 zw_4_26 zck_10.1 rfl g1 (Wd_diedIn_c l G fu top L M a0 a1 ha0 ha1 er4) (zrm_ok (by decide) (by decide)) ⟨Nat.le_refl 0, Nat.le_refl 0⟩ rfl (Nat.zero_le 8) hl.size rfl (Wd_ageOf_dc.at 9 rfl) (fun H locs hr4 S5 => ?_)
    exact Wd_ageOf_b20_w (x0 := a0) (x1 := a1) (y0 := r4) E ha0 ha1 hr4 S5 (hl.sub (And.intro rfl (And.intro rfl True.intro))) h
  · have h := ite_f h q
    refine u_al_n (x := a0) E (Wd_ageOf_dc.at 4 rfl) hl rfl ?_
    refine u_gI E zf_10_5 S3 g1 zw_1_199 (Wd_ageOf_dc.at 5 rfl) ?_
    refine r_goto (tgt := 20) E (Wd_ageOf_dc.at 6 rfl) (by decide) ?_
    exact Wd_ageOf_b20_w (x0 := a0) (x1 := a1) (y0 := (M a0 5)) E ha0 ha1 (S3.1.inR _ _) S3 (hl.sub (And.intro rfl (And.intro rfl True.intro))) h
theorem Wd_ageOf_c (l : Launch) (G : zG) (fu : Nat) (top : Int) (L : zL) (M : zM) (a0 : Int) (a1 : Int) {res : Int} (ha0 : InR a0) (ha1 : InR a1) (h : Wd_ageOf fu L M a0 a1 = some res) : Met l yX10_ageOf (Cond.code yX10_ageOf cX10_ageOf 3 (some .int) :: zTB) (zrm 2 0 0) (va_Pc [zR G.2.2.1 a0, .int (zO a1)] (zPre G top L M)) (zQ G top L M (some (.int (zO res))) (InR res)) 0 0 (zA G) :=
  z_met (by decide +kernel) (by simp [zR_cat, zcat_I, zcat_S]) (Nat.le_of_ble_eq_true rfl) fun p e s m below meth c ls E hn S hl => Wd_ageOf_w E ha0 ha1 S (hl.sub (And.intro rfl (And.intro rfl True.intro))) h
end
theorem Lx_death_dc : zDL cX11_death [(0, .aload_n 0, 1, 1), (1, .getfield 105, 3, 4), (4, .ifCond .eq 17, 3, 7), (7, .aload_n 0, 1, 8), (8, .getfield 42, 3, 11), (11, .getfield 124, 3, 14), (14, .iload_n 1, 1, 15), (15, .invokevirtual 168, 3, 18), (18, .goto 4, 3, 21), (21, .iconst 0, 1, 22), (22, .istore_n 2, 1, 23), (23, .iload_n 2, 1, 24), (24, .iconst (-1), 1, 25), (25, .if_icmp .eq 9, 3, 28), (28, .aload_n 0, 1, 29), (29, .iload_n 2, 1, 30), (30, .invokevirtual 130, 3, 33), (33, .ireturn, 1, 34), (34, .aload_n 0, 1, 35), (35, .getfield 52, 3, 38), (38, .aload_n 0, 1, 39), (39, .getfield 42, 3, 42), (42, .invokevirtual 136, 3, 45), (45, .aload_n 0, 1, 46), (46, .getfield 42, 3, 49), (49, .getfield 124, 3, 52), (52, .iload_n 1, 1, 53), (53, .invokevirtual 171, 3, 56), (56, .aload_n 0, 1, 57), (57, .getfield 42, 3, 60), (60, .getfield 124, 3, 63), (63, .iload_n 1, 1, 64), (64, .invokevirtual 174, 3, 67), (67, .ireturn, 1, 68)] := zDL.of (by decide +kernel)
section
variable {p : Program} {l : Launch} {e : Env} {s : State} {m : MethodId} {args : Array Value} {below : List Frame} {meth : Method} {c : Code} {G : zG} {top : Int} {L : zL} {fu : Nat}
theorem Lx_death_b22_w (E : zEv p m c cX11_death 3 s args RX11 meth (some .int) G) {res : (zM × Int)} {M : zM} {x0 : Int} {x1 : Int} {y0 : Int} {H : Heap} {locs : List Loc} {ls : Array Slot} (hx0 : InR x0) (hx1 : InR x1) (hy0 : InR y0) (S : zS G top L M s H locs) (hl : zLV ls 3 [some (zR G.2.2.1 x0), some (.int (zO x1)), none]) (h : Lx_death_b22 fu L M x0 x1 y0 = some res) : W p l e (zrm 6 0 0) s m args below meth c H locs 0 0 (MQ below (zQ G top L res.1 (some (.int (zO res.2))) (InR res.2)) args s 0 0 (zA G)) (F0 m 22 ls [.int (zO y0)]) := by
  unfold Lx_death_b22 at h
  refine u_ist_n (y := y0) (vs' := [some (zR G.2.2.1 x0), some (.int (zO x1)), some (.int (zO y0))]) E rfl (Lx_death_dc.at 10 rfl) hl (by decide) rfl (fun ls hl => ?_)
  refine u_il_n (x := y0) E (Lx_death_dc.at 11 rfl) hl rfl ?_
  refine r_iconst E (Lx_death_dc.at 12 rfl) ?_
  refine r_icmp_eq (tgt := 34) E hy0 (show InR (-1) by decide) (Lx_death_dc.at 13 rfl) (by decide) (fun q => ?_) (fun q => ?_)
  · have h := ite_t h q
    refine u_al_n (x := x0) E (Lx_death_dc.at 18 rfl) hl rfl ?_
    obtain ⟨g2, h⟩ := ite_e h
    refine u_gR E zf_11_6 S g2 zw_2_138 (Lx_death_dc.at 19 rfl) ?_
    refine u_al_n (x := x0) E (Lx_death_dc.at 20 rfl) hl rfl ?_
    refine u_gR E zf_11_4 S g2 zw_2_136 (Lx_death_dc.at 21 rfl) ?_
    obtain ⟨g3, h⟩ := ite_e h
    obtain ⟨M4, eM4, h⟩ := bd1_e h
    refine u_cVU (As := [zR G.2.2.1 (M x0 4)]) (rest := []) E S zcw_yX0_keep zw_4_2 zw_4_3 zw_4_1 zck_0.1 rfl g3 (Ac_keep_c l G fu top L M (M x0 6) (M x0 4) (S.1.inR _ _) (S.1.inR _ _) eM4) (zrm_ok (by decide) (by decide)) ⟨Nat.le_refl 0, Nat.le_refl 0⟩ rfl (Nat.zero_le 8) hl.size rfl (Lx_death_dc.at 22 rfl) (fun H locs _ S5 => ?_)
    refine u_al_n (x := x0) E (Lx_death_dc.at 23 rfl) hl rfl ?_
    refine u_gR E zf_11_4 S5 g2 zw_2_136 (Lx_death_dc.at 24 rfl) ?_
    obtain ⟨g6, h⟩ := ite_e h
    refine u_gR E zf_1_0 S5 g6 zw_1_222 (Lx_death_dc.at 25 rfl) ?_
    refine u_il_n (x := x1) E (Lx_death_dc.at 26 rfl) hl rfl ?_
    obtain ⟨g7, h⟩ := ite_e h
    obtain ⟨M8, eM8, h⟩ := bd1_e h
    refine u_cVU (As := [.int (zO x1)]) (rest := []) E S5 zcw_yX10_bury zw_4_159 zw_4_160 zw_4_158 zck_10.1 rfl g7 (Wd_bury_c l G fu top L M4 (M4 (M4 x0 4) 0) x1 (S5.1.inR _ _) hx1 eM8) (zrm_ok (by decide) (by decide)) ⟨Nat.le_refl 0, Nat.le_refl 0⟩ rfl (Nat.zero_le 8) hl.size rfl (Lx_death_dc.at 27 rfl) (fun H locs _ S9 => ?_)
    refine u_al_n (x := x0) E (Lx_death_dc.at 28 rfl) hl rfl ?_
    refine u_gR E zf_11_4 S9 g2 zw_2_136 (Lx_death_dc.at 29 rfl) ?_
    obtain ⟨g10, h⟩ := ite_e h
    refine u_gR E zf_1_0 S9 g10 zw_1_222 (Lx_death_dc.at 30 rfl) ?_
    refine u_il_n (x := x1) E (Lx_death_dc.at 31 rfl) hl rfl ?_
    obtain ⟨g11, h⟩ := ite_e h
    obtain ⟨r12, er12, h⟩ := bd1_e h
    refine u_cVI (As := [.int (zO x1)]) (rest := []) E S9 zcw_yX10_ageOf zw_4_163 zw_4_164 zw_4_162 zck_10.1 rfl g11 (Wd_ageOf_c l G fu top L M8 (M8 (M8 x0 4) 0) x1 (S9.1.inR _ _) hx1 er12) (zrm_ok (by decide) (by decide)) ⟨Nat.le_refl 0, Nat.le_refl 0⟩ rfl (Nat.zero_le 8) hl.size rfl (Lx_death_dc.at 32 rfl) (fun H locs hr12 S13 => ?_)
    cases h
    exact r_iret E S13 hr12 (Lx_death_dc.at 33 rfl)
  · have h := ite_f h q
    refine u_al_n (x := x0) E (Lx_death_dc.at 14 rfl) hl rfl ?_
    refine u_il_n (x := y0) E (Lx_death_dc.at 15 rfl) hl rfl ?_
    obtain ⟨g14, h⟩ := ite_e h
    obtain ⟨M16, r15, er15, h⟩ := bd2_e h
    refine u_cVI (As := [.int (zO y0)]) (rest := []) E S zcw_yX11_refused zw_3_239 zq_2_11 zw_3_237 zck_11.1 rfl g14 (Lx_refused_c l G fu top L M x0 y0 hx0 hy0 er15) (zrm_ok (by decide) (by decide)) ⟨Nat.le_refl 0, Nat.le_refl 0⟩ rfl (Nat.zero_le 8) hl.size rfl (Lx_death_dc.at 16 rfl) (fun H locs hr15 S17 => ?_)
    cases h
    exact r_iret E S17 hr15 (Lx_death_dc.at 17 rfl)
theorem Lx_death_w (E : zEv p m c cX11_death 3 s args RX11 meth (some .int) G) {res : (zM × Int)} {M : zM} {a0 : Int} {a1 : Int} {H : Heap} {locs : List Loc} {ls : Array Slot} (ha0 : InR a0) (ha1 : InR a1) (S : zS G top L M s H locs) (hl : zLV ls 3 [some (zR G.2.2.1 a0), some (.int (zO a1)), none]) (h : Lx_death fu L M a0 a1 = some res) : W p l e (zrm 6 0 0) s m args below meth c H locs 0 0 (MQ below (zQ G top L res.1 (some (.int (zO res.2))) (InR res.2)) args s 0 0 (zA G)) (F0 m 0 ls []) := by
  unfold Lx_death at h
  refine u_al_n (x := a0) E (Lx_death_dc.at 0 rfl) hl rfl ?_
  obtain ⟨g1, h⟩ := ite_e h
  refine u_gI E zf_11_11 S g1 zw_2_143 (Lx_death_dc.at 1 rfl) ?_
  refine r_if_eq (tgt := 21) E (S.1.inR _ _) (Lx_death_dc.at 2 rfl) (by decide) (fun q => ?_) (fun q => ?_)
  · have h := ite_t h q
    refine r_iconst E (Lx_death_dc.at 9 rfl) ?_
    exact Lx_death_b22_w (x0 := a0) (x1 := a1) (y0 := 0) E ha0 ha1 (show InR 0 by decide) S (hl.sub (And.intro rfl (And.intro rfl True.intro))) h
  · have h := ite_f h q
    refine u_al_n (x := a0) E (Lx_death_dc.at 3 rfl) hl rfl ?_
    refine u_gR E zf_11_4 S g1 zw_2_136 (Lx_death_dc.at 4 rfl) ?_
    obtain ⟨g18, h⟩ := ite_e h
    refine u_gR E zf_1_0 S g18 zw_1_222 (Lx_death_dc.at 5 rfl) ?_
    refine u_il_n (x := a1) E (Lx_death_dc.at 6 rfl) hl rfl ?_
    obtain ⟨g19, h⟩ := ite_e h
    obtain ⟨r20, er20, h⟩ := bd1_e h
    refine u_cVI (As := [.int (zO a1)]) (rest := []) E S zcw_yX10_whyNoDeath zw_4_155 zw_4_156 zw_4_154 zck_10.1 rfl g19 (Wd_whyNoDeath_c l G fu top L M (M (M a0 4) 0) a1 (S.1.inR _ _) ha1 er20) (zrm_ok (by decide) (by decide)) ⟨Nat.le_refl 0, Nat.le_refl 0⟩ rfl (Nat.zero_le 8) hl.size rfl (Lx_death_dc.at 7 rfl) (fun H locs hr20 S21 => ?_)
    refine r_goto (tgt := 22) E (Lx_death_dc.at 8 rfl) (by decide) ?_
    exact Lx_death_b22_w (x0 := a0) (x1 := a1) (y0 := r20) E ha0 ha1 hr20 S21 (hl.sub (And.intro rfl (And.intro rfl True.intro))) h
theorem Lx_death_c (l : Launch) (G : zG) (fu : Nat) (top : Int) (L : zL) (M : zM) (a0 : Int) (a1 : Int) {res : (zM × Int)} (ha0 : InR a0) (ha1 : InR a1) (h : Lx_death fu L M a0 a1 = some res) : Met l yX11_death (Cond.code yX11_death cX11_death 3 (some .int) :: zTB) (zrm 6 0 0) (va_Pc [zR G.2.2.1 a0, .int (zO a1)] (zPre G top L M)) (zQ G top L res.1 (some (.int (zO res.2))) (InR res.2)) 0 0 (zA G) :=
  z_met (by decide +kernel) (by simp [zR_cat, zcat_I, zcat_S]) (Nat.le_of_ble_eq_true rfl) fun p e s m below meth c ls E hn S hl => Lx_death_w E ha0 ha1 S (hl.sub (And.intro rfl (And.intro rfl True.intro))) h
end
theorem Lx_period_dc : zDL cX11_period [(0, .aload_n 0, 1, 1), (1, .getfield 105, 3, 4), (4, .ifCond .ne 9, 3, 7), (7, .aload_n 0, 1, 8), (8, .iconst 0, 1, 9), (9, .invokevirtual 130, 3, 12), (12, .ireturn, 1, 13), (13, .iload_n 1, 1, 14), (14, .ifCond .lt 9, 3, 17), (17, .iload_n 1, 1, 18), (18, .bipush 99, 2, 20), (20, .if_icmp .le 9, 3, 23), (23, .aload_n 0, 1, 24), (24, .iconst 2, 1, 25), (25, .invokevirtual 130, 3, 28), (28, .ireturn, 1, 29), (29, .aload_n 0, 1, 30), (30, .getfield 52, 3, 33), (33, .aload_n 0, 1, 34), (34, .getfield 42, 3, 37), (37, .invokevirtual 136, 3, 40), (40, .aload_n 0, 1, 41), (41, .getfield 42, 3, 44), (44, .getfield 177, 3, 47), (47, .istore_n 2, 1, 48), (48, .aload_n 0, 1, 49), (49, .getfield 42, 3, 52), (52, .iload_n 1, 1, 53), (53, .putfield 177, 3, 56), (56, .iload_n 2, 1, 57), (57, .ireturn, 1, 58)] := zDL.of (by decide +kernel)
section
variable {p : Program} {l : Launch} {e : Env} {s : State} {m : MethodId} {args : Array Value} {below : List Frame} {meth : Method} {c : Code} {G : zG} {top : Int} {L : zL} {fu : Nat}
theorem Lx_period_w (E : zEv p m c cX11_period 3 s args RX11 meth (some .int) G) {res : (zM × Int)} {M : zM} {a0 : Int} {a1 : Int} {H : Heap} {locs : List Loc} {ls : Array Slot} (ha0 : InR a0) (ha1 : InR a1) (S : zS G top L M s H locs) (hl : zLV ls 3 [some (zR G.2.2.1 a0), some (.int (zO a1)), none]) (h : Lx_period fu L M a0 a1 = some res) : W p l e (zrm 6 0 0) s m args below meth c H locs 0 0 (MQ below (zQ G top L res.1 (some (.int (zO res.2))) (InR res.2)) args s 0 0 (zA G)) (F0 m 0 ls []) := by
  unfold Lx_period at h
  refine u_al_n (x := a0) E (Lx_period_dc.at 0 rfl) hl rfl ?_
  obtain ⟨g1, h⟩ := ite_e h
  refine u_gI E zf_11_11 S g1 zw_2_143 (Lx_period_dc.at 1 rfl) ?_
  refine r_if_ne (tgt := 13) E (S.1.inR _ _) (Lx_period_dc.at 2 rfl) (by decide) (fun q => ?_) (fun q => ?_)
  · have h := ite_t h q
    refine u_al_n (x := a0) E (Lx_period_dc.at 3 rfl) hl rfl ?_
    refine r_iconst E (Lx_period_dc.at 4 rfl) ?_
    obtain ⟨M3, r2, er2, h⟩ := bd2_e h
    refine u_cVI (As := [.int (zO 0)]) (rest := []) E S zcw_yX11_refused zw_3_239 zq_2_11 zw_3_237 zck_11.1 rfl g1 (Lx_refused_c l G fu top L M a0 0 ha0 (show InR 0 by decide) er2) (zrm_ok (by decide) (by decide)) ⟨Nat.le_refl 0, Nat.le_refl 0⟩ rfl (Nat.zero_le 8) hl.size rfl (Lx_period_dc.at 5 rfl) (fun H locs hr2 S4 => ?_)
    cases h
    exact r_iret E S4 hr2 (Lx_period_dc.at 6 rfl)
  · have h := ite_f h q
    refine u_il_n (x := a1) E (Lx_period_dc.at 7 rfl) hl rfl ?_
    refine r_if_lt (tgt := 23) E ha1 (Lx_period_dc.at 8 rfl) (by decide) (fun q => ?_) (fun q => ?_)
    · have h := ite_t h q
      refine u_al_n (x := a0) E (Lx_period_dc.at 12 rfl) hl rfl ?_
      refine r_iconst E (Lx_period_dc.at 13 rfl) ?_
      obtain ⟨M6, r5, er5, h⟩ := bd2_e h
      refine u_cVI (As := [.int (zO 2)]) (rest := []) E S zcw_yX11_refused zw_3_239 zq_2_11 zw_3_237 zck_11.1 rfl g1 (Lx_refused_c l G fu top L M a0 2 ha0 (show InR 2 by decide) er5) (zrm_ok (by decide) (by decide)) ⟨Nat.le_refl 0, Nat.le_refl 0⟩ rfl (Nat.zero_le 8) hl.size rfl (Lx_period_dc.at 14 rfl) (fun H locs hr5 S7 => ?_)
      cases h
      exact r_iret E S7 hr5 (Lx_period_dc.at 15 rfl)
    · have h := ite_f h q
      refine u_il_n (x := a1) E (Lx_period_dc.at 9 rfl) hl rfl ?_
      refine r_bipush E (Lx_period_dc.at 10 rfl) rfl ?_
      refine r_icmp_le (tgt := 29) E ha1 (show InR 99 by decide) (Lx_period_dc.at 11 rfl) (by decide) (fun q => ?_) (fun q => ?_)
      · have h := ite_t h q
        refine u_al_n (x := a0) E (Lx_period_dc.at 12 rfl) hl rfl ?_
        refine r_iconst E (Lx_period_dc.at 13 rfl) ?_
        obtain ⟨M9, r8, er8, h⟩ := bd2_e h
        refine u_cVI (As := [.int (zO 2)]) (rest := []) E S zcw_yX11_refused zw_3_239 zq_2_11 zw_3_237 zck_11.1 rfl g1 (Lx_refused_c l G fu top L M a0 2 ha0 (show InR 2 by decide) er8) (zrm_ok (by decide) (by decide)) ⟨Nat.le_refl 0, Nat.le_refl 0⟩ rfl (Nat.zero_le 8) hl.size rfl (Lx_period_dc.at 14 rfl) (fun H locs hr8 S10 => ?_)
        cases h
        exact r_iret E S10 hr8 (Lx_period_dc.at 15 rfl)
      · have h := ite_f h q
        refine u_al_n (x := a0) E (Lx_period_dc.at 16 rfl) hl rfl ?_
        refine u_gR E zf_11_6 S g1 zw_2_138 (Lx_period_dc.at 17 rfl) ?_
        refine u_al_n (x := a0) E (Lx_period_dc.at 18 rfl) hl rfl ?_
        refine u_gR E zf_11_4 S g1 zw_2_136 (Lx_period_dc.at 19 rfl) ?_
        obtain ⟨g11, h⟩ := ite_e h
        obtain ⟨M12, eM12, h⟩ := bd1_e h
        refine u_cVU (As := [zR G.2.2.1 (M a0 4)]) (rest := []) E S zcw_yX0_keep zw_4_2 zw_4_3 zw_4_1 zck_0.1 rfl g11 (Ac_keep_c l G fu top L M (M a0 6) (M a0 4) (S.1.inR _ _) (S.1.inR _ _) eM12) (zrm_ok (by decide) (by decide)) ⟨Nat.le_refl 0, Nat.le_refl 0⟩ rfl (Nat.zero_le 8) hl.size rfl (Lx_period_dc.at 20 rfl) (fun H locs _ S13 => ?_)
        refine u_al_n (x := a0) E (Lx_period_dc.at 21 rfl) hl rfl ?_
        refine u_gR E zf_11_4 S13 g1 zw_2_136 (Lx_period_dc.at 22 rfl) ?_
        obtain ⟨g14, h⟩ := ite_e h
        refine u_gI E zf_1_3 S13 g14 zw_1_229 (Lx_period_dc.at 23 rfl) ?_
        obtain ⟨v15, ev15, h⟩ := lt1_e h
        have hv15 := inR_eq ev15 (S13.1.inR _ _)
        refine u_ist_n (y := v15) (vs' := [some (zR G.2.2.1 a0), some (.int (zO a1)), some (.int (zO v15))]) E ev15 (Lx_period_dc.at 24 rfl) hl (by decide) rfl (fun ls hl => ?_)
        refine u_al_n (x := a0) E (Lx_period_dc.at 25 rfl) hl rfl ?_
        refine u_gR E zf_11_4 S13 g1 zw_2_136 (Lx_period_dc.at 26 rfl) ?_
        refine u_il_n (x := a1) E (Lx_period_dc.at 27 rfl) hl rfl ?_
        obtain ⟨M16, eM16, h⟩ := lt1_e h
        refine u_pI E eM16 zf_1_3 S13 g14 ha1 (Or.inl rfl) rfl zw_1_229 (Lx_period_dc.at 28 rfl) (fun H locs S17 => ?_)
        refine u_il_n (x := v15) E (Lx_period_dc.at 29 rfl) hl rfl ?_
        cases h
        exact r_iret E S17 hv15 (Lx_period_dc.at 30 rfl)
theorem Lx_period_c (l : Launch) (G : zG) (fu : Nat) (top : Int) (L : zL) (M : zM) (a0 : Int) (a1 : Int) {res : (zM × Int)} (ha0 : InR a0) (ha1 : InR a1) (h : Lx_period fu L M a0 a1 = some res) : Met l yX11_period (Cond.code yX11_period cX11_period 3 (some .int) :: zTB) (zrm 6 0 0) (va_Pc [zR G.2.2.1 a0, .int (zO a1)] (zPre G top L M)) (zQ G top L res.1 (some (.int (zO res.2))) (InR res.2)) 0 0 (zA G) :=
  z_met (by decide +kernel) (by simp [zR_cat, zcat_I, zcat_S]) (Nat.le_of_ble_eq_true rfl) fun p e s m below meth c ls E hn S hl => Lx_period_w E ha0 ha1 S (hl.sub (And.intro rfl (And.intro rfl True.intro))) h
end
theorem Lx_limit_dc : zDL cX11_limit [(0, .aload_n 0, 1, 1), (1, .getfield 105, 3, 4), (4, .ifCond .ne 9, 3, 7), (7, .aload_n 0, 1, 8), (8, .iconst 0, 1, 9), (9, .invokevirtual 130, 3, 12), (12, .ireturn, 1, 13), (13, .iload_n 1, 1, 14), (14, .bipush 13, 2, 16), (16, .if_icmp .lt 9, 3, 19), (19, .iload_n 1, 1, 20), (20, .bipush 99, 2, 22), (22, .if_icmp .le 9, 3, 25), (25, .aload_n 0, 1, 26), (26, .iconst 2, 1, 27), (27, .invokevirtual 130, 3, 30), (30, .ireturn, 1, 31), (31, .aload_n 0, 1, 32), (32, .getfield 52, 3, 35), (35, .aload_n 0, 1, 36), (36, .getfield 42, 3, 39), (39, .invokevirtual 136, 3, 42), (42, .aload_n 0, 1, 43), (43, .getfield 42, 3, 46), (46, .getfield 180, 3, 49), (49, .istore_n 2, 1, 50), (50, .aload_n 0, 1, 51), (51, .getfield 42, 3, 54), (54, .iload_n 1, 1, 55), (55, .putfield 180, 3, 58), (58, .iload_n 2, 1, 59), (59, .ireturn, 1, 60)] := zDL.of (by decide +kernel)
section
variable {p : Program} {l : Launch} {e : Env} {s : State} {m : MethodId} {args : Array Value} {below : List Frame} {meth : Method} {c : Code} {G : zG} {top : Int} {L : zL} {fu : Nat}
theorem Lx_limit_w (E : zEv p m c cX11_limit 3 s args RX11 meth (some .int) G) {res : (zM × Int)} {M : zM} {a0 : Int} {a1 : Int} {H : Heap} {locs : List Loc} {ls : Array Slot} (ha0 : InR a0) (ha1 : InR a1) (S : zS G top L M s H locs) (hl : zLV ls 3 [some (zR G.2.2.1 a0), some (.int (zO a1)), none]) (h : Lx_limit fu L M a0 a1 = some res) : W p l e (zrm 6 0 0) s m args below meth c H locs 0 0 (MQ below (zQ G top L res.1 (some (.int (zO res.2))) (InR res.2)) args s 0 0 (zA G)) (F0 m 0 ls []) := by
  unfold Lx_limit at h
  refine u_al_n (x := a0) E (Lx_limit_dc.at 0 rfl) hl rfl ?_
  obtain ⟨g1, h⟩ := ite_e h
  refine u_gI E zf_11_11 S g1 zw_2_143 (Lx_limit_dc.at 1 rfl) ?_
  refine r_if_ne (tgt := 13) E (S.1.inR _ _) (Lx_limit_dc.at 2 rfl) (by decide) (fun q => ?_) (fun q => ?_)
  · have h := ite_t h q
    refine u_al_n (x := a0) E (Lx_limit_dc.at 3 rfl) hl rfl ?_
    refine r_iconst E (Lx_limit_dc.at 4 rfl) ?_
    obtain ⟨M3, r2, er2, h⟩ := bd2_e h
    refine u_cVI (As := [.int (zO 0)]) (rest := []) E S zcw_yX11_refused zw_3_239 zq_2_11 zw_3_237 zck_11.1 rfl g1 (Lx_refused_c l G fu top L M a0 0 ha0 (show InR 0 by decide) er2) (zrm_ok (by decide) (by decide)) ⟨Nat.le_refl 0, Nat.le_refl 0⟩ rfl (Nat.zero_le 8) hl.size rfl (Lx_limit_dc.at 5 rfl) (fun H locs hr2 S4 => ?_)
    cases h
    exact r_iret E S4 hr2 (Lx_limit_dc.at 6 rfl)
  · have h := ite_f h q
    refine u_il_n (x := a1) E (Lx_limit_dc.at 7 rfl) hl rfl ?_
    refine r_bipush E (Lx_limit_dc.at 8 rfl) rfl ?_
    refine r_icmp_lt (tgt := 25) E ha1 (show InR 13 by decide) (Lx_limit_dc.at 9 rfl) (by decide) (fun q => ?_) (fun q => ?_)
    · have h := ite_t h q
      refine u_al_n (x := a0) E (Lx_limit_dc.at 13 rfl) hl rfl ?_
      refine r_iconst E (Lx_limit_dc.at 14 rfl) ?_
      obtain ⟨M6, r5, er5, h⟩ := bd2_e h
      refine u_cVI (As := [.int (zO 2)]) (rest := []) E S zcw_yX11_refused zw_3_239 zq_2_11 zw_3_237 zck_11.1 rfl g1 (Lx_refused_c l G fu top L M a0 2 ha0 (show InR 2 by decide) er5) (zrm_ok (by decide) (by decide)) ⟨Nat.le_refl 0, Nat.le_refl 0⟩ rfl (Nat.zero_le 8) hl.size rfl (Lx_limit_dc.at 15 rfl) (fun H locs hr5 S7 => ?_)
      cases h
      exact r_iret E S7 hr5 (Lx_limit_dc.at 16 rfl)
    · have h := ite_f h q
      refine u_il_n (x := a1) E (Lx_limit_dc.at 10 rfl) hl rfl ?_
      refine r_bipush E (Lx_limit_dc.at 11 rfl) rfl ?_
      refine r_icmp_le (tgt := 31) E ha1 (show InR 99 by decide) (Lx_limit_dc.at 12 rfl) (by decide) (fun q => ?_) (fun q => ?_)
      · have h := ite_t h q
        refine u_al_n (x := a0) E (Lx_limit_dc.at 13 rfl) hl rfl ?_
        refine r_iconst E (Lx_limit_dc.at 14 rfl) ?_
        obtain ⟨M9, r8, er8, h⟩ := bd2_e h
        refine u_cVI (As := [.int (zO 2)]) (rest := []) E S zcw_yX11_refused zw_3_239 zq_2_11 zw_3_237 zck_11.1 rfl g1 (Lx_refused_c l G fu top L M a0 2 ha0 (show InR 2 by decide) er8) (zrm_ok (by decide) (by decide)) ⟨Nat.le_refl 0, Nat.le_refl 0⟩ rfl (Nat.zero_le 8) hl.size rfl (Lx_limit_dc.at 15 rfl) (fun H locs hr8 S10 => ?_)
        cases h
        exact r_iret E S10 hr8 (Lx_limit_dc.at 16 rfl)
      · have h := ite_f h q
        refine u_al_n (x := a0) E (Lx_limit_dc.at 17 rfl) hl rfl ?_
        refine u_gR E zf_11_6 S g1 zw_2_138 (Lx_limit_dc.at 18 rfl) ?_
        refine u_al_n (x := a0) E (Lx_limit_dc.at 19 rfl) hl rfl ?_
        refine u_gR E zf_11_4 S g1 zw_2_136 (Lx_limit_dc.at 20 rfl) ?_
        obtain ⟨g11, h⟩ := ite_e h
        obtain ⟨M12, eM12, h⟩ := bd1_e h
        refine u_cVU (As := [zR G.2.2.1 (M a0 4)]) (rest := []) E S zcw_yX0_keep zw_4_2 zw_4_3 zw_4_1 zck_0.1 rfl g11 (Ac_keep_c l G fu top L M (M a0 6) (M a0 4) (S.1.inR _ _) (S.1.inR _ _) eM12) (zrm_ok (by decide) (by decide)) ⟨Nat.le_refl 0, Nat.le_refl 0⟩ rfl (Nat.zero_le 8) hl.size rfl (Lx_limit_dc.at 21 rfl) (fun H locs _ S13 => ?_)
        refine u_al_n (x := a0) E (Lx_limit_dc.at 22 rfl) hl rfl ?_
        refine u_gR E zf_11_4 S13 g1 zw_2_136 (Lx_limit_dc.at 23 rfl) ?_
        obtain ⟨g14, h⟩ := ite_e h
        refine u_gI E zf_1_4 S13 g14 zw_1_232 (Lx_limit_dc.at 24 rfl) ?_
        obtain ⟨v15, ev15, h⟩ := lt1_e h
        have hv15 := inR_eq ev15 (S13.1.inR _ _)
        refine u_ist_n (y := v15) (vs' := [some (zR G.2.2.1 a0), some (.int (zO a1)), some (.int (zO v15))]) E ev15 (Lx_limit_dc.at 25 rfl) hl (by decide) rfl (fun ls hl => ?_)
        refine u_al_n (x := a0) E (Lx_limit_dc.at 26 rfl) hl rfl ?_
        refine u_gR E zf_11_4 S13 g1 zw_2_136 (Lx_limit_dc.at 27 rfl) ?_
        refine u_il_n (x := a1) E (Lx_limit_dc.at 28 rfl) hl rfl ?_
        obtain ⟨M16, eM16, h⟩ := lt1_e h
        refine u_pI E eM16 zf_1_4 S13 g14 ha1 (Or.inl rfl) rfl zw_1_232 (Lx_limit_dc.at 29 rfl) (fun H locs S17 => ?_)
        refine u_il_n (x := v15) E (Lx_limit_dc.at 30 rfl) hl rfl ?_
        cases h
        exact r_iret E S17 hv15 (Lx_limit_dc.at 31 rfl)
theorem Lx_limit_c (l : Launch) (G : zG) (fu : Nat) (top : Int) (L : zL) (M : zM) (a0 : Int) (a1 : Int) {res : (zM × Int)} (ha0 : InR a0) (ha1 : InR a1) (h : Lx_limit fu L M a0 a1 = some res) : Met l yX11_limit (Cond.code yX11_limit cX11_limit 3 (some .int) :: zTB) (zrm 6 0 0) (va_Pc [zR G.2.2.1 a0, .int (zO a1)] (zPre G top L M)) (zQ G top L res.1 (some (.int (zO res.2))) (InR res.2)) 0 0 (zA G) :=
  z_met (by decide +kernel) (by simp [zR_cat, zcat_I, zcat_S]) (Nat.le_of_ble_eq_true rfl) fun p e s m below meth c ls E hn S hl => Lx_limit_w E ha0 ha1 S (hl.sub (And.intro rfl (And.intro rfl True.intro))) h
end
theorem Wd_livingLives_dc : zDL cX10_livingLives [(0, .iconst 0, 1, 1), (1, .istore_n 1, 1, 2), (2, .iconst 0, 1, 3), (3, .istore_n 2, 1, 4), (4, .iload_n 2, 1, 5), (5, .aload_n 0, 1, 6), (6, .getfield 21, 3, 9), (9, .if_icmp .ge 23, 3, 12), (12, .aload_n 0, 1, 13), (13, .iload_n 2, 1, 14), (14, .invokevirtual 59, 3, 17), (17, .ifCond .eq 9, 3, 20), (20, .iload_n 1, 1, 21), (21, .iconst 1, 1, 22), (22, .iload_n 2, 1, 23), (23, .ishl, 1, 24), (24, .ior, 1, 25), (25, .istore_n 1, 1, 26), (26, .iinc 2 1, 3, 29), (29, .goto (-25), 3, 32), (32, .iload_n 1, 1, 33), (33, .ireturn, 1, 34)] := zDL.of (by decide +kernel)
section
variable {p : Program} {l : Launch} {e : Env} {s : State} {m : MethodId} {args : Array Value} {below : List Frame} {meth : Method} {c : Code} {G : zG} {top : Int} {L : zL} {fu : Nat}
theorem Wd_livingLives_s4_w (E : zEv p m c cX10_livingLives 3 s args RX10 meth (some .int) G) {res : Int} {k4 : zM → Int → Int → Int → Option Int} (hk4 : ∀ (M : zM) (x0 : Int) (x1 : Int) (x2 : Int), InR x0 → InR x1 → InR x2 → ∀ (H : Heap) (locs : List Loc) (ls : Array Slot), zS G top L M s H locs → zLV ls 3 [some (zR G.2.2.1 x0), some (.int (zO x1)), some (.int (zO x2))] → k4 M x0 x1 x2 = some res → W p l e (zrm 2 0 0) s m args below meth c H locs 0 0 (MQ below (zQ G top L M (some (.int (zO res))) (InR res)) args s 0 0 (zA G)) (F0 m 4 ls [])) {M : zM} {x0 : Int} {x1 : Int} {x2 : Int} {H : Heap} {locs : List Loc} {ls : Array Slot} (hx0 : InR x0) (hx1 : InR x1) (hx2 : InR x2) (S : zS G top L M s H locs) (hl : zLV ls 3 [some (zR G.2.2.1 x0), some (.int (zO x1)), some (.int (zO x2))]) (h : Wd_livingLives_s4 fu k4 L M x0 x1 x2 = some res) : W p l e (zrm 2 0 0) s m args below meth c H locs 0 0 (MQ below (zQ G top L M (some (.int (zO res))) (InR res)) args s 0 0 (zA G)) (F0 m 4 ls []) := by
  unfold Wd_livingLives_s4 at h
  refine u_il_n (x := x2) E (Wd_livingLives_dc.at 4 rfl) hl rfl ?_
  refine u_al_n (x := x0) E (Wd_livingLives_dc.at 5 rfl) hl rfl ?_
  obtain ⟨g1, h⟩ := ite_e h
  refine u_gI E zf_10_3 S g1 zw_1_193 (Wd_livingLives_dc.at 6 rfl) ?_
  refine r_icmp_ge (tgt := 32) E hx2 (S.1.inR _ _) (Wd_livingLives_dc.at 7 rfl) (by decide) (fun q => ?_) (fun q => ?_)
  · have h := ite_t h q
    refine u_al_n (x := x0) E (Wd_livingLives_dc.at 8 rfl) hl rfl ?_
    refine u_il_n (x := x2) E (Wd_livingLives_dc.at 9 rfl) hl rfl ?_
    obtain ⟨r2, er2, h⟩ := bd1_e h
    refine u_cVI (As := [.int (zO x2)]) (rest := []) E S zcw_yX10_isAlive zw_4_146 zw_4_147 zw_4_145 zck_10.1 rfl g1 (Wd_isAlive_c l G fu top L M x0 x2 hx0 hx2 er2) (zrm_ok (by decide) (by decide)) ⟨Nat.le_refl 0, Nat.le_refl 0⟩ rfl (Nat.zero_le 8) hl.size rfl (Wd_livingLives_dc.at 10 rfl) (fun H locs hr2 S3 => ?_)
    refine r_if_eq (tgt := 26) E (inR_01 hr2) (Wd_livingLives_dc.at 11 rfl) (by decide) (fun q => ?_) (fun q => ?_)
    · have h := ite_t h q
      obtain ⟨v4, ev4, h⟩ := lt1_e h
      have hv4 := inR_eq ev4 (inR_w32 _)
      refine u_iinc (y := v4) (vs' := [some (zR G.2.2.1 x0), some (.int (zO x1)), some (.int (zO v4))]) E ev4 (Wd_livingLives_dc.at 18 rfl) hl rfl (by decide) rfl (fun ls hl => ?_)
      refine r_goto (tgt := 4) E (Wd_livingLives_dc.at 19 rfl) (by decide) ?_
      exact hk4 _ x0 x1 v4 hx0 hx1 hv4 _ _ _ S3 (hl.sub (And.intro rfl (And.intro rfl (And.intro rfl True.intro)))) h
    · have h := ite_f h q
      refine u_il_n (x := x1) E (Wd_livingLives_dc.at 12 rfl) hl rfl ?_
      refine r_iconst E (Wd_livingLives_dc.at 13 rfl) ?_
      refine u_il_n (x := x2) E (Wd_livingLives_dc.at 14 rfl) hl rfl ?_
      refine r_ishl E (Wd_livingLives_dc.at 15 rfl) ?_
      refine r_ior E (Wd_livingLives_dc.at 16 rfl) ?_
      obtain ⟨v5, ev5, h⟩ := lt1_e h
      have hv5 := inR_eq ev5 (inR_ior _ _)
      refine u_ist_n (y := v5) (vs' := [some (zR G.2.2.1 x0), some (.int (zO v5)), some (.int (zO x2))]) E ev5 (Wd_livingLives_dc.at 17 rfl) hl (by decide) rfl (fun ls hl => ?_)
      obtain ⟨v6, ev6, h⟩ := lt1_e h
      have hv6 := inR_eq ev6 (inR_w32 _)
      refine u_iinc (y := v6) (vs' := [some (zR G.2.2.1 x0), some (.int (zO v5)), some (.int (zO v6))]) E ev6 (Wd_livingLives_dc.at 18 rfl) hl rfl (by decide) rfl (fun ls hl => ?_)
      refine r_goto (tgt := 4) E (Wd_livingLives_dc.at 19 rfl) (by decide) ?_
      exact hk4 _ x0 v5 v6 hx0 hv5 hv6 _ _ _ S3 (hl.sub (And.intro rfl (And.intro rfl (And.intro rfl True.intro)))) h
  · have h := ite_f h q
    refine u_il_n (x := x1) E (Wd_livingLives_dc.at 20 rfl) hl rfl ?_
    cases h
    exact r_iret E S hx1 (Wd_livingLives_dc.at 21 rfl)
theorem Wd_livingLives_l4_w (E : zEv p m c cX10_livingLives 3 s args RX10 meth (some .int) G) {res : Int} : ∀ (n : Nat) (M : zM) (x0 : Int) (x1 : Int) (x2 : Int), InR x0 → InR x1 → InR x2 → ∀ (H : Heap) (locs : List Loc) (ls : Array Slot), zS G top L M s H locs → zLV ls 3 [some (zR G.2.2.1 x0), some (.int (zO x1)), some (.int (zO x2))] → Wd_livingLives_l4 fu L n M x0 x1 x2 = some res → W p l e (zrm 2 0 0) s m args below meth c H locs 0 0 (MQ below (zQ G top L M (some (.int (zO res))) (InR res)) args s 0 0 (zA G)) (F0 m 4 ls [])
  | 0, _, _, _, _ => fun _ _ _ _ _ _ _ _ h => (by cases h)
  | n + 1, M, x0, x1, x2 => fun hx0 hx1 hx2 H locs ls S hl h => Wd_livingLives_s4_w E (fun M x0 x1 x2 hx0 hx1 hx2 H locs ls S hl h => Wd_livingLives_l4_w E n M x0 x1 x2 hx0 hx1 hx2 H locs ls S hl h) hx0 hx1 hx2 S hl h
theorem Wd_livingLives_w (E : zEv p m c cX10_livingLives 3 s args RX10 meth (some .int) G) {res : Int} {M : zM} {a0 : Int} {H : Heap} {locs : List Loc} {ls : Array Slot} (ha0 : InR a0) (S : zS G top L M s H locs) (hl : zLV ls 3 [some (zR G.2.2.1 a0), none, none]) (h : Wd_livingLives fu L M a0 = some res) : W p l e (zrm 2 0 0) s m args below meth c H locs 0 0 (MQ below (zQ G top L M (some (.int (zO res))) (InR res)) args s 0 0 (zA G)) (F0 m 0 ls []) := by
  unfold Wd_livingLives at h
  refine r_iconst E (Wd_livingLives_dc.at 0 rfl) ?_
  refine u_ist_n (y := 0) (vs' := [some (zR G.2.2.1 a0), some (.int (zO 0)), none]) E rfl (Wd_livingLives_dc.at 1 rfl) hl (by decide) rfl (fun ls hl => ?_)
  refine r_iconst E (Wd_livingLives_dc.at 2 rfl) ?_
  refine u_ist_n (y := 0) (vs' := [some (zR G.2.2.1 a0), some (.int (zO 0)), some (.int (zO 0))]) E rfl (Wd_livingLives_dc.at 3 rfl) hl (by decide) rfl (fun ls hl => ?_)
  exact Wd_livingLives_l4_w E fu _ a0 0 0 ha0 (show InR 0 by decide) (show InR 0 by decide) _ _ _ S (hl.sub (And.intro rfl (And.intro rfl (And.intro rfl True.intro)))) h
theorem Wd_livingLives_c (l : Launch) (G : zG) (fu : Nat) (top : Int) (L : zL) (M : zM) (a0 : Int) {res : Int} (ha0 : InR a0) (h : Wd_livingLives fu L M a0 = some res) : Met l yX10_livingLives (Cond.code yX10_livingLives cX10_livingLives 3 (some .int) :: zTB) (zrm 2 0 0) (va_Pc [zR G.2.2.1 a0] (zPre G top L M)) (zQ G top L M (some (.int (zO res))) (InR res)) 0 0 (zA G) :=
  z_met (by decide +kernel) (by simp [zR_cat, zcat_I, zcat_S]) (Nat.le_of_ble_eq_true rfl) fun p e s m below meth c ls E hn S hl => Wd_livingLives_w E ha0 S (hl.sub (And.intro rfl True.intro)) h
end
