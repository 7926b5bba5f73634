theorem Tr_soonestOf_dc : zDL cX8_soonestOf [(0, .aload_n 0, 1, 1), (1, .getfield 28, 3, 4), (4, .aload_n 0, 1, 5), (5, .getfield 12, 3, 8), (8, .iload_n 1, 1, 9), (9, .iload_n 2, 1, 10), (10, .invokevirtual 119, 3, 13), (13, .ireturn, 1, 14)] := zDL.of (by decide +kernel)
section
variable {p : Program} {l : Launch} {e : Env} {s : State} {m : MethodId} {args : Array Value} {below : List Frame} {meth : Method} {c : Code} {G : zG} {top : Int} {L : zL} {fu : Nat}
theorem Tr_soonestOf_w (E : zEv p m c cX8_soonestOf 3 s args RX8 meth (some .int) G) {res : (zM × Int)} {M : zM} {a0 : Int} {a1 : Int} {a2 : Int} {H : Heap} {locs : List Loc} {ls : Array Slot} (ha0 : InR a0) (ha1 : InR a1) (ha2 : InR a2) (S : zS G top L M s H locs) (hl : zLV ls 3 [some (zR G.2.2.1 a0), some (.int (zO a1)), some (.int (zO a2))]) (h : Tr_soonestOf fu L M a0 a1 a2 = some res) : W p l e (zrm 4 0 0) s m args below meth c H locs 0 0 (MQ below (zQ G top L res.1 (some (.int (zO res.2))) (InR res.2)) args s 0 0 (zA G)) (F0 m 0 ls []) := by
  unfold Tr_soonestOf at h
  refine u_al_n (x := a0) E (Tr_soonestOf_dc.at 0 rfl) hl rfl ?_
  obtain ⟨g1, h⟩ := ite_e h
  refine u_gR E zf_8_0 S g1 zw_2_95 (Tr_soonestOf_dc.at 1 rfl) ?_
  refine u_al_n (x := a0) E (Tr_soonestOf_dc.at 2 rfl) hl rfl ?_
  refine u_gR E zf_8_1 S g1 zw_2_96 (Tr_soonestOf_dc.at 3 rfl) ?_
  refine u_il_n (x := a1) E (Tr_soonestOf_dc.at 4 rfl) hl rfl ?_
  refine u_il_n (x := a2) E (Tr_soonestOf_dc.at 5 rfl) hl rfl ?_
  obtain ⟨g2, h⟩ := ite_e h
  obtain ⟨M4, r3, er3, h⟩ := bd2_e h
  refine u_cVI (As := [zR G.2.2.1 (M a0 1), .int (zO a1), .int (zO a2)]) (rest := []) E S zcw_yX5_soonestYear zw_5_213 zw_5_214 zw_5_212 zck_5.1 rfl g2 (Rk_soonestYear_c l G fu top L M (M a0 0) (M a0 1) a1 a2 (S.1.inR _ _) (S.1.inR _ _) ha1 ha2 er3) (zrm_ok (by decide) (by decide)) ⟨Nat.le_refl 0, Nat.le_refl 0⟩ rfl (Nat.zero_le 8) hl.size rfl (Tr_soonestOf_dc.at 6 rfl) (fun H locs hr3 S5 => ?_)
  cases h
  exact r_iret E S5 hr3 (Tr_soonestOf_dc.at 7 rfl)
theorem Tr_soonestOf_c (l : Launch) (G : zG) (fu : Nat) (top : Int) (L : zL) (M : zM) (a0 : Int) (a1 : Int) (a2 : Int) {res : (zM × Int)} (ha0 : InR a0) (ha1 : InR a1) (ha2 : InR a2) (h : Tr_soonestOf fu L M a0 a1 a2 = some res) : Met l yX8_soonestOf (Cond.code yX8_soonestOf cX8_soonestOf 3 (some .int) :: zTB) (zrm 4 0 0) (va_Pc [zR G.2.2.1 a0, .int (zO a1), .int (zO a2)] (zPre G top L M)) (zQ G top L res.1 (some (.int (zO res.2))) (InR res.2)) 0 0 (zA G) :=
  z_met (by decide +kernel) (by simp [zR_cat, zcat_I, zcat_S]) (Nat.le_of_ble_eq_true rfl) fun p e s m below meth c ls E hn S hl => Tr_soonestOf_w E ha0 ha1 ha2 S (hl.sub (And.intro rfl (And.intro rfl (And.intro rfl True.intro)))) h
end
theorem Lx_soonest_dc : zDL cX11_soonest [(0, .aload_n 0, 1, 1), (1, .iload_n 1, 1, 2), (2, .iload_n 2, 1, 3), (3, .iload_n 3, 1, 4), (4, .invokevirtual 275, 3, 7), (7, .ifCond .ne 6, 3, 10), (10, .ldc 235, 2, 12), (12, .ireturn, 1, 13), (13, .aload_n 0, 1, 14), (14, .getfield 78, 3, 17), (17, .iload_n 2, 1, 18), (18, .iload_n 3, 1, 19), (19, .invokevirtual 282, 3, 22), (22, .ifCond .eq 15, 3, 25), (25, .aload_n 0, 1, 26), (26, .getfield 78, 3, 29), (29, .iload_n 2, 1, 30), (30, .iload_n 3, 1, 31), (31, .invokevirtual 290, 3, 34), (34, .goto 4, 3, 37), (37, .iconst (-1), 1, 38), (38, .ireturn, 1, 39)] := zDL.of (by decide +kernel)
section
variable {p : Program} {l : Launch} {e : Env} {s : State} {m : MethodId} {args : Array Value} {below : List Frame} {meth : Method} {c : Code} {G : zG} {top : Int} {L : zL} {fu : Nat}
theorem Lx_soonest_w (E : zEv p m c cX11_soonest 4 s args RX11 meth (some .int) G) {res : (zM × Int)} {M : zM} {a0 : Int} {a1 : Int} {a2 : Int} {a3 : Int} {H : Heap} {locs : List Loc} {ls : Array Slot} (ha0 : InR a0) (ha1 : InR a1) (ha2 : InR a2) (ha3 : InR a3) (S : zS G top L M s H locs) (hl : zLV ls 4 [some (zR G.2.2.1 a0), some (.int (zO a1)), some (.int (zO a2)), some (.int (zO a3))]) (h : Lx_soonest fu L M a0 a1 a2 a3 = some res) : W p l e (zrm 8 0 0) s m args below meth c H locs 0 0 (MQ below (zQ G top L res.1 (some (.int (zO res.2))) (InR res.2)) args s 0 0 (zA G)) (F0 m 0 ls []) := by
  unfold Lx_soonest at h
  refine u_al_n (x := a0) E (Lx_soonest_dc.at 0 rfl) hl rfl ?_
  refine u_il_n (x := a1) E (Lx_soonest_dc.at 1 rfl) hl rfl ?_
  refine u_il_n (x := a2) E (Lx_soonest_dc.at 2 rfl) hl rfl ?_
  refine u_il_n (x := a3) E (Lx_soonest_dc.at 3 rfl) hl rfl ?_
  obtain ⟨g1, h⟩ := ite_e h
  obtain ⟨M3, r2, er2, h⟩ := bd2_e h
  refine u_cVI (As := [.int (zO a1), .int (zO a2), .int (zO a3)]) (rest := []) E S zcw_yX11_tryMember zw_5_192 zq_3_6 zw_5_190 zck_11.1 rfl g1 (Lx_tryMember_c l G fu top L M a0 a1 a2 a3 ha0 ha1 ha2 ha3 er2) (zrm_ok (by decide) (by decide)) ⟨Nat.le_refl 0, Nat.le_refl 0⟩ rfl (Nat.zero_le 8) hl.size rfl (Lx_soonest_dc.at 4 rfl) (fun H locs hr2 S4 => ?_)
  refine r_if_ne (tgt := 13) E (inR_01 hr2) (Lx_soonest_dc.at 5 rfl) (by decide) (fun q => ?_) (fun q => ?_)
  · have h := ite_t h q
    refine r_ldc (n := (-1000000)) E (Lx_soonest_dc.at 6 rfl) zw_5_42 rfl ?_
    cases h
    exact r_iret E S4 (show InR (-1000000) by decide) (Lx_soonest_dc.at 7 rfl)
  · have h := ite_f h q
    refine u_al_n (x := a0) E (Lx_soonest_dc.at 8 rfl) hl rfl ?_
    refine u_gR E zf_11_9 S4 g1 zw_2_141 (Lx_soonest_dc.at 9 rfl) ?_
    refine u_il_n (x := a2) E (Lx_soonest_dc.at 10 rfl) hl rfl ?_
    refine u_il_n (x := a3) E (Lx_soonest_dc.at 11 rfl) hl rfl ?_
    obtain ⟨g5, h⟩ := ite_e h
    obtain ⟨r6, er6, h⟩ := bd1_e h
    refine u_cVI (As := [.int (zO a2), .int (zO a3)]) (rest := []) E S4 zcw_yX8_belongs zw_5_139 zw_5_140 zw_5_199 zck_8.1 rfl g5 (Tr_belongs_c l G fu top L M3 (M3 a0 9) a2 a3 (S4.1.inR _ _) ha2 ha3 er6) (zrm_ok (by decide) (by decide)) ⟨Nat.le_refl 0, Nat.le_refl 0⟩ rfl (Nat.zero_le 8) hl.size rfl (Lx_soonest_dc.at 12 rfl) (fun H locs hr6 S7 => ?_)
    refine r_if_eq (tgt := 37) E (inR_01 hr6) (Lx_soonest_dc.at 13 rfl) (by decide) (fun q => ?_) (fun q => ?_)
    · have h := ite_t h q
      refine r_iconst E (Lx_soonest_dc.at 20 rfl) ?_
      cases h
      exact r_iret E S7 (show InR (-1) by decide) (Lx_soonest_dc.at 21 rfl)
    · have h := ite_f h q
      refine u_al_n (x := a0) E (Lx_soonest_dc.at 14 rfl) hl rfl ?_
      refine u_gR E zf_11_9 S7 g1 zw_2_141 (Lx_soonest_dc.at 15 rfl) ?_
      refine u_il_n (x := a2) E (Lx_soonest_dc.at 16 rfl) hl rfl ?_
      refine u_il_n (x := a3) E (Lx_soonest_dc.at 17 rfl) hl rfl ?_
      obtain ⟨M9, r8, er8, h⟩ := bd2_e h
      refine u_cVI (As := [.int (zO a2), .int (zO a3)]) (rest := []) E S7 zcw_yX8_soonestOf zw_5_209 zw_5_210 zw_5_208 zck_8.1 rfl g5 (Tr_soonestOf_c l G fu top L M3 (M3 a0 9) a2 a3 (S7.1.inR _ _) ha2 ha3 er8) (zrm_ok (by decide) (by decide)) ⟨Nat.le_refl 0, Nat.le_refl 0⟩ rfl (Nat.zero_le 8) hl.size rfl (Lx_soonest_dc.at 18 rfl) (fun H locs hr8 S10 => ?_)
      refine r_goto (tgt := 38) E (Lx_soonest_dc.at 19 rfl) (by decide) ?_
      cases h
      exact r_iret E S10 hr8 (Lx_soonest_dc.at 21 rfl)
theorem Lx_soonest_c (l : Launch) (G : zG) (fu : Nat) (top : Int) (L : zL) (M : zM) (a0 : Int) (a1 : Int) (a2 : Int) (a3 : Int) {res : (zM × Int)} (ha0 : InR a0) (ha1 : InR a1) (ha2 : InR a2) (ha3 : InR a3) (h : Lx_soonest fu L M a0 a1 a2 a3 = some res) : Met l yX11_soonest (Cond.code yX11_soonest cX11_soonest 4 (some .int) :: zTB) (zrm 8 0 0) (va_Pc [zR G.2.2.1 a0, .int (zO a1), .int (zO a2), .int (zO a3)] (zPre G top L M)) (zQ G top L res.1 (some (.int (zO res.2))) (InR res.2)) 0 0 (zA G) :=
  z_met (by decide +kernel) (by simp [zR_cat, zcat_I, zcat_S]) (Nat.le_of_ble_eq_true rfl) fun p e s m below meth c ls E hn S hl => Lx_soonest_w E ha0 ha1 ha2 ha3 S (hl.sub (And.intro rfl (And.intro rfl (And.intro rfl (And.intro rfl True.intro))))) h
end
theorem In_bitCount_dc : zDL cJ6_bitCount_0f7a4 [(0, .iload_n 0, 1, 1), (1, .iload_n 0, 1, 2), (2, .iconst 1, 1, 3), (3, .iushr, 1, 4), (4, .ldc_w 265, 3, 7), (7, .iand, 1, 8), (8, .isub, 1, 9), (9, .istore_n 0, 1, 10), (10, .iload_n 0, 1, 11), (11, .ldc_w 266, 3, 14), (14, .iand, 1, 15), (15, .iload_n 0, 1, 16), (16, .iconst 2, 1, 17), (17, .iushr, 1, 18), (18, .ldc_w 266, 3, 21), (21, .iand, 1, 22), (22, .iadd, 1, 23), (23, .istore_n 0, 1, 24), (24, .iload_n 0, 1, 25), (25, .iload_n 0, 1, 26), (26, .iconst 4, 1, 27), (27, .iushr, 1, 28), (28, .iadd, 1, 29), (29, .ldc_w 267, 3, 32), (32, .iand, 1, 33), (33, .istore_n 0, 1, 34), (34, .iload_n 0, 1, 35), (35, .iload_n 0, 1, 36), (36, .bipush 8, 2, 38), (38, .iushr, 1, 39), (39, .iadd, 1, 40), (40, .istore_n 0, 1, 41), (41, .iload_n 0, 1, 42), (42, .iload_n 0, 1, 43), (43, .bipush 16, 2, 45), (45, .iushr, 1, 46), (46, .iadd, 1, 47), (47, .istore_n 0, 1, 48), (48, .iload_n 0, 1, 49), (49, .bipush 63, 2, 51), (51, .iand, 1, 52), (52, .ireturn, 1, 53)] := zDL.of (by decide +kernel)
section
variable {p : Program} {l : Launch} {e : Env} {s : State} {m : MethodId} {args : Array Value} {below : List Frame} {meth : Method} {c : Code} {G : zG} {top : Int} {L : zL} {fu : Nat}
theorem In_bitCount_w (E : zEv p m c cJ6_bitCount_0f7a4 1 s args "java/lang/Integer" meth (some .int) G) {res : Int} {M : zM} {a0 : Int} {H : Heap} {locs : List Loc} {ls : Array Slot} (ha0 : InR a0) (S : zS G top L M s H locs) (hl : zLV ls 1 [some (.int (zO a0))]) (h : In_bitCount fu L M a0 = some res) : W p l e (zrm 1 0 0) s m args below meth c H locs 0 0 (MQ below (zQ G top L M (some (.int (zO res))) (InR res)) args s 0 0 (zA G)) (F0 m 0 ls []) := by
  unfold In_bitCount at h
  refine u_il_n (x := a0) E (In_bitCount_dc.at 0 rfl) hl rfl ?_
  refine u_il_n (x := a0) E (In_bitCount_dc.at 1 rfl) hl rfl ?_
  refine r_iconst E (In_bitCount_dc.at 2 rfl) ?_
  refine r_iushr E (In_bitCount_dc.at 3 rfl) ?_
  refine r_ldcw (n := 1431655765) E (In_bitCount_dc.at 4 rfl) zw_5_230 rfl ?_
  refine r_iand E (In_bitCount_dc.at 5 rfl) ?_
  refine r_isub E (In_bitCount_dc.at 6 rfl) ?_
  obtain ⟨v1, ev1, h⟩ := lt1_e h
  have hv1 := inR_eq ev1 (inR_w32 _)
  refine u_ist_n (y := v1) (vs' := [some (.int (zO v1))]) E ev1 (In_bitCount_dc.at 7 rfl) hl (by decide) rfl (fun ls hl => ?_)
  refine u_il_n (x := v1) E (In_bitCount_dc.at 8 rfl) hl rfl ?_
  refine r_ldcw (n := 858993459) E (In_bitCount_dc.at 9 rfl) zw_5_231 rfl ?_
  refine r_iand E (In_bitCount_dc.at 10 rfl) ?_
  refine u_il_n (x := v1) E (In_bitCount_dc.at 11 rfl) hl rfl ?_
  refine r_iconst E (In_bitCount_dc.at 12 rfl) ?_
  refine r_iushr E (In_bitCount_dc.at 13 rfl) ?_
  refine r_ldcw (n := 858993459) E (In_bitCount_dc.at 14 rfl) zw_5_231 rfl ?_
  refine r_iand E (In_bitCount_dc.at 15 rfl) ?_
  refine r_iadd E (In_bitCount_dc.at 16 rfl) ?_
  obtain ⟨v2, ev2, h⟩ := lt1_e h
  have hv2 := inR_eq ev2 (inR_w32 _)
  refine u_ist_n (y := v2) (vs' := [some (.int (zO v2))]) E ev2 (In_bitCount_dc.at 17 rfl) hl (by decide) rfl (fun ls hl => ?_)
  refine u_il_n (x := v2) E (In_bitCount_dc.at 18 rfl) hl rfl ?_
  refine u_il_n (x := v2) E (In_bitCount_dc.at 19 rfl) hl rfl ?_
  refine r_iconst E (In_bitCount_dc.at 20 rfl) ?_
  refine r_iushr E (In_bitCount_dc.at 21 rfl) ?_
  refine r_iadd E (In_bitCount_dc.at 22 rfl) ?_
  refine r_ldcw (n := 252645135) E (In_bitCount_dc.at 23 rfl) zw_5_232 rfl ?_
  refine r_iand E (In_bitCount_dc.at 24 rfl) ?_
  obtain ⟨v3, ev3, h⟩ := lt1_e h
  have hv3 := inR_eq ev3 (inR_iand _ _)
  refine u_ist_n (y := v3) (vs' := [some (.int (zO v3))]) E ev3 (In_bitCount_dc.at 25 rfl) hl (by decide) rfl (fun ls hl => ?_)
  refine u_il_n (x := v3) E (In_bitCount_dc.at 26 rfl) hl rfl ?_
  refine u_il_n (x := v3) E (In_bitCount_dc.at 27 rfl) hl rfl ?_
  refine r_bipush E (In_bitCount_dc.at 28 rfl) rfl ?_
  refine r_iushr E (In_bitCount_dc.at 29 rfl) ?_
  refine r_iadd E (In_bitCount_dc.at 30 rfl) ?_
  obtain ⟨v4, ev4, h⟩ := lt1_e h
  have hv4 := inR_eq ev4 (inR_w32 _)
  refine u_ist_n (y := v4) (vs' := [some (.int (zO v4))]) E ev4 (In_bitCount_dc.at 31 rfl) hl (by decide) rfl (fun ls hl => ?_)
  refine u_il_n (x := v4) E (In_bitCount_dc.at 32 rfl) hl rfl ?_
  refine u_il_n (x := v4) E (In_bitCount_dc.at 33 rfl) hl rfl ?_
  refine r_bipush E (In_bitCount_dc.at 34 rfl) rfl ?_
  refine r_iushr E (In_bitCount_dc.at 35 rfl) ?_
  refine r_iadd E (In_bitCount_dc.at 36 rfl) ?_
  obtain ⟨v5, ev5, h⟩ := lt1_e h
  have hv5 := inR_eq ev5 (inR_w32 _)
  refine u_ist_n (y := v5) (vs' := [some (.int (zO v5))]) E ev5 (In_bitCount_dc.at 37 rfl) hl (by decide) rfl (fun ls hl => ?_)
  refine u_il_n (x := v5) E (In_bitCount_dc.at 38 rfl) hl rfl ?_
  refine r_bipush E (In_bitCount_dc.at 39 rfl) rfl ?_
  refine r_iand E (In_bitCount_dc.at 40 rfl) ?_
  cases h
  exact r_iret E S (inR_iand _ _) (In_bitCount_dc.at 41 rfl)
theorem In_bitCount_c (l : Launch) (G : zG) (fu : Nat) (top : Int) (L : zL) (M : zM) (a0 : Int) {res : Int} (ha0 : InR a0) (h : In_bitCount fu L M a0 = some res) : Met l yJ6_bitCount_0f7a4 (Cond.code yJ6_bitCount_0f7a4 cJ6_bitCount_0f7a4 1 (some .int) :: zTB) (zrm 1 0 0) (va_Pc [.int (zO a0)] (zPre G top L M)) (zQ G top L M (some (.int (zO res))) (InR res)) 0 0 (zA G) :=
  z_met (by decide +kernel) (by simp [zR_cat, zcat_I, zcat_S]) (Nat.le_of_ble_eq_true rfl) fun p e s m below meth c ls E hn S hl => In_bitCount_w E ha0 S (hl.sub (And.intro rfl True.intro)) h
end
theorem Tr_fewestLives_dc : zDL cX8_fewestLives [(0, .iconst (-1), 1, 1), (1, .istore_n 1, 1, 2), (2, .aload_n 0, 1, 3), (3, .invokevirtual 107, 3, 6), (6, .istore_n 2, 1, 7), (7, .iload_n 2, 1, 8), (8, .ifCond .lt 45, 3, 11), (11, .iload_n 1, 1, 12), (12, .iconst (-1), 1, 13), (13, .if_icmp .eq 14, 3, 16), (16, .iload_n 2, 1, 17), (17, .invokestatic 122, 3, 20), (20, .iload_n 1, 1, 21), (21, .invokestatic 122, 3, 24), (24, .if_icmp .gt 7, 3, 27), (27, .iconst 1, 1, 28), (28, .goto 4, 3, 31), (31, .iconst 0, 1, 32), (32, .istore_n 3, 1, 33), (33, .iload_n 3, 1, 34), (34, .ifCond .eq 13, 3, 37), (37, .aload_n 0, 1, 38), (38, .iload_n 2, 1, 39), (39, .invokevirtual 127, 3, 42), (42, .ifCond .eq 5, 3, 45), (45, .iload_n 2, 1, 46), (46, .istore_n 1, 1, 47), (47, .iinc 2 (-1), 3, 50), (50, .goto (-43), 3, 53), (53, .iload_n 1, 1, 54), (54, .ireturn, 1, 55)] := zDL.of (by decide +kernel)
section
variable {p : Program} {l : Launch} {e : Env} {s : State} {m : MethodId} {args : Array Value} {below : List Frame} {meth : Method} {c : Code} {G : zG} {top : Int} {L : zL} {fu : Nat}
theorem Tr_fewestLives_b32_w (E : zEv p m c cX8_fewestLives 4 s args RX8 meth (some .int) G) {res : (zM × Int)} {k7 : zM → Int → Int → Int → Option (zM × Int)} (hk7 : ∀ (M : zM) (x0 : Int) (x1 : Int) (x2 : Int), InR x0 → InR x1 → InR x2 → ∀ (H : Heap) (locs : List Loc) (ls : Array Slot), zS G top L M s H locs → zLV ls 4 [some (zR G.2.2.1 x0), some (.int (zO x1)), some (.int (zO x2)), none] → k7 M x0 x1 x2 = some res → W p l e (zrm 6 0 0) s m args below meth c H locs 0 0 (MQ below (zQ G top L res.1 (some (.int (zO res.2))) (InR res.2)) args s 0 0 (zA G)) (F0 m 7 ls [])) {M : zM} {x0 : Int} {x1 : Int} {x2 : Int} {y0 : Int} {H : Heap} {locs : List Loc} {ls : Array Slot} (hx0 : InR x0) (hx1 : InR x1) (hx2 : InR x2) (hy0 : InR y0) (S : zS G top L M s H locs) (hl : zLV ls 4 [some (zR G.2.2.1 x0), some (.int (zO x1)), some (.int (zO x2)), none]) (h : Tr_fewestLives_b32 fu k7 L M x0 x1 x2 y0 = some res) : W p l e (zrm 6 0 0) s m args below meth c H locs 0 0 (MQ below (zQ G top L res.1 (some (.int (zO res.2))) (InR res.2)) args s 0 0 (zA G)) (F0 m 32 ls [.int (zO y0)]) := by
  unfold Tr_fewestLives_b32 at h
  refine u_ist_n (y := y0) (vs' := [some (zR G.2.2.1 x0), some (.int (zO x1)), some (.int (zO x2)), some (.int (zO y0))]) E rfl (Tr_fewestLives_dc.at 18 rfl) hl (by decide) rfl (fun ls hl => ?_)
  refine u_il_n (x := y0) E (Tr_fewestLives_dc.at 19 rfl) hl rfl ?_
  refine r_if_eq (tgt := 47) E hy0 (Tr_fewestLives_dc.at 20 rfl) (by decide) (fun q => ?_) (fun q => ?_)
  · have h := ite_t h q
    obtain ⟨v4, ev4, h⟩ := lt1_e h
    have hv4 := inR_eq ev4 (inR_w32 _)
    refine u_iinc (y := v4) (vs' := [some (zR G.2.2.1 x0), some (.int (zO x1)), some (.int (zO v4)), some (.int (zO y0))]) E ev4 (Tr_fewestLives_dc.at 27 rfl) hl rfl (by decide) rfl (fun ls hl => ?_)
    refine r_goto (tgt := 7) E (Tr_fewestLives_dc.at 28 rfl) (by decide) ?_
    exact hk7 _ x0 x1 v4 hx0 hx1 hv4 _ _ _ S (hl.sub (And.intro rfl (And.intro rfl (And.intro rfl True.intro)))) h
  · have h := ite_f h q
    refine u_al_n (x := x0) E (Tr_fewestLives_dc.at 21 rfl) hl rfl ?_
    refine u_il_n (x := x2) E (Tr_fewestLives_dc.at 22 rfl) hl rfl ?_
    obtain ⟨g5, h⟩ := ite_e h
    obtain ⟨M7, r6, er6, h⟩ := bd2_e h
    refine u_cVI (As := [.int (zO x2)]) (rest := []) E S zcw_yX8_passes zw_5_156 zw_5_157 zw_5_233 zck_8.1 rfl g5 (Tr_passes_c l G fu top L M x0 x2 hx0 hx2 er6) (zrm_ok (by decide) (by decide)) ⟨Nat.le_refl 0, Nat.le_refl 0⟩ rfl (Nat.zero_le 8) hl.size rfl (Tr_fewestLives_dc.at 23 rfl) (fun H locs hr6 S8 => ?_)
    refine r_if_eq (tgt := 47) E (inR_01 hr6) (Tr_fewestLives_dc.at 24 rfl) (by decide) (fun q => ?_) (fun q => ?_)
    · have h := ite_t h q
      obtain ⟨v9, ev9, h⟩ := lt1_e h
      have hv9 := inR_eq ev9 (inR_w32 _)
      refine u_iinc (y := v9) (vs' := [some (zR G.2.2.1 x0), some (.int (zO x1)), some (.int (zO v9)), some (.int (zO y0))]) E ev9 (Tr_fewestLives_dc.at 27 rfl) hl rfl (by decide) rfl (fun ls hl => ?_)
      refine r_goto (tgt := 7) E (Tr_fewestLives_dc.at 28 rfl) (by decide) ?_
      exact hk7 _ x0 x1 v9 hx0 hx1 hv9 _ _ _ S8 (hl.sub (And.intro rfl (And.intro rfl (And.intro rfl True.intro)))) h
    · have h := ite_f h q
      refine u_il_n (x := x2) E (Tr_fewestLives_dc.at 25 rfl) hl rfl ?_
      refine u_ist_n (y := x2) (vs' := [some (zR G.2.2.1 x0), some (.int (zO x2)), some (.int (zO x2)), some (.int (zO y0))]) E rfl (Tr_fewestLives_dc.at 26 rfl) hl (by decide) rfl (fun ls hl => ?_)
      obtain ⟨v10, ev10, h⟩ := lt1_e h
      have hv10 := inR_eq ev10 (inR_w32 _)
      refine u_iinc (y := v10) (vs' := [some (zR G.2.2.1 x0), some (.int (zO x2)), some (.int (zO v10)), some (.int (zO y0))]) E ev10 (Tr_fewestLives_dc.at 27 rfl) hl rfl (by decide) rfl (fun ls hl => ?_)
      refine r_goto (tgt := 7) E (Tr_fewestLives_dc.at 28 rfl) (by decide) ?_
      exact hk7 _ x0 x2 v10 hx0 hx2 hv10 _ _ _ S8 (hl.sub (And.intro rfl (And.intro rfl (And.intro rfl True.intro)))) h
theorem Tr_fewestLives_s7_w (E : zEv p m c cX8_fewestLives 4 s args RX8 meth (some .int) G) {res : (zM × Int)} {k7 : zM → Int → Int → Int → Option (zM × Int)} (hk7 : ∀ (M : zM) (x0 : Int) (x1 : Int) (x2 : Int), InR x0 → InR x1 → InR x2 → ∀ (H : Heap) (locs : List Loc) (ls : Array Slot), zS G top L M s H locs → zLV ls 4 [some (zR G.2.2.1 x0), some (.int (zO x1)), some (.int (zO x2)), none] → k7 M x0 x1 x2 = some res → W p l e (zrm 6 0 0) s m args below meth c H locs 0 0 (MQ below (zQ G top L res.1 (some (.int (zO res.2))) (InR res.2)) args s 0 0 (zA G)) (F0 m 7 ls [])) {M : zM} {x0 : Int} {x1 : Int} {x2 : Int} {H : Heap} {locs : List Loc} {ls : Array Slot} (hx0 : InR x0) (hx1 : InR x1) (hx2 : InR x2) (S : zS G top L M s H locs) (hl : zLV ls 4 [some (zR G.2.2.1 x0), some (.int (zO x1)), some (.int (zO x2)), none]) (h : Tr_fewestLives_s7 fu k7 L M x0 x1 x2 = some res) : W p l e (zrm 6 0 0) s m args below meth c H locs 0 0 (MQ below (zQ G top L res.1 (some (.int (zO res.2))) (InR res.2)) args s 0 0 (zA G)) (F0 m 7 ls []) := by
  unfold Tr_fewestLives_s7 at h
  refine u_il_n (x := x2) E (Tr_fewestLives_dc.at 5 rfl) hl rfl ?_
  refine r_if_lt (tgt := 53) E hx2 (Tr_fewestLives_dc.at 6 rfl) (by decide) (fun q => ?_) (fun q => ?_)
  · have h := ite_t h q
    refine u_il_n (x := x1) E (Tr_fewestLives_dc.at 29 rfl) hl rfl ?_
    cases h
    exact r_iret E S hx1 (Tr_fewestLives_dc.at 30 rfl)
  · have h := ite_f h q
    refine u_il_n (x := x1) E (Tr_fewestLives_dc.at 7 rfl) hl rfl ?_
    refine r_iconst E (Tr_fewestLives_dc.at 8 rfl) ?_
    refine r_icmp_eq (tgt := 27) E hx1 (show InR (-1) by decide) (Tr_fewestLives_dc.at 9 rfl) (by decide) (fun q => ?_) (fun q => ?_)
    · have h := ite_t h q
      refine r_iconst E (Tr_fewestLives_dc.at 15 rfl) ?_
      refine r_goto (tgt := 32) E (Tr_fewestLives_dc.at 16 rfl) (by decide) ?_
      exact Tr_fewestLives_b32_w (x0 := x0) (x1 := x1) (x2 := x2) (y0 := 1) E hk7 hx0 hx1 hx2 (show InR 1 by decide) S (hl.sub (And.intro rfl (And.intro rfl (And.intro rfl True.intro)))) h
    · have h := ite_f h q
      refine u_il_n (x := x2) E (Tr_fewestLives_dc.at 10 rfl) hl rfl ?_
      obtain ⟨r11, er11, h⟩ := bd1_e h
      refine u_cSI (As := [.int (zO x2)]) (rest := []) E S zcw_yJ6_bitCount_0f7a4 zw_5_228 zw_5_227 (In_bitCount_c l G fu top L M x2 hx2 er11) (zrm_ok (by decide) (by decide)) ⟨Nat.le_refl 0, Nat.le_refl 0⟩ rfl (Nat.zero_le 8) hl.size rfl (Tr_fewestLives_dc.at 11 rfl) (fun H locs hr11 S12 => ?_)
      refine u_il_n (x := x1) E (Tr_fewestLives_dc.at 12 rfl) hl rfl ?_
      obtain ⟨r13, er13, h⟩ := bd1_e h
      refine u_cSI (As := [.int (zO x1)]) (rest := [.int (zO r11)]) E S12 zcw_yJ6_bitCount_0f7a4 zw_5_228 zw_5_227 (In_bitCount_c l G fu top L M x1 hx1 er13) (zrm_ok (by decide) (by decide)) ⟨Nat.le_refl 0, Nat.le_refl 0⟩ rfl (by simp [zR_cat, zcat_I, zcat_J, zcat_S]) hl.size rfl (Tr_fewestLives_dc.at 13 rfl) (fun H locs hr13 S14 => ?_)
      refine r_icmp_gt (tgt := 31) E hr11 hr13 (Tr_fewestLives_dc.at 14 rfl) (by decide) (fun q => ?_) (fun q => ?_)
      · have h := ite_t h q
        refine r_iconst E (Tr_fewestLives_dc.at 17 rfl) ?_
        exact Tr_fewestLives_b32_w (x0 := x0) (x1 := x1) (x2 := x2) (y0 := 0) E hk7 hx0 hx1 hx2 (show InR 0 by decide) S14 (hl.sub (And.intro rfl (And.intro rfl (And.intro rfl True.intro)))) h
      · have h := ite_f h q
        refine r_iconst E (Tr_fewestLives_dc.at 15 rfl) ?_
        refine r_goto (tgt := 32) E (Tr_fewestLives_dc.at 16 rfl) (by decide) ?_
        exact Tr_fewestLives_b32_w (x0 := x0) (x1 := x1) (x2 := x2) (y0 := 1) E hk7 hx0 hx1 hx2 (show InR 1 by decide) S14 (hl.sub (And.intro rfl (And.intro rfl (And.intro rfl True.intro)))) h
theorem Tr_fewestLives_l7_w (E : zEv p m c cX8_fewestLives 4 s args RX8 meth (some .int) G) {res : (zM × Int)} : ∀ (n : Nat) (M : zM) (x0 : Int) (x1 : Int) (x2 : Int), InR x0 → InR x1 → InR x2 → ∀ (H : Heap) (locs : List Loc) (ls : Array Slot), zS G top L M s H locs → zLV ls 4 [some (zR G.2.2.1 x0), some (.int (zO x1)), some (.int (zO x2)), none] → Tr_fewestLives_l7 fu L n M x0 x1 x2 = some res → W p l e (zrm 6 0 0) s m args below meth c H locs 0 0 (MQ below (zQ G top L res.1 (some (.int (zO res.2))) (InR res.2)) args s 0 0 (zA G)) (F0 m 7 ls [])
  | 0, _, _, _, _ => fun _ _ _ _ _ _ _ _ h => (by cases h)
  | n + 1, M, x0, x1, x2 => fun hx0 hx1 hx2 H locs ls S hl h => Tr_fewestLives_s7_w E (fun M x0 x1 x2 hx0 hx1 hx2 H locs ls S hl h => Tr_fewestLives_l7_w E n M x0 x1 x2 hx0 hx1 hx2 H locs ls S hl h) hx0 hx1 hx2 S hl h
theorem Tr_fewestLives_w (E : zEv p m c cX8_fewestLives 4 s args RX8 meth (some .int) G) {res : (zM × Int)} {M : zM} {a0 : Int} {H : Heap} {locs : List Loc} {ls : Array Slot} (ha0 : InR a0) (S : zS G top L M s H locs) (hl : zLV ls 4 [some (zR G.2.2.1 a0), none, none, none]) (h : Tr_fewestLives fu L M a0 = some res) : W p l e (zrm 6 0 0) s m args below meth c H locs 0 0 (MQ below (zQ G top L res.1 (some (.int (zO res.2))) (InR res.2)) args s 0 0 (zA G)) (F0 m 0 ls []) := by
  unfold Tr_fewestLives at h
  refine r_iconst E (Tr_fewestLives_dc.at 0 rfl) ?_
  refine u_ist_n (y := (-1)) (vs' := [some (zR G.2.2.1 a0), some (.int (zO (-1))), none, none]) E rfl (Tr_fewestLives_dc.at 1 rfl) hl (by decide) rfl (fun ls hl => ?_)
  refine u_al_n (x := a0) E (Tr_fewestLives_dc.at 2 rfl) hl rfl ?_
  obtain ⟨g1, h⟩ := ite_e h
  obtain ⟨r2, er2, h⟩ := bd1_e h
  refine u_cVI (As := []) (rest := []) E S zcw_yX8_allLives zw_5_151 zw_5_152 zw_5_198 zck_8.1 rfl g1 (Tr_allLives_c l G fu top L M a0 ha0 er2) (zrm_ok (by decide) (by decide)) ⟨Nat.le_refl 0, Nat.le_refl 0⟩ rfl (Nat.zero_le 8) hl.size rfl (Tr_fewestLives_dc.at 3 rfl) (fun H locs hr2 S3 => ?_)
  refine u_ist_n (y := r2) (vs' := [some (zR G.2.2.1 a0), some (.int (zO (-1))), some (.int (zO r2)), none]) E rfl (Tr_fewestLives_dc.at 4 rfl) hl (by decide) rfl (fun ls hl => ?_)
  exact Tr_fewestLives_l7_w E fu _ a0 (-1) r2 ha0 (show InR (-1) by decide) hr2 _ _ _ S3 (hl.sub (And.intro rfl (And.intro rfl (And.intro rfl True.intro)))) h
theorem Tr_fewestLives_c (l : Launch) (G : zG) (fu : Nat) (top : Int) (L : zL) (M : zM) (a0 : Int) {res : (zM × Int)} (ha0 : InR a0) (h : Tr_fewestLives fu L M a0 = some res) : Met l yX8_fewestLives (Cond.code yX8_fewestLives cX8_fewestLives 4 (some .int) :: zTB) (zrm 6 0 0) (va_Pc [zR G.2.2.1 a0] (zPre G top L M)) (zQ G top L res.1 (some (.int (zO res.2))) (InR res.2)) 0 0 (zA G) :=
  z_met (by decide +kernel) (by simp [zR_cat, zcat_I, zcat_S]) (Nat.le_of_ble_eq_true rfl) fun p e s m below meth c ls E hn S hl => Tr_fewestLives_w E ha0 S (hl.sub (And.intro rfl True.intro)) h
end
theorem Lx_carriers_dc : zDL cX11_carriers [(0, .aload_n 0, 1, 1), (1, .iload_n 1, 1, 2), (2, .invokevirtual 266, 3, 5), (5, .ifCond .eq 13, 3, 8), (8, .aload_n 0, 1, 9), (9, .getfield 78, 3, 12), (12, .invokevirtual 293, 3, 15), (15, .goto 4, 3, 18), (18, .iconst (-1), 1, 19), (19, .ireturn, 1, 20)] := zDL.of (by decide +kernel)
section
variable {p : Program} {l : Launch} {e : Env} {s : State} {m : MethodId} {args : Array Value} {below : List Frame} {meth : Method} {c : Code} {G : zG} {top : Int} {L : zL} {fu : Nat}
theorem Lx_carriers_w (E : zEv p m c cX11_carriers 2 s args RX11 meth (some .int) G) {res : (zM × Int)} {M : zM} {a0 : Int} {a1 : Int} {H : Heap} {locs : List Loc} {ls : Array Slot} (ha0 : InR a0) (ha1 : InR a1) (S : zS G top L M s H locs) (hl : zLV ls 2 [some (zR G.2.2.1 a0), some (.int (zO a1))]) (h : Lx_carriers fu L M a0 a1 = some res) : W p l e (zrm 7 0 0) s m args below meth c H locs 0 0 (MQ below (zQ G top L res.1 (some (.int (zO res.2))) (InR res.2)) args s 0 0 (zA G)) (F0 m 0 ls []) := by
  unfold Lx_carriers at h
  refine u_al_n (x := a0) E (Lx_carriers_dc.at 0 rfl) hl rfl ?_
  refine u_il_n (x := a1) E (Lx_carriers_dc.at 1 rfl) hl rfl ?_
  obtain ⟨g1, h⟩ := ite_e h
  obtain ⟨M3, r2, er2, h⟩ := bd2_e h
  refine u_cVI (As := [.int (zO a1)]) (rest := []) E S zcw_yX11_tryGift zw_5_126 zq_3_3 zw_5_124 zck_11.1 rfl g1 (Lx_tryGift_c l G fu top L M a0 a1 ha0 ha1 er2) (zrm_ok (by decide) (by decide)) ⟨Nat.le_refl 0, Nat.le_refl 0⟩ rfl (Nat.zero_le 8) hl.size rfl (Lx_carriers_dc.at 2 rfl) (fun H locs hr2 S4 => ?_)
  refine r_if_eq (tgt := 18) E (inR_01 hr2) (Lx_carriers_dc.at 3 rfl) (by decide) (fun q => ?_) (fun q => ?_)
  · have h := ite_t h q
    refine r_iconst E (Lx_carriers_dc.at 8 rfl) ?_
    cases h
    exact r_iret E S4 (show InR (-1) by decide) (Lx_carriers_dc.at 9 rfl)
  · have h := ite_f h q
    refine u_al_n (x := a0) E (Lx_carriers_dc.at 4 rfl) hl rfl ?_
    refine u_gR E zf_11_9 S4 g1 zw_2_141 (Lx_carriers_dc.at 5 rfl) ?_
    obtain ⟨g5, h⟩ := ite_e h
    obtain ⟨M7, r6, er6, h⟩ := bd2_e h
    refine u_cVI (As := []) (rest := []) E S4 zcw_yX8_fewestLives zw_5_224 zw_5_225 zw_5_223 zck_8.1 rfl g5 (Tr_fewestLives_c l G fu top L M3 (M3 a0 9) (S4.1.inR _ _) er6) (zrm_ok (by decide) (by decide)) ⟨Nat.le_refl 0, Nat.le_refl 0⟩ rfl (Nat.zero_le 8) hl.size rfl (Lx_carriers_dc.at 6 rfl) (fun H locs hr6 S8 => ?_)
    refine r_goto (tgt := 19) E (Lx_carriers_dc.at 7 rfl) (by decide) ?_
    cases h
    exact r_iret E S8 hr6 (Lx_carriers_dc.at 9 rfl)
theorem Lx_carriers_c (l : Launch) (G : zG) (fu : Nat) (top : Int) (L : zL) (M : zM) (a0 : Int) (a1 : Int) {res : (zM × Int)} (ha0 : InR a0) (ha1 : InR a1) (h : Lx_carriers fu L M a0 a1 = some res) : Met l yX11_carriers (Cond.code yX11_carriers cX11_carriers 2 (some .int) :: zTB) (zrm 7 0 0) (va_Pc [zR G.2.2.1 a0, .int (zO a1)] (zPre G top L M)) (zQ G top L res.1 (some (.int (zO res.2))) (InR res.2)) 0 0 (zA G) :=
  z_met (by decide +kernel) (by simp [zR_cat, zcat_I, zcat_S]) (Nat.le_of_ble_eq_true rfl) fun p e s m below meth c ls E hn S hl => Lx_carriers_w E ha0 ha1 S (hl.sub (And.intro rfl (And.intro rfl True.intro))) h
end
theorem Gf_partEnd_dc : zDL cX3_partEnd [(0, .iload_n 1, 1, 1), (1, .ifCond .lt 21, 3, 4), (4, .iload_n 1, 1, 5), (5, .aload_n 0, 1, 6), (6, .getfield 64, 3, 9), (9, .arraylength, 1, 10), (10, .if_icmp .ge 12, 3, 13), (13, .aload_n 0, 1, 14), (14, .getfield 64, 3, 17), (17, .iload_n 1, 1, 18), (18, .iaload, 1, 19), (19, .goto 4, 3, 22), (22, .iconst 0, 1, 23), (23, .ireturn, 1, 24)] := zDL.of (by decide +kernel)
section
variable {p : Program} {l : Launch} {e : Env} {s : State} {m : MethodId} {args : Array Value} {below : List Frame} {meth : Method} {c : Code} {G : zG} {top : Int} {L : zL} {fu : Nat}
theorem Gf_partEnd_w (E : zEv p m c cX3_partEnd 2 s args RX3 meth (some .int) G) {res : Int} {M : zM} {a0 : Int} {a1 : Int} {H : Heap} {locs : List Loc} {ls : Array Slot} (ha0 : InR a0) (ha1 : InR a1) (S : zS G top L M s H locs) (hl : zLV ls 2 [some (zR G.2.2.1 a0), some (.int (zO a1))]) (h : Gf_partEnd fu L M a0 a1 = some res) : W p l e (zrm 1 0 0) s m args below meth c H locs 0 0 (MQ below (zQ G top L M (some (.int (zO res))) (InR res)) args s 0 0 (zA G)) (F0 m 0 ls []) := by
  unfold Gf_partEnd at h
  refine u_il_n (x := a1) E (Gf_partEnd_dc.at 0 rfl) hl rfl ?_
  refine r_if_lt (tgt := 22) E ha1 (Gf_partEnd_dc.at 1 rfl) (by decide) (fun q => ?_) (fun q => ?_)
  · have h := ite_t h q
    refine r_iconst E (Gf_partEnd_dc.at 12 rfl) ?_
    cases h
    exact r_iret E S (show InR 0 by decide) (Gf_partEnd_dc.at 13 rfl)
  · have h := ite_f h q
    refine u_il_n (x := a1) E (Gf_partEnd_dc.at 2 rfl) hl rfl ?_
    refine u_al_n (x := a0) E (Gf_partEnd_dc.at 3 rfl) hl rfl ?_
    obtain ⟨g1, h⟩ := ite_e h
    refine u_gR E zf_3_9 S g1 zw_4_97 (Gf_partEnd_dc.at 4 rfl) ?_
    obtain ⟨g2, h⟩ := ite_e h
    refine r_alen E S g2 (by decide) (Gf_partEnd_dc.at 5 rfl) ?_
    refine r_icmp_ge (tgt := 22) E ha1 (S.1.lenR _) (Gf_partEnd_dc.at 6 rfl) (by decide) (fun q => ?_) (fun q => ?_)
    · have h := ite_t h q
      refine u_al_n (x := a0) E (Gf_partEnd_dc.at 7 rfl) hl rfl ?_
      refine u_gR E zf_3_9 S g1 zw_4_97 (Gf_partEnd_dc.at 8 rfl) ?_
      refine u_il_n (x := a1) E (Gf_partEnd_dc.at 9 rfl) hl rfl ?_
      obtain ⟨g3, h⟩ := ite_e h
      refine r_iald E S g2 g3 (Gf_partEnd_dc.at 10 rfl) ?_
      refine r_goto (tgt := 23) E (Gf_partEnd_dc.at 11 rfl) (by decide) ?_
      cases h
      exact r_iret E S (S.1.inR _ _) (Gf_partEnd_dc.at 13 rfl)
    · have h := ite_f h q
      refine r_iconst E (Gf_partEnd_dc.at 12 rfl) ?_
      cases h
      exact r_iret E S (show InR 0 by decide) (Gf_partEnd_dc.at 13 rfl)
theorem Gf_partEnd_c (l : Launch) (G : zG) (fu : Nat) (top : Int) (L : zL) (M : zM) (a0 : Int) (a1 : Int) {res : Int} (ha0 : InR a0) (ha1 : InR a1) (h : Gf_partEnd fu L M a0 a1 = some res) : Met l yX3_partEnd (Cond.code yX3_partEnd cX3_partEnd 2 (some .int) :: zTB) (zrm 1 0 0) (va_Pc [zR G.2.2.1 a0, .int (zO a1)] (zPre G top L M)) (zQ G top L M (some (.int (zO res))) (InR res)) 0 0 (zA G) :=
  z_met (by decide +kernel) (by simp [zR_cat, zcat_I, zcat_S]) (Nat.le_of_ble_eq_true rfl) fun p e s m below meth c ls E hn S hl => Gf_partEnd_w E ha0 ha1 S (hl.sub (And.intro rfl (And.intro rfl True.intro))) h
end
theorem Lx_ways_dc : zDL cX11_ways [(0, .aload_n 0, 1, 1), (1, .getfield 42, 3, 4), (4, .iload_n 1, 1, 5), (5, .invokevirtual 148, 3, 8), (8, .astore_n 2, 1, 9), (9, .aload_n 2, 1, 10), (10, .ifnonnull 5, 3, 13), (13, .iconst (-1), 1, 14), (14, .ireturn, 1, 15), (15, .iconst 0, 1, 16), (16, .istore_n 3, 1, 17), (17, .iconst 0, 1, 18), (18, .istore 4, 2, 20), (20, .iload 4, 2, 22), (22, .aload_n 2, 1, 23), (23, .getfield 220, 3, 26), (26, .if_icmp .ge 53, 3, 29), (29, .aload_n 0, 1, 30), (30, .getfield 78, 3, 33), (33, .aload_n 0, 1, 34), (34, .getfield 42, 3, 37), (37, .aload_n 2, 1, 38), (38, .aload_n 2, 1, 39), (39, .iload 4, 2, 41), (41, .invokevirtual 296, 3, 44), (44, .bipush 99, 2, 46), (46, .invokevirtual 299, 3, 49), (49, .aload_n 0, 1, 50), (50, .getfield 78, 3, 53), (53, .aload_n 0, 1, 54), (54, .getfield 78, 3, 57), (57, .invokevirtual 269, 3, 60), (60, .invokevirtual 272, 3, 63), (63, .ifCond .eq 10, 3, 66), (66, .iload_n 3, 1, 67), (67, .iconst 1, 1, 68), (68, .iload 4, 2, 70), (70, .ishl, 1, 71), (71, .ior, 1, 72), (72, .istore_n 3, 1, 73), (73, .iinc 4 1, 3, 76), (76, .goto (-56), 3, 79), (79, .iload_n 3, 1, 80), (80, .ireturn, 1, 81)] := zDL.of (by decide +kernel)
section
variable {p : Program} {l : Launch} {e : Env} {s : State} {m : MethodId} {args : Array Value} {below : List Frame} {meth : Method} {c : Code} {G : zG} {top : Int} {L : zL} {fu : Nat}
theorem Lx_ways_s20_w (E : zEv p m c cX11_ways 5 s args RX11 meth (some .int) G) {res : (zM × Int)} {k20 : zM → Int → Int → Int → Int → Option (zM × Int)} (hk20 : ∀ (M : zM) (x0 : Int) (x2 : Int) (x3 : Int) (x4 : Int), InR x0 → InR x2 → InR x3 → InR x4 → ∀ (H : Heap) (locs : List Loc) (ls : Array Slot), zS G top L M s H locs → zLV ls 5 [some (zR G.2.2.1 x0), none, some (zR G.2.2.1 x2), some (.int (zO x3)), some (.int (zO x4))] → k20 M x0 x2 x3 x4 = some res → W p l e (zrm 6 0 0) s m args below meth c H locs 0 0 (MQ below (zQ G top L res.1 (some (.int (zO res.2))) (InR res.2)) args s 0 0 (zA G)) (F0 m 20 ls [])) {M : zM} {x0 : Int} {x2 : Int} {x3 : Int} {x4 : Int} {H : Heap} {locs : List Loc} {ls : Array Slot} (hx0 : InR x0) (hx2 : InR x2) (hx3 : InR x3) (hx4 : InR x4) (S : zS G top L M s H locs) (hl : zLV ls 5 [some (zR G.2.2.1 x0), none, some (zR G.2.2.1 x2), some (.int (zO x3)), some (.int (zO x4))]) (h : Lx_ways_s20 fu k20 L M x0 x2 x3 x4 = some res) : W p l e (zrm 6 0 0) s m args below meth c H locs 0 0 (MQ below (zQ G top L res.1 (some (.int (zO res.2))) (InR res.2)) args s 0 0 (zA G)) (F0 m 20 ls []) := by
  unfold Lx_ways_s20 at h
  refine u_il (x := x4) E (Lx_ways_dc.at 13 rfl) hl rfl ?_
  refine u_al_n (x := x2) E (Lx_ways_dc.at 14 rfl) hl rfl ?_
  obtain ⟨g5, h⟩ := ite_e h
  refine u_gI E zf_3_4 S g5 zw_4_88 (Lx_ways_dc.at 15 rfl) ?_
  refine r_icmp_ge (tgt := 79) E hx4 (S.1.inR _ _) (Lx_ways_dc.at 16 rfl) (by decide) (fun q => ?_) (fun q => ?_)
  · have h := ite_t h q
    refine u_al_n (x := x0) E (Lx_ways_dc.at 17 rfl) hl rfl ?_
    obtain ⟨g6, h⟩ := ite_e h
    refine u_gR E zf_11_9 S g6 zw_2_141 (Lx_ways_dc.at 18 rfl) ?_
    refine u_al_n (x := x0) E (Lx_ways_dc.at 19 rfl) hl rfl ?_
    refine u_gR E zf_11_4 S g6 zw_2_136 (Lx_ways_dc.at 20 rfl) ?_
    refine u_al_n (x := x2) E (Lx_ways_dc.at 21 rfl) hl rfl ?_
    refine u_al_n (x := x2) E (Lx_ways_dc.at 22 rfl) hl rfl ?_
    refine u_il (x := x4) E (Lx_ways_dc.at 23 rfl) hl rfl ?_
    obtain ⟨r7, er7, h⟩ := bd1_e h
    refine u_cVI (As := [.int (zO x4)]) (rest := [zR G.2.2.1 x2, zR G.2.2.1 (M x0 4), zR G.2.2.1 (M x0 9)]) E S zcw_yX3_partEnd zw_5_239 zw_6_0 zw_5_238 zck_3.1 rfl g5 (Gf_partEnd_c l G fu top L M x2 x4 hx2 hx4 er7) (zrm_ok (by decide) (by decide)) ⟨Nat.le_refl 0, Nat.le_refl 0⟩ rfl (by simp [zR_cat, zcat_I, zcat_J, zcat_S]) hl.size rfl (Lx_ways_dc.at 24 rfl) (fun H locs hr7 S8 => ?_)
    refine r_bipush E (Lx_ways_dc.at 25 rfl) rfl ?_
    obtain ⟨g9, h⟩ := ite_e h
    obtain ⟨M10, eM10, h⟩ := bd1_e h
    refine u_cVU (As := [zR G.2.2.1 (M x0 4), zR G.2.2.1 x2, .int (zO r7), .int (zO 99)]) (rest := []) E S8 zcw_yX8_take zw_5_129 zw_5_130 zw_5_128 zck_8.1 rfl g9 (Tr_take_c l G fu top L M (M x0 9) (M x0 4) x2 r7 99 (S.1.inR _ _) (S.1.inR _ _) hx2 hr7 (show InR 99 by decide) eM10) (zrm_ok (by decide) (by decide)) ⟨Nat.le_refl 0, Nat.le_refl 0⟩ rfl (Nat.zero_le 8) hl.size rfl (Lx_ways_dc.at 26 rfl) (fun H locs _ S11 => ?_)
    refine u_al_n (x := x0) E (Lx_ways_dc.at 27 rfl) hl rfl ?_
    refine u_gR E zf_11_9 S11 g6 zw_2_141 (Lx_ways_dc.at 28 rfl) ?_
    refine u_al_n (x := x0) E (Lx_ways_dc.at 29 rfl) hl rfl ?_
    refine u_gR E zf_11_9 S11 g6 zw_2_141 (Lx_ways_dc.at 30 rfl) ?_
    obtain ⟨g12, h⟩ := ite_e h
    obtain ⟨r13, er13, h⟩ := bd1_e h
    refine u_cVI (As := []) (rest := [zR G.2.2.1 (M10 x0 9)]) E S11 zcw_yX8_allLives zw_5_151 zw_5_152 zw_5_150 zck_8.1 rfl g12 (Tr_allLives_c l G fu top L M10 (M10 x0 9) (S11.1.inR _ _) er13) (zrm_ok (by decide) (by decide)) ⟨Nat.le_refl 0, Nat.le_refl 0⟩ rfl (by simp [zR_cat, zcat_I, zcat_J, zcat_S]) hl.size rfl (Lx_ways_dc.at 31 rfl) (fun H locs hr13 S14 => ?_)
    obtain ⟨M16, r15, er15, h⟩ := bd2_e h
    refine u_cVI (As := [.int (zO r13)]) (rest := []) E S14 zcw_yX8_passes zw_5_156 zw_5_157 zw_5_155 zck_8.1 rfl g12 (Tr_passes_c l G fu top L M10 (M10 x0 9) r13 (S11.1.inR _ _) hr13 er15) (zrm_ok (by decide) (by decide)) ⟨Nat.le_refl 0, Nat.le_refl 0⟩ rfl (Nat.zero_le 8) hl.size rfl (Lx_ways_dc.at 32 rfl) (fun H locs hr15 S17 => ?_)
    refine r_if_eq (tgt := 73) E (inR_01 hr15) (Lx_ways_dc.at 33 rfl) (by decide) (fun q => ?_) (fun q => ?_)
    · have h := ite_t h q
      obtain ⟨v18, ev18, h⟩ := lt1_e h
      have hv18 := inR_eq ev18 (inR_w32 _)
      refine u_iinc (y := v18) (vs' := [some (zR G.2.2.1 x0), none, some (zR G.2.2.1 x2), some (.int (zO x3)), some (.int (zO v18))]) E ev18 (Lx_ways_dc.at 40 rfl) hl rfl (by decide) rfl (fun ls hl => ?_)
      refine r_goto (tgt := 20) E (Lx_ways_dc.at 41 rfl) (by decide) ?_
      exact hk20 _ x0 x2 x3 v18 hx0 hx2 hx3 hv18 _ _ _ S17 (hl.sub (And.intro rfl (And.intro rfl (And.intro rfl (And.intro rfl True.intro))))) h
    · have h := ite_f h q
      refine u_il_n (x := x3) E (Lx_ways_dc.at 34 rfl) hl rfl ?_
      refine r_iconst E (Lx_ways_dc.at 35 rfl) ?_
      refine u_il (x := x4) E (Lx_ways_dc.at 36 rfl) hl rfl ?_
      refine r_ishl E (Lx_ways_dc.at 37 rfl) ?_
      refine r_ior E (Lx_ways_dc.at 38 rfl) ?_
      obtain ⟨v19, ev19, h⟩ := lt1_e h
      have hv19 := inR_eq ev19 (inR_ior _ _)
      refine u_ist_n (y := v19) (vs' := [some (zR G.2.2.1 x0), none, some (zR G.2.2.1 x2), some (.int (zO v19)), some (.int (zO x4))]) E ev19 (Lx_ways_dc.at 39 rfl) hl (by decide) rfl (fun ls hl => ?_)
      obtain ⟨v20, ev20, h⟩ := lt1_e h
      have hv20 := inR_eq ev20 (inR_w32 _)
      refine u_iinc (y := v20) (vs' := [some (zR G.2.2.1 x0), none, some (zR G.2.2.1 x2), some (.int (zO v19)), some (.int (zO v20))]) E ev20 (Lx_ways_dc.at 40 rfl) hl rfl (by decide) rfl (fun ls hl => ?_)
      refine r_goto (tgt := 20) E (Lx_ways_dc.at 41 rfl) (by decide) ?_
      exact hk20 _ x0 x2 v19 v20 hx0 hx2 hv19 hv20 _ _ _ S17 (hl.sub (And.intro rfl (And.intro rfl (And.intro rfl (And.intro rfl True.intro))))) h
  · have h := ite_f h q
    refine u_il_n (x := x3) E (Lx_ways_dc.at 42 rfl) hl rfl ?_
    cases h
    exact r_iret E S hx3 (Lx_ways_dc.at 43 rfl)
theorem Lx_ways_l20_w (E : zEv p m c cX11_ways 5 s args RX11 meth (some .int) G) {res : (zM × Int)} : ∀ (n : Nat) (M : zM) (x0 : Int) (x2 : Int) (x3 : Int) (x4 : Int), InR x0 → InR x2 → InR x3 → InR x4 → ∀ (H : Heap) (locs : List Loc) (ls : Array Slot), zS G top L M s H locs → zLV ls 5 [some (zR G.2.2.1 x0), none, some (zR G.2.2.1 x2), some (.int (zO x3)), some (.int (zO x4))] → Lx_ways_l20 fu L n M x0 x2 x3 x4 = some res → W p l e (zrm 6 0 0) s m args below meth c H locs 0 0 (MQ below (zQ G top L res.1 (some (.int (zO res.2))) (InR res.2)) args s 0 0 (zA G)) (F0 m 20 ls [])
  | 0, _, _, _, _, _ => fun _ _ _ _ _ _ _ _ _ h => (by cases h)
  | n + 1, M, x0, x2, x3, x4 => fun hx0 hx2 hx3 hx4 H locs ls S hl h => Lx_ways_s20_w E (fun M x0 x2 x3 x4 hx0 hx2 hx3 hx4 H locs ls S hl h => Lx_ways_l20_w E n M x0 x2 x3 x4 hx0 hx2 hx3 hx4 H locs ls S hl h) hx0 hx2 hx3 hx4 S hl h
theorem Lx_ways_w (E : zEv p m c cX11_ways 5 s args RX11 meth (some .int) G) {res : (zM × Int)} {M : zM} {a0 : Int} {a1 : Int} {H : Heap} {locs : List Loc} {ls : Array Slot} (ha0 : InR a0) (ha1 : InR a1) (S : zS G top L M s H locs) (hl : zLV ls 5 [some (zR G.2.2.1 a0), some (.int (zO a1)), none, none, none]) (h : Lx_ways fu L M a0 a1 = some res) : W p l e (zrm 6 0 0) s m args below meth c H locs 0 0 (MQ below (zQ G top L res.1 (some (.int (zO res.2))) (InR res.2)) args s 0 0 (zA G)) (F0 m 0 ls []) := by
  unfold Lx_ways at h
  refine u_al_n (x := a0) E (Lx_ways_dc.at 0 rfl) hl rfl ?_
  obtain ⟨g1, h⟩ := ite_e h
  refine u_gR E zf_11_4 S g1 zw_2_136 (Lx_ways_dc.at 1 rfl) ?_
  refine u_il_n (x := a1) E (Lx_ways_dc.at 2 rfl) hl rfl ?_
  obtain ⟨g2, h⟩ := ite_e h
  obtain ⟨r3, er3, h⟩ := bd1_e h
  refine u_cVR (As := [.int (zO a1)]) (rest := []) E S zcw_yX1_giftAt zw_4_39 zw_4_40 zw_4_128 zck_1.1 rfl g2 (Af_giftAt_c l G fu top L M (M a0 4) a1 (S.1.inR _ _) ha1 er3) (zrm_ok (by decide) (by decide)) ⟨Nat.le_refl 0, Nat.le_refl 0⟩ rfl (Nat.zero_le 8) hl.size rfl (Lx_ways_dc.at 3 rfl) (fun H locs hr3 S4 => ?_)
  refine u_ast_n (y := r3) (vs' := [some (zR G.2.2.1 a0), some (.int (zO a1)), some (zR G.2.2.1 r3), none, none]) E rfl (Lx_ways_dc.at 4 rfl) hl (by decide) rfl (fun ls hl => ?_)
  refine u_al_n (x := r3) E (Lx_ways_dc.at 5 rfl) hl rfl ?_
  refine r_ifnonnull (tgt := 15) E (Lx_ways_dc.at 6 rfl) (by decide) (fun q => ?_) (fun q => ?_)
  · have h := ite_t h q
    refine r_iconst E (Lx_ways_dc.at 7 rfl) ?_
    cases h
    exact r_iret E S4 (show InR (-1) by decide) (Lx_ways_dc.at 8 rfl)
  · have h := ite_f h q
    refine r_iconst E (Lx_ways_dc.at 9 rfl) ?_
    refine u_ist_n (y := 0) (vs' := [some (zR G.2.2.1 a0), some (.int (zO a1)), some (zR G.2.2.1 r3), some (.int (zO 0)), none]) E rfl (Lx_ways_dc.at 10 rfl) hl (by decide) rfl (fun ls hl => ?_)
    refine r_iconst E (Lx_ways_dc.at 11 rfl) ?_
    refine u_ist (y := 0) (vs' := [some (zR G.2.2.1 a0), some (.int (zO a1)), some (zR G.2.2.1 r3), some (.int (zO 0)), some (.int (zO 0))]) E rfl (Lx_ways_dc.at 12 rfl) hl (by decide) rfl (fun ls hl => ?_)
    exact Lx_ways_l20_w E fu _ a0 r3 0 0 ha0 hr3 (show InR 0 by decide) (show InR 0 by decide) _ _ _ S4 (hl.sub (And.intro rfl (And.intro rfl (And.intro rfl (And.intro rfl True.intro))))) h
theorem Lx_ways_c (l : Launch) (G : zG) (fu : Nat) (top : Int) (L : zL) (M : zM) (a0 : Int) (a1 : Int) {res : (zM × Int)} (ha0 : InR a0) (ha1 : InR a1) (h : Lx_ways fu L M a0 a1 = some res) : Met l yX11_ways (Cond.code yX11_ways cX11_ways 5 (some .int) :: zTB) (zrm 6 0 0) (va_Pc [zR G.2.2.1 a0, .int (zO a1)] (zPre G top L M)) (zQ G top L res.1 (some (.int (zO res.2))) (InR res.2)) 0 0 (zA G) :=
  z_met (by decide +kernel) (by simp [zR_cat, zcat_I, zcat_S]) (Nat.le_of_ble_eq_true rfl) fun p e s m below meth c ls E hn S hl => Lx_ways_w E ha0 ha1 S (hl.sub (And.intro rfl (And.intro rfl True.intro))) h
end
theorem Lx_lowered_dc : zDL cX11_lowered [(0, .aload_n 0, 1, 1), (1, .getfield 42, 3, 4), (4, .iload_n 1, 1, 5), (5, .invokevirtual 148, 3, 8), (8, .astore_n 2, 1, 9), (9, .aload_n 2, 1, 10), (10, .ifnonnull 5, 3, 13), (13, .iconst (-1), 1, 14), (14, .ireturn, 1, 15), (15, .bipush 99, 2, 17), (17, .istore_n 3, 1, 18), (18, .iload_n 3, 1, 19), (19, .ifCond .lt 45, 3, 22), (22, .aload_n 0, 1, 23), (23, .getfield 78, 3, 26), (26, .aload_n 0, 1, 27), (27, .getfield 42, 3, 30), (30, .aload_n 2, 1, 31), (31, .aload_n 2, 1, 32), (32, .getfield 303, 3, 35), (35, .iload_n 3, 1, 36), (36, .invokevirtual 299, 3, 39), (39, .aload_n 0, 1, 40), (40, .getfield 78, 3, 43), (43, .aload_n 0, 1, 44), (44, .getfield 78, 3, 47), (47, .invokevirtual 269, 3, 50), (50, .invokevirtual 272, 3, 53), (53, .ifCond .eq 5, 3, 56), (56, .iload_n 3, 1, 57), (57, .ireturn, 1, 58), (58, .iinc 3 (-1), 3, 61), (61, .goto (-43), 3, 64), (64, .iconst (-1), 1, 65), (65, .ireturn, 1, 66)] := zDL.of (by decide +kernel)
section
variable {p : Program} {l : Launch} {e : Env} {s : State} {m : MethodId} {args : Array Value} {below : List Frame} {meth : Method} {c : Code} {G : zG} {top : Int} {L : zL} {fu : Nat}
theorem Lx_lowered_s18_w (E : zEv p m c cX11_lowered 4 s args RX11 meth (some .int) G) {res : (zM × Int)} {k18 : zM → Int → Int → Int → Option (zM × Int)} (hk18 : ∀ (M : zM) (x0 : Int) (x2 : Int) (x3 : Int), InR x0 → InR x2 → InR x3 → ∀ (H : Heap) (locs : List Loc) (ls : Array Slot), zS G top L M s H locs → zLV ls 4 [some (zR G.2.2.1 x0), none, some (zR G.2.2.1 x2), some (.int (zO x3))] → k18 M x0 x2 x3 = some res → W p l e (zrm 6 0 0) s m args below meth c H locs 0 0 (MQ below (zQ G top L res.1 (some (.int (zO res.2))) (InR res.2)) args s 0 0 (zA G)) (F0 m 18 ls [])) {M : zM} {x0 : Int} {x2 : Int} {x3 : Int} {H : Heap} {locs : List Loc} {ls : Array Slot} (hx0 : InR x0) (hx2 : InR x2) (hx3 : InR x3) (S : zS G top L M s H locs) (hl : zLV ls 4 [some (zR G.2.2.1 x0), none, some (zR G.2.2.1 x2), some (.int (zO x3))]) (h : Lx_lowered_s18 fu k18 L M x0 x2 x3 = some res) : W p l e (zrm 6 0 0) s m args below meth c H locs 0 0 (MQ below (zQ G top L res.1 (some (.int (zO res.2))) (InR res.2)) args s 0 0 (zA G)) (F0 m 18 ls []) := by
  unfold Lx_lowered_s18 at h
  refine u_il_n (x := x3) E (Lx_lowered_dc.at 11 rfl) hl rfl ?_
  refine r_if_lt (tgt := 64) E hx3 (Lx_lowered_dc.at 12 rfl) (by decide) (fun q => ?_) (fun q => ?_)
  · have h := ite_t h q
    refine r_iconst E (Lx_lowered_dc.at 33 rfl) ?_
    cases h
    exact r_iret E S (show InR (-1) by decide) (Lx_lowered_dc.at 34 rfl)
  · have h := ite_f h q
    refine u_al_n (x := x0) E (Lx_lowered_dc.at 13 rfl) hl rfl ?_
    obtain ⟨g5, h⟩ := ite_e h
    refine u_gR E zf_11_9 S g5 zw_2_141 (Lx_lowered_dc.at 14 rfl) ?_
    refine u_al_n (x := x0) E (Lx_lowered_dc.at 15 rfl) hl rfl ?_
    refine u_gR E zf_11_4 S g5 zw_2_136 (Lx_lowered_dc.at 16 rfl) ?_
    refine u_al_n (x := x2) E (Lx_lowered_dc.at 17 rfl) hl rfl ?_
    refine u_al_n (x := x2) E (Lx_lowered_dc.at 18 rfl) hl rfl ?_
    obtain ⟨g6, h⟩ := ite_e h
    refine u_gI E zf_3_3 S g6 zw_4_86 (Lx_lowered_dc.at 19 rfl) ?_
    refine u_il_n (x := x3) E (Lx_lowered_dc.at 20 rfl) hl rfl ?_
    obtain ⟨g7, h⟩ := ite_e h
    obtain ⟨M8, eM8, h⟩ := bd1_e h
    refine u_cVU (As := [zR G.2.2.1 (M x0 4), zR G.2.2.1 x2, .int (zO (M x2 3)), .int (zO x3)]) (rest := []) E S zcw_yX8_take zw_5_129 zw_5_130 zw_5_128 zck_8.1 rfl g7 (Tr_take_c l G fu top L M (M x0 9) (M x0 4) x2 (M x2 3) x3 (S.1.inR _ _) (S.1.inR _ _) hx2 (S.1.inR _ _) hx3 eM8) (zrm_ok (by decide) (by decide)) ⟨Nat.le_refl 0, Nat.le_refl 0⟩ rfl (Nat.zero_le 8) hl.size rfl (Lx_lowered_dc.at 21 rfl) (fun H locs _ S9 => ?_)
    refine u_al_n (x := x0) E (Lx_lowered_dc.at 22 rfl) hl rfl ?_
    refine u_gR E zf_11_9 S9 g5 zw_2_141 (Lx_lowered_dc.at 23 rfl) ?_
    refine u_al_n (x := x0) E (Lx_lowered_dc.at 24 rfl) hl rfl ?_
    refine u_gR E zf_11_9 S9 g5 zw_2_141 (Lx_lowered_dc.at 25 rfl) ?_
    obtain ⟨g10, h⟩ := ite_e h
    obtain ⟨r11, er11, h⟩ := bd1_e h
    refine u_cVI (As := []) (rest := [zR G.2.2.1 (M8 x0 9)]) E S9 zcw_yX8_allLives zw_5_151 zw_5_152 zw_5_150 zck_8.1 rfl g10 (Tr_allLives_c l G fu top L M8 (M8 x0 9) (S9.1.inR _ _) er11) (zrm_ok (by decide) (by decide)) ⟨Nat.le_refl 0, Nat.le_refl 0⟩ rfl (by simp [zR_cat, zcat_I, zcat_J, zcat_S]) hl.size rfl (Lx_lowered_dc.at 26 rfl) (fun H locs hr11 S12 => ?_)
    obtain ⟨M14, r13, er13, h⟩ := bd2_e h
    refine u_cVI (As := [.int (zO r11)]) (rest := []) E S12 zcw_yX8_passes zw_5_156 zw_5_157 zw_5_155 zck_8.1 rfl g10 (Tr_passes_c l G fu top L M8 (M8 x0 9) r11 (S9.1.inR _ _) hr11 er13) (zrm_ok (by decide) (by decide)) ⟨Nat.le_refl 0, Nat.le_refl 0⟩ rfl (Nat.zero_le 8) hl.size rfl (Lx_lowered_dc.at 27 rfl) (fun H locs hr13 S15 => ?_)
    refine r_if_eq (tgt := 58) E (inR_01 hr13) (Lx_lowered_dc.at 28 rfl) (by decide) (fun q => ?_) (fun q => ?_)
    · have h := ite_t h q
      obtain ⟨v16, ev16, h⟩ := lt1_e h
      have hv16 := inR_eq ev16 (inR_w32 _)
      refine u_iinc (y := v16) (vs' := [some (zR G.2.2.1 x0), none, some (zR G.2.2.1 x2), some (.int (zO v16))]) E ev16 (Lx_lowered_dc.at 31 rfl) hl rfl (by decide) rfl (fun ls hl => ?_)
      refine r_goto (tgt := 18) E (Lx_lowered_dc.at 32 rfl) (by decide) ?_
      exact hk18 _ x0 x2 v16 hx0 hx2 hv16 _ _ _ S15 (hl.sub (And.intro rfl (And.intro rfl (And.intro rfl True.intro)))) h
    · have h := ite_f h q
      refine u_il_n (x := x3) E (Lx_lowered_dc.at 29 rfl) hl rfl ?_
      cases h
      exact r_iret E S15 hx3 (Lx_lowered_dc.at 30 rfl)
theorem Lx_lowered_l18_w (E : zEv p m c cX11_lowered 4 s args RX11 meth (some .int) G) {res : (zM × Int)} : ∀ (n : Nat) (M : zM) (x0 : Int) (x2 : Int) (x3 : Int), InR x0 → InR x2 → InR x3 → ∀ (H : Heap) (locs : List Loc) (ls : Array Slot), zS G top L M s H locs → zLV ls 4 [some (zR G.2.2.1 x0), none, some (zR G.2.2.1 x2), some (.int (zO x3))] → Lx_lowered_l18 fu L n M x0 x2 x3 = some res → W p l e (zrm 6 0 0) s m args below meth c H locs 0 0 (MQ below (zQ G top L res.1 (some (.int (zO res.2))) (InR res.2)) args s 0 0 (zA G)) (F0 m 18 ls [])
  | 0, _, _, _, _ => fun _ _ _ _ _ _ _ _ h => (by cases h)
  | n + 1, M, x0, x2, x3 => fun hx0 hx2 hx3 H locs ls S hl h => Lx_lowered_s18_w E (fun M x0 x2 x3 hx0 hx2 hx3 H locs ls S hl h => Lx_lowered_l18_w E n M x0 x2 x3 hx0 hx2 hx3 H locs ls S hl h) hx0 hx2 hx3 S hl h
theorem Lx_lowered_w (E : zEv p m c cX11_lowered 4 s args RX11 meth (some .int) G) {res : (zM × Int)} {M : zM} {a0 : Int} {a1 : Int} {H : Heap} {locs : List Loc} {ls : Array Slot} (ha0 : InR a0) (ha1 : InR a1) (S : zS G top L M s H locs) (hl : zLV ls 4 [some (zR G.2.2.1 a0), some (.int (zO a1)), none, none]) (h : Lx_lowered fu L M a0 a1 = some res) : W p l e (zrm 6 0 0) s m args below meth c H locs 0 0 (MQ below (zQ G top L res.1 (some (.int (zO res.2))) (InR res.2)) args s 0 0 (zA G)) (F0 m 0 ls []) := by
  unfold Lx_lowered at h
  refine u_al_n (x := a0) E (Lx_lowered_dc.at 0 rfl) hl rfl ?_
  obtain ⟨g1, h⟩ := ite_e h
  refine u_gR E zf_11_4 S g1 zw_2_136 (Lx_lowered_dc.at 1 rfl) ?_
  refine u_il_n (x := a1) E (Lx_lowered_dc.at 2 rfl) hl rfl ?_
  obtain ⟨g2, h⟩ := ite_e h
  obtain ⟨r3, er3, h⟩ := bd1_e h
  refine u_cVR (As := [.int (zO a1)]) (rest := []) E S zcw_yX1_giftAt zw_4_39 zw_4_40 zw_4_128 zck_1.1 rfl g2 (Af_giftAt_c l G fu top L M (M a0 4) a1 (S.1.inR _ _) ha1 er3) (zrm_ok (by decide) (by decide)) ⟨Nat.le_refl 0, Nat.le_refl 0⟩ rfl (Nat.zero_le 8) hl.size rfl (Lx_lowered_dc.at 3 rfl) (fun H locs hr3 S4 => ?_)
  refine u_ast_n (y := r3) (vs' := [some (zR G.2.2.1 a0), some (.int (zO a1)), some (zR G.2.2.1 r3), none]) E rfl (Lx_lowered_dc.at 4 rfl) hl (by decide) rfl (fun ls hl => ?_)
  refine u_al_n (x := r3) E (Lx_lowered_dc.at 5 rfl) hl rfl ?_
  refine r_ifnonnull (tgt := 15) E (Lx_lowered_dc.at 6 rfl) (by decide) (fun q => ?_) (fun q => ?_)
  · have h := ite_t h q
    refine r_iconst E (Lx_lowered_dc.at 7 rfl) ?_
    cases h
    exact r_iret E S4 (show InR (-1) by decide) (Lx_lowered_dc.at 8 rfl)
  · have h := ite_f h q
    refine r_bipush E (Lx_lowered_dc.at 9 rfl) rfl ?_
    refine u_ist_n (y := 99) (vs' := [some (zR G.2.2.1 a0), some (.int (zO a1)), some (zR G.2.2.1 r3), some (.int (zO 99))]) E rfl (Lx_lowered_dc.at 10 rfl) hl (by decide) rfl (fun ls hl => ?_)
    exact Lx_lowered_l18_w E fu _ a0 r3 99 ha0 hr3 (show InR 99 by decide) _ _ _ S4 (hl.sub (And.intro rfl (And.intro rfl (And.intro rfl True.intro)))) h
theorem Lx_lowered_c (l : Launch) (G : zG) (fu : Nat) (top : Int) (L : zL) (M : zM) (a0 : Int) (a1 : Int) {res : (zM × Int)} (ha0 : InR a0) (ha1 : InR a1) (h : Lx_lowered fu L M a0 a1 = some res) : Met l yX11_lowered (Cond.code yX11_lowered cX11_lowered 4 (some .int) :: zTB) (zrm 6 0 0) (va_Pc [zR G.2.2.1 a0, .int (zO a1)] (zPre G top L M)) (zQ G top L res.1 (some (.int (zO res.2))) (InR res.2)) 0 0 (zA G) :=
  z_met (by decide +kernel) (by simp [zR_cat, zcat_I, zcat_S]) (Nat.le_of_ble_eq_true rfl) fun p e s m below meth c ls E hn S hl => Lx_lowered_w E ha0 ha1 S (hl.sub (And.intro rfl (And.intro rfl True.intro))) h
end
theorem Tr_isCourse_dc : zDL cX8_isCourse [(0, .iload_n 1, 1, 1), (1, .ifCond .lt 26, 3, 4), (4, .iload_n 1, 1, 5), (5, .sipush 512, 3, 8), (8, .if_icmp .ge 19, 3, 11), (11, .aload_n 0, 1, 12), (12, .iload_n 1, 1, 13), (13, .sipush 255, 3, 16), (16, .iand, 1, 17), (17, .invokevirtual 111, 3, 20), (20, .ifCond .eq 7, 3, 23), (23, .iconst 1, 1, 24), (24, .goto 4, 3, 27), (27, .iconst 0, 1, 28), (28, .ireturn, 1, 29)] := zDL.of (by decide +kernel)
section
variable {p : Program} {l : Launch} {e : Env} {s : State} {m : MethodId} {args : Array Value} {below : List Frame} {meth : Method} {c : Code} {G : zG} {top : Int} {L : zL} {fu : Nat}
theorem Tr_isCourse_w (E : zEv p m c cX8_isCourse 2 s args RX8 meth (some .boolean) G) {res : Int} {M : zM} {a0 : Int} {a1 : Int} {H : Heap} {locs : List Loc} {ls : Array Slot} (ha0 : InR a0) (ha1 : InR a1) (S : zS G top L M s H locs) (hl : zLV ls 2 [some (zR G.2.2.1 a0), some (.int (zO a1))]) (h : Tr_isCourse fu L M a0 a1 = some res) : W p l e (zrm 3 0 0) s m args below meth c H locs 0 0 (MQ below (zQ G top L M (some (.int (zO res))) (0 ≤ res ∧ res ≤ 1)) args s 0 0 (zA G)) (F0 m 0 ls []) := by
  unfold Tr_isCourse at h
  refine u_il_n (x := a1) E (Tr_isCourse_dc.at 0 rfl) hl rfl ?_
  refine r_if_lt (tgt := 27) E ha1 (Tr_isCourse_dc.at 1 rfl) (by decide) (fun q => ?_) (fun q => ?_)
  · have h := ite_t h q
    refine r_iconst E (Tr_isCourse_dc.at 13 rfl) ?_
    cases h
    exact r_zret E S z01_0 z01_0 (Tr_isCourse_dc.at 14 rfl)
  · have h := ite_f h q
    refine u_il_n (x := a1) E (Tr_isCourse_dc.at 2 rfl) hl rfl ?_
    refine r_sipush E (Tr_isCourse_dc.at 3 rfl) rfl ?_
    refine r_icmp_ge (tgt := 27) E ha1 (show InR 512 by decide) (Tr_isCourse_dc.at 4 rfl) (by decide) (fun q => ?_) (fun q => ?_)
    · have h := ite_t h q
      refine u_al_n (x := a0) E (Tr_isCourse_dc.at 5 rfl) hl rfl ?_
      refine u_il_n (x := a1) E (Tr_isCourse_dc.at 6 rfl) hl rfl ?_
      refine r_sipush E (Tr_isCourse_dc.at 7 rfl) rfl ?_
      refine r_iand E (Tr_isCourse_dc.at 8 rfl) ?_
      obtain ⟨g1, h⟩ := ite_e h
      obtain ⟨r2, er2, h⟩ := bd1_e h
      refine u_cVI (As := [.int (zO (iand a1 255))]) (rest := []) E S zcw_yX8_isSet zw_5_195 zw_5_196 zw_6_18 zck_8.1 rfl g1 (Tr_isSet_c l G fu top L M a0 (iand a1 255) ha0 (inR_iand _ _) er2) (zrm_ok (by decide) (by decide)) ⟨Nat.le_refl 0, Nat.le_refl 0⟩ rfl (Nat.zero_le 8) hl.size rfl (Tr_isCourse_dc.at 9 rfl) (fun H locs hr2 S3 => ?_)
      refine r_if_eq (tgt := 27) E (inR_01 hr2) (Tr_isCourse_dc.at 10 rfl) (by decide) (fun q => ?_) (fun q => ?_)
      · have h := ite_t h q
        refine r_iconst E (Tr_isCourse_dc.at 13 rfl) ?_
        cases h
        exact r_zret E S3 z01_0 z01_0 (Tr_isCourse_dc.at 14 rfl)
      · have h := ite_f h q
        refine r_iconst E (Tr_isCourse_dc.at 11 rfl) ?_
        refine r_goto (tgt := 28) E (Tr_isCourse_dc.at 12 rfl) (by decide) ?_
        cases h
        exact r_zret E S3 z01_1 z01_1 (Tr_isCourse_dc.at 14 rfl)
    · have h := ite_f h q
      refine r_iconst E (Tr_isCourse_dc.at 13 rfl) ?_
      cases h
      exact r_zret E S z01_0 z01_0 (Tr_isCourse_dc.at 14 rfl)
theorem Tr_isCourse_c (l : Launch) (G : zG) (fu : Nat) (top : Int) (L : zL) (M : zM) (a0 : Int) (a1 : Int) {res : Int} (ha0 : InR a0) (ha1 : InR a1) (h : Tr_isCourse fu L M a0 a1 = some res) : Met l yX8_isCourse (Cond.code yX8_isCourse cX8_isCourse 2 (some .boolean) :: zTB) (zrm 3 0 0) (va_Pc [zR G.2.2.1 a0, .int (zO a1)] (zPre G top L M)) (zQ G top L M (some (.int (zO res))) (0 ≤ res ∧ res ≤ 1)) 0 0 (zA G) :=
  z_met (by decide +kernel) (by simp [zR_cat, zcat_I, zcat_S]) (Nat.le_of_ble_eq_true rfl) fun p e s m below meth c ls E hn S hl => Tr_isCourse_w E ha0 ha1 S (hl.sub (And.intro rfl (And.intro rfl True.intro))) h
end
theorem Tr_follow_dc : zDL cX8_follow [(0, .aload_n 0, 1, 1), (1, .iload_n 1, 1, 2), (2, .sipush 256, 3, 5), (5, .iand, 1, 6), (6, .ifCond .eq 7, 3, 9), (9, .iconst 1, 1, 10), (10, .goto 4, 3, 13), (13, .iconst 0, 1, 14), (14, .putfield 135, 3, 17), (17, .aload_n 0, 1, 18), (18, .iconst 0, 1, 19), (19, .putfield 139, 3, 22), (22, .iconst 0, 1, 23), (23, .istore_n 2, 1, 24), (24, .iload_n 2, 1, 25), (25, .aload_n 0, 1, 26), (26, .getfield 18, 3, 29), (29, .getfield 82, 3, 32), (32, .if_icmp .ge 46, 3, 35), (35, .iload_n 1, 1, 36), (36, .iload_n 2, 1, 37), (37, .ishr, 1, 38), (38, .iconst 1, 1, 39), (39, .iand, 1, 40), (40, .iconst 1, 1, 41), (41, .if_icmp .ne 7, 3, 44), (44, .iconst 1, 1, 45), (45, .goto 5, 3, 48), (48, .bipush 60, 2, 50), (50, .istore_n 3, 1, 51), (51, .aload_n 0, 1, 52), (52, .getfield 18, 3, 55), (55, .iload_n 2, 1, 56), (56, .iload_n 3, 1, 57), (57, .invokevirtual 142, 3, 60), (60, .aload_n 0, 1, 61), (61, .aload_n 0, 1, 62), (62, .getfield 139, 3, 65), (65, .iload_n 3, 1, 66), (66, .invokestatic 146, 3, 69), (69, .putfield 139, 3, 72), (72, .iinc 2 1, 3, 75), (75, .goto (-51), 3, 78), (78, .return_, 1, 79)] := zDL.of (by decide +kernel)
section
variable {p : Program} {l : Launch} {e : Env} {s : State} {m : MethodId} {args : Array Value} {below : List Frame} {meth : Method} {c : Code} {G : zG} {top : Int} {L : zL} {fu : Nat}
theorem Tr_follow_b50_w (E : zEv p m c cX8_follow 4 s args RX8 meth none G) {res : zM} {k24 : zM → Int → Int → Int → Option zM} (hk24 : ∀ (M : zM) (x0 : Int) (x1 : Int) (x2 : Int), InR x0 → InR x1 → InR x2 → ∀ (H : Heap) (locs : List Loc) (ls : Array Slot), zS G top L M s H locs → zLV ls 4 [some (zR G.2.2.1 x0), some (.int (zO x1)), some (.int (zO x2)), none] → k24 M x0 x1 x2 = some res → W p l e (zrm 3 0 0) s m args below meth c H locs 0 0 (MQ below (zQ G top L res none True) args s 0 0 (zA G)) (F0 m 24 ls [])) {M : zM} {x0 : Int} {x1 : Int} {x2 : Int} {y0 : Int} {H : Heap} {locs : List Loc} {ls : Array Slot} (hx0 : InR x0) (hx1 : InR x1) (hx2 : InR x2) (hy0 : InR y0) (S : zS G top L M s H locs) (hl : zLV ls 4 [some (zR G.2.2.1 x0), some (.int (zO x1)), some (.int (zO x2)), none]) (h : Tr_follow_b50 fu k24 L M x0 x1 x2 y0 = some res) : W p l e (zrm 3 0 0) s m args below meth c H locs 0 0 (MQ below (zQ G top L res none True) args s 0 0 (zA G)) (F0 m 50 ls [.int (zO y0)]) := by
  unfold Tr_follow_b50 at h
  refine u_ist_n (y := y0) (vs' := [some (zR G.2.2.1 x0), some (.int (zO x1)), some (.int (zO x2)), some (.int (zO y0))]) E rfl (Tr_follow_dc.at 29 rfl) hl (by decide) rfl (fun ls hl => ?_)
  refine u_al_n (x := x0) E (Tr_follow_dc.at 30 rfl) hl rfl ?_
  obtain ⟨g8, h⟩ := ite_e h
  refine u_gR E zf_8_2 S g8 zw_2_97 (Tr_follow_dc.at 31 rfl) ?_
  refine u_il_n (x := x2) E (Tr_follow_dc.at 32 rfl) hl rfl ?_
  refine u_il_n (x := y0) E (Tr_follow_dc.at 33 rfl) hl rfl ?_
  obtain ⟨g9, h⟩ := ite_e h
  obtain ⟨M10, eM10, h⟩ := bd1_e h
  refine u_cVU (As := [.int (zO x2), .int (zO y0)]) (rest := []) E S zcw_yX10_setDeath zw_4_31 zw_4_32 zw_6_27 zck_10.1 rfl g9 (Wd_setDeath_c l G fu top L M (M x0 2) x2 y0 (S.1.inR _ _) hx2 hy0 eM10) (zrm_ok (by decide) (by decide)) ⟨Nat.le_refl 0, Nat.le_refl 0⟩ rfl (Nat.zero_le 8) hl.size rfl (Tr_follow_dc.at 34 rfl) (fun H locs _ S11 => ?_)
  refine u_al_n (x := x0) E (Tr_follow_dc.at 35 rfl) hl rfl ?_
  refine u_al_n (x := x0) E (Tr_follow_dc.at 36 rfl) hl rfl ?_
  refine u_gI E zf_8_10 S11 g8 zw_2_105 (Tr_follow_dc.at 37 rfl) ?_
  refine u_il_n (x := y0) E (Tr_follow_dc.at 38 rfl) hl rfl ?_
  refine r_max (rest := [zR G.2.2.1 x0]) E (S11.1.inR _ _) hy0 hl.size zw_6_28 zw_4_56 zw_1_17 zw_4_57 (by decide) (by simp [zR_cat, zcat_I, zcat_J, zcat_S, zrm]) ⟨Nat.zero_le _, Nat.zero_le _⟩ (Tr_follow_dc.at 39 rfl) ?_
  obtain ⟨M12, eM12, h⟩ := lt1_e h
  refine u_pI E eM12 zf_8_10 S11 g8 (inR_max (S11.1.inR _ _) hy0) (Or.inl rfl) rfl zw_2_105 (Tr_follow_dc.at 40 rfl) (fun H locs S13 => ?_)
  obtain ⟨v14, ev14, h⟩ := lt1_e h
  have hv14 := inR_eq ev14 (inR_w32 _)
  refine u_iinc (y := v14) (vs' := [some (zR G.2.2.1 x0), some (.int (zO x1)), some (.int (zO v14)), some (.int (zO y0))]) E ev14 (Tr_follow_dc.at 41 rfl) hl rfl (by decide) rfl (fun ls hl => ?_)
  refine r_goto (tgt := 24) E (Tr_follow_dc.at 42 rfl) (by decide) ?_
  exact hk24 _ x0 x1 v14 hx0 hx1 hv14 _ _ _ S13 (hl.sub (And.intro rfl (And.intro rfl (And.intro rfl True.intro)))) h
theorem Tr_follow_s24_w (E : zEv p m c cX8_follow 4 s args RX8 meth none G) {res : zM} {k24 : zM → Int → Int → Int → Option zM} (hk24 : ∀ (M : zM) (x0 : Int) (x1 : Int) (x2 : Int), InR x0 → InR x1 → InR x2 → ∀ (H : Heap) (locs : List Loc) (ls : Array Slot), zS G top L M s H locs → zLV ls 4 [some (zR G.2.2.1 x0), some (.int (zO x1)), some (.int (zO x2)), none] → k24 M x0 x1 x2 = some res → W p l e (zrm 3 0 0) s m args below meth c H locs 0 0 (MQ below (zQ G top L res none True) args s 0 0 (zA G)) (F0 m 24 ls [])) {M : zM} {x0 : Int} {x1 : Int} {x2 : Int} {H : Heap} {locs : List Loc} {ls : Array Slot} (hx0 : InR x0) (hx1 : InR x1) (hx2 : InR x2) (S : zS G top L M s H locs) (hl : zLV ls 4 [some (zR G.2.2.1 x0), some (.int (zO x1)), some (.int (zO x2)), none]) (h : Tr_follow_s24 fu k24 L M x0 x1 x2 = some res) : W p l e (zrm 3 0 0) s m args below meth c H locs 0 0 (MQ below (zQ G top L res none True) args s 0 0 (zA G)) (F0 m 24 ls []) := by
  unfold Tr_follow_s24 at h
  refine u_il_n (x := x2) E (Tr_follow_dc.at 14 rfl) hl rfl ?_
  refine u_al_n (x := x0) E (Tr_follow_dc.at 15 rfl) hl rfl ?_
  obtain ⟨g6, h⟩ := ite_e h
  refine u_gR E zf_8_2 S g6 zw_2_97 (Tr_follow_dc.at 16 rfl) ?_
  obtain ⟨g7, h⟩ := ite_e h
  refine u_gI E zf_10_3 S g7 zw_1_194 (Tr_follow_dc.at 17 rfl) ?_
  refine r_icmp_ge (tgt := 78) E hx2 (S.1.inR _ _) (Tr_follow_dc.at 18 rfl) (by decide) (fun q => ?_) (fun q => ?_)
  · have h := ite_t h q
    refine u_il_n (x := x1) E (Tr_follow_dc.at 19 rfl) hl rfl ?_
    refine u_il_n (x := x2) E (Tr_follow_dc.at 20 rfl) hl rfl ?_
    refine r_ishr E (Tr_follow_dc.at 21 rfl) ?_
    refine r_iconst E (Tr_follow_dc.at 22 rfl) ?_
    refine r_iand E (Tr_follow_dc.at 23 rfl) ?_
    refine r_iconst E (Tr_follow_dc.at 24 rfl) ?_
    refine r_icmp_ne (tgt := 48) E (inR_iand _ _) (show InR 1 by decide) (Tr_follow_dc.at 25 rfl) (by decide) (fun q => ?_) (fun q => ?_)
    · have h := ite_t h q
      refine r_iconst E (Tr_follow_dc.at 26 rfl) ?_
      refine r_goto (tgt := 50) E (Tr_follow_dc.at 27 rfl) (by decide) ?_
      exact Tr_follow_b50_w (x0 := x0) (x1 := x1) (x2 := x2) (y0 := 1) E hk24 hx0 hx1 hx2 (show InR 1 by decide) S (hl.sub (And.intro rfl (And.intro rfl (And.intro rfl True.intro)))) h
    · have h := ite_f h q
      refine r_bipush E (Tr_follow_dc.at 28 rfl) rfl ?_
      exact Tr_follow_b50_w (x0 := x0) (x1 := x1) (x2 := x2) (y0 := 60) E hk24 hx0 hx1 hx2 (show InR 60 by decide) S (hl.sub (And.intro rfl (And.intro rfl (And.intro rfl True.intro)))) h
  · have h := ite_f h q
    cases h
    exact r_vret E S True.intro (Tr_follow_dc.at 43 rfl)
theorem Tr_follow_l24_w (E : zEv p m c cX8_follow 4 s args RX8 meth none G) {res : zM} : ∀ (n : Nat) (M : zM) (x0 : Int) (x1 : Int) (x2 : Int), InR x0 → InR x1 → InR x2 → ∀ (H : Heap) (locs : List Loc) (ls : Array Slot), zS G top L M s H locs → zLV ls 4 [some (zR G.2.2.1 x0), some (.int (zO x1)), some (.int (zO x2)), none] → Tr_follow_l24 fu L n M x0 x1 x2 = some res → W p l e (zrm 3 0 0) s m args below meth c H locs 0 0 (MQ below (zQ G top L res none True) args s 0 0 (zA G)) (F0 m 24 ls [])
  | 0, _, _, _, _ => fun _ _ _ _ _ _ _ _ h => (by cases h)
  | n + 1, M, x0, x1, x2 => fun hx0 hx1 hx2 H locs ls S hl h => Tr_follow_s24_w E (fun M x0 x1 x2 hx0 hx1 hx2 H locs ls S hl h => Tr_follow_l24_w E n M x0 x1 x2 hx0 hx1 hx2 H locs ls S hl h) hx0 hx1 hx2 S hl h
theorem Tr_follow_w (E : zEv p m c cX8_follow 4 s args RX8 meth none G) {res : zM} {M : zM} {a0 : Int} {a1 : Int} {H : Heap} {locs : List Loc} {ls : Array Slot} (ha0 : InR a0) (ha1 : InR a1) (S : zS G top L M s H locs) (hl : zLV ls 4 [some (zR G.2.2.1 a0), some (.int (zO a1)), none, none]) (h : Tr_follow fu L M a0 a1 = some res) : W p l e (zrm 3 0 0) s m args below meth c H locs 0 0 (MQ below (zQ G top L res none True) args s 0 0 (zA G)) (F0 m 0 ls []) := by
  unfold Tr_follow at h
  refine u_al_n (x := a0) E (Tr_follow_dc.at 0 rfl) hl rfl ?_
  refine u_il_n (x := a1) E (Tr_follow_dc.at 1 rfl) hl rfl ?_
  refine r_sipush E (Tr_follow_dc.at 2 rfl) rfl ?_
  refine r_iand E (Tr_follow_dc.at 3 rfl) ?_
  refine r_if_eq (tgt := 13) E (inR_iand _ _) (Tr_follow_dc.at 4 rfl) (by decide) (fun q => ?_) (fun q => ?_)
  · have h := ite_t h q
    refine r_iconst E (Tr_follow_dc.at 7 rfl) ?_
    obtain ⟨g1, h⟩ := ite_e h
    obtain ⟨M2, eM2, h⟩ := lt1_e h
    refine u_pZ E eM2 zf_8_11 S g1 z01_0 (Or.inl rfl) rfl zw_2_106 (Tr_follow_dc.at 8 rfl) (fun H locs S3 => ?_)
    refine u_al_n (x := a0) E (Tr_follow_dc.at 9 rfl) hl rfl ?_
    refine r_iconst E (Tr_follow_dc.at 10 rfl) ?_
    obtain ⟨M4, eM4, h⟩ := lt1_e h
    refine u_pI E eM4 zf_8_10 S3 g1 (show InR 0 by decide) (Or.inl rfl) rfl zw_2_105 (Tr_follow_dc.at 11 rfl) (fun H locs S5 => ?_)
    refine r_iconst E (Tr_follow_dc.at 12 rfl) ?_
    refine u_ist_n (y := 0) (vs' := [some (zR G.2.2.1 a0), some (.int (zO a1)), some (.int (zO 0)), none]) E rfl (Tr_follow_dc.at 13 rfl) hl (by decide) rfl (fun ls hl => ?_)
    exact Tr_follow_l24_w E fu _ a0 a1 0 ha0 ha1 (show InR 0 by decide) _ _ _ S5 (hl.sub (And.intro rfl (And.intro rfl (And.intro rfl True.intro)))) h
  · have h := ite_f h q
    refine r_iconst E (Tr_follow_dc.at 5 rfl) ?_
    refine r_goto (tgt := 14) E (Tr_follow_dc.at 6 rfl) (by decide) ?_
    obtain ⟨g15, h⟩ := ite_e h
    obtain ⟨M16, eM16, h⟩ := lt1_e h
    refine u_pZ E eM16 zf_8_11 S g15 z01_1 (Or.inl rfl) rfl zw_2_106 (Tr_follow_dc.at 8 rfl) (fun H locs S17 => ?_)
    refine u_al_n (x := a0) E (Tr_follow_dc.at 9 rfl) hl rfl ?_
    refine r_iconst E (Tr_follow_dc.at 10 rfl) ?_
    obtain ⟨M18, eM18, h⟩ := lt1_e h
    refine u_pI E eM18 zf_8_10 S17 g15 (show InR 0 by decide) (Or.inl rfl) rfl zw_2_105 (Tr_follow_dc.at 11 rfl) (fun H locs S19 => ?_)
    refine r_iconst E (Tr_follow_dc.at 12 rfl) ?_
    refine u_ist_n (y := 0) (vs' := [some (zR G.2.2.1 a0), some (.int (zO a1)), some (.int (zO 0)), none]) E rfl (Tr_follow_dc.at 13 rfl) hl (by decide) rfl (fun ls hl => ?_)
    exact Tr_follow_l24_w E fu _ a0 a1 0 ha0 ha1 (show InR 0 by decide) _ _ _ S19 (hl.sub (And.intro rfl (And.intro rfl (And.intro rfl True.intro)))) h
theorem Tr_follow_c (l : Launch) (G : zG) (fu : Nat) (top : Int) (L : zL) (M : zM) (a0 : Int) (a1 : Int) {res : zM} (ha0 : InR a0) (ha1 : InR a1) (h : Tr_follow fu L M a0 a1 = some res) : Met l yX8_follow (Cond.code yX8_follow cX8_follow 4 none :: zTB) (zrm 3 0 0) (va_Pc [zR G.2.2.1 a0, .int (zO a1)] (zPre G top L M)) (zQ G top L res none True) 0 0 (zA G) :=
  z_met (by decide +kernel) (by simp [zR_cat, zcat_I, zcat_S]) (Nat.le_of_ble_eq_true rfl) fun p e s m below meth c ls E hn S hl => Tr_follow_w E ha0 ha1 S (hl.sub (And.intro rfl (And.intro rfl True.intro))) h
end
theorem Tr_yearFollowed_dc : zDL cX8_yearFollowed [(0, .iload_n 1, 1, 1), (1, .ifCond .ne 31, 3, 4), (4, .aload_n 0, 1, 5), (5, .getfield 28, 3, 8), (8, .aload_n 0, 1, 9), (9, .getfield 18, 3, 12), (12, .aload_n 0, 1, 13), (13, .getfield 18, 3, 16), (16, .iload_n 2, 1, 17), (17, .invokevirtual 89, 3, 20), (20, .aload_n 0, 1, 21), (21, .getfield 18, 3, 24), (24, .iload_n 2, 1, 25), (25, .invokevirtual 155, 3, 28), (28, .invokevirtual 94, 3, 31), (31, .ireturn, 1, 32), (32, .aload_n 0, 1, 33), (33, .getfield 135, 3, 36), (36, .ifCond .eq 7, 3, 39), (39, .iconst 1, 1, 40), (40, .goto 11, 3, 43), (43, .aload_n 0, 1, 44), (44, .getfield 18, 3, 47), (47, .iload_n 2, 1, 48), (48, .invokevirtual 155, 3, 51), (51, .istore_n 3, 1, 52), (52, .iload_n 1, 1, 53), (53, .iconst 2, 1, 54), (54, .if_icmp .ne 6, 3, 57), (57, .iinc 3 30, 3, 60), (60, .aload_n 0, 1, 61), (61, .getfield 28, 3, 64), (64, .aload_n 0, 1, 65), (65, .getfield 18, 3, 68), (68, .iload_n 3, 1, 69), (69, .ldc 93, 2, 71), (71, .invokevirtual 94, 3, 74), (74, .ireturn, 1, 75)] := zDL.of (by decide +kernel)
section
variable {p : Program} {l : Launch} {e : Env} {s : State} {m : MethodId} {args : Array Value} {below : List Frame} {meth : Method} {c : Code} {G : zG} {top : Int} {L : zL} {fu : Nat}
theorem Tr_yearFollowed_b60_w (E : zEv p m c cX8_yearFollowed 4 s args RX8 meth (some .int) G) {res : (zM × Int)} {M : zM} {x0 : Int} {x3 : Int} {H : Heap} {locs : List Loc} {ls : Array Slot} (hx0 : InR x0) (hx3 : InR x3) (S : zS G top L M s H locs) (hl : zLV ls 4 [some (zR G.2.2.1 x0), none, none, some (.int (zO x3))]) (h : Tr_yearFollowed_b60 fu L M x0 x3 = some res) : W p l e (zrm 4 0 0) s m args below meth c H locs 0 0 (MQ below (zQ G top L res.1 (some (.int (zO res.2))) (InR res.2)) args s 0 0 (zA G)) (F0 m 60 ls []) := by
  unfold Tr_yearFollowed_b60 at h
  refine u_al_n (x := x0) E (Tr_yearFollowed_dc.at 30 rfl) hl rfl ?_
  obtain ⟨g16, h⟩ := ite_e h
  refine u_gR E zf_8_0 S g16 zw_2_95 (Tr_yearFollowed_dc.at 31 rfl) ?_
  refine u_al_n (x := x0) E (Tr_yearFollowed_dc.at 32 rfl) hl rfl ?_
  refine u_gR E zf_8_2 S g16 zw_2_97 (Tr_yearFollowed_dc.at 33 rfl) ?_
  refine u_il_n (x := x3) E (Tr_yearFollowed_dc.at 34 rfl) hl rfl ?_
  refine r_ldc (n := (-1000000)) E (Tr_yearFollowed_dc.at 35 rfl) zw_5_148 rfl ?_
  obtain ⟨g17, h⟩ := ite_e h
  obtain ⟨M19, r18, er18, h⟩ := bd2_e h
  refine u_cVI (As := [zR G.2.2.1 (M x0 2), .int (zO x3), .int (zO (-1000000))]) (rest := []) E S zcw_yX5_vestingYear zw_4_234 zw_4_235 zw_5_149 zck_5.1 rfl g17 (Rk_vestingYear_c l G fu top L M (M x0 0) (M x0 2) x3 (-1000000) (S.1.inR _ _) (S.1.inR _ _) hx3 (show InR (-1000000) by decide) er18) (zrm_ok (by decide) (by decide)) ⟨Nat.le_refl 0, Nat.le_refl 0⟩ rfl (Nat.zero_le 8) hl.size rfl (Tr_yearFollowed_dc.at 36 rfl) (fun H locs hr18 S20 => ?_)
  cases h
  exact r_iret E S20 hr18 (Tr_yearFollowed_dc.at 37 rfl)
theorem Tr_yearFollowed_w (E : zEv p m c cX8_yearFollowed 4 s args RX8 meth (some .int) G) {res : (zM × Int)} {M : zM} {a0 : Int} {a1 : Int} {a2 : Int} {H : Heap} {locs : List Loc} {ls : Array Slot} (ha0 : InR a0) (ha1 : InR a1) (ha2 : InR a2) (S : zS G top L M s H locs) (hl : zLV ls 4 [some (zR G.2.2.1 a0), some (.int (zO a1)), some (.int (zO a2)), none]) (h : Tr_yearFollowed fu L M a0 a1 a2 = some res) : W p l e (zrm 4 0 0) s m args below meth c H locs 0 0 (MQ below (zQ G top L res.1 (some (.int (zO res.2))) (InR res.2)) args s 0 0 (zA G)) (F0 m 0 ls []) := by
  unfold Tr_yearFollowed at h
  refine u_il_n (x := a1) E (Tr_yearFollowed_dc.at 0 rfl) hl rfl ?_
  refine r_if_ne (tgt := 32) E ha1 (Tr_yearFollowed_dc.at 1 rfl) (by decide) (fun q => ?_) (fun q => ?_)
  · have h := ite_t h q
    refine u_al_n (x := a0) E (Tr_yearFollowed_dc.at 2 rfl) hl rfl ?_
    obtain ⟨g1, h⟩ := ite_e h
    refine u_gR E zf_8_0 S g1 zw_2_95 (Tr_yearFollowed_dc.at 3 rfl) ?_
    refine u_al_n (x := a0) E (Tr_yearFollowed_dc.at 4 rfl) hl rfl ?_
    refine u_gR E zf_8_2 S g1 zw_2_97 (Tr_yearFollowed_dc.at 5 rfl) ?_
    refine u_al_n (x := a0) E (Tr_yearFollowed_dc.at 6 rfl) hl rfl ?_
    refine u_gR E zf_8_2 S g1 zw_2_97 (Tr_yearFollowed_dc.at 7 rfl) ?_
    refine u_il_n (x := a2) E (Tr_yearFollowed_dc.at 8 rfl) hl rfl ?_
    obtain ⟨g2, h⟩ := ite_e h
    obtain ⟨r3, er3, h⟩ := bd1_e h
    refine u_cVI (As := [.int (zO a2)]) (rest := [zR G.2.2.1 (M a0 2), zR G.2.2.1 (M a0 0)]) E S zcw_yX10_bornIn zw_4_19 zw_4_20 zw_5_143 zck_10.1 rfl g2 (Wd_bornIn_c l G fu top L M (M a0 2) a2 (S.1.inR _ _) ha2 er3) (zrm_ok (by decide) (by decide)) ⟨Nat.le_refl 0, Nat.le_refl 0⟩ rfl (by simp [zR_cat, zcat_I, zcat_J, zcat_S]) hl.size rfl (Tr_yearFollowed_dc.at 9 rfl) (fun H locs hr3 S4 => ?_)
    refine u_al_n (x := a0) E (Tr_yearFollowed_dc.at 10 rfl) hl rfl ?_
    refine u_gR E zf_8_2 S4 g1 zw_2_97 (Tr_yearFollowed_dc.at 11 rfl) ?_
    refine u_il_n (x := a2) E (Tr_yearFollowed_dc.at 12 rfl) hl rfl ?_
    obtain ⟨r5, er5, h⟩ := bd1_e h
    refine u_cVI (As := [.int (zO a2)]) (rest := [.int (zO r3), zR G.2.2.1 (M a0 2), zR G.2.2.1 (M a0 0)]) E S4 zcw_yX10_diedIn zw_4_27 zw_4_28 zw_6_33 zck_10.1 rfl g2 (Wd_diedIn_c l G fu top L M (M a0 2) a2 (S4.1.inR _ _) ha2 er5) (zrm_ok (by decide) (by decide)) ⟨Nat.le_refl 0, Nat.le_refl 0⟩ rfl (by simp [zR_cat, zcat_I, zcat_J, zcat_S]) hl.size rfl (Tr_yearFollowed_dc.at 13 rfl) (fun H locs hr5 S6 => ?_)
    obtain ⟨g7, h⟩ := ite_e h
    obtain ⟨M9, r8, er8, h⟩ := bd2_e h
    refine u_cVI (As := [zR G.2.2.1 (M a0 2), .int (zO r3), .int (zO r5)]) (rest := []) E S6 zcw_yX5_vestingYear zw_4_234 zw_4_235 zw_5_149 zck_5.1 rfl g7 (Rk_vestingYear_c l G fu top L M (M a0 0) (M a0 2) r3 r5 (S.1.inR _ _) (S.1.inR _ _) hr3 hr5 er8) (zrm_ok (by decide) (by decide)) ⟨Nat.le_refl 0, Nat.le_refl 0⟩ rfl (Nat.zero_le 8) hl.size rfl (Tr_yearFollowed_dc.at 14 rfl) (fun H locs hr8 S10 => ?_)
    cases h
    exact r_iret E S10 hr8 (Tr_yearFollowed_dc.at 15 rfl)
  · have h := ite_f h q
    refine u_al_n (x := a0) E (Tr_yearFollowed_dc.at 16 rfl) hl rfl ?_
    obtain ⟨g11, h⟩ := ite_e h
    refine u_gI E zf_8_11 S g11 zw_2_106 (Tr_yearFollowed_dc.at 17 rfl) ?_
    refine r_if_eq (tgt := 43) E (S.1.inR _ _) (Tr_yearFollowed_dc.at 18 rfl) (by decide) (fun q => ?_) (fun q => ?_)
    · have h := ite_t h q
      refine u_al_n (x := a0) E (Tr_yearFollowed_dc.at 21 rfl) hl rfl ?_
      refine u_gR E zf_8_2 S g11 zw_2_97 (Tr_yearFollowed_dc.at 22 rfl) ?_
      refine u_il_n (x := a2) E (Tr_yearFollowed_dc.at 23 rfl) hl rfl ?_
      obtain ⟨g12, h⟩ := ite_e h
      obtain ⟨r13, er13, h⟩ := bd1_e h
      refine u_cVI (As := [.int (zO a2)]) (rest := []) E S zcw_yX10_diedIn zw_4_27 zw_4_28 zw_6_33 zck_10.1 rfl g12 (Wd_diedIn_c l G fu top L M (M a0 2) a2 (S.1.inR _ _) ha2 er13) (zrm_ok (by decide) (by decide)) ⟨Nat.le_refl 0, Nat.le_refl 0⟩ rfl (Nat.zero_le 8) hl.size rfl (Tr_yearFollowed_dc.at 24 rfl) (fun H locs hr13 S14 => ?_)
      refine u_ist_n (y := r13) (vs' := [some (zR G.2.2.1 a0), some (.int (zO a1)), some (.int (zO a2)), some (.int (zO r13))]) E rfl (Tr_yearFollowed_dc.at 25 rfl) hl (by decide) rfl (fun ls hl => ?_)
      refine u_il_n (x := a1) E (Tr_yearFollowed_dc.at 26 rfl) hl rfl ?_
      refine r_iconst E (Tr_yearFollowed_dc.at 27 rfl) ?_
      refine r_icmp_ne (tgt := 60) E ha1 (show InR 2 by decide) (Tr_yearFollowed_dc.at 28 rfl) (by decide) (fun q => ?_) (fun q => ?_)
      · have h := ite_t h q
        obtain ⟨v15, ev15, h⟩ := lt1_e h
        have hv15 := inR_eq ev15 (inR_w32 _)
        refine u_iinc (y := v15) (vs' := [some (zR G.2.2.1 a0), some (.int (zO a1)), some (.int (zO a2)), some (.int (zO v15))]) E ev15 (Tr_yearFollowed_dc.at 29 rfl) hl rfl (by decide) rfl (fun ls hl => ?_)
        exact Tr_yearFollowed_b60_w (x0 := a0) (x3 := v15)  E ha0 hv15 S14 (hl.sub (And.intro rfl (And.intro rfl True.intro))) h
      · have h := ite_f h q
        exact Tr_yearFollowed_b60_w (x0 := a0) (x3 := r13)  E ha0 hr13 S14 (hl.sub (And.intro rfl (And.intro rfl True.intro))) h
    · have h := ite_f h q
      refine r_iconst E (Tr_yearFollowed_dc.at 19 rfl) ?_
      refine r_goto (tgt := 51) E (Tr_yearFollowed_dc.at 20 rfl) (by decide) ?_
      refine u_ist_n (y := 1) (vs' := [some (zR G.2.2.1 a0), some (.int (zO a1)), some (.int (zO a2)), some (.int (zO 1))]) E rfl (Tr_yearFollowed_dc.at 25 rfl) hl (by decide) rfl (fun ls hl => ?_)
      refine u_il_n (x := a1) E (Tr_yearFollowed_dc.at 26 rfl) hl rfl ?_
      refine r_iconst E (Tr_yearFollowed_dc.at 27 rfl) ?_
      refine r_icmp_ne (tgt := 60) E ha1 (show InR 2 by decide) (Tr_yearFollowed_dc.at 28 rfl) (by decide) (fun q => ?_) (fun q => ?_)
      · have h := ite_t h q
        obtain ⟨v21, ev21, h⟩ := lt1_e h
        have hv21 := inR_eq ev21 (inR_w32 _)
        refine u_iinc (y := v21) (vs' := [some (zR G.2.2.1 a0), some (.int (zO a1)), some (.int (zO a2)), some (.int (zO v21))]) E ev21 (Tr_yearFollowed_dc.at 29 rfl) hl rfl (by decide) rfl (fun ls hl => ?_)
        exact Tr_yearFollowed_b60_w (x0 := a0) (x3 := v21)  E ha0 hv21 S (hl.sub (And.intro rfl (And.intro rfl True.intro))) h
      · have h := ite_f h q
        exact Tr_yearFollowed_b60_w (x0 := a0) (x3 := 1)  E ha0 (show InR 1 by decide) S (hl.sub (And.intro rfl (And.intro rfl True.intro))) h
theorem Tr_yearFollowed_c (l : Launch) (G : zG) (fu : Nat) (top : Int) (L : zL) (M : zM) (a0 : Int) (a1 : Int) (a2 : Int) {res : (zM × Int)} (ha0 : InR a0) (ha1 : InR a1) (ha2 : InR a2) (h : Tr_yearFollowed fu L M a0 a1 a2 = some res) : Met l yX8_yearFollowed (Cond.code yX8_yearFollowed cX8_yearFollowed 4 (some .int) :: zTB) (zrm 4 0 0) (va_Pc [zR G.2.2.1 a0, .int (zO a1), .int (zO a2)] (zPre G top L M)) (zQ G top L res.1 (some (.int (zO res.2))) (InR res.2)) 0 0 (zA G) :=
  z_met (by decide +kernel) (by simp [zR_cat, zcat_I, zcat_S]) (Nat.le_of_ble_eq_true rfl) fun p e s m below meth c ls E hn S hl => Tr_yearFollowed_w E ha0 ha1 ha2 S (hl.sub (And.intro rfl (And.intro rfl (And.intro rfl True.intro)))) h
end
theorem Tr_isLateBy_dc : zDL cX8_isLateBy [(0, .aload_n 0, 1, 1), (1, .iload_n 1, 1, 2), (2, .invokevirtual 149, 3, 5), (5, .iconst 0, 1, 6), (6, .istore_n 2, 1, 7), (7, .iload_n 2, 1, 8), (8, .aload_n 0, 1, 9), (9, .getfield 71, 3, 12), (12, .if_icmp .ge 45, 3, 15), (15, .iload_n 2, 1, 16), (16, .bipush 24, 2, 18), (18, .if_icmp .ge 39, 3, 21), (21, .aload_n 0, 1, 22), (22, .aload_n 0, 1, 23), (23, .getfield 21, 3, 26), (26, .iload_n 2, 1, 27), (27, .iaload, 1, 28), (28, .aload_n 0, 1, 29), (29, .getfield 25, 3, 32), (32, .iload_n 2, 1, 33), (33, .iaload, 1, 34), (34, .invokevirtual 152, 3, 37), (37, .aload_n 0, 1, 38), (38, .getfield 139, 3, 41), (41, .aload_n 0, 1, 42), (42, .getfield 66, 3, 45), (45, .iadd, 1, 46), (46, .if_icmp .le 5, 3, 49), (49, .iconst 1, 1, 50), (50, .ireturn, 1, 51), (51, .iinc 2 1, 3, 54), (54, .goto (-47), 3, 57), (57, .iconst 0, 1, 58), (58, .ireturn, 1, 59)] := zDL.of (by decide +kernel)
section
variable {p : Program} {l : Launch} {e : Env} {s : State} {m : MethodId} {args : Array Value} {below : List Frame} {meth : Method} {c : Code} {G : zG} {top : Int} {L : zL} {fu : Nat}
theorem Tr_isLateBy_s7_w (E : zEv p m c cX8_isLateBy 3 s args RX8 meth (some .boolean) G) {res : (zM × Int)} {k7 : zM → Int → Int → Option (zM × Int)} (hk7 : ∀ (M : zM) (x0 : Int) (x2 : Int), InR x0 → InR x2 → ∀ (H : Heap) (locs : List Loc) (ls : Array Slot), zS G top L M s H locs → zLV ls 3 [some (zR G.2.2.1 x0), none, some (.int (zO x2))] → k7 M x0 x2 = some res → W p l e (zrm 5 0 0) s m args below meth c H locs 0 0 (MQ below (zQ G top L res.1 (some (.int (zO res.2))) (0 ≤ res.2 ∧ res.2 ≤ 1)) args s 0 0 (zA G)) (F0 m 7 ls [])) {M : zM} {x0 : Int} {x2 : Int} {H : Heap} {locs : List Loc} {ls : Array Slot} (hx0 : InR x0) (hx2 : InR x2) (S : zS G top L M s H locs) (hl : zLV ls 3 [some (zR G.2.2.1 x0), none, some (.int (zO x2))]) (h : Tr_isLateBy_s7 fu k7 L M x0 x2 = some res) : W p l e (zrm 5 0 0) s m args below meth c H locs 0 0 (MQ below (zQ G top L res.1 (some (.int (zO res.2))) (0 ≤ res.2 ∧ res.2 ≤ 1)) args s 0 0 (zA G)) (F0 m 7 ls []) := by
  unfold Tr_isLateBy_s7 at h
  refine u_il_n (x := x2) E (Tr_isLateBy_dc.at 5 rfl) hl rfl ?_
  refine u_al_n (x := x0) E (Tr_isLateBy_dc.at 6 rfl) hl rfl ?_
  obtain ⟨g4, h⟩ := ite_e h
  refine u_gI E zf_8_5 S g4 zw_2_100 (Tr_isLateBy_dc.at 7 rfl) ?_
  refine r_icmp_ge (tgt := 57) E hx2 (S.1.inR _ _) (Tr_isLateBy_dc.at 8 rfl) (by decide) (fun q => ?_) (fun q => ?_)
  · have h := ite_t h q
    refine u_il_n (x := x2) E (Tr_isLateBy_dc.at 9 rfl) hl rfl ?_
    refine r_bipush E (Tr_isLateBy_dc.at 10 rfl) rfl ?_
    refine r_icmp_ge (tgt := 57) E hx2 (show InR 24 by decide) (Tr_isLateBy_dc.at 11 rfl) (by decide) (fun q => ?_) (fun q => ?_)
    · have h := ite_t h q
      refine u_al_n (x := x0) E (Tr_isLateBy_dc.at 12 rfl) hl rfl ?_
      refine u_al_n (x := x0) E (Tr_isLateBy_dc.at 13 rfl) hl rfl ?_
      refine u_gR E zf_8_3 S g4 zw_2_98 (Tr_isLateBy_dc.at 14 rfl) ?_
      refine u_il_n (x := x2) E (Tr_isLateBy_dc.at 15 rfl) hl rfl ?_
      obtain ⟨g5, h⟩ := ite_e h
      obtain ⟨g6, h⟩ := ite_e h
      refine r_iald E S g5 g6 (Tr_isLateBy_dc.at 16 rfl) ?_
      refine u_al_n (x := x0) E (Tr_isLateBy_dc.at 17 rfl) hl rfl ?_
      refine u_gR E zf_8_4 S g4 zw_2_99 (Tr_isLateBy_dc.at 18 rfl) ?_
      refine u_il_n (x := x2) E (Tr_isLateBy_dc.at 19 rfl) hl rfl ?_
      obtain ⟨g7, h⟩ := ite_e h
      obtain ⟨g8, h⟩ := ite_e h
      refine r_iald E S g7 g8 (Tr_isLateBy_dc.at 20 rfl) ?_
      obtain ⟨M10, r9, er9, h⟩ := bd2_e h
      refine u_cVI (As := [.int (zO (M (M x0 3) x2)), .int (zO (M (M x0 4) x2))]) (rest := []) E S zcw_yX8_yearFollowed zw_6_31 zq_3_9 zw_6_29 zck_8.1 rfl g4 (Tr_yearFollowed_c l G fu top L M x0 (M (M x0 3) x2) (M (M x0 4) x2) hx0 (S.1.inR _ _) (S.1.inR _ _) er9) (zrm_ok (by decide) (by decide)) ⟨Nat.le_refl 0, Nat.le_refl 0⟩ rfl (Nat.zero_le 8) hl.size rfl (Tr_isLateBy_dc.at 21 rfl) (fun H locs hr9 S11 => ?_)
      refine u_al_n (x := x0) E (Tr_isLateBy_dc.at 22 rfl) hl rfl ?_
      refine u_gI E zf_8_10 S11 g4 zw_2_105 (Tr_isLateBy_dc.at 23 rfl) ?_
      refine u_al_n (x := x0) E (Tr_isLateBy_dc.at 24 rfl) hl rfl ?_
      refine u_gI E zf_8_8 S11 g4 zw_2_103 (Tr_isLateBy_dc.at 25 rfl) ?_
      refine r_iadd E (Tr_isLateBy_dc.at 26 rfl) ?_
      refine r_icmp_le (tgt := 51) E hr9 (inR_w32 _) (Tr_isLateBy_dc.at 27 rfl) (by decide) (fun q => ?_) (fun q => ?_)
      · have h := ite_t h q
        refine r_iconst E (Tr_isLateBy_dc.at 28 rfl) ?_
        cases h
        exact r_zret E S11 z01_1 z01_1 (Tr_isLateBy_dc.at 29 rfl)
      · have h := ite_f h q
        obtain ⟨v12, ev12, h⟩ := lt1_e h
        have hv12 := inR_eq ev12 (inR_w32 _)
        refine u_iinc (y := v12) (vs' := [some (zR G.2.2.1 x0), none, some (.int (zO v12))]) E ev12 (Tr_isLateBy_dc.at 30 rfl) hl rfl (by decide) rfl (fun ls hl => ?_)
        refine r_goto (tgt := 7) E (Tr_isLateBy_dc.at 31 rfl) (by decide) ?_
        exact hk7 _ x0 v12 hx0 hv12 _ _ _ S11 (hl.sub (And.intro rfl (And.intro rfl True.intro))) h
    · have h := ite_f h q
      refine r_iconst E (Tr_isLateBy_dc.at 32 rfl) ?_
      cases h
      exact r_zret E S z01_0 z01_0 (Tr_isLateBy_dc.at 33 rfl)
  · have h := ite_f h q
    refine r_iconst E (Tr_isLateBy_dc.at 32 rfl) ?_
    cases h
    exact r_zret E S z01_0 z01_0 (Tr_isLateBy_dc.at 33 rfl)
theorem Tr_isLateBy_l7_w (E : zEv p m c cX8_isLateBy 3 s args RX8 meth (some .boolean) G) {res : (zM × Int)} : ∀ (n : Nat) (M : zM) (x0 : Int) (x2 : Int), InR x0 → InR x2 → ∀ (H : Heap) (locs : List Loc) (ls : Array Slot), zS G top L M s H locs → zLV ls 3 [some (zR G.2.2.1 x0), none, some (.int (zO x2))] → Tr_isLateBy_l7 fu L n M x0 x2 = some res → W p l e (zrm 5 0 0) s m args below meth c H locs 0 0 (MQ below (zQ G top L res.1 (some (.int (zO res.2))) (0 ≤ res.2 ∧ res.2 ≤ 1)) args s 0 0 (zA G)) (F0 m 7 ls [])
  | 0, _, _, _ => fun _ _ _ _ _ _ _ h => (by cases h)
  | n + 1, M, x0, x2 => fun hx0 hx2 H locs ls S hl h => Tr_isLateBy_s7_w E (fun M x0 x2 hx0 hx2 H locs ls S hl h => Tr_isLateBy_l7_w E n M x0 x2 hx0 hx2 H locs ls S hl h) hx0 hx2 S hl h
theorem Tr_isLateBy_w (E : zEv p m c cX8_isLateBy 3 s args RX8 meth (some .boolean) G) {res : (zM × Int)} {M : zM} {a0 : Int} {a1 : Int} {H : Heap} {locs : List Loc} {ls : Array Slot} (ha0 : InR a0) (ha1 : InR a1) (S : zS G top L M s H locs) (hl : zLV ls 3 [some (zR G.2.2.1 a0), some (.int (zO a1)), none]) (h : Tr_isLateBy fu L M a0 a1 = some res) : W p l e (zrm 5 0 0) s m args below meth c H locs 0 0 (MQ below (zQ G top L res.1 (some (.int (zO res.2))) (0 ≤ res.2 ∧ res.2 ≤ 1)) args s 0 0 (zA G)) (F0 m 0 ls []) := by
  unfold Tr_isLateBy at h
  refine u_al_n (x := a0) E (Tr_isLateBy_dc.at 0 rfl) hl rfl ?_
  refine u_il_n (x := a1) E (Tr_isLateBy_dc.at 1 rfl) hl rfl ?_
  obtain ⟨g1, h⟩ := ite_e h
  obtain ⟨M2, eM2, h⟩ := bd1_e h
  refine u_cVU (As := [.int (zO a1)]) (rest := []) E S zcw_yX8_follow zw_6_25 zq_3_8 zw_6_23 zck_8.1 rfl g1 (Tr_follow_c l G fu top L M a0 a1 ha0 ha1 eM2) (zrm_ok (by decide) (by decide)) ⟨Nat.le_refl 0, Nat.le_refl 0⟩ rfl (Nat.zero_le 8) hl.size rfl (Tr_isLateBy_dc.at 2 rfl) (fun H locs _ S3 => ?_)
  refine r_iconst E (Tr_isLateBy_dc.at 3 rfl) ?_
  refine u_ist_n (y := 0) (vs' := [some (zR G.2.2.1 a0), some (.int (zO a1)), some (.int (zO 0))]) E rfl (Tr_isLateBy_dc.at 4 rfl) hl (by decide) rfl (fun ls hl => ?_)
  exact Tr_isLateBy_l7_w E fu _ a0 0 ha0 (show InR 0 by decide) _ _ _ S3 (hl.sub (And.intro rfl (And.intro rfl True.intro))) h
theorem Tr_isLateBy_c (l : Launch) (G : zG) (fu : Nat) (top : Int) (L : zL) (M : zM) (a0 : Int) (a1 : Int) {res : (zM × Int)} (ha0 : InR a0) (ha1 : InR a1) (h : Tr_isLateBy fu L M a0 a1 = some res) : Met l yX8_isLateBy (Cond.code yX8_isLateBy cX8_isLateBy 3 (some .boolean) :: zTB) (zrm 5 0 0) (va_Pc [zR G.2.2.1 a0, .int (zO a1)] (zPre G top L M)) (zQ G top L res.1 (some (.int (zO res.2))) (0 ≤ res.2 ∧ res.2 ≤ 1)) 0 0 (zA G) :=
  z_met (by decide +kernel) (by simp [zR_cat, zcat_I, zcat_S]) (Nat.le_of_ble_eq_true rfl) fun p e s m below meth c ls E hn S hl => Tr_isLateBy_w E ha0 ha1 S (hl.sub (And.intro rfl (And.intro rfl True.intro))) h
end
theorem Tr_firstLateCourse_dc : zDL cX8_firstLateCourse [(0, .iconst 0, 1, 1), (1, .istore_n 1, 1, 2), (2, .iload_n 1, 1, 3), (3, .sipush 512, 3, 6), (6, .if_icmp .ge 27, 3, 9), (9, .aload_n 0, 1, 10), (10, .iload_n 1, 1, 11), (11, .invokevirtual 158, 3, 14), (14, .ifCond .eq 13, 3, 17), (17, .aload_n 0, 1, 18), (18, .iload_n 1, 1, 19), (19, .invokevirtual 161, 3, 22), (22, .ifCond .eq 5, 3, 25), (25, .iload_n 1, 1, 26), (26, .ireturn, 1, 27), (27, .iinc 1 1, 3, 30), (30, .goto (-28), 3, 33), (33, .iconst (-1), 1, 34), (34, .ireturn, 1, 35)] := zDL.of (by decide +kernel)
section
variable {p : Program} {l : Launch} {e : Env} {s : State} {m : MethodId} {args : Array Value} {below : List Frame} {meth : Method} {c : Code} {G : zG} {top : Int} {L : zL} {fu : Nat}
theorem Tr_firstLateCourse_s2_w (E : zEv p m c cX8_firstLateCourse 2 s args RX8 meth (some .int) G) {res : (zM × Int)} {k2 : zM → Int → Int → Option (zM × Int)} (hk2 : ∀ (M : zM) (x0 : Int) (x1 : Int), InR x0 → InR x1 → ∀ (H : Heap) (locs : List Loc) (ls : Array Slot), zS G top L M s H locs → zLV ls 2 [some (zR G.2.2.1 x0), some (.int (zO x1))] → k2 M x0 x1 = some res → W p l e (zrm 6 0 0) s m args below meth c H locs 0 0 (MQ below (zQ G top L res.1 (some (.int (zO res.2))) (InR res.2)) args s 0 0 (zA G)) (F0 m 2 ls [])) {M : zM} {x0 : Int} {x1 : Int} {H : Heap} {locs : List Loc} {ls : Array Slot} (hx0 : InR x0) (hx1 : InR x1) (S : zS G top L M s H locs) (hl : zLV ls 2 [some (zR G.2.2.1 x0), some (.int (zO x1))]) (h : Tr_firstLateCourse_s2 fu k2 L M x0 x1 = some res) : W p l e (zrm 6 0 0) s m args below meth c H locs 0 0 (MQ below (zQ G top L res.1 (some (.int (zO res.2))) (InR res.2)) args s 0 0 (zA G)) (F0 m 2 ls []) := by
  unfold Tr_firstLateCourse_s2 at h
  refine u_il_n (x := x1) E (Tr_firstLateCourse_dc.at 2 rfl) hl rfl ?_
  refine r_sipush E (Tr_firstLateCourse_dc.at 3 rfl) rfl ?_
  refine r_icmp_ge (tgt := 33) E hx1 (show InR 512 by decide) (Tr_firstLateCourse_dc.at 4 rfl) (by decide) (fun q => ?_) (fun q => ?_)
  · have h := ite_t h q
    refine u_al_n (x := x0) E (Tr_firstLateCourse_dc.at 5 rfl) hl rfl ?_
    refine u_il_n (x := x1) E (Tr_firstLateCourse_dc.at 6 rfl) hl rfl ?_
    obtain ⟨g1, h⟩ := ite_e h
    obtain ⟨r2, er2, h⟩ := bd1_e h
    refine u_cVI (As := [.int (zO x1)]) (rest := []) E S zcw_yX8_isCourse zw_6_15 zw_6_16 zw_6_14 zck_8.1 rfl g1 (Tr_isCourse_c l G fu top L M x0 x1 hx0 hx1 er2) (zrm_ok (by decide) (by decide)) ⟨Nat.le_refl 0, Nat.le_refl 0⟩ rfl (Nat.zero_le 8) hl.size rfl (Tr_firstLateCourse_dc.at 7 rfl) (fun H locs hr2 S3 => ?_)
    refine r_if_eq (tgt := 27) E (inR_01 hr2) (Tr_firstLateCourse_dc.at 8 rfl) (by decide) (fun q => ?_) (fun q => ?_)
    · have h := ite_t h q
      obtain ⟨v4, ev4, h⟩ := lt1_e h
      have hv4 := inR_eq ev4 (inR_w32 _)
      refine u_iinc (y := v4) (vs' := [some (zR G.2.2.1 x0), some (.int (zO v4))]) E ev4 (Tr_firstLateCourse_dc.at 15 rfl) hl rfl (by decide) rfl (fun ls hl => ?_)
      refine r_goto (tgt := 2) E (Tr_firstLateCourse_dc.at 16 rfl) (by decide) ?_
      exact hk2 _ x0 v4 hx0 hv4 _ _ _ S3 (hl.sub (And.intro rfl (And.intro rfl True.intro))) h
    · have h := ite_f h q
      refine u_al_n (x := x0) E (Tr_firstLateCourse_dc.at 9 rfl) hl rfl ?_
      refine u_il_n (x := x1) E (Tr_firstLateCourse_dc.at 10 rfl) hl rfl ?_
      obtain ⟨M6, r5, er5, h⟩ := bd2_e h
      refine u_cVI (As := [.int (zO x1)]) (rest := []) E S3 zcw_yX8_isLateBy zw_6_21 zq_3_7 zw_6_19 zck_8.1 rfl g1 (Tr_isLateBy_c l G fu top L M x0 x1 hx0 hx1 er5) (zrm_ok (by decide) (by decide)) ⟨Nat.le_refl 0, Nat.le_refl 0⟩ rfl (Nat.zero_le 8) hl.size rfl (Tr_firstLateCourse_dc.at 11 rfl) (fun H locs hr5 S7 => ?_)
      refine r_if_eq (tgt := 27) E (inR_01 hr5) (Tr_firstLateCourse_dc.at 12 rfl) (by decide) (fun q => ?_) (fun q => ?_)
      · have h := ite_t h q
        obtain ⟨v8, ev8, h⟩ := lt1_e h
        have hv8 := inR_eq ev8 (inR_w32 _)
        refine u_iinc (y := v8) (vs' := [some (zR G.2.2.1 x0), some (.int (zO v8))]) E ev8 (Tr_firstLateCourse_dc.at 15 rfl) hl rfl (by decide) rfl (fun ls hl => ?_)
        refine r_goto (tgt := 2) E (Tr_firstLateCourse_dc.at 16 rfl) (by decide) ?_
        exact hk2 _ x0 v8 hx0 hv8 _ _ _ S7 (hl.sub (And.intro rfl (And.intro rfl True.intro))) h
      · have h := ite_f h q
        refine u_il_n (x := x1) E (Tr_firstLateCourse_dc.at 13 rfl) hl rfl ?_
        cases h
        exact r_iret E S7 hx1 (Tr_firstLateCourse_dc.at 14 rfl)
  · have h := ite_f h q
    refine r_iconst E (Tr_firstLateCourse_dc.at 17 rfl) ?_
    cases h
    exact r_iret E S (show InR (-1) by decide) (Tr_firstLateCourse_dc.at 18 rfl)
theorem Tr_firstLateCourse_l2_w (E : zEv p m c cX8_firstLateCourse 2 s args RX8 meth (some .int) G) {res : (zM × Int)} : ∀ (n : Nat) (M : zM) (x0 : Int) (x1 : Int), InR x0 → InR x1 → ∀ (H : Heap) (locs : List Loc) (ls : Array Slot), zS G top L M s H locs → zLV ls 2 [some (zR G.2.2.1 x0), some (.int (zO x1))] → Tr_firstLateCourse_l2 fu L n M x0 x1 = some res → W p l e (zrm 6 0 0) s m args below meth c H locs 0 0 (MQ below (zQ G top L res.1 (some (.int (zO res.2))) (InR res.2)) args s 0 0 (zA G)) (F0 m 2 ls [])
  | 0, _, _, _ => fun _ _ _ _ _ _ _ h => (by cases h)
  | n + 1, M, x0, x1 => fun hx0 hx1 H locs ls S hl h => Tr_firstLateCourse_s2_w E (fun M x0 x1 hx0 hx1 H locs ls S hl h => Tr_firstLateCourse_l2_w E n M x0 x1 hx0 hx1 H locs ls S hl h) hx0 hx1 S hl h
theorem Tr_firstLateCourse_w (E : zEv p m c cX8_firstLateCourse 2 s args RX8 meth (some .int) G) {res : (zM × Int)} {M : zM} {a0 : Int} {H : Heap} {locs : List Loc} {ls : Array Slot} (ha0 : InR a0) (S : zS G top L M s H locs) (hl : zLV ls 2 [some (zR G.2.2.1 a0), none]) (h : Tr_firstLateCourse fu L M a0 = some res) : W p l e (zrm 6 0 0) s m args below meth c H locs 0 0 (MQ below (zQ G top L res.1 (some (.int (zO res.2))) (InR res.2)) args s 0 0 (zA G)) (F0 m 0 ls []) := by
  unfold Tr_firstLateCourse at h
  refine r_iconst E (Tr_firstLateCourse_dc.at 0 rfl) ?_
  refine u_ist_n (y := 0) (vs' := [some (zR G.2.2.1 a0), some (.int (zO 0))]) E rfl (Tr_firstLateCourse_dc.at 1 rfl) hl (by decide) rfl (fun ls hl => ?_)
  exact Tr_firstLateCourse_l2_w E fu _ a0 0 ha0 (show InR 0 by decide) _ _ _ S (hl.sub (And.intro rfl (And.intro rfl True.intro))) h
theorem Tr_firstLateCourse_c (l : Launch) (G : zG) (fu : Nat) (top : Int) (L : zL) (M : zM) (a0 : Int) {res : (zM × Int)} (ha0 : InR a0) (h : Tr_firstLateCourse fu L M a0 = some res) : Met l yX8_firstLateCourse (Cond.code yX8_firstLateCourse cX8_firstLateCourse 2 (some .int) :: zTB) (zrm 6 0 0) (va_Pc [zR G.2.2.1 a0] (zPre G top L M)) (zQ G top L res.1 (some (.int (zO res.2))) (InR res.2)) 0 0 (zA G) :=
  z_met (by decide +kernel) (by simp [zR_cat, zcat_I, zcat_S]) (Nat.le_of_ble_eq_true rfl) fun p e s m below meth c ls E hn S hl => Tr_firstLateCourse_w E ha0 S (hl.sub (And.intro rfl True.intro)) h
end
theorem Lx_witness_dc : zDL cX11_witness [(0, .aload_n 0, 1, 1), (1, .iload_n 1, 1, 2), (2, .invokevirtual 266, 3, 5), (5, .ifCond .eq 13, 3, 8), (8, .aload_n 0, 1, 9), (9, .getfield 78, 3, 12), (12, .invokevirtual 306, 3, 15), (15, .goto 4, 3, 18), (18, .iconst (-1), 1, 19), (19, .ireturn, 1, 20)] := zDL.of (by decide +kernel)
section
variable {p : Program} {l : Launch} {e : Env} {s : State} {m : MethodId} {args : Array Value} {below : List Frame} {meth : Method} {c : Code} {G : zG} {top : Int} {L : zL} {fu : Nat}
theorem Lx_witness_w (E : zEv p m c cX11_witness 2 s args RX11 meth (some .int) G) {res : (zM × Int)} {M : zM} {a0 : Int} {a1 : Int} {H : Heap} {locs : List Loc} {ls : Array Slot} (ha0 : InR a0) (ha1 : InR a1) (S : zS G top L M s H locs) (hl : zLV ls 2 [some (zR G.2.2.1 a0), some (.int (zO a1))]) (h : Lx_witness fu L M a0 a1 = some res) : W p l e (zrm 7 0 0) s m args below meth c H locs 0 0 (MQ below (zQ G top L res.1 (some (.int (zO res.2))) (InR res.2)) args s 0 0 (zA G)) (F0 m 0 ls []) := by
  unfold Lx_witness at h
  refine u_al_n (x := a0) E (Lx_witness_dc.at 0 rfl) hl rfl ?_
  refine u_il_n (x := a1) E (Lx_witness_dc.at 1 rfl) hl rfl ?_
  obtain ⟨g1, h⟩ := ite_e h
  obtain ⟨M3, r2, er2, h⟩ := bd2_e h
  refine u_cVI (As := [.int (zO a1)]) (rest := []) E S zcw_yX11_tryGift zw_5_126 zq_3_3 zw_5_124 zck_11.1 rfl g1 (Lx_tryGift_c l G fu top L M a0 a1 ha0 ha1 er2) (zrm_ok (by decide) (by decide)) ⟨Nat.le_refl 0, Nat.le_refl 0⟩ rfl (Nat.zero_le 8) hl.size rfl (Lx_witness_dc.at 2 rfl) (fun H locs hr2 S4 => ?_)
  refine r_if_eq (tgt := 18) E (inR_01 hr2) (Lx_witness_dc.at 3 rfl) (by decide) (fun q => ?_) (fun q => ?_)
  · have h := ite_t h q
    refine r_iconst E (Lx_witness_dc.at 8 rfl) ?_
    cases h
    exact r_iret E S4 (show InR (-1) by decide) (Lx_witness_dc.at 9 rfl)
  · have h := ite_f h q
    refine u_al_n (x := a0) E (Lx_witness_dc.at 4 rfl) hl rfl ?_
    refine u_gR E zf_11_9 S4 g1 zw_2_141 (Lx_witness_dc.at 5 rfl) ?_
    obtain ⟨g5, h⟩ := ite_e h
    obtain ⟨M7, r6, er6, h⟩ := bd2_e h
    refine u_cVI (As := []) (rest := []) E S4 zcw_yX8_firstLateCourse zw_6_11 zw_6_12 zw_6_10 zck_8.1 rfl g5 (Tr_firstLateCourse_c l G fu top L M3 (M3 a0 9) (S4.1.inR _ _) er6) (zrm_ok (by decide) (by decide)) ⟨Nat.le_refl 0, Nat.le_refl 0⟩ rfl (Nat.zero_le 8) hl.size rfl (Lx_witness_dc.at 6 rfl) (fun H locs hr6 S8 => ?_)
    refine r_goto (tgt := 19) E (Lx_witness_dc.at 7 rfl) (by decide) ?_
    cases h
    exact r_iret E S8 hr6 (Lx_witness_dc.at 9 rfl)
theorem Lx_witness_c (l : Launch) (G : zG) (fu : Nat) (top : Int) (L : zL) (M : zM) (a0 : Int) (a1 : Int) {res : (zM × Int)} (ha0 : InR a0) (ha1 : InR a1) (h : Lx_witness fu L M a0 a1 = some res) : Met l yX11_witness (Cond.code yX11_witness cX11_witness 2 (some .int) :: zTB) (zrm 7 0 0) (va_Pc [zR G.2.2.1 a0, .int (zO a1)] (zPre G top L M)) (zQ G top L res.1 (some (.int (zO res.2))) (InR res.2)) 0 0 (zA G) :=
  z_met (by decide +kernel) (by simp [zR_cat, zcat_I, zcat_S]) (Nat.le_of_ble_eq_true rfl) fun p e s m below meth c ls E hn S hl => Lx_witness_w E ha0 ha1 S (hl.sub (And.intro rfl (And.intro rfl True.intro))) h
end
theorem Tr_yearByCourse_dc : zDL cX8_yearByCourse [(0, .aload_n 0, 1, 1), (1, .iload_n 3, 1, 2), (2, .invokevirtual 149, 3, 5), (5, .aload_n 0, 1, 6), (6, .iload_n 1, 1, 7), (7, .iload_n 2, 1, 8), (8, .invokevirtual 152, 3, 11), (11, .ireturn, 1, 12)] := zDL.of (by decide +kernel)
section
variable {p : Program} {l : Launch} {e : Env} {s : State} {m : MethodId} {args : Array Value} {below : List Frame} {meth : Method} {c : Code} {G : zG} {top : Int} {L : zL} {fu : Nat}
theorem Tr_yearByCourse_w (E : zEv p m c cX8_yearByCourse 4 s args RX8 meth (some .int) G) {res : (zM × Int)} {M : zM} {a0 : Int} {a1 : Int} {a2 : Int} {a3 : Int} {H : Heap} {locs : List Loc} {ls : Array Slot} (ha0 : InR a0) (ha1 : InR a1) (ha2 : InR a2) (ha3 : InR a3) (S : zS G top L M s H locs) (hl : zLV ls 4 [some (zR G.2.2.1 a0), some (.int (zO a1)), some (.int (zO a2)), some (.int (zO a3))]) (h : Tr_yearByCourse fu L M a0 a1 a2 a3 = some res) : W p l e (zrm 5 0 0) s m args below meth c H locs 0 0 (MQ below (zQ G top L res.1 (some (.int (zO res.2))) (InR res.2)) args s 0 0 (zA G)) (F0 m 0 ls []) := by
  unfold Tr_yearByCourse at h
  refine u_al_n (x := a0) E (Tr_yearByCourse_dc.at 0 rfl) hl rfl ?_
  refine u_il_n (x := a3) E (Tr_yearByCourse_dc.at 1 rfl) hl rfl ?_
  obtain ⟨g1, h⟩ := ite_e h
  obtain ⟨M2, eM2, h⟩ := bd1_e h
  refine u_cVU (As := [.int (zO a3)]) (rest := []) E S zcw_yX8_follow zw_6_25 zq_3_8 zw_6_23 zck_8.1 rfl g1 (Tr_follow_c l G fu top L M a0 a3 ha0 ha3 eM2) (zrm_ok (by decide) (by decide)) ⟨Nat.le_refl 0, Nat.le_refl 0⟩ rfl (Nat.zero_le 8) hl.size rfl (Tr_yearByCourse_dc.at 2 rfl) (fun H locs _ S3 => ?_)
  refine u_al_n (x := a0) E (Tr_yearByCourse_dc.at 3 rfl) hl rfl ?_
  refine u_il_n (x := a1) E (Tr_yearByCourse_dc.at 4 rfl) hl rfl ?_
  refine u_il_n (x := a2) E (Tr_yearByCourse_dc.at 5 rfl) hl rfl ?_
  obtain ⟨M5, r4, er4, h⟩ := bd2_e h
  refine u_cVI (As := [.int (zO a1), .int (zO a2)]) (rest := []) E S3 zcw_yX8_yearFollowed zw_6_31 zq_3_9 zw_6_29 zck_8.1 rfl g1 (Tr_yearFollowed_c l G fu top L M2 a0 a1 a2 ha0 ha1 ha2 er4) (zrm_ok (by decide) (by decide)) ⟨Nat.le_refl 0, Nat.le_refl 0⟩ rfl (Nat.zero_le 8) hl.size rfl (Tr_yearByCourse_dc.at 6 rfl) (fun H locs hr4 S6 => ?_)
  cases h
  exact r_iret E S6 hr4 (Tr_yearByCourse_dc.at 7 rfl)
theorem Tr_yearByCourse_c (l : Launch) (G : zG) (fu : Nat) (top : Int) (L : zL) (M : zM) (a0 : Int) (a1 : Int) (a2 : Int) (a3 : Int) {res : (zM × Int)} (ha0 : InR a0) (ha1 : InR a1) (ha2 : InR a2) (ha3 : InR a3) (h : Tr_yearByCourse fu L M a0 a1 a2 a3 = some res) : Met l yX8_yearByCourse (Cond.code yX8_yearByCourse cX8_yearByCourse 4 (some .int) :: zTB) (zrm 5 0 0) (va_Pc [zR G.2.2.1 a0, .int (zO a1), .int (zO a2), .int (zO a3)] (zPre G top L M)) (zQ G top L res.1 (some (.int (zO res.2))) (InR res.2)) 0 0 (zA G) :=
  z_met (by decide +kernel) (by simp [zR_cat, zcat_I, zcat_S]) (Nat.le_of_ble_eq_true rfl) fun p e s m below meth c ls E hn S hl => Tr_yearByCourse_w E ha0 ha1 ha2 ha3 S (hl.sub (And.intro rfl (And.intro rfl (And.intro rfl (And.intro rfl True.intro))))) h
end
theorem Lx_course_dc : zDL cX11_course [(0, .aload_n 0, 1, 1), (1, .iload_n 1, 1, 2), (2, .iload_n 2, 1, 3), (3, .iload_n 3, 1, 4), (4, .invokevirtual 275, 3, 7), (7, .ifCond .eq 15, 3, 10), (10, .aload_n 0, 1, 11), (11, .getfield 78, 3, 14), (14, .iload 4, 2, 16), (16, .invokevirtual 309, 3, 19), (19, .ifCond .ne 6, 3, 22), (22, .ldc 235, 2, 24), (24, .ireturn, 1, 25), (25, .aload_n 0, 1, 26), (26, .getfield 78, 3, 29), (29, .iload_n 2, 1, 30), (30, .iload_n 3, 1, 31), (31, .invokevirtual 282, 3, 34), (34, .ifCond .eq 17, 3, 37), (37, .aload_n 0, 1, 38), (38, .getfield 78, 3, 41), (41, .iload_n 2, 1, 42), (42, .iload_n 3, 1, 43), (43, .iload 4, 2, 45), (45, .invokevirtual 312, 3, 48), (48, .goto 5, 3, 51), (51, .bipush (-3), 2, 53), (53, .ireturn, 1, 54)] := zDL.of (by decide +kernel)
section
variable {p : Program} {l : Launch} {e : Env} {s : State} {m : MethodId} {args : Array Value} {below : List Frame} {meth : Method} {c : Code} {G : zG} {top : Int} {L : zL} {fu : Nat}
theorem Lx_course_w (E : zEv p m c cX11_course 5 s args RX11 meth (some .int) G) {res : (zM × Int)} {M : zM} {a0 : Int} {a1 : Int} {a2 : Int} {a3 : Int} {a4 : Int} {H : Heap} {locs : List Loc} {ls : Array Slot} (ha0 : InR a0) (ha1 : InR a1) (ha2 : InR a2) (ha3 : InR a3) (ha4 : InR a4) (S : zS G top L M s H locs) (hl : zLV ls 5 [some (zR G.2.2.1 a0), some (.int (zO a1)), some (.int (zO a2)), some (.int (zO a3)), some (.int (zO a4))]) (h : Lx_course fu L M a0 a1 a2 a3 a4 = some res) : W p l e (zrm 8 0 0) s m args below meth c H locs 0 0 (MQ below (zQ G top L res.1 (some (.int (zO res.2))) (InR res.2)) args s 0 0 (zA G)) (F0 m 0 ls []) := by
  unfold Lx_course at h
  refine u_al_n (x := a0) E (Lx_course_dc.at 0 rfl) hl rfl ?_
  refine u_il_n (x := a1) E (Lx_course_dc.at 1 rfl) hl rfl ?_
  refine u_il_n (x := a2) E (Lx_course_dc.at 2 rfl) hl rfl ?_
  refine u_il_n (x := a3) E (Lx_course_dc.at 3 rfl) hl rfl ?_
  obtain ⟨g1, h⟩ := ite_e h
  obtain ⟨M3, r2, er2, h⟩ := bd2_e h
  refine u_cVI (As := [.int (zO a1), .int (zO a2), .int (zO a3)]) (rest := []) E S zcw_yX11_tryMember zw_5_192 zq_3_6 zw_5_190 zck_11.1 rfl g1 (Lx_tryMember_c l G fu top L M a0 a1 a2 a3 ha0 ha1 ha2 ha3 er2) (zrm_ok (by decide) (by decide)) ⟨Nat.le_refl 0, Nat.le_refl 0⟩ rfl (Nat.zero_le 8) hl.size rfl (Lx_course_dc.at 4 rfl) (fun H locs hr2 S4 => ?_)
  refine r_if_eq (tgt := 22) E (inR_01 hr2) (Lx_course_dc.at 5 rfl) (by decide) (fun q => ?_) (fun q => ?_)
  · have h := ite_t h q
    refine r_ldc (n := (-1000000)) E (Lx_course_dc.at 11 rfl) zw_5_42 rfl ?_
    cases h
    exact r_iret E S4 (show InR (-1000000) by decide) (Lx_course_dc.at 12 rfl)
  · have h := ite_f h q
    refine u_al_n (x := a0) E (Lx_course_dc.at 6 rfl) hl rfl ?_
    refine u_gR E zf_11_9 S4 g1 zw_2_141 (Lx_course_dc.at 7 rfl) ?_
    refine u_il (x := a4) E (Lx_course_dc.at 8 rfl) hl rfl ?_
    obtain ⟨g5, h⟩ := ite_e h
    obtain ⟨r6, er6, h⟩ := bd1_e h
    refine u_cVI (As := [.int (zO a4)]) (rest := []) E S4 zcw_yX8_isCourse zw_6_15 zw_6_16 zw_6_38 zck_8.1 rfl g5 (Tr_isCourse_c l G fu top L M3 (M3 a0 9) a4 (S4.1.inR _ _) ha4 er6) (zrm_ok (by decide) (by decide)) ⟨Nat.le_refl 0, Nat.le_refl 0⟩ rfl (Nat.zero_le 8) hl.size rfl (Lx_course_dc.at 9 rfl) (fun H locs hr6 S7 => ?_)
    refine r_if_ne (tgt := 25) E (inR_01 hr6) (Lx_course_dc.at 10 rfl) (by decide) (fun q => ?_) (fun q => ?_)
    · have h := ite_t h q
      refine r_ldc (n := (-1000000)) E (Lx_course_dc.at 11 rfl) zw_5_42 rfl ?_
      cases h
      exact r_iret E S7 (show InR (-1000000) by decide) (Lx_course_dc.at 12 rfl)
    · have h := ite_f h q
      refine u_al_n (x := a0) E (Lx_course_dc.at 13 rfl) hl rfl ?_
      refine u_gR E zf_11_9 S7 g1 zw_2_141 (Lx_course_dc.at 14 rfl) ?_
      refine u_il_n (x := a2) E (Lx_course_dc.at 15 rfl) hl rfl ?_
      refine u_il_n (x := a3) E (Lx_course_dc.at 16 rfl) hl rfl ?_
      obtain ⟨r8, er8, h⟩ := bd1_e h
      refine u_cVI (As := [.int (zO a2), .int (zO a3)]) (rest := []) E S7 zcw_yX8_belongs zw_5_139 zw_5_140 zw_5_199 zck_8.1 rfl g5 (Tr_belongs_c l G fu top L M3 (M3 a0 9) a2 a3 (S7.1.inR _ _) ha2 ha3 er8) (zrm_ok (by decide) (by decide)) ⟨Nat.le_refl 0, Nat.le_refl 0⟩ rfl (Nat.zero_le 8) hl.size rfl (Lx_course_dc.at 17 rfl) (fun H locs hr8 S9 => ?_)
      refine r_if_eq (tgt := 51) E (inR_01 hr8) (Lx_course_dc.at 18 rfl) (by decide) (fun q => ?_) (fun q => ?_)
      · have h := ite_t h q
        refine r_bipush E (Lx_course_dc.at 26 rfl) rfl ?_
        cases h
        exact r_iret E S9 (show InR (-3) by decide) (Lx_course_dc.at 27 rfl)
      · have h := ite_f h q
        refine u_al_n (x := a0) E (Lx_course_dc.at 19 rfl) hl rfl ?_
        refine u_gR E zf_11_9 S9 g1 zw_2_141 (Lx_course_dc.at 20 rfl) ?_
        refine u_il_n (x := a2) E (Lx_course_dc.at 21 rfl) hl rfl ?_
        refine u_il_n (x := a3) E (Lx_course_dc.at 22 rfl) hl rfl ?_
        refine u_il (x := a4) E (Lx_course_dc.at 23 rfl) hl rfl ?_
        obtain ⟨M11, r10, er10, h⟩ := bd2_e h
        refine u_cVI (As := [.int (zO a2), .int (zO a3), .int (zO a4)]) (rest := []) E S9 zcw_yX8_yearByCourse zw_6_40 zw_6_41 zw_6_39 zck_8.1 rfl g5 (Tr_yearByCourse_c l G fu top L M3 (M3 a0 9) a2 a3 a4 (S9.1.inR _ _) ha2 ha3 ha4 er10) (zrm_ok (by decide) (by decide)) ⟨Nat.le_refl 0, Nat.le_refl 0⟩ rfl (Nat.zero_le 8) hl.size rfl (Lx_course_dc.at 24 rfl) (fun H locs hr10 S12 => ?_)
        refine r_goto (tgt := 53) E (Lx_course_dc.at 25 rfl) (by decide) ?_
        cases h
        exact r_iret E S12 hr10 (Lx_course_dc.at 27 rfl)
theorem Lx_course_c (l : Launch) (G : zG) (fu : Nat) (top : Int) (L : zL) (M : zM) (a0 : Int) (a1 : Int) (a2 : Int) (a3 : Int) (a4 : Int) {res : (zM × Int)} (ha0 : InR a0) (ha1 : InR a1) (ha2 : InR a2) (ha3 : InR a3) (ha4 : InR a4) (h : Lx_course fu L M a0 a1 a2 a3 a4 = some res) : Met l yX11_course (Cond.code yX11_course cX11_course 5 (some .int) :: zTB) (zrm 8 0 0) (va_Pc [zR G.2.2.1 a0, .int (zO a1), .int (zO a2), .int (zO a3), .int (zO a4)] (zPre G top L M)) (zQ G top L res.1 (some (.int (zO res.2))) (InR res.2)) 0 0 (zA G) :=
  z_met (by decide +kernel) (by simp [zR_cat, zcat_I, zcat_S]) (Nat.le_of_ble_eq_true rfl) fun p e s m below meth c ls E hn S hl => Lx_course_w E ha0 ha1 ha2 ha3 ha4 S (hl.sub (And.intro rfl (And.intro rfl (And.intro rfl (And.intro rfl (And.intro rfl True.intro)))))) h
end
theorem Tr_lateCourses_dc : zDL cX8_lateCourses [(0, .iconst 0, 1, 1), (1, .istore_n 1, 1, 2), (2, .iconst 0, 1, 3), (3, .istore_n 2, 1, 4), (4, .iload_n 2, 1, 5), (5, .sipush 512, 3, 8), (8, .if_icmp .ge 28, 3, 11), (11, .aload_n 0, 1, 12), (12, .iload_n 2, 1, 13), (13, .invokevirtual 158, 3, 16), (16, .ifCond .eq 14, 3, 19), (19, .aload_n 0, 1, 20), (20, .iload_n 2, 1, 21), (21, .invokevirtual 161, 3, 24), (24, .ifCond .eq 6, 3, 27), (27, .iinc 1 1, 3, 30), (30, .iinc 2 1, 3, 33), (33, .goto (-29), 3, 36), (36, .iload_n 1, 1, 37), (37, .ireturn, 1, 38)] := zDL.of (by decide +kernel)
section
variable {p : Program} {l : Launch} {e : Env} {s : State} {m : MethodId} {args : Array Value} {below : List Frame} {meth : Method} {c : Code} {G : zG} {top : Int} {L : zL} {fu : Nat}
theorem Tr_lateCourses_s4_w (E : zEv p m c cX8_lateCourses 3 s args RX8 meth (some .int) G) {res : (zM × Int)} {k4 : zM → Int → Int → Int → Option (zM × Int)} (hk4 : ∀ (M : zM) (x0 : Int) (x1 : Int) (x2 : Int), InR x0 → InR x1 → InR x2 → ∀ (H : Heap) (locs : List Loc) (ls : Array Slot), zS G top L M s H locs → zLV ls 3 [some (zR G.2.2.1 x0), some (.int (zO x1)), some (.int (zO x2))] → k4 M x0 x1 x2 = some res → W p l e (zrm 6 0 0) s m args below meth c H locs 0 0 (MQ below (zQ G top L res.1 (some (.int (zO res.2))) (InR res.2)) args s 0 0 (zA G)) (F0 m 4 ls [])) {M : zM} {x0 : Int} {x1 : Int} {x2 : Int} {H : Heap} {locs : List Loc} {ls : Array Slot} (hx0 : InR x0) (hx1 : InR x1) (hx2 : InR x2) (S : zS G top L M s H locs) (hl : zLV ls 3 [some (zR G.2.2.1 x0), some (.int (zO x1)), some (.int (zO x2))]) (h : Tr_lateCourses_s4 fu k4 L M x0 x1 x2 = some res) : W p l e (zrm 6 0 0) s m args below meth c H locs 0 0 (MQ below (zQ G top L res.1 (some (.int (zO res.2))) (InR res.2)) args s 0 0 (zA G)) (F0 m 4 ls []) := by
  unfold Tr_lateCourses_s4 at h
  refine u_il_n (x := x2) E (Tr_lateCourses_dc.at 4 rfl) hl rfl ?_
  refine r_sipush E (Tr_lateCourses_dc.at 5 rfl) rfl ?_
  refine r_icmp_ge (tgt := 36) E hx2 (show InR 512 by decide) (Tr_lateCourses_dc.at 6 rfl) (by decide) (fun q => ?_) (fun q => ?_)
  · have h := ite_t h q
    refine u_al_n (x := x0) E (Tr_lateCourses_dc.at 7 rfl) hl rfl ?_
    refine u_il_n (x := x2) E (Tr_lateCourses_dc.at 8 rfl) hl rfl ?_
    obtain ⟨g1, h⟩ := ite_e h
    obtain ⟨r2, er2, h⟩ := bd1_e h
    refine u_cVI (As := [.int (zO x2)]) (rest := []) E S zcw_yX8_isCourse zw_6_15 zw_6_16 zw_6_14 zck_8.1 rfl g1 (Tr_isCourse_c l G fu top L M x0 x2 hx0 hx2 er2) (zrm_ok (by decide) (by decide)) ⟨Nat.le_refl 0, Nat.le_refl 0⟩ rfl (Nat.zero_le 8) hl.size rfl (Tr_lateCourses_dc.at 9 rfl) (fun H locs hr2 S3 => ?_)
    refine r_if_eq (tgt := 30) E (inR_01 hr2) (Tr_lateCourses_dc.at 10 rfl) (by decide) (fun q => ?_) (fun q => ?_)
    · have h := ite_t h q
      obtain ⟨v4, ev4, h⟩ := lt1_e h
      have hv4 := inR_eq ev4 (inR_w32 _)
      refine u_iinc (y := v4) (vs' := [some (zR G.2.2.1 x0), some (.int (zO x1)), some (.int (zO v4))]) E ev4 (Tr_lateCourses_dc.at 16 rfl) hl rfl (by decide) rfl (fun ls hl => ?_)
      refine r_goto (tgt := 4) E (Tr_lateCourses_dc.at 17 rfl) (by decide) ?_
      exact hk4 _ x0 x1 v4 hx0 hx1 hv4 _ _ _ S3 (hl.sub (And.intro rfl (And.intro rfl (And.intro rfl True.intro)))) h
    · have h := ite_f h q
      refine u_al_n (x := x0) E (Tr_lateCourses_dc.at 11 rfl) hl rfl ?_
      refine u_il_n (x := x2) E (Tr_lateCourses_dc.at 12 rfl) hl rfl ?_
      obtain ⟨M6, r5, er5, h⟩ := bd2_e h
      refine u_cVI (As := [.int (zO x2)]) (rest := []) E S3 zcw_yX8_isLateBy zw_6_21 zq_3_7 zw_6_19 zck_8.1 rfl g1 (Tr_isLateBy_c l G fu top L M x0 x2 hx0 hx2 er5) (zrm_ok (by decide) (by decide)) ⟨Nat.le_refl 0, Nat.le_refl 0⟩ rfl (Nat.zero_le 8) hl.size rfl (Tr_lateCourses_dc.at 13 rfl) (fun H locs hr5 S7 => ?_)
      refine r_if_eq (tgt := 30) E (inR_01 hr5) (Tr_lateCourses_dc.at 14 rfl) (by decide) (fun q => ?_) (fun q => ?_)
      · have h := ite_t h q
        obtain ⟨v8, ev8, h⟩ := lt1_e h
        have hv8 := inR_eq ev8 (inR_w32 _)
        refine u_iinc (y := v8) (vs' := [some (zR G.2.2.1 x0), some (.int (zO x1)), some (.int (zO v8))]) E ev8 (Tr_lateCourses_dc.at 16 rfl) hl rfl (by decide) rfl (fun ls hl => ?_)
        refine r_goto (tgt := 4) E (Tr_lateCourses_dc.at 17 rfl) (by decide) ?_
        exact hk4 _ x0 x1 v8 hx0 hx1 hv8 _ _ _ S7 (hl.sub (And.intro rfl (And.intro rfl (And.intro rfl True.intro)))) h
      · have h := ite_f h q
        obtain ⟨v9, ev9, h⟩ := lt1_e h
        have hv9 := inR_eq ev9 (inR_w32 _)
        refine u_iinc (y := v9) (vs' := [some (zR G.2.2.1 x0), some (.int (zO v9)), some (.int (zO x2))]) E ev9 (Tr_lateCourses_dc.at 15 rfl) hl rfl (by decide) rfl (fun ls hl => ?_)
        obtain ⟨v10, ev10, h⟩ := lt1_e h
        have hv10 := inR_eq ev10 (inR_w32 _)
        refine u_iinc (y := v10) (vs' := [some (zR G.2.2.1 x0), some (.int (zO v9)), some (.int (zO v10))]) E ev10 (Tr_lateCourses_dc.at 16 rfl) hl rfl (by decide) rfl (fun ls hl => ?_)
        refine r_goto (tgt := 4) E (Tr_lateCourses_dc.at 17 rfl) (by decide) ?_
        exact hk4 _ x0 v9 v10 hx0 hv9 hv10 _ _ _ S7 (hl.sub (And.intro rfl (And.intro rfl (And.intro rfl True.intro)))) h
  · have h := ite_f h q
    refine u_il_n (x := x1) E (Tr_lateCourses_dc.at 18 rfl) hl rfl ?_
    cases h
    exact r_iret E S hx1 (Tr_lateCourses_dc.at 19 rfl)
theorem Tr_lateCourses_l4_w (E : zEv p m c cX8_lateCourses 3 s args RX8 meth (some .int) G) {res : (zM × Int)} : ∀ (n : Nat) (M : zM) (x0 : Int) (x1 : Int) (x2 : Int), InR x0 → InR x1 → InR x2 → ∀ (H : Heap) (locs : List Loc) (ls : Array Slot), zS G top L M s H locs → zLV ls 3 [some (zR G.2.2.1 x0), some (.int (zO x1)), some (.int (zO x2))] → Tr_lateCourses_l4 fu L n M x0 x1 x2 = some res → W p l e (zrm 6 0 0) s m args below meth c H locs 0 0 (MQ below (zQ G top L res.1 (some (.int (zO res.2))) (InR res.2)) args s 0 0 (zA G)) (F0 m 4 ls [])
  | 0, _, _, _, _ => fun _ _ _ _ _ _ _ _ h => (by cases h)
  | n + 1, M, x0, x1, x2 => fun hx0 hx1 hx2 H locs ls S hl h => Tr_lateCourses_s4_w E (fun M x0 x1 x2 hx0 hx1 hx2 H locs ls S hl h => Tr_lateCourses_l4_w E n M x0 x1 x2 hx0 hx1 hx2 H locs ls S hl h) hx0 hx1 hx2 S hl h
theorem Tr_lateCourses_w (E : zEv p m c cX8_lateCourses 3 s args RX8 meth (some .int) G) {res : (zM × Int)} {M : zM} {a0 : Int} {H : Heap} {locs : List Loc} {ls : Array Slot} (ha0 : InR a0) (S : zS G top L M s H locs) (hl : zLV ls 3 [some (zR G.2.2.1 a0), none, none]) (h : Tr_lateCourses fu L M a0 = some res) : W p l e (zrm 6 0 0) s m args below meth c H locs 0 0 (MQ below (zQ G top L res.1 (some (.int (zO res.2))) (InR res.2)) args s 0 0 (zA G)) (F0 m 0 ls []) := by
  unfold Tr_lateCourses at h
  refine r_iconst E (Tr_lateCourses_dc.at 0 rfl) ?_
  refine u_ist_n (y := 0) (vs' := [some (zR G.2.2.1 a0), some (.int (zO 0)), none]) E rfl (Tr_lateCourses_dc.at 1 rfl) hl (by decide) rfl (fun ls hl => ?_)
  refine r_iconst E (Tr_lateCourses_dc.at 2 rfl) ?_
  refine u_ist_n (y := 0) (vs' := [some (zR G.2.2.1 a0), some (.int (zO 0)), some (.int (zO 0))]) E rfl (Tr_lateCourses_dc.at 3 rfl) hl (by decide) rfl (fun ls hl => ?_)
  exact Tr_lateCourses_l4_w E fu _ a0 0 0 ha0 (show InR 0 by decide) (show InR 0 by decide) _ _ _ S (hl.sub (And.intro rfl (And.intro rfl (And.intro rfl True.intro)))) h
theorem Tr_lateCourses_c (l : Launch) (G : zG) (fu : Nat) (top : Int) (L : zL) (M : zM) (a0 : Int) {res : (zM × Int)} (ha0 : InR a0) (h : Tr_lateCourses fu L M a0 = some res) : Met l yX8_lateCourses (Cond.code yX8_lateCourses cX8_lateCourses 3 (some .int) :: zTB) (zrm 6 0 0) (va_Pc [zR G.2.2.1 a0] (zPre G top L M)) (zQ G top L res.1 (some (.int (zO res.2))) (InR res.2)) 0 0 (zA G) :=
  z_met (by decide +kernel) (by simp [zR_cat, zcat_I, zcat_S]) (Nat.le_of_ble_eq_true rfl) fun p e s m below meth c ls E hn S hl => Tr_lateCourses_w E ha0 S (hl.sub (And.intro rfl True.intro)) h
end
theorem Lx_lates_dc : zDL cX11_lates [(0, .aload_n 0, 1, 1), (1, .iload_n 1, 1, 2), (2, .invokevirtual 266, 3, 5), (5, .ifCond .eq 13, 3, 8), (8, .aload_n 0, 1, 9), (9, .getfield 78, 3, 12), (12, .invokevirtual 315, 3, 15), (15, .goto 4, 3, 18), (18, .iconst (-1), 1, 19), (19, .ireturn, 1, 20)] := zDL.of (by decide +kernel)
section
variable {p : Program} {l : Launch} {e : Env} {s : State} {m : MethodId} {args : Array Value} {below : List Frame} {meth : Method} {c : Code} {G : zG} {top : Int} {L : zL} {fu : Nat}
theorem Lx_lates_w (E : zEv p m c cX11_lates 2 s args RX11 meth (some .int) G) {res : (zM × Int)} {M : zM} {a0 : Int} {a1 : Int} {H : Heap} {locs : List Loc} {ls : Array Slot} (ha0 : InR a0) (ha1 : InR a1) (S : zS G top L M s H locs) (hl : zLV ls 2 [some (zR G.2.2.1 a0), some (.int (zO a1))]) (h : Lx_lates fu L M a0 a1 = some res) : W p l e (zrm 7 0 0) s m args below meth c H locs 0 0 (MQ below (zQ G top L res.1 (some (.int (zO res.2))) (InR res.2)) args s 0 0 (zA G)) (F0 m 0 ls []) := by
  unfold Lx_lates at h
  refine u_al_n (x := a0) E (Lx_lates_dc.at 0 rfl) hl rfl ?_
  refine u_il_n (x := a1) E (Lx_lates_dc.at 1 rfl) hl rfl ?_
  obtain ⟨g1, h⟩ := ite_e h
  obtain ⟨M3, r2, er2, h⟩ := bd2_e h
  refine u_cVI (As := [.int (zO a1)]) (rest := []) E S zcw_yX11_tryGift zw_5_126 zq_3_3 zw_5_124 zck_11.1 rfl g1 (Lx_tryGift_c l G fu top L M a0 a1 ha0 ha1 er2) (zrm_ok (by decide) (by decide)) ⟨Nat.le_refl 0, Nat.le_refl 0⟩ rfl (Nat.zero_le 8) hl.size rfl (Lx_lates_dc.at 2 rfl) (fun H locs hr2 S4 => ?_)
  refine r_if_eq (tgt := 18) E (inR_01 hr2) (Lx_lates_dc.at 3 rfl) (by decide) (fun q => ?_) (fun q => ?_)
  · have h := ite_t h q
    refine r_iconst E (Lx_lates_dc.at 8 rfl) ?_
    cases h
    exact r_iret E S4 (show InR (-1) by decide) (Lx_lates_dc.at 9 rfl)
  · have h := ite_f h q
    refine u_al_n (x := a0) E (Lx_lates_dc.at 4 rfl) hl rfl ?_
    refine u_gR E zf_11_9 S4 g1 zw_2_141 (Lx_lates_dc.at 5 rfl) ?_
    obtain ⟨g5, h⟩ := ite_e h
    obtain ⟨M7, r6, er6, h⟩ := bd2_e h
    refine u_cVI (As := []) (rest := []) E S4 zcw_yX8_lateCourses zw_6_48 zw_6_49 zw_6_47 zck_8.1 rfl g5 (Tr_lateCourses_c l G fu top L M3 (M3 a0 9) (S4.1.inR _ _) er6) (zrm_ok (by decide) (by decide)) ⟨Nat.le_refl 0, Nat.le_refl 0⟩ rfl (Nat.zero_le 8) hl.size rfl (Lx_lates_dc.at 6 rfl) (fun H locs hr6 S8 => ?_)
    refine r_goto (tgt := 19) E (Lx_lates_dc.at 7 rfl) (by decide) ?_
    cases h
    exact r_iret E S8 hr6 (Lx_lates_dc.at 9 rfl)
theorem Lx_lates_c (l : Launch) (G : zG) (fu : Nat) (top : Int) (L : zL) (M : zM) (a0 : Int) (a1 : Int) {res : (zM × Int)} (ha0 : InR a0) (ha1 : InR a1) (h : Lx_lates fu L M a0 a1 = some res) : Met l yX11_lates (Cond.code yX11_lates cX11_lates 2 (some .int) :: zTB) (zrm 7 0 0) (va_Pc [zR G.2.2.1 a0, .int (zO a1)] (zPre G top L M)) (zQ G top L res.1 (some (.int (zO res.2))) (InR res.2)) 0 0 (zA G) :=
  z_met (by decide +kernel) (by simp [zR_cat, zcat_I, zcat_S]) (Nat.le_of_ble_eq_true rfl) fun p e s m below meth c ls E hn S hl => Lx_lates_w E ha0 ha1 S (hl.sub (And.intro rfl (And.intro rfl True.intro))) h
end
theorem Tr_tellWorst_dc : zDL cX8_tellWorst [(0, .iconst (-1), 1, 1), (1, .istore_n 2, 1, 2), (2, .iconst (-1), 1, 3), (3, .istore_n 3, 1, 4), (4, .iconst 0, 1, 5), (5, .istore 4, 2, 7), (7, .iload 4, 2, 9), (9, .aload_n 0, 1, 10), (10, .getfield 71, 3, 13), (13, .if_icmp .ge 52, 3, 16), (16, .iload 4, 2, 18), (18, .bipush 24, 2, 20), (20, .if_icmp .ge 45, 3, 23), (23, .aload_n 0, 1, 24), (24, .aload_n 0, 1, 25), (25, .getfield 21, 3, 28), (28, .iload 4, 2, 30), (30, .iaload, 1, 31), (31, .aload_n 0, 1, 32), (32, .getfield 25, 3, 35), (35, .iload 4, 2, 37), (37, .iaload, 1, 38), (38, .aload_n 0, 1, 39), (39, .invokevirtual 107, 3, 42), (42, .invokevirtual 130, 3, 45), (45, .istore 5, 2, 47), (47, .iload 5, 2, 49), (49, .iload_n 3, 1, 50), (50, .if_icmp .le 9, 3, 53), (53, .iload 4, 2, 55), (55, .istore_n 2, 1, 56), (56, .iload 5, 2, 58), (58, .istore_n 3, 1, 59), (59, .iinc 4 1, 3, 62), (62, .goto (-55), 3, 65), (65, .iload_n 2, 1, 66), (66, .ifCond .lt 9, 3, 69), (69, .iload_n 2, 1, 70), (70, .bipush 24, 2, 72), (72, .if_icmp .lt 6, 3, 75), (75, .ldc 93, 2, 77), (77, .ireturn, 1, 78), (78, .iload_n 1, 1, 79), (79, .iconst 2, 1, 80), (80, .if_icmp .ne 15, 3, 83), (83, .iload_n 3, 1, 84), (84, .ldc 134, 2, 86), (86, .if_icmp .lt 7, 3, 89), (89, .iconst (-1), 1, 90), (90, .goto 4, 3, 93), (93, .iload_n 3, 1, 94), (94, .ireturn, 1, 95), (95, .iload_n 1, 1, 96), (96, .ifCond .ne 12, 3, 99), (99, .aload_n 0, 1, 100), (100, .getfield 21, 3, 103), (103, .iload_n 2, 1, 104), (104, .iaload, 1, 105), (105, .goto 9, 3, 108), (108, .aload_n 0, 1, 109), (109, .getfield 25, 3, 112), (112, .iload_n 2, 1, 113), (113, .iaload, 1, 114), (114, .ireturn, 1, 115)] := zDL.of (by decide +kernel)
section
variable {p : Program} {l : Launch} {e : Env} {s : State} {m : MethodId} {args : Array Value} {below : List Frame} {meth : Method} {c : Code} {G : zG} {top : Int} {L : zL} {fu : Nat}
theorem Tr_tellWorst_b65_w (E : zEv p m c cX8_tellWorst 6 s args RX8 meth (some .int) G) {res : (zM × Int)} {M : zM} {x0 : Int} {x1 : Int} {x2 : Int} {x3 : Int} {H : Heap} {locs : List Loc} {ls : Array Slot} (hx0 : InR x0) (hx1 : InR x1) (hx2 : InR x2) (hx3 : InR x3) (S : zS G top L M s H locs) (hl : zLV ls 6 [some (zR G.2.2.1 x0), some (.int (zO x1)), some (.int (zO x2)), some (.int (zO x3)), none, none]) (h : Tr_tellWorst_b65 fu L M x0 x1 x2 x3 = some res) : W p l e (zrm 6 0 0) s m args below meth c H locs 0 0 (MQ below (zQ G top L res.1 (some (.int (zO res.2))) (InR res.2)) args s 0 0 (zA G)) (F0 m 65 ls []) := by
  unfold Tr_tellWorst_b65 at h
  refine u_il_n (x := x2) E (Tr_tellWorst_dc.at 35 rfl) hl rfl ?_
  refine r_if_lt (tgt := 75) E hx2 (Tr_tellWorst_dc.at 36 rfl) (by decide) (fun q => ?_) (fun q => ?_)
  · have h := ite_t h q
    refine r_ldc (n := (-1000000)) E (Tr_tellWorst_dc.at 40 rfl) zw_5_148 rfl ?_
    cases h
    exact r_iret E S (show InR (-1000000) by decide) (Tr_tellWorst_dc.at 41 rfl)
  · have h := ite_f h q
    refine u_il_n (x := x2) E (Tr_tellWorst_dc.at 37 rfl) hl rfl ?_
    refine r_bipush E (Tr_tellWorst_dc.at 38 rfl) rfl ?_
    refine r_icmp_lt (tgt := 78) E hx2 (show InR 24 by decide) (Tr_tellWorst_dc.at 39 rfl) (by decide) (fun q => ?_) (fun q => ?_)
    · have h := ite_t h q
      refine u_il_n (x := x1) E (Tr_tellWorst_dc.at 42 rfl) hl rfl ?_
      refine r_iconst E (Tr_tellWorst_dc.at 43 rfl) ?_
      refine r_icmp_ne (tgt := 95) E hx1 (show InR 2 by decide) (Tr_tellWorst_dc.at 44 rfl) (by decide) (fun q => ?_) (fun q => ?_)
      · have h := ite_t h q
        refine u_il_n (x := x3) E (Tr_tellWorst_dc.at 45 rfl) hl rfl ?_
        refine r_ldc (n := 1000000) E (Tr_tellWorst_dc.at 46 rfl) zw_6_60 rfl ?_
        refine r_icmp_lt (tgt := 93) E hx3 (show InR 1000000 by decide) (Tr_tellWorst_dc.at 47 rfl) (by decide) (fun q => ?_) (fun q => ?_)
        · have h := ite_t h q
          refine u_il_n (x := x3) E (Tr_tellWorst_dc.at 50 rfl) hl rfl ?_
          cases h
          exact r_iret E S hx3 (Tr_tellWorst_dc.at 51 rfl)
        · have h := ite_f h q
          refine r_iconst E (Tr_tellWorst_dc.at 48 rfl) ?_
          refine r_goto (tgt := 94) E (Tr_tellWorst_dc.at 49 rfl) (by decide) ?_
          cases h
          exact r_iret E S (show InR (-1) by decide) (Tr_tellWorst_dc.at 51 rfl)
      · have h := ite_f h q
        refine u_il_n (x := x1) E (Tr_tellWorst_dc.at 52 rfl) hl rfl ?_
        refine r_if_ne (tgt := 108) E hx1 (Tr_tellWorst_dc.at 53 rfl) (by decide) (fun q => ?_) (fun q => ?_)
        · have h := ite_t h q
          refine u_al_n (x := x0) E (Tr_tellWorst_dc.at 54 rfl) hl rfl ?_
          obtain ⟨g13, h⟩ := ite_e h
          refine u_gR E zf_8_3 S g13 zw_2_98 (Tr_tellWorst_dc.at 55 rfl) ?_
          refine u_il_n (x := x2) E (Tr_tellWorst_dc.at 56 rfl) hl rfl ?_
          obtain ⟨g14, h⟩ := ite_e h
          obtain ⟨g15, h⟩ := ite_e h
          refine r_iald E S g14 g15 (Tr_tellWorst_dc.at 57 rfl) ?_
          refine r_goto (tgt := 114) E (Tr_tellWorst_dc.at 58 rfl) (by decide) ?_
          cases h
          exact r_iret E S (S.1.inR _ _) (Tr_tellWorst_dc.at 63 rfl)
        · have h := ite_f h q
          refine u_al_n (x := x0) E (Tr_tellWorst_dc.at 59 rfl) hl rfl ?_
          obtain ⟨g16, h⟩ := ite_e h
          refine u_gR E zf_8_4 S g16 zw_2_99 (Tr_tellWorst_dc.at 60 rfl) ?_
          refine u_il_n (x := x2) E (Tr_tellWorst_dc.at 61 rfl) hl rfl ?_
          obtain ⟨g17, h⟩ := ite_e h
          obtain ⟨g18, h⟩ := ite_e h
          refine r_iald E S g17 g18 (Tr_tellWorst_dc.at 62 rfl) ?_
          cases h
          exact r_iret E S (S.1.inR _ _) (Tr_tellWorst_dc.at 63 rfl)
    · have h := ite_f h q
      refine r_ldc (n := (-1000000)) E (Tr_tellWorst_dc.at 40 rfl) zw_5_148 rfl ?_
      cases h
      exact r_iret E S (show InR (-1000000) by decide) (Tr_tellWorst_dc.at 41 rfl)
theorem Tr_tellWorst_s7_w (E : zEv p m c cX8_tellWorst 6 s args RX8 meth (some .int) G) {res : (zM × Int)} {k7 : zM → Int → Int → Int → Int → Int → Option (zM × Int)} (hk7 : ∀ (M : zM) (x0 : Int) (x1 : Int) (x2 : Int) (x3 : Int) (x4 : Int), InR x0 → InR x1 → InR x2 → InR x3 → InR x4 → ∀ (H : Heap) (locs : List Loc) (ls : Array Slot), zS G top L M s H locs → zLV ls 6 [some (zR G.2.2.1 x0), some (.int (zO x1)), some (.int (zO x2)), some (.int (zO x3)), some (.int (zO x4)), none] → k7 M x0 x1 x2 x3 x4 = some res → W p l e (zrm 6 0 0) s m args below meth c H locs 0 0 (MQ below (zQ G top L res.1 (some (.int (zO res.2))) (InR res.2)) args s 0 0 (zA G)) (F0 m 7 ls [])) {M : zM} {x0 : Int} {x1 : Int} {x2 : Int} {x3 : Int} {x4 : Int} {H : Heap} {locs : List Loc} {ls : Array Slot} (hx0 : InR x0) (hx1 : InR x1) (hx2 : InR x2) (hx3 : InR x3) (hx4 : InR x4) (S : zS G top L M s H locs) (hl : zLV ls 6 [some (zR G.2.2.1 x0), some (.int (zO x1)), some (.int (zO x2)), some (.int (zO x3)), some (.int (zO x4)), none]) (h : Tr_tellWorst_s7 fu k7 L M x0 x1 x2 x3 x4 = some res) : W p l e (zrm 6 0 0) s m args below meth c H locs 0 0 (MQ below (zQ G top L res.1 (some (.int (zO res.2))) (InR res.2)) args s 0 0 (zA G)) (F0 m 7 ls []) := by
  unfold Tr_tellWorst_s7 at h
  refine u_il (x := x4) E (Tr_tellWorst_dc.at 6 rfl) hl rfl ?_
  refine u_al_n (x := x0) E (Tr_tellWorst_dc.at 7 rfl) hl rfl ?_
  obtain ⟨g1, h⟩ := ite_e h
  refine u_gI E zf_8_5 S g1 zw_2_100 (Tr_tellWorst_dc.at 8 rfl) ?_
  refine r_icmp_ge (tgt := 65) E hx4 (S.1.inR _ _) (Tr_tellWorst_dc.at 9 rfl) (by decide) (fun q => ?_) (fun q => ?_)
  · have h := ite_t h q
    refine u_il (x := x4) E (Tr_tellWorst_dc.at 10 rfl) hl rfl ?_
    refine r_bipush E (Tr_tellWorst_dc.at 11 rfl) rfl ?_
    refine r_icmp_ge (tgt := 65) E hx4 (show InR 24 by decide) (Tr_tellWorst_dc.at 12 rfl) (by decide) (fun q => ?_) (fun q => ?_)
    · have h := ite_t h q
      refine u_al_n (x := x0) E (Tr_tellWorst_dc.at 13 rfl) hl rfl ?_
      refine u_al_n (x := x0) E (Tr_tellWorst_dc.at 14 rfl) hl rfl ?_
      refine u_gR E zf_8_3 S g1 zw_2_98 (Tr_tellWorst_dc.at 15 rfl) ?_
      refine u_il (x := x4) E (Tr_tellWorst_dc.at 16 rfl) hl rfl ?_
      obtain ⟨g2, h⟩ := ite_e h
      obtain ⟨g3, h⟩ := ite_e h
      refine r_iald E S g2 g3 (Tr_tellWorst_dc.at 17 rfl) ?_
      refine u_al_n (x := x0) E (Tr_tellWorst_dc.at 18 rfl) hl rfl ?_
      refine u_gR E zf_8_4 S g1 zw_2_99 (Tr_tellWorst_dc.at 19 rfl) ?_
      refine u_il (x := x4) E (Tr_tellWorst_dc.at 20 rfl) hl rfl ?_
      obtain ⟨g4, h⟩ := ite_e h
      obtain ⟨g5, h⟩ := ite_e h
      refine r_iald E S g4 g5 (Tr_tellWorst_dc.at 21 rfl) ?_
      refine u_al_n (x := x0) E (Tr_tellWorst_dc.at 22 rfl) hl rfl ?_
      obtain ⟨r6, er6, h⟩ := bd1_e h
      refine u_cVI (As := []) (rest := [.int (zO (M (M x0 4) x4)), .int (zO (M (M x0 3) x4)), zR G.2.2.1 x0]) E S zcw_yX8_allLives zw_5_151 zw_5_152 zw_5_198 zck_8.1 rfl g1 (Tr_allLives_c l G fu top L M x0 hx0 er6) (zrm_ok (by decide) (by decide)) ⟨Nat.le_refl 0, Nat.le_refl 0⟩ rfl (by simp [zR_cat, zcat_I, zcat_J, zcat_S]) hl.size rfl (Tr_tellWorst_dc.at 23 rfl) (fun H locs hr6 S7 => ?_)
      obtain ⟨M9, r8, er8, h⟩ := bd2_e h
      refine u_cVI (As := [.int (zO (M (M x0 3) x4)), .int (zO (M (M x0 4) x4)), .int (zO r6)]) (rest := []) E S7 zcw_yX8_behindOf zw_5_201 zw_5_202 zw_6_59 zck_8.1 rfl g1 (Tr_behindOf_c l G fu top L M x0 (M (M x0 3) x4) (M (M x0 4) x4) r6 hx0 (S.1.inR _ _) (S.1.inR _ _) hr6 er8) (zrm_ok (by decide) (by decide)) ⟨Nat.le_refl 0, Nat.le_refl 0⟩ rfl (Nat.zero_le 8) hl.size rfl (Tr_tellWorst_dc.at 24 rfl) (fun H locs hr8 S10 => ?_)
      refine u_ist (y := r8) (vs' := [some (zR G.2.2.1 x0), some (.int (zO x1)), some (.int (zO x2)), some (.int (zO x3)), some (.int (zO x4)), some (.int (zO r8))]) E rfl (Tr_tellWorst_dc.at 25 rfl) hl (by decide) rfl (fun ls hl => ?_)
      refine u_il (x := r8) E (Tr_tellWorst_dc.at 26 rfl) hl rfl ?_
      refine u_il_n (x := x3) E (Tr_tellWorst_dc.at 27 rfl) hl rfl ?_
      refine r_icmp_le (tgt := 59) E hr8 hx3 (Tr_tellWorst_dc.at 28 rfl) (by decide) (fun q => ?_) (fun q => ?_)
      · have h := ite_t h q
        refine u_il (x := x4) E (Tr_tellWorst_dc.at 29 rfl) hl rfl ?_
        refine u_ist_n (y := x4) (vs' := [some (zR G.2.2.1 x0), some (.int (zO x1)), some (.int (zO x4)), some (.int (zO x3)), some (.int (zO x4)), some (.int (zO r8))]) E rfl (Tr_tellWorst_dc.at 30 rfl) hl (by decide) rfl (fun ls hl => ?_)
        refine u_il (x := r8) E (Tr_tellWorst_dc.at 31 rfl) hl rfl ?_
        refine u_ist_n (y := r8) (vs' := [some (zR G.2.2.1 x0), some (.int (zO x1)), some (.int (zO x4)), some (.int (zO r8)), some (.int (zO x4)), some (.int (zO r8))]) E rfl (Tr_tellWorst_dc.at 32 rfl) hl (by decide) rfl (fun ls hl => ?_)
        obtain ⟨v11, ev11, h⟩ := lt1_e h
        have hv11 := inR_eq ev11 (inR_w32 _)
        refine u_iinc (y := v11) (vs' := [some (zR G.2.2.1 x0), some (.int (zO x1)), some (.int (zO x4)), some (.int (zO r8)), some (.int (zO v11)), some (.int (zO r8))]) E ev11 (Tr_tellWorst_dc.at 33 rfl) hl rfl (by decide) rfl (fun ls hl => ?_)
        refine r_goto (tgt := 7) E (Tr_tellWorst_dc.at 34 rfl) (by decide) ?_
        exact hk7 _ x0 x1 x4 r8 v11 hx0 hx1 hx4 hr8 hv11 _ _ _ S10 (hl.sub (And.intro rfl (And.intro rfl (And.intro rfl (And.intro rfl (And.intro rfl True.intro)))))) h
      · have h := ite_f h q
        obtain ⟨v12, ev12, h⟩ := lt1_e h
        have hv12 := inR_eq ev12 (inR_w32 _)
        refine u_iinc (y := v12) (vs' := [some (zR G.2.2.1 x0), some (.int (zO x1)), some (.int (zO x2)), some (.int (zO x3)), some (.int (zO v12)), some (.int (zO r8))]) E ev12 (Tr_tellWorst_dc.at 33 rfl) hl rfl (by decide) rfl (fun ls hl => ?_)
        refine r_goto (tgt := 7) E (Tr_tellWorst_dc.at 34 rfl) (by decide) ?_
        exact hk7 _ x0 x1 x2 x3 v12 hx0 hx1 hx2 hx3 hv12 _ _ _ S10 (hl.sub (And.intro rfl (And.intro rfl (And.intro rfl (And.intro rfl (And.intro rfl True.intro)))))) h
    · have h := ite_f h q
      exact Tr_tellWorst_b65_w (x0 := x0) (x1 := x1) (x2 := x2) (x3 := x3)  E hx0 hx1 hx2 hx3 S (hl.sub (And.intro rfl (And.intro rfl (And.intro rfl (And.intro rfl True.intro))))) h
  · have h := ite_f h q
    exact Tr_tellWorst_b65_w (x0 := x0) (x1 := x1) (x2 := x2) (x3 := x3)  E hx0 hx1 hx2 hx3 S (hl.sub (And.intro rfl (And.intro rfl (And.intro rfl (And.intro rfl True.intro))))) h
theorem Tr_tellWorst_l7_w (E : zEv p m c cX8_tellWorst 6 s args RX8 meth (some .int) G) {res : (zM × Int)} : ∀ (n : Nat) (M : zM) (x0 : Int) (x1 : Int) (x2 : Int) (x3 : Int) (x4 : Int), InR x0 → InR x1 → InR x2 → InR x3 → InR x4 → ∀ (H : Heap) (locs : List Loc) (ls : Array Slot), zS G top L M s H locs → zLV ls 6 [some (zR G.2.2.1 x0), some (.int (zO x1)), some (.int (zO x2)), some (.int (zO x3)), some (.int (zO x4)), none] → Tr_tellWorst_l7 fu L n M x0 x1 x2 x3 x4 = some res → W p l e (zrm 6 0 0) s m args below meth c H locs 0 0 (MQ below (zQ G top L res.1 (some (.int (zO res.2))) (InR res.2)) args s 0 0 (zA G)) (F0 m 7 ls [])
  | 0, _, _, _, _, _, _ => fun _ _ _ _ _ _ _ _ _ _ h => (by cases h)
  | n + 1, M, x0, x1, x2, x3, x4 => fun hx0 hx1 hx2 hx3 hx4 H locs ls S hl h => Tr_tellWorst_s7_w E (fun M x0 x1 x2 x3 x4 hx0 hx1 hx2 hx3 hx4 H locs ls S hl h => Tr_tellWorst_l7_w E n M x0 x1 x2 x3 x4 hx0 hx1 hx2 hx3 hx4 H locs ls S hl h) hx0 hx1 hx2 hx3 hx4 S hl h
theorem Tr_tellWorst_w (E : zEv p m c cX8_tellWorst 6 s args RX8 meth (some .int) G) {res : (zM × Int)} {M : zM} {a0 : Int} {a1 : Int} {H : Heap} {locs : List Loc} {ls : Array Slot} (ha0 : InR a0) (ha1 : InR a1) (S : zS G top L M s H locs) (hl : zLV ls 6 [some (zR G.2.2.1 a0), some (.int (zO a1)), none, none, none, none]) (h : Tr_tellWorst fu L M a0 a1 = some res) : W p l e (zrm 6 0 0) s m args below meth c H locs 0 0 (MQ below (zQ G top L res.1 (some (.int (zO res.2))) (InR res.2)) args s 0 0 (zA G)) (F0 m 0 ls []) := by
  unfold Tr_tellWorst at h
  refine r_iconst E (Tr_tellWorst_dc.at 0 rfl) ?_
  refine u_ist_n (y := (-1)) (vs' := [some (zR G.2.2.1 a0), some (.int (zO a1)), some (.int (zO (-1))), none, none, none]) E rfl (Tr_tellWorst_dc.at 1 rfl) hl (by decide) rfl (fun ls hl => ?_)
  refine r_iconst E (Tr_tellWorst_dc.at 2 rfl) ?_
  refine u_ist_n (y := (-1)) (vs' := [some (zR G.2.2.1 a0), some (.int (zO a1)), some (.int (zO (-1))), some (.int (zO (-1))), none, none]) E rfl (Tr_tellWorst_dc.at 3 rfl) hl (by decide) rfl (fun ls hl => ?_)
  refine r_iconst E (Tr_tellWorst_dc.at 4 rfl) ?_
  refine u_ist (y := 0) (vs' := [some (zR G.2.2.1 a0), some (.int (zO a1)), some (.int (zO (-1))), some (.int (zO (-1))), some (.int (zO 0)), none]) E rfl (Tr_tellWorst_dc.at 5 rfl) hl (by decide) rfl (fun ls hl => ?_)
  exact Tr_tellWorst_l7_w E fu _ a0 a1 (-1) (-1) 0 ha0 ha1 (show InR (-1) by decide) (show InR (-1) by decide) (show InR 0 by decide) _ _ _ S (hl.sub (And.intro rfl (And.intro rfl (And.intro rfl (And.intro rfl (And.intro rfl True.intro)))))) h
theorem Tr_tellWorst_c (l : Launch) (G : zG) (fu : Nat) (top : Int) (L : zL) (M : zM) (a0 : Int) (a1 : Int) {res : (zM × Int)} (ha0 : InR a0) (ha1 : InR a1) (h : Tr_tellWorst fu L M a0 a1 = some res) : Met l yX8_tellWorst (Cond.code yX8_tellWorst cX8_tellWorst 6 (some .int) :: zTB) (zrm 6 0 0) (va_Pc [zR G.2.2.1 a0, .int (zO a1)] (zPre G top L M)) (zQ G top L res.1 (some (.int (zO res.2))) (InR res.2)) 0 0 (zA G) :=
  z_met (by decide +kernel) (by simp [zR_cat, zcat_I, zcat_S]) (Nat.le_of_ble_eq_true rfl) fun p e s m below meth c ls E hn S hl => Tr_tellWorst_w E ha0 ha1 S (hl.sub (And.intro rfl (And.intro rfl True.intro))) h
end
theorem Lx_worst_dc : zDL cX11_worst [(0, .iload_n 2, 1, 1), (1, .ifCond .lt 16, 3, 4), (4, .iload_n 2, 1, 5), (5, .iconst 2, 1, 6), (6, .if_icmp .gt 11, 3, 9), (9, .aload_n 0, 1, 10), (10, .iload_n 1, 1, 11), (11, .invokevirtual 266, 3, 14), (14, .ifCond .ne 6, 3, 17), (17, .ldc 235, 2, 19), (19, .ireturn, 1, 20), (20, .aload_n 0, 1, 21), (21, .getfield 78, 3, 24), (24, .iload_n 2, 1, 25), (25, .invokevirtual 318, 3, 28), (28, .ireturn, 1, 29)] := zDL.of (by decide +kernel)
section
variable {p : Program} {l : Launch} {e : Env} {s : State} {m : MethodId} {args : Array Value} {below : List Frame} {meth : Method} {c : Code} {G : zG} {top : Int} {L : zL} {fu : Nat}
theorem Lx_worst_w (E : zEv p m c cX11_worst 3 s args RX11 meth (some .int) G) {res : (zM × Int)} {M : zM} {a0 : Int} {a1 : Int} {a2 : Int} {H : Heap} {locs : List Loc} {ls : Array Slot} (ha0 : InR a0) (ha1 : InR a1) (ha2 : InR a2) (S : zS G top L M s H locs) (hl : zLV ls 3 [some (zR G.2.2.1 a0), some (.int (zO a1)), some (.int (zO a2))]) (h : Lx_worst fu L M a0 a1 a2 = some res) : W p l e (zrm 7 0 0) s m args below meth c H locs 0 0 (MQ below (zQ G top L res.1 (some (.int (zO res.2))) (InR res.2)) args s 0 0 (zA G)) (F0 m 0 ls []) := by
  unfold Lx_worst at h
  refine u_il_n (x := a2) E (Lx_worst_dc.at 0 rfl) hl rfl ?_
  refine r_if_lt (tgt := 17) E ha2 (Lx_worst_dc.at 1 rfl) (by decide) (fun q => ?_) (fun q => ?_)
  · have h := ite_t h q
    refine r_ldc (n := (-1000000)) E (Lx_worst_dc.at 9 rfl) zw_5_42 rfl ?_
    cases h
    exact r_iret E S (show InR (-1000000) by decide) (Lx_worst_dc.at 10 rfl)
  · have h := ite_f h q
    refine u_il_n (x := a2) E (Lx_worst_dc.at 2 rfl) hl rfl ?_
    refine r_iconst E (Lx_worst_dc.at 3 rfl) ?_
    refine r_icmp_gt (tgt := 17) E ha2 (show InR 2 by decide) (Lx_worst_dc.at 4 rfl) (by decide) (fun q => ?_) (fun q => ?_)
    · have h := ite_t h q
      refine r_ldc (n := (-1000000)) E (Lx_worst_dc.at 9 rfl) zw_5_42 rfl ?_
      cases h
      exact r_iret E S (show InR (-1000000) by decide) (Lx_worst_dc.at 10 rfl)
    · have h := ite_f h q
      refine u_al_n (x := a0) E (Lx_worst_dc.at 5 rfl) hl rfl ?_
      refine u_il_n (x := a1) E (Lx_worst_dc.at 6 rfl) hl rfl ?_
      obtain ⟨g1, h⟩ := ite_e h
      obtain ⟨M3, r2, er2, h⟩ := bd2_e h
      refine u_cVI (As := [.int (zO a1)]) (rest := []) E S zcw_yX11_tryGift zw_5_126 zq_3_3 zw_5_124 zck_11.1 rfl g1 (Lx_tryGift_c l G fu top L M a0 a1 ha0 ha1 er2) (zrm_ok (by decide) (by decide)) ⟨Nat.le_refl 0, Nat.le_refl 0⟩ rfl (Nat.zero_le 8) hl.size rfl (Lx_worst_dc.at 7 rfl) (fun H locs hr2 S4 => ?_)
      refine r_if_ne (tgt := 20) E (inR_01 hr2) (Lx_worst_dc.at 8 rfl) (by decide) (fun q => ?_) (fun q => ?_)
      · have h := ite_t h q
        refine r_ldc (n := (-1000000)) E (Lx_worst_dc.at 9 rfl) zw_5_42 rfl ?_
        cases h
        exact r_iret E S4 (show InR (-1000000) by decide) (Lx_worst_dc.at 10 rfl)
      · have h := ite_f h q
        refine u_al_n (x := a0) E (Lx_worst_dc.at 11 rfl) hl rfl ?_
        refine u_gR E zf_11_9 S4 g1 zw_2_141 (Lx_worst_dc.at 12 rfl) ?_
        refine u_il_n (x := a2) E (Lx_worst_dc.at 13 rfl) hl rfl ?_
        obtain ⟨g5, h⟩ := ite_e h
        obtain ⟨M7, r6, er6, h⟩ := bd2_e h
        refine u_cVI (As := [.int (zO a2)]) (rest := []) E S4 zcw_yX8_tellWorst zw_6_56 zw_6_57 zw_6_55 zck_8.1 rfl g5 (Tr_tellWorst_c l G fu top L M3 (M3 a0 9) a2 (S4.1.inR _ _) ha2 er6) (zrm_ok (by decide) (by decide)) ⟨Nat.le_refl 0, Nat.le_refl 0⟩ rfl (Nat.zero_le 8) hl.size rfl (Lx_worst_dc.at 14 rfl) (fun H locs hr6 S8 => ?_)
        cases h
        exact r_iret E S8 hr6 (Lx_worst_dc.at 15 rfl)
theorem Lx_worst_c (l : Launch) (G : zG) (fu : Nat) (top : Int) (L : zL) (M : zM) (a0 : Int) (a1 : Int) (a2 : Int) {res : (zM × Int)} (ha0 : InR a0) (ha1 : InR a1) (ha2 : InR a2) (h : Lx_worst fu L M a0 a1 a2 = some res) : Met l yX11_worst (Cond.code yX11_worst cX11_worst 3 (some .int) :: zTB) (zrm 7 0 0) (va_Pc [zR G.2.2.1 a0, .int (zO a1), .int (zO a2)] (zPre G top L M)) (zQ G top L res.1 (some (.int (zO res.2))) (InR res.2)) 0 0 (zA G) :=
  z_met (by decide +kernel) (by simp [zR_cat, zcat_I, zcat_S]) (Nat.le_of_ble_eq_true rfl) fun p e s m below meth c ls E hn S hl => Lx_worst_w E ha0 ha1 ha2 S (hl.sub (And.intro rfl (And.intro rfl (And.intro rfl True.intro)))) h
end
theorem Lx_firstBad_dc : zDL cX11_firstBad [(0, .iconst 0, 1, 1), (1, .istore_n 1, 1, 2), (2, .iload_n 1, 1, 3), (3, .aload_n 0, 1, 4), (4, .getfield 42, 3, 7), (7, .getfield 133, 3, 10), (10, .if_icmp .ge 36, 3, 13), (13, .aload_n 0, 1, 14), (14, .iload_n 1, 1, 15), (15, .invokevirtual 266, 3, 18), (18, .ifCond .eq 22, 3, 21), (21, .aload_n 0, 1, 22), (22, .getfield 78, 3, 25), (25, .aload_n 0, 1, 26), (26, .getfield 78, 3, 29), (29, .invokevirtual 269, 3, 32), (32, .invokevirtual 272, 3, 35), (35, .ifCond .ne 5, 3, 38), (38, .iload_n 1, 1, 39), (39, .ireturn, 1, 40), (40, .iinc 1 1, 3, 43), (43, .goto (-41), 3, 46), (46, .iconst (-1), 1, 47), (47, .ireturn, 1, 48)] := zDL.of (by decide +kernel)
section
variable {p : Program} {l : Launch} {e : Env} {s : State} {m : MethodId} {args : Array Value} {below : List Frame} {meth : Method} {c : Code} {G : zG} {top : Int} {L : zL} {fu : Nat}
theorem Lx_firstBad_s2_w (E : zEv p m c cX11_firstBad 2 s args RX11 meth (some .int) G) {res : (zM × Int)} {k2 : zM → Int → Int → Option (zM × Int)} (hk2 : ∀ (M : zM) (x0 : Int) (x1 : Int), InR x0 → InR x1 → ∀ (H : Heap) (locs : List Loc) (ls : Array Slot), zS G top L M s H locs → zLV ls 2 [some (zR G.2.2.1 x0), some (.int (zO x1))] → k2 M x0 x1 = some res → W p l e (zrm 7 0 0) s m args below meth c H locs 0 0 (MQ below (zQ G top L res.1 (some (.int (zO res.2))) (InR res.2)) args s 0 0 (zA G)) (F0 m 2 ls [])) {M : zM} {x0 : Int} {x1 : Int} {H : Heap} {locs : List Loc} {ls : Array Slot} (hx0 : InR x0) (hx1 : InR x1) (S : zS G top L M s H locs) (hl : zLV ls 2 [some (zR G.2.2.1 x0), some (.int (zO x1))]) (h : Lx_firstBad_s2 fu k2 L M x0 x1 = some res) : W p l e (zrm 7 0 0) s m args below meth c H locs 0 0 (MQ below (zQ G top L res.1 (some (.int (zO res.2))) (InR res.2)) args s 0 0 (zA G)) (F0 m 2 ls []) := by
  unfold Lx_firstBad_s2 at h
  refine u_il_n (x := x1) E (Lx_firstBad_dc.at 2 rfl) hl rfl ?_
  refine u_al_n (x := x0) E (Lx_firstBad_dc.at 3 rfl) hl rfl ?_
  obtain ⟨g1, h⟩ := ite_e h
  refine u_gR E zf_11_4 S g1 zw_2_136 (Lx_firstBad_dc.at 4 rfl) ?_
  obtain ⟨g2, h⟩ := ite_e h
  refine u_gI E zf_1_2 S g2 zw_1_226 (Lx_firstBad_dc.at 5 rfl) ?_
  refine r_icmp_ge (tgt := 46) E hx1 (S.1.inR _ _) (Lx_firstBad_dc.at 6 rfl) (by decide) (fun q => ?_) (fun q => ?_)
  · have h := ite_t h q
    refine u_al_n (x := x0) E (Lx_firstBad_dc.at 7 rfl) hl rfl ?_
    refine u_il_n (x := x1) E (Lx_firstBad_dc.at 8 rfl) hl rfl ?_
    obtain ⟨M4, r3, er3, h⟩ := bd2_e h
    refine u_cVI (As := [.int (zO x1)]) (rest := []) E S zcw_yX11_tryGift zw_5_126 zq_3_3 zw_5_124 zck_11.1 rfl g1 (Lx_tryGift_c l G fu top L M x0 x1 hx0 hx1 er3) (zrm_ok (by decide) (by decide)) ⟨Nat.le_refl 0, Nat.le_refl 0⟩ rfl (Nat.zero_le 8) hl.size rfl (Lx_firstBad_dc.at 9 rfl) (fun H locs hr3 S5 => ?_)
    refine r_if_eq (tgt := 40) E (inR_01 hr3) (Lx_firstBad_dc.at 10 rfl) (by decide) (fun q => ?_) (fun q => ?_)
    · have h := ite_t h q
      obtain ⟨v6, ev6, h⟩ := lt1_e h
      have hv6 := inR_eq ev6 (inR_w32 _)
      refine u_iinc (y := v6) (vs' := [some (zR G.2.2.1 x0), some (.int (zO v6))]) E ev6 (Lx_firstBad_dc.at 20 rfl) hl rfl (by decide) rfl (fun ls hl => ?_)
      refine r_goto (tgt := 2) E (Lx_firstBad_dc.at 21 rfl) (by decide) ?_
      exact hk2 _ x0 v6 hx0 hv6 _ _ _ S5 (hl.sub (And.intro rfl (And.intro rfl True.intro))) h
    · have h := ite_f h q
      refine u_al_n (x := x0) E (Lx_firstBad_dc.at 11 rfl) hl rfl ?_
      refine u_gR E zf_11_9 S5 g1 zw_2_141 (Lx_firstBad_dc.at 12 rfl) ?_
      refine u_al_n (x := x0) E (Lx_firstBad_dc.at 13 rfl) hl rfl ?_
      refine u_gR E zf_11_9 S5 g1 zw_2_141 (Lx_firstBad_dc.at 14 rfl) ?_
      obtain ⟨g7, h⟩ := ite_e h
      obtain ⟨r8, er8, h⟩ := bd1_e h
      refine u_cVI (As := []) (rest := [zR G.2.2.1 (M4 x0 9)]) E S5 zcw_yX8_allLives zw_5_151 zw_5_152 zw_5_150 zck_8.1 rfl g7 (Tr_allLives_c l G fu top L M4 (M4 x0 9) (S5.1.inR _ _) er8) (zrm_ok (by decide) (by decide)) ⟨Nat.le_refl 0, Nat.le_refl 0⟩ rfl (by simp [zR_cat, zcat_I, zcat_J, zcat_S]) hl.size rfl (Lx_firstBad_dc.at 15 rfl) (fun H locs hr8 S9 => ?_)
      obtain ⟨M11, r10, er10, h⟩ := bd2_e h
      refine u_cVI (As := [.int (zO r8)]) (rest := []) E S9 zcw_yX8_passes zw_5_156 zw_5_157 zw_5_155 zck_8.1 rfl g7 (Tr_passes_c l G fu top L M4 (M4 x0 9) r8 (S5.1.inR _ _) hr8 er10) (zrm_ok (by decide) (by decide)) ⟨Nat.le_refl 0, Nat.le_refl 0⟩ rfl (Nat.zero_le 8) hl.size rfl (Lx_firstBad_dc.at 16 rfl) (fun H locs hr10 S12 => ?_)
      refine r_if_ne (tgt := 40) E (inR_01 hr10) (Lx_firstBad_dc.at 17 rfl) (by decide) (fun q => ?_) (fun q => ?_)
      · have h := ite_t h q
        refine u_il_n (x := x1) E (Lx_firstBad_dc.at 18 rfl) hl rfl ?_
        cases h
        exact r_iret E S12 hx1 (Lx_firstBad_dc.at 19 rfl)
      · have h := ite_f h q
        obtain ⟨v13, ev13, h⟩ := lt1_e h
        have hv13 := inR_eq ev13 (inR_w32 _)
        refine u_iinc (y := v13) (vs' := [some (zR G.2.2.1 x0), some (.int (zO v13))]) E ev13 (Lx_firstBad_dc.at 20 rfl) hl rfl (by decide) rfl (fun ls hl => ?_)
        refine r_goto (tgt := 2) E (Lx_firstBad_dc.at 21 rfl) (by decide) ?_
        exact hk2 _ x0 v13 hx0 hv13 _ _ _ S12 (hl.sub (And.intro rfl (And.intro rfl True.intro))) h
  · have h := ite_f h q
    refine r_iconst E (Lx_firstBad_dc.at 22 rfl) ?_
    cases h
    exact r_iret E S (show InR (-1) by decide) (Lx_firstBad_dc.at 23 rfl)
theorem Lx_firstBad_l2_w (E : zEv p m c cX11_firstBad 2 s args RX11 meth (some .int) G) {res : (zM × Int)} : ∀ (n : Nat) (M : zM) (x0 : Int) (x1 : Int), InR x0 → InR x1 → ∀ (H : Heap) (locs : List Loc) (ls : Array Slot), zS G top L M s H locs → zLV ls 2 [some (zR G.2.2.1 x0), some (.int (zO x1))] → Lx_firstBad_l2 fu L n M x0 x1 = some res → W p l e (zrm 7 0 0) s m args below meth c H locs 0 0 (MQ below (zQ G top L res.1 (some (.int (zO res.2))) (InR res.2)) args s 0 0 (zA G)) (F0 m 2 ls [])
  | 0, _, _, _ => fun _ _ _ _ _ _ _ h => (by cases h)
  | n + 1, M, x0, x1 => fun hx0 hx1 H locs ls S hl h => Lx_firstBad_s2_w E (fun M x0 x1 hx0 hx1 H locs ls S hl h => Lx_firstBad_l2_w E n M x0 x1 hx0 hx1 H locs ls S hl h) hx0 hx1 S hl h
theorem Lx_firstBad_w (E : zEv p m c cX11_firstBad 2 s args RX11 meth (some .int) G) {res : (zM × Int)} {M : zM} {a0 : Int} {H : Heap} {locs : List Loc} {ls : Array Slot} (ha0 : InR a0) (S : zS G top L M s H locs) (hl : zLV ls 2 [some (zR G.2.2.1 a0), none]) (h : Lx_firstBad fu L M a0 = some res) : W p l e (zrm 7 0 0) s m args below meth c H locs 0 0 (MQ below (zQ G top L res.1 (some (.int (zO res.2))) (InR res.2)) args s 0 0 (zA G)) (F0 m 0 ls []) := by
  unfold Lx_firstBad at h
  refine r_iconst E (Lx_firstBad_dc.at 0 rfl) ?_
  refine u_ist_n (y := 0) (vs' := [some (zR G.2.2.1 a0), some (.int (zO 0))]) E rfl (Lx_firstBad_dc.at 1 rfl) hl (by decide) rfl (fun ls hl => ?_)
  exact Lx_firstBad_l2_w E fu _ a0 0 ha0 (show InR 0 by decide) _ _ _ S (hl.sub (And.intro rfl (And.intro rfl True.intro))) h
theorem Lx_firstBad_c (l : Launch) (G : zG) (fu : Nat) (top : Int) (L : zL) (M : zM) (a0 : Int) {res : (zM × Int)} (ha0 : InR a0) (h : Lx_firstBad fu L M a0 = some res) : Met l yX11_firstBad (Cond.code yX11_firstBad cX11_firstBad 2 (some .int) :: zTB) (zrm 7 0 0) (va_Pc [zR G.2.2.1 a0] (zPre G top L M)) (zQ G top L res.1 (some (.int (zO res.2))) (InR res.2)) 0 0 (zA G) :=
  z_met (by decide +kernel) (by simp [zR_cat, zcat_I, zcat_S]) (Nat.le_of_ble_eq_true rfl) fun p e s m below meth c ls E hn S hl => Lx_firstBad_w E ha0 S (hl.sub (And.intro rfl True.intro)) h
end
theorem Ac_takeBack_dc : zDL cX0_takeBack [(0, .aload_n 0, 1, 1), (1, .getfield 22, 3, 4), (4, .ifCond .le 12, 3, 7), (7, .aload_n 0, 1, 8), (8, .getfield 22, 3, 11), (11, .iconst 1, 1, 12), (12, .isub, 1, 13), (13, .goto 5, 3, 16), (16, .bipush 15, 2, 18), (18, .istore_n 2, 1, 19), (19, .aload_n 0, 1, 20), (20, .iload_n 2, 1, 21), (21, .invokevirtual 25, 3, 24), (24, .astore_n 3, 1, 25), (25, .aload_n 0, 1, 26), (26, .getfield 18, 3, 29), (29, .ifCond .le 7, 3, 32), (32, .aload_n 3, 1, 33), (33, .ifnonnull 5, 3, 36), (36, .iconst 0, 1, 37), (37, .ireturn, 1, 38), (38, .aload_n 1, 1, 39), (39, .aload_n 3, 1, 40), (40, .invokevirtual 29, 3, 43), (43, .aload_n 0, 1, 44), (44, .iload_n 2, 1, 45), (45, .putfield 22, 3, 48), (48, .aload_n 0, 1, 49), (49, .dup, 1, 50), (50, .getfield 18, 3, 53), (53, .iconst 1, 1, 54), (54, .isub, 1, 55), (55, .putfield 18, 3, 58), (58, .iconst 1, 1, 59), (59, .ireturn, 1, 60)] := zDL.of (by decide +kernel)
section
variable {p : Program} {l : Launch} {e : Env} {s : State} {m : MethodId} {args : Array Value} {below : List Frame} {meth : Method} {c : Code} {G : zG} {top : Int} {L : zL} {fu : Nat}
theorem Ac_takeBack_b18_w (E : zEv p m c cX0_takeBack 4 s args RX0 meth (some .boolean) G) {res : (zM × Int)} {M : zM} {x0 : Int} {x1 : Int} {y0 : Int} {H : Heap} {locs : List Loc} {ls : Array Slot} (hx0 : InR x0) (hx1 : InR x1) (hy0 : InR y0) (S : zS G top L M s H locs) (hl : zLV ls 4 [some (zR G.2.2.1 x0), some (zR G.2.2.1 x1), none, none]) (h : Ac_takeBack_b18 fu L M x0 x1 y0 = some res) : W p l e (zrm 5 0 0) s m args below meth c H locs 0 0 (MQ below (zQ G top L res.1 (some (.int (zO res.2))) (0 ≤ res.2 ∧ res.2 ≤ 1)) args s 0 0 (zA G)) (F0 m 18 ls [.int (zO y0)]) := by
  unfold Ac_takeBack_b18 at h
  refine u_ist_n (y := y0) (vs' := [some (zR G.2.2.1 x0), some (zR G.2.2.1 x1), some (.int (zO y0)), none]) E rfl (Ac_takeBack_dc.at 9 rfl) hl (by decide) rfl (fun ls hl => ?_)
  refine u_al_n (x := x0) E (Ac_takeBack_dc.at 10 rfl) hl rfl ?_
  refine u_il_n (x := y0) E (Ac_takeBack_dc.at 11 rfl) hl rfl ?_
  obtain ⟨g2, h⟩ := ite_e h
  obtain ⟨r3, er3, h⟩ := bd1_e h
  refine u_cVR (As := [.int (zO y0)]) (rest := []) E S zcw_yX0_placeAt zw_4_7 zq_2_12 zw_4_5 zck_0.1 rfl g2 (Ac_placeAt_c l G fu top L M x0 y0 hx0 hy0 er3) (zrm_ok (by decide) (by decide)) ⟨Nat.le_refl 0, Nat.le_refl 0⟩ rfl (Nat.zero_le 8) hl.size rfl (Ac_takeBack_dc.at 12 rfl) (fun H locs hr3 S4 => ?_)
  refine u_ast_n (y := r3) (vs' := [some (zR G.2.2.1 x0), some (zR G.2.2.1 x1), some (.int (zO y0)), some (zR G.2.2.1 r3)]) E rfl (Ac_takeBack_dc.at 13 rfl) hl (by decide) rfl (fun ls hl => ?_)
  refine u_al_n (x := x0) E (Ac_takeBack_dc.at 14 rfl) hl rfl ?_
  refine u_gI E zf_0_2 S4 g2 zw_2_15 (Ac_takeBack_dc.at 15 rfl) ?_
  refine r_if_le (tgt := 36) E (S4.1.inR _ _) (Ac_takeBack_dc.at 16 rfl) (by decide) (fun q => ?_) (fun q => ?_)
  · have h := ite_t h q
    refine u_al_n (x := r3) E (Ac_takeBack_dc.at 17 rfl) hl rfl ?_
    refine r_ifnonnull (tgt := 38) E (Ac_takeBack_dc.at 18 rfl) (by decide) (fun q => ?_) (fun q => ?_)
    · have h := ite_t h q
      refine r_iconst E (Ac_takeBack_dc.at 19 rfl) ?_
      cases h
      exact r_zret E S4 z01_0 z01_0 (Ac_takeBack_dc.at 20 rfl)
    · have h := ite_f h q
      refine u_al_n (x := x1) E (Ac_takeBack_dc.at 21 rfl) hl rfl ?_
      refine u_al_n (x := r3) E (Ac_takeBack_dc.at 22 rfl) hl rfl ?_
      obtain ⟨g5, h⟩ := ite_e h
      obtain ⟨M6, eM6, h⟩ := bd1_e h
      refine u_cVU (As := [zR G.2.2.1 r3]) (rest := []) E S4 zcw_yX1_copyFrom zw_4_10 zw_4_11 zw_4_9 zck_1.1 rfl g5 (Af_copyFrom_c l G fu top L M x1 r3 hx1 hr3 eM6) (zrm_ok (by decide) (by decide)) ⟨Nat.le_refl 0, Nat.le_refl 0⟩ rfl (Nat.zero_le 8) hl.size rfl (Ac_takeBack_dc.at 23 rfl) (fun H locs _ S7 => ?_)
      refine u_al_n (x := x0) E (Ac_takeBack_dc.at 24 rfl) hl rfl ?_
      refine u_il_n (x := y0) E (Ac_takeBack_dc.at 25 rfl) hl rfl ?_
      obtain ⟨M8, eM8, h⟩ := lt1_e h
      refine u_pI E eM8 zf_0_1 S7 g2 hy0 (Or.inl rfl) rfl zw_2_14 (Ac_takeBack_dc.at 26 rfl) (fun H locs S9 => ?_)
      refine u_al_n (x := x0) E (Ac_takeBack_dc.at 27 rfl) hl rfl ?_
      refine r_dup E (Ac_takeBack_dc.at 28 rfl) (zR_cat _ _) ?_
      refine u_gI E zf_0_2 S9 g2 zw_2_15 (Ac_takeBack_dc.at 29 rfl) ?_
      refine r_iconst E (Ac_takeBack_dc.at 30 rfl) ?_
      refine r_isub E (Ac_takeBack_dc.at 31 rfl) ?_
      obtain ⟨M10, eM10, h⟩ := lt1_e h
      refine u_pI E eM10 zf_0_2 S9 g2 (inR_w32 _) (Or.inl rfl) rfl zw_2_15 (Ac_takeBack_dc.at 32 rfl) (fun H locs S11 => ?_)
      refine r_iconst E (Ac_takeBack_dc.at 33 rfl) ?_
      cases h
      exact r_zret E S11 z01_1 z01_1 (Ac_takeBack_dc.at 34 rfl)
  · have h := ite_f h q
    refine r_iconst E (Ac_takeBack_dc.at 19 rfl) ?_
    cases h
    exact r_zret E S4 z01_0 z01_0 (Ac_takeBack_dc.at 20 rfl)
theorem Ac_takeBack_w (E : zEv p m c cX0_takeBack 4 s args RX0 meth (some .boolean) G) {res : (zM × Int)} {M : zM} {a0 : Int} {a1 : Int} {H : Heap} {locs : List Loc} {ls : Array Slot} (ha0 : InR a0) (ha1 : InR a1) (S : zS G top L M s H locs) (hl : zLV ls 4 [some (zR G.2.2.1 a0), some (zR G.2.2.1 a1), none, none]) (h : Ac_takeBack fu L M a0 a1 = some res) : W p l e (zrm 5 0 0) s m args below meth c H locs 0 0 (MQ below (zQ G top L res.1 (some (.int (zO res.2))) (0 ≤ res.2 ∧ res.2 ≤ 1)) args s 0 0 (zA G)) (F0 m 0 ls []) := by
  unfold Ac_takeBack at h
  refine u_al_n (x := a0) E (Ac_takeBack_dc.at 0 rfl) hl rfl ?_
  obtain ⟨g1, h⟩ := ite_e h
  refine u_gI E zf_0_1 S g1 zw_2_14 (Ac_takeBack_dc.at 1 rfl) ?_
  refine r_if_le (tgt := 16) E (S.1.inR _ _) (Ac_takeBack_dc.at 2 rfl) (by decide) (fun q => ?_) (fun q => ?_)
  · have h := ite_t h q
    refine u_al_n (x := a0) E (Ac_takeBack_dc.at 3 rfl) hl rfl ?_
    refine u_gI E zf_0_1 S g1 zw_2_14 (Ac_takeBack_dc.at 4 rfl) ?_
    refine r_iconst E (Ac_takeBack_dc.at 5 rfl) ?_
    refine r_isub E (Ac_takeBack_dc.at 6 rfl) ?_
    refine r_goto (tgt := 18) E (Ac_takeBack_dc.at 7 rfl) (by decide) ?_
    exact Ac_takeBack_b18_w (x0 := a0) (x1 := a1) (y0 := (w32 ((M a0 1) - 1))) E ha0 ha1 (inR_w32 _) S (hl.sub (And.intro rfl (And.intro rfl True.intro))) h
  · have h := ite_f h q
    refine r_bipush E (Ac_takeBack_dc.at 8 rfl) rfl ?_
    exact Ac_takeBack_b18_w (x0 := a0) (x1 := a1) (y0 := 15) E ha0 ha1 (show InR 15 by decide) S (hl.sub (And.intro rfl (And.intro rfl True.intro))) h
theorem Ac_takeBack_c (l : Launch) (G : zG) (fu : Nat) (top : Int) (L : zL) (M : zM) (a0 : Int) (a1 : Int) {res : (zM × Int)} (ha0 : InR a0) (ha1 : InR a1) (h : Ac_takeBack fu L M a0 a1 = some res) : Met l yX0_takeBack (Cond.code yX0_takeBack cX0_takeBack 4 (some .boolean) :: zTB) (zrm 5 0 0) (va_Pc [zR G.2.2.1 a0, zR G.2.2.1 a1] (zPre G top L M)) (zQ G top L res.1 (some (.int (zO res.2))) (0 ≤ res.2 ∧ res.2 ≤ 1)) 0 0 (zA G) :=
  z_met (by decide +kernel) (by simp [zR_cat, zcat_I, zcat_S]) (Nat.le_of_ble_eq_true rfl) fun p e s m below meth c ls E hn S hl => Ac_takeBack_w E ha0 ha1 S (hl.sub (And.intro rfl (And.intro rfl True.intro))) h
end
theorem Lx_undo_dc : zDL cX11_undo [(0, .aload_n 0, 1, 1), (1, .getfield 52, 3, 4), (4, .aload_n 0, 1, 5), (5, .getfield 42, 3, 8), (8, .invokevirtual 321, 3, 11), (11, .ifCond .eq 13, 3, 14), (14, .aload_n 0, 1, 15), (15, .getfield 52, 3, 18), (18, .getfield 325, 3, 21), (21, .goto 4, 3, 24), (24, .iconst (-1), 1, 25), (25, .ireturn, 1, 26)] := zDL.of (by decide +kernel)
section
variable {p : Program} {l : Launch} {e : Env} {s : State} {m : MethodId} {args : Array Value} {below : List Frame} {meth : Method} {c : Code} {G : zG} {top : Int} {L : zL} {fu : Nat}
theorem Lx_undo_w (E : zEv p m c cX11_undo 1 s args RX11 meth (some .int) G) {res : (zM × Int)} {M : zM} {a0 : Int} {H : Heap} {locs : List Loc} {ls : Array Slot} (ha0 : InR a0) (S : zS G top L M s H locs) (hl : zLV ls 1 [some (zR G.2.2.1 a0)]) (h : Lx_undo fu L M a0 = some res) : W p l e (zrm 6 0 0) s m args below meth c H locs 0 0 (MQ below (zQ G top L res.1 (some (.int (zO res.2))) (InR res.2)) args s 0 0 (zA G)) (F0 m 0 ls []) := by
  unfold Lx_undo at h
  refine u_al_n (x := a0) E (Lx_undo_dc.at 0 rfl) hl rfl ?_
  obtain ⟨g1, h⟩ := ite_e h
  refine u_gR E zf_11_6 S g1 zw_2_138 (Lx_undo_dc.at 1 rfl) ?_
  refine u_al_n (x := a0) E (Lx_undo_dc.at 2 rfl) hl rfl ?_
  refine u_gR E zf_11_4 S g1 zw_2_136 (Lx_undo_dc.at 3 rfl) ?_
  obtain ⟨g2, h⟩ := ite_e h
  obtain ⟨M4, r3, er3, h⟩ := bd2_e h
  refine u_cVI (As := [zR G.2.2.1 (M a0 4)]) (rest := []) E S zcw_yX0_takeBack zw_6_70 zw_6_71 zw_6_69 zck_0.1 rfl g2 (Ac_takeBack_c l G fu top L M (M a0 6) (M a0 4) (S.1.inR _ _) (S.1.inR _ _) er3) (zrm_ok (by decide) (by decide)) ⟨Nat.le_refl 0, Nat.le_refl 0⟩ rfl (Nat.zero_le 8) hl.size rfl (Lx_undo_dc.at 4 rfl) (fun H locs hr3 S5 => ?_)
  refine r_if_eq (tgt := 24) E (inR_01 hr3) (Lx_undo_dc.at 5 rfl) (by decide) (fun q => ?_) (fun q => ?_)
  · have h := ite_t h q
    refine r_iconst E (Lx_undo_dc.at 10 rfl) ?_
    cases h
    exact r_iret E S5 (show InR (-1) by decide) (Lx_undo_dc.at 11 rfl)
  · have h := ite_f h q
    refine u_al_n (x := a0) E (Lx_undo_dc.at 6 rfl) hl rfl ?_
    refine u_gR E zf_11_6 S5 g1 zw_2_138 (Lx_undo_dc.at 7 rfl) ?_
    obtain ⟨g6, h⟩ := ite_e h
    refine u_gI E zf_0_2 S5 g6 zw_2_16 (Lx_undo_dc.at 8 rfl) ?_
    refine r_goto (tgt := 25) E (Lx_undo_dc.at 9 rfl) (by decide) ?_
    cases h
    exact r_iret E S5 (S5.1.inR _ _) (Lx_undo_dc.at 11 rfl)
theorem Lx_undo_c (l : Launch) (G : zG) (fu : Nat) (top : Int) (L : zL) (M : zM) (a0 : Int) {res : (zM × Int)} (ha0 : InR a0) (h : Lx_undo fu L M a0 = some res) : Met l yX11_undo (Cond.code yX11_undo cX11_undo 1 (some .int) :: zTB) (zrm 6 0 0) (va_Pc [zR G.2.2.1 a0] (zPre G top L M)) (zQ G top L res.1 (some (.int (zO res.2))) (InR res.2)) 0 0 (zA G) :=
  z_met (by decide +kernel) (by simp [zR_cat, zcat_I, zcat_S]) (Nat.le_of_ble_eq_true rfl) fun p e s m below meth c ls E hn S hl => Lx_undo_w E ha0 S (hl.sub (And.intro rfl True.intro)) h
end
