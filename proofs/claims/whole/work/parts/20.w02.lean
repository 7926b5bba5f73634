theorem Gr_readAfter_dc : zDL cX4_readAfter [(0, .iload_n 1, 1, 1), (1, .iconst 5, 1, 2), (2, .if_icmp .lt 5, 3, 5), (5, .iconst 0, 1, 6), (6, .ireturn, 1, 7), (7, .aload_n 0, 1, 8), (8, .invokevirtual 103, 3, 11), (11, .aload_n 0, 1, 12), (12, .getfield 30, 3, 15), (15, .getfield 142, 3, 18), (18, .istore_n 2, 1, 19), (19, .aload_n 0, 1, 20), (20, .getfield 30, 3, 23), (23, .iconst 0, 1, 24), (24, .bipush 99, 2, 26), (26, .invokevirtual 145, 3, 29), (29, .ifCond .ne 5, 3, 32), (32, .iconst 0, 1, 33), (33, .ireturn, 1, 34), (34, .aload_n 0, 1, 35), (35, .invokevirtual 103, 3, 38), (38, .aload_n 0, 1, 39), (39, .iload_n 1, 1, 40), (40, .iconst 1, 1, 41), (41, .iadd, 1, 42), (42, .invokevirtual 110, 3, 45), (45, .ifCond .ne 5, 3, 48), (48, .iconst 0, 1, 49), (49, .ireturn, 1, 50), (50, .aload_n 0, 1, 51), (51, .iconst 5, 1, 52), (52, .iload_n 2, 1, 53), (53, .iconst (-1), 1, 54), (54, .invokevirtual 136, 3, 57), (57, .iconst 1, 1, 58), (58, .ireturn, 1, 59)] := zDL.of (by decide +kernel)
theorem Gr_readAll_dc : zDL cX4_readAll [(0, .aload_n 0, 1, 1), (1, .iload_n 1, 1, 2), (2, .invokevirtual 110, 3, 5), (5, .ifCond .ne 5, 3, 8), (8, .iconst 0, 1, 9), (9, .ireturn, 1, 10), (10, .iconst 0, 1, 11), (11, .istore_n 2, 1, 12), (12, .iload_n 2, 1, 13), (13, .sipush 300, 3, 16), (16, .if_icmp .ge 49, 3, 19), (19, .aload_n 0, 1, 20), (20, .getfield 30, 3, 23), (23, .ldc 113, 2, 25), (25, .invokevirtual 100, 3, 28), (28, .ifCond .eq 37, 3, 31), (31, .aload_n 0, 1, 32), (32, .invokevirtual 103, 3, 35), (35, .aload_n 0, 1, 36), (36, .getfield 38, 3, 39), (39, .iconst 1, 1, 40), (40, .isub, 1, 41), (41, .istore_n 3, 1, 42), (42, .aload_n 0, 1, 43), (43, .iload_n 1, 1, 44), (44, .invokevirtual 110, 3, 47), (47, .ifCond .ne 5, 3, 50), (50, .iconst 0, 1, 51), (51, .ireturn, 1, 52), (52, .aload_n 0, 1, 53), (53, .bipush 6, 2, 55), (55, .iload_n 3, 1, 56), (56, .invokevirtual 106, 3, 59), (59, .iinc 2 1, 3, 62), (62, .goto (-50), 3, 65), (65, .iconst 1, 1, 66), (66, .ireturn, 1, 67)] := zDL.of (by decide +kernel)
theorem Gr_readAny_dc : zDL cX4_readAny [(0, .iload_n 1, 1, 1), (1, .iconst 5, 1, 2), (2, .if_icmp .gt 11, 3, 5), (5, .aload_n 0, 1, 6), (6, .iload_n 1, 1, 7), (7, .invokevirtual 91, 3, 10), (10, .ifCond .ne 5, 3, 13), (13, .iconst 0, 1, 14), (14, .ireturn, 1, 15), (15, .aload_n 0, 1, 16), (16, .iload_n 1, 1, 17), (17, .invokevirtual 94, 3, 20), (20, .iconst 0, 1, 21), (21, .istore_n 2, 1, 22), (22, .iload_n 2, 1, 23), (23, .sipush 300, 3, 26), (26, .if_icmp .ge 54, 3, 29), (29, .aload_n 0, 1, 30), (30, .getfield 30, 3, 33), (33, .ldc 98, 2, 35), (35, .invokevirtual 100, 3, 38), (38, .ifCond .eq 42, 3, 41), (41, .aload_n 0, 1, 42), (42, .invokevirtual 103, 3, 45), (45, .aload_n 0, 1, 46), (46, .getfield 38, 3, 49), (49, .iconst 1, 1, 50), (50, .isub, 1, 51), (51, .istore_n 3, 1, 52), (52, .aload_n 0, 1, 53), (53, .iload_n 1, 1, 54), (54, .invokevirtual 91, 3, 57), (57, .ifCond .ne 5, 3, 60), (60, .iconst 0, 1, 61), (61, .ireturn, 1, 62), (62, .aload_n 0, 1, 63), (63, .iload_n 1, 1, 64), (64, .invokevirtual 94, 3, 67), (67, .aload_n 0, 1, 68), (68, .bipush 7, 2, 70), (70, .iload_n 3, 1, 71), (71, .invokevirtual 106, 3, 74), (74, .iinc 2 1, 3, 77), (77, .goto (-55), 3, 80), (80, .iconst 1, 1, 81), (81, .ireturn, 1, 82)] := zDL.of (by decide +kernel)
theorem Gr_readFact_dc : zDL cX4_readFact [(0, .aload_n 0, 1, 1), (1, .getfield 30, 3, 4), (4, .bipush 40, 2, 6), (6, .invokevirtual 115, 3, 9), (9, .ifCond .eq 9, 3, 12), (12, .aload_n 0, 1, 13), (13, .iload_n 1, 1, 14), (14, .invokevirtual 118, 3, 17), (17, .ireturn, 1, 18), (18, .aload_n 0, 1, 19), (19, .getfield 34, 3, 22), (22, .bipush 16, 2, 24), (24, .if_icmp .lt 5, 3, 27), (27, .iconst 0, 1, 28), (28, .ireturn, 1, 29), (29, .aload_n 0, 1, 30), (30, .dup, 1, 31), (31, .getfield 34, 3, 34), (34, .iconst 1, 1, 35), (35, .iadd, 1, 36), (36, .putfield 34, 3, 39), (39, .aload_n 0, 1, 40), (40, .getfield 30, 3, 43), (43, .ldc 121, 2, 45), (45, .invokevirtual 100, 3, 48), (48, .ifCond .eq 9, 3, 51), (51, .aload_n 0, 1, 52), (52, .iload_n 1, 1, 53), (53, .invokevirtual 123, 3, 56), (56, .ireturn, 1, 57), (57, .aload_n 0, 1, 58), (58, .ldc 126, 2, 60), (60, .invokevirtual 54, 3, 63), (63, .ifCond .eq 10, 3, 66), (66, .aload_n 0, 1, 67), (67, .iconst 0, 1, 68), (68, .iconst (-1), 1, 69), (69, .invokevirtual 128, 3, 72), (72, .ireturn, 1, 73), (73, .aload_n 0, 1, 74), (74, .ldc 132, 2, 76), (76, .invokevirtual 54, 3, 79), (79, .ifCond .eq 10, 3, 82), (82, .aload_n 0, 1, 83), (83, .iconst 3, 1, 84), (84, .iconst (-1), 1, 85), (85, .invokevirtual 128, 3, 88), (88, .ireturn, 1, 89), (89, .aload_n 0, 1, 90), (90, .ldc 134, 2, 92), (92, .invokevirtual 54, 3, 95), (95, .ifCond .eq 12, 3, 98), (98, .aload_n 0, 1, 99), (99, .iconst 2, 1, 100), (100, .iconst 0, 1, 101), (101, .iconst (-1), 1, 102), (102, .invokevirtual 136, 3, 105), (105, .iconst 1, 1, 106), (106, .ireturn, 1, 107), (107, .aload_n 0, 1, 108), (108, .ldc 140, 2, 110), (110, .invokevirtual 54, 3, 113), (113, .istore_n 2, 1, 114), (114, .aload_n 0, 1, 115), (115, .getfield 30, 3, 118), (118, .invokevirtual 81, 3, 121), (121, .istore_n 3, 1, 122), (122, .aload_n 0, 1, 123), (123, .invokevirtual 88, 3, 126), (126, .ifCond .ne 5, 3, 129), (129, .iconst 0, 1, 130), (130, .ireturn, 1, 131), (131, .iload_n 2, 1, 132), (132, .ifCond .eq 12, 3, 135), (135, .aload_n 0, 1, 136), (136, .iconst 1, 1, 137), (137, .iconst 0, 1, 138), (138, .iload_n 3, 1, 139), (139, .invokevirtual 136, 3, 142), (142, .iconst 1, 1, 143), (143, .ireturn, 1, 144), (144, .aload_n 0, 1, 145), (145, .ldc 132, 2, 147), (147, .invokevirtual 54, 3, 150), (150, .ifCond .eq 16, 3, 153), (153, .aload_n 0, 1, 154), (154, .iconst 4, 1, 155), (155, .iload_n 3, 1, 156), (156, .invokevirtual 128, 3, 159), (159, .ifCond .eq 7, 3, 162), (162, .iconst 1, 1, 163), (163, .goto 4, 3, 166), (166, .iconst 0, 1, 167), (167, .ireturn, 1, 168)] := zDL.of (by decide +kernel)
theorem Gr_readGroup_dc : zDL cX4_readGroup [(0, .iload_n 1, 1, 1), (1, .iconst 5, 1, 2), (2, .if_icmp .lt 5, 3, 5), (5, .iconst 0, 1, 6), (6, .ireturn, 1, 7), (7, .aload_n 0, 1, 8), (8, .invokevirtual 103, 3, 11), (11, .aload_n 0, 1, 12), (12, .iload_n 1, 1, 13), (13, .iconst 1, 1, 14), (14, .iadd, 1, 15), (15, .invokevirtual 64, 3, 18), (18, .ifCond .eq 15, 3, 21), (21, .aload_n 0, 1, 22), (22, .getfield 30, 3, 25), (25, .bipush 41, 2, 27), (27, .invokevirtual 115, 3, 30), (30, .ifCond .ne 5, 3, 33), (33, .iconst 0, 1, 34), (34, .ireturn, 1, 35), (35, .aload_n 0, 1, 36), (36, .invokevirtual 103, 3, 39), (39, .iconst 1, 1, 40), (40, .ireturn, 1, 41)] := zDL.of (by decide +kernel)
def zh_Gr_readAfter (l : Launch) (G : zG) (zd : Nat) (top : Int) (L : zL) (rec : zt_Gr_readAfter) : Prop := (∀ (M : zM) (a0 : Int) (a1 : Int) {res : (zM × Int)}, InR a0 → InR a1 → rec.1 M a0 a1 = some res → Met l yX4_readAfter (Cond.code yX4_readAfter cX4_readAfter 3 (some .boolean) :: zTB) (zrm zd 0 0) (va_Pc [zR G.2.2.1 a0, .int (zO a1)] (zPre G top L M)) (zQ G top L res.1 (some (.int (zO res.2))) (0 ≤ res.2 ∧ res.2 ≤ 1)) 0 0 (zA G)) ∧ (∀ (M : zM) (a0 : Int) (a1 : Int) {res : (zM × Int)}, InR a0 → InR a1 → rec.2.1 M a0 a1 = some res → Met l yX4_readAll (Cond.code yX4_readAll cX4_readAll 4 (some .boolean) :: zTB) (zrm zd 0 0) (va_Pc [zR G.2.2.1 a0, .int (zO a1)] (zPre G top L M)) (zQ G top L res.1 (some (.int (zO res.2))) (0 ≤ res.2 ∧ res.2 ≤ 1)) 0 0 (zA G)) ∧ (∀ (M : zM) (a0 : Int) (a1 : Int) {res : (zM × Int)}, InR a0 → InR a1 → rec.2.2.1 M a0 a1 = some res → Met l yX4_readAny (Cond.code yX4_readAny cX4_readAny 4 (some .boolean) :: zTB) (zrm zd 0 0) (va_Pc [zR G.2.2.1 a0, .int (zO a1)] (zPre G top L M)) (zQ G top L res.1 (some (.int (zO res.2))) (0 ≤ res.2 ∧ res.2 ≤ 1)) 0 0 (zA G)) ∧ (∀ (M : zM) (a0 : Int) (a1 : Int) {res : (zM × Int)}, InR a0 → InR a1 → rec.2.2.2.1 M a0 a1 = some res → Met l yX4_readFact (Cond.code yX4_readFact cX4_readFact 4 (some .boolean) :: zTB) (zrm zd 0 0) (va_Pc [zR G.2.2.1 a0, .int (zO a1)] (zPre G top L M)) (zQ G top L res.1 (some (.int (zO res.2))) (0 ≤ res.2 ∧ res.2 ≤ 1)) 0 0 (zA G)) ∧ (∀ (M : zM) (a0 : Int) (a1 : Int) {res : (zM × Int)}, InR a0 → InR a1 → rec.2.2.2.2 M a0 a1 = some res → Met l yX4_readGroup (Cond.code yX4_readGroup cX4_readGroup 2 (some .boolean) :: zTB) (zrm zd 0 0) (va_Pc [zR G.2.2.1 a0, .int (zO a1)] (zPre G top L M)) (zQ G top L res.1 (some (.int (zO res.2))) (0 ≤ res.2 ∧ res.2 ≤ 1)) 0 0 (zA G))
section
variable {p : Program} {l : Launch} {e : Env} {s : State} {m : MethodId} {args : Array Value} {below : List Frame} {meth : Method} {c : Code} {G : zG} {top : Int} {L : zL} {fu : Nat} {zd : Nat} {rec : zt_Gr_readAfter}
theorem Gr_readAfter_w (E : zEv p m c cX4_readAfter 3 s args RX4 meth (some .boolean) G) (HR : zh_Gr_readAfter l G zd top L rec) (hzd : 8 ≤ zd) {res : (zM × Int)} {M : zM} {a0 : Int} {a1 : Int} {H : Heap} {locs : List Loc} {ls : Array Slot} (ha0 : InR a0) (ha1 : InR a1) (S : zS G top L M s H locs) (hl : zLV ls 3 [some (zR G.2.2.1 a0), some (.int (zO a1)), none]) (h : Gr_readAfter_r fu rec L M a0 a1 = some res) : W p l e (zrm (zd + 1) 0 0) s m args below meth c H locs 0 0 (MQ below (zQ G top L res.1 (some (.int (zO res.2))) (0 ≤ res.2 ∧ res.2 ≤ 1)) args s 0 0 (zA G)) (F0 m 0 ls []) := by
  unfold Gr_readAfter_r at h
  refine u_il_n (x := a1) E (Gr_readAfter_dc.at 0 rfl) hl rfl ?_
  refine r_iconst E (Gr_readAfter_dc.at 1 rfl) ?_
  refine r_icmp_lt (tgt := 7) E ha1 (show InR 5 by decide) (Gr_readAfter_dc.at 2 rfl) (by decide) (fun q => ?_) (fun q => ?_)
  · have h := ite_t h q
    refine u_al_n (x := a0) E (Gr_readAfter_dc.at 5 rfl) hl rfl ?_
    obtain ⟨g1, h⟩ := ite_e h
    obtain ⟨M2, eM2, h⟩ := bd1_e h
    refine u_cVU (As := []) (rest := []) E S zcw_yX4_take zw_3_94 zq_1_9 zw_3_92 zck_4.1 rfl g1 (Gr_take_c l G fu top L M a0 ha0 eM2) (zrm_ok (by omega) (by decide)) ⟨Nat.le_refl 0, Nat.le_refl 0⟩ rfl (Nat.zero_le 8) hl.size rfl (Gr_readAfter_dc.at 6 rfl) (fun H locs _ S3 => ?_)
    refine u_al_n (x := a0) E (Gr_readAfter_dc.at 7 rfl) hl rfl ?_
    refine u_gR E zf_4_0 S3 g1 zw_1_103 (Gr_readAfter_dc.at 8 rfl) ?_
    obtain ⟨g4, h⟩ := ite_e h
    refine u_gI E zf_7_7 S3 g4 zw_1_56 (Gr_readAfter_dc.at 9 rfl) ?_
    obtain ⟨v5, ev5, h⟩ := lt1_e h
    have hv5 := inR_eq ev5 (S3.1.inR _ _)
    refine u_ist_n (y := v5) (vs' := [some (zR G.2.2.1 a0), some (.int (zO a1)), some (.int (zO v5))]) E ev5 (Gr_readAfter_dc.at 10 rfl) hl (by decide) rfl (fun ls hl => ?_)
    refine u_al_n (x := a0) E (Gr_readAfter_dc.at 11 rfl) hl rfl ?_
    refine u_gR E zf_4_0 S3 g1 zw_1_103 (Gr_readAfter_dc.at 12 rfl) ?_
    refine r_iconst E (Gr_readAfter_dc.at 13 rfl) ?_
    refine r_bipush E (Gr_readAfter_dc.at 14 rfl) rfl ?_
    obtain ⟨r6, er6, h⟩ := bd1_e h
    refine u_cVI (As := [.int (zO 0), .int (zO 99)]) (rest := []) E S3 zcw_yX7_isNumber zw_3_9 zw_3_10 zw_3_144 zck_7.1 rfl g4 (Tp_isNumber_c l G fu top L M2 (M2 a0 0) 0 99 (S3.1.inR _ _) (show InR 0 by decide) (show InR 99 by decide) er6) (zrm_ok (by omega) (by decide)) ⟨Nat.le_refl 0, Nat.le_refl 0⟩ rfl (Nat.zero_le 8) hl.size rfl (Gr_readAfter_dc.at 15 rfl) (fun H locs hr6 S7 => ?_)
    refine r_if_ne (tgt := 34) E (inR_01 hr6) (Gr_readAfter_dc.at 16 rfl) (by decide) (fun q => ?_) (fun q => ?_)
    · have h := ite_t h q
      refine r_iconst E (Gr_readAfter_dc.at 17 rfl) ?_
      cases h
      exact r_zret E S7 z01_0 z01_0 (Gr_readAfter_dc.at 18 rfl)
    · have h := ite_f h q
      refine u_al_n (x := a0) E (Gr_readAfter_dc.at 19 rfl) hl rfl ?_
      obtain ⟨M8, eM8, h⟩ := bd1_e h
      refine u_cVU (As := []) (rest := []) E S7 zcw_yX4_take zw_3_94 zq_1_9 zw_3_92 zck_4.1 rfl g1 (Gr_take_c l G fu top L M2 a0 ha0 eM8) (zrm_ok (by omega) (by decide)) ⟨Nat.le_refl 0, Nat.le_refl 0⟩ rfl (Nat.zero_le 8) hl.size rfl (Gr_readAfter_dc.at 20 rfl) (fun H locs _ S9 => ?_)
      refine u_al_n (x := a0) E (Gr_readAfter_dc.at 21 rfl) hl rfl ?_
      refine u_il_n (x := a1) E (Gr_readAfter_dc.at 22 rfl) hl rfl ?_
      refine r_iconst E (Gr_readAfter_dc.at 23 rfl) ?_
      refine r_iadd E (Gr_readAfter_dc.at 24 rfl) ?_
      obtain ⟨M11, r10, er10, h⟩ := bd2_e h
      refine u_cVI (As := [.int (zO (w32 (a1 + 1)))]) (rest := []) E S9 zcw_yX4_readFact zw_3_132 zq_2_0 zw_3_130 zck_4.1 rfl g1 (HR.2.2.2.1 M8 a0 (w32 (a1 + 1)) ha0 (inR_w32 _) er10) (zrm_ok (by omega) (by decide)) ⟨Nat.le_refl 0, Nat.le_refl 0⟩ rfl (Nat.zero_le 8) hl.size rfl (Gr_readAfter_dc.at 25 rfl) (fun H locs hr10 S12 => ?_)
      refine r_if_ne (tgt := 50) E (inR_01 hr10) (Gr_readAfter_dc.at 26 rfl) (by decide) (fun q => ?_) (fun q => ?_)
      · have h := ite_t h q
        refine r_iconst E (Gr_readAfter_dc.at 27 rfl) ?_
        cases h
        exact r_zret E S12 z01_0 z01_0 (Gr_readAfter_dc.at 28 rfl)
      · have h := ite_f h q
        refine u_al_n (x := a0) E (Gr_readAfter_dc.at 29 rfl) hl rfl ?_
        refine r_iconst E (Gr_readAfter_dc.at 30 rfl) ?_
        refine u_il_n (x := v5) E (Gr_readAfter_dc.at 31 rfl) hl rfl ?_
        refine r_iconst E (Gr_readAfter_dc.at 32 rfl) ?_
        obtain ⟨M13, eM13, h⟩ := bd1_e h
        refine u_cVU (As := [.int (zO 5), .int (zO v5), .int (zO (-1))]) (rest := []) E S12 zcw_yX4_noteStep zw_3_147 zq_2_3 zw_3_145 zck_4.1 rfl g1 (Gr_noteStep_c l G fu top L M11 a0 5 v5 (-1) ha0 (show InR 5 by decide) hv5 (show InR (-1) by decide) eM13) (zrm_ok (by omega) (by decide)) ⟨Nat.le_refl 0, Nat.le_refl 0⟩ rfl (Nat.zero_le 8) hl.size rfl (Gr_readAfter_dc.at 33 rfl) (fun H locs _ S14 => ?_)
        refine r_iconst E (Gr_readAfter_dc.at 34 rfl) ?_
        cases h
        exact r_zret E S14 z01_1 z01_1 (Gr_readAfter_dc.at 35 rfl)
  · have h := ite_f h q
    refine r_iconst E (Gr_readAfter_dc.at 3 rfl) ?_
    cases h
    exact r_zret E S z01_0 z01_0 (Gr_readAfter_dc.at 4 rfl)
theorem Gr_readAll_s12_w (E : zEv p m c cX4_readAll 4 s args RX4 meth (some .boolean) G) (HR : zh_Gr_readAfter l G zd top L rec) (hzd : 8 ≤ zd) {res : (zM × Int)} {k12 : zM → Int → Int → Int → Option (zM × Int)} (hk12 : ∀ (M : zM) (x0 : Int) (x1 : Int) (x2 : Int), InR x0 → InR x1 → InR x2 → ∀ (H : Heap) (locs : List Loc) (ls : Array Slot), zS G top L M s H locs → zLV ls 4 [some (zR G.2.2.1 x0), some (.int (zO x1)), some (.int (zO x2)), none] → k12 M x0 x1 x2 = some res → W p l e (zrm (zd + 1) 0 0) s m args below meth c H locs 0 0 (MQ below (zQ G top L res.1 (some (.int (zO res.2))) (0 ≤ res.2 ∧ res.2 ≤ 1)) args s 0 0 (zA G)) (F0 m 12 ls [])) {M : zM} {x0 : Int} {x1 : Int} {x2 : Int} {H : Heap} {locs : List Loc} {ls : Array Slot} (hx0 : InR x0) (hx1 : InR x1) (hx2 : InR x2) (S : zS G top L M s H locs) (hl : zLV ls 4 [some (zR G.2.2.1 x0), some (.int (zO x1)), some (.int (zO x2)), none]) (h : Gr_readAll_s12 fu rec k12 L M x0 x1 x2 = some res) : W p l e (zrm (zd + 1) 0 0) s m args below meth c H locs 0 0 (MQ below (zQ G top L res.1 (some (.int (zO res.2))) (0 ≤ res.2 ∧ res.2 ≤ 1)) args s 0 0 (zA G)) (F0 m 12 ls []) := by
  unfold Gr_readAll_s12 at h
  refine u_il_n (x := x2) E (Gr_readAll_dc.at 8 rfl) hl rfl ?_
  refine r_sipush E (Gr_readAll_dc.at 9 rfl) rfl ?_
  refine r_icmp_ge (tgt := 65) E hx2 (show InR 300 by decide) (Gr_readAll_dc.at 10 rfl) (by decide) (fun q => ?_) (fun q => ?_)
  · have h := ite_t h q
    refine u_al_n (x := x0) E (Gr_readAll_dc.at 11 rfl) hl rfl ?_
    obtain ⟨g5, h⟩ := ite_e h
    refine u_gR E zf_4_0 S g5 zw_1_103 (Gr_readAll_dc.at 12 rfl) ?_
    refine r_ldcS (j := 10) E (Gr_readAll_dc.at 13 rfl) rfl ?_
    obtain ⟨g6, h⟩ := ite_e h
    obtain ⟨r7, er7, h⟩ := bd1_e h
    refine u_cVI (As := [.ref (G.2.2.2.1 10)]) (rest := []) E S zcw_yX7_isWord zw_3_14 zw_3_15 zw_3_91 zck_7.1 rfl g6 (Tp_isWord_c l G fu top L M (M x0 0) 10 (S.1.inR _ _) er7) (zrm_ok (by omega) (by decide)) ⟨Nat.le_refl 0, Nat.le_refl 0⟩ rfl (Nat.zero_le 8) hl.size rfl (Gr_readAll_dc.at 14 rfl) (fun H locs hr7 S8 => ?_)
    refine r_if_eq (tgt := 65) E (inR_01 hr7) (Gr_readAll_dc.at 15 rfl) (by decide) (fun q => ?_) (fun q => ?_)
    · have h := ite_t h q
      refine r_iconst E (Gr_readAll_dc.at 35 rfl) ?_
      cases h
      exact r_zret E S8 z01_1 z01_1 (Gr_readAll_dc.at 36 rfl)
    · have h := ite_f h q
      refine u_al_n (x := x0) E (Gr_readAll_dc.at 16 rfl) hl rfl ?_
      obtain ⟨M9, eM9, h⟩ := bd1_e h
      refine u_cVU (As := []) (rest := []) E S8 zcw_yX4_take zw_3_94 zq_1_9 zw_3_92 zck_4.1 rfl g5 (Gr_take_c l G fu top L M x0 hx0 eM9) (zrm_ok (by omega) (by decide)) ⟨Nat.le_refl 0, Nat.le_refl 0⟩ rfl (Nat.zero_le 8) hl.size rfl (Gr_readAll_dc.at 17 rfl) (fun H locs _ S10 => ?_)
      refine u_al_n (x := x0) E (Gr_readAll_dc.at 18 rfl) hl rfl ?_
      refine u_gI E zf_4_10 S10 g5 zw_1_123 (Gr_readAll_dc.at 19 rfl) ?_
      refine r_iconst E (Gr_readAll_dc.at 20 rfl) ?_
      refine r_isub E (Gr_readAll_dc.at 21 rfl) ?_
      obtain ⟨v11, ev11, h⟩ := lt1_e h
      have hv11 := inR_eq ev11 (inR_w32 _)
      refine u_ist_n (y := v11) (vs' := [some (zR G.2.2.1 x0), some (.int (zO x1)), some (.int (zO x2)), some (.int (zO v11))]) E ev11 (Gr_readAll_dc.at 22 rfl) hl (by decide) rfl (fun ls hl => ?_)
      refine u_al_n (x := x0) E (Gr_readAll_dc.at 23 rfl) hl rfl ?_
      refine u_il_n (x := x1) E (Gr_readAll_dc.at 24 rfl) hl rfl ?_
      obtain ⟨M13, r12, er12, h⟩ := bd2_e h
      refine u_cVI (As := [.int (zO x1)]) (rest := []) E S10 zcw_yX4_readFact zw_3_132 zq_2_0 zw_3_130 zck_4.1 rfl g5 (HR.2.2.2.1 M9 x0 x1 hx0 hx1 er12) (zrm_ok (by omega) (by decide)) ⟨Nat.le_refl 0, Nat.le_refl 0⟩ rfl (Nat.zero_le 8) hl.size rfl (Gr_readAll_dc.at 25 rfl) (fun H locs hr12 S14 => ?_)
      refine r_if_ne (tgt := 52) E (inR_01 hr12) (Gr_readAll_dc.at 26 rfl) (by decide) (fun q => ?_) (fun q => ?_)
      · have h := ite_t h q
        refine r_iconst E (Gr_readAll_dc.at 27 rfl) ?_
        cases h
        exact r_zret E S14 z01_0 z01_0 (Gr_readAll_dc.at 28 rfl)
      · have h := ite_f h q
        refine u_al_n (x := x0) E (Gr_readAll_dc.at 29 rfl) hl rfl ?_
        refine r_bipush E (Gr_readAll_dc.at 30 rfl) rfl ?_
        refine u_il_n (x := v11) E (Gr_readAll_dc.at 31 rfl) hl rfl ?_
        obtain ⟨M15, eM15, h⟩ := bd1_e h
        refine u_cVU (As := [.int (zO 6), .int (zO v11)]) (rest := []) E S14 zcw_yX4_noteJoint zw_3_160 zq_2_5 zw_3_158 zck_4.1 rfl g5 (Gr_noteJoint_c l G fu top L M13 x0 6 v11 hx0 (show InR 6 by decide) hv11 eM15) (zrm_ok (by omega) (by decide)) ⟨Nat.le_refl 0, Nat.le_refl 0⟩ rfl (Nat.zero_le 8) hl.size rfl (Gr_readAll_dc.at 32 rfl) (fun H locs _ S16 => ?_)
        obtain ⟨v17, ev17, h⟩ := lt1_e h
        have hv17 := inR_eq ev17 (inR_w32 _)
        refine u_iinc (y := v17) (vs' := [some (zR G.2.2.1 x0), some (.int (zO x1)), some (.int (zO v17)), some (.int (zO v11))]) E ev17 (Gr_readAll_dc.at 33 rfl) hl rfl (by decide) rfl (fun ls hl => ?_)
        refine r_goto (tgt := 12) E (Gr_readAll_dc.at 34 rfl) (by decide) ?_
        exact hk12 _ x0 x1 v17 hx0 hx1 hv17 _ _ _ S16 (hl.sub (And.intro rfl (And.intro rfl (And.intro rfl True.intro)))) h
  · have h := ite_f h q
    refine r_iconst E (Gr_readAll_dc.at 35 rfl) ?_
    cases h
    exact r_zret E S z01_1 z01_1 (Gr_readAll_dc.at 36 rfl)
theorem Gr_readAll_l12_w (E : zEv p m c cX4_readAll 4 s args RX4 meth (some .boolean) G) (HR : zh_Gr_readAfter l G zd top L rec) (hzd : 8 ≤ zd) {res : (zM × Int)} : ∀ (n : Nat) (M : zM) (x0 : Int) (x1 : Int) (x2 : Int), InR x0 → InR x1 → InR x2 → ∀ (H : Heap) (locs : List Loc) (ls : Array Slot), zS G top L M s H locs → zLV ls 4 [some (zR G.2.2.1 x0), some (.int (zO x1)), some (.int (zO x2)), none] → Gr_readAll_l12 fu rec L n M x0 x1 x2 = some res → W p l e (zrm (zd + 1) 0 0) s m args below meth c H locs 0 0 (MQ below (zQ G top L res.1 (some (.int (zO res.2))) (0 ≤ res.2 ∧ res.2 ≤ 1)) args s 0 0 (zA G)) (F0 m 12 ls [])
  | 0, _, _, _, _ => fun _ _ _ _ _ _ _ _ h => (by cases h)
  | n + 1, M, x0, x1, x2 => fun hx0 hx1 hx2 H locs ls S hl h => Gr_readAll_s12_w E HR hzd (fun M x0 x1 x2 hx0 hx1 hx2 H locs ls S hl h => Gr_readAll_l12_w E HR hzd n M x0 x1 x2 hx0 hx1 hx2 H locs ls S hl h) hx0 hx1 hx2 S hl h
theorem Gr_readAll_w (E : zEv p m c cX4_readAll 4 s args RX4 meth (some .boolean) G) (HR : zh_Gr_readAfter l G zd top L rec) (hzd : 8 ≤ zd) {res : (zM × Int)} {M : zM} {a0 : Int} {a1 : Int} {H : Heap} {locs : List Loc} {ls : Array Slot} (ha0 : InR a0) (ha1 : InR a1) (S : zS G top L M s H locs) (hl : zLV ls 4 [some (zR G.2.2.1 a0), some (.int (zO a1)), none, none]) (h : Gr_readAll_r fu rec L M a0 a1 = some res) : W p l e (zrm (zd + 1) 0 0) s m args below meth c H locs 0 0 (MQ below (zQ G top L res.1 (some (.int (zO res.2))) (0 ≤ res.2 ∧ res.2 ≤ 1)) args s 0 0 (zA G)) (F0 m 0 ls []) := by
  unfold Gr_readAll_r at h
  refine u_al_n (x := a0) E (Gr_readAll_dc.at 0 rfl) hl rfl ?_
  refine u_il_n (x := a1) E (Gr_readAll_dc.at 1 rfl) hl rfl ?_
  obtain ⟨g1, h⟩ := ite_e h
  obtain ⟨M3, r2, er2, h⟩ := bd2_e h
  refine u_cVI (As := [.int (zO a1)]) (rest := []) E S zcw_yX4_readFact zw_3_132 zq_2_0 zw_3_130 zck_4.1 rfl g1 (HR.2.2.2.1 M a0 a1 ha0 ha1 er2) (zrm_ok (by omega) (by decide)) ⟨Nat.le_refl 0, Nat.le_refl 0⟩ rfl (Nat.zero_le 8) hl.size rfl (Gr_readAll_dc.at 2 rfl) (fun H locs hr2 S4 => ?_)
  refine r_if_ne (tgt := 10) E (inR_01 hr2) (Gr_readAll_dc.at 3 rfl) (by decide) (fun q => ?_) (fun q => ?_)
  · have h := ite_t h q
    refine r_iconst E (Gr_readAll_dc.at 4 rfl) ?_
    cases h
    exact r_zret E S4 z01_0 z01_0 (Gr_readAll_dc.at 5 rfl)
  · have h := ite_f h q
    refine r_iconst E (Gr_readAll_dc.at 6 rfl) ?_
    refine u_ist_n (y := 0) (vs' := [some (zR G.2.2.1 a0), some (.int (zO a1)), some (.int (zO 0)), none]) E rfl (Gr_readAll_dc.at 7 rfl) hl (by decide) rfl (fun ls hl => ?_)
    exact Gr_readAll_l12_w E HR hzd fu _ a0 a1 0 ha0 ha1 (show InR 0 by decide) _ _ _ S4 (hl.sub (And.intro rfl (And.intro rfl (And.intro rfl True.intro)))) h
theorem Gr_readAny_s22_w (E : zEv p m c cX4_readAny 4 s args RX4 meth (some .boolean) G) (HR : zh_Gr_readAfter l G zd top L rec) (hzd : 8 ≤ zd) {res : (zM × Int)} {k22 : zM → Int → Int → Int → Option (zM × Int)} (hk22 : ∀ (M : zM) (x0 : Int) (x1 : Int) (x2 : Int), InR x0 → InR x1 → InR x2 → ∀ (H : Heap) (locs : List Loc) (ls : Array Slot), zS G top L M s H locs → zLV ls 4 [some (zR G.2.2.1 x0), some (.int (zO x1)), some (.int (zO x2)), none] → k22 M x0 x1 x2 = some res → W p l e (zrm (zd + 1) 0 0) s m args below meth c H locs 0 0 (MQ below (zQ G top L res.1 (some (.int (zO res.2))) (0 ≤ res.2 ∧ res.2 ≤ 1)) args s 0 0 (zA G)) (F0 m 22 ls [])) {M : zM} {x0 : Int} {x1 : Int} {x2 : Int} {H : Heap} {locs : List Loc} {ls : Array Slot} (hx0 : InR x0) (hx1 : InR x1) (hx2 : InR x2) (S : zS G top L M s H locs) (hl : zLV ls 4 [some (zR G.2.2.1 x0), some (.int (zO x1)), some (.int (zO x2)), none]) (h : Gr_readAny_s22 fu rec k22 L M x0 x1 x2 = some res) : W p l e (zrm (zd + 1) 0 0) s m args below meth c H locs 0 0 (MQ below (zQ G top L res.1 (some (.int (zO res.2))) (0 ≤ res.2 ∧ res.2 ≤ 1)) args s 0 0 (zA G)) (F0 m 22 ls []) := by
  unfold Gr_readAny_s22 at h
  refine u_il_n (x := x2) E (Gr_readAny_dc.at 14 rfl) hl rfl ?_
  refine r_sipush E (Gr_readAny_dc.at 15 rfl) rfl ?_
  refine r_icmp_ge (tgt := 80) E hx2 (show InR 300 by decide) (Gr_readAny_dc.at 16 rfl) (by decide) (fun q => ?_) (fun q => ?_)
  · have h := ite_t h q
    refine u_al_n (x := x0) E (Gr_readAny_dc.at 17 rfl) hl rfl ?_
    obtain ⟨g7, h⟩ := ite_e h
    refine u_gR E zf_4_0 S g7 zw_1_103 (Gr_readAny_dc.at 18 rfl) ?_
    refine r_ldcS (j := 11) E (Gr_readAny_dc.at 19 rfl) rfl ?_
    obtain ⟨g8, h⟩ := ite_e h
    obtain ⟨r9, er9, h⟩ := bd1_e h
    refine u_cVI (As := [.ref (G.2.2.2.1 11)]) (rest := []) E S zcw_yX7_isWord zw_3_14 zw_3_15 zw_3_91 zck_7.1 rfl g8 (Tp_isWord_c l G fu top L M (M x0 0) 11 (S.1.inR _ _) er9) (zrm_ok (by omega) (by decide)) ⟨Nat.le_refl 0, Nat.le_refl 0⟩ rfl (Nat.zero_le 8) hl.size rfl (Gr_readAny_dc.at 20 rfl) (fun H locs hr9 S10 => ?_)
    refine r_if_eq (tgt := 80) E (inR_01 hr9) (Gr_readAny_dc.at 21 rfl) (by decide) (fun q => ?_) (fun q => ?_)
    · have h := ite_t h q
      refine r_iconst E (Gr_readAny_dc.at 44 rfl) ?_
      cases h
      exact r_zret E S10 z01_1 z01_1 (Gr_readAny_dc.at 45 rfl)
    · have h := ite_f h q
      refine u_al_n (x := x0) E (Gr_readAny_dc.at 22 rfl) hl rfl ?_
      obtain ⟨M11, eM11, h⟩ := bd1_e h
      refine u_cVU (As := []) (rest := []) E S10 zcw_yX4_take zw_3_94 zq_1_9 zw_3_92 zck_4.1 rfl g7 (Gr_take_c l G fu top L M x0 hx0 eM11) (zrm_ok (by omega) (by decide)) ⟨Nat.le_refl 0, Nat.le_refl 0⟩ rfl (Nat.zero_le 8) hl.size rfl (Gr_readAny_dc.at 23 rfl) (fun H locs _ S12 => ?_)
      refine u_al_n (x := x0) E (Gr_readAny_dc.at 24 rfl) hl rfl ?_
      refine u_gI E zf_4_10 S12 g7 zw_1_123 (Gr_readAny_dc.at 25 rfl) ?_
      refine r_iconst E (Gr_readAny_dc.at 26 rfl) ?_
      refine r_isub E (Gr_readAny_dc.at 27 rfl) ?_
      obtain ⟨v13, ev13, h⟩ := lt1_e h
      have hv13 := inR_eq ev13 (inR_w32 _)
      refine u_ist_n (y := v13) (vs' := [some (zR G.2.2.1 x0), some (.int (zO x1)), some (.int (zO x2)), some (.int (zO v13))]) E ev13 (Gr_readAny_dc.at 28 rfl) hl (by decide) rfl (fun ls hl => ?_)
      refine u_al_n (x := x0) E (Gr_readAny_dc.at 29 rfl) hl rfl ?_
      refine u_il_n (x := x1) E (Gr_readAny_dc.at 30 rfl) hl rfl ?_
      obtain ⟨M15, r14, er14, h⟩ := bd2_e h
      refine u_cVI (As := [.int (zO x1)]) (rest := []) E S12 zcw_yX4_readAll zw_3_128 zq_1_15 zw_3_126 zck_4.1 rfl g7 (HR.2.1 M11 x0 x1 hx0 hx1 er14) (zrm_ok (by omega) (by decide)) ⟨Nat.le_refl 0, Nat.le_refl 0⟩ rfl (Nat.zero_le 8) hl.size rfl (Gr_readAny_dc.at 31 rfl) (fun H locs hr14 S16 => ?_)
      refine r_if_ne (tgt := 62) E (inR_01 hr14) (Gr_readAny_dc.at 32 rfl) (by decide) (fun q => ?_) (fun q => ?_)
      · have h := ite_t h q
        refine r_iconst E (Gr_readAny_dc.at 33 rfl) ?_
        cases h
        exact r_zret E S16 z01_0 z01_0 (Gr_readAny_dc.at 34 rfl)
      · have h := ite_f h q
        refine u_al_n (x := x0) E (Gr_readAny_dc.at 35 rfl) hl rfl ?_
        refine u_il_n (x := x1) E (Gr_readAny_dc.at 36 rfl) hl rfl ?_
        obtain ⟨M17, eM17, h⟩ := bd1_e h
        refine u_cVU (As := [.int (zO x1)]) (rest := []) E S16 zcw_yX4_notePart zw_3_164 zq_2_6 zw_3_162 zck_4.1 rfl g7 (Gr_notePart_c l G fu top L M15 x0 x1 hx0 hx1 eM17) (zrm_ok (by omega) (by decide)) ⟨Nat.le_refl 0, Nat.le_refl 0⟩ rfl (Nat.zero_le 8) hl.size rfl (Gr_readAny_dc.at 37 rfl) (fun H locs _ S18 => ?_)
        refine u_al_n (x := x0) E (Gr_readAny_dc.at 38 rfl) hl rfl ?_
        refine r_bipush E (Gr_readAny_dc.at 39 rfl) rfl ?_
        refine u_il_n (x := v13) E (Gr_readAny_dc.at 40 rfl) hl rfl ?_
        obtain ⟨M19, eM19, h⟩ := bd1_e h
        refine u_cVU (As := [.int (zO 7), .int (zO v13)]) (rest := []) E S18 zcw_yX4_noteJoint zw_3_160 zq_2_5 zw_3_158 zck_4.1 rfl g7 (Gr_noteJoint_c l G fu top L M17 x0 7 v13 hx0 (show InR 7 by decide) hv13 eM19) (zrm_ok (by omega) (by decide)) ⟨Nat.le_refl 0, Nat.le_refl 0⟩ rfl (Nat.zero_le 8) hl.size rfl (Gr_readAny_dc.at 41 rfl) (fun H locs _ S20 => ?_)
        obtain ⟨v21, ev21, h⟩ := lt1_e h
        have hv21 := inR_eq ev21 (inR_w32 _)
        refine u_iinc (y := v21) (vs' := [some (zR G.2.2.1 x0), some (.int (zO x1)), some (.int (zO v21)), some (.int (zO v13))]) E ev21 (Gr_readAny_dc.at 42 rfl) hl rfl (by decide) rfl (fun ls hl => ?_)
        refine r_goto (tgt := 22) E (Gr_readAny_dc.at 43 rfl) (by decide) ?_
        exact hk22 _ x0 x1 v21 hx0 hx1 hv21 _ _ _ S20 (hl.sub (And.intro rfl (And.intro rfl (And.intro rfl True.intro)))) h
  · have h := ite_f h q
    refine r_iconst E (Gr_readAny_dc.at 44 rfl) ?_
    cases h
    exact r_zret E S z01_1 z01_1 (Gr_readAny_dc.at 45 rfl)
theorem Gr_readAny_l22_w (E : zEv p m c cX4_readAny 4 s args RX4 meth (some .boolean) G) (HR : zh_Gr_readAfter l G zd top L rec) (hzd : 8 ≤ zd) {res : (zM × Int)} : ∀ (n : Nat) (M : zM) (x0 : Int) (x1 : Int) (x2 : Int), InR x0 → InR x1 → InR x2 → ∀ (H : Heap) (locs : List Loc) (ls : Array Slot), zS G top L M s H locs → zLV ls 4 [some (zR G.2.2.1 x0), some (.int (zO x1)), some (.int (zO x2)), none] → Gr_readAny_l22 fu rec L n M x0 x1 x2 = some res → W p l e (zrm (zd + 1) 0 0) s m args below meth c H locs 0 0 (MQ below (zQ G top L res.1 (some (.int (zO res.2))) (0 ≤ res.2 ∧ res.2 ≤ 1)) args s 0 0 (zA G)) (F0 m 22 ls [])
  | 0, _, _, _, _ => fun _ _ _ _ _ _ _ _ h => (by cases h)
  | n + 1, M, x0, x1, x2 => fun hx0 hx1 hx2 H locs ls S hl h => Gr_readAny_s22_w E HR hzd (fun M x0 x1 x2 hx0 hx1 hx2 H locs ls S hl h => Gr_readAny_l22_w E HR hzd n M x0 x1 x2 hx0 hx1 hx2 H locs ls S hl h) hx0 hx1 hx2 S hl h
theorem Gr_readAny_w (E : zEv p m c cX4_readAny 4 s args RX4 meth (some .boolean) G) (HR : zh_Gr_readAfter l G zd top L rec) (hzd : 8 ≤ zd) {res : (zM × Int)} {M : zM} {a0 : Int} {a1 : Int} {H : Heap} {locs : List Loc} {ls : Array Slot} (ha0 : InR a0) (ha1 : InR a1) (S : zS G top L M s H locs) (hl : zLV ls 4 [some (zR G.2.2.1 a0), some (.int (zO a1)), none, none]) (h : Gr_readAny_r fu rec L M a0 a1 = some res) : W p l e (zrm (zd + 1) 0 0) s m args below meth c H locs 0 0 (MQ below (zQ G top L res.1 (some (.int (zO res.2))) (0 ≤ res.2 ∧ res.2 ≤ 1)) args s 0 0 (zA G)) (F0 m 0 ls []) := by
  unfold Gr_readAny_r at h
  refine u_il_n (x := a1) E (Gr_readAny_dc.at 0 rfl) hl rfl ?_
  refine r_iconst E (Gr_readAny_dc.at 1 rfl) ?_
  refine r_icmp_gt (tgt := 13) E ha1 (show InR 5 by decide) (Gr_readAny_dc.at 2 rfl) (by decide) (fun q => ?_) (fun q => ?_)
  · have h := ite_t h q
    refine r_iconst E (Gr_readAny_dc.at 7 rfl) ?_
    cases h
    exact r_zret E S z01_0 z01_0 (Gr_readAny_dc.at 8 rfl)
  · have h := ite_f h q
    refine u_al_n (x := a0) E (Gr_readAny_dc.at 3 rfl) hl rfl ?_
    refine u_il_n (x := a1) E (Gr_readAny_dc.at 4 rfl) hl rfl ?_
    obtain ⟨g1, h⟩ := ite_e h
    obtain ⟨M3, r2, er2, h⟩ := bd2_e h
    refine u_cVI (As := [.int (zO a1)]) (rest := []) E S zcw_yX4_readAll zw_3_128 zq_1_15 zw_3_126 zck_4.1 rfl g1 (HR.2.1 M a0 a1 ha0 ha1 er2) (zrm_ok (by omega) (by decide)) ⟨Nat.le_refl 0, Nat.le_refl 0⟩ rfl (Nat.zero_le 8) hl.size rfl (Gr_readAny_dc.at 5 rfl) (fun H locs hr2 S4 => ?_)
    refine r_if_ne (tgt := 15) E (inR_01 hr2) (Gr_readAny_dc.at 6 rfl) (by decide) (fun q => ?_) (fun q => ?_)
    · have h := ite_t h q
      refine r_iconst E (Gr_readAny_dc.at 7 rfl) ?_
      cases h
      exact r_zret E S4 z01_0 z01_0 (Gr_readAny_dc.at 8 rfl)
    · have h := ite_f h q
      refine u_al_n (x := a0) E (Gr_readAny_dc.at 9 rfl) hl rfl ?_
      refine u_il_n (x := a1) E (Gr_readAny_dc.at 10 rfl) hl rfl ?_
      obtain ⟨M5, eM5, h⟩ := bd1_e h
      refine u_cVU (As := [.int (zO a1)]) (rest := []) E S4 zcw_yX4_notePart zw_3_164 zq_2_6 zw_3_162 zck_4.1 rfl g1 (Gr_notePart_c l G fu top L M3 a0 a1 ha0 ha1 eM5) (zrm_ok (by omega) (by decide)) ⟨Nat.le_refl 0, Nat.le_refl 0⟩ rfl (Nat.zero_le 8) hl.size rfl (Gr_readAny_dc.at 11 rfl) (fun H locs _ S6 => ?_)
      refine r_iconst E (Gr_readAny_dc.at 12 rfl) ?_
      refine u_ist_n (y := 0) (vs' := [some (zR G.2.2.1 a0), some (.int (zO a1)), some (.int (zO 0)), none]) E rfl (Gr_readAny_dc.at 13 rfl) hl (by decide) rfl (fun ls hl => ?_)
      exact Gr_readAny_l22_w E HR hzd fu _ a0 a1 0 ha0 ha1 (show InR 0 by decide) _ _ _ S6 (hl.sub (And.intro rfl (And.intro rfl (And.intro rfl True.intro)))) h
theorem Gr_readFact_w (E : zEv p m c cX4_readFact 4 s args RX4 meth (some .boolean) G) (HR : zh_Gr_readAfter l G zd top L rec) (hzd : 8 ≤ zd) {res : (zM × Int)} {M : zM} {a0 : Int} {a1 : Int} {H : Heap} {locs : List Loc} {ls : Array Slot} (ha0 : InR a0) (ha1 : InR a1) (S : zS G top L M s H locs) (hl : zLV ls 4 [some (zR G.2.2.1 a0), some (.int (zO a1)), none, none]) (h : Gr_readFact_r fu rec L M a0 a1 = some res) : W p l e (zrm (zd + 1) 0 0) s m args below meth c H locs 0 0 (MQ below (zQ G top L res.1 (some (.int (zO res.2))) (0 ≤ res.2 ∧ res.2 ≤ 1)) args s 0 0 (zA G)) (F0 m 0 ls []) := by
  unfold Gr_readFact_r at h
  refine u_al_n (x := a0) E (Gr_readFact_dc.at 0 rfl) hl rfl ?_
  obtain ⟨g1, h⟩ := ite_e h
  refine u_gR E zf_4_0 S g1 zw_1_103 (Gr_readFact_dc.at 1 rfl) ?_
  refine r_bipush E (Gr_readFact_dc.at 2 rfl) rfl ?_
  obtain ⟨g2, h⟩ := ite_e h
  obtain ⟨r3, er3, h⟩ := bd1_e h
  refine u_cVI (As := [.int (zO 40)]) (rest := []) E S zcw_yX7_isSign zw_3_78 zw_3_79 zw_3_134 zck_7.1 rfl g2 (Tp_isSign_c l G fu top L M (M a0 0) 40 (S.1.inR _ _) (show InR 40 by decide) er3) (zrm_ok (by omega) (by decide)) ⟨Nat.le_refl 0, Nat.le_refl 0⟩ rfl (Nat.zero_le 8) hl.size rfl (Gr_readFact_dc.at 3 rfl) (fun H locs hr3 S4 => ?_)
  refine r_if_eq (tgt := 18) E (inR_01 hr3) (Gr_readFact_dc.at 4 rfl) (by decide) (fun q => ?_) (fun q => ?_)
  · have h := ite_t h q
    refine u_al_n (x := a0) E (Gr_readFact_dc.at 9 rfl) hl rfl ?_
    refine u_gI E zf_4_9 S4 g1 zw_1_121 (Gr_readFact_dc.at 10 rfl) ?_
    refine r_bipush E (Gr_readFact_dc.at 11 rfl) rfl ?_
    refine r_icmp_lt (tgt := 29) E (S4.1.inR _ _) (show InR 16 by decide) (Gr_readFact_dc.at 12 rfl) (by decide) (fun q => ?_) (fun q => ?_)
    · have h := ite_t h q
      refine u_al_n (x := a0) E (Gr_readFact_dc.at 15 rfl) hl rfl ?_
      refine r_dup E (Gr_readFact_dc.at 16 rfl) (zR_cat _ _) ?_
      refine u_gI E zf_4_9 S4 g1 zw_1_121 (Gr_readFact_dc.at 17 rfl) ?_
      refine r_iconst E (Gr_readFact_dc.at 18 rfl) ?_
      refine r_iadd E (Gr_readFact_dc.at 19 rfl) ?_
      obtain ⟨M5, eM5, h⟩ := lt1_e h
      refine u_pI E eM5 zf_4_9 S4 g1 (inR_w32 _) (Or.inl rfl) rfl zw_1_121 (Gr_readFact_dc.at 20 rfl) (fun H locs S6 => ?_)
      refine u_al_n (x := a0) E (Gr_readFact_dc.at 21 rfl) hl rfl ?_
      refine u_gR E zf_4_0 S6 g1 zw_1_103 (Gr_readFact_dc.at 22 rfl) ?_
      refine r_ldcS (j := 5) E (Gr_readFact_dc.at 23 rfl) rfl ?_
      obtain ⟨g7, h⟩ := ite_e h
      obtain ⟨r8, er8, h⟩ := bd1_e h
      refine u_cVI (As := [.ref (G.2.2.2.1 5)]) (rest := []) E S6 zcw_yX7_isWord zw_3_14 zw_3_15 zw_3_91 zck_7.1 rfl g7 (Tp_isWord_c l G fu top L M5 (M5 a0 0) 5 (S6.1.inR _ _) er8) (zrm_ok (by omega) (by decide)) ⟨Nat.le_refl 0, Nat.le_refl 0⟩ rfl (Nat.zero_le 8) hl.size rfl (Gr_readFact_dc.at 24 rfl) (fun H locs hr8 S9 => ?_)
      refine r_if_eq (tgt := 57) E (inR_01 hr8) (Gr_readFact_dc.at 25 rfl) (by decide) (fun q => ?_) (fun q => ?_)
      · have h := ite_t h q
        refine u_al_n (x := a0) E (Gr_readFact_dc.at 30 rfl) hl rfl ?_
        refine r_ldcS (j := 6) E (Gr_readFact_dc.at 31 rfl) rfl ?_
        obtain ⟨M11, r10, er10, h⟩ := bd2_e h
        refine u_cVI (As := [.ref (G.2.2.2.1 6)]) (rest := []) E S9 zcw_yX4_readWord zw_3_89 zq_1_8 zw_3_87 zck_4.1 rfl g1 (Gr_readWord_c l G fu top L M5 a0 6 ha0 er10) (zrm_ok (by omega) (by decide)) ⟨Nat.le_refl 0, Nat.le_refl 0⟩ rfl (Nat.zero_le 8) hl.size rfl (Gr_readFact_dc.at 32 rfl) (fun H locs hr10 S12 => ?_)
        refine r_if_eq (tgt := 73) E (inR_01 hr10) (Gr_readFact_dc.at 33 rfl) (by decide) (fun q => ?_) (fun q => ?_)
        · have h := ite_t h q
          refine u_al_n (x := a0) E (Gr_readFact_dc.at 39 rfl) hl rfl ?_
          refine r_ldcS (j := 7) E (Gr_readFact_dc.at 40 rfl) rfl ?_
          obtain ⟨M14, r13, er13, h⟩ := bd2_e h
          refine u_cVI (As := [.ref (G.2.2.2.1 7)]) (rest := []) E S12 zcw_yX4_readWord zw_3_89 zq_1_8 zw_3_87 zck_4.1 rfl g1 (Gr_readWord_c l G fu top L M11 a0 7 ha0 er13) (zrm_ok (by omega) (by decide)) ⟨Nat.le_refl 0, Nat.le_refl 0⟩ rfl (Nat.zero_le 8) hl.size rfl (Gr_readFact_dc.at 41 rfl) (fun H locs hr13 S15 => ?_)
          refine r_if_eq (tgt := 89) E (inR_01 hr13) (Gr_readFact_dc.at 42 rfl) (by decide) (fun q => ?_) (fun q => ?_)
          · have h := ite_t h q
            refine u_al_n (x := a0) E (Gr_readFact_dc.at 48 rfl) hl rfl ?_
            refine r_ldcS (j := 8) E (Gr_readFact_dc.at 49 rfl) rfl ?_
            obtain ⟨M17, r16, er16, h⟩ := bd2_e h
            refine u_cVI (As := [.ref (G.2.2.2.1 8)]) (rest := []) E S15 zcw_yX4_readWord zw_3_89 zq_1_8 zw_3_87 zck_4.1 rfl g1 (Gr_readWord_c l G fu top L M14 a0 8 ha0 er16) (zrm_ok (by omega) (by decide)) ⟨Nat.le_refl 0, Nat.le_refl 0⟩ rfl (Nat.zero_le 8) hl.size rfl (Gr_readFact_dc.at 50 rfl) (fun H locs hr16 S18 => ?_)
            refine r_if_eq (tgt := 107) E (inR_01 hr16) (Gr_readFact_dc.at 51 rfl) (by decide) (fun q => ?_) (fun q => ?_)
            · have h := ite_t h q
              refine u_al_n (x := a0) E (Gr_readFact_dc.at 59 rfl) hl rfl ?_
              refine r_ldcS (j := 9) E (Gr_readFact_dc.at 60 rfl) rfl ?_
              obtain ⟨M20, r19, er19, h⟩ := bd2_e h
              refine u_cVI (As := [.ref (G.2.2.2.1 9)]) (rest := []) E S18 zcw_yX4_readWord zw_3_89 zq_1_8 zw_3_87 zck_4.1 rfl g1 (Gr_readWord_c l G fu top L M17 a0 9 ha0 er19) (zrm_ok (by omega) (by decide)) ⟨Nat.le_refl 0, Nat.le_refl 0⟩ rfl (Nat.zero_le 8) hl.size rfl (Gr_readFact_dc.at 61 rfl) (fun H locs hr19 S21 => ?_)
              refine u_ist_n (y := r19) (vs' := [some (zR G.2.2.1 a0), some (.int (zO a1)), some (.int (zO r19)), none]) E rfl (Gr_readFact_dc.at 62 rfl) hl (by decide) rfl (fun ls hl => ?_)
              refine u_al_n (x := a0) E (Gr_readFact_dc.at 63 rfl) hl rfl ?_
              refine u_gR E zf_4_0 S21 g1 zw_1_103 (Gr_readFact_dc.at 64 rfl) ?_
              obtain ⟨g22, h⟩ := ite_e h
              obtain ⟨r23, er23, h⟩ := bd1_e h
              refine u_cVI (As := []) (rest := []) E S21 zcw_yX7_lifeNamed zw_3_113 zw_3_114 zw_3_112 zck_7.1 rfl g22 (Tp_lifeNamed_c l G fu top L M20 (M20 a0 0) (S21.1.inR _ _) er23) (zrm_ok (by omega) (by decide)) ⟨Nat.le_refl 0, Nat.le_refl 0⟩ rfl (Nat.zero_le 8) hl.size rfl (Gr_readFact_dc.at 65 rfl) (fun H locs hr23 S24 => ?_)
              refine u_ist_n (y := r23) (vs' := [some (zR G.2.2.1 a0), some (.int (zO a1)), some (.int (zO r19)), some (.int (zO r23))]) E rfl (Gr_readFact_dc.at 66 rfl) hl (by decide) rfl (fun ls hl => ?_)
              refine u_al_n (x := a0) E (Gr_readFact_dc.at 67 rfl) hl rfl ?_
              obtain ⟨M26, r25, er25, h⟩ := bd2_e h
              refine u_cVI (As := []) (rest := []) E S24 zcw_yX4_readLife zw_3_119 zq_1_13 zw_3_117 zck_4.1 rfl g1 (Gr_readLife_c l G fu top L M20 a0 ha0 er25) (zrm_ok (by omega) (by decide)) ⟨Nat.le_refl 0, Nat.le_refl 0⟩ rfl (Nat.zero_le 8) hl.size rfl (Gr_readFact_dc.at 68 rfl) (fun H locs hr25 S27 => ?_)
              refine r_if_ne (tgt := 131) E (inR_01 hr25) (Gr_readFact_dc.at 69 rfl) (by decide) (fun q => ?_) (fun q => ?_)
              · have h := ite_t h q
                refine r_iconst E (Gr_readFact_dc.at 70 rfl) ?_
                cases h
                exact r_zret E S27 z01_0 z01_0 (Gr_readFact_dc.at 71 rfl)
              · have h := ite_f h q
                refine u_il_n (x := r19) E (Gr_readFact_dc.at 72 rfl) hl rfl ?_
                refine r_if_eq (tgt := 144) E (inR_01 hr19) (Gr_readFact_dc.at 73 rfl) (by decide) (fun q => ?_) (fun q => ?_)
                · have h := ite_t h q
                  refine u_al_n (x := a0) E (Gr_readFact_dc.at 81 rfl) hl rfl ?_
                  refine r_ldcS (j := 7) E (Gr_readFact_dc.at 82 rfl) rfl ?_
                  obtain ⟨M29, r28, er28, h⟩ := bd2_e h
                  refine u_cVI (As := [.ref (G.2.2.2.1 7)]) (rest := []) E S27 zcw_yX4_readWord zw_3_89 zq_1_8 zw_3_87 zck_4.1 rfl g1 (Gr_readWord_c l G fu top L M26 a0 7 ha0 er28) (zrm_ok (by omega) (by decide)) ⟨Nat.le_refl 0, Nat.le_refl 0⟩ rfl (Nat.zero_le 8) hl.size rfl (Gr_readFact_dc.at 83 rfl) (fun H locs hr28 S30 => ?_)
                  refine r_if_eq (tgt := 166) E (inR_01 hr28) (Gr_readFact_dc.at 84 rfl) (by decide) (fun q => ?_) (fun q => ?_)
                  · have h := ite_t h q
                    refine r_iconst E (Gr_readFact_dc.at 92 rfl) ?_
                    cases h
                    exact r_zret E S30 z01_0 z01_0 (Gr_readFact_dc.at 93 rfl)
                  · have h := ite_f h q
                    refine u_al_n (x := a0) E (Gr_readFact_dc.at 85 rfl) hl rfl ?_
                    refine r_iconst E (Gr_readFact_dc.at 86 rfl) ?_
                    refine u_il_n (x := r23) E (Gr_readFact_dc.at 87 rfl) hl rfl ?_
                    obtain ⟨M32, r31, er31, h⟩ := bd2_e h
                    refine u_cVI (As := [.int (zO 4), .int (zO r23)]) (rest := []) E S30 zcw_yX4_readNumber zw_3_152 zq_2_4 zw_3_150 zck_4.1 rfl g1 (Gr_readNumber_c l G fu top L M29 a0 4 r23 ha0 (show InR 4 by decide) hr23 er31) (zrm_ok (by omega) (by decide)) ⟨Nat.le_refl 0, Nat.le_refl 0⟩ rfl (Nat.zero_le 8) hl.size rfl (Gr_readFact_dc.at 88 rfl) (fun H locs hr31 S33 => ?_)
                    refine r_if_eq (tgt := 166) E (inR_01 hr31) (Gr_readFact_dc.at 89 rfl) (by decide) (fun q => ?_) (fun q => ?_)
                    · have h := ite_t h q
                      refine r_iconst E (Gr_readFact_dc.at 92 rfl) ?_
                      cases h
                      exact r_zret E S33 z01_0 z01_0 (Gr_readFact_dc.at 93 rfl)
                    · have h := ite_f h q
                      refine r_iconst E (Gr_readFact_dc.at 90 rfl) ?_
                      refine r_goto (tgt := 167) E (Gr_readFact_dc.at 91 rfl) (by decide) ?_
                      cases h
                      exact r_zret E S33 z01_1 z01_1 (Gr_readFact_dc.at 93 rfl)
                · have h := ite_f h q
                  refine u_al_n (x := a0) E (Gr_readFact_dc.at 74 rfl) hl rfl ?_
                  refine r_iconst E (Gr_readFact_dc.at 75 rfl) ?_
                  refine r_iconst E (Gr_readFact_dc.at 76 rfl) ?_
                  refine u_il_n (x := r23) E (Gr_readFact_dc.at 77 rfl) hl rfl ?_
                  obtain ⟨M34, eM34, h⟩ := bd1_e h
                  refine u_cVU (As := [.int (zO 1), .int (zO 0), .int (zO r23)]) (rest := []) E S27 zcw_yX4_noteStep zw_3_147 zq_2_3 zw_3_145 zck_4.1 rfl g1 (Gr_noteStep_c l G fu top L M26 a0 1 0 r23 ha0 (show InR 1 by decide) (show InR 0 by decide) hr23 eM34) (zrm_ok (by omega) (by decide)) ⟨Nat.le_refl 0, Nat.le_refl 0⟩ rfl (Nat.zero_le 8) hl.size rfl (Gr_readFact_dc.at 78 rfl) (fun H locs _ S35 => ?_)
                  refine r_iconst E (Gr_readFact_dc.at 79 rfl) ?_
                  cases h
                  exact r_zret E S35 z01_1 z01_1 (Gr_readFact_dc.at 80 rfl)
            · have h := ite_f h q
              refine u_al_n (x := a0) E (Gr_readFact_dc.at 52 rfl) hl rfl ?_
              refine r_iconst E (Gr_readFact_dc.at 53 rfl) ?_
              refine r_iconst E (Gr_readFact_dc.at 54 rfl) ?_
              refine r_iconst E (Gr_readFact_dc.at 55 rfl) ?_
              obtain ⟨M36, eM36, h⟩ := bd1_e h
              refine u_cVU (As := [.int (zO 2), .int (zO 0), .int (zO (-1))]) (rest := []) E S18 zcw_yX4_noteStep zw_3_147 zq_2_3 zw_3_145 zck_4.1 rfl g1 (Gr_noteStep_c l G fu top L M17 a0 2 0 (-1) ha0 (show InR 2 by decide) (show InR 0 by decide) (show InR (-1) by decide) eM36) (zrm_ok (by omega) (by decide)) ⟨Nat.le_refl 0, Nat.le_refl 0⟩ rfl (Nat.zero_le 8) hl.size rfl (Gr_readFact_dc.at 56 rfl) (fun H locs _ S37 => ?_)
              refine r_iconst E (Gr_readFact_dc.at 57 rfl) ?_
              cases h
              exact r_zret E S37 z01_1 z01_1 (Gr_readFact_dc.at 58 rfl)
          · have h := ite_f h q
            refine u_al_n (x := a0) E (Gr_readFact_dc.at 43 rfl) hl rfl ?_
            refine r_iconst E (Gr_readFact_dc.at 44 rfl) ?_
            refine r_iconst E (Gr_readFact_dc.at 45 rfl) ?_
            obtain ⟨M39, r38, er38, h⟩ := bd2_e h
            refine u_cVI (As := [.int (zO 3), .int (zO (-1))]) (rest := []) E S15 zcw_yX4_readNumber zw_3_152 zq_2_4 zw_3_150 zck_4.1 rfl g1 (Gr_readNumber_c l G fu top L M14 a0 3 (-1) ha0 (show InR 3 by decide) (show InR (-1) by decide) er38) (zrm_ok (by omega) (by decide)) ⟨Nat.le_refl 0, Nat.le_refl 0⟩ rfl (Nat.zero_le 8) hl.size rfl (Gr_readFact_dc.at 46 rfl) (fun H locs hr38 S40 => ?_)
            cases h
            exact r_zret E S40 hr38 hr38 (Gr_readFact_dc.at 47 rfl)
        · have h := ite_f h q
          refine u_al_n (x := a0) E (Gr_readFact_dc.at 34 rfl) hl rfl ?_
          refine r_iconst E (Gr_readFact_dc.at 35 rfl) ?_
          refine r_iconst E (Gr_readFact_dc.at 36 rfl) ?_
          obtain ⟨M42, r41, er41, h⟩ := bd2_e h
          refine u_cVI (As := [.int (zO 0), .int (zO (-1))]) (rest := []) E S12 zcw_yX4_readNumber zw_3_152 zq_2_4 zw_3_150 zck_4.1 rfl g1 (Gr_readNumber_c l G fu top L M11 a0 0 (-1) ha0 (show InR 0 by decide) (show InR (-1) by decide) er41) (zrm_ok (by omega) (by decide)) ⟨Nat.le_refl 0, Nat.le_refl 0⟩ rfl (Nat.zero_le 8) hl.size rfl (Gr_readFact_dc.at 37 rfl) (fun H locs hr41 S43 => ?_)
          cases h
          exact r_zret E S43 hr41 hr41 (Gr_readFact_dc.at 38 rfl)
      · have h := ite_f h q
        refine u_al_n (x := a0) E (Gr_readFact_dc.at 26 rfl) hl rfl ?_
        refine u_il_n (x := a1) E (Gr_readFact_dc.at 27 rfl) hl rfl ?_
        obtain ⟨M45, r44, er44, h⟩ := bd2_e h
        refine u_cVI (As := [.int (zO a1)]) (rest := []) E S9 zcw_yX4_readAfter zw_3_142 zq_2_2 zw_3_140 zck_4.1 rfl g1 (HR.1 M5 a0 a1 ha0 ha1 er44) (zrm_ok (by omega) (by decide)) ⟨Nat.le_refl 0, Nat.le_refl 0⟩ rfl (Nat.zero_le 8) hl.size rfl (Gr_readFact_dc.at 28 rfl) (fun H locs hr44 S46 => ?_)
        cases h
        exact r_zret E S46 hr44 hr44 (Gr_readFact_dc.at 29 rfl)
    · have h := ite_f h q
      refine r_iconst E (Gr_readFact_dc.at 13 rfl) ?_
      cases h
      exact r_zret E S4 z01_0 z01_0 (Gr_readFact_dc.at 14 rfl)
  · have h := ite_f h q
    refine u_al_n (x := a0) E (Gr_readFact_dc.at 5 rfl) hl rfl ?_
    refine u_il_n (x := a1) E (Gr_readFact_dc.at 6 rfl) hl rfl ?_
    obtain ⟨M48, r47, er47, h⟩ := bd2_e h
    refine u_cVI (As := [.int (zO a1)]) (rest := []) E S4 zcw_yX4_readGroup zw_3_137 zq_2_1 zw_3_135 zck_4.1 rfl g1 (HR.2.2.2.2 M a0 a1 ha0 ha1 er47) (zrm_ok (by omega) (by decide)) ⟨Nat.le_refl 0, Nat.le_refl 0⟩ rfl (Nat.zero_le 8) hl.size rfl (Gr_readFact_dc.at 7 rfl) (fun H locs hr47 S49 => ?_)
    cases h
    exact r_zret E S49 hr47 hr47 (Gr_readFact_dc.at 8 rfl)
theorem Gr_readGroup_w (E : zEv p m c cX4_readGroup 2 s args RX4 meth (some .boolean) G) (HR : zh_Gr_readAfter l G zd top L rec) (hzd : 8 ≤ zd) {res : (zM × Int)} {M : zM} {a0 : Int} {a1 : Int} {H : Heap} {locs : List Loc} {ls : Array Slot} (ha0 : InR a0) (ha1 : InR a1) (S : zS G top L M s H locs) (hl : zLV ls 2 [some (zR G.2.2.1 a0), some (.int (zO a1))]) (h : Gr_readGroup_r fu rec L M a0 a1 = some res) : W p l e (zrm (zd + 1) 0 0) s m args below meth c H locs 0 0 (MQ below (zQ G top L res.1 (some (.int (zO res.2))) (0 ≤ res.2 ∧ res.2 ≤ 1)) args s 0 0 (zA G)) (F0 m 0 ls []) := by
  unfold Gr_readGroup_r at h
  refine u_il_n (x := a1) E (Gr_readGroup_dc.at 0 rfl) hl rfl ?_
  refine r_iconst E (Gr_readGroup_dc.at 1 rfl) ?_
  refine r_icmp_lt (tgt := 7) E ha1 (show InR 5 by decide) (Gr_readGroup_dc.at 2 rfl) (by decide) (fun q => ?_) (fun q => ?_)
  · have h := ite_t h q
    refine u_al_n (x := a0) E (Gr_readGroup_dc.at 5 rfl) hl rfl ?_
    obtain ⟨g1, h⟩ := ite_e h
    obtain ⟨M2, eM2, h⟩ := bd1_e h
    refine u_cVU (As := []) (rest := []) E S zcw_yX4_take zw_3_94 zq_1_9 zw_3_92 zck_4.1 rfl g1 (Gr_take_c l G fu top L M a0 ha0 eM2) (zrm_ok (by omega) (by decide)) ⟨Nat.le_refl 0, Nat.le_refl 0⟩ rfl (Nat.zero_le 8) hl.size rfl (Gr_readGroup_dc.at 6 rfl) (fun H locs _ S3 => ?_)
    refine u_al_n (x := a0) E (Gr_readGroup_dc.at 7 rfl) hl rfl ?_
    refine u_il_n (x := a1) E (Gr_readGroup_dc.at 8 rfl) hl rfl ?_
    refine r_iconst E (Gr_readGroup_dc.at 9 rfl) ?_
    refine r_iadd E (Gr_readGroup_dc.at 10 rfl) ?_
    obtain ⟨M5, r4, er4, h⟩ := bd2_e h
    refine u_cVI (As := [.int (zO (w32 (a1 + 1)))]) (rest := []) E S3 zcw_yX4_readAny zw_3_124 zq_1_14 zw_3_122 zck_4.1 rfl g1 (HR.2.2.1 M2 a0 (w32 (a1 + 1)) ha0 (inR_w32 _) er4) (zrm_ok (by omega) (by decide)) ⟨Nat.le_refl 0, Nat.le_refl 0⟩ rfl (Nat.zero_le 8) hl.size rfl (Gr_readGroup_dc.at 11 rfl) (fun H locs hr4 S6 => ?_)
    refine r_if_eq (tgt := 33) E (inR_01 hr4) (Gr_readGroup_dc.at 12 rfl) (by decide) (fun q => ?_) (fun q => ?_)
    · have h := ite_t h q
      refine r_iconst E (Gr_readGroup_dc.at 18 rfl) ?_
      cases h
      exact r_zret E S6 z01_0 z01_0 (Gr_readGroup_dc.at 19 rfl)
    · have h := ite_f h q
      refine u_al_n (x := a0) E (Gr_readGroup_dc.at 13 rfl) hl rfl ?_
      refine u_gR E zf_4_0 S6 g1 zw_1_103 (Gr_readGroup_dc.at 14 rfl) ?_
      refine r_bipush E (Gr_readGroup_dc.at 15 rfl) rfl ?_
      obtain ⟨g7, h⟩ := ite_e h
      obtain ⟨r8, er8, h⟩ := bd1_e h
      refine u_cVI (As := [.int (zO 41)]) (rest := []) E S6 zcw_yX7_isSign zw_3_78 zw_3_79 zw_3_134 zck_7.1 rfl g7 (Tp_isSign_c l G fu top L M5 (M5 a0 0) 41 (S6.1.inR _ _) (show InR 41 by decide) er8) (zrm_ok (by omega) (by decide)) ⟨Nat.le_refl 0, Nat.le_refl 0⟩ rfl (Nat.zero_le 8) hl.size rfl (Gr_readGroup_dc.at 16 rfl) (fun H locs hr8 S9 => ?_)
      refine r_if_ne (tgt := 35) E (inR_01 hr8) (Gr_readGroup_dc.at 17 rfl) (by decide) (fun q => ?_) (fun q => ?_)
      · have h := ite_t h q
        refine r_iconst E (Gr_readGroup_dc.at 18 rfl) ?_
        cases h
        exact r_zret E S9 z01_0 z01_0 (Gr_readGroup_dc.at 19 rfl)
      · have h := ite_f h q
        refine u_al_n (x := a0) E (Gr_readGroup_dc.at 20 rfl) hl rfl ?_
        obtain ⟨M10, eM10, h⟩ := bd1_e h
        refine u_cVU (As := []) (rest := []) E S9 zcw_yX4_take zw_3_94 zq_1_9 zw_3_92 zck_4.1 rfl g1 (Gr_take_c l G fu top L M5 a0 ha0 eM10) (zrm_ok (by omega) (by decide)) ⟨Nat.le_refl 0, Nat.le_refl 0⟩ rfl (Nat.zero_le 8) hl.size rfl (Gr_readGroup_dc.at 21 rfl) (fun H locs _ S11 => ?_)
        refine r_iconst E (Gr_readGroup_dc.at 22 rfl) ?_
        cases h
        exact r_zret E S11 z01_1 z01_1 (Gr_readGroup_dc.at 23 rfl)
  · have h := ite_f h q
    refine r_iconst E (Gr_readGroup_dc.at 3 rfl) ?_
    cases h
    exact r_zret E S z01_0 z01_0 (Gr_readGroup_dc.at 4 rfl)
end
theorem zg_Gr_readAfter_h (l : Launch) (G : zG) (fu : Nat) (top : Int) (L : zL) : ∀ n : Nat, zh_Gr_readAfter l G (8 + n) top L (zg_Gr_readAfter fu L n)
  | 0 => ⟨fun _ _ _ _ _ _ h => (by cases h), fun _ _ _ _ _ _ h => (by cases h), fun _ _ _ _ _ _ h => (by cases h), fun _ _ _ _ _ _ h => (by cases h), fun _ _ _ _ _ _ h => (by cases h)⟩
  | n + 1 => ⟨fun M a0 a1 res ha0 ha1 h => z_met (by decide +kernel) (by simp [zR_cat, zcat_I, zcat_S]) (Nat.le_of_ble_eq_true rfl) fun p e s m below meth c ls E hn S hl => Gr_readAfter_w E (zd := 8 + n) (zg_Gr_readAfter_h l G fu top L n) (by omega) ha0 ha1 S (hl.sub (And.intro rfl (And.intro rfl True.intro))) h, fun M a0 a1 res ha0 ha1 h => z_met (by decide +kernel) (by simp [zR_cat, zcat_I, zcat_S]) (Nat.le_of_ble_eq_true rfl) fun p e s m below meth c ls E hn S hl => Gr_readAll_w E (zd := 8 + n) (zg_Gr_readAfter_h l G fu top L n) (by omega) ha0 ha1 S (hl.sub (And.intro rfl (And.intro rfl True.intro))) h, fun M a0 a1 res ha0 ha1 h => z_met (by decide +kernel) (by simp [zR_cat, zcat_I, zcat_S]) (Nat.le_of_ble_eq_true rfl) fun p e s m below meth c ls E hn S hl => Gr_readAny_w E (zd := 8 + n) (zg_Gr_readAfter_h l G fu top L n) (by omega) ha0 ha1 S (hl.sub (And.intro rfl (And.intro rfl True.intro))) h, fun M a0 a1 res ha0 ha1 h => z_met (by decide +kernel) (by simp [zR_cat, zcat_I, zcat_S]) (Nat.le_of_ble_eq_true rfl) fun p e s m below meth c ls E hn S hl => Gr_readFact_w E (zd := 8 + n) (zg_Gr_readAfter_h l G fu top L n) (by omega) ha0 ha1 S (hl.sub (And.intro rfl (And.intro rfl True.intro))) h, fun M a0 a1 res ha0 ha1 h => z_met (by decide +kernel) (by simp [zR_cat, zcat_I, zcat_S]) (Nat.le_of_ble_eq_true rfl) fun p e s m below meth c ls E hn S hl => Gr_readGroup_w E (zd := 8 + n) (zg_Gr_readAfter_h l G fu top L n) (by omega) ha0 ha1 S (hl.sub (And.intro rfl (And.intro rfl True.intro))) h⟩
theorem Gr_readAfter_c (l : Launch) (G : zG) (fu : Nat) (top : Int) (L : zL) (M : zM) (a0 : Int) (a1 : Int) {res : (zM × Int)} (ha0 : InR a0) (ha1 : InR a1) (h : Gr_readAfter fu L M a0 a1 = some res) : Met l yX4_readAfter (Cond.code yX4_readAfter cX4_readAfter 3 (some .boolean) :: zTB) (zrm 48 0 0) (va_Pc [zR G.2.2.1 a0, .int (zO a1)] (zPre G top L M)) (zQ G top L res.1 (some (.int (zO res.2))) (0 ≤ res.2 ∧ res.2 ≤ 1)) 0 0 (zA G) := (zg_Gr_readAfter_h l G fu top L 40).1 M a0 a1 ha0 ha1 h
theorem Gr_readAll_c (l : Launch) (G : zG) (fu : Nat) (top : Int) (L : zL) (M : zM) (a0 : Int) (a1 : Int) {res : (zM × Int)} (ha0 : InR a0) (ha1 : InR a1) (h : Gr_readAll fu L M a0 a1 = some res) : Met l yX4_readAll (Cond.code yX4_readAll cX4_readAll 4 (some .boolean) :: zTB) (zrm 48 0 0) (va_Pc [zR G.2.2.1 a0, .int (zO a1)] (zPre G top L M)) (zQ G top L res.1 (some (.int (zO res.2))) (0 ≤ res.2 ∧ res.2 ≤ 1)) 0 0 (zA G) := (zg_Gr_readAfter_h l G fu top L 40).2.1 M a0 a1 ha0 ha1 h
theorem Gr_readAny_c (l : Launch) (G : zG) (fu : Nat) (top : Int) (L : zL) (M : zM) (a0 : Int) (a1 : Int) {res : (zM × Int)} (ha0 : InR a0) (ha1 : InR a1) (h : Gr_readAny fu L M a0 a1 = some res) : Met l yX4_readAny (Cond.code yX4_readAny cX4_readAny 4 (some .boolean) :: zTB) (zrm 48 0 0) (va_Pc [zR G.2.2.1 a0, .int (zO a1)] (zPre G top L M)) (zQ G top L res.1 (some (.int (zO res.2))) (0 ≤ res.2 ∧ res.2 ≤ 1)) 0 0 (zA G) := (zg_Gr_readAfter_h l G fu top L 40).2.2.1 M a0 a1 ha0 ha1 h
theorem Gr_readFact_c (l : Launch) (G : zG) (fu : Nat) (top : Int) (L : zL) (M : zM) (a0 : Int) (a1 : Int) {res : (zM × Int)} (ha0 : InR a0) (ha1 : InR a1) (h : Gr_readFact fu L M a0 a1 = some res) : Met l yX4_readFact (Cond.code yX4_readFact cX4_readFact 4 (some .boolean) :: zTB) (zrm 48 0 0) (va_Pc [zR G.2.2.1 a0, .int (zO a1)] (zPre G top L M)) (zQ G top L res.1 (some (.int (zO res.2))) (0 ≤ res.2 ∧ res.2 ≤ 1)) 0 0 (zA G) := (zg_Gr_readAfter_h l G fu top L 40).2.2.2.1 M a0 a1 ha0 ha1 h
theorem Gr_readGroup_c (l : Launch) (G : zG) (fu : Nat) (top : Int) (L : zL) (M : zM) (a0 : Int) (a1 : Int) {res : (zM × Int)} (ha0 : InR a0) (ha1 : InR a1) (h : Gr_readGroup fu L M a0 a1 = some res) : Met l yX4_readGroup (Cond.code yX4_readGroup cX4_readGroup 2 (some .boolean) :: zTB) (zrm 48 0 0) (va_Pc [zR G.2.2.1 a0, .int (zO a1)] (zPre G top L M)) (zQ G top L res.1 (some (.int (zO res.2))) (0 ≤ res.2 ∧ res.2 ≤ 1)) 0 0 (zA G) := (zg_Gr_readAfter_h l G fu top L 40).2.2.2.2 M a0 a1 ha0 ha1 h
theorem Gr_read_dc : zDL cX4_read [(0, .aload_n 0, 1, 1), (1, .iconst 0, 1, 2), (2, .putfield 34, 3, 5), (5, .aload_n 0, 1, 6), (6, .iconst 0, 1, 7), (7, .putfield 38, 3, 10), (10, .aload_n 0, 1, 11), (11, .iconst 0, 1, 12), (12, .putfield 41, 3, 15), (15, .aload_n 0, 1, 16), (16, .iconst 0, 1, 17), (17, .putfield 44, 3, 20), (20, .aload_n 0, 1, 21), (21, .getfield 30, 3, 24), (24, .invokevirtual 47, 3, 27), (27, .aload_n 0, 1, 28), (28, .ldc 52, 2, 30), (30, .invokevirtual 54, 3, 33), (33, .ifCond .eq 41, 3, 36), (36, .aload_n 0, 1, 37), (37, .invokevirtual 58, 3, 40), (40, .ifCond .eq 34, 3, 43), (43, .aload_n 0, 1, 44), (44, .ldc 62, 2, 46), (46, .invokevirtual 54, 3, 49), (49, .ifCond .eq 25, 3, 52), (52, .aload_n 0, 1, 53), (53, .iconst 0, 1, 54), (54, .invokevirtual 64, 3, 57), (57, .ifCond .eq 17, 3, 60), (60, .aload_n 0, 1, 61), (61, .getfield 30, 3, 64), (64, .invokevirtual 68, 3, 67), (67, .ifCond .eq 7, 3, 70), (70, .iconst 1, 1, 71), (71, .goto 4, 3, 74), (74, .iconst 0, 1, 75), (75, .istore_n 1, 1, 76), (76, .iload_n 1, 1, 77), (77, .ifCond .eq 7, 3, 80), (80, .iconst (-1), 1, 81), (81, .goto 10, 3, 84), (84, .aload_n 0, 1, 85), (85, .getfield 30, 3, 88), (88, .getfield 71, 3, 91), (91, .ireturn, 1, 92)] := zDL.of (by decide +kernel)
section
variable {p : Program} {l : Launch} {e : Env} {s : State} {m : MethodId} {args : Array Value} {below : List Frame} {meth : Method} {c : Code} {G : zG} {top : Int} {L : zL} {fu : Nat}
theorem Gr_read_b75_w (E : zEv p m c cX4_read 2 s args RX4 meth (some .int) G) {res : (zM × Int)} {M : zM} {x0 : Int} {y0 : Int} {H : Heap} {locs : List Loc} {ls : Array Slot} (hx0 : InR x0) (hy0 : InR y0) (S : zS G top L M s H locs) (hl : zLV ls 2 [some (zR G.2.2.1 x0), none]) (h : Gr_read_b75 fu L M x0 y0 = some res) : W p l e (zrm 50 0 0) s m args below meth c H locs 0 0 (MQ below (zQ G top L res.1 (some (.int (zO res.2))) (InR res.2)) args s 0 0 (zA G)) (F0 m 75 ls [.int (zO y0)]) := by
  unfold Gr_read_b75 at h
  refine u_ist_n (y := y0) (vs' := [some (zR G.2.2.1 x0), some (.int (zO y0))]) E rfl (Gr_read_dc.at 37 rfl) hl (by decide) rfl (fun ls hl => ?_)
  refine u_il_n (x := y0) E (Gr_read_dc.at 38 rfl) hl rfl ?_
  refine r_if_eq (tgt := 84) E hy0 (Gr_read_dc.at 39 rfl) (by decide) (fun q => ?_) (fun q => ?_)
  · have h := ite_t h q
    refine u_al_n (x := x0) E (Gr_read_dc.at 42 rfl) hl rfl ?_
    obtain ⟨g16, h⟩ := ite_e h
    refine u_gR E zf_4_0 S g16 zw_1_103 (Gr_read_dc.at 43 rfl) ?_
    obtain ⟨g17, h⟩ := ite_e h
    refine u_gI E zf_7_5 S g17 zw_1_49 (Gr_read_dc.at 44 rfl) ?_
    cases h
    exact r_iret E S (S.1.inR _ _) (Gr_read_dc.at 45 rfl)
  · have h := ite_f h q
    refine r_iconst E (Gr_read_dc.at 40 rfl) ?_
    refine r_goto (tgt := 91) E (Gr_read_dc.at 41 rfl) (by decide) ?_
    cases h
    exact r_iret E S (show InR (-1) by decide) (Gr_read_dc.at 45 rfl)
theorem Gr_read_w (E : zEv p m c cX4_read 2 s args RX4 meth (some .int) G) {res : (zM × Int)} {M : zM} {a0 : Int} {H : Heap} {locs : List Loc} {ls : Array Slot} (ha0 : InR a0) (S : zS G top L M s H locs) (hl : zLV ls 2 [some (zR G.2.2.1 a0), none]) (h : Gr_read fu L M a0 = some res) : W p l e (zrm 50 0 0) s m args below meth c H locs 0 0 (MQ below (zQ G top L res.1 (some (.int (zO res.2))) (InR res.2)) args s 0 0 (zA G)) (F0 m 0 ls []) := by
  unfold Gr_read at h
  refine u_al_n (x := a0) E (Gr_read_dc.at 0 rfl) hl rfl ?_
  refine r_iconst E (Gr_read_dc.at 1 rfl) ?_
  obtain ⟨g1, h⟩ := ite_e h
  obtain ⟨M2, eM2, h⟩ := lt1_e h
  refine u_pI E eM2 zf_4_9 S g1 (show InR 0 by decide) (Or.inl rfl) rfl zw_1_121 (Gr_read_dc.at 2 rfl) (fun H locs S3 => ?_)
  refine u_al_n (x := a0) E (Gr_read_dc.at 3 rfl) hl rfl ?_
  refine r_iconst E (Gr_read_dc.at 4 rfl) ?_
  obtain ⟨M4, eM4, h⟩ := lt1_e h
  refine u_pI E eM4 zf_4_10 S3 g1 (show InR 0 by decide) (Or.inl rfl) rfl zw_1_123 (Gr_read_dc.at 5 rfl) (fun H locs S5 => ?_)
  refine u_al_n (x := a0) E (Gr_read_dc.at 6 rfl) hl rfl ?_
  refine r_iconst E (Gr_read_dc.at 7 rfl) ?_
  obtain ⟨M6, eM6, h⟩ := lt1_e h
  refine u_pI E eM6 zf_4_11 S5 g1 (show InR 0 by decide) (Or.inl rfl) rfl zw_1_125 (Gr_read_dc.at 8 rfl) (fun H locs S7 => ?_)
  refine u_al_n (x := a0) E (Gr_read_dc.at 9 rfl) hl rfl ?_
  refine r_iconst E (Gr_read_dc.at 10 rfl) ?_
  obtain ⟨M8, eM8, h⟩ := lt1_e h
  refine u_pI E eM8 zf_4_12 S7 g1 (show InR 0 by decide) (Or.inl rfl) rfl zw_1_127 (Gr_read_dc.at 11 rfl) (fun H locs S9 => ?_)
  refine u_al_n (x := a0) E (Gr_read_dc.at 12 rfl) hl rfl ?_
  refine u_gR E zf_4_0 S9 g1 zw_1_103 (Gr_read_dc.at 13 rfl) ?_
  obtain ⟨g10, h⟩ := ite_e h
  obtain ⟨M11, eM11, h⟩ := bd1_e h
  refine u_cVU (As := []) (rest := []) E S9 zcw_yX7_restart zw_2_202 zw_2_203 zw_3_85 zck_7.1 rfl g10 (Tp_restart_c l G fu top L M8 (M8 a0 0) (S9.1.inR _ _) eM11) (zrm_ok (by decide) (by decide)) ⟨Nat.le_refl 0, Nat.le_refl 0⟩ rfl (Nat.zero_le 8) hl.size rfl (Gr_read_dc.at 14 rfl) (fun H locs _ S12 => ?_)
  refine u_al_n (x := a0) E (Gr_read_dc.at 15 rfl) hl rfl ?_
  refine r_ldcS (j := 1) E (Gr_read_dc.at 16 rfl) rfl ?_
  obtain ⟨M14, r13, er13, h⟩ := bd2_e h
  refine u_cVI (As := [.ref (G.2.2.2.1 1)]) (rest := []) E S12 zcw_yX4_readWord zw_3_89 zq_1_8 zw_3_87 zck_4.1 rfl g1 (Gr_readWord_c l G fu top L M11 a0 1 ha0 er13) (zrm_ok (by decide) (by decide)) ⟨Nat.le_refl 0, Nat.le_refl 0⟩ rfl (Nat.zero_le 8) hl.size rfl (Gr_read_dc.at 17 rfl) (fun H locs hr13 S15 => ?_)
  refine r_if_eq (tgt := 74) E (inR_01 hr13) (Gr_read_dc.at 18 rfl) (by decide) (fun q => ?_) (fun q => ?_)
  · have h := ite_t h q
    refine r_iconst E (Gr_read_dc.at 36 rfl) ?_
    exact Gr_read_b75_w (x0 := a0) (y0 := 0) E ha0 (show InR 0 by decide) S15 (hl.sub (And.intro rfl True.intro)) h
  · have h := ite_f h q
    refine u_al_n (x := a0) E (Gr_read_dc.at 19 rfl) hl rfl ?_
    obtain ⟨M19, r18, er18, h⟩ := bd2_e h
    refine u_cVI (As := []) (rest := []) E S15 zcw_yX4_readWhom zw_3_108 zq_1_12 zw_3_106 zck_4.1 rfl g1 (Gr_readWhom_c l G fu top L M14 a0 ha0 er18) (zrm_ok (by decide) (by decide)) ⟨Nat.le_refl 0, Nat.le_refl 0⟩ rfl (Nat.zero_le 8) hl.size rfl (Gr_read_dc.at 20 rfl) (fun H locs hr18 S20 => ?_)
    refine r_if_eq (tgt := 74) E (inR_01 hr18) (Gr_read_dc.at 21 rfl) (by decide) (fun q => ?_) (fun q => ?_)
    · have h := ite_t h q
      refine r_iconst E (Gr_read_dc.at 36 rfl) ?_
      exact Gr_read_b75_w (x0 := a0) (y0 := 0) E ha0 (show InR 0 by decide) S20 (hl.sub (And.intro rfl True.intro)) h
    · have h := ite_f h q
      refine u_al_n (x := a0) E (Gr_read_dc.at 22 rfl) hl rfl ?_
      refine r_ldcS (j := 4) E (Gr_read_dc.at 23 rfl) rfl ?_
      obtain ⟨M22, r21, er21, h⟩ := bd2_e h
      refine u_cVI (As := [.ref (G.2.2.2.1 4)]) (rest := []) E S20 zcw_yX4_readWord zw_3_89 zq_1_8 zw_3_87 zck_4.1 rfl g1 (Gr_readWord_c l G fu top L M19 a0 4 ha0 er21) (zrm_ok (by decide) (by decide)) ⟨Nat.le_refl 0, Nat.le_refl 0⟩ rfl (Nat.zero_le 8) hl.size rfl (Gr_read_dc.at 24 rfl) (fun H locs hr21 S23 => ?_)
      refine r_if_eq (tgt := 74) E (inR_01 hr21) (Gr_read_dc.at 25 rfl) (by decide) (fun q => ?_) (fun q => ?_)
      · have h := ite_t h q
        refine r_iconst E (Gr_read_dc.at 36 rfl) ?_
        exact Gr_read_b75_w (x0 := a0) (y0 := 0) E ha0 (show InR 0 by decide) S23 (hl.sub (And.intro rfl True.intro)) h
      · have h := ite_f h q
        refine u_al_n (x := a0) E (Gr_read_dc.at 26 rfl) hl rfl ?_
        refine r_iconst E (Gr_read_dc.at 27 rfl) ?_
        obtain ⟨M25, r24, er24, h⟩ := bd2_e h
        refine u_cVI (As := [.int (zO 0)]) (rest := []) E S23 zcw_yX4_readAny zw_3_124 zq_1_14 zw_3_122 zck_4.1 rfl g1 (Gr_readAny_c l G fu top L M22 a0 0 ha0 (show InR 0 by decide) er24) (zrm_ok (by decide) (by decide)) ⟨Nat.le_refl 0, Nat.le_refl 0⟩ rfl (Nat.zero_le 8) hl.size rfl (Gr_read_dc.at 28 rfl) (fun H locs hr24 S26 => ?_)
        refine r_if_eq (tgt := 74) E (inR_01 hr24) (Gr_read_dc.at 29 rfl) (by decide) (fun q => ?_) (fun q => ?_)
        · have h := ite_t h q
          refine r_iconst E (Gr_read_dc.at 36 rfl) ?_
          exact Gr_read_b75_w (x0 := a0) (y0 := 0) E ha0 (show InR 0 by decide) S26 (hl.sub (And.intro rfl True.intro)) h
        · have h := ite_f h q
          refine u_al_n (x := a0) E (Gr_read_dc.at 30 rfl) hl rfl ?_
          refine u_gR E zf_4_0 S26 g1 zw_1_103 (Gr_read_dc.at 31 rfl) ?_
          obtain ⟨g27, h⟩ := ite_e h
          obtain ⟨r28, er28, h⟩ := bd1_e h
          refine u_cVI (As := []) (rest := []) E S26 zcw_yX7_isOver zw_3_74 zw_3_75 zw_3_167 zck_7.1 rfl g27 (Tp_isOver_c l G fu top L M25 (M25 a0 0) (S26.1.inR _ _) er28) (zrm_ok (by decide) (by decide)) ⟨Nat.le_refl 0, Nat.le_refl 0⟩ rfl (Nat.zero_le 8) hl.size rfl (Gr_read_dc.at 32 rfl) (fun H locs hr28 S29 => ?_)
          refine r_if_eq (tgt := 74) E (inR_01 hr28) (Gr_read_dc.at 33 rfl) (by decide) (fun q => ?_) (fun q => ?_)
          · have h := ite_t h q
            refine r_iconst E (Gr_read_dc.at 36 rfl) ?_
            exact Gr_read_b75_w (x0 := a0) (y0 := 0) E ha0 (show InR 0 by decide) S29 (hl.sub (And.intro rfl True.intro)) h
          · have h := ite_f h q
            refine r_iconst E (Gr_read_dc.at 34 rfl) ?_
            refine r_goto (tgt := 75) E (Gr_read_dc.at 35 rfl) (by decide) ?_
            exact Gr_read_b75_w (x0 := a0) (y0 := 1) E ha0 (show InR 1 by decide) S29 (hl.sub (And.intro rfl True.intro)) h
theorem Gr_read_c (l : Launch) (G : zG) (fu : Nat) (top : Int) (L : zL) (M : zM) (a0 : Int) {res : (zM × Int)} (ha0 : InR a0) (h : Gr_read fu L M a0 = some res) : Met l yX4_read (Cond.code yX4_read cX4_read 2 (some .int) :: zTB) (zrm 50 0 0) (va_Pc [zR G.2.2.1 a0] (zPre G top L M)) (zQ G top L res.1 (some (.int (zO res.2))) (InR res.2)) 0 0 (zA G) :=
  z_met (by decide +kernel) (by simp [zR_cat, zcat_I, zcat_S]) (Nat.le_of_ble_eq_true rfl) fun p e s m below meth c ls E hn S hl => Gr_read_w E ha0 S (hl.sub (And.intro rfl True.intro)) h
end
theorem Sr_note_dc : zDL cX6_note [(0, .aload_n 0, 1, 1), (1, .getfield 22, 3, 4), (4, .ifCond .lt 57, 3, 7), (7, .aload_n 0, 1, 8), (8, .getfield 22, 3, 11), (11, .aload_n 0, 1, 12), (12, .getfield 9, 3, 15), (15, .arraylength, 1, 16), (16, .if_icmp .ge 45, 3, 19), (19, .aload_n 0, 1, 20), (20, .getfield 22, 3, 23), (23, .aload_n 0, 1, 24), (24, .getfield 15, 3, 27), (27, .arraylength, 1, 28), (28, .if_icmp .ge 33, 3, 31), (31, .aload_n 0, 1, 32), (32, .getfield 9, 3, 35), (35, .aload_n 0, 1, 36), (36, .getfield 22, 3, 39), (39, .iload_n 1, 1, 40), (40, .iastore, 1, 41), (41, .aload_n 0, 1, 42), (42, .getfield 15, 3, 45), (45, .aload_n 0, 1, 46), (46, .getfield 22, 3, 49), (49, .iload_n 2, 1, 50), (50, .iastore, 1, 51), (51, .aload_n 0, 1, 52), (52, .dup, 1, 53), (53, .getfield 22, 3, 56), (56, .iconst 1, 1, 57), (57, .iadd, 1, 58), (58, .putfield 22, 3, 61), (61, .return_, 1, 62)] := zDL.of (by decide +kernel)
section
variable {p : Program} {l : Launch} {e : Env} {s : State} {m : MethodId} {args : Array Value} {below : List Frame} {meth : Method} {c : Code} {G : zG} {top : Int} {L : zL} {fu : Nat}
theorem Sr_note_w (E : zEv p m c cX6_note 3 s args RX6 meth none G) {res : zM} {M : zM} {a0 : Int} {a1 : Int} {a2 : Int} {H : Heap} {locs : List Loc} {ls : Array Slot} (ha0 : InR a0) (ha1 : InR a1) (ha2 : InR a2) (S : zS G top L M s H locs) (hl : zLV ls 3 [some (zR G.2.2.1 a0), some (.int (zO a1)), some (.int (zO a2))]) (h : Sr_note fu L M a0 a1 a2 = some res) : W p l e (zrm 1 0 0) s m args below meth c H locs 0 0 (MQ below (zQ G top L res none True) args s 0 0 (zA G)) (F0 m 0 ls []) := by
  unfold Sr_note at h
  refine u_al_n (x := a0) E (Sr_note_dc.at 0 rfl) hl rfl ?_
  obtain ⟨g1, h⟩ := ite_e h
  refine u_gI E zf_6_3 S g1 zw_1_164 (Sr_note_dc.at 1 rfl) ?_
  refine r_if_lt (tgt := 61) E (S.1.inR _ _) (Sr_note_dc.at 2 rfl) (by decide) (fun q => ?_) (fun q => ?_)
  · have h := ite_t h q
    cases h
    exact r_vret E S True.intro (Sr_note_dc.at 33 rfl)
  · have h := ite_f h q
    refine u_al_n (x := a0) E (Sr_note_dc.at 3 rfl) hl rfl ?_
    refine u_gI E zf_6_3 S g1 zw_1_164 (Sr_note_dc.at 4 rfl) ?_
    refine u_al_n (x := a0) E (Sr_note_dc.at 5 rfl) hl rfl ?_
    refine u_gR E zf_6_1 S g1 zw_1_162 (Sr_note_dc.at 6 rfl) ?_
    obtain ⟨g2, h⟩ := ite_e h
    refine r_alen E S g2 (by decide) (Sr_note_dc.at 7 rfl) ?_
    refine r_icmp_ge (tgt := 61) E (S.1.inR _ _) (S.1.lenR _) (Sr_note_dc.at 8 rfl) (by decide) (fun q => ?_) (fun q => ?_)
    · have h := ite_t h q
      refine u_al_n (x := a0) E (Sr_note_dc.at 9 rfl) hl rfl ?_
      refine u_gI E zf_6_3 S g1 zw_1_164 (Sr_note_dc.at 10 rfl) ?_
      refine u_al_n (x := a0) E (Sr_note_dc.at 11 rfl) hl rfl ?_
      refine u_gR E zf_6_2 S g1 zw_1_163 (Sr_note_dc.at 12 rfl) ?_
      obtain ⟨g3, h⟩ := ite_e h
      refine r_alen E S g3 (by decide) (Sr_note_dc.at 13 rfl) ?_
      refine r_icmp_ge (tgt := 61) E (S.1.inR _ _) (S.1.lenR _) (Sr_note_dc.at 14 rfl) (by decide) (fun q => ?_) (fun q => ?_)
      · have h := ite_t h q
        refine u_al_n (x := a0) E (Sr_note_dc.at 15 rfl) hl rfl ?_
        refine u_gR E zf_6_1 S g1 zw_1_162 (Sr_note_dc.at 16 rfl) ?_
        refine u_al_n (x := a0) E (Sr_note_dc.at 17 rfl) hl rfl ?_
        refine u_gI E zf_6_3 S g1 zw_1_164 (Sr_note_dc.at 18 rfl) ?_
        refine u_il_n (x := a1) E (Sr_note_dc.at 19 rfl) hl rfl ?_
        obtain ⟨g4, h⟩ := ite_e h
        obtain ⟨M5, eM5, h⟩ := lt1_e h
        refine u_iast E eM5 S g2 g4 ha1 (Sr_note_dc.at 20 rfl) (fun H locs S6 => ?_)
        refine u_al_n (x := a0) E (Sr_note_dc.at 21 rfl) hl rfl ?_
        refine u_gR E zf_6_2 S6 g1 zw_1_163 (Sr_note_dc.at 22 rfl) ?_
        refine u_al_n (x := a0) E (Sr_note_dc.at 23 rfl) hl rfl ?_
        refine u_gI E zf_6_3 S6 g1 zw_1_164 (Sr_note_dc.at 24 rfl) ?_
        refine u_il_n (x := a2) E (Sr_note_dc.at 25 rfl) hl rfl ?_
        obtain ⟨g7, h⟩ := ite_e h
        obtain ⟨g8, h⟩ := ite_e h
        obtain ⟨M9, eM9, h⟩ := lt1_e h
        refine u_iast E eM9 S6 g7 g8 ha2 (Sr_note_dc.at 26 rfl) (fun H locs S10 => ?_)
        refine u_al_n (x := a0) E (Sr_note_dc.at 27 rfl) hl rfl ?_
        refine r_dup E (Sr_note_dc.at 28 rfl) (zR_cat _ _) ?_
        refine u_gI E zf_6_3 S10 g1 zw_1_164 (Sr_note_dc.at 29 rfl) ?_
        refine r_iconst E (Sr_note_dc.at 30 rfl) ?_
        refine r_iadd E (Sr_note_dc.at 31 rfl) ?_
        obtain ⟨M11, eM11, h⟩ := lt1_e h
        refine u_pI E eM11 zf_6_3 S10 g1 (inR_w32 _) (Or.inl rfl) rfl zw_1_164 (Sr_note_dc.at 32 rfl) (fun H locs S12 => ?_)
        cases h
        exact r_vret E S12 True.intro (Sr_note_dc.at 33 rfl)
      · have h := ite_f h q
        cases h
        exact r_vret E S True.intro (Sr_note_dc.at 33 rfl)
    · have h := ite_f h q
      cases h
      exact r_vret E S True.intro (Sr_note_dc.at 33 rfl)
theorem Sr_note_c (l : Launch) (G : zG) (fu : Nat) (top : Int) (L : zL) (M : zM) (a0 : Int) (a1 : Int) (a2 : Int) {res : zM} (ha0 : InR a0) (ha1 : InR a1) (ha2 : InR a2) (h : Sr_note fu L M a0 a1 a2 = some res) : Met l yX6_note (Cond.code yX6_note cX6_note 3 none :: zTB) (zrm 1 0 0) (va_Pc [zR G.2.2.1 a0, .int (zO a1), .int (zO a2)] (zPre G top L M)) (zQ G top L res none True) 0 0 (zA G) :=
  z_met (by decide +kernel) (by simp [zR_cat, zcat_I, zcat_S]) (Nat.le_of_ble_eq_true rfl) fun p e s m below meth c ls E hn S hl => Sr_note_w E ha0 ha1 ha2 S (hl.sub (And.intro rfl (And.intro rfl (And.intro rfl True.intro)))) h
end
theorem Sr_readYear_dc : zDL cX6_readYear [(0, .aload_n 0, 1, 1), (1, .getfield 18, 3, 4), (4, .aload_n 0, 1, 5), (5, .getfield 26, 3, 8), (8, .sipush 399, 3, 11), (11, .invokevirtual 66, 3, 14), (14, .ifCond .ne 5, 3, 17), (17, .iconst 0, 1, 18), (18, .ireturn, 1, 19), (19, .aload_n 0, 1, 20), (20, .aload_n 0, 1, 21), (21, .getfield 18, 3, 24), (24, .getfield 70, 3, 27), (27, .putfield 26, 3, 30), (30, .aload_n 0, 1, 31), (31, .iconst 0, 1, 32), (32, .aload_n 0, 1, 33), (33, .getfield 26, 3, 36), (36, .invokevirtual 76, 3, 39), (39, .aload_n 0, 1, 40), (40, .getfield 18, 3, 43), (43, .invokevirtual 48, 3, 46), (46, .iconst 1, 1, 47), (47, .ireturn, 1, 48)] := zDL.of (by decide +kernel)
section
variable {p : Program} {l : Launch} {e : Env} {s : State} {m : MethodId} {args : Array Value} {below : List Frame} {meth : Method} {c : Code} {G : zG} {top : Int} {L : zL} {fu : Nat}
theorem Sr_readYear_w (E : zEv p m c cX6_readYear 1 s args RX6 meth (some .boolean) G) {res : (zM × Int)} {M : zM} {a0 : Int} {H : Heap} {locs : List Loc} {ls : Array Slot} (ha0 : InR a0) (S : zS G top L M s H locs) (hl : zLV ls 1 [some (zR G.2.2.1 a0)]) (h : Sr_readYear fu L M a0 = some res) : W p l e (zrm 4 0 0) s m args below meth c H locs 0 0 (MQ below (zQ G top L res.1 (some (.int (zO res.2))) (0 ≤ res.2 ∧ res.2 ≤ 1)) args s 0 0 (zA G)) (F0 m 0 ls []) := by
  unfold Sr_readYear at h
  refine u_al_n (x := a0) E (Sr_readYear_dc.at 0 rfl) hl rfl ?_
  obtain ⟨g1, h⟩ := ite_e h
  refine u_gR E zf_6_0 S g1 zw_1_161 (Sr_readYear_dc.at 1 rfl) ?_
  refine u_al_n (x := a0) E (Sr_readYear_dc.at 2 rfl) hl rfl ?_
  refine u_gI E zf_6_4 S g1 zw_1_166 (Sr_readYear_dc.at 3 rfl) ?_
  refine r_sipush E (Sr_readYear_dc.at 4 rfl) rfl ?_
  obtain ⟨g2, h⟩ := ite_e h
  obtain ⟨r3, er3, h⟩ := bd1_e h
  refine u_cVI (As := [.int (zO (M a0 4)), .int (zO 399)]) (rest := []) E S zcw_yX7_isNumber zw_3_9 zw_3_10 zw_3_184 zck_7.1 rfl g2 (Tp_isNumber_c l G fu top L M (M a0 0) (M a0 4) 399 (S.1.inR _ _) (S.1.inR _ _) (show InR 399 by decide) er3) (zrm_ok (by decide) (by decide)) ⟨Nat.le_refl 0, Nat.le_refl 0⟩ rfl (Nat.zero_le 8) hl.size rfl (Sr_readYear_dc.at 5 rfl) (fun H locs hr3 S4 => ?_)
  refine r_if_ne (tgt := 19) E (inR_01 hr3) (Sr_readYear_dc.at 6 rfl) (by decide) (fun q => ?_) (fun q => ?_)
  · have h := ite_t h q
    refine r_iconst E (Sr_readYear_dc.at 7 rfl) ?_
    cases h
    exact r_zret E S4 z01_0 z01_0 (Sr_readYear_dc.at 8 rfl)
  · have h := ite_f h q
    refine u_al_n (x := a0) E (Sr_readYear_dc.at 9 rfl) hl rfl ?_
    refine u_al_n (x := a0) E (Sr_readYear_dc.at 10 rfl) hl rfl ?_
    refine u_gR E zf_6_0 S4 g1 zw_1_161 (Sr_readYear_dc.at 11 rfl) ?_
    refine u_gI E zf_7_7 S4 g2 zw_1_54 (Sr_readYear_dc.at 12 rfl) ?_
    obtain ⟨M5, eM5, h⟩ := lt1_e h
    refine u_pI E eM5 zf_6_4 S4 g1 (S4.1.inR _ _) (Or.inl rfl) rfl zw_1_166 (Sr_readYear_dc.at 13 rfl) (fun H locs S6 => ?_)
    refine u_al_n (x := a0) E (Sr_readYear_dc.at 14 rfl) hl rfl ?_
    refine r_iconst E (Sr_readYear_dc.at 15 rfl) ?_
    refine u_al_n (x := a0) E (Sr_readYear_dc.at 16 rfl) hl rfl ?_
    refine u_gI E zf_6_4 S6 g1 zw_1_166 (Sr_readYear_dc.at 17 rfl) ?_
    obtain ⟨M7, eM7, h⟩ := bd1_e h
    refine u_cVU (As := [.int (zO 0), .int (zO (M5 a0 4))]) (rest := []) E S6 zcw_yX6_note zw_3_187 zq_2_9 zw_3_185 zck_6.1 rfl g1 (Sr_note_c l G fu top L M5 a0 0 (M5 a0 4) ha0 (show InR 0 by decide) (S6.1.inR _ _) eM7) (zrm_ok (by decide) (by decide)) ⟨Nat.le_refl 0, Nat.le_refl 0⟩ rfl (Nat.zero_le 8) hl.size rfl (Sr_readYear_dc.at 18 rfl) (fun H locs _ S8 => ?_)
    refine u_al_n (x := a0) E (Sr_readYear_dc.at 19 rfl) hl rfl ?_
    refine u_gR E zf_6_0 S8 g1 zw_1_161 (Sr_readYear_dc.at 20 rfl) ?_
    obtain ⟨g9, h⟩ := ite_e h
    obtain ⟨M10, eM10, h⟩ := bd1_e h
    refine u_cVU (As := []) (rest := []) E S8 zcw_yX7_advance zw_2_206 zw_2_207 zw_3_179 zck_7.1 rfl g9 (Tp_advance_c l G fu top L M7 (M7 a0 0) (S8.1.inR _ _) eM10) (zrm_ok (by decide) (by decide)) ⟨Nat.le_refl 0, Nat.le_refl 0⟩ rfl (Nat.zero_le 8) hl.size rfl (Sr_readYear_dc.at 21 rfl) (fun H locs _ S11 => ?_)
    refine r_iconst E (Sr_readYear_dc.at 22 rfl) ?_
    cases h
    exact r_zret E S11 z01_1 z01_1 (Sr_readYear_dc.at 23 rfl)
theorem Sr_readYear_c (l : Launch) (G : zG) (fu : Nat) (top : Int) (L : zL) (M : zM) (a0 : Int) {res : (zM × Int)} (ha0 : InR a0) (h : Sr_readYear fu L M a0 = some res) : Met l yX6_readYear (Cond.code yX6_readYear cX6_readYear 1 (some .boolean) :: zTB) (zrm 4 0 0) (va_Pc [zR G.2.2.1 a0] (zPre G top L M)) (zQ G top L res.1 (some (.int (zO res.2))) (0 ≤ res.2 ∧ res.2 ≤ 1)) 0 0 (zA G) :=
  z_met (by decide +kernel) (by simp [zR_cat, zcat_I, zcat_S]) (Nat.le_of_ble_eq_true rfl) fun p e s m below meth c ls E hn S hl => Sr_readYear_w E ha0 S (hl.sub (And.intro rfl True.intro)) h
end
theorem Sr_readDeed_dc : zDL cX6_readDeed [(0, .aload_n 0, 1, 1), (1, .getfield 18, 3, 4), (4, .ldc 80, 2, 6), (6, .invokevirtual 53, 3, 9), (9, .istore_n 2, 1, 10), (10, .iload_n 2, 1, 11), (11, .ifCond .ne 17, 3, 14), (14, .aload_n 0, 1, 15), (15, .getfield 18, 3, 18), (18, .ldc 82, 2, 20), (20, .invokevirtual 53, 3, 23), (23, .ifCond .ne 5, 3, 26), (26, .iconst 0, 1, 27), (27, .ireturn, 1, 28), (28, .aload_n 0, 1, 29), (29, .iload_n 2, 1, 30), (30, .ifCond .eq 7, 3, 33), (33, .iconst 1, 1, 34), (34, .goto 4, 3, 37), (37, .iconst 2, 1, 38), (38, .iload_n 1, 1, 39), (39, .invokevirtual 76, 3, 42), (42, .aload_n 0, 1, 43), (43, .getfield 18, 3, 46), (46, .invokevirtual 48, 3, 49), (49, .iconst 1, 1, 50), (50, .ireturn, 1, 51)] := zDL.of (by decide +kernel)
section
variable {p : Program} {l : Launch} {e : Env} {s : State} {m : MethodId} {args : Array Value} {below : List Frame} {meth : Method} {c : Code} {G : zG} {top : Int} {L : zL} {fu : Nat}
theorem Sr_readDeed_b38_w (E : zEv p m c cX6_readDeed 3 s args RX6 meth (some .boolean) G) {res : (zM × Int)} {M : zM} {x0 : Int} {x1 : Int} {y0 : Int} {y1 : Int} {H : Heap} {locs : List Loc} {ls : Array Slot} (hx0 : InR x0) (hx1 : InR x1) (hy0 : InR y0) (hy1 : InR y1) (S : zS G top L M s H locs) (hl : zLV ls 3 [some (zR G.2.2.1 x0), some (.int (zO x1)), none]) (h : Sr_readDeed_b38 fu L M x0 x1 y0 y1 = some res) : W p l e (zrm 7 0 0) s m args below meth c H locs 0 0 (MQ below (zQ G top L res.1 (some (.int (zO res.2))) (0 ≤ res.2 ∧ res.2 ≤ 1)) args s 0 0 (zA G)) (F0 m 38 ls [.int (zO y1), zR G.2.2.1 y0]) := by
  unfold Sr_readDeed_b38 at h
  refine u_il_n (x := x1) E (Sr_readDeed_dc.at 20 rfl) hl rfl ?_
  obtain ⟨g7, h⟩ := ite_e h
  obtain ⟨M8, eM8, h⟩ := bd1_e h
  refine u_cVU (As := [.int (zO y1), .int (zO x1)]) (rest := []) E S zcw_yX6_note zw_3_187 zq_2_9 zw_3_185 zck_6.1 rfl g7 (Sr_note_c l G fu top L M y0 y1 x1 hy0 hy1 hx1 eM8) (zrm_ok (by decide) (by decide)) ⟨Nat.le_refl 0, Nat.le_refl 0⟩ rfl (Nat.zero_le 8) hl.size rfl (Sr_readDeed_dc.at 21 rfl) (fun H locs _ S9 => ?_)
  refine u_al_n (x := x0) E (Sr_readDeed_dc.at 22 rfl) hl rfl ?_
  obtain ⟨g10, h⟩ := ite_e h
  refine u_gR E zf_6_0 S9 g10 zw_1_161 (Sr_readDeed_dc.at 23 rfl) ?_
  obtain ⟨g11, h⟩ := ite_e h
  obtain ⟨M12, eM12, h⟩ := bd1_e h
  refine u_cVU (As := []) (rest := []) E S9 zcw_yX7_advance zw_2_206 zw_2_207 zw_3_179 zck_7.1 rfl g11 (Tp_advance_c l G fu top L M8 (M8 x0 0) (S9.1.inR _ _) eM12) (zrm_ok (by decide) (by decide)) ⟨Nat.le_refl 0, Nat.le_refl 0⟩ rfl (Nat.zero_le 8) hl.size rfl (Sr_readDeed_dc.at 24 rfl) (fun H locs _ S13 => ?_)
  refine r_iconst E (Sr_readDeed_dc.at 25 rfl) ?_
  cases h
  exact r_zret E S13 z01_1 z01_1 (Sr_readDeed_dc.at 26 rfl)
theorem Sr_readDeed_b28_w (E : zEv p m c cX6_readDeed 3 s args RX6 meth (some .boolean) G) {res : (zM × Int)} {M : zM} {x0 : Int} {x1 : Int} {x2 : Int} {H : Heap} {locs : List Loc} {ls : Array Slot} (hx0 : InR x0) (hx1 : InR x1) (hx2 : InR x2) (S : zS G top L M s H locs) (hl : zLV ls 3 [some (zR G.2.2.1 x0), some (.int (zO x1)), some (.int (zO x2))]) (h : Sr_readDeed_b28 fu L M x0 x1 x2 = some res) : W p l e (zrm 7 0 0) s m args below meth c H locs 0 0 (MQ below (zQ G top L res.1 (some (.int (zO res.2))) (0 ≤ res.2 ∧ res.2 ≤ 1)) args s 0 0 (zA G)) (F0 m 28 ls []) := by
  unfold Sr_readDeed_b28 at h
  refine u_al_n (x := x0) E (Sr_readDeed_dc.at 14 rfl) hl rfl ?_
  refine u_il_n (x := x2) E (Sr_readDeed_dc.at 15 rfl) hl rfl ?_
  refine r_if_eq (tgt := 37) E hx2 (Sr_readDeed_dc.at 16 rfl) (by decide) (fun q => ?_) (fun q => ?_)
  · have h := ite_t h q
    refine r_iconst E (Sr_readDeed_dc.at 19 rfl) ?_
    exact Sr_readDeed_b38_w (x0 := x0) (x1 := x1) (y0 := x0) (y1 := 2) E hx0 hx1 hx0 (show InR 2 by decide) S (hl.sub (And.intro rfl (And.intro rfl True.intro))) h
  · have h := ite_f h q
    refine r_iconst E (Sr_readDeed_dc.at 17 rfl) ?_
    refine r_goto (tgt := 38) E (Sr_readDeed_dc.at 18 rfl) (by decide) ?_
    exact Sr_readDeed_b38_w (x0 := x0) (x1 := x1) (y0 := x0) (y1 := 1) E hx0 hx1 hx0 (show InR 1 by decide) S (hl.sub (And.intro rfl (And.intro rfl True.intro))) h
theorem Sr_readDeed_w (E : zEv p m c cX6_readDeed 3 s args RX6 meth (some .boolean) G) {res : (zM × Int)} {M : zM} {a0 : Int} {a1 : Int} {H : Heap} {locs : List Loc} {ls : Array Slot} (ha0 : InR a0) (ha1 : InR a1) (S : zS G top L M s H locs) (hl : zLV ls 3 [some (zR G.2.2.1 a0), some (.int (zO a1)), none]) (h : Sr_readDeed fu L M a0 a1 = some res) : W p l e (zrm 7 0 0) s m args below meth c H locs 0 0 (MQ below (zQ G top L res.1 (some (.int (zO res.2))) (0 ≤ res.2 ∧ res.2 ≤ 1)) args s 0 0 (zA G)) (F0 m 0 ls []) := by
  unfold Sr_readDeed at h
  refine u_al_n (x := a0) E (Sr_readDeed_dc.at 0 rfl) hl rfl ?_
  obtain ⟨g1, h⟩ := ite_e h
  refine u_gR E zf_6_0 S g1 zw_1_161 (Sr_readDeed_dc.at 1 rfl) ?_
  refine r_ldcS (j := 14) E (Sr_readDeed_dc.at 2 rfl) rfl ?_
  obtain ⟨g2, h⟩ := ite_e h
  obtain ⟨r3, er3, h⟩ := bd1_e h
  refine u_cVI (As := [.ref (G.2.2.2.1 14)]) (rest := []) E S zcw_yX7_isWord zw_3_14 zw_3_15 zw_3_178 zck_7.1 rfl g2 (Tp_isWord_c l G fu top L M (M a0 0) 14 (S.1.inR _ _) er3) (zrm_ok (by decide) (by decide)) ⟨Nat.le_refl 0, Nat.le_refl 0⟩ rfl (Nat.zero_le 8) hl.size rfl (Sr_readDeed_dc.at 3 rfl) (fun H locs hr3 S4 => ?_)
  refine u_ist_n (y := r3) (vs' := [some (zR G.2.2.1 a0), some (.int (zO a1)), some (.int (zO r3))]) E rfl (Sr_readDeed_dc.at 4 rfl) hl (by decide) rfl (fun ls hl => ?_)
  refine u_il_n (x := r3) E (Sr_readDeed_dc.at 5 rfl) hl rfl ?_
  refine r_if_ne (tgt := 28) E (inR_01 hr3) (Sr_readDeed_dc.at 6 rfl) (by decide) (fun q => ?_) (fun q => ?_)
  · have h := ite_t h q
    refine u_al_n (x := a0) E (Sr_readDeed_dc.at 7 rfl) hl rfl ?_
    refine u_gR E zf_6_0 S4 g1 zw_1_161 (Sr_readDeed_dc.at 8 rfl) ?_
    refine r_ldcS (j := 15) E (Sr_readDeed_dc.at 9 rfl) rfl ?_
    obtain ⟨r5, er5, h⟩ := bd1_e h
    refine u_cVI (As := [.ref (G.2.2.2.1 15)]) (rest := []) E S4 zcw_yX7_isWord zw_3_14 zw_3_15 zw_3_178 zck_7.1 rfl g2 (Tp_isWord_c l G fu top L M (M a0 0) 15 (S4.1.inR _ _) er5) (zrm_ok (by decide) (by decide)) ⟨Nat.le_refl 0, Nat.le_refl 0⟩ rfl (Nat.zero_le 8) hl.size rfl (Sr_readDeed_dc.at 10 rfl) (fun H locs hr5 S6 => ?_)
    refine r_if_ne (tgt := 28) E (inR_01 hr5) (Sr_readDeed_dc.at 11 rfl) (by decide) (fun q => ?_) (fun q => ?_)
    · have h := ite_t h q
      refine r_iconst E (Sr_readDeed_dc.at 12 rfl) ?_
      cases h
      exact r_zret E S6 z01_0 z01_0 (Sr_readDeed_dc.at 13 rfl)
    · have h := ite_f h q
      exact Sr_readDeed_b28_w (x0 := a0) (x1 := a1) (x2 := r3)  E ha0 ha1 (inR_01 hr3) S6 (hl.sub (And.intro rfl (And.intro rfl (And.intro rfl True.intro)))) h
  · have h := ite_f h q
    exact Sr_readDeed_b28_w (x0 := a0) (x1 := a1) (x2 := r3)  E ha0 ha1 (inR_01 hr3) S4 (hl.sub (And.intro rfl (And.intro rfl (And.intro rfl True.intro)))) h
theorem Sr_readDeed_c (l : Launch) (G : zG) (fu : Nat) (top : Int) (L : zL) (M : zM) (a0 : Int) (a1 : Int) {res : (zM × Int)} (ha0 : InR a0) (ha1 : InR a1) (h : Sr_readDeed fu L M a0 a1 = some res) : Met l yX6_readDeed (Cond.code yX6_readDeed cX6_readDeed 3 (some .boolean) :: zTB) (zrm 7 0 0) (va_Pc [zR G.2.2.1 a0, .int (zO a1)] (zPre G top L M)) (zQ G top L res.1 (some (.int (zO res.2))) (0 ≤ res.2 ∧ res.2 ≤ 1)) 0 0 (zA G) :=
  z_met (by decide +kernel) (by simp [zR_cat, zcat_I, zcat_S]) (Nat.le_of_ble_eq_true rfl) fun p e s m below meth c ls E hn S hl => Sr_readDeed_w E ha0 ha1 S (hl.sub (And.intro rfl (And.intro rfl True.intro))) h
end
theorem Sr_readEvent_dc : zDL cX6_readEvent [(0, .aload_n 0, 1, 1), (1, .getfield 22, 3, 4), (4, .bipush 30, 2, 6), (6, .if_icmp .lt 5, 3, 9), (9, .iconst 0, 1, 10), (10, .ireturn, 1, 11), (11, .aload_n 0, 1, 12), (12, .getfield 18, 3, 15), (15, .ldc 51, 2, 17), (17, .invokevirtual 53, 3, 20), (20, .ifCond .eq 15, 3, 23), (23, .aload_n 0, 1, 24), (24, .getfield 18, 3, 27), (27, .invokevirtual 48, 3, 30), (30, .aload_n 0, 1, 31), (31, .invokevirtual 57, 3, 34), (34, .ireturn, 1, 35), (35, .aload_n 0, 1, 36), (36, .getfield 18, 3, 39), (39, .invokevirtual 60, 3, 42), (42, .istore_n 1, 1, 43), (43, .aload_n 0, 1, 44), (44, .getfield 18, 3, 47), (47, .ldc 64, 2, 49), (49, .invokevirtual 53, 3, 52), (52, .ifCond .eq 35, 3, 55), (55, .aload_n 0, 1, 56), (56, .getfield 18, 3, 59), (59, .invokevirtual 48, 3, 62), (62, .aload_n 0, 1, 63), (63, .getfield 18, 3, 66), (66, .iconst 0, 1, 67), (67, .bipush 23, 2, 69), (69, .invokevirtual 66, 3, 72), (72, .ifCond .eq 13, 3, 75), (75, .aload_n 0, 1, 76), (76, .getfield 18, 3, 79), (79, .getfield 70, 3, 82), (82, .goto 4, 3, 85), (85, .iconst (-1), 1, 86), (86, .istore_n 1, 1, 87), (87, .iload_n 1, 1, 88), (88, .iconst (-1), 1, 89), (89, .if_icmp .ne 5, 3, 92), (92, .iconst 0, 1, 93), (93, .ireturn, 1, 94), (94, .aload_n 0, 1, 95), (95, .getfield 18, 3, 98), (98, .invokevirtual 48, 3, 101), (101, .aload_n 0, 1, 102), (102, .iload_n 1, 1, 103), (103, .invokevirtual 73, 3, 106), (106, .ireturn, 1, 107)] := zDL.of (by decide +kernel)
section
variable {p : Program} {l : Launch} {e : Env} {s : State} {m : MethodId} {args : Array Value} {below : List Frame} {meth : Method} {c : Code} {G : zG} {top : Int} {L : zL} {fu : Nat}
theorem Sr_readEvent_b87_w (E : zEv p m c cX6_readEvent 2 s args RX6 meth (some .boolean) G) {res : (zM × Int)} {M : zM} {x0 : Int} {x1 : Int} {H : Heap} {locs : List Loc} {ls : Array Slot} (hx0 : InR x0) (hx1 : InR x1) (S : zS G top L M s H locs) (hl : zLV ls 2 [some (zR G.2.2.1 x0), some (.int (zO x1))]) (h : Sr_readEvent_b87 fu L M x0 x1 = some res) : W p l e (zrm 8 0 0) s m args below meth c H locs 0 0 (MQ below (zQ G top L res.1 (some (.int (zO res.2))) (0 ≤ res.2 ∧ res.2 ≤ 1)) args s 0 0 (zA G)) (F0 m 87 ls []) := by
  unfold Sr_readEvent_b87 at h
  refine u_il_n (x := x1) E (Sr_readEvent_dc.at 41 rfl) hl rfl ?_
  refine r_iconst E (Sr_readEvent_dc.at 42 rfl) ?_
  refine r_icmp_ne (tgt := 94) E hx1 (show InR (-1) by decide) (Sr_readEvent_dc.at 43 rfl) (by decide) (fun q => ?_) (fun q => ?_)
  · have h := ite_t h q
    refine r_iconst E (Sr_readEvent_dc.at 44 rfl) ?_
    cases h
    exact r_zret E S z01_0 z01_0 (Sr_readEvent_dc.at 45 rfl)
  · have h := ite_f h q
    refine u_al_n (x := x0) E (Sr_readEvent_dc.at 46 rfl) hl rfl ?_
    obtain ⟨g9, h⟩ := ite_e h
    refine u_gR E zf_6_0 S g9 zw_1_161 (Sr_readEvent_dc.at 47 rfl) ?_
    obtain ⟨g10, h⟩ := ite_e h
    obtain ⟨M11, eM11, h⟩ := bd1_e h
    refine u_cVU (As := []) (rest := []) E S zcw_yX7_advance zw_2_206 zw_2_207 zw_3_179 zck_7.1 rfl g10 (Tp_advance_c l G fu top L M (M x0 0) (S.1.inR _ _) eM11) (zrm_ok (by decide) (by decide)) ⟨Nat.le_refl 0, Nat.le_refl 0⟩ rfl (Nat.zero_le 8) hl.size rfl (Sr_readEvent_dc.at 48 rfl) (fun H locs _ S12 => ?_)
    refine u_al_n (x := x0) E (Sr_readEvent_dc.at 49 rfl) hl rfl ?_
    refine u_il_n (x := x1) E (Sr_readEvent_dc.at 50 rfl) hl rfl ?_
    obtain ⟨M14, r13, er13, h⟩ := bd2_e h
    refine u_cVI (As := [.int (zO x1)]) (rest := []) E S12 zcw_yX6_readDeed zw_3_193 zq_2_10 zw_3_191 zck_6.1 rfl g9 (Sr_readDeed_c l G fu top L M11 x0 x1 hx0 hx1 er13) (zrm_ok (by decide) (by decide)) ⟨Nat.le_refl 0, Nat.le_refl 0⟩ rfl (Nat.zero_le 8) hl.size rfl (Sr_readEvent_dc.at 51 rfl) (fun H locs hr13 S15 => ?_)
    cases h
    exact r_zret E S15 hr13 hr13 (Sr_readEvent_dc.at 52 rfl)
theorem Sr_readEvent_w (E : zEv p m c cX6_readEvent 2 s args RX6 meth (some .boolean) G) {res : (zM × Int)} {M : zM} {a0 : Int} {H : Heap} {locs : List Loc} {ls : Array Slot} (ha0 : InR a0) (S : zS G top L M s H locs) (hl : zLV ls 2 [some (zR G.2.2.1 a0), none]) (h : Sr_readEvent fu L M a0 = some res) : W p l e (zrm 8 0 0) s m args below meth c H locs 0 0 (MQ below (zQ G top L res.1 (some (.int (zO res.2))) (0 ≤ res.2 ∧ res.2 ≤ 1)) args s 0 0 (zA G)) (F0 m 0 ls []) := by
  unfold Sr_readEvent at h
  refine u_al_n (x := a0) E (Sr_readEvent_dc.at 0 rfl) hl rfl ?_
  obtain ⟨g1, h⟩ := ite_e h
  refine u_gI E zf_6_3 S g1 zw_1_164 (Sr_readEvent_dc.at 1 rfl) ?_
  refine r_bipush E (Sr_readEvent_dc.at 2 rfl) rfl ?_
  refine r_icmp_lt (tgt := 11) E (S.1.inR _ _) (show InR 30 by decide) (Sr_readEvent_dc.at 3 rfl) (by decide) (fun q => ?_) (fun q => ?_)
  · have h := ite_t h q
    refine u_al_n (x := a0) E (Sr_readEvent_dc.at 6 rfl) hl rfl ?_
    refine u_gR E zf_6_0 S g1 zw_1_161 (Sr_readEvent_dc.at 7 rfl) ?_
    refine r_ldcS (j := 12) E (Sr_readEvent_dc.at 8 rfl) rfl ?_
    obtain ⟨g2, h⟩ := ite_e h
    obtain ⟨r3, er3, h⟩ := bd1_e h
    refine u_cVI (As := [.ref (G.2.2.2.1 12)]) (rest := []) E S zcw_yX7_isWord zw_3_14 zw_3_15 zw_3_178 zck_7.1 rfl g2 (Tp_isWord_c l G fu top L M (M a0 0) 12 (S.1.inR _ _) er3) (zrm_ok (by decide) (by decide)) ⟨Nat.le_refl 0, Nat.le_refl 0⟩ rfl (Nat.zero_le 8) hl.size rfl (Sr_readEvent_dc.at 9 rfl) (fun H locs hr3 S4 => ?_)
    refine r_if_eq (tgt := 35) E (inR_01 hr3) (Sr_readEvent_dc.at 10 rfl) (by decide) (fun q => ?_) (fun q => ?_)
    · have h := ite_t h q
      refine u_al_n (x := a0) E (Sr_readEvent_dc.at 17 rfl) hl rfl ?_
      refine u_gR E zf_6_0 S4 g1 zw_1_161 (Sr_readEvent_dc.at 18 rfl) ?_
      obtain ⟨r5, er5, h⟩ := bd1_e h
      refine u_cVI (As := []) (rest := []) E S4 zcw_yX7_lifeNamed zw_3_113 zw_3_114 zw_3_189 zck_7.1 rfl g2 (Tp_lifeNamed_c l G fu top L M (M a0 0) (S4.1.inR _ _) er5) (zrm_ok (by decide) (by decide)) ⟨Nat.le_refl 0, Nat.le_refl 0⟩ rfl (Nat.zero_le 8) hl.size rfl (Sr_readEvent_dc.at 19 rfl) (fun H locs hr5 S6 => ?_)
      refine u_ist_n (y := r5) (vs' := [some (zR G.2.2.1 a0), some (.int (zO r5))]) E rfl (Sr_readEvent_dc.at 20 rfl) hl (by decide) rfl (fun ls hl => ?_)
      refine u_al_n (x := a0) E (Sr_readEvent_dc.at 21 rfl) hl rfl ?_
      refine u_gR E zf_6_0 S6 g1 zw_1_161 (Sr_readEvent_dc.at 22 rfl) ?_
      refine r_ldcS (j := 13) E (Sr_readEvent_dc.at 23 rfl) rfl ?_
      obtain ⟨r7, er7, h⟩ := bd1_e h
      refine u_cVI (As := [.ref (G.2.2.2.1 13)]) (rest := []) E S6 zcw_yX7_isWord zw_3_14 zw_3_15 zw_3_178 zck_7.1 rfl g2 (Tp_isWord_c l G fu top L M (M a0 0) 13 (S6.1.inR _ _) er7) (zrm_ok (by decide) (by decide)) ⟨Nat.le_refl 0, Nat.le_refl 0⟩ rfl (Nat.zero_le 8) hl.size rfl (Sr_readEvent_dc.at 24 rfl) (fun H locs hr7 S8 => ?_)
      refine r_if_eq (tgt := 87) E (inR_01 hr7) (Sr_readEvent_dc.at 25 rfl) (by decide) (fun q => ?_) (fun q => ?_)
      · have h := ite_t h q
        exact Sr_readEvent_b87_w (x0 := a0) (x1 := r5)  E ha0 hr5 S8 (hl.sub (And.intro rfl (And.intro rfl True.intro))) h
      · have h := ite_f h q
        refine u_al_n (x := a0) E (Sr_readEvent_dc.at 26 rfl) hl rfl ?_
        refine u_gR E zf_6_0 S8 g1 zw_1_161 (Sr_readEvent_dc.at 27 rfl) ?_
        obtain ⟨M16, eM16, h⟩ := bd1_e h
        refine u_cVU (As := []) (rest := []) E S8 zcw_yX7_advance zw_2_206 zw_2_207 zw_3_179 zck_7.1 rfl g2 (Tp_advance_c l G fu top L M (M a0 0) (S8.1.inR _ _) eM16) (zrm_ok (by decide) (by decide)) ⟨Nat.le_refl 0, Nat.le_refl 0⟩ rfl (Nat.zero_le 8) hl.size rfl (Sr_readEvent_dc.at 28 rfl) (fun H locs _ S17 => ?_)
        refine u_al_n (x := a0) E (Sr_readEvent_dc.at 29 rfl) hl rfl ?_
        refine u_gR E zf_6_0 S17 g1 zw_1_161 (Sr_readEvent_dc.at 30 rfl) ?_
        refine r_iconst E (Sr_readEvent_dc.at 31 rfl) ?_
        refine r_bipush E (Sr_readEvent_dc.at 32 rfl) rfl ?_
        obtain ⟨g18, h⟩ := ite_e h
        obtain ⟨r19, er19, h⟩ := bd1_e h
        refine u_cVI (As := [.int (zO 0), .int (zO 23)]) (rest := []) E S17 zcw_yX7_isNumber zw_3_9 zw_3_10 zw_3_184 zck_7.1 rfl g18 (Tp_isNumber_c l G fu top L M16 (M16 a0 0) 0 23 (S17.1.inR _ _) (show InR 0 by decide) (show InR 23 by decide) er19) (zrm_ok (by decide) (by decide)) ⟨Nat.le_refl 0, Nat.le_refl 0⟩ rfl (Nat.zero_le 8) hl.size rfl (Sr_readEvent_dc.at 33 rfl) (fun H locs hr19 S20 => ?_)
        refine r_if_eq (tgt := 85) E (inR_01 hr19) (Sr_readEvent_dc.at 34 rfl) (by decide) (fun q => ?_) (fun q => ?_)
        · have h := ite_t h q
          refine r_iconst E (Sr_readEvent_dc.at 39 rfl) ?_
          refine u_ist_n (y := (-1)) (vs' := [some (zR G.2.2.1 a0), some (.int (zO (-1)))]) E rfl (Sr_readEvent_dc.at 40 rfl) hl (by decide) rfl (fun ls hl => ?_)
          exact Sr_readEvent_b87_w (x0 := a0) (x1 := (-1))  E ha0 (show InR (-1) by decide) S20 (hl.sub (And.intro rfl (And.intro rfl True.intro))) h
        · have h := ite_f h q
          refine u_al_n (x := a0) E (Sr_readEvent_dc.at 35 rfl) hl rfl ?_
          refine u_gR E zf_6_0 S20 g1 zw_1_161 (Sr_readEvent_dc.at 36 rfl) ?_
          refine u_gI E zf_7_7 S20 g18 zw_1_54 (Sr_readEvent_dc.at 37 rfl) ?_
          refine r_goto (tgt := 86) E (Sr_readEvent_dc.at 38 rfl) (by decide) ?_
          obtain ⟨v21, ev21, h⟩ := lt1_e h
          have hv21 := inR_eq ev21 (S20.1.inR _ _)
          refine u_ist_n (y := v21) (vs' := [some (zR G.2.2.1 a0), some (.int (zO v21))]) E ev21 (Sr_readEvent_dc.at 40 rfl) hl (by decide) rfl (fun ls hl => ?_)
          exact Sr_readEvent_b87_w (x0 := a0) (x1 := v21)  E ha0 hv21 S20 (hl.sub (And.intro rfl (And.intro rfl True.intro))) h
    · have h := ite_f h q
      refine u_al_n (x := a0) E (Sr_readEvent_dc.at 11 rfl) hl rfl ?_
      refine u_gR E zf_6_0 S4 g1 zw_1_161 (Sr_readEvent_dc.at 12 rfl) ?_
      obtain ⟨M22, eM22, h⟩ := bd1_e h
      refine u_cVU (As := []) (rest := []) E S4 zcw_yX7_advance zw_2_206 zw_2_207 zw_3_179 zck_7.1 rfl g2 (Tp_advance_c l G fu top L M (M a0 0) (S4.1.inR _ _) eM22) (zrm_ok (by decide) (by decide)) ⟨Nat.le_refl 0, Nat.le_refl 0⟩ rfl (Nat.zero_le 8) hl.size rfl (Sr_readEvent_dc.at 13 rfl) (fun H locs _ S23 => ?_)
      refine u_al_n (x := a0) E (Sr_readEvent_dc.at 14 rfl) hl rfl ?_
      obtain ⟨M25, r24, er24, h⟩ := bd2_e h
      refine u_cVI (As := []) (rest := []) E S23 zcw_yX6_readYear zw_3_182 zq_2_8 zw_3_180 zck_6.1 rfl g1 (Sr_readYear_c l G fu top L M22 a0 ha0 er24) (zrm_ok (by decide) (by decide)) ⟨Nat.le_refl 0, Nat.le_refl 0⟩ rfl (Nat.zero_le 8) hl.size rfl (Sr_readEvent_dc.at 15 rfl) (fun H locs hr24 S26 => ?_)
      cases h
      exact r_zret E S26 hr24 hr24 (Sr_readEvent_dc.at 16 rfl)
  · have h := ite_f h q
    refine r_iconst E (Sr_readEvent_dc.at 4 rfl) ?_
    cases h
    exact r_zret E S z01_0 z01_0 (Sr_readEvent_dc.at 5 rfl)
theorem Sr_readEvent_c (l : Launch) (G : zG) (fu : Nat) (top : Int) (L : zL) (M : zM) (a0 : Int) {res : (zM × Int)} (ha0 : InR a0) (h : Sr_readEvent fu L M a0 = some res) : Met l yX6_readEvent (Cond.code yX6_readEvent cX6_readEvent 2 (some .boolean) :: zTB) (zrm 8 0 0) (va_Pc [zR G.2.2.1 a0] (zPre G top L M)) (zQ G top L res.1 (some (.int (zO res.2))) (0 ≤ res.2 ∧ res.2 ≤ 1)) 0 0 (zA G) :=
  z_met (by decide +kernel) (by simp [zR_cat, zcat_I, zcat_S]) (Nat.le_of_ble_eq_true rfl) fun p e s m below meth c ls E hn S hl => Sr_readEvent_w E ha0 S (hl.sub (And.intro rfl True.intro)) h
end
theorem Sr_read_dc : zDL cX6_read [(0, .aload_n 0, 1, 1), (1, .iconst 0, 1, 2), (2, .putfield 22, 3, 5), (5, .aload_n 0, 1, 6), (6, .iconst 0, 1, 7), (7, .putfield 26, 3, 10), (10, .aload_n 0, 1, 11), (11, .getfield 18, 3, 14), (14, .invokevirtual 29, 3, 17), (17, .iconst 0, 1, 18), (18, .istore_n 1, 1, 19), (19, .iload_n 1, 1, 20), (20, .bipush 30, 2, 22), (22, .if_icmp .gt 63, 3, 25), (25, .aload_n 0, 1, 26), (26, .invokevirtual 34, 3, 29), (29, .ifCond .ne 11, 3, 32), (32, .aload_n 0, 1, 33), (33, .getfield 18, 3, 36), (36, .getfield 38, 3, 39), (39, .ireturn, 1, 40), (40, .aload_n 0, 1, 41), (41, .getfield 18, 3, 44), (44, .invokevirtual 41, 3, 47), (47, .ifCond .eq 5, 3, 50), (50, .iconst (-1), 1, 51), (51, .ireturn, 1, 52), (52, .aload_n 0, 1, 53), (53, .getfield 18, 3, 56), (56, .bipush 59, 2, 58), (58, .invokevirtual 44, 3, 61), (61, .ifCond .ne 11, 3, 64), (64, .aload_n 0, 1, 65), (65, .getfield 18, 3, 68), (68, .getfield 38, 3, 71), (71, .ireturn, 1, 72), (72, .aload_n 0, 1, 73), (73, .getfield 18, 3, 76), (76, .invokevirtual 48, 3, 79), (79, .iinc 1 1, 3, 82), (82, .goto (-63), 3, 85), (85, .aload_n 0, 1, 86), (86, .getfield 18, 3, 89), (89, .getfield 38, 3, 92), (92, .ireturn, 1, 93)] := zDL.of (by decide +kernel)
section
variable {p : Program} {l : Launch} {e : Env} {s : State} {m : MethodId} {args : Array Value} {below : List Frame} {meth : Method} {c : Code} {G : zG} {top : Int} {L : zL} {fu : Nat}
theorem Sr_read_s19_w (E : zEv p m c cX6_read 2 s args RX6 meth (some .int) G) {res : (zM × Int)} {k19 : zM → Int → Int → Option (zM × Int)} (hk19 : ∀ (M : zM) (x0 : Int) (x1 : Int), InR x0 → InR x1 → ∀ (H : Heap) (locs : List Loc) (ls : Array Slot), zS G top L M s H locs → zLV ls 2 [some (zR G.2.2.1 x0), some (.int (zO x1))] → k19 M x0 x1 = some res → W p l e (zrm 9 0 0) s m args below meth c H locs 0 0 (MQ below (zQ G top L res.1 (some (.int (zO res.2))) (InR res.2)) args s 0 0 (zA G)) (F0 m 19 ls [])) {M : zM} {x0 : Int} {x1 : Int} {H : Heap} {locs : List Loc} {ls : Array Slot} (hx0 : InR x0) (hx1 : InR x1) (S : zS G top L M s H locs) (hl : zLV ls 2 [some (zR G.2.2.1 x0), some (.int (zO x1))]) (h : Sr_read_s19 fu k19 L M x0 x1 = some res) : W p l e (zrm 9 0 0) s m args below meth c H locs 0 0 (MQ below (zQ G top L res.1 (some (.int (zO res.2))) (InR res.2)) args s 0 0 (zA G)) (F0 m 19 ls []) := by
  unfold Sr_read_s19 at h
  refine u_il_n (x := x1) E (Sr_read_dc.at 11 rfl) hl rfl ?_
  refine r_bipush E (Sr_read_dc.at 12 rfl) rfl ?_
  refine r_icmp_gt (tgt := 85) E hx1 (show InR 30 by decide) (Sr_read_dc.at 13 rfl) (by decide) (fun q => ?_) (fun q => ?_)
  · have h := ite_t h q
    refine u_al_n (x := x0) E (Sr_read_dc.at 41 rfl) hl rfl ?_
    obtain ⟨g9, h⟩ := ite_e h
    refine u_gR E zf_6_0 S g9 zw_1_161 (Sr_read_dc.at 42 rfl) ?_
    obtain ⟨g10, h⟩ := ite_e h
    refine u_gI E zf_7_5 S g10 zw_1_48 (Sr_read_dc.at 43 rfl) ?_
    cases h
    exact r_iret E S (S.1.inR _ _) (Sr_read_dc.at 44 rfl)
  · have h := ite_f h q
    refine u_al_n (x := x0) E (Sr_read_dc.at 14 rfl) hl rfl ?_
    obtain ⟨g11, h⟩ := ite_e h
    obtain ⟨M13, r12, er12, h⟩ := bd2_e h
    refine u_cVI (As := []) (rest := []) E S zcw_yX6_readEvent zw_3_175 zq_2_7 zw_3_173 zck_6.1 rfl g11 (Sr_readEvent_c l G fu top L M x0 hx0 er12) (zrm_ok (by decide) (by decide)) ⟨Nat.le_refl 0, Nat.le_refl 0⟩ rfl (Nat.zero_le 8) hl.size rfl (Sr_read_dc.at 15 rfl) (fun H locs hr12 S14 => ?_)
    refine r_if_ne (tgt := 40) E (inR_01 hr12) (Sr_read_dc.at 16 rfl) (by decide) (fun q => ?_) (fun q => ?_)
    · have h := ite_t h q
      refine u_al_n (x := x0) E (Sr_read_dc.at 17 rfl) hl rfl ?_
      refine u_gR E zf_6_0 S14 g11 zw_1_161 (Sr_read_dc.at 18 rfl) ?_
      obtain ⟨g15, h⟩ := ite_e h
      refine u_gI E zf_7_5 S14 g15 zw_1_48 (Sr_read_dc.at 19 rfl) ?_
      cases h
      exact r_iret E S14 (S14.1.inR _ _) (Sr_read_dc.at 20 rfl)
    · have h := ite_f h q
      refine u_al_n (x := x0) E (Sr_read_dc.at 21 rfl) hl rfl ?_
      refine u_gR E zf_6_0 S14 g11 zw_1_161 (Sr_read_dc.at 22 rfl) ?_
      obtain ⟨g16, h⟩ := ite_e h
      obtain ⟨r17, er17, h⟩ := bd1_e h
      refine u_cVI (As := []) (rest := []) E S14 zcw_yX7_isOver zw_3_74 zw_3_75 zw_3_197 zck_7.1 rfl g16 (Tp_isOver_c l G fu top L M13 (M13 x0 0) (S14.1.inR _ _) er17) (zrm_ok (by decide) (by decide)) ⟨Nat.le_refl 0, Nat.le_refl 0⟩ rfl (Nat.zero_le 8) hl.size rfl (Sr_read_dc.at 23 rfl) (fun H locs hr17 S18 => ?_)
      refine r_if_eq (tgt := 52) E (inR_01 hr17) (Sr_read_dc.at 24 rfl) (by decide) (fun q => ?_) (fun q => ?_)
      · have h := ite_t h q
        refine u_al_n (x := x0) E (Sr_read_dc.at 27 rfl) hl rfl ?_
        refine u_gR E zf_6_0 S18 g11 zw_1_161 (Sr_read_dc.at 28 rfl) ?_
        refine r_bipush E (Sr_read_dc.at 29 rfl) rfl ?_
        obtain ⟨r19, er19, h⟩ := bd1_e h
        refine u_cVI (As := [.int (zO 59)]) (rest := []) E S18 zcw_yX7_isSign zw_3_78 zw_3_79 zw_3_198 zck_7.1 rfl g16 (Tp_isSign_c l G fu top L M13 (M13 x0 0) 59 (S18.1.inR _ _) (show InR 59 by decide) er19) (zrm_ok (by decide) (by decide)) ⟨Nat.le_refl 0, Nat.le_refl 0⟩ rfl (Nat.zero_le 8) hl.size rfl (Sr_read_dc.at 30 rfl) (fun H locs hr19 S20 => ?_)
        refine r_if_ne (tgt := 72) E (inR_01 hr19) (Sr_read_dc.at 31 rfl) (by decide) (fun q => ?_) (fun q => ?_)
        · have h := ite_t h q
          refine u_al_n (x := x0) E (Sr_read_dc.at 32 rfl) hl rfl ?_
          refine u_gR E zf_6_0 S20 g11 zw_1_161 (Sr_read_dc.at 33 rfl) ?_
          refine u_gI E zf_7_5 S20 g16 zw_1_48 (Sr_read_dc.at 34 rfl) ?_
          cases h
          exact r_iret E S20 (S20.1.inR _ _) (Sr_read_dc.at 35 rfl)
        · have h := ite_f h q
          refine u_al_n (x := x0) E (Sr_read_dc.at 36 rfl) hl rfl ?_
          refine u_gR E zf_6_0 S20 g11 zw_1_161 (Sr_read_dc.at 37 rfl) ?_
          obtain ⟨M21, eM21, h⟩ := bd1_e h
          refine u_cVU (As := []) (rest := []) E S20 zcw_yX7_advance zw_2_206 zw_2_207 zw_3_179 zck_7.1 rfl g16 (Tp_advance_c l G fu top L M13 (M13 x0 0) (S20.1.inR _ _) eM21) (zrm_ok (by decide) (by decide)) ⟨Nat.le_refl 0, Nat.le_refl 0⟩ rfl (Nat.zero_le 8) hl.size rfl (Sr_read_dc.at 38 rfl) (fun H locs _ S22 => ?_)
          obtain ⟨v23, ev23, h⟩ := lt1_e h
          have hv23 := inR_eq ev23 (inR_w32 _)
          refine u_iinc (y := v23) (vs' := [some (zR G.2.2.1 x0), some (.int (zO v23))]) E ev23 (Sr_read_dc.at 39 rfl) hl rfl (by decide) rfl (fun ls hl => ?_)
          refine r_goto (tgt := 19) E (Sr_read_dc.at 40 rfl) (by decide) ?_
          exact hk19 _ x0 v23 hx0 hv23 _ _ _ S22 (hl.sub (And.intro rfl (And.intro rfl True.intro))) h
      · have h := ite_f h q
        refine r_iconst E (Sr_read_dc.at 25 rfl) ?_
        cases h
        exact r_iret E S18 (show InR (-1) by decide) (Sr_read_dc.at 26 rfl)
theorem Sr_read_l19_w (E : zEv p m c cX6_read 2 s args RX6 meth (some .int) G) {res : (zM × Int)} : ∀ (n : Nat) (M : zM) (x0 : Int) (x1 : Int), InR x0 → InR x1 → ∀ (H : Heap) (locs : List Loc) (ls : Array Slot), zS G top L M s H locs → zLV ls 2 [some (zR G.2.2.1 x0), some (.int (zO x1))] → Sr_read_l19 fu L n M x0 x1 = some res → W p l e (zrm 9 0 0) s m args below meth c H locs 0 0 (MQ below (zQ G top L res.1 (some (.int (zO res.2))) (InR res.2)) args s 0 0 (zA G)) (F0 m 19 ls [])
  | 0, _, _, _ => fun _ _ _ _ _ _ _ h => (by cases h)
  | n + 1, M, x0, x1 => fun hx0 hx1 H locs ls S hl h => Sr_read_s19_w E (fun M x0 x1 hx0 hx1 H locs ls S hl h => Sr_read_l19_w E n M x0 x1 hx0 hx1 H locs ls S hl h) hx0 hx1 S hl h
theorem Sr_read_w (E : zEv p m c cX6_read 2 s args RX6 meth (some .int) G) {res : (zM × Int)} {M : zM} {a0 : Int} {H : Heap} {locs : List Loc} {ls : Array Slot} (ha0 : InR a0) (S : zS G top L M s H locs) (hl : zLV ls 2 [some (zR G.2.2.1 a0), none]) (h : Sr_read fu L M a0 = some res) : W p l e (zrm 9 0 0) s m args below meth c H locs 0 0 (MQ below (zQ G top L res.1 (some (.int (zO res.2))) (InR res.2)) args s 0 0 (zA G)) (F0 m 0 ls []) := by
  unfold Sr_read at h
  refine u_al_n (x := a0) E (Sr_read_dc.at 0 rfl) hl rfl ?_
  refine r_iconst E (Sr_read_dc.at 1 rfl) ?_
  obtain ⟨g1, h⟩ := ite_e h
  obtain ⟨M2, eM2, h⟩ := lt1_e h
  refine u_pI E eM2 zf_6_3 S g1 (show InR 0 by decide) (Or.inl rfl) rfl zw_1_164 (Sr_read_dc.at 2 rfl) (fun H locs S3 => ?_)
  refine u_al_n (x := a0) E (Sr_read_dc.at 3 rfl) hl rfl ?_
  refine r_iconst E (Sr_read_dc.at 4 rfl) ?_
  obtain ⟨M4, eM4, h⟩ := lt1_e h
  refine u_pI E eM4 zf_6_4 S3 g1 (show InR 0 by decide) (Or.inl rfl) rfl zw_1_166 (Sr_read_dc.at 5 rfl) (fun H locs S5 => ?_)
  refine u_al_n (x := a0) E (Sr_read_dc.at 6 rfl) hl rfl ?_
  refine u_gR E zf_6_0 S5 g1 zw_1_161 (Sr_read_dc.at 7 rfl) ?_
  obtain ⟨g6, h⟩ := ite_e h
  obtain ⟨M7, eM7, h⟩ := bd1_e h
  refine u_cVU (As := []) (rest := []) E S5 zcw_yX7_restart zw_2_202 zw_2_203 zw_3_172 zck_7.1 rfl g6 (Tp_restart_c l G fu top L M4 (M4 a0 0) (S5.1.inR _ _) eM7) (zrm_ok (by decide) (by decide)) ⟨Nat.le_refl 0, Nat.le_refl 0⟩ rfl (Nat.zero_le 8) hl.size rfl (Sr_read_dc.at 8 rfl) (fun H locs _ S8 => ?_)
  refine r_iconst E (Sr_read_dc.at 9 rfl) ?_
  refine u_ist_n (y := 0) (vs' := [some (zR G.2.2.1 a0), some (.int (zO 0))]) E rfl (Sr_read_dc.at 10 rfl) hl (by decide) rfl (fun ls hl => ?_)
  exact Sr_read_l19_w E fu _ a0 0 ha0 (show InR 0 by decide) _ _ _ S8 (hl.sub (And.intro rfl (And.intro rfl True.intro))) h
theorem Sr_read_c (l : Launch) (G : zG) (fu : Nat) (top : Int) (L : zL) (M : zM) (a0 : Int) {res : (zM × Int)} (ha0 : InR a0) (h : Sr_read fu L M a0 = some res) : Met l yX6_read (Cond.code yX6_read cX6_read 2 (some .int) :: zTB) (zrm 9 0 0) (va_Pc [zR G.2.2.1 a0] (zPre G top L M)) (zQ G top L res.1 (some (.int (zO res.2))) (InR res.2)) 0 0 (zA G) :=
  z_met (by decide +kernel) (by simp [zR_cat, zcat_I, zcat_S]) (Nat.le_of_ble_eq_true rfl) fun p e s m below meth c ls E hn S hl => Sr_read_w E ha0 S (hl.sub (And.intro rfl True.intro)) h
end
theorem Lx_fault_dc : zDL cX11_fault [(0, .iload_n 1, 1, 1), (1, .ifCond .ne 11, 3, 4), (4, .aload_n 0, 1, 5), (5, .getfield 21, 3, 8), (8, .invokevirtual 101, 3, 11), (11, .ireturn, 1, 12), (12, .aload_n 0, 1, 13), (13, .getfield 105, 3, 16), (16, .ifCond .eq 12, 3, 19), (19, .iload_n 1, 1, 20), (20, .ifCond .lt 8, 3, 23), (23, .iload_n 1, 1, 24), (24, .iconst 2, 1, 25), (25, .if_icmp .le 6, 3, 28), (28, .bipush (-2), 2, 30), (30, .ireturn, 1, 31), (31, .iload_n 1, 1, 32), (32, .iconst 1, 1, 33), (33, .if_icmp .ne 13, 3, 36), (36, .aload_n 0, 1, 37), (37, .getfield 28, 3, 40), (40, .invokevirtual 109, 3, 43), (43, .goto 10, 3, 46), (46, .aload_n 0, 1, 47), (47, .getfield 35, 3, 50), (50, .invokevirtual 110, 3, 53), (53, .ireturn, 1, 54)] := zDL.of (by decide +kernel)
section
variable {p : Program} {l : Launch} {e : Env} {s : State} {m : MethodId} {args : Array Value} {below : List Frame} {meth : Method} {c : Code} {G : zG} {top : Int} {L : zL} {fu : Nat}
theorem Lx_fault_w (E : zEv p m c cX11_fault 2 s args RX11 meth (some .int) G) {res : (zM × Int)} {M : zM} {a0 : Int} {a1 : Int} {H : Heap} {locs : List Loc} {ls : Array Slot} (ha0 : InR a0) (ha1 : InR a1) (S : zS G top L M s H locs) (hl : zLV ls 2 [some (zR G.2.2.1 a0), some (.int (zO a1))]) (h : Lx_fault fu L M a0 a1 = some res) : W p l e (zrm 51 0 0) s m args below meth c H locs 0 0 (MQ below (zQ G top L res.1 (some (.int (zO res.2))) (InR res.2)) args s 0 0 (zA G)) (F0 m 0 ls []) := by
  unfold Lx_fault at h
  refine u_il_n (x := a1) E (Lx_fault_dc.at 0 rfl) hl rfl ?_
  refine r_if_ne (tgt := 12) E ha1 (Lx_fault_dc.at 1 rfl) (by decide) (fun q => ?_) (fun q => ?_)
  · have h := ite_t h q
    refine u_al_n (x := a0) E (Lx_fault_dc.at 2 rfl) hl rfl ?_
    obtain ⟨g1, h⟩ := ite_e h
    refine u_gR E zf_11_1 S g1 zw_2_133 (Lx_fault_dc.at 3 rfl) ?_
    obtain ⟨g2, h⟩ := ite_e h
    obtain ⟨M4, r3, er3, h⟩ := bd2_e h
    refine u_cVI (As := []) (rest := []) E S zcw_yX2_read zw_2_198 zw_2_199 zw_2_197 zck_2.1 rfl g2 (Fr_read_c l G fu top L M (M a0 1) (S.1.inR _ _) er3) (zrm_ok (by decide) (by decide)) ⟨Nat.le_refl 0, Nat.le_refl 0⟩ rfl (Nat.zero_le 8) hl.size rfl (Lx_fault_dc.at 4 rfl) (fun H locs hr3 S5 => ?_)
    cases h
    exact r_iret E S5 hr3 (Lx_fault_dc.at 5 rfl)
  · have h := ite_f h q
    refine u_al_n (x := a0) E (Lx_fault_dc.at 6 rfl) hl rfl ?_
    obtain ⟨g6, h⟩ := ite_e h
    refine u_gI E zf_11_11 S g6 zw_2_143 (Lx_fault_dc.at 7 rfl) ?_
    refine r_if_eq (tgt := 28) E (S.1.inR _ _) (Lx_fault_dc.at 8 rfl) (by decide) (fun q => ?_) (fun q => ?_)
    · have h := ite_t h q
      refine r_bipush E (Lx_fault_dc.at 14 rfl) rfl ?_
      cases h
      exact r_iret E S (show InR (-2) by decide) (Lx_fault_dc.at 15 rfl)
    · have h := ite_f h q
      refine u_il_n (x := a1) E (Lx_fault_dc.at 9 rfl) hl rfl ?_
      refine r_if_lt (tgt := 28) E ha1 (Lx_fault_dc.at 10 rfl) (by decide) (fun q => ?_) (fun q => ?_)
      · have h := ite_t h q
        refine r_bipush E (Lx_fault_dc.at 14 rfl) rfl ?_
        cases h
        exact r_iret E S (show InR (-2) by decide) (Lx_fault_dc.at 15 rfl)
      · have h := ite_f h q
        refine u_il_n (x := a1) E (Lx_fault_dc.at 11 rfl) hl rfl ?_
        refine r_iconst E (Lx_fault_dc.at 12 rfl) ?_
        refine r_icmp_le (tgt := 31) E ha1 (show InR 2 by decide) (Lx_fault_dc.at 13 rfl) (by decide) (fun q => ?_) (fun q => ?_)
        · have h := ite_t h q
          refine r_bipush E (Lx_fault_dc.at 14 rfl) rfl ?_
          cases h
          exact r_iret E S (show InR (-2) by decide) (Lx_fault_dc.at 15 rfl)
        · have h := ite_f h q
          refine u_il_n (x := a1) E (Lx_fault_dc.at 16 rfl) hl rfl ?_
          refine r_iconst E (Lx_fault_dc.at 17 rfl) ?_
          refine r_icmp_ne (tgt := 46) E ha1 (show InR 1 by decide) (Lx_fault_dc.at 18 rfl) (by decide) (fun q => ?_) (fun q => ?_)
          · have h := ite_t h q
            refine u_al_n (x := a0) E (Lx_fault_dc.at 19 rfl) hl rfl ?_
            refine u_gR E zf_11_2 S g6 zw_2_134 (Lx_fault_dc.at 20 rfl) ?_
            obtain ⟨g7, h⟩ := ite_e h
            obtain ⟨M9, r8, er8, h⟩ := bd2_e h
            refine u_cVI (As := []) (rest := []) E S zcw_yX4_read zw_3_82 zw_3_83 zw_3_81 zck_4.1 rfl g7 (Gr_read_c l G fu top L M (M a0 2) (S.1.inR _ _) er8) (zrm_ok (by decide) (by decide)) ⟨Nat.le_refl 0, Nat.le_refl 0⟩ rfl (Nat.zero_le 8) hl.size rfl (Lx_fault_dc.at 21 rfl) (fun H locs hr8 S10 => ?_)
            refine r_goto (tgt := 53) E (Lx_fault_dc.at 22 rfl) (by decide) ?_
            cases h
            exact r_iret E S10 hr8 (Lx_fault_dc.at 26 rfl)
          · have h := ite_f h q
            refine u_al_n (x := a0) E (Lx_fault_dc.at 23 rfl) hl rfl ?_
            refine u_gR E zf_11_3 S g6 zw_2_135 (Lx_fault_dc.at 24 rfl) ?_
            obtain ⟨g11, h⟩ := ite_e h
            obtain ⟨M13, r12, er12, h⟩ := bd2_e h
            refine u_cVI (As := []) (rest := []) E S zcw_yX6_read zw_3_169 zw_3_170 zw_3_168 zck_6.1 rfl g11 (Sr_read_c l G fu top L M (M a0 3) (S.1.inR _ _) er12) (zrm_ok (by decide) (by decide)) ⟨Nat.le_refl 0, Nat.le_refl 0⟩ rfl (Nat.zero_le 8) hl.size rfl (Lx_fault_dc.at 25 rfl) (fun H locs hr12 S14 => ?_)
            cases h
            exact r_iret E S14 hr12 (Lx_fault_dc.at 26 rfl)
theorem Lx_fault_c (l : Launch) (G : zG) (fu : Nat) (top : Int) (L : zL) (M : zM) (a0 : Int) (a1 : Int) {res : (zM × Int)} (ha0 : InR a0) (ha1 : InR a1) (h : Lx_fault fu L M a0 a1 = some res) : Met l yX11_fault (Cond.code yX11_fault cX11_fault 2 (some .int) :: zTB) (zrm 51 0 0) (va_Pc [zR G.2.2.1 a0, .int (zO a1)] (zPre G top L M)) (zQ G top L res.1 (some (.int (zO res.2))) (InR res.2)) 0 0 (zA G) :=
  z_met (by decide +kernel) (by simp [zR_cat, zcat_I, zcat_S]) (Nat.le_of_ble_eq_true rfl) fun p e s m below meth c ls E hn S hl => Lx_fault_w E ha0 ha1 S (hl.sub (And.intro rfl (And.intro rfl True.intro))) h
end
theorem Wd_clear_dc : zDL cX10_clear [(0, .aload_n 0, 1, 1), (1, .iconst 0, 1, 2), (2, .putfield 21, 3, 5), (5, .aload_n 0, 1, 6), (6, .iconst 0, 1, 7), (7, .putfield 25, 3, 10), (10, .aload_n 0, 1, 11), (11, .iconst 0, 1, 12), (12, .putfield 28, 3, 15), (15, .return_, 1, 16)] := zDL.of (by decide +kernel)
section
variable {p : Program} {l : Launch} {e : Env} {s : State} {m : MethodId} {args : Array Value} {below : List Frame} {meth : Method} {c : Code} {G : zG} {top : Int} {L : zL} {fu : Nat}
theorem Wd_clear_w (E : zEv p m c cX10_clear 1 s args RX10 meth none G) {res : zM} {M : zM} {a0 : Int} {H : Heap} {locs : List Loc} {ls : Array Slot} (ha0 : InR a0) (S : zS G top L M s H locs) (hl : zLV ls 1 [some (zR G.2.2.1 a0)]) (h : Wd_clear fu L M a0 = some res) : W p l e (zrm 1 0 0) s m args below meth c H locs 0 0 (MQ below (zQ G top L res none True) args s 0 0 (zA G)) (F0 m 0 ls []) := by
  unfold Wd_clear at h
  refine u_al_n (x := a0) E (Wd_clear_dc.at 0 rfl) hl rfl ?_
  refine r_iconst E (Wd_clear_dc.at 1 rfl) ?_
  obtain ⟨g1, h⟩ := ite_e h
  obtain ⟨M2, eM2, h⟩ := lt1_e h
  refine u_pI E eM2 zf_10_3 S g1 (show InR 0 by decide) (Or.inl rfl) rfl zw_1_193 (Wd_clear_dc.at 2 rfl) (fun H locs S3 => ?_)
  refine u_al_n (x := a0) E (Wd_clear_dc.at 3 rfl) hl rfl ?_
  refine r_iconst E (Wd_clear_dc.at 4 rfl) ?_
  obtain ⟨M4, eM4, h⟩ := lt1_e h
  refine u_pI E eM4 zf_10_4 S3 g1 (show InR 0 by decide) (Or.inl rfl) rfl zw_1_197 (Wd_clear_dc.at 5 rfl) (fun H locs S5 => ?_)
  refine u_al_n (x := a0) E (Wd_clear_dc.at 6 rfl) hl rfl ?_
  refine r_iconst E (Wd_clear_dc.at 7 rfl) ?_
  obtain ⟨M6, eM6, h⟩ := lt1_e h
  refine u_pI E eM6 zf_10_5 S5 g1 (show InR 0 by decide) (Or.inl rfl) rfl zw_1_199 (Wd_clear_dc.at 8 rfl) (fun H locs S7 => ?_)
  cases h
  exact r_vret E S7 True.intro (Wd_clear_dc.at 9 rfl)
theorem Wd_clear_c (l : Launch) (G : zG) (fu : Nat) (top : Int) (L : zL) (M : zM) (a0 : Int) {res : zM} (ha0 : InR a0) (h : Wd_clear fu L M a0 = some res) : Met l yX10_clear (Cond.code yX10_clear cX10_clear 1 none :: zTB) (zrm 1 0 0) (va_Pc [zR G.2.2.1 a0] (zPre G top L M)) (zQ G top L res none True) 0 0 (zA G) :=
  z_met (by decide +kernel) (by simp [zR_cat, zcat_I, zcat_S]) (Nat.le_of_ble_eq_true rfl) fun p e s m below meth c ls E hn S hl => Wd_clear_w E ha0 S (hl.sub (And.intro rfl True.intro)) h
end
theorem Af_clear_dc : zDL cX1_clear [(0, .aload_n 0, 1, 1), (1, .getfield 12, 3, 4), (4, .invokevirtual 24, 3, 7), (7, .aload_n 0, 1, 8), (8, .iconst 0, 1, 9), (9, .putfield 27, 3, 12), (12, .aload_n 0, 1, 13), (13, .bipush 21, 2, 15), (15, .putfield 31, 3, 18), (18, .aload_n 0, 1, 19), (19, .bipush 99, 2, 21), (21, .putfield 34, 3, 24), (24, .return_, 1, 25)] := zDL.of (by decide +kernel)
section
variable {p : Program} {l : Launch} {e : Env} {s : State} {m : MethodId} {args : Array Value} {below : List Frame} {meth : Method} {c : Code} {G : zG} {top : Int} {L : zL} {fu : Nat}
theorem Af_clear_w (E : zEv p m c cX1_clear 1 s args RX1 meth none G) {res : zM} {M : zM} {a0 : Int} {H : Heap} {locs : List Loc} {ls : Array Slot} (ha0 : InR a0) (S : zS G top L M s H locs) (hl : zLV ls 1 [some (zR G.2.2.1 a0)]) (h : Af_clear fu L M a0 = some res) : W p l e (zrm 2 0 0) s m args below meth c H locs 0 0 (MQ below (zQ G top L res none True) args s 0 0 (zA G)) (F0 m 0 ls []) := by
  unfold Af_clear at h
  refine u_al_n (x := a0) E (Af_clear_dc.at 0 rfl) hl rfl ?_
  obtain ⟨g1, h⟩ := ite_e h
  refine u_gR E zf_1_0 S g1 zw_1_220 (Af_clear_dc.at 1 rfl) ?_
  obtain ⟨g2, h⟩ := ite_e h
  obtain ⟨M3, eM3, h⟩ := bd1_e h
  refine u_cVU (As := []) (rest := []) E S zcw_yX10_clear zw_3_213 zw_3_214 zw_3_212 zck_10.1 rfl g2 (Wd_clear_c l G fu top L M (M a0 0) (S.1.inR _ _) eM3) (zrm_ok (by decide) (by decide)) ⟨Nat.le_refl 0, Nat.le_refl 0⟩ rfl (Nat.zero_le 8) hl.size rfl (Af_clear_dc.at 2 rfl) (fun H locs _ S4 => ?_)
  refine u_al_n (x := a0) E (Af_clear_dc.at 3 rfl) hl rfl ?_
  refine r_iconst E (Af_clear_dc.at 4 rfl) ?_
  obtain ⟨M5, eM5, h⟩ := lt1_e h
  refine u_pI E eM5 zf_1_2 S4 g1 (show InR 0 by decide) (Or.inl rfl) rfl zw_1_225 (Af_clear_dc.at 5 rfl) (fun H locs S6 => ?_)
  refine u_al_n (x := a0) E (Af_clear_dc.at 6 rfl) hl rfl ?_
  refine r_bipush E (Af_clear_dc.at 7 rfl) rfl ?_
  obtain ⟨M7, eM7, h⟩ := lt1_e h
  refine u_pI E eM7 zf_1_3 S6 g1 (show InR 21 by decide) (Or.inl rfl) rfl zw_1_227 (Af_clear_dc.at 8 rfl) (fun H locs S8 => ?_)
  refine u_al_n (x := a0) E (Af_clear_dc.at 9 rfl) hl rfl ?_
  refine r_bipush E (Af_clear_dc.at 10 rfl) rfl ?_
  obtain ⟨M9, eM9, h⟩ := lt1_e h
  refine u_pI E eM9 zf_1_4 S8 g1 (show InR 99 by decide) (Or.inl rfl) rfl zw_1_230 (Af_clear_dc.at 11 rfl) (fun H locs S10 => ?_)
  cases h
  exact r_vret E S10 True.intro (Af_clear_dc.at 12 rfl)
theorem Af_clear_c (l : Launch) (G : zG) (fu : Nat) (top : Int) (L : zL) (M : zM) (a0 : Int) {res : zM} (ha0 : InR a0) (h : Af_clear fu L M a0 = some res) : Met l yX1_clear (Cond.code yX1_clear cX1_clear 1 none :: zTB) (zrm 2 0 0) (va_Pc [zR G.2.2.1 a0] (zPre G top L M)) (zQ G top L res none True) 0 0 (zA G) :=
  z_met (by decide +kernel) (by simp [zR_cat, zcat_I, zcat_S]) (Nat.le_of_ble_eq_true rfl) fun p e s m below meth c ls E hn S hl => Af_clear_w E ha0 S (hl.sub (And.intro rfl True.intro)) h
end
theorem Wd_add_dc : zDL cX10_add [(0, .aload_n 0, 1, 1), (1, .getfield 25, 3, 4), (4, .ifCond .lt 53, 3, 7), (7, .aload_n 0, 1, 8), (8, .getfield 25, 3, 11), (11, .bipush 24, 2, 13), (13, .if_icmp .ge 44, 3, 16), (16, .aload_n 0, 1, 17), (17, .getfield 9, 3, 20), (20, .aload_n 0, 1, 21), (21, .getfield 25, 3, 24), (24, .iload_n 1, 1, 25), (25, .iastore, 1, 26), (26, .aload_n 0, 1, 27), (27, .getfield 15, 3, 30), (30, .aload_n 0, 1, 31), (31, .getfield 25, 3, 34), (34, .ldc 31, 2, 36), (36, .iastore, 1, 37), (37, .aload_n 0, 1, 38), (38, .getfield 18, 3, 41), (41, .aload_n 0, 1, 42), (42, .getfield 25, 3, 45), (45, .iload_n 2, 1, 46), (46, .iastore, 1, 47), (47, .aload_n 0, 1, 48), (48, .dup, 1, 49), (49, .getfield 25, 3, 52), (52, .iconst 1, 1, 53), (53, .iadd, 1, 54), (54, .putfield 25, 3, 57), (57, .return_, 1, 58)] := zDL.of (by decide +kernel)
section
variable {p : Program} {l : Launch} {e : Env} {s : State} {m : MethodId} {args : Array Value} {below : List Frame} {meth : Method} {c : Code} {G : zG} {top : Int} {L : zL} {fu : Nat}
theorem Wd_add_w (E : zEv p m c cX10_add 3 s args RX10 meth none G) {res : zM} {M : zM} {a0 : Int} {a1 : Int} {a2 : Int} {H : Heap} {locs : List Loc} {ls : Array Slot} (ha0 : InR a0) (ha1 : InR a1) (ha2 : InR a2) (S : zS G top L M s H locs) (hl : zLV ls 3 [some (zR G.2.2.1 a0), some (.int (zO a1)), some (.int (zO a2))]) (h : Wd_add fu L M a0 a1 a2 = some res) : W p l e (zrm 1 0 0) s m args below meth c H locs 0 0 (MQ below (zQ G top L res none True) args s 0 0 (zA G)) (F0 m 0 ls []) := by
  unfold Wd_add at h
  refine u_al_n (x := a0) E (Wd_add_dc.at 0 rfl) hl rfl ?_
  obtain ⟨g1, h⟩ := ite_e h
  refine u_gI E zf_10_4 S g1 zw_1_197 (Wd_add_dc.at 1 rfl) ?_
  refine r_if_lt (tgt := 57) E (S.1.inR _ _) (Wd_add_dc.at 2 rfl) (by decide) (fun q => ?_) (fun q => ?_)
  · have h := ite_t h q
    cases h
    exact r_vret E S True.intro (Wd_add_dc.at 31 rfl)
  · have h := ite_f h q
    refine u_al_n (x := a0) E (Wd_add_dc.at 3 rfl) hl rfl ?_
    refine u_gI E zf_10_4 S g1 zw_1_197 (Wd_add_dc.at 4 rfl) ?_
    refine r_bipush E (Wd_add_dc.at 5 rfl) rfl ?_
    refine r_icmp_ge (tgt := 57) E (S.1.inR _ _) (show InR 24 by decide) (Wd_add_dc.at 6 rfl) (by decide) (fun q => ?_) (fun q => ?_)
    · have h := ite_t h q
      refine u_al_n (x := a0) E (Wd_add_dc.at 7 rfl) hl rfl ?_
      refine u_gR E zf_10_0 S g1 zw_1_190 (Wd_add_dc.at 8 rfl) ?_
      refine u_al_n (x := a0) E (Wd_add_dc.at 9 rfl) hl rfl ?_
      refine u_gI E zf_10_4 S g1 zw_1_197 (Wd_add_dc.at 10 rfl) ?_
      refine u_il_n (x := a1) E (Wd_add_dc.at 11 rfl) hl rfl ?_
      obtain ⟨g2, h⟩ := ite_e h
      obtain ⟨g3, h⟩ := ite_e h
      obtain ⟨M4, eM4, h⟩ := lt1_e h
      refine u_iast E eM4 S g2 g3 ha1 (Wd_add_dc.at 12 rfl) (fun H locs S5 => ?_)
      refine u_al_n (x := a0) E (Wd_add_dc.at 13 rfl) hl rfl ?_
      refine u_gR E zf_10_1 S5 g1 zw_1_191 (Wd_add_dc.at 14 rfl) ?_
      refine u_al_n (x := a0) E (Wd_add_dc.at 15 rfl) hl rfl ?_
      refine u_gI E zf_10_4 S5 g1 zw_1_197 (Wd_add_dc.at 16 rfl) ?_
      refine r_ldc (n := (-1000000)) E (Wd_add_dc.at 17 rfl) zw_3_224 rfl ?_
      obtain ⟨g6, h⟩ := ite_e h
      obtain ⟨g7, h⟩ := ite_e h
      obtain ⟨M8, eM8, h⟩ := lt1_e h
      refine u_iast E eM8 S5 g6 g7 (show InR (-1000000) by decide) (Wd_add_dc.at 18 rfl) (fun H locs S9 => ?_)
      refine u_al_n (x := a0) E (Wd_add_dc.at 19 rfl) hl rfl ?_
      refine u_gR E zf_10_2 S9 g1 zw_1_192 (Wd_add_dc.at 20 rfl) ?_
      refine u_al_n (x := a0) E (Wd_add_dc.at 21 rfl) hl rfl ?_
      refine u_gI E zf_10_4 S9 g1 zw_1_197 (Wd_add_dc.at 22 rfl) ?_
      refine u_il_n (x := a2) E (Wd_add_dc.at 23 rfl) hl rfl ?_
      obtain ⟨g10, h⟩ := ite_e h
      obtain ⟨g11, h⟩ := ite_e h
      obtain ⟨M12, eM12, h⟩ := lt1_e h
      refine u_iast E eM12 S9 g10 g11 ha2 (Wd_add_dc.at 24 rfl) (fun H locs S13 => ?_)
      refine u_al_n (x := a0) E (Wd_add_dc.at 25 rfl) hl rfl ?_
      refine r_dup E (Wd_add_dc.at 26 rfl) (zR_cat _ _) ?_
      refine u_gI E zf_10_4 S13 g1 zw_1_197 (Wd_add_dc.at 27 rfl) ?_
      refine r_iconst E (Wd_add_dc.at 28 rfl) ?_
      refine r_iadd E (Wd_add_dc.at 29 rfl) ?_
      obtain ⟨M14, eM14, h⟩ := lt1_e h
      refine u_pI E eM14 zf_10_4 S13 g1 (inR_w32 _) (Or.inl rfl) rfl zw_1_197 (Wd_add_dc.at 30 rfl) (fun H locs S15 => ?_)
      cases h
      exact r_vret E S15 True.intro (Wd_add_dc.at 31 rfl)
    · have h := ite_f h q
      cases h
      exact r_vret E S True.intro (Wd_add_dc.at 31 rfl)
theorem Wd_add_c (l : Launch) (G : zG) (fu : Nat) (top : Int) (L : zL) (M : zM) (a0 : Int) (a1 : Int) (a2 : Int) {res : zM} (ha0 : InR a0) (ha1 : InR a1) (ha2 : InR a2) (h : Wd_add fu L M a0 a1 a2 = some res) : Met l yX10_add (Cond.code yX10_add cX10_add 3 none :: zTB) (zrm 1 0 0) (va_Pc [zR G.2.2.1 a0, .int (zO a1), .int (zO a2)] (zPre G top L M)) (zQ G top L res none True) 0 0 (zA G) :=
  z_met (by decide +kernel) (by simp [zR_cat, zcat_I, zcat_S]) (Nat.le_of_ble_eq_true rfl) fun p e s m below meth c ls E hn S hl => Wd_add_w E ha0 ha1 ha2 S (hl.sub (And.intro rfl (And.intro rfl (And.intro rfl True.intro)))) h
end
theorem Wd_addLife_dc : zDL cX10_addLife [(0, .aload_n 0, 1, 1), (1, .iload_n 1, 1, 2), (2, .ineg, 1, 3), (3, .iload_n 2, 1, 4), (4, .invokevirtual 32, 3, 7), (7, .aload_n 0, 1, 8), (8, .aload_n 0, 1, 9), (9, .getfield 25, 3, 12), (12, .putfield 21, 3, 15), (15, .return_, 1, 16)] := zDL.of (by decide +kernel)
section
variable {p : Program} {l : Launch} {e : Env} {s : State} {m : MethodId} {args : Array Value} {below : List Frame} {meth : Method} {c : Code} {G : zG} {top : Int} {L : zL} {fu : Nat}
theorem Wd_addLife_w (E : zEv p m c cX10_addLife 3 s args RX10 meth none G) {res : zM} {M : zM} {a0 : Int} {a1 : Int} {a2 : Int} {H : Heap} {locs : List Loc} {ls : Array Slot} (ha0 : InR a0) (ha1 : InR a1) (ha2 : InR a2) (S : zS G top L M s H locs) (hl : zLV ls 3 [some (zR G.2.2.1 a0), some (.int (zO a1)), some (.int (zO a2))]) (h : Wd_addLife fu L M a0 a1 a2 = some res) : W p l e (zrm 2 0 0) s m args below meth c H locs 0 0 (MQ below (zQ G top L res none True) args s 0 0 (zA G)) (F0 m 0 ls []) := by
  unfold Wd_addLife at h
  refine u_al_n (x := a0) E (Wd_addLife_dc.at 0 rfl) hl rfl ?_
  refine u_il_n (x := a1) E (Wd_addLife_dc.at 1 rfl) hl rfl ?_
  refine r_ineg E (Wd_addLife_dc.at 2 rfl) ?_
  refine u_il_n (x := a2) E (Wd_addLife_dc.at 3 rfl) hl rfl ?_
  obtain ⟨g1, h⟩ := ite_e h
  obtain ⟨M2, eM2, h⟩ := bd1_e h
  refine u_cVU (As := [.int (zO (w32 (-a1))), .int (zO a2)]) (rest := []) E S zcw_yX10_add zw_3_221 zw_3_222 zw_3_220 zck_10.1 rfl g1 (Wd_add_c l G fu top L M a0 (w32 (-a1)) a2 ha0 (inR_w32 _) ha2 eM2) (zrm_ok (by decide) (by decide)) ⟨Nat.le_refl 0, Nat.le_refl 0⟩ rfl (Nat.zero_le 8) hl.size rfl (Wd_addLife_dc.at 4 rfl) (fun H locs _ S3 => ?_)
  refine u_al_n (x := a0) E (Wd_addLife_dc.at 5 rfl) hl rfl ?_
  refine u_al_n (x := a0) E (Wd_addLife_dc.at 6 rfl) hl rfl ?_
  refine u_gI E zf_10_4 S3 g1 zw_1_197 (Wd_addLife_dc.at 7 rfl) ?_
  obtain ⟨M4, eM4, h⟩ := lt1_e h
  refine u_pI E eM4 zf_10_3 S3 g1 (S3.1.inR _ _) (Or.inl rfl) rfl zw_1_193 (Wd_addLife_dc.at 8 rfl) (fun H locs S5 => ?_)
  cases h
  exact r_vret E S5 True.intro (Wd_addLife_dc.at 9 rfl)
theorem Wd_addLife_c (l : Launch) (G : zG) (fu : Nat) (top : Int) (L : zL) (M : zM) (a0 : Int) (a1 : Int) (a2 : Int) {res : zM} (ha0 : InR a0) (ha1 : InR a1) (ha2 : InR a2) (h : Wd_addLife fu L M a0 a1 a2 = some res) : Met l yX10_addLife (Cond.code yX10_addLife cX10_addLife 3 none :: zTB) (zrm 2 0 0) (va_Pc [zR G.2.2.1 a0, .int (zO a1), .int (zO a2)] (zPre G top L M)) (zQ G top L res none True) 0 0 (zA G) :=
  z_met (by decide +kernel) (by simp [zR_cat, zcat_I, zcat_S]) (Nat.le_of_ble_eq_true rfl) fun p e s m below meth c ls E hn S hl => Wd_addLife_w E ha0 ha1 ha2 S (hl.sub (And.intro rfl (And.intro rfl (And.intro rfl True.intro)))) h
end
theorem Tp_learn_dc : zDL cX7_learn [(0, .aload_n 0, 1, 1), (1, .iconst 0, 1, 2), (2, .putfield 70, 3, 5), (5, .iconst 0, 1, 6), (6, .istore_n 3, 1, 7), (7, .iload_n 3, 1, 8), (8, .iload_n 2, 1, 9), (9, .if_icmp .ge 43, 3, 12), (12, .iload_n 3, 1, 13), (13, .aload_n 1, 1, 14), (14, .arraylength, 1, 15), (15, .if_icmp .ge 37, 3, 18), (18, .iload_n 3, 1, 19), (19, .aload_n 0, 1, 20), (20, .getfield 15, 3, 23), (23, .arraylength, 1, 24), (24, .if_icmp .ge 28, 3, 27), (27, .aload_n 0, 1, 28), (28, .getfield 15, 3, 31), (31, .iload_n 3, 1, 32), (32, .aload_n 1, 1, 33), (33, .iload_n 3, 1, 34), (34, .iaload, 1, 35), (35, .iastore, 1, 36), (36, .aload_n 0, 1, 37), (37, .dup, 1, 38), (38, .getfield 70, 3, 41), (41, .iconst 1, 1, 42), (42, .iadd, 1, 43), (43, .putfield 70, 3, 46), (46, .iinc 3 1, 3, 49), (49, .goto (-42), 3, 52), (52, .return_, 1, 53)] := zDL.of (by decide +kernel)
section
variable {p : Program} {l : Launch} {e : Env} {s : State} {m : MethodId} {args : Array Value} {below : List Frame} {meth : Method} {c : Code} {G : zG} {top : Int} {L : zL} {fu : Nat}
theorem Tp_learn_s7_w (E : zEv p m c cX7_learn 4 s args RX7 meth none G) {res : zM} {k7 : zM → Int → Int → Int → Int → Option zM} (hk7 : ∀ (M : zM) (x0 : Int) (x1 : Int) (x2 : Int) (x3 : Int), InR x0 → InR x1 → InR x2 → InR x3 → ∀ (H : Heap) (locs : List Loc) (ls : Array Slot), zS G top L M s H locs → zLV ls 4 [some (zR G.2.2.1 x0), some (zR G.2.2.1 x1), some (.int (zO x2)), some (.int (zO x3))] → k7 M x0 x1 x2 x3 = some res → W p l e (zrm 1 0 0) s m args below meth c H locs 0 0 (MQ below (zQ G top L res none True) args s 0 0 (zA G)) (F0 m 7 ls [])) {M : zM} {x0 : Int} {x1 : Int} {x2 : Int} {x3 : Int} {H : Heap} {locs : List Loc} {ls : Array Slot} (hx0 : InR x0) (hx1 : InR x1) (hx2 : InR x2) (hx3 : InR x3) (S : zS G top L M s H locs) (hl : zLV ls 4 [some (zR G.2.2.1 x0), some (zR G.2.2.1 x1), some (.int (zO x2)), some (.int (zO x3))]) (h : Tp_learn_s7 fu k7 L M x0 x1 x2 x3 = some res) : W p l e (zrm 1 0 0) s m args below meth c H locs 0 0 (MQ below (zQ G top L res none True) args s 0 0 (zA G)) (F0 m 7 ls []) := by
  unfold Tp_learn_s7 at h
  refine u_il_n (x := x3) E (Tp_learn_dc.at 5 rfl) hl rfl ?_
  refine u_il_n (x := x2) E (Tp_learn_dc.at 6 rfl) hl rfl ?_
  refine r_icmp_ge (tgt := 52) E hx3 hx2 (Tp_learn_dc.at 7 rfl) (by decide) (fun q => ?_) (fun q => ?_)
  · have h := ite_t h q
    refine u_il_n (x := x3) E (Tp_learn_dc.at 8 rfl) hl rfl ?_
    refine u_al_n (x := x1) E (Tp_learn_dc.at 9 rfl) hl rfl ?_
    obtain ⟨g4, h⟩ := ite_e h
    refine r_alen E S g4 (by decide) (Tp_learn_dc.at 10 rfl) ?_
    refine r_icmp_ge (tgt := 52) E hx3 (S.1.lenR _) (Tp_learn_dc.at 11 rfl) (by decide) (fun q => ?_) (fun q => ?_)
    · have h := ite_t h q
      refine u_il_n (x := x3) E (Tp_learn_dc.at 12 rfl) hl rfl ?_
      refine u_al_n (x := x0) E (Tp_learn_dc.at 13 rfl) hl rfl ?_
      obtain ⟨g5, h⟩ := ite_e h
      refine u_gR E zf_7_1 S g5 zw_1_41 (Tp_learn_dc.at 14 rfl) ?_
      obtain ⟨g6, h⟩ := ite_e h
      refine r_alen E S g6 (by decide) (Tp_learn_dc.at 15 rfl) ?_
      refine r_icmp_ge (tgt := 52) E hx3 (S.1.lenR _) (Tp_learn_dc.at 16 rfl) (by decide) (fun q => ?_) (fun q => ?_)
      · have h := ite_t h q
        refine u_al_n (x := x0) E (Tp_learn_dc.at 17 rfl) hl rfl ?_
        refine u_gR E zf_7_1 S g5 zw_1_41 (Tp_learn_dc.at 18 rfl) ?_
        refine u_il_n (x := x3) E (Tp_learn_dc.at 19 rfl) hl rfl ?_
        refine u_al_n (x := x1) E (Tp_learn_dc.at 20 rfl) hl rfl ?_
        refine u_il_n (x := x3) E (Tp_learn_dc.at 21 rfl) hl rfl ?_
        obtain ⟨g7, h⟩ := ite_e h
        refine r_iald E S g4 g7 (Tp_learn_dc.at 22 rfl) ?_
        obtain ⟨g8, h⟩ := ite_e h
        obtain ⟨M9, eM9, h⟩ := lt1_e h
        refine u_iast E eM9 S g6 g8 (S.1.inR _ _) (Tp_learn_dc.at 23 rfl) (fun H locs S10 => ?_)
        refine u_al_n (x := x0) E (Tp_learn_dc.at 24 rfl) hl rfl ?_
        refine r_dup E (Tp_learn_dc.at 25 rfl) (zR_cat _ _) ?_
        refine u_gI E zf_7_3 S10 g5 zw_1_44 (Tp_learn_dc.at 26 rfl) ?_
        refine r_iconst E (Tp_learn_dc.at 27 rfl) ?_
        refine r_iadd E (Tp_learn_dc.at 28 rfl) ?_
        obtain ⟨M11, eM11, h⟩ := lt1_e h
        refine u_pI E eM11 zf_7_3 S10 g5 (inR_w32 _) (Or.inl rfl) rfl zw_1_44 (Tp_learn_dc.at 29 rfl) (fun H locs S12 => ?_)
        obtain ⟨v13, ev13, h⟩ := lt1_e h
        have hv13 := inR_eq ev13 (inR_w32 _)
        refine u_iinc (y := v13) (vs' := [some (zR G.2.2.1 x0), some (zR G.2.2.1 x1), some (.int (zO x2)), some (.int (zO v13))]) E ev13 (Tp_learn_dc.at 30 rfl) hl rfl (by decide) rfl (fun ls hl => ?_)
        refine r_goto (tgt := 7) E (Tp_learn_dc.at 31 rfl) (by decide) ?_
        exact hk7 _ x0 x1 x2 v13 hx0 hx1 hx2 hv13 _ _ _ S12 (hl.sub (And.intro rfl (And.intro rfl (And.intro rfl (And.intro rfl True.intro))))) h
      · have h := ite_f h q
        cases h
        exact r_vret E S True.intro (Tp_learn_dc.at 32 rfl)
    · have h := ite_f h q
      cases h
      exact r_vret E S True.intro (Tp_learn_dc.at 32 rfl)
  · have h := ite_f h q
    cases h
    exact r_vret E S True.intro (Tp_learn_dc.at 32 rfl)
theorem Tp_learn_l7_w (E : zEv p m c cX7_learn 4 s args RX7 meth none G) {res : zM} : ∀ (n : Nat) (M : zM) (x0 : Int) (x1 : Int) (x2 : Int) (x3 : Int), InR x0 → InR x1 → InR x2 → InR x3 → ∀ (H : Heap) (locs : List Loc) (ls : Array Slot), zS G top L M s H locs → zLV ls 4 [some (zR G.2.2.1 x0), some (zR G.2.2.1 x1), some (.int (zO x2)), some (.int (zO x3))] → Tp_learn_l7 fu L n M x0 x1 x2 x3 = some res → W p l e (zrm 1 0 0) s m args below meth c H locs 0 0 (MQ below (zQ G top L res none True) args s 0 0 (zA G)) (F0 m 7 ls [])
  | 0, _, _, _, _, _ => fun _ _ _ _ _ _ _ _ _ h => (by cases h)
  | n + 1, M, x0, x1, x2, x3 => fun hx0 hx1 hx2 hx3 H locs ls S hl h => Tp_learn_s7_w E (fun M x0 x1 x2 x3 hx0 hx1 hx2 hx3 H locs ls S hl h => Tp_learn_l7_w E n M x0 x1 x2 x3 hx0 hx1 hx2 hx3 H locs ls S hl h) hx0 hx1 hx2 hx3 S hl h
theorem Tp_learn_w (E : zEv p m c cX7_learn 4 s args RX7 meth none G) {res : zM} {M : zM} {a0 : Int} {a1 : Int} {a2 : Int} {H : Heap} {locs : List Loc} {ls : Array Slot} (ha0 : InR a0) (ha1 : InR a1) (ha2 : InR a2) (S : zS G top L M s H locs) (hl : zLV ls 4 [some (zR G.2.2.1 a0), some (zR G.2.2.1 a1), some (.int (zO a2)), none]) (h : Tp_learn fu L M a0 a1 a2 = some res) : W p l e (zrm 1 0 0) s m args below meth c H locs 0 0 (MQ below (zQ G top L res none True) args s 0 0 (zA G)) (F0 m 0 ls []) := by
  unfold Tp_learn at h
  refine u_al_n (x := a0) E (Tp_learn_dc.at 0 rfl) hl rfl ?_
  refine r_iconst E (Tp_learn_dc.at 1 rfl) ?_
  obtain ⟨g1, h⟩ := ite_e h
  obtain ⟨M2, eM2, h⟩ := lt1_e h
  refine u_pI E eM2 zf_7_3 S g1 (show InR 0 by decide) (Or.inl rfl) rfl zw_1_44 (Tp_learn_dc.at 2 rfl) (fun H locs S3 => ?_)
  refine r_iconst E (Tp_learn_dc.at 3 rfl) ?_
  refine u_ist_n (y := 0) (vs' := [some (zR G.2.2.1 a0), some (zR G.2.2.1 a1), some (.int (zO a2)), some (.int (zO 0))]) E rfl (Tp_learn_dc.at 4 rfl) hl (by decide) rfl (fun ls hl => ?_)
  exact Tp_learn_l7_w E fu _ a0 a1 a2 0 ha0 ha1 ha2 (show InR 0 by decide) _ _ _ S3 (hl.sub (And.intro rfl (And.intro rfl (And.intro rfl (And.intro rfl True.intro))))) h
theorem Tp_learn_c (l : Launch) (G : zG) (fu : Nat) (top : Int) (L : zL) (M : zM) (a0 : Int) (a1 : Int) (a2 : Int) {res : zM} (ha0 : InR a0) (ha1 : InR a1) (ha2 : InR a2) (h : Tp_learn fu L M a0 a1 a2 = some res) : Met l yX7_learn (Cond.code yX7_learn cX7_learn 4 none :: zTB) (zrm 1 0 0) (va_Pc [zR G.2.2.1 a0, zR G.2.2.1 a1, .int (zO a2)] (zPre G top L M)) (zQ G top L res none True) 0 0 (zA G) :=
  z_met (by decide +kernel) (by simp [zR_cat, zcat_I, zcat_S]) (Nat.le_of_ble_eq_true rfl) fun p e s m below meth c ls E hn S hl => Tp_learn_w E ha0 ha1 ha2 S (hl.sub (And.intro rfl (And.intro rfl (And.intro rfl True.intro)))) h
end
theorem Fr_found_dc : zDL cX2_found [(0, .aload_n 1, 1, 1), (1, .invokevirtual 79, 3, 4), (4, .iconst 0, 1, 5), (5, .istore_n 2, 1, 6), (6, .iload_n 2, 1, 7), (7, .aload_n 0, 1, 8), (8, .getfield 25, 3, 11), (11, .if_icmp .ge 46, 3, 14), (14, .iload_n 2, 1, 15), (15, .aload_n 0, 1, 16), (16, .getfield 15, 3, 19), (19, .arraylength, 1, 20), (20, .if_icmp .ge 37, 3, 23), (23, .iload_n 2, 1, 24), (24, .aload_n 0, 1, 25), (25, .getfield 18, 3, 28), (28, .arraylength, 1, 29), (29, .if_icmp .ge 28, 3, 32), (32, .aload_n 1, 1, 33), (33, .getfield 84, 3, 36), (36, .aload_n 0, 1, 37), (37, .getfield 15, 3, 40), (40, .iload_n 2, 1, 41), (41, .iaload, 1, 42), (42, .aload_n 0, 1, 43), (43, .getfield 18, 3, 46), (46, .iload_n 2, 1, 47), (47, .iaload, 1, 48), (48, .invokevirtual 88, 3, 51), (51, .iinc 2 1, 3, 54), (54, .goto (-48), 3, 57), (57, .aload_n 0, 1, 58), (58, .getfield 21, 3, 61), (61, .aload_n 0, 1, 62), (62, .getfield 9, 3, 65), (65, .aload_n 0, 1, 66), (66, .getfield 25, 3, 69), (69, .invokevirtual 94, 3, 72), (72, .return_, 1, 73)] := zDL.of (by decide +kernel)
section
variable {p : Program} {l : Launch} {e : Env} {s : State} {m : MethodId} {args : Array Value} {below : List Frame} {meth : Method} {c : Code} {G : zG} {top : Int} {L : zL} {fu : Nat}
theorem Fr_found_b57_w (E : zEv p m c cX2_found 3 s args RX2 meth none G) {res : zM} {M : zM} {x0 : Int} {H : Heap} {locs : List Loc} {ls : Array Slot} (hx0 : InR x0) (S : zS G top L M s H locs) (hl : zLV ls 3 [some (zR G.2.2.1 x0), none, none]) (h : Fr_found_b57 fu L M x0 = some res) : W p l e (zrm 3 0 0) s m args below meth c H locs 0 0 (MQ below (zQ G top L res none True) args s 0 0 (zA G)) (F0 m 57 ls []) := by
  unfold Fr_found_b57 at h
  refine u_al_n (x := x0) E (Fr_found_dc.at 31 rfl) hl rfl ?_
  obtain ⟨g14, h⟩ := ite_e h
  refine u_gR E zf_2_0 S g14 zw_1_81 (Fr_found_dc.at 32 rfl) ?_
  refine u_al_n (x := x0) E (Fr_found_dc.at 33 rfl) hl rfl ?_
  refine u_gR E zf_2_1 S g14 zw_1_82 (Fr_found_dc.at 34 rfl) ?_
  refine u_al_n (x := x0) E (Fr_found_dc.at 35 rfl) hl rfl ?_
  refine u_gI E zf_2_4 S g14 zw_1_85 (Fr_found_dc.at 36 rfl) ?_
  obtain ⟨g15, h⟩ := ite_e h
  obtain ⟨M16, eM16, h⟩ := bd1_e h
  refine u_cVU (As := [zR G.2.2.1 (M x0 1), .int (zO (M x0 4))]) (rest := []) E S zcw_yX7_learn zw_3_226 zw_3_227 zw_3_225 zck_7.1 rfl g15 (Tp_learn_c l G fu top L M (M x0 0) (M x0 1) (M x0 4) (S.1.inR _ _) (S.1.inR _ _) (S.1.inR _ _) eM16) (zrm_ok (by decide) (by decide)) ⟨Nat.le_refl 0, Nat.le_refl 0⟩ rfl (Nat.zero_le 8) hl.size rfl (Fr_found_dc.at 37 rfl) (fun H locs _ S17 => ?_)
  cases h
  exact r_vret E S17 True.intro (Fr_found_dc.at 38 rfl)
theorem Fr_found_s6_w (E : zEv p m c cX2_found 3 s args RX2 meth none G) {res : zM} {k6 : zM → Int → Int → Int → Option zM} (hk6 : ∀ (M : zM) (x0 : Int) (x1 : Int) (x2 : Int), InR x0 → InR x1 → InR x2 → ∀ (H : Heap) (locs : List Loc) (ls : Array Slot), zS G top L M s H locs → zLV ls 3 [some (zR G.2.2.1 x0), some (zR G.2.2.1 x1), some (.int (zO x2))] → k6 M x0 x1 x2 = some res → W p l e (zrm 3 0 0) s m args below meth c H locs 0 0 (MQ below (zQ G top L res none True) args s 0 0 (zA G)) (F0 m 6 ls [])) {M : zM} {x0 : Int} {x1 : Int} {x2 : Int} {H : Heap} {locs : List Loc} {ls : Array Slot} (hx0 : InR x0) (hx1 : InR x1) (hx2 : InR x2) (S : zS G top L M s H locs) (hl : zLV ls 3 [some (zR G.2.2.1 x0), some (zR G.2.2.1 x1), some (.int (zO x2))]) (h : Fr_found_s6 fu k6 L M x0 x1 x2 = some res) : W p l e (zrm 3 0 0) s m args below meth c H locs 0 0 (MQ below (zQ G top L res none True) args s 0 0 (zA G)) (F0 m 6 ls []) := by
  unfold Fr_found_s6 at h
  refine u_il_n (x := x2) E (Fr_found_dc.at 4 rfl) hl rfl ?_
  refine u_al_n (x := x0) E (Fr_found_dc.at 5 rfl) hl rfl ?_
  obtain ⟨g4, h⟩ := ite_e h
  refine u_gI E zf_2_4 S g4 zw_1_85 (Fr_found_dc.at 6 rfl) ?_
  refine r_icmp_ge (tgt := 57) E hx2 (S.1.inR _ _) (Fr_found_dc.at 7 rfl) (by decide) (fun q => ?_) (fun q => ?_)
  · have h := ite_t h q
    refine u_il_n (x := x2) E (Fr_found_dc.at 8 rfl) hl rfl ?_
    refine u_al_n (x := x0) E (Fr_found_dc.at 9 rfl) hl rfl ?_
    refine u_gR E zf_2_2 S g4 zw_1_83 (Fr_found_dc.at 10 rfl) ?_
    obtain ⟨g5, h⟩ := ite_e h
    refine r_alen E S g5 (by decide) (Fr_found_dc.at 11 rfl) ?_
    refine r_icmp_ge (tgt := 57) E hx2 (S.1.lenR _) (Fr_found_dc.at 12 rfl) (by decide) (fun q => ?_) (fun q => ?_)
    · have h := ite_t h q
      refine u_il_n (x := x2) E (Fr_found_dc.at 13 rfl) hl rfl ?_
      refine u_al_n (x := x0) E (Fr_found_dc.at 14 rfl) hl rfl ?_
      refine u_gR E zf_2_3 S g4 zw_1_84 (Fr_found_dc.at 15 rfl) ?_
      obtain ⟨g6, h⟩ := ite_e h
      refine r_alen E S g6 (by decide) (Fr_found_dc.at 16 rfl) ?_
      refine r_icmp_ge (tgt := 57) E hx2 (S.1.lenR _) (Fr_found_dc.at 17 rfl) (by decide) (fun q => ?_) (fun q => ?_)
      · have h := ite_t h q
        refine u_al_n (x := x1) E (Fr_found_dc.at 18 rfl) hl rfl ?_
        obtain ⟨g7, h⟩ := ite_e h
        refine u_gR E zf_1_0 S g7 zw_1_223 (Fr_found_dc.at 19 rfl) ?_
        refine u_al_n (x := x0) E (Fr_found_dc.at 20 rfl) hl rfl ?_
        refine u_gR E zf_2_2 S g4 zw_1_83 (Fr_found_dc.at 21 rfl) ?_
        refine u_il_n (x := x2) E (Fr_found_dc.at 22 rfl) hl rfl ?_
        obtain ⟨g8, h⟩ := ite_e h
        refine r_iald E S g5 g8 (Fr_found_dc.at 23 rfl) ?_
        refine u_al_n (x := x0) E (Fr_found_dc.at 24 rfl) hl rfl ?_
        refine u_gR E zf_2_3 S g4 zw_1_84 (Fr_found_dc.at 25 rfl) ?_
        refine u_il_n (x := x2) E (Fr_found_dc.at 26 rfl) hl rfl ?_
        obtain ⟨g9, h⟩ := ite_e h
        refine r_iald E S g6 g9 (Fr_found_dc.at 27 rfl) ?_
        obtain ⟨g10, h⟩ := ite_e h
        obtain ⟨M11, eM11, h⟩ := bd1_e h
        refine u_cVU (As := [.int (zO (M (M x0 2) x2)), .int (zO (M (M x0 3) x2))]) (rest := []) E S zcw_yX10_addLife zw_3_217 zw_3_218 zw_3_216 zck_10.1 rfl g10 (Wd_addLife_c l G fu top L M (M x1 0) (M (M x0 2) x2) (M (M x0 3) x2) (S.1.inR _ _) (S.1.inR _ _) (S.1.inR _ _) eM11) (zrm_ok (by decide) (by decide)) ⟨Nat.le_refl 0, Nat.le_refl 0⟩ rfl (Nat.zero_le 8) hl.size rfl (Fr_found_dc.at 28 rfl) (fun H locs _ S12 => ?_)
        obtain ⟨v13, ev13, h⟩ := lt1_e h
        have hv13 := inR_eq ev13 (inR_w32 _)
        refine u_iinc (y := v13) (vs' := [some (zR G.2.2.1 x0), some (zR G.2.2.1 x1), some (.int (zO v13))]) E ev13 (Fr_found_dc.at 29 rfl) hl rfl (by decide) rfl (fun ls hl => ?_)
        refine r_goto (tgt := 6) E (Fr_found_dc.at 30 rfl) (by decide) ?_
        exact hk6 _ x0 x1 v13 hx0 hx1 hv13 _ _ _ S12 (hl.sub (And.intro rfl (And.intro rfl (And.intro rfl True.intro)))) h
      · have h := ite_f h q
        exact Fr_found_b57_w (x0 := x0)  E hx0 S (hl.sub (And.intro rfl True.intro)) h
    · have h := ite_f h q
      exact Fr_found_b57_w (x0 := x0)  E hx0 S (hl.sub (And.intro rfl True.intro)) h
  · have h := ite_f h q
    exact Fr_found_b57_w (x0 := x0)  E hx0 S (hl.sub (And.intro rfl True.intro)) h
theorem Fr_found_l6_w (E : zEv p m c cX2_found 3 s args RX2 meth none G) {res : zM} : ∀ (n : Nat) (M : zM) (x0 : Int) (x1 : Int) (x2 : Int), InR x0 → InR x1 → InR x2 → ∀ (H : Heap) (locs : List Loc) (ls : Array Slot), zS G top L M s H locs → zLV ls 3 [some (zR G.2.2.1 x0), some (zR G.2.2.1 x1), some (.int (zO x2))] → Fr_found_l6 fu L n M x0 x1 x2 = some res → W p l e (zrm 3 0 0) s m args below meth c H locs 0 0 (MQ below (zQ G top L res none True) args s 0 0 (zA G)) (F0 m 6 ls [])
  | 0, _, _, _, _ => fun _ _ _ _ _ _ _ _ h => (by cases h)
  | n + 1, M, x0, x1, x2 => fun hx0 hx1 hx2 H locs ls S hl h => Fr_found_s6_w E (fun M x0 x1 x2 hx0 hx1 hx2 H locs ls S hl h => Fr_found_l6_w E n M x0 x1 x2 hx0 hx1 hx2 H locs ls S hl h) hx0 hx1 hx2 S hl h
theorem Fr_found_w (E : zEv p m c cX2_found 3 s args RX2 meth none G) {res : zM} {M : zM} {a0 : Int} {a1 : Int} {H : Heap} {locs : List Loc} {ls : Array Slot} (ha0 : InR a0) (ha1 : InR a1) (S : zS G top L M s H locs) (hl : zLV ls 3 [some (zR G.2.2.1 a0), some (zR G.2.2.1 a1), none]) (h : Fr_found fu L M a0 a1 = some res) : W p l e (zrm 3 0 0) s m args below meth c H locs 0 0 (MQ below (zQ G top L res none True) args s 0 0 (zA G)) (F0 m 0 ls []) := by
  unfold Fr_found at h
  refine u_al_n (x := a1) E (Fr_found_dc.at 0 rfl) hl rfl ?_
  obtain ⟨g1, h⟩ := ite_e h
  obtain ⟨M2, eM2, h⟩ := bd1_e h
  refine u_cVU (As := []) (rest := []) E S zcw_yX1_clear zw_3_209 zw_3_210 zw_3_208 zck_1.1 rfl g1 (Af_clear_c l G fu top L M a1 ha1 eM2) (zrm_ok (by decide) (by decide)) ⟨Nat.le_refl 0, Nat.le_refl 0⟩ rfl (Nat.zero_le 8) hl.size rfl (Fr_found_dc.at 1 rfl) (fun H locs _ S3 => ?_)
  refine r_iconst E (Fr_found_dc.at 2 rfl) ?_
  refine u_ist_n (y := 0) (vs' := [some (zR G.2.2.1 a0), some (zR G.2.2.1 a1), some (.int (zO 0))]) E rfl (Fr_found_dc.at 3 rfl) hl (by decide) rfl (fun ls hl => ?_)
  exact Fr_found_l6_w E fu _ a0 a1 0 ha0 ha1 (show InR 0 by decide) _ _ _ S3 (hl.sub (And.intro rfl (And.intro rfl (And.intro rfl True.intro)))) h
theorem Fr_found_c (l : Launch) (G : zG) (fu : Nat) (top : Int) (L : zL) (M : zM) (a0 : Int) (a1 : Int) {res : zM} (ha0 : InR a0) (ha1 : InR a1) (h : Fr_found fu L M a0 a1 = some res) : Met l yX2_found (Cond.code yX2_found cX2_found 3 none :: zTB) (zrm 3 0 0) (va_Pc [zR G.2.2.1 a0, zR G.2.2.1 a1] (zPre G top L M)) (zQ G top L res none True) 0 0 (zA G) :=
  z_met (by decide +kernel) (by simp [zR_cat, zcat_I, zcat_S]) (Nat.le_of_ble_eq_true rfl) fun p e s m below meth c ls E hn S hl => Fr_found_w E ha0 ha1 S (hl.sub (And.intro rfl (And.intro rfl True.intro))) h
end
theorem Ac_clear_dc : zDL cX0_clear [(0, .aload_n 0, 1, 1), (1, .iconst 0, 1, 2), (2, .putfield 18, 3, 5), (5, .return_, 1, 6)] := zDL.of (by decide +kernel)
section
variable {p : Program} {l : Launch} {e : Env} {s : State} {m : MethodId} {args : Array Value} {below : List Frame} {meth : Method} {c : Code} {G : zG} {top : Int} {L : zL} {fu : Nat}
theorem Ac_clear_w (E : zEv p m c cX0_clear 1 s args RX0 meth none G) {res : zM} {M : zM} {a0 : Int} {H : Heap} {locs : List Loc} {ls : Array Slot} (ha0 : InR a0) (S : zS G top L M s H locs) (hl : zLV ls 1 [some (zR G.2.2.1 a0)]) (h : Ac_clear fu L M a0 = some res) : W p l e (zrm 1 0 0) s m args below meth c H locs 0 0 (MQ below (zQ G top L res none True) args s 0 0 (zA G)) (F0 m 0 ls []) := by
  unfold Ac_clear at h
  refine u_al_n (x := a0) E (Ac_clear_dc.at 0 rfl) hl rfl ?_
  refine r_iconst E (Ac_clear_dc.at 1 rfl) ?_
  obtain ⟨g1, h⟩ := ite_e h
  obtain ⟨M2, eM2, h⟩ := lt1_e h
  refine u_pI E eM2 zf_0_2 S g1 (show InR 0 by decide) (Or.inl rfl) rfl zw_2_15 (Ac_clear_dc.at 2 rfl) (fun H locs S3 => ?_)
  cases h
  exact r_vret E S3 True.intro (Ac_clear_dc.at 3 rfl)
theorem Ac_clear_c (l : Launch) (G : zG) (fu : Nat) (top : Int) (L : zL) (M : zM) (a0 : Int) {res : zM} (ha0 : InR a0) (h : Ac_clear fu L M a0 = some res) : Met l yX0_clear (Cond.code yX0_clear cX0_clear 1 none :: zTB) (zrm 1 0 0) (va_Pc [zR G.2.2.1 a0] (zPre G top L M)) (zQ G top L res none True) 0 0 (zA G) :=
  z_met (by decide +kernel) (by simp [zR_cat, zcat_I, zcat_S]) (Nat.le_of_ble_eq_true rfl) fun p e s m below meth c ls E hn S hl => Ac_clear_w E ha0 S (hl.sub (And.intro rfl True.intro)) h
end
theorem Lx_family_dc : zDL cX11_family [(0, .aload_n 0, 1, 1), (1, .getfield 21, 3, 4), (4, .invokevirtual 101, 3, 7), (7, .iconst (-1), 1, 8), (8, .if_icmp .eq 5, 3, 11), (11, .iconst (-1), 1, 12), (12, .ireturn, 1, 13), (13, .aload_n 0, 1, 14), (14, .getfield 21, 3, 17), (17, .aload_n 0, 1, 18), (18, .getfield 42, 3, 21), (21, .invokevirtual 111, 3, 24), (24, .aload_n 0, 1, 25), (25, .getfield 52, 3, 28), (28, .invokevirtual 115, 3, 31), (31, .aload_n 0, 1, 32), (32, .getfield 12, 3, 35), (35, .iconst 0, 1, 36), (36, .putfield 94, 3, 39), (39, .aload_n 0, 1, 40), (40, .iconst 1, 1, 41), (41, .putfield 105, 3, 44), (44, .aload_n 0, 1, 45), (45, .iconst 0, 1, 46), (46, .putfield 118, 3, 49), (49, .aload_n 0, 1, 50), (50, .iconst 0, 1, 51), (51, .putfield 121, 3, 54), (54, .aload_n 0, 1, 55), (55, .getfield 42, 3, 58), (58, .getfield 124, 3, 61), (61, .getfield 127, 3, 64), (64, .ireturn, 1, 65)] := zDL.of (by decide +kernel)
section
variable {p : Program} {l : Launch} {e : Env} {s : State} {m : MethodId} {args : Array Value} {below : List Frame} {meth : Method} {c : Code} {G : zG} {top : Int} {L : zL} {fu : Nat}
theorem Lx_family_w (E : zEv p m c cX11_family 1 s args RX11 meth (some .int) G) {res : (zM × Int)} {M : zM} {a0 : Int} {H : Heap} {locs : List Loc} {ls : Array Slot} (ha0 : InR a0) (S : zS G top L M s H locs) (hl : zLV ls 1 [some (zR G.2.2.1 a0)]) (h : Lx_family fu L M a0 = some res) : W p l e (zrm 9 0 0) s m args below meth c H locs 0 0 (MQ below (zQ G top L res.1 (some (.int (zO res.2))) (InR res.2)) args s 0 0 (zA G)) (F0 m 0 ls []) := by
  unfold Lx_family at h
  refine u_al_n (x := a0) E (Lx_family_dc.at 0 rfl) hl rfl ?_
  obtain ⟨g1, h⟩ := ite_e h
  refine u_gR E zf_11_1 S g1 zw_2_133 (Lx_family_dc.at 1 rfl) ?_
  obtain ⟨g2, h⟩ := ite_e h
  obtain ⟨M4, r3, er3, h⟩ := bd2_e h
  refine u_cVI (As := []) (rest := []) E S zcw_yX2_read zw_2_198 zw_2_199 zw_2_197 zck_2.1 rfl g2 (Fr_read_c l G fu top L M (M a0 1) (S.1.inR _ _) er3) (zrm_ok (by decide) (by decide)) ⟨Nat.le_refl 0, Nat.le_refl 0⟩ rfl (Nat.zero_le 8) hl.size rfl (Lx_family_dc.at 2 rfl) (fun H locs hr3 S5 => ?_)
  refine r_iconst E (Lx_family_dc.at 3 rfl) ?_
  refine r_icmp_eq (tgt := 13) E hr3 (show InR (-1) by decide) (Lx_family_dc.at 4 rfl) (by decide) (fun q => ?_) (fun q => ?_)
  · have h := ite_t h q
    refine u_al_n (x := a0) E (Lx_family_dc.at 7 rfl) hl rfl ?_
    refine u_gR E zf_11_1 S5 g1 zw_2_133 (Lx_family_dc.at 8 rfl) ?_
    refine u_al_n (x := a0) E (Lx_family_dc.at 9 rfl) hl rfl ?_
    refine u_gR E zf_11_4 S5 g1 zw_2_136 (Lx_family_dc.at 10 rfl) ?_
    obtain ⟨g6, h⟩ := ite_e h
    obtain ⟨M7, eM7, h⟩ := bd1_e h
    refine u_cVU (As := [zR G.2.2.1 (M4 a0 4)]) (rest := []) E S5 zcw_yX2_found zw_3_205 zw_3_206 zw_3_204 zck_2.1 rfl g6 (Fr_found_c l G fu top L M4 (M4 a0 1) (M4 a0 4) (S5.1.inR _ _) (S5.1.inR _ _) eM7) (zrm_ok (by decide) (by decide)) ⟨Nat.le_refl 0, Nat.le_refl 0⟩ rfl (Nat.zero_le 8) hl.size rfl (Lx_family_dc.at 11 rfl) (fun H locs _ S8 => ?_)
    refine u_al_n (x := a0) E (Lx_family_dc.at 12 rfl) hl rfl ?_
    refine u_gR E zf_11_6 S8 g1 zw_2_138 (Lx_family_dc.at 13 rfl) ?_
    obtain ⟨g9, h⟩ := ite_e h
    obtain ⟨M10, eM10, h⟩ := bd1_e h
    refine u_cVU (As := []) (rest := []) E S8 zcw_yX0_clear zw_3_230 zw_3_231 zw_3_229 zck_0.1 rfl g9 (Ac_clear_c l G fu top L M7 (M7 a0 6) (S8.1.inR _ _) eM10) (zrm_ok (by decide) (by decide)) ⟨Nat.le_refl 0, Nat.le_refl 0⟩ rfl (Nat.zero_le 8) hl.size rfl (Lx_family_dc.at 14 rfl) (fun H locs _ S11 => ?_)
    refine u_al_n (x := a0) E (Lx_family_dc.at 15 rfl) hl rfl ?_
    refine u_gR E zf_11_0 S11 g1 zw_2_132 (Lx_family_dc.at 16 rfl) ?_
    refine r_iconst E (Lx_family_dc.at 17 rfl) ?_
    obtain ⟨g12, h⟩ := ite_e h
    obtain ⟨M13, eM13, h⟩ := lt1_e h
    refine u_pI E eM13 zf_7_2 S11 g12 (show InR 0 by decide) (Or.inl rfl) rfl zw_1_42 (Lx_family_dc.at 18 rfl) (fun H locs S14 => ?_)
    refine u_al_n (x := a0) E (Lx_family_dc.at 19 rfl) hl rfl ?_
    refine r_iconst E (Lx_family_dc.at 20 rfl) ?_
    obtain ⟨M15, eM15, h⟩ := lt1_e h
    refine u_pZ E eM15 zf_11_11 S14 g1 z01_1 (Or.inl rfl) rfl zw_2_143 (Lx_family_dc.at 21 rfl) (fun H locs S16 => ?_)
    refine u_al_n (x := a0) E (Lx_family_dc.at 22 rfl) hl rfl ?_
    refine r_iconst E (Lx_family_dc.at 23 rfl) ?_
    obtain ⟨M17, eM17, h⟩ := lt1_e h
    refine u_pZ E eM17 zf_11_12 S16 g1 z01_0 (Or.inl rfl) rfl zw_2_144 (Lx_family_dc.at 24 rfl) (fun H locs S18 => ?_)
    refine u_al_n (x := a0) E (Lx_family_dc.at 25 rfl) hl rfl ?_
    refine r_iconst E (Lx_family_dc.at 26 rfl) ?_
    obtain ⟨M19, eM19, h⟩ := lt1_e h
    refine u_pZ E eM19 zf_11_13 S18 g1 z01_0 (Or.inl rfl) rfl zw_2_145 (Lx_family_dc.at 27 rfl) (fun H locs S20 => ?_)
    refine u_al_n (x := a0) E (Lx_family_dc.at 28 rfl) hl rfl ?_
    refine u_gR E zf_11_4 S20 g1 zw_2_136 (Lx_family_dc.at 29 rfl) ?_
    obtain ⟨g21, h⟩ := ite_e h
    refine u_gR E zf_1_0 S20 g21 zw_1_222 (Lx_family_dc.at 30 rfl) ?_
    obtain ⟨g22, h⟩ := ite_e h
    refine u_gI E zf_10_3 S20 g22 zw_1_195 (Lx_family_dc.at 31 rfl) ?_
    cases h
    exact r_iret E S20 (S20.1.inR _ _) (Lx_family_dc.at 32 rfl)
  · have h := ite_f h q
    refine r_iconst E (Lx_family_dc.at 5 rfl) ?_
    cases h
    exact r_iret E S5 (show InR (-1) by decide) (Lx_family_dc.at 6 rfl)
theorem Lx_family_c (l : Launch) (G : zG) (fu : Nat) (top : Int) (L : zL) (M : zM) (a0 : Int) {res : (zM × Int)} (ha0 : InR a0) (h : Lx_family fu L M a0 = some res) : Met l yX11_family (Cond.code yX11_family cX11_family 1 (some .int) :: zTB) (zrm 9 0 0) (va_Pc [zR G.2.2.1 a0] (zPre G top L M)) (zQ G top L res.1 (some (.int (zO res.2))) (InR res.2)) 0 0 (zA G) :=
  z_met (by decide +kernel) (by simp [zR_cat, zcat_I, zcat_S]) (Nat.le_of_ble_eq_true rfl) fun p e s m below meth c ls E hn S hl => Lx_family_w E ha0 S (hl.sub (And.intro rfl True.intro)) h
end
theorem Lx_refused_dc : zDL cX11_refused [(0, .iload_n 1, 1, 1), (1, .ifCond .lt 22, 3, 4), (4, .iload_n 1, 1, 5), (5, .aload_n 0, 1, 6), (6, .getfield 82, 3, 9), (9, .arraylength, 1, 10), (10, .if_icmp .ge 13, 3, 13), (13, .aload_n 0, 1, 14), (14, .getfield 82, 3, 17), (17, .iload_n 1, 1, 18), (18, .dup2, 1, 19), (19, .iaload, 1, 20), (20, .iconst 1, 1, 21), (21, .iadd, 1, 22), (22, .iastore, 1, 23), (23, .iconst (-1), 1, 24), (24, .ireturn, 1, 25)] := zDL.of (by decide +kernel)
section
variable {p : Program} {l : Launch} {e : Env} {s : State} {m : MethodId} {args : Array Value} {below : List Frame} {meth : Method} {c : Code} {G : zG} {top : Int} {L : zL} {fu : Nat}
theorem Lx_refused_w (E : zEv p m c cX11_refused 2 s args RX11 meth (some .int) G) {res : (zM × Int)} {M : zM} {a0 : Int} {a1 : Int} {H : Heap} {locs : List Loc} {ls : Array Slot} (ha0 : InR a0) (ha1 : InR a1) (S : zS G top L M s H locs) (hl : zLV ls 2 [some (zR G.2.2.1 a0), some (.int (zO a1))]) (h : Lx_refused fu L M a0 a1 = some res) : W p l e (zrm 1 0 0) s m args below meth c H locs 0 0 (MQ below (zQ G top L res.1 (some (.int (zO res.2))) (InR res.2)) args s 0 0 (zA G)) (F0 m 0 ls []) := by
  unfold Lx_refused at h
  refine u_il_n (x := a1) E (Lx_refused_dc.at 0 rfl) hl rfl ?_
  refine r_if_lt (tgt := 23) E ha1 (Lx_refused_dc.at 1 rfl) (by decide) (fun q => ?_) (fun q => ?_)
  · have h := ite_t h q
    refine r_iconst E (Lx_refused_dc.at 15 rfl) ?_
    cases h
    exact r_iret E S (show InR (-1) by decide) (Lx_refused_dc.at 16 rfl)
  · have h := ite_f h q
    refine u_il_n (x := a1) E (Lx_refused_dc.at 2 rfl) hl rfl ?_
    refine u_al_n (x := a0) E (Lx_refused_dc.at 3 rfl) hl rfl ?_
    obtain ⟨g1, h⟩ := ite_e h
    refine u_gR E zf_11_10 S g1 zw_2_142 (Lx_refused_dc.at 4 rfl) ?_
    obtain ⟨g2, h⟩ := ite_e h
    refine r_alen E S g2 (by decide) (Lx_refused_dc.at 5 rfl) ?_
    refine r_icmp_ge (tgt := 23) E ha1 (S.1.lenR _) (Lx_refused_dc.at 6 rfl) (by decide) (fun q => ?_) (fun q => ?_)
    · have h := ite_t h q
      refine u_al_n (x := a0) E (Lx_refused_dc.at 7 rfl) hl rfl ?_
      refine u_gR E zf_11_10 S g1 zw_2_142 (Lx_refused_dc.at 8 rfl) ?_
      refine u_il_n (x := a1) E (Lx_refused_dc.at 9 rfl) hl rfl ?_
      refine r_dup2 E (Lx_refused_dc.at 10 rfl) (zcat_I _) (zR_cat _ _) ?_
      obtain ⟨g3, h⟩ := ite_e h
      refine r_iald E S g2 g3 (Lx_refused_dc.at 11 rfl) ?_
      refine r_iconst E (Lx_refused_dc.at 12 rfl) ?_
      refine r_iadd E (Lx_refused_dc.at 13 rfl) ?_
      obtain ⟨g4, h⟩ := ite_e h
      obtain ⟨M5, eM5, h⟩ := lt1_e h
      refine u_iast E eM5 S g2 g4 (inR_w32 _) (Lx_refused_dc.at 14 rfl) (fun H locs S6 => ?_)
      refine r_iconst E (Lx_refused_dc.at 15 rfl) ?_
      cases h
      exact r_iret E S6 (show InR (-1) by decide) (Lx_refused_dc.at 16 rfl)
    · have h := ite_f h q
      refine r_iconst E (Lx_refused_dc.at 15 rfl) ?_
      cases h
      exact r_iret E S (show InR (-1) by decide) (Lx_refused_dc.at 16 rfl)
theorem Lx_refused_c (l : Launch) (G : zG) (fu : Nat) (top : Int) (L : zL) (M : zM) (a0 : Int) (a1 : Int) {res : (zM × Int)} (ha0 : InR a0) (ha1 : InR a1) (h : Lx_refused fu L M a0 a1 = some res) : Met l yX11_refused (Cond.code yX11_refused cX11_refused 2 (some .int) :: zTB) (zrm 1 0 0) (va_Pc [zR G.2.2.1 a0, .int (zO a1)] (zPre G top L M)) (zQ G top L res.1 (some (.int (zO res.2))) (InR res.2)) 0 0 (zA G) :=
  z_met (by decide +kernel) (by simp [zR_cat, zcat_I, zcat_S]) (Nat.le_of_ble_eq_true rfl) fun p e s m below meth c ls E hn S hl => Lx_refused_w E ha0 ha1 S (hl.sub (And.intro rfl (And.intro rfl True.intro))) h
end
theorem Ac_placeAt_dc : zDL cX0_placeAt [(0, .iload_n 1, 1, 1), (1, .ifCond .lt 21, 3, 4), (4, .iload_n 1, 1, 5), (5, .aload_n 0, 1, 6), (6, .getfield 11, 3, 9), (9, .arraylength, 1, 10), (10, .if_icmp .ge 12, 3, 13), (13, .aload_n 0, 1, 14), (14, .getfield 11, 3, 17), (17, .iload_n 1, 1, 18), (18, .aaload, 1, 19), (19, .goto 4, 3, 22), (22, .aconst_null, 1, 23), (23, .areturn, 1, 24)] := zDL.of (by decide +kernel)
section
variable {p : Program} {l : Launch} {e : Env} {s : State} {m : MethodId} {args : Array Value} {below : List Frame} {meth : Method} {c : Code} {G : zG} {top : Int} {L : zL} {fu : Nat}
theorem Ac_placeAt_w (E : zEv p m c cX0_placeAt 2 s args RX0 meth (some (.object "LaterLives$Affairs")) G) {res : Int} {M : zM} {a0 : Int} {a1 : Int} {H : Heap} {locs : List Loc} {ls : Array Slot} (ha0 : InR a0) (ha1 : InR a1) (S : zS G top L M s H locs) (hl : zLV ls 2 [some (zR G.2.2.1 a0), some (.int (zO a1))]) (h : Ac_placeAt fu L M a0 a1 = some res) : W p l e (zrm 1 0 0) s m args below meth c H locs 0 0 (MQ below (zQ G top L M (some (zR G.2.2.1 res)) (InR res)) args s 0 0 (zA G)) (F0 m 0 ls []) := by
  unfold Ac_placeAt at h
  refine u_il_n (x := a1) E (Ac_placeAt_dc.at 0 rfl) hl rfl ?_
  refine r_if_lt (tgt := 22) E ha1 (Ac_placeAt_dc.at 1 rfl) (by decide) (fun q => ?_) (fun q => ?_)
  · have h := ite_t h q
    refine r_null E (Ac_placeAt_dc.at 12 rfl) ?_
    cases h
    exact r_aret E (Or.inl ⟨_, rfl⟩) S (show InR 0 by decide) (Ac_placeAt_dc.at 13 rfl)
  · have h := ite_f h q
    refine u_il_n (x := a1) E (Ac_placeAt_dc.at 2 rfl) hl rfl ?_
    refine u_al_n (x := a0) E (Ac_placeAt_dc.at 3 rfl) hl rfl ?_
    obtain ⟨g1, h⟩ := ite_e h
    refine u_gR E zf_0_0 S g1 zw_2_13 (Ac_placeAt_dc.at 4 rfl) ?_
    obtain ⟨g2, h⟩ := ite_e h
    refine r_alen E S g2 (by decide) (Ac_placeAt_dc.at 5 rfl) ?_
    refine r_icmp_ge (tgt := 22) E ha1 (S.1.lenR _) (Ac_placeAt_dc.at 6 rfl) (by decide) (fun q => ?_) (fun q => ?_)
    · have h := ite_t h q
      refine u_al_n (x := a0) E (Ac_placeAt_dc.at 7 rfl) hl rfl ?_
      refine u_gR E zf_0_0 S g1 zw_2_13 (Ac_placeAt_dc.at 8 rfl) ?_
      refine u_il_n (x := a1) E (Ac_placeAt_dc.at 9 rfl) hl rfl ?_
      obtain ⟨g3, h⟩ := ite_e h
      refine r_aald E S g2 (by decide) g3 (Ac_placeAt_dc.at 10 rfl) ?_
      refine r_goto (tgt := 23) E (Ac_placeAt_dc.at 11 rfl) (by decide) ?_
      cases h
      exact r_aret E (Or.inl ⟨_, rfl⟩) S (S.1.inR _ _) (Ac_placeAt_dc.at 13 rfl)
    · have h := ite_f h q
      refine r_null E (Ac_placeAt_dc.at 12 rfl) ?_
      cases h
      exact r_aret E (Or.inl ⟨_, rfl⟩) S (show InR 0 by decide) (Ac_placeAt_dc.at 13 rfl)
theorem Ac_placeAt_c (l : Launch) (G : zG) (fu : Nat) (top : Int) (L : zL) (M : zM) (a0 : Int) (a1 : Int) {res : Int} (ha0 : InR a0) (ha1 : InR a1) (h : Ac_placeAt fu L M a0 a1 = some res) : Met l yX0_placeAt (Cond.code yX0_placeAt cX0_placeAt 2 (some (.object "LaterLives$Affairs")) :: zTB) (zrm 1 0 0) (va_Pc [zR G.2.2.1 a0, .int (zO a1)] (zPre G top L M)) (zQ G top L M (some (zR G.2.2.1 res)) (InR res)) 0 0 (zA G) :=
  z_met (by decide +kernel) (by simp [zR_cat, zcat_I, zcat_S]) (Nat.le_of_ble_eq_true rfl) fun p e s m below meth c ls E hn S hl => Ac_placeAt_w E ha0 ha1 S (hl.sub (And.intro rfl (And.intro rfl True.intro))) h
end
