theorem Tr_belongs_dc : zDL cX8_belongs [(0, .aload_n 0, 1, 1), (1, .getfield 12, 3, 4), (4, .iload_n 2, 1, 5), (5, .invokevirtual 98, 3, 8), (8, .istore_n 3, 1, 9), (9, .iload_n 1, 1, 10), (10, .ifCond .ne 70, 3, 13), (13, .aload_n 0, 1, 14), (14, .getfield 56, 3, 17), (17, .iconst 2, 1, 18), (18, .if_icmp .ne 24, 3, 21), (21, .aload_n 0, 1, 22), (22, .getfield 12, 3, 25), (25, .iload_n 3, 1, 26), (26, .invokevirtual 98, 3, 29), (29, .aload_n 0, 1, 30), (30, .getfield 60, 3, 33), (33, .if_icmp .ne 7, 3, 36), (36, .iconst 1, 1, 37), (37, .goto 4, 3, 40), (40, .iconst 0, 1, 41), (41, .ireturn, 1, 42), (42, .aload_n 0, 1, 43), (43, .getfield 56, 3, 46), (46, .iconst 1, 1, 47), (47, .if_icmp .ne 19, 3, 50), (50, .iload_n 3, 1, 51), (51, .aload_n 0, 1, 52), (52, .getfield 60, 3, 55), (55, .if_icmp .ne 7, 3, 58), (58, .iconst 1, 1, 59), (59, .goto 20, 3, 62), (62, .iconst 0, 1, 63), (63, .goto 16, 3, 66), (66, .iload_n 2, 1, 67), (67, .aload_n 0, 1, 68), (68, .getfield 60, 3, 71), (71, .if_icmp .ne 7, 3, 74), (74, .iconst 1, 1, 75), (75, .goto 4, 3, 78), (78, .iconst 0, 1, 79), (79, .ireturn, 1, 80), (80, .aload_n 0, 1, 81), (81, .getfield 12, 3, 84), (84, .iload_n 2, 1, 85), (85, .invokevirtual 89, 3, 88), (88, .ineg, 1, 89), (89, .aload_n 0, 1, 90), (90, .getfield 70, 3, 93), (93, .if_icmp .le 5, 3, 96), (96, .iconst 0, 1, 97), (97, .ireturn, 1, 98), (98, .iload_n 1, 1, 99), (99, .iconst 2, 1, 100), (100, .if_icmp .ne 25, 3, 103), (103, .aload_n 0, 1, 104), (104, .getfield 56, 3, 107), (107, .iconst 2, 1, 108), (108, .if_icmp .ne 15, 3, 111), (111, .iload_n 2, 1, 112), (112, .aload_n 0, 1, 113), (113, .getfield 60, 3, 116), (116, .if_icmp .ne 7, 3, 119), (119, .iconst 1, 1, 120), (120, .goto 4, 3, 123), (123, .iconst 0, 1, 124), (124, .ireturn, 1, 125), (125, .aload_n 0, 1, 126), (126, .getfield 56, 3, 129), (129, .iconst 1, 1, 130), (130, .if_icmp .ne 19, 3, 133), (133, .iload_n 2, 1, 134), (134, .aload_n 0, 1, 135), (135, .getfield 60, 3, 138), (138, .if_icmp .ne 7, 3, 141), (141, .iconst 1, 1, 142), (142, .goto 28, 3, 145), (145, .iconst 0, 1, 146), (146, .goto 24, 3, 149), (149, .aload_n 0, 1, 150), (150, .getfield 56, 3, 153), (153, .iconst 2, 1, 154), (154, .if_icmp .ne 15, 3, 157), (157, .iload_n 3, 1, 158), (158, .aload_n 0, 1, 159), (159, .getfield 60, 3, 162), (162, .if_icmp .ne 7, 3, 165), (165, .iconst 1, 1, 166), (166, .goto 4, 3, 169), (169, .iconst 0, 1, 170), (170, .ireturn, 1, 171)] := zDL.of (by decide +kernel)
section
variable {p : Program} {l : Launch} {e : Env} {s : State} {m : MethodId} {args : Array Value} {below : List Frame} {meth : Method} {c : Code} {G : zG} {top : Int} {L : zL} {fu : Nat}
theorem Tr_belongs_w (E : zEv p m c cX8_belongs 4 s args RX8 meth (some .boolean) G) {res : Int} {M : zM} {a0 : Int} {a1 : Int} {a2 : Int} {H : Heap} {locs : List Loc} {ls : Array Slot} (ha0 : InR a0) (ha1 : InR a1) (ha2 : InR a2) (S : zS G top L M s H locs) (hl : zLV ls 4 [some (zR G.2.2.1 a0), some (.int (zO a1)), some (.int (zO a2)), none]) (h : Tr_belongs fu L M a0 a1 a2 = some res) : W p l e (zrm 2 0 0) s m args below meth c H locs 0 0 (MQ below (zQ G top L M (some (.int (zO res))) (0 ≤ res ∧ res ≤ 1)) args s 0 0 (zA G)) (F0 m 0 ls []) := by
  unfold Tr_belongs at h
  refine u_al_n (x := a0) E (Tr_belongs_dc.at 0 rfl) hl rfl ?_
  obtain ⟨g1, h⟩ := ite_e h
  refine u_gR E zf_8_1 S g1 zw_2_96 (Tr_belongs_dc.at 1 rfl) ?_
  refine u_il_n (x := a2) E (Tr_belongs_dc.at 2 rfl) hl rfl ?_
  obtain ⟨g2, h⟩ := ite_e h
  obtain ⟨r3, er3, h⟩ := bd1_e h
  refine u_cVI (As := [.int (zO a2)]) (rest := []) E S zcw_yX10_parentOf zw_4_23 zw_4_24 zw_5_142 zck_10.1 rfl g2 (Wd_parentOf_c l G fu top L M (M a0 1) a2 (S.1.inR _ _) ha2 er3) (zrm_ok (by decide) (by decide)) ⟨Nat.le_refl 0, Nat.le_refl 0⟩ rfl (Nat.zero_le 8) hl.size rfl (Tr_belongs_dc.at 3 rfl) (fun H locs hr3 S4 => ?_)
  refine u_ist_n (y := r3) (vs' := [some (zR G.2.2.1 a0), some (.int (zO a1)), some (.int (zO a2)), some (.int (zO r3))]) E rfl (Tr_belongs_dc.at 4 rfl) hl (by decide) rfl (fun ls hl => ?_)
  refine u_il_n (x := a1) E (Tr_belongs_dc.at 5 rfl) hl rfl ?_
  refine r_if_ne (tgt := 80) E ha1 (Tr_belongs_dc.at 6 rfl) (by decide) (fun q => ?_) (fun q => ?_)
  · have h := ite_t h q
    refine u_al_n (x := a0) E (Tr_belongs_dc.at 7 rfl) hl rfl ?_
    refine u_gI E zf_8_6 S4 g1 zw_2_101 (Tr_belongs_dc.at 8 rfl) ?_
    refine r_iconst E (Tr_belongs_dc.at 9 rfl) ?_
    refine r_icmp_ne (tgt := 42) E (S4.1.inR _ _) (show InR 2 by decide) (Tr_belongs_dc.at 10 rfl) (by decide) (fun q => ?_) (fun q => ?_)
    · have h := ite_t h q
      refine u_al_n (x := a0) E (Tr_belongs_dc.at 11 rfl) hl rfl ?_
      refine u_gR E zf_8_1 S4 g1 zw_2_96 (Tr_belongs_dc.at 12 rfl) ?_
      refine u_il_n (x := r3) E (Tr_belongs_dc.at 13 rfl) hl rfl ?_
      obtain ⟨r5, er5, h⟩ := bd1_e h
      refine u_cVI (As := [.int (zO r3)]) (rest := []) E S4 zcw_yX10_parentOf zw_4_23 zw_4_24 zw_5_142 zck_10.1 rfl g2 (Wd_parentOf_c l G fu top L M (M a0 1) r3 (S4.1.inR _ _) hr3 er5) (zrm_ok (by decide) (by decide)) ⟨Nat.le_refl 0, Nat.le_refl 0⟩ rfl (Nat.zero_le 8) hl.size rfl (Tr_belongs_dc.at 14 rfl) (fun H locs hr5 S6 => ?_)
      refine u_al_n (x := a0) E (Tr_belongs_dc.at 15 rfl) hl rfl ?_
      refine u_gI E zf_8_7 S6 g1 zw_2_102 (Tr_belongs_dc.at 16 rfl) ?_
      refine r_icmp_ne (tgt := 40) E hr5 (S6.1.inR _ _) (Tr_belongs_dc.at 17 rfl) (by decide) (fun q => ?_) (fun q => ?_)
      · have h := ite_t h q
        refine r_iconst E (Tr_belongs_dc.at 18 rfl) ?_
        refine r_goto (tgt := 41) E (Tr_belongs_dc.at 19 rfl) (by decide) ?_
        cases h
        exact r_zret E S6 z01_1 z01_1 (Tr_belongs_dc.at 21 rfl)
      · have h := ite_f h q
        refine r_iconst E (Tr_belongs_dc.at 20 rfl) ?_
        cases h
        exact r_zret E S6 z01_0 z01_0 (Tr_belongs_dc.at 21 rfl)
    · have h := ite_f h q
      refine u_al_n (x := a0) E (Tr_belongs_dc.at 22 rfl) hl rfl ?_
      refine u_gI E zf_8_6 S4 g1 zw_2_101 (Tr_belongs_dc.at 23 rfl) ?_
      refine r_iconst E (Tr_belongs_dc.at 24 rfl) ?_
      refine r_icmp_ne (tgt := 66) E (S4.1.inR _ _) (show InR 1 by decide) (Tr_belongs_dc.at 25 rfl) (by decide) (fun q => ?_) (fun q => ?_)
      · have h := ite_t h q
        refine u_il_n (x := r3) E (Tr_belongs_dc.at 26 rfl) hl rfl ?_
        refine u_al_n (x := a0) E (Tr_belongs_dc.at 27 rfl) hl rfl ?_
        refine u_gI E zf_8_7 S4 g1 zw_2_102 (Tr_belongs_dc.at 28 rfl) ?_
        refine r_icmp_ne (tgt := 62) E hr3 (S4.1.inR _ _) (Tr_belongs_dc.at 29 rfl) (by decide) (fun q => ?_) (fun q => ?_)
        · have h := ite_t h q
          refine r_iconst E (Tr_belongs_dc.at 30 rfl) ?_
          refine r_goto (tgt := 79) E (Tr_belongs_dc.at 31 rfl) (by decide) ?_
          cases h
          exact r_zret E S4 z01_1 z01_1 (Tr_belongs_dc.at 41 rfl)
        · have h := ite_f h q
          refine r_iconst E (Tr_belongs_dc.at 32 rfl) ?_
          refine r_goto (tgt := 79) E (Tr_belongs_dc.at 33 rfl) (by decide) ?_
          cases h
          exact r_zret E S4 z01_0 z01_0 (Tr_belongs_dc.at 41 rfl)
      · have h := ite_f h q
        refine u_il_n (x := a2) E (Tr_belongs_dc.at 34 rfl) hl rfl ?_
        refine u_al_n (x := a0) E (Tr_belongs_dc.at 35 rfl) hl rfl ?_
        refine u_gI E zf_8_7 S4 g1 zw_2_102 (Tr_belongs_dc.at 36 rfl) ?_
        refine r_icmp_ne (tgt := 78) E ha2 (S4.1.inR _ _) (Tr_belongs_dc.at 37 rfl) (by decide) (fun q => ?_) (fun q => ?_)
        · have h := ite_t h q
          refine r_iconst E (Tr_belongs_dc.at 38 rfl) ?_
          refine r_goto (tgt := 79) E (Tr_belongs_dc.at 39 rfl) (by decide) ?_
          cases h
          exact r_zret E S4 z01_1 z01_1 (Tr_belongs_dc.at 41 rfl)
        · have h := ite_f h q
          refine r_iconst E (Tr_belongs_dc.at 40 rfl) ?_
          cases h
          exact r_zret E S4 z01_0 z01_0 (Tr_belongs_dc.at 41 rfl)
  · have h := ite_f h q
    refine u_al_n (x := a0) E (Tr_belongs_dc.at 42 rfl) hl rfl ?_
    refine u_gR E zf_8_1 S4 g1 zw_2_96 (Tr_belongs_dc.at 43 rfl) ?_
    refine u_il_n (x := a2) E (Tr_belongs_dc.at 44 rfl) hl rfl ?_
    obtain ⟨r7, er7, h⟩ := bd1_e h
    refine u_cVI (As := [.int (zO a2)]) (rest := []) E S4 zcw_yX10_bornIn zw_4_19 zw_4_20 zw_5_143 zck_10.1 rfl g2 (Wd_bornIn_c l G fu top L M (M a0 1) a2 (S4.1.inR _ _) ha2 er7) (zrm_ok (by decide) (by decide)) ⟨Nat.le_refl 0, Nat.le_refl 0⟩ rfl (Nat.zero_le 8) hl.size rfl (Tr_belongs_dc.at 45 rfl) (fun H locs hr7 S8 => ?_)
    refine r_ineg E (Tr_belongs_dc.at 46 rfl) ?_
    refine u_al_n (x := a0) E (Tr_belongs_dc.at 47 rfl) hl rfl ?_
    refine u_gI E zf_8_9 S8 g1 zw_2_104 (Tr_belongs_dc.at 48 rfl) ?_
    refine r_icmp_le (tgt := 98) E (inR_w32 _) (S8.1.inR _ _) (Tr_belongs_dc.at 49 rfl) (by decide) (fun q => ?_) (fun q => ?_)
    · have h := ite_t h q
      refine r_iconst E (Tr_belongs_dc.at 50 rfl) ?_
      cases h
      exact r_zret E S8 z01_0 z01_0 (Tr_belongs_dc.at 51 rfl)
    · have h := ite_f h q
      refine u_il_n (x := a1) E (Tr_belongs_dc.at 52 rfl) hl rfl ?_
      refine r_iconst E (Tr_belongs_dc.at 53 rfl) ?_
      refine r_icmp_ne (tgt := 125) E ha1 (show InR 2 by decide) (Tr_belongs_dc.at 54 rfl) (by decide) (fun q => ?_) (fun q => ?_)
      · have h := ite_t h q
        refine u_al_n (x := a0) E (Tr_belongs_dc.at 55 rfl) hl rfl ?_
        refine u_gI E zf_8_6 S8 g1 zw_2_101 (Tr_belongs_dc.at 56 rfl) ?_
        refine r_iconst E (Tr_belongs_dc.at 57 rfl) ?_
        refine r_icmp_ne (tgt := 123) E (S8.1.inR _ _) (show InR 2 by decide) (Tr_belongs_dc.at 58 rfl) (by decide) (fun q => ?_) (fun q => ?_)
        · have h := ite_t h q
          refine u_il_n (x := a2) E (Tr_belongs_dc.at 59 rfl) hl rfl ?_
          refine u_al_n (x := a0) E (Tr_belongs_dc.at 60 rfl) hl rfl ?_
          refine u_gI E zf_8_7 S8 g1 zw_2_102 (Tr_belongs_dc.at 61 rfl) ?_
          refine r_icmp_ne (tgt := 123) E ha2 (S8.1.inR _ _) (Tr_belongs_dc.at 62 rfl) (by decide) (fun q => ?_) (fun q => ?_)
          · have h := ite_t h q
            refine r_iconst E (Tr_belongs_dc.at 63 rfl) ?_
            refine r_goto (tgt := 124) E (Tr_belongs_dc.at 64 rfl) (by decide) ?_
            cases h
            exact r_zret E S8 z01_1 z01_1 (Tr_belongs_dc.at 66 rfl)
          · have h := ite_f h q
            refine r_iconst E (Tr_belongs_dc.at 65 rfl) ?_
            cases h
            exact r_zret E S8 z01_0 z01_0 (Tr_belongs_dc.at 66 rfl)
        · have h := ite_f h q
          refine r_iconst E (Tr_belongs_dc.at 65 rfl) ?_
          cases h
          exact r_zret E S8 z01_0 z01_0 (Tr_belongs_dc.at 66 rfl)
      · have h := ite_f h q
        refine u_al_n (x := a0) E (Tr_belongs_dc.at 67 rfl) hl rfl ?_
        refine u_gI E zf_8_6 S8 g1 zw_2_101 (Tr_belongs_dc.at 68 rfl) ?_
        refine r_iconst E (Tr_belongs_dc.at 69 rfl) ?_
        refine r_icmp_ne (tgt := 149) E (S8.1.inR _ _) (show InR 1 by decide) (Tr_belongs_dc.at 70 rfl) (by decide) (fun q => ?_) (fun q => ?_)
        · have h := ite_t h q
          refine u_il_n (x := a2) E (Tr_belongs_dc.at 71 rfl) hl rfl ?_
          refine u_al_n (x := a0) E (Tr_belongs_dc.at 72 rfl) hl rfl ?_
          refine u_gI E zf_8_7 S8 g1 zw_2_102 (Tr_belongs_dc.at 73 rfl) ?_
          refine r_icmp_ne (tgt := 145) E ha2 (S8.1.inR _ _) (Tr_belongs_dc.at 74 rfl) (by decide) (fun q => ?_) (fun q => ?_)
          · have h := ite_t h q
            refine r_iconst E (Tr_belongs_dc.at 75 rfl) ?_
            refine r_goto (tgt := 170) E (Tr_belongs_dc.at 76 rfl) (by decide) ?_
            cases h
            exact r_zret E S8 z01_1 z01_1 (Tr_belongs_dc.at 90 rfl)
          · have h := ite_f h q
            refine r_iconst E (Tr_belongs_dc.at 77 rfl) ?_
            refine r_goto (tgt := 170) E (Tr_belongs_dc.at 78 rfl) (by decide) ?_
            cases h
            exact r_zret E S8 z01_0 z01_0 (Tr_belongs_dc.at 90 rfl)
        · have h := ite_f h q
          refine u_al_n (x := a0) E (Tr_belongs_dc.at 79 rfl) hl rfl ?_
          refine u_gI E zf_8_6 S8 g1 zw_2_101 (Tr_belongs_dc.at 80 rfl) ?_
          refine r_iconst E (Tr_belongs_dc.at 81 rfl) ?_
          refine r_icmp_ne (tgt := 169) E (S8.1.inR _ _) (show InR 2 by decide) (Tr_belongs_dc.at 82 rfl) (by decide) (fun q => ?_) (fun q => ?_)
          · have h := ite_t h q
            refine u_il_n (x := r3) E (Tr_belongs_dc.at 83 rfl) hl rfl ?_
            refine u_al_n (x := a0) E (Tr_belongs_dc.at 84 rfl) hl rfl ?_
            refine u_gI E zf_8_7 S8 g1 zw_2_102 (Tr_belongs_dc.at 85 rfl) ?_
            refine r_icmp_ne (tgt := 169) E hr3 (S8.1.inR _ _) (Tr_belongs_dc.at 86 rfl) (by decide) (fun q => ?_) (fun q => ?_)
            · have h := ite_t h q
              refine r_iconst E (Tr_belongs_dc.at 87 rfl) ?_
              refine r_goto (tgt := 170) E (Tr_belongs_dc.at 88 rfl) (by decide) ?_
              cases h
              exact r_zret E S8 z01_1 z01_1 (Tr_belongs_dc.at 90 rfl)
            · have h := ite_f h q
              refine r_iconst E (Tr_belongs_dc.at 89 rfl) ?_
              cases h
              exact r_zret E S8 z01_0 z01_0 (Tr_belongs_dc.at 90 rfl)
          · have h := ite_f h q
            refine r_iconst E (Tr_belongs_dc.at 89 rfl) ?_
            cases h
            exact r_zret E S8 z01_0 z01_0 (Tr_belongs_dc.at 90 rfl)
theorem Tr_belongs_c (l : Launch) (G : zG) (fu : Nat) (top : Int) (L : zL) (M : zM) (a0 : Int) (a1 : Int) (a2 : Int) {res : Int} (ha0 : InR a0) (ha1 : InR a1) (ha2 : InR a2) (h : Tr_belongs fu L M a0 a1 a2 = some res) : Met l yX8_belongs (Cond.code yX8_belongs cX8_belongs 4 (some .boolean) :: zTB) (zrm 2 0 0) (va_Pc [zR G.2.2.1 a0, .int (zO a1), .int (zO a2)] (zPre G top L M)) (zQ G top L M (some (.int (zO res))) (0 ≤ res ∧ res ≤ 1)) 0 0 (zA G) :=
  z_met (by decide +kernel) (by simp [zR_cat, zcat_I, zcat_S]) (Nat.le_of_ble_eq_true rfl) fun p e s m below meth c ls E hn S hl => Tr_belongs_w E ha0 ha1 ha2 S (hl.sub (And.intro rfl (And.intro rfl (And.intro rfl True.intro)))) h
end
theorem Tr_addMembers_dc : zDL cX8_addMembers [(0, .iconst 0, 1, 1), (1, .istore_n 2, 1, 2), (2, .iload_n 2, 1, 3), (3, .aload_n 0, 1, 4), (4, .getfield 12, 3, 7), (7, .getfield 82, 3, 10), (10, .if_icmp .ge 64, 3, 13), (13, .aload_n 0, 1, 14), (14, .iload_n 1, 1, 15), (15, .iload_n 2, 1, 16), (16, .invokevirtual 85, 3, 19), (19, .ifCond .eq 49, 3, 22), (22, .aload_n 0, 1, 23), (23, .getfield 71, 3, 26), (26, .ifCond .lt 42, 3, 29), (29, .aload_n 0, 1, 30), (30, .getfield 71, 3, 33), (33, .bipush 24, 2, 35), (35, .if_icmp .ge 33, 3, 38), (38, .aload_n 0, 1, 39), (39, .getfield 21, 3, 42), (42, .aload_n 0, 1, 43), (43, .getfield 71, 3, 46), (46, .iload_n 1, 1, 47), (47, .iastore, 1, 48), (48, .aload_n 0, 1, 49), (49, .getfield 25, 3, 52), (52, .aload_n 0, 1, 53), (53, .getfield 71, 3, 56), (56, .iload_n 2, 1, 57), (57, .iastore, 1, 58), (58, .aload_n 0, 1, 59), (59, .dup, 1, 60), (60, .getfield 71, 3, 63), (63, .iconst 1, 1, 64), (64, .iadd, 1, 65), (65, .putfield 71, 3, 68), (68, .iinc 2 1, 3, 71), (71, .goto (-69), 3, 74), (74, .return_, 1, 75)] := zDL.of (by decide +kernel)
section
variable {p : Program} {l : Launch} {e : Env} {s : State} {m : MethodId} {args : Array Value} {below : List Frame} {meth : Method} {c : Code} {G : zG} {top : Int} {L : zL} {fu : Nat}
theorem Tr_addMembers_s2_w (E : zEv p m c cX8_addMembers 3 s args RX8 meth none G) {res : zM} {k2 : zM → Int → Int → Int → Option zM} (hk2 : ∀ (M : zM) (x0 : Int) (x1 : Int) (x2 : Int), InR x0 → InR x1 → InR x2 → ∀ (H : Heap) (locs : List Loc) (ls : Array Slot), zS G top L M s H locs → zLV ls 3 [some (zR G.2.2.1 x0), some (.int (zO x1)), some (.int (zO x2))] → k2 M x0 x1 x2 = some res → W p l e (zrm 3 0 0) s m args below meth c H locs 0 0 (MQ below (zQ G top L res none True) args s 0 0 (zA G)) (F0 m 2 ls [])) {M : zM} {x0 : Int} {x1 : Int} {x2 : Int} {H : Heap} {locs : List Loc} {ls : Array Slot} (hx0 : InR x0) (hx1 : InR x1) (hx2 : InR x2) (S : zS G top L M s H locs) (hl : zLV ls 3 [some (zR G.2.2.1 x0), some (.int (zO x1)), some (.int (zO x2))]) (h : Tr_addMembers_s2 fu k2 L M x0 x1 x2 = some res) : W p l e (zrm 3 0 0) s m args below meth c H locs 0 0 (MQ below (zQ G top L res none True) args s 0 0 (zA G)) (F0 m 2 ls []) := by
  unfold Tr_addMembers_s2 at h
  refine u_il_n (x := x2) E (Tr_addMembers_dc.at 2 rfl) hl rfl ?_
  refine u_al_n (x := x0) E (Tr_addMembers_dc.at 3 rfl) hl rfl ?_
  obtain ⟨g1, h⟩ := ite_e h
  refine u_gR E zf_8_1 S g1 zw_2_96 (Tr_addMembers_dc.at 4 rfl) ?_
  obtain ⟨g2, h⟩ := ite_e h
  refine u_gI E zf_10_3 S g2 zw_1_194 (Tr_addMembers_dc.at 5 rfl) ?_
  refine r_icmp_ge (tgt := 74) E hx2 (S.1.inR _ _) (Tr_addMembers_dc.at 6 rfl) (by decide) (fun q => ?_) (fun q => ?_)
  · have h := ite_t h q
    refine u_al_n (x := x0) E (Tr_addMembers_dc.at 7 rfl) hl rfl ?_
    refine u_il_n (x := x1) E (Tr_addMembers_dc.at 8 rfl) hl rfl ?_
    refine u_il_n (x := x2) E (Tr_addMembers_dc.at 9 rfl) hl rfl ?_
    obtain ⟨r3, er3, h⟩ := bd1_e h
    refine u_cVI (As := [.int (zO x1), .int (zO x2)]) (rest := []) E S zcw_yX8_belongs zw_5_139 zw_5_140 zw_5_138 zck_8.1 rfl g1 (Tr_belongs_c l G fu top L M x0 x1 x2 hx0 hx1 hx2 er3) (zrm_ok (by decide) (by decide)) ⟨Nat.le_refl 0, Nat.le_refl 0⟩ rfl (Nat.zero_le 8) hl.size rfl (Tr_addMembers_dc.at 10 rfl) (fun H locs hr3 S4 => ?_)
    refine r_if_eq (tgt := 68) E (inR_01 hr3) (Tr_addMembers_dc.at 11 rfl) (by decide) (fun q => ?_) (fun q => ?_)
    · have h := ite_t h q
      obtain ⟨v5, ev5, h⟩ := lt1_e h
      have hv5 := inR_eq ev5 (inR_w32 _)
      refine u_iinc (y := v5) (vs' := [some (zR G.2.2.1 x0), some (.int (zO x1)), some (.int (zO v5))]) E ev5 (Tr_addMembers_dc.at 37 rfl) hl rfl (by decide) rfl (fun ls hl => ?_)
      refine r_goto (tgt := 2) E (Tr_addMembers_dc.at 38 rfl) (by decide) ?_
      exact hk2 _ x0 x1 v5 hx0 hx1 hv5 _ _ _ S4 (hl.sub (And.intro rfl (And.intro rfl (And.intro rfl True.intro)))) h
    · have h := ite_f h q
      refine u_al_n (x := x0) E (Tr_addMembers_dc.at 12 rfl) hl rfl ?_
      refine u_gI E zf_8_5 S4 g1 zw_2_100 (Tr_addMembers_dc.at 13 rfl) ?_
      refine r_if_lt (tgt := 68) E (S4.1.inR _ _) (Tr_addMembers_dc.at 14 rfl) (by decide) (fun q => ?_) (fun q => ?_)
      · have h := ite_t h q
        obtain ⟨v6, ev6, h⟩ := lt1_e h
        have hv6 := inR_eq ev6 (inR_w32 _)
        refine u_iinc (y := v6) (vs' := [some (zR G.2.2.1 x0), some (.int (zO x1)), some (.int (zO v6))]) E ev6 (Tr_addMembers_dc.at 37 rfl) hl rfl (by decide) rfl (fun ls hl => ?_)
        refine r_goto (tgt := 2) E (Tr_addMembers_dc.at 38 rfl) (by decide) ?_
        exact hk2 _ x0 x1 v6 hx0 hx1 hv6 _ _ _ S4 (hl.sub (And.intro rfl (And.intro rfl (And.intro rfl True.intro)))) h
      · have h := ite_f h q
        refine u_al_n (x := x0) E (Tr_addMembers_dc.at 15 rfl) hl rfl ?_
        refine u_gI E zf_8_5 S4 g1 zw_2_100 (Tr_addMembers_dc.at 16 rfl) ?_
        refine r_bipush E (Tr_addMembers_dc.at 17 rfl) rfl ?_
        refine r_icmp_ge (tgt := 68) E (S4.1.inR _ _) (show InR 24 by decide) (Tr_addMembers_dc.at 18 rfl) (by decide) (fun q => ?_) (fun q => ?_)
        · have h := ite_t h q
          refine u_al_n (x := x0) E (Tr_addMembers_dc.at 19 rfl) hl rfl ?_
          refine u_gR E zf_8_3 S4 g1 zw_2_98 (Tr_addMembers_dc.at 20 rfl) ?_
          refine u_al_n (x := x0) E (Tr_addMembers_dc.at 21 rfl) hl rfl ?_
          refine u_gI E zf_8_5 S4 g1 zw_2_100 (Tr_addMembers_dc.at 22 rfl) ?_
          refine u_il_n (x := x1) E (Tr_addMembers_dc.at 23 rfl) hl rfl ?_
          obtain ⟨g7, h⟩ := ite_e h
          obtain ⟨g8, h⟩ := ite_e h
          obtain ⟨M9, eM9, h⟩ := lt1_e h
          refine u_iast E eM9 S4 g7 g8 hx1 (Tr_addMembers_dc.at 24 rfl) (fun H locs S10 => ?_)
          refine u_al_n (x := x0) E (Tr_addMembers_dc.at 25 rfl) hl rfl ?_
          refine u_gR E zf_8_4 S10 g1 zw_2_99 (Tr_addMembers_dc.at 26 rfl) ?_
          refine u_al_n (x := x0) E (Tr_addMembers_dc.at 27 rfl) hl rfl ?_
          refine u_gI E zf_8_5 S10 g1 zw_2_100 (Tr_addMembers_dc.at 28 rfl) ?_
          refine u_il_n (x := x2) E (Tr_addMembers_dc.at 29 rfl) hl rfl ?_
          obtain ⟨g11, h⟩ := ite_e h
          obtain ⟨g12, h⟩ := ite_e h
          obtain ⟨M13, eM13, h⟩ := lt1_e h
          refine u_iast E eM13 S10 g11 g12 hx2 (Tr_addMembers_dc.at 30 rfl) (fun H locs S14 => ?_)
          refine u_al_n (x := x0) E (Tr_addMembers_dc.at 31 rfl) hl rfl ?_
          refine r_dup E (Tr_addMembers_dc.at 32 rfl) (zR_cat _ _) ?_
          refine u_gI E zf_8_5 S14 g1 zw_2_100 (Tr_addMembers_dc.at 33 rfl) ?_
          refine r_iconst E (Tr_addMembers_dc.at 34 rfl) ?_
          refine r_iadd E (Tr_addMembers_dc.at 35 rfl) ?_
          obtain ⟨M15, eM15, h⟩ := lt1_e h
          refine u_pI E eM15 zf_8_5 S14 g1 (inR_w32 _) (Or.inl rfl) rfl zw_2_100 (Tr_addMembers_dc.at 36 rfl) (fun H locs S16 => ?_)
          obtain ⟨v17, ev17, h⟩ := lt1_e h
          have hv17 := inR_eq ev17 (inR_w32 _)
          refine u_iinc (y := v17) (vs' := [some (zR G.2.2.1 x0), some (.int (zO x1)), some (.int (zO v17))]) E ev17 (Tr_addMembers_dc.at 37 rfl) hl rfl (by decide) rfl (fun ls hl => ?_)
          refine r_goto (tgt := 2) E (Tr_addMembers_dc.at 38 rfl) (by decide) ?_
          exact hk2 _ x0 x1 v17 hx0 hx1 hv17 _ _ _ S16 (hl.sub (And.intro rfl (And.intro rfl (And.intro rfl True.intro)))) h
        · have h := ite_f h q
          obtain ⟨v18, ev18, h⟩ := lt1_e h
          have hv18 := inR_eq ev18 (inR_w32 _)
          refine u_iinc (y := v18) (vs' := [some (zR G.2.2.1 x0), some (.int (zO x1)), some (.int (zO v18))]) E ev18 (Tr_addMembers_dc.at 37 rfl) hl rfl (by decide) rfl (fun ls hl => ?_)
          refine r_goto (tgt := 2) E (Tr_addMembers_dc.at 38 rfl) (by decide) ?_
          exact hk2 _ x0 x1 v18 hx0 hx1 hv18 _ _ _ S4 (hl.sub (And.intro rfl (And.intro rfl (And.intro rfl True.intro)))) h
  · have h := ite_f h q
    cases h
    exact r_vret E S True.intro (Tr_addMembers_dc.at 39 rfl)
theorem Tr_addMembers_l2_w (E : zEv p m c cX8_addMembers 3 s args RX8 meth none G) {res : zM} : ∀ (n : Nat) (M : zM) (x0 : Int) (x1 : Int) (x2 : Int), InR x0 → InR x1 → InR x2 → ∀ (H : Heap) (locs : List Loc) (ls : Array Slot), zS G top L M s H locs → zLV ls 3 [some (zR G.2.2.1 x0), some (.int (zO x1)), some (.int (zO x2))] → Tr_addMembers_l2 fu L n M x0 x1 x2 = some res → W p l e (zrm 3 0 0) s m args below meth c H locs 0 0 (MQ below (zQ G top L res none True) args s 0 0 (zA G)) (F0 m 2 ls [])
  | 0, _, _, _, _ => fun _ _ _ _ _ _ _ _ h => (by cases h)
  | n + 1, M, x0, x1, x2 => fun hx0 hx1 hx2 H locs ls S hl h => Tr_addMembers_s2_w E (fun M x0 x1 x2 hx0 hx1 hx2 H locs ls S hl h => Tr_addMembers_l2_w E n M x0 x1 x2 hx0 hx1 hx2 H locs ls S hl h) hx0 hx1 hx2 S hl h
theorem Tr_addMembers_w (E : zEv p m c cX8_addMembers 3 s args RX8 meth none G) {res : zM} {M : zM} {a0 : Int} {a1 : Int} {H : Heap} {locs : List Loc} {ls : Array Slot} (ha0 : InR a0) (ha1 : InR a1) (S : zS G top L M s H locs) (hl : zLV ls 3 [some (zR G.2.2.1 a0), some (.int (zO a1)), none]) (h : Tr_addMembers fu L M a0 a1 = some res) : W p l e (zrm 3 0 0) s m args below meth c H locs 0 0 (MQ below (zQ G top L res none True) args s 0 0 (zA G)) (F0 m 0 ls []) := by
  unfold Tr_addMembers at h
  refine r_iconst E (Tr_addMembers_dc.at 0 rfl) ?_
  refine u_ist_n (y := 0) (vs' := [some (zR G.2.2.1 a0), some (.int (zO a1)), some (.int (zO 0))]) E rfl (Tr_addMembers_dc.at 1 rfl) hl (by decide) rfl (fun ls hl => ?_)
  exact Tr_addMembers_l2_w E fu _ a0 a1 0 ha0 ha1 (show InR 0 by decide) _ _ _ S (hl.sub (And.intro rfl (And.intro rfl (And.intro rfl True.intro)))) h
theorem Tr_addMembers_c (l : Launch) (G : zG) (fu : Nat) (top : Int) (L : zL) (M : zM) (a0 : Int) (a1 : Int) {res : zM} (ha0 : InR a0) (ha1 : InR a1) (h : Tr_addMembers fu L M a0 a1 = some res) : Met l yX8_addMembers (Cond.code yX8_addMembers cX8_addMembers 3 none :: zTB) (zrm 3 0 0) (va_Pc [zR G.2.2.1 a0, .int (zO a1)] (zPre G top L M)) (zQ G top L res none True) 0 0 (zA G) :=
  z_met (by decide +kernel) (by simp [zR_cat, zcat_I, zcat_S]) (Nat.le_of_ble_eq_true rfl) fun p e s m below meth c ls E hn S hl => Tr_addMembers_w E ha0 ha1 S (hl.sub (And.intro rfl (And.intro rfl True.intro))) h
end
theorem Tr_vestedAtStart_dc : zDL cX8_vestedAtStart [(0, .iconst 0, 1, 1), (1, .istore_n 1, 1, 2), (2, .iload_n 1, 1, 3), (3, .aload_n 0, 1, 4), (4, .getfield 71, 3, 7), (7, .if_icmp .ge 46, 3, 10), (10, .iload_n 1, 1, 11), (11, .bipush 24, 2, 13), (13, .if_icmp .ge 40, 3, 16), (16, .aload_n 0, 1, 17), (17, .getfield 28, 3, 20), (20, .aload_n 0, 1, 21), (21, .getfield 12, 3, 24), (24, .aload_n 0, 1, 25), (25, .getfield 12, 3, 28), (28, .aload_n 0, 1, 29), (29, .getfield 25, 3, 32), (32, .iload_n 1, 1, 33), (33, .iaload, 1, 34), (34, .invokevirtual 89, 3, 37), (37, .ldc 93, 2, 39), (39, .invokevirtual 94, 3, 42), (42, .ifCond .lt 5, 3, 45), (45, .iconst 1, 1, 46), (46, .ireturn, 1, 47), (47, .iinc 1 1, 3, 50), (50, .goto (-48), 3, 53), (53, .iconst 0, 1, 54), (54, .ireturn, 1, 55)] := zDL.of (by decide +kernel)
section
variable {p : Program} {l : Launch} {e : Env} {s : State} {m : MethodId} {args : Array Value} {below : List Frame} {meth : Method} {c : Code} {G : zG} {top : Int} {L : zL} {fu : Nat}
theorem Tr_vestedAtStart_s2_w (E : zEv p m c cX8_vestedAtStart 2 s args RX8 meth (some .boolean) G) {res : (zM × Int)} {k2 : zM → Int → Int → Option (zM × Int)} (hk2 : ∀ (M : zM) (x0 : Int) (x1 : Int), InR x0 → InR x1 → ∀ (H : Heap) (locs : List Loc) (ls : Array Slot), zS G top L M s H locs → zLV ls 2 [some (zR G.2.2.1 x0), some (.int (zO x1))] → k2 M x0 x1 = some res → W p l e (zrm 4 0 0) s m args below meth c H locs 0 0 (MQ below (zQ G top L res.1 (some (.int (zO res.2))) (0 ≤ res.2 ∧ res.2 ≤ 1)) args s 0 0 (zA G)) (F0 m 2 ls [])) {M : zM} {x0 : Int} {x1 : Int} {H : Heap} {locs : List Loc} {ls : Array Slot} (hx0 : InR x0) (hx1 : InR x1) (S : zS G top L M s H locs) (hl : zLV ls 2 [some (zR G.2.2.1 x0), some (.int (zO x1))]) (h : Tr_vestedAtStart_s2 fu k2 L M x0 x1 = some res) : W p l e (zrm 4 0 0) s m args below meth c H locs 0 0 (MQ below (zQ G top L res.1 (some (.int (zO res.2))) (0 ≤ res.2 ∧ res.2 ≤ 1)) args s 0 0 (zA G)) (F0 m 2 ls []) := by
  unfold Tr_vestedAtStart_s2 at h
  refine u_il_n (x := x1) E (Tr_vestedAtStart_dc.at 2 rfl) hl rfl ?_
  refine u_al_n (x := x0) E (Tr_vestedAtStart_dc.at 3 rfl) hl rfl ?_
  obtain ⟨g1, h⟩ := ite_e h
  refine u_gI E zf_8_5 S g1 zw_2_100 (Tr_vestedAtStart_dc.at 4 rfl) ?_
  refine r_icmp_ge (tgt := 53) E hx1 (S.1.inR _ _) (Tr_vestedAtStart_dc.at 5 rfl) (by decide) (fun q => ?_) (fun q => ?_)
  · have h := ite_t h q
    refine u_il_n (x := x1) E (Tr_vestedAtStart_dc.at 6 rfl) hl rfl ?_
    refine r_bipush E (Tr_vestedAtStart_dc.at 7 rfl) rfl ?_
    refine r_icmp_ge (tgt := 53) E hx1 (show InR 24 by decide) (Tr_vestedAtStart_dc.at 8 rfl) (by decide) (fun q => ?_) (fun q => ?_)
    · have h := ite_t h q
      refine u_al_n (x := x0) E (Tr_vestedAtStart_dc.at 9 rfl) hl rfl ?_
      refine u_gR E zf_8_0 S g1 zw_2_95 (Tr_vestedAtStart_dc.at 10 rfl) ?_
      refine u_al_n (x := x0) E (Tr_vestedAtStart_dc.at 11 rfl) hl rfl ?_
      refine u_gR E zf_8_1 S g1 zw_2_96 (Tr_vestedAtStart_dc.at 12 rfl) ?_
      refine u_al_n (x := x0) E (Tr_vestedAtStart_dc.at 13 rfl) hl rfl ?_
      refine u_gR E zf_8_1 S g1 zw_2_96 (Tr_vestedAtStart_dc.at 14 rfl) ?_
      refine u_al_n (x := x0) E (Tr_vestedAtStart_dc.at 15 rfl) hl rfl ?_
      refine u_gR E zf_8_4 S g1 zw_2_99 (Tr_vestedAtStart_dc.at 16 rfl) ?_
      refine u_il_n (x := x1) E (Tr_vestedAtStart_dc.at 17 rfl) hl rfl ?_
      obtain ⟨g2, h⟩ := ite_e h
      obtain ⟨g3, h⟩ := ite_e h
      refine r_iald E S g2 g3 (Tr_vestedAtStart_dc.at 18 rfl) ?_
      obtain ⟨g4, h⟩ := ite_e h
      obtain ⟨r5, er5, h⟩ := bd1_e h
      refine u_cVI (As := [.int (zO (M (M x0 4) x1))]) (rest := [zR G.2.2.1 (M x0 1), zR G.2.2.1 (M x0 0)]) E S zcw_yX10_bornIn zw_4_19 zw_4_20 zw_5_143 zck_10.1 rfl g4 (Wd_bornIn_c l G fu top L M (M x0 1) (M (M x0 4) x1) (S.1.inR _ _) (S.1.inR _ _) er5) (zrm_ok (by decide) (by decide)) ⟨Nat.le_refl 0, Nat.le_refl 0⟩ rfl (by simp [zR_cat, zcat_I, zcat_J, zcat_S]) hl.size rfl (Tr_vestedAtStart_dc.at 19 rfl) (fun H locs hr5 S6 => ?_)
      refine r_ldc (n := (-1000000)) E (Tr_vestedAtStart_dc.at 20 rfl) zw_5_148 rfl ?_
      obtain ⟨g7, h⟩ := ite_e h
      obtain ⟨M9, r8, er8, h⟩ := bd2_e h
      refine u_cVI (As := [zR G.2.2.1 (M x0 1), .int (zO r5), .int (zO (-1000000))]) (rest := []) E S6 zcw_yX5_vestingYear zw_4_234 zw_4_235 zw_5_149 zck_5.1 rfl g7 (Rk_vestingYear_c l G fu top L M (M x0 0) (M x0 1) r5 (-1000000) (S.1.inR _ _) (S.1.inR _ _) hr5 (show InR (-1000000) by decide) er8) (zrm_ok (by decide) (by decide)) ⟨Nat.le_refl 0, Nat.le_refl 0⟩ rfl (Nat.zero_le 8) hl.size rfl (Tr_vestedAtStart_dc.at 21 rfl) (fun H locs hr8 S10 => ?_)
      refine r_if_lt (tgt := 47) E hr8 (Tr_vestedAtStart_dc.at 22 rfl) (by decide) (fun q => ?_) (fun q => ?_)
      · have h := ite_t h q
        obtain ⟨v11, ev11, h⟩ := lt1_e h
        have hv11 := inR_eq ev11 (inR_w32 _)
        refine u_iinc (y := v11) (vs' := [some (zR G.2.2.1 x0), some (.int (zO v11))]) E ev11 (Tr_vestedAtStart_dc.at 25 rfl) hl rfl (by decide) rfl (fun ls hl => ?_)
        refine r_goto (tgt := 2) E (Tr_vestedAtStart_dc.at 26 rfl) (by decide) ?_
        exact hk2 _ x0 v11 hx0 hv11 _ _ _ S10 (hl.sub (And.intro rfl (And.intro rfl True.intro))) h
      · have h := ite_f h q
        refine r_iconst E (Tr_vestedAtStart_dc.at 23 rfl) ?_
        cases h
        exact r_zret E S10 z01_1 z01_1 (Tr_vestedAtStart_dc.at 24 rfl)
    · have h := ite_f h q
      refine r_iconst E (Tr_vestedAtStart_dc.at 27 rfl) ?_
      cases h
      exact r_zret E S z01_0 z01_0 (Tr_vestedAtStart_dc.at 28 rfl)
  · have h := ite_f h q
    refine r_iconst E (Tr_vestedAtStart_dc.at 27 rfl) ?_
    cases h
    exact r_zret E S z01_0 z01_0 (Tr_vestedAtStart_dc.at 28 rfl)
theorem Tr_vestedAtStart_l2_w (E : zEv p m c cX8_vestedAtStart 2 s args RX8 meth (some .boolean) G) {res : (zM × Int)} : ∀ (n : Nat) (M : zM) (x0 : Int) (x1 : Int), InR x0 → InR x1 → ∀ (H : Heap) (locs : List Loc) (ls : Array Slot), zS G top L M s H locs → zLV ls 2 [some (zR G.2.2.1 x0), some (.int (zO x1))] → Tr_vestedAtStart_l2 fu L n M x0 x1 = some res → W p l e (zrm 4 0 0) s m args below meth c H locs 0 0 (MQ below (zQ G top L res.1 (some (.int (zO res.2))) (0 ≤ res.2 ∧ res.2 ≤ 1)) args s 0 0 (zA G)) (F0 m 2 ls [])
  | 0, _, _, _ => fun _ _ _ _ _ _ _ h => (by cases h)
  | n + 1, M, x0, x1 => fun hx0 hx1 H locs ls S hl h => Tr_vestedAtStart_s2_w E (fun M x0 x1 hx0 hx1 H locs ls S hl h => Tr_vestedAtStart_l2_w E n M x0 x1 hx0 hx1 H locs ls S hl h) hx0 hx1 S hl h
theorem Tr_vestedAtStart_w (E : zEv p m c cX8_vestedAtStart 2 s args RX8 meth (some .boolean) G) {res : (zM × Int)} {M : zM} {a0 : Int} {H : Heap} {locs : List Loc} {ls : Array Slot} (ha0 : InR a0) (S : zS G top L M s H locs) (hl : zLV ls 2 [some (zR G.2.2.1 a0), none]) (h : Tr_vestedAtStart fu L M a0 = some res) : W p l e (zrm 4 0 0) s m args below meth c H locs 0 0 (MQ below (zQ G top L res.1 (some (.int (zO res.2))) (0 ≤ res.2 ∧ res.2 ≤ 1)) args s 0 0 (zA G)) (F0 m 0 ls []) := by
  unfold Tr_vestedAtStart at h
  refine r_iconst E (Tr_vestedAtStart_dc.at 0 rfl) ?_
  refine u_ist_n (y := 0) (vs' := [some (zR G.2.2.1 a0), some (.int (zO 0))]) E rfl (Tr_vestedAtStart_dc.at 1 rfl) hl (by decide) rfl (fun ls hl => ?_)
  exact Tr_vestedAtStart_l2_w E fu _ a0 0 ha0 (show InR 0 by decide) _ _ _ S (hl.sub (And.intro rfl (And.intro rfl True.intro))) h
theorem Tr_vestedAtStart_c (l : Launch) (G : zG) (fu : Nat) (top : Int) (L : zL) (M : zM) (a0 : Int) {res : (zM × Int)} (ha0 : InR a0) (h : Tr_vestedAtStart fu L M a0 = some res) : Met l yX8_vestedAtStart (Cond.code yX8_vestedAtStart cX8_vestedAtStart 2 (some .boolean) :: zTB) (zrm 4 0 0) (va_Pc [zR G.2.2.1 a0] (zPre G top L M)) (zQ G top L res.1 (some (.int (zO res.2))) (0 ≤ res.2 ∧ res.2 ≤ 1)) 0 0 (zA G) :=
  z_met (by decide +kernel) (by simp [zR_cat, zcat_I, zcat_S]) (Nat.le_of_ble_eq_true rfl) fun p e s m below meth c ls E hn S hl => Tr_vestedAtStart_w E ha0 S (hl.sub (And.intro rfl True.intro)) h
end
theorem Tr_take_dc : zDL cX8_take [(0, .aload_n 0, 1, 1), (1, .getfield 28, 3, 4), (4, .aload_n 2, 1, 5), (5, .iload_n 3, 1, 6), (6, .iload 4, 2, 8), (8, .invokevirtual 32, 3, 11), (11, .aload_n 0, 1, 12), (12, .getfield 12, 3, 15), (15, .aload_n 1, 1, 16), (16, .getfield 38, 3, 19), (19, .invokevirtual 43, 3, 22), (22, .aload_n 0, 1, 23), (23, .getfield 18, 3, 26), (26, .aload_n 1, 1, 27), (27, .getfield 38, 3, 30), (30, .invokevirtual 43, 3, 33), (33, .aload_n 0, 1, 34), (34, .getfield 18, 3, 37), (37, .sipush 400, 3, 40), (40, .putfield 47, 3, 43), (43, .aload_n 0, 1, 44), (44, .aload_n 2, 1, 45), (45, .getfield 51, 3, 48), (48, .putfield 56, 3, 51), (51, .aload_n 0, 1, 52), (52, .aload_n 2, 1, 53), (53, .getfield 57, 3, 56), (56, .putfield 60, 3, 59), (59, .aload_n 0, 1, 60), (60, .aload_n 1, 1, 61), (61, .getfield 63, 3, 64), (64, .putfield 66, 3, 67), (67, .aload_n 0, 1, 68), (68, .aload_n 1, 1, 69), (69, .getfield 67, 3, 72), (72, .putfield 70, 3, 75), (75, .aload_n 0, 1, 76), (76, .iconst 0, 1, 77), (77, .putfield 71, 3, 80), (80, .aload_n 0, 1, 81), (81, .iconst 0, 1, 82), (82, .invokevirtual 74, 3, 85), (85, .aload_n 0, 1, 86), (86, .invokevirtual 78, 3, 89), (89, .ifCond .ne 13, 3, 92), (92, .aload_n 0, 1, 93), (93, .iconst 1, 1, 94), (94, .invokevirtual 74, 3, 97), (97, .aload_n 0, 1, 98), (98, .iconst 2, 1, 99), (99, .invokevirtual 74, 3, 102), (102, .return_, 1, 103)] := zDL.of (by decide +kernel)
section
variable {p : Program} {l : Launch} {e : Env} {s : State} {m : MethodId} {args : Array Value} {below : List Frame} {meth : Method} {c : Code} {G : zG} {top : Int} {L : zL} {fu : Nat}
theorem Tr_take_w (E : zEv p m c cX8_take 5 s args RX8 meth none G) {res : zM} {M : zM} {a0 : Int} {a1 : Int} {a2 : Int} {a3 : Int} {a4 : Int} {H : Heap} {locs : List Loc} {ls : Array Slot} (ha0 : InR a0) (ha1 : InR a1) (ha2 : InR a2) (ha3 : InR a3) (ha4 : InR a4) (S : zS G top L M s H locs) (hl : zLV ls 5 [some (zR G.2.2.1 a0), some (zR G.2.2.1 a1), some (zR G.2.2.1 a2), some (.int (zO a3)), some (.int (zO a4))]) (h : Tr_take fu L M a0 a1 a2 a3 a4 = some res) : W p l e (zrm 5 0 0) s m args below meth c H locs 0 0 (MQ below (zQ G top L res none True) args s 0 0 (zA G)) (F0 m 0 ls []) := by
  unfold Tr_take at h
  refine u_al_n (x := a0) E (Tr_take_dc.at 0 rfl) hl rfl ?_
  obtain ⟨g1, h⟩ := ite_e h
  refine u_gR E zf_8_0 S g1 zw_2_95 (Tr_take_dc.at 1 rfl) ?_
  refine u_al_n (x := a2) E (Tr_take_dc.at 2 rfl) hl rfl ?_
  refine u_il_n (x := a3) E (Tr_take_dc.at 3 rfl) hl rfl ?_
  refine u_il (x := a4) E (Tr_take_dc.at 4 rfl) hl rfl ?_
  obtain ⟨g2, h⟩ := ite_e h
  obtain ⟨M3, eM3, h⟩ := bd1_e h
  refine u_cVU (As := [zR G.2.2.1 a2, .int (zO a3), .int (zO a4)]) (rest := []) E S zcw_yX5_choose zw_4_219 zw_4_220 zw_5_132 zck_5.1 rfl g2 (Rk_choose_c l G fu top L M (M a0 0) a2 a3 a4 (S.1.inR _ _) ha2 ha3 ha4 eM3) (zrm_ok (by decide) (by decide)) ⟨Nat.le_refl 0, Nat.le_refl 0⟩ rfl (Nat.zero_le 8) hl.size rfl (Tr_take_dc.at 5 rfl) (fun H locs _ S4 => ?_)
  refine u_al_n (x := a0) E (Tr_take_dc.at 6 rfl) hl rfl ?_
  refine u_gR E zf_8_1 S4 g1 zw_2_96 (Tr_take_dc.at 7 rfl) ?_
  refine u_al_n (x := a1) E (Tr_take_dc.at 8 rfl) hl rfl ?_
  obtain ⟨g5, h⟩ := ite_e h
  refine u_gR E zf_1_0 S4 g5 zw_1_221 (Tr_take_dc.at 9 rfl) ?_
  obtain ⟨g6, h⟩ := ite_e h
  obtain ⟨M7, eM7, h⟩ := bd1_e h
  refine u_cVU (As := [zR G.2.2.1 (M3 a1 0)]) (rest := []) E S4 zcw_yX10_startOf zw_5_92 zw_5_93 zw_5_133 zck_10.1 rfl g6 (Wd_startOf_c l G fu top L M3 (M3 a0 1) (M3 a1 0) (S4.1.inR _ _) (S4.1.inR _ _) eM7) (zrm_ok (by decide) (by decide)) ⟨Nat.le_refl 0, Nat.le_refl 0⟩ rfl (Nat.zero_le 8) hl.size rfl (Tr_take_dc.at 10 rfl) (fun H locs _ S8 => ?_)
  refine u_al_n (x := a0) E (Tr_take_dc.at 11 rfl) hl rfl ?_
  refine u_gR E zf_8_2 S8 g1 zw_2_97 (Tr_take_dc.at 12 rfl) ?_
  refine u_al_n (x := a1) E (Tr_take_dc.at 13 rfl) hl rfl ?_
  refine u_gR E zf_1_0 S8 g5 zw_1_221 (Tr_take_dc.at 14 rfl) ?_
  obtain ⟨g9, h⟩ := ite_e h
  obtain ⟨M10, eM10, h⟩ := bd1_e h
  refine u_cVU (As := [zR G.2.2.1 (M7 a1 0)]) (rest := []) E S8 zcw_yX10_startOf zw_5_92 zw_5_93 zw_5_133 zck_10.1 rfl g9 (Wd_startOf_c l G fu top L M7 (M7 a0 2) (M7 a1 0) (S8.1.inR _ _) (S8.1.inR _ _) eM10) (zrm_ok (by decide) (by decide)) ⟨Nat.le_refl 0, Nat.le_refl 0⟩ rfl (Nat.zero_le 8) hl.size rfl (Tr_take_dc.at 15 rfl) (fun H locs _ S11 => ?_)
  refine u_al_n (x := a0) E (Tr_take_dc.at 16 rfl) hl rfl ?_
  refine u_gR E zf_8_2 S11 g1 zw_2_97 (Tr_take_dc.at 17 rfl) ?_
  refine r_sipush E (Tr_take_dc.at 18 rfl) rfl ?_
  obtain ⟨g12, h⟩ := ite_e h
  obtain ⟨M13, eM13, h⟩ := lt1_e h
  refine u_pI E eM13 zf_10_5 S11 g12 (show InR 400 by decide) (Or.inl rfl) rfl zw_1_201 (Tr_take_dc.at 19 rfl) (fun H locs S14 => ?_)
  refine u_al_n (x := a0) E (Tr_take_dc.at 20 rfl) hl rfl ?_
  refine u_al_n (x := a2) E (Tr_take_dc.at 21 rfl) hl rfl ?_
  obtain ⟨g15, h⟩ := ite_e h
  refine u_gI E zf_3_0 S14 g15 zw_4_74 (Tr_take_dc.at 22 rfl) ?_
  obtain ⟨M16, eM16, h⟩ := lt1_e h
  refine u_pI E eM16 zf_8_6 S14 g1 (S14.1.inR _ _) (Or.inl rfl) rfl zw_2_101 (Tr_take_dc.at 23 rfl) (fun H locs S17 => ?_)
  refine u_al_n (x := a0) E (Tr_take_dc.at 24 rfl) hl rfl ?_
  refine u_al_n (x := a2) E (Tr_take_dc.at 25 rfl) hl rfl ?_
  refine u_gI E zf_3_1 S17 g15 zw_4_78 (Tr_take_dc.at 26 rfl) ?_
  obtain ⟨M18, eM18, h⟩ := lt1_e h
  refine u_pI E eM18 zf_8_7 S17 g1 (S17.1.inR _ _) (Or.inl rfl) rfl zw_2_102 (Tr_take_dc.at 27 rfl) (fun H locs S19 => ?_)
  refine u_al_n (x := a0) E (Tr_take_dc.at 28 rfl) hl rfl ?_
  refine u_al_n (x := a1) E (Tr_take_dc.at 29 rfl) hl rfl ?_
  refine u_gI E zf_1_3 S19 g5 zw_1_228 (Tr_take_dc.at 30 rfl) ?_
  obtain ⟨M20, eM20, h⟩ := lt1_e h
  refine u_pI E eM20 zf_8_8 S19 g1 (S19.1.inR _ _) (Or.inl rfl) rfl zw_2_103 (Tr_take_dc.at 31 rfl) (fun H locs S21 => ?_)
  refine u_al_n (x := a0) E (Tr_take_dc.at 32 rfl) hl rfl ?_
  refine u_al_n (x := a1) E (Tr_take_dc.at 33 rfl) hl rfl ?_
  refine u_gI E zf_1_4 S21 g5 zw_1_231 (Tr_take_dc.at 34 rfl) ?_
  obtain ⟨M22, eM22, h⟩ := lt1_e h
  refine u_pI E eM22 zf_8_9 S21 g1 (S21.1.inR _ _) (Or.inl rfl) rfl zw_2_104 (Tr_take_dc.at 35 rfl) (fun H locs S23 => ?_)
  refine u_al_n (x := a0) E (Tr_take_dc.at 36 rfl) hl rfl ?_
  refine r_iconst E (Tr_take_dc.at 37 rfl) ?_
  obtain ⟨M24, eM24, h⟩ := lt1_e h
  refine u_pI E eM24 zf_8_5 S23 g1 (show InR 0 by decide) (Or.inl rfl) rfl zw_2_100 (Tr_take_dc.at 38 rfl) (fun H locs S25 => ?_)
  refine u_al_n (x := a0) E (Tr_take_dc.at 39 rfl) hl rfl ?_
  refine r_iconst E (Tr_take_dc.at 40 rfl) ?_
  obtain ⟨M26, eM26, h⟩ := bd1_e h
  refine u_cVU (As := [.int (zO 0)]) (rest := []) E S25 zcw_yX8_addMembers zw_5_136 zq_3_4 zw_5_134 zck_8.1 rfl g1 (Tr_addMembers_c l G fu top L M24 a0 0 ha0 (show InR 0 by decide) eM26) (zrm_ok (by decide) (by decide)) ⟨Nat.le_refl 0, Nat.le_refl 0⟩ rfl (Nat.zero_le 8) hl.size rfl (Tr_take_dc.at 41 rfl) (fun H locs _ S27 => ?_)
  refine u_al_n (x := a0) E (Tr_take_dc.at 42 rfl) hl rfl ?_
  obtain ⟨M29, r28, er28, h⟩ := bd2_e h
  refine u_cVI (As := []) (rest := []) E S27 zcw_yX8_vestedAtStart zw_5_146 zq_3_5 zw_5_144 zck_8.1 rfl g1 (Tr_vestedAtStart_c l G fu top L M26 a0 ha0 er28) (zrm_ok (by decide) (by decide)) ⟨Nat.le_refl 0, Nat.le_refl 0⟩ rfl (Nat.zero_le 8) hl.size rfl (Tr_take_dc.at 43 rfl) (fun H locs hr28 S30 => ?_)
  refine r_if_ne (tgt := 102) E (inR_01 hr28) (Tr_take_dc.at 44 rfl) (by decide) (fun q => ?_) (fun q => ?_)
  · have h := ite_t h q
    refine u_al_n (x := a0) E (Tr_take_dc.at 45 rfl) hl rfl ?_
    refine r_iconst E (Tr_take_dc.at 46 rfl) ?_
    obtain ⟨M31, eM31, h⟩ := bd1_e h
    refine u_cVU (As := [.int (zO 1)]) (rest := []) E S30 zcw_yX8_addMembers zw_5_136 zq_3_4 zw_5_134 zck_8.1 rfl g1 (Tr_addMembers_c l G fu top L M29 a0 1 ha0 (show InR 1 by decide) eM31) (zrm_ok (by decide) (by decide)) ⟨Nat.le_refl 0, Nat.le_refl 0⟩ rfl (Nat.zero_le 8) hl.size rfl (Tr_take_dc.at 47 rfl) (fun H locs _ S32 => ?_)
    refine u_al_n (x := a0) E (Tr_take_dc.at 48 rfl) hl rfl ?_
    refine r_iconst E (Tr_take_dc.at 49 rfl) ?_
    obtain ⟨M33, eM33, h⟩ := bd1_e h
    refine u_cVU (As := [.int (zO 2)]) (rest := []) E S32 zcw_yX8_addMembers zw_5_136 zq_3_4 zw_5_134 zck_8.1 rfl g1 (Tr_addMembers_c l G fu top L M31 a0 2 ha0 (show InR 2 by decide) eM33) (zrm_ok (by decide) (by decide)) ⟨Nat.le_refl 0, Nat.le_refl 0⟩ rfl (Nat.zero_le 8) hl.size rfl (Tr_take_dc.at 50 rfl) (fun H locs _ S34 => ?_)
    cases h
    exact r_vret E S34 True.intro (Tr_take_dc.at 51 rfl)
  · have h := ite_f h q
    cases h
    exact r_vret E S30 True.intro (Tr_take_dc.at 51 rfl)
theorem Tr_take_c (l : Launch) (G : zG) (fu : Nat) (top : Int) (L : zL) (M : zM) (a0 : Int) (a1 : Int) (a2 : Int) (a3 : Int) (a4 : Int) {res : zM} (ha0 : InR a0) (ha1 : InR a1) (ha2 : InR a2) (ha3 : InR a3) (ha4 : InR a4) (h : Tr_take fu L M a0 a1 a2 a3 a4 = some res) : Met l yX8_take (Cond.code yX8_take cX8_take 5 none :: zTB) (zrm 5 0 0) (va_Pc [zR G.2.2.1 a0, zR G.2.2.1 a1, zR G.2.2.1 a2, .int (zO a3), .int (zO a4)] (zPre G top L M)) (zQ G top L res none True) 0 0 (zA G) :=
  z_met (by decide +kernel) (by simp [zR_cat, zcat_I, zcat_S]) (Nat.le_of_ble_eq_true rfl) fun p e s m below meth c ls E hn S hl => Tr_take_w E ha0 ha1 ha2 ha3 ha4 S (hl.sub (And.intro rfl (And.intro rfl (And.intro rfl (And.intro rfl (And.intro rfl True.intro)))))) h
end
theorem Lx_tryGift_dc : zDL cX11_tryGift [(0, .aload_n 0, 1, 1), (1, .getfield 42, 3, 4), (4, .iload_n 1, 1, 5), (5, .invokevirtual 148, 3, 8), (8, .astore_n 2, 1, 9), (9, .aload_n 2, 1, 10), (10, .ifnonnull 5, 3, 13), (13, .iconst 0, 1, 14), (14, .ireturn, 1, 15), (15, .aload_n 0, 1, 16), (16, .getfield 78, 3, 19), (19, .aload_n 0, 1, 20), (20, .getfield 42, 3, 23), (23, .aload_n 2, 1, 24), (24, .aload_n 2, 1, 25), (25, .getfield 303, 3, 28), (28, .bipush 99, 2, 30), (30, .invokevirtual 299, 3, 33), (33, .iconst 1, 1, 34), (34, .ireturn, 1, 35)] := zDL.of (by decide +kernel)
section
variable {p : Program} {l : Launch} {e : Env} {s : State} {m : MethodId} {args : Array Value} {below : List Frame} {meth : Method} {c : Code} {G : zG} {top : Int} {L : zL} {fu : Nat}
theorem Lx_tryGift_w (E : zEv p m c cX11_tryGift 3 s args RX11 meth (some .boolean) G) {res : (zM × Int)} {M : zM} {a0 : Int} {a1 : Int} {H : Heap} {locs : List Loc} {ls : Array Slot} (ha0 : InR a0) (ha1 : InR a1) (S : zS G top L M s H locs) (hl : zLV ls 3 [some (zR G.2.2.1 a0), some (.int (zO a1)), none]) (h : Lx_tryGift fu L M a0 a1 = some res) : W p l e (zrm 6 0 0) s m args below meth c H locs 0 0 (MQ below (zQ G top L res.1 (some (.int (zO res.2))) (0 ≤ res.2 ∧ res.2 ≤ 1)) args s 0 0 (zA G)) (F0 m 0 ls []) := by
  unfold Lx_tryGift at h
  refine u_al_n (x := a0) E (Lx_tryGift_dc.at 0 rfl) hl rfl ?_
  obtain ⟨g1, h⟩ := ite_e h
  refine u_gR E zf_11_4 S g1 zw_2_136 (Lx_tryGift_dc.at 1 rfl) ?_
  refine u_il_n (x := a1) E (Lx_tryGift_dc.at 2 rfl) hl rfl ?_
  obtain ⟨g2, h⟩ := ite_e h
  obtain ⟨r3, er3, h⟩ := bd1_e h
  refine u_cVR (As := [.int (zO a1)]) (rest := []) E S zcw_yX1_giftAt zw_4_39 zw_4_40 zw_4_128 zck_1.1 rfl g2 (Af_giftAt_c l G fu top L M (M a0 4) a1 (S.1.inR _ _) ha1 er3) (zrm_ok (by decide) (by decide)) ⟨Nat.le_refl 0, Nat.le_refl 0⟩ rfl (Nat.zero_le 8) hl.size rfl (Lx_tryGift_dc.at 3 rfl) (fun H locs hr3 S4 => ?_)
  refine u_ast_n (y := r3) (vs' := [some (zR G.2.2.1 a0), some (.int (zO a1)), some (zR G.2.2.1 r3)]) E rfl (Lx_tryGift_dc.at 4 rfl) hl (by decide) rfl (fun ls hl => ?_)
  refine u_al_n (x := r3) E (Lx_tryGift_dc.at 5 rfl) hl rfl ?_
  refine r_ifnonnull (tgt := 15) E (Lx_tryGift_dc.at 6 rfl) (by decide) (fun q => ?_) (fun q => ?_)
  · have h := ite_t h q
    refine r_iconst E (Lx_tryGift_dc.at 7 rfl) ?_
    cases h
    exact r_zret E S4 z01_0 z01_0 (Lx_tryGift_dc.at 8 rfl)
  · have h := ite_f h q
    refine u_al_n (x := a0) E (Lx_tryGift_dc.at 9 rfl) hl rfl ?_
    refine u_gR E zf_11_9 S4 g1 zw_2_141 (Lx_tryGift_dc.at 10 rfl) ?_
    refine u_al_n (x := a0) E (Lx_tryGift_dc.at 11 rfl) hl rfl ?_
    refine u_gR E zf_11_4 S4 g1 zw_2_136 (Lx_tryGift_dc.at 12 rfl) ?_
    refine u_al_n (x := r3) E (Lx_tryGift_dc.at 13 rfl) hl rfl ?_
    refine u_al_n (x := r3) E (Lx_tryGift_dc.at 14 rfl) hl rfl ?_
    obtain ⟨g5, h⟩ := ite_e h
    refine u_gI E zf_3_3 S4 g5 zw_4_86 (Lx_tryGift_dc.at 15 rfl) ?_
    refine r_bipush E (Lx_tryGift_dc.at 16 rfl) rfl ?_
    obtain ⟨g6, h⟩ := ite_e h
    obtain ⟨M7, eM7, h⟩ := bd1_e h
    refine u_cVU (As := [zR G.2.2.1 (M a0 4), zR G.2.2.1 r3, .int (zO (M r3 3)), .int (zO 99)]) (rest := []) E S4 zcw_yX8_take zw_5_129 zw_5_130 zw_5_128 zck_8.1 rfl g6 (Tr_take_c l G fu top L M (M a0 9) (M a0 4) r3 (M r3 3) 99 (S4.1.inR _ _) (S4.1.inR _ _) hr3 (S4.1.inR _ _) (show InR 99 by decide) eM7) (zrm_ok (by decide) (by decide)) ⟨Nat.le_refl 0, Nat.le_refl 0⟩ rfl (Nat.zero_le 8) hl.size rfl (Lx_tryGift_dc.at 17 rfl) (fun H locs _ S8 => ?_)
    refine r_iconst E (Lx_tryGift_dc.at 18 rfl) ?_
    cases h
    exact r_zret E S8 z01_1 z01_1 (Lx_tryGift_dc.at 19 rfl)
theorem Lx_tryGift_c (l : Launch) (G : zG) (fu : Nat) (top : Int) (L : zL) (M : zM) (a0 : Int) (a1 : Int) {res : (zM × Int)} (ha0 : InR a0) (ha1 : InR a1) (h : Lx_tryGift fu L M a0 a1 = some res) : Met l yX11_tryGift (Cond.code yX11_tryGift cX11_tryGift 3 (some .boolean) :: zTB) (zrm 6 0 0) (va_Pc [zR G.2.2.1 a0, .int (zO a1)] (zPre G top L M)) (zQ G top L res.1 (some (.int (zO res.2))) (0 ≤ res.2 ∧ res.2 ≤ 1)) 0 0 (zA G) :=
  z_met (by decide +kernel) (by simp [zR_cat, zcat_I, zcat_S]) (Nat.le_of_ble_eq_true rfl) fun p e s m below meth c ls E hn S hl => Lx_tryGift_w E ha0 ha1 S (hl.sub (And.intro rfl (And.intro rfl True.intro))) h
end
theorem Tr_allLives_dc : zDL cX8_allLives [(0, .iconst 1, 1, 1), (1, .aload_n 0, 1, 2), (2, .getfield 12, 3, 5), (5, .getfield 82, 3, 8), (8, .bipush 8, 2, 10), (10, .invokestatic 101, 3, 13), (13, .ishl, 1, 14), (14, .iconst 1, 1, 15), (15, .isub, 1, 16), (16, .ireturn, 1, 17)] := zDL.of (by decide +kernel)
section
variable {p : Program} {l : Launch} {e : Env} {s : State} {m : MethodId} {args : Array Value} {below : List Frame} {meth : Method} {c : Code} {G : zG} {top : Int} {L : zL} {fu : Nat}
theorem Tr_allLives_w (E : zEv p m c cX8_allLives 1 s args RX8 meth (some .int) G) {res : Int} {M : zM} {a0 : Int} {H : Heap} {locs : List Loc} {ls : Array Slot} (ha0 : InR a0) (S : zS G top L M s H locs) (hl : zLV ls 1 [some (zR G.2.2.1 a0)]) (h : Tr_allLives fu L M a0 = some res) : W p l e (zrm 1 0 0) s m args below meth c H locs 0 0 (MQ below (zQ G top L M (some (.int (zO res))) (InR res)) args s 0 0 (zA G)) (F0 m 0 ls []) := by
  unfold Tr_allLives at h
  refine r_iconst E (Tr_allLives_dc.at 0 rfl) ?_
  refine u_al_n (x := a0) E (Tr_allLives_dc.at 1 rfl) hl rfl ?_
  obtain ⟨g1, h⟩ := ite_e h
  refine u_gR E zf_8_1 S g1 zw_2_96 (Tr_allLives_dc.at 2 rfl) ?_
  obtain ⟨g2, h⟩ := ite_e h
  refine u_gI E zf_10_3 S g2 zw_1_194 (Tr_allLives_dc.at 3 rfl) ?_
  refine r_bipush E (Tr_allLives_dc.at 4 rfl) rfl ?_
  refine r_min (rest := [.int (zO 1)]) E (S.1.inR _ _) (show InR 8 by decide) hl.size zw_5_154 zw_4_47 zw_1_17 zw_4_48 (by decide) (by simp [zR_cat, zcat_I, zcat_J, zcat_S, zrm]) ⟨Nat.zero_le _, Nat.zero_le _⟩ (Tr_allLives_dc.at 5 rfl) ?_
  refine r_ishl E (Tr_allLives_dc.at 6 rfl) ?_
  refine r_iconst E (Tr_allLives_dc.at 7 rfl) ?_
  refine r_isub E (Tr_allLives_dc.at 8 rfl) ?_
  cases h
  exact r_iret E S (inR_w32 _) (Tr_allLives_dc.at 9 rfl)
theorem Tr_allLives_c (l : Launch) (G : zG) (fu : Nat) (top : Int) (L : zL) (M : zM) (a0 : Int) {res : Int} (ha0 : InR a0) (h : Tr_allLives fu L M a0 = some res) : Met l yX8_allLives (Cond.code yX8_allLives cX8_allLives 1 (some .int) :: zTB) (zrm 1 0 0) (va_Pc [zR G.2.2.1 a0] (zPre G top L M)) (zQ G top L M (some (.int (zO res))) (InR res)) 0 0 (zA G) :=
  z_met (by decide +kernel) (by simp [zR_cat, zcat_I, zcat_S]) (Nat.le_of_ble_eq_true rfl) fun p e s m below meth c ls E hn S hl => Tr_allLives_w E ha0 S (hl.sub (And.intro rfl True.intro)) h
end
theorem Rk_inSet_dc : zDL cX5_inSet [(0, .iload_n 1, 1, 1), (1, .ifCond .lt 22, 3, 4), (4, .iload_n 1, 1, 5), (5, .bipush 8, 2, 7), (7, .if_icmp .ge 16, 3, 10), (10, .iload_n 0, 1, 11), (11, .iload_n 1, 1, 12), (12, .ishr, 1, 13), (13, .iconst 1, 1, 14), (14, .iand, 1, 15), (15, .iconst 1, 1, 16), (16, .if_icmp .ne 7, 3, 19), (19, .iconst 1, 1, 20), (20, .goto 4, 3, 23), (23, .iconst 0, 1, 24), (24, .ireturn, 1, 25)] := zDL.of (by decide +kernel)
section
variable {p : Program} {l : Launch} {e : Env} {s : State} {m : MethodId} {args : Array Value} {below : List Frame} {meth : Method} {c : Code} {G : zG} {top : Int} {L : zL} {fu : Nat}
theorem Rk_inSet_w (E : zEv p m c cX5_inSet 2 s args RX5 meth (some .boolean) G) {res : Int} {M : zM} {a0 : Int} {a1 : Int} {H : Heap} {locs : List Loc} {ls : Array Slot} (ha0 : InR a0) (ha1 : InR a1) (S : zS G top L M s H locs) (hl : zLV ls 2 [some (.int (zO a0)), some (.int (zO a1))]) (h : Rk_inSet fu L M a0 a1 = some res) : W p l e (zrm 1 0 0) s m args below meth c H locs 0 0 (MQ below (zQ G top L M (some (.int (zO res))) (0 ≤ res ∧ res ≤ 1)) args s 0 0 (zA G)) (F0 m 0 ls []) := by
  unfold Rk_inSet at h
  refine u_il_n (x := a1) E (Rk_inSet_dc.at 0 rfl) hl rfl ?_
  refine r_if_lt (tgt := 23) E ha1 (Rk_inSet_dc.at 1 rfl) (by decide) (fun q => ?_) (fun q => ?_)
  · have h := ite_t h q
    refine r_iconst E (Rk_inSet_dc.at 14 rfl) ?_
    cases h
    exact r_zret E S z01_0 z01_0 (Rk_inSet_dc.at 15 rfl)
  · have h := ite_f h q
    refine u_il_n (x := a1) E (Rk_inSet_dc.at 2 rfl) hl rfl ?_
    refine r_bipush E (Rk_inSet_dc.at 3 rfl) rfl ?_
    refine r_icmp_ge (tgt := 23) E ha1 (show InR 8 by decide) (Rk_inSet_dc.at 4 rfl) (by decide) (fun q => ?_) (fun q => ?_)
    · have h := ite_t h q
      refine u_il_n (x := a0) E (Rk_inSet_dc.at 5 rfl) hl rfl ?_
      refine u_il_n (x := a1) E (Rk_inSet_dc.at 6 rfl) hl rfl ?_
      refine r_ishr E (Rk_inSet_dc.at 7 rfl) ?_
      refine r_iconst E (Rk_inSet_dc.at 8 rfl) ?_
      refine r_iand E (Rk_inSet_dc.at 9 rfl) ?_
      refine r_iconst E (Rk_inSet_dc.at 10 rfl) ?_
      refine r_icmp_ne (tgt := 23) E (inR_iand _ _) (show InR 1 by decide) (Rk_inSet_dc.at 11 rfl) (by decide) (fun q => ?_) (fun q => ?_)
      · have h := ite_t h q
        refine r_iconst E (Rk_inSet_dc.at 12 rfl) ?_
        refine r_goto (tgt := 24) E (Rk_inSet_dc.at 13 rfl) (by decide) ?_
        cases h
        exact r_zret E S z01_1 z01_1 (Rk_inSet_dc.at 15 rfl)
      · have h := ite_f h q
        refine r_iconst E (Rk_inSet_dc.at 14 rfl) ?_
        cases h
        exact r_zret E S z01_0 z01_0 (Rk_inSet_dc.at 15 rfl)
    · have h := ite_f h q
      refine r_iconst E (Rk_inSet_dc.at 14 rfl) ?_
      cases h
      exact r_zret E S z01_0 z01_0 (Rk_inSet_dc.at 15 rfl)
theorem Rk_inSet_c (l : Launch) (G : zG) (fu : Nat) (top : Int) (L : zL) (M : zM) (a0 : Int) (a1 : Int) {res : Int} (ha0 : InR a0) (ha1 : InR a1) (h : Rk_inSet fu L M a0 a1 = some res) : Met l yX5_inSet (Cond.code yX5_inSet cX5_inSet 2 (some .boolean) :: zTB) (zrm 1 0 0) (va_Pc [.int (zO a0), .int (zO a1)] (zPre G top L M)) (zQ G top L M (some (.int (zO res))) (0 ≤ res ∧ res ≤ 1)) 0 0 (zA G) :=
  z_met (by decide +kernel) (by simp [zR_cat, zcat_I, zcat_S]) (Nat.le_of_ble_eq_true rfl) fun p e s m below meth c ls E hn S hl => Rk_inSet_w E ha0 ha1 S (hl.sub (And.intro rfl (And.intro rfl True.intro))) h
end
theorem Rk_bornBehind_dc : zDL cX5_bornBehind [(0, .iload_n 0, 1, 1), (1, .ifCond .ne 5, 3, 4), (4, .iconst 0, 1, 5), (5, .ireturn, 1, 6), (6, .iload_n 0, 1, 7), (7, .iconst 1, 1, 8), (8, .if_icmp .ne 15, 3, 11), (11, .iload_n 2, 1, 12), (12, .iload_n 1, 1, 13), (13, .invokestatic 91, 3, 16), (16, .ifCond .eq 7, 3, 19), (19, .iconst 0, 1, 20), (20, .goto 5, 3, 23), (23, .ldc 90, 2, 25), (25, .ireturn, 1, 26)] := zDL.of (by decide +kernel)
section
variable {p : Program} {l : Launch} {e : Env} {s : State} {m : MethodId} {args : Array Value} {below : List Frame} {meth : Method} {c : Code} {G : zG} {top : Int} {L : zL} {fu : Nat}
theorem Rk_bornBehind_w (E : zEv p m c cX5_bornBehind 3 s args RX5 meth (some .int) G) {res : Int} {M : zM} {a0 : Int} {a1 : Int} {a2 : Int} {H : Heap} {locs : List Loc} {ls : Array Slot} (ha0 : InR a0) (ha1 : InR a1) (ha2 : InR a2) (S : zS G top L M s H locs) (hl : zLV ls 3 [some (.int (zO a0)), some (.int (zO a1)), some (.int (zO a2))]) (h : Rk_bornBehind fu L M a0 a1 a2 = some res) : W p l e (zrm 2 0 0) s m args below meth c H locs 0 0 (MQ below (zQ G top L M (some (.int (zO res))) (InR res)) args s 0 0 (zA G)) (F0 m 0 ls []) := by
  unfold Rk_bornBehind at h
  refine u_il_n (x := a0) E (Rk_bornBehind_dc.at 0 rfl) hl rfl ?_
  refine r_if_ne (tgt := 6) E ha0 (Rk_bornBehind_dc.at 1 rfl) (by decide) (fun q => ?_) (fun q => ?_)
  · have h := ite_t h q
    refine r_iconst E (Rk_bornBehind_dc.at 2 rfl) ?_
    cases h
    exact r_iret E S (show InR 0 by decide) (Rk_bornBehind_dc.at 3 rfl)
  · have h := ite_f h q
    refine u_il_n (x := a0) E (Rk_bornBehind_dc.at 4 rfl) hl rfl ?_
    refine r_iconst E (Rk_bornBehind_dc.at 5 rfl) ?_
    refine r_icmp_ne (tgt := 23) E ha0 (show InR 1 by decide) (Rk_bornBehind_dc.at 6 rfl) (by decide) (fun q => ?_) (fun q => ?_)
    · have h := ite_t h q
      refine u_il_n (x := a2) E (Rk_bornBehind_dc.at 7 rfl) hl rfl ?_
      refine u_il_n (x := a1) E (Rk_bornBehind_dc.at 8 rfl) hl rfl ?_
      obtain ⟨r1, er1, h⟩ := bd1_e h
      refine u_cSI (As := [.int (zO a2), .int (zO a1)]) (rest := []) E S zcw_yX5_inSet zw_5_167 zw_5_166 (Rk_inSet_c l G fu top L M a2 a1 ha2 ha1 er1) (zrm_ok (by decide) (by decide)) ⟨Nat.le_refl 0, Nat.le_refl 0⟩ rfl (Nat.zero_le 8) hl.size rfl (Rk_bornBehind_dc.at 9 rfl) (fun H locs hr1 S2 => ?_)
      refine r_if_eq (tgt := 23) E (inR_01 hr1) (Rk_bornBehind_dc.at 10 rfl) (by decide) (fun q => ?_) (fun q => ?_)
      · have h := ite_t h q
        refine r_ldc (n := 1000000) E (Rk_bornBehind_dc.at 13 rfl) zw_5_169 rfl ?_
        cases h
        exact r_iret E S2 (show InR 1000000 by decide) (Rk_bornBehind_dc.at 14 rfl)
      · have h := ite_f h q
        refine r_iconst E (Rk_bornBehind_dc.at 11 rfl) ?_
        refine r_goto (tgt := 25) E (Rk_bornBehind_dc.at 12 rfl) (by decide) ?_
        cases h
        exact r_iret E S2 (show InR 0 by decide) (Rk_bornBehind_dc.at 14 rfl)
    · have h := ite_f h q
      refine r_ldc (n := 1000000) E (Rk_bornBehind_dc.at 13 rfl) zw_5_169 rfl ?_
      cases h
      exact r_iret E S (show InR 1000000 by decide) (Rk_bornBehind_dc.at 14 rfl)
theorem Rk_bornBehind_c (l : Launch) (G : zG) (fu : Nat) (top : Int) (L : zL) (M : zM) (a0 : Int) (a1 : Int) (a2 : Int) {res : Int} (ha0 : InR a0) (ha1 : InR a1) (ha2 : InR a2) (h : Rk_bornBehind fu L M a0 a1 a2 = some res) : Met l yX5_bornBehind (Cond.code yX5_bornBehind cX5_bornBehind 3 (some .int) :: zTB) (zrm 2 0 0) (va_Pc [.int (zO a0), .int (zO a1), .int (zO a2)] (zPre G top L M)) (zQ G top L M (some (.int (zO res))) (InR res)) 0 0 (zA G) :=
  z_met (by decide +kernel) (by simp [zR_cat, zcat_I, zcat_S]) (Nat.le_of_ble_eq_true rfl) fun p e s m below meth c ls E hn S hl => Rk_bornBehind_w E ha0 ha1 ha2 S (hl.sub (And.intro rfl (And.intro rfl (And.intro rfl True.intro)))) h
end
theorem Wd_yearsTo_dc : zDL cX10_yearsTo [(0, .iconst 0, 1, 1), (1, .aload_n 0, 1, 2), (2, .iload_n 1, 1, 3), (3, .invokevirtual 39, 3, 6), (6, .iload_n 2, 1, 7), (7, .iadd, 1, 8), (8, .invokestatic 62, 3, 11), (11, .ireturn, 1, 12)] := zDL.of (by decide +kernel)
section
variable {p : Program} {l : Launch} {e : Env} {s : State} {m : MethodId} {args : Array Value} {below : List Frame} {meth : Method} {c : Code} {G : zG} {top : Int} {L : zL} {fu : Nat}
theorem Wd_yearsTo_w (E : zEv p m c cX10_yearsTo 3 s args RX10 meth (some .int) G) {res : Int} {M : zM} {a0 : Int} {a1 : Int} {a2 : Int} {H : Heap} {locs : List Loc} {ls : Array Slot} (ha0 : InR a0) (ha1 : InR a1) (ha2 : InR a2) (S : zS G top L M s H locs) (hl : zLV ls 3 [some (zR G.2.2.1 a0), some (.int (zO a1)), some (.int (zO a2))]) (h : Wd_yearsTo fu L M a0 a1 a2 = some res) : W p l e (zrm 2 0 0) s m args below meth c H locs 0 0 (MQ below (zQ G top L M (some (.int (zO res))) (InR res)) args s 0 0 (zA G)) (F0 m 0 ls []) := by
  unfold Wd_yearsTo at h
  refine r_iconst E (Wd_yearsTo_dc.at 0 rfl) ?_
  refine u_al_n (x := a0) E (Wd_yearsTo_dc.at 1 rfl) hl rfl ?_
  refine u_il_n (x := a1) E (Wd_yearsTo_dc.at 2 rfl) hl rfl ?_
  obtain ⟨g1, h⟩ := ite_e h
  obtain ⟨r2, er2, h⟩ := bd1_e h
  refine u_cVI (As := [.int (zO a1)]) (rest := [.int (zO 0)]) E S zcw_yX10_bornIn zw_4_19 zw_4_20 zw_4_18 zck_10.1 rfl g1 (Wd_bornIn_c l G fu top L M a0 a1 ha0 ha1 er2) (zrm_ok (by decide) (by decide)) ⟨Nat.le_refl 0, Nat.le_refl 0⟩ rfl (by simp [zR_cat, zcat_I, zcat_J, zcat_S]) hl.size rfl (Wd_yearsTo_dc.at 3 rfl) (fun H locs hr2 S3 => ?_)
  refine u_il_n (x := a2) E (Wd_yearsTo_dc.at 4 rfl) hl rfl ?_
  refine r_iadd E (Wd_yearsTo_dc.at 5 rfl) ?_
  refine r_max (rest := []) E (show InR 0 by decide) (inR_w32 _) hl.size zw_4_186 zw_4_56 zw_1_17 zw_4_57 (by decide) (by simp [zR_cat, zcat_I, zcat_J, zcat_S, zrm]) ⟨Nat.zero_le _, Nat.zero_le _⟩ (Wd_yearsTo_dc.at 6 rfl) ?_
  cases h
  exact r_iret E S3 (inR_max (show InR 0 by decide) (inR_w32 _)) (Wd_yearsTo_dc.at 7 rfl)
theorem Wd_yearsTo_c (l : Launch) (G : zG) (fu : Nat) (top : Int) (L : zL) (M : zM) (a0 : Int) (a1 : Int) (a2 : Int) {res : Int} (ha0 : InR a0) (ha1 : InR a1) (ha2 : InR a2) (h : Wd_yearsTo fu L M a0 a1 a2 = some res) : Met l yX10_yearsTo (Cond.code yX10_yearsTo cX10_yearsTo 3 (some .int) :: zTB) (zrm 2 0 0) (va_Pc [zR G.2.2.1 a0, .int (zO a1), .int (zO a2)] (zPre G top L M)) (zQ G top L M (some (.int (zO res))) (InR res)) 0 0 (zA G) :=
  z_met (by decide +kernel) (by simp [zR_cat, zcat_I, zcat_S]) (Nat.le_of_ble_eq_true rfl) fun p e s m below meth c ls E hn S hl => Wd_yearsTo_w E ha0 ha1 ha2 S (hl.sub (And.intro rfl (And.intro rfl (And.intro rfl True.intro)))) h
end
theorem Rk_ageBehind_dc : zDL cX5_ageBehind [(0, .iload_n 3, 1, 1), (1, .iload_n 1, 1, 2), (2, .invokestatic 91, 3, 5), (5, .ifCond .eq 7, 3, 8), (8, .iconst 0, 1, 9), (9, .goto 9, 3, 12), (12, .aload_n 0, 1, 13), (13, .iload_n 1, 1, 14), (14, .iload_n 2, 1, 15), (15, .invokevirtual 109, 3, 18), (18, .ireturn, 1, 19)] := zDL.of (by decide +kernel)
section
variable {p : Program} {l : Launch} {e : Env} {s : State} {m : MethodId} {args : Array Value} {below : List Frame} {meth : Method} {c : Code} {G : zG} {top : Int} {L : zL} {fu : Nat}
theorem Rk_ageBehind_w (E : zEv p m c cX5_ageBehind 4 s args RX5 meth (some .int) G) {res : Int} {M : zM} {a0 : Int} {a1 : Int} {a2 : Int} {a3 : Int} {H : Heap} {locs : List Loc} {ls : Array Slot} (ha0 : InR a0) (ha1 : InR a1) (ha2 : InR a2) (ha3 : InR a3) (S : zS G top L M s H locs) (hl : zLV ls 4 [some (zR G.2.2.1 a0), some (.int (zO a1)), some (.int (zO a2)), some (.int (zO a3))]) (h : Rk_ageBehind fu L M a0 a1 a2 a3 = some res) : W p l e (zrm 3 0 0) s m args below meth c H locs 0 0 (MQ below (zQ G top L M (some (.int (zO res))) (InR res)) args s 0 0 (zA G)) (F0 m 0 ls []) := by
  unfold Rk_ageBehind at h
  refine u_il_n (x := a3) E (Rk_ageBehind_dc.at 0 rfl) hl rfl ?_
  refine u_il_n (x := a1) E (Rk_ageBehind_dc.at 1 rfl) hl rfl ?_
  obtain ⟨r1, er1, h⟩ := bd1_e h
  refine u_cSI (As := [.int (zO a3), .int (zO a1)]) (rest := []) E S zcw_yX5_inSet zw_5_167 zw_5_166 (Rk_inSet_c l G fu top L M a3 a1 ha3 ha1 er1) (zrm_ok (by decide) (by decide)) ⟨Nat.le_refl 0, Nat.le_refl 0⟩ rfl (Nat.zero_le 8) hl.size rfl (Rk_ageBehind_dc.at 2 rfl) (fun H locs hr1 S2 => ?_)
  refine r_if_eq (tgt := 12) E (inR_01 hr1) (Rk_ageBehind_dc.at 3 rfl) (by decide) (fun q => ?_) (fun q => ?_)
  · have h := ite_t h q
    refine u_al_n (x := a0) E (Rk_ageBehind_dc.at 6 rfl) hl rfl ?_
    refine u_il_n (x := a1) E (Rk_ageBehind_dc.at 7 rfl) hl rfl ?_
    refine u_il_n (x := a2) E (Rk_ageBehind_dc.at 8 rfl) hl rfl ?_
    obtain ⟨g3, h⟩ := ite_e h
    obtain ⟨r4, er4, h⟩ := bd1_e h
    refine u_cVI (As := [.int (zO a1), .int (zO a2)]) (rest := []) E S2 zcw_yX10_yearsTo zw_5_174 zw_5_175 zw_5_173 zck_10.1 rfl g3 (Wd_yearsTo_c l G fu top L M a0 a1 a2 ha0 ha1 ha2 er4) (zrm_ok (by decide) (by decide)) ⟨Nat.le_refl 0, Nat.le_refl 0⟩ rfl (Nat.zero_le 8) hl.size rfl (Rk_ageBehind_dc.at 9 rfl) (fun H locs hr4 S5 => ?_)
    cases h
    exact r_iret E S5 hr4 (Rk_ageBehind_dc.at 10 rfl)
  · have h := ite_f h q
    refine r_iconst E (Rk_ageBehind_dc.at 4 rfl) ?_
    refine r_goto (tgt := 18) E (Rk_ageBehind_dc.at 5 rfl) (by decide) ?_
    cases h
    exact r_iret E S2 (show InR 0 by decide) (Rk_ageBehind_dc.at 10 rfl)
theorem Rk_ageBehind_c (l : Launch) (G : zG) (fu : Nat) (top : Int) (L : zL) (M : zM) (a0 : Int) (a1 : Int) (a2 : Int) (a3 : Int) {res : Int} (ha0 : InR a0) (ha1 : InR a1) (ha2 : InR a2) (ha3 : InR a3) (h : Rk_ageBehind fu L M a0 a1 a2 a3 = some res) : Met l yX5_ageBehind (Cond.code yX5_ageBehind cX5_ageBehind 4 (some .int) :: zTB) (zrm 3 0 0) (va_Pc [zR G.2.2.1 a0, .int (zO a1), .int (zO a2), .int (zO a3)] (zPre G top L M)) (zQ G top L M (some (.int (zO res))) (InR res)) 0 0 (zA G) :=
  z_met (by decide +kernel) (by simp [zR_cat, zcat_I, zcat_S]) (Nat.le_of_ble_eq_true rfl) fun p e s m below meth c ls E hn S hl => Rk_ageBehind_w E ha0 ha1 ha2 ha3 S (hl.sub (And.intro rfl (And.intro rfl (And.intro rfl (And.intro rfl True.intro))))) h
end
theorem Rk_more_dc : zDL cX5_more [(0, .iload_n 0, 1, 1), (1, .ldc 90, 2, 3), (3, .if_icmp .lt 8, 3, 6), (6, .ldc 90, 2, 8), (8, .goto 6, 3, 11), (11, .iload_n 0, 1, 12), (12, .iload_n 1, 1, 13), (13, .iadd, 1, 14), (14, .ireturn, 1, 15)] := zDL.of (by decide +kernel)
section
variable {p : Program} {l : Launch} {e : Env} {s : State} {m : MethodId} {args : Array Value} {below : List Frame} {meth : Method} {c : Code} {G : zG} {top : Int} {L : zL} {fu : Nat}
theorem Rk_more_w (E : zEv p m c cX5_more 2 s args RX5 meth (some .int) G) {res : Int} {M : zM} {a0 : Int} {a1 : Int} {H : Heap} {locs : List Loc} {ls : Array Slot} (ha0 : InR a0) (ha1 : InR a1) (S : zS G top L M s H locs) (hl : zLV ls 2 [some (.int (zO a0)), some (.int (zO a1))]) (h : Rk_more fu L M a0 a1 = some res) : W p l e (zrm 1 0 0) s m args below meth c H locs 0 0 (MQ below (zQ G top L M (some (.int (zO res))) (InR res)) args s 0 0 (zA G)) (F0 m 0 ls []) := by
  unfold Rk_more at h
  refine u_il_n (x := a0) E (Rk_more_dc.at 0 rfl) hl rfl ?_
  refine r_ldc (n := 1000000) E (Rk_more_dc.at 1 rfl) zw_5_169 rfl ?_
  refine r_icmp_lt (tgt := 11) E ha0 (show InR 1000000 by decide) (Rk_more_dc.at 2 rfl) (by decide) (fun q => ?_) (fun q => ?_)
  · have h := ite_t h q
    refine u_il_n (x := a0) E (Rk_more_dc.at 5 rfl) hl rfl ?_
    refine u_il_n (x := a1) E (Rk_more_dc.at 6 rfl) hl rfl ?_
    refine r_iadd E (Rk_more_dc.at 7 rfl) ?_
    cases h
    exact r_iret E S (inR_w32 _) (Rk_more_dc.at 8 rfl)
  · have h := ite_f h q
    refine r_ldc (n := 1000000) E (Rk_more_dc.at 3 rfl) zw_5_169 rfl ?_
    refine r_goto (tgt := 14) E (Rk_more_dc.at 4 rfl) (by decide) ?_
    cases h
    exact r_iret E S (show InR 1000000 by decide) (Rk_more_dc.at 8 rfl)
theorem Rk_more_c (l : Launch) (G : zG) (fu : Nat) (top : Int) (L : zL) (M : zM) (a0 : Int) (a1 : Int) {res : Int} (ha0 : InR a0) (ha1 : InR a1) (h : Rk_more fu L M a0 a1 = some res) : Met l yX5_more (Cond.code yX5_more cX5_more 2 (some .int) :: zTB) (zrm 1 0 0) (va_Pc [.int (zO a0), .int (zO a1)] (zPre G top L M)) (zQ G top L M (some (.int (zO res))) (InR res)) 0 0 (zA G) :=
  z_met (by decide +kernel) (by simp [zR_cat, zcat_I, zcat_S]) (Nat.le_of_ble_eq_true rfl) fun p e s m below meth c ls E hn S hl => Rk_more_w E ha0 ha1 S (hl.sub (And.intro rfl (And.intro rfl True.intro))) h
end
theorem Rk_ageSure_dc : zDL cX5_ageSure [(0, .aload_n 0, 1, 1), (1, .iload_n 1, 1, 2), (2, .iload_n 2, 1, 3), (3, .invokevirtual 109, 3, 6), (6, .ifCond .ne 7, 3, 9), (9, .iconst 0, 1, 10), (10, .goto 5, 3, 13), (13, .ldc 90, 2, 15), (15, .ireturn, 1, 16)] := zDL.of (by decide +kernel)
section
variable {p : Program} {l : Launch} {e : Env} {s : State} {m : MethodId} {args : Array Value} {below : List Frame} {meth : Method} {c : Code} {G : zG} {top : Int} {L : zL} {fu : Nat}
theorem Rk_ageSure_w (E : zEv p m c cX5_ageSure 3 s args RX5 meth (some .int) G) {res : Int} {M : zM} {a0 : Int} {a1 : Int} {a2 : Int} {H : Heap} {locs : List Loc} {ls : Array Slot} (ha0 : InR a0) (ha1 : InR a1) (ha2 : InR a2) (S : zS G top L M s H locs) (hl : zLV ls 3 [some (zR G.2.2.1 a0), some (.int (zO a1)), some (.int (zO a2))]) (h : Rk_ageSure fu L M a0 a1 a2 = some res) : W p l e (zrm 3 0 0) s m args below meth c H locs 0 0 (MQ below (zQ G top L M (some (.int (zO res))) (InR res)) args s 0 0 (zA G)) (F0 m 0 ls []) := by
  unfold Rk_ageSure at h
  refine u_al_n (x := a0) E (Rk_ageSure_dc.at 0 rfl) hl rfl ?_
  refine u_il_n (x := a1) E (Rk_ageSure_dc.at 1 rfl) hl rfl ?_
  refine u_il_n (x := a2) E (Rk_ageSure_dc.at 2 rfl) hl rfl ?_
  obtain ⟨g1, h⟩ := ite_e h
  obtain ⟨r2, er2, h⟩ := bd1_e h
  refine u_cVI (As := [.int (zO a1), .int (zO a2)]) (rest := []) E S zcw_yX10_yearsTo zw_5_174 zw_5_175 zw_5_173 zck_10.1 rfl g1 (Wd_yearsTo_c l G fu top L M a0 a1 a2 ha0 ha1 ha2 er2) (zrm_ok (by decide) (by decide)) ⟨Nat.le_refl 0, Nat.le_refl 0⟩ rfl (Nat.zero_le 8) hl.size rfl (Rk_ageSure_dc.at 3 rfl) (fun H locs hr2 S3 => ?_)
  refine r_if_ne (tgt := 13) E hr2 (Rk_ageSure_dc.at 4 rfl) (by decide) (fun q => ?_) (fun q => ?_)
  · have h := ite_t h q
    refine r_iconst E (Rk_ageSure_dc.at 5 rfl) ?_
    refine r_goto (tgt := 15) E (Rk_ageSure_dc.at 6 rfl) (by decide) ?_
    cases h
    exact r_iret E S3 (show InR 0 by decide) (Rk_ageSure_dc.at 8 rfl)
  · have h := ite_f h q
    refine r_ldc (n := 1000000) E (Rk_ageSure_dc.at 7 rfl) zw_5_169 rfl ?_
    cases h
    exact r_iret E S3 (show InR 1000000 by decide) (Rk_ageSure_dc.at 8 rfl)
theorem Rk_ageSure_c (l : Launch) (G : zG) (fu : Nat) (top : Int) (L : zL) (M : zM) (a0 : Int) (a1 : Int) (a2 : Int) {res : Int} (ha0 : InR a0) (ha1 : InR a1) (ha2 : InR a2) (h : Rk_ageSure fu L M a0 a1 a2 = some res) : Met l yX5_ageSure (Cond.code yX5_ageSure cX5_ageSure 3 (some .int) :: zTB) (zrm 3 0 0) (va_Pc [zR G.2.2.1 a0, .int (zO a1), .int (zO a2)] (zPre G top L M)) (zQ G top L M (some (.int (zO res))) (InR res)) 0 0 (zA G) :=
  z_met (by decide +kernel) (by simp [zR_cat, zcat_I, zcat_S]) (Nat.le_of_ble_eq_true rfl) fun p e s m below meth c ls E hn S hl => Rk_ageSure_w E ha0 ha1 ha2 S (hl.sub (And.intro rfl (And.intro rfl (And.intro rfl True.intro)))) h
end
theorem Rk_laterAgeSure_dc : zDL cX5_laterAgeSure [(0, .iload_n 1, 1, 1), (1, .ifCond .ne 7, 3, 4), (4, .iload_n 0, 1, 5), (5, .goto 5, 3, 8), (8, .ldc 90, 2, 10), (10, .ireturn, 1, 11)] := zDL.of (by decide +kernel)
section
variable {p : Program} {l : Launch} {e : Env} {s : State} {m : MethodId} {args : Array Value} {below : List Frame} {meth : Method} {c : Code} {G : zG} {top : Int} {L : zL} {fu : Nat}
theorem Rk_laterAgeSure_w (E : zEv p m c cX5_laterAgeSure 2 s args RX5 meth (some .int) G) {res : Int} {M : zM} {a0 : Int} {a1 : Int} {H : Heap} {locs : List Loc} {ls : Array Slot} (ha0 : InR a0) (ha1 : InR a1) (S : zS G top L M s H locs) (hl : zLV ls 2 [some (.int (zO a0)), some (.int (zO a1))]) (h : Rk_laterAgeSure fu L M a0 a1 = some res) : W p l e (zrm 1 0 0) s m args below meth c H locs 0 0 (MQ below (zQ G top L M (some (.int (zO res))) (InR res)) args s 0 0 (zA G)) (F0 m 0 ls []) := by
  unfold Rk_laterAgeSure at h
  refine u_il_n (x := a1) E (Rk_laterAgeSure_dc.at 0 rfl) hl rfl ?_
  refine r_if_ne (tgt := 8) E ha1 (Rk_laterAgeSure_dc.at 1 rfl) (by decide) (fun q => ?_) (fun q => ?_)
  · have h := ite_t h q
    refine u_il_n (x := a0) E (Rk_laterAgeSure_dc.at 2 rfl) hl rfl ?_
    refine r_goto (tgt := 10) E (Rk_laterAgeSure_dc.at 3 rfl) (by decide) ?_
    cases h
    exact r_iret E S ha0 (Rk_laterAgeSure_dc.at 5 rfl)
  · have h := ite_f h q
    refine r_ldc (n := 1000000) E (Rk_laterAgeSure_dc.at 4 rfl) zw_5_169 rfl ?_
    cases h
    exact r_iret E S (show InR 1000000 by decide) (Rk_laterAgeSure_dc.at 5 rfl)
theorem Rk_laterAgeSure_c (l : Launch) (G : zG) (fu : Nat) (top : Int) (L : zL) (M : zM) (a0 : Int) (a1 : Int) {res : Int} (ha0 : InR a0) (ha1 : InR a1) (h : Rk_laterAgeSure fu L M a0 a1 = some res) : Met l yX5_laterAgeSure (Cond.code yX5_laterAgeSure cX5_laterAgeSure 2 (some .int) :: zTB) (zrm 1 0 0) (va_Pc [.int (zO a0), .int (zO a1)] (zPre G top L M)) (zQ G top L M (some (.int (zO res))) (InR res)) 0 0 (zA G) :=
  z_met (by decide +kernel) (by simp [zR_cat, zcat_I, zcat_S]) (Nat.le_of_ble_eq_true rfl) fun p e s m below meth c ls E hn S hl => Rk_laterAgeSure_w E ha0 ha1 S (hl.sub (And.intro rfl (And.intro rfl True.intro))) h
end
theorem Rk_yearsBehind_dc : zDL cX5_yearsBehind [(0, .iload_n 2, 1, 1), (1, .iload_n 3, 1, 2), (2, .iload 4, 2, 4), (4, .invokestatic 86, 3, 7), (7, .istore 5, 2, 9), (9, .ldc 90, 2, 11), (11, .istore 6, 2, 13), (13, .ldc 90, 2, 15), (15, .istore 7, 2, 17), (17, .iconst 0, 1, 18), (18, .istore 8, 2, 20), (20, .iload 8, 2, 22), (22, .aload_n 0, 1, 23), (23, .getfield 30, 3, 26), (26, .if_icmp .ge 329, 3, 29), (29, .iload 8, 2, 31), (31, .bipush 31, 2, 33), (33, .if_icmp .ge 322, 3, 36), (36, .aload_n 0, 1, 37), (37, .getfield 15, 3, 40), (40, .iload 8, 2, 42), (42, .iaload, 1, 43), (43, .istore 9, 2, 45), (45, .aload_n 0, 1, 46), (46, .getfield 24, 3, 49), (49, .aload_n 0, 1, 50), (50, .getfield 21, 3, 53), (53, .iload 8, 2, 55), (55, .iaload, 1, 56), (56, .invokestatic 50, 3, 59), (59, .istore 10, 2, 61), (61, .aload_n 0, 1, 62), (62, .getfield 27, 3, 65), (65, .aload_n 0, 1, 66), (66, .getfield 21, 3, 69), (69, .iload 8, 2, 71), (71, .iaload, 1, 72), (72, .invokestatic 50, 3, 75), (75, .istore 11, 2, 77), (77, .aload_n 0, 1, 78), (78, .getfield 9, 3, 81), (81, .iload 8, 2, 83), (83, .iaload, 1, 84), (84, .tableswitch 224 0 6 #[44, 55, 85, 96, 147, 182, 203], 44, 128), (128, .iload 9, 2, 130), (130, .istore 6, 2, 132), (132, .iload 9, 2, 134), (134, .istore 7, 2, 136), (136, .goto 195, 3, 139), (139, .iload 4, 2, 141), (141, .aload_n 0, 1, 142), (142, .getfield 18, 3, 145), (145, .iload 8, 2, 147), (147, .iaload, 1, 148), (148, .invokestatic 91, 3, 151), (151, .ifCond .eq 7, 3, 154), (154, .iconst 0, 1, 155), (155, .goto 5, 3, 158), (158, .ldc 90, 2, 160), (160, .istore 6, 2, 162), (162, .iload 6, 2, 164), (164, .istore 7, 2, 166), (166, .goto 165, 3, 169), (169, .iload 5, 2, 171), (171, .istore 6, 2, 173), (173, .iload 5, 2, 175), (175, .istore 7, 2, 177), (177, .goto 154, 3, 180), (180, .iload_n 2, 1, 181), (181, .ifCond .ne 15, 3, 184), (184, .aload_n 1, 1, 185), (185, .iload_n 3, 1, 186), (186, .iload 9, 2, 188), (188, .iload 4, 2, 190), (190, .invokestatic 95, 3, 193), (193, .goto 10, 3, 196), (196, .iload 5, 2, 198), (198, .iload 9, 2, 200), (200, .invokestatic 99, 3, 203), (203, .istore 6, 2, 205), (205, .iload_n 2, 1, 206), (206, .ifCond .ne 13, 3, 209), (209, .aload_n 1, 1, 210), (210, .iload_n 3, 1, 211), (211, .iload 9, 2, 213), (213, .invokestatic 102, 3, 216), (216, .goto 10, 3, 219), (219, .iload 5, 2, 221), (221, .iload 9, 2, 223), (223, .invokestatic 106, 3, 226), (226, .istore 7, 2, 228), (228, .goto 103, 3, 231), (231, .aload_n 1, 1, 232), (232, .aload_n 0, 1, 233), (233, .getfield 18, 3, 236), (236, .iload 8, 2, 238), (238, .iaload, 1, 239), (239, .iload 9, 2, 241), (241, .iload 4, 2, 243), (243, .invokestatic 95, 3, 246), (246, .istore 6, 2, 248), (248, .aload_n 1, 1, 249), (249, .aload_n 0, 1, 250), (250, .getfield 18, 3, 253), (253, .iload 8, 2, 255), (255, .iaload, 1, 256), (256, .iload 9, 2, 258), (258, .invokestatic 102, 3, 261), (261, .istore 7, 2, 263), (263, .goto 68, 3, 266), (266, .iload 6, 2, 268), (268, .iload 9, 2, 270), (270, .invokestatic 99, 3, 273), (273, .istore 6, 2, 275), (275, .iload 7, 2, 277), (277, .iload 9, 2, 279), (279, .invokestatic 99, 3, 282), (282, .istore 7, 2, 284), (284, .goto 47, 3, 287), (287, .iload 10, 2, 289), (289, .iload 6, 2, 291), (291, .invokestatic 69, 3, 294), (294, .istore 6, 2, 296), (296, .iload 11, 2, 298), (298, .iload 7, 2, 300), (300, .invokestatic 69, 3, 303), (303, .istore 7, 2, 305), (305, .goto 26, 3, 308), (308, .iload 11, 2, 310), (310, .iload 7, 2, 312), (312, .invokestatic 42, 3, 315), (315, .istore 7, 2, 317), (317, .iload 10, 2, 319), (319, .iload 6, 2, 321), (321, .invokestatic 69, 3, 324), (324, .iload 7, 2, 326), (326, .invokestatic 42, 3, 329), (329, .istore 6, 2, 331), (331, .aload_n 0, 1, 332), (332, .getfield 24, 3, 335), (335, .iload 8, 2, 337), (337, .iload 6, 2, 339), (339, .iastore, 1, 340), (340, .aload_n 0, 1, 341), (341, .getfield 27, 3, 344), (344, .iload 8, 2, 346), (346, .iload 7, 2, 348), (348, .iastore, 1, 349), (349, .iinc 8 1, 3, 352), (352, .goto (-332), 3, 355), (355, .iload 6, 2, 357), (357, .iload 5, 2, 359), (359, .invokestatic 69, 3, 362), (362, .ireturn, 1, 363)] := zDL.of (by decide +kernel)
section
variable {p : Program} {l : Launch} {e : Env} {s : State} {m : MethodId} {args : Array Value} {below : List Frame} {meth : Method} {c : Code} {G : zG} {top : Int} {L : zL} {fu : Nat}
theorem Rk_yearsBehind_b331_w (E : zEv p m c cX5_yearsBehind 12 s args RX5 meth (some .int) G) {res : (zM × Int)} {k20 : zM → Int → Int → Int → Int → Int → Int → Int → Int → Int → Option (zM × Int)} (hk20 : ∀ (M : zM) (x0 : Int) (x1 : Int) (x2 : Int) (x3 : Int) (x4 : Int) (x5 : Int) (x6 : Int) (x7 : Int) (x8 : Int), InR x0 → InR x1 → InR x2 → InR x3 → InR x4 → InR x5 → InR x6 → InR x7 → InR x8 → ∀ (H : Heap) (locs : List Loc) (ls : Array Slot), zS G top L M s H locs → zLV ls 12 [some (zR G.2.2.1 x0), some (zR G.2.2.1 x1), some (.int (zO x2)), some (.int (zO x3)), some (.int (zO x4)), some (.int (zO x5)), some (.int (zO x6)), some (.int (zO x7)), some (.int (zO x8)), none, none, none] → k20 M x0 x1 x2 x3 x4 x5 x6 x7 x8 = some res → W p l e (zrm 4 0 0) s m args below meth c H locs 0 0 (MQ below (zQ G top L res.1 (some (.int (zO res.2))) (InR res.2)) args s 0 0 (zA G)) (F0 m 20 ls [])) {M : zM} {x0 : Int} {x1 : Int} {x2 : Int} {x3 : Int} {x4 : Int} {x5 : Int} {x6 : Int} {x7 : Int} {x8 : Int} {H : Heap} {locs : List Loc} {ls : Array Slot} (hx0 : InR x0) (hx1 : InR x1) (hx2 : InR x2) (hx3 : InR x3) (hx4 : InR x4) (hx5 : InR x5) (hx6 : InR x6) (hx7 : InR x7) (hx8 : InR x8) (S : zS G top L M s H locs) (hl : zLV ls 12 [some (zR G.2.2.1 x0), some (zR G.2.2.1 x1), some (.int (zO x2)), some (.int (zO x3)), some (.int (zO x4)), some (.int (zO x5)), some (.int (zO x6)), some (.int (zO x7)), some (.int (zO x8)), none, none, none]) (h : Rk_yearsBehind_b331 fu k20 L M x0 x1 x2 x3 x4 x5 x6 x7 x8 = some res) : W p l e (zrm 4 0 0) s m args below meth c H locs 0 0 (MQ below (zQ G top L res.1 (some (.int (zO res.2))) (InR res.2)) args s 0 0 (zA G)) (F0 m 331 ls []) := by
  unfold Rk_yearsBehind_b331 at h
  refine u_al_n (x := x0) E (Rk_yearsBehind_dc.at 138 rfl) hl rfl ?_
  obtain ⟨g16, h⟩ := ite_e h
  refine u_gR E zf_5_4 S g16 zw_2_36 (Rk_yearsBehind_dc.at 139 rfl) ?_
  refine u_il (x := x8) E (Rk_yearsBehind_dc.at 140 rfl) hl rfl ?_
  refine u_il (x := x6) E (Rk_yearsBehind_dc.at 141 rfl) hl rfl ?_
  obtain ⟨g17, h⟩ := ite_e h
  obtain ⟨g18, h⟩ := ite_e h
  obtain ⟨M19, eM19, h⟩ := lt1_e h
  refine u_iast E eM19 S g17 g18 hx6 (Rk_yearsBehind_dc.at 142 rfl) (fun H locs S20 => ?_)
  refine u_al_n (x := x0) E (Rk_yearsBehind_dc.at 143 rfl) hl rfl ?_
  refine u_gR E zf_5_5 S20 g16 zw_2_37 (Rk_yearsBehind_dc.at 144 rfl) ?_
  refine u_il (x := x8) E (Rk_yearsBehind_dc.at 145 rfl) hl rfl ?_
  refine u_il (x := x7) E (Rk_yearsBehind_dc.at 146 rfl) hl rfl ?_
  obtain ⟨g21, h⟩ := ite_e h
  obtain ⟨g22, h⟩ := ite_e h
  obtain ⟨M23, eM23, h⟩ := lt1_e h
  refine u_iast E eM23 S20 g21 g22 hx7 (Rk_yearsBehind_dc.at 147 rfl) (fun H locs S24 => ?_)
  obtain ⟨v25, ev25, h⟩ := lt1_e h
  have hv25 := inR_eq ev25 (inR_w32 _)
  refine u_iinc (y := v25) (vs' := [some (zR G.2.2.1 x0), some (zR G.2.2.1 x1), some (.int (zO x2)), some (.int (zO x3)), some (.int (zO x4)), some (.int (zO x5)), some (.int (zO x6)), some (.int (zO x7)), some (.int (zO v25)), none, none, none]) E ev25 (Rk_yearsBehind_dc.at 148 rfl) hl rfl (by decide) rfl (fun ls hl => ?_)
  refine r_goto (tgt := 20) E (Rk_yearsBehind_dc.at 149 rfl) (by decide) ?_
  exact hk20 _ x0 x1 x2 x3 x4 x5 x6 x7 v25 hx0 hx1 hx2 hx3 hx4 hx5 hx6 hx7 hv25 _ _ _ S24 (hl.sub (And.intro rfl (And.intro rfl (And.intro rfl (And.intro rfl (And.intro rfl (And.intro rfl (And.intro rfl (And.intro rfl (And.intro rfl True.intro)))))))))) h
theorem Rk_yearsBehind_b203_w (E : zEv p m c cX5_yearsBehind 12 s args RX5 meth (some .int) G) {res : (zM × Int)} {k20 : zM → Int → Int → Int → Int → Int → Int → Int → Int → Int → Option (zM × Int)} (hk20 : ∀ (M : zM) (x0 : Int) (x1 : Int) (x2 : Int) (x3 : Int) (x4 : Int) (x5 : Int) (x6 : Int) (x7 : Int) (x8 : Int), InR x0 → InR x1 → InR x2 → InR x3 → InR x4 → InR x5 → InR x6 → InR x7 → InR x8 → ∀ (H : Heap) (locs : List Loc) (ls : Array Slot), zS G top L M s H locs → zLV ls 12 [some (zR G.2.2.1 x0), some (zR G.2.2.1 x1), some (.int (zO x2)), some (.int (zO x3)), some (.int (zO x4)), some (.int (zO x5)), some (.int (zO x6)), some (.int (zO x7)), some (.int (zO x8)), none, none, none] → k20 M x0 x1 x2 x3 x4 x5 x6 x7 x8 = some res → W p l e (zrm 4 0 0) s m args below meth c H locs 0 0 (MQ below (zQ G top L res.1 (some (.int (zO res.2))) (InR res.2)) args s 0 0 (zA G)) (F0 m 20 ls [])) {M : zM} {x0 : Int} {x1 : Int} {x2 : Int} {x3 : Int} {x4 : Int} {x5 : Int} {x8 : Int} {x9 : Int} {y0 : Int} {H : Heap} {locs : List Loc} {ls : Array Slot} (hx0 : InR x0) (hx1 : InR x1) (hx2 : InR x2) (hx3 : InR x3) (hx4 : InR x4) (hx5 : InR x5) (hx8 : InR x8) (hx9 : InR x9) (hy0 : InR y0) (S : zS G top L M s H locs) (hl : zLV ls 12 [some (zR G.2.2.1 x0), some (zR G.2.2.1 x1), some (.int (zO x2)), some (.int (zO x3)), some (.int (zO x4)), some (.int (zO x5)), none, none, some (.int (zO x8)), some (.int (zO x9)), none, none]) (h : Rk_yearsBehind_b203 fu k20 L M x0 x1 x2 x3 x4 x5 x8 x9 y0 = some res) : W p l e (zrm 4 0 0) s m args below meth c H locs 0 0 (MQ below (zQ G top L res.1 (some (.int (zO res.2))) (InR res.2)) args s 0 0 (zA G)) (F0 m 203 ls [.int (zO y0)]) := by
  unfold Rk_yearsBehind_b203 at h
  refine u_ist (y := y0) (vs' := [some (zR G.2.2.1 x0), some (zR G.2.2.1 x1), some (.int (zO x2)), some (.int (zO x3)), some (.int (zO x4)), some (.int (zO x5)), some (.int (zO y0)), none, some (.int (zO x8)), some (.int (zO x9)), none, none]) E rfl (Rk_yearsBehind_dc.at 79 rfl) hl (by decide) rfl (fun ls hl => ?_)
  refine u_il_n (x := x2) E (Rk_yearsBehind_dc.at 80 rfl) hl rfl ?_
  refine r_if_ne (tgt := 219) E hx2 (Rk_yearsBehind_dc.at 81 rfl) (by decide) (fun q => ?_) (fun q => ?_)
  · have h := ite_t h q
    refine u_al_n (x := x1) E (Rk_yearsBehind_dc.at 82 rfl) hl rfl ?_
    refine u_il_n (x := x3) E (Rk_yearsBehind_dc.at 83 rfl) hl rfl ?_
    refine u_il (x := x9) E (Rk_yearsBehind_dc.at 84 rfl) hl rfl ?_
    obtain ⟨r35, er35, h⟩ := bd1_e h
    refine u_cSI (As := [zR G.2.2.1 x1, .int (zO x3), .int (zO x9)]) (rest := []) E S zcw_yX5_ageSure zw_5_181 zw_5_180 (Rk_ageSure_c l G fu top L M x1 x3 x9 hx1 hx3 hx9 er35) (zrm_ok (by decide) (by decide)) ⟨Nat.le_refl 0, Nat.le_refl 0⟩ rfl (Nat.zero_le 8) hl.size rfl (Rk_yearsBehind_dc.at 85 rfl) (fun H locs hr35 S36 => ?_)
    refine r_goto (tgt := 226) E (Rk_yearsBehind_dc.at 86 rfl) (by decide) ?_
    refine u_ist (y := r35) (vs' := [some (zR G.2.2.1 x0), some (zR G.2.2.1 x1), some (.int (zO x2)), some (.int (zO x3)), some (.int (zO x4)), some (.int (zO x5)), some (.int (zO y0)), some (.int (zO r35)), some (.int (zO x8)), some (.int (zO x9)), none, none]) E rfl (Rk_yearsBehind_dc.at 90 rfl) hl (by decide) rfl (fun ls hl => ?_)
    refine r_goto (tgt := 331) E (Rk_yearsBehind_dc.at 91 rfl) (by decide) ?_
    exact Rk_yearsBehind_b331_w (x0 := x0) (x1 := x1) (x2 := x2) (x3 := x3) (x4 := x4) (x5 := x5) (x6 := y0) (x7 := r35) (x8 := x8)  E hk20 hx0 hx1 hx2 hx3 hx4 hx5 hy0 hr35 hx8 S36 (hl.sub (And.intro rfl (And.intro rfl (And.intro rfl (And.intro rfl (And.intro rfl (And.intro rfl (And.intro rfl (And.intro rfl (And.intro rfl True.intro)))))))))) h
  · have h := ite_f h q
    refine u_il (x := x5) E (Rk_yearsBehind_dc.at 87 rfl) hl rfl ?_
    refine u_il (x := x9) E (Rk_yearsBehind_dc.at 88 rfl) hl rfl ?_
    obtain ⟨r37, er37, h⟩ := bd1_e h
    refine u_cSI (As := [.int (zO x5), .int (zO x9)]) (rest := []) E S zcw_yX5_laterAgeSure zw_5_184 zw_5_183 (Rk_laterAgeSure_c l G fu top L M x5 x9 hx5 hx9 er37) (zrm_ok (by decide) (by decide)) ⟨Nat.le_refl 0, Nat.le_refl 0⟩ rfl (Nat.zero_le 8) hl.size rfl (Rk_yearsBehind_dc.at 89 rfl) (fun H locs hr37 S38 => ?_)
    refine u_ist (y := r37) (vs' := [some (zR G.2.2.1 x0), some (zR G.2.2.1 x1), some (.int (zO x2)), some (.int (zO x3)), some (.int (zO x4)), some (.int (zO x5)), some (.int (zO y0)), some (.int (zO r37)), some (.int (zO x8)), some (.int (zO x9)), none, none]) E rfl (Rk_yearsBehind_dc.at 90 rfl) hl (by decide) rfl (fun ls hl => ?_)
    refine r_goto (tgt := 331) E (Rk_yearsBehind_dc.at 91 rfl) (by decide) ?_
    exact Rk_yearsBehind_b331_w (x0 := x0) (x1 := x1) (x2 := x2) (x3 := x3) (x4 := x4) (x5 := x5) (x6 := y0) (x7 := r37) (x8 := x8)  E hk20 hx0 hx1 hx2 hx3 hx4 hx5 hy0 hr37 hx8 S38 (hl.sub (And.intro rfl (And.intro rfl (And.intro rfl (And.intro rfl (And.intro rfl (And.intro rfl (And.intro rfl (And.intro rfl (And.intro rfl True.intro)))))))))) h
theorem Rk_yearsBehind_s20_w (E : zEv p m c cX5_yearsBehind 12 s args RX5 meth (some .int) G) {res : (zM × Int)} {k20 : zM → Int → Int → Int → Int → Int → Int → Int → Int → Int → Option (zM × Int)} (hk20 : ∀ (M : zM) (x0 : Int) (x1 : Int) (x2 : Int) (x3 : Int) (x4 : Int) (x5 : Int) (x6 : Int) (x7 : Int) (x8 : Int), InR x0 → InR x1 → InR x2 → InR x3 → InR x4 → InR x5 → InR x6 → InR x7 → InR x8 → ∀ (H : Heap) (locs : List Loc) (ls : Array Slot), zS G top L M s H locs → zLV ls 12 [some (zR G.2.2.1 x0), some (zR G.2.2.1 x1), some (.int (zO x2)), some (.int (zO x3)), some (.int (zO x4)), some (.int (zO x5)), some (.int (zO x6)), some (.int (zO x7)), some (.int (zO x8)), none, none, none] → k20 M x0 x1 x2 x3 x4 x5 x6 x7 x8 = some res → W p l e (zrm 4 0 0) s m args below meth c H locs 0 0 (MQ below (zQ G top L res.1 (some (.int (zO res.2))) (InR res.2)) args s 0 0 (zA G)) (F0 m 20 ls [])) {M : zM} {x0 : Int} {x1 : Int} {x2 : Int} {x3 : Int} {x4 : Int} {x5 : Int} {x6 : Int} {x7 : Int} {x8 : Int} {H : Heap} {locs : List Loc} {ls : Array Slot} (hx0 : InR x0) (hx1 : InR x1) (hx2 : InR x2) (hx3 : InR x3) (hx4 : InR x4) (hx5 : InR x5) (hx6 : InR x6) (hx7 : InR x7) (hx8 : InR x8) (S : zS G top L M s H locs) (hl : zLV ls 12 [some (zR G.2.2.1 x0), some (zR G.2.2.1 x1), some (.int (zO x2)), some (.int (zO x3)), some (.int (zO x4)), some (.int (zO x5)), some (.int (zO x6)), some (.int (zO x7)), some (.int (zO x8)), none, none, none]) (h : Rk_yearsBehind_s20 fu k20 L M x0 x1 x2 x3 x4 x5 x6 x7 x8 = some res) : W p l e (zrm 4 0 0) s m args below meth c H locs 0 0 (MQ below (zQ G top L res.1 (some (.int (zO res.2))) (InR res.2)) args s 0 0 (zA G)) (F0 m 20 ls []) := by
  unfold Rk_yearsBehind_s20 at h
  refine u_il (x := x8) E (Rk_yearsBehind_dc.at 11 rfl) hl rfl ?_
  refine u_al_n (x := x0) E (Rk_yearsBehind_dc.at 12 rfl) hl rfl ?_
  obtain ⟨g3, h⟩ := ite_e h
  refine u_gI E zf_5_6 S g3 zw_2_38 (Rk_yearsBehind_dc.at 13 rfl) ?_
  refine r_icmp_ge (tgt := 355) E hx8 (S.1.inR _ _) (Rk_yearsBehind_dc.at 14 rfl) (by decide) (fun q => ?_) (fun q => ?_)
  · have h := ite_t h q
    refine u_il (x := x8) E (Rk_yearsBehind_dc.at 15 rfl) hl rfl ?_
    refine r_bipush E (Rk_yearsBehind_dc.at 16 rfl) rfl ?_
    refine r_icmp_ge (tgt := 355) E hx8 (show InR 31 by decide) (Rk_yearsBehind_dc.at 17 rfl) (by decide) (fun q => ?_) (fun q => ?_)
    · have h := ite_t h q
      refine u_al_n (x := x0) E (Rk_yearsBehind_dc.at 18 rfl) hl rfl ?_
      refine u_gR E zf_5_1 S g3 zw_2_33 (Rk_yearsBehind_dc.at 19 rfl) ?_
      refine u_il (x := x8) E (Rk_yearsBehind_dc.at 20 rfl) hl rfl ?_
      obtain ⟨g4, h⟩ := ite_e h
      obtain ⟨g5, h⟩ := ite_e h
      refine r_iald E S g4 g5 (Rk_yearsBehind_dc.at 21 rfl) ?_
      obtain ⟨v6, ev6, h⟩ := lt1_e h
      have hv6 := inR_eq ev6 (S.1.inR _ _)
      refine u_ist (y := v6) (vs' := [some (zR G.2.2.1 x0), some (zR G.2.2.1 x1), some (.int (zO x2)), some (.int (zO x3)), some (.int (zO x4)), some (.int (zO x5)), some (.int (zO x6)), some (.int (zO x7)), some (.int (zO x8)), some (.int (zO v6)), none, none]) E ev6 (Rk_yearsBehind_dc.at 22 rfl) hl (by decide) rfl (fun ls hl => ?_)
      refine u_al_n (x := x0) E (Rk_yearsBehind_dc.at 23 rfl) hl rfl ?_
      refine u_gR E zf_5_4 S g3 zw_2_36 (Rk_yearsBehind_dc.at 24 rfl) ?_
      refine u_al_n (x := x0) E (Rk_yearsBehind_dc.at 25 rfl) hl rfl ?_
      refine u_gR E zf_5_3 S g3 zw_2_35 (Rk_yearsBehind_dc.at 26 rfl) ?_
      refine u_il (x := x8) E (Rk_yearsBehind_dc.at 27 rfl) hl rfl ?_
      obtain ⟨g7, h⟩ := ite_e h
      obtain ⟨g8, h⟩ := ite_e h
      refine r_iald E S g7 g8 (Rk_yearsBehind_dc.at 28 rfl) ?_
      obtain ⟨r9, er9, h⟩ := bd1_e h
      refine u_cSI (As := [zR G.2.2.1 (M x0 4), .int (zO (M (M x0 3) x8))]) (rest := []) E S zcw_yX5_answerOf zw_4_238 zw_4_237 (Rk_answerOf_c l G fu top L M (M x0 4) (M (M x0 3) x8) (S.1.inR _ _) (S.1.inR _ _) er9) (zrm_ok (by decide) (by decide)) ⟨Nat.le_refl 0, Nat.le_refl 0⟩ rfl (Nat.zero_le 8) hl.size rfl (Rk_yearsBehind_dc.at 29 rfl) (fun H locs hr9 S10 => ?_)
      refine u_ist (y := r9) (vs' := [some (zR G.2.2.1 x0), some (zR G.2.2.1 x1), some (.int (zO x2)), some (.int (zO x3)), some (.int (zO x4)), some (.int (zO x5)), some (.int (zO x6)), some (.int (zO x7)), some (.int (zO x8)), some (.int (zO v6)), some (.int (zO r9)), none]) E rfl (Rk_yearsBehind_dc.at 30 rfl) hl (by decide) rfl (fun ls hl => ?_)
      refine u_al_n (x := x0) E (Rk_yearsBehind_dc.at 31 rfl) hl rfl ?_
      refine u_gR E zf_5_5 S10 g3 zw_2_37 (Rk_yearsBehind_dc.at 32 rfl) ?_
      refine u_al_n (x := x0) E (Rk_yearsBehind_dc.at 33 rfl) hl rfl ?_
      refine u_gR E zf_5_3 S10 g3 zw_2_35 (Rk_yearsBehind_dc.at 34 rfl) ?_
      refine u_il (x := x8) E (Rk_yearsBehind_dc.at 35 rfl) hl rfl ?_
      obtain ⟨g11, h⟩ := ite_e h
      refine r_iald E S10 g7 g11 (Rk_yearsBehind_dc.at 36 rfl) ?_
      obtain ⟨r12, er12, h⟩ := bd1_e h
      refine u_cSI (As := [zR G.2.2.1 (M x0 5), .int (zO (M (M x0 3) x8))]) (rest := []) E S10 zcw_yX5_answerOf zw_4_238 zw_4_237 (Rk_answerOf_c l G fu top L M (M x0 5) (M (M x0 3) x8) (S10.1.inR _ _) (S10.1.inR _ _) er12) (zrm_ok (by decide) (by decide)) ⟨Nat.le_refl 0, Nat.le_refl 0⟩ rfl (Nat.zero_le 8) hl.size rfl (Rk_yearsBehind_dc.at 37 rfl) (fun H locs hr12 S13 => ?_)
      refine u_ist (y := r12) (vs' := [some (zR G.2.2.1 x0), some (zR G.2.2.1 x1), some (.int (zO x2)), some (.int (zO x3)), some (.int (zO x4)), some (.int (zO x5)), some (.int (zO x6)), some (.int (zO x7)), some (.int (zO x8)), some (.int (zO v6)), some (.int (zO r9)), some (.int (zO r12))]) E rfl (Rk_yearsBehind_dc.at 38 rfl) hl (by decide) rfl (fun ls hl => ?_)
      refine u_al_n (x := x0) E (Rk_yearsBehind_dc.at 39 rfl) hl rfl ?_
      refine u_gR E zf_5_0 S13 g3 zw_2_32 (Rk_yearsBehind_dc.at 40 rfl) ?_
      refine u_il (x := x8) E (Rk_yearsBehind_dc.at 41 rfl) hl rfl ?_
      obtain ⟨g14, h⟩ := ite_e h
      obtain ⟨g15, h⟩ := ite_e h
      refine r_iald E S13 g14 g15 (Rk_yearsBehind_dc.at 42 rfl) ?_
      by_cases q26 : (M (M x0 0) x8) = 0
      · have h := ite_t h q26
        refine r_tin (tgt := 128) (k := 0) E (S13.1.inR _ _) q26 (Rk_yearsBehind_dc.at 43 rfl) (by decide) (by decide) rfl (by decide) ?_
        refine u_il (x := v6) E (Rk_yearsBehind_dc.at 44 rfl) hl rfl ?_
        refine u_ist (y := v6) (vs' := [some (zR G.2.2.1 x0), some (zR G.2.2.1 x1), some (.int (zO x2)), some (.int (zO x3)), some (.int (zO x4)), some (.int (zO x5)), some (.int (zO v6)), some (.int (zO x7)), some (.int (zO x8)), some (.int (zO v6)), some (.int (zO r9)), some (.int (zO r12))]) E rfl (Rk_yearsBehind_dc.at 45 rfl) hl (by decide) rfl (fun ls hl => ?_)
        refine u_il (x := v6) E (Rk_yearsBehind_dc.at 46 rfl) hl rfl ?_
        refine u_ist (y := v6) (vs' := [some (zR G.2.2.1 x0), some (zR G.2.2.1 x1), some (.int (zO x2)), some (.int (zO x3)), some (.int (zO x4)), some (.int (zO x5)), some (.int (zO v6)), some (.int (zO v6)), some (.int (zO x8)), some (.int (zO v6)), some (.int (zO r9)), some (.int (zO r12))]) E rfl (Rk_yearsBehind_dc.at 47 rfl) hl (by decide) rfl (fun ls hl => ?_)
        refine r_goto (tgt := 331) E (Rk_yearsBehind_dc.at 48 rfl) (by decide) ?_
        exact Rk_yearsBehind_b331_w (x0 := x0) (x1 := x1) (x2 := x2) (x3 := x3) (x4 := x4) (x5 := x5) (x6 := v6) (x7 := v6) (x8 := x8)  E hk20 hx0 hx1 hx2 hx3 hx4 hx5 hv6 hv6 hx8 S13 (hl.sub (And.intro rfl (And.intro rfl (And.intro rfl (And.intro rfl (And.intro rfl (And.intro rfl (And.intro rfl (And.intro rfl (And.intro rfl True.intro)))))))))) h
      · have h := ite_f h q26
        by_cases q31 : (M (M x0 0) x8) = 1
        · have h := ite_t h q31
          refine r_tin (tgt := 139) (k := 1) E (S13.1.inR _ _) q31 (Rk_yearsBehind_dc.at 43 rfl) (by decide) (by decide) rfl (by decide) ?_
          refine u_il (x := x4) E (Rk_yearsBehind_dc.at 49 rfl) hl rfl ?_
          refine u_al_n (x := x0) E (Rk_yearsBehind_dc.at 50 rfl) hl rfl ?_
          refine u_gR E zf_5_2 S13 g3 zw_2_34 (Rk_yearsBehind_dc.at 51 rfl) ?_
          refine u_il (x := x8) E (Rk_yearsBehind_dc.at 52 rfl) hl rfl ?_
          obtain ⟨g27, h⟩ := ite_e h
          obtain ⟨g28, h⟩ := ite_e h
          refine r_iald E S13 g27 g28 (Rk_yearsBehind_dc.at 53 rfl) ?_
          obtain ⟨r29, er29, h⟩ := bd1_e h
          refine u_cSI (As := [.int (zO x4), .int (zO (M (M x0 2) x8))]) (rest := []) E S13 zcw_yX5_inSet zw_5_167 zw_5_166 (Rk_inSet_c l G fu top L M x4 (M (M x0 2) x8) hx4 (S13.1.inR _ _) er29) (zrm_ok (by decide) (by decide)) ⟨Nat.le_refl 0, Nat.le_refl 0⟩ rfl (Nat.zero_le 8) hl.size rfl (Rk_yearsBehind_dc.at 54 rfl) (fun H locs hr29 S30 => ?_)
          refine r_if_eq (tgt := 158) E (inR_01 hr29) (Rk_yearsBehind_dc.at 55 rfl) (by decide) (fun q => ?_) (fun q => ?_)
          · have h := ite_t h q
            refine r_ldc (n := 1000000) E (Rk_yearsBehind_dc.at 58 rfl) zw_5_169 rfl ?_
            refine u_ist (y := 1000000) (vs' := [some (zR G.2.2.1 x0), some (zR G.2.2.1 x1), some (.int (zO x2)), some (.int (zO x3)), some (.int (zO x4)), some (.int (zO x5)), some (.int (zO 1000000)), some (.int (zO x7)), some (.int (zO x8)), some (.int (zO v6)), some (.int (zO r9)), some (.int (zO r12))]) E rfl (Rk_yearsBehind_dc.at 59 rfl) hl (by decide) rfl (fun ls hl => ?_)
            refine u_il (x := 1000000) E (Rk_yearsBehind_dc.at 60 rfl) hl rfl ?_
            refine u_ist (y := 1000000) (vs' := [some (zR G.2.2.1 x0), some (zR G.2.2.1 x1), some (.int (zO x2)), some (.int (zO x3)), some (.int (zO x4)), some (.int (zO x5)), some (.int (zO 1000000)), some (.int (zO 1000000)), some (.int (zO x8)), some (.int (zO v6)), some (.int (zO r9)), some (.int (zO r12))]) E rfl (Rk_yearsBehind_dc.at 61 rfl) hl (by decide) rfl (fun ls hl => ?_)
            refine r_goto (tgt := 331) E (Rk_yearsBehind_dc.at 62 rfl) (by decide) ?_
            exact Rk_yearsBehind_b331_w (x0 := x0) (x1 := x1) (x2 := x2) (x3 := x3) (x4 := x4) (x5 := x5) (x6 := 1000000) (x7 := 1000000) (x8 := x8)  E hk20 hx0 hx1 hx2 hx3 hx4 hx5 (show InR 1000000 by decide) (show InR 1000000 by decide) hx8 S30 (hl.sub (And.intro rfl (And.intro rfl (And.intro rfl (And.intro rfl (And.intro rfl (And.intro rfl (And.intro rfl (And.intro rfl (And.intro rfl True.intro)))))))))) h
          · have h := ite_f h q
            refine r_iconst E (Rk_yearsBehind_dc.at 56 rfl) ?_
            refine r_goto (tgt := 160) E (Rk_yearsBehind_dc.at 57 rfl) (by decide) ?_
            refine u_ist (y := 0) (vs' := [some (zR G.2.2.1 x0), some (zR G.2.2.1 x1), some (.int (zO x2)), some (.int (zO x3)), some (.int (zO x4)), some (.int (zO x5)), some (.int (zO 0)), some (.int (zO x7)), some (.int (zO x8)), some (.int (zO v6)), some (.int (zO r9)), some (.int (zO r12))]) E rfl (Rk_yearsBehind_dc.at 59 rfl) hl (by decide) rfl (fun ls hl => ?_)
            refine u_il (x := 0) E (Rk_yearsBehind_dc.at 60 rfl) hl rfl ?_
            refine u_ist (y := 0) (vs' := [some (zR G.2.2.1 x0), some (zR G.2.2.1 x1), some (.int (zO x2)), some (.int (zO x3)), some (.int (zO x4)), some (.int (zO x5)), some (.int (zO 0)), some (.int (zO 0)), some (.int (zO x8)), some (.int (zO v6)), some (.int (zO r9)), some (.int (zO r12))]) E rfl (Rk_yearsBehind_dc.at 61 rfl) hl (by decide) rfl (fun ls hl => ?_)
            refine r_goto (tgt := 331) E (Rk_yearsBehind_dc.at 62 rfl) (by decide) ?_
            exact Rk_yearsBehind_b331_w (x0 := x0) (x1 := x1) (x2 := x2) (x3 := x3) (x4 := x4) (x5 := x5) (x6 := 0) (x7 := 0) (x8 := x8)  E hk20 hx0 hx1 hx2 hx3 hx4 hx5 (show InR 0 by decide) (show InR 0 by decide) hx8 S30 (hl.sub (And.intro rfl (And.intro rfl (And.intro rfl (And.intro rfl (And.intro rfl (And.intro rfl (And.intro rfl (And.intro rfl (And.intro rfl True.intro)))))))))) h
        · have h := ite_f h q31
          by_cases q32 : (M (M x0 0) x8) = 2
          · have h := ite_t h q32
            refine r_tin (tgt := 169) (k := 2) E (S13.1.inR _ _) q32 (Rk_yearsBehind_dc.at 43 rfl) (by decide) (by decide) rfl (by decide) ?_
            refine u_il (x := x5) E (Rk_yearsBehind_dc.at 63 rfl) hl rfl ?_
            refine u_ist (y := x5) (vs' := [some (zR G.2.2.1 x0), some (zR G.2.2.1 x1), some (.int (zO x2)), some (.int (zO x3)), some (.int (zO x4)), some (.int (zO x5)), some (.int (zO x5)), some (.int (zO x7)), some (.int (zO x8)), some (.int (zO v6)), some (.int (zO r9)), some (.int (zO r12))]) E rfl (Rk_yearsBehind_dc.at 64 rfl) hl (by decide) rfl (fun ls hl => ?_)
            refine u_il (x := x5) E (Rk_yearsBehind_dc.at 65 rfl) hl rfl ?_
            refine u_ist (y := x5) (vs' := [some (zR G.2.2.1 x0), some (zR G.2.2.1 x1), some (.int (zO x2)), some (.int (zO x3)), some (.int (zO x4)), some (.int (zO x5)), some (.int (zO x5)), some (.int (zO x5)), some (.int (zO x8)), some (.int (zO v6)), some (.int (zO r9)), some (.int (zO r12))]) E rfl (Rk_yearsBehind_dc.at 66 rfl) hl (by decide) rfl (fun ls hl => ?_)
            refine r_goto (tgt := 331) E (Rk_yearsBehind_dc.at 67 rfl) (by decide) ?_
            exact Rk_yearsBehind_b331_w (x0 := x0) (x1 := x1) (x2 := x2) (x3 := x3) (x4 := x4) (x5 := x5) (x6 := x5) (x7 := x5) (x8 := x8)  E hk20 hx0 hx1 hx2 hx3 hx4 hx5 hx5 hx5 hx8 S13 (hl.sub (And.intro rfl (And.intro rfl (And.intro rfl (And.intro rfl (And.intro rfl (And.intro rfl (And.intro rfl (And.intro rfl (And.intro rfl True.intro)))))))))) h
          · have h := ite_f h q32
            by_cases q41 : (M (M x0 0) x8) = 3
            · have h := ite_t h q41
              refine r_tin (tgt := 180) (k := 3) E (S13.1.inR _ _) q41 (Rk_yearsBehind_dc.at 43 rfl) (by decide) (by decide) rfl (by decide) ?_
              refine u_il_n (x := x2) E (Rk_yearsBehind_dc.at 68 rfl) hl rfl ?_
              refine r_if_ne (tgt := 196) E hx2 (Rk_yearsBehind_dc.at 69 rfl) (by decide) (fun q => ?_) (fun q => ?_)
              · have h := ite_t h q
                refine u_al_n (x := x1) E (Rk_yearsBehind_dc.at 70 rfl) hl rfl ?_
                refine u_il_n (x := x3) E (Rk_yearsBehind_dc.at 71 rfl) hl rfl ?_
                refine u_il (x := v6) E (Rk_yearsBehind_dc.at 72 rfl) hl rfl ?_
                refine u_il (x := x4) E (Rk_yearsBehind_dc.at 73 rfl) hl rfl ?_
                obtain ⟨r33, er33, h⟩ := bd1_e h
                refine u_cSI (As := [zR G.2.2.1 x1, .int (zO x3), .int (zO v6), .int (zO x4)]) (rest := []) E S13 zcw_yX5_ageBehind zw_5_171 zw_5_170 (Rk_ageBehind_c l G fu top L M x1 x3 v6 x4 hx1 hx3 hv6 hx4 er33) (zrm_ok (by decide) (by decide)) ⟨Nat.le_refl 0, Nat.le_refl 0⟩ rfl (Nat.zero_le 8) hl.size rfl (Rk_yearsBehind_dc.at 74 rfl) (fun H locs hr33 S34 => ?_)
                refine r_goto (tgt := 203) E (Rk_yearsBehind_dc.at 75 rfl) (by decide) ?_
                exact Rk_yearsBehind_b203_w (x0 := x0) (x1 := x1) (x2 := x2) (x3 := x3) (x4 := x4) (x5 := x5) (x8 := x8) (x9 := v6) (y0 := r33) E hk20 hx0 hx1 hx2 hx3 hx4 hx5 hx8 hv6 hr33 S34 (hl.sub (And.intro rfl (And.intro rfl (And.intro rfl (And.intro rfl (And.intro rfl (And.intro rfl (And.intro rfl (And.intro rfl True.intro))))))))) h
              · have h := ite_f h q
                refine u_il (x := x5) E (Rk_yearsBehind_dc.at 76 rfl) hl rfl ?_
                refine u_il (x := v6) E (Rk_yearsBehind_dc.at 77 rfl) hl rfl ?_
                obtain ⟨r39, er39, h⟩ := bd1_e h
                refine u_cSI (As := [.int (zO x5), .int (zO v6)]) (rest := []) E S13 zcw_yX5_more zw_5_178 zw_5_177 (Rk_more_c l G fu top L M x5 v6 hx5 hv6 er39) (zrm_ok (by decide) (by decide)) ⟨Nat.le_refl 0, Nat.le_refl 0⟩ rfl (Nat.zero_le 8) hl.size rfl (Rk_yearsBehind_dc.at 78 rfl) (fun H locs hr39 S40 => ?_)
                exact Rk_yearsBehind_b203_w (x0 := x0) (x1 := x1) (x2 := x2) (x3 := x3) (x4 := x4) (x5 := x5) (x8 := x8) (x9 := v6) (y0 := r39) E hk20 hx0 hx1 hx2 hx3 hx4 hx5 hx8 hv6 hr39 S40 (hl.sub (And.intro rfl (And.intro rfl (And.intro rfl (And.intro rfl (And.intro rfl (And.intro rfl (And.intro rfl (And.intro rfl True.intro))))))))) h
            · have h := ite_f h q41
              by_cases q49 : (M (M x0 0) x8) = 4
              · have h := ite_t h q49
                refine r_tin (tgt := 231) (k := 4) E (S13.1.inR _ _) q49 (Rk_yearsBehind_dc.at 43 rfl) (by decide) (by decide) rfl (by decide) ?_
                refine u_al_n (x := x1) E (Rk_yearsBehind_dc.at 92 rfl) hl rfl ?_
                refine u_al_n (x := x0) E (Rk_yearsBehind_dc.at 93 rfl) hl rfl ?_
                refine u_gR E zf_5_2 S13 g3 zw_2_34 (Rk_yearsBehind_dc.at 94 rfl) ?_
                refine u_il (x := x8) E (Rk_yearsBehind_dc.at 95 rfl) hl rfl ?_
                obtain ⟨g42, h⟩ := ite_e h
                obtain ⟨g43, h⟩ := ite_e h
                refine r_iald E S13 g42 g43 (Rk_yearsBehind_dc.at 96 rfl) ?_
                refine u_il (x := v6) E (Rk_yearsBehind_dc.at 97 rfl) hl rfl ?_
                refine u_il (x := x4) E (Rk_yearsBehind_dc.at 98 rfl) hl rfl ?_
                obtain ⟨r44, er44, h⟩ := bd1_e h
                refine u_cSI (As := [zR G.2.2.1 x1, .int (zO (M (M x0 2) x8)), .int (zO v6), .int (zO x4)]) (rest := []) E S13 zcw_yX5_ageBehind zw_5_171 zw_5_170 (Rk_ageBehind_c l G fu top L M x1 (M (M x0 2) x8) v6 x4 hx1 (S13.1.inR _ _) hv6 hx4 er44) (zrm_ok (by decide) (by decide)) ⟨Nat.le_refl 0, Nat.le_refl 0⟩ rfl (Nat.zero_le 8) hl.size rfl (Rk_yearsBehind_dc.at 99 rfl) (fun H locs hr44 S45 => ?_)
                refine u_ist (y := r44) (vs' := [some (zR G.2.2.1 x0), some (zR G.2.2.1 x1), some (.int (zO x2)), some (.int (zO x3)), some (.int (zO x4)), some (.int (zO x5)), some (.int (zO r44)), some (.int (zO x7)), some (.int (zO x8)), some (.int (zO v6)), some (.int (zO r9)), some (.int (zO r12))]) E rfl (Rk_yearsBehind_dc.at 100 rfl) hl (by decide) rfl (fun ls hl => ?_)
                refine u_al_n (x := x1) E (Rk_yearsBehind_dc.at 101 rfl) hl rfl ?_
                refine u_al_n (x := x0) E (Rk_yearsBehind_dc.at 102 rfl) hl rfl ?_
                refine u_gR E zf_5_2 S45 g3 zw_2_34 (Rk_yearsBehind_dc.at 103 rfl) ?_
                refine u_il (x := x8) E (Rk_yearsBehind_dc.at 104 rfl) hl rfl ?_
                obtain ⟨g46, h⟩ := ite_e h
                refine r_iald E S45 g42 g46 (Rk_yearsBehind_dc.at 105 rfl) ?_
                refine u_il (x := v6) E (Rk_yearsBehind_dc.at 106 rfl) hl rfl ?_
                obtain ⟨r47, er47, h⟩ := bd1_e h
                refine u_cSI (As := [zR G.2.2.1 x1, .int (zO (M (M x0 2) x8)), .int (zO v6)]) (rest := []) E S45 zcw_yX5_ageSure zw_5_181 zw_5_180 (Rk_ageSure_c l G fu top L M x1 (M (M x0 2) x8) v6 hx1 (S45.1.inR _ _) hv6 er47) (zrm_ok (by decide) (by decide)) ⟨Nat.le_refl 0, Nat.le_refl 0⟩ rfl (Nat.zero_le 8) hl.size rfl (Rk_yearsBehind_dc.at 107 rfl) (fun H locs hr47 S48 => ?_)
                refine u_ist (y := r47) (vs' := [some (zR G.2.2.1 x0), some (zR G.2.2.1 x1), some (.int (zO x2)), some (.int (zO x3)), some (.int (zO x4)), some (.int (zO x5)), some (.int (zO r44)), some (.int (zO r47)), some (.int (zO x8)), some (.int (zO v6)), some (.int (zO r9)), some (.int (zO r12))]) E rfl (Rk_yearsBehind_dc.at 108 rfl) hl (by decide) rfl (fun ls hl => ?_)
                refine r_goto (tgt := 331) E (Rk_yearsBehind_dc.at 109 rfl) (by decide) ?_
                exact Rk_yearsBehind_b331_w (x0 := x0) (x1 := x1) (x2 := x2) (x3 := x3) (x4 := x4) (x5 := x5) (x6 := r44) (x7 := r47) (x8 := x8)  E hk20 hx0 hx1 hx2 hx3 hx4 hx5 hr44 hr47 hx8 S48 (hl.sub (And.intro rfl (And.intro rfl (And.intro rfl (And.intro rfl (And.intro rfl (And.intro rfl (And.intro rfl (And.intro rfl (And.intro rfl True.intro)))))))))) h
              · have h := ite_f h q49
                by_cases q54 : (M (M x0 0) x8) = 5
                · have h := ite_t h q54
                  refine r_tin (tgt := 266) (k := 5) E (S13.1.inR _ _) q54 (Rk_yearsBehind_dc.at 43 rfl) (by decide) (by decide) rfl (by decide) ?_
                  refine u_il (x := x6) E (Rk_yearsBehind_dc.at 110 rfl) hl rfl ?_
                  refine u_il (x := v6) E (Rk_yearsBehind_dc.at 111 rfl) hl rfl ?_
                  obtain ⟨r50, er50, h⟩ := bd1_e h
                  refine u_cSI (As := [.int (zO x6), .int (zO v6)]) (rest := []) E S13 zcw_yX5_more zw_5_178 zw_5_177 (Rk_more_c l G fu top L M x6 v6 hx6 hv6 er50) (zrm_ok (by decide) (by decide)) ⟨Nat.le_refl 0, Nat.le_refl 0⟩ rfl (Nat.zero_le 8) hl.size rfl (Rk_yearsBehind_dc.at 112 rfl) (fun H locs hr50 S51 => ?_)
                  refine u_ist (y := r50) (vs' := [some (zR G.2.2.1 x0), some (zR G.2.2.1 x1), some (.int (zO x2)), some (.int (zO x3)), some (.int (zO x4)), some (.int (zO x5)), some (.int (zO r50)), some (.int (zO x7)), some (.int (zO x8)), some (.int (zO v6)), some (.int (zO r9)), some (.int (zO r12))]) E rfl (Rk_yearsBehind_dc.at 113 rfl) hl (by decide) rfl (fun ls hl => ?_)
                  refine u_il (x := x7) E (Rk_yearsBehind_dc.at 114 rfl) hl rfl ?_
                  refine u_il (x := v6) E (Rk_yearsBehind_dc.at 115 rfl) hl rfl ?_
                  obtain ⟨r52, er52, h⟩ := bd1_e h
                  refine u_cSI (As := [.int (zO x7), .int (zO v6)]) (rest := []) E S51 zcw_yX5_more zw_5_178 zw_5_177 (Rk_more_c l G fu top L M x7 v6 hx7 hv6 er52) (zrm_ok (by decide) (by decide)) ⟨Nat.le_refl 0, Nat.le_refl 0⟩ rfl (Nat.zero_le 8) hl.size rfl (Rk_yearsBehind_dc.at 116 rfl) (fun H locs hr52 S53 => ?_)
                  refine u_ist (y := r52) (vs' := [some (zR G.2.2.1 x0), some (zR G.2.2.1 x1), some (.int (zO x2)), some (.int (zO x3)), some (.int (zO x4)), some (.int (zO x5)), some (.int (zO r50)), some (.int (zO r52)), some (.int (zO x8)), some (.int (zO v6)), some (.int (zO r9)), some (.int (zO r12))]) E rfl (Rk_yearsBehind_dc.at 117 rfl) hl (by decide) rfl (fun ls hl => ?_)
                  refine r_goto (tgt := 331) E (Rk_yearsBehind_dc.at 118 rfl) (by decide) ?_
                  exact Rk_yearsBehind_b331_w (x0 := x0) (x1 := x1) (x2 := x2) (x3 := x3) (x4 := x4) (x5 := x5) (x6 := r50) (x7 := r52) (x8 := x8)  E hk20 hx0 hx1 hx2 hx3 hx4 hx5 hr50 hr52 hx8 S53 (hl.sub (And.intro rfl (And.intro rfl (And.intro rfl (And.intro rfl (And.intro rfl (And.intro rfl (And.intro rfl (And.intro rfl (And.intro rfl True.intro)))))))))) h
                · have h := ite_f h q54
                  by_cases q57 : (M (M x0 0) x8) = 6
                  · have h := ite_t h q57
                    refine r_tin (tgt := 287) (k := 6) E (S13.1.inR _ _) q57 (Rk_yearsBehind_dc.at 43 rfl) (by decide) (by decide) rfl (by decide) ?_
                    refine u_il (x := r9) E (Rk_yearsBehind_dc.at 119 rfl) hl rfl ?_
                    refine u_il (x := x6) E (Rk_yearsBehind_dc.at 120 rfl) hl rfl ?_
                    refine r_max (rest := []) E hr9 hx6 hl.size zw_5_5 zw_4_56 zw_1_17 zw_4_57 (by decide) (by simp [zR_cat, zcat_I, zcat_J, zcat_S, zrm]) ⟨Nat.zero_le _, Nat.zero_le _⟩ (Rk_yearsBehind_dc.at 121 rfl) ?_
                    obtain ⟨v55, ev55, h⟩ := lt1_e h
                    have hv55 := inR_eq ev55 (inR_max hr9 hx6)
                    refine u_ist (y := v55) (vs' := [some (zR G.2.2.1 x0), some (zR G.2.2.1 x1), some (.int (zO x2)), some (.int (zO x3)), some (.int (zO x4)), some (.int (zO x5)), some (.int (zO v55)), some (.int (zO x7)), some (.int (zO x8)), some (.int (zO v6)), some (.int (zO r9)), some (.int (zO r12))]) E ev55 (Rk_yearsBehind_dc.at 122 rfl) hl (by decide) rfl (fun ls hl => ?_)
                    refine u_il (x := r12) E (Rk_yearsBehind_dc.at 123 rfl) hl rfl ?_
                    refine u_il (x := x7) E (Rk_yearsBehind_dc.at 124 rfl) hl rfl ?_
                    refine r_max (rest := []) E hr12 hx7 hl.size zw_5_5 zw_4_56 zw_1_17 zw_4_57 (by decide) (by simp [zR_cat, zcat_I, zcat_J, zcat_S, zrm]) ⟨Nat.zero_le _, Nat.zero_le _⟩ (Rk_yearsBehind_dc.at 125 rfl) ?_
                    obtain ⟨v56, ev56, h⟩ := lt1_e h
                    have hv56 := inR_eq ev56 (inR_max hr12 hx7)
                    refine u_ist (y := v56) (vs' := [some (zR G.2.2.1 x0), some (zR G.2.2.1 x1), some (.int (zO x2)), some (.int (zO x3)), some (.int (zO x4)), some (.int (zO x5)), some (.int (zO v55)), some (.int (zO v56)), some (.int (zO x8)), some (.int (zO v6)), some (.int (zO r9)), some (.int (zO r12))]) E ev56 (Rk_yearsBehind_dc.at 126 rfl) hl (by decide) rfl (fun ls hl => ?_)
                    refine r_goto (tgt := 331) E (Rk_yearsBehind_dc.at 127 rfl) (by decide) ?_
                    exact Rk_yearsBehind_b331_w (x0 := x0) (x1 := x1) (x2 := x2) (x3 := x3) (x4 := x4) (x5 := x5) (x6 := v55) (x7 := v56) (x8 := x8)  E hk20 hx0 hx1 hx2 hx3 hx4 hx5 hv55 hv56 hx8 S13 (hl.sub (And.intro rfl (And.intro rfl (And.intro rfl (And.intro rfl (And.intro rfl (And.intro rfl (And.intro rfl (And.intro rfl (And.intro rfl True.intro)))))))))) h
                  · have h := ite_f h q57
                    refine r_tout (tgt := 308) E (S13.1.inR _ _) (by omega) (Rk_yearsBehind_dc.at 43 rfl) (by decide) ?_
                    refine u_il (x := r12) E (Rk_yearsBehind_dc.at 128 rfl) hl rfl ?_
                    refine u_il (x := x7) E (Rk_yearsBehind_dc.at 129 rfl) hl rfl ?_
                    refine r_min (rest := []) E hr12 hx7 hl.size zw_4_226 zw_4_47 zw_1_17 zw_4_48 (by decide) (by simp [zR_cat, zcat_I, zcat_J, zcat_S, zrm]) ⟨Nat.zero_le _, Nat.zero_le _⟩ (Rk_yearsBehind_dc.at 130 rfl) ?_
                    obtain ⟨v58, ev58, h⟩ := lt1_e h
                    have hv58 := inR_eq ev58 (inR_min hr12 hx7)
                    refine u_ist (y := v58) (vs' := [some (zR G.2.2.1 x0), some (zR G.2.2.1 x1), some (.int (zO x2)), some (.int (zO x3)), some (.int (zO x4)), some (.int (zO x5)), some (.int (zO x6)), some (.int (zO v58)), some (.int (zO x8)), some (.int (zO v6)), some (.int (zO r9)), some (.int (zO r12))]) E ev58 (Rk_yearsBehind_dc.at 131 rfl) hl (by decide) rfl (fun ls hl => ?_)
                    refine u_il (x := r9) E (Rk_yearsBehind_dc.at 132 rfl) hl rfl ?_
                    refine u_il (x := x6) E (Rk_yearsBehind_dc.at 133 rfl) hl rfl ?_
                    refine r_max (rest := []) E hr9 hx6 hl.size zw_5_5 zw_4_56 zw_1_17 zw_4_57 (by decide) (by simp [zR_cat, zcat_I, zcat_J, zcat_S, zrm]) ⟨Nat.zero_le _, Nat.zero_le _⟩ (Rk_yearsBehind_dc.at 134 rfl) ?_
                    refine u_il (x := v58) E (Rk_yearsBehind_dc.at 135 rfl) hl rfl ?_
                    refine r_min (rest := []) E (inR_max hr9 hx6) hv58 hl.size zw_4_226 zw_4_47 zw_1_17 zw_4_48 (by decide) (by simp [zR_cat, zcat_I, zcat_J, zcat_S, zrm]) ⟨Nat.zero_le _, Nat.zero_le _⟩ (Rk_yearsBehind_dc.at 136 rfl) ?_
                    obtain ⟨v59, ev59, h⟩ := lt1_e h
                    have hv59 := inR_eq ev59 (inR_min (inR_max hr9 hx6) hv58)
                    refine u_ist (y := v59) (vs' := [some (zR G.2.2.1 x0), some (zR G.2.2.1 x1), some (.int (zO x2)), some (.int (zO x3)), some (.int (zO x4)), some (.int (zO x5)), some (.int (zO v59)), some (.int (zO v58)), some (.int (zO x8)), some (.int (zO v6)), some (.int (zO r9)), some (.int (zO r12))]) E ev59 (Rk_yearsBehind_dc.at 137 rfl) hl (by decide) rfl (fun ls hl => ?_)
                    exact Rk_yearsBehind_b331_w (x0 := x0) (x1 := x1) (x2 := x2) (x3 := x3) (x4 := x4) (x5 := x5) (x6 := v59) (x7 := v58) (x8 := x8)  E hk20 hx0 hx1 hx2 hx3 hx4 hx5 hv59 hv58 hx8 S13 (hl.sub (And.intro rfl (And.intro rfl (And.intro rfl (And.intro rfl (And.intro rfl (And.intro rfl (And.intro rfl (And.intro rfl (And.intro rfl True.intro)))))))))) h
    · have h := ite_f h q
      refine u_il (x := x6) E (Rk_yearsBehind_dc.at 150 rfl) hl rfl ?_
      refine u_il (x := x5) E (Rk_yearsBehind_dc.at 151 rfl) hl rfl ?_
      refine r_max (rest := []) E hx6 hx5 hl.size zw_5_5 zw_4_56 zw_1_17 zw_4_57 (by decide) (by simp [zR_cat, zcat_I, zcat_J, zcat_S, zrm]) ⟨Nat.zero_le _, Nat.zero_le _⟩ (Rk_yearsBehind_dc.at 152 rfl) ?_
      cases h
      exact r_iret E S (inR_max hx6 hx5) (Rk_yearsBehind_dc.at 153 rfl)
  · have h := ite_f h q
    refine u_il (x := x6) E (Rk_yearsBehind_dc.at 150 rfl) hl rfl ?_
    refine u_il (x := x5) E (Rk_yearsBehind_dc.at 151 rfl) hl rfl ?_
    refine r_max (rest := []) E hx6 hx5 hl.size zw_5_5 zw_4_56 zw_1_17 zw_4_57 (by decide) (by simp [zR_cat, zcat_I, zcat_J, zcat_S, zrm]) ⟨Nat.zero_le _, Nat.zero_le _⟩ (Rk_yearsBehind_dc.at 152 rfl) ?_
    cases h
    exact r_iret E S (inR_max hx6 hx5) (Rk_yearsBehind_dc.at 153 rfl)
theorem Rk_yearsBehind_l20_w (E : zEv p m c cX5_yearsBehind 12 s args RX5 meth (some .int) G) {res : (zM × Int)} : ∀ (n : Nat) (M : zM) (x0 : Int) (x1 : Int) (x2 : Int) (x3 : Int) (x4 : Int) (x5 : Int) (x6 : Int) (x7 : Int) (x8 : Int), InR x0 → InR x1 → InR x2 → InR x3 → InR x4 → InR x5 → InR x6 → InR x7 → InR x8 → ∀ (H : Heap) (locs : List Loc) (ls : Array Slot), zS G top L M s H locs → zLV ls 12 [some (zR G.2.2.1 x0), some (zR G.2.2.1 x1), some (.int (zO x2)), some (.int (zO x3)), some (.int (zO x4)), some (.int (zO x5)), some (.int (zO x6)), some (.int (zO x7)), some (.int (zO x8)), none, none, none] → Rk_yearsBehind_l20 fu L n M x0 x1 x2 x3 x4 x5 x6 x7 x8 = some res → W p l e (zrm 4 0 0) s m args below meth c H locs 0 0 (MQ below (zQ G top L res.1 (some (.int (zO res.2))) (InR res.2)) args s 0 0 (zA G)) (F0 m 20 ls [])
  | 0, _, _, _, _, _, _, _, _, _, _ => fun _ _ _ _ _ _ _ _ _ _ _ _ _ _ h => (by cases h)
  | n + 1, M, x0, x1, x2, x3, x4, x5, x6, x7, x8 => fun hx0 hx1 hx2 hx3 hx4 hx5 hx6 hx7 hx8 H locs ls S hl h => Rk_yearsBehind_s20_w E (fun M x0 x1 x2 x3 x4 x5 x6 x7 x8 hx0 hx1 hx2 hx3 hx4 hx5 hx6 hx7 hx8 H locs ls S hl h => Rk_yearsBehind_l20_w E n M x0 x1 x2 x3 x4 x5 x6 x7 x8 hx0 hx1 hx2 hx3 hx4 hx5 hx6 hx7 hx8 H locs ls S hl h) hx0 hx1 hx2 hx3 hx4 hx5 hx6 hx7 hx8 S hl h
theorem Rk_yearsBehind_w (E : zEv p m c cX5_yearsBehind 12 s args RX5 meth (some .int) G) {res : (zM × Int)} {M : zM} {a0 : Int} {a1 : Int} {a2 : Int} {a3 : Int} {a4 : Int} {H : Heap} {locs : List Loc} {ls : Array Slot} (ha0 : InR a0) (ha1 : InR a1) (ha2 : InR a2) (ha3 : InR a3) (ha4 : InR a4) (S : zS G top L M s H locs) (hl : zLV ls 12 [some (zR G.2.2.1 a0), some (zR G.2.2.1 a1), some (.int (zO a2)), some (.int (zO a3)), some (.int (zO a4)), none, none, none, none, none, none, none]) (h : Rk_yearsBehind fu L M a0 a1 a2 a3 a4 = some res) : W p l e (zrm 4 0 0) s m args below meth c H locs 0 0 (MQ below (zQ G top L res.1 (some (.int (zO res.2))) (InR res.2)) args s 0 0 (zA G)) (F0 m 0 ls []) := by
  unfold Rk_yearsBehind at h
  refine u_il_n (x := a2) E (Rk_yearsBehind_dc.at 0 rfl) hl rfl ?_
  refine u_il_n (x := a3) E (Rk_yearsBehind_dc.at 1 rfl) hl rfl ?_
  refine u_il (x := a4) E (Rk_yearsBehind_dc.at 2 rfl) hl rfl ?_
  obtain ⟨r1, er1, h⟩ := bd1_e h
  refine u_cSI (As := [.int (zO a2), .int (zO a3), .int (zO a4)]) (rest := []) E S zcw_yX5_bornBehind zw_5_164 zw_5_163 (Rk_bornBehind_c l G fu top L M a2 a3 a4 ha2 ha3 ha4 er1) (zrm_ok (by decide) (by decide)) ⟨Nat.le_refl 0, Nat.le_refl 0⟩ rfl (Nat.zero_le 8) hl.size rfl (Rk_yearsBehind_dc.at 3 rfl) (fun H locs hr1 S2 => ?_)
  refine u_ist (y := r1) (vs' := [some (zR G.2.2.1 a0), some (zR G.2.2.1 a1), some (.int (zO a2)), some (.int (zO a3)), some (.int (zO a4)), some (.int (zO r1)), none, none, none, none, none, none]) E rfl (Rk_yearsBehind_dc.at 4 rfl) hl (by decide) rfl (fun ls hl => ?_)
  refine r_ldc (n := 1000000) E (Rk_yearsBehind_dc.at 5 rfl) zw_5_169 rfl ?_
  refine u_ist (y := 1000000) (vs' := [some (zR G.2.2.1 a0), some (zR G.2.2.1 a1), some (.int (zO a2)), some (.int (zO a3)), some (.int (zO a4)), some (.int (zO r1)), some (.int (zO 1000000)), none, none, none, none, none]) E rfl (Rk_yearsBehind_dc.at 6 rfl) hl (by decide) rfl (fun ls hl => ?_)
  refine r_ldc (n := 1000000) E (Rk_yearsBehind_dc.at 7 rfl) zw_5_169 rfl ?_
  refine u_ist (y := 1000000) (vs' := [some (zR G.2.2.1 a0), some (zR G.2.2.1 a1), some (.int (zO a2)), some (.int (zO a3)), some (.int (zO a4)), some (.int (zO r1)), some (.int (zO 1000000)), some (.int (zO 1000000)), none, none, none, none]) E rfl (Rk_yearsBehind_dc.at 8 rfl) hl (by decide) rfl (fun ls hl => ?_)
  refine r_iconst E (Rk_yearsBehind_dc.at 9 rfl) ?_
  refine u_ist (y := 0) (vs' := [some (zR G.2.2.1 a0), some (zR G.2.2.1 a1), some (.int (zO a2)), some (.int (zO a3)), some (.int (zO a4)), some (.int (zO r1)), some (.int (zO 1000000)), some (.int (zO 1000000)), some (.int (zO 0)), none, none, none]) E rfl (Rk_yearsBehind_dc.at 10 rfl) hl (by decide) rfl (fun ls hl => ?_)
  exact Rk_yearsBehind_l20_w E fu _ a0 a1 a2 a3 a4 r1 1000000 1000000 0 ha0 ha1 ha2 ha3 ha4 hr1 (show InR 1000000 by decide) (show InR 1000000 by decide) (show InR 0 by decide) _ _ _ S2 (hl.sub (And.intro rfl (And.intro rfl (And.intro rfl (And.intro rfl (And.intro rfl (And.intro rfl (And.intro rfl (And.intro rfl (And.intro rfl True.intro)))))))))) h
theorem Rk_yearsBehind_c (l : Launch) (G : zG) (fu : Nat) (top : Int) (L : zL) (M : zM) (a0 : Int) (a1 : Int) (a2 : Int) (a3 : Int) (a4 : Int) {res : (zM × Int)} (ha0 : InR a0) (ha1 : InR a1) (ha2 : InR a2) (ha3 : InR a3) (ha4 : InR a4) (h : Rk_yearsBehind fu L M a0 a1 a2 a3 a4 = some res) : Met l yX5_yearsBehind (Cond.code yX5_yearsBehind cX5_yearsBehind 12 (some .int) :: zTB) (zrm 4 0 0) (va_Pc [zR G.2.2.1 a0, zR G.2.2.1 a1, .int (zO a2), .int (zO a3), .int (zO a4)] (zPre G top L M)) (zQ G top L res.1 (some (.int (zO res.2))) (InR res.2)) 0 0 (zA G) :=
  z_met (by decide +kernel) (by simp [zR_cat, zcat_I, zcat_S]) (Nat.le_of_ble_eq_true rfl) fun p e s m below meth c ls E hn S hl => Rk_yearsBehind_w E ha0 ha1 ha2 ha3 ha4 S (hl.sub (And.intro rfl (And.intro rfl (And.intro rfl (And.intro rfl (And.intro rfl True.intro)))))) h
end
theorem Tr_passes_dc : zDL cX8_passes [(0, .iconst 0, 1, 1), (1, .istore_n 2, 1, 2), (2, .iload_n 2, 1, 3), (3, .aload_n 0, 1, 4), (4, .getfield 71, 3, 7), (7, .if_icmp .ge 48, 3, 10), (10, .iload_n 2, 1, 11), (11, .bipush 24, 2, 13), (13, .if_icmp .ge 42, 3, 16), (16, .aload_n 0, 1, 17), (17, .getfield 28, 3, 20), (20, .aload_n 0, 1, 21), (21, .getfield 12, 3, 24), (24, .aload_n 0, 1, 25), (25, .getfield 21, 3, 28), (28, .iload_n 2, 1, 29), (29, .iaload, 1, 30), (30, .aload_n 0, 1, 31), (31, .getfield 25, 3, 34), (34, .iload_n 2, 1, 35), (35, .iaload, 1, 36), (36, .iload_n 1, 1, 37), (37, .invokevirtual 115, 3, 40), (40, .aload_n 0, 1, 41), (41, .getfield 66, 3, 44), (44, .if_icmp .le 5, 3, 47), (47, .iconst 0, 1, 48), (48, .ireturn, 1, 49), (49, .iinc 2 1, 3, 52), (52, .goto (-50), 3, 55), (55, .iconst 1, 1, 56), (56, .ireturn, 1, 57)] := zDL.of (by decide +kernel)
section
variable {p : Program} {l : Launch} {e : Env} {s : State} {m : MethodId} {args : Array Value} {below : List Frame} {meth : Method} {c : Code} {G : zG} {top : Int} {L : zL} {fu : Nat}
theorem Tr_passes_s2_w (E : zEv p m c cX8_passes 3 s args RX8 meth (some .boolean) G) {res : (zM × Int)} {k2 : zM → Int → Int → Int → Option (zM × Int)} (hk2 : ∀ (M : zM) (x0 : Int) (x1 : Int) (x2 : Int), InR x0 → InR x1 → InR x2 → ∀ (H : Heap) (locs : List Loc) (ls : Array Slot), zS G top L M s H locs → zLV ls 3 [some (zR G.2.2.1 x0), some (.int (zO x1)), some (.int (zO x2))] → k2 M x0 x1 x2 = some res → W p l e (zrm 5 0 0) s m args below meth c H locs 0 0 (MQ below (zQ G top L res.1 (some (.int (zO res.2))) (0 ≤ res.2 ∧ res.2 ≤ 1)) args s 0 0 (zA G)) (F0 m 2 ls [])) {M : zM} {x0 : Int} {x1 : Int} {x2 : Int} {H : Heap} {locs : List Loc} {ls : Array Slot} (hx0 : InR x0) (hx1 : InR x1) (hx2 : InR x2) (S : zS G top L M s H locs) (hl : zLV ls 3 [some (zR G.2.2.1 x0), some (.int (zO x1)), some (.int (zO x2))]) (h : Tr_passes_s2 fu k2 L M x0 x1 x2 = some res) : W p l e (zrm 5 0 0) s m args below meth c H locs 0 0 (MQ below (zQ G top L res.1 (some (.int (zO res.2))) (0 ≤ res.2 ∧ res.2 ≤ 1)) args s 0 0 (zA G)) (F0 m 2 ls []) := by
  unfold Tr_passes_s2 at h
  refine u_il_n (x := x2) E (Tr_passes_dc.at 2 rfl) hl rfl ?_
  refine u_al_n (x := x0) E (Tr_passes_dc.at 3 rfl) hl rfl ?_
  obtain ⟨g1, h⟩ := ite_e h
  refine u_gI E zf_8_5 S g1 zw_2_100 (Tr_passes_dc.at 4 rfl) ?_
  refine r_icmp_ge (tgt := 55) E hx2 (S.1.inR _ _) (Tr_passes_dc.at 5 rfl) (by decide) (fun q => ?_) (fun q => ?_)
  · have h := ite_t h q
    refine u_il_n (x := x2) E (Tr_passes_dc.at 6 rfl) hl rfl ?_
    refine r_bipush E (Tr_passes_dc.at 7 rfl) rfl ?_
    refine r_icmp_ge (tgt := 55) E hx2 (show InR 24 by decide) (Tr_passes_dc.at 8 rfl) (by decide) (fun q => ?_) (fun q => ?_)
    · have h := ite_t h q
      refine u_al_n (x := x0) E (Tr_passes_dc.at 9 rfl) hl rfl ?_
      refine u_gR E zf_8_0 S g1 zw_2_95 (Tr_passes_dc.at 10 rfl) ?_
      refine u_al_n (x := x0) E (Tr_passes_dc.at 11 rfl) hl rfl ?_
      refine u_gR E zf_8_1 S g1 zw_2_96 (Tr_passes_dc.at 12 rfl) ?_
      refine u_al_n (x := x0) E (Tr_passes_dc.at 13 rfl) hl rfl ?_
      refine u_gR E zf_8_3 S g1 zw_2_98 (Tr_passes_dc.at 14 rfl) ?_
      refine u_il_n (x := x2) E (Tr_passes_dc.at 15 rfl) hl rfl ?_
      obtain ⟨g2, h⟩ := ite_e h
      obtain ⟨g3, h⟩ := ite_e h
      refine r_iald E S g2 g3 (Tr_passes_dc.at 16 rfl) ?_
      refine u_al_n (x := x0) E (Tr_passes_dc.at 17 rfl) hl rfl ?_
      refine u_gR E zf_8_4 S g1 zw_2_99 (Tr_passes_dc.at 18 rfl) ?_
      refine u_il_n (x := x2) E (Tr_passes_dc.at 19 rfl) hl rfl ?_
      obtain ⟨g4, h⟩ := ite_e h
      obtain ⟨g5, h⟩ := ite_e h
      refine r_iald E S g4 g5 (Tr_passes_dc.at 20 rfl) ?_
      refine u_il_n (x := x1) E (Tr_passes_dc.at 21 rfl) hl rfl ?_
      obtain ⟨g6, h⟩ := ite_e h
      obtain ⟨M8, r7, er7, h⟩ := bd2_e h
      refine u_cVI (As := [zR G.2.2.1 (M x0 1), .int (zO (M (M x0 3) x2)), .int (zO (M (M x0 4) x2)), .int (zO x1)]) (rest := []) E S zcw_yX5_yearsBehind zw_5_160 zw_5_161 zw_5_159 zck_5.1 rfl g6 (Rk_yearsBehind_c l G fu top L M (M x0 0) (M x0 1) (M (M x0 3) x2) (M (M x0 4) x2) x1 (S.1.inR _ _) (S.1.inR _ _) (S.1.inR _ _) (S.1.inR _ _) hx1 er7) (zrm_ok (by decide) (by decide)) ⟨Nat.le_refl 0, Nat.le_refl 0⟩ rfl (Nat.zero_le 8) hl.size rfl (Tr_passes_dc.at 22 rfl) (fun H locs hr7 S9 => ?_)
      refine u_al_n (x := x0) E (Tr_passes_dc.at 23 rfl) hl rfl ?_
      refine u_gI E zf_8_8 S9 g1 zw_2_103 (Tr_passes_dc.at 24 rfl) ?_
      refine r_icmp_le (tgt := 49) E hr7 (S9.1.inR _ _) (Tr_passes_dc.at 25 rfl) (by decide) (fun q => ?_) (fun q => ?_)
      · have h := ite_t h q
        refine r_iconst E (Tr_passes_dc.at 26 rfl) ?_
        cases h
        exact r_zret E S9 z01_0 z01_0 (Tr_passes_dc.at 27 rfl)
      · have h := ite_f h q
        obtain ⟨v10, ev10, h⟩ := lt1_e h
        have hv10 := inR_eq ev10 (inR_w32 _)
        refine u_iinc (y := v10) (vs' := [some (zR G.2.2.1 x0), some (.int (zO x1)), some (.int (zO v10))]) E ev10 (Tr_passes_dc.at 28 rfl) hl rfl (by decide) rfl (fun ls hl => ?_)
        refine r_goto (tgt := 2) E (Tr_passes_dc.at 29 rfl) (by decide) ?_
        exact hk2 _ x0 x1 v10 hx0 hx1 hv10 _ _ _ S9 (hl.sub (And.intro rfl (And.intro rfl (And.intro rfl True.intro)))) h
    · have h := ite_f h q
      refine r_iconst E (Tr_passes_dc.at 30 rfl) ?_
      cases h
      exact r_zret E S z01_1 z01_1 (Tr_passes_dc.at 31 rfl)
  · have h := ite_f h q
    refine r_iconst E (Tr_passes_dc.at 30 rfl) ?_
    cases h
    exact r_zret E S z01_1 z01_1 (Tr_passes_dc.at 31 rfl)
theorem Tr_passes_l2_w (E : zEv p m c cX8_passes 3 s args RX8 meth (some .boolean) G) {res : (zM × Int)} : ∀ (n : Nat) (M : zM) (x0 : Int) (x1 : Int) (x2 : Int), InR x0 → InR x1 → InR x2 → ∀ (H : Heap) (locs : List Loc) (ls : Array Slot), zS G top L M s H locs → zLV ls 3 [some (zR G.2.2.1 x0), some (.int (zO x1)), some (.int (zO x2))] → Tr_passes_l2 fu L n M x0 x1 x2 = some res → W p l e (zrm 5 0 0) s m args below meth c H locs 0 0 (MQ below (zQ G top L res.1 (some (.int (zO res.2))) (0 ≤ res.2 ∧ res.2 ≤ 1)) args s 0 0 (zA G)) (F0 m 2 ls [])
  | 0, _, _, _, _ => fun _ _ _ _ _ _ _ _ h => (by cases h)
  | n + 1, M, x0, x1, x2 => fun hx0 hx1 hx2 H locs ls S hl h => Tr_passes_s2_w E (fun M x0 x1 x2 hx0 hx1 hx2 H locs ls S hl h => Tr_passes_l2_w E n M x0 x1 x2 hx0 hx1 hx2 H locs ls S hl h) hx0 hx1 hx2 S hl h
theorem Tr_passes_w (E : zEv p m c cX8_passes 3 s args RX8 meth (some .boolean) G) {res : (zM × Int)} {M : zM} {a0 : Int} {a1 : Int} {H : Heap} {locs : List Loc} {ls : Array Slot} (ha0 : InR a0) (ha1 : InR a1) (S : zS G top L M s H locs) (hl : zLV ls 3 [some (zR G.2.2.1 a0), some (.int (zO a1)), none]) (h : Tr_passes fu L M a0 a1 = some res) : W p l e (zrm 5 0 0) s m args below meth c H locs 0 0 (MQ below (zQ G top L res.1 (some (.int (zO res.2))) (0 ≤ res.2 ∧ res.2 ≤ 1)) args s 0 0 (zA G)) (F0 m 0 ls []) := by
  unfold Tr_passes at h
  refine r_iconst E (Tr_passes_dc.at 0 rfl) ?_
  refine u_ist_n (y := 0) (vs' := [some (zR G.2.2.1 a0), some (.int (zO a1)), some (.int (zO 0))]) E rfl (Tr_passes_dc.at 1 rfl) hl (by decide) rfl (fun ls hl => ?_)
  exact Tr_passes_l2_w E fu _ a0 a1 0 ha0 ha1 (show InR 0 by decide) _ _ _ S (hl.sub (And.intro rfl (And.intro rfl (And.intro rfl True.intro)))) h
theorem Tr_passes_c (l : Launch) (G : zG) (fu : Nat) (top : Int) (L : zL) (M : zM) (a0 : Int) (a1 : Int) {res : (zM × Int)} (ha0 : InR a0) (ha1 : InR a1) (h : Tr_passes fu L M a0 a1 = some res) : Met l yX8_passes (Cond.code yX8_passes cX8_passes 3 (some .boolean) :: zTB) (zrm 5 0 0) (va_Pc [zR G.2.2.1 a0, .int (zO a1)] (zPre G top L M)) (zQ G top L res.1 (some (.int (zO res.2))) (0 ≤ res.2 ∧ res.2 ≤ 1)) 0 0 (zA G) :=
  z_met (by decide +kernel) (by simp [zR_cat, zcat_I, zcat_S]) (Nat.le_of_ble_eq_true rfl) fun p e s m below meth c ls E hn S hl => Tr_passes_w E ha0 ha1 S (hl.sub (And.intro rfl (And.intro rfl True.intro))) h
end
theorem Lx_good_dc : zDL cX11_good [(0, .aload_n 0, 1, 1), (1, .iload_n 1, 1, 2), (2, .invokevirtual 266, 3, 5), (5, .ifCond .ne 5, 3, 8), (8, .iconst (-1), 1, 9), (9, .ireturn, 1, 10), (10, .aload_n 0, 1, 11), (11, .getfield 78, 3, 14), (14, .aload_n 0, 1, 15), (15, .getfield 78, 3, 18), (18, .invokevirtual 269, 3, 21), (21, .invokevirtual 272, 3, 24), (24, .ifCond .eq 7, 3, 27), (27, .iconst 1, 1, 28), (28, .goto 4, 3, 31), (31, .iconst 0, 1, 32), (32, .ireturn, 1, 33)] := zDL.of (by decide +kernel)
section
variable {p : Program} {l : Launch} {e : Env} {s : State} {m : MethodId} {args : Array Value} {below : List Frame} {meth : Method} {c : Code} {G : zG} {top : Int} {L : zL} {fu : Nat}
theorem Lx_good_w (E : zEv p m c cX11_good 2 s args RX11 meth (some .int) G) {res : (zM × Int)} {M : zM} {a0 : Int} {a1 : Int} {H : Heap} {locs : List Loc} {ls : Array Slot} (ha0 : InR a0) (ha1 : InR a1) (S : zS G top L M s H locs) (hl : zLV ls 2 [some (zR G.2.2.1 a0), some (.int (zO a1))]) (h : Lx_good fu L M a0 a1 = some res) : W p l e (zrm 7 0 0) s m args below meth c H locs 0 0 (MQ below (zQ G top L res.1 (some (.int (zO res.2))) (InR res.2)) args s 0 0 (zA G)) (F0 m 0 ls []) := by
  unfold Lx_good at h
  refine u_al_n (x := a0) E (Lx_good_dc.at 0 rfl) hl rfl ?_
  refine u_il_n (x := a1) E (Lx_good_dc.at 1 rfl) hl rfl ?_
  obtain ⟨g1, h⟩ := ite_e h
  obtain ⟨M3, r2, er2, h⟩ := bd2_e h
  refine u_cVI (As := [.int (zO a1)]) (rest := []) E S zcw_yX11_tryGift zw_5_126 zq_3_3 zw_5_124 zck_11.1 rfl g1 (Lx_tryGift_c l G fu top L M a0 a1 ha0 ha1 er2) (zrm_ok (by decide) (by decide)) ⟨Nat.le_refl 0, Nat.le_refl 0⟩ rfl (Nat.zero_le 8) hl.size rfl (Lx_good_dc.at 2 rfl) (fun H locs hr2 S4 => ?_)
  refine r_if_ne (tgt := 10) E (inR_01 hr2) (Lx_good_dc.at 3 rfl) (by decide) (fun q => ?_) (fun q => ?_)
  · have h := ite_t h q
    refine r_iconst E (Lx_good_dc.at 4 rfl) ?_
    cases h
    exact r_iret E S4 (show InR (-1) by decide) (Lx_good_dc.at 5 rfl)
  · have h := ite_f h q
    refine u_al_n (x := a0) E (Lx_good_dc.at 6 rfl) hl rfl ?_
    refine u_gR E zf_11_9 S4 g1 zw_2_141 (Lx_good_dc.at 7 rfl) ?_
    refine u_al_n (x := a0) E (Lx_good_dc.at 8 rfl) hl rfl ?_
    refine u_gR E zf_11_9 S4 g1 zw_2_141 (Lx_good_dc.at 9 rfl) ?_
    obtain ⟨g5, h⟩ := ite_e h
    obtain ⟨r6, er6, h⟩ := bd1_e h
    refine u_cVI (As := []) (rest := [zR G.2.2.1 (M3 a0 9)]) E S4 zcw_yX8_allLives zw_5_151 zw_5_152 zw_5_150 zck_8.1 rfl g5 (Tr_allLives_c l G fu top L M3 (M3 a0 9) (S4.1.inR _ _) er6) (zrm_ok (by decide) (by decide)) ⟨Nat.le_refl 0, Nat.le_refl 0⟩ rfl (by simp [zR_cat, zcat_I, zcat_J, zcat_S]) hl.size rfl (Lx_good_dc.at 10 rfl) (fun H locs hr6 S7 => ?_)
    obtain ⟨M9, r8, er8, h⟩ := bd2_e h
    refine u_cVI (As := [.int (zO r6)]) (rest := []) E S7 zcw_yX8_passes zw_5_156 zw_5_157 zw_5_155 zck_8.1 rfl g5 (Tr_passes_c l G fu top L M3 (M3 a0 9) r6 (S4.1.inR _ _) hr6 er8) (zrm_ok (by decide) (by decide)) ⟨Nat.le_refl 0, Nat.le_refl 0⟩ rfl (Nat.zero_le 8) hl.size rfl (Lx_good_dc.at 11 rfl) (fun H locs hr8 S10 => ?_)
    refine r_if_eq (tgt := 31) E (inR_01 hr8) (Lx_good_dc.at 12 rfl) (by decide) (fun q => ?_) (fun q => ?_)
    · have h := ite_t h q
      refine r_iconst E (Lx_good_dc.at 15 rfl) ?_
      cases h
      exact r_iret E S10 (show InR 0 by decide) (Lx_good_dc.at 16 rfl)
    · have h := ite_f h q
      refine r_iconst E (Lx_good_dc.at 13 rfl) ?_
      refine r_goto (tgt := 32) E (Lx_good_dc.at 14 rfl) (by decide) ?_
      cases h
      exact r_iret E S10 (show InR 1 by decide) (Lx_good_dc.at 16 rfl)
theorem Lx_good_c (l : Launch) (G : zG) (fu : Nat) (top : Int) (L : zL) (M : zM) (a0 : Int) (a1 : Int) {res : (zM × Int)} (ha0 : InR a0) (ha1 : InR a1) (h : Lx_good fu L M a0 a1 = some res) : Met l yX11_good (Cond.code yX11_good cX11_good 2 (some .int) :: zTB) (zrm 7 0 0) (va_Pc [zR G.2.2.1 a0, .int (zO a1)] (zPre G top L M)) (zQ G top L res.1 (some (.int (zO res.2))) (InR res.2)) 0 0 (zA G) :=
  z_met (by decide +kernel) (by simp [zR_cat, zcat_I, zcat_S]) (Nat.le_of_ble_eq_true rfl) fun p e s m below meth c ls E hn S hl => Lx_good_w E ha0 ha1 S (hl.sub (And.intro rfl (And.intro rfl True.intro))) h
end
theorem Lx_tryMember_dc : zDL cX11_tryMember [(0, .iload_n 2, 1, 1), (1, .ifCond .lt 30, 3, 4), (4, .iload_n 2, 1, 5), (5, .iconst 2, 1, 6), (6, .if_icmp .gt 25, 3, 9), (9, .iload_n 3, 1, 10), (10, .ifCond .lt 21, 3, 13), (13, .iload_n 3, 1, 14), (14, .aload_n 0, 1, 15), (15, .getfield 42, 3, 18), (18, .getfield 124, 3, 21), (21, .getfield 127, 3, 24), (24, .if_icmp .ge 7, 3, 27), (27, .iconst 1, 1, 28), (28, .goto 4, 3, 31), (31, .iconst 0, 1, 32), (32, .istore 4, 2, 34), (34, .iload 4, 2, 36), (36, .ifCond .eq 15, 3, 39), (39, .aload_n 0, 1, 40), (40, .iload_n 1, 1, 41), (41, .invokevirtual 266, 3, 44), (44, .ifCond .eq 7, 3, 47), (47, .iconst 1, 1, 48), (48, .goto 4, 3, 51), (51, .iconst 0, 1, 52), (52, .ireturn, 1, 53)] := zDL.of (by decide +kernel)
section
variable {p : Program} {l : Launch} {e : Env} {s : State} {m : MethodId} {args : Array Value} {below : List Frame} {meth : Method} {c : Code} {G : zG} {top : Int} {L : zL} {fu : Nat}
theorem Lx_tryMember_b32_w (E : zEv p m c cX11_tryMember 5 s args RX11 meth (some .boolean) G) {res : (zM × Int)} {M : zM} {x0 : Int} {x1 : Int} {y0 : Int} {H : Heap} {locs : List Loc} {ls : Array Slot} (hx0 : InR x0) (hx1 : InR x1) (hy0 : InR y0) (S : zS G top L M s H locs) (hl : zLV ls 5 [some (zR G.2.2.1 x0), some (.int (zO x1)), none, none, none]) (h : Lx_tryMember_b32 fu L M x0 x1 y0 = some res) : W p l e (zrm 7 0 0) s m args below meth c H locs 0 0 (MQ below (zQ G top L res.1 (some (.int (zO res.2))) (0 ≤ res.2 ∧ res.2 ≤ 1)) args s 0 0 (zA G)) (F0 m 32 ls [.int (zO y0)]) := by
  unfold Lx_tryMember_b32 at h
  refine u_ist (y := y0) (vs' := [some (zR G.2.2.1 x0), some (.int (zO x1)), none, none, some (.int (zO y0))]) E rfl (Lx_tryMember_dc.at 16 rfl) hl (by decide) rfl (fun ls hl => ?_)
  refine u_il (x := y0) E (Lx_tryMember_dc.at 17 rfl) hl rfl ?_
  refine r_if_eq (tgt := 51) E hy0 (Lx_tryMember_dc.at 18 rfl) (by decide) (fun q => ?_) (fun q => ?_)
  · have h := ite_t h q
    refine r_iconst E (Lx_tryMember_dc.at 25 rfl) ?_
    cases h
    exact r_zret E S z01_0 z01_0 (Lx_tryMember_dc.at 26 rfl)
  · have h := ite_f h q
    refine u_al_n (x := x0) E (Lx_tryMember_dc.at 19 rfl) hl rfl ?_
    refine u_il_n (x := x1) E (Lx_tryMember_dc.at 20 rfl) hl rfl ?_
    obtain ⟨g1, h⟩ := ite_e h
    obtain ⟨M3, r2, er2, h⟩ := bd2_e h
    refine u_cVI (As := [.int (zO x1)]) (rest := []) E S zcw_yX11_tryGift zw_5_126 zq_3_3 zw_5_124 zck_11.1 rfl g1 (Lx_tryGift_c l G fu top L M x0 x1 hx0 hx1 er2) (zrm_ok (by decide) (by decide)) ⟨Nat.le_refl 0, Nat.le_refl 0⟩ rfl (Nat.zero_le 8) hl.size rfl (Lx_tryMember_dc.at 21 rfl) (fun H locs hr2 S4 => ?_)
    refine r_if_eq (tgt := 51) E (inR_01 hr2) (Lx_tryMember_dc.at 22 rfl) (by decide) (fun q => ?_) (fun q => ?_)
    · have h := ite_t h q
      refine r_iconst E (Lx_tryMember_dc.at 25 rfl) ?_
      cases h
      exact r_zret E S4 z01_0 z01_0 (Lx_tryMember_dc.at 26 rfl)
    · have h := ite_f h q
      refine r_iconst E (Lx_tryMember_dc.at 23 rfl) ?_
      refine r_goto (tgt := 52) E (Lx_tryMember_dc.at 24 rfl) (by decide) ?_
      cases h
      exact r_zret E S4 z01_1 z01_1 (Lx_tryMember_dc.at 26 rfl)
theorem Lx_tryMember_w (E : zEv p m c cX11_tryMember 5 s args RX11 meth (some .boolean) G) {res : (zM × Int)} {M : zM} {a0 : Int} {a1 : Int} {a2 : Int} {a3 : Int} {H : Heap} {locs : List Loc} {ls : Array Slot} (ha0 : InR a0) (ha1 : InR a1) (ha2 : InR a2) (ha3 : InR a3) (S : zS G top L M s H locs) (hl : zLV ls 5 [some (zR G.2.2.1 a0), some (.int (zO a1)), some (.int (zO a2)), some (.int (zO a3)), none]) (h : Lx_tryMember fu L M a0 a1 a2 a3 = some res) : W p l e (zrm 7 0 0) s m args below meth c H locs 0 0 (MQ below (zQ G top L res.1 (some (.int (zO res.2))) (0 ≤ res.2 ∧ res.2 ≤ 1)) args s 0 0 (zA G)) (F0 m 0 ls []) := by
  unfold Lx_tryMember at h
  refine u_il_n (x := a2) E (Lx_tryMember_dc.at 0 rfl) hl rfl ?_
  refine r_if_lt (tgt := 31) E ha2 (Lx_tryMember_dc.at 1 rfl) (by decide) (fun q => ?_) (fun q => ?_)
  · have h := ite_t h q
    refine r_iconst E (Lx_tryMember_dc.at 15 rfl) ?_
    exact Lx_tryMember_b32_w (x0 := a0) (x1 := a1) (y0 := 0) E ha0 ha1 (show InR 0 by decide) S (hl.sub (And.intro rfl (And.intro rfl True.intro))) h
  · have h := ite_f h q
    refine u_il_n (x := a2) E (Lx_tryMember_dc.at 2 rfl) hl rfl ?_
    refine r_iconst E (Lx_tryMember_dc.at 3 rfl) ?_
    refine r_icmp_gt (tgt := 31) E ha2 (show InR 2 by decide) (Lx_tryMember_dc.at 4 rfl) (by decide) (fun q => ?_) (fun q => ?_)
    · have h := ite_t h q
      refine r_iconst E (Lx_tryMember_dc.at 15 rfl) ?_
      exact Lx_tryMember_b32_w (x0 := a0) (x1 := a1) (y0 := 0) E ha0 ha1 (show InR 0 by decide) S (hl.sub (And.intro rfl (And.intro rfl True.intro))) h
    · have h := ite_f h q
      refine u_il_n (x := a3) E (Lx_tryMember_dc.at 5 rfl) hl rfl ?_
      refine r_if_lt (tgt := 31) E ha3 (Lx_tryMember_dc.at 6 rfl) (by decide) (fun q => ?_) (fun q => ?_)
      · have h := ite_t h q
        refine r_iconst E (Lx_tryMember_dc.at 15 rfl) ?_
        exact Lx_tryMember_b32_w (x0 := a0) (x1 := a1) (y0 := 0) E ha0 ha1 (show InR 0 by decide) S (hl.sub (And.intro rfl (And.intro rfl True.intro))) h
      · have h := ite_f h q
        refine u_il_n (x := a3) E (Lx_tryMember_dc.at 7 rfl) hl rfl ?_
        refine u_al_n (x := a0) E (Lx_tryMember_dc.at 8 rfl) hl rfl ?_
        obtain ⟨g5, h⟩ := ite_e h
        refine u_gR E zf_11_4 S g5 zw_2_136 (Lx_tryMember_dc.at 9 rfl) ?_
        obtain ⟨g6, h⟩ := ite_e h
        refine u_gR E zf_1_0 S g6 zw_1_222 (Lx_tryMember_dc.at 10 rfl) ?_
        obtain ⟨g7, h⟩ := ite_e h
        refine u_gI E zf_10_3 S g7 zw_1_195 (Lx_tryMember_dc.at 11 rfl) ?_
        refine r_icmp_ge (tgt := 31) E ha3 (S.1.inR _ _) (Lx_tryMember_dc.at 12 rfl) (by decide) (fun q => ?_) (fun q => ?_)
        · have h := ite_t h q
          refine r_iconst E (Lx_tryMember_dc.at 13 rfl) ?_
          refine r_goto (tgt := 32) E (Lx_tryMember_dc.at 14 rfl) (by decide) ?_
          exact Lx_tryMember_b32_w (x0 := a0) (x1 := a1) (y0 := 1) E ha0 ha1 (show InR 1 by decide) S (hl.sub (And.intro rfl (And.intro rfl True.intro))) h
        · have h := ite_f h q
          refine r_iconst E (Lx_tryMember_dc.at 15 rfl) ?_
          exact Lx_tryMember_b32_w (x0 := a0) (x1 := a1) (y0 := 0) E ha0 ha1 (show InR 0 by decide) S (hl.sub (And.intro rfl (And.intro rfl True.intro))) h
theorem Lx_tryMember_c (l : Launch) (G : zG) (fu : Nat) (top : Int) (L : zL) (M : zM) (a0 : Int) (a1 : Int) (a2 : Int) (a3 : Int) {res : (zM × Int)} (ha0 : InR a0) (ha1 : InR a1) (ha2 : InR a2) (ha3 : InR a3) (h : Lx_tryMember fu L M a0 a1 a2 a3 = some res) : Met l yX11_tryMember (Cond.code yX11_tryMember cX11_tryMember 5 (some .boolean) :: zTB) (zrm 7 0 0) (va_Pc [zR G.2.2.1 a0, .int (zO a1), .int (zO a2), .int (zO a3)] (zPre G top L M)) (zQ G top L res.1 (some (.int (zO res.2))) (0 ≤ res.2 ∧ res.2 ≤ 1)) 0 0 (zA G) :=
  z_met (by decide +kernel) (by simp [zR_cat, zcat_I, zcat_S]) (Nat.le_of_ble_eq_true rfl) fun p e s m below meth c ls E hn S hl => Lx_tryMember_w E ha0 ha1 ha2 ha3 S (hl.sub (And.intro rfl (And.intro rfl (And.intro rfl (And.intro rfl True.intro))))) h
end
theorem Tr_isSet_dc : zDL cX8_isSet [(0, .iload_n 1, 1, 1), (1, .ifCond .lt 15, 3, 4), (4, .iload_n 1, 1, 5), (5, .aload_n 0, 1, 6), (6, .invokevirtual 107, 3, 9), (9, .if_icmp .gt 7, 3, 12), (12, .iconst 1, 1, 13), (13, .goto 4, 3, 16), (16, .iconst 0, 1, 17), (17, .ireturn, 1, 18)] := zDL.of (by decide +kernel)
section
variable {p : Program} {l : Launch} {e : Env} {s : State} {m : MethodId} {args : Array Value} {below : List Frame} {meth : Method} {c : Code} {G : zG} {top : Int} {L : zL} {fu : Nat}
theorem Tr_isSet_w (E : zEv p m c cX8_isSet 2 s args RX8 meth (some .boolean) G) {res : Int} {M : zM} {a0 : Int} {a1 : Int} {H : Heap} {locs : List Loc} {ls : Array Slot} (ha0 : InR a0) (ha1 : InR a1) (S : zS G top L M s H locs) (hl : zLV ls 2 [some (zR G.2.2.1 a0), some (.int (zO a1))]) (h : Tr_isSet fu L M a0 a1 = some res) : W p l e (zrm 2 0 0) s m args below meth c H locs 0 0 (MQ below (zQ G top L M (some (.int (zO res))) (0 ≤ res ∧ res ≤ 1)) args s 0 0 (zA G)) (F0 m 0 ls []) := by
  unfold Tr_isSet at h
  refine u_il_n (x := a1) E (Tr_isSet_dc.at 0 rfl) hl rfl ?_
  refine r_if_lt (tgt := 16) E ha1 (Tr_isSet_dc.at 1 rfl) (by decide) (fun q => ?_) (fun q => ?_)
  · have h := ite_t h q
    refine r_iconst E (Tr_isSet_dc.at 8 rfl) ?_
    cases h
    exact r_zret E S z01_0 z01_0 (Tr_isSet_dc.at 9 rfl)
  · have h := ite_f h q
    refine u_il_n (x := a1) E (Tr_isSet_dc.at 2 rfl) hl rfl ?_
    refine u_al_n (x := a0) E (Tr_isSet_dc.at 3 rfl) hl rfl ?_
    obtain ⟨g1, h⟩ := ite_e h
    obtain ⟨r2, er2, h⟩ := bd1_e h
    refine u_cVI (As := []) (rest := [.int (zO a1)]) E S zcw_yX8_allLives zw_5_151 zw_5_152 zw_5_198 zck_8.1 rfl g1 (Tr_allLives_c l G fu top L M a0 ha0 er2) (zrm_ok (by decide) (by decide)) ⟨Nat.le_refl 0, Nat.le_refl 0⟩ rfl (by simp [zR_cat, zcat_I, zcat_J, zcat_S]) hl.size rfl (Tr_isSet_dc.at 4 rfl) (fun H locs hr2 S3 => ?_)
    refine r_icmp_gt (tgt := 16) E ha1 hr2 (Tr_isSet_dc.at 5 rfl) (by decide) (fun q => ?_) (fun q => ?_)
    · have h := ite_t h q
      refine r_iconst E (Tr_isSet_dc.at 8 rfl) ?_
      cases h
      exact r_zret E S3 z01_0 z01_0 (Tr_isSet_dc.at 9 rfl)
    · have h := ite_f h q
      refine r_iconst E (Tr_isSet_dc.at 6 rfl) ?_
      refine r_goto (tgt := 17) E (Tr_isSet_dc.at 7 rfl) (by decide) ?_
      cases h
      exact r_zret E S3 z01_1 z01_1 (Tr_isSet_dc.at 9 rfl)
theorem Tr_isSet_c (l : Launch) (G : zG) (fu : Nat) (top : Int) (L : zL) (M : zM) (a0 : Int) (a1 : Int) {res : Int} (ha0 : InR a0) (ha1 : InR a1) (h : Tr_isSet fu L M a0 a1 = some res) : Met l yX8_isSet (Cond.code yX8_isSet cX8_isSet 2 (some .boolean) :: zTB) (zrm 2 0 0) (va_Pc [zR G.2.2.1 a0, .int (zO a1)] (zPre G top L M)) (zQ G top L M (some (.int (zO res))) (0 ≤ res ∧ res ≤ 1)) 0 0 (zA G) :=
  z_met (by decide +kernel) (by simp [zR_cat, zcat_I, zcat_S]) (Nat.le_of_ble_eq_true rfl) fun p e s m below meth c ls E hn S hl => Tr_isSet_w E ha0 ha1 S (hl.sub (And.intro rfl (And.intro rfl True.intro))) h
end
theorem Tr_behindOf_dc : zDL cX8_behindOf [(0, .aload_n 0, 1, 1), (1, .getfield 28, 3, 4), (4, .aload_n 0, 1, 5), (5, .getfield 12, 3, 8), (8, .iload_n 1, 1, 9), (9, .iload_n 2, 1, 10), (10, .iload_n 3, 1, 11), (11, .invokevirtual 115, 3, 14), (14, .ireturn, 1, 15)] := zDL.of (by decide +kernel)
section
variable {p : Program} {l : Launch} {e : Env} {s : State} {m : MethodId} {args : Array Value} {below : List Frame} {meth : Method} {c : Code} {G : zG} {top : Int} {L : zL} {fu : Nat}
theorem Tr_behindOf_w (E : zEv p m c cX8_behindOf 4 s args RX8 meth (some .int) G) {res : (zM × Int)} {M : zM} {a0 : Int} {a1 : Int} {a2 : Int} {a3 : Int} {H : Heap} {locs : List Loc} {ls : Array Slot} (ha0 : InR a0) (ha1 : InR a1) (ha2 : InR a2) (ha3 : InR a3) (S : zS G top L M s H locs) (hl : zLV ls 4 [some (zR G.2.2.1 a0), some (.int (zO a1)), some (.int (zO a2)), some (.int (zO a3))]) (h : Tr_behindOf fu L M a0 a1 a2 a3 = some res) : W p l e (zrm 5 0 0) s m args below meth c H locs 0 0 (MQ below (zQ G top L res.1 (some (.int (zO res.2))) (InR res.2)) args s 0 0 (zA G)) (F0 m 0 ls []) := by
  unfold Tr_behindOf at h
  refine u_al_n (x := a0) E (Tr_behindOf_dc.at 0 rfl) hl rfl ?_
  obtain ⟨g1, h⟩ := ite_e h
  refine u_gR E zf_8_0 S g1 zw_2_95 (Tr_behindOf_dc.at 1 rfl) ?_
  refine u_al_n (x := a0) E (Tr_behindOf_dc.at 2 rfl) hl rfl ?_
  refine u_gR E zf_8_1 S g1 zw_2_96 (Tr_behindOf_dc.at 3 rfl) ?_
  refine u_il_n (x := a1) E (Tr_behindOf_dc.at 4 rfl) hl rfl ?_
  refine u_il_n (x := a2) E (Tr_behindOf_dc.at 5 rfl) hl rfl ?_
  refine u_il_n (x := a3) E (Tr_behindOf_dc.at 6 rfl) hl rfl ?_
  obtain ⟨g2, h⟩ := ite_e h
  obtain ⟨M4, r3, er3, h⟩ := bd2_e h
  refine u_cVI (As := [zR G.2.2.1 (M a0 1), .int (zO a1), .int (zO a2), .int (zO a3)]) (rest := []) E S zcw_yX5_yearsBehind zw_5_160 zw_5_161 zw_5_159 zck_5.1 rfl g2 (Rk_yearsBehind_c l G fu top L M (M a0 0) (M a0 1) a1 a2 a3 (S.1.inR _ _) (S.1.inR _ _) ha1 ha2 ha3 er3) (zrm_ok (by decide) (by decide)) ⟨Nat.le_refl 0, Nat.le_refl 0⟩ rfl (Nat.zero_le 8) hl.size rfl (Tr_behindOf_dc.at 7 rfl) (fun H locs hr3 S5 => ?_)
  cases h
  exact r_iret E S5 hr3 (Tr_behindOf_dc.at 8 rfl)
theorem Tr_behindOf_c (l : Launch) (G : zG) (fu : Nat) (top : Int) (L : zL) (M : zM) (a0 : Int) (a1 : Int) (a2 : Int) (a3 : Int) {res : (zM × Int)} (ha0 : InR a0) (ha1 : InR a1) (ha2 : InR a2) (ha3 : InR a3) (h : Tr_behindOf fu L M a0 a1 a2 a3 = some res) : Met l yX8_behindOf (Cond.code yX8_behindOf cX8_behindOf 4 (some .int) :: zTB) (zrm 5 0 0) (va_Pc [zR G.2.2.1 a0, .int (zO a1), .int (zO a2), .int (zO a3)] (zPre G top L M)) (zQ G top L res.1 (some (.int (zO res.2))) (InR res.2)) 0 0 (zA G) :=
  z_met (by decide +kernel) (by simp [zR_cat, zcat_I, zcat_S]) (Nat.le_of_ble_eq_true rfl) fun p e s m below meth c ls E hn S hl => Tr_behindOf_w E ha0 ha1 ha2 ha3 S (hl.sub (And.intro rfl (And.intro rfl (And.intro rfl (And.intro rfl True.intro))))) h
end
theorem Lx_behind_dc : zDL cX11_behind [(0, .aload_n 0, 1, 1), (1, .iload_n 1, 1, 2), (2, .iload_n 2, 1, 3), (3, .iload_n 3, 1, 4), (4, .invokevirtual 275, 3, 7), (7, .ifCond .eq 15, 3, 10), (10, .aload_n 0, 1, 11), (11, .getfield 78, 3, 14), (14, .iload 4, 2, 16), (16, .invokevirtual 279, 3, 19), (19, .ifCond .ne 6, 3, 22), (22, .ldc 235, 2, 24), (24, .ireturn, 1, 25), (25, .aload_n 0, 1, 26), (26, .getfield 78, 3, 29), (29, .iload_n 2, 1, 30), (30, .iload_n 3, 1, 31), (31, .invokevirtual 282, 3, 34), (34, .ifCond .ne 6, 3, 37), (37, .bipush (-2), 2, 39), (39, .ireturn, 1, 40), (40, .aload_n 0, 1, 41), (41, .getfield 78, 3, 44), (44, .iload_n 2, 1, 45), (45, .iload_n 3, 1, 46), (46, .iload 4, 2, 48), (48, .invokevirtual 286, 3, 51), (51, .istore 5, 2, 53), (53, .iload 5, 2, 55), (55, .ldc 251, 2, 57), (57, .if_icmp .lt 7, 3, 60), (60, .iconst (-1), 1, 61), (61, .goto 5, 3, 64), (64, .iload 5, 2, 66), (66, .ireturn, 1, 67)] := zDL.of (by decide +kernel)
section
variable {p : Program} {l : Launch} {e : Env} {s : State} {m : MethodId} {args : Array Value} {below : List Frame} {meth : Method} {c : Code} {G : zG} {top : Int} {L : zL} {fu : Nat}
theorem Lx_behind_w (E : zEv p m c cX11_behind 6 s args RX11 meth (some .int) G) {res : (zM × Int)} {M : zM} {a0 : Int} {a1 : Int} {a2 : Int} {a3 : Int} {a4 : Int} {H : Heap} {locs : List Loc} {ls : Array Slot} (ha0 : InR a0) (ha1 : InR a1) (ha2 : InR a2) (ha3 : InR a3) (ha4 : InR a4) (S : zS G top L M s H locs) (hl : zLV ls 6 [some (zR G.2.2.1 a0), some (.int (zO a1)), some (.int (zO a2)), some (.int (zO a3)), some (.int (zO a4)), none]) (h : Lx_behind fu L M a0 a1 a2 a3 a4 = some res) : W p l e (zrm 8 0 0) s m args below meth c H locs 0 0 (MQ below (zQ G top L res.1 (some (.int (zO res.2))) (InR res.2)) args s 0 0 (zA G)) (F0 m 0 ls []) := by
  unfold Lx_behind at h
  refine u_al_n (x := a0) E (Lx_behind_dc.at 0 rfl) hl rfl ?_
  refine u_il_n (x := a1) E (Lx_behind_dc.at 1 rfl) hl rfl ?_
  refine u_il_n (x := a2) E (Lx_behind_dc.at 2 rfl) hl rfl ?_
  refine u_il_n (x := a3) E (Lx_behind_dc.at 3 rfl) hl rfl ?_
  obtain ⟨g1, h⟩ := ite_e h
  obtain ⟨M3, r2, er2, h⟩ := bd2_e h
  refine u_cVI (As := [.int (zO a1), .int (zO a2), .int (zO a3)]) (rest := []) E S zcw_yX11_tryMember zw_5_192 zq_3_6 zw_5_190 zck_11.1 rfl g1 (Lx_tryMember_c l G fu top L M a0 a1 a2 a3 ha0 ha1 ha2 ha3 er2) (zrm_ok (by decide) (by decide)) ⟨Nat.le_refl 0, Nat.le_refl 0⟩ rfl (Nat.zero_le 8) hl.size rfl (Lx_behind_dc.at 4 rfl) (fun H locs hr2 S4 => ?_)
  refine r_if_eq (tgt := 22) E (inR_01 hr2) (Lx_behind_dc.at 5 rfl) (by decide) (fun q => ?_) (fun q => ?_)
  · have h := ite_t h q
    refine r_ldc (n := (-1000000)) E (Lx_behind_dc.at 11 rfl) zw_5_42 rfl ?_
    cases h
    exact r_iret E S4 (show InR (-1000000) by decide) (Lx_behind_dc.at 12 rfl)
  · have h := ite_f h q
    refine u_al_n (x := a0) E (Lx_behind_dc.at 6 rfl) hl rfl ?_
    refine u_gR E zf_11_9 S4 g1 zw_2_141 (Lx_behind_dc.at 7 rfl) ?_
    refine u_il (x := a4) E (Lx_behind_dc.at 8 rfl) hl rfl ?_
    obtain ⟨g5, h⟩ := ite_e h
    obtain ⟨r6, er6, h⟩ := bd1_e h
    refine u_cVI (As := [.int (zO a4)]) (rest := []) E S4 zcw_yX8_isSet zw_5_195 zw_5_196 zw_5_194 zck_8.1 rfl g5 (Tr_isSet_c l G fu top L M3 (M3 a0 9) a4 (S4.1.inR _ _) ha4 er6) (zrm_ok (by decide) (by decide)) ⟨Nat.le_refl 0, Nat.le_refl 0⟩ rfl (Nat.zero_le 8) hl.size rfl (Lx_behind_dc.at 9 rfl) (fun H locs hr6 S7 => ?_)
    refine r_if_ne (tgt := 25) E (inR_01 hr6) (Lx_behind_dc.at 10 rfl) (by decide) (fun q => ?_) (fun q => ?_)
    · have h := ite_t h q
      refine r_ldc (n := (-1000000)) E (Lx_behind_dc.at 11 rfl) zw_5_42 rfl ?_
      cases h
      exact r_iret E S7 (show InR (-1000000) by decide) (Lx_behind_dc.at 12 rfl)
    · have h := ite_f h q
      refine u_al_n (x := a0) E (Lx_behind_dc.at 13 rfl) hl rfl ?_
      refine u_gR E zf_11_9 S7 g1 zw_2_141 (Lx_behind_dc.at 14 rfl) ?_
      refine u_il_n (x := a2) E (Lx_behind_dc.at 15 rfl) hl rfl ?_
      refine u_il_n (x := a3) E (Lx_behind_dc.at 16 rfl) hl rfl ?_
      obtain ⟨r8, er8, h⟩ := bd1_e h
      refine u_cVI (As := [.int (zO a2), .int (zO a3)]) (rest := []) E S7 zcw_yX8_belongs zw_5_139 zw_5_140 zw_5_199 zck_8.1 rfl g5 (Tr_belongs_c l G fu top L M3 (M3 a0 9) a2 a3 (S7.1.inR _ _) ha2 ha3 er8) (zrm_ok (by decide) (by decide)) ⟨Nat.le_refl 0, Nat.le_refl 0⟩ rfl (Nat.zero_le 8) hl.size rfl (Lx_behind_dc.at 17 rfl) (fun H locs hr8 S9 => ?_)
      refine r_if_ne (tgt := 40) E (inR_01 hr8) (Lx_behind_dc.at 18 rfl) (by decide) (fun q => ?_) (fun q => ?_)
      · have h := ite_t h q
        refine r_bipush E (Lx_behind_dc.at 19 rfl) rfl ?_
        cases h
        exact r_iret E S9 (show InR (-2) by decide) (Lx_behind_dc.at 20 rfl)
      · have h := ite_f h q
        refine u_al_n (x := a0) E (Lx_behind_dc.at 21 rfl) hl rfl ?_
        refine u_gR E zf_11_9 S9 g1 zw_2_141 (Lx_behind_dc.at 22 rfl) ?_
        refine u_il_n (x := a2) E (Lx_behind_dc.at 23 rfl) hl rfl ?_
        refine u_il_n (x := a3) E (Lx_behind_dc.at 24 rfl) hl rfl ?_
        refine u_il (x := a4) E (Lx_behind_dc.at 25 rfl) hl rfl ?_
        obtain ⟨M11, r10, er10, h⟩ := bd2_e h
        refine u_cVI (As := [.int (zO a2), .int (zO a3), .int (zO a4)]) (rest := []) E S9 zcw_yX8_behindOf zw_5_201 zw_5_202 zw_5_200 zck_8.1 rfl g5 (Tr_behindOf_c l G fu top L M3 (M3 a0 9) a2 a3 a4 (S9.1.inR _ _) ha2 ha3 ha4 er10) (zrm_ok (by decide) (by decide)) ⟨Nat.le_refl 0, Nat.le_refl 0⟩ rfl (Nat.zero_le 8) hl.size rfl (Lx_behind_dc.at 26 rfl) (fun H locs hr10 S12 => ?_)
        refine u_ist (y := r10) (vs' := [some (zR G.2.2.1 a0), some (.int (zO a1)), some (.int (zO a2)), some (.int (zO a3)), some (.int (zO a4)), some (.int (zO r10))]) E rfl (Lx_behind_dc.at 27 rfl) hl (by decide) rfl (fun ls hl => ?_)
        refine u_il (x := r10) E (Lx_behind_dc.at 28 rfl) hl rfl ?_
        refine r_ldc (n := 1000000) E (Lx_behind_dc.at 29 rfl) zw_5_78 rfl ?_
        refine r_icmp_lt (tgt := 64) E hr10 (show InR 1000000 by decide) (Lx_behind_dc.at 30 rfl) (by decide) (fun q => ?_) (fun q => ?_)
        · have h := ite_t h q
          refine u_il (x := r10) E (Lx_behind_dc.at 33 rfl) hl rfl ?_
          cases h
          exact r_iret E S12 hr10 (Lx_behind_dc.at 34 rfl)
        · have h := ite_f h q
          refine r_iconst E (Lx_behind_dc.at 31 rfl) ?_
          refine r_goto (tgt := 66) E (Lx_behind_dc.at 32 rfl) (by decide) ?_
          cases h
          exact r_iret E S12 (show InR (-1) by decide) (Lx_behind_dc.at 34 rfl)
theorem Lx_behind_c (l : Launch) (G : zG) (fu : Nat) (top : Int) (L : zL) (M : zM) (a0 : Int) (a1 : Int) (a2 : Int) (a3 : Int) (a4 : Int) {res : (zM × Int)} (ha0 : InR a0) (ha1 : InR a1) (ha2 : InR a2) (ha3 : InR a3) (ha4 : InR a4) (h : Lx_behind fu L M a0 a1 a2 a3 a4 = some res) : Met l yX11_behind (Cond.code yX11_behind cX11_behind 6 (some .int) :: zTB) (zrm 8 0 0) (va_Pc [zR G.2.2.1 a0, .int (zO a1), .int (zO a2), .int (zO a3), .int (zO a4)] (zPre G top L M)) (zQ G top L res.1 (some (.int (zO res.2))) (InR res.2)) 0 0 (zA G) :=
  z_met (by decide +kernel) (by simp [zR_cat, zcat_I, zcat_S]) (Nat.le_of_ble_eq_true rfl) fun p e s m below meth c ls E hn S hl => Lx_behind_w E ha0 ha1 ha2 ha3 ha4 S (hl.sub (And.intro rfl (And.intro rfl (And.intro rfl (And.intro rfl (And.intro rfl True.intro)))))) h
end
theorem Rk_bornSoonest_dc : zDL cX5_bornSoonest [(0, .iload_n 0, 1, 1), (1, .ifCond .ne 5, 3, 4), (4, .iconst 0, 1, 5), (5, .ireturn, 1, 6), (6, .iload_n 0, 1, 7), (7, .iconst 1, 1, 8), (8, .if_icmp .ne 7, 3, 11), (11, .iconst 1, 1, 12), (12, .goto 5, 3, 15), (15, .bipush 14, 2, 17), (17, .ireturn, 1, 18)] := zDL.of (by decide +kernel)
section
variable {p : Program} {l : Launch} {e : Env} {s : State} {m : MethodId} {args : Array Value} {below : List Frame} {meth : Method} {c : Code} {G : zG} {top : Int} {L : zL} {fu : Nat}
theorem Rk_bornSoonest_w (E : zEv p m c cX5_bornSoonest 1 s args RX5 meth (some .int) G) {res : Int} {M : zM} {a0 : Int} {H : Heap} {locs : List Loc} {ls : Array Slot} (ha0 : InR a0) (S : zS G top L M s H locs) (hl : zLV ls 1 [some (.int (zO a0))]) (h : Rk_bornSoonest fu L M a0 = some res) : W p l e (zrm 1 0 0) s m args below meth c H locs 0 0 (MQ below (zQ G top L M (some (.int (zO res))) (InR res)) args s 0 0 (zA G)) (F0 m 0 ls []) := by
  unfold Rk_bornSoonest at h
  refine u_il_n (x := a0) E (Rk_bornSoonest_dc.at 0 rfl) hl rfl ?_
  refine r_if_ne (tgt := 6) E ha0 (Rk_bornSoonest_dc.at 1 rfl) (by decide) (fun q => ?_) (fun q => ?_)
  · have h := ite_t h q
    refine r_iconst E (Rk_bornSoonest_dc.at 2 rfl) ?_
    cases h
    exact r_iret E S (show InR 0 by decide) (Rk_bornSoonest_dc.at 3 rfl)
  · have h := ite_f h q
    refine u_il_n (x := a0) E (Rk_bornSoonest_dc.at 4 rfl) hl rfl ?_
    refine r_iconst E (Rk_bornSoonest_dc.at 5 rfl) ?_
    refine r_icmp_ne (tgt := 15) E ha0 (show InR 1 by decide) (Rk_bornSoonest_dc.at 6 rfl) (by decide) (fun q => ?_) (fun q => ?_)
    · have h := ite_t h q
      refine r_iconst E (Rk_bornSoonest_dc.at 7 rfl) ?_
      refine r_goto (tgt := 17) E (Rk_bornSoonest_dc.at 8 rfl) (by decide) ?_
      cases h
      exact r_iret E S (show InR 1 by decide) (Rk_bornSoonest_dc.at 10 rfl)
    · have h := ite_f h q
      refine r_bipush E (Rk_bornSoonest_dc.at 9 rfl) rfl ?_
      cases h
      exact r_iret E S (show InR 14 by decide) (Rk_bornSoonest_dc.at 10 rfl)
theorem Rk_bornSoonest_c (l : Launch) (G : zG) (fu : Nat) (top : Int) (L : zL) (M : zM) (a0 : Int) {res : Int} (ha0 : InR a0) (h : Rk_bornSoonest fu L M a0 = some res) : Met l yX5_bornSoonest (Cond.code yX5_bornSoonest cX5_bornSoonest 1 (some .int) :: zTB) (zrm 1 0 0) (va_Pc [.int (zO a0)] (zPre G top L M)) (zQ G top L M (some (.int (zO res))) (InR res)) 0 0 (zA G) :=
  z_met (by decide +kernel) (by simp [zR_cat, zcat_I, zcat_S]) (Nat.le_of_ble_eq_true rfl) fun p e s m below meth c ls E hn S hl => Rk_bornSoonest_w E ha0 S (hl.sub (And.intro rfl True.intro)) h
end
theorem Rk_soonestYear_dc : zDL cX5_soonestYear [(0, .iload_n 2, 1, 1), (1, .invokestatic 112, 3, 4), (4, .istore 4, 2, 6), (6, .iconst 0, 1, 7), (7, .istore 5, 2, 9), (9, .iconst 0, 1, 10), (10, .istore 6, 2, 12), (12, .iload 6, 2, 14), (14, .aload_n 0, 1, 15), (15, .getfield 30, 3, 18), (18, .if_icmp .ge 194, 3, 21), (21, .iload 6, 2, 23), (23, .bipush 31, 2, 25), (25, .if_icmp .ge 187, 3, 28), (28, .aload_n 0, 1, 29), (29, .getfield 15, 3, 32), (32, .iload 6, 2, 34), (34, .iaload, 1, 35), (35, .istore 7, 2, 37), (37, .aload_n 0, 1, 38), (38, .getfield 24, 3, 41), (41, .aload_n 0, 1, 42), (42, .getfield 21, 3, 45), (45, .iload 6, 2, 47), (47, .iaload, 1, 48), (48, .invokestatic 50, 3, 51), (51, .istore 8, 2, 53), (53, .aload_n 0, 1, 54), (54, .getfield 9, 3, 57), (57, .iload 6, 2, 59), (59, .iaload, 1, 60), (60, .tableswitch 128 0 6 #[44, 51, 57, 64, 88, 106, 116], 44, 104), (104, .iload 7, 2, 106), (106, .istore 5, 2, 108), (108, .goto 89, 3, 111), (111, .iconst 0, 1, 112), (112, .istore 5, 2, 114), (114, .goto 83, 3, 117), (117, .iload 4, 2, 119), (119, .istore 5, 2, 121), (121, .goto 76, 3, 124), (124, .iload_n 2, 1, 125), (125, .ifCond .ne 13, 3, 128), (128, .aload_n 1, 1, 129), (129, .iload_n 3, 1, 130), (130, .iload 7, 2, 132), (132, .invokevirtual 109, 3, 135), (135, .goto 8, 3, 138), (138, .iload 4, 2, 140), (140, .iload 7, 2, 142), (142, .iadd, 1, 143), (143, .istore 5, 2, 145), (145, .goto 52, 3, 148), (148, .aload_n 1, 1, 149), (149, .aload_n 0, 1, 150), (150, .getfield 18, 3, 153), (153, .iload 6, 2, 155), (155, .iaload, 1, 156), (156, .iload 7, 2, 158), (158, .invokevirtual 109, 3, 161), (161, .istore 5, 2, 163), (163, .goto 34, 3, 166), (166, .iload 5, 2, 168), (168, .iload 7, 2, 170), (170, .iadd, 1, 171), (171, .istore 5, 2, 173), (173, .goto 24, 3, 176), (176, .iload 8, 2, 178), (178, .iload 5, 2, 180), (180, .invokestatic 69, 3, 183), (183, .istore 5, 2, 185), (185, .goto 12, 3, 188), (188, .iload 8, 2, 190), (190, .iload 5, 2, 192), (192, .invokestatic 42, 3, 195), (195, .istore 5, 2, 197), (197, .aload_n 0, 1, 198), (198, .getfield 24, 3, 201), (201, .iload 6, 2, 203), (203, .iload 5, 2, 205), (205, .iastore, 1, 206), (206, .iinc 6 1, 3, 209), (209, .goto (-197), 3, 212), (212, .iload 5, 2, 214), (214, .iload 4, 2, 216), (216, .invokestatic 69, 3, 219), (219, .ireturn, 1, 220)] := zDL.of (by decide +kernel)
section
variable {p : Program} {l : Launch} {e : Env} {s : State} {m : MethodId} {args : Array Value} {below : List Frame} {meth : Method} {c : Code} {G : zG} {top : Int} {L : zL} {fu : Nat}
theorem Rk_soonestYear_b143_w (E : zEv p m c cX5_soonestYear 9 s args RX5 meth (some .int) G) {res : (zM × Int)} {k12 : zM → Int → Int → Int → Int → Int → Int → Int → Option (zM × Int)} (hk12 : ∀ (M : zM) (x0 : Int) (x1 : Int) (x2 : Int) (x3 : Int) (x4 : Int) (x5 : Int) (x6 : Int), InR x0 → InR x1 → InR x2 → InR x3 → InR x4 → InR x5 → InR x6 → ∀ (H : Heap) (locs : List Loc) (ls : Array Slot), zS G top L M s H locs → zLV ls 9 [some (zR G.2.2.1 x0), some (zR G.2.2.1 x1), some (.int (zO x2)), some (.int (zO x3)), some (.int (zO x4)), some (.int (zO x5)), some (.int (zO x6)), none, none] → k12 M x0 x1 x2 x3 x4 x5 x6 = some res → W p l e (zrm 3 0 0) s m args below meth c H locs 0 0 (MQ below (zQ G top L res.1 (some (.int (zO res.2))) (InR res.2)) args s 0 0 (zA G)) (F0 m 12 ls [])) {M : zM} {x0 : Int} {x1 : Int} {x2 : Int} {x3 : Int} {x4 : Int} {x6 : Int} {y0 : Int} {H : Heap} {locs : List Loc} {ls : Array Slot} (hx0 : InR x0) (hx1 : InR x1) (hx2 : InR x2) (hx3 : InR x3) (hx4 : InR x4) (hx6 : InR x6) (hy0 : InR y0) (S : zS G top L M s H locs) (hl : zLV ls 9 [some (zR G.2.2.1 x0), some (zR G.2.2.1 x1), some (.int (zO x2)), some (.int (zO x3)), some (.int (zO x4)), none, some (.int (zO x6)), none, none]) (h : Rk_soonestYear_b143 fu k12 L M x0 x1 x2 x3 x4 x6 y0 = some res) : W p l e (zrm 3 0 0) s m args below meth c H locs 0 0 (MQ below (zQ G top L res.1 (some (.int (zO res.2))) (InR res.2)) args s 0 0 (zA G)) (F0 m 143 ls [.int (zO y0)]) := by
  unfold Rk_soonestYear_b143 at h
  refine u_ist (y := y0) (vs' := [some (zR G.2.2.1 x0), some (zR G.2.2.1 x1), some (.int (zO x2)), some (.int (zO x3)), some (.int (zO x4)), some (.int (zO y0)), some (.int (zO x6)), none, none]) E rfl (Rk_soonestYear_dc.at 51 rfl) hl (by decide) rfl (fun ls hl => ?_)
  refine r_goto (tgt := 197) E (Rk_soonestYear_dc.at 52 rfl) (by decide) ?_
  refine u_al_n (x := x0) E (Rk_soonestYear_dc.at 76 rfl) hl rfl ?_
  obtain ⟨g34, h⟩ := ite_e h
  refine u_gR E zf_5_4 S g34 zw_2_36 (Rk_soonestYear_dc.at 77 rfl) ?_
  refine u_il (x := x6) E (Rk_soonestYear_dc.at 78 rfl) hl rfl ?_
  refine u_il (x := y0) E (Rk_soonestYear_dc.at 79 rfl) hl rfl ?_
  obtain ⟨g35, h⟩ := ite_e h
  obtain ⟨g36, h⟩ := ite_e h
  obtain ⟨M37, eM37, h⟩ := lt1_e h
  refine u_iast E eM37 S g35 g36 hy0 (Rk_soonestYear_dc.at 80 rfl) (fun H locs S38 => ?_)
  obtain ⟨v39, ev39, h⟩ := lt1_e h
  have hv39 := inR_eq ev39 (inR_w32 _)
  refine u_iinc (y := v39) (vs' := [some (zR G.2.2.1 x0), some (zR G.2.2.1 x1), some (.int (zO x2)), some (.int (zO x3)), some (.int (zO x4)), some (.int (zO y0)), some (.int (zO v39)), none, none]) E ev39 (Rk_soonestYear_dc.at 81 rfl) hl rfl (by decide) rfl (fun ls hl => ?_)
  refine r_goto (tgt := 12) E (Rk_soonestYear_dc.at 82 rfl) (by decide) ?_
  exact hk12 _ x0 x1 x2 x3 x4 y0 v39 hx0 hx1 hx2 hx3 hx4 hy0 hv39 _ _ _ S38 (hl.sub (And.intro rfl (And.intro rfl (And.intro rfl (And.intro rfl (And.intro rfl (And.intro rfl (And.intro rfl True.intro)))))))) h
theorem Rk_soonestYear_s12_w (E : zEv p m c cX5_soonestYear 9 s args RX5 meth (some .int) G) {res : (zM × Int)} {k12 : zM → Int → Int → Int → Int → Int → Int → Int → Option (zM × Int)} (hk12 : ∀ (M : zM) (x0 : Int) (x1 : Int) (x2 : Int) (x3 : Int) (x4 : Int) (x5 : Int) (x6 : Int), InR x0 → InR x1 → InR x2 → InR x3 → InR x4 → InR x5 → InR x6 → ∀ (H : Heap) (locs : List Loc) (ls : Array Slot), zS G top L M s H locs → zLV ls 9 [some (zR G.2.2.1 x0), some (zR G.2.2.1 x1), some (.int (zO x2)), some (.int (zO x3)), some (.int (zO x4)), some (.int (zO x5)), some (.int (zO x6)), none, none] → k12 M x0 x1 x2 x3 x4 x5 x6 = some res → W p l e (zrm 3 0 0) s m args below meth c H locs 0 0 (MQ below (zQ G top L res.1 (some (.int (zO res.2))) (InR res.2)) args s 0 0 (zA G)) (F0 m 12 ls [])) {M : zM} {x0 : Int} {x1 : Int} {x2 : Int} {x3 : Int} {x4 : Int} {x5 : Int} {x6 : Int} {H : Heap} {locs : List Loc} {ls : Array Slot} (hx0 : InR x0) (hx1 : InR x1) (hx2 : InR x2) (hx3 : InR x3) (hx4 : InR x4) (hx5 : InR x5) (hx6 : InR x6) (S : zS G top L M s H locs) (hl : zLV ls 9 [some (zR G.2.2.1 x0), some (zR G.2.2.1 x1), some (.int (zO x2)), some (.int (zO x3)), some (.int (zO x4)), some (.int (zO x5)), some (.int (zO x6)), none, none]) (h : Rk_soonestYear_s12 fu k12 L M x0 x1 x2 x3 x4 x5 x6 = some res) : W p l e (zrm 3 0 0) s m args below meth c H locs 0 0 (MQ below (zQ G top L res.1 (some (.int (zO res.2))) (InR res.2)) args s 0 0 (zA G)) (F0 m 12 ls []) := by
  unfold Rk_soonestYear_s12 at h
  refine u_il (x := x6) E (Rk_soonestYear_dc.at 7 rfl) hl rfl ?_
  refine u_al_n (x := x0) E (Rk_soonestYear_dc.at 8 rfl) hl rfl ?_
  obtain ⟨g3, h⟩ := ite_e h
  refine u_gI E zf_5_6 S g3 zw_2_38 (Rk_soonestYear_dc.at 9 rfl) ?_
  refine r_icmp_ge (tgt := 212) E hx6 (S.1.inR _ _) (Rk_soonestYear_dc.at 10 rfl) (by decide) (fun q => ?_) (fun q => ?_)
  · have h := ite_t h q
    refine u_il (x := x6) E (Rk_soonestYear_dc.at 11 rfl) hl rfl ?_
    refine r_bipush E (Rk_soonestYear_dc.at 12 rfl) rfl ?_
    refine r_icmp_ge (tgt := 212) E hx6 (show InR 31 by decide) (Rk_soonestYear_dc.at 13 rfl) (by decide) (fun q => ?_) (fun q => ?_)
    · have h := ite_t h q
      refine u_al_n (x := x0) E (Rk_soonestYear_dc.at 14 rfl) hl rfl ?_
      refine u_gR E zf_5_1 S g3 zw_2_33 (Rk_soonestYear_dc.at 15 rfl) ?_
      refine u_il (x := x6) E (Rk_soonestYear_dc.at 16 rfl) hl rfl ?_
      obtain ⟨g4, h⟩ := ite_e h
      obtain ⟨g5, h⟩ := ite_e h
      refine r_iald E S g4 g5 (Rk_soonestYear_dc.at 17 rfl) ?_
      obtain ⟨v6, ev6, h⟩ := lt1_e h
      have hv6 := inR_eq ev6 (S.1.inR _ _)
      refine u_ist (y := v6) (vs' := [some (zR G.2.2.1 x0), some (zR G.2.2.1 x1), some (.int (zO x2)), some (.int (zO x3)), some (.int (zO x4)), some (.int (zO x5)), some (.int (zO x6)), some (.int (zO v6)), none]) E ev6 (Rk_soonestYear_dc.at 18 rfl) hl (by decide) rfl (fun ls hl => ?_)
      refine u_al_n (x := x0) E (Rk_soonestYear_dc.at 19 rfl) hl rfl ?_
      refine u_gR E zf_5_4 S g3 zw_2_36 (Rk_soonestYear_dc.at 20 rfl) ?_
      refine u_al_n (x := x0) E (Rk_soonestYear_dc.at 21 rfl) hl rfl ?_
      refine u_gR E zf_5_3 S g3 zw_2_35 (Rk_soonestYear_dc.at 22 rfl) ?_
      refine u_il (x := x6) E (Rk_soonestYear_dc.at 23 rfl) hl rfl ?_
      obtain ⟨g7, h⟩ := ite_e h
      obtain ⟨g8, h⟩ := ite_e h
      refine r_iald E S g7 g8 (Rk_soonestYear_dc.at 24 rfl) ?_
      obtain ⟨r9, er9, h⟩ := bd1_e h
      refine u_cSI (As := [zR G.2.2.1 (M x0 4), .int (zO (M (M x0 3) x6))]) (rest := []) E S zcw_yX5_answerOf zw_4_238 zw_4_237 (Rk_answerOf_c l G fu top L M (M x0 4) (M (M x0 3) x6) (S.1.inR _ _) (S.1.inR _ _) er9) (zrm_ok (by decide) (by decide)) ⟨Nat.le_refl 0, Nat.le_refl 0⟩ rfl (Nat.zero_le 8) hl.size rfl (Rk_soonestYear_dc.at 25 rfl) (fun H locs hr9 S10 => ?_)
      refine u_ist (y := r9) (vs' := [some (zR G.2.2.1 x0), some (zR G.2.2.1 x1), some (.int (zO x2)), some (.int (zO x3)), some (.int (zO x4)), some (.int (zO x5)), some (.int (zO x6)), some (.int (zO v6)), some (.int (zO r9))]) E rfl (Rk_soonestYear_dc.at 26 rfl) hl (by decide) rfl (fun ls hl => ?_)
      refine u_al_n (x := x0) E (Rk_soonestYear_dc.at 27 rfl) hl rfl ?_
      refine u_gR E zf_5_0 S10 g3 zw_2_32 (Rk_soonestYear_dc.at 28 rfl) ?_
      refine u_il (x := x6) E (Rk_soonestYear_dc.at 29 rfl) hl rfl ?_
      obtain ⟨g11, h⟩ := ite_e h
      obtain ⟨g12, h⟩ := ite_e h
      refine r_iald E S10 g11 g12 (Rk_soonestYear_dc.at 30 rfl) ?_
      by_cases q18 : (M (M x0 0) x6) = 0
      · have h := ite_t h q18
        refine r_tin (tgt := 104) (k := 0) E (S10.1.inR _ _) q18 (Rk_soonestYear_dc.at 31 rfl) (by decide) (by decide) rfl (by decide) ?_
        refine u_il (x := v6) E (Rk_soonestYear_dc.at 32 rfl) hl rfl ?_
        refine u_ist (y := v6) (vs' := [some (zR G.2.2.1 x0), some (zR G.2.2.1 x1), some (.int (zO x2)), some (.int (zO x3)), some (.int (zO x4)), some (.int (zO v6)), some (.int (zO x6)), some (.int (zO v6)), some (.int (zO r9))]) E rfl (Rk_soonestYear_dc.at 33 rfl) hl (by decide) rfl (fun ls hl => ?_)
        refine r_goto (tgt := 197) E (Rk_soonestYear_dc.at 34 rfl) (by decide) ?_
        refine u_al_n (x := x0) E (Rk_soonestYear_dc.at 76 rfl) hl rfl ?_
        refine u_gR E zf_5_4 S10 g3 zw_2_36 (Rk_soonestYear_dc.at 77 rfl) ?_
        refine u_il (x := x6) E (Rk_soonestYear_dc.at 78 rfl) hl rfl ?_
        refine u_il (x := v6) E (Rk_soonestYear_dc.at 79 rfl) hl rfl ?_
        obtain ⟨g13, h⟩ := ite_e h
        obtain ⟨g14, h⟩ := ite_e h
        obtain ⟨M15, eM15, h⟩ := lt1_e h
        refine u_iast E eM15 S10 g13 g14 hv6 (Rk_soonestYear_dc.at 80 rfl) (fun H locs S16 => ?_)
        obtain ⟨v17, ev17, h⟩ := lt1_e h
        have hv17 := inR_eq ev17 (inR_w32 _)
        refine u_iinc (y := v17) (vs' := [some (zR G.2.2.1 x0), some (zR G.2.2.1 x1), some (.int (zO x2)), some (.int (zO x3)), some (.int (zO x4)), some (.int (zO v6)), some (.int (zO v17)), some (.int (zO v6)), some (.int (zO r9))]) E ev17 (Rk_soonestYear_dc.at 81 rfl) hl rfl (by decide) rfl (fun ls hl => ?_)
        refine r_goto (tgt := 12) E (Rk_soonestYear_dc.at 82 rfl) (by decide) ?_
        exact hk12 _ x0 x1 x2 x3 x4 v6 v17 hx0 hx1 hx2 hx3 hx4 hv6 hv17 _ _ _ S16 (hl.sub (And.intro rfl (And.intro rfl (And.intro rfl (And.intro rfl (And.intro rfl (And.intro rfl (And.intro rfl True.intro)))))))) h
      · have h := ite_f h q18
        by_cases q24 : (M (M x0 0) x6) = 1
        · have h := ite_t h q24
          refine r_tin (tgt := 111) (k := 1) E (S10.1.inR _ _) q24 (Rk_soonestYear_dc.at 31 rfl) (by decide) (by decide) rfl (by decide) ?_
          refine r_iconst E (Rk_soonestYear_dc.at 35 rfl) ?_
          refine u_ist (y := 0) (vs' := [some (zR G.2.2.1 x0), some (zR G.2.2.1 x1), some (.int (zO x2)), some (.int (zO x3)), some (.int (zO x4)), some (.int (zO 0)), some (.int (zO x6)), some (.int (zO v6)), some (.int (zO r9))]) E rfl (Rk_soonestYear_dc.at 36 rfl) hl (by decide) rfl (fun ls hl => ?_)
          refine r_goto (tgt := 197) E (Rk_soonestYear_dc.at 37 rfl) (by decide) ?_
          refine u_al_n (x := x0) E (Rk_soonestYear_dc.at 76 rfl) hl rfl ?_
          refine u_gR E zf_5_4 S10 g3 zw_2_36 (Rk_soonestYear_dc.at 77 rfl) ?_
          refine u_il (x := x6) E (Rk_soonestYear_dc.at 78 rfl) hl rfl ?_
          refine u_il (x := 0) E (Rk_soonestYear_dc.at 79 rfl) hl rfl ?_
          obtain ⟨g19, h⟩ := ite_e h
          obtain ⟨g20, h⟩ := ite_e h
          obtain ⟨M21, eM21, h⟩ := lt1_e h
          refine u_iast E eM21 S10 g19 g20 (show InR 0 by decide) (Rk_soonestYear_dc.at 80 rfl) (fun H locs S22 => ?_)
          obtain ⟨v23, ev23, h⟩ := lt1_e h
          have hv23 := inR_eq ev23 (inR_w32 _)
          refine u_iinc (y := v23) (vs' := [some (zR G.2.2.1 x0), some (zR G.2.2.1 x1), some (.int (zO x2)), some (.int (zO x3)), some (.int (zO x4)), some (.int (zO 0)), some (.int (zO v23)), some (.int (zO v6)), some (.int (zO r9))]) E ev23 (Rk_soonestYear_dc.at 81 rfl) hl rfl (by decide) rfl (fun ls hl => ?_)
          refine r_goto (tgt := 12) E (Rk_soonestYear_dc.at 82 rfl) (by decide) ?_
          exact hk12 _ x0 x1 x2 x3 x4 0 v23 hx0 hx1 hx2 hx3 hx4 (show InR 0 by decide) hv23 _ _ _ S22 (hl.sub (And.intro rfl (And.intro rfl (And.intro rfl (And.intro rfl (And.intro rfl (And.intro rfl (And.intro rfl True.intro)))))))) h
        · have h := ite_f h q24
          by_cases q30 : (M (M x0 0) x6) = 2
          · have h := ite_t h q30
            refine r_tin (tgt := 117) (k := 2) E (S10.1.inR _ _) q30 (Rk_soonestYear_dc.at 31 rfl) (by decide) (by decide) rfl (by decide) ?_
            refine u_il (x := x4) E (Rk_soonestYear_dc.at 38 rfl) hl rfl ?_
            refine u_ist (y := x4) (vs' := [some (zR G.2.2.1 x0), some (zR G.2.2.1 x1), some (.int (zO x2)), some (.int (zO x3)), some (.int (zO x4)), some (.int (zO x4)), some (.int (zO x6)), some (.int (zO v6)), some (.int (zO r9))]) E rfl (Rk_soonestYear_dc.at 39 rfl) hl (by decide) rfl (fun ls hl => ?_)
            refine r_goto (tgt := 197) E (Rk_soonestYear_dc.at 40 rfl) (by decide) ?_
            refine u_al_n (x := x0) E (Rk_soonestYear_dc.at 76 rfl) hl rfl ?_
            refine u_gR E zf_5_4 S10 g3 zw_2_36 (Rk_soonestYear_dc.at 77 rfl) ?_
            refine u_il (x := x6) E (Rk_soonestYear_dc.at 78 rfl) hl rfl ?_
            refine u_il (x := x4) E (Rk_soonestYear_dc.at 79 rfl) hl rfl ?_
            obtain ⟨g25, h⟩ := ite_e h
            obtain ⟨g26, h⟩ := ite_e h
            obtain ⟨M27, eM27, h⟩ := lt1_e h
            refine u_iast E eM27 S10 g25 g26 hx4 (Rk_soonestYear_dc.at 80 rfl) (fun H locs S28 => ?_)
            obtain ⟨v29, ev29, h⟩ := lt1_e h
            have hv29 := inR_eq ev29 (inR_w32 _)
            refine u_iinc (y := v29) (vs' := [some (zR G.2.2.1 x0), some (zR G.2.2.1 x1), some (.int (zO x2)), some (.int (zO x3)), some (.int (zO x4)), some (.int (zO x4)), some (.int (zO v29)), some (.int (zO v6)), some (.int (zO r9))]) E ev29 (Rk_soonestYear_dc.at 81 rfl) hl rfl (by decide) rfl (fun ls hl => ?_)
            refine r_goto (tgt := 12) E (Rk_soonestYear_dc.at 82 rfl) (by decide) ?_
            exact hk12 _ x0 x1 x2 x3 x4 x4 v29 hx0 hx1 hx2 hx3 hx4 hx4 hv29 _ _ _ S28 (hl.sub (And.intro rfl (And.intro rfl (And.intro rfl (And.intro rfl (And.intro rfl (And.intro rfl (And.intro rfl True.intro)))))))) h
          · have h := ite_f h q30
            by_cases q40 : (M (M x0 0) x6) = 3
            · have h := ite_t h q40
              refine r_tin (tgt := 124) (k := 3) E (S10.1.inR _ _) q40 (Rk_soonestYear_dc.at 31 rfl) (by decide) (by decide) rfl (by decide) ?_
              refine u_il_n (x := x2) E (Rk_soonestYear_dc.at 41 rfl) hl rfl ?_
              refine r_if_ne (tgt := 138) E hx2 (Rk_soonestYear_dc.at 42 rfl) (by decide) (fun q => ?_) (fun q => ?_)
              · have h := ite_t h q
                refine u_al_n (x := x1) E (Rk_soonestYear_dc.at 43 rfl) hl rfl ?_
                refine u_il_n (x := x3) E (Rk_soonestYear_dc.at 44 rfl) hl rfl ?_
                refine u_il (x := v6) E (Rk_soonestYear_dc.at 45 rfl) hl rfl ?_
                obtain ⟨g31, h⟩ := ite_e h
                obtain ⟨r32, er32, h⟩ := bd1_e h
                refine u_cVI (As := [.int (zO x3), .int (zO v6)]) (rest := []) E S10 zcw_yX10_yearsTo zw_5_174 zw_5_175 zw_5_173 zck_10.1 rfl g31 (Wd_yearsTo_c l G fu top L M x1 x3 v6 hx1 hx3 hv6 er32) (zrm_ok (by decide) (by decide)) ⟨Nat.le_refl 0, Nat.le_refl 0⟩ rfl (Nat.zero_le 8) hl.size rfl (Rk_soonestYear_dc.at 46 rfl) (fun H locs hr32 S33 => ?_)
                refine r_goto (tgt := 143) E (Rk_soonestYear_dc.at 47 rfl) (by decide) ?_
                exact Rk_soonestYear_b143_w (x0 := x0) (x1 := x1) (x2 := x2) (x3 := x3) (x4 := x4) (x6 := x6) (y0 := r32) E hk12 hx0 hx1 hx2 hx3 hx4 hx6 hr32 S33 (hl.sub (And.intro rfl (And.intro rfl (And.intro rfl (And.intro rfl (And.intro rfl (And.intro rfl True.intro))))))) h
              · have h := ite_f h q
                refine u_il (x := x4) E (Rk_soonestYear_dc.at 48 rfl) hl rfl ?_
                refine u_il (x := v6) E (Rk_soonestYear_dc.at 49 rfl) hl rfl ?_
                refine r_iadd E (Rk_soonestYear_dc.at 50 rfl) ?_
                exact Rk_soonestYear_b143_w (x0 := x0) (x1 := x1) (x2 := x2) (x3 := x3) (x4 := x4) (x6 := x6) (y0 := (w32 (x4 + v6))) E hk12 hx0 hx1 hx2 hx3 hx4 hx6 (inR_w32 _) S10 (hl.sub (And.intro rfl (And.intro rfl (And.intro rfl (And.intro rfl (And.intro rfl (And.intro rfl True.intro))))))) h
            · have h := ite_f h q40
              by_cases q51 : (M (M x0 0) x6) = 4
              · have h := ite_t h q51
                refine r_tin (tgt := 148) (k := 4) E (S10.1.inR _ _) q51 (Rk_soonestYear_dc.at 31 rfl) (by decide) (by decide) rfl (by decide) ?_
                refine u_al_n (x := x1) E (Rk_soonestYear_dc.at 53 rfl) hl rfl ?_
                refine u_al_n (x := x0) E (Rk_soonestYear_dc.at 54 rfl) hl rfl ?_
                refine u_gR E zf_5_2 S10 g3 zw_2_34 (Rk_soonestYear_dc.at 55 rfl) ?_
                refine u_il (x := x6) E (Rk_soonestYear_dc.at 56 rfl) hl rfl ?_
                obtain ⟨g41, h⟩ := ite_e h
                obtain ⟨g42, h⟩ := ite_e h
                refine r_iald E S10 g41 g42 (Rk_soonestYear_dc.at 57 rfl) ?_
                refine u_il (x := v6) E (Rk_soonestYear_dc.at 58 rfl) hl rfl ?_
                obtain ⟨g43, h⟩ := ite_e h
                obtain ⟨r44, er44, h⟩ := bd1_e h
                refine u_cVI (As := [.int (zO (M (M x0 2) x6)), .int (zO v6)]) (rest := []) E S10 zcw_yX10_yearsTo zw_5_174 zw_5_175 zw_5_173 zck_10.1 rfl g43 (Wd_yearsTo_c l G fu top L M x1 (M (M x0 2) x6) v6 hx1 (S10.1.inR _ _) hv6 er44) (zrm_ok (by decide) (by decide)) ⟨Nat.le_refl 0, Nat.le_refl 0⟩ rfl (Nat.zero_le 8) hl.size rfl (Rk_soonestYear_dc.at 59 rfl) (fun H locs hr44 S45 => ?_)
                refine u_ist (y := r44) (vs' := [some (zR G.2.2.1 x0), some (zR G.2.2.1 x1), some (.int (zO x2)), some (.int (zO x3)), some (.int (zO x4)), some (.int (zO r44)), some (.int (zO x6)), some (.int (zO v6)), some (.int (zO r9))]) E rfl (Rk_soonestYear_dc.at 60 rfl) hl (by decide) rfl (fun ls hl => ?_)
                refine r_goto (tgt := 197) E (Rk_soonestYear_dc.at 61 rfl) (by decide) ?_
                refine u_al_n (x := x0) E (Rk_soonestYear_dc.at 76 rfl) hl rfl ?_
                refine u_gR E zf_5_4 S45 g3 zw_2_36 (Rk_soonestYear_dc.at 77 rfl) ?_
                refine u_il (x := x6) E (Rk_soonestYear_dc.at 78 rfl) hl rfl ?_
                refine u_il (x := r44) E (Rk_soonestYear_dc.at 79 rfl) hl rfl ?_
                obtain ⟨g46, h⟩ := ite_e h
                obtain ⟨g47, h⟩ := ite_e h
                obtain ⟨M48, eM48, h⟩ := lt1_e h
                refine u_iast E eM48 S45 g46 g47 hr44 (Rk_soonestYear_dc.at 80 rfl) (fun H locs S49 => ?_)
                obtain ⟨v50, ev50, h⟩ := lt1_e h
                have hv50 := inR_eq ev50 (inR_w32 _)
                refine u_iinc (y := v50) (vs' := [some (zR G.2.2.1 x0), some (zR G.2.2.1 x1), some (.int (zO x2)), some (.int (zO x3)), some (.int (zO x4)), some (.int (zO r44)), some (.int (zO v50)), some (.int (zO v6)), some (.int (zO r9))]) E ev50 (Rk_soonestYear_dc.at 81 rfl) hl rfl (by decide) rfl (fun ls hl => ?_)
                refine r_goto (tgt := 12) E (Rk_soonestYear_dc.at 82 rfl) (by decide) ?_
                exact hk12 _ x0 x1 x2 x3 x4 r44 v50 hx0 hx1 hx2 hx3 hx4 hr44 hv50 _ _ _ S49 (hl.sub (And.intro rfl (And.intro rfl (And.intro rfl (And.intro rfl (And.intro rfl (And.intro rfl (And.intro rfl True.intro)))))))) h
              · have h := ite_f h q51
                by_cases q58 : (M (M x0 0) x6) = 5
                · have h := ite_t h q58
                  refine r_tin (tgt := 166) (k := 5) E (S10.1.inR _ _) q58 (Rk_soonestYear_dc.at 31 rfl) (by decide) (by decide) rfl (by decide) ?_
                  refine u_il (x := x5) E (Rk_soonestYear_dc.at 62 rfl) hl rfl ?_
                  refine u_il (x := v6) E (Rk_soonestYear_dc.at 63 rfl) hl rfl ?_
                  refine r_iadd E (Rk_soonestYear_dc.at 64 rfl) ?_
                  obtain ⟨v52, ev52, h⟩ := lt1_e h
                  have hv52 := inR_eq ev52 (inR_w32 _)
                  refine u_ist (y := v52) (vs' := [some (zR G.2.2.1 x0), some (zR G.2.2.1 x1), some (.int (zO x2)), some (.int (zO x3)), some (.int (zO x4)), some (.int (zO v52)), some (.int (zO x6)), some (.int (zO v6)), some (.int (zO r9))]) E ev52 (Rk_soonestYear_dc.at 65 rfl) hl (by decide) rfl (fun ls hl => ?_)
                  refine r_goto (tgt := 197) E (Rk_soonestYear_dc.at 66 rfl) (by decide) ?_
                  refine u_al_n (x := x0) E (Rk_soonestYear_dc.at 76 rfl) hl rfl ?_
                  refine u_gR E zf_5_4 S10 g3 zw_2_36 (Rk_soonestYear_dc.at 77 rfl) ?_
                  refine u_il (x := x6) E (Rk_soonestYear_dc.at 78 rfl) hl rfl ?_
                  refine u_il (x := v52) E (Rk_soonestYear_dc.at 79 rfl) hl rfl ?_
                  obtain ⟨g53, h⟩ := ite_e h
                  obtain ⟨g54, h⟩ := ite_e h
                  obtain ⟨M55, eM55, h⟩ := lt1_e h
                  refine u_iast E eM55 S10 g53 g54 hv52 (Rk_soonestYear_dc.at 80 rfl) (fun H locs S56 => ?_)
                  obtain ⟨v57, ev57, h⟩ := lt1_e h
                  have hv57 := inR_eq ev57 (inR_w32 _)
                  refine u_iinc (y := v57) (vs' := [some (zR G.2.2.1 x0), some (zR G.2.2.1 x1), some (.int (zO x2)), some (.int (zO x3)), some (.int (zO x4)), some (.int (zO v52)), some (.int (zO v57)), some (.int (zO v6)), some (.int (zO r9))]) E ev57 (Rk_soonestYear_dc.at 81 rfl) hl rfl (by decide) rfl (fun ls hl => ?_)
                  refine r_goto (tgt := 12) E (Rk_soonestYear_dc.at 82 rfl) (by decide) ?_
                  exact hk12 _ x0 x1 x2 x3 x4 v52 v57 hx0 hx1 hx2 hx3 hx4 hv52 hv57 _ _ _ S56 (hl.sub (And.intro rfl (And.intro rfl (And.intro rfl (And.intro rfl (And.intro rfl (And.intro rfl (And.intro rfl True.intro)))))))) h
                · have h := ite_f h q58
                  by_cases q65 : (M (M x0 0) x6) = 6
                  · have h := ite_t h q65
                    refine r_tin (tgt := 176) (k := 6) E (S10.1.inR _ _) q65 (Rk_soonestYear_dc.at 31 rfl) (by decide) (by decide) rfl (by decide) ?_
                    refine u_il (x := r9) E (Rk_soonestYear_dc.at 67 rfl) hl rfl ?_
                    refine u_il (x := x5) E (Rk_soonestYear_dc.at 68 rfl) hl rfl ?_
                    refine r_max (rest := []) E hr9 hx5 hl.size zw_5_5 zw_4_56 zw_1_17 zw_4_57 (by decide) (by simp [zR_cat, zcat_I, zcat_J, zcat_S, zrm]) ⟨Nat.zero_le _, Nat.zero_le _⟩ (Rk_soonestYear_dc.at 69 rfl) ?_
                    obtain ⟨v59, ev59, h⟩ := lt1_e h
                    have hv59 := inR_eq ev59 (inR_max hr9 hx5)
                    refine u_ist (y := v59) (vs' := [some (zR G.2.2.1 x0), some (zR G.2.2.1 x1), some (.int (zO x2)), some (.int (zO x3)), some (.int (zO x4)), some (.int (zO v59)), some (.int (zO x6)), some (.int (zO v6)), some (.int (zO r9))]) E ev59 (Rk_soonestYear_dc.at 70 rfl) hl (by decide) rfl (fun ls hl => ?_)
                    refine r_goto (tgt := 197) E (Rk_soonestYear_dc.at 71 rfl) (by decide) ?_
                    refine u_al_n (x := x0) E (Rk_soonestYear_dc.at 76 rfl) hl rfl ?_
                    refine u_gR E zf_5_4 S10 g3 zw_2_36 (Rk_soonestYear_dc.at 77 rfl) ?_
                    refine u_il (x := x6) E (Rk_soonestYear_dc.at 78 rfl) hl rfl ?_
                    refine u_il (x := v59) E (Rk_soonestYear_dc.at 79 rfl) hl rfl ?_
                    obtain ⟨g60, h⟩ := ite_e h
                    obtain ⟨g61, h⟩ := ite_e h
                    obtain ⟨M62, eM62, h⟩ := lt1_e h
                    refine u_iast E eM62 S10 g60 g61 hv59 (Rk_soonestYear_dc.at 80 rfl) (fun H locs S63 => ?_)
                    obtain ⟨v64, ev64, h⟩ := lt1_e h
                    have hv64 := inR_eq ev64 (inR_w32 _)
                    refine u_iinc (y := v64) (vs' := [some (zR G.2.2.1 x0), some (zR G.2.2.1 x1), some (.int (zO x2)), some (.int (zO x3)), some (.int (zO x4)), some (.int (zO v59)), some (.int (zO v64)), some (.int (zO v6)), some (.int (zO r9))]) E ev64 (Rk_soonestYear_dc.at 81 rfl) hl rfl (by decide) rfl (fun ls hl => ?_)
                    refine r_goto (tgt := 12) E (Rk_soonestYear_dc.at 82 rfl) (by decide) ?_
                    exact hk12 _ x0 x1 x2 x3 x4 v59 v64 hx0 hx1 hx2 hx3 hx4 hv59 hv64 _ _ _ S63 (hl.sub (And.intro rfl (And.intro rfl (And.intro rfl (And.intro rfl (And.intro rfl (And.intro rfl (And.intro rfl True.intro)))))))) h
                  · have h := ite_f h q65
                    refine r_tout (tgt := 188) E (S10.1.inR _ _) (by omega) (Rk_soonestYear_dc.at 31 rfl) (by decide) ?_
                    refine u_il (x := r9) E (Rk_soonestYear_dc.at 72 rfl) hl rfl ?_
                    refine u_il (x := x5) E (Rk_soonestYear_dc.at 73 rfl) hl rfl ?_
                    refine r_min (rest := []) E hr9 hx5 hl.size zw_4_226 zw_4_47 zw_1_17 zw_4_48 (by decide) (by simp [zR_cat, zcat_I, zcat_J, zcat_S, zrm]) ⟨Nat.zero_le _, Nat.zero_le _⟩ (Rk_soonestYear_dc.at 74 rfl) ?_
                    obtain ⟨v66, ev66, h⟩ := lt1_e h
                    have hv66 := inR_eq ev66 (inR_min hr9 hx5)
                    refine u_ist (y := v66) (vs' := [some (zR G.2.2.1 x0), some (zR G.2.2.1 x1), some (.int (zO x2)), some (.int (zO x3)), some (.int (zO x4)), some (.int (zO v66)), some (.int (zO x6)), some (.int (zO v6)), some (.int (zO r9))]) E ev66 (Rk_soonestYear_dc.at 75 rfl) hl (by decide) rfl (fun ls hl => ?_)
                    refine u_al_n (x := x0) E (Rk_soonestYear_dc.at 76 rfl) hl rfl ?_
                    refine u_gR E zf_5_4 S10 g3 zw_2_36 (Rk_soonestYear_dc.at 77 rfl) ?_
                    refine u_il (x := x6) E (Rk_soonestYear_dc.at 78 rfl) hl rfl ?_
                    refine u_il (x := v66) E (Rk_soonestYear_dc.at 79 rfl) hl rfl ?_
                    obtain ⟨g67, h⟩ := ite_e h
                    obtain ⟨g68, h⟩ := ite_e h
                    obtain ⟨M69, eM69, h⟩ := lt1_e h
                    refine u_iast E eM69 S10 g67 g68 hv66 (Rk_soonestYear_dc.at 80 rfl) (fun H locs S70 => ?_)
                    obtain ⟨v71, ev71, h⟩ := lt1_e h
                    have hv71 := inR_eq ev71 (inR_w32 _)
                    refine u_iinc (y := v71) (vs' := [some (zR G.2.2.1 x0), some (zR G.2.2.1 x1), some (.int (zO x2)), some (.int (zO x3)), some (.int (zO x4)), some (.int (zO v66)), some (.int (zO v71)), some (.int (zO v6)), some (.int (zO r9))]) E ev71 (Rk_soonestYear_dc.at 81 rfl) hl rfl (by decide) rfl (fun ls hl => ?_)
                    refine r_goto (tgt := 12) E (Rk_soonestYear_dc.at 82 rfl) (by decide) ?_
                    exact hk12 _ x0 x1 x2 x3 x4 v66 v71 hx0 hx1 hx2 hx3 hx4 hv66 hv71 _ _ _ S70 (hl.sub (And.intro rfl (And.intro rfl (And.intro rfl (And.intro rfl (And.intro rfl (And.intro rfl (And.intro rfl True.intro)))))))) h
    · have h := ite_f h q
      refine u_il (x := x5) E (Rk_soonestYear_dc.at 83 rfl) hl rfl ?_
      refine u_il (x := x4) E (Rk_soonestYear_dc.at 84 rfl) hl rfl ?_
      refine r_max (rest := []) E hx5 hx4 hl.size zw_5_5 zw_4_56 zw_1_17 zw_4_57 (by decide) (by simp [zR_cat, zcat_I, zcat_J, zcat_S, zrm]) ⟨Nat.zero_le _, Nat.zero_le _⟩ (Rk_soonestYear_dc.at 85 rfl) ?_
      cases h
      exact r_iret E S (inR_max hx5 hx4) (Rk_soonestYear_dc.at 86 rfl)
  · have h := ite_f h q
    refine u_il (x := x5) E (Rk_soonestYear_dc.at 83 rfl) hl rfl ?_
    refine u_il (x := x4) E (Rk_soonestYear_dc.at 84 rfl) hl rfl ?_
    refine r_max (rest := []) E hx5 hx4 hl.size zw_5_5 zw_4_56 zw_1_17 zw_4_57 (by decide) (by simp [zR_cat, zcat_I, zcat_J, zcat_S, zrm]) ⟨Nat.zero_le _, Nat.zero_le _⟩ (Rk_soonestYear_dc.at 85 rfl) ?_
    cases h
    exact r_iret E S (inR_max hx5 hx4) (Rk_soonestYear_dc.at 86 rfl)
theorem Rk_soonestYear_l12_w (E : zEv p m c cX5_soonestYear 9 s args RX5 meth (some .int) G) {res : (zM × Int)} : ∀ (n : Nat) (M : zM) (x0 : Int) (x1 : Int) (x2 : Int) (x3 : Int) (x4 : Int) (x5 : Int) (x6 : Int), InR x0 → InR x1 → InR x2 → InR x3 → InR x4 → InR x5 → InR x6 → ∀ (H : Heap) (locs : List Loc) (ls : Array Slot), zS G top L M s H locs → zLV ls 9 [some (zR G.2.2.1 x0), some (zR G.2.2.1 x1), some (.int (zO x2)), some (.int (zO x3)), some (.int (zO x4)), some (.int (zO x5)), some (.int (zO x6)), none, none] → Rk_soonestYear_l12 fu L n M x0 x1 x2 x3 x4 x5 x6 = some res → W p l e (zrm 3 0 0) s m args below meth c H locs 0 0 (MQ below (zQ G top L res.1 (some (.int (zO res.2))) (InR res.2)) args s 0 0 (zA G)) (F0 m 12 ls [])
  | 0, _, _, _, _, _, _, _, _ => fun _ _ _ _ _ _ _ _ _ _ _ _ h => (by cases h)
  | n + 1, M, x0, x1, x2, x3, x4, x5, x6 => fun hx0 hx1 hx2 hx3 hx4 hx5 hx6 H locs ls S hl h => Rk_soonestYear_s12_w E (fun M x0 x1 x2 x3 x4 x5 x6 hx0 hx1 hx2 hx3 hx4 hx5 hx6 H locs ls S hl h => Rk_soonestYear_l12_w E n M x0 x1 x2 x3 x4 x5 x6 hx0 hx1 hx2 hx3 hx4 hx5 hx6 H locs ls S hl h) hx0 hx1 hx2 hx3 hx4 hx5 hx6 S hl h
theorem Rk_soonestYear_w (E : zEv p m c cX5_soonestYear 9 s args RX5 meth (some .int) G) {res : (zM × Int)} {M : zM} {a0 : Int} {a1 : Int} {a2 : Int} {a3 : Int} {H : Heap} {locs : List Loc} {ls : Array Slot} (ha0 : InR a0) (ha1 : InR a1) (ha2 : InR a2) (ha3 : InR a3) (S : zS G top L M s H locs) (hl : zLV ls 9 [some (zR G.2.2.1 a0), some (zR G.2.2.1 a1), some (.int (zO a2)), some (.int (zO a3)), none, none, none, none, none]) (h : Rk_soonestYear fu L M a0 a1 a2 a3 = some res) : W p l e (zrm 3 0 0) s m args below meth c H locs 0 0 (MQ below (zQ G top L res.1 (some (.int (zO res.2))) (InR res.2)) args s 0 0 (zA G)) (F0 m 0 ls []) := by
  unfold Rk_soonestYear at h
  refine u_il_n (x := a2) E (Rk_soonestYear_dc.at 0 rfl) hl rfl ?_
  obtain ⟨r1, er1, h⟩ := bd1_e h
  refine u_cSI (As := [.int (zO a2)]) (rest := []) E S zcw_yX5_bornSoonest zw_5_217 zw_5_216 (Rk_bornSoonest_c l G fu top L M a2 ha2 er1) (zrm_ok (by decide) (by decide)) ⟨Nat.le_refl 0, Nat.le_refl 0⟩ rfl (Nat.zero_le 8) hl.size rfl (Rk_soonestYear_dc.at 1 rfl) (fun H locs hr1 S2 => ?_)
  refine u_ist (y := r1) (vs' := [some (zR G.2.2.1 a0), some (zR G.2.2.1 a1), some (.int (zO a2)), some (.int (zO a3)), some (.int (zO r1)), none, none, none, none]) E rfl (Rk_soonestYear_dc.at 2 rfl) hl (by decide) rfl (fun ls hl => ?_)
  refine r_iconst E (Rk_soonestYear_dc.at 3 rfl) ?_
  refine u_ist (y := 0) (vs' := [some (zR G.2.2.1 a0), some (zR G.2.2.1 a1), some (.int (zO a2)), some (.int (zO a3)), some (.int (zO r1)), some (.int (zO 0)), none, none, none]) E rfl (Rk_soonestYear_dc.at 4 rfl) hl (by decide) rfl (fun ls hl => ?_)
  refine r_iconst E (Rk_soonestYear_dc.at 5 rfl) ?_
  refine u_ist (y := 0) (vs' := [some (zR G.2.2.1 a0), some (zR G.2.2.1 a1), some (.int (zO a2)), some (.int (zO a3)), some (.int (zO r1)), some (.int (zO 0)), some (.int (zO 0)), none, none]) E rfl (Rk_soonestYear_dc.at 6 rfl) hl (by decide) rfl (fun ls hl => ?_)
  exact Rk_soonestYear_l12_w E fu _ a0 a1 a2 a3 r1 0 0 ha0 ha1 ha2 ha3 hr1 (show InR 0 by decide) (show InR 0 by decide) _ _ _ S2 (hl.sub (And.intro rfl (And.intro rfl (And.intro rfl (And.intro rfl (And.intro rfl (And.intro rfl (And.intro rfl True.intro)))))))) h
theorem Rk_soonestYear_c (l : Launch) (G : zG) (fu : Nat) (top : Int) (L : zL) (M : zM) (a0 : Int) (a1 : Int) (a2 : Int) (a3 : Int) {res : (zM × Int)} (ha0 : InR a0) (ha1 : InR a1) (ha2 : InR a2) (ha3 : InR a3) (h : Rk_soonestYear fu L M a0 a1 a2 a3 = some res) : Met l yX5_soonestYear (Cond.code yX5_soonestYear cX5_soonestYear 9 (some .int) :: zTB) (zrm 3 0 0) (va_Pc [zR G.2.2.1 a0, zR G.2.2.1 a1, .int (zO a2), .int (zO a3)] (zPre G top L M)) (zQ G top L res.1 (some (.int (zO res.2))) (InR res.2)) 0 0 (zA G) :=
  z_met (by decide +kernel) (by simp [zR_cat, zcat_I, zcat_S]) (Nat.le_of_ble_eq_true rfl) fun p e s m below meth c ls E hn S hl => Rk_soonestYear_w E ha0 ha1 ha2 ha3 S (hl.sub (And.intro rfl (And.intro rfl (And.intro rfl (And.intro rfl True.intro))))) h
end
