theorem Mo_course_dc : zDL cX12_course [(0, .aload_n 0, 1, 1), (1, .iconst 0, 1, 2), (2, .putfield 66, 3, 5), (5, .aload_n 0, 1, 6), (6, .iload_n 1, 1, 7), (7, .iload_n 2, 1, 8), (8, .iload_n 3, 1, 9), (9, .invokevirtual 533, 3, 12), (12, .ifCond .eq 12, 3, 15), (15, .aload_n 0, 1, 16), (16, .iload 4, 2, 18), (18, .invokevirtual 565, 3, 21), (21, .ifCond .ne 7, 3, 24), (24, .ldc_w 318, 3, 27), (27, .ireturn, 1, 28), (28, .aload_n 0, 1, 29), (29, .iload_n 1, 1, 30), (30, .iload_n 2, 1, 31), (31, .iload_n 3, 1, 32), (32, .invokevirtual 537, 3, 35), (35, .ifCond .ne 6, 3, 38), (38, .bipush (-3), 2, 40), (40, .ireturn, 1, 41), (41, .aload_n 0, 1, 42), (42, .iload_n 2, 1, 43), (43, .iload_n 3, 1, 44), (44, .iload 4, 2, 46), (46, .invokevirtual 568, 3, 49), (49, .istore 5, 2, 51), (51, .iload 5, 2, 53), (53, .ldc_w 389, 3, 56), (56, .if_icmp .ne 7, 3, 59), (59, .iconst (-1), 1, 60), (60, .goto 18, 3, 63), (63, .iload 5, 2, 65), (65, .ldc_w 385, 3, 68), (68, .if_icmp .ne 8, 3, 71), (71, .bipush (-2), 2, 73), (73, .goto 5, 3, 76), (76, .iload 5, 2, 78), (78, .ireturn, 1, 79)] := zDL.of (by decide +kernel)
section
variable {p : Program} {l : Launch} {e : Env} {s : State} {m : MethodId} {args : Array Value} {below : List Frame} {meth : Method} {c : Code} {G : zG} {top : Int} {L : zL} {fu : Nat}
theorem Mo_course_w (E : zEv p m c cX12_course 6 s args RX12 meth (some .int) G) {res : (zM × Int)} {M : zM} {a0 : Int} {a1 : Int} {a2 : Int} {a3 : Int} {a4 : Int} {H : Heap} {locs : List Loc} {ls : Array Slot} (ha0 : InR a0) (ha1 : InR a1) (ha2 : InR a2) (ha3 : InR a3) (ha4 : InR a4) (S : zS G top L M s H locs) (hl : zLV ls 6 [some (zR G.2.2.1 a0), some (.int (zO a1)), some (.int (zO a2)), some (.int (zO a3)), some (.int (zO a4)), none]) (h : Mo_course fu L M a0 a1 a2 a3 a4 = some res) : W p l e (zrm 47 0 0) s m args below meth c H locs 0 0 (MQ below (zQ G top L res.1 (some (.int (zO res.2))) (InR res.2)) args s 0 0 (zA G)) (F0 m 0 ls []) := by
  unfold Mo_course at h
  refine u_al_n (x := a0) E (Mo_course_dc.at 0 rfl) hl rfl ?_
  refine r_iconst E (Mo_course_dc.at 1 rfl) ?_
  obtain ⟨g1, h⟩ := ite_e h
  obtain ⟨M2, eM2, h⟩ := lt1_e h
  refine u_pI E eM2 zf_12_0 S g1 (show InR 0 by decide) (Or.inl rfl) rfl zw_6_207 (Mo_course_dc.at 2 rfl) (fun H locs S3 => ?_)
  refine u_al_n (x := a0) E (Mo_course_dc.at 3 rfl) hl rfl ?_
  refine u_il_n (x := a1) E (Mo_course_dc.at 4 rfl) hl rfl ?_
  refine u_il_n (x := a2) E (Mo_course_dc.at 5 rfl) hl rfl ?_
  refine u_il_n (x := a3) E (Mo_course_dc.at 6 rfl) hl rfl ?_
  obtain ⟨r4, er4, h⟩ := bd1_e h
  refine u_cVI (As := [.int (zO a1), .int (zO a2), .int (zO a3)]) (rest := []) E S3 zcw_yX12_isAsked zw_9_145 zq_8_11 zw_9_143 zck_12.1 rfl g1 (Mo_isAsked_c l G fu top L M2 a0 a1 a2 a3 ha0 ha1 ha2 ha3 er4) (zrm_ok (by decide) (by decide)) ⟨Nat.le_refl 0, Nat.le_refl 0⟩ rfl (Nat.zero_le 8) hl.size rfl (Mo_course_dc.at 7 rfl) (fun H locs hr4 S5 => ?_)
  refine r_if_eq (tgt := 24) E (inR_01 hr4) (Mo_course_dc.at 8 rfl) (by decide) (fun q => ?_) (fun q => ?_)
  · have h := ite_t h q
    refine r_ldcw (n := (-1000000)) E (Mo_course_dc.at 13 rfl) zw_8_134 rfl ?_
    cases h
    exact r_iret E S5 (show InR (-1000000) by decide) (Mo_course_dc.at 14 rfl)
  · have h := ite_f h q
    refine u_al_n (x := a0) E (Mo_course_dc.at 9 rfl) hl rfl ?_
    refine u_il (x := a4) E (Mo_course_dc.at 10 rfl) hl rfl ?_
    obtain ⟨r6, er6, h⟩ := bd1_e h
    refine u_cVI (As := [.int (zO a4)]) (rest := []) E S5 zcw_yX12_isCourse zw_9_194 zq_9_2 zw_9_192 zck_12.1 rfl g1 (Mo_isCourse_c l G fu top L M2 a0 a4 ha0 ha4 er6) (zrm_ok (by decide) (by decide)) ⟨Nat.le_refl 0, Nat.le_refl 0⟩ rfl (Nat.zero_le 8) hl.size rfl (Mo_course_dc.at 11 rfl) (fun H locs hr6 S7 => ?_)
    refine r_if_ne (tgt := 28) E (inR_01 hr6) (Mo_course_dc.at 12 rfl) (by decide) (fun q => ?_) (fun q => ?_)
    · have h := ite_t h q
      refine r_ldcw (n := (-1000000)) E (Mo_course_dc.at 13 rfl) zw_8_134 rfl ?_
      cases h
      exact r_iret E S7 (show InR (-1000000) by decide) (Mo_course_dc.at 14 rfl)
    · have h := ite_f h q
      refine u_al_n (x := a0) E (Mo_course_dc.at 15 rfl) hl rfl ?_
      refine u_il_n (x := a1) E (Mo_course_dc.at 16 rfl) hl rfl ?_
      refine u_il_n (x := a2) E (Mo_course_dc.at 17 rfl) hl rfl ?_
      refine u_il_n (x := a3) E (Mo_course_dc.at 18 rfl) hl rfl ?_
      obtain ⟨M9, r8, er8, h⟩ := bd2_e h
      refine u_cVI (As := [.int (zO a1), .int (zO a2), .int (zO a3)]) (rest := []) E S7 zcw_yX12_isThereNow zw_9_149 zq_8_12 zw_9_147 zck_12.1 rfl g1 (Mo_isThereNow_c l G fu top L M2 a0 a1 a2 a3 ha0 ha1 ha2 ha3 er8) (zrm_ok (by decide) (by decide)) ⟨Nat.le_refl 0, Nat.le_refl 0⟩ rfl (Nat.zero_le 8) hl.size rfl (Mo_course_dc.at 19 rfl) (fun H locs hr8 S10 => ?_)
      refine r_if_ne (tgt := 41) E (inR_01 hr8) (Mo_course_dc.at 20 rfl) (by decide) (fun q => ?_) (fun q => ?_)
      · have h := ite_t h q
        refine r_bipush E (Mo_course_dc.at 21 rfl) rfl ?_
        cases h
        exact r_iret E S10 (show InR (-3) by decide) (Mo_course_dc.at 22 rfl)
      · have h := ite_f h q
        refine u_al_n (x := a0) E (Mo_course_dc.at 23 rfl) hl rfl ?_
        refine u_il_n (x := a2) E (Mo_course_dc.at 24 rfl) hl rfl ?_
        refine u_il_n (x := a3) E (Mo_course_dc.at 25 rfl) hl rfl ?_
        refine u_il (x := a4) E (Mo_course_dc.at 26 rfl) hl rfl ?_
        obtain ⟨M12, r11, er11, h⟩ := bd2_e h
        refine u_cVI (As := [.int (zO a2), .int (zO a3), .int (zO a4)]) (rest := []) E S10 zcw_yX12_vestsBy zw_9_199 zq_9_3 zw_9_197 zck_12.1 rfl g1 (Mo_vestsBy_c l G fu top L M9 a0 a2 a3 a4 ha0 ha2 ha3 ha4 er11) (zrm_ok (by decide) (by decide)) ⟨Nat.le_refl 0, Nat.le_refl 0⟩ rfl (Nat.zero_le 8) hl.size rfl (Mo_course_dc.at 27 rfl) (fun H locs hr11 S13 => ?_)
        refine u_ist (y := r11) (vs' := [some (zR G.2.2.1 a0), some (.int (zO a1)), some (.int (zO a2)), some (.int (zO a3)), some (.int (zO a4)), some (.int (zO r11))]) E rfl (Mo_course_dc.at 28 rfl) hl (by decide) rfl (fun ls hl => ?_)
        refine u_il (x := r11) E (Mo_course_dc.at 29 rfl) hl rfl ?_
        refine r_ldcw (n := 1048576) E (Mo_course_dc.at 30 rfl) zw_8_202 rfl ?_
        refine r_icmp_ne (tgt := 63) E hr11 (show InR 1048576 by decide) (Mo_course_dc.at 31 rfl) (by decide) (fun q => ?_) (fun q => ?_)
        · have h := ite_t h q
          refine r_iconst E (Mo_course_dc.at 32 rfl) ?_
          refine r_goto (tgt := 78) E (Mo_course_dc.at 33 rfl) (by decide) ?_
          cases h
          exact r_iret E S13 (show InR (-1) by decide) (Mo_course_dc.at 40 rfl)
        · have h := ite_f h q
          refine u_il (x := r11) E (Mo_course_dc.at 34 rfl) hl rfl ?_
          refine r_ldcw (n := 2097152) E (Mo_course_dc.at 35 rfl) zw_8_235 rfl ?_
          refine r_icmp_ne (tgt := 76) E hr11 (show InR 2097152 by decide) (Mo_course_dc.at 36 rfl) (by decide) (fun q => ?_) (fun q => ?_)
          · have h := ite_t h q
            refine r_bipush E (Mo_course_dc.at 37 rfl) rfl ?_
            refine r_goto (tgt := 78) E (Mo_course_dc.at 38 rfl) (by decide) ?_
            cases h
            exact r_iret E S13 (show InR (-2) by decide) (Mo_course_dc.at 40 rfl)
          · have h := ite_f h q
            refine u_il (x := r11) E (Mo_course_dc.at 39 rfl) hl rfl ?_
            cases h
            exact r_iret E S13 hr11 (Mo_course_dc.at 40 rfl)
theorem Mo_course_c (l : Launch) (G : zG) (fu : Nat) (top : Int) (L : zL) (M : zM) (a0 : Int) (a1 : Int) (a2 : Int) (a3 : Int) (a4 : Int) {res : (zM × Int)} (ha0 : InR a0) (ha1 : InR a1) (ha2 : InR a2) (ha3 : InR a3) (ha4 : InR a4) (h : Mo_course fu L M a0 a1 a2 a3 a4 = some res) : Met l yX12_course (Cond.code yX12_course cX12_course 6 (some .int) :: zTB) (zrm 47 0 0) (va_Pc [zR G.2.2.1 a0, .int (zO a1), .int (zO a2), .int (zO a3), .int (zO a4)] (zPre G top L M)) (zQ G top L res.1 (some (.int (zO res.2))) (InR res.2)) 0 0 (zA G) :=
  z_met (by decide +kernel) (by simp [zR_cat, zcat_I, zcat_S]) (Nat.le_of_ble_eq_true rfl) fun p e s m below meth c ls E hn S hl => Mo_course_w E ha0 ha1 ha2 ha3 ha4 S (hl.sub (And.intro rfl (And.intro rfl (And.intro rfl (And.intro rfl (And.intro rfl True.intro)))))) h
end
theorem Mo_isLate_dc : zDL cX12_isLate [(0, .aload_n 0, 1, 1), (1, .getfield 31, 3, 4), (4, .bipush 74, 2, 6), (6, .iaload, 1, 7), (7, .iload_n 2, 1, 8), (8, .sipush 255, 3, 11), (11, .iand, 1, 12), (12, .aload_n 0, 1, 13), (13, .invokevirtual 524, 3, 16), (16, .if_icmp .ne 7, 3, 19), (19, .iconst 1, 1, 20), (20, .goto 5, 3, 23), (23, .bipush 60, 2, 25), (25, .iadd, 1, 26), (26, .istore 4, 2, 28), (28, .iconst 0, 1, 29), (29, .istore 5, 2, 31), (31, .iload 5, 2, 33), (33, .bipush 24, 2, 35), (35, .if_icmp .ge 74, 3, 38), (38, .iload 5, 2, 40), (40, .bipush 8, 2, 42), (42, .irem, 1, 43), (43, .aload_n 0, 1, 44), (44, .getfield 251, 3, 47), (47, .if_icmp .ge 56, 3, 50), (50, .aload_n 0, 1, 51), (51, .iload_n 1, 1, 52), (52, .iload 5, 2, 54), (54, .bipush 8, 2, 56), (56, .idiv, 1, 57), (57, .iload 5, 2, 59), (59, .bipush 8, 2, 61), (61, .irem, 1, 62), (62, .iload_n 3, 1, 63), (63, .invokevirtual 514, 3, 66), (66, .ifCond .eq 37, 3, 69), (69, .aload_n 0, 1, 70), (70, .iload 5, 2, 72), (72, .bipush 8, 2, 74), (74, .idiv, 1, 75), (75, .iload 5, 2, 77), (77, .bipush 8, 2, 79), (79, .irem, 1, 80), (80, .iload_n 2, 1, 81), (81, .invokevirtual 568, 3, 84), (84, .istore 6, 2, 86), (86, .iload 6, 2, 88), (88, .ldc_w 389, 3, 91), (91, .if_icmp .ge 12, 3, 94), (94, .iload 6, 2, 96), (96, .iload 4, 2, 98), (98, .if_icmp .le 5, 3, 101), (101, .iconst 1, 1, 102), (102, .ireturn, 1, 103), (103, .iinc 5 1, 3, 106), (106, .goto (-75), 3, 109), (109, .iconst 0, 1, 110), (110, .ireturn, 1, 111)] := zDL.of (by decide +kernel)
section
variable {p : Program} {l : Launch} {e : Env} {s : State} {m : MethodId} {args : Array Value} {below : List Frame} {meth : Method} {c : Code} {G : zG} {top : Int} {L : zL} {fu : Nat}
theorem Mo_isLate_s31_w (E : zEv p m c cX12_isLate 7 s args RX12 meth (some .boolean) G) {res : (zM × Int)} {k31 : zM → Int → Int → Int → Int → Int → Int → Option (zM × Int)} (hk31 : ∀ (M : zM) (x0 : Int) (x1 : Int) (x2 : Int) (x3 : Int) (x4 : Int) (x5 : Int), InR x0 → InR x1 → InR x2 → InR x3 → InR x4 → InR x5 → ∀ (H : Heap) (locs : List Loc) (ls : Array Slot), zS G top L M s H locs → zLV ls 7 [some (zR G.2.2.1 x0), some (.int (zO x1)), some (.int (zO x2)), some (.int (zO x3)), some (.int (zO x4)), some (.int (zO x5)), none] → k31 M x0 x1 x2 x3 x4 x5 = some res → W p l e (zrm 47 0 0) s m args below meth c H locs 0 0 (MQ below (zQ G top L res.1 (some (.int (zO res.2))) (0 ≤ res.2 ∧ res.2 ≤ 1)) args s 0 0 (zA G)) (F0 m 31 ls [])) {M : zM} {x0 : Int} {x1 : Int} {x2 : Int} {x3 : Int} {x4 : Int} {x5 : Int} {H : Heap} {locs : List Loc} {ls : Array Slot} (hx0 : InR x0) (hx1 : InR x1) (hx2 : InR x2) (hx3 : InR x3) (hx4 : InR x4) (hx5 : InR x5) (S : zS G top L M s H locs) (hl : zLV ls 7 [some (zR G.2.2.1 x0), some (.int (zO x1)), some (.int (zO x2)), some (.int (zO x3)), some (.int (zO x4)), some (.int (zO x5)), none]) (h : Mo_isLate_s31 fu k31 L M x0 x1 x2 x3 x4 x5 = some res) : W p l e (zrm 47 0 0) s m args below meth c H locs 0 0 (MQ below (zQ G top L res.1 (some (.int (zO res.2))) (0 ≤ res.2 ∧ res.2 ≤ 1)) args s 0 0 (zA G)) (F0 m 31 ls []) := by
  unfold Mo_isLate_s31 at h
  refine u_il (x := x5) E (Mo_isLate_dc.at 17 rfl) hl rfl ?_
  refine r_bipush E (Mo_isLate_dc.at 18 rfl) rfl ?_
  refine r_icmp_ge (tgt := 109) E hx5 (show InR 24 by decide) (Mo_isLate_dc.at 19 rfl) (by decide) (fun q => ?_) (fun q => ?_)
  · have h := ite_t h q
    refine u_il (x := x5) E (Mo_isLate_dc.at 20 rfl) hl rfl ?_
    refine r_bipush E (Mo_isLate_dc.at 21 rfl) rfl ?_
    refine r_irem E hx5 (show InR 8 by decide) (by decide) (Mo_isLate_dc.at 22 rfl) ?_
    refine u_al_n (x := x0) E (Mo_isLate_dc.at 23 rfl) hl rfl ?_
    obtain ⟨g7, h⟩ := ite_e h
    refine u_gI E zf_12_20 S g7 zw_6_227 (Mo_isLate_dc.at 24 rfl) ?_
    refine r_icmp_ge (tgt := 103) E (inR_w32 _) (S.1.inR _ _) (Mo_isLate_dc.at 25 rfl) (by decide) (fun q => ?_) (fun q => ?_)
    · have h := ite_t h q
      refine u_al_n (x := x0) E (Mo_isLate_dc.at 26 rfl) hl rfl ?_
      refine u_il_n (x := x1) E (Mo_isLate_dc.at 27 rfl) hl rfl ?_
      refine u_il (x := x5) E (Mo_isLate_dc.at 28 rfl) hl rfl ?_
      refine r_bipush E (Mo_isLate_dc.at 29 rfl) rfl ?_
      refine r_idiv E hx5 (show InR 8 by decide) (by decide) (Mo_isLate_dc.at 30 rfl) ?_
      refine u_il (x := x5) E (Mo_isLate_dc.at 31 rfl) hl rfl ?_
      refine r_bipush E (Mo_isLate_dc.at 32 rfl) rfl ?_
      refine r_irem E hx5 (show InR 8 by decide) (by decide) (Mo_isLate_dc.at 33 rfl) ?_
      refine u_il_n (x := x3) E (Mo_isLate_dc.at 34 rfl) hl rfl ?_
      obtain ⟨r8, er8, h⟩ := bd1_e h
      refine u_cVI (As := [.int (zO x1), .int (zO (w32 (Int.tdiv x5 8))), .int (zO (w32 (Int.tmod x5 8))), .int (zO x3)]) (rest := []) E S zcw_yX12_isThere zw_9_99 zq_8_2 zw_9_97 zck_12.1 rfl g7 (Mo_isThere_c l G fu top L M x0 x1 (w32 (Int.tdiv x5 8)) (w32 (Int.tmod x5 8)) x3 hx0 hx1 (inR_w32 _) (inR_w32 _) hx3 er8) (zrm_ok (by decide) (by decide)) ⟨Nat.le_refl 0, Nat.le_refl 0⟩ rfl (Nat.zero_le 8) hl.size rfl (Mo_isLate_dc.at 35 rfl) (fun H locs hr8 S9 => ?_)
      refine r_if_eq (tgt := 103) E (inR_01 hr8) (Mo_isLate_dc.at 36 rfl) (by decide) (fun q => ?_) (fun q => ?_)
      · have h := ite_t h q
        obtain ⟨v10, ev10, h⟩ := lt1_e h
        have hv10 := inR_eq ev10 (inR_w32 _)
        refine u_iinc (y := v10) (vs' := [some (zR G.2.2.1 x0), some (.int (zO x1)), some (.int (zO x2)), some (.int (zO x3)), some (.int (zO x4)), some (.int (zO v10)), none]) E ev10 (Mo_isLate_dc.at 55 rfl) hl rfl (by decide) rfl (fun ls hl => ?_)
        refine r_goto (tgt := 31) E (Mo_isLate_dc.at 56 rfl) (by decide) ?_
        exact hk31 _ x0 x1 x2 x3 x4 v10 hx0 hx1 hx2 hx3 hx4 hv10 _ _ _ S9 (hl.sub (And.intro rfl (And.intro rfl (And.intro rfl (And.intro rfl (And.intro rfl (And.intro rfl True.intro))))))) h
      · have h := ite_f h q
        refine u_al_n (x := x0) E (Mo_isLate_dc.at 37 rfl) hl rfl ?_
        refine u_il (x := x5) E (Mo_isLate_dc.at 38 rfl) hl rfl ?_
        refine r_bipush E (Mo_isLate_dc.at 39 rfl) rfl ?_
        refine r_idiv E hx5 (show InR 8 by decide) (by decide) (Mo_isLate_dc.at 40 rfl) ?_
        refine u_il (x := x5) E (Mo_isLate_dc.at 41 rfl) hl rfl ?_
        refine r_bipush E (Mo_isLate_dc.at 42 rfl) rfl ?_
        refine r_irem E hx5 (show InR 8 by decide) (by decide) (Mo_isLate_dc.at 43 rfl) ?_
        refine u_il_n (x := x2) E (Mo_isLate_dc.at 44 rfl) hl rfl ?_
        obtain ⟨M12, r11, er11, h⟩ := bd2_e h
        refine u_cVI (As := [.int (zO (w32 (Int.tdiv x5 8))), .int (zO (w32 (Int.tmod x5 8))), .int (zO x2)]) (rest := []) E S9 zcw_yX12_vestsBy zw_9_199 zq_9_3 zw_9_197 zck_12.1 rfl g7 (Mo_vestsBy_c l G fu top L M x0 (w32 (Int.tdiv x5 8)) (w32 (Int.tmod x5 8)) x2 hx0 (inR_w32 _) (inR_w32 _) hx2 er11) (zrm_ok (by decide) (by decide)) ⟨Nat.le_refl 0, Nat.le_refl 0⟩ rfl (Nat.zero_le 8) hl.size rfl (Mo_isLate_dc.at 45 rfl) (fun H locs hr11 S13 => ?_)
        refine u_ist (y := r11) (vs' := [some (zR G.2.2.1 x0), some (.int (zO x1)), some (.int (zO x2)), some (.int (zO x3)), some (.int (zO x4)), some (.int (zO x5)), some (.int (zO r11))]) E rfl (Mo_isLate_dc.at 46 rfl) hl (by decide) rfl (fun ls hl => ?_)
        refine u_il (x := r11) E (Mo_isLate_dc.at 47 rfl) hl rfl ?_
        refine r_ldcw (n := 1048576) E (Mo_isLate_dc.at 48 rfl) zw_8_202 rfl ?_
        refine r_icmp_ge (tgt := 103) E hr11 (show InR 1048576 by decide) (Mo_isLate_dc.at 49 rfl) (by decide) (fun q => ?_) (fun q => ?_)
        · have h := ite_t h q
          refine u_il (x := r11) E (Mo_isLate_dc.at 50 rfl) hl rfl ?_
          refine u_il (x := x4) E (Mo_isLate_dc.at 51 rfl) hl rfl ?_
          refine r_icmp_le (tgt := 103) E hr11 hx4 (Mo_isLate_dc.at 52 rfl) (by decide) (fun q => ?_) (fun q => ?_)
          · have h := ite_t h q
            refine r_iconst E (Mo_isLate_dc.at 53 rfl) ?_
            cases h
            exact r_zret E S13 z01_1 z01_1 (Mo_isLate_dc.at 54 rfl)
          · have h := ite_f h q
            obtain ⟨v14, ev14, h⟩ := lt1_e h
            have hv14 := inR_eq ev14 (inR_w32 _)
            refine u_iinc (y := v14) (vs' := [some (zR G.2.2.1 x0), some (.int (zO x1)), some (.int (zO x2)), some (.int (zO x3)), some (.int (zO x4)), some (.int (zO v14)), some (.int (zO r11))]) E ev14 (Mo_isLate_dc.at 55 rfl) hl rfl (by decide) rfl (fun ls hl => ?_)
            refine r_goto (tgt := 31) E (Mo_isLate_dc.at 56 rfl) (by decide) ?_
            exact hk31 _ x0 x1 x2 x3 x4 v14 hx0 hx1 hx2 hx3 hx4 hv14 _ _ _ S13 (hl.sub (And.intro rfl (And.intro rfl (And.intro rfl (And.intro rfl (And.intro rfl (And.intro rfl True.intro))))))) h
        · have h := ite_f h q
          obtain ⟨v15, ev15, h⟩ := lt1_e h
          have hv15 := inR_eq ev15 (inR_w32 _)
          refine u_iinc (y := v15) (vs' := [some (zR G.2.2.1 x0), some (.int (zO x1)), some (.int (zO x2)), some (.int (zO x3)), some (.int (zO x4)), some (.int (zO v15)), some (.int (zO r11))]) E ev15 (Mo_isLate_dc.at 55 rfl) hl rfl (by decide) rfl (fun ls hl => ?_)
          refine r_goto (tgt := 31) E (Mo_isLate_dc.at 56 rfl) (by decide) ?_
          exact hk31 _ x0 x1 x2 x3 x4 v15 hx0 hx1 hx2 hx3 hx4 hv15 _ _ _ S13 (hl.sub (And.intro rfl (And.intro rfl (And.intro rfl (And.intro rfl (And.intro rfl (And.intro rfl True.intro))))))) h
    · have h := ite_f h q
      obtain ⟨v16, ev16, h⟩ := lt1_e h
      have hv16 := inR_eq ev16 (inR_w32 _)
      refine u_iinc (y := v16) (vs' := [some (zR G.2.2.1 x0), some (.int (zO x1)), some (.int (zO x2)), some (.int (zO x3)), some (.int (zO x4)), some (.int (zO v16)), none]) E ev16 (Mo_isLate_dc.at 55 rfl) hl rfl (by decide) rfl (fun ls hl => ?_)
      refine r_goto (tgt := 31) E (Mo_isLate_dc.at 56 rfl) (by decide) ?_
      exact hk31 _ x0 x1 x2 x3 x4 v16 hx0 hx1 hx2 hx3 hx4 hv16 _ _ _ S (hl.sub (And.intro rfl (And.intro rfl (And.intro rfl (And.intro rfl (And.intro rfl (And.intro rfl True.intro))))))) h
  · have h := ite_f h q
    refine r_iconst E (Mo_isLate_dc.at 57 rfl) ?_
    cases h
    exact r_zret E S z01_0 z01_0 (Mo_isLate_dc.at 58 rfl)
theorem Mo_isLate_l31_w (E : zEv p m c cX12_isLate 7 s args RX12 meth (some .boolean) G) {res : (zM × Int)} : ∀ (n : Nat) (M : zM) (x0 : Int) (x1 : Int) (x2 : Int) (x3 : Int) (x4 : Int) (x5 : Int), InR x0 → InR x1 → InR x2 → InR x3 → InR x4 → InR x5 → ∀ (H : Heap) (locs : List Loc) (ls : Array Slot), zS G top L M s H locs → zLV ls 7 [some (zR G.2.2.1 x0), some (.int (zO x1)), some (.int (zO x2)), some (.int (zO x3)), some (.int (zO x4)), some (.int (zO x5)), none] → Mo_isLate_l31 fu L n M x0 x1 x2 x3 x4 x5 = some res → W p l e (zrm 47 0 0) s m args below meth c H locs 0 0 (MQ below (zQ G top L res.1 (some (.int (zO res.2))) (0 ≤ res.2 ∧ res.2 ≤ 1)) args s 0 0 (zA G)) (F0 m 31 ls [])
  | 0, _, _, _, _, _, _, _ => fun _ _ _ _ _ _ _ _ _ _ _ h => (by cases h)
  | n + 1, M, x0, x1, x2, x3, x4, x5 => fun hx0 hx1 hx2 hx3 hx4 hx5 H locs ls S hl h => Mo_isLate_s31_w E (fun M x0 x1 x2 x3 x4 x5 hx0 hx1 hx2 hx3 hx4 hx5 H locs ls S hl h => Mo_isLate_l31_w E n M x0 x1 x2 x3 x4 x5 hx0 hx1 hx2 hx3 hx4 hx5 H locs ls S hl h) hx0 hx1 hx2 hx3 hx4 hx5 S hl h
theorem Mo_isLate_w (E : zEv p m c cX12_isLate 7 s args RX12 meth (some .boolean) G) {res : (zM × Int)} {M : zM} {a0 : Int} {a1 : Int} {a2 : Int} {a3 : Int} {H : Heap} {locs : List Loc} {ls : Array Slot} (ha0 : InR a0) (ha1 : InR a1) (ha2 : InR a2) (ha3 : InR a3) (S : zS G top L M s H locs) (hl : zLV ls 7 [some (zR G.2.2.1 a0), some (.int (zO a1)), some (.int (zO a2)), some (.int (zO a3)), none, none, none]) (h : Mo_isLate fu L M a0 a1 a2 a3 = some res) : W p l e (zrm 47 0 0) s m args below meth c H locs 0 0 (MQ below (zQ G top L res.1 (some (.int (zO res.2))) (0 ≤ res.2 ∧ res.2 ≤ 1)) args s 0 0 (zA G)) (F0 m 0 ls []) := by
  unfold Mo_isLate at h
  refine u_al_n (x := a0) E (Mo_isLate_dc.at 0 rfl) hl rfl ?_
  obtain ⟨g1, h⟩ := ite_e h
  refine u_gR E zf_12_18 S g1 zw_6_225 (Mo_isLate_dc.at 1 rfl) ?_
  refine r_bipush E (Mo_isLate_dc.at 2 rfl) rfl ?_
  obtain ⟨g2, h⟩ := ite_e h
  obtain ⟨g3, h⟩ := ite_e h
  refine r_iald E S g2 g3 (Mo_isLate_dc.at 3 rfl) ?_
  refine u_il_n (x := a2) E (Mo_isLate_dc.at 4 rfl) hl rfl ?_
  refine r_sipush E (Mo_isLate_dc.at 5 rfl) rfl ?_
  refine r_iand E (Mo_isLate_dc.at 6 rfl) ?_
  refine u_al_n (x := a0) E (Mo_isLate_dc.at 7 rfl) hl rfl ?_
  obtain ⟨r4, er4, h⟩ := bd1_e h
  refine u_cVI (As := []) (rest := [.int (zO (iand a2 255)), .int (zO (M (M a0 18) 74))]) E S zcw_yX12_allLives zw_9_79 zq_7_13 zw_9_77 zck_12.1 rfl g1 (Mo_allLives_c l G fu top L M a0 ha0 er4) (zrm_ok (by decide) (by decide)) ⟨Nat.le_refl 0, Nat.le_refl 0⟩ rfl (by simp [zR_cat, zcat_I, zcat_J, zcat_S]) hl.size rfl (Mo_isLate_dc.at 8 rfl) (fun H locs hr4 S5 => ?_)
  refine r_icmp_ne (tgt := 23) E (inR_iand _ _) hr4 (Mo_isLate_dc.at 9 rfl) (by decide) (fun q => ?_) (fun q => ?_)
  · have h := ite_t h q
    refine r_iconst E (Mo_isLate_dc.at 10 rfl) ?_
    refine r_goto (tgt := 25) E (Mo_isLate_dc.at 11 rfl) (by decide) ?_
    refine r_iadd E (Mo_isLate_dc.at 13 rfl) ?_
    obtain ⟨v6, ev6, h⟩ := lt1_e h
    have hv6 := inR_eq ev6 (inR_w32 _)
    refine u_ist (y := v6) (vs' := [some (zR G.2.2.1 a0), some (.int (zO a1)), some (.int (zO a2)), some (.int (zO a3)), some (.int (zO v6)), none, none]) E ev6 (Mo_isLate_dc.at 14 rfl) hl (by decide) rfl (fun ls hl => ?_)
    refine r_iconst E (Mo_isLate_dc.at 15 rfl) ?_
    refine u_ist (y := 0) (vs' := [some (zR G.2.2.1 a0), some (.int (zO a1)), some (.int (zO a2)), some (.int (zO a3)), some (.int (zO v6)), some (.int (zO 0)), none]) E rfl (Mo_isLate_dc.at 16 rfl) hl (by decide) rfl (fun ls hl => ?_)
    exact Mo_isLate_l31_w E fu _ a0 a1 a2 a3 v6 0 ha0 ha1 ha2 ha3 hv6 (show InR 0 by decide) _ _ _ S5 (hl.sub (And.intro rfl (And.intro rfl (And.intro rfl (And.intro rfl (And.intro rfl (And.intro rfl True.intro))))))) h
  · have h := ite_f h q
    refine r_bipush E (Mo_isLate_dc.at 12 rfl) rfl ?_
    refine r_iadd E (Mo_isLate_dc.at 13 rfl) ?_
    obtain ⟨v17, ev17, h⟩ := lt1_e h
    have hv17 := inR_eq ev17 (inR_w32 _)
    refine u_ist (y := v17) (vs' := [some (zR G.2.2.1 a0), some (.int (zO a1)), some (.int (zO a2)), some (.int (zO a3)), some (.int (zO v17)), none, none]) E ev17 (Mo_isLate_dc.at 14 rfl) hl (by decide) rfl (fun ls hl => ?_)
    refine r_iconst E (Mo_isLate_dc.at 15 rfl) ?_
    refine u_ist (y := 0) (vs' := [some (zR G.2.2.1 a0), some (.int (zO a1)), some (.int (zO a2)), some (.int (zO a3)), some (.int (zO v17)), some (.int (zO 0)), none]) E rfl (Mo_isLate_dc.at 16 rfl) hl (by decide) rfl (fun ls hl => ?_)
    exact Mo_isLate_l31_w E fu _ a0 a1 a2 a3 v17 0 ha0 ha1 ha2 ha3 hv17 (show InR 0 by decide) _ _ _ S5 (hl.sub (And.intro rfl (And.intro rfl (And.intro rfl (And.intro rfl (And.intro rfl (And.intro rfl True.intro))))))) h
theorem Mo_isLate_c (l : Launch) (G : zG) (fu : Nat) (top : Int) (L : zL) (M : zM) (a0 : Int) (a1 : Int) (a2 : Int) (a3 : Int) {res : (zM × Int)} (ha0 : InR a0) (ha1 : InR a1) (ha2 : InR a2) (ha3 : InR a3) (h : Mo_isLate fu L M a0 a1 a2 a3 = some res) : Met l yX12_isLate (Cond.code yX12_isLate cX12_isLate 7 (some .boolean) :: zTB) (zrm 47 0 0) (va_Pc [zR G.2.2.1 a0, .int (zO a1), .int (zO a2), .int (zO a3)] (zPre G top L M)) (zQ G top L res.1 (some (.int (zO res.2))) (0 ≤ res.2 ∧ res.2 ≤ 1)) 0 0 (zA G) :=
  z_met (by decide +kernel) (by simp [zR_cat, zcat_I, zcat_S]) (Nat.le_of_ble_eq_true rfl) fun p e s m below meth c ls E hn S hl => Mo_isLate_w E ha0 ha1 ha2 ha3 S (hl.sub (And.intro rfl (And.intro rfl (And.intro rfl (And.intro rfl True.intro))))) h
end
theorem Mo_witness_dc : zDL cX12_witness [(0, .aload_n 0, 1, 1), (1, .iconst 0, 1, 2), (2, .putfield 66, 3, 5), (5, .aload_n 0, 1, 6), (6, .iload_n 1, 1, 7), (7, .invokevirtual 282, 3, 10), (10, .ifCond .ne 5, 3, 13), (13, .iconst (-1), 1, 14), (14, .ireturn, 1, 15), (15, .aload_n 0, 1, 16), (16, .iload_n 1, 1, 17), (17, .invokevirtual 521, 3, 20), (20, .aload_n 0, 1, 21), (21, .iload_n 1, 1, 22), (22, .invokevirtual 511, 3, 25), (25, .ifCond .ne 7, 3, 28), (28, .iconst 1, 1, 29), (29, .goto 4, 3, 32), (32, .iconst 0, 1, 33), (33, .istore_n 2, 1, 34), (34, .iconst 0, 1, 35), (35, .istore_n 3, 1, 36), (36, .iload_n 3, 1, 37), (37, .sipush 512, 3, 40), (40, .if_icmp .ge 29, 3, 43), (43, .aload_n 0, 1, 44), (44, .iload_n 3, 1, 45), (45, .invokevirtual 565, 3, 48), (48, .ifCond .eq 15, 3, 51), (51, .aload_n 0, 1, 52), (52, .iload_n 1, 1, 53), (53, .iload_n 3, 1, 54), (54, .iload_n 2, 1, 55), (55, .invokevirtual 571, 3, 58), (58, .ifCond .eq 5, 3, 61), (61, .iload_n 3, 1, 62), (62, .ireturn, 1, 63), (63, .iinc 3 1, 3, 66), (66, .goto (-30), 3, 69), (69, .iconst (-1), 1, 70), (70, .ireturn, 1, 71)] := zDL.of (by decide +kernel)
section
variable {p : Program} {l : Launch} {e : Env} {s : State} {m : MethodId} {args : Array Value} {below : List Frame} {meth : Method} {c : Code} {G : zG} {top : Int} {L : zL} {fu : Nat}
theorem Mo_witness_s36_w (E : zEv p m c cX12_witness 4 s args RX12 meth (some .int) G) {res : (zM × Int)} {k36 : zM → Int → Int → Int → Int → Option (zM × Int)} (hk36 : ∀ (M : zM) (x0 : Int) (x1 : Int) (x2 : Int) (x3 : Int), InR x0 → InR x1 → InR x2 → InR x3 → ∀ (H : Heap) (locs : List Loc) (ls : Array Slot), zS G top L M s H locs → zLV ls 4 [some (zR G.2.2.1 x0), some (.int (zO x1)), some (.int (zO x2)), some (.int (zO x3))] → k36 M x0 x1 x2 x3 = some res → W p l e (zrm 48 0 0) s m args below meth c H locs 0 0 (MQ below (zQ G top L res.1 (some (.int (zO res.2))) (InR res.2)) args s 0 0 (zA G)) (F0 m 36 ls [])) {M : zM} {x0 : Int} {x1 : Int} {x2 : Int} {x3 : Int} {H : Heap} {locs : List Loc} {ls : Array Slot} (hx0 : InR x0) (hx1 : InR x1) (hx2 : InR x2) (hx3 : InR x3) (S : zS G top L M s H locs) (hl : zLV ls 4 [some (zR G.2.2.1 x0), some (.int (zO x1)), some (.int (zO x2)), some (.int (zO x3))]) (h : Mo_witness_s36 fu k36 L M x0 x1 x2 x3 = some res) : W p l e (zrm 48 0 0) s m args below meth c H locs 0 0 (MQ below (zQ G top L res.1 (some (.int (zO res.2))) (InR res.2)) args s 0 0 (zA G)) (F0 m 36 ls []) := by
  unfold Mo_witness_s36 at h
  refine u_il_n (x := x3) E (Mo_witness_dc.at 22 rfl) hl rfl ?_
  refine r_sipush E (Mo_witness_dc.at 23 rfl) rfl ?_
  refine r_icmp_ge (tgt := 69) E hx3 (show InR 512 by decide) (Mo_witness_dc.at 24 rfl) (by decide) (fun q => ?_) (fun q => ?_)
  · have h := ite_t h q
    refine u_al_n (x := x0) E (Mo_witness_dc.at 25 rfl) hl rfl ?_
    refine u_il_n (x := x3) E (Mo_witness_dc.at 26 rfl) hl rfl ?_
    obtain ⟨g11, h⟩ := ite_e h
    obtain ⟨r12, er12, h⟩ := bd1_e h
    refine u_cVI (As := [.int (zO x3)]) (rest := []) E S zcw_yX12_isCourse zw_9_194 zq_9_2 zw_9_192 zck_12.1 rfl g11 (Mo_isCourse_c l G fu top L M x0 x3 hx0 hx3 er12) (zrm_ok (by decide) (by decide)) ⟨Nat.le_refl 0, Nat.le_refl 0⟩ rfl (Nat.zero_le 8) hl.size rfl (Mo_witness_dc.at 27 rfl) (fun H locs hr12 S13 => ?_)
    refine r_if_eq (tgt := 63) E (inR_01 hr12) (Mo_witness_dc.at 28 rfl) (by decide) (fun q => ?_) (fun q => ?_)
    · have h := ite_t h q
      obtain ⟨v14, ev14, h⟩ := lt1_e h
      have hv14 := inR_eq ev14 (inR_w32 _)
      refine u_iinc (y := v14) (vs' := [some (zR G.2.2.1 x0), some (.int (zO x1)), some (.int (zO x2)), some (.int (zO v14))]) E ev14 (Mo_witness_dc.at 37 rfl) hl rfl (by decide) rfl (fun ls hl => ?_)
      refine r_goto (tgt := 36) E (Mo_witness_dc.at 38 rfl) (by decide) ?_
      exact hk36 _ x0 x1 x2 v14 hx0 hx1 hx2 hv14 _ _ _ S13 (hl.sub (And.intro rfl (And.intro rfl (And.intro rfl (And.intro rfl True.intro))))) h
    · have h := ite_f h q
      refine u_al_n (x := x0) E (Mo_witness_dc.at 29 rfl) hl rfl ?_
      refine u_il_n (x := x1) E (Mo_witness_dc.at 30 rfl) hl rfl ?_
      refine u_il_n (x := x3) E (Mo_witness_dc.at 31 rfl) hl rfl ?_
      refine u_il_n (x := x2) E (Mo_witness_dc.at 32 rfl) hl rfl ?_
      obtain ⟨M16, r15, er15, h⟩ := bd2_e h
      refine u_cVI (As := [.int (zO x1), .int (zO x3), .int (zO x2)]) (rest := []) E S13 zcw_yX12_isLate zw_9_210 zq_9_4 zw_9_208 zck_12.1 rfl g11 (Mo_isLate_c l G fu top L M x0 x1 x3 x2 hx0 hx1 hx3 hx2 er15) (zrm_ok (by decide) (by decide)) ⟨Nat.le_refl 0, Nat.le_refl 0⟩ rfl (Nat.zero_le 8) hl.size rfl (Mo_witness_dc.at 33 rfl) (fun H locs hr15 S17 => ?_)
      refine r_if_eq (tgt := 63) E (inR_01 hr15) (Mo_witness_dc.at 34 rfl) (by decide) (fun q => ?_) (fun q => ?_)
      · have h := ite_t h q
        obtain ⟨v18, ev18, h⟩ := lt1_e h
        have hv18 := inR_eq ev18 (inR_w32 _)
        refine u_iinc (y := v18) (vs' := [some (zR G.2.2.1 x0), some (.int (zO x1)), some (.int (zO x2)), some (.int (zO v18))]) E ev18 (Mo_witness_dc.at 37 rfl) hl rfl (by decide) rfl (fun ls hl => ?_)
        refine r_goto (tgt := 36) E (Mo_witness_dc.at 38 rfl) (by decide) ?_
        exact hk36 _ x0 x1 x2 v18 hx0 hx1 hx2 hv18 _ _ _ S17 (hl.sub (And.intro rfl (And.intro rfl (And.intro rfl (And.intro rfl True.intro))))) h
      · have h := ite_f h q
        refine u_il_n (x := x3) E (Mo_witness_dc.at 35 rfl) hl rfl ?_
        cases h
        exact r_iret E S17 hx3 (Mo_witness_dc.at 36 rfl)
  · have h := ite_f h q
    refine r_iconst E (Mo_witness_dc.at 39 rfl) ?_
    cases h
    exact r_iret E S (show InR (-1) by decide) (Mo_witness_dc.at 40 rfl)
theorem Mo_witness_l36_w (E : zEv p m c cX12_witness 4 s args RX12 meth (some .int) G) {res : (zM × Int)} : ∀ (n : Nat) (M : zM) (x0 : Int) (x1 : Int) (x2 : Int) (x3 : Int), InR x0 → InR x1 → InR x2 → InR x3 → ∀ (H : Heap) (locs : List Loc) (ls : Array Slot), zS G top L M s H locs → zLV ls 4 [some (zR G.2.2.1 x0), some (.int (zO x1)), some (.int (zO x2)), some (.int (zO x3))] → Mo_witness_l36 fu L n M x0 x1 x2 x3 = some res → W p l e (zrm 48 0 0) s m args below meth c H locs 0 0 (MQ below (zQ G top L res.1 (some (.int (zO res.2))) (InR res.2)) args s 0 0 (zA G)) (F0 m 36 ls [])
  | 0, _, _, _, _, _ => fun _ _ _ _ _ _ _ _ _ h => (by cases h)
  | n + 1, M, x0, x1, x2, x3 => fun hx0 hx1 hx2 hx3 H locs ls S hl h => Mo_witness_s36_w E (fun M x0 x1 x2 x3 hx0 hx1 hx2 hx3 H locs ls S hl h => Mo_witness_l36_w E n M x0 x1 x2 x3 hx0 hx1 hx2 hx3 H locs ls S hl h) hx0 hx1 hx2 hx3 S hl h
theorem Mo_witness_w (E : zEv p m c cX12_witness 4 s args RX12 meth (some .int) G) {res : (zM × Int)} {M : zM} {a0 : Int} {a1 : Int} {H : Heap} {locs : List Loc} {ls : Array Slot} (ha0 : InR a0) (ha1 : InR a1) (S : zS G top L M s H locs) (hl : zLV ls 4 [some (zR G.2.2.1 a0), some (.int (zO a1)), none, none]) (h : Mo_witness fu L M a0 a1 = some res) : W p l e (zrm 48 0 0) s m args below meth c H locs 0 0 (MQ below (zQ G top L res.1 (some (.int (zO res.2))) (InR res.2)) args s 0 0 (zA G)) (F0 m 0 ls []) := by
  unfold Mo_witness at h
  refine u_al_n (x := a0) E (Mo_witness_dc.at 0 rfl) hl rfl ?_
  refine r_iconst E (Mo_witness_dc.at 1 rfl) ?_
  obtain ⟨g1, h⟩ := ite_e h
  obtain ⟨M2, eM2, h⟩ := lt1_e h
  refine u_pI E eM2 zf_12_0 S g1 (show InR 0 by decide) (Or.inl rfl) rfl zw_6_207 (Mo_witness_dc.at 2 rfl) (fun H locs S3 => ?_)
  refine u_al_n (x := a0) E (Mo_witness_dc.at 3 rfl) hl rfl ?_
  refine u_il_n (x := a1) E (Mo_witness_dc.at 4 rfl) hl rfl ?_
  obtain ⟨r4, er4, h⟩ := bd1_e h
  refine u_cVI (As := [.int (zO a1)]) (rest := []) E S3 zcw_yX12_isGift zw_8_77 zq_5_12 zw_8_75 zck_12.1 rfl g1 (Mo_isGift_c l G fu top L M2 a0 a1 ha0 ha1 er4) (zrm_ok (by decide) (by decide)) ⟨Nat.le_refl 0, Nat.le_refl 0⟩ rfl (Nat.zero_le 8) hl.size rfl (Mo_witness_dc.at 5 rfl) (fun H locs hr4 S5 => ?_)
  refine r_if_ne (tgt := 15) E (inR_01 hr4) (Mo_witness_dc.at 6 rfl) (by decide) (fun q => ?_) (fun q => ?_)
  · have h := ite_t h q
    refine r_iconst E (Mo_witness_dc.at 7 rfl) ?_
    cases h
    exact r_iret E S5 (show InR (-1) by decide) (Mo_witness_dc.at 8 rfl)
  · have h := ite_f h q
    refine u_al_n (x := a0) E (Mo_witness_dc.at 9 rfl) hl rfl ?_
    refine u_il_n (x := a1) E (Mo_witness_dc.at 10 rfl) hl rfl ?_
    obtain ⟨M6, eM6, h⟩ := bd1_e h
    refine u_cVU (As := [.int (zO a1)]) (rest := []) E S5 zcw_yX12_asksAll zw_9_75 zq_7_12 zw_9_73 zck_12.1 rfl g1 (Mo_asksAll_c l G fu top L M2 a0 a1 ha0 ha1 eM6) (zrm_ok (by decide) (by decide)) ⟨Nat.le_refl 0, Nat.le_refl 0⟩ rfl (Nat.zero_le 8) hl.size rfl (Mo_witness_dc.at 11 rfl) (fun H locs _ S7 => ?_)
    refine u_al_n (x := a0) E (Mo_witness_dc.at 12 rfl) hl rfl ?_
    refine u_il_n (x := a1) E (Mo_witness_dc.at 13 rfl) hl rfl ?_
    obtain ⟨M9, r8, er8, h⟩ := bd2_e h
    refine u_cVI (As := [.int (zO a1)]) (rest := []) E S7 zcw_yX12_hasVested zw_9_87 zq_7_15 zw_9_85 zck_12.1 rfl g1 (Mo_hasVested_c l G fu top L M6 a0 a1 ha0 ha1 er8) (zrm_ok (by decide) (by decide)) ⟨Nat.le_refl 0, Nat.le_refl 0⟩ rfl (Nat.zero_le 8) hl.size rfl (Mo_witness_dc.at 14 rfl) (fun H locs hr8 S10 => ?_)
    refine r_if_ne (tgt := 32) E (inR_01 hr8) (Mo_witness_dc.at 15 rfl) (by decide) (fun q => ?_) (fun q => ?_)
    · have h := ite_t h q
      refine r_iconst E (Mo_witness_dc.at 16 rfl) ?_
      refine r_goto (tgt := 33) E (Mo_witness_dc.at 17 rfl) (by decide) ?_
      refine u_ist_n (y := 1) (vs' := [some (zR G.2.2.1 a0), some (.int (zO a1)), some (.int (zO 1)), none]) E rfl (Mo_witness_dc.at 19 rfl) hl (by decide) rfl (fun ls hl => ?_)
      refine r_iconst E (Mo_witness_dc.at 20 rfl) ?_
      refine u_ist_n (y := 0) (vs' := [some (zR G.2.2.1 a0), some (.int (zO a1)), some (.int (zO 1)), some (.int (zO 0))]) E rfl (Mo_witness_dc.at 21 rfl) hl (by decide) rfl (fun ls hl => ?_)
      exact Mo_witness_l36_w E fu _ a0 a1 1 0 ha0 ha1 (show InR 1 by decide) (show InR 0 by decide) _ _ _ S10 (hl.sub (And.intro rfl (And.intro rfl (And.intro rfl (And.intro rfl True.intro))))) h
    · have h := ite_f h q
      refine r_iconst E (Mo_witness_dc.at 18 rfl) ?_
      refine u_ist_n (y := 0) (vs' := [some (zR G.2.2.1 a0), some (.int (zO a1)), some (.int (zO 0)), none]) E rfl (Mo_witness_dc.at 19 rfl) hl (by decide) rfl (fun ls hl => ?_)
      refine r_iconst E (Mo_witness_dc.at 20 rfl) ?_
      refine u_ist_n (y := 0) (vs' := [some (zR G.2.2.1 a0), some (.int (zO a1)), some (.int (zO 0)), some (.int (zO 0))]) E rfl (Mo_witness_dc.at 21 rfl) hl (by decide) rfl (fun ls hl => ?_)
      exact Mo_witness_l36_w E fu _ a0 a1 0 0 ha0 ha1 (show InR 0 by decide) (show InR 0 by decide) _ _ _ S10 (hl.sub (And.intro rfl (And.intro rfl (And.intro rfl (And.intro rfl True.intro))))) h
theorem Mo_witness_c (l : Launch) (G : zG) (fu : Nat) (top : Int) (L : zL) (M : zM) (a0 : Int) (a1 : Int) {res : (zM × Int)} (ha0 : InR a0) (ha1 : InR a1) (h : Mo_witness fu L M a0 a1 = some res) : Met l yX12_witness (Cond.code yX12_witness cX12_witness 4 (some .int) :: zTB) (zrm 48 0 0) (va_Pc [zR G.2.2.1 a0, .int (zO a1)] (zPre G top L M)) (zQ G top L res.1 (some (.int (zO res.2))) (InR res.2)) 0 0 (zA G) :=
  z_met (by decide +kernel) (by simp [zR_cat, zcat_I, zcat_S]) (Nat.le_of_ble_eq_true rfl) fun p e s m below meth c ls E hn S hl => Mo_witness_w E ha0 ha1 S (hl.sub (And.intro rfl (And.intro rfl True.intro))) h
end
theorem Mo_lates_dc : zDL cX12_lates [(0, .aload_n 0, 1, 1), (1, .iconst 0, 1, 2), (2, .putfield 66, 3, 5), (5, .aload_n 0, 1, 6), (6, .iload_n 1, 1, 7), (7, .invokevirtual 282, 3, 10), (10, .ifCond .ne 5, 3, 13), (13, .iconst (-1), 1, 14), (14, .ireturn, 1, 15), (15, .aload_n 0, 1, 16), (16, .iload_n 1, 1, 17), (17, .invokevirtual 521, 3, 20), (20, .aload_n 0, 1, 21), (21, .iload_n 1, 1, 22), (22, .invokevirtual 511, 3, 25), (25, .ifCond .ne 7, 3, 28), (28, .iconst 1, 1, 29), (29, .goto 4, 3, 32), (32, .iconst 0, 1, 33), (33, .istore_n 2, 1, 34), (34, .iconst 0, 1, 35), (35, .istore_n 3, 1, 36), (36, .iconst 0, 1, 37), (37, .istore 4, 2, 39), (39, .iload 4, 2, 41), (41, .sipush 512, 3, 44), (44, .if_icmp .ge 37, 3, 47), (47, .iload_n 3, 1, 48), (48, .aload_n 0, 1, 49), (49, .iload 4, 2, 51), (51, .invokevirtual 565, 3, 54), (54, .ifCond .eq 18, 3, 57), (57, .aload_n 0, 1, 58), (58, .iload_n 1, 1, 59), (59, .iload 4, 2, 61), (61, .iload_n 2, 1, 62), (62, .invokevirtual 571, 3, 65), (65, .ifCond .eq 7, 3, 68), (68, .iconst 1, 1, 69), (69, .goto 4, 3, 72), (72, .iconst 0, 1, 73), (73, .iadd, 1, 74), (74, .istore_n 3, 1, 75), (75, .iinc 4 1, 3, 78), (78, .goto (-39), 3, 81), (81, .iload_n 3, 1, 82), (82, .ireturn, 1, 83)] := zDL.of (by decide +kernel)
section
variable {p : Program} {l : Launch} {e : Env} {s : State} {m : MethodId} {args : Array Value} {below : List Frame} {meth : Method} {c : Code} {G : zG} {top : Int} {L : zL} {fu : Nat}
theorem Mo_lates_s39_w (E : zEv p m c cX12_lates 5 s args RX12 meth (some .int) G) {res : (zM × Int)} {k39 : zM → Int → Int → Int → Int → Int → Option (zM × Int)} (hk39 : ∀ (M : zM) (x0 : Int) (x1 : Int) (x2 : Int) (x3 : Int) (x4 : Int), InR x0 → InR x1 → InR x2 → InR x3 → InR x4 → ∀ (H : Heap) (locs : List Loc) (ls : Array Slot), zS G top L M s H locs → zLV ls 5 [some (zR G.2.2.1 x0), some (.int (zO x1)), some (.int (zO x2)), some (.int (zO x3)), some (.int (zO x4))] → k39 M x0 x1 x2 x3 x4 = some res → W p l e (zrm 48 0 0) s m args below meth c H locs 0 0 (MQ below (zQ G top L res.1 (some (.int (zO res.2))) (InR res.2)) args s 0 0 (zA G)) (F0 m 39 ls [])) {M : zM} {x0 : Int} {x1 : Int} {x2 : Int} {x3 : Int} {x4 : Int} {H : Heap} {locs : List Loc} {ls : Array Slot} (hx0 : InR x0) (hx1 : InR x1) (hx2 : InR x2) (hx3 : InR x3) (hx4 : InR x4) (S : zS G top L M s H locs) (hl : zLV ls 5 [some (zR G.2.2.1 x0), some (.int (zO x1)), some (.int (zO x2)), some (.int (zO x3)), some (.int (zO x4))]) (h : Mo_lates_s39 fu k39 L M x0 x1 x2 x3 x4 = some res) : W p l e (zrm 48 0 0) s m args below meth c H locs 0 0 (MQ below (zQ G top L res.1 (some (.int (zO res.2))) (InR res.2)) args s 0 0 (zA G)) (F0 m 39 ls []) := by
  unfold Mo_lates_s39 at h
  refine u_il (x := x4) E (Mo_lates_dc.at 24 rfl) hl rfl ?_
  refine r_sipush E (Mo_lates_dc.at 25 rfl) rfl ?_
  refine r_icmp_ge (tgt := 81) E hx4 (show InR 512 by decide) (Mo_lates_dc.at 26 rfl) (by decide) (fun q => ?_) (fun q => ?_)
  · have h := ite_t h q
    refine u_il_n (x := x3) E (Mo_lates_dc.at 27 rfl) hl rfl ?_
    refine u_al_n (x := x0) E (Mo_lates_dc.at 28 rfl) hl rfl ?_
    refine u_il (x := x4) E (Mo_lates_dc.at 29 rfl) hl rfl ?_
    obtain ⟨g11, h⟩ := ite_e h
    obtain ⟨r12, er12, h⟩ := bd1_e h
    refine u_cVI (As := [.int (zO x4)]) (rest := [.int (zO x3)]) E S zcw_yX12_isCourse zw_9_194 zq_9_2 zw_9_192 zck_12.1 rfl g11 (Mo_isCourse_c l G fu top L M x0 x4 hx0 hx4 er12) (zrm_ok (by decide) (by decide)) ⟨Nat.le_refl 0, Nat.le_refl 0⟩ rfl (by simp [zR_cat, zcat_I, zcat_J, zcat_S]) hl.size rfl (Mo_lates_dc.at 30 rfl) (fun H locs hr12 S13 => ?_)
    refine r_if_eq (tgt := 72) E (inR_01 hr12) (Mo_lates_dc.at 31 rfl) (by decide) (fun q => ?_) (fun q => ?_)
    · have h := ite_t h q
      refine r_iconst E (Mo_lates_dc.at 40 rfl) ?_
      refine r_iadd E (Mo_lates_dc.at 41 rfl) ?_
      obtain ⟨v14, ev14, h⟩ := lt1_e h
      have hv14 := inR_eq ev14 (inR_w32 _)
      refine u_ist_n (y := v14) (vs' := [some (zR G.2.2.1 x0), some (.int (zO x1)), some (.int (zO x2)), some (.int (zO v14)), some (.int (zO x4))]) E ev14 (Mo_lates_dc.at 42 rfl) hl (by decide) rfl (fun ls hl => ?_)
      obtain ⟨v15, ev15, h⟩ := lt1_e h
      have hv15 := inR_eq ev15 (inR_w32 _)
      refine u_iinc (y := v15) (vs' := [some (zR G.2.2.1 x0), some (.int (zO x1)), some (.int (zO x2)), some (.int (zO v14)), some (.int (zO v15))]) E ev15 (Mo_lates_dc.at 43 rfl) hl rfl (by decide) rfl (fun ls hl => ?_)
      refine r_goto (tgt := 39) E (Mo_lates_dc.at 44 rfl) (by decide) ?_
      exact hk39 _ x0 x1 x2 v14 v15 hx0 hx1 hx2 hv14 hv15 _ _ _ S13 (hl.sub (And.intro rfl (And.intro rfl (And.intro rfl (And.intro rfl (And.intro rfl True.intro)))))) h
    · have h := ite_f h q
      refine u_al_n (x := x0) E (Mo_lates_dc.at 32 rfl) hl rfl ?_
      refine u_il_n (x := x1) E (Mo_lates_dc.at 33 rfl) hl rfl ?_
      refine u_il (x := x4) E (Mo_lates_dc.at 34 rfl) hl rfl ?_
      refine u_il_n (x := x2) E (Mo_lates_dc.at 35 rfl) hl rfl ?_
      obtain ⟨M17, r16, er16, h⟩ := bd2_e h
      refine u_cVI (As := [.int (zO x1), .int (zO x4), .int (zO x2)]) (rest := [.int (zO x3)]) E S13 zcw_yX12_isLate zw_9_210 zq_9_4 zw_9_208 zck_12.1 rfl g11 (Mo_isLate_c l G fu top L M x0 x1 x4 x2 hx0 hx1 hx4 hx2 er16) (zrm_ok (by decide) (by decide)) ⟨Nat.le_refl 0, Nat.le_refl 0⟩ rfl (by simp [zR_cat, zcat_I, zcat_J, zcat_S]) hl.size rfl (Mo_lates_dc.at 36 rfl) (fun H locs hr16 S18 => ?_)
      refine r_if_eq (tgt := 72) E (inR_01 hr16) (Mo_lates_dc.at 37 rfl) (by decide) (fun q => ?_) (fun q => ?_)
      · have h := ite_t h q
        refine r_iconst E (Mo_lates_dc.at 40 rfl) ?_
        refine r_iadd E (Mo_lates_dc.at 41 rfl) ?_
        obtain ⟨v19, ev19, h⟩ := lt1_e h
        have hv19 := inR_eq ev19 (inR_w32 _)
        refine u_ist_n (y := v19) (vs' := [some (zR G.2.2.1 x0), some (.int (zO x1)), some (.int (zO x2)), some (.int (zO v19)), some (.int (zO x4))]) E ev19 (Mo_lates_dc.at 42 rfl) hl (by decide) rfl (fun ls hl => ?_)
        obtain ⟨v20, ev20, h⟩ := lt1_e h
        have hv20 := inR_eq ev20 (inR_w32 _)
        refine u_iinc (y := v20) (vs' := [some (zR G.2.2.1 x0), some (.int (zO x1)), some (.int (zO x2)), some (.int (zO v19)), some (.int (zO v20))]) E ev20 (Mo_lates_dc.at 43 rfl) hl rfl (by decide) rfl (fun ls hl => ?_)
        refine r_goto (tgt := 39) E (Mo_lates_dc.at 44 rfl) (by decide) ?_
        exact hk39 _ x0 x1 x2 v19 v20 hx0 hx1 hx2 hv19 hv20 _ _ _ S18 (hl.sub (And.intro rfl (And.intro rfl (And.intro rfl (And.intro rfl (And.intro rfl True.intro)))))) h
      · have h := ite_f h q
        refine r_iconst E (Mo_lates_dc.at 38 rfl) ?_
        refine r_goto (tgt := 73) E (Mo_lates_dc.at 39 rfl) (by decide) ?_
        refine r_iadd E (Mo_lates_dc.at 41 rfl) ?_
        obtain ⟨v21, ev21, h⟩ := lt1_e h
        have hv21 := inR_eq ev21 (inR_w32 _)
        refine u_ist_n (y := v21) (vs' := [some (zR G.2.2.1 x0), some (.int (zO x1)), some (.int (zO x2)), some (.int (zO v21)), some (.int (zO x4))]) E ev21 (Mo_lates_dc.at 42 rfl) hl (by decide) rfl (fun ls hl => ?_)
        obtain ⟨v22, ev22, h⟩ := lt1_e h
        have hv22 := inR_eq ev22 (inR_w32 _)
        refine u_iinc (y := v22) (vs' := [some (zR G.2.2.1 x0), some (.int (zO x1)), some (.int (zO x2)), some (.int (zO v21)), some (.int (zO v22))]) E ev22 (Mo_lates_dc.at 43 rfl) hl rfl (by decide) rfl (fun ls hl => ?_)
        refine r_goto (tgt := 39) E (Mo_lates_dc.at 44 rfl) (by decide) ?_
        exact hk39 _ x0 x1 x2 v21 v22 hx0 hx1 hx2 hv21 hv22 _ _ _ S18 (hl.sub (And.intro rfl (And.intro rfl (And.intro rfl (And.intro rfl (And.intro rfl True.intro)))))) h
  · have h := ite_f h q
    refine u_il_n (x := x3) E (Mo_lates_dc.at 45 rfl) hl rfl ?_
    cases h
    exact r_iret E S hx3 (Mo_lates_dc.at 46 rfl)
theorem Mo_lates_l39_w (E : zEv p m c cX12_lates 5 s args RX12 meth (some .int) G) {res : (zM × Int)} : ∀ (n : Nat) (M : zM) (x0 : Int) (x1 : Int) (x2 : Int) (x3 : Int) (x4 : Int), InR x0 → InR x1 → InR x2 → InR x3 → InR x4 → ∀ (H : Heap) (locs : List Loc) (ls : Array Slot), zS G top L M s H locs → zLV ls 5 [some (zR G.2.2.1 x0), some (.int (zO x1)), some (.int (zO x2)), some (.int (zO x3)), some (.int (zO x4))] → Mo_lates_l39 fu L n M x0 x1 x2 x3 x4 = some res → W p l e (zrm 48 0 0) s m args below meth c H locs 0 0 (MQ below (zQ G top L res.1 (some (.int (zO res.2))) (InR res.2)) args s 0 0 (zA G)) (F0 m 39 ls [])
  | 0, _, _, _, _, _, _ => fun _ _ _ _ _ _ _ _ _ _ h => (by cases h)
  | n + 1, M, x0, x1, x2, x3, x4 => fun hx0 hx1 hx2 hx3 hx4 H locs ls S hl h => Mo_lates_s39_w E (fun M x0 x1 x2 x3 x4 hx0 hx1 hx2 hx3 hx4 H locs ls S hl h => Mo_lates_l39_w E n M x0 x1 x2 x3 x4 hx0 hx1 hx2 hx3 hx4 H locs ls S hl h) hx0 hx1 hx2 hx3 hx4 S hl h
theorem Mo_lates_w (E : zEv p m c cX12_lates 5 s args RX12 meth (some .int) G) {res : (zM × Int)} {M : zM} {a0 : Int} {a1 : Int} {H : Heap} {locs : List Loc} {ls : Array Slot} (ha0 : InR a0) (ha1 : InR a1) (S : zS G top L M s H locs) (hl : zLV ls 5 [some (zR G.2.2.1 a0), some (.int (zO a1)), none, none, none]) (h : Mo_lates fu L M a0 a1 = some res) : W p l e (zrm 48 0 0) s m args below meth c H locs 0 0 (MQ below (zQ G top L res.1 (some (.int (zO res.2))) (InR res.2)) args s 0 0 (zA G)) (F0 m 0 ls []) := by
  unfold Mo_lates at h
  refine u_al_n (x := a0) E (Mo_lates_dc.at 0 rfl) hl rfl ?_
  refine r_iconst E (Mo_lates_dc.at 1 rfl) ?_
  obtain ⟨g1, h⟩ := ite_e h
  obtain ⟨M2, eM2, h⟩ := lt1_e h
  refine u_pI E eM2 zf_12_0 S g1 (show InR 0 by decide) (Or.inl rfl) rfl zw_6_207 (Mo_lates_dc.at 2 rfl) (fun H locs S3 => ?_)
  refine u_al_n (x := a0) E (Mo_lates_dc.at 3 rfl) hl rfl ?_
  refine u_il_n (x := a1) E (Mo_lates_dc.at 4 rfl) hl rfl ?_
  obtain ⟨r4, er4, h⟩ := bd1_e h
  refine u_cVI (As := [.int (zO a1)]) (rest := []) E S3 zcw_yX12_isGift zw_8_77 zq_5_12 zw_8_75 zck_12.1 rfl g1 (Mo_isGift_c l G fu top L M2 a0 a1 ha0 ha1 er4) (zrm_ok (by decide) (by decide)) ⟨Nat.le_refl 0, Nat.le_refl 0⟩ rfl (Nat.zero_le 8) hl.size rfl (Mo_lates_dc.at 5 rfl) (fun H locs hr4 S5 => ?_)
  refine r_if_ne (tgt := 15) E (inR_01 hr4) (Mo_lates_dc.at 6 rfl) (by decide) (fun q => ?_) (fun q => ?_)
  · have h := ite_t h q
    refine r_iconst E (Mo_lates_dc.at 7 rfl) ?_
    cases h
    exact r_iret E S5 (show InR (-1) by decide) (Mo_lates_dc.at 8 rfl)
  · have h := ite_f h q
    refine u_al_n (x := a0) E (Mo_lates_dc.at 9 rfl) hl rfl ?_
    refine u_il_n (x := a1) E (Mo_lates_dc.at 10 rfl) hl rfl ?_
    obtain ⟨M6, eM6, h⟩ := bd1_e h
    refine u_cVU (As := [.int (zO a1)]) (rest := []) E S5 zcw_yX12_asksAll zw_9_75 zq_7_12 zw_9_73 zck_12.1 rfl g1 (Mo_asksAll_c l G fu top L M2 a0 a1 ha0 ha1 eM6) (zrm_ok (by decide) (by decide)) ⟨Nat.le_refl 0, Nat.le_refl 0⟩ rfl (Nat.zero_le 8) hl.size rfl (Mo_lates_dc.at 11 rfl) (fun H locs _ S7 => ?_)
    refine u_al_n (x := a0) E (Mo_lates_dc.at 12 rfl) hl rfl ?_
    refine u_il_n (x := a1) E (Mo_lates_dc.at 13 rfl) hl rfl ?_
    obtain ⟨M9, r8, er8, h⟩ := bd2_e h
    refine u_cVI (As := [.int (zO a1)]) (rest := []) E S7 zcw_yX12_hasVested zw_9_87 zq_7_15 zw_9_85 zck_12.1 rfl g1 (Mo_hasVested_c l G fu top L M6 a0 a1 ha0 ha1 er8) (zrm_ok (by decide) (by decide)) ⟨Nat.le_refl 0, Nat.le_refl 0⟩ rfl (Nat.zero_le 8) hl.size rfl (Mo_lates_dc.at 14 rfl) (fun H locs hr8 S10 => ?_)
    refine r_if_ne (tgt := 32) E (inR_01 hr8) (Mo_lates_dc.at 15 rfl) (by decide) (fun q => ?_) (fun q => ?_)
    · have h := ite_t h q
      refine r_iconst E (Mo_lates_dc.at 16 rfl) ?_
      refine r_goto (tgt := 33) E (Mo_lates_dc.at 17 rfl) (by decide) ?_
      refine u_ist_n (y := 1) (vs' := [some (zR G.2.2.1 a0), some (.int (zO a1)), some (.int (zO 1)), none, none]) E rfl (Mo_lates_dc.at 19 rfl) hl (by decide) rfl (fun ls hl => ?_)
      refine r_iconst E (Mo_lates_dc.at 20 rfl) ?_
      refine u_ist_n (y := 0) (vs' := [some (zR G.2.2.1 a0), some (.int (zO a1)), some (.int (zO 1)), some (.int (zO 0)), none]) E rfl (Mo_lates_dc.at 21 rfl) hl (by decide) rfl (fun ls hl => ?_)
      refine r_iconst E (Mo_lates_dc.at 22 rfl) ?_
      refine u_ist (y := 0) (vs' := [some (zR G.2.2.1 a0), some (.int (zO a1)), some (.int (zO 1)), some (.int (zO 0)), some (.int (zO 0))]) E rfl (Mo_lates_dc.at 23 rfl) hl (by decide) rfl (fun ls hl => ?_)
      exact Mo_lates_l39_w E fu _ a0 a1 1 0 0 ha0 ha1 (show InR 1 by decide) (show InR 0 by decide) (show InR 0 by decide) _ _ _ S10 (hl.sub (And.intro rfl (And.intro rfl (And.intro rfl (And.intro rfl (And.intro rfl True.intro)))))) h
    · have h := ite_f h q
      refine r_iconst E (Mo_lates_dc.at 18 rfl) ?_
      refine u_ist_n (y := 0) (vs' := [some (zR G.2.2.1 a0), some (.int (zO a1)), some (.int (zO 0)), none, none]) E rfl (Mo_lates_dc.at 19 rfl) hl (by decide) rfl (fun ls hl => ?_)
      refine r_iconst E (Mo_lates_dc.at 20 rfl) ?_
      refine u_ist_n (y := 0) (vs' := [some (zR G.2.2.1 a0), some (.int (zO a1)), some (.int (zO 0)), some (.int (zO 0)), none]) E rfl (Mo_lates_dc.at 21 rfl) hl (by decide) rfl (fun ls hl => ?_)
      refine r_iconst E (Mo_lates_dc.at 22 rfl) ?_
      refine u_ist (y := 0) (vs' := [some (zR G.2.2.1 a0), some (.int (zO a1)), some (.int (zO 0)), some (.int (zO 0)), some (.int (zO 0))]) E rfl (Mo_lates_dc.at 23 rfl) hl (by decide) rfl (fun ls hl => ?_)
      exact Mo_lates_l39_w E fu _ a0 a1 0 0 0 ha0 ha1 (show InR 0 by decide) (show InR 0 by decide) (show InR 0 by decide) _ _ _ S10 (hl.sub (And.intro rfl (And.intro rfl (And.intro rfl (And.intro rfl (And.intro rfl True.intro)))))) h
theorem Mo_lates_c (l : Launch) (G : zG) (fu : Nat) (top : Int) (L : zL) (M : zM) (a0 : Int) (a1 : Int) {res : (zM × Int)} (ha0 : InR a0) (ha1 : InR a1) (h : Mo_lates fu L M a0 a1 = some res) : Met l yX12_lates (Cond.code yX12_lates cX12_lates 5 (some .int) :: zTB) (zrm 48 0 0) (va_Pc [zR G.2.2.1 a0, .int (zO a1)] (zPre G top L M)) (zQ G top L res.1 (some (.int (zO res.2))) (InR res.2)) 0 0 (zA G) :=
  z_met (by decide +kernel) (by simp [zR_cat, zcat_I, zcat_S]) (Nat.le_of_ble_eq_true rfl) fun p e s m below meth c ls E hn S hl => Mo_lates_w E ha0 ha1 S (hl.sub (And.intro rfl (And.intro rfl True.intro))) h
end
theorem Mo_worst_dc : zDL cX12_worst [(0, .aload_n 0, 1, 1), (1, .iconst 0, 1, 2), (2, .putfield 66, 3, 5), (5, .aload_n 0, 1, 6), (6, .iload_n 1, 1, 7), (7, .invokevirtual 282, 3, 10), (10, .ifCond .eq 15, 3, 13), (13, .iload_n 2, 1, 14), (14, .i2l, 1, 15), (15, .lconst 0, 1, 16), (16, .ldc2_w 236, 3, 19), (19, .invokestatic 76, 3, 22), (22, .ifCond .ne 7, 3, 25), (25, .ldc_w 318, 3, 28), (28, .ireturn, 1, 29), (29, .aload_n 0, 1, 30), (30, .iload_n 1, 1, 31), (31, .invokevirtual 521, 3, 34), (34, .aload_n 0, 1, 35), (35, .iload_n 1, 1, 36), (36, .invokevirtual 511, 3, 39), (39, .ifCond .ne 7, 3, 42), (42, .iconst 1, 1, 43), (43, .goto 4, 3, 46), (46, .iconst 0, 1, 47), (47, .istore_n 3, 1, 48), (48, .iconst (-1), 1, 49), (49, .istore 4, 2, 51), (51, .iconst (-1), 1, 52), (52, .istore 5, 2, 54), (54, .iconst 0, 1, 55), (55, .istore 6, 2, 57), (57, .iload 6, 2, 59), (59, .bipush 24, 2, 61), (61, .if_icmp .ge 95, 3, 64), (64, .iload 6, 2, 66), (66, .bipush 8, 2, 68), (68, .irem, 1, 69), (69, .aload_n 0, 1, 70), (70, .getfield 251, 3, 73), (73, .if_icmp .ge 77, 3, 76), (76, .aload_n 0, 1, 77), (77, .iload_n 1, 1, 78), (78, .iload 6, 2, 80), (80, .bipush 8, 2, 82), (82, .idiv, 1, 83), (83, .iload 6, 2, 85), (85, .bipush 8, 2, 87), (87, .irem, 1, 88), (88, .iload_n 3, 1, 89), (89, .invokevirtual 514, 3, 92), (92, .ifCond .eq 58, 3, 95), (95, .aload_n 0, 1, 96), (96, .invokevirtual 505, 3, 99), (99, .ldc_w 389, 3, 102), (102, .aload_n 0, 1, 103), (103, .iload 6, 2, 105), (105, .bipush 8, 2, 107), (107, .idiv, 1, 108), (108, .iload 6, 2, 110), (110, .bipush 8, 2, 112), (112, .irem, 1, 113), (113, .aload_n 0, 1, 114), (114, .invokevirtual 524, 3, 117), (117, .invokevirtual 518, 3, 120), (120, .invokestatic 104, 3, 123), (123, .istore 7, 2, 125), (125, .iload 7, 2, 127), (127, .iload 5, 2, 129), (129, .if_icmp .le 8, 3, 132), (132, .iload 6, 2, 134), (134, .goto 5, 3, 137), (137, .iload 4, 2, 139), (139, .istore 4, 2, 141), (141, .iload 5, 2, 143), (143, .iload 7, 2, 145), (145, .invokestatic 305, 3, 148), (148, .istore 5, 2, 150), (150, .iinc 6 1, 3, 153), (153, .goto (-96), 3, 156), (156, .iload 4, 2, 158), (158, .iconst (-1), 1, 159), (159, .if_icmp .ne 7, 3, 162), (162, .ldc_w 318, 3, 165), (165, .ireturn, 1, 166), (166, .iload_n 2, 1, 167), (167, .ifCond .ne 11, 3, 170), (170, .iload 4, 2, 172), (172, .bipush 8, 2, 174), (174, .idiv, 1, 175), (175, .goto 30, 3, 178), (178, .iload_n 2, 1, 179), (179, .iconst 1, 1, 180), (180, .if_icmp .ne 11, 3, 183), (183, .iload 4, 2, 185), (185, .bipush 8, 2, 187), (187, .irem, 1, 188), (188, .goto 17, 3, 191), (191, .iload 5, 2, 193), (193, .ldc_w 389, 3, 196), (196, .if_icmp .lt 7, 3, 199), (199, .iconst (-1), 1, 200), (200, .goto 5, 3, 203), (203, .iload 5, 2, 205), (205, .ireturn, 1, 206)] := zDL.of (by decide +kernel)
section
variable {p : Program} {l : Launch} {e : Env} {s : State} {m : MethodId} {args : Array Value} {below : List Frame} {meth : Method} {c : Code} {G : zG} {top : Int} {L : zL} {fu : Nat}
theorem Mo_worst_b139_w (E : zEv p m c cX12_worst 8 s args RX12 meth (some .int) G) {res : (zM × Int)} {k57 : zM → Int → Int → Int → Int → Int → Int → Int → Option (zM × Int)} (hk57 : ∀ (M : zM) (x0 : Int) (x1 : Int) (x2 : Int) (x3 : Int) (x4 : Int) (x5 : Int) (x6 : Int), InR x0 → InR x1 → InR x2 → InR x3 → InR x4 → InR x5 → InR x6 → ∀ (H : Heap) (locs : List Loc) (ls : Array Slot), zS G top L M s H locs → zLV ls 8 [some (zR G.2.2.1 x0), some (.int (zO x1)), some (.int (zO x2)), some (.int (zO x3)), some (.int (zO x4)), some (.int (zO x5)), some (.int (zO x6)), none] → k57 M x0 x1 x2 x3 x4 x5 x6 = some res → W p l e (zrm 47 0 0) s m args below meth c H locs 0 0 (MQ below (zQ G top L res.1 (some (.int (zO res.2))) (InR res.2)) args s 0 0 (zA G)) (F0 m 57 ls [])) {M : zM} {x0 : Int} {x1 : Int} {x2 : Int} {x3 : Int} {x5 : Int} {x6 : Int} {x7 : Int} {y0 : Int} {H : Heap} {locs : List Loc} {ls : Array Slot} (hx0 : InR x0) (hx1 : InR x1) (hx2 : InR x2) (hx3 : InR x3) (hx5 : InR x5) (hx6 : InR x6) (hx7 : InR x7) (hy0 : InR y0) (S : zS G top L M s H locs) (hl : zLV ls 8 [some (zR G.2.2.1 x0), some (.int (zO x1)), some (.int (zO x2)), some (.int (zO x3)), none, some (.int (zO x5)), some (.int (zO x6)), some (.int (zO x7))]) (h : Mo_worst_b139 fu k57 L M x0 x1 x2 x3 x5 x6 x7 y0 = some res) : W p l e (zrm 47 0 0) s m args below meth c H locs 0 0 (MQ below (zQ G top L res.1 (some (.int (zO res.2))) (InR res.2)) args s 0 0 (zA G)) (F0 m 139 ls [.int (zO y0)]) := by
  unfold Mo_worst_b139 at h
  refine u_ist (y := y0) (vs' := [some (zR G.2.2.1 x0), some (.int (zO x1)), some (.int (zO x2)), some (.int (zO x3)), some (.int (zO y0)), some (.int (zO x5)), some (.int (zO x6)), some (.int (zO x7))]) E rfl (Mo_worst_dc.at 73 rfl) hl (by decide) rfl (fun ls hl => ?_)
  refine u_il (x := x5) E (Mo_worst_dc.at 74 rfl) hl rfl ?_
  refine u_il (x := x7) E (Mo_worst_dc.at 75 rfl) hl rfl ?_
  refine r_max (rest := []) E hx5 hx7 hl.size zw_8_125 zw_4_56 zw_1_17 zw_4_57 (by decide) (by simp [zR_cat, zcat_I, zcat_J, zcat_S, zrm]) ⟨Nat.zero_le _, Nat.zero_le _⟩ (Mo_worst_dc.at 76 rfl) ?_
  obtain ⟨v25, ev25, h⟩ := lt1_e h
  have hv25 := inR_eq ev25 (inR_max hx5 hx7)
  refine u_ist (y := v25) (vs' := [some (zR G.2.2.1 x0), some (.int (zO x1)), some (.int (zO x2)), some (.int (zO x3)), some (.int (zO y0)), some (.int (zO v25)), some (.int (zO x6)), some (.int (zO x7))]) E ev25 (Mo_worst_dc.at 77 rfl) hl (by decide) rfl (fun ls hl => ?_)
  obtain ⟨v26, ev26, h⟩ := lt1_e h
  have hv26 := inR_eq ev26 (inR_w32 _)
  refine u_iinc (y := v26) (vs' := [some (zR G.2.2.1 x0), some (.int (zO x1)), some (.int (zO x2)), some (.int (zO x3)), some (.int (zO y0)), some (.int (zO v25)), some (.int (zO v26)), some (.int (zO x7))]) E ev26 (Mo_worst_dc.at 78 rfl) hl rfl (by decide) rfl (fun ls hl => ?_)
  refine r_goto (tgt := 57) E (Mo_worst_dc.at 79 rfl) (by decide) ?_
  exact hk57 _ x0 x1 x2 x3 y0 v25 v26 hx0 hx1 hx2 hx3 hy0 hv25 hv26 _ _ _ S (hl.sub (And.intro rfl (And.intro rfl (And.intro rfl (And.intro rfl (And.intro rfl (And.intro rfl (And.intro rfl True.intro)))))))) h
theorem Mo_worst_s57_w (E : zEv p m c cX12_worst 8 s args RX12 meth (some .int) G) {res : (zM × Int)} {k57 : zM → Int → Int → Int → Int → Int → Int → Int → Option (zM × Int)} (hk57 : ∀ (M : zM) (x0 : Int) (x1 : Int) (x2 : Int) (x3 : Int) (x4 : Int) (x5 : Int) (x6 : Int), InR x0 → InR x1 → InR x2 → InR x3 → InR x4 → InR x5 → InR x6 → ∀ (H : Heap) (locs : List Loc) (ls : Array Slot), zS G top L M s H locs → zLV ls 8 [some (zR G.2.2.1 x0), some (.int (zO x1)), some (.int (zO x2)), some (.int (zO x3)), some (.int (zO x4)), some (.int (zO x5)), some (.int (zO x6)), none] → k57 M x0 x1 x2 x3 x4 x5 x6 = some res → W p l e (zrm 47 0 0) s m args below meth c H locs 0 0 (MQ below (zQ G top L res.1 (some (.int (zO res.2))) (InR res.2)) args s 0 0 (zA G)) (F0 m 57 ls [])) {M : zM} {x0 : Int} {x1 : Int} {x2 : Int} {x3 : Int} {x4 : Int} {x5 : Int} {x6 : Int} {H : Heap} {locs : List Loc} {ls : Array Slot} (hx0 : InR x0) (hx1 : InR x1) (hx2 : InR x2) (hx3 : InR x3) (hx4 : InR x4) (hx5 : InR x5) (hx6 : InR x6) (S : zS G top L M s H locs) (hl : zLV ls 8 [some (zR G.2.2.1 x0), some (.int (zO x1)), some (.int (zO x2)), some (.int (zO x3)), some (.int (zO x4)), some (.int (zO x5)), some (.int (zO x6)), none]) (h : Mo_worst_s57 fu k57 L M x0 x1 x2 x3 x4 x5 x6 = some res) : W p l e (zrm 47 0 0) s m args below meth c H locs 0 0 (MQ below (zQ G top L res.1 (some (.int (zO res.2))) (InR res.2)) args s 0 0 (zA G)) (F0 m 57 ls []) := by
  unfold Mo_worst_s57 at h
  refine u_il (x := x6) E (Mo_worst_dc.at 32 rfl) hl rfl ?_
  refine r_bipush E (Mo_worst_dc.at 33 rfl) rfl ?_
  refine r_icmp_ge (tgt := 156) E hx6 (show InR 24 by decide) (Mo_worst_dc.at 34 rfl) (by decide) (fun q => ?_) (fun q => ?_)
  · have h := ite_t h q
    refine u_il (x := x6) E (Mo_worst_dc.at 35 rfl) hl rfl ?_
    refine r_bipush E (Mo_worst_dc.at 36 rfl) rfl ?_
    refine r_irem E hx6 (show InR 8 by decide) (by decide) (Mo_worst_dc.at 37 rfl) ?_
    refine u_al_n (x := x0) E (Mo_worst_dc.at 38 rfl) hl rfl ?_
    obtain ⟨g13, h⟩ := ite_e h
    refine u_gI E zf_12_20 S g13 zw_6_227 (Mo_worst_dc.at 39 rfl) ?_
    refine r_icmp_ge (tgt := 150) E (inR_w32 _) (S.1.inR _ _) (Mo_worst_dc.at 40 rfl) (by decide) (fun q => ?_) (fun q => ?_)
    · have h := ite_t h q
      refine u_al_n (x := x0) E (Mo_worst_dc.at 41 rfl) hl rfl ?_
      refine u_il_n (x := x1) E (Mo_worst_dc.at 42 rfl) hl rfl ?_
      refine u_il (x := x6) E (Mo_worst_dc.at 43 rfl) hl rfl ?_
      refine r_bipush E (Mo_worst_dc.at 44 rfl) rfl ?_
      refine r_idiv E hx6 (show InR 8 by decide) (by decide) (Mo_worst_dc.at 45 rfl) ?_
      refine u_il (x := x6) E (Mo_worst_dc.at 46 rfl) hl rfl ?_
      refine r_bipush E (Mo_worst_dc.at 47 rfl) rfl ?_
      refine r_irem E hx6 (show InR 8 by decide) (by decide) (Mo_worst_dc.at 48 rfl) ?_
      refine u_il_n (x := x3) E (Mo_worst_dc.at 49 rfl) hl rfl ?_
      obtain ⟨r14, er14, h⟩ := bd1_e h
      refine u_cVI (As := [.int (zO x1), .int (zO (w32 (Int.tdiv x6 8))), .int (zO (w32 (Int.tmod x6 8))), .int (zO x3)]) (rest := []) E S zcw_yX12_isThere zw_9_99 zq_8_2 zw_9_97 zck_12.1 rfl g13 (Mo_isThere_c l G fu top L M x0 x1 (w32 (Int.tdiv x6 8)) (w32 (Int.tmod x6 8)) x3 hx0 hx1 (inR_w32 _) (inR_w32 _) hx3 er14) (zrm_ok (by decide) (by decide)) ⟨Nat.le_refl 0, Nat.le_refl 0⟩ rfl (Nat.zero_le 8) hl.size rfl (Mo_worst_dc.at 50 rfl) (fun H locs hr14 S15 => ?_)
      refine r_if_eq (tgt := 150) E (inR_01 hr14) (Mo_worst_dc.at 51 rfl) (by decide) (fun q => ?_) (fun q => ?_)
      · have h := ite_t h q
        obtain ⟨v16, ev16, h⟩ := lt1_e h
        have hv16 := inR_eq ev16 (inR_w32 _)
        refine u_iinc (y := v16) (vs' := [some (zR G.2.2.1 x0), some (.int (zO x1)), some (.int (zO x2)), some (.int (zO x3)), some (.int (zO x4)), some (.int (zO x5)), some (.int (zO v16)), none]) E ev16 (Mo_worst_dc.at 78 rfl) hl rfl (by decide) rfl (fun ls hl => ?_)
        refine r_goto (tgt := 57) E (Mo_worst_dc.at 79 rfl) (by decide) ?_
        exact hk57 _ x0 x1 x2 x3 x4 x5 v16 hx0 hx1 hx2 hx3 hx4 hx5 hv16 _ _ _ S15 (hl.sub (And.intro rfl (And.intro rfl (And.intro rfl (And.intro rfl (And.intro rfl (And.intro rfl (And.intro rfl True.intro)))))))) h
      · have h := ite_f h q
        refine u_al_n (x := x0) E (Mo_worst_dc.at 52 rfl) hl rfl ?_
        obtain ⟨M17, eM17, h⟩ := bd1_e h
        refine u_cVU (As := []) (rest := []) E S15 zcw_yX12_begin zw_9_95 zq_8_1 zw_9_93 zck_12.1 rfl g13 (Mo_begin_c l G fu top L M x0 hx0 eM17) (zrm_ok (by decide) (by decide)) ⟨Nat.le_refl 0, Nat.le_refl 0⟩ rfl (Nat.zero_le 8) hl.size rfl (Mo_worst_dc.at 53 rfl) (fun H locs _ S18 => ?_)
        refine r_ldcw (n := 1048576) E (Mo_worst_dc.at 54 rfl) zw_8_202 rfl ?_
        refine u_al_n (x := x0) E (Mo_worst_dc.at 55 rfl) hl rfl ?_
        refine u_il (x := x6) E (Mo_worst_dc.at 56 rfl) hl rfl ?_
        refine r_bipush E (Mo_worst_dc.at 57 rfl) rfl ?_
        refine r_idiv E hx6 (show InR 8 by decide) (by decide) (Mo_worst_dc.at 58 rfl) ?_
        refine u_il (x := x6) E (Mo_worst_dc.at 59 rfl) hl rfl ?_
        refine r_bipush E (Mo_worst_dc.at 60 rfl) rfl ?_
        refine r_irem E hx6 (show InR 8 by decide) (by decide) (Mo_worst_dc.at 61 rfl) ?_
        refine u_al_n (x := x0) E (Mo_worst_dc.at 62 rfl) hl rfl ?_
        obtain ⟨r19, er19, h⟩ := bd1_e h
        refine u_cVI (As := []) (rest := [.int (zO (w32 (Int.tmod x6 8))), .int (zO (w32 (Int.tdiv x6 8))), zR G.2.2.1 x0, .int (zO 1048576)]) E S18 zcw_yX12_allLives zw_9_79 zq_7_13 zw_9_77 zck_12.1 rfl g13 (Mo_allLives_c l G fu top L M17 x0 hx0 er19) (zrm_ok (by decide) (by decide)) ⟨Nat.le_refl 0, Nat.le_refl 0⟩ rfl (by simp [zR_cat, zcat_I, zcat_J, zcat_S]) hl.size rfl (Mo_worst_dc.at 63 rfl) (fun H locs hr19 S20 => ?_)
        obtain ⟨M22, r21, er21, h⟩ := bd2_e h
        refine u_cVI (As := [.int (zO (w32 (Int.tdiv x6 8))), .int (zO (w32 (Int.tmod x6 8))), .int (zO r19)]) (rest := [.int (zO 1048576)]) E S20 zcw_yX12_behindSo zw_9_107 zq_8_4 zw_9_105 zck_12.1 rfl g13 (Mo_behindSo_c l G fu top L M17 x0 (w32 (Int.tdiv x6 8)) (w32 (Int.tmod x6 8)) r19 hx0 (inR_w32 _) (inR_w32 _) hr19 er21) (zrm_ok (by decide) (by decide)) ⟨Nat.le_refl 0, Nat.le_refl 0⟩ rfl (by simp [zR_cat, zcat_I, zcat_J, zcat_S]) hl.size rfl (Mo_worst_dc.at 64 rfl) (fun H locs hr21 S23 => ?_)
        refine r_min (rest := []) E (show InR 1048576 by decide) hr21 hl.size zw_7_164 zw_4_47 zw_1_17 zw_4_48 (by decide) (by simp [zR_cat, zcat_I, zcat_J, zcat_S, zrm]) ⟨Nat.zero_le _, Nat.zero_le _⟩ (Mo_worst_dc.at 65 rfl) ?_
        obtain ⟨v24, ev24, h⟩ := lt1_e h
        have hv24 := inR_eq ev24 (inR_min (show InR 1048576 by decide) hr21)
        refine u_ist (y := v24) (vs' := [some (zR G.2.2.1 x0), some (.int (zO x1)), some (.int (zO x2)), some (.int (zO x3)), some (.int (zO x4)), some (.int (zO x5)), some (.int (zO x6)), some (.int (zO v24))]) E ev24 (Mo_worst_dc.at 66 rfl) hl (by decide) rfl (fun ls hl => ?_)
        refine u_il (x := v24) E (Mo_worst_dc.at 67 rfl) hl rfl ?_
        refine u_il (x := x5) E (Mo_worst_dc.at 68 rfl) hl rfl ?_
        refine r_icmp_le (tgt := 137) E hv24 hx5 (Mo_worst_dc.at 69 rfl) (by decide) (fun q => ?_) (fun q => ?_)
        · have h := ite_t h q
          refine u_il (x := x6) E (Mo_worst_dc.at 70 rfl) hl rfl ?_
          refine r_goto (tgt := 139) E (Mo_worst_dc.at 71 rfl) (by decide) ?_
          exact Mo_worst_b139_w (x0 := x0) (x1 := x1) (x2 := x2) (x3 := x3) (x5 := x5) (x6 := x6) (x7 := v24) (y0 := x6) E hk57 hx0 hx1 hx2 hx3 hx5 hx6 hv24 hx6 S23 (hl.sub (And.intro rfl (And.intro rfl (And.intro rfl (And.intro rfl (And.intro rfl (And.intro rfl (And.intro rfl True.intro)))))))) h
        · have h := ite_f h q
          refine u_il (x := x4) E (Mo_worst_dc.at 72 rfl) hl rfl ?_
          exact Mo_worst_b139_w (x0 := x0) (x1 := x1) (x2 := x2) (x3 := x3) (x5 := x5) (x6 := x6) (x7 := v24) (y0 := x4) E hk57 hx0 hx1 hx2 hx3 hx5 hx6 hv24 hx4 S23 (hl.sub (And.intro rfl (And.intro rfl (And.intro rfl (And.intro rfl (And.intro rfl (And.intro rfl (And.intro rfl True.intro)))))))) h
    · have h := ite_f h q
      obtain ⟨v27, ev27, h⟩ := lt1_e h
      have hv27 := inR_eq ev27 (inR_w32 _)
      refine u_iinc (y := v27) (vs' := [some (zR G.2.2.1 x0), some (.int (zO x1)), some (.int (zO x2)), some (.int (zO x3)), some (.int (zO x4)), some (.int (zO x5)), some (.int (zO v27)), none]) E ev27 (Mo_worst_dc.at 78 rfl) hl rfl (by decide) rfl (fun ls hl => ?_)
      refine r_goto (tgt := 57) E (Mo_worst_dc.at 79 rfl) (by decide) ?_
      exact hk57 _ x0 x1 x2 x3 x4 x5 v27 hx0 hx1 hx2 hx3 hx4 hx5 hv27 _ _ _ S (hl.sub (And.intro rfl (And.intro rfl (And.intro rfl (And.intro rfl (And.intro rfl (And.intro rfl (And.intro rfl True.intro)))))))) h
  · have h := ite_f h q
    refine u_il (x := x4) E (Mo_worst_dc.at 80 rfl) hl rfl ?_
    refine r_iconst E (Mo_worst_dc.at 81 rfl) ?_
    refine r_icmp_ne (tgt := 166) E hx4 (show InR (-1) by decide) (Mo_worst_dc.at 82 rfl) (by decide) (fun q => ?_) (fun q => ?_)
    · have h := ite_t h q
      refine r_ldcw (n := (-1000000)) E (Mo_worst_dc.at 83 rfl) zw_8_134 rfl ?_
      cases h
      exact r_iret E S (show InR (-1000000) by decide) (Mo_worst_dc.at 84 rfl)
    · have h := ite_f h q
      refine u_il_n (x := x2) E (Mo_worst_dc.at 85 rfl) hl rfl ?_
      refine r_if_ne (tgt := 178) E hx2 (Mo_worst_dc.at 86 rfl) (by decide) (fun q => ?_) (fun q => ?_)
      · have h := ite_t h q
        refine u_il (x := x4) E (Mo_worst_dc.at 87 rfl) hl rfl ?_
        refine r_bipush E (Mo_worst_dc.at 88 rfl) rfl ?_
        refine r_idiv E hx4 (show InR 8 by decide) (by decide) (Mo_worst_dc.at 89 rfl) ?_
        refine r_goto (tgt := 205) E (Mo_worst_dc.at 90 rfl) (by decide) ?_
        cases h
        exact r_iret E S (inR_w32 _) (Mo_worst_dc.at 104 rfl)
      · have h := ite_f h q
        refine u_il_n (x := x2) E (Mo_worst_dc.at 91 rfl) hl rfl ?_
        refine r_iconst E (Mo_worst_dc.at 92 rfl) ?_
        refine r_icmp_ne (tgt := 191) E hx2 (show InR 1 by decide) (Mo_worst_dc.at 93 rfl) (by decide) (fun q => ?_) (fun q => ?_)
        · have h := ite_t h q
          refine u_il (x := x4) E (Mo_worst_dc.at 94 rfl) hl rfl ?_
          refine r_bipush E (Mo_worst_dc.at 95 rfl) rfl ?_
          refine r_irem E hx4 (show InR 8 by decide) (by decide) (Mo_worst_dc.at 96 rfl) ?_
          refine r_goto (tgt := 205) E (Mo_worst_dc.at 97 rfl) (by decide) ?_
          cases h
          exact r_iret E S (inR_w32 _) (Mo_worst_dc.at 104 rfl)
        · have h := ite_f h q
          refine u_il (x := x5) E (Mo_worst_dc.at 98 rfl) hl rfl ?_
          refine r_ldcw (n := 1048576) E (Mo_worst_dc.at 99 rfl) zw_8_202 rfl ?_
          refine r_icmp_lt (tgt := 203) E hx5 (show InR 1048576 by decide) (Mo_worst_dc.at 100 rfl) (by decide) (fun q => ?_) (fun q => ?_)
          · have h := ite_t h q
            refine u_il (x := x5) E (Mo_worst_dc.at 103 rfl) hl rfl ?_
            cases h
            exact r_iret E S hx5 (Mo_worst_dc.at 104 rfl)
          · have h := ite_f h q
            refine r_iconst E (Mo_worst_dc.at 101 rfl) ?_
            refine r_goto (tgt := 205) E (Mo_worst_dc.at 102 rfl) (by decide) ?_
            cases h
            exact r_iret E S (show InR (-1) by decide) (Mo_worst_dc.at 104 rfl)
theorem Mo_worst_l57_w (E : zEv p m c cX12_worst 8 s args RX12 meth (some .int) G) {res : (zM × Int)} : ∀ (n : Nat) (M : zM) (x0 : Int) (x1 : Int) (x2 : Int) (x3 : Int) (x4 : Int) (x5 : Int) (x6 : Int), InR x0 → InR x1 → InR x2 → InR x3 → InR x4 → InR x5 → InR x6 → ∀ (H : Heap) (locs : List Loc) (ls : Array Slot), zS G top L M s H locs → zLV ls 8 [some (zR G.2.2.1 x0), some (.int (zO x1)), some (.int (zO x2)), some (.int (zO x3)), some (.int (zO x4)), some (.int (zO x5)), some (.int (zO x6)), none] → Mo_worst_l57 fu L n M x0 x1 x2 x3 x4 x5 x6 = some res → W p l e (zrm 47 0 0) s m args below meth c H locs 0 0 (MQ below (zQ G top L res.1 (some (.int (zO res.2))) (InR res.2)) args s 0 0 (zA G)) (F0 m 57 ls [])
  | 0, _, _, _, _, _, _, _, _ => fun _ _ _ _ _ _ _ _ _ _ _ _ h => (by cases h)
  | n + 1, M, x0, x1, x2, x3, x4, x5, x6 => fun hx0 hx1 hx2 hx3 hx4 hx5 hx6 H locs ls S hl h => Mo_worst_s57_w E (fun M x0 x1 x2 x3 x4 x5 x6 hx0 hx1 hx2 hx3 hx4 hx5 hx6 H locs ls S hl h => Mo_worst_l57_w E n M x0 x1 x2 x3 x4 x5 x6 hx0 hx1 hx2 hx3 hx4 hx5 hx6 H locs ls S hl h) hx0 hx1 hx2 hx3 hx4 hx5 hx6 S hl h
theorem Mo_worst_w (E : zEv p m c cX12_worst 8 s args RX12 meth (some .int) G) {res : (zM × Int)} {M : zM} {a0 : Int} {a1 : Int} {a2 : Int} {H : Heap} {locs : List Loc} {ls : Array Slot} (ha0 : InR a0) (ha1 : InR a1) (ha2 : InR a2) (S : zS G top L M s H locs) (hl : zLV ls 8 [some (zR G.2.2.1 a0), some (.int (zO a1)), some (.int (zO a2)), none, none, none, none, none]) (h : Mo_worst fu L M a0 a1 a2 = some res) : W p l e (zrm 47 0 0) s m args below meth c H locs 0 0 (MQ below (zQ G top L res.1 (some (.int (zO res.2))) (InR res.2)) args s 0 0 (zA G)) (F0 m 0 ls []) := by
  unfold Mo_worst at h
  refine u_al_n (x := a0) E (Mo_worst_dc.at 0 rfl) hl rfl ?_
  refine r_iconst E (Mo_worst_dc.at 1 rfl) ?_
  obtain ⟨g1, h⟩ := ite_e h
  obtain ⟨M2, eM2, h⟩ := lt1_e h
  refine u_pI E eM2 zf_12_0 S g1 (show InR 0 by decide) (Or.inl rfl) rfl zw_6_207 (Mo_worst_dc.at 2 rfl) (fun H locs S3 => ?_)
  refine u_al_n (x := a0) E (Mo_worst_dc.at 3 rfl) hl rfl ?_
  refine u_il_n (x := a1) E (Mo_worst_dc.at 4 rfl) hl rfl ?_
  obtain ⟨r4, er4, h⟩ := bd1_e h
  refine u_cVI (As := [.int (zO a1)]) (rest := []) E S3 zcw_yX12_isGift zw_8_77 zq_5_12 zw_8_75 zck_12.1 rfl g1 (Mo_isGift_c l G fu top L M2 a0 a1 ha0 ha1 er4) (zrm_ok (by decide) (by decide)) ⟨Nat.le_refl 0, Nat.le_refl 0⟩ rfl (Nat.zero_le 8) hl.size rfl (Mo_worst_dc.at 5 rfl) (fun H locs hr4 S5 => ?_)
  refine r_if_eq (tgt := 25) E (inR_01 hr4) (Mo_worst_dc.at 6 rfl) (by decide) (fun q => ?_) (fun q => ?_)
  · have h := ite_t h q
    refine r_ldcw (n := (-1000000)) E (Mo_worst_dc.at 13 rfl) zw_8_134 rfl ?_
    cases h
    exact r_iret E S5 (show InR (-1000000) by decide) (Mo_worst_dc.at 14 rfl)
  · have h := ite_f h q
    refine u_il_n (x := a2) E (Mo_worst_dc.at 7 rfl) hl rfl ?_
    refine r_i2l E ha2 (Mo_worst_dc.at 8 rfl) ?_
    refine r_lconst (x := 0) E (Mo_worst_dc.at 9 rfl) rfl ?_
    refine r_ldc2 (x := 2) E (Mo_worst_dc.at 10 rfl) zw_7_140 rfl ?_
    obtain ⟨r6, er6, h⟩ := bd1_e h
    refine u_cSI (As := [.long (Int64.ofInt a2), .long (Int64.ofInt 0), .long (Int64.ofInt 2)]) (rest := []) E S5 zcw_yX12_in zw_7_134 zw_7_133 (Mo_in_c l G fu top L M2 a2 0 2 ha2 (show InR 0 by decide) (show InR 2 by decide) er6) (zrm_ok (by decide) (by decide)) ⟨Nat.le_refl 0, Nat.le_refl 0⟩ rfl (Nat.zero_le 8) hl.size rfl (Mo_worst_dc.at 11 rfl) (fun H locs hr6 S7 => ?_)
    refine r_if_ne (tgt := 29) E (inR_01 hr6) (Mo_worst_dc.at 12 rfl) (by decide) (fun q => ?_) (fun q => ?_)
    · have h := ite_t h q
      refine r_ldcw (n := (-1000000)) E (Mo_worst_dc.at 13 rfl) zw_8_134 rfl ?_
      cases h
      exact r_iret E S7 (show InR (-1000000) by decide) (Mo_worst_dc.at 14 rfl)
    · have h := ite_f h q
      refine u_al_n (x := a0) E (Mo_worst_dc.at 15 rfl) hl rfl ?_
      refine u_il_n (x := a1) E (Mo_worst_dc.at 16 rfl) hl rfl ?_
      obtain ⟨M8, eM8, h⟩ := bd1_e h
      refine u_cVU (As := [.int (zO a1)]) (rest := []) E S7 zcw_yX12_asksAll zw_9_75 zq_7_12 zw_9_73 zck_12.1 rfl g1 (Mo_asksAll_c l G fu top L M2 a0 a1 ha0 ha1 eM8) (zrm_ok (by decide) (by decide)) ⟨Nat.le_refl 0, Nat.le_refl 0⟩ rfl (Nat.zero_le 8) hl.size rfl (Mo_worst_dc.at 17 rfl) (fun H locs _ S9 => ?_)
      refine u_al_n (x := a0) E (Mo_worst_dc.at 18 rfl) hl rfl ?_
      refine u_il_n (x := a1) E (Mo_worst_dc.at 19 rfl) hl rfl ?_
      obtain ⟨M11, r10, er10, h⟩ := bd2_e h
      refine u_cVI (As := [.int (zO a1)]) (rest := []) E S9 zcw_yX12_hasVested zw_9_87 zq_7_15 zw_9_85 zck_12.1 rfl g1 (Mo_hasVested_c l G fu top L M8 a0 a1 ha0 ha1 er10) (zrm_ok (by decide) (by decide)) ⟨Nat.le_refl 0, Nat.le_refl 0⟩ rfl (Nat.zero_le 8) hl.size rfl (Mo_worst_dc.at 20 rfl) (fun H locs hr10 S12 => ?_)
      refine r_if_ne (tgt := 46) E (inR_01 hr10) (Mo_worst_dc.at 21 rfl) (by decide) (fun q => ?_) (fun q => ?_)
      · have h := ite_t h q
        refine r_iconst E (Mo_worst_dc.at 22 rfl) ?_
        refine r_goto (tgt := 47) E (Mo_worst_dc.at 23 rfl) (by decide) ?_
        refine u_ist_n (y := 1) (vs' := [some (zR G.2.2.1 a0), some (.int (zO a1)), some (.int (zO a2)), some (.int (zO 1)), none, none, none, none]) E rfl (Mo_worst_dc.at 25 rfl) hl (by decide) rfl (fun ls hl => ?_)
        refine r_iconst E (Mo_worst_dc.at 26 rfl) ?_
        refine u_ist (y := (-1)) (vs' := [some (zR G.2.2.1 a0), some (.int (zO a1)), some (.int (zO a2)), some (.int (zO 1)), some (.int (zO (-1))), none, none, none]) E rfl (Mo_worst_dc.at 27 rfl) hl (by decide) rfl (fun ls hl => ?_)
        refine r_iconst E (Mo_worst_dc.at 28 rfl) ?_
        refine u_ist (y := (-1)) (vs' := [some (zR G.2.2.1 a0), some (.int (zO a1)), some (.int (zO a2)), some (.int (zO 1)), some (.int (zO (-1))), some (.int (zO (-1))), none, none]) E rfl (Mo_worst_dc.at 29 rfl) hl (by decide) rfl (fun ls hl => ?_)
        refine r_iconst E (Mo_worst_dc.at 30 rfl) ?_
        refine u_ist (y := 0) (vs' := [some (zR G.2.2.1 a0), some (.int (zO a1)), some (.int (zO a2)), some (.int (zO 1)), some (.int (zO (-1))), some (.int (zO (-1))), some (.int (zO 0)), none]) E rfl (Mo_worst_dc.at 31 rfl) hl (by decide) rfl (fun ls hl => ?_)
        exact Mo_worst_l57_w E fu _ a0 a1 a2 1 (-1) (-1) 0 ha0 ha1 ha2 (show InR 1 by decide) (show InR (-1) by decide) (show InR (-1) by decide) (show InR 0 by decide) _ _ _ S12 (hl.sub (And.intro rfl (And.intro rfl (And.intro rfl (And.intro rfl (And.intro rfl (And.intro rfl (And.intro rfl True.intro)))))))) h
      · have h := ite_f h q
        refine r_iconst E (Mo_worst_dc.at 24 rfl) ?_
        refine u_ist_n (y := 0) (vs' := [some (zR G.2.2.1 a0), some (.int (zO a1)), some (.int (zO a2)), some (.int (zO 0)), none, none, none, none]) E rfl (Mo_worst_dc.at 25 rfl) hl (by decide) rfl (fun ls hl => ?_)
        refine r_iconst E (Mo_worst_dc.at 26 rfl) ?_
        refine u_ist (y := (-1)) (vs' := [some (zR G.2.2.1 a0), some (.int (zO a1)), some (.int (zO a2)), some (.int (zO 0)), some (.int (zO (-1))), none, none, none]) E rfl (Mo_worst_dc.at 27 rfl) hl (by decide) rfl (fun ls hl => ?_)
        refine r_iconst E (Mo_worst_dc.at 28 rfl) ?_
        refine u_ist (y := (-1)) (vs' := [some (zR G.2.2.1 a0), some (.int (zO a1)), some (.int (zO a2)), some (.int (zO 0)), some (.int (zO (-1))), some (.int (zO (-1))), none, none]) E rfl (Mo_worst_dc.at 29 rfl) hl (by decide) rfl (fun ls hl => ?_)
        refine r_iconst E (Mo_worst_dc.at 30 rfl) ?_
        refine u_ist (y := 0) (vs' := [some (zR G.2.2.1 a0), some (.int (zO a1)), some (.int (zO a2)), some (.int (zO 0)), some (.int (zO (-1))), some (.int (zO (-1))), some (.int (zO 0)), none]) E rfl (Mo_worst_dc.at 31 rfl) hl (by decide) rfl (fun ls hl => ?_)
        exact Mo_worst_l57_w E fu _ a0 a1 a2 0 (-1) (-1) 0 ha0 ha1 ha2 (show InR 0 by decide) (show InR (-1) by decide) (show InR (-1) by decide) (show InR 0 by decide) _ _ _ S12 (hl.sub (And.intro rfl (And.intro rfl (And.intro rfl (And.intro rfl (And.intro rfl (And.intro rfl (And.intro rfl True.intro)))))))) h
theorem Mo_worst_c (l : Launch) (G : zG) (fu : Nat) (top : Int) (L : zL) (M : zM) (a0 : Int) (a1 : Int) (a2 : Int) {res : (zM × Int)} (ha0 : InR a0) (ha1 : InR a1) (ha2 : InR a2) (h : Mo_worst fu L M a0 a1 a2 = some res) : Met l yX12_worst (Cond.code yX12_worst cX12_worst 8 (some .int) :: zTB) (zrm 47 0 0) (va_Pc [zR G.2.2.1 a0, .int (zO a1), .int (zO a2)] (zPre G top L M)) (zQ G top L res.1 (some (.int (zO res.2))) (InR res.2)) 0 0 (zA G) :=
  z_met (by decide +kernel) (by simp [zR_cat, zcat_I, zcat_S]) (Nat.le_of_ble_eq_true rfl) fun p e s m below meth c ls E hn S hl => Mo_worst_w E ha0 ha1 ha2 S (hl.sub (And.intro rfl (And.intro rfl (And.intro rfl True.intro)))) h
end
theorem Mo_firstBad_dc : zDL cX12_firstBad [(0, .aload_n 0, 1, 1), (1, .iconst 0, 1, 2), (2, .putfield 66, 3, 5), (5, .iconst 0, 1, 6), (6, .istore_n 1, 1, 7), (7, .iload_n 1, 1, 8), (8, .aload_n 0, 1, 9), (9, .invokevirtual 268, 3, 12), (12, .if_icmp .ge 19, 3, 15), (15, .aload_n 0, 1, 16), (16, .iload_n 1, 1, 17), (17, .invokevirtual 530, 3, 20), (20, .ifCond .ne 5, 3, 23), (23, .iload_n 1, 1, 24), (24, .ireturn, 1, 25), (25, .iinc 1 1, 3, 28), (28, .goto (-21), 3, 31), (31, .iconst (-1), 1, 32), (32, .ireturn, 1, 33)] := zDL.of (by decide +kernel)
section
variable {p : Program} {l : Launch} {e : Env} {s : State} {m : MethodId} {args : Array Value} {below : List Frame} {meth : Method} {c : Code} {G : zG} {top : Int} {L : zL} {fu : Nat}
theorem Mo_firstBad_s7_w (E : zEv p m c cX12_firstBad 2 s args RX12 meth (some .int) G) {res : (zM × Int)} {k7 : zM → Int → Int → Option (zM × Int)} (hk7 : ∀ (M : zM) (x0 : Int) (x1 : Int), InR x0 → InR x1 → ∀ (H : Heap) (locs : List Loc) (ls : Array Slot), zS G top L M s H locs → zLV ls 2 [some (zR G.2.2.1 x0), some (.int (zO x1))] → k7 M x0 x1 = some res → W p l e (zrm 49 0 0) s m args below meth c H locs 0 0 (MQ below (zQ G top L res.1 (some (.int (zO res.2))) (InR res.2)) args s 0 0 (zA G)) (F0 m 7 ls [])) {M : zM} {x0 : Int} {x1 : Int} {H : Heap} {locs : List Loc} {ls : Array Slot} (hx0 : InR x0) (hx1 : InR x1) (S : zS G top L M s H locs) (hl : zLV ls 2 [some (zR G.2.2.1 x0), some (.int (zO x1))]) (h : Mo_firstBad_s7 fu k7 L M x0 x1 = some res) : W p l e (zrm 49 0 0) s m args below meth c H locs 0 0 (MQ below (zQ G top L res.1 (some (.int (zO res.2))) (InR res.2)) args s 0 0 (zA G)) (F0 m 7 ls []) := by
  unfold Mo_firstBad_s7 at h
  refine u_il_n (x := x1) E (Mo_firstBad_dc.at 5 rfl) hl rfl ?_
  refine u_al_n (x := x0) E (Mo_firstBad_dc.at 6 rfl) hl rfl ?_
  obtain ⟨g4, h⟩ := ite_e h
  obtain ⟨r5, er5, h⟩ := bd1_e h
  refine u_cVI (As := []) (rest := [.int (zO x1)]) E S zcw_yX12_gifts zw_8_62 zq_5_10 zw_8_60 zck_12.1 rfl g4 (Mo_gifts_c l G fu top L M x0 hx0 er5) (zrm_ok (by decide) (by decide)) ⟨Nat.le_refl 0, Nat.le_refl 0⟩ rfl (by simp [zR_cat, zcat_I, zcat_J, zcat_S]) hl.size rfl (Mo_firstBad_dc.at 7 rfl) (fun H locs hr5 S6 => ?_)
  refine r_icmp_ge (tgt := 31) E hx1 hr5 (Mo_firstBad_dc.at 8 rfl) (by decide) (fun q => ?_) (fun q => ?_)
  · have h := ite_t h q
    refine u_al_n (x := x0) E (Mo_firstBad_dc.at 9 rfl) hl rfl ?_
    refine u_il_n (x := x1) E (Mo_firstBad_dc.at 10 rfl) hl rfl ?_
    obtain ⟨M8, r7, er7, h⟩ := bd2_e h
    refine u_cVI (As := [.int (zO x1)]) (rest := []) E S6 zcw_yX12_isGoodGift zw_9_71 zq_7_11 zw_9_69 zck_12.1 rfl g4 (Mo_isGoodGift_c l G fu top L M x0 x1 hx0 hx1 er7) (zrm_ok (by decide) (by decide)) ⟨Nat.le_refl 0, Nat.le_refl 0⟩ rfl (Nat.zero_le 8) hl.size rfl (Mo_firstBad_dc.at 11 rfl) (fun H locs hr7 S9 => ?_)
    refine r_if_ne (tgt := 25) E (inR_01 hr7) (Mo_firstBad_dc.at 12 rfl) (by decide) (fun q => ?_) (fun q => ?_)
    · have h := ite_t h q
      refine u_il_n (x := x1) E (Mo_firstBad_dc.at 13 rfl) hl rfl ?_
      cases h
      exact r_iret E S9 hx1 (Mo_firstBad_dc.at 14 rfl)
    · have h := ite_f h q
      obtain ⟨v10, ev10, h⟩ := lt1_e h
      have hv10 := inR_eq ev10 (inR_w32 _)
      refine u_iinc (y := v10) (vs' := [some (zR G.2.2.1 x0), some (.int (zO v10))]) E ev10 (Mo_firstBad_dc.at 15 rfl) hl rfl (by decide) rfl (fun ls hl => ?_)
      refine r_goto (tgt := 7) E (Mo_firstBad_dc.at 16 rfl) (by decide) ?_
      exact hk7 _ x0 v10 hx0 hv10 _ _ _ S9 (hl.sub (And.intro rfl (And.intro rfl True.intro))) h
  · have h := ite_f h q
    refine r_iconst E (Mo_firstBad_dc.at 17 rfl) ?_
    cases h
    exact r_iret E S6 (show InR (-1) by decide) (Mo_firstBad_dc.at 18 rfl)
theorem Mo_firstBad_l7_w (E : zEv p m c cX12_firstBad 2 s args RX12 meth (some .int) G) {res : (zM × Int)} : ∀ (n : Nat) (M : zM) (x0 : Int) (x1 : Int), InR x0 → InR x1 → ∀ (H : Heap) (locs : List Loc) (ls : Array Slot), zS G top L M s H locs → zLV ls 2 [some (zR G.2.2.1 x0), some (.int (zO x1))] → Mo_firstBad_l7 fu L n M x0 x1 = some res → W p l e (zrm 49 0 0) s m args below meth c H locs 0 0 (MQ below (zQ G top L res.1 (some (.int (zO res.2))) (InR res.2)) args s 0 0 (zA G)) (F0 m 7 ls [])
  | 0, _, _, _ => fun _ _ _ _ _ _ _ h => (by cases h)
  | n + 1, M, x0, x1 => fun hx0 hx1 H locs ls S hl h => Mo_firstBad_s7_w E (fun M x0 x1 hx0 hx1 H locs ls S hl h => Mo_firstBad_l7_w E n M x0 x1 hx0 hx1 H locs ls S hl h) hx0 hx1 S hl h
theorem Mo_firstBad_w (E : zEv p m c cX12_firstBad 2 s args RX12 meth (some .int) G) {res : (zM × Int)} {M : zM} {a0 : Int} {H : Heap} {locs : List Loc} {ls : Array Slot} (ha0 : InR a0) (S : zS G top L M s H locs) (hl : zLV ls 2 [some (zR G.2.2.1 a0), none]) (h : Mo_firstBad fu L M a0 = some res) : W p l e (zrm 49 0 0) s m args below meth c H locs 0 0 (MQ below (zQ G top L res.1 (some (.int (zO res.2))) (InR res.2)) args s 0 0 (zA G)) (F0 m 0 ls []) := by
  unfold Mo_firstBad at h
  refine u_al_n (x := a0) E (Mo_firstBad_dc.at 0 rfl) hl rfl ?_
  refine r_iconst E (Mo_firstBad_dc.at 1 rfl) ?_
  obtain ⟨g1, h⟩ := ite_e h
  obtain ⟨M2, eM2, h⟩ := lt1_e h
  refine u_pI E eM2 zf_12_0 S g1 (show InR 0 by decide) (Or.inl rfl) rfl zw_6_207 (Mo_firstBad_dc.at 2 rfl) (fun H locs S3 => ?_)
  refine r_iconst E (Mo_firstBad_dc.at 3 rfl) ?_
  refine u_ist_n (y := 0) (vs' := [some (zR G.2.2.1 a0), some (.int (zO 0))]) E rfl (Mo_firstBad_dc.at 4 rfl) hl (by decide) rfl (fun ls hl => ?_)
  exact Mo_firstBad_l7_w E fu _ a0 0 ha0 (show InR 0 by decide) _ _ _ S3 (hl.sub (And.intro rfl (And.intro rfl True.intro))) h
theorem Mo_firstBad_c (l : Launch) (G : zG) (fu : Nat) (top : Int) (L : zL) (M : zM) (a0 : Int) {res : (zM × Int)} (ha0 : InR a0) (h : Mo_firstBad fu L M a0 = some res) : Met l yX12_firstBad (Cond.code yX12_firstBad cX12_firstBad 2 (some .int) :: zTB) (zrm 49 0 0) (va_Pc [zR G.2.2.1 a0] (zPre G top L M)) (zQ G top L res.1 (some (.int (zO res.2))) (InR res.2)) 0 0 (zA G) :=
  z_met (by decide +kernel) (by simp [zR_cat, zcat_I, zcat_S]) (Nat.le_of_ble_eq_true rfl) fun p e s m below meth c ls E hn S hl => Mo_firstBad_w E ha0 S (hl.sub (And.intro rfl True.intro)) h
end
theorem Mo_image_dc : zDL cX12_image [(0, .aload_n 0, 1, 1), (1, .iconst 0, 1, 2), (2, .putfield 66, 3, 5), (5, .aload_n 0, 1, 6), (6, .getfield 238, 3, 9), (9, .ifCond .ne 5, 3, 12), (12, .iconst (-1), 1, 13), (13, .ireturn, 1, 14), (14, .iconst 0, 1, 15), (15, .istore_n 1, 1, 16), (16, .iload_n 1, 1, 17), (17, .sipush 2597, 3, 20), (20, .if_icmp .ge 21, 3, 23), (23, .aload_n 0, 1, 24), (24, .getfield 63, 3, 27), (27, .iload_n 1, 1, 28), (28, .aload_n 0, 1, 29), (29, .getfield 31, 3, 32), (32, .iload_n 1, 1, 33), (33, .iaload, 1, 34), (34, .iastore, 1, 35), (35, .iinc 1 1, 3, 38), (38, .goto (-22), 3, 41), (41, .aload_n 0, 1, 42), (42, .iconst 1, 1, 43), (43, .putfield 262, 3, 46), (46, .aload_n 0, 1, 47), (47, .getfield 31, 3, 50), (50, .iconst 0, 1, 51), (51, .iaload, 1, 52), (52, .ireturn, 1, 53)] := zDL.of (by decide +kernel)
section
variable {p : Program} {l : Launch} {e : Env} {s : State} {m : MethodId} {args : Array Value} {below : List Frame} {meth : Method} {c : Code} {G : zG} {top : Int} {L : zL} {fu : Nat}
theorem Mo_image_s16_w (E : zEv p m c cX12_image 2 s args RX12 meth (some .int) G) {res : (zM × Int)} {k16 : zM → Int → Int → Option (zM × Int)} (hk16 : ∀ (M : zM) (x0 : Int) (x1 : Int), InR x0 → InR x1 → ∀ (H : Heap) (locs : List Loc) (ls : Array Slot), zS G top L M s H locs → zLV ls 2 [some (zR G.2.2.1 x0), some (.int (zO x1))] → k16 M x0 x1 = some res → W p l e (zrm 1 0 0) s m args below meth c H locs 0 0 (MQ below (zQ G top L res.1 (some (.int (zO res.2))) (InR res.2)) args s 0 0 (zA G)) (F0 m 16 ls [])) {M : zM} {x0 : Int} {x1 : Int} {H : Heap} {locs : List Loc} {ls : Array Slot} (hx0 : InR x0) (hx1 : InR x1) (S : zS G top L M s H locs) (hl : zLV ls 2 [some (zR G.2.2.1 x0), some (.int (zO x1))]) (h : Mo_image_s16 fu k16 L M x0 x1 = some res) : W p l e (zrm 1 0 0) s m args below meth c H locs 0 0 (MQ below (zQ G top L res.1 (some (.int (zO res.2))) (InR res.2)) args s 0 0 (zA G)) (F0 m 16 ls []) := by
  unfold Mo_image_s16 at h
  refine u_il_n (x := x1) E (Mo_image_dc.at 10 rfl) hl rfl ?_
  refine r_sipush E (Mo_image_dc.at 11 rfl) rfl ?_
  refine r_icmp_ge (tgt := 41) E hx1 (show InR 2597 by decide) (Mo_image_dc.at 12 rfl) (by decide) (fun q => ?_) (fun q => ?_)
  · have h := ite_t h q
    refine u_al_n (x := x0) E (Mo_image_dc.at 13 rfl) hl rfl ?_
    obtain ⟨g4, h⟩ := ite_e h
    refine u_gR E zf_12_48 S g4 zw_7_15 (Mo_image_dc.at 14 rfl) ?_
    refine u_il_n (x := x1) E (Mo_image_dc.at 15 rfl) hl rfl ?_
    refine u_al_n (x := x0) E (Mo_image_dc.at 16 rfl) hl rfl ?_
    refine u_gR E zf_12_18 S g4 zw_6_225 (Mo_image_dc.at 17 rfl) ?_
    refine u_il_n (x := x1) E (Mo_image_dc.at 18 rfl) hl rfl ?_
    obtain ⟨g5, h⟩ := ite_e h
    obtain ⟨g6, h⟩ := ite_e h
    refine r_iald E S g5 g6 (Mo_image_dc.at 19 rfl) ?_
    obtain ⟨g7, h⟩ := ite_e h
    obtain ⟨g8, h⟩ := ite_e h
    obtain ⟨M9, eM9, h⟩ := lt1_e h
    refine u_iast E eM9 S g7 g8 (S.1.inR _ _) (Mo_image_dc.at 20 rfl) (fun H locs S10 => ?_)
    obtain ⟨v11, ev11, h⟩ := lt1_e h
    have hv11 := inR_eq ev11 (inR_w32 _)
    refine u_iinc (y := v11) (vs' := [some (zR G.2.2.1 x0), some (.int (zO v11))]) E ev11 (Mo_image_dc.at 21 rfl) hl rfl (by decide) rfl (fun ls hl => ?_)
    refine r_goto (tgt := 16) E (Mo_image_dc.at 22 rfl) (by decide) ?_
    exact hk16 _ x0 v11 hx0 hv11 _ _ _ S10 (hl.sub (And.intro rfl (And.intro rfl True.intro))) h
  · have h := ite_f h q
    refine u_al_n (x := x0) E (Mo_image_dc.at 23 rfl) hl rfl ?_
    refine r_iconst E (Mo_image_dc.at 24 rfl) ?_
    obtain ⟨g12, h⟩ := ite_e h
    obtain ⟨M13, eM13, h⟩ := lt1_e h
    refine u_pZ E eM13 zf_12_49 S g12 z01_1 (Or.inl rfl) rfl zw_7_16 (Mo_image_dc.at 25 rfl) (fun H locs S14 => ?_)
    refine u_al_n (x := x0) E (Mo_image_dc.at 26 rfl) hl rfl ?_
    refine u_gR E zf_12_18 S14 g12 zw_6_225 (Mo_image_dc.at 27 rfl) ?_
    refine r_iconst E (Mo_image_dc.at 28 rfl) ?_
    obtain ⟨g15, h⟩ := ite_e h
    obtain ⟨g16, h⟩ := ite_e h
    refine r_iald E S14 g15 g16 (Mo_image_dc.at 29 rfl) ?_
    cases h
    exact r_iret E S14 (S14.1.inR _ _) (Mo_image_dc.at 30 rfl)
theorem Mo_image_l16_w (E : zEv p m c cX12_image 2 s args RX12 meth (some .int) G) {res : (zM × Int)} : ∀ (n : Nat) (M : zM) (x0 : Int) (x1 : Int), InR x0 → InR x1 → ∀ (H : Heap) (locs : List Loc) (ls : Array Slot), zS G top L M s H locs → zLV ls 2 [some (zR G.2.2.1 x0), some (.int (zO x1))] → Mo_image_l16 fu L n M x0 x1 = some res → W p l e (zrm 1 0 0) s m args below meth c H locs 0 0 (MQ below (zQ G top L res.1 (some (.int (zO res.2))) (InR res.2)) args s 0 0 (zA G)) (F0 m 16 ls [])
  | 0, _, _, _ => fun _ _ _ _ _ _ _ h => (by cases h)
  | n + 1, M, x0, x1 => fun hx0 hx1 H locs ls S hl h => Mo_image_s16_w E (fun M x0 x1 hx0 hx1 H locs ls S hl h => Mo_image_l16_w E n M x0 x1 hx0 hx1 H locs ls S hl h) hx0 hx1 S hl h
theorem Mo_image_w (E : zEv p m c cX12_image 2 s args RX12 meth (some .int) G) {res : (zM × Int)} {M : zM} {a0 : Int} {H : Heap} {locs : List Loc} {ls : Array Slot} (ha0 : InR a0) (S : zS G top L M s H locs) (hl : zLV ls 2 [some (zR G.2.2.1 a0), none]) (h : Mo_image fu L M a0 = some res) : W p l e (zrm 1 0 0) s m args below meth c H locs 0 0 (MQ below (zQ G top L res.1 (some (.int (zO res.2))) (InR res.2)) args s 0 0 (zA G)) (F0 m 0 ls []) := by
  unfold Mo_image at h
  refine u_al_n (x := a0) E (Mo_image_dc.at 0 rfl) hl rfl ?_
  refine r_iconst E (Mo_image_dc.at 1 rfl) ?_
  obtain ⟨g1, h⟩ := ite_e h
  obtain ⟨M2, eM2, h⟩ := lt1_e h
  refine u_pI E eM2 zf_12_0 S g1 (show InR 0 by decide) (Or.inl rfl) rfl zw_6_207 (Mo_image_dc.at 2 rfl) (fun H locs S3 => ?_)
  refine u_al_n (x := a0) E (Mo_image_dc.at 3 rfl) hl rfl ?_
  refine u_gI E zf_12_19 S3 g1 zw_6_226 (Mo_image_dc.at 4 rfl) ?_
  refine r_if_ne (tgt := 14) E (S3.1.inR _ _) (Mo_image_dc.at 5 rfl) (by decide) (fun q => ?_) (fun q => ?_)
  · have h := ite_t h q
    refine r_iconst E (Mo_image_dc.at 6 rfl) ?_
    cases h
    exact r_iret E S3 (show InR (-1) by decide) (Mo_image_dc.at 7 rfl)
  · have h := ite_f h q
    refine r_iconst E (Mo_image_dc.at 8 rfl) ?_
    refine u_ist_n (y := 0) (vs' := [some (zR G.2.2.1 a0), some (.int (zO 0))]) E rfl (Mo_image_dc.at 9 rfl) hl (by decide) rfl (fun ls hl => ?_)
    exact Mo_image_l16_w E fu _ a0 0 ha0 (show InR 0 by decide) _ _ _ S3 (hl.sub (And.intro rfl (And.intro rfl True.intro))) h
theorem Mo_image_c (l : Launch) (G : zG) (fu : Nat) (top : Int) (L : zL) (M : zM) (a0 : Int) {res : (zM × Int)} (ha0 : InR a0) (h : Mo_image fu L M a0 = some res) : Met l yX12_image (Cond.code yX12_image cX12_image 2 (some .int) :: zTB) (zrm 1 0 0) (va_Pc [zR G.2.2.1 a0] (zPre G top L M)) (zQ G top L res.1 (some (.int (zO res.2))) (InR res.2)) 0 0 (zA G) :=
  z_met (by decide +kernel) (by simp [zR_cat, zcat_I, zcat_S]) (Nat.le_of_ble_eq_true rfl) fun p e s m below meth c ls E hn S hl => Mo_image_w E ha0 S (hl.sub (And.intro rfl True.intro)) h
end
theorem Mo_back_dc : zDL cX12_back [(0, .aload_n 0, 1, 1), (1, .iconst 0, 1, 2), (2, .putfield 66, 3, 5), (5, .aload_n 0, 1, 6), (6, .getfield 262, 3, 9), (9, .ifCond .ne 5, 3, 12), (12, .iconst (-1), 1, 13), (13, .ireturn, 1, 14), (14, .iconst 0, 1, 15), (15, .istore_n 1, 1, 16), (16, .iload_n 1, 1, 17), (17, .sipush 2597, 3, 20), (20, .if_icmp .ge 21, 3, 23), (23, .aload_n 0, 1, 24), (24, .getfield 31, 3, 27), (27, .iload_n 1, 1, 28), (28, .aload_n 0, 1, 29), (29, .getfield 63, 3, 32), (32, .iload_n 1, 1, 33), (33, .iaload, 1, 34), (34, .iastore, 1, 35), (35, .iinc 1 1, 3, 38), (38, .goto (-22), 3, 41), (41, .aload_n 0, 1, 42), (42, .iconst 0, 1, 43), (43, .putfield 259, 3, 46), (46, .aload_n 0, 1, 47), (47, .getfield 31, 3, 50), (50, .iconst 0, 1, 51), (51, .iaload, 1, 52), (52, .ireturn, 1, 53)] := zDL.of (by decide +kernel)
section
variable {p : Program} {l : Launch} {e : Env} {s : State} {m : MethodId} {args : Array Value} {below : List Frame} {meth : Method} {c : Code} {G : zG} {top : Int} {L : zL} {fu : Nat}
theorem Mo_back_s16_w (E : zEv p m c cX12_back 2 s args RX12 meth (some .int) G) {res : (zM × Int)} {k16 : zM → Int → Int → Option (zM × Int)} (hk16 : ∀ (M : zM) (x0 : Int) (x1 : Int), InR x0 → InR x1 → ∀ (H : Heap) (locs : List Loc) (ls : Array Slot), zS G top L M s H locs → zLV ls 2 [some (zR G.2.2.1 x0), some (.int (zO x1))] → k16 M x0 x1 = some res → W p l e (zrm 1 0 0) s m args below meth c H locs 0 0 (MQ below (zQ G top L res.1 (some (.int (zO res.2))) (InR res.2)) args s 0 0 (zA G)) (F0 m 16 ls [])) {M : zM} {x0 : Int} {x1 : Int} {H : Heap} {locs : List Loc} {ls : Array Slot} (hx0 : InR x0) (hx1 : InR x1) (S : zS G top L M s H locs) (hl : zLV ls 2 [some (zR G.2.2.1 x0), some (.int (zO x1))]) (h : Mo_back_s16 fu k16 L M x0 x1 = some res) : W p l e (zrm 1 0 0) s m args below meth c H locs 0 0 (MQ below (zQ G top L res.1 (some (.int (zO res.2))) (InR res.2)) args s 0 0 (zA G)) (F0 m 16 ls []) := by
  unfold Mo_back_s16 at h
  refine u_il_n (x := x1) E (Mo_back_dc.at 10 rfl) hl rfl ?_
  refine r_sipush E (Mo_back_dc.at 11 rfl) rfl ?_
  refine r_icmp_ge (tgt := 41) E hx1 (show InR 2597 by decide) (Mo_back_dc.at 12 rfl) (by decide) (fun q => ?_) (fun q => ?_)
  · have h := ite_t h q
    refine u_al_n (x := x0) E (Mo_back_dc.at 13 rfl) hl rfl ?_
    obtain ⟨g4, h⟩ := ite_e h
    refine u_gR E zf_12_18 S g4 zw_6_225 (Mo_back_dc.at 14 rfl) ?_
    refine u_il_n (x := x1) E (Mo_back_dc.at 15 rfl) hl rfl ?_
    refine u_al_n (x := x0) E (Mo_back_dc.at 16 rfl) hl rfl ?_
    refine u_gR E zf_12_48 S g4 zw_7_15 (Mo_back_dc.at 17 rfl) ?_
    refine u_il_n (x := x1) E (Mo_back_dc.at 18 rfl) hl rfl ?_
    obtain ⟨g5, h⟩ := ite_e h
    obtain ⟨g6, h⟩ := ite_e h
    refine r_iald E S g5 g6 (Mo_back_dc.at 19 rfl) ?_
    obtain ⟨g7, h⟩ := ite_e h
    obtain ⟨g8, h⟩ := ite_e h
    obtain ⟨M9, eM9, h⟩ := lt1_e h
    refine u_iast E eM9 S g7 g8 (S.1.inR _ _) (Mo_back_dc.at 20 rfl) (fun H locs S10 => ?_)
    obtain ⟨v11, ev11, h⟩ := lt1_e h
    have hv11 := inR_eq ev11 (inR_w32 _)
    refine u_iinc (y := v11) (vs' := [some (zR G.2.2.1 x0), some (.int (zO v11))]) E ev11 (Mo_back_dc.at 21 rfl) hl rfl (by decide) rfl (fun ls hl => ?_)
    refine r_goto (tgt := 16) E (Mo_back_dc.at 22 rfl) (by decide) ?_
    exact hk16 _ x0 v11 hx0 hv11 _ _ _ S10 (hl.sub (And.intro rfl (And.intro rfl True.intro))) h
  · have h := ite_f h q
    refine u_al_n (x := x0) E (Mo_back_dc.at 23 rfl) hl rfl ?_
    refine r_iconst E (Mo_back_dc.at 24 rfl) ?_
    obtain ⟨g12, h⟩ := ite_e h
    obtain ⟨M13, eM13, h⟩ := lt1_e h
    refine u_pI E eM13 zf_12_25 S g12 (show InR 0 by decide) (Or.inl rfl) rfl zw_6_232 (Mo_back_dc.at 25 rfl) (fun H locs S14 => ?_)
    refine u_al_n (x := x0) E (Mo_back_dc.at 26 rfl) hl rfl ?_
    refine u_gR E zf_12_18 S14 g12 zw_6_225 (Mo_back_dc.at 27 rfl) ?_
    refine r_iconst E (Mo_back_dc.at 28 rfl) ?_
    obtain ⟨g15, h⟩ := ite_e h
    obtain ⟨g16, h⟩ := ite_e h
    refine r_iald E S14 g15 g16 (Mo_back_dc.at 29 rfl) ?_
    cases h
    exact r_iret E S14 (S14.1.inR _ _) (Mo_back_dc.at 30 rfl)
theorem Mo_back_l16_w (E : zEv p m c cX12_back 2 s args RX12 meth (some .int) G) {res : (zM × Int)} : ∀ (n : Nat) (M : zM) (x0 : Int) (x1 : Int), InR x0 → InR x1 → ∀ (H : Heap) (locs : List Loc) (ls : Array Slot), zS G top L M s H locs → zLV ls 2 [some (zR G.2.2.1 x0), some (.int (zO x1))] → Mo_back_l16 fu L n M x0 x1 = some res → W p l e (zrm 1 0 0) s m args below meth c H locs 0 0 (MQ below (zQ G top L res.1 (some (.int (zO res.2))) (InR res.2)) args s 0 0 (zA G)) (F0 m 16 ls [])
  | 0, _, _, _ => fun _ _ _ _ _ _ _ h => (by cases h)
  | n + 1, M, x0, x1 => fun hx0 hx1 H locs ls S hl h => Mo_back_s16_w E (fun M x0 x1 hx0 hx1 H locs ls S hl h => Mo_back_l16_w E n M x0 x1 hx0 hx1 H locs ls S hl h) hx0 hx1 S hl h
theorem Mo_back_w (E : zEv p m c cX12_back 2 s args RX12 meth (some .int) G) {res : (zM × Int)} {M : zM} {a0 : Int} {H : Heap} {locs : List Loc} {ls : Array Slot} (ha0 : InR a0) (S : zS G top L M s H locs) (hl : zLV ls 2 [some (zR G.2.2.1 a0), none]) (h : Mo_back fu L M a0 = some res) : W p l e (zrm 1 0 0) s m args below meth c H locs 0 0 (MQ below (zQ G top L res.1 (some (.int (zO res.2))) (InR res.2)) args s 0 0 (zA G)) (F0 m 0 ls []) := by
  unfold Mo_back at h
  refine u_al_n (x := a0) E (Mo_back_dc.at 0 rfl) hl rfl ?_
  refine r_iconst E (Mo_back_dc.at 1 rfl) ?_
  obtain ⟨g1, h⟩ := ite_e h
  obtain ⟨M2, eM2, h⟩ := lt1_e h
  refine u_pI E eM2 zf_12_0 S g1 (show InR 0 by decide) (Or.inl rfl) rfl zw_6_207 (Mo_back_dc.at 2 rfl) (fun H locs S3 => ?_)
  refine u_al_n (x := a0) E (Mo_back_dc.at 3 rfl) hl rfl ?_
  refine u_gI E zf_12_49 S3 g1 zw_7_16 (Mo_back_dc.at 4 rfl) ?_
  refine r_if_ne (tgt := 14) E (S3.1.inR _ _) (Mo_back_dc.at 5 rfl) (by decide) (fun q => ?_) (fun q => ?_)
  · have h := ite_t h q
    refine r_iconst E (Mo_back_dc.at 6 rfl) ?_
    cases h
    exact r_iret E S3 (show InR (-1) by decide) (Mo_back_dc.at 7 rfl)
  · have h := ite_f h q
    refine r_iconst E (Mo_back_dc.at 8 rfl) ?_
    refine u_ist_n (y := 0) (vs' := [some (zR G.2.2.1 a0), some (.int (zO 0))]) E rfl (Mo_back_dc.at 9 rfl) hl (by decide) rfl (fun ls hl => ?_)
    exact Mo_back_l16_w E fu _ a0 0 ha0 (show InR 0 by decide) _ _ _ S3 (hl.sub (And.intro rfl (And.intro rfl True.intro))) h
theorem Mo_back_c (l : Launch) (G : zG) (fu : Nat) (top : Int) (L : zL) (M : zM) (a0 : Int) {res : (zM × Int)} (ha0 : InR a0) (h : Mo_back fu L M a0 = some res) : Met l yX12_back (Cond.code yX12_back cX12_back 2 (some .int) :: zTB) (zrm 1 0 0) (va_Pc [zR G.2.2.1 a0] (zPre G top L M)) (zQ G top L res.1 (some (.int (zO res.2))) (InR res.2)) 0 0 (zA G) :=
  z_met (by decide +kernel) (by simp [zR_cat, zcat_I, zcat_S]) (Nat.le_of_ble_eq_true rfl) fun p e s m below meth c ls E hn S hl => Mo_back_w E ha0 S (hl.sub (And.intro rfl True.intro)) h
end
theorem Mo_fullest_dc : zDL cX12_fullest [(0, .iconst 0, 1, 1), (1, .istore_n 1, 1, 2), (2, .iconst 1, 1, 3), (3, .istore_n 2, 1, 4), (4, .iload_n 2, 1, 5), (5, .aload_n 0, 1, 6), (6, .getfield 31, 3, 9), (9, .iconst 1, 1, 10), (10, .iaload, 1, 11), (11, .if_icmp .ge 28, 3, 14), (14, .aload_n 0, 1, 15), (15, .iload_n 2, 1, 16), (16, .invokevirtual 322, 3, 19), (19, .aload_n 0, 1, 20), (20, .iload_n 1, 1, 21), (21, .invokevirtual 322, 3, 24), (24, .if_icmp .le 7, 3, 27), (27, .iload_n 2, 1, 28), (28, .goto 4, 3, 31), (31, .iload_n 1, 1, 32), (32, .istore_n 1, 1, 33), (33, .iinc 2 1, 3, 36), (36, .goto (-32), 3, 39), (39, .iload_n 1, 1, 40), (40, .ireturn, 1, 41)] := zDL.of (by decide +kernel)
section
variable {p : Program} {l : Launch} {e : Env} {s : State} {m : MethodId} {args : Array Value} {below : List Frame} {meth : Method} {c : Code} {G : zG} {top : Int} {L : zL} {fu : Nat}
theorem Mo_fullest_s4_w (E : zEv p m c cX12_fullest 3 s args RX12 meth (some .int) G) {res : Int} {k4 : zM → Int → Int → Int → Option Int} (hk4 : ∀ (M : zM) (x0 : Int) (x1 : Int) (x2 : Int), InR x0 → InR x1 → InR x2 → ∀ (H : Heap) (locs : List Loc) (ls : Array Slot), zS G top L M s H locs → zLV ls 3 [some (zR G.2.2.1 x0), some (.int (zO x1)), some (.int (zO x2))] → k4 M x0 x1 x2 = some res → W p l e (zrm 2 0 0) s m args below meth c H locs 0 0 (MQ below (zQ G top L M (some (.int (zO res))) (InR res)) args s 0 0 (zA G)) (F0 m 4 ls [])) {M : zM} {x0 : Int} {x1 : Int} {x2 : Int} {H : Heap} {locs : List Loc} {ls : Array Slot} (hx0 : InR x0) (hx1 : InR x1) (hx2 : InR x2) (S : zS G top L M s H locs) (hl : zLV ls 3 [some (zR G.2.2.1 x0), some (.int (zO x1)), some (.int (zO x2))]) (h : Mo_fullest_s4 fu k4 L M x0 x1 x2 = some res) : W p l e (zrm 2 0 0) s m args below meth c H locs 0 0 (MQ below (zQ G top L M (some (.int (zO res))) (InR res)) args s 0 0 (zA G)) (F0 m 4 ls []) := by
  unfold Mo_fullest_s4 at h
  refine u_il_n (x := x2) E (Mo_fullest_dc.at 4 rfl) hl rfl ?_
  refine u_al_n (x := x0) E (Mo_fullest_dc.at 5 rfl) hl rfl ?_
  obtain ⟨g1, h⟩ := ite_e h
  refine u_gR E zf_12_18 S g1 zw_6_225 (Mo_fullest_dc.at 6 rfl) ?_
  refine r_iconst E (Mo_fullest_dc.at 7 rfl) ?_
  obtain ⟨g2, h⟩ := ite_e h
  obtain ⟨g3, h⟩ := ite_e h
  refine r_iald E S g2 g3 (Mo_fullest_dc.at 8 rfl) ?_
  refine r_icmp_ge (tgt := 39) E hx2 (S.1.inR _ _) (Mo_fullest_dc.at 9 rfl) (by decide) (fun q => ?_) (fun q => ?_)
  · have h := ite_t h q
    refine u_al_n (x := x0) E (Mo_fullest_dc.at 10 rfl) hl rfl ?_
    refine u_il_n (x := x2) E (Mo_fullest_dc.at 11 rfl) hl rfl ?_
    obtain ⟨r4, er4, h⟩ := bd1_e h
    refine u_cVI (As := [.int (zO x2)]) (rest := []) E S zcw_yX12_children zw_8_141 zq_6_1 zw_8_139 zck_12.1 rfl g1 (Mo_children_c l G fu top L M x0 x2 hx0 hx2 er4) (zrm_ok (by decide) (by decide)) ⟨Nat.le_refl 0, Nat.le_refl 0⟩ rfl (Nat.zero_le 8) hl.size rfl (Mo_fullest_dc.at 12 rfl) (fun H locs hr4 S5 => ?_)
    refine u_al_n (x := x0) E (Mo_fullest_dc.at 13 rfl) hl rfl ?_
    refine u_il_n (x := x1) E (Mo_fullest_dc.at 14 rfl) hl rfl ?_
    obtain ⟨r6, er6, h⟩ := bd1_e h
    refine u_cVI (As := [.int (zO x1)]) (rest := [.int (zO r4)]) E S5 zcw_yX12_children zw_8_141 zq_6_1 zw_8_139 zck_12.1 rfl g1 (Mo_children_c l G fu top L M x0 x1 hx0 hx1 er6) (zrm_ok (by decide) (by decide)) ⟨Nat.le_refl 0, Nat.le_refl 0⟩ rfl (by simp [zR_cat, zcat_I, zcat_J, zcat_S]) hl.size rfl (Mo_fullest_dc.at 15 rfl) (fun H locs hr6 S7 => ?_)
    refine r_icmp_le (tgt := 31) E hr4 hr6 (Mo_fullest_dc.at 16 rfl) (by decide) (fun q => ?_) (fun q => ?_)
    · have h := ite_t h q
      refine u_il_n (x := x2) E (Mo_fullest_dc.at 17 rfl) hl rfl ?_
      refine r_goto (tgt := 32) E (Mo_fullest_dc.at 18 rfl) (by decide) ?_
      refine u_ist_n (y := x2) (vs' := [some (zR G.2.2.1 x0), some (.int (zO x2)), some (.int (zO x2))]) E rfl (Mo_fullest_dc.at 20 rfl) hl (by decide) rfl (fun ls hl => ?_)
      obtain ⟨v8, ev8, h⟩ := lt1_e h
      have hv8 := inR_eq ev8 (inR_w32 _)
      refine u_iinc (y := v8) (vs' := [some (zR G.2.2.1 x0), some (.int (zO x2)), some (.int (zO v8))]) E ev8 (Mo_fullest_dc.at 21 rfl) hl rfl (by decide) rfl (fun ls hl => ?_)
      refine r_goto (tgt := 4) E (Mo_fullest_dc.at 22 rfl) (by decide) ?_
      exact hk4 _ x0 x2 v8 hx0 hx2 hv8 _ _ _ S7 (hl.sub (And.intro rfl (And.intro rfl (And.intro rfl True.intro)))) h
    · have h := ite_f h q
      refine u_il_n (x := x1) E (Mo_fullest_dc.at 19 rfl) hl rfl ?_
      refine u_ist_n (y := x1) (vs' := [some (zR G.2.2.1 x0), some (.int (zO x1)), some (.int (zO x2))]) E rfl (Mo_fullest_dc.at 20 rfl) hl (by decide) rfl (fun ls hl => ?_)
      obtain ⟨v9, ev9, h⟩ := lt1_e h
      have hv9 := inR_eq ev9 (inR_w32 _)
      refine u_iinc (y := v9) (vs' := [some (zR G.2.2.1 x0), some (.int (zO x1)), some (.int (zO v9))]) E ev9 (Mo_fullest_dc.at 21 rfl) hl rfl (by decide) rfl (fun ls hl => ?_)
      refine r_goto (tgt := 4) E (Mo_fullest_dc.at 22 rfl) (by decide) ?_
      exact hk4 _ x0 x1 v9 hx0 hx1 hv9 _ _ _ S7 (hl.sub (And.intro rfl (And.intro rfl (And.intro rfl True.intro)))) h
  · have h := ite_f h q
    refine u_il_n (x := x1) E (Mo_fullest_dc.at 23 rfl) hl rfl ?_
    cases h
    exact r_iret E S hx1 (Mo_fullest_dc.at 24 rfl)
theorem Mo_fullest_l4_w (E : zEv p m c cX12_fullest 3 s args RX12 meth (some .int) G) {res : Int} : ∀ (n : Nat) (M : zM) (x0 : Int) (x1 : Int) (x2 : Int), InR x0 → InR x1 → InR x2 → ∀ (H : Heap) (locs : List Loc) (ls : Array Slot), zS G top L M s H locs → zLV ls 3 [some (zR G.2.2.1 x0), some (.int (zO x1)), some (.int (zO x2))] → Mo_fullest_l4 fu L n M x0 x1 x2 = some res → W p l e (zrm 2 0 0) s m args below meth c H locs 0 0 (MQ below (zQ G top L M (some (.int (zO res))) (InR res)) args s 0 0 (zA G)) (F0 m 4 ls [])
  | 0, _, _, _, _ => fun _ _ _ _ _ _ _ _ h => (by cases h)
  | n + 1, M, x0, x1, x2 => fun hx0 hx1 hx2 H locs ls S hl h => Mo_fullest_s4_w E (fun M x0 x1 x2 hx0 hx1 hx2 H locs ls S hl h => Mo_fullest_l4_w E n M x0 x1 x2 hx0 hx1 hx2 H locs ls S hl h) hx0 hx1 hx2 S hl h
theorem Mo_fullest_w (E : zEv p m c cX12_fullest 3 s args RX12 meth (some .int) G) {res : Int} {M : zM} {a0 : Int} {H : Heap} {locs : List Loc} {ls : Array Slot} (ha0 : InR a0) (S : zS G top L M s H locs) (hl : zLV ls 3 [some (zR G.2.2.1 a0), none, none]) (h : Mo_fullest fu L M a0 = some res) : W p l e (zrm 2 0 0) s m args below meth c H locs 0 0 (MQ below (zQ G top L M (some (.int (zO res))) (InR res)) args s 0 0 (zA G)) (F0 m 0 ls []) := by
  unfold Mo_fullest at h
  refine r_iconst E (Mo_fullest_dc.at 0 rfl) ?_
  refine u_ist_n (y := 0) (vs' := [some (zR G.2.2.1 a0), some (.int (zO 0)), none]) E rfl (Mo_fullest_dc.at 1 rfl) hl (by decide) rfl (fun ls hl => ?_)
  refine r_iconst E (Mo_fullest_dc.at 2 rfl) ?_
  refine u_ist_n (y := 1) (vs' := [some (zR G.2.2.1 a0), some (.int (zO 0)), some (.int (zO 1))]) E rfl (Mo_fullest_dc.at 3 rfl) hl (by decide) rfl (fun ls hl => ?_)
  exact Mo_fullest_l4_w E fu _ a0 0 1 ha0 (show InR 0 by decide) (show InR 1 by decide) _ _ _ S (hl.sub (And.intro rfl (And.intro rfl (And.intro rfl True.intro)))) h
theorem Mo_fullest_c (l : Launch) (G : zG) (fu : Nat) (top : Int) (L : zL) (M : zM) (a0 : Int) {res : Int} (ha0 : InR a0) (h : Mo_fullest fu L M a0 = some res) : Met l yX12_fullest (Cond.code yX12_fullest cX12_fullest 3 (some .int) :: zTB) (zrm 2 0 0) (va_Pc [zR G.2.2.1 a0] (zPre G top L M)) (zQ G top L M (some (.int (zO res))) (InR res)) 0 0 (zA G) :=
  z_met (by decide +kernel) (by simp [zR_cat, zcat_I, zcat_S]) (Nat.le_of_ble_eq_true rfl) fun p e s m below meth c ls E hn S hl => Mo_fullest_w E ha0 S (hl.sub (And.intro rfl True.intro)) h
end
theorem Mo_oldest_dc : zDL cX12_oldest [(0, .iconst (-1), 1, 1), (1, .istore_n 1, 1, 2), (2, .iconst 0, 1, 3), (3, .istore_n 2, 1, 4), (4, .iload_n 2, 1, 5), (5, .aload_n 0, 1, 6), (6, .getfield 31, 3, 9), (9, .iconst 1, 1, 10), (10, .iaload, 1, 11), (11, .if_icmp .ge 49, 3, 14), (14, .aload_n 0, 1, 15), (15, .getfield 31, 3, 18), (18, .bipush 26, 2, 20), (20, .iload_n 2, 1, 21), (21, .iadd, 1, 22), (22, .iaload, 1, 23), (23, .ldc 254, 2, 25), (25, .if_icmp .ne 29, 3, 28), (28, .iload_n 1, 1, 29), (29, .iconst (-1), 1, 30), (30, .if_icmp .eq 22, 3, 33), (33, .aload_n 0, 1, 34), (34, .getfield 31, 3, 37), (37, .iconst 2, 1, 38), (38, .iload_n 2, 1, 39), (39, .iadd, 1, 40), (40, .iaload, 1, 41), (41, .aload_n 0, 1, 42), (42, .getfield 31, 3, 45), (45, .iconst 2, 1, 46), (46, .iload_n 1, 1, 47), (47, .iadd, 1, 48), (48, .iaload, 1, 49), (49, .if_icmp .ge 5, 3, 52), (52, .iload_n 2, 1, 53), (53, .istore_n 1, 1, 54), (54, .iinc 2 1, 3, 57), (57, .goto (-53), 3, 60), (60, .iload_n 1, 1, 61), (61, .ireturn, 1, 62)] := zDL.of (by decide +kernel)
section
variable {p : Program} {l : Launch} {e : Env} {s : State} {m : MethodId} {args : Array Value} {below : List Frame} {meth : Method} {c : Code} {G : zG} {top : Int} {L : zL} {fu : Nat}
theorem Mo_oldest_s4_w (E : zEv p m c cX12_oldest 3 s args RX12 meth (some .int) G) {res : Int} {k4 : zM → Int → Int → Int → Option Int} (hk4 : ∀ (M : zM) (x0 : Int) (x1 : Int) (x2 : Int), InR x0 → InR x1 → InR x2 → ∀ (H : Heap) (locs : List Loc) (ls : Array Slot), zS G top L M s H locs → zLV ls 3 [some (zR G.2.2.1 x0), some (.int (zO x1)), some (.int (zO x2))] → k4 M x0 x1 x2 = some res → W p l e (zrm 1 0 0) s m args below meth c H locs 0 0 (MQ below (zQ G top L M (some (.int (zO res))) (InR res)) args s 0 0 (zA G)) (F0 m 4 ls [])) {M : zM} {x0 : Int} {x1 : Int} {x2 : Int} {H : Heap} {locs : List Loc} {ls : Array Slot} (hx0 : InR x0) (hx1 : InR x1) (hx2 : InR x2) (S : zS G top L M s H locs) (hl : zLV ls 3 [some (zR G.2.2.1 x0), some (.int (zO x1)), some (.int (zO x2))]) (h : Mo_oldest_s4 fu k4 L M x0 x1 x2 = some res) : W p l e (zrm 1 0 0) s m args below meth c H locs 0 0 (MQ below (zQ G top L M (some (.int (zO res))) (InR res)) args s 0 0 (zA G)) (F0 m 4 ls []) := by
  unfold Mo_oldest_s4 at h
  refine u_il_n (x := x2) E (Mo_oldest_dc.at 4 rfl) hl rfl ?_
  refine u_al_n (x := x0) E (Mo_oldest_dc.at 5 rfl) hl rfl ?_
  obtain ⟨g1, h⟩ := ite_e h
  refine u_gR E zf_12_18 S g1 zw_6_225 (Mo_oldest_dc.at 6 rfl) ?_
  refine r_iconst E (Mo_oldest_dc.at 7 rfl) ?_
  obtain ⟨g2, h⟩ := ite_e h
  obtain ⟨g3, h⟩ := ite_e h
  refine r_iald E S g2 g3 (Mo_oldest_dc.at 8 rfl) ?_
  refine r_icmp_ge (tgt := 60) E hx2 (S.1.inR _ _) (Mo_oldest_dc.at 9 rfl) (by decide) (fun q => ?_) (fun q => ?_)
  · have h := ite_t h q
    refine u_al_n (x := x0) E (Mo_oldest_dc.at 10 rfl) hl rfl ?_
    refine u_gR E zf_12_18 S g1 zw_6_225 (Mo_oldest_dc.at 11 rfl) ?_
    refine r_bipush E (Mo_oldest_dc.at 12 rfl) rfl ?_
    refine u_il_n (x := x2) E (Mo_oldest_dc.at 13 rfl) hl rfl ?_
    refine r_iadd E (Mo_oldest_dc.at 14 rfl) ?_
    obtain ⟨g4, h⟩ := ite_e h
    refine r_iald E S g2 g4 (Mo_oldest_dc.at 15 rfl) ?_
    refine r_ldc (n := 16777216) E (Mo_oldest_dc.at 16 rfl) zw_8_42 rfl ?_
    refine r_icmp_ne (tgt := 54) E (S.1.inR _ _) (show InR 16777216 by decide) (Mo_oldest_dc.at 17 rfl) (by decide) (fun q => ?_) (fun q => ?_)
    · have h := ite_t h q
      refine u_il_n (x := x1) E (Mo_oldest_dc.at 18 rfl) hl rfl ?_
      refine r_iconst E (Mo_oldest_dc.at 19 rfl) ?_
      refine r_icmp_eq (tgt := 52) E hx1 (show InR (-1) by decide) (Mo_oldest_dc.at 20 rfl) (by decide) (fun q => ?_) (fun q => ?_)
      · have h := ite_t h q
        refine u_il_n (x := x2) E (Mo_oldest_dc.at 34 rfl) hl rfl ?_
        refine u_ist_n (y := x2) (vs' := [some (zR G.2.2.1 x0), some (.int (zO x2)), some (.int (zO x2))]) E rfl (Mo_oldest_dc.at 35 rfl) hl (by decide) rfl (fun ls hl => ?_)
        obtain ⟨v5, ev5, h⟩ := lt1_e h
        have hv5 := inR_eq ev5 (inR_w32 _)
        refine u_iinc (y := v5) (vs' := [some (zR G.2.2.1 x0), some (.int (zO x2)), some (.int (zO v5))]) E ev5 (Mo_oldest_dc.at 36 rfl) hl rfl (by decide) rfl (fun ls hl => ?_)
        refine r_goto (tgt := 4) E (Mo_oldest_dc.at 37 rfl) (by decide) ?_
        exact hk4 _ x0 x2 v5 hx0 hx2 hv5 _ _ _ S (hl.sub (And.intro rfl (And.intro rfl (And.intro rfl True.intro)))) h
      · have h := ite_f h q
        refine u_al_n (x := x0) E (Mo_oldest_dc.at 21 rfl) hl rfl ?_
        refine u_gR E zf_12_18 S g1 zw_6_225 (Mo_oldest_dc.at 22 rfl) ?_
        refine r_iconst E (Mo_oldest_dc.at 23 rfl) ?_
        refine u_il_n (x := x2) E (Mo_oldest_dc.at 24 rfl) hl rfl ?_
        refine r_iadd E (Mo_oldest_dc.at 25 rfl) ?_
        obtain ⟨g6, h⟩ := ite_e h
        refine r_iald E S g2 g6 (Mo_oldest_dc.at 26 rfl) ?_
        refine u_al_n (x := x0) E (Mo_oldest_dc.at 27 rfl) hl rfl ?_
        refine u_gR E zf_12_18 S g1 zw_6_225 (Mo_oldest_dc.at 28 rfl) ?_
        refine r_iconst E (Mo_oldest_dc.at 29 rfl) ?_
        refine u_il_n (x := x1) E (Mo_oldest_dc.at 30 rfl) hl rfl ?_
        refine r_iadd E (Mo_oldest_dc.at 31 rfl) ?_
        obtain ⟨g7, h⟩ := ite_e h
        refine r_iald E S g2 g7 (Mo_oldest_dc.at 32 rfl) ?_
        refine r_icmp_ge (tgt := 54) E (S.1.inR _ _) (S.1.inR _ _) (Mo_oldest_dc.at 33 rfl) (by decide) (fun q => ?_) (fun q => ?_)
        · have h := ite_t h q
          refine u_il_n (x := x2) E (Mo_oldest_dc.at 34 rfl) hl rfl ?_
          refine u_ist_n (y := x2) (vs' := [some (zR G.2.2.1 x0), some (.int (zO x2)), some (.int (zO x2))]) E rfl (Mo_oldest_dc.at 35 rfl) hl (by decide) rfl (fun ls hl => ?_)
          obtain ⟨v8, ev8, h⟩ := lt1_e h
          have hv8 := inR_eq ev8 (inR_w32 _)
          refine u_iinc (y := v8) (vs' := [some (zR G.2.2.1 x0), some (.int (zO x2)), some (.int (zO v8))]) E ev8 (Mo_oldest_dc.at 36 rfl) hl rfl (by decide) rfl (fun ls hl => ?_)
          refine r_goto (tgt := 4) E (Mo_oldest_dc.at 37 rfl) (by decide) ?_
          exact hk4 _ x0 x2 v8 hx0 hx2 hv8 _ _ _ S (hl.sub (And.intro rfl (And.intro rfl (And.intro rfl True.intro)))) h
        · have h := ite_f h q
          obtain ⟨v9, ev9, h⟩ := lt1_e h
          have hv9 := inR_eq ev9 (inR_w32 _)
          refine u_iinc (y := v9) (vs' := [some (zR G.2.2.1 x0), some (.int (zO x1)), some (.int (zO v9))]) E ev9 (Mo_oldest_dc.at 36 rfl) hl rfl (by decide) rfl (fun ls hl => ?_)
          refine r_goto (tgt := 4) E (Mo_oldest_dc.at 37 rfl) (by decide) ?_
          exact hk4 _ x0 x1 v9 hx0 hx1 hv9 _ _ _ S (hl.sub (And.intro rfl (And.intro rfl (And.intro rfl True.intro)))) h
    · have h := ite_f h q
      obtain ⟨v10, ev10, h⟩ := lt1_e h
      have hv10 := inR_eq ev10 (inR_w32 _)
      refine u_iinc (y := v10) (vs' := [some (zR G.2.2.1 x0), some (.int (zO x1)), some (.int (zO v10))]) E ev10 (Mo_oldest_dc.at 36 rfl) hl rfl (by decide) rfl (fun ls hl => ?_)
      refine r_goto (tgt := 4) E (Mo_oldest_dc.at 37 rfl) (by decide) ?_
      exact hk4 _ x0 x1 v10 hx0 hx1 hv10 _ _ _ S (hl.sub (And.intro rfl (And.intro rfl (And.intro rfl True.intro)))) h
  · have h := ite_f h q
    refine u_il_n (x := x1) E (Mo_oldest_dc.at 38 rfl) hl rfl ?_
    cases h
    exact r_iret E S hx1 (Mo_oldest_dc.at 39 rfl)
theorem Mo_oldest_l4_w (E : zEv p m c cX12_oldest 3 s args RX12 meth (some .int) G) {res : Int} : ∀ (n : Nat) (M : zM) (x0 : Int) (x1 : Int) (x2 : Int), InR x0 → InR x1 → InR x2 → ∀ (H : Heap) (locs : List Loc) (ls : Array Slot), zS G top L M s H locs → zLV ls 3 [some (zR G.2.2.1 x0), some (.int (zO x1)), some (.int (zO x2))] → Mo_oldest_l4 fu L n M x0 x1 x2 = some res → W p l e (zrm 1 0 0) s m args below meth c H locs 0 0 (MQ below (zQ G top L M (some (.int (zO res))) (InR res)) args s 0 0 (zA G)) (F0 m 4 ls [])
  | 0, _, _, _, _ => fun _ _ _ _ _ _ _ _ h => (by cases h)
  | n + 1, M, x0, x1, x2 => fun hx0 hx1 hx2 H locs ls S hl h => Mo_oldest_s4_w E (fun M x0 x1 x2 hx0 hx1 hx2 H locs ls S hl h => Mo_oldest_l4_w E n M x0 x1 x2 hx0 hx1 hx2 H locs ls S hl h) hx0 hx1 hx2 S hl h
theorem Mo_oldest_w (E : zEv p m c cX12_oldest 3 s args RX12 meth (some .int) G) {res : Int} {M : zM} {a0 : Int} {H : Heap} {locs : List Loc} {ls : Array Slot} (ha0 : InR a0) (S : zS G top L M s H locs) (hl : zLV ls 3 [some (zR G.2.2.1 a0), none, none]) (h : Mo_oldest fu L M a0 = some res) : W p l e (zrm 1 0 0) s m args below meth c H locs 0 0 (MQ below (zQ G top L M (some (.int (zO res))) (InR res)) args s 0 0 (zA G)) (F0 m 0 ls []) := by
  unfold Mo_oldest at h
  refine r_iconst E (Mo_oldest_dc.at 0 rfl) ?_
  refine u_ist_n (y := (-1)) (vs' := [some (zR G.2.2.1 a0), some (.int (zO (-1))), none]) E rfl (Mo_oldest_dc.at 1 rfl) hl (by decide) rfl (fun ls hl => ?_)
  refine r_iconst E (Mo_oldest_dc.at 2 rfl) ?_
  refine u_ist_n (y := 0) (vs' := [some (zR G.2.2.1 a0), some (.int (zO (-1))), some (.int (zO 0))]) E rfl (Mo_oldest_dc.at 3 rfl) hl (by decide) rfl (fun ls hl => ?_)
  exact Mo_oldest_l4_w E fu _ a0 (-1) 0 ha0 (show InR (-1) by decide) (show InR 0 by decide) _ _ _ S (hl.sub (And.intro rfl (And.intro rfl (And.intro rfl True.intro)))) h
theorem Mo_oldest_c (l : Launch) (G : zG) (fu : Nat) (top : Int) (L : zL) (M : zM) (a0 : Int) {res : Int} (ha0 : InR a0) (h : Mo_oldest fu L M a0 = some res) : Met l yX12_oldest (Cond.code yX12_oldest cX12_oldest 3 (some .int) :: zTB) (zrm 1 0 0) (va_Pc [zR G.2.2.1 a0] (zPre G top L M)) (zQ G top L M (some (.int (zO res))) (InR res)) 0 0 (zA G) :=
  z_met (by decide +kernel) (by simp [zR_cat, zcat_I, zcat_S]) (Nat.le_of_ble_eq_true rfl) fun p e s m below meth c ls E hn S hl => Mo_oldest_w E ha0 S (hl.sub (And.intro rfl True.intro)) h
end
theorem Mo_alive_dc : zDL cX12_alive [(0, .iconst 0, 1, 1), (1, .istore_n 1, 1, 2), (2, .iconst 0, 1, 3), (3, .istore_n 2, 1, 4), (4, .iload_n 2, 1, 5), (5, .aload_n 0, 1, 6), (6, .getfield 31, 3, 9), (9, .iconst 1, 1, 10), (10, .iaload, 1, 11), (11, .if_icmp .ge 31, 3, 14), (14, .iload_n 1, 1, 15), (15, .aload_n 0, 1, 16), (16, .getfield 31, 3, 19), (19, .bipush 26, 2, 21), (21, .iload_n 2, 1, 22), (22, .iadd, 1, 23), (23, .iaload, 1, 24), (24, .ldc 254, 2, 26), (26, .if_icmp .ne 7, 3, 29), (29, .iconst 1, 1, 30), (30, .goto 4, 3, 33), (33, .iconst 0, 1, 34), (34, .iadd, 1, 35), (35, .istore_n 1, 1, 36), (36, .iinc 2 1, 3, 39), (39, .goto (-35), 3, 42), (42, .iload_n 1, 1, 43), (43, .ireturn, 1, 44)] := zDL.of (by decide +kernel)
section
variable {p : Program} {l : Launch} {e : Env} {s : State} {m : MethodId} {args : Array Value} {below : List Frame} {meth : Method} {c : Code} {G : zG} {top : Int} {L : zL} {fu : Nat}
theorem Mo_alive_s4_w (E : zEv p m c cX12_alive 3 s args RX12 meth (some .int) G) {res : Int} {k4 : zM → Int → Int → Int → Option Int} (hk4 : ∀ (M : zM) (x0 : Int) (x1 : Int) (x2 : Int), InR x0 → InR x1 → InR x2 → ∀ (H : Heap) (locs : List Loc) (ls : Array Slot), zS G top L M s H locs → zLV ls 3 [some (zR G.2.2.1 x0), some (.int (zO x1)), some (.int (zO x2))] → k4 M x0 x1 x2 = some res → W p l e (zrm 1 0 0) s m args below meth c H locs 0 0 (MQ below (zQ G top L M (some (.int (zO res))) (InR res)) args s 0 0 (zA G)) (F0 m 4 ls [])) {M : zM} {x0 : Int} {x1 : Int} {x2 : Int} {H : Heap} {locs : List Loc} {ls : Array Slot} (hx0 : InR x0) (hx1 : InR x1) (hx2 : InR x2) (S : zS G top L M s H locs) (hl : zLV ls 3 [some (zR G.2.2.1 x0), some (.int (zO x1)), some (.int (zO x2))]) (h : Mo_alive_s4 fu k4 L M x0 x1 x2 = some res) : W p l e (zrm 1 0 0) s m args below meth c H locs 0 0 (MQ below (zQ G top L M (some (.int (zO res))) (InR res)) args s 0 0 (zA G)) (F0 m 4 ls []) := by
  unfold Mo_alive_s4 at h
  refine u_il_n (x := x2) E (Mo_alive_dc.at 4 rfl) hl rfl ?_
  refine u_al_n (x := x0) E (Mo_alive_dc.at 5 rfl) hl rfl ?_
  obtain ⟨g1, h⟩ := ite_e h
  refine u_gR E zf_12_18 S g1 zw_6_225 (Mo_alive_dc.at 6 rfl) ?_
  refine r_iconst E (Mo_alive_dc.at 7 rfl) ?_
  obtain ⟨g2, h⟩ := ite_e h
  obtain ⟨g3, h⟩ := ite_e h
  refine r_iald E S g2 g3 (Mo_alive_dc.at 8 rfl) ?_
  refine r_icmp_ge (tgt := 42) E hx2 (S.1.inR _ _) (Mo_alive_dc.at 9 rfl) (by decide) (fun q => ?_) (fun q => ?_)
  · have h := ite_t h q
    refine u_il_n (x := x1) E (Mo_alive_dc.at 10 rfl) hl rfl ?_
    refine u_al_n (x := x0) E (Mo_alive_dc.at 11 rfl) hl rfl ?_
    refine u_gR E zf_12_18 S g1 zw_6_225 (Mo_alive_dc.at 12 rfl) ?_
    refine r_bipush E (Mo_alive_dc.at 13 rfl) rfl ?_
    refine u_il_n (x := x2) E (Mo_alive_dc.at 14 rfl) hl rfl ?_
    refine r_iadd E (Mo_alive_dc.at 15 rfl) ?_
    obtain ⟨g4, h⟩ := ite_e h
    refine r_iald E S g2 g4 (Mo_alive_dc.at 16 rfl) ?_
    refine r_ldc (n := 16777216) E (Mo_alive_dc.at 17 rfl) zw_8_42 rfl ?_
    refine r_icmp_ne (tgt := 33) E (S.1.inR _ _) (show InR 16777216 by decide) (Mo_alive_dc.at 18 rfl) (by decide) (fun q => ?_) (fun q => ?_)
    · have h := ite_t h q
      refine r_iconst E (Mo_alive_dc.at 19 rfl) ?_
      refine r_goto (tgt := 34) E (Mo_alive_dc.at 20 rfl) (by decide) ?_
      refine r_iadd E (Mo_alive_dc.at 22 rfl) ?_
      obtain ⟨v5, ev5, h⟩ := lt1_e h
      have hv5 := inR_eq ev5 (inR_w32 _)
      refine u_ist_n (y := v5) (vs' := [some (zR G.2.2.1 x0), some (.int (zO v5)), some (.int (zO x2))]) E ev5 (Mo_alive_dc.at 23 rfl) hl (by decide) rfl (fun ls hl => ?_)
      obtain ⟨v6, ev6, h⟩ := lt1_e h
      have hv6 := inR_eq ev6 (inR_w32 _)
      refine u_iinc (y := v6) (vs' := [some (zR G.2.2.1 x0), some (.int (zO v5)), some (.int (zO v6))]) E ev6 (Mo_alive_dc.at 24 rfl) hl rfl (by decide) rfl (fun ls hl => ?_)
      refine r_goto (tgt := 4) E (Mo_alive_dc.at 25 rfl) (by decide) ?_
      exact hk4 _ x0 v5 v6 hx0 hv5 hv6 _ _ _ S (hl.sub (And.intro rfl (And.intro rfl (And.intro rfl True.intro)))) h
    · have h := ite_f h q
      refine r_iconst E (Mo_alive_dc.at 21 rfl) ?_
      refine r_iadd E (Mo_alive_dc.at 22 rfl) ?_
      obtain ⟨v7, ev7, h⟩ := lt1_e h
      have hv7 := inR_eq ev7 (inR_w32 _)
      refine u_ist_n (y := v7) (vs' := [some (zR G.2.2.1 x0), some (.int (zO v7)), some (.int (zO x2))]) E ev7 (Mo_alive_dc.at 23 rfl) hl (by decide) rfl (fun ls hl => ?_)
      obtain ⟨v8, ev8, h⟩ := lt1_e h
      have hv8 := inR_eq ev8 (inR_w32 _)
      refine u_iinc (y := v8) (vs' := [some (zR G.2.2.1 x0), some (.int (zO v7)), some (.int (zO v8))]) E ev8 (Mo_alive_dc.at 24 rfl) hl rfl (by decide) rfl (fun ls hl => ?_)
      refine r_goto (tgt := 4) E (Mo_alive_dc.at 25 rfl) (by decide) ?_
      exact hk4 _ x0 v7 v8 hx0 hv7 hv8 _ _ _ S (hl.sub (And.intro rfl (And.intro rfl (And.intro rfl True.intro)))) h
  · have h := ite_f h q
    refine u_il_n (x := x1) E (Mo_alive_dc.at 26 rfl) hl rfl ?_
    cases h
    exact r_iret E S hx1 (Mo_alive_dc.at 27 rfl)
theorem Mo_alive_l4_w (E : zEv p m c cX12_alive 3 s args RX12 meth (some .int) G) {res : Int} : ∀ (n : Nat) (M : zM) (x0 : Int) (x1 : Int) (x2 : Int), InR x0 → InR x1 → InR x2 → ∀ (H : Heap) (locs : List Loc) (ls : Array Slot), zS G top L M s H locs → zLV ls 3 [some (zR G.2.2.1 x0), some (.int (zO x1)), some (.int (zO x2))] → Mo_alive_l4 fu L n M x0 x1 x2 = some res → W p l e (zrm 1 0 0) s m args below meth c H locs 0 0 (MQ below (zQ G top L M (some (.int (zO res))) (InR res)) args s 0 0 (zA G)) (F0 m 4 ls [])
  | 0, _, _, _, _ => fun _ _ _ _ _ _ _ _ h => (by cases h)
  | n + 1, M, x0, x1, x2 => fun hx0 hx1 hx2 H locs ls S hl h => Mo_alive_s4_w E (fun M x0 x1 x2 hx0 hx1 hx2 H locs ls S hl h => Mo_alive_l4_w E n M x0 x1 x2 hx0 hx1 hx2 H locs ls S hl h) hx0 hx1 hx2 S hl h
theorem Mo_alive_w (E : zEv p m c cX12_alive 3 s args RX12 meth (some .int) G) {res : Int} {M : zM} {a0 : Int} {H : Heap} {locs : List Loc} {ls : Array Slot} (ha0 : InR a0) (S : zS G top L M s H locs) (hl : zLV ls 3 [some (zR G.2.2.1 a0), none, none]) (h : Mo_alive fu L M a0 = some res) : W p l e (zrm 1 0 0) s m args below meth c H locs 0 0 (MQ below (zQ G top L M (some (.int (zO res))) (InR res)) args s 0 0 (zA G)) (F0 m 0 ls []) := by
  unfold Mo_alive at h
  refine r_iconst E (Mo_alive_dc.at 0 rfl) ?_
  refine u_ist_n (y := 0) (vs' := [some (zR G.2.2.1 a0), some (.int (zO 0)), none]) E rfl (Mo_alive_dc.at 1 rfl) hl (by decide) rfl (fun ls hl => ?_)
  refine r_iconst E (Mo_alive_dc.at 2 rfl) ?_
  refine u_ist_n (y := 0) (vs' := [some (zR G.2.2.1 a0), some (.int (zO 0)), some (.int (zO 0))]) E rfl (Mo_alive_dc.at 3 rfl) hl (by decide) rfl (fun ls hl => ?_)
  exact Mo_alive_l4_w E fu _ a0 0 0 ha0 (show InR 0 by decide) (show InR 0 by decide) _ _ _ S (hl.sub (And.intro rfl (And.intro rfl (And.intro rfl True.intro)))) h
theorem Mo_alive_c (l : Launch) (G : zG) (fu : Nat) (top : Int) (L : zL) (M : zM) (a0 : Int) {res : Int} (ha0 : InR a0) (h : Mo_alive fu L M a0 = some res) : Met l yX12_alive (Cond.code yX12_alive cX12_alive 3 (some .int) :: zTB) (zrm 1 0 0) (va_Pc [zR G.2.2.1 a0] (zPre G top L M)) (zQ G top L M (some (.int (zO res))) (InR res)) 0 0 (zA G) :=
  z_met (by decide +kernel) (by simp [zR_cat, zcat_I, zcat_S]) (Nat.le_of_ble_eq_true rfl) fun p e s m below meth c ls E hn S hl => Mo_alive_w E ha0 S (hl.sub (And.intro rfl True.intro)) h
end
theorem Mo_goodOnes_dc : zDL cX12_goodOnes [(0, .iconst 0, 1, 1), (1, .istore_n 1, 1, 2), (2, .iconst 0, 1, 3), (3, .istore_n 2, 1, 4), (4, .iload_n 2, 1, 5), (5, .aload_n 0, 1, 6), (6, .invokevirtual 268, 3, 9), (9, .if_icmp .ge 25, 3, 12), (12, .iload_n 1, 1, 13), (13, .aload_n 0, 1, 14), (14, .iload_n 2, 1, 15), (15, .invokevirtual 530, 3, 18), (18, .ifCond .eq 7, 3, 21), (21, .iconst 1, 1, 22), (22, .goto 4, 3, 25), (25, .iconst 0, 1, 26), (26, .iadd, 1, 27), (27, .istore_n 1, 1, 28), (28, .iinc 2 1, 3, 31), (31, .goto (-27), 3, 34), (34, .iload_n 1, 1, 35), (35, .ireturn, 1, 36)] := zDL.of (by decide +kernel)
section
variable {p : Program} {l : Launch} {e : Env} {s : State} {m : MethodId} {args : Array Value} {below : List Frame} {meth : Method} {c : Code} {G : zG} {top : Int} {L : zL} {fu : Nat}
theorem Mo_goodOnes_s4_w (E : zEv p m c cX12_goodOnes 3 s args RX12 meth (some .int) G) {res : (zM × Int)} {k4 : zM → Int → Int → Int → Option (zM × Int)} (hk4 : ∀ (M : zM) (x0 : Int) (x1 : Int) (x2 : Int), InR x0 → InR x1 → InR x2 → ∀ (H : Heap) (locs : List Loc) (ls : Array Slot), zS G top L M s H locs → zLV ls 3 [some (zR G.2.2.1 x0), some (.int (zO x1)), some (.int (zO x2))] → k4 M x0 x1 x2 = some res → W p l e (zrm 49 0 0) s m args below meth c H locs 0 0 (MQ below (zQ G top L res.1 (some (.int (zO res.2))) (InR res.2)) args s 0 0 (zA G)) (F0 m 4 ls [])) {M : zM} {x0 : Int} {x1 : Int} {x2 : Int} {H : Heap} {locs : List Loc} {ls : Array Slot} (hx0 : InR x0) (hx1 : InR x1) (hx2 : InR x2) (S : zS G top L M s H locs) (hl : zLV ls 3 [some (zR G.2.2.1 x0), some (.int (zO x1)), some (.int (zO x2))]) (h : Mo_goodOnes_s4 fu k4 L M x0 x1 x2 = some res) : W p l e (zrm 49 0 0) s m args below meth c H locs 0 0 (MQ below (zQ G top L res.1 (some (.int (zO res.2))) (InR res.2)) args s 0 0 (zA G)) (F0 m 4 ls []) := by
  unfold Mo_goodOnes_s4 at h
  refine u_il_n (x := x2) E (Mo_goodOnes_dc.at 4 rfl) hl rfl ?_
  refine u_al_n (x := x0) E (Mo_goodOnes_dc.at 5 rfl) hl rfl ?_
  obtain ⟨g1, h⟩ := ite_e h
  obtain ⟨r2, er2, h⟩ := bd1_e h
  refine u_cVI (As := []) (rest := [.int (zO x2)]) E S zcw_yX12_gifts zw_8_62 zq_5_10 zw_8_60 zck_12.1 rfl g1 (Mo_gifts_c l G fu top L M x0 hx0 er2) (zrm_ok (by decide) (by decide)) ⟨Nat.le_refl 0, Nat.le_refl 0⟩ rfl (by simp [zR_cat, zcat_I, zcat_J, zcat_S]) hl.size rfl (Mo_goodOnes_dc.at 6 rfl) (fun H locs hr2 S3 => ?_)
  refine r_icmp_ge (tgt := 34) E hx2 hr2 (Mo_goodOnes_dc.at 7 rfl) (by decide) (fun q => ?_) (fun q => ?_)
  · have h := ite_t h q
    refine u_il_n (x := x1) E (Mo_goodOnes_dc.at 8 rfl) hl rfl ?_
    refine u_al_n (x := x0) E (Mo_goodOnes_dc.at 9 rfl) hl rfl ?_
    refine u_il_n (x := x2) E (Mo_goodOnes_dc.at 10 rfl) hl rfl ?_
    obtain ⟨M5, r4, er4, h⟩ := bd2_e h
    refine u_cVI (As := [.int (zO x2)]) (rest := [.int (zO x1)]) E S3 zcw_yX12_isGoodGift zw_9_71 zq_7_11 zw_9_69 zck_12.1 rfl g1 (Mo_isGoodGift_c l G fu top L M x0 x2 hx0 hx2 er4) (zrm_ok (by decide) (by decide)) ⟨Nat.le_refl 0, Nat.le_refl 0⟩ rfl (by simp [zR_cat, zcat_I, zcat_J, zcat_S]) hl.size rfl (Mo_goodOnes_dc.at 11 rfl) (fun H locs hr4 S6 => ?_)
    refine r_if_eq (tgt := 25) E (inR_01 hr4) (Mo_goodOnes_dc.at 12 rfl) (by decide) (fun q => ?_) (fun q => ?_)
    · have h := ite_t h q
      refine r_iconst E (Mo_goodOnes_dc.at 15 rfl) ?_
      refine r_iadd E (Mo_goodOnes_dc.at 16 rfl) ?_
      obtain ⟨v7, ev7, h⟩ := lt1_e h
      have hv7 := inR_eq ev7 (inR_w32 _)
      refine u_ist_n (y := v7) (vs' := [some (zR G.2.2.1 x0), some (.int (zO v7)), some (.int (zO x2))]) E ev7 (Mo_goodOnes_dc.at 17 rfl) hl (by decide) rfl (fun ls hl => ?_)
      obtain ⟨v8, ev8, h⟩ := lt1_e h
      have hv8 := inR_eq ev8 (inR_w32 _)
      refine u_iinc (y := v8) (vs' := [some (zR G.2.2.1 x0), some (.int (zO v7)), some (.int (zO v8))]) E ev8 (Mo_goodOnes_dc.at 18 rfl) hl rfl (by decide) rfl (fun ls hl => ?_)
      refine r_goto (tgt := 4) E (Mo_goodOnes_dc.at 19 rfl) (by decide) ?_
      exact hk4 _ x0 v7 v8 hx0 hv7 hv8 _ _ _ S6 (hl.sub (And.intro rfl (And.intro rfl (And.intro rfl True.intro)))) h
    · have h := ite_f h q
      refine r_iconst E (Mo_goodOnes_dc.at 13 rfl) ?_
      refine r_goto (tgt := 26) E (Mo_goodOnes_dc.at 14 rfl) (by decide) ?_
      refine r_iadd E (Mo_goodOnes_dc.at 16 rfl) ?_
      obtain ⟨v9, ev9, h⟩ := lt1_e h
      have hv9 := inR_eq ev9 (inR_w32 _)
      refine u_ist_n (y := v9) (vs' := [some (zR G.2.2.1 x0), some (.int (zO v9)), some (.int (zO x2))]) E ev9 (Mo_goodOnes_dc.at 17 rfl) hl (by decide) rfl (fun ls hl => ?_)
      obtain ⟨v10, ev10, h⟩ := lt1_e h
      have hv10 := inR_eq ev10 (inR_w32 _)
      refine u_iinc (y := v10) (vs' := [some (zR G.2.2.1 x0), some (.int (zO v9)), some (.int (zO v10))]) E ev10 (Mo_goodOnes_dc.at 18 rfl) hl rfl (by decide) rfl (fun ls hl => ?_)
      refine r_goto (tgt := 4) E (Mo_goodOnes_dc.at 19 rfl) (by decide) ?_
      exact hk4 _ x0 v9 v10 hx0 hv9 hv10 _ _ _ S6 (hl.sub (And.intro rfl (And.intro rfl (And.intro rfl True.intro)))) h
  · have h := ite_f h q
    refine u_il_n (x := x1) E (Mo_goodOnes_dc.at 20 rfl) hl rfl ?_
    cases h
    exact r_iret E S3 hx1 (Mo_goodOnes_dc.at 21 rfl)
theorem Mo_goodOnes_l4_w (E : zEv p m c cX12_goodOnes 3 s args RX12 meth (some .int) G) {res : (zM × Int)} : ∀ (n : Nat) (M : zM) (x0 : Int) (x1 : Int) (x2 : Int), InR x0 → InR x1 → InR x2 → ∀ (H : Heap) (locs : List Loc) (ls : Array Slot), zS G top L M s H locs → zLV ls 3 [some (zR G.2.2.1 x0), some (.int (zO x1)), some (.int (zO x2))] → Mo_goodOnes_l4 fu L n M x0 x1 x2 = some res → W p l e (zrm 49 0 0) s m args below meth c H locs 0 0 (MQ below (zQ G top L res.1 (some (.int (zO res.2))) (InR res.2)) args s 0 0 (zA G)) (F0 m 4 ls [])
  | 0, _, _, _, _ => fun _ _ _ _ _ _ _ _ h => (by cases h)
  | n + 1, M, x0, x1, x2 => fun hx0 hx1 hx2 H locs ls S hl h => Mo_goodOnes_s4_w E (fun M x0 x1 x2 hx0 hx1 hx2 H locs ls S hl h => Mo_goodOnes_l4_w E n M x0 x1 x2 hx0 hx1 hx2 H locs ls S hl h) hx0 hx1 hx2 S hl h
theorem Mo_goodOnes_w (E : zEv p m c cX12_goodOnes 3 s args RX12 meth (some .int) G) {res : (zM × Int)} {M : zM} {a0 : Int} {H : Heap} {locs : List Loc} {ls : Array Slot} (ha0 : InR a0) (S : zS G top L M s H locs) (hl : zLV ls 3 [some (zR G.2.2.1 a0), none, none]) (h : Mo_goodOnes fu L M a0 = some res) : W p l e (zrm 49 0 0) s m args below meth c H locs 0 0 (MQ below (zQ G top L res.1 (some (.int (zO res.2))) (InR res.2)) args s 0 0 (zA G)) (F0 m 0 ls []) := by
  unfold Mo_goodOnes at h
  refine r_iconst E (Mo_goodOnes_dc.at 0 rfl) ?_
  refine u_ist_n (y := 0) (vs' := [some (zR G.2.2.1 a0), some (.int (zO 0)), none]) E rfl (Mo_goodOnes_dc.at 1 rfl) hl (by decide) rfl (fun ls hl => ?_)
  refine r_iconst E (Mo_goodOnes_dc.at 2 rfl) ?_
  refine u_ist_n (y := 0) (vs' := [some (zR G.2.2.1 a0), some (.int (zO 0)), some (.int (zO 0))]) E rfl (Mo_goodOnes_dc.at 3 rfl) hl (by decide) rfl (fun ls hl => ?_)
  exact Mo_goodOnes_l4_w E fu _ a0 0 0 ha0 (show InR 0 by decide) (show InR 0 by decide) _ _ _ S (hl.sub (And.intro rfl (And.intro rfl (And.intro rfl True.intro)))) h
theorem Mo_goodOnes_c (l : Launch) (G : zG) (fu : Nat) (top : Int) (L : zL) (M : zM) (a0 : Int) {res : (zM × Int)} (ha0 : InR a0) (h : Mo_goodOnes fu L M a0 = some res) : Met l yX12_goodOnes (Cond.code yX12_goodOnes cX12_goodOnes 3 (some .int) :: zTB) (zrm 49 0 0) (va_Pc [zR G.2.2.1 a0] (zPre G top L M)) (zQ G top L res.1 (some (.int (zO res.2))) (InR res.2)) 0 0 (zA G) :=
  z_met (by decide +kernel) (by simp [zR_cat, zcat_I, zcat_S]) (Nat.le_of_ble_eq_true rfl) fun p e s m below meth c ls E hn S hl => Mo_goodOnes_w E ha0 S (hl.sub (And.intro rfl True.intro)) h
end
theorem Mo_badStates_dc : zDL cX12_badStates [(0, .iconst 0, 1, 1), (1, .istore_n 1, 1, 2), (2, .iconst 0, 1, 3), (3, .istore_n 2, 1, 4), (4, .iload_n 2, 1, 5), (5, .aload_n 0, 1, 6), (6, .invokevirtual 268, 3, 9), (9, .if_icmp .ge 30, 3, 12), (12, .iload_n 1, 1, 13), (13, .aload_n 0, 1, 14), (14, .aload_n 0, 1, 15), (15, .getfield 31, 3, 18), (18, .iload_n 2, 1, 19), (19, .invokevirtual 444, 3, 22), (22, .iconst 2, 1, 23), (23, .if_icmp .ne 7, 3, 26), (26, .iconst 1, 1, 27), (27, .goto 4, 3, 30), (30, .iconst 0, 1, 31), (31, .iadd, 1, 32), (32, .istore_n 1, 1, 33), (33, .iinc 2 1, 3, 36), (36, .goto (-32), 3, 39), (39, .iload_n 1, 1, 40), (40, .ireturn, 1, 41)] := zDL.of (by decide +kernel)
section
variable {p : Program} {l : Launch} {e : Env} {s : State} {m : MethodId} {args : Array Value} {below : List Frame} {meth : Method} {c : Code} {G : zG} {top : Int} {L : zL} {fu : Nat}
theorem Mo_badStates_s4_w (E : zEv p m c cX12_badStates 3 s args RX12 meth (some .int) G) {res : (zM × Int)} {k4 : zM → Int → Int → Int → Option (zM × Int)} (hk4 : ∀ (M : zM) (x0 : Int) (x1 : Int) (x2 : Int), InR x0 → InR x1 → InR x2 → ∀ (H : Heap) (locs : List Loc) (ls : Array Slot), zS G top L M s H locs → zLV ls 3 [some (zR G.2.2.1 x0), some (.int (zO x1)), some (.int (zO x2))] → k4 M x0 x1 x2 = some res → W p l e (zrm 52 0 0) s m args below meth c H locs 0 0 (MQ below (zQ G top L res.1 (some (.int (zO res.2))) (InR res.2)) args s 0 0 (zA G)) (F0 m 4 ls [])) {M : zM} {x0 : Int} {x1 : Int} {x2 : Int} {H : Heap} {locs : List Loc} {ls : Array Slot} (hx0 : InR x0) (hx1 : InR x1) (hx2 : InR x2) (S : zS G top L M s H locs) (hl : zLV ls 3 [some (zR G.2.2.1 x0), some (.int (zO x1)), some (.int (zO x2))]) (h : Mo_badStates_s4 fu k4 L M x0 x1 x2 = some res) : W p l e (zrm 52 0 0) s m args below meth c H locs 0 0 (MQ below (zQ G top L res.1 (some (.int (zO res.2))) (InR res.2)) args s 0 0 (zA G)) (F0 m 4 ls []) := by
  unfold Mo_badStates_s4 at h
  refine u_il_n (x := x2) E (Mo_badStates_dc.at 4 rfl) hl rfl ?_
  refine u_al_n (x := x0) E (Mo_badStates_dc.at 5 rfl) hl rfl ?_
  obtain ⟨g1, h⟩ := ite_e h
  obtain ⟨r2, er2, h⟩ := bd1_e h
  refine u_cVI (As := []) (rest := [.int (zO x2)]) E S zcw_yX12_gifts zw_8_62 zq_5_10 zw_8_60 zck_12.1 rfl g1 (Mo_gifts_c l G fu top L M x0 hx0 er2) (zrm_ok (by decide) (by decide)) ⟨Nat.le_refl 0, Nat.le_refl 0⟩ rfl (by simp [zR_cat, zcat_I, zcat_J, zcat_S]) hl.size rfl (Mo_badStates_dc.at 6 rfl) (fun H locs hr2 S3 => ?_)
  refine r_icmp_ge (tgt := 39) E hx2 hr2 (Mo_badStates_dc.at 7 rfl) (by decide) (fun q => ?_) (fun q => ?_)
  · have h := ite_t h q
    refine u_il_n (x := x1) E (Mo_badStates_dc.at 8 rfl) hl rfl ?_
    refine u_al_n (x := x0) E (Mo_badStates_dc.at 9 rfl) hl rfl ?_
    refine u_al_n (x := x0) E (Mo_badStates_dc.at 10 rfl) hl rfl ?_
    refine u_gR E zf_12_18 S3 g1 zw_6_225 (Mo_badStates_dc.at 11 rfl) ?_
    refine u_il_n (x := x2) E (Mo_badStates_dc.at 12 rfl) hl rfl ?_
    obtain ⟨M5, r4, er4, h⟩ := bd2_e h
    refine u_cVI (As := [zR G.2.2.1 (M x0 18), .int (zO x2)]) (rest := [.int (zO x1)]) E S3 zcw_yX12_stateOf zw_9_26 zq_7_7 zw_9_24 zck_12.1 rfl g1 (Mo_stateOf_c l G fu top L M x0 (M x0 18) x2 hx0 (S3.1.inR _ _) hx2 er4) (zrm_ok (by decide) (by decide)) ⟨Nat.le_refl 0, Nat.le_refl 0⟩ rfl (by simp [zR_cat, zcat_I, zcat_J, zcat_S]) hl.size rfl (Mo_badStates_dc.at 13 rfl) (fun H locs hr4 S6 => ?_)
    refine r_iconst E (Mo_badStates_dc.at 14 rfl) ?_
    refine r_icmp_ne (tgt := 30) E hr4 (show InR 2 by decide) (Mo_badStates_dc.at 15 rfl) (by decide) (fun q => ?_) (fun q => ?_)
    · have h := ite_t h q
      refine r_iconst E (Mo_badStates_dc.at 16 rfl) ?_
      refine r_goto (tgt := 31) E (Mo_badStates_dc.at 17 rfl) (by decide) ?_
      refine r_iadd E (Mo_badStates_dc.at 19 rfl) ?_
      obtain ⟨v7, ev7, h⟩ := lt1_e h
      have hv7 := inR_eq ev7 (inR_w32 _)
      refine u_ist_n (y := v7) (vs' := [some (zR G.2.2.1 x0), some (.int (zO v7)), some (.int (zO x2))]) E ev7 (Mo_badStates_dc.at 20 rfl) hl (by decide) rfl (fun ls hl => ?_)
      obtain ⟨v8, ev8, h⟩ := lt1_e h
      have hv8 := inR_eq ev8 (inR_w32 _)
      refine u_iinc (y := v8) (vs' := [some (zR G.2.2.1 x0), some (.int (zO v7)), some (.int (zO v8))]) E ev8 (Mo_badStates_dc.at 21 rfl) hl rfl (by decide) rfl (fun ls hl => ?_)
      refine r_goto (tgt := 4) E (Mo_badStates_dc.at 22 rfl) (by decide) ?_
      exact hk4 _ x0 v7 v8 hx0 hv7 hv8 _ _ _ S6 (hl.sub (And.intro rfl (And.intro rfl (And.intro rfl True.intro)))) h
    · have h := ite_f h q
      refine r_iconst E (Mo_badStates_dc.at 18 rfl) ?_
      refine r_iadd E (Mo_badStates_dc.at 19 rfl) ?_
      obtain ⟨v9, ev9, h⟩ := lt1_e h
      have hv9 := inR_eq ev9 (inR_w32 _)
      refine u_ist_n (y := v9) (vs' := [some (zR G.2.2.1 x0), some (.int (zO v9)), some (.int (zO x2))]) E ev9 (Mo_badStates_dc.at 20 rfl) hl (by decide) rfl (fun ls hl => ?_)
      obtain ⟨v10, ev10, h⟩ := lt1_e h
      have hv10 := inR_eq ev10 (inR_w32 _)
      refine u_iinc (y := v10) (vs' := [some (zR G.2.2.1 x0), some (.int (zO v9)), some (.int (zO v10))]) E ev10 (Mo_badStates_dc.at 21 rfl) hl rfl (by decide) rfl (fun ls hl => ?_)
      refine r_goto (tgt := 4) E (Mo_badStates_dc.at 22 rfl) (by decide) ?_
      exact hk4 _ x0 v9 v10 hx0 hv9 hv10 _ _ _ S6 (hl.sub (And.intro rfl (And.intro rfl (And.intro rfl True.intro)))) h
  · have h := ite_f h q
    refine u_il_n (x := x1) E (Mo_badStates_dc.at 23 rfl) hl rfl ?_
    cases h
    exact r_iret E S3 hx1 (Mo_badStates_dc.at 24 rfl)
theorem Mo_badStates_l4_w (E : zEv p m c cX12_badStates 3 s args RX12 meth (some .int) G) {res : (zM × Int)} : ∀ (n : Nat) (M : zM) (x0 : Int) (x1 : Int) (x2 : Int), InR x0 → InR x1 → InR x2 → ∀ (H : Heap) (locs : List Loc) (ls : Array Slot), zS G top L M s H locs → zLV ls 3 [some (zR G.2.2.1 x0), some (.int (zO x1)), some (.int (zO x2))] → Mo_badStates_l4 fu L n M x0 x1 x2 = some res → W p l e (zrm 52 0 0) s m args below meth c H locs 0 0 (MQ below (zQ G top L res.1 (some (.int (zO res.2))) (InR res.2)) args s 0 0 (zA G)) (F0 m 4 ls [])
  | 0, _, _, _, _ => fun _ _ _ _ _ _ _ _ h => (by cases h)
  | n + 1, M, x0, x1, x2 => fun hx0 hx1 hx2 H locs ls S hl h => Mo_badStates_s4_w E (fun M x0 x1 x2 hx0 hx1 hx2 H locs ls S hl h => Mo_badStates_l4_w E n M x0 x1 x2 hx0 hx1 hx2 H locs ls S hl h) hx0 hx1 hx2 S hl h
theorem Mo_badStates_w (E : zEv p m c cX12_badStates 3 s args RX12 meth (some .int) G) {res : (zM × Int)} {M : zM} {a0 : Int} {H : Heap} {locs : List Loc} {ls : Array Slot} (ha0 : InR a0) (S : zS G top L M s H locs) (hl : zLV ls 3 [some (zR G.2.2.1 a0), none, none]) (h : Mo_badStates fu L M a0 = some res) : W p l e (zrm 52 0 0) s m args below meth c H locs 0 0 (MQ below (zQ G top L res.1 (some (.int (zO res.2))) (InR res.2)) args s 0 0 (zA G)) (F0 m 0 ls []) := by
  unfold Mo_badStates at h
  refine r_iconst E (Mo_badStates_dc.at 0 rfl) ?_
  refine u_ist_n (y := 0) (vs' := [some (zR G.2.2.1 a0), some (.int (zO 0)), none]) E rfl (Mo_badStates_dc.at 1 rfl) hl (by decide) rfl (fun ls hl => ?_)
  refine r_iconst E (Mo_badStates_dc.at 2 rfl) ?_
  refine u_ist_n (y := 0) (vs' := [some (zR G.2.2.1 a0), some (.int (zO 0)), some (.int (zO 0))]) E rfl (Mo_badStates_dc.at 3 rfl) hl (by decide) rfl (fun ls hl => ?_)
  exact Mo_badStates_l4_w E fu _ a0 0 0 ha0 (show InR 0 by decide) (show InR 0 by decide) _ _ _ S (hl.sub (And.intro rfl (And.intro rfl (And.intro rfl True.intro)))) h
theorem Mo_badStates_c (l : Launch) (G : zG) (fu : Nat) (top : Int) (L : zL) (M : zM) (a0 : Int) {res : (zM × Int)} (ha0 : InR a0) (h : Mo_badStates fu L M a0 = some res) : Met l yX12_badStates (Cond.code yX12_badStates cX12_badStates 3 (some .int) :: zTB) (zrm 52 0 0) (va_Pc [zR G.2.2.1 a0] (zPre G top L M)) (zQ G top L res.1 (some (.int (zO res.2))) (InR res.2)) 0 0 (zA G) :=
  z_met (by decide +kernel) (by simp [zR_cat, zcat_I, zcat_S]) (Nat.le_of_ble_eq_true rfl) fun p e s m below meth c ls E hn S hl => Mo_badStates_w E ha0 S (hl.sub (And.intro rfl True.intro)) h
end
theorem Mo_longest_dc : zDL cX12_longest [(0, .iconst (-1), 1, 1), (1, .istore_n 1, 1, 2), (2, .iconst 0, 1, 3), (3, .istore_n 2, 1, 4), (4, .iload_n 2, 1, 5), (5, .aload_n 0, 1, 6), (6, .invokevirtual 268, 3, 9), (9, .if_icmp .ge 45, 3, 12), (12, .iload_n 1, 1, 13), (13, .iconst (-1), 1, 14), (14, .if_icmp .eq 28, 3, 17), (17, .aload_n 0, 1, 18), (18, .getfield 31, 3, 21), (21, .iload_n 2, 1, 22), (22, .invokestatic 271, 3, 25), (25, .iconst 2, 1, 26), (26, .iadd, 1, 27), (27, .iaload, 1, 28), (28, .aload_n 0, 1, 29), (29, .getfield 31, 3, 32), (32, .iload_n 1, 1, 33), (33, .invokestatic 271, 3, 36), (36, .iconst 2, 1, 37), (37, .iadd, 1, 38), (38, .iaload, 1, 39), (39, .if_icmp .le 7, 3, 42), (42, .iload_n 2, 1, 43), (43, .goto 4, 3, 46), (46, .iload_n 1, 1, 47), (47, .istore_n 1, 1, 48), (48, .iinc 2 1, 3, 51), (51, .goto (-47), 3, 54), (54, .iload_n 1, 1, 55), (55, .ireturn, 1, 56)] := zDL.of (by decide +kernel)
section
variable {p : Program} {l : Launch} {e : Env} {s : State} {m : MethodId} {args : Array Value} {below : List Frame} {meth : Method} {c : Code} {G : zG} {top : Int} {L : zL} {fu : Nat}
theorem Mo_longest_s4_w (E : zEv p m c cX12_longest 3 s args RX12 meth (some .int) G) {res : Int} {k4 : zM → Int → Int → Int → Option Int} (hk4 : ∀ (M : zM) (x0 : Int) (x1 : Int) (x2 : Int), InR x0 → InR x1 → InR x2 → ∀ (H : Heap) (locs : List Loc) (ls : Array Slot), zS G top L M s H locs → zLV ls 3 [some (zR G.2.2.1 x0), some (.int (zO x1)), some (.int (zO x2))] → k4 M x0 x1 x2 = some res → W p l e (zrm 2 0 0) s m args below meth c H locs 0 0 (MQ below (zQ G top L M (some (.int (zO res))) (InR res)) args s 0 0 (zA G)) (F0 m 4 ls [])) {M : zM} {x0 : Int} {x1 : Int} {x2 : Int} {H : Heap} {locs : List Loc} {ls : Array Slot} (hx0 : InR x0) (hx1 : InR x1) (hx2 : InR x2) (S : zS G top L M s H locs) (hl : zLV ls 3 [some (zR G.2.2.1 x0), some (.int (zO x1)), some (.int (zO x2))]) (h : Mo_longest_s4 fu k4 L M x0 x1 x2 = some res) : W p l e (zrm 2 0 0) s m args below meth c H locs 0 0 (MQ below (zQ G top L M (some (.int (zO res))) (InR res)) args s 0 0 (zA G)) (F0 m 4 ls []) := by
  unfold Mo_longest_s4 at h
  refine u_il_n (x := x2) E (Mo_longest_dc.at 4 rfl) hl rfl ?_
  refine u_al_n (x := x0) E (Mo_longest_dc.at 5 rfl) hl rfl ?_
  obtain ⟨g1, h⟩ := ite_e h
  obtain ⟨r2, er2, h⟩ := bd1_e h
  refine u_cVI (As := []) (rest := [.int (zO x2)]) E S zcw_yX12_gifts zw_8_62 zq_5_10 zw_8_60 zck_12.1 rfl g1 (Mo_gifts_c l G fu top L M x0 hx0 er2) (zrm_ok (by decide) (by decide)) ⟨Nat.le_refl 0, Nat.le_refl 0⟩ rfl (by simp [zR_cat, zcat_I, zcat_J, zcat_S]) hl.size rfl (Mo_longest_dc.at 6 rfl) (fun H locs hr2 S3 => ?_)
  refine r_icmp_ge (tgt := 54) E hx2 hr2 (Mo_longest_dc.at 7 rfl) (by decide) (fun q => ?_) (fun q => ?_)
  · have h := ite_t h q
    refine u_il_n (x := x1) E (Mo_longest_dc.at 8 rfl) hl rfl ?_
    refine r_iconst E (Mo_longest_dc.at 9 rfl) ?_
    refine r_icmp_eq (tgt := 42) E hx1 (show InR (-1) by decide) (Mo_longest_dc.at 10 rfl) (by decide) (fun q => ?_) (fun q => ?_)
    · have h := ite_t h q
      refine u_il_n (x := x2) E (Mo_longest_dc.at 26 rfl) hl rfl ?_
      refine r_goto (tgt := 47) E (Mo_longest_dc.at 27 rfl) (by decide) ?_
      refine u_ist_n (y := x2) (vs' := [some (zR G.2.2.1 x0), some (.int (zO x2)), some (.int (zO x2))]) E rfl (Mo_longest_dc.at 29 rfl) hl (by decide) rfl (fun ls hl => ?_)
      obtain ⟨v4, ev4, h⟩ := lt1_e h
      have hv4 := inR_eq ev4 (inR_w32 _)
      refine u_iinc (y := v4) (vs' := [some (zR G.2.2.1 x0), some (.int (zO x2)), some (.int (zO v4))]) E ev4 (Mo_longest_dc.at 30 rfl) hl rfl (by decide) rfl (fun ls hl => ?_)
      refine r_goto (tgt := 4) E (Mo_longest_dc.at 31 rfl) (by decide) ?_
      exact hk4 _ x0 x2 v4 hx0 hx2 hv4 _ _ _ S3 (hl.sub (And.intro rfl (And.intro rfl (And.intro rfl True.intro)))) h
    · have h := ite_f h q
      refine u_al_n (x := x0) E (Mo_longest_dc.at 11 rfl) hl rfl ?_
      refine u_gR E zf_12_18 S3 g1 zw_6_225 (Mo_longest_dc.at 12 rfl) ?_
      refine u_il_n (x := x2) E (Mo_longest_dc.at 13 rfl) hl rfl ?_
      obtain ⟨r5, er5, h⟩ := bd1_e h
      refine u_cSI (As := [.int (zO x2)]) (rest := [zR G.2.2.1 (M x0 18)]) E S3 zcw_yX12_giftAt zw_8_69 zw_8_68 (Mo_giftAt_c l G fu top L M x2 hx2 er5) (zrm_ok (by decide) (by decide)) ⟨Nat.le_refl 0, Nat.le_refl 0⟩ rfl (by simp [zR_cat, zcat_I, zcat_J, zcat_S]) hl.size rfl (Mo_longest_dc.at 14 rfl) (fun H locs hr5 S6 => ?_)
      refine r_iconst E (Mo_longest_dc.at 15 rfl) ?_
      refine r_iadd E (Mo_longest_dc.at 16 rfl) ?_
      obtain ⟨g7, h⟩ := ite_e h
      obtain ⟨g8, h⟩ := ite_e h
      refine r_iald E S6 g7 g8 (Mo_longest_dc.at 17 rfl) ?_
      refine u_al_n (x := x0) E (Mo_longest_dc.at 18 rfl) hl rfl ?_
      refine u_gR E zf_12_18 S6 g1 zw_6_225 (Mo_longest_dc.at 19 rfl) ?_
      refine u_il_n (x := x1) E (Mo_longest_dc.at 20 rfl) hl rfl ?_
      obtain ⟨r9, er9, h⟩ := bd1_e h
      refine u_cSI (As := [.int (zO x1)]) (rest := [zR G.2.2.1 (M x0 18), .int (zO (M (M x0 18) (w32 (r5 + 2))))]) E S6 zcw_yX12_giftAt zw_8_69 zw_8_68 (Mo_giftAt_c l G fu top L M x1 hx1 er9) (zrm_ok (by decide) (by decide)) ⟨Nat.le_refl 0, Nat.le_refl 0⟩ rfl (by simp [zR_cat, zcat_I, zcat_J, zcat_S]) hl.size rfl (Mo_longest_dc.at 21 rfl) (fun H locs hr9 S10 => ?_)
      refine r_iconst E (Mo_longest_dc.at 22 rfl) ?_
      refine r_iadd E (Mo_longest_dc.at 23 rfl) ?_
      obtain ⟨g11, h⟩ := ite_e h
      refine r_iald E S10 g7 g11 (Mo_longest_dc.at 24 rfl) ?_
      refine r_icmp_le (tgt := 46) E (S6.1.inR _ _) (S10.1.inR _ _) (Mo_longest_dc.at 25 rfl) (by decide) (fun q => ?_) (fun q => ?_)
      · have h := ite_t h q
        refine u_il_n (x := x2) E (Mo_longest_dc.at 26 rfl) hl rfl ?_
        refine r_goto (tgt := 47) E (Mo_longest_dc.at 27 rfl) (by decide) ?_
        refine u_ist_n (y := x2) (vs' := [some (zR G.2.2.1 x0), some (.int (zO x2)), some (.int (zO x2))]) E rfl (Mo_longest_dc.at 29 rfl) hl (by decide) rfl (fun ls hl => ?_)
        obtain ⟨v12, ev12, h⟩ := lt1_e h
        have hv12 := inR_eq ev12 (inR_w32 _)
        refine u_iinc (y := v12) (vs' := [some (zR G.2.2.1 x0), some (.int (zO x2)), some (.int (zO v12))]) E ev12 (Mo_longest_dc.at 30 rfl) hl rfl (by decide) rfl (fun ls hl => ?_)
        refine r_goto (tgt := 4) E (Mo_longest_dc.at 31 rfl) (by decide) ?_
        exact hk4 _ x0 x2 v12 hx0 hx2 hv12 _ _ _ S10 (hl.sub (And.intro rfl (And.intro rfl (And.intro rfl True.intro)))) h
      · have h := ite_f h q
        refine u_il_n (x := x1) E (Mo_longest_dc.at 28 rfl) hl rfl ?_
        refine u_ist_n (y := x1) (vs' := [some (zR G.2.2.1 x0), some (.int (zO x1)), some (.int (zO x2))]) E rfl (Mo_longest_dc.at 29 rfl) hl (by decide) rfl (fun ls hl => ?_)
        obtain ⟨v13, ev13, h⟩ := lt1_e h
        have hv13 := inR_eq ev13 (inR_w32 _)
        refine u_iinc (y := v13) (vs' := [some (zR G.2.2.1 x0), some (.int (zO x1)), some (.int (zO v13))]) E ev13 (Mo_longest_dc.at 30 rfl) hl rfl (by decide) rfl (fun ls hl => ?_)
        refine r_goto (tgt := 4) E (Mo_longest_dc.at 31 rfl) (by decide) ?_
        exact hk4 _ x0 x1 v13 hx0 hx1 hv13 _ _ _ S10 (hl.sub (And.intro rfl (And.intro rfl (And.intro rfl True.intro)))) h
  · have h := ite_f h q
    refine u_il_n (x := x1) E (Mo_longest_dc.at 32 rfl) hl rfl ?_
    cases h
    exact r_iret E S3 hx1 (Mo_longest_dc.at 33 rfl)
theorem Mo_longest_l4_w (E : zEv p m c cX12_longest 3 s args RX12 meth (some .int) G) {res : Int} : ∀ (n : Nat) (M : zM) (x0 : Int) (x1 : Int) (x2 : Int), InR x0 → InR x1 → InR x2 → ∀ (H : Heap) (locs : List Loc) (ls : Array Slot), zS G top L M s H locs → zLV ls 3 [some (zR G.2.2.1 x0), some (.int (zO x1)), some (.int (zO x2))] → Mo_longest_l4 fu L n M x0 x1 x2 = some res → W p l e (zrm 2 0 0) s m args below meth c H locs 0 0 (MQ below (zQ G top L M (some (.int (zO res))) (InR res)) args s 0 0 (zA G)) (F0 m 4 ls [])
  | 0, _, _, _, _ => fun _ _ _ _ _ _ _ _ h => (by cases h)
  | n + 1, M, x0, x1, x2 => fun hx0 hx1 hx2 H locs ls S hl h => Mo_longest_s4_w E (fun M x0 x1 x2 hx0 hx1 hx2 H locs ls S hl h => Mo_longest_l4_w E n M x0 x1 x2 hx0 hx1 hx2 H locs ls S hl h) hx0 hx1 hx2 S hl h
theorem Mo_longest_w (E : zEv p m c cX12_longest 3 s args RX12 meth (some .int) G) {res : Int} {M : zM} {a0 : Int} {H : Heap} {locs : List Loc} {ls : Array Slot} (ha0 : InR a0) (S : zS G top L M s H locs) (hl : zLV ls 3 [some (zR G.2.2.1 a0), none, none]) (h : Mo_longest fu L M a0 = some res) : W p l e (zrm 2 0 0) s m args below meth c H locs 0 0 (MQ below (zQ G top L M (some (.int (zO res))) (InR res)) args s 0 0 (zA G)) (F0 m 0 ls []) := by
  unfold Mo_longest at h
  refine r_iconst E (Mo_longest_dc.at 0 rfl) ?_
  refine u_ist_n (y := (-1)) (vs' := [some (zR G.2.2.1 a0), some (.int (zO (-1))), none]) E rfl (Mo_longest_dc.at 1 rfl) hl (by decide) rfl (fun ls hl => ?_)
  refine r_iconst E (Mo_longest_dc.at 2 rfl) ?_
  refine u_ist_n (y := 0) (vs' := [some (zR G.2.2.1 a0), some (.int (zO (-1))), some (.int (zO 0))]) E rfl (Mo_longest_dc.at 3 rfl) hl (by decide) rfl (fun ls hl => ?_)
  exact Mo_longest_l4_w E fu _ a0 (-1) 0 ha0 (show InR (-1) by decide) (show InR 0 by decide) _ _ _ S (hl.sub (And.intro rfl (And.intro rfl (And.intro rfl True.intro)))) h
theorem Mo_longest_c (l : Launch) (G : zG) (fu : Nat) (top : Int) (L : zL) (M : zM) (a0 : Int) {res : Int} (ha0 : InR a0) (h : Mo_longest fu L M a0 = some res) : Met l yX12_longest (Cond.code yX12_longest cX12_longest 3 (some .int) :: zTB) (zrm 2 0 0) (va_Pc [zR G.2.2.1 a0] (zPre G top L M)) (zQ G top L M (some (.int (zO res))) (InR res)) 0 0 (zA G) :=
  z_met (by decide +kernel) (by simp [zR_cat, zcat_I, zcat_S]) (Nat.le_of_ble_eq_true rfl) fun p e s m below meth c ls E hn S hl => Mo_longest_w E ha0 S (hl.sub (And.intro rfl True.intro)) h
end
theorem Mo_greatestAge_dc : zDL cX12_greatestAge [(0, .iconst (-1), 1, 1), (1, .istore_n 1, 1, 2), (2, .iconst 0, 1, 3), (3, .istore_n 2, 1, 4), (4, .iload_n 2, 1, 5), (5, .aload_n 0, 1, 6), (6, .getfield 31, 3, 9), (9, .iconst 1, 1, 10), (10, .iaload, 1, 11), (11, .if_icmp .ge 37, 3, 14), (14, .aload_n 0, 1, 15), (15, .getfield 31, 3, 18), (18, .bipush 26, 2, 20), (20, .iload_n 2, 1, 21), (21, .iadd, 1, 22), (22, .iaload, 1, 23), (23, .ldc 254, 2, 25), (25, .if_icmp .ne 7, 3, 28), (28, .iload_n 1, 1, 29), (29, .goto 12, 3, 32), (32, .iload_n 1, 1, 33), (33, .aload_n 0, 1, 34), (34, .iload_n 2, 1, 35), (35, .invokevirtual 319, 3, 38), (38, .invokestatic 305, 3, 41), (41, .istore_n 1, 1, 42), (42, .iinc 2 1, 3, 45), (45, .goto (-41), 3, 48), (48, .iload_n 1, 1, 49), (49, .ireturn, 1, 50)] := zDL.of (by decide +kernel)
section
variable {p : Program} {l : Launch} {e : Env} {s : State} {m : MethodId} {args : Array Value} {below : List Frame} {meth : Method} {c : Code} {G : zG} {top : Int} {L : zL} {fu : Nat}
theorem Mo_greatestAge_s4_w (E : zEv p m c cX12_greatestAge 3 s args RX12 meth (some .int) G) {res : Int} {k4 : zM → Int → Int → Int → Option Int} (hk4 : ∀ (M : zM) (x0 : Int) (x1 : Int) (x2 : Int), InR x0 → InR x1 → InR x2 → ∀ (H : Heap) (locs : List Loc) (ls : Array Slot), zS G top L M s H locs → zLV ls 3 [some (zR G.2.2.1 x0), some (.int (zO x1)), some (.int (zO x2))] → k4 M x0 x1 x2 = some res → W p l e (zrm 2 0 0) s m args below meth c H locs 0 0 (MQ below (zQ G top L M (some (.int (zO res))) (InR res)) args s 0 0 (zA G)) (F0 m 4 ls [])) {M : zM} {x0 : Int} {x1 : Int} {x2 : Int} {H : Heap} {locs : List Loc} {ls : Array Slot} (hx0 : InR x0) (hx1 : InR x1) (hx2 : InR x2) (S : zS G top L M s H locs) (hl : zLV ls 3 [some (zR G.2.2.1 x0), some (.int (zO x1)), some (.int (zO x2))]) (h : Mo_greatestAge_s4 fu k4 L M x0 x1 x2 = some res) : W p l e (zrm 2 0 0) s m args below meth c H locs 0 0 (MQ below (zQ G top L M (some (.int (zO res))) (InR res)) args s 0 0 (zA G)) (F0 m 4 ls []) := by
  unfold Mo_greatestAge_s4 at h
  refine u_il_n (x := x2) E (Mo_greatestAge_dc.at 4 rfl) hl rfl ?_
  refine u_al_n (x := x0) E (Mo_greatestAge_dc.at 5 rfl) hl rfl ?_
  obtain ⟨g1, h⟩ := ite_e h
  refine u_gR E zf_12_18 S g1 zw_6_225 (Mo_greatestAge_dc.at 6 rfl) ?_
  refine r_iconst E (Mo_greatestAge_dc.at 7 rfl) ?_
  obtain ⟨g2, h⟩ := ite_e h
  obtain ⟨g3, h⟩ := ite_e h
  refine r_iald E S g2 g3 (Mo_greatestAge_dc.at 8 rfl) ?_
  refine r_icmp_ge (tgt := 48) E hx2 (S.1.inR _ _) (Mo_greatestAge_dc.at 9 rfl) (by decide) (fun q => ?_) (fun q => ?_)
  · have h := ite_t h q
    refine u_al_n (x := x0) E (Mo_greatestAge_dc.at 10 rfl) hl rfl ?_
    refine u_gR E zf_12_18 S g1 zw_6_225 (Mo_greatestAge_dc.at 11 rfl) ?_
    refine r_bipush E (Mo_greatestAge_dc.at 12 rfl) rfl ?_
    refine u_il_n (x := x2) E (Mo_greatestAge_dc.at 13 rfl) hl rfl ?_
    refine r_iadd E (Mo_greatestAge_dc.at 14 rfl) ?_
    obtain ⟨g4, h⟩ := ite_e h
    refine r_iald E S g2 g4 (Mo_greatestAge_dc.at 15 rfl) ?_
    refine r_ldc (n := 16777216) E (Mo_greatestAge_dc.at 16 rfl) zw_8_42 rfl ?_
    refine r_icmp_ne (tgt := 32) E (S.1.inR _ _) (show InR 16777216 by decide) (Mo_greatestAge_dc.at 17 rfl) (by decide) (fun q => ?_) (fun q => ?_)
    · have h := ite_t h q
      refine u_il_n (x := x1) E (Mo_greatestAge_dc.at 18 rfl) hl rfl ?_
      refine r_goto (tgt := 41) E (Mo_greatestAge_dc.at 19 rfl) (by decide) ?_
      refine u_ist_n (y := x1) (vs' := [some (zR G.2.2.1 x0), some (.int (zO x1)), some (.int (zO x2))]) E rfl (Mo_greatestAge_dc.at 25 rfl) hl (by decide) rfl (fun ls hl => ?_)
      obtain ⟨v5, ev5, h⟩ := lt1_e h
      have hv5 := inR_eq ev5 (inR_w32 _)
      refine u_iinc (y := v5) (vs' := [some (zR G.2.2.1 x0), some (.int (zO x1)), some (.int (zO v5))]) E ev5 (Mo_greatestAge_dc.at 26 rfl) hl rfl (by decide) rfl (fun ls hl => ?_)
      refine r_goto (tgt := 4) E (Mo_greatestAge_dc.at 27 rfl) (by decide) ?_
      exact hk4 _ x0 x1 v5 hx0 hx1 hv5 _ _ _ S (hl.sub (And.intro rfl (And.intro rfl (And.intro rfl True.intro)))) h
    · have h := ite_f h q
      refine u_il_n (x := x1) E (Mo_greatestAge_dc.at 20 rfl) hl rfl ?_
      refine u_al_n (x := x0) E (Mo_greatestAge_dc.at 21 rfl) hl rfl ?_
      refine u_il_n (x := x2) E (Mo_greatestAge_dc.at 22 rfl) hl rfl ?_
      obtain ⟨r6, er6, h⟩ := bd1_e h
      refine u_cVI (As := [.int (zO x2)]) (rest := [.int (zO x1)]) E S zcw_yX12_ageOf zw_8_137 zq_6_0 zw_8_135 zck_12.1 rfl g1 (Mo_ageOf_c l G fu top L M x0 x2 hx0 hx2 er6) (zrm_ok (by decide) (by decide)) ⟨Nat.le_refl 0, Nat.le_refl 0⟩ rfl (by simp [zR_cat, zcat_I, zcat_J, zcat_S]) hl.size rfl (Mo_greatestAge_dc.at 23 rfl) (fun H locs hr6 S7 => ?_)
      refine r_max (rest := []) E hx1 hr6 hl.size zw_8_125 zw_4_56 zw_1_17 zw_4_57 (by decide) (by simp [zR_cat, zcat_I, zcat_J, zcat_S, zrm]) ⟨Nat.zero_le _, Nat.zero_le _⟩ (Mo_greatestAge_dc.at 24 rfl) ?_
      obtain ⟨v8, ev8, h⟩ := lt1_e h
      have hv8 := inR_eq ev8 (inR_max hx1 hr6)
      refine u_ist_n (y := v8) (vs' := [some (zR G.2.2.1 x0), some (.int (zO v8)), some (.int (zO x2))]) E ev8 (Mo_greatestAge_dc.at 25 rfl) hl (by decide) rfl (fun ls hl => ?_)
      obtain ⟨v9, ev9, h⟩ := lt1_e h
      have hv9 := inR_eq ev9 (inR_w32 _)
      refine u_iinc (y := v9) (vs' := [some (zR G.2.2.1 x0), some (.int (zO v8)), some (.int (zO v9))]) E ev9 (Mo_greatestAge_dc.at 26 rfl) hl rfl (by decide) rfl (fun ls hl => ?_)
      refine r_goto (tgt := 4) E (Mo_greatestAge_dc.at 27 rfl) (by decide) ?_
      exact hk4 _ x0 v8 v9 hx0 hv8 hv9 _ _ _ S7 (hl.sub (And.intro rfl (And.intro rfl (And.intro rfl True.intro)))) h
  · have h := ite_f h q
    refine u_il_n (x := x1) E (Mo_greatestAge_dc.at 28 rfl) hl rfl ?_
    cases h
    exact r_iret E S hx1 (Mo_greatestAge_dc.at 29 rfl)
theorem Mo_greatestAge_l4_w (E : zEv p m c cX12_greatestAge 3 s args RX12 meth (some .int) G) {res : Int} : ∀ (n : Nat) (M : zM) (x0 : Int) (x1 : Int) (x2 : Int), InR x0 → InR x1 → InR x2 → ∀ (H : Heap) (locs : List Loc) (ls : Array Slot), zS G top L M s H locs → zLV ls 3 [some (zR G.2.2.1 x0), some (.int (zO x1)), some (.int (zO x2))] → Mo_greatestAge_l4 fu L n M x0 x1 x2 = some res → W p l e (zrm 2 0 0) s m args below meth c H locs 0 0 (MQ below (zQ G top L M (some (.int (zO res))) (InR res)) args s 0 0 (zA G)) (F0 m 4 ls [])
  | 0, _, _, _, _ => fun _ _ _ _ _ _ _ _ h => (by cases h)
  | n + 1, M, x0, x1, x2 => fun hx0 hx1 hx2 H locs ls S hl h => Mo_greatestAge_s4_w E (fun M x0 x1 x2 hx0 hx1 hx2 H locs ls S hl h => Mo_greatestAge_l4_w E n M x0 x1 x2 hx0 hx1 hx2 H locs ls S hl h) hx0 hx1 hx2 S hl h
theorem Mo_greatestAge_w (E : zEv p m c cX12_greatestAge 3 s args RX12 meth (some .int) G) {res : Int} {M : zM} {a0 : Int} {H : Heap} {locs : List Loc} {ls : Array Slot} (ha0 : InR a0) (S : zS G top L M s H locs) (hl : zLV ls 3 [some (zR G.2.2.1 a0), none, none]) (h : Mo_greatestAge fu L M a0 = some res) : W p l e (zrm 2 0 0) s m args below meth c H locs 0 0 (MQ below (zQ G top L M (some (.int (zO res))) (InR res)) args s 0 0 (zA G)) (F0 m 0 ls []) := by
  unfold Mo_greatestAge at h
  refine r_iconst E (Mo_greatestAge_dc.at 0 rfl) ?_
  refine u_ist_n (y := (-1)) (vs' := [some (zR G.2.2.1 a0), some (.int (zO (-1))), none]) E rfl (Mo_greatestAge_dc.at 1 rfl) hl (by decide) rfl (fun ls hl => ?_)
  refine r_iconst E (Mo_greatestAge_dc.at 2 rfl) ?_
  refine u_ist_n (y := 0) (vs' := [some (zR G.2.2.1 a0), some (.int (zO (-1))), some (.int (zO 0))]) E rfl (Mo_greatestAge_dc.at 3 rfl) hl (by decide) rfl (fun ls hl => ?_)
  exact Mo_greatestAge_l4_w E fu _ a0 (-1) 0 ha0 (show InR (-1) by decide) (show InR 0 by decide) _ _ _ S (hl.sub (And.intro rfl (And.intro rfl (And.intro rfl True.intro)))) h
theorem Mo_greatestAge_c (l : Launch) (G : zG) (fu : Nat) (top : Int) (L : zL) (M : zM) (a0 : Int) {res : Int} (ha0 : InR a0) (h : Mo_greatestAge fu L M a0 = some res) : Met l yX12_greatestAge (Cond.code yX12_greatestAge cX12_greatestAge 3 (some .int) :: zTB) (zrm 2 0 0) (va_Pc [zR G.2.2.1 a0] (zPre G top L M)) (zQ G top L M (some (.int (zO res))) (InR res)) 0 0 (zA G) :=
  z_met (by decide +kernel) (by simp [zR_cat, zcat_I, zcat_S]) (Nat.le_of_ble_eq_true rfl) fun p e s m below meth c ls E hn S hl => Mo_greatestAge_w E ha0 S (hl.sub (And.intro rfl True.intro)) h
end
