theorem Mo_passes_dc : zDL cX12_passes [(0, .aload_n 0, 1, 1), (1, .iload_n 1, 1, 2), (2, .invokevirtual 382, 3, 5), (5, .istore_n 2, 1, 6), (6, .aload_n 0, 1, 7), (7, .dup, 1, 8), (8, .getfield 376, 3, 11), (11, .iload_n 2, 1, 12), (12, .ifCond .eq 7, 3, 15), (15, .iconst 1, 1, 16), (16, .goto 4, 3, 19), (19, .iconst 0, 1, 20), (20, .iadd, 1, 21), (21, .putfield 376, 3, 24), (24, .iload_n 2, 1, 25), (25, .ireturn, 1, 26)] := zDL.of (by decide +kernel)
section
variable {p : Program} {l : Launch} {e : Env} {s : State} {m : MethodId} {args : Array Value} {below : List Frame} {meth : Method} {c : Code} {G : zG} {top : Int} {L : zL} {fu : Nat}
theorem Mo_passes_w (E : zEv p m c cX12_passes 3 s args RX12 meth (some .boolean) G) {res : (zM × Int)} {M : zM} {a0 : Int} {a1 : Int} {H : Heap} {locs : List Loc} {ls : Array Slot} (ha0 : InR a0) (ha1 : InR a1) (S : zS G top L M s H locs) (hl : zLV ls 3 [some (zR G.2.2.1 a0), some (.int (zO a1)), none]) (h : Mo_passes fu L M a0 a1 = some res) : W p l e (zrm 2 0 0) s m args below meth c H locs 0 0 (MQ below (zQ G top L res.1 (some (.int (zO res.2))) (0 ≤ res.2 ∧ res.2 ≤ 1)) args s 0 0 (zA G)) (F0 m 0 ls []) := by
  unfold Mo_passes at h
  refine u_al_n (x := a0) E (Mo_passes_dc.at 0 rfl) hl rfl ?_
  refine u_il_n (x := a1) E (Mo_passes_dc.at 1 rfl) hl rfl ?_
  obtain ⟨g1, h⟩ := ite_e h
  obtain ⟨r2, er2, h⟩ := bd1_e h
  refine u_cVI (As := [.int (zO a1)]) (rest := []) E S zcw_yX12_isNext zw_9_2 zq_7_4 zw_9_0 zck_12.1 rfl g1 (Mo_isNext_c l G fu top L M a0 a1 ha0 ha1 er2) (zrm_ok (by decide) (by decide)) ⟨Nat.le_refl 0, Nat.le_refl 0⟩ rfl (Nat.zero_le 8) hl.size rfl (Mo_passes_dc.at 2 rfl) (fun H locs hr2 S3 => ?_)
  refine u_ist_n (y := r2) (vs' := [some (zR G.2.2.1 a0), some (.int (zO a1)), some (.int (zO r2))]) E rfl (Mo_passes_dc.at 3 rfl) hl (by decide) rfl (fun ls hl => ?_)
  refine u_al_n (x := a0) E (Mo_passes_dc.at 4 rfl) hl rfl ?_
  refine r_dup E (Mo_passes_dc.at 5 rfl) (zR_cat _ _) ?_
  refine u_gI E zf_12_30 S3 g1 zw_6_237 (Mo_passes_dc.at 6 rfl) ?_
  refine u_il_n (x := r2) E (Mo_passes_dc.at 7 rfl) hl rfl ?_
  refine r_if_eq (tgt := 19) E (inR_01 hr2) (Mo_passes_dc.at 8 rfl) (by decide) (fun q => ?_) (fun q => ?_)
  · have h := ite_t h q
    refine r_iconst E (Mo_passes_dc.at 11 rfl) ?_
    refine r_iadd E (Mo_passes_dc.at 12 rfl) ?_
    obtain ⟨M4, eM4, h⟩ := lt1_e h
    refine u_pI E eM4 zf_12_30 S3 g1 (inR_w32 _) (Or.inl rfl) rfl zw_6_237 (Mo_passes_dc.at 13 rfl) (fun H locs S5 => ?_)
    refine u_il_n (x := r2) E (Mo_passes_dc.at 14 rfl) hl rfl ?_
    cases h
    exact r_zret E S5 hr2 hr2 (Mo_passes_dc.at 15 rfl)
  · have h := ite_f h q
    refine r_iconst E (Mo_passes_dc.at 9 rfl) ?_
    refine r_goto (tgt := 20) E (Mo_passes_dc.at 10 rfl) (by decide) ?_
    refine r_iadd E (Mo_passes_dc.at 12 rfl) ?_
    obtain ⟨M6, eM6, h⟩ := lt1_e h
    refine u_pI E eM6 zf_12_30 S3 g1 (inR_w32 _) (Or.inl rfl) rfl zw_6_237 (Mo_passes_dc.at 13 rfl) (fun H locs S7 => ?_)
    refine u_il_n (x := r2) E (Mo_passes_dc.at 14 rfl) hl rfl ?_
    cases h
    exact r_zret E S7 hr2 hr2 (Mo_passes_dc.at 15 rfl)
theorem Mo_passes_c (l : Launch) (G : zG) (fu : Nat) (top : Int) (L : zL) (M : zM) (a0 : Int) (a1 : Int) {res : (zM × Int)} (ha0 : InR a0) (ha1 : InR a1) (h : Mo_passes fu L M a0 a1 = some res) : Met l yX12_passes (Cond.code yX12_passes cX12_passes 3 (some .boolean) :: zTB) (zrm 2 0 0) (va_Pc [zR G.2.2.1 a0, .int (zO a1)] (zPre G top L M)) (zQ G top L res.1 (some (.int (zO res.2))) (0 ≤ res.2 ∧ res.2 ≤ 1)) 0 0 (zA G) :=
  z_met (by decide +kernel) (by simp [zR_cat, zcat_I, zcat_S]) (Nat.le_of_ble_eq_true rfl) fun p e s m below meth c ls E hn S hl => Mo_passes_w E ha0 ha1 S (hl.sub (And.intro rfl (And.intro rfl True.intro))) h
end
theorem Mo_reached_dc : zDL cX12_reached [(0, .iconst 0, 1, 1), (1, .iload_n 1, 1, 2), (2, .iload_n 3, 1, 3), (3, .aload_n 0, 1, 4), (4, .getfield 50, 3, 7), (7, .invokestatic 104, 3, 10), (10, .iadd, 1, 11), (11, .invokestatic 305, 3, 14), (14, .istore 4, 2, 16), (16, .iload_n 2, 1, 17), (17, .iload 4, 2, 19), (19, .if_icmp .ge 9, 3, 22), (22, .ldc_w 385, 3, 25), (25, .goto 20, 3, 28), (28, .iload 4, 2, 30), (30, .aload_n 0, 1, 31), (31, .getfield 386, 3, 34), (34, .if_icmp .gt 8, 3, 37), (37, .iload 4, 2, 39), (39, .goto 6, 3, 42), (42, .ldc_w 389, 3, 45), (45, .ireturn, 1, 46)] := zDL.of (by decide +kernel)
section
variable {p : Program} {l : Launch} {e : Env} {s : State} {m : MethodId} {args : Array Value} {below : List Frame} {meth : Method} {c : Code} {G : zG} {top : Int} {L : zL} {fu : Nat}
theorem Mo_reached_w (E : zEv p m c cX12_reached 5 s args RX12 meth (some .int) G) {res : Int} {M : zM} {a0 : Int} {a1 : Int} {a2 : Int} {a3 : Int} {H : Heap} {locs : List Loc} {ls : Array Slot} (ha0 : InR a0) (ha1 : InR a1) (ha2 : InR a2) (ha3 : InR a3) (S : zS G top L M s H locs) (hl : zLV ls 5 [some (zR G.2.2.1 a0), some (.int (zO a1)), some (.int (zO a2)), some (.int (zO a3)), none]) (h : Mo_reached fu L M a0 a1 a2 a3 = some res) : W p l e (zrm 1 0 0) s m args below meth c H locs 0 0 (MQ below (zQ G top L M (some (.int (zO res))) (InR res)) args s 0 0 (zA G)) (F0 m 0 ls []) := by
  unfold Mo_reached at h
  refine r_iconst E (Mo_reached_dc.at 0 rfl) ?_
  refine u_il_n (x := a1) E (Mo_reached_dc.at 1 rfl) hl rfl ?_
  refine u_il_n (x := a3) E (Mo_reached_dc.at 2 rfl) hl rfl ?_
  refine u_al_n (x := a0) E (Mo_reached_dc.at 3 rfl) hl rfl ?_
  obtain ⟨g1, h⟩ := ite_e h
  refine u_gI E zf_12_32 S g1 zw_6_239 (Mo_reached_dc.at 4 rfl) ?_
  refine r_min (rest := [.int (zO a1), .int (zO 0)]) E ha3 (S.1.inR _ _) hl.size zw_7_164 zw_4_47 zw_1_17 zw_4_48 (by decide) (by simp [zR_cat, zcat_I, zcat_J, zcat_S, zrm]) ⟨Nat.zero_le _, Nat.zero_le _⟩ (Mo_reached_dc.at 5 rfl) ?_
  refine r_iadd E (Mo_reached_dc.at 6 rfl) ?_
  refine r_max (rest := []) E (show InR 0 by decide) (inR_w32 _) hl.size zw_8_125 zw_4_56 zw_1_17 zw_4_57 (by decide) (by simp [zR_cat, zcat_I, zcat_J, zcat_S, zrm]) ⟨Nat.zero_le _, Nat.zero_le _⟩ (Mo_reached_dc.at 7 rfl) ?_
  obtain ⟨v2, ev2, h⟩ := lt1_e h
  have hv2 := inR_eq ev2 (inR_max (show InR 0 by decide) (inR_w32 _))
  refine u_ist (y := v2) (vs' := [some (zR G.2.2.1 a0), some (.int (zO a1)), some (.int (zO a2)), some (.int (zO a3)), some (.int (zO v2))]) E ev2 (Mo_reached_dc.at 8 rfl) hl (by decide) rfl (fun ls hl => ?_)
  refine u_il_n (x := a2) E (Mo_reached_dc.at 9 rfl) hl rfl ?_
  refine u_il (x := v2) E (Mo_reached_dc.at 10 rfl) hl rfl ?_
  refine r_icmp_ge (tgt := 28) E ha2 hv2 (Mo_reached_dc.at 11 rfl) (by decide) (fun q => ?_) (fun q => ?_)
  · have h := ite_t h q
    refine r_ldcw (n := 2097152) E (Mo_reached_dc.at 12 rfl) zw_8_235 rfl ?_
    refine r_goto (tgt := 45) E (Mo_reached_dc.at 13 rfl) (by decide) ?_
    cases h
    exact r_iret E S (show InR 2097152 by decide) (Mo_reached_dc.at 21 rfl)
  · have h := ite_f h q
    refine u_il (x := v2) E (Mo_reached_dc.at 14 rfl) hl rfl ?_
    refine u_al_n (x := a0) E (Mo_reached_dc.at 15 rfl) hl rfl ?_
    refine u_gI E zf_12_36 S g1 zw_7_3 (Mo_reached_dc.at 16 rfl) ?_
    refine r_icmp_gt (tgt := 42) E hv2 (S.1.inR _ _) (Mo_reached_dc.at 17 rfl) (by decide) (fun q => ?_) (fun q => ?_)
    · have h := ite_t h q
      refine r_ldcw (n := 1048576) E (Mo_reached_dc.at 20 rfl) zw_8_202 rfl ?_
      cases h
      exact r_iret E S (show InR 1048576 by decide) (Mo_reached_dc.at 21 rfl)
    · have h := ite_f h q
      refine u_il (x := v2) E (Mo_reached_dc.at 18 rfl) hl rfl ?_
      refine r_goto (tgt := 45) E (Mo_reached_dc.at 19 rfl) (by decide) ?_
      cases h
      exact r_iret E S hv2 (Mo_reached_dc.at 21 rfl)
theorem Mo_reached_c (l : Launch) (G : zG) (fu : Nat) (top : Int) (L : zL) (M : zM) (a0 : Int) (a1 : Int) (a2 : Int) (a3 : Int) {res : Int} (ha0 : InR a0) (ha1 : InR a1) (ha2 : InR a2) (ha3 : InR a3) (h : Mo_reached fu L M a0 a1 a2 a3 = some res) : Met l yX12_reached (Cond.code yX12_reached cX12_reached 5 (some .int) :: zTB) (zrm 1 0 0) (va_Pc [zR G.2.2.1 a0, .int (zO a1), .int (zO a2), .int (zO a3)] (zPre G top L M)) (zQ G top L M (some (.int (zO res))) (InR res)) 0 0 (zA G) :=
  z_met (by decide +kernel) (by simp [zR_cat, zcat_I, zcat_S]) (Nat.le_of_ble_eq_true rfl) fun p e s m below meth c ls E hn S hl => Mo_reached_w E ha0 ha1 ha2 ha3 S (hl.sub (And.intro rfl (And.intro rfl (And.intro rfl (And.intro rfl True.intro))))) h
end
theorem Mo_whenAll_dc : zDL cX12_whenAll [(0, .aload_n 0, 1, 1), (1, .invokevirtual 408, 3, 4), (4, .istore_n 1, 1, 5), (5, .aload_n 0, 1, 6), (6, .bipush 9, 2, 8), (8, .invokevirtual 405, 3, 11), (11, .ifCond .eq 15, 3, 14), (14, .iload_n 1, 1, 15), (15, .aload_n 0, 1, 16), (16, .invokevirtual 408, 3, 19), (19, .invokestatic 104, 3, 22), (22, .istore_n 1, 1, 23), (23, .goto (-18), 3, 26), (26, .iload_n 1, 1, 27), (27, .ireturn, 1, 28)] := zDL.of (by decide +kernel)
theorem Mo_whenFact_dc : zDL cX12_whenFact [(0, .aload_n 0, 1, 1), (1, .getfield 31, 3, 4), (4, .aload_n 0, 1, 5), (5, .getfield 376, 3, 8), (8, .iaload, 1, 9), (9, .istore_n 1, 1, 10), (10, .iload_n 1, 1, 11), (11, .bipush 100, 2, 13), (13, .idiv, 1, 14), (14, .bipush 100, 2, 16), (16, .irem, 1, 17), (17, .istore_n 2, 1, 18), (18, .iload_n 1, 1, 19), (19, .sipush 10000, 3, 22), (22, .idiv, 1, 23), (23, .istore_n 3, 1, 24), (24, .aload_n 0, 1, 25), (25, .dup, 1, 26), (26, .getfield 376, 3, 29), (29, .iconst 1, 1, 30), (30, .iadd, 1, 31), (31, .putfield 376, 3, 34), (34, .iload_n 1, 1, 35), (35, .bipush 100, 2, 37), (37, .irem, 1, 38), (38, .tableswitch 171 0 5 #[38, 54, 84, 93, 107, 130], 38, 76), (76, .iload_n 3, 1, 77), (77, .aload_n 0, 1, 78), (78, .getfield 386, 3, 81), (81, .if_icmp .gt 7, 3, 84), (84, .iload_n 3, 1, 85), (85, .goto 6, 3, 88), (88, .ldc_w 389, 3, 91), (91, .ireturn, 1, 92), (92, .aload_n 0, 1, 93), (93, .getfield 54, 3, 96), (96, .bipush 26, 2, 98), (98, .iload_n 2, 1, 99), (99, .iadd, 1, 100), (100, .iaload, 1, 101), (101, .ldc 254, 2, 103), (103, .if_icmp .ne 9, 3, 106), (106, .ldc_w 389, 3, 109), (109, .goto 12, 3, 112), (112, .aload_n 0, 1, 113), (113, .getfield 54, 3, 116), (116, .bipush 26, 2, 118), (118, .iload_n 2, 1, 119), (119, .iadd, 1, 120), (120, .iaload, 1, 121), (121, .ireturn, 1, 122), (122, .iconst 0, 1, 123), (123, .aload_n 0, 1, 124), (124, .getfield 390, 3, 127), (127, .invokestatic 305, 3, 130), (130, .ireturn, 1, 131), (131, .aload_n 0, 1, 132), (132, .aload_n 0, 1, 133), (133, .getfield 390, 3, 136), (136, .aload_n 0, 1, 137), (137, .getfield 393, 3, 140), (140, .iload_n 3, 1, 141), (141, .invokevirtual 396, 3, 144), (144, .ireturn, 1, 145), (145, .aload_n 0, 1, 146), (146, .aload_n 0, 1, 147), (147, .getfield 54, 3, 150), (150, .iconst 2, 1, 151), (151, .iload_n 2, 1, 152), (152, .iadd, 1, 153), (153, .iaload, 1, 154), (154, .aload_n 0, 1, 155), (155, .getfield 54, 3, 158), (158, .bipush 26, 2, 160), (160, .iload_n 2, 1, 161), (161, .iadd, 1, 162), (162, .iaload, 1, 163), (163, .iload_n 3, 1, 164), (164, .invokevirtual 396, 3, 167), (167, .ireturn, 1, 168), (168, .aload_n 0, 1, 169), (169, .invokevirtual 399, 3, 172), (172, .istore 4, 2, 174), (174, .iload 4, 2, 176), (176, .ldc_w 389, 3, 179), (179, .if_icmp .lt 8, 3, 182), (182, .iload 4, 2, 184), (184, .goto 24, 3, 187), (187, .iload 4, 2, 189), (189, .iload_n 3, 1, 190), (190, .iadd, 1, 191), (191, .aload_n 0, 1, 192), (192, .getfield 386, 3, 195), (195, .if_icmp .gt 10, 3, 198), (198, .iload 4, 2, 200), (200, .iload_n 3, 1, 201), (201, .iadd, 1, 202), (202, .goto 6, 3, 205), (205, .ldc_w 389, 3, 208), (208, .ireturn, 1, 209), (209, .aload_n 0, 1, 210), (210, .invokevirtual 402, 3, 213), (213, .istore 4, 2, 215), (215, .aload_n 0, 1, 216), (216, .dup, 1, 217), (217, .getfield 376, 3, 220), (220, .iconst 1, 1, 221), (221, .iadd, 1, 222), (222, .putfield 376, 3, 225), (225, .iload 4, 2, 227), (227, .ireturn, 1, 228)] := zDL.of (by decide +kernel)
theorem Mo_whenWay_dc : zDL cX12_whenWay [(0, .aload_n 0, 1, 1), (1, .invokevirtual 399, 3, 4), (4, .istore_n 1, 1, 5), (5, .aload_n 0, 1, 6), (6, .bipush 8, 2, 8), (8, .invokevirtual 405, 3, 11), (11, .ifCond .eq 15, 3, 14), (14, .iload_n 1, 1, 15), (15, .aload_n 0, 1, 16), (16, .invokevirtual 399, 3, 19), (19, .invokestatic 305, 3, 22), (22, .istore_n 1, 1, 23), (23, .goto (-18), 3, 26), (26, .iload_n 1, 1, 27), (27, .ireturn, 1, 28)] := zDL.of (by decide +kernel)
def zh_Mo_whenAll (l : Launch) (G : zG) (zd : Nat) (top : Int) (L : zL) (rec : zt_Mo_whenAll) : Prop := (∀ (M : zM) (a0 : Int) {res : (zM × Int)}, InR a0 → rec.1 M a0 = some res → Met l yX12_whenAll (Cond.code yX12_whenAll cX12_whenAll 2 (some .int) :: zTB) (zrm zd 0 0) (va_Pc [zR G.2.2.1 a0] (zPre G top L M)) (zQ G top L res.1 (some (.int (zO res.2))) (InR res.2)) 0 0 (zA G)) ∧ (∀ (M : zM) (a0 : Int) {res : (zM × Int)}, InR a0 → rec.2.1 M a0 = some res → Met l yX12_whenFact (Cond.code yX12_whenFact cX12_whenFact 5 (some .int) :: zTB) (zrm zd 0 0) (va_Pc [zR G.2.2.1 a0] (zPre G top L M)) (zQ G top L res.1 (some (.int (zO res.2))) (InR res.2)) 0 0 (zA G)) ∧ (∀ (M : zM) (a0 : Int) {res : (zM × Int)}, InR a0 → rec.2.2 M a0 = some res → Met l yX12_whenWay (Cond.code yX12_whenWay cX12_whenWay 2 (some .int) :: zTB) (zrm zd 0 0) (va_Pc [zR G.2.2.1 a0] (zPre G top L M)) (zQ G top L res.1 (some (.int (zO res.2))) (InR res.2)) 0 0 (zA G))
section
variable {p : Program} {l : Launch} {e : Env} {s : State} {m : MethodId} {args : Array Value} {below : List Frame} {meth : Method} {c : Code} {G : zG} {top : Int} {L : zL} {fu : Nat} {zd : Nat} {rec : zt_Mo_whenAll}
theorem Mo_whenAll_s5_w (E : zEv p m c cX12_whenAll 2 s args RX12 meth (some .int) G) (HR : zh_Mo_whenAll l G zd top L rec) (hzd : 3 ≤ zd) {res : (zM × Int)} {k5 : zM → Int → Int → Option (zM × Int)} (hk5 : ∀ (M : zM) (x0 : Int) (x1 : Int), InR x0 → InR x1 → ∀ (H : Heap) (locs : List Loc) (ls : Array Slot), zS G top L M s H locs → zLV ls 2 [some (zR G.2.2.1 x0), some (.int (zO x1))] → k5 M x0 x1 = some res → W p l e (zrm (zd + 1) 0 0) s m args below meth c H locs 0 0 (MQ below (zQ G top L res.1 (some (.int (zO res.2))) (InR res.2)) args s 0 0 (zA G)) (F0 m 5 ls [])) {M : zM} {x0 : Int} {x1 : Int} {H : Heap} {locs : List Loc} {ls : Array Slot} (hx0 : InR x0) (hx1 : InR x1) (S : zS G top L M s H locs) (hl : zLV ls 2 [some (zR G.2.2.1 x0), some (.int (zO x1))]) (h : Mo_whenAll_s5 fu rec k5 L M x0 x1 = some res) : W p l e (zrm (zd + 1) 0 0) s m args below meth c H locs 0 0 (MQ below (zQ G top L res.1 (some (.int (zO res.2))) (InR res.2)) args s 0 0 (zA G)) (F0 m 5 ls []) := by
  unfold Mo_whenAll_s5 at h
  refine u_al_n (x := x0) E (Mo_whenAll_dc.at 3 rfl) hl rfl ?_
  refine r_bipush E (Mo_whenAll_dc.at 4 rfl) rfl ?_
  obtain ⟨g5, h⟩ := ite_e h
  obtain ⟨M7, r6, er6, h⟩ := bd2_e h
  refine u_cVI (As := [.int (zO 9)]) (rest := []) E S zcw_yX12_passes zw_8_238 zq_7_3 zw_8_236 zck_12.1 rfl g5 (Mo_passes_c l G fu top L M x0 9 hx0 (show InR 9 by decide) er6) (zrm_ok (by omega) (by decide)) ⟨Nat.le_refl 0, Nat.le_refl 0⟩ rfl (Nat.zero_le 8) hl.size rfl (Mo_whenAll_dc.at 5 rfl) (fun H locs hr6 S8 => ?_)
  refine r_if_eq (tgt := 26) E (inR_01 hr6) (Mo_whenAll_dc.at 6 rfl) (by decide) (fun q => ?_) (fun q => ?_)
  · have h := ite_t h q
    refine u_il_n (x := x1) E (Mo_whenAll_dc.at 13 rfl) hl rfl ?_
    cases h
    exact r_iret E S8 hx1 (Mo_whenAll_dc.at 14 rfl)
  · have h := ite_f h q
    refine u_il_n (x := x1) E (Mo_whenAll_dc.at 7 rfl) hl rfl ?_
    refine u_al_n (x := x0) E (Mo_whenAll_dc.at 8 rfl) hl rfl ?_
    obtain ⟨M10, r9, er9, h⟩ := bd2_e h
    refine u_cVI (As := []) (rest := [.int (zO x1)]) E S8 zcw_yX12_whenWay zw_8_225 zq_7_0 zw_8_223 zck_12.1 rfl g5 (HR.2.2 M7 x0 hx0 er9) (zrm_ok (by omega) (by decide)) ⟨Nat.le_refl 0, Nat.le_refl 0⟩ rfl (by simp [zR_cat, zcat_I, zcat_J, zcat_S]) hl.size rfl (Mo_whenAll_dc.at 9 rfl) (fun H locs hr9 S11 => ?_)
    refine r_min (rest := []) E hx1 hr9 hl.size zw_7_164 zw_4_47 zw_1_17 zw_4_48 (by simp [zrm]) (by simp [zR_cat, zcat_I, zcat_J, zcat_S, zrm]; omega) ⟨Nat.zero_le _, Nat.zero_le _⟩ (Mo_whenAll_dc.at 10 rfl) ?_
    obtain ⟨v12, ev12, h⟩ := lt1_e h
    have hv12 := inR_eq ev12 (inR_min hx1 hr9)
    refine u_ist_n (y := v12) (vs' := [some (zR G.2.2.1 x0), some (.int (zO v12))]) E ev12 (Mo_whenAll_dc.at 11 rfl) hl (by decide) rfl (fun ls hl => ?_)
    refine r_goto (tgt := 5) E (Mo_whenAll_dc.at 12 rfl) (by decide) ?_
    exact hk5 _ x0 v12 hx0 hv12 _ _ _ S11 (hl.sub (And.intro rfl (And.intro rfl True.intro))) h
theorem Mo_whenAll_l5_w (E : zEv p m c cX12_whenAll 2 s args RX12 meth (some .int) G) (HR : zh_Mo_whenAll l G zd top L rec) (hzd : 3 ≤ zd) {res : (zM × Int)} : ∀ (n : Nat) (M : zM) (x0 : Int) (x1 : Int), InR x0 → InR x1 → ∀ (H : Heap) (locs : List Loc) (ls : Array Slot), zS G top L M s H locs → zLV ls 2 [some (zR G.2.2.1 x0), some (.int (zO x1))] → Mo_whenAll_l5 fu rec L n M x0 x1 = some res → W p l e (zrm (zd + 1) 0 0) s m args below meth c H locs 0 0 (MQ below (zQ G top L res.1 (some (.int (zO res.2))) (InR res.2)) args s 0 0 (zA G)) (F0 m 5 ls [])
  | 0, _, _, _ => fun _ _ _ _ _ _ _ h => (by cases h)
  | n + 1, M, x0, x1 => fun hx0 hx1 H locs ls S hl h => Mo_whenAll_s5_w E HR hzd (fun M x0 x1 hx0 hx1 H locs ls S hl h => Mo_whenAll_l5_w E HR hzd n M x0 x1 hx0 hx1 H locs ls S hl h) hx0 hx1 S hl h
theorem Mo_whenAll_w (E : zEv p m c cX12_whenAll 2 s args RX12 meth (some .int) G) (HR : zh_Mo_whenAll l G zd top L rec) (hzd : 3 ≤ zd) {res : (zM × Int)} {M : zM} {a0 : Int} {H : Heap} {locs : List Loc} {ls : Array Slot} (ha0 : InR a0) (S : zS G top L M s H locs) (hl : zLV ls 2 [some (zR G.2.2.1 a0), none]) (h : Mo_whenAll_r fu rec L M a0 = some res) : W p l e (zrm (zd + 1) 0 0) s m args below meth c H locs 0 0 (MQ below (zQ G top L res.1 (some (.int (zO res.2))) (InR res.2)) args s 0 0 (zA G)) (F0 m 0 ls []) := by
  unfold Mo_whenAll_r at h
  refine u_al_n (x := a0) E (Mo_whenAll_dc.at 0 rfl) hl rfl ?_
  obtain ⟨g1, h⟩ := ite_e h
  obtain ⟨M3, r2, er2, h⟩ := bd2_e h
  refine u_cVI (As := []) (rest := []) E S zcw_yX12_whenWay zw_8_225 zq_7_0 zw_8_223 zck_12.1 rfl g1 (HR.2.2 M a0 ha0 er2) (zrm_ok (by omega) (by decide)) ⟨Nat.le_refl 0, Nat.le_refl 0⟩ rfl (Nat.zero_le 8) hl.size rfl (Mo_whenAll_dc.at 1 rfl) (fun H locs hr2 S4 => ?_)
  refine u_ist_n (y := r2) (vs' := [some (zR G.2.2.1 a0), some (.int (zO r2))]) E rfl (Mo_whenAll_dc.at 2 rfl) hl (by decide) rfl (fun ls hl => ?_)
  exact Mo_whenAll_l5_w E HR hzd fu _ a0 r2 ha0 hr2 _ _ _ S4 (hl.sub (And.intro rfl (And.intro rfl True.intro))) h
theorem Mo_whenFact_w (E : zEv p m c cX12_whenFact 5 s args RX12 meth (some .int) G) (HR : zh_Mo_whenAll l G zd top L rec) (hzd : 3 ≤ zd) {res : (zM × Int)} {M : zM} {a0 : Int} {H : Heap} {locs : List Loc} {ls : Array Slot} (ha0 : InR a0) (S : zS G top L M s H locs) (hl : zLV ls 5 [some (zR G.2.2.1 a0), none, none, none, none]) (h : Mo_whenFact_r fu rec L M a0 = some res) : W p l e (zrm (zd + 1) 0 0) s m args below meth c H locs 0 0 (MQ below (zQ G top L res.1 (some (.int (zO res.2))) (InR res.2)) args s 0 0 (zA G)) (F0 m 0 ls []) := by
  unfold Mo_whenFact_r at h
  refine u_al_n (x := a0) E (Mo_whenFact_dc.at 0 rfl) hl rfl ?_
  obtain ⟨g1, h⟩ := ite_e h
  refine u_gR E zf_12_18 S g1 zw_6_225 (Mo_whenFact_dc.at 1 rfl) ?_
  refine u_al_n (x := a0) E (Mo_whenFact_dc.at 2 rfl) hl rfl ?_
  refine u_gI E zf_12_30 S g1 zw_6_237 (Mo_whenFact_dc.at 3 rfl) ?_
  obtain ⟨g2, h⟩ := ite_e h
  obtain ⟨g3, h⟩ := ite_e h
  refine r_iald E S g2 g3 (Mo_whenFact_dc.at 4 rfl) ?_
  obtain ⟨v4, ev4, h⟩ := lt1_e h
  have hv4 := inR_eq ev4 (S.1.inR _ _)
  refine u_ist_n (y := v4) (vs' := [some (zR G.2.2.1 a0), some (.int (zO v4)), none, none, none]) E ev4 (Mo_whenFact_dc.at 5 rfl) hl (by decide) rfl (fun ls hl => ?_)
  refine u_il_n (x := v4) E (Mo_whenFact_dc.at 6 rfl) hl rfl ?_
  refine r_bipush E (Mo_whenFact_dc.at 7 rfl) rfl ?_
  refine r_idiv E hv4 (show InR 100 by decide) (by decide) (Mo_whenFact_dc.at 8 rfl) ?_
  refine r_bipush E (Mo_whenFact_dc.at 9 rfl) rfl ?_
  refine r_irem E (inR_w32 _) (show InR 100 by decide) (by decide) (Mo_whenFact_dc.at 10 rfl) ?_
  obtain ⟨v5, ev5, h⟩ := lt1_e h
  have hv5 := inR_eq ev5 (inR_w32 _)
  refine u_ist_n (y := v5) (vs' := [some (zR G.2.2.1 a0), some (.int (zO v4)), some (.int (zO v5)), none, none]) E ev5 (Mo_whenFact_dc.at 11 rfl) hl (by decide) rfl (fun ls hl => ?_)
  refine u_il_n (x := v4) E (Mo_whenFact_dc.at 12 rfl) hl rfl ?_
  refine r_sipush E (Mo_whenFact_dc.at 13 rfl) rfl ?_
  refine r_idiv E hv4 (show InR 10000 by decide) (by decide) (Mo_whenFact_dc.at 14 rfl) ?_
  obtain ⟨v6, ev6, h⟩ := lt1_e h
  have hv6 := inR_eq ev6 (inR_w32 _)
  refine u_ist_n (y := v6) (vs' := [some (zR G.2.2.1 a0), some (.int (zO v4)), some (.int (zO v5)), some (.int (zO v6)), none]) E ev6 (Mo_whenFact_dc.at 15 rfl) hl (by decide) rfl (fun ls hl => ?_)
  refine u_al_n (x := a0) E (Mo_whenFact_dc.at 16 rfl) hl rfl ?_
  refine r_dup E (Mo_whenFact_dc.at 17 rfl) (zR_cat _ _) ?_
  refine u_gI E zf_12_30 S g1 zw_6_237 (Mo_whenFact_dc.at 18 rfl) ?_
  refine r_iconst E (Mo_whenFact_dc.at 19 rfl) ?_
  refine r_iadd E (Mo_whenFact_dc.at 20 rfl) ?_
  obtain ⟨M7, eM7, h⟩ := lt1_e h
  refine u_pI E eM7 zf_12_30 S g1 (inR_w32 _) (Or.inl rfl) rfl zw_6_237 (Mo_whenFact_dc.at 21 rfl) (fun H locs S8 => ?_)
  refine u_il_n (x := v4) E (Mo_whenFact_dc.at 22 rfl) hl rfl ?_
  refine r_bipush E (Mo_whenFact_dc.at 23 rfl) rfl ?_
  refine r_irem E hv4 (show InR 100 by decide) (by decide) (Mo_whenFact_dc.at 24 rfl) ?_
  by_cases q9 : (w32 (Int.tmod v4 100)) = 0
  · have h := ite_t h q9
    refine r_tin (tgt := 76) (k := 0) E (inR_w32 _) q9 (Mo_whenFact_dc.at 25 rfl) (by decide) (by decide) rfl (by decide) ?_
    refine u_il_n (x := v6) E (Mo_whenFact_dc.at 26 rfl) hl rfl ?_
    refine u_al_n (x := a0) E (Mo_whenFact_dc.at 27 rfl) hl rfl ?_
    refine u_gI E zf_12_36 S8 g1 zw_7_3 (Mo_whenFact_dc.at 28 rfl) ?_
    refine r_icmp_gt (tgt := 88) E hv6 (S8.1.inR _ _) (Mo_whenFact_dc.at 29 rfl) (by decide) (fun q => ?_) (fun q => ?_)
    · have h := ite_t h q
      refine r_ldcw (n := 1048576) E (Mo_whenFact_dc.at 32 rfl) zw_8_202 rfl ?_
      cases h
      exact r_iret E S8 (show InR 1048576 by decide) (Mo_whenFact_dc.at 33 rfl)
    · have h := ite_f h q
      refine u_il_n (x := v6) E (Mo_whenFact_dc.at 30 rfl) hl rfl ?_
      refine r_goto (tgt := 91) E (Mo_whenFact_dc.at 31 rfl) (by decide) ?_
      cases h
      exact r_iret E S8 hv6 (Mo_whenFact_dc.at 33 rfl)
  · have h := ite_f h q9
    by_cases q13 : (w32 (Int.tmod v4 100)) = 1
    · have h := ite_t h q13
      refine r_tin (tgt := 92) (k := 1) E (inR_w32 _) q13 (Mo_whenFact_dc.at 25 rfl) (by decide) (by decide) rfl (by decide) ?_
      refine u_al_n (x := a0) E (Mo_whenFact_dc.at 34 rfl) hl rfl ?_
      refine u_gR E zf_12_33 S8 g1 zw_7_0 (Mo_whenFact_dc.at 35 rfl) ?_
      refine r_bipush E (Mo_whenFact_dc.at 36 rfl) rfl ?_
      refine u_il_n (x := v5) E (Mo_whenFact_dc.at 37 rfl) hl rfl ?_
      refine r_iadd E (Mo_whenFact_dc.at 38 rfl) ?_
      obtain ⟨g10, h⟩ := ite_e h
      obtain ⟨g11, h⟩ := ite_e h
      refine r_iald E S8 g10 g11 (Mo_whenFact_dc.at 39 rfl) ?_
      refine r_ldc (n := 16777216) E (Mo_whenFact_dc.at 40 rfl) zw_8_42 rfl ?_
      refine r_icmp_ne (tgt := 112) E (S8.1.inR _ _) (show InR 16777216 by decide) (Mo_whenFact_dc.at 41 rfl) (by decide) (fun q => ?_) (fun q => ?_)
      · have h := ite_t h q
        refine r_ldcw (n := 1048576) E (Mo_whenFact_dc.at 42 rfl) zw_8_202 rfl ?_
        refine r_goto (tgt := 121) E (Mo_whenFact_dc.at 43 rfl) (by decide) ?_
        cases h
        exact r_iret E S8 (show InR 1048576 by decide) (Mo_whenFact_dc.at 50 rfl)
      · have h := ite_f h q
        refine u_al_n (x := a0) E (Mo_whenFact_dc.at 44 rfl) hl rfl ?_
        refine u_gR E zf_12_33 S8 g1 zw_7_0 (Mo_whenFact_dc.at 45 rfl) ?_
        refine r_bipush E (Mo_whenFact_dc.at 46 rfl) rfl ?_
        refine u_il_n (x := v5) E (Mo_whenFact_dc.at 47 rfl) hl rfl ?_
        refine r_iadd E (Mo_whenFact_dc.at 48 rfl) ?_
        obtain ⟨g12, h⟩ := ite_e h
        refine r_iald E S8 g10 g12 (Mo_whenFact_dc.at 49 rfl) ?_
        cases h
        exact r_iret E S8 (S8.1.inR _ _) (Mo_whenFact_dc.at 50 rfl)
    · have h := ite_f h q13
      by_cases q14 : (w32 (Int.tmod v4 100)) = 2
      · have h := ite_t h q14
        refine r_tin (tgt := 122) (k := 2) E (inR_w32 _) q14 (Mo_whenFact_dc.at 25 rfl) (by decide) (by decide) rfl (by decide) ?_
        refine r_iconst E (Mo_whenFact_dc.at 51 rfl) ?_
        refine u_al_n (x := a0) E (Mo_whenFact_dc.at 52 rfl) hl rfl ?_
        refine u_gI E zf_12_34 S8 g1 zw_7_1 (Mo_whenFact_dc.at 53 rfl) ?_
        refine r_max (rest := []) E (show InR 0 by decide) (S8.1.inR _ _) hl.size zw_8_125 zw_4_56 zw_1_17 zw_4_57 (by simp [zrm]) (by simp [zR_cat, zcat_I, zcat_J, zcat_S, zrm]; omega) ⟨Nat.zero_le _, Nat.zero_le _⟩ (Mo_whenFact_dc.at 54 rfl) ?_
        cases h
        exact r_iret E S8 (inR_max (show InR 0 by decide) (S8.1.inR _ _)) (Mo_whenFact_dc.at 55 rfl)
      · have h := ite_f h q14
        by_cases q17 : (w32 (Int.tmod v4 100)) = 3
        · have h := ite_t h q17
          refine r_tin (tgt := 131) (k := 3) E (inR_w32 _) q17 (Mo_whenFact_dc.at 25 rfl) (by decide) (by decide) rfl (by decide) ?_
          refine u_al_n (x := a0) E (Mo_whenFact_dc.at 56 rfl) hl rfl ?_
          refine u_al_n (x := a0) E (Mo_whenFact_dc.at 57 rfl) hl rfl ?_
          refine u_gI E zf_12_34 S8 g1 zw_7_1 (Mo_whenFact_dc.at 58 rfl) ?_
          refine u_al_n (x := a0) E (Mo_whenFact_dc.at 59 rfl) hl rfl ?_
          refine u_gI E zf_12_35 S8 g1 zw_7_2 (Mo_whenFact_dc.at 60 rfl) ?_
          refine u_il_n (x := v6) E (Mo_whenFact_dc.at 61 rfl) hl rfl ?_
          obtain ⟨r15, er15, h⟩ := bd1_e h
          refine u_cVI (As := [.int (zO (M7 a0 34)), .int (zO (M7 a0 35)), .int (zO v6)]) (rest := []) E S8 zcw_yX12_reached zw_8_233 zq_7_2 zw_8_231 zck_12.1 rfl g1 (Mo_reached_c l G fu top L M7 a0 (M7 a0 34) (M7 a0 35) v6 ha0 (S8.1.inR _ _) (S8.1.inR _ _) hv6 er15) (zrm_ok (by omega) (by decide)) ⟨Nat.le_refl 0, Nat.le_refl 0⟩ rfl (Nat.zero_le 8) hl.size rfl (Mo_whenFact_dc.at 62 rfl) (fun H locs hr15 S16 => ?_)
          cases h
          exact r_iret E S16 hr15 (Mo_whenFact_dc.at 63 rfl)
        · have h := ite_f h q17
          by_cases q23 : (w32 (Int.tmod v4 100)) = 4
          · have h := ite_t h q23
            refine r_tin (tgt := 145) (k := 4) E (inR_w32 _) q23 (Mo_whenFact_dc.at 25 rfl) (by decide) (by decide) rfl (by decide) ?_
            refine u_al_n (x := a0) E (Mo_whenFact_dc.at 64 rfl) hl rfl ?_
            refine u_al_n (x := a0) E (Mo_whenFact_dc.at 65 rfl) hl rfl ?_
            refine u_gR E zf_12_33 S8 g1 zw_7_0 (Mo_whenFact_dc.at 66 rfl) ?_
            refine r_iconst E (Mo_whenFact_dc.at 67 rfl) ?_
            refine u_il_n (x := v5) E (Mo_whenFact_dc.at 68 rfl) hl rfl ?_
            refine r_iadd E (Mo_whenFact_dc.at 69 rfl) ?_
            obtain ⟨g18, h⟩ := ite_e h
            obtain ⟨g19, h⟩ := ite_e h
            refine r_iald E S8 g18 g19 (Mo_whenFact_dc.at 70 rfl) ?_
            refine u_al_n (x := a0) E (Mo_whenFact_dc.at 71 rfl) hl rfl ?_
            refine u_gR E zf_12_33 S8 g1 zw_7_0 (Mo_whenFact_dc.at 72 rfl) ?_
            refine r_bipush E (Mo_whenFact_dc.at 73 rfl) rfl ?_
            refine u_il_n (x := v5) E (Mo_whenFact_dc.at 74 rfl) hl rfl ?_
            refine r_iadd E (Mo_whenFact_dc.at 75 rfl) ?_
            obtain ⟨g20, h⟩ := ite_e h
            refine r_iald E S8 g18 g20 (Mo_whenFact_dc.at 76 rfl) ?_
            refine u_il_n (x := v6) E (Mo_whenFact_dc.at 77 rfl) hl rfl ?_
            obtain ⟨r21, er21, h⟩ := bd1_e h
            refine u_cVI (As := [.int (zO (M7 (M7 a0 33) (w32 (2 + v5)))), .int (zO (M7 (M7 a0 33) (w32 (26 + v5)))), .int (zO v6)]) (rest := []) E S8 zcw_yX12_reached zw_8_233 zq_7_2 zw_8_231 zck_12.1 rfl g1 (Mo_reached_c l G fu top L M7 a0 (M7 (M7 a0 33) (w32 (2 + v5))) (M7 (M7 a0 33) (w32 (26 + v5))) v6 ha0 (S8.1.inR _ _) (S8.1.inR _ _) hv6 er21) (zrm_ok (by omega) (by decide)) ⟨Nat.le_refl 0, Nat.le_refl 0⟩ rfl (Nat.zero_le 8) hl.size rfl (Mo_whenFact_dc.at 78 rfl) (fun H locs hr21 S22 => ?_)
            cases h
            exact r_iret E S22 hr21 (Mo_whenFact_dc.at 79 rfl)
          · have h := ite_f h q23
            by_cases q27 : (w32 (Int.tmod v4 100)) = 5
            · have h := ite_t h q27
              refine r_tin (tgt := 168) (k := 5) E (inR_w32 _) q27 (Mo_whenFact_dc.at 25 rfl) (by decide) (by decide) rfl (by decide) ?_
              refine u_al_n (x := a0) E (Mo_whenFact_dc.at 80 rfl) hl rfl ?_
              obtain ⟨M25, r24, er24, h⟩ := bd2_e h
              refine u_cVI (As := []) (rest := []) E S8 zcw_yX12_whenFact zw_8_229 zq_7_1 zw_8_227 zck_12.1 rfl g1 (HR.2.1 M7 a0 ha0 er24) (zrm_ok (by omega) (by decide)) ⟨Nat.le_refl 0, Nat.le_refl 0⟩ rfl (Nat.zero_le 8) hl.size rfl (Mo_whenFact_dc.at 81 rfl) (fun H locs hr24 S26 => ?_)
              refine u_ist (y := r24) (vs' := [some (zR G.2.2.1 a0), some (.int (zO v4)), some (.int (zO v5)), some (.int (zO v6)), some (.int (zO r24))]) E rfl (Mo_whenFact_dc.at 82 rfl) hl (by decide) rfl (fun ls hl => ?_)
              refine u_il (x := r24) E (Mo_whenFact_dc.at 83 rfl) hl rfl ?_
              refine r_ldcw (n := 1048576) E (Mo_whenFact_dc.at 84 rfl) zw_8_202 rfl ?_
              refine r_icmp_lt (tgt := 187) E hr24 (show InR 1048576 by decide) (Mo_whenFact_dc.at 85 rfl) (by decide) (fun q => ?_) (fun q => ?_)
              · have h := ite_t h q
                refine u_il (x := r24) E (Mo_whenFact_dc.at 88 rfl) hl rfl ?_
                refine u_il_n (x := v6) E (Mo_whenFact_dc.at 89 rfl) hl rfl ?_
                refine r_iadd E (Mo_whenFact_dc.at 90 rfl) ?_
                refine u_al_n (x := a0) E (Mo_whenFact_dc.at 91 rfl) hl rfl ?_
                refine u_gI E zf_12_36 S26 g1 zw_7_3 (Mo_whenFact_dc.at 92 rfl) ?_
                refine r_icmp_gt (tgt := 205) E (inR_w32 _) (S26.1.inR _ _) (Mo_whenFact_dc.at 93 rfl) (by decide) (fun q => ?_) (fun q => ?_)
                · have h := ite_t h q
                  refine r_ldcw (n := 1048576) E (Mo_whenFact_dc.at 98 rfl) zw_8_202 rfl ?_
                  cases h
                  exact r_iret E S26 (show InR 1048576 by decide) (Mo_whenFact_dc.at 99 rfl)
                · have h := ite_f h q
                  refine u_il (x := r24) E (Mo_whenFact_dc.at 94 rfl) hl rfl ?_
                  refine u_il_n (x := v6) E (Mo_whenFact_dc.at 95 rfl) hl rfl ?_
                  refine r_iadd E (Mo_whenFact_dc.at 96 rfl) ?_
                  refine r_goto (tgt := 208) E (Mo_whenFact_dc.at 97 rfl) (by decide) ?_
                  cases h
                  exact r_iret E S26 (inR_w32 _) (Mo_whenFact_dc.at 99 rfl)
              · have h := ite_f h q
                refine u_il (x := r24) E (Mo_whenFact_dc.at 86 rfl) hl rfl ?_
                refine r_goto (tgt := 208) E (Mo_whenFact_dc.at 87 rfl) (by decide) ?_
                cases h
                exact r_iret E S26 hr24 (Mo_whenFact_dc.at 99 rfl)
            · have h := ite_f h q27
              refine r_tout (tgt := 209) E (inR_w32 _) (by omega) (Mo_whenFact_dc.at 25 rfl) (by decide) ?_
              refine u_al_n (x := a0) E (Mo_whenFact_dc.at 100 rfl) hl rfl ?_
              obtain ⟨M29, r28, er28, h⟩ := bd2_e h
              refine u_cVI (As := []) (rest := []) E S8 zcw_yX12_whenAll zw_8_221 zq_6_15 zw_8_219 zck_12.1 rfl g1 (HR.1 M7 a0 ha0 er28) (zrm_ok (by omega) (by decide)) ⟨Nat.le_refl 0, Nat.le_refl 0⟩ rfl (Nat.zero_le 8) hl.size rfl (Mo_whenFact_dc.at 101 rfl) (fun H locs hr28 S30 => ?_)
              refine u_ist (y := r28) (vs' := [some (zR G.2.2.1 a0), some (.int (zO v4)), some (.int (zO v5)), some (.int (zO v6)), some (.int (zO r28))]) E rfl (Mo_whenFact_dc.at 102 rfl) hl (by decide) rfl (fun ls hl => ?_)
              refine u_al_n (x := a0) E (Mo_whenFact_dc.at 103 rfl) hl rfl ?_
              refine r_dup E (Mo_whenFact_dc.at 104 rfl) (zR_cat _ _) ?_
              refine u_gI E zf_12_30 S30 g1 zw_6_237 (Mo_whenFact_dc.at 105 rfl) ?_
              refine r_iconst E (Mo_whenFact_dc.at 106 rfl) ?_
              refine r_iadd E (Mo_whenFact_dc.at 107 rfl) ?_
              obtain ⟨M31, eM31, h⟩ := lt1_e h
              refine u_pI E eM31 zf_12_30 S30 g1 (inR_w32 _) (Or.inl rfl) rfl zw_6_237 (Mo_whenFact_dc.at 108 rfl) (fun H locs S32 => ?_)
              refine u_il (x := r28) E (Mo_whenFact_dc.at 109 rfl) hl rfl ?_
              cases h
              exact r_iret E S32 hr28 (Mo_whenFact_dc.at 110 rfl)
theorem Mo_whenWay_s5_w (E : zEv p m c cX12_whenWay 2 s args RX12 meth (some .int) G) (HR : zh_Mo_whenAll l G zd top L rec) (hzd : 3 ≤ zd) {res : (zM × Int)} {k5 : zM → Int → Int → Option (zM × Int)} (hk5 : ∀ (M : zM) (x0 : Int) (x1 : Int), InR x0 → InR x1 → ∀ (H : Heap) (locs : List Loc) (ls : Array Slot), zS G top L M s H locs → zLV ls 2 [some (zR G.2.2.1 x0), some (.int (zO x1))] → k5 M x0 x1 = some res → W p l e (zrm (zd + 1) 0 0) s m args below meth c H locs 0 0 (MQ below (zQ G top L res.1 (some (.int (zO res.2))) (InR res.2)) args s 0 0 (zA G)) (F0 m 5 ls [])) {M : zM} {x0 : Int} {x1 : Int} {H : Heap} {locs : List Loc} {ls : Array Slot} (hx0 : InR x0) (hx1 : InR x1) (S : zS G top L M s H locs) (hl : zLV ls 2 [some (zR G.2.2.1 x0), some (.int (zO x1))]) (h : Mo_whenWay_s5 fu rec k5 L M x0 x1 = some res) : W p l e (zrm (zd + 1) 0 0) s m args below meth c H locs 0 0 (MQ below (zQ G top L res.1 (some (.int (zO res.2))) (InR res.2)) args s 0 0 (zA G)) (F0 m 5 ls []) := by
  unfold Mo_whenWay_s5 at h
  refine u_al_n (x := x0) E (Mo_whenWay_dc.at 3 rfl) hl rfl ?_
  refine r_bipush E (Mo_whenWay_dc.at 4 rfl) rfl ?_
  obtain ⟨g5, h⟩ := ite_e h
  obtain ⟨M7, r6, er6, h⟩ := bd2_e h
  refine u_cVI (As := [.int (zO 8)]) (rest := []) E S zcw_yX12_passes zw_8_238 zq_7_3 zw_8_236 zck_12.1 rfl g5 (Mo_passes_c l G fu top L M x0 8 hx0 (show InR 8 by decide) er6) (zrm_ok (by omega) (by decide)) ⟨Nat.le_refl 0, Nat.le_refl 0⟩ rfl (Nat.zero_le 8) hl.size rfl (Mo_whenWay_dc.at 5 rfl) (fun H locs hr6 S8 => ?_)
  refine r_if_eq (tgt := 26) E (inR_01 hr6) (Mo_whenWay_dc.at 6 rfl) (by decide) (fun q => ?_) (fun q => ?_)
  · have h := ite_t h q
    refine u_il_n (x := x1) E (Mo_whenWay_dc.at 13 rfl) hl rfl ?_
    cases h
    exact r_iret E S8 hx1 (Mo_whenWay_dc.at 14 rfl)
  · have h := ite_f h q
    refine u_il_n (x := x1) E (Mo_whenWay_dc.at 7 rfl) hl rfl ?_
    refine u_al_n (x := x0) E (Mo_whenWay_dc.at 8 rfl) hl rfl ?_
    obtain ⟨M10, r9, er9, h⟩ := bd2_e h
    refine u_cVI (As := []) (rest := [.int (zO x1)]) E S8 zcw_yX12_whenFact zw_8_229 zq_7_1 zw_8_227 zck_12.1 rfl g5 (HR.2.1 M7 x0 hx0 er9) (zrm_ok (by omega) (by decide)) ⟨Nat.le_refl 0, Nat.le_refl 0⟩ rfl (by simp [zR_cat, zcat_I, zcat_J, zcat_S]) hl.size rfl (Mo_whenWay_dc.at 9 rfl) (fun H locs hr9 S11 => ?_)
    refine r_max (rest := []) E hx1 hr9 hl.size zw_8_125 zw_4_56 zw_1_17 zw_4_57 (by simp [zrm]) (by simp [zR_cat, zcat_I, zcat_J, zcat_S, zrm]; omega) ⟨Nat.zero_le _, Nat.zero_le _⟩ (Mo_whenWay_dc.at 10 rfl) ?_
    obtain ⟨v12, ev12, h⟩ := lt1_e h
    have hv12 := inR_eq ev12 (inR_max hx1 hr9)
    refine u_ist_n (y := v12) (vs' := [some (zR G.2.2.1 x0), some (.int (zO v12))]) E ev12 (Mo_whenWay_dc.at 11 rfl) hl (by decide) rfl (fun ls hl => ?_)
    refine r_goto (tgt := 5) E (Mo_whenWay_dc.at 12 rfl) (by decide) ?_
    exact hk5 _ x0 v12 hx0 hv12 _ _ _ S11 (hl.sub (And.intro rfl (And.intro rfl True.intro))) h
theorem Mo_whenWay_l5_w (E : zEv p m c cX12_whenWay 2 s args RX12 meth (some .int) G) (HR : zh_Mo_whenAll l G zd top L rec) (hzd : 3 ≤ zd) {res : (zM × Int)} : ∀ (n : Nat) (M : zM) (x0 : Int) (x1 : Int), InR x0 → InR x1 → ∀ (H : Heap) (locs : List Loc) (ls : Array Slot), zS G top L M s H locs → zLV ls 2 [some (zR G.2.2.1 x0), some (.int (zO x1))] → Mo_whenWay_l5 fu rec L n M x0 x1 = some res → W p l e (zrm (zd + 1) 0 0) s m args below meth c H locs 0 0 (MQ below (zQ G top L res.1 (some (.int (zO res.2))) (InR res.2)) args s 0 0 (zA G)) (F0 m 5 ls [])
  | 0, _, _, _ => fun _ _ _ _ _ _ _ h => (by cases h)
  | n + 1, M, x0, x1 => fun hx0 hx1 H locs ls S hl h => Mo_whenWay_s5_w E HR hzd (fun M x0 x1 hx0 hx1 H locs ls S hl h => Mo_whenWay_l5_w E HR hzd n M x0 x1 hx0 hx1 H locs ls S hl h) hx0 hx1 S hl h
theorem Mo_whenWay_w (E : zEv p m c cX12_whenWay 2 s args RX12 meth (some .int) G) (HR : zh_Mo_whenAll l G zd top L rec) (hzd : 3 ≤ zd) {res : (zM × Int)} {M : zM} {a0 : Int} {H : Heap} {locs : List Loc} {ls : Array Slot} (ha0 : InR a0) (S : zS G top L M s H locs) (hl : zLV ls 2 [some (zR G.2.2.1 a0), none]) (h : Mo_whenWay_r fu rec L M a0 = some res) : W p l e (zrm (zd + 1) 0 0) s m args below meth c H locs 0 0 (MQ below (zQ G top L res.1 (some (.int (zO res.2))) (InR res.2)) args s 0 0 (zA G)) (F0 m 0 ls []) := by
  unfold Mo_whenWay_r at h
  refine u_al_n (x := a0) E (Mo_whenWay_dc.at 0 rfl) hl rfl ?_
  obtain ⟨g1, h⟩ := ite_e h
  obtain ⟨M3, r2, er2, h⟩ := bd2_e h
  refine u_cVI (As := []) (rest := []) E S zcw_yX12_whenFact zw_8_229 zq_7_1 zw_8_227 zck_12.1 rfl g1 (HR.2.1 M a0 ha0 er2) (zrm_ok (by omega) (by decide)) ⟨Nat.le_refl 0, Nat.le_refl 0⟩ rfl (Nat.zero_le 8) hl.size rfl (Mo_whenWay_dc.at 1 rfl) (fun H locs hr2 S4 => ?_)
  refine u_ist_n (y := r2) (vs' := [some (zR G.2.2.1 a0), some (.int (zO r2))]) E rfl (Mo_whenWay_dc.at 2 rfl) hl (by decide) rfl (fun ls hl => ?_)
  exact Mo_whenWay_l5_w E HR hzd fu _ a0 r2 ha0 hr2 _ _ _ S4 (hl.sub (And.intro rfl (And.intro rfl True.intro))) h
end
theorem zg_Mo_whenAll_h (l : Launch) (G : zG) (fu : Nat) (top : Int) (L : zL) : ∀ n : Nat, zh_Mo_whenAll l G (3 + n) top L (zg_Mo_whenAll fu L n)
  | 0 => ⟨fun _ _ _ _ h => (by cases h), fun _ _ _ _ h => (by cases h), fun _ _ _ _ h => (by cases h)⟩
  | n + 1 => ⟨fun M a0 res ha0 h => z_met (by decide +kernel) (by simp [zR_cat, zcat_I, zcat_S]) (Nat.le_of_ble_eq_true rfl) fun p e s m below meth c ls E hn S hl => Mo_whenAll_w E (zd := 3 + n) (zg_Mo_whenAll_h l G fu top L n) (by omega) ha0 S (hl.sub (And.intro rfl True.intro)) h, fun M a0 res ha0 h => z_met (by decide +kernel) (by simp [zR_cat, zcat_I, zcat_S]) (Nat.le_of_ble_eq_true rfl) fun p e s m below meth c ls E hn S hl => Mo_whenFact_w E (zd := 3 + n) (zg_Mo_whenAll_h l G fu top L n) (by omega) ha0 S (hl.sub (And.intro rfl True.intro)) h, fun M a0 res ha0 h => z_met (by decide +kernel) (by simp [zR_cat, zcat_I, zcat_S]) (Nat.le_of_ble_eq_true rfl) fun p e s m below meth c ls E hn S hl => Mo_whenWay_w E (zd := 3 + n) (zg_Mo_whenAll_h l G fu top L n) (by omega) ha0 S (hl.sub (And.intro rfl True.intro)) h⟩
theorem Mo_whenAll_c (l : Launch) (G : zG) (fu : Nat) (top : Int) (L : zL) (M : zM) (a0 : Int) {res : (zM × Int)} (ha0 : InR a0) (h : Mo_whenAll fu L M a0 = some res) : Met l yX12_whenAll (Cond.code yX12_whenAll cX12_whenAll 2 (some .int) :: zTB) (zrm 43 0 0) (va_Pc [zR G.2.2.1 a0] (zPre G top L M)) (zQ G top L res.1 (some (.int (zO res.2))) (InR res.2)) 0 0 (zA G) := (zg_Mo_whenAll_h l G fu top L 40).1 M a0 ha0 h
theorem Mo_whenFact_c (l : Launch) (G : zG) (fu : Nat) (top : Int) (L : zL) (M : zM) (a0 : Int) {res : (zM × Int)} (ha0 : InR a0) (h : Mo_whenFact fu L M a0 = some res) : Met l yX12_whenFact (Cond.code yX12_whenFact cX12_whenFact 5 (some .int) :: zTB) (zrm 43 0 0) (va_Pc [zR G.2.2.1 a0] (zPre G top L M)) (zQ G top L res.1 (some (.int (zO res.2))) (InR res.2)) 0 0 (zA G) := (zg_Mo_whenAll_h l G fu top L 40).2.1 M a0 ha0 h
theorem Mo_whenWay_c (l : Launch) (G : zG) (fu : Nat) (top : Int) (L : zL) (M : zM) (a0 : Int) {res : (zM × Int)} (ha0 : InR a0) (h : Mo_whenWay fu L M a0 = some res) : Met l yX12_whenWay (Cond.code yX12_whenWay cX12_whenWay 2 (some .int) :: zTB) (zrm 43 0 0) (va_Pc [zR G.2.2.1 a0] (zPre G top L M)) (zQ G top L res.1 (some (.int (zO res.2))) (InR res.2)) 0 0 (zA G) := (zg_Mo_whenAll_h l G fu top L 40).2.2 M a0 ha0 h
theorem Mo_vestsSo_dc : zDL cX12_vestsSo [(0, .aload_n 0, 1, 1), (1, .aload_n 1, 1, 2), (2, .putfield 54, 3, 5), (5, .aload_n 0, 1, 6), (6, .iload_n 2, 1, 7), (7, .putfield 390, 3, 10), (10, .aload_n 0, 1, 11), (11, .iload_n 3, 1, 12), (12, .putfield 393, 3, 15), (15, .aload_n 0, 1, 16), (16, .iload 4, 2, 18), (18, .putfield 386, 3, 21), (21, .aload_n 0, 1, 22), (22, .invokevirtual 402, 3, 25), (25, .istore 5, 2, 27), (27, .iload 5, 2, 29), (29, .ldc_w 389, 3, 32), (32, .if_icmp .lt 8, 3, 35), (35, .iload 5, 2, 37), (37, .goto 9, 3, 40), (40, .iload 5, 2, 42), (42, .iload_n 2, 1, 43), (43, .invokestatic 305, 3, 46), (46, .ireturn, 1, 47)] := zDL.of (by decide +kernel)
section
variable {p : Program} {l : Launch} {e : Env} {s : State} {m : MethodId} {args : Array Value} {below : List Frame} {meth : Method} {c : Code} {G : zG} {top : Int} {L : zL} {fu : Nat}
theorem Mo_vestsSo_w (E : zEv p m c cX12_vestsSo 6 s args RX12 meth (some .int) G) {res : (zM × Int)} {M : zM} {a0 : Int} {a1 : Int} {a2 : Int} {a3 : Int} {a4 : Int} {H : Heap} {locs : List Loc} {ls : Array Slot} (ha0 : InR a0) (ha1 : InR a1) (ha2 : InR a2) (ha3 : InR a3) (ha4 : InR a4) (S : zS G top L M s H locs) (hl : zLV ls 6 [some (zR G.2.2.1 a0), some (zR G.2.2.1 a1), some (.int (zO a2)), some (.int (zO a3)), some (.int (zO a4)), none]) (h : Mo_vestsSo fu L M a0 a1 a2 a3 a4 = some res) : W p l e (zrm 45 0 0) s m args below meth c H locs 0 0 (MQ below (zQ G top L res.1 (some (.int (zO res.2))) (InR res.2)) args s 0 0 (zA G)) (F0 m 0 ls []) := by
  unfold Mo_vestsSo at h
  refine u_al_n (x := a0) E (Mo_vestsSo_dc.at 0 rfl) hl rfl ?_
  refine u_al_n (x := a1) E (Mo_vestsSo_dc.at 1 rfl) hl rfl ?_
  obtain ⟨g1, h⟩ := ite_e h
  obtain ⟨M2, eM2, h⟩ := lt1_e h
  refine u_pR E eM2 zf_12_33 S g1 ha1 (Or.inl rfl) zw_7_0 (Mo_vestsSo_dc.at 2 rfl) (fun H locs S3 => ?_)
  refine u_al_n (x := a0) E (Mo_vestsSo_dc.at 3 rfl) hl rfl ?_
  refine u_il_n (x := a2) E (Mo_vestsSo_dc.at 4 rfl) hl rfl ?_
  obtain ⟨M4, eM4, h⟩ := lt1_e h
  refine u_pI E eM4 zf_12_34 S3 g1 ha2 (Or.inl rfl) rfl zw_7_1 (Mo_vestsSo_dc.at 5 rfl) (fun H locs S5 => ?_)
  refine u_al_n (x := a0) E (Mo_vestsSo_dc.at 6 rfl) hl rfl ?_
  refine u_il_n (x := a3) E (Mo_vestsSo_dc.at 7 rfl) hl rfl ?_
  obtain ⟨M6, eM6, h⟩ := lt1_e h
  refine u_pI E eM6 zf_12_35 S5 g1 ha3 (Or.inl rfl) rfl zw_7_2 (Mo_vestsSo_dc.at 8 rfl) (fun H locs S7 => ?_)
  refine u_al_n (x := a0) E (Mo_vestsSo_dc.at 9 rfl) hl rfl ?_
  refine u_il (x := a4) E (Mo_vestsSo_dc.at 10 rfl) hl rfl ?_
  obtain ⟨M8, eM8, h⟩ := lt1_e h
  refine u_pI E eM8 zf_12_36 S7 g1 ha4 (Or.inl rfl) rfl zw_7_3 (Mo_vestsSo_dc.at 11 rfl) (fun H locs S9 => ?_)
  refine u_al_n (x := a0) E (Mo_vestsSo_dc.at 12 rfl) hl rfl ?_
  obtain ⟨M11, r10, er10, h⟩ := bd2_e h
  refine u_cVI (As := []) (rest := []) E S9 zcw_yX12_whenAll zw_8_221 zq_6_15 zw_8_219 zck_12.1 rfl g1 (Mo_whenAll_c l G fu top L M8 a0 ha0 er10) (zrm_ok (by decide) (by decide)) ⟨Nat.le_refl 0, Nat.le_refl 0⟩ rfl (Nat.zero_le 8) hl.size rfl (Mo_vestsSo_dc.at 13 rfl) (fun H locs hr10 S12 => ?_)
  refine u_ist (y := r10) (vs' := [some (zR G.2.2.1 a0), some (zR G.2.2.1 a1), some (.int (zO a2)), some (.int (zO a3)), some (.int (zO a4)), some (.int (zO r10))]) E rfl (Mo_vestsSo_dc.at 14 rfl) hl (by decide) rfl (fun ls hl => ?_)
  refine u_il (x := r10) E (Mo_vestsSo_dc.at 15 rfl) hl rfl ?_
  refine r_ldcw (n := 1048576) E (Mo_vestsSo_dc.at 16 rfl) zw_8_202 rfl ?_
  refine r_icmp_lt (tgt := 40) E hr10 (show InR 1048576 by decide) (Mo_vestsSo_dc.at 17 rfl) (by decide) (fun q => ?_) (fun q => ?_)
  · have h := ite_t h q
    refine u_il (x := r10) E (Mo_vestsSo_dc.at 20 rfl) hl rfl ?_
    refine u_il_n (x := a2) E (Mo_vestsSo_dc.at 21 rfl) hl rfl ?_
    refine r_max (rest := []) E hr10 ha2 hl.size zw_8_125 zw_4_56 zw_1_17 zw_4_57 (by decide) (by simp [zR_cat, zcat_I, zcat_J, zcat_S, zrm]) ⟨Nat.zero_le _, Nat.zero_le _⟩ (Mo_vestsSo_dc.at 22 rfl) ?_
    cases h
    exact r_iret E S12 (inR_max hr10 ha2) (Mo_vestsSo_dc.at 23 rfl)
  · have h := ite_f h q
    refine u_il (x := r10) E (Mo_vestsSo_dc.at 18 rfl) hl rfl ?_
    refine r_goto (tgt := 46) E (Mo_vestsSo_dc.at 19 rfl) (by decide) ?_
    cases h
    exact r_iret E S12 hr10 (Mo_vestsSo_dc.at 23 rfl)
theorem Mo_vestsSo_c (l : Launch) (G : zG) (fu : Nat) (top : Int) (L : zL) (M : zM) (a0 : Int) (a1 : Int) (a2 : Int) (a3 : Int) (a4 : Int) {res : (zM × Int)} (ha0 : InR a0) (ha1 : InR a1) (ha2 : InR a2) (ha3 : InR a3) (ha4 : InR a4) (h : Mo_vestsSo fu L M a0 a1 a2 a3 a4 = some res) : Met l yX12_vestsSo (Cond.code yX12_vestsSo cX12_vestsSo 6 (some .int) :: zTB) (zrm 45 0 0) (va_Pc [zR G.2.2.1 a0, zR G.2.2.1 a1, .int (zO a2), .int (zO a3), .int (zO a4)] (zPre G top L M)) (zQ G top L res.1 (some (.int (zO res.2))) (InR res.2)) 0 0 (zA G) :=
  z_met (by decide +kernel) (by simp [zR_cat, zcat_I, zcat_S]) (Nat.le_of_ble_eq_true rfl) fun p e s m below meth c ls E hn S hl => Mo_vestsSo_w E ha0 ha1 ha2 ha3 ha4 S (hl.sub (And.intro rfl (And.intro rfl (And.intro rfl (And.intro rfl (And.intro rfl True.intro)))))) h
end
theorem Mo_vestYear_dc : zDL cX12_vestYear [(0, .aload_n 0, 1, 1), (1, .iload_n 2, 1, 2), (2, .invokevirtual 411, 3, 5), (5, .aload_n 0, 1, 6), (6, .aload_n 1, 1, 7), (7, .aload_n 1, 1, 8), (8, .iconst 2, 1, 9), (9, .iload_n 3, 1, 10), (10, .iadd, 1, 11), (11, .iaload, 1, 12), (12, .aload_n 1, 1, 13), (13, .bipush 26, 2, 15), (15, .iload_n 3, 1, 16), (16, .iadd, 1, 17), (17, .iaload, 1, 18), (18, .aload_n 1, 1, 19), (19, .iconst 0, 1, 20), (20, .iaload, 1, 21), (21, .invokevirtual 414, 3, 24), (24, .ireturn, 1, 25)] := zDL.of (by decide +kernel)
section
variable {p : Program} {l : Launch} {e : Env} {s : State} {m : MethodId} {args : Array Value} {below : List Frame} {meth : Method} {c : Code} {G : zG} {top : Int} {L : zL} {fu : Nat}
theorem Mo_vestYear_w (E : zEv p m c cX12_vestYear 4 s args RX12 meth (some .int) G) {res : (zM × Int)} {M : zM} {a0 : Int} {a1 : Int} {a2 : Int} {a3 : Int} {H : Heap} {locs : List Loc} {ls : Array Slot} (ha0 : InR a0) (ha1 : InR a1) (ha2 : InR a2) (ha3 : InR a3) (S : zS G top L M s H locs) (hl : zLV ls 4 [some (zR G.2.2.1 a0), some (zR G.2.2.1 a1), some (.int (zO a2)), some (.int (zO a3))]) (h : Mo_vestYear fu L M a0 a1 a2 a3 = some res) : W p l e (zrm 46 0 0) s m args below meth c H locs 0 0 (MQ below (zQ G top L res.1 (some (.int (zO res.2))) (InR res.2)) args s 0 0 (zA G)) (F0 m 0 ls []) := by
  unfold Mo_vestYear at h
  refine u_al_n (x := a0) E (Mo_vestYear_dc.at 0 rfl) hl rfl ?_
  refine u_il_n (x := a2) E (Mo_vestYear_dc.at 1 rfl) hl rfl ?_
  obtain ⟨g1, h⟩ := ite_e h
  obtain ⟨M2, eM2, h⟩ := bd1_e h
  refine u_cVU (As := [.int (zO a2)]) (rest := []) E S zcw_yX12_goesThrough zw_8_213 zq_6_13 zw_8_211 zck_12.1 rfl g1 (Mo_goesThrough_c l G fu top L M a0 a2 ha0 ha2 eM2) (zrm_ok (by decide) (by decide)) ⟨Nat.le_refl 0, Nat.le_refl 0⟩ rfl (Nat.zero_le 8) hl.size rfl (Mo_vestYear_dc.at 2 rfl) (fun H locs _ S3 => ?_)
  refine u_al_n (x := a0) E (Mo_vestYear_dc.at 3 rfl) hl rfl ?_
  refine u_al_n (x := a1) E (Mo_vestYear_dc.at 4 rfl) hl rfl ?_
  refine u_al_n (x := a1) E (Mo_vestYear_dc.at 5 rfl) hl rfl ?_
  refine r_iconst E (Mo_vestYear_dc.at 6 rfl) ?_
  refine u_il_n (x := a3) E (Mo_vestYear_dc.at 7 rfl) hl rfl ?_
  refine r_iadd E (Mo_vestYear_dc.at 8 rfl) ?_
  obtain ⟨g4, h⟩ := ite_e h
  obtain ⟨g5, h⟩ := ite_e h
  refine r_iald E S3 g4 g5 (Mo_vestYear_dc.at 9 rfl) ?_
  refine u_al_n (x := a1) E (Mo_vestYear_dc.at 10 rfl) hl rfl ?_
  refine r_bipush E (Mo_vestYear_dc.at 11 rfl) rfl ?_
  refine u_il_n (x := a3) E (Mo_vestYear_dc.at 12 rfl) hl rfl ?_
  refine r_iadd E (Mo_vestYear_dc.at 13 rfl) ?_
  obtain ⟨g6, h⟩ := ite_e h
  refine r_iald E S3 g4 g6 (Mo_vestYear_dc.at 14 rfl) ?_
  refine u_al_n (x := a1) E (Mo_vestYear_dc.at 15 rfl) hl rfl ?_
  refine r_iconst E (Mo_vestYear_dc.at 16 rfl) ?_
  obtain ⟨g7, h⟩ := ite_e h
  refine r_iald E S3 g4 g7 (Mo_vestYear_dc.at 17 rfl) ?_
  obtain ⟨M9, r8, er8, h⟩ := bd2_e h
  refine u_cVI (As := [zR G.2.2.1 a1, .int (zO (M2 a1 (w32 (2 + a3)))), .int (zO (M2 a1 (w32 (26 + a3)))), .int (zO (M2 a1 0))]) (rest := []) E S3 zcw_yX12_vestsSo zw_8_217 zq_6_14 zw_8_215 zck_12.1 rfl g1 (Mo_vestsSo_c l G fu top L M2 a0 a1 (M2 a1 (w32 (2 + a3))) (M2 a1 (w32 (26 + a3))) (M2 a1 0) ha0 ha1 (S3.1.inR _ _) (S3.1.inR _ _) (S3.1.inR _ _) er8) (zrm_ok (by decide) (by decide)) ⟨Nat.le_refl 0, Nat.le_refl 0⟩ rfl (Nat.zero_le 8) hl.size rfl (Mo_vestYear_dc.at 18 rfl) (fun H locs hr8 S10 => ?_)
  cases h
  exact r_iret E S10 hr8 (Mo_vestYear_dc.at 19 rfl)
theorem Mo_vestYear_c (l : Launch) (G : zG) (fu : Nat) (top : Int) (L : zL) (M : zM) (a0 : Int) (a1 : Int) (a2 : Int) (a3 : Int) {res : (zM × Int)} (ha0 : InR a0) (ha1 : InR a1) (ha2 : InR a2) (ha3 : InR a3) (h : Mo_vestYear fu L M a0 a1 a2 a3 = some res) : Met l yX12_vestYear (Cond.code yX12_vestYear cX12_vestYear 4 (some .int) :: zTB) (zrm 46 0 0) (va_Pc [zR G.2.2.1 a0, zR G.2.2.1 a1, .int (zO a2), .int (zO a3)] (zPre G top L M)) (zQ G top L res.1 (some (.int (zO res.2))) (InR res.2)) 0 0 (zA G) :=
  z_met (by decide +kernel) (by simp [zR_cat, zcat_I, zcat_S]) (Nat.le_of_ble_eq_true rfl) fun p e s m below meth c ls E hn S hl => Mo_vestYear_w E ha0 ha1 ha2 ha3 S (hl.sub (And.intro rfl (And.intro rfl (And.intro rfl (And.intro rfl True.intro))))) h
end
theorem Mo_convenience_dc : zDL cX12_convenience [(0, .ldc_w 389, 3, 3), (3, .istore_n 3, 1, 4), (4, .iconst 0, 1, 5), (5, .istore 4, 2, 7), (7, .iload 4, 2, 9), (9, .aload_n 1, 1, 10), (10, .iconst 1, 1, 11), (11, .iaload, 1, 12), (12, .if_icmp .ge 45, 3, 15), (15, .aload_n 0, 1, 16), (16, .iload_n 2, 1, 17), (17, .invokevirtual 360, 3, 20), (20, .ifCond .le 37, 3, 23), (23, .aload_n 0, 1, 24), (24, .aload_n 1, 1, 25), (25, .iload_n 2, 1, 26), (26, .iload 4, 2, 28), (28, .invokevirtual 418, 3, 31), (31, .ifCond .eq 18, 3, 34), (34, .iload_n 3, 1, 35), (35, .aload_n 0, 1, 36), (36, .aload_n 1, 1, 37), (37, .iload_n 2, 1, 38), (38, .iload 4, 2, 40), (40, .invokevirtual 422, 3, 43), (43, .invokestatic 104, 3, 46), (46, .goto 4, 3, 49), (49, .iload_n 3, 1, 50), (50, .istore_n 3, 1, 51), (51, .iinc 4 1, 3, 54), (54, .goto (-47), 3, 57), (57, .iload_n 3, 1, 58), (58, .ldc_w 389, 3, 61), (61, .if_icmp .lt 7, 3, 64), (64, .iconst (-1), 1, 65), (65, .goto 4, 3, 68), (68, .iload_n 3, 1, 69), (69, .ireturn, 1, 70)] := zDL.of (by decide +kernel)
section
variable {p : Program} {l : Launch} {e : Env} {s : State} {m : MethodId} {args : Array Value} {below : List Frame} {meth : Method} {c : Code} {G : zG} {top : Int} {L : zL} {fu : Nat}
theorem Mo_convenience_s7_w (E : zEv p m c cX12_convenience 5 s args RX12 meth (some .int) G) {res : (zM × Int)} {k7 : zM → Int → Int → Int → Int → Int → Option (zM × Int)} (hk7 : ∀ (M : zM) (x0 : Int) (x1 : Int) (x2 : Int) (x3 : Int) (x4 : Int), InR x0 → InR x1 → InR x2 → InR x3 → InR x4 → ∀ (H : Heap) (locs : List Loc) (ls : Array Slot), zS G top L M s H locs → zLV ls 5 [some (zR G.2.2.1 x0), some (zR G.2.2.1 x1), some (.int (zO x2)), some (.int (zO x3)), some (.int (zO x4))] → k7 M x0 x1 x2 x3 x4 = some res → W p l e (zrm 47 0 0) s m args below meth c H locs 0 0 (MQ below (zQ G top L res.1 (some (.int (zO res.2))) (InR res.2)) args s 0 0 (zA G)) (F0 m 7 ls [])) {M : zM} {x0 : Int} {x1 : Int} {x2 : Int} {x3 : Int} {x4 : Int} {H : Heap} {locs : List Loc} {ls : Array Slot} (hx0 : InR x0) (hx1 : InR x1) (hx2 : InR x2) (hx3 : InR x3) (hx4 : InR x4) (S : zS G top L M s H locs) (hl : zLV ls 5 [some (zR G.2.2.1 x0), some (zR G.2.2.1 x1), some (.int (zO x2)), some (.int (zO x3)), some (.int (zO x4))]) (h : Mo_convenience_s7 fu k7 L M x0 x1 x2 x3 x4 = some res) : W p l e (zrm 47 0 0) s m args below meth c H locs 0 0 (MQ below (zQ G top L res.1 (some (.int (zO res.2))) (InR res.2)) args s 0 0 (zA G)) (F0 m 7 ls []) := by
  unfold Mo_convenience_s7 at h
  refine u_il (x := x4) E (Mo_convenience_dc.at 4 rfl) hl rfl ?_
  refine u_al_n (x := x1) E (Mo_convenience_dc.at 5 rfl) hl rfl ?_
  refine r_iconst E (Mo_convenience_dc.at 6 rfl) ?_
  obtain ⟨g1, h⟩ := ite_e h
  obtain ⟨g2, h⟩ := ite_e h
  refine r_iald E S g1 g2 (Mo_convenience_dc.at 7 rfl) ?_
  refine r_icmp_ge (tgt := 57) E hx4 (S.1.inR _ _) (Mo_convenience_dc.at 8 rfl) (by decide) (fun q => ?_) (fun q => ?_)
  · have h := ite_t h q
    refine u_al_n (x := x0) E (Mo_convenience_dc.at 9 rfl) hl rfl ?_
    refine u_il_n (x := x2) E (Mo_convenience_dc.at 10 rfl) hl rfl ?_
    obtain ⟨g3, h⟩ := ite_e h
    obtain ⟨r4, er4, h⟩ := bd1_e h
    refine u_cVI (As := [.int (zO x2)]) (rest := []) E S zcw_yX12_to zw_8_163 zq_6_4 zw_8_161 zck_12.1 rfl g3 (Mo_to_c l G fu top L M x0 x2 hx0 hx2 er4) (zrm_ok (by decide) (by decide)) ⟨Nat.le_refl 0, Nat.le_refl 0⟩ rfl (Nat.zero_le 8) hl.size rfl (Mo_convenience_dc.at 11 rfl) (fun H locs hr4 S5 => ?_)
    refine r_if_le (tgt := 57) E hr4 (Mo_convenience_dc.at 12 rfl) (by decide) (fun q => ?_) (fun q => ?_)
    · have h := ite_t h q
      refine u_al_n (x := x0) E (Mo_convenience_dc.at 13 rfl) hl rfl ?_
      refine u_al_n (x := x1) E (Mo_convenience_dc.at 14 rfl) hl rfl ?_
      refine u_il_n (x := x2) E (Mo_convenience_dc.at 15 rfl) hl rfl ?_
      refine u_il (x := x4) E (Mo_convenience_dc.at 16 rfl) hl rfl ?_
      obtain ⟨r6, er6, h⟩ := bd1_e h
      refine u_cVI (As := [zR G.2.2.1 x1, .int (zO x2), .int (zO x4)]) (rest := []) E S5 zcw_yX12_isOfClass zw_8_205 zq_6_11 zw_8_203 zck_12.1 rfl g3 (Mo_isOfClass_c l G fu top L M x0 x1 x2 x4 hx0 hx1 hx2 hx4 er6) (zrm_ok (by decide) (by decide)) ⟨Nat.le_refl 0, Nat.le_refl 0⟩ rfl (Nat.zero_le 8) hl.size rfl (Mo_convenience_dc.at 17 rfl) (fun H locs hr6 S7 => ?_)
      refine r_if_eq (tgt := 49) E (inR_01 hr6) (Mo_convenience_dc.at 18 rfl) (by decide) (fun q => ?_) (fun q => ?_)
      · have h := ite_t h q
        refine u_il_n (x := x3) E (Mo_convenience_dc.at 27 rfl) hl rfl ?_
        refine u_ist_n (y := x3) (vs' := [some (zR G.2.2.1 x0), some (zR G.2.2.1 x1), some (.int (zO x2)), some (.int (zO x3)), some (.int (zO x4))]) E rfl (Mo_convenience_dc.at 28 rfl) hl (by decide) rfl (fun ls hl => ?_)
        obtain ⟨v8, ev8, h⟩ := lt1_e h
        have hv8 := inR_eq ev8 (inR_w32 _)
        refine u_iinc (y := v8) (vs' := [some (zR G.2.2.1 x0), some (zR G.2.2.1 x1), some (.int (zO x2)), some (.int (zO x3)), some (.int (zO v8))]) E ev8 (Mo_convenience_dc.at 29 rfl) hl rfl (by decide) rfl (fun ls hl => ?_)
        refine r_goto (tgt := 7) E (Mo_convenience_dc.at 30 rfl) (by decide) ?_
        exact hk7 _ x0 x1 x2 x3 v8 hx0 hx1 hx2 hx3 hv8 _ _ _ S7 (hl.sub (And.intro rfl (And.intro rfl (And.intro rfl (And.intro rfl (And.intro rfl True.intro)))))) h
      · have h := ite_f h q
        refine u_il_n (x := x3) E (Mo_convenience_dc.at 19 rfl) hl rfl ?_
        refine u_al_n (x := x0) E (Mo_convenience_dc.at 20 rfl) hl rfl ?_
        refine u_al_n (x := x1) E (Mo_convenience_dc.at 21 rfl) hl rfl ?_
        refine u_il_n (x := x2) E (Mo_convenience_dc.at 22 rfl) hl rfl ?_
        refine u_il (x := x4) E (Mo_convenience_dc.at 23 rfl) hl rfl ?_
        obtain ⟨M10, r9, er9, h⟩ := bd2_e h
        refine u_cVI (As := [zR G.2.2.1 x1, .int (zO x2), .int (zO x4)]) (rest := [.int (zO x3)]) E S7 zcw_yX12_vestYear zw_8_209 zq_6_12 zw_8_207 zck_12.1 rfl g3 (Mo_vestYear_c l G fu top L M x0 x1 x2 x4 hx0 hx1 hx2 hx4 er9) (zrm_ok (by decide) (by decide)) ⟨Nat.le_refl 0, Nat.le_refl 0⟩ rfl (by simp [zR_cat, zcat_I, zcat_J, zcat_S]) hl.size rfl (Mo_convenience_dc.at 24 rfl) (fun H locs hr9 S11 => ?_)
        refine r_min (rest := []) E hx3 hr9 hl.size zw_7_164 zw_4_47 zw_1_17 zw_4_48 (by decide) (by simp [zR_cat, zcat_I, zcat_J, zcat_S, zrm]) ⟨Nat.zero_le _, Nat.zero_le _⟩ (Mo_convenience_dc.at 25 rfl) ?_
        refine r_goto (tgt := 50) E (Mo_convenience_dc.at 26 rfl) (by decide) ?_
        obtain ⟨v12, ev12, h⟩ := lt1_e h
        have hv12 := inR_eq ev12 (inR_min hx3 hr9)
        refine u_ist_n (y := v12) (vs' := [some (zR G.2.2.1 x0), some (zR G.2.2.1 x1), some (.int (zO x2)), some (.int (zO v12)), some (.int (zO x4))]) E ev12 (Mo_convenience_dc.at 28 rfl) hl (by decide) rfl (fun ls hl => ?_)
        obtain ⟨v13, ev13, h⟩ := lt1_e h
        have hv13 := inR_eq ev13 (inR_w32 _)
        refine u_iinc (y := v13) (vs' := [some (zR G.2.2.1 x0), some (zR G.2.2.1 x1), some (.int (zO x2)), some (.int (zO v12)), some (.int (zO v13))]) E ev13 (Mo_convenience_dc.at 29 rfl) hl rfl (by decide) rfl (fun ls hl => ?_)
        refine r_goto (tgt := 7) E (Mo_convenience_dc.at 30 rfl) (by decide) ?_
        exact hk7 _ x0 x1 x2 v12 v13 hx0 hx1 hx2 hv12 hv13 _ _ _ S11 (hl.sub (And.intro rfl (And.intro rfl (And.intro rfl (And.intro rfl (And.intro rfl True.intro)))))) h
    · have h := ite_f h q
      refine u_il_n (x := x3) E (Mo_convenience_dc.at 31 rfl) hl rfl ?_
      refine r_ldcw (n := 1048576) E (Mo_convenience_dc.at 32 rfl) zw_8_202 rfl ?_
      refine r_icmp_lt (tgt := 68) E hx3 (show InR 1048576 by decide) (Mo_convenience_dc.at 33 rfl) (by decide) (fun q => ?_) (fun q => ?_)
      · have h := ite_t h q
        refine u_il_n (x := x3) E (Mo_convenience_dc.at 36 rfl) hl rfl ?_
        cases h
        exact r_iret E S5 hx3 (Mo_convenience_dc.at 37 rfl)
      · have h := ite_f h q
        refine r_iconst E (Mo_convenience_dc.at 34 rfl) ?_
        refine r_goto (tgt := 69) E (Mo_convenience_dc.at 35 rfl) (by decide) ?_
        cases h
        exact r_iret E S5 (show InR (-1) by decide) (Mo_convenience_dc.at 37 rfl)
  · have h := ite_f h q
    refine u_il_n (x := x3) E (Mo_convenience_dc.at 31 rfl) hl rfl ?_
    refine r_ldcw (n := 1048576) E (Mo_convenience_dc.at 32 rfl) zw_8_202 rfl ?_
    refine r_icmp_lt (tgt := 68) E hx3 (show InR 1048576 by decide) (Mo_convenience_dc.at 33 rfl) (by decide) (fun q => ?_) (fun q => ?_)
    · have h := ite_t h q
      refine u_il_n (x := x3) E (Mo_convenience_dc.at 36 rfl) hl rfl ?_
      cases h
      exact r_iret E S hx3 (Mo_convenience_dc.at 37 rfl)
    · have h := ite_f h q
      refine r_iconst E (Mo_convenience_dc.at 34 rfl) ?_
      refine r_goto (tgt := 69) E (Mo_convenience_dc.at 35 rfl) (by decide) ?_
      cases h
      exact r_iret E S (show InR (-1) by decide) (Mo_convenience_dc.at 37 rfl)
theorem Mo_convenience_l7_w (E : zEv p m c cX12_convenience 5 s args RX12 meth (some .int) G) {res : (zM × Int)} : ∀ (n : Nat) (M : zM) (x0 : Int) (x1 : Int) (x2 : Int) (x3 : Int) (x4 : Int), InR x0 → InR x1 → InR x2 → InR x3 → InR x4 → ∀ (H : Heap) (locs : List Loc) (ls : Array Slot), zS G top L M s H locs → zLV ls 5 [some (zR G.2.2.1 x0), some (zR G.2.2.1 x1), some (.int (zO x2)), some (.int (zO x3)), some (.int (zO x4))] → Mo_convenience_l7 fu L n M x0 x1 x2 x3 x4 = some res → W p l e (zrm 47 0 0) s m args below meth c H locs 0 0 (MQ below (zQ G top L res.1 (some (.int (zO res.2))) (InR res.2)) args s 0 0 (zA G)) (F0 m 7 ls [])
  | 0, _, _, _, _, _, _ => fun _ _ _ _ _ _ _ _ _ _ h => (by cases h)
  | n + 1, M, x0, x1, x2, x3, x4 => fun hx0 hx1 hx2 hx3 hx4 H locs ls S hl h => Mo_convenience_s7_w E (fun M x0 x1 x2 x3 x4 hx0 hx1 hx2 hx3 hx4 H locs ls S hl h => Mo_convenience_l7_w E n M x0 x1 x2 x3 x4 hx0 hx1 hx2 hx3 hx4 H locs ls S hl h) hx0 hx1 hx2 hx3 hx4 S hl h
theorem Mo_convenience_w (E : zEv p m c cX12_convenience 5 s args RX12 meth (some .int) G) {res : (zM × Int)} {M : zM} {a0 : Int} {a1 : Int} {a2 : Int} {H : Heap} {locs : List Loc} {ls : Array Slot} (ha0 : InR a0) (ha1 : InR a1) (ha2 : InR a2) (S : zS G top L M s H locs) (hl : zLV ls 5 [some (zR G.2.2.1 a0), some (zR G.2.2.1 a1), some (.int (zO a2)), none, none]) (h : Mo_convenience fu L M a0 a1 a2 = some res) : W p l e (zrm 47 0 0) s m args below meth c H locs 0 0 (MQ below (zQ G top L res.1 (some (.int (zO res.2))) (InR res.2)) args s 0 0 (zA G)) (F0 m 0 ls []) := by
  unfold Mo_convenience at h
  refine r_ldcw (n := 1048576) E (Mo_convenience_dc.at 0 rfl) zw_8_202 rfl ?_
  refine u_ist_n (y := 1048576) (vs' := [some (zR G.2.2.1 a0), some (zR G.2.2.1 a1), some (.int (zO a2)), some (.int (zO 1048576)), none]) E rfl (Mo_convenience_dc.at 1 rfl) hl (by decide) rfl (fun ls hl => ?_)
  refine r_iconst E (Mo_convenience_dc.at 2 rfl) ?_
  refine u_ist (y := 0) (vs' := [some (zR G.2.2.1 a0), some (zR G.2.2.1 a1), some (.int (zO a2)), some (.int (zO 1048576)), some (.int (zO 0))]) E rfl (Mo_convenience_dc.at 3 rfl) hl (by decide) rfl (fun ls hl => ?_)
  exact Mo_convenience_l7_w E fu _ a0 a1 a2 1048576 0 ha0 ha1 ha2 (show InR 1048576 by decide) (show InR 0 by decide) _ _ _ S (hl.sub (And.intro rfl (And.intro rfl (And.intro rfl (And.intro rfl (And.intro rfl True.intro)))))) h
theorem Mo_convenience_c (l : Launch) (G : zG) (fu : Nat) (top : Int) (L : zL) (M : zM) (a0 : Int) (a1 : Int) (a2 : Int) {res : (zM × Int)} (ha0 : InR a0) (ha1 : InR a1) (ha2 : InR a2) (h : Mo_convenience fu L M a0 a1 a2 = some res) : Met l yX12_convenience (Cond.code yX12_convenience cX12_convenience 5 (some .int) :: zTB) (zrm 47 0 0) (va_Pc [zR G.2.2.1 a0, zR G.2.2.1 a1, .int (zO a2)] (zPre G top L M)) (zQ G top L res.1 (some (.int (zO res.2))) (InR res.2)) 0 0 (zA G) :=
  z_met (by decide +kernel) (by simp [zR_cat, zcat_I, zcat_S]) (Nat.le_of_ble_eq_true rfl) fun p e s m below meth c ls E hn S hl => Mo_convenience_w E ha0 ha1 ha2 S (hl.sub (And.intro rfl (And.intro rfl (And.intro rfl True.intro)))) h
end
theorem Mo_isMember_dc : zDL cX12_isMember [(0, .aload_n 0, 1, 1), (1, .aload_n 1, 1, 2), (2, .iload_n 2, 1, 3), (3, .invokevirtual 426, 3, 6), (6, .istore 4, 2, 8), (8, .aload_n 0, 1, 9), (9, .aload_n 1, 1, 10), (10, .iload_n 2, 1, 11), (11, .iload_n 3, 1, 12), (12, .invokevirtual 418, 3, 15), (15, .ifCond .eq 23, 3, 18), (18, .iload 4, 2, 20), (20, .iconst (-1), 1, 21), (21, .if_icmp .eq 13, 3, 24), (24, .aload_n 1, 1, 25), (25, .iconst 2, 1, 26), (26, .iload_n 3, 1, 27), (27, .iadd, 1, 28), (28, .iaload, 1, 29), (29, .iload 4, 2, 31), (31, .if_icmp .gt 7, 3, 34), (34, .iconst 1, 1, 35), (35, .goto 4, 3, 38), (38, .iconst 0, 1, 39), (39, .ireturn, 1, 40)] := zDL.of (by decide +kernel)
section
variable {p : Program} {l : Launch} {e : Env} {s : State} {m : MethodId} {args : Array Value} {below : List Frame} {meth : Method} {c : Code} {G : zG} {top : Int} {L : zL} {fu : Nat}
theorem Mo_isMember_w (E : zEv p m c cX12_isMember 5 s args RX12 meth (some .boolean) G) {res : (zM × Int)} {M : zM} {a0 : Int} {a1 : Int} {a2 : Int} {a3 : Int} {H : Heap} {locs : List Loc} {ls : Array Slot} (ha0 : InR a0) (ha1 : InR a1) (ha2 : InR a2) (ha3 : InR a3) (S : zS G top L M s H locs) (hl : zLV ls 5 [some (zR G.2.2.1 a0), some (zR G.2.2.1 a1), some (.int (zO a2)), some (.int (zO a3)), none]) (h : Mo_isMember fu L M a0 a1 a2 a3 = some res) : W p l e (zrm 48 0 0) s m args below meth c H locs 0 0 (MQ below (zQ G top L res.1 (some (.int (zO res.2))) (0 ≤ res.2 ∧ res.2 ≤ 1)) args s 0 0 (zA G)) (F0 m 0 ls []) := by
  unfold Mo_isMember at h
  refine u_al_n (x := a0) E (Mo_isMember_dc.at 0 rfl) hl rfl ?_
  refine u_al_n (x := a1) E (Mo_isMember_dc.at 1 rfl) hl rfl ?_
  refine u_il_n (x := a2) E (Mo_isMember_dc.at 2 rfl) hl rfl ?_
  obtain ⟨g1, h⟩ := ite_e h
  obtain ⟨M3, r2, er2, h⟩ := bd2_e h
  refine u_cVI (As := [zR G.2.2.1 a1, .int (zO a2)]) (rest := []) E S zcw_yX12_convenience zw_8_200 zq_6_10 zw_8_198 zck_12.1 rfl g1 (Mo_convenience_c l G fu top L M a0 a1 a2 ha0 ha1 ha2 er2) (zrm_ok (by decide) (by decide)) ⟨Nat.le_refl 0, Nat.le_refl 0⟩ rfl (Nat.zero_le 8) hl.size rfl (Mo_isMember_dc.at 3 rfl) (fun H locs hr2 S4 => ?_)
  refine u_ist (y := r2) (vs' := [some (zR G.2.2.1 a0), some (zR G.2.2.1 a1), some (.int (zO a2)), some (.int (zO a3)), some (.int (zO r2))]) E rfl (Mo_isMember_dc.at 4 rfl) hl (by decide) rfl (fun ls hl => ?_)
  refine u_al_n (x := a0) E (Mo_isMember_dc.at 5 rfl) hl rfl ?_
  refine u_al_n (x := a1) E (Mo_isMember_dc.at 6 rfl) hl rfl ?_
  refine u_il_n (x := a2) E (Mo_isMember_dc.at 7 rfl) hl rfl ?_
  refine u_il_n (x := a3) E (Mo_isMember_dc.at 8 rfl) hl rfl ?_
  obtain ⟨r5, er5, h⟩ := bd1_e h
  refine u_cVI (As := [zR G.2.2.1 a1, .int (zO a2), .int (zO a3)]) (rest := []) E S4 zcw_yX12_isOfClass zw_8_205 zq_6_11 zw_8_203 zck_12.1 rfl g1 (Mo_isOfClass_c l G fu top L M3 a0 a1 a2 a3 ha0 ha1 ha2 ha3 er5) (zrm_ok (by decide) (by decide)) ⟨Nat.le_refl 0, Nat.le_refl 0⟩ rfl (Nat.zero_le 8) hl.size rfl (Mo_isMember_dc.at 9 rfl) (fun H locs hr5 S6 => ?_)
  refine r_if_eq (tgt := 38) E (inR_01 hr5) (Mo_isMember_dc.at 10 rfl) (by decide) (fun q => ?_) (fun q => ?_)
  · have h := ite_t h q
    refine r_iconst E (Mo_isMember_dc.at 23 rfl) ?_
    cases h
    exact r_zret E S6 z01_0 z01_0 (Mo_isMember_dc.at 24 rfl)
  · have h := ite_f h q
    refine u_il (x := r2) E (Mo_isMember_dc.at 11 rfl) hl rfl ?_
    refine r_iconst E (Mo_isMember_dc.at 12 rfl) ?_
    refine r_icmp_eq (tgt := 34) E hr2 (show InR (-1) by decide) (Mo_isMember_dc.at 13 rfl) (by decide) (fun q => ?_) (fun q => ?_)
    · have h := ite_t h q
      refine r_iconst E (Mo_isMember_dc.at 21 rfl) ?_
      refine r_goto (tgt := 39) E (Mo_isMember_dc.at 22 rfl) (by decide) ?_
      cases h
      exact r_zret E S6 z01_1 z01_1 (Mo_isMember_dc.at 24 rfl)
    · have h := ite_f h q
      refine u_al_n (x := a1) E (Mo_isMember_dc.at 14 rfl) hl rfl ?_
      refine r_iconst E (Mo_isMember_dc.at 15 rfl) ?_
      refine u_il_n (x := a3) E (Mo_isMember_dc.at 16 rfl) hl rfl ?_
      refine r_iadd E (Mo_isMember_dc.at 17 rfl) ?_
      obtain ⟨g7, h⟩ := ite_e h
      obtain ⟨g8, h⟩ := ite_e h
      refine r_iald E S6 g7 g8 (Mo_isMember_dc.at 18 rfl) ?_
      refine u_il (x := r2) E (Mo_isMember_dc.at 19 rfl) hl rfl ?_
      refine r_icmp_gt (tgt := 38) E (S6.1.inR _ _) hr2 (Mo_isMember_dc.at 20 rfl) (by decide) (fun q => ?_) (fun q => ?_)
      · have h := ite_t h q
        refine r_iconst E (Mo_isMember_dc.at 23 rfl) ?_
        cases h
        exact r_zret E S6 z01_0 z01_0 (Mo_isMember_dc.at 24 rfl)
      · have h := ite_f h q
        refine r_iconst E (Mo_isMember_dc.at 21 rfl) ?_
        refine r_goto (tgt := 39) E (Mo_isMember_dc.at 22 rfl) (by decide) ?_
        cases h
        exact r_zret E S6 z01_1 z01_1 (Mo_isMember_dc.at 24 rfl)
theorem Mo_isMember_c (l : Launch) (G : zG) (fu : Nat) (top : Int) (L : zL) (M : zM) (a0 : Int) (a1 : Int) (a2 : Int) (a3 : Int) {res : (zM × Int)} (ha0 : InR a0) (ha1 : InR a1) (ha2 : InR a2) (ha3 : InR a3) (h : Mo_isMember fu L M a0 a1 a2 a3 = some res) : Met l yX12_isMember (Cond.code yX12_isMember cX12_isMember 5 (some .boolean) :: zTB) (zrm 48 0 0) (va_Pc [zR G.2.2.1 a0, zR G.2.2.1 a1, .int (zO a2), .int (zO a3)] (zPre G top L M)) (zQ G top L res.1 (some (.int (zO res.2))) (0 ≤ res.2 ∧ res.2 ≤ 1)) 0 0 (zA G) :=
  z_met (by decide +kernel) (by simp [zR_cat, zcat_I, zcat_S]) (Nat.le_of_ble_eq_true rfl) fun p e s m below meth c ls E hn S hl => Mo_isMember_w E ha0 ha1 ha2 ha3 S (hl.sub (And.intro rfl (And.intro rfl (And.intro rfl (And.intro rfl True.intro))))) h
end
theorem Mo_member_dc : zDL cX12_member [(0, .aload_n 0, 1, 1), (1, .iconst 0, 1, 2), (2, .putfield 66, 3, 5), (5, .aload_n 0, 1, 6), (6, .iload_n 1, 1, 7), (7, .invokevirtual 282, 3, 10), (10, .ifCond .ne 5, 3, 13), (13, .iconst (-1), 1, 14), (14, .ireturn, 1, 15), (15, .iconst 0, 1, 16), (16, .istore_n 3, 1, 17), (17, .iconst 0, 1, 18), (18, .istore 4, 2, 20), (20, .iload 4, 2, 22), (22, .aload_n 0, 1, 23), (23, .getfield 31, 3, 26), (26, .iconst 1, 1, 27), (27, .iaload, 1, 28), (28, .if_icmp .ge 34, 3, 31), (31, .aload_n 0, 1, 32), (32, .aload_n 0, 1, 33), (33, .getfield 31, 3, 36), (36, .iload_n 1, 1, 37), (37, .iload 4, 2, 39), (39, .invokevirtual 432, 3, 42), (42, .ifCond .eq 14, 3, 45), (45, .iload_n 3, 1, 46), (46, .iload_n 2, 1, 47), (47, .if_icmp .ne 6, 3, 50), (50, .iload 4, 2, 52), (52, .ireturn, 1, 53), (53, .iinc 3 1, 3, 56), (56, .iinc 4 1, 3, 59), (59, .goto (-39), 3, 62), (62, .iload_n 2, 1, 63), (63, .iconst (-1), 1, 64), (64, .if_icmp .ne 7, 3, 67), (67, .iload_n 3, 1, 68), (68, .goto 4, 3, 71), (71, .iconst (-1), 1, 72), (72, .ireturn, 1, 73)] := zDL.of (by decide +kernel)
section
variable {p : Program} {l : Launch} {e : Env} {s : State} {m : MethodId} {args : Array Value} {below : List Frame} {meth : Method} {c : Code} {G : zG} {top : Int} {L : zL} {fu : Nat}
theorem Mo_member_s20_w (E : zEv p m c cX12_member 5 s args RX12 meth (some .int) G) {res : (zM × Int)} {k20 : zM → Int → Int → Int → Int → Int → Option (zM × Int)} (hk20 : ∀ (M : zM) (x0 : Int) (x1 : Int) (x2 : Int) (x3 : Int) (x4 : Int), InR x0 → InR x1 → InR x2 → InR x3 → InR x4 → ∀ (H : Heap) (locs : List Loc) (ls : Array Slot), zS G top L M s H locs → zLV ls 5 [some (zR G.2.2.1 x0), some (.int (zO x1)), some (.int (zO x2)), some (.int (zO x3)), some (.int (zO x4))] → k20 M x0 x1 x2 x3 x4 = some res → W p l e (zrm 49 0 0) s m args below meth c H locs 0 0 (MQ below (zQ G top L res.1 (some (.int (zO res.2))) (InR res.2)) args s 0 0 (zA G)) (F0 m 20 ls [])) {M : zM} {x0 : Int} {x1 : Int} {x2 : Int} {x3 : Int} {x4 : Int} {H : Heap} {locs : List Loc} {ls : Array Slot} (hx0 : InR x0) (hx1 : InR x1) (hx2 : InR x2) (hx3 : InR x3) (hx4 : InR x4) (S : zS G top L M s H locs) (hl : zLV ls 5 [some (zR G.2.2.1 x0), some (.int (zO x1)), some (.int (zO x2)), some (.int (zO x3)), some (.int (zO x4))]) (h : Mo_member_s20 fu k20 L M x0 x1 x2 x3 x4 = some res) : W p l e (zrm 49 0 0) s m args below meth c H locs 0 0 (MQ below (zQ G top L res.1 (some (.int (zO res.2))) (InR res.2)) args s 0 0 (zA G)) (F0 m 20 ls []) := by
  unfold Mo_member_s20 at h
  refine u_il (x := x4) E (Mo_member_dc.at 13 rfl) hl rfl ?_
  refine u_al_n (x := x0) E (Mo_member_dc.at 14 rfl) hl rfl ?_
  obtain ⟨g6, h⟩ := ite_e h
  refine u_gR E zf_12_18 S g6 zw_6_225 (Mo_member_dc.at 15 rfl) ?_
  refine r_iconst E (Mo_member_dc.at 16 rfl) ?_
  obtain ⟨g7, h⟩ := ite_e h
  obtain ⟨g8, h⟩ := ite_e h
  refine r_iald E S g7 g8 (Mo_member_dc.at 17 rfl) ?_
  refine r_icmp_ge (tgt := 62) E hx4 (S.1.inR _ _) (Mo_member_dc.at 18 rfl) (by decide) (fun q => ?_) (fun q => ?_)
  · have h := ite_t h q
    refine u_al_n (x := x0) E (Mo_member_dc.at 19 rfl) hl rfl ?_
    refine u_al_n (x := x0) E (Mo_member_dc.at 20 rfl) hl rfl ?_
    refine u_gR E zf_12_18 S g6 zw_6_225 (Mo_member_dc.at 21 rfl) ?_
    refine u_il_n (x := x1) E (Mo_member_dc.at 22 rfl) hl rfl ?_
    refine u_il (x := x4) E (Mo_member_dc.at 23 rfl) hl rfl ?_
    obtain ⟨M10, r9, er9, h⟩ := bd2_e h
    refine u_cVI (As := [zR G.2.2.1 (M x0 18), .int (zO x1), .int (zO x4)]) (rest := []) E S zcw_yX12_isMember zw_8_196 zq_6_9 zw_8_194 zck_12.1 rfl g6 (Mo_isMember_c l G fu top L M x0 (M x0 18) x1 x4 hx0 (S.1.inR _ _) hx1 hx4 er9) (zrm_ok (by decide) (by decide)) ⟨Nat.le_refl 0, Nat.le_refl 0⟩ rfl (Nat.zero_le 8) hl.size rfl (Mo_member_dc.at 24 rfl) (fun H locs hr9 S11 => ?_)
    refine r_if_eq (tgt := 56) E (inR_01 hr9) (Mo_member_dc.at 25 rfl) (by decide) (fun q => ?_) (fun q => ?_)
    · have h := ite_t h q
      obtain ⟨v12, ev12, h⟩ := lt1_e h
      have hv12 := inR_eq ev12 (inR_w32 _)
      refine u_iinc (y := v12) (vs' := [some (zR G.2.2.1 x0), some (.int (zO x1)), some (.int (zO x2)), some (.int (zO x3)), some (.int (zO v12))]) E ev12 (Mo_member_dc.at 32 rfl) hl rfl (by decide) rfl (fun ls hl => ?_)
      refine r_goto (tgt := 20) E (Mo_member_dc.at 33 rfl) (by decide) ?_
      exact hk20 _ x0 x1 x2 x3 v12 hx0 hx1 hx2 hx3 hv12 _ _ _ S11 (hl.sub (And.intro rfl (And.intro rfl (And.intro rfl (And.intro rfl (And.intro rfl True.intro)))))) h
    · have h := ite_f h q
      refine u_il_n (x := x3) E (Mo_member_dc.at 26 rfl) hl rfl ?_
      refine u_il_n (x := x2) E (Mo_member_dc.at 27 rfl) hl rfl ?_
      refine r_icmp_ne (tgt := 53) E hx3 hx2 (Mo_member_dc.at 28 rfl) (by decide) (fun q => ?_) (fun q => ?_)
      · have h := ite_t h q
        refine u_il (x := x4) E (Mo_member_dc.at 29 rfl) hl rfl ?_
        cases h
        exact r_iret E S11 hx4 (Mo_member_dc.at 30 rfl)
      · have h := ite_f h q
        obtain ⟨v13, ev13, h⟩ := lt1_e h
        have hv13 := inR_eq ev13 (inR_w32 _)
        refine u_iinc (y := v13) (vs' := [some (zR G.2.2.1 x0), some (.int (zO x1)), some (.int (zO x2)), some (.int (zO v13)), some (.int (zO x4))]) E ev13 (Mo_member_dc.at 31 rfl) hl rfl (by decide) rfl (fun ls hl => ?_)
        obtain ⟨v14, ev14, h⟩ := lt1_e h
        have hv14 := inR_eq ev14 (inR_w32 _)
        refine u_iinc (y := v14) (vs' := [some (zR G.2.2.1 x0), some (.int (zO x1)), some (.int (zO x2)), some (.int (zO v13)), some (.int (zO v14))]) E ev14 (Mo_member_dc.at 32 rfl) hl rfl (by decide) rfl (fun ls hl => ?_)
        refine r_goto (tgt := 20) E (Mo_member_dc.at 33 rfl) (by decide) ?_
        exact hk20 _ x0 x1 x2 v13 v14 hx0 hx1 hx2 hv13 hv14 _ _ _ S11 (hl.sub (And.intro rfl (And.intro rfl (And.intro rfl (And.intro rfl (And.intro rfl True.intro)))))) h
  · have h := ite_f h q
    refine u_il_n (x := x2) E (Mo_member_dc.at 34 rfl) hl rfl ?_
    refine r_iconst E (Mo_member_dc.at 35 rfl) ?_
    refine r_icmp_ne (tgt := 71) E hx2 (show InR (-1) by decide) (Mo_member_dc.at 36 rfl) (by decide) (fun q => ?_) (fun q => ?_)
    · have h := ite_t h q
      refine u_il_n (x := x3) E (Mo_member_dc.at 37 rfl) hl rfl ?_
      refine r_goto (tgt := 72) E (Mo_member_dc.at 38 rfl) (by decide) ?_
      cases h
      exact r_iret E S hx3 (Mo_member_dc.at 40 rfl)
    · have h := ite_f h q
      refine r_iconst E (Mo_member_dc.at 39 rfl) ?_
      cases h
      exact r_iret E S (show InR (-1) by decide) (Mo_member_dc.at 40 rfl)
theorem Mo_member_l20_w (E : zEv p m c cX12_member 5 s args RX12 meth (some .int) G) {res : (zM × Int)} : ∀ (n : Nat) (M : zM) (x0 : Int) (x1 : Int) (x2 : Int) (x3 : Int) (x4 : Int), InR x0 → InR x1 → InR x2 → InR x3 → InR x4 → ∀ (H : Heap) (locs : List Loc) (ls : Array Slot), zS G top L M s H locs → zLV ls 5 [some (zR G.2.2.1 x0), some (.int (zO x1)), some (.int (zO x2)), some (.int (zO x3)), some (.int (zO x4))] → Mo_member_l20 fu L n M x0 x1 x2 x3 x4 = some res → W p l e (zrm 49 0 0) s m args below meth c H locs 0 0 (MQ below (zQ G top L res.1 (some (.int (zO res.2))) (InR res.2)) args s 0 0 (zA G)) (F0 m 20 ls [])
  | 0, _, _, _, _, _, _ => fun _ _ _ _ _ _ _ _ _ _ h => (by cases h)
  | n + 1, M, x0, x1, x2, x3, x4 => fun hx0 hx1 hx2 hx3 hx4 H locs ls S hl h => Mo_member_s20_w E (fun M x0 x1 x2 x3 x4 hx0 hx1 hx2 hx3 hx4 H locs ls S hl h => Mo_member_l20_w E n M x0 x1 x2 x3 x4 hx0 hx1 hx2 hx3 hx4 H locs ls S hl h) hx0 hx1 hx2 hx3 hx4 S hl h
theorem Mo_member_w (E : zEv p m c cX12_member 5 s args RX12 meth (some .int) G) {res : (zM × Int)} {M : zM} {a0 : Int} {a1 : Int} {a2 : Int} {H : Heap} {locs : List Loc} {ls : Array Slot} (ha0 : InR a0) (ha1 : InR a1) (ha2 : InR a2) (S : zS G top L M s H locs) (hl : zLV ls 5 [some (zR G.2.2.1 a0), some (.int (zO a1)), some (.int (zO a2)), none, none]) (h : Mo_member fu L M a0 a1 a2 = some res) : W p l e (zrm 49 0 0) s m args below meth c H locs 0 0 (MQ below (zQ G top L res.1 (some (.int (zO res.2))) (InR res.2)) args s 0 0 (zA G)) (F0 m 0 ls []) := by
  unfold Mo_member at h
  refine u_al_n (x := a0) E (Mo_member_dc.at 0 rfl) hl rfl ?_
  refine r_iconst E (Mo_member_dc.at 1 rfl) ?_
  obtain ⟨g1, h⟩ := ite_e h
  obtain ⟨M2, eM2, h⟩ := lt1_e h
  refine u_pI E eM2 zf_12_0 S g1 (show InR 0 by decide) (Or.inl rfl) rfl zw_6_207 (Mo_member_dc.at 2 rfl) (fun H locs S3 => ?_)
  refine u_al_n (x := a0) E (Mo_member_dc.at 3 rfl) hl rfl ?_
  refine u_il_n (x := a1) E (Mo_member_dc.at 4 rfl) hl rfl ?_
  obtain ⟨r4, er4, h⟩ := bd1_e h
  refine u_cVI (As := [.int (zO a1)]) (rest := []) E S3 zcw_yX12_isGift zw_8_77 zq_5_12 zw_8_75 zck_12.1 rfl g1 (Mo_isGift_c l G fu top L M2 a0 a1 ha0 ha1 er4) (zrm_ok (by decide) (by decide)) ⟨Nat.le_refl 0, Nat.le_refl 0⟩ rfl (Nat.zero_le 8) hl.size rfl (Mo_member_dc.at 5 rfl) (fun H locs hr4 S5 => ?_)
  refine r_if_ne (tgt := 15) E (inR_01 hr4) (Mo_member_dc.at 6 rfl) (by decide) (fun q => ?_) (fun q => ?_)
  · have h := ite_t h q
    refine r_iconst E (Mo_member_dc.at 7 rfl) ?_
    cases h
    exact r_iret E S5 (show InR (-1) by decide) (Mo_member_dc.at 8 rfl)
  · have h := ite_f h q
    refine r_iconst E (Mo_member_dc.at 9 rfl) ?_
    refine u_ist_n (y := 0) (vs' := [some (zR G.2.2.1 a0), some (.int (zO a1)), some (.int (zO a2)), some (.int (zO 0)), none]) E rfl (Mo_member_dc.at 10 rfl) hl (by decide) rfl (fun ls hl => ?_)
    refine r_iconst E (Mo_member_dc.at 11 rfl) ?_
    refine u_ist (y := 0) (vs' := [some (zR G.2.2.1 a0), some (.int (zO a1)), some (.int (zO a2)), some (.int (zO 0)), some (.int (zO 0))]) E rfl (Mo_member_dc.at 12 rfl) hl (by decide) rfl (fun ls hl => ?_)
    exact Mo_member_l20_w E fu _ a0 a1 a2 0 0 ha0 ha1 ha2 (show InR 0 by decide) (show InR 0 by decide) _ _ _ S5 (hl.sub (And.intro rfl (And.intro rfl (And.intro rfl (And.intro rfl (And.intro rfl True.intro)))))) h
theorem Mo_member_c (l : Launch) (G : zG) (fu : Nat) (top : Int) (L : zL) (M : zM) (a0 : Int) (a1 : Int) (a2 : Int) {res : (zM × Int)} (ha0 : InR a0) (ha1 : InR a1) (ha2 : InR a2) (h : Mo_member fu L M a0 a1 a2 = some res) : Met l yX12_member (Cond.code yX12_member cX12_member 5 (some .int) :: zTB) (zrm 49 0 0) (va_Pc [zR G.2.2.1 a0, .int (zO a1), .int (zO a2)] (zPre G top L M)) (zQ G top L res.1 (some (.int (zO res.2))) (InR res.2)) 0 0 (zA G) :=
  z_met (by decide +kernel) (by simp [zR_cat, zcat_I, zcat_S]) (Nat.le_of_ble_eq_true rfl) fun p e s m below meth c ls E hn S hl => Mo_member_w E ha0 ha1 ha2 S (hl.sub (And.intro rfl (And.intro rfl (And.intro rfl True.intro)))) h
end
theorem Mo_vestsIn_dc : zDL cX12_vestsIn [(0, .aload_n 0, 1, 1), (1, .aload_n 1, 1, 2), (2, .iload_n 2, 1, 3), (3, .iload_n 3, 1, 4), (4, .invokevirtual 432, 3, 7), (7, .ifCond .ne 6, 3, 10), (10, .bipush (-3), 2, 12), (12, .ireturn, 1, 13), (13, .aload_n 0, 1, 14), (14, .aload_n 1, 1, 15), (15, .iload_n 2, 1, 16), (16, .iload_n 3, 1, 17), (17, .invokevirtual 422, 3, 20), (20, .istore 4, 2, 22), (22, .iload 4, 2, 24), (24, .ldc_w 389, 3, 27), (27, .if_icmp .ne 7, 3, 30), (30, .iconst (-1), 1, 31), (31, .goto 18, 3, 34), (34, .iload 4, 2, 36), (36, .ldc_w 385, 3, 39), (39, .if_icmp .ne 8, 3, 42), (42, .bipush (-2), 2, 44), (44, .goto 5, 3, 47), (47, .iload 4, 2, 49), (49, .ireturn, 1, 50)] := zDL.of (by decide +kernel)
section
variable {p : Program} {l : Launch} {e : Env} {s : State} {m : MethodId} {args : Array Value} {below : List Frame} {meth : Method} {c : Code} {G : zG} {top : Int} {L : zL} {fu : Nat}
theorem Mo_vestsIn_w (E : zEv p m c cX12_vestsIn 5 s args RX12 meth (some .int) G) {res : (zM × Int)} {M : zM} {a0 : Int} {a1 : Int} {a2 : Int} {a3 : Int} {H : Heap} {locs : List Loc} {ls : Array Slot} (ha0 : InR a0) (ha1 : InR a1) (ha2 : InR a2) (ha3 : InR a3) (S : zS G top L M s H locs) (hl : zLV ls 5 [some (zR G.2.2.1 a0), some (zR G.2.2.1 a1), some (.int (zO a2)), some (.int (zO a3)), none]) (h : Mo_vestsIn fu L M a0 a1 a2 a3 = some res) : W p l e (zrm 49 0 0) s m args below meth c H locs 0 0 (MQ below (zQ G top L res.1 (some (.int (zO res.2))) (InR res.2)) args s 0 0 (zA G)) (F0 m 0 ls []) := by
  unfold Mo_vestsIn at h
  refine u_al_n (x := a0) E (Mo_vestsIn_dc.at 0 rfl) hl rfl ?_
  refine u_al_n (x := a1) E (Mo_vestsIn_dc.at 1 rfl) hl rfl ?_
  refine u_il_n (x := a2) E (Mo_vestsIn_dc.at 2 rfl) hl rfl ?_
  refine u_il_n (x := a3) E (Mo_vestsIn_dc.at 3 rfl) hl rfl ?_
  obtain ⟨g1, h⟩ := ite_e h
  obtain ⟨M3, r2, er2, h⟩ := bd2_e h
  refine u_cVI (As := [zR G.2.2.1 a1, .int (zO a2), .int (zO a3)]) (rest := []) E S zcw_yX12_isMember zw_8_196 zq_6_9 zw_8_194 zck_12.1 rfl g1 (Mo_isMember_c l G fu top L M a0 a1 a2 a3 ha0 ha1 ha2 ha3 er2) (zrm_ok (by decide) (by decide)) ⟨Nat.le_refl 0, Nat.le_refl 0⟩ rfl (Nat.zero_le 8) hl.size rfl (Mo_vestsIn_dc.at 4 rfl) (fun H locs hr2 S4 => ?_)
  refine r_if_ne (tgt := 13) E (inR_01 hr2) (Mo_vestsIn_dc.at 5 rfl) (by decide) (fun q => ?_) (fun q => ?_)
  · have h := ite_t h q
    refine r_bipush E (Mo_vestsIn_dc.at 6 rfl) rfl ?_
    cases h
    exact r_iret E S4 (show InR (-3) by decide) (Mo_vestsIn_dc.at 7 rfl)
  · have h := ite_f h q
    refine u_al_n (x := a0) E (Mo_vestsIn_dc.at 8 rfl) hl rfl ?_
    refine u_al_n (x := a1) E (Mo_vestsIn_dc.at 9 rfl) hl rfl ?_
    refine u_il_n (x := a2) E (Mo_vestsIn_dc.at 10 rfl) hl rfl ?_
    refine u_il_n (x := a3) E (Mo_vestsIn_dc.at 11 rfl) hl rfl ?_
    obtain ⟨M6, r5, er5, h⟩ := bd2_e h
    refine u_cVI (As := [zR G.2.2.1 a1, .int (zO a2), .int (zO a3)]) (rest := []) E S4 zcw_yX12_vestYear zw_8_209 zq_6_12 zw_8_207 zck_12.1 rfl g1 (Mo_vestYear_c l G fu top L M3 a0 a1 a2 a3 ha0 ha1 ha2 ha3 er5) (zrm_ok (by decide) (by decide)) ⟨Nat.le_refl 0, Nat.le_refl 0⟩ rfl (Nat.zero_le 8) hl.size rfl (Mo_vestsIn_dc.at 12 rfl) (fun H locs hr5 S7 => ?_)
    refine u_ist (y := r5) (vs' := [some (zR G.2.2.1 a0), some (zR G.2.2.1 a1), some (.int (zO a2)), some (.int (zO a3)), some (.int (zO r5))]) E rfl (Mo_vestsIn_dc.at 13 rfl) hl (by decide) rfl (fun ls hl => ?_)
    refine u_il (x := r5) E (Mo_vestsIn_dc.at 14 rfl) hl rfl ?_
    refine r_ldcw (n := 1048576) E (Mo_vestsIn_dc.at 15 rfl) zw_8_202 rfl ?_
    refine r_icmp_ne (tgt := 34) E hr5 (show InR 1048576 by decide) (Mo_vestsIn_dc.at 16 rfl) (by decide) (fun q => ?_) (fun q => ?_)
    · have h := ite_t h q
      refine r_iconst E (Mo_vestsIn_dc.at 17 rfl) ?_
      refine r_goto (tgt := 49) E (Mo_vestsIn_dc.at 18 rfl) (by decide) ?_
      cases h
      exact r_iret E S7 (show InR (-1) by decide) (Mo_vestsIn_dc.at 25 rfl)
    · have h := ite_f h q
      refine u_il (x := r5) E (Mo_vestsIn_dc.at 19 rfl) hl rfl ?_
      refine r_ldcw (n := 2097152) E (Mo_vestsIn_dc.at 20 rfl) zw_8_235 rfl ?_
      refine r_icmp_ne (tgt := 47) E hr5 (show InR 2097152 by decide) (Mo_vestsIn_dc.at 21 rfl) (by decide) (fun q => ?_) (fun q => ?_)
      · have h := ite_t h q
        refine r_bipush E (Mo_vestsIn_dc.at 22 rfl) rfl ?_
        refine r_goto (tgt := 49) E (Mo_vestsIn_dc.at 23 rfl) (by decide) ?_
        cases h
        exact r_iret E S7 (show InR (-2) by decide) (Mo_vestsIn_dc.at 25 rfl)
      · have h := ite_f h q
        refine u_il (x := r5) E (Mo_vestsIn_dc.at 24 rfl) hl rfl ?_
        cases h
        exact r_iret E S7 hr5 (Mo_vestsIn_dc.at 25 rfl)
theorem Mo_vestsIn_c (l : Launch) (G : zG) (fu : Nat) (top : Int) (L : zL) (M : zM) (a0 : Int) (a1 : Int) (a2 : Int) (a3 : Int) {res : (zM × Int)} (ha0 : InR a0) (ha1 : InR a1) (ha2 : InR a2) (ha3 : InR a3) (h : Mo_vestsIn fu L M a0 a1 a2 a3 = some res) : Met l yX12_vestsIn (Cond.code yX12_vestsIn cX12_vestsIn 5 (some .int) :: zTB) (zrm 49 0 0) (va_Pc [zR G.2.2.1 a0, zR G.2.2.1 a1, .int (zO a2), .int (zO a3)] (zPre G top L M)) (zQ G top L res.1 (some (.int (zO res.2))) (InR res.2)) 0 0 (zA G) :=
  z_met (by decide +kernel) (by simp [zR_cat, zcat_I, zcat_S]) (Nat.le_of_ble_eq_true rfl) fun p e s m below meth c ls E hn S hl => Mo_vestsIn_w E ha0 ha1 ha2 ha3 S (hl.sub (And.intro rfl (And.intro rfl (And.intro rfl (And.intro rfl True.intro))))) h
end
theorem Mo_vests_dc : zDL cX12_vests [(0, .aload_n 0, 1, 1), (1, .iconst 0, 1, 2), (2, .putfield 66, 3, 5), (5, .aload_n 0, 1, 6), (6, .iload_n 1, 1, 7), (7, .invokevirtual 282, 3, 10), (10, .ifCond .eq 27, 3, 13), (13, .aload_n 0, 1, 14), (14, .getfield 31, 3, 17), (17, .iload_n 2, 1, 18), (18, .invokestatic 287, 3, 21), (21, .ifCond .eq 16, 3, 24), (24, .aload_n 0, 1, 25), (25, .aload_n 0, 1, 26), (26, .getfield 31, 3, 29), (29, .iload_n 1, 1, 30), (30, .iload_n 2, 1, 31), (31, .invokevirtual 435, 3, 34), (34, .goto 6, 3, 37), (37, .ldc_w 318, 3, 40), (40, .ireturn, 1, 41)] := zDL.of (by decide +kernel)
section
variable {p : Program} {l : Launch} {e : Env} {s : State} {m : MethodId} {args : Array Value} {below : List Frame} {meth : Method} {c : Code} {G : zG} {top : Int} {L : zL} {fu : Nat}
theorem Mo_vests_w (E : zEv p m c cX12_vests 3 s args RX12 meth (some .int) G) {res : (zM × Int)} {M : zM} {a0 : Int} {a1 : Int} {a2 : Int} {H : Heap} {locs : List Loc} {ls : Array Slot} (ha0 : InR a0) (ha1 : InR a1) (ha2 : InR a2) (S : zS G top L M s H locs) (hl : zLV ls 3 [some (zR G.2.2.1 a0), some (.int (zO a1)), some (.int (zO a2))]) (h : Mo_vests fu L M a0 a1 a2 = some res) : W p l e (zrm 50 0 0) s m args below meth c H locs 0 0 (MQ below (zQ G top L res.1 (some (.int (zO res.2))) (InR res.2)) args s 0 0 (zA G)) (F0 m 0 ls []) := by
  unfold Mo_vests at h
  refine u_al_n (x := a0) E (Mo_vests_dc.at 0 rfl) hl rfl ?_
  refine r_iconst E (Mo_vests_dc.at 1 rfl) ?_
  obtain ⟨g1, h⟩ := ite_e h
  obtain ⟨M2, eM2, h⟩ := lt1_e h
  refine u_pI E eM2 zf_12_0 S g1 (show InR 0 by decide) (Or.inl rfl) rfl zw_6_207 (Mo_vests_dc.at 2 rfl) (fun H locs S3 => ?_)
  refine u_al_n (x := a0) E (Mo_vests_dc.at 3 rfl) hl rfl ?_
  refine u_il_n (x := a1) E (Mo_vests_dc.at 4 rfl) hl rfl ?_
  obtain ⟨r4, er4, h⟩ := bd1_e h
  refine u_cVI (As := [.int (zO a1)]) (rest := []) E S3 zcw_yX12_isGift zw_8_77 zq_5_12 zw_8_75 zck_12.1 rfl g1 (Mo_isGift_c l G fu top L M2 a0 a1 ha0 ha1 er4) (zrm_ok (by decide) (by decide)) ⟨Nat.le_refl 0, Nat.le_refl 0⟩ rfl (Nat.zero_le 8) hl.size rfl (Mo_vests_dc.at 5 rfl) (fun H locs hr4 S5 => ?_)
  refine r_if_eq (tgt := 37) E (inR_01 hr4) (Mo_vests_dc.at 6 rfl) (by decide) (fun q => ?_) (fun q => ?_)
  · have h := ite_t h q
    refine r_ldcw (n := (-1000000)) E (Mo_vests_dc.at 19 rfl) zw_8_134 rfl ?_
    cases h
    exact r_iret E S5 (show InR (-1000000) by decide) (Mo_vests_dc.at 20 rfl)
  · have h := ite_f h q
    refine u_al_n (x := a0) E (Mo_vests_dc.at 7 rfl) hl rfl ?_
    refine u_gR E zf_12_18 S5 g1 zw_6_225 (Mo_vests_dc.at 8 rfl) ?_
    refine u_il_n (x := a2) E (Mo_vests_dc.at 9 rfl) hl rfl ?_
    obtain ⟨r6, er6, h⟩ := bd1_e h
    refine u_cSI (As := [zR G.2.2.1 (M2 a0 18), .int (zO a2)]) (rest := []) E S5 zcw_yX12_isIn zw_8_92 zw_8_91 (Mo_isIn_c l G fu top L M2 (M2 a0 18) a2 (S5.1.inR _ _) ha2 er6) (zrm_ok (by decide) (by decide)) ⟨Nat.le_refl 0, Nat.le_refl 0⟩ rfl (Nat.zero_le 8) hl.size rfl (Mo_vests_dc.at 10 rfl) (fun H locs hr6 S7 => ?_)
    refine r_if_eq (tgt := 37) E (inR_01 hr6) (Mo_vests_dc.at 11 rfl) (by decide) (fun q => ?_) (fun q => ?_)
    · have h := ite_t h q
      refine r_ldcw (n := (-1000000)) E (Mo_vests_dc.at 19 rfl) zw_8_134 rfl ?_
      cases h
      exact r_iret E S7 (show InR (-1000000) by decide) (Mo_vests_dc.at 20 rfl)
    · have h := ite_f h q
      refine u_al_n (x := a0) E (Mo_vests_dc.at 12 rfl) hl rfl ?_
      refine u_al_n (x := a0) E (Mo_vests_dc.at 13 rfl) hl rfl ?_
      refine u_gR E zf_12_18 S7 g1 zw_6_225 (Mo_vests_dc.at 14 rfl) ?_
      refine u_il_n (x := a1) E (Mo_vests_dc.at 15 rfl) hl rfl ?_
      refine u_il_n (x := a2) E (Mo_vests_dc.at 16 rfl) hl rfl ?_
      obtain ⟨M9, r8, er8, h⟩ := bd2_e h
      refine u_cVI (As := [zR G.2.2.1 (M2 a0 18), .int (zO a1), .int (zO a2)]) (rest := []) E S7 zcw_yX12_vestsIn zw_9_10 zq_7_5 zw_9_8 zck_12.1 rfl g1 (Mo_vestsIn_c l G fu top L M2 a0 (M2 a0 18) a1 a2 ha0 (S7.1.inR _ _) ha1 ha2 er8) (zrm_ok (by decide) (by decide)) ⟨Nat.le_refl 0, Nat.le_refl 0⟩ rfl (Nat.zero_le 8) hl.size rfl (Mo_vests_dc.at 17 rfl) (fun H locs hr8 S10 => ?_)
      refine r_goto (tgt := 40) E (Mo_vests_dc.at 18 rfl) (by decide) ?_
      cases h
      exact r_iret E S10 hr8 (Mo_vests_dc.at 20 rfl)
theorem Mo_vests_c (l : Launch) (G : zG) (fu : Nat) (top : Int) (L : zL) (M : zM) (a0 : Int) (a1 : Int) (a2 : Int) {res : (zM × Int)} (ha0 : InR a0) (ha1 : InR a1) (ha2 : InR a2) (h : Mo_vests fu L M a0 a1 a2 = some res) : Met l yX12_vests (Cond.code yX12_vests cX12_vests 3 (some .int) :: zTB) (zrm 50 0 0) (va_Pc [zR G.2.2.1 a0, .int (zO a1), .int (zO a2)] (zPre G top L M)) (zQ G top L res.1 (some (.int (zO res.2))) (InR res.2)) 0 0 (zA G) :=
  z_met (by decide +kernel) (by simp [zR_cat, zcat_I, zcat_S]) (Nat.le_of_ble_eq_true rfl) fun p e s m below meth c ls E hn S hl => Mo_vests_w E ha0 ha1 ha2 S (hl.sub (And.intro rfl (And.intro rfl (And.intro rfl True.intro)))) h
end
theorem Mo_nature_dc : zDL cX12_nature [(0, .aload_n 0, 1, 1), (1, .iload_n 2, 1, 2), (2, .invokevirtual 368, 3, 5), (5, .istore_n 3, 1, 6), (6, .aload_n 1, 1, 7), (7, .bipush 26, 2, 9), (9, .iload_n 3, 1, 10), (10, .iadd, 1, 11), (11, .iaload, 1, 12), (12, .istore 4, 2, 14), (14, .iconst 0, 1, 15), (15, .istore 5, 2, 17), (17, .iload 5, 2, 19), (19, .aload_n 1, 1, 20), (20, .iconst 1, 1, 21), (21, .iaload, 1, 22), (22, .if_icmp .ge 48, 3, 25), (25, .aload_n 0, 1, 26), (26, .iload_n 2, 1, 27), (27, .invokevirtual 360, 3, 30), (30, .iconst 2, 1, 31), (31, .if_icmp .ne 39, 3, 34), (34, .aload_n 1, 1, 35), (35, .bipush 50, 2, 37), (37, .iload 5, 2, 39), (39, .iadd, 1, 40), (40, .iaload, 1, 41), (41, .iload_n 3, 1, 42), (42, .if_icmp .ne 18, 3, 45), (45, .iload 4, 2, 47), (47, .aload_n 1, 1, 48), (48, .bipush 26, 2, 50), (50, .iload 5, 2, 52), (52, .iadd, 1, 53), (53, .iaload, 1, 54), (54, .invokestatic 305, 3, 57), (57, .goto 5, 3, 60), (60, .iload 4, 2, 62), (62, .istore 4, 2, 64), (64, .iinc 5 1, 3, 67), (67, .goto (-50), 3, 70), (70, .aload_n 0, 1, 71), (71, .iload_n 2, 1, 72), (72, .invokevirtual 360, 3, 75), (75, .ifCond .eq 10, 3, 78), (78, .iload 4, 2, 80), (80, .ldc 254, 2, 82), (82, .if_icmp .ne 7, 3, 85), (85, .iconst (-1), 1, 86), (86, .goto 5, 3, 89), (89, .iload 4, 2, 91), (91, .ireturn, 1, 92)] := zDL.of (by decide +kernel)
section
variable {p : Program} {l : Launch} {e : Env} {s : State} {m : MethodId} {args : Array Value} {below : List Frame} {meth : Method} {c : Code} {G : zG} {top : Int} {L : zL} {fu : Nat}
theorem Mo_nature_b70_w (E : zEv p m c cX12_nature 6 s args RX12 meth (some .int) G) {res : Int} {M : zM} {x0 : Int} {x2 : Int} {x4 : Int} {H : Heap} {locs : List Loc} {ls : Array Slot} (hx0 : InR x0) (hx2 : InR x2) (hx4 : InR x4) (S : zS G top L M s H locs) (hl : zLV ls 6 [some (zR G.2.2.1 x0), none, some (.int (zO x2)), none, some (.int (zO x4)), none]) (h : Mo_nature_b70 fu L M x0 x2 x4 = some res) : W p l e (zrm 3 0 0) s m args below meth c H locs 0 0 (MQ below (zQ G top L M (some (.int (zO res))) (InR res)) args s 0 0 (zA G)) (F0 m 70 ls []) := by
  unfold Mo_nature_b70 at h
  refine u_al_n (x := x0) E (Mo_nature_dc.at 41 rfl) hl rfl ?_
  refine u_il_n (x := x2) E (Mo_nature_dc.at 42 rfl) hl rfl ?_
  obtain ⟨g17, h⟩ := ite_e h
  obtain ⟨r18, er18, h⟩ := bd1_e h
  refine u_cVI (As := [.int (zO x2)]) (rest := []) E S zcw_yX12_to zw_8_163 zq_6_4 zw_8_161 zck_12.1 rfl g17 (Mo_to_c l G fu top L M x0 x2 hx0 hx2 er18) (zrm_ok (by decide) (by decide)) ⟨Nat.le_refl 0, Nat.le_refl 0⟩ rfl (Nat.zero_le 8) hl.size rfl (Mo_nature_dc.at 43 rfl) (fun H locs hr18 S19 => ?_)
  refine r_if_eq (tgt := 85) E hr18 (Mo_nature_dc.at 44 rfl) (by decide) (fun q => ?_) (fun q => ?_)
  · have h := ite_t h q
    refine r_iconst E (Mo_nature_dc.at 48 rfl) ?_
    refine r_goto (tgt := 91) E (Mo_nature_dc.at 49 rfl) (by decide) ?_
    cases h
    exact r_iret E S19 (show InR (-1) by decide) (Mo_nature_dc.at 51 rfl)
  · have h := ite_f h q
    refine u_il (x := x4) E (Mo_nature_dc.at 45 rfl) hl rfl ?_
    refine r_ldc (n := 16777216) E (Mo_nature_dc.at 46 rfl) zw_8_42 rfl ?_
    refine r_icmp_ne (tgt := 89) E hx4 (show InR 16777216 by decide) (Mo_nature_dc.at 47 rfl) (by decide) (fun q => ?_) (fun q => ?_)
    · have h := ite_t h q
      refine r_iconst E (Mo_nature_dc.at 48 rfl) ?_
      refine r_goto (tgt := 91) E (Mo_nature_dc.at 49 rfl) (by decide) ?_
      cases h
      exact r_iret E S19 (show InR (-1) by decide) (Mo_nature_dc.at 51 rfl)
    · have h := ite_f h q
      refine u_il (x := x4) E (Mo_nature_dc.at 50 rfl) hl rfl ?_
      cases h
      exact r_iret E S19 hx4 (Mo_nature_dc.at 51 rfl)
theorem Mo_nature_s17_w (E : zEv p m c cX12_nature 6 s args RX12 meth (some .int) G) {res : Int} {k17 : zM → Int → Int → Int → Int → Int → Int → Option Int} (hk17 : ∀ (M : zM) (x0 : Int) (x1 : Int) (x2 : Int) (x3 : Int) (x4 : Int) (x5 : Int), InR x0 → InR x1 → InR x2 → InR x3 → InR x4 → InR x5 → ∀ (H : Heap) (locs : List Loc) (ls : Array Slot), zS G top L M s H locs → zLV ls 6 [some (zR G.2.2.1 x0), some (zR G.2.2.1 x1), some (.int (zO x2)), some (.int (zO x3)), some (.int (zO x4)), some (.int (zO x5))] → k17 M x0 x1 x2 x3 x4 x5 = some res → W p l e (zrm 3 0 0) s m args below meth c H locs 0 0 (MQ below (zQ G top L M (some (.int (zO res))) (InR res)) args s 0 0 (zA G)) (F0 m 17 ls [])) {M : zM} {x0 : Int} {x1 : Int} {x2 : Int} {x3 : Int} {x4 : Int} {x5 : Int} {H : Heap} {locs : List Loc} {ls : Array Slot} (hx0 : InR x0) (hx1 : InR x1) (hx2 : InR x2) (hx3 : InR x3) (hx4 : InR x4) (hx5 : InR x5) (S : zS G top L M s H locs) (hl : zLV ls 6 [some (zR G.2.2.1 x0), some (zR G.2.2.1 x1), some (.int (zO x2)), some (.int (zO x3)), some (.int (zO x4)), some (.int (zO x5))]) (h : Mo_nature_s17 fu k17 L M x0 x1 x2 x3 x4 x5 = some res) : W p l e (zrm 3 0 0) s m args below meth c H locs 0 0 (MQ below (zQ G top L M (some (.int (zO res))) (InR res)) args s 0 0 (zA G)) (F0 m 17 ls []) := by
  unfold Mo_nature_s17 at h
  refine u_il (x := x5) E (Mo_nature_dc.at 12 rfl) hl rfl ?_
  refine u_al_n (x := x1) E (Mo_nature_dc.at 13 rfl) hl rfl ?_
  refine r_iconst E (Mo_nature_dc.at 14 rfl) ?_
  obtain ⟨g7, h⟩ := ite_e h
  obtain ⟨g8, h⟩ := ite_e h
  refine r_iald E S g7 g8 (Mo_nature_dc.at 15 rfl) ?_
  refine r_icmp_ge (tgt := 70) E hx5 (S.1.inR _ _) (Mo_nature_dc.at 16 rfl) (by decide) (fun q => ?_) (fun q => ?_)
  · have h := ite_t h q
    refine u_al_n (x := x0) E (Mo_nature_dc.at 17 rfl) hl rfl ?_
    refine u_il_n (x := x2) E (Mo_nature_dc.at 18 rfl) hl rfl ?_
    obtain ⟨g9, h⟩ := ite_e h
    obtain ⟨r10, er10, h⟩ := bd1_e h
    refine u_cVI (As := [.int (zO x2)]) (rest := []) E S zcw_yX12_to zw_8_163 zq_6_4 zw_8_161 zck_12.1 rfl g9 (Mo_to_c l G fu top L M x0 x2 hx0 hx2 er10) (zrm_ok (by decide) (by decide)) ⟨Nat.le_refl 0, Nat.le_refl 0⟩ rfl (Nat.zero_le 8) hl.size rfl (Mo_nature_dc.at 19 rfl) (fun H locs hr10 S11 => ?_)
    refine r_iconst E (Mo_nature_dc.at 20 rfl) ?_
    refine r_icmp_ne (tgt := 70) E hr10 (show InR 2 by decide) (Mo_nature_dc.at 21 rfl) (by decide) (fun q => ?_) (fun q => ?_)
    · have h := ite_t h q
      refine u_al_n (x := x1) E (Mo_nature_dc.at 22 rfl) hl rfl ?_
      refine r_bipush E (Mo_nature_dc.at 23 rfl) rfl ?_
      refine u_il (x := x5) E (Mo_nature_dc.at 24 rfl) hl rfl ?_
      refine r_iadd E (Mo_nature_dc.at 25 rfl) ?_
      obtain ⟨g12, h⟩ := ite_e h
      refine r_iald E S11 g7 g12 (Mo_nature_dc.at 26 rfl) ?_
      refine u_il_n (x := x3) E (Mo_nature_dc.at 27 rfl) hl rfl ?_
      refine r_icmp_ne (tgt := 60) E (S11.1.inR _ _) hx3 (Mo_nature_dc.at 28 rfl) (by decide) (fun q => ?_) (fun q => ?_)
      · have h := ite_t h q
        refine u_il (x := x4) E (Mo_nature_dc.at 29 rfl) hl rfl ?_
        refine u_al_n (x := x1) E (Mo_nature_dc.at 30 rfl) hl rfl ?_
        refine r_bipush E (Mo_nature_dc.at 31 rfl) rfl ?_
        refine u_il (x := x5) E (Mo_nature_dc.at 32 rfl) hl rfl ?_
        refine r_iadd E (Mo_nature_dc.at 33 rfl) ?_
        obtain ⟨g13, h⟩ := ite_e h
        refine r_iald E S11 g7 g13 (Mo_nature_dc.at 34 rfl) ?_
        refine r_max (rest := []) E hx4 (S11.1.inR _ _) hl.size zw_8_125 zw_4_56 zw_1_17 zw_4_57 (by decide) (by simp [zR_cat, zcat_I, zcat_J, zcat_S, zrm]) ⟨Nat.zero_le _, Nat.zero_le _⟩ (Mo_nature_dc.at 35 rfl) ?_
        refine r_goto (tgt := 62) E (Mo_nature_dc.at 36 rfl) (by decide) ?_
        obtain ⟨v14, ev14, h⟩ := lt1_e h
        have hv14 := inR_eq ev14 (inR_max hx4 (S11.1.inR _ _))
        refine u_ist (y := v14) (vs' := [some (zR G.2.2.1 x0), some (zR G.2.2.1 x1), some (.int (zO x2)), some (.int (zO x3)), some (.int (zO v14)), some (.int (zO x5))]) E ev14 (Mo_nature_dc.at 38 rfl) hl (by decide) rfl (fun ls hl => ?_)
        obtain ⟨v15, ev15, h⟩ := lt1_e h
        have hv15 := inR_eq ev15 (inR_w32 _)
        refine u_iinc (y := v15) (vs' := [some (zR G.2.2.1 x0), some (zR G.2.2.1 x1), some (.int (zO x2)), some (.int (zO x3)), some (.int (zO v14)), some (.int (zO v15))]) E ev15 (Mo_nature_dc.at 39 rfl) hl rfl (by decide) rfl (fun ls hl => ?_)
        refine r_goto (tgt := 17) E (Mo_nature_dc.at 40 rfl) (by decide) ?_
        exact hk17 _ x0 x1 x2 x3 v14 v15 hx0 hx1 hx2 hx3 hv14 hv15 _ _ _ S11 (hl.sub (And.intro rfl (And.intro rfl (And.intro rfl (And.intro rfl (And.intro rfl (And.intro rfl True.intro))))))) h
      · have h := ite_f h q
        refine u_il (x := x4) E (Mo_nature_dc.at 37 rfl) hl rfl ?_
        refine u_ist (y := x4) (vs' := [some (zR G.2.2.1 x0), some (zR G.2.2.1 x1), some (.int (zO x2)), some (.int (zO x3)), some (.int (zO x4)), some (.int (zO x5))]) E rfl (Mo_nature_dc.at 38 rfl) hl (by decide) rfl (fun ls hl => ?_)
        obtain ⟨v16, ev16, h⟩ := lt1_e h
        have hv16 := inR_eq ev16 (inR_w32 _)
        refine u_iinc (y := v16) (vs' := [some (zR G.2.2.1 x0), some (zR G.2.2.1 x1), some (.int (zO x2)), some (.int (zO x3)), some (.int (zO x4)), some (.int (zO v16))]) E ev16 (Mo_nature_dc.at 39 rfl) hl rfl (by decide) rfl (fun ls hl => ?_)
        refine r_goto (tgt := 17) E (Mo_nature_dc.at 40 rfl) (by decide) ?_
        exact hk17 _ x0 x1 x2 x3 x4 v16 hx0 hx1 hx2 hx3 hx4 hv16 _ _ _ S11 (hl.sub (And.intro rfl (And.intro rfl (And.intro rfl (And.intro rfl (And.intro rfl (And.intro rfl True.intro))))))) h
    · have h := ite_f h q
      exact Mo_nature_b70_w (x0 := x0) (x2 := x2) (x4 := x4)  E hx0 hx2 hx4 S11 (hl.sub (And.intro rfl (And.intro rfl (And.intro rfl True.intro)))) h
  · have h := ite_f h q
    exact Mo_nature_b70_w (x0 := x0) (x2 := x2) (x4 := x4)  E hx0 hx2 hx4 S (hl.sub (And.intro rfl (And.intro rfl (And.intro rfl True.intro)))) h
theorem Mo_nature_l17_w (E : zEv p m c cX12_nature 6 s args RX12 meth (some .int) G) {res : Int} : ∀ (n : Nat) (M : zM) (x0 : Int) (x1 : Int) (x2 : Int) (x3 : Int) (x4 : Int) (x5 : Int), InR x0 → InR x1 → InR x2 → InR x3 → InR x4 → InR x5 → ∀ (H : Heap) (locs : List Loc) (ls : Array Slot), zS G top L M s H locs → zLV ls 6 [some (zR G.2.2.1 x0), some (zR G.2.2.1 x1), some (.int (zO x2)), some (.int (zO x3)), some (.int (zO x4)), some (.int (zO x5))] → Mo_nature_l17 fu L n M x0 x1 x2 x3 x4 x5 = some res → W p l e (zrm 3 0 0) s m args below meth c H locs 0 0 (MQ below (zQ G top L M (some (.int (zO res))) (InR res)) args s 0 0 (zA G)) (F0 m 17 ls [])
  | 0, _, _, _, _, _, _, _ => fun _ _ _ _ _ _ _ _ _ _ _ h => (by cases h)
  | n + 1, M, x0, x1, x2, x3, x4, x5 => fun hx0 hx1 hx2 hx3 hx4 hx5 H locs ls S hl h => Mo_nature_s17_w E (fun M x0 x1 x2 x3 x4 x5 hx0 hx1 hx2 hx3 hx4 hx5 H locs ls S hl h => Mo_nature_l17_w E n M x0 x1 x2 x3 x4 x5 hx0 hx1 hx2 hx3 hx4 hx5 H locs ls S hl h) hx0 hx1 hx2 hx3 hx4 hx5 S hl h
theorem Mo_nature_w (E : zEv p m c cX12_nature 6 s args RX12 meth (some .int) G) {res : Int} {M : zM} {a0 : Int} {a1 : Int} {a2 : Int} {H : Heap} {locs : List Loc} {ls : Array Slot} (ha0 : InR a0) (ha1 : InR a1) (ha2 : InR a2) (S : zS G top L M s H locs) (hl : zLV ls 6 [some (zR G.2.2.1 a0), some (zR G.2.2.1 a1), some (.int (zO a2)), none, none, none]) (h : Mo_nature fu L M a0 a1 a2 = some res) : W p l e (zrm 3 0 0) s m args below meth c H locs 0 0 (MQ below (zQ G top L M (some (.int (zO res))) (InR res)) args s 0 0 (zA G)) (F0 m 0 ls []) := by
  unfold Mo_nature at h
  refine u_al_n (x := a0) E (Mo_nature_dc.at 0 rfl) hl rfl ?_
  refine u_il_n (x := a2) E (Mo_nature_dc.at 1 rfl) hl rfl ?_
  obtain ⟨g1, h⟩ := ite_e h
  obtain ⟨r2, er2, h⟩ := bd1_e h
  refine u_cVI (As := [.int (zO a2)]) (rest := []) E S zcw_yX12_toldLife zw_8_170 zq_6_5 zw_8_168 zck_12.1 rfl g1 (Mo_toldLife_c l G fu top L M a0 a2 ha0 ha2 er2) (zrm_ok (by decide) (by decide)) ⟨Nat.le_refl 0, Nat.le_refl 0⟩ rfl (Nat.zero_le 8) hl.size rfl (Mo_nature_dc.at 2 rfl) (fun H locs hr2 S3 => ?_)
  refine u_ist_n (y := r2) (vs' := [some (zR G.2.2.1 a0), some (zR G.2.2.1 a1), some (.int (zO a2)), some (.int (zO r2)), none, none]) E rfl (Mo_nature_dc.at 3 rfl) hl (by decide) rfl (fun ls hl => ?_)
  refine u_al_n (x := a1) E (Mo_nature_dc.at 4 rfl) hl rfl ?_
  refine r_bipush E (Mo_nature_dc.at 5 rfl) rfl ?_
  refine u_il_n (x := r2) E (Mo_nature_dc.at 6 rfl) hl rfl ?_
  refine r_iadd E (Mo_nature_dc.at 7 rfl) ?_
  obtain ⟨g4, h⟩ := ite_e h
  obtain ⟨g5, h⟩ := ite_e h
  refine r_iald E S3 g4 g5 (Mo_nature_dc.at 8 rfl) ?_
  obtain ⟨v6, ev6, h⟩ := lt1_e h
  have hv6 := inR_eq ev6 (S3.1.inR _ _)
  refine u_ist (y := v6) (vs' := [some (zR G.2.2.1 a0), some (zR G.2.2.1 a1), some (.int (zO a2)), some (.int (zO r2)), some (.int (zO v6)), none]) E ev6 (Mo_nature_dc.at 9 rfl) hl (by decide) rfl (fun ls hl => ?_)
  refine r_iconst E (Mo_nature_dc.at 10 rfl) ?_
  refine u_ist (y := 0) (vs' := [some (zR G.2.2.1 a0), some (zR G.2.2.1 a1), some (.int (zO a2)), some (.int (zO r2)), some (.int (zO v6)), some (.int (zO 0))]) E rfl (Mo_nature_dc.at 11 rfl) hl (by decide) rfl (fun ls hl => ?_)
  exact Mo_nature_l17_w E fu _ a0 a1 a2 r2 v6 0 ha0 ha1 ha2 hr2 hv6 (show InR 0 by decide) _ _ _ S3 (hl.sub (And.intro rfl (And.intro rfl (And.intro rfl (And.intro rfl (And.intro rfl (And.intro rfl True.intro))))))) h
theorem Mo_nature_c (l : Launch) (G : zG) (fu : Nat) (top : Int) (L : zL) (M : zM) (a0 : Int) (a1 : Int) (a2 : Int) {res : Int} (ha0 : InR a0) (ha1 : InR a1) (ha2 : InR a2) (h : Mo_nature fu L M a0 a1 a2 = some res) : Met l yX12_nature (Cond.code yX12_nature cX12_nature 6 (some .int) :: zTB) (zrm 3 0 0) (va_Pc [zR G.2.2.1 a0, zR G.2.2.1 a1, .int (zO a2)] (zPre G top L M)) (zQ G top L M (some (.int (zO res))) (InR res)) 0 0 (zA G) :=
  z_met (by decide +kernel) (by simp [zR_cat, zcat_I, zcat_S]) (Nat.le_of_ble_eq_true rfl) fun p e s m below meth c ls E hn S hl => Mo_nature_w E ha0 ha1 ha2 S (hl.sub (And.intro rfl (And.intro rfl (And.intro rfl True.intro)))) h
end
theorem Mo_closes_dc : zDL cX12_closes [(0, .aload_n 0, 1, 1), (1, .iconst 0, 1, 2), (2, .putfield 66, 3, 5), (5, .aload_n 0, 1, 6), (6, .iload_n 1, 1, 7), (7, .invokevirtual 282, 3, 10), (10, .ifCond .eq 13, 3, 13), (13, .iload_n 2, 1, 14), (14, .i2l, 1, 15), (15, .lconst 0, 1, 16), (16, .lconst 1, 1, 17), (17, .invokestatic 76, 3, 20), (20, .ifCond .ne 5, 3, 23), (23, .iconst (-1), 1, 24), (24, .ireturn, 1, 25), (25, .iload_n 2, 1, 26), (26, .ifCond .ne 15, 3, 29), (29, .aload_n 0, 1, 30), (30, .aload_n 0, 1, 31), (31, .getfield 31, 3, 34), (34, .iload_n 1, 1, 35), (35, .invokevirtual 426, 3, 38), (38, .goto 12, 3, 41), (41, .aload_n 0, 1, 42), (42, .aload_n 0, 1, 43), (43, .getfield 31, 3, 46), (46, .iload_n 1, 1, 47), (47, .invokevirtual 429, 3, 50), (50, .ireturn, 1, 51)] := zDL.of (by decide +kernel)
section
variable {p : Program} {l : Launch} {e : Env} {s : State} {m : MethodId} {args : Array Value} {below : List Frame} {meth : Method} {c : Code} {G : zG} {top : Int} {L : zL} {fu : Nat}
theorem Mo_closes_w (E : zEv p m c cX12_closes 3 s args RX12 meth (some .int) G) {res : (zM × Int)} {M : zM} {a0 : Int} {a1 : Int} {a2 : Int} {H : Heap} {locs : List Loc} {ls : Array Slot} (ha0 : InR a0) (ha1 : InR a1) (ha2 : InR a2) (S : zS G top L M s H locs) (hl : zLV ls 3 [some (zR G.2.2.1 a0), some (.int (zO a1)), some (.int (zO a2))]) (h : Mo_closes fu L M a0 a1 a2 = some res) : W p l e (zrm 48 0 0) s m args below meth c H locs 0 0 (MQ below (zQ G top L res.1 (some (.int (zO res.2))) (InR res.2)) args s 0 0 (zA G)) (F0 m 0 ls []) := by
  unfold Mo_closes at h
  refine u_al_n (x := a0) E (Mo_closes_dc.at 0 rfl) hl rfl ?_
  refine r_iconst E (Mo_closes_dc.at 1 rfl) ?_
  obtain ⟨g1, h⟩ := ite_e h
  obtain ⟨M2, eM2, h⟩ := lt1_e h
  refine u_pI E eM2 zf_12_0 S g1 (show InR 0 by decide) (Or.inl rfl) rfl zw_6_207 (Mo_closes_dc.at 2 rfl) (fun H locs S3 => ?_)
  refine u_al_n (x := a0) E (Mo_closes_dc.at 3 rfl) hl rfl ?_
  refine u_il_n (x := a1) E (Mo_closes_dc.at 4 rfl) hl rfl ?_
  obtain ⟨r4, er4, h⟩ := bd1_e h
  refine u_cVI (As := [.int (zO a1)]) (rest := []) E S3 zcw_yX12_isGift zw_8_77 zq_5_12 zw_8_75 zck_12.1 rfl g1 (Mo_isGift_c l G fu top L M2 a0 a1 ha0 ha1 er4) (zrm_ok (by decide) (by decide)) ⟨Nat.le_refl 0, Nat.le_refl 0⟩ rfl (Nat.zero_le 8) hl.size rfl (Mo_closes_dc.at 5 rfl) (fun H locs hr4 S5 => ?_)
  refine r_if_eq (tgt := 23) E (inR_01 hr4) (Mo_closes_dc.at 6 rfl) (by decide) (fun q => ?_) (fun q => ?_)
  · have h := ite_t h q
    refine r_iconst E (Mo_closes_dc.at 13 rfl) ?_
    cases h
    exact r_iret E S5 (show InR (-1) by decide) (Mo_closes_dc.at 14 rfl)
  · have h := ite_f h q
    refine u_il_n (x := a2) E (Mo_closes_dc.at 7 rfl) hl rfl ?_
    refine r_i2l E ha2 (Mo_closes_dc.at 8 rfl) ?_
    refine r_lconst (x := 0) E (Mo_closes_dc.at 9 rfl) rfl ?_
    refine r_lconst (x := 1) E (Mo_closes_dc.at 10 rfl) rfl ?_
    obtain ⟨r6, er6, h⟩ := bd1_e h
    refine u_cSI (As := [.long (Int64.ofInt a2), .long (Int64.ofInt 0), .long (Int64.ofInt 1)]) (rest := []) E S5 zcw_yX12_in zw_7_134 zw_7_133 (Mo_in_c l G fu top L M2 a2 0 1 ha2 (show InR 0 by decide) (show InR 1 by decide) er6) (zrm_ok (by decide) (by decide)) ⟨Nat.le_refl 0, Nat.le_refl 0⟩ rfl (Nat.zero_le 8) hl.size rfl (Mo_closes_dc.at 11 rfl) (fun H locs hr6 S7 => ?_)
    refine r_if_ne (tgt := 25) E (inR_01 hr6) (Mo_closes_dc.at 12 rfl) (by decide) (fun q => ?_) (fun q => ?_)
    · have h := ite_t h q
      refine r_iconst E (Mo_closes_dc.at 13 rfl) ?_
      cases h
      exact r_iret E S7 (show InR (-1) by decide) (Mo_closes_dc.at 14 rfl)
    · have h := ite_f h q
      refine u_il_n (x := a2) E (Mo_closes_dc.at 15 rfl) hl rfl ?_
      refine r_if_ne (tgt := 41) E ha2 (Mo_closes_dc.at 16 rfl) (by decide) (fun q => ?_) (fun q => ?_)
      · have h := ite_t h q
        refine u_al_n (x := a0) E (Mo_closes_dc.at 17 rfl) hl rfl ?_
        refine u_al_n (x := a0) E (Mo_closes_dc.at 18 rfl) hl rfl ?_
        refine u_gR E zf_12_18 S7 g1 zw_6_225 (Mo_closes_dc.at 19 rfl) ?_
        refine u_il_n (x := a1) E (Mo_closes_dc.at 20 rfl) hl rfl ?_
        obtain ⟨M9, r8, er8, h⟩ := bd2_e h
        refine u_cVI (As := [zR G.2.2.1 (M2 a0 18), .int (zO a1)]) (rest := []) E S7 zcw_yX12_convenience zw_8_200 zq_6_10 zw_8_198 zck_12.1 rfl g1 (Mo_convenience_c l G fu top L M2 a0 (M2 a0 18) a1 ha0 (S7.1.inR _ _) ha1 er8) (zrm_ok (by decide) (by decide)) ⟨Nat.le_refl 0, Nat.le_refl 0⟩ rfl (Nat.zero_le 8) hl.size rfl (Mo_closes_dc.at 21 rfl) (fun H locs hr8 S10 => ?_)
        refine r_goto (tgt := 50) E (Mo_closes_dc.at 22 rfl) (by decide) ?_
        cases h
        exact r_iret E S10 hr8 (Mo_closes_dc.at 28 rfl)
      · have h := ite_f h q
        refine u_al_n (x := a0) E (Mo_closes_dc.at 23 rfl) hl rfl ?_
        refine u_al_n (x := a0) E (Mo_closes_dc.at 24 rfl) hl rfl ?_
        refine u_gR E zf_12_18 S7 g1 zw_6_225 (Mo_closes_dc.at 25 rfl) ?_
        refine u_il_n (x := a1) E (Mo_closes_dc.at 26 rfl) hl rfl ?_
        obtain ⟨r11, er11, h⟩ := bd1_e h
        refine u_cVI (As := [zR G.2.2.1 (M2 a0 18), .int (zO a1)]) (rest := []) E S7 zcw_yX12_nature zw_9_18 zq_7_6 zw_9_16 zck_12.1 rfl g1 (Mo_nature_c l G fu top L M2 a0 (M2 a0 18) a1 ha0 (S7.1.inR _ _) ha1 er11) (zrm_ok (by decide) (by decide)) ⟨Nat.le_refl 0, Nat.le_refl 0⟩ rfl (Nat.zero_le 8) hl.size rfl (Mo_closes_dc.at 27 rfl) (fun H locs hr11 S12 => ?_)
        cases h
        exact r_iret E S12 hr11 (Mo_closes_dc.at 28 rfl)
theorem Mo_closes_c (l : Launch) (G : zG) (fu : Nat) (top : Int) (L : zL) (M : zM) (a0 : Int) (a1 : Int) (a2 : Int) {res : (zM × Int)} (ha0 : InR a0) (ha1 : InR a1) (ha2 : InR a2) (h : Mo_closes fu L M a0 a1 a2 = some res) : Met l yX12_closes (Cond.code yX12_closes cX12_closes 3 (some .int) :: zTB) (zrm 48 0 0) (va_Pc [zR G.2.2.1 a0, .int (zO a1), .int (zO a2)] (zPre G top L M)) (zQ G top L res.1 (some (.int (zO res.2))) (InR res.2)) 0 0 (zA G) :=
  z_met (by decide +kernel) (by simp [zR_cat, zcat_I, zcat_S]) (Nat.le_of_ble_eq_true rfl) fun p e s m below meth c ls E hn S hl => Mo_closes_w E ha0 ha1 ha2 S (hl.sub (And.intro rfl (And.intro rfl (And.intro rfl True.intro)))) h
end
theorem Mo_counted_dc : zDL cX12_counted [(0, .iconst 0, 1, 1), (1, .istore 4, 2, 3), (3, .aload_n 0, 1, 4), (4, .aload_n 1, 1, 5), (5, .invokevirtual 315, 3, 8), (8, .istore 5, 2, 10), (10, .iconst 0, 1, 11), (11, .istore 6, 2, 13), (13, .iload 6, 2, 15), (15, .aload_n 1, 1, 16), (16, .iconst 1, 1, 17), (17, .iaload, 1, 18), (18, .if_icmp .ge 87, 3, 21), (21, .aload_n 0, 1, 22), (22, .aload_n 1, 1, 23), (23, .iload_n 2, 1, 24), (24, .iload 6, 2, 26), (26, .invokevirtual 435, 3, 29), (29, .istore 7, 2, 31), (31, .iload 7, 2, 33), (33, .bipush (-3), 2, 35), (35, .if_icmp .ne 7, 3, 38), (38, .iconst (-1), 1, 39), (39, .goto 42, 3, 42), (42, .iload 7, 2, 44), (44, .bipush (-2), 2, 46), (46, .if_icmp .ne 7, 3, 49), (49, .iconst 2, 1, 50), (50, .goto 31, 3, 53), (53, .iload 7, 2, 55), (55, .iconst (-1), 1, 56), (56, .if_icmp .ne 7, 3, 59), (59, .iconst 3, 1, 60), (60, .goto 21, 3, 63), (63, .iload 5, 2, 65), (65, .iconst (-1), 1, 66), (66, .if_icmp .eq 14, 3, 69), (69, .iload 7, 2, 71), (71, .iload 5, 2, 73), (73, .if_icmp .le 7, 3, 76), (76, .iconst 1, 1, 77), (77, .goto 4, 3, 80), (80, .iconst 0, 1, 81), (81, .istore 8, 2, 83), (83, .iload 4, 2, 85), (85, .iload 8, 2, 87), (87, .iload_n 3, 1, 88), (88, .if_icmp .ne 7, 3, 91), (91, .iconst 1, 1, 92), (92, .goto 4, 3, 95), (95, .iconst 0, 1, 96), (96, .iadd, 1, 97), (97, .istore 4, 2, 99), (99, .iinc 6 1, 3, 102), (102, .goto (-89), 3, 105), (105, .iload 4, 2, 107), (107, .ireturn, 1, 108)] := zDL.of (by decide +kernel)
section
variable {p : Program} {l : Launch} {e : Env} {s : State} {m : MethodId} {args : Array Value} {below : List Frame} {meth : Method} {c : Code} {G : zG} {top : Int} {L : zL} {fu : Nat}
theorem Mo_counted_b81_w (E : zEv p m c cX12_counted 9 s args RX12 meth (some .int) G) {res : (zM × Int)} {k13 : zM → Int → Int → Int → Int → Int → Int → Int → Option (zM × Int)} (hk13 : ∀ (M : zM) (x0 : Int) (x1 : Int) (x2 : Int) (x3 : Int) (x4 : Int) (x5 : Int) (x6 : Int), InR x0 → InR x1 → InR x2 → InR x3 → InR x4 → InR x5 → InR x6 → ∀ (H : Heap) (locs : List Loc) (ls : Array Slot), zS G top L M s H locs → zLV ls 9 [some (zR G.2.2.1 x0), some (zR G.2.2.1 x1), some (.int (zO x2)), some (.int (zO x3)), some (.int (zO x4)), some (.int (zO x5)), some (.int (zO x6)), none, none] → k13 M x0 x1 x2 x3 x4 x5 x6 = some res → W p l e (zrm 50 0 0) s m args below meth c H locs 0 0 (MQ below (zQ G top L res.1 (some (.int (zO res.2))) (InR res.2)) args s 0 0 (zA G)) (F0 m 13 ls [])) {M : zM} {x0 : Int} {x1 : Int} {x2 : Int} {x3 : Int} {x4 : Int} {x5 : Int} {x6 : Int} {y0 : Int} {H : Heap} {locs : List Loc} {ls : Array Slot} (hx0 : InR x0) (hx1 : InR x1) (hx2 : InR x2) (hx3 : InR x3) (hx4 : InR x4) (hx5 : InR x5) (hx6 : InR x6) (hy0 : InR y0) (S : zS G top L M s H locs) (hl : zLV ls 9 [some (zR G.2.2.1 x0), some (zR G.2.2.1 x1), some (.int (zO x2)), some (.int (zO x3)), some (.int (zO x4)), some (.int (zO x5)), some (.int (zO x6)), none, none]) (h : Mo_counted_b81 fu k13 L M x0 x1 x2 x3 x4 x5 x6 y0 = some res) : W p l e (zrm 50 0 0) s m args below meth c H locs 0 0 (MQ below (zQ G top L res.1 (some (.int (zO res.2))) (InR res.2)) args s 0 0 (zA G)) (F0 m 81 ls [.int (zO y0)]) := by
  unfold Mo_counted_b81 at h
  refine u_ist (y := y0) (vs' := [some (zR G.2.2.1 x0), some (zR G.2.2.1 x1), some (.int (zO x2)), some (.int (zO x3)), some (.int (zO x4)), some (.int (zO x5)), some (.int (zO x6)), none, some (.int (zO y0))]) E rfl (Mo_counted_dc.at 43 rfl) hl (by decide) rfl (fun ls hl => ?_)
  refine u_il (x := x4) E (Mo_counted_dc.at 44 rfl) hl rfl ?_
  refine u_il (x := y0) E (Mo_counted_dc.at 45 rfl) hl rfl ?_
  refine u_il_n (x := x3) E (Mo_counted_dc.at 46 rfl) hl rfl ?_
  refine r_icmp_ne (tgt := 95) E hy0 hx3 (Mo_counted_dc.at 47 rfl) (by decide) (fun q => ?_) (fun q => ?_)
  · have h := ite_t h q
    refine r_iconst E (Mo_counted_dc.at 48 rfl) ?_
    refine r_goto (tgt := 96) E (Mo_counted_dc.at 49 rfl) (by decide) ?_
    refine r_iadd E (Mo_counted_dc.at 51 rfl) ?_
    obtain ⟨v10, ev10, h⟩ := lt1_e h
    have hv10 := inR_eq ev10 (inR_w32 _)
    refine u_ist (y := v10) (vs' := [some (zR G.2.2.1 x0), some (zR G.2.2.1 x1), some (.int (zO x2)), some (.int (zO x3)), some (.int (zO v10)), some (.int (zO x5)), some (.int (zO x6)), none, some (.int (zO y0))]) E ev10 (Mo_counted_dc.at 52 rfl) hl (by decide) rfl (fun ls hl => ?_)
    obtain ⟨v11, ev11, h⟩ := lt1_e h
    have hv11 := inR_eq ev11 (inR_w32 _)
    refine u_iinc (y := v11) (vs' := [some (zR G.2.2.1 x0), some (zR G.2.2.1 x1), some (.int (zO x2)), some (.int (zO x3)), some (.int (zO v10)), some (.int (zO x5)), some (.int (zO v11)), none, some (.int (zO y0))]) E ev11 (Mo_counted_dc.at 53 rfl) hl rfl (by decide) rfl (fun ls hl => ?_)
    refine r_goto (tgt := 13) E (Mo_counted_dc.at 54 rfl) (by decide) ?_
    exact hk13 _ x0 x1 x2 x3 v10 x5 v11 hx0 hx1 hx2 hx3 hv10 hx5 hv11 _ _ _ S (hl.sub (And.intro rfl (And.intro rfl (And.intro rfl (And.intro rfl (And.intro rfl (And.intro rfl (And.intro rfl True.intro)))))))) h
  · have h := ite_f h q
    refine r_iconst E (Mo_counted_dc.at 50 rfl) ?_
    refine r_iadd E (Mo_counted_dc.at 51 rfl) ?_
    obtain ⟨v12, ev12, h⟩ := lt1_e h
    have hv12 := inR_eq ev12 (inR_w32 _)
    refine u_ist (y := v12) (vs' := [some (zR G.2.2.1 x0), some (zR G.2.2.1 x1), some (.int (zO x2)), some (.int (zO x3)), some (.int (zO v12)), some (.int (zO x5)), some (.int (zO x6)), none, some (.int (zO y0))]) E ev12 (Mo_counted_dc.at 52 rfl) hl (by decide) rfl (fun ls hl => ?_)
    obtain ⟨v13, ev13, h⟩ := lt1_e h
    have hv13 := inR_eq ev13 (inR_w32 _)
    refine u_iinc (y := v13) (vs' := [some (zR G.2.2.1 x0), some (zR G.2.2.1 x1), some (.int (zO x2)), some (.int (zO x3)), some (.int (zO v12)), some (.int (zO x5)), some (.int (zO v13)), none, some (.int (zO y0))]) E ev13 (Mo_counted_dc.at 53 rfl) hl rfl (by decide) rfl (fun ls hl => ?_)
    refine r_goto (tgt := 13) E (Mo_counted_dc.at 54 rfl) (by decide) ?_
    exact hk13 _ x0 x1 x2 x3 v12 x5 v13 hx0 hx1 hx2 hx3 hv12 hx5 hv13 _ _ _ S (hl.sub (And.intro rfl (And.intro rfl (And.intro rfl (And.intro rfl (And.intro rfl (And.intro rfl (And.intro rfl True.intro)))))))) h
theorem Mo_counted_s13_w (E : zEv p m c cX12_counted 9 s args RX12 meth (some .int) G) {res : (zM × Int)} {k13 : zM → Int → Int → Int → Int → Int → Int → Int → Option (zM × Int)} (hk13 : ∀ (M : zM) (x0 : Int) (x1 : Int) (x2 : Int) (x3 : Int) (x4 : Int) (x5 : Int) (x6 : Int), InR x0 → InR x1 → InR x2 → InR x3 → InR x4 → InR x5 → InR x6 → ∀ (H : Heap) (locs : List Loc) (ls : Array Slot), zS G top L M s H locs → zLV ls 9 [some (zR G.2.2.1 x0), some (zR G.2.2.1 x1), some (.int (zO x2)), some (.int (zO x3)), some (.int (zO x4)), some (.int (zO x5)), some (.int (zO x6)), none, none] → k13 M x0 x1 x2 x3 x4 x5 x6 = some res → W p l e (zrm 50 0 0) s m args below meth c H locs 0 0 (MQ below (zQ G top L res.1 (some (.int (zO res.2))) (InR res.2)) args s 0 0 (zA G)) (F0 m 13 ls [])) {M : zM} {x0 : Int} {x1 : Int} {x2 : Int} {x3 : Int} {x4 : Int} {x5 : Int} {x6 : Int} {H : Heap} {locs : List Loc} {ls : Array Slot} (hx0 : InR x0) (hx1 : InR x1) (hx2 : InR x2) (hx3 : InR x3) (hx4 : InR x4) (hx5 : InR x5) (hx6 : InR x6) (S : zS G top L M s H locs) (hl : zLV ls 9 [some (zR G.2.2.1 x0), some (zR G.2.2.1 x1), some (.int (zO x2)), some (.int (zO x3)), some (.int (zO x4)), some (.int (zO x5)), some (.int (zO x6)), none, none]) (h : Mo_counted_s13 fu k13 L M x0 x1 x2 x3 x4 x5 x6 = some res) : W p l e (zrm 50 0 0) s m args below meth c H locs 0 0 (MQ below (zQ G top L res.1 (some (.int (zO res.2))) (InR res.2)) args s 0 0 (zA G)) (F0 m 13 ls []) := by
  unfold Mo_counted_s13 at h
  refine u_il (x := x6) E (Mo_counted_dc.at 8 rfl) hl rfl ?_
  refine u_al_n (x := x1) E (Mo_counted_dc.at 9 rfl) hl rfl ?_
  refine r_iconst E (Mo_counted_dc.at 10 rfl) ?_
  obtain ⟨g4, h⟩ := ite_e h
  obtain ⟨g5, h⟩ := ite_e h
  refine r_iald E S g4 g5 (Mo_counted_dc.at 11 rfl) ?_
  refine r_icmp_ge (tgt := 105) E hx6 (S.1.inR _ _) (Mo_counted_dc.at 12 rfl) (by decide) (fun q => ?_) (fun q => ?_)
  · have h := ite_t h q
    refine u_al_n (x := x0) E (Mo_counted_dc.at 13 rfl) hl rfl ?_
    refine u_al_n (x := x1) E (Mo_counted_dc.at 14 rfl) hl rfl ?_
    refine u_il_n (x := x2) E (Mo_counted_dc.at 15 rfl) hl rfl ?_
    refine u_il (x := x6) E (Mo_counted_dc.at 16 rfl) hl rfl ?_
    obtain ⟨g6, h⟩ := ite_e h
    obtain ⟨M8, r7, er7, h⟩ := bd2_e h
    refine u_cVI (As := [zR G.2.2.1 x1, .int (zO x2), .int (zO x6)]) (rest := []) E S zcw_yX12_vestsIn zw_9_10 zq_7_5 zw_9_8 zck_12.1 rfl g6 (Mo_vestsIn_c l G fu top L M x0 x1 x2 x6 hx0 hx1 hx2 hx6 er7) (zrm_ok (by decide) (by decide)) ⟨Nat.le_refl 0, Nat.le_refl 0⟩ rfl (Nat.zero_le 8) hl.size rfl (Mo_counted_dc.at 17 rfl) (fun H locs hr7 S9 => ?_)
    refine u_ist (y := r7) (vs' := [some (zR G.2.2.1 x0), some (zR G.2.2.1 x1), some (.int (zO x2)), some (.int (zO x3)), some (.int (zO x4)), some (.int (zO x5)), some (.int (zO x6)), some (.int (zO r7)), none]) E rfl (Mo_counted_dc.at 18 rfl) hl (by decide) rfl (fun ls hl => ?_)
    refine u_il (x := r7) E (Mo_counted_dc.at 19 rfl) hl rfl ?_
    refine r_bipush E (Mo_counted_dc.at 20 rfl) rfl ?_
    refine r_icmp_ne (tgt := 42) E hr7 (show InR (-3) by decide) (Mo_counted_dc.at 21 rfl) (by decide) (fun q => ?_) (fun q => ?_)
    · have h := ite_t h q
      refine r_iconst E (Mo_counted_dc.at 22 rfl) ?_
      refine r_goto (tgt := 81) E (Mo_counted_dc.at 23 rfl) (by decide) ?_
      exact Mo_counted_b81_w (x0 := x0) (x1 := x1) (x2 := x2) (x3 := x3) (x4 := x4) (x5 := x5) (x6 := x6) (y0 := (-1)) E hk13 hx0 hx1 hx2 hx3 hx4 hx5 hx6 (show InR (-1) by decide) S9 (hl.sub (And.intro rfl (And.intro rfl (And.intro rfl (And.intro rfl (And.intro rfl (And.intro rfl (And.intro rfl True.intro)))))))) h
    · have h := ite_f h q
      refine u_il (x := r7) E (Mo_counted_dc.at 24 rfl) hl rfl ?_
      refine r_bipush E (Mo_counted_dc.at 25 rfl) rfl ?_
      refine r_icmp_ne (tgt := 53) E hr7 (show InR (-2) by decide) (Mo_counted_dc.at 26 rfl) (by decide) (fun q => ?_) (fun q => ?_)
      · have h := ite_t h q
        refine r_iconst E (Mo_counted_dc.at 27 rfl) ?_
        refine r_goto (tgt := 81) E (Mo_counted_dc.at 28 rfl) (by decide) ?_
        exact Mo_counted_b81_w (x0 := x0) (x1 := x1) (x2 := x2) (x3 := x3) (x4 := x4) (x5 := x5) (x6 := x6) (y0 := 2) E hk13 hx0 hx1 hx2 hx3 hx4 hx5 hx6 (show InR 2 by decide) S9 (hl.sub (And.intro rfl (And.intro rfl (And.intro rfl (And.intro rfl (And.intro rfl (And.intro rfl (And.intro rfl True.intro)))))))) h
      · have h := ite_f h q
        refine u_il (x := r7) E (Mo_counted_dc.at 29 rfl) hl rfl ?_
        refine r_iconst E (Mo_counted_dc.at 30 rfl) ?_
        refine r_icmp_ne (tgt := 63) E hr7 (show InR (-1) by decide) (Mo_counted_dc.at 31 rfl) (by decide) (fun q => ?_) (fun q => ?_)
        · have h := ite_t h q
          refine r_iconst E (Mo_counted_dc.at 32 rfl) ?_
          refine r_goto (tgt := 81) E (Mo_counted_dc.at 33 rfl) (by decide) ?_
          exact Mo_counted_b81_w (x0 := x0) (x1 := x1) (x2 := x2) (x3 := x3) (x4 := x4) (x5 := x5) (x6 := x6) (y0 := 3) E hk13 hx0 hx1 hx2 hx3 hx4 hx5 hx6 (show InR 3 by decide) S9 (hl.sub (And.intro rfl (And.intro rfl (And.intro rfl (And.intro rfl (And.intro rfl (And.intro rfl (And.intro rfl True.intro)))))))) h
        · have h := ite_f h q
          refine u_il (x := x5) E (Mo_counted_dc.at 34 rfl) hl rfl ?_
          refine r_iconst E (Mo_counted_dc.at 35 rfl) ?_
          refine r_icmp_eq (tgt := 80) E hx5 (show InR (-1) by decide) (Mo_counted_dc.at 36 rfl) (by decide) (fun q => ?_) (fun q => ?_)
          · have h := ite_t h q
            refine r_iconst E (Mo_counted_dc.at 42 rfl) ?_
            exact Mo_counted_b81_w (x0 := x0) (x1 := x1) (x2 := x2) (x3 := x3) (x4 := x4) (x5 := x5) (x6 := x6) (y0 := 0) E hk13 hx0 hx1 hx2 hx3 hx4 hx5 hx6 (show InR 0 by decide) S9 (hl.sub (And.intro rfl (And.intro rfl (And.intro rfl (And.intro rfl (And.intro rfl (And.intro rfl (And.intro rfl True.intro)))))))) h
          · have h := ite_f h q
            refine u_il (x := r7) E (Mo_counted_dc.at 37 rfl) hl rfl ?_
            refine u_il (x := x5) E (Mo_counted_dc.at 38 rfl) hl rfl ?_
            refine r_icmp_le (tgt := 80) E hr7 hx5 (Mo_counted_dc.at 39 rfl) (by decide) (fun q => ?_) (fun q => ?_)
            · have h := ite_t h q
              refine r_iconst E (Mo_counted_dc.at 40 rfl) ?_
              refine r_goto (tgt := 81) E (Mo_counted_dc.at 41 rfl) (by decide) ?_
              exact Mo_counted_b81_w (x0 := x0) (x1 := x1) (x2 := x2) (x3 := x3) (x4 := x4) (x5 := x5) (x6 := x6) (y0 := 1) E hk13 hx0 hx1 hx2 hx3 hx4 hx5 hx6 (show InR 1 by decide) S9 (hl.sub (And.intro rfl (And.intro rfl (And.intro rfl (And.intro rfl (And.intro rfl (And.intro rfl (And.intro rfl True.intro)))))))) h
            · have h := ite_f h q
              refine r_iconst E (Mo_counted_dc.at 42 rfl) ?_
              exact Mo_counted_b81_w (x0 := x0) (x1 := x1) (x2 := x2) (x3 := x3) (x4 := x4) (x5 := x5) (x6 := x6) (y0 := 0) E hk13 hx0 hx1 hx2 hx3 hx4 hx5 hx6 (show InR 0 by decide) S9 (hl.sub (And.intro rfl (And.intro rfl (And.intro rfl (And.intro rfl (And.intro rfl (And.intro rfl (And.intro rfl True.intro)))))))) h
  · have h := ite_f h q
    refine u_il (x := x4) E (Mo_counted_dc.at 55 rfl) hl rfl ?_
    cases h
    exact r_iret E S hx4 (Mo_counted_dc.at 56 rfl)
theorem Mo_counted_l13_w (E : zEv p m c cX12_counted 9 s args RX12 meth (some .int) G) {res : (zM × Int)} : ∀ (n : Nat) (M : zM) (x0 : Int) (x1 : Int) (x2 : Int) (x3 : Int) (x4 : Int) (x5 : Int) (x6 : Int), InR x0 → InR x1 → InR x2 → InR x3 → InR x4 → InR x5 → InR x6 → ∀ (H : Heap) (locs : List Loc) (ls : Array Slot), zS G top L M s H locs → zLV ls 9 [some (zR G.2.2.1 x0), some (zR G.2.2.1 x1), some (.int (zO x2)), some (.int (zO x3)), some (.int (zO x4)), some (.int (zO x5)), some (.int (zO x6)), none, none] → Mo_counted_l13 fu L n M x0 x1 x2 x3 x4 x5 x6 = some res → W p l e (zrm 50 0 0) s m args below meth c H locs 0 0 (MQ below (zQ G top L res.1 (some (.int (zO res.2))) (InR res.2)) args s 0 0 (zA G)) (F0 m 13 ls [])
  | 0, _, _, _, _, _, _, _, _ => fun _ _ _ _ _ _ _ _ _ _ _ _ h => (by cases h)
  | n + 1, M, x0, x1, x2, x3, x4, x5, x6 => fun hx0 hx1 hx2 hx3 hx4 hx5 hx6 H locs ls S hl h => Mo_counted_s13_w E (fun M x0 x1 x2 x3 x4 x5 x6 hx0 hx1 hx2 hx3 hx4 hx5 hx6 H locs ls S hl h => Mo_counted_l13_w E n M x0 x1 x2 x3 x4 x5 x6 hx0 hx1 hx2 hx3 hx4 hx5 hx6 H locs ls S hl h) hx0 hx1 hx2 hx3 hx4 hx5 hx6 S hl h
theorem Mo_counted_w (E : zEv p m c cX12_counted 9 s args RX12 meth (some .int) G) {res : (zM × Int)} {M : zM} {a0 : Int} {a1 : Int} {a2 : Int} {a3 : Int} {H : Heap} {locs : List Loc} {ls : Array Slot} (ha0 : InR a0) (ha1 : InR a1) (ha2 : InR a2) (ha3 : InR a3) (S : zS G top L M s H locs) (hl : zLV ls 9 [some (zR G.2.2.1 a0), some (zR G.2.2.1 a1), some (.int (zO a2)), some (.int (zO a3)), none, none, none, none, none]) (h : Mo_counted fu L M a0 a1 a2 a3 = some res) : W p l e (zrm 50 0 0) s m args below meth c H locs 0 0 (MQ below (zQ G top L res.1 (some (.int (zO res.2))) (InR res.2)) args s 0 0 (zA G)) (F0 m 0 ls []) := by
  unfold Mo_counted at h
  refine r_iconst E (Mo_counted_dc.at 0 rfl) ?_
  refine u_ist (y := 0) (vs' := [some (zR G.2.2.1 a0), some (zR G.2.2.1 a1), some (.int (zO a2)), some (.int (zO a3)), some (.int (zO 0)), none, none, none, none]) E rfl (Mo_counted_dc.at 1 rfl) hl (by decide) rfl (fun ls hl => ?_)
  refine u_al_n (x := a0) E (Mo_counted_dc.at 2 rfl) hl rfl ?_
  refine u_al_n (x := a1) E (Mo_counted_dc.at 3 rfl) hl rfl ?_
  obtain ⟨g1, h⟩ := ite_e h
  obtain ⟨r2, er2, h⟩ := bd1_e h
  refine u_cVI (As := [zR G.2.2.1 a1]) (rest := []) E S zcw_yX12_end_ zw_8_128 zq_5_15 zw_8_126 zck_12.1 rfl g1 (Mo_end1_c l G fu top L M a0 a1 ha0 ha1 er2) (zrm_ok (by decide) (by decide)) ⟨Nat.le_refl 0, Nat.le_refl 0⟩ rfl (Nat.zero_le 8) hl.size rfl (Mo_counted_dc.at 4 rfl) (fun H locs hr2 S3 => ?_)
  refine u_ist (y := r2) (vs' := [some (zR G.2.2.1 a0), some (zR G.2.2.1 a1), some (.int (zO a2)), some (.int (zO a3)), some (.int (zO 0)), some (.int (zO r2)), none, none, none]) E rfl (Mo_counted_dc.at 5 rfl) hl (by decide) rfl (fun ls hl => ?_)
  refine r_iconst E (Mo_counted_dc.at 6 rfl) ?_
  refine u_ist (y := 0) (vs' := [some (zR G.2.2.1 a0), some (zR G.2.2.1 a1), some (.int (zO a2)), some (.int (zO a3)), some (.int (zO 0)), some (.int (zO r2)), some (.int (zO 0)), none, none]) E rfl (Mo_counted_dc.at 7 rfl) hl (by decide) rfl (fun ls hl => ?_)
  exact Mo_counted_l13_w E fu _ a0 a1 a2 a3 0 r2 0 ha0 ha1 ha2 ha3 (show InR 0 by decide) hr2 (show InR 0 by decide) _ _ _ S3 (hl.sub (And.intro rfl (And.intro rfl (And.intro rfl (And.intro rfl (And.intro rfl (And.intro rfl (And.intro rfl True.intro)))))))) h
theorem Mo_counted_c (l : Launch) (G : zG) (fu : Nat) (top : Int) (L : zL) (M : zM) (a0 : Int) (a1 : Int) (a2 : Int) (a3 : Int) {res : (zM × Int)} (ha0 : InR a0) (ha1 : InR a1) (ha2 : InR a2) (ha3 : InR a3) (h : Mo_counted fu L M a0 a1 a2 a3 = some res) : Met l yX12_counted (Cond.code yX12_counted cX12_counted 9 (some .int) :: zTB) (zrm 50 0 0) (va_Pc [zR G.2.2.1 a0, zR G.2.2.1 a1, .int (zO a2), .int (zO a3)] (zPre G top L M)) (zQ G top L res.1 (some (.int (zO res.2))) (InR res.2)) 0 0 (zA G) :=
  z_met (by decide +kernel) (by simp [zR_cat, zcat_I, zcat_S]) (Nat.le_of_ble_eq_true rfl) fun p e s m below meth c ls E hn S hl => Mo_counted_w E ha0 ha1 ha2 ha3 S (hl.sub (And.intro rfl (And.intro rfl (And.intro rfl (And.intro rfl True.intro))))) h
end
theorem Mo_isClosed_dc : zDL cX12_isClosed [(0, .aload_n 0, 1, 1), (1, .iload_n 2, 1, 2), (2, .invokevirtual 360, 3, 5), (5, .ifCond .eq 23, 3, 8), (8, .aload_n 0, 1, 9), (9, .aload_n 1, 1, 10), (10, .iload_n 2, 1, 11), (11, .invokevirtual 426, 3, 14), (14, .iconst (-1), 1, 15), (15, .if_icmp .ne 13, 3, 18), (18, .aload_n 0, 1, 19), (19, .aload_n 1, 1, 20), (20, .iload_n 2, 1, 21), (21, .invokevirtual 429, 3, 24), (24, .iconst (-1), 1, 25), (25, .if_icmp .eq 7, 3, 28), (28, .iconst 1, 1, 29), (29, .goto 4, 3, 32), (32, .iconst 0, 1, 33), (33, .ireturn, 1, 34)] := zDL.of (by decide +kernel)
section
variable {p : Program} {l : Launch} {e : Env} {s : State} {m : MethodId} {args : Array Value} {below : List Frame} {meth : Method} {c : Code} {G : zG} {top : Int} {L : zL} {fu : Nat}
theorem Mo_isClosed_w (E : zEv p m c cX12_isClosed 3 s args RX12 meth (some .boolean) G) {res : (zM × Int)} {M : zM} {a0 : Int} {a1 : Int} {a2 : Int} {H : Heap} {locs : List Loc} {ls : Array Slot} (ha0 : InR a0) (ha1 : InR a1) (ha2 : InR a2) (S : zS G top L M s H locs) (hl : zLV ls 3 [some (zR G.2.2.1 a0), some (zR G.2.2.1 a1), some (.int (zO a2))]) (h : Mo_isClosed fu L M a0 a1 a2 = some res) : W p l e (zrm 48 0 0) s m args below meth c H locs 0 0 (MQ below (zQ G top L res.1 (some (.int (zO res.2))) (0 ≤ res.2 ∧ res.2 ≤ 1)) args s 0 0 (zA G)) (F0 m 0 ls []) := by
  unfold Mo_isClosed at h
  refine u_al_n (x := a0) E (Mo_isClosed_dc.at 0 rfl) hl rfl ?_
  refine u_il_n (x := a2) E (Mo_isClosed_dc.at 1 rfl) hl rfl ?_
  obtain ⟨g1, h⟩ := ite_e h
  obtain ⟨r2, er2, h⟩ := bd1_e h
  refine u_cVI (As := [.int (zO a2)]) (rest := []) E S zcw_yX12_to zw_8_163 zq_6_4 zw_8_161 zck_12.1 rfl g1 (Mo_to_c l G fu top L M a0 a2 ha0 ha2 er2) (zrm_ok (by decide) (by decide)) ⟨Nat.le_refl 0, Nat.le_refl 0⟩ rfl (Nat.zero_le 8) hl.size rfl (Mo_isClosed_dc.at 2 rfl) (fun H locs hr2 S3 => ?_)
  refine r_if_eq (tgt := 28) E hr2 (Mo_isClosed_dc.at 3 rfl) (by decide) (fun q => ?_) (fun q => ?_)
  · have h := ite_t h q
    refine r_iconst E (Mo_isClosed_dc.at 16 rfl) ?_
    refine r_goto (tgt := 33) E (Mo_isClosed_dc.at 17 rfl) (by decide) ?_
    cases h
    exact r_zret E S3 z01_1 z01_1 (Mo_isClosed_dc.at 19 rfl)
  · have h := ite_f h q
    refine u_al_n (x := a0) E (Mo_isClosed_dc.at 4 rfl) hl rfl ?_
    refine u_al_n (x := a1) E (Mo_isClosed_dc.at 5 rfl) hl rfl ?_
    refine u_il_n (x := a2) E (Mo_isClosed_dc.at 6 rfl) hl rfl ?_
    obtain ⟨M5, r4, er4, h⟩ := bd2_e h
    refine u_cVI (As := [zR G.2.2.1 a1, .int (zO a2)]) (rest := []) E S3 zcw_yX12_convenience zw_8_200 zq_6_10 zw_8_198 zck_12.1 rfl g1 (Mo_convenience_c l G fu top L M a0 a1 a2 ha0 ha1 ha2 er4) (zrm_ok (by decide) (by decide)) ⟨Nat.le_refl 0, Nat.le_refl 0⟩ rfl (Nat.zero_le 8) hl.size rfl (Mo_isClosed_dc.at 7 rfl) (fun H locs hr4 S6 => ?_)
    refine r_iconst E (Mo_isClosed_dc.at 8 rfl) ?_
    refine r_icmp_ne (tgt := 28) E hr4 (show InR (-1) by decide) (Mo_isClosed_dc.at 9 rfl) (by decide) (fun q => ?_) (fun q => ?_)
    · have h := ite_t h q
      refine u_al_n (x := a0) E (Mo_isClosed_dc.at 10 rfl) hl rfl ?_
      refine u_al_n (x := a1) E (Mo_isClosed_dc.at 11 rfl) hl rfl ?_
      refine u_il_n (x := a2) E (Mo_isClosed_dc.at 12 rfl) hl rfl ?_
      obtain ⟨r7, er7, h⟩ := bd1_e h
      refine u_cVI (As := [zR G.2.2.1 a1, .int (zO a2)]) (rest := []) E S6 zcw_yX12_nature zw_9_18 zq_7_6 zw_9_16 zck_12.1 rfl g1 (Mo_nature_c l G fu top L M5 a0 a1 a2 ha0 ha1 ha2 er7) (zrm_ok (by decide) (by decide)) ⟨Nat.le_refl 0, Nat.le_refl 0⟩ rfl (Nat.zero_le 8) hl.size rfl (Mo_isClosed_dc.at 13 rfl) (fun H locs hr7 S8 => ?_)
      refine r_iconst E (Mo_isClosed_dc.at 14 rfl) ?_
      refine r_icmp_eq (tgt := 32) E hr7 (show InR (-1) by decide) (Mo_isClosed_dc.at 15 rfl) (by decide) (fun q => ?_) (fun q => ?_)
      · have h := ite_t h q
        refine r_iconst E (Mo_isClosed_dc.at 18 rfl) ?_
        cases h
        exact r_zret E S8 z01_0 z01_0 (Mo_isClosed_dc.at 19 rfl)
      · have h := ite_f h q
        refine r_iconst E (Mo_isClosed_dc.at 16 rfl) ?_
        refine r_goto (tgt := 33) E (Mo_isClosed_dc.at 17 rfl) (by decide) ?_
        cases h
        exact r_zret E S8 z01_1 z01_1 (Mo_isClosed_dc.at 19 rfl)
    · have h := ite_f h q
      refine r_iconst E (Mo_isClosed_dc.at 16 rfl) ?_
      refine r_goto (tgt := 33) E (Mo_isClosed_dc.at 17 rfl) (by decide) ?_
      cases h
      exact r_zret E S6 z01_1 z01_1 (Mo_isClosed_dc.at 19 rfl)
theorem Mo_isClosed_c (l : Launch) (G : zG) (fu : Nat) (top : Int) (L : zL) (M : zM) (a0 : Int) (a1 : Int) (a2 : Int) {res : (zM × Int)} (ha0 : InR a0) (ha1 : InR a1) (ha2 : InR a2) (h : Mo_isClosed fu L M a0 a1 a2 = some res) : Met l yX12_isClosed (Cond.code yX12_isClosed cX12_isClosed 3 (some .boolean) :: zTB) (zrm 48 0 0) (va_Pc [zR G.2.2.1 a0, zR G.2.2.1 a1, .int (zO a2)] (zPre G top L M)) (zQ G top L res.1 (some (.int (zO res.2))) (0 ≤ res.2 ∧ res.2 ≤ 1)) 0 0 (zA G) :=
  z_met (by decide +kernel) (by simp [zR_cat, zcat_I, zcat_S]) (Nat.le_of_ble_eq_true rfl) fun p e s m below meth c ls E hn S hl => Mo_isClosed_w E ha0 ha1 ha2 S (hl.sub (And.intro rfl (And.intro rfl (And.intro rfl True.intro)))) h
end
theorem Mo_stateOf_dc : zDL cX12_stateOf [(0, .aload_n 0, 1, 1), (1, .aload_n 1, 1, 2), (2, .invokevirtual 315, 3, 5), (5, .istore_n 3, 1, 6), (6, .aload_n 0, 1, 7), (7, .aload_n 1, 1, 8), (8, .iload_n 2, 1, 9), (9, .iconst 1, 1, 10), (10, .invokevirtual 438, 3, 13), (13, .ifCond .gt 25, 3, 16), (16, .iload_n 3, 1, 17), (17, .iconst (-1), 1, 18), (18, .if_icmp .eq 22, 3, 21), (21, .aload_n 1, 1, 22), (22, .iconst 0, 1, 23), (23, .iaload, 1, 24), (24, .iload_n 3, 1, 25), (25, .if_icmp .le 15, 3, 28), (28, .aload_n 0, 1, 29), (29, .aload_n 1, 1, 30), (30, .iload_n 2, 1, 31), (31, .iconst 3, 1, 32), (32, .invokevirtual 438, 3, 35), (35, .ifCond .le 5, 3, 38), (38, .iconst 2, 1, 39), (39, .ireturn, 1, 40), (40, .aload_n 0, 1, 41), (41, .aload_n 1, 1, 42), (42, .iload_n 2, 1, 43), (43, .invokevirtual 441, 3, 46), (46, .ifCond .eq 17, 3, 49), (49, .aload_n 0, 1, 50), (50, .aload_n 1, 1, 51), (51, .iload_n 2, 1, 52), (52, .iconst 3, 1, 53), (53, .invokevirtual 438, 3, 56), (56, .ifCond .ne 7, 3, 59), (59, .iconst 1, 1, 60), (60, .goto 4, 3, 63), (63, .iconst 0, 1, 64), (64, .istore 4, 2, 66), (66, .iload 4, 2, 68), (68, .ifCond .ne 7, 3, 71), (71, .iconst 0, 1, 72), (72, .goto 18, 3, 75), (75, .aload_n 0, 1, 76), (76, .aload_n 1, 1, 77), (77, .iload_n 2, 1, 78), (78, .iconst 0, 1, 79), (79, .invokevirtual 438, 3, 82), (82, .ifCond .ne 7, 3, 85), (85, .iconst 3, 1, 86), (86, .goto 4, 3, 89), (89, .iconst 1, 1, 90), (90, .ireturn, 1, 91)] := zDL.of (by decide +kernel)
section
variable {p : Program} {l : Launch} {e : Env} {s : State} {m : MethodId} {args : Array Value} {below : List Frame} {meth : Method} {c : Code} {G : zG} {top : Int} {L : zL} {fu : Nat}
theorem Mo_stateOf_b64_w (E : zEv p m c cX12_stateOf 5 s args RX12 meth (some .int) G) {res : (zM × Int)} {M : zM} {x0 : Int} {x1 : Int} {x2 : Int} {y0 : Int} {H : Heap} {locs : List Loc} {ls : Array Slot} (hx0 : InR x0) (hx1 : InR x1) (hx2 : InR x2) (hy0 : InR y0) (S : zS G top L M s H locs) (hl : zLV ls 5 [some (zR G.2.2.1 x0), some (zR G.2.2.1 x1), some (.int (zO x2)), none, none]) (h : Mo_stateOf_b64 fu L M x0 x1 x2 y0 = some res) : W p l e (zrm 51 0 0) s m args below meth c H locs 0 0 (MQ below (zQ G top L res.1 (some (.int (zO res.2))) (InR res.2)) args s 0 0 (zA G)) (F0 m 64 ls [.int (zO y0)]) := by
  unfold Mo_stateOf_b64 at h
  refine u_ist (y := y0) (vs' := [some (zR G.2.2.1 x0), some (zR G.2.2.1 x1), some (.int (zO x2)), none, some (.int (zO y0))]) E rfl (Mo_stateOf_dc.at 40 rfl) hl (by decide) rfl (fun ls hl => ?_)
  refine u_il (x := y0) E (Mo_stateOf_dc.at 41 rfl) hl rfl ?_
  refine r_if_ne (tgt := 75) E hy0 (Mo_stateOf_dc.at 42 rfl) (by decide) (fun q => ?_) (fun q => ?_)
  · have h := ite_t h q
    refine r_iconst E (Mo_stateOf_dc.at 43 rfl) ?_
    refine r_goto (tgt := 90) E (Mo_stateOf_dc.at 44 rfl) (by decide) ?_
    cases h
    exact r_iret E S (show InR 0 by decide) (Mo_stateOf_dc.at 54 rfl)
  · have h := ite_f h q
    refine u_al_n (x := x0) E (Mo_stateOf_dc.at 45 rfl) hl rfl ?_
    refine u_al_n (x := x1) E (Mo_stateOf_dc.at 46 rfl) hl rfl ?_
    refine u_il_n (x := x2) E (Mo_stateOf_dc.at 47 rfl) hl rfl ?_
    refine r_iconst E (Mo_stateOf_dc.at 48 rfl) ?_
    obtain ⟨g11, h⟩ := ite_e h
    obtain ⟨M13, r12, er12, h⟩ := bd2_e h
    refine u_cVI (As := [zR G.2.2.1 x1, .int (zO x2), .int (zO 0)]) (rest := []) E S zcw_yX12_counted zw_9_30 zq_7_8 zw_9_28 zck_12.1 rfl g11 (Mo_counted_c l G fu top L M x0 x1 x2 0 hx0 hx1 hx2 (show InR 0 by decide) er12) (zrm_ok (by decide) (by decide)) ⟨Nat.le_refl 0, Nat.le_refl 0⟩ rfl (Nat.zero_le 8) hl.size rfl (Mo_stateOf_dc.at 49 rfl) (fun H locs hr12 S14 => ?_)
    refine r_if_ne (tgt := 89) E hr12 (Mo_stateOf_dc.at 50 rfl) (by decide) (fun q => ?_) (fun q => ?_)
    · have h := ite_t h q
      refine r_iconst E (Mo_stateOf_dc.at 51 rfl) ?_
      refine r_goto (tgt := 90) E (Mo_stateOf_dc.at 52 rfl) (by decide) ?_
      cases h
      exact r_iret E S14 (show InR 3 by decide) (Mo_stateOf_dc.at 54 rfl)
    · have h := ite_f h q
      refine r_iconst E (Mo_stateOf_dc.at 53 rfl) ?_
      cases h
      exact r_iret E S14 (show InR 1 by decide) (Mo_stateOf_dc.at 54 rfl)
theorem Mo_stateOf_b40_w (E : zEv p m c cX12_stateOf 5 s args RX12 meth (some .int) G) {res : (zM × Int)} {M : zM} {x0 : Int} {x1 : Int} {x2 : Int} {H : Heap} {locs : List Loc} {ls : Array Slot} (hx0 : InR x0) (hx1 : InR x1) (hx2 : InR x2) (S : zS G top L M s H locs) (hl : zLV ls 5 [some (zR G.2.2.1 x0), some (zR G.2.2.1 x1), some (.int (zO x2)), none, none]) (h : Mo_stateOf_b40 fu L M x0 x1 x2 = some res) : W p l e (zrm 51 0 0) s m args below meth c H locs 0 0 (MQ below (zQ G top L res.1 (some (.int (zO res.2))) (InR res.2)) args s 0 0 (zA G)) (F0 m 40 ls []) := by
  unfold Mo_stateOf_b40 at h
  refine u_al_n (x := x0) E (Mo_stateOf_dc.at 26 rfl) hl rfl ?_
  refine u_al_n (x := x1) E (Mo_stateOf_dc.at 27 rfl) hl rfl ?_
  refine u_il_n (x := x2) E (Mo_stateOf_dc.at 28 rfl) hl rfl ?_
  obtain ⟨g7, h⟩ := ite_e h
  obtain ⟨M9, r8, er8, h⟩ := bd2_e h
  refine u_cVI (As := [zR G.2.2.1 x1, .int (zO x2)]) (rest := []) E S zcw_yX12_isClosed zw_9_34 zq_7_9 zw_9_32 zck_12.1 rfl g7 (Mo_isClosed_c l G fu top L M x0 x1 x2 hx0 hx1 hx2 er8) (zrm_ok (by decide) (by decide)) ⟨Nat.le_refl 0, Nat.le_refl 0⟩ rfl (Nat.zero_le 8) hl.size rfl (Mo_stateOf_dc.at 29 rfl) (fun H locs hr8 S10 => ?_)
  refine r_if_eq (tgt := 63) E (inR_01 hr8) (Mo_stateOf_dc.at 30 rfl) (by decide) (fun q => ?_) (fun q => ?_)
  · have h := ite_t h q
    refine r_iconst E (Mo_stateOf_dc.at 39 rfl) ?_
    exact Mo_stateOf_b64_w (x0 := x0) (x1 := x1) (x2 := x2) (y0 := 0) E hx0 hx1 hx2 (show InR 0 by decide) S10 (hl.sub (And.intro rfl (And.intro rfl (And.intro rfl True.intro)))) h
  · have h := ite_f h q
    refine u_al_n (x := x0) E (Mo_stateOf_dc.at 31 rfl) hl rfl ?_
    refine u_al_n (x := x1) E (Mo_stateOf_dc.at 32 rfl) hl rfl ?_
    refine u_il_n (x := x2) E (Mo_stateOf_dc.at 33 rfl) hl rfl ?_
    refine r_iconst E (Mo_stateOf_dc.at 34 rfl) ?_
    obtain ⟨M16, r15, er15, h⟩ := bd2_e h
    refine u_cVI (As := [zR G.2.2.1 x1, .int (zO x2), .int (zO 3)]) (rest := []) E S10 zcw_yX12_counted zw_9_30 zq_7_8 zw_9_28 zck_12.1 rfl g7 (Mo_counted_c l G fu top L M9 x0 x1 x2 3 hx0 hx1 hx2 (show InR 3 by decide) er15) (zrm_ok (by decide) (by decide)) ⟨Nat.le_refl 0, Nat.le_refl 0⟩ rfl (Nat.zero_le 8) hl.size rfl (Mo_stateOf_dc.at 35 rfl) (fun H locs hr15 S17 => ?_)
    refine r_if_ne (tgt := 63) E hr15 (Mo_stateOf_dc.at 36 rfl) (by decide) (fun q => ?_) (fun q => ?_)
    · have h := ite_t h q
      refine r_iconst E (Mo_stateOf_dc.at 37 rfl) ?_
      refine r_goto (tgt := 64) E (Mo_stateOf_dc.at 38 rfl) (by decide) ?_
      exact Mo_stateOf_b64_w (x0 := x0) (x1 := x1) (x2 := x2) (y0 := 1) E hx0 hx1 hx2 (show InR 1 by decide) S17 (hl.sub (And.intro rfl (And.intro rfl (And.intro rfl True.intro)))) h
    · have h := ite_f h q
      refine r_iconst E (Mo_stateOf_dc.at 39 rfl) ?_
      exact Mo_stateOf_b64_w (x0 := x0) (x1 := x1) (x2 := x2) (y0 := 0) E hx0 hx1 hx2 (show InR 0 by decide) S17 (hl.sub (And.intro rfl (And.intro rfl (And.intro rfl True.intro)))) h
theorem Mo_stateOf_w (E : zEv p m c cX12_stateOf 5 s args RX12 meth (some .int) G) {res : (zM × Int)} {M : zM} {a0 : Int} {a1 : Int} {a2 : Int} {H : Heap} {locs : List Loc} {ls : Array Slot} (ha0 : InR a0) (ha1 : InR a1) (ha2 : InR a2) (S : zS G top L M s H locs) (hl : zLV ls 5 [some (zR G.2.2.1 a0), some (zR G.2.2.1 a1), some (.int (zO a2)), none, none]) (h : Mo_stateOf fu L M a0 a1 a2 = some res) : W p l e (zrm 51 0 0) s m args below meth c H locs 0 0 (MQ below (zQ G top L res.1 (some (.int (zO res.2))) (InR res.2)) args s 0 0 (zA G)) (F0 m 0 ls []) := by
  unfold Mo_stateOf at h
  refine u_al_n (x := a0) E (Mo_stateOf_dc.at 0 rfl) hl rfl ?_
  refine u_al_n (x := a1) E (Mo_stateOf_dc.at 1 rfl) hl rfl ?_
  obtain ⟨g1, h⟩ := ite_e h
  obtain ⟨r2, er2, h⟩ := bd1_e h
  refine u_cVI (As := [zR G.2.2.1 a1]) (rest := []) E S zcw_yX12_end_ zw_8_128 zq_5_15 zw_8_126 zck_12.1 rfl g1 (Mo_end1_c l G fu top L M a0 a1 ha0 ha1 er2) (zrm_ok (by decide) (by decide)) ⟨Nat.le_refl 0, Nat.le_refl 0⟩ rfl (Nat.zero_le 8) hl.size rfl (Mo_stateOf_dc.at 2 rfl) (fun H locs hr2 S3 => ?_)
  refine u_ist_n (y := r2) (vs' := [some (zR G.2.2.1 a0), some (zR G.2.2.1 a1), some (.int (zO a2)), some (.int (zO r2)), none]) E rfl (Mo_stateOf_dc.at 3 rfl) hl (by decide) rfl (fun ls hl => ?_)
  refine u_al_n (x := a0) E (Mo_stateOf_dc.at 4 rfl) hl rfl ?_
  refine u_al_n (x := a1) E (Mo_stateOf_dc.at 5 rfl) hl rfl ?_
  refine u_il_n (x := a2) E (Mo_stateOf_dc.at 6 rfl) hl rfl ?_
  refine r_iconst E (Mo_stateOf_dc.at 7 rfl) ?_
  obtain ⟨M5, r4, er4, h⟩ := bd2_e h
  refine u_cVI (As := [zR G.2.2.1 a1, .int (zO a2), .int (zO 1)]) (rest := []) E S3 zcw_yX12_counted zw_9_30 zq_7_8 zw_9_28 zck_12.1 rfl g1 (Mo_counted_c l G fu top L M a0 a1 a2 1 ha0 ha1 ha2 (show InR 1 by decide) er4) (zrm_ok (by decide) (by decide)) ⟨Nat.le_refl 0, Nat.le_refl 0⟩ rfl (Nat.zero_le 8) hl.size rfl (Mo_stateOf_dc.at 8 rfl) (fun H locs hr4 S6 => ?_)
  refine r_if_gt (tgt := 38) E hr4 (Mo_stateOf_dc.at 9 rfl) (by decide) (fun q => ?_) (fun q => ?_)
  · have h := ite_t h q
    refine r_iconst E (Mo_stateOf_dc.at 24 rfl) ?_
    cases h
    exact r_iret E S6 (show InR 2 by decide) (Mo_stateOf_dc.at 25 rfl)
  · have h := ite_f h q
    refine u_il_n (x := r2) E (Mo_stateOf_dc.at 10 rfl) hl rfl ?_
    refine r_iconst E (Mo_stateOf_dc.at 11 rfl) ?_
    refine r_icmp_eq (tgt := 40) E hr2 (show InR (-1) by decide) (Mo_stateOf_dc.at 12 rfl) (by decide) (fun q => ?_) (fun q => ?_)
    · have h := ite_t h q
      exact Mo_stateOf_b40_w (x0 := a0) (x1 := a1) (x2 := a2)  E ha0 ha1 ha2 S6 (hl.sub (And.intro rfl (And.intro rfl (And.intro rfl True.intro)))) h
    · have h := ite_f h q
      refine u_al_n (x := a1) E (Mo_stateOf_dc.at 13 rfl) hl rfl ?_
      refine r_iconst E (Mo_stateOf_dc.at 14 rfl) ?_
      obtain ⟨g18, h⟩ := ite_e h
      obtain ⟨g19, h⟩ := ite_e h
      refine r_iald E S6 g18 g19 (Mo_stateOf_dc.at 15 rfl) ?_
      refine u_il_n (x := r2) E (Mo_stateOf_dc.at 16 rfl) hl rfl ?_
      refine r_icmp_le (tgt := 40) E (S6.1.inR _ _) hr2 (Mo_stateOf_dc.at 17 rfl) (by decide) (fun q => ?_) (fun q => ?_)
      · have h := ite_t h q
        refine u_al_n (x := a0) E (Mo_stateOf_dc.at 18 rfl) hl rfl ?_
        refine u_al_n (x := a1) E (Mo_stateOf_dc.at 19 rfl) hl rfl ?_
        refine u_il_n (x := a2) E (Mo_stateOf_dc.at 20 rfl) hl rfl ?_
        refine r_iconst E (Mo_stateOf_dc.at 21 rfl) ?_
        obtain ⟨M21, r20, er20, h⟩ := bd2_e h
        refine u_cVI (As := [zR G.2.2.1 a1, .int (zO a2), .int (zO 3)]) (rest := []) E S6 zcw_yX12_counted zw_9_30 zq_7_8 zw_9_28 zck_12.1 rfl g1 (Mo_counted_c l G fu top L M5 a0 a1 a2 3 ha0 ha1 ha2 (show InR 3 by decide) er20) (zrm_ok (by decide) (by decide)) ⟨Nat.le_refl 0, Nat.le_refl 0⟩ rfl (Nat.zero_le 8) hl.size rfl (Mo_stateOf_dc.at 22 rfl) (fun H locs hr20 S22 => ?_)
        refine r_if_le (tgt := 40) E hr20 (Mo_stateOf_dc.at 23 rfl) (by decide) (fun q => ?_) (fun q => ?_)
        · have h := ite_t h q
          refine r_iconst E (Mo_stateOf_dc.at 24 rfl) ?_
          cases h
          exact r_iret E S22 (show InR 2 by decide) (Mo_stateOf_dc.at 25 rfl)
        · have h := ite_f h q
          exact Mo_stateOf_b40_w (x0 := a0) (x1 := a1) (x2 := a2)  E ha0 ha1 ha2 S22 (hl.sub (And.intro rfl (And.intro rfl (And.intro rfl True.intro)))) h
      · have h := ite_f h q
        exact Mo_stateOf_b40_w (x0 := a0) (x1 := a1) (x2 := a2)  E ha0 ha1 ha2 S6 (hl.sub (And.intro rfl (And.intro rfl (And.intro rfl True.intro)))) h
theorem Mo_stateOf_c (l : Launch) (G : zG) (fu : Nat) (top : Int) (L : zL) (M : zM) (a0 : Int) (a1 : Int) (a2 : Int) {res : (zM × Int)} (ha0 : InR a0) (ha1 : InR a1) (ha2 : InR a2) (h : Mo_stateOf fu L M a0 a1 a2 = some res) : Met l yX12_stateOf (Cond.code yX12_stateOf cX12_stateOf 5 (some .int) :: zTB) (zrm 51 0 0) (va_Pc [zR G.2.2.1 a0, zR G.2.2.1 a1, .int (zO a2)] (zPre G top L M)) (zQ G top L res.1 (some (.int (zO res.2))) (InR res.2)) 0 0 (zA G) :=
  z_met (by decide +kernel) (by simp [zR_cat, zcat_I, zcat_S]) (Nat.le_of_ble_eq_true rfl) fun p e s m below meth c ls E hn S hl => Mo_stateOf_w E ha0 ha1 ha2 S (hl.sub (And.intro rfl (And.intro rfl (And.intro rfl True.intro)))) h
end
theorem Mo_state_dc : zDL cX12_state [(0, .aload_n 0, 1, 1), (1, .iconst 0, 1, 2), (2, .putfield 66, 3, 5), (5, .aload_n 0, 1, 6), (6, .iload_n 1, 1, 7), (7, .invokevirtual 282, 3, 10), (10, .ifCond .eq 15, 3, 13), (13, .aload_n 0, 1, 14), (14, .aload_n 0, 1, 15), (15, .getfield 31, 3, 18), (18, .iload_n 1, 1, 19), (19, .invokevirtual 444, 3, 22), (22, .goto 4, 3, 25), (25, .iconst (-1), 1, 26), (26, .ireturn, 1, 27)] := zDL.of (by decide +kernel)
section
variable {p : Program} {l : Launch} {e : Env} {s : State} {m : MethodId} {args : Array Value} {below : List Frame} {meth : Method} {c : Code} {G : zG} {top : Int} {L : zL} {fu : Nat}
theorem Mo_state_w (E : zEv p m c cX12_state 2 s args RX12 meth (some .int) G) {res : (zM × Int)} {M : zM} {a0 : Int} {a1 : Int} {H : Heap} {locs : List Loc} {ls : Array Slot} (ha0 : InR a0) (ha1 : InR a1) (S : zS G top L M s H locs) (hl : zLV ls 2 [some (zR G.2.2.1 a0), some (.int (zO a1))]) (h : Mo_state fu L M a0 a1 = some res) : W p l e (zrm 52 0 0) s m args below meth c H locs 0 0 (MQ below (zQ G top L res.1 (some (.int (zO res.2))) (InR res.2)) args s 0 0 (zA G)) (F0 m 0 ls []) := by
  unfold Mo_state at h
  refine u_al_n (x := a0) E (Mo_state_dc.at 0 rfl) hl rfl ?_
  refine r_iconst E (Mo_state_dc.at 1 rfl) ?_
  obtain ⟨g1, h⟩ := ite_e h
  obtain ⟨M2, eM2, h⟩ := lt1_e h
  refine u_pI E eM2 zf_12_0 S g1 (show InR 0 by decide) (Or.inl rfl) rfl zw_6_207 (Mo_state_dc.at 2 rfl) (fun H locs S3 => ?_)
  refine u_al_n (x := a0) E (Mo_state_dc.at 3 rfl) hl rfl ?_
  refine u_il_n (x := a1) E (Mo_state_dc.at 4 rfl) hl rfl ?_
  obtain ⟨r4, er4, h⟩ := bd1_e h
  refine u_cVI (As := [.int (zO a1)]) (rest := []) E S3 zcw_yX12_isGift zw_8_77 zq_5_12 zw_8_75 zck_12.1 rfl g1 (Mo_isGift_c l G fu top L M2 a0 a1 ha0 ha1 er4) (zrm_ok (by decide) (by decide)) ⟨Nat.le_refl 0, Nat.le_refl 0⟩ rfl (Nat.zero_le 8) hl.size rfl (Mo_state_dc.at 5 rfl) (fun H locs hr4 S5 => ?_)
  refine r_if_eq (tgt := 25) E (inR_01 hr4) (Mo_state_dc.at 6 rfl) (by decide) (fun q => ?_) (fun q => ?_)
  · have h := ite_t h q
    refine r_iconst E (Mo_state_dc.at 13 rfl) ?_
    cases h
    exact r_iret E S5 (show InR (-1) by decide) (Mo_state_dc.at 14 rfl)
  · have h := ite_f h q
    refine u_al_n (x := a0) E (Mo_state_dc.at 7 rfl) hl rfl ?_
    refine u_al_n (x := a0) E (Mo_state_dc.at 8 rfl) hl rfl ?_
    refine u_gR E zf_12_18 S5 g1 zw_6_225 (Mo_state_dc.at 9 rfl) ?_
    refine u_il_n (x := a1) E (Mo_state_dc.at 10 rfl) hl rfl ?_
    obtain ⟨M7, r6, er6, h⟩ := bd2_e h
    refine u_cVI (As := [zR G.2.2.1 (M2 a0 18), .int (zO a1)]) (rest := []) E S5 zcw_yX12_stateOf zw_9_26 zq_7_7 zw_9_24 zck_12.1 rfl g1 (Mo_stateOf_c l G fu top L M2 a0 (M2 a0 18) a1 ha0 (S5.1.inR _ _) ha1 er6) (zrm_ok (by decide) (by decide)) ⟨Nat.le_refl 0, Nat.le_refl 0⟩ rfl (Nat.zero_le 8) hl.size rfl (Mo_state_dc.at 11 rfl) (fun H locs hr6 S8 => ?_)
    refine r_goto (tgt := 26) E (Mo_state_dc.at 12 rfl) (by decide) ?_
    cases h
    exact r_iret E S8 hr6 (Mo_state_dc.at 14 rfl)
theorem Mo_state_c (l : Launch) (G : zG) (fu : Nat) (top : Int) (L : zL) (M : zM) (a0 : Int) (a1 : Int) {res : (zM × Int)} (ha0 : InR a0) (ha1 : InR a1) (h : Mo_state fu L M a0 a1 = some res) : Met l yX12_state (Cond.code yX12_state cX12_state 2 (some .int) :: zTB) (zrm 52 0 0) (va_Pc [zR G.2.2.1 a0, .int (zO a1)] (zPre G top L M)) (zQ G top L res.1 (some (.int (zO res.2))) (InR res.2)) 0 0 (zA G) :=
  z_met (by decide +kernel) (by simp [zR_cat, zcat_I, zcat_S]) (Nat.le_of_ble_eq_true rfl) fun p e s m below meth c ls E hn S hl => Mo_state_w E ha0 ha1 S (hl.sub (And.intro rfl (And.intro rfl True.intro))) h
end
theorem Mo_count_dc : zDL cX12_count [(0, .aload_n 0, 1, 1), (1, .iconst 0, 1, 2), (2, .putfield 66, 3, 5), (5, .aload_n 0, 1, 6), (6, .iload_n 1, 1, 7), (7, .invokevirtual 282, 3, 10), (10, .ifCond .eq 28, 3, 13), (13, .iload_n 2, 1, 14), (14, .i2l, 1, 15), (15, .lconst 0, 1, 16), (16, .ldc2_w 324, 3, 19), (19, .invokestatic 76, 3, 22), (22, .ifCond .eq 16, 3, 25), (25, .aload_n 0, 1, 26), (26, .aload_n 0, 1, 27), (27, .getfield 31, 3, 30), (30, .iload_n 1, 1, 31), (31, .iload_n 2, 1, 32), (32, .invokevirtual 438, 3, 35), (35, .goto 4, 3, 38), (38, .iconst (-1), 1, 39), (39, .ireturn, 1, 40)] := zDL.of (by decide +kernel)
section
variable {p : Program} {l : Launch} {e : Env} {s : State} {m : MethodId} {args : Array Value} {below : List Frame} {meth : Method} {c : Code} {G : zG} {top : Int} {L : zL} {fu : Nat}
theorem Mo_count_w (E : zEv p m c cX12_count 3 s args RX12 meth (some .int) G) {res : (zM × Int)} {M : zM} {a0 : Int} {a1 : Int} {a2 : Int} {H : Heap} {locs : List Loc} {ls : Array Slot} (ha0 : InR a0) (ha1 : InR a1) (ha2 : InR a2) (S : zS G top L M s H locs) (hl : zLV ls 3 [some (zR G.2.2.1 a0), some (.int (zO a1)), some (.int (zO a2))]) (h : Mo_count fu L M a0 a1 a2 = some res) : W p l e (zrm 51 0 0) s m args below meth c H locs 0 0 (MQ below (zQ G top L res.1 (some (.int (zO res.2))) (InR res.2)) args s 0 0 (zA G)) (F0 m 0 ls []) := by
  unfold Mo_count at h
  refine u_al_n (x := a0) E (Mo_count_dc.at 0 rfl) hl rfl ?_
  refine r_iconst E (Mo_count_dc.at 1 rfl) ?_
  obtain ⟨g1, h⟩ := ite_e h
  obtain ⟨M2, eM2, h⟩ := lt1_e h
  refine u_pI E eM2 zf_12_0 S g1 (show InR 0 by decide) (Or.inl rfl) rfl zw_6_207 (Mo_count_dc.at 2 rfl) (fun H locs S3 => ?_)
  refine u_al_n (x := a0) E (Mo_count_dc.at 3 rfl) hl rfl ?_
  refine u_il_n (x := a1) E (Mo_count_dc.at 4 rfl) hl rfl ?_
  obtain ⟨r4, er4, h⟩ := bd1_e h
  refine u_cVI (As := [.int (zO a1)]) (rest := []) E S3 zcw_yX12_isGift zw_8_77 zq_5_12 zw_8_75 zck_12.1 rfl g1 (Mo_isGift_c l G fu top L M2 a0 a1 ha0 ha1 er4) (zrm_ok (by decide) (by decide)) ⟨Nat.le_refl 0, Nat.le_refl 0⟩ rfl (Nat.zero_le 8) hl.size rfl (Mo_count_dc.at 5 rfl) (fun H locs hr4 S5 => ?_)
  refine r_if_eq (tgt := 38) E (inR_01 hr4) (Mo_count_dc.at 6 rfl) (by decide) (fun q => ?_) (fun q => ?_)
  · have h := ite_t h q
    refine r_iconst E (Mo_count_dc.at 20 rfl) ?_
    cases h
    exact r_iret E S5 (show InR (-1) by decide) (Mo_count_dc.at 21 rfl)
  · have h := ite_f h q
    refine u_il_n (x := a2) E (Mo_count_dc.at 7 rfl) hl rfl ?_
    refine r_i2l E ha2 (Mo_count_dc.at 8 rfl) ?_
    refine r_lconst (x := 0) E (Mo_count_dc.at 9 rfl) rfl ?_
    refine r_ldc2 (x := 3) E (Mo_count_dc.at 10 rfl) zw_8_147 rfl ?_
    obtain ⟨r6, er6, h⟩ := bd1_e h
    refine u_cSI (As := [.long (Int64.ofInt a2), .long (Int64.ofInt 0), .long (Int64.ofInt 3)]) (rest := []) E S5 zcw_yX12_in zw_7_134 zw_7_133 (Mo_in_c l G fu top L M2 a2 0 3 ha2 (show InR 0 by decide) (show InR 3 by decide) er6) (zrm_ok (by decide) (by decide)) ⟨Nat.le_refl 0, Nat.le_refl 0⟩ rfl (Nat.zero_le 8) hl.size rfl (Mo_count_dc.at 11 rfl) (fun H locs hr6 S7 => ?_)
    refine r_if_eq (tgt := 38) E (inR_01 hr6) (Mo_count_dc.at 12 rfl) (by decide) (fun q => ?_) (fun q => ?_)
    · have h := ite_t h q
      refine r_iconst E (Mo_count_dc.at 20 rfl) ?_
      cases h
      exact r_iret E S7 (show InR (-1) by decide) (Mo_count_dc.at 21 rfl)
    · have h := ite_f h q
      refine u_al_n (x := a0) E (Mo_count_dc.at 13 rfl) hl rfl ?_
      refine u_al_n (x := a0) E (Mo_count_dc.at 14 rfl) hl rfl ?_
      refine u_gR E zf_12_18 S7 g1 zw_6_225 (Mo_count_dc.at 15 rfl) ?_
      refine u_il_n (x := a1) E (Mo_count_dc.at 16 rfl) hl rfl ?_
      refine u_il_n (x := a2) E (Mo_count_dc.at 17 rfl) hl rfl ?_
      obtain ⟨M9, r8, er8, h⟩ := bd2_e h
      refine u_cVI (As := [zR G.2.2.1 (M2 a0 18), .int (zO a1), .int (zO a2)]) (rest := []) E S7 zcw_yX12_counted zw_9_30 zq_7_8 zw_9_28 zck_12.1 rfl g1 (Mo_counted_c l G fu top L M2 a0 (M2 a0 18) a1 a2 ha0 (S7.1.inR _ _) ha1 ha2 er8) (zrm_ok (by decide) (by decide)) ⟨Nat.le_refl 0, Nat.le_refl 0⟩ rfl (Nat.zero_le 8) hl.size rfl (Mo_count_dc.at 18 rfl) (fun H locs hr8 S10 => ?_)
      refine r_goto (tgt := 39) E (Mo_count_dc.at 19 rfl) (by decide) ?_
      cases h
      exact r_iret E S10 hr8 (Mo_count_dc.at 21 rfl)
theorem Mo_count_c (l : Launch) (G : zG) (fu : Nat) (top : Int) (L : zL) (M : zM) (a0 : Int) (a1 : Int) (a2 : Int) {res : (zM × Int)} (ha0 : InR a0) (ha1 : InR a1) (ha2 : InR a2) (h : Mo_count fu L M a0 a1 a2 = some res) : Met l yX12_count (Cond.code yX12_count cX12_count 3 (some .int) :: zTB) (zrm 51 0 0) (va_Pc [zR G.2.2.1 a0, .int (zO a1), .int (zO a2)] (zPre G top L M)) (zQ G top L res.1 (some (.int (zO res.2))) (InR res.2)) 0 0 (zA G) :=
  z_met (by decide +kernel) (by simp [zR_cat, zcat_I, zcat_S]) (Nat.le_of_ble_eq_true rfl) fun p e s m below meth c ls E hn S hl => Mo_count_w E ha0 ha1 ha2 S (hl.sub (And.intro rfl (And.intro rfl (And.intro rfl True.intro)))) h
end
