theorem Mo_share_dc : zDL cX12_share [(0, .aload_n 0, 1, 1), (1, .iconst 0, 1, 2), (2, .putfield 66, 3, 5), (5, .aload_n 0, 1, 6), (6, .iload_n 1, 1, 7), (7, .invokevirtual 282, 3, 10), (10, .ifCond .eq 38, 3, 13), (13, .aload_n 0, 1, 14), (14, .getfield 31, 3, 17), (17, .iload_n 2, 1, 18), (18, .invokestatic 287, 3, 21), (21, .ifCond .eq 27, 3, 24), (24, .iload_n 3, 1, 25), (25, .i2l, 1, 26), (26, .lconst 0, 1, 27), (27, .ldc2_w 447, 3, 30), (30, .invokestatic 76, 3, 33), (33, .ifCond .eq 15, 3, 36), (36, .aload_n 0, 1, 37), (37, .aload_n 0, 1, 38), (38, .getfield 31, 3, 41), (41, .iload_n 1, 1, 42), (42, .invokevirtual 441, 3, 45), (45, .ifCond .ne 5, 3, 48), (48, .iconst (-1), 1, 49), (49, .ireturn, 1, 50), (50, .aload_n 0, 1, 51), (51, .aload_n 0, 1, 52), (52, .getfield 31, 3, 55), (55, .iload_n 1, 1, 56), (56, .iconst 0, 1, 57), (57, .invokevirtual 438, 3, 60), (60, .aload_n 0, 1, 61), (61, .aload_n 0, 1, 62), (62, .getfield 31, 3, 65), (65, .iload_n 1, 1, 66), (66, .iconst 1, 1, 67), (67, .invokevirtual 438, 3, 70), (70, .iadd, 1, 71), (71, .istore 4, 2, 73), (73, .iload 4, 2, 75), (75, .ifCond .ne 5, 3, 78), (78, .iconst (-1), 1, 79), (79, .ireturn, 1, 80), (80, .aload_n 0, 1, 81), (81, .aload_n 0, 1, 82), (82, .getfield 31, 3, 85), (85, .iload_n 1, 1, 86), (86, .iload_n 2, 1, 87), (87, .invokevirtual 435, 3, 90), (90, .ifCond .ge 5, 3, 93), (93, .iconst 0, 1, 94), (94, .ireturn, 1, 95), (95, .iconst 0, 1, 96), (96, .istore 5, 2, 98), (98, .iconst 0, 1, 99), (99, .istore 6, 2, 101), (101, .iload 6, 2, 103), (103, .iload_n 2, 1, 104), (104, .if_icmp .ge 33, 3, 107), (107, .iload 5, 2, 109), (109, .aload_n 0, 1, 110), (110, .aload_n 0, 1, 111), (111, .getfield 31, 3, 114), (114, .iload_n 1, 1, 115), (115, .iload 6, 2, 117), (117, .invokevirtual 435, 3, 120), (120, .ifCond .lt 7, 3, 123), (123, .iconst 1, 1, 124), (124, .goto 4, 3, 127), (127, .iconst 0, 1, 128), (128, .iadd, 1, 129), (129, .istore 5, 2, 131), (131, .iinc 6 1, 3, 134), (134, .goto (-33), 3, 137), (137, .iload_n 3, 1, 138), (138, .iload 4, 2, 140), (140, .idiv, 1, 141), (141, .iload 5, 2, 143), (143, .iload_n 3, 1, 144), (144, .iload 4, 2, 146), (146, .irem, 1, 147), (147, .if_icmp .ge 7, 3, 150), (150, .iconst 1, 1, 151), (151, .goto 4, 3, 154), (154, .iconst 0, 1, 155), (155, .iadd, 1, 156), (156, .ireturn, 1, 157)] := zDL.of (by decide +kernel)
section
variable {p : Program} {l : Launch} {e : Env} {s : State} {m : MethodId} {args : Array Value} {below : List Frame} {meth : Method} {c : Code} {G : zG} {top : Int} {L : zL} {fu : Nat}
theorem Mo_share_s101_w (E : zEv p m c cX12_share 7 s args RX12 meth (some .int) G) {res : (zM × Int)} {k101 : zM → Int → Int → Int → Int → Int → Int → Int → Option (zM × Int)} (hk101 : ∀ (M : zM) (x0 : Int) (x1 : Int) (x2 : Int) (x3 : Int) (x4 : Int) (x5 : Int) (x6 : Int), InR x0 → InR x1 → InR x2 → InR x3 → InR x4 → InR x5 → InR x6 → ∀ (H : Heap) (locs : List Loc) (ls : Array Slot), zS G top L M s H locs → zLV ls 7 [some (zR G.2.2.1 x0), some (.int (zO x1)), some (.int (zO x2)), some (.int (zO x3)), some (.int (zO x4)), some (.int (zO x5)), some (.int (zO x6))] → k101 M x0 x1 x2 x3 x4 x5 x6 = some res → W p l e (zrm 51 0 0) s m args below meth c H locs 0 0 (MQ below (zQ G top L res.1 (some (.int (zO res.2))) (InR res.2)) args s 0 0 (zA G)) (F0 m 101 ls [])) {M : zM} {x0 : Int} {x1 : Int} {x2 : Int} {x3 : Int} {x4 : Int} {x5 : Int} {x6 : Int} {H : Heap} {locs : List Loc} {ls : Array Slot} (hx0 : InR x0) (hx1 : InR x1) (hx2 : InR x2) (hx3 : InR x3) (hx4 : InR x4) (hx5 : InR x5) (hx6 : InR x6) (S : zS G top L M s H locs) (hl : zLV ls 7 [some (zR G.2.2.1 x0), some (.int (zO x1)), some (.int (zO x2)), some (.int (zO x3)), some (.int (zO x4)), some (.int (zO x5)), some (.int (zO x6))]) (h : Mo_share_s101 fu k101 L M x0 x1 x2 x3 x4 x5 x6 = some res) : W p l e (zrm 51 0 0) s m args below meth c H locs 0 0 (MQ below (zQ G top L res.1 (some (.int (zO res.2))) (InR res.2)) args s 0 0 (zA G)) (F0 m 101 ls []) := by
  unfold Mo_share_s101 at h
  refine u_il (x := x6) E (Mo_share_dc.at 57 rfl) hl rfl ?_
  refine u_il_n (x := x2) E (Mo_share_dc.at 58 rfl) hl rfl ?_
  refine r_icmp_ge (tgt := 137) E hx6 hx2 (Mo_share_dc.at 59 rfl) (by decide) (fun q => ?_) (fun q => ?_)
  · have h := ite_t h q
    refine u_il (x := x5) E (Mo_share_dc.at 60 rfl) hl rfl ?_
    refine u_al_n (x := x0) E (Mo_share_dc.at 61 rfl) hl rfl ?_
    refine u_al_n (x := x0) E (Mo_share_dc.at 62 rfl) hl rfl ?_
    obtain ⟨g23, h⟩ := ite_e h
    refine u_gR E zf_12_18 S g23 zw_6_225 (Mo_share_dc.at 63 rfl) ?_
    refine u_il_n (x := x1) E (Mo_share_dc.at 64 rfl) hl rfl ?_
    refine u_il (x := x6) E (Mo_share_dc.at 65 rfl) hl rfl ?_
    obtain ⟨M25, r24, er24, h⟩ := bd2_e h
    refine u_cVI (As := [zR G.2.2.1 (M x0 18), .int (zO x1), .int (zO x6)]) (rest := [.int (zO x5)]) E S zcw_yX12_vestsIn zw_9_10 zq_7_5 zw_9_8 zck_12.1 rfl g23 (Mo_vestsIn_c l G fu top L M x0 (M x0 18) x1 x6 hx0 (S.1.inR _ _) hx1 hx6 er24) (zrm_ok (by decide) (by decide)) ⟨Nat.le_refl 0, Nat.le_refl 0⟩ rfl (by simp [zR_cat, zcat_I, zcat_J, zcat_S]) hl.size rfl (Mo_share_dc.at 66 rfl) (fun H locs hr24 S26 => ?_)
    refine r_if_lt (tgt := 127) E hr24 (Mo_share_dc.at 67 rfl) (by decide) (fun q => ?_) (fun q => ?_)
    · have h := ite_t h q
      refine r_iconst E (Mo_share_dc.at 70 rfl) ?_
      refine r_iadd E (Mo_share_dc.at 71 rfl) ?_
      obtain ⟨v27, ev27, h⟩ := lt1_e h
      have hv27 := inR_eq ev27 (inR_w32 _)
      refine u_ist (y := v27) (vs' := [some (zR G.2.2.1 x0), some (.int (zO x1)), some (.int (zO x2)), some (.int (zO x3)), some (.int (zO x4)), some (.int (zO v27)), some (.int (zO x6))]) E ev27 (Mo_share_dc.at 72 rfl) hl (by decide) rfl (fun ls hl => ?_)
      obtain ⟨v28, ev28, h⟩ := lt1_e h
      have hv28 := inR_eq ev28 (inR_w32 _)
      refine u_iinc (y := v28) (vs' := [some (zR G.2.2.1 x0), some (.int (zO x1)), some (.int (zO x2)), some (.int (zO x3)), some (.int (zO x4)), some (.int (zO v27)), some (.int (zO v28))]) E ev28 (Mo_share_dc.at 73 rfl) hl rfl (by decide) rfl (fun ls hl => ?_)
      refine r_goto (tgt := 101) E (Mo_share_dc.at 74 rfl) (by decide) ?_
      exact hk101 _ x0 x1 x2 x3 x4 v27 v28 hx0 hx1 hx2 hx3 hx4 hv27 hv28 _ _ _ S26 (hl.sub (And.intro rfl (And.intro rfl (And.intro rfl (And.intro rfl (And.intro rfl (And.intro rfl (And.intro rfl True.intro)))))))) h
    · have h := ite_f h q
      refine r_iconst E (Mo_share_dc.at 68 rfl) ?_
      refine r_goto (tgt := 128) E (Mo_share_dc.at 69 rfl) (by decide) ?_
      refine r_iadd E (Mo_share_dc.at 71 rfl) ?_
      obtain ⟨v29, ev29, h⟩ := lt1_e h
      have hv29 := inR_eq ev29 (inR_w32 _)
      refine u_ist (y := v29) (vs' := [some (zR G.2.2.1 x0), some (.int (zO x1)), some (.int (zO x2)), some (.int (zO x3)), some (.int (zO x4)), some (.int (zO v29)), some (.int (zO x6))]) E ev29 (Mo_share_dc.at 72 rfl) hl (by decide) rfl (fun ls hl => ?_)
      obtain ⟨v30, ev30, h⟩ := lt1_e h
      have hv30 := inR_eq ev30 (inR_w32 _)
      refine u_iinc (y := v30) (vs' := [some (zR G.2.2.1 x0), some (.int (zO x1)), some (.int (zO x2)), some (.int (zO x3)), some (.int (zO x4)), some (.int (zO v29)), some (.int (zO v30))]) E ev30 (Mo_share_dc.at 73 rfl) hl rfl (by decide) rfl (fun ls hl => ?_)
      refine r_goto (tgt := 101) E (Mo_share_dc.at 74 rfl) (by decide) ?_
      exact hk101 _ x0 x1 x2 x3 x4 v29 v30 hx0 hx1 hx2 hx3 hx4 hv29 hv30 _ _ _ S26 (hl.sub (And.intro rfl (And.intro rfl (And.intro rfl (And.intro rfl (And.intro rfl (And.intro rfl (And.intro rfl True.intro)))))))) h
  · have h := ite_f h q
    refine u_il_n (x := x3) E (Mo_share_dc.at 75 rfl) hl rfl ?_
    refine u_il (x := x4) E (Mo_share_dc.at 76 rfl) hl rfl ?_
    obtain ⟨g31, h⟩ := ite_e h
    refine r_idiv E hx3 hx4 g31 (Mo_share_dc.at 77 rfl) ?_
    refine u_il (x := x5) E (Mo_share_dc.at 78 rfl) hl rfl ?_
    refine u_il_n (x := x3) E (Mo_share_dc.at 79 rfl) hl rfl ?_
    refine u_il (x := x4) E (Mo_share_dc.at 80 rfl) hl rfl ?_
    obtain ⟨g32, h⟩ := ite_e h
    refine r_irem E hx3 hx4 g32 (Mo_share_dc.at 81 rfl) ?_
    refine r_icmp_ge (tgt := 154) E hx5 (inR_w32 _) (Mo_share_dc.at 82 rfl) (by decide) (fun q => ?_) (fun q => ?_)
    · have h := ite_t h q
      refine r_iconst E (Mo_share_dc.at 83 rfl) ?_
      refine r_goto (tgt := 155) E (Mo_share_dc.at 84 rfl) (by decide) ?_
      refine r_iadd E (Mo_share_dc.at 86 rfl) ?_
      cases h
      exact r_iret E S (inR_w32 _) (Mo_share_dc.at 87 rfl)
    · have h := ite_f h q
      refine r_iconst E (Mo_share_dc.at 85 rfl) ?_
      refine r_iadd E (Mo_share_dc.at 86 rfl) ?_
      cases h
      exact r_iret E S (inR_w32 _) (Mo_share_dc.at 87 rfl)
theorem Mo_share_l101_w (E : zEv p m c cX12_share 7 s args RX12 meth (some .int) G) {res : (zM × Int)} : ∀ (n : Nat) (M : zM) (x0 : Int) (x1 : Int) (x2 : Int) (x3 : Int) (x4 : Int) (x5 : Int) (x6 : Int), InR x0 → InR x1 → InR x2 → InR x3 → InR x4 → InR x5 → InR x6 → ∀ (H : Heap) (locs : List Loc) (ls : Array Slot), zS G top L M s H locs → zLV ls 7 [some (zR G.2.2.1 x0), some (.int (zO x1)), some (.int (zO x2)), some (.int (zO x3)), some (.int (zO x4)), some (.int (zO x5)), some (.int (zO x6))] → Mo_share_l101 fu L n M x0 x1 x2 x3 x4 x5 x6 = some res → W p l e (zrm 51 0 0) s m args below meth c H locs 0 0 (MQ below (zQ G top L res.1 (some (.int (zO res.2))) (InR res.2)) args s 0 0 (zA G)) (F0 m 101 ls [])
  | 0, _, _, _, _, _, _, _, _ => fun _ _ _ _ _ _ _ _ _ _ _ _ h => (by cases h)
  | n + 1, M, x0, x1, x2, x3, x4, x5, x6 => fun hx0 hx1 hx2 hx3 hx4 hx5 hx6 H locs ls S hl h => Mo_share_s101_w E (fun M x0 x1 x2 x3 x4 x5 x6 hx0 hx1 hx2 hx3 hx4 hx5 hx6 H locs ls S hl h => Mo_share_l101_w E n M x0 x1 x2 x3 x4 x5 x6 hx0 hx1 hx2 hx3 hx4 hx5 hx6 H locs ls S hl h) hx0 hx1 hx2 hx3 hx4 hx5 hx6 S hl h
theorem Mo_share_w (E : zEv p m c cX12_share 7 s args RX12 meth (some .int) G) {res : (zM × Int)} {M : zM} {a0 : Int} {a1 : Int} {a2 : Int} {a3 : Int} {H : Heap} {locs : List Loc} {ls : Array Slot} (ha0 : InR a0) (ha1 : InR a1) (ha2 : InR a2) (ha3 : InR a3) (S : zS G top L M s H locs) (hl : zLV ls 7 [some (zR G.2.2.1 a0), some (.int (zO a1)), some (.int (zO a2)), some (.int (zO a3)), none, none, none]) (h : Mo_share fu L M a0 a1 a2 a3 = some res) : W p l e (zrm 51 0 0) s m args below meth c H locs 0 0 (MQ below (zQ G top L res.1 (some (.int (zO res.2))) (InR res.2)) args s 0 0 (zA G)) (F0 m 0 ls []) := by
  unfold Mo_share at h
  refine u_al_n (x := a0) E (Mo_share_dc.at 0 rfl) hl rfl ?_
  refine r_iconst E (Mo_share_dc.at 1 rfl) ?_
  obtain ⟨g1, h⟩ := ite_e h
  obtain ⟨M2, eM2, h⟩ := lt1_e h
  refine u_pI E eM2 zf_12_0 S g1 (show InR 0 by decide) (Or.inl rfl) rfl zw_6_207 (Mo_share_dc.at 2 rfl) (fun H locs S3 => ?_)
  refine u_al_n (x := a0) E (Mo_share_dc.at 3 rfl) hl rfl ?_
  refine u_il_n (x := a1) E (Mo_share_dc.at 4 rfl) hl rfl ?_
  obtain ⟨r4, er4, h⟩ := bd1_e h
  refine u_cVI (As := [.int (zO a1)]) (rest := []) E S3 zcw_yX12_isGift zw_8_77 zq_5_12 zw_8_75 zck_12.1 rfl g1 (Mo_isGift_c l G fu top L M2 a0 a1 ha0 ha1 er4) (zrm_ok (by decide) (by decide)) ⟨Nat.le_refl 0, Nat.le_refl 0⟩ rfl (Nat.zero_le 8) hl.size rfl (Mo_share_dc.at 5 rfl) (fun H locs hr4 S5 => ?_)
  refine r_if_eq (tgt := 48) E (inR_01 hr4) (Mo_share_dc.at 6 rfl) (by decide) (fun q => ?_) (fun q => ?_)
  · have h := ite_t h q
    refine r_iconst E (Mo_share_dc.at 24 rfl) ?_
    cases h
    exact r_iret E S5 (show InR (-1) by decide) (Mo_share_dc.at 25 rfl)
  · have h := ite_f h q
    refine u_al_n (x := a0) E (Mo_share_dc.at 7 rfl) hl rfl ?_
    refine u_gR E zf_12_18 S5 g1 zw_6_225 (Mo_share_dc.at 8 rfl) ?_
    refine u_il_n (x := a2) E (Mo_share_dc.at 9 rfl) hl rfl ?_
    obtain ⟨r6, er6, h⟩ := bd1_e h
    refine u_cSI (As := [zR G.2.2.1 (M2 a0 18), .int (zO a2)]) (rest := []) E S5 zcw_yX12_isIn zw_8_92 zw_8_91 (Mo_isIn_c l G fu top L M2 (M2 a0 18) a2 (S5.1.inR _ _) ha2 er6) (zrm_ok (by decide) (by decide)) ⟨Nat.le_refl 0, Nat.le_refl 0⟩ rfl (Nat.zero_le 8) hl.size rfl (Mo_share_dc.at 10 rfl) (fun H locs hr6 S7 => ?_)
    refine r_if_eq (tgt := 48) E (inR_01 hr6) (Mo_share_dc.at 11 rfl) (by decide) (fun q => ?_) (fun q => ?_)
    · have h := ite_t h q
      refine r_iconst E (Mo_share_dc.at 24 rfl) ?_
      cases h
      exact r_iret E S7 (show InR (-1) by decide) (Mo_share_dc.at 25 rfl)
    · have h := ite_f h q
      refine u_il_n (x := a3) E (Mo_share_dc.at 12 rfl) hl rfl ?_
      refine r_i2l E ha3 (Mo_share_dc.at 13 rfl) ?_
      refine r_lconst (x := 0) E (Mo_share_dc.at 14 rfl) rfl ?_
      refine r_ldc2 (x := 1000000) E (Mo_share_dc.at 15 rfl) zw_9_44 rfl ?_
      obtain ⟨r8, er8, h⟩ := bd1_e h
      refine u_cSI (As := [.long (Int64.ofInt a3), .long (Int64.ofInt 0), .long (Int64.ofInt 1000000)]) (rest := []) E S7 zcw_yX12_in zw_7_134 zw_7_133 (Mo_in_c l G fu top L M2 a3 0 1000000 ha3 (show InR 0 by decide) (show InR 1000000 by decide) er8) (zrm_ok (by decide) (by decide)) ⟨Nat.le_refl 0, Nat.le_refl 0⟩ rfl (Nat.zero_le 8) hl.size rfl (Mo_share_dc.at 16 rfl) (fun H locs hr8 S9 => ?_)
      refine r_if_eq (tgt := 48) E (inR_01 hr8) (Mo_share_dc.at 17 rfl) (by decide) (fun q => ?_) (fun q => ?_)
      · have h := ite_t h q
        refine r_iconst E (Mo_share_dc.at 24 rfl) ?_
        cases h
        exact r_iret E S9 (show InR (-1) by decide) (Mo_share_dc.at 25 rfl)
      · have h := ite_f h q
        refine u_al_n (x := a0) E (Mo_share_dc.at 18 rfl) hl rfl ?_
        refine u_al_n (x := a0) E (Mo_share_dc.at 19 rfl) hl rfl ?_
        refine u_gR E zf_12_18 S9 g1 zw_6_225 (Mo_share_dc.at 20 rfl) ?_
        refine u_il_n (x := a1) E (Mo_share_dc.at 21 rfl) hl rfl ?_
        obtain ⟨M11, r10, er10, h⟩ := bd2_e h
        refine u_cVI (As := [zR G.2.2.1 (M2 a0 18), .int (zO a1)]) (rest := []) E S9 zcw_yX12_isClosed zw_9_34 zq_7_9 zw_9_32 zck_12.1 rfl g1 (Mo_isClosed_c l G fu top L M2 a0 (M2 a0 18) a1 ha0 (S9.1.inR _ _) ha1 er10) (zrm_ok (by decide) (by decide)) ⟨Nat.le_refl 0, Nat.le_refl 0⟩ rfl (Nat.zero_le 8) hl.size rfl (Mo_share_dc.at 22 rfl) (fun H locs hr10 S12 => ?_)
        refine r_if_ne (tgt := 50) E (inR_01 hr10) (Mo_share_dc.at 23 rfl) (by decide) (fun q => ?_) (fun q => ?_)
        · have h := ite_t h q
          refine r_iconst E (Mo_share_dc.at 24 rfl) ?_
          cases h
          exact r_iret E S12 (show InR (-1) by decide) (Mo_share_dc.at 25 rfl)
        · have h := ite_f h q
          refine u_al_n (x := a0) E (Mo_share_dc.at 26 rfl) hl rfl ?_
          refine u_al_n (x := a0) E (Mo_share_dc.at 27 rfl) hl rfl ?_
          refine u_gR E zf_12_18 S12 g1 zw_6_225 (Mo_share_dc.at 28 rfl) ?_
          refine u_il_n (x := a1) E (Mo_share_dc.at 29 rfl) hl rfl ?_
          refine r_iconst E (Mo_share_dc.at 30 rfl) ?_
          obtain ⟨M14, r13, er13, h⟩ := bd2_e h
          refine u_cVI (As := [zR G.2.2.1 (M11 a0 18), .int (zO a1), .int (zO 0)]) (rest := []) E S12 zcw_yX12_counted zw_9_30 zq_7_8 zw_9_28 zck_12.1 rfl g1 (Mo_counted_c l G fu top L M11 a0 (M11 a0 18) a1 0 ha0 (S12.1.inR _ _) ha1 (show InR 0 by decide) er13) (zrm_ok (by decide) (by decide)) ⟨Nat.le_refl 0, Nat.le_refl 0⟩ rfl (Nat.zero_le 8) hl.size rfl (Mo_share_dc.at 31 rfl) (fun H locs hr13 S15 => ?_)
          refine u_al_n (x := a0) E (Mo_share_dc.at 32 rfl) hl rfl ?_
          refine u_al_n (x := a0) E (Mo_share_dc.at 33 rfl) hl rfl ?_
          refine u_gR E zf_12_18 S15 g1 zw_6_225 (Mo_share_dc.at 34 rfl) ?_
          refine u_il_n (x := a1) E (Mo_share_dc.at 35 rfl) hl rfl ?_
          refine r_iconst E (Mo_share_dc.at 36 rfl) ?_
          obtain ⟨M17, r16, er16, h⟩ := bd2_e h
          refine u_cVI (As := [zR G.2.2.1 (M14 a0 18), .int (zO a1), .int (zO 1)]) (rest := [.int (zO r13)]) E S15 zcw_yX12_counted zw_9_30 zq_7_8 zw_9_28 zck_12.1 rfl g1 (Mo_counted_c l G fu top L M14 a0 (M14 a0 18) a1 1 ha0 (S15.1.inR _ _) ha1 (show InR 1 by decide) er16) (zrm_ok (by decide) (by decide)) ⟨Nat.le_refl 0, Nat.le_refl 0⟩ rfl (by simp [zR_cat, zcat_I, zcat_J, zcat_S]) hl.size rfl (Mo_share_dc.at 37 rfl) (fun H locs hr16 S18 => ?_)
          refine r_iadd E (Mo_share_dc.at 38 rfl) ?_
          obtain ⟨v19, ev19, h⟩ := lt1_e h
          have hv19 := inR_eq ev19 (inR_w32 _)
          refine u_ist (y := v19) (vs' := [some (zR G.2.2.1 a0), some (.int (zO a1)), some (.int (zO a2)), some (.int (zO a3)), some (.int (zO v19)), none, none]) E ev19 (Mo_share_dc.at 39 rfl) hl (by decide) rfl (fun ls hl => ?_)
          refine u_il (x := v19) E (Mo_share_dc.at 40 rfl) hl rfl ?_
          refine r_if_ne (tgt := 80) E hv19 (Mo_share_dc.at 41 rfl) (by decide) (fun q => ?_) (fun q => ?_)
          · have h := ite_t h q
            refine r_iconst E (Mo_share_dc.at 42 rfl) ?_
            cases h
            exact r_iret E S18 (show InR (-1) by decide) (Mo_share_dc.at 43 rfl)
          · have h := ite_f h q
            refine u_al_n (x := a0) E (Mo_share_dc.at 44 rfl) hl rfl ?_
            refine u_al_n (x := a0) E (Mo_share_dc.at 45 rfl) hl rfl ?_
            refine u_gR E zf_12_18 S18 g1 zw_6_225 (Mo_share_dc.at 46 rfl) ?_
            refine u_il_n (x := a1) E (Mo_share_dc.at 47 rfl) hl rfl ?_
            refine u_il_n (x := a2) E (Mo_share_dc.at 48 rfl) hl rfl ?_
            obtain ⟨M21, r20, er20, h⟩ := bd2_e h
            refine u_cVI (As := [zR G.2.2.1 (M17 a0 18), .int (zO a1), .int (zO a2)]) (rest := []) E S18 zcw_yX12_vestsIn zw_9_10 zq_7_5 zw_9_8 zck_12.1 rfl g1 (Mo_vestsIn_c l G fu top L M17 a0 (M17 a0 18) a1 a2 ha0 (S18.1.inR _ _) ha1 ha2 er20) (zrm_ok (by decide) (by decide)) ⟨Nat.le_refl 0, Nat.le_refl 0⟩ rfl (Nat.zero_le 8) hl.size rfl (Mo_share_dc.at 49 rfl) (fun H locs hr20 S22 => ?_)
            refine r_if_ge (tgt := 95) E hr20 (Mo_share_dc.at 50 rfl) (by decide) (fun q => ?_) (fun q => ?_)
            · have h := ite_t h q
              refine r_iconst E (Mo_share_dc.at 51 rfl) ?_
              cases h
              exact r_iret E S22 (show InR 0 by decide) (Mo_share_dc.at 52 rfl)
            · have h := ite_f h q
              refine r_iconst E (Mo_share_dc.at 53 rfl) ?_
              refine u_ist (y := 0) (vs' := [some (zR G.2.2.1 a0), some (.int (zO a1)), some (.int (zO a2)), some (.int (zO a3)), some (.int (zO v19)), some (.int (zO 0)), none]) E rfl (Mo_share_dc.at 54 rfl) hl (by decide) rfl (fun ls hl => ?_)
              refine r_iconst E (Mo_share_dc.at 55 rfl) ?_
              refine u_ist (y := 0) (vs' := [some (zR G.2.2.1 a0), some (.int (zO a1)), some (.int (zO a2)), some (.int (zO a3)), some (.int (zO v19)), some (.int (zO 0)), some (.int (zO 0))]) E rfl (Mo_share_dc.at 56 rfl) hl (by decide) rfl (fun ls hl => ?_)
              exact Mo_share_l101_w E fu _ a0 a1 a2 a3 v19 0 0 ha0 ha1 ha2 ha3 hv19 (show InR 0 by decide) (show InR 0 by decide) _ _ _ S22 (hl.sub (And.intro rfl (And.intro rfl (And.intro rfl (And.intro rfl (And.intro rfl (And.intro rfl (And.intro rfl True.intro)))))))) h
theorem Mo_share_c (l : Launch) (G : zG) (fu : Nat) (top : Int) (L : zL) (M : zM) (a0 : Int) (a1 : Int) (a2 : Int) (a3 : Int) {res : (zM × Int)} (ha0 : InR a0) (ha1 : InR a1) (ha2 : InR a2) (ha3 : InR a3) (h : Mo_share fu L M a0 a1 a2 a3 = some res) : Met l yX12_share (Cond.code yX12_share cX12_share 7 (some .int) :: zTB) (zrm 51 0 0) (va_Pc [zR G.2.2.1 a0, .int (zO a1), .int (zO a2), .int (zO a3)] (zPre G top L M)) (zQ G top L res.1 (some (.int (zO res.2))) (InR res.2)) 0 0 (zA G) :=
  z_met (by decide +kernel) (by simp [zR_cat, zcat_I, zcat_S]) (Nat.le_of_ble_eq_true rfl) fun p e s m below meth c ls E hn S hl => Mo_share_w E ha0 ha1 ha2 ha3 S (hl.sub (And.intro rfl (And.intro rfl (And.intro rfl (And.intro rfl True.intro))))) h
end
theorem Mo_isDone_dc : zDL cX12_isDone [(0, .aload_n 0, 1, 1), (1, .getfield 28, 3, 4), (4, .iload_n 1, 1, 5), (5, .iaload, 1, 6), (6, .istore_n 2, 1, 7), (7, .aload_n 0, 1, 8), (8, .getfield 25, 3, 11), (11, .iload_n 1, 1, 12), (12, .iaload, 1, 13), (13, .ifCond .ne 12, 3, 16), (16, .aload_n 0, 1, 17), (17, .getfield 57, 3, 20), (20, .iconst 0, 1, 21), (21, .iload_n 2, 1, 22), (22, .iastore, 1, 23), (23, .iconst 1, 1, 24), (24, .ireturn, 1, 25), (25, .aload_n 0, 1, 26), (26, .getfield 25, 3, 29), (29, .iload_n 1, 1, 30), (30, .iaload, 1, 31), (31, .iconst 1, 1, 32), (32, .if_icmp .ne 47, 3, 35), (35, .aload_n 0, 1, 36), (36, .getfield 57, 3, 39), (39, .iload_n 2, 1, 40), (40, .invokestatic 287, 3, 43), (43, .ifCond .eq 17, 3, 46), (46, .aload_n 0, 1, 47), (47, .getfield 57, 3, 50), (50, .bipush 26, 2, 52), (52, .iload_n 2, 1, 53), (53, .iadd, 1, 54), (54, .iaload, 1, 55), (55, .ldc 254, 2, 57), (57, .if_icmp .eq 5, 3, 60), (60, .iconst 0, 1, 61), (61, .ireturn, 1, 62), (62, .aload_n 0, 1, 63), (63, .getfield 57, 3, 66), (66, .bipush 26, 2, 68), (68, .iload_n 2, 1, 69), (69, .iadd, 1, 70), (70, .aload_n 0, 1, 71), (71, .getfield 57, 3, 74), (74, .iconst 0, 1, 75), (75, .iaload, 1, 76), (76, .iastore, 1, 77), (77, .iconst 1, 1, 78), (78, .ireturn, 1, 79), (79, .aload_n 0, 1, 80), (80, .getfield 57, 3, 83), (83, .iload_n 2, 1, 84), (84, .invokestatic 291, 3, 87), (87, .iconst (-1), 1, 88), (88, .if_icmp .eq 5, 3, 91), (91, .iconst 0, 1, 92), (92, .ireturn, 1, 93), (93, .aload_n 0, 1, 94), (94, .getfield 57, 3, 97), (97, .iload_n 2, 1, 98), (98, .invokestatic 295, 3, 101), (101, .iconst 1, 1, 102), (102, .ireturn, 1, 103)] := zDL.of (by decide +kernel)
section
variable {p : Program} {l : Launch} {e : Env} {s : State} {m : MethodId} {args : Array Value} {below : List Frame} {meth : Method} {c : Code} {G : zG} {top : Int} {L : zL} {fu : Nat}
theorem Mo_isDone_w (E : zEv p m c cX12_isDone 3 s args RX12 meth (some .boolean) G) {res : (zM × Int)} {M : zM} {a0 : Int} {a1 : Int} {H : Heap} {locs : List Loc} {ls : Array Slot} (ha0 : InR a0) (ha1 : InR a1) (S : zS G top L M s H locs) (hl : zLV ls 3 [some (zR G.2.2.1 a0), some (.int (zO a1)), none]) (h : Mo_isDone fu L M a0 a1 = some res) : W p l e (zrm 4 0 0) s m args below meth c H locs 0 0 (MQ below (zQ G top L res.1 (some (.int (zO res.2))) (0 ≤ res.2 ∧ res.2 ≤ 1)) args s 0 0 (zA G)) (F0 m 0 ls []) := by
  unfold Mo_isDone at h
  refine u_al_n (x := a0) E (Mo_isDone_dc.at 0 rfl) hl rfl ?_
  obtain ⟨g1, h⟩ := ite_e h
  refine u_gR E zf_12_15 S g1 zw_6_222 (Mo_isDone_dc.at 1 rfl) ?_
  refine u_il_n (x := a1) E (Mo_isDone_dc.at 2 rfl) hl rfl ?_
  obtain ⟨g2, h⟩ := ite_e h
  obtain ⟨g3, h⟩ := ite_e h
  refine r_iald E S g2 g3 (Mo_isDone_dc.at 3 rfl) ?_
  obtain ⟨v4, ev4, h⟩ := lt1_e h
  have hv4 := inR_eq ev4 (S.1.inR _ _)
  refine u_ist_n (y := v4) (vs' := [some (zR G.2.2.1 a0), some (.int (zO a1)), some (.int (zO v4))]) E ev4 (Mo_isDone_dc.at 4 rfl) hl (by decide) rfl (fun ls hl => ?_)
  refine u_al_n (x := a0) E (Mo_isDone_dc.at 5 rfl) hl rfl ?_
  refine u_gR E zf_12_14 S g1 zw_6_221 (Mo_isDone_dc.at 6 rfl) ?_
  refine u_il_n (x := a1) E (Mo_isDone_dc.at 7 rfl) hl rfl ?_
  obtain ⟨g5, h⟩ := ite_e h
  obtain ⟨g6, h⟩ := ite_e h
  refine r_iald E S g5 g6 (Mo_isDone_dc.at 8 rfl) ?_
  refine r_if_ne (tgt := 25) E (S.1.inR _ _) (Mo_isDone_dc.at 9 rfl) (by decide) (fun q => ?_) (fun q => ?_)
  · have h := ite_t h q
    refine u_al_n (x := a0) E (Mo_isDone_dc.at 10 rfl) hl rfl ?_
    refine u_gR E zf_12_37 S g1 zw_7_4 (Mo_isDone_dc.at 11 rfl) ?_
    refine r_iconst E (Mo_isDone_dc.at 12 rfl) ?_
    refine u_il_n (x := v4) E (Mo_isDone_dc.at 13 rfl) hl rfl ?_
    obtain ⟨g7, h⟩ := ite_e h
    obtain ⟨g8, h⟩ := ite_e h
    obtain ⟨M9, eM9, h⟩ := lt1_e h
    refine u_iast E eM9 S g7 g8 hv4 (Mo_isDone_dc.at 14 rfl) (fun H locs S10 => ?_)
    refine r_iconst E (Mo_isDone_dc.at 15 rfl) ?_
    cases h
    exact r_zret E S10 z01_1 z01_1 (Mo_isDone_dc.at 16 rfl)
  · have h := ite_f h q
    refine u_al_n (x := a0) E (Mo_isDone_dc.at 17 rfl) hl rfl ?_
    refine u_gR E zf_12_14 S g1 zw_6_221 (Mo_isDone_dc.at 18 rfl) ?_
    refine u_il_n (x := a1) E (Mo_isDone_dc.at 19 rfl) hl rfl ?_
    obtain ⟨g11, h⟩ := ite_e h
    refine r_iald E S g5 g11 (Mo_isDone_dc.at 20 rfl) ?_
    refine r_iconst E (Mo_isDone_dc.at 21 rfl) ?_
    refine r_icmp_ne (tgt := 79) E (S.1.inR _ _) (show InR 1 by decide) (Mo_isDone_dc.at 22 rfl) (by decide) (fun q => ?_) (fun q => ?_)
    · have h := ite_t h q
      refine u_al_n (x := a0) E (Mo_isDone_dc.at 23 rfl) hl rfl ?_
      refine u_gR E zf_12_37 S g1 zw_7_4 (Mo_isDone_dc.at 24 rfl) ?_
      refine u_il_n (x := v4) E (Mo_isDone_dc.at 25 rfl) hl rfl ?_
      obtain ⟨r12, er12, h⟩ := bd1_e h
      refine u_cSI (As := [zR G.2.2.1 (M a0 37), .int (zO v4)]) (rest := []) E S zcw_yX12_isIn zw_8_92 zw_8_91 (Mo_isIn_c l G fu top L M (M a0 37) v4 (S.1.inR _ _) hv4 er12) (zrm_ok (by decide) (by decide)) ⟨Nat.le_refl 0, Nat.le_refl 0⟩ rfl (Nat.zero_le 8) hl.size rfl (Mo_isDone_dc.at 26 rfl) (fun H locs hr12 S13 => ?_)
      refine r_if_eq (tgt := 60) E (inR_01 hr12) (Mo_isDone_dc.at 27 rfl) (by decide) (fun q => ?_) (fun q => ?_)
      · have h := ite_t h q
        refine r_iconst E (Mo_isDone_dc.at 36 rfl) ?_
        cases h
        exact r_zret E S13 z01_0 z01_0 (Mo_isDone_dc.at 37 rfl)
      · have h := ite_f h q
        refine u_al_n (x := a0) E (Mo_isDone_dc.at 28 rfl) hl rfl ?_
        refine u_gR E zf_12_37 S13 g1 zw_7_4 (Mo_isDone_dc.at 29 rfl) ?_
        refine r_bipush E (Mo_isDone_dc.at 30 rfl) rfl ?_
        refine u_il_n (x := v4) E (Mo_isDone_dc.at 31 rfl) hl rfl ?_
        refine r_iadd E (Mo_isDone_dc.at 32 rfl) ?_
        obtain ⟨g14, h⟩ := ite_e h
        obtain ⟨g15, h⟩ := ite_e h
        refine r_iald E S13 g14 g15 (Mo_isDone_dc.at 33 rfl) ?_
        refine r_ldc (n := 16777216) E (Mo_isDone_dc.at 34 rfl) zw_8_42 rfl ?_
        refine r_icmp_eq (tgt := 62) E (S13.1.inR _ _) (show InR 16777216 by decide) (Mo_isDone_dc.at 35 rfl) (by decide) (fun q => ?_) (fun q => ?_)
        · have h := ite_t h q
          refine u_al_n (x := a0) E (Mo_isDone_dc.at 38 rfl) hl rfl ?_
          refine u_gR E zf_12_37 S13 g1 zw_7_4 (Mo_isDone_dc.at 39 rfl) ?_
          refine r_bipush E (Mo_isDone_dc.at 40 rfl) rfl ?_
          refine u_il_n (x := v4) E (Mo_isDone_dc.at 41 rfl) hl rfl ?_
          refine r_iadd E (Mo_isDone_dc.at 42 rfl) ?_
          refine u_al_n (x := a0) E (Mo_isDone_dc.at 43 rfl) hl rfl ?_
          refine u_gR E zf_12_37 S13 g1 zw_7_4 (Mo_isDone_dc.at 44 rfl) ?_
          refine r_iconst E (Mo_isDone_dc.at 45 rfl) ?_
          obtain ⟨g16, h⟩ := ite_e h
          refine r_iald E S13 g14 g16 (Mo_isDone_dc.at 46 rfl) ?_
          obtain ⟨g17, h⟩ := ite_e h
          obtain ⟨M18, eM18, h⟩ := lt1_e h
          refine u_iast E eM18 S13 g14 g17 (S13.1.inR _ _) (Mo_isDone_dc.at 47 rfl) (fun H locs S19 => ?_)
          refine r_iconst E (Mo_isDone_dc.at 48 rfl) ?_
          cases h
          exact r_zret E S19 z01_1 z01_1 (Mo_isDone_dc.at 49 rfl)
        · have h := ite_f h q
          refine r_iconst E (Mo_isDone_dc.at 36 rfl) ?_
          cases h
          exact r_zret E S13 z01_0 z01_0 (Mo_isDone_dc.at 37 rfl)
    · have h := ite_f h q
      refine u_al_n (x := a0) E (Mo_isDone_dc.at 50 rfl) hl rfl ?_
      refine u_gR E zf_12_37 S g1 zw_7_4 (Mo_isDone_dc.at 51 rfl) ?_
      refine u_il_n (x := v4) E (Mo_isDone_dc.at 52 rfl) hl rfl ?_
      obtain ⟨r20, er20, h⟩ := bd1_e h
      refine u_cSI (As := [zR G.2.2.1 (M a0 37), .int (zO v4)]) (rest := []) E S zcw_yX12_whyNotBorn zw_8_89 zw_8_88 (Mo_whyNotBorn_c l G fu top L M (M a0 37) v4 (S.1.inR _ _) hv4 er20) (zrm_ok (by decide) (by decide)) ⟨Nat.le_refl 0, Nat.le_refl 0⟩ rfl (Nat.zero_le 8) hl.size rfl (Mo_isDone_dc.at 53 rfl) (fun H locs hr20 S21 => ?_)
      refine r_iconst E (Mo_isDone_dc.at 54 rfl) ?_
      refine r_icmp_eq (tgt := 93) E hr20 (show InR (-1) by decide) (Mo_isDone_dc.at 55 rfl) (by decide) (fun q => ?_) (fun q => ?_)
      · have h := ite_t h q
        refine u_al_n (x := a0) E (Mo_isDone_dc.at 58 rfl) hl rfl ?_
        refine u_gR E zf_12_37 S21 g1 zw_7_4 (Mo_isDone_dc.at 59 rfl) ?_
        refine u_il_n (x := v4) E (Mo_isDone_dc.at 60 rfl) hl rfl ?_
        obtain ⟨M22, eM22, h⟩ := bd1_e h
        refine u_cSU (As := [zR G.2.2.1 (M a0 37), .int (zO v4)]) (rest := []) E S21 zcw_yX12_isBorn zw_8_95 zw_8_94 (Mo_isBorn_c l G fu top L M (M a0 37) v4 (S21.1.inR _ _) hv4 eM22) (zrm_ok (by decide) (by decide)) ⟨Nat.le_refl 0, Nat.le_refl 0⟩ rfl (Nat.zero_le 8) hl.size rfl (Mo_isDone_dc.at 61 rfl) (fun H locs _ S23 => ?_)
        refine r_iconst E (Mo_isDone_dc.at 62 rfl) ?_
        cases h
        exact r_zret E S23 z01_1 z01_1 (Mo_isDone_dc.at 63 rfl)
      · have h := ite_f h q
        refine r_iconst E (Mo_isDone_dc.at 56 rfl) ?_
        cases h
        exact r_zret E S21 z01_0 z01_0 (Mo_isDone_dc.at 57 rfl)
theorem Mo_isDone_c (l : Launch) (G : zG) (fu : Nat) (top : Int) (L : zL) (M : zM) (a0 : Int) (a1 : Int) {res : (zM × Int)} (ha0 : InR a0) (ha1 : InR a1) (h : Mo_isDone fu L M a0 a1 = some res) : Met l yX12_isDone (Cond.code yX12_isDone cX12_isDone 3 (some .boolean) :: zTB) (zrm 4 0 0) (va_Pc [zR G.2.2.1 a0, .int (zO a1)] (zPre G top L M)) (zQ G top L res.1 (some (.int (zO res.2))) (0 ≤ res.2 ∧ res.2 ≤ 1)) 0 0 (zA G) :=
  z_met (by decide +kernel) (by simp [zR_cat, zcat_I, zcat_S]) (Nat.le_of_ble_eq_true rfl) fun p e s m below meth c ls E hn S hl => Mo_isDone_w E ha0 ha1 S (hl.sub (And.intro rfl (And.intro rfl True.intro))) h
end
theorem Mo_story_dc : zDL cX12_story [(0, .aload_n 0, 1, 1), (1, .iconst 0, 1, 2), (2, .putfield 66, 3, 5), (5, .aload_n 0, 1, 6), (6, .getfield 238, 3, 9), (9, .ifCond .eq 11, 3, 12), (12, .aload_n 0, 1, 13), (13, .invokevirtual 248, 3, 16), (16, .iconst (-1), 1, 17), (17, .if_icmp .eq 5, 3, 20), (20, .iconst (-1), 1, 21), (21, .ireturn, 1, 22), (22, .aload_n 0, 1, 23), (23, .iconst 0, 1, 24), (24, .putfield 73, 3, 27), (27, .aload_n 0, 1, 28), (28, .iconst 1, 1, 29), (29, .putfield 265, 3, 32), (32, .aload_n 0, 1, 33), (33, .aload_n 0, 1, 34), (34, .getfield 57, 3, 37), (37, .invokevirtual 255, 3, 40), (40, .iconst 0, 1, 41), (41, .istore_n 1, 1, 42), (42, .iload_n 1, 1, 43), (43, .aload_n 0, 1, 44), (44, .getfield 221, 3, 47), (47, .if_icmp .ge 17, 3, 50), (50, .aload_n 0, 1, 51), (51, .iload_n 1, 1, 52), (52, .invokevirtual 449, 3, 55), (55, .ifCond .eq 9, 3, 58), (58, .iinc 1 1, 3, 61), (61, .goto (-19), 3, 64), (64, .aload_n 0, 1, 65), (65, .iload_n 1, 1, 66), (66, .aload_n 0, 1, 67), (67, .getfield 221, 3, 70), (70, .if_icmp .ge 7, 3, 73), (73, .iload_n 1, 1, 74), (74, .goto 4, 3, 77), (77, .iconst (-1), 1, 78), (78, .putfield 452, 3, 81), (81, .iload_n 1, 1, 82), (82, .ireturn, 1, 83)] := zDL.of (by decide +kernel)
section
variable {p : Program} {l : Launch} {e : Env} {s : State} {m : MethodId} {args : Array Value} {below : List Frame} {meth : Method} {c : Code} {G : zG} {top : Int} {L : zL} {fu : Nat}
theorem Mo_story_b64_w (E : zEv p m c cX12_story 2 s args RX12 meth (some .int) G) {res : (zM × Int)} {M : zM} {x0 : Int} {x1 : Int} {H : Heap} {locs : List Loc} {ls : Array Slot} (hx0 : InR x0) (hx1 : InR x1) (S : zS G top L M s H locs) (hl : zLV ls 2 [some (zR G.2.2.1 x0), some (.int (zO x1))]) (h : Mo_story_b64 fu L M x0 x1 = some res) : W p l e (zrm 11 0 0) s m args below meth c H locs 0 0 (MQ below (zQ G top L res.1 (some (.int (zO res.2))) (InR res.2)) args s 0 0 (zA G)) (F0 m 64 ls []) := by
  unfold Mo_story_b64 at h
  refine u_al_n (x := x0) E (Mo_story_dc.at 34 rfl) hl rfl ?_
  refine u_il_n (x := x1) E (Mo_story_dc.at 35 rfl) hl rfl ?_
  refine u_al_n (x := x0) E (Mo_story_dc.at 36 rfl) hl rfl ?_
  obtain ⟨g17, h⟩ := ite_e h
  refine u_gI E zf_12_16 S g17 zw_6_223 (Mo_story_dc.at 37 rfl) ?_
  refine r_icmp_ge (tgt := 77) E hx1 (S.1.inR _ _) (Mo_story_dc.at 38 rfl) (by decide) (fun q => ?_) (fun q => ?_)
  · have h := ite_t h q
    refine u_il_n (x := x1) E (Mo_story_dc.at 39 rfl) hl rfl ?_
    refine r_goto (tgt := 78) E (Mo_story_dc.at 40 rfl) (by decide) ?_
    obtain ⟨M18, eM18, h⟩ := lt1_e h
    refine u_pI E eM18 zf_12_39 S g17 hx1 (Or.inl rfl) rfl zw_7_6 (Mo_story_dc.at 42 rfl) (fun H locs S19 => ?_)
    refine u_il_n (x := x1) E (Mo_story_dc.at 43 rfl) hl rfl ?_
    cases h
    exact r_iret E S19 hx1 (Mo_story_dc.at 44 rfl)
  · have h := ite_f h q
    refine r_iconst E (Mo_story_dc.at 41 rfl) ?_
    obtain ⟨M20, eM20, h⟩ := lt1_e h
    refine u_pI E eM20 zf_12_39 S g17 (show InR (-1) by decide) (Or.inl rfl) rfl zw_7_6 (Mo_story_dc.at 42 rfl) (fun H locs S21 => ?_)
    refine u_il_n (x := x1) E (Mo_story_dc.at 43 rfl) hl rfl ?_
    cases h
    exact r_iret E S21 hx1 (Mo_story_dc.at 44 rfl)
theorem Mo_story_s42_w (E : zEv p m c cX12_story 2 s args RX12 meth (some .int) G) {res : (zM × Int)} {k42 : zM → Int → Int → Option (zM × Int)} (hk42 : ∀ (M : zM) (x0 : Int) (x1 : Int), InR x0 → InR x1 → ∀ (H : Heap) (locs : List Loc) (ls : Array Slot), zS G top L M s H locs → zLV ls 2 [some (zR G.2.2.1 x0), some (.int (zO x1))] → k42 M x0 x1 = some res → W p l e (zrm 11 0 0) s m args below meth c H locs 0 0 (MQ below (zQ G top L res.1 (some (.int (zO res.2))) (InR res.2)) args s 0 0 (zA G)) (F0 m 42 ls [])) {M : zM} {x0 : Int} {x1 : Int} {H : Heap} {locs : List Loc} {ls : Array Slot} (hx0 : InR x0) (hx1 : InR x1) (S : zS G top L M s H locs) (hl : zLV ls 2 [some (zR G.2.2.1 x0), some (.int (zO x1))]) (h : Mo_story_s42 fu k42 L M x0 x1 = some res) : W p l e (zrm 11 0 0) s m args below meth c H locs 0 0 (MQ below (zQ G top L res.1 (some (.int (zO res.2))) (InR res.2)) args s 0 0 (zA G)) (F0 m 42 ls []) := by
  unfold Mo_story_s42 at h
  refine u_il_n (x := x1) E (Mo_story_dc.at 24 rfl) hl rfl ?_
  refine u_al_n (x := x0) E (Mo_story_dc.at 25 rfl) hl rfl ?_
  obtain ⟨g13, h⟩ := ite_e h
  refine u_gI E zf_12_16 S g13 zw_6_223 (Mo_story_dc.at 26 rfl) ?_
  refine r_icmp_ge (tgt := 64) E hx1 (S.1.inR _ _) (Mo_story_dc.at 27 rfl) (by decide) (fun q => ?_) (fun q => ?_)
  · have h := ite_t h q
    refine u_al_n (x := x0) E (Mo_story_dc.at 28 rfl) hl rfl ?_
    refine u_il_n (x := x1) E (Mo_story_dc.at 29 rfl) hl rfl ?_
    obtain ⟨M15, r14, er14, h⟩ := bd2_e h
    refine u_cVI (As := [.int (zO x1)]) (rest := []) E S zcw_yX12_isDone zw_9_51 zq_7_10 zw_9_49 zck_12.1 rfl g13 (Mo_isDone_c l G fu top L M x0 x1 hx0 hx1 er14) (zrm_ok (by decide) (by decide)) ⟨Nat.le_refl 0, Nat.le_refl 0⟩ rfl (Nat.zero_le 8) hl.size rfl (Mo_story_dc.at 30 rfl) (fun H locs hr14 S16 => ?_)
    refine r_if_eq (tgt := 64) E (inR_01 hr14) (Mo_story_dc.at 31 rfl) (by decide) (fun q => ?_) (fun q => ?_)
    · have h := ite_t h q
      exact Mo_story_b64_w (x0 := x0) (x1 := x1)  E hx0 hx1 S16 (hl.sub (And.intro rfl (And.intro rfl True.intro))) h
    · have h := ite_f h q
      obtain ⟨v22, ev22, h⟩ := lt1_e h
      have hv22 := inR_eq ev22 (inR_w32 _)
      refine u_iinc (y := v22) (vs' := [some (zR G.2.2.1 x0), some (.int (zO v22))]) E ev22 (Mo_story_dc.at 32 rfl) hl rfl (by decide) rfl (fun ls hl => ?_)
      refine r_goto (tgt := 42) E (Mo_story_dc.at 33 rfl) (by decide) ?_
      exact hk42 _ x0 v22 hx0 hv22 _ _ _ S16 (hl.sub (And.intro rfl (And.intro rfl True.intro))) h
  · have h := ite_f h q
    exact Mo_story_b64_w (x0 := x0) (x1 := x1)  E hx0 hx1 S (hl.sub (And.intro rfl (And.intro rfl True.intro))) h
theorem Mo_story_l42_w (E : zEv p m c cX12_story 2 s args RX12 meth (some .int) G) {res : (zM × Int)} : ∀ (n : Nat) (M : zM) (x0 : Int) (x1 : Int), InR x0 → InR x1 → ∀ (H : Heap) (locs : List Loc) (ls : Array Slot), zS G top L M s H locs → zLV ls 2 [some (zR G.2.2.1 x0), some (.int (zO x1))] → Mo_story_l42 fu L n M x0 x1 = some res → W p l e (zrm 11 0 0) s m args below meth c H locs 0 0 (MQ below (zQ G top L res.1 (some (.int (zO res.2))) (InR res.2)) args s 0 0 (zA G)) (F0 m 42 ls [])
  | 0, _, _, _ => fun _ _ _ _ _ _ _ h => (by cases h)
  | n + 1, M, x0, x1 => fun hx0 hx1 H locs ls S hl h => Mo_story_s42_w E (fun M x0 x1 hx0 hx1 H locs ls S hl h => Mo_story_l42_w E n M x0 x1 hx0 hx1 H locs ls S hl h) hx0 hx1 S hl h
theorem Mo_story_w (E : zEv p m c cX12_story 2 s args RX12 meth (some .int) G) {res : (zM × Int)} {M : zM} {a0 : Int} {H : Heap} {locs : List Loc} {ls : Array Slot} (ha0 : InR a0) (S : zS G top L M s H locs) (hl : zLV ls 2 [some (zR G.2.2.1 a0), none]) (h : Mo_story fu L M a0 = some res) : W p l e (zrm 11 0 0) s m args below meth c H locs 0 0 (MQ below (zQ G top L res.1 (some (.int (zO res.2))) (InR res.2)) args s 0 0 (zA G)) (F0 m 0 ls []) := by
  unfold Mo_story at h
  refine u_al_n (x := a0) E (Mo_story_dc.at 0 rfl) hl rfl ?_
  refine r_iconst E (Mo_story_dc.at 1 rfl) ?_
  obtain ⟨g1, h⟩ := ite_e h
  obtain ⟨M2, eM2, h⟩ := lt1_e h
  refine u_pI E eM2 zf_12_0 S g1 (show InR 0 by decide) (Or.inl rfl) rfl zw_6_207 (Mo_story_dc.at 2 rfl) (fun H locs S3 => ?_)
  refine u_al_n (x := a0) E (Mo_story_dc.at 3 rfl) hl rfl ?_
  refine u_gI E zf_12_19 S3 g1 zw_6_226 (Mo_story_dc.at 4 rfl) ?_
  refine r_if_eq (tgt := 20) E (S3.1.inR _ _) (Mo_story_dc.at 5 rfl) (by decide) (fun q => ?_) (fun q => ?_)
  · have h := ite_t h q
    refine r_iconst E (Mo_story_dc.at 10 rfl) ?_
    cases h
    exact r_iret E S3 (show InR (-1) by decide) (Mo_story_dc.at 11 rfl)
  · have h := ite_f h q
    refine u_al_n (x := a0) E (Mo_story_dc.at 6 rfl) hl rfl ?_
    obtain ⟨M5, r4, er4, h⟩ := bd2_e h
    refine u_cVI (As := []) (rest := []) E S3 zcw_yX12_readsStory zw_8_21 zq_5_5 zw_8_19 zck_12.1 rfl g1 (Mo_readsStory_c l G fu top L M2 a0 ha0 er4) (zrm_ok (by decide) (by decide)) ⟨Nat.le_refl 0, Nat.le_refl 0⟩ rfl (Nat.zero_le 8) hl.size rfl (Mo_story_dc.at 7 rfl) (fun H locs hr4 S6 => ?_)
    refine r_iconst E (Mo_story_dc.at 8 rfl) ?_
    refine r_icmp_eq (tgt := 22) E hr4 (show InR (-1) by decide) (Mo_story_dc.at 9 rfl) (by decide) (fun q => ?_) (fun q => ?_)
    · have h := ite_t h q
      refine u_al_n (x := a0) E (Mo_story_dc.at 12 rfl) hl rfl ?_
      refine r_iconst E (Mo_story_dc.at 13 rfl) ?_
      obtain ⟨M7, eM7, h⟩ := lt1_e h
      refine u_pI E eM7 zf_12_2 S6 g1 (show InR 0 by decide) (Or.inl rfl) rfl zw_6_209 (Mo_story_dc.at 14 rfl) (fun H locs S8 => ?_)
      refine u_al_n (x := a0) E (Mo_story_dc.at 15 rfl) hl rfl ?_
      refine r_iconst E (Mo_story_dc.at 16 rfl) ?_
      obtain ⟨M9, eM9, h⟩ := lt1_e h
      refine u_pZ E eM9 zf_12_38 S8 g1 z01_1 (Or.inl rfl) rfl zw_7_5 (Mo_story_dc.at 17 rfl) (fun H locs S10 => ?_)
      refine u_al_n (x := a0) E (Mo_story_dc.at 18 rfl) hl rfl ?_
      refine u_al_n (x := a0) E (Mo_story_dc.at 19 rfl) hl rfl ?_
      refine u_gR E zf_12_37 S10 g1 zw_7_4 (Mo_story_dc.at 20 rfl) ?_
      obtain ⟨M11, eM11, h⟩ := bd1_e h
      refine u_cVU (As := [zR G.2.2.1 (M9 a0 37)]) (rest := []) E S10 zcw_yX12_beginsWorld zw_8_40 zq_5_8 zw_8_38 zck_12.1 rfl g1 (Mo_beginsWorld_c l G fu top L M9 a0 (M9 a0 37) ha0 (S10.1.inR _ _) eM11) (zrm_ok (by decide) (by decide)) ⟨Nat.le_refl 0, Nat.le_refl 0⟩ rfl (Nat.zero_le 8) hl.size rfl (Mo_story_dc.at 21 rfl) (fun H locs _ S12 => ?_)
      refine r_iconst E (Mo_story_dc.at 22 rfl) ?_
      refine u_ist_n (y := 0) (vs' := [some (zR G.2.2.1 a0), some (.int (zO 0))]) E rfl (Mo_story_dc.at 23 rfl) hl (by decide) rfl (fun ls hl => ?_)
      exact Mo_story_l42_w E fu _ a0 0 ha0 (show InR 0 by decide) _ _ _ S12 (hl.sub (And.intro rfl (And.intro rfl True.intro))) h
    · have h := ite_f h q
      refine r_iconst E (Mo_story_dc.at 10 rfl) ?_
      cases h
      exact r_iret E S6 (show InR (-1) by decide) (Mo_story_dc.at 11 rfl)
theorem Mo_story_c (l : Launch) (G : zG) (fu : Nat) (top : Int) (L : zL) (M : zM) (a0 : Int) {res : (zM × Int)} (ha0 : InR a0) (h : Mo_story fu L M a0 = some res) : Met l yX12_story (Cond.code yX12_story cX12_story 2 (some .int) :: zTB) (zrm 11 0 0) (va_Pc [zR G.2.2.1 a0] (zPre G top L M)) (zQ G top L res.1 (some (.int (zO res.2))) (InR res.2)) 0 0 (zA G) :=
  z_met (by decide +kernel) (by simp [zR_cat, zcat_I, zcat_S]) (Nat.le_of_ble_eq_true rfl) fun p e s m below meth c ls E hn S hl => Mo_story_w E ha0 S (hl.sub (And.intro rfl True.intro)) h
end
theorem Mo_storied_dc : zDL cX12_storied [(0, .aload_n 0, 1, 1), (1, .iconst 0, 1, 2), (2, .putfield 66, 3, 5), (5, .aload_n 0, 1, 6), (6, .getfield 265, 3, 9), (9, .ifCond .ne 5, 3, 12), (12, .iconst (-1), 1, 13), (13, .ireturn, 1, 14), (14, .iload_n 1, 1, 15), (15, .tableswitch 73 0 4 #[33, 40, 47, 52, 61], 33, 48), (48, .aload_n 0, 1, 49), (49, .getfield 57, 3, 52), (52, .iconst 0, 1, 53), (53, .iaload, 1, 54), (54, .ireturn, 1, 55), (55, .aload_n 0, 1, 56), (56, .getfield 57, 3, 59), (59, .iconst 1, 1, 60), (60, .iaload, 1, 61), (61, .ireturn, 1, 62), (62, .aload_n 0, 1, 63), (63, .getfield 452, 3, 66), (66, .ireturn, 1, 67), (67, .aload_n 0, 1, 68), (68, .aload_n 0, 1, 69), (69, .getfield 57, 3, 72), (72, .invokevirtual 315, 3, 75), (75, .ireturn, 1, 76), (76, .aload_n 0, 1, 77), (77, .getfield 57, 3, 80), (80, .aload_n 0, 1, 81), (81, .getfield 251, 3, 84), (84, .invokestatic 312, 3, 87), (87, .ireturn, 1, 88), (88, .iconst (-1), 1, 89), (89, .ireturn, 1, 90)] := zDL.of (by decide +kernel)
section
variable {p : Program} {l : Launch} {e : Env} {s : State} {m : MethodId} {args : Array Value} {below : List Frame} {meth : Method} {c : Code} {G : zG} {top : Int} {L : zL} {fu : Nat}
theorem Mo_storied_w (E : zEv p m c cX12_storied 2 s args RX12 meth (some .int) G) {res : (zM × Int)} {M : zM} {a0 : Int} {a1 : Int} {H : Heap} {locs : List Loc} {ls : Array Slot} (ha0 : InR a0) (ha1 : InR a1) (S : zS G top L M s H locs) (hl : zLV ls 2 [some (zR G.2.2.1 a0), some (.int (zO a1))]) (h : Mo_storied fu L M a0 a1 = some res) : W p l e (zrm 3 0 0) s m args below meth c H locs 0 0 (MQ below (zQ G top L res.1 (some (.int (zO res.2))) (InR res.2)) args s 0 0 (zA G)) (F0 m 0 ls []) := by
  unfold Mo_storied at h
  refine u_al_n (x := a0) E (Mo_storied_dc.at 0 rfl) hl rfl ?_
  refine r_iconst E (Mo_storied_dc.at 1 rfl) ?_
  obtain ⟨g1, h⟩ := ite_e h
  obtain ⟨M2, eM2, h⟩ := lt1_e h
  refine u_pI E eM2 zf_12_0 S g1 (show InR 0 by decide) (Or.inl rfl) rfl zw_6_207 (Mo_storied_dc.at 2 rfl) (fun H locs S3 => ?_)
  refine u_al_n (x := a0) E (Mo_storied_dc.at 3 rfl) hl rfl ?_
  refine u_gI E zf_12_38 S3 g1 zw_7_5 (Mo_storied_dc.at 4 rfl) ?_
  refine r_if_ne (tgt := 14) E (S3.1.inR _ _) (Mo_storied_dc.at 5 rfl) (by decide) (fun q => ?_) (fun q => ?_)
  · have h := ite_t h q
    refine r_iconst E (Mo_storied_dc.at 6 rfl) ?_
    cases h
    exact r_iret E S3 (show InR (-1) by decide) (Mo_storied_dc.at 7 rfl)
  · have h := ite_f h q
    refine u_il_n (x := a1) E (Mo_storied_dc.at 8 rfl) hl rfl ?_
    by_cases q6 : a1 = 0
    · have h := ite_t h q6
      refine r_tin (tgt := 48) (k := 0) E ha1 q6 (Mo_storied_dc.at 9 rfl) (by decide) (by decide) rfl (by decide) ?_
      refine u_al_n (x := a0) E (Mo_storied_dc.at 10 rfl) hl rfl ?_
      refine u_gR E zf_12_37 S3 g1 zw_7_4 (Mo_storied_dc.at 11 rfl) ?_
      refine r_iconst E (Mo_storied_dc.at 12 rfl) ?_
      obtain ⟨g4, h⟩ := ite_e h
      obtain ⟨g5, h⟩ := ite_e h
      refine r_iald E S3 g4 g5 (Mo_storied_dc.at 13 rfl) ?_
      cases h
      exact r_iret E S3 (S3.1.inR _ _) (Mo_storied_dc.at 14 rfl)
    · have h := ite_f h q6
      by_cases q9 : a1 = 1
      · have h := ite_t h q9
        refine r_tin (tgt := 55) (k := 1) E ha1 q9 (Mo_storied_dc.at 9 rfl) (by decide) (by decide) rfl (by decide) ?_
        refine u_al_n (x := a0) E (Mo_storied_dc.at 15 rfl) hl rfl ?_
        refine u_gR E zf_12_37 S3 g1 zw_7_4 (Mo_storied_dc.at 16 rfl) ?_
        refine r_iconst E (Mo_storied_dc.at 17 rfl) ?_
        obtain ⟨g7, h⟩ := ite_e h
        obtain ⟨g8, h⟩ := ite_e h
        refine r_iald E S3 g7 g8 (Mo_storied_dc.at 18 rfl) ?_
        cases h
        exact r_iret E S3 (S3.1.inR _ _) (Mo_storied_dc.at 19 rfl)
      · have h := ite_f h q9
        by_cases q10 : a1 = 2
        · have h := ite_t h q10
          refine r_tin (tgt := 62) (k := 2) E ha1 q10 (Mo_storied_dc.at 9 rfl) (by decide) (by decide) rfl (by decide) ?_
          refine u_al_n (x := a0) E (Mo_storied_dc.at 20 rfl) hl rfl ?_
          refine u_gI E zf_12_39 S3 g1 zw_7_6 (Mo_storied_dc.at 21 rfl) ?_
          cases h
          exact r_iret E S3 (S3.1.inR _ _) (Mo_storied_dc.at 22 rfl)
        · have h := ite_f h q10
          by_cases q13 : a1 = 3
          · have h := ite_t h q13
            refine r_tin (tgt := 67) (k := 3) E ha1 q13 (Mo_storied_dc.at 9 rfl) (by decide) (by decide) rfl (by decide) ?_
            refine u_al_n (x := a0) E (Mo_storied_dc.at 23 rfl) hl rfl ?_
            refine u_al_n (x := a0) E (Mo_storied_dc.at 24 rfl) hl rfl ?_
            refine u_gR E zf_12_37 S3 g1 zw_7_4 (Mo_storied_dc.at 25 rfl) ?_
            obtain ⟨r11, er11, h⟩ := bd1_e h
            refine u_cVI (As := [zR G.2.2.1 (M2 a0 37)]) (rest := []) E S3 zcw_yX12_end_ zw_8_128 zq_5_15 zw_8_126 zck_12.1 rfl g1 (Mo_end1_c l G fu top L M2 a0 (M2 a0 37) ha0 (S3.1.inR _ _) er11) (zrm_ok (by decide) (by decide)) ⟨Nat.le_refl 0, Nat.le_refl 0⟩ rfl (Nat.zero_le 8) hl.size rfl (Mo_storied_dc.at 26 rfl) (fun H locs hr11 S12 => ?_)
            cases h
            exact r_iret E S12 hr11 (Mo_storied_dc.at 27 rfl)
          · have h := ite_f h q13
            by_cases q16 : a1 = 4
            · have h := ite_t h q16
              refine r_tin (tgt := 76) (k := 4) E ha1 q16 (Mo_storied_dc.at 9 rfl) (by decide) (by decide) rfl (by decide) ?_
              refine u_al_n (x := a0) E (Mo_storied_dc.at 28 rfl) hl rfl ?_
              refine u_gR E zf_12_37 S3 g1 zw_7_4 (Mo_storied_dc.at 29 rfl) ?_
              refine u_al_n (x := a0) E (Mo_storied_dc.at 30 rfl) hl rfl ?_
              refine u_gI E zf_12_20 S3 g1 zw_6_227 (Mo_storied_dc.at 31 rfl) ?_
              obtain ⟨r14, er14, h⟩ := bd1_e h
              refine u_cSI (As := [zR G.2.2.1 (M2 a0 37), .int (zO (M2 a0 20))]) (rest := []) E S3 zcw_yX12_living zw_8_119 zw_8_118 (Mo_living_c l G fu top L M2 (M2 a0 37) (M2 a0 20) (S3.1.inR _ _) (S3.1.inR _ _) er14) (zrm_ok (by decide) (by decide)) ⟨Nat.le_refl 0, Nat.le_refl 0⟩ rfl (Nat.zero_le 8) hl.size rfl (Mo_storied_dc.at 32 rfl) (fun H locs hr14 S15 => ?_)
              cases h
              exact r_iret E S15 hr14 (Mo_storied_dc.at 33 rfl)
            · have h := ite_f h q16
              refine r_tout (tgt := 88) E ha1 (by omega) (Mo_storied_dc.at 9 rfl) (by decide) ?_
              refine r_iconst E (Mo_storied_dc.at 34 rfl) ?_
              cases h
              exact r_iret E S3 (show InR (-1) by decide) (Mo_storied_dc.at 35 rfl)
theorem Mo_storied_c (l : Launch) (G : zG) (fu : Nat) (top : Int) (L : zL) (M : zM) (a0 : Int) (a1 : Int) {res : (zM × Int)} (ha0 : InR a0) (ha1 : InR a1) (h : Mo_storied fu L M a0 a1 = some res) : Met l yX12_storied (Cond.code yX12_storied cX12_storied 2 (some .int) :: zTB) (zrm 3 0 0) (va_Pc [zR G.2.2.1 a0, .int (zO a1)] (zPre G top L M)) (zQ G top L res.1 (some (.int (zO res.2))) (InR res.2)) 0 0 (zA G) :=
  z_met (by decide +kernel) (by simp [zR_cat, zcat_I, zcat_S]) (Nat.le_of_ble_eq_true rfl) fun p e s m below meth c ls E hn S hl => Mo_storied_w E ha0 ha1 S (hl.sub (And.intro rfl (And.intro rfl True.intro))) h
end
theorem Mo_storyState_dc : zDL cX12_storyState [(0, .aload_n 0, 1, 1), (1, .iconst 0, 1, 2), (2, .putfield 66, 3, 5), (5, .aload_n 0, 1, 6), (6, .getfield 265, 3, 9), (9, .ifCond .eq 23, 3, 12), (12, .aload_n 0, 1, 13), (13, .iload_n 1, 1, 14), (14, .invokevirtual 282, 3, 17), (17, .ifCond .eq 15, 3, 20), (20, .aload_n 0, 1, 21), (21, .aload_n 0, 1, 22), (22, .getfield 57, 3, 25), (25, .iload_n 1, 1, 26), (26, .invokevirtual 444, 3, 29), (29, .goto 4, 3, 32), (32, .iconst (-1), 1, 33), (33, .ireturn, 1, 34)] := zDL.of (by decide +kernel)
section
variable {p : Program} {l : Launch} {e : Env} {s : State} {m : MethodId} {args : Array Value} {below : List Frame} {meth : Method} {c : Code} {G : zG} {top : Int} {L : zL} {fu : Nat}
theorem Mo_storyState_w (E : zEv p m c cX12_storyState 2 s args RX12 meth (some .int) G) {res : (zM × Int)} {M : zM} {a0 : Int} {a1 : Int} {H : Heap} {locs : List Loc} {ls : Array Slot} (ha0 : InR a0) (ha1 : InR a1) (S : zS G top L M s H locs) (hl : zLV ls 2 [some (zR G.2.2.1 a0), some (.int (zO a1))]) (h : Mo_storyState fu L M a0 a1 = some res) : W p l e (zrm 52 0 0) s m args below meth c H locs 0 0 (MQ below (zQ G top L res.1 (some (.int (zO res.2))) (InR res.2)) args s 0 0 (zA G)) (F0 m 0 ls []) := by
  unfold Mo_storyState at h
  refine u_al_n (x := a0) E (Mo_storyState_dc.at 0 rfl) hl rfl ?_
  refine r_iconst E (Mo_storyState_dc.at 1 rfl) ?_
  obtain ⟨g1, h⟩ := ite_e h
  obtain ⟨M2, eM2, h⟩ := lt1_e h
  refine u_pI E eM2 zf_12_0 S g1 (show InR 0 by decide) (Or.inl rfl) rfl zw_6_207 (Mo_storyState_dc.at 2 rfl) (fun H locs S3 => ?_)
  refine u_al_n (x := a0) E (Mo_storyState_dc.at 3 rfl) hl rfl ?_
  refine u_gI E zf_12_38 S3 g1 zw_7_5 (Mo_storyState_dc.at 4 rfl) ?_
  refine r_if_eq (tgt := 32) E (S3.1.inR _ _) (Mo_storyState_dc.at 5 rfl) (by decide) (fun q => ?_) (fun q => ?_)
  · have h := ite_t h q
    refine r_iconst E (Mo_storyState_dc.at 16 rfl) ?_
    cases h
    exact r_iret E S3 (show InR (-1) by decide) (Mo_storyState_dc.at 17 rfl)
  · have h := ite_f h q
    refine u_al_n (x := a0) E (Mo_storyState_dc.at 6 rfl) hl rfl ?_
    refine u_il_n (x := a1) E (Mo_storyState_dc.at 7 rfl) hl rfl ?_
    obtain ⟨r4, er4, h⟩ := bd1_e h
    refine u_cVI (As := [.int (zO a1)]) (rest := []) E S3 zcw_yX12_isGift zw_8_77 zq_5_12 zw_8_75 zck_12.1 rfl g1 (Mo_isGift_c l G fu top L M2 a0 a1 ha0 ha1 er4) (zrm_ok (by decide) (by decide)) ⟨Nat.le_refl 0, Nat.le_refl 0⟩ rfl (Nat.zero_le 8) hl.size rfl (Mo_storyState_dc.at 8 rfl) (fun H locs hr4 S5 => ?_)
    refine r_if_eq (tgt := 32) E (inR_01 hr4) (Mo_storyState_dc.at 9 rfl) (by decide) (fun q => ?_) (fun q => ?_)
    · have h := ite_t h q
      refine r_iconst E (Mo_storyState_dc.at 16 rfl) ?_
      cases h
      exact r_iret E S5 (show InR (-1) by decide) (Mo_storyState_dc.at 17 rfl)
    · have h := ite_f h q
      refine u_al_n (x := a0) E (Mo_storyState_dc.at 10 rfl) hl rfl ?_
      refine u_al_n (x := a0) E (Mo_storyState_dc.at 11 rfl) hl rfl ?_
      refine u_gR E zf_12_37 S5 g1 zw_7_4 (Mo_storyState_dc.at 12 rfl) ?_
      refine u_il_n (x := a1) E (Mo_storyState_dc.at 13 rfl) hl rfl ?_
      obtain ⟨M7, r6, er6, h⟩ := bd2_e h
      refine u_cVI (As := [zR G.2.2.1 (M2 a0 37), .int (zO a1)]) (rest := []) E S5 zcw_yX12_stateOf zw_9_26 zq_7_7 zw_9_24 zck_12.1 rfl g1 (Mo_stateOf_c l G fu top L M2 a0 (M2 a0 37) a1 ha0 (S5.1.inR _ _) ha1 er6) (zrm_ok (by decide) (by decide)) ⟨Nat.le_refl 0, Nat.le_refl 0⟩ rfl (Nat.zero_le 8) hl.size rfl (Mo_storyState_dc.at 14 rfl) (fun H locs hr6 S8 => ?_)
      refine r_goto (tgt := 33) E (Mo_storyState_dc.at 15 rfl) (by decide) ?_
      cases h
      exact r_iret E S8 hr6 (Mo_storyState_dc.at 17 rfl)
theorem Mo_storyState_c (l : Launch) (G : zG) (fu : Nat) (top : Int) (L : zL) (M : zM) (a0 : Int) (a1 : Int) {res : (zM × Int)} (ha0 : InR a0) (ha1 : InR a1) (h : Mo_storyState fu L M a0 a1 = some res) : Met l yX12_storyState (Cond.code yX12_storyState cX12_storyState 2 (some .int) :: zTB) (zrm 52 0 0) (va_Pc [zR G.2.2.1 a0, .int (zO a1)] (zPre G top L M)) (zQ G top L res.1 (some (.int (zO res.2))) (InR res.2)) 0 0 (zA G) :=
  z_met (by decide +kernel) (by simp [zR_cat, zcat_I, zcat_S]) (Nat.le_of_ble_eq_true rfl) fun p e s m below meth c ls E hn S hl => Mo_storyState_w E ha0 ha1 S (hl.sub (And.intro rfl (And.intro rfl True.intro))) h
end
theorem Mo_storyVests_dc : zDL cX12_storyVests [(0, .aload_n 0, 1, 1), (1, .iconst 0, 1, 2), (2, .putfield 66, 3, 5), (5, .aload_n 0, 1, 6), (6, .getfield 265, 3, 9), (9, .ifCond .eq 35, 3, 12), (12, .aload_n 0, 1, 13), (13, .iload_n 1, 1, 14), (14, .invokevirtual 282, 3, 17), (17, .ifCond .eq 27, 3, 20), (20, .aload_n 0, 1, 21), (21, .getfield 57, 3, 24), (24, .iload_n 2, 1, 25), (25, .invokestatic 287, 3, 28), (28, .ifCond .eq 16, 3, 31), (31, .aload_n 0, 1, 32), (32, .aload_n 0, 1, 33), (33, .getfield 57, 3, 36), (36, .iload_n 1, 1, 37), (37, .iload_n 2, 1, 38), (38, .invokevirtual 435, 3, 41), (41, .goto 6, 3, 44), (44, .ldc_w 318, 3, 47), (47, .ireturn, 1, 48)] := zDL.of (by decide +kernel)
section
variable {p : Program} {l : Launch} {e : Env} {s : State} {m : MethodId} {args : Array Value} {below : List Frame} {meth : Method} {c : Code} {G : zG} {top : Int} {L : zL} {fu : Nat}
theorem Mo_storyVests_w (E : zEv p m c cX12_storyVests 3 s args RX12 meth (some .int) G) {res : (zM × Int)} {M : zM} {a0 : Int} {a1 : Int} {a2 : Int} {H : Heap} {locs : List Loc} {ls : Array Slot} (ha0 : InR a0) (ha1 : InR a1) (ha2 : InR a2) (S : zS G top L M s H locs) (hl : zLV ls 3 [some (zR G.2.2.1 a0), some (.int (zO a1)), some (.int (zO a2))]) (h : Mo_storyVests fu L M a0 a1 a2 = some res) : W p l e (zrm 50 0 0) s m args below meth c H locs 0 0 (MQ below (zQ G top L res.1 (some (.int (zO res.2))) (InR res.2)) args s 0 0 (zA G)) (F0 m 0 ls []) := by
  unfold Mo_storyVests at h
  refine u_al_n (x := a0) E (Mo_storyVests_dc.at 0 rfl) hl rfl ?_
  refine r_iconst E (Mo_storyVests_dc.at 1 rfl) ?_
  obtain ⟨g1, h⟩ := ite_e h
  obtain ⟨M2, eM2, h⟩ := lt1_e h
  refine u_pI E eM2 zf_12_0 S g1 (show InR 0 by decide) (Or.inl rfl) rfl zw_6_207 (Mo_storyVests_dc.at 2 rfl) (fun H locs S3 => ?_)
  refine u_al_n (x := a0) E (Mo_storyVests_dc.at 3 rfl) hl rfl ?_
  refine u_gI E zf_12_38 S3 g1 zw_7_5 (Mo_storyVests_dc.at 4 rfl) ?_
  refine r_if_eq (tgt := 44) E (S3.1.inR _ _) (Mo_storyVests_dc.at 5 rfl) (by decide) (fun q => ?_) (fun q => ?_)
  · have h := ite_t h q
    refine r_ldcw (n := (-1000000)) E (Mo_storyVests_dc.at 22 rfl) zw_8_134 rfl ?_
    cases h
    exact r_iret E S3 (show InR (-1000000) by decide) (Mo_storyVests_dc.at 23 rfl)
  · have h := ite_f h q
    refine u_al_n (x := a0) E (Mo_storyVests_dc.at 6 rfl) hl rfl ?_
    refine u_il_n (x := a1) E (Mo_storyVests_dc.at 7 rfl) hl rfl ?_
    obtain ⟨r4, er4, h⟩ := bd1_e h
    refine u_cVI (As := [.int (zO a1)]) (rest := []) E S3 zcw_yX12_isGift zw_8_77 zq_5_12 zw_8_75 zck_12.1 rfl g1 (Mo_isGift_c l G fu top L M2 a0 a1 ha0 ha1 er4) (zrm_ok (by decide) (by decide)) ⟨Nat.le_refl 0, Nat.le_refl 0⟩ rfl (Nat.zero_le 8) hl.size rfl (Mo_storyVests_dc.at 8 rfl) (fun H locs hr4 S5 => ?_)
    refine r_if_eq (tgt := 44) E (inR_01 hr4) (Mo_storyVests_dc.at 9 rfl) (by decide) (fun q => ?_) (fun q => ?_)
    · have h := ite_t h q
      refine r_ldcw (n := (-1000000)) E (Mo_storyVests_dc.at 22 rfl) zw_8_134 rfl ?_
      cases h
      exact r_iret E S5 (show InR (-1000000) by decide) (Mo_storyVests_dc.at 23 rfl)
    · have h := ite_f h q
      refine u_al_n (x := a0) E (Mo_storyVests_dc.at 10 rfl) hl rfl ?_
      refine u_gR E zf_12_37 S5 g1 zw_7_4 (Mo_storyVests_dc.at 11 rfl) ?_
      refine u_il_n (x := a2) E (Mo_storyVests_dc.at 12 rfl) hl rfl ?_
      obtain ⟨r6, er6, h⟩ := bd1_e h
      refine u_cSI (As := [zR G.2.2.1 (M2 a0 37), .int (zO a2)]) (rest := []) E S5 zcw_yX12_isIn zw_8_92 zw_8_91 (Mo_isIn_c l G fu top L M2 (M2 a0 37) a2 (S5.1.inR _ _) ha2 er6) (zrm_ok (by decide) (by decide)) ⟨Nat.le_refl 0, Nat.le_refl 0⟩ rfl (Nat.zero_le 8) hl.size rfl (Mo_storyVests_dc.at 13 rfl) (fun H locs hr6 S7 => ?_)
      refine r_if_eq (tgt := 44) E (inR_01 hr6) (Mo_storyVests_dc.at 14 rfl) (by decide) (fun q => ?_) (fun q => ?_)
      · have h := ite_t h q
        refine r_ldcw (n := (-1000000)) E (Mo_storyVests_dc.at 22 rfl) zw_8_134 rfl ?_
        cases h
        exact r_iret E S7 (show InR (-1000000) by decide) (Mo_storyVests_dc.at 23 rfl)
      · have h := ite_f h q
        refine u_al_n (x := a0) E (Mo_storyVests_dc.at 15 rfl) hl rfl ?_
        refine u_al_n (x := a0) E (Mo_storyVests_dc.at 16 rfl) hl rfl ?_
        refine u_gR E zf_12_37 S7 g1 zw_7_4 (Mo_storyVests_dc.at 17 rfl) ?_
        refine u_il_n (x := a1) E (Mo_storyVests_dc.at 18 rfl) hl rfl ?_
        refine u_il_n (x := a2) E (Mo_storyVests_dc.at 19 rfl) hl rfl ?_
        obtain ⟨M9, r8, er8, h⟩ := bd2_e h
        refine u_cVI (As := [zR G.2.2.1 (M2 a0 37), .int (zO a1), .int (zO a2)]) (rest := []) E S7 zcw_yX12_vestsIn zw_9_10 zq_7_5 zw_9_8 zck_12.1 rfl g1 (Mo_vestsIn_c l G fu top L M2 a0 (M2 a0 37) a1 a2 ha0 (S7.1.inR _ _) ha1 ha2 er8) (zrm_ok (by decide) (by decide)) ⟨Nat.le_refl 0, Nat.le_refl 0⟩ rfl (Nat.zero_le 8) hl.size rfl (Mo_storyVests_dc.at 20 rfl) (fun H locs hr8 S10 => ?_)
        refine r_goto (tgt := 47) E (Mo_storyVests_dc.at 21 rfl) (by decide) ?_
        cases h
        exact r_iret E S10 hr8 (Mo_storyVests_dc.at 23 rfl)
theorem Mo_storyVests_c (l : Launch) (G : zG) (fu : Nat) (top : Int) (L : zL) (M : zM) (a0 : Int) (a1 : Int) (a2 : Int) {res : (zM × Int)} (ha0 : InR a0) (ha1 : InR a1) (ha2 : InR a2) (h : Mo_storyVests fu L M a0 a1 a2 = some res) : Met l yX12_storyVests (Cond.code yX12_storyVests cX12_storyVests 3 (some .int) :: zTB) (zrm 50 0 0) (va_Pc [zR G.2.2.1 a0, .int (zO a1), .int (zO a2)] (zPre G top L M)) (zQ G top L res.1 (some (.int (zO res.2))) (InR res.2)) 0 0 (zA G) :=
  z_met (by decide +kernel) (by simp [zR_cat, zcat_I, zcat_S]) (Nat.le_of_ble_eq_true rfl) fun p e s m below meth c ls E hn S hl => Mo_storyVests_w E ha0 ha1 ha2 S (hl.sub (And.intro rfl (And.intro rfl (And.intro rfl True.intro)))) h
end
theorem Mo_asksAll_dc : zDL cX12_asksAll [(0, .aload_n 0, 1, 1), (1, .iload_n 1, 1, 2), (2, .invokestatic 271, 3, 5), (5, .iconst 5, 1, 6), (6, .iadd, 1, 7), (7, .putfield 496, 3, 10), (10, .aload_n 0, 1, 11), (11, .aload_n 0, 1, 12), (12, .getfield 496, 3, 15), (15, .aload_n 0, 1, 16), (16, .getfield 31, 3, 19), (19, .iload_n 1, 1, 20), (20, .invokestatic 271, 3, 23), (23, .iconst 4, 1, 24), (24, .iadd, 1, 25), (25, .iaload, 1, 26), (26, .iadd, 1, 27), (27, .putfield 499, 3, 30), (30, .return_, 1, 31)] := zDL.of (by decide +kernel)
section
variable {p : Program} {l : Launch} {e : Env} {s : State} {m : MethodId} {args : Array Value} {below : List Frame} {meth : Method} {c : Code} {G : zG} {top : Int} {L : zL} {fu : Nat}
theorem Mo_asksAll_w (E : zEv p m c cX12_asksAll 2 s args RX12 meth none G) {res : zM} {M : zM} {a0 : Int} {a1 : Int} {H : Heap} {locs : List Loc} {ls : Array Slot} (ha0 : InR a0) (ha1 : InR a1) (S : zS G top L M s H locs) (hl : zLV ls 2 [some (zR G.2.2.1 a0), some (.int (zO a1))]) (h : Mo_asksAll fu L M a0 a1 = some res) : W p l e (zrm 2 0 0) s m args below meth c H locs 0 0 (MQ below (zQ G top L res none True) args s 0 0 (zA G)) (F0 m 0 ls []) := by
  unfold Mo_asksAll at h
  refine u_al_n (x := a0) E (Mo_asksAll_dc.at 0 rfl) hl rfl ?_
  refine u_il_n (x := a1) E (Mo_asksAll_dc.at 1 rfl) hl rfl ?_
  obtain ⟨r1, er1, h⟩ := bd1_e h
  refine u_cSI (As := [.int (zO a1)]) (rest := [zR G.2.2.1 a0]) E S zcw_yX12_giftAt zw_8_69 zw_8_68 (Mo_giftAt_c l G fu top L M a1 ha1 er1) (zrm_ok (by decide) (by decide)) ⟨Nat.le_refl 0, Nat.le_refl 0⟩ rfl (by simp [zR_cat, zcat_I, zcat_J, zcat_S]) hl.size rfl (Mo_asksAll_dc.at 2 rfl) (fun H locs hr1 S2 => ?_)
  refine r_iconst E (Mo_asksAll_dc.at 3 rfl) ?_
  refine r_iadd E (Mo_asksAll_dc.at 4 rfl) ?_
  obtain ⟨g3, h⟩ := ite_e h
  obtain ⟨M4, eM4, h⟩ := lt1_e h
  refine u_pI E eM4 zf_12_45 S2 g3 (inR_w32 _) (Or.inl rfl) rfl zw_7_12 (Mo_asksAll_dc.at 5 rfl) (fun H locs S5 => ?_)
  refine u_al_n (x := a0) E (Mo_asksAll_dc.at 6 rfl) hl rfl ?_
  refine u_al_n (x := a0) E (Mo_asksAll_dc.at 7 rfl) hl rfl ?_
  refine u_gI E zf_12_45 S5 g3 zw_7_12 (Mo_asksAll_dc.at 8 rfl) ?_
  refine u_al_n (x := a0) E (Mo_asksAll_dc.at 9 rfl) hl rfl ?_
  refine u_gR E zf_12_18 S5 g3 zw_6_225 (Mo_asksAll_dc.at 10 rfl) ?_
  refine u_il_n (x := a1) E (Mo_asksAll_dc.at 11 rfl) hl rfl ?_
  obtain ⟨r6, er6, h⟩ := bd1_e h
  refine u_cSI (As := [.int (zO a1)]) (rest := [zR G.2.2.1 (M4 a0 18), .int (zO (M4 a0 45)), zR G.2.2.1 a0]) E S5 zcw_yX12_giftAt zw_8_69 zw_8_68 (Mo_giftAt_c l G fu top L M4 a1 ha1 er6) (zrm_ok (by decide) (by decide)) ⟨Nat.le_refl 0, Nat.le_refl 0⟩ rfl (by simp [zR_cat, zcat_I, zcat_J, zcat_S]) hl.size rfl (Mo_asksAll_dc.at 12 rfl) (fun H locs hr6 S7 => ?_)
  refine r_iconst E (Mo_asksAll_dc.at 13 rfl) ?_
  refine r_iadd E (Mo_asksAll_dc.at 14 rfl) ?_
  obtain ⟨g8, h⟩ := ite_e h
  obtain ⟨g9, h⟩ := ite_e h
  refine r_iald E S7 g8 g9 (Mo_asksAll_dc.at 15 rfl) ?_
  refine r_iadd E (Mo_asksAll_dc.at 16 rfl) ?_
  obtain ⟨M10, eM10, h⟩ := lt1_e h
  refine u_pI E eM10 zf_12_46 S7 g3 (inR_w32 _) (Or.inl rfl) rfl zw_7_13 (Mo_asksAll_dc.at 17 rfl) (fun H locs S11 => ?_)
  cases h
  exact r_vret E S11 True.intro (Mo_asksAll_dc.at 18 rfl)
theorem Mo_asksAll_c (l : Launch) (G : zG) (fu : Nat) (top : Int) (L : zL) (M : zM) (a0 : Int) (a1 : Int) {res : zM} (ha0 : InR a0) (ha1 : InR a1) (h : Mo_asksAll fu L M a0 a1 = some res) : Met l yX12_asksAll (Cond.code yX12_asksAll cX12_asksAll 2 none :: zTB) (zrm 2 0 0) (va_Pc [zR G.2.2.1 a0, .int (zO a1)] (zPre G top L M)) (zQ G top L res none True) 0 0 (zA G) :=
  z_met (by decide +kernel) (by simp [zR_cat, zcat_I, zcat_S]) (Nat.le_of_ble_eq_true rfl) fun p e s m below meth c ls E hn S hl => Mo_asksAll_w E ha0 ha1 S (hl.sub (And.intro rfl (And.intro rfl True.intro))) h
end
theorem Mo_allLives_dc : zDL cX12_allLives [(0, .iconst 1, 1, 1), (1, .aload_n 0, 1, 2), (2, .getfield 251, 3, 5), (5, .ishl, 1, 6), (6, .iconst 1, 1, 7), (7, .isub, 1, 8), (8, .ireturn, 1, 9)] := zDL.of (by decide +kernel)
section
variable {p : Program} {l : Launch} {e : Env} {s : State} {m : MethodId} {args : Array Value} {below : List Frame} {meth : Method} {c : Code} {G : zG} {top : Int} {L : zL} {fu : Nat}
theorem Mo_allLives_w (E : zEv p m c cX12_allLives 1 s args RX12 meth (some .int) G) {res : Int} {M : zM} {a0 : Int} {H : Heap} {locs : List Loc} {ls : Array Slot} (ha0 : InR a0) (S : zS G top L M s H locs) (hl : zLV ls 1 [some (zR G.2.2.1 a0)]) (h : Mo_allLives fu L M a0 = some res) : W p l e (zrm 1 0 0) s m args below meth c H locs 0 0 (MQ below (zQ G top L M (some (.int (zO res))) (InR res)) args s 0 0 (zA G)) (F0 m 0 ls []) := by
  unfold Mo_allLives at h
  refine r_iconst E (Mo_allLives_dc.at 0 rfl) ?_
  refine u_al_n (x := a0) E (Mo_allLives_dc.at 1 rfl) hl rfl ?_
  obtain ⟨g1, h⟩ := ite_e h
  refine u_gI E zf_12_20 S g1 zw_6_227 (Mo_allLives_dc.at 2 rfl) ?_
  refine r_ishl E (Mo_allLives_dc.at 3 rfl) ?_
  refine r_iconst E (Mo_allLives_dc.at 4 rfl) ?_
  refine r_isub E (Mo_allLives_dc.at 5 rfl) ?_
  cases h
  exact r_iret E S (inR_w32 _) (Mo_allLives_dc.at 6 rfl)
theorem Mo_allLives_c (l : Launch) (G : zG) (fu : Nat) (top : Int) (L : zL) (M : zM) (a0 : Int) {res : Int} (ha0 : InR a0) (h : Mo_allLives fu L M a0 = some res) : Met l yX12_allLives (Cond.code yX12_allLives cX12_allLives 1 (some .int) :: zTB) (zrm 1 0 0) (va_Pc [zR G.2.2.1 a0] (zPre G top L M)) (zQ G top L M (some (.int (zO res))) (InR res)) 0 0 (zA G) :=
  z_met (by decide +kernel) (by simp [zR_cat, zcat_I, zcat_S]) (Nat.le_of_ble_eq_true rfl) fun p e s m below meth c ls E hn S hl => Mo_allLives_w E ha0 S (hl.sub (And.intro rfl True.intro)) h
end
theorem Mo_isLifeOf_dc : zDL cX12_isLifeOf [(0, .aload_n 0, 1, 1), (1, .iload_n 1, 1, 2), (2, .invokevirtual 360, 3, 5), (5, .lookupswitch 62 #[(0, 27), (1, 42)], 27, 32), (32, .iload_n 2, 1, 33), (33, .aload_n 0, 1, 34), (34, .iload_n 1, 1, 35), (35, .invokevirtual 368, 3, 38), (38, .if_icmp .ne 7, 3, 41), (41, .iconst 1, 1, 42), (42, .goto 4, 3, 45), (45, .iconst 0, 1, 46), (46, .ireturn, 1, 47), (47, .aload_n 0, 1, 48), (48, .getfield 40, 3, 51), (51, .iload_n 2, 1, 52), (52, .iaload, 1, 53), (53, .aload_n 0, 1, 54), (54, .iload_n 1, 1, 55), (55, .invokevirtual 368, 3, 58), (58, .if_icmp .ne 7, 3, 61), (61, .iconst 1, 1, 62), (62, .goto 4, 3, 65), (65, .iconst 0, 1, 66), (66, .ireturn, 1, 67), (67, .aload_n 0, 1, 68), (68, .getfield 40, 3, 71), (71, .iload_n 2, 1, 72), (72, .iaload, 1, 73), (73, .iconst (-1), 1, 74), (74, .if_icmp .eq 26, 3, 77), (77, .aload_n 0, 1, 78), (78, .getfield 40, 3, 81), (81, .aload_n 0, 1, 82), (82, .getfield 40, 3, 85), (85, .iload_n 2, 1, 86), (86, .iaload, 1, 87), (87, .iaload, 1, 88), (88, .aload_n 0, 1, 89), (89, .iload_n 1, 1, 90), (90, .invokevirtual 368, 3, 93), (93, .if_icmp .ne 7, 3, 96), (96, .iconst 1, 1, 97), (97, .goto 4, 3, 100), (100, .iconst 0, 1, 101), (101, .ireturn, 1, 102)] := zDL.of (by decide +kernel)
section
variable {p : Program} {l : Launch} {e : Env} {s : State} {m : MethodId} {args : Array Value} {below : List Frame} {meth : Method} {c : Code} {G : zG} {top : Int} {L : zL} {fu : Nat}
theorem Mo_isLifeOf_w (E : zEv p m c cX12_isLifeOf 3 s args RX12 meth (some .boolean) G) {res : Int} {M : zM} {a0 : Int} {a1 : Int} {a2 : Int} {H : Heap} {locs : List Loc} {ls : Array Slot} (ha0 : InR a0) (ha1 : InR a1) (ha2 : InR a2) (S : zS G top L M s H locs) (hl : zLV ls 3 [some (zR G.2.2.1 a0), some (.int (zO a1)), some (.int (zO a2))]) (h : Mo_isLifeOf fu L M a0 a1 a2 = some res) : W p l e (zrm 3 0 0) s m args below meth c H locs 0 0 (MQ below (zQ G top L M (some (.int (zO res))) (0 ≤ res ∧ res ≤ 1)) args s 0 0 (zA G)) (F0 m 0 ls []) := by
  unfold Mo_isLifeOf at h
  refine u_al_n (x := a0) E (Mo_isLifeOf_dc.at 0 rfl) hl rfl ?_
  refine u_il_n (x := a1) E (Mo_isLifeOf_dc.at 1 rfl) hl rfl ?_
  obtain ⟨g1, h⟩ := ite_e h
  obtain ⟨r2, er2, h⟩ := bd1_e h
  refine u_cVI (As := [.int (zO a1)]) (rest := []) E S zcw_yX12_to zw_8_163 zq_6_4 zw_8_161 zck_12.1 rfl g1 (Mo_to_c l G fu top L M a0 a1 ha0 ha1 er2) (zrm_ok (by decide) (by decide)) ⟨Nat.le_refl 0, Nat.le_refl 0⟩ rfl (Nat.zero_le 8) hl.size rfl (Mo_isLifeOf_dc.at 2 rfl) (fun H locs hr2 S3 => ?_)
  by_cases q6 : r2 = 0
  · have h := ite_t h q6
    refine r_look (tgt := 32) E hr2 (Mo_isLifeOf_dc.at 3 rfl) (by decide) (by rw [q6]) (by decide) ?_
    refine u_il_n (x := a2) E (Mo_isLifeOf_dc.at 4 rfl) hl rfl ?_
    refine u_al_n (x := a0) E (Mo_isLifeOf_dc.at 5 rfl) hl rfl ?_
    refine u_il_n (x := a1) E (Mo_isLifeOf_dc.at 6 rfl) hl rfl ?_
    obtain ⟨r4, er4, h⟩ := bd1_e h
    refine u_cVI (As := [.int (zO a1)]) (rest := [.int (zO a2)]) E S3 zcw_yX12_toldLife zw_8_170 zq_6_5 zw_8_168 zck_12.1 rfl g1 (Mo_toldLife_c l G fu top L M a0 a1 ha0 ha1 er4) (zrm_ok (by decide) (by decide)) ⟨Nat.le_refl 0, Nat.le_refl 0⟩ rfl (by simp [zR_cat, zcat_I, zcat_J, zcat_S]) hl.size rfl (Mo_isLifeOf_dc.at 7 rfl) (fun H locs hr4 S5 => ?_)
    refine r_icmp_ne (tgt := 45) E ha2 hr4 (Mo_isLifeOf_dc.at 8 rfl) (by decide) (fun q => ?_) (fun q => ?_)
    · have h := ite_t h q
      refine r_iconst E (Mo_isLifeOf_dc.at 9 rfl) ?_
      refine r_goto (tgt := 46) E (Mo_isLifeOf_dc.at 10 rfl) (by decide) ?_
      cases h
      exact r_zret E S5 z01_1 z01_1 (Mo_isLifeOf_dc.at 12 rfl)
    · have h := ite_f h q
      refine r_iconst E (Mo_isLifeOf_dc.at 11 rfl) ?_
      cases h
      exact r_zret E S5 z01_0 z01_0 (Mo_isLifeOf_dc.at 12 rfl)
  · have h := ite_f h q6
    by_cases q11 : r2 = 1
    · have h := ite_t h q11
      refine r_look (tgt := 47) E hr2 (Mo_isLifeOf_dc.at 3 rfl) (by decide) (by rw [q11]) (by decide) ?_
      refine u_al_n (x := a0) E (Mo_isLifeOf_dc.at 13 rfl) hl rfl ?_
      refine u_gR E zf_12_23 S3 g1 zw_6_230 (Mo_isLifeOf_dc.at 14 rfl) ?_
      refine u_il_n (x := a2) E (Mo_isLifeOf_dc.at 15 rfl) hl rfl ?_
      obtain ⟨g7, h⟩ := ite_e h
      obtain ⟨g8, h⟩ := ite_e h
      refine r_iald E S3 g7 g8 (Mo_isLifeOf_dc.at 16 rfl) ?_
      refine u_al_n (x := a0) E (Mo_isLifeOf_dc.at 17 rfl) hl rfl ?_
      refine u_il_n (x := a1) E (Mo_isLifeOf_dc.at 18 rfl) hl rfl ?_
      obtain ⟨r9, er9, h⟩ := bd1_e h
      refine u_cVI (As := [.int (zO a1)]) (rest := [.int (zO (M (M a0 23) a2))]) E S3 zcw_yX12_toldLife zw_8_170 zq_6_5 zw_8_168 zck_12.1 rfl g1 (Mo_toldLife_c l G fu top L M a0 a1 ha0 ha1 er9) (zrm_ok (by decide) (by decide)) ⟨Nat.le_refl 0, Nat.le_refl 0⟩ rfl (by simp [zR_cat, zcat_I, zcat_J, zcat_S]) hl.size rfl (Mo_isLifeOf_dc.at 19 rfl) (fun H locs hr9 S10 => ?_)
      refine r_icmp_ne (tgt := 65) E (S3.1.inR _ _) hr9 (Mo_isLifeOf_dc.at 20 rfl) (by decide) (fun q => ?_) (fun q => ?_)
      · have h := ite_t h q
        refine r_iconst E (Mo_isLifeOf_dc.at 21 rfl) ?_
        refine r_goto (tgt := 66) E (Mo_isLifeOf_dc.at 22 rfl) (by decide) ?_
        cases h
        exact r_zret E S10 z01_1 z01_1 (Mo_isLifeOf_dc.at 24 rfl)
      · have h := ite_f h q
        refine r_iconst E (Mo_isLifeOf_dc.at 23 rfl) ?_
        cases h
        exact r_zret E S10 z01_0 z01_0 (Mo_isLifeOf_dc.at 24 rfl)
    · have h := ite_f h q11
      refine r_look (tgt := 67) (off := 62) E hr2 (Mo_isLifeOf_dc.at 3 rfl) (by decide) (by simp [Op.lookupswitch.offset, (show ¬ (0 : Int) = r2 from fun z => q6 z.symm), (show ¬ (1 : Int) = r2 from fun z => q11 z.symm)]) (by decide) ?_
      refine u_al_n (x := a0) E (Mo_isLifeOf_dc.at 25 rfl) hl rfl ?_
      refine u_gR E zf_12_23 S3 g1 zw_6_230 (Mo_isLifeOf_dc.at 26 rfl) ?_
      refine u_il_n (x := a2) E (Mo_isLifeOf_dc.at 27 rfl) hl rfl ?_
      obtain ⟨g12, h⟩ := ite_e h
      obtain ⟨g13, h⟩ := ite_e h
      refine r_iald E S3 g12 g13 (Mo_isLifeOf_dc.at 28 rfl) ?_
      refine r_iconst E (Mo_isLifeOf_dc.at 29 rfl) ?_
      refine r_icmp_eq (tgt := 100) E (S3.1.inR _ _) (show InR (-1) by decide) (Mo_isLifeOf_dc.at 30 rfl) (by decide) (fun q => ?_) (fun q => ?_)
      · have h := ite_t h q
        refine r_iconst E (Mo_isLifeOf_dc.at 44 rfl) ?_
        cases h
        exact r_zret E S3 z01_0 z01_0 (Mo_isLifeOf_dc.at 45 rfl)
      · have h := ite_f h q
        refine u_al_n (x := a0) E (Mo_isLifeOf_dc.at 31 rfl) hl rfl ?_
        refine u_gR E zf_12_23 S3 g1 zw_6_230 (Mo_isLifeOf_dc.at 32 rfl) ?_
        refine u_al_n (x := a0) E (Mo_isLifeOf_dc.at 33 rfl) hl rfl ?_
        refine u_gR E zf_12_23 S3 g1 zw_6_230 (Mo_isLifeOf_dc.at 34 rfl) ?_
        refine u_il_n (x := a2) E (Mo_isLifeOf_dc.at 35 rfl) hl rfl ?_
        obtain ⟨g14, h⟩ := ite_e h
        refine r_iald E S3 g12 g14 (Mo_isLifeOf_dc.at 36 rfl) ?_
        obtain ⟨g15, h⟩ := ite_e h
        refine r_iald E S3 g12 g15 (Mo_isLifeOf_dc.at 37 rfl) ?_
        refine u_al_n (x := a0) E (Mo_isLifeOf_dc.at 38 rfl) hl rfl ?_
        refine u_il_n (x := a1) E (Mo_isLifeOf_dc.at 39 rfl) hl rfl ?_
        obtain ⟨r16, er16, h⟩ := bd1_e h
        refine u_cVI (As := [.int (zO a1)]) (rest := [.int (zO (M (M a0 23) (M (M a0 23) a2)))]) E S3 zcw_yX12_toldLife zw_8_170 zq_6_5 zw_8_168 zck_12.1 rfl g1 (Mo_toldLife_c l G fu top L M a0 a1 ha0 ha1 er16) (zrm_ok (by decide) (by decide)) ⟨Nat.le_refl 0, Nat.le_refl 0⟩ rfl (by simp [zR_cat, zcat_I, zcat_J, zcat_S]) hl.size rfl (Mo_isLifeOf_dc.at 40 rfl) (fun H locs hr16 S17 => ?_)
        refine r_icmp_ne (tgt := 100) E (S3.1.inR _ _) hr16 (Mo_isLifeOf_dc.at 41 rfl) (by decide) (fun q => ?_) (fun q => ?_)
        · have h := ite_t h q
          refine r_iconst E (Mo_isLifeOf_dc.at 42 rfl) ?_
          refine r_goto (tgt := 101) E (Mo_isLifeOf_dc.at 43 rfl) (by decide) ?_
          cases h
          exact r_zret E S17 z01_1 z01_1 (Mo_isLifeOf_dc.at 45 rfl)
        · have h := ite_f h q
          refine r_iconst E (Mo_isLifeOf_dc.at 44 rfl) ?_
          cases h
          exact r_zret E S17 z01_0 z01_0 (Mo_isLifeOf_dc.at 45 rfl)
theorem Mo_isLifeOf_c (l : Launch) (G : zG) (fu : Nat) (top : Int) (L : zL) (M : zM) (a0 : Int) (a1 : Int) (a2 : Int) {res : Int} (ha0 : InR a0) (ha1 : InR a1) (ha2 : InR a2) (h : Mo_isLifeOf fu L M a0 a1 a2 = some res) : Met l yX12_isLifeOf (Cond.code yX12_isLifeOf cX12_isLifeOf 3 (some .boolean) :: zTB) (zrm 3 0 0) (va_Pc [zR G.2.2.1 a0, .int (zO a1), .int (zO a2)] (zPre G top L M)) (zQ G top L M (some (.int (zO res))) (0 ≤ res ∧ res ≤ 1)) 0 0 (zA G) :=
  z_met (by decide +kernel) (by simp [zR_cat, zcat_I, zcat_S]) (Nat.le_of_ble_eq_true rfl) fun p e s m below meth c ls E hn S hl => Mo_isLifeOf_w E ha0 ha1 ha2 S (hl.sub (And.intro rfl (And.intro rfl (And.intro rfl True.intro)))) h
end
theorem Mo_begin_dc : zDL cX12_begin [(0, .aload_n 0, 1, 1), (1, .aload_n 0, 1, 2), (2, .getfield 496, 3, 5), (5, .putfield 376, 3, 8), (8, .aload_n 0, 1, 9), (9, .aload_n 0, 1, 10), (10, .getfield 499, 3, 13), (13, .putfield 379, 3, 16), (16, .return_, 1, 17)] := zDL.of (by decide +kernel)
section
variable {p : Program} {l : Launch} {e : Env} {s : State} {m : MethodId} {args : Array Value} {below : List Frame} {meth : Method} {c : Code} {G : zG} {top : Int} {L : zL} {fu : Nat}
theorem Mo_begin_w (E : zEv p m c cX12_begin 1 s args RX12 meth none G) {res : zM} {M : zM} {a0 : Int} {H : Heap} {locs : List Loc} {ls : Array Slot} (ha0 : InR a0) (S : zS G top L M s H locs) (hl : zLV ls 1 [some (zR G.2.2.1 a0)]) (h : Mo_begin fu L M a0 = some res) : W p l e (zrm 1 0 0) s m args below meth c H locs 0 0 (MQ below (zQ G top L res none True) args s 0 0 (zA G)) (F0 m 0 ls []) := by
  unfold Mo_begin at h
  refine u_al_n (x := a0) E (Mo_begin_dc.at 0 rfl) hl rfl ?_
  refine u_al_n (x := a0) E (Mo_begin_dc.at 1 rfl) hl rfl ?_
  obtain ⟨g1, h⟩ := ite_e h
  refine u_gI E zf_12_45 S g1 zw_7_12 (Mo_begin_dc.at 2 rfl) ?_
  obtain ⟨M2, eM2, h⟩ := lt1_e h
  refine u_pI E eM2 zf_12_30 S g1 (S.1.inR _ _) (Or.inl rfl) rfl zw_6_237 (Mo_begin_dc.at 3 rfl) (fun H locs S3 => ?_)
  refine u_al_n (x := a0) E (Mo_begin_dc.at 4 rfl) hl rfl ?_
  refine u_al_n (x := a0) E (Mo_begin_dc.at 5 rfl) hl rfl ?_
  refine u_gI E zf_12_46 S3 g1 zw_7_13 (Mo_begin_dc.at 6 rfl) ?_
  obtain ⟨M4, eM4, h⟩ := lt1_e h
  refine u_pI E eM4 zf_12_31 S3 g1 (S3.1.inR _ _) (Or.inl rfl) rfl zw_6_238 (Mo_begin_dc.at 7 rfl) (fun H locs S5 => ?_)
  cases h
  exact r_vret E S5 True.intro (Mo_begin_dc.at 8 rfl)
theorem Mo_begin_c (l : Launch) (G : zG) (fu : Nat) (top : Int) (L : zL) (M : zM) (a0 : Int) {res : zM} (ha0 : InR a0) (h : Mo_begin fu L M a0 = some res) : Met l yX12_begin (Cond.code yX12_begin cX12_begin 1 none :: zTB) (zrm 1 0 0) (va_Pc [zR G.2.2.1 a0] (zPre G top L M)) (zQ G top L res none True) 0 0 (zA G) :=
  z_met (by decide +kernel) (by simp [zR_cat, zcat_I, zcat_S]) (Nat.le_of_ble_eq_true rfl) fun p e s m below meth c ls E hn S hl => Mo_begin_w E ha0 S (hl.sub (And.intro rfl True.intro)) h
end
theorem Mo_hasVested_dc : zDL cX12_hasVested [(0, .aload_n 0, 1, 1), (1, .aload_n 0, 1, 2), (2, .getfield 60, 3, 5), (5, .invokevirtual 255, 3, 8), (8, .iconst 0, 1, 9), (9, .istore_n 2, 1, 10), (10, .iconst 0, 1, 11), (11, .istore_n 3, 1, 12), (12, .iload_n 3, 1, 13), (13, .aload_n 0, 1, 14), (14, .getfield 251, 3, 17), (17, .if_icmp .ge 56, 3, 20), (20, .aload_n 0, 1, 21), (21, .iload_n 1, 1, 22), (22, .iload_n 3, 1, 23), (23, .invokevirtual 502, 3, 26), (26, .ifCond .eq 41, 3, 29), (29, .aload_n 0, 1, 30), (30, .invokevirtual 505, 3, 33), (33, .iload_n 2, 1, 34), (34, .ifCond .ne 27, 3, 37), (37, .aload_n 0, 1, 38), (38, .aload_n 0, 1, 39), (39, .getfield 60, 3, 42), (42, .aload_n 0, 1, 43), (43, .getfield 37, 3, 46), (46, .iload_n 3, 1, 47), (47, .iaload, 1, 48), (48, .ineg, 1, 49), (49, .ldc 254, 2, 51), (51, .iconst 0, 1, 52), (52, .invokevirtual 414, 3, 55), (55, .ldc_w 389, 3, 58), (58, .if_icmp .ge 7, 3, 61), (61, .iconst 1, 1, 62), (62, .goto 4, 3, 65), (65, .iconst 0, 1, 66), (66, .istore_n 2, 1, 67), (67, .iinc 3 1, 3, 70), (70, .goto (-58), 3, 73), (73, .iload_n 2, 1, 74), (74, .ireturn, 1, 75)] := zDL.of (by decide +kernel)
section
variable {p : Program} {l : Launch} {e : Env} {s : State} {m : MethodId} {args : Array Value} {below : List Frame} {meth : Method} {c : Code} {G : zG} {top : Int} {L : zL} {fu : Nat}
theorem Mo_hasVested_s12_w (E : zEv p m c cX12_hasVested 4 s args RX12 meth (some .boolean) G) {res : (zM × Int)} {k12 : zM → Int → Int → Int → Int → Option (zM × Int)} (hk12 : ∀ (M : zM) (x0 : Int) (x1 : Int) (x2 : Int) (x3 : Int), InR x0 → InR x1 → InR x2 → InR x3 → ∀ (H : Heap) (locs : List Loc) (ls : Array Slot), zS G top L M s H locs → zLV ls 4 [some (zR G.2.2.1 x0), some (.int (zO x1)), some (.int (zO x2)), some (.int (zO x3))] → k12 M x0 x1 x2 x3 = some res → W p l e (zrm 46 0 0) s m args below meth c H locs 0 0 (MQ below (zQ G top L res.1 (some (.int (zO res.2))) (0 ≤ res.2 ∧ res.2 ≤ 1)) args s 0 0 (zA G)) (F0 m 12 ls [])) {M : zM} {x0 : Int} {x1 : Int} {x2 : Int} {x3 : Int} {H : Heap} {locs : List Loc} {ls : Array Slot} (hx0 : InR x0) (hx1 : InR x1) (hx2 : InR x2) (hx3 : InR x3) (S : zS G top L M s H locs) (hl : zLV ls 4 [some (zR G.2.2.1 x0), some (.int (zO x1)), some (.int (zO x2)), some (.int (zO x3))]) (h : Mo_hasVested_s12 fu k12 L M x0 x1 x2 x3 = some res) : W p l e (zrm 46 0 0) s m args below meth c H locs 0 0 (MQ below (zQ G top L res.1 (some (.int (zO res.2))) (0 ≤ res.2 ∧ res.2 ≤ 1)) args s 0 0 (zA G)) (F0 m 12 ls []) := by
  unfold Mo_hasVested_s12 at h
  refine u_il_n (x := x3) E (Mo_hasVested_dc.at 8 rfl) hl rfl ?_
  refine u_al_n (x := x0) E (Mo_hasVested_dc.at 9 rfl) hl rfl ?_
  obtain ⟨g4, h⟩ := ite_e h
  refine u_gI E zf_12_20 S g4 zw_6_227 (Mo_hasVested_dc.at 10 rfl) ?_
  refine r_icmp_ge (tgt := 73) E hx3 (S.1.inR _ _) (Mo_hasVested_dc.at 11 rfl) (by decide) (fun q => ?_) (fun q => ?_)
  · have h := ite_t h q
    refine u_al_n (x := x0) E (Mo_hasVested_dc.at 12 rfl) hl rfl ?_
    refine u_il_n (x := x1) E (Mo_hasVested_dc.at 13 rfl) hl rfl ?_
    refine u_il_n (x := x3) E (Mo_hasVested_dc.at 14 rfl) hl rfl ?_
    obtain ⟨r5, er5, h⟩ := bd1_e h
    refine u_cVI (As := [.int (zO x1), .int (zO x3)]) (rest := []) E S zcw_yX12_isLifeOf zw_9_91 zq_8_0 zw_9_89 zck_12.1 rfl g4 (Mo_isLifeOf_c l G fu top L M x0 x1 x3 hx0 hx1 hx3 er5) (zrm_ok (by decide) (by decide)) ⟨Nat.le_refl 0, Nat.le_refl 0⟩ rfl (Nat.zero_le 8) hl.size rfl (Mo_hasVested_dc.at 15 rfl) (fun H locs hr5 S6 => ?_)
    refine r_if_eq (tgt := 67) E (inR_01 hr5) (Mo_hasVested_dc.at 16 rfl) (by decide) (fun q => ?_) (fun q => ?_)
    · have h := ite_t h q
      obtain ⟨v7, ev7, h⟩ := lt1_e h
      have hv7 := inR_eq ev7 (inR_w32 _)
      refine u_iinc (y := v7) (vs' := [some (zR G.2.2.1 x0), some (.int (zO x1)), some (.int (zO x2)), some (.int (zO v7))]) E ev7 (Mo_hasVested_dc.at 38 rfl) hl rfl (by decide) rfl (fun ls hl => ?_)
      refine r_goto (tgt := 12) E (Mo_hasVested_dc.at 39 rfl) (by decide) ?_
      exact hk12 _ x0 x1 x2 v7 hx0 hx1 hx2 hv7 _ _ _ S6 (hl.sub (And.intro rfl (And.intro rfl (And.intro rfl (And.intro rfl True.intro))))) h
    · have h := ite_f h q
      refine u_al_n (x := x0) E (Mo_hasVested_dc.at 17 rfl) hl rfl ?_
      obtain ⟨M8, eM8, h⟩ := bd1_e h
      refine u_cVU (As := []) (rest := []) E S6 zcw_yX12_begin zw_9_95 zq_8_1 zw_9_93 zck_12.1 rfl g4 (Mo_begin_c l G fu top L M x0 hx0 eM8) (zrm_ok (by decide) (by decide)) ⟨Nat.le_refl 0, Nat.le_refl 0⟩ rfl (Nat.zero_le 8) hl.size rfl (Mo_hasVested_dc.at 18 rfl) (fun H locs _ S9 => ?_)
      refine u_il_n (x := x2) E (Mo_hasVested_dc.at 19 rfl) hl rfl ?_
      refine r_if_ne (tgt := 61) E hx2 (Mo_hasVested_dc.at 20 rfl) (by decide) (fun q => ?_) (fun q => ?_)
      · have h := ite_t h q
        refine u_al_n (x := x0) E (Mo_hasVested_dc.at 21 rfl) hl rfl ?_
        refine u_al_n (x := x0) E (Mo_hasVested_dc.at 22 rfl) hl rfl ?_
        refine u_gR E zf_12_47 S9 g4 zw_7_14 (Mo_hasVested_dc.at 23 rfl) ?_
        refine u_al_n (x := x0) E (Mo_hasVested_dc.at 24 rfl) hl rfl ?_
        refine u_gR E zf_12_22 S9 g4 zw_6_229 (Mo_hasVested_dc.at 25 rfl) ?_
        refine u_il_n (x := x3) E (Mo_hasVested_dc.at 26 rfl) hl rfl ?_
        obtain ⟨g10, h⟩ := ite_e h
        obtain ⟨g11, h⟩ := ite_e h
        refine r_iald E S9 g10 g11 (Mo_hasVested_dc.at 27 rfl) ?_
        refine r_ineg E (Mo_hasVested_dc.at 28 rfl) ?_
        refine r_ldc (n := 16777216) E (Mo_hasVested_dc.at 29 rfl) zw_8_42 rfl ?_
        refine r_iconst E (Mo_hasVested_dc.at 30 rfl) ?_
        obtain ⟨M13, r12, er12, h⟩ := bd2_e h
        refine u_cVI (As := [zR G.2.2.1 (M8 x0 47), .int (zO (w32 (-(M8 (M8 x0 22) x3)))), .int (zO 16777216), .int (zO 0)]) (rest := []) E S9 zcw_yX12_vestsSo zw_8_217 zq_6_14 zw_8_215 zck_12.1 rfl g4 (Mo_vestsSo_c l G fu top L M8 x0 (M8 x0 47) (w32 (-(M8 (M8 x0 22) x3))) 16777216 0 hx0 (S9.1.inR _ _) (inR_w32 _) (show InR 16777216 by decide) (show InR 0 by decide) er12) (zrm_ok (by decide) (by decide)) ⟨Nat.le_refl 0, Nat.le_refl 0⟩ rfl (Nat.zero_le 8) hl.size rfl (Mo_hasVested_dc.at 31 rfl) (fun H locs hr12 S14 => ?_)
        refine r_ldcw (n := 1048576) E (Mo_hasVested_dc.at 32 rfl) zw_8_202 rfl ?_
        refine r_icmp_ge (tgt := 65) E hr12 (show InR 1048576 by decide) (Mo_hasVested_dc.at 33 rfl) (by decide) (fun q => ?_) (fun q => ?_)
        · have h := ite_t h q
          refine r_iconst E (Mo_hasVested_dc.at 34 rfl) ?_
          refine r_goto (tgt := 66) E (Mo_hasVested_dc.at 35 rfl) (by decide) ?_
          refine u_ist_n (y := 1) (vs' := [some (zR G.2.2.1 x0), some (.int (zO x1)), some (.int (zO 1)), some (.int (zO x3))]) E rfl (Mo_hasVested_dc.at 37 rfl) hl (by decide) rfl (fun ls hl => ?_)
          obtain ⟨v15, ev15, h⟩ := lt1_e h
          have hv15 := inR_eq ev15 (inR_w32 _)
          refine u_iinc (y := v15) (vs' := [some (zR G.2.2.1 x0), some (.int (zO x1)), some (.int (zO 1)), some (.int (zO v15))]) E ev15 (Mo_hasVested_dc.at 38 rfl) hl rfl (by decide) rfl (fun ls hl => ?_)
          refine r_goto (tgt := 12) E (Mo_hasVested_dc.at 39 rfl) (by decide) ?_
          exact hk12 _ x0 x1 1 v15 hx0 hx1 (show InR 1 by decide) hv15 _ _ _ S14 (hl.sub (And.intro rfl (And.intro rfl (And.intro rfl (And.intro rfl True.intro))))) h
        · have h := ite_f h q
          refine r_iconst E (Mo_hasVested_dc.at 36 rfl) ?_
          refine u_ist_n (y := 0) (vs' := [some (zR G.2.2.1 x0), some (.int (zO x1)), some (.int (zO 0)), some (.int (zO x3))]) E rfl (Mo_hasVested_dc.at 37 rfl) hl (by decide) rfl (fun ls hl => ?_)
          obtain ⟨v16, ev16, h⟩ := lt1_e h
          have hv16 := inR_eq ev16 (inR_w32 _)
          refine u_iinc (y := v16) (vs' := [some (zR G.2.2.1 x0), some (.int (zO x1)), some (.int (zO 0)), some (.int (zO v16))]) E ev16 (Mo_hasVested_dc.at 38 rfl) hl rfl (by decide) rfl (fun ls hl => ?_)
          refine r_goto (tgt := 12) E (Mo_hasVested_dc.at 39 rfl) (by decide) ?_
          exact hk12 _ x0 x1 0 v16 hx0 hx1 (show InR 0 by decide) hv16 _ _ _ S14 (hl.sub (And.intro rfl (And.intro rfl (And.intro rfl (And.intro rfl True.intro))))) h
      · have h := ite_f h q
        refine r_iconst E (Mo_hasVested_dc.at 34 rfl) ?_
        refine r_goto (tgt := 66) E (Mo_hasVested_dc.at 35 rfl) (by decide) ?_
        refine u_ist_n (y := 1) (vs' := [some (zR G.2.2.1 x0), some (.int (zO x1)), some (.int (zO 1)), some (.int (zO x3))]) E rfl (Mo_hasVested_dc.at 37 rfl) hl (by decide) rfl (fun ls hl => ?_)
        obtain ⟨v17, ev17, h⟩ := lt1_e h
        have hv17 := inR_eq ev17 (inR_w32 _)
        refine u_iinc (y := v17) (vs' := [some (zR G.2.2.1 x0), some (.int (zO x1)), some (.int (zO 1)), some (.int (zO v17))]) E ev17 (Mo_hasVested_dc.at 38 rfl) hl rfl (by decide) rfl (fun ls hl => ?_)
        refine r_goto (tgt := 12) E (Mo_hasVested_dc.at 39 rfl) (by decide) ?_
        exact hk12 _ x0 x1 1 v17 hx0 hx1 (show InR 1 by decide) hv17 _ _ _ S9 (hl.sub (And.intro rfl (And.intro rfl (And.intro rfl (And.intro rfl True.intro))))) h
  · have h := ite_f h q
    refine u_il_n (x := x2) E (Mo_hasVested_dc.at 40 rfl) hl rfl ?_
    obtain ⟨g18, h⟩ := ite_e h
    cases h
    exact r_zret E S g18 g18 (Mo_hasVested_dc.at 41 rfl)
theorem Mo_hasVested_l12_w (E : zEv p m c cX12_hasVested 4 s args RX12 meth (some .boolean) G) {res : (zM × Int)} : ∀ (n : Nat) (M : zM) (x0 : Int) (x1 : Int) (x2 : Int) (x3 : Int), InR x0 → InR x1 → InR x2 → InR x3 → ∀ (H : Heap) (locs : List Loc) (ls : Array Slot), zS G top L M s H locs → zLV ls 4 [some (zR G.2.2.1 x0), some (.int (zO x1)), some (.int (zO x2)), some (.int (zO x3))] → Mo_hasVested_l12 fu L n M x0 x1 x2 x3 = some res → W p l e (zrm 46 0 0) s m args below meth c H locs 0 0 (MQ below (zQ G top L res.1 (some (.int (zO res.2))) (0 ≤ res.2 ∧ res.2 ≤ 1)) args s 0 0 (zA G)) (F0 m 12 ls [])
  | 0, _, _, _, _, _ => fun _ _ _ _ _ _ _ _ _ h => (by cases h)
  | n + 1, M, x0, x1, x2, x3 => fun hx0 hx1 hx2 hx3 H locs ls S hl h => Mo_hasVested_s12_w E (fun M x0 x1 x2 x3 hx0 hx1 hx2 hx3 H locs ls S hl h => Mo_hasVested_l12_w E n M x0 x1 x2 x3 hx0 hx1 hx2 hx3 H locs ls S hl h) hx0 hx1 hx2 hx3 S hl h
theorem Mo_hasVested_w (E : zEv p m c cX12_hasVested 4 s args RX12 meth (some .boolean) G) {res : (zM × Int)} {M : zM} {a0 : Int} {a1 : Int} {H : Heap} {locs : List Loc} {ls : Array Slot} (ha0 : InR a0) (ha1 : InR a1) (S : zS G top L M s H locs) (hl : zLV ls 4 [some (zR G.2.2.1 a0), some (.int (zO a1)), none, none]) (h : Mo_hasVested fu L M a0 a1 = some res) : W p l e (zrm 46 0 0) s m args below meth c H locs 0 0 (MQ below (zQ G top L res.1 (some (.int (zO res.2))) (0 ≤ res.2 ∧ res.2 ≤ 1)) args s 0 0 (zA G)) (F0 m 0 ls []) := by
  unfold Mo_hasVested at h
  refine u_al_n (x := a0) E (Mo_hasVested_dc.at 0 rfl) hl rfl ?_
  refine u_al_n (x := a0) E (Mo_hasVested_dc.at 1 rfl) hl rfl ?_
  obtain ⟨g1, h⟩ := ite_e h
  refine u_gR E zf_12_47 S g1 zw_7_14 (Mo_hasVested_dc.at 2 rfl) ?_
  obtain ⟨M2, eM2, h⟩ := bd1_e h
  refine u_cVU (As := [zR G.2.2.1 (M a0 47)]) (rest := []) E S zcw_yX12_beginsWorld zw_8_40 zq_5_8 zw_8_38 zck_12.1 rfl g1 (Mo_beginsWorld_c l G fu top L M a0 (M a0 47) ha0 (S.1.inR _ _) eM2) (zrm_ok (by decide) (by decide)) ⟨Nat.le_refl 0, Nat.le_refl 0⟩ rfl (Nat.zero_le 8) hl.size rfl (Mo_hasVested_dc.at 3 rfl) (fun H locs _ S3 => ?_)
  refine r_iconst E (Mo_hasVested_dc.at 4 rfl) ?_
  refine u_ist_n (y := 0) (vs' := [some (zR G.2.2.1 a0), some (.int (zO a1)), some (.int (zO 0)), none]) E rfl (Mo_hasVested_dc.at 5 rfl) hl (by decide) rfl (fun ls hl => ?_)
  refine r_iconst E (Mo_hasVested_dc.at 6 rfl) ?_
  refine u_ist_n (y := 0) (vs' := [some (zR G.2.2.1 a0), some (.int (zO a1)), some (.int (zO 0)), some (.int (zO 0))]) E rfl (Mo_hasVested_dc.at 7 rfl) hl (by decide) rfl (fun ls hl => ?_)
  exact Mo_hasVested_l12_w E fu _ a0 a1 0 0 ha0 ha1 (show InR 0 by decide) (show InR 0 by decide) _ _ _ S3 (hl.sub (And.intro rfl (And.intro rfl (And.intro rfl (And.intro rfl True.intro))))) h
theorem Mo_hasVested_c (l : Launch) (G : zG) (fu : Nat) (top : Int) (L : zL) (M : zM) (a0 : Int) (a1 : Int) {res : (zM × Int)} (ha0 : InR a0) (ha1 : InR a1) (h : Mo_hasVested fu L M a0 a1 = some res) : Met l yX12_hasVested (Cond.code yX12_hasVested cX12_hasVested 4 (some .boolean) :: zTB) (zrm 46 0 0) (va_Pc [zR G.2.2.1 a0, .int (zO a1)] (zPre G top L M)) (zQ G top L res.1 (some (.int (zO res.2))) (0 ≤ res.2 ∧ res.2 ≤ 1)) 0 0 (zA G) :=
  z_met (by decide +kernel) (by simp [zR_cat, zcat_I, zcat_S]) (Nat.le_of_ble_eq_true rfl) fun p e s m below meth c ls E hn S hl => Mo_hasVested_w E ha0 ha1 S (hl.sub (And.intro rfl (And.intro rfl True.intro))) h
end
theorem Mo_canBear_dc : zDL cX12_canBear [(0, .aload_n 0, 1, 1), (1, .getfield 37, 3, 4), (4, .iload_n 1, 1, 5), (5, .iaload, 1, 6), (6, .aload_n 0, 1, 7), (7, .getfield 31, 3, 10), (10, .bipush 75, 2, 12), (12, .iaload, 1, 13), (13, .if_icmp .gt 7, 3, 16), (16, .iconst 1, 1, 17), (17, .goto 4, 3, 20), (20, .iconst 0, 1, 21), (21, .ireturn, 1, 22)] := zDL.of (by decide +kernel)
section
variable {p : Program} {l : Launch} {e : Env} {s : State} {m : MethodId} {args : Array Value} {below : List Frame} {meth : Method} {c : Code} {G : zG} {top : Int} {L : zL} {fu : Nat}
theorem Mo_canBear_w (E : zEv p m c cX12_canBear 2 s args RX12 meth (some .boolean) G) {res : Int} {M : zM} {a0 : Int} {a1 : Int} {H : Heap} {locs : List Loc} {ls : Array Slot} (ha0 : InR a0) (ha1 : InR a1) (S : zS G top L M s H locs) (hl : zLV ls 2 [some (zR G.2.2.1 a0), some (.int (zO a1))]) (h : Mo_canBear fu L M a0 a1 = some res) : W p l e (zrm 1 0 0) s m args below meth c H locs 0 0 (MQ below (zQ G top L M (some (.int (zO res))) (0 ≤ res ∧ res ≤ 1)) args s 0 0 (zA G)) (F0 m 0 ls []) := by
  unfold Mo_canBear at h
  refine u_al_n (x := a0) E (Mo_canBear_dc.at 0 rfl) hl rfl ?_
  obtain ⟨g1, h⟩ := ite_e h
  refine u_gR E zf_12_22 S g1 zw_6_229 (Mo_canBear_dc.at 1 rfl) ?_
  refine u_il_n (x := a1) E (Mo_canBear_dc.at 2 rfl) hl rfl ?_
  obtain ⟨g2, h⟩ := ite_e h
  obtain ⟨g3, h⟩ := ite_e h
  refine r_iald E S g2 g3 (Mo_canBear_dc.at 3 rfl) ?_
  refine u_al_n (x := a0) E (Mo_canBear_dc.at 4 rfl) hl rfl ?_
  refine u_gR E zf_12_18 S g1 zw_6_225 (Mo_canBear_dc.at 5 rfl) ?_
  refine r_bipush E (Mo_canBear_dc.at 6 rfl) rfl ?_
  obtain ⟨g4, h⟩ := ite_e h
  obtain ⟨g5, h⟩ := ite_e h
  refine r_iald E S g4 g5 (Mo_canBear_dc.at 7 rfl) ?_
  refine r_icmp_gt (tgt := 20) E (S.1.inR _ _) (S.1.inR _ _) (Mo_canBear_dc.at 8 rfl) (by decide) (fun q => ?_) (fun q => ?_)
  · have h := ite_t h q
    refine r_iconst E (Mo_canBear_dc.at 11 rfl) ?_
    cases h
    exact r_zret E S z01_0 z01_0 (Mo_canBear_dc.at 12 rfl)
  · have h := ite_f h q
    refine r_iconst E (Mo_canBear_dc.at 9 rfl) ?_
    refine r_goto (tgt := 21) E (Mo_canBear_dc.at 10 rfl) (by decide) ?_
    cases h
    exact r_zret E S z01_1 z01_1 (Mo_canBear_dc.at 12 rfl)
theorem Mo_canBear_c (l : Launch) (G : zG) (fu : Nat) (top : Int) (L : zL) (M : zM) (a0 : Int) (a1 : Int) {res : Int} (ha0 : InR a0) (ha1 : InR a1) (h : Mo_canBear fu L M a0 a1 = some res) : Met l yX12_canBear (Cond.code yX12_canBear cX12_canBear 2 (some .boolean) :: zTB) (zrm 1 0 0) (va_Pc [zR G.2.2.1 a0, .int (zO a1)] (zPre G top L M)) (zQ G top L M (some (.int (zO res))) (0 ≤ res ∧ res ≤ 1)) 0 0 (zA G) :=
  z_met (by decide +kernel) (by simp [zR_cat, zcat_I, zcat_S]) (Nat.le_of_ble_eq_true rfl) fun p e s m below meth c ls E hn S hl => Mo_canBear_w E ha0 ha1 S (hl.sub (And.intro rfl (And.intro rfl True.intro))) h
end
theorem Mo_isThere_dc : zDL cX12_isThere [(0, .iload_n 2, 1, 1), (1, .ifCond .ne 10, 3, 4), (4, .aload_n 0, 1, 5), (5, .iload_n 1, 1, 6), (6, .iload_n 3, 1, 7), (7, .invokevirtual 502, 3, 10), (10, .ireturn, 1, 11), (11, .iload 4, 2, 13), (13, .ifCond .eq 25, 3, 16), (16, .aload_n 0, 1, 17), (17, .iload_n 1, 1, 18), (18, .invokevirtual 360, 3, 21), (21, .ifCond .eq 17, 3, 24), (24, .iload_n 2, 1, 25), (25, .iconst 2, 1, 26), (26, .if_icmp .ne 14, 3, 29), (29, .aload_n 0, 1, 30), (30, .iload_n 1, 1, 31), (31, .invokevirtual 360, 3, 34), (34, .iconst 1, 1, 35), (35, .if_icmp .ne 5, 3, 38), (38, .iconst 0, 1, 39), (39, .ireturn, 1, 40), (40, .iload_n 2, 1, 41), (41, .iconst 2, 1, 42), (42, .if_icmp .eq 12, 3, 45), (45, .aload_n 0, 1, 46), (46, .iload_n 1, 1, 47), (47, .invokevirtual 360, 3, 50), (50, .iconst 1, 1, 51), (51, .if_icmp .ne 26, 3, 54), (54, .iload_n 3, 1, 55), (55, .aload_n 0, 1, 56), (56, .iload_n 1, 1, 57), (57, .invokevirtual 368, 3, 60), (60, .if_icmp .ne 15, 3, 63), (63, .aload_n 0, 1, 64), (64, .iload_n 3, 1, 65), (65, .invokevirtual 508, 3, 68), (68, .ifCond .eq 7, 3, 71), (71, .iconst 1, 1, 72), (72, .goto 4, 3, 75), (75, .iconst 0, 1, 76), (76, .ireturn, 1, 77), (77, .aload_n 0, 1, 78), (78, .getfield 40, 3, 81), (81, .iload_n 3, 1, 82), (82, .iaload, 1, 83), (83, .aload_n 0, 1, 84), (84, .iload_n 1, 1, 85), (85, .invokevirtual 368, 3, 88), (88, .if_icmp .ne 15, 3, 91), (91, .aload_n 0, 1, 92), (92, .iload_n 3, 1, 93), (93, .invokevirtual 508, 3, 96), (96, .ifCond .eq 7, 3, 99), (99, .iconst 1, 1, 100), (100, .goto 4, 3, 103), (103, .iconst 0, 1, 104), (104, .ireturn, 1, 105)] := zDL.of (by decide +kernel)
section
variable {p : Program} {l : Launch} {e : Env} {s : State} {m : MethodId} {args : Array Value} {below : List Frame} {meth : Method} {c : Code} {G : zG} {top : Int} {L : zL} {fu : Nat}
theorem Mo_isThere_b54_w (E : zEv p m c cX12_isThere 5 s args RX12 meth (some .boolean) G) {res : Int} {M : zM} {x0 : Int} {x1 : Int} {x3 : Int} {H : Heap} {locs : List Loc} {ls : Array Slot} (hx0 : InR x0) (hx1 : InR x1) (hx3 : InR x3) (S : zS G top L M s H locs) (hl : zLV ls 5 [some (zR G.2.2.1 x0), some (.int (zO x1)), none, some (.int (zO x3)), none]) (h : Mo_isThere_b54 fu L M x0 x1 x3 = some res) : W p l e (zrm 4 0 0) s m args below meth c H locs 0 0 (MQ below (zQ G top L M (some (.int (zO res))) (0 ≤ res ∧ res ≤ 1)) args s 0 0 (zA G)) (F0 m 54 ls []) := by
  unfold Mo_isThere_b54 at h
  refine u_il_n (x := x3) E (Mo_isThere_dc.at 31 rfl) hl rfl ?_
  refine u_al_n (x := x0) E (Mo_isThere_dc.at 32 rfl) hl rfl ?_
  refine u_il_n (x := x1) E (Mo_isThere_dc.at 33 rfl) hl rfl ?_
  obtain ⟨g9, h⟩ := ite_e h
  obtain ⟨r10, er10, h⟩ := bd1_e h
  refine u_cVI (As := [.int (zO x1)]) (rest := [.int (zO x3)]) E S zcw_yX12_toldLife zw_8_170 zq_6_5 zw_8_168 zck_12.1 rfl g9 (Mo_toldLife_c l G fu top L M x0 x1 hx0 hx1 er10) (zrm_ok (by decide) (by decide)) ⟨Nat.le_refl 0, Nat.le_refl 0⟩ rfl (by simp [zR_cat, zcat_I, zcat_J, zcat_S]) hl.size rfl (Mo_isThere_dc.at 34 rfl) (fun H locs hr10 S11 => ?_)
  refine r_icmp_ne (tgt := 75) E hx3 hr10 (Mo_isThere_dc.at 35 rfl) (by decide) (fun q => ?_) (fun q => ?_)
  · have h := ite_t h q
    refine u_al_n (x := x0) E (Mo_isThere_dc.at 36 rfl) hl rfl ?_
    refine u_il_n (x := x3) E (Mo_isThere_dc.at 37 rfl) hl rfl ?_
    obtain ⟨r12, er12, h⟩ := bd1_e h
    refine u_cVI (As := [.int (zO x3)]) (rest := []) E S11 zcw_yX12_canBear zw_9_103 zq_8_3 zw_9_101 zck_12.1 rfl g9 (Mo_canBear_c l G fu top L M x0 x3 hx0 hx3 er12) (zrm_ok (by decide) (by decide)) ⟨Nat.le_refl 0, Nat.le_refl 0⟩ rfl (Nat.zero_le 8) hl.size rfl (Mo_isThere_dc.at 38 rfl) (fun H locs hr12 S13 => ?_)
    refine r_if_eq (tgt := 75) E (inR_01 hr12) (Mo_isThere_dc.at 39 rfl) (by decide) (fun q => ?_) (fun q => ?_)
    · have h := ite_t h q
      refine r_iconst E (Mo_isThere_dc.at 42 rfl) ?_
      cases h
      exact r_zret E S13 z01_0 z01_0 (Mo_isThere_dc.at 43 rfl)
    · have h := ite_f h q
      refine r_iconst E (Mo_isThere_dc.at 40 rfl) ?_
      refine r_goto (tgt := 76) E (Mo_isThere_dc.at 41 rfl) (by decide) ?_
      cases h
      exact r_zret E S13 z01_1 z01_1 (Mo_isThere_dc.at 43 rfl)
  · have h := ite_f h q
    refine r_iconst E (Mo_isThere_dc.at 42 rfl) ?_
    cases h
    exact r_zret E S11 z01_0 z01_0 (Mo_isThere_dc.at 43 rfl)
theorem Mo_isThere_b40_w (E : zEv p m c cX12_isThere 5 s args RX12 meth (some .boolean) G) {res : Int} {M : zM} {x0 : Int} {x1 : Int} {x2 : Int} {x3 : Int} {H : Heap} {locs : List Loc} {ls : Array Slot} (hx0 : InR x0) (hx1 : InR x1) (hx2 : InR x2) (hx3 : InR x3) (S : zS G top L M s H locs) (hl : zLV ls 5 [some (zR G.2.2.1 x0), some (.int (zO x1)), some (.int (zO x2)), some (.int (zO x3)), none]) (h : Mo_isThere_b40 fu L M x0 x1 x2 x3 = some res) : W p l e (zrm 4 0 0) s m args below meth c H locs 0 0 (MQ below (zQ G top L M (some (.int (zO res))) (0 ≤ res ∧ res ≤ 1)) args s 0 0 (zA G)) (F0 m 40 ls []) := by
  unfold Mo_isThere_b40 at h
  refine u_il_n (x := x2) E (Mo_isThere_dc.at 23 rfl) hl rfl ?_
  refine r_iconst E (Mo_isThere_dc.at 24 rfl) ?_
  refine r_icmp_eq (tgt := 54) E hx2 (show InR 2 by decide) (Mo_isThere_dc.at 25 rfl) (by decide) (fun q => ?_) (fun q => ?_)
  · have h := ite_t h q
    exact Mo_isThere_b54_w (x0 := x0) (x1 := x1) (x3 := x3)  E hx0 hx1 hx3 S (hl.sub (And.intro rfl (And.intro rfl (And.intro rfl True.intro)))) h
  · have h := ite_f h q
    refine u_al_n (x := x0) E (Mo_isThere_dc.at 26 rfl) hl rfl ?_
    refine u_il_n (x := x1) E (Mo_isThere_dc.at 27 rfl) hl rfl ?_
    obtain ⟨g14, h⟩ := ite_e h
    obtain ⟨r15, er15, h⟩ := bd1_e h
    refine u_cVI (As := [.int (zO x1)]) (rest := []) E S zcw_yX12_to zw_8_163 zq_6_4 zw_8_161 zck_12.1 rfl g14 (Mo_to_c l G fu top L M x0 x1 hx0 hx1 er15) (zrm_ok (by decide) (by decide)) ⟨Nat.le_refl 0, Nat.le_refl 0⟩ rfl (Nat.zero_le 8) hl.size rfl (Mo_isThere_dc.at 28 rfl) (fun H locs hr15 S16 => ?_)
    refine r_iconst E (Mo_isThere_dc.at 29 rfl) ?_
    refine r_icmp_ne (tgt := 77) E hr15 (show InR 1 by decide) (Mo_isThere_dc.at 30 rfl) (by decide) (fun q => ?_) (fun q => ?_)
    · have h := ite_t h q
      exact Mo_isThere_b54_w (x0 := x0) (x1 := x1) (x3 := x3)  E hx0 hx1 hx3 S16 (hl.sub (And.intro rfl (And.intro rfl (And.intro rfl True.intro)))) h
    · have h := ite_f h q
      refine u_al_n (x := x0) E (Mo_isThere_dc.at 44 rfl) hl rfl ?_
      refine u_gR E zf_12_23 S16 g14 zw_6_230 (Mo_isThere_dc.at 45 rfl) ?_
      refine u_il_n (x := x3) E (Mo_isThere_dc.at 46 rfl) hl rfl ?_
      obtain ⟨g17, h⟩ := ite_e h
      obtain ⟨g18, h⟩ := ite_e h
      refine r_iald E S16 g17 g18 (Mo_isThere_dc.at 47 rfl) ?_
      refine u_al_n (x := x0) E (Mo_isThere_dc.at 48 rfl) hl rfl ?_
      refine u_il_n (x := x1) E (Mo_isThere_dc.at 49 rfl) hl rfl ?_
      obtain ⟨r19, er19, h⟩ := bd1_e h
      refine u_cVI (As := [.int (zO x1)]) (rest := [.int (zO (M (M x0 23) x3))]) E S16 zcw_yX12_toldLife zw_8_170 zq_6_5 zw_8_168 zck_12.1 rfl g14 (Mo_toldLife_c l G fu top L M x0 x1 hx0 hx1 er19) (zrm_ok (by decide) (by decide)) ⟨Nat.le_refl 0, Nat.le_refl 0⟩ rfl (by simp [zR_cat, zcat_I, zcat_J, zcat_S]) hl.size rfl (Mo_isThere_dc.at 50 rfl) (fun H locs hr19 S20 => ?_)
      refine r_icmp_ne (tgt := 103) E (S16.1.inR _ _) hr19 (Mo_isThere_dc.at 51 rfl) (by decide) (fun q => ?_) (fun q => ?_)
      · have h := ite_t h q
        refine u_al_n (x := x0) E (Mo_isThere_dc.at 52 rfl) hl rfl ?_
        refine u_il_n (x := x3) E (Mo_isThere_dc.at 53 rfl) hl rfl ?_
        obtain ⟨r21, er21, h⟩ := bd1_e h
        refine u_cVI (As := [.int (zO x3)]) (rest := []) E S20 zcw_yX12_canBear zw_9_103 zq_8_3 zw_9_101 zck_12.1 rfl g14 (Mo_canBear_c l G fu top L M x0 x3 hx0 hx3 er21) (zrm_ok (by decide) (by decide)) ⟨Nat.le_refl 0, Nat.le_refl 0⟩ rfl (Nat.zero_le 8) hl.size rfl (Mo_isThere_dc.at 54 rfl) (fun H locs hr21 S22 => ?_)
        refine r_if_eq (tgt := 103) E (inR_01 hr21) (Mo_isThere_dc.at 55 rfl) (by decide) (fun q => ?_) (fun q => ?_)
        · have h := ite_t h q
          refine r_iconst E (Mo_isThere_dc.at 58 rfl) ?_
          cases h
          exact r_zret E S22 z01_0 z01_0 (Mo_isThere_dc.at 59 rfl)
        · have h := ite_f h q
          refine r_iconst E (Mo_isThere_dc.at 56 rfl) ?_
          refine r_goto (tgt := 104) E (Mo_isThere_dc.at 57 rfl) (by decide) ?_
          cases h
          exact r_zret E S22 z01_1 z01_1 (Mo_isThere_dc.at 59 rfl)
      · have h := ite_f h q
        refine r_iconst E (Mo_isThere_dc.at 58 rfl) ?_
        cases h
        exact r_zret E S20 z01_0 z01_0 (Mo_isThere_dc.at 59 rfl)
theorem Mo_isThere_w (E : zEv p m c cX12_isThere 5 s args RX12 meth (some .boolean) G) {res : Int} {M : zM} {a0 : Int} {a1 : Int} {a2 : Int} {a3 : Int} {a4 : Int} {H : Heap} {locs : List Loc} {ls : Array Slot} (ha0 : InR a0) (ha1 : InR a1) (ha2 : InR a2) (ha3 : InR a3) (ha4 : InR a4) (S : zS G top L M s H locs) (hl : zLV ls 5 [some (zR G.2.2.1 a0), some (.int (zO a1)), some (.int (zO a2)), some (.int (zO a3)), some (.int (zO a4))]) (h : Mo_isThere fu L M a0 a1 a2 a3 a4 = some res) : W p l e (zrm 4 0 0) s m args below meth c H locs 0 0 (MQ below (zQ G top L M (some (.int (zO res))) (0 ≤ res ∧ res ≤ 1)) args s 0 0 (zA G)) (F0 m 0 ls []) := by
  unfold Mo_isThere at h
  refine u_il_n (x := a2) E (Mo_isThere_dc.at 0 rfl) hl rfl ?_
  refine r_if_ne (tgt := 11) E ha2 (Mo_isThere_dc.at 1 rfl) (by decide) (fun q => ?_) (fun q => ?_)
  · have h := ite_t h q
    refine u_al_n (x := a0) E (Mo_isThere_dc.at 2 rfl) hl rfl ?_
    refine u_il_n (x := a1) E (Mo_isThere_dc.at 3 rfl) hl rfl ?_
    refine u_il_n (x := a3) E (Mo_isThere_dc.at 4 rfl) hl rfl ?_
    obtain ⟨g1, h⟩ := ite_e h
    obtain ⟨r2, er2, h⟩ := bd1_e h
    refine u_cVI (As := [.int (zO a1), .int (zO a3)]) (rest := []) E S zcw_yX12_isLifeOf zw_9_91 zq_8_0 zw_9_89 zck_12.1 rfl g1 (Mo_isLifeOf_c l G fu top L M a0 a1 a3 ha0 ha1 ha3 er2) (zrm_ok (by decide) (by decide)) ⟨Nat.le_refl 0, Nat.le_refl 0⟩ rfl (Nat.zero_le 8) hl.size rfl (Mo_isThere_dc.at 5 rfl) (fun H locs hr2 S3 => ?_)
    cases h
    exact r_zret E S3 hr2 hr2 (Mo_isThere_dc.at 6 rfl)
  · have h := ite_f h q
    refine u_il (x := a4) E (Mo_isThere_dc.at 7 rfl) hl rfl ?_
    refine r_if_eq (tgt := 38) E ha4 (Mo_isThere_dc.at 8 rfl) (by decide) (fun q => ?_) (fun q => ?_)
    · have h := ite_t h q
      refine r_iconst E (Mo_isThere_dc.at 21 rfl) ?_
      cases h
      exact r_zret E S z01_0 z01_0 (Mo_isThere_dc.at 22 rfl)
    · have h := ite_f h q
      refine u_al_n (x := a0) E (Mo_isThere_dc.at 9 rfl) hl rfl ?_
      refine u_il_n (x := a1) E (Mo_isThere_dc.at 10 rfl) hl rfl ?_
      obtain ⟨g4, h⟩ := ite_e h
      obtain ⟨r5, er5, h⟩ := bd1_e h
      refine u_cVI (As := [.int (zO a1)]) (rest := []) E S zcw_yX12_to zw_8_163 zq_6_4 zw_8_161 zck_12.1 rfl g4 (Mo_to_c l G fu top L M a0 a1 ha0 ha1 er5) (zrm_ok (by decide) (by decide)) ⟨Nat.le_refl 0, Nat.le_refl 0⟩ rfl (Nat.zero_le 8) hl.size rfl (Mo_isThere_dc.at 11 rfl) (fun H locs hr5 S6 => ?_)
      refine r_if_eq (tgt := 38) E hr5 (Mo_isThere_dc.at 12 rfl) (by decide) (fun q => ?_) (fun q => ?_)
      · have h := ite_t h q
        refine r_iconst E (Mo_isThere_dc.at 21 rfl) ?_
        cases h
        exact r_zret E S6 z01_0 z01_0 (Mo_isThere_dc.at 22 rfl)
      · have h := ite_f h q
        refine u_il_n (x := a2) E (Mo_isThere_dc.at 13 rfl) hl rfl ?_
        refine r_iconst E (Mo_isThere_dc.at 14 rfl) ?_
        refine r_icmp_ne (tgt := 40) E ha2 (show InR 2 by decide) (Mo_isThere_dc.at 15 rfl) (by decide) (fun q => ?_) (fun q => ?_)
        · have h := ite_t h q
          refine u_al_n (x := a0) E (Mo_isThere_dc.at 16 rfl) hl rfl ?_
          refine u_il_n (x := a1) E (Mo_isThere_dc.at 17 rfl) hl rfl ?_
          obtain ⟨r7, er7, h⟩ := bd1_e h
          refine u_cVI (As := [.int (zO a1)]) (rest := []) E S6 zcw_yX12_to zw_8_163 zq_6_4 zw_8_161 zck_12.1 rfl g4 (Mo_to_c l G fu top L M a0 a1 ha0 ha1 er7) (zrm_ok (by decide) (by decide)) ⟨Nat.le_refl 0, Nat.le_refl 0⟩ rfl (Nat.zero_le 8) hl.size rfl (Mo_isThere_dc.at 18 rfl) (fun H locs hr7 S8 => ?_)
          refine r_iconst E (Mo_isThere_dc.at 19 rfl) ?_
          refine r_icmp_ne (tgt := 40) E hr7 (show InR 1 by decide) (Mo_isThere_dc.at 20 rfl) (by decide) (fun q => ?_) (fun q => ?_)
          · have h := ite_t h q
            refine r_iconst E (Mo_isThere_dc.at 21 rfl) ?_
            cases h
            exact r_zret E S8 z01_0 z01_0 (Mo_isThere_dc.at 22 rfl)
          · have h := ite_f h q
            exact Mo_isThere_b40_w (x0 := a0) (x1 := a1) (x2 := a2) (x3 := a3)  E ha0 ha1 ha2 ha3 S8 (hl.sub (And.intro rfl (And.intro rfl (And.intro rfl (And.intro rfl True.intro))))) h
        · have h := ite_f h q
          exact Mo_isThere_b40_w (x0 := a0) (x1 := a1) (x2 := a2) (x3 := a3)  E ha0 ha1 ha2 ha3 S6 (hl.sub (And.intro rfl (And.intro rfl (And.intro rfl (And.intro rfl True.intro))))) h
theorem Mo_isThere_c (l : Launch) (G : zG) (fu : Nat) (top : Int) (L : zL) (M : zM) (a0 : Int) (a1 : Int) (a2 : Int) (a3 : Int) (a4 : Int) {res : Int} (ha0 : InR a0) (ha1 : InR a1) (ha2 : InR a2) (ha3 : InR a3) (ha4 : InR a4) (h : Mo_isThere fu L M a0 a1 a2 a3 a4 = some res) : Met l yX12_isThere (Cond.code yX12_isThere cX12_isThere 5 (some .boolean) :: zTB) (zrm 4 0 0) (va_Pc [zR G.2.2.1 a0, .int (zO a1), .int (zO a2), .int (zO a3), .int (zO a4)] (zPre G top L M)) (zQ G top L M (some (.int (zO res))) (0 ≤ res ∧ res ≤ 1)) 0 0 (zA G) :=
  z_met (by decide +kernel) (by simp [zR_cat, zcat_I, zcat_S]) (Nat.le_of_ble_eq_true rfl) fun p e s m below meth c ls E hn S hl => Mo_isThere_w E ha0 ha1 ha2 ha3 ha4 S (hl.sub (And.intro rfl (And.intro rfl (And.intro rfl (And.intro rfl (And.intro rfl True.intro)))))) h
end
theorem Mo_are_dc : zDL cX12_are [(0, .aload_n 0, 1, 1), (1, .iload_n 1, 1, 2), (2, .putfield 468, 3, 5), (5, .aload_n 0, 1, 6), (6, .iload_n 2, 1, 7), (7, .putfield 471, 3, 10), (10, .return_, 1, 11)] := zDL.of (by decide +kernel)
section
variable {p : Program} {l : Launch} {e : Env} {s : State} {m : MethodId} {args : Array Value} {below : List Frame} {meth : Method} {c : Code} {G : zG} {top : Int} {L : zL} {fu : Nat}
theorem Mo_are_w (E : zEv p m c cX12_are 3 s args RX12 meth none G) {res : zM} {M : zM} {a0 : Int} {a1 : Int} {a2 : Int} {H : Heap} {locs : List Loc} {ls : Array Slot} (ha0 : InR a0) (ha1 : InR a1) (ha2 : InR a2) (S : zS G top L M s H locs) (hl : zLV ls 3 [some (zR G.2.2.1 a0), some (.int (zO a1)), some (.int (zO a2))]) (h : Mo_are fu L M a0 a1 a2 = some res) : W p l e (zrm 1 0 0) s m args below meth c H locs 0 0 (MQ below (zQ G top L res none True) args s 0 0 (zA G)) (F0 m 0 ls []) := by
  unfold Mo_are at h
  refine u_al_n (x := a0) E (Mo_are_dc.at 0 rfl) hl rfl ?_
  refine u_il_n (x := a1) E (Mo_are_dc.at 1 rfl) hl rfl ?_
  obtain ⟨g1, h⟩ := ite_e h
  obtain ⟨M2, eM2, h⟩ := lt1_e h
  refine u_pI E eM2 zf_12_43 S g1 ha1 (Or.inl rfl) rfl zw_7_10 (Mo_are_dc.at 2 rfl) (fun H locs S3 => ?_)
  refine u_al_n (x := a0) E (Mo_are_dc.at 3 rfl) hl rfl ?_
  refine u_il_n (x := a2) E (Mo_are_dc.at 4 rfl) hl rfl ?_
  obtain ⟨M4, eM4, h⟩ := lt1_e h
  refine u_pI E eM4 zf_12_44 S3 g1 ha2 (Or.inl rfl) rfl zw_7_11 (Mo_are_dc.at 5 rfl) (fun H locs S5 => ?_)
  cases h
  exact r_vret E S5 True.intro (Mo_are_dc.at 6 rfl)
theorem Mo_are_c (l : Launch) (G : zG) (fu : Nat) (top : Int) (L : zL) (M : zM) (a0 : Int) (a1 : Int) (a2 : Int) {res : zM} (ha0 : InR a0) (ha1 : InR a1) (ha2 : InR a2) (h : Mo_are fu L M a0 a1 a2 = some res) : Met l yX12_are (Cond.code yX12_are cX12_are 3 none :: zTB) (zrm 1 0 0) (va_Pc [zR G.2.2.1 a0, .int (zO a1), .int (zO a2)] (zPre G top L M)) (zQ G top L res none True) 0 0 (zA G) :=
  z_met (by decide +kernel) (by simp [zR_cat, zcat_I, zcat_S]) (Nat.le_of_ble_eq_true rfl) fun p e s m below meth c ls E hn S hl => Mo_are_w E ha0 ha1 ha2 S (hl.sub (And.intro rfl (And.intro rfl (And.intro rfl True.intro)))) h
end
theorem Mo_has_dc : zDL cX12_has [(0, .iload_n 0, 1, 1), (1, .iload_n 1, 1, 2), (2, .ishr, 1, 3), (3, .iconst 1, 1, 4), (4, .iand, 1, 5), (5, .iconst 1, 1, 6), (6, .if_icmp .ne 7, 3, 9), (9, .iconst 1, 1, 10), (10, .goto 4, 3, 13), (13, .iconst 0, 1, 14), (14, .ireturn, 1, 15)] := zDL.of (by decide +kernel)
section
variable {p : Program} {l : Launch} {e : Env} {s : State} {m : MethodId} {args : Array Value} {below : List Frame} {meth : Method} {c : Code} {G : zG} {top : Int} {L : zL} {fu : Nat}
theorem Mo_has_w (E : zEv p m c cX12_has 2 s args RX12 meth (some .boolean) G) {res : Int} {M : zM} {a0 : Int} {a1 : Int} {H : Heap} {locs : List Loc} {ls : Array Slot} (ha0 : InR a0) (ha1 : InR a1) (S : zS G top L M s H locs) (hl : zLV ls 2 [some (.int (zO a0)), some (.int (zO a1))]) (h : Mo_has fu L M a0 a1 = some res) : W p l e (zrm 1 0 0) s m args below meth c H locs 0 0 (MQ below (zQ G top L M (some (.int (zO res))) (0 ≤ res ∧ res ≤ 1)) args s 0 0 (zA G)) (F0 m 0 ls []) := by
  unfold Mo_has at h
  refine u_il_n (x := a0) E (Mo_has_dc.at 0 rfl) hl rfl ?_
  refine u_il_n (x := a1) E (Mo_has_dc.at 1 rfl) hl rfl ?_
  refine r_ishr E (Mo_has_dc.at 2 rfl) ?_
  refine r_iconst E (Mo_has_dc.at 3 rfl) ?_
  refine r_iand E (Mo_has_dc.at 4 rfl) ?_
  refine r_iconst E (Mo_has_dc.at 5 rfl) ?_
  refine r_icmp_ne (tgt := 13) E (inR_iand _ _) (show InR 1 by decide) (Mo_has_dc.at 6 rfl) (by decide) (fun q => ?_) (fun q => ?_)
  · have h := ite_t h q
    refine r_iconst E (Mo_has_dc.at 7 rfl) ?_
    refine r_goto (tgt := 14) E (Mo_has_dc.at 8 rfl) (by decide) ?_
    cases h
    exact r_zret E S z01_1 z01_1 (Mo_has_dc.at 10 rfl)
  · have h := ite_f h q
    refine r_iconst E (Mo_has_dc.at 9 rfl) ?_
    cases h
    exact r_zret E S z01_0 z01_0 (Mo_has_dc.at 10 rfl)
theorem Mo_has_c (l : Launch) (G : zG) (fu : Nat) (top : Int) (L : zL) (M : zM) (a0 : Int) (a1 : Int) {res : Int} (ha0 : InR a0) (ha1 : InR a1) (h : Mo_has fu L M a0 a1 = some res) : Met l yX12_has (Cond.code yX12_has cX12_has 2 (some .boolean) :: zTB) (zrm 1 0 0) (va_Pc [.int (zO a0), .int (zO a1)] (zPre G top L M)) (zQ G top L M (some (.int (zO res))) (0 ≤ res ∧ res ≤ 1)) 0 0 (zA G) :=
  z_met (by decide +kernel) (by simp [zR_cat, zcat_I, zcat_S]) (Nat.le_of_ble_eq_true rfl) fun p e s m below meth c ls E hn S hl => Mo_has_w E ha0 ha1 S (hl.sub (And.intro rfl (And.intro rfl True.intro))) h
end
theorem Mo_bornBy_dc : zDL cX12_bornBy [(0, .aload_n 0, 1, 1), (1, .getfield 455, 3, 4), (4, .ifCond .eq 25, 3, 7), (7, .aload_n 0, 1, 8), (8, .getfield 455, 3, 11), (11, .iconst 1, 1, 12), (12, .if_icmp .ne 21, 3, 15), (15, .aload_n 0, 1, 16), (16, .getfield 458, 3, 19), (19, .aload_n 0, 1, 20), (20, .getfield 461, 3, 23), (23, .invokestatic 464, 3, 26), (26, .ifCond .eq 7, 3, 29), (29, .iconst 0, 1, 30), (30, .goto 6, 3, 33), (33, .ldc_w 389, 3, 36), (36, .ireturn, 1, 37)] := zDL.of (by decide +kernel)
section
variable {p : Program} {l : Launch} {e : Env} {s : State} {m : MethodId} {args : Array Value} {below : List Frame} {meth : Method} {c : Code} {G : zG} {top : Int} {L : zL} {fu : Nat}
theorem Mo_bornBy_w (E : zEv p m c cX12_bornBy 1 s args RX12 meth (some .int) G) {res : Int} {M : zM} {a0 : Int} {H : Heap} {locs : List Loc} {ls : Array Slot} (ha0 : InR a0) (S : zS G top L M s H locs) (hl : zLV ls 1 [some (zR G.2.2.1 a0)]) (h : Mo_bornBy fu L M a0 = some res) : W p l e (zrm 2 0 0) s m args below meth c H locs 0 0 (MQ below (zQ G top L M (some (.int (zO res))) (InR res)) args s 0 0 (zA G)) (F0 m 0 ls []) := by
  unfold Mo_bornBy at h
  refine u_al_n (x := a0) E (Mo_bornBy_dc.at 0 rfl) hl rfl ?_
  obtain ⟨g1, h⟩ := ite_e h
  refine u_gI E zf_12_40 S g1 zw_7_7 (Mo_bornBy_dc.at 1 rfl) ?_
  refine r_if_eq (tgt := 29) E (S.1.inR _ _) (Mo_bornBy_dc.at 2 rfl) (by decide) (fun q => ?_) (fun q => ?_)
  · have h := ite_t h q
    refine r_iconst E (Mo_bornBy_dc.at 13 rfl) ?_
    refine r_goto (tgt := 36) E (Mo_bornBy_dc.at 14 rfl) (by decide) ?_
    cases h
    exact r_iret E S (show InR 0 by decide) (Mo_bornBy_dc.at 16 rfl)
  · have h := ite_f h q
    refine u_al_n (x := a0) E (Mo_bornBy_dc.at 3 rfl) hl rfl ?_
    refine u_gI E zf_12_40 S g1 zw_7_7 (Mo_bornBy_dc.at 4 rfl) ?_
    refine r_iconst E (Mo_bornBy_dc.at 5 rfl) ?_
    refine r_icmp_ne (tgt := 33) E (S.1.inR _ _) (show InR 1 by decide) (Mo_bornBy_dc.at 6 rfl) (by decide) (fun q => ?_) (fun q => ?_)
    · have h := ite_t h q
      refine u_al_n (x := a0) E (Mo_bornBy_dc.at 7 rfl) hl rfl ?_
      refine u_gI E zf_12_42 S g1 zw_7_9 (Mo_bornBy_dc.at 8 rfl) ?_
      refine u_al_n (x := a0) E (Mo_bornBy_dc.at 9 rfl) hl rfl ?_
      refine u_gI E zf_12_41 S g1 zw_7_8 (Mo_bornBy_dc.at 10 rfl) ?_
      obtain ⟨r2, er2, h⟩ := bd1_e h
      refine u_cSI (As := [.int (zO (M a0 42)), .int (zO (M a0 41))]) (rest := []) E S zcw_yX12_has zw_9_126 zw_9_125 (Mo_has_c l G fu top L M (M a0 42) (M a0 41) (S.1.inR _ _) (S.1.inR _ _) er2) (zrm_ok (by decide) (by decide)) ⟨Nat.le_refl 0, Nat.le_refl 0⟩ rfl (Nat.zero_le 8) hl.size rfl (Mo_bornBy_dc.at 11 rfl) (fun H locs hr2 S3 => ?_)
      refine r_if_eq (tgt := 33) E (inR_01 hr2) (Mo_bornBy_dc.at 12 rfl) (by decide) (fun q => ?_) (fun q => ?_)
      · have h := ite_t h q
        refine r_ldcw (n := 1048576) E (Mo_bornBy_dc.at 15 rfl) zw_8_202 rfl ?_
        cases h
        exact r_iret E S3 (show InR 1048576 by decide) (Mo_bornBy_dc.at 16 rfl)
      · have h := ite_f h q
        refine r_iconst E (Mo_bornBy_dc.at 13 rfl) ?_
        refine r_goto (tgt := 36) E (Mo_bornBy_dc.at 14 rfl) (by decide) ?_
        cases h
        exact r_iret E S3 (show InR 0 by decide) (Mo_bornBy_dc.at 16 rfl)
    · have h := ite_f h q
      refine r_ldcw (n := 1048576) E (Mo_bornBy_dc.at 15 rfl) zw_8_202 rfl ?_
      cases h
      exact r_iret E S (show InR 1048576 by decide) (Mo_bornBy_dc.at 16 rfl)
theorem Mo_bornBy_c (l : Launch) (G : zG) (fu : Nat) (top : Int) (L : zL) (M : zM) (a0 : Int) {res : Int} (ha0 : InR a0) (h : Mo_bornBy fu L M a0 = some res) : Met l yX12_bornBy (Cond.code yX12_bornBy cX12_bornBy 1 (some .int) :: zTB) (zrm 2 0 0) (va_Pc [zR G.2.2.1 a0] (zPre G top L M)) (zQ G top L M (some (.int (zO res))) (InR res)) 0 0 (zA G) :=
  z_met (by decide +kernel) (by simp [zR_cat, zcat_I, zcat_S]) (Nat.le_of_ble_eq_true rfl) fun p e s m below meth c ls E hn S hl => Mo_bornBy_w E ha0 S (hl.sub (And.intro rfl True.intro)) h
end
theorem Mo_laysReaches_dc : zDL cX12_laysReaches [(0, .aload_n 0, 1, 1), (1, .getfield 37, 3, 4), (4, .iload_n 1, 1, 5), (5, .iaload, 1, 6), (6, .iload_n 2, 1, 7), (7, .if_icmp .lt 7, 3, 10), (10, .iconst 1, 1, 11), (11, .goto 4, 3, 14), (14, .iconst 0, 1, 15), (15, .istore_n 3, 1, 16), (16, .aload_n 0, 1, 17), (17, .iload_n 3, 1, 18), (18, .ifCond .ne 14, 3, 21), (21, .aload_n 0, 1, 22), (22, .getfield 458, 3, 25), (25, .iload_n 1, 1, 26), (26, .invokestatic 464, 3, 29), (29, .ifCond .eq 7, 3, 32), (32, .iconst 0, 1, 33), (33, .goto 11, 3, 36), (36, .iload_n 2, 1, 37), (37, .aload_n 0, 1, 38), (38, .getfield 37, 3, 41), (41, .iload_n 1, 1, 42), (42, .iaload, 1, 43), (43, .isub, 1, 44), (44, .iload_n 3, 1, 45), (45, .ifCond .eq 7, 3, 48), (48, .iconst 0, 1, 49), (49, .goto 6, 3, 52), (52, .ldc_w 389, 3, 55), (55, .invokevirtual 474, 3, 58), (58, .return_, 1, 59)] := zDL.of (by decide +kernel)
section
variable {p : Program} {l : Launch} {e : Env} {s : State} {m : MethodId} {args : Array Value} {below : List Frame} {meth : Method} {c : Code} {G : zG} {top : Int} {L : zL} {fu : Nat}
theorem Mo_laysReaches_b44_w (E : zEv p m c cX12_laysReaches 4 s args RX12 meth none G) {res : zM} {M : zM} {x3 : Int} {y0 : Int} {y1 : Int} {H : Heap} {locs : List Loc} {ls : Array Slot} (hx3 : InR x3) (hy0 : InR y0) (hy1 : InR y1) (S : zS G top L M s H locs) (hl : zLV ls 4 [none, none, none, some (.int (zO x3))]) (h : Mo_laysReaches_b44 fu L M x3 y0 y1 = some res) : W p l e (zrm 2 0 0) s m args below meth c H locs 0 0 (MQ below (zQ G top L res none True) args s 0 0 (zA G)) (F0 m 44 ls [.int (zO y1), zR G.2.2.1 y0]) := by
  unfold Mo_laysReaches_b44 at h
  refine u_il_n (x := x3) E (Mo_laysReaches_dc.at 26 rfl) hl rfl ?_
  refine r_if_eq (tgt := 52) E hx3 (Mo_laysReaches_dc.at 27 rfl) (by decide) (fun q => ?_) (fun q => ?_)
  · have h := ite_t h q
    refine r_ldcw (n := 1048576) E (Mo_laysReaches_dc.at 30 rfl) zw_8_202 rfl ?_
    obtain ⟨g9, h⟩ := ite_e h
    obtain ⟨M10, eM10, h⟩ := bd1_e h
    refine u_cVU (As := [.int (zO y1), .int (zO 1048576)]) (rest := []) E S zcw_yX12_are zw_9_123 zq_8_8 zw_9_121 zck_12.1 rfl g9 (Mo_are_c l G fu top L M y0 y1 1048576 hy0 hy1 (show InR 1048576 by decide) eM10) (zrm_ok (by decide) (by decide)) ⟨Nat.le_refl 0, Nat.le_refl 0⟩ rfl (Nat.zero_le 8) hl.size rfl (Mo_laysReaches_dc.at 31 rfl) (fun H locs _ S11 => ?_)
    cases h
    exact r_vret E S11 True.intro (Mo_laysReaches_dc.at 32 rfl)
  · have h := ite_f h q
    refine r_iconst E (Mo_laysReaches_dc.at 28 rfl) ?_
    refine r_goto (tgt := 55) E (Mo_laysReaches_dc.at 29 rfl) (by decide) ?_
    obtain ⟨g12, h⟩ := ite_e h
    obtain ⟨M13, eM13, h⟩ := bd1_e h
    refine u_cVU (As := [.int (zO y1), .int (zO 0)]) (rest := []) E S zcw_yX12_are zw_9_123 zq_8_8 zw_9_121 zck_12.1 rfl g12 (Mo_are_c l G fu top L M y0 y1 0 hy0 hy1 (show InR 0 by decide) eM13) (zrm_ok (by decide) (by decide)) ⟨Nat.le_refl 0, Nat.le_refl 0⟩ rfl (Nat.zero_le 8) hl.size rfl (Mo_laysReaches_dc.at 31 rfl) (fun H locs _ S14 => ?_)
    cases h
    exact r_vret E S14 True.intro (Mo_laysReaches_dc.at 32 rfl)
theorem Mo_laysReaches_b15_w (E : zEv p m c cX12_laysReaches 4 s args RX12 meth none G) {res : zM} {M : zM} {x0 : Int} {x1 : Int} {x2 : Int} {y0 : Int} {H : Heap} {locs : List Loc} {ls : Array Slot} (hx0 : InR x0) (hx1 : InR x1) (hx2 : InR x2) (hy0 : InR y0) (S : zS G top L M s H locs) (hl : zLV ls 4 [some (zR G.2.2.1 x0), some (.int (zO x1)), some (.int (zO x2)), none]) (h : Mo_laysReaches_b15 fu L M x0 x1 x2 y0 = some res) : W p l e (zrm 2 0 0) s m args below meth c H locs 0 0 (MQ below (zQ G top L res none True) args s 0 0 (zA G)) (F0 m 15 ls [.int (zO y0)]) := by
  unfold Mo_laysReaches_b15 at h
  refine u_ist_n (y := y0) (vs' := [some (zR G.2.2.1 x0), some (.int (zO x1)), some (.int (zO x2)), some (.int (zO y0))]) E rfl (Mo_laysReaches_dc.at 9 rfl) hl (by decide) rfl (fun ls hl => ?_)
  refine u_al_n (x := x0) E (Mo_laysReaches_dc.at 10 rfl) hl rfl ?_
  refine u_il_n (x := y0) E (Mo_laysReaches_dc.at 11 rfl) hl rfl ?_
  refine r_if_ne (tgt := 32) E hy0 (Mo_laysReaches_dc.at 12 rfl) (by decide) (fun q => ?_) (fun q => ?_)
  · have h := ite_t h q
    refine u_al_n (x := x0) E (Mo_laysReaches_dc.at 13 rfl) hl rfl ?_
    obtain ⟨g4, h⟩ := ite_e h
    refine u_gI E zf_12_42 S g4 zw_7_9 (Mo_laysReaches_dc.at 14 rfl) ?_
    refine u_il_n (x := x1) E (Mo_laysReaches_dc.at 15 rfl) hl rfl ?_
    obtain ⟨r5, er5, h⟩ := bd1_e h
    refine u_cSI (As := [.int (zO (M x0 42)), .int (zO x1)]) (rest := [zR G.2.2.1 x0]) E S zcw_yX12_has zw_9_126 zw_9_125 (Mo_has_c l G fu top L M (M x0 42) x1 (S.1.inR _ _) hx1 er5) (zrm_ok (by decide) (by decide)) ⟨Nat.le_refl 0, Nat.le_refl 0⟩ rfl (by simp [zR_cat, zcat_I, zcat_J, zcat_S]) hl.size rfl (Mo_laysReaches_dc.at 16 rfl) (fun H locs hr5 S6 => ?_)
    refine r_if_eq (tgt := 36) E (inR_01 hr5) (Mo_laysReaches_dc.at 17 rfl) (by decide) (fun q => ?_) (fun q => ?_)
    · have h := ite_t h q
      refine u_il_n (x := x2) E (Mo_laysReaches_dc.at 20 rfl) hl rfl ?_
      refine u_al_n (x := x0) E (Mo_laysReaches_dc.at 21 rfl) hl rfl ?_
      refine u_gR E zf_12_22 S6 g4 zw_6_229 (Mo_laysReaches_dc.at 22 rfl) ?_
      refine u_il_n (x := x1) E (Mo_laysReaches_dc.at 23 rfl) hl rfl ?_
      obtain ⟨g7, h⟩ := ite_e h
      obtain ⟨g8, h⟩ := ite_e h
      refine r_iald E S6 g7 g8 (Mo_laysReaches_dc.at 24 rfl) ?_
      refine r_isub E (Mo_laysReaches_dc.at 25 rfl) ?_
      exact Mo_laysReaches_b44_w (x3 := y0) (y0 := x0) (y1 := (w32 (x2 - (M (M x0 22) x1)))) E hy0 hx0 (inR_w32 _) S6 (hl.sub (And.intro rfl True.intro)) h
    · have h := ite_f h q
      refine r_iconst E (Mo_laysReaches_dc.at 18 rfl) ?_
      refine r_goto (tgt := 44) E (Mo_laysReaches_dc.at 19 rfl) (by decide) ?_
      exact Mo_laysReaches_b44_w (x3 := y0) (y0 := x0) (y1 := 0) E hy0 hx0 (show InR 0 by decide) S6 (hl.sub (And.intro rfl True.intro)) h
  · have h := ite_f h q
    refine r_iconst E (Mo_laysReaches_dc.at 18 rfl) ?_
    refine r_goto (tgt := 44) E (Mo_laysReaches_dc.at 19 rfl) (by decide) ?_
    exact Mo_laysReaches_b44_w (x3 := y0) (y0 := x0) (y1 := 0) E hy0 hx0 (show InR 0 by decide) S (hl.sub (And.intro rfl True.intro)) h
theorem Mo_laysReaches_w (E : zEv p m c cX12_laysReaches 4 s args RX12 meth none G) {res : zM} {M : zM} {a0 : Int} {a1 : Int} {a2 : Int} {H : Heap} {locs : List Loc} {ls : Array Slot} (ha0 : InR a0) (ha1 : InR a1) (ha2 : InR a2) (S : zS G top L M s H locs) (hl : zLV ls 4 [some (zR G.2.2.1 a0), some (.int (zO a1)), some (.int (zO a2)), none]) (h : Mo_laysReaches fu L M a0 a1 a2 = some res) : W p l e (zrm 2 0 0) s m args below meth c H locs 0 0 (MQ below (zQ G top L res none True) args s 0 0 (zA G)) (F0 m 0 ls []) := by
  unfold Mo_laysReaches at h
  refine u_al_n (x := a0) E (Mo_laysReaches_dc.at 0 rfl) hl rfl ?_
  obtain ⟨g1, h⟩ := ite_e h
  refine u_gR E zf_12_22 S g1 zw_6_229 (Mo_laysReaches_dc.at 1 rfl) ?_
  refine u_il_n (x := a1) E (Mo_laysReaches_dc.at 2 rfl) hl rfl ?_
  obtain ⟨g2, h⟩ := ite_e h
  obtain ⟨g3, h⟩ := ite_e h
  refine r_iald E S g2 g3 (Mo_laysReaches_dc.at 3 rfl) ?_
  refine u_il_n (x := a2) E (Mo_laysReaches_dc.at 4 rfl) hl rfl ?_
  refine r_icmp_lt (tgt := 14) E (S.1.inR _ _) ha2 (Mo_laysReaches_dc.at 5 rfl) (by decide) (fun q => ?_) (fun q => ?_)
  · have h := ite_t h q
    refine r_iconst E (Mo_laysReaches_dc.at 8 rfl) ?_
    exact Mo_laysReaches_b15_w (x0 := a0) (x1 := a1) (x2 := a2) (y0 := 0) E ha0 ha1 ha2 (show InR 0 by decide) S (hl.sub (And.intro rfl (And.intro rfl (And.intro rfl True.intro)))) h
  · have h := ite_f h q
    refine r_iconst E (Mo_laysReaches_dc.at 6 rfl) ?_
    refine r_goto (tgt := 15) E (Mo_laysReaches_dc.at 7 rfl) (by decide) ?_
    exact Mo_laysReaches_b15_w (x0 := a0) (x1 := a1) (x2 := a2) (y0 := 1) E ha0 ha1 ha2 (show InR 1 by decide) S (hl.sub (And.intro rfl (And.intro rfl (And.intro rfl True.intro)))) h
theorem Mo_laysReaches_c (l : Launch) (G : zG) (fu : Nat) (top : Int) (L : zL) (M : zM) (a0 : Int) (a1 : Int) (a2 : Int) {res : zM} (ha0 : InR a0) (ha1 : InR a1) (ha2 : InR a2) (h : Mo_laysReaches fu L M a0 a1 a2 = some res) : Met l yX12_laysReaches (Cond.code yX12_laysReaches cX12_laysReaches 4 none :: zTB) (zrm 2 0 0) (va_Pc [zR G.2.2.1 a0, .int (zO a1), .int (zO a2)] (zPre G top L M)) (zQ G top L res none True) 0 0 (zA G) :=
  z_met (by decide +kernel) (by simp [zR_cat, zcat_I, zcat_S]) (Nat.le_of_ble_eq_true rfl) fun p e s m below meth c ls E hn S hl => Mo_laysReaches_w E ha0 ha1 ha2 S (hl.sub (And.intro rfl (And.intro rfl (And.intro rfl True.intro)))) h
end
theorem Mo_added_dc : zDL cX12_added [(0, .iload_n 0, 1, 1), (1, .ldc_w 389, 3, 4), (4, .if_icmp .lt 9, 3, 7), (7, .ldc_w 389, 3, 10), (10, .goto 6, 3, 13), (13, .iload_n 0, 1, 14), (14, .iload_n 1, 1, 15), (15, .iadd, 1, 16), (16, .ireturn, 1, 17)] := zDL.of (by decide +kernel)
section
variable {p : Program} {l : Launch} {e : Env} {s : State} {m : MethodId} {args : Array Value} {below : List Frame} {meth : Method} {c : Code} {G : zG} {top : Int} {L : zL} {fu : Nat}
theorem Mo_added_w (E : zEv p m c cX12_added 2 s args RX12 meth (some .int) G) {res : Int} {M : zM} {a0 : Int} {a1 : Int} {H : Heap} {locs : List Loc} {ls : Array Slot} (ha0 : InR a0) (ha1 : InR a1) (S : zS G top L M s H locs) (hl : zLV ls 2 [some (.int (zO a0)), some (.int (zO a1))]) (h : Mo_added fu L M a0 a1 = some res) : W p l e (zrm 1 0 0) s m args below meth c H locs 0 0 (MQ below (zQ G top L M (some (.int (zO res))) (InR res)) args s 0 0 (zA G)) (F0 m 0 ls []) := by
  unfold Mo_added at h
  refine u_il_n (x := a0) E (Mo_added_dc.at 0 rfl) hl rfl ?_
  refine r_ldcw (n := 1048576) E (Mo_added_dc.at 1 rfl) zw_8_202 rfl ?_
  refine r_icmp_lt (tgt := 13) E ha0 (show InR 1048576 by decide) (Mo_added_dc.at 2 rfl) (by decide) (fun q => ?_) (fun q => ?_)
  · have h := ite_t h q
    refine u_il_n (x := a0) E (Mo_added_dc.at 5 rfl) hl rfl ?_
    refine u_il_n (x := a1) E (Mo_added_dc.at 6 rfl) hl rfl ?_
    refine r_iadd E (Mo_added_dc.at 7 rfl) ?_
    cases h
    exact r_iret E S (inR_w32 _) (Mo_added_dc.at 8 rfl)
  · have h := ite_f h q
    refine r_ldcw (n := 1048576) E (Mo_added_dc.at 3 rfl) zw_8_202 rfl ?_
    refine r_goto (tgt := 16) E (Mo_added_dc.at 4 rfl) (by decide) ?_
    cases h
    exact r_iret E S (show InR 1048576 by decide) (Mo_added_dc.at 8 rfl)
theorem Mo_added_c (l : Launch) (G : zG) (fu : Nat) (top : Int) (L : zL) (M : zM) (a0 : Int) (a1 : Int) {res : Int} (ha0 : InR a0) (ha1 : InR a1) (h : Mo_added fu L M a0 a1 = some res) : Met l yX12_added (Cond.code yX12_added cX12_added 2 (some .int) :: zTB) (zrm 1 0 0) (va_Pc [.int (zO a0), .int (zO a1)] (zPre G top L M)) (zQ G top L M (some (.int (zO res))) (InR res)) 0 0 (zA G) :=
  z_met (by decide +kernel) (by simp [zR_cat, zcat_I, zcat_S]) (Nat.le_of_ble_eq_true rfl) fun p e s m below meth c ls E hn S hl => Mo_added_w E ha0 ha1 S (hl.sub (And.intro rfl (And.intro rfl True.intro))) h
end
theorem Mo_testAll_dc : zDL cX12_testAll [(0, .aload_n 0, 1, 1), (1, .invokevirtual 493, 3, 4), (4, .aload_n 0, 1, 5), (5, .bipush 9, 2, 7), (7, .invokevirtual 405, 3, 10), (10, .ifCond .eq 46, 3, 13), (13, .aload_n 0, 1, 14), (14, .getfield 468, 3, 17), (17, .istore_n 1, 1, 18), (18, .aload_n 0, 1, 19), (19, .getfield 471, 3, 22), (22, .istore_n 2, 1, 23), (23, .aload_n 0, 1, 24), (24, .invokevirtual 493, 3, 27), (27, .aload_n 0, 1, 28), (28, .getfield 471, 3, 31), (31, .iload_n 2, 1, 32), (32, .invokestatic 104, 3, 35), (35, .istore_n 3, 1, 36), (36, .aload_n 0, 1, 37), (37, .aload_n 0, 1, 38), (38, .getfield 468, 3, 41), (41, .iload_n 1, 1, 42), (42, .invokestatic 305, 3, 45), (45, .iload_n 3, 1, 46), (46, .invokestatic 104, 3, 49), (49, .iload_n 3, 1, 50), (50, .invokevirtual 474, 3, 53), (53, .goto (-49), 3, 56), (56, .return_, 1, 57)] := zDL.of (by decide +kernel)
theorem Mo_testFact_dc : zDL cX12_testFact [(0, .aload_n 0, 1, 1), (1, .getfield 31, 3, 4), (4, .aload_n 0, 1, 5), (5, .getfield 376, 3, 8), (8, .iaload, 1, 9), (9, .istore_n 1, 1, 10), (10, .iload_n 1, 1, 11), (11, .bipush 100, 2, 13), (13, .idiv, 1, 14), (14, .bipush 100, 2, 16), (16, .irem, 1, 17), (17, .istore_n 2, 1, 18), (18, .iload_n 1, 1, 19), (19, .sipush 10000, 3, 22), (22, .idiv, 1, 23), (23, .istore_n 3, 1, 24), (24, .iload_n 3, 1, 25), (25, .aload_n 0, 1, 26), (26, .getfield 50, 3, 29), (29, .invokestatic 104, 3, 32), (32, .istore 4, 2, 34), (34, .aload_n 0, 1, 35), (35, .dup, 1, 36), (36, .getfield 376, 3, 39), (39, .iconst 1, 1, 40), (40, .iadd, 1, 41), (41, .putfield 376, 3, 44), (44, .iload_n 1, 1, 45), (45, .bipush 100, 2, 47), (47, .irem, 1, 48), (48, .tableswitch 195 0 5 #[40, 49, 92, 107, 158, 168], 40, 88), (88, .aload_n 0, 1, 89), (89, .iload_n 3, 1, 90), (90, .iload_n 3, 1, 91), (91, .invokevirtual 474, 3, 94), (94, .goto 163, 3, 97), (97, .aload_n 0, 1, 98), (98, .aload_n 0, 1, 99), (99, .getfield 458, 3, 102), (102, .iload_n 2, 1, 103), (103, .invokestatic 464, 3, 106), (106, .ifCond .eq 7, 3, 109), (109, .iconst 0, 1, 110), (110, .goto 6, 3, 113), (113, .ldc_w 389, 3, 116), (116, .aload_n 0, 1, 117), (117, .getfield 458, 3, 120), (120, .iload_n 2, 1, 121), (121, .invokestatic 464, 3, 124), (124, .ifCond .eq 7, 3, 127), (127, .iconst 0, 1, 128), (128, .goto 6, 3, 131), (131, .ldc_w 389, 3, 134), (134, .invokevirtual 474, 3, 137), (137, .goto 120, 3, 140), (140, .aload_n 0, 1, 141), (141, .aload_n 0, 1, 142), (142, .invokevirtual 478, 3, 145), (145, .aload_n 0, 1, 146), (146, .invokevirtual 478, 3, 149), (149, .invokevirtual 474, 3, 152), (152, .goto 105, 3, 155), (155, .aload_n 0, 1, 156), (156, .getfield 455, 3, 159), (159, .ifCond .ne 16, 3, 162), (162, .aload_n 0, 1, 163), (163, .aload_n 0, 1, 164), (164, .getfield 461, 3, 167), (167, .iload 4, 2, 169), (169, .invokevirtual 481, 3, 172), (172, .goto 85, 3, 175), (175, .aload_n 0, 1, 176), (176, .aload_n 0, 1, 177), (177, .invokevirtual 478, 3, 180), (180, .iload 4, 2, 182), (182, .invokestatic 484, 3, 185), (185, .iload 4, 2, 187), (187, .ifCond .ne 10, 3, 190), (190, .aload_n 0, 1, 191), (191, .invokevirtual 478, 3, 194), (194, .goto 6, 3, 197), (197, .ldc_w 389, 3, 200), (200, .invokevirtual 474, 3, 203), (203, .goto 54, 3, 206), (206, .aload_n 0, 1, 207), (207, .iload_n 2, 1, 208), (208, .iload 4, 2, 210), (210, .invokevirtual 481, 3, 213), (213, .goto 44, 3, 216), (216, .aload_n 0, 1, 217), (217, .invokevirtual 487, 3, 220), (220, .aload_n 0, 1, 221), (221, .aload_n 0, 1, 222), (222, .getfield 468, 3, 225), (225, .iload_n 3, 1, 226), (226, .invokestatic 484, 3, 229), (229, .aload_n 0, 1, 230), (230, .getfield 471, 3, 233), (233, .iload_n 3, 1, 234), (234, .invokestatic 484, 3, 237), (237, .invokevirtual 474, 3, 240), (240, .goto 17, 3, 243), (243, .aload_n 0, 1, 244), (244, .invokevirtual 490, 3, 247), (247, .aload_n 0, 1, 248), (248, .dup, 1, 249), (249, .getfield 376, 3, 252), (252, .iconst 1, 1, 253), (253, .iadd, 1, 254), (254, .putfield 376, 3, 257), (257, .return_, 1, 258)] := zDL.of (by decide +kernel)
theorem Mo_testWay_dc : zDL cX12_testWay [(0, .aload_n 0, 1, 1), (1, .invokevirtual 487, 3, 4), (4, .aload_n 0, 1, 5), (5, .bipush 8, 2, 7), (7, .invokevirtual 405, 3, 10), (10, .ifCond .eq 40, 3, 13), (13, .aload_n 0, 1, 14), (14, .getfield 468, 3, 17), (17, .istore_n 1, 1, 18), (18, .aload_n 0, 1, 19), (19, .getfield 471, 3, 22), (22, .istore_n 2, 1, 23), (23, .aload_n 0, 1, 24), (24, .invokevirtual 487, 3, 27), (27, .aload_n 0, 1, 28), (28, .aload_n 0, 1, 29), (29, .getfield 468, 3, 32), (32, .iload_n 1, 1, 33), (33, .invokestatic 305, 3, 36), (36, .aload_n 0, 1, 37), (37, .getfield 471, 3, 40), (40, .iload_n 2, 1, 41), (41, .invokestatic 305, 3, 44), (44, .invokevirtual 474, 3, 47), (47, .goto (-43), 3, 50), (50, .return_, 1, 51)] := zDL.of (by decide +kernel)
def zh_Mo_testAll (l : Launch) (G : zG) (zd : Nat) (top : Int) (L : zL) (rec : zt_Mo_testAll) : Prop := (∀ (M : zM) (a0 : Int) {res : zM}, InR a0 → rec.1 M a0 = some res → Met l yX12_testAll (Cond.code yX12_testAll cX12_testAll 4 none :: zTB) (zrm zd 0 0) (va_Pc [zR G.2.2.1 a0] (zPre G top L M)) (zQ G top L res none True) 0 0 (zA G)) ∧ (∀ (M : zM) (a0 : Int) {res : zM}, InR a0 → rec.2.1 M a0 = some res → Met l yX12_testFact (Cond.code yX12_testFact cX12_testFact 5 none :: zTB) (zrm zd 0 0) (va_Pc [zR G.2.2.1 a0] (zPre G top L M)) (zQ G top L res none True) 0 0 (zA G)) ∧ (∀ (M : zM) (a0 : Int) {res : zM}, InR a0 → rec.2.2 M a0 = some res → Met l yX12_testWay (Cond.code yX12_testWay cX12_testWay 3 none :: zTB) (zrm zd 0 0) (va_Pc [zR G.2.2.1 a0] (zPre G top L M)) (zQ G top L res none True) 0 0 (zA G))
section
variable {p : Program} {l : Launch} {e : Env} {s : State} {m : MethodId} {args : Array Value} {below : List Frame} {meth : Method} {c : Code} {G : zG} {top : Int} {L : zL} {fu : Nat} {zd : Nat} {rec : zt_Mo_testAll}
theorem Mo_testAll_s4_w (E : zEv p m c cX12_testAll 4 s args RX12 meth none G) (HR : zh_Mo_testAll l G zd top L rec) (hzd : 3 ≤ zd) {res : zM} {k4 : zM → Int → Option zM} (hk4 : ∀ (M : zM) (x0 : Int), InR x0 → ∀ (H : Heap) (locs : List Loc) (ls : Array Slot), zS G top L M s H locs → zLV ls 4 [some (zR G.2.2.1 x0), none, none, none] → k4 M x0 = some res → W p l e (zrm (zd + 1) 0 0) s m args below meth c H locs 0 0 (MQ below (zQ G top L res none True) args s 0 0 (zA G)) (F0 m 4 ls [])) {M : zM} {x0 : Int} {H : Heap} {locs : List Loc} {ls : Array Slot} (hx0 : InR x0) (S : zS G top L M s H locs) (hl : zLV ls 4 [some (zR G.2.2.1 x0), none, none, none]) (h : Mo_testAll_s4 fu rec k4 L M x0 = some res) : W p l e (zrm (zd + 1) 0 0) s m args below meth c H locs 0 0 (MQ below (zQ G top L res none True) args s 0 0 (zA G)) (F0 m 4 ls []) := by
  unfold Mo_testAll_s4 at h
  refine u_al_n (x := x0) E (Mo_testAll_dc.at 2 rfl) hl rfl ?_
  refine r_bipush E (Mo_testAll_dc.at 3 rfl) rfl ?_
  obtain ⟨g4, h⟩ := ite_e h
  obtain ⟨M6, r5, er5, h⟩ := bd2_e h
  refine u_cVI (As := [.int (zO 9)]) (rest := []) E S zcw_yX12_passes zw_8_238 zq_7_3 zw_8_236 zck_12.1 rfl g4 (Mo_passes_c l G fu top L M x0 9 hx0 (show InR 9 by decide) er5) (zrm_ok (by omega) (by decide)) ⟨Nat.le_refl 0, Nat.le_refl 0⟩ rfl (Nat.zero_le 8) hl.size rfl (Mo_testAll_dc.at 4 rfl) (fun H locs hr5 S7 => ?_)
  refine r_if_eq (tgt := 56) E (inR_01 hr5) (Mo_testAll_dc.at 5 rfl) (by decide) (fun q => ?_) (fun q => ?_)
  · have h := ite_t h q
    cases h
    exact r_vret E S7 True.intro (Mo_testAll_dc.at 29 rfl)
  · have h := ite_f h q
    refine u_al_n (x := x0) E (Mo_testAll_dc.at 6 rfl) hl rfl ?_
    refine u_gI E zf_12_43 S7 g4 zw_7_10 (Mo_testAll_dc.at 7 rfl) ?_
    obtain ⟨v8, ev8, h⟩ := lt1_e h
    have hv8 := inR_eq ev8 (S7.1.inR _ _)
    refine u_ist_n (y := v8) (vs' := [some (zR G.2.2.1 x0), some (.int (zO v8)), none, none]) E ev8 (Mo_testAll_dc.at 8 rfl) hl (by decide) rfl (fun ls hl => ?_)
    refine u_al_n (x := x0) E (Mo_testAll_dc.at 9 rfl) hl rfl ?_
    refine u_gI E zf_12_44 S7 g4 zw_7_11 (Mo_testAll_dc.at 10 rfl) ?_
    obtain ⟨v9, ev9, h⟩ := lt1_e h
    have hv9 := inR_eq ev9 (S7.1.inR _ _)
    refine u_ist_n (y := v9) (vs' := [some (zR G.2.2.1 x0), some (.int (zO v8)), some (.int (zO v9)), none]) E ev9 (Mo_testAll_dc.at 11 rfl) hl (by decide) rfl (fun ls hl => ?_)
    refine u_al_n (x := x0) E (Mo_testAll_dc.at 12 rfl) hl rfl ?_
    obtain ⟨M10, eM10, h⟩ := bd1_e h
    refine u_cVU (As := []) (rest := []) E S7 zcw_yX12_testWay zw_9_115 zq_8_6 zw_9_113 zck_12.1 rfl g4 (HR.2.2 M6 x0 hx0 eM10) (zrm_ok (by omega) (by decide)) ⟨Nat.le_refl 0, Nat.le_refl 0⟩ rfl (Nat.zero_le 8) hl.size rfl (Mo_testAll_dc.at 13 rfl) (fun H locs _ S11 => ?_)
    refine u_al_n (x := x0) E (Mo_testAll_dc.at 14 rfl) hl rfl ?_
    refine u_gI E zf_12_44 S11 g4 zw_7_11 (Mo_testAll_dc.at 15 rfl) ?_
    refine u_il_n (x := v9) E (Mo_testAll_dc.at 16 rfl) hl rfl ?_
    refine r_min (rest := []) E (S11.1.inR _ _) hv9 hl.size zw_7_164 zw_4_47 zw_1_17 zw_4_48 (by simp [zrm]) (by simp [zR_cat, zcat_I, zcat_J, zcat_S, zrm]; omega) ⟨Nat.zero_le _, Nat.zero_le _⟩ (Mo_testAll_dc.at 17 rfl) ?_
    obtain ⟨v12, ev12, h⟩ := lt1_e h
    have hv12 := inR_eq ev12 (inR_min (S11.1.inR _ _) hv9)
    refine u_ist_n (y := v12) (vs' := [some (zR G.2.2.1 x0), some (.int (zO v8)), some (.int (zO v9)), some (.int (zO v12))]) E ev12 (Mo_testAll_dc.at 18 rfl) hl (by decide) rfl (fun ls hl => ?_)
    refine u_al_n (x := x0) E (Mo_testAll_dc.at 19 rfl) hl rfl ?_
    refine u_al_n (x := x0) E (Mo_testAll_dc.at 20 rfl) hl rfl ?_
    refine u_gI E zf_12_43 S11 g4 zw_7_10 (Mo_testAll_dc.at 21 rfl) ?_
    refine u_il_n (x := v8) E (Mo_testAll_dc.at 22 rfl) hl rfl ?_
    refine r_max (rest := [zR G.2.2.1 x0]) E (S11.1.inR _ _) hv8 hl.size zw_8_125 zw_4_56 zw_1_17 zw_4_57 (by simp [zrm]) (by simp [zR_cat, zcat_I, zcat_J, zcat_S, zrm]; omega) ⟨Nat.zero_le _, Nat.zero_le _⟩ (Mo_testAll_dc.at 23 rfl) ?_
    refine u_il_n (x := v12) E (Mo_testAll_dc.at 24 rfl) hl rfl ?_
    refine r_min (rest := [zR G.2.2.1 x0]) E (inR_max (S11.1.inR _ _) hv8) hv12 hl.size zw_7_164 zw_4_47 zw_1_17 zw_4_48 (by simp [zrm]) (by simp [zR_cat, zcat_I, zcat_J, zcat_S, zrm]; omega) ⟨Nat.zero_le _, Nat.zero_le _⟩ (Mo_testAll_dc.at 25 rfl) ?_
    refine u_il_n (x := v12) E (Mo_testAll_dc.at 26 rfl) hl rfl ?_
    obtain ⟨M13, eM13, h⟩ := bd1_e h
    refine u_cVU (As := [.int (zO (min (max (M10 x0 43) v8) v12)), .int (zO v12)]) (rest := []) E S11 zcw_yX12_are zw_9_123 zq_8_8 zw_9_121 zck_12.1 rfl g4 (Mo_are_c l G fu top L M10 x0 (min (max (M10 x0 43) v8) v12) v12 hx0 (inR_min (inR_max (S11.1.inR _ _) hv8) hv12) hv12 eM13) (zrm_ok (by omega) (by decide)) ⟨Nat.le_refl 0, Nat.le_refl 0⟩ rfl (Nat.zero_le 8) hl.size rfl (Mo_testAll_dc.at 27 rfl) (fun H locs _ S14 => ?_)
    refine r_goto (tgt := 4) E (Mo_testAll_dc.at 28 rfl) (by decide) ?_
    exact hk4 _ x0 hx0 _ _ _ S14 (hl.sub (And.intro rfl True.intro)) h
theorem Mo_testAll_l4_w (E : zEv p m c cX12_testAll 4 s args RX12 meth none G) (HR : zh_Mo_testAll l G zd top L rec) (hzd : 3 ≤ zd) {res : zM} : ∀ (n : Nat) (M : zM) (x0 : Int), InR x0 → ∀ (H : Heap) (locs : List Loc) (ls : Array Slot), zS G top L M s H locs → zLV ls 4 [some (zR G.2.2.1 x0), none, none, none] → Mo_testAll_l4 fu rec L n M x0 = some res → W p l e (zrm (zd + 1) 0 0) s m args below meth c H locs 0 0 (MQ below (zQ G top L res none True) args s 0 0 (zA G)) (F0 m 4 ls [])
  | 0, _, _ => fun _ _ _ _ _ _ h => (by cases h)
  | n + 1, M, x0 => fun hx0 H locs ls S hl h => Mo_testAll_s4_w E HR hzd (fun M x0 hx0 H locs ls S hl h => Mo_testAll_l4_w E HR hzd n M x0 hx0 H locs ls S hl h) hx0 S hl h
theorem Mo_testAll_w (E : zEv p m c cX12_testAll 4 s args RX12 meth none G) (HR : zh_Mo_testAll l G zd top L rec) (hzd : 3 ≤ zd) {res : zM} {M : zM} {a0 : Int} {H : Heap} {locs : List Loc} {ls : Array Slot} (ha0 : InR a0) (S : zS G top L M s H locs) (hl : zLV ls 4 [some (zR G.2.2.1 a0), none, none, none]) (h : Mo_testAll_r fu rec L M a0 = some res) : W p l e (zrm (zd + 1) 0 0) s m args below meth c H locs 0 0 (MQ below (zQ G top L res none True) args s 0 0 (zA G)) (F0 m 0 ls []) := by
  unfold Mo_testAll_r at h
  refine u_al_n (x := a0) E (Mo_testAll_dc.at 0 rfl) hl rfl ?_
  obtain ⟨g1, h⟩ := ite_e h
  obtain ⟨M2, eM2, h⟩ := bd1_e h
  refine u_cVU (As := []) (rest := []) E S zcw_yX12_testWay zw_9_115 zq_8_6 zw_9_113 zck_12.1 rfl g1 (HR.2.2 M a0 ha0 eM2) (zrm_ok (by omega) (by decide)) ⟨Nat.le_refl 0, Nat.le_refl 0⟩ rfl (Nat.zero_le 8) hl.size rfl (Mo_testAll_dc.at 1 rfl) (fun H locs _ S3 => ?_)
  exact Mo_testAll_l4_w E HR hzd fu _ a0 ha0 _ _ _ S3 (hl.sub (And.intro rfl True.intro)) h
theorem Mo_testFact_b116_w (E : zEv p m c cX12_testFact 5 s args RX12 meth none G) (HR : zh_Mo_testAll l G zd top L rec) (hzd : 3 ≤ zd) {res : zM} {M : zM} {x0 : Int} {x2 : Int} {y0 : Int} {y1 : Int} {H : Heap} {locs : List Loc} {ls : Array Slot} (hx0 : InR x0) (hx2 : InR x2) (hy0 : InR y0) (hy1 : InR y1) (S : zS G top L M s H locs) (hl : zLV ls 5 [some (zR G.2.2.1 x0), none, some (.int (zO x2)), none, none]) (h : Mo_testFact_b116 fu rec L M x0 x2 y0 y1 = some res) : W p l e (zrm (zd + 1) 0 0) s m args below meth c H locs 0 0 (MQ below (zQ G top L res none True) args s 0 0 (zA G)) (F0 m 116 ls [.int (zO y1), zR G.2.2.1 y0]) := by
  unfold Mo_testFact_b116 at h
  refine u_al_n (x := x0) E (Mo_testFact_dc.at 45 rfl) hl rfl ?_
  obtain ⟨g15, h⟩ := ite_e h
  refine u_gI E zf_12_42 S g15 zw_7_9 (Mo_testFact_dc.at 46 rfl) ?_
  refine u_il_n (x := x2) E (Mo_testFact_dc.at 47 rfl) hl rfl ?_
  obtain ⟨r16, er16, h⟩ := bd1_e h
  refine u_cSI (As := [.int (zO (M x0 42)), .int (zO x2)]) (rest := [.int (zO y1), zR G.2.2.1 y0]) E S zcw_yX12_has zw_9_126 zw_9_125 (Mo_has_c l G fu top L M (M x0 42) x2 (S.1.inR _ _) hx2 er16) (zrm_ok (by omega) (by decide)) ⟨Nat.le_refl 0, Nat.le_refl 0⟩ rfl (by simp [zR_cat, zcat_I, zcat_J, zcat_S]) hl.size rfl (Mo_testFact_dc.at 48 rfl) (fun H locs hr16 S17 => ?_)
  refine r_if_eq (tgt := 131) E (inR_01 hr16) (Mo_testFact_dc.at 49 rfl) (by decide) (fun q => ?_) (fun q => ?_)
  · have h := ite_t h q
    refine r_ldcw (n := 1048576) E (Mo_testFact_dc.at 52 rfl) zw_8_202 rfl ?_
    obtain ⟨g18, h⟩ := ite_e h
    obtain ⟨M19, eM19, h⟩ := bd1_e h
    refine u_cVU (As := [.int (zO y1), .int (zO 1048576)]) (rest := []) E S17 zcw_yX12_are zw_9_123 zq_8_8 zw_9_121 zck_12.1 rfl g18 (Mo_are_c l G fu top L M y0 y1 1048576 hy0 hy1 (show InR 1048576 by decide) eM19) (zrm_ok (by omega) (by decide)) ⟨Nat.le_refl 0, Nat.le_refl 0⟩ rfl (Nat.zero_le 8) hl.size rfl (Mo_testFact_dc.at 53 rfl) (fun H locs _ S20 => ?_)
    refine r_goto (tgt := 257) E (Mo_testFact_dc.at 54 rfl) (by decide) ?_
    cases h
    exact r_vret E S20 True.intro (Mo_testFact_dc.at 110 rfl)
  · have h := ite_f h q
    refine r_iconst E (Mo_testFact_dc.at 50 rfl) ?_
    refine r_goto (tgt := 134) E (Mo_testFact_dc.at 51 rfl) (by decide) ?_
    obtain ⟨g21, h⟩ := ite_e h
    obtain ⟨M22, eM22, h⟩ := bd1_e h
    refine u_cVU (As := [.int (zO y1), .int (zO 0)]) (rest := []) E S17 zcw_yX12_are zw_9_123 zq_8_8 zw_9_121 zck_12.1 rfl g21 (Mo_are_c l G fu top L M y0 y1 0 hy0 hy1 (show InR 0 by decide) eM22) (zrm_ok (by omega) (by decide)) ⟨Nat.le_refl 0, Nat.le_refl 0⟩ rfl (Nat.zero_le 8) hl.size rfl (Mo_testFact_dc.at 53 rfl) (fun H locs _ S23 => ?_)
    refine r_goto (tgt := 257) E (Mo_testFact_dc.at 54 rfl) (by decide) ?_
    cases h
    exact r_vret E S23 True.intro (Mo_testFact_dc.at 110 rfl)
theorem Mo_testFact_w (E : zEv p m c cX12_testFact 5 s args RX12 meth none G) (HR : zh_Mo_testAll l G zd top L rec) (hzd : 3 ≤ zd) {res : zM} {M : zM} {a0 : Int} {H : Heap} {locs : List Loc} {ls : Array Slot} (ha0 : InR a0) (S : zS G top L M s H locs) (hl : zLV ls 5 [some (zR G.2.2.1 a0), none, none, none, none]) (h : Mo_testFact_r fu rec L M a0 = some res) : W p l e (zrm (zd + 1) 0 0) s m args below meth c H locs 0 0 (MQ below (zQ G top L res none True) args s 0 0 (zA G)) (F0 m 0 ls []) := by
  unfold Mo_testFact_r at h
  refine u_al_n (x := a0) E (Mo_testFact_dc.at 0 rfl) hl rfl ?_
  obtain ⟨g1, h⟩ := ite_e h
  refine u_gR E zf_12_18 S g1 zw_6_225 (Mo_testFact_dc.at 1 rfl) ?_
  refine u_al_n (x := a0) E (Mo_testFact_dc.at 2 rfl) hl rfl ?_
  refine u_gI E zf_12_30 S g1 zw_6_237 (Mo_testFact_dc.at 3 rfl) ?_
  obtain ⟨g2, h⟩ := ite_e h
  obtain ⟨g3, h⟩ := ite_e h
  refine r_iald E S g2 g3 (Mo_testFact_dc.at 4 rfl) ?_
  obtain ⟨v4, ev4, h⟩ := lt1_e h
  have hv4 := inR_eq ev4 (S.1.inR _ _)
  refine u_ist_n (y := v4) (vs' := [some (zR G.2.2.1 a0), some (.int (zO v4)), none, none, none]) E ev4 (Mo_testFact_dc.at 5 rfl) hl (by decide) rfl (fun ls hl => ?_)
  refine u_il_n (x := v4) E (Mo_testFact_dc.at 6 rfl) hl rfl ?_
  refine r_bipush E (Mo_testFact_dc.at 7 rfl) rfl ?_
  refine r_idiv E hv4 (show InR 100 by decide) (by decide) (Mo_testFact_dc.at 8 rfl) ?_
  refine r_bipush E (Mo_testFact_dc.at 9 rfl) rfl ?_
  refine r_irem E (inR_w32 _) (show InR 100 by decide) (by decide) (Mo_testFact_dc.at 10 rfl) ?_
  obtain ⟨v5, ev5, h⟩ := lt1_e h
  have hv5 := inR_eq ev5 (inR_w32 _)
  refine u_ist_n (y := v5) (vs' := [some (zR G.2.2.1 a0), some (.int (zO v4)), some (.int (zO v5)), none, none]) E ev5 (Mo_testFact_dc.at 11 rfl) hl (by decide) rfl (fun ls hl => ?_)
  refine u_il_n (x := v4) E (Mo_testFact_dc.at 12 rfl) hl rfl ?_
  refine r_sipush E (Mo_testFact_dc.at 13 rfl) rfl ?_
  refine r_idiv E hv4 (show InR 10000 by decide) (by decide) (Mo_testFact_dc.at 14 rfl) ?_
  obtain ⟨v6, ev6, h⟩ := lt1_e h
  have hv6 := inR_eq ev6 (inR_w32 _)
  refine u_ist_n (y := v6) (vs' := [some (zR G.2.2.1 a0), some (.int (zO v4)), some (.int (zO v5)), some (.int (zO v6)), none]) E ev6 (Mo_testFact_dc.at 15 rfl) hl (by decide) rfl (fun ls hl => ?_)
  refine u_il_n (x := v6) E (Mo_testFact_dc.at 16 rfl) hl rfl ?_
  refine u_al_n (x := a0) E (Mo_testFact_dc.at 17 rfl) hl rfl ?_
  refine u_gI E zf_12_32 S g1 zw_6_239 (Mo_testFact_dc.at 18 rfl) ?_
  refine r_min (rest := []) E hv6 (S.1.inR _ _) hl.size zw_7_164 zw_4_47 zw_1_17 zw_4_48 (by simp [zrm]) (by simp [zR_cat, zcat_I, zcat_J, zcat_S, zrm]; omega) ⟨Nat.zero_le _, Nat.zero_le _⟩ (Mo_testFact_dc.at 19 rfl) ?_
  obtain ⟨v7, ev7, h⟩ := lt1_e h
  have hv7 := inR_eq ev7 (inR_min hv6 (S.1.inR _ _))
  refine u_ist (y := v7) (vs' := [some (zR G.2.2.1 a0), some (.int (zO v4)), some (.int (zO v5)), some (.int (zO v6)), some (.int (zO v7))]) E ev7 (Mo_testFact_dc.at 20 rfl) hl (by decide) rfl (fun ls hl => ?_)
  refine u_al_n (x := a0) E (Mo_testFact_dc.at 21 rfl) hl rfl ?_
  refine r_dup E (Mo_testFact_dc.at 22 rfl) (zR_cat _ _) ?_
  refine u_gI E zf_12_30 S g1 zw_6_237 (Mo_testFact_dc.at 23 rfl) ?_
  refine r_iconst E (Mo_testFact_dc.at 24 rfl) ?_
  refine r_iadd E (Mo_testFact_dc.at 25 rfl) ?_
  obtain ⟨M8, eM8, h⟩ := lt1_e h
  refine u_pI E eM8 zf_12_30 S g1 (inR_w32 _) (Or.inl rfl) rfl zw_6_237 (Mo_testFact_dc.at 26 rfl) (fun H locs S9 => ?_)
  refine u_il_n (x := v4) E (Mo_testFact_dc.at 27 rfl) hl rfl ?_
  refine r_bipush E (Mo_testFact_dc.at 28 rfl) rfl ?_
  refine r_irem E hv4 (show InR 100 by decide) (by decide) (Mo_testFact_dc.at 29 rfl) ?_
  by_cases q12 : (w32 (Int.tmod v4 100)) = 0
  · have h := ite_t h q12
    refine r_tin (tgt := 88) (k := 0) E (inR_w32 _) q12 (Mo_testFact_dc.at 30 rfl) (by decide) (by decide) rfl (by decide) ?_
    refine u_al_n (x := a0) E (Mo_testFact_dc.at 31 rfl) hl rfl ?_
    refine u_il_n (x := v6) E (Mo_testFact_dc.at 32 rfl) hl rfl ?_
    refine u_il_n (x := v6) E (Mo_testFact_dc.at 33 rfl) hl rfl ?_
    obtain ⟨M10, eM10, h⟩ := bd1_e h
    refine u_cVU (As := [.int (zO v6), .int (zO v6)]) (rest := []) E S9 zcw_yX12_are zw_9_123 zq_8_8 zw_9_121 zck_12.1 rfl g1 (Mo_are_c l G fu top L M8 a0 v6 v6 ha0 hv6 hv6 eM10) (zrm_ok (by omega) (by decide)) ⟨Nat.le_refl 0, Nat.le_refl 0⟩ rfl (Nat.zero_le 8) hl.size rfl (Mo_testFact_dc.at 34 rfl) (fun H locs _ S11 => ?_)
    refine r_goto (tgt := 257) E (Mo_testFact_dc.at 35 rfl) (by decide) ?_
    cases h
    exact r_vret E S11 True.intro (Mo_testFact_dc.at 110 rfl)
  · have h := ite_f h q12
    by_cases q24 : (w32 (Int.tmod v4 100)) = 1
    · have h := ite_t h q24
      refine r_tin (tgt := 97) (k := 1) E (inR_w32 _) q24 (Mo_testFact_dc.at 30 rfl) (by decide) (by decide) rfl (by decide) ?_
      refine u_al_n (x := a0) E (Mo_testFact_dc.at 36 rfl) hl rfl ?_
      refine u_al_n (x := a0) E (Mo_testFact_dc.at 37 rfl) hl rfl ?_
      refine u_gI E zf_12_42 S9 g1 zw_7_9 (Mo_testFact_dc.at 38 rfl) ?_
      refine u_il_n (x := v5) E (Mo_testFact_dc.at 39 rfl) hl rfl ?_
      obtain ⟨r13, er13, h⟩ := bd1_e h
      refine u_cSI (As := [.int (zO (M8 a0 42)), .int (zO v5)]) (rest := [zR G.2.2.1 a0]) E S9 zcw_yX12_has zw_9_126 zw_9_125 (Mo_has_c l G fu top L M8 (M8 a0 42) v5 (S9.1.inR _ _) hv5 er13) (zrm_ok (by omega) (by decide)) ⟨Nat.le_refl 0, Nat.le_refl 0⟩ rfl (by simp [zR_cat, zcat_I, zcat_J, zcat_S]) hl.size rfl (Mo_testFact_dc.at 40 rfl) (fun H locs hr13 S14 => ?_)
      refine r_if_eq (tgt := 113) E (inR_01 hr13) (Mo_testFact_dc.at 41 rfl) (by decide) (fun q => ?_) (fun q => ?_)
      · have h := ite_t h q
        refine r_ldcw (n := 1048576) E (Mo_testFact_dc.at 44 rfl) zw_8_202 rfl ?_
        exact Mo_testFact_b116_w (x0 := a0) (x2 := v5) (y0 := a0) (y1 := 1048576) E HR hzd ha0 hv5 ha0 (show InR 1048576 by decide) S14 (hl.sub (And.intro rfl (And.intro rfl True.intro))) h
      · have h := ite_f h q
        refine r_iconst E (Mo_testFact_dc.at 42 rfl) ?_
        refine r_goto (tgt := 116) E (Mo_testFact_dc.at 43 rfl) (by decide) ?_
        exact Mo_testFact_b116_w (x0 := a0) (x2 := v5) (y0 := a0) (y1 := 0) E HR hzd ha0 hv5 ha0 (show InR 0 by decide) S14 (hl.sub (And.intro rfl (And.intro rfl True.intro))) h
    · have h := ite_f h q24
      by_cases q31 : (w32 (Int.tmod v4 100)) = 2
      · have h := ite_t h q31
        refine r_tin (tgt := 140) (k := 2) E (inR_w32 _) q31 (Mo_testFact_dc.at 30 rfl) (by decide) (by decide) rfl (by decide) ?_
        refine u_al_n (x := a0) E (Mo_testFact_dc.at 55 rfl) hl rfl ?_
        refine u_al_n (x := a0) E (Mo_testFact_dc.at 56 rfl) hl rfl ?_
        obtain ⟨r25, er25, h⟩ := bd1_e h
        refine u_cVI (As := []) (rest := [zR G.2.2.1 a0]) E S9 zcw_yX12_bornBy zw_9_130 zq_8_9 zw_9_128 zck_12.1 rfl g1 (Mo_bornBy_c l G fu top L M8 a0 ha0 er25) (zrm_ok (by omega) (by decide)) ⟨Nat.le_refl 0, Nat.le_refl 0⟩ rfl (by simp [zR_cat, zcat_I, zcat_J, zcat_S]) hl.size rfl (Mo_testFact_dc.at 57 rfl) (fun H locs hr25 S26 => ?_)
        refine u_al_n (x := a0) E (Mo_testFact_dc.at 58 rfl) hl rfl ?_
        obtain ⟨r27, er27, h⟩ := bd1_e h
        refine u_cVI (As := []) (rest := [.int (zO r25), zR G.2.2.1 a0]) E S26 zcw_yX12_bornBy zw_9_130 zq_8_9 zw_9_128 zck_12.1 rfl g1 (Mo_bornBy_c l G fu top L M8 a0 ha0 er27) (zrm_ok (by omega) (by decide)) ⟨Nat.le_refl 0, Nat.le_refl 0⟩ rfl (by simp [zR_cat, zcat_I, zcat_J, zcat_S]) hl.size rfl (Mo_testFact_dc.at 59 rfl) (fun H locs hr27 S28 => ?_)
        obtain ⟨M29, eM29, h⟩ := bd1_e h
        refine u_cVU (As := [.int (zO r25), .int (zO r27)]) (rest := []) E S28 zcw_yX12_are zw_9_123 zq_8_8 zw_9_121 zck_12.1 rfl g1 (Mo_are_c l G fu top L M8 a0 r25 r27 ha0 hr25 hr27 eM29) (zrm_ok (by omega) (by decide)) ⟨Nat.le_refl 0, Nat.le_refl 0⟩ rfl (Nat.zero_le 8) hl.size rfl (Mo_testFact_dc.at 60 rfl) (fun H locs _ S30 => ?_)
        refine r_goto (tgt := 257) E (Mo_testFact_dc.at 61 rfl) (by decide) ?_
        cases h
        exact r_vret E S30 True.intro (Mo_testFact_dc.at 110 rfl)
      · have h := ite_f h q31
        by_cases q44 : (w32 (Int.tmod v4 100)) = 3
        · have h := ite_t h q44
          refine r_tin (tgt := 155) (k := 3) E (inR_w32 _) q44 (Mo_testFact_dc.at 30 rfl) (by decide) (by decide) rfl (by decide) ?_
          refine u_al_n (x := a0) E (Mo_testFact_dc.at 62 rfl) hl rfl ?_
          refine u_gI E zf_12_40 S9 g1 zw_7_7 (Mo_testFact_dc.at 63 rfl) ?_
          refine r_if_ne (tgt := 175) E (S9.1.inR _ _) (Mo_testFact_dc.at 64 rfl) (by decide) (fun q => ?_) (fun q => ?_)
          · have h := ite_t h q
            refine u_al_n (x := a0) E (Mo_testFact_dc.at 65 rfl) hl rfl ?_
            refine u_al_n (x := a0) E (Mo_testFact_dc.at 66 rfl) hl rfl ?_
            refine u_gI E zf_12_41 S9 g1 zw_7_8 (Mo_testFact_dc.at 67 rfl) ?_
            refine u_il (x := v7) E (Mo_testFact_dc.at 68 rfl) hl rfl ?_
            obtain ⟨M32, eM32, h⟩ := bd1_e h
            refine u_cVU (As := [.int (zO (M8 a0 41)), .int (zO v7)]) (rest := []) E S9 zcw_yX12_laysReaches zw_9_134 zq_8_10 zw_9_132 zck_12.1 rfl g1 (Mo_laysReaches_c l G fu top L M8 a0 (M8 a0 41) v7 ha0 (S9.1.inR _ _) hv7 eM32) (zrm_ok (by omega) (by decide)) ⟨Nat.le_refl 0, Nat.le_refl 0⟩ rfl (Nat.zero_le 8) hl.size rfl (Mo_testFact_dc.at 69 rfl) (fun H locs _ S33 => ?_)
            refine r_goto (tgt := 257) E (Mo_testFact_dc.at 70 rfl) (by decide) ?_
            cases h
            exact r_vret E S33 True.intro (Mo_testFact_dc.at 110 rfl)
          · have h := ite_f h q
            refine u_al_n (x := a0) E (Mo_testFact_dc.at 71 rfl) hl rfl ?_
            refine u_al_n (x := a0) E (Mo_testFact_dc.at 72 rfl) hl rfl ?_
            obtain ⟨r34, er34, h⟩ := bd1_e h
            refine u_cVI (As := []) (rest := [zR G.2.2.1 a0]) E S9 zcw_yX12_bornBy zw_9_130 zq_8_9 zw_9_128 zck_12.1 rfl g1 (Mo_bornBy_c l G fu top L M8 a0 ha0 er34) (zrm_ok (by omega) (by decide)) ⟨Nat.le_refl 0, Nat.le_refl 0⟩ rfl (by simp [zR_cat, zcat_I, zcat_J, zcat_S]) hl.size rfl (Mo_testFact_dc.at 73 rfl) (fun H locs hr34 S35 => ?_)
            refine u_il (x := v7) E (Mo_testFact_dc.at 74 rfl) hl rfl ?_
            obtain ⟨r36, er36, h⟩ := bd1_e h
            refine u_cSI (As := [.int (zO r34), .int (zO v7)]) (rest := [zR G.2.2.1 a0]) E S35 zcw_yX12_added zw_9_137 zw_9_136 (Mo_added_c l G fu top L M8 r34 v7 hr34 hv7 er36) (zrm_ok (by omega) (by decide)) ⟨Nat.le_refl 0, Nat.le_refl 0⟩ rfl (by simp [zR_cat, zcat_I, zcat_J, zcat_S]) hl.size rfl (Mo_testFact_dc.at 75 rfl) (fun H locs hr36 S37 => ?_)
            refine u_il (x := v7) E (Mo_testFact_dc.at 76 rfl) hl rfl ?_
            refine r_if_ne (tgt := 197) E hv7 (Mo_testFact_dc.at 77 rfl) (by decide) (fun q => ?_) (fun q => ?_)
            · have h := ite_t h q
              refine u_al_n (x := a0) E (Mo_testFact_dc.at 78 rfl) hl rfl ?_
              obtain ⟨r38, er38, h⟩ := bd1_e h
              refine u_cVI (As := []) (rest := [.int (zO r36), zR G.2.2.1 a0]) E S37 zcw_yX12_bornBy zw_9_130 zq_8_9 zw_9_128 zck_12.1 rfl g1 (Mo_bornBy_c l G fu top L M8 a0 ha0 er38) (zrm_ok (by omega) (by decide)) ⟨Nat.le_refl 0, Nat.le_refl 0⟩ rfl (by simp [zR_cat, zcat_I, zcat_J, zcat_S]) hl.size rfl (Mo_testFact_dc.at 79 rfl) (fun H locs hr38 S39 => ?_)
              refine r_goto (tgt := 200) E (Mo_testFact_dc.at 80 rfl) (by decide) ?_
              obtain ⟨M40, eM40, h⟩ := bd1_e h
              refine u_cVU (As := [.int (zO r36), .int (zO r38)]) (rest := []) E S39 zcw_yX12_are zw_9_123 zq_8_8 zw_9_121 zck_12.1 rfl g1 (Mo_are_c l G fu top L M8 a0 r36 r38 ha0 hr36 hr38 eM40) (zrm_ok (by omega) (by decide)) ⟨Nat.le_refl 0, Nat.le_refl 0⟩ rfl (Nat.zero_le 8) hl.size rfl (Mo_testFact_dc.at 82 rfl) (fun H locs _ S41 => ?_)
              refine r_goto (tgt := 257) E (Mo_testFact_dc.at 83 rfl) (by decide) ?_
              cases h
              exact r_vret E S41 True.intro (Mo_testFact_dc.at 110 rfl)
            · have h := ite_f h q
              refine r_ldcw (n := 1048576) E (Mo_testFact_dc.at 81 rfl) zw_8_202 rfl ?_
              obtain ⟨M42, eM42, h⟩ := bd1_e h
              refine u_cVU (As := [.int (zO r36), .int (zO 1048576)]) (rest := []) E S37 zcw_yX12_are zw_9_123 zq_8_8 zw_9_121 zck_12.1 rfl g1 (Mo_are_c l G fu top L M8 a0 r36 1048576 ha0 hr36 (show InR 1048576 by decide) eM42) (zrm_ok (by omega) (by decide)) ⟨Nat.le_refl 0, Nat.le_refl 0⟩ rfl (Nat.zero_le 8) hl.size rfl (Mo_testFact_dc.at 82 rfl) (fun H locs _ S43 => ?_)
              refine r_goto (tgt := 257) E (Mo_testFact_dc.at 83 rfl) (by decide) ?_
              cases h
              exact r_vret E S43 True.intro (Mo_testFact_dc.at 110 rfl)
        · have h := ite_f h q44
          by_cases q47 : (w32 (Int.tmod v4 100)) = 4
          · have h := ite_t h q47
            refine r_tin (tgt := 206) (k := 4) E (inR_w32 _) q47 (Mo_testFact_dc.at 30 rfl) (by decide) (by decide) rfl (by decide) ?_
            refine u_al_n (x := a0) E (Mo_testFact_dc.at 84 rfl) hl rfl ?_
            refine u_il_n (x := v5) E (Mo_testFact_dc.at 85 rfl) hl rfl ?_
            refine u_il (x := v7) E (Mo_testFact_dc.at 86 rfl) hl rfl ?_
            obtain ⟨M45, eM45, h⟩ := bd1_e h
            refine u_cVU (As := [.int (zO v5), .int (zO v7)]) (rest := []) E S9 zcw_yX12_laysReaches zw_9_134 zq_8_10 zw_9_132 zck_12.1 rfl g1 (Mo_laysReaches_c l G fu top L M8 a0 v5 v7 ha0 hv5 hv7 eM45) (zrm_ok (by omega) (by decide)) ⟨Nat.le_refl 0, Nat.le_refl 0⟩ rfl (Nat.zero_le 8) hl.size rfl (Mo_testFact_dc.at 87 rfl) (fun H locs _ S46 => ?_)
            refine r_goto (tgt := 257) E (Mo_testFact_dc.at 88 rfl) (by decide) ?_
            cases h
            exact r_vret E S46 True.intro (Mo_testFact_dc.at 110 rfl)
          · have h := ite_f h q47
            by_cases q56 : (w32 (Int.tmod v4 100)) = 5
            · have h := ite_t h q56
              refine r_tin (tgt := 216) (k := 5) E (inR_w32 _) q56 (Mo_testFact_dc.at 30 rfl) (by decide) (by decide) rfl (by decide) ?_
              refine u_al_n (x := a0) E (Mo_testFact_dc.at 89 rfl) hl rfl ?_
              obtain ⟨M48, eM48, h⟩ := bd1_e h
              refine u_cVU (As := []) (rest := []) E S9 zcw_yX12_testFact zw_9_119 zq_8_7 zw_9_117 zck_12.1 rfl g1 (HR.2.1 M8 a0 ha0 eM48) (zrm_ok (by omega) (by decide)) ⟨Nat.le_refl 0, Nat.le_refl 0⟩ rfl (Nat.zero_le 8) hl.size rfl (Mo_testFact_dc.at 90 rfl) (fun H locs _ S49 => ?_)
              refine u_al_n (x := a0) E (Mo_testFact_dc.at 91 rfl) hl rfl ?_
              refine u_al_n (x := a0) E (Mo_testFact_dc.at 92 rfl) hl rfl ?_
              refine u_gI E zf_12_43 S49 g1 zw_7_10 (Mo_testFact_dc.at 93 rfl) ?_
              refine u_il_n (x := v6) E (Mo_testFact_dc.at 94 rfl) hl rfl ?_
              obtain ⟨r50, er50, h⟩ := bd1_e h
              refine u_cSI (As := [.int (zO (M48 a0 43)), .int (zO v6)]) (rest := [zR G.2.2.1 a0]) E S49 zcw_yX12_added zw_9_137 zw_9_136 (Mo_added_c l G fu top L M48 (M48 a0 43) v6 (S49.1.inR _ _) hv6 er50) (zrm_ok (by omega) (by decide)) ⟨Nat.le_refl 0, Nat.le_refl 0⟩ rfl (by simp [zR_cat, zcat_I, zcat_J, zcat_S]) hl.size rfl (Mo_testFact_dc.at 95 rfl) (fun H locs hr50 S51 => ?_)
              refine u_al_n (x := a0) E (Mo_testFact_dc.at 96 rfl) hl rfl ?_
              refine u_gI E zf_12_44 S51 g1 zw_7_11 (Mo_testFact_dc.at 97 rfl) ?_
              refine u_il_n (x := v6) E (Mo_testFact_dc.at 98 rfl) hl rfl ?_
              obtain ⟨r52, er52, h⟩ := bd1_e h
              refine u_cSI (As := [.int (zO (M48 a0 44)), .int (zO v6)]) (rest := [.int (zO r50), zR G.2.2.1 a0]) E S51 zcw_yX12_added zw_9_137 zw_9_136 (Mo_added_c l G fu top L M48 (M48 a0 44) v6 (S51.1.inR _ _) hv6 er52) (zrm_ok (by omega) (by decide)) ⟨Nat.le_refl 0, Nat.le_refl 0⟩ rfl (by simp [zR_cat, zcat_I, zcat_J, zcat_S]) hl.size rfl (Mo_testFact_dc.at 99 rfl) (fun H locs hr52 S53 => ?_)
              obtain ⟨M54, eM54, h⟩ := bd1_e h
              refine u_cVU (As := [.int (zO r50), .int (zO r52)]) (rest := []) E S53 zcw_yX12_are zw_9_123 zq_8_8 zw_9_121 zck_12.1 rfl g1 (Mo_are_c l G fu top L M48 a0 r50 r52 ha0 hr50 hr52 eM54) (zrm_ok (by omega) (by decide)) ⟨Nat.le_refl 0, Nat.le_refl 0⟩ rfl (Nat.zero_le 8) hl.size rfl (Mo_testFact_dc.at 100 rfl) (fun H locs _ S55 => ?_)
              refine r_goto (tgt := 257) E (Mo_testFact_dc.at 101 rfl) (by decide) ?_
              cases h
              exact r_vret E S55 True.intro (Mo_testFact_dc.at 110 rfl)
            · have h := ite_f h q56
              refine r_tout (tgt := 243) E (inR_w32 _) (by omega) (Mo_testFact_dc.at 30 rfl) (by decide) ?_
              refine u_al_n (x := a0) E (Mo_testFact_dc.at 102 rfl) hl rfl ?_
              obtain ⟨M57, eM57, h⟩ := bd1_e h
              refine u_cVU (As := []) (rest := []) E S9 zcw_yX12_testAll zw_9_111 zq_8_5 zw_9_109 zck_12.1 rfl g1 (HR.1 M8 a0 ha0 eM57) (zrm_ok (by omega) (by decide)) ⟨Nat.le_refl 0, Nat.le_refl 0⟩ rfl (Nat.zero_le 8) hl.size rfl (Mo_testFact_dc.at 103 rfl) (fun H locs _ S58 => ?_)
              refine u_al_n (x := a0) E (Mo_testFact_dc.at 104 rfl) hl rfl ?_
              refine r_dup E (Mo_testFact_dc.at 105 rfl) (zR_cat _ _) ?_
              refine u_gI E zf_12_30 S58 g1 zw_6_237 (Mo_testFact_dc.at 106 rfl) ?_
              refine r_iconst E (Mo_testFact_dc.at 107 rfl) ?_
              refine r_iadd E (Mo_testFact_dc.at 108 rfl) ?_
              obtain ⟨M59, eM59, h⟩ := lt1_e h
              refine u_pI E eM59 zf_12_30 S58 g1 (inR_w32 _) (Or.inl rfl) rfl zw_6_237 (Mo_testFact_dc.at 109 rfl) (fun H locs S60 => ?_)
              cases h
              exact r_vret E S60 True.intro (Mo_testFact_dc.at 110 rfl)
theorem Mo_testWay_s4_w (E : zEv p m c cX12_testWay 3 s args RX12 meth none G) (HR : zh_Mo_testAll l G zd top L rec) (hzd : 3 ≤ zd) {res : zM} {k4 : zM → Int → Option zM} (hk4 : ∀ (M : zM) (x0 : Int), InR x0 → ∀ (H : Heap) (locs : List Loc) (ls : Array Slot), zS G top L M s H locs → zLV ls 3 [some (zR G.2.2.1 x0), none, none] → k4 M x0 = some res → W p l e (zrm (zd + 1) 0 0) s m args below meth c H locs 0 0 (MQ below (zQ G top L res none True) args s 0 0 (zA G)) (F0 m 4 ls [])) {M : zM} {x0 : Int} {H : Heap} {locs : List Loc} {ls : Array Slot} (hx0 : InR x0) (S : zS G top L M s H locs) (hl : zLV ls 3 [some (zR G.2.2.1 x0), none, none]) (h : Mo_testWay_s4 fu rec k4 L M x0 = some res) : W p l e (zrm (zd + 1) 0 0) s m args below meth c H locs 0 0 (MQ below (zQ G top L res none True) args s 0 0 (zA G)) (F0 m 4 ls []) := by
  unfold Mo_testWay_s4 at h
  refine u_al_n (x := x0) E (Mo_testWay_dc.at 2 rfl) hl rfl ?_
  refine r_bipush E (Mo_testWay_dc.at 3 rfl) rfl ?_
  obtain ⟨g4, h⟩ := ite_e h
  obtain ⟨M6, r5, er5, h⟩ := bd2_e h
  refine u_cVI (As := [.int (zO 8)]) (rest := []) E S zcw_yX12_passes zw_8_238 zq_7_3 zw_8_236 zck_12.1 rfl g4 (Mo_passes_c l G fu top L M x0 8 hx0 (show InR 8 by decide) er5) (zrm_ok (by omega) (by decide)) ⟨Nat.le_refl 0, Nat.le_refl 0⟩ rfl (Nat.zero_le 8) hl.size rfl (Mo_testWay_dc.at 4 rfl) (fun H locs hr5 S7 => ?_)
  refine r_if_eq (tgt := 50) E (inR_01 hr5) (Mo_testWay_dc.at 5 rfl) (by decide) (fun q => ?_) (fun q => ?_)
  · have h := ite_t h q
    cases h
    exact r_vret E S7 True.intro (Mo_testWay_dc.at 25 rfl)
  · have h := ite_f h q
    refine u_al_n (x := x0) E (Mo_testWay_dc.at 6 rfl) hl rfl ?_
    refine u_gI E zf_12_43 S7 g4 zw_7_10 (Mo_testWay_dc.at 7 rfl) ?_
    obtain ⟨v8, ev8, h⟩ := lt1_e h
    have hv8 := inR_eq ev8 (S7.1.inR _ _)
    refine u_ist_n (y := v8) (vs' := [some (zR G.2.2.1 x0), some (.int (zO v8)), none]) E ev8 (Mo_testWay_dc.at 8 rfl) hl (by decide) rfl (fun ls hl => ?_)
    refine u_al_n (x := x0) E (Mo_testWay_dc.at 9 rfl) hl rfl ?_
    refine u_gI E zf_12_44 S7 g4 zw_7_11 (Mo_testWay_dc.at 10 rfl) ?_
    obtain ⟨v9, ev9, h⟩ := lt1_e h
    have hv9 := inR_eq ev9 (S7.1.inR _ _)
    refine u_ist_n (y := v9) (vs' := [some (zR G.2.2.1 x0), some (.int (zO v8)), some (.int (zO v9))]) E ev9 (Mo_testWay_dc.at 11 rfl) hl (by decide) rfl (fun ls hl => ?_)
    refine u_al_n (x := x0) E (Mo_testWay_dc.at 12 rfl) hl rfl ?_
    obtain ⟨M10, eM10, h⟩ := bd1_e h
    refine u_cVU (As := []) (rest := []) E S7 zcw_yX12_testFact zw_9_119 zq_8_7 zw_9_117 zck_12.1 rfl g4 (HR.2.1 M6 x0 hx0 eM10) (zrm_ok (by omega) (by decide)) ⟨Nat.le_refl 0, Nat.le_refl 0⟩ rfl (Nat.zero_le 8) hl.size rfl (Mo_testWay_dc.at 13 rfl) (fun H locs _ S11 => ?_)
    refine u_al_n (x := x0) E (Mo_testWay_dc.at 14 rfl) hl rfl ?_
    refine u_al_n (x := x0) E (Mo_testWay_dc.at 15 rfl) hl rfl ?_
    refine u_gI E zf_12_43 S11 g4 zw_7_10 (Mo_testWay_dc.at 16 rfl) ?_
    refine u_il_n (x := v8) E (Mo_testWay_dc.at 17 rfl) hl rfl ?_
    refine r_max (rest := [zR G.2.2.1 x0]) E (S11.1.inR _ _) hv8 hl.size zw_8_125 zw_4_56 zw_1_17 zw_4_57 (by simp [zrm]) (by simp [zR_cat, zcat_I, zcat_J, zcat_S, zrm]; omega) ⟨Nat.zero_le _, Nat.zero_le _⟩ (Mo_testWay_dc.at 18 rfl) ?_
    refine u_al_n (x := x0) E (Mo_testWay_dc.at 19 rfl) hl rfl ?_
    refine u_gI E zf_12_44 S11 g4 zw_7_11 (Mo_testWay_dc.at 20 rfl) ?_
    refine u_il_n (x := v9) E (Mo_testWay_dc.at 21 rfl) hl rfl ?_
    refine r_max (rest := [.int (zO (max (M10 x0 43) v8)), zR G.2.2.1 x0]) E (S11.1.inR _ _) hv9 hl.size zw_8_125 zw_4_56 zw_1_17 zw_4_57 (by simp [zrm]) (by simp [zR_cat, zcat_I, zcat_J, zcat_S, zrm]; omega) ⟨Nat.zero_le _, Nat.zero_le _⟩ (Mo_testWay_dc.at 22 rfl) ?_
    obtain ⟨M12, eM12, h⟩ := bd1_e h
    refine u_cVU (As := [.int (zO (max (M10 x0 43) v8)), .int (zO (max (M10 x0 44) v9))]) (rest := []) E S11 zcw_yX12_are zw_9_123 zq_8_8 zw_9_121 zck_12.1 rfl g4 (Mo_are_c l G fu top L M10 x0 (max (M10 x0 43) v8) (max (M10 x0 44) v9) hx0 (inR_max (S11.1.inR _ _) hv8) (inR_max (S11.1.inR _ _) hv9) eM12) (zrm_ok (by omega) (by decide)) ⟨Nat.le_refl 0, Nat.le_refl 0⟩ rfl (Nat.zero_le 8) hl.size rfl (Mo_testWay_dc.at 23 rfl) (fun H locs _ S13 => ?_)
    refine r_goto (tgt := 4) E (Mo_testWay_dc.at 24 rfl) (by decide) ?_
    exact hk4 _ x0 hx0 _ _ _ S13 (hl.sub (And.intro rfl True.intro)) h
theorem Mo_testWay_l4_w (E : zEv p m c cX12_testWay 3 s args RX12 meth none G) (HR : zh_Mo_testAll l G zd top L rec) (hzd : 3 ≤ zd) {res : zM} : ∀ (n : Nat) (M : zM) (x0 : Int), InR x0 → ∀ (H : Heap) (locs : List Loc) (ls : Array Slot), zS G top L M s H locs → zLV ls 3 [some (zR G.2.2.1 x0), none, none] → Mo_testWay_l4 fu rec L n M x0 = some res → W p l e (zrm (zd + 1) 0 0) s m args below meth c H locs 0 0 (MQ below (zQ G top L res none True) args s 0 0 (zA G)) (F0 m 4 ls [])
  | 0, _, _ => fun _ _ _ _ _ _ h => (by cases h)
  | n + 1, M, x0 => fun hx0 H locs ls S hl h => Mo_testWay_s4_w E HR hzd (fun M x0 hx0 H locs ls S hl h => Mo_testWay_l4_w E HR hzd n M x0 hx0 H locs ls S hl h) hx0 S hl h
theorem Mo_testWay_w (E : zEv p m c cX12_testWay 3 s args RX12 meth none G) (HR : zh_Mo_testAll l G zd top L rec) (hzd : 3 ≤ zd) {res : zM} {M : zM} {a0 : Int} {H : Heap} {locs : List Loc} {ls : Array Slot} (ha0 : InR a0) (S : zS G top L M s H locs) (hl : zLV ls 3 [some (zR G.2.2.1 a0), none, none]) (h : Mo_testWay_r fu rec L M a0 = some res) : W p l e (zrm (zd + 1) 0 0) s m args below meth c H locs 0 0 (MQ below (zQ G top L res none True) args s 0 0 (zA G)) (F0 m 0 ls []) := by
  unfold Mo_testWay_r at h
  refine u_al_n (x := a0) E (Mo_testWay_dc.at 0 rfl) hl rfl ?_
  obtain ⟨g1, h⟩ := ite_e h
  obtain ⟨M2, eM2, h⟩ := bd1_e h
  refine u_cVU (As := []) (rest := []) E S zcw_yX12_testFact zw_9_119 zq_8_7 zw_9_117 zck_12.1 rfl g1 (HR.2.1 M a0 ha0 eM2) (zrm_ok (by omega) (by decide)) ⟨Nat.le_refl 0, Nat.le_refl 0⟩ rfl (Nat.zero_le 8) hl.size rfl (Mo_testWay_dc.at 1 rfl) (fun H locs _ S3 => ?_)
  exact Mo_testWay_l4_w E HR hzd fu _ a0 ha0 _ _ _ S3 (hl.sub (And.intro rfl True.intro)) h
end
theorem zg_Mo_testAll_h (l : Launch) (G : zG) (fu : Nat) (top : Int) (L : zL) : ∀ n : Nat, zh_Mo_testAll l G (3 + n) top L (zg_Mo_testAll fu L n)
  | 0 => ⟨fun _ _ _ _ h => (by cases h), fun _ _ _ _ h => (by cases h), fun _ _ _ _ h => (by cases h)⟩
  | n + 1 => ⟨fun M a0 res ha0 h => z_met (by decide +kernel) (by simp [zR_cat, zcat_I, zcat_S]) (Nat.le_of_ble_eq_true rfl) fun p e s m below meth c ls E hn S hl => Mo_testAll_w E (zd := 3 + n) (zg_Mo_testAll_h l G fu top L n) (by omega) ha0 S (hl.sub (And.intro rfl True.intro)) h, fun M a0 res ha0 h => z_met (by decide +kernel) (by simp [zR_cat, zcat_I, zcat_S]) (Nat.le_of_ble_eq_true rfl) fun p e s m below meth c ls E hn S hl => Mo_testFact_w E (zd := 3 + n) (zg_Mo_testAll_h l G fu top L n) (by omega) ha0 S (hl.sub (And.intro rfl True.intro)) h, fun M a0 res ha0 h => z_met (by decide +kernel) (by simp [zR_cat, zcat_I, zcat_S]) (Nat.le_of_ble_eq_true rfl) fun p e s m below meth c ls E hn S hl => Mo_testWay_w E (zd := 3 + n) (zg_Mo_testAll_h l G fu top L n) (by omega) ha0 S (hl.sub (And.intro rfl True.intro)) h⟩
theorem Mo_testAll_c (l : Launch) (G : zG) (fu : Nat) (top : Int) (L : zL) (M : zM) (a0 : Int) {res : zM} (ha0 : InR a0) (h : Mo_testAll fu L M a0 = some res) : Met l yX12_testAll (Cond.code yX12_testAll cX12_testAll 4 none :: zTB) (zrm 43 0 0) (va_Pc [zR G.2.2.1 a0] (zPre G top L M)) (zQ G top L res none True) 0 0 (zA G) := (zg_Mo_testAll_h l G fu top L 40).1 M a0 ha0 h
theorem Mo_testFact_c (l : Launch) (G : zG) (fu : Nat) (top : Int) (L : zL) (M : zM) (a0 : Int) {res : zM} (ha0 : InR a0) (h : Mo_testFact fu L M a0 = some res) : Met l yX12_testFact (Cond.code yX12_testFact cX12_testFact 5 none :: zTB) (zrm 43 0 0) (va_Pc [zR G.2.2.1 a0] (zPre G top L M)) (zQ G top L res none True) 0 0 (zA G) := (zg_Mo_testAll_h l G fu top L 40).2.1 M a0 ha0 h
theorem Mo_testWay_c (l : Launch) (G : zG) (fu : Nat) (top : Int) (L : zL) (M : zM) (a0 : Int) {res : zM} (ha0 : InR a0) (h : Mo_testWay fu L M a0 = some res) : Met l yX12_testWay (Cond.code yX12_testWay cX12_testWay 3 none :: zTB) (zrm 43 0 0) (va_Pc [zR G.2.2.1 a0] (zPre G top L M)) (zQ G top L res none True) 0 0 (zA G) := (zg_Mo_testAll_h l G fu top L 40).2.2 M a0 ha0 h
