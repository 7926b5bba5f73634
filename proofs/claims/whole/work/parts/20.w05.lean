theorem Wt_look_dc : zDL cX9_look [(0, .aload_n 0, 1, 1), (1, .aload_n 1, 1, 2), (2, .getfield 19, 3, 5), (5, .bipush 24, 2, 7), (7, .invokestatic 25, 3, 10), (10, .putfield 31, 3, 13), (13, .aload_n 0, 1, 14), (14, .aload_n 1, 1, 15), (15, .getfield 32, 3, 18), (18, .putfield 35, 3, 21), (21, .aload_n 0, 1, 22), (22, .aload_n 1, 1, 23), (23, .iload_n 3, 1, 24), (24, .invokevirtual 36, 3, 27), (27, .putfield 40, 3, 30), (30, .aload_n 0, 1, 31), (31, .aload_n 2, 1, 32), (32, .getfield 42, 3, 35), (35, .ifCond .ne 7, 3, 38), (38, .iconst 1, 1, 39), (39, .goto 4, 3, 42), (42, .iconst 0, 1, 43), (43, .putfield 47, 3, 46), (46, .aload_n 0, 1, 47), (47, .aload_n 1, 1, 48), (48, .aload_n 2, 1, 49), (49, .invokevirtual 51, 3, 52), (52, .putfield 55, 3, 55), (55, .aload_n 0, 1, 56), (56, .getfield 15, 3, 59), (59, .aload_n 2, 1, 60), (60, .aload_n 2, 1, 61), (61, .getfield 58, 3, 64), (64, .bipush 99, 2, 66), (66, .invokevirtual 61, 3, 69), (69, .iconst 0, 1, 70), (70, .istore 4, 2, 72), (72, .iload 4, 2, 74), (74, .aload_n 0, 1, 75), (75, .getfield 31, 3, 78), (78, .if_icmp .ge 62, 3, 81), (81, .iload 4, 2, 83), (83, .bipush 24, 2, 85), (85, .if_icmp .ge 55, 3, 88), (88, .aload_n 1, 1, 89), (89, .aload_n 2, 1, 90), (90, .iload 4, 2, 92), (92, .invokevirtual 67, 3, 95), (95, .istore 5, 2, 97), (97, .aload_n 0, 1, 98), (98, .getfield 9, 3, 101), (101, .iload 4, 2, 103), (103, .iload 5, 2, 105), (105, .ifCond .eq 26, 3, 108), (108, .aload_n 0, 1, 109), (109, .getfield 15, 3, 112), (112, .aload_n 1, 1, 113), (113, .aload_n 1, 1, 114), (114, .iload 4, 2, 116), (116, .invokevirtual 71, 3, 119), (119, .aload_n 1, 1, 120), (120, .iload 4, 2, 122), (122, .invokevirtual 74, 3, 125), (125, .invokevirtual 77, 3, 128), (128, .goto 5, 3, 131), (131, .bipush (-3), 2, 133), (133, .iastore, 1, 134), (134, .iinc 4 1, 3, 137), (137, .goto (-65), 3, 140), (140, .aload_n 0, 1, 141), (141, .aload_n 1, 1, 142), (142, .invokevirtual 81, 3, 145), (145, .return_, 1, 146)] := zDL.of (by decide +kernel)
section
variable {p : Program} {l : Launch} {e : Env} {s : State} {m : MethodId} {args : Array Value} {below : List Frame} {meth : Method} {c : Code} {G : zG} {top : Int} {L : zL} {fu : Nat}
theorem Wt_look_s72_w (E : zEv p m c cX9_look 6 s args RX9 meth none G) {res : zM} {k72 : zM → Int → Int → Int → Int → Option zM} (hk72 : ∀ (M : zM) (x0 : Int) (x1 : Int) (x2 : Int) (x4 : Int), InR x0 → InR x1 → InR x2 → InR x4 → ∀ (H : Heap) (locs : List Loc) (ls : Array Slot), zS G top L M s H locs → zLV ls 6 [some (zR G.2.2.1 x0), some (zR G.2.2.1 x1), some (zR G.2.2.1 x2), none, some (.int (zO x4)), none] → k72 M x0 x1 x2 x4 = some res → W p l e (zrm 4 0 0) s m args below meth c H locs 0 0 (MQ below (zQ G top L res none True) args s 0 0 (zA G)) (F0 m 72 ls [])) {M : zM} {x0 : Int} {x1 : Int} {x2 : Int} {x4 : Int} {H : Heap} {locs : List Loc} {ls : Array Slot} (hx0 : InR x0) (hx1 : InR x1) (hx2 : InR x2) (hx4 : InR x4) (S : zS G top L M s H locs) (hl : zLV ls 6 [some (zR G.2.2.1 x0), some (zR G.2.2.1 x1), some (zR G.2.2.1 x2), none, some (.int (zO x4)), none]) (h : Wt_look_s72 fu k72 L M x0 x1 x2 x4 = some res) : W p l e (zrm 4 0 0) s m args below meth c H locs 0 0 (MQ below (zQ G top L res none True) args s 0 0 (zA G)) (F0 m 72 ls []) := by
  unfold Wt_look_s72 at h
  refine u_il (x := x4) E (Wt_look_dc.at 37 rfl) hl rfl ?_
  refine u_al_n (x := x0) E (Wt_look_dc.at 38 rfl) hl rfl ?_
  obtain ⟨g26, h⟩ := ite_e h
  refine u_gI E zf_9_2 S g26 zw_2_62 (Wt_look_dc.at 39 rfl) ?_
  refine r_icmp_ge (tgt := 140) E hx4 (S.1.inR _ _) (Wt_look_dc.at 40 rfl) (by decide) (fun q => ?_) (fun q => ?_)
  · have h := ite_t h q
    refine u_il (x := x4) E (Wt_look_dc.at 41 rfl) hl rfl ?_
    refine r_bipush E (Wt_look_dc.at 42 rfl) rfl ?_
    refine r_icmp_ge (tgt := 140) E hx4 (show InR 24 by decide) (Wt_look_dc.at 43 rfl) (by decide) (fun q => ?_) (fun q => ?_)
    · have h := ite_t h q
      refine u_al_n (x := x1) E (Wt_look_dc.at 44 rfl) hl rfl ?_
      refine u_al_n (x := x2) E (Wt_look_dc.at 45 rfl) hl rfl ?_
      refine u_il (x := x4) E (Wt_look_dc.at 46 rfl) hl rfl ?_
      obtain ⟨g27, h⟩ := ite_e h
      obtain ⟨r28, er28, h⟩ := bd1_e h
      refine u_cVI (As := [zR G.2.2.1 x2, .int (zO x4)]) (rest := []) E S zcw_yX10_inClass zw_4_228 zw_4_229 zw_4_227 zck_10.1 rfl g27 (Wd_inClass_c l G fu top L M x1 x2 x4 hx1 hx2 hx4 er28) (zrm_ok (by decide) (by decide)) ⟨Nat.le_refl 0, Nat.le_refl 0⟩ rfl (Nat.zero_le 8) hl.size rfl (Wt_look_dc.at 47 rfl) (fun H locs hr28 S29 => ?_)
      refine u_ist (y := r28) (vs' := [some (zR G.2.2.1 x0), some (zR G.2.2.1 x1), some (zR G.2.2.1 x2), none, some (.int (zO x4)), some (.int (zO r28))]) E rfl (Wt_look_dc.at 48 rfl) hl (by decide) rfl (fun ls hl => ?_)
      refine u_al_n (x := x0) E (Wt_look_dc.at 49 rfl) hl rfl ?_
      refine u_gR E zf_9_1 S29 g26 zw_2_61 (Wt_look_dc.at 50 rfl) ?_
      refine u_il (x := x4) E (Wt_look_dc.at 51 rfl) hl rfl ?_
      refine u_il (x := r28) E (Wt_look_dc.at 52 rfl) hl rfl ?_
      refine r_if_eq (tgt := 131) E (inR_01 hr28) (Wt_look_dc.at 53 rfl) (by decide) (fun q => ?_) (fun q => ?_)
      · have h := ite_t h q
        refine r_bipush E (Wt_look_dc.at 65 rfl) rfl ?_
        obtain ⟨g30, h⟩ := ite_e h
        obtain ⟨g31, h⟩ := ite_e h
        obtain ⟨M32, eM32, h⟩ := lt1_e h
        refine u_iast E eM32 S29 g30 g31 (show InR (-3) by decide) (Wt_look_dc.at 66 rfl) (fun H locs S33 => ?_)
        obtain ⟨v34, ev34, h⟩ := lt1_e h
        have hv34 := inR_eq ev34 (inR_w32 _)
        refine u_iinc (y := v34) (vs' := [some (zR G.2.2.1 x0), some (zR G.2.2.1 x1), some (zR G.2.2.1 x2), none, some (.int (zO v34)), some (.int (zO r28))]) E ev34 (Wt_look_dc.at 67 rfl) hl rfl (by decide) rfl (fun ls hl => ?_)
        refine r_goto (tgt := 72) E (Wt_look_dc.at 68 rfl) (by decide) ?_
        exact hk72 _ x0 x1 x2 v34 hx0 hx1 hx2 hv34 _ _ _ S33 (hl.sub (And.intro rfl (And.intro rfl (And.intro rfl (And.intro rfl True.intro))))) h
      · have h := ite_f h q
        refine u_al_n (x := x0) E (Wt_look_dc.at 54 rfl) hl rfl ?_
        refine u_gR E zf_9_0 S29 g26 zw_2_60 (Wt_look_dc.at 55 rfl) ?_
        refine u_al_n (x := x1) E (Wt_look_dc.at 56 rfl) hl rfl ?_
        refine u_al_n (x := x1) E (Wt_look_dc.at 57 rfl) hl rfl ?_
        refine u_il (x := x4) E (Wt_look_dc.at 58 rfl) hl rfl ?_
        obtain ⟨r35, er35, h⟩ := bd1_e h
        refine u_cVI (As := [.int (zO x4)]) (rest := [zR G.2.2.1 x1, zR G.2.2.1 (M x0 0), .int (zO x4), zR G.2.2.1 (M x0 1)]) E S29 zcw_yX10_bornIn zw_4_19 zw_4_20 zw_4_231 zck_10.1 rfl g27 (Wd_bornIn_c l G fu top L M x1 x4 hx1 hx4 er35) (zrm_ok (by decide) (by decide)) ⟨Nat.le_refl 0, Nat.le_refl 0⟩ rfl (by simp [zR_cat, zcat_I, zcat_J, zcat_S]) hl.size rfl (Wt_look_dc.at 59 rfl) (fun H locs hr35 S36 => ?_)
        refine u_al_n (x := x1) E (Wt_look_dc.at 60 rfl) hl rfl ?_
        refine u_il (x := x4) E (Wt_look_dc.at 61 rfl) hl rfl ?_
        obtain ⟨r37, er37, h⟩ := bd1_e h
        refine u_cVI (As := [.int (zO x4)]) (rest := [.int (zO r35), zR G.2.2.1 x1, zR G.2.2.1 (M x0 0), .int (zO x4), zR G.2.2.1 (M x0 1)]) E S36 zcw_yX10_diedIn zw_4_27 zw_4_28 zw_4_232 zck_10.1 rfl g27 (Wd_diedIn_c l G fu top L M x1 x4 hx1 hx4 er37) (zrm_ok (by decide) (by decide)) ⟨Nat.le_refl 0, Nat.le_refl 0⟩ rfl (by simp [zR_cat, zcat_I, zcat_J, zcat_S]) hl.size rfl (Wt_look_dc.at 62 rfl) (fun H locs hr37 S38 => ?_)
        obtain ⟨g39, h⟩ := ite_e h
        obtain ⟨M41, r40, er40, h⟩ := bd2_e h
        refine u_cVI (As := [zR G.2.2.1 x1, .int (zO r35), .int (zO r37)]) (rest := [.int (zO x4), zR G.2.2.1 (M x0 1)]) E S38 zcw_yX5_vestingYear zw_4_234 zw_4_235 zw_4_233 zck_5.1 rfl g39 (Rk_vestingYear_c l G fu top L M (M x0 0) x1 r35 r37 (S29.1.inR _ _) hx1 hr35 hr37 er40) (zrm_ok (by decide) (by decide)) ⟨Nat.le_refl 0, Nat.le_refl 0⟩ rfl (by simp [zR_cat, zcat_I, zcat_J, zcat_S]) hl.size rfl (Wt_look_dc.at 63 rfl) (fun H locs hr40 S42 => ?_)
        refine r_goto (tgt := 133) E (Wt_look_dc.at 64 rfl) (by decide) ?_
        obtain ⟨g43, h⟩ := ite_e h
        obtain ⟨g44, h⟩ := ite_e h
        obtain ⟨M45, eM45, h⟩ := lt1_e h
        refine u_iast E eM45 S42 g43 g44 hr40 (Wt_look_dc.at 66 rfl) (fun H locs S46 => ?_)
        obtain ⟨v47, ev47, h⟩ := lt1_e h
        have hv47 := inR_eq ev47 (inR_w32 _)
        refine u_iinc (y := v47) (vs' := [some (zR G.2.2.1 x0), some (zR G.2.2.1 x1), some (zR G.2.2.1 x2), none, some (.int (zO v47)), some (.int (zO r28))]) E ev47 (Wt_look_dc.at 67 rfl) hl rfl (by decide) rfl (fun ls hl => ?_)
        refine r_goto (tgt := 72) E (Wt_look_dc.at 68 rfl) (by decide) ?_
        exact hk72 _ x0 x1 x2 v47 hx0 hx1 hx2 hv47 _ _ _ S46 (hl.sub (And.intro rfl (And.intro rfl (And.intro rfl (And.intro rfl True.intro))))) h
    · have h := ite_f h q
      refine u_al_n (x := x0) E (Wt_look_dc.at 69 rfl) hl rfl ?_
      refine u_al_n (x := x1) E (Wt_look_dc.at 70 rfl) hl rfl ?_
      obtain ⟨M48, eM48, h⟩ := bd1_e h
      refine u_cVU (As := [zR G.2.2.1 x1]) (rest := []) E S zcw_yX9_close zw_5_19 zq_2_14 zw_5_17 zck_9.1 rfl g26 (Wt_close_c l G fu top L M x0 x1 hx0 hx1 eM48) (zrm_ok (by decide) (by decide)) ⟨Nat.le_refl 0, Nat.le_refl 0⟩ rfl (Nat.zero_le 8) hl.size rfl (Wt_look_dc.at 71 rfl) (fun H locs _ S49 => ?_)
      cases h
      exact r_vret E S49 True.intro (Wt_look_dc.at 72 rfl)
  · have h := ite_f h q
    refine u_al_n (x := x0) E (Wt_look_dc.at 69 rfl) hl rfl ?_
    refine u_al_n (x := x1) E (Wt_look_dc.at 70 rfl) hl rfl ?_
    obtain ⟨M50, eM50, h⟩ := bd1_e h
    refine u_cVU (As := [zR G.2.2.1 x1]) (rest := []) E S zcw_yX9_close zw_5_19 zq_2_14 zw_5_17 zck_9.1 rfl g26 (Wt_close_c l G fu top L M x0 x1 hx0 hx1 eM50) (zrm_ok (by decide) (by decide)) ⟨Nat.le_refl 0, Nat.le_refl 0⟩ rfl (Nat.zero_le 8) hl.size rfl (Wt_look_dc.at 71 rfl) (fun H locs _ S51 => ?_)
    cases h
    exact r_vret E S51 True.intro (Wt_look_dc.at 72 rfl)
theorem Wt_look_l72_w (E : zEv p m c cX9_look 6 s args RX9 meth none G) {res : zM} : ∀ (n : Nat) (M : zM) (x0 : Int) (x1 : Int) (x2 : Int) (x4 : Int), InR x0 → InR x1 → InR x2 → InR x4 → ∀ (H : Heap) (locs : List Loc) (ls : Array Slot), zS G top L M s H locs → zLV ls 6 [some (zR G.2.2.1 x0), some (zR G.2.2.1 x1), some (zR G.2.2.1 x2), none, some (.int (zO x4)), none] → Wt_look_l72 fu L n M x0 x1 x2 x4 = some res → W p l e (zrm 4 0 0) s m args below meth c H locs 0 0 (MQ below (zQ G top L res none True) args s 0 0 (zA G)) (F0 m 72 ls [])
  | 0, _, _, _, _, _ => fun _ _ _ _ _ _ _ _ _ h => (by cases h)
  | n + 1, M, x0, x1, x2, x4 => fun hx0 hx1 hx2 hx4 H locs ls S hl h => Wt_look_s72_w E (fun M x0 x1 x2 x4 hx0 hx1 hx2 hx4 H locs ls S hl h => Wt_look_l72_w E n M x0 x1 x2 x4 hx0 hx1 hx2 hx4 H locs ls S hl h) hx0 hx1 hx2 hx4 S hl h
theorem Wt_look_b43_w (E : zEv p m c cX9_look 6 s args RX9 meth none G) {res : zM} {M : zM} {x0 : Int} {x1 : Int} {x2 : Int} {y0 : Int} {y1 : Int} {H : Heap} {locs : List Loc} {ls : Array Slot} (hx0 : InR x0) (hx1 : InR x1) (hx2 : InR x2) (hy0 : InR y0) (hy1 : InR y1) (S : zS G top L M s H locs) (hl : zLV ls 6 [some (zR G.2.2.1 x0), some (zR G.2.2.1 x1), some (zR G.2.2.1 x2), none, none, none]) (h : Wt_look_b43 fu L M x0 x1 x2 y0 y1 = some res) : W p l e (zrm 4 0 0) s m args below meth c H locs 0 0 (MQ below (zQ G top L res none True) args s 0 0 (zA G)) (F0 m 43 ls [.int (zO y1), zR G.2.2.1 y0]) := by
  unfold Wt_look_b43 at h
  obtain ⟨g12, h⟩ := ite_e h
  obtain ⟨g13, h⟩ := ite_e h
  obtain ⟨M14, eM14, h⟩ := lt1_e h
  refine u_pZ E eM14 zf_9_7 S g12 g13 (Or.inl rfl) rfl zw_2_69 (Wt_look_dc.at 22 rfl) (fun H locs S15 => ?_)
  refine u_al_n (x := x0) E (Wt_look_dc.at 23 rfl) hl rfl ?_
  refine u_al_n (x := x1) E (Wt_look_dc.at 24 rfl) hl rfl ?_
  refine u_al_n (x := x2) E (Wt_look_dc.at 25 rfl) hl rfl ?_
  obtain ⟨g16, h⟩ := ite_e h
  obtain ⟨r17, er17, h⟩ := bd1_e h
  refine u_cVI (As := [zR G.2.2.1 x2]) (rest := [zR G.2.2.1 x0]) E S15 zcw_yX10_natureOf zw_4_215 zw_4_216 zw_4_214 zck_10.1 rfl g16 (Wd_natureOf_c l G fu top L M14 x1 x2 hx1 hx2 er17) (zrm_ok (by decide) (by decide)) ⟨Nat.le_refl 0, Nat.le_refl 0⟩ rfl (by simp [zR_cat, zcat_I, zcat_J, zcat_S]) hl.size rfl (Wt_look_dc.at 26 rfl) (fun H locs hr17 S18 => ?_)
  obtain ⟨g19, h⟩ := ite_e h
  obtain ⟨M20, eM20, h⟩ := lt1_e h
  refine u_pI E eM20 zf_9_6 S18 g19 hr17 (Or.inl rfl) rfl zw_2_67 (Wt_look_dc.at 27 rfl) (fun H locs S21 => ?_)
  refine u_al_n (x := x0) E (Wt_look_dc.at 28 rfl) hl rfl ?_
  refine u_gR E zf_9_0 S21 g19 zw_2_60 (Wt_look_dc.at 29 rfl) ?_
  refine u_al_n (x := x2) E (Wt_look_dc.at 30 rfl) hl rfl ?_
  refine u_al_n (x := x2) E (Wt_look_dc.at 31 rfl) hl rfl ?_
  obtain ⟨g22, h⟩ := ite_e h
  refine u_gI E zf_3_3 S21 g22 zw_4_85 (Wt_look_dc.at 32 rfl) ?_
  refine r_bipush E (Wt_look_dc.at 33 rfl) rfl ?_
  obtain ⟨g23, h⟩ := ite_e h
  obtain ⟨M24, eM24, h⟩ := bd1_e h
  refine u_cVU (As := [zR G.2.2.1 x2, .int (zO (M20 x2 3)), .int (zO 99)]) (rest := []) E S21 zcw_yX5_choose zw_4_219 zw_4_220 zw_4_218 zck_5.1 rfl g23 (Rk_choose_c l G fu top L M20 (M20 x0 0) x2 (M20 x2 3) 99 (S21.1.inR _ _) hx2 (S21.1.inR _ _) (show InR 99 by decide) eM24) (zrm_ok (by decide) (by decide)) ⟨Nat.le_refl 0, Nat.le_refl 0⟩ rfl (Nat.zero_le 8) hl.size rfl (Wt_look_dc.at 34 rfl) (fun H locs _ S25 => ?_)
  refine r_iconst E (Wt_look_dc.at 35 rfl) ?_
  refine u_ist (y := 0) (vs' := [some (zR G.2.2.1 x0), some (zR G.2.2.1 x1), some (zR G.2.2.1 x2), none, some (.int (zO 0)), none]) E rfl (Wt_look_dc.at 36 rfl) hl (by decide) rfl (fun ls hl => ?_)
  exact Wt_look_l72_w E fu _ x0 x1 x2 0 hx0 hx1 hx2 (show InR 0 by decide) _ _ _ S25 (hl.sub (And.intro rfl (And.intro rfl (And.intro rfl (And.intro rfl True.intro))))) h
theorem Wt_look_w (E : zEv p m c cX9_look 6 s args RX9 meth none G) {res : zM} {M : zM} {a0 : Int} {a1 : Int} {a2 : Int} {a3 : Int} {H : Heap} {locs : List Loc} {ls : Array Slot} (ha0 : InR a0) (ha1 : InR a1) (ha2 : InR a2) (ha3 : InR a3) (S : zS G top L M s H locs) (hl : zLV ls 6 [some (zR G.2.2.1 a0), some (zR G.2.2.1 a1), some (zR G.2.2.1 a2), some (.int (zO a3)), none, none]) (h : Wt_look fu L M a0 a1 a2 a3 = some res) : W p l e (zrm 4 0 0) s m args below meth c H locs 0 0 (MQ below (zQ G top L res none True) args s 0 0 (zA G)) (F0 m 0 ls []) := by
  unfold Wt_look at h
  refine u_al_n (x := a0) E (Wt_look_dc.at 0 rfl) hl rfl ?_
  refine u_al_n (x := a1) E (Wt_look_dc.at 1 rfl) hl rfl ?_
  obtain ⟨g1, h⟩ := ite_e h
  refine u_gI E zf_10_4 S g1 zw_1_196 (Wt_look_dc.at 2 rfl) ?_
  refine r_bipush E (Wt_look_dc.at 3 rfl) rfl ?_
  refine r_min (rest := [zR G.2.2.1 a0]) E (S.1.inR _ _) (show InR 24 by decide) hl.size zw_4_212 zw_4_47 zw_1_17 zw_4_48 (by decide) (by simp [zR_cat, zcat_I, zcat_J, zcat_S, zrm]) ⟨Nat.zero_le _, Nat.zero_le _⟩ (Wt_look_dc.at 4 rfl) ?_
  obtain ⟨g2, h⟩ := ite_e h
  obtain ⟨M3, eM3, h⟩ := lt1_e h
  refine u_pI E eM3 zf_9_2 S g2 (inR_min (S.1.inR _ _) (show InR 24 by decide)) (Or.inl rfl) rfl zw_2_62 (Wt_look_dc.at 5 rfl) (fun H locs S4 => ?_)
  refine u_al_n (x := a0) E (Wt_look_dc.at 6 rfl) hl rfl ?_
  refine u_al_n (x := a1) E (Wt_look_dc.at 7 rfl) hl rfl ?_
  refine u_gI E zf_10_5 S4 g1 zw_1_200 (Wt_look_dc.at 8 rfl) ?_
  obtain ⟨M5, eM5, h⟩ := lt1_e h
  refine u_pI E eM5 zf_9_3 S4 g2 (S4.1.inR _ _) (Or.inl rfl) rfl zw_2_63 (Wt_look_dc.at 9 rfl) (fun H locs S6 => ?_)
  refine u_al_n (x := a0) E (Wt_look_dc.at 10 rfl) hl rfl ?_
  refine u_al_n (x := a1) E (Wt_look_dc.at 11 rfl) hl rfl ?_
  refine u_il_n (x := a3) E (Wt_look_dc.at 12 rfl) hl rfl ?_
  obtain ⟨r7, er7, h⟩ := bd1_e h
  refine u_cVI (As := [.int (zO a3)]) (rest := [zR G.2.2.1 a0]) E S6 zcw_yX10_theEnd zw_4_188 zw_4_189 zw_4_213 zck_10.1 rfl g1 (Wd_theEnd_c l G fu top L M5 a1 a3 ha1 ha3 er7) (zrm_ok (by decide) (by decide)) ⟨Nat.le_refl 0, Nat.le_refl 0⟩ rfl (by simp [zR_cat, zcat_I, zcat_J, zcat_S]) hl.size rfl (Wt_look_dc.at 13 rfl) (fun H locs hr7 S8 => ?_)
  obtain ⟨M9, eM9, h⟩ := lt1_e h
  refine u_pI E eM9 zf_9_4 S8 g2 hr7 (Or.inl rfl) rfl zw_2_64 (Wt_look_dc.at 14 rfl) (fun H locs S10 => ?_)
  refine u_al_n (x := a0) E (Wt_look_dc.at 15 rfl) hl rfl ?_
  refine u_al_n (x := a2) E (Wt_look_dc.at 16 rfl) hl rfl ?_
  obtain ⟨g11, h⟩ := ite_e h
  refine u_gI E zf_3_0 S10 g11 zw_4_73 (Wt_look_dc.at 17 rfl) ?_
  refine r_if_ne (tgt := 42) E (S10.1.inR _ _) (Wt_look_dc.at 18 rfl) (by decide) (fun q => ?_) (fun q => ?_)
  · have h := ite_t h q
    refine r_iconst E (Wt_look_dc.at 19 rfl) ?_
    refine r_goto (tgt := 43) E (Wt_look_dc.at 20 rfl) (by decide) ?_
    exact Wt_look_b43_w (x0 := a0) (x1 := a1) (x2 := a2) (y0 := a0) (y1 := 1) E ha0 ha1 ha2 ha0 (show InR 1 by decide) S10 (hl.sub (And.intro rfl (And.intro rfl (And.intro rfl True.intro)))) h
  · have h := ite_f h q
    refine r_iconst E (Wt_look_dc.at 21 rfl) ?_
    exact Wt_look_b43_w (x0 := a0) (x1 := a1) (x2 := a2) (y0 := a0) (y1 := 0) E ha0 ha1 ha2 ha0 (show InR 0 by decide) S10 (hl.sub (And.intro rfl (And.intro rfl (And.intro rfl True.intro)))) h
theorem Wt_look_c (l : Launch) (G : zG) (fu : Nat) (top : Int) (L : zL) (M : zM) (a0 : Int) (a1 : Int) (a2 : Int) (a3 : Int) {res : zM} (ha0 : InR a0) (ha1 : InR a1) (ha2 : InR a2) (ha3 : InR a3) (h : Wt_look fu L M a0 a1 a2 a3 = some res) : Met l yX9_look (Cond.code yX9_look cX9_look 6 none :: zTB) (zrm 4 0 0) (va_Pc [zR G.2.2.1 a0, zR G.2.2.1 a1, zR G.2.2.1 a2, .int (zO a3)] (zPre G top L M)) (zQ G top L res none True) 0 0 (zA G) :=
  z_met (by decide +kernel) (by simp [zR_cat, zcat_I, zcat_S]) (Nat.le_of_ble_eq_true rfl) fun p e s m below meth c ls E hn S hl => Wt_look_w E ha0 ha1 ha2 ha3 S (hl.sub (And.intro rfl (And.intro rfl (And.intro rfl (And.intro rfl True.intro))))) h
end
theorem Lx_waitFor_dc : zDL cX11_waitFor [(0, .aload_n 0, 1, 1), (1, .getfield 42, 3, 4), (4, .iload_n 1, 1, 5), (5, .invokevirtual 148, 3, 8), (8, .astore_n 2, 1, 9), (9, .aload_n 2, 1, 10), (10, .ifnonnull 5, 3, 13), (13, .iconst 0, 1, 14), (14, .ireturn, 1, 15), (15, .aload_n 0, 1, 16), (16, .getfield 71, 3, 19), (19, .aload_n 0, 1, 20), (20, .getfield 42, 3, 23), (23, .getfield 124, 3, 26), (26, .aload_n 2, 1, 27), (27, .aload_n 0, 1, 28), (28, .getfield 42, 3, 31), (31, .getfield 177, 3, 34), (34, .invokevirtual 352, 3, 37), (37, .iconst 1, 1, 38), (38, .ireturn, 1, 39)] := zDL.of (by decide +kernel)
section
variable {p : Program} {l : Launch} {e : Env} {s : State} {m : MethodId} {args : Array Value} {below : List Frame} {meth : Method} {c : Code} {G : zG} {top : Int} {L : zL} {fu : Nat}
theorem Lx_waitFor_w (E : zEv p m c cX11_waitFor 3 s args RX11 meth (some .boolean) G) {res : (zM × Int)} {M : zM} {a0 : Int} {a1 : Int} {H : Heap} {locs : List Loc} {ls : Array Slot} (ha0 : InR a0) (ha1 : InR a1) (S : zS G top L M s H locs) (hl : zLV ls 3 [some (zR G.2.2.1 a0), some (.int (zO a1)), none]) (h : Lx_waitFor fu L M a0 a1 = some res) : W p l e (zrm 5 0 0) s m args below meth c H locs 0 0 (MQ below (zQ G top L res.1 (some (.int (zO res.2))) (0 ≤ res.2 ∧ res.2 ≤ 1)) args s 0 0 (zA G)) (F0 m 0 ls []) := by
  unfold Lx_waitFor at h
  refine u_al_n (x := a0) E (Lx_waitFor_dc.at 0 rfl) hl rfl ?_
  obtain ⟨g1, h⟩ := ite_e h
  refine u_gR E zf_11_4 S g1 zw_2_136 (Lx_waitFor_dc.at 1 rfl) ?_
  refine u_il_n (x := a1) E (Lx_waitFor_dc.at 2 rfl) hl rfl ?_
  obtain ⟨g2, h⟩ := ite_e h
  obtain ⟨r3, er3, h⟩ := bd1_e h
  refine u_cVR (As := [.int (zO a1)]) (rest := []) E S zcw_yX1_giftAt zw_4_39 zw_4_40 zw_4_128 zck_1.1 rfl g2 (Af_giftAt_c l G fu top L M (M a0 4) a1 (S.1.inR _ _) ha1 er3) (zrm_ok (by decide) (by decide)) ⟨Nat.le_refl 0, Nat.le_refl 0⟩ rfl (Nat.zero_le 8) hl.size rfl (Lx_waitFor_dc.at 3 rfl) (fun H locs hr3 S4 => ?_)
  refine u_ast_n (y := r3) (vs' := [some (zR G.2.2.1 a0), some (.int (zO a1)), some (zR G.2.2.1 r3)]) E rfl (Lx_waitFor_dc.at 4 rfl) hl (by decide) rfl (fun ls hl => ?_)
  refine u_al_n (x := r3) E (Lx_waitFor_dc.at 5 rfl) hl rfl ?_
  refine r_ifnonnull (tgt := 15) E (Lx_waitFor_dc.at 6 rfl) (by decide) (fun q => ?_) (fun q => ?_)
  · have h := ite_t h q
    refine r_iconst E (Lx_waitFor_dc.at 7 rfl) ?_
    cases h
    exact r_zret E S4 z01_0 z01_0 (Lx_waitFor_dc.at 8 rfl)
  · have h := ite_f h q
    refine u_al_n (x := a0) E (Lx_waitFor_dc.at 9 rfl) hl rfl ?_
    refine u_gR E zf_11_8 S4 g1 zw_2_140 (Lx_waitFor_dc.at 10 rfl) ?_
    refine u_al_n (x := a0) E (Lx_waitFor_dc.at 11 rfl) hl rfl ?_
    refine u_gR E zf_11_4 S4 g1 zw_2_136 (Lx_waitFor_dc.at 12 rfl) ?_
    refine u_gR E zf_1_0 S4 g2 zw_1_222 (Lx_waitFor_dc.at 13 rfl) ?_
    refine u_al_n (x := r3) E (Lx_waitFor_dc.at 14 rfl) hl rfl ?_
    refine u_al_n (x := a0) E (Lx_waitFor_dc.at 15 rfl) hl rfl ?_
    refine u_gR E zf_11_4 S4 g1 zw_2_136 (Lx_waitFor_dc.at 16 rfl) ?_
    refine u_gI E zf_1_3 S4 g2 zw_1_229 (Lx_waitFor_dc.at 17 rfl) ?_
    obtain ⟨g5, h⟩ := ite_e h
    obtain ⟨M6, eM6, h⟩ := bd1_e h
    refine u_cVU (As := [zR G.2.2.1 (M (M a0 4) 0), zR G.2.2.1 r3, .int (zO (M (M a0 4) 3))]) (rest := []) E S4 zcw_yX9_look zw_4_209 zw_4_210 zw_4_208 zck_9.1 rfl g5 (Wt_look_c l G fu top L M (M a0 8) (M (M a0 4) 0) r3 (M (M a0 4) 3) (S4.1.inR _ _) (S4.1.inR _ _) hr3 (S4.1.inR _ _) eM6) (zrm_ok (by decide) (by decide)) ⟨Nat.le_refl 0, Nat.le_refl 0⟩ rfl (Nat.zero_le 8) hl.size rfl (Lx_waitFor_dc.at 18 rfl) (fun H locs _ S7 => ?_)
    refine r_iconst E (Lx_waitFor_dc.at 19 rfl) ?_
    cases h
    exact r_zret E S7 z01_1 z01_1 (Lx_waitFor_dc.at 20 rfl)
theorem Lx_waitFor_c (l : Launch) (G : zG) (fu : Nat) (top : Int) (L : zL) (M : zM) (a0 : Int) (a1 : Int) {res : (zM × Int)} (ha0 : InR a0) (ha1 : InR a1) (h : Lx_waitFor fu L M a0 a1 = some res) : Met l yX11_waitFor (Cond.code yX11_waitFor cX11_waitFor 3 (some .boolean) :: zTB) (zrm 5 0 0) (va_Pc [zR G.2.2.1 a0, .int (zO a1)] (zPre G top L M)) (zQ G top L res.1 (some (.int (zO res.2))) (0 ≤ res.2 ∧ res.2 ≤ 1)) 0 0 (zA G) :=
  z_met (by decide +kernel) (by simp [zR_cat, zcat_I, zcat_S]) (Nat.le_of_ble_eq_true rfl) fun p e s m below meth c ls E hn S hl => Lx_waitFor_w E ha0 ha1 S (hl.sub (And.intro rfl (And.intro rfl True.intro))) h
end
theorem Wt_yearOf_dc : zDL cX9_yearOf [(0, .iload_n 1, 1, 1), (1, .ifCond .lt 26, 3, 4), (4, .iload_n 1, 1, 5), (5, .aload_n 0, 1, 6), (6, .getfield 31, 3, 9), (9, .if_icmp .ge 18, 3, 12), (12, .iload_n 1, 1, 13), (13, .bipush 24, 2, 15), (15, .if_icmp .ge 12, 3, 18), (18, .aload_n 0, 1, 19), (19, .getfield 9, 3, 22), (22, .iload_n 1, 1, 23), (23, .iaload, 1, 24), (24, .goto 5, 3, 27), (27, .bipush (-3), 2, 29), (29, .ireturn, 1, 30)] := zDL.of (by decide +kernel)
section
variable {p : Program} {l : Launch} {e : Env} {s : State} {m : MethodId} {args : Array Value} {below : List Frame} {meth : Method} {c : Code} {G : zG} {top : Int} {L : zL} {fu : Nat}
theorem Wt_yearOf_w (E : zEv p m c cX9_yearOf 2 s args RX9 meth (some .int) G) {res : Int} {M : zM} {a0 : Int} {a1 : Int} {H : Heap} {locs : List Loc} {ls : Array Slot} (ha0 : InR a0) (ha1 : InR a1) (S : zS G top L M s H locs) (hl : zLV ls 2 [some (zR G.2.2.1 a0), some (.int (zO a1))]) (h : Wt_yearOf fu L M a0 a1 = some res) : W p l e (zrm 1 0 0) s m args below meth c H locs 0 0 (MQ below (zQ G top L M (some (.int (zO res))) (InR res)) args s 0 0 (zA G)) (F0 m 0 ls []) := by
  unfold Wt_yearOf at h
  refine u_il_n (x := a1) E (Wt_yearOf_dc.at 0 rfl) hl rfl ?_
  refine r_if_lt (tgt := 27) E ha1 (Wt_yearOf_dc.at 1 rfl) (by decide) (fun q => ?_) (fun q => ?_)
  · have h := ite_t h q
    refine r_bipush E (Wt_yearOf_dc.at 14 rfl) rfl ?_
    cases h
    exact r_iret E S (show InR (-3) by decide) (Wt_yearOf_dc.at 15 rfl)
  · have h := ite_f h q
    refine u_il_n (x := a1) E (Wt_yearOf_dc.at 2 rfl) hl rfl ?_
    refine u_al_n (x := a0) E (Wt_yearOf_dc.at 3 rfl) hl rfl ?_
    obtain ⟨g1, h⟩ := ite_e h
    refine u_gI E zf_9_2 S g1 zw_2_62 (Wt_yearOf_dc.at 4 rfl) ?_
    refine r_icmp_ge (tgt := 27) E ha1 (S.1.inR _ _) (Wt_yearOf_dc.at 5 rfl) (by decide) (fun q => ?_) (fun q => ?_)
    · have h := ite_t h q
      refine u_il_n (x := a1) E (Wt_yearOf_dc.at 6 rfl) hl rfl ?_
      refine r_bipush E (Wt_yearOf_dc.at 7 rfl) rfl ?_
      refine r_icmp_ge (tgt := 27) E ha1 (show InR 24 by decide) (Wt_yearOf_dc.at 8 rfl) (by decide) (fun q => ?_) (fun q => ?_)
      · have h := ite_t h q
        refine u_al_n (x := a0) E (Wt_yearOf_dc.at 9 rfl) hl rfl ?_
        refine u_gR E zf_9_1 S g1 zw_2_61 (Wt_yearOf_dc.at 10 rfl) ?_
        refine u_il_n (x := a1) E (Wt_yearOf_dc.at 11 rfl) hl rfl ?_
        obtain ⟨g2, h⟩ := ite_e h
        obtain ⟨g3, h⟩ := ite_e h
        refine r_iald E S g2 g3 (Wt_yearOf_dc.at 12 rfl) ?_
        refine r_goto (tgt := 29) E (Wt_yearOf_dc.at 13 rfl) (by decide) ?_
        cases h
        exact r_iret E S (S.1.inR _ _) (Wt_yearOf_dc.at 15 rfl)
      · have h := ite_f h q
        refine r_bipush E (Wt_yearOf_dc.at 14 rfl) rfl ?_
        cases h
        exact r_iret E S (show InR (-3) by decide) (Wt_yearOf_dc.at 15 rfl)
    · have h := ite_f h q
      refine r_bipush E (Wt_yearOf_dc.at 14 rfl) rfl ?_
      cases h
      exact r_iret E S (show InR (-3) by decide) (Wt_yearOf_dc.at 15 rfl)
theorem Wt_yearOf_c (l : Launch) (G : zG) (fu : Nat) (top : Int) (L : zL) (M : zM) (a0 : Int) (a1 : Int) {res : Int} (ha0 : InR a0) (ha1 : InR a1) (h : Wt_yearOf fu L M a0 a1 = some res) : Met l yX9_yearOf (Cond.code yX9_yearOf cX9_yearOf 2 (some .int) :: zTB) (zrm 1 0 0) (va_Pc [zR G.2.2.1 a0, .int (zO a1)] (zPre G top L M)) (zQ G top L M (some (.int (zO res))) (InR res)) 0 0 (zA G) :=
  z_met (by decide +kernel) (by simp [zR_cat, zcat_I, zcat_S]) (Nat.le_of_ble_eq_true rfl) fun p e s m below meth c ls E hn S hl => Wt_yearOf_w E ha0 ha1 S (hl.sub (And.intro rfl (And.intro rfl True.intro))) h
end
theorem Wt_membersInAll_dc : zDL cX9_membersInAll [(0, .iconst 0, 1, 1), (1, .istore_n 1, 1, 2), (2, .iconst 0, 1, 3), (3, .istore_n 2, 1, 4), (4, .iload_n 2, 1, 5), (5, .aload_n 0, 1, 6), (6, .getfield 31, 3, 9), (9, .if_icmp .ge 22, 3, 12), (12, .aload_n 0, 1, 13), (13, .iload_n 2, 1, 14), (14, .invokevirtual 92, 3, 17), (17, .bipush (-3), 2, 19), (19, .if_icmp .eq 6, 3, 22), (22, .iinc 1 1, 3, 25), (25, .iinc 2 1, 3, 28), (28, .goto (-24), 3, 31), (31, .iload_n 1, 1, 32), (32, .ireturn, 1, 33)] := zDL.of (by decide +kernel)
section
variable {p : Program} {l : Launch} {e : Env} {s : State} {m : MethodId} {args : Array Value} {below : List Frame} {meth : Method} {c : Code} {G : zG} {top : Int} {L : zL} {fu : Nat}
theorem Wt_membersInAll_s4_w (E : zEv p m c cX9_membersInAll 3 s args RX9 meth (some .int) G) {res : Int} {k4 : zM → Int → Int → Int → Option Int} (hk4 : ∀ (M : zM) (x0 : Int) (x1 : Int) (x2 : Int), InR x0 → InR x1 → InR x2 → ∀ (H : Heap) (locs : List Loc) (ls : Array Slot), zS G top L M s H locs → zLV ls 3 [some (zR G.2.2.1 x0), some (.int (zO x1)), some (.int (zO x2))] → k4 M x0 x1 x2 = some res → W p l e (zrm 2 0 0) s m args below meth c H locs 0 0 (MQ below (zQ G top L M (some (.int (zO res))) (InR res)) args s 0 0 (zA G)) (F0 m 4 ls [])) {M : zM} {x0 : Int} {x1 : Int} {x2 : Int} {H : Heap} {locs : List Loc} {ls : Array Slot} (hx0 : InR x0) (hx1 : InR x1) (hx2 : InR x2) (S : zS G top L M s H locs) (hl : zLV ls 3 [some (zR G.2.2.1 x0), some (.int (zO x1)), some (.int (zO x2))]) (h : Wt_membersInAll_s4 fu k4 L M x0 x1 x2 = some res) : W p l e (zrm 2 0 0) s m args below meth c H locs 0 0 (MQ below (zQ G top L M (some (.int (zO res))) (InR res)) args s 0 0 (zA G)) (F0 m 4 ls []) := by
  unfold Wt_membersInAll_s4 at h
  refine u_il_n (x := x2) E (Wt_membersInAll_dc.at 4 rfl) hl rfl ?_
  refine u_al_n (x := x0) E (Wt_membersInAll_dc.at 5 rfl) hl rfl ?_
  obtain ⟨g1, h⟩ := ite_e h
  refine u_gI E zf_9_2 S g1 zw_2_62 (Wt_membersInAll_dc.at 6 rfl) ?_
  refine r_icmp_ge (tgt := 31) E hx2 (S.1.inR _ _) (Wt_membersInAll_dc.at 7 rfl) (by decide) (fun q => ?_) (fun q => ?_)
  · have h := ite_t h q
    refine u_al_n (x := x0) E (Wt_membersInAll_dc.at 8 rfl) hl rfl ?_
    refine u_il_n (x := x2) E (Wt_membersInAll_dc.at 9 rfl) hl rfl ?_
    obtain ⟨r2, er2, h⟩ := bd1_e h
    refine u_cVI (As := [.int (zO x2)]) (rest := []) E S zcw_yX9_yearOf zw_5_30 zw_5_31 zw_5_29 zck_9.1 rfl g1 (Wt_yearOf_c l G fu top L M x0 x2 hx0 hx2 er2) (zrm_ok (by decide) (by decide)) ⟨Nat.le_refl 0, Nat.le_refl 0⟩ rfl (Nat.zero_le 8) hl.size rfl (Wt_membersInAll_dc.at 10 rfl) (fun H locs hr2 S3 => ?_)
    refine r_bipush E (Wt_membersInAll_dc.at 11 rfl) rfl ?_
    refine r_icmp_eq (tgt := 25) E hr2 (show InR (-3) by decide) (Wt_membersInAll_dc.at 12 rfl) (by decide) (fun q => ?_) (fun q => ?_)
    · have h := ite_t h q
      obtain ⟨v4, ev4, h⟩ := lt1_e h
      have hv4 := inR_eq ev4 (inR_w32 _)
      refine u_iinc (y := v4) (vs' := [some (zR G.2.2.1 x0), some (.int (zO x1)), some (.int (zO v4))]) E ev4 (Wt_membersInAll_dc.at 14 rfl) hl rfl (by decide) rfl (fun ls hl => ?_)
      refine r_goto (tgt := 4) E (Wt_membersInAll_dc.at 15 rfl) (by decide) ?_
      exact hk4 _ x0 x1 v4 hx0 hx1 hv4 _ _ _ S3 (hl.sub (And.intro rfl (And.intro rfl (And.intro rfl True.intro)))) h
    · have h := ite_f h q
      obtain ⟨v5, ev5, h⟩ := lt1_e h
      have hv5 := inR_eq ev5 (inR_w32 _)
      refine u_iinc (y := v5) (vs' := [some (zR G.2.2.1 x0), some (.int (zO v5)), some (.int (zO x2))]) E ev5 (Wt_membersInAll_dc.at 13 rfl) hl rfl (by decide) rfl (fun ls hl => ?_)
      obtain ⟨v6, ev6, h⟩ := lt1_e h
      have hv6 := inR_eq ev6 (inR_w32 _)
      refine u_iinc (y := v6) (vs' := [some (zR G.2.2.1 x0), some (.int (zO v5)), some (.int (zO v6))]) E ev6 (Wt_membersInAll_dc.at 14 rfl) hl rfl (by decide) rfl (fun ls hl => ?_)
      refine r_goto (tgt := 4) E (Wt_membersInAll_dc.at 15 rfl) (by decide) ?_
      exact hk4 _ x0 v5 v6 hx0 hv5 hv6 _ _ _ S3 (hl.sub (And.intro rfl (And.intro rfl (And.intro rfl True.intro)))) h
  · have h := ite_f h q
    refine u_il_n (x := x1) E (Wt_membersInAll_dc.at 16 rfl) hl rfl ?_
    cases h
    exact r_iret E S hx1 (Wt_membersInAll_dc.at 17 rfl)
theorem Wt_membersInAll_l4_w (E : zEv p m c cX9_membersInAll 3 s args RX9 meth (some .int) G) {res : Int} : ∀ (n : Nat) (M : zM) (x0 : Int) (x1 : Int) (x2 : Int), InR x0 → InR x1 → InR x2 → ∀ (H : Heap) (locs : List Loc) (ls : Array Slot), zS G top L M s H locs → zLV ls 3 [some (zR G.2.2.1 x0), some (.int (zO x1)), some (.int (zO x2))] → Wt_membersInAll_l4 fu L n M x0 x1 x2 = some res → W p l e (zrm 2 0 0) s m args below meth c H locs 0 0 (MQ below (zQ G top L M (some (.int (zO res))) (InR res)) args s 0 0 (zA G)) (F0 m 4 ls [])
  | 0, _, _, _, _ => fun _ _ _ _ _ _ _ _ h => (by cases h)
  | n + 1, M, x0, x1, x2 => fun hx0 hx1 hx2 H locs ls S hl h => Wt_membersInAll_s4_w E (fun M x0 x1 x2 hx0 hx1 hx2 H locs ls S hl h => Wt_membersInAll_l4_w E n M x0 x1 x2 hx0 hx1 hx2 H locs ls S hl h) hx0 hx1 hx2 S hl h
theorem Wt_membersInAll_w (E : zEv p m c cX9_membersInAll 3 s args RX9 meth (some .int) G) {res : Int} {M : zM} {a0 : Int} {H : Heap} {locs : List Loc} {ls : Array Slot} (ha0 : InR a0) (S : zS G top L M s H locs) (hl : zLV ls 3 [some (zR G.2.2.1 a0), none, none]) (h : Wt_membersInAll fu L M a0 = some res) : W p l e (zrm 2 0 0) s m args below meth c H locs 0 0 (MQ below (zQ G top L M (some (.int (zO res))) (InR res)) args s 0 0 (zA G)) (F0 m 0 ls []) := by
  unfold Wt_membersInAll at h
  refine r_iconst E (Wt_membersInAll_dc.at 0 rfl) ?_
  refine u_ist_n (y := 0) (vs' := [some (zR G.2.2.1 a0), some (.int (zO 0)), none]) E rfl (Wt_membersInAll_dc.at 1 rfl) hl (by decide) rfl (fun ls hl => ?_)
  refine r_iconst E (Wt_membersInAll_dc.at 2 rfl) ?_
  refine u_ist_n (y := 0) (vs' := [some (zR G.2.2.1 a0), some (.int (zO 0)), some (.int (zO 0))]) E rfl (Wt_membersInAll_dc.at 3 rfl) hl (by decide) rfl (fun ls hl => ?_)
  exact Wt_membersInAll_l4_w E fu _ a0 0 0 ha0 (show InR 0 by decide) (show InR 0 by decide) _ _ _ S (hl.sub (And.intro rfl (And.intro rfl (And.intro rfl True.intro)))) h
theorem Wt_membersInAll_c (l : Launch) (G : zG) (fu : Nat) (top : Int) (L : zL) (M : zM) (a0 : Int) {res : Int} (ha0 : InR a0) (h : Wt_membersInAll fu L M a0 = some res) : Met l yX9_membersInAll (Cond.code yX9_membersInAll cX9_membersInAll 3 (some .int) :: zTB) (zrm 2 0 0) (va_Pc [zR G.2.2.1 a0] (zPre G top L M)) (zQ G top L M (some (.int (zO res))) (InR res)) 0 0 (zA G) :=
  z_met (by decide +kernel) (by simp [zR_cat, zcat_I, zcat_S]) (Nat.le_of_ble_eq_true rfl) fun p e s m below meth c ls E hn S hl => Wt_membersInAll_w E ha0 S (hl.sub (And.intro rfl True.intro)) h
end
theorem Wt_memberAt_dc : zDL cX9_memberAt [(0, .iconst 0, 1, 1), (1, .istore_n 2, 1, 2), (2, .iconst 0, 1, 3), (3, .istore_n 3, 1, 4), (4, .iload_n 3, 1, 5), (5, .aload_n 0, 1, 6), (6, .getfield 31, 3, 9), (9, .if_icmp .ge 29, 3, 12), (12, .aload_n 0, 1, 13), (13, .iload_n 3, 1, 14), (14, .invokevirtual 92, 3, 17), (17, .bipush (-3), 2, 19), (19, .if_icmp .eq 13, 3, 22), (22, .iload_n 2, 1, 23), (23, .iload_n 1, 1, 24), (24, .if_icmp .ne 5, 3, 27), (27, .iload_n 3, 1, 28), (28, .ireturn, 1, 29), (29, .iinc 2 1, 3, 32), (32, .iinc 3 1, 3, 35), (35, .goto (-31), 3, 38), (38, .iconst (-1), 1, 39), (39, .ireturn, 1, 40)] := zDL.of (by decide +kernel)
section
variable {p : Program} {l : Launch} {e : Env} {s : State} {m : MethodId} {args : Array Value} {below : List Frame} {meth : Method} {c : Code} {G : zG} {top : Int} {L : zL} {fu : Nat}
theorem Wt_memberAt_s4_w (E : zEv p m c cX9_memberAt 4 s args RX9 meth (some .int) G) {res : Int} {k4 : zM → Int → Int → Int → Int → Option Int} (hk4 : ∀ (M : zM) (x0 : Int) (x1 : Int) (x2 : Int) (x3 : Int), InR x0 → InR x1 → InR x2 → InR x3 → ∀ (H : Heap) (locs : List Loc) (ls : Array Slot), zS G top L M s H locs → zLV ls 4 [some (zR G.2.2.1 x0), some (.int (zO x1)), some (.int (zO x2)), some (.int (zO x3))] → k4 M x0 x1 x2 x3 = some res → W p l e (zrm 2 0 0) s m args below meth c H locs 0 0 (MQ below (zQ G top L M (some (.int (zO res))) (InR res)) args s 0 0 (zA G)) (F0 m 4 ls [])) {M : zM} {x0 : Int} {x1 : Int} {x2 : Int} {x3 : Int} {H : Heap} {locs : List Loc} {ls : Array Slot} (hx0 : InR x0) (hx1 : InR x1) (hx2 : InR x2) (hx3 : InR x3) (S : zS G top L M s H locs) (hl : zLV ls 4 [some (zR G.2.2.1 x0), some (.int (zO x1)), some (.int (zO x2)), some (.int (zO x3))]) (h : Wt_memberAt_s4 fu k4 L M x0 x1 x2 x3 = some res) : W p l e (zrm 2 0 0) s m args below meth c H locs 0 0 (MQ below (zQ G top L M (some (.int (zO res))) (InR res)) args s 0 0 (zA G)) (F0 m 4 ls []) := by
  unfold Wt_memberAt_s4 at h
  refine u_il_n (x := x3) E (Wt_memberAt_dc.at 4 rfl) hl rfl ?_
  refine u_al_n (x := x0) E (Wt_memberAt_dc.at 5 rfl) hl rfl ?_
  obtain ⟨g1, h⟩ := ite_e h
  refine u_gI E zf_9_2 S g1 zw_2_62 (Wt_memberAt_dc.at 6 rfl) ?_
  refine r_icmp_ge (tgt := 38) E hx3 (S.1.inR _ _) (Wt_memberAt_dc.at 7 rfl) (by decide) (fun q => ?_) (fun q => ?_)
  · have h := ite_t h q
    refine u_al_n (x := x0) E (Wt_memberAt_dc.at 8 rfl) hl rfl ?_
    refine u_il_n (x := x3) E (Wt_memberAt_dc.at 9 rfl) hl rfl ?_
    obtain ⟨r2, er2, h⟩ := bd1_e h
    refine u_cVI (As := [.int (zO x3)]) (rest := []) E S zcw_yX9_yearOf zw_5_30 zw_5_31 zw_5_29 zck_9.1 rfl g1 (Wt_yearOf_c l G fu top L M x0 x3 hx0 hx3 er2) (zrm_ok (by decide) (by decide)) ⟨Nat.le_refl 0, Nat.le_refl 0⟩ rfl (Nat.zero_le 8) hl.size rfl (Wt_memberAt_dc.at 10 rfl) (fun H locs hr2 S3 => ?_)
    refine r_bipush E (Wt_memberAt_dc.at 11 rfl) rfl ?_
    refine r_icmp_eq (tgt := 32) E hr2 (show InR (-3) by decide) (Wt_memberAt_dc.at 12 rfl) (by decide) (fun q => ?_) (fun q => ?_)
    · have h := ite_t h q
      obtain ⟨v4, ev4, h⟩ := lt1_e h
      have hv4 := inR_eq ev4 (inR_w32 _)
      refine u_iinc (y := v4) (vs' := [some (zR G.2.2.1 x0), some (.int (zO x1)), some (.int (zO x2)), some (.int (zO v4))]) E ev4 (Wt_memberAt_dc.at 19 rfl) hl rfl (by decide) rfl (fun ls hl => ?_)
      refine r_goto (tgt := 4) E (Wt_memberAt_dc.at 20 rfl) (by decide) ?_
      exact hk4 _ x0 x1 x2 v4 hx0 hx1 hx2 hv4 _ _ _ S3 (hl.sub (And.intro rfl (And.intro rfl (And.intro rfl (And.intro rfl True.intro))))) h
    · have h := ite_f h q
      refine u_il_n (x := x2) E (Wt_memberAt_dc.at 13 rfl) hl rfl ?_
      refine u_il_n (x := x1) E (Wt_memberAt_dc.at 14 rfl) hl rfl ?_
      refine r_icmp_ne (tgt := 29) E hx2 hx1 (Wt_memberAt_dc.at 15 rfl) (by decide) (fun q => ?_) (fun q => ?_)
      · have h := ite_t h q
        refine u_il_n (x := x3) E (Wt_memberAt_dc.at 16 rfl) hl rfl ?_
        cases h
        exact r_iret E S3 hx3 (Wt_memberAt_dc.at 17 rfl)
      · have h := ite_f h q
        obtain ⟨v5, ev5, h⟩ := lt1_e h
        have hv5 := inR_eq ev5 (inR_w32 _)
        refine u_iinc (y := v5) (vs' := [some (zR G.2.2.1 x0), some (.int (zO x1)), some (.int (zO v5)), some (.int (zO x3))]) E ev5 (Wt_memberAt_dc.at 18 rfl) hl rfl (by decide) rfl (fun ls hl => ?_)
        obtain ⟨v6, ev6, h⟩ := lt1_e h
        have hv6 := inR_eq ev6 (inR_w32 _)
        refine u_iinc (y := v6) (vs' := [some (zR G.2.2.1 x0), some (.int (zO x1)), some (.int (zO v5)), some (.int (zO v6))]) E ev6 (Wt_memberAt_dc.at 19 rfl) hl rfl (by decide) rfl (fun ls hl => ?_)
        refine r_goto (tgt := 4) E (Wt_memberAt_dc.at 20 rfl) (by decide) ?_
        exact hk4 _ x0 x1 v5 v6 hx0 hx1 hv5 hv6 _ _ _ S3 (hl.sub (And.intro rfl (And.intro rfl (And.intro rfl (And.intro rfl True.intro))))) h
  · have h := ite_f h q
    refine r_iconst E (Wt_memberAt_dc.at 21 rfl) ?_
    cases h
    exact r_iret E S (show InR (-1) by decide) (Wt_memberAt_dc.at 22 rfl)
theorem Wt_memberAt_l4_w (E : zEv p m c cX9_memberAt 4 s args RX9 meth (some .int) G) {res : Int} : ∀ (n : Nat) (M : zM) (x0 : Int) (x1 : Int) (x2 : Int) (x3 : Int), InR x0 → InR x1 → InR x2 → InR x3 → ∀ (H : Heap) (locs : List Loc) (ls : Array Slot), zS G top L M s H locs → zLV ls 4 [some (zR G.2.2.1 x0), some (.int (zO x1)), some (.int (zO x2)), some (.int (zO x3))] → Wt_memberAt_l4 fu L n M x0 x1 x2 x3 = some res → W p l e (zrm 2 0 0) s m args below meth c H locs 0 0 (MQ below (zQ G top L M (some (.int (zO res))) (InR res)) args s 0 0 (zA G)) (F0 m 4 ls [])
  | 0, _, _, _, _, _ => fun _ _ _ _ _ _ _ _ _ h => (by cases h)
  | n + 1, M, x0, x1, x2, x3 => fun hx0 hx1 hx2 hx3 H locs ls S hl h => Wt_memberAt_s4_w E (fun M x0 x1 x2 x3 hx0 hx1 hx2 hx3 H locs ls S hl h => Wt_memberAt_l4_w E n M x0 x1 x2 x3 hx0 hx1 hx2 hx3 H locs ls S hl h) hx0 hx1 hx2 hx3 S hl h
theorem Wt_memberAt_w (E : zEv p m c cX9_memberAt 4 s args RX9 meth (some .int) G) {res : Int} {M : zM} {a0 : Int} {a1 : Int} {H : Heap} {locs : List Loc} {ls : Array Slot} (ha0 : InR a0) (ha1 : InR a1) (S : zS G top L M s H locs) (hl : zLV ls 4 [some (zR G.2.2.1 a0), some (.int (zO a1)), none, none]) (h : Wt_memberAt fu L M a0 a1 = some res) : W p l e (zrm 2 0 0) s m args below meth c H locs 0 0 (MQ below (zQ G top L M (some (.int (zO res))) (InR res)) args s 0 0 (zA G)) (F0 m 0 ls []) := by
  unfold Wt_memberAt at h
  refine r_iconst E (Wt_memberAt_dc.at 0 rfl) ?_
  refine u_ist_n (y := 0) (vs' := [some (zR G.2.2.1 a0), some (.int (zO a1)), some (.int (zO 0)), none]) E rfl (Wt_memberAt_dc.at 1 rfl) hl (by decide) rfl (fun ls hl => ?_)
  refine r_iconst E (Wt_memberAt_dc.at 2 rfl) ?_
  refine u_ist_n (y := 0) (vs' := [some (zR G.2.2.1 a0), some (.int (zO a1)), some (.int (zO 0)), some (.int (zO 0))]) E rfl (Wt_memberAt_dc.at 3 rfl) hl (by decide) rfl (fun ls hl => ?_)
  exact Wt_memberAt_l4_w E fu _ a0 a1 0 0 ha0 ha1 (show InR 0 by decide) (show InR 0 by decide) _ _ _ S (hl.sub (And.intro rfl (And.intro rfl (And.intro rfl (And.intro rfl True.intro))))) h
theorem Wt_memberAt_c (l : Launch) (G : zG) (fu : Nat) (top : Int) (L : zL) (M : zM) (a0 : Int) (a1 : Int) {res : Int} (ha0 : InR a0) (ha1 : InR a1) (h : Wt_memberAt fu L M a0 a1 = some res) : Met l yX9_memberAt (Cond.code yX9_memberAt cX9_memberAt 4 (some .int) :: zTB) (zrm 2 0 0) (va_Pc [zR G.2.2.1 a0, .int (zO a1)] (zPre G top L M)) (zQ G top L M (some (.int (zO res))) (InR res)) 0 0 (zA G) :=
  z_met (by decide +kernel) (by simp [zR_cat, zcat_I, zcat_S]) (Nat.le_of_ble_eq_true rfl) fun p e s m below meth c ls E hn S hl => Wt_memberAt_w E ha0 ha1 S (hl.sub (And.intro rfl (And.intro rfl True.intro))) h
end
theorem Lx_member_dc : zDL cX11_member [(0, .aload_n 0, 1, 1), (1, .iload_n 1, 1, 2), (2, .invokevirtual 226, 3, 5), (5, .ifCond .ne 5, 3, 8), (8, .iconst (-1), 1, 9), (9, .ireturn, 1, 10), (10, .iload_n 2, 1, 11), (11, .iconst (-1), 1, 12), (12, .if_icmp .ne 13, 3, 15), (15, .aload_n 0, 1, 16), (16, .getfield 71, 3, 19), (19, .invokevirtual 229, 3, 22), (22, .goto 11, 3, 25), (25, .aload_n 0, 1, 26), (26, .getfield 71, 3, 29), (29, .iload_n 2, 1, 30), (30, .invokevirtual 232, 3, 33), (33, .ireturn, 1, 34)] := zDL.of (by decide +kernel)
section
variable {p : Program} {l : Launch} {e : Env} {s : State} {m : MethodId} {args : Array Value} {below : List Frame} {meth : Method} {c : Code} {G : zG} {top : Int} {L : zL} {fu : Nat}
theorem Lx_member_w (E : zEv p m c cX11_member 3 s args RX11 meth (some .int) G) {res : (zM × Int)} {M : zM} {a0 : Int} {a1 : Int} {a2 : Int} {H : Heap} {locs : List Loc} {ls : Array Slot} (ha0 : InR a0) (ha1 : InR a1) (ha2 : InR a2) (S : zS G top L M s H locs) (hl : zLV ls 3 [some (zR G.2.2.1 a0), some (.int (zO a1)), some (.int (zO a2))]) (h : Lx_member fu L M a0 a1 a2 = some res) : W p l e (zrm 6 0 0) s m args below meth c H locs 0 0 (MQ below (zQ G top L res.1 (some (.int (zO res.2))) (InR res.2)) args s 0 0 (zA G)) (F0 m 0 ls []) := by
  unfold Lx_member at h
  refine u_al_n (x := a0) E (Lx_member_dc.at 0 rfl) hl rfl ?_
  refine u_il_n (x := a1) E (Lx_member_dc.at 1 rfl) hl rfl ?_
  obtain ⟨g1, h⟩ := ite_e h
  obtain ⟨M3, r2, er2, h⟩ := bd2_e h
  refine u_cVI (As := [.int (zO a1)]) (rest := []) E S zcw_yX11_waitFor zw_4_206 zq_2_13 zw_4_204 zck_11.1 rfl g1 (Lx_waitFor_c l G fu top L M a0 a1 ha0 ha1 er2) (zrm_ok (by decide) (by decide)) ⟨Nat.le_refl 0, Nat.le_refl 0⟩ rfl (Nat.zero_le 8) hl.size rfl (Lx_member_dc.at 2 rfl) (fun H locs hr2 S4 => ?_)
  refine r_if_ne (tgt := 10) E (inR_01 hr2) (Lx_member_dc.at 3 rfl) (by decide) (fun q => ?_) (fun q => ?_)
  · have h := ite_t h q
    refine r_iconst E (Lx_member_dc.at 4 rfl) ?_
    cases h
    exact r_iret E S4 (show InR (-1) by decide) (Lx_member_dc.at 5 rfl)
  · have h := ite_f h q
    refine u_il_n (x := a2) E (Lx_member_dc.at 6 rfl) hl rfl ?_
    refine r_iconst E (Lx_member_dc.at 7 rfl) ?_
    refine r_icmp_ne (tgt := 25) E ha2 (show InR (-1) by decide) (Lx_member_dc.at 8 rfl) (by decide) (fun q => ?_) (fun q => ?_)
    · have h := ite_t h q
      refine u_al_n (x := a0) E (Lx_member_dc.at 9 rfl) hl rfl ?_
      refine u_gR E zf_11_8 S4 g1 zw_2_140 (Lx_member_dc.at 10 rfl) ?_
      obtain ⟨g5, h⟩ := ite_e h
      obtain ⟨r6, er6, h⟩ := bd1_e h
      refine u_cVI (As := []) (rest := []) E S4 zcw_yX9_membersInAll zw_5_26 zw_5_27 zw_5_25 zck_9.1 rfl g5 (Wt_membersInAll_c l G fu top L M3 (M3 a0 8) (S4.1.inR _ _) er6) (zrm_ok (by decide) (by decide)) ⟨Nat.le_refl 0, Nat.le_refl 0⟩ rfl (Nat.zero_le 8) hl.size rfl (Lx_member_dc.at 11 rfl) (fun H locs hr6 S7 => ?_)
      refine r_goto (tgt := 33) E (Lx_member_dc.at 12 rfl) (by decide) ?_
      cases h
      exact r_iret E S7 hr6 (Lx_member_dc.at 17 rfl)
    · have h := ite_f h q
      refine u_al_n (x := a0) E (Lx_member_dc.at 13 rfl) hl rfl ?_
      refine u_gR E zf_11_8 S4 g1 zw_2_140 (Lx_member_dc.at 14 rfl) ?_
      refine u_il_n (x := a2) E (Lx_member_dc.at 15 rfl) hl rfl ?_
      obtain ⟨g8, h⟩ := ite_e h
      obtain ⟨r9, er9, h⟩ := bd1_e h
      refine u_cVI (As := [.int (zO a2)]) (rest := []) E S4 zcw_yX9_memberAt zw_5_34 zw_5_35 zw_5_33 zck_9.1 rfl g8 (Wt_memberAt_c l G fu top L M3 (M3 a0 8) a2 (S4.1.inR _ _) ha2 er9) (zrm_ok (by decide) (by decide)) ⟨Nat.le_refl 0, Nat.le_refl 0⟩ rfl (Nat.zero_le 8) hl.size rfl (Lx_member_dc.at 16 rfl) (fun H locs hr9 S10 => ?_)
      cases h
      exact r_iret E S10 hr9 (Lx_member_dc.at 17 rfl)
theorem Lx_member_c (l : Launch) (G : zG) (fu : Nat) (top : Int) (L : zL) (M : zM) (a0 : Int) (a1 : Int) (a2 : Int) {res : (zM × Int)} (ha0 : InR a0) (ha1 : InR a1) (ha2 : InR a2) (h : Lx_member fu L M a0 a1 a2 = some res) : Met l yX11_member (Cond.code yX11_member cX11_member 3 (some .int) :: zTB) (zrm 6 0 0) (va_Pc [zR G.2.2.1 a0, .int (zO a1), .int (zO a2)] (zPre G top L M)) (zQ G top L res.1 (some (.int (zO res.2))) (InR res.2)) 0 0 (zA G) :=
  z_met (by decide +kernel) (by simp [zR_cat, zcat_I, zcat_S]) (Nat.le_of_ble_eq_true rfl) fun p e s m below meth c ls E hn S hl => Lx_member_w E ha0 ha1 ha2 S (hl.sub (And.intro rfl (And.intro rfl (And.intro rfl True.intro)))) h
end
theorem Lx_vests_dc : zDL cX11_vests [(0, .aload_n 0, 1, 1), (1, .getfield 42, 3, 4), (4, .getfield 124, 3, 7), (7, .iload_n 2, 1, 8), (8, .invokevirtual 192, 3, 11), (11, .ifCond .eq 11, 3, 14), (14, .aload_n 0, 1, 15), (15, .iload_n 1, 1, 16), (16, .invokevirtual 226, 3, 19), (19, .ifCond .ne 6, 3, 22), (22, .ldc 235, 2, 24), (24, .ireturn, 1, 25), (25, .aload_n 0, 1, 26), (26, .getfield 71, 3, 29), (29, .iload_n 2, 1, 30), (30, .invokevirtual 236, 3, 33), (33, .ireturn, 1, 34)] := zDL.of (by decide +kernel)
section
variable {p : Program} {l : Launch} {e : Env} {s : State} {m : MethodId} {args : Array Value} {below : List Frame} {meth : Method} {c : Code} {G : zG} {top : Int} {L : zL} {fu : Nat}
theorem Lx_vests_w (E : zEv p m c cX11_vests 3 s args RX11 meth (some .int) G) {res : (zM × Int)} {M : zM} {a0 : Int} {a1 : Int} {a2 : Int} {H : Heap} {locs : List Loc} {ls : Array Slot} (ha0 : InR a0) (ha1 : InR a1) (ha2 : InR a2) (S : zS G top L M s H locs) (hl : zLV ls 3 [some (zR G.2.2.1 a0), some (.int (zO a1)), some (.int (zO a2))]) (h : Lx_vests fu L M a0 a1 a2 = some res) : W p l e (zrm 6 0 0) s m args below meth c H locs 0 0 (MQ below (zQ G top L res.1 (some (.int (zO res.2))) (InR res.2)) args s 0 0 (zA G)) (F0 m 0 ls []) := by
  unfold Lx_vests at h
  refine u_al_n (x := a0) E (Lx_vests_dc.at 0 rfl) hl rfl ?_
  obtain ⟨g1, h⟩ := ite_e h
  refine u_gR E zf_11_4 S g1 zw_2_136 (Lx_vests_dc.at 1 rfl) ?_
  obtain ⟨g2, h⟩ := ite_e h
  refine u_gR E zf_1_0 S g2 zw_1_222 (Lx_vests_dc.at 2 rfl) ?_
  refine u_il_n (x := a2) E (Lx_vests_dc.at 3 rfl) hl rfl ?_
  obtain ⟨g3, h⟩ := ite_e h
  obtain ⟨r4, er4, h⟩ := bd1_e h
  refine u_cVI (As := [.int (zO a2)]) (rest := []) E S zcw_yX10_has zw_4_35 zw_4_36 zw_5_41 zck_10.1 rfl g3 (Wd_has_c l G fu top L M (M (M a0 4) 0) a2 (S.1.inR _ _) ha2 er4) (zrm_ok (by decide) (by decide)) ⟨Nat.le_refl 0, Nat.le_refl 0⟩ rfl (Nat.zero_le 8) hl.size rfl (Lx_vests_dc.at 4 rfl) (fun H locs hr4 S5 => ?_)
  refine r_if_eq (tgt := 22) E (inR_01 hr4) (Lx_vests_dc.at 5 rfl) (by decide) (fun q => ?_) (fun q => ?_)
  · have h := ite_t h q
    refine r_ldc (n := (-1000000)) E (Lx_vests_dc.at 10 rfl) zw_5_42 rfl ?_
    cases h
    exact r_iret E S5 (show InR (-1000000) by decide) (Lx_vests_dc.at 11 rfl)
  · have h := ite_f h q
    refine u_al_n (x := a0) E (Lx_vests_dc.at 6 rfl) hl rfl ?_
    refine u_il_n (x := a1) E (Lx_vests_dc.at 7 rfl) hl rfl ?_
    obtain ⟨M7, r6, er6, h⟩ := bd2_e h
    refine u_cVI (As := [.int (zO a1)]) (rest := []) E S5 zcw_yX11_waitFor zw_4_206 zq_2_13 zw_4_204 zck_11.1 rfl g1 (Lx_waitFor_c l G fu top L M a0 a1 ha0 ha1 er6) (zrm_ok (by decide) (by decide)) ⟨Nat.le_refl 0, Nat.le_refl 0⟩ rfl (Nat.zero_le 8) hl.size rfl (Lx_vests_dc.at 8 rfl) (fun H locs hr6 S8 => ?_)
    refine r_if_ne (tgt := 25) E (inR_01 hr6) (Lx_vests_dc.at 9 rfl) (by decide) (fun q => ?_) (fun q => ?_)
    · have h := ite_t h q
      refine r_ldc (n := (-1000000)) E (Lx_vests_dc.at 10 rfl) zw_5_42 rfl ?_
      cases h
      exact r_iret E S8 (show InR (-1000000) by decide) (Lx_vests_dc.at 11 rfl)
    · have h := ite_f h q
      refine u_al_n (x := a0) E (Lx_vests_dc.at 12 rfl) hl rfl ?_
      refine u_gR E zf_11_8 S8 g1 zw_2_140 (Lx_vests_dc.at 13 rfl) ?_
      refine u_il_n (x := a2) E (Lx_vests_dc.at 14 rfl) hl rfl ?_
      obtain ⟨g9, h⟩ := ite_e h
      obtain ⟨r10, er10, h⟩ := bd1_e h
      refine u_cVI (As := [.int (zO a2)]) (rest := []) E S8 zcw_yX9_yearOf zw_5_30 zw_5_31 zw_5_43 zck_9.1 rfl g9 (Wt_yearOf_c l G fu top L M7 (M7 a0 8) a2 (S8.1.inR _ _) ha2 er10) (zrm_ok (by decide) (by decide)) ⟨Nat.le_refl 0, Nat.le_refl 0⟩ rfl (Nat.zero_le 8) hl.size rfl (Lx_vests_dc.at 15 rfl) (fun H locs hr10 S11 => ?_)
      cases h
      exact r_iret E S11 hr10 (Lx_vests_dc.at 16 rfl)
theorem Lx_vests_c (l : Launch) (G : zG) (fu : Nat) (top : Int) (L : zL) (M : zM) (a0 : Int) (a1 : Int) (a2 : Int) {res : (zM × Int)} (ha0 : InR a0) (ha1 : InR a1) (ha2 : InR a2) (h : Lx_vests fu L M a0 a1 a2 = some res) : Met l yX11_vests (Cond.code yX11_vests cX11_vests 3 (some .int) :: zTB) (zrm 6 0 0) (va_Pc [zR G.2.2.1 a0, .int (zO a1), .int (zO a2)] (zPre G top L M)) (zQ G top L res.1 (some (.int (zO res.2))) (InR res.2)) 0 0 (zA G) :=
  z_met (by decide +kernel) (by simp [zR_cat, zcat_I, zcat_S]) (Nat.le_of_ble_eq_true rfl) fun p e s m below meth c ls E hn S hl => Lx_vests_w E ha0 ha1 ha2 S (hl.sub (And.intro rfl (And.intro rfl (And.intro rfl True.intro)))) h
end
theorem Lx_closes_dc : zDL cX11_closes [(0, .aload_n 0, 1, 1), (1, .iload_n 1, 1, 2), (2, .invokevirtual 226, 3, 5), (5, .ifCond .ne 5, 3, 8), (8, .iconst (-1), 1, 9), (9, .ireturn, 1, 10), (10, .iload_n 2, 1, 11), (11, .ifCond .ne 11, 3, 14), (14, .aload_n 0, 1, 15), (15, .getfield 71, 3, 18), (18, .getfield 239, 3, 21), (21, .ireturn, 1, 22), (22, .iload_n 2, 1, 23), (23, .iconst 1, 1, 24), (24, .if_icmp .ne 13, 3, 27), (27, .aload_n 0, 1, 28), (28, .getfield 71, 3, 31), (31, .getfield 242, 3, 34), (34, .goto 4, 3, 37), (37, .iconst (-1), 1, 38), (38, .ireturn, 1, 39)] := zDL.of (by decide +kernel)
section
variable {p : Program} {l : Launch} {e : Env} {s : State} {m : MethodId} {args : Array Value} {below : List Frame} {meth : Method} {c : Code} {G : zG} {top : Int} {L : zL} {fu : Nat}
theorem Lx_closes_w (E : zEv p m c cX11_closes 3 s args RX11 meth (some .int) G) {res : (zM × Int)} {M : zM} {a0 : Int} {a1 : Int} {a2 : Int} {H : Heap} {locs : List Loc} {ls : Array Slot} (ha0 : InR a0) (ha1 : InR a1) (ha2 : InR a2) (S : zS G top L M s H locs) (hl : zLV ls 3 [some (zR G.2.2.1 a0), some (.int (zO a1)), some (.int (zO a2))]) (h : Lx_closes fu L M a0 a1 a2 = some res) : W p l e (zrm 6 0 0) s m args below meth c H locs 0 0 (MQ below (zQ G top L res.1 (some (.int (zO res.2))) (InR res.2)) args s 0 0 (zA G)) (F0 m 0 ls []) := by
  unfold Lx_closes at h
  refine u_al_n (x := a0) E (Lx_closes_dc.at 0 rfl) hl rfl ?_
  refine u_il_n (x := a1) E (Lx_closes_dc.at 1 rfl) hl rfl ?_
  obtain ⟨g1, h⟩ := ite_e h
  obtain ⟨M3, r2, er2, h⟩ := bd2_e h
  refine u_cVI (As := [.int (zO a1)]) (rest := []) E S zcw_yX11_waitFor zw_4_206 zq_2_13 zw_4_204 zck_11.1 rfl g1 (Lx_waitFor_c l G fu top L M a0 a1 ha0 ha1 er2) (zrm_ok (by decide) (by decide)) ⟨Nat.le_refl 0, Nat.le_refl 0⟩ rfl (Nat.zero_le 8) hl.size rfl (Lx_closes_dc.at 2 rfl) (fun H locs hr2 S4 => ?_)
  refine r_if_ne (tgt := 10) E (inR_01 hr2) (Lx_closes_dc.at 3 rfl) (by decide) (fun q => ?_) (fun q => ?_)
  · have h := ite_t h q
    refine r_iconst E (Lx_closes_dc.at 4 rfl) ?_
    cases h
    exact r_iret E S4 (show InR (-1) by decide) (Lx_closes_dc.at 5 rfl)
  · have h := ite_f h q
    refine u_il_n (x := a2) E (Lx_closes_dc.at 6 rfl) hl rfl ?_
    refine r_if_ne (tgt := 22) E ha2 (Lx_closes_dc.at 7 rfl) (by decide) (fun q => ?_) (fun q => ?_)
    · have h := ite_t h q
      refine u_al_n (x := a0) E (Lx_closes_dc.at 8 rfl) hl rfl ?_
      refine u_gR E zf_11_8 S4 g1 zw_2_140 (Lx_closes_dc.at 9 rfl) ?_
      obtain ⟨g5, h⟩ := ite_e h
      refine u_gI E zf_9_5 S4 g5 zw_2_66 (Lx_closes_dc.at 10 rfl) ?_
      cases h
      exact r_iret E S4 (S4.1.inR _ _) (Lx_closes_dc.at 11 rfl)
    · have h := ite_f h q
      refine u_il_n (x := a2) E (Lx_closes_dc.at 12 rfl) hl rfl ?_
      refine r_iconst E (Lx_closes_dc.at 13 rfl) ?_
      refine r_icmp_ne (tgt := 37) E ha2 (show InR 1 by decide) (Lx_closes_dc.at 14 rfl) (by decide) (fun q => ?_) (fun q => ?_)
      · have h := ite_t h q
        refine u_al_n (x := a0) E (Lx_closes_dc.at 15 rfl) hl rfl ?_
        refine u_gR E zf_11_8 S4 g1 zw_2_140 (Lx_closes_dc.at 16 rfl) ?_
        obtain ⟨g6, h⟩ := ite_e h
        refine u_gI E zf_9_6 S4 g6 zw_2_68 (Lx_closes_dc.at 17 rfl) ?_
        refine r_goto (tgt := 38) E (Lx_closes_dc.at 18 rfl) (by decide) ?_
        cases h
        exact r_iret E S4 (S4.1.inR _ _) (Lx_closes_dc.at 20 rfl)
      · have h := ite_f h q
        refine r_iconst E (Lx_closes_dc.at 19 rfl) ?_
        cases h
        exact r_iret E S4 (show InR (-1) by decide) (Lx_closes_dc.at 20 rfl)
theorem Lx_closes_c (l : Launch) (G : zG) (fu : Nat) (top : Int) (L : zL) (M : zM) (a0 : Int) (a1 : Int) (a2 : Int) {res : (zM × Int)} (ha0 : InR a0) (ha1 : InR a1) (ha2 : InR a2) (h : Lx_closes fu L M a0 a1 a2 = some res) : Met l yX11_closes (Cond.code yX11_closes cX11_closes 3 (some .int) :: zTB) (zrm 6 0 0) (va_Pc [zR G.2.2.1 a0, .int (zO a1), .int (zO a2)] (zPre G top L M)) (zQ G top L res.1 (some (.int (zO res.2))) (InR res.2)) 0 0 (zA G) :=
  z_met (by decide +kernel) (by simp [zR_cat, zcat_I, zcat_S]) (Nat.le_of_ble_eq_true rfl) fun p e s m below meth c ls E hn S hl => Lx_closes_w E ha0 ha1 ha2 S (hl.sub (And.intro rfl (And.intro rfl (And.intro rfl True.intro)))) h
end
theorem Wt_kindOf_dc : zDL cX9_kindOf [(0, .iload_n 1, 1, 1), (1, .ifCond .lt 25, 3, 4), (4, .aload_n 0, 1, 5), (5, .getfield 40, 3, 8), (8, .iconst (-1), 1, 9), (9, .if_icmp .eq 15, 3, 12), (12, .iload_n 1, 1, 13), (13, .aload_n 0, 1, 14), (14, .getfield 40, 3, 17), (17, .if_icmp .le 7, 3, 20), (20, .iconst 1, 1, 21), (21, .goto 4, 3, 24), (24, .iconst 0, 1, 25), (25, .ireturn, 1, 26), (26, .iload_n 1, 1, 27), (27, .bipush (-2), 2, 29), (29, .if_icmp .ne 5, 3, 32), (32, .iconst 2, 1, 33), (33, .ireturn, 1, 34), (34, .iload_n 1, 1, 35), (35, .iconst (-1), 1, 36), (36, .if_icmp .ne 7, 3, 39), (39, .iconst 3, 1, 40), (40, .goto 4, 3, 43), (43, .iconst (-1), 1, 44), (44, .ireturn, 1, 45)] := zDL.of (by decide +kernel)
section
variable {p : Program} {l : Launch} {e : Env} {s : State} {m : MethodId} {args : Array Value} {below : List Frame} {meth : Method} {c : Code} {G : zG} {top : Int} {L : zL} {fu : Nat}
theorem Wt_kindOf_w (E : zEv p m c cX9_kindOf 2 s args RX9 meth (some .int) G) {res : Int} {M : zM} {a0 : Int} {a1 : Int} {H : Heap} {locs : List Loc} {ls : Array Slot} (ha0 : InR a0) (ha1 : InR a1) (S : zS G top L M s H locs) (hl : zLV ls 2 [some (zR G.2.2.1 a0), some (.int (zO a1))]) (h : Wt_kindOf fu L M a0 a1 = some res) : W p l e (zrm 1 0 0) s m args below meth c H locs 0 0 (MQ below (zQ G top L M (some (.int (zO res))) (InR res)) args s 0 0 (zA G)) (F0 m 0 ls []) := by
  unfold Wt_kindOf at h
  refine u_il_n (x := a1) E (Wt_kindOf_dc.at 0 rfl) hl rfl ?_
  refine r_if_lt (tgt := 26) E ha1 (Wt_kindOf_dc.at 1 rfl) (by decide) (fun q => ?_) (fun q => ?_)
  · have h := ite_t h q
    refine u_il_n (x := a1) E (Wt_kindOf_dc.at 14 rfl) hl rfl ?_
    refine r_bipush E (Wt_kindOf_dc.at 15 rfl) rfl ?_
    refine r_icmp_ne (tgt := 34) E ha1 (show InR (-2) by decide) (Wt_kindOf_dc.at 16 rfl) (by decide) (fun q => ?_) (fun q => ?_)
    · have h := ite_t h q
      refine r_iconst E (Wt_kindOf_dc.at 17 rfl) ?_
      cases h
      exact r_iret E S (show InR 2 by decide) (Wt_kindOf_dc.at 18 rfl)
    · have h := ite_f h q
      refine u_il_n (x := a1) E (Wt_kindOf_dc.at 19 rfl) hl rfl ?_
      refine r_iconst E (Wt_kindOf_dc.at 20 rfl) ?_
      refine r_icmp_ne (tgt := 43) E ha1 (show InR (-1) by decide) (Wt_kindOf_dc.at 21 rfl) (by decide) (fun q => ?_) (fun q => ?_)
      · have h := ite_t h q
        refine r_iconst E (Wt_kindOf_dc.at 22 rfl) ?_
        refine r_goto (tgt := 44) E (Wt_kindOf_dc.at 23 rfl) (by decide) ?_
        cases h
        exact r_iret E S (show InR 3 by decide) (Wt_kindOf_dc.at 25 rfl)
      · have h := ite_f h q
        refine r_iconst E (Wt_kindOf_dc.at 24 rfl) ?_
        cases h
        exact r_iret E S (show InR (-1) by decide) (Wt_kindOf_dc.at 25 rfl)
  · have h := ite_f h q
    refine u_al_n (x := a0) E (Wt_kindOf_dc.at 2 rfl) hl rfl ?_
    obtain ⟨g1, h⟩ := ite_e h
    refine u_gI E zf_9_4 S g1 zw_2_64 (Wt_kindOf_dc.at 3 rfl) ?_
    refine r_iconst E (Wt_kindOf_dc.at 4 rfl) ?_
    refine r_icmp_eq (tgt := 24) E (S.1.inR _ _) (show InR (-1) by decide) (Wt_kindOf_dc.at 5 rfl) (by decide) (fun q => ?_) (fun q => ?_)
    · have h := ite_t h q
      refine r_iconst E (Wt_kindOf_dc.at 12 rfl) ?_
      cases h
      exact r_iret E S (show InR 0 by decide) (Wt_kindOf_dc.at 13 rfl)
    · have h := ite_f h q
      refine u_il_n (x := a1) E (Wt_kindOf_dc.at 6 rfl) hl rfl ?_
      refine u_al_n (x := a0) E (Wt_kindOf_dc.at 7 rfl) hl rfl ?_
      refine u_gI E zf_9_4 S g1 zw_2_64 (Wt_kindOf_dc.at 8 rfl) ?_
      refine r_icmp_le (tgt := 24) E ha1 (S.1.inR _ _) (Wt_kindOf_dc.at 9 rfl) (by decide) (fun q => ?_) (fun q => ?_)
      · have h := ite_t h q
        refine r_iconst E (Wt_kindOf_dc.at 10 rfl) ?_
        refine r_goto (tgt := 25) E (Wt_kindOf_dc.at 11 rfl) (by decide) ?_
        cases h
        exact r_iret E S (show InR 1 by decide) (Wt_kindOf_dc.at 13 rfl)
      · have h := ite_f h q
        refine r_iconst E (Wt_kindOf_dc.at 12 rfl) ?_
        cases h
        exact r_iret E S (show InR 0 by decide) (Wt_kindOf_dc.at 13 rfl)
theorem Wt_kindOf_c (l : Launch) (G : zG) (fu : Nat) (top : Int) (L : zL) (M : zM) (a0 : Int) (a1 : Int) {res : Int} (ha0 : InR a0) (ha1 : InR a1) (h : Wt_kindOf fu L M a0 a1 = some res) : Met l yX9_kindOf (Cond.code yX9_kindOf cX9_kindOf 2 (some .int) :: zTB) (zrm 1 0 0) (va_Pc [zR G.2.2.1 a0, .int (zO a1)] (zPre G top L M)) (zQ G top L M (some (.int (zO res))) (InR res)) 0 0 (zA G) :=
  z_met (by decide +kernel) (by simp [zR_cat, zcat_I, zcat_S]) (Nat.le_of_ble_eq_true rfl) fun p e s m below meth c ls E hn S hl => Wt_kindOf_w E ha0 ha1 S (hl.sub (And.intro rfl (And.intro rfl True.intro))) h
end
theorem Wt_tally_dc : zDL cX9_tally [(0, .iload_n 1, 1, 1), (1, .ifCond .lt 8, 3, 4), (4, .iload_n 1, 1, 5), (5, .iconst 3, 1, 6), (6, .if_icmp .le 5, 3, 9), (9, .iconst (-1), 1, 10), (10, .ireturn, 1, 11), (11, .iconst 0, 1, 12), (12, .istore_n 2, 1, 13), (13, .iconst 0, 1, 14), (14, .istore_n 3, 1, 15), (15, .iload_n 3, 1, 16), (16, .aload_n 0, 1, 17), (17, .getfield 31, 3, 20), (20, .if_icmp .ge 25, 3, 23), (23, .aload_n 0, 1, 24), (24, .aload_n 0, 1, 25), (25, .iload_n 3, 1, 26), (26, .invokevirtual 92, 3, 29), (29, .invokevirtual 95, 3, 32), (32, .iload_n 1, 1, 33), (33, .if_icmp .ne 6, 3, 36), (36, .iinc 2 1, 3, 39), (39, .iinc 3 1, 3, 42), (42, .goto (-27), 3, 45), (45, .iload_n 2, 1, 46), (46, .ireturn, 1, 47)] := zDL.of (by decide +kernel)
section
variable {p : Program} {l : Launch} {e : Env} {s : State} {m : MethodId} {args : Array Value} {below : List Frame} {meth : Method} {c : Code} {G : zG} {top : Int} {L : zL} {fu : Nat}
theorem Wt_tally_s15_w (E : zEv p m c cX9_tally 4 s args RX9 meth (some .int) G) {res : Int} {k15 : zM → Int → Int → Int → Int → Option Int} (hk15 : ∀ (M : zM) (x0 : Int) (x1 : Int) (x2 : Int) (x3 : Int), InR x0 → InR x1 → InR x2 → InR x3 → ∀ (H : Heap) (locs : List Loc) (ls : Array Slot), zS G top L M s H locs → zLV ls 4 [some (zR G.2.2.1 x0), some (.int (zO x1)), some (.int (zO x2)), some (.int (zO x3))] → k15 M x0 x1 x2 x3 = some res → W p l e (zrm 2 0 0) s m args below meth c H locs 0 0 (MQ below (zQ G top L M (some (.int (zO res))) (InR res)) args s 0 0 (zA G)) (F0 m 15 ls [])) {M : zM} {x0 : Int} {x1 : Int} {x2 : Int} {x3 : Int} {H : Heap} {locs : List Loc} {ls : Array Slot} (hx0 : InR x0) (hx1 : InR x1) (hx2 : InR x2) (hx3 : InR x3) (S : zS G top L M s H locs) (hl : zLV ls 4 [some (zR G.2.2.1 x0), some (.int (zO x1)), some (.int (zO x2)), some (.int (zO x3))]) (h : Wt_tally_s15 fu k15 L M x0 x1 x2 x3 = some res) : W p l e (zrm 2 0 0) s m args below meth c H locs 0 0 (MQ below (zQ G top L M (some (.int (zO res))) (InR res)) args s 0 0 (zA G)) (F0 m 15 ls []) := by
  unfold Wt_tally_s15 at h
  refine u_il_n (x := x3) E (Wt_tally_dc.at 11 rfl) hl rfl ?_
  refine u_al_n (x := x0) E (Wt_tally_dc.at 12 rfl) hl rfl ?_
  obtain ⟨g1, h⟩ := ite_e h
  refine u_gI E zf_9_2 S g1 zw_2_62 (Wt_tally_dc.at 13 rfl) ?_
  refine r_icmp_ge (tgt := 45) E hx3 (S.1.inR _ _) (Wt_tally_dc.at 14 rfl) (by decide) (fun q => ?_) (fun q => ?_)
  · have h := ite_t h q
    refine u_al_n (x := x0) E (Wt_tally_dc.at 15 rfl) hl rfl ?_
    refine u_al_n (x := x0) E (Wt_tally_dc.at 16 rfl) hl rfl ?_
    refine u_il_n (x := x3) E (Wt_tally_dc.at 17 rfl) hl rfl ?_
    obtain ⟨r2, er2, h⟩ := bd1_e h
    refine u_cVI (As := [.int (zO x3)]) (rest := [zR G.2.2.1 x0]) E S zcw_yX9_yearOf zw_5_30 zw_5_31 zw_5_29 zck_9.1 rfl g1 (Wt_yearOf_c l G fu top L M x0 x3 hx0 hx3 er2) (zrm_ok (by decide) (by decide)) ⟨Nat.le_refl 0, Nat.le_refl 0⟩ rfl (by simp [zR_cat, zcat_I, zcat_J, zcat_S]) hl.size rfl (Wt_tally_dc.at 18 rfl) (fun H locs hr2 S3 => ?_)
    obtain ⟨r4, er4, h⟩ := bd1_e h
    refine u_cVI (As := [.int (zO r2)]) (rest := []) E S3 zcw_yX9_kindOf zw_5_62 zq_3_0 zw_5_60 zck_9.1 rfl g1 (Wt_kindOf_c l G fu top L M x0 r2 hx0 hr2 er4) (zrm_ok (by decide) (by decide)) ⟨Nat.le_refl 0, Nat.le_refl 0⟩ rfl (Nat.zero_le 8) hl.size rfl (Wt_tally_dc.at 19 rfl) (fun H locs hr4 S5 => ?_)
    refine u_il_n (x := x1) E (Wt_tally_dc.at 20 rfl) hl rfl ?_
    refine r_icmp_ne (tgt := 39) E hr4 hx1 (Wt_tally_dc.at 21 rfl) (by decide) (fun q => ?_) (fun q => ?_)
    · have h := ite_t h q
      obtain ⟨v6, ev6, h⟩ := lt1_e h
      have hv6 := inR_eq ev6 (inR_w32 _)
      refine u_iinc (y := v6) (vs' := [some (zR G.2.2.1 x0), some (.int (zO x1)), some (.int (zO v6)), some (.int (zO x3))]) E ev6 (Wt_tally_dc.at 22 rfl) hl rfl (by decide) rfl (fun ls hl => ?_)
      obtain ⟨v7, ev7, h⟩ := lt1_e h
      have hv7 := inR_eq ev7 (inR_w32 _)
      refine u_iinc (y := v7) (vs' := [some (zR G.2.2.1 x0), some (.int (zO x1)), some (.int (zO v6)), some (.int (zO v7))]) E ev7 (Wt_tally_dc.at 23 rfl) hl rfl (by decide) rfl (fun ls hl => ?_)
      refine r_goto (tgt := 15) E (Wt_tally_dc.at 24 rfl) (by decide) ?_
      exact hk15 _ x0 x1 v6 v7 hx0 hx1 hv6 hv7 _ _ _ S5 (hl.sub (And.intro rfl (And.intro rfl (And.intro rfl (And.intro rfl True.intro))))) h
    · have h := ite_f h q
      obtain ⟨v8, ev8, h⟩ := lt1_e h
      have hv8 := inR_eq ev8 (inR_w32 _)
      refine u_iinc (y := v8) (vs' := [some (zR G.2.2.1 x0), some (.int (zO x1)), some (.int (zO x2)), some (.int (zO v8))]) E ev8 (Wt_tally_dc.at 23 rfl) hl rfl (by decide) rfl (fun ls hl => ?_)
      refine r_goto (tgt := 15) E (Wt_tally_dc.at 24 rfl) (by decide) ?_
      exact hk15 _ x0 x1 x2 v8 hx0 hx1 hx2 hv8 _ _ _ S5 (hl.sub (And.intro rfl (And.intro rfl (And.intro rfl (And.intro rfl True.intro))))) h
  · have h := ite_f h q
    refine u_il_n (x := x2) E (Wt_tally_dc.at 25 rfl) hl rfl ?_
    cases h
    exact r_iret E S hx2 (Wt_tally_dc.at 26 rfl)
theorem Wt_tally_l15_w (E : zEv p m c cX9_tally 4 s args RX9 meth (some .int) G) {res : Int} : ∀ (n : Nat) (M : zM) (x0 : Int) (x1 : Int) (x2 : Int) (x3 : Int), InR x0 → InR x1 → InR x2 → InR x3 → ∀ (H : Heap) (locs : List Loc) (ls : Array Slot), zS G top L M s H locs → zLV ls 4 [some (zR G.2.2.1 x0), some (.int (zO x1)), some (.int (zO x2)), some (.int (zO x3))] → Wt_tally_l15 fu L n M x0 x1 x2 x3 = some res → W p l e (zrm 2 0 0) s m args below meth c H locs 0 0 (MQ below (zQ G top L M (some (.int (zO res))) (InR res)) args s 0 0 (zA G)) (F0 m 15 ls [])
  | 0, _, _, _, _, _ => fun _ _ _ _ _ _ _ _ _ h => (by cases h)
  | n + 1, M, x0, x1, x2, x3 => fun hx0 hx1 hx2 hx3 H locs ls S hl h => Wt_tally_s15_w E (fun M x0 x1 x2 x3 hx0 hx1 hx2 hx3 H locs ls S hl h => Wt_tally_l15_w E n M x0 x1 x2 x3 hx0 hx1 hx2 hx3 H locs ls S hl h) hx0 hx1 hx2 hx3 S hl h
theorem Wt_tally_w (E : zEv p m c cX9_tally 4 s args RX9 meth (some .int) G) {res : Int} {M : zM} {a0 : Int} {a1 : Int} {H : Heap} {locs : List Loc} {ls : Array Slot} (ha0 : InR a0) (ha1 : InR a1) (S : zS G top L M s H locs) (hl : zLV ls 4 [some (zR G.2.2.1 a0), some (.int (zO a1)), none, none]) (h : Wt_tally fu L M a0 a1 = some res) : W p l e (zrm 2 0 0) s m args below meth c H locs 0 0 (MQ below (zQ G top L M (some (.int (zO res))) (InR res)) args s 0 0 (zA G)) (F0 m 0 ls []) := by
  unfold Wt_tally at h
  refine u_il_n (x := a1) E (Wt_tally_dc.at 0 rfl) hl rfl ?_
  refine r_if_lt (tgt := 9) E ha1 (Wt_tally_dc.at 1 rfl) (by decide) (fun q => ?_) (fun q => ?_)
  · have h := ite_t h q
    refine r_iconst E (Wt_tally_dc.at 5 rfl) ?_
    cases h
    exact r_iret E S (show InR (-1) by decide) (Wt_tally_dc.at 6 rfl)
  · have h := ite_f h q
    refine u_il_n (x := a1) E (Wt_tally_dc.at 2 rfl) hl rfl ?_
    refine r_iconst E (Wt_tally_dc.at 3 rfl) ?_
    refine r_icmp_le (tgt := 11) E ha1 (show InR 3 by decide) (Wt_tally_dc.at 4 rfl) (by decide) (fun q => ?_) (fun q => ?_)
    · have h := ite_t h q
      refine r_iconst E (Wt_tally_dc.at 5 rfl) ?_
      cases h
      exact r_iret E S (show InR (-1) by decide) (Wt_tally_dc.at 6 rfl)
    · have h := ite_f h q
      refine r_iconst E (Wt_tally_dc.at 7 rfl) ?_
      refine u_ist_n (y := 0) (vs' := [some (zR G.2.2.1 a0), some (.int (zO a1)), some (.int (zO 0)), none]) E rfl (Wt_tally_dc.at 8 rfl) hl (by decide) rfl (fun ls hl => ?_)
      refine r_iconst E (Wt_tally_dc.at 9 rfl) ?_
      refine u_ist_n (y := 0) (vs' := [some (zR G.2.2.1 a0), some (.int (zO a1)), some (.int (zO 0)), some (.int (zO 0))]) E rfl (Wt_tally_dc.at 10 rfl) hl (by decide) rfl (fun ls hl => ?_)
      exact Wt_tally_l15_w E fu _ a0 a1 0 0 ha0 ha1 (show InR 0 by decide) (show InR 0 by decide) _ _ _ S (hl.sub (And.intro rfl (And.intro rfl (And.intro rfl (And.intro rfl True.intro))))) h
theorem Wt_tally_c (l : Launch) (G : zG) (fu : Nat) (top : Int) (L : zL) (M : zM) (a0 : Int) (a1 : Int) {res : Int} (ha0 : InR a0) (ha1 : InR a1) (h : Wt_tally fu L M a0 a1 = some res) : Met l yX9_tally (Cond.code yX9_tally cX9_tally 4 (some .int) :: zTB) (zrm 2 0 0) (va_Pc [zR G.2.2.1 a0, .int (zO a1)] (zPre G top L M)) (zQ G top L M (some (.int (zO res))) (InR res)) 0 0 (zA G) :=
  z_met (by decide +kernel) (by simp [zR_cat, zcat_I, zcat_S]) (Nat.le_of_ble_eq_true rfl) fun p e s m below meth c ls E hn S hl => Wt_tally_w E ha0 ha1 S (hl.sub (And.intro rfl (And.intro rfl True.intro))) h
end
theorem Wt_complete_dc : zDL cX9_complete [(0, .aload_n 0, 1, 1), (1, .getfield 47, 3, 4), (4, .ifCond .ne 19, 3, 7), (7, .aload_n 0, 1, 8), (8, .getfield 89, 3, 11), (11, .iconst (-1), 1, 12), (12, .if_icmp .ne 11, 3, 15), (15, .aload_n 0, 1, 16), (16, .getfield 55, 3, 19), (19, .iconst (-1), 1, 20), (20, .if_icmp .eq 7, 3, 23), (23, .iconst 1, 1, 24), (24, .goto 4, 3, 27), (27, .iconst 0, 1, 28), (28, .ireturn, 1, 29)] := zDL.of (by decide +kernel)
section
variable {p : Program} {l : Launch} {e : Env} {s : State} {m : MethodId} {args : Array Value} {below : List Frame} {meth : Method} {c : Code} {G : zG} {top : Int} {L : zL} {fu : Nat}
theorem Wt_complete_w (E : zEv p m c cX9_complete 1 s args RX9 meth (some .boolean) G) {res : Int} {M : zM} {a0 : Int} {H : Heap} {locs : List Loc} {ls : Array Slot} (ha0 : InR a0) (S : zS G top L M s H locs) (hl : zLV ls 1 [some (zR G.2.2.1 a0)]) (h : Wt_complete fu L M a0 = some res) : W p l e (zrm 1 0 0) s m args below meth c H locs 0 0 (MQ below (zQ G top L M (some (.int (zO res))) (0 ≤ res ∧ res ≤ 1)) args s 0 0 (zA G)) (F0 m 0 ls []) := by
  unfold Wt_complete at h
  refine u_al_n (x := a0) E (Wt_complete_dc.at 0 rfl) hl rfl ?_
  obtain ⟨g1, h⟩ := ite_e h
  refine u_gI E zf_9_7 S g1 zw_2_69 (Wt_complete_dc.at 1 rfl) ?_
  refine r_if_ne (tgt := 23) E (S.1.inR _ _) (Wt_complete_dc.at 2 rfl) (by decide) (fun q => ?_) (fun q => ?_)
  · have h := ite_t h q
    refine u_al_n (x := a0) E (Wt_complete_dc.at 3 rfl) hl rfl ?_
    refine u_gI E zf_9_5 S g1 zw_2_65 (Wt_complete_dc.at 4 rfl) ?_
    refine r_iconst E (Wt_complete_dc.at 5 rfl) ?_
    refine r_icmp_ne (tgt := 23) E (S.1.inR _ _) (show InR (-1) by decide) (Wt_complete_dc.at 6 rfl) (by decide) (fun q => ?_) (fun q => ?_)
    · have h := ite_t h q
      refine u_al_n (x := a0) E (Wt_complete_dc.at 7 rfl) hl rfl ?_
      refine u_gI E zf_9_6 S g1 zw_2_67 (Wt_complete_dc.at 8 rfl) ?_
      refine r_iconst E (Wt_complete_dc.at 9 rfl) ?_
      refine r_icmp_eq (tgt := 27) E (S.1.inR _ _) (show InR (-1) by decide) (Wt_complete_dc.at 10 rfl) (by decide) (fun q => ?_) (fun q => ?_)
      · have h := ite_t h q
        refine r_iconst E (Wt_complete_dc.at 13 rfl) ?_
        cases h
        exact r_zret E S z01_0 z01_0 (Wt_complete_dc.at 14 rfl)
      · have h := ite_f h q
        refine r_iconst E (Wt_complete_dc.at 11 rfl) ?_
        refine r_goto (tgt := 28) E (Wt_complete_dc.at 12 rfl) (by decide) ?_
        cases h
        exact r_zret E S z01_1 z01_1 (Wt_complete_dc.at 14 rfl)
    · have h := ite_f h q
      refine r_iconst E (Wt_complete_dc.at 11 rfl) ?_
      refine r_goto (tgt := 28) E (Wt_complete_dc.at 12 rfl) (by decide) ?_
      cases h
      exact r_zret E S z01_1 z01_1 (Wt_complete_dc.at 14 rfl)
  · have h := ite_f h q
    refine r_iconst E (Wt_complete_dc.at 11 rfl) ?_
    refine r_goto (tgt := 28) E (Wt_complete_dc.at 12 rfl) (by decide) ?_
    cases h
    exact r_zret E S z01_1 z01_1 (Wt_complete_dc.at 14 rfl)
theorem Wt_complete_c (l : Launch) (G : zG) (fu : Nat) (top : Int) (L : zL) (M : zM) (a0 : Int) {res : Int} (ha0 : InR a0) (h : Wt_complete fu L M a0 = some res) : Met l yX9_complete (Cond.code yX9_complete cX9_complete 1 (some .boolean) :: zTB) (zrm 1 0 0) (va_Pc [zR G.2.2.1 a0] (zPre G top L M)) (zQ G top L M (some (.int (zO res))) (0 ≤ res ∧ res ≤ 1)) 0 0 (zA G) :=
  z_met (by decide +kernel) (by simp [zR_cat, zcat_I, zcat_S]) (Nat.le_of_ble_eq_true rfl) fun p e s m below meth c ls E hn S hl => Wt_complete_w E ha0 S (hl.sub (And.intro rfl True.intro)) h
end
theorem Wt_standing_dc : zDL cX9_standing [(0, .aload_n 0, 1, 1), (1, .iconst 3, 1, 2), (2, .invokevirtual 98, 3, 5), (5, .istore_n 1, 1, 6), (6, .aload_n 0, 1, 7), (7, .getfield 40, 3, 10), (10, .iconst (-1), 1, 11), (11, .if_icmp .eq 18, 3, 14), (14, .aload_n 0, 1, 15), (15, .getfield 35, 3, 18), (18, .aload_n 0, 1, 19), (19, .getfield 40, 3, 22), (22, .if_icmp .le 7, 3, 25), (25, .iconst 1, 1, 26), (26, .goto 4, 3, 29), (29, .iconst 0, 1, 30), (30, .istore_n 2, 1, 31), (31, .aload_n 0, 1, 32), (32, .iconst 1, 1, 33), (33, .invokevirtual 98, 3, 36), (36, .ifCond .gt 11, 3, 39), (39, .iload_n 2, 1, 40), (40, .ifCond .eq 9, 3, 43), (43, .iload_n 1, 1, 44), (44, .ifCond .le 5, 3, 47), (47, .iconst 2, 1, 48), (48, .ireturn, 1, 49), (49, .aload_n 0, 1, 50), (50, .invokevirtual 101, 3, 53), (53, .ifCond .eq 7, 3, 56), (56, .iload_n 1, 1, 57), (57, .ifCond .le 5, 3, 60), (60, .iconst 0, 1, 61), (61, .ireturn, 1, 62), (62, .aload_n 0, 1, 63), (63, .iconst 2, 1, 64), (64, .invokevirtual 98, 3, 67), (67, .aload_n 0, 1, 68), (68, .invokevirtual 105, 3, 71), (71, .if_icmp .ne 7, 3, 74), (74, .iconst 3, 1, 75), (75, .goto 4, 3, 78), (78, .iconst 1, 1, 79), (79, .ireturn, 1, 80)] := zDL.of (by decide +kernel)
section
variable {p : Program} {l : Launch} {e : Env} {s : State} {m : MethodId} {args : Array Value} {below : List Frame} {meth : Method} {c : Code} {G : zG} {top : Int} {L : zL} {fu : Nat}
theorem Wt_standing_b49_w (E : zEv p m c cX9_standing 3 s args RX9 meth (some .int) G) {res : Int} {M : zM} {x0 : Int} {x1 : Int} {H : Heap} {locs : List Loc} {ls : Array Slot} (hx0 : InR x0) (hx1 : InR x1) (S : zS G top L M s H locs) (hl : zLV ls 3 [some (zR G.2.2.1 x0), some (.int (zO x1)), none]) (h : Wt_standing_b49 fu L M x0 x1 = some res) : W p l e (zrm 3 0 0) s m args below meth c H locs 0 0 (MQ below (zQ G top L M (some (.int (zO res))) (InR res)) args s 0 0 (zA G)) (F0 m 49 ls []) := by
  unfold Wt_standing_b49 at h
  refine u_al_n (x := x0) E (Wt_standing_dc.at 27 rfl) hl rfl ?_
  obtain ⟨g7, h⟩ := ite_e h
  obtain ⟨r8, er8, h⟩ := bd1_e h
  refine u_cVI (As := []) (rest := []) E S zcw_yX9_complete zw_5_65 zw_5_66 zw_5_64 zck_9.1 rfl g7 (Wt_complete_c l G fu top L M x0 hx0 er8) (zrm_ok (by decide) (by decide)) ⟨Nat.le_refl 0, Nat.le_refl 0⟩ rfl (Nat.zero_le 8) hl.size rfl (Wt_standing_dc.at 28 rfl) (fun H locs hr8 S9 => ?_)
  refine r_if_eq (tgt := 60) E (inR_01 hr8) (Wt_standing_dc.at 29 rfl) (by decide) (fun q => ?_) (fun q => ?_)
  · have h := ite_t h q
    refine r_iconst E (Wt_standing_dc.at 32 rfl) ?_
    cases h
    exact r_iret E S9 (show InR 0 by decide) (Wt_standing_dc.at 33 rfl)
  · have h := ite_f h q
    refine u_il_n (x := x1) E (Wt_standing_dc.at 30 rfl) hl rfl ?_
    refine r_if_le (tgt := 62) E hx1 (Wt_standing_dc.at 31 rfl) (by decide) (fun q => ?_) (fun q => ?_)
    · have h := ite_t h q
      refine r_iconst E (Wt_standing_dc.at 32 rfl) ?_
      cases h
      exact r_iret E S9 (show InR 0 by decide) (Wt_standing_dc.at 33 rfl)
    · have h := ite_f h q
      refine u_al_n (x := x0) E (Wt_standing_dc.at 34 rfl) hl rfl ?_
      refine r_iconst E (Wt_standing_dc.at 35 rfl) ?_
      obtain ⟨r10, er10, h⟩ := bd1_e h
      refine u_cVI (As := [.int (zO 2)]) (rest := []) E S9 zcw_yX9_tally zw_5_57 zw_5_58 zw_5_56 zck_9.1 rfl g7 (Wt_tally_c l G fu top L M x0 2 hx0 (show InR 2 by decide) er10) (zrm_ok (by decide) (by decide)) ⟨Nat.le_refl 0, Nat.le_refl 0⟩ rfl (Nat.zero_le 8) hl.size rfl (Wt_standing_dc.at 36 rfl) (fun H locs hr10 S11 => ?_)
      refine u_al_n (x := x0) E (Wt_standing_dc.at 37 rfl) hl rfl ?_
      obtain ⟨r12, er12, h⟩ := bd1_e h
      refine u_cVI (As := []) (rest := [.int (zO r10)]) E S11 zcw_yX9_membersInAll zw_5_26 zw_5_27 zw_5_68 zck_9.1 rfl g7 (Wt_membersInAll_c l G fu top L M x0 hx0 er12) (zrm_ok (by decide) (by decide)) ⟨Nat.le_refl 0, Nat.le_refl 0⟩ rfl (by simp [zR_cat, zcat_I, zcat_J, zcat_S]) hl.size rfl (Wt_standing_dc.at 38 rfl) (fun H locs hr12 S13 => ?_)
      refine r_icmp_ne (tgt := 78) E hr10 hr12 (Wt_standing_dc.at 39 rfl) (by decide) (fun q => ?_) (fun q => ?_)
      · have h := ite_t h q
        refine r_iconst E (Wt_standing_dc.at 40 rfl) ?_
        refine r_goto (tgt := 79) E (Wt_standing_dc.at 41 rfl) (by decide) ?_
        cases h
        exact r_iret E S13 (show InR 3 by decide) (Wt_standing_dc.at 43 rfl)
      · have h := ite_f h q
        refine r_iconst E (Wt_standing_dc.at 42 rfl) ?_
        cases h
        exact r_iret E S13 (show InR 1 by decide) (Wt_standing_dc.at 43 rfl)
theorem Wt_standing_b30_w (E : zEv p m c cX9_standing 3 s args RX9 meth (some .int) G) {res : Int} {M : zM} {x0 : Int} {x1 : Int} {y0 : Int} {H : Heap} {locs : List Loc} {ls : Array Slot} (hx0 : InR x0) (hx1 : InR x1) (hy0 : InR y0) (S : zS G top L M s H locs) (hl : zLV ls 3 [some (zR G.2.2.1 x0), some (.int (zO x1)), none]) (h : Wt_standing_b30 fu L M x0 x1 y0 = some res) : W p l e (zrm 3 0 0) s m args below meth c H locs 0 0 (MQ below (zQ G top L M (some (.int (zO res))) (InR res)) args s 0 0 (zA G)) (F0 m 30 ls [.int (zO y0)]) := by
  unfold Wt_standing_b30 at h
  refine u_ist_n (y := y0) (vs' := [some (zR G.2.2.1 x0), some (.int (zO x1)), some (.int (zO y0))]) E rfl (Wt_standing_dc.at 16 rfl) hl (by decide) rfl (fun ls hl => ?_)
  refine u_al_n (x := x0) E (Wt_standing_dc.at 17 rfl) hl rfl ?_
  refine r_iconst E (Wt_standing_dc.at 18 rfl) ?_
  obtain ⟨g4, h⟩ := ite_e h
  obtain ⟨r5, er5, h⟩ := bd1_e h
  refine u_cVI (As := [.int (zO 1)]) (rest := []) E S zcw_yX9_tally zw_5_57 zw_5_58 zw_5_56 zck_9.1 rfl g4 (Wt_tally_c l G fu top L M x0 1 hx0 (show InR 1 by decide) er5) (zrm_ok (by decide) (by decide)) ⟨Nat.le_refl 0, Nat.le_refl 0⟩ rfl (Nat.zero_le 8) hl.size rfl (Wt_standing_dc.at 19 rfl) (fun H locs hr5 S6 => ?_)
  refine r_if_gt (tgt := 47) E hr5 (Wt_standing_dc.at 20 rfl) (by decide) (fun q => ?_) (fun q => ?_)
  · have h := ite_t h q
    refine r_iconst E (Wt_standing_dc.at 25 rfl) ?_
    cases h
    exact r_iret E S6 (show InR 2 by decide) (Wt_standing_dc.at 26 rfl)
  · have h := ite_f h q
    refine u_il_n (x := y0) E (Wt_standing_dc.at 21 rfl) hl rfl ?_
    refine r_if_eq (tgt := 49) E hy0 (Wt_standing_dc.at 22 rfl) (by decide) (fun q => ?_) (fun q => ?_)
    · have h := ite_t h q
      exact Wt_standing_b49_w (x0 := x0) (x1 := x1)  E hx0 hx1 S6 (hl.sub (And.intro rfl (And.intro rfl True.intro))) h
    · have h := ite_f h q
      refine u_il_n (x := x1) E (Wt_standing_dc.at 23 rfl) hl rfl ?_
      refine r_if_le (tgt := 49) E hx1 (Wt_standing_dc.at 24 rfl) (by decide) (fun q => ?_) (fun q => ?_)
      · have h := ite_t h q
        refine r_iconst E (Wt_standing_dc.at 25 rfl) ?_
        cases h
        exact r_iret E S6 (show InR 2 by decide) (Wt_standing_dc.at 26 rfl)
      · have h := ite_f h q
        exact Wt_standing_b49_w (x0 := x0) (x1 := x1)  E hx0 hx1 S6 (hl.sub (And.intro rfl (And.intro rfl True.intro))) h
theorem Wt_standing_w (E : zEv p m c cX9_standing 3 s args RX9 meth (some .int) G) {res : Int} {M : zM} {a0 : Int} {H : Heap} {locs : List Loc} {ls : Array Slot} (ha0 : InR a0) (S : zS G top L M s H locs) (hl : zLV ls 3 [some (zR G.2.2.1 a0), none, none]) (h : Wt_standing fu L M a0 = some res) : W p l e (zrm 3 0 0) s m args below meth c H locs 0 0 (MQ below (zQ G top L M (some (.int (zO res))) (InR res)) args s 0 0 (zA G)) (F0 m 0 ls []) := by
  unfold Wt_standing at h
  refine u_al_n (x := a0) E (Wt_standing_dc.at 0 rfl) hl rfl ?_
  refine r_iconst E (Wt_standing_dc.at 1 rfl) ?_
  obtain ⟨g1, h⟩ := ite_e h
  obtain ⟨r2, er2, h⟩ := bd1_e h
  refine u_cVI (As := [.int (zO 3)]) (rest := []) E S zcw_yX9_tally zw_5_57 zw_5_58 zw_5_56 zck_9.1 rfl g1 (Wt_tally_c l G fu top L M a0 3 ha0 (show InR 3 by decide) er2) (zrm_ok (by decide) (by decide)) ⟨Nat.le_refl 0, Nat.le_refl 0⟩ rfl (Nat.zero_le 8) hl.size rfl (Wt_standing_dc.at 2 rfl) (fun H locs hr2 S3 => ?_)
  refine u_ist_n (y := r2) (vs' := [some (zR G.2.2.1 a0), some (.int (zO r2)), none]) E rfl (Wt_standing_dc.at 3 rfl) hl (by decide) rfl (fun ls hl => ?_)
  refine u_al_n (x := a0) E (Wt_standing_dc.at 4 rfl) hl rfl ?_
  refine u_gI E zf_9_4 S3 g1 zw_2_64 (Wt_standing_dc.at 5 rfl) ?_
  refine r_iconst E (Wt_standing_dc.at 6 rfl) ?_
  refine r_icmp_eq (tgt := 29) E (S3.1.inR _ _) (show InR (-1) by decide) (Wt_standing_dc.at 7 rfl) (by decide) (fun q => ?_) (fun q => ?_)
  · have h := ite_t h q
    refine r_iconst E (Wt_standing_dc.at 15 rfl) ?_
    exact Wt_standing_b30_w (x0 := a0) (x1 := r2) (y0 := 0) E ha0 hr2 (show InR 0 by decide) S3 (hl.sub (And.intro rfl (And.intro rfl True.intro))) h
  · have h := ite_f h q
    refine u_al_n (x := a0) E (Wt_standing_dc.at 8 rfl) hl rfl ?_
    refine u_gI E zf_9_3 S3 g1 zw_2_63 (Wt_standing_dc.at 9 rfl) ?_
    refine u_al_n (x := a0) E (Wt_standing_dc.at 10 rfl) hl rfl ?_
    refine u_gI E zf_9_4 S3 g1 zw_2_64 (Wt_standing_dc.at 11 rfl) ?_
    refine r_icmp_le (tgt := 29) E (S3.1.inR _ _) (S3.1.inR _ _) (Wt_standing_dc.at 12 rfl) (by decide) (fun q => ?_) (fun q => ?_)
    · have h := ite_t h q
      refine r_iconst E (Wt_standing_dc.at 13 rfl) ?_
      refine r_goto (tgt := 30) E (Wt_standing_dc.at 14 rfl) (by decide) ?_
      exact Wt_standing_b30_w (x0 := a0) (x1 := r2) (y0 := 1) E ha0 hr2 (show InR 1 by decide) S3 (hl.sub (And.intro rfl (And.intro rfl True.intro))) h
    · have h := ite_f h q
      refine r_iconst E (Wt_standing_dc.at 15 rfl) ?_
      exact Wt_standing_b30_w (x0 := a0) (x1 := r2) (y0 := 0) E ha0 hr2 (show InR 0 by decide) S3 (hl.sub (And.intro rfl (And.intro rfl True.intro))) h
theorem Wt_standing_c (l : Launch) (G : zG) (fu : Nat) (top : Int) (L : zL) (M : zM) (a0 : Int) {res : Int} (ha0 : InR a0) (h : Wt_standing fu L M a0 = some res) : Met l yX9_standing (Cond.code yX9_standing cX9_standing 3 (some .int) :: zTB) (zrm 3 0 0) (va_Pc [zR G.2.2.1 a0] (zPre G top L M)) (zQ G top L M (some (.int (zO res))) (InR res)) 0 0 (zA G) :=
  z_met (by decide +kernel) (by simp [zR_cat, zcat_I, zcat_S]) (Nat.le_of_ble_eq_true rfl) fun p e s m below meth c ls E hn S hl => Wt_standing_w E ha0 S (hl.sub (And.intro rfl True.intro)) h
end
theorem Lx_state_dc : zDL cX11_state [(0, .aload_n 0, 1, 1), (1, .iload_n 1, 1, 2), (2, .invokevirtual 226, 3, 5), (5, .ifCond .eq 13, 3, 8), (8, .aload_n 0, 1, 9), (9, .getfield 71, 3, 12), (12, .invokevirtual 245, 3, 15), (15, .goto 4, 3, 18), (18, .iconst (-1), 1, 19), (19, .ireturn, 1, 20)] := zDL.of (by decide +kernel)
section
variable {p : Program} {l : Launch} {e : Env} {s : State} {m : MethodId} {args : Array Value} {below : List Frame} {meth : Method} {c : Code} {G : zG} {top : Int} {L : zL} {fu : Nat}
theorem Lx_state_w (E : zEv p m c cX11_state 2 s args RX11 meth (some .int) G) {res : (zM × Int)} {M : zM} {a0 : Int} {a1 : Int} {H : Heap} {locs : List Loc} {ls : Array Slot} (ha0 : InR a0) (ha1 : InR a1) (S : zS G top L M s H locs) (hl : zLV ls 2 [some (zR G.2.2.1 a0), some (.int (zO a1))]) (h : Lx_state fu L M a0 a1 = some res) : W p l e (zrm 6 0 0) s m args below meth c H locs 0 0 (MQ below (zQ G top L res.1 (some (.int (zO res.2))) (InR res.2)) args s 0 0 (zA G)) (F0 m 0 ls []) := by
  unfold Lx_state at h
  refine u_al_n (x := a0) E (Lx_state_dc.at 0 rfl) hl rfl ?_
  refine u_il_n (x := a1) E (Lx_state_dc.at 1 rfl) hl rfl ?_
  obtain ⟨g1, h⟩ := ite_e h
  obtain ⟨M3, r2, er2, h⟩ := bd2_e h
  refine u_cVI (As := [.int (zO a1)]) (rest := []) E S zcw_yX11_waitFor zw_4_206 zq_2_13 zw_4_204 zck_11.1 rfl g1 (Lx_waitFor_c l G fu top L M a0 a1 ha0 ha1 er2) (zrm_ok (by decide) (by decide)) ⟨Nat.le_refl 0, Nat.le_refl 0⟩ rfl (Nat.zero_le 8) hl.size rfl (Lx_state_dc.at 2 rfl) (fun H locs hr2 S4 => ?_)
  refine r_if_eq (tgt := 18) E (inR_01 hr2) (Lx_state_dc.at 3 rfl) (by decide) (fun q => ?_) (fun q => ?_)
  · have h := ite_t h q
    refine r_iconst E (Lx_state_dc.at 8 rfl) ?_
    cases h
    exact r_iret E S4 (show InR (-1) by decide) (Lx_state_dc.at 9 rfl)
  · have h := ite_f h q
    refine u_al_n (x := a0) E (Lx_state_dc.at 4 rfl) hl rfl ?_
    refine u_gR E zf_11_8 S4 g1 zw_2_140 (Lx_state_dc.at 5 rfl) ?_
    obtain ⟨g5, h⟩ := ite_e h
    obtain ⟨r6, er6, h⟩ := bd1_e h
    refine u_cVI (As := []) (rest := []) E S4 zcw_yX9_standing zw_5_53 zw_5_54 zw_5_52 zck_9.1 rfl g5 (Wt_standing_c l G fu top L M3 (M3 a0 8) (S4.1.inR _ _) er6) (zrm_ok (by decide) (by decide)) ⟨Nat.le_refl 0, Nat.le_refl 0⟩ rfl (Nat.zero_le 8) hl.size rfl (Lx_state_dc.at 6 rfl) (fun H locs hr6 S7 => ?_)
    refine r_goto (tgt := 19) E (Lx_state_dc.at 7 rfl) (by decide) ?_
    cases h
    exact r_iret E S7 hr6 (Lx_state_dc.at 9 rfl)
theorem Lx_state_c (l : Launch) (G : zG) (fu : Nat) (top : Int) (L : zL) (M : zM) (a0 : Int) (a1 : Int) {res : (zM × Int)} (ha0 : InR a0) (ha1 : InR a1) (h : Lx_state fu L M a0 a1 = some res) : Met l yX11_state (Cond.code yX11_state cX11_state 2 (some .int) :: zTB) (zrm 6 0 0) (va_Pc [zR G.2.2.1 a0, .int (zO a1)] (zPre G top L M)) (zQ G top L res.1 (some (.int (zO res.2))) (InR res.2)) 0 0 (zA G) :=
  z_met (by decide +kernel) (by simp [zR_cat, zcat_I, zcat_S]) (Nat.le_of_ble_eq_true rfl) fun p e s m below meth c ls E hn S hl => Lx_state_w E ha0 ha1 S (hl.sub (And.intro rfl (And.intro rfl True.intro))) h
end
theorem Lx_count_dc : zDL cX11_count [(0, .aload_n 0, 1, 1), (1, .iload_n 1, 1, 2), (2, .invokevirtual 226, 3, 5), (5, .ifCond .eq 14, 3, 8), (8, .aload_n 0, 1, 9), (9, .getfield 71, 3, 12), (12, .iload_n 2, 1, 13), (13, .invokevirtual 248, 3, 16), (16, .goto 4, 3, 19), (19, .iconst (-1), 1, 20), (20, .ireturn, 1, 21)] := zDL.of (by decide +kernel)
section
variable {p : Program} {l : Launch} {e : Env} {s : State} {m : MethodId} {args : Array Value} {below : List Frame} {meth : Method} {c : Code} {G : zG} {top : Int} {L : zL} {fu : Nat}
theorem Lx_count_w (E : zEv p m c cX11_count 3 s args RX11 meth (some .int) G) {res : (zM × Int)} {M : zM} {a0 : Int} {a1 : Int} {a2 : Int} {H : Heap} {locs : List Loc} {ls : Array Slot} (ha0 : InR a0) (ha1 : InR a1) (ha2 : InR a2) (S : zS G top L M s H locs) (hl : zLV ls 3 [some (zR G.2.2.1 a0), some (.int (zO a1)), some (.int (zO a2))]) (h : Lx_count fu L M a0 a1 a2 = some res) : W p l e (zrm 6 0 0) s m args below meth c H locs 0 0 (MQ below (zQ G top L res.1 (some (.int (zO res.2))) (InR res.2)) args s 0 0 (zA G)) (F0 m 0 ls []) := by
  unfold Lx_count at h
  refine u_al_n (x := a0) E (Lx_count_dc.at 0 rfl) hl rfl ?_
  refine u_il_n (x := a1) E (Lx_count_dc.at 1 rfl) hl rfl ?_
  obtain ⟨g1, h⟩ := ite_e h
  obtain ⟨M3, r2, er2, h⟩ := bd2_e h
  refine u_cVI (As := [.int (zO a1)]) (rest := []) E S zcw_yX11_waitFor zw_4_206 zq_2_13 zw_4_204 zck_11.1 rfl g1 (Lx_waitFor_c l G fu top L M a0 a1 ha0 ha1 er2) (zrm_ok (by decide) (by decide)) ⟨Nat.le_refl 0, Nat.le_refl 0⟩ rfl (Nat.zero_le 8) hl.size rfl (Lx_count_dc.at 2 rfl) (fun H locs hr2 S4 => ?_)
  refine r_if_eq (tgt := 19) E (inR_01 hr2) (Lx_count_dc.at 3 rfl) (by decide) (fun q => ?_) (fun q => ?_)
  · have h := ite_t h q
    refine r_iconst E (Lx_count_dc.at 9 rfl) ?_
    cases h
    exact r_iret E S4 (show InR (-1) by decide) (Lx_count_dc.at 10 rfl)
  · have h := ite_f h q
    refine u_al_n (x := a0) E (Lx_count_dc.at 4 rfl) hl rfl ?_
    refine u_gR E zf_11_8 S4 g1 zw_2_140 (Lx_count_dc.at 5 rfl) ?_
    refine u_il_n (x := a2) E (Lx_count_dc.at 6 rfl) hl rfl ?_
    obtain ⟨g5, h⟩ := ite_e h
    obtain ⟨r6, er6, h⟩ := bd1_e h
    refine u_cVI (As := [.int (zO a2)]) (rest := []) E S4 zcw_yX9_tally zw_5_57 zw_5_58 zw_5_73 zck_9.1 rfl g5 (Wt_tally_c l G fu top L M3 (M3 a0 8) a2 (S4.1.inR _ _) ha2 er6) (zrm_ok (by decide) (by decide)) ⟨Nat.le_refl 0, Nat.le_refl 0⟩ rfl (Nat.zero_le 8) hl.size rfl (Lx_count_dc.at 7 rfl) (fun H locs hr6 S7 => ?_)
    refine r_goto (tgt := 20) E (Lx_count_dc.at 8 rfl) (by decide) ?_
    cases h
    exact r_iret E S7 hr6 (Lx_count_dc.at 10 rfl)
theorem Lx_count_c (l : Launch) (G : zG) (fu : Nat) (top : Int) (L : zL) (M : zM) (a0 : Int) (a1 : Int) (a2 : Int) {res : (zM × Int)} (ha0 : InR a0) (ha1 : InR a1) (ha2 : InR a2) (h : Lx_count fu L M a0 a1 a2 = some res) : Met l yX11_count (Cond.code yX11_count cX11_count 3 (some .int) :: zTB) (zrm 6 0 0) (va_Pc [zR G.2.2.1 a0, .int (zO a1), .int (zO a2)] (zPre G top L M)) (zQ G top L res.1 (some (.int (zO res.2))) (InR res.2)) 0 0 (zA G) :=
  z_met (by decide +kernel) (by simp [zR_cat, zcat_I, zcat_S]) (Nat.le_of_ble_eq_true rfl) fun p e s m below meth c ls E hn S hl => Lx_count_w E ha0 ha1 ha2 S (hl.sub (And.intro rfl (And.intro rfl (And.intro rfl True.intro)))) h
end
theorem Wt_partOf_dc : zDL cX9_partOf [(0, .aload_n 0, 1, 1), (1, .iconst 0, 1, 2), (2, .invokevirtual 98, 3, 5), (5, .aload_n 0, 1, 6), (6, .iconst 1, 1, 7), (7, .invokevirtual 98, 3, 10), (10, .iadd, 1, 11), (11, .istore_n 3, 1, 12), (12, .aload_n 0, 1, 13), (13, .invokevirtual 101, 3, 16), (16, .ifCond .eq 7, 3, 19), (19, .iload_n 3, 1, 20), (20, .ifCond .gt 5, 3, 23), (23, .iconst (-1), 1, 24), (24, .ireturn, 1, 25), (25, .aload_n 0, 1, 26), (26, .iload_n 1, 1, 27), (27, .invokevirtual 92, 3, 30), (30, .ifCond .ge 5, 3, 33), (33, .iconst 0, 1, 34), (34, .ireturn, 1, 35), (35, .iconst 0, 1, 36), (36, .istore 4, 2, 38), (38, .iconst 0, 1, 39), (39, .istore 5, 2, 41), (41, .iload 5, 2, 43), (43, .iload_n 1, 1, 44), (44, .if_icmp .ge 30, 3, 47), (47, .iload 5, 2, 49), (49, .aload_n 0, 1, 50), (50, .getfield 31, 3, 53), (53, .if_icmp .ge 21, 3, 56), (56, .aload_n 0, 1, 57), (57, .iload 5, 2, 59), (59, .invokevirtual 92, 3, 62), (62, .ifCond .lt 6, 3, 65), (65, .iinc 4 1, 3, 68), (68, .iinc 5 1, 3, 71), (71, .goto (-30), 3, 74), (74, .iload_n 2, 1, 75), (75, .iload_n 3, 1, 76), (76, .idiv, 1, 77), (77, .iload 4, 2, 79), (79, .iload_n 2, 1, 80), (80, .iload_n 3, 1, 81), (81, .irem, 1, 82), (82, .if_icmp .ge 7, 3, 85), (85, .iconst 1, 1, 86), (86, .goto 4, 3, 89), (89, .iconst 0, 1, 90), (90, .iadd, 1, 91), (91, .ireturn, 1, 92)] := zDL.of (by decide +kernel)
section
variable {p : Program} {l : Launch} {e : Env} {s : State} {m : MethodId} {args : Array Value} {below : List Frame} {meth : Method} {c : Code} {G : zG} {top : Int} {L : zL} {fu : Nat}
theorem Wt_partOf_b74_w (E : zEv p m c cX9_partOf 6 s args RX9 meth (some .int) G) {res : Int} {M : zM} {x2 : Int} {x3 : Int} {x4 : Int} {H : Heap} {locs : List Loc} {ls : Array Slot} (hx2 : InR x2) (hx3 : InR x3) (hx4 : InR x4) (S : zS G top L M s H locs) (hl : zLV ls 6 [none, none, some (.int (zO x2)), some (.int (zO x3)), some (.int (zO x4)), none]) (h : Wt_partOf_b74 fu L M x2 x3 x4 = some res) : W p l e (zrm 3 0 0) s m args below meth c H locs 0 0 (MQ below (zQ G top L M (some (.int (zO res))) (InR res)) args s 0 0 (zA G)) (F0 m 74 ls []) := by
  unfold Wt_partOf_b74 at h
  refine u_il_n (x := x2) E (Wt_partOf_dc.at 39 rfl) hl rfl ?_
  refine u_il_n (x := x3) E (Wt_partOf_dc.at 40 rfl) hl rfl ?_
  obtain ⟨g17, h⟩ := ite_e h
  refine r_idiv E hx2 hx3 g17 (Wt_partOf_dc.at 41 rfl) ?_
  refine u_il (x := x4) E (Wt_partOf_dc.at 42 rfl) hl rfl ?_
  refine u_il_n (x := x2) E (Wt_partOf_dc.at 43 rfl) hl rfl ?_
  refine u_il_n (x := x3) E (Wt_partOf_dc.at 44 rfl) hl rfl ?_
  obtain ⟨g18, h⟩ := ite_e h
  refine r_irem E hx2 hx3 g18 (Wt_partOf_dc.at 45 rfl) ?_
  refine r_icmp_ge (tgt := 89) E hx4 (inR_w32 _) (Wt_partOf_dc.at 46 rfl) (by decide) (fun q => ?_) (fun q => ?_)
  · have h := ite_t h q
    refine r_iconst E (Wt_partOf_dc.at 47 rfl) ?_
    refine r_goto (tgt := 90) E (Wt_partOf_dc.at 48 rfl) (by decide) ?_
    refine r_iadd E (Wt_partOf_dc.at 50 rfl) ?_
    cases h
    exact r_iret E S (inR_w32 _) (Wt_partOf_dc.at 51 rfl)
  · have h := ite_f h q
    refine r_iconst E (Wt_partOf_dc.at 49 rfl) ?_
    refine r_iadd E (Wt_partOf_dc.at 50 rfl) ?_
    cases h
    exact r_iret E S (inR_w32 _) (Wt_partOf_dc.at 51 rfl)
theorem Wt_partOf_s41_w (E : zEv p m c cX9_partOf 6 s args RX9 meth (some .int) G) {res : Int} {k41 : zM → Int → Int → Int → Int → Int → Int → Option Int} (hk41 : ∀ (M : zM) (x0 : Int) (x1 : Int) (x2 : Int) (x3 : Int) (x4 : Int) (x5 : Int), InR x0 → InR x1 → InR x2 → InR x3 → InR x4 → InR x5 → ∀ (H : Heap) (locs : List Loc) (ls : Array Slot), zS G top L M s H locs → zLV ls 6 [some (zR G.2.2.1 x0), some (.int (zO x1)), some (.int (zO x2)), some (.int (zO x3)), some (.int (zO x4)), some (.int (zO x5))] → k41 M x0 x1 x2 x3 x4 x5 = some res → W p l e (zrm 3 0 0) s m args below meth c H locs 0 0 (MQ below (zQ G top L M (some (.int (zO res))) (InR res)) args s 0 0 (zA G)) (F0 m 41 ls [])) {M : zM} {x0 : Int} {x1 : Int} {x2 : Int} {x3 : Int} {x4 : Int} {x5 : Int} {H : Heap} {locs : List Loc} {ls : Array Slot} (hx0 : InR x0) (hx1 : InR x1) (hx2 : InR x2) (hx3 : InR x3) (hx4 : InR x4) (hx5 : InR x5) (S : zS G top L M s H locs) (hl : zLV ls 6 [some (zR G.2.2.1 x0), some (.int (zO x1)), some (.int (zO x2)), some (.int (zO x3)), some (.int (zO x4)), some (.int (zO x5))]) (h : Wt_partOf_s41 fu k41 L M x0 x1 x2 x3 x4 x5 = some res) : W p l e (zrm 3 0 0) s m args below meth c H locs 0 0 (MQ below (zQ G top L M (some (.int (zO res))) (InR res)) args s 0 0 (zA G)) (F0 m 41 ls []) := by
  unfold Wt_partOf_s41 at h
  refine u_il (x := x5) E (Wt_partOf_dc.at 25 rfl) hl rfl ?_
  refine u_il_n (x := x1) E (Wt_partOf_dc.at 26 rfl) hl rfl ?_
  refine r_icmp_ge (tgt := 74) E hx5 hx1 (Wt_partOf_dc.at 27 rfl) (by decide) (fun q => ?_) (fun q => ?_)
  · have h := ite_t h q
    refine u_il (x := x5) E (Wt_partOf_dc.at 28 rfl) hl rfl ?_
    refine u_al_n (x := x0) E (Wt_partOf_dc.at 29 rfl) hl rfl ?_
    obtain ⟨g11, h⟩ := ite_e h
    refine u_gI E zf_9_2 S g11 zw_2_62 (Wt_partOf_dc.at 30 rfl) ?_
    refine r_icmp_ge (tgt := 74) E hx5 (S.1.inR _ _) (Wt_partOf_dc.at 31 rfl) (by decide) (fun q => ?_) (fun q => ?_)
    · have h := ite_t h q
      refine u_al_n (x := x0) E (Wt_partOf_dc.at 32 rfl) hl rfl ?_
      refine u_il (x := x5) E (Wt_partOf_dc.at 33 rfl) hl rfl ?_
      obtain ⟨r12, er12, h⟩ := bd1_e h
      refine u_cVI (As := [.int (zO x5)]) (rest := []) E S zcw_yX9_yearOf zw_5_30 zw_5_31 zw_5_29 zck_9.1 rfl g11 (Wt_yearOf_c l G fu top L M x0 x5 hx0 hx5 er12) (zrm_ok (by decide) (by decide)) ⟨Nat.le_refl 0, Nat.le_refl 0⟩ rfl (Nat.zero_le 8) hl.size rfl (Wt_partOf_dc.at 34 rfl) (fun H locs hr12 S13 => ?_)
      refine r_if_lt (tgt := 68) E hr12 (Wt_partOf_dc.at 35 rfl) (by decide) (fun q => ?_) (fun q => ?_)
      · have h := ite_t h q
        obtain ⟨v14, ev14, h⟩ := lt1_e h
        have hv14 := inR_eq ev14 (inR_w32 _)
        refine u_iinc (y := v14) (vs' := [some (zR G.2.2.1 x0), some (.int (zO x1)), some (.int (zO x2)), some (.int (zO x3)), some (.int (zO x4)), some (.int (zO v14))]) E ev14 (Wt_partOf_dc.at 37 rfl) hl rfl (by decide) rfl (fun ls hl => ?_)
        refine r_goto (tgt := 41) E (Wt_partOf_dc.at 38 rfl) (by decide) ?_
        exact hk41 _ x0 x1 x2 x3 x4 v14 hx0 hx1 hx2 hx3 hx4 hv14 _ _ _ S13 (hl.sub (And.intro rfl (And.intro rfl (And.intro rfl (And.intro rfl (And.intro rfl (And.intro rfl True.intro))))))) h
      · have h := ite_f h q
        obtain ⟨v15, ev15, h⟩ := lt1_e h
        have hv15 := inR_eq ev15 (inR_w32 _)
        refine u_iinc (y := v15) (vs' := [some (zR G.2.2.1 x0), some (.int (zO x1)), some (.int (zO x2)), some (.int (zO x3)), some (.int (zO v15)), some (.int (zO x5))]) E ev15 (Wt_partOf_dc.at 36 rfl) hl rfl (by decide) rfl (fun ls hl => ?_)
        obtain ⟨v16, ev16, h⟩ := lt1_e h
        have hv16 := inR_eq ev16 (inR_w32 _)
        refine u_iinc (y := v16) (vs' := [some (zR G.2.2.1 x0), some (.int (zO x1)), some (.int (zO x2)), some (.int (zO x3)), some (.int (zO v15)), some (.int (zO v16))]) E ev16 (Wt_partOf_dc.at 37 rfl) hl rfl (by decide) rfl (fun ls hl => ?_)
        refine r_goto (tgt := 41) E (Wt_partOf_dc.at 38 rfl) (by decide) ?_
        exact hk41 _ x0 x1 x2 x3 v15 v16 hx0 hx1 hx2 hx3 hv15 hv16 _ _ _ S13 (hl.sub (And.intro rfl (And.intro rfl (And.intro rfl (And.intro rfl (And.intro rfl (And.intro rfl True.intro))))))) h
    · have h := ite_f h q
      exact Wt_partOf_b74_w (x2 := x2) (x3 := x3) (x4 := x4)  E hx2 hx3 hx4 S (hl.sub (And.intro rfl (And.intro rfl (And.intro rfl True.intro)))) h
  · have h := ite_f h q
    exact Wt_partOf_b74_w (x2 := x2) (x3 := x3) (x4 := x4)  E hx2 hx3 hx4 S (hl.sub (And.intro rfl (And.intro rfl (And.intro rfl True.intro)))) h
theorem Wt_partOf_l41_w (E : zEv p m c cX9_partOf 6 s args RX9 meth (some .int) G) {res : Int} : ∀ (n : Nat) (M : zM) (x0 : Int) (x1 : Int) (x2 : Int) (x3 : Int) (x4 : Int) (x5 : Int), InR x0 → InR x1 → InR x2 → InR x3 → InR x4 → InR x5 → ∀ (H : Heap) (locs : List Loc) (ls : Array Slot), zS G top L M s H locs → zLV ls 6 [some (zR G.2.2.1 x0), some (.int (zO x1)), some (.int (zO x2)), some (.int (zO x3)), some (.int (zO x4)), some (.int (zO x5))] → Wt_partOf_l41 fu L n M x0 x1 x2 x3 x4 x5 = some res → W p l e (zrm 3 0 0) s m args below meth c H locs 0 0 (MQ below (zQ G top L M (some (.int (zO res))) (InR res)) args s 0 0 (zA G)) (F0 m 41 ls [])
  | 0, _, _, _, _, _, _, _ => fun _ _ _ _ _ _ _ _ _ _ _ h => (by cases h)
  | n + 1, M, x0, x1, x2, x3, x4, x5 => fun hx0 hx1 hx2 hx3 hx4 hx5 H locs ls S hl h => Wt_partOf_s41_w E (fun M x0 x1 x2 x3 x4 x5 hx0 hx1 hx2 hx3 hx4 hx5 H locs ls S hl h => Wt_partOf_l41_w E n M x0 x1 x2 x3 x4 x5 hx0 hx1 hx2 hx3 hx4 hx5 H locs ls S hl h) hx0 hx1 hx2 hx3 hx4 hx5 S hl h
theorem Wt_partOf_w (E : zEv p m c cX9_partOf 6 s args RX9 meth (some .int) G) {res : Int} {M : zM} {a0 : Int} {a1 : Int} {a2 : Int} {H : Heap} {locs : List Loc} {ls : Array Slot} (ha0 : InR a0) (ha1 : InR a1) (ha2 : InR a2) (S : zS G top L M s H locs) (hl : zLV ls 6 [some (zR G.2.2.1 a0), some (.int (zO a1)), some (.int (zO a2)), none, none, none]) (h : Wt_partOf fu L M a0 a1 a2 = some res) : W p l e (zrm 3 0 0) s m args below meth c H locs 0 0 (MQ below (zQ G top L M (some (.int (zO res))) (InR res)) args s 0 0 (zA G)) (F0 m 0 ls []) := by
  unfold Wt_partOf at h
  refine u_al_n (x := a0) E (Wt_partOf_dc.at 0 rfl) hl rfl ?_
  refine r_iconst E (Wt_partOf_dc.at 1 rfl) ?_
  obtain ⟨g1, h⟩ := ite_e h
  obtain ⟨r2, er2, h⟩ := bd1_e h
  refine u_cVI (As := [.int (zO 0)]) (rest := []) E S zcw_yX9_tally zw_5_57 zw_5_58 zw_5_56 zck_9.1 rfl g1 (Wt_tally_c l G fu top L M a0 0 ha0 (show InR 0 by decide) er2) (zrm_ok (by decide) (by decide)) ⟨Nat.le_refl 0, Nat.le_refl 0⟩ rfl (Nat.zero_le 8) hl.size rfl (Wt_partOf_dc.at 2 rfl) (fun H locs hr2 S3 => ?_)
  refine u_al_n (x := a0) E (Wt_partOf_dc.at 3 rfl) hl rfl ?_
  refine r_iconst E (Wt_partOf_dc.at 4 rfl) ?_
  obtain ⟨r4, er4, h⟩ := bd1_e h
  refine u_cVI (As := [.int (zO 1)]) (rest := [.int (zO r2)]) E S3 zcw_yX9_tally zw_5_57 zw_5_58 zw_5_56 zck_9.1 rfl g1 (Wt_tally_c l G fu top L M a0 1 ha0 (show InR 1 by decide) er4) (zrm_ok (by decide) (by decide)) ⟨Nat.le_refl 0, Nat.le_refl 0⟩ rfl (by simp [zR_cat, zcat_I, zcat_J, zcat_S]) hl.size rfl (Wt_partOf_dc.at 5 rfl) (fun H locs hr4 S5 => ?_)
  refine r_iadd E (Wt_partOf_dc.at 6 rfl) ?_
  obtain ⟨v6, ev6, h⟩ := lt1_e h
  have hv6 := inR_eq ev6 (inR_w32 _)
  refine u_ist_n (y := v6) (vs' := [some (zR G.2.2.1 a0), some (.int (zO a1)), some (.int (zO a2)), some (.int (zO v6)), none, none]) E ev6 (Wt_partOf_dc.at 7 rfl) hl (by decide) rfl (fun ls hl => ?_)
  refine u_al_n (x := a0) E (Wt_partOf_dc.at 8 rfl) hl rfl ?_
  obtain ⟨r7, er7, h⟩ := bd1_e h
  refine u_cVI (As := []) (rest := []) E S5 zcw_yX9_complete zw_5_65 zw_5_66 zw_5_64 zck_9.1 rfl g1 (Wt_complete_c l G fu top L M a0 ha0 er7) (zrm_ok (by decide) (by decide)) ⟨Nat.le_refl 0, Nat.le_refl 0⟩ rfl (Nat.zero_le 8) hl.size rfl (Wt_partOf_dc.at 9 rfl) (fun H locs hr7 S8 => ?_)
  refine r_if_eq (tgt := 23) E (inR_01 hr7) (Wt_partOf_dc.at 10 rfl) (by decide) (fun q => ?_) (fun q => ?_)
  · have h := ite_t h q
    refine r_iconst E (Wt_partOf_dc.at 13 rfl) ?_
    cases h
    exact r_iret E S8 (show InR (-1) by decide) (Wt_partOf_dc.at 14 rfl)
  · have h := ite_f h q
    refine u_il_n (x := v6) E (Wt_partOf_dc.at 11 rfl) hl rfl ?_
    refine r_if_gt (tgt := 25) E hv6 (Wt_partOf_dc.at 12 rfl) (by decide) (fun q => ?_) (fun q => ?_)
    · have h := ite_t h q
      refine u_al_n (x := a0) E (Wt_partOf_dc.at 15 rfl) hl rfl ?_
      refine u_il_n (x := a1) E (Wt_partOf_dc.at 16 rfl) hl rfl ?_
      obtain ⟨r9, er9, h⟩ := bd1_e h
      refine u_cVI (As := [.int (zO a1)]) (rest := []) E S8 zcw_yX9_yearOf zw_5_30 zw_5_31 zw_5_29 zck_9.1 rfl g1 (Wt_yearOf_c l G fu top L M a0 a1 ha0 ha1 er9) (zrm_ok (by decide) (by decide)) ⟨Nat.le_refl 0, Nat.le_refl 0⟩ rfl (Nat.zero_le 8) hl.size rfl (Wt_partOf_dc.at 17 rfl) (fun H locs hr9 S10 => ?_)
      refine r_if_ge (tgt := 35) E hr9 (Wt_partOf_dc.at 18 rfl) (by decide) (fun q => ?_) (fun q => ?_)
      · have h := ite_t h q
        refine r_iconst E (Wt_partOf_dc.at 19 rfl) ?_
        cases h
        exact r_iret E S10 (show InR 0 by decide) (Wt_partOf_dc.at 20 rfl)
      · have h := ite_f h q
        refine r_iconst E (Wt_partOf_dc.at 21 rfl) ?_
        refine u_ist (y := 0) (vs' := [some (zR G.2.2.1 a0), some (.int (zO a1)), some (.int (zO a2)), some (.int (zO v6)), some (.int (zO 0)), none]) E rfl (Wt_partOf_dc.at 22 rfl) hl (by decide) rfl (fun ls hl => ?_)
        refine r_iconst E (Wt_partOf_dc.at 23 rfl) ?_
        refine u_ist (y := 0) (vs' := [some (zR G.2.2.1 a0), some (.int (zO a1)), some (.int (zO a2)), some (.int (zO v6)), some (.int (zO 0)), some (.int (zO 0))]) E rfl (Wt_partOf_dc.at 24 rfl) hl (by decide) rfl (fun ls hl => ?_)
        exact Wt_partOf_l41_w E fu _ a0 a1 a2 v6 0 0 ha0 ha1 ha2 hv6 (show InR 0 by decide) (show InR 0 by decide) _ _ _ S10 (hl.sub (And.intro rfl (And.intro rfl (And.intro rfl (And.intro rfl (And.intro rfl (And.intro rfl True.intro))))))) h
    · have h := ite_f h q
      refine r_iconst E (Wt_partOf_dc.at 13 rfl) ?_
      cases h
      exact r_iret E S8 (show InR (-1) by decide) (Wt_partOf_dc.at 14 rfl)
theorem Wt_partOf_c (l : Launch) (G : zG) (fu : Nat) (top : Int) (L : zL) (M : zM) (a0 : Int) (a1 : Int) (a2 : Int) {res : Int} (ha0 : InR a0) (ha1 : InR a1) (ha2 : InR a2) (h : Wt_partOf fu L M a0 a1 a2 = some res) : Met l yX9_partOf (Cond.code yX9_partOf cX9_partOf 6 (some .int) :: zTB) (zrm 3 0 0) (va_Pc [zR G.2.2.1 a0, .int (zO a1), .int (zO a2)] (zPre G top L M)) (zQ G top L M (some (.int (zO res))) (InR res)) 0 0 (zA G) :=
  z_met (by decide +kernel) (by simp [zR_cat, zcat_I, zcat_S]) (Nat.le_of_ble_eq_true rfl) fun p e s m below meth c ls E hn S hl => Wt_partOf_w E ha0 ha1 ha2 S (hl.sub (And.intro rfl (And.intro rfl (And.intro rfl True.intro)))) h
end
theorem Lx_share_dc : zDL cX11_share [(0, .iload_n 3, 1, 1), (1, .ifCond .lt 31, 3, 4), (4, .iload_n 3, 1, 5), (5, .ldc 251, 2, 7), (7, .if_icmp .gt 25, 3, 10), (10, .aload_n 0, 1, 11), (11, .getfield 42, 3, 14), (14, .getfield 124, 3, 17), (17, .iload_n 2, 1, 18), (18, .invokevirtual 192, 3, 21), (21, .ifCond .eq 11, 3, 24), (24, .aload_n 0, 1, 25), (25, .iload_n 1, 1, 26), (26, .invokevirtual 226, 3, 29), (29, .ifCond .ne 5, 3, 32), (32, .iconst (-1), 1, 33), (33, .ireturn, 1, 34), (34, .aload_n 0, 1, 35), (35, .getfield 71, 3, 38), (38, .iload_n 2, 1, 39), (39, .iload_n 3, 1, 40), (40, .invokevirtual 252, 3, 43), (43, .ireturn, 1, 44)] := zDL.of (by decide +kernel)
section
variable {p : Program} {l : Launch} {e : Env} {s : State} {m : MethodId} {args : Array Value} {below : List Frame} {meth : Method} {c : Code} {G : zG} {top : Int} {L : zL} {fu : Nat}
theorem Lx_share_w (E : zEv p m c cX11_share 4 s args RX11 meth (some .int) G) {res : (zM × Int)} {M : zM} {a0 : Int} {a1 : Int} {a2 : Int} {a3 : Int} {H : Heap} {locs : List Loc} {ls : Array Slot} (ha0 : InR a0) (ha1 : InR a1) (ha2 : InR a2) (ha3 : InR a3) (S : zS G top L M s H locs) (hl : zLV ls 4 [some (zR G.2.2.1 a0), some (.int (zO a1)), some (.int (zO a2)), some (.int (zO a3))]) (h : Lx_share fu L M a0 a1 a2 a3 = some res) : W p l e (zrm 6 0 0) s m args below meth c H locs 0 0 (MQ below (zQ G top L res.1 (some (.int (zO res.2))) (InR res.2)) args s 0 0 (zA G)) (F0 m 0 ls []) := by
  unfold Lx_share at h
  refine u_il_n (x := a3) E (Lx_share_dc.at 0 rfl) hl rfl ?_
  refine r_if_lt (tgt := 32) E ha3 (Lx_share_dc.at 1 rfl) (by decide) (fun q => ?_) (fun q => ?_)
  · have h := ite_t h q
    refine r_iconst E (Lx_share_dc.at 15 rfl) ?_
    cases h
    exact r_iret E S (show InR (-1) by decide) (Lx_share_dc.at 16 rfl)
  · have h := ite_f h q
    refine u_il_n (x := a3) E (Lx_share_dc.at 2 rfl) hl rfl ?_
    refine r_ldc (n := 1000000) E (Lx_share_dc.at 3 rfl) zw_5_78 rfl ?_
    refine r_icmp_gt (tgt := 32) E ha3 (show InR 1000000 by decide) (Lx_share_dc.at 4 rfl) (by decide) (fun q => ?_) (fun q => ?_)
    · have h := ite_t h q
      refine r_iconst E (Lx_share_dc.at 15 rfl) ?_
      cases h
      exact r_iret E S (show InR (-1) by decide) (Lx_share_dc.at 16 rfl)
    · have h := ite_f h q
      refine u_al_n (x := a0) E (Lx_share_dc.at 5 rfl) hl rfl ?_
      obtain ⟨g1, h⟩ := ite_e h
      refine u_gR E zf_11_4 S g1 zw_2_136 (Lx_share_dc.at 6 rfl) ?_
      obtain ⟨g2, h⟩ := ite_e h
      refine u_gR E zf_1_0 S g2 zw_1_222 (Lx_share_dc.at 7 rfl) ?_
      refine u_il_n (x := a2) E (Lx_share_dc.at 8 rfl) hl rfl ?_
      obtain ⟨g3, h⟩ := ite_e h
      obtain ⟨r4, er4, h⟩ := bd1_e h
      refine u_cVI (As := [.int (zO a2)]) (rest := []) E S zcw_yX10_has zw_4_35 zw_4_36 zw_5_41 zck_10.1 rfl g3 (Wd_has_c l G fu top L M (M (M a0 4) 0) a2 (S.1.inR _ _) ha2 er4) (zrm_ok (by decide) (by decide)) ⟨Nat.le_refl 0, Nat.le_refl 0⟩ rfl (Nat.zero_le 8) hl.size rfl (Lx_share_dc.at 9 rfl) (fun H locs hr4 S5 => ?_)
      refine r_if_eq (tgt := 32) E (inR_01 hr4) (Lx_share_dc.at 10 rfl) (by decide) (fun q => ?_) (fun q => ?_)
      · have h := ite_t h q
        refine r_iconst E (Lx_share_dc.at 15 rfl) ?_
        cases h
        exact r_iret E S5 (show InR (-1) by decide) (Lx_share_dc.at 16 rfl)
      · have h := ite_f h q
        refine u_al_n (x := a0) E (Lx_share_dc.at 11 rfl) hl rfl ?_
        refine u_il_n (x := a1) E (Lx_share_dc.at 12 rfl) hl rfl ?_
        obtain ⟨M7, r6, er6, h⟩ := bd2_e h
        refine u_cVI (As := [.int (zO a1)]) (rest := []) E S5 zcw_yX11_waitFor zw_4_206 zq_2_13 zw_4_204 zck_11.1 rfl g1 (Lx_waitFor_c l G fu top L M a0 a1 ha0 ha1 er6) (zrm_ok (by decide) (by decide)) ⟨Nat.le_refl 0, Nat.le_refl 0⟩ rfl (Nat.zero_le 8) hl.size rfl (Lx_share_dc.at 13 rfl) (fun H locs hr6 S8 => ?_)
        refine r_if_ne (tgt := 34) E (inR_01 hr6) (Lx_share_dc.at 14 rfl) (by decide) (fun q => ?_) (fun q => ?_)
        · have h := ite_t h q
          refine r_iconst E (Lx_share_dc.at 15 rfl) ?_
          cases h
          exact r_iret E S8 (show InR (-1) by decide) (Lx_share_dc.at 16 rfl)
        · have h := ite_f h q
          refine u_al_n (x := a0) E (Lx_share_dc.at 17 rfl) hl rfl ?_
          refine u_gR E zf_11_8 S8 g1 zw_2_140 (Lx_share_dc.at 18 rfl) ?_
          refine u_il_n (x := a2) E (Lx_share_dc.at 19 rfl) hl rfl ?_
          refine u_il_n (x := a3) E (Lx_share_dc.at 20 rfl) hl rfl ?_
          obtain ⟨g9, h⟩ := ite_e h
          obtain ⟨r10, er10, h⟩ := bd1_e h
          refine u_cVI (As := [.int (zO a2), .int (zO a3)]) (rest := []) E S8 zcw_yX9_partOf zw_5_80 zw_5_81 zw_5_79 zck_9.1 rfl g9 (Wt_partOf_c l G fu top L M7 (M7 a0 8) a2 a3 (S8.1.inR _ _) ha2 ha3 er10) (zrm_ok (by decide) (by decide)) ⟨Nat.le_refl 0, Nat.le_refl 0⟩ rfl (Nat.zero_le 8) hl.size rfl (Lx_share_dc.at 21 rfl) (fun H locs hr10 S11 => ?_)
          cases h
          exact r_iret E S11 hr10 (Lx_share_dc.at 22 rfl)
theorem Lx_share_c (l : Launch) (G : zG) (fu : Nat) (top : Int) (L : zL) (M : zM) (a0 : Int) (a1 : Int) (a2 : Int) (a3 : Int) {res : (zM × Int)} (ha0 : InR a0) (ha1 : InR a1) (ha2 : InR a2) (ha3 : InR a3) (h : Lx_share fu L M a0 a1 a2 a3 = some res) : Met l yX11_share (Cond.code yX11_share cX11_share 4 (some .int) :: zTB) (zrm 6 0 0) (va_Pc [zR G.2.2.1 a0, .int (zO a1), .int (zO a2), .int (zO a3)] (zPre G top L M)) (zQ G top L res.1 (some (.int (zO res.2))) (InR res.2)) 0 0 (zA G) :=
  z_met (by decide +kernel) (by simp [zR_cat, zcat_I, zcat_S]) (Nat.le_of_ble_eq_true rfl) fun p e s m below meth c ls E hn S hl => Lx_share_w E ha0 ha1 ha2 ha3 S (hl.sub (And.intro rfl (And.intro rfl (And.intro rfl (And.intro rfl True.intro))))) h
end
theorem Wd_startOf_dc : zDL cX10_startOf [(0, .aload_n 0, 1, 1), (1, .invokevirtual 36, 3, 4), (4, .iconst 0, 1, 5), (5, .istore_n 2, 1, 6), (6, .iload_n 2, 1, 7), (7, .aload_n 1, 1, 8), (8, .getfield 21, 3, 11), (11, .if_icmp .ge 24, 3, 14), (14, .aload_n 0, 1, 15), (15, .aload_n 1, 1, 16), (16, .iload_n 2, 1, 17), (17, .invokevirtual 39, 3, 20), (20, .ineg, 1, 21), (21, .aload_n 1, 1, 22), (22, .iload_n 2, 1, 23), (23, .invokevirtual 43, 3, 26), (26, .invokevirtual 46, 3, 29), (29, .iinc 2 1, 3, 32), (32, .goto (-26), 3, 35), (35, .return_, 1, 36)] := zDL.of (by decide +kernel)
section
variable {p : Program} {l : Launch} {e : Env} {s : State} {m : MethodId} {args : Array Value} {below : List Frame} {meth : Method} {c : Code} {G : zG} {top : Int} {L : zL} {fu : Nat}
theorem Wd_startOf_s6_w (E : zEv p m c cX10_startOf 3 s args RX10 meth none G) {res : zM} {k6 : zM → Int → Int → Int → Option zM} (hk6 : ∀ (M : zM) (x0 : Int) (x1 : Int) (x2 : Int), InR x0 → InR x1 → InR x2 → ∀ (H : Heap) (locs : List Loc) (ls : Array Slot), zS G top L M s H locs → zLV ls 3 [some (zR G.2.2.1 x0), some (zR G.2.2.1 x1), some (.int (zO x2))] → k6 M x0 x1 x2 = some res → W p l e (zrm 3 0 0) s m args below meth c H locs 0 0 (MQ below (zQ G top L res none True) args s 0 0 (zA G)) (F0 m 6 ls [])) {M : zM} {x0 : Int} {x1 : Int} {x2 : Int} {H : Heap} {locs : List Loc} {ls : Array Slot} (hx0 : InR x0) (hx1 : InR x1) (hx2 : InR x2) (S : zS G top L M s H locs) (hl : zLV ls 3 [some (zR G.2.2.1 x0), some (zR G.2.2.1 x1), some (.int (zO x2))]) (h : Wd_startOf_s6 fu k6 L M x0 x1 x2 = some res) : W p l e (zrm 3 0 0) s m args below meth c H locs 0 0 (MQ below (zQ G top L res none True) args s 0 0 (zA G)) (F0 m 6 ls []) := by
  unfold Wd_startOf_s6 at h
  refine u_il_n (x := x2) E (Wd_startOf_dc.at 4 rfl) hl rfl ?_
  refine u_al_n (x := x1) E (Wd_startOf_dc.at 5 rfl) hl rfl ?_
  obtain ⟨g4, h⟩ := ite_e h
  refine u_gI E zf_10_3 S g4 zw_1_193 (Wd_startOf_dc.at 6 rfl) ?_
  refine r_icmp_ge (tgt := 35) E hx2 (S.1.inR _ _) (Wd_startOf_dc.at 7 rfl) (by decide) (fun q => ?_) (fun q => ?_)
  · have h := ite_t h q
    refine u_al_n (x := x0) E (Wd_startOf_dc.at 8 rfl) hl rfl ?_
    refine u_al_n (x := x1) E (Wd_startOf_dc.at 9 rfl) hl rfl ?_
    refine u_il_n (x := x2) E (Wd_startOf_dc.at 10 rfl) hl rfl ?_
    obtain ⟨r5, er5, h⟩ := bd1_e h
    refine u_cVI (As := [.int (zO x2)]) (rest := [zR G.2.2.1 x0]) E S zcw_yX10_bornIn zw_4_19 zw_4_20 zw_4_18 zck_10.1 rfl g4 (Wd_bornIn_c l G fu top L M x1 x2 hx1 hx2 er5) (zrm_ok (by decide) (by decide)) ⟨Nat.le_refl 0, Nat.le_refl 0⟩ rfl (by simp [zR_cat, zcat_I, zcat_J, zcat_S]) hl.size rfl (Wd_startOf_dc.at 11 rfl) (fun H locs hr5 S6 => ?_)
    refine r_ineg E (Wd_startOf_dc.at 12 rfl) ?_
    refine u_al_n (x := x1) E (Wd_startOf_dc.at 13 rfl) hl rfl ?_
    refine u_il_n (x := x2) E (Wd_startOf_dc.at 14 rfl) hl rfl ?_
    obtain ⟨r7, er7, h⟩ := bd1_e h
    refine u_cVI (As := [.int (zO x2)]) (rest := [.int (zO (w32 (-r5))), zR G.2.2.1 x0]) E S6 zcw_yX10_parentOf zw_4_23 zw_4_24 zw_4_22 zck_10.1 rfl g4 (Wd_parentOf_c l G fu top L M x1 x2 hx1 hx2 er7) (zrm_ok (by decide) (by decide)) ⟨Nat.le_refl 0, Nat.le_refl 0⟩ rfl (by simp [zR_cat, zcat_I, zcat_J, zcat_S]) hl.size rfl (Wd_startOf_dc.at 15 rfl) (fun H locs hr7 S8 => ?_)
    obtain ⟨g9, h⟩ := ite_e h
    obtain ⟨M10, eM10, h⟩ := bd1_e h
    refine u_cVU (As := [.int (zO (w32 (-r5))), .int (zO r7)]) (rest := []) E S8 zcw_yX10_addLife zw_3_217 zw_3_218 zw_5_95 zck_10.1 rfl g9 (Wd_addLife_c l G fu top L M x0 (w32 (-r5)) r7 hx0 (inR_w32 _) hr7 eM10) (zrm_ok (by decide) (by decide)) ⟨Nat.le_refl 0, Nat.le_refl 0⟩ rfl (Nat.zero_le 8) hl.size rfl (Wd_startOf_dc.at 16 rfl) (fun H locs _ S11 => ?_)
    obtain ⟨v12, ev12, h⟩ := lt1_e h
    have hv12 := inR_eq ev12 (inR_w32 _)
    refine u_iinc (y := v12) (vs' := [some (zR G.2.2.1 x0), some (zR G.2.2.1 x1), some (.int (zO v12))]) E ev12 (Wd_startOf_dc.at 17 rfl) hl rfl (by decide) rfl (fun ls hl => ?_)
    refine r_goto (tgt := 6) E (Wd_startOf_dc.at 18 rfl) (by decide) ?_
    exact hk6 _ x0 x1 v12 hx0 hx1 hv12 _ _ _ S11 (hl.sub (And.intro rfl (And.intro rfl (And.intro rfl True.intro)))) h
  · have h := ite_f h q
    cases h
    exact r_vret E S True.intro (Wd_startOf_dc.at 19 rfl)
theorem Wd_startOf_l6_w (E : zEv p m c cX10_startOf 3 s args RX10 meth none G) {res : zM} : ∀ (n : Nat) (M : zM) (x0 : Int) (x1 : Int) (x2 : Int), InR x0 → InR x1 → InR x2 → ∀ (H : Heap) (locs : List Loc) (ls : Array Slot), zS G top L M s H locs → zLV ls 3 [some (zR G.2.2.1 x0), some (zR G.2.2.1 x1), some (.int (zO x2))] → Wd_startOf_l6 fu L n M x0 x1 x2 = some res → W p l e (zrm 3 0 0) s m args below meth c H locs 0 0 (MQ below (zQ G top L res none True) args s 0 0 (zA G)) (F0 m 6 ls [])
  | 0, _, _, _, _ => fun _ _ _ _ _ _ _ _ h => (by cases h)
  | n + 1, M, x0, x1, x2 => fun hx0 hx1 hx2 H locs ls S hl h => Wd_startOf_s6_w E (fun M x0 x1 x2 hx0 hx1 hx2 H locs ls S hl h => Wd_startOf_l6_w E n M x0 x1 x2 hx0 hx1 hx2 H locs ls S hl h) hx0 hx1 hx2 S hl h
theorem Wd_startOf_w (E : zEv p m c cX10_startOf 3 s args RX10 meth none G) {res : zM} {M : zM} {a0 : Int} {a1 : Int} {H : Heap} {locs : List Loc} {ls : Array Slot} (ha0 : InR a0) (ha1 : InR a1) (S : zS G top L M s H locs) (hl : zLV ls 3 [some (zR G.2.2.1 a0), some (zR G.2.2.1 a1), none]) (h : Wd_startOf fu L M a0 a1 = some res) : W p l e (zrm 3 0 0) s m args below meth c H locs 0 0 (MQ below (zQ G top L res none True) args s 0 0 (zA G)) (F0 m 0 ls []) := by
  unfold Wd_startOf at h
  refine u_al_n (x := a0) E (Wd_startOf_dc.at 0 rfl) hl rfl ?_
  obtain ⟨g1, h⟩ := ite_e h
  obtain ⟨M2, eM2, h⟩ := bd1_e h
  refine u_cVU (As := []) (rest := []) E S zcw_yX10_clear zw_3_213 zw_3_214 zw_4_17 zck_10.1 rfl g1 (Wd_clear_c l G fu top L M a0 ha0 eM2) (zrm_ok (by decide) (by decide)) ⟨Nat.le_refl 0, Nat.le_refl 0⟩ rfl (Nat.zero_le 8) hl.size rfl (Wd_startOf_dc.at 1 rfl) (fun H locs _ S3 => ?_)
  refine r_iconst E (Wd_startOf_dc.at 2 rfl) ?_
  refine u_ist_n (y := 0) (vs' := [some (zR G.2.2.1 a0), some (zR G.2.2.1 a1), some (.int (zO 0))]) E rfl (Wd_startOf_dc.at 3 rfl) hl (by decide) rfl (fun ls hl => ?_)
  exact Wd_startOf_l6_w E fu _ a0 a1 0 ha0 ha1 (show InR 0 by decide) _ _ _ S3 (hl.sub (And.intro rfl (And.intro rfl (And.intro rfl True.intro)))) h
theorem Wd_startOf_c (l : Launch) (G : zG) (fu : Nat) (top : Int) (L : zL) (M : zM) (a0 : Int) (a1 : Int) {res : zM} (ha0 : InR a0) (ha1 : InR a1) (h : Wd_startOf fu L M a0 a1 = some res) : Met l yX10_startOf (Cond.code yX10_startOf cX10_startOf 3 none :: zTB) (zrm 3 0 0) (va_Pc [zR G.2.2.1 a0, zR G.2.2.1 a1] (zPre G top L M)) (zQ G top L res none True) 0 0 (zA G) :=
  z_met (by decide +kernel) (by simp [zR_cat, zcat_I, zcat_S]) (Nat.le_of_ble_eq_true rfl) fun p e s m below meth c ls E hn S hl => Wd_startOf_w E ha0 ha1 S (hl.sub (And.intro rfl (And.intro rfl True.intro))) h
end
theorem Sr_happen_dc : zDL cX6_happen [(0, .iload_n 2, 1, 1), (1, .ifCond .ne 10, 3, 4), (4, .aload_n 1, 1, 5), (5, .iload_n 3, 1, 6), (6, .putfield 94, 3, 9), (9, .iconst 1, 1, 10), (10, .ireturn, 1, 11), (11, .iload_n 2, 1, 12), (12, .iconst 1, 1, 13), (13, .if_icmp .ne 21, 3, 16), (16, .aload_n 1, 1, 17), (17, .iload_n 3, 1, 18), (18, .invokevirtual 97, 3, 21), (21, .iconst (-1), 1, 22), (22, .if_icmp .eq 5, 3, 25), (25, .iconst 0, 1, 26), (26, .ireturn, 1, 27), (27, .aload_n 1, 1, 28), (28, .iload_n 3, 1, 29), (29, .invokevirtual 101, 3, 32), (32, .iconst 1, 1, 33), (33, .ireturn, 1, 34), (34, .aload_n 1, 1, 35), (35, .iload_n 3, 1, 36), (36, .invokevirtual 105, 3, 39), (39, .iconst (-1), 1, 40), (40, .if_icmp .eq 5, 3, 43), (43, .iconst 0, 1, 44), (44, .ireturn, 1, 45), (45, .aload_n 1, 1, 46), (46, .aload_n 1, 1, 47), (47, .getfield 94, 3, 50), (50, .iload_n 3, 1, 51), (51, .invokevirtual 108, 3, 54), (54, .iconst 1, 1, 55), (55, .ireturn, 1, 56)] := zDL.of (by decide +kernel)
section
variable {p : Program} {l : Launch} {e : Env} {s : State} {m : MethodId} {args : Array Value} {below : List Frame} {meth : Method} {c : Code} {G : zG} {top : Int} {L : zL} {fu : Nat}
theorem Sr_happen_w (E : zEv p m c cX6_happen 4 s args RX6 meth (some .boolean) G) {res : (zM × Int)} {M : zM} {a0 : Int} {a1 : Int} {a2 : Int} {a3 : Int} {H : Heap} {locs : List Loc} {ls : Array Slot} (ha0 : InR a0) (ha1 : InR a1) (ha2 : InR a2) (ha3 : InR a3) (S : zS G top L M s H locs) (hl : zLV ls 4 [some (zR G.2.2.1 a0), some (zR G.2.2.1 a1), some (.int (zO a2)), some (.int (zO a3))]) (h : Sr_happen fu L M a0 a1 a2 a3 = some res) : W p l e (zrm 4 0 0) s m args below meth c H locs 0 0 (MQ below (zQ G top L res.1 (some (.int (zO res.2))) (0 ≤ res.2 ∧ res.2 ≤ 1)) args s 0 0 (zA G)) (F0 m 0 ls []) := by
  unfold Sr_happen at h
  refine u_il_n (x := a2) E (Sr_happen_dc.at 0 rfl) hl rfl ?_
  refine r_if_ne (tgt := 11) E ha2 (Sr_happen_dc.at 1 rfl) (by decide) (fun q => ?_) (fun q => ?_)
  · have h := ite_t h q
    refine u_al_n (x := a1) E (Sr_happen_dc.at 2 rfl) hl rfl ?_
    refine u_il_n (x := a3) E (Sr_happen_dc.at 3 rfl) hl rfl ?_
    obtain ⟨g1, h⟩ := ite_e h
    obtain ⟨M2, eM2, h⟩ := lt1_e h
    refine u_pI E eM2 zf_10_5 S g1 ha3 (Or.inl rfl) rfl zw_1_203 (Sr_happen_dc.at 4 rfl) (fun H locs S3 => ?_)
    refine r_iconst E (Sr_happen_dc.at 5 rfl) ?_
    cases h
    exact r_zret E S3 z01_1 z01_1 (Sr_happen_dc.at 6 rfl)
  · have h := ite_f h q
    refine u_il_n (x := a2) E (Sr_happen_dc.at 7 rfl) hl rfl ?_
    refine r_iconst E (Sr_happen_dc.at 8 rfl) ?_
    refine r_icmp_ne (tgt := 34) E ha2 (show InR 1 by decide) (Sr_happen_dc.at 9 rfl) (by decide) (fun q => ?_) (fun q => ?_)
    · have h := ite_t h q
      refine u_al_n (x := a1) E (Sr_happen_dc.at 10 rfl) hl rfl ?_
      refine u_il_n (x := a3) E (Sr_happen_dc.at 11 rfl) hl rfl ?_
      obtain ⟨g4, h⟩ := ite_e h
      obtain ⟨r5, er5, h⟩ := bd1_e h
      refine u_cVI (As := [.int (zO a3)]) (rest := []) E S zcw_yX10_whyNoDeath zw_4_155 zw_4_156 zw_5_100 zck_10.1 rfl g4 (Wd_whyNoDeath_c l G fu top L M a1 a3 ha1 ha3 er5) (zrm_ok (by decide) (by decide)) ⟨Nat.le_refl 0, Nat.le_refl 0⟩ rfl (Nat.zero_le 8) hl.size rfl (Sr_happen_dc.at 12 rfl) (fun H locs hr5 S6 => ?_)
      refine r_iconst E (Sr_happen_dc.at 13 rfl) ?_
      refine r_icmp_eq (tgt := 27) E hr5 (show InR (-1) by decide) (Sr_happen_dc.at 14 rfl) (by decide) (fun q => ?_) (fun q => ?_)
      · have h := ite_t h q
        refine u_al_n (x := a1) E (Sr_happen_dc.at 17 rfl) hl rfl ?_
        refine u_il_n (x := a3) E (Sr_happen_dc.at 18 rfl) hl rfl ?_
        obtain ⟨M7, eM7, h⟩ := bd1_e h
        refine u_cVU (As := [.int (zO a3)]) (rest := []) E S6 zcw_yX10_bury zw_4_159 zw_4_160 zw_5_101 zck_10.1 rfl g4 (Wd_bury_c l G fu top L M a1 a3 ha1 ha3 eM7) (zrm_ok (by decide) (by decide)) ⟨Nat.le_refl 0, Nat.le_refl 0⟩ rfl (Nat.zero_le 8) hl.size rfl (Sr_happen_dc.at 19 rfl) (fun H locs _ S8 => ?_)
        refine r_iconst E (Sr_happen_dc.at 20 rfl) ?_
        cases h
        exact r_zret E S8 z01_1 z01_1 (Sr_happen_dc.at 21 rfl)
      · have h := ite_f h q
        refine r_iconst E (Sr_happen_dc.at 15 rfl) ?_
        cases h
        exact r_zret E S6 z01_0 z01_0 (Sr_happen_dc.at 16 rfl)
    · have h := ite_f h q
      refine u_al_n (x := a1) E (Sr_happen_dc.at 22 rfl) hl rfl ?_
      refine u_il_n (x := a3) E (Sr_happen_dc.at 23 rfl) hl rfl ?_
      obtain ⟨g9, h⟩ := ite_e h
      obtain ⟨r10, er10, h⟩ := bd1_e h
      refine u_cVI (As := [.int (zO a3)]) (rest := []) E S zcw_yX10_whyNoBirth zw_4_142 zw_4_143 zw_5_102 zck_10.1 rfl g9 (Wd_whyNoBirth_c l G fu top L M a1 a3 ha1 ha3 er10) (zrm_ok (by decide) (by decide)) ⟨Nat.le_refl 0, Nat.le_refl 0⟩ rfl (Nat.zero_le 8) hl.size rfl (Sr_happen_dc.at 24 rfl) (fun H locs hr10 S11 => ?_)
      refine r_iconst E (Sr_happen_dc.at 25 rfl) ?_
      refine r_icmp_eq (tgt := 45) E hr10 (show InR (-1) by decide) (Sr_happen_dc.at 26 rfl) (by decide) (fun q => ?_) (fun q => ?_)
      · have h := ite_t h q
        refine u_al_n (x := a1) E (Sr_happen_dc.at 29 rfl) hl rfl ?_
        refine u_al_n (x := a1) E (Sr_happen_dc.at 30 rfl) hl rfl ?_
        refine u_gI E zf_10_5 S11 g9 zw_1_203 (Sr_happen_dc.at 31 rfl) ?_
        refine u_il_n (x := a3) E (Sr_happen_dc.at 32 rfl) hl rfl ?_
        obtain ⟨M12, eM12, h⟩ := bd1_e h
        refine u_cVU (As := [.int (zO (M a1 5)), .int (zO a3)]) (rest := []) E S11 zcw_yX10_add zw_3_221 zw_3_222 zw_5_103 zck_10.1 rfl g9 (Wd_add_c l G fu top L M a1 (M a1 5) a3 ha1 (S11.1.inR _ _) ha3 eM12) (zrm_ok (by decide) (by decide)) ⟨Nat.le_refl 0, Nat.le_refl 0⟩ rfl (Nat.zero_le 8) hl.size rfl (Sr_happen_dc.at 33 rfl) (fun H locs _ S13 => ?_)
        refine r_iconst E (Sr_happen_dc.at 34 rfl) ?_
        cases h
        exact r_zret E S13 z01_1 z01_1 (Sr_happen_dc.at 35 rfl)
      · have h := ite_f h q
        refine r_iconst E (Sr_happen_dc.at 27 rfl) ?_
        cases h
        exact r_zret E S11 z01_0 z01_0 (Sr_happen_dc.at 28 rfl)
theorem Sr_happen_c (l : Launch) (G : zG) (fu : Nat) (top : Int) (L : zL) (M : zM) (a0 : Int) (a1 : Int) (a2 : Int) (a3 : Int) {res : (zM × Int)} (ha0 : InR a0) (ha1 : InR a1) (ha2 : InR a2) (ha3 : InR a3) (h : Sr_happen fu L M a0 a1 a2 a3 = some res) : Met l yX6_happen (Cond.code yX6_happen cX6_happen 4 (some .boolean) :: zTB) (zrm 4 0 0) (va_Pc [zR G.2.2.1 a0, zR G.2.2.1 a1, .int (zO a2), .int (zO a3)] (zPre G top L M)) (zQ G top L res.1 (some (.int (zO res.2))) (0 ≤ res.2 ∧ res.2 ≤ 1)) 0 0 (zA G) :=
  z_met (by decide +kernel) (by simp [zR_cat, zcat_I, zcat_S]) (Nat.le_of_ble_eq_true rfl) fun p e s m below meth c ls E hn S hl => Sr_happen_w E ha0 ha1 ha2 ha3 S (hl.sub (And.intro rfl (And.intro rfl (And.intro rfl (And.intro rfl True.intro))))) h
end
theorem Sr_play_dc : zDL cX6_play [(0, .aload_n 2, 1, 1), (1, .aload_n 1, 1, 2), (2, .invokevirtual 84, 3, 5), (5, .iconst 0, 1, 6), (6, .istore_n 3, 1, 7), (7, .iload_n 3, 1, 8), (8, .aload_n 0, 1, 9), (9, .getfield 22, 3, 12), (12, .if_icmp .ge 49, 3, 15), (15, .iload_n 3, 1, 16), (16, .aload_n 0, 1, 17), (17, .getfield 9, 3, 20), (20, .arraylength, 1, 21), (21, .if_icmp .ge 40, 3, 24), (24, .iload_n 3, 1, 25), (25, .aload_n 0, 1, 26), (26, .getfield 15, 3, 29), (29, .arraylength, 1, 30), (30, .if_icmp .ge 31, 3, 33), (33, .aload_n 0, 1, 34), (34, .aload_n 2, 1, 35), (35, .aload_n 0, 1, 36), (36, .getfield 9, 3, 39), (39, .iload_n 3, 1, 40), (40, .iaload, 1, 41), (41, .aload_n 0, 1, 42), (42, .getfield 15, 3, 45), (45, .iload_n 3, 1, 46), (46, .iaload, 1, 47), (47, .invokevirtual 90, 3, 50), (50, .ifCond .ne 5, 3, 53), (53, .iload_n 3, 1, 54), (54, .ireturn, 1, 55), (55, .iinc 3 1, 3, 58), (58, .goto (-51), 3, 61), (61, .aload_n 0, 1, 62), (62, .getfield 22, 3, 65), (65, .ireturn, 1, 66)] := zDL.of (by decide +kernel)
section
variable {p : Program} {l : Launch} {e : Env} {s : State} {m : MethodId} {args : Array Value} {below : List Frame} {meth : Method} {c : Code} {G : zG} {top : Int} {L : zL} {fu : Nat}
theorem Sr_play_s7_w (E : zEv p m c cX6_play 4 s args RX6 meth (some .int) G) {res : (zM × Int)} {k7 : zM → Int → Int → Int → Option (zM × Int)} (hk7 : ∀ (M : zM) (x0 : Int) (x2 : Int) (x3 : Int), InR x0 → InR x2 → InR x3 → ∀ (H : Heap) (locs : List Loc) (ls : Array Slot), zS G top L M s H locs → zLV ls 4 [some (zR G.2.2.1 x0), none, some (zR G.2.2.1 x2), some (.int (zO x3))] → k7 M x0 x2 x3 = some res → W p l e (zrm 5 0 0) s m args below meth c H locs 0 0 (MQ below (zQ G top L res.1 (some (.int (zO res.2))) (InR res.2)) args s 0 0 (zA G)) (F0 m 7 ls [])) {M : zM} {x0 : Int} {x2 : Int} {x3 : Int} {H : Heap} {locs : List Loc} {ls : Array Slot} (hx0 : InR x0) (hx2 : InR x2) (hx3 : InR x3) (S : zS G top L M s H locs) (hl : zLV ls 4 [some (zR G.2.2.1 x0), none, some (zR G.2.2.1 x2), some (.int (zO x3))]) (h : Sr_play_s7 fu k7 L M x0 x2 x3 = some res) : W p l e (zrm 5 0 0) s m args below meth c H locs 0 0 (MQ below (zQ G top L res.1 (some (.int (zO res.2))) (InR res.2)) args s 0 0 (zA G)) (F0 m 7 ls []) := by
  unfold Sr_play_s7 at h
  refine u_il_n (x := x3) E (Sr_play_dc.at 5 rfl) hl rfl ?_
  refine u_al_n (x := x0) E (Sr_play_dc.at 6 rfl) hl rfl ?_
  obtain ⟨g4, h⟩ := ite_e h
  refine u_gI E zf_6_3 S g4 zw_1_164 (Sr_play_dc.at 7 rfl) ?_
  refine r_icmp_ge (tgt := 61) E hx3 (S.1.inR _ _) (Sr_play_dc.at 8 rfl) (by decide) (fun q => ?_) (fun q => ?_)
  · have h := ite_t h q
    refine u_il_n (x := x3) E (Sr_play_dc.at 9 rfl) hl rfl ?_
    refine u_al_n (x := x0) E (Sr_play_dc.at 10 rfl) hl rfl ?_
    refine u_gR E zf_6_1 S g4 zw_1_162 (Sr_play_dc.at 11 rfl) ?_
    obtain ⟨g5, h⟩ := ite_e h
    refine r_alen E S g5 (by decide) (Sr_play_dc.at 12 rfl) ?_
    refine r_icmp_ge (tgt := 61) E hx3 (S.1.lenR _) (Sr_play_dc.at 13 rfl) (by decide) (fun q => ?_) (fun q => ?_)
    · have h := ite_t h q
      refine u_il_n (x := x3) E (Sr_play_dc.at 14 rfl) hl rfl ?_
      refine u_al_n (x := x0) E (Sr_play_dc.at 15 rfl) hl rfl ?_
      refine u_gR E zf_6_2 S g4 zw_1_163 (Sr_play_dc.at 16 rfl) ?_
      obtain ⟨g6, h⟩ := ite_e h
      refine r_alen E S g6 (by decide) (Sr_play_dc.at 17 rfl) ?_
      refine r_icmp_ge (tgt := 61) E hx3 (S.1.lenR _) (Sr_play_dc.at 18 rfl) (by decide) (fun q => ?_) (fun q => ?_)
      · have h := ite_t h q
        refine u_al_n (x := x0) E (Sr_play_dc.at 19 rfl) hl rfl ?_
        refine u_al_n (x := x2) E (Sr_play_dc.at 20 rfl) hl rfl ?_
        refine u_al_n (x := x0) E (Sr_play_dc.at 21 rfl) hl rfl ?_
        refine u_gR E zf_6_1 S g4 zw_1_162 (Sr_play_dc.at 22 rfl) ?_
        refine u_il_n (x := x3) E (Sr_play_dc.at 23 rfl) hl rfl ?_
        obtain ⟨g7, h⟩ := ite_e h
        refine r_iald E S g5 g7 (Sr_play_dc.at 24 rfl) ?_
        refine u_al_n (x := x0) E (Sr_play_dc.at 25 rfl) hl rfl ?_
        refine u_gR E zf_6_2 S g4 zw_1_163 (Sr_play_dc.at 26 rfl) ?_
        refine u_il_n (x := x3) E (Sr_play_dc.at 27 rfl) hl rfl ?_
        obtain ⟨g8, h⟩ := ite_e h
        refine r_iald E S g6 g8 (Sr_play_dc.at 28 rfl) ?_
        obtain ⟨M10, r9, er9, h⟩ := bd2_e h
        refine u_cVI (As := [zR G.2.2.1 x2, .int (zO (M (M x0 1) x3)), .int (zO (M (M x0 2) x3))]) (rest := []) E S zcw_yX6_happen zw_5_98 zq_3_1 zw_5_96 zck_6.1 rfl g4 (Sr_happen_c l G fu top L M x0 x2 (M (M x0 1) x3) (M (M x0 2) x3) hx0 hx2 (S.1.inR _ _) (S.1.inR _ _) er9) (zrm_ok (by decide) (by decide)) ⟨Nat.le_refl 0, Nat.le_refl 0⟩ rfl (Nat.zero_le 8) hl.size rfl (Sr_play_dc.at 29 rfl) (fun H locs hr9 S11 => ?_)
        refine r_if_ne (tgt := 55) E (inR_01 hr9) (Sr_play_dc.at 30 rfl) (by decide) (fun q => ?_) (fun q => ?_)
        · have h := ite_t h q
          refine u_il_n (x := x3) E (Sr_play_dc.at 31 rfl) hl rfl ?_
          cases h
          exact r_iret E S11 hx3 (Sr_play_dc.at 32 rfl)
        · have h := ite_f h q
          obtain ⟨v12, ev12, h⟩ := lt1_e h
          have hv12 := inR_eq ev12 (inR_w32 _)
          refine u_iinc (y := v12) (vs' := [some (zR G.2.2.1 x0), none, some (zR G.2.2.1 x2), some (.int (zO v12))]) E ev12 (Sr_play_dc.at 33 rfl) hl rfl (by decide) rfl (fun ls hl => ?_)
          refine r_goto (tgt := 7) E (Sr_play_dc.at 34 rfl) (by decide) ?_
          exact hk7 _ x0 x2 v12 hx0 hx2 hv12 _ _ _ S11 (hl.sub (And.intro rfl (And.intro rfl (And.intro rfl True.intro)))) h
      · have h := ite_f h q
        refine u_al_n (x := x0) E (Sr_play_dc.at 35 rfl) hl rfl ?_
        refine u_gI E zf_6_3 S g4 zw_1_164 (Sr_play_dc.at 36 rfl) ?_
        cases h
        exact r_iret E S (S.1.inR _ _) (Sr_play_dc.at 37 rfl)
    · have h := ite_f h q
      refine u_al_n (x := x0) E (Sr_play_dc.at 35 rfl) hl rfl ?_
      refine u_gI E zf_6_3 S g4 zw_1_164 (Sr_play_dc.at 36 rfl) ?_
      cases h
      exact r_iret E S (S.1.inR _ _) (Sr_play_dc.at 37 rfl)
  · have h := ite_f h q
    refine u_al_n (x := x0) E (Sr_play_dc.at 35 rfl) hl rfl ?_
    refine u_gI E zf_6_3 S g4 zw_1_164 (Sr_play_dc.at 36 rfl) ?_
    cases h
    exact r_iret E S (S.1.inR _ _) (Sr_play_dc.at 37 rfl)
theorem Sr_play_l7_w (E : zEv p m c cX6_play 4 s args RX6 meth (some .int) G) {res : (zM × Int)} : ∀ (n : Nat) (M : zM) (x0 : Int) (x2 : Int) (x3 : Int), InR x0 → InR x2 → InR x3 → ∀ (H : Heap) (locs : List Loc) (ls : Array Slot), zS G top L M s H locs → zLV ls 4 [some (zR G.2.2.1 x0), none, some (zR G.2.2.1 x2), some (.int (zO x3))] → Sr_play_l7 fu L n M x0 x2 x3 = some res → W p l e (zrm 5 0 0) s m args below meth c H locs 0 0 (MQ below (zQ G top L res.1 (some (.int (zO res.2))) (InR res.2)) args s 0 0 (zA G)) (F0 m 7 ls [])
  | 0, _, _, _, _ => fun _ _ _ _ _ _ _ _ h => (by cases h)
  | n + 1, M, x0, x2, x3 => fun hx0 hx2 hx3 H locs ls S hl h => Sr_play_s7_w E (fun M x0 x2 x3 hx0 hx2 hx3 H locs ls S hl h => Sr_play_l7_w E n M x0 x2 x3 hx0 hx2 hx3 H locs ls S hl h) hx0 hx2 hx3 S hl h
theorem Sr_play_w (E : zEv p m c cX6_play 4 s args RX6 meth (some .int) G) {res : (zM × Int)} {M : zM} {a0 : Int} {a1 : Int} {a2 : Int} {H : Heap} {locs : List Loc} {ls : Array Slot} (ha0 : InR a0) (ha1 : InR a1) (ha2 : InR a2) (S : zS G top L M s H locs) (hl : zLV ls 4 [some (zR G.2.2.1 a0), some (zR G.2.2.1 a1), some (zR G.2.2.1 a2), none]) (h : Sr_play fu L M a0 a1 a2 = some res) : W p l e (zrm 5 0 0) s m args below meth c H locs 0 0 (MQ below (zQ G top L res.1 (some (.int (zO res.2))) (InR res.2)) args s 0 0 (zA G)) (F0 m 0 ls []) := by
  unfold Sr_play at h
  refine u_al_n (x := a2) E (Sr_play_dc.at 0 rfl) hl rfl ?_
  refine u_al_n (x := a1) E (Sr_play_dc.at 1 rfl) hl rfl ?_
  obtain ⟨g1, h⟩ := ite_e h
  obtain ⟨M2, eM2, h⟩ := bd1_e h
  refine u_cVU (As := [zR G.2.2.1 a1]) (rest := []) E S zcw_yX10_startOf zw_5_92 zw_5_93 zw_5_91 zck_10.1 rfl g1 (Wd_startOf_c l G fu top L M a2 a1 ha2 ha1 eM2) (zrm_ok (by decide) (by decide)) ⟨Nat.le_refl 0, Nat.le_refl 0⟩ rfl (Nat.zero_le 8) hl.size rfl (Sr_play_dc.at 2 rfl) (fun H locs _ S3 => ?_)
  refine r_iconst E (Sr_play_dc.at 3 rfl) ?_
  refine u_ist_n (y := 0) (vs' := [some (zR G.2.2.1 a0), some (zR G.2.2.1 a1), some (zR G.2.2.1 a2), some (.int (zO 0))]) E rfl (Sr_play_dc.at 4 rfl) hl (by decide) rfl (fun ls hl => ?_)
  exact Sr_play_l7_w E fu _ a0 a2 0 ha0 ha2 (show InR 0 by decide) _ _ _ S3 (hl.sub (And.intro rfl (And.intro rfl (And.intro rfl True.intro)))) h
theorem Sr_play_c (l : Launch) (G : zG) (fu : Nat) (top : Int) (L : zL) (M : zM) (a0 : Int) (a1 : Int) (a2 : Int) {res : (zM × Int)} (ha0 : InR a0) (ha1 : InR a1) (ha2 : InR a2) (h : Sr_play fu L M a0 a1 a2 = some res) : Met l yX6_play (Cond.code yX6_play cX6_play 4 (some .int) :: zTB) (zrm 5 0 0) (va_Pc [zR G.2.2.1 a0, zR G.2.2.1 a1, zR G.2.2.1 a2] (zPre G top L M)) (zQ G top L res.1 (some (.int (zO res.2))) (InR res.2)) 0 0 (zA G) :=
  z_met (by decide +kernel) (by simp [zR_cat, zcat_I, zcat_S]) (Nat.le_of_ble_eq_true rfl) fun p e s m below meth c ls E hn S hl => Sr_play_w E ha0 ha1 ha2 S (hl.sub (And.intro rfl (And.intro rfl (And.intro rfl True.intro)))) h
end
theorem Lx_story_dc : zDL cX11_story [(0, .aload_n 0, 1, 1), (1, .getfield 105, 3, 4), (4, .ifCond .eq 14, 3, 7), (7, .aload_n 0, 1, 8), (8, .getfield 35, 3, 11), (11, .invokevirtual 110, 3, 14), (14, .iconst (-1), 1, 15), (15, .if_icmp .eq 5, 3, 18), (18, .iconst (-1), 1, 19), (19, .ireturn, 1, 20), (20, .aload_n 0, 1, 21), (21, .getfield 35, 3, 24), (24, .aload_n 0, 1, 25), (25, .getfield 42, 3, 28), (28, .getfield 124, 3, 31), (31, .aload_n 0, 1, 32), (32, .getfield 59, 3, 35), (35, .invokevirtual 256, 3, 38), (38, .istore_n 1, 1, 39), (39, .aload_n 0, 1, 40), (40, .iload_n 1, 1, 41), (41, .aload_n 0, 1, 42), (42, .getfield 35, 3, 45), (45, .getfield 260, 3, 48), (48, .if_icmp .ge 7, 3, 51), (51, .iload_n 1, 1, 52), (52, .goto 4, 3, 55), (55, .iconst (-1), 1, 56), (56, .putfield 86, 3, 59), (59, .aload_n 0, 1, 60), (60, .getfield 12, 3, 63), (63, .iconst 0, 1, 64), (64, .putfield 94, 3, 67), (67, .aload_n 0, 1, 68), (68, .iconst 1, 1, 69), (69, .putfield 121, 3, 72), (72, .iload_n 1, 1, 73), (73, .ireturn, 1, 74)] := zDL.of (by decide +kernel)
section
variable {p : Program} {l : Launch} {e : Env} {s : State} {m : MethodId} {args : Array Value} {below : List Frame} {meth : Method} {c : Code} {G : zG} {top : Int} {L : zL} {fu : Nat}
theorem Lx_story_b56_w (E : zEv p m c cX11_story 2 s args RX11 meth (some .int) G) {res : (zM × Int)} {M : zM} {x0 : Int} {x1 : Int} {y0 : Int} {y1 : Int} {H : Heap} {locs : List Loc} {ls : Array Slot} (hx0 : InR x0) (hx1 : InR x1) (hy0 : InR y0) (hy1 : InR y1) (S : zS G top L M s H locs) (hl : zLV ls 2 [some (zR G.2.2.1 x0), some (.int (zO x1))]) (h : Lx_story_b56 fu L M x0 x1 y0 y1 = some res) : W p l e (zrm 10 0 0) s m args below meth c H locs 0 0 (MQ below (zQ G top L res.1 (some (.int (zO res.2))) (InR res.2)) args s 0 0 (zA G)) (F0 m 56 ls [.int (zO y1), zR G.2.2.1 y0]) := by
  unfold Lx_story_b56 at h
  obtain ⟨g12, h⟩ := ite_e h
  obtain ⟨M13, eM13, h⟩ := lt1_e h
  refine u_pI E eM13 zf_11_14 S g12 hy1 (Or.inl rfl) rfl zw_2_146 (Lx_story_dc.at 28 rfl) (fun H locs S14 => ?_)
  refine u_al_n (x := x0) E (Lx_story_dc.at 29 rfl) hl rfl ?_
  obtain ⟨g15, h⟩ := ite_e h
  refine u_gR E zf_11_0 S14 g15 zw_2_132 (Lx_story_dc.at 30 rfl) ?_
  refine r_iconst E (Lx_story_dc.at 31 rfl) ?_
  obtain ⟨g16, h⟩ := ite_e h
  obtain ⟨M17, eM17, h⟩ := lt1_e h
  refine u_pI E eM17 zf_7_2 S14 g16 (show InR 0 by decide) (Or.inl rfl) rfl zw_1_42 (Lx_story_dc.at 32 rfl) (fun H locs S18 => ?_)
  refine u_al_n (x := x0) E (Lx_story_dc.at 33 rfl) hl rfl ?_
  refine r_iconst E (Lx_story_dc.at 34 rfl) ?_
  obtain ⟨M19, eM19, h⟩ := lt1_e h
  refine u_pZ E eM19 zf_11_13 S18 g15 z01_1 (Or.inl rfl) rfl zw_2_145 (Lx_story_dc.at 35 rfl) (fun H locs S20 => ?_)
  refine u_il_n (x := x1) E (Lx_story_dc.at 36 rfl) hl rfl ?_
  cases h
  exact r_iret E S20 hx1 (Lx_story_dc.at 37 rfl)
theorem Lx_story_w (E : zEv p m c cX11_story 2 s args RX11 meth (some .int) G) {res : (zM × Int)} {M : zM} {a0 : Int} {H : Heap} {locs : List Loc} {ls : Array Slot} (ha0 : InR a0) (S : zS G top L M s H locs) (hl : zLV ls 2 [some (zR G.2.2.1 a0), none]) (h : Lx_story fu L M a0 = some res) : W p l e (zrm 10 0 0) s m args below meth c H locs 0 0 (MQ below (zQ G top L res.1 (some (.int (zO res.2))) (InR res.2)) args s 0 0 (zA G)) (F0 m 0 ls []) := by
  unfold Lx_story at h
  refine u_al_n (x := a0) E (Lx_story_dc.at 0 rfl) hl rfl ?_
  obtain ⟨g1, h⟩ := ite_e h
  refine u_gI E zf_11_11 S g1 zw_2_143 (Lx_story_dc.at 1 rfl) ?_
  refine r_if_eq (tgt := 18) E (S.1.inR _ _) (Lx_story_dc.at 2 rfl) (by decide) (fun q => ?_) (fun q => ?_)
  · have h := ite_t h q
    refine r_iconst E (Lx_story_dc.at 8 rfl) ?_
    cases h
    exact r_iret E S (show InR (-1) by decide) (Lx_story_dc.at 9 rfl)
  · have h := ite_f h q
    refine u_al_n (x := a0) E (Lx_story_dc.at 3 rfl) hl rfl ?_
    refine u_gR E zf_11_3 S g1 zw_2_135 (Lx_story_dc.at 4 rfl) ?_
    obtain ⟨g2, h⟩ := ite_e h
    obtain ⟨M4, r3, er3, h⟩ := bd2_e h
    refine u_cVI (As := []) (rest := []) E S zcw_yX6_read zw_3_169 zw_3_170 zw_3_168 zck_6.1 rfl g2 (Sr_read_c l G fu top L M (M a0 3) (S.1.inR _ _) er3) (zrm_ok (by decide) (by decide)) ⟨Nat.le_refl 0, Nat.le_refl 0⟩ rfl (Nat.zero_le 8) hl.size rfl (Lx_story_dc.at 5 rfl) (fun H locs hr3 S5 => ?_)
    refine r_iconst E (Lx_story_dc.at 6 rfl) ?_
    refine r_icmp_eq (tgt := 20) E hr3 (show InR (-1) by decide) (Lx_story_dc.at 7 rfl) (by decide) (fun q => ?_) (fun q => ?_)
    · have h := ite_t h q
      refine u_al_n (x := a0) E (Lx_story_dc.at 10 rfl) hl rfl ?_
      refine u_gR E zf_11_3 S5 g1 zw_2_135 (Lx_story_dc.at 11 rfl) ?_
      refine u_al_n (x := a0) E (Lx_story_dc.at 12 rfl) hl rfl ?_
      refine u_gR E zf_11_4 S5 g1 zw_2_136 (Lx_story_dc.at 13 rfl) ?_
      obtain ⟨g6, h⟩ := ite_e h
      refine u_gR E zf_1_0 S5 g6 zw_1_222 (Lx_story_dc.at 14 rfl) ?_
      refine u_al_n (x := a0) E (Lx_story_dc.at 15 rfl) hl rfl ?_
      refine u_gR E zf_11_7 S5 g1 zw_2_139 (Lx_story_dc.at 16 rfl) ?_
      obtain ⟨g7, h⟩ := ite_e h
      obtain ⟨M9, r8, er8, h⟩ := bd2_e h
      refine u_cVI (As := [zR G.2.2.1 (M4 (M4 a0 4) 0), zR G.2.2.1 (M4 a0 7)]) (rest := []) E S5 zcw_yX6_play zw_5_88 zw_5_89 zw_5_87 zck_6.1 rfl g7 (Sr_play_c l G fu top L M4 (M4 a0 3) (M4 (M4 a0 4) 0) (M4 a0 7) (S5.1.inR _ _) (S5.1.inR _ _) (S5.1.inR _ _) er8) (zrm_ok (by decide) (by decide)) ⟨Nat.le_refl 0, Nat.le_refl 0⟩ rfl (Nat.zero_le 8) hl.size rfl (Lx_story_dc.at 17 rfl) (fun H locs hr8 S10 => ?_)
      refine u_ist_n (y := r8) (vs' := [some (zR G.2.2.1 a0), some (.int (zO r8))]) E rfl (Lx_story_dc.at 18 rfl) hl (by decide) rfl (fun ls hl => ?_)
      refine u_al_n (x := a0) E (Lx_story_dc.at 19 rfl) hl rfl ?_
      refine u_il_n (x := r8) E (Lx_story_dc.at 20 rfl) hl rfl ?_
      refine u_al_n (x := a0) E (Lx_story_dc.at 21 rfl) hl rfl ?_
      refine u_gR E zf_11_3 S10 g1 zw_2_135 (Lx_story_dc.at 22 rfl) ?_
      obtain ⟨g11, h⟩ := ite_e h
      refine u_gI E zf_6_3 S10 g11 zw_1_165 (Lx_story_dc.at 23 rfl) ?_
      refine r_icmp_ge (tgt := 55) E hr8 (S10.1.inR _ _) (Lx_story_dc.at 24 rfl) (by decide) (fun q => ?_) (fun q => ?_)
      · have h := ite_t h q
        refine u_il_n (x := r8) E (Lx_story_dc.at 25 rfl) hl rfl ?_
        refine r_goto (tgt := 56) E (Lx_story_dc.at 26 rfl) (by decide) ?_
        exact Lx_story_b56_w (x0 := a0) (x1 := r8) (y0 := a0) (y1 := r8) E ha0 hr8 ha0 hr8 S10 (hl.sub (And.intro rfl (And.intro rfl True.intro))) h
      · have h := ite_f h q
        refine r_iconst E (Lx_story_dc.at 27 rfl) ?_
        exact Lx_story_b56_w (x0 := a0) (x1 := r8) (y0 := a0) (y1 := (-1)) E ha0 hr8 ha0 (show InR (-1) by decide) S10 (hl.sub (And.intro rfl (And.intro rfl True.intro))) h
    · have h := ite_f h q
      refine r_iconst E (Lx_story_dc.at 8 rfl) ?_
      cases h
      exact r_iret E S5 (show InR (-1) by decide) (Lx_story_dc.at 9 rfl)
theorem Lx_story_c (l : Launch) (G : zG) (fu : Nat) (top : Int) (L : zL) (M : zM) (a0 : Int) {res : (zM × Int)} (ha0 : InR a0) (h : Lx_story fu L M a0 = some res) : Met l yX11_story (Cond.code yX11_story cX11_story 2 (some .int) :: zTB) (zrm 10 0 0) (va_Pc [zR G.2.2.1 a0] (zPre G top L M)) (zQ G top L res.1 (some (.int (zO res.2))) (InR res.2)) 0 0 (zA G) :=
  z_met (by decide +kernel) (by simp [zR_cat, zcat_I, zcat_S]) (Nat.le_of_ble_eq_true rfl) fun p e s m below meth c ls E hn S hl => Lx_story_w E ha0 S (hl.sub (And.intro rfl True.intro)) h
end
theorem Lx_storied_dc : zDL cX11_storied [(0, .aload_n 0, 1, 1), (1, .getfield 121, 3, 4), (4, .ifCond .ne 5, 3, 7), (7, .iconst (-1), 1, 8), (8, .ireturn, 1, 9), (9, .iload_n 1, 1, 10), (10, .tableswitch 78 0 4 #[34, 42, 50, 55, 70], 34, 44), (44, .aload_n 0, 1, 45), (45, .getfield 59, 3, 48), (48, .getfield 155, 3, 51), (51, .ireturn, 1, 52), (52, .aload_n 0, 1, 53), (53, .getfield 59, 3, 56), (56, .getfield 165, 3, 59), (59, .ireturn, 1, 60), (60, .aload_n 0, 1, 61), (61, .getfield 86, 3, 64), (64, .ireturn, 1, 65), (65, .aload_n 0, 1, 66), (66, .getfield 59, 3, 69), (69, .aload_n 0, 1, 70), (70, .getfield 42, 3, 73), (73, .getfield 177, 3, 76), (76, .invokevirtual 189, 3, 79), (79, .ireturn, 1, 80), (80, .aload_n 0, 1, 81), (81, .getfield 59, 3, 84), (84, .invokevirtual 183, 3, 87), (87, .ireturn, 1, 88), (88, .iconst (-1), 1, 89), (89, .ireturn, 1, 90)] := zDL.of (by decide +kernel)
section
variable {p : Program} {l : Launch} {e : Env} {s : State} {m : MethodId} {args : Array Value} {below : List Frame} {meth : Method} {c : Code} {G : zG} {top : Int} {L : zL} {fu : Nat}
theorem Lx_storied_w (E : zEv p m c cX11_storied 2 s args RX11 meth (some .int) G) {res : Int} {M : zM} {a0 : Int} {a1 : Int} {H : Heap} {locs : List Loc} {ls : Array Slot} (ha0 : InR a0) (ha1 : InR a1) (S : zS G top L M s H locs) (hl : zLV ls 2 [some (zR G.2.2.1 a0), some (.int (zO a1))]) (h : Lx_storied fu L M a0 a1 = some res) : W p l e (zrm 4 0 0) s m args below meth c H locs 0 0 (MQ below (zQ G top L M (some (.int (zO res))) (InR res)) args s 0 0 (zA G)) (F0 m 0 ls []) := by
  unfold Lx_storied at h
  refine u_al_n (x := a0) E (Lx_storied_dc.at 0 rfl) hl rfl ?_
  obtain ⟨g1, h⟩ := ite_e h
  refine u_gI E zf_11_13 S g1 zw_2_145 (Lx_storied_dc.at 1 rfl) ?_
  refine r_if_ne (tgt := 9) E (S.1.inR _ _) (Lx_storied_dc.at 2 rfl) (by decide) (fun q => ?_) (fun q => ?_)
  · have h := ite_t h q
    refine r_iconst E (Lx_storied_dc.at 3 rfl) ?_
    cases h
    exact r_iret E S (show InR (-1) by decide) (Lx_storied_dc.at 4 rfl)
  · have h := ite_f h q
    refine u_il_n (x := a1) E (Lx_storied_dc.at 5 rfl) hl rfl ?_
    by_cases q3 : a1 = 0
    · have h := ite_t h q3
      refine r_tin (tgt := 44) (k := 0) E ha1 q3 (Lx_storied_dc.at 6 rfl) (by decide) (by decide) rfl (by decide) ?_
      refine u_al_n (x := a0) E (Lx_storied_dc.at 7 rfl) hl rfl ?_
      refine u_gR E zf_11_7 S g1 zw_2_139 (Lx_storied_dc.at 8 rfl) ?_
      obtain ⟨g2, h⟩ := ite_e h
      refine u_gI E zf_10_5 S g2 zw_1_204 (Lx_storied_dc.at 9 rfl) ?_
      cases h
      exact r_iret E S (S.1.inR _ _) (Lx_storied_dc.at 10 rfl)
    · have h := ite_f h q3
      by_cases q5 : a1 = 1
      · have h := ite_t h q5
        refine r_tin (tgt := 52) (k := 1) E ha1 q5 (Lx_storied_dc.at 6 rfl) (by decide) (by decide) rfl (by decide) ?_
        refine u_al_n (x := a0) E (Lx_storied_dc.at 11 rfl) hl rfl ?_
        refine u_gR E zf_11_7 S g1 zw_2_139 (Lx_storied_dc.at 12 rfl) ?_
        obtain ⟨g4, h⟩ := ite_e h
        refine u_gI E zf_10_4 S g4 zw_1_198 (Lx_storied_dc.at 13 rfl) ?_
        cases h
        exact r_iret E S (S.1.inR _ _) (Lx_storied_dc.at 14 rfl)
      · have h := ite_f h q5
        by_cases q6 : a1 = 2
        · have h := ite_t h q6
          refine r_tin (tgt := 60) (k := 2) E ha1 q6 (Lx_storied_dc.at 6 rfl) (by decide) (by decide) rfl (by decide) ?_
          refine u_al_n (x := a0) E (Lx_storied_dc.at 15 rfl) hl rfl ?_
          refine u_gI E zf_11_14 S g1 zw_2_146 (Lx_storied_dc.at 16 rfl) ?_
          cases h
          exact r_iret E S (S.1.inR _ _) (Lx_storied_dc.at 17 rfl)
        · have h := ite_f h q6
          by_cases q11 : a1 = 3
          · have h := ite_t h q11
            refine r_tin (tgt := 65) (k := 3) E ha1 q11 (Lx_storied_dc.at 6 rfl) (by decide) (by decide) rfl (by decide) ?_
            refine u_al_n (x := a0) E (Lx_storied_dc.at 18 rfl) hl rfl ?_
            refine u_gR E zf_11_7 S g1 zw_2_139 (Lx_storied_dc.at 19 rfl) ?_
            refine u_al_n (x := a0) E (Lx_storied_dc.at 20 rfl) hl rfl ?_
            refine u_gR E zf_11_4 S g1 zw_2_136 (Lx_storied_dc.at 21 rfl) ?_
            obtain ⟨g7, h⟩ := ite_e h
            refine u_gI E zf_1_3 S g7 zw_1_229 (Lx_storied_dc.at 22 rfl) ?_
            obtain ⟨g8, h⟩ := ite_e h
            obtain ⟨r9, er9, h⟩ := bd1_e h
            refine u_cVI (As := [.int (zO (M (M a0 4) 3))]) (rest := []) E S zcw_yX10_theEnd zw_4_188 zw_4_189 zw_4_187 zck_10.1 rfl g8 (Wd_theEnd_c l G fu top L M (M a0 7) (M (M a0 4) 3) (S.1.inR _ _) (S.1.inR _ _) er9) (zrm_ok (by decide) (by decide)) ⟨Nat.le_refl 0, Nat.le_refl 0⟩ rfl (Nat.zero_le 8) hl.size rfl (Lx_storied_dc.at 23 rfl) (fun H locs hr9 S10 => ?_)
            cases h
            exact r_iret E S10 hr9 (Lx_storied_dc.at 24 rfl)
          · have h := ite_f h q11
            by_cases q15 : a1 = 4
            · have h := ite_t h q15
              refine r_tin (tgt := 80) (k := 4) E ha1 q15 (Lx_storied_dc.at 6 rfl) (by decide) (by decide) rfl (by decide) ?_
              refine u_al_n (x := a0) E (Lx_storied_dc.at 25 rfl) hl rfl ?_
              refine u_gR E zf_11_7 S g1 zw_2_139 (Lx_storied_dc.at 26 rfl) ?_
              obtain ⟨g12, h⟩ := ite_e h
              obtain ⟨r13, er13, h⟩ := bd1_e h
              refine u_cVI (As := []) (rest := []) E S zcw_yX10_livingLives zw_4_179 zw_4_180 zw_4_178 zck_10.1 rfl g12 (Wd_livingLives_c l G fu top L M (M a0 7) (S.1.inR _ _) er13) (zrm_ok (by decide) (by decide)) ⟨Nat.le_refl 0, Nat.le_refl 0⟩ rfl (Nat.zero_le 8) hl.size rfl (Lx_storied_dc.at 27 rfl) (fun H locs hr13 S14 => ?_)
              cases h
              exact r_iret E S14 hr13 (Lx_storied_dc.at 28 rfl)
            · have h := ite_f h q15
              refine r_tout (tgt := 88) E ha1 (by omega) (Lx_storied_dc.at 6 rfl) (by decide) ?_
              refine r_iconst E (Lx_storied_dc.at 29 rfl) ?_
              cases h
              exact r_iret E S (show InR (-1) by decide) (Lx_storied_dc.at 30 rfl)
theorem Lx_storied_c (l : Launch) (G : zG) (fu : Nat) (top : Int) (L : zL) (M : zM) (a0 : Int) (a1 : Int) {res : Int} (ha0 : InR a0) (ha1 : InR a1) (h : Lx_storied fu L M a0 a1 = some res) : Met l yX11_storied (Cond.code yX11_storied cX11_storied 2 (some .int) :: zTB) (zrm 4 0 0) (va_Pc [zR G.2.2.1 a0, .int (zO a1)] (zPre G top L M)) (zQ G top L M (some (.int (zO res))) (InR res)) 0 0 (zA G) :=
  z_met (by decide +kernel) (by simp [zR_cat, zcat_I, zcat_S]) (Nat.le_of_ble_eq_true rfl) fun p e s m below meth c ls E hn S hl => Lx_storied_w E ha0 ha1 S (hl.sub (And.intro rfl (And.intro rfl True.intro))) h
end
theorem Lx_waitAside_dc : zDL cX11_waitAside [(0, .aload_n 0, 1, 1), (1, .getfield 42, 3, 4), (4, .iload_n 1, 1, 5), (5, .invokevirtual 148, 3, 8), (8, .astore_n 2, 1, 9), (9, .aload_n 2, 1, 10), (10, .ifnull 10, 3, 13), (13, .aload_n 0, 1, 14), (14, .getfield 121, 3, 17), (17, .ifCond .ne 5, 3, 20), (20, .iconst 0, 1, 21), (21, .ireturn, 1, 22), (22, .aload_n 0, 1, 23), (23, .getfield 71, 3, 26), (26, .aload_n 0, 1, 27), (27, .getfield 59, 3, 30), (30, .aload_n 2, 1, 31), (31, .aload_n 0, 1, 32), (32, .getfield 42, 3, 35), (35, .getfield 177, 3, 38), (38, .invokevirtual 352, 3, 41), (41, .iconst 1, 1, 42), (42, .ireturn, 1, 43)] := zDL.of (by decide +kernel)
section
variable {p : Program} {l : Launch} {e : Env} {s : State} {m : MethodId} {args : Array Value} {below : List Frame} {meth : Method} {c : Code} {G : zG} {top : Int} {L : zL} {fu : Nat}
theorem Lx_waitAside_w (E : zEv p m c cX11_waitAside 3 s args RX11 meth (some .boolean) G) {res : (zM × Int)} {M : zM} {a0 : Int} {a1 : Int} {H : Heap} {locs : List Loc} {ls : Array Slot} (ha0 : InR a0) (ha1 : InR a1) (S : zS G top L M s H locs) (hl : zLV ls 3 [some (zR G.2.2.1 a0), some (.int (zO a1)), none]) (h : Lx_waitAside fu L M a0 a1 = some res) : W p l e (zrm 5 0 0) s m args below meth c H locs 0 0 (MQ below (zQ G top L res.1 (some (.int (zO res.2))) (0 ≤ res.2 ∧ res.2 ≤ 1)) args s 0 0 (zA G)) (F0 m 0 ls []) := by
  unfold Lx_waitAside at h
  refine u_al_n (x := a0) E (Lx_waitAside_dc.at 0 rfl) hl rfl ?_
  obtain ⟨g1, h⟩ := ite_e h
  refine u_gR E zf_11_4 S g1 zw_2_136 (Lx_waitAside_dc.at 1 rfl) ?_
  refine u_il_n (x := a1) E (Lx_waitAside_dc.at 2 rfl) hl rfl ?_
  obtain ⟨g2, h⟩ := ite_e h
  obtain ⟨r3, er3, h⟩ := bd1_e h
  refine u_cVR (As := [.int (zO a1)]) (rest := []) E S zcw_yX1_giftAt zw_4_39 zw_4_40 zw_4_128 zck_1.1 rfl g2 (Af_giftAt_c l G fu top L M (M a0 4) a1 (S.1.inR _ _) ha1 er3) (zrm_ok (by decide) (by decide)) ⟨Nat.le_refl 0, Nat.le_refl 0⟩ rfl (Nat.zero_le 8) hl.size rfl (Lx_waitAside_dc.at 3 rfl) (fun H locs hr3 S4 => ?_)
  refine u_ast_n (y := r3) (vs' := [some (zR G.2.2.1 a0), some (.int (zO a1)), some (zR G.2.2.1 r3)]) E rfl (Lx_waitAside_dc.at 4 rfl) hl (by decide) rfl (fun ls hl => ?_)
  refine u_al_n (x := r3) E (Lx_waitAside_dc.at 5 rfl) hl rfl ?_
  refine r_ifnull (tgt := 20) E (Lx_waitAside_dc.at 6 rfl) (by decide) (fun q => ?_) (fun q => ?_)
  · have h := ite_t h q
    refine r_iconst E (Lx_waitAside_dc.at 10 rfl) ?_
    cases h
    exact r_zret E S4 z01_0 z01_0 (Lx_waitAside_dc.at 11 rfl)
  · have h := ite_f h q
    refine u_al_n (x := a0) E (Lx_waitAside_dc.at 7 rfl) hl rfl ?_
    refine u_gI E zf_11_13 S4 g1 zw_2_145 (Lx_waitAside_dc.at 8 rfl) ?_
    refine r_if_ne (tgt := 22) E (S4.1.inR _ _) (Lx_waitAside_dc.at 9 rfl) (by decide) (fun q => ?_) (fun q => ?_)
    · have h := ite_t h q
      refine r_iconst E (Lx_waitAside_dc.at 10 rfl) ?_
      cases h
      exact r_zret E S4 z01_0 z01_0 (Lx_waitAside_dc.at 11 rfl)
    · have h := ite_f h q
      refine u_al_n (x := a0) E (Lx_waitAside_dc.at 12 rfl) hl rfl ?_
      refine u_gR E zf_11_8 S4 g1 zw_2_140 (Lx_waitAside_dc.at 13 rfl) ?_
      refine u_al_n (x := a0) E (Lx_waitAside_dc.at 14 rfl) hl rfl ?_
      refine u_gR E zf_11_7 S4 g1 zw_2_139 (Lx_waitAside_dc.at 15 rfl) ?_
      refine u_al_n (x := r3) E (Lx_waitAside_dc.at 16 rfl) hl rfl ?_
      refine u_al_n (x := a0) E (Lx_waitAside_dc.at 17 rfl) hl rfl ?_
      refine u_gR E zf_11_4 S4 g1 zw_2_136 (Lx_waitAside_dc.at 18 rfl) ?_
      refine u_gI E zf_1_3 S4 g2 zw_1_229 (Lx_waitAside_dc.at 19 rfl) ?_
      obtain ⟨g5, h⟩ := ite_e h
      obtain ⟨M6, eM6, h⟩ := bd1_e h
      refine u_cVU (As := [zR G.2.2.1 (M a0 7), zR G.2.2.1 r3, .int (zO (M (M a0 4) 3))]) (rest := []) E S4 zcw_yX9_look zw_4_209 zw_4_210 zw_4_208 zck_9.1 rfl g5 (Wt_look_c l G fu top L M (M a0 8) (M a0 7) r3 (M (M a0 4) 3) (S4.1.inR _ _) (S4.1.inR _ _) hr3 (S4.1.inR _ _) eM6) (zrm_ok (by decide) (by decide)) ⟨Nat.le_refl 0, Nat.le_refl 0⟩ rfl (Nat.zero_le 8) hl.size rfl (Lx_waitAside_dc.at 20 rfl) (fun H locs _ S7 => ?_)
      refine r_iconst E (Lx_waitAside_dc.at 21 rfl) ?_
      cases h
      exact r_zret E S7 z01_1 z01_1 (Lx_waitAside_dc.at 22 rfl)
theorem Lx_waitAside_c (l : Launch) (G : zG) (fu : Nat) (top : Int) (L : zL) (M : zM) (a0 : Int) (a1 : Int) {res : (zM × Int)} (ha0 : InR a0) (ha1 : InR a1) (h : Lx_waitAside fu L M a0 a1 = some res) : Met l yX11_waitAside (Cond.code yX11_waitAside cX11_waitAside 3 (some .boolean) :: zTB) (zrm 5 0 0) (va_Pc [zR G.2.2.1 a0, .int (zO a1)] (zPre G top L M)) (zQ G top L res.1 (some (.int (zO res.2))) (0 ≤ res.2 ∧ res.2 ≤ 1)) 0 0 (zA G) :=
  z_met (by decide +kernel) (by simp [zR_cat, zcat_I, zcat_S]) (Nat.le_of_ble_eq_true rfl) fun p e s m below meth c ls E hn S hl => Lx_waitAside_w E ha0 ha1 S (hl.sub (And.intro rfl (And.intro rfl True.intro))) h
end
theorem Lx_storyState_dc : zDL cX11_storyState [(0, .aload_n 0, 1, 1), (1, .iload_n 1, 1, 2), (2, .invokevirtual 263, 3, 5), (5, .ifCond .eq 13, 3, 8), (8, .aload_n 0, 1, 9), (9, .getfield 71, 3, 12), (12, .invokevirtual 245, 3, 15), (15, .goto 4, 3, 18), (18, .iconst (-1), 1, 19), (19, .ireturn, 1, 20)] := zDL.of (by decide +kernel)
section
variable {p : Program} {l : Launch} {e : Env} {s : State} {m : MethodId} {args : Array Value} {below : List Frame} {meth : Method} {c : Code} {G : zG} {top : Int} {L : zL} {fu : Nat}
theorem Lx_storyState_w (E : zEv p m c cX11_storyState 2 s args RX11 meth (some .int) G) {res : (zM × Int)} {M : zM} {a0 : Int} {a1 : Int} {H : Heap} {locs : List Loc} {ls : Array Slot} (ha0 : InR a0) (ha1 : InR a1) (S : zS G top L M s H locs) (hl : zLV ls 2 [some (zR G.2.2.1 a0), some (.int (zO a1))]) (h : Lx_storyState fu L M a0 a1 = some res) : W p l e (zrm 6 0 0) s m args below meth c H locs 0 0 (MQ below (zQ G top L res.1 (some (.int (zO res.2))) (InR res.2)) args s 0 0 (zA G)) (F0 m 0 ls []) := by
  unfold Lx_storyState at h
  refine u_al_n (x := a0) E (Lx_storyState_dc.at 0 rfl) hl rfl ?_
  refine u_il_n (x := a1) E (Lx_storyState_dc.at 1 rfl) hl rfl ?_
  obtain ⟨g1, h⟩ := ite_e h
  obtain ⟨M3, r2, er2, h⟩ := bd2_e h
  refine u_cVI (As := [.int (zO a1)]) (rest := []) E S zcw_yX11_waitAside zw_5_114 zq_3_2 zw_5_112 zck_11.1 rfl g1 (Lx_waitAside_c l G fu top L M a0 a1 ha0 ha1 er2) (zrm_ok (by decide) (by decide)) ⟨Nat.le_refl 0, Nat.le_refl 0⟩ rfl (Nat.zero_le 8) hl.size rfl (Lx_storyState_dc.at 2 rfl) (fun H locs hr2 S4 => ?_)
  refine r_if_eq (tgt := 18) E (inR_01 hr2) (Lx_storyState_dc.at 3 rfl) (by decide) (fun q => ?_) (fun q => ?_)
  · have h := ite_t h q
    refine r_iconst E (Lx_storyState_dc.at 8 rfl) ?_
    cases h
    exact r_iret E S4 (show InR (-1) by decide) (Lx_storyState_dc.at 9 rfl)
  · have h := ite_f h q
    refine u_al_n (x := a0) E (Lx_storyState_dc.at 4 rfl) hl rfl ?_
    refine u_gR E zf_11_8 S4 g1 zw_2_140 (Lx_storyState_dc.at 5 rfl) ?_
    obtain ⟨g5, h⟩ := ite_e h
    obtain ⟨r6, er6, h⟩ := bd1_e h
    refine u_cVI (As := []) (rest := []) E S4 zcw_yX9_standing zw_5_53 zw_5_54 zw_5_52 zck_9.1 rfl g5 (Wt_standing_c l G fu top L M3 (M3 a0 8) (S4.1.inR _ _) er6) (zrm_ok (by decide) (by decide)) ⟨Nat.le_refl 0, Nat.le_refl 0⟩ rfl (Nat.zero_le 8) hl.size rfl (Lx_storyState_dc.at 6 rfl) (fun H locs hr6 S7 => ?_)
    refine r_goto (tgt := 19) E (Lx_storyState_dc.at 7 rfl) (by decide) ?_
    cases h
    exact r_iret E S7 hr6 (Lx_storyState_dc.at 9 rfl)
theorem Lx_storyState_c (l : Launch) (G : zG) (fu : Nat) (top : Int) (L : zL) (M : zM) (a0 : Int) (a1 : Int) {res : (zM × Int)} (ha0 : InR a0) (ha1 : InR a1) (h : Lx_storyState fu L M a0 a1 = some res) : Met l yX11_storyState (Cond.code yX11_storyState cX11_storyState 2 (some .int) :: zTB) (zrm 6 0 0) (va_Pc [zR G.2.2.1 a0, .int (zO a1)] (zPre G top L M)) (zQ G top L res.1 (some (.int (zO res.2))) (InR res.2)) 0 0 (zA G) :=
  z_met (by decide +kernel) (by simp [zR_cat, zcat_I, zcat_S]) (Nat.le_of_ble_eq_true rfl) fun p e s m below meth c ls E hn S hl => Lx_storyState_w E ha0 ha1 S (hl.sub (And.intro rfl (And.intro rfl True.intro))) h
end
theorem Lx_storyVests_dc : zDL cX11_storyVests [(0, .aload_n 0, 1, 1), (1, .getfield 59, 3, 4), (4, .iload_n 2, 1, 5), (5, .invokevirtual 192, 3, 8), (8, .ifCond .eq 11, 3, 11), (11, .aload_n 0, 1, 12), (12, .iload_n 1, 1, 13), (13, .invokevirtual 263, 3, 16), (16, .ifCond .ne 6, 3, 19), (19, .ldc 235, 2, 21), (21, .ireturn, 1, 22), (22, .aload_n 0, 1, 23), (23, .getfield 71, 3, 26), (26, .iload_n 2, 1, 27), (27, .invokevirtual 236, 3, 30), (30, .ireturn, 1, 31)] := zDL.of (by decide +kernel)
section
variable {p : Program} {l : Launch} {e : Env} {s : State} {m : MethodId} {args : Array Value} {below : List Frame} {meth : Method} {c : Code} {G : zG} {top : Int} {L : zL} {fu : Nat}
theorem Lx_storyVests_w (E : zEv p m c cX11_storyVests 3 s args RX11 meth (some .int) G) {res : (zM × Int)} {M : zM} {a0 : Int} {a1 : Int} {a2 : Int} {H : Heap} {locs : List Loc} {ls : Array Slot} (ha0 : InR a0) (ha1 : InR a1) (ha2 : InR a2) (S : zS G top L M s H locs) (hl : zLV ls 3 [some (zR G.2.2.1 a0), some (.int (zO a1)), some (.int (zO a2))]) (h : Lx_storyVests fu L M a0 a1 a2 = some res) : W p l e (zrm 6 0 0) s m args below meth c H locs 0 0 (MQ below (zQ G top L res.1 (some (.int (zO res.2))) (InR res.2)) args s 0 0 (zA G)) (F0 m 0 ls []) := by
  unfold Lx_storyVests at h
  refine u_al_n (x := a0) E (Lx_storyVests_dc.at 0 rfl) hl rfl ?_
  obtain ⟨g1, h⟩ := ite_e h
  refine u_gR E zf_11_7 S g1 zw_2_139 (Lx_storyVests_dc.at 1 rfl) ?_
  refine u_il_n (x := a2) E (Lx_storyVests_dc.at 2 rfl) hl rfl ?_
  obtain ⟨g2, h⟩ := ite_e h
  obtain ⟨r3, er3, h⟩ := bd1_e h
  refine u_cVI (As := [.int (zO a2)]) (rest := []) E S zcw_yX10_has zw_4_35 zw_4_36 zw_5_41 zck_10.1 rfl g2 (Wd_has_c l G fu top L M (M a0 7) a2 (S.1.inR _ _) ha2 er3) (zrm_ok (by decide) (by decide)) ⟨Nat.le_refl 0, Nat.le_refl 0⟩ rfl (Nat.zero_le 8) hl.size rfl (Lx_storyVests_dc.at 3 rfl) (fun H locs hr3 S4 => ?_)
  refine r_if_eq (tgt := 19) E (inR_01 hr3) (Lx_storyVests_dc.at 4 rfl) (by decide) (fun q => ?_) (fun q => ?_)
  · have h := ite_t h q
    refine r_ldc (n := (-1000000)) E (Lx_storyVests_dc.at 9 rfl) zw_5_42 rfl ?_
    cases h
    exact r_iret E S4 (show InR (-1000000) by decide) (Lx_storyVests_dc.at 10 rfl)
  · have h := ite_f h q
    refine u_al_n (x := a0) E (Lx_storyVests_dc.at 5 rfl) hl rfl ?_
    refine u_il_n (x := a1) E (Lx_storyVests_dc.at 6 rfl) hl rfl ?_
    obtain ⟨M6, r5, er5, h⟩ := bd2_e h
    refine u_cVI (As := [.int (zO a1)]) (rest := []) E S4 zcw_yX11_waitAside zw_5_114 zq_3_2 zw_5_112 zck_11.1 rfl g1 (Lx_waitAside_c l G fu top L M a0 a1 ha0 ha1 er5) (zrm_ok (by decide) (by decide)) ⟨Nat.le_refl 0, Nat.le_refl 0⟩ rfl (Nat.zero_le 8) hl.size rfl (Lx_storyVests_dc.at 7 rfl) (fun H locs hr5 S7 => ?_)
    refine r_if_ne (tgt := 22) E (inR_01 hr5) (Lx_storyVests_dc.at 8 rfl) (by decide) (fun q => ?_) (fun q => ?_)
    · have h := ite_t h q
      refine r_ldc (n := (-1000000)) E (Lx_storyVests_dc.at 9 rfl) zw_5_42 rfl ?_
      cases h
      exact r_iret E S7 (show InR (-1000000) by decide) (Lx_storyVests_dc.at 10 rfl)
    · have h := ite_f h q
      refine u_al_n (x := a0) E (Lx_storyVests_dc.at 11 rfl) hl rfl ?_
      refine u_gR E zf_11_8 S7 g1 zw_2_140 (Lx_storyVests_dc.at 12 rfl) ?_
      refine u_il_n (x := a2) E (Lx_storyVests_dc.at 13 rfl) hl rfl ?_
      obtain ⟨g8, h⟩ := ite_e h
      obtain ⟨r9, er9, h⟩ := bd1_e h
      refine u_cVI (As := [.int (zO a2)]) (rest := []) E S7 zcw_yX9_yearOf zw_5_30 zw_5_31 zw_5_43 zck_9.1 rfl g8 (Wt_yearOf_c l G fu top L M6 (M6 a0 8) a2 (S7.1.inR _ _) ha2 er9) (zrm_ok (by decide) (by decide)) ⟨Nat.le_refl 0, Nat.le_refl 0⟩ rfl (Nat.zero_le 8) hl.size rfl (Lx_storyVests_dc.at 14 rfl) (fun H locs hr9 S10 => ?_)
      cases h
      exact r_iret E S10 hr9 (Lx_storyVests_dc.at 15 rfl)
theorem Lx_storyVests_c (l : Launch) (G : zG) (fu : Nat) (top : Int) (L : zL) (M : zM) (a0 : Int) (a1 : Int) (a2 : Int) {res : (zM × Int)} (ha0 : InR a0) (ha1 : InR a1) (ha2 : InR a2) (h : Lx_storyVests fu L M a0 a1 a2 = some res) : Met l yX11_storyVests (Cond.code yX11_storyVests cX11_storyVests 3 (some .int) :: zTB) (zrm 6 0 0) (va_Pc [zR G.2.2.1 a0, .int (zO a1), .int (zO a2)] (zPre G top L M)) (zQ G top L res.1 (some (.int (zO res.2))) (InR res.2)) 0 0 (zA G) :=
  z_met (by decide +kernel) (by simp [zR_cat, zcat_I, zcat_S]) (Nat.le_of_ble_eq_true rfl) fun p e s m below meth c ls E hn S hl => Lx_storyVests_w E ha0 ha1 ha2 S (hl.sub (And.intro rfl (And.intro rfl (And.intro rfl True.intro)))) h
end
