theorem Tp_init_dc : zDL cX7_init [(0, .aload_n 0, 1, 1), (1, .invokespecial 3, 3, 4), (4, .aload_n 0, 1, 5), (5, .sipush 300, 3, 8), (8, .newarray .int, 2, 10), (10, .putfield 9, 3, 13), (13, .aload_n 0, 1, 14), (14, .bipush 8, 2, 16), (16, .newarray .int, 2, 18), (18, .putfield 15, 3, 21), (21, .return_, 1, 22)] := zDL.of (by decide +kernel)
section
variable {p : Program} {l : Launch} {e : Env} {s : State} {m : MethodId} {args : Array Value} {below : List Frame} {meth : Method} {c : Code} {G : zG} {top : Int} {L : zL} {fu : Nat}
theorem Tp_init_w (E : zEv p m c cX7_init 1 s args RX7 meth none G) (hn : meth.name = "<init>") {res : (Int × zL × zM)} {top : Int} {L : zL} {M : zM} {a0 : Int} {H : Heap} {locs : List Loc} {ls : Array Slot} (ha0 : InR a0) (S : zS G top L M s H locs) (hl : zLV ls 1 [some (zR G.2.2.1 a0)]) (h : Tp_init fu top L M a0 = some res) : W p l e (zrm 1 2 308) s m args below meth c H locs 0 0 (MQ below (zQ G res.1 res.2.1 res.2.2 none True) args s 2 308 (zA G)) (F0 m 0 ls []) := by
  unfold Tp_init at h
  refine u_al_n (x := a0) E (Tp_init_dc.at 0 rfl) hl rfl ?_
  obtain ⟨g1, h⟩ := ite_e h
  refine r_obj (rest := []) E zw_1_39 zw_1_32 zw_1_33 (S.1.tag g1 (by decide)).1 hl.size (by decide) (by simp [zR_cat, zcat_I, zcat_J, zcat_S, zrm]) (Tp_init_dc.at 1 rfl) ?_
  refine u_al_n (x := a0) E (Tp_init_dc.at 2 rfl) hl rfl ?_
  refine r_sipush E (Tp_init_dc.at 3 rfl) rfl ?_
  obtain ⟨g2, h⟩ := ite_e h
  obtain ⟨T3, eT3, h⟩ := lt1_e h
  obtain ⟨L4, eL4, h⟩ := lt1_e h
  obtain ⟨M5, eM5, h⟩ := lt1_e h
  refine u_newI (k := 300) E S eT3 eL4 eM5 zw_1_74 (by decide) g2 rfl ⟨Nat.le_of_ble_eq_true rfl, Nat.le_of_ble_eq_true rfl⟩ (Tp_init_dc.at 4 rfl) (fun H S6 g7 => ?_)
  obtain ⟨g8, h⟩ := ite_e h
  obtain ⟨M9, eM9, h⟩ := lt1_e h
  refine u_pR E eM9 zf_7_0 S6 g8 (S6.1.refR g7 (by decide)) (Or.inr ⟨rfl, hn, rfl⟩) zw_1_40 (Tp_init_dc.at 5 rfl) (fun H locs S10 => ?_)
  refine u_al_n (x := a0) E (Tp_init_dc.at 6 rfl) hl rfl ?_
  refine r_bipush E (Tp_init_dc.at 7 rfl) rfl ?_
  obtain ⟨g11, h⟩ := ite_e h
  obtain ⟨T12, eT12, h⟩ := lt1_e h
  obtain ⟨L13, eL13, h⟩ := lt1_e h
  obtain ⟨M14, eM14, h⟩ := lt1_e h
  refine u_newI (k := 8) E S10 eT12 eL13 eM14 zw_1_74 (by decide) g11 rfl ⟨Nat.le_of_ble_eq_true rfl, Nat.le_of_ble_eq_true rfl⟩ (Tp_init_dc.at 8 rfl) (fun H S15 g16 => ?_)
  obtain ⟨g17, h⟩ := ite_e h
  obtain ⟨M18, eM18, h⟩ := lt1_e h
  refine u_pR E eM18 zf_7_1 S15 g17 (S15.1.refR g16 (by decide)) (Or.inr ⟨rfl, hn, rfl⟩) zw_1_41 (Tp_init_dc.at 9 rfl) (fun H locs S19 => ?_)
  cases h
  refine W.widen (k := 2) (n := 308) (by omega) (by omega) ?_
  exact r_vret E S19 True.intro (Tp_init_dc.at 10 rfl)
theorem Tp_init_c (l : Launch) (G : zG) (fu : Nat) (top : Int) (L : zL) (M : zM) (a0 : Int) {res : (Int × zL × zM)} (ha0 : InR a0) (h : Tp_init fu top L M a0 = some res) : Met l yX7_init (Cond.code yX7_init cX7_init 1 none :: zTB) (zrm 1 2 308) (va_Pc [zR G.2.2.1 a0] (zPre G top L M)) (zQ G res.1 res.2.1 res.2.2 none True) 2 308 (zA G) :=
  z_met (by decide +kernel) (by simp [zR_cat, zcat_I, zcat_S]) (Nat.le_of_ble_eq_true rfl) fun p e s m below meth c ls E hn S hl => Tp_init_w E hn ha0 S (hl.sub (And.intro rfl True.intro)) h
end
theorem Fr_init_dc : zDL cX2_init [(0, .aload_n 0, 1, 1), (1, .invokespecial 3, 3, 4), (4, .aload_n 0, 1, 5), (5, .bipush 8, 2, 7), (7, .newarray .int, 2, 9), (9, .putfield 9, 3, 12), (12, .aload_n 0, 1, 13), (13, .bipush 8, 2, 15), (15, .newarray .int, 2, 17), (17, .putfield 15, 3, 20), (20, .aload_n 0, 1, 21), (21, .bipush 8, 2, 23), (23, .newarray .int, 2, 25), (25, .putfield 18, 3, 28), (28, .aload_n 0, 1, 29), (29, .aload_n 1, 1, 30), (30, .putfield 21, 3, 33), (33, .return_, 1, 34)] := zDL.of (by decide +kernel)
section
variable {p : Program} {l : Launch} {e : Env} {s : State} {m : MethodId} {args : Array Value} {below : List Frame} {meth : Method} {c : Code} {G : zG} {top : Int} {L : zL} {fu : Nat}
theorem Fr_init_w (E : zEv p m c cX2_init 2 s args RX2 meth none G) (hn : meth.name = "<init>") {res : (Int × zL × zM)} {top : Int} {L : zL} {M : zM} {a0 : Int} {a1 : Int} {H : Heap} {locs : List Loc} {ls : Array Slot} (ha0 : InR a0) (ha1 : InR a1) (S : zS G top L M s H locs) (hl : zLV ls 2 [some (zR G.2.2.1 a0), some (zR G.2.2.1 a1)]) (h : Fr_init fu top L M a0 a1 = some res) : W p l e (zrm 1 3 24) s m args below meth c H locs 0 0 (MQ below (zQ G res.1 res.2.1 res.2.2 none True) args s 3 24 (zA G)) (F0 m 0 ls []) := by
  unfold Fr_init at h
  refine u_al_n (x := a0) E (Fr_init_dc.at 0 rfl) hl rfl ?_
  obtain ⟨g1, h⟩ := ite_e h
  refine r_obj (rest := []) E zw_1_80 zw_1_32 zw_1_33 (S.1.tag g1 (by decide)).1 hl.size (by decide) (by simp [zR_cat, zcat_I, zcat_J, zcat_S, zrm]) (Fr_init_dc.at 1 rfl) ?_
  refine u_al_n (x := a0) E (Fr_init_dc.at 2 rfl) hl rfl ?_
  refine r_bipush E (Fr_init_dc.at 3 rfl) rfl ?_
  obtain ⟨g2, h⟩ := ite_e h
  obtain ⟨T3, eT3, h⟩ := lt1_e h
  obtain ⟨L4, eL4, h⟩ := lt1_e h
  obtain ⟨M5, eM5, h⟩ := lt1_e h
  refine u_newI (k := 8) E S eT3 eL4 eM5 zw_1_74 (by decide) g2 rfl ⟨Nat.le_of_ble_eq_true rfl, Nat.le_of_ble_eq_true rfl⟩ (Fr_init_dc.at 4 rfl) (fun H S6 g7 => ?_)
  obtain ⟨g8, h⟩ := ite_e h
  obtain ⟨M9, eM9, h⟩ := lt1_e h
  refine u_pR E eM9 zf_2_1 S6 g8 (S6.1.refR g7 (by decide)) (Or.inr ⟨rfl, hn, rfl⟩) zw_1_82 (Fr_init_dc.at 5 rfl) (fun H locs S10 => ?_)
  refine u_al_n (x := a0) E (Fr_init_dc.at 6 rfl) hl rfl ?_
  refine r_bipush E (Fr_init_dc.at 7 rfl) rfl ?_
  obtain ⟨g11, h⟩ := ite_e h
  obtain ⟨T12, eT12, h⟩ := lt1_e h
  obtain ⟨L13, eL13, h⟩ := lt1_e h
  obtain ⟨M14, eM14, h⟩ := lt1_e h
  refine u_newI (k := 8) E S10 eT12 eL13 eM14 zw_1_74 (by decide) g11 rfl ⟨Nat.le_of_ble_eq_true rfl, Nat.le_of_ble_eq_true rfl⟩ (Fr_init_dc.at 8 rfl) (fun H S15 g16 => ?_)
  obtain ⟨g17, h⟩ := ite_e h
  obtain ⟨M18, eM18, h⟩ := lt1_e h
  refine u_pR E eM18 zf_2_2 S15 g17 (S15.1.refR g16 (by decide)) (Or.inr ⟨rfl, hn, rfl⟩) zw_1_83 (Fr_init_dc.at 9 rfl) (fun H locs S19 => ?_)
  refine u_al_n (x := a0) E (Fr_init_dc.at 10 rfl) hl rfl ?_
  refine r_bipush E (Fr_init_dc.at 11 rfl) rfl ?_
  obtain ⟨g20, h⟩ := ite_e h
  obtain ⟨T21, eT21, h⟩ := lt1_e h
  obtain ⟨L22, eL22, h⟩ := lt1_e h
  obtain ⟨M23, eM23, h⟩ := lt1_e h
  refine u_newI (k := 8) E S19 eT21 eL22 eM23 zw_1_74 (by decide) g20 rfl ⟨Nat.le_of_ble_eq_true rfl, Nat.le_of_ble_eq_true rfl⟩ (Fr_init_dc.at 12 rfl) (fun H S24 g25 => ?_)
  obtain ⟨g26, h⟩ := ite_e h
  obtain ⟨M27, eM27, h⟩ := lt1_e h
  refine u_pR E eM27 zf_2_3 S24 g26 (S24.1.refR g25 (by decide)) (Or.inr ⟨rfl, hn, rfl⟩) zw_1_84 (Fr_init_dc.at 13 rfl) (fun H locs S28 => ?_)
  refine u_al_n (x := a0) E (Fr_init_dc.at 14 rfl) hl rfl ?_
  refine u_al_n (x := a1) E (Fr_init_dc.at 15 rfl) hl rfl ?_
  obtain ⟨M29, eM29, h⟩ := lt1_e h
  refine u_pR E eM29 zf_2_0 S28 g26 ha1 (Or.inr ⟨rfl, hn, rfl⟩) zw_1_81 (Fr_init_dc.at 16 rfl) (fun H locs S30 => ?_)
  cases h
  refine W.widen (k := 3) (n := 24) (by omega) (by omega) ?_
  exact r_vret E S30 True.intro (Fr_init_dc.at 17 rfl)
theorem Fr_init_c (l : Launch) (G : zG) (fu : Nat) (top : Int) (L : zL) (M : zM) (a0 : Int) (a1 : Int) {res : (Int × zL × zM)} (ha0 : InR a0) (ha1 : InR a1) (h : Fr_init fu top L M a0 a1 = some res) : Met l yX2_init (Cond.code yX2_init cX2_init 2 none :: zTB) (zrm 1 3 24) (va_Pc [zR G.2.2.1 a0, zR G.2.2.1 a1] (zPre G top L M)) (zQ G res.1 res.2.1 res.2.2 none True) 3 24 (zA G) :=
  z_met (by decide +kernel) (by simp [zR_cat, zcat_I, zcat_S]) (Nat.le_of_ble_eq_true rfl) fun p e s m below meth c ls E hn S hl => Fr_init_w E hn ha0 ha1 S (hl.sub (And.intro rfl (And.intro rfl True.intro))) h
end
theorem Gr_init_dc : zDL cX4_init [(0, .aload_n 0, 1, 1), (1, .invokespecial 3, 3, 4), (4, .aload_n 0, 1, 5), (5, .bipush 31, 2, 7), (7, .newarray .int, 2, 9), (9, .putfield 9, 3, 12), (12, .aload_n 0, 1, 13), (13, .bipush 31, 2, 15), (15, .newarray .int, 2, 17), (17, .putfield 15, 3, 20), (20, .aload_n 0, 1, 21), (21, .bipush 31, 2, 23), (23, .newarray .int, 2, 25), (25, .putfield 18, 3, 28), (28, .aload_n 0, 1, 29), (29, .bipush 31, 2, 31), (31, .newarray .int, 2, 33), (33, .putfield 21, 3, 36), (36, .aload_n 0, 1, 37), (37, .bipush 16, 2, 39), (39, .newarray .int, 2, 41), (41, .putfield 24, 3, 44), (44, .aload_n 0, 1, 45), (45, .sipush 600, 3, 48), (48, .newarray .int, 2, 50), (50, .putfield 27, 3, 53), (53, .aload_n 0, 1, 54), (54, .aload_n 1, 1, 55), (55, .putfield 30, 3, 58), (58, .return_, 1, 59)] := zDL.of (by decide +kernel)
section
variable {p : Program} {l : Launch} {e : Env} {s : State} {m : MethodId} {args : Array Value} {below : List Frame} {meth : Method} {c : Code} {G : zG} {top : Int} {L : zL} {fu : Nat}
theorem Gr_init_w (E : zEv p m c cX4_init 2 s args RX4 meth none G) (hn : meth.name = "<init>") {res : (Int × zL × zM)} {top : Int} {L : zL} {M : zM} {a0 : Int} {a1 : Int} {H : Heap} {locs : List Loc} {ls : Array Slot} (ha0 : InR a0) (ha1 : InR a1) (S : zS G top L M s H locs) (hl : zLV ls 2 [some (zR G.2.2.1 a0), some (zR G.2.2.1 a1)]) (h : Gr_init fu top L M a0 a1 = some res) : W p l e (zrm 1 6 740) s m args below meth c H locs 0 0 (MQ below (zQ G res.1 res.2.1 res.2.2 none True) args s 6 740 (zA G)) (F0 m 0 ls []) := by
  unfold Gr_init at h
  refine u_al_n (x := a0) E (Gr_init_dc.at 0 rfl) hl rfl ?_
  obtain ⟨g1, h⟩ := ite_e h
  refine r_obj (rest := []) E zw_1_102 zw_1_32 zw_1_33 (S.1.tag g1 (by decide)).1 hl.size (by decide) (by simp [zR_cat, zcat_I, zcat_J, zcat_S, zrm]) (Gr_init_dc.at 1 rfl) ?_
  refine u_al_n (x := a0) E (Gr_init_dc.at 2 rfl) hl rfl ?_
  refine r_bipush E (Gr_init_dc.at 3 rfl) rfl ?_
  obtain ⟨g2, h⟩ := ite_e h
  obtain ⟨T3, eT3, h⟩ := lt1_e h
  obtain ⟨L4, eL4, h⟩ := lt1_e h
  obtain ⟨M5, eM5, h⟩ := lt1_e h
  refine u_newI (k := 31) E S eT3 eL4 eM5 zw_1_74 (by decide) g2 rfl ⟨Nat.le_of_ble_eq_true rfl, Nat.le_of_ble_eq_true rfl⟩ (Gr_init_dc.at 4 rfl) (fun H S6 g7 => ?_)
  obtain ⟨g8, h⟩ := ite_e h
  obtain ⟨M9, eM9, h⟩ := lt1_e h
  refine u_pR E eM9 zf_4_1 S6 g8 (S6.1.refR g7 (by decide)) (Or.inr ⟨rfl, hn, rfl⟩) zw_1_104 (Gr_init_dc.at 5 rfl) (fun H locs S10 => ?_)
  refine u_al_n (x := a0) E (Gr_init_dc.at 6 rfl) hl rfl ?_
  refine r_bipush E (Gr_init_dc.at 7 rfl) rfl ?_
  obtain ⟨g11, h⟩ := ite_e h
  obtain ⟨T12, eT12, h⟩ := lt1_e h
  obtain ⟨L13, eL13, h⟩ := lt1_e h
  obtain ⟨M14, eM14, h⟩ := lt1_e h
  refine u_newI (k := 31) E S10 eT12 eL13 eM14 zw_1_74 (by decide) g11 rfl ⟨Nat.le_of_ble_eq_true rfl, Nat.le_of_ble_eq_true rfl⟩ (Gr_init_dc.at 8 rfl) (fun H S15 g16 => ?_)
  obtain ⟨g17, h⟩ := ite_e h
  obtain ⟨M18, eM18, h⟩ := lt1_e h
  refine u_pR E eM18 zf_4_2 S15 g17 (S15.1.refR g16 (by decide)) (Or.inr ⟨rfl, hn, rfl⟩) zw_1_106 (Gr_init_dc.at 9 rfl) (fun H locs S19 => ?_)
  refine u_al_n (x := a0) E (Gr_init_dc.at 10 rfl) hl rfl ?_
  refine r_bipush E (Gr_init_dc.at 11 rfl) rfl ?_
  obtain ⟨g20, h⟩ := ite_e h
  obtain ⟨T21, eT21, h⟩ := lt1_e h
  obtain ⟨L22, eL22, h⟩ := lt1_e h
  obtain ⟨M23, eM23, h⟩ := lt1_e h
  refine u_newI (k := 31) E S19 eT21 eL22 eM23 zw_1_74 (by decide) g20 rfl ⟨Nat.le_of_ble_eq_true rfl, Nat.le_of_ble_eq_true rfl⟩ (Gr_init_dc.at 12 rfl) (fun H S24 g25 => ?_)
  obtain ⟨g26, h⟩ := ite_e h
  obtain ⟨M27, eM27, h⟩ := lt1_e h
  refine u_pR E eM27 zf_4_3 S24 g26 (S24.1.refR g25 (by decide)) (Or.inr ⟨rfl, hn, rfl⟩) zw_1_108 (Gr_init_dc.at 13 rfl) (fun H locs S28 => ?_)
  refine u_al_n (x := a0) E (Gr_init_dc.at 14 rfl) hl rfl ?_
  refine r_bipush E (Gr_init_dc.at 15 rfl) rfl ?_
  obtain ⟨g29, h⟩ := ite_e h
  obtain ⟨T30, eT30, h⟩ := lt1_e h
  obtain ⟨L31, eL31, h⟩ := lt1_e h
  obtain ⟨M32, eM32, h⟩ := lt1_e h
  refine u_newI (k := 31) E S28 eT30 eL31 eM32 zw_1_74 (by decide) g29 rfl ⟨Nat.le_of_ble_eq_true rfl, Nat.le_of_ble_eq_true rfl⟩ (Gr_init_dc.at 16 rfl) (fun H S33 g34 => ?_)
  obtain ⟨g35, h⟩ := ite_e h
  obtain ⟨M36, eM36, h⟩ := lt1_e h
  refine u_pR E eM36 zf_4_4 S33 g35 (S33.1.refR g34 (by decide)) (Or.inr ⟨rfl, hn, rfl⟩) zw_1_110 (Gr_init_dc.at 17 rfl) (fun H locs S37 => ?_)
  refine u_al_n (x := a0) E (Gr_init_dc.at 18 rfl) hl rfl ?_
  refine r_bipush E (Gr_init_dc.at 19 rfl) rfl ?_
  obtain ⟨g38, h⟩ := ite_e h
  obtain ⟨T39, eT39, h⟩ := lt1_e h
  obtain ⟨L40, eL40, h⟩ := lt1_e h
  obtain ⟨M41, eM41, h⟩ := lt1_e h
  refine u_newI (k := 16) E S37 eT39 eL40 eM41 zw_1_74 (by decide) g38 rfl ⟨Nat.le_of_ble_eq_true rfl, Nat.le_of_ble_eq_true rfl⟩ (Gr_init_dc.at 20 rfl) (fun H S42 g43 => ?_)
  obtain ⟨g44, h⟩ := ite_e h
  obtain ⟨M45, eM45, h⟩ := lt1_e h
  refine u_pR E eM45 zf_4_5 S42 g44 (S42.1.refR g43 (by decide)) (Or.inr ⟨rfl, hn, rfl⟩) zw_1_112 (Gr_init_dc.at 21 rfl) (fun H locs S46 => ?_)
  refine u_al_n (x := a0) E (Gr_init_dc.at 22 rfl) hl rfl ?_
  refine r_sipush E (Gr_init_dc.at 23 rfl) rfl ?_
  obtain ⟨g47, h⟩ := ite_e h
  obtain ⟨T48, eT48, h⟩ := lt1_e h
  obtain ⟨L49, eL49, h⟩ := lt1_e h
  obtain ⟨M50, eM50, h⟩ := lt1_e h
  refine u_newI (k := 600) E S46 eT48 eL49 eM50 zw_1_74 (by decide) g47 rfl ⟨Nat.le_of_ble_eq_true rfl, Nat.le_of_ble_eq_true rfl⟩ (Gr_init_dc.at 24 rfl) (fun H S51 g52 => ?_)
  obtain ⟨g53, h⟩ := ite_e h
  obtain ⟨M54, eM54, h⟩ := lt1_e h
  refine u_pR E eM54 zf_4_6 S51 g53 (S51.1.refR g52 (by decide)) (Or.inr ⟨rfl, hn, rfl⟩) zw_1_114 (Gr_init_dc.at 25 rfl) (fun H locs S55 => ?_)
  refine u_al_n (x := a0) E (Gr_init_dc.at 26 rfl) hl rfl ?_
  refine u_al_n (x := a1) E (Gr_init_dc.at 27 rfl) hl rfl ?_
  obtain ⟨M56, eM56, h⟩ := lt1_e h
  refine u_pR E eM56 zf_4_0 S55 g53 ha1 (Or.inr ⟨rfl, hn, rfl⟩) zw_1_103 (Gr_init_dc.at 28 rfl) (fun H locs S57 => ?_)
  cases h
  refine W.widen (k := 6) (n := 740) (by omega) (by omega) ?_
  exact r_vret E S57 True.intro (Gr_init_dc.at 29 rfl)
theorem Gr_init_c (l : Launch) (G : zG) (fu : Nat) (top : Int) (L : zL) (M : zM) (a0 : Int) (a1 : Int) {res : (Int × zL × zM)} (ha0 : InR a0) (ha1 : InR a1) (h : Gr_init fu top L M a0 a1 = some res) : Met l yX4_init (Cond.code yX4_init cX4_init 2 none :: zTB) (zrm 1 6 740) (va_Pc [zR G.2.2.1 a0, zR G.2.2.1 a1] (zPre G top L M)) (zQ G res.1 res.2.1 res.2.2 none True) 6 740 (zA G) :=
  z_met (by decide +kernel) (by simp [zR_cat, zcat_I, zcat_S]) (Nat.le_of_ble_eq_true rfl) fun p e s m below meth c ls E hn S hl => Gr_init_w E hn ha0 ha1 S (hl.sub (And.intro rfl (And.intro rfl True.intro))) h
end
theorem Sr_init_dc : zDL cX6_init [(0, .aload_n 0, 1, 1), (1, .invokespecial 3, 3, 4), (4, .aload_n 0, 1, 5), (5, .bipush 30, 2, 7), (7, .newarray .int, 2, 9), (9, .putfield 9, 3, 12), (12, .aload_n 0, 1, 13), (13, .bipush 30, 2, 15), (15, .newarray .int, 2, 17), (17, .putfield 15, 3, 20), (20, .aload_n 0, 1, 21), (21, .aload_n 1, 1, 22), (22, .putfield 18, 3, 25), (25, .return_, 1, 26)] := zDL.of (by decide +kernel)
section
variable {p : Program} {l : Launch} {e : Env} {s : State} {m : MethodId} {args : Array Value} {below : List Frame} {meth : Method} {c : Code} {G : zG} {top : Int} {L : zL} {fu : Nat}
theorem Sr_init_w (E : zEv p m c cX6_init 2 s args RX6 meth none G) (hn : meth.name = "<init>") {res : (Int × zL × zM)} {top : Int} {L : zL} {M : zM} {a0 : Int} {a1 : Int} {H : Heap} {locs : List Loc} {ls : Array Slot} (ha0 : InR a0) (ha1 : InR a1) (S : zS G top L M s H locs) (hl : zLV ls 2 [some (zR G.2.2.1 a0), some (zR G.2.2.1 a1)]) (h : Sr_init fu top L M a0 a1 = some res) : W p l e (zrm 1 2 60) s m args below meth c H locs 0 0 (MQ below (zQ G res.1 res.2.1 res.2.2 none True) args s 2 60 (zA G)) (F0 m 0 ls []) := by
  unfold Sr_init at h
  refine u_al_n (x := a0) E (Sr_init_dc.at 0 rfl) hl rfl ?_
  obtain ⟨g1, h⟩ := ite_e h
  refine r_obj (rest := []) E zw_1_160 zw_1_32 zw_1_33 (S.1.tag g1 (by decide)).1 hl.size (by decide) (by simp [zR_cat, zcat_I, zcat_J, zcat_S, zrm]) (Sr_init_dc.at 1 rfl) ?_
  refine u_al_n (x := a0) E (Sr_init_dc.at 2 rfl) hl rfl ?_
  refine r_bipush E (Sr_init_dc.at 3 rfl) rfl ?_
  obtain ⟨g2, h⟩ := ite_e h
  obtain ⟨T3, eT3, h⟩ := lt1_e h
  obtain ⟨L4, eL4, h⟩ := lt1_e h
  obtain ⟨M5, eM5, h⟩ := lt1_e h
  refine u_newI (k := 30) E S eT3 eL4 eM5 zw_1_74 (by decide) g2 rfl ⟨Nat.le_of_ble_eq_true rfl, Nat.le_of_ble_eq_true rfl⟩ (Sr_init_dc.at 4 rfl) (fun H S6 g7 => ?_)
  obtain ⟨g8, h⟩ := ite_e h
  obtain ⟨M9, eM9, h⟩ := lt1_e h
  refine u_pR E eM9 zf_6_1 S6 g8 (S6.1.refR g7 (by decide)) (Or.inr ⟨rfl, hn, rfl⟩) zw_1_162 (Sr_init_dc.at 5 rfl) (fun H locs S10 => ?_)
  refine u_al_n (x := a0) E (Sr_init_dc.at 6 rfl) hl rfl ?_
  refine r_bipush E (Sr_init_dc.at 7 rfl) rfl ?_
  obtain ⟨g11, h⟩ := ite_e h
  obtain ⟨T12, eT12, h⟩ := lt1_e h
  obtain ⟨L13, eL13, h⟩ := lt1_e h
  obtain ⟨M14, eM14, h⟩ := lt1_e h
  refine u_newI (k := 30) E S10 eT12 eL13 eM14 zw_1_74 (by decide) g11 rfl ⟨Nat.le_of_ble_eq_true rfl, Nat.le_of_ble_eq_true rfl⟩ (Sr_init_dc.at 8 rfl) (fun H S15 g16 => ?_)
  obtain ⟨g17, h⟩ := ite_e h
  obtain ⟨M18, eM18, h⟩ := lt1_e h
  refine u_pR E eM18 zf_6_2 S15 g17 (S15.1.refR g16 (by decide)) (Or.inr ⟨rfl, hn, rfl⟩) zw_1_163 (Sr_init_dc.at 9 rfl) (fun H locs S19 => ?_)
  refine u_al_n (x := a0) E (Sr_init_dc.at 10 rfl) hl rfl ?_
  refine u_al_n (x := a1) E (Sr_init_dc.at 11 rfl) hl rfl ?_
  obtain ⟨M20, eM20, h⟩ := lt1_e h
  refine u_pR E eM20 zf_6_0 S19 g17 ha1 (Or.inr ⟨rfl, hn, rfl⟩) zw_1_161 (Sr_init_dc.at 12 rfl) (fun H locs S21 => ?_)
  cases h
  refine W.widen (k := 2) (n := 60) (by omega) (by omega) ?_
  exact r_vret E S21 True.intro (Sr_init_dc.at 13 rfl)
theorem Sr_init_c (l : Launch) (G : zG) (fu : Nat) (top : Int) (L : zL) (M : zM) (a0 : Int) (a1 : Int) {res : (Int × zL × zM)} (ha0 : InR a0) (ha1 : InR a1) (h : Sr_init fu top L M a0 a1 = some res) : Met l yX6_init (Cond.code yX6_init cX6_init 2 none :: zTB) (zrm 1 2 60) (va_Pc [zR G.2.2.1 a0, zR G.2.2.1 a1] (zPre G top L M)) (zQ G res.1 res.2.1 res.2.2 none True) 2 60 (zA G) :=
  z_met (by decide +kernel) (by simp [zR_cat, zcat_I, zcat_S]) (Nat.le_of_ble_eq_true rfl) fun p e s m below meth c ls E hn S hl => Sr_init_w E hn ha0 ha1 S (hl.sub (And.intro rfl (And.intro rfl True.intro))) h
end
theorem Wd_init_dc : zDL cX10_init [(0, .aload_n 0, 1, 1), (1, .invokespecial 3, 3, 4), (4, .aload_n 0, 1, 5), (5, .bipush 24, 2, 7), (7, .newarray .int, 2, 9), (9, .putfield 9, 3, 12), (12, .aload_n 0, 1, 13), (13, .bipush 24, 2, 15), (15, .newarray .int, 2, 17), (17, .putfield 15, 3, 20), (20, .aload_n 0, 1, 21), (21, .bipush 24, 2, 23), (23, .newarray .int, 2, 25), (25, .putfield 18, 3, 28), (28, .return_, 1, 29)] := zDL.of (by decide +kernel)
section
variable {p : Program} {l : Launch} {e : Env} {s : State} {m : MethodId} {args : Array Value} {below : List Frame} {meth : Method} {c : Code} {G : zG} {top : Int} {L : zL} {fu : Nat}
theorem Wd_init_w (E : zEv p m c cX10_init 1 s args RX10 meth none G) (hn : meth.name = "<init>") {res : (Int × zL × zM)} {top : Int} {L : zL} {M : zM} {a0 : Int} {H : Heap} {locs : List Loc} {ls : Array Slot} (ha0 : InR a0) (S : zS G top L M s H locs) (hl : zLV ls 1 [some (zR G.2.2.1 a0)]) (h : Wd_init fu top L M a0 = some res) : W p l e (zrm 1 3 72) s m args below meth c H locs 0 0 (MQ below (zQ G res.1 res.2.1 res.2.2 none True) args s 3 72 (zA G)) (F0 m 0 ls []) := by
  unfold Wd_init at h
  refine u_al_n (x := a0) E (Wd_init_dc.at 0 rfl) hl rfl ?_
  obtain ⟨g1, h⟩ := ite_e h
  refine r_obj (rest := []) E zw_1_189 zw_1_32 zw_1_33 (S.1.tag g1 (by decide)).1 hl.size (by decide) (by simp [zR_cat, zcat_I, zcat_J, zcat_S, zrm]) (Wd_init_dc.at 1 rfl) ?_
  refine u_al_n (x := a0) E (Wd_init_dc.at 2 rfl) hl rfl ?_
  refine r_bipush E (Wd_init_dc.at 3 rfl) rfl ?_
  obtain ⟨g2, h⟩ := ite_e h
  obtain ⟨T3, eT3, h⟩ := lt1_e h
  obtain ⟨L4, eL4, h⟩ := lt1_e h
  obtain ⟨M5, eM5, h⟩ := lt1_e h
  refine u_newI (k := 24) E S eT3 eL4 eM5 zw_1_74 (by decide) g2 rfl ⟨Nat.le_of_ble_eq_true rfl, Nat.le_of_ble_eq_true rfl⟩ (Wd_init_dc.at 4 rfl) (fun H S6 g7 => ?_)
  obtain ⟨g8, h⟩ := ite_e h
  obtain ⟨M9, eM9, h⟩ := lt1_e h
  refine u_pR E eM9 zf_10_0 S6 g8 (S6.1.refR g7 (by decide)) (Or.inr ⟨rfl, hn, rfl⟩) zw_1_190 (Wd_init_dc.at 5 rfl) (fun H locs S10 => ?_)
  refine u_al_n (x := a0) E (Wd_init_dc.at 6 rfl) hl rfl ?_
  refine r_bipush E (Wd_init_dc.at 7 rfl) rfl ?_
  obtain ⟨g11, h⟩ := ite_e h
  obtain ⟨T12, eT12, h⟩ := lt1_e h
  obtain ⟨L13, eL13, h⟩ := lt1_e h
  obtain ⟨M14, eM14, h⟩ := lt1_e h
  refine u_newI (k := 24) E S10 eT12 eL13 eM14 zw_1_74 (by decide) g11 rfl ⟨Nat.le_of_ble_eq_true rfl, Nat.le_of_ble_eq_true rfl⟩ (Wd_init_dc.at 8 rfl) (fun H S15 g16 => ?_)
  obtain ⟨g17, h⟩ := ite_e h
  obtain ⟨M18, eM18, h⟩ := lt1_e h
  refine u_pR E eM18 zf_10_1 S15 g17 (S15.1.refR g16 (by decide)) (Or.inr ⟨rfl, hn, rfl⟩) zw_1_191 (Wd_init_dc.at 9 rfl) (fun H locs S19 => ?_)
  refine u_al_n (x := a0) E (Wd_init_dc.at 10 rfl) hl rfl ?_
  refine r_bipush E (Wd_init_dc.at 11 rfl) rfl ?_
  obtain ⟨g20, h⟩ := ite_e h
  obtain ⟨T21, eT21, h⟩ := lt1_e h
  obtain ⟨L22, eL22, h⟩ := lt1_e h
  obtain ⟨M23, eM23, h⟩ := lt1_e h
  refine u_newI (k := 24) E S19 eT21 eL22 eM23 zw_1_74 (by decide) g20 rfl ⟨Nat.le_of_ble_eq_true rfl, Nat.le_of_ble_eq_true rfl⟩ (Wd_init_dc.at 12 rfl) (fun H S24 g25 => ?_)
  obtain ⟨g26, h⟩ := ite_e h
  obtain ⟨M27, eM27, h⟩ := lt1_e h
  refine u_pR E eM27 zf_10_2 S24 g26 (S24.1.refR g25 (by decide)) (Or.inr ⟨rfl, hn, rfl⟩) zw_1_192 (Wd_init_dc.at 13 rfl) (fun H locs S28 => ?_)
  cases h
  refine W.widen (k := 3) (n := 72) (by omega) (by omega) ?_
  exact r_vret E S28 True.intro (Wd_init_dc.at 14 rfl)
theorem Wd_init_c (l : Launch) (G : zG) (fu : Nat) (top : Int) (L : zL) (M : zM) (a0 : Int) {res : (Int × zL × zM)} (ha0 : InR a0) (h : Wd_init fu top L M a0 = some res) : Met l yX10_init (Cond.code yX10_init cX10_init 1 none :: zTB) (zrm 1 3 72) (va_Pc [zR G.2.2.1 a0] (zPre G top L M)) (zQ G res.1 res.2.1 res.2.2 none True) 3 72 (zA G) :=
  z_met (by decide +kernel) (by simp [zR_cat, zcat_I, zcat_S]) (Nat.le_of_ble_eq_true rfl) fun p e s m below meth c ls E hn S hl => Wd_init_w E hn ha0 S (hl.sub (And.intro rfl True.intro)) h
end
theorem Af_init_dc : zDL cX1_init [(0, .aload_n 0, 1, 1), (1, .invokespecial 3, 3, 4), (4, .aload_n 0, 1, 5), (5, .new 9, 3, 8), (8, .dup, 1, 9), (9, .invokespecial 11, 3, 12), (12, .putfield 12, 3, 15), (15, .aload_n 0, 1, 16), (16, .bipush 8, 2, 18), (18, .anewarray 18, 3, 21), (21, .putfield 20, 3, 24), (24, .return_, 1, 25)] := zDL.of (by decide +kernel)
section
variable {p : Program} {l : Launch} {e : Env} {s : State} {m : MethodId} {args : Array Value} {below : List Frame} {meth : Method} {c : Code} {G : zG} {top : Int} {L : zL} {fu : Nat}
theorem Af_init_w (E : zEv p m c cX1_init 1 s args RX1 meth none G) (hn : meth.name = "<init>") {res : (Int × zL × zM)} {top : Int} {L : zL} {M : zM} {a0 : Int} {H : Heap} {locs : List Loc} {ls : Array Slot} (ha0 : InR a0) (S : zS G top L M s H locs) (hl : zLV ls 1 [some (zR G.2.2.1 a0)]) (h : Af_init fu top L M a0 = some res) : W p l e (zrm 2 5 86) s m args below meth c H locs 0 0 (MQ below (zQ G res.1 res.2.1 res.2.2 none True) args s 5 86 (zA G)) (F0 m 0 ls []) := by
  unfold Af_init at h
  refine u_al_n (x := a0) E (Af_init_dc.at 0 rfl) hl rfl ?_
  obtain ⟨g1, h⟩ := ite_e h
  refine r_obj (rest := []) E zw_1_183 zw_1_32 zw_1_33 (S.1.tag g1 (by decide)).1 hl.size (by decide) (by simp [zR_cat, zcat_I, zcat_J, zcat_S, zrm]) (Af_init_dc.at 1 rfl) ?_
  refine u_al_n (x := a0) E (Af_init_dc.at 2 rfl) hl rfl ?_
  obtain ⟨g2, h⟩ := ite_e h
  obtain ⟨T3, eT3, h⟩ := lt1_e h
  obtain ⟨L4, eL4, h⟩ := lt1_e h
  obtain ⟨M5, eM5, h⟩ := lt1_e h
  refine u_new E S eT3 eL4 eM5 zck_10 rfl (zdf_10 _) zw_1_184 zw_1_185 zw_1_7 g2 ⟨Nat.le_of_ble_eq_true rfl, Nat.le_of_ble_eq_true rfl⟩ (Af_init_dc.at 3 rfl) (fun H S6 g7 => ?_)
  refine r_dup E (Af_init_dc.at 4 rfl) (zR_cat _ _) ?_
  obtain ⟨T8, L9, M10, eM10, h⟩ := bd3_e h
  refine u_cN (As := []) (rest := [zR G.2.2.1 top, zR G.2.2.1 a0]) E S6 zcw_yX10_init zw_1_187 rfl (List.mem_of_getElem? (i := 2) rfl) (S6.1.tag g7 (by decide)).1 (Wd_init_c l G fu T3 L4 M5 top (S6.1.refR g7 (by decide)) eM10) (zrm_ok (by decide) (by decide)) ⟨Nat.le_of_ble_eq_true rfl, Nat.le_of_ble_eq_true rfl⟩ rfl (by simp [zR_cat, zcat_I, zcat_J, zcat_S]) hl.size rfl (Af_init_dc.at 5 rfl) (fun H locs _ S11 => ?_)
  obtain ⟨g12, h⟩ := ite_e h
  obtain ⟨M13, eM13, h⟩ := lt1_e h
  refine u_pR E eM13 zf_1_0 S11 g12 (S6.1.refR g7 (by decide)) (Or.inr ⟨rfl, hn, rfl⟩) zw_1_220 (Af_init_dc.at 6 rfl) (fun H locs S14 => ?_)
  refine u_al_n (x := a0) E (Af_init_dc.at 7 rfl) hl rfl ?_
  refine r_bipush E (Af_init_dc.at 8 rfl) rfl ?_
  obtain ⟨g15, h⟩ := ite_e h
  obtain ⟨T16, eT16, h⟩ := lt1_e h
  obtain ⟨L17, eL17, h⟩ := lt1_e h
  obtain ⟨M18, eM18, h⟩ := lt1_e h
  refine u_anew (k := 8) E S14 eT16 eL17 eM18 (Or.inl ⟨rfl, rfl, rfl⟩) zw_1_218 (by decide) g15 rfl ⟨Nat.le_of_ble_eq_true rfl, Nat.le_of_ble_eq_true rfl⟩ (Af_init_dc.at 9 rfl) (fun H S19 g20 => ?_)
  obtain ⟨g21, h⟩ := ite_e h
  obtain ⟨M22, eM22, h⟩ := lt1_e h
  refine u_pR E eM22 zf_1_1 S19 g21 (S19.1.refR g20 (by decide)) (Or.inr ⟨rfl, hn, rfl⟩) zw_1_224 (Af_init_dc.at 10 rfl) (fun H locs S23 => ?_)
  cases h
  refine W.widen (k := 5) (n := 86) (by omega) (by omega) ?_
  exact r_vret E S23 True.intro (Af_init_dc.at 11 rfl)
theorem Af_init_c (l : Launch) (G : zG) (fu : Nat) (top : Int) (L : zL) (M : zM) (a0 : Int) {res : (Int × zL × zM)} (ha0 : InR a0) (h : Af_init fu top L M a0 = some res) : Met l yX1_init (Cond.code yX1_init cX1_init 1 none :: zTB) (zrm 2 5 86) (va_Pc [zR G.2.2.1 a0] (zPre G top L M)) (zQ G res.1 res.2.1 res.2.2 none True) 5 86 (zA G) :=
  z_met (by decide +kernel) (by simp [zR_cat, zcat_I, zcat_S]) (Nat.le_of_ble_eq_true rfl) fun p e s m below meth c ls E hn S hl => Af_init_w E hn ha0 S (hl.sub (And.intro rfl True.intro)) h
end
theorem Ac_init_dc : zDL cX0_init [(0, .aload_n 0, 1, 1), (1, .invokespecial 3, 3, 4), (4, .aload_n 0, 1, 5), (5, .bipush 16, 2, 7), (7, .anewarray 9, 3, 10), (10, .putfield 11, 3, 13), (13, .iconst 0, 1, 14), (14, .istore_n 1, 1, 15), (15, .iload_n 1, 1, 16), (16, .aload_n 0, 1, 17), (17, .getfield 11, 3, 20), (20, .arraylength, 1, 21), (21, .if_icmp .ge 22, 3, 24), (24, .aload_n 0, 1, 25), (25, .getfield 11, 3, 28), (28, .iload_n 1, 1, 29), (29, .new 9, 3, 32), (32, .dup, 1, 33), (33, .invokespecial 17, 3, 36), (36, .aastore, 1, 37), (37, .iinc 1 1, 3, 40), (40, .goto (-25), 3, 43), (43, .return_, 1, 44)] := zDL.of (by decide +kernel)
section
variable {p : Program} {l : Launch} {e : Env} {s : State} {m : MethodId} {args : Array Value} {below : List Frame} {meth : Method} {c : Code} {G : zG} {top : Int} {L : zL} {fu : Nat}
set_option maxRecDepth 20000 in
set_option maxHeartbeats 4000000 in
theorem Ac_init_w (E : zEv p m c cX0_init 2 s args RX0 meth none G) (hn : meth.name = "<init>") {res : (Int × zL × zM)} {top : Int} {L : zL} {M : zM} {a0 : Int} {H : Heap} {locs : List Loc} {ls : Array Slot} (ha0 : InR a0) (S : zS G top L M s H locs) (hl : zLV ls 2 [some (zR G.2.2.1 a0), none]) (h : Ac_init fu top L M a0 = some res) : W p l e (zrm 3 103 1563) s m args below meth c H locs 0 0 (MQ below (zQ G res.1 res.2.1 res.2.2 none True) args s 103 1563 (zA G)) (F0 m 0 ls []) := by
  unfold Ac_init at h
  refine u_al_n (x := a0) E (Ac_init_dc.at 0 rfl) hl rfl ?_
  obtain ⟨g1, h⟩ := ite_e h
  refine r_obj (rest := []) E zw_2_9 zw_1_32 zw_1_33 (S.1.tag g1 (by decide)).1 hl.size (by decide) (by simp [zR_cat, zcat_I, zcat_J, zcat_S, zrm]) (Ac_init_dc.at 1 rfl) ?_
  refine u_al_n (x := a0) E (Ac_init_dc.at 2 rfl) hl rfl ?_
  refine r_bipush E (Ac_init_dc.at 3 rfl) rfl ?_
  obtain ⟨g2, h⟩ := ite_e h
  obtain ⟨T3, eT3, h⟩ := lt1_e h
  obtain ⟨L4, eL4, h⟩ := lt1_e h
  obtain ⟨M5, eM5, h⟩ := lt1_e h
  refine u_anew (k := 16) E S eT3 eL4 eM5 (Or.inr ⟨rfl, rfl, rfl⟩) zw_2_10 (by decide) g2 rfl ⟨Nat.le_of_ble_eq_true rfl, Nat.le_of_ble_eq_true rfl⟩ (Ac_init_dc.at 4 rfl) (fun H S6 g7 => ?_)
  obtain ⟨g8, h⟩ := ite_e h
  obtain ⟨M9, eM9, h⟩ := lt1_e h
  refine u_pR E eM9 zf_0_0 S6 g8 (S6.1.refR g7 (by decide)) (Or.inr ⟨rfl, hn, rfl⟩) zw_2_13 (Ac_init_dc.at 5 rfl) (fun H locs S10 => ?_)
  refine r_iconst E (Ac_init_dc.at 6 rfl) ?_
  refine u_ist_n (y := 0) (vs' := [some (zR G.2.2.1 a0), some (.int (zO 0))]) E rfl (Ac_init_dc.at 7 rfl) hl (by decide) rfl (fun ls hl => ?_)
  refine u_il_n (x := 0) E (Ac_init_dc.at 8 rfl) hl rfl ?_
  refine u_al_n (x := a0) E (Ac_init_dc.at 9 rfl) hl rfl ?_
  refine u_gR E zf_0_0 S10 g8 zw_2_13 (Ac_init_dc.at 10 rfl) ?_
  obtain ⟨g11, h⟩ := ite_e h
  refine r_alen E S10 g11 (by decide) (Ac_init_dc.at 11 rfl) ?_
  refine r_icmp_ge (tgt := 43) E (show InR 0 by decide) (S10.1.lenR _) (Ac_init_dc.at 12 rfl) (by decide) (fun q => ?_) (fun q => ?_)
  · have h := ite_t h q
    refine u_al_n (x := a0) E (Ac_init_dc.at 13 rfl) hl rfl ?_
    refine u_gR E zf_0_0 S10 g8 zw_2_13 (Ac_init_dc.at 14 rfl) ?_
    refine u_il_n (x := 0) E (Ac_init_dc.at 15 rfl) hl rfl ?_
    obtain ⟨g12, h⟩ := ite_e h
    obtain ⟨T13, eT13, h⟩ := lt1_e h
    obtain ⟨L14, eL14, h⟩ := lt1_e h
    obtain ⟨M15, eM15, h⟩ := lt1_e h
    refine u_new E S10 eT13 eL14 eM15 zck_1 rfl (zdf_1 _) zw_2_10 zw_1_179 zw_1_6 g12 ⟨Nat.le_of_ble_eq_true rfl, Nat.le_of_ble_eq_true rfl⟩ (Ac_init_dc.at 16 rfl) (fun H S16 g17 => ?_)
    refine r_dup E (Ac_init_dc.at 17 rfl) (zR_cat _ _) ?_
    obtain ⟨T18, L19, M20, eM20, h⟩ := bd3_e h
    refine u_cN (As := []) (rest := [zR G.2.2.1 T3, .int (zO 0), zR G.2.2.1 (M9 a0 0)]) E S16 zcw_yX1_init zw_1_181 rfl (List.mem_of_getElem? (i := 3) rfl) (S16.1.tag g17 (by decide)).1 (Af_init_c l G fu T13 L14 M15 T3 (S16.1.refR g17 (by decide)) eM20) (zrm_ok (by decide) (by decide)) ⟨Nat.le_of_ble_eq_true rfl, Nat.le_of_ble_eq_true rfl⟩ rfl (by simp [zR_cat, zcat_I, zcat_J, zcat_S]) hl.size rfl (Ac_init_dc.at 18 rfl) (fun H locs _ S21 => ?_)
    obtain ⟨g22, h⟩ := ite_e h
    obtain ⟨g23, h⟩ := ite_e h
    obtain ⟨g24, h⟩ := ite_e h
    obtain ⟨M25, eM25, h⟩ := lt1_e h
    refine u_aastA E eM25 S21 g22 g23 g24 (Ac_init_dc.at 19 rfl) (fun H locs S26 => ?_)
    obtain ⟨v27, ev27, h⟩ := lt1_e h
    have hv27 := inR_eq ev27 (inR_w32 _)
    refine u_iinc (y := v27) (vs' := [some (zR G.2.2.1 a0), some (.int (zO v27))]) E ev27 (Ac_init_dc.at 20 rfl) hl rfl (by decide) rfl (fun ls hl => ?_)
    refine r_goto (tgt := 15) E (Ac_init_dc.at 21 rfl) (by decide) ?_
    refine u_il_n (x := v27) E (Ac_init_dc.at 8 rfl) hl rfl ?_
    refine u_al_n (x := a0) E (Ac_init_dc.at 9 rfl) hl rfl ?_
    obtain ⟨g28, h⟩ := ite_e h
    refine u_gR E zf_0_0 S26 g28 zw_2_13 (Ac_init_dc.at 10 rfl) ?_
    obtain ⟨g29, h⟩ := ite_e h
    refine r_alen E S26 g29 (by decide) (Ac_init_dc.at 11 rfl) ?_
    refine r_icmp_ge (tgt := 43) E hv27 (S26.1.lenR _) (Ac_init_dc.at 12 rfl) (by decide) (fun q => ?_) (fun q => ?_)
    · have h := ite_t h q
      refine u_al_n (x := a0) E (Ac_init_dc.at 13 rfl) hl rfl ?_
      refine u_gR E zf_0_0 S26 g28 zw_2_13 (Ac_init_dc.at 14 rfl) ?_
      refine u_il_n (x := v27) E (Ac_init_dc.at 15 rfl) hl rfl ?_
      obtain ⟨g30, h⟩ := ite_e h
      obtain ⟨T31, eT31, h⟩ := lt1_e h
      obtain ⟨L32, eL32, h⟩ := lt1_e h
      obtain ⟨M33, eM33, h⟩ := lt1_e h
      refine u_new E S26 eT31 eL32 eM33 zck_1 rfl (zdf_1 _) zw_2_10 zw_1_179 zw_1_6 g30 ⟨Nat.le_of_ble_eq_true rfl, Nat.le_of_ble_eq_true rfl⟩ (Ac_init_dc.at 16 rfl) (fun H S34 g35 => ?_)
      refine r_dup E (Ac_init_dc.at 17 rfl) (zR_cat _ _) ?_
      obtain ⟨T36, L37, M38, eM38, h⟩ := bd3_e h
      refine u_cN (As := []) (rest := [zR G.2.2.1 T18, .int (zO v27), zR G.2.2.1 (M25 a0 0)]) E S34 zcw_yX1_init zw_1_181 rfl (List.mem_of_getElem? (i := 3) rfl) (S34.1.tag g35 (by decide)).1 (Af_init_c l G fu T31 L32 M33 T18 (S34.1.refR g35 (by decide)) eM38) (zrm_ok (by decide) (by decide)) ⟨Nat.le_of_ble_eq_true rfl, Nat.le_of_ble_eq_true rfl⟩ rfl (by simp [zR_cat, zcat_I, zcat_J, zcat_S]) hl.size rfl (Ac_init_dc.at 18 rfl) (fun H locs _ S39 => ?_)
      obtain ⟨g40, h⟩ := ite_e h
      obtain ⟨g41, h⟩ := ite_e h
      obtain ⟨g42, h⟩ := ite_e h
      obtain ⟨M43, eM43, h⟩ := lt1_e h
      refine u_aastA E eM43 S39 g40 g41 g42 (Ac_init_dc.at 19 rfl) (fun H locs S44 => ?_)
      obtain ⟨v45, ev45, h⟩ := lt1_e h
      have hv45 := inR_eq ev45 (inR_w32 _)
      refine u_iinc (y := v45) (vs' := [some (zR G.2.2.1 a0), some (.int (zO v45))]) E ev45 (Ac_init_dc.at 20 rfl) hl rfl (by decide) rfl (fun ls hl => ?_)
      refine r_goto (tgt := 15) E (Ac_init_dc.at 21 rfl) (by decide) ?_
      refine u_il_n (x := v45) E (Ac_init_dc.at 8 rfl) hl rfl ?_
      refine u_al_n (x := a0) E (Ac_init_dc.at 9 rfl) hl rfl ?_
      obtain ⟨g46, h⟩ := ite_e h
      refine u_gR E zf_0_0 S44 g46 zw_2_13 (Ac_init_dc.at 10 rfl) ?_
      obtain ⟨g47, h⟩ := ite_e h
      refine r_alen E S44 g47 (by decide) (Ac_init_dc.at 11 rfl) ?_
      refine r_icmp_ge (tgt := 43) E hv45 (S44.1.lenR _) (Ac_init_dc.at 12 rfl) (by decide) (fun q => ?_) (fun q => ?_)
      · have h := ite_t h q
        refine u_al_n (x := a0) E (Ac_init_dc.at 13 rfl) hl rfl ?_
        refine u_gR E zf_0_0 S44 g46 zw_2_13 (Ac_init_dc.at 14 rfl) ?_
        refine u_il_n (x := v45) E (Ac_init_dc.at 15 rfl) hl rfl ?_
        obtain ⟨g48, h⟩ := ite_e h
        obtain ⟨T49, eT49, h⟩ := lt1_e h
        obtain ⟨L50, eL50, h⟩ := lt1_e h
        obtain ⟨M51, eM51, h⟩ := lt1_e h
        refine u_new E S44 eT49 eL50 eM51 zck_1 rfl (zdf_1 _) zw_2_10 zw_1_179 zw_1_6 g48 ⟨Nat.le_of_ble_eq_true rfl, Nat.le_of_ble_eq_true rfl⟩ (Ac_init_dc.at 16 rfl) (fun H S52 g53 => ?_)
        refine r_dup E (Ac_init_dc.at 17 rfl) (zR_cat _ _) ?_
        obtain ⟨T54, L55, M56, eM56, h⟩ := bd3_e h
        refine u_cN (As := []) (rest := [zR G.2.2.1 T36, .int (zO v45), zR G.2.2.1 (M43 a0 0)]) E S52 zcw_yX1_init zw_1_181 rfl (List.mem_of_getElem? (i := 3) rfl) (S52.1.tag g53 (by decide)).1 (Af_init_c l G fu T49 L50 M51 T36 (S52.1.refR g53 (by decide)) eM56) (zrm_ok (by decide) (by decide)) ⟨Nat.le_of_ble_eq_true rfl, Nat.le_of_ble_eq_true rfl⟩ rfl (by simp [zR_cat, zcat_I, zcat_J, zcat_S]) hl.size rfl (Ac_init_dc.at 18 rfl) (fun H locs _ S57 => ?_)
        obtain ⟨g58, h⟩ := ite_e h
        obtain ⟨g59, h⟩ := ite_e h
        obtain ⟨g60, h⟩ := ite_e h
        obtain ⟨M61, eM61, h⟩ := lt1_e h
        refine u_aastA E eM61 S57 g58 g59 g60 (Ac_init_dc.at 19 rfl) (fun H locs S62 => ?_)
        obtain ⟨v63, ev63, h⟩ := lt1_e h
        have hv63 := inR_eq ev63 (inR_w32 _)
        refine u_iinc (y := v63) (vs' := [some (zR G.2.2.1 a0), some (.int (zO v63))]) E ev63 (Ac_init_dc.at 20 rfl) hl rfl (by decide) rfl (fun ls hl => ?_)
        refine r_goto (tgt := 15) E (Ac_init_dc.at 21 rfl) (by decide) ?_
        refine u_il_n (x := v63) E (Ac_init_dc.at 8 rfl) hl rfl ?_
        refine u_al_n (x := a0) E (Ac_init_dc.at 9 rfl) hl rfl ?_
        obtain ⟨g64, h⟩ := ite_e h
        refine u_gR E zf_0_0 S62 g64 zw_2_13 (Ac_init_dc.at 10 rfl) ?_
        obtain ⟨g65, h⟩ := ite_e h
        refine r_alen E S62 g65 (by decide) (Ac_init_dc.at 11 rfl) ?_
        refine r_icmp_ge (tgt := 43) E hv63 (S62.1.lenR _) (Ac_init_dc.at 12 rfl) (by decide) (fun q => ?_) (fun q => ?_)
        · have h := ite_t h q
          refine u_al_n (x := a0) E (Ac_init_dc.at 13 rfl) hl rfl ?_
          refine u_gR E zf_0_0 S62 g64 zw_2_13 (Ac_init_dc.at 14 rfl) ?_
          refine u_il_n (x := v63) E (Ac_init_dc.at 15 rfl) hl rfl ?_
          obtain ⟨g66, h⟩ := ite_e h
          obtain ⟨T67, eT67, h⟩ := lt1_e h
          obtain ⟨L68, eL68, h⟩ := lt1_e h
          obtain ⟨M69, eM69, h⟩ := lt1_e h
          refine u_new E S62 eT67 eL68 eM69 zck_1 rfl (zdf_1 _) zw_2_10 zw_1_179 zw_1_6 g66 ⟨Nat.le_of_ble_eq_true rfl, Nat.le_of_ble_eq_true rfl⟩ (Ac_init_dc.at 16 rfl) (fun H S70 g71 => ?_)
          refine r_dup E (Ac_init_dc.at 17 rfl) (zR_cat _ _) ?_
          obtain ⟨T72, L73, M74, eM74, h⟩ := bd3_e h
          refine u_cN (As := []) (rest := [zR G.2.2.1 T54, .int (zO v63), zR G.2.2.1 (M61 a0 0)]) E S70 zcw_yX1_init zw_1_181 rfl (List.mem_of_getElem? (i := 3) rfl) (S70.1.tag g71 (by decide)).1 (Af_init_c l G fu T67 L68 M69 T54 (S70.1.refR g71 (by decide)) eM74) (zrm_ok (by decide) (by decide)) ⟨Nat.le_of_ble_eq_true rfl, Nat.le_of_ble_eq_true rfl⟩ rfl (by simp [zR_cat, zcat_I, zcat_J, zcat_S]) hl.size rfl (Ac_init_dc.at 18 rfl) (fun H locs _ S75 => ?_)
          obtain ⟨g76, h⟩ := ite_e h
          obtain ⟨g77, h⟩ := ite_e h
          obtain ⟨g78, h⟩ := ite_e h
          obtain ⟨M79, eM79, h⟩ := lt1_e h
          refine u_aastA E eM79 S75 g76 g77 g78 (Ac_init_dc.at 19 rfl) (fun H locs S80 => ?_)
          obtain ⟨v81, ev81, h⟩ := lt1_e h
          have hv81 := inR_eq ev81 (inR_w32 _)
          refine u_iinc (y := v81) (vs' := [some (zR G.2.2.1 a0), some (.int (zO v81))]) E ev81 (Ac_init_dc.at 20 rfl) hl rfl (by decide) rfl (fun ls hl => ?_)
          refine r_goto (tgt := 15) E (Ac_init_dc.at 21 rfl) (by decide) ?_
          refine u_il_n (x := v81) E (Ac_init_dc.at 8 rfl) hl rfl ?_
          refine u_al_n (x := a0) E (Ac_init_dc.at 9 rfl) hl rfl ?_
          obtain ⟨g82, h⟩ := ite_e h
          refine u_gR E zf_0_0 S80 g82 zw_2_13 (Ac_init_dc.at 10 rfl) ?_
          obtain ⟨g83, h⟩ := ite_e h
          refine r_alen E S80 g83 (by decide) (Ac_init_dc.at 11 rfl) ?_
          refine r_icmp_ge (tgt := 43) E hv81 (S80.1.lenR _) (Ac_init_dc.at 12 rfl) (by decide) (fun q => ?_) (fun q => ?_)
          · have h := ite_t h q
            refine u_al_n (x := a0) E (Ac_init_dc.at 13 rfl) hl rfl ?_
            refine u_gR E zf_0_0 S80 g82 zw_2_13 (Ac_init_dc.at 14 rfl) ?_
            refine u_il_n (x := v81) E (Ac_init_dc.at 15 rfl) hl rfl ?_
            obtain ⟨g84, h⟩ := ite_e h
            obtain ⟨T85, eT85, h⟩ := lt1_e h
            obtain ⟨L86, eL86, h⟩ := lt1_e h
            obtain ⟨M87, eM87, h⟩ := lt1_e h
            refine u_new E S80 eT85 eL86 eM87 zck_1 rfl (zdf_1 _) zw_2_10 zw_1_179 zw_1_6 g84 ⟨Nat.le_of_ble_eq_true rfl, Nat.le_of_ble_eq_true rfl⟩ (Ac_init_dc.at 16 rfl) (fun H S88 g89 => ?_)
            refine r_dup E (Ac_init_dc.at 17 rfl) (zR_cat _ _) ?_
            obtain ⟨T90, L91, M92, eM92, h⟩ := bd3_e h
            refine u_cN (As := []) (rest := [zR G.2.2.1 T72, .int (zO v81), zR G.2.2.1 (M79 a0 0)]) E S88 zcw_yX1_init zw_1_181 rfl (List.mem_of_getElem? (i := 3) rfl) (S88.1.tag g89 (by decide)).1 (Af_init_c l G fu T85 L86 M87 T72 (S88.1.refR g89 (by decide)) eM92) (zrm_ok (by decide) (by decide)) ⟨Nat.le_of_ble_eq_true rfl, Nat.le_of_ble_eq_true rfl⟩ rfl (by simp [zR_cat, zcat_I, zcat_J, zcat_S]) hl.size rfl (Ac_init_dc.at 18 rfl) (fun H locs _ S93 => ?_)
            obtain ⟨g94, h⟩ := ite_e h
            obtain ⟨g95, h⟩ := ite_e h
            obtain ⟨g96, h⟩ := ite_e h
            obtain ⟨M97, eM97, h⟩ := lt1_e h
            refine u_aastA E eM97 S93 g94 g95 g96 (Ac_init_dc.at 19 rfl) (fun H locs S98 => ?_)
            obtain ⟨v99, ev99, h⟩ := lt1_e h
            have hv99 := inR_eq ev99 (inR_w32 _)
            refine u_iinc (y := v99) (vs' := [some (zR G.2.2.1 a0), some (.int (zO v99))]) E ev99 (Ac_init_dc.at 20 rfl) hl rfl (by decide) rfl (fun ls hl => ?_)
            refine r_goto (tgt := 15) E (Ac_init_dc.at 21 rfl) (by decide) ?_
            refine u_il_n (x := v99) E (Ac_init_dc.at 8 rfl) hl rfl ?_
            refine u_al_n (x := a0) E (Ac_init_dc.at 9 rfl) hl rfl ?_
            obtain ⟨g100, h⟩ := ite_e h
            refine u_gR E zf_0_0 S98 g100 zw_2_13 (Ac_init_dc.at 10 rfl) ?_
            obtain ⟨g101, h⟩ := ite_e h
            refine r_alen E S98 g101 (by decide) (Ac_init_dc.at 11 rfl) ?_
            refine r_icmp_ge (tgt := 43) E hv99 (S98.1.lenR _) (Ac_init_dc.at 12 rfl) (by decide) (fun q => ?_) (fun q => ?_)
            · have h := ite_t h q
              refine u_al_n (x := a0) E (Ac_init_dc.at 13 rfl) hl rfl ?_
              refine u_gR E zf_0_0 S98 g100 zw_2_13 (Ac_init_dc.at 14 rfl) ?_
              refine u_il_n (x := v99) E (Ac_init_dc.at 15 rfl) hl rfl ?_
              obtain ⟨g102, h⟩ := ite_e h
              obtain ⟨T103, eT103, h⟩ := lt1_e h
              obtain ⟨L104, eL104, h⟩ := lt1_e h
              obtain ⟨M105, eM105, h⟩ := lt1_e h
              refine u_new E S98 eT103 eL104 eM105 zck_1 rfl (zdf_1 _) zw_2_10 zw_1_179 zw_1_6 g102 ⟨Nat.le_of_ble_eq_true rfl, Nat.le_of_ble_eq_true rfl⟩ (Ac_init_dc.at 16 rfl) (fun H S106 g107 => ?_)
              refine r_dup E (Ac_init_dc.at 17 rfl) (zR_cat _ _) ?_
              obtain ⟨T108, L109, M110, eM110, h⟩ := bd3_e h
              refine u_cN (As := []) (rest := [zR G.2.2.1 T90, .int (zO v99), zR G.2.2.1 (M97 a0 0)]) E S106 zcw_yX1_init zw_1_181 rfl (List.mem_of_getElem? (i := 3) rfl) (S106.1.tag g107 (by decide)).1 (Af_init_c l G fu T103 L104 M105 T90 (S106.1.refR g107 (by decide)) eM110) (zrm_ok (by decide) (by decide)) ⟨Nat.le_of_ble_eq_true rfl, Nat.le_of_ble_eq_true rfl⟩ rfl (by simp [zR_cat, zcat_I, zcat_J, zcat_S]) hl.size rfl (Ac_init_dc.at 18 rfl) (fun H locs _ S111 => ?_)
              obtain ⟨g112, h⟩ := ite_e h
              obtain ⟨g113, h⟩ := ite_e h
              obtain ⟨g114, h⟩ := ite_e h
              obtain ⟨M115, eM115, h⟩ := lt1_e h
              refine u_aastA E eM115 S111 g112 g113 g114 (Ac_init_dc.at 19 rfl) (fun H locs S116 => ?_)
              obtain ⟨v117, ev117, h⟩ := lt1_e h
              have hv117 := inR_eq ev117 (inR_w32 _)
              refine u_iinc (y := v117) (vs' := [some (zR G.2.2.1 a0), some (.int (zO v117))]) E ev117 (Ac_init_dc.at 20 rfl) hl rfl (by decide) rfl (fun ls hl => ?_)
              refine r_goto (tgt := 15) E (Ac_init_dc.at 21 rfl) (by decide) ?_
              refine u_il_n (x := v117) E (Ac_init_dc.at 8 rfl) hl rfl ?_
              refine u_al_n (x := a0) E (Ac_init_dc.at 9 rfl) hl rfl ?_
              obtain ⟨g118, h⟩ := ite_e h
              refine u_gR E zf_0_0 S116 g118 zw_2_13 (Ac_init_dc.at 10 rfl) ?_
              obtain ⟨g119, h⟩ := ite_e h
              refine r_alen E S116 g119 (by decide) (Ac_init_dc.at 11 rfl) ?_
              refine r_icmp_ge (tgt := 43) E hv117 (S116.1.lenR _) (Ac_init_dc.at 12 rfl) (by decide) (fun q => ?_) (fun q => ?_)
              · have h := ite_t h q
                refine u_al_n (x := a0) E (Ac_init_dc.at 13 rfl) hl rfl ?_
                refine u_gR E zf_0_0 S116 g118 zw_2_13 (Ac_init_dc.at 14 rfl) ?_
                refine u_il_n (x := v117) E (Ac_init_dc.at 15 rfl) hl rfl ?_
                obtain ⟨g120, h⟩ := ite_e h
                obtain ⟨T121, eT121, h⟩ := lt1_e h
                obtain ⟨L122, eL122, h⟩ := lt1_e h
                obtain ⟨M123, eM123, h⟩ := lt1_e h
                refine u_new E S116 eT121 eL122 eM123 zck_1 rfl (zdf_1 _) zw_2_10 zw_1_179 zw_1_6 g120 ⟨Nat.le_of_ble_eq_true rfl, Nat.le_of_ble_eq_true rfl⟩ (Ac_init_dc.at 16 rfl) (fun H S124 g125 => ?_)
                refine r_dup E (Ac_init_dc.at 17 rfl) (zR_cat _ _) ?_
                obtain ⟨T126, L127, M128, eM128, h⟩ := bd3_e h
                refine u_cN (As := []) (rest := [zR G.2.2.1 T108, .int (zO v117), zR G.2.2.1 (M115 a0 0)]) E S124 zcw_yX1_init zw_1_181 rfl (List.mem_of_getElem? (i := 3) rfl) (S124.1.tag g125 (by decide)).1 (Af_init_c l G fu T121 L122 M123 T108 (S124.1.refR g125 (by decide)) eM128) (zrm_ok (by decide) (by decide)) ⟨Nat.le_of_ble_eq_true rfl, Nat.le_of_ble_eq_true rfl⟩ rfl (by simp [zR_cat, zcat_I, zcat_J, zcat_S]) hl.size rfl (Ac_init_dc.at 18 rfl) (fun H locs _ S129 => ?_)
                obtain ⟨g130, h⟩ := ite_e h
                obtain ⟨g131, h⟩ := ite_e h
                obtain ⟨g132, h⟩ := ite_e h
                obtain ⟨M133, eM133, h⟩ := lt1_e h
                refine u_aastA E eM133 S129 g130 g131 g132 (Ac_init_dc.at 19 rfl) (fun H locs S134 => ?_)
                obtain ⟨v135, ev135, h⟩ := lt1_e h
                have hv135 := inR_eq ev135 (inR_w32 _)
                refine u_iinc (y := v135) (vs' := [some (zR G.2.2.1 a0), some (.int (zO v135))]) E ev135 (Ac_init_dc.at 20 rfl) hl rfl (by decide) rfl (fun ls hl => ?_)
                refine r_goto (tgt := 15) E (Ac_init_dc.at 21 rfl) (by decide) ?_
                refine u_il_n (x := v135) E (Ac_init_dc.at 8 rfl) hl rfl ?_
                refine u_al_n (x := a0) E (Ac_init_dc.at 9 rfl) hl rfl ?_
                obtain ⟨g136, h⟩ := ite_e h
                refine u_gR E zf_0_0 S134 g136 zw_2_13 (Ac_init_dc.at 10 rfl) ?_
                obtain ⟨g137, h⟩ := ite_e h
                refine r_alen E S134 g137 (by decide) (Ac_init_dc.at 11 rfl) ?_
                refine r_icmp_ge (tgt := 43) E hv135 (S134.1.lenR _) (Ac_init_dc.at 12 rfl) (by decide) (fun q => ?_) (fun q => ?_)
                · have h := ite_t h q
                  refine u_al_n (x := a0) E (Ac_init_dc.at 13 rfl) hl rfl ?_
                  refine u_gR E zf_0_0 S134 g136 zw_2_13 (Ac_init_dc.at 14 rfl) ?_
                  refine u_il_n (x := v135) E (Ac_init_dc.at 15 rfl) hl rfl ?_
                  obtain ⟨g138, h⟩ := ite_e h
                  obtain ⟨T139, eT139, h⟩ := lt1_e h
                  obtain ⟨L140, eL140, h⟩ := lt1_e h
                  obtain ⟨M141, eM141, h⟩ := lt1_e h
                  refine u_new E S134 eT139 eL140 eM141 zck_1 rfl (zdf_1 _) zw_2_10 zw_1_179 zw_1_6 g138 ⟨Nat.le_of_ble_eq_true rfl, Nat.le_of_ble_eq_true rfl⟩ (Ac_init_dc.at 16 rfl) (fun H S142 g143 => ?_)
                  refine r_dup E (Ac_init_dc.at 17 rfl) (zR_cat _ _) ?_
                  obtain ⟨T144, L145, M146, eM146, h⟩ := bd3_e h
                  refine u_cN (As := []) (rest := [zR G.2.2.1 T126, .int (zO v135), zR G.2.2.1 (M133 a0 0)]) E S142 zcw_yX1_init zw_1_181 rfl (List.mem_of_getElem? (i := 3) rfl) (S142.1.tag g143 (by decide)).1 (Af_init_c l G fu T139 L140 M141 T126 (S142.1.refR g143 (by decide)) eM146) (zrm_ok (by decide) (by decide)) ⟨Nat.le_of_ble_eq_true rfl, Nat.le_of_ble_eq_true rfl⟩ rfl (by simp [zR_cat, zcat_I, zcat_J, zcat_S]) hl.size rfl (Ac_init_dc.at 18 rfl) (fun H locs _ S147 => ?_)
                  obtain ⟨g148, h⟩ := ite_e h
                  obtain ⟨g149, h⟩ := ite_e h
                  obtain ⟨g150, h⟩ := ite_e h
                  obtain ⟨M151, eM151, h⟩ := lt1_e h
                  refine u_aastA E eM151 S147 g148 g149 g150 (Ac_init_dc.at 19 rfl) (fun H locs S152 => ?_)
                  obtain ⟨v153, ev153, h⟩ := lt1_e h
                  have hv153 := inR_eq ev153 (inR_w32 _)
                  refine u_iinc (y := v153) (vs' := [some (zR G.2.2.1 a0), some (.int (zO v153))]) E ev153 (Ac_init_dc.at 20 rfl) hl rfl (by decide) rfl (fun ls hl => ?_)
                  refine r_goto (tgt := 15) E (Ac_init_dc.at 21 rfl) (by decide) ?_
                  refine u_il_n (x := v153) E (Ac_init_dc.at 8 rfl) hl rfl ?_
                  refine u_al_n (x := a0) E (Ac_init_dc.at 9 rfl) hl rfl ?_
                  obtain ⟨g154, h⟩ := ite_e h
                  refine u_gR E zf_0_0 S152 g154 zw_2_13 (Ac_init_dc.at 10 rfl) ?_
                  obtain ⟨g155, h⟩ := ite_e h
                  refine r_alen E S152 g155 (by decide) (Ac_init_dc.at 11 rfl) ?_
                  refine r_icmp_ge (tgt := 43) E hv153 (S152.1.lenR _) (Ac_init_dc.at 12 rfl) (by decide) (fun q => ?_) (fun q => ?_)
                  · have h := ite_t h q
                    refine u_al_n (x := a0) E (Ac_init_dc.at 13 rfl) hl rfl ?_
                    refine u_gR E zf_0_0 S152 g154 zw_2_13 (Ac_init_dc.at 14 rfl) ?_
                    refine u_il_n (x := v153) E (Ac_init_dc.at 15 rfl) hl rfl ?_
                    obtain ⟨g156, h⟩ := ite_e h
                    obtain ⟨T157, eT157, h⟩ := lt1_e h
                    obtain ⟨L158, eL158, h⟩ := lt1_e h
                    obtain ⟨M159, eM159, h⟩ := lt1_e h
                    refine u_new E S152 eT157 eL158 eM159 zck_1 rfl (zdf_1 _) zw_2_10 zw_1_179 zw_1_6 g156 ⟨Nat.le_of_ble_eq_true rfl, Nat.le_of_ble_eq_true rfl⟩ (Ac_init_dc.at 16 rfl) (fun H S160 g161 => ?_)
                    refine r_dup E (Ac_init_dc.at 17 rfl) (zR_cat _ _) ?_
                    obtain ⟨T162, L163, M164, eM164, h⟩ := bd3_e h
                    refine u_cN (As := []) (rest := [zR G.2.2.1 T144, .int (zO v153), zR G.2.2.1 (M151 a0 0)]) E S160 zcw_yX1_init zw_1_181 rfl (List.mem_of_getElem? (i := 3) rfl) (S160.1.tag g161 (by decide)).1 (Af_init_c l G fu T157 L158 M159 T144 (S160.1.refR g161 (by decide)) eM164) (zrm_ok (by decide) (by decide)) ⟨Nat.le_of_ble_eq_true rfl, Nat.le_of_ble_eq_true rfl⟩ rfl (by simp [zR_cat, zcat_I, zcat_J, zcat_S]) hl.size rfl (Ac_init_dc.at 18 rfl) (fun H locs _ S165 => ?_)
                    obtain ⟨g166, h⟩ := ite_e h
                    obtain ⟨g167, h⟩ := ite_e h
                    obtain ⟨g168, h⟩ := ite_e h
                    obtain ⟨M169, eM169, h⟩ := lt1_e h
                    refine u_aastA E eM169 S165 g166 g167 g168 (Ac_init_dc.at 19 rfl) (fun H locs S170 => ?_)
                    obtain ⟨v171, ev171, h⟩ := lt1_e h
                    have hv171 := inR_eq ev171 (inR_w32 _)
                    refine u_iinc (y := v171) (vs' := [some (zR G.2.2.1 a0), some (.int (zO v171))]) E ev171 (Ac_init_dc.at 20 rfl) hl rfl (by decide) rfl (fun ls hl => ?_)
                    refine r_goto (tgt := 15) E (Ac_init_dc.at 21 rfl) (by decide) ?_
                    refine u_il_n (x := v171) E (Ac_init_dc.at 8 rfl) hl rfl ?_
                    refine u_al_n (x := a0) E (Ac_init_dc.at 9 rfl) hl rfl ?_
                    obtain ⟨g172, h⟩ := ite_e h
                    refine u_gR E zf_0_0 S170 g172 zw_2_13 (Ac_init_dc.at 10 rfl) ?_
                    obtain ⟨g173, h⟩ := ite_e h
                    refine r_alen E S170 g173 (by decide) (Ac_init_dc.at 11 rfl) ?_
                    refine r_icmp_ge (tgt := 43) E hv171 (S170.1.lenR _) (Ac_init_dc.at 12 rfl) (by decide) (fun q => ?_) (fun q => ?_)
                    · have h := ite_t h q
                      refine u_al_n (x := a0) E (Ac_init_dc.at 13 rfl) hl rfl ?_
                      refine u_gR E zf_0_0 S170 g172 zw_2_13 (Ac_init_dc.at 14 rfl) ?_
                      refine u_il_n (x := v171) E (Ac_init_dc.at 15 rfl) hl rfl ?_
                      obtain ⟨g174, h⟩ := ite_e h
                      obtain ⟨T175, eT175, h⟩ := lt1_e h
                      obtain ⟨L176, eL176, h⟩ := lt1_e h
                      obtain ⟨M177, eM177, h⟩ := lt1_e h
                      refine u_new E S170 eT175 eL176 eM177 zck_1 rfl (zdf_1 _) zw_2_10 zw_1_179 zw_1_6 g174 ⟨Nat.le_of_ble_eq_true rfl, Nat.le_of_ble_eq_true rfl⟩ (Ac_init_dc.at 16 rfl) (fun H S178 g179 => ?_)
                      refine r_dup E (Ac_init_dc.at 17 rfl) (zR_cat _ _) ?_
                      obtain ⟨T180, L181, M182, eM182, h⟩ := bd3_e h
                      refine u_cN (As := []) (rest := [zR G.2.2.1 T162, .int (zO v171), zR G.2.2.1 (M169 a0 0)]) E S178 zcw_yX1_init zw_1_181 rfl (List.mem_of_getElem? (i := 3) rfl) (S178.1.tag g179 (by decide)).1 (Af_init_c l G fu T175 L176 M177 T162 (S178.1.refR g179 (by decide)) eM182) (zrm_ok (by decide) (by decide)) ⟨Nat.le_of_ble_eq_true rfl, Nat.le_of_ble_eq_true rfl⟩ rfl (by simp [zR_cat, zcat_I, zcat_J, zcat_S]) hl.size rfl (Ac_init_dc.at 18 rfl) (fun H locs _ S183 => ?_)
                      obtain ⟨g184, h⟩ := ite_e h
                      obtain ⟨g185, h⟩ := ite_e h
                      obtain ⟨g186, h⟩ := ite_e h
                      obtain ⟨M187, eM187, h⟩ := lt1_e h
                      refine u_aastA E eM187 S183 g184 g185 g186 (Ac_init_dc.at 19 rfl) (fun H locs S188 => ?_)
                      obtain ⟨v189, ev189, h⟩ := lt1_e h
                      have hv189 := inR_eq ev189 (inR_w32 _)
                      refine u_iinc (y := v189) (vs' := [some (zR G.2.2.1 a0), some (.int (zO v189))]) E ev189 (Ac_init_dc.at 20 rfl) hl rfl (by decide) rfl (fun ls hl => ?_)
                      refine r_goto (tgt := 15) E (Ac_init_dc.at 21 rfl) (by decide) ?_
                      refine u_il_n (x := v189) E (Ac_init_dc.at 8 rfl) hl rfl ?_
                      refine u_al_n (x := a0) E (Ac_init_dc.at 9 rfl) hl rfl ?_
                      obtain ⟨g190, h⟩ := ite_e h
                      refine u_gR E zf_0_0 S188 g190 zw_2_13 (Ac_init_dc.at 10 rfl) ?_
                      obtain ⟨g191, h⟩ := ite_e h
                      refine r_alen E S188 g191 (by decide) (Ac_init_dc.at 11 rfl) ?_
                      refine r_icmp_ge (tgt := 43) E hv189 (S188.1.lenR _) (Ac_init_dc.at 12 rfl) (by decide) (fun q => ?_) (fun q => ?_)
                      · have h := ite_t h q
                        refine u_al_n (x := a0) E (Ac_init_dc.at 13 rfl) hl rfl ?_
                        refine u_gR E zf_0_0 S188 g190 zw_2_13 (Ac_init_dc.at 14 rfl) ?_
                        refine u_il_n (x := v189) E (Ac_init_dc.at 15 rfl) hl rfl ?_
                        obtain ⟨g192, h⟩ := ite_e h
                        obtain ⟨T193, eT193, h⟩ := lt1_e h
                        obtain ⟨L194, eL194, h⟩ := lt1_e h
                        obtain ⟨M195, eM195, h⟩ := lt1_e h
                        refine u_new E S188 eT193 eL194 eM195 zck_1 rfl (zdf_1 _) zw_2_10 zw_1_179 zw_1_6 g192 ⟨Nat.le_of_ble_eq_true rfl, Nat.le_of_ble_eq_true rfl⟩ (Ac_init_dc.at 16 rfl) (fun H S196 g197 => ?_)
                        refine r_dup E (Ac_init_dc.at 17 rfl) (zR_cat _ _) ?_
                        obtain ⟨T198, L199, M200, eM200, h⟩ := bd3_e h
                        refine u_cN (As := []) (rest := [zR G.2.2.1 T180, .int (zO v189), zR G.2.2.1 (M187 a0 0)]) E S196 zcw_yX1_init zw_1_181 rfl (List.mem_of_getElem? (i := 3) rfl) (S196.1.tag g197 (by decide)).1 (Af_init_c l G fu T193 L194 M195 T180 (S196.1.refR g197 (by decide)) eM200) (zrm_ok (by decide) (by decide)) ⟨Nat.le_of_ble_eq_true rfl, Nat.le_of_ble_eq_true rfl⟩ rfl (by simp [zR_cat, zcat_I, zcat_J, zcat_S]) hl.size rfl (Ac_init_dc.at 18 rfl) (fun H locs _ S201 => ?_)
                        obtain ⟨g202, h⟩ := ite_e h
                        obtain ⟨g203, h⟩ := ite_e h
                        obtain ⟨g204, h⟩ := ite_e h
                        obtain ⟨M205, eM205, h⟩ := lt1_e h
                        refine u_aastA E eM205 S201 g202 g203 g204 (Ac_init_dc.at 19 rfl) (fun H locs S206 => ?_)
                        obtain ⟨v207, ev207, h⟩ := lt1_e h
                        have hv207 := inR_eq ev207 (inR_w32 _)
                        refine u_iinc (y := v207) (vs' := [some (zR G.2.2.1 a0), some (.int (zO v207))]) E ev207 (Ac_init_dc.at 20 rfl) hl rfl (by decide) rfl (fun ls hl => ?_)
                        refine r_goto (tgt := 15) E (Ac_init_dc.at 21 rfl) (by decide) ?_
                        refine u_il_n (x := v207) E (Ac_init_dc.at 8 rfl) hl rfl ?_
                        refine u_al_n (x := a0) E (Ac_init_dc.at 9 rfl) hl rfl ?_
                        obtain ⟨g208, h⟩ := ite_e h
                        refine u_gR E zf_0_0 S206 g208 zw_2_13 (Ac_init_dc.at 10 rfl) ?_
                        obtain ⟨g209, h⟩ := ite_e h
                        refine r_alen E S206 g209 (by decide) (Ac_init_dc.at 11 rfl) ?_
                        refine r_icmp_ge (tgt := 43) E hv207 (S206.1.lenR _) (Ac_init_dc.at 12 rfl) (by decide) (fun q => ?_) (fun q => ?_)
                        · have h := ite_t h q
                          refine u_al_n (x := a0) E (Ac_init_dc.at 13 rfl) hl rfl ?_
                          refine u_gR E zf_0_0 S206 g208 zw_2_13 (Ac_init_dc.at 14 rfl) ?_
                          refine u_il_n (x := v207) E (Ac_init_dc.at 15 rfl) hl rfl ?_
                          obtain ⟨g210, h⟩ := ite_e h
                          obtain ⟨T211, eT211, h⟩ := lt1_e h
                          obtain ⟨L212, eL212, h⟩ := lt1_e h
                          obtain ⟨M213, eM213, h⟩ := lt1_e h
                          refine u_new E S206 eT211 eL212 eM213 zck_1 rfl (zdf_1 _) zw_2_10 zw_1_179 zw_1_6 g210 ⟨Nat.le_of_ble_eq_true rfl, Nat.le_of_ble_eq_true rfl⟩ (Ac_init_dc.at 16 rfl) (fun H S214 g215 => ?_)
                          refine r_dup E (Ac_init_dc.at 17 rfl) (zR_cat _ _) ?_
                          obtain ⟨T216, L217, M218, eM218, h⟩ := bd3_e h
                          refine u_cN (As := []) (rest := [zR G.2.2.1 T198, .int (zO v207), zR G.2.2.1 (M205 a0 0)]) E S214 zcw_yX1_init zw_1_181 rfl (List.mem_of_getElem? (i := 3) rfl) (S214.1.tag g215 (by decide)).1 (Af_init_c l G fu T211 L212 M213 T198 (S214.1.refR g215 (by decide)) eM218) (zrm_ok (by decide) (by decide)) ⟨Nat.le_of_ble_eq_true rfl, Nat.le_of_ble_eq_true rfl⟩ rfl (by simp [zR_cat, zcat_I, zcat_J, zcat_S]) hl.size rfl (Ac_init_dc.at 18 rfl) (fun H locs _ S219 => ?_)
                          obtain ⟨g220, h⟩ := ite_e h
                          obtain ⟨g221, h⟩ := ite_e h
                          obtain ⟨g222, h⟩ := ite_e h
                          obtain ⟨M223, eM223, h⟩ := lt1_e h
                          refine u_aastA E eM223 S219 g220 g221 g222 (Ac_init_dc.at 19 rfl) (fun H locs S224 => ?_)
                          obtain ⟨v225, ev225, h⟩ := lt1_e h
                          have hv225 := inR_eq ev225 (inR_w32 _)
                          refine u_iinc (y := v225) (vs' := [some (zR G.2.2.1 a0), some (.int (zO v225))]) E ev225 (Ac_init_dc.at 20 rfl) hl rfl (by decide) rfl (fun ls hl => ?_)
                          refine r_goto (tgt := 15) E (Ac_init_dc.at 21 rfl) (by decide) ?_
                          refine u_il_n (x := v225) E (Ac_init_dc.at 8 rfl) hl rfl ?_
                          refine u_al_n (x := a0) E (Ac_init_dc.at 9 rfl) hl rfl ?_
                          obtain ⟨g226, h⟩ := ite_e h
                          refine u_gR E zf_0_0 S224 g226 zw_2_13 (Ac_init_dc.at 10 rfl) ?_
                          obtain ⟨g227, h⟩ := ite_e h
                          refine r_alen E S224 g227 (by decide) (Ac_init_dc.at 11 rfl) ?_
                          refine r_icmp_ge (tgt := 43) E hv225 (S224.1.lenR _) (Ac_init_dc.at 12 rfl) (by decide) (fun q => ?_) (fun q => ?_)
                          · have h := ite_t h q
                            refine u_al_n (x := a0) E (Ac_init_dc.at 13 rfl) hl rfl ?_
                            refine u_gR E zf_0_0 S224 g226 zw_2_13 (Ac_init_dc.at 14 rfl) ?_
                            refine u_il_n (x := v225) E (Ac_init_dc.at 15 rfl) hl rfl ?_
                            obtain ⟨g228, h⟩ := ite_e h
                            obtain ⟨T229, eT229, h⟩ := lt1_e h
                            obtain ⟨L230, eL230, h⟩ := lt1_e h
                            obtain ⟨M231, eM231, h⟩ := lt1_e h
                            refine u_new E S224 eT229 eL230 eM231 zck_1 rfl (zdf_1 _) zw_2_10 zw_1_179 zw_1_6 g228 ⟨Nat.le_of_ble_eq_true rfl, Nat.le_of_ble_eq_true rfl⟩ (Ac_init_dc.at 16 rfl) (fun H S232 g233 => ?_)
                            refine r_dup E (Ac_init_dc.at 17 rfl) (zR_cat _ _) ?_
                            obtain ⟨T234, L235, M236, eM236, h⟩ := bd3_e h
                            refine u_cN (As := []) (rest := [zR G.2.2.1 T216, .int (zO v225), zR G.2.2.1 (M223 a0 0)]) E S232 zcw_yX1_init zw_1_181 rfl (List.mem_of_getElem? (i := 3) rfl) (S232.1.tag g233 (by decide)).1 (Af_init_c l G fu T229 L230 M231 T216 (S232.1.refR g233 (by decide)) eM236) (zrm_ok (by decide) (by decide)) ⟨Nat.le_of_ble_eq_true rfl, Nat.le_of_ble_eq_true rfl⟩ rfl (by simp [zR_cat, zcat_I, zcat_J, zcat_S]) hl.size rfl (Ac_init_dc.at 18 rfl) (fun H locs _ S237 => ?_)
                            obtain ⟨g238, h⟩ := ite_e h
                            obtain ⟨g239, h⟩ := ite_e h
                            obtain ⟨g240, h⟩ := ite_e h
                            obtain ⟨M241, eM241, h⟩ := lt1_e h
                            refine u_aastA E eM241 S237 g238 g239 g240 (Ac_init_dc.at 19 rfl) (fun H locs S242 => ?_)
                            obtain ⟨v243, ev243, h⟩ := lt1_e h
                            have hv243 := inR_eq ev243 (inR_w32 _)
                            refine u_iinc (y := v243) (vs' := [some (zR G.2.2.1 a0), some (.int (zO v243))]) E ev243 (Ac_init_dc.at 20 rfl) hl rfl (by decide) rfl (fun ls hl => ?_)
                            refine r_goto (tgt := 15) E (Ac_init_dc.at 21 rfl) (by decide) ?_
                            refine u_il_n (x := v243) E (Ac_init_dc.at 8 rfl) hl rfl ?_
                            refine u_al_n (x := a0) E (Ac_init_dc.at 9 rfl) hl rfl ?_
                            obtain ⟨g244, h⟩ := ite_e h
                            refine u_gR E zf_0_0 S242 g244 zw_2_13 (Ac_init_dc.at 10 rfl) ?_
                            obtain ⟨g245, h⟩ := ite_e h
                            refine r_alen E S242 g245 (by decide) (Ac_init_dc.at 11 rfl) ?_
                            refine r_icmp_ge (tgt := 43) E hv243 (S242.1.lenR _) (Ac_init_dc.at 12 rfl) (by decide) (fun q => ?_) (fun q => ?_)
                            · have h := ite_t h q
                              refine u_al_n (x := a0) E (Ac_init_dc.at 13 rfl) hl rfl ?_
                              refine u_gR E zf_0_0 S242 g244 zw_2_13 (Ac_init_dc.at 14 rfl) ?_
                              refine u_il_n (x := v243) E (Ac_init_dc.at 15 rfl) hl rfl ?_
                              obtain ⟨g246, h⟩ := ite_e h
                              obtain ⟨T247, eT247, h⟩ := lt1_e h
                              obtain ⟨L248, eL248, h⟩ := lt1_e h
                              obtain ⟨M249, eM249, h⟩ := lt1_e h
                              refine u_new E S242 eT247 eL248 eM249 zck_1 rfl (zdf_1 _) zw_2_10 zw_1_179 zw_1_6 g246 ⟨Nat.le_of_ble_eq_true rfl, Nat.le_of_ble_eq_true rfl⟩ (Ac_init_dc.at 16 rfl) (fun H S250 g251 => ?_)
                              refine r_dup E (Ac_init_dc.at 17 rfl) (zR_cat _ _) ?_
                              obtain ⟨T252, L253, M254, eM254, h⟩ := bd3_e h
                              refine u_cN (As := []) (rest := [zR G.2.2.1 T234, .int (zO v243), zR G.2.2.1 (M241 a0 0)]) E S250 zcw_yX1_init zw_1_181 rfl (List.mem_of_getElem? (i := 3) rfl) (S250.1.tag g251 (by decide)).1 (Af_init_c l G fu T247 L248 M249 T234 (S250.1.refR g251 (by decide)) eM254) (zrm_ok (by decide) (by decide)) ⟨Nat.le_of_ble_eq_true rfl, Nat.le_of_ble_eq_true rfl⟩ rfl (by simp [zR_cat, zcat_I, zcat_J, zcat_S]) hl.size rfl (Ac_init_dc.at 18 rfl) (fun H locs _ S255 => ?_)
                              obtain ⟨g256, h⟩ := ite_e h
                              obtain ⟨g257, h⟩ := ite_e h
                              obtain ⟨g258, h⟩ := ite_e h
                              obtain ⟨M259, eM259, h⟩ := lt1_e h
                              refine u_aastA E eM259 S255 g256 g257 g258 (Ac_init_dc.at 19 rfl) (fun H locs S260 => ?_)
                              obtain ⟨v261, ev261, h⟩ := lt1_e h
                              have hv261 := inR_eq ev261 (inR_w32 _)
                              refine u_iinc (y := v261) (vs' := [some (zR G.2.2.1 a0), some (.int (zO v261))]) E ev261 (Ac_init_dc.at 20 rfl) hl rfl (by decide) rfl (fun ls hl => ?_)
                              refine r_goto (tgt := 15) E (Ac_init_dc.at 21 rfl) (by decide) ?_
                              refine u_il_n (x := v261) E (Ac_init_dc.at 8 rfl) hl rfl ?_
                              refine u_al_n (x := a0) E (Ac_init_dc.at 9 rfl) hl rfl ?_
                              obtain ⟨g262, h⟩ := ite_e h
                              refine u_gR E zf_0_0 S260 g262 zw_2_13 (Ac_init_dc.at 10 rfl) ?_
                              obtain ⟨g263, h⟩ := ite_e h
                              refine r_alen E S260 g263 (by decide) (Ac_init_dc.at 11 rfl) ?_
                              refine r_icmp_ge (tgt := 43) E hv261 (S260.1.lenR _) (Ac_init_dc.at 12 rfl) (by decide) (fun q => ?_) (fun q => ?_)
                              · have h := ite_t h q
                                refine u_al_n (x := a0) E (Ac_init_dc.at 13 rfl) hl rfl ?_
                                refine u_gR E zf_0_0 S260 g262 zw_2_13 (Ac_init_dc.at 14 rfl) ?_
                                refine u_il_n (x := v261) E (Ac_init_dc.at 15 rfl) hl rfl ?_
                                obtain ⟨g264, h⟩ := ite_e h
                                obtain ⟨T265, eT265, h⟩ := lt1_e h
                                obtain ⟨L266, eL266, h⟩ := lt1_e h
                                obtain ⟨M267, eM267, h⟩ := lt1_e h
                                refine u_new E S260 eT265 eL266 eM267 zck_1 rfl (zdf_1 _) zw_2_10 zw_1_179 zw_1_6 g264 ⟨Nat.le_of_ble_eq_true rfl, Nat.le_of_ble_eq_true rfl⟩ (Ac_init_dc.at 16 rfl) (fun H S268 g269 => ?_)
                                refine r_dup E (Ac_init_dc.at 17 rfl) (zR_cat _ _) ?_
                                obtain ⟨T270, L271, M272, eM272, h⟩ := bd3_e h
                                refine u_cN (As := []) (rest := [zR G.2.2.1 T252, .int (zO v261), zR G.2.2.1 (M259 a0 0)]) E S268 zcw_yX1_init zw_1_181 rfl (List.mem_of_getElem? (i := 3) rfl) (S268.1.tag g269 (by decide)).1 (Af_init_c l G fu T265 L266 M267 T252 (S268.1.refR g269 (by decide)) eM272) (zrm_ok (by decide) (by decide)) ⟨Nat.le_of_ble_eq_true rfl, Nat.le_of_ble_eq_true rfl⟩ rfl (by simp [zR_cat, zcat_I, zcat_J, zcat_S]) hl.size rfl (Ac_init_dc.at 18 rfl) (fun H locs _ S273 => ?_)
                                obtain ⟨g274, h⟩ := ite_e h
                                obtain ⟨g275, h⟩ := ite_e h
                                obtain ⟨g276, h⟩ := ite_e h
                                obtain ⟨M277, eM277, h⟩ := lt1_e h
                                refine u_aastA E eM277 S273 g274 g275 g276 (Ac_init_dc.at 19 rfl) (fun H locs S278 => ?_)
                                obtain ⟨v279, ev279, h⟩ := lt1_e h
                                have hv279 := inR_eq ev279 (inR_w32 _)
                                refine u_iinc (y := v279) (vs' := [some (zR G.2.2.1 a0), some (.int (zO v279))]) E ev279 (Ac_init_dc.at 20 rfl) hl rfl (by decide) rfl (fun ls hl => ?_)
                                refine r_goto (tgt := 15) E (Ac_init_dc.at 21 rfl) (by decide) ?_
                                refine u_il_n (x := v279) E (Ac_init_dc.at 8 rfl) hl rfl ?_
                                refine u_al_n (x := a0) E (Ac_init_dc.at 9 rfl) hl rfl ?_
                                obtain ⟨g280, h⟩ := ite_e h
                                refine u_gR E zf_0_0 S278 g280 zw_2_13 (Ac_init_dc.at 10 rfl) ?_
                                obtain ⟨g281, h⟩ := ite_e h
                                refine r_alen E S278 g281 (by decide) (Ac_init_dc.at 11 rfl) ?_
                                refine r_icmp_ge (tgt := 43) E hv279 (S278.1.lenR _) (Ac_init_dc.at 12 rfl) (by decide) (fun q => ?_) (fun q => ?_)
                                · have h := ite_t h q
                                  refine u_al_n (x := a0) E (Ac_init_dc.at 13 rfl) hl rfl ?_
                                  refine u_gR E zf_0_0 S278 g280 zw_2_13 (Ac_init_dc.at 14 rfl) ?_
                                  refine u_il_n (x := v279) E (Ac_init_dc.at 15 rfl) hl rfl ?_
                                  obtain ⟨g282, h⟩ := ite_e h
                                  obtain ⟨T283, eT283, h⟩ := lt1_e h
                                  obtain ⟨L284, eL284, h⟩ := lt1_e h
                                  obtain ⟨M285, eM285, h⟩ := lt1_e h
                                  refine u_new E S278 eT283 eL284 eM285 zck_1 rfl (zdf_1 _) zw_2_10 zw_1_179 zw_1_6 g282 ⟨Nat.le_of_ble_eq_true rfl, Nat.le_of_ble_eq_true rfl⟩ (Ac_init_dc.at 16 rfl) (fun H S286 g287 => ?_)
                                  refine r_dup E (Ac_init_dc.at 17 rfl) (zR_cat _ _) ?_
                                  obtain ⟨T288, L289, M290, eM290, h⟩ := bd3_e h
                                  refine u_cN (As := []) (rest := [zR G.2.2.1 T270, .int (zO v279), zR G.2.2.1 (M277 a0 0)]) E S286 zcw_yX1_init zw_1_181 rfl (List.mem_of_getElem? (i := 3) rfl) (S286.1.tag g287 (by decide)).1 (Af_init_c l G fu T283 L284 M285 T270 (S286.1.refR g287 (by decide)) eM290) (zrm_ok (by decide) (by decide)) ⟨Nat.le_of_ble_eq_true rfl, Nat.le_of_ble_eq_true rfl⟩ rfl (by simp [zR_cat, zcat_I, zcat_J, zcat_S]) hl.size rfl (Ac_init_dc.at 18 rfl) (fun H locs _ S291 => ?_)
                                  obtain ⟨g292, h⟩ := ite_e h
                                  obtain ⟨g293, h⟩ := ite_e h
                                  obtain ⟨g294, h⟩ := ite_e h
                                  obtain ⟨M295, eM295, h⟩ := lt1_e h
                                  refine u_aastA E eM295 S291 g292 g293 g294 (Ac_init_dc.at 19 rfl) (fun H locs S296 => ?_)
                                  obtain ⟨v297, ev297, h⟩ := lt1_e h
                                  have hv297 := inR_eq ev297 (inR_w32 _)
                                  refine u_iinc (y := v297) (vs' := [some (zR G.2.2.1 a0), some (.int (zO v297))]) E ev297 (Ac_init_dc.at 20 rfl) hl rfl (by decide) rfl (fun ls hl => ?_)
                                  refine r_goto (tgt := 15) E (Ac_init_dc.at 21 rfl) (by decide) ?_
                                  refine u_il_n (x := v297) E (Ac_init_dc.at 8 rfl) hl rfl ?_
                                  refine u_al_n (x := a0) E (Ac_init_dc.at 9 rfl) hl rfl ?_
                                  obtain ⟨g298, h⟩ := ite_e h
                                  refine u_gR E zf_0_0 S296 g298 zw_2_13 (Ac_init_dc.at 10 rfl) ?_
                                  obtain ⟨g299, h⟩ := ite_e h
                                  refine r_alen E S296 g299 (by decide) (Ac_init_dc.at 11 rfl) ?_
                                  refine r_icmp_ge (tgt := 43) E hv297 (S296.1.lenR _) (Ac_init_dc.at 12 rfl) (by decide) (fun q => ?_) (fun q => ?_)
                                  · have h := ite_t h q
                                    refine u_al_n (x := a0) E (Ac_init_dc.at 13 rfl) hl rfl ?_
                                    refine u_gR E zf_0_0 S296 g298 zw_2_13 (Ac_init_dc.at 14 rfl) ?_
                                    refine u_il_n (x := v297) E (Ac_init_dc.at 15 rfl) hl rfl ?_
                                    obtain ⟨g300, h⟩ := ite_e h
                                    obtain ⟨T301, eT301, h⟩ := lt1_e h
                                    obtain ⟨L302, eL302, h⟩ := lt1_e h
                                    obtain ⟨M303, eM303, h⟩ := lt1_e h
                                    refine u_new E S296 eT301 eL302 eM303 zck_1 rfl (zdf_1 _) zw_2_10 zw_1_179 zw_1_6 g300 ⟨Nat.le_of_ble_eq_true rfl, Nat.le_of_ble_eq_true rfl⟩ (Ac_init_dc.at 16 rfl) (fun H S304 g305 => ?_)
                                    refine r_dup E (Ac_init_dc.at 17 rfl) (zR_cat _ _) ?_
                                    obtain ⟨T306, L307, M308, eM308, h⟩ := bd3_e h
                                    refine u_cN (As := []) (rest := [zR G.2.2.1 T288, .int (zO v297), zR G.2.2.1 (M295 a0 0)]) E S304 zcw_yX1_init zw_1_181 rfl (List.mem_of_getElem? (i := 3) rfl) (S304.1.tag g305 (by decide)).1 (Af_init_c l G fu T301 L302 M303 T288 (S304.1.refR g305 (by decide)) eM308) (zrm_ok (by decide) (by decide)) ⟨Nat.le_of_ble_eq_true rfl, Nat.le_of_ble_eq_true rfl⟩ rfl (by simp [zR_cat, zcat_I, zcat_J, zcat_S]) hl.size rfl (Ac_init_dc.at 18 rfl) (fun H locs _ S309 => ?_)
                                    obtain ⟨g310, h⟩ := ite_e h
                                    obtain ⟨g311, h⟩ := ite_e h
                                    obtain ⟨g312, h⟩ := ite_e h
                                    obtain ⟨M313, eM313, h⟩ := lt1_e h
                                    refine u_aastA E eM313 S309 g310 g311 g312 (Ac_init_dc.at 19 rfl) (fun H locs S314 => ?_)
                                    obtain ⟨v315, ev315, h⟩ := lt1_e h
                                    have hv315 := inR_eq ev315 (inR_w32 _)
                                    refine u_iinc (y := v315) (vs' := [some (zR G.2.2.1 a0), some (.int (zO v315))]) E ev315 (Ac_init_dc.at 20 rfl) hl rfl (by decide) rfl (fun ls hl => ?_)
                                    refine r_goto (tgt := 15) E (Ac_init_dc.at 21 rfl) (by decide) ?_
                                    cases h
                                  · have h := ite_f h q
                                    cases h
                                    refine W.widen (k := 103) (n := 1563) (by omega) (by omega) ?_
                                    exact r_vret E S296 True.intro (Ac_init_dc.at 22 rfl)
                                · have h := ite_f h q
                                  cases h
                                  refine W.widen (k := 103) (n := 1563) (by omega) (by omega) ?_
                                  exact r_vret E S278 True.intro (Ac_init_dc.at 22 rfl)
                              · have h := ite_f h q
                                cases h
                                refine W.widen (k := 103) (n := 1563) (by omega) (by omega) ?_
                                exact r_vret E S260 True.intro (Ac_init_dc.at 22 rfl)
                            · have h := ite_f h q
                              cases h
                              refine W.widen (k := 103) (n := 1563) (by omega) (by omega) ?_
                              exact r_vret E S242 True.intro (Ac_init_dc.at 22 rfl)
                          · have h := ite_f h q
                            cases h
                            refine W.widen (k := 103) (n := 1563) (by omega) (by omega) ?_
                            exact r_vret E S224 True.intro (Ac_init_dc.at 22 rfl)
                        · have h := ite_f h q
                          cases h
                          refine W.widen (k := 103) (n := 1563) (by omega) (by omega) ?_
                          exact r_vret E S206 True.intro (Ac_init_dc.at 22 rfl)
                      · have h := ite_f h q
                        cases h
                        refine W.widen (k := 103) (n := 1563) (by omega) (by omega) ?_
                        exact r_vret E S188 True.intro (Ac_init_dc.at 22 rfl)
                    · have h := ite_f h q
                      cases h
                      refine W.widen (k := 103) (n := 1563) (by omega) (by omega) ?_
                      exact r_vret E S170 True.intro (Ac_init_dc.at 22 rfl)
                  · have h := ite_f h q
                    cases h
                    refine W.widen (k := 103) (n := 1563) (by omega) (by omega) ?_
                    exact r_vret E S152 True.intro (Ac_init_dc.at 22 rfl)
                · have h := ite_f h q
                  cases h
                  refine W.widen (k := 103) (n := 1563) (by omega) (by omega) ?_
                  exact r_vret E S134 True.intro (Ac_init_dc.at 22 rfl)
              · have h := ite_f h q
                cases h
                refine W.widen (k := 103) (n := 1563) (by omega) (by omega) ?_
                exact r_vret E S116 True.intro (Ac_init_dc.at 22 rfl)
            · have h := ite_f h q
              cases h
              refine W.widen (k := 103) (n := 1563) (by omega) (by omega) ?_
              exact r_vret E S98 True.intro (Ac_init_dc.at 22 rfl)
          · have h := ite_f h q
            cases h
            refine W.widen (k := 103) (n := 1563) (by omega) (by omega) ?_
            exact r_vret E S80 True.intro (Ac_init_dc.at 22 rfl)
        · have h := ite_f h q
          cases h
          refine W.widen (k := 103) (n := 1563) (by omega) (by omega) ?_
          exact r_vret E S62 True.intro (Ac_init_dc.at 22 rfl)
      · have h := ite_f h q
        cases h
        refine W.widen (k := 103) (n := 1563) (by omega) (by omega) ?_
        exact r_vret E S44 True.intro (Ac_init_dc.at 22 rfl)
    · have h := ite_f h q
      cases h
      refine W.widen (k := 103) (n := 1563) (by omega) (by omega) ?_
      exact r_vret E S26 True.intro (Ac_init_dc.at 22 rfl)
  · have h := ite_f h q
    cases h
    refine W.widen (k := 103) (n := 1563) (by omega) (by omega) ?_
    exact r_vret E S10 True.intro (Ac_init_dc.at 22 rfl)
set_option maxRecDepth 20000 in
theorem Ac_init_c (l : Launch) (G : zG) (fu : Nat) (top : Int) (L : zL) (M : zM) (a0 : Int) {res : (Int × zL × zM)} (ha0 : InR a0) (h : Ac_init fu top L M a0 = some res) : Met l yX0_init (Cond.code yX0_init cX0_init 2 none :: zTB) (zrm 3 103 1563) (va_Pc [zR G.2.2.1 a0] (zPre G top L M)) (zQ G res.1 res.2.1 res.2.2 none True) 103 1563 (zA G) :=
  z_met (by decide +kernel) (by simp [zR_cat, zcat_I, zcat_S]) (Nat.le_of_ble_eq_true rfl) fun p e s m below meth c ls E hn S hl => Ac_init_w E hn ha0 S (hl.sub (And.intro rfl True.intro)) h
end
theorem Rk_init_dc : zDL cX5_init [(0, .aload_n 0, 1, 1), (1, .invokespecial 3, 3, 4), (4, .aload_n 0, 1, 5), (5, .bipush 31, 2, 7), (7, .newarray .int, 2, 9), (9, .putfield 9, 3, 12), (12, .aload_n 0, 1, 13), (13, .bipush 31, 2, 15), (15, .newarray .int, 2, 17), (17, .putfield 15, 3, 20), (20, .aload_n 0, 1, 21), (21, .bipush 31, 2, 23), (23, .newarray .int, 2, 25), (25, .putfield 18, 3, 28), (28, .aload_n 0, 1, 29), (29, .bipush 31, 2, 31), (31, .newarray .int, 2, 33), (33, .putfield 21, 3, 36), (36, .aload_n 0, 1, 37), (37, .bipush 31, 2, 39), (39, .newarray .int, 2, 41), (41, .putfield 24, 3, 44), (44, .aload_n 0, 1, 45), (45, .bipush 31, 2, 47), (47, .newarray .int, 2, 49), (49, .putfield 27, 3, 52), (52, .return_, 1, 53)] := zDL.of (by decide +kernel)
section
variable {p : Program} {l : Launch} {e : Env} {s : State} {m : MethodId} {args : Array Value} {below : List Frame} {meth : Method} {c : Code} {G : zG} {top : Int} {L : zL} {fu : Nat}
theorem Rk_init_w (E : zEv p m c cX5_init 1 s args RX5 meth none G) (hn : meth.name = "<init>") {res : (Int × zL × zM)} {top : Int} {L : zL} {M : zM} {a0 : Int} {H : Heap} {locs : List Loc} {ls : Array Slot} (ha0 : InR a0) (S : zS G top L M s H locs) (hl : zLV ls 1 [some (zR G.2.2.1 a0)]) (h : Rk_init fu top L M a0 = some res) : W p l e (zrm 1 6 186) s m args below meth c H locs 0 0 (MQ below (zQ G res.1 res.2.1 res.2.2 none True) args s 6 186 (zA G)) (F0 m 0 ls []) := by
  unfold Rk_init at h
  refine u_al_n (x := a0) E (Rk_init_dc.at 0 rfl) hl rfl ?_
  obtain ⟨g1, h⟩ := ite_e h
  refine r_obj (rest := []) E zw_2_31 zw_1_32 zw_1_33 (S.1.tag g1 (by decide)).1 hl.size (by decide) (by simp [zR_cat, zcat_I, zcat_J, zcat_S, zrm]) (Rk_init_dc.at 1 rfl) ?_
  refine u_al_n (x := a0) E (Rk_init_dc.at 2 rfl) hl rfl ?_
  refine r_bipush E (Rk_init_dc.at 3 rfl) rfl ?_
  obtain ⟨g2, h⟩ := ite_e h
  obtain ⟨T3, eT3, h⟩ := lt1_e h
  obtain ⟨L4, eL4, h⟩ := lt1_e h
  obtain ⟨M5, eM5, h⟩ := lt1_e h
  refine u_newI (k := 31) E S eT3 eL4 eM5 zw_1_74 (by decide) g2 rfl ⟨Nat.le_of_ble_eq_true rfl, Nat.le_of_ble_eq_true rfl⟩ (Rk_init_dc.at 4 rfl) (fun H S6 g7 => ?_)
  obtain ⟨g8, h⟩ := ite_e h
  obtain ⟨M9, eM9, h⟩ := lt1_e h
  refine u_pR E eM9 zf_5_0 S6 g8 (S6.1.refR g7 (by decide)) (Or.inr ⟨rfl, hn, rfl⟩) zw_2_32 (Rk_init_dc.at 5 rfl) (fun H locs S10 => ?_)
  refine u_al_n (x := a0) E (Rk_init_dc.at 6 rfl) hl rfl ?_
  refine r_bipush E (Rk_init_dc.at 7 rfl) rfl ?_
  obtain ⟨g11, h⟩ := ite_e h
  obtain ⟨T12, eT12, h⟩ := lt1_e h
  obtain ⟨L13, eL13, h⟩ := lt1_e h
  obtain ⟨M14, eM14, h⟩ := lt1_e h
  refine u_newI (k := 31) E S10 eT12 eL13 eM14 zw_1_74 (by decide) g11 rfl ⟨Nat.le_of_ble_eq_true rfl, Nat.le_of_ble_eq_true rfl⟩ (Rk_init_dc.at 8 rfl) (fun H S15 g16 => ?_)
  obtain ⟨g17, h⟩ := ite_e h
  obtain ⟨M18, eM18, h⟩ := lt1_e h
  refine u_pR E eM18 zf_5_1 S15 g17 (S15.1.refR g16 (by decide)) (Or.inr ⟨rfl, hn, rfl⟩) zw_2_33 (Rk_init_dc.at 9 rfl) (fun H locs S19 => ?_)
  refine u_al_n (x := a0) E (Rk_init_dc.at 10 rfl) hl rfl ?_
  refine r_bipush E (Rk_init_dc.at 11 rfl) rfl ?_
  obtain ⟨g20, h⟩ := ite_e h
  obtain ⟨T21, eT21, h⟩ := lt1_e h
  obtain ⟨L22, eL22, h⟩ := lt1_e h
  obtain ⟨M23, eM23, h⟩ := lt1_e h
  refine u_newI (k := 31) E S19 eT21 eL22 eM23 zw_1_74 (by decide) g20 rfl ⟨Nat.le_of_ble_eq_true rfl, Nat.le_of_ble_eq_true rfl⟩ (Rk_init_dc.at 12 rfl) (fun H S24 g25 => ?_)
  obtain ⟨g26, h⟩ := ite_e h
  obtain ⟨M27, eM27, h⟩ := lt1_e h
  refine u_pR E eM27 zf_5_2 S24 g26 (S24.1.refR g25 (by decide)) (Or.inr ⟨rfl, hn, rfl⟩) zw_2_34 (Rk_init_dc.at 13 rfl) (fun H locs S28 => ?_)
  refine u_al_n (x := a0) E (Rk_init_dc.at 14 rfl) hl rfl ?_
  refine r_bipush E (Rk_init_dc.at 15 rfl) rfl ?_
  obtain ⟨g29, h⟩ := ite_e h
  obtain ⟨T30, eT30, h⟩ := lt1_e h
  obtain ⟨L31, eL31, h⟩ := lt1_e h
  obtain ⟨M32, eM32, h⟩ := lt1_e h
  refine u_newI (k := 31) E S28 eT30 eL31 eM32 zw_1_74 (by decide) g29 rfl ⟨Nat.le_of_ble_eq_true rfl, Nat.le_of_ble_eq_true rfl⟩ (Rk_init_dc.at 16 rfl) (fun H S33 g34 => ?_)
  obtain ⟨g35, h⟩ := ite_e h
  obtain ⟨M36, eM36, h⟩ := lt1_e h
  refine u_pR E eM36 zf_5_3 S33 g35 (S33.1.refR g34 (by decide)) (Or.inr ⟨rfl, hn, rfl⟩) zw_2_35 (Rk_init_dc.at 17 rfl) (fun H locs S37 => ?_)
  refine u_al_n (x := a0) E (Rk_init_dc.at 18 rfl) hl rfl ?_
  refine r_bipush E (Rk_init_dc.at 19 rfl) rfl ?_
  obtain ⟨g38, h⟩ := ite_e h
  obtain ⟨T39, eT39, h⟩ := lt1_e h
  obtain ⟨L40, eL40, h⟩ := lt1_e h
  obtain ⟨M41, eM41, h⟩ := lt1_e h
  refine u_newI (k := 31) E S37 eT39 eL40 eM41 zw_1_74 (by decide) g38 rfl ⟨Nat.le_of_ble_eq_true rfl, Nat.le_of_ble_eq_true rfl⟩ (Rk_init_dc.at 20 rfl) (fun H S42 g43 => ?_)
  obtain ⟨g44, h⟩ := ite_e h
  obtain ⟨M45, eM45, h⟩ := lt1_e h
  refine u_pR E eM45 zf_5_4 S42 g44 (S42.1.refR g43 (by decide)) (Or.inr ⟨rfl, hn, rfl⟩) zw_2_36 (Rk_init_dc.at 21 rfl) (fun H locs S46 => ?_)
  refine u_al_n (x := a0) E (Rk_init_dc.at 22 rfl) hl rfl ?_
  refine r_bipush E (Rk_init_dc.at 23 rfl) rfl ?_
  obtain ⟨g47, h⟩ := ite_e h
  obtain ⟨T48, eT48, h⟩ := lt1_e h
  obtain ⟨L49, eL49, h⟩ := lt1_e h
  obtain ⟨M50, eM50, h⟩ := lt1_e h
  refine u_newI (k := 31) E S46 eT48 eL49 eM50 zw_1_74 (by decide) g47 rfl ⟨Nat.le_of_ble_eq_true rfl, Nat.le_of_ble_eq_true rfl⟩ (Rk_init_dc.at 24 rfl) (fun H S51 g52 => ?_)
  obtain ⟨g53, h⟩ := ite_e h
  obtain ⟨M54, eM54, h⟩ := lt1_e h
  refine u_pR E eM54 zf_5_5 S51 g53 (S51.1.refR g52 (by decide)) (Or.inr ⟨rfl, hn, rfl⟩) zw_2_37 (Rk_init_dc.at 25 rfl) (fun H locs S55 => ?_)
  cases h
  refine W.widen (k := 6) (n := 186) (by omega) (by omega) ?_
  exact r_vret E S55 True.intro (Rk_init_dc.at 26 rfl)
theorem Rk_init_c (l : Launch) (G : zG) (fu : Nat) (top : Int) (L : zL) (M : zM) (a0 : Int) {res : (Int × zL × zM)} (ha0 : InR a0) (h : Rk_init fu top L M a0 = some res) : Met l yX5_init (Cond.code yX5_init cX5_init 1 none :: zTB) (zrm 1 6 186) (va_Pc [zR G.2.2.1 a0] (zPre G top L M)) (zQ G res.1 res.2.1 res.2.2 none True) 6 186 (zA G) :=
  z_met (by decide +kernel) (by simp [zR_cat, zcat_I, zcat_S]) (Nat.le_of_ble_eq_true rfl) fun p e s m below meth c ls E hn S hl => Rk_init_w E hn ha0 S (hl.sub (And.intro rfl True.intro)) h
end
theorem Wt_init_dc : zDL cX9_init [(0, .aload_n 0, 1, 1), (1, .invokespecial 3, 3, 4), (4, .aload_n 0, 1, 5), (5, .bipush 24, 2, 7), (7, .newarray .int, 2, 9), (9, .putfield 9, 3, 12), (12, .aload_n 0, 1, 13), (13, .aload_n 1, 1, 14), (14, .putfield 15, 3, 17), (17, .return_, 1, 18)] := zDL.of (by decide +kernel)
section
variable {p : Program} {l : Launch} {e : Env} {s : State} {m : MethodId} {args : Array Value} {below : List Frame} {meth : Method} {c : Code} {G : zG} {top : Int} {L : zL} {fu : Nat}
theorem Wt_init_w (E : zEv p m c cX9_init 2 s args RX9 meth none G) (hn : meth.name = "<init>") {res : (Int × zL × zM)} {top : Int} {L : zL} {M : zM} {a0 : Int} {a1 : Int} {H : Heap} {locs : List Loc} {ls : Array Slot} (ha0 : InR a0) (ha1 : InR a1) (S : zS G top L M s H locs) (hl : zLV ls 2 [some (zR G.2.2.1 a0), some (zR G.2.2.1 a1)]) (h : Wt_init fu top L M a0 a1 = some res) : W p l e (zrm 1 1 24) s m args below meth c H locs 0 0 (MQ below (zQ G res.1 res.2.1 res.2.2 none True) args s 1 24 (zA G)) (F0 m 0 ls []) := by
  unfold Wt_init at h
  refine u_al_n (x := a0) E (Wt_init_dc.at 0 rfl) hl rfl ?_
  obtain ⟨g1, h⟩ := ite_e h
  refine r_obj (rest := []) E zw_2_59 zw_1_32 zw_1_33 (S.1.tag g1 (by decide)).1 hl.size (by decide) (by simp [zR_cat, zcat_I, zcat_J, zcat_S, zrm]) (Wt_init_dc.at 1 rfl) ?_
  refine u_al_n (x := a0) E (Wt_init_dc.at 2 rfl) hl rfl ?_
  refine r_bipush E (Wt_init_dc.at 3 rfl) rfl ?_
  obtain ⟨g2, h⟩ := ite_e h
  obtain ⟨T3, eT3, h⟩ := lt1_e h
  obtain ⟨L4, eL4, h⟩ := lt1_e h
  obtain ⟨M5, eM5, h⟩ := lt1_e h
  refine u_newI (k := 24) E S eT3 eL4 eM5 zw_1_74 (by decide) g2 rfl ⟨Nat.le_of_ble_eq_true rfl, Nat.le_of_ble_eq_true rfl⟩ (Wt_init_dc.at 4 rfl) (fun H S6 g7 => ?_)
  obtain ⟨g8, h⟩ := ite_e h
  obtain ⟨M9, eM9, h⟩ := lt1_e h
  refine u_pR E eM9 zf_9_1 S6 g8 (S6.1.refR g7 (by decide)) (Or.inr ⟨rfl, hn, rfl⟩) zw_2_61 (Wt_init_dc.at 5 rfl) (fun H locs S10 => ?_)
  refine u_al_n (x := a0) E (Wt_init_dc.at 6 rfl) hl rfl ?_
  refine u_al_n (x := a1) E (Wt_init_dc.at 7 rfl) hl rfl ?_
  obtain ⟨M11, eM11, h⟩ := lt1_e h
  refine u_pR E eM11 zf_9_0 S10 g8 ha1 (Or.inr ⟨rfl, hn, rfl⟩) zw_2_60 (Wt_init_dc.at 8 rfl) (fun H locs S12 => ?_)
  cases h
  refine W.widen (k := 1) (n := 24) (by omega) (by omega) ?_
  exact r_vret E S12 True.intro (Wt_init_dc.at 9 rfl)
theorem Wt_init_c (l : Launch) (G : zG) (fu : Nat) (top : Int) (L : zL) (M : zM) (a0 : Int) (a1 : Int) {res : (Int × zL × zM)} (ha0 : InR a0) (ha1 : InR a1) (h : Wt_init fu top L M a0 a1 = some res) : Met l yX9_init (Cond.code yX9_init cX9_init 2 none :: zTB) (zrm 1 1 24) (va_Pc [zR G.2.2.1 a0, zR G.2.2.1 a1] (zPre G top L M)) (zQ G res.1 res.2.1 res.2.2 none True) 1 24 (zA G) :=
  z_met (by decide +kernel) (by simp [zR_cat, zcat_I, zcat_S]) (Nat.le_of_ble_eq_true rfl) fun p e s m below meth c ls E hn S hl => Wt_init_w E hn ha0 ha1 S (hl.sub (And.intro rfl (And.intro rfl True.intro))) h
end
theorem Tr_init_dc : zDL cX8_init [(0, .aload_n 0, 1, 1), (1, .invokespecial 3, 3, 4), (4, .aload_n 0, 1, 5), (5, .new 9, 3, 8), (8, .dup, 1, 9), (9, .invokespecial 11, 3, 12), (12, .putfield 12, 3, 15), (15, .aload_n 0, 1, 16), (16, .new 9, 3, 19), (19, .dup, 1, 20), (20, .invokespecial 11, 3, 23), (23, .putfield 18, 3, 26), (26, .aload_n 0, 1, 27), (27, .bipush 24, 2, 29), (29, .newarray .int, 2, 31), (31, .putfield 21, 3, 34), (34, .aload_n 0, 1, 35), (35, .bipush 24, 2, 37), (37, .newarray .int, 2, 39), (39, .putfield 25, 3, 42), (42, .aload_n 0, 1, 43), (43, .aload_n 1, 1, 44), (44, .putfield 28, 3, 47), (47, .return_, 1, 48)] := zDL.of (by decide +kernel)
section
variable {p : Program} {l : Launch} {e : Env} {s : State} {m : MethodId} {args : Array Value} {below : List Frame} {meth : Method} {c : Code} {G : zG} {top : Int} {L : zL} {fu : Nat}
theorem Tr_init_w (E : zEv p m c cX8_init 2 s args RX8 meth none G) (hn : meth.name = "<init>") {res : (Int × zL × zM)} {top : Int} {L : zL} {M : zM} {a0 : Int} {a1 : Int} {H : Heap} {locs : List Loc} {ls : Array Slot} (ha0 : InR a0) (ha1 : InR a1) (S : zS G top L M s H locs) (hl : zLV ls 2 [some (zR G.2.2.1 a0), some (zR G.2.2.1 a1)]) (h : Tr_init fu top L M a0 a1 = some res) : W p l e (zrm 2 10 204) s m args below meth c H locs 0 0 (MQ below (zQ G res.1 res.2.1 res.2.2 none True) args s 10 204 (zA G)) (F0 m 0 ls []) := by
  unfold Tr_init at h
  refine u_al_n (x := a0) E (Tr_init_dc.at 0 rfl) hl rfl ?_
  obtain ⟨g1, h⟩ := ite_e h
  refine r_obj (rest := []) E zw_2_92 zw_1_32 zw_1_33 (S.1.tag g1 (by decide)).1 hl.size (by decide) (by simp [zR_cat, zcat_I, zcat_J, zcat_S, zrm]) (Tr_init_dc.at 1 rfl) ?_
  refine u_al_n (x := a0) E (Tr_init_dc.at 2 rfl) hl rfl ?_
  obtain ⟨g2, h⟩ := ite_e h
  obtain ⟨T3, eT3, h⟩ := lt1_e h
  obtain ⟨L4, eL4, h⟩ := lt1_e h
  obtain ⟨M5, eM5, h⟩ := lt1_e h
  refine u_new E S eT3 eL4 eM5 zck_10 rfl (zdf_10 _) zw_2_93 zw_1_185 zw_1_7 g2 ⟨Nat.le_of_ble_eq_true rfl, Nat.le_of_ble_eq_true rfl⟩ (Tr_init_dc.at 3 rfl) (fun H S6 g7 => ?_)
  refine r_dup E (Tr_init_dc.at 4 rfl) (zR_cat _ _) ?_
  obtain ⟨T8, L9, M10, eM10, h⟩ := bd3_e h
  refine u_cN (As := []) (rest := [zR G.2.2.1 top, zR G.2.2.1 a0]) E S6 zcw_yX10_init zw_1_187 rfl (List.mem_of_getElem? (i := 6) rfl) (S6.1.tag g7 (by decide)).1 (Wd_init_c l G fu T3 L4 M5 top (S6.1.refR g7 (by decide)) eM10) (zrm_ok (by decide) (by decide)) ⟨Nat.le_of_ble_eq_true rfl, Nat.le_of_ble_eq_true rfl⟩ rfl (by simp [zR_cat, zcat_I, zcat_J, zcat_S]) hl.size rfl (Tr_init_dc.at 5 rfl) (fun H locs _ S11 => ?_)
  obtain ⟨g12, h⟩ := ite_e h
  obtain ⟨M13, eM13, h⟩ := lt1_e h
  refine u_pR E eM13 zf_8_1 S11 g12 (S6.1.refR g7 (by decide)) (Or.inr ⟨rfl, hn, rfl⟩) zw_2_96 (Tr_init_dc.at 6 rfl) (fun H locs S14 => ?_)
  refine u_al_n (x := a0) E (Tr_init_dc.at 7 rfl) hl rfl ?_
  obtain ⟨g15, h⟩ := ite_e h
  obtain ⟨T16, eT16, h⟩ := lt1_e h
  obtain ⟨L17, eL17, h⟩ := lt1_e h
  obtain ⟨M18, eM18, h⟩ := lt1_e h
  refine u_new E S14 eT16 eL17 eM18 zck_10 rfl (zdf_10 _) zw_2_93 zw_1_185 zw_1_7 g15 ⟨Nat.le_of_ble_eq_true rfl, Nat.le_of_ble_eq_true rfl⟩ (Tr_init_dc.at 8 rfl) (fun H S19 g20 => ?_)
  refine r_dup E (Tr_init_dc.at 9 rfl) (zR_cat _ _) ?_
  obtain ⟨T21, L22, M23, eM23, h⟩ := bd3_e h
  refine u_cN (As := []) (rest := [zR G.2.2.1 T8, zR G.2.2.1 a0]) E S19 zcw_yX10_init zw_1_187 rfl (List.mem_of_getElem? (i := 6) rfl) (S19.1.tag g20 (by decide)).1 (Wd_init_c l G fu T16 L17 M18 T8 (S19.1.refR g20 (by decide)) eM23) (zrm_ok (by decide) (by decide)) ⟨Nat.le_of_ble_eq_true rfl, Nat.le_of_ble_eq_true rfl⟩ rfl (by simp [zR_cat, zcat_I, zcat_J, zcat_S]) hl.size rfl (Tr_init_dc.at 10 rfl) (fun H locs _ S24 => ?_)
  obtain ⟨g25, h⟩ := ite_e h
  obtain ⟨M26, eM26, h⟩ := lt1_e h
  refine u_pR E eM26 zf_8_2 S24 g25 (S19.1.refR g20 (by decide)) (Or.inr ⟨rfl, hn, rfl⟩) zw_2_97 (Tr_init_dc.at 11 rfl) (fun H locs S27 => ?_)
  refine u_al_n (x := a0) E (Tr_init_dc.at 12 rfl) hl rfl ?_
  refine r_bipush E (Tr_init_dc.at 13 rfl) rfl ?_
  obtain ⟨g28, h⟩ := ite_e h
  obtain ⟨T29, eT29, h⟩ := lt1_e h
  obtain ⟨L30, eL30, h⟩ := lt1_e h
  obtain ⟨M31, eM31, h⟩ := lt1_e h
  refine u_newI (k := 24) E S27 eT29 eL30 eM31 zw_1_74 (by decide) g28 rfl ⟨Nat.le_of_ble_eq_true rfl, Nat.le_of_ble_eq_true rfl⟩ (Tr_init_dc.at 14 rfl) (fun H S32 g33 => ?_)
  obtain ⟨g34, h⟩ := ite_e h
  obtain ⟨M35, eM35, h⟩ := lt1_e h
  refine u_pR E eM35 zf_8_3 S32 g34 (S32.1.refR g33 (by decide)) (Or.inr ⟨rfl, hn, rfl⟩) zw_2_98 (Tr_init_dc.at 15 rfl) (fun H locs S36 => ?_)
  refine u_al_n (x := a0) E (Tr_init_dc.at 16 rfl) hl rfl ?_
  refine r_bipush E (Tr_init_dc.at 17 rfl) rfl ?_
  obtain ⟨g37, h⟩ := ite_e h
  obtain ⟨T38, eT38, h⟩ := lt1_e h
  obtain ⟨L39, eL39, h⟩ := lt1_e h
  obtain ⟨M40, eM40, h⟩ := lt1_e h
  refine u_newI (k := 24) E S36 eT38 eL39 eM40 zw_1_74 (by decide) g37 rfl ⟨Nat.le_of_ble_eq_true rfl, Nat.le_of_ble_eq_true rfl⟩ (Tr_init_dc.at 18 rfl) (fun H S41 g42 => ?_)
  obtain ⟨g43, h⟩ := ite_e h
  obtain ⟨M44, eM44, h⟩ := lt1_e h
  refine u_pR E eM44 zf_8_4 S41 g43 (S41.1.refR g42 (by decide)) (Or.inr ⟨rfl, hn, rfl⟩) zw_2_99 (Tr_init_dc.at 19 rfl) (fun H locs S45 => ?_)
  refine u_al_n (x := a0) E (Tr_init_dc.at 20 rfl) hl rfl ?_
  refine u_al_n (x := a1) E (Tr_init_dc.at 21 rfl) hl rfl ?_
  obtain ⟨M46, eM46, h⟩ := lt1_e h
  refine u_pR E eM46 zf_8_0 S45 g43 ha1 (Or.inr ⟨rfl, hn, rfl⟩) zw_2_95 (Tr_init_dc.at 22 rfl) (fun H locs S47 => ?_)
  cases h
  refine W.widen (k := 10) (n := 204) (by omega) (by omega) ?_
  exact r_vret E S47 True.intro (Tr_init_dc.at 23 rfl)
theorem Tr_init_c (l : Launch) (G : zG) (fu : Nat) (top : Int) (L : zL) (M : zM) (a0 : Int) (a1 : Int) {res : (Int × zL × zM)} (ha0 : InR a0) (ha1 : InR a1) (h : Tr_init fu top L M a0 a1 = some res) : Met l yX8_init (Cond.code yX8_init cX8_init 2 none :: zTB) (zrm 2 10 204) (va_Pc [zR G.2.2.1 a0, zR G.2.2.1 a1] (zPre G top L M)) (zQ G res.1 res.2.1 res.2.2 none True) 10 204 (zA G) :=
  z_met (by decide +kernel) (by simp [zR_cat, zcat_I, zcat_S]) (Nat.le_of_ble_eq_true rfl) fun p e s m below meth c ls E hn S hl => Tr_init_w E hn ha0 ha1 S (hl.sub (And.intro rfl (And.intro rfl True.intro))) h
end
theorem Lx_init_dc : zDL cX11_init [(0, .aload_n 0, 1, 1), (1, .invokespecial 3, 3, 4), (4, .aload_n 0, 1, 5), (5, .new 9, 3, 8), (8, .dup, 1, 9), (9, .invokespecial 11, 3, 12), (12, .putfield 12, 3, 15), (15, .aload_n 0, 1, 16), (16, .new 16, 3, 19), (19, .dup, 1, 20), (20, .aload_n 0, 1, 21), (21, .getfield 12, 3, 24), (24, .invokespecial 18, 3, 27), (27, .putfield 21, 3, 30), (30, .aload_n 0, 1, 31), (31, .new 25, 3, 34), (34, .dup, 1, 35), (35, .aload_n 0, 1, 36), (36, .getfield 12, 3, 39), (39, .invokespecial 27, 3, 42), (42, .putfield 28, 3, 45), (45, .aload_n 0, 1, 46), (46, .new 32, 3, 49), (49, .dup, 1, 50), (50, .aload_n 0, 1, 51), (51, .getfield 12, 3, 54), (54, .invokespecial 34, 3, 57), (57, .putfield 35, 3, 60), (60, .aload_n 0, 1, 61), (61, .new 39, 3, 64), (64, .dup, 1, 65), (65, .invokespecial 41, 3, 68), (68, .putfield 42, 3, 71), (71, .aload_n 0, 1, 72), (72, .new 39, 3, 75), (75, .dup, 1, 76), (76, .invokespecial 41, 3, 79), (79, .putfield 46, 3, 82), (82, .aload_n 0, 1, 83), (83, .new 49, 3, 86), (86, .dup, 1, 87), (87, .invokespecial 51, 3, 90), (90, .putfield 52, 3, 93), (93, .aload_n 0, 1, 94), (94, .new 56, 3, 97), (97, .dup, 1, 98), (98, .invokespecial 58, 3, 101), (101, .putfield 59, 3, 104), (104, .new 63, 3, 107), (107, .dup, 1, 108), (108, .invokespecial 65, 3, 111), (111, .astore_n 1, 1, 112), (112, .aload_n 0, 1, 113), (113, .new 66, 3, 116), (116, .dup, 1, 117), (117, .aload_n 1, 1, 118), (118, .invokespecial 68, 3, 121), (121, .putfield 71, 3, 124), (124, .aload_n 0, 1, 125), (125, .new 75, 3, 128), (128, .dup, 1, 129), (129, .aload_n 1, 1, 130), (130, .invokespecial 77, 3, 133), (133, .putfield 78, 3, 136), (136, .aload_n 0, 1, 137), (137, .iconst 5, 1, 138), (138, .newarray .int, 2, 140), (140, .putfield 82, 3, 143), (143, .aload_n 0, 1, 144), (144, .iconst (-1), 1, 145), (145, .putfield 86, 3, 148), (148, .return_, 1, 149)] := zDL.of (by decide +kernel)
section
variable {p : Program} {l : Launch} {e : Env} {s : State} {m : MethodId} {args : Array Value} {below : List Frame} {meth : Method} {c : Code} {G : zG} {top : Int} {L : zL} {fu : Nat}
theorem Lx_init_w (E : zEv p m c cX11_init 2 s args RX11 meth none G) (hn : meth.name = "<init>") {res : (Int × zL × zM)} {top : Int} {L : zL} {M : zM} {a0 : Int} {H : Heap} {locs : List Loc} {ls : Array Slot} (ha0 : InR a0) (S : zS G top L M s H locs) (hl : zLV ls 2 [some (zR G.2.2.1 a0), none]) (h : Lx_init fu top L M a0 = some res) : W p l e (zrm 4 158 3435) s m args below meth c H locs 0 0 (MQ below (zQ G res.1 res.2.1 res.2.2 none True) args s 158 3435 (zA G)) (F0 m 0 ls []) := by
  unfold Lx_init at h
  refine u_al_n (x := a0) E (Lx_init_dc.at 0 rfl) hl rfl ?_
  obtain ⟨g1, h⟩ := ite_e h
  refine r_obj (rest := []) E zw_1_31 zw_1_32 zw_1_33 (S.1.tag g1 (by decide)).1 hl.size (by decide) (by simp [zR_cat, zcat_I, zcat_J, zcat_S, zrm]) (Lx_init_dc.at 1 rfl) ?_
  refine u_al_n (x := a0) E (Lx_init_dc.at 2 rfl) hl rfl ?_
  obtain ⟨g2, h⟩ := ite_e h
  obtain ⟨T3, eT3, h⟩ := lt1_e h
  obtain ⟨L4, eL4, h⟩ := lt1_e h
  obtain ⟨M5, eM5, h⟩ := lt1_e h
  refine u_new E S eT3 eL4 eM5 zck_7 rfl (zdf_7 _) zw_1_34 zw_1_35 zw_1_2 g2 ⟨Nat.le_of_ble_eq_true rfl, Nat.le_of_ble_eq_true rfl⟩ (Lx_init_dc.at 3 rfl) (fun H S6 g7 => ?_)
  refine r_dup E (Lx_init_dc.at 4 rfl) (zR_cat _ _) ?_
  obtain ⟨T8, L9, M10, eM10, h⟩ := bd3_e h
  refine u_cN (As := []) (rest := [zR G.2.2.1 top, zR G.2.2.1 a0]) E S6 zcw_yX7_init zw_1_37 rfl (List.mem_of_getElem? (i := 0) rfl) (S6.1.tag g7 (by decide)).1 (Tp_init_c l G fu T3 L4 M5 top (S6.1.refR g7 (by decide)) eM10) (zrm_ok (by decide) (by decide)) ⟨Nat.le_of_ble_eq_true rfl, Nat.le_of_ble_eq_true rfl⟩ rfl (by simp [zR_cat, zcat_I, zcat_J, zcat_S]) hl.size rfl (Lx_init_dc.at 5 rfl) (fun H locs _ S11 => ?_)
  obtain ⟨g12, h⟩ := ite_e h
  obtain ⟨M13, eM13, h⟩ := lt1_e h
  refine u_pR E eM13 zf_11_0 S11 g12 (S6.1.refR g7 (by decide)) (Or.inr ⟨rfl, hn, rfl⟩) zw_2_132 (Lx_init_dc.at 6 rfl) (fun H locs S14 => ?_)
  refine u_al_n (x := a0) E (Lx_init_dc.at 7 rfl) hl rfl ?_
  obtain ⟨g15, h⟩ := ite_e h
  obtain ⟨T16, eT16, h⟩ := lt1_e h
  obtain ⟨L17, eL17, h⟩ := lt1_e h
  obtain ⟨M18, eM18, h⟩ := lt1_e h
  refine u_new E S14 eT16 eL17 eM18 zck_2 rfl (zdf_2 _) zw_1_75 zw_1_76 zw_1_3 g15 ⟨Nat.le_of_ble_eq_true rfl, Nat.le_of_ble_eq_true rfl⟩ (Lx_init_dc.at 8 rfl) (fun H S19 g20 => ?_)
  refine r_dup E (Lx_init_dc.at 9 rfl) (zR_cat _ _) ?_
  refine u_al_n (x := a0) E (Lx_init_dc.at 10 rfl) hl rfl ?_
  obtain ⟨g21, h⟩ := ite_e h
  refine u_gR E zf_11_0 S19 g21 zw_2_132 (Lx_init_dc.at 11 rfl) ?_
  obtain ⟨T22, L23, M24, eM24, h⟩ := bd3_e h
  refine u_cI (As := [zR G.2.2.1 (M18 a0 0)]) (rest := [zR G.2.2.1 T8, zR G.2.2.1 a0]) E S19 zcw_yX2_init zw_1_78 rfl zw_1_77 (S19.1.tag g20 (by decide)).1 (Fr_init_c l G fu T16 L17 M18 T8 (M18 a0 0) (S19.1.refR g20 (by decide)) (S19.1.inR _ _) eM24) (zrm_ok (by decide) (by decide)) ⟨Nat.le_of_ble_eq_true rfl, Nat.le_of_ble_eq_true rfl⟩ rfl (by simp [zR_cat, zcat_I, zcat_J, zcat_S]) hl.size rfl (Lx_init_dc.at 12 rfl) (fun H locs _ S25 => ?_)
  obtain ⟨g26, h⟩ := ite_e h
  obtain ⟨M27, eM27, h⟩ := lt1_e h
  refine u_pR E eM27 zf_11_1 S25 g26 (S19.1.refR g20 (by decide)) (Or.inr ⟨rfl, hn, rfl⟩) zw_2_133 (Lx_init_dc.at 13 rfl) (fun H locs S28 => ?_)
  refine u_al_n (x := a0) E (Lx_init_dc.at 14 rfl) hl rfl ?_
  obtain ⟨g29, h⟩ := ite_e h
  obtain ⟨T30, eT30, h⟩ := lt1_e h
  obtain ⟨L31, eL31, h⟩ := lt1_e h
  obtain ⟨M32, eM32, h⟩ := lt1_e h
  refine u_new E S28 eT30 eL31 eM32 zck_4 rfl (zdf_4 _) zw_1_97 zw_1_98 zw_1_4 g29 ⟨Nat.le_of_ble_eq_true rfl, Nat.le_of_ble_eq_true rfl⟩ (Lx_init_dc.at 15 rfl) (fun H S33 g34 => ?_)
  refine r_dup E (Lx_init_dc.at 16 rfl) (zR_cat _ _) ?_
  refine u_al_n (x := a0) E (Lx_init_dc.at 17 rfl) hl rfl ?_
  obtain ⟨g35, h⟩ := ite_e h
  refine u_gR E zf_11_0 S33 g35 zw_2_132 (Lx_init_dc.at 18 rfl) ?_
  obtain ⟨T36, L37, M38, eM38, h⟩ := bd3_e h
  refine u_cI (As := [zR G.2.2.1 (M32 a0 0)]) (rest := [zR G.2.2.1 T22, zR G.2.2.1 a0]) E S33 zcw_yX4_init zw_1_100 rfl zw_1_99 (S33.1.tag g34 (by decide)).1 (Gr_init_c l G fu T30 L31 M32 T22 (M32 a0 0) (S33.1.refR g34 (by decide)) (S33.1.inR _ _) eM38) (zrm_ok (by decide) (by decide)) ⟨Nat.le_of_ble_eq_true rfl, Nat.le_of_ble_eq_true rfl⟩ rfl (by simp [zR_cat, zcat_I, zcat_J, zcat_S]) hl.size rfl (Lx_init_dc.at 19 rfl) (fun H locs _ S39 => ?_)
  obtain ⟨g40, h⟩ := ite_e h
  obtain ⟨M41, eM41, h⟩ := lt1_e h
  refine u_pR E eM41 zf_11_2 S39 g40 (S33.1.refR g34 (by decide)) (Or.inr ⟨rfl, hn, rfl⟩) zw_2_134 (Lx_init_dc.at 20 rfl) (fun H locs S42 => ?_)
  refine u_al_n (x := a0) E (Lx_init_dc.at 21 rfl) hl rfl ?_
  obtain ⟨g43, h⟩ := ite_e h
  obtain ⟨T44, eT44, h⟩ := lt1_e h
  obtain ⟨L45, eL45, h⟩ := lt1_e h
  obtain ⟨M46, eM46, h⟩ := lt1_e h
  refine u_new E S42 eT44 eL45 eM46 zck_6 rfl (zdf_6 _) zw_1_155 zw_1_156 zw_1_5 g43 ⟨Nat.le_of_ble_eq_true rfl, Nat.le_of_ble_eq_true rfl⟩ (Lx_init_dc.at 22 rfl) (fun H S47 g48 => ?_)
  refine r_dup E (Lx_init_dc.at 23 rfl) (zR_cat _ _) ?_
  refine u_al_n (x := a0) E (Lx_init_dc.at 24 rfl) hl rfl ?_
  obtain ⟨g49, h⟩ := ite_e h
  refine u_gR E zf_11_0 S47 g49 zw_2_132 (Lx_init_dc.at 25 rfl) ?_
  obtain ⟨T50, L51, M52, eM52, h⟩ := bd3_e h
  refine u_cI (As := [zR G.2.2.1 (M46 a0 0)]) (rest := [zR G.2.2.1 T36, zR G.2.2.1 a0]) E S47 zcw_yX6_init zw_1_158 rfl zw_1_157 (S47.1.tag g48 (by decide)).1 (Sr_init_c l G fu T44 L45 M46 T36 (M46 a0 0) (S47.1.refR g48 (by decide)) (S47.1.inR _ _) eM52) (zrm_ok (by decide) (by decide)) ⟨Nat.le_of_ble_eq_true rfl, Nat.le_of_ble_eq_true rfl⟩ rfl (by simp [zR_cat, zcat_I, zcat_J, zcat_S]) hl.size rfl (Lx_init_dc.at 26 rfl) (fun H locs _ S53 => ?_)
  obtain ⟨g54, h⟩ := ite_e h
  obtain ⟨M55, eM55, h⟩ := lt1_e h
  refine u_pR E eM55 zf_11_3 S53 g54 (S47.1.refR g48 (by decide)) (Or.inr ⟨rfl, hn, rfl⟩) zw_2_135 (Lx_init_dc.at 27 rfl) (fun H locs S56 => ?_)
  refine u_al_n (x := a0) E (Lx_init_dc.at 28 rfl) hl rfl ?_
  obtain ⟨g57, h⟩ := ite_e h
  obtain ⟨T58, eT58, h⟩ := lt1_e h
  obtain ⟨L59, eL59, h⟩ := lt1_e h
  obtain ⟨M60, eM60, h⟩ := lt1_e h
  refine u_new E S56 eT58 eL59 eM60 zck_1 rfl (zdf_1 _) zw_1_178 zw_1_179 zw_1_6 g57 ⟨Nat.le_of_ble_eq_true rfl, Nat.le_of_ble_eq_true rfl⟩ (Lx_init_dc.at 29 rfl) (fun H S61 g62 => ?_)
  refine r_dup E (Lx_init_dc.at 30 rfl) (zR_cat _ _) ?_
  obtain ⟨T63, L64, M65, eM65, h⟩ := bd3_e h
  refine u_cN (As := []) (rest := [zR G.2.2.1 T50, zR G.2.2.1 a0]) E S61 zcw_yX1_init zw_1_181 rfl (List.mem_of_getElem? (i := 1) rfl) (S61.1.tag g62 (by decide)).1 (Af_init_c l G fu T58 L59 M60 T50 (S61.1.refR g62 (by decide)) eM65) (zrm_ok (by decide) (by decide)) ⟨Nat.le_of_ble_eq_true rfl, Nat.le_of_ble_eq_true rfl⟩ rfl (by simp [zR_cat, zcat_I, zcat_J, zcat_S]) hl.size rfl (Lx_init_dc.at 31 rfl) (fun H locs _ S66 => ?_)
  obtain ⟨g67, h⟩ := ite_e h
  obtain ⟨M68, eM68, h⟩ := lt1_e h
  refine u_pR E eM68 zf_11_4 S66 g67 (S61.1.refR g62 (by decide)) (Or.inr ⟨rfl, hn, rfl⟩) zw_2_136 (Lx_init_dc.at 32 rfl) (fun H locs S69 => ?_)
  refine u_al_n (x := a0) E (Lx_init_dc.at 33 rfl) hl rfl ?_
  obtain ⟨g70, h⟩ := ite_e h
  obtain ⟨T71, eT71, h⟩ := lt1_e h
  obtain ⟨L72, eL72, h⟩ := lt1_e h
  obtain ⟨M73, eM73, h⟩ := lt1_e h
  refine u_new E S69 eT71 eL72 eM73 zck_1 rfl (zdf_1 _) zw_1_178 zw_1_179 zw_1_6 g70 ⟨Nat.le_of_ble_eq_true rfl, Nat.le_of_ble_eq_true rfl⟩ (Lx_init_dc.at 34 rfl) (fun H S74 g75 => ?_)
  refine r_dup E (Lx_init_dc.at 35 rfl) (zR_cat _ _) ?_
  obtain ⟨T76, L77, M78, eM78, h⟩ := bd3_e h
  refine u_cN (As := []) (rest := [zR G.2.2.1 T63, zR G.2.2.1 a0]) E S74 zcw_yX1_init zw_1_181 rfl (List.mem_of_getElem? (i := 1) rfl) (S74.1.tag g75 (by decide)).1 (Af_init_c l G fu T71 L72 M73 T63 (S74.1.refR g75 (by decide)) eM78) (zrm_ok (by decide) (by decide)) ⟨Nat.le_of_ble_eq_true rfl, Nat.le_of_ble_eq_true rfl⟩ rfl (by simp [zR_cat, zcat_I, zcat_J, zcat_S]) hl.size rfl (Lx_init_dc.at 36 rfl) (fun H locs _ S79 => ?_)
  obtain ⟨g80, h⟩ := ite_e h
  obtain ⟨M81, eM81, h⟩ := lt1_e h
  refine u_pR E eM81 zf_11_5 S79 g80 (S74.1.refR g75 (by decide)) (Or.inr ⟨rfl, hn, rfl⟩) zw_2_137 (Lx_init_dc.at 37 rfl) (fun H locs S82 => ?_)
  refine u_al_n (x := a0) E (Lx_init_dc.at 38 rfl) hl rfl ?_
  obtain ⟨g83, h⟩ := ite_e h
  obtain ⟨T84, eT84, h⟩ := lt1_e h
  obtain ⟨L85, eL85, h⟩ := lt1_e h
  obtain ⟨M86, eM86, h⟩ := lt1_e h
  refine u_new E S82 eT84 eL85 eM86 zck_0 rfl (zdf_0 _) zw_2_4 zw_2_5 zw_1_8 g83 ⟨Nat.le_of_ble_eq_true rfl, Nat.le_of_ble_eq_true rfl⟩ (Lx_init_dc.at 39 rfl) (fun H S87 g88 => ?_)
  refine r_dup E (Lx_init_dc.at 40 rfl) (zR_cat _ _) ?_
  obtain ⟨T89, L90, M91, eM91, h⟩ := bd3_e h
  refine u_cI (As := []) (rest := [zR G.2.2.1 T76, zR G.2.2.1 a0]) E S87 zcw_yX0_init zw_2_7 rfl zw_2_6 (S87.1.tag g88 (by decide)).1 (Ac_init_c l G fu T84 L85 M86 T76 (S87.1.refR g88 (by decide)) eM91) (zrm_ok (by decide) (by decide)) ⟨Nat.le_of_ble_eq_true rfl, Nat.le_of_ble_eq_true rfl⟩ rfl (by simp [zR_cat, zcat_I, zcat_J, zcat_S]) hl.size rfl (Lx_init_dc.at 41 rfl) (fun H locs _ S92 => ?_)
  obtain ⟨g93, h⟩ := ite_e h
  obtain ⟨M94, eM94, h⟩ := lt1_e h
  refine u_pR E eM94 zf_11_6 S92 g93 (S87.1.refR g88 (by decide)) (Or.inr ⟨rfl, hn, rfl⟩) zw_2_138 (Lx_init_dc.at 42 rfl) (fun H locs S95 => ?_)
  refine u_al_n (x := a0) E (Lx_init_dc.at 43 rfl) hl rfl ?_
  obtain ⟨g96, h⟩ := ite_e h
  obtain ⟨T97, eT97, h⟩ := lt1_e h
  obtain ⟨L98, eL98, h⟩ := lt1_e h
  obtain ⟨M99, eM99, h⟩ := lt1_e h
  refine u_new E S95 eT97 eL98 eM99 zck_10 rfl (zdf_10 _) zw_2_24 zw_1_185 zw_1_7 g96 ⟨Nat.le_of_ble_eq_true rfl, Nat.le_of_ble_eq_true rfl⟩ (Lx_init_dc.at 44 rfl) (fun H S100 g101 => ?_)
  refine r_dup E (Lx_init_dc.at 45 rfl) (zR_cat _ _) ?_
  obtain ⟨T102, L103, M104, eM104, h⟩ := bd3_e h
  refine u_cN (As := []) (rest := [zR G.2.2.1 T89, zR G.2.2.1 a0]) E S100 zcw_yX10_init zw_1_187 rfl (List.mem_of_getElem? (i := 4) rfl) (S100.1.tag g101 (by decide)).1 (Wd_init_c l G fu T97 L98 M99 T89 (S100.1.refR g101 (by decide)) eM104) (zrm_ok (by decide) (by decide)) ⟨Nat.le_of_ble_eq_true rfl, Nat.le_of_ble_eq_true rfl⟩ rfl (by simp [zR_cat, zcat_I, zcat_J, zcat_S]) hl.size rfl (Lx_init_dc.at 46 rfl) (fun H locs _ S105 => ?_)
  obtain ⟨g106, h⟩ := ite_e h
  obtain ⟨M107, eM107, h⟩ := lt1_e h
  refine u_pR E eM107 zf_11_7 S105 g106 (S100.1.refR g101 (by decide)) (Or.inr ⟨rfl, hn, rfl⟩) zw_2_139 (Lx_init_dc.at 47 rfl) (fun H locs S108 => ?_)
  obtain ⟨g109, h⟩ := ite_e h
  obtain ⟨T110, eT110, h⟩ := lt1_e h
  obtain ⟨L111, eL111, h⟩ := lt1_e h
  obtain ⟨M112, eM112, h⟩ := lt1_e h
  refine u_new E S108 eT110 eL111 eM112 zck_5 rfl (zdf_5 _) zw_2_26 zw_2_27 zw_1_9 g109 ⟨Nat.le_of_ble_eq_true rfl, Nat.le_of_ble_eq_true rfl⟩ (Lx_init_dc.at 48 rfl) (fun H S113 g114 => ?_)
  refine r_dup E (Lx_init_dc.at 49 rfl) (zR_cat _ _) ?_
  obtain ⟨T115, L116, M117, eM117, h⟩ := bd3_e h
  refine u_cN (As := []) (rest := [zR G.2.2.1 T102]) E S113 zcw_yX5_init zw_2_29 rfl (List.mem_of_getElem? (i := 5) rfl) (S113.1.tag g114 (by decide)).1 (Rk_init_c l G fu T110 L111 M112 T102 (S113.1.refR g114 (by decide)) eM117) (zrm_ok (by decide) (by decide)) ⟨Nat.le_of_ble_eq_true rfl, Nat.le_of_ble_eq_true rfl⟩ rfl (by simp [zR_cat, zcat_I, zcat_J, zcat_S]) hl.size rfl (Lx_init_dc.at 50 rfl) (fun H locs _ S118 => ?_)
  refine u_ast_n (y := T102) (vs' := [some (zR G.2.2.1 a0), some (zR G.2.2.1 T102)]) E rfl (Lx_init_dc.at 51 rfl) hl (by decide) rfl (fun ls hl => ?_)
  refine u_al_n (x := a0) E (Lx_init_dc.at 52 rfl) hl rfl ?_
  obtain ⟨g119, h⟩ := ite_e h
  obtain ⟨T120, eT120, h⟩ := lt1_e h
  obtain ⟨L121, eL121, h⟩ := lt1_e h
  obtain ⟨M122, eM122, h⟩ := lt1_e h
  refine u_new E S118 eT120 eL121 eM122 zck_9 rfl (zdf_9 _) zw_2_54 zw_2_55 zw_1_10 g119 ⟨Nat.le_of_ble_eq_true rfl, Nat.le_of_ble_eq_true rfl⟩ (Lx_init_dc.at 53 rfl) (fun H S123 g124 => ?_)
  refine r_dup E (Lx_init_dc.at 54 rfl) (zR_cat _ _) ?_
  refine u_al_n (x := T102) E (Lx_init_dc.at 55 rfl) hl rfl ?_
  obtain ⟨T125, L126, M127, eM127, h⟩ := bd3_e h
  refine u_cI (As := [zR G.2.2.1 T102]) (rest := [zR G.2.2.1 T115, zR G.2.2.1 a0]) E S123 zcw_yX9_init zw_2_57 rfl zw_2_56 (S123.1.tag g124 (by decide)).1 (Wt_init_c l G fu T120 L121 M122 T115 T102 (S123.1.refR g124 (by decide)) (S113.1.refR g114 (by decide)) eM127) (zrm_ok (by decide) (by decide)) ⟨Nat.le_of_ble_eq_true rfl, Nat.le_of_ble_eq_true rfl⟩ rfl (by simp [zR_cat, zcat_I, zcat_J, zcat_S]) hl.size rfl (Lx_init_dc.at 56 rfl) (fun H locs _ S128 => ?_)
  obtain ⟨g129, h⟩ := ite_e h
  obtain ⟨M130, eM130, h⟩ := lt1_e h
  refine u_pR E eM130 zf_11_8 S128 g129 (S123.1.refR g124 (by decide)) (Or.inr ⟨rfl, hn, rfl⟩) zw_2_140 (Lx_init_dc.at 57 rfl) (fun H locs S131 => ?_)
  refine u_al_n (x := a0) E (Lx_init_dc.at 58 rfl) hl rfl ?_
  obtain ⟨g132, h⟩ := ite_e h
  obtain ⟨T133, eT133, h⟩ := lt1_e h
  obtain ⟨L134, eL134, h⟩ := lt1_e h
  obtain ⟨M135, eM135, h⟩ := lt1_e h
  refine u_new E S131 eT133 eL134 eM135 zck_8 rfl (zdf_8 _) zw_2_87 zw_2_88 zw_1_11 g132 ⟨Nat.le_of_ble_eq_true rfl, Nat.le_of_ble_eq_true rfl⟩ (Lx_init_dc.at 59 rfl) (fun H S136 g137 => ?_)
  refine r_dup E (Lx_init_dc.at 60 rfl) (zR_cat _ _) ?_
  refine u_al_n (x := T102) E (Lx_init_dc.at 61 rfl) hl rfl ?_
  obtain ⟨T138, L139, M140, eM140, h⟩ := bd3_e h
  refine u_cI (As := [zR G.2.2.1 T102]) (rest := [zR G.2.2.1 T125, zR G.2.2.1 a0]) E S136 zcw_yX8_init zw_2_90 rfl zw_2_89 (S136.1.tag g137 (by decide)).1 (Tr_init_c l G fu T133 L134 M135 T125 T102 (S136.1.refR g137 (by decide)) (S113.1.refR g114 (by decide)) eM140) (zrm_ok (by decide) (by decide)) ⟨Nat.le_of_ble_eq_true rfl, Nat.le_of_ble_eq_true rfl⟩ rfl (by simp [zR_cat, zcat_I, zcat_J, zcat_S]) hl.size rfl (Lx_init_dc.at 62 rfl) (fun H locs _ S141 => ?_)
  obtain ⟨g142, h⟩ := ite_e h
  obtain ⟨M143, eM143, h⟩ := lt1_e h
  refine u_pR E eM143 zf_11_9 S141 g142 (S136.1.refR g137 (by decide)) (Or.inr ⟨rfl, hn, rfl⟩) zw_2_141 (Lx_init_dc.at 63 rfl) (fun H locs S144 => ?_)
  refine u_al_n (x := a0) E (Lx_init_dc.at 64 rfl) hl rfl ?_
  refine r_iconst E (Lx_init_dc.at 65 rfl) ?_
  obtain ⟨g145, h⟩ := ite_e h
  obtain ⟨T146, eT146, h⟩ := lt1_e h
  obtain ⟨L147, eL147, h⟩ := lt1_e h
  obtain ⟨M148, eM148, h⟩ := lt1_e h
  refine u_newI (k := 5) E S144 eT146 eL147 eM148 zw_1_74 (by decide) g145 rfl ⟨Nat.le_of_ble_eq_true rfl, Nat.le_of_ble_eq_true rfl⟩ (Lx_init_dc.at 66 rfl) (fun H S149 g150 => ?_)
  obtain ⟨g151, h⟩ := ite_e h
  obtain ⟨M152, eM152, h⟩ := lt1_e h
  refine u_pR E eM152 zf_11_10 S149 g151 (S149.1.refR g150 (by decide)) (Or.inr ⟨rfl, hn, rfl⟩) zw_2_142 (Lx_init_dc.at 67 rfl) (fun H locs S153 => ?_)
  refine u_al_n (x := a0) E (Lx_init_dc.at 68 rfl) hl rfl ?_
  refine r_iconst E (Lx_init_dc.at 69 rfl) ?_
  obtain ⟨M154, eM154, h⟩ := lt1_e h
  refine u_pI E eM154 zf_11_14 S153 g151 (show InR (-1) by decide) (Or.inl rfl) rfl zw_2_146 (Lx_init_dc.at 70 rfl) (fun H locs S155 => ?_)
  cases h
  refine W.widen (k := 158) (n := 3435) (by omega) (by omega) ?_
  exact r_vret E S155 True.intro (Lx_init_dc.at 71 rfl)
theorem Lx_init_c (l : Launch) (G : zG) (fu : Nat) (top : Int) (L : zL) (M : zM) (a0 : Int) {res : (Int × zL × zM)} (ha0 : InR a0) (h : Lx_init fu top L M a0 = some res) : Met l yX11_init (Cond.code yX11_init cX11_init 2 none :: zTB) (zrm 4 158 3435) (va_Pc [zR G.2.2.1 a0] (zPre G top L M)) (zQ G res.1 res.2.1 res.2.2 none True) 158 3435 (zA G) :=
  z_met (by decide +kernel) (by simp [zR_cat, zcat_I, zcat_S]) (Nat.le_of_ble_eq_true rfl) fun p e s m below meth c ls E hn S hl => Lx_init_w E hn ha0 S (hl.sub (And.intro rfl True.intro)) h
end
theorem Tp_solidBytes_dc : zDL cX7_solidBytes [(0, .iconst 0, 1, 1), (1, .istore_n 1, 1, 2), (2, .bipush 24, 2, 4), (4, .istore_n 2, 1, 5), (5, .iload_n 2, 1, 6), (6, .ifCond .lt 22, 3, 9), (9, .iload_n 0, 1, 10), (10, .iload_n 2, 1, 11), (11, .iushr, 1, 12), (12, .sipush 255, 3, 15), (15, .iand, 1, 16), (16, .ifCond .eq 6, 3, 19), (19, .iinc 1 1, 3, 22), (22, .iinc 2 (-8), 3, 25), (25, .goto (-20), 3, 28), (28, .iload_n 1, 1, 29), (29, .ireturn, 1, 30)] := zDL.of (by decide +kernel)
section
variable {p : Program} {l : Launch} {e : Env} {s : State} {m : MethodId} {args : Array Value} {below : List Frame} {meth : Method} {c : Code} {G : zG} {top : Int} {L : zL} {fu : Nat}
theorem Tp_solidBytes_s5_w (E : zEv p m c cX7_solidBytes 3 s args RX7 meth (some .int) G) {res : Int} {k5 : zM → Int → Int → Int → Option Int} (hk5 : ∀ (M : zM) (x0 : Int) (x1 : Int) (x2 : Int), InR x0 → InR x1 → InR x2 → ∀ (H : Heap) (locs : List Loc) (ls : Array Slot), zS G top L M s H locs → zLV ls 3 [some (.int (zO x0)), some (.int (zO x1)), some (.int (zO x2))] → k5 M x0 x1 x2 = some res → W p l e (zrm 1 0 0) s m args below meth c H locs 0 0 (MQ below (zQ G top L M (some (.int (zO res))) (InR res)) args s 0 0 (zA G)) (F0 m 5 ls [])) {M : zM} {x0 : Int} {x1 : Int} {x2 : Int} {H : Heap} {locs : List Loc} {ls : Array Slot} (hx0 : InR x0) (hx1 : InR x1) (hx2 : InR x2) (S : zS G top L M s H locs) (hl : zLV ls 3 [some (.int (zO x0)), some (.int (zO x1)), some (.int (zO x2))]) (h : Tp_solidBytes_s5 fu k5 L M x0 x1 x2 = some res) : W p l e (zrm 1 0 0) s m args below meth c H locs 0 0 (MQ below (zQ G top L M (some (.int (zO res))) (InR res)) args s 0 0 (zA G)) (F0 m 5 ls []) := by
  unfold Tp_solidBytes_s5 at h
  refine u_il_n (x := x2) E (Tp_solidBytes_dc.at 4 rfl) hl rfl ?_
  refine r_if_lt (tgt := 28) E hx2 (Tp_solidBytes_dc.at 5 rfl) (by decide) (fun q => ?_) (fun q => ?_)
  · have h := ite_t h q
    refine u_il_n (x := x1) E (Tp_solidBytes_dc.at 15 rfl) hl rfl ?_
    cases h
    exact r_iret E S hx1 (Tp_solidBytes_dc.at 16 rfl)
  · have h := ite_f h q
    refine u_il_n (x := x0) E (Tp_solidBytes_dc.at 6 rfl) hl rfl ?_
    refine u_il_n (x := x2) E (Tp_solidBytes_dc.at 7 rfl) hl rfl ?_
    refine r_iushr E (Tp_solidBytes_dc.at 8 rfl) ?_
    refine r_sipush E (Tp_solidBytes_dc.at 9 rfl) rfl ?_
    refine r_iand E (Tp_solidBytes_dc.at 10 rfl) ?_
    refine r_if_eq (tgt := 22) E (inR_iand _ _) (Tp_solidBytes_dc.at 11 rfl) (by decide) (fun q => ?_) (fun q => ?_)
    · have h := ite_t h q
      obtain ⟨v1, ev1, h⟩ := lt1_e h
      have hv1 := inR_eq ev1 (inR_w32 _)
      refine u_iinc (y := v1) (vs' := [some (.int (zO x0)), some (.int (zO x1)), some (.int (zO v1))]) E ev1 (Tp_solidBytes_dc.at 13 rfl) hl rfl (by decide) rfl (fun ls hl => ?_)
      refine r_goto (tgt := 5) E (Tp_solidBytes_dc.at 14 rfl) (by decide) ?_
      exact hk5 _ x0 x1 v1 hx0 hx1 hv1 _ _ _ S (hl.sub (And.intro rfl (And.intro rfl (And.intro rfl True.intro)))) h
    · have h := ite_f h q
      obtain ⟨v2, ev2, h⟩ := lt1_e h
      have hv2 := inR_eq ev2 (inR_w32 _)
      refine u_iinc (y := v2) (vs' := [some (.int (zO x0)), some (.int (zO v2)), some (.int (zO x2))]) E ev2 (Tp_solidBytes_dc.at 12 rfl) hl rfl (by decide) rfl (fun ls hl => ?_)
      obtain ⟨v3, ev3, h⟩ := lt1_e h
      have hv3 := inR_eq ev3 (inR_w32 _)
      refine u_iinc (y := v3) (vs' := [some (.int (zO x0)), some (.int (zO v2)), some (.int (zO v3))]) E ev3 (Tp_solidBytes_dc.at 13 rfl) hl rfl (by decide) rfl (fun ls hl => ?_)
      refine r_goto (tgt := 5) E (Tp_solidBytes_dc.at 14 rfl) (by decide) ?_
      exact hk5 _ x0 v2 v3 hx0 hv2 hv3 _ _ _ S (hl.sub (And.intro rfl (And.intro rfl (And.intro rfl True.intro)))) h
theorem Tp_solidBytes_l5_w (E : zEv p m c cX7_solidBytes 3 s args RX7 meth (some .int) G) {res : Int} : ∀ (n : Nat) (M : zM) (x0 : Int) (x1 : Int) (x2 : Int), InR x0 → InR x1 → InR x2 → ∀ (H : Heap) (locs : List Loc) (ls : Array Slot), zS G top L M s H locs → zLV ls 3 [some (.int (zO x0)), some (.int (zO x1)), some (.int (zO x2))] → Tp_solidBytes_l5 fu L n M x0 x1 x2 = some res → W p l e (zrm 1 0 0) s m args below meth c H locs 0 0 (MQ below (zQ G top L M (some (.int (zO res))) (InR res)) args s 0 0 (zA G)) (F0 m 5 ls [])
  | 0, _, _, _, _ => fun _ _ _ _ _ _ _ _ h => (by cases h)
  | n + 1, M, x0, x1, x2 => fun hx0 hx1 hx2 H locs ls S hl h => Tp_solidBytes_s5_w E (fun M x0 x1 x2 hx0 hx1 hx2 H locs ls S hl h => Tp_solidBytes_l5_w E n M x0 x1 x2 hx0 hx1 hx2 H locs ls S hl h) hx0 hx1 hx2 S hl h
theorem Tp_solidBytes_w (E : zEv p m c cX7_solidBytes 3 s args RX7 meth (some .int) G) {res : Int} {M : zM} {a0 : Int} {H : Heap} {locs : List Loc} {ls : Array Slot} (ha0 : InR a0) (S : zS G top L M s H locs) (hl : zLV ls 3 [some (.int (zO a0)), none, none]) (h : Tp_solidBytes fu L M a0 = some res) : W p l e (zrm 1 0 0) s m args below meth c H locs 0 0 (MQ below (zQ G top L M (some (.int (zO res))) (InR res)) args s 0 0 (zA G)) (F0 m 0 ls []) := by
  unfold Tp_solidBytes at h
  refine r_iconst E (Tp_solidBytes_dc.at 0 rfl) ?_
  refine u_ist_n (y := 0) (vs' := [some (.int (zO a0)), some (.int (zO 0)), none]) E rfl (Tp_solidBytes_dc.at 1 rfl) hl (by decide) rfl (fun ls hl => ?_)
  refine r_bipush E (Tp_solidBytes_dc.at 2 rfl) rfl ?_
  refine u_ist_n (y := 24) (vs' := [some (.int (zO a0)), some (.int (zO 0)), some (.int (zO 24))]) E rfl (Tp_solidBytes_dc.at 3 rfl) hl (by decide) rfl (fun ls hl => ?_)
  exact Tp_solidBytes_l5_w E fu _ a0 0 24 ha0 (show InR 0 by decide) (show InR 24 by decide) _ _ _ S (hl.sub (And.intro rfl (And.intro rfl (And.intro rfl True.intro)))) h
theorem Tp_solidBytes_c (l : Launch) (G : zG) (fu : Nat) (top : Int) (L : zL) (M : zM) (a0 : Int) {res : Int} (ha0 : InR a0) (h : Tp_solidBytes fu L M a0 = some res) : Met l yX7_solidBytes (Cond.code yX7_solidBytes cX7_solidBytes 3 (some .int) :: zTB) (zrm 1 0 0) (va_Pc [.int (zO a0)] (zPre G top L M)) (zQ G top L M (some (.int (zO res))) (InR res)) 0 0 (zA G) :=
  z_met (by decide +kernel) (by simp [zR_cat, zcat_I, zcat_S]) (Nat.le_of_ble_eq_true rfl) fun p e s m below meth c ls E hn S hl => Tp_solidBytes_w E ha0 S (hl.sub (And.intro rfl True.intro)) h
end
theorem Tp_put_dc : zDL cX7_put [(0, .bipush 24, 2, 2), (2, .istore_n 2, 1, 3), (3, .iload_n 2, 1, 4), (4, .ifCond .lt 60, 3, 7), (7, .iload_n 1, 1, 8), (8, .iload_n 2, 1, 9), (9, .iushr, 1, 10), (10, .sipush 255, 3, 13), (13, .iand, 1, 14), (14, .istore_n 3, 1, 15), (15, .iload_n 3, 1, 16), (16, .ifCond .eq 42, 3, 19), (19, .aload_n 0, 1, 20), (20, .getfield 18, 3, 23), (23, .ifCond .lt 35, 3, 26), (26, .aload_n 0, 1, 27), (27, .getfield 18, 3, 30), (30, .aload_n 0, 1, 31), (31, .getfield 9, 3, 34), (34, .arraylength, 1, 35), (35, .if_icmp .ge 23, 3, 38), (38, .aload_n 0, 1, 39), (39, .getfield 9, 3, 42), (42, .aload_n 0, 1, 43), (43, .getfield 18, 3, 46), (46, .iload_n 3, 1, 47), (47, .iastore, 1, 48), (48, .aload_n 0, 1, 49), (49, .dup, 1, 50), (50, .getfield 18, 3, 53), (53, .iconst 1, 1, 54), (54, .iadd, 1, 55), (55, .putfield 18, 3, 58), (58, .iinc 2 (-8), 3, 61), (61, .goto (-58), 3, 64), (64, .return_, 1, 65)] := zDL.of (by decide +kernel)
section
variable {p : Program} {l : Launch} {e : Env} {s : State} {m : MethodId} {args : Array Value} {below : List Frame} {meth : Method} {c : Code} {G : zG} {top : Int} {L : zL} {fu : Nat}
theorem Tp_put_s3_w (E : zEv p m c cX7_put 4 s args RX7 meth none G) {res : zM} {k3 : zM → Int → Int → Int → Option zM} (hk3 : ∀ (M : zM) (x0 : Int) (x1 : Int) (x2 : Int), InR x0 → InR x1 → InR x2 → ∀ (H : Heap) (locs : List Loc) (ls : Array Slot), zS G top L M s H locs → zLV ls 4 [some (zR G.2.2.1 x0), some (.int (zO x1)), some (.int (zO x2)), none] → k3 M x0 x1 x2 = some res → W p l e (zrm 1 0 0) s m args below meth c H locs 0 0 (MQ below (zQ G top L res none True) args s 0 0 (zA G)) (F0 m 3 ls [])) {M : zM} {x0 : Int} {x1 : Int} {x2 : Int} {H : Heap} {locs : List Loc} {ls : Array Slot} (hx0 : InR x0) (hx1 : InR x1) (hx2 : InR x2) (S : zS G top L M s H locs) (hl : zLV ls 4 [some (zR G.2.2.1 x0), some (.int (zO x1)), some (.int (zO x2)), none]) (h : Tp_put_s3 fu k3 L M x0 x1 x2 = some res) : W p l e (zrm 1 0 0) s m args below meth c H locs 0 0 (MQ below (zQ G top L res none True) args s 0 0 (zA G)) (F0 m 3 ls []) := by
  unfold Tp_put_s3 at h
  refine u_il_n (x := x2) E (Tp_put_dc.at 2 rfl) hl rfl ?_
  refine r_if_lt (tgt := 64) E hx2 (Tp_put_dc.at 3 rfl) (by decide) (fun q => ?_) (fun q => ?_)
  · have h := ite_t h q
    cases h
    exact r_vret E S True.intro (Tp_put_dc.at 35 rfl)
  · have h := ite_f h q
    refine u_il_n (x := x1) E (Tp_put_dc.at 4 rfl) hl rfl ?_
    refine u_il_n (x := x2) E (Tp_put_dc.at 5 rfl) hl rfl ?_
    refine r_iushr E (Tp_put_dc.at 6 rfl) ?_
    refine r_sipush E (Tp_put_dc.at 7 rfl) rfl ?_
    refine r_iand E (Tp_put_dc.at 8 rfl) ?_
    obtain ⟨v1, ev1, h⟩ := lt1_e h
    have hv1 := inR_eq ev1 (inR_iand _ _)
    refine u_ist_n (y := v1) (vs' := [some (zR G.2.2.1 x0), some (.int (zO x1)), some (.int (zO x2)), some (.int (zO v1))]) E ev1 (Tp_put_dc.at 9 rfl) hl (by decide) rfl (fun ls hl => ?_)
    refine u_il_n (x := v1) E (Tp_put_dc.at 10 rfl) hl rfl ?_
    refine r_if_eq (tgt := 58) E hv1 (Tp_put_dc.at 11 rfl) (by decide) (fun q => ?_) (fun q => ?_)
    · have h := ite_t h q
      obtain ⟨v2, ev2, h⟩ := lt1_e h
      have hv2 := inR_eq ev2 (inR_w32 _)
      refine u_iinc (y := v2) (vs' := [some (zR G.2.2.1 x0), some (.int (zO x1)), some (.int (zO v2)), some (.int (zO v1))]) E ev2 (Tp_put_dc.at 33 rfl) hl rfl (by decide) rfl (fun ls hl => ?_)
      refine r_goto (tgt := 3) E (Tp_put_dc.at 34 rfl) (by decide) ?_
      exact hk3 _ x0 x1 v2 hx0 hx1 hv2 _ _ _ S (hl.sub (And.intro rfl (And.intro rfl (And.intro rfl True.intro)))) h
    · have h := ite_f h q
      refine u_al_n (x := x0) E (Tp_put_dc.at 12 rfl) hl rfl ?_
      obtain ⟨g3, h⟩ := ite_e h
      refine u_gI E zf_7_2 S g3 zw_1_43 (Tp_put_dc.at 13 rfl) ?_
      refine r_if_lt (tgt := 58) E (S.1.inR _ _) (Tp_put_dc.at 14 rfl) (by decide) (fun q => ?_) (fun q => ?_)
      · have h := ite_t h q
        obtain ⟨v4, ev4, h⟩ := lt1_e h
        have hv4 := inR_eq ev4 (inR_w32 _)
        refine u_iinc (y := v4) (vs' := [some (zR G.2.2.1 x0), some (.int (zO x1)), some (.int (zO v4)), some (.int (zO v1))]) E ev4 (Tp_put_dc.at 33 rfl) hl rfl (by decide) rfl (fun ls hl => ?_)
        refine r_goto (tgt := 3) E (Tp_put_dc.at 34 rfl) (by decide) ?_
        exact hk3 _ x0 x1 v4 hx0 hx1 hv4 _ _ _ S (hl.sub (And.intro rfl (And.intro rfl (And.intro rfl True.intro)))) h
      · have h := ite_f h q
        refine u_al_n (x := x0) E (Tp_put_dc.at 15 rfl) hl rfl ?_
        refine u_gI E zf_7_2 S g3 zw_1_43 (Tp_put_dc.at 16 rfl) ?_
        refine u_al_n (x := x0) E (Tp_put_dc.at 17 rfl) hl rfl ?_
        refine u_gR E zf_7_0 S g3 zw_1_40 (Tp_put_dc.at 18 rfl) ?_
        obtain ⟨g5, h⟩ := ite_e h
        refine r_alen E S g5 (by decide) (Tp_put_dc.at 19 rfl) ?_
        refine r_icmp_ge (tgt := 58) E (S.1.inR _ _) (S.1.lenR _) (Tp_put_dc.at 20 rfl) (by decide) (fun q => ?_) (fun q => ?_)
        · have h := ite_t h q
          refine u_al_n (x := x0) E (Tp_put_dc.at 21 rfl) hl rfl ?_
          refine u_gR E zf_7_0 S g3 zw_1_40 (Tp_put_dc.at 22 rfl) ?_
          refine u_al_n (x := x0) E (Tp_put_dc.at 23 rfl) hl rfl ?_
          refine u_gI E zf_7_2 S g3 zw_1_43 (Tp_put_dc.at 24 rfl) ?_
          refine u_il_n (x := v1) E (Tp_put_dc.at 25 rfl) hl rfl ?_
          obtain ⟨g6, h⟩ := ite_e h
          obtain ⟨M7, eM7, h⟩ := lt1_e h
          refine u_iast E eM7 S g5 g6 hv1 (Tp_put_dc.at 26 rfl) (fun H locs S8 => ?_)
          refine u_al_n (x := x0) E (Tp_put_dc.at 27 rfl) hl rfl ?_
          refine r_dup E (Tp_put_dc.at 28 rfl) (zR_cat _ _) ?_
          refine u_gI E zf_7_2 S8 g3 zw_1_43 (Tp_put_dc.at 29 rfl) ?_
          refine r_iconst E (Tp_put_dc.at 30 rfl) ?_
          refine r_iadd E (Tp_put_dc.at 31 rfl) ?_
          obtain ⟨M9, eM9, h⟩ := lt1_e h
          refine u_pI E eM9 zf_7_2 S8 g3 (inR_w32 _) (Or.inl rfl) rfl zw_1_43 (Tp_put_dc.at 32 rfl) (fun H locs S10 => ?_)
          obtain ⟨v11, ev11, h⟩ := lt1_e h
          have hv11 := inR_eq ev11 (inR_w32 _)
          refine u_iinc (y := v11) (vs' := [some (zR G.2.2.1 x0), some (.int (zO x1)), some (.int (zO v11)), some (.int (zO v1))]) E ev11 (Tp_put_dc.at 33 rfl) hl rfl (by decide) rfl (fun ls hl => ?_)
          refine r_goto (tgt := 3) E (Tp_put_dc.at 34 rfl) (by decide) ?_
          exact hk3 _ x0 x1 v11 hx0 hx1 hv11 _ _ _ S10 (hl.sub (And.intro rfl (And.intro rfl (And.intro rfl True.intro)))) h
        · have h := ite_f h q
          obtain ⟨v12, ev12, h⟩ := lt1_e h
          have hv12 := inR_eq ev12 (inR_w32 _)
          refine u_iinc (y := v12) (vs' := [some (zR G.2.2.1 x0), some (.int (zO x1)), some (.int (zO v12)), some (.int (zO v1))]) E ev12 (Tp_put_dc.at 33 rfl) hl rfl (by decide) rfl (fun ls hl => ?_)
          refine r_goto (tgt := 3) E (Tp_put_dc.at 34 rfl) (by decide) ?_
          exact hk3 _ x0 x1 v12 hx0 hx1 hv12 _ _ _ S (hl.sub (And.intro rfl (And.intro rfl (And.intro rfl True.intro)))) h
theorem Tp_put_l3_w (E : zEv p m c cX7_put 4 s args RX7 meth none G) {res : zM} : ∀ (n : Nat) (M : zM) (x0 : Int) (x1 : Int) (x2 : Int), InR x0 → InR x1 → InR x2 → ∀ (H : Heap) (locs : List Loc) (ls : Array Slot), zS G top L M s H locs → zLV ls 4 [some (zR G.2.2.1 x0), some (.int (zO x1)), some (.int (zO x2)), none] → Tp_put_l3 fu L n M x0 x1 x2 = some res → W p l e (zrm 1 0 0) s m args below meth c H locs 0 0 (MQ below (zQ G top L res none True) args s 0 0 (zA G)) (F0 m 3 ls [])
  | 0, _, _, _, _ => fun _ _ _ _ _ _ _ _ h => (by cases h)
  | n + 1, M, x0, x1, x2 => fun hx0 hx1 hx2 H locs ls S hl h => Tp_put_s3_w E (fun M x0 x1 x2 hx0 hx1 hx2 H locs ls S hl h => Tp_put_l3_w E n M x0 x1 x2 hx0 hx1 hx2 H locs ls S hl h) hx0 hx1 hx2 S hl h
theorem Tp_put_w (E : zEv p m c cX7_put 4 s args RX7 meth none G) {res : zM} {M : zM} {a0 : Int} {a1 : Int} {H : Heap} {locs : List Loc} {ls : Array Slot} (ha0 : InR a0) (ha1 : InR a1) (S : zS G top L M s H locs) (hl : zLV ls 4 [some (zR G.2.2.1 a0), some (.int (zO a1)), none, none]) (h : Tp_put fu L M a0 a1 = some res) : W p l e (zrm 1 0 0) s m args below meth c H locs 0 0 (MQ below (zQ G top L res none True) args s 0 0 (zA G)) (F0 m 0 ls []) := by
  unfold Tp_put at h
  refine r_bipush E (Tp_put_dc.at 0 rfl) rfl ?_
  refine u_ist_n (y := 24) (vs' := [some (zR G.2.2.1 a0), some (.int (zO a1)), some (.int (zO 24)), none]) E rfl (Tp_put_dc.at 1 rfl) hl (by decide) rfl (fun ls hl => ?_)
  exact Tp_put_l3_w E fu _ a0 a1 24 ha0 ha1 (show InR 24 by decide) _ _ _ S (hl.sub (And.intro rfl (And.intro rfl (And.intro rfl True.intro)))) h
theorem Tp_put_c (l : Launch) (G : zG) (fu : Nat) (top : Int) (L : zL) (M : zM) (a0 : Int) (a1 : Int) {res : zM} (ha0 : InR a0) (ha1 : InR a1) (h : Tp_put fu L M a0 a1 = some res) : Met l yX7_put (Cond.code yX7_put cX7_put 4 none :: zTB) (zrm 1 0 0) (va_Pc [zR G.2.2.1 a0, .int (zO a1)] (zPre G top L M)) (zQ G top L res none True) 0 0 (zA G) :=
  z_met (by decide +kernel) (by simp [zR_cat, zcat_I, zcat_S]) (Nat.le_of_ble_eq_true rfl) fun p e s m below meth c ls E hn S hl => Tp_put_w E ha0 ha1 S (hl.sub (And.intro rfl (And.intro rfl True.intro))) h
end
theorem Lx_feed_dc : zDL cX11_feed [(0, .iload_n 1, 1, 1), (1, .invokestatic 90, 3, 4), (4, .iload_n 2, 1, 5), (5, .invokestatic 90, 3, 8), (8, .iadd, 1, 9), (9, .iload_n 3, 1, 10), (10, .invokestatic 90, 3, 13), (13, .iadd, 1, 14), (14, .iload 4, 2, 16), (16, .invokestatic 90, 3, 19), (19, .iadd, 1, 20), (20, .iload 5, 2, 22), (22, .invokestatic 90, 3, 25), (25, .iadd, 1, 26), (26, .istore 6, 2, 28), (28, .aload_n 0, 1, 29), (29, .getfield 12, 3, 32), (32, .getfield 94, 3, 35), (35, .iload 6, 2, 37), (37, .iadd, 1, 38), (38, .sipush 300, 3, 41), (41, .if_icmp .le 5, 3, 44), (44, .iconst (-1), 1, 45), (45, .ireturn, 1, 46), (46, .aload_n 0, 1, 47), (47, .getfield 12, 3, 50), (50, .iload_n 1, 1, 51), (51, .invokevirtual 97, 3, 54), (54, .aload_n 0, 1, 55), (55, .getfield 12, 3, 58), (58, .iload_n 2, 1, 59), (59, .invokevirtual 97, 3, 62), (62, .aload_n 0, 1, 63), (63, .getfield 12, 3, 66), (66, .iload_n 3, 1, 67), (67, .invokevirtual 97, 3, 70), (70, .aload_n 0, 1, 71), (71, .getfield 12, 3, 74), (74, .iload 4, 2, 76), (76, .invokevirtual 97, 3, 79), (79, .aload_n 0, 1, 80), (80, .getfield 12, 3, 83), (83, .iload 5, 2, 85), (85, .invokevirtual 97, 3, 88), (88, .aload_n 0, 1, 89), (89, .getfield 12, 3, 92), (92, .getfield 94, 3, 95), (95, .ireturn, 1, 96)] := zDL.of (by decide +kernel)
section
variable {p : Program} {l : Launch} {e : Env} {s : State} {m : MethodId} {args : Array Value} {below : List Frame} {meth : Method} {c : Code} {G : zG} {top : Int} {L : zL} {fu : Nat}
theorem Lx_feed_w (E : zEv p m c cX11_feed 7 s args RX11 meth (some .int) G) {res : (zM × Int)} {M : zM} {a0 : Int} {a1 : Int} {a2 : Int} {a3 : Int} {a4 : Int} {a5 : Int} {H : Heap} {locs : List Loc} {ls : Array Slot} (ha0 : InR a0) (ha1 : InR a1) (ha2 : InR a2) (ha3 : InR a3) (ha4 : InR a4) (ha5 : InR a5) (S : zS G top L M s H locs) (hl : zLV ls 7 [some (zR G.2.2.1 a0), some (.int (zO a1)), some (.int (zO a2)), some (.int (zO a3)), some (.int (zO a4)), some (.int (zO a5)), none]) (h : Lx_feed fu L M a0 a1 a2 a3 a4 a5 = some res) : W p l e (zrm 2 0 0) s m args below meth c H locs 0 0 (MQ below (zQ G top L res.1 (some (.int (zO res.2))) (InR res.2)) args s 0 0 (zA G)) (F0 m 0 ls []) := by
  unfold Lx_feed at h
  refine u_il_n (x := a1) E (Lx_feed_dc.at 0 rfl) hl rfl ?_
  obtain ⟨r1, er1, h⟩ := bd1_e h
  refine u_cSI (As := [.int (zO a1)]) (rest := []) E S zcw_yX7_solidBytes zw_2_183 zw_2_182 (Tp_solidBytes_c l G fu top L M a1 ha1 er1) (zrm_ok (by decide) (by decide)) ⟨Nat.le_refl 0, Nat.le_refl 0⟩ rfl (Nat.zero_le 8) hl.size rfl (Lx_feed_dc.at 1 rfl) (fun H locs hr1 S2 => ?_)
  refine u_il_n (x := a2) E (Lx_feed_dc.at 2 rfl) hl rfl ?_
  obtain ⟨r3, er3, h⟩ := bd1_e h
  refine u_cSI (As := [.int (zO a2)]) (rest := [.int (zO r1)]) E S2 zcw_yX7_solidBytes zw_2_183 zw_2_182 (Tp_solidBytes_c l G fu top L M a2 ha2 er3) (zrm_ok (by decide) (by decide)) ⟨Nat.le_refl 0, Nat.le_refl 0⟩ rfl (by simp [zR_cat, zcat_I, zcat_J, zcat_S]) hl.size rfl (Lx_feed_dc.at 3 rfl) (fun H locs hr3 S4 => ?_)
  refine r_iadd E (Lx_feed_dc.at 4 rfl) ?_
  refine u_il_n (x := a3) E (Lx_feed_dc.at 5 rfl) hl rfl ?_
  obtain ⟨r5, er5, h⟩ := bd1_e h
  refine u_cSI (As := [.int (zO a3)]) (rest := [.int (zO (w32 (r1 + r3)))]) E S4 zcw_yX7_solidBytes zw_2_183 zw_2_182 (Tp_solidBytes_c l G fu top L M a3 ha3 er5) (zrm_ok (by decide) (by decide)) ⟨Nat.le_refl 0, Nat.le_refl 0⟩ rfl (by simp [zR_cat, zcat_I, zcat_J, zcat_S]) hl.size rfl (Lx_feed_dc.at 6 rfl) (fun H locs hr5 S6 => ?_)
  refine r_iadd E (Lx_feed_dc.at 7 rfl) ?_
  refine u_il (x := a4) E (Lx_feed_dc.at 8 rfl) hl rfl ?_
  obtain ⟨r7, er7, h⟩ := bd1_e h
  refine u_cSI (As := [.int (zO a4)]) (rest := [.int (zO (w32 ((w32 (r1 + r3)) + r5)))]) E S6 zcw_yX7_solidBytes zw_2_183 zw_2_182 (Tp_solidBytes_c l G fu top L M a4 ha4 er7) (zrm_ok (by decide) (by decide)) ⟨Nat.le_refl 0, Nat.le_refl 0⟩ rfl (by simp [zR_cat, zcat_I, zcat_J, zcat_S]) hl.size rfl (Lx_feed_dc.at 9 rfl) (fun H locs hr7 S8 => ?_)
  refine r_iadd E (Lx_feed_dc.at 10 rfl) ?_
  refine u_il (x := a5) E (Lx_feed_dc.at 11 rfl) hl rfl ?_
  obtain ⟨r9, er9, h⟩ := bd1_e h
  refine u_cSI (As := [.int (zO a5)]) (rest := [.int (zO (w32 ((w32 ((w32 (r1 + r3)) + r5)) + r7)))]) E S8 zcw_yX7_solidBytes zw_2_183 zw_2_182 (Tp_solidBytes_c l G fu top L M a5 ha5 er9) (zrm_ok (by decide) (by decide)) ⟨Nat.le_refl 0, Nat.le_refl 0⟩ rfl (by simp [zR_cat, zcat_I, zcat_J, zcat_S]) hl.size rfl (Lx_feed_dc.at 12 rfl) (fun H locs hr9 S10 => ?_)
  refine r_iadd E (Lx_feed_dc.at 13 rfl) ?_
  obtain ⟨v11, ev11, h⟩ := lt1_e h
  have hv11 := inR_eq ev11 (inR_w32 _)
  refine u_ist (y := v11) (vs' := [some (zR G.2.2.1 a0), some (.int (zO a1)), some (.int (zO a2)), some (.int (zO a3)), some (.int (zO a4)), some (.int (zO a5)), some (.int (zO v11))]) E ev11 (Lx_feed_dc.at 14 rfl) hl (by decide) rfl (fun ls hl => ?_)
  refine u_al_n (x := a0) E (Lx_feed_dc.at 15 rfl) hl rfl ?_
  obtain ⟨g12, h⟩ := ite_e h
  refine u_gR E zf_11_0 S10 g12 zw_2_132 (Lx_feed_dc.at 16 rfl) ?_
  obtain ⟨g13, h⟩ := ite_e h
  refine u_gI E zf_7_2 S10 g13 zw_1_42 (Lx_feed_dc.at 17 rfl) ?_
  refine u_il (x := v11) E (Lx_feed_dc.at 18 rfl) hl rfl ?_
  refine r_iadd E (Lx_feed_dc.at 19 rfl) ?_
  refine r_sipush E (Lx_feed_dc.at 20 rfl) rfl ?_
  refine r_icmp_le (tgt := 46) E (inR_w32 _) (show InR 300 by decide) (Lx_feed_dc.at 21 rfl) (by decide) (fun q => ?_) (fun q => ?_)
  · have h := ite_t h q
    refine r_iconst E (Lx_feed_dc.at 22 rfl) ?_
    cases h
    exact r_iret E S10 (show InR (-1) by decide) (Lx_feed_dc.at 23 rfl)
  · have h := ite_f h q
    refine u_al_n (x := a0) E (Lx_feed_dc.at 24 rfl) hl rfl ?_
    refine u_gR E zf_11_0 S10 g12 zw_2_132 (Lx_feed_dc.at 25 rfl) ?_
    refine u_il_n (x := a1) E (Lx_feed_dc.at 26 rfl) hl rfl ?_
    obtain ⟨M14, eM14, h⟩ := bd1_e h
    refine u_cVU (As := [.int (zO a1)]) (rest := []) E S10 zcw_yX7_put zw_2_186 zw_2_187 zw_2_185 zck_7.1 rfl g13 (Tp_put_c l G fu top L M (M a0 0) a1 (S10.1.inR _ _) ha1 eM14) (zrm_ok (by decide) (by decide)) ⟨Nat.le_refl 0, Nat.le_refl 0⟩ rfl (Nat.zero_le 8) hl.size rfl (Lx_feed_dc.at 27 rfl) (fun H locs _ S15 => ?_)
    refine u_al_n (x := a0) E (Lx_feed_dc.at 28 rfl) hl rfl ?_
    refine u_gR E zf_11_0 S15 g12 zw_2_132 (Lx_feed_dc.at 29 rfl) ?_
    refine u_il_n (x := a2) E (Lx_feed_dc.at 30 rfl) hl rfl ?_
    obtain ⟨g16, h⟩ := ite_e h
    obtain ⟨M17, eM17, h⟩ := bd1_e h
    refine u_cVU (As := [.int (zO a2)]) (rest := []) E S15 zcw_yX7_put zw_2_186 zw_2_187 zw_2_185 zck_7.1 rfl g16 (Tp_put_c l G fu top L M14 (M14 a0 0) a2 (S15.1.inR _ _) ha2 eM17) (zrm_ok (by decide) (by decide)) ⟨Nat.le_refl 0, Nat.le_refl 0⟩ rfl (Nat.zero_le 8) hl.size rfl (Lx_feed_dc.at 31 rfl) (fun H locs _ S18 => ?_)
    refine u_al_n (x := a0) E (Lx_feed_dc.at 32 rfl) hl rfl ?_
    refine u_gR E zf_11_0 S18 g12 zw_2_132 (Lx_feed_dc.at 33 rfl) ?_
    refine u_il_n (x := a3) E (Lx_feed_dc.at 34 rfl) hl rfl ?_
    obtain ⟨g19, h⟩ := ite_e h
    obtain ⟨M20, eM20, h⟩ := bd1_e h
    refine u_cVU (As := [.int (zO a3)]) (rest := []) E S18 zcw_yX7_put zw_2_186 zw_2_187 zw_2_185 zck_7.1 rfl g19 (Tp_put_c l G fu top L M17 (M17 a0 0) a3 (S18.1.inR _ _) ha3 eM20) (zrm_ok (by decide) (by decide)) ⟨Nat.le_refl 0, Nat.le_refl 0⟩ rfl (Nat.zero_le 8) hl.size rfl (Lx_feed_dc.at 35 rfl) (fun H locs _ S21 => ?_)
    refine u_al_n (x := a0) E (Lx_feed_dc.at 36 rfl) hl rfl ?_
    refine u_gR E zf_11_0 S21 g12 zw_2_132 (Lx_feed_dc.at 37 rfl) ?_
    refine u_il (x := a4) E (Lx_feed_dc.at 38 rfl) hl rfl ?_
    obtain ⟨g22, h⟩ := ite_e h
    obtain ⟨M23, eM23, h⟩ := bd1_e h
    refine u_cVU (As := [.int (zO a4)]) (rest := []) E S21 zcw_yX7_put zw_2_186 zw_2_187 zw_2_185 zck_7.1 rfl g22 (Tp_put_c l G fu top L M20 (M20 a0 0) a4 (S21.1.inR _ _) ha4 eM23) (zrm_ok (by decide) (by decide)) ⟨Nat.le_refl 0, Nat.le_refl 0⟩ rfl (Nat.zero_le 8) hl.size rfl (Lx_feed_dc.at 39 rfl) (fun H locs _ S24 => ?_)
    refine u_al_n (x := a0) E (Lx_feed_dc.at 40 rfl) hl rfl ?_
    refine u_gR E zf_11_0 S24 g12 zw_2_132 (Lx_feed_dc.at 41 rfl) ?_
    refine u_il (x := a5) E (Lx_feed_dc.at 42 rfl) hl rfl ?_
    obtain ⟨g25, h⟩ := ite_e h
    obtain ⟨M26, eM26, h⟩ := bd1_e h
    refine u_cVU (As := [.int (zO a5)]) (rest := []) E S24 zcw_yX7_put zw_2_186 zw_2_187 zw_2_185 zck_7.1 rfl g25 (Tp_put_c l G fu top L M23 (M23 a0 0) a5 (S24.1.inR _ _) ha5 eM26) (zrm_ok (by decide) (by decide)) ⟨Nat.le_refl 0, Nat.le_refl 0⟩ rfl (Nat.zero_le 8) hl.size rfl (Lx_feed_dc.at 43 rfl) (fun H locs _ S27 => ?_)
    refine u_al_n (x := a0) E (Lx_feed_dc.at 44 rfl) hl rfl ?_
    refine u_gR E zf_11_0 S27 g12 zw_2_132 (Lx_feed_dc.at 45 rfl) ?_
    obtain ⟨g28, h⟩ := ite_e h
    refine u_gI E zf_7_2 S27 g28 zw_1_42 (Lx_feed_dc.at 46 rfl) ?_
    cases h
    exact r_iret E S27 (S27.1.inR _ _) (Lx_feed_dc.at 47 rfl)
theorem Lx_feed_c (l : Launch) (G : zG) (fu : Nat) (top : Int) (L : zL) (M : zM) (a0 : Int) (a1 : Int) (a2 : Int) (a3 : Int) (a4 : Int) (a5 : Int) {res : (zM × Int)} (ha0 : InR a0) (ha1 : InR a1) (ha2 : InR a2) (ha3 : InR a3) (ha4 : InR a4) (ha5 : InR a5) (h : Lx_feed fu L M a0 a1 a2 a3 a4 a5 = some res) : Met l yX11_feed (Cond.code yX11_feed cX11_feed 7 (some .int) :: zTB) (zrm 2 0 0) (va_Pc [zR G.2.2.1 a0, .int (zO a1), .int (zO a2), .int (zO a3), .int (zO a4), .int (zO a5)] (zPre G top L M)) (zQ G top L res.1 (some (.int (zO res.2))) (InR res.2)) 0 0 (zA G) :=
  z_met (by decide +kernel) (by simp [zR_cat, zcat_I, zcat_S]) (Nat.le_of_ble_eq_true rfl) fun p e s m below meth c ls E hn S hl => Lx_feed_w E ha0 ha1 ha2 ha3 ha4 ha5 S (hl.sub (And.intro rfl (And.intro rfl (And.intro rfl (And.intro rfl (And.intro rfl (And.intro rfl True.intro))))))) h
end
theorem Lx_end_dc : zDL cX11_end [(0, .iload_n 1, 1, 1), (1, .ifCond .lt 14, 3, 4), (4, .iload_n 1, 1, 5), (5, .aload_n 0, 1, 6), (6, .getfield 12, 3, 9), (9, .getfield 94, 3, 12), (12, .if_icmp .le 5, 3, 15), (15, .iconst 0, 1, 16), (16, .ireturn, 1, 17), (17, .aload_n 0, 1, 18), (18, .getfield 12, 3, 21), (21, .iload_n 1, 1, 22), (22, .putfield 94, 3, 25), (25, .iconst 1, 1, 26), (26, .ireturn, 1, 27)] := zDL.of (by decide +kernel)
section
variable {p : Program} {l : Launch} {e : Env} {s : State} {m : MethodId} {args : Array Value} {below : List Frame} {meth : Method} {c : Code} {G : zG} {top : Int} {L : zL} {fu : Nat}
theorem Lx_end_w (E : zEv p m c cX11_end 2 s args RX11 meth (some .boolean) G) {res : (zM × Int)} {M : zM} {a0 : Int} {a1 : Int} {H : Heap} {locs : List Loc} {ls : Array Slot} (ha0 : InR a0) (ha1 : InR a1) (S : zS G top L M s H locs) (hl : zLV ls 2 [some (zR G.2.2.1 a0), some (.int (zO a1))]) (h : Lx_end fu L M a0 a1 = some res) : W p l e (zrm 1 0 0) s m args below meth c H locs 0 0 (MQ below (zQ G top L res.1 (some (.int (zO res.2))) (0 ≤ res.2 ∧ res.2 ≤ 1)) args s 0 0 (zA G)) (F0 m 0 ls []) := by
  unfold Lx_end at h
  refine u_il_n (x := a1) E (Lx_end_dc.at 0 rfl) hl rfl ?_
  refine r_if_lt (tgt := 15) E ha1 (Lx_end_dc.at 1 rfl) (by decide) (fun q => ?_) (fun q => ?_)
  · have h := ite_t h q
    refine r_iconst E (Lx_end_dc.at 7 rfl) ?_
    cases h
    exact r_zret E S z01_0 z01_0 (Lx_end_dc.at 8 rfl)
  · have h := ite_f h q
    refine u_il_n (x := a1) E (Lx_end_dc.at 2 rfl) hl rfl ?_
    refine u_al_n (x := a0) E (Lx_end_dc.at 3 rfl) hl rfl ?_
    obtain ⟨g1, h⟩ := ite_e h
    refine u_gR E zf_11_0 S g1 zw_2_132 (Lx_end_dc.at 4 rfl) ?_
    obtain ⟨g2, h⟩ := ite_e h
    refine u_gI E zf_7_2 S g2 zw_1_42 (Lx_end_dc.at 5 rfl) ?_
    refine r_icmp_le (tgt := 17) E ha1 (S.1.inR _ _) (Lx_end_dc.at 6 rfl) (by decide) (fun q => ?_) (fun q => ?_)
    · have h := ite_t h q
      refine r_iconst E (Lx_end_dc.at 7 rfl) ?_
      cases h
      exact r_zret E S z01_0 z01_0 (Lx_end_dc.at 8 rfl)
    · have h := ite_f h q
      refine u_al_n (x := a0) E (Lx_end_dc.at 9 rfl) hl rfl ?_
      refine u_gR E zf_11_0 S g1 zw_2_132 (Lx_end_dc.at 10 rfl) ?_
      refine u_il_n (x := a1) E (Lx_end_dc.at 11 rfl) hl rfl ?_
      obtain ⟨M3, eM3, h⟩ := lt1_e h
      refine u_pI E eM3 zf_7_2 S g2 ha1 (Or.inl rfl) rfl zw_1_42 (Lx_end_dc.at 12 rfl) (fun H locs S4 => ?_)
      refine r_iconst E (Lx_end_dc.at 13 rfl) ?_
      cases h
      exact r_zret E S4 z01_1 z01_1 (Lx_end_dc.at 14 rfl)
theorem Lx_end_c (l : Launch) (G : zG) (fu : Nat) (top : Int) (L : zL) (M : zM) (a0 : Int) (a1 : Int) {res : (zM × Int)} (ha0 : InR a0) (ha1 : InR a1) (h : Lx_end fu L M a0 a1 = some res) : Met l yX11_end (Cond.code yX11_end cX11_end 2 (some .boolean) :: zTB) (zrm 1 0 0) (va_Pc [zR G.2.2.1 a0, .int (zO a1)] (zPre G top L M)) (zQ G top L res.1 (some (.int (zO res.2))) (0 ≤ res.2 ∧ res.2 ≤ 1)) 0 0 (zA G) :=
  z_met (by decide +kernel) (by simp [zR_cat, zcat_I, zcat_S]) (Nat.le_of_ble_eq_true rfl) fun p e s m below meth c ls E hn S hl => Lx_end_w E ha0 ha1 S (hl.sub (And.intro rfl (And.intro rfl True.intro))) h
end
theorem Tp_at_dc : zDL cX7_at [(0, .iload_n 1, 1, 1), (1, .ifCond .lt 29, 3, 4), (4, .iload_n 1, 1, 5), (5, .aload_n 0, 1, 6), (6, .getfield 18, 3, 9), (9, .if_icmp .ge 21, 3, 12), (12, .iload_n 1, 1, 13), (13, .aload_n 0, 1, 14), (14, .getfield 9, 3, 17), (17, .arraylength, 1, 18), (18, .if_icmp .ge 12, 3, 21), (21, .aload_n 0, 1, 22), (22, .getfield 9, 3, 25), (25, .iload_n 1, 1, 26), (26, .iaload, 1, 27), (27, .goto 4, 3, 30), (30, .iconst 0, 1, 31), (31, .ireturn, 1, 32)] := zDL.of (by decide +kernel)
section
variable {p : Program} {l : Launch} {e : Env} {s : State} {m : MethodId} {args : Array Value} {below : List Frame} {meth : Method} {c : Code} {G : zG} {top : Int} {L : zL} {fu : Nat}
theorem Tp_at_w (E : zEv p m c cX7_at 2 s args RX7 meth (some .int) G) {res : Int} {M : zM} {a0 : Int} {a1 : Int} {H : Heap} {locs : List Loc} {ls : Array Slot} (ha0 : InR a0) (ha1 : InR a1) (S : zS G top L M s H locs) (hl : zLV ls 2 [some (zR G.2.2.1 a0), some (.int (zO a1))]) (h : Tp_at fu L M a0 a1 = some res) : W p l e (zrm 1 0 0) s m args below meth c H locs 0 0 (MQ below (zQ G top L M (some (.int (zO res))) (InR res)) args s 0 0 (zA G)) (F0 m 0 ls []) := by
  unfold Tp_at at h
  refine u_il_n (x := a1) E (Tp_at_dc.at 0 rfl) hl rfl ?_
  refine r_if_lt (tgt := 30) E ha1 (Tp_at_dc.at 1 rfl) (by decide) (fun q => ?_) (fun q => ?_)
  · have h := ite_t h q
    refine r_iconst E (Tp_at_dc.at 16 rfl) ?_
    cases h
    exact r_iret E S (show InR 0 by decide) (Tp_at_dc.at 17 rfl)
  · have h := ite_f h q
    refine u_il_n (x := a1) E (Tp_at_dc.at 2 rfl) hl rfl ?_
    refine u_al_n (x := a0) E (Tp_at_dc.at 3 rfl) hl rfl ?_
    obtain ⟨g1, h⟩ := ite_e h
    refine u_gI E zf_7_2 S g1 zw_1_43 (Tp_at_dc.at 4 rfl) ?_
    refine r_icmp_ge (tgt := 30) E ha1 (S.1.inR _ _) (Tp_at_dc.at 5 rfl) (by decide) (fun q => ?_) (fun q => ?_)
    · have h := ite_t h q
      refine u_il_n (x := a1) E (Tp_at_dc.at 6 rfl) hl rfl ?_
      refine u_al_n (x := a0) E (Tp_at_dc.at 7 rfl) hl rfl ?_
      refine u_gR E zf_7_0 S g1 zw_1_40 (Tp_at_dc.at 8 rfl) ?_
      obtain ⟨g2, h⟩ := ite_e h
      refine r_alen E S g2 (by decide) (Tp_at_dc.at 9 rfl) ?_
      refine r_icmp_ge (tgt := 30) E ha1 (S.1.lenR _) (Tp_at_dc.at 10 rfl) (by decide) (fun q => ?_) (fun q => ?_)
      · have h := ite_t h q
        refine u_al_n (x := a0) E (Tp_at_dc.at 11 rfl) hl rfl ?_
        refine u_gR E zf_7_0 S g1 zw_1_40 (Tp_at_dc.at 12 rfl) ?_
        refine u_il_n (x := a1) E (Tp_at_dc.at 13 rfl) hl rfl ?_
        obtain ⟨g3, h⟩ := ite_e h
        refine r_iald E S g2 g3 (Tp_at_dc.at 14 rfl) ?_
        refine r_goto (tgt := 31) E (Tp_at_dc.at 15 rfl) (by decide) ?_
        cases h
        exact r_iret E S (S.1.inR _ _) (Tp_at_dc.at 17 rfl)
      · have h := ite_f h q
        refine r_iconst E (Tp_at_dc.at 16 rfl) ?_
        cases h
        exact r_iret E S (show InR 0 by decide) (Tp_at_dc.at 17 rfl)
    · have h := ite_f h q
      refine r_iconst E (Tp_at_dc.at 16 rfl) ?_
      cases h
      exact r_iret E S (show InR 0 by decide) (Tp_at_dc.at 17 rfl)
theorem Tp_at_c (l : Launch) (G : zG) (fu : Nat) (top : Int) (L : zL) (M : zM) (a0 : Int) (a1 : Int) {res : Int} (ha0 : InR a0) (ha1 : InR a1) (h : Tp_at fu L M a0 a1 = some res) : Met l yX7_at (Cond.code yX7_at cX7_at 2 (some .int) :: zTB) (zrm 1 0 0) (va_Pc [zR G.2.2.1 a0, .int (zO a1)] (zPre G top L M)) (zQ G top L M (some (.int (zO res))) (InR res)) 0 0 (zA G) :=
  z_met (by decide +kernel) (by simp [zR_cat, zcat_I, zcat_S]) (Nat.le_of_ble_eq_true rfl) fun p e s m below meth c ls E hn S hl => Tp_at_w E ha0 ha1 S (hl.sub (And.intro rfl (And.intro rfl True.intro))) h
end
theorem Tp_pastBlanks_dc : zDL cX7_pastBlanks [(0, .iload_n 1, 1, 1), (1, .istore_n 2, 1, 2), (2, .iload_n 2, 1, 3), (3, .aload_n 0, 1, 4), (4, .getfield 18, 3, 7), (7, .if_icmp .ge 19, 3, 10), (10, .aload_n 0, 1, 11), (11, .iload_n 2, 1, 12), (12, .invokevirtual 38, 3, 15), (15, .bipush 32, 2, 17), (17, .if_icmp .ne 9, 3, 20), (20, .iinc 2 1, 3, 23), (23, .goto (-21), 3, 26), (26, .iload_n 2, 1, 27), (27, .ireturn, 1, 28)] := zDL.of (by decide +kernel)
section
variable {p : Program} {l : Launch} {e : Env} {s : State} {m : MethodId} {args : Array Value} {below : List Frame} {meth : Method} {c : Code} {G : zG} {top : Int} {L : zL} {fu : Nat}
theorem Tp_pastBlanks_s2_w (E : zEv p m c cX7_pastBlanks 3 s args RX7 meth (some .int) G) {res : Int} {k2 : zM → Int → Int → Option Int} (hk2 : ∀ (M : zM) (x0 : Int) (x2 : Int), InR x0 → InR x2 → ∀ (H : Heap) (locs : List Loc) (ls : Array Slot), zS G top L M s H locs → zLV ls 3 [some (zR G.2.2.1 x0), none, some (.int (zO x2))] → k2 M x0 x2 = some res → W p l e (zrm 2 0 0) s m args below meth c H locs 0 0 (MQ below (zQ G top L M (some (.int (zO res))) (InR res)) args s 0 0 (zA G)) (F0 m 2 ls [])) {M : zM} {x0 : Int} {x2 : Int} {H : Heap} {locs : List Loc} {ls : Array Slot} (hx0 : InR x0) (hx2 : InR x2) (S : zS G top L M s H locs) (hl : zLV ls 3 [some (zR G.2.2.1 x0), none, some (.int (zO x2))]) (h : Tp_pastBlanks_s2 fu k2 L M x0 x2 = some res) : W p l e (zrm 2 0 0) s m args below meth c H locs 0 0 (MQ below (zQ G top L M (some (.int (zO res))) (InR res)) args s 0 0 (zA G)) (F0 m 2 ls []) := by
  unfold Tp_pastBlanks_s2 at h
  refine u_il_n (x := x2) E (Tp_pastBlanks_dc.at 2 rfl) hl rfl ?_
  refine u_al_n (x := x0) E (Tp_pastBlanks_dc.at 3 rfl) hl rfl ?_
  obtain ⟨g1, h⟩ := ite_e h
  refine u_gI E zf_7_2 S g1 zw_1_43 (Tp_pastBlanks_dc.at 4 rfl) ?_
  refine r_icmp_ge (tgt := 26) E hx2 (S.1.inR _ _) (Tp_pastBlanks_dc.at 5 rfl) (by decide) (fun q => ?_) (fun q => ?_)
  · have h := ite_t h q
    refine u_al_n (x := x0) E (Tp_pastBlanks_dc.at 6 rfl) hl rfl ?_
    refine u_il_n (x := x2) E (Tp_pastBlanks_dc.at 7 rfl) hl rfl ?_
    obtain ⟨r2, er2, h⟩ := bd1_e h
    refine u_cVI (As := [.int (zO x2)]) (rest := []) E S zcw_yX7_at zw_2_214 zw_2_215 zw_2_213 zck_7.1 rfl g1 (Tp_at_c l G fu top L M x0 x2 hx0 hx2 er2) (zrm_ok (by decide) (by decide)) ⟨Nat.le_refl 0, Nat.le_refl 0⟩ rfl (Nat.zero_le 8) hl.size rfl (Tp_pastBlanks_dc.at 8 rfl) (fun H locs hr2 S3 => ?_)
    refine r_bipush E (Tp_pastBlanks_dc.at 9 rfl) rfl ?_
    refine r_icmp_ne (tgt := 26) E hr2 (show InR 32 by decide) (Tp_pastBlanks_dc.at 10 rfl) (by decide) (fun q => ?_) (fun q => ?_)
    · have h := ite_t h q
      obtain ⟨v4, ev4, h⟩ := lt1_e h
      have hv4 := inR_eq ev4 (inR_w32 _)
      refine u_iinc (y := v4) (vs' := [some (zR G.2.2.1 x0), none, some (.int (zO v4))]) E ev4 (Tp_pastBlanks_dc.at 11 rfl) hl rfl (by decide) rfl (fun ls hl => ?_)
      refine r_goto (tgt := 2) E (Tp_pastBlanks_dc.at 12 rfl) (by decide) ?_
      exact hk2 _ x0 v4 hx0 hv4 _ _ _ S3 (hl.sub (And.intro rfl (And.intro rfl True.intro))) h
    · have h := ite_f h q
      refine u_il_n (x := x2) E (Tp_pastBlanks_dc.at 13 rfl) hl rfl ?_
      cases h
      exact r_iret E S3 hx2 (Tp_pastBlanks_dc.at 14 rfl)
  · have h := ite_f h q
    refine u_il_n (x := x2) E (Tp_pastBlanks_dc.at 13 rfl) hl rfl ?_
    cases h
    exact r_iret E S hx2 (Tp_pastBlanks_dc.at 14 rfl)
theorem Tp_pastBlanks_l2_w (E : zEv p m c cX7_pastBlanks 3 s args RX7 meth (some .int) G) {res : Int} : ∀ (n : Nat) (M : zM) (x0 : Int) (x2 : Int), InR x0 → InR x2 → ∀ (H : Heap) (locs : List Loc) (ls : Array Slot), zS G top L M s H locs → zLV ls 3 [some (zR G.2.2.1 x0), none, some (.int (zO x2))] → Tp_pastBlanks_l2 fu L n M x0 x2 = some res → W p l e (zrm 2 0 0) s m args below meth c H locs 0 0 (MQ below (zQ G top L M (some (.int (zO res))) (InR res)) args s 0 0 (zA G)) (F0 m 2 ls [])
  | 0, _, _, _ => fun _ _ _ _ _ _ _ h => (by cases h)
  | n + 1, M, x0, x2 => fun hx0 hx2 H locs ls S hl h => Tp_pastBlanks_s2_w E (fun M x0 x2 hx0 hx2 H locs ls S hl h => Tp_pastBlanks_l2_w E n M x0 x2 hx0 hx2 H locs ls S hl h) hx0 hx2 S hl h
theorem Tp_pastBlanks_w (E : zEv p m c cX7_pastBlanks 3 s args RX7 meth (some .int) G) {res : Int} {M : zM} {a0 : Int} {a1 : Int} {H : Heap} {locs : List Loc} {ls : Array Slot} (ha0 : InR a0) (ha1 : InR a1) (S : zS G top L M s H locs) (hl : zLV ls 3 [some (zR G.2.2.1 a0), some (.int (zO a1)), none]) (h : Tp_pastBlanks fu L M a0 a1 = some res) : W p l e (zrm 2 0 0) s m args below meth c H locs 0 0 (MQ below (zQ G top L M (some (.int (zO res))) (InR res)) args s 0 0 (zA G)) (F0 m 0 ls []) := by
  unfold Tp_pastBlanks at h
  refine u_il_n (x := a1) E (Tp_pastBlanks_dc.at 0 rfl) hl rfl ?_
  refine u_ist_n (y := a1) (vs' := [some (zR G.2.2.1 a0), some (.int (zO a1)), some (.int (zO a1))]) E rfl (Tp_pastBlanks_dc.at 1 rfl) hl (by decide) rfl (fun ls hl => ?_)
  exact Tp_pastBlanks_l2_w E fu _ a0 a1 ha0 ha1 _ _ _ S (hl.sub (And.intro rfl (And.intro rfl True.intro))) h
theorem Tp_pastBlanks_c (l : Launch) (G : zG) (fu : Nat) (top : Int) (L : zL) (M : zM) (a0 : Int) (a1 : Int) {res : Int} (ha0 : InR a0) (ha1 : InR a1) (h : Tp_pastBlanks fu L M a0 a1 = some res) : Met l yX7_pastBlanks (Cond.code yX7_pastBlanks cX7_pastBlanks 3 (some .int) :: zTB) (zrm 2 0 0) (va_Pc [zR G.2.2.1 a0, .int (zO a1)] (zPre G top L M)) (zQ G top L M (some (.int (zO res))) (InR res)) 0 0 (zA G) :=
  z_met (by decide +kernel) (by simp [zR_cat, zcat_I, zcat_S]) (Nat.le_of_ble_eq_true rfl) fun p e s m below meth c ls E hn S hl => Tp_pastBlanks_w E ha0 ha1 S (hl.sub (And.intro rfl (And.intro rfl True.intro))) h
end
theorem Tp_isLetter_dc : zDL cX7_isLetter [(0, .iload_n 0, 1, 1), (1, .bipush 97, 2, 3), (3, .if_icmp .lt 13, 3, 6), (6, .iload_n 0, 1, 7), (7, .bipush 122, 2, 9), (9, .if_icmp .gt 7, 3, 12), (12, .iconst 1, 1, 13), (13, .goto 4, 3, 16), (16, .iconst 0, 1, 17), (17, .ireturn, 1, 18)] := zDL.of (by decide +kernel)
section
variable {p : Program} {l : Launch} {e : Env} {s : State} {m : MethodId} {args : Array Value} {below : List Frame} {meth : Method} {c : Code} {G : zG} {top : Int} {L : zL} {fu : Nat}
theorem Tp_isLetter_w (E : zEv p m c cX7_isLetter 1 s args RX7 meth (some .boolean) G) {res : Int} {M : zM} {a0 : Int} {H : Heap} {locs : List Loc} {ls : Array Slot} (ha0 : InR a0) (S : zS G top L M s H locs) (hl : zLV ls 1 [some (.int (zO a0))]) (h : Tp_isLetter fu L M a0 = some res) : W p l e (zrm 1 0 0) s m args below meth c H locs 0 0 (MQ below (zQ G top L M (some (.int (zO res))) (0 ≤ res ∧ res ≤ 1)) args s 0 0 (zA G)) (F0 m 0 ls []) := by
  unfold Tp_isLetter at h
  refine u_il_n (x := a0) E (Tp_isLetter_dc.at 0 rfl) hl rfl ?_
  refine r_bipush E (Tp_isLetter_dc.at 1 rfl) rfl ?_
  refine r_icmp_lt (tgt := 16) E ha0 (show InR 97 by decide) (Tp_isLetter_dc.at 2 rfl) (by decide) (fun q => ?_) (fun q => ?_)
  · have h := ite_t h q
    refine r_iconst E (Tp_isLetter_dc.at 8 rfl) ?_
    cases h
    exact r_zret E S z01_0 z01_0 (Tp_isLetter_dc.at 9 rfl)
  · have h := ite_f h q
    refine u_il_n (x := a0) E (Tp_isLetter_dc.at 3 rfl) hl rfl ?_
    refine r_bipush E (Tp_isLetter_dc.at 4 rfl) rfl ?_
    refine r_icmp_gt (tgt := 16) E ha0 (show InR 122 by decide) (Tp_isLetter_dc.at 5 rfl) (by decide) (fun q => ?_) (fun q => ?_)
    · have h := ite_t h q
      refine r_iconst E (Tp_isLetter_dc.at 8 rfl) ?_
      cases h
      exact r_zret E S z01_0 z01_0 (Tp_isLetter_dc.at 9 rfl)
    · have h := ite_f h q
      refine r_iconst E (Tp_isLetter_dc.at 6 rfl) ?_
      refine r_goto (tgt := 17) E (Tp_isLetter_dc.at 7 rfl) (by decide) ?_
      cases h
      exact r_zret E S z01_1 z01_1 (Tp_isLetter_dc.at 9 rfl)
theorem Tp_isLetter_c (l : Launch) (G : zG) (fu : Nat) (top : Int) (L : zL) (M : zM) (a0 : Int) {res : Int} (ha0 : InR a0) (h : Tp_isLetter fu L M a0 = some res) : Met l yX7_isLetter (Cond.code yX7_isLetter cX7_isLetter 1 (some .boolean) :: zTB) (zrm 1 0 0) (va_Pc [.int (zO a0)] (zPre G top L M)) (zQ G top L M (some (.int (zO res))) (0 ≤ res ∧ res ≤ 1)) 0 0 (zA G) :=
  z_met (by decide +kernel) (by simp [zR_cat, zcat_I, zcat_S]) (Nat.le_of_ble_eq_true rfl) fun p e s m below meth c ls E hn S hl => Tp_isLetter_w E ha0 S (hl.sub (And.intro rfl True.intro)) h
end
theorem Tp_pastLetters_dc : zDL cX7_pastLetters [(0, .iload_n 1, 1, 1), (1, .istore_n 2, 1, 2), (2, .iload_n 2, 1, 3), (3, .aload_n 0, 1, 4), (4, .getfield 18, 3, 7), (7, .if_icmp .ge 20, 3, 10), (10, .aload_n 0, 1, 11), (11, .iload_n 2, 1, 12), (12, .invokevirtual 38, 3, 15), (15, .invokestatic 44, 3, 18), (18, .ifCond .eq 9, 3, 21), (21, .iinc 2 1, 3, 24), (24, .goto (-22), 3, 27), (27, .iload_n 2, 1, 28), (28, .ireturn, 1, 29)] := zDL.of (by decide +kernel)
section
variable {p : Program} {l : Launch} {e : Env} {s : State} {m : MethodId} {args : Array Value} {below : List Frame} {meth : Method} {c : Code} {G : zG} {top : Int} {L : zL} {fu : Nat}
theorem Tp_pastLetters_s2_w (E : zEv p m c cX7_pastLetters 3 s args RX7 meth (some .int) G) {res : Int} {k2 : zM → Int → Int → Option Int} (hk2 : ∀ (M : zM) (x0 : Int) (x2 : Int), InR x0 → InR x2 → ∀ (H : Heap) (locs : List Loc) (ls : Array Slot), zS G top L M s H locs → zLV ls 3 [some (zR G.2.2.1 x0), none, some (.int (zO x2))] → k2 M x0 x2 = some res → W p l e (zrm 2 0 0) s m args below meth c H locs 0 0 (MQ below (zQ G top L M (some (.int (zO res))) (InR res)) args s 0 0 (zA G)) (F0 m 2 ls [])) {M : zM} {x0 : Int} {x2 : Int} {H : Heap} {locs : List Loc} {ls : Array Slot} (hx0 : InR x0) (hx2 : InR x2) (S : zS G top L M s H locs) (hl : zLV ls 3 [some (zR G.2.2.1 x0), none, some (.int (zO x2))]) (h : Tp_pastLetters_s2 fu k2 L M x0 x2 = some res) : W p l e (zrm 2 0 0) s m args below meth c H locs 0 0 (MQ below (zQ G top L M (some (.int (zO res))) (InR res)) args s 0 0 (zA G)) (F0 m 2 ls []) := by
  unfold Tp_pastLetters_s2 at h
  refine u_il_n (x := x2) E (Tp_pastLetters_dc.at 2 rfl) hl rfl ?_
  refine u_al_n (x := x0) E (Tp_pastLetters_dc.at 3 rfl) hl rfl ?_
  obtain ⟨g1, h⟩ := ite_e h
  refine u_gI E zf_7_2 S g1 zw_1_43 (Tp_pastLetters_dc.at 4 rfl) ?_
  refine r_icmp_ge (tgt := 27) E hx2 (S.1.inR _ _) (Tp_pastLetters_dc.at 5 rfl) (by decide) (fun q => ?_) (fun q => ?_)
  · have h := ite_t h q
    refine u_al_n (x := x0) E (Tp_pastLetters_dc.at 6 rfl) hl rfl ?_
    refine u_il_n (x := x2) E (Tp_pastLetters_dc.at 7 rfl) hl rfl ?_
    obtain ⟨r2, er2, h⟩ := bd1_e h
    refine u_cVI (As := [.int (zO x2)]) (rest := []) E S zcw_yX7_at zw_2_214 zw_2_215 zw_2_213 zck_7.1 rfl g1 (Tp_at_c l G fu top L M x0 x2 hx0 hx2 er2) (zrm_ok (by decide) (by decide)) ⟨Nat.le_refl 0, Nat.le_refl 0⟩ rfl (Nat.zero_le 8) hl.size rfl (Tp_pastLetters_dc.at 8 rfl) (fun H locs hr2 S3 => ?_)
    obtain ⟨r4, er4, h⟩ := bd1_e h
    refine u_cSI (As := [.int (zO r2)]) (rest := []) E S3 zcw_yX7_isLetter zw_2_218 zw_2_217 (Tp_isLetter_c l G fu top L M r2 hr2 er4) (zrm_ok (by decide) (by decide)) ⟨Nat.le_refl 0, Nat.le_refl 0⟩ rfl (Nat.zero_le 8) hl.size rfl (Tp_pastLetters_dc.at 9 rfl) (fun H locs hr4 S5 => ?_)
    refine r_if_eq (tgt := 27) E (inR_01 hr4) (Tp_pastLetters_dc.at 10 rfl) (by decide) (fun q => ?_) (fun q => ?_)
    · have h := ite_t h q
      refine u_il_n (x := x2) E (Tp_pastLetters_dc.at 13 rfl) hl rfl ?_
      cases h
      exact r_iret E S5 hx2 (Tp_pastLetters_dc.at 14 rfl)
    · have h := ite_f h q
      obtain ⟨v6, ev6, h⟩ := lt1_e h
      have hv6 := inR_eq ev6 (inR_w32 _)
      refine u_iinc (y := v6) (vs' := [some (zR G.2.2.1 x0), none, some (.int (zO v6))]) E ev6 (Tp_pastLetters_dc.at 11 rfl) hl rfl (by decide) rfl (fun ls hl => ?_)
      refine r_goto (tgt := 2) E (Tp_pastLetters_dc.at 12 rfl) (by decide) ?_
      exact hk2 _ x0 v6 hx0 hv6 _ _ _ S5 (hl.sub (And.intro rfl (And.intro rfl True.intro))) h
  · have h := ite_f h q
    refine u_il_n (x := x2) E (Tp_pastLetters_dc.at 13 rfl) hl rfl ?_
    cases h
    exact r_iret E S hx2 (Tp_pastLetters_dc.at 14 rfl)
theorem Tp_pastLetters_l2_w (E : zEv p m c cX7_pastLetters 3 s args RX7 meth (some .int) G) {res : Int} : ∀ (n : Nat) (M : zM) (x0 : Int) (x2 : Int), InR x0 → InR x2 → ∀ (H : Heap) (locs : List Loc) (ls : Array Slot), zS G top L M s H locs → zLV ls 3 [some (zR G.2.2.1 x0), none, some (.int (zO x2))] → Tp_pastLetters_l2 fu L n M x0 x2 = some res → W p l e (zrm 2 0 0) s m args below meth c H locs 0 0 (MQ below (zQ G top L M (some (.int (zO res))) (InR res)) args s 0 0 (zA G)) (F0 m 2 ls [])
  | 0, _, _, _ => fun _ _ _ _ _ _ _ h => (by cases h)
  | n + 1, M, x0, x2 => fun hx0 hx2 H locs ls S hl h => Tp_pastLetters_s2_w E (fun M x0 x2 hx0 hx2 H locs ls S hl h => Tp_pastLetters_l2_w E n M x0 x2 hx0 hx2 H locs ls S hl h) hx0 hx2 S hl h
theorem Tp_pastLetters_w (E : zEv p m c cX7_pastLetters 3 s args RX7 meth (some .int) G) {res : Int} {M : zM} {a0 : Int} {a1 : Int} {H : Heap} {locs : List Loc} {ls : Array Slot} (ha0 : InR a0) (ha1 : InR a1) (S : zS G top L M s H locs) (hl : zLV ls 3 [some (zR G.2.2.1 a0), some (.int (zO a1)), none]) (h : Tp_pastLetters fu L M a0 a1 = some res) : W p l e (zrm 2 0 0) s m args below meth c H locs 0 0 (MQ below (zQ G top L M (some (.int (zO res))) (InR res)) args s 0 0 (zA G)) (F0 m 0 ls []) := by
  unfold Tp_pastLetters at h
  refine u_il_n (x := a1) E (Tp_pastLetters_dc.at 0 rfl) hl rfl ?_
  refine u_ist_n (y := a1) (vs' := [some (zR G.2.2.1 a0), some (.int (zO a1)), some (.int (zO a1))]) E rfl (Tp_pastLetters_dc.at 1 rfl) hl (by decide) rfl (fun ls hl => ?_)
  exact Tp_pastLetters_l2_w E fu _ a0 a1 ha0 ha1 _ _ _ S (hl.sub (And.intro rfl (And.intro rfl True.intro))) h
theorem Tp_pastLetters_c (l : Launch) (G : zG) (fu : Nat) (top : Int) (L : zL) (M : zM) (a0 : Int) (a1 : Int) {res : Int} (ha0 : InR a0) (ha1 : InR a1) (h : Tp_pastLetters fu L M a0 a1 = some res) : Met l yX7_pastLetters (Cond.code yX7_pastLetters cX7_pastLetters 3 (some .int) :: zTB) (zrm 2 0 0) (va_Pc [zR G.2.2.1 a0, .int (zO a1)] (zPre G top L M)) (zQ G top L M (some (.int (zO res))) (InR res)) 0 0 (zA G) :=
  z_met (by decide +kernel) (by simp [zR_cat, zcat_I, zcat_S]) (Nat.le_of_ble_eq_true rfl) fun p e s m below meth c ls E hn S hl => Tp_pastLetters_w E ha0 ha1 S (hl.sub (And.intro rfl (And.intro rfl True.intro))) h
end
