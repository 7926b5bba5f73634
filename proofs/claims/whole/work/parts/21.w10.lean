theorem Mo_readsGift_dc : zDL cX12_readsGift [(0, .aload_n 0, 1, 1), (1, .invokevirtual 153, 3, 4), (4, .aload_n 0, 1, 5), (5, .iconst 0, 1, 6), (6, .putfield 181, 3, 9), (9, .aload_n 0, 1, 10), (10, .getfield 22, 3, 13), (13, .iconst 2, 1, 14), (14, .iconst 0, 1, 15), (15, .iastore, 1, 16), (16, .aload_n 0, 1, 17), (17, .getfield 22, 3, 20), (20, .iconst 4, 1, 21), (21, .iconst 0, 1, 22), (22, .iastore, 1, 23), (23, .aload_n 0, 1, 24), (24, .ldc 211, 2, 26), (26, .invokevirtual 197, 3, 29), (29, .aload_n 0, 1, 30), (30, .getfield 22, 3, 33), (33, .iconst 0, 1, 34), (34, .aload_n 0, 1, 35), (35, .ldc 213, 2, 37), (37, .invokevirtual 130, 3, 40), (40, .ifCond .eq 7, 3, 43), (43, .iconst 1, 1, 44), (44, .goto 17, 3, 47), (47, .aload_n 0, 1, 48), (48, .ldc 215, 2, 50), (50, .invokevirtual 130, 3, 53), (53, .ifCond .eq 7, 3, 56), (56, .iconst 2, 1, 57), (57, .goto 4, 3, 60), (60, .iconst 0, 1, 61), (61, .iastore, 1, 62), (62, .aload_n 0, 1, 63), (63, .getfield 22, 3, 66), (66, .iconst 1, 1, 67), (67, .aload_n 0, 1, 68), (68, .invokevirtual 191, 3, 71), (71, .iastore, 1, 72), (72, .aload_n 0, 1, 73), (73, .ldc 217, 2, 75), (75, .invokevirtual 197, 3, 78), (78, .aload_n 0, 1, 79), (79, .getfield 110, 3, 82), (82, .iconst (-1), 1, 83), (83, .if_icmp .ne 13, 3, 86), (86, .aload_n 0, 1, 87), (87, .getfield 22, 3, 90), (90, .iconst 3, 1, 91), (91, .aload_n 0, 1, 92), (92, .invokevirtual 201, 3, 95), (95, .iastore, 1, 96), (96, .aload_n 0, 1, 97), (97, .invokevirtual 162, 3, 100), (100, .aload_n 0, 1, 101), (101, .getfield 110, 3, 104), (104, .ireturn, 1, 105)] := zDL.of (by decide +kernel)
section
variable {p : Program} {l : Launch} {e : Env} {s : State} {m : MethodId} {args : Array Value} {below : List Frame} {meth : Method} {c : Code} {G : zG} {top : Int} {L : zL} {fu : Nat}
theorem Mo_readsGift_b61_w (E : zEv p m c cX12_readsGift 1 s args RX12 meth (some .int) G) {res : (zM × Int)} {M : zM} {x0 : Int} {y0 : Int} {y1 : Int} {y2 : Int} {H : Heap} {locs : List Loc} {ls : Array Slot} (hx0 : InR x0) (hy0 : InR y0) (hy1 : InR y1) (hy2 : InR y2) (S : zS G top L M s H locs) (hl : zLV ls 1 [some (zR G.2.2.1 x0)]) (h : Mo_readsGift_b61 fu L M x0 y0 y1 y2 = some res) : W p l e (zrm 51 0 0) s m args below meth c H locs 0 0 (MQ below (zQ G top L res.1 (some (.int (zO res.2))) (InR res.2)) args s 0 0 (zA G)) (F0 m 61 ls [.int (zO y2), .int (zO y1), zR G.2.2.1 y0]) := by
  unfold Mo_readsGift_b61 at h
  obtain ⟨g22, h⟩ := ite_e h
  obtain ⟨g23, h⟩ := ite_e h
  obtain ⟨M24, eM24, h⟩ := lt1_e h
  refine u_iast E eM24 S g22 g23 hy2 (Mo_readsGift_dc.at 34 rfl) (fun H locs S25 => ?_)
  refine u_al_n (x := x0) E (Mo_readsGift_dc.at 35 rfl) hl rfl ?_
  obtain ⟨g26, h⟩ := ite_e h
  refine u_gR E zf_12_12 S25 g26 zw_6_219 (Mo_readsGift_dc.at 36 rfl) ?_
  refine r_iconst E (Mo_readsGift_dc.at 37 rfl) ?_
  refine u_al_n (x := x0) E (Mo_readsGift_dc.at 38 rfl) hl rfl ?_
  obtain ⟨M28, r27, er27, h⟩ := bd2_e h
  refine u_cVI (As := []) (rest := [.int (zO 1), zR G.2.2.1 (M24 x0 12)]) E S25 zcw_yX12_takesLife zw_7_221 zq_4_13 zw_7_219 zck_12.1 rfl g26 (Mo_takesLife_c l G fu top L M24 x0 hx0 er27) (zrm_ok (by decide) (by decide)) ⟨Nat.le_refl 0, Nat.le_refl 0⟩ rfl (by simp [zR_cat, zcat_I, zcat_J, zcat_S]) hl.size rfl (Mo_readsGift_dc.at 39 rfl) (fun H locs hr27 S29 => ?_)
  obtain ⟨g30, h⟩ := ite_e h
  obtain ⟨g31, h⟩ := ite_e h
  obtain ⟨M32, eM32, h⟩ := lt1_e h
  refine u_iast E eM32 S29 g30 g31 hr27 (Mo_readsGift_dc.at 40 rfl) (fun H locs S33 => ?_)
  refine u_al_n (x := x0) E (Mo_readsGift_dc.at 41 rfl) hl rfl ?_
  refine r_ldcS (j := 20) E (Mo_readsGift_dc.at 42 rfl) rfl ?_
  obtain ⟨M34, eM34, h⟩ := bd1_e h
  refine u_cVU (As := [.ref (G.2.2.2.1 20)]) (rest := []) E S33 zcw_yX12_mustWord zw_7_215 zq_4_12 zw_7_213 zck_12.1 rfl g26 (Mo_mustWord_c l G fu top L M32 x0 20 hx0 eM34) (zrm_ok (by decide) (by decide)) ⟨Nat.le_refl 0, Nat.le_refl 0⟩ rfl (Nat.zero_le 8) hl.size rfl (Mo_readsGift_dc.at 43 rfl) (fun H locs _ S35 => ?_)
  refine u_al_n (x := x0) E (Mo_readsGift_dc.at 44 rfl) hl rfl ?_
  refine u_gI E zf_12_5 S35 g26 zw_6_212 (Mo_readsGift_dc.at 45 rfl) ?_
  refine r_iconst E (Mo_readsGift_dc.at 46 rfl) ?_
  refine r_icmp_ne (tgt := 96) E (S35.1.inR _ _) (show InR (-1) by decide) (Mo_readsGift_dc.at 47 rfl) (by decide) (fun q => ?_) (fun q => ?_)
  · have h := ite_t h q
    refine u_al_n (x := x0) E (Mo_readsGift_dc.at 48 rfl) hl rfl ?_
    refine u_gR E zf_12_12 S35 g26 zw_6_219 (Mo_readsGift_dc.at 49 rfl) ?_
    refine r_iconst E (Mo_readsGift_dc.at 50 rfl) ?_
    refine u_al_n (x := x0) E (Mo_readsGift_dc.at 51 rfl) hl rfl ?_
    obtain ⟨M37, r36, er36, h⟩ := bd2_e h
    refine u_cVI (As := []) (rest := [.int (zO 3), zR G.2.2.1 (M34 x0 12)]) E S35 zcw_yX12_readsAll zw_7_230 zq_4_15 zw_7_228 zck_12.1 rfl g26 (Mo_readsAll_c l G fu top L M34 x0 hx0 er36) (zrm_ok (by decide) (by decide)) ⟨Nat.le_refl 0, Nat.le_refl 0⟩ rfl (by simp [zR_cat, zcat_I, zcat_J, zcat_S]) hl.size rfl (Mo_readsGift_dc.at 52 rfl) (fun H locs hr36 S38 => ?_)
    obtain ⟨g39, h⟩ := ite_e h
    obtain ⟨g40, h⟩ := ite_e h
    obtain ⟨M41, eM41, h⟩ := lt1_e h
    refine u_iast E eM41 S38 g39 g40 hr36 (Mo_readsGift_dc.at 53 rfl) (fun H locs S42 => ?_)
    refine u_al_n (x := x0) E (Mo_readsGift_dc.at 54 rfl) hl rfl ?_
    obtain ⟨M43, eM43, h⟩ := bd1_e h
    refine u_cVU (As := []) (rest := []) E S42 zcw_yX12_mustEnd zw_7_206 zq_4_10 zw_7_204 zck_12.1 rfl g26 (Mo_mustEnd_c l G fu top L M41 x0 hx0 eM43) (zrm_ok (by decide) (by decide)) ⟨Nat.le_refl 0, Nat.le_refl 0⟩ rfl (Nat.zero_le 8) hl.size rfl (Mo_readsGift_dc.at 55 rfl) (fun H locs _ S44 => ?_)
    refine u_al_n (x := x0) E (Mo_readsGift_dc.at 56 rfl) hl rfl ?_
    refine u_gI E zf_12_5 S44 g26 zw_6_212 (Mo_readsGift_dc.at 57 rfl) ?_
    cases h
    exact r_iret E S44 (S44.1.inR _ _) (Mo_readsGift_dc.at 58 rfl)
  · have h := ite_f h q
    refine u_al_n (x := x0) E (Mo_readsGift_dc.at 54 rfl) hl rfl ?_
    obtain ⟨M45, eM45, h⟩ := bd1_e h
    refine u_cVU (As := []) (rest := []) E S35 zcw_yX12_mustEnd zw_7_206 zq_4_10 zw_7_204 zck_12.1 rfl g26 (Mo_mustEnd_c l G fu top L M34 x0 hx0 eM45) (zrm_ok (by decide) (by decide)) ⟨Nat.le_refl 0, Nat.le_refl 0⟩ rfl (Nat.zero_le 8) hl.size rfl (Mo_readsGift_dc.at 55 rfl) (fun H locs _ S46 => ?_)
    refine u_al_n (x := x0) E (Mo_readsGift_dc.at 56 rfl) hl rfl ?_
    refine u_gI E zf_12_5 S46 g26 zw_6_212 (Mo_readsGift_dc.at 57 rfl) ?_
    cases h
    exact r_iret E S46 (S46.1.inR _ _) (Mo_readsGift_dc.at 58 rfl)
theorem Mo_readsGift_w (E : zEv p m c cX12_readsGift 1 s args RX12 meth (some .int) G) {res : (zM × Int)} {M : zM} {a0 : Int} {H : Heap} {locs : List Loc} {ls : Array Slot} (ha0 : InR a0) (S : zS G top L M s H locs) (hl : zLV ls 1 [some (zR G.2.2.1 a0)]) (h : Mo_readsGift fu L M a0 = some res) : W p l e (zrm 51 0 0) s m args below meth c H locs 0 0 (MQ below (zQ G top L res.1 (some (.int (zO res.2))) (InR res.2)) args s 0 0 (zA G)) (F0 m 0 ls []) := by
  unfold Mo_readsGift at h
  refine u_al_n (x := a0) E (Mo_readsGift_dc.at 0 rfl) hl rfl ?_
  obtain ⟨g1, h⟩ := ite_e h
  obtain ⟨M2, eM2, h⟩ := bd1_e h
  refine u_cVU (As := []) (rest := []) E S zcw_yX12_begins zw_7_147 zq_3_14 zw_7_145 zck_12.1 rfl g1 (Mo_begins_c l G fu top L M a0 ha0 eM2) (zrm_ok (by decide) (by decide)) ⟨Nat.le_refl 0, Nat.le_refl 0⟩ rfl (Nat.zero_le 8) hl.size rfl (Mo_readsGift_dc.at 1 rfl) (fun H locs _ S3 => ?_)
  refine u_al_n (x := a0) E (Mo_readsGift_dc.at 2 rfl) hl rfl ?_
  refine r_iconst E (Mo_readsGift_dc.at 3 rfl) ?_
  obtain ⟨M4, eM4, h⟩ := lt1_e h
  refine u_pI E eM4 zf_12_13 S3 g1 (show InR 0 by decide) (Or.inl rfl) rfl zw_6_220 (Mo_readsGift_dc.at 4 rfl) (fun H locs S5 => ?_)
  refine u_al_n (x := a0) E (Mo_readsGift_dc.at 5 rfl) hl rfl ?_
  refine u_gR E zf_12_12 S5 g1 zw_6_219 (Mo_readsGift_dc.at 6 rfl) ?_
  refine r_iconst E (Mo_readsGift_dc.at 7 rfl) ?_
  refine r_iconst E (Mo_readsGift_dc.at 8 rfl) ?_
  obtain ⟨g6, h⟩ := ite_e h
  obtain ⟨g7, h⟩ := ite_e h
  obtain ⟨M8, eM8, h⟩ := lt1_e h
  refine u_iast E eM8 S5 g6 g7 (show InR 0 by decide) (Mo_readsGift_dc.at 9 rfl) (fun H locs S9 => ?_)
  refine u_al_n (x := a0) E (Mo_readsGift_dc.at 10 rfl) hl rfl ?_
  refine u_gR E zf_12_12 S9 g1 zw_6_219 (Mo_readsGift_dc.at 11 rfl) ?_
  refine r_iconst E (Mo_readsGift_dc.at 12 rfl) ?_
  refine r_iconst E (Mo_readsGift_dc.at 13 rfl) ?_
  obtain ⟨g10, h⟩ := ite_e h
  obtain ⟨g11, h⟩ := ite_e h
  obtain ⟨M12, eM12, h⟩ := lt1_e h
  refine u_iast E eM12 S9 g10 g11 (show InR 0 by decide) (Mo_readsGift_dc.at 14 rfl) (fun H locs S13 => ?_)
  refine u_al_n (x := a0) E (Mo_readsGift_dc.at 15 rfl) hl rfl ?_
  refine r_ldcS (j := 17) E (Mo_readsGift_dc.at 16 rfl) rfl ?_
  obtain ⟨M14, eM14, h⟩ := bd1_e h
  refine u_cVU (As := [.ref (G.2.2.2.1 17)]) (rest := []) E S13 zcw_yX12_mustWord zw_7_215 zq_4_12 zw_7_213 zck_12.1 rfl g1 (Mo_mustWord_c l G fu top L M12 a0 17 ha0 eM14) (zrm_ok (by decide) (by decide)) ⟨Nat.le_refl 0, Nat.le_refl 0⟩ rfl (Nat.zero_le 8) hl.size rfl (Mo_readsGift_dc.at 17 rfl) (fun H locs _ S15 => ?_)
  refine u_al_n (x := a0) E (Mo_readsGift_dc.at 18 rfl) hl rfl ?_
  refine u_gR E zf_12_12 S15 g1 zw_6_219 (Mo_readsGift_dc.at 19 rfl) ?_
  refine r_iconst E (Mo_readsGift_dc.at 20 rfl) ?_
  refine u_al_n (x := a0) E (Mo_readsGift_dc.at 21 rfl) hl rfl ?_
  refine r_ldcS (j := 18) E (Mo_readsGift_dc.at 22 rfl) rfl ?_
  obtain ⟨M17, r16, er16, h⟩ := bd2_e h
  refine u_cVI (As := [.ref (G.2.2.2.1 18)]) (rest := [.int (zO 0), zR G.2.2.1 (M14 a0 12)]) E S15 zcw_yX12_takesWord zw_7_188 zq_4_6 zw_7_186 zck_12.1 rfl g1 (Mo_takesWord_c l G fu top L M14 a0 18 ha0 er16) (zrm_ok (by decide) (by decide)) ⟨Nat.le_refl 0, Nat.le_refl 0⟩ rfl (by simp [zR_cat, zcat_I, zcat_J, zcat_S]) hl.size rfl (Mo_readsGift_dc.at 23 rfl) (fun H locs hr16 S18 => ?_)
  refine r_if_eq (tgt := 47) E (inR_01 hr16) (Mo_readsGift_dc.at 24 rfl) (by decide) (fun q => ?_) (fun q => ?_)
  · have h := ite_t h q
    refine u_al_n (x := a0) E (Mo_readsGift_dc.at 27 rfl) hl rfl ?_
    refine r_ldcS (j := 19) E (Mo_readsGift_dc.at 28 rfl) rfl ?_
    obtain ⟨M20, r19, er19, h⟩ := bd2_e h
    refine u_cVI (As := [.ref (G.2.2.2.1 19)]) (rest := [.int (zO 0), zR G.2.2.1 (M14 a0 12)]) E S18 zcw_yX12_takesWord zw_7_188 zq_4_6 zw_7_186 zck_12.1 rfl g1 (Mo_takesWord_c l G fu top L M17 a0 19 ha0 er19) (zrm_ok (by decide) (by decide)) ⟨Nat.le_refl 0, Nat.le_refl 0⟩ rfl (by simp [zR_cat, zcat_I, zcat_J, zcat_S]) hl.size rfl (Mo_readsGift_dc.at 29 rfl) (fun H locs hr19 S21 => ?_)
    refine r_if_eq (tgt := 60) E (inR_01 hr19) (Mo_readsGift_dc.at 30 rfl) (by decide) (fun q => ?_) (fun q => ?_)
    · have h := ite_t h q
      refine r_iconst E (Mo_readsGift_dc.at 33 rfl) ?_
      exact Mo_readsGift_b61_w (x0 := a0) (y0 := (M14 a0 12)) (y1 := 0) (y2 := 0) E ha0 (S15.1.inR _ _) (show InR 0 by decide) (show InR 0 by decide) S21 (hl.sub (And.intro rfl True.intro)) h
    · have h := ite_f h q
      refine r_iconst E (Mo_readsGift_dc.at 31 rfl) ?_
      refine r_goto (tgt := 61) E (Mo_readsGift_dc.at 32 rfl) (by decide) ?_
      exact Mo_readsGift_b61_w (x0 := a0) (y0 := (M14 a0 12)) (y1 := 0) (y2 := 2) E ha0 (S15.1.inR _ _) (show InR 0 by decide) (show InR 2 by decide) S21 (hl.sub (And.intro rfl True.intro)) h
  · have h := ite_f h q
    refine r_iconst E (Mo_readsGift_dc.at 25 rfl) ?_
    refine r_goto (tgt := 61) E (Mo_readsGift_dc.at 26 rfl) (by decide) ?_
    exact Mo_readsGift_b61_w (x0 := a0) (y0 := (M14 a0 12)) (y1 := 0) (y2 := 1) E ha0 (S15.1.inR _ _) (show InR 0 by decide) (show InR 1 by decide) S18 (hl.sub (And.intro rfl True.intro)) h
theorem Mo_readsGift_c (l : Launch) (G : zG) (fu : Nat) (top : Int) (L : zL) (M : zM) (a0 : Int) {res : (zM × Int)} (ha0 : InR a0) (h : Mo_readsGift fu L M a0 = some res) : Met l yX12_readsGift (Cond.code yX12_readsGift cX12_readsGift 1 (some .int) :: zTB) (zrm 51 0 0) (va_Pc [zR G.2.2.1 a0] (zPre G top L M)) (zQ G top L res.1 (some (.int (zO res.2))) (InR res.2)) 0 0 (zA G) :=
  z_met (by decide +kernel) (by simp [zR_cat, zcat_I, zcat_S]) (Nat.le_of_ble_eq_true rfl) fun p e s m below meth c ls E hn S hl => Mo_readsGift_w E ha0 S (hl.sub (And.intro rfl True.intro)) h
end
theorem Mo_takesWho_dc : zDL cX12_takesWho [(0, .aload_n 0, 1, 1), (1, .ldc 219, 2, 3), (3, .invokevirtual 130, 3, 6), (6, .ifCond .eq 12, 3, 9), (9, .aload_n 0, 1, 10), (10, .bipush 23, 2, 12), (12, .invokevirtual 148, 3, 15), (15, .goto 7, 3, 18), (18, .aload_n 0, 1, 19), (19, .invokevirtual 191, 3, 22), (22, .ireturn, 1, 23)] := zDL.of (by decide +kernel)
section
variable {p : Program} {l : Launch} {e : Env} {s : State} {m : MethodId} {args : Array Value} {below : List Frame} {meth : Method} {c : Code} {G : zG} {top : Int} {L : zL} {fu : Nat}
theorem Mo_takesWho_w (E : zEv p m c cX12_takesWho 1 s args RX12 meth (some .int) G) {res : (zM × Int)} {M : zM} {a0 : Int} {H : Heap} {locs : List Loc} {ls : Array Slot} (ha0 : InR a0) (S : zS G top L M s H locs) (hl : zLV ls 1 [some (zR G.2.2.1 a0)]) (h : Mo_takesWho fu L M a0 = some res) : W p l e (zrm 8 0 0) s m args below meth c H locs 0 0 (MQ below (zQ G top L res.1 (some (.int (zO res.2))) (InR res.2)) args s 0 0 (zA G)) (F0 m 0 ls []) := by
  unfold Mo_takesWho at h
  refine u_al_n (x := a0) E (Mo_takesWho_dc.at 0 rfl) hl rfl ?_
  refine r_ldcS (j := 29) E (Mo_takesWho_dc.at 1 rfl) rfl ?_
  obtain ⟨g1, h⟩ := ite_e h
  obtain ⟨M3, r2, er2, h⟩ := bd2_e h
  refine u_cVI (As := [.ref (G.2.2.2.1 29)]) (rest := []) E S zcw_yX12_takesWord zw_7_188 zq_4_6 zw_7_186 zck_12.1 rfl g1 (Mo_takesWord_c l G fu top L M a0 29 ha0 er2) (zrm_ok (by decide) (by decide)) ⟨Nat.le_refl 0, Nat.le_refl 0⟩ rfl (Nat.zero_le 8) hl.size rfl (Mo_takesWho_dc.at 2 rfl) (fun H locs hr2 S4 => ?_)
  refine r_if_eq (tgt := 18) E (inR_01 hr2) (Mo_takesWho_dc.at 3 rfl) (by decide) (fun q => ?_) (fun q => ?_)
  · have h := ite_t h q
    refine u_al_n (x := a0) E (Mo_takesWho_dc.at 8 rfl) hl rfl ?_
    obtain ⟨M6, r5, er5, h⟩ := bd2_e h
    refine u_cVI (As := []) (rest := []) E S4 zcw_yX12_takesLife zw_7_221 zq_4_13 zw_7_219 zck_12.1 rfl g1 (Mo_takesLife_c l G fu top L M3 a0 ha0 er5) (zrm_ok (by decide) (by decide)) ⟨Nat.le_refl 0, Nat.le_refl 0⟩ rfl (Nat.zero_le 8) hl.size rfl (Mo_takesWho_dc.at 9 rfl) (fun H locs hr5 S7 => ?_)
    cases h
    exact r_iret E S7 hr5 (Mo_takesWho_dc.at 10 rfl)
  · have h := ite_f h q
    refine u_al_n (x := a0) E (Mo_takesWho_dc.at 4 rfl) hl rfl ?_
    refine r_bipush E (Mo_takesWho_dc.at 5 rfl) rfl ?_
    obtain ⟨M9, r8, er8, h⟩ := bd2_e h
    refine u_cVI (As := [.int (zO 23)]) (rest := []) E S4 zcw_yX12_takesNumber zw_7_183 zq_4_5 zw_7_181 zck_12.1 rfl g1 (Mo_takesNumber_c l G fu top L M3 a0 23 ha0 (show InR 23 by decide) er8) (zrm_ok (by decide) (by decide)) ⟨Nat.le_refl 0, Nat.le_refl 0⟩ rfl (Nat.zero_le 8) hl.size rfl (Mo_takesWho_dc.at 6 rfl) (fun H locs hr8 S10 => ?_)
    refine r_goto (tgt := 22) E (Mo_takesWho_dc.at 7 rfl) (by decide) ?_
    cases h
    exact r_iret E S10 hr8 (Mo_takesWho_dc.at 10 rfl)
theorem Mo_takesWho_c (l : Launch) (G : zG) (fu : Nat) (top : Int) (L : zL) (M : zM) (a0 : Int) {res : (zM × Int)} (ha0 : InR a0) (h : Mo_takesWho fu L M a0 = some res) : Met l yX12_takesWho (Cond.code yX12_takesWho cX12_takesWho 1 (some .int) :: zTB) (zrm 8 0 0) (va_Pc [zR G.2.2.1 a0] (zPre G top L M)) (zQ G top L res.1 (some (.int (zO res.2))) (InR res.2)) 0 0 (zA G) :=
  z_met (by decide +kernel) (by simp [zR_cat, zcat_I, zcat_S]) (Nat.le_of_ble_eq_true rfl) fun p e s m below meth c ls E hn S hl => Mo_takesWho_w E ha0 S (hl.sub (And.intro rfl True.intro)) h
end
theorem Mo_readsEvent_dc : zDL cX12_readsEvent [(0, .aload_n 0, 1, 1), (1, .getfield 221, 3, 4), (4, .bipush 30, 2, 6), (6, .if_icmp .ne 8, 3, 9), (9, .aload_n 0, 1, 10), (10, .invokevirtual 133, 3, 13), (13, .return_, 1, 14), (14, .aload_n 0, 1, 15), (15, .ldc 224, 2, 17), (17, .invokevirtual 130, 3, 20), (20, .ifCond .eq 65, 3, 23), (23, .aload_n 0, 1, 24), (24, .getfield 87, 3, 27), (27, .istore_n 1, 1, 28), (28, .aload_n 0, 1, 29), (29, .sipush 399, 3, 32), (32, .invokevirtual 148, 3, 35), (35, .istore_n 2, 1, 36), (36, .aload_n 0, 1, 37), (37, .getfield 110, 3, 40), (40, .iconst (-1), 1, 41), (41, .if_icmp .ne 16, 3, 44), (44, .iload_n 2, 1, 45), (45, .aload_n 0, 1, 46), (46, .getfield 225, 3, 49), (49, .if_icmp .ge 8, 3, 52), (52, .aload_n 0, 1, 53), (53, .iload_n 1, 1, 54), (54, .putfield 110, 3, 57), (57, .aload_n 0, 1, 58), (58, .iload_n 2, 1, 59), (59, .putfield 225, 3, 62), (62, .aload_n 0, 1, 63), (63, .getfield 25, 3, 66), (66, .aload_n 0, 1, 67), (67, .getfield 221, 3, 70), (70, .iconst 0, 1, 71), (71, .iastore, 1, 72), (72, .aload_n 0, 1, 73), (73, .getfield 28, 3, 76), (76, .aload_n 0, 1, 77), (77, .getfield 221, 3, 80), (80, .iload_n 2, 1, 81), (81, .iastore, 1, 82), (82, .goto 54, 3, 85), (85, .aload_n 0, 1, 86), (86, .getfield 28, 3, 89), (89, .aload_n 0, 1, 90), (90, .getfield 221, 3, 93), (93, .aload_n 0, 1, 94), (94, .invokevirtual 228, 3, 97), (97, .iastore, 1, 98), (98, .aload_n 0, 1, 99), (99, .getfield 25, 3, 102), (102, .aload_n 0, 1, 103), (103, .getfield 221, 3, 106), (106, .aload_n 0, 1, 107), (107, .ldc 173, 2, 109), (109, .invokevirtual 126, 3, 112), (112, .ifCond .eq 7, 3, 115), (115, .iconst 1, 1, 116), (116, .goto 4, 3, 119), (119, .iconst 2, 1, 120), (120, .iastore, 1, 121), (121, .aload_n 0, 1, 122), (122, .ldc 173, 2, 124), (124, .invokevirtual 130, 3, 127), (127, .ifCond .ne 9, 3, 130), (130, .aload_n 0, 1, 131), (131, .ldc 231, 2, 133), (133, .invokevirtual 197, 3, 136), (136, .aload_n 0, 1, 137), (137, .dup, 1, 138), (138, .getfield 221, 3, 141), (141, .iconst 1, 1, 142), (142, .iadd, 1, 143), (143, .putfield 221, 3, 146), (146, .return_, 1, 147)] := zDL.of (by decide +kernel)
section
variable {p : Program} {l : Launch} {e : Env} {s : State} {m : MethodId} {args : Array Value} {below : List Frame} {meth : Method} {c : Code} {G : zG} {top : Int} {L : zL} {fu : Nat}
theorem Mo_readsEvent_b120_w (E : zEv p m c cX12_readsEvent 3 s args RX12 meth none G) {res : zM} {M : zM} {x0 : Int} {y0 : Int} {y1 : Int} {y2 : Int} {H : Heap} {locs : List Loc} {ls : Array Slot} (hx0 : InR x0) (hy0 : InR y0) (hy1 : InR y1) (hy2 : InR y2) (S : zS G top L M s H locs) (hl : zLV ls 3 [some (zR G.2.2.1 x0), none, none]) (h : Mo_readsEvent_b120 fu L M x0 y0 y1 y2 = some res) : W p l e (zrm 9 0 0) s m args below meth c H locs 0 0 (MQ below (zQ G top L res none True) args s 0 0 (zA G)) (F0 m 120 ls [.int (zO y2), .int (zO y1), zR G.2.2.1 y0]) := by
  unfold Mo_readsEvent_b120 at h
  obtain ⟨g16, h⟩ := ite_e h
  obtain ⟨g17, h⟩ := ite_e h
  obtain ⟨M18, eM18, h⟩ := lt1_e h
  refine u_iast E eM18 S g16 g17 hy2 (Mo_readsEvent_dc.at 63 rfl) (fun H locs S19 => ?_)
  refine u_al_n (x := x0) E (Mo_readsEvent_dc.at 64 rfl) hl rfl ?_
  refine r_ldcS (j := 22) E (Mo_readsEvent_dc.at 65 rfl) rfl ?_
  obtain ⟨g20, h⟩ := ite_e h
  obtain ⟨M22, r21, er21, h⟩ := bd2_e h
  refine u_cVI (As := [.ref (G.2.2.2.1 22)]) (rest := []) E S19 zcw_yX12_takesWord zw_7_188 zq_4_6 zw_7_186 zck_12.1 rfl g20 (Mo_takesWord_c l G fu top L M18 x0 22 hx0 er21) (zrm_ok (by decide) (by decide)) ⟨Nat.le_refl 0, Nat.le_refl 0⟩ rfl (Nat.zero_le 8) hl.size rfl (Mo_readsEvent_dc.at 66 rfl) (fun H locs hr21 S23 => ?_)
  refine r_if_ne (tgt := 136) E (inR_01 hr21) (Mo_readsEvent_dc.at 67 rfl) (by decide) (fun q => ?_) (fun q => ?_)
  · have h := ite_t h q
    refine u_al_n (x := x0) E (Mo_readsEvent_dc.at 68 rfl) hl rfl ?_
    refine r_ldcS (j := 30) E (Mo_readsEvent_dc.at 69 rfl) rfl ?_
    obtain ⟨M24, eM24, h⟩ := bd1_e h
    refine u_cVU (As := [.ref (G.2.2.2.1 30)]) (rest := []) E S23 zcw_yX12_mustWord zw_7_215 zq_4_12 zw_7_213 zck_12.1 rfl g20 (Mo_mustWord_c l G fu top L M22 x0 30 hx0 eM24) (zrm_ok (by decide) (by decide)) ⟨Nat.le_refl 0, Nat.le_refl 0⟩ rfl (Nat.zero_le 8) hl.size rfl (Mo_readsEvent_dc.at 70 rfl) (fun H locs _ S25 => ?_)
    refine u_al_n (x := x0) E (Mo_readsEvent_dc.at 71 rfl) hl rfl ?_
    refine r_dup E (Mo_readsEvent_dc.at 72 rfl) (zR_cat _ _) ?_
    refine u_gI E zf_12_16 S25 g20 zw_6_223 (Mo_readsEvent_dc.at 73 rfl) ?_
    refine r_iconst E (Mo_readsEvent_dc.at 74 rfl) ?_
    refine r_iadd E (Mo_readsEvent_dc.at 75 rfl) ?_
    obtain ⟨M26, eM26, h⟩ := lt1_e h
    refine u_pI E eM26 zf_12_16 S25 g20 (inR_w32 _) (Or.inl rfl) rfl zw_6_223 (Mo_readsEvent_dc.at 76 rfl) (fun H locs S27 => ?_)
    cases h
    exact r_vret E S27 True.intro (Mo_readsEvent_dc.at 77 rfl)
  · have h := ite_f h q
    refine u_al_n (x := x0) E (Mo_readsEvent_dc.at 71 rfl) hl rfl ?_
    refine r_dup E (Mo_readsEvent_dc.at 72 rfl) (zR_cat _ _) ?_
    refine u_gI E zf_12_16 S23 g20 zw_6_223 (Mo_readsEvent_dc.at 73 rfl) ?_
    refine r_iconst E (Mo_readsEvent_dc.at 74 rfl) ?_
    refine r_iadd E (Mo_readsEvent_dc.at 75 rfl) ?_
    obtain ⟨M28, eM28, h⟩ := lt1_e h
    refine u_pI E eM28 zf_12_16 S23 g20 (inR_w32 _) (Or.inl rfl) rfl zw_6_223 (Mo_readsEvent_dc.at 76 rfl) (fun H locs S29 => ?_)
    cases h
    exact r_vret E S29 True.intro (Mo_readsEvent_dc.at 77 rfl)
theorem Mo_readsEvent_b57_w (E : zEv p m c cX12_readsEvent 3 s args RX12 meth none G) {res : zM} {M : zM} {x0 : Int} {x2 : Int} {H : Heap} {locs : List Loc} {ls : Array Slot} (hx0 : InR x0) (hx2 : InR x2) (S : zS G top L M s H locs) (hl : zLV ls 3 [some (zR G.2.2.1 x0), none, some (.int (zO x2))]) (h : Mo_readsEvent_b57 fu L M x0 x2 = some res) : W p l e (zrm 9 0 0) s m args below meth c H locs 0 0 (MQ below (zQ G top L res none True) args s 0 0 (zA G)) (F0 m 57 ls []) := by
  unfold Mo_readsEvent_b57 at h
  refine u_al_n (x := x0) E (Mo_readsEvent_dc.at 29 rfl) hl rfl ?_
  refine u_il_n (x := x2) E (Mo_readsEvent_dc.at 30 rfl) hl rfl ?_
  obtain ⟨g36, h⟩ := ite_e h
  obtain ⟨M37, eM37, h⟩ := lt1_e h
  refine u_pI E eM37 zf_12_17 S g36 hx2 (Or.inl rfl) rfl zw_6_224 (Mo_readsEvent_dc.at 31 rfl) (fun H locs S38 => ?_)
  refine u_al_n (x := x0) E (Mo_readsEvent_dc.at 32 rfl) hl rfl ?_
  refine u_gR E zf_12_14 S38 g36 zw_6_221 (Mo_readsEvent_dc.at 33 rfl) ?_
  refine u_al_n (x := x0) E (Mo_readsEvent_dc.at 34 rfl) hl rfl ?_
  refine u_gI E zf_12_16 S38 g36 zw_6_223 (Mo_readsEvent_dc.at 35 rfl) ?_
  refine r_iconst E (Mo_readsEvent_dc.at 36 rfl) ?_
  obtain ⟨g39, h⟩ := ite_e h
  obtain ⟨g40, h⟩ := ite_e h
  obtain ⟨M41, eM41, h⟩ := lt1_e h
  refine u_iast E eM41 S38 g39 g40 (show InR 0 by decide) (Mo_readsEvent_dc.at 37 rfl) (fun H locs S42 => ?_)
  refine u_al_n (x := x0) E (Mo_readsEvent_dc.at 38 rfl) hl rfl ?_
  refine u_gR E zf_12_15 S42 g36 zw_6_222 (Mo_readsEvent_dc.at 39 rfl) ?_
  refine u_al_n (x := x0) E (Mo_readsEvent_dc.at 40 rfl) hl rfl ?_
  refine u_gI E zf_12_16 S42 g36 zw_6_223 (Mo_readsEvent_dc.at 41 rfl) ?_
  refine u_il_n (x := x2) E (Mo_readsEvent_dc.at 42 rfl) hl rfl ?_
  obtain ⟨g43, h⟩ := ite_e h
  obtain ⟨g44, h⟩ := ite_e h
  obtain ⟨M45, eM45, h⟩ := lt1_e h
  refine u_iast E eM45 S42 g43 g44 hx2 (Mo_readsEvent_dc.at 43 rfl) (fun H locs S46 => ?_)
  refine r_goto (tgt := 136) E (Mo_readsEvent_dc.at 44 rfl) (by decide) ?_
  refine u_al_n (x := x0) E (Mo_readsEvent_dc.at 71 rfl) hl rfl ?_
  refine r_dup E (Mo_readsEvent_dc.at 72 rfl) (zR_cat _ _) ?_
  refine u_gI E zf_12_16 S46 g36 zw_6_223 (Mo_readsEvent_dc.at 73 rfl) ?_
  refine r_iconst E (Mo_readsEvent_dc.at 74 rfl) ?_
  refine r_iadd E (Mo_readsEvent_dc.at 75 rfl) ?_
  obtain ⟨M47, eM47, h⟩ := lt1_e h
  refine u_pI E eM47 zf_12_16 S46 g36 (inR_w32 _) (Or.inl rfl) rfl zw_6_223 (Mo_readsEvent_dc.at 76 rfl) (fun H locs S48 => ?_)
  cases h
  exact r_vret E S48 True.intro (Mo_readsEvent_dc.at 77 rfl)
theorem Mo_readsEvent_w (E : zEv p m c cX12_readsEvent 3 s args RX12 meth none G) {res : zM} {M : zM} {a0 : Int} {H : Heap} {locs : List Loc} {ls : Array Slot} (ha0 : InR a0) (S : zS G top L M s H locs) (hl : zLV ls 3 [some (zR G.2.2.1 a0), none, none]) (h : Mo_readsEvent fu L M a0 = some res) : W p l e (zrm 9 0 0) s m args below meth c H locs 0 0 (MQ below (zQ G top L res none True) args s 0 0 (zA G)) (F0 m 0 ls []) := by
  unfold Mo_readsEvent at h
  refine u_al_n (x := a0) E (Mo_readsEvent_dc.at 0 rfl) hl rfl ?_
  obtain ⟨g1, h⟩ := ite_e h
  refine u_gI E zf_12_16 S g1 zw_6_223 (Mo_readsEvent_dc.at 1 rfl) ?_
  refine r_bipush E (Mo_readsEvent_dc.at 2 rfl) rfl ?_
  refine r_icmp_ne (tgt := 14) E (S.1.inR _ _) (show InR 30 by decide) (Mo_readsEvent_dc.at 3 rfl) (by decide) (fun q => ?_) (fun q => ?_)
  · have h := ite_t h q
    refine u_al_n (x := a0) E (Mo_readsEvent_dc.at 4 rfl) hl rfl ?_
    obtain ⟨M2, eM2, h⟩ := bd1_e h
    refine u_cVU (As := []) (rest := []) E S zcw_yX12_bad zw_7_179 zq_4_4 zw_7_177 zck_12.1 rfl g1 (Mo_bad_c l G fu top L M a0 ha0 eM2) (zrm_ok (by decide) (by decide)) ⟨Nat.le_refl 0, Nat.le_refl 0⟩ rfl (Nat.zero_le 8) hl.size rfl (Mo_readsEvent_dc.at 5 rfl) (fun H locs _ S3 => ?_)
    cases h
    exact r_vret E S3 True.intro (Mo_readsEvent_dc.at 6 rfl)
  · have h := ite_f h q
    refine u_al_n (x := a0) E (Mo_readsEvent_dc.at 7 rfl) hl rfl ?_
    refine r_ldcS (j := 28) E (Mo_readsEvent_dc.at 8 rfl) rfl ?_
    obtain ⟨M5, r4, er4, h⟩ := bd2_e h
    refine u_cVI (As := [.ref (G.2.2.2.1 28)]) (rest := []) E S zcw_yX12_takesWord zw_7_188 zq_4_6 zw_7_186 zck_12.1 rfl g1 (Mo_takesWord_c l G fu top L M a0 28 ha0 er4) (zrm_ok (by decide) (by decide)) ⟨Nat.le_refl 0, Nat.le_refl 0⟩ rfl (Nat.zero_le 8) hl.size rfl (Mo_readsEvent_dc.at 9 rfl) (fun H locs hr4 S6 => ?_)
    refine r_if_eq (tgt := 85) E (inR_01 hr4) (Mo_readsEvent_dc.at 10 rfl) (by decide) (fun q => ?_) (fun q => ?_)
    · have h := ite_t h q
      refine u_al_n (x := a0) E (Mo_readsEvent_dc.at 45 rfl) hl rfl ?_
      refine u_gR E zf_12_15 S6 g1 zw_6_222 (Mo_readsEvent_dc.at 46 rfl) ?_
      refine u_al_n (x := a0) E (Mo_readsEvent_dc.at 47 rfl) hl rfl ?_
      refine u_gI E zf_12_16 S6 g1 zw_6_223 (Mo_readsEvent_dc.at 48 rfl) ?_
      refine u_al_n (x := a0) E (Mo_readsEvent_dc.at 49 rfl) hl rfl ?_
      obtain ⟨M8, r7, er7, h⟩ := bd2_e h
      refine u_cVI (As := []) (rest := [.int (zO (M5 a0 16)), zR G.2.2.1 (M5 a0 15)]) E S6 zcw_yX12_takesWho zw_8_30 zq_5_7 zw_8_28 zck_12.1 rfl g1 (Mo_takesWho_c l G fu top L M5 a0 ha0 er7) (zrm_ok (by decide) (by decide)) ⟨Nat.le_refl 0, Nat.le_refl 0⟩ rfl (by simp [zR_cat, zcat_I, zcat_J, zcat_S]) hl.size rfl (Mo_readsEvent_dc.at 50 rfl) (fun H locs hr7 S9 => ?_)
      obtain ⟨g10, h⟩ := ite_e h
      obtain ⟨g11, h⟩ := ite_e h
      obtain ⟨M12, eM12, h⟩ := lt1_e h
      refine u_iast E eM12 S9 g10 g11 hr7 (Mo_readsEvent_dc.at 51 rfl) (fun H locs S13 => ?_)
      refine u_al_n (x := a0) E (Mo_readsEvent_dc.at 52 rfl) hl rfl ?_
      refine u_gR E zf_12_14 S13 g1 zw_6_221 (Mo_readsEvent_dc.at 53 rfl) ?_
      refine u_al_n (x := a0) E (Mo_readsEvent_dc.at 54 rfl) hl rfl ?_
      refine u_gI E zf_12_16 S13 g1 zw_6_223 (Mo_readsEvent_dc.at 55 rfl) ?_
      refine u_al_n (x := a0) E (Mo_readsEvent_dc.at 56 rfl) hl rfl ?_
      refine r_ldcS (j := 22) E (Mo_readsEvent_dc.at 57 rfl) rfl ?_
      obtain ⟨r14, er14, h⟩ := bd1_e h
      refine u_cVI (As := [.ref (G.2.2.2.1 22)]) (rest := [.int (zO (M12 a0 16)), zR G.2.2.1 (M12 a0 14)]) E S13 zcw_yX12_isWord zw_7_192 zq_4_7 zw_7_190 zck_12.1 rfl g1 (Mo_isWord_c l G fu top L M12 a0 22 ha0 er14) (zrm_ok (by decide) (by decide)) ⟨Nat.le_refl 0, Nat.le_refl 0⟩ rfl (by simp [zR_cat, zcat_I, zcat_J, zcat_S]) hl.size rfl (Mo_readsEvent_dc.at 58 rfl) (fun H locs hr14 S15 => ?_)
      refine r_if_eq (tgt := 119) E (inR_01 hr14) (Mo_readsEvent_dc.at 59 rfl) (by decide) (fun q => ?_) (fun q => ?_)
      · have h := ite_t h q
        refine r_iconst E (Mo_readsEvent_dc.at 62 rfl) ?_
        exact Mo_readsEvent_b120_w (x0 := a0) (y0 := (M12 a0 14)) (y1 := (M12 a0 16)) (y2 := 2) E ha0 (S13.1.inR _ _) (S13.1.inR _ _) (show InR 2 by decide) S15 (hl.sub (And.intro rfl True.intro)) h
      · have h := ite_f h q
        refine r_iconst E (Mo_readsEvent_dc.at 60 rfl) ?_
        refine r_goto (tgt := 120) E (Mo_readsEvent_dc.at 61 rfl) (by decide) ?_
        exact Mo_readsEvent_b120_w (x0 := a0) (y0 := (M12 a0 14)) (y1 := (M12 a0 16)) (y2 := 1) E ha0 (S13.1.inR _ _) (S13.1.inR _ _) (show InR 1 by decide) S15 (hl.sub (And.intro rfl True.intro)) h
    · have h := ite_f h q
      refine u_al_n (x := a0) E (Mo_readsEvent_dc.at 11 rfl) hl rfl ?_
      refine u_gI E zf_12_4 S6 g1 zw_6_211 (Mo_readsEvent_dc.at 12 rfl) ?_
      obtain ⟨v30, ev30, h⟩ := lt1_e h
      have hv30 := inR_eq ev30 (S6.1.inR _ _)
      refine u_ist_n (y := v30) (vs' := [some (zR G.2.2.1 a0), some (.int (zO v30)), none]) E ev30 (Mo_readsEvent_dc.at 13 rfl) hl (by decide) rfl (fun ls hl => ?_)
      refine u_al_n (x := a0) E (Mo_readsEvent_dc.at 14 rfl) hl rfl ?_
      refine r_sipush E (Mo_readsEvent_dc.at 15 rfl) rfl ?_
      obtain ⟨M32, r31, er31, h⟩ := bd2_e h
      refine u_cVI (As := [.int (zO 399)]) (rest := []) E S6 zcw_yX12_takesNumber zw_7_183 zq_4_5 zw_7_181 zck_12.1 rfl g1 (Mo_takesNumber_c l G fu top L M5 a0 399 ha0 (show InR 399 by decide) er31) (zrm_ok (by decide) (by decide)) ⟨Nat.le_refl 0, Nat.le_refl 0⟩ rfl (Nat.zero_le 8) hl.size rfl (Mo_readsEvent_dc.at 16 rfl) (fun H locs hr31 S33 => ?_)
      refine u_ist_n (y := r31) (vs' := [some (zR G.2.2.1 a0), some (.int (zO v30)), some (.int (zO r31))]) E rfl (Mo_readsEvent_dc.at 17 rfl) hl (by decide) rfl (fun ls hl => ?_)
      refine u_al_n (x := a0) E (Mo_readsEvent_dc.at 18 rfl) hl rfl ?_
      refine u_gI E zf_12_5 S33 g1 zw_6_212 (Mo_readsEvent_dc.at 19 rfl) ?_
      refine r_iconst E (Mo_readsEvent_dc.at 20 rfl) ?_
      refine r_icmp_ne (tgt := 57) E (S33.1.inR _ _) (show InR (-1) by decide) (Mo_readsEvent_dc.at 21 rfl) (by decide) (fun q => ?_) (fun q => ?_)
      · have h := ite_t h q
        refine u_il_n (x := r31) E (Mo_readsEvent_dc.at 22 rfl) hl rfl ?_
        refine u_al_n (x := a0) E (Mo_readsEvent_dc.at 23 rfl) hl rfl ?_
        refine u_gI E zf_12_17 S33 g1 zw_6_224 (Mo_readsEvent_dc.at 24 rfl) ?_
        refine r_icmp_ge (tgt := 57) E hr31 (S33.1.inR _ _) (Mo_readsEvent_dc.at 25 rfl) (by decide) (fun q => ?_) (fun q => ?_)
        · have h := ite_t h q
          refine u_al_n (x := a0) E (Mo_readsEvent_dc.at 26 rfl) hl rfl ?_
          refine u_il_n (x := v30) E (Mo_readsEvent_dc.at 27 rfl) hl rfl ?_
          obtain ⟨M34, eM34, h⟩ := lt1_e h
          refine u_pI E eM34 zf_12_5 S33 g1 hv30 (Or.inl rfl) rfl zw_6_212 (Mo_readsEvent_dc.at 28 rfl) (fun H locs S35 => ?_)
          exact Mo_readsEvent_b57_w (x0 := a0) (x2 := r31)  E ha0 hr31 S35 (hl.sub (And.intro rfl (And.intro rfl True.intro))) h
        · have h := ite_f h q
          exact Mo_readsEvent_b57_w (x0 := a0) (x2 := r31)  E ha0 hr31 S33 (hl.sub (And.intro rfl (And.intro rfl True.intro))) h
      · have h := ite_f h q
        exact Mo_readsEvent_b57_w (x0 := a0) (x2 := r31)  E ha0 hr31 S33 (hl.sub (And.intro rfl (And.intro rfl True.intro))) h
theorem Mo_readsEvent_c (l : Launch) (G : zG) (fu : Nat) (top : Int) (L : zL) (M : zM) (a0 : Int) {res : zM} (ha0 : InR a0) (h : Mo_readsEvent fu L M a0 = some res) : Met l yX12_readsEvent (Cond.code yX12_readsEvent cX12_readsEvent 3 none :: zTB) (zrm 9 0 0) (va_Pc [zR G.2.2.1 a0] (zPre G top L M)) (zQ G top L res none True) 0 0 (zA G) :=
  z_met (by decide +kernel) (by simp [zR_cat, zcat_I, zcat_S]) (Nat.le_of_ble_eq_true rfl) fun p e s m below meth c ls E hn S hl => Mo_readsEvent_w E ha0 S (hl.sub (And.intro rfl True.intro)) h
end
theorem Mo_readsStory_dc : zDL cX12_readsStory [(0, .aload_n 0, 1, 1), (1, .invokevirtual 153, 3, 4), (4, .aload_n 0, 1, 5), (5, .iconst 0, 1, 6), (6, .putfield 221, 3, 9), (9, .aload_n 0, 1, 10), (10, .iconst 0, 1, 11), (11, .putfield 225, 3, 14), (14, .aload_n 0, 1, 15), (15, .invokevirtual 233, 3, 18), (18, .aload_n 0, 1, 19), (19, .bipush 59, 2, 21), (21, .invokevirtual 159, 3, 24), (24, .ifCond .eq 10, 3, 27), (27, .aload_n 0, 1, 28), (28, .invokevirtual 233, 3, 31), (31, .goto (-13), 3, 34), (34, .aload_n 0, 1, 35), (35, .invokevirtual 162, 3, 38), (38, .aload_n 0, 1, 39), (39, .getfield 110, 3, 42), (42, .ireturn, 1, 43)] := zDL.of (by decide +kernel)
section
variable {p : Program} {l : Launch} {e : Env} {s : State} {m : MethodId} {args : Array Value} {below : List Frame} {meth : Method} {c : Code} {G : zG} {top : Int} {L : zL} {fu : Nat}
theorem Mo_readsStory_s18_w (E : zEv p m c cX12_readsStory 1 s args RX12 meth (some .int) G) {res : (zM × Int)} {k18 : zM → Int → Option (zM × Int)} (hk18 : ∀ (M : zM) (x0 : Int), InR x0 → ∀ (H : Heap) (locs : List Loc) (ls : Array Slot), zS G top L M s H locs → zLV ls 1 [some (zR G.2.2.1 x0)] → k18 M x0 = some res → W p l e (zrm 10 0 0) s m args below meth c H locs 0 0 (MQ below (zQ G top L res.1 (some (.int (zO res.2))) (InR res.2)) args s 0 0 (zA G)) (F0 m 18 ls [])) {M : zM} {x0 : Int} {H : Heap} {locs : List Loc} {ls : Array Slot} (hx0 : InR x0) (S : zS G top L M s H locs) (hl : zLV ls 1 [some (zR G.2.2.1 x0)]) (h : Mo_readsStory_s18 fu k18 L M x0 = some res) : W p l e (zrm 10 0 0) s m args below meth c H locs 0 0 (MQ below (zQ G top L res.1 (some (.int (zO res.2))) (InR res.2)) args s 0 0 (zA G)) (F0 m 18 ls []) := by
  unfold Mo_readsStory_s18 at h
  refine u_al_n (x := x0) E (Mo_readsStory_dc.at 10 rfl) hl rfl ?_
  refine r_bipush E (Mo_readsStory_dc.at 11 rfl) rfl ?_
  obtain ⟨g10, h⟩ := ite_e h
  obtain ⟨M12, r11, er11, h⟩ := bd2_e h
  refine u_cVI (As := [.int (zO 59)]) (rest := []) E S zcw_yX12_takesSign zw_7_198 zq_4_8 zw_7_196 zck_12.1 rfl g10 (Mo_takesSign_c l G fu top L M x0 59 hx0 (show InR 59 by decide) er11) (zrm_ok (by decide) (by decide)) ⟨Nat.le_refl 0, Nat.le_refl 0⟩ rfl (Nat.zero_le 8) hl.size rfl (Mo_readsStory_dc.at 12 rfl) (fun H locs hr11 S13 => ?_)
  refine r_if_eq (tgt := 34) E (inR_01 hr11) (Mo_readsStory_dc.at 13 rfl) (by decide) (fun q => ?_) (fun q => ?_)
  · have h := ite_t h q
    refine u_al_n (x := x0) E (Mo_readsStory_dc.at 17 rfl) hl rfl ?_
    obtain ⟨M14, eM14, h⟩ := bd1_e h
    refine u_cVU (As := []) (rest := []) E S13 zcw_yX12_mustEnd zw_7_206 zq_4_10 zw_7_204 zck_12.1 rfl g10 (Mo_mustEnd_c l G fu top L M12 x0 hx0 eM14) (zrm_ok (by decide) (by decide)) ⟨Nat.le_refl 0, Nat.le_refl 0⟩ rfl (Nat.zero_le 8) hl.size rfl (Mo_readsStory_dc.at 18 rfl) (fun H locs _ S15 => ?_)
    refine u_al_n (x := x0) E (Mo_readsStory_dc.at 19 rfl) hl rfl ?_
    refine u_gI E zf_12_5 S15 g10 zw_6_212 (Mo_readsStory_dc.at 20 rfl) ?_
    cases h
    exact r_iret E S15 (S15.1.inR _ _) (Mo_readsStory_dc.at 21 rfl)
  · have h := ite_f h q
    refine u_al_n (x := x0) E (Mo_readsStory_dc.at 14 rfl) hl rfl ?_
    obtain ⟨M16, eM16, h⟩ := bd1_e h
    refine u_cVU (As := []) (rest := []) E S13 zcw_yX12_readsEvent zw_8_25 zq_5_6 zw_8_23 zck_12.1 rfl g10 (Mo_readsEvent_c l G fu top L M12 x0 hx0 eM16) (zrm_ok (by decide) (by decide)) ⟨Nat.le_refl 0, Nat.le_refl 0⟩ rfl (Nat.zero_le 8) hl.size rfl (Mo_readsStory_dc.at 15 rfl) (fun H locs _ S17 => ?_)
    refine r_goto (tgt := 18) E (Mo_readsStory_dc.at 16 rfl) (by decide) ?_
    exact hk18 _ x0 hx0 _ _ _ S17 (hl.sub (And.intro rfl True.intro)) h
theorem Mo_readsStory_l18_w (E : zEv p m c cX12_readsStory 1 s args RX12 meth (some .int) G) {res : (zM × Int)} : ∀ (n : Nat) (M : zM) (x0 : Int), InR x0 → ∀ (H : Heap) (locs : List Loc) (ls : Array Slot), zS G top L M s H locs → zLV ls 1 [some (zR G.2.2.1 x0)] → Mo_readsStory_l18 fu L n M x0 = some res → W p l e (zrm 10 0 0) s m args below meth c H locs 0 0 (MQ below (zQ G top L res.1 (some (.int (zO res.2))) (InR res.2)) args s 0 0 (zA G)) (F0 m 18 ls [])
  | 0, _, _ => fun _ _ _ _ _ _ h => (by cases h)
  | n + 1, M, x0 => fun hx0 H locs ls S hl h => Mo_readsStory_s18_w E (fun M x0 hx0 H locs ls S hl h => Mo_readsStory_l18_w E n M x0 hx0 H locs ls S hl h) hx0 S hl h
theorem Mo_readsStory_w (E : zEv p m c cX12_readsStory 1 s args RX12 meth (some .int) G) {res : (zM × Int)} {M : zM} {a0 : Int} {H : Heap} {locs : List Loc} {ls : Array Slot} (ha0 : InR a0) (S : zS G top L M s H locs) (hl : zLV ls 1 [some (zR G.2.2.1 a0)]) (h : Mo_readsStory fu L M a0 = some res) : W p l e (zrm 10 0 0) s m args below meth c H locs 0 0 (MQ below (zQ G top L res.1 (some (.int (zO res.2))) (InR res.2)) args s 0 0 (zA G)) (F0 m 0 ls []) := by
  unfold Mo_readsStory at h
  refine u_al_n (x := a0) E (Mo_readsStory_dc.at 0 rfl) hl rfl ?_
  obtain ⟨g1, h⟩ := ite_e h
  obtain ⟨M2, eM2, h⟩ := bd1_e h
  refine u_cVU (As := []) (rest := []) E S zcw_yX12_begins zw_7_147 zq_3_14 zw_7_145 zck_12.1 rfl g1 (Mo_begins_c l G fu top L M a0 ha0 eM2) (zrm_ok (by decide) (by decide)) ⟨Nat.le_refl 0, Nat.le_refl 0⟩ rfl (Nat.zero_le 8) hl.size rfl (Mo_readsStory_dc.at 1 rfl) (fun H locs _ S3 => ?_)
  refine u_al_n (x := a0) E (Mo_readsStory_dc.at 2 rfl) hl rfl ?_
  refine r_iconst E (Mo_readsStory_dc.at 3 rfl) ?_
  obtain ⟨M4, eM4, h⟩ := lt1_e h
  refine u_pI E eM4 zf_12_16 S3 g1 (show InR 0 by decide) (Or.inl rfl) rfl zw_6_223 (Mo_readsStory_dc.at 4 rfl) (fun H locs S5 => ?_)
  refine u_al_n (x := a0) E (Mo_readsStory_dc.at 5 rfl) hl rfl ?_
  refine r_iconst E (Mo_readsStory_dc.at 6 rfl) ?_
  obtain ⟨M6, eM6, h⟩ := lt1_e h
  refine u_pI E eM6 zf_12_17 S5 g1 (show InR 0 by decide) (Or.inl rfl) rfl zw_6_224 (Mo_readsStory_dc.at 7 rfl) (fun H locs S7 => ?_)
  refine u_al_n (x := a0) E (Mo_readsStory_dc.at 8 rfl) hl rfl ?_
  obtain ⟨M8, eM8, h⟩ := bd1_e h
  refine u_cVU (As := []) (rest := []) E S7 zcw_yX12_readsEvent zw_8_25 zq_5_6 zw_8_23 zck_12.1 rfl g1 (Mo_readsEvent_c l G fu top L M6 a0 ha0 eM8) (zrm_ok (by decide) (by decide)) ⟨Nat.le_refl 0, Nat.le_refl 0⟩ rfl (Nat.zero_le 8) hl.size rfl (Mo_readsStory_dc.at 9 rfl) (fun H locs _ S9 => ?_)
  exact Mo_readsStory_l18_w E fu _ a0 ha0 _ _ _ S9 (hl.sub (And.intro rfl True.intro)) h
theorem Mo_readsStory_c (l : Launch) (G : zG) (fu : Nat) (top : Int) (L : zL) (M : zM) (a0 : Int) {res : (zM × Int)} (ha0 : InR a0) (h : Mo_readsStory fu L M a0 = some res) : Met l yX12_readsStory (Cond.code yX12_readsStory cX12_readsStory 1 (some .int) :: zTB) (zrm 10 0 0) (va_Pc [zR G.2.2.1 a0] (zPre G top L M)) (zQ G top L res.1 (some (.int (zO res.2))) (InR res.2)) 0 0 (zA G) :=
  z_met (by decide +kernel) (by simp [zR_cat, zcat_I, zcat_S]) (Nat.le_of_ble_eq_true rfl) fun p e s m below meth c ls E hn S hl => Mo_readsStory_w E ha0 S (hl.sub (And.intro rfl True.intro)) h
end
theorem Mo_fault_dc : zDL cX12_fault [(0, .aload_n 0, 1, 1), (1, .iconst 0, 1, 2), (2, .putfield 66, 3, 5), (5, .iload_n 1, 1, 6), (6, .i2l, 1, 7), (7, .lconst 0, 1, 8), (8, .ldc2_w 236, 3, 11), (11, .invokestatic 76, 3, 14), (14, .ifCond .eq 14, 3, 17), (17, .iload_n 1, 1, 18), (18, .ifCond .le 13, 3, 21), (21, .aload_n 0, 1, 22), (22, .getfield 238, 3, 25), (25, .ifCond .ne 6, 3, 28), (28, .bipush (-2), 2, 30), (30, .ireturn, 1, 31), (31, .iload_n 1, 1, 32), (32, .ifCond .ne 10, 3, 35), (35, .aload_n 0, 1, 36), (36, .invokevirtual 242, 3, 39), (39, .goto 19, 3, 42), (42, .iload_n 1, 1, 43), (43, .iconst 1, 1, 44), (44, .if_icmp .ne 10, 3, 47), (47, .aload_n 0, 1, 48), (48, .invokevirtual 245, 3, 51), (51, .goto 7, 3, 54), (54, .aload_n 0, 1, 55), (55, .invokevirtual 248, 3, 58), (58, .ireturn, 1, 59)] := zDL.of (by decide +kernel)
section
variable {p : Program} {l : Launch} {e : Env} {s : State} {m : MethodId} {args : Array Value} {below : List Frame} {meth : Method} {c : Code} {G : zG} {top : Int} {L : zL} {fu : Nat}
theorem Mo_fault_b31_w (E : zEv p m c cX12_fault 2 s args RX12 meth (some .int) G) {res : (zM × Int)} {M : zM} {x0 : Int} {x1 : Int} {H : Heap} {locs : List Loc} {ls : Array Slot} (hx0 : InR x0) (hx1 : InR x1) (S : zS G top L M s H locs) (hl : zLV ls 2 [some (zR G.2.2.1 x0), some (.int (zO x1))]) (h : Mo_fault_b31 fu L M x0 x1 = some res) : W p l e (zrm 52 0 0) s m args below meth c H locs 0 0 (MQ below (zQ G top L res.1 (some (.int (zO res.2))) (InR res.2)) args s 0 0 (zA G)) (F0 m 31 ls []) := by
  unfold Mo_fault_b31 at h
  refine u_il_n (x := x1) E (Mo_fault_dc.at 16 rfl) hl rfl ?_
  refine r_if_ne (tgt := 42) E hx1 (Mo_fault_dc.at 17 rfl) (by decide) (fun q => ?_) (fun q => ?_)
  · have h := ite_t h q
    refine u_al_n (x := x0) E (Mo_fault_dc.at 18 rfl) hl rfl ?_
    obtain ⟨g6, h⟩ := ite_e h
    obtain ⟨M8, r7, er7, h⟩ := bd2_e h
    refine u_cVI (As := []) (rest := []) E S zcw_yX12_readsFamily zw_7_143 zq_3_13 zw_7_141 zck_12.1 rfl g6 (Mo_readsFamily_c l G fu top L M x0 hx0 er7) (zrm_ok (by decide) (by decide)) ⟨Nat.le_refl 0, Nat.le_refl 0⟩ rfl (Nat.zero_le 8) hl.size rfl (Mo_fault_dc.at 19 rfl) (fun H locs hr7 S9 => ?_)
    refine r_goto (tgt := 58) E (Mo_fault_dc.at 20 rfl) (by decide) ?_
    cases h
    exact r_iret E S9 hr7 (Mo_fault_dc.at 29 rfl)
  · have h := ite_f h q
    refine u_il_n (x := x1) E (Mo_fault_dc.at 21 rfl) hl rfl ?_
    refine r_iconst E (Mo_fault_dc.at 22 rfl) ?_
    refine r_icmp_ne (tgt := 54) E hx1 (show InR 1 by decide) (Mo_fault_dc.at 23 rfl) (by decide) (fun q => ?_) (fun q => ?_)
    · have h := ite_t h q
      refine u_al_n (x := x0) E (Mo_fault_dc.at 24 rfl) hl rfl ?_
      obtain ⟨g10, h⟩ := ite_e h
      obtain ⟨M12, r11, er11, h⟩ := bd2_e h
      refine u_cVI (As := []) (rest := []) E S zcw_yX12_readsGift zw_7_210 zq_4_11 zw_7_208 zck_12.1 rfl g10 (Mo_readsGift_c l G fu top L M x0 hx0 er11) (zrm_ok (by decide) (by decide)) ⟨Nat.le_refl 0, Nat.le_refl 0⟩ rfl (Nat.zero_le 8) hl.size rfl (Mo_fault_dc.at 25 rfl) (fun H locs hr11 S13 => ?_)
      refine r_goto (tgt := 58) E (Mo_fault_dc.at 26 rfl) (by decide) ?_
      cases h
      exact r_iret E S13 hr11 (Mo_fault_dc.at 29 rfl)
    · have h := ite_f h q
      refine u_al_n (x := x0) E (Mo_fault_dc.at 27 rfl) hl rfl ?_
      obtain ⟨g14, h⟩ := ite_e h
      obtain ⟨M16, r15, er15, h⟩ := bd2_e h
      refine u_cVI (As := []) (rest := []) E S zcw_yX12_readsStory zw_8_21 zq_5_5 zw_8_19 zck_12.1 rfl g14 (Mo_readsStory_c l G fu top L M x0 hx0 er15) (zrm_ok (by decide) (by decide)) ⟨Nat.le_refl 0, Nat.le_refl 0⟩ rfl (Nat.zero_le 8) hl.size rfl (Mo_fault_dc.at 28 rfl) (fun H locs hr15 S17 => ?_)
      cases h
      exact r_iret E S17 hr15 (Mo_fault_dc.at 29 rfl)
theorem Mo_fault_w (E : zEv p m c cX12_fault 2 s args RX12 meth (some .int) G) {res : (zM × Int)} {M : zM} {a0 : Int} {a1 : Int} {H : Heap} {locs : List Loc} {ls : Array Slot} (ha0 : InR a0) (ha1 : InR a1) (S : zS G top L M s H locs) (hl : zLV ls 2 [some (zR G.2.2.1 a0), some (.int (zO a1))]) (h : Mo_fault fu L M a0 a1 = some res) : W p l e (zrm 52 0 0) s m args below meth c H locs 0 0 (MQ below (zQ G top L res.1 (some (.int (zO res.2))) (InR res.2)) args s 0 0 (zA G)) (F0 m 0 ls []) := by
  unfold Mo_fault at h
  refine u_al_n (x := a0) E (Mo_fault_dc.at 0 rfl) hl rfl ?_
  refine r_iconst E (Mo_fault_dc.at 1 rfl) ?_
  obtain ⟨g1, h⟩ := ite_e h
  obtain ⟨M2, eM2, h⟩ := lt1_e h
  refine u_pI E eM2 zf_12_0 S g1 (show InR 0 by decide) (Or.inl rfl) rfl zw_6_207 (Mo_fault_dc.at 2 rfl) (fun H locs S3 => ?_)
  refine u_il_n (x := a1) E (Mo_fault_dc.at 3 rfl) hl rfl ?_
  refine r_i2l E ha1 (Mo_fault_dc.at 4 rfl) ?_
  refine r_lconst (x := 0) E (Mo_fault_dc.at 5 rfl) rfl ?_
  refine r_ldc2 (x := 2) E (Mo_fault_dc.at 6 rfl) zw_7_140 rfl ?_
  obtain ⟨r4, er4, h⟩ := bd1_e h
  refine u_cSI (As := [.long (Int64.ofInt a1), .long (Int64.ofInt 0), .long (Int64.ofInt 2)]) (rest := []) E S3 zcw_yX12_in zw_7_134 zw_7_133 (Mo_in_c l G fu top L M2 a1 0 2 ha1 (show InR 0 by decide) (show InR 2 by decide) er4) (zrm_ok (by decide) (by decide)) ⟨Nat.le_refl 0, Nat.le_refl 0⟩ rfl (Nat.zero_le 8) hl.size rfl (Mo_fault_dc.at 7 rfl) (fun H locs hr4 S5 => ?_)
  refine r_if_eq (tgt := 28) E (inR_01 hr4) (Mo_fault_dc.at 8 rfl) (by decide) (fun q => ?_) (fun q => ?_)
  · have h := ite_t h q
    refine r_bipush E (Mo_fault_dc.at 14 rfl) rfl ?_
    cases h
    exact r_iret E S5 (show InR (-2) by decide) (Mo_fault_dc.at 15 rfl)
  · have h := ite_f h q
    refine u_il_n (x := a1) E (Mo_fault_dc.at 9 rfl) hl rfl ?_
    refine r_if_le (tgt := 31) E ha1 (Mo_fault_dc.at 10 rfl) (by decide) (fun q => ?_) (fun q => ?_)
    · have h := ite_t h q
      refine u_al_n (x := a0) E (Mo_fault_dc.at 11 rfl) hl rfl ?_
      refine u_gI E zf_12_19 S5 g1 zw_6_226 (Mo_fault_dc.at 12 rfl) ?_
      refine r_if_ne (tgt := 31) E (S5.1.inR _ _) (Mo_fault_dc.at 13 rfl) (by decide) (fun q => ?_) (fun q => ?_)
      · have h := ite_t h q
        refine r_bipush E (Mo_fault_dc.at 14 rfl) rfl ?_
        cases h
        exact r_iret E S5 (show InR (-2) by decide) (Mo_fault_dc.at 15 rfl)
      · have h := ite_f h q
        exact Mo_fault_b31_w (x0 := a0) (x1 := a1)  E ha0 ha1 S5 (hl.sub (And.intro rfl (And.intro rfl True.intro))) h
    · have h := ite_f h q
      exact Mo_fault_b31_w (x0 := a0) (x1 := a1)  E ha0 ha1 S5 (hl.sub (And.intro rfl (And.intro rfl True.intro))) h
theorem Mo_fault_c (l : Launch) (G : zG) (fu : Nat) (top : Int) (L : zL) (M : zM) (a0 : Int) (a1 : Int) {res : (zM × Int)} (ha0 : InR a0) (ha1 : InR a1) (h : Mo_fault fu L M a0 a1 = some res) : Met l yX12_fault (Cond.code yX12_fault cX12_fault 2 (some .int) :: zTB) (zrm 52 0 0) (va_Pc [zR G.2.2.1 a0, .int (zO a1)] (zPre G top L M)) (zQ G top L res.1 (some (.int (zO res.2))) (InR res.2)) 0 0 (zA G) :=
  z_met (by decide +kernel) (by simp [zR_cat, zcat_I, zcat_S]) (Nat.le_of_ble_eq_true rfl) fun p e s m below meth c ls E hn S hl => Mo_fault_w E ha0 ha1 S (hl.sub (And.intro rfl (And.intro rfl True.intro))) h
end
theorem Mo_beginsWorld_dc : zDL cX12_beginsWorld [(0, .aload_n 1, 1, 1), (1, .iconst 0, 1, 2), (2, .iconst 0, 1, 3), (3, .iastore, 1, 4), (4, .aload_n 1, 1, 5), (5, .iconst 1, 1, 6), (6, .aload_n 0, 1, 7), (7, .getfield 251, 3, 10), (10, .iastore, 1, 11), (11, .iconst 0, 1, 12), (12, .istore_n 2, 1, 13), (13, .iload_n 2, 1, 14), (14, .aload_n 0, 1, 15), (15, .getfield 251, 3, 18), (18, .if_icmp .ge 41, 3, 21), (21, .aload_n 1, 1, 22), (22, .iconst 2, 1, 23), (23, .iload_n 2, 1, 24), (24, .iadd, 1, 25), (25, .aload_n 0, 1, 26), (26, .getfield 37, 3, 29), (29, .iload_n 2, 1, 30), (30, .iaload, 1, 31), (31, .ineg, 1, 32), (32, .iastore, 1, 33), (33, .aload_n 1, 1, 34), (34, .bipush 26, 2, 36), (36, .iload_n 2, 1, 37), (37, .iadd, 1, 38), (38, .ldc 254, 2, 40), (40, .iastore, 1, 41), (41, .aload_n 1, 1, 42), (42, .bipush 50, 2, 44), (44, .iload_n 2, 1, 45), (45, .iadd, 1, 46), (46, .aload_n 0, 1, 47), (47, .getfield 40, 3, 50), (50, .iload_n 2, 1, 51), (51, .iaload, 1, 52), (52, .iastore, 1, 53), (53, .iinc 2 1, 3, 56), (56, .goto (-43), 3, 59), (59, .return_, 1, 60)] := zDL.of (by decide +kernel)
section
variable {p : Program} {l : Launch} {e : Env} {s : State} {m : MethodId} {args : Array Value} {below : List Frame} {meth : Method} {c : Code} {G : zG} {top : Int} {L : zL} {fu : Nat}
theorem Mo_beginsWorld_s13_w (E : zEv p m c cX12_beginsWorld 3 s args RX12 meth none G) {res : zM} {k13 : zM → Int → Int → Int → Option zM} (hk13 : ∀ (M : zM) (x0 : Int) (x1 : Int) (x2 : Int), InR x0 → InR x1 → InR x2 → ∀ (H : Heap) (locs : List Loc) (ls : Array Slot), zS G top L M s H locs → zLV ls 3 [some (zR G.2.2.1 x0), some (zR G.2.2.1 x1), some (.int (zO x2))] → k13 M x0 x1 x2 = some res → W p l e (zrm 1 0 0) s m args below meth c H locs 0 0 (MQ below (zQ G top L res none True) args s 0 0 (zA G)) (F0 m 13 ls [])) {M : zM} {x0 : Int} {x1 : Int} {x2 : Int} {H : Heap} {locs : List Loc} {ls : Array Slot} (hx0 : InR x0) (hx1 : InR x1) (hx2 : InR x2) (S : zS G top L M s H locs) (hl : zLV ls 3 [some (zR G.2.2.1 x0), some (zR G.2.2.1 x1), some (.int (zO x2))]) (h : Mo_beginsWorld_s13 fu k13 L M x0 x1 x2 = some res) : W p l e (zrm 1 0 0) s m args below meth c H locs 0 0 (MQ below (zQ G top L res none True) args s 0 0 (zA G)) (F0 m 13 ls []) := by
  unfold Mo_beginsWorld_s13 at h
  refine u_il_n (x := x2) E (Mo_beginsWorld_dc.at 11 rfl) hl rfl ?_
  refine u_al_n (x := x0) E (Mo_beginsWorld_dc.at 12 rfl) hl rfl ?_
  obtain ⟨g9, h⟩ := ite_e h
  refine u_gI E zf_12_20 S g9 zw_6_227 (Mo_beginsWorld_dc.at 13 rfl) ?_
  refine r_icmp_ge (tgt := 59) E hx2 (S.1.inR _ _) (Mo_beginsWorld_dc.at 14 rfl) (by decide) (fun q => ?_) (fun q => ?_)
  · have h := ite_t h q
    refine u_al_n (x := x1) E (Mo_beginsWorld_dc.at 15 rfl) hl rfl ?_
    refine r_iconst E (Mo_beginsWorld_dc.at 16 rfl) ?_
    refine u_il_n (x := x2) E (Mo_beginsWorld_dc.at 17 rfl) hl rfl ?_
    refine r_iadd E (Mo_beginsWorld_dc.at 18 rfl) ?_
    refine u_al_n (x := x0) E (Mo_beginsWorld_dc.at 19 rfl) hl rfl ?_
    refine u_gR E zf_12_22 S g9 zw_6_229 (Mo_beginsWorld_dc.at 20 rfl) ?_
    refine u_il_n (x := x2) E (Mo_beginsWorld_dc.at 21 rfl) hl rfl ?_
    obtain ⟨g10, h⟩ := ite_e h
    obtain ⟨g11, h⟩ := ite_e h
    refine r_iald E S g10 g11 (Mo_beginsWorld_dc.at 22 rfl) ?_
    refine r_ineg E (Mo_beginsWorld_dc.at 23 rfl) ?_
    obtain ⟨g12, h⟩ := ite_e h
    obtain ⟨g13, h⟩ := ite_e h
    obtain ⟨M14, eM14, h⟩ := lt1_e h
    refine u_iast E eM14 S g12 g13 (inR_w32 _) (Mo_beginsWorld_dc.at 24 rfl) (fun H locs S15 => ?_)
    refine u_al_n (x := x1) E (Mo_beginsWorld_dc.at 25 rfl) hl rfl ?_
    refine r_bipush E (Mo_beginsWorld_dc.at 26 rfl) rfl ?_
    refine u_il_n (x := x2) E (Mo_beginsWorld_dc.at 27 rfl) hl rfl ?_
    refine r_iadd E (Mo_beginsWorld_dc.at 28 rfl) ?_
    refine r_ldc (n := 16777216) E (Mo_beginsWorld_dc.at 29 rfl) zw_8_42 rfl ?_
    obtain ⟨g16, h⟩ := ite_e h
    obtain ⟨M17, eM17, h⟩ := lt1_e h
    refine u_iast E eM17 S15 g12 g16 (show InR 16777216 by decide) (Mo_beginsWorld_dc.at 30 rfl) (fun H locs S18 => ?_)
    refine u_al_n (x := x1) E (Mo_beginsWorld_dc.at 31 rfl) hl rfl ?_
    refine r_bipush E (Mo_beginsWorld_dc.at 32 rfl) rfl ?_
    refine u_il_n (x := x2) E (Mo_beginsWorld_dc.at 33 rfl) hl rfl ?_
    refine r_iadd E (Mo_beginsWorld_dc.at 34 rfl) ?_
    refine u_al_n (x := x0) E (Mo_beginsWorld_dc.at 35 rfl) hl rfl ?_
    refine u_gR E zf_12_23 S18 g9 zw_6_230 (Mo_beginsWorld_dc.at 36 rfl) ?_
    refine u_il_n (x := x2) E (Mo_beginsWorld_dc.at 37 rfl) hl rfl ?_
    obtain ⟨g19, h⟩ := ite_e h
    obtain ⟨g20, h⟩ := ite_e h
    refine r_iald E S18 g19 g20 (Mo_beginsWorld_dc.at 38 rfl) ?_
    obtain ⟨g21, h⟩ := ite_e h
    obtain ⟨M22, eM22, h⟩ := lt1_e h
    refine u_iast E eM22 S18 g12 g21 (S18.1.inR _ _) (Mo_beginsWorld_dc.at 39 rfl) (fun H locs S23 => ?_)
    obtain ⟨v24, ev24, h⟩ := lt1_e h
    have hv24 := inR_eq ev24 (inR_w32 _)
    refine u_iinc (y := v24) (vs' := [some (zR G.2.2.1 x0), some (zR G.2.2.1 x1), some (.int (zO v24))]) E ev24 (Mo_beginsWorld_dc.at 40 rfl) hl rfl (by decide) rfl (fun ls hl => ?_)
    refine r_goto (tgt := 13) E (Mo_beginsWorld_dc.at 41 rfl) (by decide) ?_
    exact hk13 _ x0 x1 v24 hx0 hx1 hv24 _ _ _ S23 (hl.sub (And.intro rfl (And.intro rfl (And.intro rfl True.intro)))) h
  · have h := ite_f h q
    cases h
    exact r_vret E S True.intro (Mo_beginsWorld_dc.at 42 rfl)
theorem Mo_beginsWorld_l13_w (E : zEv p m c cX12_beginsWorld 3 s args RX12 meth none G) {res : zM} : ∀ (n : Nat) (M : zM) (x0 : Int) (x1 : Int) (x2 : Int), InR x0 → InR x1 → InR x2 → ∀ (H : Heap) (locs : List Loc) (ls : Array Slot), zS G top L M s H locs → zLV ls 3 [some (zR G.2.2.1 x0), some (zR G.2.2.1 x1), some (.int (zO x2))] → Mo_beginsWorld_l13 fu L n M x0 x1 x2 = some res → W p l e (zrm 1 0 0) s m args below meth c H locs 0 0 (MQ below (zQ G top L res none True) args s 0 0 (zA G)) (F0 m 13 ls [])
  | 0, _, _, _, _ => fun _ _ _ _ _ _ _ _ h => (by cases h)
  | n + 1, M, x0, x1, x2 => fun hx0 hx1 hx2 H locs ls S hl h => Mo_beginsWorld_s13_w E (fun M x0 x1 x2 hx0 hx1 hx2 H locs ls S hl h => Mo_beginsWorld_l13_w E n M x0 x1 x2 hx0 hx1 hx2 H locs ls S hl h) hx0 hx1 hx2 S hl h
theorem Mo_beginsWorld_w (E : zEv p m c cX12_beginsWorld 3 s args RX12 meth none G) {res : zM} {M : zM} {a0 : Int} {a1 : Int} {H : Heap} {locs : List Loc} {ls : Array Slot} (ha0 : InR a0) (ha1 : InR a1) (S : zS G top L M s H locs) (hl : zLV ls 3 [some (zR G.2.2.1 a0), some (zR G.2.2.1 a1), none]) (h : Mo_beginsWorld fu L M a0 a1 = some res) : W p l e (zrm 1 0 0) s m args below meth c H locs 0 0 (MQ below (zQ G top L res none True) args s 0 0 (zA G)) (F0 m 0 ls []) := by
  unfold Mo_beginsWorld at h
  refine u_al_n (x := a1) E (Mo_beginsWorld_dc.at 0 rfl) hl rfl ?_
  refine r_iconst E (Mo_beginsWorld_dc.at 1 rfl) ?_
  refine r_iconst E (Mo_beginsWorld_dc.at 2 rfl) ?_
  obtain ⟨g1, h⟩ := ite_e h
  obtain ⟨g2, h⟩ := ite_e h
  obtain ⟨M3, eM3, h⟩ := lt1_e h
  refine u_iast E eM3 S g1 g2 (show InR 0 by decide) (Mo_beginsWorld_dc.at 3 rfl) (fun H locs S4 => ?_)
  refine u_al_n (x := a1) E (Mo_beginsWorld_dc.at 4 rfl) hl rfl ?_
  refine r_iconst E (Mo_beginsWorld_dc.at 5 rfl) ?_
  refine u_al_n (x := a0) E (Mo_beginsWorld_dc.at 6 rfl) hl rfl ?_
  obtain ⟨g5, h⟩ := ite_e h
  refine u_gI E zf_12_20 S4 g5 zw_6_227 (Mo_beginsWorld_dc.at 7 rfl) ?_
  obtain ⟨g6, h⟩ := ite_e h
  obtain ⟨M7, eM7, h⟩ := lt1_e h
  refine u_iast E eM7 S4 g1 g6 (S4.1.inR _ _) (Mo_beginsWorld_dc.at 8 rfl) (fun H locs S8 => ?_)
  refine r_iconst E (Mo_beginsWorld_dc.at 9 rfl) ?_
  refine u_ist_n (y := 0) (vs' := [some (zR G.2.2.1 a0), some (zR G.2.2.1 a1), some (.int (zO 0))]) E rfl (Mo_beginsWorld_dc.at 10 rfl) hl (by decide) rfl (fun ls hl => ?_)
  exact Mo_beginsWorld_l13_w E fu _ a0 a1 0 ha0 ha1 (show InR 0 by decide) _ _ _ S8 (hl.sub (And.intro rfl (And.intro rfl (And.intro rfl True.intro)))) h
theorem Mo_beginsWorld_c (l : Launch) (G : zG) (fu : Nat) (top : Int) (L : zL) (M : zM) (a0 : Int) (a1 : Int) {res : zM} (ha0 : InR a0) (ha1 : InR a1) (h : Mo_beginsWorld fu L M a0 a1 = some res) : Met l yX12_beginsWorld (Cond.code yX12_beginsWorld cX12_beginsWorld 3 none :: zTB) (zrm 1 0 0) (va_Pc [zR G.2.2.1 a0, zR G.2.2.1 a1] (zPre G top L M)) (zQ G top L res none True) 0 0 (zA G) :=
  z_met (by decide +kernel) (by simp [zR_cat, zcat_I, zcat_S]) (Nat.le_of_ble_eq_true rfl) fun p e s m below meth c ls E hn S hl => Mo_beginsWorld_w E ha0 ha1 S (hl.sub (And.intro rfl (And.intro rfl True.intro))) h
end
theorem Mo_family_dc : zDL cX12_family [(0, .aload_n 0, 1, 1), (1, .iconst 0, 1, 2), (2, .putfield 66, 3, 5), (5, .aload_n 0, 1, 6), (6, .invokevirtual 242, 3, 9), (9, .iconst (-1), 1, 10), (10, .if_icmp .eq 5, 3, 13), (13, .iconst (-1), 1, 14), (14, .ireturn, 1, 15), (15, .aload_n 0, 1, 16), (16, .iconst 0, 1, 17), (17, .putfield 73, 3, 20), (20, .aload_n 0, 1, 21), (21, .iconst 1, 1, 22), (22, .putfield 238, 3, 25), (25, .aload_n 0, 1, 26), (26, .aload_n 0, 1, 27), (27, .getfield 139, 3, 30), (30, .putfield 251, 3, 33), (33, .iconst 0, 1, 34), (34, .istore_n 1, 1, 35), (35, .iload_n 1, 1, 36), (36, .aload_n 0, 1, 37), (37, .getfield 251, 3, 40), (40, .if_icmp .ge 45, 3, 43), (43, .aload_n 0, 1, 44), (44, .getfield 34, 3, 47), (47, .iload_n 1, 1, 48), (48, .aload_n 0, 1, 49), (49, .getfield 13, 3, 52), (52, .iload_n 1, 1, 53), (53, .iaload, 1, 54), (54, .iastore, 1, 55), (55, .aload_n 0, 1, 56), (56, .getfield 37, 3, 59), (59, .iload_n 1, 1, 60), (60, .aload_n 0, 1, 61), (61, .getfield 16, 3, 64), (64, .iload_n 1, 1, 65), (65, .iaload, 1, 66), (66, .iastore, 1, 67), (67, .aload_n 0, 1, 68), (68, .getfield 40, 3, 71), (71, .iload_n 1, 1, 72), (72, .aload_n 0, 1, 73), (73, .getfield 19, 3, 76), (76, .iload_n 1, 1, 77), (77, .iaload, 1, 78), (78, .iastore, 1, 79), (79, .iinc 1 1, 3, 82), (82, .goto (-47), 3, 85), (85, .iconst 0, 1, 86), (86, .istore_n 1, 1, 87), (87, .iload_n 1, 1, 88), (88, .sipush 2597, 3, 91), (91, .if_icmp .ge 16, 3, 94), (94, .aload_n 0, 1, 95), (95, .getfield 31, 3, 98), (98, .iload_n 1, 1, 99), (99, .iconst 0, 1, 100), (100, .iastore, 1, 101), (101, .iinc 1 1, 3, 104), (104, .goto (-17), 3, 107), (107, .aload_n 0, 1, 108), (108, .aload_n 0, 1, 109), (109, .getfield 31, 3, 112), (112, .invokevirtual 255, 3, 115), (115, .aload_n 0, 1, 116), (116, .getfield 31, 3, 119), (119, .bipush 74, 2, 121), (121, .bipush 21, 2, 123), (123, .iastore, 1, 124), (124, .aload_n 0, 1, 125), (125, .getfield 31, 3, 128), (128, .bipush 75, 2, 130), (130, .bipush 99, 2, 132), (132, .iastore, 1, 133), (133, .aload_n 0, 1, 134), (134, .iconst 0, 1, 135), (135, .putfield 259, 3, 138), (138, .aload_n 0, 1, 139), (139, .iconst 0, 1, 140), (140, .putfield 262, 3, 143), (143, .aload_n 0, 1, 144), (144, .iconst 0, 1, 145), (145, .putfield 265, 3, 148), (148, .aload_n 0, 1, 149), (149, .getfield 251, 3, 152), (152, .ireturn, 1, 153)] := zDL.of (by decide +kernel)
section
variable {p : Program} {l : Launch} {e : Env} {s : State} {m : MethodId} {args : Array Value} {below : List Frame} {meth : Method} {c : Code} {G : zG} {top : Int} {L : zL} {fu : Nat}
theorem Mo_family_s87_w (E : zEv p m c cX12_family 2 s args RX12 meth (some .int) G) {res : (zM × Int)} {k87 : zM → Int → Int → Option (zM × Int)} (hk87 : ∀ (M : zM) (x0 : Int) (x1 : Int), InR x0 → InR x1 → ∀ (H : Heap) (locs : List Loc) (ls : Array Slot), zS G top L M s H locs → zLV ls 2 [some (zR G.2.2.1 x0), some (.int (zO x1))] → k87 M x0 x1 = some res → W p l e (zrm 10 0 0) s m args below meth c H locs 0 0 (MQ below (zQ G top L res.1 (some (.int (zO res.2))) (InR res.2)) args s 0 0 (zA G)) (F0 m 87 ls [])) {M : zM} {x0 : Int} {x1 : Int} {H : Heap} {locs : List Loc} {ls : Array Slot} (hx0 : InR x0) (hx1 : InR x1) (S : zS G top L M s H locs) (hl : zLV ls 2 [some (zR G.2.2.1 x0), some (.int (zO x1))]) (h : Mo_family_s87 fu k87 L M x0 x1 = some res) : W p l e (zrm 10 0 0) s m args below meth c H locs 0 0 (MQ below (zQ G top L res.1 (some (.int (zO res.2))) (InR res.2)) args s 0 0 (zA G)) (F0 m 87 ls []) := by
  unfold Mo_family_s87 at h
  refine u_il_n (x := x1) E (Mo_family_dc.at 53 rfl) hl rfl ?_
  refine r_sipush E (Mo_family_dc.at 54 rfl) rfl ?_
  refine r_icmp_ge (tgt := 107) E hx1 (show InR 2597 by decide) (Mo_family_dc.at 55 rfl) (by decide) (fun q => ?_) (fun q => ?_)
  · have h := ite_t h q
    refine u_al_n (x := x0) E (Mo_family_dc.at 56 rfl) hl rfl ?_
    obtain ⟨g33, h⟩ := ite_e h
    refine u_gR E zf_12_18 S g33 zw_6_225 (Mo_family_dc.at 57 rfl) ?_
    refine u_il_n (x := x1) E (Mo_family_dc.at 58 rfl) hl rfl ?_
    refine r_iconst E (Mo_family_dc.at 59 rfl) ?_
    obtain ⟨g34, h⟩ := ite_e h
    obtain ⟨g35, h⟩ := ite_e h
    obtain ⟨M36, eM36, h⟩ := lt1_e h
    refine u_iast E eM36 S g34 g35 (show InR 0 by decide) (Mo_family_dc.at 60 rfl) (fun H locs S37 => ?_)
    obtain ⟨v38, ev38, h⟩ := lt1_e h
    have hv38 := inR_eq ev38 (inR_w32 _)
    refine u_iinc (y := v38) (vs' := [some (zR G.2.2.1 x0), some (.int (zO v38))]) E ev38 (Mo_family_dc.at 61 rfl) hl rfl (by decide) rfl (fun ls hl => ?_)
    refine r_goto (tgt := 87) E (Mo_family_dc.at 62 rfl) (by decide) ?_
    exact hk87 _ x0 v38 hx0 hv38 _ _ _ S37 (hl.sub (And.intro rfl (And.intro rfl True.intro))) h
  · have h := ite_f h q
    refine u_al_n (x := x0) E (Mo_family_dc.at 63 rfl) hl rfl ?_
    refine u_al_n (x := x0) E (Mo_family_dc.at 64 rfl) hl rfl ?_
    obtain ⟨g39, h⟩ := ite_e h
    refine u_gR E zf_12_18 S g39 zw_6_225 (Mo_family_dc.at 65 rfl) ?_
    obtain ⟨M40, eM40, h⟩ := bd1_e h
    refine u_cVU (As := [zR G.2.2.1 (M x0 18)]) (rest := []) E S zcw_yX12_beginsWorld zw_8_40 zq_5_8 zw_8_38 zck_12.1 rfl g39 (Mo_beginsWorld_c l G fu top L M x0 (M x0 18) hx0 (S.1.inR _ _) eM40) (zrm_ok (by decide) (by decide)) ⟨Nat.le_refl 0, Nat.le_refl 0⟩ rfl (Nat.zero_le 8) hl.size rfl (Mo_family_dc.at 66 rfl) (fun H locs _ S41 => ?_)
    refine u_al_n (x := x0) E (Mo_family_dc.at 67 rfl) hl rfl ?_
    refine u_gR E zf_12_18 S41 g39 zw_6_225 (Mo_family_dc.at 68 rfl) ?_
    refine r_bipush E (Mo_family_dc.at 69 rfl) rfl ?_
    refine r_bipush E (Mo_family_dc.at 70 rfl) rfl ?_
    obtain ⟨g42, h⟩ := ite_e h
    obtain ⟨g43, h⟩ := ite_e h
    obtain ⟨M44, eM44, h⟩ := lt1_e h
    refine u_iast E eM44 S41 g42 g43 (show InR 21 by decide) (Mo_family_dc.at 71 rfl) (fun H locs S45 => ?_)
    refine u_al_n (x := x0) E (Mo_family_dc.at 72 rfl) hl rfl ?_
    refine u_gR E zf_12_18 S45 g39 zw_6_225 (Mo_family_dc.at 73 rfl) ?_
    refine r_bipush E (Mo_family_dc.at 74 rfl) rfl ?_
    refine r_bipush E (Mo_family_dc.at 75 rfl) rfl ?_
    obtain ⟨g46, h⟩ := ite_e h
    obtain ⟨g47, h⟩ := ite_e h
    obtain ⟨M48, eM48, h⟩ := lt1_e h
    refine u_iast E eM48 S45 g46 g47 (show InR 99 by decide) (Mo_family_dc.at 76 rfl) (fun H locs S49 => ?_)
    refine u_al_n (x := x0) E (Mo_family_dc.at 77 rfl) hl rfl ?_
    refine r_iconst E (Mo_family_dc.at 78 rfl) ?_
    obtain ⟨M50, eM50, h⟩ := lt1_e h
    refine u_pI E eM50 zf_12_25 S49 g39 (show InR 0 by decide) (Or.inl rfl) rfl zw_6_232 (Mo_family_dc.at 79 rfl) (fun H locs S51 => ?_)
    refine u_al_n (x := x0) E (Mo_family_dc.at 80 rfl) hl rfl ?_
    refine r_iconst E (Mo_family_dc.at 81 rfl) ?_
    obtain ⟨M52, eM52, h⟩ := lt1_e h
    refine u_pZ E eM52 zf_12_49 S51 g39 z01_0 (Or.inl rfl) rfl zw_7_16 (Mo_family_dc.at 82 rfl) (fun H locs S53 => ?_)
    refine u_al_n (x := x0) E (Mo_family_dc.at 83 rfl) hl rfl ?_
    refine r_iconst E (Mo_family_dc.at 84 rfl) ?_
    obtain ⟨M54, eM54, h⟩ := lt1_e h
    refine u_pZ E eM54 zf_12_38 S53 g39 z01_0 (Or.inl rfl) rfl zw_7_5 (Mo_family_dc.at 85 rfl) (fun H locs S55 => ?_)
    refine u_al_n (x := x0) E (Mo_family_dc.at 86 rfl) hl rfl ?_
    refine u_gI E zf_12_20 S55 g39 zw_6_227 (Mo_family_dc.at 87 rfl) ?_
    cases h
    exact r_iret E S55 (S55.1.inR _ _) (Mo_family_dc.at 88 rfl)
theorem Mo_family_l87_w (E : zEv p m c cX12_family 2 s args RX12 meth (some .int) G) {res : (zM × Int)} : ∀ (n : Nat) (M : zM) (x0 : Int) (x1 : Int), InR x0 → InR x1 → ∀ (H : Heap) (locs : List Loc) (ls : Array Slot), zS G top L M s H locs → zLV ls 2 [some (zR G.2.2.1 x0), some (.int (zO x1))] → Mo_family_l87 fu L n M x0 x1 = some res → W p l e (zrm 10 0 0) s m args below meth c H locs 0 0 (MQ below (zQ G top L res.1 (some (.int (zO res.2))) (InR res.2)) args s 0 0 (zA G)) (F0 m 87 ls [])
  | 0, _, _, _ => fun _ _ _ _ _ _ _ h => (by cases h)
  | n + 1, M, x0, x1 => fun hx0 hx1 H locs ls S hl h => Mo_family_s87_w E (fun M x0 x1 hx0 hx1 H locs ls S hl h => Mo_family_l87_w E n M x0 x1 hx0 hx1 H locs ls S hl h) hx0 hx1 S hl h
theorem Mo_family_s35_w (E : zEv p m c cX12_family 2 s args RX12 meth (some .int) G) {res : (zM × Int)} {k35 : zM → Int → Int → Option (zM × Int)} (hk35 : ∀ (M : zM) (x0 : Int) (x1 : Int), InR x0 → InR x1 → ∀ (H : Heap) (locs : List Loc) (ls : Array Slot), zS G top L M s H locs → zLV ls 2 [some (zR G.2.2.1 x0), some (.int (zO x1))] → k35 M x0 x1 = some res → W p l e (zrm 10 0 0) s m args below meth c H locs 0 0 (MQ below (zQ G top L res.1 (some (.int (zO res.2))) (InR res.2)) args s 0 0 (zA G)) (F0 m 35 ls [])) {M : zM} {x0 : Int} {x1 : Int} {H : Heap} {locs : List Loc} {ls : Array Slot} (hx0 : InR x0) (hx1 : InR x1) (S : zS G top L M s H locs) (hl : zLV ls 2 [some (zR G.2.2.1 x0), some (.int (zO x1))]) (h : Mo_family_s35 fu k35 L M x0 x1 = some res) : W p l e (zrm 10 0 0) s m args below meth c H locs 0 0 (MQ below (zQ G top L res.1 (some (.int (zO res.2))) (InR res.2)) args s 0 0 (zA G)) (F0 m 35 ls []) := by
  unfold Mo_family_s35 at h
  refine u_il_n (x := x1) E (Mo_family_dc.at 21 rfl) hl rfl ?_
  refine u_al_n (x := x0) E (Mo_family_dc.at 22 rfl) hl rfl ?_
  obtain ⟨g13, h⟩ := ite_e h
  refine u_gI E zf_12_20 S g13 zw_6_227 (Mo_family_dc.at 23 rfl) ?_
  refine r_icmp_ge (tgt := 85) E hx1 (S.1.inR _ _) (Mo_family_dc.at 24 rfl) (by decide) (fun q => ?_) (fun q => ?_)
  · have h := ite_t h q
    refine u_al_n (x := x0) E (Mo_family_dc.at 25 rfl) hl rfl ?_
    refine u_gR E zf_12_21 S g13 zw_6_228 (Mo_family_dc.at 26 rfl) ?_
    refine u_il_n (x := x1) E (Mo_family_dc.at 27 rfl) hl rfl ?_
    refine u_al_n (x := x0) E (Mo_family_dc.at 28 rfl) hl rfl ?_
    refine u_gR E zf_12_8 S g13 zw_6_215 (Mo_family_dc.at 29 rfl) ?_
    refine u_il_n (x := x1) E (Mo_family_dc.at 30 rfl) hl rfl ?_
    obtain ⟨g14, h⟩ := ite_e h
    obtain ⟨g15, h⟩ := ite_e h
    refine r_iald E S g14 g15 (Mo_family_dc.at 31 rfl) ?_
    obtain ⟨g16, h⟩ := ite_e h
    obtain ⟨g17, h⟩ := ite_e h
    obtain ⟨M18, eM18, h⟩ := lt1_e h
    refine u_iast E eM18 S g16 g17 (S.1.inR _ _) (Mo_family_dc.at 32 rfl) (fun H locs S19 => ?_)
    refine u_al_n (x := x0) E (Mo_family_dc.at 33 rfl) hl rfl ?_
    refine u_gR E zf_12_22 S19 g13 zw_6_229 (Mo_family_dc.at 34 rfl) ?_
    refine u_il_n (x := x1) E (Mo_family_dc.at 35 rfl) hl rfl ?_
    refine u_al_n (x := x0) E (Mo_family_dc.at 36 rfl) hl rfl ?_
    refine u_gR E zf_12_9 S19 g13 zw_6_216 (Mo_family_dc.at 37 rfl) ?_
    refine u_il_n (x := x1) E (Mo_family_dc.at 38 rfl) hl rfl ?_
    obtain ⟨g20, h⟩ := ite_e h
    obtain ⟨g21, h⟩ := ite_e h
    refine r_iald E S19 g20 g21 (Mo_family_dc.at 39 rfl) ?_
    obtain ⟨g22, h⟩ := ite_e h
    obtain ⟨g23, h⟩ := ite_e h
    obtain ⟨M24, eM24, h⟩ := lt1_e h
    refine u_iast E eM24 S19 g22 g23 (S19.1.inR _ _) (Mo_family_dc.at 40 rfl) (fun H locs S25 => ?_)
    refine u_al_n (x := x0) E (Mo_family_dc.at 41 rfl) hl rfl ?_
    refine u_gR E zf_12_23 S25 g13 zw_6_230 (Mo_family_dc.at 42 rfl) ?_
    refine u_il_n (x := x1) E (Mo_family_dc.at 43 rfl) hl rfl ?_
    refine u_al_n (x := x0) E (Mo_family_dc.at 44 rfl) hl rfl ?_
    refine u_gR E zf_12_10 S25 g13 zw_6_217 (Mo_family_dc.at 45 rfl) ?_
    refine u_il_n (x := x1) E (Mo_family_dc.at 46 rfl) hl rfl ?_
    obtain ⟨g26, h⟩ := ite_e h
    obtain ⟨g27, h⟩ := ite_e h
    refine r_iald E S25 g26 g27 (Mo_family_dc.at 47 rfl) ?_
    obtain ⟨g28, h⟩ := ite_e h
    obtain ⟨g29, h⟩ := ite_e h
    obtain ⟨M30, eM30, h⟩ := lt1_e h
    refine u_iast E eM30 S25 g28 g29 (S25.1.inR _ _) (Mo_family_dc.at 48 rfl) (fun H locs S31 => ?_)
    obtain ⟨v32, ev32, h⟩ := lt1_e h
    have hv32 := inR_eq ev32 (inR_w32 _)
    refine u_iinc (y := v32) (vs' := [some (zR G.2.2.1 x0), some (.int (zO v32))]) E ev32 (Mo_family_dc.at 49 rfl) hl rfl (by decide) rfl (fun ls hl => ?_)
    refine r_goto (tgt := 35) E (Mo_family_dc.at 50 rfl) (by decide) ?_
    exact hk35 _ x0 v32 hx0 hv32 _ _ _ S31 (hl.sub (And.intro rfl (And.intro rfl True.intro))) h
  · have h := ite_f h q
    refine r_iconst E (Mo_family_dc.at 51 rfl) ?_
    refine u_ist_n (y := 0) (vs' := [some (zR G.2.2.1 x0), some (.int (zO 0))]) E rfl (Mo_family_dc.at 52 rfl) hl (by decide) rfl (fun ls hl => ?_)
    exact Mo_family_l87_w E fu _ x0 0 hx0 (show InR 0 by decide) _ _ _ S (hl.sub (And.intro rfl (And.intro rfl True.intro))) h
theorem Mo_family_l35_w (E : zEv p m c cX12_family 2 s args RX12 meth (some .int) G) {res : (zM × Int)} : ∀ (n : Nat) (M : zM) (x0 : Int) (x1 : Int), InR x0 → InR x1 → ∀ (H : Heap) (locs : List Loc) (ls : Array Slot), zS G top L M s H locs → zLV ls 2 [some (zR G.2.2.1 x0), some (.int (zO x1))] → Mo_family_l35 fu L n M x0 x1 = some res → W p l e (zrm 10 0 0) s m args below meth c H locs 0 0 (MQ below (zQ G top L res.1 (some (.int (zO res.2))) (InR res.2)) args s 0 0 (zA G)) (F0 m 35 ls [])
  | 0, _, _, _ => fun _ _ _ _ _ _ _ h => (by cases h)
  | n + 1, M, x0, x1 => fun hx0 hx1 H locs ls S hl h => Mo_family_s35_w E (fun M x0 x1 hx0 hx1 H locs ls S hl h => Mo_family_l35_w E n M x0 x1 hx0 hx1 H locs ls S hl h) hx0 hx1 S hl h
theorem Mo_family_w (E : zEv p m c cX12_family 2 s args RX12 meth (some .int) G) {res : (zM × Int)} {M : zM} {a0 : Int} {H : Heap} {locs : List Loc} {ls : Array Slot} (ha0 : InR a0) (S : zS G top L M s H locs) (hl : zLV ls 2 [some (zR G.2.2.1 a0), none]) (h : Mo_family fu L M a0 = some res) : W p l e (zrm 10 0 0) s m args below meth c H locs 0 0 (MQ below (zQ G top L res.1 (some (.int (zO res.2))) (InR res.2)) args s 0 0 (zA G)) (F0 m 0 ls []) := by
  unfold Mo_family at h
  refine u_al_n (x := a0) E (Mo_family_dc.at 0 rfl) hl rfl ?_
  refine r_iconst E (Mo_family_dc.at 1 rfl) ?_
  obtain ⟨g1, h⟩ := ite_e h
  obtain ⟨M2, eM2, h⟩ := lt1_e h
  refine u_pI E eM2 zf_12_0 S g1 (show InR 0 by decide) (Or.inl rfl) rfl zw_6_207 (Mo_family_dc.at 2 rfl) (fun H locs S3 => ?_)
  refine u_al_n (x := a0) E (Mo_family_dc.at 3 rfl) hl rfl ?_
  obtain ⟨M5, r4, er4, h⟩ := bd2_e h
  refine u_cVI (As := []) (rest := []) E S3 zcw_yX12_readsFamily zw_7_143 zq_3_13 zw_7_141 zck_12.1 rfl g1 (Mo_readsFamily_c l G fu top L M2 a0 ha0 er4) (zrm_ok (by decide) (by decide)) ⟨Nat.le_refl 0, Nat.le_refl 0⟩ rfl (Nat.zero_le 8) hl.size rfl (Mo_family_dc.at 4 rfl) (fun H locs hr4 S6 => ?_)
  refine r_iconst E (Mo_family_dc.at 5 rfl) ?_
  refine r_icmp_eq (tgt := 15) E hr4 (show InR (-1) by decide) (Mo_family_dc.at 6 rfl) (by decide) (fun q => ?_) (fun q => ?_)
  · have h := ite_t h q
    refine u_al_n (x := a0) E (Mo_family_dc.at 9 rfl) hl rfl ?_
    refine r_iconst E (Mo_family_dc.at 10 rfl) ?_
    obtain ⟨M7, eM7, h⟩ := lt1_e h
    refine u_pI E eM7 zf_12_2 S6 g1 (show InR 0 by decide) (Or.inl rfl) rfl zw_6_209 (Mo_family_dc.at 11 rfl) (fun H locs S8 => ?_)
    refine u_al_n (x := a0) E (Mo_family_dc.at 12 rfl) hl rfl ?_
    refine r_iconst E (Mo_family_dc.at 13 rfl) ?_
    obtain ⟨M9, eM9, h⟩ := lt1_e h
    refine u_pZ E eM9 zf_12_19 S8 g1 z01_1 (Or.inl rfl) rfl zw_6_226 (Mo_family_dc.at 14 rfl) (fun H locs S10 => ?_)
    refine u_al_n (x := a0) E (Mo_family_dc.at 15 rfl) hl rfl ?_
    refine u_al_n (x := a0) E (Mo_family_dc.at 16 rfl) hl rfl ?_
    refine u_gI E zf_12_11 S10 g1 zw_6_218 (Mo_family_dc.at 17 rfl) ?_
    obtain ⟨M11, eM11, h⟩ := lt1_e h
    refine u_pI E eM11 zf_12_20 S10 g1 (S10.1.inR _ _) (Or.inl rfl) rfl zw_6_227 (Mo_family_dc.at 18 rfl) (fun H locs S12 => ?_)
    refine r_iconst E (Mo_family_dc.at 19 rfl) ?_
    refine u_ist_n (y := 0) (vs' := [some (zR G.2.2.1 a0), some (.int (zO 0))]) E rfl (Mo_family_dc.at 20 rfl) hl (by decide) rfl (fun ls hl => ?_)
    exact Mo_family_l35_w E fu _ a0 0 ha0 (show InR 0 by decide) _ _ _ S12 (hl.sub (And.intro rfl (And.intro rfl True.intro))) h
  · have h := ite_f h q
    refine r_iconst E (Mo_family_dc.at 7 rfl) ?_
    cases h
    exact r_iret E S6 (show InR (-1) by decide) (Mo_family_dc.at 8 rfl)
theorem Mo_family_c (l : Launch) (G : zG) (fu : Nat) (top : Int) (L : zL) (M : zM) (a0 : Int) {res : (zM × Int)} (ha0 : InR a0) (h : Mo_family fu L M a0 = some res) : Met l yX12_family (Cond.code yX12_family cX12_family 2 (some .int) :: zTB) (zrm 10 0 0) (va_Pc [zR G.2.2.1 a0] (zPre G top L M)) (zQ G top L res.1 (some (.int (zO res.2))) (InR res.2)) 0 0 (zA G) :=
  z_met (by decide +kernel) (by simp [zR_cat, zcat_I, zcat_S]) (Nat.le_of_ble_eq_true rfl) fun p e s m below meth c ls E hn S hl => Mo_family_w E ha0 S (hl.sub (And.intro rfl True.intro)) h
end
theorem Mo_undo_dc : zDL cX12_undo [(0, .aload_n 0, 1, 1), (1, .iconst 0, 1, 2), (2, .putfield 66, 3, 5), (5, .aload_n 0, 1, 6), (6, .getfield 259, 3, 9), (9, .ifCond .ne 5, 3, 12), (12, .iconst (-1), 1, 13), (13, .ireturn, 1, 14), (14, .aload_n 0, 1, 15), (15, .dup, 1, 16), (16, .getfield 259, 3, 19), (19, .iconst 1, 1, 20), (20, .isub, 1, 21), (21, .putfield 259, 3, 24), (24, .iconst 0, 1, 25), (25, .istore_n 1, 1, 26), (26, .iload_n 1, 1, 27), (27, .sipush 2597, 3, 30), (30, .if_icmp .ge 30, 3, 33), (33, .aload_n 0, 1, 34), (34, .getfield 31, 3, 37), (37, .iload_n 1, 1, 38), (38, .aload_n 0, 1, 39), (39, .getfield 44, 3, 42), (42, .sipush 2597, 3, 45), (45, .aload_n 0, 1, 46), (46, .getfield 259, 3, 49), (49, .imul, 1, 50), (50, .iload_n 1, 1, 51), (51, .iadd, 1, 52), (52, .iaload, 1, 53), (53, .iastore, 1, 54), (54, .iinc 1 1, 3, 57), (57, .goto (-31), 3, 60), (60, .aload_n 0, 1, 61), (61, .getfield 259, 3, 64), (64, .ireturn, 1, 65)] := zDL.of (by decide +kernel)
section
variable {p : Program} {l : Launch} {e : Env} {s : State} {m : MethodId} {args : Array Value} {below : List Frame} {meth : Method} {c : Code} {G : zG} {top : Int} {L : zL} {fu : Nat}
theorem Mo_undo_s26_w (E : zEv p m c cX12_undo 2 s args RX12 meth (some .int) G) {res : (zM × Int)} {k26 : zM → Int → Int → Option (zM × Int)} (hk26 : ∀ (M : zM) (x0 : Int) (x1 : Int), InR x0 → InR x1 → ∀ (H : Heap) (locs : List Loc) (ls : Array Slot), zS G top L M s H locs → zLV ls 2 [some (zR G.2.2.1 x0), some (.int (zO x1))] → k26 M x0 x1 = some res → W p l e (zrm 1 0 0) s m args below meth c H locs 0 0 (MQ below (zQ G top L res.1 (some (.int (zO res.2))) (InR res.2)) args s 0 0 (zA G)) (F0 m 26 ls [])) {M : zM} {x0 : Int} {x1 : Int} {H : Heap} {locs : List Loc} {ls : Array Slot} (hx0 : InR x0) (hx1 : InR x1) (S : zS G top L M s H locs) (hl : zLV ls 2 [some (zR G.2.2.1 x0), some (.int (zO x1))]) (h : Mo_undo_s26 fu k26 L M x0 x1 = some res) : W p l e (zrm 1 0 0) s m args below meth c H locs 0 0 (MQ below (zQ G top L res.1 (some (.int (zO res.2))) (InR res.2)) args s 0 0 (zA G)) (F0 m 26 ls []) := by
  unfold Mo_undo_s26 at h
  refine u_il_n (x := x1) E (Mo_undo_dc.at 16 rfl) hl rfl ?_
  refine r_sipush E (Mo_undo_dc.at 17 rfl) rfl ?_
  refine r_icmp_ge (tgt := 60) E hx1 (show InR 2597 by decide) (Mo_undo_dc.at 18 rfl) (by decide) (fun q => ?_) (fun q => ?_)
  · have h := ite_t h q
    refine u_al_n (x := x0) E (Mo_undo_dc.at 19 rfl) hl rfl ?_
    obtain ⟨g6, h⟩ := ite_e h
    refine u_gR E zf_12_18 S g6 zw_6_225 (Mo_undo_dc.at 20 rfl) ?_
    refine u_il_n (x := x1) E (Mo_undo_dc.at 21 rfl) hl rfl ?_
    refine u_al_n (x := x0) E (Mo_undo_dc.at 22 rfl) hl rfl ?_
    refine u_gR E zf_12_24 S g6 zw_6_231 (Mo_undo_dc.at 23 rfl) ?_
    refine r_sipush E (Mo_undo_dc.at 24 rfl) rfl ?_
    refine u_al_n (x := x0) E (Mo_undo_dc.at 25 rfl) hl rfl ?_
    refine u_gI E zf_12_25 S g6 zw_6_232 (Mo_undo_dc.at 26 rfl) ?_
    refine r_imul E (Mo_undo_dc.at 27 rfl) ?_
    refine u_il_n (x := x1) E (Mo_undo_dc.at 28 rfl) hl rfl ?_
    refine r_iadd E (Mo_undo_dc.at 29 rfl) ?_
    obtain ⟨g7, h⟩ := ite_e h
    obtain ⟨g8, h⟩ := ite_e h
    refine r_iald E S g7 g8 (Mo_undo_dc.at 30 rfl) ?_
    obtain ⟨g9, h⟩ := ite_e h
    obtain ⟨g10, h⟩ := ite_e h
    obtain ⟨M11, eM11, h⟩ := lt1_e h
    refine u_iast E eM11 S g9 g10 (S.1.inR _ _) (Mo_undo_dc.at 31 rfl) (fun H locs S12 => ?_)
    obtain ⟨v13, ev13, h⟩ := lt1_e h
    have hv13 := inR_eq ev13 (inR_w32 _)
    refine u_iinc (y := v13) (vs' := [some (zR G.2.2.1 x0), some (.int (zO v13))]) E ev13 (Mo_undo_dc.at 32 rfl) hl rfl (by decide) rfl (fun ls hl => ?_)
    refine r_goto (tgt := 26) E (Mo_undo_dc.at 33 rfl) (by decide) ?_
    exact hk26 _ x0 v13 hx0 hv13 _ _ _ S12 (hl.sub (And.intro rfl (And.intro rfl True.intro))) h
  · have h := ite_f h q
    refine u_al_n (x := x0) E (Mo_undo_dc.at 34 rfl) hl rfl ?_
    obtain ⟨g14, h⟩ := ite_e h
    refine u_gI E zf_12_25 S g14 zw_6_232 (Mo_undo_dc.at 35 rfl) ?_
    cases h
    exact r_iret E S (S.1.inR _ _) (Mo_undo_dc.at 36 rfl)
theorem Mo_undo_l26_w (E : zEv p m c cX12_undo 2 s args RX12 meth (some .int) G) {res : (zM × Int)} : ∀ (n : Nat) (M : zM) (x0 : Int) (x1 : Int), InR x0 → InR x1 → ∀ (H : Heap) (locs : List Loc) (ls : Array Slot), zS G top L M s H locs → zLV ls 2 [some (zR G.2.2.1 x0), some (.int (zO x1))] → Mo_undo_l26 fu L n M x0 x1 = some res → W p l e (zrm 1 0 0) s m args below meth c H locs 0 0 (MQ below (zQ G top L res.1 (some (.int (zO res.2))) (InR res.2)) args s 0 0 (zA G)) (F0 m 26 ls [])
  | 0, _, _, _ => fun _ _ _ _ _ _ _ h => (by cases h)
  | n + 1, M, x0, x1 => fun hx0 hx1 H locs ls S hl h => Mo_undo_s26_w E (fun M x0 x1 hx0 hx1 H locs ls S hl h => Mo_undo_l26_w E n M x0 x1 hx0 hx1 H locs ls S hl h) hx0 hx1 S hl h
theorem Mo_undo_w (E : zEv p m c cX12_undo 2 s args RX12 meth (some .int) G) {res : (zM × Int)} {M : zM} {a0 : Int} {H : Heap} {locs : List Loc} {ls : Array Slot} (ha0 : InR a0) (S : zS G top L M s H locs) (hl : zLV ls 2 [some (zR G.2.2.1 a0), none]) (h : Mo_undo fu L M a0 = some res) : W p l e (zrm 1 0 0) s m args below meth c H locs 0 0 (MQ below (zQ G top L res.1 (some (.int (zO res.2))) (InR res.2)) args s 0 0 (zA G)) (F0 m 0 ls []) := by
  unfold Mo_undo at h
  refine u_al_n (x := a0) E (Mo_undo_dc.at 0 rfl) hl rfl ?_
  refine r_iconst E (Mo_undo_dc.at 1 rfl) ?_
  obtain ⟨g1, h⟩ := ite_e h
  obtain ⟨M2, eM2, h⟩ := lt1_e h
  refine u_pI E eM2 zf_12_0 S g1 (show InR 0 by decide) (Or.inl rfl) rfl zw_6_207 (Mo_undo_dc.at 2 rfl) (fun H locs S3 => ?_)
  refine u_al_n (x := a0) E (Mo_undo_dc.at 3 rfl) hl rfl ?_
  refine u_gI E zf_12_25 S3 g1 zw_6_232 (Mo_undo_dc.at 4 rfl) ?_
  refine r_if_ne (tgt := 14) E (S3.1.inR _ _) (Mo_undo_dc.at 5 rfl) (by decide) (fun q => ?_) (fun q => ?_)
  · have h := ite_t h q
    refine r_iconst E (Mo_undo_dc.at 6 rfl) ?_
    cases h
    exact r_iret E S3 (show InR (-1) by decide) (Mo_undo_dc.at 7 rfl)
  · have h := ite_f h q
    refine u_al_n (x := a0) E (Mo_undo_dc.at 8 rfl) hl rfl ?_
    refine r_dup E (Mo_undo_dc.at 9 rfl) (zR_cat _ _) ?_
    refine u_gI E zf_12_25 S3 g1 zw_6_232 (Mo_undo_dc.at 10 rfl) ?_
    refine r_iconst E (Mo_undo_dc.at 11 rfl) ?_
    refine r_isub E (Mo_undo_dc.at 12 rfl) ?_
    obtain ⟨M4, eM4, h⟩ := lt1_e h
    refine u_pI E eM4 zf_12_25 S3 g1 (inR_w32 _) (Or.inl rfl) rfl zw_6_232 (Mo_undo_dc.at 13 rfl) (fun H locs S5 => ?_)
    refine r_iconst E (Mo_undo_dc.at 14 rfl) ?_
    refine u_ist_n (y := 0) (vs' := [some (zR G.2.2.1 a0), some (.int (zO 0))]) E rfl (Mo_undo_dc.at 15 rfl) hl (by decide) rfl (fun ls hl => ?_)
    exact Mo_undo_l26_w E fu _ a0 0 ha0 (show InR 0 by decide) _ _ _ S5 (hl.sub (And.intro rfl (And.intro rfl True.intro))) h
theorem Mo_undo_c (l : Launch) (G : zG) (fu : Nat) (top : Int) (L : zL) (M : zM) (a0 : Int) {res : (zM × Int)} (ha0 : InR a0) (h : Mo_undo fu L M a0 = some res) : Met l yX12_undo (Cond.code yX12_undo cX12_undo 2 (some .int) :: zTB) (zrm 1 0 0) (va_Pc [zR G.2.2.1 a0] (zPre G top L M)) (zQ G top L res.1 (some (.int (zO res.2))) (InR res.2)) 0 0 (zA G) :=
  z_met (by decide +kernel) (by simp [zR_cat, zcat_I, zcat_S]) (Nat.le_of_ble_eq_true rfl) fun p e s m below meth c ls E hn S hl => Mo_undo_w E ha0 S (hl.sub (And.intro rfl True.intro)) h
end
theorem Mo_status_dc : zDL cX12_status [(0, .aload_n 0, 1, 1), (1, .iconst 0, 1, 2), (2, .putfield 66, 3, 5), (5, .iload_n 1, 1, 6), (6, .i2l, 1, 7), (7, .lconst 0, 1, 8), (8, .ldc2_w 274, 3, 11), (11, .invokestatic 76, 3, 14), (14, .ifCond .eq 12, 3, 17), (17, .aload_n 0, 1, 18), (18, .getfield 47, 3, 21), (21, .iload_n 1, 1, 22), (22, .iaload, 1, 23), (23, .goto 4, 3, 26), (26, .iconst (-1), 1, 27), (27, .ireturn, 1, 28)] := zDL.of (by decide +kernel)
section
variable {p : Program} {l : Launch} {e : Env} {s : State} {m : MethodId} {args : Array Value} {below : List Frame} {meth : Method} {c : Code} {G : zG} {top : Int} {L : zL} {fu : Nat}
theorem Mo_status_w (E : zEv p m c cX12_status 2 s args RX12 meth (some .int) G) {res : (zM × Int)} {M : zM} {a0 : Int} {a1 : Int} {H : Heap} {locs : List Loc} {ls : Array Slot} (ha0 : InR a0) (ha1 : InR a1) (S : zS G top L M s H locs) (hl : zLV ls 2 [some (zR G.2.2.1 a0), some (.int (zO a1))]) (h : Mo_status fu L M a0 a1 = some res) : W p l e (zrm 2 0 0) s m args below meth c H locs 0 0 (MQ below (zQ G top L res.1 (some (.int (zO res.2))) (InR res.2)) args s 0 0 (zA G)) (F0 m 0 ls []) := by
  unfold Mo_status at h
  refine u_al_n (x := a0) E (Mo_status_dc.at 0 rfl) hl rfl ?_
  refine r_iconst E (Mo_status_dc.at 1 rfl) ?_
  obtain ⟨g1, h⟩ := ite_e h
  obtain ⟨M2, eM2, h⟩ := lt1_e h
  refine u_pI E eM2 zf_12_0 S g1 (show InR 0 by decide) (Or.inl rfl) rfl zw_6_207 (Mo_status_dc.at 2 rfl) (fun H locs S3 => ?_)
  refine u_il_n (x := a1) E (Mo_status_dc.at 3 rfl) hl rfl ?_
  refine r_i2l E ha1 (Mo_status_dc.at 4 rfl) ?_
  refine r_lconst (x := 0) E (Mo_status_dc.at 5 rfl) rfl ?_
  refine r_ldc2 (x := 4) E (Mo_status_dc.at 6 rfl) zw_8_51 rfl ?_
  obtain ⟨r4, er4, h⟩ := bd1_e h
  refine u_cSI (As := [.long (Int64.ofInt a1), .long (Int64.ofInt 0), .long (Int64.ofInt 4)]) (rest := []) E S3 zcw_yX12_in zw_7_134 zw_7_133 (Mo_in_c l G fu top L M2 a1 0 4 ha1 (show InR 0 by decide) (show InR 4 by decide) er4) (zrm_ok (by decide) (by decide)) ⟨Nat.le_refl 0, Nat.le_refl 0⟩ rfl (Nat.zero_le 8) hl.size rfl (Mo_status_dc.at 7 rfl) (fun H locs hr4 S5 => ?_)
  refine r_if_eq (tgt := 26) E (inR_01 hr4) (Mo_status_dc.at 8 rfl) (by decide) (fun q => ?_) (fun q => ?_)
  · have h := ite_t h q
    refine r_iconst E (Mo_status_dc.at 14 rfl) ?_
    cases h
    exact r_iret E S5 (show InR (-1) by decide) (Mo_status_dc.at 15 rfl)
  · have h := ite_f h q
    refine u_al_n (x := a0) E (Mo_status_dc.at 9 rfl) hl rfl ?_
    refine u_gR E zf_12_26 S5 g1 zw_6_233 (Mo_status_dc.at 10 rfl) ?_
    refine u_il_n (x := a1) E (Mo_status_dc.at 11 rfl) hl rfl ?_
    obtain ⟨g6, h⟩ := ite_e h
    obtain ⟨g7, h⟩ := ite_e h
    refine r_iald E S5 g6 g7 (Mo_status_dc.at 12 rfl) ?_
    refine r_goto (tgt := 27) E (Mo_status_dc.at 13 rfl) (by decide) ?_
    cases h
    exact r_iret E S5 (S5.1.inR _ _) (Mo_status_dc.at 15 rfl)
theorem Mo_status_c (l : Launch) (G : zG) (fu : Nat) (top : Int) (L : zL) (M : zM) (a0 : Int) (a1 : Int) {res : (zM × Int)} (ha0 : InR a0) (ha1 : InR a1) (h : Mo_status fu L M a0 a1 = some res) : Met l yX12_status (Cond.code yX12_status cX12_status 2 (some .int) :: zTB) (zrm 2 0 0) (va_Pc [zR G.2.2.1 a0, .int (zO a1)] (zPre G top L M)) (zQ G top L res.1 (some (.int (zO res.2))) (InR res.2)) 0 0 (zA G) :=
  z_met (by decide +kernel) (by simp [zR_cat, zcat_I, zcat_S]) (Nat.le_of_ble_eq_true rfl) fun p e s m below meth c ls E hn S hl => Mo_status_w E ha0 ha1 S (hl.sub (And.intro rfl (And.intro rfl True.intro))) h
end
theorem Mo_refuses_dc : zDL cX12_refuses [(0, .aload_n 0, 1, 1), (1, .getfield 47, 3, 4), (4, .iload_n 1, 1, 5), (5, .dup2, 1, 6), (6, .iaload, 1, 7), (7, .iconst 1, 1, 8), (8, .iadd, 1, 9), (9, .iastore, 1, 10), (10, .iconst (-1), 1, 11), (11, .ireturn, 1, 12)] := zDL.of (by decide +kernel)
section
variable {p : Program} {l : Launch} {e : Env} {s : State} {m : MethodId} {args : Array Value} {below : List Frame} {meth : Method} {c : Code} {G : zG} {top : Int} {L : zL} {fu : Nat}
theorem Mo_refuses_w (E : zEv p m c cX12_refuses 2 s args RX12 meth (some .int) G) {res : (zM × Int)} {M : zM} {a0 : Int} {a1 : Int} {H : Heap} {locs : List Loc} {ls : Array Slot} (ha0 : InR a0) (ha1 : InR a1) (S : zS G top L M s H locs) (hl : zLV ls 2 [some (zR G.2.2.1 a0), some (.int (zO a1))]) (h : Mo_refuses fu L M a0 a1 = some res) : W p l e (zrm 1 0 0) s m args below meth c H locs 0 0 (MQ below (zQ G top L res.1 (some (.int (zO res.2))) (InR res.2)) args s 0 0 (zA G)) (F0 m 0 ls []) := by
  unfold Mo_refuses at h
  refine u_al_n (x := a0) E (Mo_refuses_dc.at 0 rfl) hl rfl ?_
  obtain ⟨g1, h⟩ := ite_e h
  refine u_gR E zf_12_26 S g1 zw_6_233 (Mo_refuses_dc.at 1 rfl) ?_
  refine u_il_n (x := a1) E (Mo_refuses_dc.at 2 rfl) hl rfl ?_
  refine r_dup2 E (Mo_refuses_dc.at 3 rfl) (zcat_I _) (zR_cat _ _) ?_
  obtain ⟨g2, h⟩ := ite_e h
  obtain ⟨g3, h⟩ := ite_e h
  refine r_iald E S g2 g3 (Mo_refuses_dc.at 4 rfl) ?_
  refine r_iconst E (Mo_refuses_dc.at 5 rfl) ?_
  refine r_iadd E (Mo_refuses_dc.at 6 rfl) ?_
  obtain ⟨g4, h⟩ := ite_e h
  obtain ⟨M5, eM5, h⟩ := lt1_e h
  refine u_iast E eM5 S g2 g4 (inR_w32 _) (Mo_refuses_dc.at 7 rfl) (fun H locs S6 => ?_)
  refine r_iconst E (Mo_refuses_dc.at 8 rfl) ?_
  cases h
  exact r_iret E S6 (show InR (-1) by decide) (Mo_refuses_dc.at 9 rfl)
theorem Mo_refuses_c (l : Launch) (G : zG) (fu : Nat) (top : Int) (L : zL) (M : zM) (a0 : Int) (a1 : Int) {res : (zM × Int)} (ha0 : InR a0) (ha1 : InR a1) (h : Mo_refuses fu L M a0 a1 = some res) : Met l yX12_refuses (Cond.code yX12_refuses cX12_refuses 2 (some .int) :: zTB) (zrm 1 0 0) (va_Pc [zR G.2.2.1 a0, .int (zO a1)] (zPre G top L M)) (zQ G top L res.1 (some (.int (zO res.2))) (InR res.2)) 0 0 (zA G) :=
  z_met (by decide +kernel) (by simp [zR_cat, zcat_I, zcat_S]) (Nat.le_of_ble_eq_true rfl) fun p e s m below meth c ls E hn S hl => Mo_refuses_w E ha0 ha1 S (hl.sub (And.intro rfl (And.intro rfl True.intro))) h
end
theorem Mo_gifts_dc : zDL cX12_gifts [(0, .aload_n 0, 1, 1), (1, .getfield 31, 3, 4), (4, .bipush 76, 2, 6), (6, .iaload, 1, 7), (7, .ireturn, 1, 8)] := zDL.of (by decide +kernel)
section
variable {p : Program} {l : Launch} {e : Env} {s : State} {m : MethodId} {args : Array Value} {below : List Frame} {meth : Method} {c : Code} {G : zG} {top : Int} {L : zL} {fu : Nat}
theorem Mo_gifts_w (E : zEv p m c cX12_gifts 1 s args RX12 meth (some .int) G) {res : Int} {M : zM} {a0 : Int} {H : Heap} {locs : List Loc} {ls : Array Slot} (ha0 : InR a0) (S : zS G top L M s H locs) (hl : zLV ls 1 [some (zR G.2.2.1 a0)]) (h : Mo_gifts fu L M a0 = some res) : W p l e (zrm 1 0 0) s m args below meth c H locs 0 0 (MQ below (zQ G top L M (some (.int (zO res))) (InR res)) args s 0 0 (zA G)) (F0 m 0 ls []) := by
  unfold Mo_gifts at h
  refine u_al_n (x := a0) E (Mo_gifts_dc.at 0 rfl) hl rfl ?_
  obtain ⟨g1, h⟩ := ite_e h
  refine u_gR E zf_12_18 S g1 zw_6_225 (Mo_gifts_dc.at 1 rfl) ?_
  refine r_bipush E (Mo_gifts_dc.at 2 rfl) rfl ?_
  obtain ⟨g2, h⟩ := ite_e h
  obtain ⟨g3, h⟩ := ite_e h
  refine r_iald E S g2 g3 (Mo_gifts_dc.at 3 rfl) ?_
  cases h
  exact r_iret E S (S.1.inR _ _) (Mo_gifts_dc.at 4 rfl)
theorem Mo_gifts_c (l : Launch) (G : zG) (fu : Nat) (top : Int) (L : zL) (M : zM) (a0 : Int) {res : Int} (ha0 : InR a0) (h : Mo_gifts fu L M a0 = some res) : Met l yX12_gifts (Cond.code yX12_gifts cX12_gifts 1 (some .int) :: zTB) (zrm 1 0 0) (va_Pc [zR G.2.2.1 a0] (zPre G top L M)) (zQ G top L M (some (.int (zO res))) (InR res)) 0 0 (zA G) :=
  z_met (by decide +kernel) (by simp [zR_cat, zcat_I, zcat_S]) (Nat.le_of_ble_eq_true rfl) fun p e s m below meth c ls E hn S hl => Mo_gifts_w E ha0 S (hl.sub (And.intro rfl True.intro)) h
end
theorem Mo_keeps_dc : zDL cX12_keeps [(0, .aload_n 0, 1, 1), (1, .getfield 259, 3, 4), (4, .bipush 16, 2, 6), (6, .if_icmp .ne 45, 3, 9), (9, .sipush 2597, 3, 12), (12, .istore_n 1, 1, 13), (13, .iload_n 1, 1, 14), (14, .ldc 43, 2, 16), (16, .if_icmp .ge 25, 3, 19), (19, .aload_n 0, 1, 20), (20, .getfield 44, 3, 23), (23, .iload_n 1, 1, 24), (24, .sipush 2597, 3, 27), (27, .isub, 1, 28), (28, .aload_n 0, 1, 29), (29, .getfield 44, 3, 32), (32, .iload_n 1, 1, 33), (33, .iaload, 1, 34), (34, .iastore, 1, 35), (35, .iinc 1 1, 3, 38), (38, .goto (-25), 3, 41), (41, .aload_n 0, 1, 42), (42, .dup, 1, 43), (43, .getfield 259, 3, 46), (46, .iconst 1, 1, 47), (47, .isub, 1, 48), (48, .putfield 259, 3, 51), (51, .iconst 0, 1, 52), (52, .istore_n 1, 1, 53), (53, .iload_n 1, 1, 54), (54, .sipush 2597, 3, 57), (57, .if_icmp .ge 30, 3, 60), (60, .aload_n 0, 1, 61), (61, .getfield 44, 3, 64), (64, .sipush 2597, 3, 67), (67, .aload_n 0, 1, 68), (68, .getfield 259, 3, 71), (71, .imul, 1, 72), (72, .iload_n 1, 1, 73), (73, .iadd, 1, 74), (74, .aload_n 0, 1, 75), (75, .getfield 31, 3, 78), (78, .iload_n 1, 1, 79), (79, .iaload, 1, 80), (80, .iastore, 1, 81), (81, .iinc 1 1, 3, 84), (84, .goto (-31), 3, 87), (87, .aload_n 0, 1, 88), (88, .dup, 1, 89), (89, .getfield 259, 3, 92), (92, .iconst 1, 1, 93), (93, .iadd, 1, 94), (94, .putfield 259, 3, 97), (97, .return_, 1, 98)] := zDL.of (by decide +kernel)
section
variable {p : Program} {l : Launch} {e : Env} {s : State} {m : MethodId} {args : Array Value} {below : List Frame} {meth : Method} {c : Code} {G : zG} {top : Int} {L : zL} {fu : Nat}
theorem Mo_keeps_s53_w (E : zEv p m c cX12_keeps 2 s args RX12 meth none G) {res : zM} {k53 : zM → Int → Int → Option zM} (hk53 : ∀ (M : zM) (x0 : Int) (x1 : Int), InR x0 → InR x1 → ∀ (H : Heap) (locs : List Loc) (ls : Array Slot), zS G top L M s H locs → zLV ls 2 [some (zR G.2.2.1 x0), some (.int (zO x1))] → k53 M x0 x1 = some res → W p l e (zrm 1 0 0) s m args below meth c H locs 0 0 (MQ below (zQ G top L res none True) args s 0 0 (zA G)) (F0 m 53 ls [])) {M : zM} {x0 : Int} {x1 : Int} {H : Heap} {locs : List Loc} {ls : Array Slot} (hx0 : InR x0) (hx1 : InR x1) (S : zS G top L M s H locs) (hl : zLV ls 2 [some (zR G.2.2.1 x0), some (.int (zO x1))]) (h : Mo_keeps_s53 fu k53 L M x0 x1 = some res) : W p l e (zrm 1 0 0) s m args below meth c H locs 0 0 (MQ below (zQ G top L res none True) args s 0 0 (zA G)) (F0 m 53 ls []) := by
  unfold Mo_keeps_s53 at h
  refine u_il_n (x := x1) E (Mo_keeps_dc.at 29 rfl) hl rfl ?_
  refine r_sipush E (Mo_keeps_dc.at 30 rfl) rfl ?_
  refine r_icmp_ge (tgt := 87) E hx1 (show InR 2597 by decide) (Mo_keeps_dc.at 31 rfl) (by decide) (fun q => ?_) (fun q => ?_)
  · have h := ite_t h q
    refine u_al_n (x := x0) E (Mo_keeps_dc.at 32 rfl) hl rfl ?_
    obtain ⟨g12, h⟩ := ite_e h
    refine u_gR E zf_12_24 S g12 zw_6_231 (Mo_keeps_dc.at 33 rfl) ?_
    refine r_sipush E (Mo_keeps_dc.at 34 rfl) rfl ?_
    refine u_al_n (x := x0) E (Mo_keeps_dc.at 35 rfl) hl rfl ?_
    refine u_gI E zf_12_25 S g12 zw_6_232 (Mo_keeps_dc.at 36 rfl) ?_
    refine r_imul E (Mo_keeps_dc.at 37 rfl) ?_
    refine u_il_n (x := x1) E (Mo_keeps_dc.at 38 rfl) hl rfl ?_
    refine r_iadd E (Mo_keeps_dc.at 39 rfl) ?_
    refine u_al_n (x := x0) E (Mo_keeps_dc.at 40 rfl) hl rfl ?_
    refine u_gR E zf_12_18 S g12 zw_6_225 (Mo_keeps_dc.at 41 rfl) ?_
    refine u_il_n (x := x1) E (Mo_keeps_dc.at 42 rfl) hl rfl ?_
    obtain ⟨g13, h⟩ := ite_e h
    obtain ⟨g14, h⟩ := ite_e h
    refine r_iald E S g13 g14 (Mo_keeps_dc.at 43 rfl) ?_
    obtain ⟨g15, h⟩ := ite_e h
    obtain ⟨g16, h⟩ := ite_e h
    obtain ⟨M17, eM17, h⟩ := lt1_e h
    refine u_iast E eM17 S g15 g16 (S.1.inR _ _) (Mo_keeps_dc.at 44 rfl) (fun H locs S18 => ?_)
    obtain ⟨v19, ev19, h⟩ := lt1_e h
    have hv19 := inR_eq ev19 (inR_w32 _)
    refine u_iinc (y := v19) (vs' := [some (zR G.2.2.1 x0), some (.int (zO v19))]) E ev19 (Mo_keeps_dc.at 45 rfl) hl rfl (by decide) rfl (fun ls hl => ?_)
    refine r_goto (tgt := 53) E (Mo_keeps_dc.at 46 rfl) (by decide) ?_
    exact hk53 _ x0 v19 hx0 hv19 _ _ _ S18 (hl.sub (And.intro rfl (And.intro rfl True.intro))) h
  · have h := ite_f h q
    refine u_al_n (x := x0) E (Mo_keeps_dc.at 47 rfl) hl rfl ?_
    refine r_dup E (Mo_keeps_dc.at 48 rfl) (zR_cat _ _) ?_
    obtain ⟨g20, h⟩ := ite_e h
    refine u_gI E zf_12_25 S g20 zw_6_232 (Mo_keeps_dc.at 49 rfl) ?_
    refine r_iconst E (Mo_keeps_dc.at 50 rfl) ?_
    refine r_iadd E (Mo_keeps_dc.at 51 rfl) ?_
    obtain ⟨M21, eM21, h⟩ := lt1_e h
    refine u_pI E eM21 zf_12_25 S g20 (inR_w32 _) (Or.inl rfl) rfl zw_6_232 (Mo_keeps_dc.at 52 rfl) (fun H locs S22 => ?_)
    cases h
    exact r_vret E S22 True.intro (Mo_keeps_dc.at 53 rfl)
theorem Mo_keeps_l53_w (E : zEv p m c cX12_keeps 2 s args RX12 meth none G) {res : zM} : ∀ (n : Nat) (M : zM) (x0 : Int) (x1 : Int), InR x0 → InR x1 → ∀ (H : Heap) (locs : List Loc) (ls : Array Slot), zS G top L M s H locs → zLV ls 2 [some (zR G.2.2.1 x0), some (.int (zO x1))] → Mo_keeps_l53 fu L n M x0 x1 = some res → W p l e (zrm 1 0 0) s m args below meth c H locs 0 0 (MQ below (zQ G top L res none True) args s 0 0 (zA G)) (F0 m 53 ls [])
  | 0, _, _, _ => fun _ _ _ _ _ _ _ h => (by cases h)
  | n + 1, M, x0, x1 => fun hx0 hx1 H locs ls S hl h => Mo_keeps_s53_w E (fun M x0 x1 hx0 hx1 H locs ls S hl h => Mo_keeps_l53_w E n M x0 x1 hx0 hx1 H locs ls S hl h) hx0 hx1 S hl h
theorem Mo_keeps_s13_w (E : zEv p m c cX12_keeps 2 s args RX12 meth none G) {res : zM} {k13 : zM → Int → Int → Option zM} (hk13 : ∀ (M : zM) (x0 : Int) (x1 : Int), InR x0 → InR x1 → ∀ (H : Heap) (locs : List Loc) (ls : Array Slot), zS G top L M s H locs → zLV ls 2 [some (zR G.2.2.1 x0), some (.int (zO x1))] → k13 M x0 x1 = some res → W p l e (zrm 1 0 0) s m args below meth c H locs 0 0 (MQ below (zQ G top L res none True) args s 0 0 (zA G)) (F0 m 13 ls [])) {M : zM} {x0 : Int} {x1 : Int} {H : Heap} {locs : List Loc} {ls : Array Slot} (hx0 : InR x0) (hx1 : InR x1) (S : zS G top L M s H locs) (hl : zLV ls 2 [some (zR G.2.2.1 x0), some (.int (zO x1))]) (h : Mo_keeps_s13 fu k13 L M x0 x1 = some res) : W p l e (zrm 1 0 0) s m args below meth c H locs 0 0 (MQ below (zQ G top L res none True) args s 0 0 (zA G)) (F0 m 13 ls []) := by
  unfold Mo_keeps_s13 at h
  refine u_il_n (x := x1) E (Mo_keeps_dc.at 6 rfl) hl rfl ?_
  refine r_ldc (n := 41552) E (Mo_keeps_dc.at 7 rfl) zw_6_206 rfl ?_
  refine r_icmp_ge (tgt := 41) E hx1 (show InR 41552 by decide) (Mo_keeps_dc.at 8 rfl) (by decide) (fun q => ?_) (fun q => ?_)
  · have h := ite_t h q
    refine u_al_n (x := x0) E (Mo_keeps_dc.at 9 rfl) hl rfl ?_
    obtain ⟨g2, h⟩ := ite_e h
    refine u_gR E zf_12_24 S g2 zw_6_231 (Mo_keeps_dc.at 10 rfl) ?_
    refine u_il_n (x := x1) E (Mo_keeps_dc.at 11 rfl) hl rfl ?_
    refine r_sipush E (Mo_keeps_dc.at 12 rfl) rfl ?_
    refine r_isub E (Mo_keeps_dc.at 13 rfl) ?_
    refine u_al_n (x := x0) E (Mo_keeps_dc.at 14 rfl) hl rfl ?_
    refine u_gR E zf_12_24 S g2 zw_6_231 (Mo_keeps_dc.at 15 rfl) ?_
    refine u_il_n (x := x1) E (Mo_keeps_dc.at 16 rfl) hl rfl ?_
    obtain ⟨g3, h⟩ := ite_e h
    obtain ⟨g4, h⟩ := ite_e h
    refine r_iald E S g3 g4 (Mo_keeps_dc.at 17 rfl) ?_
    obtain ⟨g5, h⟩ := ite_e h
    obtain ⟨M6, eM6, h⟩ := lt1_e h
    refine u_iast E eM6 S g3 g5 (S.1.inR _ _) (Mo_keeps_dc.at 18 rfl) (fun H locs S7 => ?_)
    obtain ⟨v8, ev8, h⟩ := lt1_e h
    have hv8 := inR_eq ev8 (inR_w32 _)
    refine u_iinc (y := v8) (vs' := [some (zR G.2.2.1 x0), some (.int (zO v8))]) E ev8 (Mo_keeps_dc.at 19 rfl) hl rfl (by decide) rfl (fun ls hl => ?_)
    refine r_goto (tgt := 13) E (Mo_keeps_dc.at 20 rfl) (by decide) ?_
    exact hk13 _ x0 v8 hx0 hv8 _ _ _ S7 (hl.sub (And.intro rfl (And.intro rfl True.intro))) h
  · have h := ite_f h q
    refine u_al_n (x := x0) E (Mo_keeps_dc.at 21 rfl) hl rfl ?_
    refine r_dup E (Mo_keeps_dc.at 22 rfl) (zR_cat _ _) ?_
    obtain ⟨g9, h⟩ := ite_e h
    refine u_gI E zf_12_25 S g9 zw_6_232 (Mo_keeps_dc.at 23 rfl) ?_
    refine r_iconst E (Mo_keeps_dc.at 24 rfl) ?_
    refine r_isub E (Mo_keeps_dc.at 25 rfl) ?_
    obtain ⟨M10, eM10, h⟩ := lt1_e h
    refine u_pI E eM10 zf_12_25 S g9 (inR_w32 _) (Or.inl rfl) rfl zw_6_232 (Mo_keeps_dc.at 26 rfl) (fun H locs S11 => ?_)
    refine r_iconst E (Mo_keeps_dc.at 27 rfl) ?_
    refine u_ist_n (y := 0) (vs' := [some (zR G.2.2.1 x0), some (.int (zO 0))]) E rfl (Mo_keeps_dc.at 28 rfl) hl (by decide) rfl (fun ls hl => ?_)
    exact Mo_keeps_l53_w E fu _ x0 0 hx0 (show InR 0 by decide) _ _ _ S11 (hl.sub (And.intro rfl (And.intro rfl True.intro))) h
theorem Mo_keeps_l13_w (E : zEv p m c cX12_keeps 2 s args RX12 meth none G) {res : zM} : ∀ (n : Nat) (M : zM) (x0 : Int) (x1 : Int), InR x0 → InR x1 → ∀ (H : Heap) (locs : List Loc) (ls : Array Slot), zS G top L M s H locs → zLV ls 2 [some (zR G.2.2.1 x0), some (.int (zO x1))] → Mo_keeps_l13 fu L n M x0 x1 = some res → W p l e (zrm 1 0 0) s m args below meth c H locs 0 0 (MQ below (zQ G top L res none True) args s 0 0 (zA G)) (F0 m 13 ls [])
  | 0, _, _, _ => fun _ _ _ _ _ _ _ h => (by cases h)
  | n + 1, M, x0, x1 => fun hx0 hx1 H locs ls S hl h => Mo_keeps_s13_w E (fun M x0 x1 hx0 hx1 H locs ls S hl h => Mo_keeps_l13_w E n M x0 x1 hx0 hx1 H locs ls S hl h) hx0 hx1 S hl h
theorem Mo_keeps_w (E : zEv p m c cX12_keeps 2 s args RX12 meth none G) {res : zM} {M : zM} {a0 : Int} {H : Heap} {locs : List Loc} {ls : Array Slot} (ha0 : InR a0) (S : zS G top L M s H locs) (hl : zLV ls 2 [some (zR G.2.2.1 a0), none]) (h : Mo_keeps fu L M a0 = some res) : W p l e (zrm 1 0 0) s m args below meth c H locs 0 0 (MQ below (zQ G top L res none True) args s 0 0 (zA G)) (F0 m 0 ls []) := by
  unfold Mo_keeps at h
  refine u_al_n (x := a0) E (Mo_keeps_dc.at 0 rfl) hl rfl ?_
  obtain ⟨g1, h⟩ := ite_e h
  refine u_gI E zf_12_25 S g1 zw_6_232 (Mo_keeps_dc.at 1 rfl) ?_
  refine r_bipush E (Mo_keeps_dc.at 2 rfl) rfl ?_
  refine r_icmp_ne (tgt := 51) E (S.1.inR _ _) (show InR 16 by decide) (Mo_keeps_dc.at 3 rfl) (by decide) (fun q => ?_) (fun q => ?_)
  · have h := ite_t h q
    refine r_sipush E (Mo_keeps_dc.at 4 rfl) rfl ?_
    refine u_ist_n (y := 2597) (vs' := [some (zR G.2.2.1 a0), some (.int (zO 2597))]) E rfl (Mo_keeps_dc.at 5 rfl) hl (by decide) rfl (fun ls hl => ?_)
    exact Mo_keeps_l13_w E fu _ a0 2597 ha0 (show InR 2597 by decide) _ _ _ S (hl.sub (And.intro rfl (And.intro rfl True.intro))) h
  · have h := ite_f h q
    refine r_iconst E (Mo_keeps_dc.at 27 rfl) ?_
    refine u_ist_n (y := 0) (vs' := [some (zR G.2.2.1 a0), some (.int (zO 0))]) E rfl (Mo_keeps_dc.at 28 rfl) hl (by decide) rfl (fun ls hl => ?_)
    exact Mo_keeps_l53_w E fu _ a0 0 ha0 (show InR 0 by decide) _ _ _ S (hl.sub (And.intro rfl (And.intro rfl True.intro))) h
theorem Mo_keeps_c (l : Launch) (G : zG) (fu : Nat) (top : Int) (L : zL) (M : zM) (a0 : Int) {res : zM} (ha0 : InR a0) (h : Mo_keeps fu L M a0 = some res) : Met l yX12_keeps (Cond.code yX12_keeps cX12_keeps 2 none :: zTB) (zrm 1 0 0) (va_Pc [zR G.2.2.1 a0] (zPre G top L M)) (zQ G top L res none True) 0 0 (zA G) :=
  z_met (by decide +kernel) (by simp [zR_cat, zcat_I, zcat_S]) (Nat.le_of_ble_eq_true rfl) fun p e s m below meth c ls E hn S hl => Mo_keeps_w E ha0 S (hl.sub (And.intro rfl True.intro)) h
end
theorem Mo_giftAt_dc : zDL cX12_giftAt [(0, .bipush 77, 2, 2), (2, .sipush 315, 3, 5), (5, .iload_n 0, 1, 6), (6, .imul, 1, 7), (7, .iadd, 1, 8), (8, .ireturn, 1, 9)] := zDL.of (by decide +kernel)
section
variable {p : Program} {l : Launch} {e : Env} {s : State} {m : MethodId} {args : Array Value} {below : List Frame} {meth : Method} {c : Code} {G : zG} {top : Int} {L : zL} {fu : Nat}
theorem Mo_giftAt_w (E : zEv p m c cX12_giftAt 1 s args RX12 meth (some .int) G) {res : Int} {M : zM} {a0 : Int} {H : Heap} {locs : List Loc} {ls : Array Slot} (ha0 : InR a0) (S : zS G top L M s H locs) (hl : zLV ls 1 [some (.int (zO a0))]) (h : Mo_giftAt fu L M a0 = some res) : W p l e (zrm 1 0 0) s m args below meth c H locs 0 0 (MQ below (zQ G top L M (some (.int (zO res))) (InR res)) args s 0 0 (zA G)) (F0 m 0 ls []) := by
  unfold Mo_giftAt at h
  refine r_bipush E (Mo_giftAt_dc.at 0 rfl) rfl ?_
  refine r_sipush E (Mo_giftAt_dc.at 1 rfl) rfl ?_
  refine u_il_n (x := a0) E (Mo_giftAt_dc.at 2 rfl) hl rfl ?_
  refine r_imul E (Mo_giftAt_dc.at 3 rfl) ?_
  refine r_iadd E (Mo_giftAt_dc.at 4 rfl) ?_
  cases h
  exact r_iret E S (inR_w32 _) (Mo_giftAt_dc.at 5 rfl)
theorem Mo_giftAt_c (l : Launch) (G : zG) (fu : Nat) (top : Int) (L : zL) (M : zM) (a0 : Int) {res : Int} (ha0 : InR a0) (h : Mo_giftAt fu L M a0 = some res) : Met l yX12_giftAt (Cond.code yX12_giftAt cX12_giftAt 1 (some .int) :: zTB) (zrm 1 0 0) (va_Pc [.int (zO a0)] (zPre G top L M)) (zQ G top L M (some (.int (zO res))) (InR res)) 0 0 (zA G) :=
  z_met (by decide +kernel) (by simp [zR_cat, zcat_I, zcat_S]) (Nat.le_of_ble_eq_true rfl) fun p e s m below meth c ls E hn S hl => Mo_giftAt_w E ha0 S (hl.sub (And.intro rfl True.intro)) h
end
theorem Mo_gift_dc : zDL cX12_gift [(0, .aload_n 0, 1, 1), (1, .iconst 0, 1, 2), (2, .putfield 66, 3, 5), (5, .aload_n 0, 1, 6), (6, .getfield 238, 3, 9), (9, .ifCond .ne 9, 3, 12), (12, .aload_n 0, 1, 13), (13, .iconst 0, 1, 14), (14, .invokevirtual 276, 3, 17), (17, .ireturn, 1, 18), (18, .aload_n 0, 1, 19), (19, .invokevirtual 245, 3, 22), (22, .iconst (-1), 1, 23), (23, .if_icmp .eq 9, 3, 26), (26, .aload_n 0, 1, 27), (27, .iconst 2, 1, 28), (28, .invokevirtual 276, 3, 31), (31, .ireturn, 1, 32), (32, .aload_n 0, 1, 33), (33, .invokevirtual 268, 3, 36), (36, .bipush 8, 2, 38), (38, .if_icmp .ne 9, 3, 41), (41, .aload_n 0, 1, 42), (42, .iconst 4, 1, 43), (43, .invokevirtual 276, 3, 46), (46, .ireturn, 1, 47), (47, .aload_n 0, 1, 48), (48, .iconst 0, 1, 49), (49, .putfield 73, 3, 52), (52, .aload_n 0, 1, 53), (53, .invokevirtual 279, 3, 56), (56, .iconst 0, 1, 57), (57, .istore_n 1, 1, 58), (58, .iload_n 1, 1, 59), (59, .iconst 5, 1, 60), (60, .aload_n 0, 1, 61), (61, .getfield 22, 3, 64), (64, .iconst 4, 1, 65), (65, .iaload, 1, 66), (66, .iadd, 1, 67), (67, .if_icmp .ge 29, 3, 70), (70, .aload_n 0, 1, 71), (71, .getfield 31, 3, 74), (74, .aload_n 0, 1, 75), (75, .invokevirtual 268, 3, 78), (78, .invokestatic 271, 3, 81), (81, .iload_n 1, 1, 82), (82, .iadd, 1, 83), (83, .aload_n 0, 1, 84), (84, .getfield 22, 3, 87), (87, .iload_n 1, 1, 88), (88, .iaload, 1, 89), (89, .iastore, 1, 90), (90, .iinc 1 1, 3, 93), (93, .goto (-35), 3, 96), (96, .aload_n 0, 1, 97), (97, .getfield 31, 3, 100), (100, .bipush 76, 2, 102), (102, .dup2, 1, 103), (103, .iaload, 1, 104), (104, .iconst 1, 1, 105), (105, .iadd, 1, 106), (106, .iastore, 1, 107), (107, .aload_n 0, 1, 108), (108, .invokevirtual 268, 3, 111), (111, .iconst 1, 1, 112), (112, .isub, 1, 113), (113, .ireturn, 1, 114)] := zDL.of (by decide +kernel)
section
variable {p : Program} {l : Launch} {e : Env} {s : State} {m : MethodId} {args : Array Value} {below : List Frame} {meth : Method} {c : Code} {G : zG} {top : Int} {L : zL} {fu : Nat}
theorem Mo_gift_s58_w (E : zEv p m c cX12_gift 2 s args RX12 meth (some .int) G) {res : (zM × Int)} {k58 : zM → Int → Int → Option (zM × Int)} (hk58 : ∀ (M : zM) (x0 : Int) (x1 : Int), InR x0 → InR x1 → ∀ (H : Heap) (locs : List Loc) (ls : Array Slot), zS G top L M s H locs → zLV ls 2 [some (zR G.2.2.1 x0), some (.int (zO x1))] → k58 M x0 x1 = some res → W p l e (zrm 52 0 0) s m args below meth c H locs 0 0 (MQ below (zQ G top L res.1 (some (.int (zO res.2))) (InR res.2)) args s 0 0 (zA G)) (F0 m 58 ls [])) {M : zM} {x0 : Int} {x1 : Int} {H : Heap} {locs : List Loc} {ls : Array Slot} (hx0 : InR x0) (hx1 : InR x1) (S : zS G top L M s H locs) (hl : zLV ls 2 [some (zR G.2.2.1 x0), some (.int (zO x1))]) (h : Mo_gift_s58 fu k58 L M x0 x1 = some res) : W p l e (zrm 52 0 0) s m args below meth c H locs 0 0 (MQ below (zQ G top L res.1 (some (.int (zO res.2))) (InR res.2)) args s 0 0 (zA G)) (F0 m 58 ls []) := by
  unfold Mo_gift_s58 at h
  refine u_il_n (x := x1) E (Mo_gift_dc.at 33 rfl) hl rfl ?_
  refine r_iconst E (Mo_gift_dc.at 34 rfl) ?_
  refine u_al_n (x := x0) E (Mo_gift_dc.at 35 rfl) hl rfl ?_
  obtain ⟨g19, h⟩ := ite_e h
  refine u_gR E zf_12_12 S g19 zw_6_219 (Mo_gift_dc.at 36 rfl) ?_
  refine r_iconst E (Mo_gift_dc.at 37 rfl) ?_
  obtain ⟨g20, h⟩ := ite_e h
  obtain ⟨g21, h⟩ := ite_e h
  refine r_iald E S g20 g21 (Mo_gift_dc.at 38 rfl) ?_
  refine r_iadd E (Mo_gift_dc.at 39 rfl) ?_
  refine r_icmp_ge (tgt := 96) E hx1 (inR_w32 _) (Mo_gift_dc.at 40 rfl) (by decide) (fun q => ?_) (fun q => ?_)
  · have h := ite_t h q
    refine u_al_n (x := x0) E (Mo_gift_dc.at 41 rfl) hl rfl ?_
    refine u_gR E zf_12_18 S g19 zw_6_225 (Mo_gift_dc.at 42 rfl) ?_
    refine u_al_n (x := x0) E (Mo_gift_dc.at 43 rfl) hl rfl ?_
    obtain ⟨r22, er22, h⟩ := bd1_e h
    refine u_cVI (As := []) (rest := [zR G.2.2.1 (M x0 18)]) E S zcw_yX12_gifts zw_8_62 zq_5_10 zw_8_60 zck_12.1 rfl g19 (Mo_gifts_c l G fu top L M x0 hx0 er22) (zrm_ok (by decide) (by decide)) ⟨Nat.le_refl 0, Nat.le_refl 0⟩ rfl (by simp [zR_cat, zcat_I, zcat_J, zcat_S]) hl.size rfl (Mo_gift_dc.at 44 rfl) (fun H locs hr22 S23 => ?_)
    obtain ⟨r24, er24, h⟩ := bd1_e h
    refine u_cSI (As := [.int (zO r22)]) (rest := [zR G.2.2.1 (M x0 18)]) E S23 zcw_yX12_giftAt zw_8_69 zw_8_68 (Mo_giftAt_c l G fu top L M r22 hr22 er24) (zrm_ok (by decide) (by decide)) ⟨Nat.le_refl 0, Nat.le_refl 0⟩ rfl (by simp [zR_cat, zcat_I, zcat_J, zcat_S]) hl.size rfl (Mo_gift_dc.at 45 rfl) (fun H locs hr24 S25 => ?_)
    refine u_il_n (x := x1) E (Mo_gift_dc.at 46 rfl) hl rfl ?_
    refine r_iadd E (Mo_gift_dc.at 47 rfl) ?_
    refine u_al_n (x := x0) E (Mo_gift_dc.at 48 rfl) hl rfl ?_
    refine u_gR E zf_12_12 S25 g19 zw_6_219 (Mo_gift_dc.at 49 rfl) ?_
    refine u_il_n (x := x1) E (Mo_gift_dc.at 50 rfl) hl rfl ?_
    obtain ⟨g26, h⟩ := ite_e h
    refine r_iald E S25 g20 g26 (Mo_gift_dc.at 51 rfl) ?_
    obtain ⟨g27, h⟩ := ite_e h
    obtain ⟨g28, h⟩ := ite_e h
    obtain ⟨M29, eM29, h⟩ := lt1_e h
    refine u_iast E eM29 S25 g27 g28 (S25.1.inR _ _) (Mo_gift_dc.at 52 rfl) (fun H locs S30 => ?_)
    obtain ⟨v31, ev31, h⟩ := lt1_e h
    have hv31 := inR_eq ev31 (inR_w32 _)
    refine u_iinc (y := v31) (vs' := [some (zR G.2.2.1 x0), some (.int (zO v31))]) E ev31 (Mo_gift_dc.at 53 rfl) hl rfl (by decide) rfl (fun ls hl => ?_)
    refine r_goto (tgt := 58) E (Mo_gift_dc.at 54 rfl) (by decide) ?_
    exact hk58 _ x0 v31 hx0 hv31 _ _ _ S30 (hl.sub (And.intro rfl (And.intro rfl True.intro))) h
  · have h := ite_f h q
    refine u_al_n (x := x0) E (Mo_gift_dc.at 55 rfl) hl rfl ?_
    refine u_gR E zf_12_18 S g19 zw_6_225 (Mo_gift_dc.at 56 rfl) ?_
    refine r_bipush E (Mo_gift_dc.at 57 rfl) rfl ?_
    refine r_dup2 E (Mo_gift_dc.at 58 rfl) (zcat_I _) (zR_cat _ _) ?_
    obtain ⟨g32, h⟩ := ite_e h
    obtain ⟨g33, h⟩ := ite_e h
    refine r_iald E S g32 g33 (Mo_gift_dc.at 59 rfl) ?_
    refine r_iconst E (Mo_gift_dc.at 60 rfl) ?_
    refine r_iadd E (Mo_gift_dc.at 61 rfl) ?_
    obtain ⟨g34, h⟩ := ite_e h
    obtain ⟨M35, eM35, h⟩ := lt1_e h
    refine u_iast E eM35 S g32 g34 (inR_w32 _) (Mo_gift_dc.at 62 rfl) (fun H locs S36 => ?_)
    refine u_al_n (x := x0) E (Mo_gift_dc.at 63 rfl) hl rfl ?_
    obtain ⟨r37, er37, h⟩ := bd1_e h
    refine u_cVI (As := []) (rest := []) E S36 zcw_yX12_gifts zw_8_62 zq_5_10 zw_8_60 zck_12.1 rfl g19 (Mo_gifts_c l G fu top L M35 x0 hx0 er37) (zrm_ok (by decide) (by decide)) ⟨Nat.le_refl 0, Nat.le_refl 0⟩ rfl (Nat.zero_le 8) hl.size rfl (Mo_gift_dc.at 64 rfl) (fun H locs hr37 S38 => ?_)
    refine r_iconst E (Mo_gift_dc.at 65 rfl) ?_
    refine r_isub E (Mo_gift_dc.at 66 rfl) ?_
    cases h
    exact r_iret E S38 (inR_w32 _) (Mo_gift_dc.at 67 rfl)
theorem Mo_gift_l58_w (E : zEv p m c cX12_gift 2 s args RX12 meth (some .int) G) {res : (zM × Int)} : ∀ (n : Nat) (M : zM) (x0 : Int) (x1 : Int), InR x0 → InR x1 → ∀ (H : Heap) (locs : List Loc) (ls : Array Slot), zS G top L M s H locs → zLV ls 2 [some (zR G.2.2.1 x0), some (.int (zO x1))] → Mo_gift_l58 fu L n M x0 x1 = some res → W p l e (zrm 52 0 0) s m args below meth c H locs 0 0 (MQ below (zQ G top L res.1 (some (.int (zO res.2))) (InR res.2)) args s 0 0 (zA G)) (F0 m 58 ls [])
  | 0, _, _, _ => fun _ _ _ _ _ _ _ h => (by cases h)
  | n + 1, M, x0, x1 => fun hx0 hx1 H locs ls S hl h => Mo_gift_s58_w E (fun M x0 x1 hx0 hx1 H locs ls S hl h => Mo_gift_l58_w E n M x0 x1 hx0 hx1 H locs ls S hl h) hx0 hx1 S hl h
theorem Mo_gift_w (E : zEv p m c cX12_gift 2 s args RX12 meth (some .int) G) {res : (zM × Int)} {M : zM} {a0 : Int} {H : Heap} {locs : List Loc} {ls : Array Slot} (ha0 : InR a0) (S : zS G top L M s H locs) (hl : zLV ls 2 [some (zR G.2.2.1 a0), none]) (h : Mo_gift fu L M a0 = some res) : W p l e (zrm 52 0 0) s m args below meth c H locs 0 0 (MQ below (zQ G top L res.1 (some (.int (zO res.2))) (InR res.2)) args s 0 0 (zA G)) (F0 m 0 ls []) := by
  unfold Mo_gift at h
  refine u_al_n (x := a0) E (Mo_gift_dc.at 0 rfl) hl rfl ?_
  refine r_iconst E (Mo_gift_dc.at 1 rfl) ?_
  obtain ⟨g1, h⟩ := ite_e h
  obtain ⟨M2, eM2, h⟩ := lt1_e h
  refine u_pI E eM2 zf_12_0 S g1 (show InR 0 by decide) (Or.inl rfl) rfl zw_6_207 (Mo_gift_dc.at 2 rfl) (fun H locs S3 => ?_)
  refine u_al_n (x := a0) E (Mo_gift_dc.at 3 rfl) hl rfl ?_
  refine u_gI E zf_12_19 S3 g1 zw_6_226 (Mo_gift_dc.at 4 rfl) ?_
  refine r_if_ne (tgt := 18) E (S3.1.inR _ _) (Mo_gift_dc.at 5 rfl) (by decide) (fun q => ?_) (fun q => ?_)
  · have h := ite_t h q
    refine u_al_n (x := a0) E (Mo_gift_dc.at 6 rfl) hl rfl ?_
    refine r_iconst E (Mo_gift_dc.at 7 rfl) ?_
    obtain ⟨M5, r4, er4, h⟩ := bd2_e h
    refine u_cVI (As := [.int (zO 0)]) (rest := []) E S3 zcw_yX12_refuses zw_8_58 zq_5_9 zw_8_56 zck_12.1 rfl g1 (Mo_refuses_c l G fu top L M2 a0 0 ha0 (show InR 0 by decide) er4) (zrm_ok (by decide) (by decide)) ⟨Nat.le_refl 0, Nat.le_refl 0⟩ rfl (Nat.zero_le 8) hl.size rfl (Mo_gift_dc.at 8 rfl) (fun H locs hr4 S6 => ?_)
    cases h
    exact r_iret E S6 hr4 (Mo_gift_dc.at 9 rfl)
  · have h := ite_f h q
    refine u_al_n (x := a0) E (Mo_gift_dc.at 10 rfl) hl rfl ?_
    obtain ⟨M8, r7, er7, h⟩ := bd2_e h
    refine u_cVI (As := []) (rest := []) E S3 zcw_yX12_readsGift zw_7_210 zq_4_11 zw_7_208 zck_12.1 rfl g1 (Mo_readsGift_c l G fu top L M2 a0 ha0 er7) (zrm_ok (by decide) (by decide)) ⟨Nat.le_refl 0, Nat.le_refl 0⟩ rfl (Nat.zero_le 8) hl.size rfl (Mo_gift_dc.at 11 rfl) (fun H locs hr7 S9 => ?_)
    refine r_iconst E (Mo_gift_dc.at 12 rfl) ?_
    refine r_icmp_eq (tgt := 32) E hr7 (show InR (-1) by decide) (Mo_gift_dc.at 13 rfl) (by decide) (fun q => ?_) (fun q => ?_)
    · have h := ite_t h q
      refine u_al_n (x := a0) E (Mo_gift_dc.at 18 rfl) hl rfl ?_
      obtain ⟨r10, er10, h⟩ := bd1_e h
      refine u_cVI (As := []) (rest := []) E S9 zcw_yX12_gifts zw_8_62 zq_5_10 zw_8_60 zck_12.1 rfl g1 (Mo_gifts_c l G fu top L M8 a0 ha0 er10) (zrm_ok (by decide) (by decide)) ⟨Nat.le_refl 0, Nat.le_refl 0⟩ rfl (Nat.zero_le 8) hl.size rfl (Mo_gift_dc.at 19 rfl) (fun H locs hr10 S11 => ?_)
      refine r_bipush E (Mo_gift_dc.at 20 rfl) rfl ?_
      refine r_icmp_ne (tgt := 47) E hr10 (show InR 8 by decide) (Mo_gift_dc.at 21 rfl) (by decide) (fun q => ?_) (fun q => ?_)
      · have h := ite_t h q
        refine u_al_n (x := a0) E (Mo_gift_dc.at 22 rfl) hl rfl ?_
        refine r_iconst E (Mo_gift_dc.at 23 rfl) ?_
        obtain ⟨M13, r12, er12, h⟩ := bd2_e h
        refine u_cVI (As := [.int (zO 4)]) (rest := []) E S11 zcw_yX12_refuses zw_8_58 zq_5_9 zw_8_56 zck_12.1 rfl g1 (Mo_refuses_c l G fu top L M8 a0 4 ha0 (show InR 4 by decide) er12) (zrm_ok (by decide) (by decide)) ⟨Nat.le_refl 0, Nat.le_refl 0⟩ rfl (Nat.zero_le 8) hl.size rfl (Mo_gift_dc.at 24 rfl) (fun H locs hr12 S14 => ?_)
        cases h
        exact r_iret E S14 hr12 (Mo_gift_dc.at 25 rfl)
      · have h := ite_f h q
        refine u_al_n (x := a0) E (Mo_gift_dc.at 26 rfl) hl rfl ?_
        refine r_iconst E (Mo_gift_dc.at 27 rfl) ?_
        obtain ⟨M15, eM15, h⟩ := lt1_e h
        refine u_pI E eM15 zf_12_2 S11 g1 (show InR 0 by decide) (Or.inl rfl) rfl zw_6_209 (Mo_gift_dc.at 28 rfl) (fun H locs S16 => ?_)
        refine u_al_n (x := a0) E (Mo_gift_dc.at 29 rfl) hl rfl ?_
        obtain ⟨M17, eM17, h⟩ := bd1_e h
        refine u_cVU (As := []) (rest := []) E S16 zcw_yX12_keeps zw_8_66 zq_5_11 zw_8_64 zck_12.1 rfl g1 (Mo_keeps_c l G fu top L M15 a0 ha0 eM17) (zrm_ok (by decide) (by decide)) ⟨Nat.le_refl 0, Nat.le_refl 0⟩ rfl (Nat.zero_le 8) hl.size rfl (Mo_gift_dc.at 30 rfl) (fun H locs _ S18 => ?_)
        refine r_iconst E (Mo_gift_dc.at 31 rfl) ?_
        refine u_ist_n (y := 0) (vs' := [some (zR G.2.2.1 a0), some (.int (zO 0))]) E rfl (Mo_gift_dc.at 32 rfl) hl (by decide) rfl (fun ls hl => ?_)
        exact Mo_gift_l58_w E fu _ a0 0 ha0 (show InR 0 by decide) _ _ _ S18 (hl.sub (And.intro rfl (And.intro rfl True.intro))) h
    · have h := ite_f h q
      refine u_al_n (x := a0) E (Mo_gift_dc.at 14 rfl) hl rfl ?_
      refine r_iconst E (Mo_gift_dc.at 15 rfl) ?_
      obtain ⟨M40, r39, er39, h⟩ := bd2_e h
      refine u_cVI (As := [.int (zO 2)]) (rest := []) E S9 zcw_yX12_refuses zw_8_58 zq_5_9 zw_8_56 zck_12.1 rfl g1 (Mo_refuses_c l G fu top L M8 a0 2 ha0 (show InR 2 by decide) er39) (zrm_ok (by decide) (by decide)) ⟨Nat.le_refl 0, Nat.le_refl 0⟩ rfl (Nat.zero_le 8) hl.size rfl (Mo_gift_dc.at 16 rfl) (fun H locs hr39 S41 => ?_)
      cases h
      exact r_iret E S41 hr39 (Mo_gift_dc.at 17 rfl)
theorem Mo_gift_c (l : Launch) (G : zG) (fu : Nat) (top : Int) (L : zL) (M : zM) (a0 : Int) {res : (zM × Int)} (ha0 : InR a0) (h : Mo_gift fu L M a0 = some res) : Met l yX12_gift (Cond.code yX12_gift cX12_gift 2 (some .int) :: zTB) (zrm 52 0 0) (va_Pc [zR G.2.2.1 a0] (zPre G top L M)) (zQ G top L res.1 (some (.int (zO res.2))) (InR res.2)) 0 0 (zA G) :=
  z_met (by decide +kernel) (by simp [zR_cat, zcat_I, zcat_S]) (Nat.le_of_ble_eq_true rfl) fun p e s m below meth c ls E hn S hl => Mo_gift_w E ha0 S (hl.sub (And.intro rfl True.intro)) h
end
theorem Mo_isGift_dc : zDL cX12_isGift [(0, .aload_n 0, 1, 1), (1, .getfield 238, 3, 4), (4, .ifCond .eq 23, 3, 7), (7, .iload_n 1, 1, 8), (8, .i2l, 1, 9), (9, .lconst 0, 1, 10), (10, .aload_n 0, 1, 11), (11, .invokevirtual 268, 3, 14), (14, .iconst 1, 1, 15), (15, .isub, 1, 16), (16, .i2l, 1, 17), (17, .invokestatic 76, 3, 20), (20, .ifCond .eq 7, 3, 23), (23, .iconst 1, 1, 24), (24, .goto 4, 3, 27), (27, .iconst 0, 1, 28), (28, .ireturn, 1, 29)] := zDL.of (by decide +kernel)
section
variable {p : Program} {l : Launch} {e : Env} {s : State} {m : MethodId} {args : Array Value} {below : List Frame} {meth : Method} {c : Code} {G : zG} {top : Int} {L : zL} {fu : Nat}
theorem Mo_isGift_w (E : zEv p m c cX12_isGift 2 s args RX12 meth (some .boolean) G) {res : Int} {M : zM} {a0 : Int} {a1 : Int} {H : Heap} {locs : List Loc} {ls : Array Slot} (ha0 : InR a0) (ha1 : InR a1) (S : zS G top L M s H locs) (hl : zLV ls 2 [some (zR G.2.2.1 a0), some (.int (zO a1))]) (h : Mo_isGift fu L M a0 a1 = some res) : W p l e (zrm 2 0 0) s m args below meth c H locs 0 0 (MQ below (zQ G top L M (some (.int (zO res))) (0 ≤ res ∧ res ≤ 1)) args s 0 0 (zA G)) (F0 m 0 ls []) := by
  unfold Mo_isGift at h
  refine u_al_n (x := a0) E (Mo_isGift_dc.at 0 rfl) hl rfl ?_
  obtain ⟨g1, h⟩ := ite_e h
  refine u_gI E zf_12_19 S g1 zw_6_226 (Mo_isGift_dc.at 1 rfl) ?_
  refine r_if_eq (tgt := 27) E (S.1.inR _ _) (Mo_isGift_dc.at 2 rfl) (by decide) (fun q => ?_) (fun q => ?_)
  · have h := ite_t h q
    refine r_iconst E (Mo_isGift_dc.at 15 rfl) ?_
    cases h
    exact r_zret E S z01_0 z01_0 (Mo_isGift_dc.at 16 rfl)
  · have h := ite_f h q
    refine u_il_n (x := a1) E (Mo_isGift_dc.at 3 rfl) hl rfl ?_
    refine r_i2l E ha1 (Mo_isGift_dc.at 4 rfl) ?_
    refine r_lconst (x := 0) E (Mo_isGift_dc.at 5 rfl) rfl ?_
    refine u_al_n (x := a0) E (Mo_isGift_dc.at 6 rfl) hl rfl ?_
    obtain ⟨r2, er2, h⟩ := bd1_e h
    refine u_cVI (As := []) (rest := [.long (Int64.ofInt 0), .long (Int64.ofInt a1)]) E S zcw_yX12_gifts zw_8_62 zq_5_10 zw_8_60 zck_12.1 rfl g1 (Mo_gifts_c l G fu top L M a0 ha0 er2) (zrm_ok (by decide) (by decide)) ⟨Nat.le_refl 0, Nat.le_refl 0⟩ rfl (by simp only [List.map_cons, List.map_nil, List.sum_cons, List.sum_nil, zR_cat, zcat_I, zcat_J, zcat_S] <;> decide) hl.size rfl (Mo_isGift_dc.at 7 rfl) (fun H locs hr2 S3 => ?_)
    refine r_iconst E (Mo_isGift_dc.at 8 rfl) ?_
    refine r_isub E (Mo_isGift_dc.at 9 rfl) ?_
    refine r_i2l E (inR_w32 _) (Mo_isGift_dc.at 10 rfl) ?_
    obtain ⟨r4, er4, h⟩ := bd1_e h
    refine u_cSI (As := [.long (Int64.ofInt a1), .long (Int64.ofInt 0), .long (Int64.ofInt (w32 (r2 - 1)))]) (rest := []) E S3 zcw_yX12_in zw_7_134 zw_7_133 (Mo_in_c l G fu top L M a1 0 (w32 (r2 - 1)) ha1 (show InR 0 by decide) (inR_w32 _) er4) (zrm_ok (by decide) (by decide)) ⟨Nat.le_refl 0, Nat.le_refl 0⟩ rfl (Nat.zero_le 8) hl.size rfl (Mo_isGift_dc.at 11 rfl) (fun H locs hr4 S5 => ?_)
    refine r_if_eq (tgt := 27) E (inR_01 hr4) (Mo_isGift_dc.at 12 rfl) (by decide) (fun q => ?_) (fun q => ?_)
    · have h := ite_t h q
      refine r_iconst E (Mo_isGift_dc.at 15 rfl) ?_
      cases h
      exact r_zret E S5 z01_0 z01_0 (Mo_isGift_dc.at 16 rfl)
    · have h := ite_f h q
      refine r_iconst E (Mo_isGift_dc.at 13 rfl) ?_
      refine r_goto (tgt := 28) E (Mo_isGift_dc.at 14 rfl) (by decide) ?_
      cases h
      exact r_zret E S5 z01_1 z01_1 (Mo_isGift_dc.at 16 rfl)
theorem Mo_isGift_c (l : Launch) (G : zG) (fu : Nat) (top : Int) (L : zL) (M : zM) (a0 : Int) (a1 : Int) {res : Int} (ha0 : InR a0) (ha1 : InR a1) (h : Mo_isGift fu L M a0 a1 = some res) : Met l yX12_isGift (Cond.code yX12_isGift cX12_isGift 2 (some .boolean) :: zTB) (zrm 2 0 0) (va_Pc [zR G.2.2.1 a0, .int (zO a1)] (zPre G top L M)) (zQ G top L M (some (.int (zO res))) (0 ≤ res ∧ res ≤ 1)) 0 0 (zA G) :=
  z_met (by decide +kernel) (by simp [zR_cat, zcat_I, zcat_S]) (Nat.le_of_ble_eq_true rfl) fun p e s m below meth c ls E hn S hl => Mo_isGift_w E ha0 ha1 S (hl.sub (And.intro rfl (And.intro rfl True.intro))) h
end
theorem Mo_drop_dc : zDL cX12_drop [(0, .aload_n 0, 1, 1), (1, .iconst 0, 1, 2), (2, .putfield 66, 3, 5), (5, .aload_n 0, 1, 6), (6, .getfield 238, 3, 9), (9, .ifCond .ne 9, 3, 12), (12, .aload_n 0, 1, 13), (13, .iconst 0, 1, 14), (14, .invokevirtual 276, 3, 17), (17, .ireturn, 1, 18), (18, .aload_n 0, 1, 19), (19, .iload_n 1, 1, 20), (20, .invokevirtual 282, 3, 23), (23, .ifCond .ne 9, 3, 26), (26, .aload_n 0, 1, 27), (27, .iconst 1, 1, 28), (28, .invokevirtual 276, 3, 31), (31, .ireturn, 1, 32), (32, .aload_n 0, 1, 33), (33, .invokevirtual 279, 3, 36), (36, .iload_n 1, 1, 37), (37, .iconst 1, 1, 38), (38, .iadd, 1, 39), (39, .invokestatic 271, 3, 42), (42, .istore_n 2, 1, 43), (43, .iload_n 2, 1, 44), (44, .aload_n 0, 1, 45), (45, .invokevirtual 268, 3, 48), (48, .invokestatic 271, 3, 51), (51, .if_icmp .ge 25, 3, 54), (54, .aload_n 0, 1, 55), (55, .getfield 31, 3, 58), (58, .iload_n 2, 1, 59), (59, .sipush 315, 3, 62), (62, .isub, 1, 63), (63, .aload_n 0, 1, 64), (64, .getfield 31, 3, 67), (67, .iload_n 2, 1, 68), (68, .iaload, 1, 69), (69, .iastore, 1, 70), (70, .iinc 2 1, 3, 73), (73, .goto (-30), 3, 76), (76, .aload_n 0, 1, 77), (77, .getfield 31, 3, 80), (80, .bipush 76, 2, 82), (82, .dup2, 1, 83), (83, .iaload, 1, 84), (84, .iconst 1, 1, 85), (85, .isub, 1, 86), (86, .iastore, 1, 87), (87, .aload_n 0, 1, 88), (88, .invokevirtual 268, 3, 91), (91, .ireturn, 1, 92)] := zDL.of (by decide +kernel)
section
variable {p : Program} {l : Launch} {e : Env} {s : State} {m : MethodId} {args : Array Value} {below : List Frame} {meth : Method} {c : Code} {G : zG} {top : Int} {L : zL} {fu : Nat}
theorem Mo_drop_s43_w (E : zEv p m c cX12_drop 3 s args RX12 meth (some .int) G) {res : (zM × Int)} {k43 : zM → Int → Int → Option (zM × Int)} (hk43 : ∀ (M : zM) (x0 : Int) (x2 : Int), InR x0 → InR x2 → ∀ (H : Heap) (locs : List Loc) (ls : Array Slot), zS G top L M s H locs → zLV ls 3 [some (zR G.2.2.1 x0), none, some (.int (zO x2))] → k43 M x0 x2 = some res → W p l e (zrm 3 0 0) s m args below meth c H locs 0 0 (MQ below (zQ G top L res.1 (some (.int (zO res.2))) (InR res.2)) args s 0 0 (zA G)) (F0 m 43 ls [])) {M : zM} {x0 : Int} {x2 : Int} {H : Heap} {locs : List Loc} {ls : Array Slot} (hx0 : InR x0) (hx2 : InR x2) (S : zS G top L M s H locs) (hl : zLV ls 3 [some (zR G.2.2.1 x0), none, some (.int (zO x2))]) (h : Mo_drop_s43 fu k43 L M x0 x2 = some res) : W p l e (zrm 3 0 0) s m args below meth c H locs 0 0 (MQ below (zQ G top L res.1 (some (.int (zO res.2))) (InR res.2)) args s 0 0 (zA G)) (F0 m 43 ls []) := by
  unfold Mo_drop_s43 at h
  refine u_il_n (x := x2) E (Mo_drop_dc.at 25 rfl) hl rfl ?_
  refine u_al_n (x := x0) E (Mo_drop_dc.at 26 rfl) hl rfl ?_
  obtain ⟨g16, h⟩ := ite_e h
  obtain ⟨r17, er17, h⟩ := bd1_e h
  refine u_cVI (As := []) (rest := [.int (zO x2)]) E S zcw_yX12_gifts zw_8_62 zq_5_10 zw_8_60 zck_12.1 rfl g16 (Mo_gifts_c l G fu top L M x0 hx0 er17) (zrm_ok (by decide) (by decide)) ⟨Nat.le_refl 0, Nat.le_refl 0⟩ rfl (by simp [zR_cat, zcat_I, zcat_J, zcat_S]) hl.size rfl (Mo_drop_dc.at 27 rfl) (fun H locs hr17 S18 => ?_)
  obtain ⟨r19, er19, h⟩ := bd1_e h
  refine u_cSI (As := [.int (zO r17)]) (rest := [.int (zO x2)]) E S18 zcw_yX12_giftAt zw_8_69 zw_8_68 (Mo_giftAt_c l G fu top L M r17 hr17 er19) (zrm_ok (by decide) (by decide)) ⟨Nat.le_refl 0, Nat.le_refl 0⟩ rfl (by simp [zR_cat, zcat_I, zcat_J, zcat_S]) hl.size rfl (Mo_drop_dc.at 28 rfl) (fun H locs hr19 S20 => ?_)
  refine r_icmp_ge (tgt := 76) E hx2 hr19 (Mo_drop_dc.at 29 rfl) (by decide) (fun q => ?_) (fun q => ?_)
  · have h := ite_t h q
    refine u_al_n (x := x0) E (Mo_drop_dc.at 30 rfl) hl rfl ?_
    refine u_gR E zf_12_18 S20 g16 zw_6_225 (Mo_drop_dc.at 31 rfl) ?_
    refine u_il_n (x := x2) E (Mo_drop_dc.at 32 rfl) hl rfl ?_
    refine r_sipush E (Mo_drop_dc.at 33 rfl) rfl ?_
    refine r_isub E (Mo_drop_dc.at 34 rfl) ?_
    refine u_al_n (x := x0) E (Mo_drop_dc.at 35 rfl) hl rfl ?_
    refine u_gR E zf_12_18 S20 g16 zw_6_225 (Mo_drop_dc.at 36 rfl) ?_
    refine u_il_n (x := x2) E (Mo_drop_dc.at 37 rfl) hl rfl ?_
    obtain ⟨g21, h⟩ := ite_e h
    obtain ⟨g22, h⟩ := ite_e h
    refine r_iald E S20 g21 g22 (Mo_drop_dc.at 38 rfl) ?_
    obtain ⟨g23, h⟩ := ite_e h
    obtain ⟨M24, eM24, h⟩ := lt1_e h
    refine u_iast E eM24 S20 g21 g23 (S20.1.inR _ _) (Mo_drop_dc.at 39 rfl) (fun H locs S25 => ?_)
    obtain ⟨v26, ev26, h⟩ := lt1_e h
    have hv26 := inR_eq ev26 (inR_w32 _)
    refine u_iinc (y := v26) (vs' := [some (zR G.2.2.1 x0), none, some (.int (zO v26))]) E ev26 (Mo_drop_dc.at 40 rfl) hl rfl (by decide) rfl (fun ls hl => ?_)
    refine r_goto (tgt := 43) E (Mo_drop_dc.at 41 rfl) (by decide) ?_
    exact hk43 _ x0 v26 hx0 hv26 _ _ _ S25 (hl.sub (And.intro rfl (And.intro rfl True.intro))) h
  · have h := ite_f h q
    refine u_al_n (x := x0) E (Mo_drop_dc.at 42 rfl) hl rfl ?_
    refine u_gR E zf_12_18 S20 g16 zw_6_225 (Mo_drop_dc.at 43 rfl) ?_
    refine r_bipush E (Mo_drop_dc.at 44 rfl) rfl ?_
    refine r_dup2 E (Mo_drop_dc.at 45 rfl) (zcat_I _) (zR_cat _ _) ?_
    obtain ⟨g27, h⟩ := ite_e h
    obtain ⟨g28, h⟩ := ite_e h
    refine r_iald E S20 g27 g28 (Mo_drop_dc.at 46 rfl) ?_
    refine r_iconst E (Mo_drop_dc.at 47 rfl) ?_
    refine r_isub E (Mo_drop_dc.at 48 rfl) ?_
    obtain ⟨g29, h⟩ := ite_e h
    obtain ⟨M30, eM30, h⟩ := lt1_e h
    refine u_iast E eM30 S20 g27 g29 (inR_w32 _) (Mo_drop_dc.at 49 rfl) (fun H locs S31 => ?_)
    refine u_al_n (x := x0) E (Mo_drop_dc.at 50 rfl) hl rfl ?_
    obtain ⟨r32, er32, h⟩ := bd1_e h
    refine u_cVI (As := []) (rest := []) E S31 zcw_yX12_gifts zw_8_62 zq_5_10 zw_8_60 zck_12.1 rfl g16 (Mo_gifts_c l G fu top L M30 x0 hx0 er32) (zrm_ok (by decide) (by decide)) ⟨Nat.le_refl 0, Nat.le_refl 0⟩ rfl (Nat.zero_le 8) hl.size rfl (Mo_drop_dc.at 51 rfl) (fun H locs hr32 S33 => ?_)
    cases h
    exact r_iret E S33 hr32 (Mo_drop_dc.at 52 rfl)
theorem Mo_drop_l43_w (E : zEv p m c cX12_drop 3 s args RX12 meth (some .int) G) {res : (zM × Int)} : ∀ (n : Nat) (M : zM) (x0 : Int) (x2 : Int), InR x0 → InR x2 → ∀ (H : Heap) (locs : List Loc) (ls : Array Slot), zS G top L M s H locs → zLV ls 3 [some (zR G.2.2.1 x0), none, some (.int (zO x2))] → Mo_drop_l43 fu L n M x0 x2 = some res → W p l e (zrm 3 0 0) s m args below meth c H locs 0 0 (MQ below (zQ G top L res.1 (some (.int (zO res.2))) (InR res.2)) args s 0 0 (zA G)) (F0 m 43 ls [])
  | 0, _, _, _ => fun _ _ _ _ _ _ _ h => (by cases h)
  | n + 1, M, x0, x2 => fun hx0 hx2 H locs ls S hl h => Mo_drop_s43_w E (fun M x0 x2 hx0 hx2 H locs ls S hl h => Mo_drop_l43_w E n M x0 x2 hx0 hx2 H locs ls S hl h) hx0 hx2 S hl h
theorem Mo_drop_w (E : zEv p m c cX12_drop 3 s args RX12 meth (some .int) G) {res : (zM × Int)} {M : zM} {a0 : Int} {a1 : Int} {H : Heap} {locs : List Loc} {ls : Array Slot} (ha0 : InR a0) (ha1 : InR a1) (S : zS G top L M s H locs) (hl : zLV ls 3 [some (zR G.2.2.1 a0), some (.int (zO a1)), none]) (h : Mo_drop fu L M a0 a1 = some res) : W p l e (zrm 3 0 0) s m args below meth c H locs 0 0 (MQ below (zQ G top L res.1 (some (.int (zO res.2))) (InR res.2)) args s 0 0 (zA G)) (F0 m 0 ls []) := by
  unfold Mo_drop at h
  refine u_al_n (x := a0) E (Mo_drop_dc.at 0 rfl) hl rfl ?_
  refine r_iconst E (Mo_drop_dc.at 1 rfl) ?_
  obtain ⟨g1, h⟩ := ite_e h
  obtain ⟨M2, eM2, h⟩ := lt1_e h
  refine u_pI E eM2 zf_12_0 S g1 (show InR 0 by decide) (Or.inl rfl) rfl zw_6_207 (Mo_drop_dc.at 2 rfl) (fun H locs S3 => ?_)
  refine u_al_n (x := a0) E (Mo_drop_dc.at 3 rfl) hl rfl ?_
  refine u_gI E zf_12_19 S3 g1 zw_6_226 (Mo_drop_dc.at 4 rfl) ?_
  refine r_if_ne (tgt := 18) E (S3.1.inR _ _) (Mo_drop_dc.at 5 rfl) (by decide) (fun q => ?_) (fun q => ?_)
  · have h := ite_t h q
    refine u_al_n (x := a0) E (Mo_drop_dc.at 6 rfl) hl rfl ?_
    refine r_iconst E (Mo_drop_dc.at 7 rfl) ?_
    obtain ⟨M5, r4, er4, h⟩ := bd2_e h
    refine u_cVI (As := [.int (zO 0)]) (rest := []) E S3 zcw_yX12_refuses zw_8_58 zq_5_9 zw_8_56 zck_12.1 rfl g1 (Mo_refuses_c l G fu top L M2 a0 0 ha0 (show InR 0 by decide) er4) (zrm_ok (by decide) (by decide)) ⟨Nat.le_refl 0, Nat.le_refl 0⟩ rfl (Nat.zero_le 8) hl.size rfl (Mo_drop_dc.at 8 rfl) (fun H locs hr4 S6 => ?_)
    cases h
    exact r_iret E S6 hr4 (Mo_drop_dc.at 9 rfl)
  · have h := ite_f h q
    refine u_al_n (x := a0) E (Mo_drop_dc.at 10 rfl) hl rfl ?_
    refine u_il_n (x := a1) E (Mo_drop_dc.at 11 rfl) hl rfl ?_
    obtain ⟨r7, er7, h⟩ := bd1_e h
    refine u_cVI (As := [.int (zO a1)]) (rest := []) E S3 zcw_yX12_isGift zw_8_77 zq_5_12 zw_8_75 zck_12.1 rfl g1 (Mo_isGift_c l G fu top L M2 a0 a1 ha0 ha1 er7) (zrm_ok (by decide) (by decide)) ⟨Nat.le_refl 0, Nat.le_refl 0⟩ rfl (Nat.zero_le 8) hl.size rfl (Mo_drop_dc.at 12 rfl) (fun H locs hr7 S8 => ?_)
    refine r_if_ne (tgt := 32) E (inR_01 hr7) (Mo_drop_dc.at 13 rfl) (by decide) (fun q => ?_) (fun q => ?_)
    · have h := ite_t h q
      refine u_al_n (x := a0) E (Mo_drop_dc.at 14 rfl) hl rfl ?_
      refine r_iconst E (Mo_drop_dc.at 15 rfl) ?_
      obtain ⟨M10, r9, er9, h⟩ := bd2_e h
      refine u_cVI (As := [.int (zO 1)]) (rest := []) E S8 zcw_yX12_refuses zw_8_58 zq_5_9 zw_8_56 zck_12.1 rfl g1 (Mo_refuses_c l G fu top L M2 a0 1 ha0 (show InR 1 by decide) er9) (zrm_ok (by decide) (by decide)) ⟨Nat.le_refl 0, Nat.le_refl 0⟩ rfl (Nat.zero_le 8) hl.size rfl (Mo_drop_dc.at 16 rfl) (fun H locs hr9 S11 => ?_)
      cases h
      exact r_iret E S11 hr9 (Mo_drop_dc.at 17 rfl)
    · have h := ite_f h q
      refine u_al_n (x := a0) E (Mo_drop_dc.at 18 rfl) hl rfl ?_
      obtain ⟨M12, eM12, h⟩ := bd1_e h
      refine u_cVU (As := []) (rest := []) E S8 zcw_yX12_keeps zw_8_66 zq_5_11 zw_8_64 zck_12.1 rfl g1 (Mo_keeps_c l G fu top L M2 a0 ha0 eM12) (zrm_ok (by decide) (by decide)) ⟨Nat.le_refl 0, Nat.le_refl 0⟩ rfl (Nat.zero_le 8) hl.size rfl (Mo_drop_dc.at 19 rfl) (fun H locs _ S13 => ?_)
      refine u_il_n (x := a1) E (Mo_drop_dc.at 20 rfl) hl rfl ?_
      refine r_iconst E (Mo_drop_dc.at 21 rfl) ?_
      refine r_iadd E (Mo_drop_dc.at 22 rfl) ?_
      obtain ⟨r14, er14, h⟩ := bd1_e h
      refine u_cSI (As := [.int (zO (w32 (a1 + 1)))]) (rest := []) E S13 zcw_yX12_giftAt zw_8_69 zw_8_68 (Mo_giftAt_c l G fu top L M12 (w32 (a1 + 1)) (inR_w32 _) er14) (zrm_ok (by decide) (by decide)) ⟨Nat.le_refl 0, Nat.le_refl 0⟩ rfl (Nat.zero_le 8) hl.size rfl (Mo_drop_dc.at 23 rfl) (fun H locs hr14 S15 => ?_)
      refine u_ist_n (y := r14) (vs' := [some (zR G.2.2.1 a0), some (.int (zO a1)), some (.int (zO r14))]) E rfl (Mo_drop_dc.at 24 rfl) hl (by decide) rfl (fun ls hl => ?_)
      exact Mo_drop_l43_w E fu _ a0 r14 ha0 hr14 _ _ _ S15 (hl.sub (And.intro rfl (And.intro rfl True.intro))) h
theorem Mo_drop_c (l : Launch) (G : zG) (fu : Nat) (top : Int) (L : zL) (M : zM) (a0 : Int) (a1 : Int) {res : (zM × Int)} (ha0 : InR a0) (ha1 : InR a1) (h : Mo_drop fu L M a0 a1 = some res) : Met l yX12_drop (Cond.code yX12_drop cX12_drop 3 (some .int) :: zTB) (zrm 3 0 0) (va_Pc [zR G.2.2.1 a0, .int (zO a1)] (zPre G top L M)) (zQ G top L res.1 (some (.int (zO res.2))) (InR res.2)) 0 0 (zA G) :=
  z_met (by decide +kernel) (by simp [zR_cat, zcat_I, zcat_S]) (Nat.le_of_ble_eq_true rfl) fun p e s m below meth c ls E hn S hl => Mo_drop_w E ha0 ha1 S (hl.sub (And.intro rfl (And.intro rfl True.intro))) h
end
theorem Mo_pass_dc : zDL cX12_pass [(0, .aload_n 0, 1, 1), (1, .iconst 0, 1, 2), (2, .putfield 66, 3, 5), (5, .aload_n 0, 1, 6), (6, .getfield 238, 3, 9), (9, .ifCond .ne 9, 3, 12), (12, .aload_n 0, 1, 13), (13, .iconst 0, 1, 14), (14, .invokevirtual 276, 3, 17), (17, .ireturn, 1, 18), (18, .iload_n 1, 1, 19), (19, .i2l, 1, 20), (20, .lconst 1, 1, 21), (21, .ldc2_w 285, 3, 24), (24, .invokestatic 76, 3, 27), (27, .ifCond .eq 17, 3, 30), (30, .aload_n 0, 1, 31), (31, .getfield 31, 3, 34), (34, .iconst 0, 1, 35), (35, .iaload, 1, 36), (36, .iload_n 1, 1, 37), (37, .iadd, 1, 38), (38, .sipush 399, 3, 41), (41, .if_icmp .le 9, 3, 44), (44, .aload_n 0, 1, 45), (45, .iconst 2, 1, 46), (46, .invokevirtual 276, 3, 49), (49, .ireturn, 1, 50), (50, .aload_n 0, 1, 51), (51, .invokevirtual 279, 3, 54), (54, .aload_n 0, 1, 55), (55, .getfield 31, 3, 58), (58, .iconst 0, 1, 59), (59, .dup2, 1, 60), (60, .iaload, 1, 61), (61, .iload_n 1, 1, 62), (62, .iadd, 1, 63), (63, .iastore, 1, 64), (64, .aload_n 0, 1, 65), (65, .getfield 31, 3, 68), (68, .iconst 0, 1, 69), (69, .iaload, 1, 70), (70, .ireturn, 1, 71)] := zDL.of (by decide +kernel)
section
variable {p : Program} {l : Launch} {e : Env} {s : State} {m : MethodId} {args : Array Value} {below : List Frame} {meth : Method} {c : Code} {G : zG} {top : Int} {L : zL} {fu : Nat}
theorem Mo_pass_w (E : zEv p m c cX12_pass 2 s args RX12 meth (some .int) G) {res : (zM × Int)} {M : zM} {a0 : Int} {a1 : Int} {H : Heap} {locs : List Loc} {ls : Array Slot} (ha0 : InR a0) (ha1 : InR a1) (S : zS G top L M s H locs) (hl : zLV ls 2 [some (zR G.2.2.1 a0), some (.int (zO a1))]) (h : Mo_pass fu L M a0 a1 = some res) : W p l e (zrm 2 0 0) s m args below meth c H locs 0 0 (MQ below (zQ G top L res.1 (some (.int (zO res.2))) (InR res.2)) args s 0 0 (zA G)) (F0 m 0 ls []) := by
  unfold Mo_pass at h
  refine u_al_n (x := a0) E (Mo_pass_dc.at 0 rfl) hl rfl ?_
  refine r_iconst E (Mo_pass_dc.at 1 rfl) ?_
  obtain ⟨g1, h⟩ := ite_e h
  obtain ⟨M2, eM2, h⟩ := lt1_e h
  refine u_pI E eM2 zf_12_0 S g1 (show InR 0 by decide) (Or.inl rfl) rfl zw_6_207 (Mo_pass_dc.at 2 rfl) (fun H locs S3 => ?_)
  refine u_al_n (x := a0) E (Mo_pass_dc.at 3 rfl) hl rfl ?_
  refine u_gI E zf_12_19 S3 g1 zw_6_226 (Mo_pass_dc.at 4 rfl) ?_
  refine r_if_ne (tgt := 18) E (S3.1.inR _ _) (Mo_pass_dc.at 5 rfl) (by decide) (fun q => ?_) (fun q => ?_)
  · have h := ite_t h q
    refine u_al_n (x := a0) E (Mo_pass_dc.at 6 rfl) hl rfl ?_
    refine r_iconst E (Mo_pass_dc.at 7 rfl) ?_
    obtain ⟨M5, r4, er4, h⟩ := bd2_e h
    refine u_cVI (As := [.int (zO 0)]) (rest := []) E S3 zcw_yX12_refuses zw_8_58 zq_5_9 zw_8_56 zck_12.1 rfl g1 (Mo_refuses_c l G fu top L M2 a0 0 ha0 (show InR 0 by decide) er4) (zrm_ok (by decide) (by decide)) ⟨Nat.le_refl 0, Nat.le_refl 0⟩ rfl (Nat.zero_le 8) hl.size rfl (Mo_pass_dc.at 8 rfl) (fun H locs hr4 S6 => ?_)
    cases h
    exact r_iret E S6 hr4 (Mo_pass_dc.at 9 rfl)
  · have h := ite_f h q
    refine u_il_n (x := a1) E (Mo_pass_dc.at 10 rfl) hl rfl ?_
    refine r_i2l E ha1 (Mo_pass_dc.at 11 rfl) ?_
    refine r_lconst (x := 1) E (Mo_pass_dc.at 12 rfl) rfl ?_
    refine r_ldc2 (x := 100) E (Mo_pass_dc.at 13 rfl) zw_8_83 rfl ?_
    obtain ⟨r7, er7, h⟩ := bd1_e h
    refine u_cSI (As := [.long (Int64.ofInt a1), .long (Int64.ofInt 1), .long (Int64.ofInt 100)]) (rest := []) E S3 zcw_yX12_in zw_7_134 zw_7_133 (Mo_in_c l G fu top L M2 a1 1 100 ha1 (show InR 1 by decide) (show InR 100 by decide) er7) (zrm_ok (by decide) (by decide)) ⟨Nat.le_refl 0, Nat.le_refl 0⟩ rfl (Nat.zero_le 8) hl.size rfl (Mo_pass_dc.at 14 rfl) (fun H locs hr7 S8 => ?_)
    refine r_if_eq (tgt := 44) E (inR_01 hr7) (Mo_pass_dc.at 15 rfl) (by decide) (fun q => ?_) (fun q => ?_)
    · have h := ite_t h q
      refine u_al_n (x := a0) E (Mo_pass_dc.at 24 rfl) hl rfl ?_
      refine r_iconst E (Mo_pass_dc.at 25 rfl) ?_
      obtain ⟨M10, r9, er9, h⟩ := bd2_e h
      refine u_cVI (As := [.int (zO 2)]) (rest := []) E S8 zcw_yX12_refuses zw_8_58 zq_5_9 zw_8_56 zck_12.1 rfl g1 (Mo_refuses_c l G fu top L M2 a0 2 ha0 (show InR 2 by decide) er9) (zrm_ok (by decide) (by decide)) ⟨Nat.le_refl 0, Nat.le_refl 0⟩ rfl (Nat.zero_le 8) hl.size rfl (Mo_pass_dc.at 26 rfl) (fun H locs hr9 S11 => ?_)
      cases h
      exact r_iret E S11 hr9 (Mo_pass_dc.at 27 rfl)
    · have h := ite_f h q
      refine u_al_n (x := a0) E (Mo_pass_dc.at 16 rfl) hl rfl ?_
      refine u_gR E zf_12_18 S8 g1 zw_6_225 (Mo_pass_dc.at 17 rfl) ?_
      refine r_iconst E (Mo_pass_dc.at 18 rfl) ?_
      obtain ⟨g12, h⟩ := ite_e h
      obtain ⟨g13, h⟩ := ite_e h
      refine r_iald E S8 g12 g13 (Mo_pass_dc.at 19 rfl) ?_
      refine u_il_n (x := a1) E (Mo_pass_dc.at 20 rfl) hl rfl ?_
      refine r_iadd E (Mo_pass_dc.at 21 rfl) ?_
      refine r_sipush E (Mo_pass_dc.at 22 rfl) rfl ?_
      refine r_icmp_le (tgt := 50) E (inR_w32 _) (show InR 399 by decide) (Mo_pass_dc.at 23 rfl) (by decide) (fun q => ?_) (fun q => ?_)
      · have h := ite_t h q
        refine u_al_n (x := a0) E (Mo_pass_dc.at 24 rfl) hl rfl ?_
        refine r_iconst E (Mo_pass_dc.at 25 rfl) ?_
        obtain ⟨M15, r14, er14, h⟩ := bd2_e h
        refine u_cVI (As := [.int (zO 2)]) (rest := []) E S8 zcw_yX12_refuses zw_8_58 zq_5_9 zw_8_56 zck_12.1 rfl g1 (Mo_refuses_c l G fu top L M2 a0 2 ha0 (show InR 2 by decide) er14) (zrm_ok (by decide) (by decide)) ⟨Nat.le_refl 0, Nat.le_refl 0⟩ rfl (Nat.zero_le 8) hl.size rfl (Mo_pass_dc.at 26 rfl) (fun H locs hr14 S16 => ?_)
        cases h
        exact r_iret E S16 hr14 (Mo_pass_dc.at 27 rfl)
      · have h := ite_f h q
        refine u_al_n (x := a0) E (Mo_pass_dc.at 28 rfl) hl rfl ?_
        obtain ⟨M17, eM17, h⟩ := bd1_e h
        refine u_cVU (As := []) (rest := []) E S8 zcw_yX12_keeps zw_8_66 zq_5_11 zw_8_64 zck_12.1 rfl g1 (Mo_keeps_c l G fu top L M2 a0 ha0 eM17) (zrm_ok (by decide) (by decide)) ⟨Nat.le_refl 0, Nat.le_refl 0⟩ rfl (Nat.zero_le 8) hl.size rfl (Mo_pass_dc.at 29 rfl) (fun H locs _ S18 => ?_)
        refine u_al_n (x := a0) E (Mo_pass_dc.at 30 rfl) hl rfl ?_
        refine u_gR E zf_12_18 S18 g1 zw_6_225 (Mo_pass_dc.at 31 rfl) ?_
        refine r_iconst E (Mo_pass_dc.at 32 rfl) ?_
        refine r_dup2 E (Mo_pass_dc.at 33 rfl) (zcat_I _) (zR_cat _ _) ?_
        obtain ⟨g19, h⟩ := ite_e h
        obtain ⟨g20, h⟩ := ite_e h
        refine r_iald E S18 g19 g20 (Mo_pass_dc.at 34 rfl) ?_
        refine u_il_n (x := a1) E (Mo_pass_dc.at 35 rfl) hl rfl ?_
        refine r_iadd E (Mo_pass_dc.at 36 rfl) ?_
        obtain ⟨g21, h⟩ := ite_e h
        obtain ⟨M22, eM22, h⟩ := lt1_e h
        refine u_iast E eM22 S18 g19 g21 (inR_w32 _) (Mo_pass_dc.at 37 rfl) (fun H locs S23 => ?_)
        refine u_al_n (x := a0) E (Mo_pass_dc.at 38 rfl) hl rfl ?_
        refine u_gR E zf_12_18 S23 g1 zw_6_225 (Mo_pass_dc.at 39 rfl) ?_
        refine r_iconst E (Mo_pass_dc.at 40 rfl) ?_
        obtain ⟨g24, h⟩ := ite_e h
        obtain ⟨g25, h⟩ := ite_e h
        refine r_iald E S23 g24 g25 (Mo_pass_dc.at 41 rfl) ?_
        cases h
        exact r_iret E S23 (S23.1.inR _ _) (Mo_pass_dc.at 42 rfl)
theorem Mo_pass_c (l : Launch) (G : zG) (fu : Nat) (top : Int) (L : zL) (M : zM) (a0 : Int) (a1 : Int) {res : (zM × Int)} (ha0 : InR a0) (ha1 : InR a1) (h : Mo_pass fu L M a0 a1 = some res) : Met l yX12_pass (Cond.code yX12_pass cX12_pass 2 (some .int) :: zTB) (zrm 2 0 0) (va_Pc [zR G.2.2.1 a0, .int (zO a1)] (zPre G top L M)) (zQ G top L res.1 (some (.int (zO res.2))) (InR res.2)) 0 0 (zA G) :=
  z_met (by decide +kernel) (by simp [zR_cat, zcat_I, zcat_S]) (Nat.le_of_ble_eq_true rfl) fun p e s m below meth c ls E hn S hl => Mo_pass_w E ha0 ha1 S (hl.sub (And.intro rfl (And.intro rfl True.intro))) h
end
theorem Mo_isIn_dc : zDL cX12_isIn [(0, .iload_n 1, 1, 1), (1, .i2l, 1, 2), (2, .lconst 0, 1, 3), (3, .aload_n 0, 1, 4), (4, .iconst 1, 1, 5), (5, .iaload, 1, 6), (6, .iconst 1, 1, 7), (7, .isub, 1, 8), (8, .i2l, 1, 9), (9, .invokestatic 76, 3, 12), (12, .ireturn, 1, 13)] := zDL.of (by decide +kernel)
section
variable {p : Program} {l : Launch} {e : Env} {s : State} {m : MethodId} {args : Array Value} {below : List Frame} {meth : Method} {c : Code} {G : zG} {top : Int} {L : zL} {fu : Nat}
theorem Mo_isIn_w (E : zEv p m c cX12_isIn 2 s args RX12 meth (some .boolean) G) {res : Int} {M : zM} {a0 : Int} {a1 : Int} {H : Heap} {locs : List Loc} {ls : Array Slot} (ha0 : InR a0) (ha1 : InR a1) (S : zS G top L M s H locs) (hl : zLV ls 2 [some (zR G.2.2.1 a0), some (.int (zO a1))]) (h : Mo_isIn fu L M a0 a1 = some res) : W p l e (zrm 2 0 0) s m args below meth c H locs 0 0 (MQ below (zQ G top L M (some (.int (zO res))) (0 ≤ res ∧ res ≤ 1)) args s 0 0 (zA G)) (F0 m 0 ls []) := by
  unfold Mo_isIn at h
  refine u_il_n (x := a1) E (Mo_isIn_dc.at 0 rfl) hl rfl ?_
  refine r_i2l E ha1 (Mo_isIn_dc.at 1 rfl) ?_
  refine r_lconst (x := 0) E (Mo_isIn_dc.at 2 rfl) rfl ?_
  refine u_al_n (x := a0) E (Mo_isIn_dc.at 3 rfl) hl rfl ?_
  refine r_iconst E (Mo_isIn_dc.at 4 rfl) ?_
  obtain ⟨g1, h⟩ := ite_e h
  obtain ⟨g2, h⟩ := ite_e h
  refine r_iald E S g1 g2 (Mo_isIn_dc.at 5 rfl) ?_
  refine r_iconst E (Mo_isIn_dc.at 6 rfl) ?_
  refine r_isub E (Mo_isIn_dc.at 7 rfl) ?_
  refine r_i2l E (inR_w32 _) (Mo_isIn_dc.at 8 rfl) ?_
  obtain ⟨r3, er3, h⟩ := bd1_e h
  refine u_cSI (As := [.long (Int64.ofInt a1), .long (Int64.ofInt 0), .long (Int64.ofInt (w32 ((M a0 1) - 1)))]) (rest := []) E S zcw_yX12_in zw_7_134 zw_7_133 (Mo_in_c l G fu top L M a1 0 (w32 ((M a0 1) - 1)) ha1 (show InR 0 by decide) (inR_w32 _) er3) (zrm_ok (by decide) (by decide)) ⟨Nat.le_refl 0, Nat.le_refl 0⟩ rfl (Nat.zero_le 8) hl.size rfl (Mo_isIn_dc.at 9 rfl) (fun H locs hr3 S4 => ?_)
  cases h
  exact r_zret E S4 hr3 hr3 (Mo_isIn_dc.at 10 rfl)
theorem Mo_isIn_c (l : Launch) (G : zG) (fu : Nat) (top : Int) (L : zL) (M : zM) (a0 : Int) (a1 : Int) {res : Int} (ha0 : InR a0) (ha1 : InR a1) (h : Mo_isIn fu L M a0 a1 = some res) : Met l yX12_isIn (Cond.code yX12_isIn cX12_isIn 2 (some .boolean) :: zTB) (zrm 2 0 0) (va_Pc [zR G.2.2.1 a0, .int (zO a1)] (zPre G top L M)) (zQ G top L M (some (.int (zO res))) (0 ≤ res ∧ res ≤ 1)) 0 0 (zA G) :=
  z_met (by decide +kernel) (by simp [zR_cat, zcat_I, zcat_S]) (Nat.le_of_ble_eq_true rfl) fun p e s m below meth c ls E hn S hl => Mo_isIn_w E ha0 ha1 S (hl.sub (And.intro rfl (And.intro rfl True.intro))) h
end
theorem Mo_whyNotBorn_dc : zDL cX12_whyNotBorn [(0, .aload_n 0, 1, 1), (1, .iload_n 1, 1, 2), (2, .invokestatic 287, 3, 5), (5, .ifCond .ne 5, 3, 8), (8, .iconst 1, 1, 9), (9, .ireturn, 1, 10), (10, .aload_n 0, 1, 11), (11, .iconst 0, 1, 12), (12, .iaload, 1, 13), (13, .ifCond .eq 17, 3, 16), (16, .aload_n 0, 1, 17), (17, .iconst 0, 1, 18), (18, .iaload, 1, 19), (19, .aload_n 0, 1, 20), (20, .iconst 2, 1, 21), (21, .iload_n 1, 1, 22), (22, .iadd, 1, 23), (23, .iaload, 1, 24), (24, .isub, 1, 25), (25, .bipush 13, 2, 27), (27, .if_icmp .ge 5, 3, 30), (30, .iconst 2, 1, 31), (31, .ireturn, 1, 32), (32, .aload_n 0, 1, 33), (33, .bipush 26, 2, 35), (35, .iload_n 1, 1, 36), (36, .iadd, 1, 37), (37, .iaload, 1, 38), (38, .aload_n 0, 1, 39), (39, .iconst 0, 1, 40), (40, .iaload, 1, 41), (41, .if_icmp .ge 5, 3, 44), (44, .iconst 3, 1, 45), (45, .ireturn, 1, 46), (46, .aload_n 0, 1, 47), (47, .iconst 1, 1, 48), (48, .iaload, 1, 49), (49, .bipush 24, 2, 51), (51, .if_icmp .ne 7, 3, 54), (54, .iconst 4, 1, 55), (55, .goto 4, 3, 58), (58, .iconst (-1), 1, 59), (59, .ireturn, 1, 60)] := zDL.of (by decide +kernel)
section
variable {p : Program} {l : Launch} {e : Env} {s : State} {m : MethodId} {args : Array Value} {below : List Frame} {meth : Method} {c : Code} {G : zG} {top : Int} {L : zL} {fu : Nat}
theorem Mo_whyNotBorn_w (E : zEv p m c cX12_whyNotBorn 2 s args RX12 meth (some .int) G) {res : Int} {M : zM} {a0 : Int} {a1 : Int} {H : Heap} {locs : List Loc} {ls : Array Slot} (ha0 : InR a0) (ha1 : InR a1) (S : zS G top L M s H locs) (hl : zLV ls 2 [some (zR G.2.2.1 a0), some (.int (zO a1))]) (h : Mo_whyNotBorn fu L M a0 a1 = some res) : W p l e (zrm 3 0 0) s m args below meth c H locs 0 0 (MQ below (zQ G top L M (some (.int (zO res))) (InR res)) args s 0 0 (zA G)) (F0 m 0 ls []) := by
  unfold Mo_whyNotBorn at h
  refine u_al_n (x := a0) E (Mo_whyNotBorn_dc.at 0 rfl) hl rfl ?_
  refine u_il_n (x := a1) E (Mo_whyNotBorn_dc.at 1 rfl) hl rfl ?_
  obtain ⟨r1, er1, h⟩ := bd1_e h
  refine u_cSI (As := [zR G.2.2.1 a0, .int (zO a1)]) (rest := []) E S zcw_yX12_isIn zw_8_92 zw_8_91 (Mo_isIn_c l G fu top L M a0 a1 ha0 ha1 er1) (zrm_ok (by decide) (by decide)) ⟨Nat.le_refl 0, Nat.le_refl 0⟩ rfl (Nat.zero_le 8) hl.size rfl (Mo_whyNotBorn_dc.at 2 rfl) (fun H locs hr1 S2 => ?_)
  refine r_if_ne (tgt := 10) E (inR_01 hr1) (Mo_whyNotBorn_dc.at 3 rfl) (by decide) (fun q => ?_) (fun q => ?_)
  · have h := ite_t h q
    refine r_iconst E (Mo_whyNotBorn_dc.at 4 rfl) ?_
    cases h
    exact r_iret E S2 (show InR 1 by decide) (Mo_whyNotBorn_dc.at 5 rfl)
  · have h := ite_f h q
    refine u_al_n (x := a0) E (Mo_whyNotBorn_dc.at 6 rfl) hl rfl ?_
    refine r_iconst E (Mo_whyNotBorn_dc.at 7 rfl) ?_
    obtain ⟨g3, h⟩ := ite_e h
    obtain ⟨g4, h⟩ := ite_e h
    refine r_iald E S2 g3 g4 (Mo_whyNotBorn_dc.at 8 rfl) ?_
    refine r_if_eq (tgt := 30) E (S2.1.inR _ _) (Mo_whyNotBorn_dc.at 9 rfl) (by decide) (fun q => ?_) (fun q => ?_)
    · have h := ite_t h q
      refine r_iconst E (Mo_whyNotBorn_dc.at 21 rfl) ?_
      cases h
      exact r_iret E S2 (show InR 2 by decide) (Mo_whyNotBorn_dc.at 22 rfl)
    · have h := ite_f h q
      refine u_al_n (x := a0) E (Mo_whyNotBorn_dc.at 10 rfl) hl rfl ?_
      refine r_iconst E (Mo_whyNotBorn_dc.at 11 rfl) ?_
      obtain ⟨g5, h⟩ := ite_e h
      refine r_iald E S2 g3 g5 (Mo_whyNotBorn_dc.at 12 rfl) ?_
      refine u_al_n (x := a0) E (Mo_whyNotBorn_dc.at 13 rfl) hl rfl ?_
      refine r_iconst E (Mo_whyNotBorn_dc.at 14 rfl) ?_
      refine u_il_n (x := a1) E (Mo_whyNotBorn_dc.at 15 rfl) hl rfl ?_
      refine r_iadd E (Mo_whyNotBorn_dc.at 16 rfl) ?_
      obtain ⟨g6, h⟩ := ite_e h
      refine r_iald E S2 g3 g6 (Mo_whyNotBorn_dc.at 17 rfl) ?_
      refine r_isub E (Mo_whyNotBorn_dc.at 18 rfl) ?_
      refine r_bipush E (Mo_whyNotBorn_dc.at 19 rfl) rfl ?_
      refine r_icmp_ge (tgt := 32) E (inR_w32 _) (show InR 13 by decide) (Mo_whyNotBorn_dc.at 20 rfl) (by decide) (fun q => ?_) (fun q => ?_)
      · have h := ite_t h q
        refine r_iconst E (Mo_whyNotBorn_dc.at 21 rfl) ?_
        cases h
        exact r_iret E S2 (show InR 2 by decide) (Mo_whyNotBorn_dc.at 22 rfl)
      · have h := ite_f h q
        refine u_al_n (x := a0) E (Mo_whyNotBorn_dc.at 23 rfl) hl rfl ?_
        refine r_bipush E (Mo_whyNotBorn_dc.at 24 rfl) rfl ?_
        refine u_il_n (x := a1) E (Mo_whyNotBorn_dc.at 25 rfl) hl rfl ?_
        refine r_iadd E (Mo_whyNotBorn_dc.at 26 rfl) ?_
        obtain ⟨g7, h⟩ := ite_e h
        refine r_iald E S2 g3 g7 (Mo_whyNotBorn_dc.at 27 rfl) ?_
        refine u_al_n (x := a0) E (Mo_whyNotBorn_dc.at 28 rfl) hl rfl ?_
        refine r_iconst E (Mo_whyNotBorn_dc.at 29 rfl) ?_
        obtain ⟨g8, h⟩ := ite_e h
        refine r_iald E S2 g3 g8 (Mo_whyNotBorn_dc.at 30 rfl) ?_
        refine r_icmp_ge (tgt := 46) E (S2.1.inR _ _) (S2.1.inR _ _) (Mo_whyNotBorn_dc.at 31 rfl) (by decide) (fun q => ?_) (fun q => ?_)
        · have h := ite_t h q
          refine r_iconst E (Mo_whyNotBorn_dc.at 32 rfl) ?_
          cases h
          exact r_iret E S2 (show InR 3 by decide) (Mo_whyNotBorn_dc.at 33 rfl)
        · have h := ite_f h q
          refine u_al_n (x := a0) E (Mo_whyNotBorn_dc.at 34 rfl) hl rfl ?_
          refine r_iconst E (Mo_whyNotBorn_dc.at 35 rfl) ?_
          obtain ⟨g9, h⟩ := ite_e h
          refine r_iald E S2 g3 g9 (Mo_whyNotBorn_dc.at 36 rfl) ?_
          refine r_bipush E (Mo_whyNotBorn_dc.at 37 rfl) rfl ?_
          refine r_icmp_ne (tgt := 58) E (S2.1.inR _ _) (show InR 24 by decide) (Mo_whyNotBorn_dc.at 38 rfl) (by decide) (fun q => ?_) (fun q => ?_)
          · have h := ite_t h q
            refine r_iconst E (Mo_whyNotBorn_dc.at 39 rfl) ?_
            refine r_goto (tgt := 59) E (Mo_whyNotBorn_dc.at 40 rfl) (by decide) ?_
            cases h
            exact r_iret E S2 (show InR 4 by decide) (Mo_whyNotBorn_dc.at 42 rfl)
          · have h := ite_f h q
            refine r_iconst E (Mo_whyNotBorn_dc.at 41 rfl) ?_
            cases h
            exact r_iret E S2 (show InR (-1) by decide) (Mo_whyNotBorn_dc.at 42 rfl)
theorem Mo_whyNotBorn_c (l : Launch) (G : zG) (fu : Nat) (top : Int) (L : zL) (M : zM) (a0 : Int) (a1 : Int) {res : Int} (ha0 : InR a0) (ha1 : InR a1) (h : Mo_whyNotBorn fu L M a0 a1 = some res) : Met l yX12_whyNotBorn (Cond.code yX12_whyNotBorn cX12_whyNotBorn 2 (some .int) :: zTB) (zrm 3 0 0) (va_Pc [zR G.2.2.1 a0, .int (zO a1)] (zPre G top L M)) (zQ G top L M (some (.int (zO res))) (InR res)) 0 0 (zA G) :=
  z_met (by decide +kernel) (by simp [zR_cat, zcat_I, zcat_S]) (Nat.le_of_ble_eq_true rfl) fun p e s m below meth c ls E hn S hl => Mo_whyNotBorn_w E ha0 ha1 S (hl.sub (And.intro rfl (And.intro rfl True.intro))) h
end
theorem Mo_isBorn_dc : zDL cX12_isBorn [(0, .aload_n 0, 1, 1), (1, .iconst 1, 1, 2), (2, .iaload, 1, 3), (3, .istore_n 2, 1, 4), (4, .aload_n 0, 1, 5), (5, .iconst 2, 1, 6), (6, .iload_n 2, 1, 7), (7, .iadd, 1, 8), (8, .aload_n 0, 1, 9), (9, .iconst 0, 1, 10), (10, .iaload, 1, 11), (11, .iastore, 1, 12), (12, .aload_n 0, 1, 13), (13, .bipush 26, 2, 15), (15, .iload_n 2, 1, 16), (16, .iadd, 1, 17), (17, .ldc 254, 2, 19), (19, .iastore, 1, 20), (20, .aload_n 0, 1, 21), (21, .bipush 50, 2, 23), (23, .iload_n 2, 1, 24), (24, .iadd, 1, 25), (25, .iload_n 1, 1, 26), (26, .iastore, 1, 27), (27, .aload_n 0, 1, 28), (28, .iconst 1, 1, 29), (29, .dup2, 1, 30), (30, .iaload, 1, 31), (31, .iconst 1, 1, 32), (32, .iadd, 1, 33), (33, .iastore, 1, 34), (34, .return_, 1, 35)] := zDL.of (by decide +kernel)
section
variable {p : Program} {l : Launch} {e : Env} {s : State} {m : MethodId} {args : Array Value} {below : List Frame} {meth : Method} {c : Code} {G : zG} {top : Int} {L : zL} {fu : Nat}
theorem Mo_isBorn_w (E : zEv p m c cX12_isBorn 3 s args RX12 meth none G) {res : zM} {M : zM} {a0 : Int} {a1 : Int} {H : Heap} {locs : List Loc} {ls : Array Slot} (ha0 : InR a0) (ha1 : InR a1) (S : zS G top L M s H locs) (hl : zLV ls 3 [some (zR G.2.2.1 a0), some (.int (zO a1)), none]) (h : Mo_isBorn fu L M a0 a1 = some res) : W p l e (zrm 1 0 0) s m args below meth c H locs 0 0 (MQ below (zQ G top L res none True) args s 0 0 (zA G)) (F0 m 0 ls []) := by
  unfold Mo_isBorn at h
  refine u_al_n (x := a0) E (Mo_isBorn_dc.at 0 rfl) hl rfl ?_
  refine r_iconst E (Mo_isBorn_dc.at 1 rfl) ?_
  obtain ⟨g1, h⟩ := ite_e h
  obtain ⟨g2, h⟩ := ite_e h
  refine r_iald E S g1 g2 (Mo_isBorn_dc.at 2 rfl) ?_
  obtain ⟨v3, ev3, h⟩ := lt1_e h
  have hv3 := inR_eq ev3 (S.1.inR _ _)
  refine u_ist_n (y := v3) (vs' := [some (zR G.2.2.1 a0), some (.int (zO a1)), some (.int (zO v3))]) E ev3 (Mo_isBorn_dc.at 3 rfl) hl (by decide) rfl (fun ls hl => ?_)
  refine u_al_n (x := a0) E (Mo_isBorn_dc.at 4 rfl) hl rfl ?_
  refine r_iconst E (Mo_isBorn_dc.at 5 rfl) ?_
  refine u_il_n (x := v3) E (Mo_isBorn_dc.at 6 rfl) hl rfl ?_
  refine r_iadd E (Mo_isBorn_dc.at 7 rfl) ?_
  refine u_al_n (x := a0) E (Mo_isBorn_dc.at 8 rfl) hl rfl ?_
  refine r_iconst E (Mo_isBorn_dc.at 9 rfl) ?_
  obtain ⟨g4, h⟩ := ite_e h
  refine r_iald E S g1 g4 (Mo_isBorn_dc.at 10 rfl) ?_
  obtain ⟨g5, h⟩ := ite_e h
  obtain ⟨M6, eM6, h⟩ := lt1_e h
  refine u_iast E eM6 S g1 g5 (S.1.inR _ _) (Mo_isBorn_dc.at 11 rfl) (fun H locs S7 => ?_)
  refine u_al_n (x := a0) E (Mo_isBorn_dc.at 12 rfl) hl rfl ?_
  refine r_bipush E (Mo_isBorn_dc.at 13 rfl) rfl ?_
  refine u_il_n (x := v3) E (Mo_isBorn_dc.at 14 rfl) hl rfl ?_
  refine r_iadd E (Mo_isBorn_dc.at 15 rfl) ?_
  refine r_ldc (n := 16777216) E (Mo_isBorn_dc.at 16 rfl) zw_8_42 rfl ?_
  obtain ⟨g8, h⟩ := ite_e h
  obtain ⟨M9, eM9, h⟩ := lt1_e h
  refine u_iast E eM9 S7 g1 g8 (show InR 16777216 by decide) (Mo_isBorn_dc.at 17 rfl) (fun H locs S10 => ?_)
  refine u_al_n (x := a0) E (Mo_isBorn_dc.at 18 rfl) hl rfl ?_
  refine r_bipush E (Mo_isBorn_dc.at 19 rfl) rfl ?_
  refine u_il_n (x := v3) E (Mo_isBorn_dc.at 20 rfl) hl rfl ?_
  refine r_iadd E (Mo_isBorn_dc.at 21 rfl) ?_
  refine u_il_n (x := a1) E (Mo_isBorn_dc.at 22 rfl) hl rfl ?_
  obtain ⟨g11, h⟩ := ite_e h
  obtain ⟨M12, eM12, h⟩ := lt1_e h
  refine u_iast E eM12 S10 g1 g11 ha1 (Mo_isBorn_dc.at 23 rfl) (fun H locs S13 => ?_)
  refine u_al_n (x := a0) E (Mo_isBorn_dc.at 24 rfl) hl rfl ?_
  refine r_iconst E (Mo_isBorn_dc.at 25 rfl) ?_
  refine r_dup2 E (Mo_isBorn_dc.at 26 rfl) (zcat_I _) (zR_cat _ _) ?_
  obtain ⟨g14, h⟩ := ite_e h
  refine r_iald E S13 g1 g14 (Mo_isBorn_dc.at 27 rfl) ?_
  refine r_iconst E (Mo_isBorn_dc.at 28 rfl) ?_
  refine r_iadd E (Mo_isBorn_dc.at 29 rfl) ?_
  obtain ⟨g15, h⟩ := ite_e h
  obtain ⟨M16, eM16, h⟩ := lt1_e h
  refine u_iast E eM16 S13 g1 g15 (inR_w32 _) (Mo_isBorn_dc.at 30 rfl) (fun H locs S17 => ?_)
  cases h
  exact r_vret E S17 True.intro (Mo_isBorn_dc.at 31 rfl)
theorem Mo_isBorn_c (l : Launch) (G : zG) (fu : Nat) (top : Int) (L : zL) (M : zM) (a0 : Int) (a1 : Int) {res : zM} (ha0 : InR a0) (ha1 : InR a1) (h : Mo_isBorn fu L M a0 a1 = some res) : Met l yX12_isBorn (Cond.code yX12_isBorn cX12_isBorn 3 none :: zTB) (zrm 1 0 0) (va_Pc [zR G.2.2.1 a0, .int (zO a1)] (zPre G top L M)) (zQ G top L res none True) 0 0 (zA G) :=
  z_met (by decide +kernel) (by simp [zR_cat, zcat_I, zcat_S]) (Nat.le_of_ble_eq_true rfl) fun p e s m below meth c ls E hn S hl => Mo_isBorn_w E ha0 ha1 S (hl.sub (And.intro rfl (And.intro rfl True.intro))) h
end
theorem Mo_birth_dc : zDL cX12_birth [(0, .aload_n 0, 1, 1), (1, .iconst 0, 1, 2), (2, .putfield 66, 3, 5), (5, .aload_n 0, 1, 6), (6, .getfield 238, 3, 9), (9, .ifCond .ne 9, 3, 12), (12, .aload_n 0, 1, 13), (13, .iconst 0, 1, 14), (14, .invokevirtual 276, 3, 17), (17, .ireturn, 1, 18), (18, .aload_n 0, 1, 19), (19, .getfield 31, 3, 22), (22, .iload_n 1, 1, 23), (23, .invokestatic 291, 3, 26), (26, .istore_n 2, 1, 27), (27, .iload_n 2, 1, 28), (28, .iconst (-1), 1, 29), (29, .if_icmp .eq 9, 3, 32), (32, .aload_n 0, 1, 33), (33, .iload_n 2, 1, 34), (34, .invokevirtual 276, 3, 37), (37, .ireturn, 1, 38), (38, .aload_n 0, 1, 39), (39, .invokevirtual 279, 3, 42), (42, .aload_n 0, 1, 43), (43, .getfield 31, 3, 46), (46, .iload_n 1, 1, 47), (47, .invokestatic 295, 3, 50), (50, .aload_n 0, 1, 51), (51, .getfield 31, 3, 54), (54, .iconst 1, 1, 55), (55, .iaload, 1, 56), (56, .iconst 1, 1, 57), (57, .isub, 1, 58), (58, .ireturn, 1, 59)] := zDL.of (by decide +kernel)
section
variable {p : Program} {l : Launch} {e : Env} {s : State} {m : MethodId} {args : Array Value} {below : List Frame} {meth : Method} {c : Code} {G : zG} {top : Int} {L : zL} {fu : Nat}
theorem Mo_birth_w (E : zEv p m c cX12_birth 3 s args RX12 meth (some .int) G) {res : (zM × Int)} {M : zM} {a0 : Int} {a1 : Int} {H : Heap} {locs : List Loc} {ls : Array Slot} (ha0 : InR a0) (ha1 : InR a1) (S : zS G top L M s H locs) (hl : zLV ls 3 [some (zR G.2.2.1 a0), some (.int (zO a1)), none]) (h : Mo_birth fu L M a0 a1 = some res) : W p l e (zrm 4 0 0) s m args below meth c H locs 0 0 (MQ below (zQ G top L res.1 (some (.int (zO res.2))) (InR res.2)) args s 0 0 (zA G)) (F0 m 0 ls []) := by
  unfold Mo_birth at h
  refine u_al_n (x := a0) E (Mo_birth_dc.at 0 rfl) hl rfl ?_
  refine r_iconst E (Mo_birth_dc.at 1 rfl) ?_
  obtain ⟨g1, h⟩ := ite_e h
  obtain ⟨M2, eM2, h⟩ := lt1_e h
  refine u_pI E eM2 zf_12_0 S g1 (show InR 0 by decide) (Or.inl rfl) rfl zw_6_207 (Mo_birth_dc.at 2 rfl) (fun H locs S3 => ?_)
  refine u_al_n (x := a0) E (Mo_birth_dc.at 3 rfl) hl rfl ?_
  refine u_gI E zf_12_19 S3 g1 zw_6_226 (Mo_birth_dc.at 4 rfl) ?_
  refine r_if_ne (tgt := 18) E (S3.1.inR _ _) (Mo_birth_dc.at 5 rfl) (by decide) (fun q => ?_) (fun q => ?_)
  · have h := ite_t h q
    refine u_al_n (x := a0) E (Mo_birth_dc.at 6 rfl) hl rfl ?_
    refine r_iconst E (Mo_birth_dc.at 7 rfl) ?_
    obtain ⟨M5, r4, er4, h⟩ := bd2_e h
    refine u_cVI (As := [.int (zO 0)]) (rest := []) E S3 zcw_yX12_refuses zw_8_58 zq_5_9 zw_8_56 zck_12.1 rfl g1 (Mo_refuses_c l G fu top L M2 a0 0 ha0 (show InR 0 by decide) er4) (zrm_ok (by decide) (by decide)) ⟨Nat.le_refl 0, Nat.le_refl 0⟩ rfl (Nat.zero_le 8) hl.size rfl (Mo_birth_dc.at 8 rfl) (fun H locs hr4 S6 => ?_)
    cases h
    exact r_iret E S6 hr4 (Mo_birth_dc.at 9 rfl)
  · have h := ite_f h q
    refine u_al_n (x := a0) E (Mo_birth_dc.at 10 rfl) hl rfl ?_
    refine u_gR E zf_12_18 S3 g1 zw_6_225 (Mo_birth_dc.at 11 rfl) ?_
    refine u_il_n (x := a1) E (Mo_birth_dc.at 12 rfl) hl rfl ?_
    obtain ⟨r7, er7, h⟩ := bd1_e h
    refine u_cSI (As := [zR G.2.2.1 (M2 a0 18), .int (zO a1)]) (rest := []) E S3 zcw_yX12_whyNotBorn zw_8_89 zw_8_88 (Mo_whyNotBorn_c l G fu top L M2 (M2 a0 18) a1 (S3.1.inR _ _) ha1 er7) (zrm_ok (by decide) (by decide)) ⟨Nat.le_refl 0, Nat.le_refl 0⟩ rfl (Nat.zero_le 8) hl.size rfl (Mo_birth_dc.at 13 rfl) (fun H locs hr7 S8 => ?_)
    refine u_ist_n (y := r7) (vs' := [some (zR G.2.2.1 a0), some (.int (zO a1)), some (.int (zO r7))]) E rfl (Mo_birth_dc.at 14 rfl) hl (by decide) rfl (fun ls hl => ?_)
    refine u_il_n (x := r7) E (Mo_birth_dc.at 15 rfl) hl rfl ?_
    refine r_iconst E (Mo_birth_dc.at 16 rfl) ?_
    refine r_icmp_eq (tgt := 38) E hr7 (show InR (-1) by decide) (Mo_birth_dc.at 17 rfl) (by decide) (fun q => ?_) (fun q => ?_)
    · have h := ite_t h q
      refine u_al_n (x := a0) E (Mo_birth_dc.at 22 rfl) hl rfl ?_
      obtain ⟨M9, eM9, h⟩ := bd1_e h
      refine u_cVU (As := []) (rest := []) E S8 zcw_yX12_keeps zw_8_66 zq_5_11 zw_8_64 zck_12.1 rfl g1 (Mo_keeps_c l G fu top L M2 a0 ha0 eM9) (zrm_ok (by decide) (by decide)) ⟨Nat.le_refl 0, Nat.le_refl 0⟩ rfl (Nat.zero_le 8) hl.size rfl (Mo_birth_dc.at 23 rfl) (fun H locs _ S10 => ?_)
      refine u_al_n (x := a0) E (Mo_birth_dc.at 24 rfl) hl rfl ?_
      refine u_gR E zf_12_18 S10 g1 zw_6_225 (Mo_birth_dc.at 25 rfl) ?_
      refine u_il_n (x := a1) E (Mo_birth_dc.at 26 rfl) hl rfl ?_
      obtain ⟨M11, eM11, h⟩ := bd1_e h
      refine u_cSU (As := [zR G.2.2.1 (M9 a0 18), .int (zO a1)]) (rest := []) E S10 zcw_yX12_isBorn zw_8_95 zw_8_94 (Mo_isBorn_c l G fu top L M9 (M9 a0 18) a1 (S10.1.inR _ _) ha1 eM11) (zrm_ok (by decide) (by decide)) ⟨Nat.le_refl 0, Nat.le_refl 0⟩ rfl (Nat.zero_le 8) hl.size rfl (Mo_birth_dc.at 27 rfl) (fun H locs _ S12 => ?_)
      refine u_al_n (x := a0) E (Mo_birth_dc.at 28 rfl) hl rfl ?_
      refine u_gR E zf_12_18 S12 g1 zw_6_225 (Mo_birth_dc.at 29 rfl) ?_
      refine r_iconst E (Mo_birth_dc.at 30 rfl) ?_
      obtain ⟨g13, h⟩ := ite_e h
      obtain ⟨g14, h⟩ := ite_e h
      refine r_iald E S12 g13 g14 (Mo_birth_dc.at 31 rfl) ?_
      refine r_iconst E (Mo_birth_dc.at 32 rfl) ?_
      refine r_isub E (Mo_birth_dc.at 33 rfl) ?_
      cases h
      exact r_iret E S12 (inR_w32 _) (Mo_birth_dc.at 34 rfl)
    · have h := ite_f h q
      refine u_al_n (x := a0) E (Mo_birth_dc.at 18 rfl) hl rfl ?_
      refine u_il_n (x := r7) E (Mo_birth_dc.at 19 rfl) hl rfl ?_
      obtain ⟨M16, r15, er15, h⟩ := bd2_e h
      refine u_cVI (As := [.int (zO r7)]) (rest := []) E S8 zcw_yX12_refuses zw_8_58 zq_5_9 zw_8_56 zck_12.1 rfl g1 (Mo_refuses_c l G fu top L M2 a0 r7 ha0 hr7 er15) (zrm_ok (by decide) (by decide)) ⟨Nat.le_refl 0, Nat.le_refl 0⟩ rfl (Nat.zero_le 8) hl.size rfl (Mo_birth_dc.at 20 rfl) (fun H locs hr15 S17 => ?_)
      cases h
      exact r_iret E S17 hr15 (Mo_birth_dc.at 21 rfl)
theorem Mo_birth_c (l : Launch) (G : zG) (fu : Nat) (top : Int) (L : zL) (M : zM) (a0 : Int) (a1 : Int) {res : (zM × Int)} (ha0 : InR a0) (ha1 : InR a1) (h : Mo_birth fu L M a0 a1 = some res) : Met l yX12_birth (Cond.code yX12_birth cX12_birth 3 (some .int) :: zTB) (zrm 4 0 0) (va_Pc [zR G.2.2.1 a0, .int (zO a1)] (zPre G top L M)) (zQ G top L res.1 (some (.int (zO res.2))) (InR res.2)) 0 0 (zA G) :=
  z_met (by decide +kernel) (by simp [zR_cat, zcat_I, zcat_S]) (Nat.le_of_ble_eq_true rfl) fun p e s m below meth c ls E hn S hl => Mo_birth_w E ha0 ha1 S (hl.sub (And.intro rfl (And.intro rfl True.intro))) h
end
