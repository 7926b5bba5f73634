theorem Mo_death_dc : zDL cX12_death [(0, .aload_n 0, 1, 1), (1, .iconst 0, 1, 2), (2, .putfield 66, 3, 5), (5, .aload_n 0, 1, 6), (6, .getfield 238, 3, 9), (9, .ifCond .ne 9, 3, 12), (12, .aload_n 0, 1, 13), (13, .iconst 0, 1, 14), (14, .invokevirtual 276, 3, 17), (17, .ireturn, 1, 18), (18, .aload_n 0, 1, 19), (19, .getfield 31, 3, 22), (22, .iload_n 1, 1, 23), (23, .invokestatic 287, 3, 26), (26, .ifCond .ne 9, 3, 29), (29, .aload_n 0, 1, 30), (30, .iconst 1, 1, 31), (31, .invokevirtual 276, 3, 34), (34, .ireturn, 1, 35), (35, .aload_n 0, 1, 36), (36, .getfield 31, 3, 39), (39, .bipush 26, 2, 41), (41, .iload_n 1, 1, 42), (42, .iadd, 1, 43), (43, .iaload, 1, 44), (44, .ldc 254, 2, 46), (46, .if_icmp .eq 9, 3, 49), (49, .aload_n 0, 1, 50), (50, .iconst 3, 1, 51), (51, .invokevirtual 276, 3, 54), (54, .ireturn, 1, 55), (55, .aload_n 0, 1, 56), (56, .invokevirtual 279, 3, 59), (59, .aload_n 0, 1, 60), (60, .getfield 31, 3, 63), (63, .bipush 26, 2, 65), (65, .iload_n 1, 1, 66), (66, .iadd, 1, 67), (67, .aload_n 0, 1, 68), (68, .getfield 31, 3, 71), (71, .iconst 0, 1, 72), (72, .iaload, 1, 73), (73, .iastore, 1, 74), (74, .aload_n 0, 1, 75), (75, .getfield 31, 3, 78), (78, .iconst 0, 1, 79), (79, .iaload, 1, 80), (80, .aload_n 0, 1, 81), (81, .getfield 31, 3, 84), (84, .iconst 2, 1, 85), (85, .iload_n 1, 1, 86), (86, .iadd, 1, 87), (87, .iaload, 1, 88), (88, .isub, 1, 89), (89, .ireturn, 1, 90)] := zDL.of (by decide +kernel)
section
variable {p : Program} {l : Launch} {e : Env} {s : State} {m : MethodId} {args : Array Value} {below : List Frame} {meth : Method} {c : Code} {G : zG} {top : Int} {L : zL} {fu : Nat}
theorem Mo_death_w (E : zEv p m c cX12_death 2 s args RX12 meth (some .int) G) {res : (zM × Int)} {M : zM} {a0 : Int} {a1 : Int} {H : Heap} {locs : List Loc} {ls : Array Slot} (ha0 : InR a0) (ha1 : InR a1) (S : zS G top L M s H locs) (hl : zLV ls 2 [some (zR G.2.2.1 a0), some (.int (zO a1))]) (h : Mo_death fu L M a0 a1 = some res) : W p l e (zrm 3 0 0) s m args below meth c H locs 0 0 (MQ below (zQ G top L res.1 (some (.int (zO res.2))) (InR res.2)) args s 0 0 (zA G)) (F0 m 0 ls []) := by
  unfold Mo_death at h
  refine u_al_n (x := a0) E (Mo_death_dc.at 0 rfl) hl rfl ?_
  refine r_iconst E (Mo_death_dc.at 1 rfl) ?_
  obtain ⟨g1, h⟩ := ite_e h
  obtain ⟨M2, eM2, h⟩ := lt1_e h
  refine u_pI E eM2 zf_12_0 S g1 (show InR 0 by decide) (Or.inl rfl) rfl zw_6_207 (Mo_death_dc.at 2 rfl) (fun H locs S3 => ?_)
  refine u_al_n (x := a0) E (Mo_death_dc.at 3 rfl) hl rfl ?_
  refine u_gI E zf_12_19 S3 g1 zw_6_226 (Mo_death_dc.at 4 rfl) ?_
  refine r_if_ne (tgt := 18) E (S3.1.inR _ _) (Mo_death_dc.at 5 rfl) (by decide) (fun q => ?_) (fun q => ?_)
  · have h := ite_t h q
    refine u_al_n (x := a0) E (Mo_death_dc.at 6 rfl) hl rfl ?_
    refine r_iconst E (Mo_death_dc.at 7 rfl) ?_
    obtain ⟨M5, r4, er4, h⟩ := bd2_e h
    refine u_cVI (As := [.int (zO 0)]) (rest := []) E S3 zcw_yX12_refuses zw_8_58 zq_5_9 zw_8_56 zck_12.1 rfl g1 (Mo_refuses_c l G fu top L M2 a0 0 ha0 (show InR 0 by decide) er4) (zrm_ok (by decide) (by decide)) ⟨Nat.le_refl 0, Nat.le_refl 0⟩ rfl (Nat.zero_le 8) hl.size rfl (Mo_death_dc.at 8 rfl) (fun H locs hr4 S6 => ?_)
    cases h
    exact r_iret E S6 hr4 (Mo_death_dc.at 9 rfl)
  · have h := ite_f h q
    refine u_al_n (x := a0) E (Mo_death_dc.at 10 rfl) hl rfl ?_
    refine u_gR E zf_12_18 S3 g1 zw_6_225 (Mo_death_dc.at 11 rfl) ?_
    refine u_il_n (x := a1) E (Mo_death_dc.at 12 rfl) hl rfl ?_
    obtain ⟨r7, er7, h⟩ := bd1_e h
    refine u_cSI (As := [zR G.2.2.1 (M2 a0 18), .int (zO a1)]) (rest := []) E S3 zcw_yX12_isIn zw_8_92 zw_8_91 (Mo_isIn_c l G fu top L M2 (M2 a0 18) a1 (S3.1.inR _ _) ha1 er7) (zrm_ok (by decide) (by decide)) ⟨Nat.le_refl 0, Nat.le_refl 0⟩ rfl (Nat.zero_le 8) hl.size rfl (Mo_death_dc.at 13 rfl) (fun H locs hr7 S8 => ?_)
    refine r_if_ne (tgt := 35) E (inR_01 hr7) (Mo_death_dc.at 14 rfl) (by decide) (fun q => ?_) (fun q => ?_)
    · have h := ite_t h q
      refine u_al_n (x := a0) E (Mo_death_dc.at 15 rfl) hl rfl ?_
      refine r_iconst E (Mo_death_dc.at 16 rfl) ?_
      obtain ⟨M10, r9, er9, h⟩ := bd2_e h
      refine u_cVI (As := [.int (zO 1)]) (rest := []) E S8 zcw_yX12_refuses zw_8_58 zq_5_9 zw_8_56 zck_12.1 rfl g1 (Mo_refuses_c l G fu top L M2 a0 1 ha0 (show InR 1 by decide) er9) (zrm_ok (by decide) (by decide)) ⟨Nat.le_refl 0, Nat.le_refl 0⟩ rfl (Nat.zero_le 8) hl.size rfl (Mo_death_dc.at 17 rfl) (fun H locs hr9 S11 => ?_)
      cases h
      exact r_iret E S11 hr9 (Mo_death_dc.at 18 rfl)
    · have h := ite_f h q
      refine u_al_n (x := a0) E (Mo_death_dc.at 19 rfl) hl rfl ?_
      refine u_gR E zf_12_18 S8 g1 zw_6_225 (Mo_death_dc.at 20 rfl) ?_
      refine r_bipush E (Mo_death_dc.at 21 rfl) rfl ?_
      refine u_il_n (x := a1) E (Mo_death_dc.at 22 rfl) hl rfl ?_
      refine r_iadd E (Mo_death_dc.at 23 rfl) ?_
      obtain ⟨g12, h⟩ := ite_e h
      obtain ⟨g13, h⟩ := ite_e h
      refine r_iald E S8 g12 g13 (Mo_death_dc.at 24 rfl) ?_
      refine r_ldc (n := 16777216) E (Mo_death_dc.at 25 rfl) zw_8_42 rfl ?_
      refine r_icmp_eq (tgt := 55) E (S8.1.inR _ _) (show InR 16777216 by decide) (Mo_death_dc.at 26 rfl) (by decide) (fun q => ?_) (fun q => ?_)
      · have h := ite_t h q
        refine u_al_n (x := a0) E (Mo_death_dc.at 31 rfl) hl rfl ?_
        obtain ⟨M14, eM14, h⟩ := bd1_e h
        refine u_cVU (As := []) (rest := []) E S8 zcw_yX12_keeps zw_8_66 zq_5_11 zw_8_64 zck_12.1 rfl g1 (Mo_keeps_c l G fu top L M2 a0 ha0 eM14) (zrm_ok (by decide) (by decide)) ⟨Nat.le_refl 0, Nat.le_refl 0⟩ rfl (Nat.zero_le 8) hl.size rfl (Mo_death_dc.at 32 rfl) (fun H locs _ S15 => ?_)
        refine u_al_n (x := a0) E (Mo_death_dc.at 33 rfl) hl rfl ?_
        refine u_gR E zf_12_18 S15 g1 zw_6_225 (Mo_death_dc.at 34 rfl) ?_
        refine r_bipush E (Mo_death_dc.at 35 rfl) rfl ?_
        refine u_il_n (x := a1) E (Mo_death_dc.at 36 rfl) hl rfl ?_
        refine r_iadd E (Mo_death_dc.at 37 rfl) ?_
        refine u_al_n (x := a0) E (Mo_death_dc.at 38 rfl) hl rfl ?_
        refine u_gR E zf_12_18 S15 g1 zw_6_225 (Mo_death_dc.at 39 rfl) ?_
        refine r_iconst E (Mo_death_dc.at 40 rfl) ?_
        obtain ⟨g16, h⟩ := ite_e h
        obtain ⟨g17, h⟩ := ite_e h
        refine r_iald E S15 g16 g17 (Mo_death_dc.at 41 rfl) ?_
        obtain ⟨g18, h⟩ := ite_e h
        obtain ⟨M19, eM19, h⟩ := lt1_e h
        refine u_iast E eM19 S15 g16 g18 (S15.1.inR _ _) (Mo_death_dc.at 42 rfl) (fun H locs S20 => ?_)
        refine u_al_n (x := a0) E (Mo_death_dc.at 43 rfl) hl rfl ?_
        refine u_gR E zf_12_18 S20 g1 zw_6_225 (Mo_death_dc.at 44 rfl) ?_
        refine r_iconst E (Mo_death_dc.at 45 rfl) ?_
        obtain ⟨g21, h⟩ := ite_e h
        obtain ⟨g22, h⟩ := ite_e h
        refine r_iald E S20 g21 g22 (Mo_death_dc.at 46 rfl) ?_
        refine u_al_n (x := a0) E (Mo_death_dc.at 47 rfl) hl rfl ?_
        refine u_gR E zf_12_18 S20 g1 zw_6_225 (Mo_death_dc.at 48 rfl) ?_
        refine r_iconst E (Mo_death_dc.at 49 rfl) ?_
        refine u_il_n (x := a1) E (Mo_death_dc.at 50 rfl) hl rfl ?_
        refine r_iadd E (Mo_death_dc.at 51 rfl) ?_
        obtain ⟨g23, h⟩ := ite_e h
        refine r_iald E S20 g21 g23 (Mo_death_dc.at 52 rfl) ?_
        refine r_isub E (Mo_death_dc.at 53 rfl) ?_
        cases h
        exact r_iret E S20 (inR_w32 _) (Mo_death_dc.at 54 rfl)
      · have h := ite_f h q
        refine u_al_n (x := a0) E (Mo_death_dc.at 27 rfl) hl rfl ?_
        refine r_iconst E (Mo_death_dc.at 28 rfl) ?_
        obtain ⟨M25, r24, er24, h⟩ := bd2_e h
        refine u_cVI (As := [.int (zO 3)]) (rest := []) E S8 zcw_yX12_refuses zw_8_58 zq_5_9 zw_8_56 zck_12.1 rfl g1 (Mo_refuses_c l G fu top L M2 a0 3 ha0 (show InR 3 by decide) er24) (zrm_ok (by decide) (by decide)) ⟨Nat.le_refl 0, Nat.le_refl 0⟩ rfl (Nat.zero_le 8) hl.size rfl (Mo_death_dc.at 29 rfl) (fun H locs hr24 S26 => ?_)
        cases h
        exact r_iret E S26 hr24 (Mo_death_dc.at 30 rfl)
theorem Mo_death_c (l : Launch) (G : zG) (fu : Nat) (top : Int) (L : zL) (M : zM) (a0 : Int) (a1 : Int) {res : (zM × Int)} (ha0 : InR a0) (ha1 : InR a1) (h : Mo_death fu L M a0 a1 = some res) : Met l yX12_death (Cond.code yX12_death cX12_death 2 (some .int) :: zTB) (zrm 3 0 0) (va_Pc [zR G.2.2.1 a0, .int (zO a1)] (zPre G top L M)) (zQ G top L res.1 (some (.int (zO res.2))) (InR res.2)) 0 0 (zA G) :=
  z_met (by decide +kernel) (by simp [zR_cat, zcat_I, zcat_S]) (Nat.le_of_ble_eq_true rfl) fun p e s m below meth c ls E hn S hl => Mo_death_w E ha0 ha1 S (hl.sub (And.intro rfl (And.intro rfl True.intro))) h
end
theorem Mo_becomes_dc : zDL cX12_becomes [(0, .aload_n 0, 1, 1), (1, .getfield 238, 3, 4), (4, .ifCond .ne 9, 3, 7), (7, .aload_n 0, 1, 8), (8, .iconst 0, 1, 9), (9, .invokevirtual 276, 3, 12), (12, .ireturn, 1, 13), (13, .iload_n 2, 1, 14), (14, .i2l, 1, 15), (15, .iload_n 3, 1, 16), (16, .i2l, 1, 17), (17, .ldc2_w 299, 3, 20), (20, .invokestatic 76, 3, 23), (23, .ifCond .ne 9, 3, 26), (26, .aload_n 0, 1, 27), (27, .iconst 2, 1, 28), (28, .invokevirtual 276, 3, 31), (31, .ireturn, 1, 32), (32, .aload_n 0, 1, 33), (33, .invokevirtual 279, 3, 36), (36, .aload_n 0, 1, 37), (37, .getfield 31, 3, 40), (40, .iload_n 1, 1, 41), (41, .iaload, 1, 42), (42, .istore 4, 2, 44), (44, .aload_n 0, 1, 45), (45, .getfield 31, 3, 48), (48, .iload_n 1, 1, 49), (49, .iload_n 2, 1, 50), (50, .iastore, 1, 51), (51, .iload 4, 2, 53), (53, .ireturn, 1, 54)] := zDL.of (by decide +kernel)
section
variable {p : Program} {l : Launch} {e : Env} {s : State} {m : MethodId} {args : Array Value} {below : List Frame} {meth : Method} {c : Code} {G : zG} {top : Int} {L : zL} {fu : Nat}
theorem Mo_becomes_w (E : zEv p m c cX12_becomes 5 s args RX12 meth (some .int) G) {res : (zM × Int)} {M : zM} {a0 : Int} {a1 : Int} {a2 : Int} {a3 : Int} {H : Heap} {locs : List Loc} {ls : Array Slot} (ha0 : InR a0) (ha1 : InR a1) (ha2 : InR a2) (ha3 : InR a3) (S : zS G top L M s H locs) (hl : zLV ls 5 [some (zR G.2.2.1 a0), some (.int (zO a1)), some (.int (zO a2)), some (.int (zO a3)), none]) (h : Mo_becomes fu L M a0 a1 a2 a3 = some res) : W p l e (zrm 2 0 0) s m args below meth c H locs 0 0 (MQ below (zQ G top L res.1 (some (.int (zO res.2))) (InR res.2)) args s 0 0 (zA G)) (F0 m 0 ls []) := by
  unfold Mo_becomes at h
  refine u_al_n (x := a0) E (Mo_becomes_dc.at 0 rfl) hl rfl ?_
  obtain ⟨g1, h⟩ := ite_e h
  refine u_gI E zf_12_19 S g1 zw_6_226 (Mo_becomes_dc.at 1 rfl) ?_
  refine r_if_ne (tgt := 13) E (S.1.inR _ _) (Mo_becomes_dc.at 2 rfl) (by decide) (fun q => ?_) (fun q => ?_)
  · have h := ite_t h q
    refine u_al_n (x := a0) E (Mo_becomes_dc.at 3 rfl) hl rfl ?_
    refine r_iconst E (Mo_becomes_dc.at 4 rfl) ?_
    obtain ⟨M3, r2, er2, h⟩ := bd2_e h
    refine u_cVI (As := [.int (zO 0)]) (rest := []) E S zcw_yX12_refuses zw_8_58 zq_5_9 zw_8_56 zck_12.1 rfl g1 (Mo_refuses_c l G fu top L M a0 0 ha0 (show InR 0 by decide) er2) (zrm_ok (by decide) (by decide)) ⟨Nat.le_refl 0, Nat.le_refl 0⟩ rfl (Nat.zero_le 8) hl.size rfl (Mo_becomes_dc.at 5 rfl) (fun H locs hr2 S4 => ?_)
    cases h
    exact r_iret E S4 hr2 (Mo_becomes_dc.at 6 rfl)
  · have h := ite_f h q
    refine u_il_n (x := a2) E (Mo_becomes_dc.at 7 rfl) hl rfl ?_
    refine r_i2l E ha2 (Mo_becomes_dc.at 8 rfl) ?_
    refine u_il_n (x := a3) E (Mo_becomes_dc.at 9 rfl) hl rfl ?_
    refine r_i2l E ha3 (Mo_becomes_dc.at 10 rfl) ?_
    refine r_ldc2 (x := 99) E (Mo_becomes_dc.at 11 rfl) zw_8_109 rfl ?_
    obtain ⟨r5, er5, h⟩ := bd1_e h
    refine u_cSI (As := [.long (Int64.ofInt a2), .long (Int64.ofInt a3), .long (Int64.ofInt 99)]) (rest := []) E S zcw_yX12_in zw_7_134 zw_7_133 (Mo_in_c l G fu top L M a2 a3 99 ha2 ha3 (show InR 99 by decide) er5) (zrm_ok (by decide) (by decide)) ⟨Nat.le_refl 0, Nat.le_refl 0⟩ rfl (Nat.zero_le 8) hl.size rfl (Mo_becomes_dc.at 12 rfl) (fun H locs hr5 S6 => ?_)
    refine r_if_ne (tgt := 32) E (inR_01 hr5) (Mo_becomes_dc.at 13 rfl) (by decide) (fun q => ?_) (fun q => ?_)
    · have h := ite_t h q
      refine u_al_n (x := a0) E (Mo_becomes_dc.at 14 rfl) hl rfl ?_
      refine r_iconst E (Mo_becomes_dc.at 15 rfl) ?_
      obtain ⟨M8, r7, er7, h⟩ := bd2_e h
      refine u_cVI (As := [.int (zO 2)]) (rest := []) E S6 zcw_yX12_refuses zw_8_58 zq_5_9 zw_8_56 zck_12.1 rfl g1 (Mo_refuses_c l G fu top L M a0 2 ha0 (show InR 2 by decide) er7) (zrm_ok (by decide) (by decide)) ⟨Nat.le_refl 0, Nat.le_refl 0⟩ rfl (Nat.zero_le 8) hl.size rfl (Mo_becomes_dc.at 16 rfl) (fun H locs hr7 S9 => ?_)
      cases h
      exact r_iret E S9 hr7 (Mo_becomes_dc.at 17 rfl)
    · have h := ite_f h q
      refine u_al_n (x := a0) E (Mo_becomes_dc.at 18 rfl) hl rfl ?_
      obtain ⟨M10, eM10, h⟩ := bd1_e h
      refine u_cVU (As := []) (rest := []) E S6 zcw_yX12_keeps zw_8_66 zq_5_11 zw_8_64 zck_12.1 rfl g1 (Mo_keeps_c l G fu top L M a0 ha0 eM10) (zrm_ok (by decide) (by decide)) ⟨Nat.le_refl 0, Nat.le_refl 0⟩ rfl (Nat.zero_le 8) hl.size rfl (Mo_becomes_dc.at 19 rfl) (fun H locs _ S11 => ?_)
      refine u_al_n (x := a0) E (Mo_becomes_dc.at 20 rfl) hl rfl ?_
      refine u_gR E zf_12_18 S11 g1 zw_6_225 (Mo_becomes_dc.at 21 rfl) ?_
      refine u_il_n (x := a1) E (Mo_becomes_dc.at 22 rfl) hl rfl ?_
      obtain ⟨g12, h⟩ := ite_e h
      obtain ⟨g13, h⟩ := ite_e h
      refine r_iald E S11 g12 g13 (Mo_becomes_dc.at 23 rfl) ?_
      obtain ⟨v14, ev14, h⟩ := lt1_e h
      have hv14 := inR_eq ev14 (S11.1.inR _ _)
      refine u_ist (y := v14) (vs' := [some (zR G.2.2.1 a0), some (.int (zO a1)), some (.int (zO a2)), some (.int (zO a3)), some (.int (zO v14))]) E ev14 (Mo_becomes_dc.at 24 rfl) hl (by decide) rfl (fun ls hl => ?_)
      refine u_al_n (x := a0) E (Mo_becomes_dc.at 25 rfl) hl rfl ?_
      refine u_gR E zf_12_18 S11 g1 zw_6_225 (Mo_becomes_dc.at 26 rfl) ?_
      refine u_il_n (x := a1) E (Mo_becomes_dc.at 27 rfl) hl rfl ?_
      refine u_il_n (x := a2) E (Mo_becomes_dc.at 28 rfl) hl rfl ?_
      obtain ⟨g15, h⟩ := ite_e h
      obtain ⟨M16, eM16, h⟩ := lt1_e h
      refine u_iast E eM16 S11 g12 g15 ha2 (Mo_becomes_dc.at 29 rfl) (fun H locs S17 => ?_)
      refine u_il (x := v14) E (Mo_becomes_dc.at 30 rfl) hl rfl ?_
      cases h
      exact r_iret E S17 hv14 (Mo_becomes_dc.at 31 rfl)
theorem Mo_becomes_c (l : Launch) (G : zG) (fu : Nat) (top : Int) (L : zL) (M : zM) (a0 : Int) (a1 : Int) (a2 : Int) (a3 : Int) {res : (zM × Int)} (ha0 : InR a0) (ha1 : InR a1) (ha2 : InR a2) (ha3 : InR a3) (h : Mo_becomes fu L M a0 a1 a2 a3 = some res) : Met l yX12_becomes (Cond.code yX12_becomes cX12_becomes 5 (some .int) :: zTB) (zrm 2 0 0) (va_Pc [zR G.2.2.1 a0, .int (zO a1), .int (zO a2), .int (zO a3)] (zPre G top L M)) (zQ G top L res.1 (some (.int (zO res.2))) (InR res.2)) 0 0 (zA G) :=
  z_met (by decide +kernel) (by simp [zR_cat, zcat_I, zcat_S]) (Nat.le_of_ble_eq_true rfl) fun p e s m below meth c ls E hn S hl => Mo_becomes_w E ha0 ha1 ha2 ha3 S (hl.sub (And.intro rfl (And.intro rfl (And.intro rfl (And.intro rfl True.intro))))) h
end
theorem Mo_period_dc : zDL cX12_period [(0, .aload_n 0, 1, 1), (1, .iconst 0, 1, 2), (2, .putfield 66, 3, 5), (5, .aload_n 0, 1, 6), (6, .bipush 74, 2, 8), (8, .iload_n 1, 1, 9), (9, .iconst 0, 1, 10), (10, .invokevirtual 301, 3, 13), (13, .ireturn, 1, 14)] := zDL.of (by decide +kernel)
section
variable {p : Program} {l : Launch} {e : Env} {s : State} {m : MethodId} {args : Array Value} {below : List Frame} {meth : Method} {c : Code} {G : zG} {top : Int} {L : zL} {fu : Nat}
theorem Mo_period_w (E : zEv p m c cX12_period 2 s args RX12 meth (some .int) G) {res : (zM × Int)} {M : zM} {a0 : Int} {a1 : Int} {H : Heap} {locs : List Loc} {ls : Array Slot} (ha0 : InR a0) (ha1 : InR a1) (S : zS G top L M s H locs) (hl : zLV ls 2 [some (zR G.2.2.1 a0), some (.int (zO a1))]) (h : Mo_period fu L M a0 a1 = some res) : W p l e (zrm 3 0 0) s m args below meth c H locs 0 0 (MQ below (zQ G top L res.1 (some (.int (zO res.2))) (InR res.2)) args s 0 0 (zA G)) (F0 m 0 ls []) := by
  unfold Mo_period at h
  refine u_al_n (x := a0) E (Mo_period_dc.at 0 rfl) hl rfl ?_
  refine r_iconst E (Mo_period_dc.at 1 rfl) ?_
  obtain ⟨g1, h⟩ := ite_e h
  obtain ⟨M2, eM2, h⟩ := lt1_e h
  refine u_pI E eM2 zf_12_0 S g1 (show InR 0 by decide) (Or.inl rfl) rfl zw_6_207 (Mo_period_dc.at 2 rfl) (fun H locs S3 => ?_)
  refine u_al_n (x := a0) E (Mo_period_dc.at 3 rfl) hl rfl ?_
  refine r_bipush E (Mo_period_dc.at 4 rfl) rfl ?_
  refine u_il_n (x := a1) E (Mo_period_dc.at 5 rfl) hl rfl ?_
  refine r_iconst E (Mo_period_dc.at 6 rfl) ?_
  obtain ⟨M5, r4, er4, h⟩ := bd2_e h
  refine u_cVI (As := [.int (zO 74), .int (zO a1), .int (zO 0)]) (rest := []) E S3 zcw_yX12_becomes zw_8_107 zq_5_13 zw_8_105 zck_12.1 rfl g1 (Mo_becomes_c l G fu top L M2 a0 74 a1 0 ha0 (show InR 74 by decide) ha1 (show InR 0 by decide) er4) (zrm_ok (by decide) (by decide)) ⟨Nat.le_refl 0, Nat.le_refl 0⟩ rfl (Nat.zero_le 8) hl.size rfl (Mo_period_dc.at 7 rfl) (fun H locs hr4 S6 => ?_)
  cases h
  exact r_iret E S6 hr4 (Mo_period_dc.at 8 rfl)
theorem Mo_period_c (l : Launch) (G : zG) (fu : Nat) (top : Int) (L : zL) (M : zM) (a0 : Int) (a1 : Int) {res : (zM × Int)} (ha0 : InR a0) (ha1 : InR a1) (h : Mo_period fu L M a0 a1 = some res) : Met l yX12_period (Cond.code yX12_period cX12_period 2 (some .int) :: zTB) (zrm 3 0 0) (va_Pc [zR G.2.2.1 a0, .int (zO a1)] (zPre G top L M)) (zQ G top L res.1 (some (.int (zO res.2))) (InR res.2)) 0 0 (zA G) :=
  z_met (by decide +kernel) (by simp [zR_cat, zcat_I, zcat_S]) (Nat.le_of_ble_eq_true rfl) fun p e s m below meth c ls E hn S hl => Mo_period_w E ha0 ha1 S (hl.sub (And.intro rfl (And.intro rfl True.intro))) h
end
theorem Mo_limit_dc : zDL cX12_limit [(0, .aload_n 0, 1, 1), (1, .iconst 0, 1, 2), (2, .putfield 66, 3, 5), (5, .aload_n 0, 1, 6), (6, .bipush 75, 2, 8), (8, .iload_n 1, 1, 9), (9, .bipush 13, 2, 11), (11, .invokevirtual 301, 3, 14), (14, .ireturn, 1, 15)] := zDL.of (by decide +kernel)
section
variable {p : Program} {l : Launch} {e : Env} {s : State} {m : MethodId} {args : Array Value} {below : List Frame} {meth : Method} {c : Code} {G : zG} {top : Int} {L : zL} {fu : Nat}
theorem Mo_limit_w (E : zEv p m c cX12_limit 2 s args RX12 meth (some .int) G) {res : (zM × Int)} {M : zM} {a0 : Int} {a1 : Int} {H : Heap} {locs : List Loc} {ls : Array Slot} (ha0 : InR a0) (ha1 : InR a1) (S : zS G top L M s H locs) (hl : zLV ls 2 [some (zR G.2.2.1 a0), some (.int (zO a1))]) (h : Mo_limit fu L M a0 a1 = some res) : W p l e (zrm 3 0 0) s m args below meth c H locs 0 0 (MQ below (zQ G top L res.1 (some (.int (zO res.2))) (InR res.2)) args s 0 0 (zA G)) (F0 m 0 ls []) := by
  unfold Mo_limit at h
  refine u_al_n (x := a0) E (Mo_limit_dc.at 0 rfl) hl rfl ?_
  refine r_iconst E (Mo_limit_dc.at 1 rfl) ?_
  obtain ⟨g1, h⟩ := ite_e h
  obtain ⟨M2, eM2, h⟩ := lt1_e h
  refine u_pI E eM2 zf_12_0 S g1 (show InR 0 by decide) (Or.inl rfl) rfl zw_6_207 (Mo_limit_dc.at 2 rfl) (fun H locs S3 => ?_)
  refine u_al_n (x := a0) E (Mo_limit_dc.at 3 rfl) hl rfl ?_
  refine r_bipush E (Mo_limit_dc.at 4 rfl) rfl ?_
  refine u_il_n (x := a1) E (Mo_limit_dc.at 5 rfl) hl rfl ?_
  refine r_bipush E (Mo_limit_dc.at 6 rfl) rfl ?_
  obtain ⟨M5, r4, er4, h⟩ := bd2_e h
  refine u_cVI (As := [.int (zO 75), .int (zO a1), .int (zO 13)]) (rest := []) E S3 zcw_yX12_becomes zw_8_107 zq_5_13 zw_8_105 zck_12.1 rfl g1 (Mo_becomes_c l G fu top L M2 a0 75 a1 13 ha0 (show InR 75 by decide) ha1 (show InR 13 by decide) er4) (zrm_ok (by decide) (by decide)) ⟨Nat.le_refl 0, Nat.le_refl 0⟩ rfl (Nat.zero_le 8) hl.size rfl (Mo_limit_dc.at 7 rfl) (fun H locs hr4 S6 => ?_)
  cases h
  exact r_iret E S6 hr4 (Mo_limit_dc.at 8 rfl)
theorem Mo_limit_c (l : Launch) (G : zG) (fu : Nat) (top : Int) (L : zL) (M : zM) (a0 : Int) (a1 : Int) {res : (zM × Int)} (ha0 : InR a0) (ha1 : InR a1) (h : Mo_limit fu L M a0 a1 = some res) : Met l yX12_limit (Cond.code yX12_limit cX12_limit 2 (some .int) :: zTB) (zrm 3 0 0) (va_Pc [zR G.2.2.1 a0, .int (zO a1)] (zPre G top L M)) (zQ G top L res.1 (some (.int (zO res.2))) (InR res.2)) 0 0 (zA G) :=
  z_met (by decide +kernel) (by simp [zR_cat, zcat_I, zcat_S]) (Nat.le_of_ble_eq_true rfl) fun p e s m below meth c ls E hn S hl => Mo_limit_w E ha0 ha1 S (hl.sub (And.intro rfl (And.intro rfl True.intro))) h
end
theorem Mo_living_dc : zDL cX12_living [(0, .iconst 0, 1, 1), (1, .istore_n 2, 1, 2), (2, .iconst 0, 1, 3), (3, .istore_n 3, 1, 4), (4, .iload_n 3, 1, 5), (5, .iload_n 1, 1, 6), (6, .if_icmp .ge 30, 3, 9), (9, .iload_n 2, 1, 10), (10, .aload_n 0, 1, 11), (11, .bipush 26, 2, 13), (13, .iload_n 3, 1, 14), (14, .iadd, 1, 15), (15, .iaload, 1, 16), (16, .ldc 254, 2, 18), (18, .if_icmp .ne 9, 3, 21), (21, .iconst 1, 1, 22), (22, .iload_n 3, 1, 23), (23, .ishl, 1, 24), (24, .goto 4, 3, 27), (27, .iconst 0, 1, 28), (28, .ior, 1, 29), (29, .istore_n 2, 1, 30), (30, .iinc 3 1, 3, 33), (33, .goto (-29), 3, 36), (36, .iload_n 2, 1, 37), (37, .ireturn, 1, 38)] := zDL.of (by decide +kernel)
section
variable {p : Program} {l : Launch} {e : Env} {s : State} {m : MethodId} {args : Array Value} {below : List Frame} {meth : Method} {c : Code} {G : zG} {top : Int} {L : zL} {fu : Nat}
theorem Mo_living_s4_w (E : zEv p m c cX12_living 4 s args RX12 meth (some .int) G) {res : Int} {k4 : zM → Int → Int → Int → Int → Option Int} (hk4 : ∀ (M : zM) (x0 : Int) (x1 : Int) (x2 : Int) (x3 : Int), InR x0 → InR x1 → InR x2 → InR x3 → ∀ (H : Heap) (locs : List Loc) (ls : Array Slot), zS G top L M s H locs → zLV ls 4 [some (zR G.2.2.1 x0), some (.int (zO x1)), some (.int (zO x2)), some (.int (zO x3))] → k4 M x0 x1 x2 x3 = some res → W p l e (zrm 1 0 0) s m args below meth c H locs 0 0 (MQ below (zQ G top L M (some (.int (zO res))) (InR res)) args s 0 0 (zA G)) (F0 m 4 ls [])) {M : zM} {x0 : Int} {x1 : Int} {x2 : Int} {x3 : Int} {H : Heap} {locs : List Loc} {ls : Array Slot} (hx0 : InR x0) (hx1 : InR x1) (hx2 : InR x2) (hx3 : InR x3) (S : zS G top L M s H locs) (hl : zLV ls 4 [some (zR G.2.2.1 x0), some (.int (zO x1)), some (.int (zO x2)), some (.int (zO x3))]) (h : Mo_living_s4 fu k4 L M x0 x1 x2 x3 = some res) : W p l e (zrm 1 0 0) s m args below meth c H locs 0 0 (MQ below (zQ G top L M (some (.int (zO res))) (InR res)) args s 0 0 (zA G)) (F0 m 4 ls []) := by
  unfold Mo_living_s4 at h
  refine u_il_n (x := x3) E (Mo_living_dc.at 4 rfl) hl rfl ?_
  refine u_il_n (x := x1) E (Mo_living_dc.at 5 rfl) hl rfl ?_
  refine r_icmp_ge (tgt := 36) E hx3 hx1 (Mo_living_dc.at 6 rfl) (by decide) (fun q => ?_) (fun q => ?_)
  · have h := ite_t h q
    refine u_il_n (x := x2) E (Mo_living_dc.at 7 rfl) hl rfl ?_
    refine u_al_n (x := x0) E (Mo_living_dc.at 8 rfl) hl rfl ?_
    refine r_bipush E (Mo_living_dc.at 9 rfl) rfl ?_
    refine u_il_n (x := x3) E (Mo_living_dc.at 10 rfl) hl rfl ?_
    refine r_iadd E (Mo_living_dc.at 11 rfl) ?_
    obtain ⟨g1, h⟩ := ite_e h
    obtain ⟨g2, h⟩ := ite_e h
    refine r_iald E S g1 g2 (Mo_living_dc.at 12 rfl) ?_
    refine r_ldc (n := 16777216) E (Mo_living_dc.at 13 rfl) zw_8_42 rfl ?_
    refine r_icmp_ne (tgt := 27) E (S.1.inR _ _) (show InR 16777216 by decide) (Mo_living_dc.at 14 rfl) (by decide) (fun q => ?_) (fun q => ?_)
    · have h := ite_t h q
      refine r_iconst E (Mo_living_dc.at 15 rfl) ?_
      refine u_il_n (x := x3) E (Mo_living_dc.at 16 rfl) hl rfl ?_
      refine r_ishl E (Mo_living_dc.at 17 rfl) ?_
      refine r_goto (tgt := 28) E (Mo_living_dc.at 18 rfl) (by decide) ?_
      refine r_ior E (Mo_living_dc.at 20 rfl) ?_
      obtain ⟨v3, ev3, h⟩ := lt1_e h
      have hv3 := inR_eq ev3 (inR_ior _ _)
      refine u_ist_n (y := v3) (vs' := [some (zR G.2.2.1 x0), some (.int (zO x1)), some (.int (zO v3)), some (.int (zO x3))]) E ev3 (Mo_living_dc.at 21 rfl) hl (by decide) rfl (fun ls hl => ?_)
      obtain ⟨v4, ev4, h⟩ := lt1_e h
      have hv4 := inR_eq ev4 (inR_w32 _)
      refine u_iinc (y := v4) (vs' := [some (zR G.2.2.1 x0), some (.int (zO x1)), some (.int (zO v3)), some (.int (zO v4))]) E ev4 (Mo_living_dc.at 22 rfl) hl rfl (by decide) rfl (fun ls hl => ?_)
      refine r_goto (tgt := 4) E (Mo_living_dc.at 23 rfl) (by decide) ?_
      exact hk4 _ x0 x1 v3 v4 hx0 hx1 hv3 hv4 _ _ _ S (hl.sub (And.intro rfl (And.intro rfl (And.intro rfl (And.intro rfl True.intro))))) h
    · have h := ite_f h q
      refine r_iconst E (Mo_living_dc.at 19 rfl) ?_
      refine r_ior E (Mo_living_dc.at 20 rfl) ?_
      obtain ⟨v5, ev5, h⟩ := lt1_e h
      have hv5 := inR_eq ev5 (inR_ior _ _)
      refine u_ist_n (y := v5) (vs' := [some (zR G.2.2.1 x0), some (.int (zO x1)), some (.int (zO v5)), some (.int (zO x3))]) E ev5 (Mo_living_dc.at 21 rfl) hl (by decide) rfl (fun ls hl => ?_)
      obtain ⟨v6, ev6, h⟩ := lt1_e h
      have hv6 := inR_eq ev6 (inR_w32 _)
      refine u_iinc (y := v6) (vs' := [some (zR G.2.2.1 x0), some (.int (zO x1)), some (.int (zO v5)), some (.int (zO v6))]) E ev6 (Mo_living_dc.at 22 rfl) hl rfl (by decide) rfl (fun ls hl => ?_)
      refine r_goto (tgt := 4) E (Mo_living_dc.at 23 rfl) (by decide) ?_
      exact hk4 _ x0 x1 v5 v6 hx0 hx1 hv5 hv6 _ _ _ S (hl.sub (And.intro rfl (And.intro rfl (And.intro rfl (And.intro rfl True.intro))))) h
  · have h := ite_f h q
    refine u_il_n (x := x2) E (Mo_living_dc.at 24 rfl) hl rfl ?_
    cases h
    exact r_iret E S hx2 (Mo_living_dc.at 25 rfl)
theorem Mo_living_l4_w (E : zEv p m c cX12_living 4 s args RX12 meth (some .int) G) {res : Int} : ∀ (n : Nat) (M : zM) (x0 : Int) (x1 : Int) (x2 : Int) (x3 : Int), InR x0 → InR x1 → InR x2 → InR x3 → ∀ (H : Heap) (locs : List Loc) (ls : Array Slot), zS G top L M s H locs → zLV ls 4 [some (zR G.2.2.1 x0), some (.int (zO x1)), some (.int (zO x2)), some (.int (zO x3))] → Mo_living_l4 fu L n M x0 x1 x2 x3 = some res → W p l e (zrm 1 0 0) s m args below meth c H locs 0 0 (MQ below (zQ G top L M (some (.int (zO res))) (InR res)) args s 0 0 (zA G)) (F0 m 4 ls [])
  | 0, _, _, _, _, _ => fun _ _ _ _ _ _ _ _ _ h => (by cases h)
  | n + 1, M, x0, x1, x2, x3 => fun hx0 hx1 hx2 hx3 H locs ls S hl h => Mo_living_s4_w E (fun M x0 x1 x2 x3 hx0 hx1 hx2 hx3 H locs ls S hl h => Mo_living_l4_w E n M x0 x1 x2 x3 hx0 hx1 hx2 hx3 H locs ls S hl h) hx0 hx1 hx2 hx3 S hl h
theorem Mo_living_w (E : zEv p m c cX12_living 4 s args RX12 meth (some .int) G) {res : Int} {M : zM} {a0 : Int} {a1 : Int} {H : Heap} {locs : List Loc} {ls : Array Slot} (ha0 : InR a0) (ha1 : InR a1) (S : zS G top L M s H locs) (hl : zLV ls 4 [some (zR G.2.2.1 a0), some (.int (zO a1)), none, none]) (h : Mo_living fu L M a0 a1 = some res) : W p l e (zrm 1 0 0) s m args below meth c H locs 0 0 (MQ below (zQ G top L M (some (.int (zO res))) (InR res)) args s 0 0 (zA G)) (F0 m 0 ls []) := by
  unfold Mo_living at h
  refine r_iconst E (Mo_living_dc.at 0 rfl) ?_
  refine u_ist_n (y := 0) (vs' := [some (zR G.2.2.1 a0), some (.int (zO a1)), some (.int (zO 0)), none]) E rfl (Mo_living_dc.at 1 rfl) hl (by decide) rfl (fun ls hl => ?_)
  refine r_iconst E (Mo_living_dc.at 2 rfl) ?_
  refine u_ist_n (y := 0) (vs' := [some (zR G.2.2.1 a0), some (.int (zO a1)), some (.int (zO 0)), some (.int (zO 0))]) E rfl (Mo_living_dc.at 3 rfl) hl (by decide) rfl (fun ls hl => ?_)
  exact Mo_living_l4_w E fu _ a0 a1 0 0 ha0 ha1 (show InR 0 by decide) (show InR 0 by decide) _ _ _ S (hl.sub (And.intro rfl (And.intro rfl (And.intro rfl (And.intro rfl True.intro))))) h
theorem Mo_living_c (l : Launch) (G : zG) (fu : Nat) (top : Int) (L : zL) (M : zM) (a0 : Int) (a1 : Int) {res : Int} (ha0 : InR a0) (ha1 : InR a1) (h : Mo_living fu L M a0 a1 = some res) : Met l yX12_living (Cond.code yX12_living cX12_living 4 (some .int) :: zTB) (zrm 1 0 0) (va_Pc [zR G.2.2.1 a0, .int (zO a1)] (zPre G top L M)) (zQ G top L M (some (.int (zO res))) (InR res)) 0 0 (zA G) :=
  z_met (by decide +kernel) (by simp [zR_cat, zcat_I, zcat_S]) (Nat.le_of_ble_eq_true rfl) fun p e s m below meth c ls E hn S hl => Mo_living_w E ha0 ha1 S (hl.sub (And.intro rfl (And.intro rfl True.intro))) h
end
theorem Mo_lastDeath_dc : zDL cX12_lastDeath [(0, .iconst (-1), 1, 1), (1, .istore_n 2, 1, 2), (2, .iconst 0, 1, 3), (3, .istore_n 3, 1, 4), (4, .iload_n 3, 1, 5), (5, .aload_n 0, 1, 6), (6, .getfield 251, 3, 9), (9, .if_icmp .ge 33, 3, 12), (12, .aload_n 1, 1, 13), (13, .bipush 26, 2, 15), (15, .iload_n 3, 1, 16), (16, .iadd, 1, 17), (17, .iaload, 1, 18), (18, .ldc 254, 2, 20), (20, .if_icmp .ne 5, 3, 23), (23, .iconst (-1), 1, 24), (24, .ireturn, 1, 25), (25, .iload_n 2, 1, 26), (26, .aload_n 1, 1, 27), (27, .bipush 26, 2, 29), (29, .iload_n 3, 1, 30), (30, .iadd, 1, 31), (31, .iaload, 1, 32), (32, .invokestatic 305, 3, 35), (35, .istore_n 2, 1, 36), (36, .iinc 3 1, 3, 39), (39, .goto (-35), 3, 42), (42, .iload_n 2, 1, 43), (43, .ireturn, 1, 44)] := zDL.of (by decide +kernel)
section
variable {p : Program} {l : Launch} {e : Env} {s : State} {m : MethodId} {args : Array Value} {below : List Frame} {meth : Method} {c : Code} {G : zG} {top : Int} {L : zL} {fu : Nat}
theorem Mo_lastDeath_s4_w (E : zEv p m c cX12_lastDeath 4 s args RX12 meth (some .int) G) {res : Int} {k4 : zM → Int → Int → Int → Int → Option Int} (hk4 : ∀ (M : zM) (x0 : Int) (x1 : Int) (x2 : Int) (x3 : Int), InR x0 → InR x1 → InR x2 → InR x3 → ∀ (H : Heap) (locs : List Loc) (ls : Array Slot), zS G top L M s H locs → zLV ls 4 [some (zR G.2.2.1 x0), some (zR G.2.2.1 x1), some (.int (zO x2)), some (.int (zO x3))] → k4 M x0 x1 x2 x3 = some res → W p l e (zrm 1 0 0) s m args below meth c H locs 0 0 (MQ below (zQ G top L M (some (.int (zO res))) (InR res)) args s 0 0 (zA G)) (F0 m 4 ls [])) {M : zM} {x0 : Int} {x1 : Int} {x2 : Int} {x3 : Int} {H : Heap} {locs : List Loc} {ls : Array Slot} (hx0 : InR x0) (hx1 : InR x1) (hx2 : InR x2) (hx3 : InR x3) (S : zS G top L M s H locs) (hl : zLV ls 4 [some (zR G.2.2.1 x0), some (zR G.2.2.1 x1), some (.int (zO x2)), some (.int (zO x3))]) (h : Mo_lastDeath_s4 fu k4 L M x0 x1 x2 x3 = some res) : W p l e (zrm 1 0 0) s m args below meth c H locs 0 0 (MQ below (zQ G top L M (some (.int (zO res))) (InR res)) args s 0 0 (zA G)) (F0 m 4 ls []) := by
  unfold Mo_lastDeath_s4 at h
  refine u_il_n (x := x3) E (Mo_lastDeath_dc.at 4 rfl) hl rfl ?_
  refine u_al_n (x := x0) E (Mo_lastDeath_dc.at 5 rfl) hl rfl ?_
  obtain ⟨g1, h⟩ := ite_e h
  refine u_gI E zf_12_20 S g1 zw_6_227 (Mo_lastDeath_dc.at 6 rfl) ?_
  refine r_icmp_ge (tgt := 42) E hx3 (S.1.inR _ _) (Mo_lastDeath_dc.at 7 rfl) (by decide) (fun q => ?_) (fun q => ?_)
  · have h := ite_t h q
    refine u_al_n (x := x1) E (Mo_lastDeath_dc.at 8 rfl) hl rfl ?_
    refine r_bipush E (Mo_lastDeath_dc.at 9 rfl) rfl ?_
    refine u_il_n (x := x3) E (Mo_lastDeath_dc.at 10 rfl) hl rfl ?_
    refine r_iadd E (Mo_lastDeath_dc.at 11 rfl) ?_
    obtain ⟨g2, h⟩ := ite_e h
    obtain ⟨g3, h⟩ := ite_e h
    refine r_iald E S g2 g3 (Mo_lastDeath_dc.at 12 rfl) ?_
    refine r_ldc (n := 16777216) E (Mo_lastDeath_dc.at 13 rfl) zw_8_42 rfl ?_
    refine r_icmp_ne (tgt := 25) E (S.1.inR _ _) (show InR 16777216 by decide) (Mo_lastDeath_dc.at 14 rfl) (by decide) (fun q => ?_) (fun q => ?_)
    · have h := ite_t h q
      refine r_iconst E (Mo_lastDeath_dc.at 15 rfl) ?_
      cases h
      exact r_iret E S (show InR (-1) by decide) (Mo_lastDeath_dc.at 16 rfl)
    · have h := ite_f h q
      refine u_il_n (x := x2) E (Mo_lastDeath_dc.at 17 rfl) hl rfl ?_
      refine u_al_n (x := x1) E (Mo_lastDeath_dc.at 18 rfl) hl rfl ?_
      refine r_bipush E (Mo_lastDeath_dc.at 19 rfl) rfl ?_
      refine u_il_n (x := x3) E (Mo_lastDeath_dc.at 20 rfl) hl rfl ?_
      refine r_iadd E (Mo_lastDeath_dc.at 21 rfl) ?_
      obtain ⟨g4, h⟩ := ite_e h
      refine r_iald E S g2 g4 (Mo_lastDeath_dc.at 22 rfl) ?_
      refine r_max (rest := []) E hx2 (S.1.inR _ _) hl.size zw_8_125 zw_4_56 zw_1_17 zw_4_57 (by decide) (by simp [zR_cat, zcat_I, zcat_J, zcat_S, zrm]) ⟨Nat.zero_le _, Nat.zero_le _⟩ (Mo_lastDeath_dc.at 23 rfl) ?_
      obtain ⟨v5, ev5, h⟩ := lt1_e h
      have hv5 := inR_eq ev5 (inR_max hx2 (S.1.inR _ _))
      refine u_ist_n (y := v5) (vs' := [some (zR G.2.2.1 x0), some (zR G.2.2.1 x1), some (.int (zO v5)), some (.int (zO x3))]) E ev5 (Mo_lastDeath_dc.at 24 rfl) hl (by decide) rfl (fun ls hl => ?_)
      obtain ⟨v6, ev6, h⟩ := lt1_e h
      have hv6 := inR_eq ev6 (inR_w32 _)
      refine u_iinc (y := v6) (vs' := [some (zR G.2.2.1 x0), some (zR G.2.2.1 x1), some (.int (zO v5)), some (.int (zO v6))]) E ev6 (Mo_lastDeath_dc.at 25 rfl) hl rfl (by decide) rfl (fun ls hl => ?_)
      refine r_goto (tgt := 4) E (Mo_lastDeath_dc.at 26 rfl) (by decide) ?_
      exact hk4 _ x0 x1 v5 v6 hx0 hx1 hv5 hv6 _ _ _ S (hl.sub (And.intro rfl (And.intro rfl (And.intro rfl (And.intro rfl True.intro))))) h
  · have h := ite_f h q
    refine u_il_n (x := x2) E (Mo_lastDeath_dc.at 27 rfl) hl rfl ?_
    cases h
    exact r_iret E S hx2 (Mo_lastDeath_dc.at 28 rfl)
theorem Mo_lastDeath_l4_w (E : zEv p m c cX12_lastDeath 4 s args RX12 meth (some .int) G) {res : Int} : ∀ (n : Nat) (M : zM) (x0 : Int) (x1 : Int) (x2 : Int) (x3 : Int), InR x0 → InR x1 → InR x2 → InR x3 → ∀ (H : Heap) (locs : List Loc) (ls : Array Slot), zS G top L M s H locs → zLV ls 4 [some (zR G.2.2.1 x0), some (zR G.2.2.1 x1), some (.int (zO x2)), some (.int (zO x3))] → Mo_lastDeath_l4 fu L n M x0 x1 x2 x3 = some res → W p l e (zrm 1 0 0) s m args below meth c H locs 0 0 (MQ below (zQ G top L M (some (.int (zO res))) (InR res)) args s 0 0 (zA G)) (F0 m 4 ls [])
  | 0, _, _, _, _, _ => fun _ _ _ _ _ _ _ _ _ h => (by cases h)
  | n + 1, M, x0, x1, x2, x3 => fun hx0 hx1 hx2 hx3 H locs ls S hl h => Mo_lastDeath_s4_w E (fun M x0 x1 x2 x3 hx0 hx1 hx2 hx3 H locs ls S hl h => Mo_lastDeath_l4_w E n M x0 x1 x2 x3 hx0 hx1 hx2 hx3 H locs ls S hl h) hx0 hx1 hx2 hx3 S hl h
theorem Mo_lastDeath_w (E : zEv p m c cX12_lastDeath 4 s args RX12 meth (some .int) G) {res : Int} {M : zM} {a0 : Int} {a1 : Int} {H : Heap} {locs : List Loc} {ls : Array Slot} (ha0 : InR a0) (ha1 : InR a1) (S : zS G top L M s H locs) (hl : zLV ls 4 [some (zR G.2.2.1 a0), some (zR G.2.2.1 a1), none, none]) (h : Mo_lastDeath fu L M a0 a1 = some res) : W p l e (zrm 1 0 0) s m args below meth c H locs 0 0 (MQ below (zQ G top L M (some (.int (zO res))) (InR res)) args s 0 0 (zA G)) (F0 m 0 ls []) := by
  unfold Mo_lastDeath at h
  refine r_iconst E (Mo_lastDeath_dc.at 0 rfl) ?_
  refine u_ist_n (y := (-1)) (vs' := [some (zR G.2.2.1 a0), some (zR G.2.2.1 a1), some (.int (zO (-1))), none]) E rfl (Mo_lastDeath_dc.at 1 rfl) hl (by decide) rfl (fun ls hl => ?_)
  refine r_iconst E (Mo_lastDeath_dc.at 2 rfl) ?_
  refine u_ist_n (y := 0) (vs' := [some (zR G.2.2.1 a0), some (zR G.2.2.1 a1), some (.int (zO (-1))), some (.int (zO 0))]) E rfl (Mo_lastDeath_dc.at 3 rfl) hl (by decide) rfl (fun ls hl => ?_)
  exact Mo_lastDeath_l4_w E fu _ a0 a1 (-1) 0 ha0 ha1 (show InR (-1) by decide) (show InR 0 by decide) _ _ _ S (hl.sub (And.intro rfl (And.intro rfl (And.intro rfl (And.intro rfl True.intro))))) h
theorem Mo_lastDeath_c (l : Launch) (G : zG) (fu : Nat) (top : Int) (L : zL) (M : zM) (a0 : Int) (a1 : Int) {res : Int} (ha0 : InR a0) (ha1 : InR a1) (h : Mo_lastDeath fu L M a0 a1 = some res) : Met l yX12_lastDeath (Cond.code yX12_lastDeath cX12_lastDeath 4 (some .int) :: zTB) (zrm 1 0 0) (va_Pc [zR G.2.2.1 a0, zR G.2.2.1 a1] (zPre G top L M)) (zQ G top L M (some (.int (zO res))) (InR res)) 0 0 (zA G) :=
  z_met (by decide +kernel) (by simp [zR_cat, zcat_I, zcat_S]) (Nat.le_of_ble_eq_true rfl) fun p e s m below meth c ls E hn S hl => Mo_lastDeath_w E ha0 ha1 S (hl.sub (And.intro rfl (And.intro rfl True.intro))) h
end
theorem Mo_end1_dc : zDL cX12_end_ [(0, .aload_n 0, 1, 1), (1, .aload_n 1, 1, 2), (2, .invokevirtual 308, 3, 5), (5, .istore_n 2, 1, 6), (6, .iload_n 2, 1, 7), (7, .iconst (-1), 1, 8), (8, .if_icmp .ne 7, 3, 11), (11, .iconst (-1), 1, 12), (12, .goto 12, 3, 15), (15, .iload_n 2, 1, 16), (16, .aload_n 0, 1, 17), (17, .getfield 31, 3, 20), (20, .bipush 74, 2, 22), (22, .iaload, 1, 23), (23, .iadd, 1, 24), (24, .ireturn, 1, 25)] := zDL.of (by decide +kernel)
section
variable {p : Program} {l : Launch} {e : Env} {s : State} {m : MethodId} {args : Array Value} {below : List Frame} {meth : Method} {c : Code} {G : zG} {top : Int} {L : zL} {fu : Nat}
theorem Mo_end1_w (E : zEv p m c cX12_end_ 3 s args RX12 meth (some .int) G) {res : Int} {M : zM} {a0 : Int} {a1 : Int} {H : Heap} {locs : List Loc} {ls : Array Slot} (ha0 : InR a0) (ha1 : InR a1) (S : zS G top L M s H locs) (hl : zLV ls 3 [some (zR G.2.2.1 a0), some (zR G.2.2.1 a1), none]) (h : Mo_end1 fu L M a0 a1 = some res) : W p l e (zrm 2 0 0) s m args below meth c H locs 0 0 (MQ below (zQ G top L M (some (.int (zO res))) (InR res)) args s 0 0 (zA G)) (F0 m 0 ls []) := by
  unfold Mo_end1 at h
  refine u_al_n (x := a0) E (Mo_end1_dc.at 0 rfl) hl rfl ?_
  refine u_al_n (x := a1) E (Mo_end1_dc.at 1 rfl) hl rfl ?_
  obtain ⟨g1, h⟩ := ite_e h
  obtain ⟨r2, er2, h⟩ := bd1_e h
  refine u_cVI (As := [zR G.2.2.1 a1]) (rest := []) E S zcw_yX12_lastDeath zw_8_123 zq_5_14 zw_8_121 zck_12.1 rfl g1 (Mo_lastDeath_c l G fu top L M a0 a1 ha0 ha1 er2) (zrm_ok (by decide) (by decide)) ⟨Nat.le_refl 0, Nat.le_refl 0⟩ rfl (Nat.zero_le 8) hl.size rfl (Mo_end1_dc.at 2 rfl) (fun H locs hr2 S3 => ?_)
  refine u_ist_n (y := r2) (vs' := [some (zR G.2.2.1 a0), some (zR G.2.2.1 a1), some (.int (zO r2))]) E rfl (Mo_end1_dc.at 3 rfl) hl (by decide) rfl (fun ls hl => ?_)
  refine u_il_n (x := r2) E (Mo_end1_dc.at 4 rfl) hl rfl ?_
  refine r_iconst E (Mo_end1_dc.at 5 rfl) ?_
  refine r_icmp_ne (tgt := 15) E hr2 (show InR (-1) by decide) (Mo_end1_dc.at 6 rfl) (by decide) (fun q => ?_) (fun q => ?_)
  · have h := ite_t h q
    refine r_iconst E (Mo_end1_dc.at 7 rfl) ?_
    refine r_goto (tgt := 24) E (Mo_end1_dc.at 8 rfl) (by decide) ?_
    cases h
    exact r_iret E S3 (show InR (-1) by decide) (Mo_end1_dc.at 15 rfl)
  · have h := ite_f h q
    refine u_il_n (x := r2) E (Mo_end1_dc.at 9 rfl) hl rfl ?_
    refine u_al_n (x := a0) E (Mo_end1_dc.at 10 rfl) hl rfl ?_
    refine u_gR E zf_12_18 S3 g1 zw_6_225 (Mo_end1_dc.at 11 rfl) ?_
    refine r_bipush E (Mo_end1_dc.at 12 rfl) rfl ?_
    obtain ⟨g4, h⟩ := ite_e h
    obtain ⟨g5, h⟩ := ite_e h
    refine r_iald E S3 g4 g5 (Mo_end1_dc.at 13 rfl) ?_
    refine r_iadd E (Mo_end1_dc.at 14 rfl) ?_
    cases h
    exact r_iret E S3 (inR_w32 _) (Mo_end1_dc.at 15 rfl)
theorem Mo_end1_c (l : Launch) (G : zG) (fu : Nat) (top : Int) (L : zL) (M : zM) (a0 : Int) (a1 : Int) {res : Int} (ha0 : InR a0) (ha1 : InR a1) (h : Mo_end1 fu L M a0 a1 = some res) : Met l yX12_end_ (Cond.code yX12_end_ cX12_end_ 3 (some .int) :: zTB) (zrm 2 0 0) (va_Pc [zR G.2.2.1 a0, zR G.2.2.1 a1] (zPre G top L M)) (zQ G top L M (some (.int (zO res))) (InR res)) 0 0 (zA G) :=
  z_met (by decide +kernel) (by simp [zR_cat, zcat_I, zcat_S]) (Nat.le_of_ble_eq_true rfl) fun p e s m below meth c ls E hn S hl => Mo_end1_w E ha0 ha1 S (hl.sub (And.intro rfl (And.intro rfl True.intro))) h
end
theorem Mo_rule_dc : zDL cX12_rule [(0, .aload_n 0, 1, 1), (1, .iconst 0, 1, 2), (2, .putfield 66, 3, 5), (5, .aload_n 0, 1, 6), (6, .getfield 238, 3, 9), (9, .ifCond .ne 5, 3, 12), (12, .iconst (-1), 1, 13), (13, .ireturn, 1, 14), (14, .iload_n 1, 1, 15), (15, .tableswitch 119 0 8 #[49, 56, 63, 75, 84, 92, 101, 106, 111], 49, 64), (64, .aload_n 0, 1, 65), (65, .getfield 31, 3, 68), (68, .iconst 0, 1, 69), (69, .iaload, 1, 70), (70, .ireturn, 1, 71), (71, .aload_n 0, 1, 72), (72, .getfield 31, 3, 75), (75, .iconst 1, 1, 76), (76, .iaload, 1, 77), (77, .ireturn, 1, 78), (78, .aload_n 0, 1, 79), (79, .getfield 31, 3, 82), (82, .aload_n 0, 1, 83), (83, .getfield 251, 3, 86), (86, .invokestatic 312, 3, 89), (89, .ireturn, 1, 90), (90, .aload_n 0, 1, 91), (91, .aload_n 0, 1, 92), (92, .getfield 31, 3, 95), (95, .invokevirtual 308, 3, 98), (98, .ireturn, 1, 99), (99, .aload_n 0, 1, 100), (100, .getfield 31, 3, 103), (103, .bipush 74, 2, 105), (105, .iaload, 1, 106), (106, .ireturn, 1, 107), (107, .aload_n 0, 1, 108), (108, .aload_n 0, 1, 109), (109, .getfield 31, 3, 112), (112, .invokevirtual 315, 3, 115), (115, .ireturn, 1, 116), (116, .aload_n 0, 1, 117), (117, .invokevirtual 268, 3, 120), (120, .ireturn, 1, 121), (121, .aload_n 0, 1, 122), (122, .getfield 251, 3, 125), (125, .ireturn, 1, 126), (126, .aload_n 0, 1, 127), (127, .getfield 31, 3, 130), (130, .bipush 75, 2, 132), (132, .iaload, 1, 133), (133, .ireturn, 1, 134), (134, .iconst (-1), 1, 135), (135, .ireturn, 1, 136)] := zDL.of (by decide +kernel)
section
variable {p : Program} {l : Launch} {e : Env} {s : State} {m : MethodId} {args : Array Value} {below : List Frame} {meth : Method} {c : Code} {G : zG} {top : Int} {L : zL} {fu : Nat}
theorem Mo_rule_w (E : zEv p m c cX12_rule 2 s args RX12 meth (some .int) G) {res : (zM × Int)} {M : zM} {a0 : Int} {a1 : Int} {H : Heap} {locs : List Loc} {ls : Array Slot} (ha0 : InR a0) (ha1 : InR a1) (S : zS G top L M s H locs) (hl : zLV ls 2 [some (zR G.2.2.1 a0), some (.int (zO a1))]) (h : Mo_rule fu L M a0 a1 = some res) : W p l e (zrm 3 0 0) s m args below meth c H locs 0 0 (MQ below (zQ G top L res.1 (some (.int (zO res.2))) (InR res.2)) args s 0 0 (zA G)) (F0 m 0 ls []) := by
  unfold Mo_rule at h
  refine u_al_n (x := a0) E (Mo_rule_dc.at 0 rfl) hl rfl ?_
  refine r_iconst E (Mo_rule_dc.at 1 rfl) ?_
  obtain ⟨g1, h⟩ := ite_e h
  obtain ⟨M2, eM2, h⟩ := lt1_e h
  refine u_pI E eM2 zf_12_0 S g1 (show InR 0 by decide) (Or.inl rfl) rfl zw_6_207 (Mo_rule_dc.at 2 rfl) (fun H locs S3 => ?_)
  refine u_al_n (x := a0) E (Mo_rule_dc.at 3 rfl) hl rfl ?_
  refine u_gI E zf_12_19 S3 g1 zw_6_226 (Mo_rule_dc.at 4 rfl) ?_
  refine r_if_ne (tgt := 14) E (S3.1.inR _ _) (Mo_rule_dc.at 5 rfl) (by decide) (fun q => ?_) (fun q => ?_)
  · have h := ite_t h q
    refine r_iconst E (Mo_rule_dc.at 6 rfl) ?_
    cases h
    exact r_iret E S3 (show InR (-1) by decide) (Mo_rule_dc.at 7 rfl)
  · have h := ite_f h q
    refine u_il_n (x := a1) E (Mo_rule_dc.at 8 rfl) hl rfl ?_
    by_cases q6 : a1 = 0
    · have h := ite_t h q6
      refine r_tin (tgt := 64) (k := 0) E ha1 q6 (Mo_rule_dc.at 9 rfl) (by decide) (by decide) rfl (by decide) ?_
      refine u_al_n (x := a0) E (Mo_rule_dc.at 10 rfl) hl rfl ?_
      refine u_gR E zf_12_18 S3 g1 zw_6_225 (Mo_rule_dc.at 11 rfl) ?_
      refine r_iconst E (Mo_rule_dc.at 12 rfl) ?_
      obtain ⟨g4, h⟩ := ite_e h
      obtain ⟨g5, h⟩ := ite_e h
      refine r_iald E S3 g4 g5 (Mo_rule_dc.at 13 rfl) ?_
      cases h
      exact r_iret E S3 (S3.1.inR _ _) (Mo_rule_dc.at 14 rfl)
    · have h := ite_f h q6
      by_cases q9 : a1 = 1
      · have h := ite_t h q9
        refine r_tin (tgt := 71) (k := 1) E ha1 q9 (Mo_rule_dc.at 9 rfl) (by decide) (by decide) rfl (by decide) ?_
        refine u_al_n (x := a0) E (Mo_rule_dc.at 15 rfl) hl rfl ?_
        refine u_gR E zf_12_18 S3 g1 zw_6_225 (Mo_rule_dc.at 16 rfl) ?_
        refine r_iconst E (Mo_rule_dc.at 17 rfl) ?_
        obtain ⟨g7, h⟩ := ite_e h
        obtain ⟨g8, h⟩ := ite_e h
        refine r_iald E S3 g7 g8 (Mo_rule_dc.at 18 rfl) ?_
        cases h
        exact r_iret E S3 (S3.1.inR _ _) (Mo_rule_dc.at 19 rfl)
      · have h := ite_f h q9
        by_cases q12 : a1 = 2
        · have h := ite_t h q12
          refine r_tin (tgt := 78) (k := 2) E ha1 q12 (Mo_rule_dc.at 9 rfl) (by decide) (by decide) rfl (by decide) ?_
          refine u_al_n (x := a0) E (Mo_rule_dc.at 20 rfl) hl rfl ?_
          refine u_gR E zf_12_18 S3 g1 zw_6_225 (Mo_rule_dc.at 21 rfl) ?_
          refine u_al_n (x := a0) E (Mo_rule_dc.at 22 rfl) hl rfl ?_
          refine u_gI E zf_12_20 S3 g1 zw_6_227 (Mo_rule_dc.at 23 rfl) ?_
          obtain ⟨r10, er10, h⟩ := bd1_e h
          refine u_cSI (As := [zR G.2.2.1 (M2 a0 18), .int (zO (M2 a0 20))]) (rest := []) E S3 zcw_yX12_living zw_8_119 zw_8_118 (Mo_living_c l G fu top L M2 (M2 a0 18) (M2 a0 20) (S3.1.inR _ _) (S3.1.inR _ _) er10) (zrm_ok (by decide) (by decide)) ⟨Nat.le_refl 0, Nat.le_refl 0⟩ rfl (Nat.zero_le 8) hl.size rfl (Mo_rule_dc.at 24 rfl) (fun H locs hr10 S11 => ?_)
          cases h
          exact r_iret E S11 hr10 (Mo_rule_dc.at 25 rfl)
        · have h := ite_f h q12
          by_cases q15 : a1 = 3
          · have h := ite_t h q15
            refine r_tin (tgt := 90) (k := 3) E ha1 q15 (Mo_rule_dc.at 9 rfl) (by decide) (by decide) rfl (by decide) ?_
            refine u_al_n (x := a0) E (Mo_rule_dc.at 26 rfl) hl rfl ?_
            refine u_al_n (x := a0) E (Mo_rule_dc.at 27 rfl) hl rfl ?_
            refine u_gR E zf_12_18 S3 g1 zw_6_225 (Mo_rule_dc.at 28 rfl) ?_
            obtain ⟨r13, er13, h⟩ := bd1_e h
            refine u_cVI (As := [zR G.2.2.1 (M2 a0 18)]) (rest := []) E S3 zcw_yX12_lastDeath zw_8_123 zq_5_14 zw_8_121 zck_12.1 rfl g1 (Mo_lastDeath_c l G fu top L M2 a0 (M2 a0 18) ha0 (S3.1.inR _ _) er13) (zrm_ok (by decide) (by decide)) ⟨Nat.le_refl 0, Nat.le_refl 0⟩ rfl (Nat.zero_le 8) hl.size rfl (Mo_rule_dc.at 29 rfl) (fun H locs hr13 S14 => ?_)
            cases h
            exact r_iret E S14 hr13 (Mo_rule_dc.at 30 rfl)
          · have h := ite_f h q15
            by_cases q18 : a1 = 4
            · have h := ite_t h q18
              refine r_tin (tgt := 99) (k := 4) E ha1 q18 (Mo_rule_dc.at 9 rfl) (by decide) (by decide) rfl (by decide) ?_
              refine u_al_n (x := a0) E (Mo_rule_dc.at 31 rfl) hl rfl ?_
              refine u_gR E zf_12_18 S3 g1 zw_6_225 (Mo_rule_dc.at 32 rfl) ?_
              refine r_bipush E (Mo_rule_dc.at 33 rfl) rfl ?_
              obtain ⟨g16, h⟩ := ite_e h
              obtain ⟨g17, h⟩ := ite_e h
              refine r_iald E S3 g16 g17 (Mo_rule_dc.at 34 rfl) ?_
              cases h
              exact r_iret E S3 (S3.1.inR _ _) (Mo_rule_dc.at 35 rfl)
            · have h := ite_f h q18
              by_cases q21 : a1 = 5
              · have h := ite_t h q21
                refine r_tin (tgt := 107) (k := 5) E ha1 q21 (Mo_rule_dc.at 9 rfl) (by decide) (by decide) rfl (by decide) ?_
                refine u_al_n (x := a0) E (Mo_rule_dc.at 36 rfl) hl rfl ?_
                refine u_al_n (x := a0) E (Mo_rule_dc.at 37 rfl) hl rfl ?_
                refine u_gR E zf_12_18 S3 g1 zw_6_225 (Mo_rule_dc.at 38 rfl) ?_
                obtain ⟨r19, er19, h⟩ := bd1_e h
                refine u_cVI (As := [zR G.2.2.1 (M2 a0 18)]) (rest := []) E S3 zcw_yX12_end_ zw_8_128 zq_5_15 zw_8_126 zck_12.1 rfl g1 (Mo_end1_c l G fu top L M2 a0 (M2 a0 18) ha0 (S3.1.inR _ _) er19) (zrm_ok (by decide) (by decide)) ⟨Nat.le_refl 0, Nat.le_refl 0⟩ rfl (Nat.zero_le 8) hl.size rfl (Mo_rule_dc.at 39 rfl) (fun H locs hr19 S20 => ?_)
                cases h
                exact r_iret E S20 hr19 (Mo_rule_dc.at 40 rfl)
              · have h := ite_f h q21
                by_cases q24 : a1 = 6
                · have h := ite_t h q24
                  refine r_tin (tgt := 116) (k := 6) E ha1 q24 (Mo_rule_dc.at 9 rfl) (by decide) (by decide) rfl (by decide) ?_
                  refine u_al_n (x := a0) E (Mo_rule_dc.at 41 rfl) hl rfl ?_
                  obtain ⟨r22, er22, h⟩ := bd1_e h
                  refine u_cVI (As := []) (rest := []) E S3 zcw_yX12_gifts zw_8_62 zq_5_10 zw_8_60 zck_12.1 rfl g1 (Mo_gifts_c l G fu top L M2 a0 ha0 er22) (zrm_ok (by decide) (by decide)) ⟨Nat.le_refl 0, Nat.le_refl 0⟩ rfl (Nat.zero_le 8) hl.size rfl (Mo_rule_dc.at 42 rfl) (fun H locs hr22 S23 => ?_)
                  cases h
                  exact r_iret E S23 hr22 (Mo_rule_dc.at 43 rfl)
                · have h := ite_f h q24
                  by_cases q25 : a1 = 7
                  · have h := ite_t h q25
                    refine r_tin (tgt := 121) (k := 7) E ha1 q25 (Mo_rule_dc.at 9 rfl) (by decide) (by decide) rfl (by decide) ?_
                    refine u_al_n (x := a0) E (Mo_rule_dc.at 44 rfl) hl rfl ?_
                    refine u_gI E zf_12_20 S3 g1 zw_6_227 (Mo_rule_dc.at 45 rfl) ?_
                    cases h
                    exact r_iret E S3 (S3.1.inR _ _) (Mo_rule_dc.at 46 rfl)
                  · have h := ite_f h q25
                    by_cases q28 : a1 = 8
                    · have h := ite_t h q28
                      refine r_tin (tgt := 126) (k := 8) E ha1 q28 (Mo_rule_dc.at 9 rfl) (by decide) (by decide) rfl (by decide) ?_
                      refine u_al_n (x := a0) E (Mo_rule_dc.at 47 rfl) hl rfl ?_
                      refine u_gR E zf_12_18 S3 g1 zw_6_225 (Mo_rule_dc.at 48 rfl) ?_
                      refine r_bipush E (Mo_rule_dc.at 49 rfl) rfl ?_
                      obtain ⟨g26, h⟩ := ite_e h
                      obtain ⟨g27, h⟩ := ite_e h
                      refine r_iald E S3 g26 g27 (Mo_rule_dc.at 50 rfl) ?_
                      cases h
                      exact r_iret E S3 (S3.1.inR _ _) (Mo_rule_dc.at 51 rfl)
                    · have h := ite_f h q28
                      refine r_tout (tgt := 134) E ha1 (by omega) (Mo_rule_dc.at 9 rfl) (by decide) ?_
                      refine r_iconst E (Mo_rule_dc.at 52 rfl) ?_
                      cases h
                      exact r_iret E S3 (show InR (-1) by decide) (Mo_rule_dc.at 53 rfl)
theorem Mo_rule_c (l : Launch) (G : zG) (fu : Nat) (top : Int) (L : zL) (M : zM) (a0 : Int) (a1 : Int) {res : (zM × Int)} (ha0 : InR a0) (ha1 : InR a1) (h : Mo_rule fu L M a0 a1 = some res) : Met l yX12_rule (Cond.code yX12_rule cX12_rule 2 (some .int) :: zTB) (zrm 3 0 0) (va_Pc [zR G.2.2.1 a0, .int (zO a1)] (zPre G top L M)) (zQ G top L res.1 (some (.int (zO res.2))) (InR res.2)) 0 0 (zA G) :=
  z_met (by decide +kernel) (by simp [zR_cat, zcat_I, zcat_S]) (Nat.le_of_ble_eq_true rfl) fun p e s m below meth c ls E hn S hl => Mo_rule_w E ha0 ha1 S (hl.sub (And.intro rfl (And.intro rfl True.intro))) h
end
theorem Mo_ageOf_dc : zDL cX12_ageOf [(0, .aload_n 0, 1, 1), (1, .getfield 31, 3, 4), (4, .bipush 26, 2, 6), (6, .iload_n 1, 1, 7), (7, .iadd, 1, 8), (8, .iaload, 1, 9), (9, .aload_n 0, 1, 10), (10, .getfield 31, 3, 13), (13, .iconst 0, 1, 14), (14, .iaload, 1, 15), (15, .invokestatic 104, 3, 18), (18, .aload_n 0, 1, 19), (19, .getfield 31, 3, 22), (22, .iconst 2, 1, 23), (23, .iload_n 1, 1, 24), (24, .iadd, 1, 25), (25, .iaload, 1, 26), (26, .isub, 1, 27), (27, .ireturn, 1, 28)] := zDL.of (by decide +kernel)
section
variable {p : Program} {l : Launch} {e : Env} {s : State} {m : MethodId} {args : Array Value} {below : List Frame} {meth : Method} {c : Code} {G : zG} {top : Int} {L : zL} {fu : Nat}
theorem Mo_ageOf_w (E : zEv p m c cX12_ageOf 2 s args RX12 meth (some .int) G) {res : Int} {M : zM} {a0 : Int} {a1 : Int} {H : Heap} {locs : List Loc} {ls : Array Slot} (ha0 : InR a0) (ha1 : InR a1) (S : zS G top L M s H locs) (hl : zLV ls 2 [some (zR G.2.2.1 a0), some (.int (zO a1))]) (h : Mo_ageOf fu L M a0 a1 = some res) : W p l e (zrm 1 0 0) s m args below meth c H locs 0 0 (MQ below (zQ G top L M (some (.int (zO res))) (InR res)) args s 0 0 (zA G)) (F0 m 0 ls []) := by
  unfold Mo_ageOf at h
  refine u_al_n (x := a0) E (Mo_ageOf_dc.at 0 rfl) hl rfl ?_
  obtain ⟨g1, h⟩ := ite_e h
  refine u_gR E zf_12_18 S g1 zw_6_225 (Mo_ageOf_dc.at 1 rfl) ?_
  refine r_bipush E (Mo_ageOf_dc.at 2 rfl) rfl ?_
  refine u_il_n (x := a1) E (Mo_ageOf_dc.at 3 rfl) hl rfl ?_
  refine r_iadd E (Mo_ageOf_dc.at 4 rfl) ?_
  obtain ⟨g2, h⟩ := ite_e h
  obtain ⟨g3, h⟩ := ite_e h
  refine r_iald E S g2 g3 (Mo_ageOf_dc.at 5 rfl) ?_
  refine u_al_n (x := a0) E (Mo_ageOf_dc.at 6 rfl) hl rfl ?_
  refine u_gR E zf_12_18 S g1 zw_6_225 (Mo_ageOf_dc.at 7 rfl) ?_
  refine r_iconst E (Mo_ageOf_dc.at 8 rfl) ?_
  obtain ⟨g4, h⟩ := ite_e h
  refine r_iald E S g2 g4 (Mo_ageOf_dc.at 9 rfl) ?_
  refine r_min (rest := []) E (S.1.inR _ _) (S.1.inR _ _) hl.size zw_7_164 zw_4_47 zw_1_17 zw_4_48 (by decide) (by simp [zR_cat, zcat_I, zcat_J, zcat_S, zrm]) ⟨Nat.zero_le _, Nat.zero_le _⟩ (Mo_ageOf_dc.at 10 rfl) ?_
  refine u_al_n (x := a0) E (Mo_ageOf_dc.at 11 rfl) hl rfl ?_
  refine u_gR E zf_12_18 S g1 zw_6_225 (Mo_ageOf_dc.at 12 rfl) ?_
  refine r_iconst E (Mo_ageOf_dc.at 13 rfl) ?_
  refine u_il_n (x := a1) E (Mo_ageOf_dc.at 14 rfl) hl rfl ?_
  refine r_iadd E (Mo_ageOf_dc.at 15 rfl) ?_
  obtain ⟨g5, h⟩ := ite_e h
  refine r_iald E S g2 g5 (Mo_ageOf_dc.at 16 rfl) ?_
  refine r_isub E (Mo_ageOf_dc.at 17 rfl) ?_
  cases h
  exact r_iret E S (inR_w32 _) (Mo_ageOf_dc.at 18 rfl)
theorem Mo_ageOf_c (l : Launch) (G : zG) (fu : Nat) (top : Int) (L : zL) (M : zM) (a0 : Int) (a1 : Int) {res : Int} (ha0 : InR a0) (ha1 : InR a1) (h : Mo_ageOf fu L M a0 a1 = some res) : Met l yX12_ageOf (Cond.code yX12_ageOf cX12_ageOf 2 (some .int) :: zTB) (zrm 1 0 0) (va_Pc [zR G.2.2.1 a0, .int (zO a1)] (zPre G top L M)) (zQ G top L M (some (.int (zO res))) (InR res)) 0 0 (zA G) :=
  z_met (by decide +kernel) (by simp [zR_cat, zcat_I, zcat_S]) (Nat.le_of_ble_eq_true rfl) fun p e s m below meth c ls E hn S hl => Mo_ageOf_w E ha0 ha1 S (hl.sub (And.intro rfl (And.intro rfl True.intro))) h
end
theorem Mo_children_dc : zDL cX12_children [(0, .iconst 0, 1, 1), (1, .istore_n 2, 1, 2), (2, .iconst 0, 1, 3), (3, .istore_n 3, 1, 4), (4, .iload_n 3, 1, 5), (5, .aload_n 0, 1, 6), (6, .getfield 31, 3, 9), (9, .iconst 1, 1, 10), (10, .iaload, 1, 11), (11, .if_icmp .ge 30, 3, 14), (14, .iload_n 2, 1, 15), (15, .aload_n 0, 1, 16), (16, .getfield 31, 3, 19), (19, .bipush 50, 2, 21), (21, .iload_n 3, 1, 22), (22, .iadd, 1, 23), (23, .iaload, 1, 24), (24, .iload_n 1, 1, 25), (25, .if_icmp .ne 7, 3, 28), (28, .iconst 1, 1, 29), (29, .goto 4, 3, 32), (32, .iconst 0, 1, 33), (33, .iadd, 1, 34), (34, .istore_n 2, 1, 35), (35, .iinc 3 1, 3, 38), (38, .goto (-34), 3, 41), (41, .iload_n 2, 1, 42), (42, .ireturn, 1, 43)] := zDL.of (by decide +kernel)
section
variable {p : Program} {l : Launch} {e : Env} {s : State} {m : MethodId} {args : Array Value} {below : List Frame} {meth : Method} {c : Code} {G : zG} {top : Int} {L : zL} {fu : Nat}
theorem Mo_children_s4_w (E : zEv p m c cX12_children 4 s args RX12 meth (some .int) G) {res : Int} {k4 : zM → Int → Int → Int → Int → Option Int} (hk4 : ∀ (M : zM) (x0 : Int) (x1 : Int) (x2 : Int) (x3 : Int), InR x0 → InR x1 → InR x2 → InR x3 → ∀ (H : Heap) (locs : List Loc) (ls : Array Slot), zS G top L M s H locs → zLV ls 4 [some (zR G.2.2.1 x0), some (.int (zO x1)), some (.int (zO x2)), some (.int (zO x3))] → k4 M x0 x1 x2 x3 = some res → W p l e (zrm 1 0 0) s m args below meth c H locs 0 0 (MQ below (zQ G top L M (some (.int (zO res))) (InR res)) args s 0 0 (zA G)) (F0 m 4 ls [])) {M : zM} {x0 : Int} {x1 : Int} {x2 : Int} {x3 : Int} {H : Heap} {locs : List Loc} {ls : Array Slot} (hx0 : InR x0) (hx1 : InR x1) (hx2 : InR x2) (hx3 : InR x3) (S : zS G top L M s H locs) (hl : zLV ls 4 [some (zR G.2.2.1 x0), some (.int (zO x1)), some (.int (zO x2)), some (.int (zO x3))]) (h : Mo_children_s4 fu k4 L M x0 x1 x2 x3 = some res) : W p l e (zrm 1 0 0) s m args below meth c H locs 0 0 (MQ below (zQ G top L M (some (.int (zO res))) (InR res)) args s 0 0 (zA G)) (F0 m 4 ls []) := by
  unfold Mo_children_s4 at h
  refine u_il_n (x := x3) E (Mo_children_dc.at 4 rfl) hl rfl ?_
  refine u_al_n (x := x0) E (Mo_children_dc.at 5 rfl) hl rfl ?_
  obtain ⟨g1, h⟩ := ite_e h
  refine u_gR E zf_12_18 S g1 zw_6_225 (Mo_children_dc.at 6 rfl) ?_
  refine r_iconst E (Mo_children_dc.at 7 rfl) ?_
  obtain ⟨g2, h⟩ := ite_e h
  obtain ⟨g3, h⟩ := ite_e h
  refine r_iald E S g2 g3 (Mo_children_dc.at 8 rfl) ?_
  refine r_icmp_ge (tgt := 41) E hx3 (S.1.inR _ _) (Mo_children_dc.at 9 rfl) (by decide) (fun q => ?_) (fun q => ?_)
  · have h := ite_t h q
    refine u_il_n (x := x2) E (Mo_children_dc.at 10 rfl) hl rfl ?_
    refine u_al_n (x := x0) E (Mo_children_dc.at 11 rfl) hl rfl ?_
    refine u_gR E zf_12_18 S g1 zw_6_225 (Mo_children_dc.at 12 rfl) ?_
    refine r_bipush E (Mo_children_dc.at 13 rfl) rfl ?_
    refine u_il_n (x := x3) E (Mo_children_dc.at 14 rfl) hl rfl ?_
    refine r_iadd E (Mo_children_dc.at 15 rfl) ?_
    obtain ⟨g4, h⟩ := ite_e h
    refine r_iald E S g2 g4 (Mo_children_dc.at 16 rfl) ?_
    refine u_il_n (x := x1) E (Mo_children_dc.at 17 rfl) hl rfl ?_
    refine r_icmp_ne (tgt := 32) E (S.1.inR _ _) hx1 (Mo_children_dc.at 18 rfl) (by decide) (fun q => ?_) (fun q => ?_)
    · have h := ite_t h q
      refine r_iconst E (Mo_children_dc.at 19 rfl) ?_
      refine r_goto (tgt := 33) E (Mo_children_dc.at 20 rfl) (by decide) ?_
      refine r_iadd E (Mo_children_dc.at 22 rfl) ?_
      obtain ⟨v5, ev5, h⟩ := lt1_e h
      have hv5 := inR_eq ev5 (inR_w32 _)
      refine u_ist_n (y := v5) (vs' := [some (zR G.2.2.1 x0), some (.int (zO x1)), some (.int (zO v5)), some (.int (zO x3))]) E ev5 (Mo_children_dc.at 23 rfl) hl (by decide) rfl (fun ls hl => ?_)
      obtain ⟨v6, ev6, h⟩ := lt1_e h
      have hv6 := inR_eq ev6 (inR_w32 _)
      refine u_iinc (y := v6) (vs' := [some (zR G.2.2.1 x0), some (.int (zO x1)), some (.int (zO v5)), some (.int (zO v6))]) E ev6 (Mo_children_dc.at 24 rfl) hl rfl (by decide) rfl (fun ls hl => ?_)
      refine r_goto (tgt := 4) E (Mo_children_dc.at 25 rfl) (by decide) ?_
      exact hk4 _ x0 x1 v5 v6 hx0 hx1 hv5 hv6 _ _ _ S (hl.sub (And.intro rfl (And.intro rfl (And.intro rfl (And.intro rfl True.intro))))) h
    · have h := ite_f h q
      refine r_iconst E (Mo_children_dc.at 21 rfl) ?_
      refine r_iadd E (Mo_children_dc.at 22 rfl) ?_
      obtain ⟨v7, ev7, h⟩ := lt1_e h
      have hv7 := inR_eq ev7 (inR_w32 _)
      refine u_ist_n (y := v7) (vs' := [some (zR G.2.2.1 x0), some (.int (zO x1)), some (.int (zO v7)), some (.int (zO x3))]) E ev7 (Mo_children_dc.at 23 rfl) hl (by decide) rfl (fun ls hl => ?_)
      obtain ⟨v8, ev8, h⟩ := lt1_e h
      have hv8 := inR_eq ev8 (inR_w32 _)
      refine u_iinc (y := v8) (vs' := [some (zR G.2.2.1 x0), some (.int (zO x1)), some (.int (zO v7)), some (.int (zO v8))]) E ev8 (Mo_children_dc.at 24 rfl) hl rfl (by decide) rfl (fun ls hl => ?_)
      refine r_goto (tgt := 4) E (Mo_children_dc.at 25 rfl) (by decide) ?_
      exact hk4 _ x0 x1 v7 v8 hx0 hx1 hv7 hv8 _ _ _ S (hl.sub (And.intro rfl (And.intro rfl (And.intro rfl (And.intro rfl True.intro))))) h
  · have h := ite_f h q
    refine u_il_n (x := x2) E (Mo_children_dc.at 26 rfl) hl rfl ?_
    cases h
    exact r_iret E S hx2 (Mo_children_dc.at 27 rfl)
theorem Mo_children_l4_w (E : zEv p m c cX12_children 4 s args RX12 meth (some .int) G) {res : Int} : ∀ (n : Nat) (M : zM) (x0 : Int) (x1 : Int) (x2 : Int) (x3 : Int), InR x0 → InR x1 → InR x2 → InR x3 → ∀ (H : Heap) (locs : List Loc) (ls : Array Slot), zS G top L M s H locs → zLV ls 4 [some (zR G.2.2.1 x0), some (.int (zO x1)), some (.int (zO x2)), some (.int (zO x3))] → Mo_children_l4 fu L n M x0 x1 x2 x3 = some res → W p l e (zrm 1 0 0) s m args below meth c H locs 0 0 (MQ below (zQ G top L M (some (.int (zO res))) (InR res)) args s 0 0 (zA G)) (F0 m 4 ls [])
  | 0, _, _, _, _, _ => fun _ _ _ _ _ _ _ _ _ h => (by cases h)
  | n + 1, M, x0, x1, x2, x3 => fun hx0 hx1 hx2 hx3 H locs ls S hl h => Mo_children_s4_w E (fun M x0 x1 x2 x3 hx0 hx1 hx2 hx3 H locs ls S hl h => Mo_children_l4_w E n M x0 x1 x2 x3 hx0 hx1 hx2 hx3 H locs ls S hl h) hx0 hx1 hx2 hx3 S hl h
theorem Mo_children_w (E : zEv p m c cX12_children 4 s args RX12 meth (some .int) G) {res : Int} {M : zM} {a0 : Int} {a1 : Int} {H : Heap} {locs : List Loc} {ls : Array Slot} (ha0 : InR a0) (ha1 : InR a1) (S : zS G top L M s H locs) (hl : zLV ls 4 [some (zR G.2.2.1 a0), some (.int (zO a1)), none, none]) (h : Mo_children fu L M a0 a1 = some res) : W p l e (zrm 1 0 0) s m args below meth c H locs 0 0 (MQ below (zQ G top L M (some (.int (zO res))) (InR res)) args s 0 0 (zA G)) (F0 m 0 ls []) := by
  unfold Mo_children at h
  refine r_iconst E (Mo_children_dc.at 0 rfl) ?_
  refine u_ist_n (y := 0) (vs' := [some (zR G.2.2.1 a0), some (.int (zO a1)), some (.int (zO 0)), none]) E rfl (Mo_children_dc.at 1 rfl) hl (by decide) rfl (fun ls hl => ?_)
  refine r_iconst E (Mo_children_dc.at 2 rfl) ?_
  refine u_ist_n (y := 0) (vs' := [some (zR G.2.2.1 a0), some (.int (zO a1)), some (.int (zO 0)), some (.int (zO 0))]) E rfl (Mo_children_dc.at 3 rfl) hl (by decide) rfl (fun ls hl => ?_)
  exact Mo_children_l4_w E fu _ a0 a1 0 0 ha0 ha1 (show InR 0 by decide) (show InR 0 by decide) _ _ _ S (hl.sub (And.intro rfl (And.intro rfl (And.intro rfl (And.intro rfl True.intro))))) h
theorem Mo_children_c (l : Launch) (G : zG) (fu : Nat) (top : Int) (L : zL) (M : zM) (a0 : Int) (a1 : Int) {res : Int} (ha0 : InR a0) (ha1 : InR a1) (h : Mo_children fu L M a0 a1 = some res) : Met l yX12_children (Cond.code yX12_children cX12_children 4 (some .int) :: zTB) (zrm 1 0 0) (va_Pc [zR G.2.2.1 a0, .int (zO a1)] (zPre G top L M)) (zQ G top L M (some (.int (zO res))) (InR res)) 0 0 (zA G) :=
  z_met (by decide +kernel) (by simp [zR_cat, zcat_I, zcat_S]) (Nat.le_of_ble_eq_true rfl) fun p e s m below meth c ls E hn S hl => Mo_children_w E ha0 ha1 S (hl.sub (And.intro rfl (And.intro rfl True.intro))) h
end
theorem Mo_person_dc : zDL cX12_person [(0, .aload_n 0, 1, 1), (1, .aload_n 0, 1, 2), (2, .getfield 238, 3, 5), (5, .ifCond .eq 30, 3, 8), (8, .aload_n 0, 1, 9), (9, .getfield 31, 3, 12), (12, .iload_n 1, 1, 13), (13, .invokestatic 287, 3, 16), (16, .ifCond .eq 19, 3, 19), (19, .iload_n 2, 1, 20), (20, .i2l, 1, 21), (21, .lconst 0, 1, 22), (22, .ldc2_w 274, 3, 25), (25, .invokestatic 76, 3, 28), (28, .ifCond .eq 7, 3, 31), (31, .iconst 0, 1, 32), (32, .goto 4, 3, 35), (35, .iconst 1, 1, 36), (36, .putfield 66, 3, 39), (39, .aload_n 0, 1, 40), (40, .getfield 66, 3, 43), (43, .iconst 1, 1, 44), (44, .if_icmp .ne 5, 3, 47), (47, .iconst 0, 1, 48), (48, .ireturn, 1, 49), (49, .iload_n 2, 1, 50), (50, .tableswitch 85 0 3 #[30, 39, 69, 79], 30, 80), (80, .aload_n 0, 1, 81), (81, .getfield 31, 3, 84), (84, .iconst 2, 1, 85), (85, .iload_n 1, 1, 86), (86, .iadd, 1, 87), (87, .iaload, 1, 88), (88, .ireturn, 1, 89), (89, .aload_n 0, 1, 90), (90, .getfield 31, 3, 93), (93, .bipush 26, 2, 95), (95, .iload_n 1, 1, 96), (96, .iadd, 1, 97), (97, .iaload, 1, 98), (98, .ldc 254, 2, 100), (100, .if_icmp .ne 9, 3, 103), (103, .ldc_w 318, 3, 106), (106, .goto 12, 3, 109), (109, .aload_n 0, 1, 110), (110, .getfield 31, 3, 113), (113, .bipush 26, 2, 115), (115, .iload_n 1, 1, 116), (116, .iadd, 1, 117), (117, .iaload, 1, 118), (118, .ireturn, 1, 119), (119, .aload_n 0, 1, 120), (120, .getfield 31, 3, 123), (123, .bipush 50, 2, 125), (125, .iload_n 1, 1, 126), (126, .iadd, 1, 127), (127, .iaload, 1, 128), (128, .ireturn, 1, 129), (129, .aload_n 0, 1, 130), (130, .iload_n 1, 1, 131), (131, .invokevirtual 319, 3, 134), (134, .ireturn, 1, 135), (135, .aload_n 0, 1, 136), (136, .iload_n 1, 1, 137), (137, .invokevirtual 322, 3, 140), (140, .ireturn, 1, 141)] := zDL.of (by decide +kernel)
section
variable {p : Program} {l : Launch} {e : Env} {s : State} {m : MethodId} {args : Array Value} {below : List Frame} {meth : Method} {c : Code} {G : zG} {top : Int} {L : zL} {fu : Nat}
theorem Mo_person_b36_w (E : zEv p m c cX12_person 3 s args RX12 meth (some .int) G) {res : (zM × Int)} {M : zM} {x0 : Int} {x1 : Int} {x2 : Int} {y0 : Int} {y1 : Int} {H : Heap} {locs : List Loc} {ls : Array Slot} (hx0 : InR x0) (hx1 : InR x1) (hx2 : InR x2) (hy0 : InR y0) (hy1 : InR y1) (S : zS G top L M s H locs) (hl : zLV ls 3 [some (zR G.2.2.1 x0), some (.int (zO x1)), some (.int (zO x2))]) (h : Mo_person_b36 fu L M x0 x1 x2 y0 y1 = some res) : W p l e (zrm 3 0 0) s m args below meth c H locs 0 0 (MQ below (zQ G top L res.1 (some (.int (zO res.2))) (InR res.2)) args s 0 0 (zA G)) (F0 m 36 ls [.int (zO y1), zR G.2.2.1 y0]) := by
  unfold Mo_person_b36 at h
  obtain ⟨g2, h⟩ := ite_e h
  obtain ⟨M3, eM3, h⟩ := lt1_e h
  refine u_pI E eM3 zf_12_0 S g2 hy1 (Or.inl rfl) rfl zw_6_207 (Mo_person_dc.at 18 rfl) (fun H locs S4 => ?_)
  refine u_al_n (x := x0) E (Mo_person_dc.at 19 rfl) hl rfl ?_
  obtain ⟨g5, h⟩ := ite_e h
  refine u_gI E zf_12_0 S4 g5 zw_6_207 (Mo_person_dc.at 20 rfl) ?_
  refine r_iconst E (Mo_person_dc.at 21 rfl) ?_
  refine r_icmp_ne (tgt := 49) E (S4.1.inR _ _) (show InR 1 by decide) (Mo_person_dc.at 22 rfl) (by decide) (fun q => ?_) (fun q => ?_)
  · have h := ite_t h q
    refine r_iconst E (Mo_person_dc.at 23 rfl) ?_
    cases h
    exact r_iret E S4 (show InR 0 by decide) (Mo_person_dc.at 24 rfl)
  · have h := ite_f h q
    refine u_il_n (x := x2) E (Mo_person_dc.at 25 rfl) hl rfl ?_
    by_cases q8 : x2 = 0
    · have h := ite_t h q8
      refine r_tin (tgt := 80) (k := 0) E hx2 q8 (Mo_person_dc.at 26 rfl) (by decide) (by decide) rfl (by decide) ?_
      refine u_al_n (x := x0) E (Mo_person_dc.at 27 rfl) hl rfl ?_
      refine u_gR E zf_12_18 S4 g5 zw_6_225 (Mo_person_dc.at 28 rfl) ?_
      refine r_iconst E (Mo_person_dc.at 29 rfl) ?_
      refine u_il_n (x := x1) E (Mo_person_dc.at 30 rfl) hl rfl ?_
      refine r_iadd E (Mo_person_dc.at 31 rfl) ?_
      obtain ⟨g6, h⟩ := ite_e h
      obtain ⟨g7, h⟩ := ite_e h
      refine r_iald E S4 g6 g7 (Mo_person_dc.at 32 rfl) ?_
      cases h
      exact r_iret E S4 (S4.1.inR _ _) (Mo_person_dc.at 33 rfl)
    · have h := ite_f h q8
      by_cases q12 : x2 = 1
      · have h := ite_t h q12
        refine r_tin (tgt := 89) (k := 1) E hx2 q12 (Mo_person_dc.at 26 rfl) (by decide) (by decide) rfl (by decide) ?_
        refine u_al_n (x := x0) E (Mo_person_dc.at 34 rfl) hl rfl ?_
        refine u_gR E zf_12_18 S4 g5 zw_6_225 (Mo_person_dc.at 35 rfl) ?_
        refine r_bipush E (Mo_person_dc.at 36 rfl) rfl ?_
        refine u_il_n (x := x1) E (Mo_person_dc.at 37 rfl) hl rfl ?_
        refine r_iadd E (Mo_person_dc.at 38 rfl) ?_
        obtain ⟨g9, h⟩ := ite_e h
        obtain ⟨g10, h⟩ := ite_e h
        refine r_iald E S4 g9 g10 (Mo_person_dc.at 39 rfl) ?_
        refine r_ldc (n := 16777216) E (Mo_person_dc.at 40 rfl) zw_8_42 rfl ?_
        refine r_icmp_ne (tgt := 109) E (S4.1.inR _ _) (show InR 16777216 by decide) (Mo_person_dc.at 41 rfl) (by decide) (fun q => ?_) (fun q => ?_)
        · have h := ite_t h q
          refine r_ldcw (n := (-1000000)) E (Mo_person_dc.at 42 rfl) zw_8_134 rfl ?_
          refine r_goto (tgt := 118) E (Mo_person_dc.at 43 rfl) (by decide) ?_
          cases h
          exact r_iret E S4 (show InR (-1000000) by decide) (Mo_person_dc.at 50 rfl)
        · have h := ite_f h q
          refine u_al_n (x := x0) E (Mo_person_dc.at 44 rfl) hl rfl ?_
          refine u_gR E zf_12_18 S4 g5 zw_6_225 (Mo_person_dc.at 45 rfl) ?_
          refine r_bipush E (Mo_person_dc.at 46 rfl) rfl ?_
          refine u_il_n (x := x1) E (Mo_person_dc.at 47 rfl) hl rfl ?_
          refine r_iadd E (Mo_person_dc.at 48 rfl) ?_
          obtain ⟨g11, h⟩ := ite_e h
          refine r_iald E S4 g9 g11 (Mo_person_dc.at 49 rfl) ?_
          cases h
          exact r_iret E S4 (S4.1.inR _ _) (Mo_person_dc.at 50 rfl)
      · have h := ite_f h q12
        by_cases q15 : x2 = 2
        · have h := ite_t h q15
          refine r_tin (tgt := 119) (k := 2) E hx2 q15 (Mo_person_dc.at 26 rfl) (by decide) (by decide) rfl (by decide) ?_
          refine u_al_n (x := x0) E (Mo_person_dc.at 51 rfl) hl rfl ?_
          refine u_gR E zf_12_18 S4 g5 zw_6_225 (Mo_person_dc.at 52 rfl) ?_
          refine r_bipush E (Mo_person_dc.at 53 rfl) rfl ?_
          refine u_il_n (x := x1) E (Mo_person_dc.at 54 rfl) hl rfl ?_
          refine r_iadd E (Mo_person_dc.at 55 rfl) ?_
          obtain ⟨g13, h⟩ := ite_e h
          obtain ⟨g14, h⟩ := ite_e h
          refine r_iald E S4 g13 g14 (Mo_person_dc.at 56 rfl) ?_
          cases h
          exact r_iret E S4 (S4.1.inR _ _) (Mo_person_dc.at 57 rfl)
        · have h := ite_f h q15
          by_cases q18 : x2 = 3
          · have h := ite_t h q18
            refine r_tin (tgt := 129) (k := 3) E hx2 q18 (Mo_person_dc.at 26 rfl) (by decide) (by decide) rfl (by decide) ?_
            refine u_al_n (x := x0) E (Mo_person_dc.at 58 rfl) hl rfl ?_
            refine u_il_n (x := x1) E (Mo_person_dc.at 59 rfl) hl rfl ?_
            obtain ⟨r16, er16, h⟩ := bd1_e h
            refine u_cVI (As := [.int (zO x1)]) (rest := []) E S4 zcw_yX12_ageOf zw_8_137 zq_6_0 zw_8_135 zck_12.1 rfl g5 (Mo_ageOf_c l G fu top L M3 x0 x1 hx0 hx1 er16) (zrm_ok (by decide) (by decide)) ⟨Nat.le_refl 0, Nat.le_refl 0⟩ rfl (Nat.zero_le 8) hl.size rfl (Mo_person_dc.at 60 rfl) (fun H locs hr16 S17 => ?_)
            cases h
            exact r_iret E S17 hr16 (Mo_person_dc.at 61 rfl)
          · have h := ite_f h q18
            refine r_tout (tgt := 135) E hx2 (by omega) (Mo_person_dc.at 26 rfl) (by decide) ?_
            refine u_al_n (x := x0) E (Mo_person_dc.at 62 rfl) hl rfl ?_
            refine u_il_n (x := x1) E (Mo_person_dc.at 63 rfl) hl rfl ?_
            obtain ⟨r19, er19, h⟩ := bd1_e h
            refine u_cVI (As := [.int (zO x1)]) (rest := []) E S4 zcw_yX12_children zw_8_141 zq_6_1 zw_8_139 zck_12.1 rfl g5 (Mo_children_c l G fu top L M3 x0 x1 hx0 hx1 er19) (zrm_ok (by decide) (by decide)) ⟨Nat.le_refl 0, Nat.le_refl 0⟩ rfl (Nat.zero_le 8) hl.size rfl (Mo_person_dc.at 64 rfl) (fun H locs hr19 S20 => ?_)
            cases h
            exact r_iret E S20 hr19 (Mo_person_dc.at 65 rfl)
theorem Mo_person_w (E : zEv p m c cX12_person 3 s args RX12 meth (some .int) G) {res : (zM × Int)} {M : zM} {a0 : Int} {a1 : Int} {a2 : Int} {H : Heap} {locs : List Loc} {ls : Array Slot} (ha0 : InR a0) (ha1 : InR a1) (ha2 : InR a2) (S : zS G top L M s H locs) (hl : zLV ls 3 [some (zR G.2.2.1 a0), some (.int (zO a1)), some (.int (zO a2))]) (h : Mo_person fu L M a0 a1 a2 = some res) : W p l e (zrm 3 0 0) s m args below meth c H locs 0 0 (MQ below (zQ G top L res.1 (some (.int (zO res.2))) (InR res.2)) args s 0 0 (zA G)) (F0 m 0 ls []) := by
  unfold Mo_person at h
  refine u_al_n (x := a0) E (Mo_person_dc.at 0 rfl) hl rfl ?_
  refine u_al_n (x := a0) E (Mo_person_dc.at 1 rfl) hl rfl ?_
  obtain ⟨g1, h⟩ := ite_e h
  refine u_gI E zf_12_19 S g1 zw_6_226 (Mo_person_dc.at 2 rfl) ?_
  refine r_if_eq (tgt := 35) E (S.1.inR _ _) (Mo_person_dc.at 3 rfl) (by decide) (fun q => ?_) (fun q => ?_)
  · have h := ite_t h q
    refine r_iconst E (Mo_person_dc.at 17 rfl) ?_
    exact Mo_person_b36_w (x0 := a0) (x1 := a1) (x2 := a2) (y0 := a0) (y1 := 1) E ha0 ha1 ha2 ha0 (show InR 1 by decide) S (hl.sub (And.intro rfl (And.intro rfl (And.intro rfl True.intro)))) h
  · have h := ite_f h q
    refine u_al_n (x := a0) E (Mo_person_dc.at 4 rfl) hl rfl ?_
    refine u_gR E zf_12_18 S g1 zw_6_225 (Mo_person_dc.at 5 rfl) ?_
    refine u_il_n (x := a1) E (Mo_person_dc.at 6 rfl) hl rfl ?_
    obtain ⟨r21, er21, h⟩ := bd1_e h
    refine u_cSI (As := [zR G.2.2.1 (M a0 18), .int (zO a1)]) (rest := [zR G.2.2.1 a0]) E S zcw_yX12_isIn zw_8_92 zw_8_91 (Mo_isIn_c l G fu top L M (M a0 18) a1 (S.1.inR _ _) ha1 er21) (zrm_ok (by decide) (by decide)) ⟨Nat.le_refl 0, Nat.le_refl 0⟩ rfl (by simp [zR_cat, zcat_I, zcat_J, zcat_S]) hl.size rfl (Mo_person_dc.at 7 rfl) (fun H locs hr21 S22 => ?_)
    refine r_if_eq (tgt := 35) E (inR_01 hr21) (Mo_person_dc.at 8 rfl) (by decide) (fun q => ?_) (fun q => ?_)
    · have h := ite_t h q
      refine r_iconst E (Mo_person_dc.at 17 rfl) ?_
      exact Mo_person_b36_w (x0 := a0) (x1 := a1) (x2 := a2) (y0 := a0) (y1 := 1) E ha0 ha1 ha2 ha0 (show InR 1 by decide) S22 (hl.sub (And.intro rfl (And.intro rfl (And.intro rfl True.intro)))) h
    · have h := ite_f h q
      refine u_il_n (x := a2) E (Mo_person_dc.at 9 rfl) hl rfl ?_
      refine r_i2l E ha2 (Mo_person_dc.at 10 rfl) ?_
      refine r_lconst (x := 0) E (Mo_person_dc.at 11 rfl) rfl ?_
      refine r_ldc2 (x := 4) E (Mo_person_dc.at 12 rfl) zw_8_51 rfl ?_
      obtain ⟨r23, er23, h⟩ := bd1_e h
      refine u_cSI (As := [.long (Int64.ofInt a2), .long (Int64.ofInt 0), .long (Int64.ofInt 4)]) (rest := [zR G.2.2.1 a0]) E S22 zcw_yX12_in zw_7_134 zw_7_133 (Mo_in_c l G fu top L M a2 0 4 ha2 (show InR 0 by decide) (show InR 4 by decide) er23) (zrm_ok (by decide) (by decide)) ⟨Nat.le_refl 0, Nat.le_refl 0⟩ rfl (by simp [zR_cat, zcat_I, zcat_J, zcat_S]) hl.size rfl (Mo_person_dc.at 13 rfl) (fun H locs hr23 S24 => ?_)
      refine r_if_eq (tgt := 35) E (inR_01 hr23) (Mo_person_dc.at 14 rfl) (by decide) (fun q => ?_) (fun q => ?_)
      · have h := ite_t h q
        refine r_iconst E (Mo_person_dc.at 17 rfl) ?_
        exact Mo_person_b36_w (x0 := a0) (x1 := a1) (x2 := a2) (y0 := a0) (y1 := 1) E ha0 ha1 ha2 ha0 (show InR 1 by decide) S24 (hl.sub (And.intro rfl (And.intro rfl (And.intro rfl True.intro)))) h
      · have h := ite_f h q
        refine r_iconst E (Mo_person_dc.at 15 rfl) ?_
        refine r_goto (tgt := 36) E (Mo_person_dc.at 16 rfl) (by decide) ?_
        exact Mo_person_b36_w (x0 := a0) (x1 := a1) (x2 := a2) (y0 := a0) (y1 := 0) E ha0 ha1 ha2 ha0 (show InR 0 by decide) S24 (hl.sub (And.intro rfl (And.intro rfl (And.intro rfl True.intro)))) h
theorem Mo_person_c (l : Launch) (G : zG) (fu : Nat) (top : Int) (L : zL) (M : zM) (a0 : Int) (a1 : Int) (a2 : Int) {res : (zM × Int)} (ha0 : InR a0) (ha1 : InR a1) (ha2 : InR a2) (h : Mo_person fu L M a0 a1 a2 = some res) : Met l yX12_person (Cond.code yX12_person cX12_person 3 (some .int) :: zTB) (zrm 3 0 0) (va_Pc [zR G.2.2.1 a0, .int (zO a1), .int (zO a2)] (zPre G top L M)) (zQ G top L res.1 (some (.int (zO res.2))) (InR res.2)) 0 0 (zA G) :=
  z_met (by decide +kernel) (by simp [zR_cat, zcat_I, zcat_S]) (Nat.le_of_ble_eq_true rfl) fun p e s m below meth c ls E hn S hl => Mo_person_w E ha0 ha1 ha2 S (hl.sub (And.intro rfl (And.intro rfl (And.intro rfl True.intro)))) h
end
theorem Mo_told_dc : zDL cX12_told [(0, .aload_n 0, 1, 1), (1, .iconst 0, 1, 2), (2, .putfield 66, 3, 5), (5, .aload_n 0, 1, 6), (6, .iload_n 1, 1, 7), (7, .invokevirtual 282, 3, 10), (10, .ifCond .eq 29, 3, 13), (13, .iload_n 2, 1, 14), (14, .i2l, 1, 15), (15, .lconst 0, 1, 16), (16, .ldc2_w 324, 3, 19), (19, .invokestatic 76, 3, 22), (22, .ifCond .eq 17, 3, 25), (25, .aload_n 0, 1, 26), (26, .getfield 31, 3, 29), (29, .iload_n 1, 1, 30), (30, .invokestatic 271, 3, 33), (33, .iload_n 2, 1, 34), (34, .iadd, 1, 35), (35, .iaload, 1, 36), (36, .goto 4, 3, 39), (39, .iconst (-1), 1, 40), (40, .ireturn, 1, 41)] := zDL.of (by decide +kernel)
section
variable {p : Program} {l : Launch} {e : Env} {s : State} {m : MethodId} {args : Array Value} {below : List Frame} {meth : Method} {c : Code} {G : zG} {top : Int} {L : zL} {fu : Nat}
theorem Mo_told_w (E : zEv p m c cX12_told 3 s args RX12 meth (some .int) G) {res : (zM × Int)} {M : zM} {a0 : Int} {a1 : Int} {a2 : Int} {H : Heap} {locs : List Loc} {ls : Array Slot} (ha0 : InR a0) (ha1 : InR a1) (ha2 : InR a2) (S : zS G top L M s H locs) (hl : zLV ls 3 [some (zR G.2.2.1 a0), some (.int (zO a1)), some (.int (zO a2))]) (h : Mo_told fu L M a0 a1 a2 = some res) : W p l e (zrm 3 0 0) s m args below meth c H locs 0 0 (MQ below (zQ G top L res.1 (some (.int (zO res.2))) (InR res.2)) args s 0 0 (zA G)) (F0 m 0 ls []) := by
  unfold Mo_told at h
  refine u_al_n (x := a0) E (Mo_told_dc.at 0 rfl) hl rfl ?_
  refine r_iconst E (Mo_told_dc.at 1 rfl) ?_
  obtain ⟨g1, h⟩ := ite_e h
  obtain ⟨M2, eM2, h⟩ := lt1_e h
  refine u_pI E eM2 zf_12_0 S g1 (show InR 0 by decide) (Or.inl rfl) rfl zw_6_207 (Mo_told_dc.at 2 rfl) (fun H locs S3 => ?_)
  refine u_al_n (x := a0) E (Mo_told_dc.at 3 rfl) hl rfl ?_
  refine u_il_n (x := a1) E (Mo_told_dc.at 4 rfl) hl rfl ?_
  obtain ⟨r4, er4, h⟩ := bd1_e h
  refine u_cVI (As := [.int (zO a1)]) (rest := []) E S3 zcw_yX12_isGift zw_8_77 zq_5_12 zw_8_75 zck_12.1 rfl g1 (Mo_isGift_c l G fu top L M2 a0 a1 ha0 ha1 er4) (zrm_ok (by decide) (by decide)) ⟨Nat.le_refl 0, Nat.le_refl 0⟩ rfl (Nat.zero_le 8) hl.size rfl (Mo_told_dc.at 5 rfl) (fun H locs hr4 S5 => ?_)
  refine r_if_eq (tgt := 39) E (inR_01 hr4) (Mo_told_dc.at 6 rfl) (by decide) (fun q => ?_) (fun q => ?_)
  · have h := ite_t h q
    refine r_iconst E (Mo_told_dc.at 21 rfl) ?_
    cases h
    exact r_iret E S5 (show InR (-1) by decide) (Mo_told_dc.at 22 rfl)
  · have h := ite_f h q
    refine u_il_n (x := a2) E (Mo_told_dc.at 7 rfl) hl rfl ?_
    refine r_i2l E ha2 (Mo_told_dc.at 8 rfl) ?_
    refine r_lconst (x := 0) E (Mo_told_dc.at 9 rfl) rfl ?_
    refine r_ldc2 (x := 3) E (Mo_told_dc.at 10 rfl) zw_8_147 rfl ?_
    obtain ⟨r6, er6, h⟩ := bd1_e h
    refine u_cSI (As := [.long (Int64.ofInt a2), .long (Int64.ofInt 0), .long (Int64.ofInt 3)]) (rest := []) E S5 zcw_yX12_in zw_7_134 zw_7_133 (Mo_in_c l G fu top L M2 a2 0 3 ha2 (show InR 0 by decide) (show InR 3 by decide) er6) (zrm_ok (by decide) (by decide)) ⟨Nat.le_refl 0, Nat.le_refl 0⟩ rfl (Nat.zero_le 8) hl.size rfl (Mo_told_dc.at 11 rfl) (fun H locs hr6 S7 => ?_)
    refine r_if_eq (tgt := 39) E (inR_01 hr6) (Mo_told_dc.at 12 rfl) (by decide) (fun q => ?_) (fun q => ?_)
    · have h := ite_t h q
      refine r_iconst E (Mo_told_dc.at 21 rfl) ?_
      cases h
      exact r_iret E S7 (show InR (-1) by decide) (Mo_told_dc.at 22 rfl)
    · have h := ite_f h q
      refine u_al_n (x := a0) E (Mo_told_dc.at 13 rfl) hl rfl ?_
      refine u_gR E zf_12_18 S7 g1 zw_6_225 (Mo_told_dc.at 14 rfl) ?_
      refine u_il_n (x := a1) E (Mo_told_dc.at 15 rfl) hl rfl ?_
      obtain ⟨r8, er8, h⟩ := bd1_e h
      refine u_cSI (As := [.int (zO a1)]) (rest := [zR G.2.2.1 (M2 a0 18)]) E S7 zcw_yX12_giftAt zw_8_69 zw_8_68 (Mo_giftAt_c l G fu top L M2 a1 ha1 er8) (zrm_ok (by decide) (by decide)) ⟨Nat.le_refl 0, Nat.le_refl 0⟩ rfl (by simp [zR_cat, zcat_I, zcat_J, zcat_S]) hl.size rfl (Mo_told_dc.at 16 rfl) (fun H locs hr8 S9 => ?_)
      refine u_il_n (x := a2) E (Mo_told_dc.at 17 rfl) hl rfl ?_
      refine r_iadd E (Mo_told_dc.at 18 rfl) ?_
      obtain ⟨g10, h⟩ := ite_e h
      obtain ⟨g11, h⟩ := ite_e h
      refine r_iald E S9 g10 g11 (Mo_told_dc.at 19 rfl) ?_
      refine r_goto (tgt := 40) E (Mo_told_dc.at 20 rfl) (by decide) ?_
      cases h
      exact r_iret E S9 (S9.1.inR _ _) (Mo_told_dc.at 22 rfl)
theorem Mo_told_c (l : Launch) (G : zG) (fu : Nat) (top : Int) (L : zL) (M : zM) (a0 : Int) (a1 : Int) (a2 : Int) {res : (zM × Int)} (ha0 : InR a0) (ha1 : InR a1) (ha2 : InR a2) (h : Mo_told fu L M a0 a1 a2 = some res) : Met l yX12_told (Cond.code yX12_told cX12_told 3 (some .int) :: zTB) (zrm 3 0 0) (va_Pc [zR G.2.2.1 a0, .int (zO a1), .int (zO a2)] (zPre G top L M)) (zQ G top L res.1 (some (.int (zO res.2))) (InR res.2)) 0 0 (zA G) :=
  z_met (by decide +kernel) (by simp [zR_cat, zcat_I, zcat_S]) (Nat.le_of_ble_eq_true rfl) fun p e s m below meth c ls E hn S hl => Mo_told_w E ha0 ha1 ha2 S (hl.sub (And.intro rfl (And.intro rfl (And.intro rfl True.intro)))) h
end
theorem Mo_writes_dc : zDL cX12_writes [(0, .aload_n 0, 1, 1), (1, .aload_n 0, 1, 2), (2, .getfield 326, 3, 5), (5, .aload_n 0, 1, 6), (6, .getfield 329, 3, 9), (9, .if_icmp .ne 7, 3, 12), (12, .iload_n 1, 1, 13), (13, .goto 7, 3, 16), (16, .aload_n 0, 1, 17), (17, .getfield 332, 3, 20), (20, .putfield 332, 3, 23), (23, .aload_n 0, 1, 24), (24, .dup, 1, 25), (25, .getfield 326, 3, 28), (28, .iconst 1, 1, 29), (29, .iadd, 1, 30), (30, .putfield 326, 3, 33), (33, .return_, 1, 34)] := zDL.of (by decide +kernel)
section
variable {p : Program} {l : Launch} {e : Env} {s : State} {m : MethodId} {args : Array Value} {below : List Frame} {meth : Method} {c : Code} {G : zG} {top : Int} {L : zL} {fu : Nat}
theorem Mo_writes_w (E : zEv p m c cX12_writes 2 s args RX12 meth none G) {res : zM} {M : zM} {a0 : Int} {a1 : Int} {H : Heap} {locs : List Loc} {ls : Array Slot} (ha0 : InR a0) (ha1 : InR a1) (S : zS G top L M s H locs) (hl : zLV ls 2 [some (zR G.2.2.1 a0), some (.int (zO a1))]) (h : Mo_writes fu L M a0 a1 = some res) : W p l e (zrm 1 0 0) s m args below meth c H locs 0 0 (MQ below (zQ G top L res none True) args s 0 0 (zA G)) (F0 m 0 ls []) := by
  unfold Mo_writes at h
  refine u_al_n (x := a0) E (Mo_writes_dc.at 0 rfl) hl rfl ?_
  refine u_al_n (x := a0) E (Mo_writes_dc.at 1 rfl) hl rfl ?_
  obtain ⟨g1, h⟩ := ite_e h
  refine u_gI E zf_12_27 S g1 zw_6_234 (Mo_writes_dc.at 2 rfl) ?_
  refine u_al_n (x := a0) E (Mo_writes_dc.at 3 rfl) hl rfl ?_
  refine u_gI E zf_12_28 S g1 zw_6_235 (Mo_writes_dc.at 4 rfl) ?_
  refine r_icmp_ne (tgt := 16) E (S.1.inR _ _) (S.1.inR _ _) (Mo_writes_dc.at 5 rfl) (by decide) (fun q => ?_) (fun q => ?_)
  · have h := ite_t h q
    refine u_il_n (x := a1) E (Mo_writes_dc.at 6 rfl) hl rfl ?_
    refine r_goto (tgt := 20) E (Mo_writes_dc.at 7 rfl) (by decide) ?_
    obtain ⟨M2, eM2, h⟩ := lt1_e h
    refine u_pI E eM2 zf_12_29 S g1 ha1 (Or.inl rfl) rfl zw_6_236 (Mo_writes_dc.at 10 rfl) (fun H locs S3 => ?_)
    refine u_al_n (x := a0) E (Mo_writes_dc.at 11 rfl) hl rfl ?_
    refine r_dup E (Mo_writes_dc.at 12 rfl) (zR_cat _ _) ?_
    refine u_gI E zf_12_27 S3 g1 zw_6_234 (Mo_writes_dc.at 13 rfl) ?_
    refine r_iconst E (Mo_writes_dc.at 14 rfl) ?_
    refine r_iadd E (Mo_writes_dc.at 15 rfl) ?_
    obtain ⟨M4, eM4, h⟩ := lt1_e h
    refine u_pI E eM4 zf_12_27 S3 g1 (inR_w32 _) (Or.inl rfl) rfl zw_6_234 (Mo_writes_dc.at 16 rfl) (fun H locs S5 => ?_)
    cases h
    exact r_vret E S5 True.intro (Mo_writes_dc.at 17 rfl)
  · have h := ite_f h q
    refine u_al_n (x := a0) E (Mo_writes_dc.at 8 rfl) hl rfl ?_
    refine u_gI E zf_12_29 S g1 zw_6_236 (Mo_writes_dc.at 9 rfl) ?_
    obtain ⟨M6, eM6, h⟩ := lt1_e h
    refine u_pI E eM6 zf_12_29 S g1 (S.1.inR _ _) (Or.inl rfl) rfl zw_6_236 (Mo_writes_dc.at 10 rfl) (fun H locs S7 => ?_)
    refine u_al_n (x := a0) E (Mo_writes_dc.at 11 rfl) hl rfl ?_
    refine r_dup E (Mo_writes_dc.at 12 rfl) (zR_cat _ _) ?_
    refine u_gI E zf_12_27 S7 g1 zw_6_234 (Mo_writes_dc.at 13 rfl) ?_
    refine r_iconst E (Mo_writes_dc.at 14 rfl) ?_
    refine r_iadd E (Mo_writes_dc.at 15 rfl) ?_
    obtain ⟨M8, eM8, h⟩ := lt1_e h
    refine u_pI E eM8 zf_12_27 S7 g1 (inR_w32 _) (Or.inl rfl) rfl zw_6_234 (Mo_writes_dc.at 16 rfl) (fun H locs S9 => ?_)
    cases h
    exact r_vret E S9 True.intro (Mo_writes_dc.at 17 rfl)
theorem Mo_writes_c (l : Launch) (G : zG) (fu : Nat) (top : Int) (L : zL) (M : zM) (a0 : Int) (a1 : Int) {res : zM} (ha0 : InR a0) (ha1 : InR a1) (h : Mo_writes fu L M a0 a1 = some res) : Met l yX12_writes (Cond.code yX12_writes cX12_writes 2 none :: zTB) (zrm 1 0 0) (va_Pc [zR G.2.2.1 a0, .int (zO a1)] (zPre G top L M)) (zQ G top L res none True) 0 0 (zA G) :=
  z_met (by decide +kernel) (by simp [zR_cat, zcat_I, zcat_S]) (Nat.le_of_ble_eq_true rfl) fun p e s m below meth c ls E hn S hl => Mo_writes_w E ha0 ha1 S (hl.sub (And.intro rfl (And.intro rfl True.intro))) h
end
theorem Mo_writesAll_dc : zDL cX12_writesAll [(0, .iconst 0, 1, 1), (1, .istore_n 2, 1, 2), (2, .iload_n 2, 1, 3), (3, .aload_n 1, 1, 4), (4, .invokevirtual 116, 3, 7), (7, .if_icmp .ge 18, 3, 10), (10, .aload_n 0, 1, 11), (11, .aload_n 1, 1, 12), (12, .iload_n 2, 1, 13), (13, .invokevirtual 122, 3, 16), (16, .invokevirtual 335, 3, 19), (19, .iinc 2 1, 3, 22), (22, .goto (-20), 3, 25), (25, .return_, 1, 26)] := zDL.of (by decide +kernel)
section
variable {p : Program} {l : Launch} {e : Env} {s : State} {m : MethodId} {args : Array Value} {below : List Frame} {meth : Method} {c : Code} {G : zG} {top : Int} {L : zL} {fu : Nat}
theorem Mo_writesAll_s2_w (E : zEv p m c cX12_writesAll 3 s args RX12 meth none G) {res : zM} {k2 : zM → Int → Nat → Int → Option zM} (hk2 : ∀ (M : zM) (x0 : Int) (x1 : Nat) (x2 : Int), InR x0 → InR x2 → ∀ (H : Heap) (locs : List Loc) (ls : Array Slot), zS G top L M s H locs → zLV ls 3 [some (zR G.2.2.1 x0), some (.ref (G.2.2.2.1 x1)), some (.int (zO x2))] → k2 M x0 x1 x2 = some res → W p l e (zrm 6 0 0) s m args below meth c H locs 0 0 (MQ below (zQ G top L res none True) args s 0 0 (zA G)) (F0 m 2 ls [])) {M : zM} {x0 : Int} {x1 : Nat} {x2 : Int} {H : Heap} {locs : List Loc} {ls : Array Slot} (hx0 : InR x0) (hx2 : InR x2) (S : zS G top L M s H locs) (hl : zLV ls 3 [some (zR G.2.2.1 x0), some (.ref (G.2.2.2.1 x1)), some (.int (zO x2))]) (h : Mo_writesAll_s2 fu k2 L M x0 x1 x2 = some res) : W p l e (zrm 6 0 0) s m args below meth c H locs 0 0 (MQ below (zQ G top L res none True) args s 0 0 (zA G)) (F0 m 2 ls []) := by
  unfold Mo_writesAll_s2 at h
  refine u_il_n (x := x2) E (Mo_writesAll_dc.at 2 rfl) hl rfl ?_
  refine r_aloadS_n E (Mo_writesAll_dc.at 3 rfl) hl rfl ?_
  obtain ⟨r1, er1, h⟩ := bd1_e h
  refine u_St_length (rest := [.int (zO x2)]) E S er1 zw_7_194 hl.size (zrm_ok (by decide) (by decide)) (by simp [zR_cat, zcat_I, zcat_J, zcat_S]) (Mo_writesAll_dc.at 4 rfl) ⟨Nat.le_refl 0, Nat.le_refl 0⟩ (fun H locs hr1 S2 => ?_)
  refine r_icmp_ge (tgt := 25) E hx2 hr1 (Mo_writesAll_dc.at 5 rfl) (by decide) (fun q => ?_) (fun q => ?_)
  · have h := ite_t h q
    refine u_al_n (x := x0) E (Mo_writesAll_dc.at 6 rfl) hl rfl ?_
    refine r_aloadS_n E (Mo_writesAll_dc.at 7 rfl) hl rfl ?_
    refine u_il_n (x := x2) E (Mo_writesAll_dc.at 8 rfl) hl rfl ?_
    obtain ⟨r3, er3, h⟩ := bd1_e h
    refine u_St_charAt (rest := [zR G.2.2.1 x0]) E S2 er3 hx2 zw_7_195 hl.size (zrm_ok (by decide) (by decide)) (by simp [zR_cat, zcat_I, zcat_J, zcat_S]) (Mo_writesAll_dc.at 9 rfl) ⟨Nat.le_refl 0, Nat.le_refl 0⟩ (fun H locs hr3 S4 => ?_)
    obtain ⟨g5, h⟩ := ite_e h
    obtain ⟨M6, eM6, h⟩ := bd1_e h
    refine u_cVU (As := [.int (zO r3)]) (rest := []) E S4 zcw_yX12_writes zw_8_159 zq_6_3 zw_8_157 zck_12.1 rfl g5 (Mo_writes_c l G fu top L M x0 r3 hx0 hr3 eM6) (zrm_ok (by decide) (by decide)) ⟨Nat.le_refl 0, Nat.le_refl 0⟩ rfl (Nat.zero_le 8) hl.size rfl (Mo_writesAll_dc.at 10 rfl) (fun H locs _ S7 => ?_)
    obtain ⟨v8, ev8, h⟩ := lt1_e h
    have hv8 := inR_eq ev8 (inR_w32 _)
    refine u_iinc (y := v8) (vs' := [some (zR G.2.2.1 x0), some (.ref (G.2.2.2.1 x1)), some (.int (zO v8))]) E ev8 (Mo_writesAll_dc.at 11 rfl) hl rfl (by decide) rfl (fun ls hl => ?_)
    refine r_goto (tgt := 2) E (Mo_writesAll_dc.at 12 rfl) (by decide) ?_
    exact hk2 _ x0 x1 v8 hx0 hv8 _ _ _ S7 (hl.sub (And.intro rfl (And.intro rfl (And.intro rfl True.intro)))) h
  · have h := ite_f h q
    cases h
    exact r_vret E S2 True.intro (Mo_writesAll_dc.at 13 rfl)
theorem Mo_writesAll_l2_w (E : zEv p m c cX12_writesAll 3 s args RX12 meth none G) {res : zM} : ∀ (n : Nat) (M : zM) (x0 : Int) (x1 : Nat) (x2 : Int), InR x0 → InR x2 → ∀ (H : Heap) (locs : List Loc) (ls : Array Slot), zS G top L M s H locs → zLV ls 3 [some (zR G.2.2.1 x0), some (.ref (G.2.2.2.1 x1)), some (.int (zO x2))] → Mo_writesAll_l2 fu L n M x0 x1 x2 = some res → W p l e (zrm 6 0 0) s m args below meth c H locs 0 0 (MQ below (zQ G top L res none True) args s 0 0 (zA G)) (F0 m 2 ls [])
  | 0, _, _, _, _ => fun _ _ _ _ _ _ _ h => (by cases h)
  | n + 1, M, x0, x1, x2 => fun hx0 hx2 H locs ls S hl h => Mo_writesAll_s2_w E (fun M x0 x1 x2 hx0 hx2 H locs ls S hl h => Mo_writesAll_l2_w E n M x0 x1 x2 hx0 hx2 H locs ls S hl h) hx0 hx2 S hl h
theorem Mo_writesAll_w (E : zEv p m c cX12_writesAll 3 s args RX12 meth none G) {res : zM} {M : zM} {a0 : Int} {a1 : Nat} {H : Heap} {locs : List Loc} {ls : Array Slot} (ha0 : InR a0) (S : zS G top L M s H locs) (hl : zLV ls 3 [some (zR G.2.2.1 a0), some (.ref (G.2.2.2.1 a1)), none]) (h : Mo_writesAll fu L M a0 a1 = some res) : W p l e (zrm 6 0 0) s m args below meth c H locs 0 0 (MQ below (zQ G top L res none True) args s 0 0 (zA G)) (F0 m 0 ls []) := by
  unfold Mo_writesAll at h
  refine r_iconst E (Mo_writesAll_dc.at 0 rfl) ?_
  refine u_ist_n (y := 0) (vs' := [some (zR G.2.2.1 a0), some (.ref (G.2.2.2.1 a1)), some (.int (zO 0))]) E rfl (Mo_writesAll_dc.at 1 rfl) hl (by decide) rfl (fun ls hl => ?_)
  exact Mo_writesAll_l2_w E fu _ a0 a1 0 ha0 (show InR 0 by decide) _ _ _ S (hl.sub (And.intro rfl (And.intro rfl (And.intro rfl True.intro)))) h
theorem Mo_writesAll_c (l : Launch) (G : zG) (fu : Nat) (top : Int) (L : zL) (M : zM) (a0 : Int) (a1 : Nat) {res : zM} (ha0 : InR a0) (h : Mo_writesAll fu L M a0 a1 = some res) : Met l yX12_writesAll (Cond.code yX12_writesAll cX12_writesAll 3 none :: zTB) (zrm 6 0 0) (va_Pc [zR G.2.2.1 a0, .ref (G.2.2.2.1 a1)] (zPre G top L M)) (zQ G top L res none True) 0 0 (zA G) :=
  z_met (by decide +kernel) (by simp [zR_cat, zcat_I, zcat_S]) (Nat.le_of_ble_eq_true rfl) fun p e s m below meth c ls E hn S hl => Mo_writesAll_w E ha0 S (hl.sub (And.intro rfl (And.intro rfl True.intro))) h
end
theorem Mo_to_dc : zDL cX12_to [(0, .aload_n 0, 1, 1), (1, .getfield 31, 3, 4), (4, .iload_n 1, 1, 5), (5, .invokestatic 271, 3, 8), (8, .iconst 0, 1, 9), (9, .iadd, 1, 10), (10, .iaload, 1, 11), (11, .ireturn, 1, 12)] := zDL.of (by decide +kernel)
section
variable {p : Program} {l : Launch} {e : Env} {s : State} {m : MethodId} {args : Array Value} {below : List Frame} {meth : Method} {c : Code} {G : zG} {top : Int} {L : zL} {fu : Nat}
theorem Mo_to_w (E : zEv p m c cX12_to 2 s args RX12 meth (some .int) G) {res : Int} {M : zM} {a0 : Int} {a1 : Int} {H : Heap} {locs : List Loc} {ls : Array Slot} (ha0 : InR a0) (ha1 : InR a1) (S : zS G top L M s H locs) (hl : zLV ls 2 [some (zR G.2.2.1 a0), some (.int (zO a1))]) (h : Mo_to fu L M a0 a1 = some res) : W p l e (zrm 2 0 0) s m args below meth c H locs 0 0 (MQ below (zQ G top L M (some (.int (zO res))) (InR res)) args s 0 0 (zA G)) (F0 m 0 ls []) := by
  unfold Mo_to at h
  refine u_al_n (x := a0) E (Mo_to_dc.at 0 rfl) hl rfl ?_
  obtain ⟨g1, h⟩ := ite_e h
  refine u_gR E zf_12_18 S g1 zw_6_225 (Mo_to_dc.at 1 rfl) ?_
  refine u_il_n (x := a1) E (Mo_to_dc.at 2 rfl) hl rfl ?_
  obtain ⟨r2, er2, h⟩ := bd1_e h
  refine u_cSI (As := [.int (zO a1)]) (rest := [zR G.2.2.1 (M a0 18)]) E S zcw_yX12_giftAt zw_8_69 zw_8_68 (Mo_giftAt_c l G fu top L M a1 ha1 er2) (zrm_ok (by decide) (by decide)) ⟨Nat.le_refl 0, Nat.le_refl 0⟩ rfl (by simp [zR_cat, zcat_I, zcat_J, zcat_S]) hl.size rfl (Mo_to_dc.at 3 rfl) (fun H locs hr2 S3 => ?_)
  refine r_iconst E (Mo_to_dc.at 4 rfl) ?_
  refine r_iadd E (Mo_to_dc.at 5 rfl) ?_
  obtain ⟨g4, h⟩ := ite_e h
  obtain ⟨g5, h⟩ := ite_e h
  refine r_iald E S3 g4 g5 (Mo_to_dc.at 6 rfl) ?_
  cases h
  exact r_iret E S3 (S3.1.inR _ _) (Mo_to_dc.at 7 rfl)
theorem Mo_to_c (l : Launch) (G : zG) (fu : Nat) (top : Int) (L : zL) (M : zM) (a0 : Int) (a1 : Int) {res : Int} (ha0 : InR a0) (ha1 : InR a1) (h : Mo_to fu L M a0 a1 = some res) : Met l yX12_to (Cond.code yX12_to cX12_to 2 (some .int) :: zTB) (zrm 2 0 0) (va_Pc [zR G.2.2.1 a0, .int (zO a1)] (zPre G top L M)) (zQ G top L M (some (.int (zO res))) (InR res)) 0 0 (zA G) :=
  z_met (by decide +kernel) (by simp [zR_cat, zcat_I, zcat_S]) (Nat.le_of_ble_eq_true rfl) fun p e s m below meth c ls E hn S hl => Mo_to_w E ha0 ha1 S (hl.sub (And.intro rfl (And.intro rfl True.intro))) h
end
theorem Mo_toldLife_dc : zDL cX12_toldLife [(0, .aload_n 0, 1, 1), (1, .getfield 31, 3, 4), (4, .iload_n 1, 1, 5), (5, .invokestatic 271, 3, 8), (8, .iconst 1, 1, 9), (9, .iadd, 1, 10), (10, .iaload, 1, 11), (11, .ireturn, 1, 12)] := zDL.of (by decide +kernel)
section
variable {p : Program} {l : Launch} {e : Env} {s : State} {m : MethodId} {args : Array Value} {below : List Frame} {meth : Method} {c : Code} {G : zG} {top : Int} {L : zL} {fu : Nat}
theorem Mo_toldLife_w (E : zEv p m c cX12_toldLife 2 s args RX12 meth (some .int) G) {res : Int} {M : zM} {a0 : Int} {a1 : Int} {H : Heap} {locs : List Loc} {ls : Array Slot} (ha0 : InR a0) (ha1 : InR a1) (S : zS G top L M s H locs) (hl : zLV ls 2 [some (zR G.2.2.1 a0), some (.int (zO a1))]) (h : Mo_toldLife fu L M a0 a1 = some res) : W p l e (zrm 2 0 0) s m args below meth c H locs 0 0 (MQ below (zQ G top L M (some (.int (zO res))) (InR res)) args s 0 0 (zA G)) (F0 m 0 ls []) := by
  unfold Mo_toldLife at h
  refine u_al_n (x := a0) E (Mo_toldLife_dc.at 0 rfl) hl rfl ?_
  obtain ⟨g1, h⟩ := ite_e h
  refine u_gR E zf_12_18 S g1 zw_6_225 (Mo_toldLife_dc.at 1 rfl) ?_
  refine u_il_n (x := a1) E (Mo_toldLife_dc.at 2 rfl) hl rfl ?_
  obtain ⟨r2, er2, h⟩ := bd1_e h
  refine u_cSI (As := [.int (zO a1)]) (rest := [zR G.2.2.1 (M a0 18)]) E S zcw_yX12_giftAt zw_8_69 zw_8_68 (Mo_giftAt_c l G fu top L M a1 ha1 er2) (zrm_ok (by decide) (by decide)) ⟨Nat.le_refl 0, Nat.le_refl 0⟩ rfl (by simp [zR_cat, zcat_I, zcat_J, zcat_S]) hl.size rfl (Mo_toldLife_dc.at 3 rfl) (fun H locs hr2 S3 => ?_)
  refine r_iconst E (Mo_toldLife_dc.at 4 rfl) ?_
  refine r_iadd E (Mo_toldLife_dc.at 5 rfl) ?_
  obtain ⟨g4, h⟩ := ite_e h
  obtain ⟨g5, h⟩ := ite_e h
  refine r_iald E S3 g4 g5 (Mo_toldLife_dc.at 6 rfl) ?_
  cases h
  exact r_iret E S3 (S3.1.inR _ _) (Mo_toldLife_dc.at 7 rfl)
theorem Mo_toldLife_c (l : Launch) (G : zG) (fu : Nat) (top : Int) (L : zL) (M : zM) (a0 : Int) (a1 : Int) {res : Int} (ha0 : InR a0) (ha1 : InR a1) (h : Mo_toldLife fu L M a0 a1 = some res) : Met l yX12_toldLife (Cond.code yX12_toldLife cX12_toldLife 2 (some .int) :: zTB) (zrm 2 0 0) (va_Pc [zR G.2.2.1 a0, .int (zO a1)] (zPre G top L M)) (zQ G top L M (some (.int (zO res))) (InR res)) 0 0 (zA G) :=
  z_met (by decide +kernel) (by simp [zR_cat, zcat_I, zcat_S]) (Nat.le_of_ble_eq_true rfl) fun p e s m below meth c ls E hn S hl => Mo_toldLife_w E ha0 ha1 S (hl.sub (And.intro rfl (And.intro rfl True.intro))) h
end
theorem Mo_writesName_dc : zDL cX12_writesName [(0, .aload_n 0, 1, 1), (1, .bipush 97, 2, 3), (3, .aload_n 0, 1, 4), (4, .getfield 34, 3, 7), (7, .iload_n 1, 1, 8), (8, .iaload, 1, 9), (9, .iadd, 1, 10), (10, .invokevirtual 335, 3, 13), (13, .return_, 1, 14)] := zDL.of (by decide +kernel)
section
variable {p : Program} {l : Launch} {e : Env} {s : State} {m : MethodId} {args : Array Value} {below : List Frame} {meth : Method} {c : Code} {G : zG} {top : Int} {L : zL} {fu : Nat}
theorem Mo_writesName_w (E : zEv p m c cX12_writesName 2 s args RX12 meth none G) {res : zM} {M : zM} {a0 : Int} {a1 : Int} {H : Heap} {locs : List Loc} {ls : Array Slot} (ha0 : InR a0) (ha1 : InR a1) (S : zS G top L M s H locs) (hl : zLV ls 2 [some (zR G.2.2.1 a0), some (.int (zO a1))]) (h : Mo_writesName fu L M a0 a1 = some res) : W p l e (zrm 2 0 0) s m args below meth c H locs 0 0 (MQ below (zQ G top L res none True) args s 0 0 (zA G)) (F0 m 0 ls []) := by
  unfold Mo_writesName at h
  refine u_al_n (x := a0) E (Mo_writesName_dc.at 0 rfl) hl rfl ?_
  refine r_bipush E (Mo_writesName_dc.at 1 rfl) rfl ?_
  refine u_al_n (x := a0) E (Mo_writesName_dc.at 2 rfl) hl rfl ?_
  obtain ⟨g1, h⟩ := ite_e h
  refine u_gR E zf_12_21 S g1 zw_6_228 (Mo_writesName_dc.at 3 rfl) ?_
  refine u_il_n (x := a1) E (Mo_writesName_dc.at 4 rfl) hl rfl ?_
  obtain ⟨g2, h⟩ := ite_e h
  obtain ⟨g3, h⟩ := ite_e h
  refine r_iald E S g2 g3 (Mo_writesName_dc.at 5 rfl) ?_
  refine r_iadd E (Mo_writesName_dc.at 6 rfl) ?_
  obtain ⟨M4, eM4, h⟩ := bd1_e h
  refine u_cVU (As := [.int (zO (w32 (97 + (M (M a0 21) a1))))]) (rest := []) E S zcw_yX12_writes zw_8_159 zq_6_3 zw_8_157 zck_12.1 rfl g1 (Mo_writes_c l G fu top L M a0 (w32 (97 + (M (M a0 21) a1))) ha0 (inR_w32 _) eM4) (zrm_ok (by decide) (by decide)) ⟨Nat.le_refl 0, Nat.le_refl 0⟩ rfl (Nat.zero_le 8) hl.size rfl (Mo_writesName_dc.at 7 rfl) (fun H locs _ S5 => ?_)
  cases h
  exact r_vret E S5 True.intro (Mo_writesName_dc.at 8 rfl)
theorem Mo_writesName_c (l : Launch) (G : zG) (fu : Nat) (top : Int) (L : zL) (M : zM) (a0 : Int) (a1 : Int) {res : zM} (ha0 : InR a0) (ha1 : InR a1) (h : Mo_writesName fu L M a0 a1 = some res) : Met l yX12_writesName (Cond.code yX12_writesName cX12_writesName 2 none :: zTB) (zrm 2 0 0) (va_Pc [zR G.2.2.1 a0, .int (zO a1)] (zPre G top L M)) (zQ G top L res none True) 0 0 (zA G) :=
  z_met (by decide +kernel) (by simp [zR_cat, zcat_I, zcat_S]) (Nat.le_of_ble_eq_true rfl) fun p e s m below meth c ls E hn S hl => Mo_writesName_w E ha0 ha1 S (hl.sub (And.intro rfl (And.intro rfl True.intro))) h
end
theorem Mo_writesNumber_dc : zDL cX12_writesNumber [(0, .iload_n 1, 1, 1), (1, .bipush 10, 2, 3), (3, .if_icmp .lt 14, 3, 6), (6, .aload_n 0, 1, 7), (7, .bipush 48, 2, 9), (9, .iload_n 1, 1, 10), (10, .bipush 10, 2, 12), (12, .idiv, 1, 13), (13, .iadd, 1, 14), (14, .invokevirtual 335, 3, 17), (17, .aload_n 0, 1, 18), (18, .bipush 48, 2, 20), (20, .iload_n 1, 1, 21), (21, .bipush 10, 2, 23), (23, .irem, 1, 24), (24, .iadd, 1, 25), (25, .invokevirtual 335, 3, 28), (28, .return_, 1, 29)] := zDL.of (by decide +kernel)
section
variable {p : Program} {l : Launch} {e : Env} {s : State} {m : MethodId} {args : Array Value} {below : List Frame} {meth : Method} {c : Code} {G : zG} {top : Int} {L : zL} {fu : Nat}
theorem Mo_writesNumber_b17_w (E : zEv p m c cX12_writesNumber 2 s args RX12 meth none G) {res : zM} {M : zM} {x0 : Int} {x1 : Int} {H : Heap} {locs : List Loc} {ls : Array Slot} (hx0 : InR x0) (hx1 : InR x1) (S : zS G top L M s H locs) (hl : zLV ls 2 [some (zR G.2.2.1 x0), some (.int (zO x1))]) (h : Mo_writesNumber_b17 fu L M x0 x1 = some res) : W p l e (zrm 2 0 0) s m args below meth c H locs 0 0 (MQ below (zQ G top L res none True) args s 0 0 (zA G)) (F0 m 17 ls []) := by
  unfold Mo_writesNumber_b17 at h
  refine u_al_n (x := x0) E (Mo_writesNumber_dc.at 10 rfl) hl rfl ?_
  refine r_bipush E (Mo_writesNumber_dc.at 11 rfl) rfl ?_
  refine u_il_n (x := x1) E (Mo_writesNumber_dc.at 12 rfl) hl rfl ?_
  refine r_bipush E (Mo_writesNumber_dc.at 13 rfl) rfl ?_
  refine r_irem E hx1 (show InR 10 by decide) (by decide) (Mo_writesNumber_dc.at 14 rfl) ?_
  refine r_iadd E (Mo_writesNumber_dc.at 15 rfl) ?_
  obtain ⟨g1, h⟩ := ite_e h
  obtain ⟨M2, eM2, h⟩ := bd1_e h
  refine u_cVU (As := [.int (zO (w32 (48 + (w32 (Int.tmod x1 10)))))]) (rest := []) E S zcw_yX12_writes zw_8_159 zq_6_3 zw_8_157 zck_12.1 rfl g1 (Mo_writes_c l G fu top L M x0 (w32 (48 + (w32 (Int.tmod x1 10)))) hx0 (inR_w32 _) eM2) (zrm_ok (by decide) (by decide)) ⟨Nat.le_refl 0, Nat.le_refl 0⟩ rfl (Nat.zero_le 8) hl.size rfl (Mo_writesNumber_dc.at 16 rfl) (fun H locs _ S3 => ?_)
  cases h
  exact r_vret E S3 True.intro (Mo_writesNumber_dc.at 17 rfl)
theorem Mo_writesNumber_w (E : zEv p m c cX12_writesNumber 2 s args RX12 meth none G) {res : zM} {M : zM} {a0 : Int} {a1 : Int} {H : Heap} {locs : List Loc} {ls : Array Slot} (ha0 : InR a0) (ha1 : InR a1) (S : zS G top L M s H locs) (hl : zLV ls 2 [some (zR G.2.2.1 a0), some (.int (zO a1))]) (h : Mo_writesNumber fu L M a0 a1 = some res) : W p l e (zrm 2 0 0) s m args below meth c H locs 0 0 (MQ below (zQ G top L res none True) args s 0 0 (zA G)) (F0 m 0 ls []) := by
  unfold Mo_writesNumber at h
  refine u_il_n (x := a1) E (Mo_writesNumber_dc.at 0 rfl) hl rfl ?_
  refine r_bipush E (Mo_writesNumber_dc.at 1 rfl) rfl ?_
  refine r_icmp_lt (tgt := 17) E ha1 (show InR 10 by decide) (Mo_writesNumber_dc.at 2 rfl) (by decide) (fun q => ?_) (fun q => ?_)
  · have h := ite_t h q
    exact Mo_writesNumber_b17_w (x0 := a0) (x1 := a1)  E ha0 ha1 S (hl.sub (And.intro rfl (And.intro rfl True.intro))) h
  · have h := ite_f h q
    refine u_al_n (x := a0) E (Mo_writesNumber_dc.at 3 rfl) hl rfl ?_
    refine r_bipush E (Mo_writesNumber_dc.at 4 rfl) rfl ?_
    refine u_il_n (x := a1) E (Mo_writesNumber_dc.at 5 rfl) hl rfl ?_
    refine r_bipush E (Mo_writesNumber_dc.at 6 rfl) rfl ?_
    refine r_idiv E ha1 (show InR 10 by decide) (by decide) (Mo_writesNumber_dc.at 7 rfl) ?_
    refine r_iadd E (Mo_writesNumber_dc.at 8 rfl) ?_
    obtain ⟨g4, h⟩ := ite_e h
    obtain ⟨M5, eM5, h⟩ := bd1_e h
    refine u_cVU (As := [.int (zO (w32 (48 + (w32 (Int.tdiv a1 10)))))]) (rest := []) E S zcw_yX12_writes zw_8_159 zq_6_3 zw_8_157 zck_12.1 rfl g4 (Mo_writes_c l G fu top L M a0 (w32 (48 + (w32 (Int.tdiv a1 10)))) ha0 (inR_w32 _) eM5) (zrm_ok (by decide) (by decide)) ⟨Nat.le_refl 0, Nat.le_refl 0⟩ rfl (Nat.zero_le 8) hl.size rfl (Mo_writesNumber_dc.at 9 rfl) (fun H locs _ S6 => ?_)
    exact Mo_writesNumber_b17_w (x0 := a0) (x1 := a1)  E ha0 ha1 S6 (hl.sub (And.intro rfl (And.intro rfl True.intro))) h
theorem Mo_writesNumber_c (l : Launch) (G : zG) (fu : Nat) (top : Int) (L : zL) (M : zM) (a0 : Int) (a1 : Int) {res : zM} (ha0 : InR a0) (ha1 : InR a1) (h : Mo_writesNumber fu L M a0 a1 = some res) : Met l yX12_writesNumber (Cond.code yX12_writesNumber cX12_writesNumber 2 none :: zTB) (zrm 2 0 0) (va_Pc [zR G.2.2.1 a0, .int (zO a1)] (zPre G top L M)) (zQ G top L res none True) 0 0 (zA G) :=
  z_met (by decide +kernel) (by simp [zR_cat, zcat_I, zcat_S]) (Nat.le_of_ble_eq_true rfl) fun p e s m below meth c ls E hn S hl => Mo_writesNumber_w E ha0 ha1 S (hl.sub (And.intro rfl (And.intro rfl True.intro))) h
end
theorem Mo_writesSign_dc : zDL cX12_writesSign [(0, .iload_n 1, 1, 1), (1, .bipush 100, 2, 3), (3, .idiv, 1, 4), (4, .bipush 100, 2, 6), (6, .irem, 1, 7), (7, .istore_n 2, 1, 8), (8, .iload_n 1, 1, 9), (9, .sipush 10000, 3, 12), (12, .idiv, 1, 13), (13, .istore_n 3, 1, 14), (14, .iload_n 1, 1, 15), (15, .bipush 100, 2, 17), (17, .irem, 1, 18), (18, .tableswitch 166 0 8 #[50, 65, 80, 89, 104, 124, 139, 148, 157], 50, 68), (68, .aload_n 0, 1, 69), (69, .ldc_w 339, 3, 72), (72, .invokevirtual 341, 3, 75), (75, .aload_n 0, 1, 76), (76, .iload_n 3, 1, 77), (77, .invokevirtual 344, 3, 80), (80, .goto 110, 3, 83), (83, .aload_n 0, 1, 84), (84, .ldc_w 347, 3, 87), (87, .invokevirtual 341, 3, 90), (90, .aload_n 0, 1, 91), (91, .iload_n 2, 1, 92), (92, .invokevirtual 349, 3, 95), (95, .goto 95, 3, 98), (98, .aload_n 0, 1, 99), (99, .ldc 175, 2, 101), (101, .invokevirtual 341, 3, 104), (104, .goto 86, 3, 107), (107, .aload_n 0, 1, 108), (108, .ldc_w 352, 3, 111), (111, .invokevirtual 341, 3, 114), (114, .aload_n 0, 1, 115), (115, .iload_n 3, 1, 116), (116, .invokevirtual 344, 3, 119), (119, .goto 71, 3, 122), (122, .aload_n 0, 1, 123), (123, .iload_n 2, 1, 124), (124, .invokevirtual 349, 3, 127), (127, .aload_n 0, 1, 128), (128, .ldc_w 354, 3, 131), (131, .invokevirtual 341, 3, 134), (134, .aload_n 0, 1, 135), (135, .iload_n 3, 1, 136), (136, .invokevirtual 344, 3, 139), (139, .goto 51, 3, 142), (142, .aload_n 0, 1, 143), (143, .ldc_w 356, 3, 146), (146, .invokevirtual 341, 3, 149), (149, .aload_n 0, 1, 150), (150, .iload_n 3, 1, 151), (151, .invokevirtual 344, 3, 154), (154, .goto 36, 3, 157), (157, .aload_n 0, 1, 158), (158, .bipush 40, 2, 160), (160, .invokevirtual 335, 3, 163), (163, .goto 27, 3, 166), (166, .aload_n 0, 1, 167), (167, .bipush 41, 2, 169), (169, .invokevirtual 335, 3, 172), (172, .goto 18, 3, 175), (175, .aload_n 0, 1, 176), (176, .ldc 204, 2, 178), (178, .invokevirtual 341, 3, 181), (181, .goto 9, 3, 184), (184, .aload_n 0, 1, 185), (185, .ldc 209, 2, 187), (187, .invokevirtual 341, 3, 190), (190, .return_, 1, 191)] := zDL.of (by decide +kernel)
section
variable {p : Program} {l : Launch} {e : Env} {s : State} {m : MethodId} {args : Array Value} {below : List Frame} {meth : Method} {c : Code} {G : zG} {top : Int} {L : zL} {fu : Nat}
theorem Mo_writesSign_w (E : zEv p m c cX12_writesSign 4 s args RX12 meth none G) {res : zM} {M : zM} {a0 : Int} {a1 : Int} {H : Heap} {locs : List Loc} {ls : Array Slot} (ha0 : InR a0) (ha1 : InR a1) (S : zS G top L M s H locs) (hl : zLV ls 4 [some (zR G.2.2.1 a0), some (.int (zO a1)), none, none]) (h : Mo_writesSign fu L M a0 a1 = some res) : W p l e (zrm 7 0 0) s m args below meth c H locs 0 0 (MQ below (zQ G top L res none True) args s 0 0 (zA G)) (F0 m 0 ls []) := by
  unfold Mo_writesSign at h
  refine u_il_n (x := a1) E (Mo_writesSign_dc.at 0 rfl) hl rfl ?_
  refine r_bipush E (Mo_writesSign_dc.at 1 rfl) rfl ?_
  refine r_idiv E ha1 (show InR 100 by decide) (by decide) (Mo_writesSign_dc.at 2 rfl) ?_
  refine r_bipush E (Mo_writesSign_dc.at 3 rfl) rfl ?_
  refine r_irem E (inR_w32 _) (show InR 100 by decide) (by decide) (Mo_writesSign_dc.at 4 rfl) ?_
  obtain ⟨v1, ev1, h⟩ := lt1_e h
  have hv1 := inR_eq ev1 (inR_w32 _)
  refine u_ist_n (y := v1) (vs' := [some (zR G.2.2.1 a0), some (.int (zO a1)), some (.int (zO v1)), none]) E ev1 (Mo_writesSign_dc.at 5 rfl) hl (by decide) rfl (fun ls hl => ?_)
  refine u_il_n (x := a1) E (Mo_writesSign_dc.at 6 rfl) hl rfl ?_
  refine r_sipush E (Mo_writesSign_dc.at 7 rfl) rfl ?_
  refine r_idiv E ha1 (show InR 10000 by decide) (by decide) (Mo_writesSign_dc.at 8 rfl) ?_
  obtain ⟨v2, ev2, h⟩ := lt1_e h
  have hv2 := inR_eq ev2 (inR_w32 _)
  refine u_ist_n (y := v2) (vs' := [some (zR G.2.2.1 a0), some (.int (zO a1)), some (.int (zO v1)), some (.int (zO v2))]) E ev2 (Mo_writesSign_dc.at 9 rfl) hl (by decide) rfl (fun ls hl => ?_)
  refine u_il_n (x := a1) E (Mo_writesSign_dc.at 10 rfl) hl rfl ?_
  refine r_bipush E (Mo_writesSign_dc.at 11 rfl) rfl ?_
  refine r_irem E ha1 (show InR 100 by decide) (by decide) (Mo_writesSign_dc.at 12 rfl) ?_
  by_cases q8 : (w32 (Int.tmod a1 100)) = 0
  · have h := ite_t h q8
    refine r_tin (tgt := 68) (k := 0) E (inR_w32 _) q8 (Mo_writesSign_dc.at 13 rfl) (by decide) (by decide) rfl (by decide) ?_
    refine u_al_n (x := a0) E (Mo_writesSign_dc.at 14 rfl) hl rfl ?_
    refine r_ldcwS (j := 36) E (Mo_writesSign_dc.at 15 rfl) rfl ?_
    obtain ⟨g3, h⟩ := ite_e h
    obtain ⟨M4, eM4, h⟩ := bd1_e h
    refine u_cVU (As := [.ref (G.2.2.2.1 36)]) (rest := []) E S zcw_yX12_writesAll zw_8_155 zq_6_2 zw_8_153 zck_12.1 rfl g3 (Mo_writesAll_c l G fu top L M a0 36 ha0 eM4) (zrm_ok (by decide) (by decide)) ⟨Nat.le_refl 0, Nat.le_refl 0⟩ rfl (Nat.zero_le 8) hl.size rfl (Mo_writesSign_dc.at 16 rfl) (fun H locs _ S5 => ?_)
    refine u_al_n (x := a0) E (Mo_writesSign_dc.at 17 rfl) hl rfl ?_
    refine u_il_n (x := v2) E (Mo_writesSign_dc.at 18 rfl) hl rfl ?_
    obtain ⟨M6, eM6, h⟩ := bd1_e h
    refine u_cVU (As := [.int (zO v2)]) (rest := []) E S5 zcw_yX12_writesNumber zw_8_184 zq_6_8 zw_8_182 zck_12.1 rfl g3 (Mo_writesNumber_c l G fu top L M4 a0 v2 ha0 hv2 eM6) (zrm_ok (by decide) (by decide)) ⟨Nat.le_refl 0, Nat.le_refl 0⟩ rfl (Nat.zero_le 8) hl.size rfl (Mo_writesSign_dc.at 19 rfl) (fun H locs _ S7 => ?_)
    refine r_goto (tgt := 190) E (Mo_writesSign_dc.at 20 rfl) (by decide) ?_
    cases h
    exact r_vret E S7 True.intro (Mo_writesSign_dc.at 71 rfl)
  · have h := ite_f h q8
    by_cases q14 : (w32 (Int.tmod a1 100)) = 1
    · have h := ite_t h q14
      refine r_tin (tgt := 83) (k := 1) E (inR_w32 _) q14 (Mo_writesSign_dc.at 13 rfl) (by decide) (by decide) rfl (by decide) ?_
      refine u_al_n (x := a0) E (Mo_writesSign_dc.at 21 rfl) hl rfl ?_
      refine r_ldcwS (j := 37) E (Mo_writesSign_dc.at 22 rfl) rfl ?_
      obtain ⟨g9, h⟩ := ite_e h
      obtain ⟨M10, eM10, h⟩ := bd1_e h
      refine u_cVU (As := [.ref (G.2.2.2.1 37)]) (rest := []) E S zcw_yX12_writesAll zw_8_155 zq_6_2 zw_8_153 zck_12.1 rfl g9 (Mo_writesAll_c l G fu top L M a0 37 ha0 eM10) (zrm_ok (by decide) (by decide)) ⟨Nat.le_refl 0, Nat.le_refl 0⟩ rfl (Nat.zero_le 8) hl.size rfl (Mo_writesSign_dc.at 23 rfl) (fun H locs _ S11 => ?_)
      refine u_al_n (x := a0) E (Mo_writesSign_dc.at 24 rfl) hl rfl ?_
      refine u_il_n (x := v1) E (Mo_writesSign_dc.at 25 rfl) hl rfl ?_
      obtain ⟨M12, eM12, h⟩ := bd1_e h
      refine u_cVU (As := [.int (zO v1)]) (rest := []) E S11 zcw_yX12_writesName zw_8_174 zq_6_6 zw_8_172 zck_12.1 rfl g9 (Mo_writesName_c l G fu top L M10 a0 v1 ha0 hv1 eM12) (zrm_ok (by decide) (by decide)) ⟨Nat.le_refl 0, Nat.le_refl 0⟩ rfl (Nat.zero_le 8) hl.size rfl (Mo_writesSign_dc.at 26 rfl) (fun H locs _ S13 => ?_)
      refine r_goto (tgt := 190) E (Mo_writesSign_dc.at 27 rfl) (by decide) ?_
      cases h
      exact r_vret E S13 True.intro (Mo_writesSign_dc.at 71 rfl)
    · have h := ite_f h q14
      by_cases q18 : (w32 (Int.tmod a1 100)) = 2
      · have h := ite_t h q18
        refine r_tin (tgt := 98) (k := 2) E (inR_w32 _) q18 (Mo_writesSign_dc.at 13 rfl) (by decide) (by decide) rfl (by decide) ?_
        refine u_al_n (x := a0) E (Mo_writesSign_dc.at 28 rfl) hl rfl ?_
        refine r_ldcS (j := 23) E (Mo_writesSign_dc.at 29 rfl) rfl ?_
        obtain ⟨g15, h⟩ := ite_e h
        obtain ⟨M16, eM16, h⟩ := bd1_e h
        refine u_cVU (As := [.ref (G.2.2.2.1 23)]) (rest := []) E S zcw_yX12_writesAll zw_8_155 zq_6_2 zw_8_153 zck_12.1 rfl g15 (Mo_writesAll_c l G fu top L M a0 23 ha0 eM16) (zrm_ok (by decide) (by decide)) ⟨Nat.le_refl 0, Nat.le_refl 0⟩ rfl (Nat.zero_le 8) hl.size rfl (Mo_writesSign_dc.at 30 rfl) (fun H locs _ S17 => ?_)
        refine r_goto (tgt := 190) E (Mo_writesSign_dc.at 31 rfl) (by decide) ?_
        cases h
        exact r_vret E S17 True.intro (Mo_writesSign_dc.at 71 rfl)
      · have h := ite_f h q18
        by_cases q24 : (w32 (Int.tmod a1 100)) = 3
        · have h := ite_t h q24
          refine r_tin (tgt := 107) (k := 3) E (inR_w32 _) q24 (Mo_writesSign_dc.at 13 rfl) (by decide) (by decide) rfl (by decide) ?_
          refine u_al_n (x := a0) E (Mo_writesSign_dc.at 32 rfl) hl rfl ?_
          refine r_ldcwS (j := 38) E (Mo_writesSign_dc.at 33 rfl) rfl ?_
          obtain ⟨g19, h⟩ := ite_e h
          obtain ⟨M20, eM20, h⟩ := bd1_e h
          refine u_cVU (As := [.ref (G.2.2.2.1 38)]) (rest := []) E S zcw_yX12_writesAll zw_8_155 zq_6_2 zw_8_153 zck_12.1 rfl g19 (Mo_writesAll_c l G fu top L M a0 38 ha0 eM20) (zrm_ok (by decide) (by decide)) ⟨Nat.le_refl 0, Nat.le_refl 0⟩ rfl (Nat.zero_le 8) hl.size rfl (Mo_writesSign_dc.at 34 rfl) (fun H locs _ S21 => ?_)
          refine u_al_n (x := a0) E (Mo_writesSign_dc.at 35 rfl) hl rfl ?_
          refine u_il_n (x := v2) E (Mo_writesSign_dc.at 36 rfl) hl rfl ?_
          obtain ⟨M22, eM22, h⟩ := bd1_e h
          refine u_cVU (As := [.int (zO v2)]) (rest := []) E S21 zcw_yX12_writesNumber zw_8_184 zq_6_8 zw_8_182 zck_12.1 rfl g19 (Mo_writesNumber_c l G fu top L M20 a0 v2 ha0 hv2 eM22) (zrm_ok (by decide) (by decide)) ⟨Nat.le_refl 0, Nat.le_refl 0⟩ rfl (Nat.zero_le 8) hl.size rfl (Mo_writesSign_dc.at 37 rfl) (fun H locs _ S23 => ?_)
          refine r_goto (tgt := 190) E (Mo_writesSign_dc.at 38 rfl) (by decide) ?_
          cases h
          exact r_vret E S23 True.intro (Mo_writesSign_dc.at 71 rfl)
        · have h := ite_f h q24
          by_cases q32 : (w32 (Int.tmod a1 100)) = 4
          · have h := ite_t h q32
            refine r_tin (tgt := 122) (k := 4) E (inR_w32 _) q32 (Mo_writesSign_dc.at 13 rfl) (by decide) (by decide) rfl (by decide) ?_
            refine u_al_n (x := a0) E (Mo_writesSign_dc.at 39 rfl) hl rfl ?_
            refine u_il_n (x := v1) E (Mo_writesSign_dc.at 40 rfl) hl rfl ?_
            obtain ⟨g25, h⟩ := ite_e h
            obtain ⟨M26, eM26, h⟩ := bd1_e h
            refine u_cVU (As := [.int (zO v1)]) (rest := []) E S zcw_yX12_writesName zw_8_174 zq_6_6 zw_8_172 zck_12.1 rfl g25 (Mo_writesName_c l G fu top L M a0 v1 ha0 hv1 eM26) (zrm_ok (by decide) (by decide)) ⟨Nat.le_refl 0, Nat.le_refl 0⟩ rfl (Nat.zero_le 8) hl.size rfl (Mo_writesSign_dc.at 41 rfl) (fun H locs _ S27 => ?_)
            refine u_al_n (x := a0) E (Mo_writesSign_dc.at 42 rfl) hl rfl ?_
            refine r_ldcwS (j := 39) E (Mo_writesSign_dc.at 43 rfl) rfl ?_
            obtain ⟨M28, eM28, h⟩ := bd1_e h
            refine u_cVU (As := [.ref (G.2.2.2.1 39)]) (rest := []) E S27 zcw_yX12_writesAll zw_8_155 zq_6_2 zw_8_153 zck_12.1 rfl g25 (Mo_writesAll_c l G fu top L M26 a0 39 ha0 eM28) (zrm_ok (by decide) (by decide)) ⟨Nat.le_refl 0, Nat.le_refl 0⟩ rfl (Nat.zero_le 8) hl.size rfl (Mo_writesSign_dc.at 44 rfl) (fun H locs _ S29 => ?_)
            refine u_al_n (x := a0) E (Mo_writesSign_dc.at 45 rfl) hl rfl ?_
            refine u_il_n (x := v2) E (Mo_writesSign_dc.at 46 rfl) hl rfl ?_
            obtain ⟨M30, eM30, h⟩ := bd1_e h
            refine u_cVU (As := [.int (zO v2)]) (rest := []) E S29 zcw_yX12_writesNumber zw_8_184 zq_6_8 zw_8_182 zck_12.1 rfl g25 (Mo_writesNumber_c l G fu top L M28 a0 v2 ha0 hv2 eM30) (zrm_ok (by decide) (by decide)) ⟨Nat.le_refl 0, Nat.le_refl 0⟩ rfl (Nat.zero_le 8) hl.size rfl (Mo_writesSign_dc.at 47 rfl) (fun H locs _ S31 => ?_)
            refine r_goto (tgt := 190) E (Mo_writesSign_dc.at 48 rfl) (by decide) ?_
            cases h
            exact r_vret E S31 True.intro (Mo_writesSign_dc.at 71 rfl)
          · have h := ite_f h q32
            by_cases q38 : (w32 (Int.tmod a1 100)) = 5
            · have h := ite_t h q38
              refine r_tin (tgt := 142) (k := 5) E (inR_w32 _) q38 (Mo_writesSign_dc.at 13 rfl) (by decide) (by decide) rfl (by decide) ?_
              refine u_al_n (x := a0) E (Mo_writesSign_dc.at 49 rfl) hl rfl ?_
              refine r_ldcwS (j := 40) E (Mo_writesSign_dc.at 50 rfl) rfl ?_
              obtain ⟨g33, h⟩ := ite_e h
              obtain ⟨M34, eM34, h⟩ := bd1_e h
              refine u_cVU (As := [.ref (G.2.2.2.1 40)]) (rest := []) E S zcw_yX12_writesAll zw_8_155 zq_6_2 zw_8_153 zck_12.1 rfl g33 (Mo_writesAll_c l G fu top L M a0 40 ha0 eM34) (zrm_ok (by decide) (by decide)) ⟨Nat.le_refl 0, Nat.le_refl 0⟩ rfl (Nat.zero_le 8) hl.size rfl (Mo_writesSign_dc.at 51 rfl) (fun H locs _ S35 => ?_)
              refine u_al_n (x := a0) E (Mo_writesSign_dc.at 52 rfl) hl rfl ?_
              refine u_il_n (x := v2) E (Mo_writesSign_dc.at 53 rfl) hl rfl ?_
              obtain ⟨M36, eM36, h⟩ := bd1_e h
              refine u_cVU (As := [.int (zO v2)]) (rest := []) E S35 zcw_yX12_writesNumber zw_8_184 zq_6_8 zw_8_182 zck_12.1 rfl g33 (Mo_writesNumber_c l G fu top L M34 a0 v2 ha0 hv2 eM36) (zrm_ok (by decide) (by decide)) ⟨Nat.le_refl 0, Nat.le_refl 0⟩ rfl (Nat.zero_le 8) hl.size rfl (Mo_writesSign_dc.at 54 rfl) (fun H locs _ S37 => ?_)
              refine r_goto (tgt := 190) E (Mo_writesSign_dc.at 55 rfl) (by decide) ?_
              cases h
              exact r_vret E S37 True.intro (Mo_writesSign_dc.at 71 rfl)
            · have h := ite_f h q38
              by_cases q42 : (w32 (Int.tmod a1 100)) = 6
              · have h := ite_t h q42
                refine r_tin (tgt := 157) (k := 6) E (inR_w32 _) q42 (Mo_writesSign_dc.at 13 rfl) (by decide) (by decide) rfl (by decide) ?_
                refine u_al_n (x := a0) E (Mo_writesSign_dc.at 56 rfl) hl rfl ?_
                refine r_bipush E (Mo_writesSign_dc.at 57 rfl) rfl ?_
                obtain ⟨g39, h⟩ := ite_e h
                obtain ⟨M40, eM40, h⟩ := bd1_e h
                refine u_cVU (As := [.int (zO 40)]) (rest := []) E S zcw_yX12_writes zw_8_159 zq_6_3 zw_8_157 zck_12.1 rfl g39 (Mo_writes_c l G fu top L M a0 40 ha0 (show InR 40 by decide) eM40) (zrm_ok (by decide) (by decide)) ⟨Nat.le_refl 0, Nat.le_refl 0⟩ rfl (Nat.zero_le 8) hl.size rfl (Mo_writesSign_dc.at 58 rfl) (fun H locs _ S41 => ?_)
                refine r_goto (tgt := 190) E (Mo_writesSign_dc.at 59 rfl) (by decide) ?_
                cases h
                exact r_vret E S41 True.intro (Mo_writesSign_dc.at 71 rfl)
              · have h := ite_f h q42
                by_cases q46 : (w32 (Int.tmod a1 100)) = 7
                · have h := ite_t h q46
                  refine r_tin (tgt := 166) (k := 7) E (inR_w32 _) q46 (Mo_writesSign_dc.at 13 rfl) (by decide) (by decide) rfl (by decide) ?_
                  refine u_al_n (x := a0) E (Mo_writesSign_dc.at 60 rfl) hl rfl ?_
                  refine r_bipush E (Mo_writesSign_dc.at 61 rfl) rfl ?_
                  obtain ⟨g43, h⟩ := ite_e h
                  obtain ⟨M44, eM44, h⟩ := bd1_e h
                  refine u_cVU (As := [.int (zO 41)]) (rest := []) E S zcw_yX12_writes zw_8_159 zq_6_3 zw_8_157 zck_12.1 rfl g43 (Mo_writes_c l G fu top L M a0 41 ha0 (show InR 41 by decide) eM44) (zrm_ok (by decide) (by decide)) ⟨Nat.le_refl 0, Nat.le_refl 0⟩ rfl (Nat.zero_le 8) hl.size rfl (Mo_writesSign_dc.at 62 rfl) (fun H locs _ S45 => ?_)
                  refine r_goto (tgt := 190) E (Mo_writesSign_dc.at 63 rfl) (by decide) ?_
                  cases h
                  exact r_vret E S45 True.intro (Mo_writesSign_dc.at 71 rfl)
                · have h := ite_f h q46
                  by_cases q50 : (w32 (Int.tmod a1 100)) = 8
                  · have h := ite_t h q50
                    refine r_tin (tgt := 175) (k := 8) E (inR_w32 _) q50 (Mo_writesSign_dc.at 13 rfl) (by decide) (by decide) rfl (by decide) ?_
                    refine u_al_n (x := a0) E (Mo_writesSign_dc.at 64 rfl) hl rfl ?_
                    refine r_ldcS (j := 26) E (Mo_writesSign_dc.at 65 rfl) rfl ?_
                    obtain ⟨g47, h⟩ := ite_e h
                    obtain ⟨M48, eM48, h⟩ := bd1_e h
                    refine u_cVU (As := [.ref (G.2.2.2.1 26)]) (rest := []) E S zcw_yX12_writesAll zw_8_155 zq_6_2 zw_8_153 zck_12.1 rfl g47 (Mo_writesAll_c l G fu top L M a0 26 ha0 eM48) (zrm_ok (by decide) (by decide)) ⟨Nat.le_refl 0, Nat.le_refl 0⟩ rfl (Nat.zero_le 8) hl.size rfl (Mo_writesSign_dc.at 66 rfl) (fun H locs _ S49 => ?_)
                    refine r_goto (tgt := 190) E (Mo_writesSign_dc.at 67 rfl) (by decide) ?_
                    cases h
                    exact r_vret E S49 True.intro (Mo_writesSign_dc.at 71 rfl)
                  · have h := ite_f h q50
                    refine r_tout (tgt := 184) E (inR_w32 _) (by omega) (Mo_writesSign_dc.at 13 rfl) (by decide) ?_
                    refine u_al_n (x := a0) E (Mo_writesSign_dc.at 68 rfl) hl rfl ?_
                    refine r_ldcS (j := 27) E (Mo_writesSign_dc.at 69 rfl) rfl ?_
                    obtain ⟨g51, h⟩ := ite_e h
                    obtain ⟨M52, eM52, h⟩ := bd1_e h
                    refine u_cVU (As := [.ref (G.2.2.2.1 27)]) (rest := []) E S zcw_yX12_writesAll zw_8_155 zq_6_2 zw_8_153 zck_12.1 rfl g51 (Mo_writesAll_c l G fu top L M a0 27 ha0 eM52) (zrm_ok (by decide) (by decide)) ⟨Nat.le_refl 0, Nat.le_refl 0⟩ rfl (Nat.zero_le 8) hl.size rfl (Mo_writesSign_dc.at 70 rfl) (fun H locs _ S53 => ?_)
                    cases h
                    exact r_vret E S53 True.intro (Mo_writesSign_dc.at 71 rfl)
theorem Mo_writesSign_c (l : Launch) (G : zG) (fu : Nat) (top : Int) (L : zL) (M : zM) (a0 : Int) (a1 : Int) {res : zM} (ha0 : InR a0) (ha1 : InR a1) (h : Mo_writesSign fu L M a0 a1 = some res) : Met l yX12_writesSign (Cond.code yX12_writesSign cX12_writesSign 4 none :: zTB) (zrm 7 0 0) (va_Pc [zR G.2.2.1 a0, .int (zO a1)] (zPre G top L M)) (zQ G top L res none True) 0 0 (zA G) :=
  z_met (by decide +kernel) (by simp [zR_cat, zcat_I, zcat_S]) (Nat.le_of_ble_eq_true rfl) fun p e s m below meth c ls E hn S hl => Mo_writesSign_w E ha0 ha1 S (hl.sub (And.intro rfl (And.intro rfl True.intro))) h
end
theorem Mo_written_dc : zDL cX12_written [(0, .aload_n 0, 1, 1), (1, .iconst 0, 1, 2), (2, .putfield 66, 3, 5), (5, .aload_n 0, 1, 6), (6, .iload_n 1, 1, 7), (7, .invokevirtual 282, 3, 10), (10, .ifCond .ne 5, 3, 13), (13, .iconst (-1), 1, 14), (14, .ireturn, 1, 15), (15, .aload_n 0, 1, 16), (16, .iconst 0, 1, 17), (17, .putfield 326, 3, 20), (20, .aload_n 0, 1, 21), (21, .iload_n 2, 1, 22), (22, .putfield 329, 3, 25), (25, .aload_n 0, 1, 26), (26, .iconst (-1), 1, 27), (27, .putfield 332, 3, 30), (30, .aload_n 0, 1, 31), (31, .ldc_w 358, 3, 34), (34, .invokevirtual 341, 3, 37), (37, .aload_n 0, 1, 38), (38, .aload_n 0, 1, 39), (39, .iload_n 1, 1, 40), (40, .invokevirtual 360, 3, 43), (43, .iconst 1, 1, 44), (44, .if_icmp .ne 9, 3, 47), (47, .ldc_w 362, 3, 50), (50, .goto 21, 3, 53), (53, .aload_n 0, 1, 54), (54, .iload_n 1, 1, 55), (55, .invokevirtual 360, 3, 58), (58, .iconst 2, 1, 59), (59, .if_icmp .ne 9, 3, 62), (62, .ldc_w 364, 3, 65), (65, .goto 6, 3, 68), (68, .ldc_w 366, 3, 71), (71, .invokevirtual 341, 3, 74), (74, .aload_n 0, 1, 75), (75, .aload_n 0, 1, 76), (76, .iload_n 1, 1, 77), (77, .invokevirtual 368, 3, 80), (80, .invokevirtual 349, 3, 83), (83, .aload_n 0, 1, 84), (84, .ldc_w 371, 3, 87), (87, .invokevirtual 341, 3, 90), (90, .iconst 0, 1, 91), (91, .istore_n 3, 1, 92), (92, .iload_n 3, 1, 93), (93, .aload_n 0, 1, 94), (94, .getfield 31, 3, 97), (97, .iload_n 1, 1, 98), (98, .invokestatic 271, 3, 101), (101, .iconst 4, 1, 102), (102, .iadd, 1, 103), (103, .iaload, 1, 104), (104, .if_icmp .ge 32, 3, 107), (107, .aload_n 0, 1, 108), (108, .bipush 32, 2, 110), (110, .invokevirtual 335, 3, 113), (113, .aload_n 0, 1, 114), (114, .aload_n 0, 1, 115), (115, .getfield 31, 3, 118), (118, .iload_n 1, 1, 119), (119, .invokestatic 271, 3, 122), (122, .iconst 5, 1, 123), (123, .iadd, 1, 124), (124, .iload_n 3, 1, 125), (125, .iadd, 1, 126), (126, .iaload, 1, 127), (127, .invokevirtual 373, 3, 130), (130, .iinc 3 1, 3, 133), (133, .goto (-41), 3, 136), (136, .iload_n 2, 1, 137), (137, .iconst (-1), 1, 138), (138, .if_icmp .ne 10, 3, 141), (141, .aload_n 0, 1, 142), (142, .getfield 326, 3, 145), (145, .goto 27, 3, 148), (148, .iload_n 2, 1, 149), (149, .i2l, 1, 150), (150, .lconst 0, 1, 151), (151, .aload_n 0, 1, 152), (152, .getfield 326, 3, 155), (155, .iconst 1, 1, 156), (156, .isub, 1, 157), (157, .i2l, 1, 158), (158, .invokestatic 76, 3, 161), (161, .ifCond .eq 10, 3, 164), (164, .aload_n 0, 1, 165), (165, .getfield 332, 3, 168), (168, .goto 4, 3, 171), (171, .iconst (-1), 1, 172), (172, .ireturn, 1, 173)] := zDL.of (by decide +kernel)
section
variable {p : Program} {l : Launch} {e : Env} {s : State} {m : MethodId} {args : Array Value} {below : List Frame} {meth : Method} {c : Code} {G : zG} {top : Int} {L : zL} {fu : Nat}
theorem Mo_written_s92_w (E : zEv p m c cX12_written 4 s args RX12 meth (some .int) G) {res : (zM × Int)} {k92 : zM → Int → Int → Int → Int → Option (zM × Int)} (hk92 : ∀ (M : zM) (x0 : Int) (x1 : Int) (x2 : Int) (x3 : Int), InR x0 → InR x1 → InR x2 → InR x3 → ∀ (H : Heap) (locs : List Loc) (ls : Array Slot), zS G top L M s H locs → zLV ls 4 [some (zR G.2.2.1 x0), some (.int (zO x1)), some (.int (zO x2)), some (.int (zO x3))] → k92 M x0 x1 x2 x3 = some res → W p l e (zrm 8 0 0) s m args below meth c H locs 0 0 (MQ below (zQ G top L res.1 (some (.int (zO res.2))) (InR res.2)) args s 0 0 (zA G)) (F0 m 92 ls [])) {M : zM} {x0 : Int} {x1 : Int} {x2 : Int} {x3 : Int} {H : Heap} {locs : List Loc} {ls : Array Slot} (hx0 : InR x0) (hx1 : InR x1) (hx2 : InR x2) (hx3 : InR x3) (S : zS G top L M s H locs) (hl : zLV ls 4 [some (zR G.2.2.1 x0), some (.int (zO x1)), some (.int (zO x2)), some (.int (zO x3))]) (h : Mo_written_s92 fu k92 L M x0 x1 x2 x3 = some res) : W p l e (zrm 8 0 0) s m args below meth c H locs 0 0 (MQ below (zQ G top L res.1 (some (.int (zO res.2))) (InR res.2)) args s 0 0 (zA G)) (F0 m 92 ls []) := by
  unfold Mo_written_s92 at h
  refine u_il_n (x := x3) E (Mo_written_dc.at 48 rfl) hl rfl ?_
  refine u_al_n (x := x0) E (Mo_written_dc.at 49 rfl) hl rfl ?_
  obtain ⟨g26, h⟩ := ite_e h
  refine u_gR E zf_12_18 S g26 zw_6_225 (Mo_written_dc.at 50 rfl) ?_
  refine u_il_n (x := x1) E (Mo_written_dc.at 51 rfl) hl rfl ?_
  obtain ⟨r27, er27, h⟩ := bd1_e h
  refine u_cSI (As := [.int (zO x1)]) (rest := [zR G.2.2.1 (M x0 18), .int (zO x3)]) E S zcw_yX12_giftAt zw_8_69 zw_8_68 (Mo_giftAt_c l G fu top L M x1 hx1 er27) (zrm_ok (by decide) (by decide)) ⟨Nat.le_refl 0, Nat.le_refl 0⟩ rfl (by simp [zR_cat, zcat_I, zcat_J, zcat_S]) hl.size rfl (Mo_written_dc.at 52 rfl) (fun H locs hr27 S28 => ?_)
  refine r_iconst E (Mo_written_dc.at 53 rfl) ?_
  refine r_iadd E (Mo_written_dc.at 54 rfl) ?_
  obtain ⟨g29, h⟩ := ite_e h
  obtain ⟨g30, h⟩ := ite_e h
  refine r_iald E S28 g29 g30 (Mo_written_dc.at 55 rfl) ?_
  refine r_icmp_ge (tgt := 136) E hx3 (S28.1.inR _ _) (Mo_written_dc.at 56 rfl) (by decide) (fun q => ?_) (fun q => ?_)
  · have h := ite_t h q
    refine u_al_n (x := x0) E (Mo_written_dc.at 57 rfl) hl rfl ?_
    refine r_bipush E (Mo_written_dc.at 58 rfl) rfl ?_
    obtain ⟨M31, eM31, h⟩ := bd1_e h
    refine u_cVU (As := [.int (zO 32)]) (rest := []) E S28 zcw_yX12_writes zw_8_159 zq_6_3 zw_8_157 zck_12.1 rfl g26 (Mo_writes_c l G fu top L M x0 32 hx0 (show InR 32 by decide) eM31) (zrm_ok (by decide) (by decide)) ⟨Nat.le_refl 0, Nat.le_refl 0⟩ rfl (Nat.zero_le 8) hl.size rfl (Mo_written_dc.at 59 rfl) (fun H locs _ S32 => ?_)
    refine u_al_n (x := x0) E (Mo_written_dc.at 60 rfl) hl rfl ?_
    refine u_al_n (x := x0) E (Mo_written_dc.at 61 rfl) hl rfl ?_
    refine u_gR E zf_12_18 S32 g26 zw_6_225 (Mo_written_dc.at 62 rfl) ?_
    refine u_il_n (x := x1) E (Mo_written_dc.at 63 rfl) hl rfl ?_
    obtain ⟨r33, er33, h⟩ := bd1_e h
    refine u_cSI (As := [.int (zO x1)]) (rest := [zR G.2.2.1 (M31 x0 18), zR G.2.2.1 x0]) E S32 zcw_yX12_giftAt zw_8_69 zw_8_68 (Mo_giftAt_c l G fu top L M31 x1 hx1 er33) (zrm_ok (by decide) (by decide)) ⟨Nat.le_refl 0, Nat.le_refl 0⟩ rfl (by simp [zR_cat, zcat_I, zcat_J, zcat_S]) hl.size rfl (Mo_written_dc.at 64 rfl) (fun H locs hr33 S34 => ?_)
    refine r_iconst E (Mo_written_dc.at 65 rfl) ?_
    refine r_iadd E (Mo_written_dc.at 66 rfl) ?_
    refine u_il_n (x := x3) E (Mo_written_dc.at 67 rfl) hl rfl ?_
    refine r_iadd E (Mo_written_dc.at 68 rfl) ?_
    obtain ⟨g35, h⟩ := ite_e h
    obtain ⟨g36, h⟩ := ite_e h
    refine r_iald E S34 g35 g36 (Mo_written_dc.at 69 rfl) ?_
    obtain ⟨M37, eM37, h⟩ := bd1_e h
    refine u_cVU (As := [.int (zO (M31 (M31 x0 18) (w32 ((w32 (r33 + 5)) + x3))))]) (rest := []) E S34 zcw_yX12_writesSign zw_8_179 zq_6_7 zw_8_177 zck_12.1 rfl g26 (Mo_writesSign_c l G fu top L M31 x0 (M31 (M31 x0 18) (w32 ((w32 (r33 + 5)) + x3))) hx0 (S34.1.inR _ _) eM37) (zrm_ok (by decide) (by decide)) ⟨Nat.le_refl 0, Nat.le_refl 0⟩ rfl (Nat.zero_le 8) hl.size rfl (Mo_written_dc.at 70 rfl) (fun H locs _ S38 => ?_)
    obtain ⟨v39, ev39, h⟩ := lt1_e h
    have hv39 := inR_eq ev39 (inR_w32 _)
    refine u_iinc (y := v39) (vs' := [some (zR G.2.2.1 x0), some (.int (zO x1)), some (.int (zO x2)), some (.int (zO v39))]) E ev39 (Mo_written_dc.at 71 rfl) hl rfl (by decide) rfl (fun ls hl => ?_)
    refine r_goto (tgt := 92) E (Mo_written_dc.at 72 rfl) (by decide) ?_
    exact hk92 _ x0 x1 x2 v39 hx0 hx1 hx2 hv39 _ _ _ S38 (hl.sub (And.intro rfl (And.intro rfl (And.intro rfl (And.intro rfl True.intro))))) h
  · have h := ite_f h q
    refine u_il_n (x := x2) E (Mo_written_dc.at 73 rfl) hl rfl ?_
    refine r_iconst E (Mo_written_dc.at 74 rfl) ?_
    refine r_icmp_ne (tgt := 148) E hx2 (show InR (-1) by decide) (Mo_written_dc.at 75 rfl) (by decide) (fun q => ?_) (fun q => ?_)
    · have h := ite_t h q
      refine u_al_n (x := x0) E (Mo_written_dc.at 76 rfl) hl rfl ?_
      refine u_gI E zf_12_27 S28 g26 zw_6_234 (Mo_written_dc.at 77 rfl) ?_
      refine r_goto (tgt := 172) E (Mo_written_dc.at 78 rfl) (by decide) ?_
      cases h
      exact r_iret E S28 (S28.1.inR _ _) (Mo_written_dc.at 93 rfl)
    · have h := ite_f h q
      refine u_il_n (x := x2) E (Mo_written_dc.at 79 rfl) hl rfl ?_
      refine r_i2l E hx2 (Mo_written_dc.at 80 rfl) ?_
      refine r_lconst (x := 0) E (Mo_written_dc.at 81 rfl) rfl ?_
      refine u_al_n (x := x0) E (Mo_written_dc.at 82 rfl) hl rfl ?_
      refine u_gI E zf_12_27 S28 g26 zw_6_234 (Mo_written_dc.at 83 rfl) ?_
      refine r_iconst E (Mo_written_dc.at 84 rfl) ?_
      refine r_isub E (Mo_written_dc.at 85 rfl) ?_
      refine r_i2l E (inR_w32 _) (Mo_written_dc.at 86 rfl) ?_
      obtain ⟨r40, er40, h⟩ := bd1_e h
      refine u_cSI (As := [.long (Int64.ofInt x2), .long (Int64.ofInt 0), .long (Int64.ofInt (w32 ((M x0 27) - 1)))]) (rest := []) E S28 zcw_yX12_in zw_7_134 zw_7_133 (Mo_in_c l G fu top L M x2 0 (w32 ((M x0 27) - 1)) hx2 (show InR 0 by decide) (inR_w32 _) er40) (zrm_ok (by decide) (by decide)) ⟨Nat.le_refl 0, Nat.le_refl 0⟩ rfl (Nat.zero_le 8) hl.size rfl (Mo_written_dc.at 87 rfl) (fun H locs hr40 S41 => ?_)
      refine r_if_eq (tgt := 171) E (inR_01 hr40) (Mo_written_dc.at 88 rfl) (by decide) (fun q => ?_) (fun q => ?_)
      · have h := ite_t h q
        refine r_iconst E (Mo_written_dc.at 92 rfl) ?_
        cases h
        exact r_iret E S41 (show InR (-1) by decide) (Mo_written_dc.at 93 rfl)
      · have h := ite_f h q
        refine u_al_n (x := x0) E (Mo_written_dc.at 89 rfl) hl rfl ?_
        refine u_gI E zf_12_29 S41 g26 zw_6_236 (Mo_written_dc.at 90 rfl) ?_
        refine r_goto (tgt := 172) E (Mo_written_dc.at 91 rfl) (by decide) ?_
        cases h
        exact r_iret E S41 (S41.1.inR _ _) (Mo_written_dc.at 93 rfl)
theorem Mo_written_l92_w (E : zEv p m c cX12_written 4 s args RX12 meth (some .int) G) {res : (zM × Int)} : ∀ (n : Nat) (M : zM) (x0 : Int) (x1 : Int) (x2 : Int) (x3 : Int), InR x0 → InR x1 → InR x2 → InR x3 → ∀ (H : Heap) (locs : List Loc) (ls : Array Slot), zS G top L M s H locs → zLV ls 4 [some (zR G.2.2.1 x0), some (.int (zO x1)), some (.int (zO x2)), some (.int (zO x3))] → Mo_written_l92 fu L n M x0 x1 x2 x3 = some res → W p l e (zrm 8 0 0) s m args below meth c H locs 0 0 (MQ below (zQ G top L res.1 (some (.int (zO res.2))) (InR res.2)) args s 0 0 (zA G)) (F0 m 92 ls [])
  | 0, _, _, _, _, _ => fun _ _ _ _ _ _ _ _ _ h => (by cases h)
  | n + 1, M, x0, x1, x2, x3 => fun hx0 hx1 hx2 hx3 H locs ls S hl h => Mo_written_s92_w E (fun M x0 x1 x2 x3 hx0 hx1 hx2 hx3 H locs ls S hl h => Mo_written_l92_w E n M x0 x1 x2 x3 hx0 hx1 hx2 hx3 H locs ls S hl h) hx0 hx1 hx2 hx3 S hl h
theorem Mo_written_b71_w (E : zEv p m c cX12_written 4 s args RX12 meth (some .int) G) {res : (zM × Int)} {M : zM} {x0 : Int} {x1 : Int} {x2 : Int} {y0 : Int} {y1 : Nat} {H : Heap} {locs : List Loc} {ls : Array Slot} (hx0 : InR x0) (hx1 : InR x1) (hx2 : InR x2) (hy0 : InR y0) (S : zS G top L M s H locs) (hl : zLV ls 4 [some (zR G.2.2.1 x0), some (.int (zO x1)), some (.int (zO x2)), none]) (h : Mo_written_b71 fu L M x0 x1 x2 y0 y1 = some res) : W p l e (zrm 8 0 0) s m args below meth c H locs 0 0 (MQ below (zQ G top L res.1 (some (.int (zO res.2))) (InR res.2)) args s 0 0 (zA G)) (F0 m 71 ls [.ref (G.2.2.2.1 y1), zR G.2.2.1 y0]) := by
  unfold Mo_written_b71 at h
  obtain ⟨g16, h⟩ := ite_e h
  obtain ⟨M17, eM17, h⟩ := bd1_e h
  refine u_cVU (As := [.ref (G.2.2.2.1 y1)]) (rest := []) E S zcw_yX12_writesAll zw_8_155 zq_6_2 zw_8_153 zck_12.1 rfl g16 (Mo_writesAll_c l G fu top L M y0 y1 hy0 eM17) (zrm_ok (by decide) (by decide)) ⟨Nat.le_refl 0, Nat.le_refl 0⟩ rfl (Nat.zero_le 8) hl.size rfl (Mo_written_dc.at 37 rfl) (fun H locs _ S18 => ?_)
  refine u_al_n (x := x0) E (Mo_written_dc.at 38 rfl) hl rfl ?_
  refine u_al_n (x := x0) E (Mo_written_dc.at 39 rfl) hl rfl ?_
  refine u_il_n (x := x1) E (Mo_written_dc.at 40 rfl) hl rfl ?_
  obtain ⟨g19, h⟩ := ite_e h
  obtain ⟨r20, er20, h⟩ := bd1_e h
  refine u_cVI (As := [.int (zO x1)]) (rest := [zR G.2.2.1 x0]) E S18 zcw_yX12_toldLife zw_8_170 zq_6_5 zw_8_168 zck_12.1 rfl g19 (Mo_toldLife_c l G fu top L M17 x0 x1 hx0 hx1 er20) (zrm_ok (by decide) (by decide)) ⟨Nat.le_refl 0, Nat.le_refl 0⟩ rfl (by simp [zR_cat, zcat_I, zcat_J, zcat_S]) hl.size rfl (Mo_written_dc.at 41 rfl) (fun H locs hr20 S21 => ?_)
  obtain ⟨M22, eM22, h⟩ := bd1_e h
  refine u_cVU (As := [.int (zO r20)]) (rest := []) E S21 zcw_yX12_writesName zw_8_174 zq_6_6 zw_8_172 zck_12.1 rfl g19 (Mo_writesName_c l G fu top L M17 x0 r20 hx0 hr20 eM22) (zrm_ok (by decide) (by decide)) ⟨Nat.le_refl 0, Nat.le_refl 0⟩ rfl (Nat.zero_le 8) hl.size rfl (Mo_written_dc.at 42 rfl) (fun H locs _ S23 => ?_)
  refine u_al_n (x := x0) E (Mo_written_dc.at 43 rfl) hl rfl ?_
  refine r_ldcwS (j := 35) E (Mo_written_dc.at 44 rfl) rfl ?_
  obtain ⟨M24, eM24, h⟩ := bd1_e h
  refine u_cVU (As := [.ref (G.2.2.2.1 35)]) (rest := []) E S23 zcw_yX12_writesAll zw_8_155 zq_6_2 zw_8_153 zck_12.1 rfl g19 (Mo_writesAll_c l G fu top L M22 x0 35 hx0 eM24) (zrm_ok (by decide) (by decide)) ⟨Nat.le_refl 0, Nat.le_refl 0⟩ rfl (Nat.zero_le 8) hl.size rfl (Mo_written_dc.at 45 rfl) (fun H locs _ S25 => ?_)
  refine r_iconst E (Mo_written_dc.at 46 rfl) ?_
  refine u_ist_n (y := 0) (vs' := [some (zR G.2.2.1 x0), some (.int (zO x1)), some (.int (zO x2)), some (.int (zO 0))]) E rfl (Mo_written_dc.at 47 rfl) hl (by decide) rfl (fun ls hl => ?_)
  exact Mo_written_l92_w E fu _ x0 x1 x2 0 hx0 hx1 hx2 (show InR 0 by decide) _ _ _ S25 (hl.sub (And.intro rfl (And.intro rfl (And.intro rfl (And.intro rfl True.intro))))) h
theorem Mo_written_w (E : zEv p m c cX12_written 4 s args RX12 meth (some .int) G) {res : (zM × Int)} {M : zM} {a0 : Int} {a1 : Int} {a2 : Int} {H : Heap} {locs : List Loc} {ls : Array Slot} (ha0 : InR a0) (ha1 : InR a1) (ha2 : InR a2) (S : zS G top L M s H locs) (hl : zLV ls 4 [some (zR G.2.2.1 a0), some (.int (zO a1)), some (.int (zO a2)), none]) (h : Mo_written fu L M a0 a1 a2 = some res) : W p l e (zrm 8 0 0) s m args below meth c H locs 0 0 (MQ below (zQ G top L res.1 (some (.int (zO res.2))) (InR res.2)) args s 0 0 (zA G)) (F0 m 0 ls []) := by
  unfold Mo_written at h
  refine u_al_n (x := a0) E (Mo_written_dc.at 0 rfl) hl rfl ?_
  refine r_iconst E (Mo_written_dc.at 1 rfl) ?_
  obtain ⟨g1, h⟩ := ite_e h
  obtain ⟨M2, eM2, h⟩ := lt1_e h
  refine u_pI E eM2 zf_12_0 S g1 (show InR 0 by decide) (Or.inl rfl) rfl zw_6_207 (Mo_written_dc.at 2 rfl) (fun H locs S3 => ?_)
  refine u_al_n (x := a0) E (Mo_written_dc.at 3 rfl) hl rfl ?_
  refine u_il_n (x := a1) E (Mo_written_dc.at 4 rfl) hl rfl ?_
  obtain ⟨r4, er4, h⟩ := bd1_e h
  refine u_cVI (As := [.int (zO a1)]) (rest := []) E S3 zcw_yX12_isGift zw_8_77 zq_5_12 zw_8_75 zck_12.1 rfl g1 (Mo_isGift_c l G fu top L M2 a0 a1 ha0 ha1 er4) (zrm_ok (by decide) (by decide)) ⟨Nat.le_refl 0, Nat.le_refl 0⟩ rfl (Nat.zero_le 8) hl.size rfl (Mo_written_dc.at 5 rfl) (fun H locs hr4 S5 => ?_)
  refine r_if_ne (tgt := 15) E (inR_01 hr4) (Mo_written_dc.at 6 rfl) (by decide) (fun q => ?_) (fun q => ?_)
  · have h := ite_t h q
    refine r_iconst E (Mo_written_dc.at 7 rfl) ?_
    cases h
    exact r_iret E S5 (show InR (-1) by decide) (Mo_written_dc.at 8 rfl)
  · have h := ite_f h q
    refine u_al_n (x := a0) E (Mo_written_dc.at 9 rfl) hl rfl ?_
    refine r_iconst E (Mo_written_dc.at 10 rfl) ?_
    obtain ⟨M6, eM6, h⟩ := lt1_e h
    refine u_pI E eM6 zf_12_27 S5 g1 (show InR 0 by decide) (Or.inl rfl) rfl zw_6_234 (Mo_written_dc.at 11 rfl) (fun H locs S7 => ?_)
    refine u_al_n (x := a0) E (Mo_written_dc.at 12 rfl) hl rfl ?_
    refine u_il_n (x := a2) E (Mo_written_dc.at 13 rfl) hl rfl ?_
    obtain ⟨M8, eM8, h⟩ := lt1_e h
    refine u_pI E eM8 zf_12_28 S7 g1 ha2 (Or.inl rfl) rfl zw_6_235 (Mo_written_dc.at 14 rfl) (fun H locs S9 => ?_)
    refine u_al_n (x := a0) E (Mo_written_dc.at 15 rfl) hl rfl ?_
    refine r_iconst E (Mo_written_dc.at 16 rfl) ?_
    obtain ⟨M10, eM10, h⟩ := lt1_e h
    refine u_pI E eM10 zf_12_29 S9 g1 (show InR (-1) by decide) (Or.inl rfl) rfl zw_6_236 (Mo_written_dc.at 17 rfl) (fun H locs S11 => ?_)
    refine u_al_n (x := a0) E (Mo_written_dc.at 18 rfl) hl rfl ?_
    refine r_ldcwS (j := 31) E (Mo_written_dc.at 19 rfl) rfl ?_
    obtain ⟨M12, eM12, h⟩ := bd1_e h
    refine u_cVU (As := [.ref (G.2.2.2.1 31)]) (rest := []) E S11 zcw_yX12_writesAll zw_8_155 zq_6_2 zw_8_153 zck_12.1 rfl g1 (Mo_writesAll_c l G fu top L M10 a0 31 ha0 eM12) (zrm_ok (by decide) (by decide)) ⟨Nat.le_refl 0, Nat.le_refl 0⟩ rfl (Nat.zero_le 8) hl.size rfl (Mo_written_dc.at 20 rfl) (fun H locs _ S13 => ?_)
    refine u_al_n (x := a0) E (Mo_written_dc.at 21 rfl) hl rfl ?_
    refine u_al_n (x := a0) E (Mo_written_dc.at 22 rfl) hl rfl ?_
    refine u_il_n (x := a1) E (Mo_written_dc.at 23 rfl) hl rfl ?_
    obtain ⟨r14, er14, h⟩ := bd1_e h
    refine u_cVI (As := [.int (zO a1)]) (rest := [zR G.2.2.1 a0]) E S13 zcw_yX12_to zw_8_163 zq_6_4 zw_8_161 zck_12.1 rfl g1 (Mo_to_c l G fu top L M12 a0 a1 ha0 ha1 er14) (zrm_ok (by decide) (by decide)) ⟨Nat.le_refl 0, Nat.le_refl 0⟩ rfl (by simp [zR_cat, zcat_I, zcat_J, zcat_S]) hl.size rfl (Mo_written_dc.at 24 rfl) (fun H locs hr14 S15 => ?_)
    refine r_iconst E (Mo_written_dc.at 25 rfl) ?_
    refine r_icmp_ne (tgt := 53) E hr14 (show InR 1 by decide) (Mo_written_dc.at 26 rfl) (by decide) (fun q => ?_) (fun q => ?_)
    · have h := ite_t h q
      refine r_ldcwS (j := 32) E (Mo_written_dc.at 27 rfl) rfl ?_
      refine r_goto (tgt := 71) E (Mo_written_dc.at 28 rfl) (by decide) ?_
      exact Mo_written_b71_w (x0 := a0) (x1 := a1) (x2 := a2) (y0 := a0) (y1 := 32) E ha0 ha1 ha2 ha0 S15 (hl.sub (And.intro rfl (And.intro rfl (And.intro rfl True.intro)))) h
    · have h := ite_f h q
      refine u_al_n (x := a0) E (Mo_written_dc.at 29 rfl) hl rfl ?_
      refine u_il_n (x := a1) E (Mo_written_dc.at 30 rfl) hl rfl ?_
      obtain ⟨r42, er42, h⟩ := bd1_e h
      refine u_cVI (As := [.int (zO a1)]) (rest := [zR G.2.2.1 a0]) E S15 zcw_yX12_to zw_8_163 zq_6_4 zw_8_161 zck_12.1 rfl g1 (Mo_to_c l G fu top L M12 a0 a1 ha0 ha1 er42) (zrm_ok (by decide) (by decide)) ⟨Nat.le_refl 0, Nat.le_refl 0⟩ rfl (by simp [zR_cat, zcat_I, zcat_J, zcat_S]) hl.size rfl (Mo_written_dc.at 31 rfl) (fun H locs hr42 S43 => ?_)
      refine r_iconst E (Mo_written_dc.at 32 rfl) ?_
      refine r_icmp_ne (tgt := 68) E hr42 (show InR 2 by decide) (Mo_written_dc.at 33 rfl) (by decide) (fun q => ?_) (fun q => ?_)
      · have h := ite_t h q
        refine r_ldcwS (j := 33) E (Mo_written_dc.at 34 rfl) rfl ?_
        refine r_goto (tgt := 71) E (Mo_written_dc.at 35 rfl) (by decide) ?_
        exact Mo_written_b71_w (x0 := a0) (x1 := a1) (x2 := a2) (y0 := a0) (y1 := 33) E ha0 ha1 ha2 ha0 S43 (hl.sub (And.intro rfl (And.intro rfl (And.intro rfl True.intro)))) h
      · have h := ite_f h q
        refine r_ldcwS (j := 34) E (Mo_written_dc.at 36 rfl) rfl ?_
        exact Mo_written_b71_w (x0 := a0) (x1 := a1) (x2 := a2) (y0 := a0) (y1 := 34) E ha0 ha1 ha2 ha0 S43 (hl.sub (And.intro rfl (And.intro rfl (And.intro rfl True.intro)))) h
theorem Mo_written_c (l : Launch) (G : zG) (fu : Nat) (top : Int) (L : zL) (M : zM) (a0 : Int) (a1 : Int) (a2 : Int) {res : (zM × Int)} (ha0 : InR a0) (ha1 : InR a1) (ha2 : InR a2) (h : Mo_written fu L M a0 a1 a2 = some res) : Met l yX12_written (Cond.code yX12_written cX12_written 4 (some .int) :: zTB) (zrm 8 0 0) (va_Pc [zR G.2.2.1 a0, .int (zO a1), .int (zO a2)] (zPre G top L M)) (zQ G top L res.1 (some (.int (zO res.2))) (InR res.2)) 0 0 (zA G) :=
  z_met (by decide +kernel) (by simp [zR_cat, zcat_I, zcat_S]) (Nat.le_of_ble_eq_true rfl) fun p e s m below meth c ls E hn S hl => Mo_written_w E ha0 ha1 ha2 S (hl.sub (And.intro rfl (And.intro rfl (And.intro rfl True.intro)))) h
end
theorem Mo_isOfClass_dc : zDL cX12_isOfClass [(0, .aload_n 1, 1, 1), (1, .bipush 50, 2, 3), (3, .iload_n 3, 1, 4), (4, .iadd, 1, 5), (5, .iaload, 1, 6), (6, .istore 4, 2, 8), (8, .aload_n 0, 1, 9), (9, .iload_n 2, 1, 10), (10, .invokevirtual 360, 3, 13), (13, .lookupswitch 58 #[(0, 27), (1, 42)], 27, 40), (40, .iload_n 3, 1, 41), (41, .aload_n 0, 1, 42), (42, .iload_n 2, 1, 43), (43, .invokevirtual 368, 3, 46), (46, .if_icmp .ne 7, 3, 49), (49, .iconst 1, 1, 50), (50, .goto 4, 3, 53), (53, .iconst 0, 1, 54), (54, .ireturn, 1, 55), (55, .iload 4, 2, 57), (57, .aload_n 0, 1, 58), (58, .iload_n 2, 1, 59), (59, .invokevirtual 368, 3, 62), (62, .if_icmp .ne 7, 3, 65), (65, .iconst 1, 1, 66), (66, .goto 4, 3, 69), (69, .iconst 0, 1, 70), (70, .ireturn, 1, 71), (71, .iload 4, 2, 73), (73, .iconst (-1), 1, 74), (74, .if_icmp .eq 22, 3, 77), (77, .aload_n 1, 1, 78), (78, .bipush 50, 2, 80), (80, .iload 4, 2, 82), (82, .iadd, 1, 83), (83, .iaload, 1, 84), (84, .aload_n 0, 1, 85), (85, .iload_n 2, 1, 86), (86, .invokevirtual 368, 3, 89), (89, .if_icmp .ne 7, 3, 92), (92, .iconst 1, 1, 93), (93, .goto 4, 3, 96), (96, .iconst 0, 1, 97), (97, .ireturn, 1, 98)] := zDL.of (by decide +kernel)
section
variable {p : Program} {l : Launch} {e : Env} {s : State} {m : MethodId} {args : Array Value} {below : List Frame} {meth : Method} {c : Code} {G : zG} {top : Int} {L : zL} {fu : Nat}
theorem Mo_isOfClass_w (E : zEv p m c cX12_isOfClass 5 s args RX12 meth (some .boolean) G) {res : Int} {M : zM} {a0 : Int} {a1 : Int} {a2 : Int} {a3 : Int} {H : Heap} {locs : List Loc} {ls : Array Slot} (ha0 : InR a0) (ha1 : InR a1) (ha2 : InR a2) (ha3 : InR a3) (S : zS G top L M s H locs) (hl : zLV ls 5 [some (zR G.2.2.1 a0), some (zR G.2.2.1 a1), some (.int (zO a2)), some (.int (zO a3)), none]) (h : Mo_isOfClass fu L M a0 a1 a2 a3 = some res) : W p l e (zrm 3 0 0) s m args below meth c H locs 0 0 (MQ below (zQ G top L M (some (.int (zO res))) (0 ≤ res ∧ res ≤ 1)) args s 0 0 (zA G)) (F0 m 0 ls []) := by
  unfold Mo_isOfClass at h
  refine u_al_n (x := a1) E (Mo_isOfClass_dc.at 0 rfl) hl rfl ?_
  refine r_bipush E (Mo_isOfClass_dc.at 1 rfl) rfl ?_
  refine u_il_n (x := a3) E (Mo_isOfClass_dc.at 2 rfl) hl rfl ?_
  refine r_iadd E (Mo_isOfClass_dc.at 3 rfl) ?_
  obtain ⟨g1, h⟩ := ite_e h
  obtain ⟨g2, h⟩ := ite_e h
  refine r_iald E S g1 g2 (Mo_isOfClass_dc.at 4 rfl) ?_
  obtain ⟨v3, ev3, h⟩ := lt1_e h
  have hv3 := inR_eq ev3 (S.1.inR _ _)
  refine u_ist (y := v3) (vs' := [some (zR G.2.2.1 a0), some (zR G.2.2.1 a1), some (.int (zO a2)), some (.int (zO a3)), some (.int (zO v3))]) E ev3 (Mo_isOfClass_dc.at 5 rfl) hl (by decide) rfl (fun ls hl => ?_)
  refine u_al_n (x := a0) E (Mo_isOfClass_dc.at 6 rfl) hl rfl ?_
  refine u_il_n (x := a2) E (Mo_isOfClass_dc.at 7 rfl) hl rfl ?_
  obtain ⟨g4, h⟩ := ite_e h
  obtain ⟨r5, er5, h⟩ := bd1_e h
  refine u_cVI (As := [.int (zO a2)]) (rest := []) E S zcw_yX12_to zw_8_163 zq_6_4 zw_8_161 zck_12.1 rfl g4 (Mo_to_c l G fu top L M a0 a2 ha0 ha2 er5) (zrm_ok (by decide) (by decide)) ⟨Nat.le_refl 0, Nat.le_refl 0⟩ rfl (Nat.zero_le 8) hl.size rfl (Mo_isOfClass_dc.at 8 rfl) (fun H locs hr5 S6 => ?_)
  by_cases q9 : r5 = 0
  · have h := ite_t h q9
    refine r_look (tgt := 40) E hr5 (Mo_isOfClass_dc.at 9 rfl) (by decide) (by rw [q9]) (by decide) ?_
    refine u_il_n (x := a3) E (Mo_isOfClass_dc.at 10 rfl) hl rfl ?_
    refine u_al_n (x := a0) E (Mo_isOfClass_dc.at 11 rfl) hl rfl ?_
    refine u_il_n (x := a2) E (Mo_isOfClass_dc.at 12 rfl) hl rfl ?_
    obtain ⟨r7, er7, h⟩ := bd1_e h
    refine u_cVI (As := [.int (zO a2)]) (rest := [.int (zO a3)]) E S6 zcw_yX12_toldLife zw_8_170 zq_6_5 zw_8_168 zck_12.1 rfl g4 (Mo_toldLife_c l G fu top L M a0 a2 ha0 ha2 er7) (zrm_ok (by decide) (by decide)) ⟨Nat.le_refl 0, Nat.le_refl 0⟩ rfl (by simp [zR_cat, zcat_I, zcat_J, zcat_S]) hl.size rfl (Mo_isOfClass_dc.at 13 rfl) (fun H locs hr7 S8 => ?_)
    refine r_icmp_ne (tgt := 53) E ha3 hr7 (Mo_isOfClass_dc.at 14 rfl) (by decide) (fun q => ?_) (fun q => ?_)
    · have h := ite_t h q
      refine r_iconst E (Mo_isOfClass_dc.at 15 rfl) ?_
      refine r_goto (tgt := 54) E (Mo_isOfClass_dc.at 16 rfl) (by decide) ?_
      cases h
      exact r_zret E S8 z01_1 z01_1 (Mo_isOfClass_dc.at 18 rfl)
    · have h := ite_f h q
      refine r_iconst E (Mo_isOfClass_dc.at 17 rfl) ?_
      cases h
      exact r_zret E S8 z01_0 z01_0 (Mo_isOfClass_dc.at 18 rfl)
  · have h := ite_f h q9
    by_cases q12 : r5 = 1
    · have h := ite_t h q12
      refine r_look (tgt := 55) E hr5 (Mo_isOfClass_dc.at 9 rfl) (by decide) (by rw [q12]) (by decide) ?_
      refine u_il (x := v3) E (Mo_isOfClass_dc.at 19 rfl) hl rfl ?_
      refine u_al_n (x := a0) E (Mo_isOfClass_dc.at 20 rfl) hl rfl ?_
      refine u_il_n (x := a2) E (Mo_isOfClass_dc.at 21 rfl) hl rfl ?_
      obtain ⟨r10, er10, h⟩ := bd1_e h
      refine u_cVI (As := [.int (zO a2)]) (rest := [.int (zO v3)]) E S6 zcw_yX12_toldLife zw_8_170 zq_6_5 zw_8_168 zck_12.1 rfl g4 (Mo_toldLife_c l G fu top L M a0 a2 ha0 ha2 er10) (zrm_ok (by decide) (by decide)) ⟨Nat.le_refl 0, Nat.le_refl 0⟩ rfl (by simp [zR_cat, zcat_I, zcat_J, zcat_S]) hl.size rfl (Mo_isOfClass_dc.at 22 rfl) (fun H locs hr10 S11 => ?_)
      refine r_icmp_ne (tgt := 69) E hv3 hr10 (Mo_isOfClass_dc.at 23 rfl) (by decide) (fun q => ?_) (fun q => ?_)
      · have h := ite_t h q
        refine r_iconst E (Mo_isOfClass_dc.at 24 rfl) ?_
        refine r_goto (tgt := 70) E (Mo_isOfClass_dc.at 25 rfl) (by decide) ?_
        cases h
        exact r_zret E S11 z01_1 z01_1 (Mo_isOfClass_dc.at 27 rfl)
      · have h := ite_f h q
        refine r_iconst E (Mo_isOfClass_dc.at 26 rfl) ?_
        cases h
        exact r_zret E S11 z01_0 z01_0 (Mo_isOfClass_dc.at 27 rfl)
    · have h := ite_f h q12
      refine r_look (tgt := 71) (off := 58) E hr5 (Mo_isOfClass_dc.at 9 rfl) (by decide) (by simp [Op.lookupswitch.offset, (show ¬ (0 : Int) = r5 from fun z => q9 z.symm), (show ¬ (1 : Int) = r5 from fun z => q12 z.symm)]) (by decide) ?_
      refine u_il (x := v3) E (Mo_isOfClass_dc.at 28 rfl) hl rfl ?_
      refine r_iconst E (Mo_isOfClass_dc.at 29 rfl) ?_
      refine r_icmp_eq (tgt := 96) E hv3 (show InR (-1) by decide) (Mo_isOfClass_dc.at 30 rfl) (by decide) (fun q => ?_) (fun q => ?_)
      · have h := ite_t h q
        refine r_iconst E (Mo_isOfClass_dc.at 42 rfl) ?_
        cases h
        exact r_zret E S6 z01_0 z01_0 (Mo_isOfClass_dc.at 43 rfl)
      · have h := ite_f h q
        refine u_al_n (x := a1) E (Mo_isOfClass_dc.at 31 rfl) hl rfl ?_
        refine r_bipush E (Mo_isOfClass_dc.at 32 rfl) rfl ?_
        refine u_il (x := v3) E (Mo_isOfClass_dc.at 33 rfl) hl rfl ?_
        refine r_iadd E (Mo_isOfClass_dc.at 34 rfl) ?_
        obtain ⟨g13, h⟩ := ite_e h
        refine r_iald E S6 g1 g13 (Mo_isOfClass_dc.at 35 rfl) ?_
        refine u_al_n (x := a0) E (Mo_isOfClass_dc.at 36 rfl) hl rfl ?_
        refine u_il_n (x := a2) E (Mo_isOfClass_dc.at 37 rfl) hl rfl ?_
        obtain ⟨r14, er14, h⟩ := bd1_e h
        refine u_cVI (As := [.int (zO a2)]) (rest := [.int (zO (M a1 (w32 (50 + v3))))]) E S6 zcw_yX12_toldLife zw_8_170 zq_6_5 zw_8_168 zck_12.1 rfl g4 (Mo_toldLife_c l G fu top L M a0 a2 ha0 ha2 er14) (zrm_ok (by decide) (by decide)) ⟨Nat.le_refl 0, Nat.le_refl 0⟩ rfl (by simp [zR_cat, zcat_I, zcat_J, zcat_S]) hl.size rfl (Mo_isOfClass_dc.at 38 rfl) (fun H locs hr14 S15 => ?_)
        refine r_icmp_ne (tgt := 96) E (S6.1.inR _ _) hr14 (Mo_isOfClass_dc.at 39 rfl) (by decide) (fun q => ?_) (fun q => ?_)
        · have h := ite_t h q
          refine r_iconst E (Mo_isOfClass_dc.at 40 rfl) ?_
          refine r_goto (tgt := 97) E (Mo_isOfClass_dc.at 41 rfl) (by decide) ?_
          cases h
          exact r_zret E S15 z01_1 z01_1 (Mo_isOfClass_dc.at 43 rfl)
        · have h := ite_f h q
          refine r_iconst E (Mo_isOfClass_dc.at 42 rfl) ?_
          cases h
          exact r_zret E S15 z01_0 z01_0 (Mo_isOfClass_dc.at 43 rfl)
theorem Mo_isOfClass_c (l : Launch) (G : zG) (fu : Nat) (top : Int) (L : zL) (M : zM) (a0 : Int) (a1 : Int) (a2 : Int) (a3 : Int) {res : Int} (ha0 : InR a0) (ha1 : InR a1) (ha2 : InR a2) (ha3 : InR a3) (h : Mo_isOfClass fu L M a0 a1 a2 a3 = some res) : Met l yX12_isOfClass (Cond.code yX12_isOfClass cX12_isOfClass 5 (some .boolean) :: zTB) (zrm 3 0 0) (va_Pc [zR G.2.2.1 a0, zR G.2.2.1 a1, .int (zO a2), .int (zO a3)] (zPre G top L M)) (zQ G top L M (some (.int (zO res))) (0 ≤ res ∧ res ≤ 1)) 0 0 (zA G) :=
  z_met (by decide +kernel) (by simp [zR_cat, zcat_I, zcat_S]) (Nat.le_of_ble_eq_true rfl) fun p e s m below meth c ls E hn S hl => Mo_isOfClass_w E ha0 ha1 ha2 ha3 S (hl.sub (And.intro rfl (And.intro rfl (And.intro rfl (And.intro rfl True.intro))))) h
end
theorem Mo_goesThrough_dc : zDL cX12_goesThrough [(0, .aload_n 0, 1, 1), (1, .iload_n 1, 1, 2), (2, .invokestatic 271, 3, 5), (5, .iconst 5, 1, 6), (6, .iadd, 1, 7), (7, .putfield 376, 3, 10), (10, .aload_n 0, 1, 11), (11, .aload_n 0, 1, 12), (12, .getfield 376, 3, 15), (15, .aload_n 0, 1, 16), (16, .getfield 31, 3, 19), (19, .iload_n 1, 1, 20), (20, .invokestatic 271, 3, 23), (23, .iconst 4, 1, 24), (24, .iadd, 1, 25), (25, .iaload, 1, 26), (26, .iadd, 1, 27), (27, .putfield 379, 3, 30), (30, .return_, 1, 31)] := zDL.of (by decide +kernel)
section
variable {p : Program} {l : Launch} {e : Env} {s : State} {m : MethodId} {args : Array Value} {below : List Frame} {meth : Method} {c : Code} {G : zG} {top : Int} {L : zL} {fu : Nat}
theorem Mo_goesThrough_w (E : zEv p m c cX12_goesThrough 2 s args RX12 meth none G) {res : zM} {M : zM} {a0 : Int} {a1 : Int} {H : Heap} {locs : List Loc} {ls : Array Slot} (ha0 : InR a0) (ha1 : InR a1) (S : zS G top L M s H locs) (hl : zLV ls 2 [some (zR G.2.2.1 a0), some (.int (zO a1))]) (h : Mo_goesThrough fu L M a0 a1 = some res) : W p l e (zrm 2 0 0) s m args below meth c H locs 0 0 (MQ below (zQ G top L res none True) args s 0 0 (zA G)) (F0 m 0 ls []) := by
  unfold Mo_goesThrough at h
  refine u_al_n (x := a0) E (Mo_goesThrough_dc.at 0 rfl) hl rfl ?_
  refine u_il_n (x := a1) E (Mo_goesThrough_dc.at 1 rfl) hl rfl ?_
  obtain ⟨r1, er1, h⟩ := bd1_e h
  refine u_cSI (As := [.int (zO a1)]) (rest := [zR G.2.2.1 a0]) E S zcw_yX12_giftAt zw_8_69 zw_8_68 (Mo_giftAt_c l G fu top L M a1 ha1 er1) (zrm_ok (by decide) (by decide)) ⟨Nat.le_refl 0, Nat.le_refl 0⟩ rfl (by simp [zR_cat, zcat_I, zcat_J, zcat_S]) hl.size rfl (Mo_goesThrough_dc.at 2 rfl) (fun H locs hr1 S2 => ?_)
  refine r_iconst E (Mo_goesThrough_dc.at 3 rfl) ?_
  refine r_iadd E (Mo_goesThrough_dc.at 4 rfl) ?_
  obtain ⟨g3, h⟩ := ite_e h
  obtain ⟨M4, eM4, h⟩ := lt1_e h
  refine u_pI E eM4 zf_12_30 S2 g3 (inR_w32 _) (Or.inl rfl) rfl zw_6_237 (Mo_goesThrough_dc.at 5 rfl) (fun H locs S5 => ?_)
  refine u_al_n (x := a0) E (Mo_goesThrough_dc.at 6 rfl) hl rfl ?_
  refine u_al_n (x := a0) E (Mo_goesThrough_dc.at 7 rfl) hl rfl ?_
  refine u_gI E zf_12_30 S5 g3 zw_6_237 (Mo_goesThrough_dc.at 8 rfl) ?_
  refine u_al_n (x := a0) E (Mo_goesThrough_dc.at 9 rfl) hl rfl ?_
  refine u_gR E zf_12_18 S5 g3 zw_6_225 (Mo_goesThrough_dc.at 10 rfl) ?_
  refine u_il_n (x := a1) E (Mo_goesThrough_dc.at 11 rfl) hl rfl ?_
  obtain ⟨r6, er6, h⟩ := bd1_e h
  refine u_cSI (As := [.int (zO a1)]) (rest := [zR G.2.2.1 (M4 a0 18), .int (zO (M4 a0 30)), zR G.2.2.1 a0]) E S5 zcw_yX12_giftAt zw_8_69 zw_8_68 (Mo_giftAt_c l G fu top L M4 a1 ha1 er6) (zrm_ok (by decide) (by decide)) ⟨Nat.le_refl 0, Nat.le_refl 0⟩ rfl (by simp [zR_cat, zcat_I, zcat_J, zcat_S]) hl.size rfl (Mo_goesThrough_dc.at 12 rfl) (fun H locs hr6 S7 => ?_)
  refine r_iconst E (Mo_goesThrough_dc.at 13 rfl) ?_
  refine r_iadd E (Mo_goesThrough_dc.at 14 rfl) ?_
  obtain ⟨g8, h⟩ := ite_e h
  obtain ⟨g9, h⟩ := ite_e h
  refine r_iald E S7 g8 g9 (Mo_goesThrough_dc.at 15 rfl) ?_
  refine r_iadd E (Mo_goesThrough_dc.at 16 rfl) ?_
  obtain ⟨M10, eM10, h⟩ := lt1_e h
  refine u_pI E eM10 zf_12_31 S7 g3 (inR_w32 _) (Or.inl rfl) rfl zw_6_238 (Mo_goesThrough_dc.at 17 rfl) (fun H locs S11 => ?_)
  cases h
  exact r_vret E S11 True.intro (Mo_goesThrough_dc.at 18 rfl)
theorem Mo_goesThrough_c (l : Launch) (G : zG) (fu : Nat) (top : Int) (L : zL) (M : zM) (a0 : Int) (a1 : Int) {res : zM} (ha0 : InR a0) (ha1 : InR a1) (h : Mo_goesThrough fu L M a0 a1 = some res) : Met l yX12_goesThrough (Cond.code yX12_goesThrough cX12_goesThrough 2 none :: zTB) (zrm 2 0 0) (va_Pc [zR G.2.2.1 a0, .int (zO a1)] (zPre G top L M)) (zQ G top L res none True) 0 0 (zA G) :=
  z_met (by decide +kernel) (by simp [zR_cat, zcat_I, zcat_S]) (Nat.le_of_ble_eq_true rfl) fun p e s m below meth c ls E hn S hl => Mo_goesThrough_w E ha0 ha1 S (hl.sub (And.intro rfl (And.intro rfl True.intro))) h
end
theorem Mo_isNext_dc : zDL cX12_isNext [(0, .aload_n 0, 1, 1), (1, .getfield 376, 3, 4), (4, .aload_n 0, 1, 5), (5, .getfield 379, 3, 8), (8, .if_icmp .ge 23, 3, 11), (11, .aload_n 0, 1, 12), (12, .getfield 31, 3, 15), (15, .aload_n 0, 1, 16), (16, .getfield 376, 3, 19), (19, .iaload, 1, 20), (20, .bipush 100, 2, 22), (22, .irem, 1, 23), (23, .iload_n 1, 1, 24), (24, .if_icmp .ne 7, 3, 27), (27, .iconst 1, 1, 28), (28, .goto 4, 3, 31), (31, .iconst 0, 1, 32), (32, .ireturn, 1, 33)] := zDL.of (by decide +kernel)
section
variable {p : Program} {l : Launch} {e : Env} {s : State} {m : MethodId} {args : Array Value} {below : List Frame} {meth : Method} {c : Code} {G : zG} {top : Int} {L : zL} {fu : Nat}
theorem Mo_isNext_w (E : zEv p m c cX12_isNext 2 s args RX12 meth (some .boolean) G) {res : Int} {M : zM} {a0 : Int} {a1 : Int} {H : Heap} {locs : List Loc} {ls : Array Slot} (ha0 : InR a0) (ha1 : InR a1) (S : zS G top L M s H locs) (hl : zLV ls 2 [some (zR G.2.2.1 a0), some (.int (zO a1))]) (h : Mo_isNext fu L M a0 a1 = some res) : W p l e (zrm 1 0 0) s m args below meth c H locs 0 0 (MQ below (zQ G top L M (some (.int (zO res))) (0 ≤ res ∧ res ≤ 1)) args s 0 0 (zA G)) (F0 m 0 ls []) := by
  unfold Mo_isNext at h
  refine u_al_n (x := a0) E (Mo_isNext_dc.at 0 rfl) hl rfl ?_
  obtain ⟨g1, h⟩ := ite_e h
  refine u_gI E zf_12_30 S g1 zw_6_237 (Mo_isNext_dc.at 1 rfl) ?_
  refine u_al_n (x := a0) E (Mo_isNext_dc.at 2 rfl) hl rfl ?_
  refine u_gI E zf_12_31 S g1 zw_6_238 (Mo_isNext_dc.at 3 rfl) ?_
  refine r_icmp_ge (tgt := 31) E (S.1.inR _ _) (S.1.inR _ _) (Mo_isNext_dc.at 4 rfl) (by decide) (fun q => ?_) (fun q => ?_)
  · have h := ite_t h q
    refine u_al_n (x := a0) E (Mo_isNext_dc.at 5 rfl) hl rfl ?_
    refine u_gR E zf_12_18 S g1 zw_6_225 (Mo_isNext_dc.at 6 rfl) ?_
    refine u_al_n (x := a0) E (Mo_isNext_dc.at 7 rfl) hl rfl ?_
    refine u_gI E zf_12_30 S g1 zw_6_237 (Mo_isNext_dc.at 8 rfl) ?_
    obtain ⟨g2, h⟩ := ite_e h
    obtain ⟨g3, h⟩ := ite_e h
    refine r_iald E S g2 g3 (Mo_isNext_dc.at 9 rfl) ?_
    refine r_bipush E (Mo_isNext_dc.at 10 rfl) rfl ?_
    refine r_irem E (S.1.inR _ _) (show InR 100 by decide) (by decide) (Mo_isNext_dc.at 11 rfl) ?_
    refine u_il_n (x := a1) E (Mo_isNext_dc.at 12 rfl) hl rfl ?_
    refine r_icmp_ne (tgt := 31) E (inR_w32 _) ha1 (Mo_isNext_dc.at 13 rfl) (by decide) (fun q => ?_) (fun q => ?_)
    · have h := ite_t h q
      refine r_iconst E (Mo_isNext_dc.at 14 rfl) ?_
      refine r_goto (tgt := 32) E (Mo_isNext_dc.at 15 rfl) (by decide) ?_
      cases h
      exact r_zret E S z01_1 z01_1 (Mo_isNext_dc.at 17 rfl)
    · have h := ite_f h q
      refine r_iconst E (Mo_isNext_dc.at 16 rfl) ?_
      cases h
      exact r_zret E S z01_0 z01_0 (Mo_isNext_dc.at 17 rfl)
  · have h := ite_f h q
    refine r_iconst E (Mo_isNext_dc.at 16 rfl) ?_
    cases h
    exact r_zret E S z01_0 z01_0 (Mo_isNext_dc.at 17 rfl)
theorem Mo_isNext_c (l : Launch) (G : zG) (fu : Nat) (top : Int) (L : zL) (M : zM) (a0 : Int) (a1 : Int) {res : Int} (ha0 : InR a0) (ha1 : InR a1) (h : Mo_isNext fu L M a0 a1 = some res) : Met l yX12_isNext (Cond.code yX12_isNext cX12_isNext 2 (some .boolean) :: zTB) (zrm 1 0 0) (va_Pc [zR G.2.2.1 a0, .int (zO a1)] (zPre G top L M)) (zQ G top L M (some (.int (zO res))) (0 ≤ res ∧ res ≤ 1)) 0 0 (zA G) :=
  z_met (by decide +kernel) (by simp [zR_cat, zcat_I, zcat_S]) (Nat.le_of_ble_eq_true rfl) fun p e s m below meth c ls E hn S hl => Mo_isNext_w E ha0 ha1 S (hl.sub (And.intro rfl (And.intro rfl True.intro))) h
end
