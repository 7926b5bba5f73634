theorem Mo_most_dc : zDL cX12_most [(0, .aload_n 0, 1, 1), (1, .iconst 0, 1, 2), (2, .putfield 66, 3, 5), (5, .aload_n 0, 1, 6), (6, .getfield 238, 3, 9), (9, .ifCond .ne 5, 3, 12), (12, .iconst (-1), 1, 13), (13, .ireturn, 1, 14), (14, .iload_n 1, 1, 15), (15, .tableswitch 76 0 6 #[41, 46, 51, 56, 61, 66, 71], 41, 56), (56, .aload_n 0, 1, 57), (57, .invokevirtual 575, 3, 60), (60, .ireturn, 1, 61), (61, .aload_n 0, 1, 62), (62, .invokevirtual 578, 3, 65), (65, .ireturn, 1, 66), (66, .aload_n 0, 1, 67), (67, .invokevirtual 581, 3, 70), (70, .ireturn, 1, 71), (71, .aload_n 0, 1, 72), (72, .invokevirtual 584, 3, 75), (75, .ireturn, 1, 76), (76, .aload_n 0, 1, 77), (77, .invokevirtual 587, 3, 80), (80, .ireturn, 1, 81), (81, .aload_n 0, 1, 82), (82, .invokevirtual 590, 3, 85), (85, .ireturn, 1, 86), (86, .aload_n 0, 1, 87), (87, .invokevirtual 593, 3, 90), (90, .ireturn, 1, 91), (91, .iconst (-1), 1, 92), (92, .ireturn, 1, 93)] := zDL.of (by decide +kernel)
section
variable {p : Program} {l : Launch} {e : Env} {s : State} {m : MethodId} {args : Array Value} {below : List Frame} {meth : Method} {c : Code} {G : zG} {top : Int} {L : zL} {fu : Nat}
theorem Mo_most_w (E : zEv p m c cX12_most 2 s args RX12 meth (some .int) G) {res : (zM × Int)} {M : zM} {a0 : Int} {a1 : Int} {H : Heap} {locs : List Loc} {ls : Array Slot} (ha0 : InR a0) (ha1 : InR a1) (S : zS G top L M s H locs) (hl : zLV ls 2 [some (zR G.2.2.1 a0), some (.int (zO a1))]) (h : Mo_most fu L M a0 a1 = some res) : W p l e (zrm 53 0 0) s m args below meth c H locs 0 0 (MQ below (zQ G top L res.1 (some (.int (zO res.2))) (InR res.2)) args s 0 0 (zA G)) (F0 m 0 ls []) := by
  unfold Mo_most at h
  refine u_al_n (x := a0) E (Mo_most_dc.at 0 rfl) hl rfl ?_
  refine r_iconst E (Mo_most_dc.at 1 rfl) ?_
  obtain ⟨g1, h⟩ := ite_e h
  obtain ⟨M2, eM2, h⟩ := lt1_e h
  refine u_pI E eM2 zf_12_0 S g1 (show InR 0 by decide) (Or.inl rfl) rfl zw_6_207 (Mo_most_dc.at 2 rfl) (fun H locs S3 => ?_)
  refine u_al_n (x := a0) E (Mo_most_dc.at 3 rfl) hl rfl ?_
  refine u_gI E zf_12_19 S3 g1 zw_6_226 (Mo_most_dc.at 4 rfl) ?_
  refine r_if_ne (tgt := 14) E (S3.1.inR _ _) (Mo_most_dc.at 5 rfl) (by decide) (fun q => ?_) (fun q => ?_)
  · have h := ite_t h q
    refine r_iconst E (Mo_most_dc.at 6 rfl) ?_
    cases h
    exact r_iret E S3 (show InR (-1) by decide) (Mo_most_dc.at 7 rfl)
  · have h := ite_f h q
    refine u_il_n (x := a1) E (Mo_most_dc.at 8 rfl) hl rfl ?_
    by_cases q6 : a1 = 0
    · have h := ite_t h q6
      refine r_tin (tgt := 56) (k := 0) E ha1 q6 (Mo_most_dc.at 9 rfl) (by decide) (by decide) rfl (by decide) ?_
      refine u_al_n (x := a0) E (Mo_most_dc.at 10 rfl) hl rfl ?_
      obtain ⟨r4, er4, h⟩ := bd1_e h
      refine u_cVI (As := []) (rest := []) E S3 zcw_yX12_fullest zw_9_238 zq_9_5 zw_9_236 zck_12.1 rfl g1 (Mo_fullest_c l G fu top L M2 a0 ha0 er4) (zrm_ok (by decide) (by decide)) ⟨Nat.le_refl 0, Nat.le_refl 0⟩ rfl (Nat.zero_le 8) hl.size rfl (Mo_most_dc.at 11 rfl) (fun H locs hr4 S5 => ?_)
      cases h
      exact r_iret E S5 hr4 (Mo_most_dc.at 12 rfl)
    · have h := ite_f h q6
      by_cases q9 : a1 = 1
      · have h := ite_t h q9
        refine r_tin (tgt := 61) (k := 1) E ha1 q9 (Mo_most_dc.at 9 rfl) (by decide) (by decide) rfl (by decide) ?_
        refine u_al_n (x := a0) E (Mo_most_dc.at 13 rfl) hl rfl ?_
        obtain ⟨r7, er7, h⟩ := bd1_e h
        refine u_cVI (As := []) (rest := []) E S3 zcw_yX12_oldest zw_10_2 zq_9_6 zw_10_0 zck_12.1 rfl g1 (Mo_oldest_c l G fu top L M2 a0 ha0 er7) (zrm_ok (by decide) (by decide)) ⟨Nat.le_refl 0, Nat.le_refl 0⟩ rfl (Nat.zero_le 8) hl.size rfl (Mo_most_dc.at 14 rfl) (fun H locs hr7 S8 => ?_)
        cases h
        exact r_iret E S8 hr7 (Mo_most_dc.at 15 rfl)
      · have h := ite_f h q9
        by_cases q12 : a1 = 2
        · have h := ite_t h q12
          refine r_tin (tgt := 66) (k := 2) E ha1 q12 (Mo_most_dc.at 9 rfl) (by decide) (by decide) rfl (by decide) ?_
          refine u_al_n (x := a0) E (Mo_most_dc.at 16 rfl) hl rfl ?_
          obtain ⟨r10, er10, h⟩ := bd1_e h
          refine u_cVI (As := []) (rest := []) E S3 zcw_yX12_alive zw_10_6 zq_9_7 zw_10_4 zck_12.1 rfl g1 (Mo_alive_c l G fu top L M2 a0 ha0 er10) (zrm_ok (by decide) (by decide)) ⟨Nat.le_refl 0, Nat.le_refl 0⟩ rfl (Nat.zero_le 8) hl.size rfl (Mo_most_dc.at 17 rfl) (fun H locs hr10 S11 => ?_)
          cases h
          exact r_iret E S11 hr10 (Mo_most_dc.at 18 rfl)
        · have h := ite_f h q12
          by_cases q16 : a1 = 3
          · have h := ite_t h q16
            refine r_tin (tgt := 71) (k := 3) E ha1 q16 (Mo_most_dc.at 9 rfl) (by decide) (by decide) rfl (by decide) ?_
            refine u_al_n (x := a0) E (Mo_most_dc.at 19 rfl) hl rfl ?_
            obtain ⟨M14, r13, er13, h⟩ := bd2_e h
            refine u_cVI (As := []) (rest := []) E S3 zcw_yX12_goodOnes zw_10_10 zq_9_8 zw_10_8 zck_12.1 rfl g1 (Mo_goodOnes_c l G fu top L M2 a0 ha0 er13) (zrm_ok (by decide) (by decide)) ⟨Nat.le_refl 0, Nat.le_refl 0⟩ rfl (Nat.zero_le 8) hl.size rfl (Mo_most_dc.at 20 rfl) (fun H locs hr13 S15 => ?_)
            cases h
            exact r_iret E S15 hr13 (Mo_most_dc.at 21 rfl)
          · have h := ite_f h q16
            by_cases q20 : a1 = 4
            · have h := ite_t h q20
              refine r_tin (tgt := 76) (k := 4) E ha1 q20 (Mo_most_dc.at 9 rfl) (by decide) (by decide) rfl (by decide) ?_
              refine u_al_n (x := a0) E (Mo_most_dc.at 22 rfl) hl rfl ?_
              obtain ⟨M18, r17, er17, h⟩ := bd2_e h
              refine u_cVI (As := []) (rest := []) E S3 zcw_yX12_badStates zw_10_14 zq_9_9 zw_10_12 zck_12.1 rfl g1 (Mo_badStates_c l G fu top L M2 a0 ha0 er17) (zrm_ok (by decide) (by decide)) ⟨Nat.le_refl 0, Nat.le_refl 0⟩ rfl (Nat.zero_le 8) hl.size rfl (Mo_most_dc.at 23 rfl) (fun H locs hr17 S19 => ?_)
              cases h
              exact r_iret E S19 hr17 (Mo_most_dc.at 24 rfl)
            · have h := ite_f h q20
              by_cases q23 : a1 = 5
              · have h := ite_t h q23
                refine r_tin (tgt := 81) (k := 5) E ha1 q23 (Mo_most_dc.at 9 rfl) (by decide) (by decide) rfl (by decide) ?_
                refine u_al_n (x := a0) E (Mo_most_dc.at 25 rfl) hl rfl ?_
                obtain ⟨r21, er21, h⟩ := bd1_e h
                refine u_cVI (As := []) (rest := []) E S3 zcw_yX12_longest zw_10_18 zq_9_10 zw_10_16 zck_12.1 rfl g1 (Mo_longest_c l G fu top L M2 a0 ha0 er21) (zrm_ok (by decide) (by decide)) ⟨Nat.le_refl 0, Nat.le_refl 0⟩ rfl (Nat.zero_le 8) hl.size rfl (Mo_most_dc.at 26 rfl) (fun H locs hr21 S22 => ?_)
                cases h
                exact r_iret E S22 hr21 (Mo_most_dc.at 27 rfl)
              · have h := ite_f h q23
                by_cases q26 : a1 = 6
                · have h := ite_t h q26
                  refine r_tin (tgt := 86) (k := 6) E ha1 q26 (Mo_most_dc.at 9 rfl) (by decide) (by decide) rfl (by decide) ?_
                  refine u_al_n (x := a0) E (Mo_most_dc.at 28 rfl) hl rfl ?_
                  obtain ⟨r24, er24, h⟩ := bd1_e h
                  refine u_cVI (As := []) (rest := []) E S3 zcw_yX12_greatestAge zw_10_22 zq_9_11 zw_10_20 zck_12.1 rfl g1 (Mo_greatestAge_c l G fu top L M2 a0 ha0 er24) (zrm_ok (by decide) (by decide)) ⟨Nat.le_refl 0, Nat.le_refl 0⟩ rfl (Nat.zero_le 8) hl.size rfl (Mo_most_dc.at 29 rfl) (fun H locs hr24 S25 => ?_)
                  cases h
                  exact r_iret E S25 hr24 (Mo_most_dc.at 30 rfl)
                · have h := ite_f h q26
                  refine r_tout (tgt := 91) E ha1 (by omega) (Mo_most_dc.at 9 rfl) (by decide) ?_
                  refine r_iconst E (Mo_most_dc.at 31 rfl) ?_
                  cases h
                  exact r_iret E S3 (show InR (-1) by decide) (Mo_most_dc.at 32 rfl)
theorem Mo_most_c (l : Launch) (G : zG) (fu : Nat) (top : Int) (L : zL) (M : zM) (a0 : Int) (a1 : Int) {res : (zM × Int)} (ha0 : InR a0) (ha1 : InR a1) (h : Mo_most fu L M a0 a1 = some res) : Met l yX12_most (Cond.code yX12_most cX12_most 2 (some .int) :: zTB) (zrm 53 0 0) (va_Pc [zR G.2.2.1 a0, .int (zO a1)] (zPre G top L M)) (zQ G top L res.1 (some (.int (zO res.2))) (InR res.2)) 0 0 (zA G) :=
  z_met (by decide +kernel) (by simp [zR_cat, zcat_I, zcat_S]) (Nat.le_of_ble_eq_true rfl) fun p e s m below meth c ls E hn S hl => Mo_most_w E ha0 ha1 S (hl.sub (And.intro rfl (And.intro rfl True.intro))) h
end
theorem Mo_size_dc : zDL cX12_size [(0, .aload_n 0, 1, 1), (1, .iconst 0, 1, 2), (2, .putfield 66, 3, 5), (5, .iload_n 1, 1, 6), (6, .ifCond .ne 10, 3, 9), (9, .aload_n 0, 1, 10), (10, .getfield 73, 3, 13), (13, .goto 16, 3, 16), (16, .iload_n 1, 1, 17), (17, .iconst 1, 1, 18), (18, .if_icmp .ne 10, 3, 21), (21, .aload_n 0, 1, 22), (22, .getfield 259, 3, 25), (25, .goto 4, 3, 28), (28, .iconst (-1), 1, 29), (29, .ireturn, 1, 30)] := zDL.of (by decide +kernel)
section
variable {p : Program} {l : Launch} {e : Env} {s : State} {m : MethodId} {args : Array Value} {below : List Frame} {meth : Method} {c : Code} {G : zG} {top : Int} {L : zL} {fu : Nat}
theorem Mo_size_w (E : zEv p m c cX12_size 2 s args RX12 meth (some .int) G) {res : (zM × Int)} {M : zM} {a0 : Int} {a1 : Int} {H : Heap} {locs : List Loc} {ls : Array Slot} (ha0 : InR a0) (ha1 : InR a1) (S : zS G top L M s H locs) (hl : zLV ls 2 [some (zR G.2.2.1 a0), some (.int (zO a1))]) (h : Mo_size fu L M a0 a1 = some res) : W p l e (zrm 1 0 0) s m args below meth c H locs 0 0 (MQ below (zQ G top L res.1 (some (.int (zO res.2))) (InR res.2)) args s 0 0 (zA G)) (F0 m 0 ls []) := by
  unfold Mo_size at h
  refine u_al_n (x := a0) E (Mo_size_dc.at 0 rfl) hl rfl ?_
  refine r_iconst E (Mo_size_dc.at 1 rfl) ?_
  obtain ⟨g1, h⟩ := ite_e h
  obtain ⟨M2, eM2, h⟩ := lt1_e h
  refine u_pI E eM2 zf_12_0 S g1 (show InR 0 by decide) (Or.inl rfl) rfl zw_6_207 (Mo_size_dc.at 2 rfl) (fun H locs S3 => ?_)
  refine u_il_n (x := a1) E (Mo_size_dc.at 3 rfl) hl rfl ?_
  refine r_if_ne (tgt := 16) E ha1 (Mo_size_dc.at 4 rfl) (by decide) (fun q => ?_) (fun q => ?_)
  · have h := ite_t h q
    refine u_al_n (x := a0) E (Mo_size_dc.at 5 rfl) hl rfl ?_
    refine u_gI E zf_12_2 S3 g1 zw_6_209 (Mo_size_dc.at 6 rfl) ?_
    refine r_goto (tgt := 29) E (Mo_size_dc.at 7 rfl) (by decide) ?_
    cases h
    exact r_iret E S3 (S3.1.inR _ _) (Mo_size_dc.at 15 rfl)
  · have h := ite_f h q
    refine u_il_n (x := a1) E (Mo_size_dc.at 8 rfl) hl rfl ?_
    refine r_iconst E (Mo_size_dc.at 9 rfl) ?_
    refine r_icmp_ne (tgt := 28) E ha1 (show InR 1 by decide) (Mo_size_dc.at 10 rfl) (by decide) (fun q => ?_) (fun q => ?_)
    · have h := ite_t h q
      refine u_al_n (x := a0) E (Mo_size_dc.at 11 rfl) hl rfl ?_
      refine u_gI E zf_12_25 S3 g1 zw_6_232 (Mo_size_dc.at 12 rfl) ?_
      refine r_goto (tgt := 29) E (Mo_size_dc.at 13 rfl) (by decide) ?_
      cases h
      exact r_iret E S3 (S3.1.inR _ _) (Mo_size_dc.at 15 rfl)
    · have h := ite_f h q
      refine r_iconst E (Mo_size_dc.at 14 rfl) ?_
      cases h
      exact r_iret E S3 (show InR (-1) by decide) (Mo_size_dc.at 15 rfl)
theorem Mo_size_c (l : Launch) (G : zG) (fu : Nat) (top : Int) (L : zL) (M : zM) (a0 : Int) (a1 : Int) {res : (zM × Int)} (ha0 : InR a0) (ha1 : InR a1) (h : Mo_size fu L M a0 a1 = some res) : Met l yX12_size (Cond.code yX12_size cX12_size 2 (some .int) :: zTB) (zrm 1 0 0) (va_Pc [zR G.2.2.1 a0, .int (zO a1)] (zPre G top L M)) (zQ G top L res.1 (some (.int (zO res.2))) (InR res.2)) 0 0 (zA G) :=
  z_met (by decide +kernel) (by simp [zR_cat, zcat_I, zcat_S]) (Nat.le_of_ble_eq_true rfl) fun p e s m below meth c ls E hn S hl => Mo_size_w E ha0 ha1 S (hl.sub (And.intro rfl (And.intro rfl True.intro))) h
end
