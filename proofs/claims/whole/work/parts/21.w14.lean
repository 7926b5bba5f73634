theorem Mo_behindSo_dc : zDL cX12_behindSo [(0, .aload_n 0, 1, 1), (1, .iload_n 1, 1, 2), (2, .putfield 455, 3, 5), (5, .aload_n 0, 1, 6), (6, .iload_n 2, 1, 7), (7, .putfield 461, 3, 10), (10, .aload_n 0, 1, 11), (11, .iload_n 3, 1, 12), (12, .putfield 458, 3, 15), (15, .aload_n 0, 1, 16), (16, .invokevirtual 490, 3, 19), (19, .aload_n 0, 1, 20), (20, .getfield 468, 3, 23), (23, .aload_n 0, 1, 24), (24, .invokevirtual 478, 3, 27), (27, .invokestatic 305, 3, 30), (30, .ireturn, 1, 31)] := zDL.of (by decide +kernel)
section
variable {p : Program} {l : Launch} {e : Env} {s : State} {m : MethodId} {args : Array Value} {below : List Frame} {meth : Method} {c : Code} {G : zG} {top : Int} {L : zL} {fu : Nat}
theorem Mo_behindSo_w (E : zEv p m c cX12_behindSo 4 s args RX12 meth (some .int) G) {res : (zM × Int)} {M : zM} {a0 : Int} {a1 : Int} {a2 : Int} {a3 : Int} {H : Heap} {locs : List Loc} {ls : Array Slot} (ha0 : InR a0) (ha1 : InR a1) (ha2 : InR a2) (ha3 : InR a3) (S : zS G top L M s H locs) (hl : zLV ls 4 [some (zR G.2.2.1 a0), some (.int (zO a1)), some (.int (zO a2)), some (.int (zO a3))]) (h : Mo_behindSo fu L M a0 a1 a2 a3 = some res) : W p l e (zrm 45 0 0) s m args below meth c H locs 0 0 (MQ below (zQ G top L res.1 (some (.int (zO res.2))) (InR res.2)) args s 0 0 (zA G)) (F0 m 0 ls []) := by
  unfold Mo_behindSo at h
  refine u_al_n (x := a0) E (Mo_behindSo_dc.at 0 rfl) hl rfl ?_
  refine u_il_n (x := a1) E (Mo_behindSo_dc.at 1 rfl) hl rfl ?_
  obtain ⟨g1, h⟩ := ite_e h
  obtain ⟨M2, eM2, h⟩ := lt1_e h
  refine u_pI E eM2 zf_12_40 S g1 ha1 (Or.inl rfl) rfl zw_7_7 (Mo_behindSo_dc.at 2 rfl) (fun H locs S3 => ?_)
  refine u_al_n (x := a0) E (Mo_behindSo_dc.at 3 rfl) hl rfl ?_
  refine u_il_n (x := a2) E (Mo_behindSo_dc.at 4 rfl) hl rfl ?_
  obtain ⟨M4, eM4, h⟩ := lt1_e h
  refine u_pI E eM4 zf_12_41 S3 g1 ha2 (Or.inl rfl) rfl zw_7_8 (Mo_behindSo_dc.at 5 rfl) (fun H locs S5 => ?_)
  refine u_al_n (x := a0) E (Mo_behindSo_dc.at 6 rfl) hl rfl ?_
  refine u_il_n (x := a3) E (Mo_behindSo_dc.at 7 rfl) hl rfl ?_
  obtain ⟨M6, eM6, h⟩ := lt1_e h
  refine u_pI E eM6 zf_12_42 S5 g1 ha3 (Or.inl rfl) rfl zw_7_9 (Mo_behindSo_dc.at 8 rfl) (fun H locs S7 => ?_)
  refine u_al_n (x := a0) E (Mo_behindSo_dc.at 9 rfl) hl rfl ?_
  obtain ⟨M8, eM8, h⟩ := bd1_e h
  refine u_cVU (As := []) (rest := []) E S7 zcw_yX12_testAll zw_9_111 zq_8_5 zw_9_109 zck_12.1 rfl g1 (Mo_testAll_c l G fu top L M6 a0 ha0 eM8) (zrm_ok (by decide) (by decide)) ⟨Nat.le_refl 0, Nat.le_refl 0⟩ rfl (Nat.zero_le 8) hl.size rfl (Mo_behindSo_dc.at 10 rfl) (fun H locs _ S9 => ?_)
  refine u_al_n (x := a0) E (Mo_behindSo_dc.at 11 rfl) hl rfl ?_
  refine u_gI E zf_12_43 S9 g1 zw_7_10 (Mo_behindSo_dc.at 12 rfl) ?_
  refine u_al_n (x := a0) E (Mo_behindSo_dc.at 13 rfl) hl rfl ?_
  obtain ⟨r10, er10, h⟩ := bd1_e h
  refine u_cVI (As := []) (rest := [.int (zO (M8 a0 43))]) E S9 zcw_yX12_bornBy zw_9_130 zq_8_9 zw_9_128 zck_12.1 rfl g1 (Mo_bornBy_c l G fu top L M8 a0 ha0 er10) (zrm_ok (by decide) (by decide)) ⟨Nat.le_refl 0, Nat.le_refl 0⟩ rfl (by simp [zR_cat, zcat_I, zcat_J, zcat_S]) hl.size rfl (Mo_behindSo_dc.at 14 rfl) (fun H locs hr10 S11 => ?_)
  refine r_max (rest := []) E (S9.1.inR _ _) hr10 hl.size zw_8_125 zw_4_56 zw_1_17 zw_4_57 (by decide) (by simp [zR_cat, zcat_I, zcat_J, zcat_S, zrm]) ⟨Nat.zero_le _, Nat.zero_le _⟩ (Mo_behindSo_dc.at 15 rfl) ?_
  cases h
  exact r_iret E S11 (inR_max (S9.1.inR _ _) hr10) (Mo_behindSo_dc.at 16 rfl)
theorem Mo_behindSo_c (l : Launch) (G : zG) (fu : Nat) (top : Int) (L : zL) (M : zM) (a0 : Int) (a1 : Int) (a2 : Int) (a3 : Int) {res : (zM × Int)} (ha0 : InR a0) (ha1 : InR a1) (ha2 : InR a2) (ha3 : InR a3) (h : Mo_behindSo fu L M a0 a1 a2 a3 = some res) : Met l yX12_behindSo (Cond.code yX12_behindSo cX12_behindSo 4 (some .int) :: zTB) (zrm 45 0 0) (va_Pc [zR G.2.2.1 a0, .int (zO a1), .int (zO a2), .int (zO a3)] (zPre G top L M)) (zQ G top L res.1 (some (.int (zO res.2))) (InR res.2)) 0 0 (zA G) :=
  z_met (by decide +kernel) (by simp [zR_cat, zcat_I, zcat_S]) (Nat.le_of_ble_eq_true rfl) fun p e s m below meth c ls E hn S hl => Mo_behindSo_w E ha0 ha1 ha2 ha3 S (hl.sub (And.intro rfl (And.intro rfl (And.intro rfl (And.intro rfl True.intro))))) h
end
theorem Mo_isGood_dc : zDL cX12_isGood [(0, .aload_n 0, 1, 1), (1, .iload_n 1, 1, 2), (2, .invokevirtual 511, 3, 5), (5, .ifCond .ne 7, 3, 8), (8, .iconst 1, 1, 9), (9, .goto 4, 3, 12), (12, .iconst 0, 1, 13), (13, .istore_n 3, 1, 14), (14, .iconst 1, 1, 15), (15, .istore 4, 2, 17), (17, .iconst 0, 1, 18), (18, .istore 5, 2, 20), (20, .iload 5, 2, 22), (22, .bipush 24, 2, 24), (24, .if_icmp .ge 81, 3, 27), (27, .iload 4, 2, 29), (29, .ifCond .eq 76, 3, 32), (32, .iload 5, 2, 34), (34, .bipush 8, 2, 36), (36, .irem, 1, 37), (37, .aload_n 0, 1, 38), (38, .getfield 251, 3, 41), (41, .if_icmp .ge 58, 3, 44), (44, .aload_n 0, 1, 45), (45, .iload_n 1, 1, 46), (46, .iload 5, 2, 48), (48, .bipush 8, 2, 50), (50, .idiv, 1, 51), (51, .iload 5, 2, 53), (53, .bipush 8, 2, 55), (55, .irem, 1, 56), (56, .iload_n 3, 1, 57), (57, .invokevirtual 514, 3, 60), (60, .ifCond .eq 39, 3, 63), (63, .aload_n 0, 1, 64), (64, .invokevirtual 505, 3, 67), (67, .aload_n 0, 1, 68), (68, .iload 5, 2, 70), (70, .bipush 8, 2, 72), (72, .idiv, 1, 73), (73, .iload 5, 2, 75), (75, .bipush 8, 2, 77), (77, .irem, 1, 78), (78, .iload_n 2, 1, 79), (79, .invokevirtual 518, 3, 82), (82, .aload_n 0, 1, 83), (83, .getfield 31, 3, 86), (86, .bipush 74, 2, 88), (88, .iaload, 1, 89), (89, .if_icmp .gt 7, 3, 92), (92, .iconst 1, 1, 93), (93, .goto 4, 3, 96), (96, .iconst 0, 1, 97), (97, .istore 4, 2, 99), (99, .iinc 5 1, 3, 102), (102, .goto (-82), 3, 105), (105, .iload 4, 2, 107), (107, .ireturn, 1, 108)] := zDL.of (by decide +kernel)
section
variable {p : Program} {l : Launch} {e : Env} {s : State} {m : MethodId} {args : Array Value} {below : List Frame} {meth : Method} {c : Code} {G : zG} {top : Int} {L : zL} {fu : Nat}
theorem Mo_isGood_s20_w (E : zEv p m c cX12_isGood 6 s args RX12 meth (some .boolean) G) {res : (zM × Int)} {k20 : zM → Int → Int → Int → Int → Int → Int → Option (zM × Int)} (hk20 : ∀ (M : zM) (x0 : Int) (x1 : Int) (x2 : Int) (x3 : Int) (x4 : Int) (x5 : Int), InR x0 → InR x1 → InR x2 → InR x3 → InR x4 → InR x5 → ∀ (H : Heap) (locs : List Loc) (ls : Array Slot), zS G top L M s H locs → zLV ls 6 [some (zR G.2.2.1 x0), some (.int (zO x1)), some (.int (zO x2)), some (.int (zO x3)), some (.int (zO x4)), some (.int (zO x5))] → k20 M x0 x1 x2 x3 x4 x5 = some res → W p l e (zrm 47 0 0) s m args below meth c H locs 0 0 (MQ below (zQ G top L res.1 (some (.int (zO res.2))) (0 ≤ res.2 ∧ res.2 ≤ 1)) args s 0 0 (zA G)) (F0 m 20 ls [])) {M : zM} {x0 : Int} {x1 : Int} {x2 : Int} {x3 : Int} {x4 : Int} {x5 : Int} {H : Heap} {locs : List Loc} {ls : Array Slot} (hx0 : InR x0) (hx1 : InR x1) (hx2 : InR x2) (hx3 : InR x3) (hx4 : InR x4) (hx5 : InR x5) (S : zS G top L M s H locs) (hl : zLV ls 6 [some (zR G.2.2.1 x0), some (.int (zO x1)), some (.int (zO x2)), some (.int (zO x3)), some (.int (zO x4)), some (.int (zO x5))]) (h : Mo_isGood_s20 fu k20 L M x0 x1 x2 x3 x4 x5 = some res) : W p l e (zrm 47 0 0) s m args below meth c H locs 0 0 (MQ below (zQ G top L res.1 (some (.int (zO res.2))) (0 ≤ res.2 ∧ res.2 ≤ 1)) args s 0 0 (zA G)) (F0 m 20 ls []) := by
  unfold Mo_isGood_s20 at h
  refine u_il (x := x5) E (Mo_isGood_dc.at 12 rfl) hl rfl ?_
  refine r_bipush E (Mo_isGood_dc.at 13 rfl) rfl ?_
  refine r_icmp_ge (tgt := 105) E hx5 (show InR 24 by decide) (Mo_isGood_dc.at 14 rfl) (by decide) (fun q => ?_) (fun q => ?_)
  · have h := ite_t h q
    refine u_il (x := x4) E (Mo_isGood_dc.at 15 rfl) hl rfl ?_
    refine r_if_eq (tgt := 105) E hx4 (Mo_isGood_dc.at 16 rfl) (by decide) (fun q => ?_) (fun q => ?_)
    · have h := ite_t h q
      refine u_il (x := x4) E (Mo_isGood_dc.at 56 rfl) hl rfl ?_
      obtain ⟨g5, h⟩ := ite_e h
      cases h
      exact r_zret E S g5 g5 (Mo_isGood_dc.at 57 rfl)
    · have h := ite_f h q
      refine u_il (x := x5) E (Mo_isGood_dc.at 17 rfl) hl rfl ?_
      refine r_bipush E (Mo_isGood_dc.at 18 rfl) rfl ?_
      refine r_irem E hx5 (show InR 8 by decide) (by decide) (Mo_isGood_dc.at 19 rfl) ?_
      refine u_al_n (x := x0) E (Mo_isGood_dc.at 20 rfl) hl rfl ?_
      obtain ⟨g6, h⟩ := ite_e h
      refine u_gI E zf_12_20 S g6 zw_6_227 (Mo_isGood_dc.at 21 rfl) ?_
      refine r_icmp_ge (tgt := 99) E (inR_w32 _) (S.1.inR _ _) (Mo_isGood_dc.at 22 rfl) (by decide) (fun q => ?_) (fun q => ?_)
      · have h := ite_t h q
        refine u_al_n (x := x0) E (Mo_isGood_dc.at 23 rfl) hl rfl ?_
        refine u_il_n (x := x1) E (Mo_isGood_dc.at 24 rfl) hl rfl ?_
        refine u_il (x := x5) E (Mo_isGood_dc.at 25 rfl) hl rfl ?_
        refine r_bipush E (Mo_isGood_dc.at 26 rfl) rfl ?_
        refine r_idiv E hx5 (show InR 8 by decide) (by decide) (Mo_isGood_dc.at 27 rfl) ?_
        refine u_il (x := x5) E (Mo_isGood_dc.at 28 rfl) hl rfl ?_
        refine r_bipush E (Mo_isGood_dc.at 29 rfl) rfl ?_
        refine r_irem E hx5 (show InR 8 by decide) (by decide) (Mo_isGood_dc.at 30 rfl) ?_
        refine u_il_n (x := x3) E (Mo_isGood_dc.at 31 rfl) hl rfl ?_
        obtain ⟨r7, er7, h⟩ := bd1_e h
        refine u_cVI (As := [.int (zO x1), .int (zO (w32 (Int.tdiv x5 8))), .int (zO (w32 (Int.tmod x5 8))), .int (zO x3)]) (rest := []) E S zcw_yX12_isThere zw_9_99 zq_8_2 zw_9_97 zck_12.1 rfl g6 (Mo_isThere_c l G fu top L M x0 x1 (w32 (Int.tdiv x5 8)) (w32 (Int.tmod x5 8)) x3 hx0 hx1 (inR_w32 _) (inR_w32 _) hx3 er7) (zrm_ok (by decide) (by decide)) ⟨Nat.le_refl 0, Nat.le_refl 0⟩ rfl (Nat.zero_le 8) hl.size rfl (Mo_isGood_dc.at 32 rfl) (fun H locs hr7 S8 => ?_)
        refine r_if_eq (tgt := 99) E (inR_01 hr7) (Mo_isGood_dc.at 33 rfl) (by decide) (fun q => ?_) (fun q => ?_)
        · have h := ite_t h q
          obtain ⟨v9, ev9, h⟩ := lt1_e h
          have hv9 := inR_eq ev9 (inR_w32 _)
          refine u_iinc (y := v9) (vs' := [some (zR G.2.2.1 x0), some (.int (zO x1)), some (.int (zO x2)), some (.int (zO x3)), some (.int (zO x4)), some (.int (zO v9))]) E ev9 (Mo_isGood_dc.at 54 rfl) hl rfl (by decide) rfl (fun ls hl => ?_)
          refine r_goto (tgt := 20) E (Mo_isGood_dc.at 55 rfl) (by decide) ?_
          exact hk20 _ x0 x1 x2 x3 x4 v9 hx0 hx1 hx2 hx3 hx4 hv9 _ _ _ S8 (hl.sub (And.intro rfl (And.intro rfl (And.intro rfl (And.intro rfl (And.intro rfl (And.intro rfl True.intro))))))) h
        · have h := ite_f h q
          refine u_al_n (x := x0) E (Mo_isGood_dc.at 34 rfl) hl rfl ?_
          obtain ⟨M10, eM10, h⟩ := bd1_e h
          refine u_cVU (As := []) (rest := []) E S8 zcw_yX12_begin zw_9_95 zq_8_1 zw_9_93 zck_12.1 rfl g6 (Mo_begin_c l G fu top L M x0 hx0 eM10) (zrm_ok (by decide) (by decide)) ⟨Nat.le_refl 0, Nat.le_refl 0⟩ rfl (Nat.zero_le 8) hl.size rfl (Mo_isGood_dc.at 35 rfl) (fun H locs _ S11 => ?_)
          refine u_al_n (x := x0) E (Mo_isGood_dc.at 36 rfl) hl rfl ?_
          refine u_il (x := x5) E (Mo_isGood_dc.at 37 rfl) hl rfl ?_
          refine r_bipush E (Mo_isGood_dc.at 38 rfl) rfl ?_
          refine r_idiv E hx5 (show InR 8 by decide) (by decide) (Mo_isGood_dc.at 39 rfl) ?_
          refine u_il (x := x5) E (Mo_isGood_dc.at 40 rfl) hl rfl ?_
          refine r_bipush E (Mo_isGood_dc.at 41 rfl) rfl ?_
          refine r_irem E hx5 (show InR 8 by decide) (by decide) (Mo_isGood_dc.at 42 rfl) ?_
          refine u_il_n (x := x2) E (Mo_isGood_dc.at 43 rfl) hl rfl ?_
          obtain ⟨M13, r12, er12, h⟩ := bd2_e h
          refine u_cVI (As := [.int (zO (w32 (Int.tdiv x5 8))), .int (zO (w32 (Int.tmod x5 8))), .int (zO x2)]) (rest := []) E S11 zcw_yX12_behindSo zw_9_107 zq_8_4 zw_9_105 zck_12.1 rfl g6 (Mo_behindSo_c l G fu top L M10 x0 (w32 (Int.tdiv x5 8)) (w32 (Int.tmod x5 8)) x2 hx0 (inR_w32 _) (inR_w32 _) hx2 er12) (zrm_ok (by decide) (by decide)) ⟨Nat.le_refl 0, Nat.le_refl 0⟩ rfl (Nat.zero_le 8) hl.size rfl (Mo_isGood_dc.at 44 rfl) (fun H locs hr12 S14 => ?_)
          refine u_al_n (x := x0) E (Mo_isGood_dc.at 45 rfl) hl rfl ?_
          refine u_gR E zf_12_18 S14 g6 zw_6_225 (Mo_isGood_dc.at 46 rfl) ?_
          refine r_bipush E (Mo_isGood_dc.at 47 rfl) rfl ?_
          obtain ⟨g15, h⟩ := ite_e h
          obtain ⟨g16, h⟩ := ite_e h
          refine r_iald E S14 g15 g16 (Mo_isGood_dc.at 48 rfl) ?_
          refine r_icmp_gt (tgt := 96) E hr12 (S14.1.inR _ _) (Mo_isGood_dc.at 49 rfl) (by decide) (fun q => ?_) (fun q => ?_)
          · have h := ite_t h q
            refine r_iconst E (Mo_isGood_dc.at 52 rfl) ?_
            refine u_ist (y := 0) (vs' := [some (zR G.2.2.1 x0), some (.int (zO x1)), some (.int (zO x2)), some (.int (zO x3)), some (.int (zO 0)), some (.int (zO x5))]) E rfl (Mo_isGood_dc.at 53 rfl) hl (by decide) rfl (fun ls hl => ?_)
            obtain ⟨v17, ev17, h⟩ := lt1_e h
            have hv17 := inR_eq ev17 (inR_w32 _)
            refine u_iinc (y := v17) (vs' := [some (zR G.2.2.1 x0), some (.int (zO x1)), some (.int (zO x2)), some (.int (zO x3)), some (.int (zO 0)), some (.int (zO v17))]) E ev17 (Mo_isGood_dc.at 54 rfl) hl rfl (by decide) rfl (fun ls hl => ?_)
            refine r_goto (tgt := 20) E (Mo_isGood_dc.at 55 rfl) (by decide) ?_
            exact hk20 _ x0 x1 x2 x3 0 v17 hx0 hx1 hx2 hx3 (show InR 0 by decide) hv17 _ _ _ S14 (hl.sub (And.intro rfl (And.intro rfl (And.intro rfl (And.intro rfl (And.intro rfl (And.intro rfl True.intro))))))) h
          · have h := ite_f h q
            refine r_iconst E (Mo_isGood_dc.at 50 rfl) ?_
            refine r_goto (tgt := 97) E (Mo_isGood_dc.at 51 rfl) (by decide) ?_
            refine u_ist (y := 1) (vs' := [some (zR G.2.2.1 x0), some (.int (zO x1)), some (.int (zO x2)), some (.int (zO x3)), some (.int (zO 1)), some (.int (zO x5))]) E rfl (Mo_isGood_dc.at 53 rfl) hl (by decide) rfl (fun ls hl => ?_)
            obtain ⟨v18, ev18, h⟩ := lt1_e h
            have hv18 := inR_eq ev18 (inR_w32 _)
            refine u_iinc (y := v18) (vs' := [some (zR G.2.2.1 x0), some (.int (zO x1)), some (.int (zO x2)), some (.int (zO x3)), some (.int (zO 1)), some (.int (zO v18))]) E ev18 (Mo_isGood_dc.at 54 rfl) hl rfl (by decide) rfl (fun ls hl => ?_)
            refine r_goto (tgt := 20) E (Mo_isGood_dc.at 55 rfl) (by decide) ?_
            exact hk20 _ x0 x1 x2 x3 1 v18 hx0 hx1 hx2 hx3 (show InR 1 by decide) hv18 _ _ _ S14 (hl.sub (And.intro rfl (And.intro rfl (And.intro rfl (And.intro rfl (And.intro rfl (And.intro rfl True.intro))))))) h
      · have h := ite_f h q
        obtain ⟨v19, ev19, h⟩ := lt1_e h
        have hv19 := inR_eq ev19 (inR_w32 _)
        refine u_iinc (y := v19) (vs' := [some (zR G.2.2.1 x0), some (.int (zO x1)), some (.int (zO x2)), some (.int (zO x3)), some (.int (zO x4)), some (.int (zO v19))]) E ev19 (Mo_isGood_dc.at 54 rfl) hl rfl (by decide) rfl (fun ls hl => ?_)
        refine r_goto (tgt := 20) E (Mo_isGood_dc.at 55 rfl) (by decide) ?_
        exact hk20 _ x0 x1 x2 x3 x4 v19 hx0 hx1 hx2 hx3 hx4 hv19 _ _ _ S (hl.sub (And.intro rfl (And.intro rfl (And.intro rfl (And.intro rfl (And.intro rfl (And.intro rfl True.intro))))))) h
  · have h := ite_f h q
    refine u_il (x := x4) E (Mo_isGood_dc.at 56 rfl) hl rfl ?_
    obtain ⟨g20, h⟩ := ite_e h
    cases h
    exact r_zret E S g20 g20 (Mo_isGood_dc.at 57 rfl)
theorem Mo_isGood_l20_w (E : zEv p m c cX12_isGood 6 s args RX12 meth (some .boolean) G) {res : (zM × Int)} : ∀ (n : Nat) (M : zM) (x0 : Int) (x1 : Int) (x2 : Int) (x3 : Int) (x4 : Int) (x5 : Int), InR x0 → InR x1 → InR x2 → InR x3 → InR x4 → InR x5 → ∀ (H : Heap) (locs : List Loc) (ls : Array Slot), zS G top L M s H locs → zLV ls 6 [some (zR G.2.2.1 x0), some (.int (zO x1)), some (.int (zO x2)), some (.int (zO x3)), some (.int (zO x4)), some (.int (zO x5))] → Mo_isGood_l20 fu L n M x0 x1 x2 x3 x4 x5 = some res → W p l e (zrm 47 0 0) s m args below meth c H locs 0 0 (MQ below (zQ G top L res.1 (some (.int (zO res.2))) (0 ≤ res.2 ∧ res.2 ≤ 1)) args s 0 0 (zA G)) (F0 m 20 ls [])
  | 0, _, _, _, _, _, _, _ => fun _ _ _ _ _ _ _ _ _ _ _ h => (by cases h)
  | n + 1, M, x0, x1, x2, x3, x4, x5 => fun hx0 hx1 hx2 hx3 hx4 hx5 H locs ls S hl h => Mo_isGood_s20_w E (fun M x0 x1 x2 x3 x4 x5 hx0 hx1 hx2 hx3 hx4 hx5 H locs ls S hl h => Mo_isGood_l20_w E n M x0 x1 x2 x3 x4 x5 hx0 hx1 hx2 hx3 hx4 hx5 H locs ls S hl h) hx0 hx1 hx2 hx3 hx4 hx5 S hl h
theorem Mo_isGood_w (E : zEv p m c cX12_isGood 6 s args RX12 meth (some .boolean) G) {res : (zM × Int)} {M : zM} {a0 : Int} {a1 : Int} {a2 : Int} {H : Heap} {locs : List Loc} {ls : Array Slot} (ha0 : InR a0) (ha1 : InR a1) (ha2 : InR a2) (S : zS G top L M s H locs) (hl : zLV ls 6 [some (zR G.2.2.1 a0), some (.int (zO a1)), some (.int (zO a2)), none, none, none]) (h : Mo_isGood fu L M a0 a1 a2 = some res) : W p l e (zrm 47 0 0) s m args below meth c H locs 0 0 (MQ below (zQ G top L res.1 (some (.int (zO res.2))) (0 ≤ res.2 ∧ res.2 ≤ 1)) args s 0 0 (zA G)) (F0 m 0 ls []) := by
  unfold Mo_isGood at h
  refine u_al_n (x := a0) E (Mo_isGood_dc.at 0 rfl) hl rfl ?_
  refine u_il_n (x := a1) E (Mo_isGood_dc.at 1 rfl) hl rfl ?_
  obtain ⟨g1, h⟩ := ite_e h
  obtain ⟨M3, r2, er2, h⟩ := bd2_e h
  refine u_cVI (As := [.int (zO a1)]) (rest := []) E S zcw_yX12_hasVested zw_9_87 zq_7_15 zw_9_85 zck_12.1 rfl g1 (Mo_hasVested_c l G fu top L M a0 a1 ha0 ha1 er2) (zrm_ok (by decide) (by decide)) ⟨Nat.le_refl 0, Nat.le_refl 0⟩ rfl (Nat.zero_le 8) hl.size rfl (Mo_isGood_dc.at 2 rfl) (fun H locs hr2 S4 => ?_)
  refine r_if_ne (tgt := 12) E (inR_01 hr2) (Mo_isGood_dc.at 3 rfl) (by decide) (fun q => ?_) (fun q => ?_)
  · have h := ite_t h q
    refine r_iconst E (Mo_isGood_dc.at 4 rfl) ?_
    refine r_goto (tgt := 13) E (Mo_isGood_dc.at 5 rfl) (by decide) ?_
    refine u_ist_n (y := 1) (vs' := [some (zR G.2.2.1 a0), some (.int (zO a1)), some (.int (zO a2)), some (.int (zO 1)), none, none]) E rfl (Mo_isGood_dc.at 7 rfl) hl (by decide) rfl (fun ls hl => ?_)
    refine r_iconst E (Mo_isGood_dc.at 8 rfl) ?_
    refine u_ist (y := 1) (vs' := [some (zR G.2.2.1 a0), some (.int (zO a1)), some (.int (zO a2)), some (.int (zO 1)), some (.int (zO 1)), none]) E rfl (Mo_isGood_dc.at 9 rfl) hl (by decide) rfl (fun ls hl => ?_)
    refine r_iconst E (Mo_isGood_dc.at 10 rfl) ?_
    refine u_ist (y := 0) (vs' := [some (zR G.2.2.1 a0), some (.int (zO a1)), some (.int (zO a2)), some (.int (zO 1)), some (.int (zO 1)), some (.int (zO 0))]) E rfl (Mo_isGood_dc.at 11 rfl) hl (by decide) rfl (fun ls hl => ?_)
    exact Mo_isGood_l20_w E fu _ a0 a1 a2 1 1 0 ha0 ha1 ha2 (show InR 1 by decide) (show InR 1 by decide) (show InR 0 by decide) _ _ _ S4 (hl.sub (And.intro rfl (And.intro rfl (And.intro rfl (And.intro rfl (And.intro rfl (And.intro rfl True.intro))))))) h
  · have h := ite_f h q
    refine r_iconst E (Mo_isGood_dc.at 6 rfl) ?_
    refine u_ist_n (y := 0) (vs' := [some (zR G.2.2.1 a0), some (.int (zO a1)), some (.int (zO a2)), some (.int (zO 0)), none, none]) E rfl (Mo_isGood_dc.at 7 rfl) hl (by decide) rfl (fun ls hl => ?_)
    refine r_iconst E (Mo_isGood_dc.at 8 rfl) ?_
    refine u_ist (y := 1) (vs' := [some (zR G.2.2.1 a0), some (.int (zO a1)), some (.int (zO a2)), some (.int (zO 0)), some (.int (zO 1)), none]) E rfl (Mo_isGood_dc.at 9 rfl) hl (by decide) rfl (fun ls hl => ?_)
    refine r_iconst E (Mo_isGood_dc.at 10 rfl) ?_
    refine u_ist (y := 0) (vs' := [some (zR G.2.2.1 a0), some (.int (zO a1)), some (.int (zO a2)), some (.int (zO 0)), some (.int (zO 1)), some (.int (zO 0))]) E rfl (Mo_isGood_dc.at 11 rfl) hl (by decide) rfl (fun ls hl => ?_)
    exact Mo_isGood_l20_w E fu _ a0 a1 a2 0 1 0 ha0 ha1 ha2 (show InR 0 by decide) (show InR 1 by decide) (show InR 0 by decide) _ _ _ S4 (hl.sub (And.intro rfl (And.intro rfl (And.intro rfl (And.intro rfl (And.intro rfl (And.intro rfl True.intro))))))) h
theorem Mo_isGood_c (l : Launch) (G : zG) (fu : Nat) (top : Int) (L : zL) (M : zM) (a0 : Int) (a1 : Int) (a2 : Int) {res : (zM × Int)} (ha0 : InR a0) (ha1 : InR a1) (ha2 : InR a2) (h : Mo_isGood fu L M a0 a1 a2 = some res) : Met l yX12_isGood (Cond.code yX12_isGood cX12_isGood 6 (some .boolean) :: zTB) (zrm 47 0 0) (va_Pc [zR G.2.2.1 a0, .int (zO a1), .int (zO a2)] (zPre G top L M)) (zQ G top L res.1 (some (.int (zO res.2))) (0 ≤ res.2 ∧ res.2 ≤ 1)) 0 0 (zA G) :=
  z_met (by decide +kernel) (by simp [zR_cat, zcat_I, zcat_S]) (Nat.le_of_ble_eq_true rfl) fun p e s m below meth c ls E hn S hl => Mo_isGood_w E ha0 ha1 ha2 S (hl.sub (And.intro rfl (And.intro rfl (And.intro rfl True.intro)))) h
end
theorem Mo_isGoodGift_dc : zDL cX12_isGoodGift [(0, .aload_n 0, 1, 1), (1, .iload_n 1, 1, 2), (2, .invokevirtual 521, 3, 5), (5, .aload_n 0, 1, 6), (6, .iload_n 1, 1, 7), (7, .aload_n 0, 1, 8), (8, .invokevirtual 524, 3, 11), (11, .invokevirtual 527, 3, 14), (14, .ireturn, 1, 15)] := zDL.of (by decide +kernel)
section
variable {p : Program} {l : Launch} {e : Env} {s : State} {m : MethodId} {args : Array Value} {below : List Frame} {meth : Method} {c : Code} {G : zG} {top : Int} {L : zL} {fu : Nat}
theorem Mo_isGoodGift_w (E : zEv p m c cX12_isGoodGift 2 s args RX12 meth (some .boolean) G) {res : (zM × Int)} {M : zM} {a0 : Int} {a1 : Int} {H : Heap} {locs : List Loc} {ls : Array Slot} (ha0 : InR a0) (ha1 : InR a1) (S : zS G top L M s H locs) (hl : zLV ls 2 [some (zR G.2.2.1 a0), some (.int (zO a1))]) (h : Mo_isGoodGift fu L M a0 a1 = some res) : W p l e (zrm 48 0 0) s m args below meth c H locs 0 0 (MQ below (zQ G top L res.1 (some (.int (zO res.2))) (0 ≤ res.2 ∧ res.2 ≤ 1)) args s 0 0 (zA G)) (F0 m 0 ls []) := by
  unfold Mo_isGoodGift at h
  refine u_al_n (x := a0) E (Mo_isGoodGift_dc.at 0 rfl) hl rfl ?_
  refine u_il_n (x := a1) E (Mo_isGoodGift_dc.at 1 rfl) hl rfl ?_
  obtain ⟨g1, h⟩ := ite_e h
  obtain ⟨M2, eM2, h⟩ := bd1_e h
  refine u_cVU (As := [.int (zO a1)]) (rest := []) E S zcw_yX12_asksAll zw_9_75 zq_7_12 zw_9_73 zck_12.1 rfl g1 (Mo_asksAll_c l G fu top L M a0 a1 ha0 ha1 eM2) (zrm_ok (by decide) (by decide)) ⟨Nat.le_refl 0, Nat.le_refl 0⟩ rfl (Nat.zero_le 8) hl.size rfl (Mo_isGoodGift_dc.at 2 rfl) (fun H locs _ S3 => ?_)
  refine u_al_n (x := a0) E (Mo_isGoodGift_dc.at 3 rfl) hl rfl ?_
  refine u_il_n (x := a1) E (Mo_isGoodGift_dc.at 4 rfl) hl rfl ?_
  refine u_al_n (x := a0) E (Mo_isGoodGift_dc.at 5 rfl) hl rfl ?_
  obtain ⟨r4, er4, h⟩ := bd1_e h
  refine u_cVI (As := []) (rest := [.int (zO a1), zR G.2.2.1 a0]) E S3 zcw_yX12_allLives zw_9_79 zq_7_13 zw_9_77 zck_12.1 rfl g1 (Mo_allLives_c l G fu top L M2 a0 ha0 er4) (zrm_ok (by decide) (by decide)) ⟨Nat.le_refl 0, Nat.le_refl 0⟩ rfl (by simp [zR_cat, zcat_I, zcat_J, zcat_S]) hl.size rfl (Mo_isGoodGift_dc.at 6 rfl) (fun H locs hr4 S5 => ?_)
  obtain ⟨M7, r6, er6, h⟩ := bd2_e h
  refine u_cVI (As := [.int (zO a1), .int (zO r4)]) (rest := []) E S5 zcw_yX12_isGood zw_9_83 zq_7_14 zw_9_81 zck_12.1 rfl g1 (Mo_isGood_c l G fu top L M2 a0 a1 r4 ha0 ha1 hr4 er6) (zrm_ok (by decide) (by decide)) ⟨Nat.le_refl 0, Nat.le_refl 0⟩ rfl (Nat.zero_le 8) hl.size rfl (Mo_isGoodGift_dc.at 7 rfl) (fun H locs hr6 S8 => ?_)
  cases h
  exact r_zret E S8 hr6 hr6 (Mo_isGoodGift_dc.at 8 rfl)
theorem Mo_isGoodGift_c (l : Launch) (G : zG) (fu : Nat) (top : Int) (L : zL) (M : zM) (a0 : Int) (a1 : Int) {res : (zM × Int)} (ha0 : InR a0) (ha1 : InR a1) (h : Mo_isGoodGift fu L M a0 a1 = some res) : Met l yX12_isGoodGift (Cond.code yX12_isGoodGift cX12_isGoodGift 2 (some .boolean) :: zTB) (zrm 48 0 0) (va_Pc [zR G.2.2.1 a0, .int (zO a1)] (zPre G top L M)) (zQ G top L res.1 (some (.int (zO res.2))) (0 ≤ res.2 ∧ res.2 ≤ 1)) 0 0 (zA G) :=
  z_met (by decide +kernel) (by simp [zR_cat, zcat_I, zcat_S]) (Nat.le_of_ble_eq_true rfl) fun p e s m below meth c ls E hn S hl => Mo_isGoodGift_w E ha0 ha1 S (hl.sub (And.intro rfl (And.intro rfl True.intro))) h
end
theorem Mo_good_dc : zDL cX12_good [(0, .aload_n 0, 1, 1), (1, .iconst 0, 1, 2), (2, .putfield 66, 3, 5), (5, .aload_n 0, 1, 6), (6, .iload_n 1, 1, 7), (7, .invokevirtual 282, 3, 10), (10, .ifCond .eq 19, 3, 13), (13, .aload_n 0, 1, 14), (14, .iload_n 1, 1, 15), (15, .invokevirtual 530, 3, 18), (18, .ifCond .eq 7, 3, 21), (21, .iconst 1, 1, 22), (22, .goto 8, 3, 25), (25, .iconst 0, 1, 26), (26, .goto 4, 3, 29), (29, .iconst (-1), 1, 30), (30, .ireturn, 1, 31)] := zDL.of (by decide +kernel)
section
variable {p : Program} {l : Launch} {e : Env} {s : State} {m : MethodId} {args : Array Value} {below : List Frame} {meth : Method} {c : Code} {G : zG} {top : Int} {L : zL} {fu : Nat}
theorem Mo_good_w (E : zEv p m c cX12_good 2 s args RX12 meth (some .int) G) {res : (zM × Int)} {M : zM} {a0 : Int} {a1 : Int} {H : Heap} {locs : List Loc} {ls : Array Slot} (ha0 : InR a0) (ha1 : InR a1) (S : zS G top L M s H locs) (hl : zLV ls 2 [some (zR G.2.2.1 a0), some (.int (zO a1))]) (h : Mo_good fu L M a0 a1 = some res) : W p l e (zrm 49 0 0) s m args below meth c H locs 0 0 (MQ below (zQ G top L res.1 (some (.int (zO res.2))) (InR res.2)) args s 0 0 (zA G)) (F0 m 0 ls []) := by
  unfold Mo_good at h
  refine u_al_n (x := a0) E (Mo_good_dc.at 0 rfl) hl rfl ?_
  refine r_iconst E (Mo_good_dc.at 1 rfl) ?_
  obtain ⟨g1, h⟩ := ite_e h
  obtain ⟨M2, eM2, h⟩ := lt1_e h
  refine u_pI E eM2 zf_12_0 S g1 (show InR 0 by decide) (Or.inl rfl) rfl zw_6_207 (Mo_good_dc.at 2 rfl) (fun H locs S3 => ?_)
  refine u_al_n (x := a0) E (Mo_good_dc.at 3 rfl) hl rfl ?_
  refine u_il_n (x := a1) E (Mo_good_dc.at 4 rfl) hl rfl ?_
  obtain ⟨r4, er4, h⟩ := bd1_e h
  refine u_cVI (As := [.int (zO a1)]) (rest := []) E S3 zcw_yX12_isGift zw_8_77 zq_5_12 zw_8_75 zck_12.1 rfl g1 (Mo_isGift_c l G fu top L M2 a0 a1 ha0 ha1 er4) (zrm_ok (by decide) (by decide)) ⟨Nat.le_refl 0, Nat.le_refl 0⟩ rfl (Nat.zero_le 8) hl.size rfl (Mo_good_dc.at 5 rfl) (fun H locs hr4 S5 => ?_)
  refine r_if_eq (tgt := 29) E (inR_01 hr4) (Mo_good_dc.at 6 rfl) (by decide) (fun q => ?_) (fun q => ?_)
  · have h := ite_t h q
    refine r_iconst E (Mo_good_dc.at 15 rfl) ?_
    cases h
    exact r_iret E S5 (show InR (-1) by decide) (Mo_good_dc.at 16 rfl)
  · have h := ite_f h q
    refine u_al_n (x := a0) E (Mo_good_dc.at 7 rfl) hl rfl ?_
    refine u_il_n (x := a1) E (Mo_good_dc.at 8 rfl) hl rfl ?_
    obtain ⟨M7, r6, er6, h⟩ := bd2_e h
    refine u_cVI (As := [.int (zO a1)]) (rest := []) E S5 zcw_yX12_isGoodGift zw_9_71 zq_7_11 zw_9_69 zck_12.1 rfl g1 (Mo_isGoodGift_c l G fu top L M2 a0 a1 ha0 ha1 er6) (zrm_ok (by decide) (by decide)) ⟨Nat.le_refl 0, Nat.le_refl 0⟩ rfl (Nat.zero_le 8) hl.size rfl (Mo_good_dc.at 9 rfl) (fun H locs hr6 S8 => ?_)
    refine r_if_eq (tgt := 25) E (inR_01 hr6) (Mo_good_dc.at 10 rfl) (by decide) (fun q => ?_) (fun q => ?_)
    · have h := ite_t h q
      refine r_iconst E (Mo_good_dc.at 13 rfl) ?_
      refine r_goto (tgt := 30) E (Mo_good_dc.at 14 rfl) (by decide) ?_
      cases h
      exact r_iret E S8 (show InR 0 by decide) (Mo_good_dc.at 16 rfl)
    · have h := ite_f h q
      refine r_iconst E (Mo_good_dc.at 11 rfl) ?_
      refine r_goto (tgt := 30) E (Mo_good_dc.at 12 rfl) (by decide) ?_
      cases h
      exact r_iret E S8 (show InR 1 by decide) (Mo_good_dc.at 16 rfl)
theorem Mo_good_c (l : Launch) (G : zG) (fu : Nat) (top : Int) (L : zL) (M : zM) (a0 : Int) (a1 : Int) {res : (zM × Int)} (ha0 : InR a0) (ha1 : InR a1) (h : Mo_good fu L M a0 a1 = some res) : Met l yX12_good (Cond.code yX12_good cX12_good 2 (some .int) :: zTB) (zrm 49 0 0) (va_Pc [zR G.2.2.1 a0, .int (zO a1)] (zPre G top L M)) (zQ G top L res.1 (some (.int (zO res.2))) (InR res.2)) 0 0 (zA G) :=
  z_met (by decide +kernel) (by simp [zR_cat, zcat_I, zcat_S]) (Nat.le_of_ble_eq_true rfl) fun p e s m below meth c ls E hn S hl => Mo_good_w E ha0 ha1 S (hl.sub (And.intro rfl (And.intro rfl True.intro))) h
end
theorem Mo_isAsked_dc : zDL cX12_isAsked [(0, .aload_n 0, 1, 1), (1, .iload_n 1, 1, 2), (2, .invokevirtual 282, 3, 5), (5, .ifCond .eq 35, 3, 8), (8, .iload_n 2, 1, 9), (9, .i2l, 1, 10), (10, .lconst 0, 1, 11), (11, .ldc2_w 236, 3, 14), (14, .invokestatic 76, 3, 17), (17, .ifCond .eq 23, 3, 20), (20, .iload_n 3, 1, 21), (21, .i2l, 1, 22), (22, .lconst 0, 1, 23), (23, .aload_n 0, 1, 24), (24, .getfield 251, 3, 27), (27, .iconst 1, 1, 28), (28, .isub, 1, 29), (29, .i2l, 1, 30), (30, .invokestatic 76, 3, 33), (33, .ifCond .eq 7, 3, 36), (36, .iconst 1, 1, 37), (37, .goto 4, 3, 40), (40, .iconst 0, 1, 41), (41, .ireturn, 1, 42)] := zDL.of (by decide +kernel)
section
variable {p : Program} {l : Launch} {e : Env} {s : State} {m : MethodId} {args : Array Value} {below : List Frame} {meth : Method} {c : Code} {G : zG} {top : Int} {L : zL} {fu : Nat}
theorem Mo_isAsked_w (E : zEv p m c cX12_isAsked 4 s args RX12 meth (some .boolean) G) {res : Int} {M : zM} {a0 : Int} {a1 : Int} {a2 : Int} {a3 : Int} {H : Heap} {locs : List Loc} {ls : Array Slot} (ha0 : InR a0) (ha1 : InR a1) (ha2 : InR a2) (ha3 : InR a3) (S : zS G top L M s H locs) (hl : zLV ls 4 [some (zR G.2.2.1 a0), some (.int (zO a1)), some (.int (zO a2)), some (.int (zO a3))]) (h : Mo_isAsked fu L M a0 a1 a2 a3 = some res) : W p l e (zrm 3 0 0) s m args below meth c H locs 0 0 (MQ below (zQ G top L M (some (.int (zO res))) (0 ≤ res ∧ res ≤ 1)) args s 0 0 (zA G)) (F0 m 0 ls []) := by
  unfold Mo_isAsked at h
  refine u_al_n (x := a0) E (Mo_isAsked_dc.at 0 rfl) hl rfl ?_
  refine u_il_n (x := a1) E (Mo_isAsked_dc.at 1 rfl) hl rfl ?_
  obtain ⟨g1, h⟩ := ite_e h
  obtain ⟨r2, er2, h⟩ := bd1_e h
  refine u_cVI (As := [.int (zO a1)]) (rest := []) E S zcw_yX12_isGift zw_8_77 zq_5_12 zw_8_75 zck_12.1 rfl g1 (Mo_isGift_c l G fu top L M a0 a1 ha0 ha1 er2) (zrm_ok (by decide) (by decide)) ⟨Nat.le_refl 0, Nat.le_refl 0⟩ rfl (Nat.zero_le 8) hl.size rfl (Mo_isAsked_dc.at 2 rfl) (fun H locs hr2 S3 => ?_)
  refine r_if_eq (tgt := 40) E (inR_01 hr2) (Mo_isAsked_dc.at 3 rfl) (by decide) (fun q => ?_) (fun q => ?_)
  · have h := ite_t h q
    refine r_iconst E (Mo_isAsked_dc.at 22 rfl) ?_
    cases h
    exact r_zret E S3 z01_0 z01_0 (Mo_isAsked_dc.at 23 rfl)
  · have h := ite_f h q
    refine u_il_n (x := a2) E (Mo_isAsked_dc.at 4 rfl) hl rfl ?_
    refine r_i2l E ha2 (Mo_isAsked_dc.at 5 rfl) ?_
    refine r_lconst (x := 0) E (Mo_isAsked_dc.at 6 rfl) rfl ?_
    refine r_ldc2 (x := 2) E (Mo_isAsked_dc.at 7 rfl) zw_7_140 rfl ?_
    obtain ⟨r4, er4, h⟩ := bd1_e h
    refine u_cSI (As := [.long (Int64.ofInt a2), .long (Int64.ofInt 0), .long (Int64.ofInt 2)]) (rest := []) E S3 zcw_yX12_in zw_7_134 zw_7_133 (Mo_in_c l G fu top L M a2 0 2 ha2 (show InR 0 by decide) (show InR 2 by decide) er4) (zrm_ok (by decide) (by decide)) ⟨Nat.le_refl 0, Nat.le_refl 0⟩ rfl (Nat.zero_le 8) hl.size rfl (Mo_isAsked_dc.at 8 rfl) (fun H locs hr4 S5 => ?_)
    refine r_if_eq (tgt := 40) E (inR_01 hr4) (Mo_isAsked_dc.at 9 rfl) (by decide) (fun q => ?_) (fun q => ?_)
    · have h := ite_t h q
      refine r_iconst E (Mo_isAsked_dc.at 22 rfl) ?_
      cases h
      exact r_zret E S5 z01_0 z01_0 (Mo_isAsked_dc.at 23 rfl)
    · have h := ite_f h q
      refine u_il_n (x := a3) E (Mo_isAsked_dc.at 10 rfl) hl rfl ?_
      refine r_i2l E ha3 (Mo_isAsked_dc.at 11 rfl) ?_
      refine r_lconst (x := 0) E (Mo_isAsked_dc.at 12 rfl) rfl ?_
      refine u_al_n (x := a0) E (Mo_isAsked_dc.at 13 rfl) hl rfl ?_
      refine u_gI E zf_12_20 S5 g1 zw_6_227 (Mo_isAsked_dc.at 14 rfl) ?_
      refine r_iconst E (Mo_isAsked_dc.at 15 rfl) ?_
      refine r_isub E (Mo_isAsked_dc.at 16 rfl) ?_
      refine r_i2l E (inR_w32 _) (Mo_isAsked_dc.at 17 rfl) ?_
      obtain ⟨r6, er6, h⟩ := bd1_e h
      refine u_cSI (As := [.long (Int64.ofInt a3), .long (Int64.ofInt 0), .long (Int64.ofInt (w32 ((M a0 20) - 1)))]) (rest := []) E S5 zcw_yX12_in zw_7_134 zw_7_133 (Mo_in_c l G fu top L M a3 0 (w32 ((M a0 20) - 1)) ha3 (show InR 0 by decide) (inR_w32 _) er6) (zrm_ok (by decide) (by decide)) ⟨Nat.le_refl 0, Nat.le_refl 0⟩ rfl (Nat.zero_le 8) hl.size rfl (Mo_isAsked_dc.at 18 rfl) (fun H locs hr6 S7 => ?_)
      refine r_if_eq (tgt := 40) E (inR_01 hr6) (Mo_isAsked_dc.at 19 rfl) (by decide) (fun q => ?_) (fun q => ?_)
      · have h := ite_t h q
        refine r_iconst E (Mo_isAsked_dc.at 22 rfl) ?_
        cases h
        exact r_zret E S7 z01_0 z01_0 (Mo_isAsked_dc.at 23 rfl)
      · have h := ite_f h q
        refine r_iconst E (Mo_isAsked_dc.at 20 rfl) ?_
        refine r_goto (tgt := 41) E (Mo_isAsked_dc.at 21 rfl) (by decide) ?_
        cases h
        exact r_zret E S7 z01_1 z01_1 (Mo_isAsked_dc.at 23 rfl)
theorem Mo_isAsked_c (l : Launch) (G : zG) (fu : Nat) (top : Int) (L : zL) (M : zM) (a0 : Int) (a1 : Int) (a2 : Int) (a3 : Int) {res : Int} (ha0 : InR a0) (ha1 : InR a1) (ha2 : InR a2) (ha3 : InR a3) (h : Mo_isAsked fu L M a0 a1 a2 a3 = some res) : Met l yX12_isAsked (Cond.code yX12_isAsked cX12_isAsked 4 (some .boolean) :: zTB) (zrm 3 0 0) (va_Pc [zR G.2.2.1 a0, .int (zO a1), .int (zO a2), .int (zO a3)] (zPre G top L M)) (zQ G top L M (some (.int (zO res))) (0 ≤ res ∧ res ≤ 1)) 0 0 (zA G) :=
  z_met (by decide +kernel) (by simp [zR_cat, zcat_I, zcat_S]) (Nat.le_of_ble_eq_true rfl) fun p e s m below meth c ls E hn S hl => Mo_isAsked_w E ha0 ha1 ha2 ha3 S (hl.sub (And.intro rfl (And.intro rfl (And.intro rfl (And.intro rfl True.intro))))) h
end
theorem Mo_isThereNow_dc : zDL cX12_isThereNow [(0, .aload_n 0, 1, 1), (1, .iload_n 1, 1, 2), (2, .invokevirtual 521, 3, 5), (5, .aload_n 0, 1, 6), (6, .iload_n 1, 1, 7), (7, .iload_n 2, 1, 8), (8, .iload_n 3, 1, 9), (9, .iconst 1, 1, 10), (10, .invokevirtual 514, 3, 13), (13, .ireturn, 1, 14)] := zDL.of (by decide +kernel)
section
variable {p : Program} {l : Launch} {e : Env} {s : State} {m : MethodId} {args : Array Value} {below : List Frame} {meth : Method} {c : Code} {G : zG} {top : Int} {L : zL} {fu : Nat}
theorem Mo_isThereNow_w (E : zEv p m c cX12_isThereNow 4 s args RX12 meth (some .boolean) G) {res : (zM × Int)} {M : zM} {a0 : Int} {a1 : Int} {a2 : Int} {a3 : Int} {H : Heap} {locs : List Loc} {ls : Array Slot} (ha0 : InR a0) (ha1 : InR a1) (ha2 : InR a2) (ha3 : InR a3) (S : zS G top L M s H locs) (hl : zLV ls 4 [some (zR G.2.2.1 a0), some (.int (zO a1)), some (.int (zO a2)), some (.int (zO a3))]) (h : Mo_isThereNow fu L M a0 a1 a2 a3 = some res) : W p l e (zrm 5 0 0) s m args below meth c H locs 0 0 (MQ below (zQ G top L res.1 (some (.int (zO res.2))) (0 ≤ res.2 ∧ res.2 ≤ 1)) args s 0 0 (zA G)) (F0 m 0 ls []) := by
  unfold Mo_isThereNow at h
  refine u_al_n (x := a0) E (Mo_isThereNow_dc.at 0 rfl) hl rfl ?_
  refine u_il_n (x := a1) E (Mo_isThereNow_dc.at 1 rfl) hl rfl ?_
  obtain ⟨g1, h⟩ := ite_e h
  obtain ⟨M2, eM2, h⟩ := bd1_e h
  refine u_cVU (As := [.int (zO a1)]) (rest := []) E S zcw_yX12_asksAll zw_9_75 zq_7_12 zw_9_73 zck_12.1 rfl g1 (Mo_asksAll_c l G fu top L M a0 a1 ha0 ha1 eM2) (zrm_ok (by decide) (by decide)) ⟨Nat.le_refl 0, Nat.le_refl 0⟩ rfl (Nat.zero_le 8) hl.size rfl (Mo_isThereNow_dc.at 2 rfl) (fun H locs _ S3 => ?_)
  refine u_al_n (x := a0) E (Mo_isThereNow_dc.at 3 rfl) hl rfl ?_
  refine u_il_n (x := a1) E (Mo_isThereNow_dc.at 4 rfl) hl rfl ?_
  refine u_il_n (x := a2) E (Mo_isThereNow_dc.at 5 rfl) hl rfl ?_
  refine u_il_n (x := a3) E (Mo_isThereNow_dc.at 6 rfl) hl rfl ?_
  refine r_iconst E (Mo_isThereNow_dc.at 7 rfl) ?_
  obtain ⟨r4, er4, h⟩ := bd1_e h
  refine u_cVI (As := [.int (zO a1), .int (zO a2), .int (zO a3), .int (zO 1)]) (rest := []) E S3 zcw_yX12_isThere zw_9_99 zq_8_2 zw_9_97 zck_12.1 rfl g1 (Mo_isThere_c l G fu top L M2 a0 a1 a2 a3 1 ha0 ha1 ha2 ha3 (show InR 1 by decide) er4) (zrm_ok (by decide) (by decide)) ⟨Nat.le_refl 0, Nat.le_refl 0⟩ rfl (Nat.zero_le 8) hl.size rfl (Mo_isThereNow_dc.at 8 rfl) (fun H locs hr4 S5 => ?_)
  cases h
  exact r_zret E S5 hr4 hr4 (Mo_isThereNow_dc.at 9 rfl)
theorem Mo_isThereNow_c (l : Launch) (G : zG) (fu : Nat) (top : Int) (L : zL) (M : zM) (a0 : Int) (a1 : Int) (a2 : Int) (a3 : Int) {res : (zM × Int)} (ha0 : InR a0) (ha1 : InR a1) (ha2 : InR a2) (ha3 : InR a3) (h : Mo_isThereNow fu L M a0 a1 a2 a3 = some res) : Met l yX12_isThereNow (Cond.code yX12_isThereNow cX12_isThereNow 4 (some .boolean) :: zTB) (zrm 5 0 0) (va_Pc [zR G.2.2.1 a0, .int (zO a1), .int (zO a2), .int (zO a3)] (zPre G top L M)) (zQ G top L res.1 (some (.int (zO res.2))) (0 ≤ res.2 ∧ res.2 ≤ 1)) 0 0 (zA G) :=
  z_met (by decide +kernel) (by simp [zR_cat, zcat_I, zcat_S]) (Nat.le_of_ble_eq_true rfl) fun p e s m below meth c ls E hn S hl => Mo_isThereNow_w E ha0 ha1 ha2 ha3 S (hl.sub (And.intro rfl (And.intro rfl (And.intro rfl (And.intro rfl True.intro))))) h
end
theorem Mo_behind_dc : zDL cX12_behind [(0, .aload_n 0, 1, 1), (1, .iconst 0, 1, 2), (2, .putfield 66, 3, 5), (5, .aload_n 0, 1, 6), (6, .iload_n 1, 1, 7), (7, .iload_n 2, 1, 8), (8, .iload_n 3, 1, 9), (9, .invokevirtual 533, 3, 12), (12, .ifCond .eq 18, 3, 15), (15, .iload 4, 2, 17), (17, .i2l, 1, 18), (18, .lconst 0, 1, 19), (19, .aload_n 0, 1, 20), (20, .invokevirtual 524, 3, 23), (23, .i2l, 1, 24), (24, .invokestatic 76, 3, 27), (27, .ifCond .ne 7, 3, 30), (30, .ldc_w 318, 3, 33), (33, .ireturn, 1, 34), (34, .aload_n 0, 1, 35), (35, .iload_n 1, 1, 36), (36, .iload_n 2, 1, 37), (37, .iload_n 3, 1, 38), (38, .invokevirtual 537, 3, 41), (41, .ifCond .ne 6, 3, 44), (44, .bipush (-2), 2, 46), (46, .ireturn, 1, 47), (47, .aload_n 0, 1, 48), (48, .invokevirtual 505, 3, 51), (51, .aload_n 0, 1, 52), (52, .iload_n 2, 1, 53), (53, .iload_n 3, 1, 54), (54, .iload 4, 2, 56), (56, .invokevirtual 518, 3, 59), (59, .istore 5, 2, 61), (61, .iload 5, 2, 63), (63, .ldc_w 389, 3, 66), (66, .if_icmp .lt 7, 3, 69), (69, .iconst (-1), 1, 70), (70, .goto 5, 3, 73), (73, .iload 5, 2, 75), (75, .ireturn, 1, 76)] := zDL.of (by decide +kernel)
section
variable {p : Program} {l : Launch} {e : Env} {s : State} {m : MethodId} {args : Array Value} {below : List Frame} {meth : Method} {c : Code} {G : zG} {top : Int} {L : zL} {fu : Nat}
theorem Mo_behind_w (E : zEv p m c cX12_behind 6 s args RX12 meth (some .int) G) {res : (zM × Int)} {M : zM} {a0 : Int} {a1 : Int} {a2 : Int} {a3 : Int} {a4 : Int} {H : Heap} {locs : List Loc} {ls : Array Slot} (ha0 : InR a0) (ha1 : InR a1) (ha2 : InR a2) (ha3 : InR a3) (ha4 : InR a4) (S : zS G top L M s H locs) (hl : zLV ls 6 [some (zR G.2.2.1 a0), some (.int (zO a1)), some (.int (zO a2)), some (.int (zO a3)), some (.int (zO a4)), none]) (h : Mo_behind fu L M a0 a1 a2 a3 a4 = some res) : W p l e (zrm 46 0 0) s m args below meth c H locs 0 0 (MQ below (zQ G top L res.1 (some (.int (zO res.2))) (InR res.2)) args s 0 0 (zA G)) (F0 m 0 ls []) := by
  unfold Mo_behind at h
  refine u_al_n (x := a0) E (Mo_behind_dc.at 0 rfl) hl rfl ?_
  refine r_iconst E (Mo_behind_dc.at 1 rfl) ?_
  obtain ⟨g1, h⟩ := ite_e h
  obtain ⟨M2, eM2, h⟩ := lt1_e h
  refine u_pI E eM2 zf_12_0 S g1 (show InR 0 by decide) (Or.inl rfl) rfl zw_6_207 (Mo_behind_dc.at 2 rfl) (fun H locs S3 => ?_)
  refine u_al_n (x := a0) E (Mo_behind_dc.at 3 rfl) hl rfl ?_
  refine u_il_n (x := a1) E (Mo_behind_dc.at 4 rfl) hl rfl ?_
  refine u_il_n (x := a2) E (Mo_behind_dc.at 5 rfl) hl rfl ?_
  refine u_il_n (x := a3) E (Mo_behind_dc.at 6 rfl) hl rfl ?_
  obtain ⟨r4, er4, h⟩ := bd1_e h
  refine u_cVI (As := [.int (zO a1), .int (zO a2), .int (zO a3)]) (rest := []) E S3 zcw_yX12_isAsked zw_9_145 zq_8_11 zw_9_143 zck_12.1 rfl g1 (Mo_isAsked_c l G fu top L M2 a0 a1 a2 a3 ha0 ha1 ha2 ha3 er4) (zrm_ok (by decide) (by decide)) ⟨Nat.le_refl 0, Nat.le_refl 0⟩ rfl (Nat.zero_le 8) hl.size rfl (Mo_behind_dc.at 7 rfl) (fun H locs hr4 S5 => ?_)
  refine r_if_eq (tgt := 30) E (inR_01 hr4) (Mo_behind_dc.at 8 rfl) (by decide) (fun q => ?_) (fun q => ?_)
  · have h := ite_t h q
    refine r_ldcw (n := (-1000000)) E (Mo_behind_dc.at 17 rfl) zw_8_134 rfl ?_
    cases h
    exact r_iret E S5 (show InR (-1000000) by decide) (Mo_behind_dc.at 18 rfl)
  · have h := ite_f h q
    refine u_il (x := a4) E (Mo_behind_dc.at 9 rfl) hl rfl ?_
    refine r_i2l E ha4 (Mo_behind_dc.at 10 rfl) ?_
    refine r_lconst (x := 0) E (Mo_behind_dc.at 11 rfl) rfl ?_
    refine u_al_n (x := a0) E (Mo_behind_dc.at 12 rfl) hl rfl ?_
    obtain ⟨r6, er6, h⟩ := bd1_e h
    refine u_cVI (As := []) (rest := [.long (Int64.ofInt 0), .long (Int64.ofInt a4)]) E S5 zcw_yX12_allLives zw_9_79 zq_7_13 zw_9_77 zck_12.1 rfl g1 (Mo_allLives_c l G fu top L M2 a0 ha0 er6) (zrm_ok (by decide) (by decide)) ⟨Nat.le_refl 0, Nat.le_refl 0⟩ rfl (by simp only [List.map_cons, List.map_nil, List.sum_cons, List.sum_nil, zR_cat, zcat_I, zcat_J, zcat_S] <;> decide) hl.size rfl (Mo_behind_dc.at 13 rfl) (fun H locs hr6 S7 => ?_)
    refine r_i2l E hr6 (Mo_behind_dc.at 14 rfl) ?_
    obtain ⟨r8, er8, h⟩ := bd1_e h
    refine u_cSI (As := [.long (Int64.ofInt a4), .long (Int64.ofInt 0), .long (Int64.ofInt r6)]) (rest := []) E S7 zcw_yX12_in zw_7_134 zw_7_133 (Mo_in_c l G fu top L M2 a4 0 r6 ha4 (show InR 0 by decide) hr6 er8) (zrm_ok (by decide) (by decide)) ⟨Nat.le_refl 0, Nat.le_refl 0⟩ rfl (Nat.zero_le 8) hl.size rfl (Mo_behind_dc.at 15 rfl) (fun H locs hr8 S9 => ?_)
    refine r_if_ne (tgt := 34) E (inR_01 hr8) (Mo_behind_dc.at 16 rfl) (by decide) (fun q => ?_) (fun q => ?_)
    · have h := ite_t h q
      refine r_ldcw (n := (-1000000)) E (Mo_behind_dc.at 17 rfl) zw_8_134 rfl ?_
      cases h
      exact r_iret E S9 (show InR (-1000000) by decide) (Mo_behind_dc.at 18 rfl)
    · have h := ite_f h q
      refine u_al_n (x := a0) E (Mo_behind_dc.at 19 rfl) hl rfl ?_
      refine u_il_n (x := a1) E (Mo_behind_dc.at 20 rfl) hl rfl ?_
      refine u_il_n (x := a2) E (Mo_behind_dc.at 21 rfl) hl rfl ?_
      refine u_il_n (x := a3) E (Mo_behind_dc.at 22 rfl) hl rfl ?_
      obtain ⟨M11, r10, er10, h⟩ := bd2_e h
      refine u_cVI (As := [.int (zO a1), .int (zO a2), .int (zO a3)]) (rest := []) E S9 zcw_yX12_isThereNow zw_9_149 zq_8_12 zw_9_147 zck_12.1 rfl g1 (Mo_isThereNow_c l G fu top L M2 a0 a1 a2 a3 ha0 ha1 ha2 ha3 er10) (zrm_ok (by decide) (by decide)) ⟨Nat.le_refl 0, Nat.le_refl 0⟩ rfl (Nat.zero_le 8) hl.size rfl (Mo_behind_dc.at 23 rfl) (fun H locs hr10 S12 => ?_)
      refine r_if_ne (tgt := 47) E (inR_01 hr10) (Mo_behind_dc.at 24 rfl) (by decide) (fun q => ?_) (fun q => ?_)
      · have h := ite_t h q
        refine r_bipush E (Mo_behind_dc.at 25 rfl) rfl ?_
        cases h
        exact r_iret E S12 (show InR (-2) by decide) (Mo_behind_dc.at 26 rfl)
      · have h := ite_f h q
        refine u_al_n (x := a0) E (Mo_behind_dc.at 27 rfl) hl rfl ?_
        obtain ⟨M13, eM13, h⟩ := bd1_e h
        refine u_cVU (As := []) (rest := []) E S12 zcw_yX12_begin zw_9_95 zq_8_1 zw_9_93 zck_12.1 rfl g1 (Mo_begin_c l G fu top L M11 a0 ha0 eM13) (zrm_ok (by decide) (by decide)) ⟨Nat.le_refl 0, Nat.le_refl 0⟩ rfl (Nat.zero_le 8) hl.size rfl (Mo_behind_dc.at 28 rfl) (fun H locs _ S14 => ?_)
        refine u_al_n (x := a0) E (Mo_behind_dc.at 29 rfl) hl rfl ?_
        refine u_il_n (x := a2) E (Mo_behind_dc.at 30 rfl) hl rfl ?_
        refine u_il_n (x := a3) E (Mo_behind_dc.at 31 rfl) hl rfl ?_
        refine u_il (x := a4) E (Mo_behind_dc.at 32 rfl) hl rfl ?_
        obtain ⟨M16, r15, er15, h⟩ := bd2_e h
        refine u_cVI (As := [.int (zO a2), .int (zO a3), .int (zO a4)]) (rest := []) E S14 zcw_yX12_behindSo zw_9_107 zq_8_4 zw_9_105 zck_12.1 rfl g1 (Mo_behindSo_c l G fu top L M13 a0 a2 a3 a4 ha0 ha2 ha3 ha4 er15) (zrm_ok (by decide) (by decide)) ⟨Nat.le_refl 0, Nat.le_refl 0⟩ rfl (Nat.zero_le 8) hl.size rfl (Mo_behind_dc.at 33 rfl) (fun H locs hr15 S17 => ?_)
        refine u_ist (y := r15) (vs' := [some (zR G.2.2.1 a0), some (.int (zO a1)), some (.int (zO a2)), some (.int (zO a3)), some (.int (zO a4)), some (.int (zO r15))]) E rfl (Mo_behind_dc.at 34 rfl) hl (by decide) rfl (fun ls hl => ?_)
        refine u_il (x := r15) E (Mo_behind_dc.at 35 rfl) hl rfl ?_
        refine r_ldcw (n := 1048576) E (Mo_behind_dc.at 36 rfl) zw_8_202 rfl ?_
        refine r_icmp_lt (tgt := 73) E hr15 (show InR 1048576 by decide) (Mo_behind_dc.at 37 rfl) (by decide) (fun q => ?_) (fun q => ?_)
        · have h := ite_t h q
          refine u_il (x := r15) E (Mo_behind_dc.at 40 rfl) hl rfl ?_
          cases h
          exact r_iret E S17 hr15 (Mo_behind_dc.at 41 rfl)
        · have h := ite_f h q
          refine r_iconst E (Mo_behind_dc.at 38 rfl) ?_
          refine r_goto (tgt := 75) E (Mo_behind_dc.at 39 rfl) (by decide) ?_
          cases h
          exact r_iret E S17 (show InR (-1) by decide) (Mo_behind_dc.at 41 rfl)
theorem Mo_behind_c (l : Launch) (G : zG) (fu : Nat) (top : Int) (L : zL) (M : zM) (a0 : Int) (a1 : Int) (a2 : Int) (a3 : Int) (a4 : Int) {res : (zM × Int)} (ha0 : InR a0) (ha1 : InR a1) (ha2 : InR a2) (ha3 : InR a3) (ha4 : InR a4) (h : Mo_behind fu L M a0 a1 a2 a3 a4 = some res) : Met l yX12_behind (Cond.code yX12_behind cX12_behind 6 (some .int) :: zTB) (zrm 46 0 0) (va_Pc [zR G.2.2.1 a0, .int (zO a1), .int (zO a2), .int (zO a3), .int (zO a4)] (zPre G top L M)) (zQ G top L res.1 (some (.int (zO res.2))) (InR res.2)) 0 0 (zA G) :=
  z_met (by decide +kernel) (by simp [zR_cat, zcat_I, zcat_S]) (Nat.le_of_ble_eq_true rfl) fun p e s m below meth c ls E hn S hl => Mo_behind_w E ha0 ha1 ha2 ha3 ha4 S (hl.sub (And.intro rfl (And.intro rfl (And.intro rfl (And.intro rfl (And.intro rfl True.intro)))))) h
end
theorem Mo_soonBorn_dc : zDL cX12_soonBorn [(0, .aload_n 0, 1, 1), (1, .getfield 455, 3, 4), (4, .ifCond .ne 7, 3, 7), (7, .iconst 0, 1, 8), (8, .goto 17, 3, 11), (11, .aload_n 0, 1, 12), (12, .getfield 455, 3, 15), (15, .iconst 1, 1, 16), (16, .if_icmp .ne 7, 3, 19), (19, .iconst 1, 1, 20), (20, .goto 5, 3, 23), (23, .bipush 14, 2, 25), (25, .ireturn, 1, 26)] := zDL.of (by decide +kernel)
section
variable {p : Program} {l : Launch} {e : Env} {s : State} {m : MethodId} {args : Array Value} {below : List Frame} {meth : Method} {c : Code} {G : zG} {top : Int} {L : zL} {fu : Nat}
theorem Mo_soonBorn_w (E : zEv p m c cX12_soonBorn 1 s args RX12 meth (some .int) G) {res : Int} {M : zM} {a0 : Int} {H : Heap} {locs : List Loc} {ls : Array Slot} (ha0 : InR a0) (S : zS G top L M s H locs) (hl : zLV ls 1 [some (zR G.2.2.1 a0)]) (h : Mo_soonBorn fu L M a0 = some res) : W p l e (zrm 1 0 0) s m args below meth c H locs 0 0 (MQ below (zQ G top L M (some (.int (zO res))) (InR res)) args s 0 0 (zA G)) (F0 m 0 ls []) := by
  unfold Mo_soonBorn at h
  refine u_al_n (x := a0) E (Mo_soonBorn_dc.at 0 rfl) hl rfl ?_
  obtain ⟨g1, h⟩ := ite_e h
  refine u_gI E zf_12_40 S g1 zw_7_7 (Mo_soonBorn_dc.at 1 rfl) ?_
  refine r_if_ne (tgt := 11) E (S.1.inR _ _) (Mo_soonBorn_dc.at 2 rfl) (by decide) (fun q => ?_) (fun q => ?_)
  · have h := ite_t h q
    refine r_iconst E (Mo_soonBorn_dc.at 3 rfl) ?_
    refine r_goto (tgt := 25) E (Mo_soonBorn_dc.at 4 rfl) (by decide) ?_
    cases h
    exact r_iret E S (show InR 0 by decide) (Mo_soonBorn_dc.at 12 rfl)
  · have h := ite_f h q
    refine u_al_n (x := a0) E (Mo_soonBorn_dc.at 5 rfl) hl rfl ?_
    refine u_gI E zf_12_40 S g1 zw_7_7 (Mo_soonBorn_dc.at 6 rfl) ?_
    refine r_iconst E (Mo_soonBorn_dc.at 7 rfl) ?_
    refine r_icmp_ne (tgt := 23) E (S.1.inR _ _) (show InR 1 by decide) (Mo_soonBorn_dc.at 8 rfl) (by decide) (fun q => ?_) (fun q => ?_)
    · have h := ite_t h q
      refine r_iconst E (Mo_soonBorn_dc.at 9 rfl) ?_
      refine r_goto (tgt := 25) E (Mo_soonBorn_dc.at 10 rfl) (by decide) ?_
      cases h
      exact r_iret E S (show InR 1 by decide) (Mo_soonBorn_dc.at 12 rfl)
    · have h := ite_f h q
      refine r_bipush E (Mo_soonBorn_dc.at 11 rfl) rfl ?_
      cases h
      exact r_iret E S (show InR 14 by decide) (Mo_soonBorn_dc.at 12 rfl)
theorem Mo_soonBorn_c (l : Launch) (G : zG) (fu : Nat) (top : Int) (L : zL) (M : zM) (a0 : Int) {res : Int} (ha0 : InR a0) (h : Mo_soonBorn fu L M a0 = some res) : Met l yX12_soonBorn (Cond.code yX12_soonBorn cX12_soonBorn 1 (some .int) :: zTB) (zrm 1 0 0) (va_Pc [zR G.2.2.1 a0] (zPre G top L M)) (zQ G top L M (some (.int (zO res))) (InR res)) 0 0 (zA G) :=
  z_met (by decide +kernel) (by simp [zR_cat, zcat_I, zcat_S]) (Nat.le_of_ble_eq_true rfl) fun p e s m below meth c ls E hn S hl => Mo_soonBorn_w E ha0 S (hl.sub (And.intro rfl True.intro)) h
end
theorem Mo_soonAll_dc : zDL cX12_soonAll [(0, .aload_n 0, 1, 1), (1, .invokevirtual 549, 3, 4), (4, .istore_n 1, 1, 5), (5, .aload_n 0, 1, 6), (6, .bipush 9, 2, 8), (8, .invokevirtual 405, 3, 11), (11, .ifCond .eq 15, 3, 14), (14, .iload_n 1, 1, 15), (15, .aload_n 0, 1, 16), (16, .invokevirtual 549, 3, 19), (19, .invokestatic 104, 3, 22), (22, .istore_n 1, 1, 23), (23, .goto (-18), 3, 26), (26, .iload_n 1, 1, 27), (27, .ireturn, 1, 28)] := zDL.of (by decide +kernel)
theorem Mo_soonFact_dc : zDL cX12_soonFact [(0, .aload_n 0, 1, 1), (1, .getfield 31, 3, 4), (4, .aload_n 0, 1, 5), (5, .getfield 376, 3, 8), (8, .iaload, 1, 9), (9, .istore_n 1, 1, 10), (10, .iload_n 1, 1, 11), (11, .bipush 100, 2, 13), (13, .idiv, 1, 14), (14, .bipush 100, 2, 16), (16, .irem, 1, 17), (17, .istore_n 2, 1, 18), (18, .iload_n 1, 1, 19), (19, .sipush 10000, 3, 22), (22, .idiv, 1, 23), (23, .istore_n 3, 1, 24), (24, .aload_n 0, 1, 25), (25, .dup, 1, 26), (26, .getfield 376, 3, 29), (29, .iconst 1, 1, 30), (30, .iadd, 1, 31), (31, .putfield 376, 3, 34), (34, .iload_n 1, 1, 35), (35, .bipush 100, 2, 37), (37, .irem, 1, 38), (38, .tableswitch 99 0 5 #[38, 40, 42, 47, 79, 92], 38, 76), (76, .iload_n 3, 1, 77), (77, .ireturn, 1, 78), (78, .iconst 0, 1, 79), (79, .ireturn, 1, 80), (80, .aload_n 0, 1, 81), (81, .invokevirtual 540, 3, 84), (84, .ireturn, 1, 85), (85, .aload_n 0, 1, 86), (86, .getfield 455, 3, 89), (89, .ifCond .ne 21, 3, 92), (92, .iconst 0, 1, 93), (93, .iload_n 3, 1, 94), (94, .aload_n 0, 1, 95), (95, .getfield 37, 3, 98), (98, .aload_n 0, 1, 99), (99, .getfield 461, 3, 102), (102, .iaload, 1, 103), (103, .isub, 1, 104), (104, .invokestatic 305, 3, 107), (107, .goto 9, 3, 110), (110, .aload_n 0, 1, 111), (111, .invokevirtual 540, 3, 114), (114, .iload_n 3, 1, 115), (115, .iadd, 1, 116), (116, .ireturn, 1, 117), (117, .iconst 0, 1, 118), (118, .iload_n 3, 1, 119), (119, .aload_n 0, 1, 120), (120, .getfield 37, 3, 123), (123, .iload_n 2, 1, 124), (124, .iaload, 1, 125), (125, .isub, 1, 126), (126, .invokestatic 305, 3, 129), (129, .ireturn, 1, 130), (130, .iload_n 3, 1, 131), (131, .aload_n 0, 1, 132), (132, .invokevirtual 543, 3, 135), (135, .iadd, 1, 136), (136, .ireturn, 1, 137), (137, .aload_n 0, 1, 138), (138, .invokevirtual 546, 3, 141), (141, .istore 4, 2, 143), (143, .aload_n 0, 1, 144), (144, .dup, 1, 145), (145, .getfield 376, 3, 148), (148, .iconst 1, 1, 149), (149, .iadd, 1, 150), (150, .putfield 376, 3, 153), (153, .iload 4, 2, 155), (155, .ireturn, 1, 156)] := zDL.of (by decide +kernel)
theorem Mo_soonWay_dc : zDL cX12_soonWay [(0, .aload_n 0, 1, 1), (1, .invokevirtual 543, 3, 4), (4, .istore_n 1, 1, 5), (5, .aload_n 0, 1, 6), (6, .bipush 8, 2, 8), (8, .invokevirtual 405, 3, 11), (11, .ifCond .eq 15, 3, 14), (14, .iload_n 1, 1, 15), (15, .aload_n 0, 1, 16), (16, .invokevirtual 543, 3, 19), (19, .invokestatic 305, 3, 22), (22, .istore_n 1, 1, 23), (23, .goto (-18), 3, 26), (26, .iload_n 1, 1, 27), (27, .ireturn, 1, 28)] := zDL.of (by decide +kernel)
def zh_Mo_soonAll (l : Launch) (G : zG) (zd : Nat) (top : Int) (L : zL) (rec : zt_Mo_soonAll) : Prop := (∀ (M : zM) (a0 : Int) {res : (zM × Int)}, InR a0 → rec.1 M a0 = some res → Met l yX12_soonAll (Cond.code yX12_soonAll cX12_soonAll 2 (some .int) :: zTB) (zrm zd 0 0) (va_Pc [zR G.2.2.1 a0] (zPre G top L M)) (zQ G top L res.1 (some (.int (zO res.2))) (InR res.2)) 0 0 (zA G)) ∧ (∀ (M : zM) (a0 : Int) {res : (zM × Int)}, InR a0 → rec.2.1 M a0 = some res → Met l yX12_soonFact (Cond.code yX12_soonFact cX12_soonFact 5 (some .int) :: zTB) (zrm zd 0 0) (va_Pc [zR G.2.2.1 a0] (zPre G top L M)) (zQ G top L res.1 (some (.int (zO res.2))) (InR res.2)) 0 0 (zA G)) ∧ (∀ (M : zM) (a0 : Int) {res : (zM × Int)}, InR a0 → rec.2.2 M a0 = some res → Met l yX12_soonWay (Cond.code yX12_soonWay cX12_soonWay 2 (some .int) :: zTB) (zrm zd 0 0) (va_Pc [zR G.2.2.1 a0] (zPre G top L M)) (zQ G top L res.1 (some (.int (zO res.2))) (InR res.2)) 0 0 (zA G))
section
variable {p : Program} {l : Launch} {e : Env} {s : State} {m : MethodId} {args : Array Value} {below : List Frame} {meth : Method} {c : Code} {G : zG} {top : Int} {L : zL} {fu : Nat} {zd : Nat} {rec : zt_Mo_soonAll}
theorem Mo_soonAll_s5_w (E : zEv p m c cX12_soonAll 2 s args RX12 meth (some .int) G) (HR : zh_Mo_soonAll l G zd top L rec) (hzd : 3 ≤ zd) {res : (zM × Int)} {k5 : zM → Int → Int → Option (zM × Int)} (hk5 : ∀ (M : zM) (x0 : Int) (x1 : Int), InR x0 → InR x1 → ∀ (H : Heap) (locs : List Loc) (ls : Array Slot), zS G top L M s H locs → zLV ls 2 [some (zR G.2.2.1 x0), some (.int (zO x1))] → k5 M x0 x1 = some res → W p l e (zrm (zd + 1) 0 0) s m args below meth c H locs 0 0 (MQ below (zQ G top L res.1 (some (.int (zO res.2))) (InR res.2)) args s 0 0 (zA G)) (F0 m 5 ls [])) {M : zM} {x0 : Int} {x1 : Int} {H : Heap} {locs : List Loc} {ls : Array Slot} (hx0 : InR x0) (hx1 : InR x1) (S : zS G top L M s H locs) (hl : zLV ls 2 [some (zR G.2.2.1 x0), some (.int (zO x1))]) (h : Mo_soonAll_s5 fu rec k5 L M x0 x1 = some res) : W p l e (zrm (zd + 1) 0 0) s m args below meth c H locs 0 0 (MQ below (zQ G top L res.1 (some (.int (zO res.2))) (InR res.2)) args s 0 0 (zA G)) (F0 m 5 ls []) := by
  unfold Mo_soonAll_s5 at h
  refine u_al_n (x := x0) E (Mo_soonAll_dc.at 3 rfl) hl rfl ?_
  refine r_bipush E (Mo_soonAll_dc.at 4 rfl) rfl ?_
  obtain ⟨g5, h⟩ := ite_e h
  obtain ⟨M7, r6, er6, h⟩ := bd2_e h
  refine u_cVI (As := [.int (zO 9)]) (rest := []) E S zcw_yX12_passes zw_8_238 zq_7_3 zw_8_236 zck_12.1 rfl g5 (Mo_passes_c l G fu top L M x0 9 hx0 (show InR 9 by decide) er6) (zrm_ok (by omega) (by decide)) ⟨Nat.le_refl 0, Nat.le_refl 0⟩ rfl (Nat.zero_le 8) hl.size rfl (Mo_soonAll_dc.at 5 rfl) (fun H locs hr6 S8 => ?_)
  refine r_if_eq (tgt := 26) E (inR_01 hr6) (Mo_soonAll_dc.at 6 rfl) (by decide) (fun q => ?_) (fun q => ?_)
  · have h := ite_t h q
    refine u_il_n (x := x1) E (Mo_soonAll_dc.at 13 rfl) hl rfl ?_
    cases h
    exact r_iret E S8 hx1 (Mo_soonAll_dc.at 14 rfl)
  · have h := ite_f h q
    refine u_il_n (x := x1) E (Mo_soonAll_dc.at 7 rfl) hl rfl ?_
    refine u_al_n (x := x0) E (Mo_soonAll_dc.at 8 rfl) hl rfl ?_
    obtain ⟨M10, r9, er9, h⟩ := bd2_e h
    refine u_cVI (As := []) (rest := [.int (zO x1)]) E S8 zcw_yX12_soonWay zw_9_161 zq_8_14 zw_9_159 zck_12.1 rfl g5 (HR.2.2 M7 x0 hx0 er9) (zrm_ok (by omega) (by decide)) ⟨Nat.le_refl 0, Nat.le_refl 0⟩ rfl (by simp [zR_cat, zcat_I, zcat_J, zcat_S]) hl.size rfl (Mo_soonAll_dc.at 9 rfl) (fun H locs hr9 S11 => ?_)
    refine r_min (rest := []) E hx1 hr9 hl.size zw_7_164 zw_4_47 zw_1_17 zw_4_48 (by simp [zrm]) (by simp [zR_cat, zcat_I, zcat_J, zcat_S, zrm]; omega) ⟨Nat.zero_le _, Nat.zero_le _⟩ (Mo_soonAll_dc.at 10 rfl) ?_
    obtain ⟨v12, ev12, h⟩ := lt1_e h
    have hv12 := inR_eq ev12 (inR_min hx1 hr9)
    refine u_ist_n (y := v12) (vs' := [some (zR G.2.2.1 x0), some (.int (zO v12))]) E ev12 (Mo_soonAll_dc.at 11 rfl) hl (by decide) rfl (fun ls hl => ?_)
    refine r_goto (tgt := 5) E (Mo_soonAll_dc.at 12 rfl) (by decide) ?_
    exact hk5 _ x0 v12 hx0 hv12 _ _ _ S11 (hl.sub (And.intro rfl (And.intro rfl True.intro))) h
theorem Mo_soonAll_l5_w (E : zEv p m c cX12_soonAll 2 s args RX12 meth (some .int) G) (HR : zh_Mo_soonAll l G zd top L rec) (hzd : 3 ≤ zd) {res : (zM × Int)} : ∀ (n : Nat) (M : zM) (x0 : Int) (x1 : Int), InR x0 → InR x1 → ∀ (H : Heap) (locs : List Loc) (ls : Array Slot), zS G top L M s H locs → zLV ls 2 [some (zR G.2.2.1 x0), some (.int (zO x1))] → Mo_soonAll_l5 fu rec L n M x0 x1 = some res → W p l e (zrm (zd + 1) 0 0) s m args below meth c H locs 0 0 (MQ below (zQ G top L res.1 (some (.int (zO res.2))) (InR res.2)) args s 0 0 (zA G)) (F0 m 5 ls [])
  | 0, _, _, _ => fun _ _ _ _ _ _ _ h => (by cases h)
  | n + 1, M, x0, x1 => fun hx0 hx1 H locs ls S hl h => Mo_soonAll_s5_w E HR hzd (fun M x0 x1 hx0 hx1 H locs ls S hl h => Mo_soonAll_l5_w E HR hzd n M x0 x1 hx0 hx1 H locs ls S hl h) hx0 hx1 S hl h
theorem Mo_soonAll_w (E : zEv p m c cX12_soonAll 2 s args RX12 meth (some .int) G) (HR : zh_Mo_soonAll l G zd top L rec) (hzd : 3 ≤ zd) {res : (zM × Int)} {M : zM} {a0 : Int} {H : Heap} {locs : List Loc} {ls : Array Slot} (ha0 : InR a0) (S : zS G top L M s H locs) (hl : zLV ls 2 [some (zR G.2.2.1 a0), none]) (h : Mo_soonAll_r fu rec L M a0 = some res) : W p l e (zrm (zd + 1) 0 0) s m args below meth c H locs 0 0 (MQ below (zQ G top L res.1 (some (.int (zO res.2))) (InR res.2)) args s 0 0 (zA G)) (F0 m 0 ls []) := by
  unfold Mo_soonAll_r at h
  refine u_al_n (x := a0) E (Mo_soonAll_dc.at 0 rfl) hl rfl ?_
  obtain ⟨g1, h⟩ := ite_e h
  obtain ⟨M3, r2, er2, h⟩ := bd2_e h
  refine u_cVI (As := []) (rest := []) E S zcw_yX12_soonWay zw_9_161 zq_8_14 zw_9_159 zck_12.1 rfl g1 (HR.2.2 M a0 ha0 er2) (zrm_ok (by omega) (by decide)) ⟨Nat.le_refl 0, Nat.le_refl 0⟩ rfl (Nat.zero_le 8) hl.size rfl (Mo_soonAll_dc.at 1 rfl) (fun H locs hr2 S4 => ?_)
  refine u_ist_n (y := r2) (vs' := [some (zR G.2.2.1 a0), some (.int (zO r2))]) E rfl (Mo_soonAll_dc.at 2 rfl) hl (by decide) rfl (fun ls hl => ?_)
  exact Mo_soonAll_l5_w E HR hzd fu _ a0 r2 ha0 hr2 _ _ _ S4 (hl.sub (And.intro rfl (And.intro rfl True.intro))) h
theorem Mo_soonFact_w (E : zEv p m c cX12_soonFact 5 s args RX12 meth (some .int) G) (HR : zh_Mo_soonAll l G zd top L rec) (hzd : 3 ≤ zd) {res : (zM × Int)} {M : zM} {a0 : Int} {H : Heap} {locs : List Loc} {ls : Array Slot} (ha0 : InR a0) (S : zS G top L M s H locs) (hl : zLV ls 5 [some (zR G.2.2.1 a0), none, none, none, none]) (h : Mo_soonFact_r fu rec L M a0 = some res) : W p l e (zrm (zd + 1) 0 0) s m args below meth c H locs 0 0 (MQ below (zQ G top L res.1 (some (.int (zO res.2))) (InR res.2)) args s 0 0 (zA G)) (F0 m 0 ls []) := by
  unfold Mo_soonFact_r at h
  refine u_al_n (x := a0) E (Mo_soonFact_dc.at 0 rfl) hl rfl ?_
  obtain ⟨g1, h⟩ := ite_e h
  refine u_gR E zf_12_18 S g1 zw_6_225 (Mo_soonFact_dc.at 1 rfl) ?_
  refine u_al_n (x := a0) E (Mo_soonFact_dc.at 2 rfl) hl rfl ?_
  refine u_gI E zf_12_30 S g1 zw_6_237 (Mo_soonFact_dc.at 3 rfl) ?_
  obtain ⟨g2, h⟩ := ite_e h
  obtain ⟨g3, h⟩ := ite_e h
  refine r_iald E S g2 g3 (Mo_soonFact_dc.at 4 rfl) ?_
  obtain ⟨v4, ev4, h⟩ := lt1_e h
  have hv4 := inR_eq ev4 (S.1.inR _ _)
  refine u_ist_n (y := v4) (vs' := [some (zR G.2.2.1 a0), some (.int (zO v4)), none, none, none]) E ev4 (Mo_soonFact_dc.at 5 rfl) hl (by decide) rfl (fun ls hl => ?_)
  refine u_il_n (x := v4) E (Mo_soonFact_dc.at 6 rfl) hl rfl ?_
  refine r_bipush E (Mo_soonFact_dc.at 7 rfl) rfl ?_
  refine r_idiv E hv4 (show InR 100 by decide) (by decide) (Mo_soonFact_dc.at 8 rfl) ?_
  refine r_bipush E (Mo_soonFact_dc.at 9 rfl) rfl ?_
  refine r_irem E (inR_w32 _) (show InR 100 by decide) (by decide) (Mo_soonFact_dc.at 10 rfl) ?_
  obtain ⟨v5, ev5, h⟩ := lt1_e h
  have hv5 := inR_eq ev5 (inR_w32 _)
  refine u_ist_n (y := v5) (vs' := [some (zR G.2.2.1 a0), some (.int (zO v4)), some (.int (zO v5)), none, none]) E ev5 (Mo_soonFact_dc.at 11 rfl) hl (by decide) rfl (fun ls hl => ?_)
  refine u_il_n (x := v4) E (Mo_soonFact_dc.at 12 rfl) hl rfl ?_
  refine r_sipush E (Mo_soonFact_dc.at 13 rfl) rfl ?_
  refine r_idiv E hv4 (show InR 10000 by decide) (by decide) (Mo_soonFact_dc.at 14 rfl) ?_
  obtain ⟨v6, ev6, h⟩ := lt1_e h
  have hv6 := inR_eq ev6 (inR_w32 _)
  refine u_ist_n (y := v6) (vs' := [some (zR G.2.2.1 a0), some (.int (zO v4)), some (.int (zO v5)), some (.int (zO v6)), none]) E ev6 (Mo_soonFact_dc.at 15 rfl) hl (by decide) rfl (fun ls hl => ?_)
  refine u_al_n (x := a0) E (Mo_soonFact_dc.at 16 rfl) hl rfl ?_
  refine r_dup E (Mo_soonFact_dc.at 17 rfl) (zR_cat _ _) ?_
  refine u_gI E zf_12_30 S g1 zw_6_237 (Mo_soonFact_dc.at 18 rfl) ?_
  refine r_iconst E (Mo_soonFact_dc.at 19 rfl) ?_
  refine r_iadd E (Mo_soonFact_dc.at 20 rfl) ?_
  obtain ⟨M7, eM7, h⟩ := lt1_e h
  refine u_pI E eM7 zf_12_30 S g1 (inR_w32 _) (Or.inl rfl) rfl zw_6_237 (Mo_soonFact_dc.at 21 rfl) (fun H locs S8 => ?_)
  refine u_il_n (x := v4) E (Mo_soonFact_dc.at 22 rfl) hl rfl ?_
  refine r_bipush E (Mo_soonFact_dc.at 23 rfl) rfl ?_
  refine r_irem E hv4 (show InR 100 by decide) (by decide) (Mo_soonFact_dc.at 24 rfl) ?_
  by_cases q9 : (w32 (Int.tmod v4 100)) = 0
  · have h := ite_t h q9
    refine r_tin (tgt := 76) (k := 0) E (inR_w32 _) q9 (Mo_soonFact_dc.at 25 rfl) (by decide) (by decide) rfl (by decide) ?_
    refine u_il_n (x := v6) E (Mo_soonFact_dc.at 26 rfl) hl rfl ?_
    cases h
    exact r_iret E S8 hv6 (Mo_soonFact_dc.at 27 rfl)
  · have h := ite_f h q9
    by_cases q10 : (w32 (Int.tmod v4 100)) = 1
    · have h := ite_t h q10
      refine r_tin (tgt := 78) (k := 1) E (inR_w32 _) q10 (Mo_soonFact_dc.at 25 rfl) (by decide) (by decide) rfl (by decide) ?_
      refine r_iconst E (Mo_soonFact_dc.at 28 rfl) ?_
      cases h
      exact r_iret E S8 (show InR 0 by decide) (Mo_soonFact_dc.at 29 rfl)
    · have h := ite_f h q10
      by_cases q13 : (w32 (Int.tmod v4 100)) = 2
      · have h := ite_t h q13
        refine r_tin (tgt := 80) (k := 2) E (inR_w32 _) q13 (Mo_soonFact_dc.at 25 rfl) (by decide) (by decide) rfl (by decide) ?_
        refine u_al_n (x := a0) E (Mo_soonFact_dc.at 30 rfl) hl rfl ?_
        obtain ⟨r11, er11, h⟩ := bd1_e h
        refine u_cVI (As := []) (rest := []) E S8 zcw_yX12_soonBorn zw_9_169 zq_9_0 zw_9_167 zck_12.1 rfl g1 (Mo_soonBorn_c l G fu top L M7 a0 ha0 er11) (zrm_ok (by omega) (by decide)) ⟨Nat.le_refl 0, Nat.le_refl 0⟩ rfl (Nat.zero_le 8) hl.size rfl (Mo_soonFact_dc.at 31 rfl) (fun H locs hr11 S12 => ?_)
        cases h
        exact r_iret E S12 hr11 (Mo_soonFact_dc.at 32 rfl)
      · have h := ite_f h q13
        by_cases q18 : (w32 (Int.tmod v4 100)) = 3
        · have h := ite_t h q18
          refine r_tin (tgt := 85) (k := 3) E (inR_w32 _) q18 (Mo_soonFact_dc.at 25 rfl) (by decide) (by decide) rfl (by decide) ?_
          refine u_al_n (x := a0) E (Mo_soonFact_dc.at 33 rfl) hl rfl ?_
          refine u_gI E zf_12_40 S8 g1 zw_7_7 (Mo_soonFact_dc.at 34 rfl) ?_
          refine r_if_ne (tgt := 110) E (S8.1.inR _ _) (Mo_soonFact_dc.at 35 rfl) (by decide) (fun q => ?_) (fun q => ?_)
          · have h := ite_t h q
            refine r_iconst E (Mo_soonFact_dc.at 36 rfl) ?_
            refine u_il_n (x := v6) E (Mo_soonFact_dc.at 37 rfl) hl rfl ?_
            refine u_al_n (x := a0) E (Mo_soonFact_dc.at 38 rfl) hl rfl ?_
            refine u_gR E zf_12_22 S8 g1 zw_6_229 (Mo_soonFact_dc.at 39 rfl) ?_
            refine u_al_n (x := a0) E (Mo_soonFact_dc.at 40 rfl) hl rfl ?_
            refine u_gI E zf_12_41 S8 g1 zw_7_8 (Mo_soonFact_dc.at 41 rfl) ?_
            obtain ⟨g14, h⟩ := ite_e h
            obtain ⟨g15, h⟩ := ite_e h
            refine r_iald E S8 g14 g15 (Mo_soonFact_dc.at 42 rfl) ?_
            refine r_isub E (Mo_soonFact_dc.at 43 rfl) ?_
            refine r_max (rest := []) E (show InR 0 by decide) (inR_w32 _) hl.size zw_8_125 zw_4_56 zw_1_17 zw_4_57 (by simp [zrm]) (by simp [zR_cat, zcat_I, zcat_J, zcat_S, zrm]; omega) ⟨Nat.zero_le _, Nat.zero_le _⟩ (Mo_soonFact_dc.at 44 rfl) ?_
            refine r_goto (tgt := 116) E (Mo_soonFact_dc.at 45 rfl) (by decide) ?_
            cases h
            exact r_iret E S8 (inR_max (show InR 0 by decide) (inR_w32 _)) (Mo_soonFact_dc.at 50 rfl)
          · have h := ite_f h q
            refine u_al_n (x := a0) E (Mo_soonFact_dc.at 46 rfl) hl rfl ?_
            obtain ⟨r16, er16, h⟩ := bd1_e h
            refine u_cVI (As := []) (rest := []) E S8 zcw_yX12_soonBorn zw_9_169 zq_9_0 zw_9_167 zck_12.1 rfl g1 (Mo_soonBorn_c l G fu top L M7 a0 ha0 er16) (zrm_ok (by omega) (by decide)) ⟨Nat.le_refl 0, Nat.le_refl 0⟩ rfl (Nat.zero_le 8) hl.size rfl (Mo_soonFact_dc.at 47 rfl) (fun H locs hr16 S17 => ?_)
            refine u_il_n (x := v6) E (Mo_soonFact_dc.at 48 rfl) hl rfl ?_
            refine r_iadd E (Mo_soonFact_dc.at 49 rfl) ?_
            cases h
            exact r_iret E S17 (inR_w32 _) (Mo_soonFact_dc.at 50 rfl)
        · have h := ite_f h q18
          by_cases q21 : (w32 (Int.tmod v4 100)) = 4
          · have h := ite_t h q21
            refine r_tin (tgt := 117) (k := 4) E (inR_w32 _) q21 (Mo_soonFact_dc.at 25 rfl) (by decide) (by decide) rfl (by decide) ?_
            refine r_iconst E (Mo_soonFact_dc.at 51 rfl) ?_
            refine u_il_n (x := v6) E (Mo_soonFact_dc.at 52 rfl) hl rfl ?_
            refine u_al_n (x := a0) E (Mo_soonFact_dc.at 53 rfl) hl rfl ?_
            refine u_gR E zf_12_22 S8 g1 zw_6_229 (Mo_soonFact_dc.at 54 rfl) ?_
            refine u_il_n (x := v5) E (Mo_soonFact_dc.at 55 rfl) hl rfl ?_
            obtain ⟨g19, h⟩ := ite_e h
            obtain ⟨g20, h⟩ := ite_e h
            refine r_iald E S8 g19 g20 (Mo_soonFact_dc.at 56 rfl) ?_
            refine r_isub E (Mo_soonFact_dc.at 57 rfl) ?_
            refine r_max (rest := []) E (show InR 0 by decide) (inR_w32 _) hl.size zw_8_125 zw_4_56 zw_1_17 zw_4_57 (by simp [zrm]) (by simp [zR_cat, zcat_I, zcat_J, zcat_S, zrm]; omega) ⟨Nat.zero_le _, Nat.zero_le _⟩ (Mo_soonFact_dc.at 58 rfl) ?_
            cases h
            exact r_iret E S8 (inR_max (show InR 0 by decide) (inR_w32 _)) (Mo_soonFact_dc.at 59 rfl)
          · have h := ite_f h q21
            by_cases q25 : (w32 (Int.tmod v4 100)) = 5
            · have h := ite_t h q25
              refine r_tin (tgt := 130) (k := 5) E (inR_w32 _) q25 (Mo_soonFact_dc.at 25 rfl) (by decide) (by decide) rfl (by decide) ?_
              refine u_il_n (x := v6) E (Mo_soonFact_dc.at 60 rfl) hl rfl ?_
              refine u_al_n (x := a0) E (Mo_soonFact_dc.at 61 rfl) hl rfl ?_
              obtain ⟨M23, r22, er22, h⟩ := bd2_e h
              refine u_cVI (As := []) (rest := [.int (zO v6)]) E S8 zcw_yX12_soonFact zw_9_165 zq_8_15 zw_9_163 zck_12.1 rfl g1 (HR.2.1 M7 a0 ha0 er22) (zrm_ok (by omega) (by decide)) ⟨Nat.le_refl 0, Nat.le_refl 0⟩ rfl (by simp [zR_cat, zcat_I, zcat_J, zcat_S]) hl.size rfl (Mo_soonFact_dc.at 62 rfl) (fun H locs hr22 S24 => ?_)
              refine r_iadd E (Mo_soonFact_dc.at 63 rfl) ?_
              cases h
              exact r_iret E S24 (inR_w32 _) (Mo_soonFact_dc.at 64 rfl)
            · have h := ite_f h q25
              refine r_tout (tgt := 137) E (inR_w32 _) (by omega) (Mo_soonFact_dc.at 25 rfl) (by decide) ?_
              refine u_al_n (x := a0) E (Mo_soonFact_dc.at 65 rfl) hl rfl ?_
              obtain ⟨M27, r26, er26, h⟩ := bd2_e h
              refine u_cVI (As := []) (rest := []) E S8 zcw_yX12_soonAll zw_9_157 zq_8_13 zw_9_155 zck_12.1 rfl g1 (HR.1 M7 a0 ha0 er26) (zrm_ok (by omega) (by decide)) ⟨Nat.le_refl 0, Nat.le_refl 0⟩ rfl (Nat.zero_le 8) hl.size rfl (Mo_soonFact_dc.at 66 rfl) (fun H locs hr26 S28 => ?_)
              refine u_ist (y := r26) (vs' := [some (zR G.2.2.1 a0), some (.int (zO v4)), some (.int (zO v5)), some (.int (zO v6)), some (.int (zO r26))]) E rfl (Mo_soonFact_dc.at 67 rfl) hl (by decide) rfl (fun ls hl => ?_)
              refine u_al_n (x := a0) E (Mo_soonFact_dc.at 68 rfl) hl rfl ?_
              refine r_dup E (Mo_soonFact_dc.at 69 rfl) (zR_cat _ _) ?_
              refine u_gI E zf_12_30 S28 g1 zw_6_237 (Mo_soonFact_dc.at 70 rfl) ?_
              refine r_iconst E (Mo_soonFact_dc.at 71 rfl) ?_
              refine r_iadd E (Mo_soonFact_dc.at 72 rfl) ?_
              obtain ⟨M29, eM29, h⟩ := lt1_e h
              refine u_pI E eM29 zf_12_30 S28 g1 (inR_w32 _) (Or.inl rfl) rfl zw_6_237 (Mo_soonFact_dc.at 73 rfl) (fun H locs S30 => ?_)
              refine u_il (x := r26) E (Mo_soonFact_dc.at 74 rfl) hl rfl ?_
              cases h
              exact r_iret E S30 hr26 (Mo_soonFact_dc.at 75 rfl)
theorem Mo_soonWay_s5_w (E : zEv p m c cX12_soonWay 2 s args RX12 meth (some .int) G) (HR : zh_Mo_soonAll l G zd top L rec) (hzd : 3 ≤ zd) {res : (zM × Int)} {k5 : zM → Int → Int → Option (zM × Int)} (hk5 : ∀ (M : zM) (x0 : Int) (x1 : Int), InR x0 → InR x1 → ∀ (H : Heap) (locs : List Loc) (ls : Array Slot), zS G top L M s H locs → zLV ls 2 [some (zR G.2.2.1 x0), some (.int (zO x1))] → k5 M x0 x1 = some res → W p l e (zrm (zd + 1) 0 0) s m args below meth c H locs 0 0 (MQ below (zQ G top L res.1 (some (.int (zO res.2))) (InR res.2)) args s 0 0 (zA G)) (F0 m 5 ls [])) {M : zM} {x0 : Int} {x1 : Int} {H : Heap} {locs : List Loc} {ls : Array Slot} (hx0 : InR x0) (hx1 : InR x1) (S : zS G top L M s H locs) (hl : zLV ls 2 [some (zR G.2.2.1 x0), some (.int (zO x1))]) (h : Mo_soonWay_s5 fu rec k5 L M x0 x1 = some res) : W p l e (zrm (zd + 1) 0 0) s m args below meth c H locs 0 0 (MQ below (zQ G top L res.1 (some (.int (zO res.2))) (InR res.2)) args s 0 0 (zA G)) (F0 m 5 ls []) := by
  unfold Mo_soonWay_s5 at h
  refine u_al_n (x := x0) E (Mo_soonWay_dc.at 3 rfl) hl rfl ?_
  refine r_bipush E (Mo_soonWay_dc.at 4 rfl) rfl ?_
  obtain ⟨g5, h⟩ := ite_e h
  obtain ⟨M7, r6, er6, h⟩ := bd2_e h
  refine u_cVI (As := [.int (zO 8)]) (rest := []) E S zcw_yX12_passes zw_8_238 zq_7_3 zw_8_236 zck_12.1 rfl g5 (Mo_passes_c l G fu top L M x0 8 hx0 (show InR 8 by decide) er6) (zrm_ok (by omega) (by decide)) ⟨Nat.le_refl 0, Nat.le_refl 0⟩ rfl (Nat.zero_le 8) hl.size rfl (Mo_soonWay_dc.at 5 rfl) (fun H locs hr6 S8 => ?_)
  refine r_if_eq (tgt := 26) E (inR_01 hr6) (Mo_soonWay_dc.at 6 rfl) (by decide) (fun q => ?_) (fun q => ?_)
  · have h := ite_t h q
    refine u_il_n (x := x1) E (Mo_soonWay_dc.at 13 rfl) hl rfl ?_
    cases h
    exact r_iret E S8 hx1 (Mo_soonWay_dc.at 14 rfl)
  · have h := ite_f h q
    refine u_il_n (x := x1) E (Mo_soonWay_dc.at 7 rfl) hl rfl ?_
    refine u_al_n (x := x0) E (Mo_soonWay_dc.at 8 rfl) hl rfl ?_
    obtain ⟨M10, r9, er9, h⟩ := bd2_e h
    refine u_cVI (As := []) (rest := [.int (zO x1)]) E S8 zcw_yX12_soonFact zw_9_165 zq_8_15 zw_9_163 zck_12.1 rfl g5 (HR.2.1 M7 x0 hx0 er9) (zrm_ok (by omega) (by decide)) ⟨Nat.le_refl 0, Nat.le_refl 0⟩ rfl (by simp [zR_cat, zcat_I, zcat_J, zcat_S]) hl.size rfl (Mo_soonWay_dc.at 9 rfl) (fun H locs hr9 S11 => ?_)
    refine r_max (rest := []) E hx1 hr9 hl.size zw_8_125 zw_4_56 zw_1_17 zw_4_57 (by simp [zrm]) (by simp [zR_cat, zcat_I, zcat_J, zcat_S, zrm]; omega) ⟨Nat.zero_le _, Nat.zero_le _⟩ (Mo_soonWay_dc.at 10 rfl) ?_
    obtain ⟨v12, ev12, h⟩ := lt1_e h
    have hv12 := inR_eq ev12 (inR_max hx1 hr9)
    refine u_ist_n (y := v12) (vs' := [some (zR G.2.2.1 x0), some (.int (zO v12))]) E ev12 (Mo_soonWay_dc.at 11 rfl) hl (by decide) rfl (fun ls hl => ?_)
    refine r_goto (tgt := 5) E (Mo_soonWay_dc.at 12 rfl) (by decide) ?_
    exact hk5 _ x0 v12 hx0 hv12 _ _ _ S11 (hl.sub (And.intro rfl (And.intro rfl True.intro))) h
theorem Mo_soonWay_l5_w (E : zEv p m c cX12_soonWay 2 s args RX12 meth (some .int) G) (HR : zh_Mo_soonAll l G zd top L rec) (hzd : 3 ≤ zd) {res : (zM × Int)} : ∀ (n : Nat) (M : zM) (x0 : Int) (x1 : Int), InR x0 → InR x1 → ∀ (H : Heap) (locs : List Loc) (ls : Array Slot), zS G top L M s H locs → zLV ls 2 [some (zR G.2.2.1 x0), some (.int (zO x1))] → Mo_soonWay_l5 fu rec L n M x0 x1 = some res → W p l e (zrm (zd + 1) 0 0) s m args below meth c H locs 0 0 (MQ below (zQ G top L res.1 (some (.int (zO res.2))) (InR res.2)) args s 0 0 (zA G)) (F0 m 5 ls [])
  | 0, _, _, _ => fun _ _ _ _ _ _ _ h => (by cases h)
  | n + 1, M, x0, x1 => fun hx0 hx1 H locs ls S hl h => Mo_soonWay_s5_w E HR hzd (fun M x0 x1 hx0 hx1 H locs ls S hl h => Mo_soonWay_l5_w E HR hzd n M x0 x1 hx0 hx1 H locs ls S hl h) hx0 hx1 S hl h
theorem Mo_soonWay_w (E : zEv p m c cX12_soonWay 2 s args RX12 meth (some .int) G) (HR : zh_Mo_soonAll l G zd top L rec) (hzd : 3 ≤ zd) {res : (zM × Int)} {M : zM} {a0 : Int} {H : Heap} {locs : List Loc} {ls : Array Slot} (ha0 : InR a0) (S : zS G top L M s H locs) (hl : zLV ls 2 [some (zR G.2.2.1 a0), none]) (h : Mo_soonWay_r fu rec L M a0 = some res) : W p l e (zrm (zd + 1) 0 0) s m args below meth c H locs 0 0 (MQ below (zQ G top L res.1 (some (.int (zO res.2))) (InR res.2)) args s 0 0 (zA G)) (F0 m 0 ls []) := by
  unfold Mo_soonWay_r at h
  refine u_al_n (x := a0) E (Mo_soonWay_dc.at 0 rfl) hl rfl ?_
  obtain ⟨g1, h⟩ := ite_e h
  obtain ⟨M3, r2, er2, h⟩ := bd2_e h
  refine u_cVI (As := []) (rest := []) E S zcw_yX12_soonFact zw_9_165 zq_8_15 zw_9_163 zck_12.1 rfl g1 (HR.2.1 M a0 ha0 er2) (zrm_ok (by omega) (by decide)) ⟨Nat.le_refl 0, Nat.le_refl 0⟩ rfl (Nat.zero_le 8) hl.size rfl (Mo_soonWay_dc.at 1 rfl) (fun H locs hr2 S4 => ?_)
  refine u_ist_n (y := r2) (vs' := [some (zR G.2.2.1 a0), some (.int (zO r2))]) E rfl (Mo_soonWay_dc.at 2 rfl) hl (by decide) rfl (fun ls hl => ?_)
  exact Mo_soonWay_l5_w E HR hzd fu _ a0 r2 ha0 hr2 _ _ _ S4 (hl.sub (And.intro rfl (And.intro rfl True.intro))) h
end
theorem zg_Mo_soonAll_h (l : Launch) (G : zG) (fu : Nat) (top : Int) (L : zL) : ∀ n : Nat, zh_Mo_soonAll l G (3 + n) top L (zg_Mo_soonAll fu L n)
  | 0 => ⟨fun _ _ _ _ h => (by cases h), fun _ _ _ _ h => (by cases h), fun _ _ _ _ h => (by cases h)⟩
  | n + 1 => ⟨fun M a0 res ha0 h => z_met (by decide +kernel) (by simp [zR_cat, zcat_I, zcat_S]) (Nat.le_of_ble_eq_true rfl) fun p e s m below meth c ls E hn S hl => Mo_soonAll_w E (zd := 3 + n) (zg_Mo_soonAll_h l G fu top L n) (by omega) ha0 S (hl.sub (And.intro rfl True.intro)) h, fun M a0 res ha0 h => z_met (by decide +kernel) (by simp [zR_cat, zcat_I, zcat_S]) (Nat.le_of_ble_eq_true rfl) fun p e s m below meth c ls E hn S hl => Mo_soonFact_w E (zd := 3 + n) (zg_Mo_soonAll_h l G fu top L n) (by omega) ha0 S (hl.sub (And.intro rfl True.intro)) h, fun M a0 res ha0 h => z_met (by decide +kernel) (by simp [zR_cat, zcat_I, zcat_S]) (Nat.le_of_ble_eq_true rfl) fun p e s m below meth c ls E hn S hl => Mo_soonWay_w E (zd := 3 + n) (zg_Mo_soonAll_h l G fu top L n) (by omega) ha0 S (hl.sub (And.intro rfl True.intro)) h⟩
theorem Mo_soonAll_c (l : Launch) (G : zG) (fu : Nat) (top : Int) (L : zL) (M : zM) (a0 : Int) {res : (zM × Int)} (ha0 : InR a0) (h : Mo_soonAll fu L M a0 = some res) : Met l yX12_soonAll (Cond.code yX12_soonAll cX12_soonAll 2 (some .int) :: zTB) (zrm 43 0 0) (va_Pc [zR G.2.2.1 a0] (zPre G top L M)) (zQ G top L res.1 (some (.int (zO res.2))) (InR res.2)) 0 0 (zA G) := (zg_Mo_soonAll_h l G fu top L 40).1 M a0 ha0 h
theorem Mo_soonFact_c (l : Launch) (G : zG) (fu : Nat) (top : Int) (L : zL) (M : zM) (a0 : Int) {res : (zM × Int)} (ha0 : InR a0) (h : Mo_soonFact fu L M a0 = some res) : Met l yX12_soonFact (Cond.code yX12_soonFact cX12_soonFact 5 (some .int) :: zTB) (zrm 43 0 0) (va_Pc [zR G.2.2.1 a0] (zPre G top L M)) (zQ G top L res.1 (some (.int (zO res.2))) (InR res.2)) 0 0 (zA G) := (zg_Mo_soonAll_h l G fu top L 40).2.1 M a0 ha0 h
theorem Mo_soonWay_c (l : Launch) (G : zG) (fu : Nat) (top : Int) (L : zL) (M : zM) (a0 : Int) {res : (zM × Int)} (ha0 : InR a0) (h : Mo_soonWay fu L M a0 = some res) : Met l yX12_soonWay (Cond.code yX12_soonWay cX12_soonWay 2 (some .int) :: zTB) (zrm 43 0 0) (va_Pc [zR G.2.2.1 a0] (zPre G top L M)) (zQ G top L res.1 (some (.int (zO res.2))) (InR res.2)) 0 0 (zA G) := (zg_Mo_soonAll_h l G fu top L 40).2.2 M a0 ha0 h
theorem Mo_soonest_dc : zDL cX12_soonest [(0, .aload_n 0, 1, 1), (1, .iconst 0, 1, 2), (2, .putfield 66, 3, 5), (5, .aload_n 0, 1, 6), (6, .iload_n 1, 1, 7), (7, .iload_n 2, 1, 8), (8, .iload_n 3, 1, 9), (9, .invokevirtual 533, 3, 12), (12, .ifCond .ne 7, 3, 15), (15, .ldc_w 318, 3, 18), (18, .ireturn, 1, 19), (19, .aload_n 0, 1, 20), (20, .iload_n 1, 1, 21), (21, .iload_n 2, 1, 22), (22, .iload_n 3, 1, 23), (23, .invokevirtual 537, 3, 26), (26, .ifCond .ne 5, 3, 29), (29, .iconst (-1), 1, 30), (30, .ireturn, 1, 31), (31, .aload_n 0, 1, 32), (32, .invokevirtual 505, 3, 35), (35, .aload_n 0, 1, 36), (36, .iload_n 2, 1, 37), (37, .putfield 455, 3, 40), (40, .aload_n 0, 1, 41), (41, .iload_n 3, 1, 42), (42, .putfield 461, 3, 45), (45, .aload_n 0, 1, 46), (46, .invokevirtual 546, 3, 49), (49, .aload_n 0, 1, 50), (50, .invokevirtual 540, 3, 53), (53, .invokestatic 305, 3, 56), (56, .ireturn, 1, 57)] := zDL.of (by decide +kernel)
section
variable {p : Program} {l : Launch} {e : Env} {s : State} {m : MethodId} {args : Array Value} {below : List Frame} {meth : Method} {c : Code} {G : zG} {top : Int} {L : zL} {fu : Nat}
theorem Mo_soonest_w (E : zEv p m c cX12_soonest 4 s args RX12 meth (some .int) G) {res : (zM × Int)} {M : zM} {a0 : Int} {a1 : Int} {a2 : Int} {a3 : Int} {H : Heap} {locs : List Loc} {ls : Array Slot} (ha0 : InR a0) (ha1 : InR a1) (ha2 : InR a2) (ha3 : InR a3) (S : zS G top L M s H locs) (hl : zLV ls 4 [some (zR G.2.2.1 a0), some (.int (zO a1)), some (.int (zO a2)), some (.int (zO a3))]) (h : Mo_soonest fu L M a0 a1 a2 a3 = some res) : W p l e (zrm 45 0 0) s m args below meth c H locs 0 0 (MQ below (zQ G top L res.1 (some (.int (zO res.2))) (InR res.2)) args s 0 0 (zA G)) (F0 m 0 ls []) := by
  unfold Mo_soonest at h
  refine u_al_n (x := a0) E (Mo_soonest_dc.at 0 rfl) hl rfl ?_
  refine r_iconst E (Mo_soonest_dc.at 1 rfl) ?_
  obtain ⟨g1, h⟩ := ite_e h
  obtain ⟨M2, eM2, h⟩ := lt1_e h
  refine u_pI E eM2 zf_12_0 S g1 (show InR 0 by decide) (Or.inl rfl) rfl zw_6_207 (Mo_soonest_dc.at 2 rfl) (fun H locs S3 => ?_)
  refine u_al_n (x := a0) E (Mo_soonest_dc.at 3 rfl) hl rfl ?_
  refine u_il_n (x := a1) E (Mo_soonest_dc.at 4 rfl) hl rfl ?_
  refine u_il_n (x := a2) E (Mo_soonest_dc.at 5 rfl) hl rfl ?_
  refine u_il_n (x := a3) E (Mo_soonest_dc.at 6 rfl) hl rfl ?_
  obtain ⟨r4, er4, h⟩ := bd1_e h
  refine u_cVI (As := [.int (zO a1), .int (zO a2), .int (zO a3)]) (rest := []) E S3 zcw_yX12_isAsked zw_9_145 zq_8_11 zw_9_143 zck_12.1 rfl g1 (Mo_isAsked_c l G fu top L M2 a0 a1 a2 a3 ha0 ha1 ha2 ha3 er4) (zrm_ok (by decide) (by decide)) ⟨Nat.le_refl 0, Nat.le_refl 0⟩ rfl (Nat.zero_le 8) hl.size rfl (Mo_soonest_dc.at 7 rfl) (fun H locs hr4 S5 => ?_)
  refine r_if_ne (tgt := 19) E (inR_01 hr4) (Mo_soonest_dc.at 8 rfl) (by decide) (fun q => ?_) (fun q => ?_)
  · have h := ite_t h q
    refine r_ldcw (n := (-1000000)) E (Mo_soonest_dc.at 9 rfl) zw_8_134 rfl ?_
    cases h
    exact r_iret E S5 (show InR (-1000000) by decide) (Mo_soonest_dc.at 10 rfl)
  · have h := ite_f h q
    refine u_al_n (x := a0) E (Mo_soonest_dc.at 11 rfl) hl rfl ?_
    refine u_il_n (x := a1) E (Mo_soonest_dc.at 12 rfl) hl rfl ?_
    refine u_il_n (x := a2) E (Mo_soonest_dc.at 13 rfl) hl rfl ?_
    refine u_il_n (x := a3) E (Mo_soonest_dc.at 14 rfl) hl rfl ?_
    obtain ⟨M7, r6, er6, h⟩ := bd2_e h
    refine u_cVI (As := [.int (zO a1), .int (zO a2), .int (zO a3)]) (rest := []) E S5 zcw_yX12_isThereNow zw_9_149 zq_8_12 zw_9_147 zck_12.1 rfl g1 (Mo_isThereNow_c l G fu top L M2 a0 a1 a2 a3 ha0 ha1 ha2 ha3 er6) (zrm_ok (by decide) (by decide)) ⟨Nat.le_refl 0, Nat.le_refl 0⟩ rfl (Nat.zero_le 8) hl.size rfl (Mo_soonest_dc.at 15 rfl) (fun H locs hr6 S8 => ?_)
    refine r_if_ne (tgt := 31) E (inR_01 hr6) (Mo_soonest_dc.at 16 rfl) (by decide) (fun q => ?_) (fun q => ?_)
    · have h := ite_t h q
      refine r_iconst E (Mo_soonest_dc.at 17 rfl) ?_
      cases h
      exact r_iret E S8 (show InR (-1) by decide) (Mo_soonest_dc.at 18 rfl)
    · have h := ite_f h q
      refine u_al_n (x := a0) E (Mo_soonest_dc.at 19 rfl) hl rfl ?_
      obtain ⟨M9, eM9, h⟩ := bd1_e h
      refine u_cVU (As := []) (rest := []) E S8 zcw_yX12_begin zw_9_95 zq_8_1 zw_9_93 zck_12.1 rfl g1 (Mo_begin_c l G fu top L M7 a0 ha0 eM9) (zrm_ok (by decide) (by decide)) ⟨Nat.le_refl 0, Nat.le_refl 0⟩ rfl (Nat.zero_le 8) hl.size rfl (Mo_soonest_dc.at 20 rfl) (fun H locs _ S10 => ?_)
      refine u_al_n (x := a0) E (Mo_soonest_dc.at 21 rfl) hl rfl ?_
      refine u_il_n (x := a2) E (Mo_soonest_dc.at 22 rfl) hl rfl ?_
      obtain ⟨M11, eM11, h⟩ := lt1_e h
      refine u_pI E eM11 zf_12_40 S10 g1 ha2 (Or.inl rfl) rfl zw_7_7 (Mo_soonest_dc.at 23 rfl) (fun H locs S12 => ?_)
      refine u_al_n (x := a0) E (Mo_soonest_dc.at 24 rfl) hl rfl ?_
      refine u_il_n (x := a3) E (Mo_soonest_dc.at 25 rfl) hl rfl ?_
      obtain ⟨M13, eM13, h⟩ := lt1_e h
      refine u_pI E eM13 zf_12_41 S12 g1 ha3 (Or.inl rfl) rfl zw_7_8 (Mo_soonest_dc.at 26 rfl) (fun H locs S14 => ?_)
      refine u_al_n (x := a0) E (Mo_soonest_dc.at 27 rfl) hl rfl ?_
      obtain ⟨M16, r15, er15, h⟩ := bd2_e h
      refine u_cVI (As := []) (rest := []) E S14 zcw_yX12_soonAll zw_9_157 zq_8_13 zw_9_155 zck_12.1 rfl g1 (Mo_soonAll_c l G fu top L M13 a0 ha0 er15) (zrm_ok (by decide) (by decide)) ⟨Nat.le_refl 0, Nat.le_refl 0⟩ rfl (Nat.zero_le 8) hl.size rfl (Mo_soonest_dc.at 28 rfl) (fun H locs hr15 S17 => ?_)
      refine u_al_n (x := a0) E (Mo_soonest_dc.at 29 rfl) hl rfl ?_
      obtain ⟨r18, er18, h⟩ := bd1_e h
      refine u_cVI (As := []) (rest := [.int (zO r15)]) E S17 zcw_yX12_soonBorn zw_9_169 zq_9_0 zw_9_167 zck_12.1 rfl g1 (Mo_soonBorn_c l G fu top L M16 a0 ha0 er18) (zrm_ok (by decide) (by decide)) ⟨Nat.le_refl 0, Nat.le_refl 0⟩ rfl (by simp [zR_cat, zcat_I, zcat_J, zcat_S]) hl.size rfl (Mo_soonest_dc.at 30 rfl) (fun H locs hr18 S19 => ?_)
      refine r_max (rest := []) E hr15 hr18 hl.size zw_8_125 zw_4_56 zw_1_17 zw_4_57 (by decide) (by simp [zR_cat, zcat_I, zcat_J, zcat_S, zrm]) ⟨Nat.zero_le _, Nat.zero_le _⟩ (Mo_soonest_dc.at 31 rfl) ?_
      cases h
      exact r_iret E S19 (inR_max hr15 hr18) (Mo_soonest_dc.at 32 rfl)
theorem Mo_soonest_c (l : Launch) (G : zG) (fu : Nat) (top : Int) (L : zL) (M : zM) (a0 : Int) (a1 : Int) (a2 : Int) (a3 : Int) {res : (zM × Int)} (ha0 : InR a0) (ha1 : InR a1) (ha2 : InR a2) (ha3 : InR a3) (h : Mo_soonest fu L M a0 a1 a2 a3 = some res) : Met l yX12_soonest (Cond.code yX12_soonest cX12_soonest 4 (some .int) :: zTB) (zrm 45 0 0) (va_Pc [zR G.2.2.1 a0, .int (zO a1), .int (zO a2), .int (zO a3)] (zPre G top L M)) (zQ G top L res.1 (some (.int (zO res.2))) (InR res.2)) 0 0 (zA G) :=
  z_met (by decide +kernel) (by simp [zR_cat, zcat_I, zcat_S]) (Nat.le_of_ble_eq_true rfl) fun p e s m below meth c ls E hn S hl => Mo_soonest_w E ha0 ha1 ha2 ha3 S (hl.sub (And.intro rfl (And.intro rfl (And.intro rfl (And.intro rfl True.intro))))) h
end
theorem Mo_carriers_dc : zDL cX12_carriers [(0, .aload_n 0, 1, 1), (1, .iconst 0, 1, 2), (2, .putfield 66, 3, 5), (5, .aload_n 0, 1, 6), (6, .iload_n 1, 1, 7), (7, .invokevirtual 282, 3, 10), (10, .ifCond .ne 5, 3, 13), (13, .iconst (-1), 1, 14), (14, .ireturn, 1, 15), (15, .aload_n 0, 1, 16), (16, .iload_n 1, 1, 17), (17, .invokevirtual 521, 3, 20), (20, .iconst (-1), 1, 21), (21, .istore_n 2, 1, 22), (22, .iconst 0, 1, 23), (23, .istore_n 3, 1, 24), (24, .iload_n 3, 1, 25), (25, .aload_n 0, 1, 26), (26, .invokevirtual 524, 3, 29), (29, .if_icmp .gt 52, 3, 32), (32, .iload_n 2, 1, 33), (33, .iconst (-1), 1, 34), (34, .if_icmp .eq 14, 3, 37), (37, .iload_n 3, 1, 38), (38, .invokestatic 552, 3, 41), (41, .iload_n 2, 1, 42), (42, .invokestatic 552, 3, 45), (45, .if_icmp .ge 7, 3, 48), (48, .iconst 1, 1, 49), (49, .goto 4, 3, 52), (52, .iconst 0, 1, 53), (53, .istore 4, 2, 55), (55, .iload 4, 2, 57), (57, .ifCond .eq 16, 3, 60), (60, .aload_n 0, 1, 61), (61, .iload_n 1, 1, 62), (62, .iload_n 3, 1, 63), (63, .invokevirtual 527, 3, 66), (66, .ifCond .eq 7, 3, 69), (69, .iload_n 3, 1, 70), (70, .goto 4, 3, 73), (73, .iload_n 2, 1, 74), (74, .istore_n 2, 1, 75), (75, .iinc 3 1, 3, 78), (78, .goto (-54), 3, 81), (81, .iload_n 2, 1, 82), (82, .ireturn, 1, 83)] := zDL.of (by decide +kernel)
section
variable {p : Program} {l : Launch} {e : Env} {s : State} {m : MethodId} {args : Array Value} {below : List Frame} {meth : Method} {c : Code} {G : zG} {top : Int} {L : zL} {fu : Nat}
theorem Mo_carriers_b53_w (E : zEv p m c cX12_carriers 5 s args RX12 meth (some .int) G) {res : (zM × Int)} {k24 : zM → Int → Int → Int → Int → Option (zM × Int)} (hk24 : ∀ (M : zM) (x0 : Int) (x1 : Int) (x2 : Int) (x3 : Int), InR x0 → InR x1 → InR x2 → InR x3 → ∀ (H : Heap) (locs : List Loc) (ls : Array Slot), zS G top L M s H locs → zLV ls 5 [some (zR G.2.2.1 x0), some (.int (zO x1)), some (.int (zO x2)), some (.int (zO x3)), none] → k24 M x0 x1 x2 x3 = some res → W p l e (zrm 48 0 0) s m args below meth c H locs 0 0 (MQ below (zQ G top L res.1 (some (.int (zO res.2))) (InR res.2)) args s 0 0 (zA G)) (F0 m 24 ls [])) {M : zM} {x0 : Int} {x1 : Int} {x2 : Int} {x3 : Int} {y0 : Int} {H : Heap} {locs : List Loc} {ls : Array Slot} (hx0 : InR x0) (hx1 : InR x1) (hx2 : InR x2) (hx3 : InR x3) (hy0 : InR y0) (S : zS G top L M s H locs) (hl : zLV ls 5 [some (zR G.2.2.1 x0), some (.int (zO x1)), some (.int (zO x2)), some (.int (zO x3)), none]) (h : Mo_carriers_b53 fu k24 L M x0 x1 x2 x3 y0 = some res) : W p l e (zrm 48 0 0) s m args below meth c H locs 0 0 (MQ below (zQ G top L res.1 (some (.int (zO res.2))) (InR res.2)) args s 0 0 (zA G)) (F0 m 53 ls [.int (zO y0)]) := by
  unfold Mo_carriers_b53 at h
  refine u_ist (y := y0) (vs' := [some (zR G.2.2.1 x0), some (.int (zO x1)), some (.int (zO x2)), some (.int (zO x3)), some (.int (zO y0))]) E rfl (Mo_carriers_dc.at 31 rfl) hl (by decide) rfl (fun ls hl => ?_)
  refine u_il (x := y0) E (Mo_carriers_dc.at 32 rfl) hl rfl ?_
  refine r_if_eq (tgt := 73) E hy0 (Mo_carriers_dc.at 33 rfl) (by decide) (fun q => ?_) (fun q => ?_)
  · have h := ite_t h q
    refine u_il_n (x := x2) E (Mo_carriers_dc.at 41 rfl) hl rfl ?_
    refine u_ist_n (y := x2) (vs' := [some (zR G.2.2.1 x0), some (.int (zO x1)), some (.int (zO x2)), some (.int (zO x3)), some (.int (zO y0))]) E rfl (Mo_carriers_dc.at 42 rfl) hl (by decide) rfl (fun ls hl => ?_)
    obtain ⟨v11, ev11, h⟩ := lt1_e h
    have hv11 := inR_eq ev11 (inR_w32 _)
    refine u_iinc (y := v11) (vs' := [some (zR G.2.2.1 x0), some (.int (zO x1)), some (.int (zO x2)), some (.int (zO v11)), some (.int (zO y0))]) E ev11 (Mo_carriers_dc.at 43 rfl) hl rfl (by decide) rfl (fun ls hl => ?_)
    refine r_goto (tgt := 24) E (Mo_carriers_dc.at 44 rfl) (by decide) ?_
    exact hk24 _ x0 x1 x2 v11 hx0 hx1 hx2 hv11 _ _ _ S (hl.sub (And.intro rfl (And.intro rfl (And.intro rfl (And.intro rfl True.intro))))) h
  · have h := ite_f h q
    refine u_al_n (x := x0) E (Mo_carriers_dc.at 34 rfl) hl rfl ?_
    refine u_il_n (x := x1) E (Mo_carriers_dc.at 35 rfl) hl rfl ?_
    refine u_il_n (x := x3) E (Mo_carriers_dc.at 36 rfl) hl rfl ?_
    obtain ⟨g12, h⟩ := ite_e h
    obtain ⟨M14, r13, er13, h⟩ := bd2_e h
    refine u_cVI (As := [.int (zO x1), .int (zO x3)]) (rest := []) E S zcw_yX12_isGood zw_9_83 zq_7_14 zw_9_81 zck_12.1 rfl g12 (Mo_isGood_c l G fu top L M x0 x1 x3 hx0 hx1 hx3 er13) (zrm_ok (by decide) (by decide)) ⟨Nat.le_refl 0, Nat.le_refl 0⟩ rfl (Nat.zero_le 8) hl.size rfl (Mo_carriers_dc.at 37 rfl) (fun H locs hr13 S15 => ?_)
    refine r_if_eq (tgt := 73) E (inR_01 hr13) (Mo_carriers_dc.at 38 rfl) (by decide) (fun q => ?_) (fun q => ?_)
    · have h := ite_t h q
      refine u_il_n (x := x2) E (Mo_carriers_dc.at 41 rfl) hl rfl ?_
      refine u_ist_n (y := x2) (vs' := [some (zR G.2.2.1 x0), some (.int (zO x1)), some (.int (zO x2)), some (.int (zO x3)), some (.int (zO y0))]) E rfl (Mo_carriers_dc.at 42 rfl) hl (by decide) rfl (fun ls hl => ?_)
      obtain ⟨v16, ev16, h⟩ := lt1_e h
      have hv16 := inR_eq ev16 (inR_w32 _)
      refine u_iinc (y := v16) (vs' := [some (zR G.2.2.1 x0), some (.int (zO x1)), some (.int (zO x2)), some (.int (zO v16)), some (.int (zO y0))]) E ev16 (Mo_carriers_dc.at 43 rfl) hl rfl (by decide) rfl (fun ls hl => ?_)
      refine r_goto (tgt := 24) E (Mo_carriers_dc.at 44 rfl) (by decide) ?_
      exact hk24 _ x0 x1 x2 v16 hx0 hx1 hx2 hv16 _ _ _ S15 (hl.sub (And.intro rfl (And.intro rfl (And.intro rfl (And.intro rfl True.intro))))) h
    · have h := ite_f h q
      refine u_il_n (x := x3) E (Mo_carriers_dc.at 39 rfl) hl rfl ?_
      refine r_goto (tgt := 74) E (Mo_carriers_dc.at 40 rfl) (by decide) ?_
      refine u_ist_n (y := x3) (vs' := [some (zR G.2.2.1 x0), some (.int (zO x1)), some (.int (zO x3)), some (.int (zO x3)), some (.int (zO y0))]) E rfl (Mo_carriers_dc.at 42 rfl) hl (by decide) rfl (fun ls hl => ?_)
      obtain ⟨v17, ev17, h⟩ := lt1_e h
      have hv17 := inR_eq ev17 (inR_w32 _)
      refine u_iinc (y := v17) (vs' := [some (zR G.2.2.1 x0), some (.int (zO x1)), some (.int (zO x3)), some (.int (zO v17)), some (.int (zO y0))]) E ev17 (Mo_carriers_dc.at 43 rfl) hl rfl (by decide) rfl (fun ls hl => ?_)
      refine r_goto (tgt := 24) E (Mo_carriers_dc.at 44 rfl) (by decide) ?_
      exact hk24 _ x0 x1 x3 v17 hx0 hx1 hx3 hv17 _ _ _ S15 (hl.sub (And.intro rfl (And.intro rfl (And.intro rfl (And.intro rfl True.intro))))) h
theorem Mo_carriers_s24_w (E : zEv p m c cX12_carriers 5 s args RX12 meth (some .int) G) {res : (zM × Int)} {k24 : zM → Int → Int → Int → Int → Option (zM × Int)} (hk24 : ∀ (M : zM) (x0 : Int) (x1 : Int) (x2 : Int) (x3 : Int), InR x0 → InR x1 → InR x2 → InR x3 → ∀ (H : Heap) (locs : List Loc) (ls : Array Slot), zS G top L M s H locs → zLV ls 5 [some (zR G.2.2.1 x0), some (.int (zO x1)), some (.int (zO x2)), some (.int (zO x3)), none] → k24 M x0 x1 x2 x3 = some res → W p l e (zrm 48 0 0) s m args below meth c H locs 0 0 (MQ below (zQ G top L res.1 (some (.int (zO res.2))) (InR res.2)) args s 0 0 (zA G)) (F0 m 24 ls [])) {M : zM} {x0 : Int} {x1 : Int} {x2 : Int} {x3 : Int} {H : Heap} {locs : List Loc} {ls : Array Slot} (hx0 : InR x0) (hx1 : InR x1) (hx2 : InR x2) (hx3 : InR x3) (S : zS G top L M s H locs) (hl : zLV ls 5 [some (zR G.2.2.1 x0), some (.int (zO x1)), some (.int (zO x2)), some (.int (zO x3)), none]) (h : Mo_carriers_s24 fu k24 L M x0 x1 x2 x3 = some res) : W p l e (zrm 48 0 0) s m args below meth c H locs 0 0 (MQ below (zQ G top L res.1 (some (.int (zO res.2))) (InR res.2)) args s 0 0 (zA G)) (F0 m 24 ls []) := by
  unfold Mo_carriers_s24 at h
  refine u_il_n (x := x3) E (Mo_carriers_dc.at 16 rfl) hl rfl ?_
  refine u_al_n (x := x0) E (Mo_carriers_dc.at 17 rfl) hl rfl ?_
  obtain ⟨g8, h⟩ := ite_e h
  obtain ⟨r9, er9, h⟩ := bd1_e h
  refine u_cVI (As := []) (rest := [.int (zO x3)]) E S zcw_yX12_allLives zw_9_79 zq_7_13 zw_9_77 zck_12.1 rfl g8 (Mo_allLives_c l G fu top L M x0 hx0 er9) (zrm_ok (by decide) (by decide)) ⟨Nat.le_refl 0, Nat.le_refl 0⟩ rfl (by simp [zR_cat, zcat_I, zcat_J, zcat_S]) hl.size rfl (Mo_carriers_dc.at 18 rfl) (fun H locs hr9 S10 => ?_)
  refine r_icmp_gt (tgt := 81) E hx3 hr9 (Mo_carriers_dc.at 19 rfl) (by decide) (fun q => ?_) (fun q => ?_)
  · have h := ite_t h q
    refine u_il_n (x := x2) E (Mo_carriers_dc.at 45 rfl) hl rfl ?_
    cases h
    exact r_iret E S10 hx2 (Mo_carriers_dc.at 46 rfl)
  · have h := ite_f h q
    refine u_il_n (x := x2) E (Mo_carriers_dc.at 20 rfl) hl rfl ?_
    refine r_iconst E (Mo_carriers_dc.at 21 rfl) ?_
    refine r_icmp_eq (tgt := 48) E hx2 (show InR (-1) by decide) (Mo_carriers_dc.at 22 rfl) (by decide) (fun q => ?_) (fun q => ?_)
    · have h := ite_t h q
      refine r_iconst E (Mo_carriers_dc.at 28 rfl) ?_
      refine r_goto (tgt := 53) E (Mo_carriers_dc.at 29 rfl) (by decide) ?_
      exact Mo_carriers_b53_w (x0 := x0) (x1 := x1) (x2 := x2) (x3 := x3) (y0 := 1) E hk24 hx0 hx1 hx2 hx3 (show InR 1 by decide) S10 (hl.sub (And.intro rfl (And.intro rfl (And.intro rfl (And.intro rfl True.intro))))) h
    · have h := ite_f h q
      refine u_il_n (x := x3) E (Mo_carriers_dc.at 23 rfl) hl rfl ?_
      obtain ⟨r18, er18, h⟩ := bd1_e h
      refine u_cSI (As := [.int (zO x3)]) (rest := []) E S10 zcw_yJ6_bitCount_0f7a4 zw_5_228 zw_9_175 (In_bitCount_c l G fu top L M x3 hx3 er18) (zrm_ok (by decide) (by decide)) ⟨Nat.le_refl 0, Nat.le_refl 0⟩ rfl (Nat.zero_le 8) hl.size rfl (Mo_carriers_dc.at 24 rfl) (fun H locs hr18 S19 => ?_)
      refine u_il_n (x := x2) E (Mo_carriers_dc.at 25 rfl) hl rfl ?_
      obtain ⟨r20, er20, h⟩ := bd1_e h
      refine u_cSI (As := [.int (zO x2)]) (rest := [.int (zO r18)]) E S19 zcw_yJ6_bitCount_0f7a4 zw_5_228 zw_9_175 (In_bitCount_c l G fu top L M x2 hx2 er20) (zrm_ok (by decide) (by decide)) ⟨Nat.le_refl 0, Nat.le_refl 0⟩ rfl (by simp [zR_cat, zcat_I, zcat_J, zcat_S]) hl.size rfl (Mo_carriers_dc.at 26 rfl) (fun H locs hr20 S21 => ?_)
      refine r_icmp_ge (tgt := 52) E hr18 hr20 (Mo_carriers_dc.at 27 rfl) (by decide) (fun q => ?_) (fun q => ?_)
      · have h := ite_t h q
        refine r_iconst E (Mo_carriers_dc.at 28 rfl) ?_
        refine r_goto (tgt := 53) E (Mo_carriers_dc.at 29 rfl) (by decide) ?_
        exact Mo_carriers_b53_w (x0 := x0) (x1 := x1) (x2 := x2) (x3 := x3) (y0 := 1) E hk24 hx0 hx1 hx2 hx3 (show InR 1 by decide) S21 (hl.sub (And.intro rfl (And.intro rfl (And.intro rfl (And.intro rfl True.intro))))) h
      · have h := ite_f h q
        refine r_iconst E (Mo_carriers_dc.at 30 rfl) ?_
        exact Mo_carriers_b53_w (x0 := x0) (x1 := x1) (x2 := x2) (x3 := x3) (y0 := 0) E hk24 hx0 hx1 hx2 hx3 (show InR 0 by decide) S21 (hl.sub (And.intro rfl (And.intro rfl (And.intro rfl (And.intro rfl True.intro))))) h
theorem Mo_carriers_l24_w (E : zEv p m c cX12_carriers 5 s args RX12 meth (some .int) G) {res : (zM × Int)} : ∀ (n : Nat) (M : zM) (x0 : Int) (x1 : Int) (x2 : Int) (x3 : Int), InR x0 → InR x1 → InR x2 → InR x3 → ∀ (H : Heap) (locs : List Loc) (ls : Array Slot), zS G top L M s H locs → zLV ls 5 [some (zR G.2.2.1 x0), some (.int (zO x1)), some (.int (zO x2)), some (.int (zO x3)), none] → Mo_carriers_l24 fu L n M x0 x1 x2 x3 = some res → W p l e (zrm 48 0 0) s m args below meth c H locs 0 0 (MQ below (zQ G top L res.1 (some (.int (zO res.2))) (InR res.2)) args s 0 0 (zA G)) (F0 m 24 ls [])
  | 0, _, _, _, _, _ => fun _ _ _ _ _ _ _ _ _ h => (by cases h)
  | n + 1, M, x0, x1, x2, x3 => fun hx0 hx1 hx2 hx3 H locs ls S hl h => Mo_carriers_s24_w E (fun M x0 x1 x2 x3 hx0 hx1 hx2 hx3 H locs ls S hl h => Mo_carriers_l24_w E n M x0 x1 x2 x3 hx0 hx1 hx2 hx3 H locs ls S hl h) hx0 hx1 hx2 hx3 S hl h
theorem Mo_carriers_w (E : zEv p m c cX12_carriers 5 s args RX12 meth (some .int) G) {res : (zM × Int)} {M : zM} {a0 : Int} {a1 : Int} {H : Heap} {locs : List Loc} {ls : Array Slot} (ha0 : InR a0) (ha1 : InR a1) (S : zS G top L M s H locs) (hl : zLV ls 5 [some (zR G.2.2.1 a0), some (.int (zO a1)), none, none, none]) (h : Mo_carriers fu L M a0 a1 = some res) : W p l e (zrm 48 0 0) s m args below meth c H locs 0 0 (MQ below (zQ G top L res.1 (some (.int (zO res.2))) (InR res.2)) args s 0 0 (zA G)) (F0 m 0 ls []) := by
  unfold Mo_carriers at h
  refine u_al_n (x := a0) E (Mo_carriers_dc.at 0 rfl) hl rfl ?_
  refine r_iconst E (Mo_carriers_dc.at 1 rfl) ?_
  obtain ⟨g1, h⟩ := ite_e h
  obtain ⟨M2, eM2, h⟩ := lt1_e h
  refine u_pI E eM2 zf_12_0 S g1 (show InR 0 by decide) (Or.inl rfl) rfl zw_6_207 (Mo_carriers_dc.at 2 rfl) (fun H locs S3 => ?_)
  refine u_al_n (x := a0) E (Mo_carriers_dc.at 3 rfl) hl rfl ?_
  refine u_il_n (x := a1) E (Mo_carriers_dc.at 4 rfl) hl rfl ?_
  obtain ⟨r4, er4, h⟩ := bd1_e h
  refine u_cVI (As := [.int (zO a1)]) (rest := []) E S3 zcw_yX12_isGift zw_8_77 zq_5_12 zw_8_75 zck_12.1 rfl g1 (Mo_isGift_c l G fu top L M2 a0 a1 ha0 ha1 er4) (zrm_ok (by decide) (by decide)) ⟨Nat.le_refl 0, Nat.le_refl 0⟩ rfl (Nat.zero_le 8) hl.size rfl (Mo_carriers_dc.at 5 rfl) (fun H locs hr4 S5 => ?_)
  refine r_if_ne (tgt := 15) E (inR_01 hr4) (Mo_carriers_dc.at 6 rfl) (by decide) (fun q => ?_) (fun q => ?_)
  · have h := ite_t h q
    refine r_iconst E (Mo_carriers_dc.at 7 rfl) ?_
    cases h
    exact r_iret E S5 (show InR (-1) by decide) (Mo_carriers_dc.at 8 rfl)
  · have h := ite_f h q
    refine u_al_n (x := a0) E (Mo_carriers_dc.at 9 rfl) hl rfl ?_
    refine u_il_n (x := a1) E (Mo_carriers_dc.at 10 rfl) hl rfl ?_
    obtain ⟨M6, eM6, h⟩ := bd1_e h
    refine u_cVU (As := [.int (zO a1)]) (rest := []) E S5 zcw_yX12_asksAll zw_9_75 zq_7_12 zw_9_73 zck_12.1 rfl g1 (Mo_asksAll_c l G fu top L M2 a0 a1 ha0 ha1 eM6) (zrm_ok (by decide) (by decide)) ⟨Nat.le_refl 0, Nat.le_refl 0⟩ rfl (Nat.zero_le 8) hl.size rfl (Mo_carriers_dc.at 11 rfl) (fun H locs _ S7 => ?_)
    refine r_iconst E (Mo_carriers_dc.at 12 rfl) ?_
    refine u_ist_n (y := (-1)) (vs' := [some (zR G.2.2.1 a0), some (.int (zO a1)), some (.int (zO (-1))), none, none]) E rfl (Mo_carriers_dc.at 13 rfl) hl (by decide) rfl (fun ls hl => ?_)
    refine r_iconst E (Mo_carriers_dc.at 14 rfl) ?_
    refine u_ist_n (y := 0) (vs' := [some (zR G.2.2.1 a0), some (.int (zO a1)), some (.int (zO (-1))), some (.int (zO 0)), none]) E rfl (Mo_carriers_dc.at 15 rfl) hl (by decide) rfl (fun ls hl => ?_)
    exact Mo_carriers_l24_w E fu _ a0 a1 (-1) 0 ha0 ha1 (show InR (-1) by decide) (show InR 0 by decide) _ _ _ S7 (hl.sub (And.intro rfl (And.intro rfl (And.intro rfl (And.intro rfl True.intro))))) h
theorem Mo_carriers_c (l : Launch) (G : zG) (fu : Nat) (top : Int) (L : zL) (M : zM) (a0 : Int) (a1 : Int) {res : (zM × Int)} (ha0 : InR a0) (ha1 : InR a1) (h : Mo_carriers fu L M a0 a1 = some res) : Met l yX12_carriers (Cond.code yX12_carriers cX12_carriers 5 (some .int) :: zTB) (zrm 48 0 0) (va_Pc [zR G.2.2.1 a0, .int (zO a1)] (zPre G top L M)) (zQ G top L res.1 (some (.int (zO res.2))) (InR res.2)) 0 0 (zA G) :=
  z_met (by decide +kernel) (by simp [zR_cat, zcat_I, zcat_S]) (Nat.le_of_ble_eq_true rfl) fun p e s m below meth c ls E hn S hl => Mo_carriers_w E ha0 ha1 S (hl.sub (And.intro rfl (And.intro rfl True.intro))) h
end
theorem Mo_wayEnd_dc : zDL cX12_wayEnd [(0, .iconst 0, 1, 1), (1, .istore_n 3, 1, 2), (2, .iload_n 1, 1, 3), (3, .istore 4, 2, 5), (5, .iload 4, 2, 7), (7, .iload_n 2, 1, 8), (8, .if_icmp .ge 70, 3, 11), (11, .iload_n 3, 1, 12), (12, .ifCond .gt 18, 3, 15), (15, .aload_n 0, 1, 16), (16, .getfield 31, 3, 19), (19, .iload 4, 2, 21), (21, .iaload, 1, 22), (22, .bipush 100, 2, 24), (24, .irem, 1, 25), (25, .bipush 9, 2, 27), (27, .if_icmp .eq 51, 3, 30), (30, .iload_n 3, 1, 31), (31, .aload_n 0, 1, 32), (32, .getfield 31, 3, 35), (35, .iload 4, 2, 37), (37, .iaload, 1, 38), (38, .bipush 100, 2, 40), (40, .irem, 1, 41), (41, .bipush 6, 2, 43), (43, .if_icmp .ne 7, 3, 46), (46, .iconst 1, 1, 47), (47, .goto 23, 3, 50), (50, .aload_n 0, 1, 51), (51, .getfield 31, 3, 54), (54, .iload 4, 2, 56), (56, .iaload, 1, 57), (57, .bipush 100, 2, 59), (59, .irem, 1, 60), (60, .bipush 7, 2, 62), (62, .if_icmp .ne 7, 3, 65), (65, .iconst (-1), 1, 66), (66, .goto 4, 3, 69), (69, .iconst 0, 1, 70), (70, .iadd, 1, 71), (71, .istore_n 3, 1, 72), (72, .iinc 4 1, 3, 75), (75, .goto (-70), 3, 78), (78, .iload 4, 2, 80), (80, .ireturn, 1, 81)] := zDL.of (by decide +kernel)
section
variable {p : Program} {l : Launch} {e : Env} {s : State} {m : MethodId} {args : Array Value} {below : List Frame} {meth : Method} {c : Code} {G : zG} {top : Int} {L : zL} {fu : Nat}
theorem Mo_wayEnd_b30_w (E : zEv p m c cX12_wayEnd 5 s args RX12 meth (some .int) G) {res : Int} {k5 : zM → Int → Int → Int → Int → Option Int} (hk5 : ∀ (M : zM) (x0 : Int) (x2 : Int) (x3 : Int) (x4 : Int), InR x0 → InR x2 → InR x3 → InR x4 → ∀ (H : Heap) (locs : List Loc) (ls : Array Slot), zS G top L M s H locs → zLV ls 5 [some (zR G.2.2.1 x0), none, some (.int (zO x2)), some (.int (zO x3)), some (.int (zO x4))] → k5 M x0 x2 x3 x4 = some res → W p l e (zrm 1 0 0) s m args below meth c H locs 0 0 (MQ below (zQ G top L M (some (.int (zO res))) (InR res)) args s 0 0 (zA G)) (F0 m 5 ls [])) {M : zM} {x0 : Int} {x2 : Int} {x3 : Int} {x4 : Int} {H : Heap} {locs : List Loc} {ls : Array Slot} (hx0 : InR x0) (hx2 : InR x2) (hx3 : InR x3) (hx4 : InR x4) (S : zS G top L M s H locs) (hl : zLV ls 5 [some (zR G.2.2.1 x0), none, some (.int (zO x2)), some (.int (zO x3)), some (.int (zO x4))]) (h : Mo_wayEnd_b30 fu k5 L M x0 x2 x3 x4 = some res) : W p l e (zrm 1 0 0) s m args below meth c H locs 0 0 (MQ below (zQ G top L M (some (.int (zO res))) (InR res)) args s 0 0 (zA G)) (F0 m 30 ls []) := by
  unfold Mo_wayEnd_b30 at h
  refine u_il_n (x := x3) E (Mo_wayEnd_dc.at 17 rfl) hl rfl ?_
  refine u_al_n (x := x0) E (Mo_wayEnd_dc.at 18 rfl) hl rfl ?_
  obtain ⟨g1, h⟩ := ite_e h
  refine u_gR E zf_12_18 S g1 zw_6_225 (Mo_wayEnd_dc.at 19 rfl) ?_
  refine u_il (x := x4) E (Mo_wayEnd_dc.at 20 rfl) hl rfl ?_
  obtain ⟨g2, h⟩ := ite_e h
  obtain ⟨g3, h⟩ := ite_e h
  refine r_iald E S g2 g3 (Mo_wayEnd_dc.at 21 rfl) ?_
  refine r_bipush E (Mo_wayEnd_dc.at 22 rfl) rfl ?_
  refine r_irem E (S.1.inR _ _) (show InR 100 by decide) (by decide) (Mo_wayEnd_dc.at 23 rfl) ?_
  refine r_bipush E (Mo_wayEnd_dc.at 24 rfl) rfl ?_
  refine r_icmp_ne (tgt := 50) E (inR_w32 _) (show InR 6 by decide) (Mo_wayEnd_dc.at 25 rfl) (by decide) (fun q => ?_) (fun q => ?_)
  · have h := ite_t h q
    refine r_iconst E (Mo_wayEnd_dc.at 26 rfl) ?_
    refine r_goto (tgt := 70) E (Mo_wayEnd_dc.at 27 rfl) (by decide) ?_
    refine r_iadd E (Mo_wayEnd_dc.at 39 rfl) ?_
    obtain ⟨v4, ev4, h⟩ := lt1_e h
    have hv4 := inR_eq ev4 (inR_w32 _)
    refine u_ist_n (y := v4) (vs' := [some (zR G.2.2.1 x0), none, some (.int (zO x2)), some (.int (zO v4)), some (.int (zO x4))]) E ev4 (Mo_wayEnd_dc.at 40 rfl) hl (by decide) rfl (fun ls hl => ?_)
    obtain ⟨v5, ev5, h⟩ := lt1_e h
    have hv5 := inR_eq ev5 (inR_w32 _)
    refine u_iinc (y := v5) (vs' := [some (zR G.2.2.1 x0), none, some (.int (zO x2)), some (.int (zO v4)), some (.int (zO v5))]) E ev5 (Mo_wayEnd_dc.at 41 rfl) hl rfl (by decide) rfl (fun ls hl => ?_)
    refine r_goto (tgt := 5) E (Mo_wayEnd_dc.at 42 rfl) (by decide) ?_
    exact hk5 _ x0 x2 v4 v5 hx0 hx2 hv4 hv5 _ _ _ S (hl.sub (And.intro rfl (And.intro rfl (And.intro rfl (And.intro rfl True.intro))))) h
  · have h := ite_f h q
    refine u_al_n (x := x0) E (Mo_wayEnd_dc.at 28 rfl) hl rfl ?_
    refine u_gR E zf_12_18 S g1 zw_6_225 (Mo_wayEnd_dc.at 29 rfl) ?_
    refine u_il (x := x4) E (Mo_wayEnd_dc.at 30 rfl) hl rfl ?_
    obtain ⟨g6, h⟩ := ite_e h
    refine r_iald E S g2 g6 (Mo_wayEnd_dc.at 31 rfl) ?_
    refine r_bipush E (Mo_wayEnd_dc.at 32 rfl) rfl ?_
    refine r_irem E (S.1.inR _ _) (show InR 100 by decide) (by decide) (Mo_wayEnd_dc.at 33 rfl) ?_
    refine r_bipush E (Mo_wayEnd_dc.at 34 rfl) rfl ?_
    refine r_icmp_ne (tgt := 69) E (inR_w32 _) (show InR 7 by decide) (Mo_wayEnd_dc.at 35 rfl) (by decide) (fun q => ?_) (fun q => ?_)
    · have h := ite_t h q
      refine r_iconst E (Mo_wayEnd_dc.at 36 rfl) ?_
      refine r_goto (tgt := 70) E (Mo_wayEnd_dc.at 37 rfl) (by decide) ?_
      refine r_iadd E (Mo_wayEnd_dc.at 39 rfl) ?_
      obtain ⟨v7, ev7, h⟩ := lt1_e h
      have hv7 := inR_eq ev7 (inR_w32 _)
      refine u_ist_n (y := v7) (vs' := [some (zR G.2.2.1 x0), none, some (.int (zO x2)), some (.int (zO v7)), some (.int (zO x4))]) E ev7 (Mo_wayEnd_dc.at 40 rfl) hl (by decide) rfl (fun ls hl => ?_)
      obtain ⟨v8, ev8, h⟩ := lt1_e h
      have hv8 := inR_eq ev8 (inR_w32 _)
      refine u_iinc (y := v8) (vs' := [some (zR G.2.2.1 x0), none, some (.int (zO x2)), some (.int (zO v7)), some (.int (zO v8))]) E ev8 (Mo_wayEnd_dc.at 41 rfl) hl rfl (by decide) rfl (fun ls hl => ?_)
      refine r_goto (tgt := 5) E (Mo_wayEnd_dc.at 42 rfl) (by decide) ?_
      exact hk5 _ x0 x2 v7 v8 hx0 hx2 hv7 hv8 _ _ _ S (hl.sub (And.intro rfl (And.intro rfl (And.intro rfl (And.intro rfl True.intro))))) h
    · have h := ite_f h q
      refine r_iconst E (Mo_wayEnd_dc.at 38 rfl) ?_
      refine r_iadd E (Mo_wayEnd_dc.at 39 rfl) ?_
      obtain ⟨v9, ev9, h⟩ := lt1_e h
      have hv9 := inR_eq ev9 (inR_w32 _)
      refine u_ist_n (y := v9) (vs' := [some (zR G.2.2.1 x0), none, some (.int (zO x2)), some (.int (zO v9)), some (.int (zO x4))]) E ev9 (Mo_wayEnd_dc.at 40 rfl) hl (by decide) rfl (fun ls hl => ?_)
      obtain ⟨v10, ev10, h⟩ := lt1_e h
      have hv10 := inR_eq ev10 (inR_w32 _)
      refine u_iinc (y := v10) (vs' := [some (zR G.2.2.1 x0), none, some (.int (zO x2)), some (.int (zO v9)), some (.int (zO v10))]) E ev10 (Mo_wayEnd_dc.at 41 rfl) hl rfl (by decide) rfl (fun ls hl => ?_)
      refine r_goto (tgt := 5) E (Mo_wayEnd_dc.at 42 rfl) (by decide) ?_
      exact hk5 _ x0 x2 v9 v10 hx0 hx2 hv9 hv10 _ _ _ S (hl.sub (And.intro rfl (And.intro rfl (And.intro rfl (And.intro rfl True.intro))))) h
theorem Mo_wayEnd_s5_w (E : zEv p m c cX12_wayEnd 5 s args RX12 meth (some .int) G) {res : Int} {k5 : zM → Int → Int → Int → Int → Option Int} (hk5 : ∀ (M : zM) (x0 : Int) (x2 : Int) (x3 : Int) (x4 : Int), InR x0 → InR x2 → InR x3 → InR x4 → ∀ (H : Heap) (locs : List Loc) (ls : Array Slot), zS G top L M s H locs → zLV ls 5 [some (zR G.2.2.1 x0), none, some (.int (zO x2)), some (.int (zO x3)), some (.int (zO x4))] → k5 M x0 x2 x3 x4 = some res → W p l e (zrm 1 0 0) s m args below meth c H locs 0 0 (MQ below (zQ G top L M (some (.int (zO res))) (InR res)) args s 0 0 (zA G)) (F0 m 5 ls [])) {M : zM} {x0 : Int} {x2 : Int} {x3 : Int} {x4 : Int} {H : Heap} {locs : List Loc} {ls : Array Slot} (hx0 : InR x0) (hx2 : InR x2) (hx3 : InR x3) (hx4 : InR x4) (S : zS G top L M s H locs) (hl : zLV ls 5 [some (zR G.2.2.1 x0), none, some (.int (zO x2)), some (.int (zO x3)), some (.int (zO x4))]) (h : Mo_wayEnd_s5 fu k5 L M x0 x2 x3 x4 = some res) : W p l e (zrm 1 0 0) s m args below meth c H locs 0 0 (MQ below (zQ G top L M (some (.int (zO res))) (InR res)) args s 0 0 (zA G)) (F0 m 5 ls []) := by
  unfold Mo_wayEnd_s5 at h
  refine u_il (x := x4) E (Mo_wayEnd_dc.at 4 rfl) hl rfl ?_
  refine u_il_n (x := x2) E (Mo_wayEnd_dc.at 5 rfl) hl rfl ?_
  refine r_icmp_ge (tgt := 78) E hx4 hx2 (Mo_wayEnd_dc.at 6 rfl) (by decide) (fun q => ?_) (fun q => ?_)
  · have h := ite_t h q
    refine u_il_n (x := x3) E (Mo_wayEnd_dc.at 7 rfl) hl rfl ?_
    refine r_if_gt (tgt := 30) E hx3 (Mo_wayEnd_dc.at 8 rfl) (by decide) (fun q => ?_) (fun q => ?_)
    · have h := ite_t h q
      exact Mo_wayEnd_b30_w (x0 := x0) (x2 := x2) (x3 := x3) (x4 := x4)  E hk5 hx0 hx2 hx3 hx4 S (hl.sub (And.intro rfl (And.intro rfl (And.intro rfl (And.intro rfl True.intro))))) h
    · have h := ite_f h q
      refine u_al_n (x := x0) E (Mo_wayEnd_dc.at 9 rfl) hl rfl ?_
      obtain ⟨g11, h⟩ := ite_e h
      refine u_gR E zf_12_18 S g11 zw_6_225 (Mo_wayEnd_dc.at 10 rfl) ?_
      refine u_il (x := x4) E (Mo_wayEnd_dc.at 11 rfl) hl rfl ?_
      obtain ⟨g12, h⟩ := ite_e h
      obtain ⟨g13, h⟩ := ite_e h
      refine r_iald E S g12 g13 (Mo_wayEnd_dc.at 12 rfl) ?_
      refine r_bipush E (Mo_wayEnd_dc.at 13 rfl) rfl ?_
      refine r_irem E (S.1.inR _ _) (show InR 100 by decide) (by decide) (Mo_wayEnd_dc.at 14 rfl) ?_
      refine r_bipush E (Mo_wayEnd_dc.at 15 rfl) rfl ?_
      refine r_icmp_eq (tgt := 78) E (inR_w32 _) (show InR 9 by decide) (Mo_wayEnd_dc.at 16 rfl) (by decide) (fun q => ?_) (fun q => ?_)
      · have h := ite_t h q
        refine u_il (x := x4) E (Mo_wayEnd_dc.at 43 rfl) hl rfl ?_
        cases h
        exact r_iret E S hx4 (Mo_wayEnd_dc.at 44 rfl)
      · have h := ite_f h q
        exact Mo_wayEnd_b30_w (x0 := x0) (x2 := x2) (x3 := x3) (x4 := x4)  E hk5 hx0 hx2 hx3 hx4 S (hl.sub (And.intro rfl (And.intro rfl (And.intro rfl (And.intro rfl True.intro))))) h
  · have h := ite_f h q
    refine u_il (x := x4) E (Mo_wayEnd_dc.at 43 rfl) hl rfl ?_
    cases h
    exact r_iret E S hx4 (Mo_wayEnd_dc.at 44 rfl)
theorem Mo_wayEnd_l5_w (E : zEv p m c cX12_wayEnd 5 s args RX12 meth (some .int) G) {res : Int} : ∀ (n : Nat) (M : zM) (x0 : Int) (x2 : Int) (x3 : Int) (x4 : Int), InR x0 → InR x2 → InR x3 → InR x4 → ∀ (H : Heap) (locs : List Loc) (ls : Array Slot), zS G top L M s H locs → zLV ls 5 [some (zR G.2.2.1 x0), none, some (.int (zO x2)), some (.int (zO x3)), some (.int (zO x4))] → Mo_wayEnd_l5 fu L n M x0 x2 x3 x4 = some res → W p l e (zrm 1 0 0) s m args below meth c H locs 0 0 (MQ below (zQ G top L M (some (.int (zO res))) (InR res)) args s 0 0 (zA G)) (F0 m 5 ls [])
  | 0, _, _, _, _, _ => fun _ _ _ _ _ _ _ _ _ h => (by cases h)
  | n + 1, M, x0, x2, x3, x4 => fun hx0 hx2 hx3 hx4 H locs ls S hl h => Mo_wayEnd_s5_w E (fun M x0 x2 x3 x4 hx0 hx2 hx3 hx4 H locs ls S hl h => Mo_wayEnd_l5_w E n M x0 x2 x3 x4 hx0 hx2 hx3 hx4 H locs ls S hl h) hx0 hx2 hx3 hx4 S hl h
theorem Mo_wayEnd_w (E : zEv p m c cX12_wayEnd 5 s args RX12 meth (some .int) G) {res : Int} {M : zM} {a0 : Int} {a1 : Int} {a2 : Int} {H : Heap} {locs : List Loc} {ls : Array Slot} (ha0 : InR a0) (ha1 : InR a1) (ha2 : InR a2) (S : zS G top L M s H locs) (hl : zLV ls 5 [some (zR G.2.2.1 a0), some (.int (zO a1)), some (.int (zO a2)), none, none]) (h : Mo_wayEnd fu L M a0 a1 a2 = some res) : W p l e (zrm 1 0 0) s m args below meth c H locs 0 0 (MQ below (zQ G top L M (some (.int (zO res))) (InR res)) args s 0 0 (zA G)) (F0 m 0 ls []) := by
  unfold Mo_wayEnd at h
  refine r_iconst E (Mo_wayEnd_dc.at 0 rfl) ?_
  refine u_ist_n (y := 0) (vs' := [some (zR G.2.2.1 a0), some (.int (zO a1)), some (.int (zO a2)), some (.int (zO 0)), none]) E rfl (Mo_wayEnd_dc.at 1 rfl) hl (by decide) rfl (fun ls hl => ?_)
  refine u_il_n (x := a1) E (Mo_wayEnd_dc.at 2 rfl) hl rfl ?_
  refine u_ist (y := a1) (vs' := [some (zR G.2.2.1 a0), some (.int (zO a1)), some (.int (zO a2)), some (.int (zO 0)), some (.int (zO a1))]) E rfl (Mo_wayEnd_dc.at 3 rfl) hl (by decide) rfl (fun ls hl => ?_)
  exact Mo_wayEnd_l5_w E fu _ a0 a2 0 a1 ha0 ha2 (show InR 0 by decide) ha1 _ _ _ S (hl.sub (And.intro rfl (And.intro rfl (And.intro rfl (And.intro rfl True.intro))))) h
theorem Mo_wayEnd_c (l : Launch) (G : zG) (fu : Nat) (top : Int) (L : zL) (M : zM) (a0 : Int) (a1 : Int) (a2 : Int) {res : Int} (ha0 : InR a0) (ha1 : InR a1) (ha2 : InR a2) (h : Mo_wayEnd fu L M a0 a1 a2 = some res) : Met l yX12_wayEnd (Cond.code yX12_wayEnd cX12_wayEnd 5 (some .int) :: zTB) (zrm 1 0 0) (va_Pc [zR G.2.2.1 a0, .int (zO a1), .int (zO a2)] (zPre G top L M)) (zQ G top L M (some (.int (zO res))) (InR res)) 0 0 (zA G) :=
  z_met (by decide +kernel) (by simp [zR_cat, zcat_I, zcat_S]) (Nat.le_of_ble_eq_true rfl) fun p e s m below meth c ls E hn S hl => Mo_wayEnd_w E ha0 ha1 ha2 S (hl.sub (And.intro rfl (And.intro rfl (And.intro rfl True.intro)))) h
end
theorem Mo_ways_dc : zDL cX12_ways [(0, .aload_n 0, 1, 1), (1, .iconst 0, 1, 2), (2, .putfield 66, 3, 5), (5, .aload_n 0, 1, 6), (6, .iload_n 1, 1, 7), (7, .invokevirtual 282, 3, 10), (10, .ifCond .ne 5, 3, 13), (13, .iconst (-1), 1, 14), (14, .ireturn, 1, 15), (15, .iload_n 1, 1, 16), (16, .invokestatic 271, 3, 19), (19, .iconst 5, 1, 20), (20, .iadd, 1, 21), (21, .istore_n 2, 1, 22), (22, .iload_n 2, 1, 23), (23, .aload_n 0, 1, 24), (24, .getfield 31, 3, 27), (27, .iload_n 1, 1, 28), (28, .invokestatic 271, 3, 31), (31, .iconst 4, 1, 32), (32, .iadd, 1, 33), (33, .iaload, 1, 34), (34, .iadd, 1, 35), (35, .istore_n 3, 1, 36), (36, .iconst 0, 1, 37), (37, .istore 4, 2, 39), (39, .iconst 0, 1, 40), (40, .istore 5, 2, 42), (42, .iload 5, 2, 44), (44, .aload_n 0, 1, 45), (45, .getfield 31, 3, 48), (48, .iload_n 1, 1, 49), (49, .invokestatic 271, 3, 52), (52, .iconst 3, 1, 53), (53, .iadd, 1, 54), (54, .iaload, 1, 55), (55, .if_icmp .ge 56, 3, 58), (58, .aload_n 0, 1, 59), (59, .iload_n 2, 1, 60), (60, .putfield 496, 3, 63), (63, .aload_n 0, 1, 64), (64, .aload_n 0, 1, 65), (65, .iload_n 2, 1, 66), (66, .iload_n 3, 1, 67), (67, .invokevirtual 557, 3, 70), (70, .putfield 499, 3, 73), (73, .iload 4, 2, 75), (75, .aload_n 0, 1, 76), (76, .iload_n 1, 1, 77), (77, .aload_n 0, 1, 78), (78, .invokevirtual 524, 3, 81), (81, .invokevirtual 527, 3, 84), (84, .ifCond .eq 10, 3, 87), (87, .iconst 1, 1, 88), (88, .iload 5, 2, 90), (90, .ishl, 1, 91), (91, .goto 4, 3, 94), (94, .iconst 0, 1, 95), (95, .ior, 1, 96), (96, .istore 4, 2, 98), (98, .aload_n 0, 1, 99), (99, .getfield 499, 3, 102), (102, .iconst 1, 1, 103), (103, .iadd, 1, 104), (104, .istore_n 2, 1, 105), (105, .iinc 5 1, 3, 108), (108, .goto (-66), 3, 111), (111, .iload 4, 2, 113), (113, .ireturn, 1, 114)] := zDL.of (by decide +kernel)
section
variable {p : Program} {l : Launch} {e : Env} {s : State} {m : MethodId} {args : Array Value} {below : List Frame} {meth : Method} {c : Code} {G : zG} {top : Int} {L : zL} {fu : Nat}
theorem Mo_ways_b95_w (E : zEv p m c cX12_ways 6 s args RX12 meth (some .int) G) {res : (zM × Int)} {k42 : zM → Int → Int → Int → Int → Int → Int → Option (zM × Int)} (hk42 : ∀ (M : zM) (x0 : Int) (x1 : Int) (x2 : Int) (x3 : Int) (x4 : Int) (x5 : Int), InR x0 → InR x1 → InR x2 → InR x3 → InR x4 → InR x5 → ∀ (H : Heap) (locs : List Loc) (ls : Array Slot), zS G top L M s H locs → zLV ls 6 [some (zR G.2.2.1 x0), some (.int (zO x1)), some (.int (zO x2)), some (.int (zO x3)), some (.int (zO x4)), some (.int (zO x5))] → k42 M x0 x1 x2 x3 x4 x5 = some res → W p l e (zrm 48 0 0) s m args below meth c H locs 0 0 (MQ below (zQ G top L res.1 (some (.int (zO res.2))) (InR res.2)) args s 0 0 (zA G)) (F0 m 42 ls [])) {M : zM} {x0 : Int} {x1 : Int} {x3 : Int} {x5 : Int} {y0 : Int} {y1 : Int} {H : Heap} {locs : List Loc} {ls : Array Slot} (hx0 : InR x0) (hx1 : InR x1) (hx3 : InR x3) (hx5 : InR x5) (hy0 : InR y0) (hy1 : InR y1) (S : zS G top L M s H locs) (hl : zLV ls 6 [some (zR G.2.2.1 x0), some (.int (zO x1)), none, some (.int (zO x3)), none, some (.int (zO x5))]) (h : Mo_ways_b95 fu k42 L M x0 x1 x3 x5 y0 y1 = some res) : W p l e (zrm 48 0 0) s m args below meth c H locs 0 0 (MQ below (zQ G top L res.1 (some (.int (zO res.2))) (InR res.2)) args s 0 0 (zA G)) (F0 m 95 ls [.int (zO y1), .int (zO y0)]) := by
  unfold Mo_ways_b95 at h
  refine r_ior E (Mo_ways_dc.at 58 rfl) ?_
  obtain ⟨v30, ev30, h⟩ := lt1_e h
  have hv30 := inR_eq ev30 (inR_ior _ _)
  refine u_ist (y := v30) (vs' := [some (zR G.2.2.1 x0), some (.int (zO x1)), none, some (.int (zO x3)), some (.int (zO v30)), some (.int (zO x5))]) E ev30 (Mo_ways_dc.at 59 rfl) hl (by decide) rfl (fun ls hl => ?_)
  refine u_al_n (x := x0) E (Mo_ways_dc.at 60 rfl) hl rfl ?_
  obtain ⟨g31, h⟩ := ite_e h
  refine u_gI E zf_12_46 S g31 zw_7_13 (Mo_ways_dc.at 61 rfl) ?_
  refine r_iconst E (Mo_ways_dc.at 62 rfl) ?_
  refine r_iadd E (Mo_ways_dc.at 63 rfl) ?_
  obtain ⟨v32, ev32, h⟩ := lt1_e h
  have hv32 := inR_eq ev32 (inR_w32 _)
  refine u_ist_n (y := v32) (vs' := [some (zR G.2.2.1 x0), some (.int (zO x1)), some (.int (zO v32)), some (.int (zO x3)), some (.int (zO v30)), some (.int (zO x5))]) E ev32 (Mo_ways_dc.at 64 rfl) hl (by decide) rfl (fun ls hl => ?_)
  obtain ⟨v33, ev33, h⟩ := lt1_e h
  have hv33 := inR_eq ev33 (inR_w32 _)
  refine u_iinc (y := v33) (vs' := [some (zR G.2.2.1 x0), some (.int (zO x1)), some (.int (zO v32)), some (.int (zO x3)), some (.int (zO v30)), some (.int (zO v33))]) E ev33 (Mo_ways_dc.at 65 rfl) hl rfl (by decide) rfl (fun ls hl => ?_)
  refine r_goto (tgt := 42) E (Mo_ways_dc.at 66 rfl) (by decide) ?_
  exact hk42 _ x0 x1 v32 x3 v30 v33 hx0 hx1 hv32 hx3 hv30 hv33 _ _ _ S (hl.sub (And.intro rfl (And.intro rfl (And.intro rfl (And.intro rfl (And.intro rfl (And.intro rfl True.intro))))))) h
theorem Mo_ways_s42_w (E : zEv p m c cX12_ways 6 s args RX12 meth (some .int) G) {res : (zM × Int)} {k42 : zM → Int → Int → Int → Int → Int → Int → Option (zM × Int)} (hk42 : ∀ (M : zM) (x0 : Int) (x1 : Int) (x2 : Int) (x3 : Int) (x4 : Int) (x5 : Int), InR x0 → InR x1 → InR x2 → InR x3 → InR x4 → InR x5 → ∀ (H : Heap) (locs : List Loc) (ls : Array Slot), zS G top L M s H locs → zLV ls 6 [some (zR G.2.2.1 x0), some (.int (zO x1)), some (.int (zO x2)), some (.int (zO x3)), some (.int (zO x4)), some (.int (zO x5))] → k42 M x0 x1 x2 x3 x4 x5 = some res → W p l e (zrm 48 0 0) s m args below meth c H locs 0 0 (MQ below (zQ G top L res.1 (some (.int (zO res.2))) (InR res.2)) args s 0 0 (zA G)) (F0 m 42 ls [])) {M : zM} {x0 : Int} {x1 : Int} {x2 : Int} {x3 : Int} {x4 : Int} {x5 : Int} {H : Heap} {locs : List Loc} {ls : Array Slot} (hx0 : InR x0) (hx1 : InR x1) (hx2 : InR x2) (hx3 : InR x3) (hx4 : InR x4) (hx5 : InR x5) (S : zS G top L M s H locs) (hl : zLV ls 6 [some (zR G.2.2.1 x0), some (.int (zO x1)), some (.int (zO x2)), some (.int (zO x3)), some (.int (zO x4)), some (.int (zO x5))]) (h : Mo_ways_s42 fu k42 L M x0 x1 x2 x3 x4 x5 = some res) : W p l e (zrm 48 0 0) s m args below meth c H locs 0 0 (MQ below (zQ G top L res.1 (some (.int (zO res.2))) (InR res.2)) args s 0 0 (zA G)) (F0 m 42 ls []) := by
  unfold Mo_ways_s42 at h
  refine u_il (x := x5) E (Mo_ways_dc.at 28 rfl) hl rfl ?_
  refine u_al_n (x := x0) E (Mo_ways_dc.at 29 rfl) hl rfl ?_
  obtain ⟨g14, h⟩ := ite_e h
  refine u_gR E zf_12_18 S g14 zw_6_225 (Mo_ways_dc.at 30 rfl) ?_
  refine u_il_n (x := x1) E (Mo_ways_dc.at 31 rfl) hl rfl ?_
  obtain ⟨r15, er15, h⟩ := bd1_e h
  refine u_cSI (As := [.int (zO x1)]) (rest := [zR G.2.2.1 (M x0 18), .int (zO x5)]) E S zcw_yX12_giftAt zw_8_69 zw_8_68 (Mo_giftAt_c l G fu top L M x1 hx1 er15) (zrm_ok (by decide) (by decide)) ⟨Nat.le_refl 0, Nat.le_refl 0⟩ rfl (by simp [zR_cat, zcat_I, zcat_J, zcat_S]) hl.size rfl (Mo_ways_dc.at 32 rfl) (fun H locs hr15 S16 => ?_)
  refine r_iconst E (Mo_ways_dc.at 33 rfl) ?_
  refine r_iadd E (Mo_ways_dc.at 34 rfl) ?_
  obtain ⟨g17, h⟩ := ite_e h
  obtain ⟨g18, h⟩ := ite_e h
  refine r_iald E S16 g17 g18 (Mo_ways_dc.at 35 rfl) ?_
  refine r_icmp_ge (tgt := 111) E hx5 (S16.1.inR _ _) (Mo_ways_dc.at 36 rfl) (by decide) (fun q => ?_) (fun q => ?_)
  · have h := ite_t h q
    refine u_al_n (x := x0) E (Mo_ways_dc.at 37 rfl) hl rfl ?_
    refine u_il_n (x := x2) E (Mo_ways_dc.at 38 rfl) hl rfl ?_
    obtain ⟨M19, eM19, h⟩ := lt1_e h
    refine u_pI E eM19 zf_12_45 S16 g14 hx2 (Or.inl rfl) rfl zw_7_12 (Mo_ways_dc.at 39 rfl) (fun H locs S20 => ?_)
    refine u_al_n (x := x0) E (Mo_ways_dc.at 40 rfl) hl rfl ?_
    refine u_al_n (x := x0) E (Mo_ways_dc.at 41 rfl) hl rfl ?_
    refine u_il_n (x := x2) E (Mo_ways_dc.at 42 rfl) hl rfl ?_
    refine u_il_n (x := x3) E (Mo_ways_dc.at 43 rfl) hl rfl ?_
    obtain ⟨r21, er21, h⟩ := bd1_e h
    refine u_cVI (As := [.int (zO x2), .int (zO x3)]) (rest := [zR G.2.2.1 x0]) E S20 zcw_yX12_wayEnd zw_9_182 zq_9_1 zw_9_180 zck_12.1 rfl g14 (Mo_wayEnd_c l G fu top L M19 x0 x2 x3 hx0 hx2 hx3 er21) (zrm_ok (by decide) (by decide)) ⟨Nat.le_refl 0, Nat.le_refl 0⟩ rfl (by simp [zR_cat, zcat_I, zcat_J, zcat_S]) hl.size rfl (Mo_ways_dc.at 44 rfl) (fun H locs hr21 S22 => ?_)
    obtain ⟨M23, eM23, h⟩ := lt1_e h
    refine u_pI E eM23 zf_12_46 S22 g14 hr21 (Or.inl rfl) rfl zw_7_13 (Mo_ways_dc.at 45 rfl) (fun H locs S24 => ?_)
    refine u_il (x := x4) E (Mo_ways_dc.at 46 rfl) hl rfl ?_
    refine u_al_n (x := x0) E (Mo_ways_dc.at 47 rfl) hl rfl ?_
    refine u_il_n (x := x1) E (Mo_ways_dc.at 48 rfl) hl rfl ?_
    refine u_al_n (x := x0) E (Mo_ways_dc.at 49 rfl) hl rfl ?_
    obtain ⟨r25, er25, h⟩ := bd1_e h
    refine u_cVI (As := []) (rest := [.int (zO x1), zR G.2.2.1 x0, .int (zO x4)]) E S24 zcw_yX12_allLives zw_9_79 zq_7_13 zw_9_77 zck_12.1 rfl g14 (Mo_allLives_c l G fu top L M23 x0 hx0 er25) (zrm_ok (by decide) (by decide)) ⟨Nat.le_refl 0, Nat.le_refl 0⟩ rfl (by simp [zR_cat, zcat_I, zcat_J, zcat_S]) hl.size rfl (Mo_ways_dc.at 50 rfl) (fun H locs hr25 S26 => ?_)
    obtain ⟨M28, r27, er27, h⟩ := bd2_e h
    refine u_cVI (As := [.int (zO x1), .int (zO r25)]) (rest := [.int (zO x4)]) E S26 zcw_yX12_isGood zw_9_83 zq_7_14 zw_9_81 zck_12.1 rfl g14 (Mo_isGood_c l G fu top L M23 x0 x1 r25 hx0 hx1 hr25 er27) (zrm_ok (by decide) (by decide)) ⟨Nat.le_refl 0, Nat.le_refl 0⟩ rfl (by simp [zR_cat, zcat_I, zcat_J, zcat_S]) hl.size rfl (Mo_ways_dc.at 51 rfl) (fun H locs hr27 S29 => ?_)
    refine r_if_eq (tgt := 94) E (inR_01 hr27) (Mo_ways_dc.at 52 rfl) (by decide) (fun q => ?_) (fun q => ?_)
    · have h := ite_t h q
      refine r_iconst E (Mo_ways_dc.at 57 rfl) ?_
      exact Mo_ways_b95_w (x0 := x0) (x1 := x1) (x3 := x3) (x5 := x5) (y0 := x4) (y1 := 0) E hk42 hx0 hx1 hx3 hx5 hx4 (show InR 0 by decide) S29 (hl.sub (And.intro rfl (And.intro rfl (And.intro rfl (And.intro rfl True.intro))))) h
    · have h := ite_f h q
      refine r_iconst E (Mo_ways_dc.at 53 rfl) ?_
      refine u_il (x := x5) E (Mo_ways_dc.at 54 rfl) hl rfl ?_
      refine r_ishl E (Mo_ways_dc.at 55 rfl) ?_
      refine r_goto (tgt := 95) E (Mo_ways_dc.at 56 rfl) (by decide) ?_
      exact Mo_ways_b95_w (x0 := x0) (x1 := x1) (x3 := x3) (x5 := x5) (y0 := x4) (y1 := (ishl 1 x5)) E hk42 hx0 hx1 hx3 hx5 hx4 (inR_ishl _ _) S29 (hl.sub (And.intro rfl (And.intro rfl (And.intro rfl (And.intro rfl True.intro))))) h
  · have h := ite_f h q
    refine u_il (x := x4) E (Mo_ways_dc.at 67 rfl) hl rfl ?_
    cases h
    exact r_iret E S16 hx4 (Mo_ways_dc.at 68 rfl)
theorem Mo_ways_l42_w (E : zEv p m c cX12_ways 6 s args RX12 meth (some .int) G) {res : (zM × Int)} : ∀ (n : Nat) (M : zM) (x0 : Int) (x1 : Int) (x2 : Int) (x3 : Int) (x4 : Int) (x5 : Int), InR x0 → InR x1 → InR x2 → InR x3 → InR x4 → InR x5 → ∀ (H : Heap) (locs : List Loc) (ls : Array Slot), zS G top L M s H locs → zLV ls 6 [some (zR G.2.2.1 x0), some (.int (zO x1)), some (.int (zO x2)), some (.int (zO x3)), some (.int (zO x4)), some (.int (zO x5))] → Mo_ways_l42 fu L n M x0 x1 x2 x3 x4 x5 = some res → W p l e (zrm 48 0 0) s m args below meth c H locs 0 0 (MQ below (zQ G top L res.1 (some (.int (zO res.2))) (InR res.2)) args s 0 0 (zA G)) (F0 m 42 ls [])
  | 0, _, _, _, _, _, _, _ => fun _ _ _ _ _ _ _ _ _ _ _ h => (by cases h)
  | n + 1, M, x0, x1, x2, x3, x4, x5 => fun hx0 hx1 hx2 hx3 hx4 hx5 H locs ls S hl h => Mo_ways_s42_w E (fun M x0 x1 x2 x3 x4 x5 hx0 hx1 hx2 hx3 hx4 hx5 H locs ls S hl h => Mo_ways_l42_w E n M x0 x1 x2 x3 x4 x5 hx0 hx1 hx2 hx3 hx4 hx5 H locs ls S hl h) hx0 hx1 hx2 hx3 hx4 hx5 S hl h
theorem Mo_ways_w (E : zEv p m c cX12_ways 6 s args RX12 meth (some .int) G) {res : (zM × Int)} {M : zM} {a0 : Int} {a1 : Int} {H : Heap} {locs : List Loc} {ls : Array Slot} (ha0 : InR a0) (ha1 : InR a1) (S : zS G top L M s H locs) (hl : zLV ls 6 [some (zR G.2.2.1 a0), some (.int (zO a1)), none, none, none, none]) (h : Mo_ways fu L M a0 a1 = some res) : W p l e (zrm 48 0 0) s m args below meth c H locs 0 0 (MQ below (zQ G top L res.1 (some (.int (zO res.2))) (InR res.2)) args s 0 0 (zA G)) (F0 m 0 ls []) := by
  unfold Mo_ways at h
  refine u_al_n (x := a0) E (Mo_ways_dc.at 0 rfl) hl rfl ?_
  refine r_iconst E (Mo_ways_dc.at 1 rfl) ?_
  obtain ⟨g1, h⟩ := ite_e h
  obtain ⟨M2, eM2, h⟩ := lt1_e h
  refine u_pI E eM2 zf_12_0 S g1 (show InR 0 by decide) (Or.inl rfl) rfl zw_6_207 (Mo_ways_dc.at 2 rfl) (fun H locs S3 => ?_)
  refine u_al_n (x := a0) E (Mo_ways_dc.at 3 rfl) hl rfl ?_
  refine u_il_n (x := a1) E (Mo_ways_dc.at 4 rfl) hl rfl ?_
  obtain ⟨r4, er4, h⟩ := bd1_e h
  refine u_cVI (As := [.int (zO a1)]) (rest := []) E S3 zcw_yX12_isGift zw_8_77 zq_5_12 zw_8_75 zck_12.1 rfl g1 (Mo_isGift_c l G fu top L M2 a0 a1 ha0 ha1 er4) (zrm_ok (by decide) (by decide)) ⟨Nat.le_refl 0, Nat.le_refl 0⟩ rfl (Nat.zero_le 8) hl.size rfl (Mo_ways_dc.at 5 rfl) (fun H locs hr4 S5 => ?_)
  refine r_if_ne (tgt := 15) E (inR_01 hr4) (Mo_ways_dc.at 6 rfl) (by decide) (fun q => ?_) (fun q => ?_)
  · have h := ite_t h q
    refine r_iconst E (Mo_ways_dc.at 7 rfl) ?_
    cases h
    exact r_iret E S5 (show InR (-1) by decide) (Mo_ways_dc.at 8 rfl)
  · have h := ite_f h q
    refine u_il_n (x := a1) E (Mo_ways_dc.at 9 rfl) hl rfl ?_
    obtain ⟨r6, er6, h⟩ := bd1_e h
    refine u_cSI (As := [.int (zO a1)]) (rest := []) E S5 zcw_yX12_giftAt zw_8_69 zw_8_68 (Mo_giftAt_c l G fu top L M2 a1 ha1 er6) (zrm_ok (by decide) (by decide)) ⟨Nat.le_refl 0, Nat.le_refl 0⟩ rfl (Nat.zero_le 8) hl.size rfl (Mo_ways_dc.at 10 rfl) (fun H locs hr6 S7 => ?_)
    refine r_iconst E (Mo_ways_dc.at 11 rfl) ?_
    refine r_iadd E (Mo_ways_dc.at 12 rfl) ?_
    obtain ⟨v8, ev8, h⟩ := lt1_e h
    have hv8 := inR_eq ev8 (inR_w32 _)
    refine u_ist_n (y := v8) (vs' := [some (zR G.2.2.1 a0), some (.int (zO a1)), some (.int (zO v8)), none, none, none]) E ev8 (Mo_ways_dc.at 13 rfl) hl (by decide) rfl (fun ls hl => ?_)
    refine u_il_n (x := v8) E (Mo_ways_dc.at 14 rfl) hl rfl ?_
    refine u_al_n (x := a0) E (Mo_ways_dc.at 15 rfl) hl rfl ?_
    refine u_gR E zf_12_18 S7 g1 zw_6_225 (Mo_ways_dc.at 16 rfl) ?_
    refine u_il_n (x := a1) E (Mo_ways_dc.at 17 rfl) hl rfl ?_
    obtain ⟨r9, er9, h⟩ := bd1_e h
    refine u_cSI (As := [.int (zO a1)]) (rest := [zR G.2.2.1 (M2 a0 18), .int (zO v8)]) E S7 zcw_yX12_giftAt zw_8_69 zw_8_68 (Mo_giftAt_c l G fu top L M2 a1 ha1 er9) (zrm_ok (by decide) (by decide)) ⟨Nat.le_refl 0, Nat.le_refl 0⟩ rfl (by simp [zR_cat, zcat_I, zcat_J, zcat_S]) hl.size rfl (Mo_ways_dc.at 18 rfl) (fun H locs hr9 S10 => ?_)
    refine r_iconst E (Mo_ways_dc.at 19 rfl) ?_
    refine r_iadd E (Mo_ways_dc.at 20 rfl) ?_
    obtain ⟨g11, h⟩ := ite_e h
    obtain ⟨g12, h⟩ := ite_e h
    refine r_iald E S10 g11 g12 (Mo_ways_dc.at 21 rfl) ?_
    refine r_iadd E (Mo_ways_dc.at 22 rfl) ?_
    obtain ⟨v13, ev13, h⟩ := lt1_e h
    have hv13 := inR_eq ev13 (inR_w32 _)
    refine u_ist_n (y := v13) (vs' := [some (zR G.2.2.1 a0), some (.int (zO a1)), some (.int (zO v8)), some (.int (zO v13)), none, none]) E ev13 (Mo_ways_dc.at 23 rfl) hl (by decide) rfl (fun ls hl => ?_)
    refine r_iconst E (Mo_ways_dc.at 24 rfl) ?_
    refine u_ist (y := 0) (vs' := [some (zR G.2.2.1 a0), some (.int (zO a1)), some (.int (zO v8)), some (.int (zO v13)), some (.int (zO 0)), none]) E rfl (Mo_ways_dc.at 25 rfl) hl (by decide) rfl (fun ls hl => ?_)
    refine r_iconst E (Mo_ways_dc.at 26 rfl) ?_
    refine u_ist (y := 0) (vs' := [some (zR G.2.2.1 a0), some (.int (zO a1)), some (.int (zO v8)), some (.int (zO v13)), some (.int (zO 0)), some (.int (zO 0))]) E rfl (Mo_ways_dc.at 27 rfl) hl (by decide) rfl (fun ls hl => ?_)
    exact Mo_ways_l42_w E fu _ a0 a1 v8 v13 0 0 ha0 ha1 hv8 hv13 (show InR 0 by decide) (show InR 0 by decide) _ _ _ S10 (hl.sub (And.intro rfl (And.intro rfl (And.intro rfl (And.intro rfl (And.intro rfl (And.intro rfl True.intro))))))) h
theorem Mo_ways_c (l : Launch) (G : zG) (fu : Nat) (top : Int) (L : zL) (M : zM) (a0 : Int) (a1 : Int) {res : (zM × Int)} (ha0 : InR a0) (ha1 : InR a1) (h : Mo_ways fu L M a0 a1 = some res) : Met l yX12_ways (Cond.code yX12_ways cX12_ways 6 (some .int) :: zTB) (zrm 48 0 0) (va_Pc [zR G.2.2.1 a0, .int (zO a1)] (zPre G top L M)) (zQ G top L res.1 (some (.int (zO res.2))) (InR res.2)) 0 0 (zA G) :=
  z_met (by decide +kernel) (by simp [zR_cat, zcat_I, zcat_S]) (Nat.le_of_ble_eq_true rfl) fun p e s m below meth c ls E hn S hl => Mo_ways_w E ha0 ha1 S (hl.sub (And.intro rfl (And.intro rfl True.intro))) h
end
theorem Mo_lowered_dc : zDL cX12_lowered [(0, .aload_n 0, 1, 1), (1, .iconst 0, 1, 2), (2, .putfield 66, 3, 5), (5, .aload_n 0, 1, 6), (6, .iload_n 1, 1, 7), (7, .invokevirtual 282, 3, 10), (10, .ifCond .ne 5, 3, 13), (13, .iconst (-1), 1, 14), (14, .ireturn, 1, 15), (15, .aload_n 0, 1, 16), (16, .iload_n 1, 1, 17), (17, .invokevirtual 521, 3, 20), (20, .iconst (-1), 1, 21), (21, .istore_n 2, 1, 22), (22, .bipush 99, 2, 24), (24, .istore_n 3, 1, 25), (25, .iload_n 3, 1, 26), (26, .ifCond .lt 37, 3, 29), (29, .iload_n 2, 1, 30), (30, .iconst (-1), 1, 31), (31, .if_icmp .ne 32, 3, 34), (34, .aload_n 0, 1, 35), (35, .iload_n 3, 1, 36), (36, .putfield 50, 3, 39), (39, .aload_n 0, 1, 40), (40, .iload_n 1, 1, 41), (41, .aload_n 0, 1, 42), (42, .invokevirtual 524, 3, 45), (45, .invokevirtual 527, 3, 48), (48, .ifCond .eq 7, 3, 51), (51, .iload_n 3, 1, 52), (52, .goto 4, 3, 55), (55, .iconst (-1), 1, 56), (56, .istore_n 2, 1, 57), (57, .iinc 3 (-1), 3, 60), (60, .goto (-35), 3, 63), (63, .aload_n 0, 1, 64), (64, .bipush 99, 2, 66), (66, .putfield 50, 3, 69), (69, .iload_n 2, 1, 70), (70, .ireturn, 1, 71)] := zDL.of (by decide +kernel)
section
variable {p : Program} {l : Launch} {e : Env} {s : State} {m : MethodId} {args : Array Value} {below : List Frame} {meth : Method} {c : Code} {G : zG} {top : Int} {L : zL} {fu : Nat}
theorem Mo_lowered_s25_w (E : zEv p m c cX12_lowered 4 s args RX12 meth (some .int) G) {res : (zM × Int)} {k25 : zM → Int → Int → Int → Int → Option (zM × Int)} (hk25 : ∀ (M : zM) (x0 : Int) (x1 : Int) (x2 : Int) (x3 : Int), InR x0 → InR x1 → InR x2 → InR x3 → ∀ (H : Heap) (locs : List Loc) (ls : Array Slot), zS G top L M s H locs → zLV ls 4 [some (zR G.2.2.1 x0), some (.int (zO x1)), some (.int (zO x2)), some (.int (zO x3))] → k25 M x0 x1 x2 x3 = some res → W p l e (zrm 48 0 0) s m args below meth c H locs 0 0 (MQ below (zQ G top L res.1 (some (.int (zO res.2))) (InR res.2)) args s 0 0 (zA G)) (F0 m 25 ls [])) {M : zM} {x0 : Int} {x1 : Int} {x2 : Int} {x3 : Int} {H : Heap} {locs : List Loc} {ls : Array Slot} (hx0 : InR x0) (hx1 : InR x1) (hx2 : InR x2) (hx3 : InR x3) (S : zS G top L M s H locs) (hl : zLV ls 4 [some (zR G.2.2.1 x0), some (.int (zO x1)), some (.int (zO x2)), some (.int (zO x3))]) (h : Mo_lowered_s25 fu k25 L M x0 x1 x2 x3 = some res) : W p l e (zrm 48 0 0) s m args below meth c H locs 0 0 (MQ below (zQ G top L res.1 (some (.int (zO res.2))) (InR res.2)) args s 0 0 (zA G)) (F0 m 25 ls []) := by
  unfold Mo_lowered_s25 at h
  refine u_il_n (x := x3) E (Mo_lowered_dc.at 16 rfl) hl rfl ?_
  refine r_if_lt (tgt := 63) E hx3 (Mo_lowered_dc.at 17 rfl) (by decide) (fun q => ?_) (fun q => ?_)
  · have h := ite_t h q
    refine u_al_n (x := x0) E (Mo_lowered_dc.at 36 rfl) hl rfl ?_
    refine r_bipush E (Mo_lowered_dc.at 37 rfl) rfl ?_
    obtain ⟨g8, h⟩ := ite_e h
    obtain ⟨M9, eM9, h⟩ := lt1_e h
    refine u_pI E eM9 zf_12_32 S g8 (show InR 99 by decide) (Or.inl rfl) rfl zw_6_239 (Mo_lowered_dc.at 38 rfl) (fun H locs S10 => ?_)
    refine u_il_n (x := x2) E (Mo_lowered_dc.at 39 rfl) hl rfl ?_
    cases h
    exact r_iret E S10 hx2 (Mo_lowered_dc.at 40 rfl)
  · have h := ite_f h q
    refine u_il_n (x := x2) E (Mo_lowered_dc.at 18 rfl) hl rfl ?_
    refine r_iconst E (Mo_lowered_dc.at 19 rfl) ?_
    refine r_icmp_ne (tgt := 63) E hx2 (show InR (-1) by decide) (Mo_lowered_dc.at 20 rfl) (by decide) (fun q => ?_) (fun q => ?_)
    · have h := ite_t h q
      refine u_al_n (x := x0) E (Mo_lowered_dc.at 21 rfl) hl rfl ?_
      refine u_il_n (x := x3) E (Mo_lowered_dc.at 22 rfl) hl rfl ?_
      obtain ⟨g11, h⟩ := ite_e h
      obtain ⟨M12, eM12, h⟩ := lt1_e h
      refine u_pI E eM12 zf_12_32 S g11 hx3 (Or.inl rfl) rfl zw_6_239 (Mo_lowered_dc.at 23 rfl) (fun H locs S13 => ?_)
      refine u_al_n (x := x0) E (Mo_lowered_dc.at 24 rfl) hl rfl ?_
      refine u_il_n (x := x1) E (Mo_lowered_dc.at 25 rfl) hl rfl ?_
      refine u_al_n (x := x0) E (Mo_lowered_dc.at 26 rfl) hl rfl ?_
      obtain ⟨r14, er14, h⟩ := bd1_e h
      refine u_cVI (As := []) (rest := [.int (zO x1), zR G.2.2.1 x0]) E S13 zcw_yX12_allLives zw_9_79 zq_7_13 zw_9_77 zck_12.1 rfl g11 (Mo_allLives_c l G fu top L M12 x0 hx0 er14) (zrm_ok (by decide) (by decide)) ⟨Nat.le_refl 0, Nat.le_refl 0⟩ rfl (by simp [zR_cat, zcat_I, zcat_J, zcat_S]) hl.size rfl (Mo_lowered_dc.at 27 rfl) (fun H locs hr14 S15 => ?_)
      obtain ⟨M17, r16, er16, h⟩ := bd2_e h
      refine u_cVI (As := [.int (zO x1), .int (zO r14)]) (rest := []) E S15 zcw_yX12_isGood zw_9_83 zq_7_14 zw_9_81 zck_12.1 rfl g11 (Mo_isGood_c l G fu top L M12 x0 x1 r14 hx0 hx1 hr14 er16) (zrm_ok (by decide) (by decide)) ⟨Nat.le_refl 0, Nat.le_refl 0⟩ rfl (Nat.zero_le 8) hl.size rfl (Mo_lowered_dc.at 28 rfl) (fun H locs hr16 S18 => ?_)
      refine r_if_eq (tgt := 55) E (inR_01 hr16) (Mo_lowered_dc.at 29 rfl) (by decide) (fun q => ?_) (fun q => ?_)
      · have h := ite_t h q
        refine r_iconst E (Mo_lowered_dc.at 32 rfl) ?_
        refine u_ist_n (y := (-1)) (vs' := [some (zR G.2.2.1 x0), some (.int (zO x1)), some (.int (zO (-1))), some (.int (zO x3))]) E rfl (Mo_lowered_dc.at 33 rfl) hl (by decide) rfl (fun ls hl => ?_)
        obtain ⟨v19, ev19, h⟩ := lt1_e h
        have hv19 := inR_eq ev19 (inR_w32 _)
        refine u_iinc (y := v19) (vs' := [some (zR G.2.2.1 x0), some (.int (zO x1)), some (.int (zO (-1))), some (.int (zO v19))]) E ev19 (Mo_lowered_dc.at 34 rfl) hl rfl (by decide) rfl (fun ls hl => ?_)
        refine r_goto (tgt := 25) E (Mo_lowered_dc.at 35 rfl) (by decide) ?_
        exact hk25 _ x0 x1 (-1) v19 hx0 hx1 (show InR (-1) by decide) hv19 _ _ _ S18 (hl.sub (And.intro rfl (And.intro rfl (And.intro rfl (And.intro rfl True.intro))))) h
      · have h := ite_f h q
        refine u_il_n (x := x3) E (Mo_lowered_dc.at 30 rfl) hl rfl ?_
        refine r_goto (tgt := 56) E (Mo_lowered_dc.at 31 rfl) (by decide) ?_
        refine u_ist_n (y := x3) (vs' := [some (zR G.2.2.1 x0), some (.int (zO x1)), some (.int (zO x3)), some (.int (zO x3))]) E rfl (Mo_lowered_dc.at 33 rfl) hl (by decide) rfl (fun ls hl => ?_)
        obtain ⟨v20, ev20, h⟩ := lt1_e h
        have hv20 := inR_eq ev20 (inR_w32 _)
        refine u_iinc (y := v20) (vs' := [some (zR G.2.2.1 x0), some (.int (zO x1)), some (.int (zO x3)), some (.int (zO v20))]) E ev20 (Mo_lowered_dc.at 34 rfl) hl rfl (by decide) rfl (fun ls hl => ?_)
        refine r_goto (tgt := 25) E (Mo_lowered_dc.at 35 rfl) (by decide) ?_
        exact hk25 _ x0 x1 x3 v20 hx0 hx1 hx3 hv20 _ _ _ S18 (hl.sub (And.intro rfl (And.intro rfl (And.intro rfl (And.intro rfl True.intro))))) h
    · have h := ite_f h q
      refine u_al_n (x := x0) E (Mo_lowered_dc.at 36 rfl) hl rfl ?_
      refine r_bipush E (Mo_lowered_dc.at 37 rfl) rfl ?_
      obtain ⟨g21, h⟩ := ite_e h
      obtain ⟨M22, eM22, h⟩ := lt1_e h
      refine u_pI E eM22 zf_12_32 S g21 (show InR 99 by decide) (Or.inl rfl) rfl zw_6_239 (Mo_lowered_dc.at 38 rfl) (fun H locs S23 => ?_)
      refine u_il_n (x := x2) E (Mo_lowered_dc.at 39 rfl) hl rfl ?_
      cases h
      exact r_iret E S23 hx2 (Mo_lowered_dc.at 40 rfl)
theorem Mo_lowered_l25_w (E : zEv p m c cX12_lowered 4 s args RX12 meth (some .int) G) {res : (zM × Int)} : ∀ (n : Nat) (M : zM) (x0 : Int) (x1 : Int) (x2 : Int) (x3 : Int), InR x0 → InR x1 → InR x2 → InR x3 → ∀ (H : Heap) (locs : List Loc) (ls : Array Slot), zS G top L M s H locs → zLV ls 4 [some (zR G.2.2.1 x0), some (.int (zO x1)), some (.int (zO x2)), some (.int (zO x3))] → Mo_lowered_l25 fu L n M x0 x1 x2 x3 = some res → W p l e (zrm 48 0 0) s m args below meth c H locs 0 0 (MQ below (zQ G top L res.1 (some (.int (zO res.2))) (InR res.2)) args s 0 0 (zA G)) (F0 m 25 ls [])
  | 0, _, _, _, _, _ => fun _ _ _ _ _ _ _ _ _ h => (by cases h)
  | n + 1, M, x0, x1, x2, x3 => fun hx0 hx1 hx2 hx3 H locs ls S hl h => Mo_lowered_s25_w E (fun M x0 x1 x2 x3 hx0 hx1 hx2 hx3 H locs ls S hl h => Mo_lowered_l25_w E n M x0 x1 x2 x3 hx0 hx1 hx2 hx3 H locs ls S hl h) hx0 hx1 hx2 hx3 S hl h
theorem Mo_lowered_w (E : zEv p m c cX12_lowered 4 s args RX12 meth (some .int) G) {res : (zM × Int)} {M : zM} {a0 : Int} {a1 : Int} {H : Heap} {locs : List Loc} {ls : Array Slot} (ha0 : InR a0) (ha1 : InR a1) (S : zS G top L M s H locs) (hl : zLV ls 4 [some (zR G.2.2.1 a0), some (.int (zO a1)), none, none]) (h : Mo_lowered fu L M a0 a1 = some res) : W p l e (zrm 48 0 0) s m args below meth c H locs 0 0 (MQ below (zQ G top L res.1 (some (.int (zO res.2))) (InR res.2)) args s 0 0 (zA G)) (F0 m 0 ls []) := by
  unfold Mo_lowered at h
  refine u_al_n (x := a0) E (Mo_lowered_dc.at 0 rfl) hl rfl ?_
  refine r_iconst E (Mo_lowered_dc.at 1 rfl) ?_
  obtain ⟨g1, h⟩ := ite_e h
  obtain ⟨M2, eM2, h⟩ := lt1_e h
  refine u_pI E eM2 zf_12_0 S g1 (show InR 0 by decide) (Or.inl rfl) rfl zw_6_207 (Mo_lowered_dc.at 2 rfl) (fun H locs S3 => ?_)
  refine u_al_n (x := a0) E (Mo_lowered_dc.at 3 rfl) hl rfl ?_
  refine u_il_n (x := a1) E (Mo_lowered_dc.at 4 rfl) hl rfl ?_
  obtain ⟨r4, er4, h⟩ := bd1_e h
  refine u_cVI (As := [.int (zO a1)]) (rest := []) E S3 zcw_yX12_isGift zw_8_77 zq_5_12 zw_8_75 zck_12.1 rfl g1 (Mo_isGift_c l G fu top L M2 a0 a1 ha0 ha1 er4) (zrm_ok (by decide) (by decide)) ⟨Nat.le_refl 0, Nat.le_refl 0⟩ rfl (Nat.zero_le 8) hl.size rfl (Mo_lowered_dc.at 5 rfl) (fun H locs hr4 S5 => ?_)
  refine r_if_ne (tgt := 15) E (inR_01 hr4) (Mo_lowered_dc.at 6 rfl) (by decide) (fun q => ?_) (fun q => ?_)
  · have h := ite_t h q
    refine r_iconst E (Mo_lowered_dc.at 7 rfl) ?_
    cases h
    exact r_iret E S5 (show InR (-1) by decide) (Mo_lowered_dc.at 8 rfl)
  · have h := ite_f h q
    refine u_al_n (x := a0) E (Mo_lowered_dc.at 9 rfl) hl rfl ?_
    refine u_il_n (x := a1) E (Mo_lowered_dc.at 10 rfl) hl rfl ?_
    obtain ⟨M6, eM6, h⟩ := bd1_e h
    refine u_cVU (As := [.int (zO a1)]) (rest := []) E S5 zcw_yX12_asksAll zw_9_75 zq_7_12 zw_9_73 zck_12.1 rfl g1 (Mo_asksAll_c l G fu top L M2 a0 a1 ha0 ha1 eM6) (zrm_ok (by decide) (by decide)) ⟨Nat.le_refl 0, Nat.le_refl 0⟩ rfl (Nat.zero_le 8) hl.size rfl (Mo_lowered_dc.at 11 rfl) (fun H locs _ S7 => ?_)
    refine r_iconst E (Mo_lowered_dc.at 12 rfl) ?_
    refine u_ist_n (y := (-1)) (vs' := [some (zR G.2.2.1 a0), some (.int (zO a1)), some (.int (zO (-1))), none]) E rfl (Mo_lowered_dc.at 13 rfl) hl (by decide) rfl (fun ls hl => ?_)
    refine r_bipush E (Mo_lowered_dc.at 14 rfl) rfl ?_
    refine u_ist_n (y := 99) (vs' := [some (zR G.2.2.1 a0), some (.int (zO a1)), some (.int (zO (-1))), some (.int (zO 99))]) E rfl (Mo_lowered_dc.at 15 rfl) hl (by decide) rfl (fun ls hl => ?_)
    exact Mo_lowered_l25_w E fu _ a0 a1 (-1) 99 ha0 ha1 (show InR (-1) by decide) (show InR 99 by decide) _ _ _ S7 (hl.sub (And.intro rfl (And.intro rfl (And.intro rfl (And.intro rfl True.intro))))) h
theorem Mo_lowered_c (l : Launch) (G : zG) (fu : Nat) (top : Int) (L : zL) (M : zM) (a0 : Int) (a1 : Int) {res : (zM × Int)} (ha0 : InR a0) (ha1 : InR a1) (h : Mo_lowered fu L M a0 a1 = some res) : Met l yX12_lowered (Cond.code yX12_lowered cX12_lowered 4 (some .int) :: zTB) (zrm 48 0 0) (va_Pc [zR G.2.2.1 a0, .int (zO a1)] (zPre G top L M)) (zQ G top L res.1 (some (.int (zO res.2))) (InR res.2)) 0 0 (zA G) :=
  z_met (by decide +kernel) (by simp [zR_cat, zcat_I, zcat_S]) (Nat.le_of_ble_eq_true rfl) fun p e s m below meth c ls E hn S hl => Mo_lowered_w E ha0 ha1 S (hl.sub (And.intro rfl (And.intro rfl True.intro))) h
end
theorem Mo_isCourse_dc : zDL cX12_isCourse [(0, .iload_n 1, 1, 1), (1, .i2l, 1, 2), (2, .lconst 0, 1, 3), (3, .ldc2_w 563, 3, 6), (6, .invokestatic 76, 3, 9), (9, .ifCond .eq 19, 3, 12), (12, .iload_n 1, 1, 13), (13, .sipush 255, 3, 16), (16, .iand, 1, 17), (17, .aload_n 0, 1, 18), (18, .invokevirtual 524, 3, 21), (21, .if_icmp .gt 7, 3, 24), (24, .iconst 1, 1, 25), (25, .goto 4, 3, 28), (28, .iconst 0, 1, 29), (29, .ireturn, 1, 30)] := zDL.of (by decide +kernel)
section
variable {p : Program} {l : Launch} {e : Env} {s : State} {m : MethodId} {args : Array Value} {below : List Frame} {meth : Method} {c : Code} {G : zG} {top : Int} {L : zL} {fu : Nat}
theorem Mo_isCourse_w (E : zEv p m c cX12_isCourse 2 s args RX12 meth (some .boolean) G) {res : Int} {M : zM} {a0 : Int} {a1 : Int} {H : Heap} {locs : List Loc} {ls : Array Slot} (ha0 : InR a0) (ha1 : InR a1) (S : zS G top L M s H locs) (hl : zLV ls 2 [some (zR G.2.2.1 a0), some (.int (zO a1))]) (h : Mo_isCourse fu L M a0 a1 = some res) : W p l e (zrm 2 0 0) s m args below meth c H locs 0 0 (MQ below (zQ G top L M (some (.int (zO res))) (0 ≤ res ∧ res ≤ 1)) args s 0 0 (zA G)) (F0 m 0 ls []) := by
  unfold Mo_isCourse at h
  refine u_il_n (x := a1) E (Mo_isCourse_dc.at 0 rfl) hl rfl ?_
  refine r_i2l E ha1 (Mo_isCourse_dc.at 1 rfl) ?_
  refine r_lconst (x := 0) E (Mo_isCourse_dc.at 2 rfl) rfl ?_
  refine r_ldc2 (x := 511) E (Mo_isCourse_dc.at 3 rfl) zw_9_196 rfl ?_
  obtain ⟨r1, er1, h⟩ := bd1_e h
  refine u_cSI (As := [.long (Int64.ofInt a1), .long (Int64.ofInt 0), .long (Int64.ofInt 511)]) (rest := []) E S zcw_yX12_in zw_7_134 zw_7_133 (Mo_in_c l G fu top L M a1 0 511 ha1 (show InR 0 by decide) (show InR 511 by decide) er1) (zrm_ok (by decide) (by decide)) ⟨Nat.le_refl 0, Nat.le_refl 0⟩ rfl (Nat.zero_le 8) hl.size rfl (Mo_isCourse_dc.at 4 rfl) (fun H locs hr1 S2 => ?_)
  refine r_if_eq (tgt := 28) E (inR_01 hr1) (Mo_isCourse_dc.at 5 rfl) (by decide) (fun q => ?_) (fun q => ?_)
  · have h := ite_t h q
    refine r_iconst E (Mo_isCourse_dc.at 14 rfl) ?_
    cases h
    exact r_zret E S2 z01_0 z01_0 (Mo_isCourse_dc.at 15 rfl)
  · have h := ite_f h q
    refine u_il_n (x := a1) E (Mo_isCourse_dc.at 6 rfl) hl rfl ?_
    refine r_sipush E (Mo_isCourse_dc.at 7 rfl) rfl ?_
    refine r_iand E (Mo_isCourse_dc.at 8 rfl) ?_
    refine u_al_n (x := a0) E (Mo_isCourse_dc.at 9 rfl) hl rfl ?_
    obtain ⟨g3, h⟩ := ite_e h
    obtain ⟨r4, er4, h⟩ := bd1_e h
    refine u_cVI (As := []) (rest := [.int (zO (iand a1 255))]) E S2 zcw_yX12_allLives zw_9_79 zq_7_13 zw_9_77 zck_12.1 rfl g3 (Mo_allLives_c l G fu top L M a0 ha0 er4) (zrm_ok (by decide) (by decide)) ⟨Nat.le_refl 0, Nat.le_refl 0⟩ rfl (by simp [zR_cat, zcat_I, zcat_J, zcat_S]) hl.size rfl (Mo_isCourse_dc.at 10 rfl) (fun H locs hr4 S5 => ?_)
    refine r_icmp_gt (tgt := 28) E (inR_iand _ _) hr4 (Mo_isCourse_dc.at 11 rfl) (by decide) (fun q => ?_) (fun q => ?_)
    · have h := ite_t h q
      refine r_iconst E (Mo_isCourse_dc.at 14 rfl) ?_
      cases h
      exact r_zret E S5 z01_0 z01_0 (Mo_isCourse_dc.at 15 rfl)
    · have h := ite_f h q
      refine r_iconst E (Mo_isCourse_dc.at 12 rfl) ?_
      refine r_goto (tgt := 29) E (Mo_isCourse_dc.at 13 rfl) (by decide) ?_
      cases h
      exact r_zret E S5 z01_1 z01_1 (Mo_isCourse_dc.at 15 rfl)
theorem Mo_isCourse_c (l : Launch) (G : zG) (fu : Nat) (top : Int) (L : zL) (M : zM) (a0 : Int) (a1 : Int) {res : Int} (ha0 : InR a0) (ha1 : InR a1) (h : Mo_isCourse fu L M a0 a1 = some res) : Met l yX12_isCourse (Cond.code yX12_isCourse cX12_isCourse 2 (some .boolean) :: zTB) (zrm 2 0 0) (va_Pc [zR G.2.2.1 a0, .int (zO a1)] (zPre G top L M)) (zQ G top L M (some (.int (zO res))) (0 ≤ res ∧ res ≤ 1)) 0 0 (zA G) :=
  z_met (by decide +kernel) (by simp [zR_cat, zcat_I, zcat_S]) (Nat.le_of_ble_eq_true rfl) fun p e s m below meth c ls E hn S hl => Mo_isCourse_w E ha0 ha1 S (hl.sub (And.intro rfl (And.intro rfl True.intro))) h
end
theorem Mo_diesIn_dc : zDL cX12_diesIn [(0, .iload_n 0, 1, 1), (1, .iload_n 1, 1, 2), (2, .invokestatic 464, 3, 5), (5, .ifCond .eq 7, 3, 8), (8, .iconst 1, 1, 9), (9, .goto 5, 3, 12), (12, .bipush 60, 2, 14), (14, .ireturn, 1, 15)] := zDL.of (by decide +kernel)
section
variable {p : Program} {l : Launch} {e : Env} {s : State} {m : MethodId} {args : Array Value} {below : List Frame} {meth : Method} {c : Code} {G : zG} {top : Int} {L : zL} {fu : Nat}
theorem Mo_diesIn_w (E : zEv p m c cX12_diesIn 2 s args RX12 meth (some .int) G) {res : Int} {M : zM} {a0 : Int} {a1 : Int} {H : Heap} {locs : List Loc} {ls : Array Slot} (ha0 : InR a0) (ha1 : InR a1) (S : zS G top L M s H locs) (hl : zLV ls 2 [some (.int (zO a0)), some (.int (zO a1))]) (h : Mo_diesIn fu L M a0 a1 = some res) : W p l e (zrm 2 0 0) s m args below meth c H locs 0 0 (MQ below (zQ G top L M (some (.int (zO res))) (InR res)) args s 0 0 (zA G)) (F0 m 0 ls []) := by
  unfold Mo_diesIn at h
  refine u_il_n (x := a0) E (Mo_diesIn_dc.at 0 rfl) hl rfl ?_
  refine u_il_n (x := a1) E (Mo_diesIn_dc.at 1 rfl) hl rfl ?_
  obtain ⟨r1, er1, h⟩ := bd1_e h
  refine u_cSI (As := [.int (zO a0), .int (zO a1)]) (rest := []) E S zcw_yX12_has zw_9_126 zw_9_125 (Mo_has_c l G fu top L M a0 a1 ha0 ha1 er1) (zrm_ok (by decide) (by decide)) ⟨Nat.le_refl 0, Nat.le_refl 0⟩ rfl (Nat.zero_le 8) hl.size rfl (Mo_diesIn_dc.at 2 rfl) (fun H locs hr1 S2 => ?_)
  refine r_if_eq (tgt := 12) E (inR_01 hr1) (Mo_diesIn_dc.at 3 rfl) (by decide) (fun q => ?_) (fun q => ?_)
  · have h := ite_t h q
    refine r_bipush E (Mo_diesIn_dc.at 6 rfl) rfl ?_
    cases h
    exact r_iret E S2 (show InR 60 by decide) (Mo_diesIn_dc.at 7 rfl)
  · have h := ite_f h q
    refine r_iconst E (Mo_diesIn_dc.at 4 rfl) ?_
    refine r_goto (tgt := 14) E (Mo_diesIn_dc.at 5 rfl) (by decide) ?_
    cases h
    exact r_iret E S2 (show InR 1 by decide) (Mo_diesIn_dc.at 7 rfl)
theorem Mo_diesIn_c (l : Launch) (G : zG) (fu : Nat) (top : Int) (L : zL) (M : zM) (a0 : Int) (a1 : Int) {res : Int} (ha0 : InR a0) (ha1 : InR a1) (h : Mo_diesIn fu L M a0 a1 = some res) : Met l yX12_diesIn (Cond.code yX12_diesIn cX12_diesIn 2 (some .int) :: zTB) (zrm 2 0 0) (va_Pc [.int (zO a0), .int (zO a1)] (zPre G top L M)) (zQ G top L M (some (.int (zO res))) (InR res)) 0 0 (zA G) :=
  z_met (by decide +kernel) (by simp [zR_cat, zcat_I, zcat_S]) (Nat.le_of_ble_eq_true rfl) fun p e s m below meth c ls E hn S hl => Mo_diesIn_w E ha0 ha1 S (hl.sub (And.intro rfl (And.intro rfl True.intro))) h
end
theorem Mo_vestsBy_dc : zDL cX12_vestsBy [(0, .aload_n 0, 1, 1), (1, .aload_n 0, 1, 2), (2, .getfield 60, 3, 5), (5, .invokevirtual 255, 3, 8), (8, .iconst 0, 1, 9), (9, .istore 4, 2, 11), (11, .iload 4, 2, 13), (13, .aload_n 0, 1, 14), (14, .getfield 251, 3, 17), (17, .if_icmp .ge 25, 3, 20), (20, .aload_n 0, 1, 21), (21, .getfield 60, 3, 24), (24, .bipush 26, 2, 26), (26, .iload 4, 2, 28), (28, .iadd, 1, 29), (29, .iload_n 3, 1, 30), (30, .iload 4, 2, 32), (32, .invokestatic 560, 3, 35), (35, .iastore, 1, 36), (36, .iinc 4 1, 3, 39), (39, .goto (-28), 3, 42), (42, .iload_n 3, 1, 43), (43, .sipush 256, 3, 46), (46, .iand, 1, 47), (47, .ifCond .eq 7, 3, 50), (50, .iconst 1, 1, 51), (51, .goto 8, 3, 54), (54, .iload_n 3, 1, 55), (55, .iload_n 2, 1, 56), (56, .invokestatic 560, 3, 59), (59, .istore 4, 2, 61), (61, .aload_n 0, 1, 62), (62, .invokevirtual 505, 3, 65), (65, .iload_n 1, 1, 66), (66, .ifCond .ne 27, 3, 69), (69, .aload_n 0, 1, 70), (70, .aload_n 0, 1, 71), (71, .getfield 60, 3, 74), (74, .aload_n 0, 1, 75), (75, .getfield 37, 3, 78), (78, .iload_n 2, 1, 79), (79, .iaload, 1, 80), (80, .ineg, 1, 81), (81, .iload_n 3, 1, 82), (82, .iload_n 2, 1, 83), (83, .invokestatic 560, 3, 86), (86, .sipush 400, 3, 89), (89, .invokevirtual 414, 3, 92), (92, .ireturn, 1, 93), (93, .aload_n 0, 1, 94), (94, .aload_n 0, 1, 95), (95, .getfield 60, 3, 98), (98, .iload_n 1, 1, 99), (99, .iconst 1, 1, 100), (100, .if_icmp .ne 8, 3, 103), (103, .iload 4, 2, 105), (105, .goto 8, 3, 108), (108, .iload 4, 2, 110), (110, .bipush 30, 2, 112), (112, .iadd, 1, 113), (113, .ldc 254, 2, 115), (115, .sipush 400, 3, 118), (118, .invokevirtual 414, 3, 121), (121, .ireturn, 1, 122)] := zDL.of (by decide +kernel)
section
variable {p : Program} {l : Launch} {e : Env} {s : State} {m : MethodId} {args : Array Value} {below : List Frame} {meth : Method} {c : Code} {G : zG} {top : Int} {L : zL} {fu : Nat}
theorem Mo_vestsBy_b59_w (E : zEv p m c cX12_vestsBy 5 s args RX12 meth (some .int) G) {res : (zM × Int)} {M : zM} {x0 : Int} {x1 : Int} {x2 : Int} {x3 : Int} {y0 : Int} {H : Heap} {locs : List Loc} {ls : Array Slot} (hx0 : InR x0) (hx1 : InR x1) (hx2 : InR x2) (hx3 : InR x3) (hy0 : InR y0) (S : zS G top L M s H locs) (hl : zLV ls 5 [some (zR G.2.2.1 x0), some (.int (zO x1)), some (.int (zO x2)), some (.int (zO x3)), none]) (h : Mo_vestsBy_b59 fu L M x0 x1 x2 x3 y0 = some res) : W p l e (zrm 46 0 0) s m args below meth c H locs 0 0 (MQ below (zQ G top L res.1 (some (.int (zO res.2))) (InR res.2)) args s 0 0 (zA G)) (F0 m 59 ls [.int (zO y0)]) := by
  unfold Mo_vestsBy_b59 at h
  refine u_ist (y := y0) (vs' := [some (zR G.2.2.1 x0), some (.int (zO x1)), some (.int (zO x2)), some (.int (zO x3)), some (.int (zO y0))]) E rfl (Mo_vestsBy_dc.at 30 rfl) hl (by decide) rfl (fun ls hl => ?_)
  refine u_al_n (x := x0) E (Mo_vestsBy_dc.at 31 rfl) hl rfl ?_
  obtain ⟨g14, h⟩ := ite_e h
  obtain ⟨M15, eM15, h⟩ := bd1_e h
  refine u_cVU (As := []) (rest := []) E S zcw_yX12_begin zw_9_95 zq_8_1 zw_9_93 zck_12.1 rfl g14 (Mo_begin_c l G fu top L M x0 hx0 eM15) (zrm_ok (by decide) (by decide)) ⟨Nat.le_refl 0, Nat.le_refl 0⟩ rfl (Nat.zero_le 8) hl.size rfl (Mo_vestsBy_dc.at 32 rfl) (fun H locs _ S16 => ?_)
  refine u_il_n (x := x1) E (Mo_vestsBy_dc.at 33 rfl) hl rfl ?_
  refine r_if_ne (tgt := 93) E hx1 (Mo_vestsBy_dc.at 34 rfl) (by decide) (fun q => ?_) (fun q => ?_)
  · have h := ite_t h q
    refine u_al_n (x := x0) E (Mo_vestsBy_dc.at 35 rfl) hl rfl ?_
    refine u_al_n (x := x0) E (Mo_vestsBy_dc.at 36 rfl) hl rfl ?_
    refine u_gR E zf_12_47 S16 g14 zw_7_14 (Mo_vestsBy_dc.at 37 rfl) ?_
    refine u_al_n (x := x0) E (Mo_vestsBy_dc.at 38 rfl) hl rfl ?_
    refine u_gR E zf_12_22 S16 g14 zw_6_229 (Mo_vestsBy_dc.at 39 rfl) ?_
    refine u_il_n (x := x2) E (Mo_vestsBy_dc.at 40 rfl) hl rfl ?_
    obtain ⟨g17, h⟩ := ite_e h
    obtain ⟨g18, h⟩ := ite_e h
    refine r_iald E S16 g17 g18 (Mo_vestsBy_dc.at 41 rfl) ?_
    refine r_ineg E (Mo_vestsBy_dc.at 42 rfl) ?_
    refine u_il_n (x := x3) E (Mo_vestsBy_dc.at 43 rfl) hl rfl ?_
    refine u_il_n (x := x2) E (Mo_vestsBy_dc.at 44 rfl) hl rfl ?_
    obtain ⟨r19, er19, h⟩ := bd1_e h
    refine u_cSI (As := [.int (zO x3), .int (zO x2)]) (rest := [.int (zO (w32 (-(M15 (M15 x0 22) x2)))), zR G.2.2.1 (M15 x0 47), zR G.2.2.1 x0]) E S16 zcw_yX12_diesIn zw_9_202 zw_9_201 (Mo_diesIn_c l G fu top L M15 x3 x2 hx3 hx2 er19) (zrm_ok (by decide) (by decide)) ⟨Nat.le_refl 0, Nat.le_refl 0⟩ rfl (by simp [zR_cat, zcat_I, zcat_J, zcat_S]) hl.size rfl (Mo_vestsBy_dc.at 45 rfl) (fun H locs hr19 S20 => ?_)
    refine r_sipush E (Mo_vestsBy_dc.at 46 rfl) rfl ?_
    obtain ⟨M22, r21, er21, h⟩ := bd2_e h
    refine u_cVI (As := [zR G.2.2.1 (M15 x0 47), .int (zO (w32 (-(M15 (M15 x0 22) x2)))), .int (zO r19), .int (zO 400)]) (rest := []) E S20 zcw_yX12_vestsSo zw_8_217 zq_6_14 zw_8_215 zck_12.1 rfl g14 (Mo_vestsSo_c l G fu top L M15 x0 (M15 x0 47) (w32 (-(M15 (M15 x0 22) x2))) r19 400 hx0 (S16.1.inR _ _) (inR_w32 _) hr19 (show InR 400 by decide) er21) (zrm_ok (by decide) (by decide)) ⟨Nat.le_refl 0, Nat.le_refl 0⟩ rfl (Nat.zero_le 8) hl.size rfl (Mo_vestsBy_dc.at 47 rfl) (fun H locs hr21 S23 => ?_)
    cases h
    exact r_iret E S23 hr21 (Mo_vestsBy_dc.at 48 rfl)
  · have h := ite_f h q
    refine u_al_n (x := x0) E (Mo_vestsBy_dc.at 49 rfl) hl rfl ?_
    refine u_al_n (x := x0) E (Mo_vestsBy_dc.at 50 rfl) hl rfl ?_
    refine u_gR E zf_12_47 S16 g14 zw_7_14 (Mo_vestsBy_dc.at 51 rfl) ?_
    refine u_il_n (x := x1) E (Mo_vestsBy_dc.at 52 rfl) hl rfl ?_
    refine r_iconst E (Mo_vestsBy_dc.at 53 rfl) ?_
    refine r_icmp_ne (tgt := 108) E hx1 (show InR 1 by decide) (Mo_vestsBy_dc.at 54 rfl) (by decide) (fun q => ?_) (fun q => ?_)
    · have h := ite_t h q
      refine u_il (x := y0) E (Mo_vestsBy_dc.at 55 rfl) hl rfl ?_
      refine r_goto (tgt := 113) E (Mo_vestsBy_dc.at 56 rfl) (by decide) ?_
      refine r_ldc (n := 16777216) E (Mo_vestsBy_dc.at 60 rfl) zw_8_42 rfl ?_
      refine r_sipush E (Mo_vestsBy_dc.at 61 rfl) rfl ?_
      obtain ⟨M25, r24, er24, h⟩ := bd2_e h
      refine u_cVI (As := [zR G.2.2.1 (M15 x0 47), .int (zO y0), .int (zO 16777216), .int (zO 400)]) (rest := []) E S16 zcw_yX12_vestsSo zw_8_217 zq_6_14 zw_8_215 zck_12.1 rfl g14 (Mo_vestsSo_c l G fu top L M15 x0 (M15 x0 47) y0 16777216 400 hx0 (S16.1.inR _ _) hy0 (show InR 16777216 by decide) (show InR 400 by decide) er24) (zrm_ok (by decide) (by decide)) ⟨Nat.le_refl 0, Nat.le_refl 0⟩ rfl (Nat.zero_le 8) hl.size rfl (Mo_vestsBy_dc.at 62 rfl) (fun H locs hr24 S26 => ?_)
      cases h
      exact r_iret E S26 hr24 (Mo_vestsBy_dc.at 63 rfl)
    · have h := ite_f h q
      refine u_il (x := y0) E (Mo_vestsBy_dc.at 57 rfl) hl rfl ?_
      refine r_bipush E (Mo_vestsBy_dc.at 58 rfl) rfl ?_
      refine r_iadd E (Mo_vestsBy_dc.at 59 rfl) ?_
      refine r_ldc (n := 16777216) E (Mo_vestsBy_dc.at 60 rfl) zw_8_42 rfl ?_
      refine r_sipush E (Mo_vestsBy_dc.at 61 rfl) rfl ?_
      obtain ⟨M28, r27, er27, h⟩ := bd2_e h
      refine u_cVI (As := [zR G.2.2.1 (M15 x0 47), .int (zO (w32 (y0 + 30))), .int (zO 16777216), .int (zO 400)]) (rest := []) E S16 zcw_yX12_vestsSo zw_8_217 zq_6_14 zw_8_215 zck_12.1 rfl g14 (Mo_vestsSo_c l G fu top L M15 x0 (M15 x0 47) (w32 (y0 + 30)) 16777216 400 hx0 (S16.1.inR _ _) (inR_w32 _) (show InR 16777216 by decide) (show InR 400 by decide) er27) (zrm_ok (by decide) (by decide)) ⟨Nat.le_refl 0, Nat.le_refl 0⟩ rfl (Nat.zero_le 8) hl.size rfl (Mo_vestsBy_dc.at 62 rfl) (fun H locs hr27 S29 => ?_)
      cases h
      exact r_iret E S29 hr27 (Mo_vestsBy_dc.at 63 rfl)
theorem Mo_vestsBy_s11_w (E : zEv p m c cX12_vestsBy 5 s args RX12 meth (some .int) G) {res : (zM × Int)} {k11 : zM → Int → Int → Int → Int → Int → Option (zM × Int)} (hk11 : ∀ (M : zM) (x0 : Int) (x1 : Int) (x2 : Int) (x3 : Int) (x4 : Int), InR x0 → InR x1 → InR x2 → InR x3 → InR x4 → ∀ (H : Heap) (locs : List Loc) (ls : Array Slot), zS G top L M s H locs → zLV ls 5 [some (zR G.2.2.1 x0), some (.int (zO x1)), some (.int (zO x2)), some (.int (zO x3)), some (.int (zO x4))] → k11 M x0 x1 x2 x3 x4 = some res → W p l e (zrm 46 0 0) s m args below meth c H locs 0 0 (MQ below (zQ G top L res.1 (some (.int (zO res.2))) (InR res.2)) args s 0 0 (zA G)) (F0 m 11 ls [])) {M : zM} {x0 : Int} {x1 : Int} {x2 : Int} {x3 : Int} {x4 : Int} {H : Heap} {locs : List Loc} {ls : Array Slot} (hx0 : InR x0) (hx1 : InR x1) (hx2 : InR x2) (hx3 : InR x3) (hx4 : InR x4) (S : zS G top L M s H locs) (hl : zLV ls 5 [some (zR G.2.2.1 x0), some (.int (zO x1)), some (.int (zO x2)), some (.int (zO x3)), some (.int (zO x4))]) (h : Mo_vestsBy_s11 fu k11 L M x0 x1 x2 x3 x4 = some res) : W p l e (zrm 46 0 0) s m args below meth c H locs 0 0 (MQ below (zQ G top L res.1 (some (.int (zO res.2))) (InR res.2)) args s 0 0 (zA G)) (F0 m 11 ls []) := by
  unfold Mo_vestsBy_s11 at h
  refine u_il (x := x4) E (Mo_vestsBy_dc.at 6 rfl) hl rfl ?_
  refine u_al_n (x := x0) E (Mo_vestsBy_dc.at 7 rfl) hl rfl ?_
  obtain ⟨g4, h⟩ := ite_e h
  refine u_gI E zf_12_20 S g4 zw_6_227 (Mo_vestsBy_dc.at 8 rfl) ?_
  refine r_icmp_ge (tgt := 42) E hx4 (S.1.inR _ _) (Mo_vestsBy_dc.at 9 rfl) (by decide) (fun q => ?_) (fun q => ?_)
  · have h := ite_t h q
    refine u_al_n (x := x0) E (Mo_vestsBy_dc.at 10 rfl) hl rfl ?_
    refine u_gR E zf_12_47 S g4 zw_7_14 (Mo_vestsBy_dc.at 11 rfl) ?_
    refine r_bipush E (Mo_vestsBy_dc.at 12 rfl) rfl ?_
    refine u_il (x := x4) E (Mo_vestsBy_dc.at 13 rfl) hl rfl ?_
    refine r_iadd E (Mo_vestsBy_dc.at 14 rfl) ?_
    refine u_il_n (x := x3) E (Mo_vestsBy_dc.at 15 rfl) hl rfl ?_
    refine u_il (x := x4) E (Mo_vestsBy_dc.at 16 rfl) hl rfl ?_
    obtain ⟨r5, er5, h⟩ := bd1_e h
    refine u_cSI (As := [.int (zO x3), .int (zO x4)]) (rest := [.int (zO (w32 (26 + x4))), zR G.2.2.1 (M x0 47)]) E S zcw_yX12_diesIn zw_9_202 zw_9_201 (Mo_diesIn_c l G fu top L M x3 x4 hx3 hx4 er5) (zrm_ok (by decide) (by decide)) ⟨Nat.le_refl 0, Nat.le_refl 0⟩ rfl (by simp [zR_cat, zcat_I, zcat_J, zcat_S]) hl.size rfl (Mo_vestsBy_dc.at 17 rfl) (fun H locs hr5 S6 => ?_)
    obtain ⟨g7, h⟩ := ite_e h
    obtain ⟨g8, h⟩ := ite_e h
    obtain ⟨M9, eM9, h⟩ := lt1_e h
    refine u_iast E eM9 S6 g7 g8 hr5 (Mo_vestsBy_dc.at 18 rfl) (fun H locs S10 => ?_)
    obtain ⟨v11, ev11, h⟩ := lt1_e h
    have hv11 := inR_eq ev11 (inR_w32 _)
    refine u_iinc (y := v11) (vs' := [some (zR G.2.2.1 x0), some (.int (zO x1)), some (.int (zO x2)), some (.int (zO x3)), some (.int (zO v11))]) E ev11 (Mo_vestsBy_dc.at 19 rfl) hl rfl (by decide) rfl (fun ls hl => ?_)
    refine r_goto (tgt := 11) E (Mo_vestsBy_dc.at 20 rfl) (by decide) ?_
    exact hk11 _ x0 x1 x2 x3 v11 hx0 hx1 hx2 hx3 hv11 _ _ _ S10 (hl.sub (And.intro rfl (And.intro rfl (And.intro rfl (And.intro rfl (And.intro rfl True.intro)))))) h
  · have h := ite_f h q
    refine u_il_n (x := x3) E (Mo_vestsBy_dc.at 21 rfl) hl rfl ?_
    refine r_sipush E (Mo_vestsBy_dc.at 22 rfl) rfl ?_
    refine r_iand E (Mo_vestsBy_dc.at 23 rfl) ?_
    refine r_if_eq (tgt := 54) E (inR_iand _ _) (Mo_vestsBy_dc.at 24 rfl) (by decide) (fun q => ?_) (fun q => ?_)
    · have h := ite_t h q
      refine u_il_n (x := x3) E (Mo_vestsBy_dc.at 27 rfl) hl rfl ?_
      refine u_il_n (x := x2) E (Mo_vestsBy_dc.at 28 rfl) hl rfl ?_
      obtain ⟨r12, er12, h⟩ := bd1_e h
      refine u_cSI (As := [.int (zO x3), .int (zO x2)]) (rest := []) E S zcw_yX12_diesIn zw_9_202 zw_9_201 (Mo_diesIn_c l G fu top L M x3 x2 hx3 hx2 er12) (zrm_ok (by decide) (by decide)) ⟨Nat.le_refl 0, Nat.le_refl 0⟩ rfl (Nat.zero_le 8) hl.size rfl (Mo_vestsBy_dc.at 29 rfl) (fun H locs hr12 S13 => ?_)
      exact Mo_vestsBy_b59_w (x0 := x0) (x1 := x1) (x2 := x2) (x3 := x3) (y0 := r12) E hx0 hx1 hx2 hx3 hr12 S13 (hl.sub (And.intro rfl (And.intro rfl (And.intro rfl (And.intro rfl True.intro))))) h
    · have h := ite_f h q
      refine r_iconst E (Mo_vestsBy_dc.at 25 rfl) ?_
      refine r_goto (tgt := 59) E (Mo_vestsBy_dc.at 26 rfl) (by decide) ?_
      exact Mo_vestsBy_b59_w (x0 := x0) (x1 := x1) (x2 := x2) (x3 := x3) (y0 := 1) E hx0 hx1 hx2 hx3 (show InR 1 by decide) S (hl.sub (And.intro rfl (And.intro rfl (And.intro rfl (And.intro rfl True.intro))))) h
theorem Mo_vestsBy_l11_w (E : zEv p m c cX12_vestsBy 5 s args RX12 meth (some .int) G) {res : (zM × Int)} : ∀ (n : Nat) (M : zM) (x0 : Int) (x1 : Int) (x2 : Int) (x3 : Int) (x4 : Int), InR x0 → InR x1 → InR x2 → InR x3 → InR x4 → ∀ (H : Heap) (locs : List Loc) (ls : Array Slot), zS G top L M s H locs → zLV ls 5 [some (zR G.2.2.1 x0), some (.int (zO x1)), some (.int (zO x2)), some (.int (zO x3)), some (.int (zO x4))] → Mo_vestsBy_l11 fu L n M x0 x1 x2 x3 x4 = some res → W p l e (zrm 46 0 0) s m args below meth c H locs 0 0 (MQ below (zQ G top L res.1 (some (.int (zO res.2))) (InR res.2)) args s 0 0 (zA G)) (F0 m 11 ls [])
  | 0, _, _, _, _, _, _ => fun _ _ _ _ _ _ _ _ _ _ h => (by cases h)
  | n + 1, M, x0, x1, x2, x3, x4 => fun hx0 hx1 hx2 hx3 hx4 H locs ls S hl h => Mo_vestsBy_s11_w E (fun M x0 x1 x2 x3 x4 hx0 hx1 hx2 hx3 hx4 H locs ls S hl h => Mo_vestsBy_l11_w E n M x0 x1 x2 x3 x4 hx0 hx1 hx2 hx3 hx4 H locs ls S hl h) hx0 hx1 hx2 hx3 hx4 S hl h
theorem Mo_vestsBy_w (E : zEv p m c cX12_vestsBy 5 s args RX12 meth (some .int) G) {res : (zM × Int)} {M : zM} {a0 : Int} {a1 : Int} {a2 : Int} {a3 : Int} {H : Heap} {locs : List Loc} {ls : Array Slot} (ha0 : InR a0) (ha1 : InR a1) (ha2 : InR a2) (ha3 : InR a3) (S : zS G top L M s H locs) (hl : zLV ls 5 [some (zR G.2.2.1 a0), some (.int (zO a1)), some (.int (zO a2)), some (.int (zO a3)), none]) (h : Mo_vestsBy fu L M a0 a1 a2 a3 = some res) : W p l e (zrm 46 0 0) s m args below meth c H locs 0 0 (MQ below (zQ G top L res.1 (some (.int (zO res.2))) (InR res.2)) args s 0 0 (zA G)) (F0 m 0 ls []) := by
  unfold Mo_vestsBy at h
  refine u_al_n (x := a0) E (Mo_vestsBy_dc.at 0 rfl) hl rfl ?_
  refine u_al_n (x := a0) E (Mo_vestsBy_dc.at 1 rfl) hl rfl ?_
  obtain ⟨g1, h⟩ := ite_e h
  refine u_gR E zf_12_47 S g1 zw_7_14 (Mo_vestsBy_dc.at 2 rfl) ?_
  obtain ⟨M2, eM2, h⟩ := bd1_e h
  refine u_cVU (As := [zR G.2.2.1 (M a0 47)]) (rest := []) E S zcw_yX12_beginsWorld zw_8_40 zq_5_8 zw_8_38 zck_12.1 rfl g1 (Mo_beginsWorld_c l G fu top L M a0 (M a0 47) ha0 (S.1.inR _ _) eM2) (zrm_ok (by decide) (by decide)) ⟨Nat.le_refl 0, Nat.le_refl 0⟩ rfl (Nat.zero_le 8) hl.size rfl (Mo_vestsBy_dc.at 3 rfl) (fun H locs _ S3 => ?_)
  refine r_iconst E (Mo_vestsBy_dc.at 4 rfl) ?_
  refine u_ist (y := 0) (vs' := [some (zR G.2.2.1 a0), some (.int (zO a1)), some (.int (zO a2)), some (.int (zO a3)), some (.int (zO 0))]) E rfl (Mo_vestsBy_dc.at 5 rfl) hl (by decide) rfl (fun ls hl => ?_)
  exact Mo_vestsBy_l11_w E fu _ a0 a1 a2 a3 0 ha0 ha1 ha2 ha3 (show InR 0 by decide) _ _ _ S3 (hl.sub (And.intro rfl (And.intro rfl (And.intro rfl (And.intro rfl (And.intro rfl True.intro)))))) h
theorem Mo_vestsBy_c (l : Launch) (G : zG) (fu : Nat) (top : Int) (L : zL) (M : zM) (a0 : Int) (a1 : Int) (a2 : Int) (a3 : Int) {res : (zM × Int)} (ha0 : InR a0) (ha1 : InR a1) (ha2 : InR a2) (ha3 : InR a3) (h : Mo_vestsBy fu L M a0 a1 a2 a3 = some res) : Met l yX12_vestsBy (Cond.code yX12_vestsBy cX12_vestsBy 5 (some .int) :: zTB) (zrm 46 0 0) (va_Pc [zR G.2.2.1 a0, .int (zO a1), .int (zO a2), .int (zO a3)] (zPre G top L M)) (zQ G top L res.1 (some (.int (zO res.2))) (InR res.2)) 0 0 (zA G) :=
  z_met (by decide +kernel) (by simp [zR_cat, zcat_I, zcat_S]) (Nat.le_of_ble_eq_true rfl) fun p e s m below meth c ls E hn S hl => Mo_vestsBy_w E ha0 ha1 ha2 ha3 S (hl.sub (And.intro rfl (And.intro rfl (And.intro rfl (And.intro rfl True.intro))))) h
end
