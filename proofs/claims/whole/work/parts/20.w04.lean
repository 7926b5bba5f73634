theorem Wd_lastDeath_dc : zDL cX10_lastDeath [(0, .iconst (-1), 1, 1), (1, .istore_n 1, 1, 2), (2, .iconst 0, 1, 3), (3, .istore_n 2, 1, 4), (4, .iload_n 2, 1, 5), (5, .aload_n 0, 1, 6), (6, .getfield 21, 3, 9), (9, .if_icmp .ge 29, 3, 12), (12, .aload_n 0, 1, 13), (13, .iload_n 2, 1, 14), (14, .invokevirtual 59, 3, 17), (17, .ifCond .eq 5, 3, 20), (20, .iconst (-1), 1, 21), (21, .ireturn, 1, 22), (22, .iload_n 1, 1, 23), (23, .aload_n 0, 1, 24), (24, .iload_n 2, 1, 25), (25, .invokevirtual 49, 3, 28), (28, .invokestatic 62, 3, 31), (31, .istore_n 1, 1, 32), (32, .iinc 2 1, 3, 35), (35, .goto (-31), 3, 38), (38, .iload_n 1, 1, 39), (39, .ireturn, 1, 40)] := zDL.of (by decide +kernel)
section
variable {p : Program} {l : Launch} {e : Env} {s : State} {m : MethodId} {args : Array Value} {below : List Frame} {meth : Method} {c : Code} {G : zG} {top : Int} {L : zL} {fu : Nat}
theorem Wd_lastDeath_s4_w (E : zEv p m c cX10_lastDeath 3 s args RX10 meth (some .int) G) {res : Int} {k4 : zM → Int → Int → Int → Option Int} (hk4 : ∀ (M : zM) (x0 : Int) (x1 : Int) (x2 : Int), InR x0 → InR x1 → InR x2 → ∀ (H : Heap) (locs : List Loc) (ls : Array Slot), zS G top L M s H locs → zLV ls 3 [some (zR G.2.2.1 x0), some (.int (zO x1)), some (.int (zO x2))] → k4 M x0 x1 x2 = some res → W p l e (zrm 2 0 0) s m args below meth c H locs 0 0 (MQ below (zQ G top L M (some (.int (zO res))) (InR res)) args s 0 0 (zA G)) (F0 m 4 ls [])) {M : zM} {x0 : Int} {x1 : Int} {x2 : Int} {H : Heap} {locs : List Loc} {ls : Array Slot} (hx0 : InR x0) (hx1 : InR x1) (hx2 : InR x2) (S : zS G top L M s H locs) (hl : zLV ls 3 [some (zR G.2.2.1 x0), some (.int (zO x1)), some (.int (zO x2))]) (h : Wd_lastDeath_s4 fu k4 L M x0 x1 x2 = some res) : W p l e (zrm 2 0 0) s m args below meth c H locs 0 0 (MQ below (zQ G top L M (some (.int (zO res))) (InR res)) args s 0 0 (zA G)) (F0 m 4 ls []) := by
  unfold Wd_lastDeath_s4 at h
  refine u_il_n (x := x2) E (Wd_lastDeath_dc.at 4 rfl) hl rfl ?_
  refine u_al_n (x := x0) E (Wd_lastDeath_dc.at 5 rfl) hl rfl ?_
  obtain ⟨g1, h⟩ := ite_e h
  refine u_gI E zf_10_3 S g1 zw_1_193 (Wd_lastDeath_dc.at 6 rfl) ?_
  refine r_icmp_ge (tgt := 38) E hx2 (S.1.inR _ _) (Wd_lastDeath_dc.at 7 rfl) (by decide) (fun q => ?_) (fun q => ?_)
  · have h := ite_t h q
    refine u_al_n (x := x0) E (Wd_lastDeath_dc.at 8 rfl) hl rfl ?_
    refine u_il_n (x := x2) E (Wd_lastDeath_dc.at 9 rfl) hl rfl ?_
    obtain ⟨r2, er2, h⟩ := bd1_e h
    refine u_cVI (As := [.int (zO x2)]) (rest := []) E S zcw_yX10_isAlive zw_4_146 zw_4_147 zw_4_145 zck_10.1 rfl g1 (Wd_isAlive_c l G fu top L M x0 x2 hx0 hx2 er2) (zrm_ok (by decide) (by decide)) ⟨Nat.le_refl 0, Nat.le_refl 0⟩ rfl (Nat.zero_le 8) hl.size rfl (Wd_lastDeath_dc.at 10 rfl) (fun H locs hr2 S3 => ?_)
    refine r_if_eq (tgt := 22) E (inR_01 hr2) (Wd_lastDeath_dc.at 11 rfl) (by decide) (fun q => ?_) (fun q => ?_)
    · have h := ite_t h q
      refine u_il_n (x := x1) E (Wd_lastDeath_dc.at 14 rfl) hl rfl ?_
      refine u_al_n (x := x0) E (Wd_lastDeath_dc.at 15 rfl) hl rfl ?_
      refine u_il_n (x := x2) E (Wd_lastDeath_dc.at 16 rfl) hl rfl ?_
      obtain ⟨r4, er4, h⟩ := bd1_e h
      refine u_cVI (As := [.int (zO x2)]) (rest := [.int (zO x1)]) E S3 zcw_yX10_diedIn zw_4_27 zw_4_28 zw_4_26 zck_10.1 rfl g1 (Wd_diedIn_c l G fu top L M x0 x2 hx0 hx2 er4) (zrm_ok (by decide) (by decide)) ⟨Nat.le_refl 0, Nat.le_refl 0⟩ rfl (by simp [zR_cat, zcat_I, zcat_J, zcat_S]) hl.size rfl (Wd_lastDeath_dc.at 17 rfl) (fun H locs hr4 S5 => ?_)
      refine r_max (rest := []) E hx1 hr4 hl.size zw_4_186 zw_4_56 zw_1_17 zw_4_57 (by decide) (by simp [zR_cat, zcat_I, zcat_J, zcat_S, zrm]) ⟨Nat.zero_le _, Nat.zero_le _⟩ (Wd_lastDeath_dc.at 18 rfl) ?_
      obtain ⟨v6, ev6, h⟩ := lt1_e h
      have hv6 := inR_eq ev6 (inR_max hx1 hr4)
      refine u_ist_n (y := v6) (vs' := [some (zR G.2.2.1 x0), some (.int (zO v6)), some (.int (zO x2))]) E ev6 (Wd_lastDeath_dc.at 19 rfl) hl (by decide) rfl (fun ls hl => ?_)
      obtain ⟨v7, ev7, h⟩ := lt1_e h
      have hv7 := inR_eq ev7 (inR_w32 _)
      refine u_iinc (y := v7) (vs' := [some (zR G.2.2.1 x0), some (.int (zO v6)), some (.int (zO v7))]) E ev7 (Wd_lastDeath_dc.at 20 rfl) hl rfl (by decide) rfl (fun ls hl => ?_)
      refine r_goto (tgt := 4) E (Wd_lastDeath_dc.at 21 rfl) (by decide) ?_
      exact hk4 _ x0 v6 v7 hx0 hv6 hv7 _ _ _ S5 (hl.sub (And.intro rfl (And.intro rfl (And.intro rfl True.intro)))) h
    · have h := ite_f h q
      refine r_iconst E (Wd_lastDeath_dc.at 12 rfl) ?_
      cases h
      exact r_iret E S3 (show InR (-1) by decide) (Wd_lastDeath_dc.at 13 rfl)
  · have h := ite_f h q
    refine u_il_n (x := x1) E (Wd_lastDeath_dc.at 22 rfl) hl rfl ?_
    cases h
    exact r_iret E S hx1 (Wd_lastDeath_dc.at 23 rfl)
theorem Wd_lastDeath_l4_w (E : zEv p m c cX10_lastDeath 3 s args RX10 meth (some .int) G) {res : Int} : ∀ (n : Nat) (M : zM) (x0 : Int) (x1 : Int) (x2 : Int), InR x0 → InR x1 → InR x2 → ∀ (H : Heap) (locs : List Loc) (ls : Array Slot), zS G top L M s H locs → zLV ls 3 [some (zR G.2.2.1 x0), some (.int (zO x1)), some (.int (zO x2))] → Wd_lastDeath_l4 fu L n M x0 x1 x2 = some res → W p l e (zrm 2 0 0) s m args below meth c H locs 0 0 (MQ below (zQ G top L M (some (.int (zO res))) (InR res)) args s 0 0 (zA G)) (F0 m 4 ls [])
  | 0, _, _, _, _ => fun _ _ _ _ _ _ _ _ h => (by cases h)
  | n + 1, M, x0, x1, x2 => fun hx0 hx1 hx2 H locs ls S hl h => Wd_lastDeath_s4_w E (fun M x0 x1 x2 hx0 hx1 hx2 H locs ls S hl h => Wd_lastDeath_l4_w E n M x0 x1 x2 hx0 hx1 hx2 H locs ls S hl h) hx0 hx1 hx2 S hl h
theorem Wd_lastDeath_w (E : zEv p m c cX10_lastDeath 3 s args RX10 meth (some .int) G) {res : Int} {M : zM} {a0 : Int} {H : Heap} {locs : List Loc} {ls : Array Slot} (ha0 : InR a0) (S : zS G top L M s H locs) (hl : zLV ls 3 [some (zR G.2.2.1 a0), none, none]) (h : Wd_lastDeath fu L M a0 = some res) : W p l e (zrm 2 0 0) s m args below meth c H locs 0 0 (MQ below (zQ G top L M (some (.int (zO res))) (InR res)) args s 0 0 (zA G)) (F0 m 0 ls []) := by
  unfold Wd_lastDeath at h
  refine r_iconst E (Wd_lastDeath_dc.at 0 rfl) ?_
  refine u_ist_n (y := (-1)) (vs' := [some (zR G.2.2.1 a0), some (.int (zO (-1))), none]) E rfl (Wd_lastDeath_dc.at 1 rfl) hl (by decide) rfl (fun ls hl => ?_)
  refine r_iconst E (Wd_lastDeath_dc.at 2 rfl) ?_
  refine u_ist_n (y := 0) (vs' := [some (zR G.2.2.1 a0), some (.int (zO (-1))), some (.int (zO 0))]) E rfl (Wd_lastDeath_dc.at 3 rfl) hl (by decide) rfl (fun ls hl => ?_)
  exact Wd_lastDeath_l4_w E fu _ a0 (-1) 0 ha0 (show InR (-1) by decide) (show InR 0 by decide) _ _ _ S (hl.sub (And.intro rfl (And.intro rfl (And.intro rfl True.intro)))) h
theorem Wd_lastDeath_c (l : Launch) (G : zG) (fu : Nat) (top : Int) (L : zL) (M : zM) (a0 : Int) {res : Int} (ha0 : InR a0) (h : Wd_lastDeath fu L M a0 = some res) : Met l yX10_lastDeath (Cond.code yX10_lastDeath cX10_lastDeath 3 (some .int) :: zTB) (zrm 2 0 0) (va_Pc [zR G.2.2.1 a0] (zPre G top L M)) (zQ G top L M (some (.int (zO res))) (InR res)) 0 0 (zA G) :=
  z_met (by decide +kernel) (by simp [zR_cat, zcat_I, zcat_S]) (Nat.le_of_ble_eq_true rfl) fun p e s m below meth c ls E hn S hl => Wd_lastDeath_w E ha0 S (hl.sub (And.intro rfl True.intro)) h
end
theorem Wd_theEnd_dc : zDL cX10_theEnd [(0, .aload_n 0, 1, 1), (1, .invokevirtual 76, 3, 4), (4, .istore_n 2, 1, 5), (5, .iload_n 2, 1, 6), (6, .iconst (-1), 1, 7), (7, .if_icmp .ne 7, 3, 10), (10, .iconst (-1), 1, 11), (11, .goto 6, 3, 14), (14, .iload_n 2, 1, 15), (15, .iload_n 1, 1, 16), (16, .iadd, 1, 17), (17, .ireturn, 1, 18)] := zDL.of (by decide +kernel)
section
variable {p : Program} {l : Launch} {e : Env} {s : State} {m : MethodId} {args : Array Value} {below : List Frame} {meth : Method} {c : Code} {G : zG} {top : Int} {L : zL} {fu : Nat}
theorem Wd_theEnd_w (E : zEv p m c cX10_theEnd 3 s args RX10 meth (some .int) G) {res : Int} {M : zM} {a0 : Int} {a1 : Int} {H : Heap} {locs : List Loc} {ls : Array Slot} (ha0 : InR a0) (ha1 : InR a1) (S : zS G top L M s H locs) (hl : zLV ls 3 [some (zR G.2.2.1 a0), some (.int (zO a1)), none]) (h : Wd_theEnd fu L M a0 a1 = some res) : W p l e (zrm 3 0 0) s m args below meth c H locs 0 0 (MQ below (zQ G top L M (some (.int (zO res))) (InR res)) args s 0 0 (zA G)) (F0 m 0 ls []) := by
  unfold Wd_theEnd at h
  refine u_al_n (x := a0) E (Wd_theEnd_dc.at 0 rfl) hl rfl ?_
  obtain ⟨g1, h⟩ := ite_e h
  obtain ⟨r2, er2, h⟩ := bd1_e h
  refine u_cVI (As := []) (rest := []) E S zcw_yX10_lastDeath zw_4_183 zw_4_184 zw_4_191 zck_10.1 rfl g1 (Wd_lastDeath_c l G fu top L M a0 ha0 er2) (zrm_ok (by decide) (by decide)) ⟨Nat.le_refl 0, Nat.le_refl 0⟩ rfl (Nat.zero_le 8) hl.size rfl (Wd_theEnd_dc.at 1 rfl) (fun H locs hr2 S3 => ?_)
  refine u_ist_n (y := r2) (vs' := [some (zR G.2.2.1 a0), some (.int (zO a1)), some (.int (zO r2))]) E rfl (Wd_theEnd_dc.at 2 rfl) hl (by decide) rfl (fun ls hl => ?_)
  refine u_il_n (x := r2) E (Wd_theEnd_dc.at 3 rfl) hl rfl ?_
  refine r_iconst E (Wd_theEnd_dc.at 4 rfl) ?_
  refine r_icmp_ne (tgt := 14) E hr2 (show InR (-1) by decide) (Wd_theEnd_dc.at 5 rfl) (by decide) (fun q => ?_) (fun q => ?_)
  · have h := ite_t h q
    refine r_iconst E (Wd_theEnd_dc.at 6 rfl) ?_
    refine r_goto (tgt := 17) E (Wd_theEnd_dc.at 7 rfl) (by decide) ?_
    cases h
    exact r_iret E S3 (show InR (-1) by decide) (Wd_theEnd_dc.at 11 rfl)
  · have h := ite_f h q
    refine u_il_n (x := r2) E (Wd_theEnd_dc.at 8 rfl) hl rfl ?_
    refine u_il_n (x := a1) E (Wd_theEnd_dc.at 9 rfl) hl rfl ?_
    refine r_iadd E (Wd_theEnd_dc.at 10 rfl) ?_
    cases h
    exact r_iret E S3 (inR_w32 _) (Wd_theEnd_dc.at 11 rfl)
theorem Wd_theEnd_c (l : Launch) (G : zG) (fu : Nat) (top : Int) (L : zL) (M : zM) (a0 : Int) (a1 : Int) {res : Int} (ha0 : InR a0) (ha1 : InR a1) (h : Wd_theEnd fu L M a0 a1 = some res) : Met l yX10_theEnd (Cond.code yX10_theEnd cX10_theEnd 3 (some .int) :: zTB) (zrm 3 0 0) (va_Pc [zR G.2.2.1 a0, .int (zO a1)] (zPre G top L M)) (zQ G top L M (some (.int (zO res))) (InR res)) 0 0 (zA G) :=
  z_met (by decide +kernel) (by simp [zR_cat, zcat_I, zcat_S]) (Nat.le_of_ble_eq_true rfl) fun p e s m below meth c ls E hn S hl => Wd_theEnd_w E ha0 ha1 S (hl.sub (And.intro rfl (And.intro rfl True.intro))) h
end
theorem Lx_rule_dc : zDL cX11_rule [(0, .aload_n 0, 1, 1), (1, .getfield 105, 3, 4), (4, .ifCond .ne 5, 3, 7), (7, .iconst (-1), 1, 8), (8, .ireturn, 1, 9), (9, .aload_n 0, 1, 10), (10, .getfield 42, 3, 13), (13, .getfield 124, 3, 16), (16, .astore_n 2, 1, 17), (17, .iload_n 1, 1, 18), (18, .tableswitch 111 0 8 #[50, 55, 60, 65, 70, 78, 90, 98, 103], 50, 68), (68, .aload_n 2, 1, 69), (69, .getfield 155, 3, 72), (72, .ireturn, 1, 73), (73, .aload_n 2, 1, 74), (74, .getfield 165, 3, 77), (77, .ireturn, 1, 78), (78, .aload_n 2, 1, 79), (79, .invokevirtual 183, 3, 82), (82, .ireturn, 1, 83), (83, .aload_n 2, 1, 84), (84, .invokevirtual 186, 3, 87), (87, .ireturn, 1, 88), (88, .aload_n 0, 1, 89), (89, .getfield 42, 3, 92), (92, .getfield 177, 3, 95), (95, .ireturn, 1, 96), (96, .aload_n 2, 1, 97), (97, .aload_n 0, 1, 98), (98, .getfield 42, 3, 101), (101, .getfield 177, 3, 104), (104, .invokevirtual 189, 3, 107), (107, .ireturn, 1, 108), (108, .aload_n 0, 1, 109), (109, .getfield 42, 3, 112), (112, .getfield 133, 3, 115), (115, .ireturn, 1, 116), (116, .aload_n 2, 1, 117), (117, .getfield 127, 3, 120), (120, .ireturn, 1, 121), (121, .aload_n 0, 1, 122), (122, .getfield 42, 3, 125), (125, .getfield 180, 3, 128), (128, .ireturn, 1, 129), (129, .iconst (-1), 1, 130), (130, .ireturn, 1, 131)] := zDL.of (by decide +kernel)
section
variable {p : Program} {l : Launch} {e : Env} {s : State} {m : MethodId} {args : Array Value} {below : List Frame} {meth : Method} {c : Code} {G : zG} {top : Int} {L : zL} {fu : Nat}
theorem Lx_rule_w (E : zEv p m c cX11_rule 3 s args RX11 meth (some .int) G) {res : Int} {M : zM} {a0 : Int} {a1 : Int} {H : Heap} {locs : List Loc} {ls : Array Slot} (ha0 : InR a0) (ha1 : InR a1) (S : zS G top L M s H locs) (hl : zLV ls 3 [some (zR G.2.2.1 a0), some (.int (zO a1)), none]) (h : Lx_rule fu L M a0 a1 = some res) : W p l e (zrm 4 0 0) s m args below meth c H locs 0 0 (MQ below (zQ G top L M (some (.int (zO res))) (InR res)) args s 0 0 (zA G)) (F0 m 0 ls []) := by
  unfold Lx_rule at h
  refine u_al_n (x := a0) E (Lx_rule_dc.at 0 rfl) hl rfl ?_
  obtain ⟨g1, h⟩ := ite_e h
  refine u_gI E zf_11_11 S g1 zw_2_143 (Lx_rule_dc.at 1 rfl) ?_
  refine r_if_ne (tgt := 9) E (S.1.inR _ _) (Lx_rule_dc.at 2 rfl) (by decide) (fun q => ?_) (fun q => ?_)
  · have h := ite_t h q
    refine r_iconst E (Lx_rule_dc.at 3 rfl) ?_
    cases h
    exact r_iret E S (show InR (-1) by decide) (Lx_rule_dc.at 4 rfl)
  · have h := ite_f h q
    refine u_al_n (x := a0) E (Lx_rule_dc.at 5 rfl) hl rfl ?_
    refine u_gR E zf_11_4 S g1 zw_2_136 (Lx_rule_dc.at 6 rfl) ?_
    obtain ⟨g2, h⟩ := ite_e h
    refine u_gR E zf_1_0 S g2 zw_1_222 (Lx_rule_dc.at 7 rfl) ?_
    obtain ⟨v3, ev3, h⟩ := lt1_e h
    have hv3 := inR_eq ev3 (S.1.inR _ _)
    refine u_ast_n (y := v3) (vs' := [some (zR G.2.2.1 a0), some (.int (zO a1)), some (zR G.2.2.1 v3)]) E ev3 (Lx_rule_dc.at 8 rfl) hl (by decide) rfl (fun ls hl => ?_)
    refine u_il_n (x := a1) E (Lx_rule_dc.at 9 rfl) hl rfl ?_
    by_cases q5 : a1 = 0
    · have h := ite_t h q5
      refine r_tin (tgt := 68) (k := 0) E ha1 q5 (Lx_rule_dc.at 10 rfl) (by decide) (by decide) rfl (by decide) ?_
      refine u_al_n (x := v3) E (Lx_rule_dc.at 11 rfl) hl rfl ?_
      obtain ⟨g4, h⟩ := ite_e h
      refine u_gI E zf_10_5 S g4 zw_1_204 (Lx_rule_dc.at 12 rfl) ?_
      cases h
      exact r_iret E S (S.1.inR _ _) (Lx_rule_dc.at 13 rfl)
    · have h := ite_f h q5
      by_cases q7 : a1 = 1
      · have h := ite_t h q7
        refine r_tin (tgt := 73) (k := 1) E ha1 q7 (Lx_rule_dc.at 10 rfl) (by decide) (by decide) rfl (by decide) ?_
        refine u_al_n (x := v3) E (Lx_rule_dc.at 14 rfl) hl rfl ?_
        obtain ⟨g6, h⟩ := ite_e h
        refine u_gI E zf_10_4 S g6 zw_1_198 (Lx_rule_dc.at 15 rfl) ?_
        cases h
        exact r_iret E S (S.1.inR _ _) (Lx_rule_dc.at 16 rfl)
      · have h := ite_f h q7
        by_cases q11 : a1 = 2
        · have h := ite_t h q11
          refine r_tin (tgt := 78) (k := 2) E ha1 q11 (Lx_rule_dc.at 10 rfl) (by decide) (by decide) rfl (by decide) ?_
          refine u_al_n (x := v3) E (Lx_rule_dc.at 17 rfl) hl rfl ?_
          obtain ⟨g8, h⟩ := ite_e h
          obtain ⟨r9, er9, h⟩ := bd1_e h
          refine u_cVI (As := []) (rest := []) E S zcw_yX10_livingLives zw_4_179 zw_4_180 zw_4_178 zck_10.1 rfl g8 (Wd_livingLives_c l G fu top L M v3 hv3 er9) (zrm_ok (by decide) (by decide)) ⟨Nat.le_refl 0, Nat.le_refl 0⟩ rfl (Nat.zero_le 8) hl.size rfl (Lx_rule_dc.at 18 rfl) (fun H locs hr9 S10 => ?_)
          cases h
          exact r_iret E S10 hr9 (Lx_rule_dc.at 19 rfl)
        · have h := ite_f h q11
          by_cases q15 : a1 = 3
          · have h := ite_t h q15
            refine r_tin (tgt := 83) (k := 3) E ha1 q15 (Lx_rule_dc.at 10 rfl) (by decide) (by decide) rfl (by decide) ?_
            refine u_al_n (x := v3) E (Lx_rule_dc.at 20 rfl) hl rfl ?_
            obtain ⟨g12, h⟩ := ite_e h
            obtain ⟨r13, er13, h⟩ := bd1_e h
            refine u_cVI (As := []) (rest := []) E S zcw_yX10_lastDeath zw_4_183 zw_4_184 zw_4_182 zck_10.1 rfl g12 (Wd_lastDeath_c l G fu top L M v3 hv3 er13) (zrm_ok (by decide) (by decide)) ⟨Nat.le_refl 0, Nat.le_refl 0⟩ rfl (Nat.zero_le 8) hl.size rfl (Lx_rule_dc.at 21 rfl) (fun H locs hr13 S14 => ?_)
            cases h
            exact r_iret E S14 hr13 (Lx_rule_dc.at 22 rfl)
          · have h := ite_f h q15
            by_cases q16 : a1 = 4
            · have h := ite_t h q16
              refine r_tin (tgt := 88) (k := 4) E ha1 q16 (Lx_rule_dc.at 10 rfl) (by decide) (by decide) rfl (by decide) ?_
              refine u_al_n (x := a0) E (Lx_rule_dc.at 23 rfl) hl rfl ?_
              refine u_gR E zf_11_4 S g1 zw_2_136 (Lx_rule_dc.at 24 rfl) ?_
              refine u_gI E zf_1_3 S g2 zw_1_229 (Lx_rule_dc.at 25 rfl) ?_
              cases h
              exact r_iret E S (S.1.inR _ _) (Lx_rule_dc.at 26 rfl)
            · have h := ite_f h q16
              by_cases q20 : a1 = 5
              · have h := ite_t h q20
                refine r_tin (tgt := 96) (k := 5) E ha1 q20 (Lx_rule_dc.at 10 rfl) (by decide) (by decide) rfl (by decide) ?_
                refine u_al_n (x := v3) E (Lx_rule_dc.at 27 rfl) hl rfl ?_
                refine u_al_n (x := a0) E (Lx_rule_dc.at 28 rfl) hl rfl ?_
                refine u_gR E zf_11_4 S g1 zw_2_136 (Lx_rule_dc.at 29 rfl) ?_
                refine u_gI E zf_1_3 S g2 zw_1_229 (Lx_rule_dc.at 30 rfl) ?_
                obtain ⟨g17, h⟩ := ite_e h
                obtain ⟨r18, er18, h⟩ := bd1_e h
                refine u_cVI (As := [.int (zO (M (M a0 4) 3))]) (rest := []) E S zcw_yX10_theEnd zw_4_188 zw_4_189 zw_4_187 zck_10.1 rfl g17 (Wd_theEnd_c l G fu top L M v3 (M (M a0 4) 3) hv3 (S.1.inR _ _) er18) (zrm_ok (by decide) (by decide)) ⟨Nat.le_refl 0, Nat.le_refl 0⟩ rfl (Nat.zero_le 8) hl.size rfl (Lx_rule_dc.at 31 rfl) (fun H locs hr18 S19 => ?_)
                cases h
                exact r_iret E S19 hr18 (Lx_rule_dc.at 32 rfl)
              · have h := ite_f h q20
                by_cases q21 : a1 = 6
                · have h := ite_t h q21
                  refine r_tin (tgt := 108) (k := 6) E ha1 q21 (Lx_rule_dc.at 10 rfl) (by decide) (by decide) rfl (by decide) ?_
                  refine u_al_n (x := a0) E (Lx_rule_dc.at 33 rfl) hl rfl ?_
                  refine u_gR E zf_11_4 S g1 zw_2_136 (Lx_rule_dc.at 34 rfl) ?_
                  refine u_gI E zf_1_2 S g2 zw_1_226 (Lx_rule_dc.at 35 rfl) ?_
                  cases h
                  exact r_iret E S (S.1.inR _ _) (Lx_rule_dc.at 36 rfl)
                · have h := ite_f h q21
                  by_cases q23 : a1 = 7
                  · have h := ite_t h q23
                    refine r_tin (tgt := 116) (k := 7) E ha1 q23 (Lx_rule_dc.at 10 rfl) (by decide) (by decide) rfl (by decide) ?_
                    refine u_al_n (x := v3) E (Lx_rule_dc.at 37 rfl) hl rfl ?_
                    obtain ⟨g22, h⟩ := ite_e h
                    refine u_gI E zf_10_3 S g22 zw_1_195 (Lx_rule_dc.at 38 rfl) ?_
                    cases h
                    exact r_iret E S (S.1.inR _ _) (Lx_rule_dc.at 39 rfl)
                  · have h := ite_f h q23
                    by_cases q24 : a1 = 8
                    · have h := ite_t h q24
                      refine r_tin (tgt := 121) (k := 8) E ha1 q24 (Lx_rule_dc.at 10 rfl) (by decide) (by decide) rfl (by decide) ?_
                      refine u_al_n (x := a0) E (Lx_rule_dc.at 40 rfl) hl rfl ?_
                      refine u_gR E zf_11_4 S g1 zw_2_136 (Lx_rule_dc.at 41 rfl) ?_
                      refine u_gI E zf_1_4 S g2 zw_1_232 (Lx_rule_dc.at 42 rfl) ?_
                      cases h
                      exact r_iret E S (S.1.inR _ _) (Lx_rule_dc.at 43 rfl)
                    · have h := ite_f h q24
                      refine r_tout (tgt := 129) E ha1 (by omega) (Lx_rule_dc.at 10 rfl) (by decide) ?_
                      refine r_iconst E (Lx_rule_dc.at 44 rfl) ?_
                      cases h
                      exact r_iret E S (show InR (-1) by decide) (Lx_rule_dc.at 45 rfl)
theorem Lx_rule_c (l : Launch) (G : zG) (fu : Nat) (top : Int) (L : zL) (M : zM) (a0 : Int) (a1 : Int) {res : Int} (ha0 : InR a0) (ha1 : InR a1) (h : Lx_rule fu L M a0 a1 = some res) : Met l yX11_rule (Cond.code yX11_rule cX11_rule 3 (some .int) :: zTB) (zrm 4 0 0) (va_Pc [zR G.2.2.1 a0, .int (zO a1)] (zPre G top L M)) (zQ G top L M (some (.int (zO res))) (InR res)) 0 0 (zA G) :=
  z_met (by decide +kernel) (by simp [zR_cat, zcat_I, zcat_S]) (Nat.le_of_ble_eq_true rfl) fun p e s m below meth c ls E hn S hl => Lx_rule_w E ha0 ha1 S (hl.sub (And.intro rfl (And.intro rfl True.intro))) h
end
theorem Lx_told_dc : zDL cX11_told [(0, .aload_n 0, 1, 1), (1, .getfield 42, 3, 4), (4, .iload_n 1, 1, 5), (5, .invokevirtual 148, 3, 8), (8, .astore_n 3, 1, 9), (9, .aload_n 3, 1, 10), (10, .ifnonnull 5, 3, 13), (13, .iconst (-1), 1, 14), (14, .ireturn, 1, 15), (15, .iload_n 2, 1, 16), (16, .tableswitch 52 0 3 #[32, 37, 42, 47], 32, 48), (48, .aload_n 3, 1, 49), (49, .getfield 211, 3, 52), (52, .ireturn, 1, 53), (53, .aload_n 3, 1, 54), (54, .getfield 214, 3, 57), (57, .ireturn, 1, 58), (58, .aload_n 3, 1, 59), (59, .getfield 217, 3, 62), (62, .ireturn, 1, 63), (63, .aload_n 3, 1, 64), (64, .getfield 220, 3, 67), (67, .ireturn, 1, 68), (68, .iconst (-1), 1, 69), (69, .ireturn, 1, 70)] := zDL.of (by decide +kernel)
section
variable {p : Program} {l : Launch} {e : Env} {s : State} {m : MethodId} {args : Array Value} {below : List Frame} {meth : Method} {c : Code} {G : zG} {top : Int} {L : zL} {fu : Nat}
theorem Lx_told_w (E : zEv p m c cX11_told 4 s args RX11 meth (some .int) G) {res : Int} {M : zM} {a0 : Int} {a1 : Int} {a2 : Int} {H : Heap} {locs : List Loc} {ls : Array Slot} (ha0 : InR a0) (ha1 : InR a1) (ha2 : InR a2) (S : zS G top L M s H locs) (hl : zLV ls 4 [some (zR G.2.2.1 a0), some (.int (zO a1)), some (.int (zO a2)), none]) (h : Lx_told fu L M a0 a1 a2 = some res) : W p l e (zrm 2 0 0) s m args below meth c H locs 0 0 (MQ below (zQ G top L M (some (.int (zO res))) (InR res)) args s 0 0 (zA G)) (F0 m 0 ls []) := by
  unfold Lx_told at h
  refine u_al_n (x := a0) E (Lx_told_dc.at 0 rfl) hl rfl ?_
  obtain ⟨g1, h⟩ := ite_e h
  refine u_gR E zf_11_4 S g1 zw_2_136 (Lx_told_dc.at 1 rfl) ?_
  refine u_il_n (x := a1) E (Lx_told_dc.at 2 rfl) hl rfl ?_
  obtain ⟨g2, h⟩ := ite_e h
  obtain ⟨r3, er3, h⟩ := bd1_e h
  refine u_cVR (As := [.int (zO a1)]) (rest := []) E S zcw_yX1_giftAt zw_4_39 zw_4_40 zw_4_128 zck_1.1 rfl g2 (Af_giftAt_c l G fu top L M (M a0 4) a1 (S.1.inR _ _) ha1 er3) (zrm_ok (by decide) (by decide)) ⟨Nat.le_refl 0, Nat.le_refl 0⟩ rfl (Nat.zero_le 8) hl.size rfl (Lx_told_dc.at 3 rfl) (fun H locs hr3 S4 => ?_)
  refine u_ast_n (y := r3) (vs' := [some (zR G.2.2.1 a0), some (.int (zO a1)), some (.int (zO a2)), some (zR G.2.2.1 r3)]) E rfl (Lx_told_dc.at 4 rfl) hl (by decide) rfl (fun ls hl => ?_)
  refine u_al_n (x := r3) E (Lx_told_dc.at 5 rfl) hl rfl ?_
  refine r_ifnonnull (tgt := 15) E (Lx_told_dc.at 6 rfl) (by decide) (fun q => ?_) (fun q => ?_)
  · have h := ite_t h q
    refine r_iconst E (Lx_told_dc.at 7 rfl) ?_
    cases h
    exact r_iret E S4 (show InR (-1) by decide) (Lx_told_dc.at 8 rfl)
  · have h := ite_f h q
    refine u_il_n (x := a2) E (Lx_told_dc.at 9 rfl) hl rfl ?_
    by_cases q6 : a2 = 0
    · have h := ite_t h q6
      refine r_tin (tgt := 48) (k := 0) E ha2 q6 (Lx_told_dc.at 10 rfl) (by decide) (by decide) rfl (by decide) ?_
      refine u_al_n (x := r3) E (Lx_told_dc.at 11 rfl) hl rfl ?_
      obtain ⟨g5, h⟩ := ite_e h
      refine u_gI E zf_3_0 S4 g5 zw_4_75 (Lx_told_dc.at 12 rfl) ?_
      cases h
      exact r_iret E S4 (S4.1.inR _ _) (Lx_told_dc.at 13 rfl)
    · have h := ite_f h q6
      by_cases q8 : a2 = 1
      · have h := ite_t h q8
        refine r_tin (tgt := 53) (k := 1) E ha2 q8 (Lx_told_dc.at 10 rfl) (by decide) (by decide) rfl (by decide) ?_
        refine u_al_n (x := r3) E (Lx_told_dc.at 14 rfl) hl rfl ?_
        obtain ⟨g7, h⟩ := ite_e h
        refine u_gI E zf_3_1 S4 g7 zw_4_79 (Lx_told_dc.at 15 rfl) ?_
        cases h
        exact r_iret E S4 (S4.1.inR _ _) (Lx_told_dc.at 16 rfl)
      · have h := ite_f h q8
        by_cases q10 : a2 = 2
        · have h := ite_t h q10
          refine r_tin (tgt := 58) (k := 2) E ha2 q10 (Lx_told_dc.at 10 rfl) (by decide) (by decide) rfl (by decide) ?_
          refine u_al_n (x := r3) E (Lx_told_dc.at 17 rfl) hl rfl ?_
          obtain ⟨g9, h⟩ := ite_e h
          refine u_gI E zf_3_2 S4 g9 zw_4_83 (Lx_told_dc.at 18 rfl) ?_
          cases h
          exact r_iret E S4 (S4.1.inR _ _) (Lx_told_dc.at 19 rfl)
        · have h := ite_f h q10
          by_cases q12 : a2 = 3
          · have h := ite_t h q12
            refine r_tin (tgt := 63) (k := 3) E ha2 q12 (Lx_told_dc.at 10 rfl) (by decide) (by decide) rfl (by decide) ?_
            refine u_al_n (x := r3) E (Lx_told_dc.at 20 rfl) hl rfl ?_
            obtain ⟨g11, h⟩ := ite_e h
            refine u_gI E zf_3_4 S4 g11 zw_4_88 (Lx_told_dc.at 21 rfl) ?_
            cases h
            exact r_iret E S4 (S4.1.inR _ _) (Lx_told_dc.at 22 rfl)
          · have h := ite_f h q12
            refine r_tout (tgt := 68) E ha2 (by omega) (Lx_told_dc.at 10 rfl) (by decide) ?_
            refine r_iconst E (Lx_told_dc.at 23 rfl) ?_
            cases h
            exact r_iret E S4 (show InR (-1) by decide) (Lx_told_dc.at 24 rfl)
theorem Lx_told_c (l : Launch) (G : zG) (fu : Nat) (top : Int) (L : zL) (M : zM) (a0 : Int) (a1 : Int) (a2 : Int) {res : Int} (ha0 : InR a0) (ha1 : InR a1) (ha2 : InR a2) (h : Lx_told fu L M a0 a1 a2 = some res) : Met l yX11_told (Cond.code yX11_told cX11_told 4 (some .int) :: zTB) (zrm 2 0 0) (va_Pc [zR G.2.2.1 a0, .int (zO a1), .int (zO a2)] (zPre G top L M)) (zQ G top L M (some (.int (zO res))) (InR res)) 0 0 (zA G) :=
  z_met (by decide +kernel) (by simp [zR_cat, zcat_I, zcat_S]) (Nat.le_of_ble_eq_true rfl) fun p e s m below meth c ls E hn S hl => Lx_told_w E ha0 ha1 ha2 S (hl.sub (And.intro rfl (And.intro rfl (And.intro rfl True.intro)))) h
end
theorem Lx_written_dc : zDL cX11_written [(0, .aload_n 0, 1, 1), (1, .getfield 42, 3, 4), (4, .iload_n 1, 1, 5), (5, .invokevirtual 148, 3, 8), (8, .astore_n 3, 1, 9), (9, .aload_n 3, 1, 10), (10, .ifnonnull 5, 3, 13), (13, .iconst (-1), 1, 14), (14, .ireturn, 1, 15), (15, .iload_n 2, 1, 16), (16, .iconst (-1), 1, 17), (17, .if_icmp .ne 9, 3, 20), (20, .aload_n 3, 1, 21), (21, .getfield 223, 3, 24), (24, .arraylength, 1, 25), (25, .ireturn, 1, 26), (26, .iload_n 2, 1, 27), (27, .ifCond .lt 21, 3, 30), (30, .iload_n 2, 1, 31), (31, .aload_n 3, 1, 32), (32, .getfield 223, 3, 35), (35, .arraylength, 1, 36), (36, .if_icmp .ge 12, 3, 39), (39, .aload_n 3, 1, 40), (40, .getfield 223, 3, 43), (43, .iload_n 2, 1, 44), (44, .iaload, 1, 45), (45, .goto 4, 3, 48), (48, .iconst (-1), 1, 49), (49, .ireturn, 1, 50)] := zDL.of (by decide +kernel)
section
variable {p : Program} {l : Launch} {e : Env} {s : State} {m : MethodId} {args : Array Value} {below : List Frame} {meth : Method} {c : Code} {G : zG} {top : Int} {L : zL} {fu : Nat}
theorem Lx_written_w (E : zEv p m c cX11_written 4 s args RX11 meth (some .int) G) {res : Int} {M : zM} {a0 : Int} {a1 : Int} {a2 : Int} {H : Heap} {locs : List Loc} {ls : Array Slot} (ha0 : InR a0) (ha1 : InR a1) (ha2 : InR a2) (S : zS G top L M s H locs) (hl : zLV ls 4 [some (zR G.2.2.1 a0), some (.int (zO a1)), some (.int (zO a2)), none]) (h : Lx_written fu L M a0 a1 a2 = some res) : W p l e (zrm 2 0 0) s m args below meth c H locs 0 0 (MQ below (zQ G top L M (some (.int (zO res))) (InR res)) args s 0 0 (zA G)) (F0 m 0 ls []) := by
  unfold Lx_written at h
  refine u_al_n (x := a0) E (Lx_written_dc.at 0 rfl) hl rfl ?_
  obtain ⟨g1, h⟩ := ite_e h
  refine u_gR E zf_11_4 S g1 zw_2_136 (Lx_written_dc.at 1 rfl) ?_
  refine u_il_n (x := a1) E (Lx_written_dc.at 2 rfl) hl rfl ?_
  obtain ⟨g2, h⟩ := ite_e h
  obtain ⟨r3, er3, h⟩ := bd1_e h
  refine u_cVR (As := [.int (zO a1)]) (rest := []) E S zcw_yX1_giftAt zw_4_39 zw_4_40 zw_4_128 zck_1.1 rfl g2 (Af_giftAt_c l G fu top L M (M a0 4) a1 (S.1.inR _ _) ha1 er3) (zrm_ok (by decide) (by decide)) ⟨Nat.le_refl 0, Nat.le_refl 0⟩ rfl (Nat.zero_le 8) hl.size rfl (Lx_written_dc.at 3 rfl) (fun H locs hr3 S4 => ?_)
  refine u_ast_n (y := r3) (vs' := [some (zR G.2.2.1 a0), some (.int (zO a1)), some (.int (zO a2)), some (zR G.2.2.1 r3)]) E rfl (Lx_written_dc.at 4 rfl) hl (by decide) rfl (fun ls hl => ?_)
  refine u_al_n (x := r3) E (Lx_written_dc.at 5 rfl) hl rfl ?_
  refine r_ifnonnull (tgt := 15) E (Lx_written_dc.at 6 rfl) (by decide) (fun q => ?_) (fun q => ?_)
  · have h := ite_t h q
    refine r_iconst E (Lx_written_dc.at 7 rfl) ?_
    cases h
    exact r_iret E S4 (show InR (-1) by decide) (Lx_written_dc.at 8 rfl)
  · have h := ite_f h q
    refine u_il_n (x := a2) E (Lx_written_dc.at 9 rfl) hl rfl ?_
    refine r_iconst E (Lx_written_dc.at 10 rfl) ?_
    refine r_icmp_ne (tgt := 26) E ha2 (show InR (-1) by decide) (Lx_written_dc.at 11 rfl) (by decide) (fun q => ?_) (fun q => ?_)
    · have h := ite_t h q
      refine u_al_n (x := r3) E (Lx_written_dc.at 12 rfl) hl rfl ?_
      obtain ⟨g5, h⟩ := ite_e h
      refine u_gR E zf_3_10 S4 g5 zw_4_99 (Lx_written_dc.at 13 rfl) ?_
      obtain ⟨g6, h⟩ := ite_e h
      refine r_alen E S4 g6 (by decide) (Lx_written_dc.at 14 rfl) ?_
      cases h
      exact r_iret E S4 (S4.1.lenR _) (Lx_written_dc.at 15 rfl)
    · have h := ite_f h q
      refine u_il_n (x := a2) E (Lx_written_dc.at 16 rfl) hl rfl ?_
      refine r_if_lt (tgt := 48) E ha2 (Lx_written_dc.at 17 rfl) (by decide) (fun q => ?_) (fun q => ?_)
      · have h := ite_t h q
        refine r_iconst E (Lx_written_dc.at 28 rfl) ?_
        cases h
        exact r_iret E S4 (show InR (-1) by decide) (Lx_written_dc.at 29 rfl)
      · have h := ite_f h q
        refine u_il_n (x := a2) E (Lx_written_dc.at 18 rfl) hl rfl ?_
        refine u_al_n (x := r3) E (Lx_written_dc.at 19 rfl) hl rfl ?_
        obtain ⟨g7, h⟩ := ite_e h
        refine u_gR E zf_3_10 S4 g7 zw_4_99 (Lx_written_dc.at 20 rfl) ?_
        obtain ⟨g8, h⟩ := ite_e h
        refine r_alen E S4 g8 (by decide) (Lx_written_dc.at 21 rfl) ?_
        refine r_icmp_ge (tgt := 48) E ha2 (S4.1.lenR _) (Lx_written_dc.at 22 rfl) (by decide) (fun q => ?_) (fun q => ?_)
        · have h := ite_t h q
          refine u_al_n (x := r3) E (Lx_written_dc.at 23 rfl) hl rfl ?_
          refine u_gR E zf_3_10 S4 g7 zw_4_99 (Lx_written_dc.at 24 rfl) ?_
          refine u_il_n (x := a2) E (Lx_written_dc.at 25 rfl) hl rfl ?_
          obtain ⟨g9, h⟩ := ite_e h
          refine r_iald E S4 g8 g9 (Lx_written_dc.at 26 rfl) ?_
          refine r_goto (tgt := 49) E (Lx_written_dc.at 27 rfl) (by decide) ?_
          cases h
          exact r_iret E S4 (S4.1.inR _ _) (Lx_written_dc.at 29 rfl)
        · have h := ite_f h q
          refine r_iconst E (Lx_written_dc.at 28 rfl) ?_
          cases h
          exact r_iret E S4 (show InR (-1) by decide) (Lx_written_dc.at 29 rfl)
theorem Lx_written_c (l : Launch) (G : zG) (fu : Nat) (top : Int) (L : zL) (M : zM) (a0 : Int) (a1 : Int) (a2 : Int) {res : Int} (ha0 : InR a0) (ha1 : InR a1) (ha2 : InR a2) (h : Lx_written fu L M a0 a1 a2 = some res) : Met l yX11_written (Cond.code yX11_written cX11_written 4 (some .int) :: zTB) (zrm 2 0 0) (va_Pc [zR G.2.2.1 a0, .int (zO a1), .int (zO a2)] (zPre G top L M)) (zQ G top L M (some (.int (zO res))) (InR res)) 0 0 (zA G) :=
  z_met (by decide +kernel) (by simp [zR_cat, zcat_I, zcat_S]) (Nat.le_of_ble_eq_true rfl) fun p e s m below meth c ls E hn S hl => Lx_written_w E ha0 ha1 ha2 S (hl.sub (And.intro rfl (And.intro rfl (And.intro rfl True.intro)))) h
end
theorem Wd_natureOf_dc : zDL cX10_natureOf [(0, .aload_n 1, 1, 1), (1, .getfield 68, 3, 4), (4, .ifCond .eq 14, 3, 7), (7, .aload_n 0, 1, 8), (8, .aload_n 1, 1, 9), (9, .getfield 73, 3, 12), (12, .invokevirtual 59, 3, 15), (15, .ifCond .eq 5, 3, 18), (18, .iconst (-1), 1, 19), (19, .ireturn, 1, 20), (20, .aload_n 0, 1, 21), (21, .aload_n 1, 1, 22), (22, .getfield 73, 3, 25), (25, .invokevirtual 49, 3, 28), (28, .istore_n 2, 1, 29), (29, .iconst 0, 1, 30), (30, .istore_n 3, 1, 31), (31, .aload_n 1, 1, 32), (32, .getfield 68, 3, 35), (35, .iconst 2, 1, 36), (36, .if_icmp .ne 49, 3, 39), (39, .iload_n 3, 1, 40), (40, .aload_n 0, 1, 41), (41, .getfield 25, 3, 44), (44, .if_icmp .ge 41, 3, 47), (47, .aload_n 0, 1, 48), (48, .iload_n 3, 1, 49), (49, .invokevirtual 43, 3, 52), (52, .aload_n 1, 1, 53), (53, .getfield 73, 3, 56), (56, .if_icmp .ne 23, 3, 59), (59, .aload_n 0, 1, 60), (60, .iload_n 3, 1, 61), (61, .invokevirtual 59, 3, 64), (64, .ifCond .eq 5, 3, 67), (67, .iconst (-1), 1, 68), (68, .ireturn, 1, 69), (69, .iload_n 2, 1, 70), (70, .aload_n 0, 1, 71), (71, .iload_n 3, 1, 72), (72, .invokevirtual 49, 3, 75), (75, .invokestatic 62, 3, 78), (78, .istore_n 2, 1, 79), (79, .iinc 3 1, 3, 82), (82, .goto (-51), 3, 85), (85, .iload_n 2, 1, 86), (86, .ireturn, 1, 87)] := zDL.of (by decide +kernel)
section
variable {p : Program} {l : Launch} {e : Env} {s : State} {m : MethodId} {args : Array Value} {below : List Frame} {meth : Method} {c : Code} {G : zG} {top : Int} {L : zL} {fu : Nat}
theorem Wd_natureOf_s31_w (E : zEv p m c cX10_natureOf 4 s args RX10 meth (some .int) G) {res : Int} {k31 : zM → Int → Int → Int → Int → Option Int} (hk31 : ∀ (M : zM) (x0 : Int) (x1 : Int) (x2 : Int) (x3 : Int), InR x0 → InR x1 → InR x2 → InR x3 → ∀ (H : Heap) (locs : List Loc) (ls : Array Slot), zS G top L M s H locs → zLV ls 4 [some (zR G.2.2.1 x0), some (zR G.2.2.1 x1), some (.int (zO x2)), some (.int (zO x3))] → k31 M x0 x1 x2 x3 = some res → W p l e (zrm 2 0 0) s m args below meth c H locs 0 0 (MQ below (zQ G top L M (some (.int (zO res))) (InR res)) args s 0 0 (zA G)) (F0 m 31 ls [])) {M : zM} {x0 : Int} {x1 : Int} {x2 : Int} {x3 : Int} {H : Heap} {locs : List Loc} {ls : Array Slot} (hx0 : InR x0) (hx1 : InR x1) (hx2 : InR x2) (hx3 : InR x3) (S : zS G top L M s H locs) (hl : zLV ls 4 [some (zR G.2.2.1 x0), some (zR G.2.2.1 x1), some (.int (zO x2)), some (.int (zO x3))]) (h : Wd_natureOf_s31 fu k31 L M x0 x1 x2 x3 = some res) : W p l e (zrm 2 0 0) s m args below meth c H locs 0 0 (MQ below (zQ G top L M (some (.int (zO res))) (InR res)) args s 0 0 (zA G)) (F0 m 31 ls []) := by
  unfold Wd_natureOf_s31 at h
  refine u_al_n (x := x1) E (Wd_natureOf_dc.at 17 rfl) hl rfl ?_
  obtain ⟨g7, h⟩ := ite_e h
  refine u_gI E zf_3_0 S g7 zw_4_76 (Wd_natureOf_dc.at 18 rfl) ?_
  refine r_iconst E (Wd_natureOf_dc.at 19 rfl) ?_
  refine r_icmp_ne (tgt := 85) E (S.1.inR _ _) (show InR 2 by decide) (Wd_natureOf_dc.at 20 rfl) (by decide) (fun q => ?_) (fun q => ?_)
  · have h := ite_t h q
    refine u_il_n (x := x3) E (Wd_natureOf_dc.at 21 rfl) hl rfl ?_
    refine u_al_n (x := x0) E (Wd_natureOf_dc.at 22 rfl) hl rfl ?_
    obtain ⟨g8, h⟩ := ite_e h
    refine u_gI E zf_10_4 S g8 zw_1_197 (Wd_natureOf_dc.at 23 rfl) ?_
    refine r_icmp_ge (tgt := 85) E hx3 (S.1.inR _ _) (Wd_natureOf_dc.at 24 rfl) (by decide) (fun q => ?_) (fun q => ?_)
    · have h := ite_t h q
      refine u_al_n (x := x0) E (Wd_natureOf_dc.at 25 rfl) hl rfl ?_
      refine u_il_n (x := x3) E (Wd_natureOf_dc.at 26 rfl) hl rfl ?_
      obtain ⟨r9, er9, h⟩ := bd1_e h
      refine u_cVI (As := [.int (zO x3)]) (rest := []) E S zcw_yX10_parentOf zw_4_23 zw_4_24 zw_4_22 zck_10.1 rfl g8 (Wd_parentOf_c l G fu top L M x0 x3 hx0 hx3 er9) (zrm_ok (by decide) (by decide)) ⟨Nat.le_refl 0, Nat.le_refl 0⟩ rfl (Nat.zero_le 8) hl.size rfl (Wd_natureOf_dc.at 27 rfl) (fun H locs hr9 S10 => ?_)
      refine u_al_n (x := x1) E (Wd_natureOf_dc.at 28 rfl) hl rfl ?_
      refine u_gI E zf_3_1 S10 g7 zw_4_80 (Wd_natureOf_dc.at 29 rfl) ?_
      refine r_icmp_ne (tgt := 79) E hr9 (S10.1.inR _ _) (Wd_natureOf_dc.at 30 rfl) (by decide) (fun q => ?_) (fun q => ?_)
      · have h := ite_t h q
        refine u_al_n (x := x0) E (Wd_natureOf_dc.at 31 rfl) hl rfl ?_
        refine u_il_n (x := x3) E (Wd_natureOf_dc.at 32 rfl) hl rfl ?_
        obtain ⟨r11, er11, h⟩ := bd1_e h
        refine u_cVI (As := [.int (zO x3)]) (rest := []) E S10 zcw_yX10_isAlive zw_4_146 zw_4_147 zw_4_145 zck_10.1 rfl g8 (Wd_isAlive_c l G fu top L M x0 x3 hx0 hx3 er11) (zrm_ok (by decide) (by decide)) ⟨Nat.le_refl 0, Nat.le_refl 0⟩ rfl (Nat.zero_le 8) hl.size rfl (Wd_natureOf_dc.at 33 rfl) (fun H locs hr11 S12 => ?_)
        refine r_if_eq (tgt := 69) E (inR_01 hr11) (Wd_natureOf_dc.at 34 rfl) (by decide) (fun q => ?_) (fun q => ?_)
        · have h := ite_t h q
          refine u_il_n (x := x2) E (Wd_natureOf_dc.at 37 rfl) hl rfl ?_
          refine u_al_n (x := x0) E (Wd_natureOf_dc.at 38 rfl) hl rfl ?_
          refine u_il_n (x := x3) E (Wd_natureOf_dc.at 39 rfl) hl rfl ?_
          obtain ⟨r13, er13, h⟩ := bd1_e h
          refine u_cVI (As := [.int (zO x3)]) (rest := [.int (zO x2)]) E S12 zcw_yX10_diedIn zw_4_27 zw_4_28 zw_4_26 zck_10.1 rfl g8 (Wd_diedIn_c l G fu top L M x0 x3 hx0 hx3 er13) (zrm_ok (by decide) (by decide)) ⟨Nat.le_refl 0, Nat.le_refl 0⟩ rfl (by simp [zR_cat, zcat_I, zcat_J, zcat_S]) hl.size rfl (Wd_natureOf_dc.at 40 rfl) (fun H locs hr13 S14 => ?_)
          refine r_max (rest := []) E hx2 hr13 hl.size zw_4_186 zw_4_56 zw_1_17 zw_4_57 (by decide) (by simp [zR_cat, zcat_I, zcat_J, zcat_S, zrm]) ⟨Nat.zero_le _, Nat.zero_le _⟩ (Wd_natureOf_dc.at 41 rfl) ?_
          obtain ⟨v15, ev15, h⟩ := lt1_e h
          have hv15 := inR_eq ev15 (inR_max hx2 hr13)
          refine u_ist_n (y := v15) (vs' := [some (zR G.2.2.1 x0), some (zR G.2.2.1 x1), some (.int (zO v15)), some (.int (zO x3))]) E ev15 (Wd_natureOf_dc.at 42 rfl) hl (by decide) rfl (fun ls hl => ?_)
          obtain ⟨v16, ev16, h⟩ := lt1_e h
          have hv16 := inR_eq ev16 (inR_w32 _)
          refine u_iinc (y := v16) (vs' := [some (zR G.2.2.1 x0), some (zR G.2.2.1 x1), some (.int (zO v15)), some (.int (zO v16))]) E ev16 (Wd_natureOf_dc.at 43 rfl) hl rfl (by decide) rfl (fun ls hl => ?_)
          refine r_goto (tgt := 31) E (Wd_natureOf_dc.at 44 rfl) (by decide) ?_
          exact hk31 _ x0 x1 v15 v16 hx0 hx1 hv15 hv16 _ _ _ S14 (hl.sub (And.intro rfl (And.intro rfl (And.intro rfl (And.intro rfl True.intro))))) h
        · have h := ite_f h q
          refine r_iconst E (Wd_natureOf_dc.at 35 rfl) ?_
          cases h
          exact r_iret E S12 (show InR (-1) by decide) (Wd_natureOf_dc.at 36 rfl)
      · have h := ite_f h q
        obtain ⟨v17, ev17, h⟩ := lt1_e h
        have hv17 := inR_eq ev17 (inR_w32 _)
        refine u_iinc (y := v17) (vs' := [some (zR G.2.2.1 x0), some (zR G.2.2.1 x1), some (.int (zO x2)), some (.int (zO v17))]) E ev17 (Wd_natureOf_dc.at 43 rfl) hl rfl (by decide) rfl (fun ls hl => ?_)
        refine r_goto (tgt := 31) E (Wd_natureOf_dc.at 44 rfl) (by decide) ?_
        exact hk31 _ x0 x1 x2 v17 hx0 hx1 hx2 hv17 _ _ _ S10 (hl.sub (And.intro rfl (And.intro rfl (And.intro rfl (And.intro rfl True.intro))))) h
    · have h := ite_f h q
      refine u_il_n (x := x2) E (Wd_natureOf_dc.at 45 rfl) hl rfl ?_
      cases h
      exact r_iret E S hx2 (Wd_natureOf_dc.at 46 rfl)
  · have h := ite_f h q
    refine u_il_n (x := x2) E (Wd_natureOf_dc.at 45 rfl) hl rfl ?_
    cases h
    exact r_iret E S hx2 (Wd_natureOf_dc.at 46 rfl)
theorem Wd_natureOf_l31_w (E : zEv p m c cX10_natureOf 4 s args RX10 meth (some .int) G) {res : Int} : ∀ (n : Nat) (M : zM) (x0 : Int) (x1 : Int) (x2 : Int) (x3 : Int), InR x0 → InR x1 → InR x2 → InR x3 → ∀ (H : Heap) (locs : List Loc) (ls : Array Slot), zS G top L M s H locs → zLV ls 4 [some (zR G.2.2.1 x0), some (zR G.2.2.1 x1), some (.int (zO x2)), some (.int (zO x3))] → Wd_natureOf_l31 fu L n M x0 x1 x2 x3 = some res → W p l e (zrm 2 0 0) s m args below meth c H locs 0 0 (MQ below (zQ G top L M (some (.int (zO res))) (InR res)) args s 0 0 (zA G)) (F0 m 31 ls [])
  | 0, _, _, _, _, _ => fun _ _ _ _ _ _ _ _ _ h => (by cases h)
  | n + 1, M, x0, x1, x2, x3 => fun hx0 hx1 hx2 hx3 H locs ls S hl h => Wd_natureOf_s31_w E (fun M x0 x1 x2 x3 hx0 hx1 hx2 hx3 H locs ls S hl h => Wd_natureOf_l31_w E n M x0 x1 x2 x3 hx0 hx1 hx2 hx3 H locs ls S hl h) hx0 hx1 hx2 hx3 S hl h
theorem Wd_natureOf_w (E : zEv p m c cX10_natureOf 4 s args RX10 meth (some .int) G) {res : Int} {M : zM} {a0 : Int} {a1 : Int} {H : Heap} {locs : List Loc} {ls : Array Slot} (ha0 : InR a0) (ha1 : InR a1) (S : zS G top L M s H locs) (hl : zLV ls 4 [some (zR G.2.2.1 a0), some (zR G.2.2.1 a1), none, none]) (h : Wd_natureOf fu L M a0 a1 = some res) : W p l e (zrm 2 0 0) s m args below meth c H locs 0 0 (MQ below (zQ G top L M (some (.int (zO res))) (InR res)) args s 0 0 (zA G)) (F0 m 0 ls []) := by
  unfold Wd_natureOf at h
  refine u_al_n (x := a1) E (Wd_natureOf_dc.at 0 rfl) hl rfl ?_
  obtain ⟨g1, h⟩ := ite_e h
  refine u_gI E zf_3_0 S g1 zw_4_76 (Wd_natureOf_dc.at 1 rfl) ?_
  refine r_if_eq (tgt := 18) E (S.1.inR _ _) (Wd_natureOf_dc.at 2 rfl) (by decide) (fun q => ?_) (fun q => ?_)
  · have h := ite_t h q
    refine r_iconst E (Wd_natureOf_dc.at 8 rfl) ?_
    cases h
    exact r_iret E S (show InR (-1) by decide) (Wd_natureOf_dc.at 9 rfl)
  · have h := ite_f h q
    refine u_al_n (x := a0) E (Wd_natureOf_dc.at 3 rfl) hl rfl ?_
    refine u_al_n (x := a1) E (Wd_natureOf_dc.at 4 rfl) hl rfl ?_
    refine u_gI E zf_3_1 S g1 zw_4_80 (Wd_natureOf_dc.at 5 rfl) ?_
    obtain ⟨g2, h⟩ := ite_e h
    obtain ⟨r3, er3, h⟩ := bd1_e h
    refine u_cVI (As := [.int (zO (M a1 1))]) (rest := []) E S zcw_yX10_isAlive zw_4_146 zw_4_147 zw_4_145 zck_10.1 rfl g2 (Wd_isAlive_c l G fu top L M a0 (M a1 1) ha0 (S.1.inR _ _) er3) (zrm_ok (by decide) (by decide)) ⟨Nat.le_refl 0, Nat.le_refl 0⟩ rfl (Nat.zero_le 8) hl.size rfl (Wd_natureOf_dc.at 6 rfl) (fun H locs hr3 S4 => ?_)
    refine r_if_eq (tgt := 20) E (inR_01 hr3) (Wd_natureOf_dc.at 7 rfl) (by decide) (fun q => ?_) (fun q => ?_)
    · have h := ite_t h q
      refine u_al_n (x := a0) E (Wd_natureOf_dc.at 10 rfl) hl rfl ?_
      refine u_al_n (x := a1) E (Wd_natureOf_dc.at 11 rfl) hl rfl ?_
      refine u_gI E zf_3_1 S4 g1 zw_4_80 (Wd_natureOf_dc.at 12 rfl) ?_
      obtain ⟨r5, er5, h⟩ := bd1_e h
      refine u_cVI (As := [.int (zO (M a1 1))]) (rest := []) E S4 zcw_yX10_diedIn zw_4_27 zw_4_28 zw_4_26 zck_10.1 rfl g2 (Wd_diedIn_c l G fu top L M a0 (M a1 1) ha0 (S4.1.inR _ _) er5) (zrm_ok (by decide) (by decide)) ⟨Nat.le_refl 0, Nat.le_refl 0⟩ rfl (Nat.zero_le 8) hl.size rfl (Wd_natureOf_dc.at 13 rfl) (fun H locs hr5 S6 => ?_)
      refine u_ist_n (y := r5) (vs' := [some (zR G.2.2.1 a0), some (zR G.2.2.1 a1), some (.int (zO r5)), none]) E rfl (Wd_natureOf_dc.at 14 rfl) hl (by decide) rfl (fun ls hl => ?_)
      refine r_iconst E (Wd_natureOf_dc.at 15 rfl) ?_
      refine u_ist_n (y := 0) (vs' := [some (zR G.2.2.1 a0), some (zR G.2.2.1 a1), some (.int (zO r5)), some (.int (zO 0))]) E rfl (Wd_natureOf_dc.at 16 rfl) hl (by decide) rfl (fun ls hl => ?_)
      exact Wd_natureOf_l31_w E fu _ a0 a1 r5 0 ha0 ha1 hr5 (show InR 0 by decide) _ _ _ S6 (hl.sub (And.intro rfl (And.intro rfl (And.intro rfl (And.intro rfl True.intro))))) h
    · have h := ite_f h q
      refine r_iconst E (Wd_natureOf_dc.at 8 rfl) ?_
      cases h
      exact r_iret E S4 (show InR (-1) by decide) (Wd_natureOf_dc.at 9 rfl)
theorem Wd_natureOf_c (l : Launch) (G : zG) (fu : Nat) (top : Int) (L : zL) (M : zM) (a0 : Int) (a1 : Int) {res : Int} (ha0 : InR a0) (ha1 : InR a1) (h : Wd_natureOf fu L M a0 a1 = some res) : Met l yX10_natureOf (Cond.code yX10_natureOf cX10_natureOf 4 (some .int) :: zTB) (zrm 2 0 0) (va_Pc [zR G.2.2.1 a0, zR G.2.2.1 a1] (zPre G top L M)) (zQ G top L M (some (.int (zO res))) (InR res)) 0 0 (zA G) :=
  z_met (by decide +kernel) (by simp [zR_cat, zcat_I, zcat_S]) (Nat.le_of_ble_eq_true rfl) fun p e s m below meth c ls E hn S hl => Wd_natureOf_w E ha0 ha1 S (hl.sub (And.intro rfl (And.intro rfl True.intro))) h
end
theorem Gf_hasStep_dc : zDL cX3_hasStep [(0, .iload_n 1, 1, 1), (1, .ifCond .lt 43, 3, 4), (4, .iload_n 1, 1, 5), (5, .aload_n 0, 1, 6), (6, .getfield 48, 3, 9), (9, .arraylength, 1, 10), (10, .if_icmp .ge 34, 3, 13), (13, .iload_n 1, 1, 14), (14, .aload_n 0, 1, 15), (15, .getfield 52, 3, 18), (18, .arraylength, 1, 19), (19, .if_icmp .ge 25, 3, 22), (22, .iload_n 1, 1, 23), (23, .aload_n 0, 1, 24), (24, .getfield 56, 3, 27), (27, .arraylength, 1, 28), (28, .if_icmp .ge 16, 3, 31), (31, .iload_n 1, 1, 32), (32, .aload_n 0, 1, 33), (33, .getfield 60, 3, 36), (36, .arraylength, 1, 37), (37, .if_icmp .ge 7, 3, 40), (40, .iconst 1, 1, 41), (41, .goto 4, 3, 44), (44, .iconst 0, 1, 45), (45, .ireturn, 1, 46)] := zDL.of (by decide +kernel)
section
variable {p : Program} {l : Launch} {e : Env} {s : State} {m : MethodId} {args : Array Value} {below : List Frame} {meth : Method} {c : Code} {G : zG} {top : Int} {L : zL} {fu : Nat}
theorem Gf_hasStep_w (E : zEv p m c cX3_hasStep 2 s args RX3 meth (some .boolean) G) {res : Int} {M : zM} {a0 : Int} {a1 : Int} {H : Heap} {locs : List Loc} {ls : Array Slot} (ha0 : InR a0) (ha1 : InR a1) (S : zS G top L M s H locs) (hl : zLV ls 2 [some (zR G.2.2.1 a0), some (.int (zO a1))]) (h : Gf_hasStep fu L M a0 a1 = some res) : W p l e (zrm 1 0 0) s m args below meth c H locs 0 0 (MQ below (zQ G top L M (some (.int (zO res))) (0 ≤ res ∧ res ≤ 1)) args s 0 0 (zA G)) (F0 m 0 ls []) := by
  unfold Gf_hasStep at h
  refine u_il_n (x := a1) E (Gf_hasStep_dc.at 0 rfl) hl rfl ?_
  refine r_if_lt (tgt := 44) E ha1 (Gf_hasStep_dc.at 1 rfl) (by decide) (fun q => ?_) (fun q => ?_)
  · have h := ite_t h q
    refine r_iconst E (Gf_hasStep_dc.at 24 rfl) ?_
    cases h
    exact r_zret E S z01_0 z01_0 (Gf_hasStep_dc.at 25 rfl)
  · have h := ite_f h q
    refine u_il_n (x := a1) E (Gf_hasStep_dc.at 2 rfl) hl rfl ?_
    refine u_al_n (x := a0) E (Gf_hasStep_dc.at 3 rfl) hl rfl ?_
    obtain ⟨g1, h⟩ := ite_e h
    refine u_gR E zf_3_5 S g1 zw_4_89 (Gf_hasStep_dc.at 4 rfl) ?_
    obtain ⟨g2, h⟩ := ite_e h
    refine r_alen E S g2 (by decide) (Gf_hasStep_dc.at 5 rfl) ?_
    refine r_icmp_ge (tgt := 44) E ha1 (S.1.lenR _) (Gf_hasStep_dc.at 6 rfl) (by decide) (fun q => ?_) (fun q => ?_)
    · have h := ite_t h q
      refine u_il_n (x := a1) E (Gf_hasStep_dc.at 7 rfl) hl rfl ?_
      refine u_al_n (x := a0) E (Gf_hasStep_dc.at 8 rfl) hl rfl ?_
      refine u_gR E zf_3_6 S g1 zw_4_91 (Gf_hasStep_dc.at 9 rfl) ?_
      obtain ⟨g3, h⟩ := ite_e h
      refine r_alen E S g3 (by decide) (Gf_hasStep_dc.at 10 rfl) ?_
      refine r_icmp_ge (tgt := 44) E ha1 (S.1.lenR _) (Gf_hasStep_dc.at 11 rfl) (by decide) (fun q => ?_) (fun q => ?_)
      · have h := ite_t h q
        refine u_il_n (x := a1) E (Gf_hasStep_dc.at 12 rfl) hl rfl ?_
        refine u_al_n (x := a0) E (Gf_hasStep_dc.at 13 rfl) hl rfl ?_
        refine u_gR E zf_3_7 S g1 zw_4_93 (Gf_hasStep_dc.at 14 rfl) ?_
        obtain ⟨g4, h⟩ := ite_e h
        refine r_alen E S g4 (by decide) (Gf_hasStep_dc.at 15 rfl) ?_
        refine r_icmp_ge (tgt := 44) E ha1 (S.1.lenR _) (Gf_hasStep_dc.at 16 rfl) (by decide) (fun q => ?_) (fun q => ?_)
        · have h := ite_t h q
          refine u_il_n (x := a1) E (Gf_hasStep_dc.at 17 rfl) hl rfl ?_
          refine u_al_n (x := a0) E (Gf_hasStep_dc.at 18 rfl) hl rfl ?_
          refine u_gR E zf_3_8 S g1 zw_4_95 (Gf_hasStep_dc.at 19 rfl) ?_
          obtain ⟨g5, h⟩ := ite_e h
          refine r_alen E S g5 (by decide) (Gf_hasStep_dc.at 20 rfl) ?_
          refine r_icmp_ge (tgt := 44) E ha1 (S.1.lenR _) (Gf_hasStep_dc.at 21 rfl) (by decide) (fun q => ?_) (fun q => ?_)
          · have h := ite_t h q
            refine r_iconst E (Gf_hasStep_dc.at 22 rfl) ?_
            refine r_goto (tgt := 45) E (Gf_hasStep_dc.at 23 rfl) (by decide) ?_
            cases h
            exact r_zret E S z01_1 z01_1 (Gf_hasStep_dc.at 25 rfl)
          · have h := ite_f h q
            refine r_iconst E (Gf_hasStep_dc.at 24 rfl) ?_
            cases h
            exact r_zret E S z01_0 z01_0 (Gf_hasStep_dc.at 25 rfl)
        · have h := ite_f h q
          refine r_iconst E (Gf_hasStep_dc.at 24 rfl) ?_
          cases h
          exact r_zret E S z01_0 z01_0 (Gf_hasStep_dc.at 25 rfl)
      · have h := ite_f h q
        refine r_iconst E (Gf_hasStep_dc.at 24 rfl) ?_
        cases h
        exact r_zret E S z01_0 z01_0 (Gf_hasStep_dc.at 25 rfl)
    · have h := ite_f h q
      refine r_iconst E (Gf_hasStep_dc.at 24 rfl) ?_
      cases h
      exact r_zret E S z01_0 z01_0 (Gf_hasStep_dc.at 25 rfl)
theorem Gf_hasStep_c (l : Launch) (G : zG) (fu : Nat) (top : Int) (L : zL) (M : zM) (a0 : Int) (a1 : Int) {res : Int} (ha0 : InR a0) (ha1 : InR a1) (h : Gf_hasStep fu L M a0 a1 = some res) : Met l yX3_hasStep (Cond.code yX3_hasStep cX3_hasStep 2 (some .boolean) :: zTB) (zrm 1 0 0) (va_Pc [zR G.2.2.1 a0, .int (zO a1)] (zPre G top L M)) (zQ G top L M (some (.int (zO res))) (0 ≤ res ∧ res ≤ 1)) 0 0 (zA G) :=
  z_met (by decide +kernel) (by simp [zR_cat, zcat_I, zcat_S]) (Nat.le_of_ble_eq_true rfl) fun p e s m below meth c ls E hn S hl => Gf_hasStep_w E ha0 ha1 S (hl.sub (And.intro rfl (And.intro rfl True.intro))) h
end
theorem Rk_choose_dc : zDL cX5_choose [(0, .aload_n 0, 1, 1), (1, .iconst 0, 1, 2), (2, .putfield 30, 3, 5), (5, .iconst 0, 1, 6), (6, .istore 4, 2, 8), (8, .iload 4, 2, 10), (10, .iload_n 2, 1, 11), (11, .if_icmp .ge 139, 3, 14), (14, .iload 4, 2, 16), (16, .bipush 31, 2, 18), (18, .if_icmp .ge 132, 3, 21), (21, .aload_n 1, 1, 22), (22, .iload 4, 2, 24), (24, .invokevirtual 34, 3, 27), (27, .ifCond .eq 123, 3, 30), (30, .aload_n 1, 1, 31), (31, .getfield 40, 3, 34), (34, .iload 4, 2, 36), (36, .iaload, 1, 37), (37, .iconst 3, 1, 38), (38, .if_icmp .eq 14, 3, 41), (41, .aload_n 1, 1, 42), (42, .getfield 40, 3, 45), (45, .iload 4, 2, 47), (47, .iaload, 1, 48), (48, .iconst 4, 1, 49), (49, .if_icmp .ne 7, 3, 52), (52, .iconst 1, 1, 53), (53, .goto 4, 3, 56), (56, .iconst 0, 1, 57), (57, .istore 5, 2, 59), (59, .aload_n 0, 1, 60), (60, .getfield 9, 3, 63), (63, .iload 4, 2, 65), (65, .aload_n 1, 1, 66), (66, .getfield 40, 3, 69), (69, .iload 4, 2, 71), (71, .iaload, 1, 72), (72, .iastore, 1, 73), (73, .aload_n 0, 1, 74), (74, .getfield 15, 3, 77), (77, .iload 4, 2, 79), (79, .iload 5, 2, 81), (81, .ifCond .eq 17, 3, 84), (84, .iload_n 3, 1, 85), (85, .aload_n 1, 1, 86), (86, .getfield 41, 3, 89), (89, .iload 4, 2, 91), (91, .iaload, 1, 92), (92, .invokestatic 42, 3, 95), (95, .goto 10, 3, 98), (98, .aload_n 1, 1, 99), (99, .getfield 41, 3, 102), (102, .iload 4, 2, 104), (104, .iaload, 1, 105), (105, .iastore, 1, 106), (106, .aload_n 0, 1, 107), (107, .getfield 18, 3, 110), (110, .iload 4, 2, 112), (112, .aload_n 1, 1, 113), (113, .getfield 48, 3, 116), (116, .iload 4, 2, 118), (118, .iaload, 1, 119), (119, .iastore, 1, 120), (120, .aload_n 0, 1, 121), (121, .getfield 21, 3, 124), (124, .iload 4, 2, 126), (126, .aload_n 1, 1, 127), (127, .getfield 49, 3, 130), (130, .iload 4, 2, 132), (132, .iaload, 1, 133), (133, .iastore, 1, 134), (134, .aload_n 0, 1, 135), (135, .dup, 1, 136), (136, .getfield 30, 3, 139), (139, .iconst 1, 1, 140), (140, .iadd, 1, 141), (141, .putfield 30, 3, 144), (144, .iinc 4 1, 3, 147), (147, .goto (-139), 3, 150), (150, .return_, 1, 151)] := zDL.of (by decide +kernel)
section
variable {p : Program} {l : Launch} {e : Env} {s : State} {m : MethodId} {args : Array Value} {below : List Frame} {meth : Method} {c : Code} {G : zG} {top : Int} {L : zL} {fu : Nat}
theorem Rk_choose_b105_w (E : zEv p m c cX5_choose 6 s args RX5 meth none G) {res : zM} {k8 : zM → Int → Int → Int → Int → Int → Option zM} (hk8 : ∀ (M : zM) (x0 : Int) (x1 : Int) (x2 : Int) (x3 : Int) (x4 : Int), InR x0 → InR x1 → InR x2 → InR x3 → InR x4 → ∀ (H : Heap) (locs : List Loc) (ls : Array Slot), zS G top L M s H locs → zLV ls 6 [some (zR G.2.2.1 x0), some (zR G.2.2.1 x1), some (.int (zO x2)), some (.int (zO x3)), some (.int (zO x4)), none] → k8 M x0 x1 x2 x3 x4 = some res → W p l e (zrm 2 0 0) s m args below meth c H locs 0 0 (MQ below (zQ G top L res none True) args s 0 0 (zA G)) (F0 m 8 ls [])) {M : zM} {x0 : Int} {x1 : Int} {x2 : Int} {x3 : Int} {x4 : Int} {y0 : Int} {y1 : Int} {y2 : Int} {H : Heap} {locs : List Loc} {ls : Array Slot} (hx0 : InR x0) (hx1 : InR x1) (hx2 : InR x2) (hx3 : InR x3) (hx4 : InR x4) (hy0 : InR y0) (hy1 : InR y1) (hy2 : InR y2) (S : zS G top L M s H locs) (hl : zLV ls 6 [some (zR G.2.2.1 x0), some (zR G.2.2.1 x1), some (.int (zO x2)), some (.int (zO x3)), some (.int (zO x4)), none]) (h : Rk_choose_b105 fu k8 L M x0 x1 x2 x3 x4 y0 y1 y2 = some res) : W p l e (zrm 2 0 0) s m args below meth c H locs 0 0 (MQ below (zQ G top L res none True) args s 0 0 (zA G)) (F0 m 105 ls [.int (zO y2), .int (zO y1), zR G.2.2.1 y0]) := by
  unfold Rk_choose_b105 at h
  obtain ⟨g19, h⟩ := ite_e h
  obtain ⟨g20, h⟩ := ite_e h
  obtain ⟨M21, eM21, h⟩ := lt1_e h
  refine u_iast E eM21 S g19 g20 hy2 (Rk_choose_dc.at 55 rfl) (fun H locs S22 => ?_)
  refine u_al_n (x := x0) E (Rk_choose_dc.at 56 rfl) hl rfl ?_
  obtain ⟨g23, h⟩ := ite_e h
  refine u_gR E zf_5_2 S22 g23 zw_2_34 (Rk_choose_dc.at 57 rfl) ?_
  refine u_il (x := x4) E (Rk_choose_dc.at 58 rfl) hl rfl ?_
  refine u_al_n (x := x1) E (Rk_choose_dc.at 59 rfl) hl rfl ?_
  obtain ⟨g24, h⟩ := ite_e h
  refine u_gR E zf_3_7 S22 g24 zw_4_94 (Rk_choose_dc.at 60 rfl) ?_
  refine u_il (x := x4) E (Rk_choose_dc.at 61 rfl) hl rfl ?_
  obtain ⟨g25, h⟩ := ite_e h
  obtain ⟨g26, h⟩ := ite_e h
  refine r_iald E S22 g25 g26 (Rk_choose_dc.at 62 rfl) ?_
  obtain ⟨g27, h⟩ := ite_e h
  obtain ⟨g28, h⟩ := ite_e h
  obtain ⟨M29, eM29, h⟩ := lt1_e h
  refine u_iast E eM29 S22 g27 g28 (S22.1.inR _ _) (Rk_choose_dc.at 63 rfl) (fun H locs S30 => ?_)
  refine u_al_n (x := x0) E (Rk_choose_dc.at 64 rfl) hl rfl ?_
  refine u_gR E zf_5_3 S30 g23 zw_2_35 (Rk_choose_dc.at 65 rfl) ?_
  refine u_il (x := x4) E (Rk_choose_dc.at 66 rfl) hl rfl ?_
  refine u_al_n (x := x1) E (Rk_choose_dc.at 67 rfl) hl rfl ?_
  refine u_gR E zf_3_8 S30 g24 zw_4_96 (Rk_choose_dc.at 68 rfl) ?_
  refine u_il (x := x4) E (Rk_choose_dc.at 69 rfl) hl rfl ?_
  obtain ⟨g31, h⟩ := ite_e h
  obtain ⟨g32, h⟩ := ite_e h
  refine r_iald E S30 g31 g32 (Rk_choose_dc.at 70 rfl) ?_
  obtain ⟨g33, h⟩ := ite_e h
  obtain ⟨g34, h⟩ := ite_e h
  obtain ⟨M35, eM35, h⟩ := lt1_e h
  refine u_iast E eM35 S30 g33 g34 (S30.1.inR _ _) (Rk_choose_dc.at 71 rfl) (fun H locs S36 => ?_)
  refine u_al_n (x := x0) E (Rk_choose_dc.at 72 rfl) hl rfl ?_
  refine r_dup E (Rk_choose_dc.at 73 rfl) (zR_cat _ _) ?_
  refine u_gI E zf_5_6 S36 g23 zw_2_38 (Rk_choose_dc.at 74 rfl) ?_
  refine r_iconst E (Rk_choose_dc.at 75 rfl) ?_
  refine r_iadd E (Rk_choose_dc.at 76 rfl) ?_
  obtain ⟨M37, eM37, h⟩ := lt1_e h
  refine u_pI E eM37 zf_5_6 S36 g23 (inR_w32 _) (Or.inl rfl) rfl zw_2_38 (Rk_choose_dc.at 77 rfl) (fun H locs S38 => ?_)
  obtain ⟨v39, ev39, h⟩ := lt1_e h
  have hv39 := inR_eq ev39 (inR_w32 _)
  refine u_iinc (y := v39) (vs' := [some (zR G.2.2.1 x0), some (zR G.2.2.1 x1), some (.int (zO x2)), some (.int (zO x3)), some (.int (zO v39)), none]) E ev39 (Rk_choose_dc.at 78 rfl) hl rfl (by decide) rfl (fun ls hl => ?_)
  refine r_goto (tgt := 8) E (Rk_choose_dc.at 79 rfl) (by decide) ?_
  exact hk8 _ x0 x1 x2 x3 v39 hx0 hx1 hx2 hx3 hv39 _ _ _ S38 (hl.sub (And.intro rfl (And.intro rfl (And.intro rfl (And.intro rfl (And.intro rfl True.intro)))))) h
theorem Rk_choose_b57_w (E : zEv p m c cX5_choose 6 s args RX5 meth none G) {res : zM} {k8 : zM → Int → Int → Int → Int → Int → Option zM} (hk8 : ∀ (M : zM) (x0 : Int) (x1 : Int) (x2 : Int) (x3 : Int) (x4 : Int), InR x0 → InR x1 → InR x2 → InR x3 → InR x4 → ∀ (H : Heap) (locs : List Loc) (ls : Array Slot), zS G top L M s H locs → zLV ls 6 [some (zR G.2.2.1 x0), some (zR G.2.2.1 x1), some (.int (zO x2)), some (.int (zO x3)), some (.int (zO x4)), none] → k8 M x0 x1 x2 x3 x4 = some res → W p l e (zrm 2 0 0) s m args below meth c H locs 0 0 (MQ below (zQ G top L res none True) args s 0 0 (zA G)) (F0 m 8 ls [])) {M : zM} {x0 : Int} {x1 : Int} {x2 : Int} {x3 : Int} {x4 : Int} {y0 : Int} {H : Heap} {locs : List Loc} {ls : Array Slot} (hx0 : InR x0) (hx1 : InR x1) (hx2 : InR x2) (hx3 : InR x3) (hx4 : InR x4) (hy0 : InR y0) (S : zS G top L M s H locs) (hl : zLV ls 6 [some (zR G.2.2.1 x0), some (zR G.2.2.1 x1), some (.int (zO x2)), some (.int (zO x3)), some (.int (zO x4)), none]) (h : Rk_choose_b57 fu k8 L M x0 x1 x2 x3 x4 y0 = some res) : W p l e (zrm 2 0 0) s m args below meth c H locs 0 0 (MQ below (zQ G top L res none True) args s 0 0 (zA G)) (F0 m 57 ls [.int (zO y0)]) := by
  unfold Rk_choose_b57 at h
  refine u_ist (y := y0) (vs' := [some (zR G.2.2.1 x0), some (zR G.2.2.1 x1), some (.int (zO x2)), some (.int (zO x3)), some (.int (zO x4)), some (.int (zO y0))]) E rfl (Rk_choose_dc.at 30 rfl) hl (by decide) rfl (fun ls hl => ?_)
  refine u_al_n (x := x0) E (Rk_choose_dc.at 31 rfl) hl rfl ?_
  obtain ⟨g9, h⟩ := ite_e h
  refine u_gR E zf_5_0 S g9 zw_2_32 (Rk_choose_dc.at 32 rfl) ?_
  refine u_il (x := x4) E (Rk_choose_dc.at 33 rfl) hl rfl ?_
  refine u_al_n (x := x1) E (Rk_choose_dc.at 34 rfl) hl rfl ?_
  obtain ⟨g10, h⟩ := ite_e h
  refine u_gR E zf_3_5 S g10 zw_4_90 (Rk_choose_dc.at 35 rfl) ?_
  refine u_il (x := x4) E (Rk_choose_dc.at 36 rfl) hl rfl ?_
  obtain ⟨g11, h⟩ := ite_e h
  obtain ⟨g12, h⟩ := ite_e h
  refine r_iald E S g11 g12 (Rk_choose_dc.at 37 rfl) ?_
  obtain ⟨g13, h⟩ := ite_e h
  obtain ⟨g14, h⟩ := ite_e h
  obtain ⟨M15, eM15, h⟩ := lt1_e h
  refine u_iast E eM15 S g13 g14 (S.1.inR _ _) (Rk_choose_dc.at 38 rfl) (fun H locs S16 => ?_)
  refine u_al_n (x := x0) E (Rk_choose_dc.at 39 rfl) hl rfl ?_
  refine u_gR E zf_5_1 S16 g9 zw_2_33 (Rk_choose_dc.at 40 rfl) ?_
  refine u_il (x := x4) E (Rk_choose_dc.at 41 rfl) hl rfl ?_
  refine u_il (x := y0) E (Rk_choose_dc.at 42 rfl) hl rfl ?_
  refine r_if_eq (tgt := 98) E hy0 (Rk_choose_dc.at 43 rfl) (by decide) (fun q => ?_) (fun q => ?_)
  · have h := ite_t h q
    refine u_al_n (x := x1) E (Rk_choose_dc.at 51 rfl) hl rfl ?_
    refine u_gR E zf_3_6 S16 g10 zw_4_92 (Rk_choose_dc.at 52 rfl) ?_
    refine u_il (x := x4) E (Rk_choose_dc.at 53 rfl) hl rfl ?_
    obtain ⟨g17, h⟩ := ite_e h
    obtain ⟨g18, h⟩ := ite_e h
    refine r_iald E S16 g17 g18 (Rk_choose_dc.at 54 rfl) ?_
    exact Rk_choose_b105_w (x0 := x0) (x1 := x1) (x2 := x2) (x3 := x3) (x4 := x4) (y0 := (M15 x0 1)) (y1 := x4) (y2 := (M15 (M15 x1 6) x4)) E hk8 hx0 hx1 hx2 hx3 hx4 (S16.1.inR _ _) hx4 (S16.1.inR _ _) S16 (hl.sub (And.intro rfl (And.intro rfl (And.intro rfl (And.intro rfl (And.intro rfl True.intro)))))) h
  · have h := ite_f h q
    refine u_il_n (x := x3) E (Rk_choose_dc.at 44 rfl) hl rfl ?_
    refine u_al_n (x := x1) E (Rk_choose_dc.at 45 rfl) hl rfl ?_
    refine u_gR E zf_3_6 S16 g10 zw_4_92 (Rk_choose_dc.at 46 rfl) ?_
    refine u_il (x := x4) E (Rk_choose_dc.at 47 rfl) hl rfl ?_
    obtain ⟨g40, h⟩ := ite_e h
    obtain ⟨g41, h⟩ := ite_e h
    refine r_iald E S16 g40 g41 (Rk_choose_dc.at 48 rfl) ?_
    refine r_min (rest := [.int (zO x4), zR G.2.2.1 (M15 x0 1)]) E hx3 (S16.1.inR _ _) hl.size zw_4_226 zw_4_47 zw_1_17 zw_4_48 (by decide) (by simp [zR_cat, zcat_I, zcat_J, zcat_S, zrm]) ⟨Nat.zero_le _, Nat.zero_le _⟩ (Rk_choose_dc.at 49 rfl) ?_
    refine r_goto (tgt := 105) E (Rk_choose_dc.at 50 rfl) (by decide) ?_
    exact Rk_choose_b105_w (x0 := x0) (x1 := x1) (x2 := x2) (x3 := x3) (x4 := x4) (y0 := (M15 x0 1)) (y1 := x4) (y2 := (min x3 (M15 (M15 x1 6) x4))) E hk8 hx0 hx1 hx2 hx3 hx4 (S16.1.inR _ _) hx4 (inR_min hx3 (S16.1.inR _ _)) S16 (hl.sub (And.intro rfl (And.intro rfl (And.intro rfl (And.intro rfl (And.intro rfl True.intro)))))) h
theorem Rk_choose_s8_w (E : zEv p m c cX5_choose 6 s args RX5 meth none G) {res : zM} {k8 : zM → Int → Int → Int → Int → Int → Option zM} (hk8 : ∀ (M : zM) (x0 : Int) (x1 : Int) (x2 : Int) (x3 : Int) (x4 : Int), InR x0 → InR x1 → InR x2 → InR x3 → InR x4 → ∀ (H : Heap) (locs : List Loc) (ls : Array Slot), zS G top L M s H locs → zLV ls 6 [some (zR G.2.2.1 x0), some (zR G.2.2.1 x1), some (.int (zO x2)), some (.int (zO x3)), some (.int (zO x4)), none] → k8 M x0 x1 x2 x3 x4 = some res → W p l e (zrm 2 0 0) s m args below meth c H locs 0 0 (MQ below (zQ G top L res none True) args s 0 0 (zA G)) (F0 m 8 ls [])) {M : zM} {x0 : Int} {x1 : Int} {x2 : Int} {x3 : Int} {x4 : Int} {H : Heap} {locs : List Loc} {ls : Array Slot} (hx0 : InR x0) (hx1 : InR x1) (hx2 : InR x2) (hx3 : InR x3) (hx4 : InR x4) (S : zS G top L M s H locs) (hl : zLV ls 6 [some (zR G.2.2.1 x0), some (zR G.2.2.1 x1), some (.int (zO x2)), some (.int (zO x3)), some (.int (zO x4)), none]) (h : Rk_choose_s8 fu k8 L M x0 x1 x2 x3 x4 = some res) : W p l e (zrm 2 0 0) s m args below meth c H locs 0 0 (MQ below (zQ G top L res none True) args s 0 0 (zA G)) (F0 m 8 ls []) := by
  unfold Rk_choose_s8 at h
  refine u_il (x := x4) E (Rk_choose_dc.at 5 rfl) hl rfl ?_
  refine u_il_n (x := x2) E (Rk_choose_dc.at 6 rfl) hl rfl ?_
  refine r_icmp_ge (tgt := 150) E hx4 hx2 (Rk_choose_dc.at 7 rfl) (by decide) (fun q => ?_) (fun q => ?_)
  · have h := ite_t h q
    refine u_il (x := x4) E (Rk_choose_dc.at 8 rfl) hl rfl ?_
    refine r_bipush E (Rk_choose_dc.at 9 rfl) rfl ?_
    refine r_icmp_ge (tgt := 150) E hx4 (show InR 31 by decide) (Rk_choose_dc.at 10 rfl) (by decide) (fun q => ?_) (fun q => ?_)
    · have h := ite_t h q
      refine u_al_n (x := x1) E (Rk_choose_dc.at 11 rfl) hl rfl ?_
      refine u_il (x := x4) E (Rk_choose_dc.at 12 rfl) hl rfl ?_
      obtain ⟨g4, h⟩ := ite_e h
      obtain ⟨r5, er5, h⟩ := bd1_e h
      refine u_cVI (As := [.int (zO x4)]) (rest := []) E S zcw_yX3_hasStep zw_4_223 zw_4_224 zw_4_222 zck_3.1 rfl g4 (Gf_hasStep_c l G fu top L M x1 x4 hx1 hx4 er5) (zrm_ok (by decide) (by decide)) ⟨Nat.le_refl 0, Nat.le_refl 0⟩ rfl (Nat.zero_le 8) hl.size rfl (Rk_choose_dc.at 13 rfl) (fun H locs hr5 S6 => ?_)
      refine r_if_eq (tgt := 150) E (inR_01 hr5) (Rk_choose_dc.at 14 rfl) (by decide) (fun q => ?_) (fun q => ?_)
      · have h := ite_t h q
        cases h
        exact r_vret E S6 True.intro (Rk_choose_dc.at 80 rfl)
      · have h := ite_f h q
        refine u_al_n (x := x1) E (Rk_choose_dc.at 15 rfl) hl rfl ?_
        refine u_gR E zf_3_5 S6 g4 zw_4_90 (Rk_choose_dc.at 16 rfl) ?_
        refine u_il (x := x4) E (Rk_choose_dc.at 17 rfl) hl rfl ?_
        obtain ⟨g7, h⟩ := ite_e h
        obtain ⟨g8, h⟩ := ite_e h
        refine r_iald E S6 g7 g8 (Rk_choose_dc.at 18 rfl) ?_
        refine r_iconst E (Rk_choose_dc.at 19 rfl) ?_
        refine r_icmp_eq (tgt := 52) E (S6.1.inR _ _) (show InR 3 by decide) (Rk_choose_dc.at 20 rfl) (by decide) (fun q => ?_) (fun q => ?_)
        · have h := ite_t h q
          refine r_iconst E (Rk_choose_dc.at 27 rfl) ?_
          refine r_goto (tgt := 57) E (Rk_choose_dc.at 28 rfl) (by decide) ?_
          exact Rk_choose_b57_w (x0 := x0) (x1 := x1) (x2 := x2) (x3 := x3) (x4 := x4) (y0 := 1) E hk8 hx0 hx1 hx2 hx3 hx4 (show InR 1 by decide) S6 (hl.sub (And.intro rfl (And.intro rfl (And.intro rfl (And.intro rfl (And.intro rfl True.intro)))))) h
        · have h := ite_f h q
          refine u_al_n (x := x1) E (Rk_choose_dc.at 21 rfl) hl rfl ?_
          refine u_gR E zf_3_5 S6 g4 zw_4_90 (Rk_choose_dc.at 22 rfl) ?_
          refine u_il (x := x4) E (Rk_choose_dc.at 23 rfl) hl rfl ?_
          obtain ⟨g42, h⟩ := ite_e h
          refine r_iald E S6 g7 g42 (Rk_choose_dc.at 24 rfl) ?_
          refine r_iconst E (Rk_choose_dc.at 25 rfl) ?_
          refine r_icmp_ne (tgt := 56) E (S6.1.inR _ _) (show InR 4 by decide) (Rk_choose_dc.at 26 rfl) (by decide) (fun q => ?_) (fun q => ?_)
          · have h := ite_t h q
            refine r_iconst E (Rk_choose_dc.at 27 rfl) ?_
            refine r_goto (tgt := 57) E (Rk_choose_dc.at 28 rfl) (by decide) ?_
            exact Rk_choose_b57_w (x0 := x0) (x1 := x1) (x2 := x2) (x3 := x3) (x4 := x4) (y0 := 1) E hk8 hx0 hx1 hx2 hx3 hx4 (show InR 1 by decide) S6 (hl.sub (And.intro rfl (And.intro rfl (And.intro rfl (And.intro rfl (And.intro rfl True.intro)))))) h
          · have h := ite_f h q
            refine r_iconst E (Rk_choose_dc.at 29 rfl) ?_
            exact Rk_choose_b57_w (x0 := x0) (x1 := x1) (x2 := x2) (x3 := x3) (x4 := x4) (y0 := 0) E hk8 hx0 hx1 hx2 hx3 hx4 (show InR 0 by decide) S6 (hl.sub (And.intro rfl (And.intro rfl (And.intro rfl (And.intro rfl (And.intro rfl True.intro)))))) h
    · have h := ite_f h q
      cases h
      exact r_vret E S True.intro (Rk_choose_dc.at 80 rfl)
  · have h := ite_f h q
    cases h
    exact r_vret E S True.intro (Rk_choose_dc.at 80 rfl)
theorem Rk_choose_l8_w (E : zEv p m c cX5_choose 6 s args RX5 meth none G) {res : zM} : ∀ (n : Nat) (M : zM) (x0 : Int) (x1 : Int) (x2 : Int) (x3 : Int) (x4 : Int), InR x0 → InR x1 → InR x2 → InR x3 → InR x4 → ∀ (H : Heap) (locs : List Loc) (ls : Array Slot), zS G top L M s H locs → zLV ls 6 [some (zR G.2.2.1 x0), some (zR G.2.2.1 x1), some (.int (zO x2)), some (.int (zO x3)), some (.int (zO x4)), none] → Rk_choose_l8 fu L n M x0 x1 x2 x3 x4 = some res → W p l e (zrm 2 0 0) s m args below meth c H locs 0 0 (MQ below (zQ G top L res none True) args s 0 0 (zA G)) (F0 m 8 ls [])
  | 0, _, _, _, _, _, _ => fun _ _ _ _ _ _ _ _ _ _ h => (by cases h)
  | n + 1, M, x0, x1, x2, x3, x4 => fun hx0 hx1 hx2 hx3 hx4 H locs ls S hl h => Rk_choose_s8_w E (fun M x0 x1 x2 x3 x4 hx0 hx1 hx2 hx3 hx4 H locs ls S hl h => Rk_choose_l8_w E n M x0 x1 x2 x3 x4 hx0 hx1 hx2 hx3 hx4 H locs ls S hl h) hx0 hx1 hx2 hx3 hx4 S hl h
theorem Rk_choose_w (E : zEv p m c cX5_choose 6 s args RX5 meth none G) {res : zM} {M : zM} {a0 : Int} {a1 : Int} {a2 : Int} {a3 : Int} {H : Heap} {locs : List Loc} {ls : Array Slot} (ha0 : InR a0) (ha1 : InR a1) (ha2 : InR a2) (ha3 : InR a3) (S : zS G top L M s H locs) (hl : zLV ls 6 [some (zR G.2.2.1 a0), some (zR G.2.2.1 a1), some (.int (zO a2)), some (.int (zO a3)), none, none]) (h : Rk_choose fu L M a0 a1 a2 a3 = some res) : W p l e (zrm 2 0 0) s m args below meth c H locs 0 0 (MQ below (zQ G top L res none True) args s 0 0 (zA G)) (F0 m 0 ls []) := by
  unfold Rk_choose at h
  refine u_al_n (x := a0) E (Rk_choose_dc.at 0 rfl) hl rfl ?_
  refine r_iconst E (Rk_choose_dc.at 1 rfl) ?_
  obtain ⟨g1, h⟩ := ite_e h
  obtain ⟨M2, eM2, h⟩ := lt1_e h
  refine u_pI E eM2 zf_5_6 S g1 (show InR 0 by decide) (Or.inl rfl) rfl zw_2_38 (Rk_choose_dc.at 2 rfl) (fun H locs S3 => ?_)
  refine r_iconst E (Rk_choose_dc.at 3 rfl) ?_
  refine u_ist (y := 0) (vs' := [some (zR G.2.2.1 a0), some (zR G.2.2.1 a1), some (.int (zO a2)), some (.int (zO a3)), some (.int (zO 0)), none]) E rfl (Rk_choose_dc.at 4 rfl) hl (by decide) rfl (fun ls hl => ?_)
  exact Rk_choose_l8_w E fu _ a0 a1 a2 a3 0 ha0 ha1 ha2 ha3 (show InR 0 by decide) _ _ _ S3 (hl.sub (And.intro rfl (And.intro rfl (And.intro rfl (And.intro rfl (And.intro rfl True.intro)))))) h
theorem Rk_choose_c (l : Launch) (G : zG) (fu : Nat) (top : Int) (L : zL) (M : zM) (a0 : Int) (a1 : Int) (a2 : Int) (a3 : Int) {res : zM} (ha0 : InR a0) (ha1 : InR a1) (ha2 : InR a2) (ha3 : InR a3) (h : Rk_choose fu L M a0 a1 a2 a3 = some res) : Met l yX5_choose (Cond.code yX5_choose cX5_choose 6 none :: zTB) (zrm 2 0 0) (va_Pc [zR G.2.2.1 a0, zR G.2.2.1 a1, .int (zO a2), .int (zO a3)] (zPre G top L M)) (zQ G top L res none True) 0 0 (zA G) :=
  z_met (by decide +kernel) (by simp [zR_cat, zcat_I, zcat_S]) (Nat.le_of_ble_eq_true rfl) fun p e s m below meth c ls E hn S hl => Rk_choose_w E ha0 ha1 ha2 ha3 S (hl.sub (And.intro rfl (And.intro rfl (And.intro rfl (And.intro rfl True.intro))))) h
end
theorem Wd_inClass_dc : zDL cX10_inClass [(0, .aload_n 1, 1, 1), (1, .getfield 68, 3, 4), (4, .lookupswitch 68 #[(1, 28), (2, 46)], 28, 32), (32, .aload_n 0, 1, 33), (33, .iload_n 2, 1, 34), (34, .invokevirtual 43, 3, 37), (37, .aload_n 1, 1, 38), (38, .getfield 73, 3, 41), (41, .if_icmp .ne 7, 3, 44), (44, .iconst 1, 1, 45), (45, .goto 4, 3, 48), (48, .iconst 0, 1, 49), (49, .ireturn, 1, 50), (50, .aload_n 0, 1, 51), (51, .aload_n 0, 1, 52), (52, .iload_n 2, 1, 53), (53, .invokevirtual 43, 3, 56), (56, .invokevirtual 43, 3, 59), (59, .aload_n 1, 1, 60), (60, .getfield 73, 3, 63), (63, .if_icmp .ne 7, 3, 66), (66, .iconst 1, 1, 67), (67, .goto 4, 3, 70), (70, .iconst 0, 1, 71), (71, .ireturn, 1, 72), (72, .iload_n 2, 1, 73), (73, .aload_n 1, 1, 74), (74, .getfield 73, 3, 77), (77, .if_icmp .ne 7, 3, 80), (80, .iconst 1, 1, 81), (81, .goto 4, 3, 84), (84, .iconst 0, 1, 85), (85, .ireturn, 1, 86)] := zDL.of (by decide +kernel)
section
variable {p : Program} {l : Launch} {e : Env} {s : State} {m : MethodId} {args : Array Value} {below : List Frame} {meth : Method} {c : Code} {G : zG} {top : Int} {L : zL} {fu : Nat}
theorem Wd_inClass_w (E : zEv p m c cX10_inClass 3 s args RX10 meth (some .boolean) G) {res : Int} {M : zM} {a0 : Int} {a1 : Int} {a2 : Int} {H : Heap} {locs : List Loc} {ls : Array Slot} (ha0 : InR a0) (ha1 : InR a1) (ha2 : InR a2) (S : zS G top L M s H locs) (hl : zLV ls 3 [some (zR G.2.2.1 a0), some (zR G.2.2.1 a1), some (.int (zO a2))]) (h : Wd_inClass fu L M a0 a1 a2 = some res) : W p l e (zrm 2 0 0) s m args below meth c H locs 0 0 (MQ below (zQ G top L M (some (.int (zO res))) (0 ≤ res ∧ res ≤ 1)) args s 0 0 (zA G)) (F0 m 0 ls []) := by
  unfold Wd_inClass at h
  refine u_al_n (x := a1) E (Wd_inClass_dc.at 0 rfl) hl rfl ?_
  obtain ⟨g1, h⟩ := ite_e h
  refine u_gI E zf_3_0 S g1 zw_4_76 (Wd_inClass_dc.at 1 rfl) ?_
  by_cases q5 : (M a1 0) = 1
  · have h := ite_t h q5
    refine r_look (tgt := 32) E (S.1.inR _ _) (Wd_inClass_dc.at 2 rfl) (by decide) (by rw [q5]) (by decide) ?_
    refine u_al_n (x := a0) E (Wd_inClass_dc.at 3 rfl) hl rfl ?_
    refine u_il_n (x := a2) E (Wd_inClass_dc.at 4 rfl) hl rfl ?_
    obtain ⟨g2, h⟩ := ite_e h
    obtain ⟨r3, er3, h⟩ := bd1_e h
    refine u_cVI (As := [.int (zO a2)]) (rest := []) E S zcw_yX10_parentOf zw_4_23 zw_4_24 zw_4_22 zck_10.1 rfl g2 (Wd_parentOf_c l G fu top L M a0 a2 ha0 ha2 er3) (zrm_ok (by decide) (by decide)) ⟨Nat.le_refl 0, Nat.le_refl 0⟩ rfl (Nat.zero_le 8) hl.size rfl (Wd_inClass_dc.at 5 rfl) (fun H locs hr3 S4 => ?_)
    refine u_al_n (x := a1) E (Wd_inClass_dc.at 6 rfl) hl rfl ?_
    refine u_gI E zf_3_1 S4 g1 zw_4_80 (Wd_inClass_dc.at 7 rfl) ?_
    refine r_icmp_ne (tgt := 48) E hr3 (S4.1.inR _ _) (Wd_inClass_dc.at 8 rfl) (by decide) (fun q => ?_) (fun q => ?_)
    · have h := ite_t h q
      refine r_iconst E (Wd_inClass_dc.at 9 rfl) ?_
      refine r_goto (tgt := 49) E (Wd_inClass_dc.at 10 rfl) (by decide) ?_
      cases h
      exact r_zret E S4 z01_1 z01_1 (Wd_inClass_dc.at 12 rfl)
    · have h := ite_f h q
      refine r_iconst E (Wd_inClass_dc.at 11 rfl) ?_
      cases h
      exact r_zret E S4 z01_0 z01_0 (Wd_inClass_dc.at 12 rfl)
  · have h := ite_f h q5
    by_cases q11 : (M a1 0) = 2
    · have h := ite_t h q11
      refine r_look (tgt := 50) E (S.1.inR _ _) (Wd_inClass_dc.at 2 rfl) (by decide) (by rw [q11]) (by decide) ?_
      refine u_al_n (x := a0) E (Wd_inClass_dc.at 13 rfl) hl rfl ?_
      refine u_al_n (x := a0) E (Wd_inClass_dc.at 14 rfl) hl rfl ?_
      refine u_il_n (x := a2) E (Wd_inClass_dc.at 15 rfl) hl rfl ?_
      obtain ⟨g6, h⟩ := ite_e h
      obtain ⟨r7, er7, h⟩ := bd1_e h
      refine u_cVI (As := [.int (zO a2)]) (rest := [zR G.2.2.1 a0]) E S zcw_yX10_parentOf zw_4_23 zw_4_24 zw_4_22 zck_10.1 rfl g6 (Wd_parentOf_c l G fu top L M a0 a2 ha0 ha2 er7) (zrm_ok (by decide) (by decide)) ⟨Nat.le_refl 0, Nat.le_refl 0⟩ rfl (by simp [zR_cat, zcat_I, zcat_J, zcat_S]) hl.size rfl (Wd_inClass_dc.at 16 rfl) (fun H locs hr7 S8 => ?_)
      obtain ⟨r9, er9, h⟩ := bd1_e h
      refine u_cVI (As := [.int (zO r7)]) (rest := []) E S8 zcw_yX10_parentOf zw_4_23 zw_4_24 zw_4_22 zck_10.1 rfl g6 (Wd_parentOf_c l G fu top L M a0 r7 ha0 hr7 er9) (zrm_ok (by decide) (by decide)) ⟨Nat.le_refl 0, Nat.le_refl 0⟩ rfl (Nat.zero_le 8) hl.size rfl (Wd_inClass_dc.at 17 rfl) (fun H locs hr9 S10 => ?_)
      refine u_al_n (x := a1) E (Wd_inClass_dc.at 18 rfl) hl rfl ?_
      refine u_gI E zf_3_1 S10 g1 zw_4_80 (Wd_inClass_dc.at 19 rfl) ?_
      refine r_icmp_ne (tgt := 70) E hr9 (S10.1.inR _ _) (Wd_inClass_dc.at 20 rfl) (by decide) (fun q => ?_) (fun q => ?_)
      · have h := ite_t h q
        refine r_iconst E (Wd_inClass_dc.at 21 rfl) ?_
        refine r_goto (tgt := 71) E (Wd_inClass_dc.at 22 rfl) (by decide) ?_
        cases h
        exact r_zret E S10 z01_1 z01_1 (Wd_inClass_dc.at 24 rfl)
      · have h := ite_f h q
        refine r_iconst E (Wd_inClass_dc.at 23 rfl) ?_
        cases h
        exact r_zret E S10 z01_0 z01_0 (Wd_inClass_dc.at 24 rfl)
    · have h := ite_f h q11
      refine r_look (tgt := 72) (off := 68) E (S.1.inR _ _) (Wd_inClass_dc.at 2 rfl) (by decide) (by simp [Op.lookupswitch.offset, (show ¬ (1 : Int) = (M a1 0) from fun z => q5 z.symm), (show ¬ (2 : Int) = (M a1 0) from fun z => q11 z.symm)]) (by decide) ?_
      refine u_il_n (x := a2) E (Wd_inClass_dc.at 25 rfl) hl rfl ?_
      refine u_al_n (x := a1) E (Wd_inClass_dc.at 26 rfl) hl rfl ?_
      refine u_gI E zf_3_1 S g1 zw_4_80 (Wd_inClass_dc.at 27 rfl) ?_
      refine r_icmp_ne (tgt := 84) E ha2 (S.1.inR _ _) (Wd_inClass_dc.at 28 rfl) (by decide) (fun q => ?_) (fun q => ?_)
      · have h := ite_t h q
        refine r_iconst E (Wd_inClass_dc.at 29 rfl) ?_
        refine r_goto (tgt := 85) E (Wd_inClass_dc.at 30 rfl) (by decide) ?_
        cases h
        exact r_zret E S z01_1 z01_1 (Wd_inClass_dc.at 32 rfl)
      · have h := ite_f h q
        refine r_iconst E (Wd_inClass_dc.at 31 rfl) ?_
        cases h
        exact r_zret E S z01_0 z01_0 (Wd_inClass_dc.at 32 rfl)
theorem Wd_inClass_c (l : Launch) (G : zG) (fu : Nat) (top : Int) (L : zL) (M : zM) (a0 : Int) (a1 : Int) (a2 : Int) {res : Int} (ha0 : InR a0) (ha1 : InR a1) (ha2 : InR a2) (h : Wd_inClass fu L M a0 a1 a2 = some res) : Met l yX10_inClass (Cond.code yX10_inClass cX10_inClass 3 (some .boolean) :: zTB) (zrm 2 0 0) (va_Pc [zR G.2.2.1 a0, zR G.2.2.1 a1, .int (zO a2)] (zPre G top L M)) (zQ G top L M (some (.int (zO res))) (0 ≤ res ∧ res ≤ 1)) 0 0 (zA G) :=
  z_met (by decide +kernel) (by simp [zR_cat, zcat_I, zcat_S]) (Nat.le_of_ble_eq_true rfl) fun p e s m below meth c ls E hn S hl => Wd_inClass_w E ha0 ha1 ha2 S (hl.sub (And.intro rfl (And.intro rfl (And.intro rfl True.intro)))) h
end
theorem Rk_answerOf_dc : zDL cX5_answerOf [(0, .iload_n 1, 1, 1), (1, .ifCond .lt 15, 3, 4), (4, .iload_n 1, 1, 5), (5, .aload_n 0, 1, 6), (6, .arraylength, 1, 7), (7, .if_icmp .ge 9, 3, 10), (10, .aload_n 0, 1, 11), (11, .iload_n 1, 1, 12), (12, .iaload, 1, 13), (13, .goto 4, 3, 16), (16, .iconst 0, 1, 17), (17, .ireturn, 1, 18)] := zDL.of (by decide +kernel)
section
variable {p : Program} {l : Launch} {e : Env} {s : State} {m : MethodId} {args : Array Value} {below : List Frame} {meth : Method} {c : Code} {G : zG} {top : Int} {L : zL} {fu : Nat}
theorem Rk_answerOf_w (E : zEv p m c cX5_answerOf 2 s args RX5 meth (some .int) G) {res : Int} {M : zM} {a0 : Int} {a1 : Int} {H : Heap} {locs : List Loc} {ls : Array Slot} (ha0 : InR a0) (ha1 : InR a1) (S : zS G top L M s H locs) (hl : zLV ls 2 [some (zR G.2.2.1 a0), some (.int (zO a1))]) (h : Rk_answerOf fu L M a0 a1 = some res) : W p l e (zrm 1 0 0) s m args below meth c H locs 0 0 (MQ below (zQ G top L M (some (.int (zO res))) (InR res)) args s 0 0 (zA G)) (F0 m 0 ls []) := by
  unfold Rk_answerOf at h
  refine u_il_n (x := a1) E (Rk_answerOf_dc.at 0 rfl) hl rfl ?_
  refine r_if_lt (tgt := 16) E ha1 (Rk_answerOf_dc.at 1 rfl) (by decide) (fun q => ?_) (fun q => ?_)
  · have h := ite_t h q
    refine r_iconst E (Rk_answerOf_dc.at 10 rfl) ?_
    cases h
    exact r_iret E S (show InR 0 by decide) (Rk_answerOf_dc.at 11 rfl)
  · have h := ite_f h q
    refine u_il_n (x := a1) E (Rk_answerOf_dc.at 2 rfl) hl rfl ?_
    refine u_al_n (x := a0) E (Rk_answerOf_dc.at 3 rfl) hl rfl ?_
    obtain ⟨g1, h⟩ := ite_e h
    refine r_alen E S g1 (by decide) (Rk_answerOf_dc.at 4 rfl) ?_
    refine r_icmp_ge (tgt := 16) E ha1 (S.1.lenR _) (Rk_answerOf_dc.at 5 rfl) (by decide) (fun q => ?_) (fun q => ?_)
    · have h := ite_t h q
      refine u_al_n (x := a0) E (Rk_answerOf_dc.at 6 rfl) hl rfl ?_
      refine u_il_n (x := a1) E (Rk_answerOf_dc.at 7 rfl) hl rfl ?_
      obtain ⟨g2, h⟩ := ite_e h
      refine r_iald E S g1 g2 (Rk_answerOf_dc.at 8 rfl) ?_
      refine r_goto (tgt := 17) E (Rk_answerOf_dc.at 9 rfl) (by decide) ?_
      cases h
      exact r_iret E S (S.1.inR _ _) (Rk_answerOf_dc.at 11 rfl)
    · have h := ite_f h q
      refine r_iconst E (Rk_answerOf_dc.at 10 rfl) ?_
      cases h
      exact r_iret E S (show InR 0 by decide) (Rk_answerOf_dc.at 11 rfl)
theorem Rk_answerOf_c (l : Launch) (G : zG) (fu : Nat) (top : Int) (L : zL) (M : zM) (a0 : Int) (a1 : Int) {res : Int} (ha0 : InR a0) (ha1 : InR a1) (h : Rk_answerOf fu L M a0 a1 = some res) : Met l yX5_answerOf (Cond.code yX5_answerOf cX5_answerOf 2 (some .int) :: zTB) (zrm 1 0 0) (va_Pc [zR G.2.2.1 a0, .int (zO a1)] (zPre G top L M)) (zQ G top L M (some (.int (zO res))) (InR res)) 0 0 (zA G) :=
  z_met (by decide +kernel) (by simp [zR_cat, zcat_I, zcat_S]) (Nat.le_of_ble_eq_true rfl) fun p e s m below meth c ls E hn S hl => Rk_answerOf_w E ha0 ha1 S (hl.sub (And.intro rfl (And.intro rfl True.intro))) h
end
theorem Rk_asOf_dc : zDL cX5_asOf [(0, .iload_n 1, 1, 1), (1, .iload_n 0, 1, 2), (2, .if_icmp .le 7, 3, 5), (5, .iconst (-1), 1, 6), (6, .goto 4, 3, 9), (9, .iload_n 1, 1, 10), (10, .ireturn, 1, 11)] := zDL.of (by decide +kernel)
section
variable {p : Program} {l : Launch} {e : Env} {s : State} {m : MethodId} {args : Array Value} {below : List Frame} {meth : Method} {c : Code} {G : zG} {top : Int} {L : zL} {fu : Nat}
theorem Rk_asOf_w (E : zEv p m c cX5_asOf 2 s args RX5 meth (some .int) G) {res : Int} {M : zM} {a0 : Int} {a1 : Int} {H : Heap} {locs : List Loc} {ls : Array Slot} (ha0 : InR a0) (ha1 : InR a1) (S : zS G top L M s H locs) (hl : zLV ls 2 [some (.int (zO a0)), some (.int (zO a1))]) (h : Rk_asOf fu L M a0 a1 = some res) : W p l e (zrm 1 0 0) s m args below meth c H locs 0 0 (MQ below (zQ G top L M (some (.int (zO res))) (InR res)) args s 0 0 (zA G)) (F0 m 0 ls []) := by
  unfold Rk_asOf at h
  refine u_il_n (x := a1) E (Rk_asOf_dc.at 0 rfl) hl rfl ?_
  refine u_il_n (x := a0) E (Rk_asOf_dc.at 1 rfl) hl rfl ?_
  refine r_icmp_le (tgt := 9) E ha1 ha0 (Rk_asOf_dc.at 2 rfl) (by decide) (fun q => ?_) (fun q => ?_)
  · have h := ite_t h q
    refine r_iconst E (Rk_asOf_dc.at 3 rfl) ?_
    refine r_goto (tgt := 10) E (Rk_asOf_dc.at 4 rfl) (by decide) ?_
    cases h
    exact r_iret E S (show InR (-1) by decide) (Rk_asOf_dc.at 6 rfl)
  · have h := ite_f h q
    refine u_il_n (x := a1) E (Rk_asOf_dc.at 5 rfl) hl rfl ?_
    cases h
    exact r_iret E S ha1 (Rk_asOf_dc.at 6 rfl)
theorem Rk_asOf_c (l : Launch) (G : zG) (fu : Nat) (top : Int) (L : zL) (M : zM) (a0 : Int) (a1 : Int) {res : Int} (ha0 : InR a0) (ha1 : InR a1) (h : Rk_asOf fu L M a0 a1 = some res) : Met l yX5_asOf (Cond.code yX5_asOf cX5_asOf 2 (some .int) :: zTB) (zrm 1 0 0) (va_Pc [.int (zO a0), .int (zO a1)] (zPre G top L M)) (zQ G top L M (some (.int (zO res))) (InR res)) 0 0 (zA G) :=
  z_met (by decide +kernel) (by simp [zR_cat, zcat_I, zcat_S]) (Nat.le_of_ble_eq_true rfl) fun p e s m below meth c ls E hn S hl => Rk_asOf_w E ha0 ha1 S (hl.sub (And.intro rfl (And.intro rfl True.intro))) h
end
theorem Rk_reached_dc : zDL cX5_reached [(0, .iconst 0, 1, 1), (1, .iload_n 1, 1, 2), (2, .iload_n 3, 1, 3), (3, .iadd, 1, 4), (4, .invokestatic 69, 3, 7), (7, .istore 4, 2, 9), (9, .iload_n 2, 1, 10), (10, .ldc 85, 2, 12), (12, .if_icmp .eq 12, 3, 15), (15, .iload_n 2, 1, 16), (16, .iload 4, 2, 18), (18, .if_icmp .ge 6, 3, 21), (21, .bipush (-2), 2, 23), (23, .ireturn, 1, 24), (24, .iload_n 0, 1, 25), (25, .iload 4, 2, 27), (27, .invokestatic 59, 3, 30), (30, .ireturn, 1, 31)] := zDL.of (by decide +kernel)
section
variable {p : Program} {l : Launch} {e : Env} {s : State} {m : MethodId} {args : Array Value} {below : List Frame} {meth : Method} {c : Code} {G : zG} {top : Int} {L : zL} {fu : Nat}
theorem Rk_reached_w (E : zEv p m c cX5_reached 5 s args RX5 meth (some .int) G) {res : Int} {M : zM} {a0 : Int} {a1 : Int} {a2 : Int} {a3 : Int} {H : Heap} {locs : List Loc} {ls : Array Slot} (ha0 : InR a0) (ha1 : InR a1) (ha2 : InR a2) (ha3 : InR a3) (S : zS G top L M s H locs) (hl : zLV ls 5 [some (.int (zO a0)), some (.int (zO a1)), some (.int (zO a2)), some (.int (zO a3)), none]) (h : Rk_reached fu L M a0 a1 a2 a3 = some res) : W p l e (zrm 2 0 0) s m args below meth c H locs 0 0 (MQ below (zQ G top L M (some (.int (zO res))) (InR res)) args s 0 0 (zA G)) (F0 m 0 ls []) := by
  unfold Rk_reached at h
  refine r_iconst E (Rk_reached_dc.at 0 rfl) ?_
  refine u_il_n (x := a1) E (Rk_reached_dc.at 1 rfl) hl rfl ?_
  refine u_il_n (x := a3) E (Rk_reached_dc.at 2 rfl) hl rfl ?_
  refine r_iadd E (Rk_reached_dc.at 3 rfl) ?_
  refine r_max (rest := []) E (show InR 0 by decide) (inR_w32 _) hl.size zw_5_5 zw_4_56 zw_1_17 zw_4_57 (by decide) (by simp [zR_cat, zcat_I, zcat_J, zcat_S, zrm]) ⟨Nat.zero_le _, Nat.zero_le _⟩ (Rk_reached_dc.at 4 rfl) ?_
  obtain ⟨v1, ev1, h⟩ := lt1_e h
  have hv1 := inR_eq ev1 (inR_max (show InR 0 by decide) (inR_w32 _))
  refine u_ist (y := v1) (vs' := [some (.int (zO a0)), some (.int (zO a1)), some (.int (zO a2)), some (.int (zO a3)), some (.int (zO v1))]) E ev1 (Rk_reached_dc.at 5 rfl) hl (by decide) rfl (fun ls hl => ?_)
  refine u_il_n (x := a2) E (Rk_reached_dc.at 6 rfl) hl rfl ?_
  refine r_ldc (n := (-1000000)) E (Rk_reached_dc.at 7 rfl) zw_5_9 rfl ?_
  refine r_icmp_eq (tgt := 24) E ha2 (show InR (-1000000) by decide) (Rk_reached_dc.at 8 rfl) (by decide) (fun q => ?_) (fun q => ?_)
  · have h := ite_t h q
    refine u_il_n (x := a0) E (Rk_reached_dc.at 14 rfl) hl rfl ?_
    refine u_il (x := v1) E (Rk_reached_dc.at 15 rfl) hl rfl ?_
    obtain ⟨r2, er2, h⟩ := bd1_e h
    refine u_cSI (As := [.int (zO a0), .int (zO v1)]) (rest := []) E S zcw_yX5_asOf zw_5_1 zw_5_0 (Rk_asOf_c l G fu top L M a0 v1 ha0 hv1 er2) (zrm_ok (by decide) (by decide)) ⟨Nat.le_refl 0, Nat.le_refl 0⟩ rfl (Nat.zero_le 8) hl.size rfl (Rk_reached_dc.at 16 rfl) (fun H locs hr2 S3 => ?_)
    cases h
    exact r_iret E S3 hr2 (Rk_reached_dc.at 17 rfl)
  · have h := ite_f h q
    refine u_il_n (x := a2) E (Rk_reached_dc.at 9 rfl) hl rfl ?_
    refine u_il (x := v1) E (Rk_reached_dc.at 10 rfl) hl rfl ?_
    refine r_icmp_ge (tgt := 24) E ha2 hv1 (Rk_reached_dc.at 11 rfl) (by decide) (fun q => ?_) (fun q => ?_)
    · have h := ite_t h q
      refine r_bipush E (Rk_reached_dc.at 12 rfl) rfl ?_
      cases h
      exact r_iret E S (show InR (-2) by decide) (Rk_reached_dc.at 13 rfl)
    · have h := ite_f h q
      refine u_il_n (x := a0) E (Rk_reached_dc.at 14 rfl) hl rfl ?_
      refine u_il (x := v1) E (Rk_reached_dc.at 15 rfl) hl rfl ?_
      obtain ⟨r4, er4, h⟩ := bd1_e h
      refine u_cSI (As := [.int (zO a0), .int (zO v1)]) (rest := []) E S zcw_yX5_asOf zw_5_1 zw_5_0 (Rk_asOf_c l G fu top L M a0 v1 ha0 hv1 er4) (zrm_ok (by decide) (by decide)) ⟨Nat.le_refl 0, Nat.le_refl 0⟩ rfl (Nat.zero_le 8) hl.size rfl (Rk_reached_dc.at 16 rfl) (fun H locs hr4 S5 => ?_)
      cases h
      exact r_iret E S5 hr4 (Rk_reached_dc.at 17 rfl)
theorem Rk_reached_c (l : Launch) (G : zG) (fu : Nat) (top : Int) (L : zL) (M : zM) (a0 : Int) (a1 : Int) (a2 : Int) (a3 : Int) {res : Int} (ha0 : InR a0) (ha1 : InR a1) (ha2 : InR a2) (ha3 : InR a3) (h : Rk_reached fu L M a0 a1 a2 a3 = some res) : Met l yX5_reached (Cond.code yX5_reached cX5_reached 5 (some .int) :: zTB) (zrm 2 0 0) (va_Pc [.int (zO a0), .int (zO a1), .int (zO a2), .int (zO a3)] (zPre G top L M)) (zQ G top L M (some (.int (zO res))) (InR res)) 0 0 (zA G) :=
  z_met (by decide +kernel) (by simp [zR_cat, zcat_I, zcat_S]) (Nat.le_of_ble_eq_true rfl) fun p e s m below meth c ls E hn S hl => Rk_reached_w E ha0 ha1 ha2 ha3 S (hl.sub (And.intro rfl (And.intro rfl (And.intro rfl (And.intro rfl True.intro))))) h
end
theorem Rk_later_dc : zDL cX5_later [(0, .iload_n 0, 1, 1), (1, .ifCond .lt 7, 3, 4), (4, .iload_n 1, 1, 5), (5, .ifCond .ge 11, 3, 8), (8, .iload_n 0, 1, 9), (9, .iload_n 1, 1, 10), (10, .invokestatic 42, 3, 13), (13, .goto 8, 3, 16), (16, .iload_n 0, 1, 17), (17, .iload_n 1, 1, 18), (18, .invokestatic 69, 3, 21), (21, .ireturn, 1, 22)] := zDL.of (by decide +kernel)
section
variable {p : Program} {l : Launch} {e : Env} {s : State} {m : MethodId} {args : Array Value} {below : List Frame} {meth : Method} {c : Code} {G : zG} {top : Int} {L : zL} {fu : Nat}
theorem Rk_later_w (E : zEv p m c cX5_later 2 s args RX5 meth (some .int) G) {res : Int} {M : zM} {a0 : Int} {a1 : Int} {H : Heap} {locs : List Loc} {ls : Array Slot} (ha0 : InR a0) (ha1 : InR a1) (S : zS G top L M s H locs) (hl : zLV ls 2 [some (.int (zO a0)), some (.int (zO a1))]) (h : Rk_later fu L M a0 a1 = some res) : W p l e (zrm 1 0 0) s m args below meth c H locs 0 0 (MQ below (zQ G top L M (some (.int (zO res))) (InR res)) args s 0 0 (zA G)) (F0 m 0 ls []) := by
  unfold Rk_later at h
  refine u_il_n (x := a0) E (Rk_later_dc.at 0 rfl) hl rfl ?_
  refine r_if_lt (tgt := 8) E ha0 (Rk_later_dc.at 1 rfl) (by decide) (fun q => ?_) (fun q => ?_)
  · have h := ite_t h q
    refine u_il_n (x := a0) E (Rk_later_dc.at 4 rfl) hl rfl ?_
    refine u_il_n (x := a1) E (Rk_later_dc.at 5 rfl) hl rfl ?_
    refine r_min (rest := []) E ha0 ha1 hl.size zw_4_226 zw_4_47 zw_1_17 zw_4_48 (by decide) (by simp [zR_cat, zcat_I, zcat_J, zcat_S, zrm]) ⟨Nat.zero_le _, Nat.zero_le _⟩ (Rk_later_dc.at 6 rfl) ?_
    refine r_goto (tgt := 21) E (Rk_later_dc.at 7 rfl) (by decide) ?_
    cases h
    exact r_iret E S (inR_min ha0 ha1) (Rk_later_dc.at 11 rfl)
  · have h := ite_f h q
    refine u_il_n (x := a1) E (Rk_later_dc.at 2 rfl) hl rfl ?_
    refine r_if_ge (tgt := 16) E ha1 (Rk_later_dc.at 3 rfl) (by decide) (fun q => ?_) (fun q => ?_)
    · have h := ite_t h q
      refine u_il_n (x := a0) E (Rk_later_dc.at 4 rfl) hl rfl ?_
      refine u_il_n (x := a1) E (Rk_later_dc.at 5 rfl) hl rfl ?_
      refine r_min (rest := []) E ha0 ha1 hl.size zw_4_226 zw_4_47 zw_1_17 zw_4_48 (by decide) (by simp [zR_cat, zcat_I, zcat_J, zcat_S, zrm]) ⟨Nat.zero_le _, Nat.zero_le _⟩ (Rk_later_dc.at 6 rfl) ?_
      refine r_goto (tgt := 21) E (Rk_later_dc.at 7 rfl) (by decide) ?_
      cases h
      exact r_iret E S (inR_min ha0 ha1) (Rk_later_dc.at 11 rfl)
    · have h := ite_f h q
      refine u_il_n (x := a0) E (Rk_later_dc.at 8 rfl) hl rfl ?_
      refine u_il_n (x := a1) E (Rk_later_dc.at 9 rfl) hl rfl ?_
      refine r_max (rest := []) E ha0 ha1 hl.size zw_5_5 zw_4_56 zw_1_17 zw_4_57 (by decide) (by simp [zR_cat, zcat_I, zcat_J, zcat_S, zrm]) ⟨Nat.zero_le _, Nat.zero_le _⟩ (Rk_later_dc.at 10 rfl) ?_
      cases h
      exact r_iret E S (inR_max ha0 ha1) (Rk_later_dc.at 11 rfl)
theorem Rk_later_c (l : Launch) (G : zG) (fu : Nat) (top : Int) (L : zL) (M : zM) (a0 : Int) (a1 : Int) {res : Int} (ha0 : InR a0) (ha1 : InR a1) (h : Rk_later fu L M a0 a1 = some res) : Met l yX5_later (Cond.code yX5_later cX5_later 2 (some .int) :: zTB) (zrm 1 0 0) (va_Pc [.int (zO a0), .int (zO a1)] (zPre G top L M)) (zQ G top L M (some (.int (zO res))) (InR res)) 0 0 (zA G) :=
  z_met (by decide +kernel) (by simp [zR_cat, zcat_I, zcat_S]) (Nat.le_of_ble_eq_true rfl) fun p e s m below meth c ls E hn S hl => Rk_later_w E ha0 ha1 S (hl.sub (And.intro rfl (And.intro rfl True.intro))) h
end
theorem Rk_earlier_dc : zDL cX5_earlier [(0, .iload_n 0, 1, 1), (1, .ifCond .lt 7, 3, 4), (4, .iload_n 1, 1, 5), (5, .ifCond .ge 11, 3, 8), (8, .iload_n 0, 1, 9), (9, .iload_n 1, 1, 10), (10, .invokestatic 69, 3, 13), (13, .goto 8, 3, 16), (16, .iload_n 0, 1, 17), (17, .iload_n 1, 1, 18), (18, .invokestatic 42, 3, 21), (21, .ireturn, 1, 22)] := zDL.of (by decide +kernel)
section
variable {p : Program} {l : Launch} {e : Env} {s : State} {m : MethodId} {args : Array Value} {below : List Frame} {meth : Method} {c : Code} {G : zG} {top : Int} {L : zL} {fu : Nat}
theorem Rk_earlier_w (E : zEv p m c cX5_earlier 2 s args RX5 meth (some .int) G) {res : Int} {M : zM} {a0 : Int} {a1 : Int} {H : Heap} {locs : List Loc} {ls : Array Slot} (ha0 : InR a0) (ha1 : InR a1) (S : zS G top L M s H locs) (hl : zLV ls 2 [some (.int (zO a0)), some (.int (zO a1))]) (h : Rk_earlier fu L M a0 a1 = some res) : W p l e (zrm 1 0 0) s m args below meth c H locs 0 0 (MQ below (zQ G top L M (some (.int (zO res))) (InR res)) args s 0 0 (zA G)) (F0 m 0 ls []) := by
  unfold Rk_earlier at h
  refine u_il_n (x := a0) E (Rk_earlier_dc.at 0 rfl) hl rfl ?_
  refine r_if_lt (tgt := 8) E ha0 (Rk_earlier_dc.at 1 rfl) (by decide) (fun q => ?_) (fun q => ?_)
  · have h := ite_t h q
    refine u_il_n (x := a0) E (Rk_earlier_dc.at 4 rfl) hl rfl ?_
    refine u_il_n (x := a1) E (Rk_earlier_dc.at 5 rfl) hl rfl ?_
    refine r_max (rest := []) E ha0 ha1 hl.size zw_5_5 zw_4_56 zw_1_17 zw_4_57 (by decide) (by simp [zR_cat, zcat_I, zcat_J, zcat_S, zrm]) ⟨Nat.zero_le _, Nat.zero_le _⟩ (Rk_earlier_dc.at 6 rfl) ?_
    refine r_goto (tgt := 21) E (Rk_earlier_dc.at 7 rfl) (by decide) ?_
    cases h
    exact r_iret E S (inR_max ha0 ha1) (Rk_earlier_dc.at 11 rfl)
  · have h := ite_f h q
    refine u_il_n (x := a1) E (Rk_earlier_dc.at 2 rfl) hl rfl ?_
    refine r_if_ge (tgt := 16) E ha1 (Rk_earlier_dc.at 3 rfl) (by decide) (fun q => ?_) (fun q => ?_)
    · have h := ite_t h q
      refine u_il_n (x := a0) E (Rk_earlier_dc.at 4 rfl) hl rfl ?_
      refine u_il_n (x := a1) E (Rk_earlier_dc.at 5 rfl) hl rfl ?_
      refine r_max (rest := []) E ha0 ha1 hl.size zw_5_5 zw_4_56 zw_1_17 zw_4_57 (by decide) (by simp [zR_cat, zcat_I, zcat_J, zcat_S, zrm]) ⟨Nat.zero_le _, Nat.zero_le _⟩ (Rk_earlier_dc.at 6 rfl) ?_
      refine r_goto (tgt := 21) E (Rk_earlier_dc.at 7 rfl) (by decide) ?_
      cases h
      exact r_iret E S (inR_max ha0 ha1) (Rk_earlier_dc.at 11 rfl)
    · have h := ite_f h q
      refine u_il_n (x := a0) E (Rk_earlier_dc.at 8 rfl) hl rfl ?_
      refine u_il_n (x := a1) E (Rk_earlier_dc.at 9 rfl) hl rfl ?_
      refine r_min (rest := []) E ha0 ha1 hl.size zw_4_226 zw_4_47 zw_1_17 zw_4_48 (by decide) (by simp [zR_cat, zcat_I, zcat_J, zcat_S, zrm]) ⟨Nat.zero_le _, Nat.zero_le _⟩ (Rk_earlier_dc.at 10 rfl) ?_
      cases h
      exact r_iret E S (inR_min ha0 ha1) (Rk_earlier_dc.at 11 rfl)
theorem Rk_earlier_c (l : Launch) (G : zG) (fu : Nat) (top : Int) (L : zL) (M : zM) (a0 : Int) (a1 : Int) {res : Int} (ha0 : InR a0) (ha1 : InR a1) (h : Rk_earlier fu L M a0 a1 = some res) : Met l yX5_earlier (Cond.code yX5_earlier cX5_earlier 2 (some .int) :: zTB) (zrm 1 0 0) (va_Pc [.int (zO a0), .int (zO a1)] (zPre G top L M)) (zQ G top L M (some (.int (zO res))) (InR res)) 0 0 (zA G) :=
  z_met (by decide +kernel) (by simp [zR_cat, zcat_I, zcat_S]) (Nat.le_of_ble_eq_true rfl) fun p e s m below meth c ls E hn S hl => Rk_earlier_w E ha0 ha1 S (hl.sub (And.intro rfl (And.intro rfl True.intro))) h
end
theorem Rk_vestingYear_dc : zDL cX5_vestingYear [(0, .iconst (-1), 1, 1), (1, .istore 4, 2, 3), (3, .iconst 0, 1, 4), (4, .istore 5, 2, 6), (6, .iload 5, 2, 8), (8, .aload_n 0, 1, 9), (9, .getfield 30, 3, 12), (12, .if_icmp .ge 269, 3, 15), (15, .iload 5, 2, 17), (17, .bipush 31, 2, 19), (19, .if_icmp .ge 262, 3, 22), (22, .aload_n 0, 1, 23), (23, .getfield 24, 3, 26), (26, .aload_n 0, 1, 27), (27, .getfield 21, 3, 30), (30, .iload 5, 2, 32), (32, .iaload, 1, 33), (33, .invokestatic 50, 3, 36), (36, .istore 6, 2, 38), (38, .aload_n 0, 1, 39), (39, .getfield 9, 3, 42), (42, .iload 5, 2, 44), (44, .iaload, 1, 45), (45, .tableswitch 212 0 6 #[43, 62, 96, 106, 127, 168, 200], 43, 88), (88, .aload_n 1, 1, 89), (89, .getfield 54, 3, 92), (92, .aload_n 0, 1, 93), (93, .getfield 15, 3, 96), (96, .iload 5, 2, 98), (98, .iaload, 1, 99), (99, .invokestatic 59, 3, 102), (102, .istore 4, 2, 104), (104, .goto 162, 3, 107), (107, .aload_n 1, 1, 108), (108, .aload_n 0, 1, 109), (109, .getfield 18, 3, 112), (112, .iload 5, 2, 114), (114, .iaload, 1, 115), (115, .invokevirtual 62, 3, 118), (118, .ifCond .eq 7, 3, 121), (121, .iconst (-1), 1, 122), (122, .goto 14, 3, 125), (125, .aload_n 1, 1, 126), (126, .aload_n 0, 1, 127), (127, .getfield 18, 3, 130), (130, .iload 5, 2, 132), (132, .iaload, 1, 133), (133, .invokevirtual 65, 3, 136), (136, .istore 4, 2, 138), (138, .goto 128, 3, 141), (141, .iconst 0, 1, 142), (142, .iload_n 2, 1, 143), (143, .invokestatic 69, 3, 146), (146, .istore 4, 2, 148), (148, .goto 118, 3, 151), (151, .aload_n 1, 1, 152), (152, .getfield 54, 3, 155), (155, .iload_n 2, 1, 156), (156, .iload_n 3, 1, 157), (157, .aload_n 0, 1, 158), (158, .getfield 15, 3, 161), (161, .iload 5, 2, 163), (163, .iaload, 1, 164), (164, .invokestatic 72, 3, 167), (167, .istore 4, 2, 169), (169, .goto 97, 3, 172), (172, .aload_n 1, 1, 173), (173, .getfield 54, 3, 176), (176, .aload_n 1, 1, 177), (177, .aload_n 0, 1, 178), (178, .getfield 18, 3, 181), (181, .iload 5, 2, 183), (183, .iaload, 1, 184), (184, .invokevirtual 76, 3, 187), (187, .aload_n 1, 1, 188), (188, .aload_n 0, 1, 189), (189, .getfield 18, 3, 192), (192, .iload 5, 2, 194), (194, .iaload, 1, 195), (195, .invokevirtual 65, 3, 198), (198, .aload_n 0, 1, 199), (199, .getfield 15, 3, 202), (202, .iload 5, 2, 204), (204, .iaload, 1, 205), (205, .invokestatic 72, 3, 208), (208, .istore 4, 2, 210), (210, .goto 56, 3, 213), (213, .iload 4, 2, 215), (215, .ifCond .ge 8, 3, 218), (218, .iload 4, 2, 220), (220, .goto 20, 3, 223), (223, .aload_n 1, 1, 224), (224, .getfield 54, 3, 227), (227, .iload 4, 2, 229), (229, .aload_n 0, 1, 230), (230, .getfield 15, 3, 233), (233, .iload 5, 2, 235), (235, .iaload, 1, 236), (236, .iadd, 1, 237), (237, .invokestatic 59, 3, 240), (240, .istore 4, 2, 242), (242, .goto 24, 3, 245), (245, .iload 6, 2, 247), (247, .iload 4, 2, 249), (249, .invokestatic 79, 3, 252), (252, .istore 4, 2, 254), (254, .goto 12, 3, 257), (257, .iload 6, 2, 259), (259, .iload 4, 2, 261), (261, .invokestatic 82, 3, 264), (264, .istore 4, 2, 266), (266, .aload_n 0, 1, 267), (267, .getfield 24, 3, 270), (270, .iload 5, 2, 272), (272, .iload 4, 2, 274), (274, .iastore, 1, 275), (275, .iinc 5 1, 3, 278), (278, .goto (-272), 3, 281), (281, .iload 4, 2, 283), (283, .ifCond .ge 8, 3, 286), (286, .iload 4, 2, 288), (288, .goto 9, 3, 291), (291, .iload 4, 2, 293), (293, .iload_n 2, 1, 294), (294, .invokestatic 69, 3, 297), (297, .ireturn, 1, 298)] := zDL.of (by decide +kernel)
section
variable {p : Program} {l : Launch} {e : Env} {s : State} {m : MethodId} {args : Array Value} {below : List Frame} {meth : Method} {c : Code} {G : zG} {top : Int} {L : zL} {fu : Nat}
theorem Rk_vestingYear_b136_w (E : zEv p m c cX5_vestingYear 7 s args RX5 meth (some .int) G) {res : (zM × Int)} {k6 : zM → Int → Int → Int → Int → Int → Int → Option (zM × Int)} (hk6 : ∀ (M : zM) (x0 : Int) (x1 : Int) (x2 : Int) (x3 : Int) (x4 : Int) (x5 : Int), InR x0 → InR x1 → InR x2 → InR x3 → InR x4 → InR x5 → ∀ (H : Heap) (locs : List Loc) (ls : Array Slot), zS G top L M s H locs → zLV ls 7 [some (zR G.2.2.1 x0), some (zR G.2.2.1 x1), some (.int (zO x2)), some (.int (zO x3)), some (.int (zO x4)), some (.int (zO x5)), none] → k6 M x0 x1 x2 x3 x4 x5 = some res → W p l e (zrm 3 0 0) s m args below meth c H locs 0 0 (MQ below (zQ G top L res.1 (some (.int (zO res.2))) (InR res.2)) args s 0 0 (zA G)) (F0 m 6 ls [])) {M : zM} {x0 : Int} {x1 : Int} {x2 : Int} {x3 : Int} {x5 : Int} {y0 : Int} {H : Heap} {locs : List Loc} {ls : Array Slot} (hx0 : InR x0) (hx1 : InR x1) (hx2 : InR x2) (hx3 : InR x3) (hx5 : InR x5) (hy0 : InR y0) (S : zS G top L M s H locs) (hl : zLV ls 7 [some (zR G.2.2.1 x0), some (zR G.2.2.1 x1), some (.int (zO x2)), some (.int (zO x3)), none, some (.int (zO x5)), none]) (h : Rk_vestingYear_b136 fu k6 L M x0 x1 x2 x3 x5 y0 = some res) : W p l e (zrm 3 0 0) s m args below meth c H locs 0 0 (MQ below (zQ G top L res.1 (some (.int (zO res.2))) (InR res.2)) args s 0 0 (zA G)) (F0 m 136 ls [.int (zO y0)]) := by
  unfold Rk_vestingYear_b136 at h
  refine u_ist (y := y0) (vs' := [some (zR G.2.2.1 x0), some (zR G.2.2.1 x1), some (.int (zO x2)), some (.int (zO x3)), some (.int (zO y0)), some (.int (zO x5)), none]) E rfl (Rk_vestingYear_dc.at 48 rfl) hl (by decide) rfl (fun ls hl => ?_)
  refine r_goto (tgt := 266) E (Rk_vestingYear_dc.at 49 rfl) (by decide) ?_
  refine u_al_n (x := x0) E (Rk_vestingYear_dc.at 111 rfl) hl rfl ?_
  obtain ⟨g27, h⟩ := ite_e h
  refine u_gR E zf_5_4 S g27 zw_2_36 (Rk_vestingYear_dc.at 112 rfl) ?_
  refine u_il (x := x5) E (Rk_vestingYear_dc.at 113 rfl) hl rfl ?_
  refine u_il (x := y0) E (Rk_vestingYear_dc.at 114 rfl) hl rfl ?_
  obtain ⟨g28, h⟩ := ite_e h
  obtain ⟨g29, h⟩ := ite_e h
  obtain ⟨M30, eM30, h⟩ := lt1_e h
  refine u_iast E eM30 S g28 g29 hy0 (Rk_vestingYear_dc.at 115 rfl) (fun H locs S31 => ?_)
  obtain ⟨v32, ev32, h⟩ := lt1_e h
  have hv32 := inR_eq ev32 (inR_w32 _)
  refine u_iinc (y := v32) (vs' := [some (zR G.2.2.1 x0), some (zR G.2.2.1 x1), some (.int (zO x2)), some (.int (zO x3)), some (.int (zO y0)), some (.int (zO v32)), none]) E ev32 (Rk_vestingYear_dc.at 116 rfl) hl rfl (by decide) rfl (fun ls hl => ?_)
  refine r_goto (tgt := 6) E (Rk_vestingYear_dc.at 117 rfl) (by decide) ?_
  exact hk6 _ x0 x1 x2 x3 y0 v32 hx0 hx1 hx2 hx3 hy0 hv32 _ _ _ S31 (hl.sub (And.intro rfl (And.intro rfl (And.intro rfl (And.intro rfl (And.intro rfl (And.intro rfl True.intro))))))) h
theorem Rk_vestingYear_b240_w (E : zEv p m c cX5_vestingYear 7 s args RX5 meth (some .int) G) {res : (zM × Int)} {k6 : zM → Int → Int → Int → Int → Int → Int → Option (zM × Int)} (hk6 : ∀ (M : zM) (x0 : Int) (x1 : Int) (x2 : Int) (x3 : Int) (x4 : Int) (x5 : Int), InR x0 → InR x1 → InR x2 → InR x3 → InR x4 → InR x5 → ∀ (H : Heap) (locs : List Loc) (ls : Array Slot), zS G top L M s H locs → zLV ls 7 [some (zR G.2.2.1 x0), some (zR G.2.2.1 x1), some (.int (zO x2)), some (.int (zO x3)), some (.int (zO x4)), some (.int (zO x5)), none] → k6 M x0 x1 x2 x3 x4 x5 = some res → W p l e (zrm 3 0 0) s m args below meth c H locs 0 0 (MQ below (zQ G top L res.1 (some (.int (zO res.2))) (InR res.2)) args s 0 0 (zA G)) (F0 m 6 ls [])) {M : zM} {x0 : Int} {x1 : Int} {x2 : Int} {x3 : Int} {x5 : Int} {y0 : Int} {H : Heap} {locs : List Loc} {ls : Array Slot} (hx0 : InR x0) (hx1 : InR x1) (hx2 : InR x2) (hx3 : InR x3) (hx5 : InR x5) (hy0 : InR y0) (S : zS G top L M s H locs) (hl : zLV ls 7 [some (zR G.2.2.1 x0), some (zR G.2.2.1 x1), some (.int (zO x2)), some (.int (zO x3)), none, some (.int (zO x5)), none]) (h : Rk_vestingYear_b240 fu k6 L M x0 x1 x2 x3 x5 y0 = some res) : W p l e (zrm 3 0 0) s m args below meth c H locs 0 0 (MQ below (zQ G top L res.1 (some (.int (zO res.2))) (InR res.2)) args s 0 0 (zA G)) (F0 m 240 ls [.int (zO y0)]) := by
  unfold Rk_vestingYear_b240 at h
  refine u_ist (y := y0) (vs' := [some (zR G.2.2.1 x0), some (zR G.2.2.1 x1), some (.int (zO x2)), some (.int (zO x3)), some (.int (zO y0)), some (.int (zO x5)), none]) E rfl (Rk_vestingYear_dc.at 100 rfl) hl (by decide) rfl (fun ls hl => ?_)
  refine r_goto (tgt := 266) E (Rk_vestingYear_dc.at 101 rfl) (by decide) ?_
  refine u_al_n (x := x0) E (Rk_vestingYear_dc.at 111 rfl) hl rfl ?_
  obtain ⟨g70, h⟩ := ite_e h
  refine u_gR E zf_5_4 S g70 zw_2_36 (Rk_vestingYear_dc.at 112 rfl) ?_
  refine u_il (x := x5) E (Rk_vestingYear_dc.at 113 rfl) hl rfl ?_
  refine u_il (x := y0) E (Rk_vestingYear_dc.at 114 rfl) hl rfl ?_
  obtain ⟨g71, h⟩ := ite_e h
  obtain ⟨g72, h⟩ := ite_e h
  obtain ⟨M73, eM73, h⟩ := lt1_e h
  refine u_iast E eM73 S g71 g72 hy0 (Rk_vestingYear_dc.at 115 rfl) (fun H locs S74 => ?_)
  obtain ⟨v75, ev75, h⟩ := lt1_e h
  have hv75 := inR_eq ev75 (inR_w32 _)
  refine u_iinc (y := v75) (vs' := [some (zR G.2.2.1 x0), some (zR G.2.2.1 x1), some (.int (zO x2)), some (.int (zO x3)), some (.int (zO y0)), some (.int (zO v75)), none]) E ev75 (Rk_vestingYear_dc.at 116 rfl) hl rfl (by decide) rfl (fun ls hl => ?_)
  refine r_goto (tgt := 6) E (Rk_vestingYear_dc.at 117 rfl) (by decide) ?_
  exact hk6 _ x0 x1 x2 x3 y0 v75 hx0 hx1 hx2 hx3 hy0 hv75 _ _ _ S74 (hl.sub (And.intro rfl (And.intro rfl (And.intro rfl (And.intro rfl (And.intro rfl (And.intro rfl True.intro))))))) h
theorem Rk_vestingYear_b281_w (E : zEv p m c cX5_vestingYear 7 s args RX5 meth (some .int) G) {res : (zM × Int)} {M : zM} {x2 : Int} {x4 : Int} {H : Heap} {locs : List Loc} {ls : Array Slot} (hx2 : InR x2) (hx4 : InR x4) (S : zS G top L M s H locs) (hl : zLV ls 7 [none, none, some (.int (zO x2)), none, some (.int (zO x4)), none, none]) (h : Rk_vestingYear_b281 fu L M x2 x4 = some res) : W p l e (zrm 3 0 0) s m args below meth c H locs 0 0 (MQ below (zQ G top L res.1 (some (.int (zO res.2))) (InR res.2)) args s 0 0 (zA G)) (F0 m 281 ls []) := by
  unfold Rk_vestingYear_b281 at h
  refine u_il (x := x4) E (Rk_vestingYear_dc.at 118 rfl) hl rfl ?_
  refine r_if_ge (tgt := 291) E hx4 (Rk_vestingYear_dc.at 119 rfl) (by decide) (fun q => ?_) (fun q => ?_)
  · have h := ite_t h q
    refine u_il (x := x4) E (Rk_vestingYear_dc.at 120 rfl) hl rfl ?_
    refine r_goto (tgt := 297) E (Rk_vestingYear_dc.at 121 rfl) (by decide) ?_
    cases h
    exact r_iret E S hx4 (Rk_vestingYear_dc.at 125 rfl)
  · have h := ite_f h q
    refine u_il (x := x4) E (Rk_vestingYear_dc.at 122 rfl) hl rfl ?_
    refine u_il_n (x := x2) E (Rk_vestingYear_dc.at 123 rfl) hl rfl ?_
    refine r_max (rest := []) E hx4 hx2 hl.size zw_5_5 zw_4_56 zw_1_17 zw_4_57 (by decide) (by simp [zR_cat, zcat_I, zcat_J, zcat_S, zrm]) ⟨Nat.zero_le _, Nat.zero_le _⟩ (Rk_vestingYear_dc.at 124 rfl) ?_
    cases h
    exact r_iret E S (inR_max hx4 hx2) (Rk_vestingYear_dc.at 125 rfl)
theorem Rk_vestingYear_s6_w (E : zEv p m c cX5_vestingYear 7 s args RX5 meth (some .int) G) {res : (zM × Int)} {k6 : zM → Int → Int → Int → Int → Int → Int → Option (zM × Int)} (hk6 : ∀ (M : zM) (x0 : Int) (x1 : Int) (x2 : Int) (x3 : Int) (x4 : Int) (x5 : Int), InR x0 → InR x1 → InR x2 → InR x3 → InR x4 → InR x5 → ∀ (H : Heap) (locs : List Loc) (ls : Array Slot), zS G top L M s H locs → zLV ls 7 [some (zR G.2.2.1 x0), some (zR G.2.2.1 x1), some (.int (zO x2)), some (.int (zO x3)), some (.int (zO x4)), some (.int (zO x5)), none] → k6 M x0 x1 x2 x3 x4 x5 = some res → W p l e (zrm 3 0 0) s m args below meth c H locs 0 0 (MQ below (zQ G top L res.1 (some (.int (zO res.2))) (InR res.2)) args s 0 0 (zA G)) (F0 m 6 ls [])) {M : zM} {x0 : Int} {x1 : Int} {x2 : Int} {x3 : Int} {x4 : Int} {x5 : Int} {H : Heap} {locs : List Loc} {ls : Array Slot} (hx0 : InR x0) (hx1 : InR x1) (hx2 : InR x2) (hx3 : InR x3) (hx4 : InR x4) (hx5 : InR x5) (S : zS G top L M s H locs) (hl : zLV ls 7 [some (zR G.2.2.1 x0), some (zR G.2.2.1 x1), some (.int (zO x2)), some (.int (zO x3)), some (.int (zO x4)), some (.int (zO x5)), none]) (h : Rk_vestingYear_s6 fu k6 L M x0 x1 x2 x3 x4 x5 = some res) : W p l e (zrm 3 0 0) s m args below meth c H locs 0 0 (MQ below (zQ G top L res.1 (some (.int (zO res.2))) (InR res.2)) args s 0 0 (zA G)) (F0 m 6 ls []) := by
  unfold Rk_vestingYear_s6 at h
  refine u_il (x := x5) E (Rk_vestingYear_dc.at 4 rfl) hl rfl ?_
  refine u_al_n (x := x0) E (Rk_vestingYear_dc.at 5 rfl) hl rfl ?_
  obtain ⟨g1, h⟩ := ite_e h
  refine u_gI E zf_5_6 S g1 zw_2_38 (Rk_vestingYear_dc.at 6 rfl) ?_
  refine r_icmp_ge (tgt := 281) E hx5 (S.1.inR _ _) (Rk_vestingYear_dc.at 7 rfl) (by decide) (fun q => ?_) (fun q => ?_)
  · have h := ite_t h q
    refine u_il (x := x5) E (Rk_vestingYear_dc.at 8 rfl) hl rfl ?_
    refine r_bipush E (Rk_vestingYear_dc.at 9 rfl) rfl ?_
    refine r_icmp_ge (tgt := 281) E hx5 (show InR 31 by decide) (Rk_vestingYear_dc.at 10 rfl) (by decide) (fun q => ?_) (fun q => ?_)
    · have h := ite_t h q
      refine u_al_n (x := x0) E (Rk_vestingYear_dc.at 11 rfl) hl rfl ?_
      refine u_gR E zf_5_4 S g1 zw_2_36 (Rk_vestingYear_dc.at 12 rfl) ?_
      refine u_al_n (x := x0) E (Rk_vestingYear_dc.at 13 rfl) hl rfl ?_
      refine u_gR E zf_5_3 S g1 zw_2_35 (Rk_vestingYear_dc.at 14 rfl) ?_
      refine u_il (x := x5) E (Rk_vestingYear_dc.at 15 rfl) hl rfl ?_
      obtain ⟨g2, h⟩ := ite_e h
      obtain ⟨g3, h⟩ := ite_e h
      refine r_iald E S g2 g3 (Rk_vestingYear_dc.at 16 rfl) ?_
      obtain ⟨r4, er4, h⟩ := bd1_e h
      refine u_cSI (As := [zR G.2.2.1 (M x0 4), .int (zO (M (M x0 3) x5))]) (rest := []) E S zcw_yX5_answerOf zw_4_238 zw_4_237 (Rk_answerOf_c l G fu top L M (M x0 4) (M (M x0 3) x5) (S.1.inR _ _) (S.1.inR _ _) er4) (zrm_ok (by decide) (by decide)) ⟨Nat.le_refl 0, Nat.le_refl 0⟩ rfl (Nat.zero_le 8) hl.size rfl (Rk_vestingYear_dc.at 17 rfl) (fun H locs hr4 S5 => ?_)
      refine u_ist (y := r4) (vs' := [some (zR G.2.2.1 x0), some (zR G.2.2.1 x1), some (.int (zO x2)), some (.int (zO x3)), some (.int (zO x4)), some (.int (zO x5)), some (.int (zO r4))]) E rfl (Rk_vestingYear_dc.at 18 rfl) hl (by decide) rfl (fun ls hl => ?_)
      refine u_al_n (x := x0) E (Rk_vestingYear_dc.at 19 rfl) hl rfl ?_
      refine u_gR E zf_5_0 S5 g1 zw_2_32 (Rk_vestingYear_dc.at 20 rfl) ?_
      refine u_il (x := x5) E (Rk_vestingYear_dc.at 21 rfl) hl rfl ?_
      obtain ⟨g6, h⟩ := ite_e h
      obtain ⟨g7, h⟩ := ite_e h
      refine r_iald E S5 g6 g7 (Rk_vestingYear_dc.at 22 rfl) ?_
      by_cases q18 : (M (M x0 0) x5) = 0
      · have h := ite_t h q18
        refine r_tin (tgt := 88) (k := 0) E (S5.1.inR _ _) q18 (Rk_vestingYear_dc.at 23 rfl) (by decide) (by decide) rfl (by decide) ?_
        refine u_al_n (x := x1) E (Rk_vestingYear_dc.at 24 rfl) hl rfl ?_
        obtain ⟨g8, h⟩ := ite_e h
        refine u_gI E zf_10_5 S5 g8 zw_1_202 (Rk_vestingYear_dc.at 25 rfl) ?_
        refine u_al_n (x := x0) E (Rk_vestingYear_dc.at 26 rfl) hl rfl ?_
        refine u_gR E zf_5_1 S5 g1 zw_2_33 (Rk_vestingYear_dc.at 27 rfl) ?_
        refine u_il (x := x5) E (Rk_vestingYear_dc.at 28 rfl) hl rfl ?_
        obtain ⟨g9, h⟩ := ite_e h
        obtain ⟨g10, h⟩ := ite_e h
        refine r_iald E S5 g9 g10 (Rk_vestingYear_dc.at 29 rfl) ?_
        obtain ⟨r11, er11, h⟩ := bd1_e h
        refine u_cSI (As := [.int (zO (M x1 5)), .int (zO (M (M x0 1) x5))]) (rest := []) E S5 zcw_yX5_asOf zw_5_1 zw_5_0 (Rk_asOf_c l G fu top L M (M x1 5) (M (M x0 1) x5) (S5.1.inR _ _) (S5.1.inR _ _) er11) (zrm_ok (by decide) (by decide)) ⟨Nat.le_refl 0, Nat.le_refl 0⟩ rfl (Nat.zero_le 8) hl.size rfl (Rk_vestingYear_dc.at 30 rfl) (fun H locs hr11 S12 => ?_)
        refine u_ist (y := r11) (vs' := [some (zR G.2.2.1 x0), some (zR G.2.2.1 x1), some (.int (zO x2)), some (.int (zO x3)), some (.int (zO r11)), some (.int (zO x5)), some (.int (zO r4))]) E rfl (Rk_vestingYear_dc.at 31 rfl) hl (by decide) rfl (fun ls hl => ?_)
        refine r_goto (tgt := 266) E (Rk_vestingYear_dc.at 32 rfl) (by decide) ?_
        refine u_al_n (x := x0) E (Rk_vestingYear_dc.at 111 rfl) hl rfl ?_
        refine u_gR E zf_5_4 S12 g1 zw_2_36 (Rk_vestingYear_dc.at 112 rfl) ?_
        refine u_il (x := x5) E (Rk_vestingYear_dc.at 113 rfl) hl rfl ?_
        refine u_il (x := r11) E (Rk_vestingYear_dc.at 114 rfl) hl rfl ?_
        obtain ⟨g13, h⟩ := ite_e h
        obtain ⟨g14, h⟩ := ite_e h
        obtain ⟨M15, eM15, h⟩ := lt1_e h
        refine u_iast E eM15 S12 g13 g14 hr11 (Rk_vestingYear_dc.at 115 rfl) (fun H locs S16 => ?_)
        obtain ⟨v17, ev17, h⟩ := lt1_e h
        have hv17 := inR_eq ev17 (inR_w32 _)
        refine u_iinc (y := v17) (vs' := [some (zR G.2.2.1 x0), some (zR G.2.2.1 x1), some (.int (zO x2)), some (.int (zO x3)), some (.int (zO r11)), some (.int (zO v17)), some (.int (zO r4))]) E ev17 (Rk_vestingYear_dc.at 116 rfl) hl rfl (by decide) rfl (fun ls hl => ?_)
        refine r_goto (tgt := 6) E (Rk_vestingYear_dc.at 117 rfl) (by decide) ?_
        exact hk6 _ x0 x1 x2 x3 r11 v17 hx0 hx1 hx2 hx3 hr11 hv17 _ _ _ S16 (hl.sub (And.intro rfl (And.intro rfl (And.intro rfl (And.intro rfl (And.intro rfl (And.intro rfl True.intro))))))) h
      · have h := ite_f h q18
        by_cases q33 : (M (M x0 0) x5) = 1
        · have h := ite_t h q33
          refine r_tin (tgt := 107) (k := 1) E (S5.1.inR _ _) q33 (Rk_vestingYear_dc.at 23 rfl) (by decide) (by decide) rfl (by decide) ?_
          refine u_al_n (x := x1) E (Rk_vestingYear_dc.at 33 rfl) hl rfl ?_
          refine u_al_n (x := x0) E (Rk_vestingYear_dc.at 34 rfl) hl rfl ?_
          refine u_gR E zf_5_2 S5 g1 zw_2_34 (Rk_vestingYear_dc.at 35 rfl) ?_
          refine u_il (x := x5) E (Rk_vestingYear_dc.at 36 rfl) hl rfl ?_
          obtain ⟨g19, h⟩ := ite_e h
          obtain ⟨g20, h⟩ := ite_e h
          refine r_iald E S5 g19 g20 (Rk_vestingYear_dc.at 37 rfl) ?_
          obtain ⟨g21, h⟩ := ite_e h
          obtain ⟨r22, er22, h⟩ := bd1_e h
          refine u_cVI (As := [.int (zO (M (M x0 2) x5))]) (rest := []) E S5 zcw_yX10_isAlive zw_4_146 zw_4_147 zw_5_3 zck_10.1 rfl g21 (Wd_isAlive_c l G fu top L M x1 (M (M x0 2) x5) hx1 (S5.1.inR _ _) er22) (zrm_ok (by decide) (by decide)) ⟨Nat.le_refl 0, Nat.le_refl 0⟩ rfl (Nat.zero_le 8) hl.size rfl (Rk_vestingYear_dc.at 38 rfl) (fun H locs hr22 S23 => ?_)
          refine r_if_eq (tgt := 125) E (inR_01 hr22) (Rk_vestingYear_dc.at 39 rfl) (by decide) (fun q => ?_) (fun q => ?_)
          · have h := ite_t h q
            refine u_al_n (x := x1) E (Rk_vestingYear_dc.at 42 rfl) hl rfl ?_
            refine u_al_n (x := x0) E (Rk_vestingYear_dc.at 43 rfl) hl rfl ?_
            refine u_gR E zf_5_2 S23 g1 zw_2_34 (Rk_vestingYear_dc.at 44 rfl) ?_
            refine u_il (x := x5) E (Rk_vestingYear_dc.at 45 rfl) hl rfl ?_
            obtain ⟨g24, h⟩ := ite_e h
            refine r_iald E S23 g19 g24 (Rk_vestingYear_dc.at 46 rfl) ?_
            obtain ⟨r25, er25, h⟩ := bd1_e h
            refine u_cVI (As := [.int (zO (M (M x0 2) x5))]) (rest := []) E S23 zcw_yX10_diedIn zw_4_27 zw_4_28 zw_5_4 zck_10.1 rfl g21 (Wd_diedIn_c l G fu top L M x1 (M (M x0 2) x5) hx1 (S23.1.inR _ _) er25) (zrm_ok (by decide) (by decide)) ⟨Nat.le_refl 0, Nat.le_refl 0⟩ rfl (Nat.zero_le 8) hl.size rfl (Rk_vestingYear_dc.at 47 rfl) (fun H locs hr25 S26 => ?_)
            exact Rk_vestingYear_b136_w (x0 := x0) (x1 := x1) (x2 := x2) (x3 := x3) (x5 := x5) (y0 := r25) E hk6 hx0 hx1 hx2 hx3 hx5 hr25 S26 (hl.sub (And.intro rfl (And.intro rfl (And.intro rfl (And.intro rfl (And.intro rfl True.intro)))))) h
          · have h := ite_f h q
            refine r_iconst E (Rk_vestingYear_dc.at 40 rfl) ?_
            refine r_goto (tgt := 136) E (Rk_vestingYear_dc.at 41 rfl) (by decide) ?_
            exact Rk_vestingYear_b136_w (x0 := x0) (x1 := x1) (x2 := x2) (x3 := x3) (x5 := x5) (y0 := (-1)) E hk6 hx0 hx1 hx2 hx3 hx5 (show InR (-1) by decide) S23 (hl.sub (And.intro rfl (And.intro rfl (And.intro rfl (And.intro rfl (And.intro rfl True.intro)))))) h
        · have h := ite_f h q33
          by_cases q40 : (M (M x0 0) x5) = 2
          · have h := ite_t h q40
            refine r_tin (tgt := 141) (k := 2) E (S5.1.inR _ _) q40 (Rk_vestingYear_dc.at 23 rfl) (by decide) (by decide) rfl (by decide) ?_
            refine r_iconst E (Rk_vestingYear_dc.at 50 rfl) ?_
            refine u_il_n (x := x2) E (Rk_vestingYear_dc.at 51 rfl) hl rfl ?_
            refine r_max (rest := []) E (show InR 0 by decide) hx2 hl.size zw_5_5 zw_4_56 zw_1_17 zw_4_57 (by decide) (by simp [zR_cat, zcat_I, zcat_J, zcat_S, zrm]) ⟨Nat.zero_le _, Nat.zero_le _⟩ (Rk_vestingYear_dc.at 52 rfl) ?_
            obtain ⟨v34, ev34, h⟩ := lt1_e h
            have hv34 := inR_eq ev34 (inR_max (show InR 0 by decide) hx2)
            refine u_ist (y := v34) (vs' := [some (zR G.2.2.1 x0), some (zR G.2.2.1 x1), some (.int (zO x2)), some (.int (zO x3)), some (.int (zO v34)), some (.int (zO x5)), some (.int (zO r4))]) E ev34 (Rk_vestingYear_dc.at 53 rfl) hl (by decide) rfl (fun ls hl => ?_)
            refine r_goto (tgt := 266) E (Rk_vestingYear_dc.at 54 rfl) (by decide) ?_
            refine u_al_n (x := x0) E (Rk_vestingYear_dc.at 111 rfl) hl rfl ?_
            refine u_gR E zf_5_4 S5 g1 zw_2_36 (Rk_vestingYear_dc.at 112 rfl) ?_
            refine u_il (x := x5) E (Rk_vestingYear_dc.at 113 rfl) hl rfl ?_
            refine u_il (x := v34) E (Rk_vestingYear_dc.at 114 rfl) hl rfl ?_
            obtain ⟨g35, h⟩ := ite_e h
            obtain ⟨g36, h⟩ := ite_e h
            obtain ⟨M37, eM37, h⟩ := lt1_e h
            refine u_iast E eM37 S5 g35 g36 hv34 (Rk_vestingYear_dc.at 115 rfl) (fun H locs S38 => ?_)
            obtain ⟨v39, ev39, h⟩ := lt1_e h
            have hv39 := inR_eq ev39 (inR_w32 _)
            refine u_iinc (y := v39) (vs' := [some (zR G.2.2.1 x0), some (zR G.2.2.1 x1), some (.int (zO x2)), some (.int (zO x3)), some (.int (zO v34)), some (.int (zO v39)), some (.int (zO r4))]) E ev39 (Rk_vestingYear_dc.at 116 rfl) hl rfl (by decide) rfl (fun ls hl => ?_)
            refine r_goto (tgt := 6) E (Rk_vestingYear_dc.at 117 rfl) (by decide) ?_
            exact hk6 _ x0 x1 x2 x3 v34 v39 hx0 hx1 hx2 hx3 hv34 hv39 _ _ _ S38 (hl.sub (And.intro rfl (And.intro rfl (And.intro rfl (And.intro rfl (And.intro rfl (And.intro rfl True.intro))))))) h
          · have h := ite_f h q40
            by_cases q51 : (M (M x0 0) x5) = 3
            · have h := ite_t h q51
              refine r_tin (tgt := 151) (k := 3) E (S5.1.inR _ _) q51 (Rk_vestingYear_dc.at 23 rfl) (by decide) (by decide) rfl (by decide) ?_
              refine u_al_n (x := x1) E (Rk_vestingYear_dc.at 55 rfl) hl rfl ?_
              obtain ⟨g41, h⟩ := ite_e h
              refine u_gI E zf_10_5 S5 g41 zw_1_202 (Rk_vestingYear_dc.at 56 rfl) ?_
              refine u_il_n (x := x2) E (Rk_vestingYear_dc.at 57 rfl) hl rfl ?_
              refine u_il_n (x := x3) E (Rk_vestingYear_dc.at 58 rfl) hl rfl ?_
              refine u_al_n (x := x0) E (Rk_vestingYear_dc.at 59 rfl) hl rfl ?_
              refine u_gR E zf_5_1 S5 g1 zw_2_33 (Rk_vestingYear_dc.at 60 rfl) ?_
              refine u_il (x := x5) E (Rk_vestingYear_dc.at 61 rfl) hl rfl ?_
              obtain ⟨g42, h⟩ := ite_e h
              obtain ⟨g43, h⟩ := ite_e h
              refine r_iald E S5 g42 g43 (Rk_vestingYear_dc.at 62 rfl) ?_
              obtain ⟨r44, er44, h⟩ := bd1_e h
              refine u_cSI (As := [.int (zO (M x1 5)), .int (zO x2), .int (zO x3), .int (zO (M (M x0 1) x5))]) (rest := []) E S5 zcw_yX5_reached zw_5_7 zw_5_6 (Rk_reached_c l G fu top L M (M x1 5) x2 x3 (M (M x0 1) x5) (S5.1.inR _ _) hx2 hx3 (S5.1.inR _ _) er44) (zrm_ok (by decide) (by decide)) ⟨Nat.le_refl 0, Nat.le_refl 0⟩ rfl (Nat.zero_le 8) hl.size rfl (Rk_vestingYear_dc.at 63 rfl) (fun H locs hr44 S45 => ?_)
              refine u_ist (y := r44) (vs' := [some (zR G.2.2.1 x0), some (zR G.2.2.1 x1), some (.int (zO x2)), some (.int (zO x3)), some (.int (zO r44)), some (.int (zO x5)), some (.int (zO r4))]) E rfl (Rk_vestingYear_dc.at 64 rfl) hl (by decide) rfl (fun ls hl => ?_)
              refine r_goto (tgt := 266) E (Rk_vestingYear_dc.at 65 rfl) (by decide) ?_
              refine u_al_n (x := x0) E (Rk_vestingYear_dc.at 111 rfl) hl rfl ?_
              refine u_gR E zf_5_4 S45 g1 zw_2_36 (Rk_vestingYear_dc.at 112 rfl) ?_
              refine u_il (x := x5) E (Rk_vestingYear_dc.at 113 rfl) hl rfl ?_
              refine u_il (x := r44) E (Rk_vestingYear_dc.at 114 rfl) hl rfl ?_
              obtain ⟨g46, h⟩ := ite_e h
              obtain ⟨g47, h⟩ := ite_e h
              obtain ⟨M48, eM48, h⟩ := lt1_e h
              refine u_iast E eM48 S45 g46 g47 hr44 (Rk_vestingYear_dc.at 115 rfl) (fun H locs S49 => ?_)
              obtain ⟨v50, ev50, h⟩ := lt1_e h
              have hv50 := inR_eq ev50 (inR_w32 _)
              refine u_iinc (y := v50) (vs' := [some (zR G.2.2.1 x0), some (zR G.2.2.1 x1), some (.int (zO x2)), some (.int (zO x3)), some (.int (zO r44)), some (.int (zO v50)), some (.int (zO r4))]) E ev50 (Rk_vestingYear_dc.at 116 rfl) hl rfl (by decide) rfl (fun ls hl => ?_)
              refine r_goto (tgt := 6) E (Rk_vestingYear_dc.at 117 rfl) (by decide) ?_
              exact hk6 _ x0 x1 x2 x3 r44 v50 hx0 hx1 hx2 hx3 hr44 hv50 _ _ _ S49 (hl.sub (And.intro rfl (And.intro rfl (And.intro rfl (And.intro rfl (And.intro rfl (And.intro rfl True.intro))))))) h
            · have h := ite_f h q51
              by_cases q69 : (M (M x0 0) x5) = 4
              · have h := ite_t h q69
                refine r_tin (tgt := 172) (k := 4) E (S5.1.inR _ _) q69 (Rk_vestingYear_dc.at 23 rfl) (by decide) (by decide) rfl (by decide) ?_
                refine u_al_n (x := x1) E (Rk_vestingYear_dc.at 66 rfl) hl rfl ?_
                obtain ⟨g52, h⟩ := ite_e h
                refine u_gI E zf_10_5 S5 g52 zw_1_202 (Rk_vestingYear_dc.at 67 rfl) ?_
                refine u_al_n (x := x1) E (Rk_vestingYear_dc.at 68 rfl) hl rfl ?_
                refine u_al_n (x := x0) E (Rk_vestingYear_dc.at 69 rfl) hl rfl ?_
                refine u_gR E zf_5_2 S5 g1 zw_2_34 (Rk_vestingYear_dc.at 70 rfl) ?_
                refine u_il (x := x5) E (Rk_vestingYear_dc.at 71 rfl) hl rfl ?_
                obtain ⟨g53, h⟩ := ite_e h
                obtain ⟨g54, h⟩ := ite_e h
                refine r_iald E S5 g53 g54 (Rk_vestingYear_dc.at 72 rfl) ?_
                obtain ⟨r55, er55, h⟩ := bd1_e h
                refine u_cVI (As := [.int (zO (M (M x0 2) x5))]) (rest := [.int (zO (M x1 5))]) E S5 zcw_yX10_bornIn zw_4_19 zw_4_20 zw_5_10 zck_10.1 rfl g52 (Wd_bornIn_c l G fu top L M x1 (M (M x0 2) x5) hx1 (S5.1.inR _ _) er55) (zrm_ok (by decide) (by decide)) ⟨Nat.le_refl 0, Nat.le_refl 0⟩ rfl (by simp [zR_cat, zcat_I, zcat_J, zcat_S]) hl.size rfl (Rk_vestingYear_dc.at 73 rfl) (fun H locs hr55 S56 => ?_)
                refine u_al_n (x := x1) E (Rk_vestingYear_dc.at 74 rfl) hl rfl ?_
                refine u_al_n (x := x0) E (Rk_vestingYear_dc.at 75 rfl) hl rfl ?_
                refine u_gR E zf_5_2 S56 g1 zw_2_34 (Rk_vestingYear_dc.at 76 rfl) ?_
                refine u_il (x := x5) E (Rk_vestingYear_dc.at 77 rfl) hl rfl ?_
                obtain ⟨g57, h⟩ := ite_e h
                refine r_iald E S56 g53 g57 (Rk_vestingYear_dc.at 78 rfl) ?_
                obtain ⟨r58, er58, h⟩ := bd1_e h
                refine u_cVI (As := [.int (zO (M (M x0 2) x5))]) (rest := [.int (zO r55), .int (zO (M x1 5))]) E S56 zcw_yX10_diedIn zw_4_27 zw_4_28 zw_5_4 zck_10.1 rfl g52 (Wd_diedIn_c l G fu top L M x1 (M (M x0 2) x5) hx1 (S56.1.inR _ _) er58) (zrm_ok (by decide) (by decide)) ⟨Nat.le_refl 0, Nat.le_refl 0⟩ rfl (by simp [zR_cat, zcat_I, zcat_J, zcat_S]) hl.size rfl (Rk_vestingYear_dc.at 79 rfl) (fun H locs hr58 S59 => ?_)
                refine u_al_n (x := x0) E (Rk_vestingYear_dc.at 80 rfl) hl rfl ?_
                refine u_gR E zf_5_1 S59 g1 zw_2_33 (Rk_vestingYear_dc.at 81 rfl) ?_
                refine u_il (x := x5) E (Rk_vestingYear_dc.at 82 rfl) hl rfl ?_
                obtain ⟨g60, h⟩ := ite_e h
                obtain ⟨g61, h⟩ := ite_e h
                refine r_iald E S59 g60 g61 (Rk_vestingYear_dc.at 83 rfl) ?_
                obtain ⟨r62, er62, h⟩ := bd1_e h
                refine u_cSI (As := [.int (zO (M x1 5)), .int (zO r55), .int (zO r58), .int (zO (M (M x0 1) x5))]) (rest := []) E S59 zcw_yX5_reached zw_5_7 zw_5_6 (Rk_reached_c l G fu top L M (M x1 5) r55 r58 (M (M x0 1) x5) (S5.1.inR _ _) hr55 hr58 (S59.1.inR _ _) er62) (zrm_ok (by decide) (by decide)) ⟨Nat.le_refl 0, Nat.le_refl 0⟩ rfl (Nat.zero_le 8) hl.size rfl (Rk_vestingYear_dc.at 84 rfl) (fun H locs hr62 S63 => ?_)
                refine u_ist (y := r62) (vs' := [some (zR G.2.2.1 x0), some (zR G.2.2.1 x1), some (.int (zO x2)), some (.int (zO x3)), some (.int (zO r62)), some (.int (zO x5)), some (.int (zO r4))]) E rfl (Rk_vestingYear_dc.at 85 rfl) hl (by decide) rfl (fun ls hl => ?_)
                refine r_goto (tgt := 266) E (Rk_vestingYear_dc.at 86 rfl) (by decide) ?_
                refine u_al_n (x := x0) E (Rk_vestingYear_dc.at 111 rfl) hl rfl ?_
                refine u_gR E zf_5_4 S63 g1 zw_2_36 (Rk_vestingYear_dc.at 112 rfl) ?_
                refine u_il (x := x5) E (Rk_vestingYear_dc.at 113 rfl) hl rfl ?_
                refine u_il (x := r62) E (Rk_vestingYear_dc.at 114 rfl) hl rfl ?_
                obtain ⟨g64, h⟩ := ite_e h
                obtain ⟨g65, h⟩ := ite_e h
                obtain ⟨M66, eM66, h⟩ := lt1_e h
                refine u_iast E eM66 S63 g64 g65 hr62 (Rk_vestingYear_dc.at 115 rfl) (fun H locs S67 => ?_)
                obtain ⟨v68, ev68, h⟩ := lt1_e h
                have hv68 := inR_eq ev68 (inR_w32 _)
                refine u_iinc (y := v68) (vs' := [some (zR G.2.2.1 x0), some (zR G.2.2.1 x1), some (.int (zO x2)), some (.int (zO x3)), some (.int (zO r62)), some (.int (zO v68)), some (.int (zO r4))]) E ev68 (Rk_vestingYear_dc.at 116 rfl) hl rfl (by decide) rfl (fun ls hl => ?_)
                refine r_goto (tgt := 6) E (Rk_vestingYear_dc.at 117 rfl) (by decide) ?_
                exact hk6 _ x0 x1 x2 x3 r62 v68 hx0 hx1 hx2 hx3 hr62 hv68 _ _ _ S67 (hl.sub (And.intro rfl (And.intro rfl (And.intro rfl (And.intro rfl (And.intro rfl (And.intro rfl True.intro))))))) h
              · have h := ite_f h q69
                by_cases q81 : (M (M x0 0) x5) = 5
                · have h := ite_t h q81
                  refine r_tin (tgt := 213) (k := 5) E (S5.1.inR _ _) q81 (Rk_vestingYear_dc.at 23 rfl) (by decide) (by decide) rfl (by decide) ?_
                  refine u_il (x := x4) E (Rk_vestingYear_dc.at 87 rfl) hl rfl ?_
                  refine r_if_ge (tgt := 223) E hx4 (Rk_vestingYear_dc.at 88 rfl) (by decide) (fun q => ?_) (fun q => ?_)
                  · have h := ite_t h q
                    refine u_il (x := x4) E (Rk_vestingYear_dc.at 89 rfl) hl rfl ?_
                    refine r_goto (tgt := 240) E (Rk_vestingYear_dc.at 90 rfl) (by decide) ?_
                    exact Rk_vestingYear_b240_w (x0 := x0) (x1 := x1) (x2 := x2) (x3 := x3) (x5 := x5) (y0 := x4) E hk6 hx0 hx1 hx2 hx3 hx5 hx4 S5 (hl.sub (And.intro rfl (And.intro rfl (And.intro rfl (And.intro rfl (And.intro rfl True.intro)))))) h
                  · have h := ite_f h q
                    refine u_al_n (x := x1) E (Rk_vestingYear_dc.at 91 rfl) hl rfl ?_
                    obtain ⟨g76, h⟩ := ite_e h
                    refine u_gI E zf_10_5 S5 g76 zw_1_202 (Rk_vestingYear_dc.at 92 rfl) ?_
                    refine u_il (x := x4) E (Rk_vestingYear_dc.at 93 rfl) hl rfl ?_
                    refine u_al_n (x := x0) E (Rk_vestingYear_dc.at 94 rfl) hl rfl ?_
                    refine u_gR E zf_5_1 S5 g1 zw_2_33 (Rk_vestingYear_dc.at 95 rfl) ?_
                    refine u_il (x := x5) E (Rk_vestingYear_dc.at 96 rfl) hl rfl ?_
                    obtain ⟨g77, h⟩ := ite_e h
                    obtain ⟨g78, h⟩ := ite_e h
                    refine r_iald E S5 g77 g78 (Rk_vestingYear_dc.at 97 rfl) ?_
                    refine r_iadd E (Rk_vestingYear_dc.at 98 rfl) ?_
                    obtain ⟨r79, er79, h⟩ := bd1_e h
                    refine u_cSI (As := [.int (zO (M x1 5)), .int (zO (w32 (x4 + (M (M x0 1) x5))))]) (rest := []) E S5 zcw_yX5_asOf zw_5_1 zw_5_0 (Rk_asOf_c l G fu top L M (M x1 5) (w32 (x4 + (M (M x0 1) x5))) (S5.1.inR _ _) (inR_w32 _) er79) (zrm_ok (by decide) (by decide)) ⟨Nat.le_refl 0, Nat.le_refl 0⟩ rfl (Nat.zero_le 8) hl.size rfl (Rk_vestingYear_dc.at 99 rfl) (fun H locs hr79 S80 => ?_)
                    exact Rk_vestingYear_b240_w (x0 := x0) (x1 := x1) (x2 := x2) (x3 := x3) (x5 := x5) (y0 := r79) E hk6 hx0 hx1 hx2 hx3 hx5 hr79 S80 (hl.sub (And.intro rfl (And.intro rfl (And.intro rfl (And.intro rfl (And.intro rfl True.intro)))))) h
                · have h := ite_f h q81
                  by_cases q89 : (M (M x0 0) x5) = 6
                  · have h := ite_t h q89
                    refine r_tin (tgt := 245) (k := 6) E (S5.1.inR _ _) q89 (Rk_vestingYear_dc.at 23 rfl) (by decide) (by decide) rfl (by decide) ?_
                    refine u_il (x := r4) E (Rk_vestingYear_dc.at 102 rfl) hl rfl ?_
                    refine u_il (x := x4) E (Rk_vestingYear_dc.at 103 rfl) hl rfl ?_
                    obtain ⟨r82, er82, h⟩ := bd1_e h
                    refine u_cSI (As := [.int (zO r4), .int (zO x4)]) (rest := []) E S5 zcw_yX5_later zw_5_12 zw_5_11 (Rk_later_c l G fu top L M r4 x4 hr4 hx4 er82) (zrm_ok (by decide) (by decide)) ⟨Nat.le_refl 0, Nat.le_refl 0⟩ rfl (Nat.zero_le 8) hl.size rfl (Rk_vestingYear_dc.at 104 rfl) (fun H locs hr82 S83 => ?_)
                    refine u_ist (y := r82) (vs' := [some (zR G.2.2.1 x0), some (zR G.2.2.1 x1), some (.int (zO x2)), some (.int (zO x3)), some (.int (zO r82)), some (.int (zO x5)), some (.int (zO r4))]) E rfl (Rk_vestingYear_dc.at 105 rfl) hl (by decide) rfl (fun ls hl => ?_)
                    refine r_goto (tgt := 266) E (Rk_vestingYear_dc.at 106 rfl) (by decide) ?_
                    refine u_al_n (x := x0) E (Rk_vestingYear_dc.at 111 rfl) hl rfl ?_
                    refine u_gR E zf_5_4 S83 g1 zw_2_36 (Rk_vestingYear_dc.at 112 rfl) ?_
                    refine u_il (x := x5) E (Rk_vestingYear_dc.at 113 rfl) hl rfl ?_
                    refine u_il (x := r82) E (Rk_vestingYear_dc.at 114 rfl) hl rfl ?_
                    obtain ⟨g84, h⟩ := ite_e h
                    obtain ⟨g85, h⟩ := ite_e h
                    obtain ⟨M86, eM86, h⟩ := lt1_e h
                    refine u_iast E eM86 S83 g84 g85 hr82 (Rk_vestingYear_dc.at 115 rfl) (fun H locs S87 => ?_)
                    obtain ⟨v88, ev88, h⟩ := lt1_e h
                    have hv88 := inR_eq ev88 (inR_w32 _)
                    refine u_iinc (y := v88) (vs' := [some (zR G.2.2.1 x0), some (zR G.2.2.1 x1), some (.int (zO x2)), some (.int (zO x3)), some (.int (zO r82)), some (.int (zO v88)), some (.int (zO r4))]) E ev88 (Rk_vestingYear_dc.at 116 rfl) hl rfl (by decide) rfl (fun ls hl => ?_)
                    refine r_goto (tgt := 6) E (Rk_vestingYear_dc.at 117 rfl) (by decide) ?_
                    exact hk6 _ x0 x1 x2 x3 r82 v88 hx0 hx1 hx2 hx3 hr82 hv88 _ _ _ S87 (hl.sub (And.intro rfl (And.intro rfl (And.intro rfl (And.intro rfl (And.intro rfl (And.intro rfl True.intro))))))) h
                  · have h := ite_f h q89
                    refine r_tout (tgt := 257) E (S5.1.inR _ _) (by omega) (Rk_vestingYear_dc.at 23 rfl) (by decide) ?_
                    refine u_il (x := r4) E (Rk_vestingYear_dc.at 107 rfl) hl rfl ?_
                    refine u_il (x := x4) E (Rk_vestingYear_dc.at 108 rfl) hl rfl ?_
                    obtain ⟨r90, er90, h⟩ := bd1_e h
                    refine u_cSI (As := [.int (zO r4), .int (zO x4)]) (rest := []) E S5 zcw_yX5_earlier zw_5_15 zw_5_14 (Rk_earlier_c l G fu top L M r4 x4 hr4 hx4 er90) (zrm_ok (by decide) (by decide)) ⟨Nat.le_refl 0, Nat.le_refl 0⟩ rfl (Nat.zero_le 8) hl.size rfl (Rk_vestingYear_dc.at 109 rfl) (fun H locs hr90 S91 => ?_)
                    refine u_ist (y := r90) (vs' := [some (zR G.2.2.1 x0), some (zR G.2.2.1 x1), some (.int (zO x2)), some (.int (zO x3)), some (.int (zO r90)), some (.int (zO x5)), some (.int (zO r4))]) E rfl (Rk_vestingYear_dc.at 110 rfl) hl (by decide) rfl (fun ls hl => ?_)
                    refine u_al_n (x := x0) E (Rk_vestingYear_dc.at 111 rfl) hl rfl ?_
                    refine u_gR E zf_5_4 S91 g1 zw_2_36 (Rk_vestingYear_dc.at 112 rfl) ?_
                    refine u_il (x := x5) E (Rk_vestingYear_dc.at 113 rfl) hl rfl ?_
                    refine u_il (x := r90) E (Rk_vestingYear_dc.at 114 rfl) hl rfl ?_
                    obtain ⟨g92, h⟩ := ite_e h
                    obtain ⟨g93, h⟩ := ite_e h
                    obtain ⟨M94, eM94, h⟩ := lt1_e h
                    refine u_iast E eM94 S91 g92 g93 hr90 (Rk_vestingYear_dc.at 115 rfl) (fun H locs S95 => ?_)
                    obtain ⟨v96, ev96, h⟩ := lt1_e h
                    have hv96 := inR_eq ev96 (inR_w32 _)
                    refine u_iinc (y := v96) (vs' := [some (zR G.2.2.1 x0), some (zR G.2.2.1 x1), some (.int (zO x2)), some (.int (zO x3)), some (.int (zO r90)), some (.int (zO v96)), some (.int (zO r4))]) E ev96 (Rk_vestingYear_dc.at 116 rfl) hl rfl (by decide) rfl (fun ls hl => ?_)
                    refine r_goto (tgt := 6) E (Rk_vestingYear_dc.at 117 rfl) (by decide) ?_
                    exact hk6 _ x0 x1 x2 x3 r90 v96 hx0 hx1 hx2 hx3 hr90 hv96 _ _ _ S95 (hl.sub (And.intro rfl (And.intro rfl (And.intro rfl (And.intro rfl (And.intro rfl (And.intro rfl True.intro))))))) h
    · have h := ite_f h q
      exact Rk_vestingYear_b281_w (x2 := x2) (x4 := x4)  E hx2 hx4 S (hl.sub (And.intro rfl (And.intro rfl True.intro))) h
  · have h := ite_f h q
    exact Rk_vestingYear_b281_w (x2 := x2) (x4 := x4)  E hx2 hx4 S (hl.sub (And.intro rfl (And.intro rfl True.intro))) h
theorem Rk_vestingYear_l6_w (E : zEv p m c cX5_vestingYear 7 s args RX5 meth (some .int) G) {res : (zM × Int)} : ∀ (n : Nat) (M : zM) (x0 : Int) (x1 : Int) (x2 : Int) (x3 : Int) (x4 : Int) (x5 : Int), InR x0 → InR x1 → InR x2 → InR x3 → InR x4 → InR x5 → ∀ (H : Heap) (locs : List Loc) (ls : Array Slot), zS G top L M s H locs → zLV ls 7 [some (zR G.2.2.1 x0), some (zR G.2.2.1 x1), some (.int (zO x2)), some (.int (zO x3)), some (.int (zO x4)), some (.int (zO x5)), none] → Rk_vestingYear_l6 fu L n M x0 x1 x2 x3 x4 x5 = some res → W p l e (zrm 3 0 0) s m args below meth c H locs 0 0 (MQ below (zQ G top L res.1 (some (.int (zO res.2))) (InR res.2)) args s 0 0 (zA G)) (F0 m 6 ls [])
  | 0, _, _, _, _, _, _, _ => fun _ _ _ _ _ _ _ _ _ _ _ h => (by cases h)
  | n + 1, M, x0, x1, x2, x3, x4, x5 => fun hx0 hx1 hx2 hx3 hx4 hx5 H locs ls S hl h => Rk_vestingYear_s6_w E (fun M x0 x1 x2 x3 x4 x5 hx0 hx1 hx2 hx3 hx4 hx5 H locs ls S hl h => Rk_vestingYear_l6_w E n M x0 x1 x2 x3 x4 x5 hx0 hx1 hx2 hx3 hx4 hx5 H locs ls S hl h) hx0 hx1 hx2 hx3 hx4 hx5 S hl h
theorem Rk_vestingYear_w (E : zEv p m c cX5_vestingYear 7 s args RX5 meth (some .int) G) {res : (zM × Int)} {M : zM} {a0 : Int} {a1 : Int} {a2 : Int} {a3 : Int} {H : Heap} {locs : List Loc} {ls : Array Slot} (ha0 : InR a0) (ha1 : InR a1) (ha2 : InR a2) (ha3 : InR a3) (S : zS G top L M s H locs) (hl : zLV ls 7 [some (zR G.2.2.1 a0), some (zR G.2.2.1 a1), some (.int (zO a2)), some (.int (zO a3)), none, none, none]) (h : Rk_vestingYear fu L M a0 a1 a2 a3 = some res) : W p l e (zrm 3 0 0) s m args below meth c H locs 0 0 (MQ below (zQ G top L res.1 (some (.int (zO res.2))) (InR res.2)) args s 0 0 (zA G)) (F0 m 0 ls []) := by
  unfold Rk_vestingYear at h
  refine r_iconst E (Rk_vestingYear_dc.at 0 rfl) ?_
  refine u_ist (y := (-1)) (vs' := [some (zR G.2.2.1 a0), some (zR G.2.2.1 a1), some (.int (zO a2)), some (.int (zO a3)), some (.int (zO (-1))), none, none]) E rfl (Rk_vestingYear_dc.at 1 rfl) hl (by decide) rfl (fun ls hl => ?_)
  refine r_iconst E (Rk_vestingYear_dc.at 2 rfl) ?_
  refine u_ist (y := 0) (vs' := [some (zR G.2.2.1 a0), some (zR G.2.2.1 a1), some (.int (zO a2)), some (.int (zO a3)), some (.int (zO (-1))), some (.int (zO 0)), none]) E rfl (Rk_vestingYear_dc.at 3 rfl) hl (by decide) rfl (fun ls hl => ?_)
  exact Rk_vestingYear_l6_w E fu _ a0 a1 a2 a3 (-1) 0 ha0 ha1 ha2 ha3 (show InR (-1) by decide) (show InR 0 by decide) _ _ _ S (hl.sub (And.intro rfl (And.intro rfl (And.intro rfl (And.intro rfl (And.intro rfl (And.intro rfl True.intro))))))) h
theorem Rk_vestingYear_c (l : Launch) (G : zG) (fu : Nat) (top : Int) (L : zL) (M : zM) (a0 : Int) (a1 : Int) (a2 : Int) (a3 : Int) {res : (zM × Int)} (ha0 : InR a0) (ha1 : InR a1) (ha2 : InR a2) (ha3 : InR a3) (h : Rk_vestingYear fu L M a0 a1 a2 a3 = some res) : Met l yX5_vestingYear (Cond.code yX5_vestingYear cX5_vestingYear 7 (some .int) :: zTB) (zrm 3 0 0) (va_Pc [zR G.2.2.1 a0, zR G.2.2.1 a1, .int (zO a2), .int (zO a3)] (zPre G top L M)) (zQ G top L res.1 (some (.int (zO res.2))) (InR res.2)) 0 0 (zA G) :=
  z_met (by decide +kernel) (by simp [zR_cat, zcat_I, zcat_S]) (Nat.le_of_ble_eq_true rfl) fun p e s m below meth c ls E hn S hl => Rk_vestingYear_w E ha0 ha1 ha2 ha3 S (hl.sub (And.intro rfl (And.intro rfl (And.intro rfl (And.intro rfl True.intro))))) h
end
theorem Wt_firstYear_dc : zDL cX9_firstYear [(0, .iconst (-1), 1, 1), (1, .istore_n 1, 1, 2), (2, .iconst 0, 1, 3), (3, .istore_n 2, 1, 4), (4, .iload_n 2, 1, 5), (5, .aload_n 0, 1, 6), (6, .getfield 31, 3, 9), (9, .if_icmp .ge 46, 3, 12), (12, .iload_n 2, 1, 13), (13, .bipush 24, 2, 15), (15, .if_icmp .ge 40, 3, 18), (18, .aload_n 0, 1, 19), (19, .getfield 9, 3, 22), (22, .iload_n 2, 1, 23), (23, .iaload, 1, 24), (24, .ifCond .lt 25, 3, 27), (27, .iload_n 1, 1, 28), (28, .iconst (-1), 1, 29), (29, .if_icmp .eq 13, 3, 32), (32, .aload_n 0, 1, 33), (33, .getfield 9, 3, 36), (36, .iload_n 2, 1, 37), (37, .iaload, 1, 38), (38, .iload_n 1, 1, 39), (39, .if_icmp .ge 10, 3, 42), (42, .aload_n 0, 1, 43), (43, .getfield 9, 3, 46), (46, .iload_n 2, 1, 47), (47, .iaload, 1, 48), (48, .istore_n 1, 1, 49), (49, .iinc 2 1, 3, 52), (52, .goto (-48), 3, 55), (55, .iload_n 1, 1, 56), (56, .ireturn, 1, 57)] := zDL.of (by decide +kernel)
section
variable {p : Program} {l : Launch} {e : Env} {s : State} {m : MethodId} {args : Array Value} {below : List Frame} {meth : Method} {c : Code} {G : zG} {top : Int} {L : zL} {fu : Nat}
theorem Wt_firstYear_s4_w (E : zEv p m c cX9_firstYear 3 s args RX9 meth (some .int) G) {res : Int} {k4 : zM → Int → Int → Int → Option Int} (hk4 : ∀ (M : zM) (x0 : Int) (x1 : Int) (x2 : Int), InR x0 → InR x1 → InR x2 → ∀ (H : Heap) (locs : List Loc) (ls : Array Slot), zS G top L M s H locs → zLV ls 3 [some (zR G.2.2.1 x0), some (.int (zO x1)), some (.int (zO x2))] → k4 M x0 x1 x2 = some res → W p l e (zrm 1 0 0) s m args below meth c H locs 0 0 (MQ below (zQ G top L M (some (.int (zO res))) (InR res)) args s 0 0 (zA G)) (F0 m 4 ls [])) {M : zM} {x0 : Int} {x1 : Int} {x2 : Int} {H : Heap} {locs : List Loc} {ls : Array Slot} (hx0 : InR x0) (hx1 : InR x1) (hx2 : InR x2) (S : zS G top L M s H locs) (hl : zLV ls 3 [some (zR G.2.2.1 x0), some (.int (zO x1)), some (.int (zO x2))]) (h : Wt_firstYear_s4 fu k4 L M x0 x1 x2 = some res) : W p l e (zrm 1 0 0) s m args below meth c H locs 0 0 (MQ below (zQ G top L M (some (.int (zO res))) (InR res)) args s 0 0 (zA G)) (F0 m 4 ls []) := by
  unfold Wt_firstYear_s4 at h
  refine u_il_n (x := x2) E (Wt_firstYear_dc.at 4 rfl) hl rfl ?_
  refine u_al_n (x := x0) E (Wt_firstYear_dc.at 5 rfl) hl rfl ?_
  obtain ⟨g1, h⟩ := ite_e h
  refine u_gI E zf_9_2 S g1 zw_2_62 (Wt_firstYear_dc.at 6 rfl) ?_
  refine r_icmp_ge (tgt := 55) E hx2 (S.1.inR _ _) (Wt_firstYear_dc.at 7 rfl) (by decide) (fun q => ?_) (fun q => ?_)
  · have h := ite_t h q
    refine u_il_n (x := x2) E (Wt_firstYear_dc.at 8 rfl) hl rfl ?_
    refine r_bipush E (Wt_firstYear_dc.at 9 rfl) rfl ?_
    refine r_icmp_ge (tgt := 55) E hx2 (show InR 24 by decide) (Wt_firstYear_dc.at 10 rfl) (by decide) (fun q => ?_) (fun q => ?_)
    · have h := ite_t h q
      refine u_al_n (x := x0) E (Wt_firstYear_dc.at 11 rfl) hl rfl ?_
      refine u_gR E zf_9_1 S g1 zw_2_61 (Wt_firstYear_dc.at 12 rfl) ?_
      refine u_il_n (x := x2) E (Wt_firstYear_dc.at 13 rfl) hl rfl ?_
      obtain ⟨g2, h⟩ := ite_e h
      obtain ⟨g3, h⟩ := ite_e h
      refine r_iald E S g2 g3 (Wt_firstYear_dc.at 14 rfl) ?_
      refine r_if_lt (tgt := 49) E (S.1.inR _ _) (Wt_firstYear_dc.at 15 rfl) (by decide) (fun q => ?_) (fun q => ?_)
      · have h := ite_t h q
        obtain ⟨v4, ev4, h⟩ := lt1_e h
        have hv4 := inR_eq ev4 (inR_w32 _)
        refine u_iinc (y := v4) (vs' := [some (zR G.2.2.1 x0), some (.int (zO x1)), some (.int (zO v4))]) E ev4 (Wt_firstYear_dc.at 30 rfl) hl rfl (by decide) rfl (fun ls hl => ?_)
        refine r_goto (tgt := 4) E (Wt_firstYear_dc.at 31 rfl) (by decide) ?_
        exact hk4 _ x0 x1 v4 hx0 hx1 hv4 _ _ _ S (hl.sub (And.intro rfl (And.intro rfl (And.intro rfl True.intro)))) h
      · have h := ite_f h q
        refine u_il_n (x := x1) E (Wt_firstYear_dc.at 16 rfl) hl rfl ?_
        refine r_iconst E (Wt_firstYear_dc.at 17 rfl) ?_
        refine r_icmp_eq (tgt := 42) E hx1 (show InR (-1) by decide) (Wt_firstYear_dc.at 18 rfl) (by decide) (fun q => ?_) (fun q => ?_)
        · have h := ite_t h q
          refine u_al_n (x := x0) E (Wt_firstYear_dc.at 25 rfl) hl rfl ?_
          refine u_gR E zf_9_1 S g1 zw_2_61 (Wt_firstYear_dc.at 26 rfl) ?_
          refine u_il_n (x := x2) E (Wt_firstYear_dc.at 27 rfl) hl rfl ?_
          obtain ⟨g5, h⟩ := ite_e h
          refine r_iald E S g2 g5 (Wt_firstYear_dc.at 28 rfl) ?_
          obtain ⟨v6, ev6, h⟩ := lt1_e h
          have hv6 := inR_eq ev6 (S.1.inR _ _)
          refine u_ist_n (y := v6) (vs' := [some (zR G.2.2.1 x0), some (.int (zO v6)), some (.int (zO x2))]) E ev6 (Wt_firstYear_dc.at 29 rfl) hl (by decide) rfl (fun ls hl => ?_)
          obtain ⟨v7, ev7, h⟩ := lt1_e h
          have hv7 := inR_eq ev7 (inR_w32 _)
          refine u_iinc (y := v7) (vs' := [some (zR G.2.2.1 x0), some (.int (zO v6)), some (.int (zO v7))]) E ev7 (Wt_firstYear_dc.at 30 rfl) hl rfl (by decide) rfl (fun ls hl => ?_)
          refine r_goto (tgt := 4) E (Wt_firstYear_dc.at 31 rfl) (by decide) ?_
          exact hk4 _ x0 v6 v7 hx0 hv6 hv7 _ _ _ S (hl.sub (And.intro rfl (And.intro rfl (And.intro rfl True.intro)))) h
        · have h := ite_f h q
          refine u_al_n (x := x0) E (Wt_firstYear_dc.at 19 rfl) hl rfl ?_
          refine u_gR E zf_9_1 S g1 zw_2_61 (Wt_firstYear_dc.at 20 rfl) ?_
          refine u_il_n (x := x2) E (Wt_firstYear_dc.at 21 rfl) hl rfl ?_
          obtain ⟨g8, h⟩ := ite_e h
          refine r_iald E S g2 g8 (Wt_firstYear_dc.at 22 rfl) ?_
          refine u_il_n (x := x1) E (Wt_firstYear_dc.at 23 rfl) hl rfl ?_
          refine r_icmp_ge (tgt := 49) E (S.1.inR _ _) hx1 (Wt_firstYear_dc.at 24 rfl) (by decide) (fun q => ?_) (fun q => ?_)
          · have h := ite_t h q
            refine u_al_n (x := x0) E (Wt_firstYear_dc.at 25 rfl) hl rfl ?_
            refine u_gR E zf_9_1 S g1 zw_2_61 (Wt_firstYear_dc.at 26 rfl) ?_
            refine u_il_n (x := x2) E (Wt_firstYear_dc.at 27 rfl) hl rfl ?_
            obtain ⟨g9, h⟩ := ite_e h
            refine r_iald E S g2 g9 (Wt_firstYear_dc.at 28 rfl) ?_
            obtain ⟨v10, ev10, h⟩ := lt1_e h
            have hv10 := inR_eq ev10 (S.1.inR _ _)
            refine u_ist_n (y := v10) (vs' := [some (zR G.2.2.1 x0), some (.int (zO v10)), some (.int (zO x2))]) E ev10 (Wt_firstYear_dc.at 29 rfl) hl (by decide) rfl (fun ls hl => ?_)
            obtain ⟨v11, ev11, h⟩ := lt1_e h
            have hv11 := inR_eq ev11 (inR_w32 _)
            refine u_iinc (y := v11) (vs' := [some (zR G.2.2.1 x0), some (.int (zO v10)), some (.int (zO v11))]) E ev11 (Wt_firstYear_dc.at 30 rfl) hl rfl (by decide) rfl (fun ls hl => ?_)
            refine r_goto (tgt := 4) E (Wt_firstYear_dc.at 31 rfl) (by decide) ?_
            exact hk4 _ x0 v10 v11 hx0 hv10 hv11 _ _ _ S (hl.sub (And.intro rfl (And.intro rfl (And.intro rfl True.intro)))) h
          · have h := ite_f h q
            obtain ⟨v12, ev12, h⟩ := lt1_e h
            have hv12 := inR_eq ev12 (inR_w32 _)
            refine u_iinc (y := v12) (vs' := [some (zR G.2.2.1 x0), some (.int (zO x1)), some (.int (zO v12))]) E ev12 (Wt_firstYear_dc.at 30 rfl) hl rfl (by decide) rfl (fun ls hl => ?_)
            refine r_goto (tgt := 4) E (Wt_firstYear_dc.at 31 rfl) (by decide) ?_
            exact hk4 _ x0 x1 v12 hx0 hx1 hv12 _ _ _ S (hl.sub (And.intro rfl (And.intro rfl (And.intro rfl True.intro)))) h
    · have h := ite_f h q
      refine u_il_n (x := x1) E (Wt_firstYear_dc.at 32 rfl) hl rfl ?_
      cases h
      exact r_iret E S hx1 (Wt_firstYear_dc.at 33 rfl)
  · have h := ite_f h q
    refine u_il_n (x := x1) E (Wt_firstYear_dc.at 32 rfl) hl rfl ?_
    cases h
    exact r_iret E S hx1 (Wt_firstYear_dc.at 33 rfl)
theorem Wt_firstYear_l4_w (E : zEv p m c cX9_firstYear 3 s args RX9 meth (some .int) G) {res : Int} : ∀ (n : Nat) (M : zM) (x0 : Int) (x1 : Int) (x2 : Int), InR x0 → InR x1 → InR x2 → ∀ (H : Heap) (locs : List Loc) (ls : Array Slot), zS G top L M s H locs → zLV ls 3 [some (zR G.2.2.1 x0), some (.int (zO x1)), some (.int (zO x2))] → Wt_firstYear_l4 fu L n M x0 x1 x2 = some res → W p l e (zrm 1 0 0) s m args below meth c H locs 0 0 (MQ below (zQ G top L M (some (.int (zO res))) (InR res)) args s 0 0 (zA G)) (F0 m 4 ls [])
  | 0, _, _, _, _ => fun _ _ _ _ _ _ _ _ h => (by cases h)
  | n + 1, M, x0, x1, x2 => fun hx0 hx1 hx2 H locs ls S hl h => Wt_firstYear_s4_w E (fun M x0 x1 x2 hx0 hx1 hx2 H locs ls S hl h => Wt_firstYear_l4_w E n M x0 x1 x2 hx0 hx1 hx2 H locs ls S hl h) hx0 hx1 hx2 S hl h
theorem Wt_firstYear_w (E : zEv p m c cX9_firstYear 3 s args RX9 meth (some .int) G) {res : Int} {M : zM} {a0 : Int} {H : Heap} {locs : List Loc} {ls : Array Slot} (ha0 : InR a0) (S : zS G top L M s H locs) (hl : zLV ls 3 [some (zR G.2.2.1 a0), none, none]) (h : Wt_firstYear fu L M a0 = some res) : W p l e (zrm 1 0 0) s m args below meth c H locs 0 0 (MQ below (zQ G top L M (some (.int (zO res))) (InR res)) args s 0 0 (zA G)) (F0 m 0 ls []) := by
  unfold Wt_firstYear at h
  refine r_iconst E (Wt_firstYear_dc.at 0 rfl) ?_
  refine u_ist_n (y := (-1)) (vs' := [some (zR G.2.2.1 a0), some (.int (zO (-1))), none]) E rfl (Wt_firstYear_dc.at 1 rfl) hl (by decide) rfl (fun ls hl => ?_)
  refine r_iconst E (Wt_firstYear_dc.at 2 rfl) ?_
  refine u_ist_n (y := 0) (vs' := [some (zR G.2.2.1 a0), some (.int (zO (-1))), some (.int (zO 0))]) E rfl (Wt_firstYear_dc.at 3 rfl) hl (by decide) rfl (fun ls hl => ?_)
  exact Wt_firstYear_l4_w E fu _ a0 (-1) 0 ha0 (show InR (-1) by decide) (show InR 0 by decide) _ _ _ S (hl.sub (And.intro rfl (And.intro rfl (And.intro rfl True.intro)))) h
theorem Wt_firstYear_c (l : Launch) (G : zG) (fu : Nat) (top : Int) (L : zL) (M : zM) (a0 : Int) {res : Int} (ha0 : InR a0) (h : Wt_firstYear fu L M a0 = some res) : Met l yX9_firstYear (Cond.code yX9_firstYear cX9_firstYear 3 (some .int) :: zTB) (zrm 1 0 0) (va_Pc [zR G.2.2.1 a0] (zPre G top L M)) (zQ G top L M (some (.int (zO res))) (InR res)) 0 0 (zA G) :=
  z_met (by decide +kernel) (by simp [zR_cat, zcat_I, zcat_S]) (Nat.le_of_ble_eq_true rfl) fun p e s m below meth c ls E hn S hl => Wt_firstYear_w E ha0 S (hl.sub (And.intro rfl True.intro)) h
end
theorem Wt_close_dc : zDL cX9_close [(0, .aload_n 0, 1, 1), (1, .aload_n 0, 1, 2), (2, .getfield 47, 3, 5), (5, .ifCond .eq 7, 3, 8), (8, .iconst (-1), 1, 9), (9, .goto 7, 3, 12), (12, .aload_n 0, 1, 13), (13, .invokevirtual 85, 3, 16), (16, .putfield 89, 3, 19), (19, .iconst 0, 1, 20), (20, .istore_n 2, 1, 21), (21, .aload_n 0, 1, 22), (22, .getfield 89, 3, 25), (25, .iconst (-1), 1, 26), (26, .if_icmp .eq 43, 3, 29), (29, .iload_n 2, 1, 30), (30, .aload_n 0, 1, 31), (31, .getfield 31, 3, 34), (34, .if_icmp .ge 35, 3, 37), (37, .iload_n 2, 1, 38), (38, .bipush 24, 2, 40), (40, .if_icmp .ge 29, 3, 43), (43, .aload_n 1, 1, 44), (44, .iload_n 2, 1, 45), (45, .invokevirtual 71, 3, 48), (48, .aload_n 0, 1, 49), (49, .getfield 89, 3, 52), (52, .if_icmp .le 11, 3, 55), (55, .aload_n 0, 1, 56), (56, .getfield 9, 3, 59), (59, .iload_n 2, 1, 60), (60, .bipush (-3), 2, 62), (62, .iastore, 1, 63), (63, .iinc 2 1, 3, 66), (66, .goto (-45), 3, 69), (69, .return_, 1, 70)] := zDL.of (by decide +kernel)
section
variable {p : Program} {l : Launch} {e : Env} {s : State} {m : MethodId} {args : Array Value} {below : List Frame} {meth : Method} {c : Code} {G : zG} {top : Int} {L : zL} {fu : Nat}
theorem Wt_close_s21_w (E : zEv p m c cX9_close 3 s args RX9 meth none G) {res : zM} {k21 : zM → Int → Int → Int → Option zM} (hk21 : ∀ (M : zM) (x0 : Int) (x1 : Int) (x2 : Int), InR x0 → InR x1 → InR x2 → ∀ (H : Heap) (locs : List Loc) (ls : Array Slot), zS G top L M s H locs → zLV ls 3 [some (zR G.2.2.1 x0), some (zR G.2.2.1 x1), some (.int (zO x2))] → k21 M x0 x1 x2 = some res → W p l e (zrm 2 0 0) s m args below meth c H locs 0 0 (MQ below (zQ G top L res none True) args s 0 0 (zA G)) (F0 m 21 ls [])) {M : zM} {x0 : Int} {x1 : Int} {x2 : Int} {H : Heap} {locs : List Loc} {ls : Array Slot} (hx0 : InR x0) (hx1 : InR x1) (hx2 : InR x2) (S : zS G top L M s H locs) (hl : zLV ls 3 [some (zR G.2.2.1 x0), some (zR G.2.2.1 x1), some (.int (zO x2))]) (h : Wt_close_s21 fu k21 L M x0 x1 x2 = some res) : W p l e (zrm 2 0 0) s m args below meth c H locs 0 0 (MQ below (zQ G top L res none True) args s 0 0 (zA G)) (F0 m 21 ls []) := by
  unfold Wt_close_s21 at h
  refine u_al_n (x := x0) E (Wt_close_dc.at 11 rfl) hl rfl ?_
  obtain ⟨g6, h⟩ := ite_e h
  refine u_gI E zf_9_5 S g6 zw_2_65 (Wt_close_dc.at 12 rfl) ?_
  refine r_iconst E (Wt_close_dc.at 13 rfl) ?_
  refine r_icmp_eq (tgt := 69) E (S.1.inR _ _) (show InR (-1) by decide) (Wt_close_dc.at 14 rfl) (by decide) (fun q => ?_) (fun q => ?_)
  · have h := ite_t h q
    cases h
    exact r_vret E S True.intro (Wt_close_dc.at 35 rfl)
  · have h := ite_f h q
    refine u_il_n (x := x2) E (Wt_close_dc.at 15 rfl) hl rfl ?_
    refine u_al_n (x := x0) E (Wt_close_dc.at 16 rfl) hl rfl ?_
    refine u_gI E zf_9_2 S g6 zw_2_62 (Wt_close_dc.at 17 rfl) ?_
    refine r_icmp_ge (tgt := 69) E hx2 (S.1.inR _ _) (Wt_close_dc.at 18 rfl) (by decide) (fun q => ?_) (fun q => ?_)
    · have h := ite_t h q
      refine u_il_n (x := x2) E (Wt_close_dc.at 19 rfl) hl rfl ?_
      refine r_bipush E (Wt_close_dc.at 20 rfl) rfl ?_
      refine r_icmp_ge (tgt := 69) E hx2 (show InR 24 by decide) (Wt_close_dc.at 21 rfl) (by decide) (fun q => ?_) (fun q => ?_)
      · have h := ite_t h q
        refine u_al_n (x := x1) E (Wt_close_dc.at 22 rfl) hl rfl ?_
        refine u_il_n (x := x2) E (Wt_close_dc.at 23 rfl) hl rfl ?_
        obtain ⟨g7, h⟩ := ite_e h
        obtain ⟨r8, er8, h⟩ := bd1_e h
        refine u_cVI (As := [.int (zO x2)]) (rest := []) E S zcw_yX10_bornIn zw_4_19 zw_4_20 zw_4_231 zck_10.1 rfl g7 (Wd_bornIn_c l G fu top L M x1 x2 hx1 hx2 er8) (zrm_ok (by decide) (by decide)) ⟨Nat.le_refl 0, Nat.le_refl 0⟩ rfl (Nat.zero_le 8) hl.size rfl (Wt_close_dc.at 24 rfl) (fun H locs hr8 S9 => ?_)
        refine u_al_n (x := x0) E (Wt_close_dc.at 25 rfl) hl rfl ?_
        refine u_gI E zf_9_5 S9 g6 zw_2_65 (Wt_close_dc.at 26 rfl) ?_
        refine r_icmp_le (tgt := 63) E hr8 (S9.1.inR _ _) (Wt_close_dc.at 27 rfl) (by decide) (fun q => ?_) (fun q => ?_)
        · have h := ite_t h q
          refine u_al_n (x := x0) E (Wt_close_dc.at 28 rfl) hl rfl ?_
          refine u_gR E zf_9_1 S9 g6 zw_2_61 (Wt_close_dc.at 29 rfl) ?_
          refine u_il_n (x := x2) E (Wt_close_dc.at 30 rfl) hl rfl ?_
          refine r_bipush E (Wt_close_dc.at 31 rfl) rfl ?_
          obtain ⟨g10, h⟩ := ite_e h
          obtain ⟨g11, h⟩ := ite_e h
          obtain ⟨M12, eM12, h⟩ := lt1_e h
          refine u_iast E eM12 S9 g10 g11 (show InR (-3) by decide) (Wt_close_dc.at 32 rfl) (fun H locs S13 => ?_)
          obtain ⟨v14, ev14, h⟩ := lt1_e h
          have hv14 := inR_eq ev14 (inR_w32 _)
          refine u_iinc (y := v14) (vs' := [some (zR G.2.2.1 x0), some (zR G.2.2.1 x1), some (.int (zO v14))]) E ev14 (Wt_close_dc.at 33 rfl) hl rfl (by decide) rfl (fun ls hl => ?_)
          refine r_goto (tgt := 21) E (Wt_close_dc.at 34 rfl) (by decide) ?_
          exact hk21 _ x0 x1 v14 hx0 hx1 hv14 _ _ _ S13 (hl.sub (And.intro rfl (And.intro rfl (And.intro rfl True.intro)))) h
        · have h := ite_f h q
          obtain ⟨v15, ev15, h⟩ := lt1_e h
          have hv15 := inR_eq ev15 (inR_w32 _)
          refine u_iinc (y := v15) (vs' := [some (zR G.2.2.1 x0), some (zR G.2.2.1 x1), some (.int (zO v15))]) E ev15 (Wt_close_dc.at 33 rfl) hl rfl (by decide) rfl (fun ls hl => ?_)
          refine r_goto (tgt := 21) E (Wt_close_dc.at 34 rfl) (by decide) ?_
          exact hk21 _ x0 x1 v15 hx0 hx1 hv15 _ _ _ S9 (hl.sub (And.intro rfl (And.intro rfl (And.intro rfl True.intro)))) h
      · have h := ite_f h q
        cases h
        exact r_vret E S True.intro (Wt_close_dc.at 35 rfl)
    · have h := ite_f h q
      cases h
      exact r_vret E S True.intro (Wt_close_dc.at 35 rfl)
theorem Wt_close_l21_w (E : zEv p m c cX9_close 3 s args RX9 meth none G) {res : zM} : ∀ (n : Nat) (M : zM) (x0 : Int) (x1 : Int) (x2 : Int), InR x0 → InR x1 → InR x2 → ∀ (H : Heap) (locs : List Loc) (ls : Array Slot), zS G top L M s H locs → zLV ls 3 [some (zR G.2.2.1 x0), some (zR G.2.2.1 x1), some (.int (zO x2))] → Wt_close_l21 fu L n M x0 x1 x2 = some res → W p l e (zrm 2 0 0) s m args below meth c H locs 0 0 (MQ below (zQ G top L res none True) args s 0 0 (zA G)) (F0 m 21 ls [])
  | 0, _, _, _, _ => fun _ _ _ _ _ _ _ _ h => (by cases h)
  | n + 1, M, x0, x1, x2 => fun hx0 hx1 hx2 H locs ls S hl h => Wt_close_s21_w E (fun M x0 x1 x2 hx0 hx1 hx2 H locs ls S hl h => Wt_close_l21_w E n M x0 x1 x2 hx0 hx1 hx2 H locs ls S hl h) hx0 hx1 hx2 S hl h
theorem Wt_close_w (E : zEv p m c cX9_close 3 s args RX9 meth none G) {res : zM} {M : zM} {a0 : Int} {a1 : Int} {H : Heap} {locs : List Loc} {ls : Array Slot} (ha0 : InR a0) (ha1 : InR a1) (S : zS G top L M s H locs) (hl : zLV ls 3 [some (zR G.2.2.1 a0), some (zR G.2.2.1 a1), none]) (h : Wt_close fu L M a0 a1 = some res) : W p l e (zrm 2 0 0) s m args below meth c H locs 0 0 (MQ below (zQ G top L res none True) args s 0 0 (zA G)) (F0 m 0 ls []) := by
  unfold Wt_close at h
  refine u_al_n (x := a0) E (Wt_close_dc.at 0 rfl) hl rfl ?_
  refine u_al_n (x := a0) E (Wt_close_dc.at 1 rfl) hl rfl ?_
  obtain ⟨g1, h⟩ := ite_e h
  refine u_gI E zf_9_7 S g1 zw_2_69 (Wt_close_dc.at 2 rfl) ?_
  refine r_if_eq (tgt := 12) E (S.1.inR _ _) (Wt_close_dc.at 3 rfl) (by decide) (fun q => ?_) (fun q => ?_)
  · have h := ite_t h q
    refine u_al_n (x := a0) E (Wt_close_dc.at 6 rfl) hl rfl ?_
    obtain ⟨r2, er2, h⟩ := bd1_e h
    refine u_cVI (As := []) (rest := [zR G.2.2.1 a0]) E S zcw_yX9_firstYear zw_5_23 zq_2_15 zw_5_21 zck_9.1 rfl g1 (Wt_firstYear_c l G fu top L M a0 ha0 er2) (zrm_ok (by decide) (by decide)) ⟨Nat.le_refl 0, Nat.le_refl 0⟩ rfl (by simp [zR_cat, zcat_I, zcat_J, zcat_S]) hl.size rfl (Wt_close_dc.at 7 rfl) (fun H locs hr2 S3 => ?_)
    obtain ⟨M4, eM4, h⟩ := lt1_e h
    refine u_pI E eM4 zf_9_5 S3 g1 hr2 (Or.inl rfl) rfl zw_2_65 (Wt_close_dc.at 8 rfl) (fun H locs S5 => ?_)
    refine r_iconst E (Wt_close_dc.at 9 rfl) ?_
    refine u_ist_n (y := 0) (vs' := [some (zR G.2.2.1 a0), some (zR G.2.2.1 a1), some (.int (zO 0))]) E rfl (Wt_close_dc.at 10 rfl) hl (by decide) rfl (fun ls hl => ?_)
    exact Wt_close_l21_w E fu _ a0 a1 0 ha0 ha1 (show InR 0 by decide) _ _ _ S5 (hl.sub (And.intro rfl (And.intro rfl (And.intro rfl True.intro)))) h
  · have h := ite_f h q
    refine r_iconst E (Wt_close_dc.at 4 rfl) ?_
    refine r_goto (tgt := 16) E (Wt_close_dc.at 5 rfl) (by decide) ?_
    obtain ⟨M16, eM16, h⟩ := lt1_e h
    refine u_pI E eM16 zf_9_5 S g1 (show InR (-1) by decide) (Or.inl rfl) rfl zw_2_65 (Wt_close_dc.at 8 rfl) (fun H locs S17 => ?_)
    refine r_iconst E (Wt_close_dc.at 9 rfl) ?_
    refine u_ist_n (y := 0) (vs' := [some (zR G.2.2.1 a0), some (zR G.2.2.1 a1), some (.int (zO 0))]) E rfl (Wt_close_dc.at 10 rfl) hl (by decide) rfl (fun ls hl => ?_)
    exact Wt_close_l21_w E fu _ a0 a1 0 ha0 ha1 (show InR 0 by decide) _ _ _ S17 (hl.sub (And.intro rfl (And.intro rfl (And.intro rfl True.intro)))) h
theorem Wt_close_c (l : Launch) (G : zG) (fu : Nat) (top : Int) (L : zL) (M : zM) (a0 : Int) (a1 : Int) {res : zM} (ha0 : InR a0) (ha1 : InR a1) (h : Wt_close fu L M a0 a1 = some res) : Met l yX9_close (Cond.code yX9_close cX9_close 3 none :: zTB) (zrm 2 0 0) (va_Pc [zR G.2.2.1 a0, zR G.2.2.1 a1] (zPre G top L M)) (zQ G top L res none True) 0 0 (zA G) :=
  z_met (by decide +kernel) (by simp [zR_cat, zcat_I, zcat_S]) (Nat.le_of_ble_eq_true rfl) fun p e s m below meth c ls E hn S hl => Wt_close_w E ha0 ha1 S (hl.sub (And.intro rfl (And.intro rfl True.intro))) h
end
