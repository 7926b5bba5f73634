theorem Lx_image_dc : zDL cX11_image [(0, .aload_n 0, 1, 1), (1, .getfield 105, 3, 4), (4, .ifCond .ne 5, 3, 7), (7, .iconst (-1), 1, 8), (8, .ireturn, 1, 9), (9, .aload_n 0, 1, 10), (10, .getfield 46, 3, 13), (13, .aload_n 0, 1, 14), (14, .getfield 42, 3, 17), (17, .invokevirtual 328, 3, 20), (20, .aload_n 0, 1, 21), (21, .iconst 1, 1, 22), (22, .putfield 118, 3, 25), (25, .aload_n 0, 1, 26), (26, .getfield 42, 3, 29), (29, .getfield 124, 3, 32), (32, .getfield 155, 3, 35), (35, .ireturn, 1, 36)] := zDL.of (by decide +kernel)
section
variable {p : Program} {l : Launch} {e : Env} {s : State} {m : MethodId} {args : Array Value} {below : List Frame} {meth : Method} {c : Code} {G : zG} {top : Int} {L : zL} {fu : Nat}
theorem Lx_image_w (E : zEv p m c cX11_image 1 s args RX11 meth (some .int) G) {res : (zM × Int)} {M : zM} {a0 : Int} {H : Heap} {locs : List Loc} {ls : Array Slot} (ha0 : InR a0) (S : zS G top L M s H locs) (hl : zLV ls 1 [some (zR G.2.2.1 a0)]) (h : Lx_image fu L M a0 = some res) : W p l e (zrm 5 0 0) s m args below meth c H locs 0 0 (MQ below (zQ G top L res.1 (some (.int (zO res.2))) (InR res.2)) args s 0 0 (zA G)) (F0 m 0 ls []) := by
  unfold Lx_image at h
  refine u_al_n (x := a0) E (Lx_image_dc.at 0 rfl) hl rfl ?_
  obtain ⟨g1, h⟩ := ite_e h
  refine u_gI E zf_11_11 S g1 zw_2_143 (Lx_image_dc.at 1 rfl) ?_
  refine r_if_ne (tgt := 9) E (S.1.inR _ _) (Lx_image_dc.at 2 rfl) (by decide) (fun q => ?_) (fun q => ?_)
  · have h := ite_t h q
    refine r_iconst E (Lx_image_dc.at 3 rfl) ?_
    cases h
    exact r_iret E S (show InR (-1) by decide) (Lx_image_dc.at 4 rfl)
  · have h := ite_f h q
    refine u_al_n (x := a0) E (Lx_image_dc.at 5 rfl) hl rfl ?_
    refine u_gR E zf_11_5 S g1 zw_2_137 (Lx_image_dc.at 6 rfl) ?_
    refine u_al_n (x := a0) E (Lx_image_dc.at 7 rfl) hl rfl ?_
    refine u_gR E zf_11_4 S g1 zw_2_136 (Lx_image_dc.at 8 rfl) ?_
    obtain ⟨g2, h⟩ := ite_e h
    obtain ⟨M3, eM3, h⟩ := bd1_e h
    refine u_cVU (As := [zR G.2.2.1 (M a0 4)]) (rest := []) E S zcw_yX1_copyFrom zw_4_10 zw_4_11 zw_6_77 zck_1.1 rfl g2 (Af_copyFrom_c l G fu top L M (M a0 5) (M a0 4) (S.1.inR _ _) (S.1.inR _ _) eM3) (zrm_ok (by decide) (by decide)) ⟨Nat.le_refl 0, Nat.le_refl 0⟩ rfl (Nat.zero_le 8) hl.size rfl (Lx_image_dc.at 9 rfl) (fun H locs _ S4 => ?_)
    refine u_al_n (x := a0) E (Lx_image_dc.at 10 rfl) hl rfl ?_
    refine r_iconst E (Lx_image_dc.at 11 rfl) ?_
    obtain ⟨M5, eM5, h⟩ := lt1_e h
    refine u_pZ E eM5 zf_11_12 S4 g1 z01_1 (Or.inl rfl) rfl zw_2_144 (Lx_image_dc.at 12 rfl) (fun H locs S6 => ?_)
    refine u_al_n (x := a0) E (Lx_image_dc.at 13 rfl) hl rfl ?_
    refine u_gR E zf_11_4 S6 g1 zw_2_136 (Lx_image_dc.at 14 rfl) ?_
    obtain ⟨g7, h⟩ := ite_e h
    refine u_gR E zf_1_0 S6 g7 zw_1_222 (Lx_image_dc.at 15 rfl) ?_
    obtain ⟨g8, h⟩ := ite_e h
    refine u_gI E zf_10_5 S6 g8 zw_1_204 (Lx_image_dc.at 16 rfl) ?_
    cases h
    exact r_iret E S6 (S6.1.inR _ _) (Lx_image_dc.at 17 rfl)
theorem Lx_image_c (l : Launch) (G : zG) (fu : Nat) (top : Int) (L : zL) (M : zM) (a0 : Int) {res : (zM × Int)} (ha0 : InR a0) (h : Lx_image fu L M a0 = some res) : Met l yX11_image (Cond.code yX11_image cX11_image 1 (some .int) :: zTB) (zrm 5 0 0) (va_Pc [zR G.2.2.1 a0] (zPre G top L M)) (zQ G top L res.1 (some (.int (zO res.2))) (InR res.2)) 0 0 (zA G) :=
  z_met (by decide +kernel) (by simp [zR_cat, zcat_I, zcat_S]) (Nat.le_of_ble_eq_true rfl) fun p e s m below meth c ls E hn S hl => Lx_image_w E ha0 S (hl.sub (And.intro rfl True.intro)) h
end
theorem Lx_back_dc : zDL cX11_back [(0, .aload_n 0, 1, 1), (1, .getfield 118, 3, 4), (4, .ifCond .ne 5, 3, 7), (7, .iconst (-1), 1, 8), (8, .ireturn, 1, 9), (9, .aload_n 0, 1, 10), (10, .getfield 42, 3, 13), (13, .aload_n 0, 1, 14), (14, .getfield 46, 3, 17), (17, .invokevirtual 328, 3, 20), (20, .aload_n 0, 1, 21), (21, .getfield 52, 3, 24), (24, .invokevirtual 115, 3, 27), (27, .aload_n 0, 1, 28), (28, .getfield 42, 3, 31), (31, .getfield 124, 3, 34), (34, .getfield 155, 3, 37), (37, .ireturn, 1, 38)] := zDL.of (by decide +kernel)
section
variable {p : Program} {l : Launch} {e : Env} {s : State} {m : MethodId} {args : Array Value} {below : List Frame} {meth : Method} {c : Code} {G : zG} {top : Int} {L : zL} {fu : Nat}
theorem Lx_back_w (E : zEv p m c cX11_back 1 s args RX11 meth (some .int) G) {res : (zM × Int)} {M : zM} {a0 : Int} {H : Heap} {locs : List Loc} {ls : Array Slot} (ha0 : InR a0) (S : zS G top L M s H locs) (hl : zLV ls 1 [some (zR G.2.2.1 a0)]) (h : Lx_back fu L M a0 = some res) : W p l e (zrm 5 0 0) s m args below meth c H locs 0 0 (MQ below (zQ G top L res.1 (some (.int (zO res.2))) (InR res.2)) args s 0 0 (zA G)) (F0 m 0 ls []) := by
  unfold Lx_back at h
  refine u_al_n (x := a0) E (Lx_back_dc.at 0 rfl) hl rfl ?_
  obtain ⟨g1, h⟩ := ite_e h
  refine u_gI E zf_11_12 S g1 zw_2_144 (Lx_back_dc.at 1 rfl) ?_
  refine r_if_ne (tgt := 9) E (S.1.inR _ _) (Lx_back_dc.at 2 rfl) (by decide) (fun q => ?_) (fun q => ?_)
  · have h := ite_t h q
    refine r_iconst E (Lx_back_dc.at 3 rfl) ?_
    cases h
    exact r_iret E S (show InR (-1) by decide) (Lx_back_dc.at 4 rfl)
  · have h := ite_f h q
    refine u_al_n (x := a0) E (Lx_back_dc.at 5 rfl) hl rfl ?_
    refine u_gR E zf_11_4 S g1 zw_2_136 (Lx_back_dc.at 6 rfl) ?_
    refine u_al_n (x := a0) E (Lx_back_dc.at 7 rfl) hl rfl ?_
    refine u_gR E zf_11_5 S g1 zw_2_137 (Lx_back_dc.at 8 rfl) ?_
    obtain ⟨g2, h⟩ := ite_e h
    obtain ⟨M3, eM3, h⟩ := bd1_e h
    refine u_cVU (As := [zR G.2.2.1 (M a0 5)]) (rest := []) E S zcw_yX1_copyFrom zw_4_10 zw_4_11 zw_6_77 zck_1.1 rfl g2 (Af_copyFrom_c l G fu top L M (M a0 4) (M a0 5) (S.1.inR _ _) (S.1.inR _ _) eM3) (zrm_ok (by decide) (by decide)) ⟨Nat.le_refl 0, Nat.le_refl 0⟩ rfl (Nat.zero_le 8) hl.size rfl (Lx_back_dc.at 9 rfl) (fun H locs _ S4 => ?_)
    refine u_al_n (x := a0) E (Lx_back_dc.at 10 rfl) hl rfl ?_
    refine u_gR E zf_11_6 S4 g1 zw_2_138 (Lx_back_dc.at 11 rfl) ?_
    obtain ⟨g5, h⟩ := ite_e h
    obtain ⟨M6, eM6, h⟩ := bd1_e h
    refine u_cVU (As := []) (rest := []) E S4 zcw_yX0_clear zw_3_230 zw_3_231 zw_3_229 zck_0.1 rfl g5 (Ac_clear_c l G fu top L M3 (M3 a0 6) (S4.1.inR _ _) eM6) (zrm_ok (by decide) (by decide)) ⟨Nat.le_refl 0, Nat.le_refl 0⟩ rfl (Nat.zero_le 8) hl.size rfl (Lx_back_dc.at 12 rfl) (fun H locs _ S7 => ?_)
    refine u_al_n (x := a0) E (Lx_back_dc.at 13 rfl) hl rfl ?_
    refine u_gR E zf_11_4 S7 g1 zw_2_136 (Lx_back_dc.at 14 rfl) ?_
    obtain ⟨g8, h⟩ := ite_e h
    refine u_gR E zf_1_0 S7 g8 zw_1_222 (Lx_back_dc.at 15 rfl) ?_
    obtain ⟨g9, h⟩ := ite_e h
    refine u_gI E zf_10_5 S7 g9 zw_1_204 (Lx_back_dc.at 16 rfl) ?_
    cases h
    exact r_iret E S7 (S7.1.inR _ _) (Lx_back_dc.at 17 rfl)
theorem Lx_back_c (l : Launch) (G : zG) (fu : Nat) (top : Int) (L : zL) (M : zM) (a0 : Int) {res : (zM × Int)} (ha0 : InR a0) (h : Lx_back fu L M a0 = some res) : Met l yX11_back (Cond.code yX11_back cX11_back 1 (some .int) :: zTB) (zrm 5 0 0) (va_Pc [zR G.2.2.1 a0] (zPre G top L M)) (zQ G top L res.1 (some (.int (zO res.2))) (InR res.2)) 0 0 (zA G) :=
  z_met (by decide +kernel) (by simp [zR_cat, zcat_I, zcat_S]) (Nat.le_of_ble_eq_true rfl) fun p e s m below meth c ls E hn S hl => Lx_back_w E ha0 S (hl.sub (And.intro rfl True.intro)) h
end
theorem Lx_status_dc : zDL cX11_status [(0, .iload_n 1, 1, 1), (1, .ifCond .lt 21, 3, 4), (4, .iload_n 1, 1, 5), (5, .aload_n 0, 1, 6), (6, .getfield 82, 3, 9), (9, .arraylength, 1, 10), (10, .if_icmp .ge 12, 3, 13), (13, .aload_n 0, 1, 14), (14, .getfield 82, 3, 17), (17, .iload_n 1, 1, 18), (18, .iaload, 1, 19), (19, .goto 4, 3, 22), (22, .iconst (-1), 1, 23), (23, .ireturn, 1, 24)] := zDL.of (by decide +kernel)
section
variable {p : Program} {l : Launch} {e : Env} {s : State} {m : MethodId} {args : Array Value} {below : List Frame} {meth : Method} {c : Code} {G : zG} {top : Int} {L : zL} {fu : Nat}
theorem Lx_status_w (E : zEv p m c cX11_status 2 s args RX11 meth (some .int) G) {res : Int} {M : zM} {a0 : Int} {a1 : Int} {H : Heap} {locs : List Loc} {ls : Array Slot} (ha0 : InR a0) (ha1 : InR a1) (S : zS G top L M s H locs) (hl : zLV ls 2 [some (zR G.2.2.1 a0), some (.int (zO a1))]) (h : Lx_status fu L M a0 a1 = some res) : W p l e (zrm 1 0 0) s m args below meth c H locs 0 0 (MQ below (zQ G top L M (some (.int (zO res))) (InR res)) args s 0 0 (zA G)) (F0 m 0 ls []) := by
  unfold Lx_status at h
  refine u_il_n (x := a1) E (Lx_status_dc.at 0 rfl) hl rfl ?_
  refine r_if_lt (tgt := 22) E ha1 (Lx_status_dc.at 1 rfl) (by decide) (fun q => ?_) (fun q => ?_)
  · have h := ite_t h q
    refine r_iconst E (Lx_status_dc.at 12 rfl) ?_
    cases h
    exact r_iret E S (show InR (-1) by decide) (Lx_status_dc.at 13 rfl)
  · have h := ite_f h q
    refine u_il_n (x := a1) E (Lx_status_dc.at 2 rfl) hl rfl ?_
    refine u_al_n (x := a0) E (Lx_status_dc.at 3 rfl) hl rfl ?_
    obtain ⟨g1, h⟩ := ite_e h
    refine u_gR E zf_11_10 S g1 zw_2_142 (Lx_status_dc.at 4 rfl) ?_
    obtain ⟨g2, h⟩ := ite_e h
    refine r_alen E S g2 (by decide) (Lx_status_dc.at 5 rfl) ?_
    refine r_icmp_ge (tgt := 22) E ha1 (S.1.lenR _) (Lx_status_dc.at 6 rfl) (by decide) (fun q => ?_) (fun q => ?_)
    · have h := ite_t h q
      refine u_al_n (x := a0) E (Lx_status_dc.at 7 rfl) hl rfl ?_
      refine u_gR E zf_11_10 S g1 zw_2_142 (Lx_status_dc.at 8 rfl) ?_
      refine u_il_n (x := a1) E (Lx_status_dc.at 9 rfl) hl rfl ?_
      obtain ⟨g3, h⟩ := ite_e h
      refine r_iald E S g2 g3 (Lx_status_dc.at 10 rfl) ?_
      refine r_goto (tgt := 23) E (Lx_status_dc.at 11 rfl) (by decide) ?_
      cases h
      exact r_iret E S (S.1.inR _ _) (Lx_status_dc.at 13 rfl)
    · have h := ite_f h q
      refine r_iconst E (Lx_status_dc.at 12 rfl) ?_
      cases h
      exact r_iret E S (show InR (-1) by decide) (Lx_status_dc.at 13 rfl)
theorem Lx_status_c (l : Launch) (G : zG) (fu : Nat) (top : Int) (L : zL) (M : zM) (a0 : Int) (a1 : Int) {res : Int} (ha0 : InR a0) (ha1 : InR a1) (h : Lx_status fu L M a0 a1 = some res) : Met l yX11_status (Cond.code yX11_status cX11_status 2 (some .int) :: zTB) (zrm 1 0 0) (va_Pc [zR G.2.2.1 a0, .int (zO a1)] (zPre G top L M)) (zQ G top L M (some (.int (zO res))) (InR res)) 0 0 (zA G) :=
  z_met (by decide +kernel) (by simp [zR_cat, zcat_I, zcat_S]) (Nat.le_of_ble_eq_true rfl) fun p e s m below meth c ls E hn S hl => Lx_status_w E ha0 ha1 S (hl.sub (And.intro rfl (And.intro rfl True.intro))) h
end
theorem Wd_childrenOf_dc : zDL cX10_childrenOf [(0, .iconst 0, 1, 1), (1, .istore_n 2, 1, 2), (2, .iconst 0, 1, 3), (3, .istore_n 3, 1, 4), (4, .iload_n 3, 1, 5), (5, .aload_n 0, 1, 6), (6, .getfield 25, 3, 9), (9, .if_icmp .ge 21, 3, 12), (12, .aload_n 0, 1, 13), (13, .iload_n 3, 1, 14), (14, .invokevirtual 43, 3, 17), (17, .iload_n 1, 1, 18), (18, .if_icmp .ne 6, 3, 21), (21, .iinc 2 1, 3, 24), (24, .iinc 3 1, 3, 27), (27, .goto (-23), 3, 30), (30, .iload_n 2, 1, 31), (31, .ireturn, 1, 32)] := zDL.of (by decide +kernel)
section
variable {p : Program} {l : Launch} {e : Env} {s : State} {m : MethodId} {args : Array Value} {below : List Frame} {meth : Method} {c : Code} {G : zG} {top : Int} {L : zL} {fu : Nat}
theorem Wd_childrenOf_s4_w (E : zEv p m c cX10_childrenOf 4 s args RX10 meth (some .int) G) {res : Int} {k4 : zM → Int → Int → Int → Int → Option Int} (hk4 : ∀ (M : zM) (x0 : Int) (x1 : Int) (x2 : Int) (x3 : Int), InR x0 → InR x1 → InR x2 → InR x3 → ∀ (H : Heap) (locs : List Loc) (ls : Array Slot), zS G top L M s H locs → zLV ls 4 [some (zR G.2.2.1 x0), some (.int (zO x1)), some (.int (zO x2)), some (.int (zO x3))] → k4 M x0 x1 x2 x3 = some res → W p l e (zrm 2 0 0) s m args below meth c H locs 0 0 (MQ below (zQ G top L M (some (.int (zO res))) (InR res)) args s 0 0 (zA G)) (F0 m 4 ls [])) {M : zM} {x0 : Int} {x1 : Int} {x2 : Int} {x3 : Int} {H : Heap} {locs : List Loc} {ls : Array Slot} (hx0 : InR x0) (hx1 : InR x1) (hx2 : InR x2) (hx3 : InR x3) (S : zS G top L M s H locs) (hl : zLV ls 4 [some (zR G.2.2.1 x0), some (.int (zO x1)), some (.int (zO x2)), some (.int (zO x3))]) (h : Wd_childrenOf_s4 fu k4 L M x0 x1 x2 x3 = some res) : W p l e (zrm 2 0 0) s m args below meth c H locs 0 0 (MQ below (zQ G top L M (some (.int (zO res))) (InR res)) args s 0 0 (zA G)) (F0 m 4 ls []) := by
  unfold Wd_childrenOf_s4 at h
  refine u_il_n (x := x3) E (Wd_childrenOf_dc.at 4 rfl) hl rfl ?_
  refine u_al_n (x := x0) E (Wd_childrenOf_dc.at 5 rfl) hl rfl ?_
  obtain ⟨g1, h⟩ := ite_e h
  refine u_gI E zf_10_4 S g1 zw_1_197 (Wd_childrenOf_dc.at 6 rfl) ?_
  refine r_icmp_ge (tgt := 30) E hx3 (S.1.inR _ _) (Wd_childrenOf_dc.at 7 rfl) (by decide) (fun q => ?_) (fun q => ?_)
  · have h := ite_t h q
    refine u_al_n (x := x0) E (Wd_childrenOf_dc.at 8 rfl) hl rfl ?_
    refine u_il_n (x := x3) E (Wd_childrenOf_dc.at 9 rfl) hl rfl ?_
    obtain ⟨r2, er2, h⟩ := bd1_e h
    refine u_cVI (As := [.int (zO x3)]) (rest := []) E S zcw_yX10_parentOf zw_4_23 zw_4_24 zw_4_22 zck_10.1 rfl g1 (Wd_parentOf_c l G fu top L M x0 x3 hx0 hx3 er2) (zrm_ok (by decide) (by decide)) ⟨Nat.le_refl 0, Nat.le_refl 0⟩ rfl (Nat.zero_le 8) hl.size rfl (Wd_childrenOf_dc.at 10 rfl) (fun H locs hr2 S3 => ?_)
    refine u_il_n (x := x1) E (Wd_childrenOf_dc.at 11 rfl) hl rfl ?_
    refine r_icmp_ne (tgt := 24) E hr2 hx1 (Wd_childrenOf_dc.at 12 rfl) (by decide) (fun q => ?_) (fun q => ?_)
    · have h := ite_t h q
      obtain ⟨v4, ev4, h⟩ := lt1_e h
      have hv4 := inR_eq ev4 (inR_w32 _)
      refine u_iinc (y := v4) (vs' := [some (zR G.2.2.1 x0), some (.int (zO x1)), some (.int (zO v4)), some (.int (zO x3))]) E ev4 (Wd_childrenOf_dc.at 13 rfl) hl rfl (by decide) rfl (fun ls hl => ?_)
      obtain ⟨v5, ev5, h⟩ := lt1_e h
      have hv5 := inR_eq ev5 (inR_w32 _)
      refine u_iinc (y := v5) (vs' := [some (zR G.2.2.1 x0), some (.int (zO x1)), some (.int (zO v4)), some (.int (zO v5))]) E ev5 (Wd_childrenOf_dc.at 14 rfl) hl rfl (by decide) rfl (fun ls hl => ?_)
      refine r_goto (tgt := 4) E (Wd_childrenOf_dc.at 15 rfl) (by decide) ?_
      exact hk4 _ x0 x1 v4 v5 hx0 hx1 hv4 hv5 _ _ _ S3 (hl.sub (And.intro rfl (And.intro rfl (And.intro rfl (And.intro rfl True.intro))))) h
    · have h := ite_f h q
      obtain ⟨v6, ev6, h⟩ := lt1_e h
      have hv6 := inR_eq ev6 (inR_w32 _)
      refine u_iinc (y := v6) (vs' := [some (zR G.2.2.1 x0), some (.int (zO x1)), some (.int (zO x2)), some (.int (zO v6))]) E ev6 (Wd_childrenOf_dc.at 14 rfl) hl rfl (by decide) rfl (fun ls hl => ?_)
      refine r_goto (tgt := 4) E (Wd_childrenOf_dc.at 15 rfl) (by decide) ?_
      exact hk4 _ x0 x1 x2 v6 hx0 hx1 hx2 hv6 _ _ _ S3 (hl.sub (And.intro rfl (And.intro rfl (And.intro rfl (And.intro rfl True.intro))))) h
  · have h := ite_f h q
    refine u_il_n (x := x2) E (Wd_childrenOf_dc.at 16 rfl) hl rfl ?_
    cases h
    exact r_iret E S hx2 (Wd_childrenOf_dc.at 17 rfl)
theorem Wd_childrenOf_l4_w (E : zEv p m c cX10_childrenOf 4 s args RX10 meth (some .int) G) {res : Int} : ∀ (n : Nat) (M : zM) (x0 : Int) (x1 : Int) (x2 : Int) (x3 : Int), InR x0 → InR x1 → InR x2 → InR x3 → ∀ (H : Heap) (locs : List Loc) (ls : Array Slot), zS G top L M s H locs → zLV ls 4 [some (zR G.2.2.1 x0), some (.int (zO x1)), some (.int (zO x2)), some (.int (zO x3))] → Wd_childrenOf_l4 fu L n M x0 x1 x2 x3 = some res → W p l e (zrm 2 0 0) s m args below meth c H locs 0 0 (MQ below (zQ G top L M (some (.int (zO res))) (InR res)) args s 0 0 (zA G)) (F0 m 4 ls [])
  | 0, _, _, _, _, _ => fun _ _ _ _ _ _ _ _ _ h => (by cases h)
  | n + 1, M, x0, x1, x2, x3 => fun hx0 hx1 hx2 hx3 H locs ls S hl h => Wd_childrenOf_s4_w E (fun M x0 x1 x2 x3 hx0 hx1 hx2 hx3 H locs ls S hl h => Wd_childrenOf_l4_w E n M x0 x1 x2 x3 hx0 hx1 hx2 hx3 H locs ls S hl h) hx0 hx1 hx2 hx3 S hl h
theorem Wd_childrenOf_w (E : zEv p m c cX10_childrenOf 4 s args RX10 meth (some .int) G) {res : Int} {M : zM} {a0 : Int} {a1 : Int} {H : Heap} {locs : List Loc} {ls : Array Slot} (ha0 : InR a0) (ha1 : InR a1) (S : zS G top L M s H locs) (hl : zLV ls 4 [some (zR G.2.2.1 a0), some (.int (zO a1)), none, none]) (h : Wd_childrenOf fu L M a0 a1 = some res) : W p l e (zrm 2 0 0) s m args below meth c H locs 0 0 (MQ below (zQ G top L M (some (.int (zO res))) (InR res)) args s 0 0 (zA G)) (F0 m 0 ls []) := by
  unfold Wd_childrenOf at h
  refine r_iconst E (Wd_childrenOf_dc.at 0 rfl) ?_
  refine u_ist_n (y := 0) (vs' := [some (zR G.2.2.1 a0), some (.int (zO a1)), some (.int (zO 0)), none]) E rfl (Wd_childrenOf_dc.at 1 rfl) hl (by decide) rfl (fun ls hl => ?_)
  refine r_iconst E (Wd_childrenOf_dc.at 2 rfl) ?_
  refine u_ist_n (y := 0) (vs' := [some (zR G.2.2.1 a0), some (.int (zO a1)), some (.int (zO 0)), some (.int (zO 0))]) E rfl (Wd_childrenOf_dc.at 3 rfl) hl (by decide) rfl (fun ls hl => ?_)
  exact Wd_childrenOf_l4_w E fu _ a0 a1 0 0 ha0 ha1 (show InR 0 by decide) (show InR 0 by decide) _ _ _ S (hl.sub (And.intro rfl (And.intro rfl (And.intro rfl (And.intro rfl True.intro))))) h
theorem Wd_childrenOf_c (l : Launch) (G : zG) (fu : Nat) (top : Int) (L : zL) (M : zM) (a0 : Int) (a1 : Int) {res : Int} (ha0 : InR a0) (ha1 : InR a1) (h : Wd_childrenOf fu L M a0 a1 = some res) : Met l yX10_childrenOf (Cond.code yX10_childrenOf cX10_childrenOf 4 (some .int) :: zTB) (zrm 2 0 0) (va_Pc [zR G.2.2.1 a0, .int (zO a1)] (zPre G top L M)) (zQ G top L M (some (.int (zO res))) (InR res)) 0 0 (zA G) :=
  z_met (by decide +kernel) (by simp [zR_cat, zcat_I, zcat_S]) (Nat.le_of_ble_eq_true rfl) fun p e s m below meth c ls E hn S hl => Wd_childrenOf_w E ha0 ha1 S (hl.sub (And.intro rfl (And.intro rfl True.intro))) h
end
theorem Wd_mostChildren_dc : zDL cX10_mostChildren [(0, .iconst 0, 1, 1), (1, .istore_n 1, 1, 2), (2, .iconst 1, 1, 3), (3, .istore_n 2, 1, 4), (4, .iload_n 2, 1, 5), (5, .aload_n 0, 1, 6), (6, .getfield 25, 3, 9), (9, .if_icmp .ge 24, 3, 12), (12, .aload_n 0, 1, 13), (13, .iload_n 2, 1, 14), (14, .invokevirtual 80, 3, 17), (17, .aload_n 0, 1, 18), (18, .iload_n 1, 1, 19), (19, .invokevirtual 80, 3, 22), (22, .if_icmp .le 5, 3, 25), (25, .iload_n 2, 1, 26), (26, .istore_n 1, 1, 27), (27, .iinc 2 1, 3, 30), (30, .goto (-26), 3, 33), (33, .iload_n 1, 1, 34), (34, .ireturn, 1, 35)] := zDL.of (by decide +kernel)
section
variable {p : Program} {l : Launch} {e : Env} {s : State} {m : MethodId} {args : Array Value} {below : List Frame} {meth : Method} {c : Code} {G : zG} {top : Int} {L : zL} {fu : Nat}
theorem Wd_mostChildren_s4_w (E : zEv p m c cX10_mostChildren 3 s args RX10 meth (some .int) G) {res : Int} {k4 : zM → Int → Int → Int → Option Int} (hk4 : ∀ (M : zM) (x0 : Int) (x1 : Int) (x2 : Int), InR x0 → InR x1 → InR x2 → ∀ (H : Heap) (locs : List Loc) (ls : Array Slot), zS G top L M s H locs → zLV ls 3 [some (zR G.2.2.1 x0), some (.int (zO x1)), some (.int (zO x2))] → k4 M x0 x1 x2 = some res → W p l e (zrm 3 0 0) s m args below meth c H locs 0 0 (MQ below (zQ G top L M (some (.int (zO res))) (InR res)) args s 0 0 (zA G)) (F0 m 4 ls [])) {M : zM} {x0 : Int} {x1 : Int} {x2 : Int} {H : Heap} {locs : List Loc} {ls : Array Slot} (hx0 : InR x0) (hx1 : InR x1) (hx2 : InR x2) (S : zS G top L M s H locs) (hl : zLV ls 3 [some (zR G.2.2.1 x0), some (.int (zO x1)), some (.int (zO x2))]) (h : Wd_mostChildren_s4 fu k4 L M x0 x1 x2 = some res) : W p l e (zrm 3 0 0) s m args below meth c H locs 0 0 (MQ below (zQ G top L M (some (.int (zO res))) (InR res)) args s 0 0 (zA G)) (F0 m 4 ls []) := by
  unfold Wd_mostChildren_s4 at h
  refine u_il_n (x := x2) E (Wd_mostChildren_dc.at 4 rfl) hl rfl ?_
  refine u_al_n (x := x0) E (Wd_mostChildren_dc.at 5 rfl) hl rfl ?_
  obtain ⟨g1, h⟩ := ite_e h
  refine u_gI E zf_10_4 S g1 zw_1_197 (Wd_mostChildren_dc.at 6 rfl) ?_
  refine r_icmp_ge (tgt := 33) E hx2 (S.1.inR _ _) (Wd_mostChildren_dc.at 7 rfl) (by decide) (fun q => ?_) (fun q => ?_)
  · have h := ite_t h q
    refine u_al_n (x := x0) E (Wd_mostChildren_dc.at 8 rfl) hl rfl ?_
    refine u_il_n (x := x2) E (Wd_mostChildren_dc.at 9 rfl) hl rfl ?_
    obtain ⟨r2, er2, h⟩ := bd1_e h
    refine u_cVI (As := [.int (zO x2)]) (rest := []) E S zcw_yX10_childrenOf zw_6_95 zw_6_96 zw_6_94 zck_10.1 rfl g1 (Wd_childrenOf_c l G fu top L M x0 x2 hx0 hx2 er2) (zrm_ok (by decide) (by decide)) ⟨Nat.le_refl 0, Nat.le_refl 0⟩ rfl (Nat.zero_le 8) hl.size rfl (Wd_mostChildren_dc.at 10 rfl) (fun H locs hr2 S3 => ?_)
    refine u_al_n (x := x0) E (Wd_mostChildren_dc.at 11 rfl) hl rfl ?_
    refine u_il_n (x := x1) E (Wd_mostChildren_dc.at 12 rfl) hl rfl ?_
    obtain ⟨r4, er4, h⟩ := bd1_e h
    refine u_cVI (As := [.int (zO x1)]) (rest := [.int (zO r2)]) E S3 zcw_yX10_childrenOf zw_6_95 zw_6_96 zw_6_94 zck_10.1 rfl g1 (Wd_childrenOf_c l G fu top L M x0 x1 hx0 hx1 er4) (zrm_ok (by decide) (by decide)) ⟨Nat.le_refl 0, Nat.le_refl 0⟩ rfl (by simp [zR_cat, zcat_I, zcat_J, zcat_S]) hl.size rfl (Wd_mostChildren_dc.at 13 rfl) (fun H locs hr4 S5 => ?_)
    refine r_icmp_le (tgt := 27) E hr2 hr4 (Wd_mostChildren_dc.at 14 rfl) (by decide) (fun q => ?_) (fun q => ?_)
    · have h := ite_t h q
      refine u_il_n (x := x2) E (Wd_mostChildren_dc.at 15 rfl) hl rfl ?_
      refine u_ist_n (y := x2) (vs' := [some (zR G.2.2.1 x0), some (.int (zO x2)), some (.int (zO x2))]) E rfl (Wd_mostChildren_dc.at 16 rfl) hl (by decide) rfl (fun ls hl => ?_)
      obtain ⟨v6, ev6, h⟩ := lt1_e h
      have hv6 := inR_eq ev6 (inR_w32 _)
      refine u_iinc (y := v6) (vs' := [some (zR G.2.2.1 x0), some (.int (zO x2)), some (.int (zO v6))]) E ev6 (Wd_mostChildren_dc.at 17 rfl) hl rfl (by decide) rfl (fun ls hl => ?_)
      refine r_goto (tgt := 4) E (Wd_mostChildren_dc.at 18 rfl) (by decide) ?_
      exact hk4 _ x0 x2 v6 hx0 hx2 hv6 _ _ _ S5 (hl.sub (And.intro rfl (And.intro rfl (And.intro rfl True.intro)))) h
    · have h := ite_f h q
      obtain ⟨v7, ev7, h⟩ := lt1_e h
      have hv7 := inR_eq ev7 (inR_w32 _)
      refine u_iinc (y := v7) (vs' := [some (zR G.2.2.1 x0), some (.int (zO x1)), some (.int (zO v7))]) E ev7 (Wd_mostChildren_dc.at 17 rfl) hl rfl (by decide) rfl (fun ls hl => ?_)
      refine r_goto (tgt := 4) E (Wd_mostChildren_dc.at 18 rfl) (by decide) ?_
      exact hk4 _ x0 x1 v7 hx0 hx1 hv7 _ _ _ S5 (hl.sub (And.intro rfl (And.intro rfl (And.intro rfl True.intro)))) h
  · have h := ite_f h q
    refine u_il_n (x := x1) E (Wd_mostChildren_dc.at 19 rfl) hl rfl ?_
    cases h
    exact r_iret E S hx1 (Wd_mostChildren_dc.at 20 rfl)
theorem Wd_mostChildren_l4_w (E : zEv p m c cX10_mostChildren 3 s args RX10 meth (some .int) G) {res : Int} : ∀ (n : Nat) (M : zM) (x0 : Int) (x1 : Int) (x2 : Int), InR x0 → InR x1 → InR x2 → ∀ (H : Heap) (locs : List Loc) (ls : Array Slot), zS G top L M s H locs → zLV ls 3 [some (zR G.2.2.1 x0), some (.int (zO x1)), some (.int (zO x2))] → Wd_mostChildren_l4 fu L n M x0 x1 x2 = some res → W p l e (zrm 3 0 0) s m args below meth c H locs 0 0 (MQ below (zQ G top L M (some (.int (zO res))) (InR res)) args s 0 0 (zA G)) (F0 m 4 ls [])
  | 0, _, _, _, _ => fun _ _ _ _ _ _ _ _ h => (by cases h)
  | n + 1, M, x0, x1, x2 => fun hx0 hx1 hx2 H locs ls S hl h => Wd_mostChildren_s4_w E (fun M x0 x1 x2 hx0 hx1 hx2 H locs ls S hl h => Wd_mostChildren_l4_w E n M x0 x1 x2 hx0 hx1 hx2 H locs ls S hl h) hx0 hx1 hx2 S hl h
theorem Wd_mostChildren_w (E : zEv p m c cX10_mostChildren 3 s args RX10 meth (some .int) G) {res : Int} {M : zM} {a0 : Int} {H : Heap} {locs : List Loc} {ls : Array Slot} (ha0 : InR a0) (S : zS G top L M s H locs) (hl : zLV ls 3 [some (zR G.2.2.1 a0), none, none]) (h : Wd_mostChildren fu L M a0 = some res) : W p l e (zrm 3 0 0) s m args below meth c H locs 0 0 (MQ below (zQ G top L M (some (.int (zO res))) (InR res)) args s 0 0 (zA G)) (F0 m 0 ls []) := by
  unfold Wd_mostChildren at h
  refine r_iconst E (Wd_mostChildren_dc.at 0 rfl) ?_
  refine u_ist_n (y := 0) (vs' := [some (zR G.2.2.1 a0), some (.int (zO 0)), none]) E rfl (Wd_mostChildren_dc.at 1 rfl) hl (by decide) rfl (fun ls hl => ?_)
  refine r_iconst E (Wd_mostChildren_dc.at 2 rfl) ?_
  refine u_ist_n (y := 1) (vs' := [some (zR G.2.2.1 a0), some (.int (zO 0)), some (.int (zO 1))]) E rfl (Wd_mostChildren_dc.at 3 rfl) hl (by decide) rfl (fun ls hl => ?_)
  exact Wd_mostChildren_l4_w E fu _ a0 0 1 ha0 (show InR 0 by decide) (show InR 1 by decide) _ _ _ S (hl.sub (And.intro rfl (And.intro rfl (And.intro rfl True.intro)))) h
theorem Wd_mostChildren_c (l : Launch) (G : zG) (fu : Nat) (top : Int) (L : zL) (M : zM) (a0 : Int) {res : Int} (ha0 : InR a0) (h : Wd_mostChildren fu L M a0 = some res) : Met l yX10_mostChildren (Cond.code yX10_mostChildren cX10_mostChildren 3 (some .int) :: zTB) (zrm 3 0 0) (va_Pc [zR G.2.2.1 a0] (zPre G top L M)) (zQ G top L M (some (.int (zO res))) (InR res)) 0 0 (zA G) :=
  z_met (by decide +kernel) (by simp [zR_cat, zcat_I, zcat_S]) (Nat.le_of_ble_eq_true rfl) fun p e s m below meth c ls E hn S hl => Wd_mostChildren_w E ha0 S (hl.sub (And.intro rfl True.intro)) h
end
theorem Wd_oldestLiving_dc : zDL cX10_oldestLiving [(0, .iconst (-1), 1, 1), (1, .istore_n 1, 1, 2), (2, .iconst 0, 1, 3), (3, .istore_n 2, 1, 4), (4, .iload_n 2, 1, 5), (5, .aload_n 0, 1, 6), (6, .getfield 25, 3, 9), (9, .if_icmp .ge 37, 3, 12), (12, .aload_n 0, 1, 13), (13, .iload_n 2, 1, 14), (14, .invokevirtual 59, 3, 17), (17, .ifCond .eq 23, 3, 20), (20, .iload_n 1, 1, 21), (21, .iconst (-1), 1, 22), (22, .if_icmp .eq 16, 3, 25), (25, .aload_n 0, 1, 26), (26, .iload_n 2, 1, 27), (27, .invokevirtual 39, 3, 30), (30, .aload_n 0, 1, 31), (31, .iload_n 1, 1, 32), (32, .invokevirtual 39, 3, 35), (35, .if_icmp .ge 5, 3, 38), (38, .iload_n 2, 1, 39), (39, .istore_n 1, 1, 40), (40, .iinc 2 1, 3, 43), (43, .goto (-39), 3, 46), (46, .iload_n 1, 1, 47), (47, .ireturn, 1, 48)] := zDL.of (by decide +kernel)
section
variable {p : Program} {l : Launch} {e : Env} {s : State} {m : MethodId} {args : Array Value} {below : List Frame} {meth : Method} {c : Code} {G : zG} {top : Int} {L : zL} {fu : Nat}
theorem Wd_oldestLiving_s4_w (E : zEv p m c cX10_oldestLiving 3 s args RX10 meth (some .int) G) {res : Int} {k4 : zM → Int → Int → Int → Option Int} (hk4 : ∀ (M : zM) (x0 : Int) (x1 : Int) (x2 : Int), InR x0 → InR x1 → InR x2 → ∀ (H : Heap) (locs : List Loc) (ls : Array Slot), zS G top L M s H locs → zLV ls 3 [some (zR G.2.2.1 x0), some (.int (zO x1)), some (.int (zO x2))] → k4 M x0 x1 x2 = some res → W p l e (zrm 2 0 0) s m args below meth c H locs 0 0 (MQ below (zQ G top L M (some (.int (zO res))) (InR res)) args s 0 0 (zA G)) (F0 m 4 ls [])) {M : zM} {x0 : Int} {x1 : Int} {x2 : Int} {H : Heap} {locs : List Loc} {ls : Array Slot} (hx0 : InR x0) (hx1 : InR x1) (hx2 : InR x2) (S : zS G top L M s H locs) (hl : zLV ls 3 [some (zR G.2.2.1 x0), some (.int (zO x1)), some (.int (zO x2))]) (h : Wd_oldestLiving_s4 fu k4 L M x0 x1 x2 = some res) : W p l e (zrm 2 0 0) s m args below meth c H locs 0 0 (MQ below (zQ G top L M (some (.int (zO res))) (InR res)) args s 0 0 (zA G)) (F0 m 4 ls []) := by
  unfold Wd_oldestLiving_s4 at h
  refine u_il_n (x := x2) E (Wd_oldestLiving_dc.at 4 rfl) hl rfl ?_
  refine u_al_n (x := x0) E (Wd_oldestLiving_dc.at 5 rfl) hl rfl ?_
  obtain ⟨g1, h⟩ := ite_e h
  refine u_gI E zf_10_4 S g1 zw_1_197 (Wd_oldestLiving_dc.at 6 rfl) ?_
  refine r_icmp_ge (tgt := 46) E hx2 (S.1.inR _ _) (Wd_oldestLiving_dc.at 7 rfl) (by decide) (fun q => ?_) (fun q => ?_)
  · have h := ite_t h q
    refine u_al_n (x := x0) E (Wd_oldestLiving_dc.at 8 rfl) hl rfl ?_
    refine u_il_n (x := x2) E (Wd_oldestLiving_dc.at 9 rfl) hl rfl ?_
    obtain ⟨r2, er2, h⟩ := bd1_e h
    refine u_cVI (As := [.int (zO x2)]) (rest := []) E S zcw_yX10_isAlive zw_4_146 zw_4_147 zw_4_145 zck_10.1 rfl g1 (Wd_isAlive_c l G fu top L M x0 x2 hx0 hx2 er2) (zrm_ok (by decide) (by decide)) ⟨Nat.le_refl 0, Nat.le_refl 0⟩ rfl (Nat.zero_le 8) hl.size rfl (Wd_oldestLiving_dc.at 10 rfl) (fun H locs hr2 S3 => ?_)
    refine r_if_eq (tgt := 40) E (inR_01 hr2) (Wd_oldestLiving_dc.at 11 rfl) (by decide) (fun q => ?_) (fun q => ?_)
    · have h := ite_t h q
      obtain ⟨v4, ev4, h⟩ := lt1_e h
      have hv4 := inR_eq ev4 (inR_w32 _)
      refine u_iinc (y := v4) (vs' := [some (zR G.2.2.1 x0), some (.int (zO x1)), some (.int (zO v4))]) E ev4 (Wd_oldestLiving_dc.at 24 rfl) hl rfl (by decide) rfl (fun ls hl => ?_)
      refine r_goto (tgt := 4) E (Wd_oldestLiving_dc.at 25 rfl) (by decide) ?_
      exact hk4 _ x0 x1 v4 hx0 hx1 hv4 _ _ _ S3 (hl.sub (And.intro rfl (And.intro rfl (And.intro rfl True.intro)))) h
    · have h := ite_f h q
      refine u_il_n (x := x1) E (Wd_oldestLiving_dc.at 12 rfl) hl rfl ?_
      refine r_iconst E (Wd_oldestLiving_dc.at 13 rfl) ?_
      refine r_icmp_eq (tgt := 38) E hx1 (show InR (-1) by decide) (Wd_oldestLiving_dc.at 14 rfl) (by decide) (fun q => ?_) (fun q => ?_)
      · have h := ite_t h q
        refine u_il_n (x := x2) E (Wd_oldestLiving_dc.at 22 rfl) hl rfl ?_
        refine u_ist_n (y := x2) (vs' := [some (zR G.2.2.1 x0), some (.int (zO x2)), some (.int (zO x2))]) E rfl (Wd_oldestLiving_dc.at 23 rfl) hl (by decide) rfl (fun ls hl => ?_)
        obtain ⟨v5, ev5, h⟩ := lt1_e h
        have hv5 := inR_eq ev5 (inR_w32 _)
        refine u_iinc (y := v5) (vs' := [some (zR G.2.2.1 x0), some (.int (zO x2)), some (.int (zO v5))]) E ev5 (Wd_oldestLiving_dc.at 24 rfl) hl rfl (by decide) rfl (fun ls hl => ?_)
        refine r_goto (tgt := 4) E (Wd_oldestLiving_dc.at 25 rfl) (by decide) ?_
        exact hk4 _ x0 x2 v5 hx0 hx2 hv5 _ _ _ S3 (hl.sub (And.intro rfl (And.intro rfl (And.intro rfl True.intro)))) h
      · have h := ite_f h q
        refine u_al_n (x := x0) E (Wd_oldestLiving_dc.at 15 rfl) hl rfl ?_
        refine u_il_n (x := x2) E (Wd_oldestLiving_dc.at 16 rfl) hl rfl ?_
        obtain ⟨r6, er6, h⟩ := bd1_e h
        refine u_cVI (As := [.int (zO x2)]) (rest := []) E S3 zcw_yX10_bornIn zw_4_19 zw_4_20 zw_4_18 zck_10.1 rfl g1 (Wd_bornIn_c l G fu top L M x0 x2 hx0 hx2 er6) (zrm_ok (by decide) (by decide)) ⟨Nat.le_refl 0, Nat.le_refl 0⟩ rfl (Nat.zero_le 8) hl.size rfl (Wd_oldestLiving_dc.at 17 rfl) (fun H locs hr6 S7 => ?_)
        refine u_al_n (x := x0) E (Wd_oldestLiving_dc.at 18 rfl) hl rfl ?_
        refine u_il_n (x := x1) E (Wd_oldestLiving_dc.at 19 rfl) hl rfl ?_
        obtain ⟨r8, er8, h⟩ := bd1_e h
        refine u_cVI (As := [.int (zO x1)]) (rest := [.int (zO r6)]) E S7 zcw_yX10_bornIn zw_4_19 zw_4_20 zw_4_18 zck_10.1 rfl g1 (Wd_bornIn_c l G fu top L M x0 x1 hx0 hx1 er8) (zrm_ok (by decide) (by decide)) ⟨Nat.le_refl 0, Nat.le_refl 0⟩ rfl (by simp [zR_cat, zcat_I, zcat_J, zcat_S]) hl.size rfl (Wd_oldestLiving_dc.at 20 rfl) (fun H locs hr8 S9 => ?_)
        refine r_icmp_ge (tgt := 40) E hr6 hr8 (Wd_oldestLiving_dc.at 21 rfl) (by decide) (fun q => ?_) (fun q => ?_)
        · have h := ite_t h q
          refine u_il_n (x := x2) E (Wd_oldestLiving_dc.at 22 rfl) hl rfl ?_
          refine u_ist_n (y := x2) (vs' := [some (zR G.2.2.1 x0), some (.int (zO x2)), some (.int (zO x2))]) E rfl (Wd_oldestLiving_dc.at 23 rfl) hl (by decide) rfl (fun ls hl => ?_)
          obtain ⟨v10, ev10, h⟩ := lt1_e h
          have hv10 := inR_eq ev10 (inR_w32 _)
          refine u_iinc (y := v10) (vs' := [some (zR G.2.2.1 x0), some (.int (zO x2)), some (.int (zO v10))]) E ev10 (Wd_oldestLiving_dc.at 24 rfl) hl rfl (by decide) rfl (fun ls hl => ?_)
          refine r_goto (tgt := 4) E (Wd_oldestLiving_dc.at 25 rfl) (by decide) ?_
          exact hk4 _ x0 x2 v10 hx0 hx2 hv10 _ _ _ S9 (hl.sub (And.intro rfl (And.intro rfl (And.intro rfl True.intro)))) h
        · have h := ite_f h q
          obtain ⟨v11, ev11, h⟩ := lt1_e h
          have hv11 := inR_eq ev11 (inR_w32 _)
          refine u_iinc (y := v11) (vs' := [some (zR G.2.2.1 x0), some (.int (zO x1)), some (.int (zO v11))]) E ev11 (Wd_oldestLiving_dc.at 24 rfl) hl rfl (by decide) rfl (fun ls hl => ?_)
          refine r_goto (tgt := 4) E (Wd_oldestLiving_dc.at 25 rfl) (by decide) ?_
          exact hk4 _ x0 x1 v11 hx0 hx1 hv11 _ _ _ S9 (hl.sub (And.intro rfl (And.intro rfl (And.intro rfl True.intro)))) h
  · have h := ite_f h q
    refine u_il_n (x := x1) E (Wd_oldestLiving_dc.at 26 rfl) hl rfl ?_
    cases h
    exact r_iret E S hx1 (Wd_oldestLiving_dc.at 27 rfl)
theorem Wd_oldestLiving_l4_w (E : zEv p m c cX10_oldestLiving 3 s args RX10 meth (some .int) G) {res : Int} : ∀ (n : Nat) (M : zM) (x0 : Int) (x1 : Int) (x2 : Int), InR x0 → InR x1 → InR x2 → ∀ (H : Heap) (locs : List Loc) (ls : Array Slot), zS G top L M s H locs → zLV ls 3 [some (zR G.2.2.1 x0), some (.int (zO x1)), some (.int (zO x2))] → Wd_oldestLiving_l4 fu L n M x0 x1 x2 = some res → W p l e (zrm 2 0 0) s m args below meth c H locs 0 0 (MQ below (zQ G top L M (some (.int (zO res))) (InR res)) args s 0 0 (zA G)) (F0 m 4 ls [])
  | 0, _, _, _, _ => fun _ _ _ _ _ _ _ _ h => (by cases h)
  | n + 1, M, x0, x1, x2 => fun hx0 hx1 hx2 H locs ls S hl h => Wd_oldestLiving_s4_w E (fun M x0 x1 x2 hx0 hx1 hx2 H locs ls S hl h => Wd_oldestLiving_l4_w E n M x0 x1 x2 hx0 hx1 hx2 H locs ls S hl h) hx0 hx1 hx2 S hl h
theorem Wd_oldestLiving_w (E : zEv p m c cX10_oldestLiving 3 s args RX10 meth (some .int) G) {res : Int} {M : zM} {a0 : Int} {H : Heap} {locs : List Loc} {ls : Array Slot} (ha0 : InR a0) (S : zS G top L M s H locs) (hl : zLV ls 3 [some (zR G.2.2.1 a0), none, none]) (h : Wd_oldestLiving fu L M a0 = some res) : W p l e (zrm 2 0 0) s m args below meth c H locs 0 0 (MQ below (zQ G top L M (some (.int (zO res))) (InR res)) args s 0 0 (zA G)) (F0 m 0 ls []) := by
  unfold Wd_oldestLiving at h
  refine r_iconst E (Wd_oldestLiving_dc.at 0 rfl) ?_
  refine u_ist_n (y := (-1)) (vs' := [some (zR G.2.2.1 a0), some (.int (zO (-1))), none]) E rfl (Wd_oldestLiving_dc.at 1 rfl) hl (by decide) rfl (fun ls hl => ?_)
  refine r_iconst E (Wd_oldestLiving_dc.at 2 rfl) ?_
  refine u_ist_n (y := 0) (vs' := [some (zR G.2.2.1 a0), some (.int (zO (-1))), some (.int (zO 0))]) E rfl (Wd_oldestLiving_dc.at 3 rfl) hl (by decide) rfl (fun ls hl => ?_)
  exact Wd_oldestLiving_l4_w E fu _ a0 (-1) 0 ha0 (show InR (-1) by decide) (show InR 0 by decide) _ _ _ S (hl.sub (And.intro rfl (And.intro rfl (And.intro rfl True.intro)))) h
theorem Wd_oldestLiving_c (l : Launch) (G : zG) (fu : Nat) (top : Int) (L : zL) (M : zM) (a0 : Int) {res : Int} (ha0 : InR a0) (h : Wd_oldestLiving fu L M a0 = some res) : Met l yX10_oldestLiving (Cond.code yX10_oldestLiving cX10_oldestLiving 3 (some .int) :: zTB) (zrm 2 0 0) (va_Pc [zR G.2.2.1 a0] (zPre G top L M)) (zQ G top L M (some (.int (zO res))) (InR res)) 0 0 (zA G) :=
  z_met (by decide +kernel) (by simp [zR_cat, zcat_I, zcat_S]) (Nat.le_of_ble_eq_true rfl) fun p e s m below meth c ls E hn S hl => Wd_oldestLiving_w E ha0 S (hl.sub (And.intro rfl True.intro)) h
end
theorem Wd_livingPersons_dc : zDL cX10_livingPersons [(0, .iconst 0, 1, 1), (1, .istore_n 1, 1, 2), (2, .iconst 0, 1, 3), (3, .istore_n 2, 1, 4), (4, .iload_n 2, 1, 5), (5, .aload_n 0, 1, 6), (6, .getfield 25, 3, 9), (9, .if_icmp .ge 20, 3, 12), (12, .aload_n 0, 1, 13), (13, .iload_n 2, 1, 14), (14, .invokevirtual 59, 3, 17), (17, .ifCond .eq 6, 3, 20), (20, .iinc 1 1, 3, 23), (23, .iinc 2 1, 3, 26), (26, .goto (-22), 3, 29), (29, .iload_n 1, 1, 30), (30, .ireturn, 1, 31)] := zDL.of (by decide +kernel)
section
variable {p : Program} {l : Launch} {e : Env} {s : State} {m : MethodId} {args : Array Value} {below : List Frame} {meth : Method} {c : Code} {G : zG} {top : Int} {L : zL} {fu : Nat}
theorem Wd_livingPersons_s4_w (E : zEv p m c cX10_livingPersons 3 s args RX10 meth (some .int) G) {res : Int} {k4 : zM → Int → Int → Int → Option Int} (hk4 : ∀ (M : zM) (x0 : Int) (x1 : Int) (x2 : Int), InR x0 → InR x1 → InR x2 → ∀ (H : Heap) (locs : List Loc) (ls : Array Slot), zS G top L M s H locs → zLV ls 3 [some (zR G.2.2.1 x0), some (.int (zO x1)), some (.int (zO x2))] → k4 M x0 x1 x2 = some res → W p l e (zrm 2 0 0) s m args below meth c H locs 0 0 (MQ below (zQ G top L M (some (.int (zO res))) (InR res)) args s 0 0 (zA G)) (F0 m 4 ls [])) {M : zM} {x0 : Int} {x1 : Int} {x2 : Int} {H : Heap} {locs : List Loc} {ls : Array Slot} (hx0 : InR x0) (hx1 : InR x1) (hx2 : InR x2) (S : zS G top L M s H locs) (hl : zLV ls 3 [some (zR G.2.2.1 x0), some (.int (zO x1)), some (.int (zO x2))]) (h : Wd_livingPersons_s4 fu k4 L M x0 x1 x2 = some res) : W p l e (zrm 2 0 0) s m args below meth c H locs 0 0 (MQ below (zQ G top L M (some (.int (zO res))) (InR res)) args s 0 0 (zA G)) (F0 m 4 ls []) := by
  unfold Wd_livingPersons_s4 at h
  refine u_il_n (x := x2) E (Wd_livingPersons_dc.at 4 rfl) hl rfl ?_
  refine u_al_n (x := x0) E (Wd_livingPersons_dc.at 5 rfl) hl rfl ?_
  obtain ⟨g1, h⟩ := ite_e h
  refine u_gI E zf_10_4 S g1 zw_1_197 (Wd_livingPersons_dc.at 6 rfl) ?_
  refine r_icmp_ge (tgt := 29) E hx2 (S.1.inR _ _) (Wd_livingPersons_dc.at 7 rfl) (by decide) (fun q => ?_) (fun q => ?_)
  · have h := ite_t h q
    refine u_al_n (x := x0) E (Wd_livingPersons_dc.at 8 rfl) hl rfl ?_
    refine u_il_n (x := x2) E (Wd_livingPersons_dc.at 9 rfl) hl rfl ?_
    obtain ⟨r2, er2, h⟩ := bd1_e h
    refine u_cVI (As := [.int (zO x2)]) (rest := []) E S zcw_yX10_isAlive zw_4_146 zw_4_147 zw_4_145 zck_10.1 rfl g1 (Wd_isAlive_c l G fu top L M x0 x2 hx0 hx2 er2) (zrm_ok (by decide) (by decide)) ⟨Nat.le_refl 0, Nat.le_refl 0⟩ rfl (Nat.zero_le 8) hl.size rfl (Wd_livingPersons_dc.at 10 rfl) (fun H locs hr2 S3 => ?_)
    refine r_if_eq (tgt := 23) E (inR_01 hr2) (Wd_livingPersons_dc.at 11 rfl) (by decide) (fun q => ?_) (fun q => ?_)
    · have h := ite_t h q
      obtain ⟨v4, ev4, h⟩ := lt1_e h
      have hv4 := inR_eq ev4 (inR_w32 _)
      refine u_iinc (y := v4) (vs' := [some (zR G.2.2.1 x0), some (.int (zO x1)), some (.int (zO v4))]) E ev4 (Wd_livingPersons_dc.at 13 rfl) hl rfl (by decide) rfl (fun ls hl => ?_)
      refine r_goto (tgt := 4) E (Wd_livingPersons_dc.at 14 rfl) (by decide) ?_
      exact hk4 _ x0 x1 v4 hx0 hx1 hv4 _ _ _ S3 (hl.sub (And.intro rfl (And.intro rfl (And.intro rfl True.intro)))) h
    · have h := ite_f h q
      obtain ⟨v5, ev5, h⟩ := lt1_e h
      have hv5 := inR_eq ev5 (inR_w32 _)
      refine u_iinc (y := v5) (vs' := [some (zR G.2.2.1 x0), some (.int (zO v5)), some (.int (zO x2))]) E ev5 (Wd_livingPersons_dc.at 12 rfl) hl rfl (by decide) rfl (fun ls hl => ?_)
      obtain ⟨v6, ev6, h⟩ := lt1_e h
      have hv6 := inR_eq ev6 (inR_w32 _)
      refine u_iinc (y := v6) (vs' := [some (zR G.2.2.1 x0), some (.int (zO v5)), some (.int (zO v6))]) E ev6 (Wd_livingPersons_dc.at 13 rfl) hl rfl (by decide) rfl (fun ls hl => ?_)
      refine r_goto (tgt := 4) E (Wd_livingPersons_dc.at 14 rfl) (by decide) ?_
      exact hk4 _ x0 v5 v6 hx0 hv5 hv6 _ _ _ S3 (hl.sub (And.intro rfl (And.intro rfl (And.intro rfl True.intro)))) h
  · have h := ite_f h q
    refine u_il_n (x := x1) E (Wd_livingPersons_dc.at 15 rfl) hl rfl ?_
    cases h
    exact r_iret E S hx1 (Wd_livingPersons_dc.at 16 rfl)
theorem Wd_livingPersons_l4_w (E : zEv p m c cX10_livingPersons 3 s args RX10 meth (some .int) G) {res : Int} : ∀ (n : Nat) (M : zM) (x0 : Int) (x1 : Int) (x2 : Int), InR x0 → InR x1 → InR x2 → ∀ (H : Heap) (locs : List Loc) (ls : Array Slot), zS G top L M s H locs → zLV ls 3 [some (zR G.2.2.1 x0), some (.int (zO x1)), some (.int (zO x2))] → Wd_livingPersons_l4 fu L n M x0 x1 x2 = some res → W p l e (zrm 2 0 0) s m args below meth c H locs 0 0 (MQ below (zQ G top L M (some (.int (zO res))) (InR res)) args s 0 0 (zA G)) (F0 m 4 ls [])
  | 0, _, _, _, _ => fun _ _ _ _ _ _ _ _ h => (by cases h)
  | n + 1, M, x0, x1, x2 => fun hx0 hx1 hx2 H locs ls S hl h => Wd_livingPersons_s4_w E (fun M x0 x1 x2 hx0 hx1 hx2 H locs ls S hl h => Wd_livingPersons_l4_w E n M x0 x1 x2 hx0 hx1 hx2 H locs ls S hl h) hx0 hx1 hx2 S hl h
theorem Wd_livingPersons_w (E : zEv p m c cX10_livingPersons 3 s args RX10 meth (some .int) G) {res : Int} {M : zM} {a0 : Int} {H : Heap} {locs : List Loc} {ls : Array Slot} (ha0 : InR a0) (S : zS G top L M s H locs) (hl : zLV ls 3 [some (zR G.2.2.1 a0), none, none]) (h : Wd_livingPersons fu L M a0 = some res) : W p l e (zrm 2 0 0) s m args below meth c H locs 0 0 (MQ below (zQ G top L M (some (.int (zO res))) (InR res)) args s 0 0 (zA G)) (F0 m 0 ls []) := by
  unfold Wd_livingPersons at h
  refine r_iconst E (Wd_livingPersons_dc.at 0 rfl) ?_
  refine u_ist_n (y := 0) (vs' := [some (zR G.2.2.1 a0), some (.int (zO 0)), none]) E rfl (Wd_livingPersons_dc.at 1 rfl) hl (by decide) rfl (fun ls hl => ?_)
  refine r_iconst E (Wd_livingPersons_dc.at 2 rfl) ?_
  refine u_ist_n (y := 0) (vs' := [some (zR G.2.2.1 a0), some (.int (zO 0)), some (.int (zO 0))]) E rfl (Wd_livingPersons_dc.at 3 rfl) hl (by decide) rfl (fun ls hl => ?_)
  exact Wd_livingPersons_l4_w E fu _ a0 0 0 ha0 (show InR 0 by decide) (show InR 0 by decide) _ _ _ S (hl.sub (And.intro rfl (And.intro rfl (And.intro rfl True.intro)))) h
theorem Wd_livingPersons_c (l : Launch) (G : zG) (fu : Nat) (top : Int) (L : zL) (M : zM) (a0 : Int) {res : Int} (ha0 : InR a0) (h : Wd_livingPersons fu L M a0 = some res) : Met l yX10_livingPersons (Cond.code yX10_livingPersons cX10_livingPersons 3 (some .int) :: zTB) (zrm 2 0 0) (va_Pc [zR G.2.2.1 a0] (zPre G top L M)) (zQ G top L M (some (.int (zO res))) (InR res)) 0 0 (zA G) :=
  z_met (by decide +kernel) (by simp [zR_cat, zcat_I, zcat_S]) (Nat.le_of_ble_eq_true rfl) fun p e s m below meth c ls E hn S hl => Wd_livingPersons_w E ha0 S (hl.sub (And.intro rfl True.intro)) h
end
theorem Lx_goodGifts_dc : zDL cX11_goodGifts [(0, .iconst 0, 1, 1), (1, .istore_n 1, 1, 2), (2, .iconst 0, 1, 3), (3, .istore_n 2, 1, 4), (4, .iload_n 2, 1, 5), (5, .aload_n 0, 1, 6), (6, .getfield 42, 3, 9), (9, .getfield 133, 3, 12), (12, .if_icmp .ge 37, 3, 15), (15, .aload_n 0, 1, 16), (16, .iload_n 2, 1, 17), (17, .invokevirtual 266, 3, 20), (20, .ifCond .eq 23, 3, 23), (23, .aload_n 0, 1, 24), (24, .getfield 78, 3, 27), (27, .aload_n 0, 1, 28), (28, .getfield 78, 3, 31), (31, .invokevirtual 269, 3, 34), (34, .invokevirtual 272, 3, 37), (37, .ifCond .eq 6, 3, 40), (40, .iinc 1 1, 3, 43), (43, .iinc 2 1, 3, 46), (46, .goto (-42), 3, 49), (49, .iload_n 1, 1, 50), (50, .ireturn, 1, 51)] := zDL.of (by decide +kernel)
section
variable {p : Program} {l : Launch} {e : Env} {s : State} {m : MethodId} {args : Array Value} {below : List Frame} {meth : Method} {c : Code} {G : zG} {top : Int} {L : zL} {fu : Nat}
theorem Lx_goodGifts_s4_w (E : zEv p m c cX11_goodGifts 3 s args RX11 meth (some .int) G) {res : (zM × Int)} {k4 : zM → Int → Int → Int → Option (zM × Int)} (hk4 : ∀ (M : zM) (x0 : Int) (x1 : Int) (x2 : Int), InR x0 → InR x1 → InR x2 → ∀ (H : Heap) (locs : List Loc) (ls : Array Slot), zS G top L M s H locs → zLV ls 3 [some (zR G.2.2.1 x0), some (.int (zO x1)), some (.int (zO x2))] → k4 M x0 x1 x2 = some res → W p l e (zrm 7 0 0) s m args below meth c H locs 0 0 (MQ below (zQ G top L res.1 (some (.int (zO res.2))) (InR res.2)) args s 0 0 (zA G)) (F0 m 4 ls [])) {M : zM} {x0 : Int} {x1 : Int} {x2 : Int} {H : Heap} {locs : List Loc} {ls : Array Slot} (hx0 : InR x0) (hx1 : InR x1) (hx2 : InR x2) (S : zS G top L M s H locs) (hl : zLV ls 3 [some (zR G.2.2.1 x0), some (.int (zO x1)), some (.int (zO x2))]) (h : Lx_goodGifts_s4 fu k4 L M x0 x1 x2 = some res) : W p l e (zrm 7 0 0) s m args below meth c H locs 0 0 (MQ below (zQ G top L res.1 (some (.int (zO res.2))) (InR res.2)) args s 0 0 (zA G)) (F0 m 4 ls []) := by
  unfold Lx_goodGifts_s4 at h
  refine u_il_n (x := x2) E (Lx_goodGifts_dc.at 4 rfl) hl rfl ?_
  refine u_al_n (x := x0) E (Lx_goodGifts_dc.at 5 rfl) hl rfl ?_
  obtain ⟨g1, h⟩ := ite_e h
  refine u_gR E zf_11_4 S g1 zw_2_136 (Lx_goodGifts_dc.at 6 rfl) ?_
  obtain ⟨g2, h⟩ := ite_e h
  refine u_gI E zf_1_2 S g2 zw_1_226 (Lx_goodGifts_dc.at 7 rfl) ?_
  refine r_icmp_ge (tgt := 49) E hx2 (S.1.inR _ _) (Lx_goodGifts_dc.at 8 rfl) (by decide) (fun q => ?_) (fun q => ?_)
  · have h := ite_t h q
    refine u_al_n (x := x0) E (Lx_goodGifts_dc.at 9 rfl) hl rfl ?_
    refine u_il_n (x := x2) E (Lx_goodGifts_dc.at 10 rfl) hl rfl ?_
    obtain ⟨M4, r3, er3, h⟩ := bd2_e h
    refine u_cVI (As := [.int (zO x2)]) (rest := []) E S zcw_yX11_tryGift zw_5_126 zq_3_3 zw_5_124 zck_11.1 rfl g1 (Lx_tryGift_c l G fu top L M x0 x2 hx0 hx2 er3) (zrm_ok (by decide) (by decide)) ⟨Nat.le_refl 0, Nat.le_refl 0⟩ rfl (Nat.zero_le 8) hl.size rfl (Lx_goodGifts_dc.at 11 rfl) (fun H locs hr3 S5 => ?_)
    refine r_if_eq (tgt := 43) E (inR_01 hr3) (Lx_goodGifts_dc.at 12 rfl) (by decide) (fun q => ?_) (fun q => ?_)
    · have h := ite_t h q
      obtain ⟨v6, ev6, h⟩ := lt1_e h
      have hv6 := inR_eq ev6 (inR_w32 _)
      refine u_iinc (y := v6) (vs' := [some (zR G.2.2.1 x0), some (.int (zO x1)), some (.int (zO v6))]) E ev6 (Lx_goodGifts_dc.at 21 rfl) hl rfl (by decide) rfl (fun ls hl => ?_)
      refine r_goto (tgt := 4) E (Lx_goodGifts_dc.at 22 rfl) (by decide) ?_
      exact hk4 _ x0 x1 v6 hx0 hx1 hv6 _ _ _ S5 (hl.sub (And.intro rfl (And.intro rfl (And.intro rfl True.intro)))) h
    · have h := ite_f h q
      refine u_al_n (x := x0) E (Lx_goodGifts_dc.at 13 rfl) hl rfl ?_
      refine u_gR E zf_11_9 S5 g1 zw_2_141 (Lx_goodGifts_dc.at 14 rfl) ?_
      refine u_al_n (x := x0) E (Lx_goodGifts_dc.at 15 rfl) hl rfl ?_
      refine u_gR E zf_11_9 S5 g1 zw_2_141 (Lx_goodGifts_dc.at 16 rfl) ?_
      obtain ⟨g7, h⟩ := ite_e h
      obtain ⟨r8, er8, h⟩ := bd1_e h
      refine u_cVI (As := []) (rest := [zR G.2.2.1 (M4 x0 9)]) E S5 zcw_yX8_allLives zw_5_151 zw_5_152 zw_5_150 zck_8.1 rfl g7 (Tr_allLives_c l G fu top L M4 (M4 x0 9) (S5.1.inR _ _) er8) (zrm_ok (by decide) (by decide)) ⟨Nat.le_refl 0, Nat.le_refl 0⟩ rfl (by simp [zR_cat, zcat_I, zcat_J, zcat_S]) hl.size rfl (Lx_goodGifts_dc.at 17 rfl) (fun H locs hr8 S9 => ?_)
      obtain ⟨M11, r10, er10, h⟩ := bd2_e h
      refine u_cVI (As := [.int (zO r8)]) (rest := []) E S9 zcw_yX8_passes zw_5_156 zw_5_157 zw_5_155 zck_8.1 rfl g7 (Tr_passes_c l G fu top L M4 (M4 x0 9) r8 (S5.1.inR _ _) hr8 er10) (zrm_ok (by decide) (by decide)) ⟨Nat.le_refl 0, Nat.le_refl 0⟩ rfl (Nat.zero_le 8) hl.size rfl (Lx_goodGifts_dc.at 18 rfl) (fun H locs hr10 S12 => ?_)
      refine r_if_eq (tgt := 43) E (inR_01 hr10) (Lx_goodGifts_dc.at 19 rfl) (by decide) (fun q => ?_) (fun q => ?_)
      · have h := ite_t h q
        obtain ⟨v13, ev13, h⟩ := lt1_e h
        have hv13 := inR_eq ev13 (inR_w32 _)
        refine u_iinc (y := v13) (vs' := [some (zR G.2.2.1 x0), some (.int (zO x1)), some (.int (zO v13))]) E ev13 (Lx_goodGifts_dc.at 21 rfl) hl rfl (by decide) rfl (fun ls hl => ?_)
        refine r_goto (tgt := 4) E (Lx_goodGifts_dc.at 22 rfl) (by decide) ?_
        exact hk4 _ x0 x1 v13 hx0 hx1 hv13 _ _ _ S12 (hl.sub (And.intro rfl (And.intro rfl (And.intro rfl True.intro)))) h
      · have h := ite_f h q
        obtain ⟨v14, ev14, h⟩ := lt1_e h
        have hv14 := inR_eq ev14 (inR_w32 _)
        refine u_iinc (y := v14) (vs' := [some (zR G.2.2.1 x0), some (.int (zO v14)), some (.int (zO x2))]) E ev14 (Lx_goodGifts_dc.at 20 rfl) hl rfl (by decide) rfl (fun ls hl => ?_)
        obtain ⟨v15, ev15, h⟩ := lt1_e h
        have hv15 := inR_eq ev15 (inR_w32 _)
        refine u_iinc (y := v15) (vs' := [some (zR G.2.2.1 x0), some (.int (zO v14)), some (.int (zO v15))]) E ev15 (Lx_goodGifts_dc.at 21 rfl) hl rfl (by decide) rfl (fun ls hl => ?_)
        refine r_goto (tgt := 4) E (Lx_goodGifts_dc.at 22 rfl) (by decide) ?_
        exact hk4 _ x0 v14 v15 hx0 hv14 hv15 _ _ _ S12 (hl.sub (And.intro rfl (And.intro rfl (And.intro rfl True.intro)))) h
  · have h := ite_f h q
    refine u_il_n (x := x1) E (Lx_goodGifts_dc.at 23 rfl) hl rfl ?_
    cases h
    exact r_iret E S hx1 (Lx_goodGifts_dc.at 24 rfl)
theorem Lx_goodGifts_l4_w (E : zEv p m c cX11_goodGifts 3 s args RX11 meth (some .int) G) {res : (zM × Int)} : ∀ (n : Nat) (M : zM) (x0 : Int) (x1 : Int) (x2 : Int), InR x0 → InR x1 → InR x2 → ∀ (H : Heap) (locs : List Loc) (ls : Array Slot), zS G top L M s H locs → zLV ls 3 [some (zR G.2.2.1 x0), some (.int (zO x1)), some (.int (zO x2))] → Lx_goodGifts_l4 fu L n M x0 x1 x2 = some res → W p l e (zrm 7 0 0) s m args below meth c H locs 0 0 (MQ below (zQ G top L res.1 (some (.int (zO res.2))) (InR res.2)) args s 0 0 (zA G)) (F0 m 4 ls [])
  | 0, _, _, _, _ => fun _ _ _ _ _ _ _ _ h => (by cases h)
  | n + 1, M, x0, x1, x2 => fun hx0 hx1 hx2 H locs ls S hl h => Lx_goodGifts_s4_w E (fun M x0 x1 x2 hx0 hx1 hx2 H locs ls S hl h => Lx_goodGifts_l4_w E n M x0 x1 x2 hx0 hx1 hx2 H locs ls S hl h) hx0 hx1 hx2 S hl h
theorem Lx_goodGifts_w (E : zEv p m c cX11_goodGifts 3 s args RX11 meth (some .int) G) {res : (zM × Int)} {M : zM} {a0 : Int} {H : Heap} {locs : List Loc} {ls : Array Slot} (ha0 : InR a0) (S : zS G top L M s H locs) (hl : zLV ls 3 [some (zR G.2.2.1 a0), none, none]) (h : Lx_goodGifts fu L M a0 = some res) : W p l e (zrm 7 0 0) s m args below meth c H locs 0 0 (MQ below (zQ G top L res.1 (some (.int (zO res.2))) (InR res.2)) args s 0 0 (zA G)) (F0 m 0 ls []) := by
  unfold Lx_goodGifts at h
  refine r_iconst E (Lx_goodGifts_dc.at 0 rfl) ?_
  refine u_ist_n (y := 0) (vs' := [some (zR G.2.2.1 a0), some (.int (zO 0)), none]) E rfl (Lx_goodGifts_dc.at 1 rfl) hl (by decide) rfl (fun ls hl => ?_)
  refine r_iconst E (Lx_goodGifts_dc.at 2 rfl) ?_
  refine u_ist_n (y := 0) (vs' := [some (zR G.2.2.1 a0), some (.int (zO 0)), some (.int (zO 0))]) E rfl (Lx_goodGifts_dc.at 3 rfl) hl (by decide) rfl (fun ls hl => ?_)
  exact Lx_goodGifts_l4_w E fu _ a0 0 0 ha0 (show InR 0 by decide) (show InR 0 by decide) _ _ _ S (hl.sub (And.intro rfl (And.intro rfl (And.intro rfl True.intro)))) h
theorem Lx_goodGifts_c (l : Launch) (G : zG) (fu : Nat) (top : Int) (L : zL) (M : zM) (a0 : Int) {res : (zM × Int)} (ha0 : InR a0) (h : Lx_goodGifts fu L M a0 = some res) : Met l yX11_goodGifts (Cond.code yX11_goodGifts cX11_goodGifts 3 (some .int) :: zTB) (zrm 7 0 0) (va_Pc [zR G.2.2.1 a0] (zPre G top L M)) (zQ G top L res.1 (some (.int (zO res.2))) (InR res.2)) 0 0 (zA G) :=
  z_met (by decide +kernel) (by simp [zR_cat, zcat_I, zcat_S]) (Nat.le_of_ble_eq_true rfl) fun p e s m below meth c ls E hn S hl => Lx_goodGifts_w E ha0 S (hl.sub (And.intro rfl True.intro)) h
end
theorem Lx_lateGifts_dc : zDL cX11_lateGifts [(0, .iconst 0, 1, 1), (1, .istore_n 1, 1, 2), (2, .iconst 0, 1, 3), (3, .istore_n 2, 1, 4), (4, .iload_n 2, 1, 5), (5, .aload_n 0, 1, 6), (6, .getfield 42, 3, 9), (9, .getfield 133, 3, 12), (12, .if_icmp .ge 31, 3, 15), (15, .aload_n 0, 1, 16), (16, .iload_n 2, 1, 17), (17, .invokevirtual 226, 3, 20), (20, .ifCond .eq 17, 3, 23), (23, .aload_n 0, 1, 24), (24, .getfield 71, 3, 27), (27, .invokevirtual 245, 3, 30), (30, .iconst 2, 1, 31), (31, .if_icmp .ne 6, 3, 34), (34, .iinc 1 1, 3, 37), (37, .iinc 2 1, 3, 40), (40, .goto (-36), 3, 43), (43, .iload_n 1, 1, 44), (44, .ireturn, 1, 45)] := zDL.of (by decide +kernel)
section
variable {p : Program} {l : Launch} {e : Env} {s : State} {m : MethodId} {args : Array Value} {below : List Frame} {meth : Method} {c : Code} {G : zG} {top : Int} {L : zL} {fu : Nat}
theorem Lx_lateGifts_s4_w (E : zEv p m c cX11_lateGifts 3 s args RX11 meth (some .int) G) {res : (zM × Int)} {k4 : zM → Int → Int → Int → Option (zM × Int)} (hk4 : ∀ (M : zM) (x0 : Int) (x1 : Int) (x2 : Int), InR x0 → InR x1 → InR x2 → ∀ (H : Heap) (locs : List Loc) (ls : Array Slot), zS G top L M s H locs → zLV ls 3 [some (zR G.2.2.1 x0), some (.int (zO x1)), some (.int (zO x2))] → k4 M x0 x1 x2 = some res → W p l e (zrm 6 0 0) s m args below meth c H locs 0 0 (MQ below (zQ G top L res.1 (some (.int (zO res.2))) (InR res.2)) args s 0 0 (zA G)) (F0 m 4 ls [])) {M : zM} {x0 : Int} {x1 : Int} {x2 : Int} {H : Heap} {locs : List Loc} {ls : Array Slot} (hx0 : InR x0) (hx1 : InR x1) (hx2 : InR x2) (S : zS G top L M s H locs) (hl : zLV ls 3 [some (zR G.2.2.1 x0), some (.int (zO x1)), some (.int (zO x2))]) (h : Lx_lateGifts_s4 fu k4 L M x0 x1 x2 = some res) : W p l e (zrm 6 0 0) s m args below meth c H locs 0 0 (MQ below (zQ G top L res.1 (some (.int (zO res.2))) (InR res.2)) args s 0 0 (zA G)) (F0 m 4 ls []) := by
  unfold Lx_lateGifts_s4 at h
  refine u_il_n (x := x2) E (Lx_lateGifts_dc.at 4 rfl) hl rfl ?_
  refine u_al_n (x := x0) E (Lx_lateGifts_dc.at 5 rfl) hl rfl ?_
  obtain ⟨g1, h⟩ := ite_e h
  refine u_gR E zf_11_4 S g1 zw_2_136 (Lx_lateGifts_dc.at 6 rfl) ?_
  obtain ⟨g2, h⟩ := ite_e h
  refine u_gI E zf_1_2 S g2 zw_1_226 (Lx_lateGifts_dc.at 7 rfl) ?_
  refine r_icmp_ge (tgt := 43) E hx2 (S.1.inR _ _) (Lx_lateGifts_dc.at 8 rfl) (by decide) (fun q => ?_) (fun q => ?_)
  · have h := ite_t h q
    refine u_al_n (x := x0) E (Lx_lateGifts_dc.at 9 rfl) hl rfl ?_
    refine u_il_n (x := x2) E (Lx_lateGifts_dc.at 10 rfl) hl rfl ?_
    obtain ⟨M4, r3, er3, h⟩ := bd2_e h
    refine u_cVI (As := [.int (zO x2)]) (rest := []) E S zcw_yX11_waitFor zw_4_206 zq_2_13 zw_4_204 zck_11.1 rfl g1 (Lx_waitFor_c l G fu top L M x0 x2 hx0 hx2 er3) (zrm_ok (by decide) (by decide)) ⟨Nat.le_refl 0, Nat.le_refl 0⟩ rfl (Nat.zero_le 8) hl.size rfl (Lx_lateGifts_dc.at 11 rfl) (fun H locs hr3 S5 => ?_)
    refine r_if_eq (tgt := 37) E (inR_01 hr3) (Lx_lateGifts_dc.at 12 rfl) (by decide) (fun q => ?_) (fun q => ?_)
    · have h := ite_t h q
      obtain ⟨v6, ev6, h⟩ := lt1_e h
      have hv6 := inR_eq ev6 (inR_w32 _)
      refine u_iinc (y := v6) (vs' := [some (zR G.2.2.1 x0), some (.int (zO x1)), some (.int (zO v6))]) E ev6 (Lx_lateGifts_dc.at 19 rfl) hl rfl (by decide) rfl (fun ls hl => ?_)
      refine r_goto (tgt := 4) E (Lx_lateGifts_dc.at 20 rfl) (by decide) ?_
      exact hk4 _ x0 x1 v6 hx0 hx1 hv6 _ _ _ S5 (hl.sub (And.intro rfl (And.intro rfl (And.intro rfl True.intro)))) h
    · have h := ite_f h q
      refine u_al_n (x := x0) E (Lx_lateGifts_dc.at 13 rfl) hl rfl ?_
      refine u_gR E zf_11_8 S5 g1 zw_2_140 (Lx_lateGifts_dc.at 14 rfl) ?_
      obtain ⟨g7, h⟩ := ite_e h
      obtain ⟨r8, er8, h⟩ := bd1_e h
      refine u_cVI (As := []) (rest := []) E S5 zcw_yX9_standing zw_5_53 zw_5_54 zw_5_52 zck_9.1 rfl g7 (Wt_standing_c l G fu top L M4 (M4 x0 8) (S5.1.inR _ _) er8) (zrm_ok (by decide) (by decide)) ⟨Nat.le_refl 0, Nat.le_refl 0⟩ rfl (Nat.zero_le 8) hl.size rfl (Lx_lateGifts_dc.at 15 rfl) (fun H locs hr8 S9 => ?_)
      refine r_iconst E (Lx_lateGifts_dc.at 16 rfl) ?_
      refine r_icmp_ne (tgt := 37) E hr8 (show InR 2 by decide) (Lx_lateGifts_dc.at 17 rfl) (by decide) (fun q => ?_) (fun q => ?_)
      · have h := ite_t h q
        obtain ⟨v10, ev10, h⟩ := lt1_e h
        have hv10 := inR_eq ev10 (inR_w32 _)
        refine u_iinc (y := v10) (vs' := [some (zR G.2.2.1 x0), some (.int (zO v10)), some (.int (zO x2))]) E ev10 (Lx_lateGifts_dc.at 18 rfl) hl rfl (by decide) rfl (fun ls hl => ?_)
        obtain ⟨v11, ev11, h⟩ := lt1_e h
        have hv11 := inR_eq ev11 (inR_w32 _)
        refine u_iinc (y := v11) (vs' := [some (zR G.2.2.1 x0), some (.int (zO v10)), some (.int (zO v11))]) E ev11 (Lx_lateGifts_dc.at 19 rfl) hl rfl (by decide) rfl (fun ls hl => ?_)
        refine r_goto (tgt := 4) E (Lx_lateGifts_dc.at 20 rfl) (by decide) ?_
        exact hk4 _ x0 v10 v11 hx0 hv10 hv11 _ _ _ S9 (hl.sub (And.intro rfl (And.intro rfl (And.intro rfl True.intro)))) h
      · have h := ite_f h q
        obtain ⟨v12, ev12, h⟩ := lt1_e h
        have hv12 := inR_eq ev12 (inR_w32 _)
        refine u_iinc (y := v12) (vs' := [some (zR G.2.2.1 x0), some (.int (zO x1)), some (.int (zO v12))]) E ev12 (Lx_lateGifts_dc.at 19 rfl) hl rfl (by decide) rfl (fun ls hl => ?_)
        refine r_goto (tgt := 4) E (Lx_lateGifts_dc.at 20 rfl) (by decide) ?_
        exact hk4 _ x0 x1 v12 hx0 hx1 hv12 _ _ _ S9 (hl.sub (And.intro rfl (And.intro rfl (And.intro rfl True.intro)))) h
  · have h := ite_f h q
    refine u_il_n (x := x1) E (Lx_lateGifts_dc.at 21 rfl) hl rfl ?_
    cases h
    exact r_iret E S hx1 (Lx_lateGifts_dc.at 22 rfl)
theorem Lx_lateGifts_l4_w (E : zEv p m c cX11_lateGifts 3 s args RX11 meth (some .int) G) {res : (zM × Int)} : ∀ (n : Nat) (M : zM) (x0 : Int) (x1 : Int) (x2 : Int), InR x0 → InR x1 → InR x2 → ∀ (H : Heap) (locs : List Loc) (ls : Array Slot), zS G top L M s H locs → zLV ls 3 [some (zR G.2.2.1 x0), some (.int (zO x1)), some (.int (zO x2))] → Lx_lateGifts_l4 fu L n M x0 x1 x2 = some res → W p l e (zrm 6 0 0) s m args below meth c H locs 0 0 (MQ below (zQ G top L res.1 (some (.int (zO res.2))) (InR res.2)) args s 0 0 (zA G)) (F0 m 4 ls [])
  | 0, _, _, _, _ => fun _ _ _ _ _ _ _ _ h => (by cases h)
  | n + 1, M, x0, x1, x2 => fun hx0 hx1 hx2 H locs ls S hl h => Lx_lateGifts_s4_w E (fun M x0 x1 x2 hx0 hx1 hx2 H locs ls S hl h => Lx_lateGifts_l4_w E n M x0 x1 x2 hx0 hx1 hx2 H locs ls S hl h) hx0 hx1 hx2 S hl h
theorem Lx_lateGifts_w (E : zEv p m c cX11_lateGifts 3 s args RX11 meth (some .int) G) {res : (zM × Int)} {M : zM} {a0 : Int} {H : Heap} {locs : List Loc} {ls : Array Slot} (ha0 : InR a0) (S : zS G top L M s H locs) (hl : zLV ls 3 [some (zR G.2.2.1 a0), none, none]) (h : Lx_lateGifts fu L M a0 = some res) : W p l e (zrm 6 0 0) s m args below meth c H locs 0 0 (MQ below (zQ G top L res.1 (some (.int (zO res.2))) (InR res.2)) args s 0 0 (zA G)) (F0 m 0 ls []) := by
  unfold Lx_lateGifts at h
  refine r_iconst E (Lx_lateGifts_dc.at 0 rfl) ?_
  refine u_ist_n (y := 0) (vs' := [some (zR G.2.2.1 a0), some (.int (zO 0)), none]) E rfl (Lx_lateGifts_dc.at 1 rfl) hl (by decide) rfl (fun ls hl => ?_)
  refine r_iconst E (Lx_lateGifts_dc.at 2 rfl) ?_
  refine u_ist_n (y := 0) (vs' := [some (zR G.2.2.1 a0), some (.int (zO 0)), some (.int (zO 0))]) E rfl (Lx_lateGifts_dc.at 3 rfl) hl (by decide) rfl (fun ls hl => ?_)
  exact Lx_lateGifts_l4_w E fu _ a0 0 0 ha0 (show InR 0 by decide) (show InR 0 by decide) _ _ _ S (hl.sub (And.intro rfl (And.intro rfl (And.intro rfl True.intro)))) h
theorem Lx_lateGifts_c (l : Launch) (G : zG) (fu : Nat) (top : Int) (L : zL) (M : zM) (a0 : Int) {res : (zM × Int)} (ha0 : InR a0) (h : Lx_lateGifts fu L M a0 = some res) : Met l yX11_lateGifts (Cond.code yX11_lateGifts cX11_lateGifts 3 (some .int) :: zTB) (zrm 6 0 0) (va_Pc [zR G.2.2.1 a0] (zPre G top L M)) (zQ G top L res.1 (some (.int (zO res.2))) (InR res.2)) 0 0 (zA G) :=
  z_met (by decide +kernel) (by simp [zR_cat, zcat_I, zcat_S]) (Nat.le_of_ble_eq_true rfl) fun p e s m below meth c ls E hn S hl => Lx_lateGifts_w E ha0 S (hl.sub (And.intro rfl True.intro)) h
end
theorem Af_longestGift_dc : zDL cX1_longestGift [(0, .iconst (-1), 1, 1), (1, .istore_n 1, 1, 2), (2, .iconst (-1), 1, 3), (3, .istore_n 2, 1, 4), (4, .iconst 0, 1, 5), (5, .istore_n 3, 1, 6), (6, .iload_n 3, 1, 7), (7, .aload_n 0, 1, 8), (8, .getfield 27, 3, 11), (11, .if_icmp .ge 38, 3, 14), (14, .aload_n 0, 1, 15), (15, .iload_n 3, 1, 16), (16, .invokevirtual 41, 3, 19), (19, .astore 4, 2, 21), (21, .aload 4, 2, 23), (23, .ifnull 20, 3, 26), (26, .aload 4, 2, 28), (28, .getfield 49, 3, 31), (31, .iload_n 2, 1, 32), (32, .if_icmp .le 11, 3, 35), (35, .iload_n 3, 1, 36), (36, .istore_n 1, 1, 37), (37, .aload 4, 2, 39), (39, .getfield 49, 3, 42), (42, .istore_n 2, 1, 43), (43, .iinc 3 1, 3, 46), (46, .goto (-40), 3, 49), (49, .iload_n 1, 1, 50), (50, .ireturn, 1, 51)] := zDL.of (by decide +kernel)
section
variable {p : Program} {l : Launch} {e : Env} {s : State} {m : MethodId} {args : Array Value} {below : List Frame} {meth : Method} {c : Code} {G : zG} {top : Int} {L : zL} {fu : Nat}
theorem Af_longestGift_s6_w (E : zEv p m c cX1_longestGift 5 s args RX1 meth (some .int) G) {res : Int} {k6 : zM → Int → Int → Int → Int → Option Int} (hk6 : ∀ (M : zM) (x0 : Int) (x1 : Int) (x2 : Int) (x3 : Int), InR x0 → InR x1 → InR x2 → InR x3 → ∀ (H : Heap) (locs : List Loc) (ls : Array Slot), zS G top L M s H locs → zLV ls 5 [some (zR G.2.2.1 x0), some (.int (zO x1)), some (.int (zO x2)), some (.int (zO x3)), none] → k6 M x0 x1 x2 x3 = some res → W p l e (zrm 2 0 0) s m args below meth c H locs 0 0 (MQ below (zQ G top L M (some (.int (zO res))) (InR res)) args s 0 0 (zA G)) (F0 m 6 ls [])) {M : zM} {x0 : Int} {x1 : Int} {x2 : Int} {x3 : Int} {H : Heap} {locs : List Loc} {ls : Array Slot} (hx0 : InR x0) (hx1 : InR x1) (hx2 : InR x2) (hx3 : InR x3) (S : zS G top L M s H locs) (hl : zLV ls 5 [some (zR G.2.2.1 x0), some (.int (zO x1)), some (.int (zO x2)), some (.int (zO x3)), none]) (h : Af_longestGift_s6 fu k6 L M x0 x1 x2 x3 = some res) : W p l e (zrm 2 0 0) s m args below meth c H locs 0 0 (MQ below (zQ G top L M (some (.int (zO res))) (InR res)) args s 0 0 (zA G)) (F0 m 6 ls []) := by
  unfold Af_longestGift_s6 at h
  refine u_il_n (x := x3) E (Af_longestGift_dc.at 6 rfl) hl rfl ?_
  refine u_al_n (x := x0) E (Af_longestGift_dc.at 7 rfl) hl rfl ?_
  obtain ⟨g1, h⟩ := ite_e h
  refine u_gI E zf_1_2 S g1 zw_1_225 (Af_longestGift_dc.at 8 rfl) ?_
  refine r_icmp_ge (tgt := 49) E hx3 (S.1.inR _ _) (Af_longestGift_dc.at 9 rfl) (by decide) (fun q => ?_) (fun q => ?_)
  · have h := ite_t h q
    refine u_al_n (x := x0) E (Af_longestGift_dc.at 10 rfl) hl rfl ?_
    refine u_il_n (x := x3) E (Af_longestGift_dc.at 11 rfl) hl rfl ?_
    obtain ⟨r2, er2, h⟩ := bd1_e h
    refine u_cVR (As := [.int (zO x3)]) (rest := []) E S zcw_yX1_giftAt zw_4_39 zw_4_40 zw_4_38 zck_1.1 rfl g1 (Af_giftAt_c l G fu top L M x0 x3 hx0 hx3 er2) (zrm_ok (by decide) (by decide)) ⟨Nat.le_refl 0, Nat.le_refl 0⟩ rfl (Nat.zero_le 8) hl.size rfl (Af_longestGift_dc.at 12 rfl) (fun H locs hr2 S3 => ?_)
    refine u_ast (y := r2) (vs' := [some (zR G.2.2.1 x0), some (.int (zO x1)), some (.int (zO x2)), some (.int (zO x3)), some (zR G.2.2.1 r2)]) E rfl (Af_longestGift_dc.at 13 rfl) hl (by decide) rfl (fun ls hl => ?_)
    refine u_al (x := r2) E (Af_longestGift_dc.at 14 rfl) hl rfl ?_
    refine r_ifnull (tgt := 43) E (Af_longestGift_dc.at 15 rfl) (by decide) (fun q => ?_) (fun q => ?_)
    · have h := ite_t h q
      obtain ⟨v4, ev4, h⟩ := lt1_e h
      have hv4 := inR_eq ev4 (inR_w32 _)
      refine u_iinc (y := v4) (vs' := [some (zR G.2.2.1 x0), some (.int (zO x1)), some (.int (zO x2)), some (.int (zO v4)), some (zR G.2.2.1 r2)]) E ev4 (Af_longestGift_dc.at 25 rfl) hl rfl (by decide) rfl (fun ls hl => ?_)
      refine r_goto (tgt := 6) E (Af_longestGift_dc.at 26 rfl) (by decide) ?_
      exact hk6 _ x0 x1 x2 v4 hx0 hx1 hx2 hv4 _ _ _ S3 (hl.sub (And.intro rfl (And.intro rfl (And.intro rfl (And.intro rfl True.intro))))) h
    · have h := ite_f h q
      refine u_al (x := r2) E (Af_longestGift_dc.at 16 rfl) hl rfl ?_
      obtain ⟨g5, h⟩ := ite_e h
      refine u_gI E zf_3_2 S3 g5 zw_4_82 (Af_longestGift_dc.at 17 rfl) ?_
      refine u_il_n (x := x2) E (Af_longestGift_dc.at 18 rfl) hl rfl ?_
      refine r_icmp_le (tgt := 43) E (S3.1.inR _ _) hx2 (Af_longestGift_dc.at 19 rfl) (by decide) (fun q => ?_) (fun q => ?_)
      · have h := ite_t h q
        refine u_il_n (x := x3) E (Af_longestGift_dc.at 20 rfl) hl rfl ?_
        refine u_ist_n (y := x3) (vs' := [some (zR G.2.2.1 x0), some (.int (zO x3)), some (.int (zO x2)), some (.int (zO x3)), some (zR G.2.2.1 r2)]) E rfl (Af_longestGift_dc.at 21 rfl) hl (by decide) rfl (fun ls hl => ?_)
        refine u_al (x := r2) E (Af_longestGift_dc.at 22 rfl) hl rfl ?_
        refine u_gI E zf_3_2 S3 g5 zw_4_82 (Af_longestGift_dc.at 23 rfl) ?_
        obtain ⟨v6, ev6, h⟩ := lt1_e h
        have hv6 := inR_eq ev6 (S3.1.inR _ _)
        refine u_ist_n (y := v6) (vs' := [some (zR G.2.2.1 x0), some (.int (zO x3)), some (.int (zO v6)), some (.int (zO x3)), some (zR G.2.2.1 r2)]) E ev6 (Af_longestGift_dc.at 24 rfl) hl (by decide) rfl (fun ls hl => ?_)
        obtain ⟨v7, ev7, h⟩ := lt1_e h
        have hv7 := inR_eq ev7 (inR_w32 _)
        refine u_iinc (y := v7) (vs' := [some (zR G.2.2.1 x0), some (.int (zO x3)), some (.int (zO v6)), some (.int (zO v7)), some (zR G.2.2.1 r2)]) E ev7 (Af_longestGift_dc.at 25 rfl) hl rfl (by decide) rfl (fun ls hl => ?_)
        refine r_goto (tgt := 6) E (Af_longestGift_dc.at 26 rfl) (by decide) ?_
        exact hk6 _ x0 x3 v6 v7 hx0 hx3 hv6 hv7 _ _ _ S3 (hl.sub (And.intro rfl (And.intro rfl (And.intro rfl (And.intro rfl True.intro))))) h
      · have h := ite_f h q
        obtain ⟨v8, ev8, h⟩ := lt1_e h
        have hv8 := inR_eq ev8 (inR_w32 _)
        refine u_iinc (y := v8) (vs' := [some (zR G.2.2.1 x0), some (.int (zO x1)), some (.int (zO x2)), some (.int (zO v8)), some (zR G.2.2.1 r2)]) E ev8 (Af_longestGift_dc.at 25 rfl) hl rfl (by decide) rfl (fun ls hl => ?_)
        refine r_goto (tgt := 6) E (Af_longestGift_dc.at 26 rfl) (by decide) ?_
        exact hk6 _ x0 x1 x2 v8 hx0 hx1 hx2 hv8 _ _ _ S3 (hl.sub (And.intro rfl (And.intro rfl (And.intro rfl (And.intro rfl True.intro))))) h
  · have h := ite_f h q
    refine u_il_n (x := x1) E (Af_longestGift_dc.at 27 rfl) hl rfl ?_
    cases h
    exact r_iret E S hx1 (Af_longestGift_dc.at 28 rfl)
theorem Af_longestGift_l6_w (E : zEv p m c cX1_longestGift 5 s args RX1 meth (some .int) G) {res : Int} : ∀ (n : Nat) (M : zM) (x0 : Int) (x1 : Int) (x2 : Int) (x3 : Int), InR x0 → InR x1 → InR x2 → InR x3 → ∀ (H : Heap) (locs : List Loc) (ls : Array Slot), zS G top L M s H locs → zLV ls 5 [some (zR G.2.2.1 x0), some (.int (zO x1)), some (.int (zO x2)), some (.int (zO x3)), none] → Af_longestGift_l6 fu L n M x0 x1 x2 x3 = some res → W p l e (zrm 2 0 0) s m args below meth c H locs 0 0 (MQ below (zQ G top L M (some (.int (zO res))) (InR res)) args s 0 0 (zA G)) (F0 m 6 ls [])
  | 0, _, _, _, _, _ => fun _ _ _ _ _ _ _ _ _ h => (by cases h)
  | n + 1, M, x0, x1, x2, x3 => fun hx0 hx1 hx2 hx3 H locs ls S hl h => Af_longestGift_s6_w E (fun M x0 x1 x2 x3 hx0 hx1 hx2 hx3 H locs ls S hl h => Af_longestGift_l6_w E n M x0 x1 x2 x3 hx0 hx1 hx2 hx3 H locs ls S hl h) hx0 hx1 hx2 hx3 S hl h
theorem Af_longestGift_w (E : zEv p m c cX1_longestGift 5 s args RX1 meth (some .int) G) {res : Int} {M : zM} {a0 : Int} {H : Heap} {locs : List Loc} {ls : Array Slot} (ha0 : InR a0) (S : zS G top L M s H locs) (hl : zLV ls 5 [some (zR G.2.2.1 a0), none, none, none, none]) (h : Af_longestGift fu L M a0 = some res) : W p l e (zrm 2 0 0) s m args below meth c H locs 0 0 (MQ below (zQ G top L M (some (.int (zO res))) (InR res)) args s 0 0 (zA G)) (F0 m 0 ls []) := by
  unfold Af_longestGift at h
  refine r_iconst E (Af_longestGift_dc.at 0 rfl) ?_
  refine u_ist_n (y := (-1)) (vs' := [some (zR G.2.2.1 a0), some (.int (zO (-1))), none, none, none]) E rfl (Af_longestGift_dc.at 1 rfl) hl (by decide) rfl (fun ls hl => ?_)
  refine r_iconst E (Af_longestGift_dc.at 2 rfl) ?_
  refine u_ist_n (y := (-1)) (vs' := [some (zR G.2.2.1 a0), some (.int (zO (-1))), some (.int (zO (-1))), none, none]) E rfl (Af_longestGift_dc.at 3 rfl) hl (by decide) rfl (fun ls hl => ?_)
  refine r_iconst E (Af_longestGift_dc.at 4 rfl) ?_
  refine u_ist_n (y := 0) (vs' := [some (zR G.2.2.1 a0), some (.int (zO (-1))), some (.int (zO (-1))), some (.int (zO 0)), none]) E rfl (Af_longestGift_dc.at 5 rfl) hl (by decide) rfl (fun ls hl => ?_)
  exact Af_longestGift_l6_w E fu _ a0 (-1) (-1) 0 ha0 (show InR (-1) by decide) (show InR (-1) by decide) (show InR 0 by decide) _ _ _ S (hl.sub (And.intro rfl (And.intro rfl (And.intro rfl (And.intro rfl True.intro))))) h
theorem Af_longestGift_c (l : Launch) (G : zG) (fu : Nat) (top : Int) (L : zL) (M : zM) (a0 : Int) {res : Int} (ha0 : InR a0) (h : Af_longestGift fu L M a0 = some res) : Met l yX1_longestGift (Cond.code yX1_longestGift cX1_longestGift 5 (some .int) :: zTB) (zrm 2 0 0) (va_Pc [zR G.2.2.1 a0] (zPre G top L M)) (zQ G top L M (some (.int (zO res))) (InR res)) 0 0 (zA G) :=
  z_met (by decide +kernel) (by simp [zR_cat, zcat_I, zcat_S]) (Nat.le_of_ble_eq_true rfl) fun p e s m below meth c ls E hn S hl => Af_longestGift_w E ha0 S (hl.sub (And.intro rfl True.intro)) h
end
theorem Wd_greatestAge_dc : zDL cX10_greatestAge [(0, .iconst (-1), 1, 1), (1, .istore_n 1, 1, 2), (2, .iconst 0, 1, 3), (3, .istore_n 2, 1, 4), (4, .iload_n 2, 1, 5), (5, .aload_n 0, 1, 6), (6, .getfield 25, 3, 9), (9, .if_icmp .ge 27, 3, 12), (12, .aload_n 0, 1, 13), (13, .iload_n 2, 1, 14), (14, .invokevirtual 59, 3, 17), (17, .ifCond .ne 13, 3, 20), (20, .iload_n 1, 1, 21), (21, .aload_n 0, 1, 22), (22, .iload_n 2, 1, 23), (23, .invokevirtual 83, 3, 26), (26, .invokestatic 62, 3, 29), (29, .istore_n 1, 1, 30), (30, .iinc 2 1, 3, 33), (33, .goto (-29), 3, 36), (36, .iload_n 1, 1, 37), (37, .ireturn, 1, 38)] := zDL.of (by decide +kernel)
section
variable {p : Program} {l : Launch} {e : Env} {s : State} {m : MethodId} {args : Array Value} {below : List Frame} {meth : Method} {c : Code} {G : zG} {top : Int} {L : zL} {fu : Nat}
theorem Wd_greatestAge_s4_w (E : zEv p m c cX10_greatestAge 3 s args RX10 meth (some .int) G) {res : Int} {k4 : zM → Int → Int → Int → Option Int} (hk4 : ∀ (M : zM) (x0 : Int) (x1 : Int) (x2 : Int), InR x0 → InR x1 → InR x2 → ∀ (H : Heap) (locs : List Loc) (ls : Array Slot), zS G top L M s H locs → zLV ls 3 [some (zR G.2.2.1 x0), some (.int (zO x1)), some (.int (zO x2))] → k4 M x0 x1 x2 = some res → W p l e (zrm 3 0 0) s m args below meth c H locs 0 0 (MQ below (zQ G top L M (some (.int (zO res))) (InR res)) args s 0 0 (zA G)) (F0 m 4 ls [])) {M : zM} {x0 : Int} {x1 : Int} {x2 : Int} {H : Heap} {locs : List Loc} {ls : Array Slot} (hx0 : InR x0) (hx1 : InR x1) (hx2 : InR x2) (S : zS G top L M s H locs) (hl : zLV ls 3 [some (zR G.2.2.1 x0), some (.int (zO x1)), some (.int (zO x2))]) (h : Wd_greatestAge_s4 fu k4 L M x0 x1 x2 = some res) : W p l e (zrm 3 0 0) s m args below meth c H locs 0 0 (MQ below (zQ G top L M (some (.int (zO res))) (InR res)) args s 0 0 (zA G)) (F0 m 4 ls []) := by
  unfold Wd_greatestAge_s4 at h
  refine u_il_n (x := x2) E (Wd_greatestAge_dc.at 4 rfl) hl rfl ?_
  refine u_al_n (x := x0) E (Wd_greatestAge_dc.at 5 rfl) hl rfl ?_
  obtain ⟨g1, h⟩ := ite_e h
  refine u_gI E zf_10_4 S g1 zw_1_197 (Wd_greatestAge_dc.at 6 rfl) ?_
  refine r_icmp_ge (tgt := 36) E hx2 (S.1.inR _ _) (Wd_greatestAge_dc.at 7 rfl) (by decide) (fun q => ?_) (fun q => ?_)
  · have h := ite_t h q
    refine u_al_n (x := x0) E (Wd_greatestAge_dc.at 8 rfl) hl rfl ?_
    refine u_il_n (x := x2) E (Wd_greatestAge_dc.at 9 rfl) hl rfl ?_
    obtain ⟨r2, er2, h⟩ := bd1_e h
    refine u_cVI (As := [.int (zO x2)]) (rest := []) E S zcw_yX10_isAlive zw_4_146 zw_4_147 zw_4_145 zck_10.1 rfl g1 (Wd_isAlive_c l G fu top L M x0 x2 hx0 hx2 er2) (zrm_ok (by decide) (by decide)) ⟨Nat.le_refl 0, Nat.le_refl 0⟩ rfl (Nat.zero_le 8) hl.size rfl (Wd_greatestAge_dc.at 10 rfl) (fun H locs hr2 S3 => ?_)
    refine r_if_ne (tgt := 30) E (inR_01 hr2) (Wd_greatestAge_dc.at 11 rfl) (by decide) (fun q => ?_) (fun q => ?_)
    · have h := ite_t h q
      refine u_il_n (x := x1) E (Wd_greatestAge_dc.at 12 rfl) hl rfl ?_
      refine u_al_n (x := x0) E (Wd_greatestAge_dc.at 13 rfl) hl rfl ?_
      refine u_il_n (x := x2) E (Wd_greatestAge_dc.at 14 rfl) hl rfl ?_
      obtain ⟨r4, er4, h⟩ := bd1_e h
      refine u_cVI (As := [.int (zO x2)]) (rest := [.int (zO x1)]) E S3 zcw_yX10_ageOf zw_4_163 zw_4_164 zw_6_122 zck_10.1 rfl g1 (Wd_ageOf_c l G fu top L M x0 x2 hx0 hx2 er4) (zrm_ok (by decide) (by decide)) ⟨Nat.le_refl 0, Nat.le_refl 0⟩ rfl (by simp [zR_cat, zcat_I, zcat_J, zcat_S]) hl.size rfl (Wd_greatestAge_dc.at 15 rfl) (fun H locs hr4 S5 => ?_)
      refine r_max (rest := []) E hx1 hr4 hl.size zw_4_186 zw_4_56 zw_1_17 zw_4_57 (by decide) (by simp [zR_cat, zcat_I, zcat_J, zcat_S, zrm]) ⟨Nat.zero_le _, Nat.zero_le _⟩ (Wd_greatestAge_dc.at 16 rfl) ?_
      obtain ⟨v6, ev6, h⟩ := lt1_e h
      have hv6 := inR_eq ev6 (inR_max hx1 hr4)
      refine u_ist_n (y := v6) (vs' := [some (zR G.2.2.1 x0), some (.int (zO v6)), some (.int (zO x2))]) E ev6 (Wd_greatestAge_dc.at 17 rfl) hl (by decide) rfl (fun ls hl => ?_)
      obtain ⟨v7, ev7, h⟩ := lt1_e h
      have hv7 := inR_eq ev7 (inR_w32 _)
      refine u_iinc (y := v7) (vs' := [some (zR G.2.2.1 x0), some (.int (zO v6)), some (.int (zO v7))]) E ev7 (Wd_greatestAge_dc.at 18 rfl) hl rfl (by decide) rfl (fun ls hl => ?_)
      refine r_goto (tgt := 4) E (Wd_greatestAge_dc.at 19 rfl) (by decide) ?_
      exact hk4 _ x0 v6 v7 hx0 hv6 hv7 _ _ _ S5 (hl.sub (And.intro rfl (And.intro rfl (And.intro rfl True.intro)))) h
    · have h := ite_f h q
      obtain ⟨v8, ev8, h⟩ := lt1_e h
      have hv8 := inR_eq ev8 (inR_w32 _)
      refine u_iinc (y := v8) (vs' := [some (zR G.2.2.1 x0), some (.int (zO x1)), some (.int (zO v8))]) E ev8 (Wd_greatestAge_dc.at 18 rfl) hl rfl (by decide) rfl (fun ls hl => ?_)
      refine r_goto (tgt := 4) E (Wd_greatestAge_dc.at 19 rfl) (by decide) ?_
      exact hk4 _ x0 x1 v8 hx0 hx1 hv8 _ _ _ S3 (hl.sub (And.intro rfl (And.intro rfl (And.intro rfl True.intro)))) h
  · have h := ite_f h q
    refine u_il_n (x := x1) E (Wd_greatestAge_dc.at 20 rfl) hl rfl ?_
    cases h
    exact r_iret E S hx1 (Wd_greatestAge_dc.at 21 rfl)
theorem Wd_greatestAge_l4_w (E : zEv p m c cX10_greatestAge 3 s args RX10 meth (some .int) G) {res : Int} : ∀ (n : Nat) (M : zM) (x0 : Int) (x1 : Int) (x2 : Int), InR x0 → InR x1 → InR x2 → ∀ (H : Heap) (locs : List Loc) (ls : Array Slot), zS G top L M s H locs → zLV ls 3 [some (zR G.2.2.1 x0), some (.int (zO x1)), some (.int (zO x2))] → Wd_greatestAge_l4 fu L n M x0 x1 x2 = some res → W p l e (zrm 3 0 0) s m args below meth c H locs 0 0 (MQ below (zQ G top L M (some (.int (zO res))) (InR res)) args s 0 0 (zA G)) (F0 m 4 ls [])
  | 0, _, _, _, _ => fun _ _ _ _ _ _ _ _ h => (by cases h)
  | n + 1, M, x0, x1, x2 => fun hx0 hx1 hx2 H locs ls S hl h => Wd_greatestAge_s4_w E (fun M x0 x1 x2 hx0 hx1 hx2 H locs ls S hl h => Wd_greatestAge_l4_w E n M x0 x1 x2 hx0 hx1 hx2 H locs ls S hl h) hx0 hx1 hx2 S hl h
theorem Wd_greatestAge_w (E : zEv p m c cX10_greatestAge 3 s args RX10 meth (some .int) G) {res : Int} {M : zM} {a0 : Int} {H : Heap} {locs : List Loc} {ls : Array Slot} (ha0 : InR a0) (S : zS G top L M s H locs) (hl : zLV ls 3 [some (zR G.2.2.1 a0), none, none]) (h : Wd_greatestAge fu L M a0 = some res) : W p l e (zrm 3 0 0) s m args below meth c H locs 0 0 (MQ below (zQ G top L M (some (.int (zO res))) (InR res)) args s 0 0 (zA G)) (F0 m 0 ls []) := by
  unfold Wd_greatestAge at h
  refine r_iconst E (Wd_greatestAge_dc.at 0 rfl) ?_
  refine u_ist_n (y := (-1)) (vs' := [some (zR G.2.2.1 a0), some (.int (zO (-1))), none]) E rfl (Wd_greatestAge_dc.at 1 rfl) hl (by decide) rfl (fun ls hl => ?_)
  refine r_iconst E (Wd_greatestAge_dc.at 2 rfl) ?_
  refine u_ist_n (y := 0) (vs' := [some (zR G.2.2.1 a0), some (.int (zO (-1))), some (.int (zO 0))]) E rfl (Wd_greatestAge_dc.at 3 rfl) hl (by decide) rfl (fun ls hl => ?_)
  exact Wd_greatestAge_l4_w E fu _ a0 (-1) 0 ha0 (show InR (-1) by decide) (show InR 0 by decide) _ _ _ S (hl.sub (And.intro rfl (And.intro rfl (And.intro rfl True.intro)))) h
theorem Wd_greatestAge_c (l : Launch) (G : zG) (fu : Nat) (top : Int) (L : zL) (M : zM) (a0 : Int) {res : Int} (ha0 : InR a0) (h : Wd_greatestAge fu L M a0 = some res) : Met l yX10_greatestAge (Cond.code yX10_greatestAge cX10_greatestAge 3 (some .int) :: zTB) (zrm 3 0 0) (va_Pc [zR G.2.2.1 a0] (zPre G top L M)) (zQ G top L M (some (.int (zO res))) (InR res)) 0 0 (zA G) :=
  z_met (by decide +kernel) (by simp [zR_cat, zcat_I, zcat_S]) (Nat.le_of_ble_eq_true rfl) fun p e s m below meth c ls E hn S hl => Wd_greatestAge_w E ha0 S (hl.sub (And.intro rfl True.intro)) h
end
theorem Lx_most_dc : zDL cX11_most [(0, .aload_n 0, 1, 1), (1, .getfield 105, 3, 4), (4, .ifCond .ne 5, 3, 7), (7, .iconst (-1), 1, 8), (8, .ireturn, 1, 9), (9, .iload_n 1, 1, 10), (10, .tableswitch 104 0 6 #[42, 53, 64, 75, 80, 85, 93], 42, 52), (52, .aload_n 0, 1, 53), (53, .getfield 42, 3, 56), (56, .getfield 124, 3, 59), (59, .invokevirtual 331, 3, 62), (62, .ireturn, 1, 63), (63, .aload_n 0, 1, 64), (64, .getfield 42, 3, 67), (67, .getfield 124, 3, 70), (70, .invokevirtual 334, 3, 73), (73, .ireturn, 1, 74), (74, .aload_n 0, 1, 75), (75, .getfield 42, 3, 78), (78, .getfield 124, 3, 81), (81, .invokevirtual 337, 3, 84), (84, .ireturn, 1, 85), (85, .aload_n 0, 1, 86), (86, .invokevirtual 340, 3, 89), (89, .ireturn, 1, 90), (90, .aload_n 0, 1, 91), (91, .invokevirtual 343, 3, 94), (94, .ireturn, 1, 95), (95, .aload_n 0, 1, 96), (96, .getfield 42, 3, 99), (99, .invokevirtual 346, 3, 102), (102, .ireturn, 1, 103), (103, .aload_n 0, 1, 104), (104, .getfield 42, 3, 107), (107, .getfield 124, 3, 110), (110, .invokevirtual 349, 3, 113), (113, .ireturn, 1, 114), (114, .iconst (-1), 1, 115), (115, .ireturn, 1, 116)] := zDL.of (by decide +kernel)
section
variable {p : Program} {l : Launch} {e : Env} {s : State} {m : MethodId} {args : Array Value} {below : List Frame} {meth : Method} {c : Code} {G : zG} {top : Int} {L : zL} {fu : Nat}
theorem Lx_most_w (E : zEv p m c cX11_most 2 s args RX11 meth (some .int) G) {res : (zM × Int)} {M : zM} {a0 : Int} {a1 : Int} {H : Heap} {locs : List Loc} {ls : Array Slot} (ha0 : InR a0) (ha1 : InR a1) (S : zS G top L M s H locs) (hl : zLV ls 2 [some (zR G.2.2.1 a0), some (.int (zO a1))]) (h : Lx_most fu L M a0 a1 = some res) : W p l e (zrm 8 0 0) s m args below meth c H locs 0 0 (MQ below (zQ G top L res.1 (some (.int (zO res.2))) (InR res.2)) args s 0 0 (zA G)) (F0 m 0 ls []) := by
  unfold Lx_most at h
  refine u_al_n (x := a0) E (Lx_most_dc.at 0 rfl) hl rfl ?_
  obtain ⟨g1, h⟩ := ite_e h
  refine u_gI E zf_11_11 S g1 zw_2_143 (Lx_most_dc.at 1 rfl) ?_
  refine r_if_ne (tgt := 9) E (S.1.inR _ _) (Lx_most_dc.at 2 rfl) (by decide) (fun q => ?_) (fun q => ?_)
  · have h := ite_t h q
    refine r_iconst E (Lx_most_dc.at 3 rfl) ?_
    cases h
    exact r_iret E S (show InR (-1) by decide) (Lx_most_dc.at 4 rfl)
  · have h := ite_f h q
    refine u_il_n (x := a1) E (Lx_most_dc.at 5 rfl) hl rfl ?_
    by_cases q6 : a1 = 0
    · have h := ite_t h q6
      refine r_tin (tgt := 52) (k := 0) E ha1 q6 (Lx_most_dc.at 6 rfl) (by decide) (by decide) rfl (by decide) ?_
      refine u_al_n (x := a0) E (Lx_most_dc.at 7 rfl) hl rfl ?_
      refine u_gR E zf_11_4 S g1 zw_2_136 (Lx_most_dc.at 8 rfl) ?_
      obtain ⟨g2, h⟩ := ite_e h
      refine u_gR E zf_1_0 S g2 zw_1_222 (Lx_most_dc.at 9 rfl) ?_
      obtain ⟨g3, h⟩ := ite_e h
      obtain ⟨r4, er4, h⟩ := bd1_e h
      refine u_cVI (As := []) (rest := []) E S zcw_yX10_mostChildren zw_6_91 zw_6_92 zw_6_90 zck_10.1 rfl g3 (Wd_mostChildren_c l G fu top L M (M (M a0 4) 0) (S.1.inR _ _) er4) (zrm_ok (by decide) (by decide)) ⟨Nat.le_refl 0, Nat.le_refl 0⟩ rfl (Nat.zero_le 8) hl.size rfl (Lx_most_dc.at 10 rfl) (fun H locs hr4 S5 => ?_)
      cases h
      exact r_iret E S5 hr4 (Lx_most_dc.at 11 rfl)
    · have h := ite_f h q6
      by_cases q11 : a1 = 1
      · have h := ite_t h q11
        refine r_tin (tgt := 63) (k := 1) E ha1 q11 (Lx_most_dc.at 6 rfl) (by decide) (by decide) rfl (by decide) ?_
        refine u_al_n (x := a0) E (Lx_most_dc.at 12 rfl) hl rfl ?_
        refine u_gR E zf_11_4 S g1 zw_2_136 (Lx_most_dc.at 13 rfl) ?_
        obtain ⟨g7, h⟩ := ite_e h
        refine u_gR E zf_1_0 S g7 zw_1_222 (Lx_most_dc.at 14 rfl) ?_
        obtain ⟨g8, h⟩ := ite_e h
        obtain ⟨r9, er9, h⟩ := bd1_e h
        refine u_cVI (As := []) (rest := []) E S zcw_yX10_oldestLiving zw_6_99 zw_6_100 zw_6_98 zck_10.1 rfl g8 (Wd_oldestLiving_c l G fu top L M (M (M a0 4) 0) (S.1.inR _ _) er9) (zrm_ok (by decide) (by decide)) ⟨Nat.le_refl 0, Nat.le_refl 0⟩ rfl (Nat.zero_le 8) hl.size rfl (Lx_most_dc.at 15 rfl) (fun H locs hr9 S10 => ?_)
        cases h
        exact r_iret E S10 hr9 (Lx_most_dc.at 16 rfl)
      · have h := ite_f h q11
        by_cases q16 : a1 = 2
        · have h := ite_t h q16
          refine r_tin (tgt := 74) (k := 2) E ha1 q16 (Lx_most_dc.at 6 rfl) (by decide) (by decide) rfl (by decide) ?_
          refine u_al_n (x := a0) E (Lx_most_dc.at 17 rfl) hl rfl ?_
          refine u_gR E zf_11_4 S g1 zw_2_136 (Lx_most_dc.at 18 rfl) ?_
          obtain ⟨g12, h⟩ := ite_e h
          refine u_gR E zf_1_0 S g12 zw_1_222 (Lx_most_dc.at 19 rfl) ?_
          obtain ⟨g13, h⟩ := ite_e h
          obtain ⟨r14, er14, h⟩ := bd1_e h
          refine u_cVI (As := []) (rest := []) E S zcw_yX10_livingPersons zw_6_103 zw_6_104 zw_6_102 zck_10.1 rfl g13 (Wd_livingPersons_c l G fu top L M (M (M a0 4) 0) (S.1.inR _ _) er14) (zrm_ok (by decide) (by decide)) ⟨Nat.le_refl 0, Nat.le_refl 0⟩ rfl (Nat.zero_le 8) hl.size rfl (Lx_most_dc.at 20 rfl) (fun H locs hr14 S15 => ?_)
          cases h
          exact r_iret E S15 hr14 (Lx_most_dc.at 21 rfl)
        · have h := ite_f h q16
          by_cases q20 : a1 = 3
          · have h := ite_t h q20
            refine r_tin (tgt := 85) (k := 3) E ha1 q20 (Lx_most_dc.at 6 rfl) (by decide) (by decide) rfl (by decide) ?_
            refine u_al_n (x := a0) E (Lx_most_dc.at 22 rfl) hl rfl ?_
            obtain ⟨M18, r17, er17, h⟩ := bd2_e h
            refine u_cVI (As := []) (rest := []) E S zcw_yX11_goodGifts zw_6_108 zq_3_10 zw_6_106 zck_11.1 rfl g1 (Lx_goodGifts_c l G fu top L M a0 ha0 er17) (zrm_ok (by decide) (by decide)) ⟨Nat.le_refl 0, Nat.le_refl 0⟩ rfl (Nat.zero_le 8) hl.size rfl (Lx_most_dc.at 23 rfl) (fun H locs hr17 S19 => ?_)
            cases h
            exact r_iret E S19 hr17 (Lx_most_dc.at 24 rfl)
          · have h := ite_f h q20
            by_cases q24 : a1 = 4
            · have h := ite_t h q24
              refine r_tin (tgt := 90) (k := 4) E ha1 q24 (Lx_most_dc.at 6 rfl) (by decide) (by decide) rfl (by decide) ?_
              refine u_al_n (x := a0) E (Lx_most_dc.at 25 rfl) hl rfl ?_
              obtain ⟨M22, r21, er21, h⟩ := bd2_e h
              refine u_cVI (As := []) (rest := []) E S zcw_yX11_lateGifts zw_6_112 zq_3_11 zw_6_110 zck_11.1 rfl g1 (Lx_lateGifts_c l G fu top L M a0 ha0 er21) (zrm_ok (by decide) (by decide)) ⟨Nat.le_refl 0, Nat.le_refl 0⟩ rfl (Nat.zero_le 8) hl.size rfl (Lx_most_dc.at 26 rfl) (fun H locs hr21 S23 => ?_)
              cases h
              exact r_iret E S23 hr21 (Lx_most_dc.at 27 rfl)
            · have h := ite_f h q24
              by_cases q28 : a1 = 5
              · have h := ite_t h q28
                refine r_tin (tgt := 95) (k := 5) E ha1 q28 (Lx_most_dc.at 6 rfl) (by decide) (by decide) rfl (by decide) ?_
                refine u_al_n (x := a0) E (Lx_most_dc.at 28 rfl) hl rfl ?_
                refine u_gR E zf_11_4 S g1 zw_2_136 (Lx_most_dc.at 29 rfl) ?_
                obtain ⟨g25, h⟩ := ite_e h
                obtain ⟨r26, er26, h⟩ := bd1_e h
                refine u_cVI (As := []) (rest := []) E S zcw_yX1_longestGift zw_6_115 zw_6_116 zw_6_114 zck_1.1 rfl g25 (Af_longestGift_c l G fu top L M (M a0 4) (S.1.inR _ _) er26) (zrm_ok (by decide) (by decide)) ⟨Nat.le_refl 0, Nat.le_refl 0⟩ rfl (Nat.zero_le 8) hl.size rfl (Lx_most_dc.at 30 rfl) (fun H locs hr26 S27 => ?_)
                cases h
                exact r_iret E S27 hr26 (Lx_most_dc.at 31 rfl)
              · have h := ite_f h q28
                by_cases q33 : a1 = 6
                · have h := ite_t h q33
                  refine r_tin (tgt := 103) (k := 6) E ha1 q33 (Lx_most_dc.at 6 rfl) (by decide) (by decide) rfl (by decide) ?_
                  refine u_al_n (x := a0) E (Lx_most_dc.at 32 rfl) hl rfl ?_
                  refine u_gR E zf_11_4 S g1 zw_2_136 (Lx_most_dc.at 33 rfl) ?_
                  obtain ⟨g29, h⟩ := ite_e h
                  refine u_gR E zf_1_0 S g29 zw_1_222 (Lx_most_dc.at 34 rfl) ?_
                  obtain ⟨g30, h⟩ := ite_e h
                  obtain ⟨r31, er31, h⟩ := bd1_e h
                  refine u_cVI (As := []) (rest := []) E S zcw_yX10_greatestAge zw_6_119 zw_6_120 zw_6_118 zck_10.1 rfl g30 (Wd_greatestAge_c l G fu top L M (M (M a0 4) 0) (S.1.inR _ _) er31) (zrm_ok (by decide) (by decide)) ⟨Nat.le_refl 0, Nat.le_refl 0⟩ rfl (Nat.zero_le 8) hl.size rfl (Lx_most_dc.at 35 rfl) (fun H locs hr31 S32 => ?_)
                  cases h
                  exact r_iret E S32 hr31 (Lx_most_dc.at 36 rfl)
                · have h := ite_f h q33
                  refine r_tout (tgt := 114) E ha1 (by omega) (Lx_most_dc.at 6 rfl) (by decide) ?_
                  refine r_iconst E (Lx_most_dc.at 37 rfl) ?_
                  cases h
                  exact r_iret E S (show InR (-1) by decide) (Lx_most_dc.at 38 rfl)
theorem Lx_most_c (l : Launch) (G : zG) (fu : Nat) (top : Int) (L : zL) (M : zM) (a0 : Int) (a1 : Int) {res : (zM × Int)} (ha0 : InR a0) (ha1 : InR a1) (h : Lx_most fu L M a0 a1 = some res) : Met l yX11_most (Cond.code yX11_most cX11_most 2 (some .int) :: zTB) (zrm 8 0 0) (va_Pc [zR G.2.2.1 a0, .int (zO a1)] (zPre G top L M)) (zQ G top L res.1 (some (.int (zO res.2))) (InR res.2)) 0 0 (zA G) :=
  z_met (by decide +kernel) (by simp [zR_cat, zcat_I, zcat_S]) (Nat.le_of_ble_eq_true rfl) fun p e s m below meth c ls E hn S hl => Lx_most_w E ha0 ha1 S (hl.sub (And.intro rfl (And.intro rfl True.intro))) h
end
theorem Lx_size_dc : zDL cX11_size [(0, .iload_n 1, 1, 1), (1, .ifCond .ne 11, 3, 4), (4, .aload_n 0, 1, 5), (5, .getfield 12, 3, 8), (8, .getfield 94, 3, 11), (11, .ireturn, 1, 12), (12, .iload_n 1, 1, 13), (13, .iconst 1, 1, 14), (14, .if_icmp .ne 13, 3, 17), (17, .aload_n 0, 1, 18), (18, .getfield 52, 3, 21), (21, .getfield 325, 3, 24), (24, .goto 4, 3, 27), (27, .iconst (-1), 1, 28), (28, .ireturn, 1, 29)] := zDL.of (by decide +kernel)
section
variable {p : Program} {l : Launch} {e : Env} {s : State} {m : MethodId} {args : Array Value} {below : List Frame} {meth : Method} {c : Code} {G : zG} {top : Int} {L : zL} {fu : Nat}
theorem Lx_size_w (E : zEv p m c cX11_size 2 s args RX11 meth (some .int) G) {res : Int} {M : zM} {a0 : Int} {a1 : Int} {H : Heap} {locs : List Loc} {ls : Array Slot} (ha0 : InR a0) (ha1 : InR a1) (S : zS G top L M s H locs) (hl : zLV ls 2 [some (zR G.2.2.1 a0), some (.int (zO a1))]) (h : Lx_size fu L M a0 a1 = some res) : W p l e (zrm 1 0 0) s m args below meth c H locs 0 0 (MQ below (zQ G top L M (some (.int (zO res))) (InR res)) args s 0 0 (zA G)) (F0 m 0 ls []) := by
  unfold Lx_size at h
  refine u_il_n (x := a1) E (Lx_size_dc.at 0 rfl) hl rfl ?_
  refine r_if_ne (tgt := 12) E ha1 (Lx_size_dc.at 1 rfl) (by decide) (fun q => ?_) (fun q => ?_)
  · have h := ite_t h q
    refine u_al_n (x := a0) E (Lx_size_dc.at 2 rfl) hl rfl ?_
    obtain ⟨g1, h⟩ := ite_e h
    refine u_gR E zf_11_0 S g1 zw_2_132 (Lx_size_dc.at 3 rfl) ?_
    obtain ⟨g2, h⟩ := ite_e h
    refine u_gI E zf_7_2 S g2 zw_1_42 (Lx_size_dc.at 4 rfl) ?_
    cases h
    exact r_iret E S (S.1.inR _ _) (Lx_size_dc.at 5 rfl)
  · have h := ite_f h q
    refine u_il_n (x := a1) E (Lx_size_dc.at 6 rfl) hl rfl ?_
    refine r_iconst E (Lx_size_dc.at 7 rfl) ?_
    refine r_icmp_ne (tgt := 27) E ha1 (show InR 1 by decide) (Lx_size_dc.at 8 rfl) (by decide) (fun q => ?_) (fun q => ?_)
    · have h := ite_t h q
      refine u_al_n (x := a0) E (Lx_size_dc.at 9 rfl) hl rfl ?_
      obtain ⟨g3, h⟩ := ite_e h
      refine u_gR E zf_11_6 S g3 zw_2_138 (Lx_size_dc.at 10 rfl) ?_
      obtain ⟨g4, h⟩ := ite_e h
      refine u_gI E zf_0_2 S g4 zw_2_16 (Lx_size_dc.at 11 rfl) ?_
      refine r_goto (tgt := 28) E (Lx_size_dc.at 12 rfl) (by decide) ?_
      cases h
      exact r_iret E S (S.1.inR _ _) (Lx_size_dc.at 14 rfl)
    · have h := ite_f h q
      refine r_iconst E (Lx_size_dc.at 13 rfl) ?_
      cases h
      exact r_iret E S (show InR (-1) by decide) (Lx_size_dc.at 14 rfl)
theorem Lx_size_c (l : Launch) (G : zG) (fu : Nat) (top : Int) (L : zL) (M : zM) (a0 : Int) (a1 : Int) {res : Int} (ha0 : InR a0) (ha1 : InR a1) (h : Lx_size fu L M a0 a1 = some res) : Met l yX11_size (Cond.code yX11_size cX11_size 2 (some .int) :: zTB) (zrm 1 0 0) (va_Pc [zR G.2.2.1 a0, .int (zO a1)] (zPre G top L M)) (zQ G top L M (some (.int (zO res))) (InR res)) 0 0 (zA G) :=
  z_met (by decide +kernel) (by simp [zR_cat, zcat_I, zcat_S]) (Nat.le_of_ble_eq_true rfl) fun p e s m below meth c ls E hn S hl => Lx_size_w E ha0 ha1 S (hl.sub (And.intro rfl (And.intro rfl True.intro))) h
end
theorem Mo_init_dc : zDL cX12_init [(0, .aload_n 0, 1, 1), (1, .invokespecial 3, 3, 4), (4, .aload_n 0, 1, 5), (5, .sipush 300, 3, 8), (8, .newarray .int, 2, 10), (10, .putfield 9, 3, 13), (13, .aload_n 0, 1, 14), (14, .bipush 8, 2, 16), (16, .newarray .int, 2, 18), (18, .putfield 13, 3, 21), (21, .aload_n 0, 1, 22), (22, .bipush 8, 2, 24), (24, .newarray .int, 2, 26), (26, .putfield 16, 3, 29), (29, .aload_n 0, 1, 30), (30, .bipush 8, 2, 32), (32, .newarray .int, 2, 34), (34, .putfield 19, 3, 37), (37, .aload_n 0, 1, 38), (38, .sipush 315, 3, 41), (41, .newarray .int, 2, 43), (43, .putfield 22, 3, 46), (46, .aload_n 0, 1, 47), (47, .bipush 30, 2, 49), (49, .newarray .int, 2, 51), (51, .putfield 25, 3, 54), (54, .aload_n 0, 1, 55), (55, .bipush 30, 2, 57), (57, .newarray .int, 2, 59), (59, .putfield 28, 3, 62), (62, .aload_n 0, 1, 63), (63, .sipush 2597, 3, 66), (66, .newarray .int, 2, 68), (68, .putfield 31, 3, 71), (71, .aload_n 0, 1, 72), (72, .bipush 8, 2, 74), (74, .newarray .int, 2, 76), (76, .putfield 34, 3, 79), (79, .aload_n 0, 1, 80), (80, .bipush 8, 2, 82), (82, .newarray .int, 2, 84), (84, .putfield 37, 3, 87), (87, .aload_n 0, 1, 88), (88, .bipush 8, 2, 90), (90, .newarray .int, 2, 92), (92, .putfield 40, 3, 95), (95, .aload_n 0, 1, 96), (96, .ldc 43, 2, 98), (98, .newarray .int, 2, 100), (100, .putfield 44, 3, 103), (103, .aload_n 0, 1, 104), (104, .iconst 5, 1, 105), (105, .newarray .int, 2, 107), (107, .putfield 47, 3, 110), (110, .aload_n 0, 1, 111), (111, .bipush 99, 2, 113), (113, .putfield 50, 3, 116), (116, .aload_n 0, 1, 117), (117, .aload_n 0, 1, 118), (118, .getfield 31, 3, 121), (121, .putfield 54, 3, 124), (124, .aload_n 0, 1, 125), (125, .bipush 74, 2, 127), (127, .newarray .int, 2, 129), (129, .putfield 57, 3, 132), (132, .aload_n 0, 1, 133), (133, .bipush 74, 2, 135), (135, .newarray .int, 2, 137), (137, .putfield 60, 3, 140), (140, .aload_n 0, 1, 141), (141, .sipush 2597, 3, 144), (144, .newarray .int, 2, 146), (146, .putfield 63, 3, 149), (149, .return_, 1, 150)] := zDL.of (by decide +kernel)
section
variable {p : Program} {l : Launch} {e : Env} {s : State} {m : MethodId} {args : Array Value} {below : List Frame} {meth : Method} {c : Code} {G : zG} {top : Int} {L : zL} {fu : Nat}
theorem Mo_init_w (E : zEv p m c cX12_init 1 s args RX12 meth none G) (hn : meth.name = "<init>") {res : (Int × zL × zM)} {top : Int} {L : zL} {M : zM} {a0 : Int} {H : Heap} {locs : List Loc} {ls : Array Slot} (ha0 : InR a0) (S : zS G top L M s H locs) (hl : zLV ls 1 [some (zR G.2.2.1 a0)]) (h : Mo_init fu top L M a0 = some res) : W p l e (zrm 1 16 47622) s m args below meth c H locs 0 0 (MQ below (zQ G res.1 res.2.1 res.2.2 none True) args s 16 47622 (zA G)) (F0 m 0 ls []) := by
  unfold Mo_init at h
  refine u_al_n (x := a0) E (Mo_init_dc.at 0 rfl) hl rfl ?_
  obtain ⟨g1, h⟩ := ite_e h
  refine r_obj (rest := []) E zw_6_205 zw_1_32 zw_1_33 (S.1.tag g1 (by decide)).1 hl.size (by decide) (by simp [zR_cat, zcat_I, zcat_J, zcat_S, zrm]) (Mo_init_dc.at 1 rfl) ?_
  refine u_al_n (x := a0) E (Mo_init_dc.at 2 rfl) hl rfl ?_
  refine r_sipush E (Mo_init_dc.at 3 rfl) rfl ?_
  obtain ⟨g2, h⟩ := ite_e h
  obtain ⟨T3, eT3, h⟩ := lt1_e h
  obtain ⟨L4, eL4, h⟩ := lt1_e h
  obtain ⟨M5, eM5, h⟩ := lt1_e h
  refine u_newI (k := 300) E S eT3 eL4 eM5 zw_1_74 (by decide) g2 rfl ⟨Nat.le_of_ble_eq_true rfl, Nat.le_of_ble_eq_true rfl⟩ (Mo_init_dc.at 4 rfl) (fun H S6 g7 => ?_)
  obtain ⟨g8, h⟩ := ite_e h
  obtain ⟨M9, eM9, h⟩ := lt1_e h
  refine u_pR E eM9 zf_12_1 S6 g8 (S6.1.refR g7 (by decide)) (Or.inr ⟨rfl, hn, rfl⟩) zw_6_208 (Mo_init_dc.at 5 rfl) (fun H locs S10 => ?_)
  refine u_al_n (x := a0) E (Mo_init_dc.at 6 rfl) hl rfl ?_
  refine r_bipush E (Mo_init_dc.at 7 rfl) rfl ?_
  obtain ⟨g11, h⟩ := ite_e h
  obtain ⟨T12, eT12, h⟩ := lt1_e h
  obtain ⟨L13, eL13, h⟩ := lt1_e h
  obtain ⟨M14, eM14, h⟩ := lt1_e h
  refine u_newI (k := 8) E S10 eT12 eL13 eM14 zw_1_74 (by decide) g11 rfl ⟨Nat.le_of_ble_eq_true rfl, Nat.le_of_ble_eq_true rfl⟩ (Mo_init_dc.at 8 rfl) (fun H S15 g16 => ?_)
  obtain ⟨g17, h⟩ := ite_e h
  obtain ⟨M18, eM18, h⟩ := lt1_e h
  refine u_pR E eM18 zf_12_8 S15 g17 (S15.1.refR g16 (by decide)) (Or.inr ⟨rfl, hn, rfl⟩) zw_6_215 (Mo_init_dc.at 9 rfl) (fun H locs S19 => ?_)
  refine u_al_n (x := a0) E (Mo_init_dc.at 10 rfl) hl rfl ?_
  refine r_bipush E (Mo_init_dc.at 11 rfl) rfl ?_
  obtain ⟨g20, h⟩ := ite_e h
  obtain ⟨T21, eT21, h⟩ := lt1_e h
  obtain ⟨L22, eL22, h⟩ := lt1_e h
  obtain ⟨M23, eM23, h⟩ := lt1_e h
  refine u_newI (k := 8) E S19 eT21 eL22 eM23 zw_1_74 (by decide) g20 rfl ⟨Nat.le_of_ble_eq_true rfl, Nat.le_of_ble_eq_true rfl⟩ (Mo_init_dc.at 12 rfl) (fun H S24 g25 => ?_)
  obtain ⟨g26, h⟩ := ite_e h
  obtain ⟨M27, eM27, h⟩ := lt1_e h
  refine u_pR E eM27 zf_12_9 S24 g26 (S24.1.refR g25 (by decide)) (Or.inr ⟨rfl, hn, rfl⟩) zw_6_216 (Mo_init_dc.at 13 rfl) (fun H locs S28 => ?_)
  refine u_al_n (x := a0) E (Mo_init_dc.at 14 rfl) hl rfl ?_
  refine r_bipush E (Mo_init_dc.at 15 rfl) rfl ?_
  obtain ⟨g29, h⟩ := ite_e h
  obtain ⟨T30, eT30, h⟩ := lt1_e h
  obtain ⟨L31, eL31, h⟩ := lt1_e h
  obtain ⟨M32, eM32, h⟩ := lt1_e h
  refine u_newI (k := 8) E S28 eT30 eL31 eM32 zw_1_74 (by decide) g29 rfl ⟨Nat.le_of_ble_eq_true rfl, Nat.le_of_ble_eq_true rfl⟩ (Mo_init_dc.at 16 rfl) (fun H S33 g34 => ?_)
  obtain ⟨g35, h⟩ := ite_e h
  obtain ⟨M36, eM36, h⟩ := lt1_e h
  refine u_pR E eM36 zf_12_10 S33 g35 (S33.1.refR g34 (by decide)) (Or.inr ⟨rfl, hn, rfl⟩) zw_6_217 (Mo_init_dc.at 17 rfl) (fun H locs S37 => ?_)
  refine u_al_n (x := a0) E (Mo_init_dc.at 18 rfl) hl rfl ?_
  refine r_sipush E (Mo_init_dc.at 19 rfl) rfl ?_
  obtain ⟨g38, h⟩ := ite_e h
  obtain ⟨T39, eT39, h⟩ := lt1_e h
  obtain ⟨L40, eL40, h⟩ := lt1_e h
  obtain ⟨M41, eM41, h⟩ := lt1_e h
  refine u_newI (k := 315) E S37 eT39 eL40 eM41 zw_1_74 (by decide) g38 rfl ⟨Nat.le_of_ble_eq_true rfl, Nat.le_of_ble_eq_true rfl⟩ (Mo_init_dc.at 20 rfl) (fun H S42 g43 => ?_)
  obtain ⟨g44, h⟩ := ite_e h
  obtain ⟨M45, eM45, h⟩ := lt1_e h
  refine u_pR E eM45 zf_12_12 S42 g44 (S42.1.refR g43 (by decide)) (Or.inr ⟨rfl, hn, rfl⟩) zw_6_219 (Mo_init_dc.at 21 rfl) (fun H locs S46 => ?_)
  refine u_al_n (x := a0) E (Mo_init_dc.at 22 rfl) hl rfl ?_
  refine r_bipush E (Mo_init_dc.at 23 rfl) rfl ?_
  obtain ⟨g47, h⟩ := ite_e h
  obtain ⟨T48, eT48, h⟩ := lt1_e h
  obtain ⟨L49, eL49, h⟩ := lt1_e h
  obtain ⟨M50, eM50, h⟩ := lt1_e h
  refine u_newI (k := 30) E S46 eT48 eL49 eM50 zw_1_74 (by decide) g47 rfl ⟨Nat.le_of_ble_eq_true rfl, Nat.le_of_ble_eq_true rfl⟩ (Mo_init_dc.at 24 rfl) (fun H S51 g52 => ?_)
  obtain ⟨g53, h⟩ := ite_e h
  obtain ⟨M54, eM54, h⟩ := lt1_e h
  refine u_pR E eM54 zf_12_14 S51 g53 (S51.1.refR g52 (by decide)) (Or.inr ⟨rfl, hn, rfl⟩) zw_6_221 (Mo_init_dc.at 25 rfl) (fun H locs S55 => ?_)
  refine u_al_n (x := a0) E (Mo_init_dc.at 26 rfl) hl rfl ?_
  refine r_bipush E (Mo_init_dc.at 27 rfl) rfl ?_
  obtain ⟨g56, h⟩ := ite_e h
  obtain ⟨T57, eT57, h⟩ := lt1_e h
  obtain ⟨L58, eL58, h⟩ := lt1_e h
  obtain ⟨M59, eM59, h⟩ := lt1_e h
  refine u_newI (k := 30) E S55 eT57 eL58 eM59 zw_1_74 (by decide) g56 rfl ⟨Nat.le_of_ble_eq_true rfl, Nat.le_of_ble_eq_true rfl⟩ (Mo_init_dc.at 28 rfl) (fun H S60 g61 => ?_)
  obtain ⟨g62, h⟩ := ite_e h
  obtain ⟨M63, eM63, h⟩ := lt1_e h
  refine u_pR E eM63 zf_12_15 S60 g62 (S60.1.refR g61 (by decide)) (Or.inr ⟨rfl, hn, rfl⟩) zw_6_222 (Mo_init_dc.at 29 rfl) (fun H locs S64 => ?_)
  refine u_al_n (x := a0) E (Mo_init_dc.at 30 rfl) hl rfl ?_
  refine r_sipush E (Mo_init_dc.at 31 rfl) rfl ?_
  obtain ⟨g65, h⟩ := ite_e h
  obtain ⟨T66, eT66, h⟩ := lt1_e h
  obtain ⟨L67, eL67, h⟩ := lt1_e h
  obtain ⟨M68, eM68, h⟩ := lt1_e h
  refine u_newI (k := 2597) E S64 eT66 eL67 eM68 zw_1_74 (by decide) g65 rfl ⟨Nat.le_of_ble_eq_true rfl, Nat.le_of_ble_eq_true rfl⟩ (Mo_init_dc.at 32 rfl) (fun H S69 g70 => ?_)
  obtain ⟨g71, h⟩ := ite_e h
  obtain ⟨M72, eM72, h⟩ := lt1_e h
  refine u_pR E eM72 zf_12_18 S69 g71 (S69.1.refR g70 (by decide)) (Or.inr ⟨rfl, hn, rfl⟩) zw_6_225 (Mo_init_dc.at 33 rfl) (fun H locs S73 => ?_)
  refine u_al_n (x := a0) E (Mo_init_dc.at 34 rfl) hl rfl ?_
  refine r_bipush E (Mo_init_dc.at 35 rfl) rfl ?_
  obtain ⟨g74, h⟩ := ite_e h
  obtain ⟨T75, eT75, h⟩ := lt1_e h
  obtain ⟨L76, eL76, h⟩ := lt1_e h
  obtain ⟨M77, eM77, h⟩ := lt1_e h
  refine u_newI (k := 8) E S73 eT75 eL76 eM77 zw_1_74 (by decide) g74 rfl ⟨Nat.le_of_ble_eq_true rfl, Nat.le_of_ble_eq_true rfl⟩ (Mo_init_dc.at 36 rfl) (fun H S78 g79 => ?_)
  obtain ⟨g80, h⟩ := ite_e h
  obtain ⟨M81, eM81, h⟩ := lt1_e h
  refine u_pR E eM81 zf_12_21 S78 g80 (S78.1.refR g79 (by decide)) (Or.inr ⟨rfl, hn, rfl⟩) zw_6_228 (Mo_init_dc.at 37 rfl) (fun H locs S82 => ?_)
  refine u_al_n (x := a0) E (Mo_init_dc.at 38 rfl) hl rfl ?_
  refine r_bipush E (Mo_init_dc.at 39 rfl) rfl ?_
  obtain ⟨g83, h⟩ := ite_e h
  obtain ⟨T84, eT84, h⟩ := lt1_e h
  obtain ⟨L85, eL85, h⟩ := lt1_e h
  obtain ⟨M86, eM86, h⟩ := lt1_e h
  refine u_newI (k := 8) E S82 eT84 eL85 eM86 zw_1_74 (by decide) g83 rfl ⟨Nat.le_of_ble_eq_true rfl, Nat.le_of_ble_eq_true rfl⟩ (Mo_init_dc.at 40 rfl) (fun H S87 g88 => ?_)
  obtain ⟨g89, h⟩ := ite_e h
  obtain ⟨M90, eM90, h⟩ := lt1_e h
  refine u_pR E eM90 zf_12_22 S87 g89 (S87.1.refR g88 (by decide)) (Or.inr ⟨rfl, hn, rfl⟩) zw_6_229 (Mo_init_dc.at 41 rfl) (fun H locs S91 => ?_)
  refine u_al_n (x := a0) E (Mo_init_dc.at 42 rfl) hl rfl ?_
  refine r_bipush E (Mo_init_dc.at 43 rfl) rfl ?_
  obtain ⟨g92, h⟩ := ite_e h
  obtain ⟨T93, eT93, h⟩ := lt1_e h
  obtain ⟨L94, eL94, h⟩ := lt1_e h
  obtain ⟨M95, eM95, h⟩ := lt1_e h
  refine u_newI (k := 8) E S91 eT93 eL94 eM95 zw_1_74 (by decide) g92 rfl ⟨Nat.le_of_ble_eq_true rfl, Nat.le_of_ble_eq_true rfl⟩ (Mo_init_dc.at 44 rfl) (fun H S96 g97 => ?_)
  obtain ⟨g98, h⟩ := ite_e h
  obtain ⟨M99, eM99, h⟩ := lt1_e h
  refine u_pR E eM99 zf_12_23 S96 g98 (S96.1.refR g97 (by decide)) (Or.inr ⟨rfl, hn, rfl⟩) zw_6_230 (Mo_init_dc.at 45 rfl) (fun H locs S100 => ?_)
  refine u_al_n (x := a0) E (Mo_init_dc.at 46 rfl) hl rfl ?_
  refine r_ldc (n := 41552) E (Mo_init_dc.at 47 rfl) zw_6_206 rfl ?_
  obtain ⟨g101, h⟩ := ite_e h
  obtain ⟨T102, eT102, h⟩ := lt1_e h
  obtain ⟨L103, eL103, h⟩ := lt1_e h
  obtain ⟨M104, eM104, h⟩ := lt1_e h
  refine u_newI (k := 41552) E S100 eT102 eL103 eM104 zw_1_74 (by decide) g101 rfl ⟨Nat.le_of_ble_eq_true rfl, Nat.le_of_ble_eq_true rfl⟩ (Mo_init_dc.at 48 rfl) (fun H S105 g106 => ?_)
  obtain ⟨g107, h⟩ := ite_e h
  obtain ⟨M108, eM108, h⟩ := lt1_e h
  refine u_pR E eM108 zf_12_24 S105 g107 (S105.1.refR g106 (by decide)) (Or.inr ⟨rfl, hn, rfl⟩) zw_6_231 (Mo_init_dc.at 49 rfl) (fun H locs S109 => ?_)
  refine u_al_n (x := a0) E (Mo_init_dc.at 50 rfl) hl rfl ?_
  refine r_iconst E (Mo_init_dc.at 51 rfl) ?_
  obtain ⟨g110, h⟩ := ite_e h
  obtain ⟨T111, eT111, h⟩ := lt1_e h
  obtain ⟨L112, eL112, h⟩ := lt1_e h
  obtain ⟨M113, eM113, h⟩ := lt1_e h
  refine u_newI (k := 5) E S109 eT111 eL112 eM113 zw_1_74 (by decide) g110 rfl ⟨Nat.le_of_ble_eq_true rfl, Nat.le_of_ble_eq_true rfl⟩ (Mo_init_dc.at 52 rfl) (fun H S114 g115 => ?_)
  obtain ⟨g116, h⟩ := ite_e h
  obtain ⟨M117, eM117, h⟩ := lt1_e h
  refine u_pR E eM117 zf_12_26 S114 g116 (S114.1.refR g115 (by decide)) (Or.inr ⟨rfl, hn, rfl⟩) zw_6_233 (Mo_init_dc.at 53 rfl) (fun H locs S118 => ?_)
  refine u_al_n (x := a0) E (Mo_init_dc.at 54 rfl) hl rfl ?_
  refine r_bipush E (Mo_init_dc.at 55 rfl) rfl ?_
  obtain ⟨M119, eM119, h⟩ := lt1_e h
  refine u_pI E eM119 zf_12_32 S118 g116 (show InR 99 by decide) (Or.inl rfl) rfl zw_6_239 (Mo_init_dc.at 56 rfl) (fun H locs S120 => ?_)
  refine u_al_n (x := a0) E (Mo_init_dc.at 57 rfl) hl rfl ?_
  refine u_al_n (x := a0) E (Mo_init_dc.at 58 rfl) hl rfl ?_
  refine u_gR E zf_12_18 S120 g116 zw_6_225 (Mo_init_dc.at 59 rfl) ?_
  obtain ⟨M121, eM121, h⟩ := lt1_e h
  refine u_pR E eM121 zf_12_33 S120 g116 (S120.1.inR _ _) (Or.inl rfl) zw_7_0 (Mo_init_dc.at 60 rfl) (fun H locs S122 => ?_)
  refine u_al_n (x := a0) E (Mo_init_dc.at 61 rfl) hl rfl ?_
  refine r_bipush E (Mo_init_dc.at 62 rfl) rfl ?_
  obtain ⟨g123, h⟩ := ite_e h
  obtain ⟨T124, eT124, h⟩ := lt1_e h
  obtain ⟨L125, eL125, h⟩ := lt1_e h
  obtain ⟨M126, eM126, h⟩ := lt1_e h
  refine u_newI (k := 74) E S122 eT124 eL125 eM126 zw_1_74 (by decide) g123 rfl ⟨Nat.le_of_ble_eq_true rfl, Nat.le_of_ble_eq_true rfl⟩ (Mo_init_dc.at 63 rfl) (fun H S127 g128 => ?_)
  obtain ⟨g129, h⟩ := ite_e h
  obtain ⟨M130, eM130, h⟩ := lt1_e h
  refine u_pR E eM130 zf_12_37 S127 g129 (S127.1.refR g128 (by decide)) (Or.inr ⟨rfl, hn, rfl⟩) zw_7_4 (Mo_init_dc.at 64 rfl) (fun H locs S131 => ?_)
  refine u_al_n (x := a0) E (Mo_init_dc.at 65 rfl) hl rfl ?_
  refine r_bipush E (Mo_init_dc.at 66 rfl) rfl ?_
  obtain ⟨g132, h⟩ := ite_e h
  obtain ⟨T133, eT133, h⟩ := lt1_e h
  obtain ⟨L134, eL134, h⟩ := lt1_e h
  obtain ⟨M135, eM135, h⟩ := lt1_e h
  refine u_newI (k := 74) E S131 eT133 eL134 eM135 zw_1_74 (by decide) g132 rfl ⟨Nat.le_of_ble_eq_true rfl, Nat.le_of_ble_eq_true rfl⟩ (Mo_init_dc.at 67 rfl) (fun H S136 g137 => ?_)
  obtain ⟨g138, h⟩ := ite_e h
  obtain ⟨M139, eM139, h⟩ := lt1_e h
  refine u_pR E eM139 zf_12_47 S136 g138 (S136.1.refR g137 (by decide)) (Or.inr ⟨rfl, hn, rfl⟩) zw_7_14 (Mo_init_dc.at 68 rfl) (fun H locs S140 => ?_)
  refine u_al_n (x := a0) E (Mo_init_dc.at 69 rfl) hl rfl ?_
  refine r_sipush E (Mo_init_dc.at 70 rfl) rfl ?_
  obtain ⟨g141, h⟩ := ite_e h
  obtain ⟨T142, eT142, h⟩ := lt1_e h
  obtain ⟨L143, eL143, h⟩ := lt1_e h
  obtain ⟨M144, eM144, h⟩ := lt1_e h
  refine u_newI (k := 2597) E S140 eT142 eL143 eM144 zw_1_74 (by decide) g141 rfl ⟨Nat.le_of_ble_eq_true rfl, Nat.le_of_ble_eq_true rfl⟩ (Mo_init_dc.at 71 rfl) (fun H S145 g146 => ?_)
  obtain ⟨g147, h⟩ := ite_e h
  obtain ⟨M148, eM148, h⟩ := lt1_e h
  refine u_pR E eM148 zf_12_48 S145 g147 (S145.1.refR g146 (by decide)) (Or.inr ⟨rfl, hn, rfl⟩) zw_7_15 (Mo_init_dc.at 72 rfl) (fun H locs S149 => ?_)
  cases h
  refine W.widen (k := 16) (n := 47622) (by omega) (by omega) ?_
  exact r_vret E S149 True.intro (Mo_init_dc.at 73 rfl)
theorem Mo_init_c (l : Launch) (G : zG) (fu : Nat) (top : Int) (L : zL) (M : zM) (a0 : Int) {res : (Int × zL × zM)} (ha0 : InR a0) (h : Mo_init fu top L M a0 = some res) : Met l yX12_init (Cond.code yX12_init cX12_init 1 none :: zTB) (zrm 1 16 47622) (va_Pc [zR G.2.2.1 a0] (zPre G top L M)) (zQ G res.1 res.2.1 res.2.2 none True) 16 47622 (zA G) :=
  z_met (by decide +kernel) (by simp [zR_cat, zcat_I, zcat_S]) (Nat.le_of_ble_eq_true rfl) fun p e s m below meth c ls E hn S hl => Mo_init_w E hn ha0 S (hl.sub (And.intro rfl True.intro)) h
end
theorem Mo_thrown_dc : zDL cX12_thrown [(0, .aload_n 0, 1, 1), (1, .getfield 66, 3, 4), (4, .ireturn, 1, 5)] := zDL.of (by decide +kernel)
section
variable {p : Program} {l : Launch} {e : Env} {s : State} {m : MethodId} {args : Array Value} {below : List Frame} {meth : Method} {c : Code} {G : zG} {top : Int} {L : zL} {fu : Nat}
theorem Mo_thrown_w (E : zEv p m c cX12_thrown 1 s args RX12 meth (some .int) G) {res : Int} {M : zM} {a0 : Int} {H : Heap} {locs : List Loc} {ls : Array Slot} (ha0 : InR a0) (S : zS G top L M s H locs) (hl : zLV ls 1 [some (zR G.2.2.1 a0)]) (h : Mo_thrown fu L M a0 = some res) : W p l e (zrm 1 0 0) s m args below meth c H locs 0 0 (MQ below (zQ G top L M (some (.int (zO res))) (InR res)) args s 0 0 (zA G)) (F0 m 0 ls []) := by
  unfold Mo_thrown at h
  refine u_al_n (x := a0) E (Mo_thrown_dc.at 0 rfl) hl rfl ?_
  obtain ⟨g1, h⟩ := ite_e h
  refine u_gI E zf_12_0 S g1 zw_6_207 (Mo_thrown_dc.at 1 rfl) ?_
  cases h
  exact r_iret E S (S.1.inR _ _) (Mo_thrown_dc.at 2 rfl)
theorem Mo_thrown_c (l : Launch) (G : zG) (fu : Nat) (top : Int) (L : zL) (M : zM) (a0 : Int) {res : Int} (ha0 : InR a0) (h : Mo_thrown fu L M a0 = some res) : Met l yX12_thrown (Cond.code yX12_thrown cX12_thrown 1 (some .int) :: zTB) (zrm 1 0 0) (va_Pc [zR G.2.2.1 a0] (zPre G top L M)) (zQ G top L M (some (.int (zO res))) (InR res)) 0 0 (zA G) :=
  z_met (by decide +kernel) (by simp [zR_cat, zcat_I, zcat_S]) (Nat.le_of_ble_eq_true rfl) fun p e s m below meth c ls E hn S hl => Mo_thrown_w E ha0 S (hl.sub (And.intro rfl True.intro)) h
end
theorem Mo_byteOf_dc : zDL cX12_byteOf [(0, .iload 5, 2, 2), (2, .iconst 4, 1, 3), (3, .if_icmp .ge 7, 3, 6), (6, .iload_n 0, 1, 7), (7, .goto 38, 3, 10), (10, .iload 5, 2, 12), (12, .bipush 8, 2, 14), (14, .if_icmp .ge 7, 3, 17), (17, .iload_n 1, 1, 18), (18, .goto 27, 3, 21), (21, .iload 5, 2, 23), (23, .bipush 12, 2, 25), (25, .if_icmp .ge 7, 3, 28), (28, .iload_n 2, 1, 29), (29, .goto 16, 3, 32), (32, .iload 5, 2, 34), (34, .bipush 16, 2, 36), (36, .if_icmp .ge 7, 3, 39), (39, .iload_n 3, 1, 40), (40, .goto 5, 3, 43), (43, .iload 4, 2, 45), (45, .istore 6, 2, 47), (47, .iload 6, 2, 49), (49, .bipush 24, 2, 51), (51, .bipush 8, 2, 53), (53, .iload 5, 2, 55), (55, .iconst 4, 1, 56), (56, .irem, 1, 57), (57, .imul, 1, 58), (58, .isub, 1, 59), (59, .ishr, 1, 60), (60, .sipush 255, 3, 63), (63, .iand, 1, 64), (64, .ireturn, 1, 65)] := zDL.of (by decide +kernel)
section
variable {p : Program} {l : Launch} {e : Env} {s : State} {m : MethodId} {args : Array Value} {below : List Frame} {meth : Method} {c : Code} {G : zG} {top : Int} {L : zL} {fu : Nat}
theorem Mo_byteOf_b45_w (E : zEv p m c cX12_byteOf 7 s args RX12 meth (some .int) G) {res : Int} {M : zM} {x5 : Int} {y0 : Int} {H : Heap} {locs : List Loc} {ls : Array Slot} (hx5 : InR x5) (hy0 : InR y0) (S : zS G top L M s H locs) (hl : zLV ls 7 [none, none, none, none, none, some (.int (zO x5)), none]) (h : Mo_byteOf_b45 fu L M x5 y0 = some res) : W p l e (zrm 1 0 0) s m args below meth c H locs 0 0 (MQ below (zQ G top L M (some (.int (zO res))) (InR res)) args s 0 0 (zA G)) (F0 m 45 ls [.int (zO y0)]) := by
  unfold Mo_byteOf_b45 at h
  refine u_ist (y := y0) (vs' := [none, none, none, none, none, some (.int (zO x5)), some (.int (zO y0))]) E rfl (Mo_byteOf_dc.at 21 rfl) hl (by decide) rfl (fun ls hl => ?_)
  refine u_il (x := y0) E (Mo_byteOf_dc.at 22 rfl) hl rfl ?_
  refine r_bipush E (Mo_byteOf_dc.at 23 rfl) rfl ?_
  refine r_bipush E (Mo_byteOf_dc.at 24 rfl) rfl ?_
  refine u_il (x := x5) E (Mo_byteOf_dc.at 25 rfl) hl rfl ?_
  refine r_iconst E (Mo_byteOf_dc.at 26 rfl) ?_
  refine r_irem E hx5 (show InR 4 by decide) (by decide) (Mo_byteOf_dc.at 27 rfl) ?_
  refine r_imul E (Mo_byteOf_dc.at 28 rfl) ?_
  refine r_isub E (Mo_byteOf_dc.at 29 rfl) ?_
  refine r_ishr E (Mo_byteOf_dc.at 30 rfl) ?_
  refine r_sipush E (Mo_byteOf_dc.at 31 rfl) rfl ?_
  refine r_iand E (Mo_byteOf_dc.at 32 rfl) ?_
  cases h
  exact r_iret E S (inR_iand _ _) (Mo_byteOf_dc.at 33 rfl)
theorem Mo_byteOf_w (E : zEv p m c cX12_byteOf 7 s args RX12 meth (some .int) G) {res : Int} {M : zM} {a0 : Int} {a1 : Int} {a2 : Int} {a3 : Int} {a4 : Int} {a5 : Int} {H : Heap} {locs : List Loc} {ls : Array Slot} (ha0 : InR a0) (ha1 : InR a1) (ha2 : InR a2) (ha3 : InR a3) (ha4 : InR a4) (ha5 : InR a5) (S : zS G top L M s H locs) (hl : zLV ls 7 [some (.int (zO a0)), some (.int (zO a1)), some (.int (zO a2)), some (.int (zO a3)), some (.int (zO a4)), some (.int (zO a5)), none]) (h : Mo_byteOf fu L M a0 a1 a2 a3 a4 a5 = some res) : W p l e (zrm 1 0 0) s m args below meth c H locs 0 0 (MQ below (zQ G top L M (some (.int (zO res))) (InR res)) args s 0 0 (zA G)) (F0 m 0 ls []) := by
  unfold Mo_byteOf at h
  refine u_il (x := a5) E (Mo_byteOf_dc.at 0 rfl) hl rfl ?_
  refine r_iconst E (Mo_byteOf_dc.at 1 rfl) ?_
  refine r_icmp_ge (tgt := 10) E ha5 (show InR 4 by decide) (Mo_byteOf_dc.at 2 rfl) (by decide) (fun q => ?_) (fun q => ?_)
  · have h := ite_t h q
    refine u_il_n (x := a0) E (Mo_byteOf_dc.at 3 rfl) hl rfl ?_
    refine r_goto (tgt := 45) E (Mo_byteOf_dc.at 4 rfl) (by decide) ?_
    exact Mo_byteOf_b45_w (x5 := a5) (y0 := a0) E ha5 ha0 S (hl.sub (And.intro rfl True.intro)) h
  · have h := ite_f h q
    refine u_il (x := a5) E (Mo_byteOf_dc.at 5 rfl) hl rfl ?_
    refine r_bipush E (Mo_byteOf_dc.at 6 rfl) rfl ?_
    refine r_icmp_ge (tgt := 21) E ha5 (show InR 8 by decide) (Mo_byteOf_dc.at 7 rfl) (by decide) (fun q => ?_) (fun q => ?_)
    · have h := ite_t h q
      refine u_il_n (x := a1) E (Mo_byteOf_dc.at 8 rfl) hl rfl ?_
      refine r_goto (tgt := 45) E (Mo_byteOf_dc.at 9 rfl) (by decide) ?_
      exact Mo_byteOf_b45_w (x5 := a5) (y0 := a1) E ha5 ha1 S (hl.sub (And.intro rfl True.intro)) h
    · have h := ite_f h q
      refine u_il (x := a5) E (Mo_byteOf_dc.at 10 rfl) hl rfl ?_
      refine r_bipush E (Mo_byteOf_dc.at 11 rfl) rfl ?_
      refine r_icmp_ge (tgt := 32) E ha5 (show InR 12 by decide) (Mo_byteOf_dc.at 12 rfl) (by decide) (fun q => ?_) (fun q => ?_)
      · have h := ite_t h q
        refine u_il_n (x := a2) E (Mo_byteOf_dc.at 13 rfl) hl rfl ?_
        refine r_goto (tgt := 45) E (Mo_byteOf_dc.at 14 rfl) (by decide) ?_
        exact Mo_byteOf_b45_w (x5 := a5) (y0 := a2) E ha5 ha2 S (hl.sub (And.intro rfl True.intro)) h
      · have h := ite_f h q
        refine u_il (x := a5) E (Mo_byteOf_dc.at 15 rfl) hl rfl ?_
        refine r_bipush E (Mo_byteOf_dc.at 16 rfl) rfl ?_
        refine r_icmp_ge (tgt := 43) E ha5 (show InR 16 by decide) (Mo_byteOf_dc.at 17 rfl) (by decide) (fun q => ?_) (fun q => ?_)
        · have h := ite_t h q
          refine u_il_n (x := a3) E (Mo_byteOf_dc.at 18 rfl) hl rfl ?_
          refine r_goto (tgt := 45) E (Mo_byteOf_dc.at 19 rfl) (by decide) ?_
          exact Mo_byteOf_b45_w (x5 := a5) (y0 := a3) E ha5 ha3 S (hl.sub (And.intro rfl True.intro)) h
        · have h := ite_f h q
          refine u_il (x := a4) E (Mo_byteOf_dc.at 20 rfl) hl rfl ?_
          exact Mo_byteOf_b45_w (x5 := a5) (y0 := a4) E ha5 ha4 S (hl.sub (And.intro rfl True.intro)) h
theorem Mo_byteOf_c (l : Launch) (G : zG) (fu : Nat) (top : Int) (L : zL) (M : zM) (a0 : Int) (a1 : Int) (a2 : Int) (a3 : Int) (a4 : Int) (a5 : Int) {res : Int} (ha0 : InR a0) (ha1 : InR a1) (ha2 : InR a2) (ha3 : InR a3) (ha4 : InR a4) (ha5 : InR a5) (h : Mo_byteOf fu L M a0 a1 a2 a3 a4 a5 = some res) : Met l yX12_byteOf (Cond.code yX12_byteOf cX12_byteOf 7 (some .int) :: zTB) (zrm 1 0 0) (va_Pc [.int (zO a0), .int (zO a1), .int (zO a2), .int (zO a3), .int (zO a4), .int (zO a5)] (zPre G top L M)) (zQ G top L M (some (.int (zO res))) (InR res)) 0 0 (zA G) :=
  z_met (by decide +kernel) (by simp [zR_cat, zcat_I, zcat_S]) (Nat.le_of_ble_eq_true rfl) fun p e s m below meth c ls E hn S hl => Mo_byteOf_w E ha0 ha1 ha2 ha3 ha4 ha5 S (hl.sub (And.intro rfl (And.intro rfl (And.intro rfl (And.intro rfl (And.intro rfl (And.intro rfl True.intro))))))) h
end
theorem Mo_feed_dc : zDL cX12_feed [(0, .aload_n 0, 1, 1), (1, .iconst 0, 1, 2), (2, .putfield 66, 3, 5), (5, .iconst 0, 1, 6), (6, .istore 6, 2, 8), (8, .iconst 0, 1, 9), (9, .istore 7, 2, 11), (11, .iload 7, 2, 13), (13, .bipush 20, 2, 15), (15, .if_icmp .ge 34, 3, 18), (18, .iload 6, 2, 20), (20, .iload_n 1, 1, 21), (21, .iload_n 2, 1, 22), (22, .iload_n 3, 1, 23), (23, .iload 4, 2, 25), (25, .iload 5, 2, 27), (27, .iload 7, 2, 29), (29, .invokestatic 69, 3, 32), (32, .ifCond .eq 7, 3, 35), (35, .iconst 1, 1, 36), (36, .goto 4, 3, 39), (39, .iconst 0, 1, 40), (40, .iadd, 1, 41), (41, .istore 6, 2, 43), (43, .iinc 7 1, 3, 46), (46, .goto (-35), 3, 49), (49, .aload_n 0, 1, 50), (50, .getfield 73, 3, 53), (53, .iload 6, 2, 55), (55, .iadd, 1, 56), (56, .sipush 300, 3, 59), (59, .if_icmp .le 5, 3, 62), (62, .iconst (-1), 1, 63), (63, .ireturn, 1, 64), (64, .iconst 0, 1, 65), (65, .istore 7, 2, 67), (67, .iload 7, 2, 69), (69, .bipush 20, 2, 71), (71, .if_icmp .ge 49, 3, 74), (74, .iload_n 1, 1, 75), (75, .iload_n 2, 1, 76), (76, .iload_n 3, 1, 77), (77, .iload 4, 2, 79), (79, .iload 5, 2, 81), (81, .iload 7, 2, 83), (83, .invokestatic 69, 3, 86), (86, .istore 8, 2, 88), (88, .iload 8, 2, 90), (90, .ifCond .eq 24, 3, 93), (93, .aload_n 0, 1, 94), (94, .getfield 9, 3, 97), (97, .aload_n 0, 1, 98), (98, .getfield 73, 3, 101), (101, .iload 8, 2, 103), (103, .iastore, 1, 104), (104, .aload_n 0, 1, 105), (105, .dup, 1, 106), (106, .getfield 73, 3, 109), (109, .iconst 1, 1, 110), (110, .iadd, 1, 111), (111, .putfield 73, 3, 114), (114, .iinc 7 1, 3, 117), (117, .goto (-50), 3, 120), (120, .aload_n 0, 1, 121), (121, .getfield 73, 3, 124), (124, .ireturn, 1, 125)] := zDL.of (by decide +kernel)
section
variable {p : Program} {l : Launch} {e : Env} {s : State} {m : MethodId} {args : Array Value} {below : List Frame} {meth : Method} {c : Code} {G : zG} {top : Int} {L : zL} {fu : Nat}
theorem Mo_feed_s67_w (E : zEv p m c cX12_feed 9 s args RX12 meth (some .int) G) {res : (zM × Int)} {k67 : zM → Int → Int → Int → Int → Int → Int → Int → Option (zM × Int)} (hk67 : ∀ (M : zM) (x0 : Int) (x1 : Int) (x2 : Int) (x3 : Int) (x4 : Int) (x5 : Int) (x7 : Int), InR x0 → InR x1 → InR x2 → InR x3 → InR x4 → InR x5 → InR x7 → ∀ (H : Heap) (locs : List Loc) (ls : Array Slot), zS G top L M s H locs → zLV ls 9 [some (zR G.2.2.1 x0), some (.int (zO x1)), some (.int (zO x2)), some (.int (zO x3)), some (.int (zO x4)), some (.int (zO x5)), none, some (.int (zO x7)), none] → k67 M x0 x1 x2 x3 x4 x5 x7 = some res → W p l e (zrm 2 0 0) s m args below meth c H locs 0 0 (MQ below (zQ G top L res.1 (some (.int (zO res.2))) (InR res.2)) args s 0 0 (zA G)) (F0 m 67 ls [])) {M : zM} {x0 : Int} {x1 : Int} {x2 : Int} {x3 : Int} {x4 : Int} {x5 : Int} {x7 : Int} {H : Heap} {locs : List Loc} {ls : Array Slot} (hx0 : InR x0) (hx1 : InR x1) (hx2 : InR x2) (hx3 : InR x3) (hx4 : InR x4) (hx5 : InR x5) (hx7 : InR x7) (S : zS G top L M s H locs) (hl : zLV ls 9 [some (zR G.2.2.1 x0), some (.int (zO x1)), some (.int (zO x2)), some (.int (zO x3)), some (.int (zO x4)), some (.int (zO x5)), none, some (.int (zO x7)), none]) (h : Mo_feed_s67 fu k67 L M x0 x1 x2 x3 x4 x5 x7 = some res) : W p l e (zrm 2 0 0) s m args below meth c H locs 0 0 (MQ below (zQ G top L res.1 (some (.int (zO res.2))) (InR res.2)) args s 0 0 (zA G)) (F0 m 67 ls []) := by
  unfold Mo_feed_s67 at h
  refine u_il (x := x7) E (Mo_feed_dc.at 36 rfl) hl rfl ?_
  refine r_bipush E (Mo_feed_dc.at 37 rfl) rfl ?_
  refine r_icmp_ge (tgt := 120) E hx7 (show InR 20 by decide) (Mo_feed_dc.at 38 rfl) (by decide) (fun q => ?_) (fun q => ?_)
  · have h := ite_t h q
    refine u_il_n (x := x1) E (Mo_feed_dc.at 39 rfl) hl rfl ?_
    refine u_il_n (x := x2) E (Mo_feed_dc.at 40 rfl) hl rfl ?_
    refine u_il_n (x := x3) E (Mo_feed_dc.at 41 rfl) hl rfl ?_
    refine u_il (x := x4) E (Mo_feed_dc.at 42 rfl) hl rfl ?_
    refine u_il (x := x5) E (Mo_feed_dc.at 43 rfl) hl rfl ?_
    refine u_il (x := x7) E (Mo_feed_dc.at 44 rfl) hl rfl ?_
    obtain ⟨r11, er11, h⟩ := bd1_e h
    refine u_cSI (As := [.int (zO x1), .int (zO x2), .int (zO x3), .int (zO x4), .int (zO x5), .int (zO x7)]) (rest := []) E S zcw_yX12_byteOf zw_7_127 zw_7_126 (Mo_byteOf_c l G fu top L M x1 x2 x3 x4 x5 x7 hx1 hx2 hx3 hx4 hx5 hx7 er11) (zrm_ok (by decide) (by decide)) ⟨Nat.le_refl 0, Nat.le_refl 0⟩ rfl (Nat.zero_le 8) hl.size rfl (Mo_feed_dc.at 45 rfl) (fun H locs hr11 S12 => ?_)
    refine u_ist (y := r11) (vs' := [some (zR G.2.2.1 x0), some (.int (zO x1)), some (.int (zO x2)), some (.int (zO x3)), some (.int (zO x4)), some (.int (zO x5)), none, some (.int (zO x7)), some (.int (zO r11))]) E rfl (Mo_feed_dc.at 46 rfl) hl (by decide) rfl (fun ls hl => ?_)
    refine u_il (x := r11) E (Mo_feed_dc.at 47 rfl) hl rfl ?_
    refine r_if_eq (tgt := 114) E hr11 (Mo_feed_dc.at 48 rfl) (by decide) (fun q => ?_) (fun q => ?_)
    · have h := ite_t h q
      obtain ⟨v13, ev13, h⟩ := lt1_e h
      have hv13 := inR_eq ev13 (inR_w32 _)
      refine u_iinc (y := v13) (vs' := [some (zR G.2.2.1 x0), some (.int (zO x1)), some (.int (zO x2)), some (.int (zO x3)), some (.int (zO x4)), some (.int (zO x5)), none, some (.int (zO v13)), some (.int (zO r11))]) E ev13 (Mo_feed_dc.at 61 rfl) hl rfl (by decide) rfl (fun ls hl => ?_)
      refine r_goto (tgt := 67) E (Mo_feed_dc.at 62 rfl) (by decide) ?_
      exact hk67 _ x0 x1 x2 x3 x4 x5 v13 hx0 hx1 hx2 hx3 hx4 hx5 hv13 _ _ _ S12 (hl.sub (And.intro rfl (And.intro rfl (And.intro rfl (And.intro rfl (And.intro rfl (And.intro rfl (And.intro rfl True.intro)))))))) h
    · have h := ite_f h q
      refine u_al_n (x := x0) E (Mo_feed_dc.at 49 rfl) hl rfl ?_
      obtain ⟨g14, h⟩ := ite_e h
      refine u_gR E zf_12_1 S12 g14 zw_6_208 (Mo_feed_dc.at 50 rfl) ?_
      refine u_al_n (x := x0) E (Mo_feed_dc.at 51 rfl) hl rfl ?_
      refine u_gI E zf_12_2 S12 g14 zw_6_209 (Mo_feed_dc.at 52 rfl) ?_
      refine u_il (x := r11) E (Mo_feed_dc.at 53 rfl) hl rfl ?_
      obtain ⟨g15, h⟩ := ite_e h
      obtain ⟨g16, h⟩ := ite_e h
      obtain ⟨M17, eM17, h⟩ := lt1_e h
      refine u_iast E eM17 S12 g15 g16 hr11 (Mo_feed_dc.at 54 rfl) (fun H locs S18 => ?_)
      refine u_al_n (x := x0) E (Mo_feed_dc.at 55 rfl) hl rfl ?_
      refine r_dup E (Mo_feed_dc.at 56 rfl) (zR_cat _ _) ?_
      refine u_gI E zf_12_2 S18 g14 zw_6_209 (Mo_feed_dc.at 57 rfl) ?_
      refine r_iconst E (Mo_feed_dc.at 58 rfl) ?_
      refine r_iadd E (Mo_feed_dc.at 59 rfl) ?_
      obtain ⟨M19, eM19, h⟩ := lt1_e h
      refine u_pI E eM19 zf_12_2 S18 g14 (inR_w32 _) (Or.inl rfl) rfl zw_6_209 (Mo_feed_dc.at 60 rfl) (fun H locs S20 => ?_)
      obtain ⟨v21, ev21, h⟩ := lt1_e h
      have hv21 := inR_eq ev21 (inR_w32 _)
      refine u_iinc (y := v21) (vs' := [some (zR G.2.2.1 x0), some (.int (zO x1)), some (.int (zO x2)), some (.int (zO x3)), some (.int (zO x4)), some (.int (zO x5)), none, some (.int (zO v21)), some (.int (zO r11))]) E ev21 (Mo_feed_dc.at 61 rfl) hl rfl (by decide) rfl (fun ls hl => ?_)
      refine r_goto (tgt := 67) E (Mo_feed_dc.at 62 rfl) (by decide) ?_
      exact hk67 _ x0 x1 x2 x3 x4 x5 v21 hx0 hx1 hx2 hx3 hx4 hx5 hv21 _ _ _ S20 (hl.sub (And.intro rfl (And.intro rfl (And.intro rfl (And.intro rfl (And.intro rfl (And.intro rfl (And.intro rfl True.intro)))))))) h
  · have h := ite_f h q
    refine u_al_n (x := x0) E (Mo_feed_dc.at 63 rfl) hl rfl ?_
    obtain ⟨g22, h⟩ := ite_e h
    refine u_gI E zf_12_2 S g22 zw_6_209 (Mo_feed_dc.at 64 rfl) ?_
    cases h
    exact r_iret E S (S.1.inR _ _) (Mo_feed_dc.at 65 rfl)
theorem Mo_feed_l67_w (E : zEv p m c cX12_feed 9 s args RX12 meth (some .int) G) {res : (zM × Int)} : ∀ (n : Nat) (M : zM) (x0 : Int) (x1 : Int) (x2 : Int) (x3 : Int) (x4 : Int) (x5 : Int) (x7 : Int), InR x0 → InR x1 → InR x2 → InR x3 → InR x4 → InR x5 → InR x7 → ∀ (H : Heap) (locs : List Loc) (ls : Array Slot), zS G top L M s H locs → zLV ls 9 [some (zR G.2.2.1 x0), some (.int (zO x1)), some (.int (zO x2)), some (.int (zO x3)), some (.int (zO x4)), some (.int (zO x5)), none, some (.int (zO x7)), none] → Mo_feed_l67 fu L n M x0 x1 x2 x3 x4 x5 x7 = some res → W p l e (zrm 2 0 0) s m args below meth c H locs 0 0 (MQ below (zQ G top L res.1 (some (.int (zO res.2))) (InR res.2)) args s 0 0 (zA G)) (F0 m 67 ls [])
  | 0, _, _, _, _, _, _, _, _ => fun _ _ _ _ _ _ _ _ _ _ _ _ h => (by cases h)
  | n + 1, M, x0, x1, x2, x3, x4, x5, x7 => fun hx0 hx1 hx2 hx3 hx4 hx5 hx7 H locs ls S hl h => Mo_feed_s67_w E (fun M x0 x1 x2 x3 x4 x5 x7 hx0 hx1 hx2 hx3 hx4 hx5 hx7 H locs ls S hl h => Mo_feed_l67_w E n M x0 x1 x2 x3 x4 x5 x7 hx0 hx1 hx2 hx3 hx4 hx5 hx7 H locs ls S hl h) hx0 hx1 hx2 hx3 hx4 hx5 hx7 S hl h
theorem Mo_feed_s11_w (E : zEv p m c cX12_feed 9 s args RX12 meth (some .int) G) {res : (zM × Int)} {k11 : zM → Int → Int → Int → Int → Int → Int → Int → Int → Option (zM × Int)} (hk11 : ∀ (M : zM) (x0 : Int) (x1 : Int) (x2 : Int) (x3 : Int) (x4 : Int) (x5 : Int) (x6 : Int) (x7 : Int), InR x0 → InR x1 → InR x2 → InR x3 → InR x4 → InR x5 → InR x6 → InR x7 → ∀ (H : Heap) (locs : List Loc) (ls : Array Slot), zS G top L M s H locs → zLV ls 9 [some (zR G.2.2.1 x0), some (.int (zO x1)), some (.int (zO x2)), some (.int (zO x3)), some (.int (zO x4)), some (.int (zO x5)), some (.int (zO x6)), some (.int (zO x7)), none] → k11 M x0 x1 x2 x3 x4 x5 x6 x7 = some res → W p l e (zrm 2 0 0) s m args below meth c H locs 0 0 (MQ below (zQ G top L res.1 (some (.int (zO res.2))) (InR res.2)) args s 0 0 (zA G)) (F0 m 11 ls [])) {M : zM} {x0 : Int} {x1 : Int} {x2 : Int} {x3 : Int} {x4 : Int} {x5 : Int} {x6 : Int} {x7 : Int} {H : Heap} {locs : List Loc} {ls : Array Slot} (hx0 : InR x0) (hx1 : InR x1) (hx2 : InR x2) (hx3 : InR x3) (hx4 : InR x4) (hx5 : InR x5) (hx6 : InR x6) (hx7 : InR x7) (S : zS G top L M s H locs) (hl : zLV ls 9 [some (zR G.2.2.1 x0), some (.int (zO x1)), some (.int (zO x2)), some (.int (zO x3)), some (.int (zO x4)), some (.int (zO x5)), some (.int (zO x6)), some (.int (zO x7)), none]) (h : Mo_feed_s11 fu k11 L M x0 x1 x2 x3 x4 x5 x6 x7 = some res) : W p l e (zrm 2 0 0) s m args below meth c H locs 0 0 (MQ below (zQ G top L res.1 (some (.int (zO res.2))) (InR res.2)) args s 0 0 (zA G)) (F0 m 11 ls []) := by
  unfold Mo_feed_s11 at h
  refine u_il (x := x7) E (Mo_feed_dc.at 7 rfl) hl rfl ?_
  refine r_bipush E (Mo_feed_dc.at 8 rfl) rfl ?_
  refine r_icmp_ge (tgt := 49) E hx7 (show InR 20 by decide) (Mo_feed_dc.at 9 rfl) (by decide) (fun q => ?_) (fun q => ?_)
  · have h := ite_t h q
    refine u_il (x := x6) E (Mo_feed_dc.at 10 rfl) hl rfl ?_
    refine u_il_n (x := x1) E (Mo_feed_dc.at 11 rfl) hl rfl ?_
    refine u_il_n (x := x2) E (Mo_feed_dc.at 12 rfl) hl rfl ?_
    refine u_il_n (x := x3) E (Mo_feed_dc.at 13 rfl) hl rfl ?_
    refine u_il (x := x4) E (Mo_feed_dc.at 14 rfl) hl rfl ?_
    refine u_il (x := x5) E (Mo_feed_dc.at 15 rfl) hl rfl ?_
    refine u_il (x := x7) E (Mo_feed_dc.at 16 rfl) hl rfl ?_
    obtain ⟨r4, er4, h⟩ := bd1_e h
    refine u_cSI (As := [.int (zO x1), .int (zO x2), .int (zO x3), .int (zO x4), .int (zO x5), .int (zO x7)]) (rest := [.int (zO x6)]) E S zcw_yX12_byteOf zw_7_127 zw_7_126 (Mo_byteOf_c l G fu top L M x1 x2 x3 x4 x5 x7 hx1 hx2 hx3 hx4 hx5 hx7 er4) (zrm_ok (by decide) (by decide)) ⟨Nat.le_refl 0, Nat.le_refl 0⟩ rfl (by simp [zR_cat, zcat_I, zcat_J, zcat_S]) hl.size rfl (Mo_feed_dc.at 17 rfl) (fun H locs hr4 S5 => ?_)
    refine r_if_eq (tgt := 39) E hr4 (Mo_feed_dc.at 18 rfl) (by decide) (fun q => ?_) (fun q => ?_)
    · have h := ite_t h q
      refine r_iconst E (Mo_feed_dc.at 21 rfl) ?_
      refine r_iadd E (Mo_feed_dc.at 22 rfl) ?_
      obtain ⟨v6, ev6, h⟩ := lt1_e h
      have hv6 := inR_eq ev6 (inR_w32 _)
      refine u_ist (y := v6) (vs' := [some (zR G.2.2.1 x0), some (.int (zO x1)), some (.int (zO x2)), some (.int (zO x3)), some (.int (zO x4)), some (.int (zO x5)), some (.int (zO v6)), some (.int (zO x7)), none]) E ev6 (Mo_feed_dc.at 23 rfl) hl (by decide) rfl (fun ls hl => ?_)
      obtain ⟨v7, ev7, h⟩ := lt1_e h
      have hv7 := inR_eq ev7 (inR_w32 _)
      refine u_iinc (y := v7) (vs' := [some (zR G.2.2.1 x0), some (.int (zO x1)), some (.int (zO x2)), some (.int (zO x3)), some (.int (zO x4)), some (.int (zO x5)), some (.int (zO v6)), some (.int (zO v7)), none]) E ev7 (Mo_feed_dc.at 24 rfl) hl rfl (by decide) rfl (fun ls hl => ?_)
      refine r_goto (tgt := 11) E (Mo_feed_dc.at 25 rfl) (by decide) ?_
      exact hk11 _ x0 x1 x2 x3 x4 x5 v6 v7 hx0 hx1 hx2 hx3 hx4 hx5 hv6 hv7 _ _ _ S5 (hl.sub (And.intro rfl (And.intro rfl (And.intro rfl (And.intro rfl (And.intro rfl (And.intro rfl (And.intro rfl (And.intro rfl True.intro))))))))) h
    · have h := ite_f h q
      refine r_iconst E (Mo_feed_dc.at 19 rfl) ?_
      refine r_goto (tgt := 40) E (Mo_feed_dc.at 20 rfl) (by decide) ?_
      refine r_iadd E (Mo_feed_dc.at 22 rfl) ?_
      obtain ⟨v8, ev8, h⟩ := lt1_e h
      have hv8 := inR_eq ev8 (inR_w32 _)
      refine u_ist (y := v8) (vs' := [some (zR G.2.2.1 x0), some (.int (zO x1)), some (.int (zO x2)), some (.int (zO x3)), some (.int (zO x4)), some (.int (zO x5)), some (.int (zO v8)), some (.int (zO x7)), none]) E ev8 (Mo_feed_dc.at 23 rfl) hl (by decide) rfl (fun ls hl => ?_)
      obtain ⟨v9, ev9, h⟩ := lt1_e h
      have hv9 := inR_eq ev9 (inR_w32 _)
      refine u_iinc (y := v9) (vs' := [some (zR G.2.2.1 x0), some (.int (zO x1)), some (.int (zO x2)), some (.int (zO x3)), some (.int (zO x4)), some (.int (zO x5)), some (.int (zO v8)), some (.int (zO v9)), none]) E ev9 (Mo_feed_dc.at 24 rfl) hl rfl (by decide) rfl (fun ls hl => ?_)
      refine r_goto (tgt := 11) E (Mo_feed_dc.at 25 rfl) (by decide) ?_
      exact hk11 _ x0 x1 x2 x3 x4 x5 v8 v9 hx0 hx1 hx2 hx3 hx4 hx5 hv8 hv9 _ _ _ S5 (hl.sub (And.intro rfl (And.intro rfl (And.intro rfl (And.intro rfl (And.intro rfl (And.intro rfl (And.intro rfl (And.intro rfl True.intro))))))))) h
  · have h := ite_f h q
    refine u_al_n (x := x0) E (Mo_feed_dc.at 26 rfl) hl rfl ?_
    obtain ⟨g10, h⟩ := ite_e h
    refine u_gI E zf_12_2 S g10 zw_6_209 (Mo_feed_dc.at 27 rfl) ?_
    refine u_il (x := x6) E (Mo_feed_dc.at 28 rfl) hl rfl ?_
    refine r_iadd E (Mo_feed_dc.at 29 rfl) ?_
    refine r_sipush E (Mo_feed_dc.at 30 rfl) rfl ?_
    refine r_icmp_le (tgt := 64) E (inR_w32 _) (show InR 300 by decide) (Mo_feed_dc.at 31 rfl) (by decide) (fun q => ?_) (fun q => ?_)
    · have h := ite_t h q
      refine r_iconst E (Mo_feed_dc.at 32 rfl) ?_
      cases h
      exact r_iret E S (show InR (-1) by decide) (Mo_feed_dc.at 33 rfl)
    · have h := ite_f h q
      refine r_iconst E (Mo_feed_dc.at 34 rfl) ?_
      refine u_ist (y := 0) (vs' := [some (zR G.2.2.1 x0), some (.int (zO x1)), some (.int (zO x2)), some (.int (zO x3)), some (.int (zO x4)), some (.int (zO x5)), some (.int (zO x6)), some (.int (zO 0)), none]) E rfl (Mo_feed_dc.at 35 rfl) hl (by decide) rfl (fun ls hl => ?_)
      exact Mo_feed_l67_w E fu _ x0 x1 x2 x3 x4 x5 0 hx0 hx1 hx2 hx3 hx4 hx5 (show InR 0 by decide) _ _ _ S (hl.sub (And.intro rfl (And.intro rfl (And.intro rfl (And.intro rfl (And.intro rfl (And.intro rfl (And.intro rfl True.intro)))))))) h
theorem Mo_feed_l11_w (E : zEv p m c cX12_feed 9 s args RX12 meth (some .int) G) {res : (zM × Int)} : ∀ (n : Nat) (M : zM) (x0 : Int) (x1 : Int) (x2 : Int) (x3 : Int) (x4 : Int) (x5 : Int) (x6 : Int) (x7 : Int), InR x0 → InR x1 → InR x2 → InR x3 → InR x4 → InR x5 → InR x6 → InR x7 → ∀ (H : Heap) (locs : List Loc) (ls : Array Slot), zS G top L M s H locs → zLV ls 9 [some (zR G.2.2.1 x0), some (.int (zO x1)), some (.int (zO x2)), some (.int (zO x3)), some (.int (zO x4)), some (.int (zO x5)), some (.int (zO x6)), some (.int (zO x7)), none] → Mo_feed_l11 fu L n M x0 x1 x2 x3 x4 x5 x6 x7 = some res → W p l e (zrm 2 0 0) s m args below meth c H locs 0 0 (MQ below (zQ G top L res.1 (some (.int (zO res.2))) (InR res.2)) args s 0 0 (zA G)) (F0 m 11 ls [])
  | 0, _, _, _, _, _, _, _, _, _ => fun _ _ _ _ _ _ _ _ _ _ _ _ _ h => (by cases h)
  | n + 1, M, x0, x1, x2, x3, x4, x5, x6, x7 => fun hx0 hx1 hx2 hx3 hx4 hx5 hx6 hx7 H locs ls S hl h => Mo_feed_s11_w E (fun M x0 x1 x2 x3 x4 x5 x6 x7 hx0 hx1 hx2 hx3 hx4 hx5 hx6 hx7 H locs ls S hl h => Mo_feed_l11_w E n M x0 x1 x2 x3 x4 x5 x6 x7 hx0 hx1 hx2 hx3 hx4 hx5 hx6 hx7 H locs ls S hl h) hx0 hx1 hx2 hx3 hx4 hx5 hx6 hx7 S hl h
theorem Mo_feed_w (E : zEv p m c cX12_feed 9 s args RX12 meth (some .int) G) {res : (zM × Int)} {M : zM} {a0 : Int} {a1 : Int} {a2 : Int} {a3 : Int} {a4 : Int} {a5 : Int} {H : Heap} {locs : List Loc} {ls : Array Slot} (ha0 : InR a0) (ha1 : InR a1) (ha2 : InR a2) (ha3 : InR a3) (ha4 : InR a4) (ha5 : InR a5) (S : zS G top L M s H locs) (hl : zLV ls 9 [some (zR G.2.2.1 a0), some (.int (zO a1)), some (.int (zO a2)), some (.int (zO a3)), some (.int (zO a4)), some (.int (zO a5)), none, none, none]) (h : Mo_feed fu L M a0 a1 a2 a3 a4 a5 = some res) : W p l e (zrm 2 0 0) s m args below meth c H locs 0 0 (MQ below (zQ G top L res.1 (some (.int (zO res.2))) (InR res.2)) args s 0 0 (zA G)) (F0 m 0 ls []) := by
  unfold Mo_feed at h
  refine u_al_n (x := a0) E (Mo_feed_dc.at 0 rfl) hl rfl ?_
  refine r_iconst E (Mo_feed_dc.at 1 rfl) ?_
  obtain ⟨g1, h⟩ := ite_e h
  obtain ⟨M2, eM2, h⟩ := lt1_e h
  refine u_pI E eM2 zf_12_0 S g1 (show InR 0 by decide) (Or.inl rfl) rfl zw_6_207 (Mo_feed_dc.at 2 rfl) (fun H locs S3 => ?_)
  refine r_iconst E (Mo_feed_dc.at 3 rfl) ?_
  refine u_ist (y := 0) (vs' := [some (zR G.2.2.1 a0), some (.int (zO a1)), some (.int (zO a2)), some (.int (zO a3)), some (.int (zO a4)), some (.int (zO a5)), some (.int (zO 0)), none, none]) E rfl (Mo_feed_dc.at 4 rfl) hl (by decide) rfl (fun ls hl => ?_)
  refine r_iconst E (Mo_feed_dc.at 5 rfl) ?_
  refine u_ist (y := 0) (vs' := [some (zR G.2.2.1 a0), some (.int (zO a1)), some (.int (zO a2)), some (.int (zO a3)), some (.int (zO a4)), some (.int (zO a5)), some (.int (zO 0)), some (.int (zO 0)), none]) E rfl (Mo_feed_dc.at 6 rfl) hl (by decide) rfl (fun ls hl => ?_)
  exact Mo_feed_l11_w E fu _ a0 a1 a2 a3 a4 a5 0 0 ha0 ha1 ha2 ha3 ha4 ha5 (show InR 0 by decide) (show InR 0 by decide) _ _ _ S3 (hl.sub (And.intro rfl (And.intro rfl (And.intro rfl (And.intro rfl (And.intro rfl (And.intro rfl (And.intro rfl (And.intro rfl True.intro))))))))) h
theorem Mo_feed_c (l : Launch) (G : zG) (fu : Nat) (top : Int) (L : zL) (M : zM) (a0 : Int) (a1 : Int) (a2 : Int) (a3 : Int) (a4 : Int) (a5 : Int) {res : (zM × Int)} (ha0 : InR a0) (ha1 : InR a1) (ha2 : InR a2) (ha3 : InR a3) (ha4 : InR a4) (ha5 : InR a5) (h : Mo_feed fu L M a0 a1 a2 a3 a4 a5 = some res) : Met l yX12_feed (Cond.code yX12_feed cX12_feed 9 (some .int) :: zTB) (zrm 2 0 0) (va_Pc [zR G.2.2.1 a0, .int (zO a1), .int (zO a2), .int (zO a3), .int (zO a4), .int (zO a5)] (zPre G top L M)) (zQ G top L res.1 (some (.int (zO res.2))) (InR res.2)) 0 0 (zA G) :=
  z_met (by decide +kernel) (by simp [zR_cat, zcat_I, zcat_S]) (Nat.le_of_ble_eq_true rfl) fun p e s m below meth c ls E hn S hl => Mo_feed_w E ha0 ha1 ha2 ha3 ha4 ha5 S (hl.sub (And.intro rfl (And.intro rfl (And.intro rfl (And.intro rfl (And.intro rfl (And.intro rfl True.intro))))))) h
end
theorem Mo_end0_dc : zDL cX12_end [(0, .aload_n 0, 1, 1), (1, .iconst 0, 1, 2), (2, .putfield 66, 3, 5), (5, .iload_n 1, 1, 6), (6, .i2l, 1, 7), (7, .lconst 0, 1, 8), (8, .aload_n 0, 1, 9), (9, .getfield 73, 3, 12), (12, .i2l, 1, 13), (13, .invokestatic 76, 3, 16), (16, .ifCond .ne 5, 3, 19), (19, .iconst 0, 1, 20), (20, .ireturn, 1, 21), (21, .aload_n 0, 1, 22), (22, .iload_n 1, 1, 23), (23, .putfield 73, 3, 26), (26, .iconst 1, 1, 27), (27, .ireturn, 1, 28)] := zDL.of (by decide +kernel)
section
variable {p : Program} {l : Launch} {e : Env} {s : State} {m : MethodId} {args : Array Value} {below : List Frame} {meth : Method} {c : Code} {G : zG} {top : Int} {L : zL} {fu : Nat}
theorem Mo_end0_w (E : zEv p m c cX12_end 2 s args RX12 meth (some .boolean) G) {res : (zM × Int)} {M : zM} {a0 : Int} {a1 : Int} {H : Heap} {locs : List Loc} {ls : Array Slot} (ha0 : InR a0) (ha1 : InR a1) (S : zS G top L M s H locs) (hl : zLV ls 2 [some (zR G.2.2.1 a0), some (.int (zO a1))]) (h : Mo_end0 fu L M a0 a1 = some res) : W p l e (zrm 2 0 0) s m args below meth c H locs 0 0 (MQ below (zQ G top L res.1 (some (.int (zO res.2))) (0 ≤ res.2 ∧ res.2 ≤ 1)) args s 0 0 (zA G)) (F0 m 0 ls []) := by
  unfold Mo_end0 at h
  refine u_al_n (x := a0) E (Mo_end0_dc.at 0 rfl) hl rfl ?_
  refine r_iconst E (Mo_end0_dc.at 1 rfl) ?_
  obtain ⟨g1, h⟩ := ite_e h
  obtain ⟨M2, eM2, h⟩ := lt1_e h
  refine u_pI E eM2 zf_12_0 S g1 (show InR 0 by decide) (Or.inl rfl) rfl zw_6_207 (Mo_end0_dc.at 2 rfl) (fun H locs S3 => ?_)
  refine u_il_n (x := a1) E (Mo_end0_dc.at 3 rfl) hl rfl ?_
  refine r_i2l E ha1 (Mo_end0_dc.at 4 rfl) ?_
  refine r_lconst (x := 0) E (Mo_end0_dc.at 5 rfl) rfl ?_
  refine u_al_n (x := a0) E (Mo_end0_dc.at 6 rfl) hl rfl ?_
  refine u_gI E zf_12_2 S3 g1 zw_6_209 (Mo_end0_dc.at 7 rfl) ?_
  refine r_i2l E (S3.1.inR _ _) (Mo_end0_dc.at 8 rfl) ?_
  obtain ⟨r4, er4, h⟩ := bd1_e h
  refine u_cSI (As := [.long (Int64.ofInt a1), .long (Int64.ofInt 0), .long (Int64.ofInt (M2 a0 2))]) (rest := []) E S3 zcw_yX12_in zw_7_134 zw_7_133 (Mo_in_c l G fu top L M2 a1 0 (M2 a0 2) ha1 (show InR 0 by decide) (S3.1.inR _ _) er4) (zrm_ok (by decide) (by decide)) ⟨Nat.le_refl 0, Nat.le_refl 0⟩ rfl (Nat.zero_le 8) hl.size rfl (Mo_end0_dc.at 9 rfl) (fun H locs hr4 S5 => ?_)
  refine r_if_ne (tgt := 21) E (inR_01 hr4) (Mo_end0_dc.at 10 rfl) (by decide) (fun q => ?_) (fun q => ?_)
  · have h := ite_t h q
    refine r_iconst E (Mo_end0_dc.at 11 rfl) ?_
    cases h
    exact r_zret E S5 z01_0 z01_0 (Mo_end0_dc.at 12 rfl)
  · have h := ite_f h q
    refine u_al_n (x := a0) E (Mo_end0_dc.at 13 rfl) hl rfl ?_
    refine u_il_n (x := a1) E (Mo_end0_dc.at 14 rfl) hl rfl ?_
    obtain ⟨M6, eM6, h⟩ := lt1_e h
    refine u_pI E eM6 zf_12_2 S5 g1 ha1 (Or.inl rfl) rfl zw_6_209 (Mo_end0_dc.at 15 rfl) (fun H locs S7 => ?_)
    refine r_iconst E (Mo_end0_dc.at 16 rfl) ?_
    cases h
    exact r_zret E S7 z01_1 z01_1 (Mo_end0_dc.at 17 rfl)
theorem Mo_end0_c (l : Launch) (G : zG) (fu : Nat) (top : Int) (L : zL) (M : zM) (a0 : Int) (a1 : Int) {res : (zM × Int)} (ha0 : InR a0) (ha1 : InR a1) (h : Mo_end0 fu L M a0 a1 = some res) : Met l yX12_end (Cond.code yX12_end cX12_end 2 (some .boolean) :: zTB) (zrm 2 0 0) (va_Pc [zR G.2.2.1 a0, .int (zO a1)] (zPre G top L M)) (zQ G top L res.1 (some (.int (zO res.2))) (0 ≤ res.2 ∧ res.2 ≤ 1)) 0 0 (zA G) :=
  z_met (by decide +kernel) (by simp [zR_cat, zcat_I, zcat_S]) (Nat.le_of_ble_eq_true rfl) fun p e s m below meth c ls E hn S hl => Mo_end0_w E ha0 ha1 S (hl.sub (And.intro rfl (And.intro rfl True.intro))) h
end
theorem Mo_see_dc : zDL cX12_see [(0, .iload_n 1, 1, 1), (1, .aload_n 0, 1, 2), (2, .getfield 73, 3, 5), (5, .if_icmp .ge 12, 3, 8), (8, .aload_n 0, 1, 9), (9, .getfield 9, 3, 12), (12, .iload_n 1, 1, 13), (13, .iaload, 1, 14), (14, .goto 4, 3, 17), (17, .iconst (-1), 1, 18), (18, .ireturn, 1, 19)] := zDL.of (by decide +kernel)
section
variable {p : Program} {l : Launch} {e : Env} {s : State} {m : MethodId} {args : Array Value} {below : List Frame} {meth : Method} {c : Code} {G : zG} {top : Int} {L : zL} {fu : Nat}
theorem Mo_see_w (E : zEv p m c cX12_see 2 s args RX12 meth (some .int) G) {res : Int} {M : zM} {a0 : Int} {a1 : Int} {H : Heap} {locs : List Loc} {ls : Array Slot} (ha0 : InR a0) (ha1 : InR a1) (S : zS G top L M s H locs) (hl : zLV ls 2 [some (zR G.2.2.1 a0), some (.int (zO a1))]) (h : Mo_see fu L M a0 a1 = some res) : W p l e (zrm 1 0 0) s m args below meth c H locs 0 0 (MQ below (zQ G top L M (some (.int (zO res))) (InR res)) args s 0 0 (zA G)) (F0 m 0 ls []) := by
  unfold Mo_see at h
  refine u_il_n (x := a1) E (Mo_see_dc.at 0 rfl) hl rfl ?_
  refine u_al_n (x := a0) E (Mo_see_dc.at 1 rfl) hl rfl ?_
  obtain ⟨g1, h⟩ := ite_e h
  refine u_gI E zf_12_2 S g1 zw_6_209 (Mo_see_dc.at 2 rfl) ?_
  refine r_icmp_ge (tgt := 17) E ha1 (S.1.inR _ _) (Mo_see_dc.at 3 rfl) (by decide) (fun q => ?_) (fun q => ?_)
  · have h := ite_t h q
    refine u_al_n (x := a0) E (Mo_see_dc.at 4 rfl) hl rfl ?_
    refine u_gR E zf_12_1 S g1 zw_6_208 (Mo_see_dc.at 5 rfl) ?_
    refine u_il_n (x := a1) E (Mo_see_dc.at 6 rfl) hl rfl ?_
    obtain ⟨g2, h⟩ := ite_e h
    obtain ⟨g3, h⟩ := ite_e h
    refine r_iald E S g2 g3 (Mo_see_dc.at 7 rfl) ?_
    refine r_goto (tgt := 18) E (Mo_see_dc.at 8 rfl) (by decide) ?_
    cases h
    exact r_iret E S (S.1.inR _ _) (Mo_see_dc.at 10 rfl)
  · have h := ite_f h q
    refine r_iconst E (Mo_see_dc.at 9 rfl) ?_
    cases h
    exact r_iret E S (show InR (-1) by decide) (Mo_see_dc.at 10 rfl)
theorem Mo_see_c (l : Launch) (G : zG) (fu : Nat) (top : Int) (L : zL) (M : zM) (a0 : Int) (a1 : Int) {res : Int} (ha0 : InR a0) (ha1 : InR a1) (h : Mo_see fu L M a0 a1 = some res) : Met l yX12_see (Cond.code yX12_see cX12_see 2 (some .int) :: zTB) (zrm 1 0 0) (va_Pc [zR G.2.2.1 a0, .int (zO a1)] (zPre G top L M)) (zQ G top L M (some (.int (zO res))) (InR res)) 0 0 (zA G) :=
  z_met (by decide +kernel) (by simp [zR_cat, zcat_I, zcat_S]) (Nat.le_of_ble_eq_true rfl) fun p e s m below meth c ls E hn S hl => Mo_see_w E ha0 ha1 S (hl.sub (And.intro rfl (And.intro rfl True.intro))) h
end
theorem Mo_isSmall_dc : zDL cX12_isSmall [(0, .iload_n 0, 1, 1), (1, .bipush 97, 2, 3), (3, .if_icmp .lt 13, 3, 6), (6, .iload_n 0, 1, 7), (7, .bipush 122, 2, 9), (9, .if_icmp .gt 7, 3, 12), (12, .iconst 1, 1, 13), (13, .goto 4, 3, 16), (16, .iconst 0, 1, 17), (17, .ireturn, 1, 18)] := zDL.of (by decide +kernel)
section
variable {p : Program} {l : Launch} {e : Env} {s : State} {m : MethodId} {args : Array Value} {below : List Frame} {meth : Method} {c : Code} {G : zG} {top : Int} {L : zL} {fu : Nat}
theorem Mo_isSmall_w (E : zEv p m c cX12_isSmall 1 s args RX12 meth (some .boolean) G) {res : Int} {M : zM} {a0 : Int} {H : Heap} {locs : List Loc} {ls : Array Slot} (ha0 : InR a0) (S : zS G top L M s H locs) (hl : zLV ls 1 [some (.int (zO a0))]) (h : Mo_isSmall fu L M a0 = some res) : W p l e (zrm 1 0 0) s m args below meth c H locs 0 0 (MQ below (zQ G top L M (some (.int (zO res))) (0 ≤ res ∧ res ≤ 1)) args s 0 0 (zA G)) (F0 m 0 ls []) := by
  unfold Mo_isSmall at h
  refine u_il_n (x := a0) E (Mo_isSmall_dc.at 0 rfl) hl rfl ?_
  refine r_bipush E (Mo_isSmall_dc.at 1 rfl) rfl ?_
  refine r_icmp_lt (tgt := 16) E ha0 (show InR 97 by decide) (Mo_isSmall_dc.at 2 rfl) (by decide) (fun q => ?_) (fun q => ?_)
  · have h := ite_t h q
    refine r_iconst E (Mo_isSmall_dc.at 8 rfl) ?_
    cases h
    exact r_zret E S z01_0 z01_0 (Mo_isSmall_dc.at 9 rfl)
  · have h := ite_f h q
    refine u_il_n (x := a0) E (Mo_isSmall_dc.at 3 rfl) hl rfl ?_
    refine r_bipush E (Mo_isSmall_dc.at 4 rfl) rfl ?_
    refine r_icmp_gt (tgt := 16) E ha0 (show InR 122 by decide) (Mo_isSmall_dc.at 5 rfl) (by decide) (fun q => ?_) (fun q => ?_)
    · have h := ite_t h q
      refine r_iconst E (Mo_isSmall_dc.at 8 rfl) ?_
      cases h
      exact r_zret E S z01_0 z01_0 (Mo_isSmall_dc.at 9 rfl)
    · have h := ite_f h q
      refine r_iconst E (Mo_isSmall_dc.at 6 rfl) ?_
      refine r_goto (tgt := 17) E (Mo_isSmall_dc.at 7 rfl) (by decide) ?_
      cases h
      exact r_zret E S z01_1 z01_1 (Mo_isSmall_dc.at 9 rfl)
theorem Mo_isSmall_c (l : Launch) (G : zG) (fu : Nat) (top : Int) (L : zL) (M : zM) (a0 : Int) {res : Int} (ha0 : InR a0) (h : Mo_isSmall fu L M a0 = some res) : Met l yX12_isSmall (Cond.code yX12_isSmall cX12_isSmall 1 (some .boolean) :: zTB) (zrm 1 0 0) (va_Pc [.int (zO a0)] (zPre G top L M)) (zQ G top L M (some (.int (zO res))) (0 ≤ res ∧ res ≤ 1)) 0 0 (zA G) :=
  z_met (by decide +kernel) (by simp [zR_cat, zcat_I, zcat_S]) (Nat.le_of_ble_eq_true rfl) fun p e s m below meth c ls E hn S hl => Mo_isSmall_w E ha0 S (hl.sub (And.intro rfl True.intro)) h
end
theorem Mo_isDigit_dc : zDL cX12_isDigit [(0, .iload_n 0, 1, 1), (1, .bipush 48, 2, 3), (3, .if_icmp .lt 13, 3, 6), (6, .iload_n 0, 1, 7), (7, .bipush 57, 2, 9), (9, .if_icmp .gt 7, 3, 12), (12, .iconst 1, 1, 13), (13, .goto 4, 3, 16), (16, .iconst 0, 1, 17), (17, .ireturn, 1, 18)] := zDL.of (by decide +kernel)
section
variable {p : Program} {l : Launch} {e : Env} {s : State} {m : MethodId} {args : Array Value} {below : List Frame} {meth : Method} {c : Code} {G : zG} {top : Int} {L : zL} {fu : Nat}
theorem Mo_isDigit_w (E : zEv p m c cX12_isDigit 1 s args RX12 meth (some .boolean) G) {res : Int} {M : zM} {a0 : Int} {H : Heap} {locs : List Loc} {ls : Array Slot} (ha0 : InR a0) (S : zS G top L M s H locs) (hl : zLV ls 1 [some (.int (zO a0))]) (h : Mo_isDigit fu L M a0 = some res) : W p l e (zrm 1 0 0) s m args below meth c H locs 0 0 (MQ below (zQ G top L M (some (.int (zO res))) (0 ≤ res ∧ res ≤ 1)) args s 0 0 (zA G)) (F0 m 0 ls []) := by
  unfold Mo_isDigit at h
  refine u_il_n (x := a0) E (Mo_isDigit_dc.at 0 rfl) hl rfl ?_
  refine r_bipush E (Mo_isDigit_dc.at 1 rfl) rfl ?_
  refine r_icmp_lt (tgt := 16) E ha0 (show InR 48 by decide) (Mo_isDigit_dc.at 2 rfl) (by decide) (fun q => ?_) (fun q => ?_)
  · have h := ite_t h q
    refine r_iconst E (Mo_isDigit_dc.at 8 rfl) ?_
    cases h
    exact r_zret E S z01_0 z01_0 (Mo_isDigit_dc.at 9 rfl)
  · have h := ite_f h q
    refine u_il_n (x := a0) E (Mo_isDigit_dc.at 3 rfl) hl rfl ?_
    refine r_bipush E (Mo_isDigit_dc.at 4 rfl) rfl ?_
    refine r_icmp_gt (tgt := 16) E ha0 (show InR 57 by decide) (Mo_isDigit_dc.at 5 rfl) (by decide) (fun q => ?_) (fun q => ?_)
    · have h := ite_t h q
      refine r_iconst E (Mo_isDigit_dc.at 8 rfl) ?_
      cases h
      exact r_zret E S z01_0 z01_0 (Mo_isDigit_dc.at 9 rfl)
    · have h := ite_f h q
      refine r_iconst E (Mo_isDigit_dc.at 6 rfl) ?_
      refine r_goto (tgt := 17) E (Mo_isDigit_dc.at 7 rfl) (by decide) ?_
      cases h
      exact r_zret E S z01_1 z01_1 (Mo_isDigit_dc.at 9 rfl)
theorem Mo_isDigit_c (l : Launch) (G : zG) (fu : Nat) (top : Int) (L : zL) (M : zM) (a0 : Int) {res : Int} (ha0 : InR a0) (h : Mo_isDigit fu L M a0 = some res) : Met l yX12_isDigit (Cond.code yX12_isDigit cX12_isDigit 1 (some .boolean) :: zTB) (zrm 1 0 0) (va_Pc [.int (zO a0)] (zPre G top L M)) (zQ G top L M (some (.int (zO res))) (0 ≤ res ∧ res ≤ 1)) 0 0 (zA G) :=
  z_met (by decide +kernel) (by simp [zR_cat, zcat_I, zcat_S]) (Nat.le_of_ble_eq_true rfl) fun p e s m below meth c ls E hn S hl => Mo_isDigit_w E ha0 S (hl.sub (And.intro rfl True.intro)) h
end
theorem Mo_next_dc : zDL cX12_next [(0, .aload_n 0, 1, 1), (1, .aload_n 0, 1, 2), (2, .getfield 80, 3, 5), (5, .invokevirtual 83, 3, 8), (8, .bipush 32, 2, 10), (10, .if_icmp .ne 16, 3, 13), (13, .aload_n 0, 1, 14), (14, .dup, 1, 15), (15, .getfield 80, 3, 18), (18, .iconst 1, 1, 19), (19, .iadd, 1, 20), (20, .putfield 80, 3, 23), (23, .goto (-23), 3, 26), (26, .aload_n 0, 1, 27), (27, .aload_n 0, 1, 28), (28, .getfield 80, 3, 31), (31, .putfield 87, 3, 34), (34, .aload_n 0, 1, 35), (35, .aload_n 0, 1, 36), (36, .getfield 80, 3, 39), (39, .invokevirtual 83, 3, 42), (42, .istore_n 1, 1, 43), (43, .aload_n 0, 1, 44), (44, .iload_n 1, 1, 45), (45, .iconst (-1), 1, 46), (46, .if_icmp .ne 7, 3, 49), (49, .iconst 0, 1, 50), (50, .goto 26, 3, 53), (53, .iload_n 1, 1, 54), (54, .invokestatic 90, 3, 57), (57, .ifCond .eq 7, 3, 60), (60, .iconst 1, 1, 61), (61, .goto 15, 3, 64), (64, .iload_n 1, 1, 65), (65, .invokestatic 94, 3, 68), (68, .ifCond .eq 7, 3, 71), (71, .iconst 2, 1, 72), (72, .goto 4, 3, 75), (75, .iconst 3, 1, 76), (76, .putfield 97, 3, 79), (79, .aload_n 0, 1, 80), (80, .iconst 0, 1, 81), (81, .putfield 100, 3, 84), (84, .aload_n 0, 1, 85), (85, .getfield 97, 3, 88), (88, .iconst 3, 1, 89), (89, .if_icmp .ne 13, 3, 92), (92, .aload_n 0, 1, 93), (93, .dup, 1, 94), (94, .getfield 80, 3, 97), (97, .iconst 1, 1, 98), (98, .iadd, 1, 99), (99, .putfield 80, 3, 102), (102, .aload_n 0, 1, 103), (103, .getfield 97, 3, 106), (106, .iconst 1, 1, 107), (107, .if_icmp .ne 30, 3, 110), (110, .aload_n 0, 1, 111), (111, .aload_n 0, 1, 112), (112, .getfield 80, 3, 115), (115, .invokevirtual 83, 3, 118), (118, .invokestatic 90, 3, 121), (121, .ifCond .eq 16, 3, 124), (124, .aload_n 0, 1, 125), (125, .dup, 1, 126), (126, .getfield 80, 3, 129), (129, .iconst 1, 1, 130), (130, .iadd, 1, 131), (131, .putfield 80, 3, 134), (134, .goto (-32), 3, 137), (137, .aload_n 0, 1, 138), (138, .getfield 97, 3, 141), (141, .iconst 2, 1, 142), (142, .if_icmp .ne 58, 3, 145), (145, .aload_n 0, 1, 146), (146, .aload_n 0, 1, 147), (147, .getfield 80, 3, 150), (150, .invokevirtual 83, 3, 153), (153, .invokestatic 94, 3, 156), (156, .ifCond .eq 44, 3, 159), (159, .aload_n 0, 1, 160), (160, .ldc 103, 2, 162), (162, .bipush 10, 2, 164), (164, .aload_n 0, 1, 165), (165, .getfield 100, 3, 168), (168, .imul, 1, 169), (169, .aload_n 0, 1, 170), (170, .aload_n 0, 1, 171), (171, .getfield 80, 3, 174), (174, .invokevirtual 83, 3, 177), (177, .iadd, 1, 178), (178, .bipush 48, 2, 180), (180, .isub, 1, 181), (181, .invokestatic 104, 3, 184), (184, .putfield 100, 3, 187), (187, .aload_n 0, 1, 188), (188, .dup, 1, 189), (189, .getfield 80, 3, 192), (192, .iconst 1, 1, 193), (193, .iadd, 1, 194), (194, .putfield 80, 3, 197), (197, .goto (-60), 3, 200), (200, .return_, 1, 201)] := zDL.of (by decide +kernel)
section
variable {p : Program} {l : Launch} {e : Env} {s : State} {m : MethodId} {args : Array Value} {below : List Frame} {meth : Method} {c : Code} {G : zG} {top : Int} {L : zL} {fu : Nat}
theorem Mo_next_s137_w (E : zEv p m c cX12_next 2 s args RX12 meth none G) {res : zM} {k137 : zM → Int → Option zM} (hk137 : ∀ (M : zM) (x0 : Int), InR x0 → ∀ (H : Heap) (locs : List Loc) (ls : Array Slot), zS G top L M s H locs → zLV ls 2 [some (zR G.2.2.1 x0), none] → k137 M x0 = some res → W p l e (zrm 2 0 0) s m args below meth c H locs 0 0 (MQ below (zQ G top L res none True) args s 0 0 (zA G)) (F0 m 137 ls [])) {M : zM} {x0 : Int} {H : Heap} {locs : List Loc} {ls : Array Slot} (hx0 : InR x0) (S : zS G top L M s H locs) (hl : zLV ls 2 [some (zR G.2.2.1 x0), none]) (h : Mo_next_s137 fu k137 L M x0 = some res) : W p l e (zrm 2 0 0) s m args below meth c H locs 0 0 (MQ below (zQ G top L res none True) args s 0 0 (zA G)) (F0 m 137 ls []) := by
  unfold Mo_next_s137 at h
  refine u_al_n (x := x0) E (Mo_next_dc.at 70 rfl) hl rfl ?_
  obtain ⟨g23, h⟩ := ite_e h
  refine u_gI E zf_12_6 S g23 zw_6_213 (Mo_next_dc.at 71 rfl) ?_
  refine r_iconst E (Mo_next_dc.at 72 rfl) ?_
  refine r_icmp_ne (tgt := 200) E (S.1.inR _ _) (show InR 2 by decide) (Mo_next_dc.at 73 rfl) (by decide) (fun q => ?_) (fun q => ?_)
  · have h := ite_t h q
    refine u_al_n (x := x0) E (Mo_next_dc.at 74 rfl) hl rfl ?_
    refine u_al_n (x := x0) E (Mo_next_dc.at 75 rfl) hl rfl ?_
    refine u_gI E zf_12_3 S g23 zw_6_210 (Mo_next_dc.at 76 rfl) ?_
    obtain ⟨r24, er24, h⟩ := bd1_e h
    refine u_cVI (As := [.int (zO (M x0 3))]) (rest := []) E S zcw_yX12_see zw_7_155 zq_4_0 zw_7_153 zck_12.1 rfl g23 (Mo_see_c l G fu top L M x0 (M x0 3) hx0 (S.1.inR _ _) er24) (zrm_ok (by decide) (by decide)) ⟨Nat.le_refl 0, Nat.le_refl 0⟩ rfl (Nat.zero_le 8) hl.size rfl (Mo_next_dc.at 77 rfl) (fun H locs hr24 S25 => ?_)
    obtain ⟨r26, er26, h⟩ := bd1_e h
    refine u_cSI (As := [.int (zO r24)]) (rest := []) E S25 zcw_yX12_isDigit zw_7_161 zw_7_160 (Mo_isDigit_c l G fu top L M r24 hr24 er26) (zrm_ok (by decide) (by decide)) ⟨Nat.le_refl 0, Nat.le_refl 0⟩ rfl (Nat.zero_le 8) hl.size rfl (Mo_next_dc.at 78 rfl) (fun H locs hr26 S27 => ?_)
    refine r_if_eq (tgt := 200) E (inR_01 hr26) (Mo_next_dc.at 79 rfl) (by decide) (fun q => ?_) (fun q => ?_)
    · have h := ite_t h q
      cases h
      exact r_vret E S27 True.intro (Mo_next_dc.at 102 rfl)
    · have h := ite_f h q
      refine u_al_n (x := x0) E (Mo_next_dc.at 80 rfl) hl rfl ?_
      refine r_ldc (n := 1000000) E (Mo_next_dc.at 81 rfl) zw_7_163 rfl ?_
      refine r_bipush E (Mo_next_dc.at 82 rfl) rfl ?_
      refine u_al_n (x := x0) E (Mo_next_dc.at 83 rfl) hl rfl ?_
      refine u_gI E zf_12_7 S27 g23 zw_6_214 (Mo_next_dc.at 84 rfl) ?_
      refine r_imul E (Mo_next_dc.at 85 rfl) ?_
      refine u_al_n (x := x0) E (Mo_next_dc.at 86 rfl) hl rfl ?_
      refine u_al_n (x := x0) E (Mo_next_dc.at 87 rfl) hl rfl ?_
      refine u_gI E zf_12_3 S27 g23 zw_6_210 (Mo_next_dc.at 88 rfl) ?_
      obtain ⟨r28, er28, h⟩ := bd1_e h
      refine u_cVI (As := [.int (zO (M x0 3))]) (rest := [.int (zO (w32 (10 * (M x0 7)))), .int (zO 1000000), zR G.2.2.1 x0]) E S27 zcw_yX12_see zw_7_155 zq_4_0 zw_7_153 zck_12.1 rfl g23 (Mo_see_c l G fu top L M x0 (M x0 3) hx0 (S27.1.inR _ _) er28) (zrm_ok (by decide) (by decide)) ⟨Nat.le_refl 0, Nat.le_refl 0⟩ rfl (by simp [zR_cat, zcat_I, zcat_J, zcat_S]) hl.size rfl (Mo_next_dc.at 89 rfl) (fun H locs hr28 S29 => ?_)
      refine r_iadd E (Mo_next_dc.at 90 rfl) ?_
      refine r_bipush E (Mo_next_dc.at 91 rfl) rfl ?_
      refine r_isub E (Mo_next_dc.at 92 rfl) ?_
      refine r_min (rest := [zR G.2.2.1 x0]) E (show InR 1000000 by decide) (inR_w32 _) hl.size zw_7_164 zw_4_47 zw_1_17 zw_4_48 (by decide) (by simp [zR_cat, zcat_I, zcat_J, zcat_S, zrm]) ⟨Nat.zero_le _, Nat.zero_le _⟩ (Mo_next_dc.at 93 rfl) ?_
      obtain ⟨M30, eM30, h⟩ := lt1_e h
      refine u_pI E eM30 zf_12_7 S29 g23 (inR_min (show InR 1000000 by decide) (inR_w32 _)) (Or.inl rfl) rfl zw_6_214 (Mo_next_dc.at 94 rfl) (fun H locs S31 => ?_)
      refine u_al_n (x := x0) E (Mo_next_dc.at 95 rfl) hl rfl ?_
      refine r_dup E (Mo_next_dc.at 96 rfl) (zR_cat _ _) ?_
      refine u_gI E zf_12_3 S31 g23 zw_6_210 (Mo_next_dc.at 97 rfl) ?_
      refine r_iconst E (Mo_next_dc.at 98 rfl) ?_
      refine r_iadd E (Mo_next_dc.at 99 rfl) ?_
      obtain ⟨M32, eM32, h⟩ := lt1_e h
      refine u_pI E eM32 zf_12_3 S31 g23 (inR_w32 _) (Or.inl rfl) rfl zw_6_210 (Mo_next_dc.at 100 rfl) (fun H locs S33 => ?_)
      refine r_goto (tgt := 137) E (Mo_next_dc.at 101 rfl) (by decide) ?_
      exact hk137 _ x0 hx0 _ _ _ S33 (hl.sub (And.intro rfl True.intro)) h
  · have h := ite_f h q
    cases h
    exact r_vret E S True.intro (Mo_next_dc.at 102 rfl)
theorem Mo_next_l137_w (E : zEv p m c cX12_next 2 s args RX12 meth none G) {res : zM} : ∀ (n : Nat) (M : zM) (x0 : Int), InR x0 → ∀ (H : Heap) (locs : List Loc) (ls : Array Slot), zS G top L M s H locs → zLV ls 2 [some (zR G.2.2.1 x0), none] → Mo_next_l137 fu L n M x0 = some res → W p l e (zrm 2 0 0) s m args below meth c H locs 0 0 (MQ below (zQ G top L res none True) args s 0 0 (zA G)) (F0 m 137 ls [])
  | 0, _, _ => fun _ _ _ _ _ _ h => (by cases h)
  | n + 1, M, x0 => fun hx0 H locs ls S hl h => Mo_next_s137_w E (fun M x0 hx0 H locs ls S hl h => Mo_next_l137_w E n M x0 hx0 H locs ls S hl h) hx0 S hl h
theorem Mo_next_s102_w (E : zEv p m c cX12_next 2 s args RX12 meth none G) {res : zM} {k102 : zM → Int → Option zM} (hk102 : ∀ (M : zM) (x0 : Int), InR x0 → ∀ (H : Heap) (locs : List Loc) (ls : Array Slot), zS G top L M s H locs → zLV ls 2 [some (zR G.2.2.1 x0), none] → k102 M x0 = some res → W p l e (zrm 2 0 0) s m args below meth c H locs 0 0 (MQ below (zQ G top L res none True) args s 0 0 (zA G)) (F0 m 102 ls [])) {M : zM} {x0 : Int} {H : Heap} {locs : List Loc} {ls : Array Slot} (hx0 : InR x0) (S : zS G top L M s H locs) (hl : zLV ls 2 [some (zR G.2.2.1 x0), none]) (h : Mo_next_s102 fu k102 L M x0 = some res) : W p l e (zrm 2 0 0) s m args below meth c H locs 0 0 (MQ below (zQ G top L res none True) args s 0 0 (zA G)) (F0 m 102 ls []) := by
  unfold Mo_next_s102 at h
  refine u_al_n (x := x0) E (Mo_next_dc.at 53 rfl) hl rfl ?_
  obtain ⟨g18, h⟩ := ite_e h
  refine u_gI E zf_12_6 S g18 zw_6_213 (Mo_next_dc.at 54 rfl) ?_
  refine r_iconst E (Mo_next_dc.at 55 rfl) ?_
  refine r_icmp_ne (tgt := 137) E (S.1.inR _ _) (show InR 1 by decide) (Mo_next_dc.at 56 rfl) (by decide) (fun q => ?_) (fun q => ?_)
  · have h := ite_t h q
    refine u_al_n (x := x0) E (Mo_next_dc.at 57 rfl) hl rfl ?_
    refine u_al_n (x := x0) E (Mo_next_dc.at 58 rfl) hl rfl ?_
    refine u_gI E zf_12_3 S g18 zw_6_210 (Mo_next_dc.at 59 rfl) ?_
    obtain ⟨r19, er19, h⟩ := bd1_e h
    refine u_cVI (As := [.int (zO (M x0 3))]) (rest := []) E S zcw_yX12_see zw_7_155 zq_4_0 zw_7_153 zck_12.1 rfl g18 (Mo_see_c l G fu top L M x0 (M x0 3) hx0 (S.1.inR _ _) er19) (zrm_ok (by decide) (by decide)) ⟨Nat.le_refl 0, Nat.le_refl 0⟩ rfl (Nat.zero_le 8) hl.size rfl (Mo_next_dc.at 60 rfl) (fun H locs hr19 S20 => ?_)
    obtain ⟨r21, er21, h⟩ := bd1_e h
    refine u_cSI (As := [.int (zO r19)]) (rest := []) E S20 zcw_yX12_isSmall zw_7_158 zw_7_157 (Mo_isSmall_c l G fu top L M r19 hr19 er21) (zrm_ok (by decide) (by decide)) ⟨Nat.le_refl 0, Nat.le_refl 0⟩ rfl (Nat.zero_le 8) hl.size rfl (Mo_next_dc.at 61 rfl) (fun H locs hr21 S22 => ?_)
    refine r_if_eq (tgt := 137) E (inR_01 hr21) (Mo_next_dc.at 62 rfl) (by decide) (fun q => ?_) (fun q => ?_)
    · have h := ite_t h q
      exact Mo_next_l137_w E fu _ x0 hx0 _ _ _ S22 (hl.sub (And.intro rfl True.intro)) h
    · have h := ite_f h q
      refine u_al_n (x := x0) E (Mo_next_dc.at 63 rfl) hl rfl ?_
      refine r_dup E (Mo_next_dc.at 64 rfl) (zR_cat _ _) ?_
      refine u_gI E zf_12_3 S22 g18 zw_6_210 (Mo_next_dc.at 65 rfl) ?_
      refine r_iconst E (Mo_next_dc.at 66 rfl) ?_
      refine r_iadd E (Mo_next_dc.at 67 rfl) ?_
      obtain ⟨M34, eM34, h⟩ := lt1_e h
      refine u_pI E eM34 zf_12_3 S22 g18 (inR_w32 _) (Or.inl rfl) rfl zw_6_210 (Mo_next_dc.at 68 rfl) (fun H locs S35 => ?_)
      refine r_goto (tgt := 102) E (Mo_next_dc.at 69 rfl) (by decide) ?_
      exact hk102 _ x0 hx0 _ _ _ S35 (hl.sub (And.intro rfl True.intro)) h
  · have h := ite_f h q
    exact Mo_next_l137_w E fu _ x0 hx0 _ _ _ S (hl.sub (And.intro rfl True.intro)) h
theorem Mo_next_l102_w (E : zEv p m c cX12_next 2 s args RX12 meth none G) {res : zM} : ∀ (n : Nat) (M : zM) (x0 : Int), InR x0 → ∀ (H : Heap) (locs : List Loc) (ls : Array Slot), zS G top L M s H locs → zLV ls 2 [some (zR G.2.2.1 x0), none] → Mo_next_l102 fu L n M x0 = some res → W p l e (zrm 2 0 0) s m args below meth c H locs 0 0 (MQ below (zQ G top L res none True) args s 0 0 (zA G)) (F0 m 102 ls [])
  | 0, _, _ => fun _ _ _ _ _ _ h => (by cases h)
  | n + 1, M, x0 => fun hx0 H locs ls S hl h => Mo_next_s102_w E (fun M x0 hx0 H locs ls S hl h => Mo_next_l102_w E n M x0 hx0 H locs ls S hl h) hx0 S hl h
theorem Mo_next_b76_w (E : zEv p m c cX12_next 2 s args RX12 meth none G) {res : zM} {M : zM} {x0 : Int} {y0 : Int} {y1 : Int} {H : Heap} {locs : List Loc} {ls : Array Slot} (hx0 : InR x0) (hy0 : InR y0) (hy1 : InR y1) (S : zS G top L M s H locs) (hl : zLV ls 2 [some (zR G.2.2.1 x0), none]) (h : Mo_next_b76 fu L M x0 y0 y1 = some res) : W p l e (zrm 2 0 0) s m args below meth c H locs 0 0 (MQ below (zQ G top L res none True) args s 0 0 (zA G)) (F0 m 76 ls [.int (zO y1), zR G.2.2.1 y0]) := by
  unfold Mo_next_b76 at h
  obtain ⟨g10, h⟩ := ite_e h
  obtain ⟨M11, eM11, h⟩ := lt1_e h
  refine u_pI E eM11 zf_12_6 S g10 hy1 (Or.inl rfl) rfl zw_6_213 (Mo_next_dc.at 39 rfl) (fun H locs S12 => ?_)
  refine u_al_n (x := x0) E (Mo_next_dc.at 40 rfl) hl rfl ?_
  refine r_iconst E (Mo_next_dc.at 41 rfl) ?_
  obtain ⟨g13, h⟩ := ite_e h
  obtain ⟨M14, eM14, h⟩ := lt1_e h
  refine u_pI E eM14 zf_12_7 S12 g13 (show InR 0 by decide) (Or.inl rfl) rfl zw_6_214 (Mo_next_dc.at 42 rfl) (fun H locs S15 => ?_)
  refine u_al_n (x := x0) E (Mo_next_dc.at 43 rfl) hl rfl ?_
  refine u_gI E zf_12_6 S15 g13 zw_6_213 (Mo_next_dc.at 44 rfl) ?_
  refine r_iconst E (Mo_next_dc.at 45 rfl) ?_
  refine r_icmp_ne (tgt := 102) E (S15.1.inR _ _) (show InR 3 by decide) (Mo_next_dc.at 46 rfl) (by decide) (fun q => ?_) (fun q => ?_)
  · have h := ite_t h q
    refine u_al_n (x := x0) E (Mo_next_dc.at 47 rfl) hl rfl ?_
    refine r_dup E (Mo_next_dc.at 48 rfl) (zR_cat _ _) ?_
    refine u_gI E zf_12_3 S15 g13 zw_6_210 (Mo_next_dc.at 49 rfl) ?_
    refine r_iconst E (Mo_next_dc.at 50 rfl) ?_
    refine r_iadd E (Mo_next_dc.at 51 rfl) ?_
    obtain ⟨M16, eM16, h⟩ := lt1_e h
    refine u_pI E eM16 zf_12_3 S15 g13 (inR_w32 _) (Or.inl rfl) rfl zw_6_210 (Mo_next_dc.at 52 rfl) (fun H locs S17 => ?_)
    exact Mo_next_l102_w E fu _ x0 hx0 _ _ _ S17 (hl.sub (And.intro rfl True.intro)) h
  · have h := ite_f h q
    exact Mo_next_l102_w E fu _ x0 hx0 _ _ _ S15 (hl.sub (And.intro rfl True.intro)) h
theorem Mo_next_s0_w (E : zEv p m c cX12_next 2 s args RX12 meth none G) {res : zM} {k0 : zM → Int → Option zM} (hk0 : ∀ (M : zM) (x0 : Int), InR x0 → ∀ (H : Heap) (locs : List Loc) (ls : Array Slot), zS G top L M s H locs → zLV ls 2 [some (zR G.2.2.1 x0), none] → k0 M x0 = some res → W p l e (zrm 2 0 0) s m args below meth c H locs 0 0 (MQ below (zQ G top L res none True) args s 0 0 (zA G)) (F0 m 0 ls [])) {M : zM} {x0 : Int} {H : Heap} {locs : List Loc} {ls : Array Slot} (hx0 : InR x0) (S : zS G top L M s H locs) (hl : zLV ls 2 [some (zR G.2.2.1 x0), none]) (h : Mo_next_s0 fu k0 L M x0 = some res) : W p l e (zrm 2 0 0) s m args below meth c H locs 0 0 (MQ below (zQ G top L res none True) args s 0 0 (zA G)) (F0 m 0 ls []) := by
  unfold Mo_next_s0 at h
  refine u_al_n (x := x0) E (Mo_next_dc.at 0 rfl) hl rfl ?_
  refine u_al_n (x := x0) E (Mo_next_dc.at 1 rfl) hl rfl ?_
  obtain ⟨g1, h⟩ := ite_e h
  refine u_gI E zf_12_3 S g1 zw_6_210 (Mo_next_dc.at 2 rfl) ?_
  obtain ⟨r2, er2, h⟩ := bd1_e h
  refine u_cVI (As := [.int (zO (M x0 3))]) (rest := []) E S zcw_yX12_see zw_7_155 zq_4_0 zw_7_153 zck_12.1 rfl g1 (Mo_see_c l G fu top L M x0 (M x0 3) hx0 (S.1.inR _ _) er2) (zrm_ok (by decide) (by decide)) ⟨Nat.le_refl 0, Nat.le_refl 0⟩ rfl (Nat.zero_le 8) hl.size rfl (Mo_next_dc.at 3 rfl) (fun H locs hr2 S3 => ?_)
  refine r_bipush E (Mo_next_dc.at 4 rfl) rfl ?_
  refine r_icmp_ne (tgt := 26) E hr2 (show InR 32 by decide) (Mo_next_dc.at 5 rfl) (by decide) (fun q => ?_) (fun q => ?_)
  · have h := ite_t h q
    refine u_al_n (x := x0) E (Mo_next_dc.at 6 rfl) hl rfl ?_
    refine r_dup E (Mo_next_dc.at 7 rfl) (zR_cat _ _) ?_
    refine u_gI E zf_12_3 S3 g1 zw_6_210 (Mo_next_dc.at 8 rfl) ?_
    refine r_iconst E (Mo_next_dc.at 9 rfl) ?_
    refine r_iadd E (Mo_next_dc.at 10 rfl) ?_
    obtain ⟨M4, eM4, h⟩ := lt1_e h
    refine u_pI E eM4 zf_12_3 S3 g1 (inR_w32 _) (Or.inl rfl) rfl zw_6_210 (Mo_next_dc.at 11 rfl) (fun H locs S5 => ?_)
    refine r_goto (tgt := 0) E (Mo_next_dc.at 12 rfl) (by decide) ?_
    exact hk0 _ x0 hx0 _ _ _ S5 (hl.sub (And.intro rfl True.intro)) h
  · have h := ite_f h q
    refine u_al_n (x := x0) E (Mo_next_dc.at 13 rfl) hl rfl ?_
    refine u_al_n (x := x0) E (Mo_next_dc.at 14 rfl) hl rfl ?_
    refine u_gI E zf_12_3 S3 g1 zw_6_210 (Mo_next_dc.at 15 rfl) ?_
    obtain ⟨M6, eM6, h⟩ := lt1_e h
    refine u_pI E eM6 zf_12_4 S3 g1 (S3.1.inR _ _) (Or.inl rfl) rfl zw_6_211 (Mo_next_dc.at 16 rfl) (fun H locs S7 => ?_)
    refine u_al_n (x := x0) E (Mo_next_dc.at 17 rfl) hl rfl ?_
    refine u_al_n (x := x0) E (Mo_next_dc.at 18 rfl) hl rfl ?_
    refine u_gI E zf_12_3 S7 g1 zw_6_210 (Mo_next_dc.at 19 rfl) ?_
    obtain ⟨r8, er8, h⟩ := bd1_e h
    refine u_cVI (As := [.int (zO (M6 x0 3))]) (rest := []) E S7 zcw_yX12_see zw_7_155 zq_4_0 zw_7_153 zck_12.1 rfl g1 (Mo_see_c l G fu top L M6 x0 (M6 x0 3) hx0 (S7.1.inR _ _) er8) (zrm_ok (by decide) (by decide)) ⟨Nat.le_refl 0, Nat.le_refl 0⟩ rfl (Nat.zero_le 8) hl.size rfl (Mo_next_dc.at 20 rfl) (fun H locs hr8 S9 => ?_)
    refine u_ist_n (y := r8) (vs' := [some (zR G.2.2.1 x0), some (.int (zO r8))]) E rfl (Mo_next_dc.at 21 rfl) hl (by decide) rfl (fun ls hl => ?_)
    refine u_al_n (x := x0) E (Mo_next_dc.at 22 rfl) hl rfl ?_
    refine u_il_n (x := r8) E (Mo_next_dc.at 23 rfl) hl rfl ?_
    refine r_iconst E (Mo_next_dc.at 24 rfl) ?_
    refine r_icmp_ne (tgt := 53) E hr8 (show InR (-1) by decide) (Mo_next_dc.at 25 rfl) (by decide) (fun q => ?_) (fun q => ?_)
    · have h := ite_t h q
      refine r_iconst E (Mo_next_dc.at 26 rfl) ?_
      refine r_goto (tgt := 76) E (Mo_next_dc.at 27 rfl) (by decide) ?_
      exact Mo_next_b76_w (x0 := x0) (y0 := x0) (y1 := 0) E hx0 hx0 (show InR 0 by decide) S9 (hl.sub (And.intro rfl True.intro)) h
    · have h := ite_f h q
      refine u_il_n (x := r8) E (Mo_next_dc.at 28 rfl) hl rfl ?_
      obtain ⟨r36, er36, h⟩ := bd1_e h
      refine u_cSI (As := [.int (zO r8)]) (rest := [zR G.2.2.1 x0]) E S9 zcw_yX12_isSmall zw_7_158 zw_7_157 (Mo_isSmall_c l G fu top L M6 r8 hr8 er36) (zrm_ok (by decide) (by decide)) ⟨Nat.le_refl 0, Nat.le_refl 0⟩ rfl (by simp [zR_cat, zcat_I, zcat_J, zcat_S]) hl.size rfl (Mo_next_dc.at 29 rfl) (fun H locs hr36 S37 => ?_)
      refine r_if_eq (tgt := 64) E (inR_01 hr36) (Mo_next_dc.at 30 rfl) (by decide) (fun q => ?_) (fun q => ?_)
      · have h := ite_t h q
        refine u_il_n (x := r8) E (Mo_next_dc.at 33 rfl) hl rfl ?_
        obtain ⟨r38, er38, h⟩ := bd1_e h
        refine u_cSI (As := [.int (zO r8)]) (rest := [zR G.2.2.1 x0]) E S37 zcw_yX12_isDigit zw_7_161 zw_7_160 (Mo_isDigit_c l G fu top L M6 r8 hr8 er38) (zrm_ok (by decide) (by decide)) ⟨Nat.le_refl 0, Nat.le_refl 0⟩ rfl (by simp [zR_cat, zcat_I, zcat_J, zcat_S]) hl.size rfl (Mo_next_dc.at 34 rfl) (fun H locs hr38 S39 => ?_)
        refine r_if_eq (tgt := 75) E (inR_01 hr38) (Mo_next_dc.at 35 rfl) (by decide) (fun q => ?_) (fun q => ?_)
        · have h := ite_t h q
          refine r_iconst E (Mo_next_dc.at 38 rfl) ?_
          exact Mo_next_b76_w (x0 := x0) (y0 := x0) (y1 := 3) E hx0 hx0 (show InR 3 by decide) S39 (hl.sub (And.intro rfl True.intro)) h
        · have h := ite_f h q
          refine r_iconst E (Mo_next_dc.at 36 rfl) ?_
          refine r_goto (tgt := 76) E (Mo_next_dc.at 37 rfl) (by decide) ?_
          exact Mo_next_b76_w (x0 := x0) (y0 := x0) (y1 := 2) E hx0 hx0 (show InR 2 by decide) S39 (hl.sub (And.intro rfl True.intro)) h
      · have h := ite_f h q
        refine r_iconst E (Mo_next_dc.at 31 rfl) ?_
        refine r_goto (tgt := 76) E (Mo_next_dc.at 32 rfl) (by decide) ?_
        exact Mo_next_b76_w (x0 := x0) (y0 := x0) (y1 := 1) E hx0 hx0 (show InR 1 by decide) S37 (hl.sub (And.intro rfl True.intro)) h
theorem Mo_next_l0_w (E : zEv p m c cX12_next 2 s args RX12 meth none G) {res : zM} : ∀ (n : Nat) (M : zM) (x0 : Int), InR x0 → ∀ (H : Heap) (locs : List Loc) (ls : Array Slot), zS G top L M s H locs → zLV ls 2 [some (zR G.2.2.1 x0), none] → Mo_next_l0 fu L n M x0 = some res → W p l e (zrm 2 0 0) s m args below meth c H locs 0 0 (MQ below (zQ G top L res none True) args s 0 0 (zA G)) (F0 m 0 ls [])
  | 0, _, _ => fun _ _ _ _ _ _ h => (by cases h)
  | n + 1, M, x0 => fun hx0 H locs ls S hl h => Mo_next_s0_w E (fun M x0 hx0 H locs ls S hl h => Mo_next_l0_w E n M x0 hx0 H locs ls S hl h) hx0 S hl h
theorem Mo_next_w (E : zEv p m c cX12_next 2 s args RX12 meth none G) {res : zM} {M : zM} {a0 : Int} {H : Heap} {locs : List Loc} {ls : Array Slot} (ha0 : InR a0) (S : zS G top L M s H locs) (hl : zLV ls 2 [some (zR G.2.2.1 a0), none]) (h : Mo_next fu L M a0 = some res) : W p l e (zrm 2 0 0) s m args below meth c H locs 0 0 (MQ below (zQ G top L res none True) args s 0 0 (zA G)) (F0 m 0 ls []) := by
  unfold Mo_next at h
  exact Mo_next_l0_w E fu _ a0 ha0 _ _ _ S (hl.sub (And.intro rfl True.intro)) h
theorem Mo_next_c (l : Launch) (G : zG) (fu : Nat) (top : Int) (L : zL) (M : zM) (a0 : Int) {res : zM} (ha0 : InR a0) (h : Mo_next fu L M a0 = some res) : Met l yX12_next (Cond.code yX12_next cX12_next 2 none :: zTB) (zrm 2 0 0) (va_Pc [zR G.2.2.1 a0] (zPre G top L M)) (zQ G top L res none True) 0 0 (zA G) :=
  z_met (by decide +kernel) (by simp [zR_cat, zcat_I, zcat_S]) (Nat.le_of_ble_eq_true rfl) fun p e s m below meth c ls E hn S hl => Mo_next_w E ha0 S (hl.sub (And.intro rfl True.intro)) h
end
