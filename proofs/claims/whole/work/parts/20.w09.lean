theorem Mo_begins_dc : zDL cX12_begins [(0, .aload_n 0, 1, 1), (1, .iconst 0, 1, 2), (2, .putfield 80, 3, 5), (5, .aload_n 0, 1, 6), (6, .iconst (-1), 1, 7), (7, .putfield 110, 3, 10), (10, .aload_n 0, 1, 11), (11, .invokevirtual 113, 3, 14), (14, .return_, 1, 15)] := zDL.of (by decide +kernel)
section
variable {p : Program} {l : Launch} {e : Env} {s : State} {m : MethodId} {args : Array Value} {below : List Frame} {meth : Method} {c : Code} {G : zG} {top : Int} {L : zL} {fu : Nat}
theorem Mo_begins_w (E : zEv p m c cX12_begins 1 s args RX12 meth none G) {res : zM} {M : zM} {a0 : Int} {H : Heap} {locs : List Loc} {ls : Array Slot} (ha0 : InR a0) (S : zS G top L M s H locs) (hl : zLV ls 1 [some (zR G.2.2.1 a0)]) (h : Mo_begins fu L M a0 = some res) : W p l e (zrm 3 0 0) s m args below meth c H locs 0 0 (MQ below (zQ G top L res none True) args s 0 0 (zA G)) (F0 m 0 ls []) := by
  unfold Mo_begins at h
  refine u_al_n (x := a0) E (Mo_begins_dc.at 0 rfl) hl rfl ?_
  refine r_iconst E (Mo_begins_dc.at 1 rfl) ?_
  obtain ⟨g1, h⟩ := ite_e h
  obtain ⟨M2, eM2, h⟩ := lt1_e h
  refine u_pI E eM2 zf_12_3 S g1 (show InR 0 by decide) (Or.inl rfl) rfl zw_6_210 (Mo_begins_dc.at 2 rfl) (fun H locs S3 => ?_)
  refine u_al_n (x := a0) E (Mo_begins_dc.at 3 rfl) hl rfl ?_
  refine r_iconst E (Mo_begins_dc.at 4 rfl) ?_
  obtain ⟨M4, eM4, h⟩ := lt1_e h
  refine u_pI E eM4 zf_12_5 S3 g1 (show InR (-1) by decide) (Or.inl rfl) rfl zw_6_212 (Mo_begins_dc.at 5 rfl) (fun H locs S5 => ?_)
  refine u_al_n (x := a0) E (Mo_begins_dc.at 6 rfl) hl rfl ?_
  obtain ⟨M6, eM6, h⟩ := bd1_e h
  refine u_cVU (As := []) (rest := []) E S5 zcw_yX12_next zw_7_151 zq_3_15 zw_7_149 zck_12.1 rfl g1 (Mo_next_c l G fu top L M4 a0 ha0 eM6) (zrm_ok (by decide) (by decide)) ⟨Nat.le_refl 0, Nat.le_refl 0⟩ rfl (Nat.zero_le 8) hl.size rfl (Mo_begins_dc.at 7 rfl) (fun H locs _ S7 => ?_)
  cases h
  exact r_vret E S7 True.intro (Mo_begins_dc.at 8 rfl)
theorem Mo_begins_c (l : Launch) (G : zG) (fu : Nat) (top : Int) (L : zL) (M : zM) (a0 : Int) {res : zM} (ha0 : InR a0) (h : Mo_begins fu L M a0 = some res) : Met l yX12_begins (Cond.code yX12_begins cX12_begins 1 none :: zTB) (zrm 3 0 0) (va_Pc [zR G.2.2.1 a0] (zPre G top L M)) (zQ G top L res none True) 0 0 (zA G) :=
  z_met (by decide +kernel) (by simp [zR_cat, zcat_I, zcat_S]) (Nat.le_of_ble_eq_true rfl) fun p e s m below meth c ls E hn S hl => Mo_begins_w E ha0 S (hl.sub (And.intro rfl True.intro)) h
end
theorem Mo_letter_dc : zDL cX12_letter [(0, .aload_n 0, 1, 1), (1, .getfield 110, 3, 4), (4, .iconst (-1), 1, 5), (5, .if_icmp .ne 53, 3, 8), (8, .aload_n 0, 1, 9), (9, .getfield 97, 3, 12), (12, .iconst 1, 1, 13), (13, .if_icmp .ne 45, 3, 16), (16, .aload_n 0, 1, 17), (17, .getfield 80, 3, 20), (20, .aload_n 0, 1, 21), (21, .getfield 87, 3, 24), (24, .isub, 1, 25), (25, .iconst 1, 1, 26), (26, .if_icmp .ne 32, 3, 29), (29, .aload_n 0, 1, 30), (30, .getfield 9, 3, 33), (33, .aload_n 0, 1, 34), (34, .getfield 87, 3, 37), (37, .iaload, 1, 38), (38, .bipush 104, 2, 40), (40, .if_icmp .gt 18, 3, 43), (43, .aload_n 0, 1, 44), (44, .getfield 9, 3, 47), (47, .aload_n 0, 1, 48), (48, .getfield 87, 3, 51), (51, .iaload, 1, 52), (52, .bipush 97, 2, 54), (54, .isub, 1, 55), (55, .goto 4, 3, 58), (58, .iconst (-1), 1, 59), (59, .ireturn, 1, 60)] := zDL.of (by decide +kernel)
section
variable {p : Program} {l : Launch} {e : Env} {s : State} {m : MethodId} {args : Array Value} {below : List Frame} {meth : Method} {c : Code} {G : zG} {top : Int} {L : zL} {fu : Nat}
theorem Mo_letter_w (E : zEv p m c cX12_letter 1 s args RX12 meth (some .int) G) {res : Int} {M : zM} {a0 : Int} {H : Heap} {locs : List Loc} {ls : Array Slot} (ha0 : InR a0) (S : zS G top L M s H locs) (hl : zLV ls 1 [some (zR G.2.2.1 a0)]) (h : Mo_letter fu L M a0 = some res) : W p l e (zrm 1 0 0) s m args below meth c H locs 0 0 (MQ below (zQ G top L M (some (.int (zO res))) (InR res)) args s 0 0 (zA G)) (F0 m 0 ls []) := by
  unfold Mo_letter at h
  refine u_al_n (x := a0) E (Mo_letter_dc.at 0 rfl) hl rfl ?_
  obtain ⟨g1, h⟩ := ite_e h
  refine u_gI E zf_12_5 S g1 zw_6_212 (Mo_letter_dc.at 1 rfl) ?_
  refine r_iconst E (Mo_letter_dc.at 2 rfl) ?_
  refine r_icmp_ne (tgt := 58) E (S.1.inR _ _) (show InR (-1) by decide) (Mo_letter_dc.at 3 rfl) (by decide) (fun q => ?_) (fun q => ?_)
  · have h := ite_t h q
    refine u_al_n (x := a0) E (Mo_letter_dc.at 4 rfl) hl rfl ?_
    refine u_gI E zf_12_6 S g1 zw_6_213 (Mo_letter_dc.at 5 rfl) ?_
    refine r_iconst E (Mo_letter_dc.at 6 rfl) ?_
    refine r_icmp_ne (tgt := 58) E (S.1.inR _ _) (show InR 1 by decide) (Mo_letter_dc.at 7 rfl) (by decide) (fun q => ?_) (fun q => ?_)
    · have h := ite_t h q
      refine u_al_n (x := a0) E (Mo_letter_dc.at 8 rfl) hl rfl ?_
      refine u_gI E zf_12_3 S g1 zw_6_210 (Mo_letter_dc.at 9 rfl) ?_
      refine u_al_n (x := a0) E (Mo_letter_dc.at 10 rfl) hl rfl ?_
      refine u_gI E zf_12_4 S g1 zw_6_211 (Mo_letter_dc.at 11 rfl) ?_
      refine r_isub E (Mo_letter_dc.at 12 rfl) ?_
      refine r_iconst E (Mo_letter_dc.at 13 rfl) ?_
      refine r_icmp_ne (tgt := 58) E (inR_w32 _) (show InR 1 by decide) (Mo_letter_dc.at 14 rfl) (by decide) (fun q => ?_) (fun q => ?_)
      · have h := ite_t h q
        refine u_al_n (x := a0) E (Mo_letter_dc.at 15 rfl) hl rfl ?_
        refine u_gR E zf_12_1 S g1 zw_6_208 (Mo_letter_dc.at 16 rfl) ?_
        refine u_al_n (x := a0) E (Mo_letter_dc.at 17 rfl) hl rfl ?_
        refine u_gI E zf_12_4 S g1 zw_6_211 (Mo_letter_dc.at 18 rfl) ?_
        obtain ⟨g2, h⟩ := ite_e h
        obtain ⟨g3, h⟩ := ite_e h
        refine r_iald E S g2 g3 (Mo_letter_dc.at 19 rfl) ?_
        refine r_bipush E (Mo_letter_dc.at 20 rfl) rfl ?_
        refine r_icmp_gt (tgt := 58) E (S.1.inR _ _) (show InR 104 by decide) (Mo_letter_dc.at 21 rfl) (by decide) (fun q => ?_) (fun q => ?_)
        · have h := ite_t h q
          refine r_iconst E (Mo_letter_dc.at 30 rfl) ?_
          cases h
          exact r_iret E S (show InR (-1) by decide) (Mo_letter_dc.at 31 rfl)
        · have h := ite_f h q
          refine u_al_n (x := a0) E (Mo_letter_dc.at 22 rfl) hl rfl ?_
          refine u_gR E zf_12_1 S g1 zw_6_208 (Mo_letter_dc.at 23 rfl) ?_
          refine u_al_n (x := a0) E (Mo_letter_dc.at 24 rfl) hl rfl ?_
          refine u_gI E zf_12_4 S g1 zw_6_211 (Mo_letter_dc.at 25 rfl) ?_
          obtain ⟨g4, h⟩ := ite_e h
          refine r_iald E S g2 g4 (Mo_letter_dc.at 26 rfl) ?_
          refine r_bipush E (Mo_letter_dc.at 27 rfl) rfl ?_
          refine r_isub E (Mo_letter_dc.at 28 rfl) ?_
          refine r_goto (tgt := 59) E (Mo_letter_dc.at 29 rfl) (by decide) ?_
          cases h
          exact r_iret E S (inR_w32 _) (Mo_letter_dc.at 31 rfl)
      · have h := ite_f h q
        refine r_iconst E (Mo_letter_dc.at 30 rfl) ?_
        cases h
        exact r_iret E S (show InR (-1) by decide) (Mo_letter_dc.at 31 rfl)
    · have h := ite_f h q
      refine r_iconst E (Mo_letter_dc.at 30 rfl) ?_
      cases h
      exact r_iret E S (show InR (-1) by decide) (Mo_letter_dc.at 31 rfl)
  · have h := ite_f h q
    refine r_iconst E (Mo_letter_dc.at 30 rfl) ?_
    cases h
    exact r_iret E S (show InR (-1) by decide) (Mo_letter_dc.at 31 rfl)
theorem Mo_letter_c (l : Launch) (G : zG) (fu : Nat) (top : Int) (L : zL) (M : zM) (a0 : Int) {res : Int} (ha0 : InR a0) (h : Mo_letter fu L M a0 = some res) : Met l yX12_letter (Cond.code yX12_letter cX12_letter 1 (some .int) :: zTB) (zrm 1 0 0) (va_Pc [zR G.2.2.1 a0] (zPre G top L M)) (zQ G top L M (some (.int (zO res))) (InR res)) 0 0 (zA G) :=
  z_met (by decide +kernel) (by simp [zR_cat, zcat_I, zcat_S]) (Nat.le_of_ble_eq_true rfl) fun p e s m below meth c ls E hn S hl => Mo_letter_w E ha0 S (hl.sub (And.intro rfl True.intro)) h
end
theorem Mo_readLife_dc : zDL cX12_readLife [(0, .iconst 0, 1, 1), (1, .istore_n 2, 1, 2), (2, .iload_n 2, 1, 3), (3, .aload_n 0, 1, 4), (4, .getfield 139, 3, 7), (7, .if_icmp .ge 21, 3, 10), (10, .aload_n 0, 1, 11), (11, .getfield 13, 3, 14), (14, .iload_n 2, 1, 15), (15, .iaload, 1, 16), (16, .iload_n 1, 1, 17), (17, .if_icmp .ne 5, 3, 20), (20, .iload_n 2, 1, 21), (21, .ireturn, 1, 22), (22, .iinc 2 1, 3, 25), (25, .goto (-23), 3, 28), (28, .iconst (-1), 1, 29), (29, .ireturn, 1, 30)] := zDL.of (by decide +kernel)
section
variable {p : Program} {l : Launch} {e : Env} {s : State} {m : MethodId} {args : Array Value} {below : List Frame} {meth : Method} {c : Code} {G : zG} {top : Int} {L : zL} {fu : Nat}
theorem Mo_readLife_s2_w (E : zEv p m c cX12_readLife 3 s args RX12 meth (some .int) G) {res : Int} {k2 : zM → Int → Int → Int → Option Int} (hk2 : ∀ (M : zM) (x0 : Int) (x1 : Int) (x2 : Int), InR x0 → InR x1 → InR x2 → ∀ (H : Heap) (locs : List Loc) (ls : Array Slot), zS G top L M s H locs → zLV ls 3 [some (zR G.2.2.1 x0), some (.int (zO x1)), some (.int (zO x2))] → k2 M x0 x1 x2 = some res → W p l e (zrm 1 0 0) s m args below meth c H locs 0 0 (MQ below (zQ G top L M (some (.int (zO res))) (InR res)) args s 0 0 (zA G)) (F0 m 2 ls [])) {M : zM} {x0 : Int} {x1 : Int} {x2 : Int} {H : Heap} {locs : List Loc} {ls : Array Slot} (hx0 : InR x0) (hx1 : InR x1) (hx2 : InR x2) (S : zS G top L M s H locs) (hl : zLV ls 3 [some (zR G.2.2.1 x0), some (.int (zO x1)), some (.int (zO x2))]) (h : Mo_readLife_s2 fu k2 L M x0 x1 x2 = some res) : W p l e (zrm 1 0 0) s m args below meth c H locs 0 0 (MQ below (zQ G top L M (some (.int (zO res))) (InR res)) args s 0 0 (zA G)) (F0 m 2 ls []) := by
  unfold Mo_readLife_s2 at h
  refine u_il_n (x := x2) E (Mo_readLife_dc.at 2 rfl) hl rfl ?_
  refine u_al_n (x := x0) E (Mo_readLife_dc.at 3 rfl) hl rfl ?_
  obtain ⟨g1, h⟩ := ite_e h
  refine u_gI E zf_12_11 S g1 zw_6_218 (Mo_readLife_dc.at 4 rfl) ?_
  refine r_icmp_ge (tgt := 28) E hx2 (S.1.inR _ _) (Mo_readLife_dc.at 5 rfl) (by decide) (fun q => ?_) (fun q => ?_)
  · have h := ite_t h q
    refine u_al_n (x := x0) E (Mo_readLife_dc.at 6 rfl) hl rfl ?_
    refine u_gR E zf_12_8 S g1 zw_6_215 (Mo_readLife_dc.at 7 rfl) ?_
    refine u_il_n (x := x2) E (Mo_readLife_dc.at 8 rfl) hl rfl ?_
    obtain ⟨g2, h⟩ := ite_e h
    obtain ⟨g3, h⟩ := ite_e h
    refine r_iald E S g2 g3 (Mo_readLife_dc.at 9 rfl) ?_
    refine u_il_n (x := x1) E (Mo_readLife_dc.at 10 rfl) hl rfl ?_
    refine r_icmp_ne (tgt := 22) E (S.1.inR _ _) hx1 (Mo_readLife_dc.at 11 rfl) (by decide) (fun q => ?_) (fun q => ?_)
    · have h := ite_t h q
      refine u_il_n (x := x2) E (Mo_readLife_dc.at 12 rfl) hl rfl ?_
      cases h
      exact r_iret E S hx2 (Mo_readLife_dc.at 13 rfl)
    · have h := ite_f h q
      obtain ⟨v4, ev4, h⟩ := lt1_e h
      have hv4 := inR_eq ev4 (inR_w32 _)
      refine u_iinc (y := v4) (vs' := [some (zR G.2.2.1 x0), some (.int (zO x1)), some (.int (zO v4))]) E ev4 (Mo_readLife_dc.at 14 rfl) hl rfl (by decide) rfl (fun ls hl => ?_)
      refine r_goto (tgt := 2) E (Mo_readLife_dc.at 15 rfl) (by decide) ?_
      exact hk2 _ x0 x1 v4 hx0 hx1 hv4 _ _ _ S (hl.sub (And.intro rfl (And.intro rfl (And.intro rfl True.intro)))) h
  · have h := ite_f h q
    refine r_iconst E (Mo_readLife_dc.at 16 rfl) ?_
    cases h
    exact r_iret E S (show InR (-1) by decide) (Mo_readLife_dc.at 17 rfl)
theorem Mo_readLife_l2_w (E : zEv p m c cX12_readLife 3 s args RX12 meth (some .int) G) {res : Int} : ∀ (n : Nat) (M : zM) (x0 : Int) (x1 : Int) (x2 : Int), InR x0 → InR x1 → InR x2 → ∀ (H : Heap) (locs : List Loc) (ls : Array Slot), zS G top L M s H locs → zLV ls 3 [some (zR G.2.2.1 x0), some (.int (zO x1)), some (.int (zO x2))] → Mo_readLife_l2 fu L n M x0 x1 x2 = some res → W p l e (zrm 1 0 0) s m args below meth c H locs 0 0 (MQ below (zQ G top L M (some (.int (zO res))) (InR res)) args s 0 0 (zA G)) (F0 m 2 ls [])
  | 0, _, _, _, _ => fun _ _ _ _ _ _ _ _ h => (by cases h)
  | n + 1, M, x0, x1, x2 => fun hx0 hx1 hx2 H locs ls S hl h => Mo_readLife_s2_w E (fun M x0 x1 x2 hx0 hx1 hx2 H locs ls S hl h => Mo_readLife_l2_w E n M x0 x1 x2 hx0 hx1 hx2 H locs ls S hl h) hx0 hx1 hx2 S hl h
theorem Mo_readLife_w (E : zEv p m c cX12_readLife 3 s args RX12 meth (some .int) G) {res : Int} {M : zM} {a0 : Int} {a1 : Int} {H : Heap} {locs : List Loc} {ls : Array Slot} (ha0 : InR a0) (ha1 : InR a1) (S : zS G top L M s H locs) (hl : zLV ls 3 [some (zR G.2.2.1 a0), some (.int (zO a1)), none]) (h : Mo_readLife fu L M a0 a1 = some res) : W p l e (zrm 1 0 0) s m args below meth c H locs 0 0 (MQ below (zQ G top L M (some (.int (zO res))) (InR res)) args s 0 0 (zA G)) (F0 m 0 ls []) := by
  unfold Mo_readLife at h
  refine r_iconst E (Mo_readLife_dc.at 0 rfl) ?_
  refine u_ist_n (y := 0) (vs' := [some (zR G.2.2.1 a0), some (.int (zO a1)), some (.int (zO 0))]) E rfl (Mo_readLife_dc.at 1 rfl) hl (by decide) rfl (fun ls hl => ?_)
  exact Mo_readLife_l2_w E fu _ a0 a1 0 ha0 ha1 (show InR 0 by decide) _ _ _ S (hl.sub (And.intro rfl (And.intro rfl (And.intro rfl True.intro)))) h
theorem Mo_readLife_c (l : Launch) (G : zG) (fu : Nat) (top : Int) (L : zL) (M : zM) (a0 : Int) (a1 : Int) {res : Int} (ha0 : InR a0) (ha1 : InR a1) (h : Mo_readLife fu L M a0 a1 = some res) : Met l yX12_readLife (Cond.code yX12_readLife cX12_readLife 3 (some .int) :: zTB) (zrm 1 0 0) (va_Pc [zR G.2.2.1 a0, .int (zO a1)] (zPre G top L M)) (zQ G top L M (some (.int (zO res))) (InR res)) 0 0 (zA G) :=
  z_met (by decide +kernel) (by simp [zR_cat, zcat_I, zcat_S]) (Nat.le_of_ble_eq_true rfl) fun p e s m below meth c ls E hn S hl => Mo_readLife_w E ha0 ha1 S (hl.sub (And.intro rfl (And.intro rfl True.intro))) h
end
theorem Mo_bad_dc : zDL cX12_bad [(0, .aload_n 0, 1, 1), (1, .aload_n 0, 1, 2), (2, .getfield 110, 3, 5), (5, .iconst (-1), 1, 6), (6, .if_icmp .ne 10, 3, 9), (9, .aload_n 0, 1, 10), (10, .getfield 87, 3, 13), (13, .goto 7, 3, 16), (16, .aload_n 0, 1, 17), (17, .getfield 110, 3, 20), (20, .putfield 110, 3, 23), (23, .return_, 1, 24)] := zDL.of (by decide +kernel)
section
variable {p : Program} {l : Launch} {e : Env} {s : State} {m : MethodId} {args : Array Value} {below : List Frame} {meth : Method} {c : Code} {G : zG} {top : Int} {L : zL} {fu : Nat}
theorem Mo_bad_w (E : zEv p m c cX12_bad 1 s args RX12 meth none G) {res : zM} {M : zM} {a0 : Int} {H : Heap} {locs : List Loc} {ls : Array Slot} (ha0 : InR a0) (S : zS G top L M s H locs) (hl : zLV ls 1 [some (zR G.2.2.1 a0)]) (h : Mo_bad fu L M a0 = some res) : W p l e (zrm 1 0 0) s m args below meth c H locs 0 0 (MQ below (zQ G top L res none True) args s 0 0 (zA G)) (F0 m 0 ls []) := by
  unfold Mo_bad at h
  refine u_al_n (x := a0) E (Mo_bad_dc.at 0 rfl) hl rfl ?_
  refine u_al_n (x := a0) E (Mo_bad_dc.at 1 rfl) hl rfl ?_
  obtain ⟨g1, h⟩ := ite_e h
  refine u_gI E zf_12_5 S g1 zw_6_212 (Mo_bad_dc.at 2 rfl) ?_
  refine r_iconst E (Mo_bad_dc.at 3 rfl) ?_
  refine r_icmp_ne (tgt := 16) E (S.1.inR _ _) (show InR (-1) by decide) (Mo_bad_dc.at 4 rfl) (by decide) (fun q => ?_) (fun q => ?_)
  · have h := ite_t h q
    refine u_al_n (x := a0) E (Mo_bad_dc.at 5 rfl) hl rfl ?_
    refine u_gI E zf_12_4 S g1 zw_6_211 (Mo_bad_dc.at 6 rfl) ?_
    refine r_goto (tgt := 20) E (Mo_bad_dc.at 7 rfl) (by decide) ?_
    obtain ⟨M2, eM2, h⟩ := lt1_e h
    refine u_pI E eM2 zf_12_5 S g1 (S.1.inR _ _) (Or.inl rfl) rfl zw_6_212 (Mo_bad_dc.at 10 rfl) (fun H locs S3 => ?_)
    cases h
    exact r_vret E S3 True.intro (Mo_bad_dc.at 11 rfl)
  · have h := ite_f h q
    refine u_al_n (x := a0) E (Mo_bad_dc.at 8 rfl) hl rfl ?_
    refine u_gI E zf_12_5 S g1 zw_6_212 (Mo_bad_dc.at 9 rfl) ?_
    obtain ⟨M4, eM4, h⟩ := lt1_e h
    refine u_pI E eM4 zf_12_5 S g1 (S.1.inR _ _) (Or.inl rfl) rfl zw_6_212 (Mo_bad_dc.at 10 rfl) (fun H locs S5 => ?_)
    cases h
    exact r_vret E S5 True.intro (Mo_bad_dc.at 11 rfl)
theorem Mo_bad_c (l : Launch) (G : zG) (fu : Nat) (top : Int) (L : zL) (M : zM) (a0 : Int) {res : zM} (ha0 : InR a0) (h : Mo_bad fu L M a0 = some res) : Met l yX12_bad (Cond.code yX12_bad cX12_bad 1 none :: zTB) (zrm 1 0 0) (va_Pc [zR G.2.2.1 a0] (zPre G top L M)) (zQ G top L res none True) 0 0 (zA G) :=
  z_met (by decide +kernel) (by simp [zR_cat, zcat_I, zcat_S]) (Nat.le_of_ble_eq_true rfl) fun p e s m below meth c ls E hn S hl => Mo_bad_w E ha0 S (hl.sub (And.intro rfl True.intro)) h
end
theorem Mo_takesNumber_dc : zDL cX12_takesNumber [(0, .aload_n 0, 1, 1), (1, .getfield 110, 3, 4), (4, .iconst (-1), 1, 5), (5, .if_icmp .ne 32, 3, 8), (8, .aload_n 0, 1, 9), (9, .getfield 97, 3, 12), (12, .iconst 2, 1, 13), (13, .if_icmp .ne 24, 3, 16), (16, .aload_n 0, 1, 17), (17, .getfield 80, 3, 20), (20, .aload_n 0, 1, 21), (21, .getfield 87, 3, 24), (24, .isub, 1, 25), (25, .iconst 3, 1, 26), (26, .if_icmp .gt 11, 3, 29), (29, .aload_n 0, 1, 30), (30, .getfield 100, 3, 33), (33, .iload_n 1, 1, 34), (34, .if_icmp .le 9, 3, 37), (37, .aload_n 0, 1, 38), (38, .invokevirtual 133, 3, 41), (41, .iconst 0, 1, 42), (42, .ireturn, 1, 43), (43, .aload_n 0, 1, 44), (44, .getfield 100, 3, 47), (47, .istore_n 2, 1, 48), (48, .aload_n 0, 1, 49), (49, .invokevirtual 113, 3, 52), (52, .iload_n 2, 1, 53), (53, .ireturn, 1, 54)] := zDL.of (by decide +kernel)
section
variable {p : Program} {l : Launch} {e : Env} {s : State} {m : MethodId} {args : Array Value} {below : List Frame} {meth : Method} {c : Code} {G : zG} {top : Int} {L : zL} {fu : Nat}
theorem Mo_takesNumber_w (E : zEv p m c cX12_takesNumber 3 s args RX12 meth (some .int) G) {res : (zM × Int)} {M : zM} {a0 : Int} {a1 : Int} {H : Heap} {locs : List Loc} {ls : Array Slot} (ha0 : InR a0) (ha1 : InR a1) (S : zS G top L M s H locs) (hl : zLV ls 3 [some (zR G.2.2.1 a0), some (.int (zO a1)), none]) (h : Mo_takesNumber fu L M a0 a1 = some res) : W p l e (zrm 3 0 0) s m args below meth c H locs 0 0 (MQ below (zQ G top L res.1 (some (.int (zO res.2))) (InR res.2)) args s 0 0 (zA G)) (F0 m 0 ls []) := by
  unfold Mo_takesNumber at h
  refine u_al_n (x := a0) E (Mo_takesNumber_dc.at 0 rfl) hl rfl ?_
  obtain ⟨g1, h⟩ := ite_e h
  refine u_gI E zf_12_5 S g1 zw_6_212 (Mo_takesNumber_dc.at 1 rfl) ?_
  refine r_iconst E (Mo_takesNumber_dc.at 2 rfl) ?_
  refine r_icmp_ne (tgt := 37) E (S.1.inR _ _) (show InR (-1) by decide) (Mo_takesNumber_dc.at 3 rfl) (by decide) (fun q => ?_) (fun q => ?_)
  · have h := ite_t h q
    refine u_al_n (x := a0) E (Mo_takesNumber_dc.at 4 rfl) hl rfl ?_
    refine u_gI E zf_12_6 S g1 zw_6_213 (Mo_takesNumber_dc.at 5 rfl) ?_
    refine r_iconst E (Mo_takesNumber_dc.at 6 rfl) ?_
    refine r_icmp_ne (tgt := 37) E (S.1.inR _ _) (show InR 2 by decide) (Mo_takesNumber_dc.at 7 rfl) (by decide) (fun q => ?_) (fun q => ?_)
    · have h := ite_t h q
      refine u_al_n (x := a0) E (Mo_takesNumber_dc.at 8 rfl) hl rfl ?_
      refine u_gI E zf_12_3 S g1 zw_6_210 (Mo_takesNumber_dc.at 9 rfl) ?_
      refine u_al_n (x := a0) E (Mo_takesNumber_dc.at 10 rfl) hl rfl ?_
      refine u_gI E zf_12_4 S g1 zw_6_211 (Mo_takesNumber_dc.at 11 rfl) ?_
      refine r_isub E (Mo_takesNumber_dc.at 12 rfl) ?_
      refine r_iconst E (Mo_takesNumber_dc.at 13 rfl) ?_
      refine r_icmp_gt (tgt := 37) E (inR_w32 _) (show InR 3 by decide) (Mo_takesNumber_dc.at 14 rfl) (by decide) (fun q => ?_) (fun q => ?_)
      · have h := ite_t h q
        refine u_al_n (x := a0) E (Mo_takesNumber_dc.at 19 rfl) hl rfl ?_
        obtain ⟨M2, eM2, h⟩ := bd1_e h
        refine u_cVU (As := []) (rest := []) E S zcw_yX12_bad zw_7_179 zq_4_4 zw_7_177 zck_12.1 rfl g1 (Mo_bad_c l G fu top L M a0 ha0 eM2) (zrm_ok (by decide) (by decide)) ⟨Nat.le_refl 0, Nat.le_refl 0⟩ rfl (Nat.zero_le 8) hl.size rfl (Mo_takesNumber_dc.at 20 rfl) (fun H locs _ S3 => ?_)
        refine r_iconst E (Mo_takesNumber_dc.at 21 rfl) ?_
        cases h
        exact r_iret E S3 (show InR 0 by decide) (Mo_takesNumber_dc.at 22 rfl)
      · have h := ite_f h q
        refine u_al_n (x := a0) E (Mo_takesNumber_dc.at 15 rfl) hl rfl ?_
        refine u_gI E zf_12_7 S g1 zw_6_214 (Mo_takesNumber_dc.at 16 rfl) ?_
        refine u_il_n (x := a1) E (Mo_takesNumber_dc.at 17 rfl) hl rfl ?_
        refine r_icmp_le (tgt := 43) E (S.1.inR _ _) ha1 (Mo_takesNumber_dc.at 18 rfl) (by decide) (fun q => ?_) (fun q => ?_)
        · have h := ite_t h q
          refine u_al_n (x := a0) E (Mo_takesNumber_dc.at 19 rfl) hl rfl ?_
          obtain ⟨M4, eM4, h⟩ := bd1_e h
          refine u_cVU (As := []) (rest := []) E S zcw_yX12_bad zw_7_179 zq_4_4 zw_7_177 zck_12.1 rfl g1 (Mo_bad_c l G fu top L M a0 ha0 eM4) (zrm_ok (by decide) (by decide)) ⟨Nat.le_refl 0, Nat.le_refl 0⟩ rfl (Nat.zero_le 8) hl.size rfl (Mo_takesNumber_dc.at 20 rfl) (fun H locs _ S5 => ?_)
          refine r_iconst E (Mo_takesNumber_dc.at 21 rfl) ?_
          cases h
          exact r_iret E S5 (show InR 0 by decide) (Mo_takesNumber_dc.at 22 rfl)
        · have h := ite_f h q
          refine u_al_n (x := a0) E (Mo_takesNumber_dc.at 23 rfl) hl rfl ?_
          refine u_gI E zf_12_7 S g1 zw_6_214 (Mo_takesNumber_dc.at 24 rfl) ?_
          obtain ⟨v6, ev6, h⟩ := lt1_e h
          have hv6 := inR_eq ev6 (S.1.inR _ _)
          refine u_ist_n (y := v6) (vs' := [some (zR G.2.2.1 a0), some (.int (zO a1)), some (.int (zO v6))]) E ev6 (Mo_takesNumber_dc.at 25 rfl) hl (by decide) rfl (fun ls hl => ?_)
          refine u_al_n (x := a0) E (Mo_takesNumber_dc.at 26 rfl) hl rfl ?_
          obtain ⟨M7, eM7, h⟩ := bd1_e h
          refine u_cVU (As := []) (rest := []) E S zcw_yX12_next zw_7_151 zq_3_15 zw_7_149 zck_12.1 rfl g1 (Mo_next_c l G fu top L M a0 ha0 eM7) (zrm_ok (by decide) (by decide)) ⟨Nat.le_refl 0, Nat.le_refl 0⟩ rfl (Nat.zero_le 8) hl.size rfl (Mo_takesNumber_dc.at 27 rfl) (fun H locs _ S8 => ?_)
          refine u_il_n (x := v6) E (Mo_takesNumber_dc.at 28 rfl) hl rfl ?_
          cases h
          exact r_iret E S8 hv6 (Mo_takesNumber_dc.at 29 rfl)
    · have h := ite_f h q
      refine u_al_n (x := a0) E (Mo_takesNumber_dc.at 19 rfl) hl rfl ?_
      obtain ⟨M9, eM9, h⟩ := bd1_e h
      refine u_cVU (As := []) (rest := []) E S zcw_yX12_bad zw_7_179 zq_4_4 zw_7_177 zck_12.1 rfl g1 (Mo_bad_c l G fu top L M a0 ha0 eM9) (zrm_ok (by decide) (by decide)) ⟨Nat.le_refl 0, Nat.le_refl 0⟩ rfl (Nat.zero_le 8) hl.size rfl (Mo_takesNumber_dc.at 20 rfl) (fun H locs _ S10 => ?_)
      refine r_iconst E (Mo_takesNumber_dc.at 21 rfl) ?_
      cases h
      exact r_iret E S10 (show InR 0 by decide) (Mo_takesNumber_dc.at 22 rfl)
  · have h := ite_f h q
    refine u_al_n (x := a0) E (Mo_takesNumber_dc.at 19 rfl) hl rfl ?_
    obtain ⟨M11, eM11, h⟩ := bd1_e h
    refine u_cVU (As := []) (rest := []) E S zcw_yX12_bad zw_7_179 zq_4_4 zw_7_177 zck_12.1 rfl g1 (Mo_bad_c l G fu top L M a0 ha0 eM11) (zrm_ok (by decide) (by decide)) ⟨Nat.le_refl 0, Nat.le_refl 0⟩ rfl (Nat.zero_le 8) hl.size rfl (Mo_takesNumber_dc.at 20 rfl) (fun H locs _ S12 => ?_)
    refine r_iconst E (Mo_takesNumber_dc.at 21 rfl) ?_
    cases h
    exact r_iret E S12 (show InR 0 by decide) (Mo_takesNumber_dc.at 22 rfl)
theorem Mo_takesNumber_c (l : Launch) (G : zG) (fu : Nat) (top : Int) (L : zL) (M : zM) (a0 : Int) (a1 : Int) {res : (zM × Int)} (ha0 : InR a0) (ha1 : InR a1) (h : Mo_takesNumber fu L M a0 a1 = some res) : Met l yX12_takesNumber (Cond.code yX12_takesNumber cX12_takesNumber 3 (some .int) :: zTB) (zrm 3 0 0) (va_Pc [zR G.2.2.1 a0, .int (zO a1)] (zPre G top L M)) (zQ G top L res.1 (some (.int (zO res.2))) (InR res.2)) 0 0 (zA G) :=
  z_met (by decide +kernel) (by simp [zR_cat, zcat_I, zcat_S]) (Nat.le_of_ble_eq_true rfl) fun p e s m below meth c ls E hn S hl => Mo_takesNumber_w E ha0 ha1 S (hl.sub (And.intro rfl (And.intro rfl True.intro))) h
end
theorem Mo_isWord_dc : zDL cX12_isWord [(0, .aload_n 0, 1, 1), (1, .getfield 110, 3, 4), (4, .iconst (-1), 1, 5), (5, .if_icmp .ne 31, 3, 8), (8, .aload_n 0, 1, 9), (9, .getfield 97, 3, 12), (12, .iconst 1, 1, 13), (13, .if_icmp .ne 23, 3, 16), (16, .aload_n 0, 1, 17), (17, .getfield 80, 3, 20), (20, .aload_n 0, 1, 21), (21, .getfield 87, 3, 24), (24, .isub, 1, 25), (25, .aload_n 1, 1, 26), (26, .invokevirtual 116, 3, 29), (29, .if_icmp .ne 7, 3, 32), (32, .iconst 1, 1, 33), (33, .goto 4, 3, 36), (36, .iconst 0, 1, 37), (37, .istore_n 2, 1, 38), (38, .iconst 0, 1, 39), (39, .istore_n 3, 1, 40), (40, .iload_n 2, 1, 41), (41, .ifCond .eq 42, 3, 44), (44, .iload_n 3, 1, 45), (45, .aload_n 1, 1, 46), (46, .invokevirtual 116, 3, 49), (49, .if_icmp .ge 34, 3, 52), (52, .aload_n 0, 1, 53), (53, .getfield 9, 3, 56), (56, .aload_n 0, 1, 57), (57, .getfield 87, 3, 60), (60, .iload_n 3, 1, 61), (61, .iadd, 1, 62), (62, .iaload, 1, 63), (63, .aload_n 1, 1, 64), (64, .iload_n 3, 1, 65), (65, .invokevirtual 122, 3, 68), (68, .if_icmp .ne 7, 3, 71), (71, .iconst 1, 1, 72), (72, .goto 4, 3, 75), (75, .iconst 0, 1, 76), (76, .istore_n 2, 1, 77), (77, .iinc 3 1, 3, 80), (80, .goto (-40), 3, 83), (83, .iload_n 2, 1, 84), (84, .ireturn, 1, 85)] := zDL.of (by decide +kernel)
section
variable {p : Program} {l : Launch} {e : Env} {s : State} {m : MethodId} {args : Array Value} {below : List Frame} {meth : Method} {c : Code} {G : zG} {top : Int} {L : zL} {fu : Nat}
theorem Mo_isWord_s40_w (E : zEv p m c cX12_isWord 4 s args RX12 meth (some .boolean) G) {res : Int} {k40 : zM → Int → Nat → Int → Int → Option Int} (hk40 : ∀ (M : zM) (x0 : Int) (x1 : Nat) (x2 : Int) (x3 : Int), InR x0 → InR x2 → InR x3 → ∀ (H : Heap) (locs : List Loc) (ls : Array Slot), zS G top L M s H locs → zLV ls 4 [some (zR G.2.2.1 x0), some (.ref (G.2.2.2.1 x1)), some (.int (zO x2)), some (.int (zO x3))] → k40 M x0 x1 x2 x3 = some res → W p l e (zrm 6 0 0) s m args below meth c H locs 0 0 (MQ below (zQ G top L M (some (.int (zO res))) (0 ≤ res ∧ res ≤ 1)) args s 0 0 (zA G)) (F0 m 40 ls [])) {M : zM} {x0 : Int} {x1 : Nat} {x2 : Int} {x3 : Int} {H : Heap} {locs : List Loc} {ls : Array Slot} (hx0 : InR x0) (hx2 : InR x2) (hx3 : InR x3) (S : zS G top L M s H locs) (hl : zLV ls 4 [some (zR G.2.2.1 x0), some (.ref (G.2.2.2.1 x1)), some (.int (zO x2)), some (.int (zO x3))]) (h : Mo_isWord_s40 fu k40 L M x0 x1 x2 x3 = some res) : W p l e (zrm 6 0 0) s m args below meth c H locs 0 0 (MQ below (zQ G top L M (some (.int (zO res))) (0 ≤ res ∧ res ≤ 1)) args s 0 0 (zA G)) (F0 m 40 ls []) := by
  unfold Mo_isWord_s40 at h
  refine u_il_n (x := x2) E (Mo_isWord_dc.at 22 rfl) hl rfl ?_
  refine r_if_eq (tgt := 83) E hx2 (Mo_isWord_dc.at 23 rfl) (by decide) (fun q => ?_) (fun q => ?_)
  · have h := ite_t h q
    refine u_il_n (x := x2) E (Mo_isWord_dc.at 45 rfl) hl rfl ?_
    obtain ⟨g4, h⟩ := ite_e h
    cases h
    exact r_zret E S g4 g4 (Mo_isWord_dc.at 46 rfl)
  · have h := ite_f h q
    refine u_il_n (x := x3) E (Mo_isWord_dc.at 24 rfl) hl rfl ?_
    refine r_aloadS_n E (Mo_isWord_dc.at 25 rfl) hl rfl ?_
    obtain ⟨r5, er5, h⟩ := bd1_e h
    refine u_St_length (rest := [.int (zO x3)]) E S er5 zw_7_194 hl.size (zrm_ok (by decide) (by decide)) (by simp [zR_cat, zcat_I, zcat_J, zcat_S]) (Mo_isWord_dc.at 26 rfl) ⟨Nat.le_refl 0, Nat.le_refl 0⟩ (fun H locs hr5 S6 => ?_)
    refine r_icmp_ge (tgt := 83) E hx3 hr5 (Mo_isWord_dc.at 27 rfl) (by decide) (fun q => ?_) (fun q => ?_)
    · have h := ite_t h q
      refine u_al_n (x := x0) E (Mo_isWord_dc.at 28 rfl) hl rfl ?_
      obtain ⟨g7, h⟩ := ite_e h
      refine u_gR E zf_12_1 S6 g7 zw_6_208 (Mo_isWord_dc.at 29 rfl) ?_
      refine u_al_n (x := x0) E (Mo_isWord_dc.at 30 rfl) hl rfl ?_
      refine u_gI E zf_12_4 S6 g7 zw_6_211 (Mo_isWord_dc.at 31 rfl) ?_
      refine u_il_n (x := x3) E (Mo_isWord_dc.at 32 rfl) hl rfl ?_
      refine r_iadd E (Mo_isWord_dc.at 33 rfl) ?_
      obtain ⟨g8, h⟩ := ite_e h
      obtain ⟨g9, h⟩ := ite_e h
      refine r_iald E S6 g8 g9 (Mo_isWord_dc.at 34 rfl) ?_
      refine r_aloadS_n E (Mo_isWord_dc.at 35 rfl) hl rfl ?_
      refine u_il_n (x := x3) E (Mo_isWord_dc.at 36 rfl) hl rfl ?_
      obtain ⟨r10, er10, h⟩ := bd1_e h
      refine u_St_charAt (rest := [.int (zO (M (M x0 1) (w32 ((M x0 4) + x3))))]) E S6 er10 hx3 zw_7_195 hl.size (zrm_ok (by decide) (by decide)) (by simp [zR_cat, zcat_I, zcat_J, zcat_S]) (Mo_isWord_dc.at 37 rfl) ⟨Nat.le_refl 0, Nat.le_refl 0⟩ (fun H locs hr10 S11 => ?_)
      refine r_icmp_ne (tgt := 75) E (S6.1.inR _ _) hr10 (Mo_isWord_dc.at 38 rfl) (by decide) (fun q => ?_) (fun q => ?_)
      · have h := ite_t h q
        refine r_iconst E (Mo_isWord_dc.at 39 rfl) ?_
        refine r_goto (tgt := 76) E (Mo_isWord_dc.at 40 rfl) (by decide) ?_
        refine u_ist_n (y := 1) (vs' := [some (zR G.2.2.1 x0), some (.ref (G.2.2.2.1 x1)), some (.int (zO 1)), some (.int (zO x3))]) E rfl (Mo_isWord_dc.at 42 rfl) hl (by decide) rfl (fun ls hl => ?_)
        obtain ⟨v12, ev12, h⟩ := lt1_e h
        have hv12 := inR_eq ev12 (inR_w32 _)
        refine u_iinc (y := v12) (vs' := [some (zR G.2.2.1 x0), some (.ref (G.2.2.2.1 x1)), some (.int (zO 1)), some (.int (zO v12))]) E ev12 (Mo_isWord_dc.at 43 rfl) hl rfl (by decide) rfl (fun ls hl => ?_)
        refine r_goto (tgt := 40) E (Mo_isWord_dc.at 44 rfl) (by decide) ?_
        exact hk40 _ x0 x1 1 v12 hx0 (show InR 1 by decide) hv12 _ _ _ S11 (hl.sub (And.intro rfl (And.intro rfl (And.intro rfl (And.intro rfl True.intro))))) h
      · have h := ite_f h q
        refine r_iconst E (Mo_isWord_dc.at 41 rfl) ?_
        refine u_ist_n (y := 0) (vs' := [some (zR G.2.2.1 x0), some (.ref (G.2.2.2.1 x1)), some (.int (zO 0)), some (.int (zO x3))]) E rfl (Mo_isWord_dc.at 42 rfl) hl (by decide) rfl (fun ls hl => ?_)
        obtain ⟨v13, ev13, h⟩ := lt1_e h
        have hv13 := inR_eq ev13 (inR_w32 _)
        refine u_iinc (y := v13) (vs' := [some (zR G.2.2.1 x0), some (.ref (G.2.2.2.1 x1)), some (.int (zO 0)), some (.int (zO v13))]) E ev13 (Mo_isWord_dc.at 43 rfl) hl rfl (by decide) rfl (fun ls hl => ?_)
        refine r_goto (tgt := 40) E (Mo_isWord_dc.at 44 rfl) (by decide) ?_
        exact hk40 _ x0 x1 0 v13 hx0 (show InR 0 by decide) hv13 _ _ _ S11 (hl.sub (And.intro rfl (And.intro rfl (And.intro rfl (And.intro rfl True.intro))))) h
    · have h := ite_f h q
      refine u_il_n (x := x2) E (Mo_isWord_dc.at 45 rfl) hl rfl ?_
      obtain ⟨g14, h⟩ := ite_e h
      cases h
      exact r_zret E S6 g14 g14 (Mo_isWord_dc.at 46 rfl)
theorem Mo_isWord_l40_w (E : zEv p m c cX12_isWord 4 s args RX12 meth (some .boolean) G) {res : Int} : ∀ (n : Nat) (M : zM) (x0 : Int) (x1 : Nat) (x2 : Int) (x3 : Int), InR x0 → InR x2 → InR x3 → ∀ (H : Heap) (locs : List Loc) (ls : Array Slot), zS G top L M s H locs → zLV ls 4 [some (zR G.2.2.1 x0), some (.ref (G.2.2.2.1 x1)), some (.int (zO x2)), some (.int (zO x3))] → Mo_isWord_l40 fu L n M x0 x1 x2 x3 = some res → W p l e (zrm 6 0 0) s m args below meth c H locs 0 0 (MQ below (zQ G top L M (some (.int (zO res))) (0 ≤ res ∧ res ≤ 1)) args s 0 0 (zA G)) (F0 m 40 ls [])
  | 0, _, _, _, _, _ => fun _ _ _ _ _ _ _ _ h => (by cases h)
  | n + 1, M, x0, x1, x2, x3 => fun hx0 hx2 hx3 H locs ls S hl h => Mo_isWord_s40_w E (fun M x0 x1 x2 x3 hx0 hx2 hx3 H locs ls S hl h => Mo_isWord_l40_w E n M x0 x1 x2 x3 hx0 hx2 hx3 H locs ls S hl h) hx0 hx2 hx3 S hl h
theorem Mo_isWord_w (E : zEv p m c cX12_isWord 4 s args RX12 meth (some .boolean) G) {res : Int} {M : zM} {a0 : Int} {a1 : Nat} {H : Heap} {locs : List Loc} {ls : Array Slot} (ha0 : InR a0) (S : zS G top L M s H locs) (hl : zLV ls 4 [some (zR G.2.2.1 a0), some (.ref (G.2.2.2.1 a1)), none, none]) (h : Mo_isWord fu L M a0 a1 = some res) : W p l e (zrm 6 0 0) s m args below meth c H locs 0 0 (MQ below (zQ G top L M (some (.int (zO res))) (0 ≤ res ∧ res ≤ 1)) args s 0 0 (zA G)) (F0 m 0 ls []) := by
  unfold Mo_isWord at h
  refine u_al_n (x := a0) E (Mo_isWord_dc.at 0 rfl) hl rfl ?_
  obtain ⟨g1, h⟩ := ite_e h
  refine u_gI E zf_12_5 S g1 zw_6_212 (Mo_isWord_dc.at 1 rfl) ?_
  refine r_iconst E (Mo_isWord_dc.at 2 rfl) ?_
  refine r_icmp_ne (tgt := 36) E (S.1.inR _ _) (show InR (-1) by decide) (Mo_isWord_dc.at 3 rfl) (by decide) (fun q => ?_) (fun q => ?_)
  · have h := ite_t h q
    refine u_al_n (x := a0) E (Mo_isWord_dc.at 4 rfl) hl rfl ?_
    refine u_gI E zf_12_6 S g1 zw_6_213 (Mo_isWord_dc.at 5 rfl) ?_
    refine r_iconst E (Mo_isWord_dc.at 6 rfl) ?_
    refine r_icmp_ne (tgt := 36) E (S.1.inR _ _) (show InR 1 by decide) (Mo_isWord_dc.at 7 rfl) (by decide) (fun q => ?_) (fun q => ?_)
    · have h := ite_t h q
      refine u_al_n (x := a0) E (Mo_isWord_dc.at 8 rfl) hl rfl ?_
      refine u_gI E zf_12_3 S g1 zw_6_210 (Mo_isWord_dc.at 9 rfl) ?_
      refine u_al_n (x := a0) E (Mo_isWord_dc.at 10 rfl) hl rfl ?_
      refine u_gI E zf_12_4 S g1 zw_6_211 (Mo_isWord_dc.at 11 rfl) ?_
      refine r_isub E (Mo_isWord_dc.at 12 rfl) ?_
      refine r_aloadS_n E (Mo_isWord_dc.at 13 rfl) hl rfl ?_
      obtain ⟨r2, er2, h⟩ := bd1_e h
      refine u_St_length (rest := [.int (zO (w32 ((M a0 3) - (M a0 4))))]) E S er2 zw_7_194 hl.size (zrm_ok (by decide) (by decide)) (by simp [zR_cat, zcat_I, zcat_J, zcat_S]) (Mo_isWord_dc.at 14 rfl) ⟨Nat.le_refl 0, Nat.le_refl 0⟩ (fun H locs hr2 S3 => ?_)
      refine r_icmp_ne (tgt := 36) E (inR_w32 _) hr2 (Mo_isWord_dc.at 15 rfl) (by decide) (fun q => ?_) (fun q => ?_)
      · have h := ite_t h q
        refine r_iconst E (Mo_isWord_dc.at 16 rfl) ?_
        refine r_goto (tgt := 37) E (Mo_isWord_dc.at 17 rfl) (by decide) ?_
        refine u_ist_n (y := 1) (vs' := [some (zR G.2.2.1 a0), some (.ref (G.2.2.2.1 a1)), some (.int (zO 1)), none]) E rfl (Mo_isWord_dc.at 19 rfl) hl (by decide) rfl (fun ls hl => ?_)
        refine r_iconst E (Mo_isWord_dc.at 20 rfl) ?_
        refine u_ist_n (y := 0) (vs' := [some (zR G.2.2.1 a0), some (.ref (G.2.2.2.1 a1)), some (.int (zO 1)), some (.int (zO 0))]) E rfl (Mo_isWord_dc.at 21 rfl) hl (by decide) rfl (fun ls hl => ?_)
        exact Mo_isWord_l40_w E fu _ a0 a1 1 0 ha0 (show InR 1 by decide) (show InR 0 by decide) _ _ _ S3 (hl.sub (And.intro rfl (And.intro rfl (And.intro rfl (And.intro rfl True.intro))))) h
      · have h := ite_f h q
        refine r_iconst E (Mo_isWord_dc.at 18 rfl) ?_
        refine u_ist_n (y := 0) (vs' := [some (zR G.2.2.1 a0), some (.ref (G.2.2.2.1 a1)), some (.int (zO 0)), none]) E rfl (Mo_isWord_dc.at 19 rfl) hl (by decide) rfl (fun ls hl => ?_)
        refine r_iconst E (Mo_isWord_dc.at 20 rfl) ?_
        refine u_ist_n (y := 0) (vs' := [some (zR G.2.2.1 a0), some (.ref (G.2.2.2.1 a1)), some (.int (zO 0)), some (.int (zO 0))]) E rfl (Mo_isWord_dc.at 21 rfl) hl (by decide) rfl (fun ls hl => ?_)
        exact Mo_isWord_l40_w E fu _ a0 a1 0 0 ha0 (show InR 0 by decide) (show InR 0 by decide) _ _ _ S3 (hl.sub (And.intro rfl (And.intro rfl (And.intro rfl (And.intro rfl True.intro))))) h
    · have h := ite_f h q
      refine r_iconst E (Mo_isWord_dc.at 18 rfl) ?_
      refine u_ist_n (y := 0) (vs' := [some (zR G.2.2.1 a0), some (.ref (G.2.2.2.1 a1)), some (.int (zO 0)), none]) E rfl (Mo_isWord_dc.at 19 rfl) hl (by decide) rfl (fun ls hl => ?_)
      refine r_iconst E (Mo_isWord_dc.at 20 rfl) ?_
      refine u_ist_n (y := 0) (vs' := [some (zR G.2.2.1 a0), some (.ref (G.2.2.2.1 a1)), some (.int (zO 0)), some (.int (zO 0))]) E rfl (Mo_isWord_dc.at 21 rfl) hl (by decide) rfl (fun ls hl => ?_)
      exact Mo_isWord_l40_w E fu _ a0 a1 0 0 ha0 (show InR 0 by decide) (show InR 0 by decide) _ _ _ S (hl.sub (And.intro rfl (And.intro rfl (And.intro rfl (And.intro rfl True.intro))))) h
  · have h := ite_f h q
    refine r_iconst E (Mo_isWord_dc.at 18 rfl) ?_
    refine u_ist_n (y := 0) (vs' := [some (zR G.2.2.1 a0), some (.ref (G.2.2.2.1 a1)), some (.int (zO 0)), none]) E rfl (Mo_isWord_dc.at 19 rfl) hl (by decide) rfl (fun ls hl => ?_)
    refine r_iconst E (Mo_isWord_dc.at 20 rfl) ?_
    refine u_ist_n (y := 0) (vs' := [some (zR G.2.2.1 a0), some (.ref (G.2.2.2.1 a1)), some (.int (zO 0)), some (.int (zO 0))]) E rfl (Mo_isWord_dc.at 21 rfl) hl (by decide) rfl (fun ls hl => ?_)
    exact Mo_isWord_l40_w E fu _ a0 a1 0 0 ha0 (show InR 0 by decide) (show InR 0 by decide) _ _ _ S (hl.sub (And.intro rfl (And.intro rfl (And.intro rfl (And.intro rfl True.intro))))) h
theorem Mo_isWord_c (l : Launch) (G : zG) (fu : Nat) (top : Int) (L : zL) (M : zM) (a0 : Int) (a1 : Nat) {res : Int} (ha0 : InR a0) (h : Mo_isWord fu L M a0 a1 = some res) : Met l yX12_isWord (Cond.code yX12_isWord cX12_isWord 4 (some .boolean) :: zTB) (zrm 6 0 0) (va_Pc [zR G.2.2.1 a0, .ref (G.2.2.2.1 a1)] (zPre G top L M)) (zQ G top L M (some (.int (zO res))) (0 ≤ res ∧ res ≤ 1)) 0 0 (zA G) :=
  z_met (by decide +kernel) (by simp [zR_cat, zcat_I, zcat_S]) (Nat.le_of_ble_eq_true rfl) fun p e s m below meth c ls E hn S hl => Mo_isWord_w E ha0 S (hl.sub (And.intro rfl (And.intro rfl True.intro))) h
end
theorem Mo_takesWord_dc : zDL cX12_takesWord [(0, .aload_n 0, 1, 1), (1, .aload_n 1, 1, 2), (2, .invokevirtual 126, 3, 5), (5, .istore_n 2, 1, 6), (6, .iload_n 2, 1, 7), (7, .ifCond .eq 7, 3, 10), (10, .aload_n 0, 1, 11), (11, .invokevirtual 113, 3, 14), (14, .iload_n 2, 1, 15), (15, .ireturn, 1, 16)] := zDL.of (by decide +kernel)
section
variable {p : Program} {l : Launch} {e : Env} {s : State} {m : MethodId} {args : Array Value} {below : List Frame} {meth : Method} {c : Code} {G : zG} {top : Int} {L : zL} {fu : Nat}
theorem Mo_takesWord_w (E : zEv p m c cX12_takesWord 3 s args RX12 meth (some .boolean) G) {res : (zM × Int)} {M : zM} {a0 : Int} {a1 : Nat} {H : Heap} {locs : List Loc} {ls : Array Slot} (ha0 : InR a0) (S : zS G top L M s H locs) (hl : zLV ls 3 [some (zR G.2.2.1 a0), some (.ref (G.2.2.2.1 a1)), none]) (h : Mo_takesWord fu L M a0 a1 = some res) : W p l e (zrm 7 0 0) s m args below meth c H locs 0 0 (MQ below (zQ G top L res.1 (some (.int (zO res.2))) (0 ≤ res.2 ∧ res.2 ≤ 1)) args s 0 0 (zA G)) (F0 m 0 ls []) := by
  unfold Mo_takesWord at h
  refine u_al_n (x := a0) E (Mo_takesWord_dc.at 0 rfl) hl rfl ?_
  refine r_aloadS_n E (Mo_takesWord_dc.at 1 rfl) hl rfl ?_
  obtain ⟨g1, h⟩ := ite_e h
  obtain ⟨r2, er2, h⟩ := bd1_e h
  refine u_cVI (As := [.ref (G.2.2.2.1 a1)]) (rest := []) E S zcw_yX12_isWord zw_7_192 zq_4_7 zw_7_190 zck_12.1 rfl g1 (Mo_isWord_c l G fu top L M a0 a1 ha0 er2) (zrm_ok (by decide) (by decide)) ⟨Nat.le_refl 0, Nat.le_refl 0⟩ rfl (Nat.zero_le 8) hl.size rfl (Mo_takesWord_dc.at 2 rfl) (fun H locs hr2 S3 => ?_)
  refine u_ist_n (y := r2) (vs' := [some (zR G.2.2.1 a0), some (.ref (G.2.2.2.1 a1)), some (.int (zO r2))]) E rfl (Mo_takesWord_dc.at 3 rfl) hl (by decide) rfl (fun ls hl => ?_)
  refine u_il_n (x := r2) E (Mo_takesWord_dc.at 4 rfl) hl rfl ?_
  refine r_if_eq (tgt := 14) E (inR_01 hr2) (Mo_takesWord_dc.at 5 rfl) (by decide) (fun q => ?_) (fun q => ?_)
  · have h := ite_t h q
    refine u_il_n (x := r2) E (Mo_takesWord_dc.at 8 rfl) hl rfl ?_
    cases h
    exact r_zret E S3 hr2 hr2 (Mo_takesWord_dc.at 9 rfl)
  · have h := ite_f h q
    refine u_al_n (x := a0) E (Mo_takesWord_dc.at 6 rfl) hl rfl ?_
    obtain ⟨M4, eM4, h⟩ := bd1_e h
    refine u_cVU (As := []) (rest := []) E S3 zcw_yX12_next zw_7_151 zq_3_15 zw_7_149 zck_12.1 rfl g1 (Mo_next_c l G fu top L M a0 ha0 eM4) (zrm_ok (by decide) (by decide)) ⟨Nat.le_refl 0, Nat.le_refl 0⟩ rfl (Nat.zero_le 8) hl.size rfl (Mo_takesWord_dc.at 7 rfl) (fun H locs _ S5 => ?_)
    refine u_il_n (x := r2) E (Mo_takesWord_dc.at 8 rfl) hl rfl ?_
    cases h
    exact r_zret E S5 hr2 hr2 (Mo_takesWord_dc.at 9 rfl)
theorem Mo_takesWord_c (l : Launch) (G : zG) (fu : Nat) (top : Int) (L : zL) (M : zM) (a0 : Int) (a1 : Nat) {res : (zM × Int)} (ha0 : InR a0) (h : Mo_takesWord fu L M a0 a1 = some res) : Met l yX12_takesWord (Cond.code yX12_takesWord cX12_takesWord 3 (some .boolean) :: zTB) (zrm 7 0 0) (va_Pc [zR G.2.2.1 a0, .ref (G.2.2.2.1 a1)] (zPre G top L M)) (zQ G top L res.1 (some (.int (zO res.2))) (0 ≤ res.2 ∧ res.2 ≤ 1)) 0 0 (zA G) :=
  z_met (by decide +kernel) (by simp [zR_cat, zcat_I, zcat_S]) (Nat.le_of_ble_eq_true rfl) fun p e s m below meth c ls E hn S hl => Mo_takesWord_w E ha0 S (hl.sub (And.intro rfl (And.intro rfl True.intro))) h
end
theorem Mo_readsPiece_dc : zDL cX12_readsPiece [(0, .aload_n 0, 1, 1), (1, .invokevirtual 142, 3, 4), (4, .istore_n 1, 1, 5), (5, .iload_n 1, 1, 6), (6, .iconst (-1), 1, 7), (7, .if_icmp .eq 21, 3, 10), (10, .aload_n 0, 1, 11), (11, .getfield 139, 3, 14), (14, .bipush 8, 2, 16), (16, .if_icmp .eq 12, 3, 19), (19, .aload_n 0, 1, 20), (20, .iload_n 1, 1, 21), (21, .invokevirtual 145, 3, 24), (24, .iconst (-1), 1, 25), (25, .if_icmp .eq 8, 3, 28), (28, .aload_n 0, 1, 29), (29, .invokevirtual 133, 3, 32), (32, .return_, 1, 33), (33, .aload_n 0, 1, 34), (34, .invokevirtual 113, 3, 37), (37, .aload_n 0, 1, 38), (38, .bipush 99, 2, 40), (40, .invokevirtual 148, 3, 43), (43, .istore_n 2, 1, 44), (44, .iconst (-1), 1, 45), (45, .istore_n 3, 1, 46), (46, .aload_n 0, 1, 47), (47, .ldc 151, 2, 49), (49, .invokevirtual 130, 3, 52), (52, .ifCond .eq 53, 3, 55), (55, .aload_n 0, 1, 56), (56, .invokevirtual 142, 3, 59), (59, .iconst (-1), 1, 60), (60, .if_icmp .ne 7, 3, 63), (63, .iconst (-1), 1, 64), (64, .goto 11, 3, 67), (67, .aload_n 0, 1, 68), (68, .aload_n 0, 1, 69), (69, .invokevirtual 142, 3, 72), (72, .invokevirtual 145, 3, 75), (75, .istore_n 3, 1, 76), (76, .iload_n 3, 1, 77), (77, .iconst (-1), 1, 78), (78, .if_icmp .eq 16, 3, 81), (81, .aload_n 0, 1, 82), (82, .getfield 16, 3, 85), (85, .iload_n 3, 1, 86), (86, .iaload, 1, 87), (87, .iload_n 2, 1, 88), (88, .isub, 1, 89), (89, .bipush 13, 2, 91), (91, .if_icmp .ge 10, 3, 94), (94, .aload_n 0, 1, 95), (95, .invokevirtual 133, 3, 98), (98, .goto 7, 3, 101), (101, .aload_n 0, 1, 102), (102, .invokevirtual 113, 3, 105), (105, .aload_n 0, 1, 106), (106, .getfield 110, 3, 109), (109, .iconst (-1), 1, 110), (110, .if_icmp .ne 43, 3, 113), (113, .aload_n 0, 1, 114), (114, .getfield 13, 3, 117), (117, .aload_n 0, 1, 118), (118, .getfield 139, 3, 121), (121, .iload_n 1, 1, 122), (122, .iastore, 1, 123), (123, .aload_n 0, 1, 124), (124, .getfield 16, 3, 127), (127, .aload_n 0, 1, 128), (128, .getfield 139, 3, 131), (131, .iload_n 2, 1, 132), (132, .iastore, 1, 133), (133, .aload_n 0, 1, 134), (134, .getfield 19, 3, 137), (137, .aload_n 0, 1, 138), (138, .getfield 139, 3, 141), (141, .iload_n 3, 1, 142), (142, .iastore, 1, 143), (143, .aload_n 0, 1, 144), (144, .dup, 1, 145), (145, .getfield 139, 3, 148), (148, .iconst 1, 1, 149), (149, .iadd, 1, 150), (150, .putfield 139, 3, 153), (153, .return_, 1, 154)] := zDL.of (by decide +kernel)
section
variable {p : Program} {l : Launch} {e : Env} {s : State} {m : MethodId} {args : Array Value} {below : List Frame} {meth : Method} {c : Code} {G : zG} {top : Int} {L : zL} {fu : Nat}
theorem Mo_readsPiece_b105_w (E : zEv p m c cX12_readsPiece 4 s args RX12 meth none G) {res : zM} {M : zM} {x0 : Int} {x1 : Int} {x2 : Int} {x3 : Int} {H : Heap} {locs : List Loc} {ls : Array Slot} (hx0 : InR x0) (hx1 : InR x1) (hx2 : InR x2) (hx3 : InR x3) (S : zS G top L M s H locs) (hl : zLV ls 4 [some (zR G.2.2.1 x0), some (.int (zO x1)), some (.int (zO x2)), some (.int (zO x3))]) (h : Mo_readsPiece_b105 fu L M x0 x1 x2 x3 = some res) : W p l e (zrm 8 0 0) s m args below meth c H locs 0 0 (MQ below (zQ G top L res none True) args s 0 0 (zA G)) (F0 m 105 ls []) := by
  unfold Mo_readsPiece_b105 at h
  refine u_al_n (x := x0) E (Mo_readsPiece_dc.at 57 rfl) hl rfl ?_
  obtain ⟨g18, h⟩ := ite_e h
  refine u_gI E zf_12_5 S g18 zw_6_212 (Mo_readsPiece_dc.at 58 rfl) ?_
  refine r_iconst E (Mo_readsPiece_dc.at 59 rfl) ?_
  refine r_icmp_ne (tgt := 153) E (S.1.inR _ _) (show InR (-1) by decide) (Mo_readsPiece_dc.at 60 rfl) (by decide) (fun q => ?_) (fun q => ?_)
  · have h := ite_t h q
    refine u_al_n (x := x0) E (Mo_readsPiece_dc.at 61 rfl) hl rfl ?_
    refine u_gR E zf_12_8 S g18 zw_6_215 (Mo_readsPiece_dc.at 62 rfl) ?_
    refine u_al_n (x := x0) E (Mo_readsPiece_dc.at 63 rfl) hl rfl ?_
    refine u_gI E zf_12_11 S g18 zw_6_218 (Mo_readsPiece_dc.at 64 rfl) ?_
    refine u_il_n (x := x1) E (Mo_readsPiece_dc.at 65 rfl) hl rfl ?_
    obtain ⟨g19, h⟩ := ite_e h
    obtain ⟨g20, h⟩ := ite_e h
    obtain ⟨M21, eM21, h⟩ := lt1_e h
    refine u_iast E eM21 S g19 g20 hx1 (Mo_readsPiece_dc.at 66 rfl) (fun H locs S22 => ?_)
    refine u_al_n (x := x0) E (Mo_readsPiece_dc.at 67 rfl) hl rfl ?_
    refine u_gR E zf_12_9 S22 g18 zw_6_216 (Mo_readsPiece_dc.at 68 rfl) ?_
    refine u_al_n (x := x0) E (Mo_readsPiece_dc.at 69 rfl) hl rfl ?_
    refine u_gI E zf_12_11 S22 g18 zw_6_218 (Mo_readsPiece_dc.at 70 rfl) ?_
    refine u_il_n (x := x2) E (Mo_readsPiece_dc.at 71 rfl) hl rfl ?_
    obtain ⟨g23, h⟩ := ite_e h
    obtain ⟨g24, h⟩ := ite_e h
    obtain ⟨M25, eM25, h⟩ := lt1_e h
    refine u_iast E eM25 S22 g23 g24 hx2 (Mo_readsPiece_dc.at 72 rfl) (fun H locs S26 => ?_)
    refine u_al_n (x := x0) E (Mo_readsPiece_dc.at 73 rfl) hl rfl ?_
    refine u_gR E zf_12_10 S26 g18 zw_6_217 (Mo_readsPiece_dc.at 74 rfl) ?_
    refine u_al_n (x := x0) E (Mo_readsPiece_dc.at 75 rfl) hl rfl ?_
    refine u_gI E zf_12_11 S26 g18 zw_6_218 (Mo_readsPiece_dc.at 76 rfl) ?_
    refine u_il_n (x := x3) E (Mo_readsPiece_dc.at 77 rfl) hl rfl ?_
    obtain ⟨g27, h⟩ := ite_e h
    obtain ⟨g28, h⟩ := ite_e h
    obtain ⟨M29, eM29, h⟩ := lt1_e h
    refine u_iast E eM29 S26 g27 g28 hx3 (Mo_readsPiece_dc.at 78 rfl) (fun H locs S30 => ?_)
    refine u_al_n (x := x0) E (Mo_readsPiece_dc.at 79 rfl) hl rfl ?_
    refine r_dup E (Mo_readsPiece_dc.at 80 rfl) (zR_cat _ _) ?_
    refine u_gI E zf_12_11 S30 g18 zw_6_218 (Mo_readsPiece_dc.at 81 rfl) ?_
    refine r_iconst E (Mo_readsPiece_dc.at 82 rfl) ?_
    refine r_iadd E (Mo_readsPiece_dc.at 83 rfl) ?_
    obtain ⟨M31, eM31, h⟩ := lt1_e h
    refine u_pI E eM31 zf_12_11 S30 g18 (inR_w32 _) (Or.inl rfl) rfl zw_6_218 (Mo_readsPiece_dc.at 84 rfl) (fun H locs S32 => ?_)
    cases h
    exact r_vret E S32 True.intro (Mo_readsPiece_dc.at 85 rfl)
  · have h := ite_f h q
    cases h
    exact r_vret E S True.intro (Mo_readsPiece_dc.at 85 rfl)
theorem Mo_readsPiece_b75_w (E : zEv p m c cX12_readsPiece 4 s args RX12 meth none G) {res : zM} {M : zM} {x0 : Int} {x1 : Int} {x2 : Int} {y0 : Int} {H : Heap} {locs : List Loc} {ls : Array Slot} (hx0 : InR x0) (hx1 : InR x1) (hx2 : InR x2) (hy0 : InR y0) (S : zS G top L M s H locs) (hl : zLV ls 4 [some (zR G.2.2.1 x0), some (.int (zO x1)), some (.int (zO x2)), none]) (h : Mo_readsPiece_b75 fu L M x0 x1 x2 y0 = some res) : W p l e (zrm 8 0 0) s m args below meth c H locs 0 0 (MQ below (zQ G top L res none True) args s 0 0 (zA G)) (F0 m 75 ls [.int (zO y0)]) := by
  unfold Mo_readsPiece_b75 at h
  refine u_ist_n (y := y0) (vs' := [some (zR G.2.2.1 x0), some (.int (zO x1)), some (.int (zO x2)), some (.int (zO y0))]) E rfl (Mo_readsPiece_dc.at 40 rfl) hl (by decide) rfl (fun ls hl => ?_)
  refine u_il_n (x := y0) E (Mo_readsPiece_dc.at 41 rfl) hl rfl ?_
  refine r_iconst E (Mo_readsPiece_dc.at 42 rfl) ?_
  refine r_icmp_eq (tgt := 94) E hy0 (show InR (-1) by decide) (Mo_readsPiece_dc.at 43 rfl) (by decide) (fun q => ?_) (fun q => ?_)
  · have h := ite_t h q
    refine u_al_n (x := x0) E (Mo_readsPiece_dc.at 52 rfl) hl rfl ?_
    obtain ⟨g35, h⟩ := ite_e h
    obtain ⟨M36, eM36, h⟩ := bd1_e h
    refine u_cVU (As := []) (rest := []) E S zcw_yX12_bad zw_7_179 zq_4_4 zw_7_177 zck_12.1 rfl g35 (Mo_bad_c l G fu top L M x0 hx0 eM36) (zrm_ok (by decide) (by decide)) ⟨Nat.le_refl 0, Nat.le_refl 0⟩ rfl (Nat.zero_le 8) hl.size rfl (Mo_readsPiece_dc.at 53 rfl) (fun H locs _ S37 => ?_)
    refine r_goto (tgt := 105) E (Mo_readsPiece_dc.at 54 rfl) (by decide) ?_
    exact Mo_readsPiece_b105_w (x0 := x0) (x1 := x1) (x2 := x2) (x3 := y0)  E hx0 hx1 hx2 hy0 S37 (hl.sub (And.intro rfl (And.intro rfl (And.intro rfl (And.intro rfl True.intro))))) h
  · have h := ite_f h q
    refine u_al_n (x := x0) E (Mo_readsPiece_dc.at 44 rfl) hl rfl ?_
    obtain ⟨g38, h⟩ := ite_e h
    refine u_gR E zf_12_9 S g38 zw_6_216 (Mo_readsPiece_dc.at 45 rfl) ?_
    refine u_il_n (x := y0) E (Mo_readsPiece_dc.at 46 rfl) hl rfl ?_
    obtain ⟨g39, h⟩ := ite_e h
    obtain ⟨g40, h⟩ := ite_e h
    refine r_iald E S g39 g40 (Mo_readsPiece_dc.at 47 rfl) ?_
    refine u_il_n (x := x2) E (Mo_readsPiece_dc.at 48 rfl) hl rfl ?_
    refine r_isub E (Mo_readsPiece_dc.at 49 rfl) ?_
    refine r_bipush E (Mo_readsPiece_dc.at 50 rfl) rfl ?_
    refine r_icmp_ge (tgt := 101) E (inR_w32 _) (show InR 13 by decide) (Mo_readsPiece_dc.at 51 rfl) (by decide) (fun q => ?_) (fun q => ?_)
    · have h := ite_t h q
      refine u_al_n (x := x0) E (Mo_readsPiece_dc.at 52 rfl) hl rfl ?_
      obtain ⟨M41, eM41, h⟩ := bd1_e h
      refine u_cVU (As := []) (rest := []) E S zcw_yX12_bad zw_7_179 zq_4_4 zw_7_177 zck_12.1 rfl g38 (Mo_bad_c l G fu top L M x0 hx0 eM41) (zrm_ok (by decide) (by decide)) ⟨Nat.le_refl 0, Nat.le_refl 0⟩ rfl (Nat.zero_le 8) hl.size rfl (Mo_readsPiece_dc.at 53 rfl) (fun H locs _ S42 => ?_)
      refine r_goto (tgt := 105) E (Mo_readsPiece_dc.at 54 rfl) (by decide) ?_
      exact Mo_readsPiece_b105_w (x0 := x0) (x1 := x1) (x2 := x2) (x3 := y0)  E hx0 hx1 hx2 hy0 S42 (hl.sub (And.intro rfl (And.intro rfl (And.intro rfl (And.intro rfl True.intro))))) h
    · have h := ite_f h q
      refine u_al_n (x := x0) E (Mo_readsPiece_dc.at 55 rfl) hl rfl ?_
      obtain ⟨M43, eM43, h⟩ := bd1_e h
      refine u_cVU (As := []) (rest := []) E S zcw_yX12_next zw_7_151 zq_3_15 zw_7_149 zck_12.1 rfl g38 (Mo_next_c l G fu top L M x0 hx0 eM43) (zrm_ok (by decide) (by decide)) ⟨Nat.le_refl 0, Nat.le_refl 0⟩ rfl (Nat.zero_le 8) hl.size rfl (Mo_readsPiece_dc.at 56 rfl) (fun H locs _ S44 => ?_)
      exact Mo_readsPiece_b105_w (x0 := x0) (x1 := x1) (x2 := x2) (x3 := y0)  E hx0 hx1 hx2 hy0 S44 (hl.sub (And.intro rfl (And.intro rfl (And.intro rfl (And.intro rfl True.intro))))) h
theorem Mo_readsPiece_w (E : zEv p m c cX12_readsPiece 4 s args RX12 meth none G) {res : zM} {M : zM} {a0 : Int} {H : Heap} {locs : List Loc} {ls : Array Slot} (ha0 : InR a0) (S : zS G top L M s H locs) (hl : zLV ls 4 [some (zR G.2.2.1 a0), none, none, none]) (h : Mo_readsPiece fu L M a0 = some res) : W p l e (zrm 8 0 0) s m args below meth c H locs 0 0 (MQ below (zQ G top L res none True) args s 0 0 (zA G)) (F0 m 0 ls []) := by
  unfold Mo_readsPiece at h
  refine u_al_n (x := a0) E (Mo_readsPiece_dc.at 0 rfl) hl rfl ?_
  obtain ⟨g1, h⟩ := ite_e h
  obtain ⟨r2, er2, h⟩ := bd1_e h
  refine u_cVI (As := []) (rest := []) E S zcw_yX12_letter zw_7_171 zq_4_2 zw_7_169 zck_12.1 rfl g1 (Mo_letter_c l G fu top L M a0 ha0 er2) (zrm_ok (by decide) (by decide)) ⟨Nat.le_refl 0, Nat.le_refl 0⟩ rfl (Nat.zero_le 8) hl.size rfl (Mo_readsPiece_dc.at 1 rfl) (fun H locs hr2 S3 => ?_)
  refine u_ist_n (y := r2) (vs' := [some (zR G.2.2.1 a0), some (.int (zO r2)), none, none]) E rfl (Mo_readsPiece_dc.at 2 rfl) hl (by decide) rfl (fun ls hl => ?_)
  refine u_il_n (x := r2) E (Mo_readsPiece_dc.at 3 rfl) hl rfl ?_
  refine r_iconst E (Mo_readsPiece_dc.at 4 rfl) ?_
  refine r_icmp_eq (tgt := 28) E hr2 (show InR (-1) by decide) (Mo_readsPiece_dc.at 5 rfl) (by decide) (fun q => ?_) (fun q => ?_)
  · have h := ite_t h q
    refine u_al_n (x := a0) E (Mo_readsPiece_dc.at 15 rfl) hl rfl ?_
    obtain ⟨M4, eM4, h⟩ := bd1_e h
    refine u_cVU (As := []) (rest := []) E S3 zcw_yX12_bad zw_7_179 zq_4_4 zw_7_177 zck_12.1 rfl g1 (Mo_bad_c l G fu top L M a0 ha0 eM4) (zrm_ok (by decide) (by decide)) ⟨Nat.le_refl 0, Nat.le_refl 0⟩ rfl (Nat.zero_le 8) hl.size rfl (Mo_readsPiece_dc.at 16 rfl) (fun H locs _ S5 => ?_)
    cases h
    exact r_vret E S5 True.intro (Mo_readsPiece_dc.at 17 rfl)
  · have h := ite_f h q
    refine u_al_n (x := a0) E (Mo_readsPiece_dc.at 6 rfl) hl rfl ?_
    refine u_gI E zf_12_11 S3 g1 zw_6_218 (Mo_readsPiece_dc.at 7 rfl) ?_
    refine r_bipush E (Mo_readsPiece_dc.at 8 rfl) rfl ?_
    refine r_icmp_eq (tgt := 28) E (S3.1.inR _ _) (show InR 8 by decide) (Mo_readsPiece_dc.at 9 rfl) (by decide) (fun q => ?_) (fun q => ?_)
    · have h := ite_t h q
      refine u_al_n (x := a0) E (Mo_readsPiece_dc.at 15 rfl) hl rfl ?_
      obtain ⟨M6, eM6, h⟩ := bd1_e h
      refine u_cVU (As := []) (rest := []) E S3 zcw_yX12_bad zw_7_179 zq_4_4 zw_7_177 zck_12.1 rfl g1 (Mo_bad_c l G fu top L M a0 ha0 eM6) (zrm_ok (by decide) (by decide)) ⟨Nat.le_refl 0, Nat.le_refl 0⟩ rfl (Nat.zero_le 8) hl.size rfl (Mo_readsPiece_dc.at 16 rfl) (fun H locs _ S7 => ?_)
      cases h
      exact r_vret E S7 True.intro (Mo_readsPiece_dc.at 17 rfl)
    · have h := ite_f h q
      refine u_al_n (x := a0) E (Mo_readsPiece_dc.at 10 rfl) hl rfl ?_
      refine u_il_n (x := r2) E (Mo_readsPiece_dc.at 11 rfl) hl rfl ?_
      obtain ⟨r8, er8, h⟩ := bd1_e h
      refine u_cVI (As := [.int (zO r2)]) (rest := []) E S3 zcw_yX12_readLife zw_7_175 zq_4_3 zw_7_173 zck_12.1 rfl g1 (Mo_readLife_c l G fu top L M a0 r2 ha0 hr2 er8) (zrm_ok (by decide) (by decide)) ⟨Nat.le_refl 0, Nat.le_refl 0⟩ rfl (Nat.zero_le 8) hl.size rfl (Mo_readsPiece_dc.at 12 rfl) (fun H locs hr8 S9 => ?_)
      refine r_iconst E (Mo_readsPiece_dc.at 13 rfl) ?_
      refine r_icmp_eq (tgt := 33) E hr8 (show InR (-1) by decide) (Mo_readsPiece_dc.at 14 rfl) (by decide) (fun q => ?_) (fun q => ?_)
      · have h := ite_t h q
        refine u_al_n (x := a0) E (Mo_readsPiece_dc.at 18 rfl) hl rfl ?_
        obtain ⟨M10, eM10, h⟩ := bd1_e h
        refine u_cVU (As := []) (rest := []) E S9 zcw_yX12_next zw_7_151 zq_3_15 zw_7_149 zck_12.1 rfl g1 (Mo_next_c l G fu top L M a0 ha0 eM10) (zrm_ok (by decide) (by decide)) ⟨Nat.le_refl 0, Nat.le_refl 0⟩ rfl (Nat.zero_le 8) hl.size rfl (Mo_readsPiece_dc.at 19 rfl) (fun H locs _ S11 => ?_)
        refine u_al_n (x := a0) E (Mo_readsPiece_dc.at 20 rfl) hl rfl ?_
        refine r_bipush E (Mo_readsPiece_dc.at 21 rfl) rfl ?_
        obtain ⟨M13, r12, er12, h⟩ := bd2_e h
        refine u_cVI (As := [.int (zO 99)]) (rest := []) E S11 zcw_yX12_takesNumber zw_7_183 zq_4_5 zw_7_181 zck_12.1 rfl g1 (Mo_takesNumber_c l G fu top L M10 a0 99 ha0 (show InR 99 by decide) er12) (zrm_ok (by decide) (by decide)) ⟨Nat.le_refl 0, Nat.le_refl 0⟩ rfl (Nat.zero_le 8) hl.size rfl (Mo_readsPiece_dc.at 22 rfl) (fun H locs hr12 S14 => ?_)
        refine u_ist_n (y := r12) (vs' := [some (zR G.2.2.1 a0), some (.int (zO r2)), some (.int (zO r12)), none]) E rfl (Mo_readsPiece_dc.at 23 rfl) hl (by decide) rfl (fun ls hl => ?_)
        refine r_iconst E (Mo_readsPiece_dc.at 24 rfl) ?_
        refine u_ist_n (y := (-1)) (vs' := [some (zR G.2.2.1 a0), some (.int (zO r2)), some (.int (zO r12)), some (.int (zO (-1)))]) E rfl (Mo_readsPiece_dc.at 25 rfl) hl (by decide) rfl (fun ls hl => ?_)
        refine u_al_n (x := a0) E (Mo_readsPiece_dc.at 26 rfl) hl rfl ?_
        refine r_ldcS (j := 16) E (Mo_readsPiece_dc.at 27 rfl) rfl ?_
        obtain ⟨M16, r15, er15, h⟩ := bd2_e h
        refine u_cVI (As := [.ref (G.2.2.2.1 16)]) (rest := []) E S14 zcw_yX12_takesWord zw_7_188 zq_4_6 zw_7_186 zck_12.1 rfl g1 (Mo_takesWord_c l G fu top L M13 a0 16 ha0 er15) (zrm_ok (by decide) (by decide)) ⟨Nat.le_refl 0, Nat.le_refl 0⟩ rfl (Nat.zero_le 8) hl.size rfl (Mo_readsPiece_dc.at 28 rfl) (fun H locs hr15 S17 => ?_)
        refine r_if_eq (tgt := 105) E (inR_01 hr15) (Mo_readsPiece_dc.at 29 rfl) (by decide) (fun q => ?_) (fun q => ?_)
        · have h := ite_t h q
          exact Mo_readsPiece_b105_w (x0 := a0) (x1 := r2) (x2 := r12) (x3 := (-1))  E ha0 hr2 hr12 (show InR (-1) by decide) S17 (hl.sub (And.intro rfl (And.intro rfl (And.intro rfl (And.intro rfl True.intro))))) h
        · have h := ite_f h q
          refine u_al_n (x := a0) E (Mo_readsPiece_dc.at 30 rfl) hl rfl ?_
          obtain ⟨r33, er33, h⟩ := bd1_e h
          refine u_cVI (As := []) (rest := []) E S17 zcw_yX12_letter zw_7_171 zq_4_2 zw_7_169 zck_12.1 rfl g1 (Mo_letter_c l G fu top L M16 a0 ha0 er33) (zrm_ok (by decide) (by decide)) ⟨Nat.le_refl 0, Nat.le_refl 0⟩ rfl (Nat.zero_le 8) hl.size rfl (Mo_readsPiece_dc.at 31 rfl) (fun H locs hr33 S34 => ?_)
          refine r_iconst E (Mo_readsPiece_dc.at 32 rfl) ?_
          refine r_icmp_ne (tgt := 67) E hr33 (show InR (-1) by decide) (Mo_readsPiece_dc.at 33 rfl) (by decide) (fun q => ?_) (fun q => ?_)
          · have h := ite_t h q
            refine r_iconst E (Mo_readsPiece_dc.at 34 rfl) ?_
            refine r_goto (tgt := 75) E (Mo_readsPiece_dc.at 35 rfl) (by decide) ?_
            exact Mo_readsPiece_b75_w (x0 := a0) (x1 := r2) (x2 := r12) (y0 := (-1)) E ha0 hr2 hr12 (show InR (-1) by decide) S34 (hl.sub (And.intro rfl (And.intro rfl (And.intro rfl True.intro)))) h
          · have h := ite_f h q
            refine u_al_n (x := a0) E (Mo_readsPiece_dc.at 36 rfl) hl rfl ?_
            refine u_al_n (x := a0) E (Mo_readsPiece_dc.at 37 rfl) hl rfl ?_
            obtain ⟨r45, er45, h⟩ := bd1_e h
            refine u_cVI (As := []) (rest := [zR G.2.2.1 a0]) E S34 zcw_yX12_letter zw_7_171 zq_4_2 zw_7_169 zck_12.1 rfl g1 (Mo_letter_c l G fu top L M16 a0 ha0 er45) (zrm_ok (by decide) (by decide)) ⟨Nat.le_refl 0, Nat.le_refl 0⟩ rfl (by simp [zR_cat, zcat_I, zcat_J, zcat_S]) hl.size rfl (Mo_readsPiece_dc.at 38 rfl) (fun H locs hr45 S46 => ?_)
            obtain ⟨r47, er47, h⟩ := bd1_e h
            refine u_cVI (As := [.int (zO r45)]) (rest := []) E S46 zcw_yX12_readLife zw_7_175 zq_4_3 zw_7_173 zck_12.1 rfl g1 (Mo_readLife_c l G fu top L M16 a0 r45 ha0 hr45 er47) (zrm_ok (by decide) (by decide)) ⟨Nat.le_refl 0, Nat.le_refl 0⟩ rfl (Nat.zero_le 8) hl.size rfl (Mo_readsPiece_dc.at 39 rfl) (fun H locs hr47 S48 => ?_)
            exact Mo_readsPiece_b75_w (x0 := a0) (x1 := r2) (x2 := r12) (y0 := r47) E ha0 hr2 hr12 hr47 S48 (hl.sub (And.intro rfl (And.intro rfl (And.intro rfl True.intro)))) h
      · have h := ite_f h q
        refine u_al_n (x := a0) E (Mo_readsPiece_dc.at 15 rfl) hl rfl ?_
        obtain ⟨M49, eM49, h⟩ := bd1_e h
        refine u_cVU (As := []) (rest := []) E S9 zcw_yX12_bad zw_7_179 zq_4_4 zw_7_177 zck_12.1 rfl g1 (Mo_bad_c l G fu top L M a0 ha0 eM49) (zrm_ok (by decide) (by decide)) ⟨Nat.le_refl 0, Nat.le_refl 0⟩ rfl (Nat.zero_le 8) hl.size rfl (Mo_readsPiece_dc.at 16 rfl) (fun H locs _ S50 => ?_)
        cases h
        exact r_vret E S50 True.intro (Mo_readsPiece_dc.at 17 rfl)
theorem Mo_readsPiece_c (l : Launch) (G : zG) (fu : Nat) (top : Int) (L : zL) (M : zM) (a0 : Int) {res : zM} (ha0 : InR a0) (h : Mo_readsPiece fu L M a0 = some res) : Met l yX12_readsPiece (Cond.code yX12_readsPiece cX12_readsPiece 4 none :: zTB) (zrm 8 0 0) (va_Pc [zR G.2.2.1 a0] (zPre G top L M)) (zQ G top L res none True) 0 0 (zA G) :=
  z_met (by decide +kernel) (by simp [zR_cat, zcat_I, zcat_S]) (Nat.le_of_ble_eq_true rfl) fun p e s m below meth c ls E hn S hl => Mo_readsPiece_w E ha0 S (hl.sub (And.intro rfl True.intro)) h
end
theorem Mo_isSign_dc : zDL cX12_isSign [(0, .aload_n 0, 1, 1), (1, .getfield 110, 3, 4), (4, .iconst (-1), 1, 5), (5, .if_icmp .ne 28, 3, 8), (8, .aload_n 0, 1, 9), (9, .getfield 97, 3, 12), (12, .iconst 3, 1, 13), (13, .if_icmp .ne 20, 3, 16), (16, .aload_n 0, 1, 17), (17, .getfield 9, 3, 20), (20, .aload_n 0, 1, 21), (21, .getfield 87, 3, 24), (24, .iaload, 1, 25), (25, .iload_n 1, 1, 26), (26, .if_icmp .ne 7, 3, 29), (29, .iconst 1, 1, 30), (30, .goto 4, 3, 33), (33, .iconst 0, 1, 34), (34, .ireturn, 1, 35)] := zDL.of (by decide +kernel)
section
variable {p : Program} {l : Launch} {e : Env} {s : State} {m : MethodId} {args : Array Value} {below : List Frame} {meth : Method} {c : Code} {G : zG} {top : Int} {L : zL} {fu : Nat}
theorem Mo_isSign_w (E : zEv p m c cX12_isSign 2 s args RX12 meth (some .boolean) G) {res : Int} {M : zM} {a0 : Int} {a1 : Int} {H : Heap} {locs : List Loc} {ls : Array Slot} (ha0 : InR a0) (ha1 : InR a1) (S : zS G top L M s H locs) (hl : zLV ls 2 [some (zR G.2.2.1 a0), some (.int (zO a1))]) (h : Mo_isSign fu L M a0 a1 = some res) : W p l e (zrm 1 0 0) s m args below meth c H locs 0 0 (MQ below (zQ G top L M (some (.int (zO res))) (0 ≤ res ∧ res ≤ 1)) args s 0 0 (zA G)) (F0 m 0 ls []) := by
  unfold Mo_isSign at h
  refine u_al_n (x := a0) E (Mo_isSign_dc.at 0 rfl) hl rfl ?_
  obtain ⟨g1, h⟩ := ite_e h
  refine u_gI E zf_12_5 S g1 zw_6_212 (Mo_isSign_dc.at 1 rfl) ?_
  refine r_iconst E (Mo_isSign_dc.at 2 rfl) ?_
  refine r_icmp_ne (tgt := 33) E (S.1.inR _ _) (show InR (-1) by decide) (Mo_isSign_dc.at 3 rfl) (by decide) (fun q => ?_) (fun q => ?_)
  · have h := ite_t h q
    refine u_al_n (x := a0) E (Mo_isSign_dc.at 4 rfl) hl rfl ?_
    refine u_gI E zf_12_6 S g1 zw_6_213 (Mo_isSign_dc.at 5 rfl) ?_
    refine r_iconst E (Mo_isSign_dc.at 6 rfl) ?_
    refine r_icmp_ne (tgt := 33) E (S.1.inR _ _) (show InR 3 by decide) (Mo_isSign_dc.at 7 rfl) (by decide) (fun q => ?_) (fun q => ?_)
    · have h := ite_t h q
      refine u_al_n (x := a0) E (Mo_isSign_dc.at 8 rfl) hl rfl ?_
      refine u_gR E zf_12_1 S g1 zw_6_208 (Mo_isSign_dc.at 9 rfl) ?_
      refine u_al_n (x := a0) E (Mo_isSign_dc.at 10 rfl) hl rfl ?_
      refine u_gI E zf_12_4 S g1 zw_6_211 (Mo_isSign_dc.at 11 rfl) ?_
      obtain ⟨g2, h⟩ := ite_e h
      obtain ⟨g3, h⟩ := ite_e h
      refine r_iald E S g2 g3 (Mo_isSign_dc.at 12 rfl) ?_
      refine u_il_n (x := a1) E (Mo_isSign_dc.at 13 rfl) hl rfl ?_
      refine r_icmp_ne (tgt := 33) E (S.1.inR _ _) ha1 (Mo_isSign_dc.at 14 rfl) (by decide) (fun q => ?_) (fun q => ?_)
      · have h := ite_t h q
        refine r_iconst E (Mo_isSign_dc.at 15 rfl) ?_
        refine r_goto (tgt := 34) E (Mo_isSign_dc.at 16 rfl) (by decide) ?_
        cases h
        exact r_zret E S z01_1 z01_1 (Mo_isSign_dc.at 18 rfl)
      · have h := ite_f h q
        refine r_iconst E (Mo_isSign_dc.at 17 rfl) ?_
        cases h
        exact r_zret E S z01_0 z01_0 (Mo_isSign_dc.at 18 rfl)
    · have h := ite_f h q
      refine r_iconst E (Mo_isSign_dc.at 17 rfl) ?_
      cases h
      exact r_zret E S z01_0 z01_0 (Mo_isSign_dc.at 18 rfl)
  · have h := ite_f h q
    refine r_iconst E (Mo_isSign_dc.at 17 rfl) ?_
    cases h
    exact r_zret E S z01_0 z01_0 (Mo_isSign_dc.at 18 rfl)
theorem Mo_isSign_c (l : Launch) (G : zG) (fu : Nat) (top : Int) (L : zL) (M : zM) (a0 : Int) (a1 : Int) {res : Int} (ha0 : InR a0) (ha1 : InR a1) (h : Mo_isSign fu L M a0 a1 = some res) : Met l yX12_isSign (Cond.code yX12_isSign cX12_isSign 2 (some .boolean) :: zTB) (zrm 1 0 0) (va_Pc [zR G.2.2.1 a0, .int (zO a1)] (zPre G top L M)) (zQ G top L M (some (.int (zO res))) (0 ≤ res ∧ res ≤ 1)) 0 0 (zA G) :=
  z_met (by decide +kernel) (by simp [zR_cat, zcat_I, zcat_S]) (Nat.le_of_ble_eq_true rfl) fun p e s m below meth c ls E hn S hl => Mo_isSign_w E ha0 ha1 S (hl.sub (And.intro rfl (And.intro rfl True.intro))) h
end
theorem Mo_takesSign_dc : zDL cX12_takesSign [(0, .aload_n 0, 1, 1), (1, .iload_n 1, 1, 2), (2, .invokevirtual 136, 3, 5), (5, .istore_n 2, 1, 6), (6, .iload_n 2, 1, 7), (7, .ifCond .eq 7, 3, 10), (10, .aload_n 0, 1, 11), (11, .invokevirtual 113, 3, 14), (14, .iload_n 2, 1, 15), (15, .ireturn, 1, 16)] := zDL.of (by decide +kernel)
section
variable {p : Program} {l : Launch} {e : Env} {s : State} {m : MethodId} {args : Array Value} {below : List Frame} {meth : Method} {c : Code} {G : zG} {top : Int} {L : zL} {fu : Nat}
theorem Mo_takesSign_w (E : zEv p m c cX12_takesSign 3 s args RX12 meth (some .boolean) G) {res : (zM × Int)} {M : zM} {a0 : Int} {a1 : Int} {H : Heap} {locs : List Loc} {ls : Array Slot} (ha0 : InR a0) (ha1 : InR a1) (S : zS G top L M s H locs) (hl : zLV ls 3 [some (zR G.2.2.1 a0), some (.int (zO a1)), none]) (h : Mo_takesSign fu L M a0 a1 = some res) : W p l e (zrm 3 0 0) s m args below meth c H locs 0 0 (MQ below (zQ G top L res.1 (some (.int (zO res.2))) (0 ≤ res.2 ∧ res.2 ≤ 1)) args s 0 0 (zA G)) (F0 m 0 ls []) := by
  unfold Mo_takesSign at h
  refine u_al_n (x := a0) E (Mo_takesSign_dc.at 0 rfl) hl rfl ?_
  refine u_il_n (x := a1) E (Mo_takesSign_dc.at 1 rfl) hl rfl ?_
  obtain ⟨g1, h⟩ := ite_e h
  obtain ⟨r2, er2, h⟩ := bd1_e h
  refine u_cVI (As := [.int (zO a1)]) (rest := []) E S zcw_yX12_isSign zw_7_202 zq_4_9 zw_7_200 zck_12.1 rfl g1 (Mo_isSign_c l G fu top L M a0 a1 ha0 ha1 er2) (zrm_ok (by decide) (by decide)) ⟨Nat.le_refl 0, Nat.le_refl 0⟩ rfl (Nat.zero_le 8) hl.size rfl (Mo_takesSign_dc.at 2 rfl) (fun H locs hr2 S3 => ?_)
  refine u_ist_n (y := r2) (vs' := [some (zR G.2.2.1 a0), some (.int (zO a1)), some (.int (zO r2))]) E rfl (Mo_takesSign_dc.at 3 rfl) hl (by decide) rfl (fun ls hl => ?_)
  refine u_il_n (x := r2) E (Mo_takesSign_dc.at 4 rfl) hl rfl ?_
  refine r_if_eq (tgt := 14) E (inR_01 hr2) (Mo_takesSign_dc.at 5 rfl) (by decide) (fun q => ?_) (fun q => ?_)
  · have h := ite_t h q
    refine u_il_n (x := r2) E (Mo_takesSign_dc.at 8 rfl) hl rfl ?_
    cases h
    exact r_zret E S3 hr2 hr2 (Mo_takesSign_dc.at 9 rfl)
  · have h := ite_f h q
    refine u_al_n (x := a0) E (Mo_takesSign_dc.at 6 rfl) hl rfl ?_
    obtain ⟨M4, eM4, h⟩ := bd1_e h
    refine u_cVU (As := []) (rest := []) E S3 zcw_yX12_next zw_7_151 zq_3_15 zw_7_149 zck_12.1 rfl g1 (Mo_next_c l G fu top L M a0 ha0 eM4) (zrm_ok (by decide) (by decide)) ⟨Nat.le_refl 0, Nat.le_refl 0⟩ rfl (Nat.zero_le 8) hl.size rfl (Mo_takesSign_dc.at 7 rfl) (fun H locs _ S5 => ?_)
    refine u_il_n (x := r2) E (Mo_takesSign_dc.at 8 rfl) hl rfl ?_
    cases h
    exact r_zret E S5 hr2 hr2 (Mo_takesSign_dc.at 9 rfl)
theorem Mo_takesSign_c (l : Launch) (G : zG) (fu : Nat) (top : Int) (L : zL) (M : zM) (a0 : Int) (a1 : Int) {res : (zM × Int)} (ha0 : InR a0) (ha1 : InR a1) (h : Mo_takesSign fu L M a0 a1 = some res) : Met l yX12_takesSign (Cond.code yX12_takesSign cX12_takesSign 3 (some .boolean) :: zTB) (zrm 3 0 0) (va_Pc [zR G.2.2.1 a0, .int (zO a1)] (zPre G top L M)) (zQ G top L res.1 (some (.int (zO res.2))) (0 ≤ res.2 ∧ res.2 ≤ 1)) 0 0 (zA G) :=
  z_met (by decide +kernel) (by simp [zR_cat, zcat_I, zcat_S]) (Nat.le_of_ble_eq_true rfl) fun p e s m below meth c ls E hn S hl => Mo_takesSign_w E ha0 ha1 S (hl.sub (And.intro rfl (And.intro rfl True.intro))) h
end
theorem Mo_mustEnd_dc : zDL cX12_mustEnd [(0, .aload_n 0, 1, 1), (1, .getfield 110, 3, 4), (4, .iconst (-1), 1, 5), (5, .if_icmp .ne 14, 3, 8), (8, .aload_n 0, 1, 9), (9, .getfield 97, 3, 12), (12, .ifCond .eq 7, 3, 15), (15, .aload_n 0, 1, 16), (16, .invokevirtual 133, 3, 19), (19, .return_, 1, 20)] := zDL.of (by decide +kernel)
section
variable {p : Program} {l : Launch} {e : Env} {s : State} {m : MethodId} {args : Array Value} {below : List Frame} {meth : Method} {c : Code} {G : zG} {top : Int} {L : zL} {fu : Nat}
theorem Mo_mustEnd_w (E : zEv p m c cX12_mustEnd 1 s args RX12 meth none G) {res : zM} {M : zM} {a0 : Int} {H : Heap} {locs : List Loc} {ls : Array Slot} (ha0 : InR a0) (S : zS G top L M s H locs) (hl : zLV ls 1 [some (zR G.2.2.1 a0)]) (h : Mo_mustEnd fu L M a0 = some res) : W p l e (zrm 2 0 0) s m args below meth c H locs 0 0 (MQ below (zQ G top L res none True) args s 0 0 (zA G)) (F0 m 0 ls []) := by
  unfold Mo_mustEnd at h
  refine u_al_n (x := a0) E (Mo_mustEnd_dc.at 0 rfl) hl rfl ?_
  obtain ⟨g1, h⟩ := ite_e h
  refine u_gI E zf_12_5 S g1 zw_6_212 (Mo_mustEnd_dc.at 1 rfl) ?_
  refine r_iconst E (Mo_mustEnd_dc.at 2 rfl) ?_
  refine r_icmp_ne (tgt := 19) E (S.1.inR _ _) (show InR (-1) by decide) (Mo_mustEnd_dc.at 3 rfl) (by decide) (fun q => ?_) (fun q => ?_)
  · have h := ite_t h q
    refine u_al_n (x := a0) E (Mo_mustEnd_dc.at 4 rfl) hl rfl ?_
    refine u_gI E zf_12_6 S g1 zw_6_213 (Mo_mustEnd_dc.at 5 rfl) ?_
    refine r_if_eq (tgt := 19) E (S.1.inR _ _) (Mo_mustEnd_dc.at 6 rfl) (by decide) (fun q => ?_) (fun q => ?_)
    · have h := ite_t h q
      cases h
      exact r_vret E S True.intro (Mo_mustEnd_dc.at 9 rfl)
    · have h := ite_f h q
      refine u_al_n (x := a0) E (Mo_mustEnd_dc.at 7 rfl) hl rfl ?_
      obtain ⟨M2, eM2, h⟩ := bd1_e h
      refine u_cVU (As := []) (rest := []) E S zcw_yX12_bad zw_7_179 zq_4_4 zw_7_177 zck_12.1 rfl g1 (Mo_bad_c l G fu top L M a0 ha0 eM2) (zrm_ok (by decide) (by decide)) ⟨Nat.le_refl 0, Nat.le_refl 0⟩ rfl (Nat.zero_le 8) hl.size rfl (Mo_mustEnd_dc.at 8 rfl) (fun H locs _ S3 => ?_)
      cases h
      exact r_vret E S3 True.intro (Mo_mustEnd_dc.at 9 rfl)
  · have h := ite_f h q
    cases h
    exact r_vret E S True.intro (Mo_mustEnd_dc.at 9 rfl)
theorem Mo_mustEnd_c (l : Launch) (G : zG) (fu : Nat) (top : Int) (L : zL) (M : zM) (a0 : Int) {res : zM} (ha0 : InR a0) (h : Mo_mustEnd fu L M a0 = some res) : Met l yX12_mustEnd (Cond.code yX12_mustEnd cX12_mustEnd 1 none :: zTB) (zrm 2 0 0) (va_Pc [zR G.2.2.1 a0] (zPre G top L M)) (zQ G top L res none True) 0 0 (zA G) :=
  z_met (by decide +kernel) (by simp [zR_cat, zcat_I, zcat_S]) (Nat.le_of_ble_eq_true rfl) fun p e s m below meth c ls E hn S hl => Mo_mustEnd_w E ha0 S (hl.sub (And.intro rfl True.intro)) h
end
theorem Mo_readsFamily_dc : zDL cX12_readsFamily [(0, .aload_n 0, 1, 1), (1, .invokevirtual 153, 3, 4), (4, .aload_n 0, 1, 5), (5, .iconst 0, 1, 6), (6, .putfield 139, 3, 9), (9, .aload_n 0, 1, 10), (10, .invokevirtual 156, 3, 13), (13, .aload_n 0, 1, 14), (14, .bipush 59, 2, 16), (16, .invokevirtual 159, 3, 19), (19, .ifCond .eq 10, 3, 22), (22, .aload_n 0, 1, 23), (23, .invokevirtual 156, 3, 26), (26, .goto (-13), 3, 29), (29, .aload_n 0, 1, 30), (30, .invokevirtual 162, 3, 33), (33, .aload_n 0, 1, 34), (34, .getfield 110, 3, 37), (37, .ireturn, 1, 38)] := zDL.of (by decide +kernel)
section
variable {p : Program} {l : Launch} {e : Env} {s : State} {m : MethodId} {args : Array Value} {below : List Frame} {meth : Method} {c : Code} {G : zG} {top : Int} {L : zL} {fu : Nat}
theorem Mo_readsFamily_s13_w (E : zEv p m c cX12_readsFamily 1 s args RX12 meth (some .int) G) {res : (zM × Int)} {k13 : zM → Int → Option (zM × Int)} (hk13 : ∀ (M : zM) (x0 : Int), InR x0 → ∀ (H : Heap) (locs : List Loc) (ls : Array Slot), zS G top L M s H locs → zLV ls 1 [some (zR G.2.2.1 x0)] → k13 M x0 = some res → W p l e (zrm 9 0 0) s m args below meth c H locs 0 0 (MQ below (zQ G top L res.1 (some (.int (zO res.2))) (InR res.2)) args s 0 0 (zA G)) (F0 m 13 ls [])) {M : zM} {x0 : Int} {H : Heap} {locs : List Loc} {ls : Array Slot} (hx0 : InR x0) (S : zS G top L M s H locs) (hl : zLV ls 1 [some (zR G.2.2.1 x0)]) (h : Mo_readsFamily_s13 fu k13 L M x0 = some res) : W p l e (zrm 9 0 0) s m args below meth c H locs 0 0 (MQ below (zQ G top L res.1 (some (.int (zO res.2))) (InR res.2)) args s 0 0 (zA G)) (F0 m 13 ls []) := by
  unfold Mo_readsFamily_s13 at h
  refine u_al_n (x := x0) E (Mo_readsFamily_dc.at 7 rfl) hl rfl ?_
  refine r_bipush E (Mo_readsFamily_dc.at 8 rfl) rfl ?_
  obtain ⟨g8, h⟩ := ite_e h
  obtain ⟨M10, r9, er9, h⟩ := bd2_e h
  refine u_cVI (As := [.int (zO 59)]) (rest := []) E S zcw_yX12_takesSign zw_7_198 zq_4_8 zw_7_196 zck_12.1 rfl g8 (Mo_takesSign_c l G fu top L M x0 59 hx0 (show InR 59 by decide) er9) (zrm_ok (by decide) (by decide)) ⟨Nat.le_refl 0, Nat.le_refl 0⟩ rfl (Nat.zero_le 8) hl.size rfl (Mo_readsFamily_dc.at 9 rfl) (fun H locs hr9 S11 => ?_)
  refine r_if_eq (tgt := 29) E (inR_01 hr9) (Mo_readsFamily_dc.at 10 rfl) (by decide) (fun q => ?_) (fun q => ?_)
  · have h := ite_t h q
    refine u_al_n (x := x0) E (Mo_readsFamily_dc.at 14 rfl) hl rfl ?_
    obtain ⟨M12, eM12, h⟩ := bd1_e h
    refine u_cVU (As := []) (rest := []) E S11 zcw_yX12_mustEnd zw_7_206 zq_4_10 zw_7_204 zck_12.1 rfl g8 (Mo_mustEnd_c l G fu top L M10 x0 hx0 eM12) (zrm_ok (by decide) (by decide)) ⟨Nat.le_refl 0, Nat.le_refl 0⟩ rfl (Nat.zero_le 8) hl.size rfl (Mo_readsFamily_dc.at 15 rfl) (fun H locs _ S13 => ?_)
    refine u_al_n (x := x0) E (Mo_readsFamily_dc.at 16 rfl) hl rfl ?_
    refine u_gI E zf_12_5 S13 g8 zw_6_212 (Mo_readsFamily_dc.at 17 rfl) ?_
    cases h
    exact r_iret E S13 (S13.1.inR _ _) (Mo_readsFamily_dc.at 18 rfl)
  · have h := ite_f h q
    refine u_al_n (x := x0) E (Mo_readsFamily_dc.at 11 rfl) hl rfl ?_
    obtain ⟨M14, eM14, h⟩ := bd1_e h
    refine u_cVU (As := []) (rest := []) E S11 zcw_yX12_readsPiece zw_7_167 zq_4_1 zw_7_165 zck_12.1 rfl g8 (Mo_readsPiece_c l G fu top L M10 x0 hx0 eM14) (zrm_ok (by decide) (by decide)) ⟨Nat.le_refl 0, Nat.le_refl 0⟩ rfl (Nat.zero_le 8) hl.size rfl (Mo_readsFamily_dc.at 12 rfl) (fun H locs _ S15 => ?_)
    refine r_goto (tgt := 13) E (Mo_readsFamily_dc.at 13 rfl) (by decide) ?_
    exact hk13 _ x0 hx0 _ _ _ S15 (hl.sub (And.intro rfl True.intro)) h
theorem Mo_readsFamily_l13_w (E : zEv p m c cX12_readsFamily 1 s args RX12 meth (some .int) G) {res : (zM × Int)} : ∀ (n : Nat) (M : zM) (x0 : Int), InR x0 → ∀ (H : Heap) (locs : List Loc) (ls : Array Slot), zS G top L M s H locs → zLV ls 1 [some (zR G.2.2.1 x0)] → Mo_readsFamily_l13 fu L n M x0 = some res → W p l e (zrm 9 0 0) s m args below meth c H locs 0 0 (MQ below (zQ G top L res.1 (some (.int (zO res.2))) (InR res.2)) args s 0 0 (zA G)) (F0 m 13 ls [])
  | 0, _, _ => fun _ _ _ _ _ _ h => (by cases h)
  | n + 1, M, x0 => fun hx0 H locs ls S hl h => Mo_readsFamily_s13_w E (fun M x0 hx0 H locs ls S hl h => Mo_readsFamily_l13_w E n M x0 hx0 H locs ls S hl h) hx0 S hl h
theorem Mo_readsFamily_w (E : zEv p m c cX12_readsFamily 1 s args RX12 meth (some .int) G) {res : (zM × Int)} {M : zM} {a0 : Int} {H : Heap} {locs : List Loc} {ls : Array Slot} (ha0 : InR a0) (S : zS G top L M s H locs) (hl : zLV ls 1 [some (zR G.2.2.1 a0)]) (h : Mo_readsFamily fu L M a0 = some res) : W p l e (zrm 9 0 0) s m args below meth c H locs 0 0 (MQ below (zQ G top L res.1 (some (.int (zO res.2))) (InR res.2)) args s 0 0 (zA G)) (F0 m 0 ls []) := by
  unfold Mo_readsFamily at h
  refine u_al_n (x := a0) E (Mo_readsFamily_dc.at 0 rfl) hl rfl ?_
  obtain ⟨g1, h⟩ := ite_e h
  obtain ⟨M2, eM2, h⟩ := bd1_e h
  refine u_cVU (As := []) (rest := []) E S zcw_yX12_begins zw_7_147 zq_3_14 zw_7_145 zck_12.1 rfl g1 (Mo_begins_c l G fu top L M a0 ha0 eM2) (zrm_ok (by decide) (by decide)) ⟨Nat.le_refl 0, Nat.le_refl 0⟩ rfl (Nat.zero_le 8) hl.size rfl (Mo_readsFamily_dc.at 1 rfl) (fun H locs _ S3 => ?_)
  refine u_al_n (x := a0) E (Mo_readsFamily_dc.at 2 rfl) hl rfl ?_
  refine r_iconst E (Mo_readsFamily_dc.at 3 rfl) ?_
  obtain ⟨M4, eM4, h⟩ := lt1_e h
  refine u_pI E eM4 zf_12_11 S3 g1 (show InR 0 by decide) (Or.inl rfl) rfl zw_6_218 (Mo_readsFamily_dc.at 4 rfl) (fun H locs S5 => ?_)
  refine u_al_n (x := a0) E (Mo_readsFamily_dc.at 5 rfl) hl rfl ?_
  obtain ⟨M6, eM6, h⟩ := bd1_e h
  refine u_cVU (As := []) (rest := []) E S5 zcw_yX12_readsPiece zw_7_167 zq_4_1 zw_7_165 zck_12.1 rfl g1 (Mo_readsPiece_c l G fu top L M4 a0 ha0 eM6) (zrm_ok (by decide) (by decide)) ⟨Nat.le_refl 0, Nat.le_refl 0⟩ rfl (Nat.zero_le 8) hl.size rfl (Mo_readsFamily_dc.at 6 rfl) (fun H locs _ S7 => ?_)
  exact Mo_readsFamily_l13_w E fu _ a0 ha0 _ _ _ S7 (hl.sub (And.intro rfl True.intro)) h
theorem Mo_readsFamily_c (l : Launch) (G : zG) (fu : Nat) (top : Int) (L : zL) (M : zM) (a0 : Int) {res : (zM × Int)} (ha0 : InR a0) (h : Mo_readsFamily fu L M a0 = some res) : Met l yX12_readsFamily (Cond.code yX12_readsFamily cX12_readsFamily 1 (some .int) :: zTB) (zrm 9 0 0) (va_Pc [zR G.2.2.1 a0] (zPre G top L M)) (zQ G top L res.1 (some (.int (zO res.2))) (InR res.2)) 0 0 (zA G) :=
  z_met (by decide +kernel) (by simp [zR_cat, zcat_I, zcat_S]) (Nat.le_of_ble_eq_true rfl) fun p e s m below meth c ls E hn S hl => Mo_readsFamily_w E ha0 S (hl.sub (And.intro rfl True.intro)) h
end
theorem Mo_mustWord_dc : zDL cX12_mustWord [(0, .aload_n 0, 1, 1), (1, .aload_n 1, 1, 2), (2, .invokevirtual 130, 3, 5), (5, .ifCond .ne 7, 3, 8), (8, .aload_n 0, 1, 9), (9, .invokevirtual 133, 3, 12), (12, .return_, 1, 13)] := zDL.of (by decide +kernel)
section
variable {p : Program} {l : Launch} {e : Env} {s : State} {m : MethodId} {args : Array Value} {below : List Frame} {meth : Method} {c : Code} {G : zG} {top : Int} {L : zL} {fu : Nat}
theorem Mo_mustWord_w (E : zEv p m c cX12_mustWord 2 s args RX12 meth none G) {res : zM} {M : zM} {a0 : Int} {a1 : Nat} {H : Heap} {locs : List Loc} {ls : Array Slot} (ha0 : InR a0) (S : zS G top L M s H locs) (hl : zLV ls 2 [some (zR G.2.2.1 a0), some (.ref (G.2.2.2.1 a1))]) (h : Mo_mustWord fu L M a0 a1 = some res) : W p l e (zrm 8 0 0) s m args below meth c H locs 0 0 (MQ below (zQ G top L res none True) args s 0 0 (zA G)) (F0 m 0 ls []) := by
  unfold Mo_mustWord at h
  refine u_al_n (x := a0) E (Mo_mustWord_dc.at 0 rfl) hl rfl ?_
  refine r_aloadS_n E (Mo_mustWord_dc.at 1 rfl) hl rfl ?_
  obtain ⟨g1, h⟩ := ite_e h
  obtain ⟨M3, r2, er2, h⟩ := bd2_e h
  refine u_cVI (As := [.ref (G.2.2.2.1 a1)]) (rest := []) E S zcw_yX12_takesWord zw_7_188 zq_4_6 zw_7_186 zck_12.1 rfl g1 (Mo_takesWord_c l G fu top L M a0 a1 ha0 er2) (zrm_ok (by decide) (by decide)) ⟨Nat.le_refl 0, Nat.le_refl 0⟩ rfl (Nat.zero_le 8) hl.size rfl (Mo_mustWord_dc.at 2 rfl) (fun H locs hr2 S4 => ?_)
  refine r_if_ne (tgt := 12) E (inR_01 hr2) (Mo_mustWord_dc.at 3 rfl) (by decide) (fun q => ?_) (fun q => ?_)
  · have h := ite_t h q
    refine u_al_n (x := a0) E (Mo_mustWord_dc.at 4 rfl) hl rfl ?_
    obtain ⟨M5, eM5, h⟩ := bd1_e h
    refine u_cVU (As := []) (rest := []) E S4 zcw_yX12_bad zw_7_179 zq_4_4 zw_7_177 zck_12.1 rfl g1 (Mo_bad_c l G fu top L M3 a0 ha0 eM5) (zrm_ok (by decide) (by decide)) ⟨Nat.le_refl 0, Nat.le_refl 0⟩ rfl (Nat.zero_le 8) hl.size rfl (Mo_mustWord_dc.at 5 rfl) (fun H locs _ S6 => ?_)
    cases h
    exact r_vret E S6 True.intro (Mo_mustWord_dc.at 6 rfl)
  · have h := ite_f h q
    cases h
    exact r_vret E S4 True.intro (Mo_mustWord_dc.at 6 rfl)
theorem Mo_mustWord_c (l : Launch) (G : zG) (fu : Nat) (top : Int) (L : zL) (M : zM) (a0 : Int) (a1 : Nat) {res : zM} (ha0 : InR a0) (h : Mo_mustWord fu L M a0 a1 = some res) : Met l yX12_mustWord (Cond.code yX12_mustWord cX12_mustWord 2 none :: zTB) (zrm 8 0 0) (va_Pc [zR G.2.2.1 a0, .ref (G.2.2.2.1 a1)] (zPre G top L M)) (zQ G top L res none True) 0 0 (zA G) :=
  z_met (by decide +kernel) (by simp [zR_cat, zcat_I, zcat_S]) (Nat.le_of_ble_eq_true rfl) fun p e s m below meth c ls E hn S hl => Mo_mustWord_w E ha0 S (hl.sub (And.intro rfl (And.intro rfl True.intro))) h
end
theorem Mo_lifeOf_dc : zDL cX12_lifeOf [(0, .iconst 0, 1, 1), (1, .istore_n 2, 1, 2), (2, .iload_n 2, 1, 3), (3, .aload_n 0, 1, 4), (4, .getfield 251, 3, 7), (7, .if_icmp .ge 21, 3, 10), (10, .aload_n 0, 1, 11), (11, .getfield 34, 3, 14), (14, .iload_n 2, 1, 15), (15, .iaload, 1, 16), (16, .iload_n 1, 1, 17), (17, .if_icmp .ne 5, 3, 20), (20, .iload_n 2, 1, 21), (21, .ireturn, 1, 22), (22, .iinc 2 1, 3, 25), (25, .goto (-23), 3, 28), (28, .iconst (-1), 1, 29), (29, .ireturn, 1, 30)] := zDL.of (by decide +kernel)
section
variable {p : Program} {l : Launch} {e : Env} {s : State} {m : MethodId} {args : Array Value} {below : List Frame} {meth : Method} {c : Code} {G : zG} {top : Int} {L : zL} {fu : Nat}
theorem Mo_lifeOf_s2_w (E : zEv p m c cX12_lifeOf 3 s args RX12 meth (some .int) G) {res : Int} {k2 : zM → Int → Int → Int → Option Int} (hk2 : ∀ (M : zM) (x0 : Int) (x1 : Int) (x2 : Int), InR x0 → InR x1 → InR x2 → ∀ (H : Heap) (locs : List Loc) (ls : Array Slot), zS G top L M s H locs → zLV ls 3 [some (zR G.2.2.1 x0), some (.int (zO x1)), some (.int (zO x2))] → k2 M x0 x1 x2 = some res → W p l e (zrm 1 0 0) s m args below meth c H locs 0 0 (MQ below (zQ G top L M (some (.int (zO res))) (InR res)) args s 0 0 (zA G)) (F0 m 2 ls [])) {M : zM} {x0 : Int} {x1 : Int} {x2 : Int} {H : Heap} {locs : List Loc} {ls : Array Slot} (hx0 : InR x0) (hx1 : InR x1) (hx2 : InR x2) (S : zS G top L M s H locs) (hl : zLV ls 3 [some (zR G.2.2.1 x0), some (.int (zO x1)), some (.int (zO x2))]) (h : Mo_lifeOf_s2 fu k2 L M x0 x1 x2 = some res) : W p l e (zrm 1 0 0) s m args below meth c H locs 0 0 (MQ below (zQ G top L M (some (.int (zO res))) (InR res)) args s 0 0 (zA G)) (F0 m 2 ls []) := by
  unfold Mo_lifeOf_s2 at h
  refine u_il_n (x := x2) E (Mo_lifeOf_dc.at 2 rfl) hl rfl ?_
  refine u_al_n (x := x0) E (Mo_lifeOf_dc.at 3 rfl) hl rfl ?_
  obtain ⟨g1, h⟩ := ite_e h
  refine u_gI E zf_12_20 S g1 zw_6_227 (Mo_lifeOf_dc.at 4 rfl) ?_
  refine r_icmp_ge (tgt := 28) E hx2 (S.1.inR _ _) (Mo_lifeOf_dc.at 5 rfl) (by decide) (fun q => ?_) (fun q => ?_)
  · have h := ite_t h q
    refine u_al_n (x := x0) E (Mo_lifeOf_dc.at 6 rfl) hl rfl ?_
    refine u_gR E zf_12_21 S g1 zw_6_228 (Mo_lifeOf_dc.at 7 rfl) ?_
    refine u_il_n (x := x2) E (Mo_lifeOf_dc.at 8 rfl) hl rfl ?_
    obtain ⟨g2, h⟩ := ite_e h
    obtain ⟨g3, h⟩ := ite_e h
    refine r_iald E S g2 g3 (Mo_lifeOf_dc.at 9 rfl) ?_
    refine u_il_n (x := x1) E (Mo_lifeOf_dc.at 10 rfl) hl rfl ?_
    refine r_icmp_ne (tgt := 22) E (S.1.inR _ _) hx1 (Mo_lifeOf_dc.at 11 rfl) (by decide) (fun q => ?_) (fun q => ?_)
    · have h := ite_t h q
      refine u_il_n (x := x2) E (Mo_lifeOf_dc.at 12 rfl) hl rfl ?_
      cases h
      exact r_iret E S hx2 (Mo_lifeOf_dc.at 13 rfl)
    · have h := ite_f h q
      obtain ⟨v4, ev4, h⟩ := lt1_e h
      have hv4 := inR_eq ev4 (inR_w32 _)
      refine u_iinc (y := v4) (vs' := [some (zR G.2.2.1 x0), some (.int (zO x1)), some (.int (zO v4))]) E ev4 (Mo_lifeOf_dc.at 14 rfl) hl rfl (by decide) rfl (fun ls hl => ?_)
      refine r_goto (tgt := 2) E (Mo_lifeOf_dc.at 15 rfl) (by decide) ?_
      exact hk2 _ x0 x1 v4 hx0 hx1 hv4 _ _ _ S (hl.sub (And.intro rfl (And.intro rfl (And.intro rfl True.intro)))) h
  · have h := ite_f h q
    refine r_iconst E (Mo_lifeOf_dc.at 16 rfl) ?_
    cases h
    exact r_iret E S (show InR (-1) by decide) (Mo_lifeOf_dc.at 17 rfl)
theorem Mo_lifeOf_l2_w (E : zEv p m c cX12_lifeOf 3 s args RX12 meth (some .int) G) {res : Int} : ∀ (n : Nat) (M : zM) (x0 : Int) (x1 : Int) (x2 : Int), InR x0 → InR x1 → InR x2 → ∀ (H : Heap) (locs : List Loc) (ls : Array Slot), zS G top L M s H locs → zLV ls 3 [some (zR G.2.2.1 x0), some (.int (zO x1)), some (.int (zO x2))] → Mo_lifeOf_l2 fu L n M x0 x1 x2 = some res → W p l e (zrm 1 0 0) s m args below meth c H locs 0 0 (MQ below (zQ G top L M (some (.int (zO res))) (InR res)) args s 0 0 (zA G)) (F0 m 2 ls [])
  | 0, _, _, _, _ => fun _ _ _ _ _ _ _ _ h => (by cases h)
  | n + 1, M, x0, x1, x2 => fun hx0 hx1 hx2 H locs ls S hl h => Mo_lifeOf_s2_w E (fun M x0 x1 x2 hx0 hx1 hx2 H locs ls S hl h => Mo_lifeOf_l2_w E n M x0 x1 x2 hx0 hx1 hx2 H locs ls S hl h) hx0 hx1 hx2 S hl h
theorem Mo_lifeOf_w (E : zEv p m c cX12_lifeOf 3 s args RX12 meth (some .int) G) {res : Int} {M : zM} {a0 : Int} {a1 : Int} {H : Heap} {locs : List Loc} {ls : Array Slot} (ha0 : InR a0) (ha1 : InR a1) (S : zS G top L M s H locs) (hl : zLV ls 3 [some (zR G.2.2.1 a0), some (.int (zO a1)), none]) (h : Mo_lifeOf fu L M a0 a1 = some res) : W p l e (zrm 1 0 0) s m args below meth c H locs 0 0 (MQ below (zQ G top L M (some (.int (zO res))) (InR res)) args s 0 0 (zA G)) (F0 m 0 ls []) := by
  unfold Mo_lifeOf at h
  refine r_iconst E (Mo_lifeOf_dc.at 0 rfl) ?_
  refine u_ist_n (y := 0) (vs' := [some (zR G.2.2.1 a0), some (.int (zO a1)), some (.int (zO 0))]) E rfl (Mo_lifeOf_dc.at 1 rfl) hl (by decide) rfl (fun ls hl => ?_)
  exact Mo_lifeOf_l2_w E fu _ a0 a1 0 ha0 ha1 (show InR 0 by decide) _ _ _ S (hl.sub (And.intro rfl (And.intro rfl (And.intro rfl True.intro)))) h
theorem Mo_lifeOf_c (l : Launch) (G : zG) (fu : Nat) (top : Int) (L : zL) (M : zM) (a0 : Int) (a1 : Int) {res : Int} (ha0 : InR a0) (ha1 : InR a1) (h : Mo_lifeOf fu L M a0 a1 = some res) : Met l yX12_lifeOf (Cond.code yX12_lifeOf cX12_lifeOf 3 (some .int) :: zTB) (zrm 1 0 0) (va_Pc [zR G.2.2.1 a0, .int (zO a1)] (zPre G top L M)) (zQ G top L M (some (.int (zO res))) (InR res)) 0 0 (zA G) :=
  z_met (by decide +kernel) (by simp [zR_cat, zcat_I, zcat_S]) (Nat.le_of_ble_eq_true rfl) fun p e s m below meth c ls E hn S hl => Mo_lifeOf_w E ha0 ha1 S (hl.sub (And.intro rfl (And.intro rfl True.intro))) h
end
theorem Mo_takesLife_dc : zDL cX12_takesLife [(0, .aload_n 0, 1, 1), (1, .invokevirtual 142, 3, 4), (4, .iconst (-1), 1, 5), (5, .if_icmp .ne 7, 3, 8), (8, .iconst (-1), 1, 9), (9, .goto 11, 3, 12), (12, .aload_n 0, 1, 13), (13, .aload_n 0, 1, 14), (14, .invokevirtual 142, 3, 17), (17, .invokevirtual 165, 3, 20), (20, .istore_n 1, 1, 21), (21, .iload_n 1, 1, 22), (22, .iconst (-1), 1, 23), (23, .if_icmp .ne 9, 3, 26), (26, .aload_n 0, 1, 27), (27, .invokevirtual 133, 3, 30), (30, .iconst 0, 1, 31), (31, .ireturn, 1, 32), (32, .aload_n 0, 1, 33), (33, .invokevirtual 113, 3, 36), (36, .iload_n 1, 1, 37), (37, .ireturn, 1, 38)] := zDL.of (by decide +kernel)
section
variable {p : Program} {l : Launch} {e : Env} {s : State} {m : MethodId} {args : Array Value} {below : List Frame} {meth : Method} {c : Code} {G : zG} {top : Int} {L : zL} {fu : Nat}
theorem Mo_takesLife_b20_w (E : zEv p m c cX12_takesLife 2 s args RX12 meth (some .int) G) {res : (zM × Int)} {M : zM} {x0 : Int} {y0 : Int} {H : Heap} {locs : List Loc} {ls : Array Slot} (hx0 : InR x0) (hy0 : InR y0) (S : zS G top L M s H locs) (hl : zLV ls 2 [some (zR G.2.2.1 x0), none]) (h : Mo_takesLife_b20 fu L M x0 y0 = some res) : W p l e (zrm 3 0 0) s m args below meth c H locs 0 0 (MQ below (zQ G top L res.1 (some (.int (zO res.2))) (InR res.2)) args s 0 0 (zA G)) (F0 m 20 ls [.int (zO y0)]) := by
  unfold Mo_takesLife_b20 at h
  refine u_ist_n (y := y0) (vs' := [some (zR G.2.2.1 x0), some (.int (zO y0))]) E rfl (Mo_takesLife_dc.at 10 rfl) hl (by decide) rfl (fun ls hl => ?_)
  refine u_il_n (x := y0) E (Mo_takesLife_dc.at 11 rfl) hl rfl ?_
  refine r_iconst E (Mo_takesLife_dc.at 12 rfl) ?_
  refine r_icmp_ne (tgt := 32) E hy0 (show InR (-1) by decide) (Mo_takesLife_dc.at 13 rfl) (by decide) (fun q => ?_) (fun q => ?_)
  · have h := ite_t h q
    refine u_al_n (x := x0) E (Mo_takesLife_dc.at 14 rfl) hl rfl ?_
    obtain ⟨g4, h⟩ := ite_e h
    obtain ⟨M5, eM5, h⟩ := bd1_e h
    refine u_cVU (As := []) (rest := []) E S zcw_yX12_bad zw_7_179 zq_4_4 zw_7_177 zck_12.1 rfl g4 (Mo_bad_c l G fu top L M x0 hx0 eM5) (zrm_ok (by decide) (by decide)) ⟨Nat.le_refl 0, Nat.le_refl 0⟩ rfl (Nat.zero_le 8) hl.size rfl (Mo_takesLife_dc.at 15 rfl) (fun H locs _ S6 => ?_)
    refine r_iconst E (Mo_takesLife_dc.at 16 rfl) ?_
    cases h
    exact r_iret E S6 (show InR 0 by decide) (Mo_takesLife_dc.at 17 rfl)
  · have h := ite_f h q
    refine u_al_n (x := x0) E (Mo_takesLife_dc.at 18 rfl) hl rfl ?_
    obtain ⟨g7, h⟩ := ite_e h
    obtain ⟨M8, eM8, h⟩ := bd1_e h
    refine u_cVU (As := []) (rest := []) E S zcw_yX12_next zw_7_151 zq_3_15 zw_7_149 zck_12.1 rfl g7 (Mo_next_c l G fu top L M x0 hx0 eM8) (zrm_ok (by decide) (by decide)) ⟨Nat.le_refl 0, Nat.le_refl 0⟩ rfl (Nat.zero_le 8) hl.size rfl (Mo_takesLife_dc.at 19 rfl) (fun H locs _ S9 => ?_)
    refine u_il_n (x := y0) E (Mo_takesLife_dc.at 20 rfl) hl rfl ?_
    cases h
    exact r_iret E S9 hy0 (Mo_takesLife_dc.at 21 rfl)
theorem Mo_takesLife_w (E : zEv p m c cX12_takesLife 2 s args RX12 meth (some .int) G) {res : (zM × Int)} {M : zM} {a0 : Int} {H : Heap} {locs : List Loc} {ls : Array Slot} (ha0 : InR a0) (S : zS G top L M s H locs) (hl : zLV ls 2 [some (zR G.2.2.1 a0), none]) (h : Mo_takesLife fu L M a0 = some res) : W p l e (zrm 3 0 0) s m args below meth c H locs 0 0 (MQ below (zQ G top L res.1 (some (.int (zO res.2))) (InR res.2)) args s 0 0 (zA G)) (F0 m 0 ls []) := by
  unfold Mo_takesLife at h
  refine u_al_n (x := a0) E (Mo_takesLife_dc.at 0 rfl) hl rfl ?_
  obtain ⟨g1, h⟩ := ite_e h
  obtain ⟨r2, er2, h⟩ := bd1_e h
  refine u_cVI (As := []) (rest := []) E S zcw_yX12_letter zw_7_171 zq_4_2 zw_7_169 zck_12.1 rfl g1 (Mo_letter_c l G fu top L M a0 ha0 er2) (zrm_ok (by decide) (by decide)) ⟨Nat.le_refl 0, Nat.le_refl 0⟩ rfl (Nat.zero_le 8) hl.size rfl (Mo_takesLife_dc.at 1 rfl) (fun H locs hr2 S3 => ?_)
  refine r_iconst E (Mo_takesLife_dc.at 2 rfl) ?_
  refine r_icmp_ne (tgt := 12) E hr2 (show InR (-1) by decide) (Mo_takesLife_dc.at 3 rfl) (by decide) (fun q => ?_) (fun q => ?_)
  · have h := ite_t h q
    refine r_iconst E (Mo_takesLife_dc.at 4 rfl) ?_
    refine r_goto (tgt := 20) E (Mo_takesLife_dc.at 5 rfl) (by decide) ?_
    exact Mo_takesLife_b20_w (x0 := a0) (y0 := (-1)) E ha0 (show InR (-1) by decide) S3 (hl.sub (And.intro rfl True.intro)) h
  · have h := ite_f h q
    refine u_al_n (x := a0) E (Mo_takesLife_dc.at 6 rfl) hl rfl ?_
    refine u_al_n (x := a0) E (Mo_takesLife_dc.at 7 rfl) hl rfl ?_
    obtain ⟨r10, er10, h⟩ := bd1_e h
    refine u_cVI (As := []) (rest := [zR G.2.2.1 a0]) E S3 zcw_yX12_letter zw_7_171 zq_4_2 zw_7_169 zck_12.1 rfl g1 (Mo_letter_c l G fu top L M a0 ha0 er10) (zrm_ok (by decide) (by decide)) ⟨Nat.le_refl 0, Nat.le_refl 0⟩ rfl (by simp [zR_cat, zcat_I, zcat_J, zcat_S]) hl.size rfl (Mo_takesLife_dc.at 8 rfl) (fun H locs hr10 S11 => ?_)
    obtain ⟨r12, er12, h⟩ := bd1_e h
    refine u_cVI (As := [.int (zO r10)]) (rest := []) E S11 zcw_yX12_lifeOf zw_7_225 zq_4_14 zw_7_223 zck_12.1 rfl g1 (Mo_lifeOf_c l G fu top L M a0 r10 ha0 hr10 er12) (zrm_ok (by decide) (by decide)) ⟨Nat.le_refl 0, Nat.le_refl 0⟩ rfl (Nat.zero_le 8) hl.size rfl (Mo_takesLife_dc.at 9 rfl) (fun H locs hr12 S13 => ?_)
    exact Mo_takesLife_b20_w (x0 := a0) (y0 := r12) E ha0 hr12 S13 (hl.sub (And.intro rfl True.intro)) h
theorem Mo_takesLife_c (l : Launch) (G : zG) (fu : Nat) (top : Int) (L : zL) (M : zM) (a0 : Int) {res : (zM × Int)} (ha0 : InR a0) (h : Mo_takesLife fu L M a0 = some res) : Met l yX12_takesLife (Cond.code yX12_takesLife cX12_takesLife 2 (some .int) :: zTB) (zrm 3 0 0) (va_Pc [zR G.2.2.1 a0] (zPre G top L M)) (zQ G top L res.1 (some (.int (zO res.2))) (InR res.2)) 0 0 (zA G) :=
  z_met (by decide +kernel) (by simp [zR_cat, zcat_I, zcat_S]) (Nat.le_of_ble_eq_true rfl) fun p e s m below meth c ls E hn S hl => Mo_takesLife_w E ha0 S (hl.sub (And.intro rfl True.intro)) h
end
theorem Mo_lays_dc : zDL cX12_lays [(0, .aload_n 0, 1, 1), (1, .getfield 110, 3, 4), (4, .iconst (-1), 1, 5), (5, .if_icmp .ne 38, 3, 8), (8, .aload_n 0, 1, 9), (9, .getfield 22, 3, 12), (12, .iconst 5, 1, 13), (13, .aload_n 0, 1, 14), (14, .getfield 22, 3, 17), (17, .iconst 4, 1, 18), (18, .iaload, 1, 19), (19, .iadd, 1, 20), (20, .sipush 10000, 3, 23), (23, .iload_n 3, 1, 24), (24, .imul, 1, 25), (25, .bipush 100, 2, 27), (27, .iload_n 2, 1, 28), (28, .imul, 1, 29), (29, .iadd, 1, 30), (30, .iload_n 1, 1, 31), (31, .iadd, 1, 32), (32, .iastore, 1, 33), (33, .aload_n 0, 1, 34), (34, .getfield 22, 3, 37), (37, .iconst 4, 1, 38), (38, .dup2, 1, 39), (39, .iaload, 1, 40), (40, .iconst 1, 1, 41), (41, .iadd, 1, 42), (42, .iastore, 1, 43), (43, .return_, 1, 44)] := zDL.of (by decide +kernel)
section
variable {p : Program} {l : Launch} {e : Env} {s : State} {m : MethodId} {args : Array Value} {below : List Frame} {meth : Method} {c : Code} {G : zG} {top : Int} {L : zL} {fu : Nat}
theorem Mo_lays_w (E : zEv p m c cX12_lays 4 s args RX12 meth none G) {res : zM} {M : zM} {a0 : Int} {a1 : Int} {a2 : Int} {a3 : Int} {H : Heap} {locs : List Loc} {ls : Array Slot} (ha0 : InR a0) (ha1 : InR a1) (ha2 : InR a2) (ha3 : InR a3) (S : zS G top L M s H locs) (hl : zLV ls 4 [some (zR G.2.2.1 a0), some (.int (zO a1)), some (.int (zO a2)), some (.int (zO a3))]) (h : Mo_lays fu L M a0 a1 a2 a3 = some res) : W p l e (zrm 1 0 0) s m args below meth c H locs 0 0 (MQ below (zQ G top L res none True) args s 0 0 (zA G)) (F0 m 0 ls []) := by
  unfold Mo_lays at h
  refine u_al_n (x := a0) E (Mo_lays_dc.at 0 rfl) hl rfl ?_
  obtain ⟨g1, h⟩ := ite_e h
  refine u_gI E zf_12_5 S g1 zw_6_212 (Mo_lays_dc.at 1 rfl) ?_
  refine r_iconst E (Mo_lays_dc.at 2 rfl) ?_
  refine r_icmp_ne (tgt := 43) E (S.1.inR _ _) (show InR (-1) by decide) (Mo_lays_dc.at 3 rfl) (by decide) (fun q => ?_) (fun q => ?_)
  · have h := ite_t h q
    refine u_al_n (x := a0) E (Mo_lays_dc.at 4 rfl) hl rfl ?_
    refine u_gR E zf_12_12 S g1 zw_6_219 (Mo_lays_dc.at 5 rfl) ?_
    refine r_iconst E (Mo_lays_dc.at 6 rfl) ?_
    refine u_al_n (x := a0) E (Mo_lays_dc.at 7 rfl) hl rfl ?_
    refine u_gR E zf_12_12 S g1 zw_6_219 (Mo_lays_dc.at 8 rfl) ?_
    refine r_iconst E (Mo_lays_dc.at 9 rfl) ?_
    obtain ⟨g2, h⟩ := ite_e h
    obtain ⟨g3, h⟩ := ite_e h
    refine r_iald E S g2 g3 (Mo_lays_dc.at 10 rfl) ?_
    refine r_iadd E (Mo_lays_dc.at 11 rfl) ?_
    refine r_sipush E (Mo_lays_dc.at 12 rfl) rfl ?_
    refine u_il_n (x := a3) E (Mo_lays_dc.at 13 rfl) hl rfl ?_
    refine r_imul E (Mo_lays_dc.at 14 rfl) ?_
    refine r_bipush E (Mo_lays_dc.at 15 rfl) rfl ?_
    refine u_il_n (x := a2) E (Mo_lays_dc.at 16 rfl) hl rfl ?_
    refine r_imul E (Mo_lays_dc.at 17 rfl) ?_
    refine r_iadd E (Mo_lays_dc.at 18 rfl) ?_
    refine u_il_n (x := a1) E (Mo_lays_dc.at 19 rfl) hl rfl ?_
    refine r_iadd E (Mo_lays_dc.at 20 rfl) ?_
    obtain ⟨g4, h⟩ := ite_e h
    obtain ⟨M5, eM5, h⟩ := lt1_e h
    refine u_iast E eM5 S g2 g4 (inR_w32 _) (Mo_lays_dc.at 21 rfl) (fun H locs S6 => ?_)
    refine u_al_n (x := a0) E (Mo_lays_dc.at 22 rfl) hl rfl ?_
    refine u_gR E zf_12_12 S6 g1 zw_6_219 (Mo_lays_dc.at 23 rfl) ?_
    refine r_iconst E (Mo_lays_dc.at 24 rfl) ?_
    refine r_dup2 E (Mo_lays_dc.at 25 rfl) (zcat_I _) (zR_cat _ _) ?_
    obtain ⟨g7, h⟩ := ite_e h
    obtain ⟨g8, h⟩ := ite_e h
    refine r_iald E S6 g7 g8 (Mo_lays_dc.at 26 rfl) ?_
    refine r_iconst E (Mo_lays_dc.at 27 rfl) ?_
    refine r_iadd E (Mo_lays_dc.at 28 rfl) ?_
    obtain ⟨g9, h⟩ := ite_e h
    obtain ⟨M10, eM10, h⟩ := lt1_e h
    refine u_iast E eM10 S6 g7 g9 (inR_w32 _) (Mo_lays_dc.at 29 rfl) (fun H locs S11 => ?_)
    cases h
    exact r_vret E S11 True.intro (Mo_lays_dc.at 30 rfl)
  · have h := ite_f h q
    cases h
    exact r_vret E S True.intro (Mo_lays_dc.at 30 rfl)
theorem Mo_lays_c (l : Launch) (G : zG) (fu : Nat) (top : Int) (L : zL) (M : zM) (a0 : Int) (a1 : Int) (a2 : Int) (a3 : Int) {res : zM} (ha0 : InR a0) (ha1 : InR a1) (ha2 : InR a2) (ha3 : InR a3) (h : Mo_lays fu L M a0 a1 a2 a3 = some res) : Met l yX12_lays (Cond.code yX12_lays cX12_lays 4 none :: zTB) (zrm 1 0 0) (va_Pc [zR G.2.2.1 a0, .int (zO a1), .int (zO a2), .int (zO a3)] (zPre G top L M)) (zQ G top L res none True) 0 0 (zA G) :=
  z_met (by decide +kernel) (by simp [zR_cat, zcat_I, zcat_S]) (Nat.le_of_ble_eq_true rfl) fun p e s m below meth c ls E hn S hl => Mo_lays_w E ha0 ha1 ha2 ha3 S (hl.sub (And.intro rfl (And.intro rfl (And.intro rfl (And.intro rfl True.intro))))) h
end
theorem Mo_oneFact_dc : zDL cX12_oneFact [(0, .aload_n 0, 1, 1), (1, .getfield 22, 3, 4), (4, .iconst 2, 1, 5), (5, .iaload, 1, 6), (6, .bipush 16, 2, 8), (8, .if_icmp .ne 10, 3, 11), (11, .aload_n 0, 1, 12), (12, .invokevirtual 133, 3, 15), (15, .goto 13, 3, 18), (18, .aload_n 0, 1, 19), (19, .getfield 22, 3, 22), (22, .iconst 2, 1, 23), (23, .dup2, 1, 24), (24, .iaload, 1, 25), (25, .iconst 1, 1, 26), (26, .iadd, 1, 27), (27, .iastore, 1, 28), (28, .return_, 1, 29)] := zDL.of (by decide +kernel)
section
variable {p : Program} {l : Launch} {e : Env} {s : State} {m : MethodId} {args : Array Value} {below : List Frame} {meth : Method} {c : Code} {G : zG} {top : Int} {L : zL} {fu : Nat}
theorem Mo_oneFact_w (E : zEv p m c cX12_oneFact 1 s args RX12 meth none G) {res : zM} {M : zM} {a0 : Int} {H : Heap} {locs : List Loc} {ls : Array Slot} (ha0 : InR a0) (S : zS G top L M s H locs) (hl : zLV ls 1 [some (zR G.2.2.1 a0)]) (h : Mo_oneFact fu L M a0 = some res) : W p l e (zrm 2 0 0) s m args below meth c H locs 0 0 (MQ below (zQ G top L res none True) args s 0 0 (zA G)) (F0 m 0 ls []) := by
  unfold Mo_oneFact at h
  refine u_al_n (x := a0) E (Mo_oneFact_dc.at 0 rfl) hl rfl ?_
  obtain ⟨g1, h⟩ := ite_e h
  refine u_gR E zf_12_12 S g1 zw_6_219 (Mo_oneFact_dc.at 1 rfl) ?_
  refine r_iconst E (Mo_oneFact_dc.at 2 rfl) ?_
  obtain ⟨g2, h⟩ := ite_e h
  obtain ⟨g3, h⟩ := ite_e h
  refine r_iald E S g2 g3 (Mo_oneFact_dc.at 3 rfl) ?_
  refine r_bipush E (Mo_oneFact_dc.at 4 rfl) rfl ?_
  refine r_icmp_ne (tgt := 18) E (S.1.inR _ _) (show InR 16 by decide) (Mo_oneFact_dc.at 5 rfl) (by decide) (fun q => ?_) (fun q => ?_)
  · have h := ite_t h q
    refine u_al_n (x := a0) E (Mo_oneFact_dc.at 6 rfl) hl rfl ?_
    obtain ⟨M4, eM4, h⟩ := bd1_e h
    refine u_cVU (As := []) (rest := []) E S zcw_yX12_bad zw_7_179 zq_4_4 zw_7_177 zck_12.1 rfl g1 (Mo_bad_c l G fu top L M a0 ha0 eM4) (zrm_ok (by decide) (by decide)) ⟨Nat.le_refl 0, Nat.le_refl 0⟩ rfl (Nat.zero_le 8) hl.size rfl (Mo_oneFact_dc.at 7 rfl) (fun H locs _ S5 => ?_)
    refine r_goto (tgt := 28) E (Mo_oneFact_dc.at 8 rfl) (by decide) ?_
    cases h
    exact r_vret E S5 True.intro (Mo_oneFact_dc.at 17 rfl)
  · have h := ite_f h q
    refine u_al_n (x := a0) E (Mo_oneFact_dc.at 9 rfl) hl rfl ?_
    refine u_gR E zf_12_12 S g1 zw_6_219 (Mo_oneFact_dc.at 10 rfl) ?_
    refine r_iconst E (Mo_oneFact_dc.at 11 rfl) ?_
    refine r_dup2 E (Mo_oneFact_dc.at 12 rfl) (zcat_I _) (zR_cat _ _) ?_
    obtain ⟨g6, h⟩ := ite_e h
    refine r_iald E S g2 g6 (Mo_oneFact_dc.at 13 rfl) ?_
    refine r_iconst E (Mo_oneFact_dc.at 14 rfl) ?_
    refine r_iadd E (Mo_oneFact_dc.at 15 rfl) ?_
    obtain ⟨g7, h⟩ := ite_e h
    obtain ⟨M8, eM8, h⟩ := lt1_e h
    refine u_iast E eM8 S g2 g7 (inR_w32 _) (Mo_oneFact_dc.at 16 rfl) (fun H locs S9 => ?_)
    cases h
    exact r_vret E S9 True.intro (Mo_oneFact_dc.at 17 rfl)
theorem Mo_oneFact_c (l : Launch) (G : zG) (fu : Nat) (top : Int) (L : zL) (M : zM) (a0 : Int) {res : zM} (ha0 : InR a0) (h : Mo_oneFact fu L M a0 = some res) : Met l yX12_oneFact (Cond.code yX12_oneFact cX12_oneFact 1 none :: zTB) (zrm 2 0 0) (va_Pc [zR G.2.2.1 a0] (zPre G top L M)) (zQ G top L res none True) 0 0 (zA G) :=
  z_met (by decide +kernel) (by simp [zR_cat, zcat_I, zcat_S]) (Nat.le_of_ble_eq_true rfl) fun p e s m below meth c ls E hn S hl => Mo_oneFact_w E ha0 S (hl.sub (And.intro rfl True.intro)) h
end
theorem Mo_readsAll_dc : zDL cX12_readsAll [(0, .aload_n 0, 1, 1), (1, .invokevirtual 206, 3, 4), (4, .iconst 1, 1, 5), (5, .istore_n 1, 1, 6), (6, .aload_n 0, 1, 7), (7, .getfield 110, 3, 10), (10, .iconst (-1), 1, 11), (11, .if_icmp .ne 30, 3, 14), (14, .aload_n 0, 1, 15), (15, .ldc 209, 2, 17), (17, .invokevirtual 130, 3, 20), (20, .ifCond .eq 21, 3, 23), (23, .aload_n 0, 1, 24), (24, .bipush 9, 2, 26), (26, .iconst 0, 1, 27), (27, .iconst 0, 1, 28), (28, .invokevirtual 187, 3, 31), (31, .aload_n 0, 1, 32), (32, .invokevirtual 206, 3, 35), (35, .iinc 1 1, 3, 38), (38, .goto (-32), 3, 41), (41, .iload_n 1, 1, 42), (42, .ireturn, 1, 43)] := zDL.of (by decide +kernel)
theorem Mo_readsFact_dc : zDL cX12_readsFact [(0, .aload_n 0, 1, 1), (1, .bipush 40, 2, 3), (3, .invokevirtual 136, 3, 6), (6, .ifCond .eq 8, 3, 9), (9, .aload_n 0, 1, 10), (10, .invokevirtual 168, 3, 13), (13, .return_, 1, 14), (14, .aload_n 0, 1, 15), (15, .invokevirtual 142, 3, 18), (18, .iconst (-1), 1, 19), (19, .if_icmp .eq 19, 3, 22), (22, .aload_n 0, 1, 23), (23, .aload_n 0, 1, 24), (24, .invokevirtual 142, 3, 27), (27, .invokevirtual 165, 3, 30), (30, .iconst (-1), 1, 31), (31, .if_icmp .eq 7, 3, 34), (34, .iconst 1, 1, 35), (35, .goto 4, 3, 38), (38, .iconst 0, 1, 39), (39, .istore_n 1, 1, 40), (40, .iload_n 1, 1, 41), (41, .ifCond .ne 48, 3, 44), (44, .aload_n 0, 1, 45), (45, .ldc 171, 2, 47), (47, .invokevirtual 126, 3, 50), (50, .ifCond .ne 39, 3, 53), (53, .aload_n 0, 1, 54), (54, .ldc 173, 2, 56), (56, .invokevirtual 126, 3, 59), (59, .ifCond .ne 30, 3, 62), (62, .aload_n 0, 1, 63), (63, .ldc 175, 2, 65), (65, .invokevirtual 126, 3, 68), (68, .ifCond .ne 21, 3, 71), (71, .aload_n 0, 1, 72), (72, .ldc 177, 2, 74), (74, .invokevirtual 126, 3, 77), (77, .ifCond .ne 12, 3, 80), (80, .aload_n 0, 1, 81), (81, .ldc 179, 2, 83), (83, .invokevirtual 126, 3, 86), (86, .ifCond .eq 7, 3, 89), (89, .iconst 1, 1, 90), (90, .goto 4, 3, 93), (93, .iconst 0, 1, 94), (94, .istore_n 2, 1, 95), (95, .iload_n 2, 1, 96), (96, .ifCond .eq 20, 3, 99), (99, .aload_n 0, 1, 100), (100, .ldc 179, 2, 102), (102, .invokevirtual 126, 3, 105), (105, .ifCond .eq 16, 3, 108), (108, .aload_n 0, 1, 109), (109, .getfield 181, 3, 112), (112, .iconst 5, 1, 113), (113, .if_icmp .ne 8, 3, 116), (116, .aload_n 0, 1, 117), (117, .invokevirtual 133, 3, 120), (120, .return_, 1, 121), (121, .aload_n 0, 1, 122), (122, .invokevirtual 184, 3, 125), (125, .aload_n 0, 1, 126), (126, .getfield 110, 3, 129), (129, .iconst (-1), 1, 130), (130, .if_icmp .eq 4, 3, 133), (133, .return_, 1, 134), (134, .aload_n 0, 1, 135), (135, .ldc 171, 2, 137), (137, .invokevirtual 130, 3, 140), (140, .ifCond .eq 18, 3, 143), (143, .aload_n 0, 1, 144), (144, .iconst 0, 1, 145), (145, .iconst 0, 1, 146), (146, .aload_n 0, 1, 147), (147, .bipush 99, 2, 149), (149, .invokevirtual 148, 3, 152), (152, .invokevirtual 187, 3, 155), (155, .goto 147, 3, 158), (158, .aload_n 0, 1, 159), (159, .ldc 173, 2, 161), (161, .invokevirtual 130, 3, 164), (164, .ifCond .eq 16, 3, 167), (167, .aload_n 0, 1, 168), (168, .iconst 1, 1, 169), (169, .aload_n 0, 1, 170), (170, .invokevirtual 191, 3, 173), (173, .iconst 0, 1, 174), (174, .invokevirtual 187, 3, 177), (177, .goto 125, 3, 180), (180, .aload_n 0, 1, 181), (181, .ldc 175, 2, 183), (183, .invokevirtual 130, 3, 186), (186, .ifCond .eq 13, 3, 189), (189, .aload_n 0, 1, 190), (190, .iconst 2, 1, 191), (191, .iconst 0, 1, 192), (192, .iconst 0, 1, 193), (193, .invokevirtual 187, 3, 196), (196, .goto 106, 3, 199), (199, .aload_n 0, 1, 200), (200, .ldc 177, 2, 202), (202, .invokevirtual 130, 3, 205), (205, .ifCond .eq 18, 3, 208), (208, .aload_n 0, 1, 209), (209, .iconst 3, 1, 210), (210, .iconst 0, 1, 211), (211, .aload_n 0, 1, 212), (212, .bipush 99, 2, 214), (214, .invokevirtual 148, 3, 217), (217, .invokevirtual 187, 3, 220), (220, .goto 82, 3, 223), (223, .aload_n 0, 1, 224), (224, .ldc 179, 2, 226), (226, .invokevirtual 130, 3, 229), (229, .ifCond .eq 50, 3, 232), (232, .aload_n 0, 1, 233), (233, .dup, 1, 234), (234, .getfield 181, 3, 237), (237, .iconst 1, 1, 238), (238, .iadd, 1, 239), (239, .putfield 181, 3, 242), (242, .aload_n 0, 1, 243), (243, .iconst 5, 1, 244), (244, .iconst 0, 1, 245), (245, .aload_n 0, 1, 246), (246, .bipush 99, 2, 248), (248, .invokevirtual 148, 3, 251), (251, .invokevirtual 187, 3, 254), (254, .aload_n 0, 1, 255), (255, .getfield 110, 3, 258), (258, .iconst (-1), 1, 259), (259, .if_icmp .ne 7, 3, 262), (262, .aload_n 0, 1, 263), (263, .invokevirtual 194, 3, 266), (266, .aload_n 0, 1, 267), (267, .dup, 1, 268), (268, .getfield 181, 3, 271), (271, .iconst 1, 1, 272), (272, .isub, 1, 273), (273, .putfield 181, 3, 276), (276, .goto 26, 3, 279), (279, .aload_n 0, 1, 280), (280, .invokevirtual 191, 3, 283), (283, .istore_n 3, 1, 284), (284, .aload_n 0, 1, 285), (285, .ldc 177, 2, 287), (287, .invokevirtual 197, 3, 290), (290, .aload_n 0, 1, 291), (291, .iconst 4, 1, 292), (292, .iload_n 3, 1, 293), (293, .aload_n 0, 1, 294), (294, .bipush 99, 2, 296), (296, .invokevirtual 148, 3, 299), (299, .invokevirtual 187, 3, 302), (302, .return_, 1, 303)] := zDL.of (by decide +kernel)
theorem Mo_readsWay_dc : zDL cX12_readsWay [(0, .aload_n 0, 1, 1), (1, .invokevirtual 194, 3, 4), (4, .aload_n 0, 1, 5), (5, .getfield 110, 3, 8), (8, .iconst (-1), 1, 9), (9, .if_icmp .ne 27, 3, 12), (12, .aload_n 0, 1, 13), (13, .ldc 204, 2, 15), (15, .invokevirtual 130, 3, 18), (18, .ifCond .eq 18, 3, 21), (21, .aload_n 0, 1, 22), (22, .bipush 8, 2, 24), (24, .iconst 0, 1, 25), (25, .iconst 0, 1, 26), (26, .invokevirtual 187, 3, 29), (29, .aload_n 0, 1, 30), (30, .invokevirtual 194, 3, 33), (33, .goto (-29), 3, 36), (36, .return_, 1, 37)] := zDL.of (by decide +kernel)
theorem Mo_readsWithin_dc : zDL cX12_readsWithin [(0, .aload_n 0, 1, 1), (1, .getfield 181, 3, 4), (4, .iconst 5, 1, 5), (5, .if_icmp .ne 8, 3, 8), (8, .aload_n 0, 1, 9), (9, .invokevirtual 133, 3, 12), (12, .return_, 1, 13), (13, .aload_n 0, 1, 14), (14, .invokevirtual 113, 3, 17), (17, .aload_n 0, 1, 18), (18, .dup, 1, 19), (19, .getfield 181, 3, 22), (22, .iconst 1, 1, 23), (23, .iadd, 1, 24), (24, .putfield 181, 3, 27), (27, .aload_n 0, 1, 28), (28, .bipush 6, 2, 30), (30, .iconst 0, 1, 31), (31, .iconst 0, 1, 32), (32, .invokevirtual 187, 3, 35), (35, .aload_n 0, 1, 36), (36, .invokevirtual 201, 3, 39), (39, .pop, 1, 40), (40, .aload_n 0, 1, 41), (41, .getfield 110, 3, 44), (44, .iconst (-1), 1, 45), (45, .if_icmp .ne 16, 3, 48), (48, .aload_n 0, 1, 49), (49, .bipush 41, 2, 51), (51, .invokevirtual 159, 3, 54), (54, .ifCond .ne 7, 3, 57), (57, .aload_n 0, 1, 58), (58, .invokevirtual 133, 3, 61), (61, .aload_n 0, 1, 62), (62, .bipush 7, 2, 64), (64, .iconst 0, 1, 65), (65, .iconst 0, 1, 66), (66, .invokevirtual 187, 3, 69), (69, .aload_n 0, 1, 70), (70, .dup, 1, 71), (71, .getfield 181, 3, 74), (74, .iconst 1, 1, 75), (75, .isub, 1, 76), (76, .putfield 181, 3, 79), (79, .return_, 1, 80)] := zDL.of (by decide +kernel)
def zh_Mo_readsAll (l : Launch) (G : zG) (zd : Nat) (top : Int) (L : zL) (rec : zt_Mo_readsAll) : Prop := (∀ (M : zM) (a0 : Int) {res : (zM × Int)}, InR a0 → rec.1 M a0 = some res → Met l yX12_readsAll (Cond.code yX12_readsAll cX12_readsAll 2 (some .int) :: zTB) (zrm zd 0 0) (va_Pc [zR G.2.2.1 a0] (zPre G top L M)) (zQ G top L res.1 (some (.int (zO res.2))) (InR res.2)) 0 0 (zA G)) ∧ (∀ (M : zM) (a0 : Int) {res : zM}, InR a0 → rec.2.1 M a0 = some res → Met l yX12_readsFact (Cond.code yX12_readsFact cX12_readsFact 4 none :: zTB) (zrm zd 0 0) (va_Pc [zR G.2.2.1 a0] (zPre G top L M)) (zQ G top L res none True) 0 0 (zA G)) ∧ (∀ (M : zM) (a0 : Int) {res : zM}, InR a0 → rec.2.2.1 M a0 = some res → Met l yX12_readsWay (Cond.code yX12_readsWay cX12_readsWay 1 none :: zTB) (zrm zd 0 0) (va_Pc [zR G.2.2.1 a0] (zPre G top L M)) (zQ G top L res none True) 0 0 (zA G)) ∧ (∀ (M : zM) (a0 : Int) {res : zM}, InR a0 → rec.2.2.2 M a0 = some res → Met l yX12_readsWithin (Cond.code yX12_readsWithin cX12_readsWithin 1 none :: zTB) (zrm zd 0 0) (va_Pc [zR G.2.2.1 a0] (zPre G top L M)) (zQ G top L res none True) 0 0 (zA G))
section
variable {p : Program} {l : Launch} {e : Env} {s : State} {m : MethodId} {args : Array Value} {below : List Frame} {meth : Method} {c : Code} {G : zG} {top : Int} {L : zL} {fu : Nat} {zd : Nat} {rec : zt_Mo_readsAll}
theorem Mo_readsAll_s6_w (E : zEv p m c cX12_readsAll 2 s args RX12 meth (some .int) G) (HR : zh_Mo_readsAll l G zd top L rec) (hzd : 9 ≤ zd) {res : (zM × Int)} {k6 : zM → Int → Int → Option (zM × Int)} (hk6 : ∀ (M : zM) (x0 : Int) (x1 : Int), InR x0 → InR x1 → ∀ (H : Heap) (locs : List Loc) (ls : Array Slot), zS G top L M s H locs → zLV ls 2 [some (zR G.2.2.1 x0), some (.int (zO x1))] → k6 M x0 x1 = some res → W p l e (zrm (zd + 1) 0 0) s m args below meth c H locs 0 0 (MQ below (zQ G top L res.1 (some (.int (zO res.2))) (InR res.2)) args s 0 0 (zA G)) (F0 m 6 ls [])) {M : zM} {x0 : Int} {x1 : Int} {H : Heap} {locs : List Loc} {ls : Array Slot} (hx0 : InR x0) (hx1 : InR x1) (S : zS G top L M s H locs) (hl : zLV ls 2 [some (zR G.2.2.1 x0), some (.int (zO x1))]) (h : Mo_readsAll_s6 fu rec k6 L M x0 x1 = some res) : W p l e (zrm (zd + 1) 0 0) s m args below meth c H locs 0 0 (MQ below (zQ G top L res.1 (some (.int (zO res.2))) (InR res.2)) args s 0 0 (zA G)) (F0 m 6 ls []) := by
  unfold Mo_readsAll_s6 at h
  refine u_al_n (x := x0) E (Mo_readsAll_dc.at 4 rfl) hl rfl ?_
  obtain ⟨g4, h⟩ := ite_e h
  refine u_gI E zf_12_5 S g4 zw_6_212 (Mo_readsAll_dc.at 5 rfl) ?_
  refine r_iconst E (Mo_readsAll_dc.at 6 rfl) ?_
  refine r_icmp_ne (tgt := 41) E (S.1.inR _ _) (show InR (-1) by decide) (Mo_readsAll_dc.at 7 rfl) (by decide) (fun q => ?_) (fun q => ?_)
  · have h := ite_t h q
    refine u_al_n (x := x0) E (Mo_readsAll_dc.at 8 rfl) hl rfl ?_
    refine r_ldcS (j := 27) E (Mo_readsAll_dc.at 9 rfl) rfl ?_
    obtain ⟨M6, r5, er5, h⟩ := bd2_e h
    refine u_cVI (As := [.ref (G.2.2.2.1 27)]) (rest := []) E S zcw_yX12_takesWord zw_7_188 zq_4_6 zw_7_186 zck_12.1 rfl g4 (Mo_takesWord_c l G fu top L M x0 27 hx0 er5) (zrm_ok (by omega) (by decide)) ⟨Nat.le_refl 0, Nat.le_refl 0⟩ rfl (Nat.zero_le 8) hl.size rfl (Mo_readsAll_dc.at 10 rfl) (fun H locs hr5 S7 => ?_)
    refine r_if_eq (tgt := 41) E (inR_01 hr5) (Mo_readsAll_dc.at 11 rfl) (by decide) (fun q => ?_) (fun q => ?_)
    · have h := ite_t h q
      refine u_il_n (x := x1) E (Mo_readsAll_dc.at 21 rfl) hl rfl ?_
      cases h
      exact r_iret E S7 hx1 (Mo_readsAll_dc.at 22 rfl)
    · have h := ite_f h q
      refine u_al_n (x := x0) E (Mo_readsAll_dc.at 12 rfl) hl rfl ?_
      refine r_bipush E (Mo_readsAll_dc.at 13 rfl) rfl ?_
      refine r_iconst E (Mo_readsAll_dc.at 14 rfl) ?_
      refine r_iconst E (Mo_readsAll_dc.at 15 rfl) ?_
      obtain ⟨M8, eM8, h⟩ := bd1_e h
      refine u_cVU (As := [.int (zO 9), .int (zO 0), .int (zO 0)]) (rest := []) E S7 zcw_yX12_lays zw_8_6 zq_5_3 zw_8_4 zck_12.1 rfl g4 (Mo_lays_c l G fu top L M6 x0 9 0 0 hx0 (show InR 9 by decide) (show InR 0 by decide) (show InR 0 by decide) eM8) (zrm_ok (by omega) (by decide)) ⟨Nat.le_refl 0, Nat.le_refl 0⟩ rfl (Nat.zero_le 8) hl.size rfl (Mo_readsAll_dc.at 16 rfl) (fun H locs _ S9 => ?_)
      refine u_al_n (x := x0) E (Mo_readsAll_dc.at 17 rfl) hl rfl ?_
      obtain ⟨M10, eM10, h⟩ := bd1_e h
      refine u_cVU (As := []) (rest := []) E S9 zcw_yX12_readsWay zw_7_234 zq_5_0 zw_7_232 zck_12.1 rfl g4 (HR.2.2.1 M8 x0 hx0 eM10) (zrm_ok (by omega) (by decide)) ⟨Nat.le_refl 0, Nat.le_refl 0⟩ rfl (Nat.zero_le 8) hl.size rfl (Mo_readsAll_dc.at 18 rfl) (fun H locs _ S11 => ?_)
      obtain ⟨v12, ev12, h⟩ := lt1_e h
      have hv12 := inR_eq ev12 (inR_w32 _)
      refine u_iinc (y := v12) (vs' := [some (zR G.2.2.1 x0), some (.int (zO v12))]) E ev12 (Mo_readsAll_dc.at 19 rfl) hl rfl (by decide) rfl (fun ls hl => ?_)
      refine r_goto (tgt := 6) E (Mo_readsAll_dc.at 20 rfl) (by decide) ?_
      exact hk6 _ x0 v12 hx0 hv12 _ _ _ S11 (hl.sub (And.intro rfl (And.intro rfl True.intro))) h
  · have h := ite_f h q
    refine u_il_n (x := x1) E (Mo_readsAll_dc.at 21 rfl) hl rfl ?_
    cases h
    exact r_iret E S hx1 (Mo_readsAll_dc.at 22 rfl)
theorem Mo_readsAll_l6_w (E : zEv p m c cX12_readsAll 2 s args RX12 meth (some .int) G) (HR : zh_Mo_readsAll l G zd top L rec) (hzd : 9 ≤ zd) {res : (zM × Int)} : ∀ (n : Nat) (M : zM) (x0 : Int) (x1 : Int), InR x0 → InR x1 → ∀ (H : Heap) (locs : List Loc) (ls : Array Slot), zS G top L M s H locs → zLV ls 2 [some (zR G.2.2.1 x0), some (.int (zO x1))] → Mo_readsAll_l6 fu rec L n M x0 x1 = some res → W p l e (zrm (zd + 1) 0 0) s m args below meth c H locs 0 0 (MQ below (zQ G top L res.1 (some (.int (zO res.2))) (InR res.2)) args s 0 0 (zA G)) (F0 m 6 ls [])
  | 0, _, _, _ => fun _ _ _ _ _ _ _ h => (by cases h)
  | n + 1, M, x0, x1 => fun hx0 hx1 H locs ls S hl h => Mo_readsAll_s6_w E HR hzd (fun M x0 x1 hx0 hx1 H locs ls S hl h => Mo_readsAll_l6_w E HR hzd n M x0 x1 hx0 hx1 H locs ls S hl h) hx0 hx1 S hl h
theorem Mo_readsAll_w (E : zEv p m c cX12_readsAll 2 s args RX12 meth (some .int) G) (HR : zh_Mo_readsAll l G zd top L rec) (hzd : 9 ≤ zd) {res : (zM × Int)} {M : zM} {a0 : Int} {H : Heap} {locs : List Loc} {ls : Array Slot} (ha0 : InR a0) (S : zS G top L M s H locs) (hl : zLV ls 2 [some (zR G.2.2.1 a0), none]) (h : Mo_readsAll_r fu rec L M a0 = some res) : W p l e (zrm (zd + 1) 0 0) s m args below meth c H locs 0 0 (MQ below (zQ G top L res.1 (some (.int (zO res.2))) (InR res.2)) args s 0 0 (zA G)) (F0 m 0 ls []) := by
  unfold Mo_readsAll_r at h
  refine u_al_n (x := a0) E (Mo_readsAll_dc.at 0 rfl) hl rfl ?_
  obtain ⟨g1, h⟩ := ite_e h
  obtain ⟨M2, eM2, h⟩ := bd1_e h
  refine u_cVU (As := []) (rest := []) E S zcw_yX12_readsWay zw_7_234 zq_5_0 zw_7_232 zck_12.1 rfl g1 (HR.2.2.1 M a0 ha0 eM2) (zrm_ok (by omega) (by decide)) ⟨Nat.le_refl 0, Nat.le_refl 0⟩ rfl (Nat.zero_le 8) hl.size rfl (Mo_readsAll_dc.at 1 rfl) (fun H locs _ S3 => ?_)
  refine r_iconst E (Mo_readsAll_dc.at 2 rfl) ?_
  refine u_ist_n (y := 1) (vs' := [some (zR G.2.2.1 a0), some (.int (zO 1))]) E rfl (Mo_readsAll_dc.at 3 rfl) hl (by decide) rfl (fun ls hl => ?_)
  exact Mo_readsAll_l6_w E HR hzd fu _ a0 1 ha0 (show InR 1 by decide) _ _ _ S3 (hl.sub (And.intro rfl (And.intro rfl True.intro))) h
theorem Mo_readsFact_b121_w (E : zEv p m c cX12_readsFact 4 s args RX12 meth none G) (HR : zh_Mo_readsAll l G zd top L rec) (hzd : 9 ≤ zd) {res : zM} {M : zM} {x0 : Int} {H : Heap} {locs : List Loc} {ls : Array Slot} (hx0 : InR x0) (S : zS G top L M s H locs) (hl : zLV ls 4 [some (zR G.2.2.1 x0), none, none, none]) (h : Mo_readsFact_b121 fu rec L M x0 = some res) : W p l e (zrm (zd + 1) 0 0) s m args below meth c H locs 0 0 (MQ below (zQ G top L res none True) args s 0 0 (zA G)) (F0 m 121 ls []) := by
  unfold Mo_readsFact_b121 at h
  refine u_al_n (x := x0) E (Mo_readsFact_dc.at 60 rfl) hl rfl ?_
  obtain ⟨g23, h⟩ := ite_e h
  obtain ⟨M24, eM24, h⟩ := bd1_e h
  refine u_cVU (As := []) (rest := []) E S zcw_yX12_oneFact zw_8_15 zq_5_4 zw_8_13 zck_12.1 rfl g23 (Mo_oneFact_c l G fu top L M x0 hx0 eM24) (zrm_ok (by omega) (by decide)) ⟨Nat.le_refl 0, Nat.le_refl 0⟩ rfl (Nat.zero_le 8) hl.size rfl (Mo_readsFact_dc.at 61 rfl) (fun H locs _ S25 => ?_)
  refine u_al_n (x := x0) E (Mo_readsFact_dc.at 62 rfl) hl rfl ?_
  refine u_gI E zf_12_5 S25 g23 zw_6_212 (Mo_readsFact_dc.at 63 rfl) ?_
  refine r_iconst E (Mo_readsFact_dc.at 64 rfl) ?_
  refine r_icmp_eq (tgt := 134) E (S25.1.inR _ _) (show InR (-1) by decide) (Mo_readsFact_dc.at 65 rfl) (by decide) (fun q => ?_) (fun q => ?_)
  · have h := ite_t h q
    refine u_al_n (x := x0) E (Mo_readsFact_dc.at 67 rfl) hl rfl ?_
    refine r_ldcS (j := 21) E (Mo_readsFact_dc.at 68 rfl) rfl ?_
    obtain ⟨M27, r26, er26, h⟩ := bd2_e h
    refine u_cVI (As := [.ref (G.2.2.2.1 21)]) (rest := []) E S25 zcw_yX12_takesWord zw_7_188 zq_4_6 zw_7_186 zck_12.1 rfl g23 (Mo_takesWord_c l G fu top L M24 x0 21 hx0 er26) (zrm_ok (by omega) (by decide)) ⟨Nat.le_refl 0, Nat.le_refl 0⟩ rfl (Nat.zero_le 8) hl.size rfl (Mo_readsFact_dc.at 69 rfl) (fun H locs hr26 S28 => ?_)
    refine r_if_eq (tgt := 158) E (inR_01 hr26) (Mo_readsFact_dc.at 70 rfl) (by decide) (fun q => ?_) (fun q => ?_)
    · have h := ite_t h q
      refine u_al_n (x := x0) E (Mo_readsFact_dc.at 79 rfl) hl rfl ?_
      refine r_ldcS (j := 22) E (Mo_readsFact_dc.at 80 rfl) rfl ?_
      obtain ⟨M30, r29, er29, h⟩ := bd2_e h
      refine u_cVI (As := [.ref (G.2.2.2.1 22)]) (rest := []) E S28 zcw_yX12_takesWord zw_7_188 zq_4_6 zw_7_186 zck_12.1 rfl g23 (Mo_takesWord_c l G fu top L M27 x0 22 hx0 er29) (zrm_ok (by omega) (by decide)) ⟨Nat.le_refl 0, Nat.le_refl 0⟩ rfl (Nat.zero_le 8) hl.size rfl (Mo_readsFact_dc.at 81 rfl) (fun H locs hr29 S31 => ?_)
      refine r_if_eq (tgt := 180) E (inR_01 hr29) (Mo_readsFact_dc.at 82 rfl) (by decide) (fun q => ?_) (fun q => ?_)
      · have h := ite_t h q
        refine u_al_n (x := x0) E (Mo_readsFact_dc.at 90 rfl) hl rfl ?_
        refine r_ldcS (j := 23) E (Mo_readsFact_dc.at 91 rfl) rfl ?_
        obtain ⟨M33, r32, er32, h⟩ := bd2_e h
        refine u_cVI (As := [.ref (G.2.2.2.1 23)]) (rest := []) E S31 zcw_yX12_takesWord zw_7_188 zq_4_6 zw_7_186 zck_12.1 rfl g23 (Mo_takesWord_c l G fu top L M30 x0 23 hx0 er32) (zrm_ok (by omega) (by decide)) ⟨Nat.le_refl 0, Nat.le_refl 0⟩ rfl (Nat.zero_le 8) hl.size rfl (Mo_readsFact_dc.at 92 rfl) (fun H locs hr32 S34 => ?_)
        refine r_if_eq (tgt := 199) E (inR_01 hr32) (Mo_readsFact_dc.at 93 rfl) (by decide) (fun q => ?_) (fun q => ?_)
        · have h := ite_t h q
          refine u_al_n (x := x0) E (Mo_readsFact_dc.at 100 rfl) hl rfl ?_
          refine r_ldcS (j := 24) E (Mo_readsFact_dc.at 101 rfl) rfl ?_
          obtain ⟨M36, r35, er35, h⟩ := bd2_e h
          refine u_cVI (As := [.ref (G.2.2.2.1 24)]) (rest := []) E S34 zcw_yX12_takesWord zw_7_188 zq_4_6 zw_7_186 zck_12.1 rfl g23 (Mo_takesWord_c l G fu top L M33 x0 24 hx0 er35) (zrm_ok (by omega) (by decide)) ⟨Nat.le_refl 0, Nat.le_refl 0⟩ rfl (Nat.zero_le 8) hl.size rfl (Mo_readsFact_dc.at 102 rfl) (fun H locs hr35 S37 => ?_)
          refine r_if_eq (tgt := 223) E (inR_01 hr35) (Mo_readsFact_dc.at 103 rfl) (by decide) (fun q => ?_) (fun q => ?_)
          · have h := ite_t h q
            refine u_al_n (x := x0) E (Mo_readsFact_dc.at 112 rfl) hl rfl ?_
            refine r_ldcS (j := 25) E (Mo_readsFact_dc.at 113 rfl) rfl ?_
            obtain ⟨M39, r38, er38, h⟩ := bd2_e h
            refine u_cVI (As := [.ref (G.2.2.2.1 25)]) (rest := []) E S37 zcw_yX12_takesWord zw_7_188 zq_4_6 zw_7_186 zck_12.1 rfl g23 (Mo_takesWord_c l G fu top L M36 x0 25 hx0 er38) (zrm_ok (by omega) (by decide)) ⟨Nat.le_refl 0, Nat.le_refl 0⟩ rfl (Nat.zero_le 8) hl.size rfl (Mo_readsFact_dc.at 114 rfl) (fun H locs hr38 S40 => ?_)
            refine r_if_eq (tgt := 279) E (inR_01 hr38) (Mo_readsFact_dc.at 115 rfl) (by decide) (fun q => ?_) (fun q => ?_)
            · have h := ite_t h q
              refine u_al_n (x := x0) E (Mo_readsFact_dc.at 142 rfl) hl rfl ?_
              obtain ⟨M42, r41, er41, h⟩ := bd2_e h
              refine u_cVI (As := []) (rest := []) E S40 zcw_yX12_takesLife zw_7_221 zq_4_13 zw_7_219 zck_12.1 rfl g23 (Mo_takesLife_c l G fu top L M39 x0 hx0 er41) (zrm_ok (by omega) (by decide)) ⟨Nat.le_refl 0, Nat.le_refl 0⟩ rfl (Nat.zero_le 8) hl.size rfl (Mo_readsFact_dc.at 143 rfl) (fun H locs hr41 S43 => ?_)
              refine u_ist_n (y := r41) (vs' := [some (zR G.2.2.1 x0), none, none, some (.int (zO r41))]) E rfl (Mo_readsFact_dc.at 144 rfl) hl (by decide) rfl (fun ls hl => ?_)
              refine u_al_n (x := x0) E (Mo_readsFact_dc.at 145 rfl) hl rfl ?_
              refine r_ldcS (j := 24) E (Mo_readsFact_dc.at 146 rfl) rfl ?_
              obtain ⟨M44, eM44, h⟩ := bd1_e h
              refine u_cVU (As := [.ref (G.2.2.2.1 24)]) (rest := []) E S43 zcw_yX12_mustWord zw_7_215 zq_4_12 zw_7_213 zck_12.1 rfl g23 (Mo_mustWord_c l G fu top L M42 x0 24 hx0 eM44) (zrm_ok (by omega) (by decide)) ⟨Nat.le_refl 0, Nat.le_refl 0⟩ rfl (Nat.zero_le 8) hl.size rfl (Mo_readsFact_dc.at 147 rfl) (fun H locs _ S45 => ?_)
              refine u_al_n (x := x0) E (Mo_readsFact_dc.at 148 rfl) hl rfl ?_
              refine r_iconst E (Mo_readsFact_dc.at 149 rfl) ?_
              refine u_il_n (x := r41) E (Mo_readsFact_dc.at 150 rfl) hl rfl ?_
              refine u_al_n (x := x0) E (Mo_readsFact_dc.at 151 rfl) hl rfl ?_
              refine r_bipush E (Mo_readsFact_dc.at 152 rfl) rfl ?_
              obtain ⟨M47, r46, er46, h⟩ := bd2_e h
              refine u_cVI (As := [.int (zO 99)]) (rest := [.int (zO r41), .int (zO 4), zR G.2.2.1 x0]) E S45 zcw_yX12_takesNumber zw_7_183 zq_4_5 zw_7_181 zck_12.1 rfl g23 (Mo_takesNumber_c l G fu top L M44 x0 99 hx0 (show InR 99 by decide) er46) (zrm_ok (by omega) (by decide)) ⟨Nat.le_refl 0, Nat.le_refl 0⟩ rfl (by simp [zR_cat, zcat_I, zcat_J, zcat_S]) hl.size rfl (Mo_readsFact_dc.at 153 rfl) (fun H locs hr46 S48 => ?_)
              obtain ⟨M49, eM49, h⟩ := bd1_e h
              refine u_cVU (As := [.int (zO 4), .int (zO r41), .int (zO r46)]) (rest := []) E S48 zcw_yX12_lays zw_8_6 zq_5_3 zw_8_4 zck_12.1 rfl g23 (Mo_lays_c l G fu top L M47 x0 4 r41 r46 hx0 (show InR 4 by decide) hr41 hr46 eM49) (zrm_ok (by omega) (by decide)) ⟨Nat.le_refl 0, Nat.le_refl 0⟩ rfl (Nat.zero_le 8) hl.size rfl (Mo_readsFact_dc.at 154 rfl) (fun H locs _ S50 => ?_)
              cases h
              exact r_vret E S50 True.intro (Mo_readsFact_dc.at 155 rfl)
            · have h := ite_f h q
              refine u_al_n (x := x0) E (Mo_readsFact_dc.at 116 rfl) hl rfl ?_
              refine r_dup E (Mo_readsFact_dc.at 117 rfl) (zR_cat _ _) ?_
              refine u_gI E zf_12_13 S40 g23 zw_6_220 (Mo_readsFact_dc.at 118 rfl) ?_
              refine r_iconst E (Mo_readsFact_dc.at 119 rfl) ?_
              refine r_iadd E (Mo_readsFact_dc.at 120 rfl) ?_
              obtain ⟨M51, eM51, h⟩ := lt1_e h
              refine u_pI E eM51 zf_12_13 S40 g23 (inR_w32 _) (Or.inl rfl) rfl zw_6_220 (Mo_readsFact_dc.at 121 rfl) (fun H locs S52 => ?_)
              refine u_al_n (x := x0) E (Mo_readsFact_dc.at 122 rfl) hl rfl ?_
              refine r_iconst E (Mo_readsFact_dc.at 123 rfl) ?_
              refine r_iconst E (Mo_readsFact_dc.at 124 rfl) ?_
              refine u_al_n (x := x0) E (Mo_readsFact_dc.at 125 rfl) hl rfl ?_
              refine r_bipush E (Mo_readsFact_dc.at 126 rfl) rfl ?_
              obtain ⟨M54, r53, er53, h⟩ := bd2_e h
              refine u_cVI (As := [.int (zO 99)]) (rest := [.int (zO 0), .int (zO 5), zR G.2.2.1 x0]) E S52 zcw_yX12_takesNumber zw_7_183 zq_4_5 zw_7_181 zck_12.1 rfl g23 (Mo_takesNumber_c l G fu top L M51 x0 99 hx0 (show InR 99 by decide) er53) (zrm_ok (by omega) (by decide)) ⟨Nat.le_refl 0, Nat.le_refl 0⟩ rfl (by simp [zR_cat, zcat_I, zcat_J, zcat_S]) hl.size rfl (Mo_readsFact_dc.at 127 rfl) (fun H locs hr53 S55 => ?_)
              obtain ⟨M56, eM56, h⟩ := bd1_e h
              refine u_cVU (As := [.int (zO 5), .int (zO 0), .int (zO r53)]) (rest := []) E S55 zcw_yX12_lays zw_8_6 zq_5_3 zw_8_4 zck_12.1 rfl g23 (Mo_lays_c l G fu top L M54 x0 5 0 r53 hx0 (show InR 5 by decide) (show InR 0 by decide) hr53 eM56) (zrm_ok (by omega) (by decide)) ⟨Nat.le_refl 0, Nat.le_refl 0⟩ rfl (Nat.zero_le 8) hl.size rfl (Mo_readsFact_dc.at 128 rfl) (fun H locs _ S57 => ?_)
              refine u_al_n (x := x0) E (Mo_readsFact_dc.at 129 rfl) hl rfl ?_
              refine u_gI E zf_12_5 S57 g23 zw_6_212 (Mo_readsFact_dc.at 130 rfl) ?_
              refine r_iconst E (Mo_readsFact_dc.at 131 rfl) ?_
              refine r_icmp_ne (tgt := 266) E (S57.1.inR _ _) (show InR (-1) by decide) (Mo_readsFact_dc.at 132 rfl) (by decide) (fun q => ?_) (fun q => ?_)
              · have h := ite_t h q
                refine u_al_n (x := x0) E (Mo_readsFact_dc.at 133 rfl) hl rfl ?_
                obtain ⟨M58, eM58, h⟩ := bd1_e h
                refine u_cVU (As := []) (rest := []) E S57 zcw_yX12_readsFact zw_7_238 zq_5_1 zw_7_236 zck_12.1 rfl g23 (HR.2.1 M56 x0 hx0 eM58) (zrm_ok (by omega) (by decide)) ⟨Nat.le_refl 0, Nat.le_refl 0⟩ rfl (Nat.zero_le 8) hl.size rfl (Mo_readsFact_dc.at 134 rfl) (fun H locs _ S59 => ?_)
                refine u_al_n (x := x0) E (Mo_readsFact_dc.at 135 rfl) hl rfl ?_
                refine r_dup E (Mo_readsFact_dc.at 136 rfl) (zR_cat _ _) ?_
                refine u_gI E zf_12_13 S59 g23 zw_6_220 (Mo_readsFact_dc.at 137 rfl) ?_
                refine r_iconst E (Mo_readsFact_dc.at 138 rfl) ?_
                refine r_isub E (Mo_readsFact_dc.at 139 rfl) ?_
                obtain ⟨M60, eM60, h⟩ := lt1_e h
                refine u_pI E eM60 zf_12_13 S59 g23 (inR_w32 _) (Or.inl rfl) rfl zw_6_220 (Mo_readsFact_dc.at 140 rfl) (fun H locs S61 => ?_)
                refine r_goto (tgt := 302) E (Mo_readsFact_dc.at 141 rfl) (by decide) ?_
                cases h
                exact r_vret E S61 True.intro (Mo_readsFact_dc.at 155 rfl)
              · have h := ite_f h q
                refine u_al_n (x := x0) E (Mo_readsFact_dc.at 135 rfl) hl rfl ?_
                refine r_dup E (Mo_readsFact_dc.at 136 rfl) (zR_cat _ _) ?_
                refine u_gI E zf_12_13 S57 g23 zw_6_220 (Mo_readsFact_dc.at 137 rfl) ?_
                refine r_iconst E (Mo_readsFact_dc.at 138 rfl) ?_
                refine r_isub E (Mo_readsFact_dc.at 139 rfl) ?_
                obtain ⟨M62, eM62, h⟩ := lt1_e h
                refine u_pI E eM62 zf_12_13 S57 g23 (inR_w32 _) (Or.inl rfl) rfl zw_6_220 (Mo_readsFact_dc.at 140 rfl) (fun H locs S63 => ?_)
                refine r_goto (tgt := 302) E (Mo_readsFact_dc.at 141 rfl) (by decide) ?_
                cases h
                exact r_vret E S63 True.intro (Mo_readsFact_dc.at 155 rfl)
          · have h := ite_f h q
            refine u_al_n (x := x0) E (Mo_readsFact_dc.at 104 rfl) hl rfl ?_
            refine r_iconst E (Mo_readsFact_dc.at 105 rfl) ?_
            refine r_iconst E (Mo_readsFact_dc.at 106 rfl) ?_
            refine u_al_n (x := x0) E (Mo_readsFact_dc.at 107 rfl) hl rfl ?_
            refine r_bipush E (Mo_readsFact_dc.at 108 rfl) rfl ?_
            obtain ⟨M65, r64, er64, h⟩ := bd2_e h
            refine u_cVI (As := [.int (zO 99)]) (rest := [.int (zO 0), .int (zO 3), zR G.2.2.1 x0]) E S37 zcw_yX12_takesNumber zw_7_183 zq_4_5 zw_7_181 zck_12.1 rfl g23 (Mo_takesNumber_c l G fu top L M36 x0 99 hx0 (show InR 99 by decide) er64) (zrm_ok (by omega) (by decide)) ⟨Nat.le_refl 0, Nat.le_refl 0⟩ rfl (by simp [zR_cat, zcat_I, zcat_J, zcat_S]) hl.size rfl (Mo_readsFact_dc.at 109 rfl) (fun H locs hr64 S66 => ?_)
            obtain ⟨M67, eM67, h⟩ := bd1_e h
            refine u_cVU (As := [.int (zO 3), .int (zO 0), .int (zO r64)]) (rest := []) E S66 zcw_yX12_lays zw_8_6 zq_5_3 zw_8_4 zck_12.1 rfl g23 (Mo_lays_c l G fu top L M65 x0 3 0 r64 hx0 (show InR 3 by decide) (show InR 0 by decide) hr64 eM67) (zrm_ok (by omega) (by decide)) ⟨Nat.le_refl 0, Nat.le_refl 0⟩ rfl (Nat.zero_le 8) hl.size rfl (Mo_readsFact_dc.at 110 rfl) (fun H locs _ S68 => ?_)
            refine r_goto (tgt := 302) E (Mo_readsFact_dc.at 111 rfl) (by decide) ?_
            cases h
            exact r_vret E S68 True.intro (Mo_readsFact_dc.at 155 rfl)
        · have h := ite_f h q
          refine u_al_n (x := x0) E (Mo_readsFact_dc.at 94 rfl) hl rfl ?_
          refine r_iconst E (Mo_readsFact_dc.at 95 rfl) ?_
          refine r_iconst E (Mo_readsFact_dc.at 96 rfl) ?_
          refine r_iconst E (Mo_readsFact_dc.at 97 rfl) ?_
          obtain ⟨M69, eM69, h⟩ := bd1_e h
          refine u_cVU (As := [.int (zO 2), .int (zO 0), .int (zO 0)]) (rest := []) E S34 zcw_yX12_lays zw_8_6 zq_5_3 zw_8_4 zck_12.1 rfl g23 (Mo_lays_c l G fu top L M33 x0 2 0 0 hx0 (show InR 2 by decide) (show InR 0 by decide) (show InR 0 by decide) eM69) (zrm_ok (by omega) (by decide)) ⟨Nat.le_refl 0, Nat.le_refl 0⟩ rfl (Nat.zero_le 8) hl.size rfl (Mo_readsFact_dc.at 98 rfl) (fun H locs _ S70 => ?_)
          refine r_goto (tgt := 302) E (Mo_readsFact_dc.at 99 rfl) (by decide) ?_
          cases h
          exact r_vret E S70 True.intro (Mo_readsFact_dc.at 155 rfl)
      · have h := ite_f h q
        refine u_al_n (x := x0) E (Mo_readsFact_dc.at 83 rfl) hl rfl ?_
        refine r_iconst E (Mo_readsFact_dc.at 84 rfl) ?_
        refine u_al_n (x := x0) E (Mo_readsFact_dc.at 85 rfl) hl rfl ?_
        obtain ⟨M72, r71, er71, h⟩ := bd2_e h
        refine u_cVI (As := []) (rest := [.int (zO 1), zR G.2.2.1 x0]) E S31 zcw_yX12_takesLife zw_7_221 zq_4_13 zw_7_219 zck_12.1 rfl g23 (Mo_takesLife_c l G fu top L M30 x0 hx0 er71) (zrm_ok (by omega) (by decide)) ⟨Nat.le_refl 0, Nat.le_refl 0⟩ rfl (by simp [zR_cat, zcat_I, zcat_J, zcat_S]) hl.size rfl (Mo_readsFact_dc.at 86 rfl) (fun H locs hr71 S73 => ?_)
        refine r_iconst E (Mo_readsFact_dc.at 87 rfl) ?_
        obtain ⟨M74, eM74, h⟩ := bd1_e h
        refine u_cVU (As := [.int (zO 1), .int (zO r71), .int (zO 0)]) (rest := []) E S73 zcw_yX12_lays zw_8_6 zq_5_3 zw_8_4 zck_12.1 rfl g23 (Mo_lays_c l G fu top L M72 x0 1 r71 0 hx0 (show InR 1 by decide) hr71 (show InR 0 by decide) eM74) (zrm_ok (by omega) (by decide)) ⟨Nat.le_refl 0, Nat.le_refl 0⟩ rfl (Nat.zero_le 8) hl.size rfl (Mo_readsFact_dc.at 88 rfl) (fun H locs _ S75 => ?_)
        refine r_goto (tgt := 302) E (Mo_readsFact_dc.at 89 rfl) (by decide) ?_
        cases h
        exact r_vret E S75 True.intro (Mo_readsFact_dc.at 155 rfl)
    · have h := ite_f h q
      refine u_al_n (x := x0) E (Mo_readsFact_dc.at 71 rfl) hl rfl ?_
      refine r_iconst E (Mo_readsFact_dc.at 72 rfl) ?_
      refine r_iconst E (Mo_readsFact_dc.at 73 rfl) ?_
      refine u_al_n (x := x0) E (Mo_readsFact_dc.at 74 rfl) hl rfl ?_
      refine r_bipush E (Mo_readsFact_dc.at 75 rfl) rfl ?_
      obtain ⟨M77, r76, er76, h⟩ := bd2_e h
      refine u_cVI (As := [.int (zO 99)]) (rest := [.int (zO 0), .int (zO 0), zR G.2.2.1 x0]) E S28 zcw_yX12_takesNumber zw_7_183 zq_4_5 zw_7_181 zck_12.1 rfl g23 (Mo_takesNumber_c l G fu top L M27 x0 99 hx0 (show InR 99 by decide) er76) (zrm_ok (by omega) (by decide)) ⟨Nat.le_refl 0, Nat.le_refl 0⟩ rfl (by simp [zR_cat, zcat_I, zcat_J, zcat_S]) hl.size rfl (Mo_readsFact_dc.at 76 rfl) (fun H locs hr76 S78 => ?_)
      obtain ⟨M79, eM79, h⟩ := bd1_e h
      refine u_cVU (As := [.int (zO 0), .int (zO 0), .int (zO r76)]) (rest := []) E S78 zcw_yX12_lays zw_8_6 zq_5_3 zw_8_4 zck_12.1 rfl g23 (Mo_lays_c l G fu top L M77 x0 0 0 r76 hx0 (show InR 0 by decide) (show InR 0 by decide) hr76 eM79) (zrm_ok (by omega) (by decide)) ⟨Nat.le_refl 0, Nat.le_refl 0⟩ rfl (Nat.zero_le 8) hl.size rfl (Mo_readsFact_dc.at 77 rfl) (fun H locs _ S80 => ?_)
      refine r_goto (tgt := 302) E (Mo_readsFact_dc.at 78 rfl) (by decide) ?_
      cases h
      exact r_vret E S80 True.intro (Mo_readsFact_dc.at 155 rfl)
  · have h := ite_f h q
    cases h
    exact r_vret E S25 True.intro (Mo_readsFact_dc.at 66 rfl)
theorem Mo_readsFact_b94_w (E : zEv p m c cX12_readsFact 4 s args RX12 meth none G) (HR : zh_Mo_readsAll l G zd top L rec) (hzd : 9 ≤ zd) {res : zM} {M : zM} {x0 : Int} {y0 : Int} {H : Heap} {locs : List Loc} {ls : Array Slot} (hx0 : InR x0) (hy0 : InR y0) (S : zS G top L M s H locs) (hl : zLV ls 4 [some (zR G.2.2.1 x0), none, none, none]) (h : Mo_readsFact_b94 fu rec L M x0 y0 = some res) : W p l e (zrm (zd + 1) 0 0) s m args below meth c H locs 0 0 (MQ below (zQ G top L res none True) args s 0 0 (zA G)) (F0 m 94 ls [.int (zO y0)]) := by
  unfold Mo_readsFact_b94 at h
  refine u_ist_n (y := y0) (vs' := [some (zR G.2.2.1 x0), none, some (.int (zO y0)), none]) E rfl (Mo_readsFact_dc.at 46 rfl) hl (by decide) rfl (fun ls hl => ?_)
  refine u_il_n (x := y0) E (Mo_readsFact_dc.at 47 rfl) hl rfl ?_
  refine r_if_eq (tgt := 116) E hy0 (Mo_readsFact_dc.at 48 rfl) (by decide) (fun q => ?_) (fun q => ?_)
  · have h := ite_t h q
    refine u_al_n (x := x0) E (Mo_readsFact_dc.at 57 rfl) hl rfl ?_
    obtain ⟨g17, h⟩ := ite_e h
    obtain ⟨M18, eM18, h⟩ := bd1_e h
    refine u_cVU (As := []) (rest := []) E S zcw_yX12_bad zw_7_179 zq_4_4 zw_7_177 zck_12.1 rfl g17 (Mo_bad_c l G fu top L M x0 hx0 eM18) (zrm_ok (by omega) (by decide)) ⟨Nat.le_refl 0, Nat.le_refl 0⟩ rfl (Nat.zero_le 8) hl.size rfl (Mo_readsFact_dc.at 58 rfl) (fun H locs _ S19 => ?_)
    cases h
    exact r_vret E S19 True.intro (Mo_readsFact_dc.at 59 rfl)
  · have h := ite_f h q
    refine u_al_n (x := x0) E (Mo_readsFact_dc.at 49 rfl) hl rfl ?_
    refine r_ldcS (j := 25) E (Mo_readsFact_dc.at 50 rfl) rfl ?_
    obtain ⟨g20, h⟩ := ite_e h
    obtain ⟨r21, er21, h⟩ := bd1_e h
    refine u_cVI (As := [.ref (G.2.2.2.1 25)]) (rest := []) E S zcw_yX12_isWord zw_7_192 zq_4_7 zw_7_190 zck_12.1 rfl g20 (Mo_isWord_c l G fu top L M x0 25 hx0 er21) (zrm_ok (by omega) (by decide)) ⟨Nat.le_refl 0, Nat.le_refl 0⟩ rfl (Nat.zero_le 8) hl.size rfl (Mo_readsFact_dc.at 51 rfl) (fun H locs hr21 S22 => ?_)
    refine r_if_eq (tgt := 121) E (inR_01 hr21) (Mo_readsFact_dc.at 52 rfl) (by decide) (fun q => ?_) (fun q => ?_)
    · have h := ite_t h q
      exact Mo_readsFact_b121_w (x0 := x0)  E HR hzd hx0 S22 (hl.sub (And.intro rfl True.intro)) h
    · have h := ite_f h q
      refine u_al_n (x := x0) E (Mo_readsFact_dc.at 53 rfl) hl rfl ?_
      refine u_gI E zf_12_13 S22 g20 zw_6_220 (Mo_readsFact_dc.at 54 rfl) ?_
      refine r_iconst E (Mo_readsFact_dc.at 55 rfl) ?_
      refine r_icmp_ne (tgt := 121) E (S22.1.inR _ _) (show InR 5 by decide) (Mo_readsFact_dc.at 56 rfl) (by decide) (fun q => ?_) (fun q => ?_)
      · have h := ite_t h q
        refine u_al_n (x := x0) E (Mo_readsFact_dc.at 57 rfl) hl rfl ?_
        obtain ⟨M81, eM81, h⟩ := bd1_e h
        refine u_cVU (As := []) (rest := []) E S22 zcw_yX12_bad zw_7_179 zq_4_4 zw_7_177 zck_12.1 rfl g20 (Mo_bad_c l G fu top L M x0 hx0 eM81) (zrm_ok (by omega) (by decide)) ⟨Nat.le_refl 0, Nat.le_refl 0⟩ rfl (Nat.zero_le 8) hl.size rfl (Mo_readsFact_dc.at 58 rfl) (fun H locs _ S82 => ?_)
        cases h
        exact r_vret E S82 True.intro (Mo_readsFact_dc.at 59 rfl)
      · have h := ite_f h q
        exact Mo_readsFact_b121_w (x0 := x0)  E HR hzd hx0 S22 (hl.sub (And.intro rfl True.intro)) h
theorem Mo_readsFact_b39_w (E : zEv p m c cX12_readsFact 4 s args RX12 meth none G) (HR : zh_Mo_readsAll l G zd top L rec) (hzd : 9 ≤ zd) {res : zM} {M : zM} {x0 : Int} {y0 : Int} {H : Heap} {locs : List Loc} {ls : Array Slot} (hx0 : InR x0) (hy0 : InR y0) (S : zS G top L M s H locs) (hl : zLV ls 4 [some (zR G.2.2.1 x0), none, none, none]) (h : Mo_readsFact_b39 fu rec L M x0 y0 = some res) : W p l e (zrm (zd + 1) 0 0) s m args below meth c H locs 0 0 (MQ below (zQ G top L res none True) args s 0 0 (zA G)) (F0 m 39 ls [.int (zO y0)]) := by
  unfold Mo_readsFact_b39 at h
  refine u_ist_n (y := y0) (vs' := [some (zR G.2.2.1 x0), some (.int (zO y0)), none, none]) E rfl (Mo_readsFact_dc.at 20 rfl) hl (by decide) rfl (fun ls hl => ?_)
  refine u_il_n (x := y0) E (Mo_readsFact_dc.at 21 rfl) hl rfl ?_
  refine r_if_ne (tgt := 89) E hy0 (Mo_readsFact_dc.at 22 rfl) (by decide) (fun q => ?_) (fun q => ?_)
  · have h := ite_t h q
    refine u_al_n (x := x0) E (Mo_readsFact_dc.at 23 rfl) hl rfl ?_
    refine r_ldcS (j := 21) E (Mo_readsFact_dc.at 24 rfl) rfl ?_
    obtain ⟨g6, h⟩ := ite_e h
    obtain ⟨r7, er7, h⟩ := bd1_e h
    refine u_cVI (As := [.ref (G.2.2.2.1 21)]) (rest := []) E S zcw_yX12_isWord zw_7_192 zq_4_7 zw_7_190 zck_12.1 rfl g6 (Mo_isWord_c l G fu top L M x0 21 hx0 er7) (zrm_ok (by omega) (by decide)) ⟨Nat.le_refl 0, Nat.le_refl 0⟩ rfl (Nat.zero_le 8) hl.size rfl (Mo_readsFact_dc.at 25 rfl) (fun H locs hr7 S8 => ?_)
    refine r_if_ne (tgt := 89) E (inR_01 hr7) (Mo_readsFact_dc.at 26 rfl) (by decide) (fun q => ?_) (fun q => ?_)
    · have h := ite_t h q
      refine u_al_n (x := x0) E (Mo_readsFact_dc.at 27 rfl) hl rfl ?_
      refine r_ldcS (j := 22) E (Mo_readsFact_dc.at 28 rfl) rfl ?_
      obtain ⟨r9, er9, h⟩ := bd1_e h
      refine u_cVI (As := [.ref (G.2.2.2.1 22)]) (rest := []) E S8 zcw_yX12_isWord zw_7_192 zq_4_7 zw_7_190 zck_12.1 rfl g6 (Mo_isWord_c l G fu top L M x0 22 hx0 er9) (zrm_ok (by omega) (by decide)) ⟨Nat.le_refl 0, Nat.le_refl 0⟩ rfl (Nat.zero_le 8) hl.size rfl (Mo_readsFact_dc.at 29 rfl) (fun H locs hr9 S10 => ?_)
      refine r_if_ne (tgt := 89) E (inR_01 hr9) (Mo_readsFact_dc.at 30 rfl) (by decide) (fun q => ?_) (fun q => ?_)
      · have h := ite_t h q
        refine u_al_n (x := x0) E (Mo_readsFact_dc.at 31 rfl) hl rfl ?_
        refine r_ldcS (j := 23) E (Mo_readsFact_dc.at 32 rfl) rfl ?_
        obtain ⟨r11, er11, h⟩ := bd1_e h
        refine u_cVI (As := [.ref (G.2.2.2.1 23)]) (rest := []) E S10 zcw_yX12_isWord zw_7_192 zq_4_7 zw_7_190 zck_12.1 rfl g6 (Mo_isWord_c l G fu top L M x0 23 hx0 er11) (zrm_ok (by omega) (by decide)) ⟨Nat.le_refl 0, Nat.le_refl 0⟩ rfl (Nat.zero_le 8) hl.size rfl (Mo_readsFact_dc.at 33 rfl) (fun H locs hr11 S12 => ?_)
        refine r_if_ne (tgt := 89) E (inR_01 hr11) (Mo_readsFact_dc.at 34 rfl) (by decide) (fun q => ?_) (fun q => ?_)
        · have h := ite_t h q
          refine u_al_n (x := x0) E (Mo_readsFact_dc.at 35 rfl) hl rfl ?_
          refine r_ldcS (j := 24) E (Mo_readsFact_dc.at 36 rfl) rfl ?_
          obtain ⟨r13, er13, h⟩ := bd1_e h
          refine u_cVI (As := [.ref (G.2.2.2.1 24)]) (rest := []) E S12 zcw_yX12_isWord zw_7_192 zq_4_7 zw_7_190 zck_12.1 rfl g6 (Mo_isWord_c l G fu top L M x0 24 hx0 er13) (zrm_ok (by omega) (by decide)) ⟨Nat.le_refl 0, Nat.le_refl 0⟩ rfl (Nat.zero_le 8) hl.size rfl (Mo_readsFact_dc.at 37 rfl) (fun H locs hr13 S14 => ?_)
          refine r_if_ne (tgt := 89) E (inR_01 hr13) (Mo_readsFact_dc.at 38 rfl) (by decide) (fun q => ?_) (fun q => ?_)
          · have h := ite_t h q
            refine u_al_n (x := x0) E (Mo_readsFact_dc.at 39 rfl) hl rfl ?_
            refine r_ldcS (j := 25) E (Mo_readsFact_dc.at 40 rfl) rfl ?_
            obtain ⟨r15, er15, h⟩ := bd1_e h
            refine u_cVI (As := [.ref (G.2.2.2.1 25)]) (rest := []) E S14 zcw_yX12_isWord zw_7_192 zq_4_7 zw_7_190 zck_12.1 rfl g6 (Mo_isWord_c l G fu top L M x0 25 hx0 er15) (zrm_ok (by omega) (by decide)) ⟨Nat.le_refl 0, Nat.le_refl 0⟩ rfl (Nat.zero_le 8) hl.size rfl (Mo_readsFact_dc.at 41 rfl) (fun H locs hr15 S16 => ?_)
            refine r_if_eq (tgt := 93) E (inR_01 hr15) (Mo_readsFact_dc.at 42 rfl) (by decide) (fun q => ?_) (fun q => ?_)
            · have h := ite_t h q
              refine r_iconst E (Mo_readsFact_dc.at 45 rfl) ?_
              exact Mo_readsFact_b94_w (x0 := x0) (y0 := 0) E HR hzd hx0 (show InR 0 by decide) S16 (hl.sub (And.intro rfl True.intro)) h
            · have h := ite_f h q
              refine r_iconst E (Mo_readsFact_dc.at 43 rfl) ?_
              refine r_goto (tgt := 94) E (Mo_readsFact_dc.at 44 rfl) (by decide) ?_
              exact Mo_readsFact_b94_w (x0 := x0) (y0 := 1) E HR hzd hx0 (show InR 1 by decide) S16 (hl.sub (And.intro rfl True.intro)) h
          · have h := ite_f h q
            refine r_iconst E (Mo_readsFact_dc.at 43 rfl) ?_
            refine r_goto (tgt := 94) E (Mo_readsFact_dc.at 44 rfl) (by decide) ?_
            exact Mo_readsFact_b94_w (x0 := x0) (y0 := 1) E HR hzd hx0 (show InR 1 by decide) S14 (hl.sub (And.intro rfl True.intro)) h
        · have h := ite_f h q
          refine r_iconst E (Mo_readsFact_dc.at 43 rfl) ?_
          refine r_goto (tgt := 94) E (Mo_readsFact_dc.at 44 rfl) (by decide) ?_
          exact Mo_readsFact_b94_w (x0 := x0) (y0 := 1) E HR hzd hx0 (show InR 1 by decide) S12 (hl.sub (And.intro rfl True.intro)) h
      · have h := ite_f h q
        refine r_iconst E (Mo_readsFact_dc.at 43 rfl) ?_
        refine r_goto (tgt := 94) E (Mo_readsFact_dc.at 44 rfl) (by decide) ?_
        exact Mo_readsFact_b94_w (x0 := x0) (y0 := 1) E HR hzd hx0 (show InR 1 by decide) S10 (hl.sub (And.intro rfl True.intro)) h
    · have h := ite_f h q
      refine r_iconst E (Mo_readsFact_dc.at 43 rfl) ?_
      refine r_goto (tgt := 94) E (Mo_readsFact_dc.at 44 rfl) (by decide) ?_
      exact Mo_readsFact_b94_w (x0 := x0) (y0 := 1) E HR hzd hx0 (show InR 1 by decide) S8 (hl.sub (And.intro rfl True.intro)) h
  · have h := ite_f h q
    refine r_iconst E (Mo_readsFact_dc.at 43 rfl) ?_
    refine r_goto (tgt := 94) E (Mo_readsFact_dc.at 44 rfl) (by decide) ?_
    exact Mo_readsFact_b94_w (x0 := x0) (y0 := 1) E HR hzd hx0 (show InR 1 by decide) S (hl.sub (And.intro rfl True.intro)) h
theorem Mo_readsFact_w (E : zEv p m c cX12_readsFact 4 s args RX12 meth none G) (HR : zh_Mo_readsAll l G zd top L rec) (hzd : 9 ≤ zd) {res : zM} {M : zM} {a0 : Int} {H : Heap} {locs : List Loc} {ls : Array Slot} (ha0 : InR a0) (S : zS G top L M s H locs) (hl : zLV ls 4 [some (zR G.2.2.1 a0), none, none, none]) (h : Mo_readsFact_r fu rec L M a0 = some res) : W p l e (zrm (zd + 1) 0 0) s m args below meth c H locs 0 0 (MQ below (zQ G top L res none True) args s 0 0 (zA G)) (F0 m 0 ls []) := by
  unfold Mo_readsFact_r at h
  refine u_al_n (x := a0) E (Mo_readsFact_dc.at 0 rfl) hl rfl ?_
  refine r_bipush E (Mo_readsFact_dc.at 1 rfl) rfl ?_
  obtain ⟨g1, h⟩ := ite_e h
  obtain ⟨r2, er2, h⟩ := bd1_e h
  refine u_cVI (As := [.int (zO 40)]) (rest := []) E S zcw_yX12_isSign zw_7_202 zq_4_9 zw_7_200 zck_12.1 rfl g1 (Mo_isSign_c l G fu top L M a0 40 ha0 (show InR 40 by decide) er2) (zrm_ok (by omega) (by decide)) ⟨Nat.le_refl 0, Nat.le_refl 0⟩ rfl (Nat.zero_le 8) hl.size rfl (Mo_readsFact_dc.at 2 rfl) (fun H locs hr2 S3 => ?_)
  refine r_if_eq (tgt := 14) E (inR_01 hr2) (Mo_readsFact_dc.at 3 rfl) (by decide) (fun q => ?_) (fun q => ?_)
  · have h := ite_t h q
    refine u_al_n (x := a0) E (Mo_readsFact_dc.at 7 rfl) hl rfl ?_
    obtain ⟨r4, er4, h⟩ := bd1_e h
    refine u_cVI (As := []) (rest := []) E S3 zcw_yX12_letter zw_7_171 zq_4_2 zw_7_169 zck_12.1 rfl g1 (Mo_letter_c l G fu top L M a0 ha0 er4) (zrm_ok (by omega) (by decide)) ⟨Nat.le_refl 0, Nat.le_refl 0⟩ rfl (Nat.zero_le 8) hl.size rfl (Mo_readsFact_dc.at 8 rfl) (fun H locs hr4 S5 => ?_)
    refine r_iconst E (Mo_readsFact_dc.at 9 rfl) ?_
    refine r_icmp_eq (tgt := 38) E hr4 (show InR (-1) by decide) (Mo_readsFact_dc.at 10 rfl) (by decide) (fun q => ?_) (fun q => ?_)
    · have h := ite_t h q
      refine r_iconst E (Mo_readsFact_dc.at 19 rfl) ?_
      exact Mo_readsFact_b39_w (x0 := a0) (y0 := 0) E HR hzd ha0 (show InR 0 by decide) S5 (hl.sub (And.intro rfl True.intro)) h
    · have h := ite_f h q
      refine u_al_n (x := a0) E (Mo_readsFact_dc.at 11 rfl) hl rfl ?_
      refine u_al_n (x := a0) E (Mo_readsFact_dc.at 12 rfl) hl rfl ?_
      obtain ⟨r83, er83, h⟩ := bd1_e h
      refine u_cVI (As := []) (rest := [zR G.2.2.1 a0]) E S5 zcw_yX12_letter zw_7_171 zq_4_2 zw_7_169 zck_12.1 rfl g1 (Mo_letter_c l G fu top L M a0 ha0 er83) (zrm_ok (by omega) (by decide)) ⟨Nat.le_refl 0, Nat.le_refl 0⟩ rfl (by simp [zR_cat, zcat_I, zcat_J, zcat_S]) hl.size rfl (Mo_readsFact_dc.at 13 rfl) (fun H locs hr83 S84 => ?_)
      obtain ⟨r85, er85, h⟩ := bd1_e h
      refine u_cVI (As := [.int (zO r83)]) (rest := []) E S84 zcw_yX12_lifeOf zw_7_225 zq_4_14 zw_7_223 zck_12.1 rfl g1 (Mo_lifeOf_c l G fu top L M a0 r83 ha0 hr83 er85) (zrm_ok (by omega) (by decide)) ⟨Nat.le_refl 0, Nat.le_refl 0⟩ rfl (Nat.zero_le 8) hl.size rfl (Mo_readsFact_dc.at 14 rfl) (fun H locs hr85 S86 => ?_)
      refine r_iconst E (Mo_readsFact_dc.at 15 rfl) ?_
      refine r_icmp_eq (tgt := 38) E hr85 (show InR (-1) by decide) (Mo_readsFact_dc.at 16 rfl) (by decide) (fun q => ?_) (fun q => ?_)
      · have h := ite_t h q
        refine r_iconst E (Mo_readsFact_dc.at 19 rfl) ?_
        exact Mo_readsFact_b39_w (x0 := a0) (y0 := 0) E HR hzd ha0 (show InR 0 by decide) S86 (hl.sub (And.intro rfl True.intro)) h
      · have h := ite_f h q
        refine r_iconst E (Mo_readsFact_dc.at 17 rfl) ?_
        refine r_goto (tgt := 39) E (Mo_readsFact_dc.at 18 rfl) (by decide) ?_
        exact Mo_readsFact_b39_w (x0 := a0) (y0 := 1) E HR hzd ha0 (show InR 1 by decide) S86 (hl.sub (And.intro rfl True.intro)) h
  · have h := ite_f h q
    refine u_al_n (x := a0) E (Mo_readsFact_dc.at 4 rfl) hl rfl ?_
    obtain ⟨M87, eM87, h⟩ := bd1_e h
    refine u_cVU (As := []) (rest := []) E S3 zcw_yX12_readsWithin zw_8_2 zq_5_2 zw_8_0 zck_12.1 rfl g1 (HR.2.2.2 M a0 ha0 eM87) (zrm_ok (by omega) (by decide)) ⟨Nat.le_refl 0, Nat.le_refl 0⟩ rfl (Nat.zero_le 8) hl.size rfl (Mo_readsFact_dc.at 5 rfl) (fun H locs _ S88 => ?_)
    cases h
    exact r_vret E S88 True.intro (Mo_readsFact_dc.at 6 rfl)
theorem Mo_readsWay_s4_w (E : zEv p m c cX12_readsWay 1 s args RX12 meth none G) (HR : zh_Mo_readsAll l G zd top L rec) (hzd : 9 ≤ zd) {res : zM} {k4 : zM → Int → Option zM} (hk4 : ∀ (M : zM) (x0 : Int), InR x0 → ∀ (H : Heap) (locs : List Loc) (ls : Array Slot), zS G top L M s H locs → zLV ls 1 [some (zR G.2.2.1 x0)] → k4 M x0 = some res → W p l e (zrm (zd + 1) 0 0) s m args below meth c H locs 0 0 (MQ below (zQ G top L res none True) args s 0 0 (zA G)) (F0 m 4 ls [])) {M : zM} {x0 : Int} {H : Heap} {locs : List Loc} {ls : Array Slot} (hx0 : InR x0) (S : zS G top L M s H locs) (hl : zLV ls 1 [some (zR G.2.2.1 x0)]) (h : Mo_readsWay_s4 fu rec k4 L M x0 = some res) : W p l e (zrm (zd + 1) 0 0) s m args below meth c H locs 0 0 (MQ below (zQ G top L res none True) args s 0 0 (zA G)) (F0 m 4 ls []) := by
  unfold Mo_readsWay_s4 at h
  refine u_al_n (x := x0) E (Mo_readsWay_dc.at 2 rfl) hl rfl ?_
  obtain ⟨g4, h⟩ := ite_e h
  refine u_gI E zf_12_5 S g4 zw_6_212 (Mo_readsWay_dc.at 3 rfl) ?_
  refine r_iconst E (Mo_readsWay_dc.at 4 rfl) ?_
  refine r_icmp_ne (tgt := 36) E (S.1.inR _ _) (show InR (-1) by decide) (Mo_readsWay_dc.at 5 rfl) (by decide) (fun q => ?_) (fun q => ?_)
  · have h := ite_t h q
    refine u_al_n (x := x0) E (Mo_readsWay_dc.at 6 rfl) hl rfl ?_
    refine r_ldcS (j := 26) E (Mo_readsWay_dc.at 7 rfl) rfl ?_
    obtain ⟨M6, r5, er5, h⟩ := bd2_e h
    refine u_cVI (As := [.ref (G.2.2.2.1 26)]) (rest := []) E S zcw_yX12_takesWord zw_7_188 zq_4_6 zw_7_186 zck_12.1 rfl g4 (Mo_takesWord_c l G fu top L M x0 26 hx0 er5) (zrm_ok (by omega) (by decide)) ⟨Nat.le_refl 0, Nat.le_refl 0⟩ rfl (Nat.zero_le 8) hl.size rfl (Mo_readsWay_dc.at 8 rfl) (fun H locs hr5 S7 => ?_)
    refine r_if_eq (tgt := 36) E (inR_01 hr5) (Mo_readsWay_dc.at 9 rfl) (by decide) (fun q => ?_) (fun q => ?_)
    · have h := ite_t h q
      cases h
      exact r_vret E S7 True.intro (Mo_readsWay_dc.at 18 rfl)
    · have h := ite_f h q
      refine u_al_n (x := x0) E (Mo_readsWay_dc.at 10 rfl) hl rfl ?_
      refine r_bipush E (Mo_readsWay_dc.at 11 rfl) rfl ?_
      refine r_iconst E (Mo_readsWay_dc.at 12 rfl) ?_
      refine r_iconst E (Mo_readsWay_dc.at 13 rfl) ?_
      obtain ⟨M8, eM8, h⟩ := bd1_e h
      refine u_cVU (As := [.int (zO 8), .int (zO 0), .int (zO 0)]) (rest := []) E S7 zcw_yX12_lays zw_8_6 zq_5_3 zw_8_4 zck_12.1 rfl g4 (Mo_lays_c l G fu top L M6 x0 8 0 0 hx0 (show InR 8 by decide) (show InR 0 by decide) (show InR 0 by decide) eM8) (zrm_ok (by omega) (by decide)) ⟨Nat.le_refl 0, Nat.le_refl 0⟩ rfl (Nat.zero_le 8) hl.size rfl (Mo_readsWay_dc.at 14 rfl) (fun H locs _ S9 => ?_)
      refine u_al_n (x := x0) E (Mo_readsWay_dc.at 15 rfl) hl rfl ?_
      obtain ⟨M10, eM10, h⟩ := bd1_e h
      refine u_cVU (As := []) (rest := []) E S9 zcw_yX12_readsFact zw_7_238 zq_5_1 zw_7_236 zck_12.1 rfl g4 (HR.2.1 M8 x0 hx0 eM10) (zrm_ok (by omega) (by decide)) ⟨Nat.le_refl 0, Nat.le_refl 0⟩ rfl (Nat.zero_le 8) hl.size rfl (Mo_readsWay_dc.at 16 rfl) (fun H locs _ S11 => ?_)
      refine r_goto (tgt := 4) E (Mo_readsWay_dc.at 17 rfl) (by decide) ?_
      exact hk4 _ x0 hx0 _ _ _ S11 (hl.sub (And.intro rfl True.intro)) h
  · have h := ite_f h q
    cases h
    exact r_vret E S True.intro (Mo_readsWay_dc.at 18 rfl)
theorem Mo_readsWay_l4_w (E : zEv p m c cX12_readsWay 1 s args RX12 meth none G) (HR : zh_Mo_readsAll l G zd top L rec) (hzd : 9 ≤ zd) {res : zM} : ∀ (n : Nat) (M : zM) (x0 : Int), InR x0 → ∀ (H : Heap) (locs : List Loc) (ls : Array Slot), zS G top L M s H locs → zLV ls 1 [some (zR G.2.2.1 x0)] → Mo_readsWay_l4 fu rec L n M x0 = some res → W p l e (zrm (zd + 1) 0 0) s m args below meth c H locs 0 0 (MQ below (zQ G top L res none True) args s 0 0 (zA G)) (F0 m 4 ls [])
  | 0, _, _ => fun _ _ _ _ _ _ h => (by cases h)
  | n + 1, M, x0 => fun hx0 H locs ls S hl h => Mo_readsWay_s4_w E HR hzd (fun M x0 hx0 H locs ls S hl h => Mo_readsWay_l4_w E HR hzd n M x0 hx0 H locs ls S hl h) hx0 S hl h
theorem Mo_readsWay_w (E : zEv p m c cX12_readsWay 1 s args RX12 meth none G) (HR : zh_Mo_readsAll l G zd top L rec) (hzd : 9 ≤ zd) {res : zM} {M : zM} {a0 : Int} {H : Heap} {locs : List Loc} {ls : Array Slot} (ha0 : InR a0) (S : zS G top L M s H locs) (hl : zLV ls 1 [some (zR G.2.2.1 a0)]) (h : Mo_readsWay_r fu rec L M a0 = some res) : W p l e (zrm (zd + 1) 0 0) s m args below meth c H locs 0 0 (MQ below (zQ G top L res none True) args s 0 0 (zA G)) (F0 m 0 ls []) := by
  unfold Mo_readsWay_r at h
  refine u_al_n (x := a0) E (Mo_readsWay_dc.at 0 rfl) hl rfl ?_
  obtain ⟨g1, h⟩ := ite_e h
  obtain ⟨M2, eM2, h⟩ := bd1_e h
  refine u_cVU (As := []) (rest := []) E S zcw_yX12_readsFact zw_7_238 zq_5_1 zw_7_236 zck_12.1 rfl g1 (HR.2.1 M a0 ha0 eM2) (zrm_ok (by omega) (by decide)) ⟨Nat.le_refl 0, Nat.le_refl 0⟩ rfl (Nat.zero_le 8) hl.size rfl (Mo_readsWay_dc.at 1 rfl) (fun H locs _ S3 => ?_)
  exact Mo_readsWay_l4_w E HR hzd fu _ a0 ha0 _ _ _ S3 (hl.sub (And.intro rfl True.intro)) h
theorem Mo_readsWithin_b61_w (E : zEv p m c cX12_readsWithin 1 s args RX12 meth none G) (HR : zh_Mo_readsAll l G zd top L rec) (hzd : 9 ≤ zd) {res : zM} {M : zM} {x0 : Int} {H : Heap} {locs : List Loc} {ls : Array Slot} (hx0 : InR x0) (S : zS G top L M s H locs) (hl : zLV ls 1 [some (zR G.2.2.1 x0)]) (h : Mo_readsWithin_b61 fu rec L M x0 = some res) : W p l e (zrm (zd + 1) 0 0) s m args below meth c H locs 0 0 (MQ below (zQ G top L res none True) args s 0 0 (zA G)) (F0 m 61 ls []) := by
  unfold Mo_readsWithin_b61 at h
  refine u_al_n (x := x0) E (Mo_readsWithin_dc.at 33 rfl) hl rfl ?_
  refine r_bipush E (Mo_readsWithin_dc.at 34 rfl) rfl ?_
  refine r_iconst E (Mo_readsWithin_dc.at 35 rfl) ?_
  refine r_iconst E (Mo_readsWithin_dc.at 36 rfl) ?_
  obtain ⟨g18, h⟩ := ite_e h
  obtain ⟨M19, eM19, h⟩ := bd1_e h
  refine u_cVU (As := [.int (zO 7), .int (zO 0), .int (zO 0)]) (rest := []) E S zcw_yX12_lays zw_8_6 zq_5_3 zw_8_4 zck_12.1 rfl g18 (Mo_lays_c l G fu top L M x0 7 0 0 hx0 (show InR 7 by decide) (show InR 0 by decide) (show InR 0 by decide) eM19) (zrm_ok (by omega) (by decide)) ⟨Nat.le_refl 0, Nat.le_refl 0⟩ rfl (Nat.zero_le 8) hl.size rfl (Mo_readsWithin_dc.at 37 rfl) (fun H locs _ S20 => ?_)
  refine u_al_n (x := x0) E (Mo_readsWithin_dc.at 38 rfl) hl rfl ?_
  refine r_dup E (Mo_readsWithin_dc.at 39 rfl) (zR_cat _ _) ?_
  refine u_gI E zf_12_13 S20 g18 zw_6_220 (Mo_readsWithin_dc.at 40 rfl) ?_
  refine r_iconst E (Mo_readsWithin_dc.at 41 rfl) ?_
  refine r_isub E (Mo_readsWithin_dc.at 42 rfl) ?_
  obtain ⟨M21, eM21, h⟩ := lt1_e h
  refine u_pI E eM21 zf_12_13 S20 g18 (inR_w32 _) (Or.inl rfl) rfl zw_6_220 (Mo_readsWithin_dc.at 43 rfl) (fun H locs S22 => ?_)
  cases h
  exact r_vret E S22 True.intro (Mo_readsWithin_dc.at 44 rfl)
theorem Mo_readsWithin_w (E : zEv p m c cX12_readsWithin 1 s args RX12 meth none G) (HR : zh_Mo_readsAll l G zd top L rec) (hzd : 9 ≤ zd) {res : zM} {M : zM} {a0 : Int} {H : Heap} {locs : List Loc} {ls : Array Slot} (ha0 : InR a0) (S : zS G top L M s H locs) (hl : zLV ls 1 [some (zR G.2.2.1 a0)]) (h : Mo_readsWithin_r fu rec L M a0 = some res) : W p l e (zrm (zd + 1) 0 0) s m args below meth c H locs 0 0 (MQ below (zQ G top L res none True) args s 0 0 (zA G)) (F0 m 0 ls []) := by
  unfold Mo_readsWithin_r at h
  refine u_al_n (x := a0) E (Mo_readsWithin_dc.at 0 rfl) hl rfl ?_
  obtain ⟨g1, h⟩ := ite_e h
  refine u_gI E zf_12_13 S g1 zw_6_220 (Mo_readsWithin_dc.at 1 rfl) ?_
  refine r_iconst E (Mo_readsWithin_dc.at 2 rfl) ?_
  refine r_icmp_ne (tgt := 13) E (S.1.inR _ _) (show InR 5 by decide) (Mo_readsWithin_dc.at 3 rfl) (by decide) (fun q => ?_) (fun q => ?_)
  · have h := ite_t h q
    refine u_al_n (x := a0) E (Mo_readsWithin_dc.at 4 rfl) hl rfl ?_
    obtain ⟨M2, eM2, h⟩ := bd1_e h
    refine u_cVU (As := []) (rest := []) E S zcw_yX12_bad zw_7_179 zq_4_4 zw_7_177 zck_12.1 rfl g1 (Mo_bad_c l G fu top L M a0 ha0 eM2) (zrm_ok (by omega) (by decide)) ⟨Nat.le_refl 0, Nat.le_refl 0⟩ rfl (Nat.zero_le 8) hl.size rfl (Mo_readsWithin_dc.at 5 rfl) (fun H locs _ S3 => ?_)
    cases h
    exact r_vret E S3 True.intro (Mo_readsWithin_dc.at 6 rfl)
  · have h := ite_f h q
    refine u_al_n (x := a0) E (Mo_readsWithin_dc.at 7 rfl) hl rfl ?_
    obtain ⟨M4, eM4, h⟩ := bd1_e h
    refine u_cVU (As := []) (rest := []) E S zcw_yX12_next zw_7_151 zq_3_15 zw_7_149 zck_12.1 rfl g1 (Mo_next_c l G fu top L M a0 ha0 eM4) (zrm_ok (by omega) (by decide)) ⟨Nat.le_refl 0, Nat.le_refl 0⟩ rfl (Nat.zero_le 8) hl.size rfl (Mo_readsWithin_dc.at 8 rfl) (fun H locs _ S5 => ?_)
    refine u_al_n (x := a0) E (Mo_readsWithin_dc.at 9 rfl) hl rfl ?_
    refine r_dup E (Mo_readsWithin_dc.at 10 rfl) (zR_cat _ _) ?_
    refine u_gI E zf_12_13 S5 g1 zw_6_220 (Mo_readsWithin_dc.at 11 rfl) ?_
    refine r_iconst E (Mo_readsWithin_dc.at 12 rfl) ?_
    refine r_iadd E (Mo_readsWithin_dc.at 13 rfl) ?_
    obtain ⟨M6, eM6, h⟩ := lt1_e h
    refine u_pI E eM6 zf_12_13 S5 g1 (inR_w32 _) (Or.inl rfl) rfl zw_6_220 (Mo_readsWithin_dc.at 14 rfl) (fun H locs S7 => ?_)
    refine u_al_n (x := a0) E (Mo_readsWithin_dc.at 15 rfl) hl rfl ?_
    refine r_bipush E (Mo_readsWithin_dc.at 16 rfl) rfl ?_
    refine r_iconst E (Mo_readsWithin_dc.at 17 rfl) ?_
    refine r_iconst E (Mo_readsWithin_dc.at 18 rfl) ?_
    obtain ⟨M8, eM8, h⟩ := bd1_e h
    refine u_cVU (As := [.int (zO 6), .int (zO 0), .int (zO 0)]) (rest := []) E S7 zcw_yX12_lays zw_8_6 zq_5_3 zw_8_4 zck_12.1 rfl g1 (Mo_lays_c l G fu top L M6 a0 6 0 0 ha0 (show InR 6 by decide) (show InR 0 by decide) (show InR 0 by decide) eM8) (zrm_ok (by omega) (by decide)) ⟨Nat.le_refl 0, Nat.le_refl 0⟩ rfl (Nat.zero_le 8) hl.size rfl (Mo_readsWithin_dc.at 19 rfl) (fun H locs _ S9 => ?_)
    refine u_al_n (x := a0) E (Mo_readsWithin_dc.at 20 rfl) hl rfl ?_
    obtain ⟨M11, r10, er10, h⟩ := bd2_e h
    refine u_cVI (As := []) (rest := []) E S9 zcw_yX12_readsAll zw_7_230 zq_4_15 zw_7_228 zck_12.1 rfl g1 (HR.1 M8 a0 ha0 er10) (zrm_ok (by omega) (by decide)) ⟨Nat.le_refl 0, Nat.le_refl 0⟩ rfl (Nat.zero_le 8) hl.size rfl (Mo_readsWithin_dc.at 21 rfl) (fun H locs hr10 S12 => ?_)
    refine r_pop E (Mo_readsWithin_dc.at 22 rfl) (zcat_I _) ?_
    refine u_al_n (x := a0) E (Mo_readsWithin_dc.at 23 rfl) hl rfl ?_
    refine u_gI E zf_12_5 S12 g1 zw_6_212 (Mo_readsWithin_dc.at 24 rfl) ?_
    refine r_iconst E (Mo_readsWithin_dc.at 25 rfl) ?_
    refine r_icmp_ne (tgt := 61) E (S12.1.inR _ _) (show InR (-1) by decide) (Mo_readsWithin_dc.at 26 rfl) (by decide) (fun q => ?_) (fun q => ?_)
    · have h := ite_t h q
      refine u_al_n (x := a0) E (Mo_readsWithin_dc.at 27 rfl) hl rfl ?_
      refine r_bipush E (Mo_readsWithin_dc.at 28 rfl) rfl ?_
      obtain ⟨M14, r13, er13, h⟩ := bd2_e h
      refine u_cVI (As := [.int (zO 41)]) (rest := []) E S12 zcw_yX12_takesSign zw_7_198 zq_4_8 zw_7_196 zck_12.1 rfl g1 (Mo_takesSign_c l G fu top L M11 a0 41 ha0 (show InR 41 by decide) er13) (zrm_ok (by omega) (by decide)) ⟨Nat.le_refl 0, Nat.le_refl 0⟩ rfl (Nat.zero_le 8) hl.size rfl (Mo_readsWithin_dc.at 29 rfl) (fun H locs hr13 S15 => ?_)
      refine r_if_ne (tgt := 61) E (inR_01 hr13) (Mo_readsWithin_dc.at 30 rfl) (by decide) (fun q => ?_) (fun q => ?_)
      · have h := ite_t h q
        refine u_al_n (x := a0) E (Mo_readsWithin_dc.at 31 rfl) hl rfl ?_
        obtain ⟨M16, eM16, h⟩ := bd1_e h
        refine u_cVU (As := []) (rest := []) E S15 zcw_yX12_bad zw_7_179 zq_4_4 zw_7_177 zck_12.1 rfl g1 (Mo_bad_c l G fu top L M14 a0 ha0 eM16) (zrm_ok (by omega) (by decide)) ⟨Nat.le_refl 0, Nat.le_refl 0⟩ rfl (Nat.zero_le 8) hl.size rfl (Mo_readsWithin_dc.at 32 rfl) (fun H locs _ S17 => ?_)
        exact Mo_readsWithin_b61_w (x0 := a0)  E HR hzd ha0 S17 (hl.sub (And.intro rfl True.intro)) h
      · have h := ite_f h q
        exact Mo_readsWithin_b61_w (x0 := a0)  E HR hzd ha0 S15 (hl.sub (And.intro rfl True.intro)) h
    · have h := ite_f h q
      exact Mo_readsWithin_b61_w (x0 := a0)  E HR hzd ha0 S12 (hl.sub (And.intro rfl True.intro)) h
end
theorem zg_Mo_readsAll_h (l : Launch) (G : zG) (fu : Nat) (top : Int) (L : zL) : ∀ n : Nat, zh_Mo_readsAll l G (9 + n) top L (zg_Mo_readsAll fu L n)
  | 0 => ⟨fun _ _ _ _ h => (by cases h), fun _ _ _ _ h => (by cases h), fun _ _ _ _ h => (by cases h), fun _ _ _ _ h => (by cases h)⟩
  | n + 1 => ⟨fun M a0 res ha0 h => z_met (by decide +kernel) (by simp [zR_cat, zcat_I, zcat_S]) (Nat.le_of_ble_eq_true rfl) fun p e s m below meth c ls E hn S hl => Mo_readsAll_w E (zd := 9 + n) (zg_Mo_readsAll_h l G fu top L n) (by omega) ha0 S (hl.sub (And.intro rfl True.intro)) h, fun M a0 res ha0 h => z_met (by decide +kernel) (by simp [zR_cat, zcat_I, zcat_S]) (Nat.le_of_ble_eq_true rfl) fun p e s m below meth c ls E hn S hl => Mo_readsFact_w E (zd := 9 + n) (zg_Mo_readsAll_h l G fu top L n) (by omega) ha0 S (hl.sub (And.intro rfl True.intro)) h, fun M a0 res ha0 h => z_met (by decide +kernel) (by simp [zR_cat, zcat_I, zcat_S]) (Nat.le_of_ble_eq_true rfl) fun p e s m below meth c ls E hn S hl => Mo_readsWay_w E (zd := 9 + n) (zg_Mo_readsAll_h l G fu top L n) (by omega) ha0 S (hl.sub (And.intro rfl True.intro)) h, fun M a0 res ha0 h => z_met (by decide +kernel) (by simp [zR_cat, zcat_I, zcat_S]) (Nat.le_of_ble_eq_true rfl) fun p e s m below meth c ls E hn S hl => Mo_readsWithin_w E (zd := 9 + n) (zg_Mo_readsAll_h l G fu top L n) (by omega) ha0 S (hl.sub (And.intro rfl True.intro)) h⟩
theorem Mo_readsAll_c (l : Launch) (G : zG) (fu : Nat) (top : Int) (L : zL) (M : zM) (a0 : Int) {res : (zM × Int)} (ha0 : InR a0) (h : Mo_readsAll fu L M a0 = some res) : Met l yX12_readsAll (Cond.code yX12_readsAll cX12_readsAll 2 (some .int) :: zTB) (zrm 49 0 0) (va_Pc [zR G.2.2.1 a0] (zPre G top L M)) (zQ G top L res.1 (some (.int (zO res.2))) (InR res.2)) 0 0 (zA G) := (zg_Mo_readsAll_h l G fu top L 40).1 M a0 ha0 h
theorem Mo_readsFact_c (l : Launch) (G : zG) (fu : Nat) (top : Int) (L : zL) (M : zM) (a0 : Int) {res : zM} (ha0 : InR a0) (h : Mo_readsFact fu L M a0 = some res) : Met l yX12_readsFact (Cond.code yX12_readsFact cX12_readsFact 4 none :: zTB) (zrm 49 0 0) (va_Pc [zR G.2.2.1 a0] (zPre G top L M)) (zQ G top L res none True) 0 0 (zA G) := (zg_Mo_readsAll_h l G fu top L 40).2.1 M a0 ha0 h
theorem Mo_readsWay_c (l : Launch) (G : zG) (fu : Nat) (top : Int) (L : zL) (M : zM) (a0 : Int) {res : zM} (ha0 : InR a0) (h : Mo_readsWay fu L M a0 = some res) : Met l yX12_readsWay (Cond.code yX12_readsWay cX12_readsWay 1 none :: zTB) (zrm 49 0 0) (va_Pc [zR G.2.2.1 a0] (zPre G top L M)) (zQ G top L res none True) 0 0 (zA G) := (zg_Mo_readsAll_h l G fu top L 40).2.2.1 M a0 ha0 h
theorem Mo_readsWithin_c (l : Launch) (G : zG) (fu : Nat) (top : Int) (L : zL) (M : zM) (a0 : Int) {res : zM} (ha0 : InR a0) (h : Mo_readsWithin fu L M a0 = some res) : Met l yX12_readsWithin (Cond.code yX12_readsWithin cX12_readsWithin 1 none :: zTB) (zrm 49 0 0) (va_Pc [zR G.2.2.1 a0] (zPre G top L M)) (zQ G top L res none True) 0 0 (zA G) := (zg_Mo_readsAll_h l G fu top L 40).2.2.2 M a0 ha0 h
