theorem Tp_isDigit_dc : zDL cX7_isDigit [(0, .iload_n 0, 1, 1), (1, .bipush 48, 2, 3), (3, .if_icmp .lt 13, 3, 6), (6, .iload_n 0, 1, 7), (7, .bipush 57, 2, 9), (9, .if_icmp .gt 7, 3, 12), (12, .iconst 1, 1, 13), (13, .goto 4, 3, 16), (16, .iconst 0, 1, 17), (17, .ireturn, 1, 18)] := zDL.of (by decide +kernel)
section
variable {p : Program} {l : Launch} {e : Env} {s : State} {m : MethodId} {args : Array Value} {below : List Frame} {meth : Method} {c : Code} {G : zG} {top : Int} {L : zL} {fu : Nat}
theorem Tp_isDigit_w (E : zEv p m c cX7_isDigit 1 s args RX7 meth (some .boolean) G) {res : Int} {M : zM} {a0 : Int} {H : Heap} {locs : List Loc} {ls : Array Slot} (ha0 : InR a0) (S : zS G top L M s H locs) (hl : zLV ls 1 [some (.int (zO a0))]) (h : Tp_isDigit fu L M a0 = some res) : W p l e (zrm 1 0 0) s m args below meth c H locs 0 0 (MQ below (zQ G top L M (some (.int (zO res))) (0 ≤ res ∧ res ≤ 1)) args s 0 0 (zA G)) (F0 m 0 ls []) := by
  unfold Tp_isDigit at h
  refine u_il_n (x := a0) E (Tp_isDigit_dc.at 0 rfl) hl rfl ?_
  refine r_bipush E (Tp_isDigit_dc.at 1 rfl) rfl ?_
  refine r_icmp_lt (tgt := 16) E ha0 (show InR 48 by decide) (Tp_isDigit_dc.at 2 rfl) (by decide) (fun q => ?_) (fun q => ?_)
  · have h := ite_t h q
    refine r_iconst E (Tp_isDigit_dc.at 8 rfl) ?_
    cases h
    exact r_zret E S z01_0 z01_0 (Tp_isDigit_dc.at 9 rfl)
  · have h := ite_f h q
    refine u_il_n (x := a0) E (Tp_isDigit_dc.at 3 rfl) hl rfl ?_
    refine r_bipush E (Tp_isDigit_dc.at 4 rfl) rfl ?_
    refine r_icmp_gt (tgt := 16) E ha0 (show InR 57 by decide) (Tp_isDigit_dc.at 5 rfl) (by decide) (fun q => ?_) (fun q => ?_)
    · have h := ite_t h q
      refine r_iconst E (Tp_isDigit_dc.at 8 rfl) ?_
      cases h
      exact r_zret E S z01_0 z01_0 (Tp_isDigit_dc.at 9 rfl)
    · have h := ite_f h q
      refine r_iconst E (Tp_isDigit_dc.at 6 rfl) ?_
      refine r_goto (tgt := 17) E (Tp_isDigit_dc.at 7 rfl) (by decide) ?_
      cases h
      exact r_zret E S z01_1 z01_1 (Tp_isDigit_dc.at 9 rfl)
theorem Tp_isDigit_c (l : Launch) (G : zG) (fu : Nat) (top : Int) (L : zL) (M : zM) (a0 : Int) {res : Int} (ha0 : InR a0) (h : Tp_isDigit fu L M a0 = some res) : Met l yX7_isDigit (Cond.code yX7_isDigit cX7_isDigit 1 (some .boolean) :: zTB) (zrm 1 0 0) (va_Pc [.int (zO a0)] (zPre G top L M)) (zQ G top L M (some (.int (zO res))) (0 ≤ res ∧ res ≤ 1)) 0 0 (zA G) :=
  z_met (by decide +kernel) (by simp [zR_cat, zcat_I, zcat_S]) (Nat.le_of_ble_eq_true rfl) fun p e s m below meth c ls E hn S hl => Tp_isDigit_w E ha0 S (hl.sub (And.intro rfl True.intro)) h
end
theorem Tp_pastDigits_dc : zDL cX7_pastDigits [(0, .iload_n 1, 1, 1), (1, .istore_n 2, 1, 2), (2, .iload_n 2, 1, 3), (3, .aload_n 0, 1, 4), (4, .getfield 18, 3, 7), (7, .if_icmp .ge 20, 3, 10), (10, .aload_n 0, 1, 11), (11, .iload_n 2, 1, 12), (12, .invokevirtual 38, 3, 15), (15, .invokestatic 51, 3, 18), (18, .ifCond .eq 9, 3, 21), (21, .iinc 2 1, 3, 24), (24, .goto (-22), 3, 27), (27, .iload_n 2, 1, 28), (28, .ireturn, 1, 29)] := zDL.of (by decide +kernel)
section
variable {p : Program} {l : Launch} {e : Env} {s : State} {m : MethodId} {args : Array Value} {below : List Frame} {meth : Method} {c : Code} {G : zG} {top : Int} {L : zL} {fu : Nat}
theorem Tp_pastDigits_s2_w (E : zEv p m c cX7_pastDigits 3 s args RX7 meth (some .int) G) {res : Int} {k2 : zM → Int → Int → Option Int} (hk2 : ∀ (M : zM) (x0 : Int) (x2 : Int), InR x0 → InR x2 → ∀ (H : Heap) (locs : List Loc) (ls : Array Slot), zS G top L M s H locs → zLV ls 3 [some (zR G.2.2.1 x0), none, some (.int (zO x2))] → k2 M x0 x2 = some res → W p l e (zrm 2 0 0) s m args below meth c H locs 0 0 (MQ below (zQ G top L M (some (.int (zO res))) (InR res)) args s 0 0 (zA G)) (F0 m 2 ls [])) {M : zM} {x0 : Int} {x2 : Int} {H : Heap} {locs : List Loc} {ls : Array Slot} (hx0 : InR x0) (hx2 : InR x2) (S : zS G top L M s H locs) (hl : zLV ls 3 [some (zR G.2.2.1 x0), none, some (.int (zO x2))]) (h : Tp_pastDigits_s2 fu k2 L M x0 x2 = some res) : W p l e (zrm 2 0 0) s m args below meth c H locs 0 0 (MQ below (zQ G top L M (some (.int (zO res))) (InR res)) args s 0 0 (zA G)) (F0 m 2 ls []) := by
  unfold Tp_pastDigits_s2 at h
  refine u_il_n (x := x2) E (Tp_pastDigits_dc.at 2 rfl) hl rfl ?_
  refine u_al_n (x := x0) E (Tp_pastDigits_dc.at 3 rfl) hl rfl ?_
  obtain ⟨g1, h⟩ := ite_e h
  refine u_gI E zf_7_2 S g1 zw_1_43 (Tp_pastDigits_dc.at 4 rfl) ?_
  refine r_icmp_ge (tgt := 27) E hx2 (S.1.inR _ _) (Tp_pastDigits_dc.at 5 rfl) (by decide) (fun q => ?_) (fun q => ?_)
  · have h := ite_t h q
    refine u_al_n (x := x0) E (Tp_pastDigits_dc.at 6 rfl) hl rfl ?_
    refine u_il_n (x := x2) E (Tp_pastDigits_dc.at 7 rfl) hl rfl ?_
    obtain ⟨r2, er2, h⟩ := bd1_e h
    refine u_cVI (As := [.int (zO x2)]) (rest := []) E S zcw_yX7_at zw_2_214 zw_2_215 zw_2_213 zck_7.1 rfl g1 (Tp_at_c l G fu top L M x0 x2 hx0 hx2 er2) (zrm_ok (by decide) (by decide)) ⟨Nat.le_refl 0, Nat.le_refl 0⟩ rfl (Nat.zero_le 8) hl.size rfl (Tp_pastDigits_dc.at 8 rfl) (fun H locs hr2 S3 => ?_)
    obtain ⟨r4, er4, h⟩ := bd1_e h
    refine u_cSI (As := [.int (zO r2)]) (rest := []) E S3 zcw_yX7_isDigit zw_2_225 zw_2_224 (Tp_isDigit_c l G fu top L M r2 hr2 er4) (zrm_ok (by decide) (by decide)) ⟨Nat.le_refl 0, Nat.le_refl 0⟩ rfl (Nat.zero_le 8) hl.size rfl (Tp_pastDigits_dc.at 9 rfl) (fun H locs hr4 S5 => ?_)
    refine r_if_eq (tgt := 27) E (inR_01 hr4) (Tp_pastDigits_dc.at 10 rfl) (by decide) (fun q => ?_) (fun q => ?_)
    · have h := ite_t h q
      refine u_il_n (x := x2) E (Tp_pastDigits_dc.at 13 rfl) hl rfl ?_
      cases h
      exact r_iret E S5 hx2 (Tp_pastDigits_dc.at 14 rfl)
    · have h := ite_f h q
      obtain ⟨v6, ev6, h⟩ := lt1_e h
      have hv6 := inR_eq ev6 (inR_w32 _)
      refine u_iinc (y := v6) (vs' := [some (zR G.2.2.1 x0), none, some (.int (zO v6))]) E ev6 (Tp_pastDigits_dc.at 11 rfl) hl rfl (by decide) rfl (fun ls hl => ?_)
      refine r_goto (tgt := 2) E (Tp_pastDigits_dc.at 12 rfl) (by decide) ?_
      exact hk2 _ x0 v6 hx0 hv6 _ _ _ S5 (hl.sub (And.intro rfl (And.intro rfl True.intro))) h
  · have h := ite_f h q
    refine u_il_n (x := x2) E (Tp_pastDigits_dc.at 13 rfl) hl rfl ?_
    cases h
    exact r_iret E S hx2 (Tp_pastDigits_dc.at 14 rfl)
theorem Tp_pastDigits_l2_w (E : zEv p m c cX7_pastDigits 3 s args RX7 meth (some .int) G) {res : Int} : ∀ (n : Nat) (M : zM) (x0 : Int) (x2 : Int), InR x0 → InR x2 → ∀ (H : Heap) (locs : List Loc) (ls : Array Slot), zS G top L M s H locs → zLV ls 3 [some (zR G.2.2.1 x0), none, some (.int (zO x2))] → Tp_pastDigits_l2 fu L n M x0 x2 = some res → W p l e (zrm 2 0 0) s m args below meth c H locs 0 0 (MQ below (zQ G top L M (some (.int (zO res))) (InR res)) args s 0 0 (zA G)) (F0 m 2 ls [])
  | 0, _, _, _ => fun _ _ _ _ _ _ _ h => (by cases h)
  | n + 1, M, x0, x2 => fun hx0 hx2 H locs ls S hl h => Tp_pastDigits_s2_w E (fun M x0 x2 hx0 hx2 H locs ls S hl h => Tp_pastDigits_l2_w E n M x0 x2 hx0 hx2 H locs ls S hl h) hx0 hx2 S hl h
theorem Tp_pastDigits_w (E : zEv p m c cX7_pastDigits 3 s args RX7 meth (some .int) G) {res : Int} {M : zM} {a0 : Int} {a1 : Int} {H : Heap} {locs : List Loc} {ls : Array Slot} (ha0 : InR a0) (ha1 : InR a1) (S : zS G top L M s H locs) (hl : zLV ls 3 [some (zR G.2.2.1 a0), some (.int (zO a1)), none]) (h : Tp_pastDigits fu L M a0 a1 = some res) : W p l e (zrm 2 0 0) s m args below meth c H locs 0 0 (MQ below (zQ G top L M (some (.int (zO res))) (InR res)) args s 0 0 (zA G)) (F0 m 0 ls []) := by
  unfold Tp_pastDigits at h
  refine u_il_n (x := a1) E (Tp_pastDigits_dc.at 0 rfl) hl rfl ?_
  refine u_ist_n (y := a1) (vs' := [some (zR G.2.2.1 a0), some (.int (zO a1)), some (.int (zO a1))]) E rfl (Tp_pastDigits_dc.at 1 rfl) hl (by decide) rfl (fun ls hl => ?_)
  exact Tp_pastDigits_l2_w E fu _ a0 a1 ha0 ha1 _ _ _ S (hl.sub (And.intro rfl (And.intro rfl True.intro))) h
theorem Tp_pastDigits_c (l : Launch) (G : zG) (fu : Nat) (top : Int) (L : zL) (M : zM) (a0 : Int) (a1 : Int) {res : Int} (ha0 : InR a0) (ha1 : InR a1) (h : Tp_pastDigits fu L M a0 a1 = some res) : Met l yX7_pastDigits (Cond.code yX7_pastDigits cX7_pastDigits 3 (some .int) :: zTB) (zrm 2 0 0) (va_Pc [zR G.2.2.1 a0, .int (zO a1)] (zPre G top L M)) (zQ G top L M (some (.int (zO res))) (InR res)) 0 0 (zA G) :=
  z_met (by decide +kernel) (by simp [zR_cat, zcat_I, zcat_S]) (Nat.le_of_ble_eq_true rfl) fun p e s m below meth c ls E hn S hl => Tp_pastDigits_w E ha0 ha1 S (hl.sub (And.intro rfl (And.intro rfl True.intro))) h
end
theorem Tp_valueOf_dc : zDL cX7_valueOf [(0, .iconst 0, 1, 1), (1, .istore_n 3, 1, 2), (2, .iload_n 1, 1, 3), (3, .istore 4, 2, 5), (5, .iload 4, 2, 7), (7, .iload_n 2, 1, 8), (8, .if_icmp .ge 24, 3, 11), (11, .iload_n 3, 1, 12), (12, .bipush 10, 2, 14), (14, .imul, 1, 15), (15, .aload_n 0, 1, 16), (16, .iload 4, 2, 18), (18, .invokevirtual 38, 3, 21), (21, .iadd, 1, 22), (22, .bipush 48, 2, 24), (24, .isub, 1, 25), (25, .istore_n 3, 1, 26), (26, .iinc 4 1, 3, 29), (29, .goto (-24), 3, 32), (32, .iload_n 3, 1, 33), (33, .ireturn, 1, 34)] := zDL.of (by decide +kernel)
section
variable {p : Program} {l : Launch} {e : Env} {s : State} {m : MethodId} {args : Array Value} {below : List Frame} {meth : Method} {c : Code} {G : zG} {top : Int} {L : zL} {fu : Nat}
theorem Tp_valueOf_s5_w (E : zEv p m c cX7_valueOf 5 s args RX7 meth (some .int) G) {res : Int} {k5 : zM → Int → Int → Int → Int → Option Int} (hk5 : ∀ (M : zM) (x0 : Int) (x2 : Int) (x3 : Int) (x4 : Int), InR x0 → InR x2 → InR x3 → InR x4 → ∀ (H : Heap) (locs : List Loc) (ls : Array Slot), zS G top L M s H locs → zLV ls 5 [some (zR G.2.2.1 x0), none, some (.int (zO x2)), some (.int (zO x3)), some (.int (zO x4))] → k5 M x0 x2 x3 x4 = some res → W p l e (zrm 2 0 0) s m args below meth c H locs 0 0 (MQ below (zQ G top L M (some (.int (zO res))) (InR res)) args s 0 0 (zA G)) (F0 m 5 ls [])) {M : zM} {x0 : Int} {x2 : Int} {x3 : Int} {x4 : Int} {H : Heap} {locs : List Loc} {ls : Array Slot} (hx0 : InR x0) (hx2 : InR x2) (hx3 : InR x3) (hx4 : InR x4) (S : zS G top L M s H locs) (hl : zLV ls 5 [some (zR G.2.2.1 x0), none, some (.int (zO x2)), some (.int (zO x3)), some (.int (zO x4))]) (h : Tp_valueOf_s5 fu k5 L M x0 x2 x3 x4 = some res) : W p l e (zrm 2 0 0) s m args below meth c H locs 0 0 (MQ below (zQ G top L M (some (.int (zO res))) (InR res)) args s 0 0 (zA G)) (F0 m 5 ls []) := by
  unfold Tp_valueOf_s5 at h
  refine u_il (x := x4) E (Tp_valueOf_dc.at 4 rfl) hl rfl ?_
  refine u_il_n (x := x2) E (Tp_valueOf_dc.at 5 rfl) hl rfl ?_
  refine r_icmp_ge (tgt := 32) E hx4 hx2 (Tp_valueOf_dc.at 6 rfl) (by decide) (fun q => ?_) (fun q => ?_)
  · have h := ite_t h q
    refine u_il_n (x := x3) E (Tp_valueOf_dc.at 7 rfl) hl rfl ?_
    refine r_bipush E (Tp_valueOf_dc.at 8 rfl) rfl ?_
    refine r_imul E (Tp_valueOf_dc.at 9 rfl) ?_
    refine u_al_n (x := x0) E (Tp_valueOf_dc.at 10 rfl) hl rfl ?_
    refine u_il (x := x4) E (Tp_valueOf_dc.at 11 rfl) hl rfl ?_
    obtain ⟨g1, h⟩ := ite_e h
    obtain ⟨r2, er2, h⟩ := bd1_e h
    refine u_cVI (As := [.int (zO x4)]) (rest := [.int (zO (w32 (x3 * 10)))]) E S zcw_yX7_at zw_2_214 zw_2_215 zw_2_213 zck_7.1 rfl g1 (Tp_at_c l G fu top L M x0 x4 hx0 hx4 er2) (zrm_ok (by decide) (by decide)) ⟨Nat.le_refl 0, Nat.le_refl 0⟩ rfl (by simp [zR_cat, zcat_I, zcat_J, zcat_S]) hl.size rfl (Tp_valueOf_dc.at 12 rfl) (fun H locs hr2 S3 => ?_)
    refine r_iadd E (Tp_valueOf_dc.at 13 rfl) ?_
    refine r_bipush E (Tp_valueOf_dc.at 14 rfl) rfl ?_
    refine r_isub E (Tp_valueOf_dc.at 15 rfl) ?_
    obtain ⟨v4, ev4, h⟩ := lt1_e h
    have hv4 := inR_eq ev4 (inR_w32 _)
    refine u_ist_n (y := v4) (vs' := [some (zR G.2.2.1 x0), none, some (.int (zO x2)), some (.int (zO v4)), some (.int (zO x4))]) E ev4 (Tp_valueOf_dc.at 16 rfl) hl (by decide) rfl (fun ls hl => ?_)
    obtain ⟨v5, ev5, h⟩ := lt1_e h
    have hv5 := inR_eq ev5 (inR_w32 _)
    refine u_iinc (y := v5) (vs' := [some (zR G.2.2.1 x0), none, some (.int (zO x2)), some (.int (zO v4)), some (.int (zO v5))]) E ev5 (Tp_valueOf_dc.at 17 rfl) hl rfl (by decide) rfl (fun ls hl => ?_)
    refine r_goto (tgt := 5) E (Tp_valueOf_dc.at 18 rfl) (by decide) ?_
    exact hk5 _ x0 x2 v4 v5 hx0 hx2 hv4 hv5 _ _ _ S3 (hl.sub (And.intro rfl (And.intro rfl (And.intro rfl (And.intro rfl True.intro))))) h
  · have h := ite_f h q
    refine u_il_n (x := x3) E (Tp_valueOf_dc.at 19 rfl) hl rfl ?_
    cases h
    exact r_iret E S hx3 (Tp_valueOf_dc.at 20 rfl)
theorem Tp_valueOf_l5_w (E : zEv p m c cX7_valueOf 5 s args RX7 meth (some .int) G) {res : Int} : ∀ (n : Nat) (M : zM) (x0 : Int) (x2 : Int) (x3 : Int) (x4 : Int), InR x0 → InR x2 → InR x3 → InR x4 → ∀ (H : Heap) (locs : List Loc) (ls : Array Slot), zS G top L M s H locs → zLV ls 5 [some (zR G.2.2.1 x0), none, some (.int (zO x2)), some (.int (zO x3)), some (.int (zO x4))] → Tp_valueOf_l5 fu L n M x0 x2 x3 x4 = some res → W p l e (zrm 2 0 0) s m args below meth c H locs 0 0 (MQ below (zQ G top L M (some (.int (zO res))) (InR res)) args s 0 0 (zA G)) (F0 m 5 ls [])
  | 0, _, _, _, _, _ => fun _ _ _ _ _ _ _ _ _ h => (by cases h)
  | n + 1, M, x0, x2, x3, x4 => fun hx0 hx2 hx3 hx4 H locs ls S hl h => Tp_valueOf_s5_w E (fun M x0 x2 x3 x4 hx0 hx2 hx3 hx4 H locs ls S hl h => Tp_valueOf_l5_w E n M x0 x2 x3 x4 hx0 hx2 hx3 hx4 H locs ls S hl h) hx0 hx2 hx3 hx4 S hl h
theorem Tp_valueOf_w (E : zEv p m c cX7_valueOf 5 s args RX7 meth (some .int) G) {res : Int} {M : zM} {a0 : Int} {a1 : Int} {a2 : Int} {H : Heap} {locs : List Loc} {ls : Array Slot} (ha0 : InR a0) (ha1 : InR a1) (ha2 : InR a2) (S : zS G top L M s H locs) (hl : zLV ls 5 [some (zR G.2.2.1 a0), some (.int (zO a1)), some (.int (zO a2)), none, none]) (h : Tp_valueOf fu L M a0 a1 a2 = some res) : W p l e (zrm 2 0 0) s m args below meth c H locs 0 0 (MQ below (zQ G top L M (some (.int (zO res))) (InR res)) args s 0 0 (zA G)) (F0 m 0 ls []) := by
  unfold Tp_valueOf at h
  refine r_iconst E (Tp_valueOf_dc.at 0 rfl) ?_
  refine u_ist_n (y := 0) (vs' := [some (zR G.2.2.1 a0), some (.int (zO a1)), some (.int (zO a2)), some (.int (zO 0)), none]) E rfl (Tp_valueOf_dc.at 1 rfl) hl (by decide) rfl (fun ls hl => ?_)
  refine u_il_n (x := a1) E (Tp_valueOf_dc.at 2 rfl) hl rfl ?_
  refine u_ist (y := a1) (vs' := [some (zR G.2.2.1 a0), some (.int (zO a1)), some (.int (zO a2)), some (.int (zO 0)), some (.int (zO a1))]) E rfl (Tp_valueOf_dc.at 3 rfl) hl (by decide) rfl (fun ls hl => ?_)
  exact Tp_valueOf_l5_w E fu _ a0 a2 0 a1 ha0 ha2 (show InR 0 by decide) ha1 _ _ _ S (hl.sub (And.intro rfl (And.intro rfl (And.intro rfl (And.intro rfl True.intro))))) h
theorem Tp_valueOf_c (l : Launch) (G : zG) (fu : Nat) (top : Int) (L : zL) (M : zM) (a0 : Int) (a1 : Int) (a2 : Int) {res : Int} (ha0 : InR a0) (ha1 : InR a1) (ha2 : InR a2) (h : Tp_valueOf fu L M a0 a1 a2 = some res) : Met l yX7_valueOf (Cond.code yX7_valueOf cX7_valueOf 5 (some .int) :: zTB) (zrm 2 0 0) (va_Pc [zR G.2.2.1 a0, .int (zO a1), .int (zO a2)] (zPre G top L M)) (zQ G top L M (some (.int (zO res))) (InR res)) 0 0 (zA G) :=
  z_met (by decide +kernel) (by simp [zR_cat, zcat_I, zcat_S]) (Nat.le_of_ble_eq_true rfl) fun p e s m below meth c ls E hn S hl => Tp_valueOf_w E ha0 ha1 ha2 S (hl.sub (And.intro rfl (And.intro rfl (And.intro rfl True.intro)))) h
end
theorem Tp_advance_dc : zDL cX7_advance [(0, .aload_n 0, 1, 1), (1, .aload_n 0, 1, 2), (2, .aload_n 0, 1, 3), (3, .getfield 22, 3, 6), (6, .invokevirtual 28, 3, 9), (9, .putfield 32, 3, 12), (12, .aload_n 0, 1, 13), (13, .iconst (-1), 1, 14), (14, .putfield 35, 3, 17), (17, .aload_n 0, 1, 18), (18, .aload_n 0, 1, 19), (19, .getfield 32, 3, 22), (22, .invokevirtual 38, 3, 25), (25, .istore_n 1, 1, 26), (26, .iload_n 1, 1, 27), (27, .ifCond .ne 19, 3, 30), (30, .aload_n 0, 1, 31), (31, .iconst 0, 1, 32), (32, .putfield 41, 3, 35), (35, .aload_n 0, 1, 36), (36, .aload_n 0, 1, 37), (37, .getfield 32, 3, 40), (40, .putfield 22, 3, 43), (43, .goto 105, 3, 46), (46, .iload_n 1, 1, 47), (47, .invokestatic 44, 3, 50), (50, .ifCond .eq 23, 3, 53), (53, .aload_n 0, 1, 54), (54, .iconst 1, 1, 55), (55, .putfield 41, 3, 58), (58, .aload_n 0, 1, 59), (59, .aload_n 0, 1, 60), (60, .aload_n 0, 1, 61), (61, .getfield 32, 3, 64), (64, .invokevirtual 48, 3, 67), (67, .putfield 22, 3, 70), (70, .goto 78, 3, 73), (73, .iload_n 1, 1, 74), (74, .invokestatic 51, 3, 77), (77, .ifCond .eq 56, 3, 80), (80, .aload_n 0, 1, 81), (81, .iconst 2, 1, 82), (82, .putfield 41, 3, 85), (85, .aload_n 0, 1, 86), (86, .aload_n 0, 1, 87), (87, .aload_n 0, 1, 88), (88, .getfield 32, 3, 91), (91, .invokevirtual 54, 3, 94), (94, .putfield 22, 3, 97), (97, .aload_n 0, 1, 98), (98, .aload_n 0, 1, 99), (99, .getfield 22, 3, 102), (102, .aload_n 0, 1, 103), (103, .getfield 32, 3, 106), (106, .isub, 1, 107), (107, .iconst 3, 1, 108), (108, .if_icmp .le 7, 3, 111), (111, .iconst (-1), 1, 112), (112, .goto 15, 3, 115), (115, .aload_n 0, 1, 116), (116, .aload_n 0, 1, 117), (117, .getfield 32, 3, 120), (120, .aload_n 0, 1, 121), (121, .getfield 22, 3, 124), (124, .invokevirtual 57, 3, 127), (127, .putfield 35, 3, 130), (130, .goto 18, 3, 133), (133, .aload_n 0, 1, 134), (134, .iconst 3, 1, 135), (135, .putfield 41, 3, 138), (138, .aload_n 0, 1, 139), (139, .aload_n 0, 1, 140), (140, .getfield 32, 3, 143), (143, .iconst 1, 1, 144), (144, .iadd, 1, 145), (145, .putfield 22, 3, 148), (148, .return_, 1, 149)] := zDL.of (by decide +kernel)
section
variable {p : Program} {l : Launch} {e : Env} {s : State} {m : MethodId} {args : Array Value} {below : List Frame} {meth : Method} {c : Code} {G : zG} {top : Int} {L : zL} {fu : Nat}
theorem Tp_advance_w (E : zEv p m c cX7_advance 2 s args RX7 meth none G) {res : zM} {M : zM} {a0 : Int} {H : Heap} {locs : List Loc} {ls : Array Slot} (ha0 : InR a0) (S : zS G top L M s H locs) (hl : zLV ls 2 [some (zR G.2.2.1 a0), none]) (h : Tp_advance fu L M a0 = some res) : W p l e (zrm 3 0 0) s m args below meth c H locs 0 0 (MQ below (zQ G top L res none True) args s 0 0 (zA G)) (F0 m 0 ls []) := by
  unfold Tp_advance at h
  refine u_al_n (x := a0) E (Tp_advance_dc.at 0 rfl) hl rfl ?_
  refine u_al_n (x := a0) E (Tp_advance_dc.at 1 rfl) hl rfl ?_
  refine u_al_n (x := a0) E (Tp_advance_dc.at 2 rfl) hl rfl ?_
  obtain ⟨g1, h⟩ := ite_e h
  refine u_gI E zf_7_6 S g1 zw_1_51 (Tp_advance_dc.at 3 rfl) ?_
  obtain ⟨r2, er2, h⟩ := bd1_e h
  refine u_cVI (As := [.int (zO (M a0 6))]) (rest := [zR G.2.2.1 a0]) E S zcw_yX7_pastBlanks zw_2_211 zq_1_0 zw_2_209 zck_7.1 rfl g1 (Tp_pastBlanks_c l G fu top L M a0 (M a0 6) ha0 (S.1.inR _ _) er2) (zrm_ok (by decide) (by decide)) ⟨Nat.le_refl 0, Nat.le_refl 0⟩ rfl (by simp [zR_cat, zcat_I, zcat_J, zcat_S]) hl.size rfl (Tp_advance_dc.at 4 rfl) (fun H locs hr2 S3 => ?_)
  obtain ⟨M4, eM4, h⟩ := lt1_e h
  refine u_pI E eM4 zf_7_5 S3 g1 hr2 (Or.inl rfl) rfl zw_1_50 (Tp_advance_dc.at 5 rfl) (fun H locs S5 => ?_)
  refine u_al_n (x := a0) E (Tp_advance_dc.at 6 rfl) hl rfl ?_
  refine r_iconst E (Tp_advance_dc.at 7 rfl) ?_
  obtain ⟨M6, eM6, h⟩ := lt1_e h
  refine u_pI E eM6 zf_7_7 S5 g1 (show InR (-1) by decide) (Or.inl rfl) rfl zw_1_55 (Tp_advance_dc.at 8 rfl) (fun H locs S7 => ?_)
  refine u_al_n (x := a0) E (Tp_advance_dc.at 9 rfl) hl rfl ?_
  refine u_al_n (x := a0) E (Tp_advance_dc.at 10 rfl) hl rfl ?_
  refine u_gI E zf_7_5 S7 g1 zw_1_50 (Tp_advance_dc.at 11 rfl) ?_
  obtain ⟨r8, er8, h⟩ := bd1_e h
  refine u_cVI (As := [.int (zO (M6 a0 5))]) (rest := []) E S7 zcw_yX7_at zw_2_214 zw_2_215 zw_2_213 zck_7.1 rfl g1 (Tp_at_c l G fu top L M6 a0 (M6 a0 5) ha0 (S7.1.inR _ _) er8) (zrm_ok (by decide) (by decide)) ⟨Nat.le_refl 0, Nat.le_refl 0⟩ rfl (Nat.zero_le 8) hl.size rfl (Tp_advance_dc.at 12 rfl) (fun H locs hr8 S9 => ?_)
  refine u_ist_n (y := r8) (vs' := [some (zR G.2.2.1 a0), some (.int (zO r8))]) E rfl (Tp_advance_dc.at 13 rfl) hl (by decide) rfl (fun ls hl => ?_)
  refine u_il_n (x := r8) E (Tp_advance_dc.at 14 rfl) hl rfl ?_
  refine r_if_ne (tgt := 46) E hr8 (Tp_advance_dc.at 15 rfl) (by decide) (fun q => ?_) (fun q => ?_)
  · have h := ite_t h q
    refine u_al_n (x := a0) E (Tp_advance_dc.at 16 rfl) hl rfl ?_
    refine r_iconst E (Tp_advance_dc.at 17 rfl) ?_
    obtain ⟨M10, eM10, h⟩ := lt1_e h
    refine u_pI E eM10 zf_7_4 S9 g1 (show InR 0 by decide) (Or.inl rfl) rfl zw_1_45 (Tp_advance_dc.at 18 rfl) (fun H locs S11 => ?_)
    refine u_al_n (x := a0) E (Tp_advance_dc.at 19 rfl) hl rfl ?_
    refine u_al_n (x := a0) E (Tp_advance_dc.at 20 rfl) hl rfl ?_
    refine u_gI E zf_7_5 S11 g1 zw_1_50 (Tp_advance_dc.at 21 rfl) ?_
    obtain ⟨M12, eM12, h⟩ := lt1_e h
    refine u_pI E eM12 zf_7_6 S11 g1 (S11.1.inR _ _) (Or.inl rfl) rfl zw_1_51 (Tp_advance_dc.at 22 rfl) (fun H locs S13 => ?_)
    refine r_goto (tgt := 148) E (Tp_advance_dc.at 23 rfl) (by decide) ?_
    cases h
    exact r_vret E S13 True.intro (Tp_advance_dc.at 76 rfl)
  · have h := ite_f h q
    refine u_il_n (x := r8) E (Tp_advance_dc.at 24 rfl) hl rfl ?_
    obtain ⟨r14, er14, h⟩ := bd1_e h
    refine u_cSI (As := [.int (zO r8)]) (rest := []) E S9 zcw_yX7_isLetter zw_2_218 zw_2_217 (Tp_isLetter_c l G fu top L M6 r8 hr8 er14) (zrm_ok (by decide) (by decide)) ⟨Nat.le_refl 0, Nat.le_refl 0⟩ rfl (Nat.zero_le 8) hl.size rfl (Tp_advance_dc.at 25 rfl) (fun H locs hr14 S15 => ?_)
    refine r_if_eq (tgt := 73) E (inR_01 hr14) (Tp_advance_dc.at 26 rfl) (by decide) (fun q => ?_) (fun q => ?_)
    · have h := ite_t h q
      refine u_il_n (x := r8) E (Tp_advance_dc.at 37 rfl) hl rfl ?_
      obtain ⟨r16, er16, h⟩ := bd1_e h
      refine u_cSI (As := [.int (zO r8)]) (rest := []) E S15 zcw_yX7_isDigit zw_2_225 zw_2_224 (Tp_isDigit_c l G fu top L M6 r8 hr8 er16) (zrm_ok (by decide) (by decide)) ⟨Nat.le_refl 0, Nat.le_refl 0⟩ rfl (Nat.zero_le 8) hl.size rfl (Tp_advance_dc.at 38 rfl) (fun H locs hr16 S17 => ?_)
      refine r_if_eq (tgt := 133) E (inR_01 hr16) (Tp_advance_dc.at 39 rfl) (by decide) (fun q => ?_) (fun q => ?_)
      · have h := ite_t h q
        refine u_al_n (x := a0) E (Tp_advance_dc.at 67 rfl) hl rfl ?_
        refine r_iconst E (Tp_advance_dc.at 68 rfl) ?_
        obtain ⟨M18, eM18, h⟩ := lt1_e h
        refine u_pI E eM18 zf_7_4 S17 g1 (show InR 3 by decide) (Or.inl rfl) rfl zw_1_45 (Tp_advance_dc.at 69 rfl) (fun H locs S19 => ?_)
        refine u_al_n (x := a0) E (Tp_advance_dc.at 70 rfl) hl rfl ?_
        refine u_al_n (x := a0) E (Tp_advance_dc.at 71 rfl) hl rfl ?_
        refine u_gI E zf_7_5 S19 g1 zw_1_50 (Tp_advance_dc.at 72 rfl) ?_
        refine r_iconst E (Tp_advance_dc.at 73 rfl) ?_
        refine r_iadd E (Tp_advance_dc.at 74 rfl) ?_
        obtain ⟨M20, eM20, h⟩ := lt1_e h
        refine u_pI E eM20 zf_7_6 S19 g1 (inR_w32 _) (Or.inl rfl) rfl zw_1_51 (Tp_advance_dc.at 75 rfl) (fun H locs S21 => ?_)
        cases h
        exact r_vret E S21 True.intro (Tp_advance_dc.at 76 rfl)
      · have h := ite_f h q
        refine u_al_n (x := a0) E (Tp_advance_dc.at 40 rfl) hl rfl ?_
        refine r_iconst E (Tp_advance_dc.at 41 rfl) ?_
        obtain ⟨M22, eM22, h⟩ := lt1_e h
        refine u_pI E eM22 zf_7_4 S17 g1 (show InR 2 by decide) (Or.inl rfl) rfl zw_1_45 (Tp_advance_dc.at 42 rfl) (fun H locs S23 => ?_)
        refine u_al_n (x := a0) E (Tp_advance_dc.at 43 rfl) hl rfl ?_
        refine u_al_n (x := a0) E (Tp_advance_dc.at 44 rfl) hl rfl ?_
        refine u_al_n (x := a0) E (Tp_advance_dc.at 45 rfl) hl rfl ?_
        refine u_gI E zf_7_5 S23 g1 zw_1_50 (Tp_advance_dc.at 46 rfl) ?_
        obtain ⟨r24, er24, h⟩ := bd1_e h
        refine u_cVI (As := [.int (zO (M22 a0 5))]) (rest := [zR G.2.2.1 a0]) E S23 zcw_yX7_pastDigits zw_2_229 zq_1_2 zw_2_227 zck_7.1 rfl g1 (Tp_pastDigits_c l G fu top L M22 a0 (M22 a0 5) ha0 (S23.1.inR _ _) er24) (zrm_ok (by decide) (by decide)) ⟨Nat.le_refl 0, Nat.le_refl 0⟩ rfl (by simp [zR_cat, zcat_I, zcat_J, zcat_S]) hl.size rfl (Tp_advance_dc.at 47 rfl) (fun H locs hr24 S25 => ?_)
        obtain ⟨M26, eM26, h⟩ := lt1_e h
        refine u_pI E eM26 zf_7_6 S25 g1 hr24 (Or.inl rfl) rfl zw_1_51 (Tp_advance_dc.at 48 rfl) (fun H locs S27 => ?_)
        refine u_al_n (x := a0) E (Tp_advance_dc.at 49 rfl) hl rfl ?_
        refine u_al_n (x := a0) E (Tp_advance_dc.at 50 rfl) hl rfl ?_
        refine u_gI E zf_7_6 S27 g1 zw_1_51 (Tp_advance_dc.at 51 rfl) ?_
        refine u_al_n (x := a0) E (Tp_advance_dc.at 52 rfl) hl rfl ?_
        refine u_gI E zf_7_5 S27 g1 zw_1_50 (Tp_advance_dc.at 53 rfl) ?_
        refine r_isub E (Tp_advance_dc.at 54 rfl) ?_
        refine r_iconst E (Tp_advance_dc.at 55 rfl) ?_
        refine r_icmp_le (tgt := 115) E (inR_w32 _) (show InR 3 by decide) (Tp_advance_dc.at 56 rfl) (by decide) (fun q => ?_) (fun q => ?_)
        · have h := ite_t h q
          refine r_iconst E (Tp_advance_dc.at 57 rfl) ?_
          refine r_goto (tgt := 127) E (Tp_advance_dc.at 58 rfl) (by decide) ?_
          obtain ⟨M28, eM28, h⟩ := lt1_e h
          refine u_pI E eM28 zf_7_7 S27 g1 (show InR (-1) by decide) (Or.inl rfl) rfl zw_1_55 (Tp_advance_dc.at 65 rfl) (fun H locs S29 => ?_)
          refine r_goto (tgt := 148) E (Tp_advance_dc.at 66 rfl) (by decide) ?_
          cases h
          exact r_vret E S29 True.intro (Tp_advance_dc.at 76 rfl)
        · have h := ite_f h q
          refine u_al_n (x := a0) E (Tp_advance_dc.at 59 rfl) hl rfl ?_
          refine u_al_n (x := a0) E (Tp_advance_dc.at 60 rfl) hl rfl ?_
          refine u_gI E zf_7_5 S27 g1 zw_1_50 (Tp_advance_dc.at 61 rfl) ?_
          refine u_al_n (x := a0) E (Tp_advance_dc.at 62 rfl) hl rfl ?_
          refine u_gI E zf_7_6 S27 g1 zw_1_51 (Tp_advance_dc.at 63 rfl) ?_
          obtain ⟨r30, er30, h⟩ := bd1_e h
          refine u_cVI (As := [.int (zO (M26 a0 5)), .int (zO (M26 a0 6))]) (rest := [zR G.2.2.1 a0]) E S27 zcw_yX7_valueOf zw_2_233 zq_1_3 zw_2_231 zck_7.1 rfl g1 (Tp_valueOf_c l G fu top L M26 a0 (M26 a0 5) (M26 a0 6) ha0 (S27.1.inR _ _) (S27.1.inR _ _) er30) (zrm_ok (by decide) (by decide)) ⟨Nat.le_refl 0, Nat.le_refl 0⟩ rfl (by simp [zR_cat, zcat_I, zcat_J, zcat_S]) hl.size rfl (Tp_advance_dc.at 64 rfl) (fun H locs hr30 S31 => ?_)
          obtain ⟨M32, eM32, h⟩ := lt1_e h
          refine u_pI E eM32 zf_7_7 S31 g1 hr30 (Or.inl rfl) rfl zw_1_55 (Tp_advance_dc.at 65 rfl) (fun H locs S33 => ?_)
          refine r_goto (tgt := 148) E (Tp_advance_dc.at 66 rfl) (by decide) ?_
          cases h
          exact r_vret E S33 True.intro (Tp_advance_dc.at 76 rfl)
    · have h := ite_f h q
      refine u_al_n (x := a0) E (Tp_advance_dc.at 27 rfl) hl rfl ?_
      refine r_iconst E (Tp_advance_dc.at 28 rfl) ?_
      obtain ⟨M34, eM34, h⟩ := lt1_e h
      refine u_pI E eM34 zf_7_4 S15 g1 (show InR 1 by decide) (Or.inl rfl) rfl zw_1_45 (Tp_advance_dc.at 29 rfl) (fun H locs S35 => ?_)
      refine u_al_n (x := a0) E (Tp_advance_dc.at 30 rfl) hl rfl ?_
      refine u_al_n (x := a0) E (Tp_advance_dc.at 31 rfl) hl rfl ?_
      refine u_al_n (x := a0) E (Tp_advance_dc.at 32 rfl) hl rfl ?_
      refine u_gI E zf_7_5 S35 g1 zw_1_50 (Tp_advance_dc.at 33 rfl) ?_
      obtain ⟨r36, er36, h⟩ := bd1_e h
      refine u_cVI (As := [.int (zO (M34 a0 5))]) (rest := [zR G.2.2.1 a0]) E S35 zcw_yX7_pastLetters zw_2_222 zq_1_1 zw_2_220 zck_7.1 rfl g1 (Tp_pastLetters_c l G fu top L M34 a0 (M34 a0 5) ha0 (S35.1.inR _ _) er36) (zrm_ok (by decide) (by decide)) ⟨Nat.le_refl 0, Nat.le_refl 0⟩ rfl (by simp [zR_cat, zcat_I, zcat_J, zcat_S]) hl.size rfl (Tp_advance_dc.at 34 rfl) (fun H locs hr36 S37 => ?_)
      obtain ⟨M38, eM38, h⟩ := lt1_e h
      refine u_pI E eM38 zf_7_6 S37 g1 hr36 (Or.inl rfl) rfl zw_1_51 (Tp_advance_dc.at 35 rfl) (fun H locs S39 => ?_)
      refine r_goto (tgt := 148) E (Tp_advance_dc.at 36 rfl) (by decide) ?_
      cases h
      exact r_vret E S39 True.intro (Tp_advance_dc.at 76 rfl)
theorem Tp_advance_c (l : Launch) (G : zG) (fu : Nat) (top : Int) (L : zL) (M : zM) (a0 : Int) {res : zM} (ha0 : InR a0) (h : Tp_advance fu L M a0 = some res) : Met l yX7_advance (Cond.code yX7_advance cX7_advance 2 none :: zTB) (zrm 3 0 0) (va_Pc [zR G.2.2.1 a0] (zPre G top L M)) (zQ G top L res none True) 0 0 (zA G) :=
  z_met (by decide +kernel) (by simp [zR_cat, zcat_I, zcat_S]) (Nat.le_of_ble_eq_true rfl) fun p e s m below meth c ls E hn S hl => Tp_advance_w E ha0 S (hl.sub (And.intro rfl True.intro)) h
end
theorem Tp_restart_dc : zDL cX7_restart [(0, .aload_n 0, 1, 1), (1, .iconst 0, 1, 2), (2, .putfield 22, 3, 5), (5, .aload_n 0, 1, 6), (6, .invokevirtual 25, 3, 9), (9, .return_, 1, 10)] := zDL.of (by decide +kernel)
section
variable {p : Program} {l : Launch} {e : Env} {s : State} {m : MethodId} {args : Array Value} {below : List Frame} {meth : Method} {c : Code} {G : zG} {top : Int} {L : zL} {fu : Nat}
theorem Tp_restart_w (E : zEv p m c cX7_restart 1 s args RX7 meth none G) {res : zM} {M : zM} {a0 : Int} {H : Heap} {locs : List Loc} {ls : Array Slot} (ha0 : InR a0) (S : zS G top L M s H locs) (hl : zLV ls 1 [some (zR G.2.2.1 a0)]) (h : Tp_restart fu L M a0 = some res) : W p l e (zrm 4 0 0) s m args below meth c H locs 0 0 (MQ below (zQ G top L res none True) args s 0 0 (zA G)) (F0 m 0 ls []) := by
  unfold Tp_restart at h
  refine u_al_n (x := a0) E (Tp_restart_dc.at 0 rfl) hl rfl ?_
  refine r_iconst E (Tp_restart_dc.at 1 rfl) ?_
  obtain ⟨g1, h⟩ := ite_e h
  obtain ⟨M2, eM2, h⟩ := lt1_e h
  refine u_pI E eM2 zf_7_6 S g1 (show InR 0 by decide) (Or.inl rfl) rfl zw_1_51 (Tp_restart_dc.at 2 rfl) (fun H locs S3 => ?_)
  refine u_al_n (x := a0) E (Tp_restart_dc.at 3 rfl) hl rfl ?_
  obtain ⟨M4, eM4, h⟩ := bd1_e h
  refine u_cVU (As := []) (rest := []) E S3 zcw_yX7_advance zw_2_206 zw_2_207 zw_2_205 zck_7.1 rfl g1 (Tp_advance_c l G fu top L M2 a0 ha0 eM4) (zrm_ok (by decide) (by decide)) ⟨Nat.le_refl 0, Nat.le_refl 0⟩ rfl (Nat.zero_le 8) hl.size rfl (Tp_restart_dc.at 4 rfl) (fun H locs _ S5 => ?_)
  cases h
  exact r_vret E S5 True.intro (Tp_restart_dc.at 5 rfl)
theorem Tp_restart_c (l : Launch) (G : zG) (fu : Nat) (top : Int) (L : zL) (M : zM) (a0 : Int) {res : zM} (ha0 : InR a0) (h : Tp_restart fu L M a0 = some res) : Met l yX7_restart (Cond.code yX7_restart cX7_restart 1 none :: zTB) (zrm 4 0 0) (va_Pc [zR G.2.2.1 a0] (zPre G top L M)) (zQ G top L res none True) 0 0 (zA G) :=
  z_met (by decide +kernel) (by simp [zR_cat, zcat_I, zcat_S]) (Nat.le_of_ble_eq_true rfl) fun p e s m below meth c ls E hn S hl => Tp_restart_w E ha0 S (hl.sub (And.intro rfl True.intro)) h
end
theorem Tp_letter_dc : zDL cX7_letter [(0, .aload_n 0, 1, 1), (1, .getfield 41, 3, 4), (4, .iconst 1, 1, 5), (5, .if_icmp .ne 27, 3, 8), (8, .aload_n 0, 1, 9), (9, .getfield 22, 3, 12), (12, .aload_n 0, 1, 13), (13, .getfield 32, 3, 16), (16, .isub, 1, 17), (17, .iconst 1, 1, 18), (18, .if_icmp .ne 14, 3, 21), (21, .aload_n 0, 1, 22), (22, .aload_n 0, 1, 23), (23, .getfield 32, 3, 26), (26, .invokevirtual 38, 3, 29), (29, .goto 4, 3, 32), (32, .iconst 0, 1, 33), (33, .ireturn, 1, 34)] := zDL.of (by decide +kernel)
section
variable {p : Program} {l : Launch} {e : Env} {s : State} {m : MethodId} {args : Array Value} {below : List Frame} {meth : Method} {c : Code} {G : zG} {top : Int} {L : zL} {fu : Nat}
theorem Tp_letter_w (E : zEv p m c cX7_letter 1 s args RX7 meth (some .int) G) {res : Int} {M : zM} {a0 : Int} {H : Heap} {locs : List Loc} {ls : Array Slot} (ha0 : InR a0) (S : zS G top L M s H locs) (hl : zLV ls 1 [some (zR G.2.2.1 a0)]) (h : Tp_letter fu L M a0 = some res) : W p l e (zrm 2 0 0) s m args below meth c H locs 0 0 (MQ below (zQ G top L M (some (.int (zO res))) (InR res)) args s 0 0 (zA G)) (F0 m 0 ls []) := by
  unfold Tp_letter at h
  refine u_al_n (x := a0) E (Tp_letter_dc.at 0 rfl) hl rfl ?_
  obtain ⟨g1, h⟩ := ite_e h
  refine u_gI E zf_7_4 S g1 zw_1_45 (Tp_letter_dc.at 1 rfl) ?_
  refine r_iconst E (Tp_letter_dc.at 2 rfl) ?_
  refine r_icmp_ne (tgt := 32) E (S.1.inR _ _) (show InR 1 by decide) (Tp_letter_dc.at 3 rfl) (by decide) (fun q => ?_) (fun q => ?_)
  · have h := ite_t h q
    refine u_al_n (x := a0) E (Tp_letter_dc.at 4 rfl) hl rfl ?_
    refine u_gI E zf_7_6 S g1 zw_1_51 (Tp_letter_dc.at 5 rfl) ?_
    refine u_al_n (x := a0) E (Tp_letter_dc.at 6 rfl) hl rfl ?_
    refine u_gI E zf_7_5 S g1 zw_1_50 (Tp_letter_dc.at 7 rfl) ?_
    refine r_isub E (Tp_letter_dc.at 8 rfl) ?_
    refine r_iconst E (Tp_letter_dc.at 9 rfl) ?_
    refine r_icmp_ne (tgt := 32) E (inR_w32 _) (show InR 1 by decide) (Tp_letter_dc.at 10 rfl) (by decide) (fun q => ?_) (fun q => ?_)
    · have h := ite_t h q
      refine u_al_n (x := a0) E (Tp_letter_dc.at 11 rfl) hl rfl ?_
      refine u_al_n (x := a0) E (Tp_letter_dc.at 12 rfl) hl rfl ?_
      refine u_gI E zf_7_5 S g1 zw_1_50 (Tp_letter_dc.at 13 rfl) ?_
      obtain ⟨r2, er2, h⟩ := bd1_e h
      refine u_cVI (As := [.int (zO (M a0 5))]) (rest := []) E S zcw_yX7_at zw_2_214 zw_2_215 zw_2_213 zck_7.1 rfl g1 (Tp_at_c l G fu top L M a0 (M a0 5) ha0 (S.1.inR _ _) er2) (zrm_ok (by decide) (by decide)) ⟨Nat.le_refl 0, Nat.le_refl 0⟩ rfl (Nat.zero_le 8) hl.size rfl (Tp_letter_dc.at 14 rfl) (fun H locs hr2 S3 => ?_)
      refine r_goto (tgt := 33) E (Tp_letter_dc.at 15 rfl) (by decide) ?_
      cases h
      exact r_iret E S3 hr2 (Tp_letter_dc.at 17 rfl)
    · have h := ite_f h q
      refine r_iconst E (Tp_letter_dc.at 16 rfl) ?_
      cases h
      exact r_iret E S (show InR 0 by decide) (Tp_letter_dc.at 17 rfl)
  · have h := ite_f h q
    refine r_iconst E (Tp_letter_dc.at 16 rfl) ?_
    cases h
    exact r_iret E S (show InR 0 by decide) (Tp_letter_dc.at 17 rfl)
theorem Tp_letter_c (l : Launch) (G : zG) (fu : Nat) (top : Int) (L : zL) (M : zM) (a0 : Int) {res : Int} (ha0 : InR a0) (h : Tp_letter fu L M a0 = some res) : Met l yX7_letter (Cond.code yX7_letter cX7_letter 1 (some .int) :: zTB) (zrm 2 0 0) (va_Pc [zR G.2.2.1 a0] (zPre G top L M)) (zQ G top L M (some (.int (zO res))) (InR res)) 0 0 (zA G) :=
  z_met (by decide +kernel) (by simp [zR_cat, zcat_I, zcat_S]) (Nat.le_of_ble_eq_true rfl) fun p e s m below meth c ls E hn S hl => Tp_letter_w E ha0 S (hl.sub (And.intro rfl True.intro)) h
end
theorem Fr_indexOf_dc : zDL cX2_indexOf [(0, .iconst 0, 1, 1), (1, .istore_n 2, 1, 2), (2, .iload_n 2, 1, 3), (3, .aload_n 0, 1, 4), (4, .getfield 25, 3, 7), (7, .if_icmp .ge 30, 3, 10), (10, .iload_n 2, 1, 11), (11, .aload_n 0, 1, 12), (12, .getfield 9, 3, 15), (15, .arraylength, 1, 16), (16, .if_icmp .ge 21, 3, 19), (19, .aload_n 0, 1, 20), (20, .getfield 9, 3, 23), (23, .iload_n 2, 1, 24), (24, .iaload, 1, 25), (25, .iload_n 1, 1, 26), (26, .if_icmp .ne 5, 3, 29), (29, .iload_n 2, 1, 30), (30, .ireturn, 1, 31), (31, .iinc 2 1, 3, 34), (34, .goto (-32), 3, 37), (37, .iconst (-1), 1, 38), (38, .ireturn, 1, 39)] := zDL.of (by decide +kernel)
section
variable {p : Program} {l : Launch} {e : Env} {s : State} {m : MethodId} {args : Array Value} {below : List Frame} {meth : Method} {c : Code} {G : zG} {top : Int} {L : zL} {fu : Nat}
theorem Fr_indexOf_s2_w (E : zEv p m c cX2_indexOf 3 s args RX2 meth (some .int) G) {res : Int} {k2 : zM → Int → Int → Int → Option Int} (hk2 : ∀ (M : zM) (x0 : Int) (x1 : Int) (x2 : Int), InR x0 → InR x1 → InR x2 → ∀ (H : Heap) (locs : List Loc) (ls : Array Slot), zS G top L M s H locs → zLV ls 3 [some (zR G.2.2.1 x0), some (.int (zO x1)), some (.int (zO x2))] → k2 M x0 x1 x2 = some res → W p l e (zrm 1 0 0) s m args below meth c H locs 0 0 (MQ below (zQ G top L M (some (.int (zO res))) (InR res)) args s 0 0 (zA G)) (F0 m 2 ls [])) {M : zM} {x0 : Int} {x1 : Int} {x2 : Int} {H : Heap} {locs : List Loc} {ls : Array Slot} (hx0 : InR x0) (hx1 : InR x1) (hx2 : InR x2) (S : zS G top L M s H locs) (hl : zLV ls 3 [some (zR G.2.2.1 x0), some (.int (zO x1)), some (.int (zO x2))]) (h : Fr_indexOf_s2 fu k2 L M x0 x1 x2 = some res) : W p l e (zrm 1 0 0) s m args below meth c H locs 0 0 (MQ below (zQ G top L M (some (.int (zO res))) (InR res)) args s 0 0 (zA G)) (F0 m 2 ls []) := by
  unfold Fr_indexOf_s2 at h
  refine u_il_n (x := x2) E (Fr_indexOf_dc.at 2 rfl) hl rfl ?_
  refine u_al_n (x := x0) E (Fr_indexOf_dc.at 3 rfl) hl rfl ?_
  obtain ⟨g1, h⟩ := ite_e h
  refine u_gI E zf_2_4 S g1 zw_1_85 (Fr_indexOf_dc.at 4 rfl) ?_
  refine r_icmp_ge (tgt := 37) E hx2 (S.1.inR _ _) (Fr_indexOf_dc.at 5 rfl) (by decide) (fun q => ?_) (fun q => ?_)
  · have h := ite_t h q
    refine u_il_n (x := x2) E (Fr_indexOf_dc.at 6 rfl) hl rfl ?_
    refine u_al_n (x := x0) E (Fr_indexOf_dc.at 7 rfl) hl rfl ?_
    refine u_gR E zf_2_1 S g1 zw_1_82 (Fr_indexOf_dc.at 8 rfl) ?_
    obtain ⟨g2, h⟩ := ite_e h
    refine r_alen E S g2 (by decide) (Fr_indexOf_dc.at 9 rfl) ?_
    refine r_icmp_ge (tgt := 37) E hx2 (S.1.lenR _) (Fr_indexOf_dc.at 10 rfl) (by decide) (fun q => ?_) (fun q => ?_)
    · have h := ite_t h q
      refine u_al_n (x := x0) E (Fr_indexOf_dc.at 11 rfl) hl rfl ?_
      refine u_gR E zf_2_1 S g1 zw_1_82 (Fr_indexOf_dc.at 12 rfl) ?_
      refine u_il_n (x := x2) E (Fr_indexOf_dc.at 13 rfl) hl rfl ?_
      obtain ⟨g3, h⟩ := ite_e h
      refine r_iald E S g2 g3 (Fr_indexOf_dc.at 14 rfl) ?_
      refine u_il_n (x := x1) E (Fr_indexOf_dc.at 15 rfl) hl rfl ?_
      refine r_icmp_ne (tgt := 31) E (S.1.inR _ _) hx1 (Fr_indexOf_dc.at 16 rfl) (by decide) (fun q => ?_) (fun q => ?_)
      · have h := ite_t h q
        refine u_il_n (x := x2) E (Fr_indexOf_dc.at 17 rfl) hl rfl ?_
        cases h
        exact r_iret E S hx2 (Fr_indexOf_dc.at 18 rfl)
      · have h := ite_f h q
        obtain ⟨v4, ev4, h⟩ := lt1_e h
        have hv4 := inR_eq ev4 (inR_w32 _)
        refine u_iinc (y := v4) (vs' := [some (zR G.2.2.1 x0), some (.int (zO x1)), some (.int (zO v4))]) E ev4 (Fr_indexOf_dc.at 19 rfl) hl rfl (by decide) rfl (fun ls hl => ?_)
        refine r_goto (tgt := 2) E (Fr_indexOf_dc.at 20 rfl) (by decide) ?_
        exact hk2 _ x0 x1 v4 hx0 hx1 hv4 _ _ _ S (hl.sub (And.intro rfl (And.intro rfl (And.intro rfl True.intro)))) h
    · have h := ite_f h q
      refine r_iconst E (Fr_indexOf_dc.at 21 rfl) ?_
      cases h
      exact r_iret E S (show InR (-1) by decide) (Fr_indexOf_dc.at 22 rfl)
  · have h := ite_f h q
    refine r_iconst E (Fr_indexOf_dc.at 21 rfl) ?_
    cases h
    exact r_iret E S (show InR (-1) by decide) (Fr_indexOf_dc.at 22 rfl)
theorem Fr_indexOf_l2_w (E : zEv p m c cX2_indexOf 3 s args RX2 meth (some .int) G) {res : Int} : ∀ (n : Nat) (M : zM) (x0 : Int) (x1 : Int) (x2 : Int), InR x0 → InR x1 → InR x2 → ∀ (H : Heap) (locs : List Loc) (ls : Array Slot), zS G top L M s H locs → zLV ls 3 [some (zR G.2.2.1 x0), some (.int (zO x1)), some (.int (zO x2))] → Fr_indexOf_l2 fu L n M x0 x1 x2 = some res → W p l e (zrm 1 0 0) s m args below meth c H locs 0 0 (MQ below (zQ G top L M (some (.int (zO res))) (InR res)) args s 0 0 (zA G)) (F0 m 2 ls [])
  | 0, _, _, _, _ => fun _ _ _ _ _ _ _ _ h => (by cases h)
  | n + 1, M, x0, x1, x2 => fun hx0 hx1 hx2 H locs ls S hl h => Fr_indexOf_s2_w E (fun M x0 x1 x2 hx0 hx1 hx2 H locs ls S hl h => Fr_indexOf_l2_w E n M x0 x1 x2 hx0 hx1 hx2 H locs ls S hl h) hx0 hx1 hx2 S hl h
theorem Fr_indexOf_w (E : zEv p m c cX2_indexOf 3 s args RX2 meth (some .int) G) {res : Int} {M : zM} {a0 : Int} {a1 : Int} {H : Heap} {locs : List Loc} {ls : Array Slot} (ha0 : InR a0) (ha1 : InR a1) (S : zS G top L M s H locs) (hl : zLV ls 3 [some (zR G.2.2.1 a0), some (.int (zO a1)), none]) (h : Fr_indexOf fu L M a0 a1 = some res) : W p l e (zrm 1 0 0) s m args below meth c H locs 0 0 (MQ below (zQ G top L M (some (.int (zO res))) (InR res)) args s 0 0 (zA G)) (F0 m 0 ls []) := by
  unfold Fr_indexOf at h
  refine r_iconst E (Fr_indexOf_dc.at 0 rfl) ?_
  refine u_ist_n (y := 0) (vs' := [some (zR G.2.2.1 a0), some (.int (zO a1)), some (.int (zO 0))]) E rfl (Fr_indexOf_dc.at 1 rfl) hl (by decide) rfl (fun ls hl => ?_)
  exact Fr_indexOf_l2_w E fu _ a0 a1 0 ha0 ha1 (show InR 0 by decide) _ _ _ S (hl.sub (And.intro rfl (And.intro rfl (And.intro rfl True.intro)))) h
theorem Fr_indexOf_c (l : Launch) (G : zG) (fu : Nat) (top : Int) (L : zL) (M : zM) (a0 : Int) (a1 : Int) {res : Int} (ha0 : InR a0) (ha1 : InR a1) (h : Fr_indexOf fu L M a0 a1 = some res) : Met l yX2_indexOf (Cond.code yX2_indexOf cX2_indexOf 3 (some .int) :: zTB) (zrm 1 0 0) (va_Pc [zR G.2.2.1 a0, .int (zO a1)] (zPre G top L M)) (zQ G top L M (some (.int (zO res))) (InR res)) 0 0 (zA G) :=
  z_met (by decide +kernel) (by simp [zR_cat, zcat_I, zcat_S]) (Nat.le_of_ble_eq_true rfl) fun p e s m below meth c ls E hn S hl => Fr_indexOf_w E ha0 ha1 S (hl.sub (And.intro rfl (And.intro rfl True.intro))) h
end
theorem Tp_isNumber_dc : zDL cX7_isNumber [(0, .aload_n 0, 1, 1), (1, .getfield 41, 3, 4), (4, .iconst 2, 1, 5), (5, .if_icmp .ne 23, 3, 8), (8, .aload_n 0, 1, 9), (9, .getfield 35, 3, 12), (12, .iload_n 1, 1, 13), (13, .if_icmp .lt 15, 3, 16), (16, .aload_n 0, 1, 17), (17, .getfield 35, 3, 20), (20, .iload_n 2, 1, 21), (21, .if_icmp .gt 7, 3, 24), (24, .iconst 1, 1, 25), (25, .goto 4, 3, 28), (28, .iconst 0, 1, 29), (29, .ireturn, 1, 30)] := zDL.of (by decide +kernel)
section
variable {p : Program} {l : Launch} {e : Env} {s : State} {m : MethodId} {args : Array Value} {below : List Frame} {meth : Method} {c : Code} {G : zG} {top : Int} {L : zL} {fu : Nat}
theorem Tp_isNumber_w (E : zEv p m c cX7_isNumber 3 s args RX7 meth (some .boolean) G) {res : Int} {M : zM} {a0 : Int} {a1 : Int} {a2 : Int} {H : Heap} {locs : List Loc} {ls : Array Slot} (ha0 : InR a0) (ha1 : InR a1) (ha2 : InR a2) (S : zS G top L M s H locs) (hl : zLV ls 3 [some (zR G.2.2.1 a0), some (.int (zO a1)), some (.int (zO a2))]) (h : Tp_isNumber fu L M a0 a1 a2 = some res) : W p l e (zrm 1 0 0) s m args below meth c H locs 0 0 (MQ below (zQ G top L M (some (.int (zO res))) (0 ≤ res ∧ res ≤ 1)) args s 0 0 (zA G)) (F0 m 0 ls []) := by
  unfold Tp_isNumber at h
  refine u_al_n (x := a0) E (Tp_isNumber_dc.at 0 rfl) hl rfl ?_
  obtain ⟨g1, h⟩ := ite_e h
  refine u_gI E zf_7_4 S g1 zw_1_45 (Tp_isNumber_dc.at 1 rfl) ?_
  refine r_iconst E (Tp_isNumber_dc.at 2 rfl) ?_
  refine r_icmp_ne (tgt := 28) E (S.1.inR _ _) (show InR 2 by decide) (Tp_isNumber_dc.at 3 rfl) (by decide) (fun q => ?_) (fun q => ?_)
  · have h := ite_t h q
    refine u_al_n (x := a0) E (Tp_isNumber_dc.at 4 rfl) hl rfl ?_
    refine u_gI E zf_7_7 S g1 zw_1_55 (Tp_isNumber_dc.at 5 rfl) ?_
    refine u_il_n (x := a1) E (Tp_isNumber_dc.at 6 rfl) hl rfl ?_
    refine r_icmp_lt (tgt := 28) E (S.1.inR _ _) ha1 (Tp_isNumber_dc.at 7 rfl) (by decide) (fun q => ?_) (fun q => ?_)
    · have h := ite_t h q
      refine r_iconst E (Tp_isNumber_dc.at 14 rfl) ?_
      cases h
      exact r_zret E S z01_0 z01_0 (Tp_isNumber_dc.at 15 rfl)
    · have h := ite_f h q
      refine u_al_n (x := a0) E (Tp_isNumber_dc.at 8 rfl) hl rfl ?_
      refine u_gI E zf_7_7 S g1 zw_1_55 (Tp_isNumber_dc.at 9 rfl) ?_
      refine u_il_n (x := a2) E (Tp_isNumber_dc.at 10 rfl) hl rfl ?_
      refine r_icmp_gt (tgt := 28) E (S.1.inR _ _) ha2 (Tp_isNumber_dc.at 11 rfl) (by decide) (fun q => ?_) (fun q => ?_)
      · have h := ite_t h q
        refine r_iconst E (Tp_isNumber_dc.at 14 rfl) ?_
        cases h
        exact r_zret E S z01_0 z01_0 (Tp_isNumber_dc.at 15 rfl)
      · have h := ite_f h q
        refine r_iconst E (Tp_isNumber_dc.at 12 rfl) ?_
        refine r_goto (tgt := 29) E (Tp_isNumber_dc.at 13 rfl) (by decide) ?_
        cases h
        exact r_zret E S z01_1 z01_1 (Tp_isNumber_dc.at 15 rfl)
  · have h := ite_f h q
    refine r_iconst E (Tp_isNumber_dc.at 14 rfl) ?_
    cases h
    exact r_zret E S z01_0 z01_0 (Tp_isNumber_dc.at 15 rfl)
theorem Tp_isNumber_c (l : Launch) (G : zG) (fu : Nat) (top : Int) (L : zL) (M : zM) (a0 : Int) (a1 : Int) (a2 : Int) {res : Int} (ha0 : InR a0) (ha1 : InR a1) (ha2 : InR a2) (h : Tp_isNumber fu L M a0 a1 a2 = some res) : Met l yX7_isNumber (Cond.code yX7_isNumber cX7_isNumber 3 (some .boolean) :: zTB) (zrm 1 0 0) (va_Pc [zR G.2.2.1 a0, .int (zO a1), .int (zO a2)] (zPre G top L M)) (zQ G top L M (some (.int (zO res))) (0 ≤ res ∧ res ≤ 1)) 0 0 (zA G) :=
  z_met (by decide +kernel) (by simp [zR_cat, zcat_I, zcat_S]) (Nat.le_of_ble_eq_true rfl) fun p e s m below meth c ls E hn S hl => Tp_isNumber_w E ha0 ha1 ha2 S (hl.sub (And.intro rfl (And.intro rfl (And.intro rfl True.intro)))) h
end
theorem Tp_isWord_dc : zDL cX7_isWord [(0, .aload_n 0, 1, 1), (1, .getfield 41, 3, 4), (4, .iconst 1, 1, 5), (5, .if_icmp .ne 19, 3, 8), (8, .aload_n 0, 1, 9), (9, .getfield 22, 3, 12), (12, .aload_n 0, 1, 13), (13, .getfield 32, 3, 16), (16, .isub, 1, 17), (17, .aload_n 1, 1, 18), (18, .invokevirtual 61, 3, 21), (21, .if_icmp .eq 5, 3, 24), (24, .iconst 0, 1, 25), (25, .ireturn, 1, 26), (26, .iconst 0, 1, 27), (27, .istore_n 2, 1, 28), (28, .iload_n 2, 1, 29), (29, .aload_n 1, 1, 30), (30, .invokevirtual 61, 3, 33), (33, .if_icmp .ge 29, 3, 36), (36, .aload_n 0, 1, 37), (37, .aload_n 0, 1, 38), (38, .getfield 32, 3, 41), (41, .iload_n 2, 1, 42), (42, .iadd, 1, 43), (43, .invokevirtual 38, 3, 46), (46, .aload_n 1, 1, 47), (47, .iload_n 2, 1, 48), (48, .invokevirtual 66, 3, 51), (51, .if_icmp .eq 5, 3, 54), (54, .iconst 0, 1, 55), (55, .ireturn, 1, 56), (56, .iinc 2 1, 3, 59), (59, .goto (-31), 3, 62), (62, .iconst 1, 1, 63), (63, .ireturn, 1, 64)] := zDL.of (by decide +kernel)
section
variable {p : Program} {l : Launch} {e : Env} {s : State} {m : MethodId} {args : Array Value} {below : List Frame} {meth : Method} {c : Code} {G : zG} {top : Int} {L : zL} {fu : Nat}
theorem Tp_isWord_s28_w (E : zEv p m c cX7_isWord 3 s args RX7 meth (some .boolean) G) {res : Int} {k28 : zM → Int → Nat → Int → Option Int} (hk28 : ∀ (M : zM) (x0 : Int) (x1 : Nat) (x2 : Int), InR x0 → InR x2 → ∀ (H : Heap) (locs : List Loc) (ls : Array Slot), zS G top L M s H locs → zLV ls 3 [some (zR G.2.2.1 x0), some (.ref (G.2.2.2.1 x1)), some (.int (zO x2))] → k28 M x0 x1 x2 = some res → W p l e (zrm 6 0 0) s m args below meth c H locs 0 0 (MQ below (zQ G top L M (some (.int (zO res))) (0 ≤ res ∧ res ≤ 1)) args s 0 0 (zA G)) (F0 m 28 ls [])) {M : zM} {x0 : Int} {x1 : Nat} {x2 : Int} {H : Heap} {locs : List Loc} {ls : Array Slot} (hx0 : InR x0) (hx2 : InR x2) (S : zS G top L M s H locs) (hl : zLV ls 3 [some (zR G.2.2.1 x0), some (.ref (G.2.2.2.1 x1)), some (.int (zO x2))]) (h : Tp_isWord_s28 fu k28 L M x0 x1 x2 = some res) : W p l e (zrm 6 0 0) s m args below meth c H locs 0 0 (MQ below (zQ G top L M (some (.int (zO res))) (0 ≤ res ∧ res ≤ 1)) args s 0 0 (zA G)) (F0 m 28 ls []) := by
  unfold Tp_isWord_s28 at h
  refine u_il_n (x := x2) E (Tp_isWord_dc.at 16 rfl) hl rfl ?_
  refine r_aloadS_n E (Tp_isWord_dc.at 17 rfl) hl rfl ?_
  obtain ⟨r4, er4, h⟩ := bd1_e h
  refine u_St_length (rest := [.int (zO x2)]) E S er4 zw_3_17 hl.size (zrm_ok (by decide) (by decide)) (by simp [zR_cat, zcat_I, zcat_J, zcat_S]) (Tp_isWord_dc.at 18 rfl) ⟨Nat.le_refl 0, Nat.le_refl 0⟩ (fun H locs hr4 S5 => ?_)
  refine r_icmp_ge (tgt := 62) E hx2 hr4 (Tp_isWord_dc.at 19 rfl) (by decide) (fun q => ?_) (fun q => ?_)
  · have h := ite_t h q
    refine u_al_n (x := x0) E (Tp_isWord_dc.at 20 rfl) hl rfl ?_
    refine u_al_n (x := x0) E (Tp_isWord_dc.at 21 rfl) hl rfl ?_
    obtain ⟨g6, h⟩ := ite_e h
    refine u_gI E zf_7_5 S5 g6 zw_1_50 (Tp_isWord_dc.at 22 rfl) ?_
    refine u_il_n (x := x2) E (Tp_isWord_dc.at 23 rfl) hl rfl ?_
    refine r_iadd E (Tp_isWord_dc.at 24 rfl) ?_
    obtain ⟨r7, er7, h⟩ := bd1_e h
    refine u_cVI (As := [.int (zO (w32 ((M x0 5) + x2)))]) (rest := []) E S5 zcw_yX7_at zw_2_214 zw_2_215 zw_2_213 zck_7.1 rfl g6 (Tp_at_c l G fu top L M x0 (w32 ((M x0 5) + x2)) hx0 (inR_w32 _) er7) (zrm_ok (by decide) (by decide)) ⟨Nat.le_refl 0, Nat.le_refl 0⟩ rfl (Nat.zero_le 8) hl.size rfl (Tp_isWord_dc.at 25 rfl) (fun H locs hr7 S8 => ?_)
    refine r_aloadS_n E (Tp_isWord_dc.at 26 rfl) hl rfl ?_
    refine u_il_n (x := x2) E (Tp_isWord_dc.at 27 rfl) hl rfl ?_
    obtain ⟨r9, er9, h⟩ := bd1_e h
    refine u_St_charAt (rest := [.int (zO r7)]) E S8 er9 hx2 zw_3_27 hl.size (zrm_ok (by decide) (by decide)) (by simp [zR_cat, zcat_I, zcat_J, zcat_S]) (Tp_isWord_dc.at 28 rfl) ⟨Nat.le_refl 0, Nat.le_refl 0⟩ (fun H locs hr9 S10 => ?_)
    refine r_icmp_eq (tgt := 56) E hr7 hr9 (Tp_isWord_dc.at 29 rfl) (by decide) (fun q => ?_) (fun q => ?_)
    · have h := ite_t h q
      obtain ⟨v11, ev11, h⟩ := lt1_e h
      have hv11 := inR_eq ev11 (inR_w32 _)
      refine u_iinc (y := v11) (vs' := [some (zR G.2.2.1 x0), some (.ref (G.2.2.2.1 x1)), some (.int (zO v11))]) E ev11 (Tp_isWord_dc.at 32 rfl) hl rfl (by decide) rfl (fun ls hl => ?_)
      refine r_goto (tgt := 28) E (Tp_isWord_dc.at 33 rfl) (by decide) ?_
      exact hk28 _ x0 x1 v11 hx0 hv11 _ _ _ S10 (hl.sub (And.intro rfl (And.intro rfl (And.intro rfl True.intro)))) h
    · have h := ite_f h q
      refine r_iconst E (Tp_isWord_dc.at 30 rfl) ?_
      cases h
      exact r_zret E S10 z01_0 z01_0 (Tp_isWord_dc.at 31 rfl)
  · have h := ite_f h q
    refine r_iconst E (Tp_isWord_dc.at 34 rfl) ?_
    cases h
    exact r_zret E S5 z01_1 z01_1 (Tp_isWord_dc.at 35 rfl)
theorem Tp_isWord_l28_w (E : zEv p m c cX7_isWord 3 s args RX7 meth (some .boolean) G) {res : Int} : ∀ (n : Nat) (M : zM) (x0 : Int) (x1 : Nat) (x2 : Int), InR x0 → InR x2 → ∀ (H : Heap) (locs : List Loc) (ls : Array Slot), zS G top L M s H locs → zLV ls 3 [some (zR G.2.2.1 x0), some (.ref (G.2.2.2.1 x1)), some (.int (zO x2))] → Tp_isWord_l28 fu L n M x0 x1 x2 = some res → W p l e (zrm 6 0 0) s m args below meth c H locs 0 0 (MQ below (zQ G top L M (some (.int (zO res))) (0 ≤ res ∧ res ≤ 1)) args s 0 0 (zA G)) (F0 m 28 ls [])
  | 0, _, _, _, _ => fun _ _ _ _ _ _ _ h => (by cases h)
  | n + 1, M, x0, x1, x2 => fun hx0 hx2 H locs ls S hl h => Tp_isWord_s28_w E (fun M x0 x1 x2 hx0 hx2 H locs ls S hl h => Tp_isWord_l28_w E n M x0 x1 x2 hx0 hx2 H locs ls S hl h) hx0 hx2 S hl h
theorem Tp_isWord_w (E : zEv p m c cX7_isWord 3 s args RX7 meth (some .boolean) G) {res : Int} {M : zM} {a0 : Int} {a1 : Nat} {H : Heap} {locs : List Loc} {ls : Array Slot} (ha0 : InR a0) (S : zS G top L M s H locs) (hl : zLV ls 3 [some (zR G.2.2.1 a0), some (.ref (G.2.2.2.1 a1)), none]) (h : Tp_isWord fu L M a0 a1 = some res) : W p l e (zrm 6 0 0) s m args below meth c H locs 0 0 (MQ below (zQ G top L M (some (.int (zO res))) (0 ≤ res ∧ res ≤ 1)) args s 0 0 (zA G)) (F0 m 0 ls []) := by
  unfold Tp_isWord at h
  refine u_al_n (x := a0) E (Tp_isWord_dc.at 0 rfl) hl rfl ?_
  obtain ⟨g1, h⟩ := ite_e h
  refine u_gI E zf_7_4 S g1 zw_1_45 (Tp_isWord_dc.at 1 rfl) ?_
  refine r_iconst E (Tp_isWord_dc.at 2 rfl) ?_
  refine r_icmp_ne (tgt := 24) E (S.1.inR _ _) (show InR 1 by decide) (Tp_isWord_dc.at 3 rfl) (by decide) (fun q => ?_) (fun q => ?_)
  · have h := ite_t h q
    refine u_al_n (x := a0) E (Tp_isWord_dc.at 4 rfl) hl rfl ?_
    refine u_gI E zf_7_6 S g1 zw_1_51 (Tp_isWord_dc.at 5 rfl) ?_
    refine u_al_n (x := a0) E (Tp_isWord_dc.at 6 rfl) hl rfl ?_
    refine u_gI E zf_7_5 S g1 zw_1_50 (Tp_isWord_dc.at 7 rfl) ?_
    refine r_isub E (Tp_isWord_dc.at 8 rfl) ?_
    refine r_aloadS_n E (Tp_isWord_dc.at 9 rfl) hl rfl ?_
    obtain ⟨r2, er2, h⟩ := bd1_e h
    refine u_St_length (rest := [.int (zO (w32 ((M a0 6) - (M a0 5))))]) E S er2 zw_3_17 hl.size (zrm_ok (by decide) (by decide)) (by simp [zR_cat, zcat_I, zcat_J, zcat_S]) (Tp_isWord_dc.at 10 rfl) ⟨Nat.le_refl 0, Nat.le_refl 0⟩ (fun H locs hr2 S3 => ?_)
    refine r_icmp_eq (tgt := 26) E (inR_w32 _) hr2 (Tp_isWord_dc.at 11 rfl) (by decide) (fun q => ?_) (fun q => ?_)
    · have h := ite_t h q
      refine r_iconst E (Tp_isWord_dc.at 14 rfl) ?_
      refine u_ist_n (y := 0) (vs' := [some (zR G.2.2.1 a0), some (.ref (G.2.2.2.1 a1)), some (.int (zO 0))]) E rfl (Tp_isWord_dc.at 15 rfl) hl (by decide) rfl (fun ls hl => ?_)
      exact Tp_isWord_l28_w E fu _ a0 a1 0 ha0 (show InR 0 by decide) _ _ _ S3 (hl.sub (And.intro rfl (And.intro rfl (And.intro rfl True.intro)))) h
    · have h := ite_f h q
      refine r_iconst E (Tp_isWord_dc.at 12 rfl) ?_
      cases h
      exact r_zret E S3 z01_0 z01_0 (Tp_isWord_dc.at 13 rfl)
  · have h := ite_f h q
    refine r_iconst E (Tp_isWord_dc.at 12 rfl) ?_
    cases h
    exact r_zret E S z01_0 z01_0 (Tp_isWord_dc.at 13 rfl)
theorem Tp_isWord_c (l : Launch) (G : zG) (fu : Nat) (top : Int) (L : zL) (M : zM) (a0 : Int) (a1 : Nat) {res : Int} (ha0 : InR a0) (h : Tp_isWord fu L M a0 a1 = some res) : Met l yX7_isWord (Cond.code yX7_isWord cX7_isWord 3 (some .boolean) :: zTB) (zrm 6 0 0) (va_Pc [zR G.2.2.1 a0, .ref (G.2.2.2.1 a1)] (zPre G top L M)) (zQ G top L M (some (.int (zO res))) (0 ≤ res ∧ res ≤ 1)) 0 0 (zA G) :=
  z_met (by decide +kernel) (by simp [zR_cat, zcat_I, zcat_S]) (Nat.le_of_ble_eq_true rfl) fun p e s m below meth c ls E hn S hl => Tp_isWord_w E ha0 S (hl.sub (And.intro rfl (And.intro rfl True.intro))) h
end
theorem Fr_isParent_dc : zDL cX2_isParent [(0, .iload_n 1, 1, 1), (1, .ifCond .lt 37, 3, 4), (4, .iload_n 1, 1, 5), (5, .aload_n 0, 1, 6), (6, .getfield 25, 3, 9), (9, .if_icmp .ge 29, 3, 12), (12, .iload_n 1, 1, 13), (13, .aload_n 0, 1, 14), (14, .getfield 15, 3, 17), (17, .arraylength, 1, 18), (18, .if_icmp .ge 20, 3, 21), (21, .aload_n 0, 1, 22), (22, .getfield 15, 3, 25), (25, .iload_n 1, 1, 26), (26, .iaload, 1, 27), (27, .iload_n 2, 1, 28), (28, .isub, 1, 29), (29, .bipush 13, 2, 31), (31, .if_icmp .lt 7, 3, 34), (34, .iconst 1, 1, 35), (35, .goto 4, 3, 38), (38, .iconst 0, 1, 39), (39, .ireturn, 1, 40)] := zDL.of (by decide +kernel)
section
variable {p : Program} {l : Launch} {e : Env} {s : State} {m : MethodId} {args : Array Value} {below : List Frame} {meth : Method} {c : Code} {G : zG} {top : Int} {L : zL} {fu : Nat}
theorem Fr_isParent_w (E : zEv p m c cX2_isParent 3 s args RX2 meth (some .boolean) G) {res : Int} {M : zM} {a0 : Int} {a1 : Int} {a2 : Int} {H : Heap} {locs : List Loc} {ls : Array Slot} (ha0 : InR a0) (ha1 : InR a1) (ha2 : InR a2) (S : zS G top L M s H locs) (hl : zLV ls 3 [some (zR G.2.2.1 a0), some (.int (zO a1)), some (.int (zO a2))]) (h : Fr_isParent fu L M a0 a1 a2 = some res) : W p l e (zrm 1 0 0) s m args below meth c H locs 0 0 (MQ below (zQ G top L M (some (.int (zO res))) (0 ≤ res ∧ res ≤ 1)) args s 0 0 (zA G)) (F0 m 0 ls []) := by
  unfold Fr_isParent at h
  refine u_il_n (x := a1) E (Fr_isParent_dc.at 0 rfl) hl rfl ?_
  refine r_if_lt (tgt := 38) E ha1 (Fr_isParent_dc.at 1 rfl) (by decide) (fun q => ?_) (fun q => ?_)
  · have h := ite_t h q
    refine r_iconst E (Fr_isParent_dc.at 21 rfl) ?_
    cases h
    exact r_zret E S z01_0 z01_0 (Fr_isParent_dc.at 22 rfl)
  · have h := ite_f h q
    refine u_il_n (x := a1) E (Fr_isParent_dc.at 2 rfl) hl rfl ?_
    refine u_al_n (x := a0) E (Fr_isParent_dc.at 3 rfl) hl rfl ?_
    obtain ⟨g1, h⟩ := ite_e h
    refine u_gI E zf_2_4 S g1 zw_1_85 (Fr_isParent_dc.at 4 rfl) ?_
    refine r_icmp_ge (tgt := 38) E ha1 (S.1.inR _ _) (Fr_isParent_dc.at 5 rfl) (by decide) (fun q => ?_) (fun q => ?_)
    · have h := ite_t h q
      refine u_il_n (x := a1) E (Fr_isParent_dc.at 6 rfl) hl rfl ?_
      refine u_al_n (x := a0) E (Fr_isParent_dc.at 7 rfl) hl rfl ?_
      refine u_gR E zf_2_2 S g1 zw_1_83 (Fr_isParent_dc.at 8 rfl) ?_
      obtain ⟨g2, h⟩ := ite_e h
      refine r_alen E S g2 (by decide) (Fr_isParent_dc.at 9 rfl) ?_
      refine r_icmp_ge (tgt := 38) E ha1 (S.1.lenR _) (Fr_isParent_dc.at 10 rfl) (by decide) (fun q => ?_) (fun q => ?_)
      · have h := ite_t h q
        refine u_al_n (x := a0) E (Fr_isParent_dc.at 11 rfl) hl rfl ?_
        refine u_gR E zf_2_2 S g1 zw_1_83 (Fr_isParent_dc.at 12 rfl) ?_
        refine u_il_n (x := a1) E (Fr_isParent_dc.at 13 rfl) hl rfl ?_
        obtain ⟨g3, h⟩ := ite_e h
        refine r_iald E S g2 g3 (Fr_isParent_dc.at 14 rfl) ?_
        refine u_il_n (x := a2) E (Fr_isParent_dc.at 15 rfl) hl rfl ?_
        refine r_isub E (Fr_isParent_dc.at 16 rfl) ?_
        refine r_bipush E (Fr_isParent_dc.at 17 rfl) rfl ?_
        refine r_icmp_lt (tgt := 38) E (inR_w32 _) (show InR 13 by decide) (Fr_isParent_dc.at 18 rfl) (by decide) (fun q => ?_) (fun q => ?_)
        · have h := ite_t h q
          refine r_iconst E (Fr_isParent_dc.at 21 rfl) ?_
          cases h
          exact r_zret E S z01_0 z01_0 (Fr_isParent_dc.at 22 rfl)
        · have h := ite_f h q
          refine r_iconst E (Fr_isParent_dc.at 19 rfl) ?_
          refine r_goto (tgt := 39) E (Fr_isParent_dc.at 20 rfl) (by decide) ?_
          cases h
          exact r_zret E S z01_1 z01_1 (Fr_isParent_dc.at 22 rfl)
      · have h := ite_f h q
        refine r_iconst E (Fr_isParent_dc.at 21 rfl) ?_
        cases h
        exact r_zret E S z01_0 z01_0 (Fr_isParent_dc.at 22 rfl)
    · have h := ite_f h q
      refine r_iconst E (Fr_isParent_dc.at 21 rfl) ?_
      cases h
      exact r_zret E S z01_0 z01_0 (Fr_isParent_dc.at 22 rfl)
theorem Fr_isParent_c (l : Launch) (G : zG) (fu : Nat) (top : Int) (L : zL) (M : zM) (a0 : Int) (a1 : Int) (a2 : Int) {res : Int} (ha0 : InR a0) (ha1 : InR a1) (ha2 : InR a2) (h : Fr_isParent fu L M a0 a1 a2 = some res) : Met l yX2_isParent (Cond.code yX2_isParent cX2_isParent 3 (some .boolean) :: zTB) (zrm 1 0 0) (va_Pc [zR G.2.2.1 a0, .int (zO a1), .int (zO a2)] (zPre G top L M)) (zQ G top L M (some (.int (zO res))) (0 ≤ res ∧ res ≤ 1)) 0 0 (zA G) :=
  z_met (by decide +kernel) (by simp [zR_cat, zcat_I, zcat_S]) (Nat.le_of_ble_eq_true rfl) fun p e s m below meth c ls E hn S hl => Fr_isParent_w E ha0 ha1 ha2 S (hl.sub (And.intro rfl (And.intro rfl (And.intro rfl True.intro)))) h
end
theorem Fr_note_dc : zDL cX2_note [(0, .aload_n 0, 1, 1), (1, .getfield 25, 3, 4), (4, .ifCond .lt 79, 3, 7), (7, .aload_n 0, 1, 8), (8, .getfield 25, 3, 11), (11, .aload_n 0, 1, 12), (12, .getfield 9, 3, 15), (15, .arraylength, 1, 16), (16, .if_icmp .ge 67, 3, 19), (19, .aload_n 0, 1, 20), (20, .getfield 25, 3, 23), (23, .aload_n 0, 1, 24), (24, .getfield 15, 3, 27), (27, .arraylength, 1, 28), (28, .if_icmp .ge 55, 3, 31), (31, .aload_n 0, 1, 32), (32, .getfield 25, 3, 35), (35, .aload_n 0, 1, 36), (36, .getfield 18, 3, 39), (39, .arraylength, 1, 40), (40, .if_icmp .ge 43, 3, 43), (43, .aload_n 0, 1, 44), (44, .getfield 9, 3, 47), (47, .aload_n 0, 1, 48), (48, .getfield 25, 3, 51), (51, .iload_n 1, 1, 52), (52, .iastore, 1, 53), (53, .aload_n 0, 1, 54), (54, .getfield 15, 3, 57), (57, .aload_n 0, 1, 58), (58, .getfield 25, 3, 61), (61, .iload_n 2, 1, 62), (62, .iastore, 1, 63), (63, .aload_n 0, 1, 64), (64, .getfield 18, 3, 67), (67, .aload_n 0, 1, 68), (68, .getfield 25, 3, 71), (71, .iload_n 3, 1, 72), (72, .iastore, 1, 73), (73, .aload_n 0, 1, 74), (74, .dup, 1, 75), (75, .getfield 25, 3, 78), (78, .iconst 1, 1, 79), (79, .iadd, 1, 80), (80, .putfield 25, 3, 83), (83, .return_, 1, 84)] := zDL.of (by decide +kernel)
section
variable {p : Program} {l : Launch} {e : Env} {s : State} {m : MethodId} {args : Array Value} {below : List Frame} {meth : Method} {c : Code} {G : zG} {top : Int} {L : zL} {fu : Nat}
theorem Fr_note_w (E : zEv p m c cX2_note 4 s args RX2 meth none G) {res : zM} {M : zM} {a0 : Int} {a1 : Int} {a2 : Int} {a3 : Int} {H : Heap} {locs : List Loc} {ls : Array Slot} (ha0 : InR a0) (ha1 : InR a1) (ha2 : InR a2) (ha3 : InR a3) (S : zS G top L M s H locs) (hl : zLV ls 4 [some (zR G.2.2.1 a0), some (.int (zO a1)), some (.int (zO a2)), some (.int (zO a3))]) (h : Fr_note fu L M a0 a1 a2 a3 = some res) : W p l e (zrm 1 0 0) s m args below meth c H locs 0 0 (MQ below (zQ G top L res none True) args s 0 0 (zA G)) (F0 m 0 ls []) := by
  unfold Fr_note at h
  refine u_al_n (x := a0) E (Fr_note_dc.at 0 rfl) hl rfl ?_
  obtain ⟨g1, h⟩ := ite_e h
  refine u_gI E zf_2_4 S g1 zw_1_85 (Fr_note_dc.at 1 rfl) ?_
  refine r_if_lt (tgt := 83) E (S.1.inR _ _) (Fr_note_dc.at 2 rfl) (by decide) (fun q => ?_) (fun q => ?_)
  · have h := ite_t h q
    cases h
    exact r_vret E S True.intro (Fr_note_dc.at 45 rfl)
  · have h := ite_f h q
    refine u_al_n (x := a0) E (Fr_note_dc.at 3 rfl) hl rfl ?_
    refine u_gI E zf_2_4 S g1 zw_1_85 (Fr_note_dc.at 4 rfl) ?_
    refine u_al_n (x := a0) E (Fr_note_dc.at 5 rfl) hl rfl ?_
    refine u_gR E zf_2_1 S g1 zw_1_82 (Fr_note_dc.at 6 rfl) ?_
    obtain ⟨g2, h⟩ := ite_e h
    refine r_alen E S g2 (by decide) (Fr_note_dc.at 7 rfl) ?_
    refine r_icmp_ge (tgt := 83) E (S.1.inR _ _) (S.1.lenR _) (Fr_note_dc.at 8 rfl) (by decide) (fun q => ?_) (fun q => ?_)
    · have h := ite_t h q
      refine u_al_n (x := a0) E (Fr_note_dc.at 9 rfl) hl rfl ?_
      refine u_gI E zf_2_4 S g1 zw_1_85 (Fr_note_dc.at 10 rfl) ?_
      refine u_al_n (x := a0) E (Fr_note_dc.at 11 rfl) hl rfl ?_
      refine u_gR E zf_2_2 S g1 zw_1_83 (Fr_note_dc.at 12 rfl) ?_
      obtain ⟨g3, h⟩ := ite_e h
      refine r_alen E S g3 (by decide) (Fr_note_dc.at 13 rfl) ?_
      refine r_icmp_ge (tgt := 83) E (S.1.inR _ _) (S.1.lenR _) (Fr_note_dc.at 14 rfl) (by decide) (fun q => ?_) (fun q => ?_)
      · have h := ite_t h q
        refine u_al_n (x := a0) E (Fr_note_dc.at 15 rfl) hl rfl ?_
        refine u_gI E zf_2_4 S g1 zw_1_85 (Fr_note_dc.at 16 rfl) ?_
        refine u_al_n (x := a0) E (Fr_note_dc.at 17 rfl) hl rfl ?_
        refine u_gR E zf_2_3 S g1 zw_1_84 (Fr_note_dc.at 18 rfl) ?_
        obtain ⟨g4, h⟩ := ite_e h
        refine r_alen E S g4 (by decide) (Fr_note_dc.at 19 rfl) ?_
        refine r_icmp_ge (tgt := 83) E (S.1.inR _ _) (S.1.lenR _) (Fr_note_dc.at 20 rfl) (by decide) (fun q => ?_) (fun q => ?_)
        · have h := ite_t h q
          refine u_al_n (x := a0) E (Fr_note_dc.at 21 rfl) hl rfl ?_
          refine u_gR E zf_2_1 S g1 zw_1_82 (Fr_note_dc.at 22 rfl) ?_
          refine u_al_n (x := a0) E (Fr_note_dc.at 23 rfl) hl rfl ?_
          refine u_gI E zf_2_4 S g1 zw_1_85 (Fr_note_dc.at 24 rfl) ?_
          refine u_il_n (x := a1) E (Fr_note_dc.at 25 rfl) hl rfl ?_
          obtain ⟨g5, h⟩ := ite_e h
          obtain ⟨M6, eM6, h⟩ := lt1_e h
          refine u_iast E eM6 S g2 g5 ha1 (Fr_note_dc.at 26 rfl) (fun H locs S7 => ?_)
          refine u_al_n (x := a0) E (Fr_note_dc.at 27 rfl) hl rfl ?_
          refine u_gR E zf_2_2 S7 g1 zw_1_83 (Fr_note_dc.at 28 rfl) ?_
          refine u_al_n (x := a0) E (Fr_note_dc.at 29 rfl) hl rfl ?_
          refine u_gI E zf_2_4 S7 g1 zw_1_85 (Fr_note_dc.at 30 rfl) ?_
          refine u_il_n (x := a2) E (Fr_note_dc.at 31 rfl) hl rfl ?_
          obtain ⟨g8, h⟩ := ite_e h
          obtain ⟨g9, h⟩ := ite_e h
          obtain ⟨M10, eM10, h⟩ := lt1_e h
          refine u_iast E eM10 S7 g8 g9 ha2 (Fr_note_dc.at 32 rfl) (fun H locs S11 => ?_)
          refine u_al_n (x := a0) E (Fr_note_dc.at 33 rfl) hl rfl ?_
          refine u_gR E zf_2_3 S11 g1 zw_1_84 (Fr_note_dc.at 34 rfl) ?_
          refine u_al_n (x := a0) E (Fr_note_dc.at 35 rfl) hl rfl ?_
          refine u_gI E zf_2_4 S11 g1 zw_1_85 (Fr_note_dc.at 36 rfl) ?_
          refine u_il_n (x := a3) E (Fr_note_dc.at 37 rfl) hl rfl ?_
          obtain ⟨g12, h⟩ := ite_e h
          obtain ⟨g13, h⟩ := ite_e h
          obtain ⟨M14, eM14, h⟩ := lt1_e h
          refine u_iast E eM14 S11 g12 g13 ha3 (Fr_note_dc.at 38 rfl) (fun H locs S15 => ?_)
          refine u_al_n (x := a0) E (Fr_note_dc.at 39 rfl) hl rfl ?_
          refine r_dup E (Fr_note_dc.at 40 rfl) (zR_cat _ _) ?_
          refine u_gI E zf_2_4 S15 g1 zw_1_85 (Fr_note_dc.at 41 rfl) ?_
          refine r_iconst E (Fr_note_dc.at 42 rfl) ?_
          refine r_iadd E (Fr_note_dc.at 43 rfl) ?_
          obtain ⟨M16, eM16, h⟩ := lt1_e h
          refine u_pI E eM16 zf_2_4 S15 g1 (inR_w32 _) (Or.inl rfl) rfl zw_1_85 (Fr_note_dc.at 44 rfl) (fun H locs S17 => ?_)
          cases h
          exact r_vret E S17 True.intro (Fr_note_dc.at 45 rfl)
        · have h := ite_f h q
          cases h
          exact r_vret E S True.intro (Fr_note_dc.at 45 rfl)
      · have h := ite_f h q
        cases h
        exact r_vret E S True.intro (Fr_note_dc.at 45 rfl)
    · have h := ite_f h q
      cases h
      exact r_vret E S True.intro (Fr_note_dc.at 45 rfl)
theorem Fr_note_c (l : Launch) (G : zG) (fu : Nat) (top : Int) (L : zL) (M : zM) (a0 : Int) (a1 : Int) (a2 : Int) (a3 : Int) {res : zM} (ha0 : InR a0) (ha1 : InR a1) (ha2 : InR a2) (ha3 : InR a3) (h : Fr_note fu L M a0 a1 a2 a3 = some res) : Met l yX2_note (Cond.code yX2_note cX2_note 4 none :: zTB) (zrm 1 0 0) (va_Pc [zR G.2.2.1 a0, .int (zO a1), .int (zO a2), .int (zO a3)] (zPre G top L M)) (zQ G top L res none True) 0 0 (zA G) :=
  z_met (by decide +kernel) (by simp [zR_cat, zcat_I, zcat_S]) (Nat.le_of_ble_eq_true rfl) fun p e s m below meth c ls E hn S hl => Fr_note_w E ha0 ha1 ha2 ha3 S (hl.sub (And.intro rfl (And.intro rfl (And.intro rfl (And.intro rfl True.intro))))) h
end
theorem Fr_readPiece_dc : zDL cX2_readPiece [(0, .aload_n 0, 1, 1), (1, .getfield 21, 3, 4), (4, .invokevirtual 51, 3, 7), (7, .istore_n 1, 1, 8), (8, .aload_n 0, 1, 9), (9, .getfield 25, 3, 12), (12, .bipush 8, 2, 14), (14, .if_icmp .ge 24, 3, 17), (17, .iload_n 1, 1, 18), (18, .bipush 97, 2, 20), (20, .if_icmp .lt 18, 3, 23), (23, .iload_n 1, 1, 24), (24, .bipush 104, 2, 26), (26, .if_icmp .gt 12, 3, 29), (29, .aload_n 0, 1, 30), (30, .iload_n 1, 1, 31), (31, .invokevirtual 55, 3, 34), (34, .iconst (-1), 1, 35), (35, .if_icmp .eq 5, 3, 38), (38, .iconst 0, 1, 39), (39, .ireturn, 1, 40), (40, .aload_n 0, 1, 41), (41, .getfield 21, 3, 44), (44, .invokevirtual 48, 3, 47), (47, .aload_n 0, 1, 48), (48, .getfield 21, 3, 51), (51, .iconst 0, 1, 52), (52, .bipush 99, 2, 54), (54, .invokevirtual 59, 3, 57), (57, .ifCond .ne 5, 3, 60), (60, .iconst 0, 1, 61), (61, .ireturn, 1, 62), (62, .aload_n 0, 1, 63), (63, .getfield 21, 3, 66), (66, .getfield 63, 3, 69), (69, .istore_n 2, 1, 70), (70, .iconst (-1), 1, 71), (71, .istore_n 3, 1, 72), (72, .aload_n 0, 1, 73), (73, .getfield 21, 3, 76), (76, .invokevirtual 48, 3, 79), (79, .aload_n 0, 1, 80), (80, .getfield 21, 3, 83), (83, .ldc 66, 2, 85), (85, .invokevirtual 68, 3, 88), (88, .ifCond .eq 40, 3, 91), (91, .aload_n 0, 1, 92), (92, .getfield 21, 3, 95), (95, .invokevirtual 48, 3, 98), (98, .aload_n 0, 1, 99), (99, .aload_n 0, 1, 100), (100, .getfield 21, 3, 103), (103, .invokevirtual 51, 3, 106), (106, .invokevirtual 55, 3, 109), (109, .istore_n 3, 1, 110), (110, .aload_n 0, 1, 111), (111, .iload_n 3, 1, 112), (112, .iload_n 2, 1, 113), (113, .invokevirtual 72, 3, 116), (116, .ifCond .ne 5, 3, 119), (119, .iconst 0, 1, 120), (120, .ireturn, 1, 121), (121, .aload_n 0, 1, 122), (122, .getfield 21, 3, 125), (125, .invokevirtual 48, 3, 128), (128, .aload_n 0, 1, 129), (129, .iload_n 1, 1, 130), (130, .iload_n 2, 1, 131), (131, .iload_n 3, 1, 132), (132, .invokevirtual 75, 3, 135), (135, .iconst 1, 1, 136), (136, .ireturn, 1, 137)] := zDL.of (by decide +kernel)
section
variable {p : Program} {l : Launch} {e : Env} {s : State} {m : MethodId} {args : Array Value} {below : List Frame} {meth : Method} {c : Code} {G : zG} {top : Int} {L : zL} {fu : Nat}
theorem Fr_readPiece_b128_w (E : zEv p m c cX2_readPiece 4 s args RX2 meth (some .boolean) G) {res : (zM × Int)} {M : zM} {x0 : Int} {x1 : Int} {x2 : Int} {x3 : Int} {H : Heap} {locs : List Loc} {ls : Array Slot} (hx0 : InR x0) (hx1 : InR x1) (hx2 : InR x2) (hx3 : InR x3) (S : zS G top L M s H locs) (hl : zLV ls 4 [some (zR G.2.2.1 x0), some (.int (zO x1)), some (.int (zO x2)), some (.int (zO x3))]) (h : Fr_readPiece_b128 fu L M x0 x1 x2 x3 = some res) : W p l e (zrm 7 0 0) s m args below meth c H locs 0 0 (MQ below (zQ G top L res.1 (some (.int (zO res.2))) (0 ≤ res.2 ∧ res.2 ≤ 1)) args s 0 0 (zA G)) (F0 m 128 ls []) := by
  unfold Fr_readPiece_b128 at h
  refine u_al_n (x := x0) E (Fr_readPiece_dc.at 65 rfl) hl rfl ?_
  refine u_il_n (x := x1) E (Fr_readPiece_dc.at 66 rfl) hl rfl ?_
  refine u_il_n (x := x2) E (Fr_readPiece_dc.at 67 rfl) hl rfl ?_
  refine u_il_n (x := x3) E (Fr_readPiece_dc.at 68 rfl) hl rfl ?_
  obtain ⟨g18, h⟩ := ite_e h
  obtain ⟨M19, eM19, h⟩ := bd1_e h
  refine u_cVU (As := [.int (zO x1), .int (zO x2), .int (zO x3)]) (rest := []) E S zcw_yX2_note zw_3_71 zq_1_7 zw_3_69 zck_2.1 rfl g18 (Fr_note_c l G fu top L M x0 x1 x2 x3 hx0 hx1 hx2 hx3 eM19) (zrm_ok (by decide) (by decide)) ⟨Nat.le_refl 0, Nat.le_refl 0⟩ rfl (Nat.zero_le 8) hl.size rfl (Fr_readPiece_dc.at 69 rfl) (fun H locs _ S20 => ?_)
  refine r_iconst E (Fr_readPiece_dc.at 70 rfl) ?_
  cases h
  exact r_zret E S20 z01_1 z01_1 (Fr_readPiece_dc.at 71 rfl)
theorem Fr_readPiece_w (E : zEv p m c cX2_readPiece 4 s args RX2 meth (some .boolean) G) {res : (zM × Int)} {M : zM} {a0 : Int} {H : Heap} {locs : List Loc} {ls : Array Slot} (ha0 : InR a0) (S : zS G top L M s H locs) (hl : zLV ls 4 [some (zR G.2.2.1 a0), none, none, none]) (h : Fr_readPiece fu L M a0 = some res) : W p l e (zrm 7 0 0) s m args below meth c H locs 0 0 (MQ below (zQ G top L res.1 (some (.int (zO res.2))) (0 ≤ res.2 ∧ res.2 ≤ 1)) args s 0 0 (zA G)) (F0 m 0 ls []) := by
  unfold Fr_readPiece at h
  refine u_al_n (x := a0) E (Fr_readPiece_dc.at 0 rfl) hl rfl ?_
  obtain ⟨g1, h⟩ := ite_e h
  refine u_gR E zf_2_0 S g1 zw_1_81 (Fr_readPiece_dc.at 1 rfl) ?_
  obtain ⟨g2, h⟩ := ite_e h
  obtain ⟨r3, er3, h⟩ := bd1_e h
  refine u_cVI (As := []) (rest := []) E S zcw_yX7_letter zw_3_0 zw_3_1 zw_2_239 zck_7.1 rfl g2 (Tp_letter_c l G fu top L M (M a0 0) (S.1.inR _ _) er3) (zrm_ok (by decide) (by decide)) ⟨Nat.le_refl 0, Nat.le_refl 0⟩ rfl (Nat.zero_le 8) hl.size rfl (Fr_readPiece_dc.at 2 rfl) (fun H locs hr3 S4 => ?_)
  refine u_ist_n (y := r3) (vs' := [some (zR G.2.2.1 a0), some (.int (zO r3)), none, none]) E rfl (Fr_readPiece_dc.at 3 rfl) hl (by decide) rfl (fun ls hl => ?_)
  refine u_al_n (x := a0) E (Fr_readPiece_dc.at 4 rfl) hl rfl ?_
  refine u_gI E zf_2_4 S4 g1 zw_1_85 (Fr_readPiece_dc.at 5 rfl) ?_
  refine r_bipush E (Fr_readPiece_dc.at 6 rfl) rfl ?_
  refine r_icmp_ge (tgt := 38) E (S4.1.inR _ _) (show InR 8 by decide) (Fr_readPiece_dc.at 7 rfl) (by decide) (fun q => ?_) (fun q => ?_)
  · have h := ite_t h q
    refine u_il_n (x := r3) E (Fr_readPiece_dc.at 8 rfl) hl rfl ?_
    refine r_bipush E (Fr_readPiece_dc.at 9 rfl) rfl ?_
    refine r_icmp_lt (tgt := 38) E hr3 (show InR 97 by decide) (Fr_readPiece_dc.at 10 rfl) (by decide) (fun q => ?_) (fun q => ?_)
    · have h := ite_t h q
      refine r_iconst E (Fr_readPiece_dc.at 19 rfl) ?_
      cases h
      exact r_zret E S4 z01_0 z01_0 (Fr_readPiece_dc.at 20 rfl)
    · have h := ite_f h q
      refine u_il_n (x := r3) E (Fr_readPiece_dc.at 11 rfl) hl rfl ?_
      refine r_bipush E (Fr_readPiece_dc.at 12 rfl) rfl ?_
      refine r_icmp_gt (tgt := 38) E hr3 (show InR 104 by decide) (Fr_readPiece_dc.at 13 rfl) (by decide) (fun q => ?_) (fun q => ?_)
      · have h := ite_t h q
        refine r_iconst E (Fr_readPiece_dc.at 19 rfl) ?_
        cases h
        exact r_zret E S4 z01_0 z01_0 (Fr_readPiece_dc.at 20 rfl)
      · have h := ite_f h q
        refine u_al_n (x := a0) E (Fr_readPiece_dc.at 14 rfl) hl rfl ?_
        refine u_il_n (x := r3) E (Fr_readPiece_dc.at 15 rfl) hl rfl ?_
        obtain ⟨r5, er5, h⟩ := bd1_e h
        refine u_cVI (As := [.int (zO r3)]) (rest := []) E S4 zcw_yX2_indexOf zw_3_5 zq_1_5 zw_3_3 zck_2.1 rfl g1 (Fr_indexOf_c l G fu top L M a0 r3 ha0 hr3 er5) (zrm_ok (by decide) (by decide)) ⟨Nat.le_refl 0, Nat.le_refl 0⟩ rfl (Nat.zero_le 8) hl.size rfl (Fr_readPiece_dc.at 16 rfl) (fun H locs hr5 S6 => ?_)
        refine r_iconst E (Fr_readPiece_dc.at 17 rfl) ?_
        refine r_icmp_eq (tgt := 40) E hr5 (show InR (-1) by decide) (Fr_readPiece_dc.at 18 rfl) (by decide) (fun q => ?_) (fun q => ?_)
        · have h := ite_t h q
          refine u_al_n (x := a0) E (Fr_readPiece_dc.at 21 rfl) hl rfl ?_
          refine u_gR E zf_2_0 S6 g1 zw_1_81 (Fr_readPiece_dc.at 22 rfl) ?_
          obtain ⟨M7, eM7, h⟩ := bd1_e h
          refine u_cVU (As := []) (rest := []) E S6 zcw_yX7_advance zw_2_206 zw_2_207 zw_3_7 zck_7.1 rfl g2 (Tp_advance_c l G fu top L M (M a0 0) (S6.1.inR _ _) eM7) (zrm_ok (by decide) (by decide)) ⟨Nat.le_refl 0, Nat.le_refl 0⟩ rfl (Nat.zero_le 8) hl.size rfl (Fr_readPiece_dc.at 23 rfl) (fun H locs _ S8 => ?_)
          refine u_al_n (x := a0) E (Fr_readPiece_dc.at 24 rfl) hl rfl ?_
          refine u_gR E zf_2_0 S8 g1 zw_1_81 (Fr_readPiece_dc.at 25 rfl) ?_
          refine r_iconst E (Fr_readPiece_dc.at 26 rfl) ?_
          refine r_bipush E (Fr_readPiece_dc.at 27 rfl) rfl ?_
          obtain ⟨g9, h⟩ := ite_e h
          obtain ⟨r10, er10, h⟩ := bd1_e h
          refine u_cVI (As := [.int (zO 0), .int (zO 99)]) (rest := []) E S8 zcw_yX7_isNumber zw_3_9 zw_3_10 zw_3_8 zck_7.1 rfl g9 (Tp_isNumber_c l G fu top L M7 (M7 a0 0) 0 99 (S8.1.inR _ _) (show InR 0 by decide) (show InR 99 by decide) er10) (zrm_ok (by decide) (by decide)) ⟨Nat.le_refl 0, Nat.le_refl 0⟩ rfl (Nat.zero_le 8) hl.size rfl (Fr_readPiece_dc.at 28 rfl) (fun H locs hr10 S11 => ?_)
          refine r_if_ne (tgt := 62) E (inR_01 hr10) (Fr_readPiece_dc.at 29 rfl) (by decide) (fun q => ?_) (fun q => ?_)
          · have h := ite_t h q
            refine r_iconst E (Fr_readPiece_dc.at 30 rfl) ?_
            cases h
            exact r_zret E S11 z01_0 z01_0 (Fr_readPiece_dc.at 31 rfl)
          · have h := ite_f h q
            refine u_al_n (x := a0) E (Fr_readPiece_dc.at 32 rfl) hl rfl ?_
            refine u_gR E zf_2_0 S11 g1 zw_1_81 (Fr_readPiece_dc.at 33 rfl) ?_
            refine u_gI E zf_7_7 S11 g9 zw_1_53 (Fr_readPiece_dc.at 34 rfl) ?_
            obtain ⟨v12, ev12, h⟩ := lt1_e h
            have hv12 := inR_eq ev12 (S11.1.inR _ _)
            refine u_ist_n (y := v12) (vs' := [some (zR G.2.2.1 a0), some (.int (zO r3)), some (.int (zO v12)), none]) E ev12 (Fr_readPiece_dc.at 35 rfl) hl (by decide) rfl (fun ls hl => ?_)
            refine r_iconst E (Fr_readPiece_dc.at 36 rfl) ?_
            refine u_ist_n (y := (-1)) (vs' := [some (zR G.2.2.1 a0), some (.int (zO r3)), some (.int (zO v12)), some (.int (zO (-1)))]) E rfl (Fr_readPiece_dc.at 37 rfl) hl (by decide) rfl (fun ls hl => ?_)
            refine u_al_n (x := a0) E (Fr_readPiece_dc.at 38 rfl) hl rfl ?_
            refine u_gR E zf_2_0 S11 g1 zw_1_81 (Fr_readPiece_dc.at 39 rfl) ?_
            obtain ⟨M13, eM13, h⟩ := bd1_e h
            refine u_cVU (As := []) (rest := []) E S11 zcw_yX7_advance zw_2_206 zw_2_207 zw_3_7 zck_7.1 rfl g9 (Tp_advance_c l G fu top L M7 (M7 a0 0) (S11.1.inR _ _) eM13) (zrm_ok (by decide) (by decide)) ⟨Nat.le_refl 0, Nat.le_refl 0⟩ rfl (Nat.zero_le 8) hl.size rfl (Fr_readPiece_dc.at 40 rfl) (fun H locs _ S14 => ?_)
            refine u_al_n (x := a0) E (Fr_readPiece_dc.at 41 rfl) hl rfl ?_
            refine u_gR E zf_2_0 S14 g1 zw_1_81 (Fr_readPiece_dc.at 42 rfl) ?_
            refine r_ldcS (j := 0) E (Fr_readPiece_dc.at 43 rfl) rfl ?_
            obtain ⟨g15, h⟩ := ite_e h
            obtain ⟨r16, er16, h⟩ := bd1_e h
            refine u_cVI (As := [.ref (G.2.2.2.1 0)]) (rest := []) E S14 zcw_yX7_isWord zw_3_14 zw_3_15 zw_3_13 zck_7.1 rfl g15 (Tp_isWord_c l G fu top L M13 (M13 a0 0) 0 (S14.1.inR _ _) er16) (zrm_ok (by decide) (by decide)) ⟨Nat.le_refl 0, Nat.le_refl 0⟩ rfl (Nat.zero_le 8) hl.size rfl (Fr_readPiece_dc.at 44 rfl) (fun H locs hr16 S17 => ?_)
            refine r_if_eq (tgt := 128) E (inR_01 hr16) (Fr_readPiece_dc.at 45 rfl) (by decide) (fun q => ?_) (fun q => ?_)
            · have h := ite_t h q
              exact Fr_readPiece_b128_w (x0 := a0) (x1 := r3) (x2 := v12) (x3 := (-1))  E ha0 hr3 hv12 (show InR (-1) by decide) S17 (hl.sub (And.intro rfl (And.intro rfl (And.intro rfl (And.intro rfl True.intro))))) h
            · have h := ite_f h q
              refine u_al_n (x := a0) E (Fr_readPiece_dc.at 46 rfl) hl rfl ?_
              refine u_gR E zf_2_0 S17 g1 zw_1_81 (Fr_readPiece_dc.at 47 rfl) ?_
              obtain ⟨M21, eM21, h⟩ := bd1_e h
              refine u_cVU (As := []) (rest := []) E S17 zcw_yX7_advance zw_2_206 zw_2_207 zw_3_7 zck_7.1 rfl g15 (Tp_advance_c l G fu top L M13 (M13 a0 0) (S17.1.inR _ _) eM21) (zrm_ok (by decide) (by decide)) ⟨Nat.le_refl 0, Nat.le_refl 0⟩ rfl (Nat.zero_le 8) hl.size rfl (Fr_readPiece_dc.at 48 rfl) (fun H locs _ S22 => ?_)
              refine u_al_n (x := a0) E (Fr_readPiece_dc.at 49 rfl) hl rfl ?_
              refine u_al_n (x := a0) E (Fr_readPiece_dc.at 50 rfl) hl rfl ?_
              refine u_gR E zf_2_0 S22 g1 zw_1_81 (Fr_readPiece_dc.at 51 rfl) ?_
              obtain ⟨g23, h⟩ := ite_e h
              obtain ⟨r24, er24, h⟩ := bd1_e h
              refine u_cVI (As := []) (rest := [zR G.2.2.1 a0]) E S22 zcw_yX7_letter zw_3_0 zw_3_1 zw_2_239 zck_7.1 rfl g23 (Tp_letter_c l G fu top L M21 (M21 a0 0) (S22.1.inR _ _) er24) (zrm_ok (by decide) (by decide)) ⟨Nat.le_refl 0, Nat.le_refl 0⟩ rfl (by simp [zR_cat, zcat_I, zcat_J, zcat_S]) hl.size rfl (Fr_readPiece_dc.at 52 rfl) (fun H locs hr24 S25 => ?_)
              obtain ⟨r26, er26, h⟩ := bd1_e h
              refine u_cVI (As := [.int (zO r24)]) (rest := []) E S25 zcw_yX2_indexOf zw_3_5 zq_1_5 zw_3_3 zck_2.1 rfl g1 (Fr_indexOf_c l G fu top L M21 a0 r24 ha0 hr24 er26) (zrm_ok (by decide) (by decide)) ⟨Nat.le_refl 0, Nat.le_refl 0⟩ rfl (Nat.zero_le 8) hl.size rfl (Fr_readPiece_dc.at 53 rfl) (fun H locs hr26 S27 => ?_)
              refine u_ist_n (y := r26) (vs' := [some (zR G.2.2.1 a0), some (.int (zO r3)), some (.int (zO v12)), some (.int (zO r26))]) E rfl (Fr_readPiece_dc.at 54 rfl) hl (by decide) rfl (fun ls hl => ?_)
              refine u_al_n (x := a0) E (Fr_readPiece_dc.at 55 rfl) hl rfl ?_
              refine u_il_n (x := r26) E (Fr_readPiece_dc.at 56 rfl) hl rfl ?_
              refine u_il_n (x := v12) E (Fr_readPiece_dc.at 57 rfl) hl rfl ?_
              obtain ⟨r28, er28, h⟩ := bd1_e h
              refine u_cVI (As := [.int (zO r26), .int (zO v12)]) (rest := []) E S27 zcw_yX2_isParent zw_3_67 zq_1_6 zw_3_65 zck_2.1 rfl g1 (Fr_isParent_c l G fu top L M21 a0 r26 v12 ha0 hr26 hv12 er28) (zrm_ok (by decide) (by decide)) ⟨Nat.le_refl 0, Nat.le_refl 0⟩ rfl (Nat.zero_le 8) hl.size rfl (Fr_readPiece_dc.at 58 rfl) (fun H locs hr28 S29 => ?_)
              refine r_if_ne (tgt := 121) E (inR_01 hr28) (Fr_readPiece_dc.at 59 rfl) (by decide) (fun q => ?_) (fun q => ?_)
              · have h := ite_t h q
                refine r_iconst E (Fr_readPiece_dc.at 60 rfl) ?_
                cases h
                exact r_zret E S29 z01_0 z01_0 (Fr_readPiece_dc.at 61 rfl)
              · have h := ite_f h q
                refine u_al_n (x := a0) E (Fr_readPiece_dc.at 62 rfl) hl rfl ?_
                refine u_gR E zf_2_0 S29 g1 zw_1_81 (Fr_readPiece_dc.at 63 rfl) ?_
                obtain ⟨M30, eM30, h⟩ := bd1_e h
                refine u_cVU (As := []) (rest := []) E S29 zcw_yX7_advance zw_2_206 zw_2_207 zw_3_7 zck_7.1 rfl g23 (Tp_advance_c l G fu top L M21 (M21 a0 0) (S29.1.inR _ _) eM30) (zrm_ok (by decide) (by decide)) ⟨Nat.le_refl 0, Nat.le_refl 0⟩ rfl (Nat.zero_le 8) hl.size rfl (Fr_readPiece_dc.at 64 rfl) (fun H locs _ S31 => ?_)
                exact Fr_readPiece_b128_w (x0 := a0) (x1 := r3) (x2 := v12) (x3 := r26)  E ha0 hr3 hv12 hr26 S31 (hl.sub (And.intro rfl (And.intro rfl (And.intro rfl (And.intro rfl True.intro))))) h
        · have h := ite_f h q
          refine r_iconst E (Fr_readPiece_dc.at 19 rfl) ?_
          cases h
          exact r_zret E S6 z01_0 z01_0 (Fr_readPiece_dc.at 20 rfl)
  · have h := ite_f h q
    refine r_iconst E (Fr_readPiece_dc.at 19 rfl) ?_
    cases h
    exact r_zret E S4 z01_0 z01_0 (Fr_readPiece_dc.at 20 rfl)
theorem Fr_readPiece_c (l : Launch) (G : zG) (fu : Nat) (top : Int) (L : zL) (M : zM) (a0 : Int) {res : (zM × Int)} (ha0 : InR a0) (h : Fr_readPiece fu L M a0 = some res) : Met l yX2_readPiece (Cond.code yX2_readPiece cX2_readPiece 4 (some .boolean) :: zTB) (zrm 7 0 0) (va_Pc [zR G.2.2.1 a0] (zPre G top L M)) (zQ G top L res.1 (some (.int (zO res.2))) (0 ≤ res.2 ∧ res.2 ≤ 1)) 0 0 (zA G) :=
  z_met (by decide +kernel) (by simp [zR_cat, zcat_I, zcat_S]) (Nat.le_of_ble_eq_true rfl) fun p e s m below meth c ls E hn S hl => Fr_readPiece_w E ha0 S (hl.sub (And.intro rfl True.intro)) h
end
theorem Tp_isOver_dc : zDL cX7_isOver [(0, .aload_n 0, 1, 1), (1, .getfield 41, 3, 4), (4, .ifCond .ne 7, 3, 7), (7, .iconst 1, 1, 8), (8, .goto 4, 3, 11), (11, .iconst 0, 1, 12), (12, .ireturn, 1, 13)] := zDL.of (by decide +kernel)
section
variable {p : Program} {l : Launch} {e : Env} {s : State} {m : MethodId} {args : Array Value} {below : List Frame} {meth : Method} {c : Code} {G : zG} {top : Int} {L : zL} {fu : Nat}
theorem Tp_isOver_w (E : zEv p m c cX7_isOver 1 s args RX7 meth (some .boolean) G) {res : Int} {M : zM} {a0 : Int} {H : Heap} {locs : List Loc} {ls : Array Slot} (ha0 : InR a0) (S : zS G top L M s H locs) (hl : zLV ls 1 [some (zR G.2.2.1 a0)]) (h : Tp_isOver fu L M a0 = some res) : W p l e (zrm 1 0 0) s m args below meth c H locs 0 0 (MQ below (zQ G top L M (some (.int (zO res))) (0 ≤ res ∧ res ≤ 1)) args s 0 0 (zA G)) (F0 m 0 ls []) := by
  unfold Tp_isOver at h
  refine u_al_n (x := a0) E (Tp_isOver_dc.at 0 rfl) hl rfl ?_
  obtain ⟨g1, h⟩ := ite_e h
  refine u_gI E zf_7_4 S g1 zw_1_45 (Tp_isOver_dc.at 1 rfl) ?_
  refine r_if_ne (tgt := 11) E (S.1.inR _ _) (Tp_isOver_dc.at 2 rfl) (by decide) (fun q => ?_) (fun q => ?_)
  · have h := ite_t h q
    refine r_iconst E (Tp_isOver_dc.at 3 rfl) ?_
    refine r_goto (tgt := 12) E (Tp_isOver_dc.at 4 rfl) (by decide) ?_
    cases h
    exact r_zret E S z01_1 z01_1 (Tp_isOver_dc.at 6 rfl)
  · have h := ite_f h q
    refine r_iconst E (Tp_isOver_dc.at 5 rfl) ?_
    cases h
    exact r_zret E S z01_0 z01_0 (Tp_isOver_dc.at 6 rfl)
theorem Tp_isOver_c (l : Launch) (G : zG) (fu : Nat) (top : Int) (L : zL) (M : zM) (a0 : Int) {res : Int} (ha0 : InR a0) (h : Tp_isOver fu L M a0 = some res) : Met l yX7_isOver (Cond.code yX7_isOver cX7_isOver 1 (some .boolean) :: zTB) (zrm 1 0 0) (va_Pc [zR G.2.2.1 a0] (zPre G top L M)) (zQ G top L M (some (.int (zO res))) (0 ≤ res ∧ res ≤ 1)) 0 0 (zA G) :=
  z_met (by decide +kernel) (by simp [zR_cat, zcat_I, zcat_S]) (Nat.le_of_ble_eq_true rfl) fun p e s m below meth c ls E hn S hl => Tp_isOver_w E ha0 S (hl.sub (And.intro rfl True.intro)) h
end
theorem Tp_isSign_dc : zDL cX7_isSign [(0, .aload_n 0, 1, 1), (1, .getfield 41, 3, 4), (4, .iconst 3, 1, 5), (5, .if_icmp .ne 19, 3, 8), (8, .aload_n 0, 1, 9), (9, .aload_n 0, 1, 10), (10, .getfield 32, 3, 13), (13, .invokevirtual 38, 3, 16), (16, .iload_n 1, 1, 17), (17, .if_icmp .ne 7, 3, 20), (20, .iconst 1, 1, 21), (21, .goto 4, 3, 24), (24, .iconst 0, 1, 25), (25, .ireturn, 1, 26)] := zDL.of (by decide +kernel)
section
variable {p : Program} {l : Launch} {e : Env} {s : State} {m : MethodId} {args : Array Value} {below : List Frame} {meth : Method} {c : Code} {G : zG} {top : Int} {L : zL} {fu : Nat}
theorem Tp_isSign_w (E : zEv p m c cX7_isSign 2 s args RX7 meth (some .boolean) G) {res : Int} {M : zM} {a0 : Int} {a1 : Int} {H : Heap} {locs : List Loc} {ls : Array Slot} (ha0 : InR a0) (ha1 : InR a1) (S : zS G top L M s H locs) (hl : zLV ls 2 [some (zR G.2.2.1 a0), some (.int (zO a1))]) (h : Tp_isSign fu L M a0 a1 = some res) : W p l e (zrm 2 0 0) s m args below meth c H locs 0 0 (MQ below (zQ G top L M (some (.int (zO res))) (0 ≤ res ∧ res ≤ 1)) args s 0 0 (zA G)) (F0 m 0 ls []) := by
  unfold Tp_isSign at h
  refine u_al_n (x := a0) E (Tp_isSign_dc.at 0 rfl) hl rfl ?_
  obtain ⟨g1, h⟩ := ite_e h
  refine u_gI E zf_7_4 S g1 zw_1_45 (Tp_isSign_dc.at 1 rfl) ?_
  refine r_iconst E (Tp_isSign_dc.at 2 rfl) ?_
  refine r_icmp_ne (tgt := 24) E (S.1.inR _ _) (show InR 3 by decide) (Tp_isSign_dc.at 3 rfl) (by decide) (fun q => ?_) (fun q => ?_)
  · have h := ite_t h q
    refine u_al_n (x := a0) E (Tp_isSign_dc.at 4 rfl) hl rfl ?_
    refine u_al_n (x := a0) E (Tp_isSign_dc.at 5 rfl) hl rfl ?_
    refine u_gI E zf_7_5 S g1 zw_1_50 (Tp_isSign_dc.at 6 rfl) ?_
    obtain ⟨r2, er2, h⟩ := bd1_e h
    refine u_cVI (As := [.int (zO (M a0 5))]) (rest := []) E S zcw_yX7_at zw_2_214 zw_2_215 zw_2_213 zck_7.1 rfl g1 (Tp_at_c l G fu top L M a0 (M a0 5) ha0 (S.1.inR _ _) er2) (zrm_ok (by decide) (by decide)) ⟨Nat.le_refl 0, Nat.le_refl 0⟩ rfl (Nat.zero_le 8) hl.size rfl (Tp_isSign_dc.at 7 rfl) (fun H locs hr2 S3 => ?_)
    refine u_il_n (x := a1) E (Tp_isSign_dc.at 8 rfl) hl rfl ?_
    refine r_icmp_ne (tgt := 24) E hr2 ha1 (Tp_isSign_dc.at 9 rfl) (by decide) (fun q => ?_) (fun q => ?_)
    · have h := ite_t h q
      refine r_iconst E (Tp_isSign_dc.at 10 rfl) ?_
      refine r_goto (tgt := 25) E (Tp_isSign_dc.at 11 rfl) (by decide) ?_
      cases h
      exact r_zret E S3 z01_1 z01_1 (Tp_isSign_dc.at 13 rfl)
    · have h := ite_f h q
      refine r_iconst E (Tp_isSign_dc.at 12 rfl) ?_
      cases h
      exact r_zret E S3 z01_0 z01_0 (Tp_isSign_dc.at 13 rfl)
  · have h := ite_f h q
    refine r_iconst E (Tp_isSign_dc.at 12 rfl) ?_
    cases h
    exact r_zret E S z01_0 z01_0 (Tp_isSign_dc.at 13 rfl)
theorem Tp_isSign_c (l : Launch) (G : zG) (fu : Nat) (top : Int) (L : zL) (M : zM) (a0 : Int) (a1 : Int) {res : Int} (ha0 : InR a0) (ha1 : InR a1) (h : Tp_isSign fu L M a0 a1 = some res) : Met l yX7_isSign (Cond.code yX7_isSign cX7_isSign 2 (some .boolean) :: zTB) (zrm 2 0 0) (va_Pc [zR G.2.2.1 a0, .int (zO a1)] (zPre G top L M)) (zQ G top L M (some (.int (zO res))) (0 ≤ res ∧ res ≤ 1)) 0 0 (zA G) :=
  z_met (by decide +kernel) (by simp [zR_cat, zcat_I, zcat_S]) (Nat.le_of_ble_eq_true rfl) fun p e s m below meth c ls E hn S hl => Tp_isSign_w E ha0 ha1 S (hl.sub (And.intro rfl (And.intro rfl True.intro))) h
end
theorem Fr_read_dc : zDL cX2_read [(0, .aload_n 0, 1, 1), (1, .iconst 0, 1, 2), (2, .putfield 25, 3, 5), (5, .aload_n 0, 1, 6), (6, .getfield 21, 3, 9), (9, .invokevirtual 29, 3, 12), (12, .iconst 0, 1, 13), (13, .istore_n 1, 1, 14), (14, .iload_n 1, 1, 15), (15, .bipush 8, 2, 17), (17, .if_icmp .gt 63, 3, 20), (20, .aload_n 0, 1, 21), (21, .invokevirtual 34, 3, 24), (24, .ifCond .ne 11, 3, 27), (27, .aload_n 0, 1, 28), (28, .getfield 21, 3, 31), (31, .getfield 38, 3, 34), (34, .ireturn, 1, 35), (35, .aload_n 0, 1, 36), (36, .getfield 21, 3, 39), (39, .invokevirtual 41, 3, 42), (42, .ifCond .eq 5, 3, 45), (45, .iconst (-1), 1, 46), (46, .ireturn, 1, 47), (47, .aload_n 0, 1, 48), (48, .getfield 21, 3, 51), (51, .bipush 59, 2, 53), (53, .invokevirtual 44, 3, 56), (56, .ifCond .ne 11, 3, 59), (59, .aload_n 0, 1, 60), (60, .getfield 21, 3, 63), (63, .getfield 38, 3, 66), (66, .ireturn, 1, 67), (67, .aload_n 0, 1, 68), (68, .getfield 21, 3, 71), (71, .invokevirtual 48, 3, 74), (74, .iinc 1 1, 3, 77), (77, .goto (-63), 3, 80), (80, .aload_n 0, 1, 81), (81, .getfield 21, 3, 84), (84, .getfield 38, 3, 87), (87, .ireturn, 1, 88)] := zDL.of (by decide +kernel)
section
variable {p : Program} {l : Launch} {e : Env} {s : State} {m : MethodId} {args : Array Value} {below : List Frame} {meth : Method} {c : Code} {G : zG} {top : Int} {L : zL} {fu : Nat}
theorem Fr_read_s14_w (E : zEv p m c cX2_read 2 s args RX2 meth (some .int) G) {res : (zM × Int)} {k14 : zM → Int → Int → Option (zM × Int)} (hk14 : ∀ (M : zM) (x0 : Int) (x1 : Int), InR x0 → InR x1 → ∀ (H : Heap) (locs : List Loc) (ls : Array Slot), zS G top L M s H locs → zLV ls 2 [some (zR G.2.2.1 x0), some (.int (zO x1))] → k14 M x0 x1 = some res → W p l e (zrm 8 0 0) s m args below meth c H locs 0 0 (MQ below (zQ G top L res.1 (some (.int (zO res.2))) (InR res.2)) args s 0 0 (zA G)) (F0 m 14 ls [])) {M : zM} {x0 : Int} {x1 : Int} {H : Heap} {locs : List Loc} {ls : Array Slot} (hx0 : InR x0) (hx1 : InR x1) (S : zS G top L M s H locs) (hl : zLV ls 2 [some (zR G.2.2.1 x0), some (.int (zO x1))]) (h : Fr_read_s14 fu k14 L M x0 x1 = some res) : W p l e (zrm 8 0 0) s m args below meth c H locs 0 0 (MQ below (zQ G top L res.1 (some (.int (zO res.2))) (InR res.2)) args s 0 0 (zA G)) (F0 m 14 ls []) := by
  unfold Fr_read_s14 at h
  refine u_il_n (x := x1) E (Fr_read_dc.at 8 rfl) hl rfl ?_
  refine r_bipush E (Fr_read_dc.at 9 rfl) rfl ?_
  refine r_icmp_gt (tgt := 80) E hx1 (show InR 8 by decide) (Fr_read_dc.at 10 rfl) (by decide) (fun q => ?_) (fun q => ?_)
  · have h := ite_t h q
    refine u_al_n (x := x0) E (Fr_read_dc.at 38 rfl) hl rfl ?_
    obtain ⟨g7, h⟩ := ite_e h
    refine u_gR E zf_2_0 S g7 zw_1_81 (Fr_read_dc.at 39 rfl) ?_
    obtain ⟨g8, h⟩ := ite_e h
    refine u_gI E zf_7_5 S g8 zw_1_47 (Fr_read_dc.at 40 rfl) ?_
    cases h
    exact r_iret E S (S.1.inR _ _) (Fr_read_dc.at 41 rfl)
  · have h := ite_f h q
    refine u_al_n (x := x0) E (Fr_read_dc.at 11 rfl) hl rfl ?_
    obtain ⟨g9, h⟩ := ite_e h
    obtain ⟨M11, r10, er10, h⟩ := bd2_e h
    refine u_cVI (As := []) (rest := []) E S zcw_yX2_readPiece zw_2_237 zq_1_4 zw_2_235 zck_2.1 rfl g9 (Fr_readPiece_c l G fu top L M x0 hx0 er10) (zrm_ok (by decide) (by decide)) ⟨Nat.le_refl 0, Nat.le_refl 0⟩ rfl (Nat.zero_le 8) hl.size rfl (Fr_read_dc.at 12 rfl) (fun H locs hr10 S12 => ?_)
    refine r_if_ne (tgt := 35) E (inR_01 hr10) (Fr_read_dc.at 13 rfl) (by decide) (fun q => ?_) (fun q => ?_)
    · have h := ite_t h q
      refine u_al_n (x := x0) E (Fr_read_dc.at 14 rfl) hl rfl ?_
      refine u_gR E zf_2_0 S12 g9 zw_1_81 (Fr_read_dc.at 15 rfl) ?_
      obtain ⟨g13, h⟩ := ite_e h
      refine u_gI E zf_7_5 S12 g13 zw_1_47 (Fr_read_dc.at 16 rfl) ?_
      cases h
      exact r_iret E S12 (S12.1.inR _ _) (Fr_read_dc.at 17 rfl)
    · have h := ite_f h q
      refine u_al_n (x := x0) E (Fr_read_dc.at 18 rfl) hl rfl ?_
      refine u_gR E zf_2_0 S12 g9 zw_1_81 (Fr_read_dc.at 19 rfl) ?_
      obtain ⟨g14, h⟩ := ite_e h
      obtain ⟨r15, er15, h⟩ := bd1_e h
      refine u_cVI (As := []) (rest := []) E S12 zcw_yX7_isOver zw_3_74 zw_3_75 zw_3_73 zck_7.1 rfl g14 (Tp_isOver_c l G fu top L M11 (M11 x0 0) (S12.1.inR _ _) er15) (zrm_ok (by decide) (by decide)) ⟨Nat.le_refl 0, Nat.le_refl 0⟩ rfl (Nat.zero_le 8) hl.size rfl (Fr_read_dc.at 20 rfl) (fun H locs hr15 S16 => ?_)
      refine r_if_eq (tgt := 47) E (inR_01 hr15) (Fr_read_dc.at 21 rfl) (by decide) (fun q => ?_) (fun q => ?_)
      · have h := ite_t h q
        refine u_al_n (x := x0) E (Fr_read_dc.at 24 rfl) hl rfl ?_
        refine u_gR E zf_2_0 S16 g9 zw_1_81 (Fr_read_dc.at 25 rfl) ?_
        refine r_bipush E (Fr_read_dc.at 26 rfl) rfl ?_
        obtain ⟨r17, er17, h⟩ := bd1_e h
        refine u_cVI (As := [.int (zO 59)]) (rest := []) E S16 zcw_yX7_isSign zw_3_78 zw_3_79 zw_3_77 zck_7.1 rfl g14 (Tp_isSign_c l G fu top L M11 (M11 x0 0) 59 (S16.1.inR _ _) (show InR 59 by decide) er17) (zrm_ok (by decide) (by decide)) ⟨Nat.le_refl 0, Nat.le_refl 0⟩ rfl (Nat.zero_le 8) hl.size rfl (Fr_read_dc.at 27 rfl) (fun H locs hr17 S18 => ?_)
        refine r_if_ne (tgt := 67) E (inR_01 hr17) (Fr_read_dc.at 28 rfl) (by decide) (fun q => ?_) (fun q => ?_)
        · have h := ite_t h q
          refine u_al_n (x := x0) E (Fr_read_dc.at 29 rfl) hl rfl ?_
          refine u_gR E zf_2_0 S18 g9 zw_1_81 (Fr_read_dc.at 30 rfl) ?_
          refine u_gI E zf_7_5 S18 g14 zw_1_47 (Fr_read_dc.at 31 rfl) ?_
          cases h
          exact r_iret E S18 (S18.1.inR _ _) (Fr_read_dc.at 32 rfl)
        · have h := ite_f h q
          refine u_al_n (x := x0) E (Fr_read_dc.at 33 rfl) hl rfl ?_
          refine u_gR E zf_2_0 S18 g9 zw_1_81 (Fr_read_dc.at 34 rfl) ?_
          obtain ⟨M19, eM19, h⟩ := bd1_e h
          refine u_cVU (As := []) (rest := []) E S18 zcw_yX7_advance zw_2_206 zw_2_207 zw_3_7 zck_7.1 rfl g14 (Tp_advance_c l G fu top L M11 (M11 x0 0) (S18.1.inR _ _) eM19) (zrm_ok (by decide) (by decide)) ⟨Nat.le_refl 0, Nat.le_refl 0⟩ rfl (Nat.zero_le 8) hl.size rfl (Fr_read_dc.at 35 rfl) (fun H locs _ S20 => ?_)
          obtain ⟨v21, ev21, h⟩ := lt1_e h
          have hv21 := inR_eq ev21 (inR_w32 _)
          refine u_iinc (y := v21) (vs' := [some (zR G.2.2.1 x0), some (.int (zO v21))]) E ev21 (Fr_read_dc.at 36 rfl) hl rfl (by decide) rfl (fun ls hl => ?_)
          refine r_goto (tgt := 14) E (Fr_read_dc.at 37 rfl) (by decide) ?_
          exact hk14 _ x0 v21 hx0 hv21 _ _ _ S20 (hl.sub (And.intro rfl (And.intro rfl True.intro))) h
      · have h := ite_f h q
        refine r_iconst E (Fr_read_dc.at 22 rfl) ?_
        cases h
        exact r_iret E S16 (show InR (-1) by decide) (Fr_read_dc.at 23 rfl)
theorem Fr_read_l14_w (E : zEv p m c cX2_read 2 s args RX2 meth (some .int) G) {res : (zM × Int)} : ∀ (n : Nat) (M : zM) (x0 : Int) (x1 : Int), InR x0 → InR x1 → ∀ (H : Heap) (locs : List Loc) (ls : Array Slot), zS G top L M s H locs → zLV ls 2 [some (zR G.2.2.1 x0), some (.int (zO x1))] → Fr_read_l14 fu L n M x0 x1 = some res → W p l e (zrm 8 0 0) s m args below meth c H locs 0 0 (MQ below (zQ G top L res.1 (some (.int (zO res.2))) (InR res.2)) args s 0 0 (zA G)) (F0 m 14 ls [])
  | 0, _, _, _ => fun _ _ _ _ _ _ _ h => (by cases h)
  | n + 1, M, x0, x1 => fun hx0 hx1 H locs ls S hl h => Fr_read_s14_w E (fun M x0 x1 hx0 hx1 H locs ls S hl h => Fr_read_l14_w E n M x0 x1 hx0 hx1 H locs ls S hl h) hx0 hx1 S hl h
theorem Fr_read_w (E : zEv p m c cX2_read 2 s args RX2 meth (some .int) G) {res : (zM × Int)} {M : zM} {a0 : Int} {H : Heap} {locs : List Loc} {ls : Array Slot} (ha0 : InR a0) (S : zS G top L M s H locs) (hl : zLV ls 2 [some (zR G.2.2.1 a0), none]) (h : Fr_read fu L M a0 = some res) : W p l e (zrm 8 0 0) s m args below meth c H locs 0 0 (MQ below (zQ G top L res.1 (some (.int (zO res.2))) (InR res.2)) args s 0 0 (zA G)) (F0 m 0 ls []) := by
  unfold Fr_read at h
  refine u_al_n (x := a0) E (Fr_read_dc.at 0 rfl) hl rfl ?_
  refine r_iconst E (Fr_read_dc.at 1 rfl) ?_
  obtain ⟨g1, h⟩ := ite_e h
  obtain ⟨M2, eM2, h⟩ := lt1_e h
  refine u_pI E eM2 zf_2_4 S g1 (show InR 0 by decide) (Or.inl rfl) rfl zw_1_85 (Fr_read_dc.at 2 rfl) (fun H locs S3 => ?_)
  refine u_al_n (x := a0) E (Fr_read_dc.at 3 rfl) hl rfl ?_
  refine u_gR E zf_2_0 S3 g1 zw_1_81 (Fr_read_dc.at 4 rfl) ?_
  obtain ⟨g4, h⟩ := ite_e h
  obtain ⟨M5, eM5, h⟩ := bd1_e h
  refine u_cVU (As := []) (rest := []) E S3 zcw_yX7_restart zw_2_202 zw_2_203 zw_2_201 zck_7.1 rfl g4 (Tp_restart_c l G fu top L M2 (M2 a0 0) (S3.1.inR _ _) eM5) (zrm_ok (by decide) (by decide)) ⟨Nat.le_refl 0, Nat.le_refl 0⟩ rfl (Nat.zero_le 8) hl.size rfl (Fr_read_dc.at 5 rfl) (fun H locs _ S6 => ?_)
  refine r_iconst E (Fr_read_dc.at 6 rfl) ?_
  refine u_ist_n (y := 0) (vs' := [some (zR G.2.2.1 a0), some (.int (zO 0))]) E rfl (Fr_read_dc.at 7 rfl) hl (by decide) rfl (fun ls hl => ?_)
  exact Fr_read_l14_w E fu _ a0 0 ha0 (show InR 0 by decide) _ _ _ S6 (hl.sub (And.intro rfl (And.intro rfl True.intro))) h
theorem Fr_read_c (l : Launch) (G : zG) (fu : Nat) (top : Int) (L : zL) (M : zM) (a0 : Int) {res : (zM × Int)} (ha0 : InR a0) (h : Fr_read fu L M a0 = some res) : Met l yX2_read (Cond.code yX2_read cX2_read 2 (some .int) :: zTB) (zrm 8 0 0) (va_Pc [zR G.2.2.1 a0] (zPre G top L M)) (zQ G top L res.1 (some (.int (zO res.2))) (InR res.2)) 0 0 (zA G) :=
  z_met (by decide +kernel) (by simp [zR_cat, zcat_I, zcat_S]) (Nat.le_of_ble_eq_true rfl) fun p e s m below meth c ls E hn S hl => Fr_read_w E ha0 S (hl.sub (And.intro rfl True.intro)) h
end
theorem Gr_write_dc : zDL cX4_write [(0, .aload_n 0, 1, 1), (1, .getfield 44, 3, 4), (4, .ifCond .lt 35, 3, 7), (7, .aload_n 0, 1, 8), (8, .getfield 44, 3, 11), (11, .aload_n 0, 1, 12), (12, .getfield 27, 3, 15), (15, .arraylength, 1, 16), (16, .if_icmp .ge 23, 3, 19), (19, .aload_n 0, 1, 20), (20, .getfield 27, 3, 23), (23, .aload_n 0, 1, 24), (24, .getfield 44, 3, 27), (27, .iload_n 1, 1, 28), (28, .iastore, 1, 29), (29, .aload_n 0, 1, 30), (30, .dup, 1, 31), (31, .getfield 44, 3, 34), (34, .iconst 1, 1, 35), (35, .iadd, 1, 36), (36, .putfield 44, 3, 39), (39, .return_, 1, 40)] := zDL.of (by decide +kernel)
section
variable {p : Program} {l : Launch} {e : Env} {s : State} {m : MethodId} {args : Array Value} {below : List Frame} {meth : Method} {c : Code} {G : zG} {top : Int} {L : zL} {fu : Nat}
theorem Gr_write_w (E : zEv p m c cX4_write 2 s args RX4 meth none G) {res : zM} {M : zM} {a0 : Int} {a1 : Int} {H : Heap} {locs : List Loc} {ls : Array Slot} (ha0 : InR a0) (ha1 : InR a1) (S : zS G top L M s H locs) (hl : zLV ls 2 [some (zR G.2.2.1 a0), some (.int (zO a1))]) (h : Gr_write fu L M a0 a1 = some res) : W p l e (zrm 1 0 0) s m args below meth c H locs 0 0 (MQ below (zQ G top L res none True) args s 0 0 (zA G)) (F0 m 0 ls []) := by
  unfold Gr_write at h
  refine u_al_n (x := a0) E (Gr_write_dc.at 0 rfl) hl rfl ?_
  obtain ⟨g1, h⟩ := ite_e h
  refine u_gI E zf_4_12 S g1 zw_1_127 (Gr_write_dc.at 1 rfl) ?_
  refine r_if_lt (tgt := 39) E (S.1.inR _ _) (Gr_write_dc.at 2 rfl) (by decide) (fun q => ?_) (fun q => ?_)
  · have h := ite_t h q
    cases h
    exact r_vret E S True.intro (Gr_write_dc.at 21 rfl)
  · have h := ite_f h q
    refine u_al_n (x := a0) E (Gr_write_dc.at 3 rfl) hl rfl ?_
    refine u_gI E zf_4_12 S g1 zw_1_127 (Gr_write_dc.at 4 rfl) ?_
    refine u_al_n (x := a0) E (Gr_write_dc.at 5 rfl) hl rfl ?_
    refine u_gR E zf_4_6 S g1 zw_1_114 (Gr_write_dc.at 6 rfl) ?_
    obtain ⟨g2, h⟩ := ite_e h
    refine r_alen E S g2 (by decide) (Gr_write_dc.at 7 rfl) ?_
    refine r_icmp_ge (tgt := 39) E (S.1.inR _ _) (S.1.lenR _) (Gr_write_dc.at 8 rfl) (by decide) (fun q => ?_) (fun q => ?_)
    · have h := ite_t h q
      refine u_al_n (x := a0) E (Gr_write_dc.at 9 rfl) hl rfl ?_
      refine u_gR E zf_4_6 S g1 zw_1_114 (Gr_write_dc.at 10 rfl) ?_
      refine u_al_n (x := a0) E (Gr_write_dc.at 11 rfl) hl rfl ?_
      refine u_gI E zf_4_12 S g1 zw_1_127 (Gr_write_dc.at 12 rfl) ?_
      refine u_il_n (x := a1) E (Gr_write_dc.at 13 rfl) hl rfl ?_
      obtain ⟨g3, h⟩ := ite_e h
      obtain ⟨M4, eM4, h⟩ := lt1_e h
      refine u_iast E eM4 S g2 g3 ha1 (Gr_write_dc.at 14 rfl) (fun H locs S5 => ?_)
      refine u_al_n (x := a0) E (Gr_write_dc.at 15 rfl) hl rfl ?_
      refine r_dup E (Gr_write_dc.at 16 rfl) (zR_cat _ _) ?_
      refine u_gI E zf_4_12 S5 g1 zw_1_127 (Gr_write_dc.at 17 rfl) ?_
      refine r_iconst E (Gr_write_dc.at 18 rfl) ?_
      refine r_iadd E (Gr_write_dc.at 19 rfl) ?_
      obtain ⟨M6, eM6, h⟩ := lt1_e h
      refine u_pI E eM6 zf_4_12 S5 g1 (inR_w32 _) (Or.inl rfl) rfl zw_1_127 (Gr_write_dc.at 20 rfl) (fun H locs S7 => ?_)
      cases h
      exact r_vret E S7 True.intro (Gr_write_dc.at 21 rfl)
    · have h := ite_f h q
      cases h
      exact r_vret E S True.intro (Gr_write_dc.at 21 rfl)
theorem Gr_write_c (l : Launch) (G : zG) (fu : Nat) (top : Int) (L : zL) (M : zM) (a0 : Int) (a1 : Int) {res : zM} (ha0 : InR a0) (ha1 : InR a1) (h : Gr_write fu L M a0 a1 = some res) : Met l yX4_write (Cond.code yX4_write cX4_write 2 none :: zTB) (zrm 1 0 0) (va_Pc [zR G.2.2.1 a0, .int (zO a1)] (zPre G top L M)) (zQ G top L res none True) 0 0 (zA G) :=
  z_met (by decide +kernel) (by simp [zR_cat, zcat_I, zcat_S]) (Nat.le_of_ble_eq_true rfl) fun p e s m below meth c ls E hn S hl => Gr_write_w E ha0 ha1 S (hl.sub (And.intro rfl (And.intro rfl True.intro))) h
end
theorem Gr_writeNumber_dc : zDL cX4_writeNumber [(0, .iload_n 1, 1, 1), (1, .bipush 10, 2, 3), (3, .if_icmp .lt 14, 3, 6), (6, .aload_n 0, 1, 7), (7, .bipush 48, 2, 9), (9, .iload_n 1, 1, 10), (10, .bipush 10, 2, 12), (12, .idiv, 1, 13), (13, .iadd, 1, 14), (14, .invokevirtual 148, 3, 17), (17, .aload_n 0, 1, 18), (18, .bipush 48, 2, 20), (20, .iload_n 1, 1, 21), (21, .bipush 10, 2, 23), (23, .irem, 1, 24), (24, .iadd, 1, 25), (25, .invokevirtual 148, 3, 28), (28, .return_, 1, 29)] := zDL.of (by decide +kernel)
section
variable {p : Program} {l : Launch} {e : Env} {s : State} {m : MethodId} {args : Array Value} {below : List Frame} {meth : Method} {c : Code} {G : zG} {top : Int} {L : zL} {fu : Nat}
theorem Gr_writeNumber_b17_w (E : zEv p m c cX4_writeNumber 2 s args RX4 meth none G) {res : zM} {M : zM} {x0 : Int} {x1 : Int} {H : Heap} {locs : List Loc} {ls : Array Slot} (hx0 : InR x0) (hx1 : InR x1) (S : zS G top L M s H locs) (hl : zLV ls 2 [some (zR G.2.2.1 x0), some (.int (zO x1))]) (h : Gr_writeNumber_b17 fu L M x0 x1 = some res) : W p l e (zrm 2 0 0) s m args below meth c H locs 0 0 (MQ below (zQ G top L res none True) args s 0 0 (zA G)) (F0 m 17 ls []) := by
  unfold Gr_writeNumber_b17 at h
  refine u_al_n (x := x0) E (Gr_writeNumber_dc.at 10 rfl) hl rfl ?_
  refine r_bipush E (Gr_writeNumber_dc.at 11 rfl) rfl ?_
  refine u_il_n (x := x1) E (Gr_writeNumber_dc.at 12 rfl) hl rfl ?_
  refine r_bipush E (Gr_writeNumber_dc.at 13 rfl) rfl ?_
  refine r_irem E hx1 (show InR 10 by decide) (by decide) (Gr_writeNumber_dc.at 14 rfl) ?_
  refine r_iadd E (Gr_writeNumber_dc.at 15 rfl) ?_
  obtain ⟨g1, h⟩ := ite_e h
  obtain ⟨M2, eM2, h⟩ := bd1_e h
  refine u_cVU (As := [.int (zO (w32 (48 + (w32 (Int.tmod x1 10)))))]) (rest := []) E S zcw_yX4_write zw_3_98 zq_1_10 zw_3_96 zck_4.1 rfl g1 (Gr_write_c l G fu top L M x0 (w32 (48 + (w32 (Int.tmod x1 10)))) hx0 (inR_w32 _) eM2) (zrm_ok (by decide) (by decide)) ⟨Nat.le_refl 0, Nat.le_refl 0⟩ rfl (Nat.zero_le 8) hl.size rfl (Gr_writeNumber_dc.at 16 rfl) (fun H locs _ S3 => ?_)
  cases h
  exact r_vret E S3 True.intro (Gr_writeNumber_dc.at 17 rfl)
theorem Gr_writeNumber_w (E : zEv p m c cX4_writeNumber 2 s args RX4 meth none G) {res : zM} {M : zM} {a0 : Int} {a1 : Int} {H : Heap} {locs : List Loc} {ls : Array Slot} (ha0 : InR a0) (ha1 : InR a1) (S : zS G top L M s H locs) (hl : zLV ls 2 [some (zR G.2.2.1 a0), some (.int (zO a1))]) (h : Gr_writeNumber fu L M a0 a1 = some res) : W p l e (zrm 2 0 0) s m args below meth c H locs 0 0 (MQ below (zQ G top L res none True) args s 0 0 (zA G)) (F0 m 0 ls []) := by
  unfold Gr_writeNumber at h
  refine u_il_n (x := a1) E (Gr_writeNumber_dc.at 0 rfl) hl rfl ?_
  refine r_bipush E (Gr_writeNumber_dc.at 1 rfl) rfl ?_
  refine r_icmp_lt (tgt := 17) E ha1 (show InR 10 by decide) (Gr_writeNumber_dc.at 2 rfl) (by decide) (fun q => ?_) (fun q => ?_)
  · have h := ite_t h q
    exact Gr_writeNumber_b17_w (x0 := a0) (x1 := a1)  E ha0 ha1 S (hl.sub (And.intro rfl (And.intro rfl True.intro))) h
  · have h := ite_f h q
    refine u_al_n (x := a0) E (Gr_writeNumber_dc.at 3 rfl) hl rfl ?_
    refine r_bipush E (Gr_writeNumber_dc.at 4 rfl) rfl ?_
    refine u_il_n (x := a1) E (Gr_writeNumber_dc.at 5 rfl) hl rfl ?_
    refine r_bipush E (Gr_writeNumber_dc.at 6 rfl) rfl ?_
    refine r_idiv E ha1 (show InR 10 by decide) (by decide) (Gr_writeNumber_dc.at 7 rfl) ?_
    refine r_iadd E (Gr_writeNumber_dc.at 8 rfl) ?_
    obtain ⟨g4, h⟩ := ite_e h
    obtain ⟨M5, eM5, h⟩ := bd1_e h
    refine u_cVU (As := [.int (zO (w32 (48 + (w32 (Int.tdiv a1 10)))))]) (rest := []) E S zcw_yX4_write zw_3_98 zq_1_10 zw_3_96 zck_4.1 rfl g4 (Gr_write_c l G fu top L M a0 (w32 (48 + (w32 (Int.tdiv a1 10)))) ha0 (inR_w32 _) eM5) (zrm_ok (by decide) (by decide)) ⟨Nat.le_refl 0, Nat.le_refl 0⟩ rfl (Nat.zero_le 8) hl.size rfl (Gr_writeNumber_dc.at 9 rfl) (fun H locs _ S6 => ?_)
    exact Gr_writeNumber_b17_w (x0 := a0) (x1 := a1)  E ha0 ha1 S6 (hl.sub (And.intro rfl (And.intro rfl True.intro))) h
theorem Gr_writeNumber_c (l : Launch) (G : zG) (fu : Nat) (top : Int) (L : zL) (M : zM) (a0 : Int) (a1 : Int) {res : zM} (ha0 : InR a0) (ha1 : InR a1) (h : Gr_writeNumber fu L M a0 a1 = some res) : Met l yX4_writeNumber (Cond.code yX4_writeNumber cX4_writeNumber 2 none :: zTB) (zrm 2 0 0) (va_Pc [zR G.2.2.1 a0, .int (zO a1)] (zPre G top L M)) (zQ G top L res none True) 0 0 (zA G) :=
  z_met (by decide +kernel) (by simp [zR_cat, zcat_I, zcat_S]) (Nat.le_of_ble_eq_true rfl) fun p e s m below meth c ls E hn S hl => Gr_writeNumber_w E ha0 ha1 S (hl.sub (And.intro rfl (And.intro rfl True.intro))) h
end
theorem Gr_take_dc : zDL cX4_take [(0, .aload_n 0, 1, 1), (1, .getfield 44, 3, 4), (4, .ifCond .le 9, 3, 7), (7, .aload_n 0, 1, 8), (8, .bipush 32, 2, 10), (10, .invokevirtual 148, 3, 13), (13, .aload_n 0, 1, 14), (14, .getfield 30, 3, 17), (17, .getfield 151, 3, 20), (20, .iconst 2, 1, 21), (21, .if_icmp .ne 17, 3, 24), (24, .aload_n 0, 1, 25), (25, .aload_n 0, 1, 26), (26, .getfield 30, 3, 29), (29, .getfield 142, 3, 32), (32, .invokevirtual 154, 3, 35), (35, .goto 40, 3, 38), (38, .aload_n 0, 1, 39), (39, .getfield 30, 3, 42), (42, .getfield 71, 3, 45), (45, .istore_n 1, 1, 46), (46, .iload_n 1, 1, 47), (47, .aload_n 0, 1, 48), (48, .getfield 30, 3, 51), (51, .getfield 157, 3, 54), (54, .if_icmp .ge 21, 3, 57), (57, .aload_n 0, 1, 58), (58, .aload_n 0, 1, 59), (59, .getfield 30, 3, 62), (62, .iload_n 1, 1, 63), (63, .invokevirtual 160, 3, 66), (66, .invokevirtual 148, 3, 69), (69, .iinc 1 1, 3, 72), (72, .goto (-26), 3, 75), (75, .aload_n 0, 1, 76), (76, .getfield 30, 3, 79), (79, .invokevirtual 164, 3, 82), (82, .return_, 1, 83)] := zDL.of (by decide +kernel)
section
variable {p : Program} {l : Launch} {e : Env} {s : State} {m : MethodId} {args : Array Value} {below : List Frame} {meth : Method} {c : Code} {G : zG} {top : Int} {L : zL} {fu : Nat}
theorem Gr_take_s46_w (E : zEv p m c cX4_take 2 s args RX4 meth none G) {res : zM} {k46 : zM → Int → Int → Option zM} (hk46 : ∀ (M : zM) (x0 : Int) (x1 : Int), InR x0 → InR x1 → ∀ (H : Heap) (locs : List Loc) (ls : Array Slot), zS G top L M s H locs → zLV ls 2 [some (zR G.2.2.1 x0), some (.int (zO x1))] → k46 M x0 x1 = some res → W p l e (zrm 4 0 0) s m args below meth c H locs 0 0 (MQ below (zQ G top L res none True) args s 0 0 (zA G)) (F0 m 46 ls [])) {M : zM} {x0 : Int} {x1 : Int} {H : Heap} {locs : List Loc} {ls : Array Slot} (hx0 : InR x0) (hx1 : InR x1) (S : zS G top L M s H locs) (hl : zLV ls 2 [some (zR G.2.2.1 x0), some (.int (zO x1))]) (h : Gr_take_s46 fu k46 L M x0 x1 = some res) : W p l e (zrm 4 0 0) s m args below meth c H locs 0 0 (MQ below (zQ G top L res none True) args s 0 0 (zA G)) (F0 m 46 ls []) := by
  unfold Gr_take_s46 at h
  refine u_il_n (x := x1) E (Gr_take_dc.at 21 rfl) hl rfl ?_
  refine u_al_n (x := x0) E (Gr_take_dc.at 22 rfl) hl rfl ?_
  obtain ⟨g12, h⟩ := ite_e h
  refine u_gR E zf_4_0 S g12 zw_1_103 (Gr_take_dc.at 23 rfl) ?_
  obtain ⟨g13, h⟩ := ite_e h
  refine u_gI E zf_7_6 S g13 zw_1_52 (Gr_take_dc.at 24 rfl) ?_
  refine r_icmp_ge (tgt := 75) E hx1 (S.1.inR _ _) (Gr_take_dc.at 25 rfl) (by decide) (fun q => ?_) (fun q => ?_)
  · have h := ite_t h q
    refine u_al_n (x := x0) E (Gr_take_dc.at 26 rfl) hl rfl ?_
    refine u_al_n (x := x0) E (Gr_take_dc.at 27 rfl) hl rfl ?_
    refine u_gR E zf_4_0 S g12 zw_1_103 (Gr_take_dc.at 28 rfl) ?_
    refine u_il_n (x := x1) E (Gr_take_dc.at 29 rfl) hl rfl ?_
    obtain ⟨r14, er14, h⟩ := bd1_e h
    refine u_cVI (As := [.int (zO x1)]) (rest := [zR G.2.2.1 x0]) E S zcw_yX7_at zw_2_214 zw_2_215 zw_3_104 zck_7.1 rfl g13 (Tp_at_c l G fu top L M (M x0 0) x1 (S.1.inR _ _) hx1 er14) (zrm_ok (by decide) (by decide)) ⟨Nat.le_refl 0, Nat.le_refl 0⟩ rfl (by simp [zR_cat, zcat_I, zcat_J, zcat_S]) hl.size rfl (Gr_take_dc.at 30 rfl) (fun H locs hr14 S15 => ?_)
    obtain ⟨M16, eM16, h⟩ := bd1_e h
    refine u_cVU (As := [.int (zO r14)]) (rest := []) E S15 zcw_yX4_write zw_3_98 zq_1_10 zw_3_96 zck_4.1 rfl g12 (Gr_write_c l G fu top L M x0 r14 hx0 hr14 eM16) (zrm_ok (by decide) (by decide)) ⟨Nat.le_refl 0, Nat.le_refl 0⟩ rfl (Nat.zero_le 8) hl.size rfl (Gr_take_dc.at 31 rfl) (fun H locs _ S17 => ?_)
    obtain ⟨v18, ev18, h⟩ := lt1_e h
    have hv18 := inR_eq ev18 (inR_w32 _)
    refine u_iinc (y := v18) (vs' := [some (zR G.2.2.1 x0), some (.int (zO v18))]) E ev18 (Gr_take_dc.at 32 rfl) hl rfl (by decide) rfl (fun ls hl => ?_)
    refine r_goto (tgt := 46) E (Gr_take_dc.at 33 rfl) (by decide) ?_
    exact hk46 _ x0 v18 hx0 hv18 _ _ _ S17 (hl.sub (And.intro rfl (And.intro rfl True.intro))) h
  · have h := ite_f h q
    refine u_al_n (x := x0) E (Gr_take_dc.at 34 rfl) hl rfl ?_
    refine u_gR E zf_4_0 S g12 zw_1_103 (Gr_take_dc.at 35 rfl) ?_
    obtain ⟨M19, eM19, h⟩ := bd1_e h
    refine u_cVU (As := []) (rest := []) E S zcw_yX7_advance zw_2_206 zw_2_207 zw_3_105 zck_7.1 rfl g13 (Tp_advance_c l G fu top L M (M x0 0) (S.1.inR _ _) eM19) (zrm_ok (by decide) (by decide)) ⟨Nat.le_refl 0, Nat.le_refl 0⟩ rfl (Nat.zero_le 8) hl.size rfl (Gr_take_dc.at 36 rfl) (fun H locs _ S20 => ?_)
    cases h
    exact r_vret E S20 True.intro (Gr_take_dc.at 37 rfl)
theorem Gr_take_l46_w (E : zEv p m c cX4_take 2 s args RX4 meth none G) {res : zM} : ∀ (n : Nat) (M : zM) (x0 : Int) (x1 : Int), InR x0 → InR x1 → ∀ (H : Heap) (locs : List Loc) (ls : Array Slot), zS G top L M s H locs → zLV ls 2 [some (zR G.2.2.1 x0), some (.int (zO x1))] → Gr_take_l46 fu L n M x0 x1 = some res → W p l e (zrm 4 0 0) s m args below meth c H locs 0 0 (MQ below (zQ G top L res none True) args s 0 0 (zA G)) (F0 m 46 ls [])
  | 0, _, _, _ => fun _ _ _ _ _ _ _ h => (by cases h)
  | n + 1, M, x0, x1 => fun hx0 hx1 H locs ls S hl h => Gr_take_s46_w E (fun M x0 x1 hx0 hx1 H locs ls S hl h => Gr_take_l46_w E n M x0 x1 hx0 hx1 H locs ls S hl h) hx0 hx1 S hl h
theorem Gr_take_b13_w (E : zEv p m c cX4_take 2 s args RX4 meth none G) {res : zM} {M : zM} {x0 : Int} {H : Heap} {locs : List Loc} {ls : Array Slot} (hx0 : InR x0) (S : zS G top L M s H locs) (hl : zLV ls 2 [some (zR G.2.2.1 x0), none]) (h : Gr_take_b13 fu L M x0 = some res) : W p l e (zrm 4 0 0) s m args below meth c H locs 0 0 (MQ below (zQ G top L res none True) args s 0 0 (zA G)) (F0 m 13 ls []) := by
  unfold Gr_take_b13 at h
  refine u_al_n (x := x0) E (Gr_take_dc.at 6 rfl) hl rfl ?_
  obtain ⟨g4, h⟩ := ite_e h
  refine u_gR E zf_4_0 S g4 zw_1_103 (Gr_take_dc.at 7 rfl) ?_
  obtain ⟨g5, h⟩ := ite_e h
  refine u_gI E zf_7_4 S g5 zw_1_46 (Gr_take_dc.at 8 rfl) ?_
  refine r_iconst E (Gr_take_dc.at 9 rfl) ?_
  refine r_icmp_ne (tgt := 38) E (S.1.inR _ _) (show InR 2 by decide) (Gr_take_dc.at 10 rfl) (by decide) (fun q => ?_) (fun q => ?_)
  · have h := ite_t h q
    refine u_al_n (x := x0) E (Gr_take_dc.at 11 rfl) hl rfl ?_
    refine u_al_n (x := x0) E (Gr_take_dc.at 12 rfl) hl rfl ?_
    refine u_gR E zf_4_0 S g4 zw_1_103 (Gr_take_dc.at 13 rfl) ?_
    refine u_gI E zf_7_7 S g5 zw_1_56 (Gr_take_dc.at 14 rfl) ?_
    obtain ⟨M6, eM6, h⟩ := bd1_e h
    refine u_cVU (As := [.int (zO (M (M x0 0) 7))]) (rest := []) E S zcw_yX4_writeNumber zw_3_102 zq_1_11 zw_3_100 zck_4.1 rfl g4 (Gr_writeNumber_c l G fu top L M x0 (M (M x0 0) 7) hx0 (S.1.inR _ _) eM6) (zrm_ok (by decide) (by decide)) ⟨Nat.le_refl 0, Nat.le_refl 0⟩ rfl (Nat.zero_le 8) hl.size rfl (Gr_take_dc.at 15 rfl) (fun H locs _ S7 => ?_)
    refine r_goto (tgt := 75) E (Gr_take_dc.at 16 rfl) (by decide) ?_
    refine u_al_n (x := x0) E (Gr_take_dc.at 34 rfl) hl rfl ?_
    refine u_gR E zf_4_0 S7 g4 zw_1_103 (Gr_take_dc.at 35 rfl) ?_
    obtain ⟨g8, h⟩ := ite_e h
    obtain ⟨M9, eM9, h⟩ := bd1_e h
    refine u_cVU (As := []) (rest := []) E S7 zcw_yX7_advance zw_2_206 zw_2_207 zw_3_105 zck_7.1 rfl g8 (Tp_advance_c l G fu top L M6 (M6 x0 0) (S7.1.inR _ _) eM9) (zrm_ok (by decide) (by decide)) ⟨Nat.le_refl 0, Nat.le_refl 0⟩ rfl (Nat.zero_le 8) hl.size rfl (Gr_take_dc.at 36 rfl) (fun H locs _ S10 => ?_)
    cases h
    exact r_vret E S10 True.intro (Gr_take_dc.at 37 rfl)
  · have h := ite_f h q
    refine u_al_n (x := x0) E (Gr_take_dc.at 17 rfl) hl rfl ?_
    refine u_gR E zf_4_0 S g4 zw_1_103 (Gr_take_dc.at 18 rfl) ?_
    refine u_gI E zf_7_5 S g5 zw_1_49 (Gr_take_dc.at 19 rfl) ?_
    obtain ⟨v11, ev11, h⟩ := lt1_e h
    have hv11 := inR_eq ev11 (S.1.inR _ _)
    refine u_ist_n (y := v11) (vs' := [some (zR G.2.2.1 x0), some (.int (zO v11))]) E ev11 (Gr_take_dc.at 20 rfl) hl (by decide) rfl (fun ls hl => ?_)
    exact Gr_take_l46_w E fu _ x0 v11 hx0 hv11 _ _ _ S (hl.sub (And.intro rfl (And.intro rfl True.intro))) h
theorem Gr_take_w (E : zEv p m c cX4_take 2 s args RX4 meth none G) {res : zM} {M : zM} {a0 : Int} {H : Heap} {locs : List Loc} {ls : Array Slot} (ha0 : InR a0) (S : zS G top L M s H locs) (hl : zLV ls 2 [some (zR G.2.2.1 a0), none]) (h : Gr_take fu L M a0 = some res) : W p l e (zrm 4 0 0) s m args below meth c H locs 0 0 (MQ below (zQ G top L res none True) args s 0 0 (zA G)) (F0 m 0 ls []) := by
  unfold Gr_take at h
  refine u_al_n (x := a0) E (Gr_take_dc.at 0 rfl) hl rfl ?_
  obtain ⟨g1, h⟩ := ite_e h
  refine u_gI E zf_4_12 S g1 zw_1_127 (Gr_take_dc.at 1 rfl) ?_
  refine r_if_le (tgt := 13) E (S.1.inR _ _) (Gr_take_dc.at 2 rfl) (by decide) (fun q => ?_) (fun q => ?_)
  · have h := ite_t h q
    refine u_al_n (x := a0) E (Gr_take_dc.at 3 rfl) hl rfl ?_
    refine r_bipush E (Gr_take_dc.at 4 rfl) rfl ?_
    obtain ⟨M2, eM2, h⟩ := bd1_e h
    refine u_cVU (As := [.int (zO 32)]) (rest := []) E S zcw_yX4_write zw_3_98 zq_1_10 zw_3_96 zck_4.1 rfl g1 (Gr_write_c l G fu top L M a0 32 ha0 (show InR 32 by decide) eM2) (zrm_ok (by decide) (by decide)) ⟨Nat.le_refl 0, Nat.le_refl 0⟩ rfl (Nat.zero_le 8) hl.size rfl (Gr_take_dc.at 5 rfl) (fun H locs _ S3 => ?_)
    exact Gr_take_b13_w (x0 := a0)  E ha0 S3 (hl.sub (And.intro rfl True.intro)) h
  · have h := ite_f h q
    exact Gr_take_b13_w (x0 := a0)  E ha0 S (hl.sub (And.intro rfl True.intro)) h
theorem Gr_take_c (l : Launch) (G : zG) (fu : Nat) (top : Int) (L : zL) (M : zM) (a0 : Int) {res : zM} (ha0 : InR a0) (h : Gr_take fu L M a0 = some res) : Met l yX4_take (Cond.code yX4_take cX4_take 2 none :: zTB) (zrm 4 0 0) (va_Pc [zR G.2.2.1 a0] (zPre G top L M)) (zQ G top L res none True) 0 0 (zA G) :=
  z_met (by decide +kernel) (by simp [zR_cat, zcat_I, zcat_S]) (Nat.le_of_ble_eq_true rfl) fun p e s m below meth c ls E hn S hl => Gr_take_w E ha0 S (hl.sub (And.intro rfl True.intro)) h
end
theorem Gr_readWord_dc : zDL cX4_readWord [(0, .aload_n 0, 1, 1), (1, .getfield 30, 3, 4), (4, .aload_n 1, 1, 5), (5, .invokevirtual 100, 3, 8), (8, .ifCond .ne 5, 3, 11), (11, .iconst 0, 1, 12), (12, .ireturn, 1, 13), (13, .aload_n 0, 1, 14), (14, .invokevirtual 103, 3, 17), (17, .iconst 1, 1, 18), (18, .ireturn, 1, 19)] := zDL.of (by decide +kernel)
section
variable {p : Program} {l : Launch} {e : Env} {s : State} {m : MethodId} {args : Array Value} {below : List Frame} {meth : Method} {c : Code} {G : zG} {top : Int} {L : zL} {fu : Nat}
theorem Gr_readWord_w (E : zEv p m c cX4_readWord 2 s args RX4 meth (some .boolean) G) {res : (zM × Int)} {M : zM} {a0 : Int} {a1 : Nat} {H : Heap} {locs : List Loc} {ls : Array Slot} (ha0 : InR a0) (S : zS G top L M s H locs) (hl : zLV ls 2 [some (zR G.2.2.1 a0), some (.ref (G.2.2.2.1 a1))]) (h : Gr_readWord fu L M a0 a1 = some res) : W p l e (zrm 7 0 0) s m args below meth c H locs 0 0 (MQ below (zQ G top L res.1 (some (.int (zO res.2))) (0 ≤ res.2 ∧ res.2 ≤ 1)) args s 0 0 (zA G)) (F0 m 0 ls []) := by
  unfold Gr_readWord at h
  refine u_al_n (x := a0) E (Gr_readWord_dc.at 0 rfl) hl rfl ?_
  obtain ⟨g1, h⟩ := ite_e h
  refine u_gR E zf_4_0 S g1 zw_1_103 (Gr_readWord_dc.at 1 rfl) ?_
  refine r_aloadS_n E (Gr_readWord_dc.at 2 rfl) hl rfl ?_
  obtain ⟨g2, h⟩ := ite_e h
  obtain ⟨r3, er3, h⟩ := bd1_e h
  refine u_cVI (As := [.ref (G.2.2.2.1 a1)]) (rest := []) E S zcw_yX7_isWord zw_3_14 zw_3_15 zw_3_91 zck_7.1 rfl g2 (Tp_isWord_c l G fu top L M (M a0 0) a1 (S.1.inR _ _) er3) (zrm_ok (by decide) (by decide)) ⟨Nat.le_refl 0, Nat.le_refl 0⟩ rfl (Nat.zero_le 8) hl.size rfl (Gr_readWord_dc.at 3 rfl) (fun H locs hr3 S4 => ?_)
  refine r_if_ne (tgt := 13) E (inR_01 hr3) (Gr_readWord_dc.at 4 rfl) (by decide) (fun q => ?_) (fun q => ?_)
  · have h := ite_t h q
    refine r_iconst E (Gr_readWord_dc.at 5 rfl) ?_
    cases h
    exact r_zret E S4 z01_0 z01_0 (Gr_readWord_dc.at 6 rfl)
  · have h := ite_f h q
    refine u_al_n (x := a0) E (Gr_readWord_dc.at 7 rfl) hl rfl ?_
    obtain ⟨M5, eM5, h⟩ := bd1_e h
    refine u_cVU (As := []) (rest := []) E S4 zcw_yX4_take zw_3_94 zq_1_9 zw_3_92 zck_4.1 rfl g1 (Gr_take_c l G fu top L M a0 ha0 eM5) (zrm_ok (by decide) (by decide)) ⟨Nat.le_refl 0, Nat.le_refl 0⟩ rfl (Nat.zero_le 8) hl.size rfl (Gr_readWord_dc.at 8 rfl) (fun H locs _ S6 => ?_)
    refine r_iconst E (Gr_readWord_dc.at 9 rfl) ?_
    cases h
    exact r_zret E S6 z01_1 z01_1 (Gr_readWord_dc.at 10 rfl)
theorem Gr_readWord_c (l : Launch) (G : zG) (fu : Nat) (top : Int) (L : zL) (M : zM) (a0 : Int) (a1 : Nat) {res : (zM × Int)} (ha0 : InR a0) (h : Gr_readWord fu L M a0 a1 = some res) : Met l yX4_readWord (Cond.code yX4_readWord cX4_readWord 2 (some .boolean) :: zTB) (zrm 7 0 0) (va_Pc [zR G.2.2.1 a0, .ref (G.2.2.2.1 a1)] (zPre G top L M)) (zQ G top L res.1 (some (.int (zO res.2))) (0 ≤ res.2 ∧ res.2 ≤ 1)) 0 0 (zA G) :=
  z_met (by decide +kernel) (by simp [zR_cat, zcat_I, zcat_S]) (Nat.le_of_ble_eq_true rfl) fun p e s m below meth c ls E hn S hl => Gr_readWord_w E ha0 S (hl.sub (And.intro rfl (And.intro rfl True.intro))) h
end
theorem Tp_lifeNamed_dc : zDL cX7_lifeNamed [(0, .aload_n 0, 1, 1), (1, .invokevirtual 73, 3, 4), (4, .istore_n 1, 1, 5), (5, .iconst 0, 1, 6), (6, .istore_n 2, 1, 7), (7, .iload_n 2, 1, 8), (8, .aload_n 0, 1, 9), (9, .getfield 70, 3, 12), (12, .if_icmp .ge 30, 3, 15), (15, .iload_n 2, 1, 16), (16, .aload_n 0, 1, 17), (17, .getfield 15, 3, 20), (20, .arraylength, 1, 21), (21, .if_icmp .ge 21, 3, 24), (24, .aload_n 0, 1, 25), (25, .getfield 15, 3, 28), (28, .iload_n 2, 1, 29), (29, .iaload, 1, 30), (30, .iload_n 1, 1, 31), (31, .if_icmp .ne 5, 3, 34), (34, .iload_n 2, 1, 35), (35, .ireturn, 1, 36), (36, .iinc 2 1, 3, 39), (39, .goto (-32), 3, 42), (42, .iconst (-1), 1, 43), (43, .ireturn, 1, 44)] := zDL.of (by decide +kernel)
section
variable {p : Program} {l : Launch} {e : Env} {s : State} {m : MethodId} {args : Array Value} {below : List Frame} {meth : Method} {c : Code} {G : zG} {top : Int} {L : zL} {fu : Nat}
theorem Tp_lifeNamed_s7_w (E : zEv p m c cX7_lifeNamed 3 s args RX7 meth (some .int) G) {res : Int} {k7 : zM → Int → Int → Int → Option Int} (hk7 : ∀ (M : zM) (x0 : Int) (x1 : Int) (x2 : Int), InR x0 → InR x1 → InR x2 → ∀ (H : Heap) (locs : List Loc) (ls : Array Slot), zS G top L M s H locs → zLV ls 3 [some (zR G.2.2.1 x0), some (.int (zO x1)), some (.int (zO x2))] → k7 M x0 x1 x2 = some res → W p l e (zrm 3 0 0) s m args below meth c H locs 0 0 (MQ below (zQ G top L M (some (.int (zO res))) (InR res)) args s 0 0 (zA G)) (F0 m 7 ls [])) {M : zM} {x0 : Int} {x1 : Int} {x2 : Int} {H : Heap} {locs : List Loc} {ls : Array Slot} (hx0 : InR x0) (hx1 : InR x1) (hx2 : InR x2) (S : zS G top L M s H locs) (hl : zLV ls 3 [some (zR G.2.2.1 x0), some (.int (zO x1)), some (.int (zO x2))]) (h : Tp_lifeNamed_s7 fu k7 L M x0 x1 x2 = some res) : W p l e (zrm 3 0 0) s m args below meth c H locs 0 0 (MQ below (zQ G top L M (some (.int (zO res))) (InR res)) args s 0 0 (zA G)) (F0 m 7 ls []) := by
  unfold Tp_lifeNamed_s7 at h
  refine u_il_n (x := x2) E (Tp_lifeNamed_dc.at 5 rfl) hl rfl ?_
  refine u_al_n (x := x0) E (Tp_lifeNamed_dc.at 6 rfl) hl rfl ?_
  obtain ⟨g4, h⟩ := ite_e h
  refine u_gI E zf_7_3 S g4 zw_1_44 (Tp_lifeNamed_dc.at 7 rfl) ?_
  refine r_icmp_ge (tgt := 42) E hx2 (S.1.inR _ _) (Tp_lifeNamed_dc.at 8 rfl) (by decide) (fun q => ?_) (fun q => ?_)
  · have h := ite_t h q
    refine u_il_n (x := x2) E (Tp_lifeNamed_dc.at 9 rfl) hl rfl ?_
    refine u_al_n (x := x0) E (Tp_lifeNamed_dc.at 10 rfl) hl rfl ?_
    refine u_gR E zf_7_1 S g4 zw_1_41 (Tp_lifeNamed_dc.at 11 rfl) ?_
    obtain ⟨g5, h⟩ := ite_e h
    refine r_alen E S g5 (by decide) (Tp_lifeNamed_dc.at 12 rfl) ?_
    refine r_icmp_ge (tgt := 42) E hx2 (S.1.lenR _) (Tp_lifeNamed_dc.at 13 rfl) (by decide) (fun q => ?_) (fun q => ?_)
    · have h := ite_t h q
      refine u_al_n (x := x0) E (Tp_lifeNamed_dc.at 14 rfl) hl rfl ?_
      refine u_gR E zf_7_1 S g4 zw_1_41 (Tp_lifeNamed_dc.at 15 rfl) ?_
      refine u_il_n (x := x2) E (Tp_lifeNamed_dc.at 16 rfl) hl rfl ?_
      obtain ⟨g6, h⟩ := ite_e h
      refine r_iald E S g5 g6 (Tp_lifeNamed_dc.at 17 rfl) ?_
      refine u_il_n (x := x1) E (Tp_lifeNamed_dc.at 18 rfl) hl rfl ?_
      refine r_icmp_ne (tgt := 36) E (S.1.inR _ _) hx1 (Tp_lifeNamed_dc.at 19 rfl) (by decide) (fun q => ?_) (fun q => ?_)
      · have h := ite_t h q
        refine u_il_n (x := x2) E (Tp_lifeNamed_dc.at 20 rfl) hl rfl ?_
        cases h
        exact r_iret E S hx2 (Tp_lifeNamed_dc.at 21 rfl)
      · have h := ite_f h q
        obtain ⟨v7, ev7, h⟩ := lt1_e h
        have hv7 := inR_eq ev7 (inR_w32 _)
        refine u_iinc (y := v7) (vs' := [some (zR G.2.2.1 x0), some (.int (zO x1)), some (.int (zO v7))]) E ev7 (Tp_lifeNamed_dc.at 22 rfl) hl rfl (by decide) rfl (fun ls hl => ?_)
        refine r_goto (tgt := 7) E (Tp_lifeNamed_dc.at 23 rfl) (by decide) ?_
        exact hk7 _ x0 x1 v7 hx0 hx1 hv7 _ _ _ S (hl.sub (And.intro rfl (And.intro rfl (And.intro rfl True.intro)))) h
    · have h := ite_f h q
      refine r_iconst E (Tp_lifeNamed_dc.at 24 rfl) ?_
      cases h
      exact r_iret E S (show InR (-1) by decide) (Tp_lifeNamed_dc.at 25 rfl)
  · have h := ite_f h q
    refine r_iconst E (Tp_lifeNamed_dc.at 24 rfl) ?_
    cases h
    exact r_iret E S (show InR (-1) by decide) (Tp_lifeNamed_dc.at 25 rfl)
theorem Tp_lifeNamed_l7_w (E : zEv p m c cX7_lifeNamed 3 s args RX7 meth (some .int) G) {res : Int} : ∀ (n : Nat) (M : zM) (x0 : Int) (x1 : Int) (x2 : Int), InR x0 → InR x1 → InR x2 → ∀ (H : Heap) (locs : List Loc) (ls : Array Slot), zS G top L M s H locs → zLV ls 3 [some (zR G.2.2.1 x0), some (.int (zO x1)), some (.int (zO x2))] → Tp_lifeNamed_l7 fu L n M x0 x1 x2 = some res → W p l e (zrm 3 0 0) s m args below meth c H locs 0 0 (MQ below (zQ G top L M (some (.int (zO res))) (InR res)) args s 0 0 (zA G)) (F0 m 7 ls [])
  | 0, _, _, _, _ => fun _ _ _ _ _ _ _ _ h => (by cases h)
  | n + 1, M, x0, x1, x2 => fun hx0 hx1 hx2 H locs ls S hl h => Tp_lifeNamed_s7_w E (fun M x0 x1 x2 hx0 hx1 hx2 H locs ls S hl h => Tp_lifeNamed_l7_w E n M x0 x1 x2 hx0 hx1 hx2 H locs ls S hl h) hx0 hx1 hx2 S hl h
theorem Tp_lifeNamed_w (E : zEv p m c cX7_lifeNamed 3 s args RX7 meth (some .int) G) {res : Int} {M : zM} {a0 : Int} {H : Heap} {locs : List Loc} {ls : Array Slot} (ha0 : InR a0) (S : zS G top L M s H locs) (hl : zLV ls 3 [some (zR G.2.2.1 a0), none, none]) (h : Tp_lifeNamed fu L M a0 = some res) : W p l e (zrm 3 0 0) s m args below meth c H locs 0 0 (MQ below (zQ G top L M (some (.int (zO res))) (InR res)) args s 0 0 (zA G)) (F0 m 0 ls []) := by
  unfold Tp_lifeNamed at h
  refine u_al_n (x := a0) E (Tp_lifeNamed_dc.at 0 rfl) hl rfl ?_
  obtain ⟨g1, h⟩ := ite_e h
  obtain ⟨r2, er2, h⟩ := bd1_e h
  refine u_cVI (As := []) (rest := []) E S zcw_yX7_letter zw_3_0 zw_3_1 zw_3_116 zck_7.1 rfl g1 (Tp_letter_c l G fu top L M a0 ha0 er2) (zrm_ok (by decide) (by decide)) ⟨Nat.le_refl 0, Nat.le_refl 0⟩ rfl (Nat.zero_le 8) hl.size rfl (Tp_lifeNamed_dc.at 1 rfl) (fun H locs hr2 S3 => ?_)
  refine u_ist_n (y := r2) (vs' := [some (zR G.2.2.1 a0), some (.int (zO r2)), none]) E rfl (Tp_lifeNamed_dc.at 2 rfl) hl (by decide) rfl (fun ls hl => ?_)
  refine r_iconst E (Tp_lifeNamed_dc.at 3 rfl) ?_
  refine u_ist_n (y := 0) (vs' := [some (zR G.2.2.1 a0), some (.int (zO r2)), some (.int (zO 0))]) E rfl (Tp_lifeNamed_dc.at 4 rfl) hl (by decide) rfl (fun ls hl => ?_)
  exact Tp_lifeNamed_l7_w E fu _ a0 r2 0 ha0 hr2 (show InR 0 by decide) _ _ _ S3 (hl.sub (And.intro rfl (And.intro rfl (And.intro rfl True.intro)))) h
theorem Tp_lifeNamed_c (l : Launch) (G : zG) (fu : Nat) (top : Int) (L : zL) (M : zM) (a0 : Int) {res : Int} (ha0 : InR a0) (h : Tp_lifeNamed fu L M a0 = some res) : Met l yX7_lifeNamed (Cond.code yX7_lifeNamed cX7_lifeNamed 3 (some .int) :: zTB) (zrm 3 0 0) (va_Pc [zR G.2.2.1 a0] (zPre G top L M)) (zQ G top L M (some (.int (zO res))) (InR res)) 0 0 (zA G) :=
  z_met (by decide +kernel) (by simp [zR_cat, zcat_I, zcat_S]) (Nat.le_of_ble_eq_true rfl) fun p e s m below meth c ls E hn S hl => Tp_lifeNamed_w E ha0 S (hl.sub (And.intro rfl True.intro)) h
end
theorem Gr_readLife_dc : zDL cX4_readLife [(0, .aload_n 0, 1, 1), (1, .getfield 30, 3, 4), (4, .invokevirtual 81, 3, 7), (7, .iconst (-1), 1, 8), (8, .if_icmp .ne 5, 3, 11), (11, .iconst 0, 1, 12), (12, .ireturn, 1, 13), (13, .aload_n 0, 1, 14), (14, .invokevirtual 103, 3, 17), (17, .iconst 1, 1, 18), (18, .ireturn, 1, 19)] := zDL.of (by decide +kernel)
section
variable {p : Program} {l : Launch} {e : Env} {s : State} {m : MethodId} {args : Array Value} {below : List Frame} {meth : Method} {c : Code} {G : zG} {top : Int} {L : zL} {fu : Nat}
theorem Gr_readLife_w (E : zEv p m c cX4_readLife 1 s args RX4 meth (some .boolean) G) {res : (zM × Int)} {M : zM} {a0 : Int} {H : Heap} {locs : List Loc} {ls : Array Slot} (ha0 : InR a0) (S : zS G top L M s H locs) (hl : zLV ls 1 [some (zR G.2.2.1 a0)]) (h : Gr_readLife fu L M a0 = some res) : W p l e (zrm 5 0 0) s m args below meth c H locs 0 0 (MQ below (zQ G top L res.1 (some (.int (zO res.2))) (0 ≤ res.2 ∧ res.2 ≤ 1)) args s 0 0 (zA G)) (F0 m 0 ls []) := by
  unfold Gr_readLife at h
  refine u_al_n (x := a0) E (Gr_readLife_dc.at 0 rfl) hl rfl ?_
  obtain ⟨g1, h⟩ := ite_e h
  refine u_gR E zf_4_0 S g1 zw_1_103 (Gr_readLife_dc.at 1 rfl) ?_
  obtain ⟨g2, h⟩ := ite_e h
  obtain ⟨r3, er3, h⟩ := bd1_e h
  refine u_cVI (As := []) (rest := []) E S zcw_yX7_lifeNamed zw_3_113 zw_3_114 zw_3_112 zck_7.1 rfl g2 (Tp_lifeNamed_c l G fu top L M (M a0 0) (S.1.inR _ _) er3) (zrm_ok (by decide) (by decide)) ⟨Nat.le_refl 0, Nat.le_refl 0⟩ rfl (Nat.zero_le 8) hl.size rfl (Gr_readLife_dc.at 2 rfl) (fun H locs hr3 S4 => ?_)
  refine r_iconst E (Gr_readLife_dc.at 3 rfl) ?_
  refine r_icmp_ne (tgt := 13) E hr3 (show InR (-1) by decide) (Gr_readLife_dc.at 4 rfl) (by decide) (fun q => ?_) (fun q => ?_)
  · have h := ite_t h q
    refine r_iconst E (Gr_readLife_dc.at 5 rfl) ?_
    cases h
    exact r_zret E S4 z01_0 z01_0 (Gr_readLife_dc.at 6 rfl)
  · have h := ite_f h q
    refine u_al_n (x := a0) E (Gr_readLife_dc.at 7 rfl) hl rfl ?_
    obtain ⟨M5, eM5, h⟩ := bd1_e h
    refine u_cVU (As := []) (rest := []) E S4 zcw_yX4_take zw_3_94 zq_1_9 zw_3_92 zck_4.1 rfl g1 (Gr_take_c l G fu top L M a0 ha0 eM5) (zrm_ok (by decide) (by decide)) ⟨Nat.le_refl 0, Nat.le_refl 0⟩ rfl (Nat.zero_le 8) hl.size rfl (Gr_readLife_dc.at 8 rfl) (fun H locs _ S6 => ?_)
    refine r_iconst E (Gr_readLife_dc.at 9 rfl) ?_
    cases h
    exact r_zret E S6 z01_1 z01_1 (Gr_readLife_dc.at 10 rfl)
theorem Gr_readLife_c (l : Launch) (G : zG) (fu : Nat) (top : Int) (L : zL) (M : zM) (a0 : Int) {res : (zM × Int)} (ha0 : InR a0) (h : Gr_readLife fu L M a0 = some res) : Met l yX4_readLife (Cond.code yX4_readLife cX4_readLife 1 (some .boolean) :: zTB) (zrm 5 0 0) (va_Pc [zR G.2.2.1 a0] (zPre G top L M)) (zQ G top L res.1 (some (.int (zO res.2))) (0 ≤ res.2 ∧ res.2 ≤ 1)) 0 0 (zA G) :=
  z_met (by decide +kernel) (by simp [zR_cat, zcat_I, zcat_S]) (Nat.le_of_ble_eq_true rfl) fun p e s m below meth c ls E hn S hl => Gr_readLife_w E ha0 S (hl.sub (And.intro rfl True.intro)) h
end
theorem Gr_readWhom_dc : zDL cX4_readWhom [(0, .aload_n 0, 1, 1), (1, .iconst 0, 1, 2), (2, .putfield 74, 3, 5), (5, .aload_n 0, 1, 6), (6, .ldc 77, 2, 8), (8, .invokevirtual 54, 3, 11), (11, .ifCond .eq 11, 3, 14), (14, .aload_n 0, 1, 15), (15, .iconst 1, 1, 16), (16, .putfield 74, 3, 19), (19, .goto 17, 3, 22), (22, .aload_n 0, 1, 23), (23, .ldc 79, 2, 25), (25, .invokevirtual 54, 3, 28), (28, .ifCond .eq 8, 3, 31), (31, .aload_n 0, 1, 32), (32, .iconst 2, 1, 33), (33, .putfield 74, 3, 36), (36, .aload_n 0, 1, 37), (37, .aload_n 0, 1, 38), (38, .getfield 30, 3, 41), (41, .invokevirtual 81, 3, 44), (44, .putfield 85, 3, 47), (47, .aload_n 0, 1, 48), (48, .invokevirtual 88, 3, 51), (51, .ireturn, 1, 52)] := zDL.of (by decide +kernel)
section
variable {p : Program} {l : Launch} {e : Env} {s : State} {m : MethodId} {args : Array Value} {below : List Frame} {meth : Method} {c : Code} {G : zG} {top : Int} {L : zL} {fu : Nat}
theorem Gr_readWhom_b36_w (E : zEv p m c cX4_readWhom 1 s args RX4 meth (some .boolean) G) {res : (zM × Int)} {M : zM} {x0 : Int} {H : Heap} {locs : List Loc} {ls : Array Slot} (hx0 : InR x0) (S : zS G top L M s H locs) (hl : zLV ls 1 [some (zR G.2.2.1 x0)]) (h : Gr_readWhom_b36 fu L M x0 = some res) : W p l e (zrm 8 0 0) s m args below meth c H locs 0 0 (MQ below (zQ G top L res.1 (some (.int (zO res.2))) (0 ≤ res.2 ∧ res.2 ≤ 1)) args s 0 0 (zA G)) (F0 m 36 ls []) := by
  unfold Gr_readWhom_b36 at h
  refine u_al_n (x := x0) E (Gr_readWhom_dc.at 18 rfl) hl rfl ?_
  refine u_al_n (x := x0) E (Gr_readWhom_dc.at 19 rfl) hl rfl ?_
  obtain ⟨g10, h⟩ := ite_e h
  refine u_gR E zf_4_0 S g10 zw_1_103 (Gr_readWhom_dc.at 20 rfl) ?_
  obtain ⟨g11, h⟩ := ite_e h
  obtain ⟨r12, er12, h⟩ := bd1_e h
  refine u_cVI (As := []) (rest := [zR G.2.2.1 x0]) E S zcw_yX7_lifeNamed zw_3_113 zw_3_114 zw_3_112 zck_7.1 rfl g11 (Tp_lifeNamed_c l G fu top L M (M x0 0) (S.1.inR _ _) er12) (zrm_ok (by decide) (by decide)) ⟨Nat.le_refl 0, Nat.le_refl 0⟩ rfl (by simp [zR_cat, zcat_I, zcat_J, zcat_S]) hl.size rfl (Gr_readWhom_dc.at 21 rfl) (fun H locs hr12 S13 => ?_)
  obtain ⟨M14, eM14, h⟩ := lt1_e h
  refine u_pI E eM14 zf_4_8 S13 g10 hr12 (Or.inl rfl) rfl zw_1_119 (Gr_readWhom_dc.at 22 rfl) (fun H locs S15 => ?_)
  refine u_al_n (x := x0) E (Gr_readWhom_dc.at 23 rfl) hl rfl ?_
  obtain ⟨M17, r16, er16, h⟩ := bd2_e h
  refine u_cVI (As := []) (rest := []) E S15 zcw_yX4_readLife zw_3_119 zq_1_13 zw_3_117 zck_4.1 rfl g10 (Gr_readLife_c l G fu top L M14 x0 hx0 er16) (zrm_ok (by decide) (by decide)) ⟨Nat.le_refl 0, Nat.le_refl 0⟩ rfl (Nat.zero_le 8) hl.size rfl (Gr_readWhom_dc.at 24 rfl) (fun H locs hr16 S18 => ?_)
  cases h
  exact r_zret E S18 hr16 hr16 (Gr_readWhom_dc.at 25 rfl)
theorem Gr_readWhom_w (E : zEv p m c cX4_readWhom 1 s args RX4 meth (some .boolean) G) {res : (zM × Int)} {M : zM} {a0 : Int} {H : Heap} {locs : List Loc} {ls : Array Slot} (ha0 : InR a0) (S : zS G top L M s H locs) (hl : zLV ls 1 [some (zR G.2.2.1 a0)]) (h : Gr_readWhom fu L M a0 = some res) : W p l e (zrm 8 0 0) s m args below meth c H locs 0 0 (MQ below (zQ G top L res.1 (some (.int (zO res.2))) (0 ≤ res.2 ∧ res.2 ≤ 1)) args s 0 0 (zA G)) (F0 m 0 ls []) := by
  unfold Gr_readWhom at h
  refine u_al_n (x := a0) E (Gr_readWhom_dc.at 0 rfl) hl rfl ?_
  refine r_iconst E (Gr_readWhom_dc.at 1 rfl) ?_
  obtain ⟨g1, h⟩ := ite_e h
  obtain ⟨M2, eM2, h⟩ := lt1_e h
  refine u_pI E eM2 zf_4_7 S g1 (show InR 0 by decide) (Or.inl rfl) rfl zw_1_117 (Gr_readWhom_dc.at 2 rfl) (fun H locs S3 => ?_)
  refine u_al_n (x := a0) E (Gr_readWhom_dc.at 3 rfl) hl rfl ?_
  refine r_ldcS (j := 2) E (Gr_readWhom_dc.at 4 rfl) rfl ?_
  obtain ⟨M5, r4, er4, h⟩ := bd2_e h
  refine u_cVI (As := [.ref (G.2.2.2.1 2)]) (rest := []) E S3 zcw_yX4_readWord zw_3_89 zq_1_8 zw_3_87 zck_4.1 rfl g1 (Gr_readWord_c l G fu top L M2 a0 2 ha0 er4) (zrm_ok (by decide) (by decide)) ⟨Nat.le_refl 0, Nat.le_refl 0⟩ rfl (Nat.zero_le 8) hl.size rfl (Gr_readWhom_dc.at 5 rfl) (fun H locs hr4 S6 => ?_)
  refine r_if_eq (tgt := 22) E (inR_01 hr4) (Gr_readWhom_dc.at 6 rfl) (by decide) (fun q => ?_) (fun q => ?_)
  · have h := ite_t h q
    refine u_al_n (x := a0) E (Gr_readWhom_dc.at 11 rfl) hl rfl ?_
    refine r_ldcS (j := 3) E (Gr_readWhom_dc.at 12 rfl) rfl ?_
    obtain ⟨M8, r7, er7, h⟩ := bd2_e h
    refine u_cVI (As := [.ref (G.2.2.2.1 3)]) (rest := []) E S6 zcw_yX4_readWord zw_3_89 zq_1_8 zw_3_87 zck_4.1 rfl g1 (Gr_readWord_c l G fu top L M5 a0 3 ha0 er7) (zrm_ok (by decide) (by decide)) ⟨Nat.le_refl 0, Nat.le_refl 0⟩ rfl (Nat.zero_le 8) hl.size rfl (Gr_readWhom_dc.at 13 rfl) (fun H locs hr7 S9 => ?_)
    refine r_if_eq (tgt := 36) E (inR_01 hr7) (Gr_readWhom_dc.at 14 rfl) (by decide) (fun q => ?_) (fun q => ?_)
    · have h := ite_t h q
      exact Gr_readWhom_b36_w (x0 := a0)  E ha0 S9 (hl.sub (And.intro rfl True.intro)) h
    · have h := ite_f h q
      refine u_al_n (x := a0) E (Gr_readWhom_dc.at 15 rfl) hl rfl ?_
      refine r_iconst E (Gr_readWhom_dc.at 16 rfl) ?_
      obtain ⟨M19, eM19, h⟩ := lt1_e h
      refine u_pI E eM19 zf_4_7 S9 g1 (show InR 2 by decide) (Or.inl rfl) rfl zw_1_117 (Gr_readWhom_dc.at 17 rfl) (fun H locs S20 => ?_)
      exact Gr_readWhom_b36_w (x0 := a0)  E ha0 S20 (hl.sub (And.intro rfl True.intro)) h
  · have h := ite_f h q
    refine u_al_n (x := a0) E (Gr_readWhom_dc.at 7 rfl) hl rfl ?_
    refine r_iconst E (Gr_readWhom_dc.at 8 rfl) ?_
    obtain ⟨M21, eM21, h⟩ := lt1_e h
    refine u_pI E eM21 zf_4_7 S6 g1 (show InR 1 by decide) (Or.inl rfl) rfl zw_1_117 (Gr_readWhom_dc.at 9 rfl) (fun H locs S22 => ?_)
    refine r_goto (tgt := 36) E (Gr_readWhom_dc.at 10 rfl) (by decide) ?_
    exact Gr_readWhom_b36_w (x0 := a0)  E ha0 S22 (hl.sub (And.intro rfl True.intro)) h
theorem Gr_readWhom_c (l : Launch) (G : zG) (fu : Nat) (top : Int) (L : zL) (M : zM) (a0 : Int) {res : (zM × Int)} (ha0 : InR a0) (h : Gr_readWhom fu L M a0 = some res) : Met l yX4_readWhom (Cond.code yX4_readWhom cX4_readWhom 1 (some .boolean) :: zTB) (zrm 8 0 0) (va_Pc [zR G.2.2.1 a0] (zPre G top L M)) (zQ G top L res.1 (some (.int (zO res.2))) (0 ≤ res.2 ∧ res.2 ≤ 1)) 0 0 (zA G) :=
  z_met (by decide +kernel) (by simp [zR_cat, zcat_I, zcat_S]) (Nat.le_of_ble_eq_true rfl) fun p e s m below meth c ls E hn S hl => Gr_readWhom_w E ha0 S (hl.sub (And.intro rfl True.intro)) h
end
theorem Gr_noteStep_dc : zDL cX4_noteStep [(0, .aload_n 0, 1, 1), (1, .getfield 38, 3, 4), (4, .ifCond .lt 62, 3, 7), (7, .aload_n 0, 1, 8), (8, .getfield 38, 3, 11), (11, .bipush 31, 2, 13), (13, .if_icmp .ge 53, 3, 16), (16, .aload_n 0, 1, 17), (17, .getfield 9, 3, 20), (20, .aload_n 0, 1, 21), (21, .getfield 38, 3, 24), (24, .iload_n 1, 1, 25), (25, .iastore, 1, 26), (26, .aload_n 0, 1, 27), (27, .getfield 15, 3, 30), (30, .aload_n 0, 1, 31), (31, .getfield 38, 3, 34), (34, .iload_n 2, 1, 35), (35, .iastore, 1, 36), (36, .aload_n 0, 1, 37), (37, .getfield 18, 3, 40), (40, .aload_n 0, 1, 41), (41, .getfield 38, 3, 44), (44, .iload_n 3, 1, 45), (45, .iastore, 1, 46), (46, .aload_n 0, 1, 47), (47, .getfield 21, 3, 50), (50, .aload_n 0, 1, 51), (51, .getfield 38, 3, 54), (54, .iconst (-1), 1, 55), (55, .iastore, 1, 56), (56, .aload_n 0, 1, 57), (57, .dup, 1, 58), (58, .getfield 38, 3, 61), (61, .iconst 1, 1, 62), (62, .iadd, 1, 63), (63, .putfield 38, 3, 66), (66, .return_, 1, 67)] := zDL.of (by decide +kernel)
section
variable {p : Program} {l : Launch} {e : Env} {s : State} {m : MethodId} {args : Array Value} {below : List Frame} {meth : Method} {c : Code} {G : zG} {top : Int} {L : zL} {fu : Nat}
theorem Gr_noteStep_w (E : zEv p m c cX4_noteStep 4 s args RX4 meth none G) {res : zM} {M : zM} {a0 : Int} {a1 : Int} {a2 : Int} {a3 : Int} {H : Heap} {locs : List Loc} {ls : Array Slot} (ha0 : InR a0) (ha1 : InR a1) (ha2 : InR a2) (ha3 : InR a3) (S : zS G top L M s H locs) (hl : zLV ls 4 [some (zR G.2.2.1 a0), some (.int (zO a1)), some (.int (zO a2)), some (.int (zO a3))]) (h : Gr_noteStep fu L M a0 a1 a2 a3 = some res) : W p l e (zrm 1 0 0) s m args below meth c H locs 0 0 (MQ below (zQ G top L res none True) args s 0 0 (zA G)) (F0 m 0 ls []) := by
  unfold Gr_noteStep at h
  refine u_al_n (x := a0) E (Gr_noteStep_dc.at 0 rfl) hl rfl ?_
  obtain ⟨g1, h⟩ := ite_e h
  refine u_gI E zf_4_10 S g1 zw_1_123 (Gr_noteStep_dc.at 1 rfl) ?_
  refine r_if_lt (tgt := 66) E (S.1.inR _ _) (Gr_noteStep_dc.at 2 rfl) (by decide) (fun q => ?_) (fun q => ?_)
  · have h := ite_t h q
    cases h
    exact r_vret E S True.intro (Gr_noteStep_dc.at 37 rfl)
  · have h := ite_f h q
    refine u_al_n (x := a0) E (Gr_noteStep_dc.at 3 rfl) hl rfl ?_
    refine u_gI E zf_4_10 S g1 zw_1_123 (Gr_noteStep_dc.at 4 rfl) ?_
    refine r_bipush E (Gr_noteStep_dc.at 5 rfl) rfl ?_
    refine r_icmp_ge (tgt := 66) E (S.1.inR _ _) (show InR 31 by decide) (Gr_noteStep_dc.at 6 rfl) (by decide) (fun q => ?_) (fun q => ?_)
    · have h := ite_t h q
      refine u_al_n (x := a0) E (Gr_noteStep_dc.at 7 rfl) hl rfl ?_
      refine u_gR E zf_4_1 S g1 zw_1_104 (Gr_noteStep_dc.at 8 rfl) ?_
      refine u_al_n (x := a0) E (Gr_noteStep_dc.at 9 rfl) hl rfl ?_
      refine u_gI E zf_4_10 S g1 zw_1_123 (Gr_noteStep_dc.at 10 rfl) ?_
      refine u_il_n (x := a1) E (Gr_noteStep_dc.at 11 rfl) hl rfl ?_
      obtain ⟨g2, h⟩ := ite_e h
      obtain ⟨g3, h⟩ := ite_e h
      obtain ⟨M4, eM4, h⟩ := lt1_e h
      refine u_iast E eM4 S g2 g3 ha1 (Gr_noteStep_dc.at 12 rfl) (fun H locs S5 => ?_)
      refine u_al_n (x := a0) E (Gr_noteStep_dc.at 13 rfl) hl rfl ?_
      refine u_gR E zf_4_2 S5 g1 zw_1_106 (Gr_noteStep_dc.at 14 rfl) ?_
      refine u_al_n (x := a0) E (Gr_noteStep_dc.at 15 rfl) hl rfl ?_
      refine u_gI E zf_4_10 S5 g1 zw_1_123 (Gr_noteStep_dc.at 16 rfl) ?_
      refine u_il_n (x := a2) E (Gr_noteStep_dc.at 17 rfl) hl rfl ?_
      obtain ⟨g6, h⟩ := ite_e h
      obtain ⟨g7, h⟩ := ite_e h
      obtain ⟨M8, eM8, h⟩ := lt1_e h
      refine u_iast E eM8 S5 g6 g7 ha2 (Gr_noteStep_dc.at 18 rfl) (fun H locs S9 => ?_)
      refine u_al_n (x := a0) E (Gr_noteStep_dc.at 19 rfl) hl rfl ?_
      refine u_gR E zf_4_3 S9 g1 zw_1_108 (Gr_noteStep_dc.at 20 rfl) ?_
      refine u_al_n (x := a0) E (Gr_noteStep_dc.at 21 rfl) hl rfl ?_
      refine u_gI E zf_4_10 S9 g1 zw_1_123 (Gr_noteStep_dc.at 22 rfl) ?_
      refine u_il_n (x := a3) E (Gr_noteStep_dc.at 23 rfl) hl rfl ?_
      obtain ⟨g10, h⟩ := ite_e h
      obtain ⟨g11, h⟩ := ite_e h
      obtain ⟨M12, eM12, h⟩ := lt1_e h
      refine u_iast E eM12 S9 g10 g11 ha3 (Gr_noteStep_dc.at 24 rfl) (fun H locs S13 => ?_)
      refine u_al_n (x := a0) E (Gr_noteStep_dc.at 25 rfl) hl rfl ?_
      refine u_gR E zf_4_4 S13 g1 zw_1_110 (Gr_noteStep_dc.at 26 rfl) ?_
      refine u_al_n (x := a0) E (Gr_noteStep_dc.at 27 rfl) hl rfl ?_
      refine u_gI E zf_4_10 S13 g1 zw_1_123 (Gr_noteStep_dc.at 28 rfl) ?_
      refine r_iconst E (Gr_noteStep_dc.at 29 rfl) ?_
      obtain ⟨g14, h⟩ := ite_e h
      obtain ⟨g15, h⟩ := ite_e h
      obtain ⟨M16, eM16, h⟩ := lt1_e h
      refine u_iast E eM16 S13 g14 g15 (show InR (-1) by decide) (Gr_noteStep_dc.at 30 rfl) (fun H locs S17 => ?_)
      refine u_al_n (x := a0) E (Gr_noteStep_dc.at 31 rfl) hl rfl ?_
      refine r_dup E (Gr_noteStep_dc.at 32 rfl) (zR_cat _ _) ?_
      refine u_gI E zf_4_10 S17 g1 zw_1_123 (Gr_noteStep_dc.at 33 rfl) ?_
      refine r_iconst E (Gr_noteStep_dc.at 34 rfl) ?_
      refine r_iadd E (Gr_noteStep_dc.at 35 rfl) ?_
      obtain ⟨M18, eM18, h⟩ := lt1_e h
      refine u_pI E eM18 zf_4_10 S17 g1 (inR_w32 _) (Or.inl rfl) rfl zw_1_123 (Gr_noteStep_dc.at 36 rfl) (fun H locs S19 => ?_)
      cases h
      exact r_vret E S19 True.intro (Gr_noteStep_dc.at 37 rfl)
    · have h := ite_f h q
      cases h
      exact r_vret E S True.intro (Gr_noteStep_dc.at 37 rfl)
theorem Gr_noteStep_c (l : Launch) (G : zG) (fu : Nat) (top : Int) (L : zL) (M : zM) (a0 : Int) (a1 : Int) (a2 : Int) (a3 : Int) {res : zM} (ha0 : InR a0) (ha1 : InR a1) (ha2 : InR a2) (ha3 : InR a3) (h : Gr_noteStep fu L M a0 a1 a2 a3 = some res) : Met l yX4_noteStep (Cond.code yX4_noteStep cX4_noteStep 4 none :: zTB) (zrm 1 0 0) (va_Pc [zR G.2.2.1 a0, .int (zO a1), .int (zO a2), .int (zO a3)] (zPre G top L M)) (zQ G top L res none True) 0 0 (zA G) :=
  z_met (by decide +kernel) (by simp [zR_cat, zcat_I, zcat_S]) (Nat.le_of_ble_eq_true rfl) fun p e s m below meth c ls E hn S hl => Gr_noteStep_w E ha0 ha1 ha2 ha3 S (hl.sub (And.intro rfl (And.intro rfl (And.intro rfl (And.intro rfl True.intro))))) h
end
theorem Gr_noteJoint_dc : zDL cX4_noteJoint [(0, .aload_n 0, 1, 1), (1, .getfield 38, 3, 4), (4, .ifCond .lt 62, 3, 7), (7, .aload_n 0, 1, 8), (8, .getfield 38, 3, 11), (11, .bipush 31, 2, 13), (13, .if_icmp .ge 53, 3, 16), (16, .aload_n 0, 1, 17), (17, .getfield 21, 3, 20), (20, .aload_n 0, 1, 21), (21, .getfield 38, 3, 24), (24, .iload_n 2, 1, 25), (25, .iastore, 1, 26), (26, .aload_n 0, 1, 27), (27, .getfield 9, 3, 30), (30, .aload_n 0, 1, 31), (31, .getfield 38, 3, 34), (34, .iload_n 1, 1, 35), (35, .iastore, 1, 36), (36, .aload_n 0, 1, 37), (37, .getfield 15, 3, 40), (40, .aload_n 0, 1, 41), (41, .getfield 38, 3, 44), (44, .iconst 0, 1, 45), (45, .iastore, 1, 46), (46, .aload_n 0, 1, 47), (47, .getfield 18, 3, 50), (50, .aload_n 0, 1, 51), (51, .getfield 38, 3, 54), (54, .iconst (-1), 1, 55), (55, .iastore, 1, 56), (56, .aload_n 0, 1, 57), (57, .dup, 1, 58), (58, .getfield 38, 3, 61), (61, .iconst 1, 1, 62), (62, .iadd, 1, 63), (63, .putfield 38, 3, 66), (66, .return_, 1, 67)] := zDL.of (by decide +kernel)
section
variable {p : Program} {l : Launch} {e : Env} {s : State} {m : MethodId} {args : Array Value} {below : List Frame} {meth : Method} {c : Code} {G : zG} {top : Int} {L : zL} {fu : Nat}
theorem Gr_noteJoint_w (E : zEv p m c cX4_noteJoint 3 s args RX4 meth none G) {res : zM} {M : zM} {a0 : Int} {a1 : Int} {a2 : Int} {H : Heap} {locs : List Loc} {ls : Array Slot} (ha0 : InR a0) (ha1 : InR a1) (ha2 : InR a2) (S : zS G top L M s H locs) (hl : zLV ls 3 [some (zR G.2.2.1 a0), some (.int (zO a1)), some (.int (zO a2))]) (h : Gr_noteJoint fu L M a0 a1 a2 = some res) : W p l e (zrm 1 0 0) s m args below meth c H locs 0 0 (MQ below (zQ G top L res none True) args s 0 0 (zA G)) (F0 m 0 ls []) := by
  unfold Gr_noteJoint at h
  refine u_al_n (x := a0) E (Gr_noteJoint_dc.at 0 rfl) hl rfl ?_
  obtain ⟨g1, h⟩ := ite_e h
  refine u_gI E zf_4_10 S g1 zw_1_123 (Gr_noteJoint_dc.at 1 rfl) ?_
  refine r_if_lt (tgt := 66) E (S.1.inR _ _) (Gr_noteJoint_dc.at 2 rfl) (by decide) (fun q => ?_) (fun q => ?_)
  · have h := ite_t h q
    cases h
    exact r_vret E S True.intro (Gr_noteJoint_dc.at 37 rfl)
  · have h := ite_f h q
    refine u_al_n (x := a0) E (Gr_noteJoint_dc.at 3 rfl) hl rfl ?_
    refine u_gI E zf_4_10 S g1 zw_1_123 (Gr_noteJoint_dc.at 4 rfl) ?_
    refine r_bipush E (Gr_noteJoint_dc.at 5 rfl) rfl ?_
    refine r_icmp_ge (tgt := 66) E (S.1.inR _ _) (show InR 31 by decide) (Gr_noteJoint_dc.at 6 rfl) (by decide) (fun q => ?_) (fun q => ?_)
    · have h := ite_t h q
      refine u_al_n (x := a0) E (Gr_noteJoint_dc.at 7 rfl) hl rfl ?_
      refine u_gR E zf_4_4 S g1 zw_1_110 (Gr_noteJoint_dc.at 8 rfl) ?_
      refine u_al_n (x := a0) E (Gr_noteJoint_dc.at 9 rfl) hl rfl ?_
      refine u_gI E zf_4_10 S g1 zw_1_123 (Gr_noteJoint_dc.at 10 rfl) ?_
      refine u_il_n (x := a2) E (Gr_noteJoint_dc.at 11 rfl) hl rfl ?_
      obtain ⟨g2, h⟩ := ite_e h
      obtain ⟨g3, h⟩ := ite_e h
      obtain ⟨M4, eM4, h⟩ := lt1_e h
      refine u_iast E eM4 S g2 g3 ha2 (Gr_noteJoint_dc.at 12 rfl) (fun H locs S5 => ?_)
      refine u_al_n (x := a0) E (Gr_noteJoint_dc.at 13 rfl) hl rfl ?_
      refine u_gR E zf_4_1 S5 g1 zw_1_104 (Gr_noteJoint_dc.at 14 rfl) ?_
      refine u_al_n (x := a0) E (Gr_noteJoint_dc.at 15 rfl) hl rfl ?_
      refine u_gI E zf_4_10 S5 g1 zw_1_123 (Gr_noteJoint_dc.at 16 rfl) ?_
      refine u_il_n (x := a1) E (Gr_noteJoint_dc.at 17 rfl) hl rfl ?_
      obtain ⟨g6, h⟩ := ite_e h
      obtain ⟨g7, h⟩ := ite_e h
      obtain ⟨M8, eM8, h⟩ := lt1_e h
      refine u_iast E eM8 S5 g6 g7 ha1 (Gr_noteJoint_dc.at 18 rfl) (fun H locs S9 => ?_)
      refine u_al_n (x := a0) E (Gr_noteJoint_dc.at 19 rfl) hl rfl ?_
      refine u_gR E zf_4_2 S9 g1 zw_1_106 (Gr_noteJoint_dc.at 20 rfl) ?_
      refine u_al_n (x := a0) E (Gr_noteJoint_dc.at 21 rfl) hl rfl ?_
      refine u_gI E zf_4_10 S9 g1 zw_1_123 (Gr_noteJoint_dc.at 22 rfl) ?_
      refine r_iconst E (Gr_noteJoint_dc.at 23 rfl) ?_
      obtain ⟨g10, h⟩ := ite_e h
      obtain ⟨g11, h⟩ := ite_e h
      obtain ⟨M12, eM12, h⟩ := lt1_e h
      refine u_iast E eM12 S9 g10 g11 (show InR 0 by decide) (Gr_noteJoint_dc.at 24 rfl) (fun H locs S13 => ?_)
      refine u_al_n (x := a0) E (Gr_noteJoint_dc.at 25 rfl) hl rfl ?_
      refine u_gR E zf_4_3 S13 g1 zw_1_108 (Gr_noteJoint_dc.at 26 rfl) ?_
      refine u_al_n (x := a0) E (Gr_noteJoint_dc.at 27 rfl) hl rfl ?_
      refine u_gI E zf_4_10 S13 g1 zw_1_123 (Gr_noteJoint_dc.at 28 rfl) ?_
      refine r_iconst E (Gr_noteJoint_dc.at 29 rfl) ?_
      obtain ⟨g14, h⟩ := ite_e h
      obtain ⟨g15, h⟩ := ite_e h
      obtain ⟨M16, eM16, h⟩ := lt1_e h
      refine u_iast E eM16 S13 g14 g15 (show InR (-1) by decide) (Gr_noteJoint_dc.at 30 rfl) (fun H locs S17 => ?_)
      refine u_al_n (x := a0) E (Gr_noteJoint_dc.at 31 rfl) hl rfl ?_
      refine r_dup E (Gr_noteJoint_dc.at 32 rfl) (zR_cat _ _) ?_
      refine u_gI E zf_4_10 S17 g1 zw_1_123 (Gr_noteJoint_dc.at 33 rfl) ?_
      refine r_iconst E (Gr_noteJoint_dc.at 34 rfl) ?_
      refine r_iadd E (Gr_noteJoint_dc.at 35 rfl) ?_
      obtain ⟨M18, eM18, h⟩ := lt1_e h
      refine u_pI E eM18 zf_4_10 S17 g1 (inR_w32 _) (Or.inl rfl) rfl zw_1_123 (Gr_noteJoint_dc.at 36 rfl) (fun H locs S19 => ?_)
      cases h
      exact r_vret E S19 True.intro (Gr_noteJoint_dc.at 37 rfl)
    · have h := ite_f h q
      cases h
      exact r_vret E S True.intro (Gr_noteJoint_dc.at 37 rfl)
theorem Gr_noteJoint_c (l : Launch) (G : zG) (fu : Nat) (top : Int) (L : zL) (M : zM) (a0 : Int) (a1 : Int) (a2 : Int) {res : zM} (ha0 : InR a0) (ha1 : InR a1) (ha2 : InR a2) (h : Gr_noteJoint fu L M a0 a1 a2 = some res) : Met l yX4_noteJoint (Cond.code yX4_noteJoint cX4_noteJoint 3 none :: zTB) (zrm 1 0 0) (va_Pc [zR G.2.2.1 a0, .int (zO a1), .int (zO a2)] (zPre G top L M)) (zQ G top L res none True) 0 0 (zA G) :=
  z_met (by decide +kernel) (by simp [zR_cat, zcat_I, zcat_S]) (Nat.le_of_ble_eq_true rfl) fun p e s m below meth c ls E hn S hl => Gr_noteJoint_w E ha0 ha1 ha2 S (hl.sub (And.intro rfl (And.intro rfl (And.intro rfl True.intro)))) h
end
theorem Gr_notePart_dc : zDL cX4_notePart [(0, .iload_n 1, 1, 1), (1, .ifCond .ne 45, 3, 4), (4, .aload_n 0, 1, 5), (5, .getfield 41, 3, 8), (8, .ifCond .lt 38, 3, 11), (11, .aload_n 0, 1, 12), (12, .getfield 41, 3, 15), (15, .aload_n 0, 1, 16), (16, .getfield 24, 3, 19), (19, .arraylength, 1, 20), (20, .if_icmp .ge 26, 3, 23), (23, .aload_n 0, 1, 24), (24, .getfield 24, 3, 27), (27, .aload_n 0, 1, 28), (28, .getfield 41, 3, 31), (31, .aload_n 0, 1, 32), (32, .getfield 38, 3, 35), (35, .iastore, 1, 36), (36, .aload_n 0, 1, 37), (37, .dup, 1, 38), (38, .getfield 41, 3, 41), (41, .iconst 1, 1, 42), (42, .iadd, 1, 43), (43, .putfield 41, 3, 46), (46, .return_, 1, 47)] := zDL.of (by decide +kernel)
section
variable {p : Program} {l : Launch} {e : Env} {s : State} {m : MethodId} {args : Array Value} {below : List Frame} {meth : Method} {c : Code} {G : zG} {top : Int} {L : zL} {fu : Nat}
theorem Gr_notePart_w (E : zEv p m c cX4_notePart 2 s args RX4 meth none G) {res : zM} {M : zM} {a0 : Int} {a1 : Int} {H : Heap} {locs : List Loc} {ls : Array Slot} (ha0 : InR a0) (ha1 : InR a1) (S : zS G top L M s H locs) (hl : zLV ls 2 [some (zR G.2.2.1 a0), some (.int (zO a1))]) (h : Gr_notePart fu L M a0 a1 = some res) : W p l e (zrm 1 0 0) s m args below meth c H locs 0 0 (MQ below (zQ G top L res none True) args s 0 0 (zA G)) (F0 m 0 ls []) := by
  unfold Gr_notePart at h
  refine u_il_n (x := a1) E (Gr_notePart_dc.at 0 rfl) hl rfl ?_
  refine r_if_ne (tgt := 46) E ha1 (Gr_notePart_dc.at 1 rfl) (by decide) (fun q => ?_) (fun q => ?_)
  · have h := ite_t h q
    refine u_al_n (x := a0) E (Gr_notePart_dc.at 2 rfl) hl rfl ?_
    obtain ⟨g1, h⟩ := ite_e h
    refine u_gI E zf_4_11 S g1 zw_1_125 (Gr_notePart_dc.at 3 rfl) ?_
    refine r_if_lt (tgt := 46) E (S.1.inR _ _) (Gr_notePart_dc.at 4 rfl) (by decide) (fun q => ?_) (fun q => ?_)
    · have h := ite_t h q
      cases h
      exact r_vret E S True.intro (Gr_notePart_dc.at 24 rfl)
    · have h := ite_f h q
      refine u_al_n (x := a0) E (Gr_notePart_dc.at 5 rfl) hl rfl ?_
      refine u_gI E zf_4_11 S g1 zw_1_125 (Gr_notePart_dc.at 6 rfl) ?_
      refine u_al_n (x := a0) E (Gr_notePart_dc.at 7 rfl) hl rfl ?_
      refine u_gR E zf_4_5 S g1 zw_1_112 (Gr_notePart_dc.at 8 rfl) ?_
      obtain ⟨g2, h⟩ := ite_e h
      refine r_alen E S g2 (by decide) (Gr_notePart_dc.at 9 rfl) ?_
      refine r_icmp_ge (tgt := 46) E (S.1.inR _ _) (S.1.lenR _) (Gr_notePart_dc.at 10 rfl) (by decide) (fun q => ?_) (fun q => ?_)
      · have h := ite_t h q
        refine u_al_n (x := a0) E (Gr_notePart_dc.at 11 rfl) hl rfl ?_
        refine u_gR E zf_4_5 S g1 zw_1_112 (Gr_notePart_dc.at 12 rfl) ?_
        refine u_al_n (x := a0) E (Gr_notePart_dc.at 13 rfl) hl rfl ?_
        refine u_gI E zf_4_11 S g1 zw_1_125 (Gr_notePart_dc.at 14 rfl) ?_
        refine u_al_n (x := a0) E (Gr_notePart_dc.at 15 rfl) hl rfl ?_
        refine u_gI E zf_4_10 S g1 zw_1_123 (Gr_notePart_dc.at 16 rfl) ?_
        obtain ⟨g3, h⟩ := ite_e h
        obtain ⟨M4, eM4, h⟩ := lt1_e h
        refine u_iast E eM4 S g2 g3 (S.1.inR _ _) (Gr_notePart_dc.at 17 rfl) (fun H locs S5 => ?_)
        refine u_al_n (x := a0) E (Gr_notePart_dc.at 18 rfl) hl rfl ?_
        refine r_dup E (Gr_notePart_dc.at 19 rfl) (zR_cat _ _) ?_
        refine u_gI E zf_4_11 S5 g1 zw_1_125 (Gr_notePart_dc.at 20 rfl) ?_
        refine r_iconst E (Gr_notePart_dc.at 21 rfl) ?_
        refine r_iadd E (Gr_notePart_dc.at 22 rfl) ?_
        obtain ⟨M6, eM6, h⟩ := lt1_e h
        refine u_pI E eM6 zf_4_11 S5 g1 (inR_w32 _) (Or.inl rfl) rfl zw_1_125 (Gr_notePart_dc.at 23 rfl) (fun H locs S7 => ?_)
        cases h
        exact r_vret E S7 True.intro (Gr_notePart_dc.at 24 rfl)
      · have h := ite_f h q
        cases h
        exact r_vret E S True.intro (Gr_notePart_dc.at 24 rfl)
  · have h := ite_f h q
    cases h
    exact r_vret E S True.intro (Gr_notePart_dc.at 24 rfl)
theorem Gr_notePart_c (l : Launch) (G : zG) (fu : Nat) (top : Int) (L : zL) (M : zM) (a0 : Int) (a1 : Int) {res : zM} (ha0 : InR a0) (ha1 : InR a1) (h : Gr_notePart fu L M a0 a1 = some res) : Met l yX4_notePart (Cond.code yX4_notePart cX4_notePart 2 none :: zTB) (zrm 1 0 0) (va_Pc [zR G.2.2.1 a0, .int (zO a1)] (zPre G top L M)) (zQ G top L res none True) 0 0 (zA G) :=
  z_met (by decide +kernel) (by simp [zR_cat, zcat_I, zcat_S]) (Nat.le_of_ble_eq_true rfl) fun p e s m below meth c ls E hn S hl => Gr_notePart_w E ha0 ha1 S (hl.sub (And.intro rfl (And.intro rfl True.intro))) h
end
theorem Gr_readNumber_dc : zDL cX4_readNumber [(0, .aload_n 0, 1, 1), (1, .getfield 30, 3, 4), (4, .iconst 0, 1, 5), (5, .bipush 99, 2, 7), (7, .invokevirtual 145, 3, 10), (10, .ifCond .ne 5, 3, 13), (13, .iconst 0, 1, 14), (14, .ireturn, 1, 15), (15, .aload_n 0, 1, 16), (16, .iload_n 1, 1, 17), (17, .aload_n 0, 1, 18), (18, .getfield 30, 3, 21), (21, .getfield 142, 3, 24), (24, .iload_n 2, 1, 25), (25, .invokevirtual 136, 3, 28), (28, .aload_n 0, 1, 29), (29, .invokevirtual 103, 3, 32), (32, .iconst 1, 1, 33), (33, .ireturn, 1, 34)] := zDL.of (by decide +kernel)
section
variable {p : Program} {l : Launch} {e : Env} {s : State} {m : MethodId} {args : Array Value} {below : List Frame} {meth : Method} {c : Code} {G : zG} {top : Int} {L : zL} {fu : Nat}
theorem Gr_readNumber_w (E : zEv p m c cX4_readNumber 3 s args RX4 meth (some .boolean) G) {res : (zM × Int)} {M : zM} {a0 : Int} {a1 : Int} {a2 : Int} {H : Heap} {locs : List Loc} {ls : Array Slot} (ha0 : InR a0) (ha1 : InR a1) (ha2 : InR a2) (S : zS G top L M s H locs) (hl : zLV ls 3 [some (zR G.2.2.1 a0), some (.int (zO a1)), some (.int (zO a2))]) (h : Gr_readNumber fu L M a0 a1 a2 = some res) : W p l e (zrm 5 0 0) s m args below meth c H locs 0 0 (MQ below (zQ G top L res.1 (some (.int (zO res.2))) (0 ≤ res.2 ∧ res.2 ≤ 1)) args s 0 0 (zA G)) (F0 m 0 ls []) := by
  unfold Gr_readNumber at h
  refine u_al_n (x := a0) E (Gr_readNumber_dc.at 0 rfl) hl rfl ?_
  obtain ⟨g1, h⟩ := ite_e h
  refine u_gR E zf_4_0 S g1 zw_1_103 (Gr_readNumber_dc.at 1 rfl) ?_
  refine r_iconst E (Gr_readNumber_dc.at 2 rfl) ?_
  refine r_bipush E (Gr_readNumber_dc.at 3 rfl) rfl ?_
  obtain ⟨g2, h⟩ := ite_e h
  obtain ⟨r3, er3, h⟩ := bd1_e h
  refine u_cVI (As := [.int (zO 0), .int (zO 99)]) (rest := []) E S zcw_yX7_isNumber zw_3_9 zw_3_10 zw_3_144 zck_7.1 rfl g2 (Tp_isNumber_c l G fu top L M (M a0 0) 0 99 (S.1.inR _ _) (show InR 0 by decide) (show InR 99 by decide) er3) (zrm_ok (by decide) (by decide)) ⟨Nat.le_refl 0, Nat.le_refl 0⟩ rfl (Nat.zero_le 8) hl.size rfl (Gr_readNumber_dc.at 4 rfl) (fun H locs hr3 S4 => ?_)
  refine r_if_ne (tgt := 15) E (inR_01 hr3) (Gr_readNumber_dc.at 5 rfl) (by decide) (fun q => ?_) (fun q => ?_)
  · have h := ite_t h q
    refine r_iconst E (Gr_readNumber_dc.at 6 rfl) ?_
    cases h
    exact r_zret E S4 z01_0 z01_0 (Gr_readNumber_dc.at 7 rfl)
  · have h := ite_f h q
    refine u_al_n (x := a0) E (Gr_readNumber_dc.at 8 rfl) hl rfl ?_
    refine u_il_n (x := a1) E (Gr_readNumber_dc.at 9 rfl) hl rfl ?_
    refine u_al_n (x := a0) E (Gr_readNumber_dc.at 10 rfl) hl rfl ?_
    refine u_gR E zf_4_0 S4 g1 zw_1_103 (Gr_readNumber_dc.at 11 rfl) ?_
    refine u_gI E zf_7_7 S4 g2 zw_1_56 (Gr_readNumber_dc.at 12 rfl) ?_
    refine u_il_n (x := a2) E (Gr_readNumber_dc.at 13 rfl) hl rfl ?_
    obtain ⟨M5, eM5, h⟩ := bd1_e h
    refine u_cVU (As := [.int (zO a1), .int (zO (M (M a0 0) 7)), .int (zO a2)]) (rest := []) E S4 zcw_yX4_noteStep zw_3_147 zq_2_3 zw_3_145 zck_4.1 rfl g1 (Gr_noteStep_c l G fu top L M a0 a1 (M (M a0 0) 7) a2 ha0 ha1 (S4.1.inR _ _) ha2 eM5) (zrm_ok (by decide) (by decide)) ⟨Nat.le_refl 0, Nat.le_refl 0⟩ rfl (Nat.zero_le 8) hl.size rfl (Gr_readNumber_dc.at 14 rfl) (fun H locs _ S6 => ?_)
    refine u_al_n (x := a0) E (Gr_readNumber_dc.at 15 rfl) hl rfl ?_
    obtain ⟨M7, eM7, h⟩ := bd1_e h
    refine u_cVU (As := []) (rest := []) E S6 zcw_yX4_take zw_3_94 zq_1_9 zw_3_92 zck_4.1 rfl g1 (Gr_take_c l G fu top L M5 a0 ha0 eM7) (zrm_ok (by decide) (by decide)) ⟨Nat.le_refl 0, Nat.le_refl 0⟩ rfl (Nat.zero_le 8) hl.size rfl (Gr_readNumber_dc.at 16 rfl) (fun H locs _ S8 => ?_)
    refine r_iconst E (Gr_readNumber_dc.at 17 rfl) ?_
    cases h
    exact r_zret E S8 z01_1 z01_1 (Gr_readNumber_dc.at 18 rfl)
theorem Gr_readNumber_c (l : Launch) (G : zG) (fu : Nat) (top : Int) (L : zL) (M : zM) (a0 : Int) (a1 : Int) (a2 : Int) {res : (zM × Int)} (ha0 : InR a0) (ha1 : InR a1) (ha2 : InR a2) (h : Gr_readNumber fu L M a0 a1 a2 = some res) : Met l yX4_readNumber (Cond.code yX4_readNumber cX4_readNumber 3 (some .boolean) :: zTB) (zrm 5 0 0) (va_Pc [zR G.2.2.1 a0, .int (zO a1), .int (zO a2)] (zPre G top L M)) (zQ G top L res.1 (some (.int (zO res.2))) (0 ≤ res.2 ∧ res.2 ≤ 1)) 0 0 (zA G) :=
  z_met (by decide +kernel) (by simp [zR_cat, zcat_I, zcat_S]) (Nat.le_of_ble_eq_true rfl) fun p e s m below meth c ls E hn S hl => Gr_readNumber_w E ha0 ha1 ha2 S (hl.sub (And.intro rfl (And.intro rfl (And.intro rfl True.intro)))) h
end
