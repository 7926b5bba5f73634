/-! ===== the walk of the law ===== -/
section ZW
variable {p : Program} {l : Launch} {e : Env} {s : State} {m : MethodId} {below : List Frame} {meth : Method} {c : Code} {G : zG} {fu : Nat} {b Ln : Nat} {xs : Nat → Int32}
theorem Lw_c224_w (E : zEv p m c code 7 s #[Value.ref b] "LaterLivesLaw" meth ret G) (hX : va_X b Ln xs s s.heap) (hbl : b < s.heap.size) (hB : G.2.2.1 + 1 = s.heap.size) (hLn : Ln ≤ 3072) (hlf : l.stackTraces = false) {k : Int → zL → zM → Int → Int → Int → Int → Option Int} (hk : ∀ (top : Int) (L : zL) (M : zM) (x1 x2 x3 x4 : Int), InR x1 → InR x2 → InR x3 → InR x4 → ∀ (H : Heap) (locs : List Loc) (ls : Array Slot) (cN sN : Nat), zS G top L M s H locs → zLV ls 7 [some (.ref b), some (zR G.2.2.1 x1), some (zR G.2.2.1 x2), some (zR G.2.2.1 x3), some (.int (zO x4)), none, none] → 6 * (cN : Int) + 7 * ((Ln : Int) - x4) ≤ 3606144 ∧ x4 ≤ (Ln : Int) → 6 * (sN : Int) + 3611 * ((Ln : Int) - x4) ≤ 43758204 → k top L M x1 x2 x3 x4 = some 1 → W p l e room_1 s m #[Value.ref b] below meth c H locs cN sN (lw_Z below #[Value.ref b] s) (F0 m 23 ls [])) {top : Int} {L : zL} {M : zM} {x1 x2 x3 x4 : Int} {H : Heap} {locs : List Loc} {ls : Array Slot} {cN sN : Nat} (hx1 : InR x1) (hx2 : InR x2) (hx3 : InR x3) (hx4 : InR x4) (S : zS G top L M s H locs) (hl : zLV ls 7 [some (.ref b), some (zR G.2.2.1 x1), some (zR G.2.2.1 x2), some (zR G.2.2.1 x3), some (.int (zO x4)), none, none]) (hc : 6 * (cN : Int) + 7 * ((Ln : Int) - x4) ≤ 3606144 ∧ x4 ≤ (Ln : Int)) (hs : 6 * (sN : Int) + 3611 * ((Ln : Int) - x4) ≤ 43758204) (hi : x4 ≤ (Ln : Int) - 6) (h : Lw_c224 fu (zX xs) Ln k top L M x1 x2 x3 x4 = some 1) : W p l e room_1 s m #[Value.ref b] below meth c H locs cN sN (lw_Z below #[Value.ref b] s) (F0 m 224 ls []) := by
  unfold Lw_c224 at h
  have e6 : w32 (x4 + 6) = x4 + 6 := w32_id ⟨by omega, by omega⟩
  refine u_al_n (x := x1) E (Lw_dc0.at 25 rfl) hl rfl ?_
  refine r_aloadS_n E (Lw_dc0.at 26 rfl) hl rfl ?_
  refine u_il (x := x4) E (Lw_dc0.at 27 rfl) hl rfl ?_
  refine r_iconst E (Lw_dc0.at 28 rfl) ?_
  refine r_iadd E (Lw_dc0.at 29 rfl) ?_
  obtain ⟨g2, h⟩ := ite_e h
  refine u_sld E hX hbl hB (by omega) S g2 (Lw_dc0.at 30 rfl) ?_
  refine r_aloadS_n E (Lw_dc0.at 31 rfl) hl rfl ?_
  refine u_il (x := x4) E (Lw_dc0.at 32 rfl) hl rfl ?_
  refine r_iconst E (Lw_dc0.at 33 rfl) ?_
  refine r_iadd E (Lw_dc0.at 34 rfl) ?_
  obtain ⟨g3, h⟩ := ite_e h
  refine u_sld E hX hbl hB (by omega) S g3 (Lw_dc0.at 35 rfl) ?_
  refine r_aloadS_n E (Lw_dc0.at 36 rfl) hl rfl ?_
  refine u_il (x := x4) E (Lw_dc0.at 37 rfl) hl rfl ?_
  refine r_iconst E (Lw_dc0.at 38 rfl) ?_
  refine r_iadd E (Lw_dc0.at 39 rfl) ?_
  obtain ⟨g4, h⟩ := ite_e h
  refine u_sld E hX hbl hB (by omega) S g4 (Lw_dc0.at 40 rfl) ?_
  refine r_aloadS_n E (Lw_dc0.at 41 rfl) hl rfl ?_
  refine u_il (x := x4) E (Lw_dc0.at 42 rfl) hl rfl ?_
  refine r_iconst E (Lw_dc0.at 43 rfl) ?_
  refine r_iadd E (Lw_dc0.at 44 rfl) ?_
  obtain ⟨g5, h⟩ := ite_e h
  refine u_sld E hX hbl hB (by omega) S g5 (Lw_dc0.at 45 rfl) ?_
  refine r_aloadS_n E (Lw_dc0.at 46 rfl) hl rfl ?_
  refine u_il (x := x4) E (Lw_dc0.at 47 rfl) hl rfl ?_
  refine r_iconst E (Lw_dc1.at 0 rfl) ?_
  refine r_iadd E (Lw_dc1.at 1 rfl) ?_
  obtain ⟨g6, h⟩ := ite_e h
  refine u_sld E hX hbl hB (by omega) S g6 (Lw_dc1.at 2 rfl) ?_
  obtain ⟨g7, h⟩ := ite_e h
  obtain ⟨M9, r8, er8, h⟩ := bd2_e h
  refine u_cVI (As := [.int (zO (zX xs (w32 (x4 + 1)))), .int (zO (zX xs (w32 (x4 + 2)))), .int (zO (zX xs (w32 (x4 + 3)))), .int (zO (zX xs (w32 (x4 + 4)))), .int (zO (zX xs (w32 (x4 + 5))))]) (rest := []) E S zcw_yX11_feed zw_2_179 zw_2_180 zw_2_178 zck_11.1 rfl g7 (Lx_feed_c l G fu top L M x1 (zX xs (w32 (x4 + 1))) (zX xs (w32 (x4 + 2))) (zX xs (w32 (x4 + 3))) (zX xs (w32 (x4 + 4))) (zX xs (w32 (x4 + 5))) hx1 (inR_zX _ _) (inR_zX _ _) (inR_zX _ _) (inR_zX _ _) (inR_zX _ _) er8) (zrm_law (by decide) (by decide)) ⟨by show _ ≤ 601024; omega, by show _ ≤ 7293034; omega⟩ rfl (Nat.zero_le 8) hl.size rfl (Lw_dc1.at 3 rfl) (fun H locs hr8 S10 => ?_)
  refine u_al_n (x := x2) E (Lw_dc1.at 4 rfl) hl rfl ?_
  refine r_aloadS_n E (Lw_dc1.at 5 rfl) hl rfl ?_
  refine u_il (x := x4) E (Lw_dc1.at 6 rfl) hl rfl ?_
  refine r_iconst E (Lw_dc1.at 7 rfl) ?_
  refine r_iadd E (Lw_dc1.at 8 rfl) ?_
  obtain ⟨g11, h⟩ := ite_e h
  refine u_sld E hX hbl hB (by omega) S10 g11 (Lw_dc1.at 9 rfl) ?_
  refine r_aloadS_n E (Lw_dc1.at 10 rfl) hl rfl ?_
  refine u_il (x := x4) E (Lw_dc1.at 11 rfl) hl rfl ?_
  refine r_iconst E (Lw_dc1.at 12 rfl) ?_
  refine r_iadd E (Lw_dc1.at 13 rfl) ?_
  obtain ⟨g12, h⟩ := ite_e h
  refine u_sld E hX hbl hB (by omega) S10 g12 (Lw_dc1.at 14 rfl) ?_
  refine r_aloadS_n E (Lw_dc1.at 15 rfl) hl rfl ?_
  refine u_il (x := x4) E (Lw_dc1.at 16 rfl) hl rfl ?_
  refine r_iconst E (Lw_dc1.at 17 rfl) ?_
  refine r_iadd E (Lw_dc1.at 18 rfl) ?_
  obtain ⟨g13, h⟩ := ite_e h
  refine u_sld E hX hbl hB (by omega) S10 g13 (Lw_dc1.at 19 rfl) ?_
  refine r_aloadS_n E (Lw_dc1.at 20 rfl) hl rfl ?_
  refine u_il (x := x4) E (Lw_dc1.at 21 rfl) hl rfl ?_
  refine r_iconst E (Lw_dc1.at 22 rfl) ?_
  refine r_iadd E (Lw_dc1.at 23 rfl) ?_
  obtain ⟨g14, h⟩ := ite_e h
  refine u_sld E hX hbl hB (by omega) S10 g14 (Lw_dc1.at 24 rfl) ?_
  refine r_aloadS_n E (Lw_dc1.at 25 rfl) hl rfl ?_
  refine u_il (x := x4) E (Lw_dc1.at 26 rfl) hl rfl ?_
  refine r_iconst E (Lw_dc1.at 27 rfl) ?_
  refine r_iadd E (Lw_dc1.at 28 rfl) ?_
  obtain ⟨g15, h⟩ := ite_e h
  refine u_sld E hX hbl hB (by omega) S10 g15 (Lw_dc1.at 29 rfl) ?_
  obtain ⟨g16, h⟩ := ite_e h
  obtain ⟨M18, r17, er17, h⟩ := bd2_e h
  refine u_cVI (As := [.int (zO (zX xs (w32 (x4 + 1)))), .int (zO (zX xs (w32 (x4 + 2)))), .int (zO (zX xs (w32 (x4 + 3)))), .int (zO (zX xs (w32 (x4 + 4)))), .int (zO (zX xs (w32 (x4 + 5))))]) (rest := [.int (zO r8)]) E S10 zcw_yX12_feed zw_7_123 zw_7_124 zw_7_122 zck_12.1 rfl g16 (Mo_feed_c l G fu top L M9 x2 (zX xs (w32 (x4 + 1))) (zX xs (w32 (x4 + 2))) (zX xs (w32 (x4 + 3))) (zX xs (w32 (x4 + 4))) (zX xs (w32 (x4 + 5))) hx2 (inR_zX _ _) (inR_zX _ _) (inR_zX _ _) (inR_zX _ _) (inR_zX _ _) er17) (zrm_law (by decide) (by decide)) ⟨by show _ ≤ 601024; omega, by show _ ≤ 7293034; omega⟩ rfl (by simp [zR_cat, zcat_I, zcat_J, zcat_S]) hl.size rfl (Lw_dc1.at 30 rfl) (fun H locs hr17 S19 => ?_)
  refine r_icmp_eq (tgt := 1497) E hr8 hr17 (Lw_dc1.at 31 rfl) (by decide) (fun q => ?_) (fun q => ?_)
  · have h := ite_t h q
    obtain ⟨v20, ev20, h⟩ := lt1_e h
    have hv20 := inR_eq ev20 (inR_w32 _)
    refine u_iinc (y := v20) (vs' := [some (.ref b), some (zR G.2.2.1 x1), some (zR G.2.2.1 x2), some (zR G.2.2.1 x3), some (.int (zO v20)), none, none]) E ev20 (Lw_dc19.at 5 rfl) hl rfl (by decide) rfl (fun ls hl => ?_)
    refine r_goto (tgt := 23) E (Lw_dc19.at 6 rfl) (by decide) ?_
    exact hk _ _ _ x1 x2 x3 v20 hx1 hx2 hx3 hv20 _ _ _ _ _ S19 (hl.sub (And.intro rfl (And.intro rfl (And.intro rfl (And.intro rfl (And.intro rfl True.intro)))))) (by omega) (by omega) h
  · have h := ite_f h q
    refine r_iconst E (Lw_dc1.at 32 rfl) ?_
    exact absurd (Option.some.inj h) (by decide)
theorem Lw_c297_w (E : zEv p m c code 7 s #[Value.ref b] "LaterLivesLaw" meth ret G) (hX : va_X b Ln xs s s.heap) (hbl : b < s.heap.size) (hB : G.2.2.1 + 1 = s.heap.size) (hLn : Ln ≤ 3072) (hlf : l.stackTraces = false) {k : Int → zL → zM → Int → Int → Int → Int → Option Int} (hk : ∀ (top : Int) (L : zL) (M : zM) (x1 x2 x3 x4 : Int), InR x1 → InR x2 → InR x3 → InR x4 → ∀ (H : Heap) (locs : List Loc) (ls : Array Slot) (cN sN : Nat), zS G top L M s H locs → zLV ls 7 [some (.ref b), some (zR G.2.2.1 x1), some (zR G.2.2.1 x2), some (zR G.2.2.1 x3), some (.int (zO x4)), none, none] → 6 * (cN : Int) + 7 * ((Ln : Int) - x4) ≤ 3606144 ∧ x4 ≤ (Ln : Int) → 6 * (sN : Int) + 3611 * ((Ln : Int) - x4) ≤ 43758204 → k top L M x1 x2 x3 x4 = some 1 → W p l e room_1 s m #[Value.ref b] below meth c H locs cN sN (lw_Z below #[Value.ref b] s) (F0 m 23 ls [])) {top : Int} {L : zL} {M : zM} {x1 x2 x3 x4 : Int} {H : Heap} {locs : List Loc} {ls : Array Slot} {cN sN : Nat} (hx1 : InR x1) (hx2 : InR x2) (hx3 : InR x3) (hx4 : InR x4) (S : zS G top L M s H locs) (hl : zLV ls 7 [some (.ref b), some (zR G.2.2.1 x1), some (zR G.2.2.1 x2), some (zR G.2.2.1 x3), some (.int (zO x4)), none, none]) (hc : 6 * (cN : Int) + 7 * ((Ln : Int) - x4) ≤ 3606144 ∧ x4 ≤ (Ln : Int)) (hs : 6 * (sN : Int) + 3611 * ((Ln : Int) - x4) ≤ 43758204) (hi : x4 ≤ (Ln : Int) - 6) (h : Lw_c297 fu (zX xs) Ln k top L M x1 x2 x3 x4 = some 1) : W p l e room_1 s m #[Value.ref b] below meth c H locs cN sN (lw_Z below #[Value.ref b] s) (F0 m 297 ls []) := by
  unfold Lw_c297 at h
  have e6 : w32 (x4 + 6) = x4 + 6 := w32_id ⟨by omega, by omega⟩
  refine u_al_n (x := x1) E (Lw_dc1.at 34 rfl) hl rfl ?_
  refine r_aloadS_n E (Lw_dc1.at 35 rfl) hl rfl ?_
  refine u_il (x := x4) E (Lw_dc1.at 36 rfl) hl rfl ?_
  refine r_iconst E (Lw_dc1.at 37 rfl) ?_
  refine r_iadd E (Lw_dc1.at 38 rfl) ?_
  obtain ⟨g22, h⟩ := ite_e h
  refine u_sld E hX hbl hB (by omega) S g22 (Lw_dc1.at 39 rfl) ?_
  obtain ⟨g23, h⟩ := ite_e h
  obtain ⟨M25, r24, er24, h⟩ := bd2_e h
  refine u_cVI (As := [.int (zO (zX xs (w32 (x4 + 1))))]) (rest := []) E S zcw_yX11_end zw_2_190 zw_2_191 zw_2_189 zck_11.1 rfl g23 (Lx_end_c l G fu top L M x1 (zX xs (w32 (x4 + 1))) hx1 (inR_zX _ _) er24) (zrm_law (by decide) (by decide)) ⟨by show _ ≤ 601024; omega, by show _ ≤ 7293034; omega⟩ rfl (Nat.zero_le 8) hl.size rfl (Lw_dc1.at 40 rfl) (fun H locs hr24 S26 => ?_)
  refine u_al_n (x := x2) E (Lw_dc1.at 41 rfl) hl rfl ?_
  refine r_aloadS_n E (Lw_dc1.at 42 rfl) hl rfl ?_
  refine u_il (x := x4) E (Lw_dc1.at 43 rfl) hl rfl ?_
  refine r_iconst E (Lw_dc1.at 44 rfl) ?_
  refine r_iadd E (Lw_dc1.at 45 rfl) ?_
  obtain ⟨g27, h⟩ := ite_e h
  refine u_sld E hX hbl hB (by omega) S26 g27 (Lw_dc1.at 46 rfl) ?_
  obtain ⟨g28, h⟩ := ite_e h
  obtain ⟨M30, r29, er29, h⟩ := bd2_e h
  refine u_cVI (As := [.int (zO (zX xs (w32 (x4 + 1))))]) (rest := [.int (zO r24)]) E S26 zcw_yX12_end zw_7_130 zw_7_131 zw_7_129 zck_12.1 rfl g28 (Mo_end0_c l G fu top L M25 x2 (zX xs (w32 (x4 + 1))) hx2 (inR_zX _ _) er29) (zrm_law (by decide) (by decide)) ⟨by show _ ≤ 601024; omega, by show _ ≤ 7293034; omega⟩ rfl (by simp [zR_cat, zcat_I, zcat_J, zcat_S]) hl.size rfl (Lw_dc1.at 47 rfl) (fun H locs hr29 S31 => ?_)
  refine r_icmp_eq (tgt := 1497) E (inR_01 hr24) (inR_01 hr29) (Lw_dc2.at 0 rfl) (by decide) (fun q => ?_) (fun q => ?_)
  · have h := ite_t h q
    obtain ⟨v32, ev32, h⟩ := lt1_e h
    have hv32 := inR_eq ev32 (inR_w32 _)
    refine u_iinc (y := v32) (vs' := [some (.ref b), some (zR G.2.2.1 x1), some (zR G.2.2.1 x2), some (zR G.2.2.1 x3), some (.int (zO v32)), none, none]) E ev32 (Lw_dc19.at 5 rfl) hl rfl (by decide) rfl (fun ls hl => ?_)
    refine r_goto (tgt := 23) E (Lw_dc19.at 6 rfl) (by decide) ?_
    exact hk _ _ _ x1 x2 x3 v32 hx1 hx2 hx3 hv32 _ _ _ _ _ S31 (hl.sub (And.intro rfl (And.intro rfl (And.intro rfl (And.intro rfl (And.intro rfl True.intro)))))) (by omega) (by omega) h
  · have h := ite_f h q
    refine r_iconst E (Lw_dc2.at 1 rfl) ?_
    exact absurd (Option.some.inj h) (by decide)
theorem Lw_c322_w (E : zEv p m c code 7 s #[Value.ref b] "LaterLivesLaw" meth ret G) (hX : va_X b Ln xs s s.heap) (hbl : b < s.heap.size) (hB : G.2.2.1 + 1 = s.heap.size) (hLn : Ln ≤ 3072) (hlf : l.stackTraces = false) {k : Int → zL → zM → Int → Int → Int → Int → Option Int} (hk : ∀ (top : Int) (L : zL) (M : zM) (x1 x2 x3 x4 : Int), InR x1 → InR x2 → InR x3 → InR x4 → ∀ (H : Heap) (locs : List Loc) (ls : Array Slot) (cN sN : Nat), zS G top L M s H locs → zLV ls 7 [some (.ref b), some (zR G.2.2.1 x1), some (zR G.2.2.1 x2), some (zR G.2.2.1 x3), some (.int (zO x4)), none, none] → 6 * (cN : Int) + 7 * ((Ln : Int) - x4) ≤ 3606144 ∧ x4 ≤ (Ln : Int) → 6 * (sN : Int) + 3611 * ((Ln : Int) - x4) ≤ 43758204 → k top L M x1 x2 x3 x4 = some 1 → W p l e room_1 s m #[Value.ref b] below meth c H locs cN sN (lw_Z below #[Value.ref b] s) (F0 m 23 ls [])) {top : Int} {L : zL} {M : zM} {x1 x2 x3 x4 : Int} {H : Heap} {locs : List Loc} {ls : Array Slot} {cN sN : Nat} (hx1 : InR x1) (hx2 : InR x2) (hx3 : InR x3) (hx4 : InR x4) (S : zS G top L M s H locs) (hl : zLV ls 7 [some (.ref b), some (zR G.2.2.1 x1), some (zR G.2.2.1 x2), some (zR G.2.2.1 x3), some (.int (zO x4)), none, none]) (hc : 6 * (cN : Int) + 7 * ((Ln : Int) - x4) ≤ 3606144 ∧ x4 ≤ (Ln : Int)) (hs : 6 * (sN : Int) + 3611 * ((Ln : Int) - x4) ≤ 43758204) (hi : x4 ≤ (Ln : Int) - 6) (h : Lw_c322 fu (zX xs) Ln k top L M x1 x2 x3 x4 = some 1) : W p l e room_1 s m #[Value.ref b] below meth c H locs cN sN (lw_Z below #[Value.ref b] s) (F0 m 322 ls []) := by
  unfold Lw_c322 at h
  have e6 : w32 (x4 + 6) = x4 + 6 := w32_id ⟨by omega, by omega⟩
  refine u_al_n (x := x1) E (Lw_dc2.at 3 rfl) hl rfl ?_
  refine r_aloadS_n E (Lw_dc2.at 4 rfl) hl rfl ?_
  refine u_il (x := x4) E (Lw_dc2.at 5 rfl) hl rfl ?_
  refine r_iconst E (Lw_dc2.at 6 rfl) ?_
  refine r_iadd E (Lw_dc2.at 7 rfl) ?_
  obtain ⟨g34, h⟩ := ite_e h
  refine u_sld E hX hbl hB (by omega) S g34 (Lw_dc2.at 8 rfl) ?_
  obtain ⟨g35, h⟩ := ite_e h
  obtain ⟨M37, r36, er36, h⟩ := bd2_e h
  refine u_cVI (As := [.int (zO (zX xs (w32 (x4 + 1))))]) (rest := []) E S zcw_yX11_fault zw_2_194 zw_2_195 zw_2_193 zck_11.1 rfl g35 (Lx_fault_c l G fu top L M x1 (zX xs (w32 (x4 + 1))) hx1 (inR_zX _ _) er36) (zrm_law (by decide) (by decide)) ⟨by show _ ≤ 601024; omega, by show _ ≤ 7293034; omega⟩ rfl (Nat.zero_le 8) hl.size rfl (Lw_dc2.at 9 rfl) (fun H locs hr36 S38 => ?_)
  refine u_al_n (x := x2) E (Lw_dc2.at 10 rfl) hl rfl ?_
  refine r_aloadS_n E (Lw_dc2.at 11 rfl) hl rfl ?_
  refine u_il (x := x4) E (Lw_dc2.at 12 rfl) hl rfl ?_
  refine r_iconst E (Lw_dc2.at 13 rfl) ?_
  refine r_iadd E (Lw_dc2.at 14 rfl) ?_
  obtain ⟨g39, h⟩ := ite_e h
  refine u_sld E hX hbl hB (by omega) S38 g39 (Lw_dc2.at 15 rfl) ?_
  obtain ⟨g40, h⟩ := ite_e h
  obtain ⟨M42, r41, er41, h⟩ := bd2_e h
  refine u_cVI (As := [.int (zO (zX xs (w32 (x4 + 1))))]) (rest := [.int (zO r36)]) E S38 zcw_yX12_fault zw_7_137 zw_7_138 zw_7_136 zck_12.1 rfl g40 (Mo_fault_c l G fu top L M37 x2 (zX xs (w32 (x4 + 1))) hx2 (inR_zX _ _) er41) (zrm_law (by decide) (by decide)) ⟨by show _ ≤ 601024; omega, by show _ ≤ 7293034; omega⟩ rfl (by simp [zR_cat, zcat_I, zcat_J, zcat_S]) hl.size rfl (Lw_dc2.at 16 rfl) (fun H locs hr41 S43 => ?_)
  refine r_icmp_eq (tgt := 1497) E hr36 hr41 (Lw_dc2.at 17 rfl) (by decide) (fun q => ?_) (fun q => ?_)
  · have h := ite_t h q
    obtain ⟨v44, ev44, h⟩ := lt1_e h
    have hv44 := inR_eq ev44 (inR_w32 _)
    refine u_iinc (y := v44) (vs' := [some (.ref b), some (zR G.2.2.1 x1), some (zR G.2.2.1 x2), some (zR G.2.2.1 x3), some (.int (zO v44)), none, none]) E ev44 (Lw_dc19.at 5 rfl) hl rfl (by decide) rfl (fun ls hl => ?_)
    refine r_goto (tgt := 23) E (Lw_dc19.at 6 rfl) (by decide) ?_
    exact hk _ _ _ x1 x2 x3 v44 hx1 hx2 hx3 hv44 _ _ _ _ _ S43 (hl.sub (And.intro rfl (And.intro rfl (And.intro rfl (And.intro rfl (And.intro rfl True.intro)))))) (by omega) (by omega) h
  · have h := ite_f h q
    refine r_iconst E (Lw_dc2.at 18 rfl) ?_
    exact absurd (Option.some.inj h) (by decide)
theorem Lw_c347_w (E : zEv p m c code 7 s #[Value.ref b] "LaterLivesLaw" meth ret G) (hX : va_X b Ln xs s s.heap) (hbl : b < s.heap.size) (hB : G.2.2.1 + 1 = s.heap.size) (hLn : Ln ≤ 3072) (hlf : l.stackTraces = false) {k : Int → zL → zM → Int → Int → Int → Int → Option Int} (hk : ∀ (top : Int) (L : zL) (M : zM) (x1 x2 x3 x4 : Int), InR x1 → InR x2 → InR x3 → InR x4 → ∀ (H : Heap) (locs : List Loc) (ls : Array Slot) (cN sN : Nat), zS G top L M s H locs → zLV ls 7 [some (.ref b), some (zR G.2.2.1 x1), some (zR G.2.2.1 x2), some (zR G.2.2.1 x3), some (.int (zO x4)), none, none] → 6 * (cN : Int) + 7 * ((Ln : Int) - x4) ≤ 3606144 ∧ x4 ≤ (Ln : Int) → 6 * (sN : Int) + 3611 * ((Ln : Int) - x4) ≤ 43758204 → k top L M x1 x2 x3 x4 = some 1 → W p l e room_1 s m #[Value.ref b] below meth c H locs cN sN (lw_Z below #[Value.ref b] s) (F0 m 23 ls [])) {top : Int} {L : zL} {M : zM} {x1 x2 x3 x4 : Int} {H : Heap} {locs : List Loc} {ls : Array Slot} {cN sN : Nat} (hx1 : InR x1) (hx2 : InR x2) (hx3 : InR x3) (hx4 : InR x4) (S : zS G top L M s H locs) (hl : zLV ls 7 [some (.ref b), some (zR G.2.2.1 x1), some (zR G.2.2.1 x2), some (zR G.2.2.1 x3), some (.int (zO x4)), none, none]) (hc : 6 * (cN : Int) + 7 * ((Ln : Int) - x4) ≤ 3606144 ∧ x4 ≤ (Ln : Int)) (hs : 6 * (sN : Int) + 3611 * ((Ln : Int) - x4) ≤ 43758204) (hi : x4 ≤ (Ln : Int) - 6) (h : Lw_c347 fu (zX xs) Ln k top L M x1 x2 x3 x4 = some 1) : W p l e room_1 s m #[Value.ref b] below meth c H locs cN sN (lw_Z below #[Value.ref b] s) (F0 m 347 ls []) := by
  unfold Lw_c347 at h
  have e6 : w32 (x4 + 6) = x4 + 6 := w32_id ⟨by omega, by omega⟩
  refine u_al_n (x := x1) E (Lw_dc2.at 20 rfl) hl rfl ?_
  obtain ⟨g46, h⟩ := ite_e h
  obtain ⟨M48, r47, er47, h⟩ := bd2_e h
  refine u_cVI (As := []) (rest := []) E S zcw_yX11_family zw_3_201 zw_3_202 zw_3_200 zck_11.1 rfl g46 (Lx_family_c l G fu top L M x1 hx1 er47) (zrm_law (by decide) (by decide)) ⟨by show _ ≤ 601024; omega, by show _ ≤ 7293034; omega⟩ rfl (Nat.zero_le 8) hl.size rfl (Lw_dc2.at 21 rfl) (fun H locs hr47 S49 => ?_)
  refine u_al_n (x := x2) E (Lw_dc2.at 22 rfl) hl rfl ?_
  obtain ⟨g50, h⟩ := ite_e h
  obtain ⟨M52, r51, er51, h⟩ := bd2_e h
  refine u_cVI (As := []) (rest := [.int (zO r47)]) E S49 zcw_yX12_family zw_8_35 zw_8_36 zw_8_34 zck_12.1 rfl g50 (Mo_family_c l G fu top L M48 x2 hx2 er51) (zrm_law (by decide) (by decide)) ⟨by show _ ≤ 601024; omega, by show _ ≤ 7293034; omega⟩ rfl (by simp [zR_cat, zcat_I, zcat_J, zcat_S]) hl.size rfl (Lw_dc2.at 23 rfl) (fun H locs hr51 S53 => ?_)
  refine r_icmp_eq (tgt := 1497) E hr47 hr51 (Lw_dc2.at 24 rfl) (by decide) (fun q => ?_) (fun q => ?_)
  · have h := ite_t h q
    obtain ⟨v54, ev54, h⟩ := lt1_e h
    have hv54 := inR_eq ev54 (inR_w32 _)
    refine u_iinc (y := v54) (vs' := [some (.ref b), some (zR G.2.2.1 x1), some (zR G.2.2.1 x2), some (zR G.2.2.1 x3), some (.int (zO v54)), none, none]) E ev54 (Lw_dc19.at 5 rfl) hl rfl (by decide) rfl (fun ls hl => ?_)
    refine r_goto (tgt := 23) E (Lw_dc19.at 6 rfl) (by decide) ?_
    exact hk _ _ _ x1 x2 x3 v54 hx1 hx2 hx3 hv54 _ _ _ _ _ S53 (hl.sub (And.intro rfl (And.intro rfl (And.intro rfl (And.intro rfl (And.intro rfl True.intro)))))) (by omega) (by omega) h
  · have h := ite_f h q
    refine r_iconst E (Lw_dc2.at 25 rfl) ?_
    exact absurd (Option.some.inj h) (by decide)
theorem Lw_c360_w (E : zEv p m c code 7 s #[Value.ref b] "LaterLivesLaw" meth ret G) (hX : va_X b Ln xs s s.heap) (hbl : b < s.heap.size) (hB : G.2.2.1 + 1 = s.heap.size) (hLn : Ln ≤ 3072) (hlf : l.stackTraces = false) {k : Int → zL → zM → Int → Int → Int → Int → Option Int} (hk : ∀ (top : Int) (L : zL) (M : zM) (x1 x2 x3 x4 : Int), InR x1 → InR x2 → InR x3 → InR x4 → ∀ (H : Heap) (locs : List Loc) (ls : Array Slot) (cN sN : Nat), zS G top L M s H locs → zLV ls 7 [some (.ref b), some (zR G.2.2.1 x1), some (zR G.2.2.1 x2), some (zR G.2.2.1 x3), some (.int (zO x4)), none, none] → 6 * (cN : Int) + 7 * ((Ln : Int) - x4) ≤ 3606144 ∧ x4 ≤ (Ln : Int) → 6 * (sN : Int) + 3611 * ((Ln : Int) - x4) ≤ 43758204 → k top L M x1 x2 x3 x4 = some 1 → W p l e room_1 s m #[Value.ref b] below meth c H locs cN sN (lw_Z below #[Value.ref b] s) (F0 m 23 ls [])) {top : Int} {L : zL} {M : zM} {x1 x2 x3 x4 : Int} {H : Heap} {locs : List Loc} {ls : Array Slot} {cN sN : Nat} (hx1 : InR x1) (hx2 : InR x2) (hx3 : InR x3) (hx4 : InR x4) (S : zS G top L M s H locs) (hl : zLV ls 7 [some (.ref b), some (zR G.2.2.1 x1), some (zR G.2.2.1 x2), some (zR G.2.2.1 x3), some (.int (zO x4)), none, none]) (hc : 6 * (cN : Int) + 7 * ((Ln : Int) - x4) ≤ 3606144 ∧ x4 ≤ (Ln : Int)) (hs : 6 * (sN : Int) + 3611 * ((Ln : Int) - x4) ≤ 43758204) (hi : x4 ≤ (Ln : Int) - 6) (h : Lw_c360 fu (zX xs) Ln k top L M x1 x2 x3 x4 = some 1) : W p l e room_1 s m #[Value.ref b] below meth c H locs cN sN (lw_Z below #[Value.ref b] s) (F0 m 360 ls []) := by
  unfold Lw_c360 at h
  have e6 : w32 (x4 + 6) = x4 + 6 := w32_id ⟨by omega, by omega⟩
  refine u_al_n (x := x1) E (Lw_dc2.at 27 rfl) hl rfl ?_
  obtain ⟨g56, h⟩ := ite_e h
  obtain ⟨T57, L58, M59, r60, eM59, h⟩ := bd4_e h
  refine u_cVA (As := []) (rest := []) E S zcw_yX11_gift zw_3_234 zw_3_235 zw_3_233 zck_11.1 rfl g56 (Lx_gift_c l G fu top L M x1 hx1 eM59) (zrm_law (by decide) (by decide)) ⟨by show _ ≤ 601024; omega, by show _ ≤ 7293034; omega⟩ rfl (Nat.zero_le 8) hl.size rfl (Lw_dc2.at 28 rfl) (fun H locs hr60 S61 => ?_)
  refine u_al_n (x := x2) E (Lw_dc2.at 29 rfl) hl rfl ?_
  obtain ⟨g62, h⟩ := ite_e h
  obtain ⟨M64, r63, er63, h⟩ := bd2_e h
  refine u_cVI (As := []) (rest := [.int (zO r60)]) E S61 zcw_yX12_gift zw_8_53 zw_8_54 zw_8_52 zck_12.1 rfl g62 (Mo_gift_c l G fu T57 L58 M59 x2 hx2 er63) (zrm_law (by decide) (by decide)) ⟨by show _ ≤ 601024; omega, by show _ ≤ 7293034; omega⟩ rfl (by simp [zR_cat, zcat_I, zcat_J, zcat_S]) hl.size rfl (Lw_dc2.at 30 rfl) (fun H locs hr63 S65 => ?_)
  refine r_icmp_eq (tgt := 1497) E hr60 hr63 (Lw_dc2.at 31 rfl) (by decide) (fun q => ?_) (fun q => ?_)
  · have h := ite_t h q
    obtain ⟨v66, ev66, h⟩ := lt1_e h
    have hv66 := inR_eq ev66 (inR_w32 _)
    refine u_iinc (y := v66) (vs' := [some (.ref b), some (zR G.2.2.1 x1), some (zR G.2.2.1 x2), some (zR G.2.2.1 x3), some (.int (zO v66)), none, none]) E ev66 (Lw_dc19.at 5 rfl) hl rfl (by decide) rfl (fun ls hl => ?_)
    refine r_goto (tgt := 23) E (Lw_dc19.at 6 rfl) (by decide) ?_
    exact hk _ _ _ x1 x2 x3 v66 hx1 hx2 hx3 hv66 _ _ _ _ _ S65 (hl.sub (And.intro rfl (And.intro rfl (And.intro rfl (And.intro rfl (And.intro rfl True.intro)))))) (by omega) (by omega) h
  · have h := ite_f h q
    refine r_iconst E (Lw_dc2.at 32 rfl) ?_
    exact absurd (Option.some.inj h) (by decide)
theorem Lw_c373_w (E : zEv p m c code 7 s #[Value.ref b] "LaterLivesLaw" meth ret G) (hX : va_X b Ln xs s s.heap) (hbl : b < s.heap.size) (hB : G.2.2.1 + 1 = s.heap.size) (hLn : Ln ≤ 3072) (hlf : l.stackTraces = false) {k : Int → zL → zM → Int → Int → Int → Int → Option Int} (hk : ∀ (top : Int) (L : zL) (M : zM) (x1 x2 x3 x4 : Int), InR x1 → InR x2 → InR x3 → InR x4 → ∀ (H : Heap) (locs : List Loc) (ls : Array Slot) (cN sN : Nat), zS G top L M s H locs → zLV ls 7 [some (.ref b), some (zR G.2.2.1 x1), some (zR G.2.2.1 x2), some (zR G.2.2.1 x3), some (.int (zO x4)), none, none] → 6 * (cN : Int) + 7 * ((Ln : Int) - x4) ≤ 3606144 ∧ x4 ≤ (Ln : Int) → 6 * (sN : Int) + 3611 * ((Ln : Int) - x4) ≤ 43758204 → k top L M x1 x2 x3 x4 = some 1 → W p l e room_1 s m #[Value.ref b] below meth c H locs cN sN (lw_Z below #[Value.ref b] s) (F0 m 23 ls [])) {top : Int} {L : zL} {M : zM} {x1 x2 x3 x4 : Int} {H : Heap} {locs : List Loc} {ls : Array Slot} {cN sN : Nat} (hx1 : InR x1) (hx2 : InR x2) (hx3 : InR x3) (hx4 : InR x4) (S : zS G top L M s H locs) (hl : zLV ls 7 [some (.ref b), some (zR G.2.2.1 x1), some (zR G.2.2.1 x2), some (zR G.2.2.1 x3), some (.int (zO x4)), none, none]) (hc : 6 * (cN : Int) + 7 * ((Ln : Int) - x4) ≤ 3606144 ∧ x4 ≤ (Ln : Int)) (hs : 6 * (sN : Int) + 3611 * ((Ln : Int) - x4) ≤ 43758204) (hi : x4 ≤ (Ln : Int) - 6) (h : Lw_c373 fu (zX xs) Ln k top L M x1 x2 x3 x4 = some 1) : W p l e room_1 s m #[Value.ref b] below meth c H locs cN sN (lw_Z below #[Value.ref b] s) (F0 m 373 ls []) := by
  unfold Lw_c373 at h
  have e6 : w32 (x4 + 6) = x4 + 6 := w32_id ⟨by omega, by omega⟩
  refine u_al_n (x := x1) E (Lw_dc2.at 34 rfl) hl rfl ?_
  refine r_aloadS_n E (Lw_dc2.at 35 rfl) hl rfl ?_
  refine u_il (x := x4) E (Lw_dc2.at 36 rfl) hl rfl ?_
  refine r_iconst E (Lw_dc2.at 37 rfl) ?_
  refine r_iadd E (Lw_dc2.at 38 rfl) ?_
  obtain ⟨g68, h⟩ := ite_e h
  refine u_sld E hX hbl hB (by omega) S g68 (Lw_dc2.at 39 rfl) ?_
  obtain ⟨g69, h⟩ := ite_e h
  obtain ⟨M71, r70, er70, h⟩ := bd2_e h
  refine u_cVI (As := [.int (zO (zX xs (w32 (x4 + 1))))]) (rest := []) E S zcw_yX11_drop zw_4_125 zw_4_126 zw_4_124 zck_11.1 rfl g69 (Lx_drop_c l G fu top L M x1 (zX xs (w32 (x4 + 1))) hx1 (inR_zX _ _) er70) (zrm_law (by decide) (by decide)) ⟨by show _ ≤ 601024; omega, by show _ ≤ 7293034; omega⟩ rfl (Nat.zero_le 8) hl.size rfl (Lw_dc2.at 40 rfl) (fun H locs hr70 S72 => ?_)
  refine u_al_n (x := x2) E (Lw_dc2.at 41 rfl) hl rfl ?_
  refine r_aloadS_n E (Lw_dc2.at 42 rfl) hl rfl ?_
  refine u_il (x := x4) E (Lw_dc2.at 43 rfl) hl rfl ?_
  refine r_iconst E (Lw_dc2.at 44 rfl) ?_
  refine r_iadd E (Lw_dc2.at 45 rfl) ?_
  obtain ⟨g73, h⟩ := ite_e h
  refine u_sld E hX hbl hB (by omega) S72 g73 (Lw_dc2.at 46 rfl) ?_
  obtain ⟨g74, h⟩ := ite_e h
  obtain ⟨M76, r75, er75, h⟩ := bd2_e h
  refine u_cVI (As := [.int (zO (zX xs (w32 (x4 + 1))))]) (rest := [.int (zO r70)]) E S72 zcw_yX12_drop zw_8_72 zw_8_73 zw_8_71 zck_12.1 rfl g74 (Mo_drop_c l G fu top L M71 x2 (zX xs (w32 (x4 + 1))) hx2 (inR_zX _ _) er75) (zrm_law (by decide) (by decide)) ⟨by show _ ≤ 601024; omega, by show _ ≤ 7293034; omega⟩ rfl (by simp [zR_cat, zcat_I, zcat_J, zcat_S]) hl.size rfl (Lw_dc2.at 47 rfl) (fun H locs hr75 S77 => ?_)
  refine r_icmp_eq (tgt := 1497) E hr70 hr75 (Lw_dc3.at 0 rfl) (by decide) (fun q => ?_) (fun q => ?_)
  · have h := ite_t h q
    obtain ⟨v78, ev78, h⟩ := lt1_e h
    have hv78 := inR_eq ev78 (inR_w32 _)
    refine u_iinc (y := v78) (vs' := [some (.ref b), some (zR G.2.2.1 x1), some (zR G.2.2.1 x2), some (zR G.2.2.1 x3), some (.int (zO v78)), none, none]) E ev78 (Lw_dc19.at 5 rfl) hl rfl (by decide) rfl (fun ls hl => ?_)
    refine r_goto (tgt := 23) E (Lw_dc19.at 6 rfl) (by decide) ?_
    exact hk _ _ _ x1 x2 x3 v78 hx1 hx2 hx3 hv78 _ _ _ _ _ S77 (hl.sub (And.intro rfl (And.intro rfl (And.intro rfl (And.intro rfl (And.intro rfl True.intro)))))) (by omega) (by omega) h
  · have h := ite_f h q
    refine r_iconst E (Lw_dc3.at 1 rfl) ?_
    exact absurd (Option.some.inj h) (by decide)
theorem Lw_c398_w (E : zEv p m c code 7 s #[Value.ref b] "LaterLivesLaw" meth ret G) (hX : va_X b Ln xs s s.heap) (hbl : b < s.heap.size) (hB : G.2.2.1 + 1 = s.heap.size) (hLn : Ln ≤ 3072) (hlf : l.stackTraces = false) {k : Int → zL → zM → Int → Int → Int → Int → Option Int} (hk : ∀ (top : Int) (L : zL) (M : zM) (x1 x2 x3 x4 : Int), InR x1 → InR x2 → InR x3 → InR x4 → ∀ (H : Heap) (locs : List Loc) (ls : Array Slot) (cN sN : Nat), zS G top L M s H locs → zLV ls 7 [some (.ref b), some (zR G.2.2.1 x1), some (zR G.2.2.1 x2), some (zR G.2.2.1 x3), some (.int (zO x4)), none, none] → 6 * (cN : Int) + 7 * ((Ln : Int) - x4) ≤ 3606144 ∧ x4 ≤ (Ln : Int) → 6 * (sN : Int) + 3611 * ((Ln : Int) - x4) ≤ 43758204 → k top L M x1 x2 x3 x4 = some 1 → W p l e room_1 s m #[Value.ref b] below meth c H locs cN sN (lw_Z below #[Value.ref b] s) (F0 m 23 ls [])) {top : Int} {L : zL} {M : zM} {x1 x2 x3 x4 : Int} {H : Heap} {locs : List Loc} {ls : Array Slot} {cN sN : Nat} (hx1 : InR x1) (hx2 : InR x2) (hx3 : InR x3) (hx4 : InR x4) (S : zS G top L M s H locs) (hl : zLV ls 7 [some (.ref b), some (zR G.2.2.1 x1), some (zR G.2.2.1 x2), some (zR G.2.2.1 x3), some (.int (zO x4)), none, none]) (hc : 6 * (cN : Int) + 7 * ((Ln : Int) - x4) ≤ 3606144 ∧ x4 ≤ (Ln : Int)) (hs : 6 * (sN : Int) + 3611 * ((Ln : Int) - x4) ≤ 43758204) (hi : x4 ≤ (Ln : Int) - 6) (h : Lw_c398 fu (zX xs) Ln k top L M x1 x2 x3 x4 = some 1) : W p l e room_1 s m #[Value.ref b] below meth c H locs cN sN (lw_Z below #[Value.ref b] s) (F0 m 398 ls []) := by
  unfold Lw_c398 at h
  have e6 : w32 (x4 + 6) = x4 + 6 := w32_id ⟨by omega, by omega⟩
  refine u_al_n (x := x1) E (Lw_dc3.at 3 rfl) hl rfl ?_
  refine r_aloadS_n E (Lw_dc3.at 4 rfl) hl rfl ?_
  refine u_il (x := x4) E (Lw_dc3.at 5 rfl) hl rfl ?_
  refine r_iconst E (Lw_dc3.at 6 rfl) ?_
  refine r_iadd E (Lw_dc3.at 7 rfl) ?_
  obtain ⟨g80, h⟩ := ite_e h
  refine u_sld E hX hbl hB (by omega) S g80 (Lw_dc3.at 8 rfl) ?_
  obtain ⟨g81, h⟩ := ite_e h
  obtain ⟨M83, r82, er82, h⟩ := bd2_e h
  refine u_cVI (As := [.int (zO (zX xs (w32 (x4 + 1))))]) (rest := []) E S zcw_yX11_pass zw_4_134 zw_4_135 zw_4_133 zck_11.1 rfl g81 (Lx_pass_c l G fu top L M x1 (zX xs (w32 (x4 + 1))) hx1 (inR_zX _ _) er82) (zrm_law (by decide) (by decide)) ⟨by show _ ≤ 601024; omega, by show _ ≤ 7293034; omega⟩ rfl (Nat.zero_le 8) hl.size rfl (Lw_dc3.at 9 rfl) (fun H locs hr82 S84 => ?_)
  refine u_al_n (x := x2) E (Lw_dc3.at 10 rfl) hl rfl ?_
  refine r_aloadS_n E (Lw_dc3.at 11 rfl) hl rfl ?_
  refine u_il (x := x4) E (Lw_dc3.at 12 rfl) hl rfl ?_
  refine r_iconst E (Lw_dc3.at 13 rfl) ?_
  refine r_iadd E (Lw_dc3.at 14 rfl) ?_
  obtain ⟨g85, h⟩ := ite_e h
  refine u_sld E hX hbl hB (by omega) S84 g85 (Lw_dc3.at 15 rfl) ?_
  obtain ⟨g86, h⟩ := ite_e h
  obtain ⟨M88, r87, er87, h⟩ := bd2_e h
  refine u_cVI (As := [.int (zO (zX xs (w32 (x4 + 1))))]) (rest := [.int (zO r82)]) E S84 zcw_yX12_pass zw_8_80 zw_8_81 zw_8_79 zck_12.1 rfl g86 (Mo_pass_c l G fu top L M83 x2 (zX xs (w32 (x4 + 1))) hx2 (inR_zX _ _) er87) (zrm_law (by decide) (by decide)) ⟨by show _ ≤ 601024; omega, by show _ ≤ 7293034; omega⟩ rfl (by simp [zR_cat, zcat_I, zcat_J, zcat_S]) hl.size rfl (Lw_dc3.at 16 rfl) (fun H locs hr87 S89 => ?_)
  refine r_icmp_eq (tgt := 1497) E hr82 hr87 (Lw_dc3.at 17 rfl) (by decide) (fun q => ?_) (fun q => ?_)
  · have h := ite_t h q
    obtain ⟨v90, ev90, h⟩ := lt1_e h
    have hv90 := inR_eq ev90 (inR_w32 _)
    refine u_iinc (y := v90) (vs' := [some (.ref b), some (zR G.2.2.1 x1), some (zR G.2.2.1 x2), some (zR G.2.2.1 x3), some (.int (zO v90)), none, none]) E ev90 (Lw_dc19.at 5 rfl) hl rfl (by decide) rfl (fun ls hl => ?_)
    refine r_goto (tgt := 23) E (Lw_dc19.at 6 rfl) (by decide) ?_
    exact hk _ _ _ x1 x2 x3 v90 hx1 hx2 hx3 hv90 _ _ _ _ _ S89 (hl.sub (And.intro rfl (And.intro rfl (And.intro rfl (And.intro rfl (And.intro rfl True.intro)))))) (by omega) (by omega) h
  · have h := ite_f h q
    refine r_iconst E (Lw_dc3.at 18 rfl) ?_
    exact absurd (Option.some.inj h) (by decide)
theorem Lw_c423_w (E : zEv p m c code 7 s #[Value.ref b] "LaterLivesLaw" meth ret G) (hX : va_X b Ln xs s s.heap) (hbl : b < s.heap.size) (hB : G.2.2.1 + 1 = s.heap.size) (hLn : Ln ≤ 3072) (hlf : l.stackTraces = false) {k : Int → zL → zM → Int → Int → Int → Int → Option Int} (hk : ∀ (top : Int) (L : zL) (M : zM) (x1 x2 x3 x4 : Int), InR x1 → InR x2 → InR x3 → InR x4 → ∀ (H : Heap) (locs : List Loc) (ls : Array Slot) (cN sN : Nat), zS G top L M s H locs → zLV ls 7 [some (.ref b), some (zR G.2.2.1 x1), some (zR G.2.2.1 x2), some (zR G.2.2.1 x3), some (.int (zO x4)), none, none] → 6 * (cN : Int) + 7 * ((Ln : Int) - x4) ≤ 3606144 ∧ x4 ≤ (Ln : Int) → 6 * (sN : Int) + 3611 * ((Ln : Int) - x4) ≤ 43758204 → k top L M x1 x2 x3 x4 = some 1 → W p l e room_1 s m #[Value.ref b] below meth c H locs cN sN (lw_Z below #[Value.ref b] s) (F0 m 23 ls [])) {top : Int} {L : zL} {M : zM} {x1 x2 x3 x4 : Int} {H : Heap} {locs : List Loc} {ls : Array Slot} {cN sN : Nat} (hx1 : InR x1) (hx2 : InR x2) (hx3 : InR x3) (hx4 : InR x4) (S : zS G top L M s H locs) (hl : zLV ls 7 [some (.ref b), some (zR G.2.2.1 x1), some (zR G.2.2.1 x2), some (zR G.2.2.1 x3), some (.int (zO x4)), none, none]) (hc : 6 * (cN : Int) + 7 * ((Ln : Int) - x4) ≤ 3606144 ∧ x4 ≤ (Ln : Int)) (hs : 6 * (sN : Int) + 3611 * ((Ln : Int) - x4) ≤ 43758204) (hi : x4 ≤ (Ln : Int) - 6) (h : Lw_c423 fu (zX xs) Ln k top L M x1 x2 x3 x4 = some 1) : W p l e room_1 s m #[Value.ref b] below meth c H locs cN sN (lw_Z below #[Value.ref b] s) (F0 m 423 ls []) := by
  unfold Lw_c423 at h
  have e6 : w32 (x4 + 6) = x4 + 6 := w32_id ⟨by omega, by omega⟩
  refine u_al_n (x := x1) E (Lw_dc3.at 20 rfl) hl rfl ?_
  refine r_aloadS_n E (Lw_dc3.at 21 rfl) hl rfl ?_
  refine u_il (x := x4) E (Lw_dc3.at 22 rfl) hl rfl ?_
  refine r_iconst E (Lw_dc3.at 23 rfl) ?_
  refine r_iadd E (Lw_dc3.at 24 rfl) ?_
  obtain ⟨g92, h⟩ := ite_e h
  refine u_sld E hX hbl hB (by omega) S g92 (Lw_dc3.at 25 rfl) ?_
  obtain ⟨g93, h⟩ := ite_e h
  obtain ⟨M95, r94, er94, h⟩ := bd2_e h
  refine u_cVI (As := [.int (zO (zX xs (w32 (x4 + 1))))]) (rest := []) E S zcw_yX11_birth zw_4_138 zw_4_139 zw_4_137 zck_11.1 rfl g93 (Lx_birth_c l G fu top L M x1 (zX xs (w32 (x4 + 1))) hx1 (inR_zX _ _) er94) (zrm_law (by decide) (by decide)) ⟨by show _ ≤ 601024; omega, by show _ ≤ 7293034; omega⟩ rfl (Nat.zero_le 8) hl.size rfl (Lw_dc3.at 26 rfl) (fun H locs hr94 S96 => ?_)
  refine u_al_n (x := x2) E (Lw_dc3.at 27 rfl) hl rfl ?_
  refine r_aloadS_n E (Lw_dc3.at 28 rfl) hl rfl ?_
  refine u_il (x := x4) E (Lw_dc3.at 29 rfl) hl rfl ?_
  refine r_iconst E (Lw_dc3.at 30 rfl) ?_
  refine r_iadd E (Lw_dc3.at 31 rfl) ?_
  obtain ⟨g97, h⟩ := ite_e h
  refine u_sld E hX hbl hB (by omega) S96 g97 (Lw_dc3.at 32 rfl) ?_
  obtain ⟨g98, h⟩ := ite_e h
  obtain ⟨M100, r99, er99, h⟩ := bd2_e h
  refine u_cVI (As := [.int (zO (zX xs (w32 (x4 + 1))))]) (rest := [.int (zO r94)]) E S96 zcw_yX12_birth zw_8_85 zw_8_86 zw_8_84 zck_12.1 rfl g98 (Mo_birth_c l G fu top L M95 x2 (zX xs (w32 (x4 + 1))) hx2 (inR_zX _ _) er99) (zrm_law (by decide) (by decide)) ⟨by show _ ≤ 601024; omega, by show _ ≤ 7293034; omega⟩ rfl (by simp [zR_cat, zcat_I, zcat_J, zcat_S]) hl.size rfl (Lw_dc3.at 33 rfl) (fun H locs hr99 S101 => ?_)
  refine r_icmp_eq (tgt := 1497) E hr94 hr99 (Lw_dc3.at 34 rfl) (by decide) (fun q => ?_) (fun q => ?_)
  · have h := ite_t h q
    obtain ⟨v102, ev102, h⟩ := lt1_e h
    have hv102 := inR_eq ev102 (inR_w32 _)
    refine u_iinc (y := v102) (vs' := [some (.ref b), some (zR G.2.2.1 x1), some (zR G.2.2.1 x2), some (zR G.2.2.1 x3), some (.int (zO v102)), none, none]) E ev102 (Lw_dc19.at 5 rfl) hl rfl (by decide) rfl (fun ls hl => ?_)
    refine r_goto (tgt := 23) E (Lw_dc19.at 6 rfl) (by decide) ?_
    exact hk _ _ _ x1 x2 x3 v102 hx1 hx2 hx3 hv102 _ _ _ _ _ S101 (hl.sub (And.intro rfl (And.intro rfl (And.intro rfl (And.intro rfl (And.intro rfl True.intro)))))) (by omega) (by omega) h
  · have h := ite_f h q
    refine r_iconst E (Lw_dc3.at 35 rfl) ?_
    exact absurd (Option.some.inj h) (by decide)
theorem Lw_c448_w (E : zEv p m c code 7 s #[Value.ref b] "LaterLivesLaw" meth ret G) (hX : va_X b Ln xs s s.heap) (hbl : b < s.heap.size) (hB : G.2.2.1 + 1 = s.heap.size) (hLn : Ln ≤ 3072) (hlf : l.stackTraces = false) {k : Int → zL → zM → Int → Int → Int → Int → Option Int} (hk : ∀ (top : Int) (L : zL) (M : zM) (x1 x2 x3 x4 : Int), InR x1 → InR x2 → InR x3 → InR x4 → ∀ (H : Heap) (locs : List Loc) (ls : Array Slot) (cN sN : Nat), zS G top L M s H locs → zLV ls 7 [some (.ref b), some (zR G.2.2.1 x1), some (zR G.2.2.1 x2), some (zR G.2.2.1 x3), some (.int (zO x4)), none, none] → 6 * (cN : Int) + 7 * ((Ln : Int) - x4) ≤ 3606144 ∧ x4 ≤ (Ln : Int) → 6 * (sN : Int) + 3611 * ((Ln : Int) - x4) ≤ 43758204 → k top L M x1 x2 x3 x4 = some 1 → W p l e room_1 s m #[Value.ref b] below meth c H locs cN sN (lw_Z below #[Value.ref b] s) (F0 m 23 ls [])) {top : Int} {L : zL} {M : zM} {x1 x2 x3 x4 : Int} {H : Heap} {locs : List Loc} {ls : Array Slot} {cN sN : Nat} (hx1 : InR x1) (hx2 : InR x2) (hx3 : InR x3) (hx4 : InR x4) (S : zS G top L M s H locs) (hl : zLV ls 7 [some (.ref b), some (zR G.2.2.1 x1), some (zR G.2.2.1 x2), some (zR G.2.2.1 x3), some (.int (zO x4)), none, none]) (hc : 6 * (cN : Int) + 7 * ((Ln : Int) - x4) ≤ 3606144 ∧ x4 ≤ (Ln : Int)) (hs : 6 * (sN : Int) + 3611 * ((Ln : Int) - x4) ≤ 43758204) (hi : x4 ≤ (Ln : Int) - 6) (h : Lw_c448 fu (zX xs) Ln k top L M x1 x2 x3 x4 = some 1) : W p l e room_1 s m #[Value.ref b] below meth c H locs cN sN (lw_Z below #[Value.ref b] s) (F0 m 448 ls []) := by
  unfold Lw_c448 at h
  have e6 : w32 (x4 + 6) = x4 + 6 := w32_id ⟨by omega, by omega⟩
  refine u_al_n (x := x1) E (Lw_dc3.at 37 rfl) hl rfl ?_
  refine r_aloadS_n E (Lw_dc3.at 38 rfl) hl rfl ?_
  refine u_il (x := x4) E (Lw_dc3.at 39 rfl) hl rfl ?_
  refine r_iconst E (Lw_dc3.at 40 rfl) ?_
  refine r_iadd E (Lw_dc3.at 41 rfl) ?_
  obtain ⟨g104, h⟩ := ite_e h
  refine u_sld E hX hbl hB (by omega) S g104 (Lw_dc3.at 42 rfl) ?_
  obtain ⟨g105, h⟩ := ite_e h
  obtain ⟨M107, r106, er106, h⟩ := bd2_e h
  refine u_cVI (As := [.int (zO (zX xs (w32 (x4 + 1))))]) (rest := []) E S zcw_yX11_death zw_4_151 zw_4_152 zw_4_150 zck_11.1 rfl g105 (Lx_death_c l G fu top L M x1 (zX xs (w32 (x4 + 1))) hx1 (inR_zX _ _) er106) (zrm_law (by decide) (by decide)) ⟨by show _ ≤ 601024; omega, by show _ ≤ 7293034; omega⟩ rfl (Nat.zero_le 8) hl.size rfl (Lw_dc3.at 43 rfl) (fun H locs hr106 S108 => ?_)
  refine u_al_n (x := x2) E (Lw_dc3.at 44 rfl) hl rfl ?_
  refine r_aloadS_n E (Lw_dc3.at 45 rfl) hl rfl ?_
  refine u_il (x := x4) E (Lw_dc3.at 46 rfl) hl rfl ?_
  refine r_iconst E (Lw_dc3.at 47 rfl) ?_
  refine r_iadd E (Lw_dc4.at 0 rfl) ?_
  obtain ⟨g109, h⟩ := ite_e h
  refine u_sld E hX hbl hB (by omega) S108 g109 (Lw_dc4.at 1 rfl) ?_
  obtain ⟨g110, h⟩ := ite_e h
  obtain ⟨M112, r111, er111, h⟩ := bd2_e h
  refine u_cVI (As := [.int (zO (zX xs (w32 (x4 + 1))))]) (rest := [.int (zO r106)]) E S108 zcw_yX12_death zw_8_98 zw_8_99 zw_8_97 zck_12.1 rfl g110 (Mo_death_c l G fu top L M107 x2 (zX xs (w32 (x4 + 1))) hx2 (inR_zX _ _) er111) (zrm_law (by decide) (by decide)) ⟨by show _ ≤ 601024; omega, by show _ ≤ 7293034; omega⟩ rfl (by simp [zR_cat, zcat_I, zcat_J, zcat_S]) hl.size rfl (Lw_dc4.at 2 rfl) (fun H locs hr111 S113 => ?_)
  refine r_icmp_eq (tgt := 1497) E hr106 hr111 (Lw_dc4.at 3 rfl) (by decide) (fun q => ?_) (fun q => ?_)
  · have h := ite_t h q
    obtain ⟨v114, ev114, h⟩ := lt1_e h
    have hv114 := inR_eq ev114 (inR_w32 _)
    refine u_iinc (y := v114) (vs' := [some (.ref b), some (zR G.2.2.1 x1), some (zR G.2.2.1 x2), some (zR G.2.2.1 x3), some (.int (zO v114)), none, none]) E ev114 (Lw_dc19.at 5 rfl) hl rfl (by decide) rfl (fun ls hl => ?_)
    refine r_goto (tgt := 23) E (Lw_dc19.at 6 rfl) (by decide) ?_
    exact hk _ _ _ x1 x2 x3 v114 hx1 hx2 hx3 hv114 _ _ _ _ _ S113 (hl.sub (And.intro rfl (And.intro rfl (And.intro rfl (And.intro rfl (And.intro rfl True.intro)))))) (by omega) (by omega) h
  · have h := ite_f h q
    refine r_iconst E (Lw_dc4.at 4 rfl) ?_
    exact absurd (Option.some.inj h) (by decide)
theorem Lw_c473_w (E : zEv p m c code 7 s #[Value.ref b] "LaterLivesLaw" meth ret G) (hX : va_X b Ln xs s s.heap) (hbl : b < s.heap.size) (hB : G.2.2.1 + 1 = s.heap.size) (hLn : Ln ≤ 3072) (hlf : l.stackTraces = false) {k : Int → zL → zM → Int → Int → Int → Int → Option Int} (hk : ∀ (top : Int) (L : zL) (M : zM) (x1 x2 x3 x4 : Int), InR x1 → InR x2 → InR x3 → InR x4 → ∀ (H : Heap) (locs : List Loc) (ls : Array Slot) (cN sN : Nat), zS G top L M s H locs → zLV ls 7 [some (.ref b), some (zR G.2.2.1 x1), some (zR G.2.2.1 x2), some (zR G.2.2.1 x3), some (.int (zO x4)), none, none] → 6 * (cN : Int) + 7 * ((Ln : Int) - x4) ≤ 3606144 ∧ x4 ≤ (Ln : Int) → 6 * (sN : Int) + 3611 * ((Ln : Int) - x4) ≤ 43758204 → k top L M x1 x2 x3 x4 = some 1 → W p l e room_1 s m #[Value.ref b] below meth c H locs cN sN (lw_Z below #[Value.ref b] s) (F0 m 23 ls [])) {top : Int} {L : zL} {M : zM} {x1 x2 x3 x4 : Int} {H : Heap} {locs : List Loc} {ls : Array Slot} {cN sN : Nat} (hx1 : InR x1) (hx2 : InR x2) (hx3 : InR x3) (hx4 : InR x4) (S : zS G top L M s H locs) (hl : zLV ls 7 [some (.ref b), some (zR G.2.2.1 x1), some (zR G.2.2.1 x2), some (zR G.2.2.1 x3), some (.int (zO x4)), none, none]) (hc : 6 * (cN : Int) + 7 * ((Ln : Int) - x4) ≤ 3606144 ∧ x4 ≤ (Ln : Int)) (hs : 6 * (sN : Int) + 3611 * ((Ln : Int) - x4) ≤ 43758204) (hi : x4 ≤ (Ln : Int) - 6) (h : Lw_c473 fu (zX xs) Ln k top L M x1 x2 x3 x4 = some 1) : W p l e room_1 s m #[Value.ref b] below meth c H locs cN sN (lw_Z below #[Value.ref b] s) (F0 m 473 ls []) := by
  unfold Lw_c473 at h
  have e6 : w32 (x4 + 6) = x4 + 6 := w32_id ⟨by omega, by omega⟩
  refine u_al_n (x := x1) E (Lw_dc4.at 6 rfl) hl rfl ?_
  refine r_aloadS_n E (Lw_dc4.at 7 rfl) hl rfl ?_
  refine u_il (x := x4) E (Lw_dc4.at 8 rfl) hl rfl ?_
  refine r_iconst E (Lw_dc4.at 9 rfl) ?_
  refine r_iadd E (Lw_dc4.at 10 rfl) ?_
  obtain ⟨g116, h⟩ := ite_e h
  refine u_sld E hX hbl hB (by omega) S g116 (Lw_dc4.at 11 rfl) ?_
  obtain ⟨g117, h⟩ := ite_e h
  obtain ⟨M119, r118, er118, h⟩ := bd2_e h
  refine u_cVI (As := [.int (zO (zX xs (w32 (x4 + 1))))]) (rest := []) E S zcw_yX11_period zw_4_167 zw_4_168 zw_4_166 zck_11.1 rfl g117 (Lx_period_c l G fu top L M x1 (zX xs (w32 (x4 + 1))) hx1 (inR_zX _ _) er118) (zrm_law (by decide) (by decide)) ⟨by show _ ≤ 601024; omega, by show _ ≤ 7293034; omega⟩ rfl (Nat.zero_le 8) hl.size rfl (Lw_dc4.at 12 rfl) (fun H locs hr118 S120 => ?_)
  refine u_al_n (x := x2) E (Lw_dc4.at 13 rfl) hl rfl ?_
  refine r_aloadS_n E (Lw_dc4.at 14 rfl) hl rfl ?_
  refine u_il (x := x4) E (Lw_dc4.at 15 rfl) hl rfl ?_
  refine r_iconst E (Lw_dc4.at 16 rfl) ?_
  refine r_iadd E (Lw_dc4.at 17 rfl) ?_
  obtain ⟨g121, h⟩ := ite_e h
  refine u_sld E hX hbl hB (by omega) S120 g121 (Lw_dc4.at 18 rfl) ?_
  obtain ⟨g122, h⟩ := ite_e h
  obtain ⟨M124, r123, er123, h⟩ := bd2_e h
  refine u_cVI (As := [.int (zO (zX xs (w32 (x4 + 1))))]) (rest := [.int (zO r118)]) E S120 zcw_yX12_period zw_8_102 zw_8_103 zw_8_101 zck_12.1 rfl g122 (Mo_period_c l G fu top L M119 x2 (zX xs (w32 (x4 + 1))) hx2 (inR_zX _ _) er123) (zrm_law (by decide) (by decide)) ⟨by show _ ≤ 601024; omega, by show _ ≤ 7293034; omega⟩ rfl (by simp [zR_cat, zcat_I, zcat_J, zcat_S]) hl.size rfl (Lw_dc4.at 19 rfl) (fun H locs hr123 S125 => ?_)
  refine r_icmp_eq (tgt := 1497) E hr118 hr123 (Lw_dc4.at 20 rfl) (by decide) (fun q => ?_) (fun q => ?_)
  · have h := ite_t h q
    obtain ⟨v126, ev126, h⟩ := lt1_e h
    have hv126 := inR_eq ev126 (inR_w32 _)
    refine u_iinc (y := v126) (vs' := [some (.ref b), some (zR G.2.2.1 x1), some (zR G.2.2.1 x2), some (zR G.2.2.1 x3), some (.int (zO v126)), none, none]) E ev126 (Lw_dc19.at 5 rfl) hl rfl (by decide) rfl (fun ls hl => ?_)
    refine r_goto (tgt := 23) E (Lw_dc19.at 6 rfl) (by decide) ?_
    exact hk _ _ _ x1 x2 x3 v126 hx1 hx2 hx3 hv126 _ _ _ _ _ S125 (hl.sub (And.intro rfl (And.intro rfl (And.intro rfl (And.intro rfl (And.intro rfl True.intro)))))) (by omega) (by omega) h
  · have h := ite_f h q
    refine r_iconst E (Lw_dc4.at 21 rfl) ?_
    exact absurd (Option.some.inj h) (by decide)
theorem Lw_c498_w (E : zEv p m c code 7 s #[Value.ref b] "LaterLivesLaw" meth ret G) (hX : va_X b Ln xs s s.heap) (hbl : b < s.heap.size) (hB : G.2.2.1 + 1 = s.heap.size) (hLn : Ln ≤ 3072) (hlf : l.stackTraces = false) {k : Int → zL → zM → Int → Int → Int → Int → Option Int} (hk : ∀ (top : Int) (L : zL) (M : zM) (x1 x2 x3 x4 : Int), InR x1 → InR x2 → InR x3 → InR x4 → ∀ (H : Heap) (locs : List Loc) (ls : Array Slot) (cN sN : Nat), zS G top L M s H locs → zLV ls 7 [some (.ref b), some (zR G.2.2.1 x1), some (zR G.2.2.1 x2), some (zR G.2.2.1 x3), some (.int (zO x4)), none, none] → 6 * (cN : Int) + 7 * ((Ln : Int) - x4) ≤ 3606144 ∧ x4 ≤ (Ln : Int) → 6 * (sN : Int) + 3611 * ((Ln : Int) - x4) ≤ 43758204 → k top L M x1 x2 x3 x4 = some 1 → W p l e room_1 s m #[Value.ref b] below meth c H locs cN sN (lw_Z below #[Value.ref b] s) (F0 m 23 ls [])) {top : Int} {L : zL} {M : zM} {x1 x2 x3 x4 : Int} {H : Heap} {locs : List Loc} {ls : Array Slot} {cN sN : Nat} (hx1 : InR x1) (hx2 : InR x2) (hx3 : InR x3) (hx4 : InR x4) (S : zS G top L M s H locs) (hl : zLV ls 7 [some (.ref b), some (zR G.2.2.1 x1), some (zR G.2.2.1 x2), some (zR G.2.2.1 x3), some (.int (zO x4)), none, none]) (hc : 6 * (cN : Int) + 7 * ((Ln : Int) - x4) ≤ 3606144 ∧ x4 ≤ (Ln : Int)) (hs : 6 * (sN : Int) + 3611 * ((Ln : Int) - x4) ≤ 43758204) (hi : x4 ≤ (Ln : Int) - 6) (h : Lw_c498 fu (zX xs) Ln k top L M x1 x2 x3 x4 = some 1) : W p l e room_1 s m #[Value.ref b] below meth c H locs cN sN (lw_Z below #[Value.ref b] s) (F0 m 498 ls []) := by
  unfold Lw_c498 at h
  have e6 : w32 (x4 + 6) = x4 + 6 := w32_id ⟨by omega, by omega⟩
  refine u_al_n (x := x1) E (Lw_dc4.at 23 rfl) hl rfl ?_
  refine r_aloadS_n E (Lw_dc4.at 24 rfl) hl rfl ?_
  refine u_il (x := x4) E (Lw_dc4.at 25 rfl) hl rfl ?_
  refine r_iconst E (Lw_dc4.at 26 rfl) ?_
  refine r_iadd E (Lw_dc4.at 27 rfl) ?_
  obtain ⟨g128, h⟩ := ite_e h
  refine u_sld E hX hbl hB (by omega) S g128 (Lw_dc4.at 28 rfl) ?_
  obtain ⟨g129, h⟩ := ite_e h
  obtain ⟨M131, r130, er130, h⟩ := bd2_e h
  refine u_cVI (As := [.int (zO (zX xs (w32 (x4 + 1))))]) (rest := []) E S zcw_yX11_limit zw_4_171 zw_4_172 zw_4_170 zck_11.1 rfl g129 (Lx_limit_c l G fu top L M x1 (zX xs (w32 (x4 + 1))) hx1 (inR_zX _ _) er130) (zrm_law (by decide) (by decide)) ⟨by show _ ≤ 601024; omega, by show _ ≤ 7293034; omega⟩ rfl (Nat.zero_le 8) hl.size rfl (Lw_dc4.at 29 rfl) (fun H locs hr130 S132 => ?_)
  refine u_al_n (x := x2) E (Lw_dc4.at 30 rfl) hl rfl ?_
  refine r_aloadS_n E (Lw_dc4.at 31 rfl) hl rfl ?_
  refine u_il (x := x4) E (Lw_dc4.at 32 rfl) hl rfl ?_
  refine r_iconst E (Lw_dc4.at 33 rfl) ?_
  refine r_iadd E (Lw_dc4.at 34 rfl) ?_
  obtain ⟨g133, h⟩ := ite_e h
  refine u_sld E hX hbl hB (by omega) S132 g133 (Lw_dc4.at 35 rfl) ?_
  obtain ⟨g134, h⟩ := ite_e h
  obtain ⟨M136, r135, er135, h⟩ := bd2_e h
  refine u_cVI (As := [.int (zO (zX xs (w32 (x4 + 1))))]) (rest := [.int (zO r130)]) E S132 zcw_yX12_limit zw_8_111 zw_8_112 zw_8_110 zck_12.1 rfl g134 (Mo_limit_c l G fu top L M131 x2 (zX xs (w32 (x4 + 1))) hx2 (inR_zX _ _) er135) (zrm_law (by decide) (by decide)) ⟨by show _ ≤ 601024; omega, by show _ ≤ 7293034; omega⟩ rfl (by simp [zR_cat, zcat_I, zcat_J, zcat_S]) hl.size rfl (Lw_dc4.at 36 rfl) (fun H locs hr135 S137 => ?_)
  refine r_icmp_eq (tgt := 1497) E hr130 hr135 (Lw_dc4.at 37 rfl) (by decide) (fun q => ?_) (fun q => ?_)
  · have h := ite_t h q
    obtain ⟨v138, ev138, h⟩ := lt1_e h
    have hv138 := inR_eq ev138 (inR_w32 _)
    refine u_iinc (y := v138) (vs' := [some (.ref b), some (zR G.2.2.1 x1), some (zR G.2.2.1 x2), some (zR G.2.2.1 x3), some (.int (zO v138)), none, none]) E ev138 (Lw_dc19.at 5 rfl) hl rfl (by decide) rfl (fun ls hl => ?_)
    refine r_goto (tgt := 23) E (Lw_dc19.at 6 rfl) (by decide) ?_
    exact hk _ _ _ x1 x2 x3 v138 hx1 hx2 hx3 hv138 _ _ _ _ _ S137 (hl.sub (And.intro rfl (And.intro rfl (And.intro rfl (And.intro rfl (And.intro rfl True.intro)))))) (by omega) (by omega) h
  · have h := ite_f h q
    refine r_iconst E (Lw_dc4.at 38 rfl) ?_
    exact absurd (Option.some.inj h) (by decide)
theorem Lw_c523_w (E : zEv p m c code 7 s #[Value.ref b] "LaterLivesLaw" meth ret G) (hX : va_X b Ln xs s s.heap) (hbl : b < s.heap.size) (hB : G.2.2.1 + 1 = s.heap.size) (hLn : Ln ≤ 3072) (hlf : l.stackTraces = false) {k : Int → zL → zM → Int → Int → Int → Int → Option Int} (hk : ∀ (top : Int) (L : zL) (M : zM) (x1 x2 x3 x4 : Int), InR x1 → InR x2 → InR x3 → InR x4 → ∀ (H : Heap) (locs : List Loc) (ls : Array Slot) (cN sN : Nat), zS G top L M s H locs → zLV ls 7 [some (.ref b), some (zR G.2.2.1 x1), some (zR G.2.2.1 x2), some (zR G.2.2.1 x3), some (.int (zO x4)), none, none] → 6 * (cN : Int) + 7 * ((Ln : Int) - x4) ≤ 3606144 ∧ x4 ≤ (Ln : Int) → 6 * (sN : Int) + 3611 * ((Ln : Int) - x4) ≤ 43758204 → k top L M x1 x2 x3 x4 = some 1 → W p l e room_1 s m #[Value.ref b] below meth c H locs cN sN (lw_Z below #[Value.ref b] s) (F0 m 23 ls [])) {top : Int} {L : zL} {M : zM} {x1 x2 x3 x4 : Int} {H : Heap} {locs : List Loc} {ls : Array Slot} {cN sN : Nat} (hx1 : InR x1) (hx2 : InR x2) (hx3 : InR x3) (hx4 : InR x4) (S : zS G top L M s H locs) (hl : zLV ls 7 [some (.ref b), some (zR G.2.2.1 x1), some (zR G.2.2.1 x2), some (zR G.2.2.1 x3), some (.int (zO x4)), none, none]) (hc : 6 * (cN : Int) + 7 * ((Ln : Int) - x4) ≤ 3606144 ∧ x4 ≤ (Ln : Int)) (hs : 6 * (sN : Int) + 3611 * ((Ln : Int) - x4) ≤ 43758204) (hi : x4 ≤ (Ln : Int) - 6) (h : Lw_c523 fu (zX xs) Ln k top L M x1 x2 x3 x4 = some 1) : W p l e room_1 s m #[Value.ref b] below meth c H locs cN sN (lw_Z below #[Value.ref b] s) (F0 m 523 ls []) := by
  unfold Lw_c523 at h
  have e6 : w32 (x4 + 6) = x4 + 6 := w32_id ⟨by omega, by omega⟩
  refine u_al_n (x := x1) E (Lw_dc4.at 40 rfl) hl rfl ?_
  refine r_aloadS_n E (Lw_dc4.at 41 rfl) hl rfl ?_
  refine u_il (x := x4) E (Lw_dc4.at 42 rfl) hl rfl ?_
  refine r_iconst E (Lw_dc4.at 43 rfl) ?_
  refine r_iadd E (Lw_dc4.at 44 rfl) ?_
  obtain ⟨g140, h⟩ := ite_e h
  refine u_sld E hX hbl hB (by omega) S g140 (Lw_dc4.at 45 rfl) ?_
  obtain ⟨g141, h⟩ := ite_e h
  obtain ⟨r142, er142, h⟩ := bd1_e h
  refine u_cVI (As := [.int (zO (zX xs (w32 (x4 + 1))))]) (rest := []) E S zcw_yX11_rule zw_4_175 zw_4_176 zw_4_174 zck_11.1 rfl g141 (Lx_rule_c l G fu top L M x1 (zX xs (w32 (x4 + 1))) hx1 (inR_zX _ _) er142) (zrm_law (by decide) (by decide)) ⟨by show _ ≤ 601024; omega, by show _ ≤ 7293034; omega⟩ rfl (Nat.zero_le 8) hl.size rfl (Lw_dc4.at 46 rfl) (fun H locs hr142 S143 => ?_)
  refine u_al_n (x := x2) E (Lw_dc4.at 47 rfl) hl rfl ?_
  refine r_aloadS_n E (Lw_dc5.at 0 rfl) hl rfl ?_
  refine u_il (x := x4) E (Lw_dc5.at 1 rfl) hl rfl ?_
  refine r_iconst E (Lw_dc5.at 2 rfl) ?_
  refine r_iadd E (Lw_dc5.at 3 rfl) ?_
  obtain ⟨g144, h⟩ := ite_e h
  refine u_sld E hX hbl hB (by omega) S143 g144 (Lw_dc5.at 4 rfl) ?_
  obtain ⟨g145, h⟩ := ite_e h
  obtain ⟨M147, r146, er146, h⟩ := bd2_e h
  refine u_cVI (As := [.int (zO (zX xs (w32 (x4 + 1))))]) (rest := [.int (zO r142)]) E S143 zcw_yX12_rule zw_8_115 zw_8_116 zw_8_114 zck_12.1 rfl g145 (Mo_rule_c l G fu top L M x2 (zX xs (w32 (x4 + 1))) hx2 (inR_zX _ _) er146) (zrm_law (by decide) (by decide)) ⟨by show _ ≤ 601024; omega, by show _ ≤ 7293034; omega⟩ rfl (by simp [zR_cat, zcat_I, zcat_J, zcat_S]) hl.size rfl (Lw_dc5.at 5 rfl) (fun H locs hr146 S148 => ?_)
  refine r_icmp_eq (tgt := 1497) E hr142 hr146 (Lw_dc5.at 6 rfl) (by decide) (fun q => ?_) (fun q => ?_)
  · have h := ite_t h q
    obtain ⟨v149, ev149, h⟩ := lt1_e h
    have hv149 := inR_eq ev149 (inR_w32 _)
    refine u_iinc (y := v149) (vs' := [some (.ref b), some (zR G.2.2.1 x1), some (zR G.2.2.1 x2), some (zR G.2.2.1 x3), some (.int (zO v149)), none, none]) E ev149 (Lw_dc19.at 5 rfl) hl rfl (by decide) rfl (fun ls hl => ?_)
    refine r_goto (tgt := 23) E (Lw_dc19.at 6 rfl) (by decide) ?_
    exact hk _ _ _ x1 x2 x3 v149 hx1 hx2 hx3 hv149 _ _ _ _ _ S148 (hl.sub (And.intro rfl (And.intro rfl (And.intro rfl (And.intro rfl (And.intro rfl True.intro)))))) (by omega) (by omega) h
  · have h := ite_f h q
    refine r_iconst E (Lw_dc5.at 7 rfl) ?_
    exact absurd (Option.some.inj h) (by decide)
theorem Lw_c548_w (E : zEv p m c code 7 s #[Value.ref b] "LaterLivesLaw" meth ret G) (hX : va_X b Ln xs s s.heap) (hbl : b < s.heap.size) (hB : G.2.2.1 + 1 = s.heap.size) (hLn : Ln ≤ 3072) (hlf : l.stackTraces = false) {k : Int → zL → zM → Int → Int → Int → Int → Option Int} (hk : ∀ (top : Int) (L : zL) (M : zM) (x1 x2 x3 x4 : Int), InR x1 → InR x2 → InR x3 → InR x4 → ∀ (H : Heap) (locs : List Loc) (ls : Array Slot) (cN sN : Nat), zS G top L M s H locs → zLV ls 7 [some (.ref b), some (zR G.2.2.1 x1), some (zR G.2.2.1 x2), some (zR G.2.2.1 x3), some (.int (zO x4)), none, none] → 6 * (cN : Int) + 7 * ((Ln : Int) - x4) ≤ 3606144 ∧ x4 ≤ (Ln : Int) → 6 * (sN : Int) + 3611 * ((Ln : Int) - x4) ≤ 43758204 → k top L M x1 x2 x3 x4 = some 1 → W p l e room_1 s m #[Value.ref b] below meth c H locs cN sN (lw_Z below #[Value.ref b] s) (F0 m 23 ls [])) {top : Int} {L : zL} {M : zM} {x1 x2 x3 x4 : Int} {H : Heap} {locs : List Loc} {ls : Array Slot} {cN sN : Nat} (hx1 : InR x1) (hx2 : InR x2) (hx3 : InR x3) (hx4 : InR x4) (S : zS G top L M s H locs) (hl : zLV ls 7 [some (.ref b), some (zR G.2.2.1 x1), some (zR G.2.2.1 x2), some (zR G.2.2.1 x3), some (.int (zO x4)), none, none]) (hc : 6 * (cN : Int) + 7 * ((Ln : Int) - x4) ≤ 3606144 ∧ x4 ≤ (Ln : Int)) (hs : 6 * (sN : Int) + 3611 * ((Ln : Int) - x4) ≤ 43758204) (hi : x4 ≤ (Ln : Int) - 6) (h : Lw_c548 fu (zX xs) Ln k top L M x1 x2 x3 x4 = some 1) : W p l e room_1 s m #[Value.ref b] below meth c H locs cN sN (lw_Z below #[Value.ref b] s) (F0 m 548 ls []) := by
  unfold Lw_c548 at h
  have e6 : w32 (x4 + 6) = x4 + 6 := w32_id ⟨by omega, by omega⟩
  refine u_al_n (x := x1) E (Lw_dc5.at 9 rfl) hl rfl ?_
  refine r_aloadS_n E (Lw_dc5.at 10 rfl) hl rfl ?_
  refine u_il (x := x4) E (Lw_dc5.at 11 rfl) hl rfl ?_
  refine r_iconst E (Lw_dc5.at 12 rfl) ?_
  refine r_iadd E (Lw_dc5.at 13 rfl) ?_
  obtain ⟨g151, h⟩ := ite_e h
  refine u_sld E hX hbl hB (by omega) S g151 (Lw_dc5.at 14 rfl) ?_
  refine r_aloadS_n E (Lw_dc5.at 15 rfl) hl rfl ?_
  refine u_il (x := x4) E (Lw_dc5.at 16 rfl) hl rfl ?_
  refine r_iconst E (Lw_dc5.at 17 rfl) ?_
  refine r_iadd E (Lw_dc5.at 18 rfl) ?_
  obtain ⟨g152, h⟩ := ite_e h
  refine u_sld E hX hbl hB (by omega) S g152 (Lw_dc5.at 19 rfl) ?_
  refine u_al_n (x := x3) E (Lw_dc5.at 20 rfl) hl rfl ?_
  obtain ⟨T153, L154, M155, r156, eM155, h⟩ := bd4_e h
  refine u_person (rest := []) E hlf S hx1 (inR_zX _ _) (inR_zX _ _) hx3 zw_6_127 hl.size eM155 ⟨by decide, by decide⟩ (by show _ ≤ 601024; omega) (by show _ ≤ 7293034; omega) (Nat.zero_le 8) (Lw_dc5.at 21 rfl) (fun H locs hr156 S157 => ?_)
  refine u_ist (y := r156) (vs' := [some (.ref b), some (zR G.2.2.1 x1), some (zR G.2.2.1 x2), some (zR G.2.2.1 x3), some (.int (zO x4)), some (.int (zO r156)), none]) E rfl (Lw_dc5.at 22 rfl) hl (by decide) rfl (fun ls hl => ?_)
  refine u_al_n (x := x2) E (Lw_dc5.at 23 rfl) hl rfl ?_
  refine r_aloadS_n E (Lw_dc5.at 24 rfl) hl rfl ?_
  refine u_il (x := x4) E (Lw_dc5.at 25 rfl) hl rfl ?_
  refine r_iconst E (Lw_dc5.at 26 rfl) ?_
  refine r_iadd E (Lw_dc5.at 27 rfl) ?_
  obtain ⟨g158, h⟩ := ite_e h
  refine u_sld E hX hbl hB (by omega) S157 g158 (Lw_dc5.at 28 rfl) ?_
  refine r_aloadS_n E (Lw_dc5.at 29 rfl) hl rfl ?_
  refine u_il (x := x4) E (Lw_dc5.at 30 rfl) hl rfl ?_
  refine r_iconst E (Lw_dc5.at 31 rfl) ?_
  refine r_iadd E (Lw_dc5.at 32 rfl) ?_
  obtain ⟨g159, h⟩ := ite_e h
  refine u_sld E hX hbl hB (by omega) S157 g159 (Lw_dc5.at 33 rfl) ?_
  obtain ⟨g160, h⟩ := ite_e h
  obtain ⟨M162, r161, er161, h⟩ := bd2_e h
  refine u_cVI (As := [.int (zO (zX xs (w32 (x4 + 1)))), .int (zO (zX xs (w32 (x4 + 2))))]) (rest := []) E S157 zcw_yX12_person zw_8_131 zw_8_132 zw_8_130 zck_12.1 rfl g160 (Mo_person_c l G fu T153 L154 M155 x2 (zX xs (w32 (x4 + 1))) (zX xs (w32 (x4 + 2))) hx2 (inR_zX _ _) (inR_zX _ _) er161) (zrm_law (by decide) (by decide)) ⟨by show _ ≤ 601024; omega, by show _ ≤ 7293034; omega⟩ rfl (Nat.zero_le 8) hl.size rfl (Lw_dc5.at 34 rfl) (fun H locs hr161 S163 => ?_)
  refine u_ist (y := r161) (vs' := [some (.ref b), some (zR G.2.2.1 x1), some (zR G.2.2.1 x2), some (zR G.2.2.1 x3), some (.int (zO x4)), some (.int (zO r156)), some (.int (zO r161))]) E rfl (Lw_dc5.at 35 rfl) hl (by decide) rfl (fun ls hl => ?_)
  refine u_al_n (x := x2) E (Lw_dc5.at 36 rfl) hl rfl ?_
  obtain ⟨r164, er164, h⟩ := bd1_e h
  refine u_cVI (As := []) (rest := []) E S163 zcw_yX12_thrown zw_7_119 zw_7_120 zw_7_118 zck_12.1 rfl g160 (Mo_thrown_c l G fu T153 L154 M162 x2 hx2 er164) (zrm_law (by decide) (by decide)) ⟨by show _ ≤ 601024; omega, by show _ ≤ 7293034; omega⟩ rfl (Nat.zero_le 8) hl.size rfl (Lw_dc5.at 37 rfl) (fun H locs hr164 S165 => ?_)
  refine u_il (x := r156) E (Lw_dc5.at 38 rfl) hl rfl ?_
  refine r_icmp_eq (tgt := 596) E hr164 hr156 (Lw_dc5.at 39 rfl) (by decide) (fun q => ?_) (fun q => ?_)
  · have h := ite_t h q
    refine u_il (x := r156) E (Lw_dc5.at 42 rfl) hl rfl ?_
    refine r_if_ne (tgt := 613) E hr156 (Lw_dc5.at 43 rfl) (by decide) (fun q => ?_) (fun q => ?_)
    · have h := ite_t h q
      refine u_al_n (x := x3) E (Lw_dc5.at 44 rfl) hl rfl ?_
      refine r_iconst E (Lw_dc5.at 45 rfl) ?_
      obtain ⟨g166, h⟩ := ite_e h
      obtain ⟨g167, h⟩ := ite_e h
      refine r_lald E S165 g166 g167 (Lw_dc5.at 46 rfl) ?_
      refine u_il (x := r161) E (Lw_dc5.at 47 rfl) hl rfl ?_
      refine r_i2l E hr161 (Lw_dc6.at 0 rfl) ?_
      refine r_lcmp E (Lw_dc6.at 1 rfl) ?_
      refine r_lif_eq (tgt := 613) E (S165.1.inR _ _) hr161 (Lw_dc6.at 2 rfl) (by decide) (fun q => ?_) (fun q => ?_)
      · have h := ite_t h q
        refine r_goto (tgt := 1497) E (Lw_dc6.at 5 rfl) (by decide) ?_
        obtain ⟨v168, ev168, h⟩ := lt1_e h
        have hv168 := inR_eq ev168 (inR_w32 _)
        refine u_iinc (y := v168) (vs' := [some (.ref b), some (zR G.2.2.1 x1), some (zR G.2.2.1 x2), some (zR G.2.2.1 x3), some (.int (zO v168)), some (.int (zO r156)), some (.int (zO r161))]) E ev168 (Lw_dc19.at 5 rfl) hl rfl (by decide) rfl (fun ls hl => ?_)
        refine r_goto (tgt := 23) E (Lw_dc19.at 6 rfl) (by decide) ?_
        exact hk _ _ _ x1 x2 x3 v168 hx1 hx2 hx3 hv168 _ _ _ _ _ S165 (hl.sub (And.intro rfl (And.intro rfl (And.intro rfl (And.intro rfl (And.intro rfl True.intro)))))) (by omega) (by omega) h
      · have h := ite_f h q
        refine r_iconst E (Lw_dc6.at 3 rfl) ?_
        exact absurd (Option.some.inj h) (by decide)
    · have h := ite_f h q
      refine r_goto (tgt := 1497) E (Lw_dc6.at 5 rfl) (by decide) ?_
      obtain ⟨v169, ev169, h⟩ := lt1_e h
      have hv169 := inR_eq ev169 (inR_w32 _)
      refine u_iinc (y := v169) (vs' := [some (.ref b), some (zR G.2.2.1 x1), some (zR G.2.2.1 x2), some (zR G.2.2.1 x3), some (.int (zO v169)), some (.int (zO r156)), some (.int (zO r161))]) E ev169 (Lw_dc19.at 5 rfl) hl rfl (by decide) rfl (fun ls hl => ?_)
      refine r_goto (tgt := 23) E (Lw_dc19.at 6 rfl) (by decide) ?_
      exact hk _ _ _ x1 x2 x3 v169 hx1 hx2 hx3 hv169 _ _ _ _ _ S165 (hl.sub (And.intro rfl (And.intro rfl (And.intro rfl (And.intro rfl (And.intro rfl True.intro)))))) (by omega) (by omega) h
  · have h := ite_f h q
    refine r_iconst E (Lw_dc5.at 40 rfl) ?_
    exact absurd (Option.some.inj h) (by decide)
theorem Lw_c616_w (E : zEv p m c code 7 s #[Value.ref b] "LaterLivesLaw" meth ret G) (hX : va_X b Ln xs s s.heap) (hbl : b < s.heap.size) (hB : G.2.2.1 + 1 = s.heap.size) (hLn : Ln ≤ 3072) (hlf : l.stackTraces = false) {k : Int → zL → zM → Int → Int → Int → Int → Option Int} (hk : ∀ (top : Int) (L : zL) (M : zM) (x1 x2 x3 x4 : Int), InR x1 → InR x2 → InR x3 → InR x4 → ∀ (H : Heap) (locs : List Loc) (ls : Array Slot) (cN sN : Nat), zS G top L M s H locs → zLV ls 7 [some (.ref b), some (zR G.2.2.1 x1), some (zR G.2.2.1 x2), some (zR G.2.2.1 x3), some (.int (zO x4)), none, none] → 6 * (cN : Int) + 7 * ((Ln : Int) - x4) ≤ 3606144 ∧ x4 ≤ (Ln : Int) → 6 * (sN : Int) + 3611 * ((Ln : Int) - x4) ≤ 43758204 → k top L M x1 x2 x3 x4 = some 1 → W p l e room_1 s m #[Value.ref b] below meth c H locs cN sN (lw_Z below #[Value.ref b] s) (F0 m 23 ls [])) {top : Int} {L : zL} {M : zM} {x1 x2 x3 x4 : Int} {H : Heap} {locs : List Loc} {ls : Array Slot} {cN sN : Nat} (hx1 : InR x1) (hx2 : InR x2) (hx3 : InR x3) (hx4 : InR x4) (S : zS G top L M s H locs) (hl : zLV ls 7 [some (.ref b), some (zR G.2.2.1 x1), some (zR G.2.2.1 x2), some (zR G.2.2.1 x3), some (.int (zO x4)), none, none]) (hc : 6 * (cN : Int) + 7 * ((Ln : Int) - x4) ≤ 3606144 ∧ x4 ≤ (Ln : Int)) (hs : 6 * (sN : Int) + 3611 * ((Ln : Int) - x4) ≤ 43758204) (hi : x4 ≤ (Ln : Int) - 6) (h : Lw_c616 fu (zX xs) Ln k top L M x1 x2 x3 x4 = some 1) : W p l e room_1 s m #[Value.ref b] below meth c H locs cN sN (lw_Z below #[Value.ref b] s) (F0 m 616 ls []) := by
  unfold Lw_c616 at h
  have e6 : w32 (x4 + 6) = x4 + 6 := w32_id ⟨by omega, by omega⟩
  refine u_al_n (x := x1) E (Lw_dc6.at 6 rfl) hl rfl ?_
  refine r_aloadS_n E (Lw_dc6.at 7 rfl) hl rfl ?_
  refine u_il (x := x4) E (Lw_dc6.at 8 rfl) hl rfl ?_
  refine r_iconst E (Lw_dc6.at 9 rfl) ?_
  refine r_iadd E (Lw_dc6.at 10 rfl) ?_
  obtain ⟨g171, h⟩ := ite_e h
  refine u_sld E hX hbl hB (by omega) S g171 (Lw_dc6.at 11 rfl) ?_
  refine r_aloadS_n E (Lw_dc6.at 12 rfl) hl rfl ?_
  refine u_il (x := x4) E (Lw_dc6.at 13 rfl) hl rfl ?_
  refine r_iconst E (Lw_dc6.at 14 rfl) ?_
  refine r_iadd E (Lw_dc6.at 15 rfl) ?_
  obtain ⟨g172, h⟩ := ite_e h
  refine u_sld E hX hbl hB (by omega) S g172 (Lw_dc6.at 16 rfl) ?_
  obtain ⟨g173, h⟩ := ite_e h
  obtain ⟨r174, er174, h⟩ := bd1_e h
  refine u_cVI (As := [.int (zO (zX xs (w32 (x4 + 1)))), .int (zO (zX xs (w32 (x4 + 2))))]) (rest := []) E S zcw_yX11_told zw_4_193 zw_4_194 zw_4_192 zck_11.1 rfl g173 (Lx_told_c l G fu top L M x1 (zX xs (w32 (x4 + 1))) (zX xs (w32 (x4 + 2))) hx1 (inR_zX _ _) (inR_zX _ _) er174) (zrm_law (by decide) (by decide)) ⟨by show _ ≤ 601024; omega, by show _ ≤ 7293034; omega⟩ rfl (Nat.zero_le 8) hl.size rfl (Lw_dc6.at 17 rfl) (fun H locs hr174 S175 => ?_)
  refine u_al_n (x := x2) E (Lw_dc6.at 18 rfl) hl rfl ?_
  refine r_aloadS_n E (Lw_dc6.at 19 rfl) hl rfl ?_
  refine u_il (x := x4) E (Lw_dc6.at 20 rfl) hl rfl ?_
  refine r_iconst E (Lw_dc6.at 21 rfl) ?_
  refine r_iadd E (Lw_dc6.at 22 rfl) ?_
  obtain ⟨g176, h⟩ := ite_e h
  refine u_sld E hX hbl hB (by omega) S175 g176 (Lw_dc6.at 23 rfl) ?_
  refine r_aloadS_n E (Lw_dc6.at 24 rfl) hl rfl ?_
  refine u_il (x := x4) E (Lw_dc6.at 25 rfl) hl rfl ?_
  refine r_iconst E (Lw_dc6.at 26 rfl) ?_
  refine r_iadd E (Lw_dc6.at 27 rfl) ?_
  obtain ⟨g177, h⟩ := ite_e h
  refine u_sld E hX hbl hB (by omega) S175 g177 (Lw_dc6.at 28 rfl) ?_
  obtain ⟨g178, h⟩ := ite_e h
  obtain ⟨M180, r179, er179, h⟩ := bd2_e h
  refine u_cVI (As := [.int (zO (zX xs (w32 (x4 + 1)))), .int (zO (zX xs (w32 (x4 + 2))))]) (rest := [.int (zO r174)]) E S175 zcw_yX12_told zw_8_144 zw_8_145 zw_8_143 zck_12.1 rfl g178 (Mo_told_c l G fu top L M x2 (zX xs (w32 (x4 + 1))) (zX xs (w32 (x4 + 2))) hx2 (inR_zX _ _) (inR_zX _ _) er179) (zrm_law (by decide) (by decide)) ⟨by show _ ≤ 601024; omega, by show _ ≤ 7293034; omega⟩ rfl (by simp [zR_cat, zcat_I, zcat_J, zcat_S]) hl.size rfl (Lw_dc6.at 29 rfl) (fun H locs hr179 S181 => ?_)
  refine r_icmp_eq (tgt := 1497) E hr174 hr179 (Lw_dc6.at 30 rfl) (by decide) (fun q => ?_) (fun q => ?_)
  · have h := ite_t h q
    obtain ⟨v182, ev182, h⟩ := lt1_e h
    have hv182 := inR_eq ev182 (inR_w32 _)
    refine u_iinc (y := v182) (vs' := [some (.ref b), some (zR G.2.2.1 x1), some (zR G.2.2.1 x2), some (zR G.2.2.1 x3), some (.int (zO v182)), none, none]) E ev182 (Lw_dc19.at 5 rfl) hl rfl (by decide) rfl (fun ls hl => ?_)
    refine r_goto (tgt := 23) E (Lw_dc19.at 6 rfl) (by decide) ?_
    exact hk _ _ _ x1 x2 x3 v182 hx1 hx2 hx3 hv182 _ _ _ _ _ S181 (hl.sub (And.intro rfl (And.intro rfl (And.intro rfl (And.intro rfl (And.intro rfl True.intro)))))) (by omega) (by omega) h
  · have h := ite_f h q
    refine r_iconst E (Lw_dc6.at 31 rfl) ?_
    exact absurd (Option.some.inj h) (by decide)
theorem Lw_c653_w (E : zEv p m c code 7 s #[Value.ref b] "LaterLivesLaw" meth ret G) (hX : va_X b Ln xs s s.heap) (hbl : b < s.heap.size) (hB : G.2.2.1 + 1 = s.heap.size) (hLn : Ln ≤ 3072) (hlf : l.stackTraces = false) {k : Int → zL → zM → Int → Int → Int → Int → Option Int} (hk : ∀ (top : Int) (L : zL) (M : zM) (x1 x2 x3 x4 : Int), InR x1 → InR x2 → InR x3 → InR x4 → ∀ (H : Heap) (locs : List Loc) (ls : Array Slot) (cN sN : Nat), zS G top L M s H locs → zLV ls 7 [some (.ref b), some (zR G.2.2.1 x1), some (zR G.2.2.1 x2), some (zR G.2.2.1 x3), some (.int (zO x4)), none, none] → 6 * (cN : Int) + 7 * ((Ln : Int) - x4) ≤ 3606144 ∧ x4 ≤ (Ln : Int) → 6 * (sN : Int) + 3611 * ((Ln : Int) - x4) ≤ 43758204 → k top L M x1 x2 x3 x4 = some 1 → W p l e room_1 s m #[Value.ref b] below meth c H locs cN sN (lw_Z below #[Value.ref b] s) (F0 m 23 ls [])) {top : Int} {L : zL} {M : zM} {x1 x2 x3 x4 : Int} {H : Heap} {locs : List Loc} {ls : Array Slot} {cN sN : Nat} (hx1 : InR x1) (hx2 : InR x2) (hx3 : InR x3) (hx4 : InR x4) (S : zS G top L M s H locs) (hl : zLV ls 7 [some (.ref b), some (zR G.2.2.1 x1), some (zR G.2.2.1 x2), some (zR G.2.2.1 x3), some (.int (zO x4)), none, none]) (hc : 6 * (cN : Int) + 7 * ((Ln : Int) - x4) ≤ 3606144 ∧ x4 ≤ (Ln : Int)) (hs : 6 * (sN : Int) + 3611 * ((Ln : Int) - x4) ≤ 43758204) (hi : x4 ≤ (Ln : Int) - 6) (h : Lw_c653 fu (zX xs) Ln k top L M x1 x2 x3 x4 = some 1) : W p l e room_1 s m #[Value.ref b] below meth c H locs cN sN (lw_Z below #[Value.ref b] s) (F0 m 653 ls []) := by
  unfold Lw_c653 at h
  have e6 : w32 (x4 + 6) = x4 + 6 := w32_id ⟨by omega, by omega⟩
  refine u_al_n (x := x1) E (Lw_dc6.at 33 rfl) hl rfl ?_
  refine r_aloadS_n E (Lw_dc6.at 34 rfl) hl rfl ?_
  refine u_il (x := x4) E (Lw_dc6.at 35 rfl) hl rfl ?_
  refine r_iconst E (Lw_dc6.at 36 rfl) ?_
  refine r_iadd E (Lw_dc6.at 37 rfl) ?_
  obtain ⟨g184, h⟩ := ite_e h
  refine u_sld E hX hbl hB (by omega) S g184 (Lw_dc6.at 38 rfl) ?_
  refine r_aloadS_n E (Lw_dc6.at 39 rfl) hl rfl ?_
  refine u_il (x := x4) E (Lw_dc6.at 40 rfl) hl rfl ?_
  refine r_iconst E (Lw_dc6.at 41 rfl) ?_
  refine r_iadd E (Lw_dc6.at 42 rfl) ?_
  obtain ⟨g185, h⟩ := ite_e h
  refine u_sld E hX hbl hB (by omega) S g185 (Lw_dc6.at 43 rfl) ?_
  obtain ⟨g186, h⟩ := ite_e h
  obtain ⟨r187, er187, h⟩ := bd1_e h
  refine u_cVI (As := [.int (zO (zX xs (w32 (x4 + 1)))), .int (zO (zX xs (w32 (x4 + 2))))]) (rest := []) E S zcw_yX11_written zw_4_197 zw_4_198 zw_4_196 zck_11.1 rfl g186 (Lx_written_c l G fu top L M x1 (zX xs (w32 (x4 + 1))) (zX xs (w32 (x4 + 2))) hx1 (inR_zX _ _) (inR_zX _ _) er187) (zrm_law (by decide) (by decide)) ⟨by show _ ≤ 601024; omega, by show _ ≤ 7293034; omega⟩ rfl (Nat.zero_le 8) hl.size rfl (Lw_dc6.at 44 rfl) (fun H locs hr187 S188 => ?_)
  refine u_al_n (x := x2) E (Lw_dc6.at 45 rfl) hl rfl ?_
  refine r_aloadS_n E (Lw_dc6.at 46 rfl) hl rfl ?_
  refine u_il (x := x4) E (Lw_dc6.at 47 rfl) hl rfl ?_
  refine r_iconst E (Lw_dc7.at 0 rfl) ?_
  refine r_iadd E (Lw_dc7.at 1 rfl) ?_
  obtain ⟨g189, h⟩ := ite_e h
  refine u_sld E hX hbl hB (by omega) S188 g189 (Lw_dc7.at 2 rfl) ?_
  refine r_aloadS_n E (Lw_dc7.at 3 rfl) hl rfl ?_
  refine u_il (x := x4) E (Lw_dc7.at 4 rfl) hl rfl ?_
  refine r_iconst E (Lw_dc7.at 5 rfl) ?_
  refine r_iadd E (Lw_dc7.at 6 rfl) ?_
  obtain ⟨g190, h⟩ := ite_e h
  refine u_sld E hX hbl hB (by omega) S188 g190 (Lw_dc7.at 7 rfl) ?_
  obtain ⟨g191, h⟩ := ite_e h
  obtain ⟨M193, r192, er192, h⟩ := bd2_e h
  refine u_cVI (As := [.int (zO (zX xs (w32 (x4 + 1)))), .int (zO (zX xs (w32 (x4 + 2))))]) (rest := [.int (zO r187)]) E S188 zcw_yX12_written zw_8_149 zw_8_150 zw_8_148 zck_12.1 rfl g191 (Mo_written_c l G fu top L M x2 (zX xs (w32 (x4 + 1))) (zX xs (w32 (x4 + 2))) hx2 (inR_zX _ _) (inR_zX _ _) er192) (zrm_law (by decide) (by decide)) ⟨by show _ ≤ 601024; omega, by show _ ≤ 7293034; omega⟩ rfl (by simp [zR_cat, zcat_I, zcat_J, zcat_S]) hl.size rfl (Lw_dc7.at 8 rfl) (fun H locs hr192 S194 => ?_)
  refine r_icmp_eq (tgt := 1497) E hr187 hr192 (Lw_dc7.at 9 rfl) (by decide) (fun q => ?_) (fun q => ?_)
  · have h := ite_t h q
    obtain ⟨v195, ev195, h⟩ := lt1_e h
    have hv195 := inR_eq ev195 (inR_w32 _)
    refine u_iinc (y := v195) (vs' := [some (.ref b), some (zR G.2.2.1 x1), some (zR G.2.2.1 x2), some (zR G.2.2.1 x3), some (.int (zO v195)), none, none]) E ev195 (Lw_dc19.at 5 rfl) hl rfl (by decide) rfl (fun ls hl => ?_)
    refine r_goto (tgt := 23) E (Lw_dc19.at 6 rfl) (by decide) ?_
    exact hk _ _ _ x1 x2 x3 v195 hx1 hx2 hx3 hv195 _ _ _ _ _ S194 (hl.sub (And.intro rfl (And.intro rfl (And.intro rfl (And.intro rfl (And.intro rfl True.intro)))))) (by omega) (by omega) h
  · have h := ite_f h q
    refine r_iconst E (Lw_dc7.at 10 rfl) ?_
    exact absurd (Option.some.inj h) (by decide)
theorem Lw_c690_w (E : zEv p m c code 7 s #[Value.ref b] "LaterLivesLaw" meth ret G) (hX : va_X b Ln xs s s.heap) (hbl : b < s.heap.size) (hB : G.2.2.1 + 1 = s.heap.size) (hLn : Ln ≤ 3072) (hlf : l.stackTraces = false) {k : Int → zL → zM → Int → Int → Int → Int → Option Int} (hk : ∀ (top : Int) (L : zL) (M : zM) (x1 x2 x3 x4 : Int), InR x1 → InR x2 → InR x3 → InR x4 → ∀ (H : Heap) (locs : List Loc) (ls : Array Slot) (cN sN : Nat), zS G top L M s H locs → zLV ls 7 [some (.ref b), some (zR G.2.2.1 x1), some (zR G.2.2.1 x2), some (zR G.2.2.1 x3), some (.int (zO x4)), none, none] → 6 * (cN : Int) + 7 * ((Ln : Int) - x4) ≤ 3606144 ∧ x4 ≤ (Ln : Int) → 6 * (sN : Int) + 3611 * ((Ln : Int) - x4) ≤ 43758204 → k top L M x1 x2 x3 x4 = some 1 → W p l e room_1 s m #[Value.ref b] below meth c H locs cN sN (lw_Z below #[Value.ref b] s) (F0 m 23 ls [])) {top : Int} {L : zL} {M : zM} {x1 x2 x3 x4 : Int} {H : Heap} {locs : List Loc} {ls : Array Slot} {cN sN : Nat} (hx1 : InR x1) (hx2 : InR x2) (hx3 : InR x3) (hx4 : InR x4) (S : zS G top L M s H locs) (hl : zLV ls 7 [some (.ref b), some (zR G.2.2.1 x1), some (zR G.2.2.1 x2), some (zR G.2.2.1 x3), some (.int (zO x4)), none, none]) (hc : 6 * (cN : Int) + 7 * ((Ln : Int) - x4) ≤ 3606144 ∧ x4 ≤ (Ln : Int)) (hs : 6 * (sN : Int) + 3611 * ((Ln : Int) - x4) ≤ 43758204) (hi : x4 ≤ (Ln : Int) - 6) (h : Lw_c690 fu (zX xs) Ln k top L M x1 x2 x3 x4 = some 1) : W p l e room_1 s m #[Value.ref b] below meth c H locs cN sN (lw_Z below #[Value.ref b] s) (F0 m 690 ls []) := by
  unfold Lw_c690 at h
  have e6 : w32 (x4 + 6) = x4 + 6 := w32_id ⟨by omega, by omega⟩
  refine u_al_n (x := x1) E (Lw_dc7.at 12 rfl) hl rfl ?_
  refine r_aloadS_n E (Lw_dc7.at 13 rfl) hl rfl ?_
  refine u_il (x := x4) E (Lw_dc7.at 14 rfl) hl rfl ?_
  refine r_iconst E (Lw_dc7.at 15 rfl) ?_
  refine r_iadd E (Lw_dc7.at 16 rfl) ?_
  obtain ⟨g197, h⟩ := ite_e h
  refine u_sld E hX hbl hB (by omega) S g197 (Lw_dc7.at 17 rfl) ?_
  refine r_aloadS_n E (Lw_dc7.at 18 rfl) hl rfl ?_
  refine u_il (x := x4) E (Lw_dc7.at 19 rfl) hl rfl ?_
  refine r_iconst E (Lw_dc7.at 20 rfl) ?_
  refine r_iadd E (Lw_dc7.at 21 rfl) ?_
  obtain ⟨g198, h⟩ := ite_e h
  refine u_sld E hX hbl hB (by omega) S g198 (Lw_dc7.at 22 rfl) ?_
  obtain ⟨g199, h⟩ := ite_e h
  obtain ⟨M201, r200, er200, h⟩ := bd2_e h
  refine u_cVI (As := [.int (zO (zX xs (w32 (x4 + 1)))), .int (zO (zX xs (w32 (x4 + 2))))]) (rest := []) E S zcw_yX11_member zw_4_201 zw_4_202 zw_4_200 zck_11.1 rfl g199 (Lx_member_c l G fu top L M x1 (zX xs (w32 (x4 + 1))) (zX xs (w32 (x4 + 2))) hx1 (inR_zX _ _) (inR_zX _ _) er200) (zrm_law (by decide) (by decide)) ⟨by show _ ≤ 601024; omega, by show _ ≤ 7293034; omega⟩ rfl (Nat.zero_le 8) hl.size rfl (Lw_dc7.at 23 rfl) (fun H locs hr200 S202 => ?_)
  refine u_al_n (x := x2) E (Lw_dc7.at 24 rfl) hl rfl ?_
  refine r_aloadS_n E (Lw_dc7.at 25 rfl) hl rfl ?_
  refine u_il (x := x4) E (Lw_dc7.at 26 rfl) hl rfl ?_
  refine r_iconst E (Lw_dc7.at 27 rfl) ?_
  refine r_iadd E (Lw_dc7.at 28 rfl) ?_
  obtain ⟨g203, h⟩ := ite_e h
  refine u_sld E hX hbl hB (by omega) S202 g203 (Lw_dc7.at 29 rfl) ?_
  refine r_aloadS_n E (Lw_dc7.at 30 rfl) hl rfl ?_
  refine u_il (x := x4) E (Lw_dc7.at 31 rfl) hl rfl ?_
  refine r_iconst E (Lw_dc7.at 32 rfl) ?_
  refine r_iadd E (Lw_dc7.at 33 rfl) ?_
  obtain ⟨g204, h⟩ := ite_e h
  refine u_sld E hX hbl hB (by omega) S202 g204 (Lw_dc7.at 34 rfl) ?_
  obtain ⟨g205, h⟩ := ite_e h
  obtain ⟨M207, r206, er206, h⟩ := bd2_e h
  refine u_cVI (As := [.int (zO (zX xs (w32 (x4 + 1)))), .int (zO (zX xs (w32 (x4 + 2))))]) (rest := [.int (zO r200)]) E S202 zcw_yX12_member zw_8_191 zw_8_192 zw_8_190 zck_12.1 rfl g205 (Mo_member_c l G fu top L M201 x2 (zX xs (w32 (x4 + 1))) (zX xs (w32 (x4 + 2))) hx2 (inR_zX _ _) (inR_zX _ _) er206) (zrm_law (by decide) (by decide)) ⟨by show _ ≤ 601024; omega, by show _ ≤ 7293034; omega⟩ rfl (by simp [zR_cat, zcat_I, zcat_J, zcat_S]) hl.size rfl (Lw_dc7.at 35 rfl) (fun H locs hr206 S208 => ?_)
  refine r_icmp_eq (tgt := 1497) E hr200 hr206 (Lw_dc7.at 36 rfl) (by decide) (fun q => ?_) (fun q => ?_)
  · have h := ite_t h q
    obtain ⟨v209, ev209, h⟩ := lt1_e h
    have hv209 := inR_eq ev209 (inR_w32 _)
    refine u_iinc (y := v209) (vs' := [some (.ref b), some (zR G.2.2.1 x1), some (zR G.2.2.1 x2), some (zR G.2.2.1 x3), some (.int (zO v209)), none, none]) E ev209 (Lw_dc19.at 5 rfl) hl rfl (by decide) rfl (fun ls hl => ?_)
    refine r_goto (tgt := 23) E (Lw_dc19.at 6 rfl) (by decide) ?_
    exact hk _ _ _ x1 x2 x3 v209 hx1 hx2 hx3 hv209 _ _ _ _ _ S208 (hl.sub (And.intro rfl (And.intro rfl (And.intro rfl (And.intro rfl (And.intro rfl True.intro)))))) (by omega) (by omega) h
  · have h := ite_f h q
    refine r_iconst E (Lw_dc7.at 37 rfl) ?_
    exact absurd (Option.some.inj h) (by decide)
theorem Lw_c727_w (E : zEv p m c code 7 s #[Value.ref b] "LaterLivesLaw" meth ret G) (hX : va_X b Ln xs s s.heap) (hbl : b < s.heap.size) (hB : G.2.2.1 + 1 = s.heap.size) (hLn : Ln ≤ 3072) (hlf : l.stackTraces = false) {k : Int → zL → zM → Int → Int → Int → Int → Option Int} (hk : ∀ (top : Int) (L : zL) (M : zM) (x1 x2 x3 x4 : Int), InR x1 → InR x2 → InR x3 → InR x4 → ∀ (H : Heap) (locs : List Loc) (ls : Array Slot) (cN sN : Nat), zS G top L M s H locs → zLV ls 7 [some (.ref b), some (zR G.2.2.1 x1), some (zR G.2.2.1 x2), some (zR G.2.2.1 x3), some (.int (zO x4)), none, none] → 6 * (cN : Int) + 7 * ((Ln : Int) - x4) ≤ 3606144 ∧ x4 ≤ (Ln : Int) → 6 * (sN : Int) + 3611 * ((Ln : Int) - x4) ≤ 43758204 → k top L M x1 x2 x3 x4 = some 1 → W p l e room_1 s m #[Value.ref b] below meth c H locs cN sN (lw_Z below #[Value.ref b] s) (F0 m 23 ls [])) {top : Int} {L : zL} {M : zM} {x1 x2 x3 x4 : Int} {H : Heap} {locs : List Loc} {ls : Array Slot} {cN sN : Nat} (hx1 : InR x1) (hx2 : InR x2) (hx3 : InR x3) (hx4 : InR x4) (S : zS G top L M s H locs) (hl : zLV ls 7 [some (.ref b), some (zR G.2.2.1 x1), some (zR G.2.2.1 x2), some (zR G.2.2.1 x3), some (.int (zO x4)), none, none]) (hc : 6 * (cN : Int) + 7 * ((Ln : Int) - x4) ≤ 3606144 ∧ x4 ≤ (Ln : Int)) (hs : 6 * (sN : Int) + 3611 * ((Ln : Int) - x4) ≤ 43758204) (hi : x4 ≤ (Ln : Int) - 6) (h : Lw_c727 fu (zX xs) Ln k top L M x1 x2 x3 x4 = some 1) : W p l e room_1 s m #[Value.ref b] below meth c H locs cN sN (lw_Z below #[Value.ref b] s) (F0 m 727 ls []) := by
  unfold Lw_c727 at h
  have e6 : w32 (x4 + 6) = x4 + 6 := w32_id ⟨by omega, by omega⟩
  refine u_al_n (x := x1) E (Lw_dc7.at 39 rfl) hl rfl ?_
  refine r_aloadS_n E (Lw_dc7.at 40 rfl) hl rfl ?_
  refine u_il (x := x4) E (Lw_dc7.at 41 rfl) hl rfl ?_
  refine r_iconst E (Lw_dc7.at 42 rfl) ?_
  refine r_iadd E (Lw_dc7.at 43 rfl) ?_
  obtain ⟨g211, h⟩ := ite_e h
  refine u_sld E hX hbl hB (by omega) S g211 (Lw_dc7.at 44 rfl) ?_
  refine r_aloadS_n E (Lw_dc7.at 45 rfl) hl rfl ?_
  refine u_il (x := x4) E (Lw_dc7.at 46 rfl) hl rfl ?_
  refine r_iconst E (Lw_dc7.at 47 rfl) ?_
  refine r_iadd E (Lw_dc8.at 0 rfl) ?_
  obtain ⟨g212, h⟩ := ite_e h
  refine u_sld E hX hbl hB (by omega) S g212 (Lw_dc8.at 1 rfl) ?_
  obtain ⟨g213, h⟩ := ite_e h
  obtain ⟨M215, r214, er214, h⟩ := bd2_e h
  refine u_cVI (As := [.int (zO (zX xs (w32 (x4 + 1)))), .int (zO (zX xs (w32 (x4 + 2))))]) (rest := []) E S zcw_yX11_vests zw_5_38 zw_5_39 zw_5_37 zck_11.1 rfl g213 (Lx_vests_c l G fu top L M x1 (zX xs (w32 (x4 + 1))) (zX xs (w32 (x4 + 2))) hx1 (inR_zX _ _) (inR_zX _ _) er214) (zrm_law (by decide) (by decide)) ⟨by show _ ≤ 601024; omega, by show _ ≤ 7293034; omega⟩ rfl (Nat.zero_le 8) hl.size rfl (Lw_dc8.at 2 rfl) (fun H locs hr214 S216 => ?_)
  refine u_al_n (x := x2) E (Lw_dc8.at 3 rfl) hl rfl ?_
  refine r_aloadS_n E (Lw_dc8.at 4 rfl) hl rfl ?_
  refine u_il (x := x4) E (Lw_dc8.at 5 rfl) hl rfl ?_
  refine r_iconst E (Lw_dc8.at 6 rfl) ?_
  refine r_iadd E (Lw_dc8.at 7 rfl) ?_
  obtain ⟨g217, h⟩ := ite_e h
  refine u_sld E hX hbl hB (by omega) S216 g217 (Lw_dc8.at 8 rfl) ?_
  refine r_aloadS_n E (Lw_dc8.at 9 rfl) hl rfl ?_
  refine u_il (x := x4) E (Lw_dc8.at 10 rfl) hl rfl ?_
  refine r_iconst E (Lw_dc8.at 11 rfl) ?_
  refine r_iadd E (Lw_dc8.at 12 rfl) ?_
  obtain ⟨g218, h⟩ := ite_e h
  refine u_sld E hX hbl hB (by omega) S216 g218 (Lw_dc8.at 13 rfl) ?_
  obtain ⟨g219, h⟩ := ite_e h
  obtain ⟨M221, r220, er220, h⟩ := bd2_e h
  refine u_cVI (As := [.int (zO (zX xs (w32 (x4 + 1)))), .int (zO (zX xs (w32 (x4 + 2))))]) (rest := [.int (zO r214)]) E S216 zcw_yX12_vests zw_9_5 zw_9_6 zw_9_4 zck_12.1 rfl g219 (Mo_vests_c l G fu top L M215 x2 (zX xs (w32 (x4 + 1))) (zX xs (w32 (x4 + 2))) hx2 (inR_zX _ _) (inR_zX _ _) er220) (zrm_law (by decide) (by decide)) ⟨by show _ ≤ 601024; omega, by show _ ≤ 7293034; omega⟩ rfl (by simp [zR_cat, zcat_I, zcat_J, zcat_S]) hl.size rfl (Lw_dc8.at 14 rfl) (fun H locs hr220 S222 => ?_)
  refine r_icmp_eq (tgt := 1497) E hr214 hr220 (Lw_dc8.at 15 rfl) (by decide) (fun q => ?_) (fun q => ?_)
  · have h := ite_t h q
    obtain ⟨v223, ev223, h⟩ := lt1_e h
    have hv223 := inR_eq ev223 (inR_w32 _)
    refine u_iinc (y := v223) (vs' := [some (.ref b), some (zR G.2.2.1 x1), some (zR G.2.2.1 x2), some (zR G.2.2.1 x3), some (.int (zO v223)), none, none]) E ev223 (Lw_dc19.at 5 rfl) hl rfl (by decide) rfl (fun ls hl => ?_)
    refine r_goto (tgt := 23) E (Lw_dc19.at 6 rfl) (by decide) ?_
    exact hk _ _ _ x1 x2 x3 v223 hx1 hx2 hx3 hv223 _ _ _ _ _ S222 (hl.sub (And.intro rfl (And.intro rfl (And.intro rfl (And.intro rfl (And.intro rfl True.intro)))))) (by omega) (by omega) h
  · have h := ite_f h q
    refine r_iconst E (Lw_dc8.at 16 rfl) ?_
    exact absurd (Option.some.inj h) (by decide)
theorem Lw_c764_w (E : zEv p m c code 7 s #[Value.ref b] "LaterLivesLaw" meth ret G) (hX : va_X b Ln xs s s.heap) (hbl : b < s.heap.size) (hB : G.2.2.1 + 1 = s.heap.size) (hLn : Ln ≤ 3072) (hlf : l.stackTraces = false) {k : Int → zL → zM → Int → Int → Int → Int → Option Int} (hk : ∀ (top : Int) (L : zL) (M : zM) (x1 x2 x3 x4 : Int), InR x1 → InR x2 → InR x3 → InR x4 → ∀ (H : Heap) (locs : List Loc) (ls : Array Slot) (cN sN : Nat), zS G top L M s H locs → zLV ls 7 [some (.ref b), some (zR G.2.2.1 x1), some (zR G.2.2.1 x2), some (zR G.2.2.1 x3), some (.int (zO x4)), none, none] → 6 * (cN : Int) + 7 * ((Ln : Int) - x4) ≤ 3606144 ∧ x4 ≤ (Ln : Int) → 6 * (sN : Int) + 3611 * ((Ln : Int) - x4) ≤ 43758204 → k top L M x1 x2 x3 x4 = some 1 → W p l e room_1 s m #[Value.ref b] below meth c H locs cN sN (lw_Z below #[Value.ref b] s) (F0 m 23 ls [])) {top : Int} {L : zL} {M : zM} {x1 x2 x3 x4 : Int} {H : Heap} {locs : List Loc} {ls : Array Slot} {cN sN : Nat} (hx1 : InR x1) (hx2 : InR x2) (hx3 : InR x3) (hx4 : InR x4) (S : zS G top L M s H locs) (hl : zLV ls 7 [some (.ref b), some (zR G.2.2.1 x1), some (zR G.2.2.1 x2), some (zR G.2.2.1 x3), some (.int (zO x4)), none, none]) (hc : 6 * (cN : Int) + 7 * ((Ln : Int) - x4) ≤ 3606144 ∧ x4 ≤ (Ln : Int)) (hs : 6 * (sN : Int) + 3611 * ((Ln : Int) - x4) ≤ 43758204) (hi : x4 ≤ (Ln : Int) - 6) (h : Lw_c764 fu (zX xs) Ln k top L M x1 x2 x3 x4 = some 1) : W p l e room_1 s m #[Value.ref b] below meth c H locs cN sN (lw_Z below #[Value.ref b] s) (F0 m 764 ls []) := by
  unfold Lw_c764 at h
  have e6 : w32 (x4 + 6) = x4 + 6 := w32_id ⟨by omega, by omega⟩
  refine u_al_n (x := x1) E (Lw_dc8.at 18 rfl) hl rfl ?_
  refine r_aloadS_n E (Lw_dc8.at 19 rfl) hl rfl ?_
  refine u_il (x := x4) E (Lw_dc8.at 20 rfl) hl rfl ?_
  refine r_iconst E (Lw_dc8.at 21 rfl) ?_
  refine r_iadd E (Lw_dc8.at 22 rfl) ?_
  obtain ⟨g225, h⟩ := ite_e h
  refine u_sld E hX hbl hB (by omega) S g225 (Lw_dc8.at 23 rfl) ?_
  refine r_aloadS_n E (Lw_dc8.at 24 rfl) hl rfl ?_
  refine u_il (x := x4) E (Lw_dc8.at 25 rfl) hl rfl ?_
  refine r_iconst E (Lw_dc8.at 26 rfl) ?_
  refine r_iadd E (Lw_dc8.at 27 rfl) ?_
  obtain ⟨g226, h⟩ := ite_e h
  refine u_sld E hX hbl hB (by omega) S g226 (Lw_dc8.at 28 rfl) ?_
  obtain ⟨g227, h⟩ := ite_e h
  obtain ⟨M229, r228, er228, h⟩ := bd2_e h
  refine u_cVI (As := [.int (zO (zX xs (w32 (x4 + 1)))), .int (zO (zX xs (w32 (x4 + 2))))]) (rest := []) E S zcw_yX11_closes zw_5_45 zw_5_46 zw_5_44 zck_11.1 rfl g227 (Lx_closes_c l G fu top L M x1 (zX xs (w32 (x4 + 1))) (zX xs (w32 (x4 + 2))) hx1 (inR_zX _ _) (inR_zX _ _) er228) (zrm_law (by decide) (by decide)) ⟨by show _ ≤ 601024; omega, by show _ ≤ 7293034; omega⟩ rfl (Nat.zero_le 8) hl.size rfl (Lw_dc8.at 29 rfl) (fun H locs hr228 S230 => ?_)
  refine u_al_n (x := x2) E (Lw_dc8.at 30 rfl) hl rfl ?_
  refine r_aloadS_n E (Lw_dc8.at 31 rfl) hl rfl ?_
  refine u_il (x := x4) E (Lw_dc8.at 32 rfl) hl rfl ?_
  refine r_iconst E (Lw_dc8.at 33 rfl) ?_
  refine r_iadd E (Lw_dc8.at 34 rfl) ?_
  obtain ⟨g231, h⟩ := ite_e h
  refine u_sld E hX hbl hB (by omega) S230 g231 (Lw_dc8.at 35 rfl) ?_
  refine r_aloadS_n E (Lw_dc8.at 36 rfl) hl rfl ?_
  refine u_il (x := x4) E (Lw_dc8.at 37 rfl) hl rfl ?_
  refine r_iconst E (Lw_dc8.at 38 rfl) ?_
  refine r_iadd E (Lw_dc8.at 39 rfl) ?_
  obtain ⟨g232, h⟩ := ite_e h
  refine u_sld E hX hbl hB (by omega) S230 g232 (Lw_dc8.at 40 rfl) ?_
  obtain ⟨g233, h⟩ := ite_e h
  obtain ⟨M235, r234, er234, h⟩ := bd2_e h
  refine u_cVI (As := [.int (zO (zX xs (w32 (x4 + 1)))), .int (zO (zX xs (w32 (x4 + 2))))]) (rest := [.int (zO r228)]) E S230 zcw_yX12_closes zw_9_13 zw_9_14 zw_9_12 zck_12.1 rfl g233 (Mo_closes_c l G fu top L M229 x2 (zX xs (w32 (x4 + 1))) (zX xs (w32 (x4 + 2))) hx2 (inR_zX _ _) (inR_zX _ _) er234) (zrm_law (by decide) (by decide)) ⟨by show _ ≤ 601024; omega, by show _ ≤ 7293034; omega⟩ rfl (by simp [zR_cat, zcat_I, zcat_J, zcat_S]) hl.size rfl (Lw_dc8.at 41 rfl) (fun H locs hr234 S236 => ?_)
  refine r_icmp_eq (tgt := 1497) E hr228 hr234 (Lw_dc8.at 42 rfl) (by decide) (fun q => ?_) (fun q => ?_)
  · have h := ite_t h q
    obtain ⟨v237, ev237, h⟩ := lt1_e h
    have hv237 := inR_eq ev237 (inR_w32 _)
    refine u_iinc (y := v237) (vs' := [some (.ref b), some (zR G.2.2.1 x1), some (zR G.2.2.1 x2), some (zR G.2.2.1 x3), some (.int (zO v237)), none, none]) E ev237 (Lw_dc19.at 5 rfl) hl rfl (by decide) rfl (fun ls hl => ?_)
    refine r_goto (tgt := 23) E (Lw_dc19.at 6 rfl) (by decide) ?_
    exact hk _ _ _ x1 x2 x3 v237 hx1 hx2 hx3 hv237 _ _ _ _ _ S236 (hl.sub (And.intro rfl (And.intro rfl (And.intro rfl (And.intro rfl (And.intro rfl True.intro)))))) (by omega) (by omega) h
  · have h := ite_f h q
    refine r_iconst E (Lw_dc8.at 43 rfl) ?_
    exact absurd (Option.some.inj h) (by decide)
theorem Lw_c801_w (E : zEv p m c code 7 s #[Value.ref b] "LaterLivesLaw" meth ret G) (hX : va_X b Ln xs s s.heap) (hbl : b < s.heap.size) (hB : G.2.2.1 + 1 = s.heap.size) (hLn : Ln ≤ 3072) (hlf : l.stackTraces = false) {k : Int → zL → zM → Int → Int → Int → Int → Option Int} (hk : ∀ (top : Int) (L : zL) (M : zM) (x1 x2 x3 x4 : Int), InR x1 → InR x2 → InR x3 → InR x4 → ∀ (H : Heap) (locs : List Loc) (ls : Array Slot) (cN sN : Nat), zS G top L M s H locs → zLV ls 7 [some (.ref b), some (zR G.2.2.1 x1), some (zR G.2.2.1 x2), some (zR G.2.2.1 x3), some (.int (zO x4)), none, none] → 6 * (cN : Int) + 7 * ((Ln : Int) - x4) ≤ 3606144 ∧ x4 ≤ (Ln : Int) → 6 * (sN : Int) + 3611 * ((Ln : Int) - x4) ≤ 43758204 → k top L M x1 x2 x3 x4 = some 1 → W p l e room_1 s m #[Value.ref b] below meth c H locs cN sN (lw_Z below #[Value.ref b] s) (F0 m 23 ls [])) {top : Int} {L : zL} {M : zM} {x1 x2 x3 x4 : Int} {H : Heap} {locs : List Loc} {ls : Array Slot} {cN sN : Nat} (hx1 : InR x1) (hx2 : InR x2) (hx3 : InR x3) (hx4 : InR x4) (S : zS G top L M s H locs) (hl : zLV ls 7 [some (.ref b), some (zR G.2.2.1 x1), some (zR G.2.2.1 x2), some (zR G.2.2.1 x3), some (.int (zO x4)), none, none]) (hc : 6 * (cN : Int) + 7 * ((Ln : Int) - x4) ≤ 3606144 ∧ x4 ≤ (Ln : Int)) (hs : 6 * (sN : Int) + 3611 * ((Ln : Int) - x4) ≤ 43758204) (hi : x4 ≤ (Ln : Int) - 6) (h : Lw_c801 fu (zX xs) Ln k top L M x1 x2 x3 x4 = some 1) : W p l e room_1 s m #[Value.ref b] below meth c H locs cN sN (lw_Z below #[Value.ref b] s) (F0 m 801 ls []) := by
  unfold Lw_c801 at h
  have e6 : w32 (x4 + 6) = x4 + 6 := w32_id ⟨by omega, by omega⟩
  refine u_al_n (x := x1) E (Lw_dc8.at 45 rfl) hl rfl ?_
  refine r_aloadS_n E (Lw_dc8.at 46 rfl) hl rfl ?_
  refine u_il (x := x4) E (Lw_dc8.at 47 rfl) hl rfl ?_
  refine r_iconst E (Lw_dc9.at 0 rfl) ?_
  refine r_iadd E (Lw_dc9.at 1 rfl) ?_
  obtain ⟨g239, h⟩ := ite_e h
  refine u_sld E hX hbl hB (by omega) S g239 (Lw_dc9.at 2 rfl) ?_
  obtain ⟨g240, h⟩ := ite_e h
  obtain ⟨M242, r241, er241, h⟩ := bd2_e h
  refine u_cVI (As := [.int (zO (zX xs (w32 (x4 + 1))))]) (rest := []) E S zcw_yX11_state zw_5_49 zw_5_50 zw_5_48 zck_11.1 rfl g240 (Lx_state_c l G fu top L M x1 (zX xs (w32 (x4 + 1))) hx1 (inR_zX _ _) er241) (zrm_law (by decide) (by decide)) ⟨by show _ ≤ 601024; omega, by show _ ≤ 7293034; omega⟩ rfl (Nat.zero_le 8) hl.size rfl (Lw_dc9.at 3 rfl) (fun H locs hr241 S243 => ?_)
  refine u_al_n (x := x2) E (Lw_dc9.at 4 rfl) hl rfl ?_
  refine r_aloadS_n E (Lw_dc9.at 5 rfl) hl rfl ?_
  refine u_il (x := x4) E (Lw_dc9.at 6 rfl) hl rfl ?_
  refine r_iconst E (Lw_dc9.at 7 rfl) ?_
  refine r_iadd E (Lw_dc9.at 8 rfl) ?_
  obtain ⟨g244, h⟩ := ite_e h
  refine u_sld E hX hbl hB (by omega) S243 g244 (Lw_dc9.at 9 rfl) ?_
  obtain ⟨g245, h⟩ := ite_e h
  obtain ⟨M247, r246, er246, h⟩ := bd2_e h
  refine u_cVI (As := [.int (zO (zX xs (w32 (x4 + 1))))]) (rest := [.int (zO r241)]) E S243 zcw_yX12_state zw_9_21 zw_9_22 zw_9_20 zck_12.1 rfl g245 (Mo_state_c l G fu top L M242 x2 (zX xs (w32 (x4 + 1))) hx2 (inR_zX _ _) er246) (zrm_law (by decide) (by decide)) ⟨by show _ ≤ 601024; omega, by show _ ≤ 7293034; omega⟩ rfl (by simp [zR_cat, zcat_I, zcat_J, zcat_S]) hl.size rfl (Lw_dc9.at 10 rfl) (fun H locs hr246 S248 => ?_)
  refine r_icmp_eq (tgt := 1497) E hr241 hr246 (Lw_dc9.at 11 rfl) (by decide) (fun q => ?_) (fun q => ?_)
  · have h := ite_t h q
    obtain ⟨v249, ev249, h⟩ := lt1_e h
    have hv249 := inR_eq ev249 (inR_w32 _)
    refine u_iinc (y := v249) (vs' := [some (.ref b), some (zR G.2.2.1 x1), some (zR G.2.2.1 x2), some (zR G.2.2.1 x3), some (.int (zO v249)), none, none]) E ev249 (Lw_dc19.at 5 rfl) hl rfl (by decide) rfl (fun ls hl => ?_)
    refine r_goto (tgt := 23) E (Lw_dc19.at 6 rfl) (by decide) ?_
    exact hk _ _ _ x1 x2 x3 v249 hx1 hx2 hx3 hv249 _ _ _ _ _ S248 (hl.sub (And.intro rfl (And.intro rfl (And.intro rfl (And.intro rfl (And.intro rfl True.intro)))))) (by omega) (by omega) h
  · have h := ite_f h q
    refine r_iconst E (Lw_dc9.at 12 rfl) ?_
    exact absurd (Option.some.inj h) (by decide)
theorem Lw_c826_w (E : zEv p m c code 7 s #[Value.ref b] "LaterLivesLaw" meth ret G) (hX : va_X b Ln xs s s.heap) (hbl : b < s.heap.size) (hB : G.2.2.1 + 1 = s.heap.size) (hLn : Ln ≤ 3072) (hlf : l.stackTraces = false) {k : Int → zL → zM → Int → Int → Int → Int → Option Int} (hk : ∀ (top : Int) (L : zL) (M : zM) (x1 x2 x3 x4 : Int), InR x1 → InR x2 → InR x3 → InR x4 → ∀ (H : Heap) (locs : List Loc) (ls : Array Slot) (cN sN : Nat), zS G top L M s H locs → zLV ls 7 [some (.ref b), some (zR G.2.2.1 x1), some (zR G.2.2.1 x2), some (zR G.2.2.1 x3), some (.int (zO x4)), none, none] → 6 * (cN : Int) + 7 * ((Ln : Int) - x4) ≤ 3606144 ∧ x4 ≤ (Ln : Int) → 6 * (sN : Int) + 3611 * ((Ln : Int) - x4) ≤ 43758204 → k top L M x1 x2 x3 x4 = some 1 → W p l e room_1 s m #[Value.ref b] below meth c H locs cN sN (lw_Z below #[Value.ref b] s) (F0 m 23 ls [])) {top : Int} {L : zL} {M : zM} {x1 x2 x3 x4 : Int} {H : Heap} {locs : List Loc} {ls : Array Slot} {cN sN : Nat} (hx1 : InR x1) (hx2 : InR x2) (hx3 : InR x3) (hx4 : InR x4) (S : zS G top L M s H locs) (hl : zLV ls 7 [some (.ref b), some (zR G.2.2.1 x1), some (zR G.2.2.1 x2), some (zR G.2.2.1 x3), some (.int (zO x4)), none, none]) (hc : 6 * (cN : Int) + 7 * ((Ln : Int) - x4) ≤ 3606144 ∧ x4 ≤ (Ln : Int)) (hs : 6 * (sN : Int) + 3611 * ((Ln : Int) - x4) ≤ 43758204) (hi : x4 ≤ (Ln : Int) - 6) (h : Lw_c826 fu (zX xs) Ln k top L M x1 x2 x3 x4 = some 1) : W p l e room_1 s m #[Value.ref b] below meth c H locs cN sN (lw_Z below #[Value.ref b] s) (F0 m 826 ls []) := by
  unfold Lw_c826 at h
  have e6 : w32 (x4 + 6) = x4 + 6 := w32_id ⟨by omega, by omega⟩
  refine u_al_n (x := x1) E (Lw_dc9.at 14 rfl) hl rfl ?_
  refine r_aloadS_n E (Lw_dc9.at 15 rfl) hl rfl ?_
  refine u_il (x := x4) E (Lw_dc9.at 16 rfl) hl rfl ?_
  refine r_iconst E (Lw_dc9.at 17 rfl) ?_
  refine r_iadd E (Lw_dc9.at 18 rfl) ?_
  obtain ⟨g251, h⟩ := ite_e h
  refine u_sld E hX hbl hB (by omega) S g251 (Lw_dc9.at 19 rfl) ?_
  refine r_aloadS_n E (Lw_dc9.at 20 rfl) hl rfl ?_
  refine u_il (x := x4) E (Lw_dc9.at 21 rfl) hl rfl ?_
  refine r_iconst E (Lw_dc9.at 22 rfl) ?_
  refine r_iadd E (Lw_dc9.at 23 rfl) ?_
  obtain ⟨g252, h⟩ := ite_e h
  refine u_sld E hX hbl hB (by omega) S g252 (Lw_dc9.at 24 rfl) ?_
  obtain ⟨g253, h⟩ := ite_e h
  obtain ⟨M255, r254, er254, h⟩ := bd2_e h
  refine u_cVI (As := [.int (zO (zX xs (w32 (x4 + 1)))), .int (zO (zX xs (w32 (x4 + 2))))]) (rest := []) E S zcw_yX11_count zw_5_70 zw_5_71 zw_5_69 zck_11.1 rfl g253 (Lx_count_c l G fu top L M x1 (zX xs (w32 (x4 + 1))) (zX xs (w32 (x4 + 2))) hx1 (inR_zX _ _) (inR_zX _ _) er254) (zrm_law (by decide) (by decide)) ⟨by show _ ≤ 601024; omega, by show _ ≤ 7293034; omega⟩ rfl (Nat.zero_le 8) hl.size rfl (Lw_dc9.at 25 rfl) (fun H locs hr254 S256 => ?_)
  refine u_al_n (x := x2) E (Lw_dc9.at 26 rfl) hl rfl ?_
  refine r_aloadS_n E (Lw_dc9.at 27 rfl) hl rfl ?_
  refine u_il (x := x4) E (Lw_dc9.at 28 rfl) hl rfl ?_
  refine r_iconst E (Lw_dc9.at 29 rfl) ?_
  refine r_iadd E (Lw_dc9.at 30 rfl) ?_
  obtain ⟨g257, h⟩ := ite_e h
  refine u_sld E hX hbl hB (by omega) S256 g257 (Lw_dc9.at 31 rfl) ?_
  refine r_aloadS_n E (Lw_dc9.at 32 rfl) hl rfl ?_
  refine u_il (x := x4) E (Lw_dc9.at 33 rfl) hl rfl ?_
  refine r_iconst E (Lw_dc9.at 34 rfl) ?_
  refine r_iadd E (Lw_dc9.at 35 rfl) ?_
  obtain ⟨g258, h⟩ := ite_e h
  refine u_sld E hX hbl hB (by omega) S256 g258 (Lw_dc9.at 36 rfl) ?_
  obtain ⟨g259, h⟩ := ite_e h
  obtain ⟨M261, r260, er260, h⟩ := bd2_e h
  refine u_cVI (As := [.int (zO (zX xs (w32 (x4 + 1)))), .int (zO (zX xs (w32 (x4 + 2))))]) (rest := [.int (zO r254)]) E S256 zcw_yX12_count zw_9_37 zw_9_38 zw_9_36 zck_12.1 rfl g259 (Mo_count_c l G fu top L M255 x2 (zX xs (w32 (x4 + 1))) (zX xs (w32 (x4 + 2))) hx2 (inR_zX _ _) (inR_zX _ _) er260) (zrm_law (by decide) (by decide)) ⟨by show _ ≤ 601024; omega, by show _ ≤ 7293034; omega⟩ rfl (by simp [zR_cat, zcat_I, zcat_J, zcat_S]) hl.size rfl (Lw_dc9.at 37 rfl) (fun H locs hr260 S262 => ?_)
  refine r_icmp_eq (tgt := 1497) E hr254 hr260 (Lw_dc9.at 38 rfl) (by decide) (fun q => ?_) (fun q => ?_)
  · have h := ite_t h q
    obtain ⟨v263, ev263, h⟩ := lt1_e h
    have hv263 := inR_eq ev263 (inR_w32 _)
    refine u_iinc (y := v263) (vs' := [some (.ref b), some (zR G.2.2.1 x1), some (zR G.2.2.1 x2), some (zR G.2.2.1 x3), some (.int (zO v263)), none, none]) E ev263 (Lw_dc19.at 5 rfl) hl rfl (by decide) rfl (fun ls hl => ?_)
    refine r_goto (tgt := 23) E (Lw_dc19.at 6 rfl) (by decide) ?_
    exact hk _ _ _ x1 x2 x3 v263 hx1 hx2 hx3 hv263 _ _ _ _ _ S262 (hl.sub (And.intro rfl (And.intro rfl (And.intro rfl (And.intro rfl (And.intro rfl True.intro)))))) (by omega) (by omega) h
  · have h := ite_f h q
    refine r_iconst E (Lw_dc9.at 39 rfl) ?_
    exact absurd (Option.some.inj h) (by decide)
theorem Lw_c863_w (E : zEv p m c code 7 s #[Value.ref b] "LaterLivesLaw" meth ret G) (hX : va_X b Ln xs s s.heap) (hbl : b < s.heap.size) (hB : G.2.2.1 + 1 = s.heap.size) (hLn : Ln ≤ 3072) (hlf : l.stackTraces = false) {k : Int → zL → zM → Int → Int → Int → Int → Option Int} (hk : ∀ (top : Int) (L : zL) (M : zM) (x1 x2 x3 x4 : Int), InR x1 → InR x2 → InR x3 → InR x4 → ∀ (H : Heap) (locs : List Loc) (ls : Array Slot) (cN sN : Nat), zS G top L M s H locs → zLV ls 7 [some (.ref b), some (zR G.2.2.1 x1), some (zR G.2.2.1 x2), some (zR G.2.2.1 x3), some (.int (zO x4)), none, none] → 6 * (cN : Int) + 7 * ((Ln : Int) - x4) ≤ 3606144 ∧ x4 ≤ (Ln : Int) → 6 * (sN : Int) + 3611 * ((Ln : Int) - x4) ≤ 43758204 → k top L M x1 x2 x3 x4 = some 1 → W p l e room_1 s m #[Value.ref b] below meth c H locs cN sN (lw_Z below #[Value.ref b] s) (F0 m 23 ls [])) {top : Int} {L : zL} {M : zM} {x1 x2 x3 x4 : Int} {H : Heap} {locs : List Loc} {ls : Array Slot} {cN sN : Nat} (hx1 : InR x1) (hx2 : InR x2) (hx3 : InR x3) (hx4 : InR x4) (S : zS G top L M s H locs) (hl : zLV ls 7 [some (.ref b), some (zR G.2.2.1 x1), some (zR G.2.2.1 x2), some (zR G.2.2.1 x3), some (.int (zO x4)), none, none]) (hc : 6 * (cN : Int) + 7 * ((Ln : Int) - x4) ≤ 3606144 ∧ x4 ≤ (Ln : Int)) (hs : 6 * (sN : Int) + 3611 * ((Ln : Int) - x4) ≤ 43758204) (hi : x4 ≤ (Ln : Int) - 6) (h : Lw_c863 fu (zX xs) Ln k top L M x1 x2 x3 x4 = some 1) : W p l e room_1 s m #[Value.ref b] below meth c H locs cN sN (lw_Z below #[Value.ref b] s) (F0 m 863 ls []) := by
  unfold Lw_c863 at h
  have e6 : w32 (x4 + 6) = x4 + 6 := w32_id ⟨by omega, by omega⟩
  refine u_al_n (x := x1) E (Lw_dc9.at 41 rfl) hl rfl ?_
  refine r_aloadS_n E (Lw_dc9.at 42 rfl) hl rfl ?_
  refine u_il (x := x4) E (Lw_dc9.at 43 rfl) hl rfl ?_
  refine r_iconst E (Lw_dc9.at 44 rfl) ?_
  refine r_iadd E (Lw_dc9.at 45 rfl) ?_
  obtain ⟨g265, h⟩ := ite_e h
  refine u_sld E hX hbl hB (by omega) S g265 (Lw_dc9.at 46 rfl) ?_
  refine r_aloadS_n E (Lw_dc9.at 47 rfl) hl rfl ?_
  refine u_il (x := x4) E (Lw_dc10.at 0 rfl) hl rfl ?_
  refine r_iconst E (Lw_dc10.at 1 rfl) ?_
  refine r_iadd E (Lw_dc10.at 2 rfl) ?_
  obtain ⟨g266, h⟩ := ite_e h
  refine u_sld E hX hbl hB (by omega) S g266 (Lw_dc10.at 3 rfl) ?_
  refine r_aloadS_n E (Lw_dc10.at 4 rfl) hl rfl ?_
  refine u_il (x := x4) E (Lw_dc10.at 5 rfl) hl rfl ?_
  refine r_iconst E (Lw_dc10.at 6 rfl) ?_
  refine r_iadd E (Lw_dc10.at 7 rfl) ?_
  obtain ⟨g267, h⟩ := ite_e h
  refine u_sld E hX hbl hB (by omega) S g267 (Lw_dc10.at 8 rfl) ?_
  obtain ⟨g268, h⟩ := ite_e h
  obtain ⟨M270, r269, er269, h⟩ := bd2_e h
  refine u_cVI (As := [.int (zO (zX xs (w32 (x4 + 1)))), .int (zO (zX xs (w32 (x4 + 2)))), .int (zO (zX xs (w32 (x4 + 3))))]) (rest := []) E S zcw_yX11_share zw_5_75 zw_5_76 zw_5_74 zck_11.1 rfl g268 (Lx_share_c l G fu top L M x1 (zX xs (w32 (x4 + 1))) (zX xs (w32 (x4 + 2))) (zX xs (w32 (x4 + 3))) hx1 (inR_zX _ _) (inR_zX _ _) (inR_zX _ _) er269) (zrm_law (by decide) (by decide)) ⟨by show _ ≤ 601024; omega, by show _ ≤ 7293034; omega⟩ rfl (Nat.zero_le 8) hl.size rfl (Lw_dc10.at 9 rfl) (fun H locs hr269 S271 => ?_)
  refine u_al_n (x := x2) E (Lw_dc10.at 10 rfl) hl rfl ?_
  refine r_aloadS_n E (Lw_dc10.at 11 rfl) hl rfl ?_
  refine u_il (x := x4) E (Lw_dc10.at 12 rfl) hl rfl ?_
  refine r_iconst E (Lw_dc10.at 13 rfl) ?_
  refine r_iadd E (Lw_dc10.at 14 rfl) ?_
  obtain ⟨g272, h⟩ := ite_e h
  refine u_sld E hX hbl hB (by omega) S271 g272 (Lw_dc10.at 15 rfl) ?_
  refine r_aloadS_n E (Lw_dc10.at 16 rfl) hl rfl ?_
  refine u_il (x := x4) E (Lw_dc10.at 17 rfl) hl rfl ?_
  refine r_iconst E (Lw_dc10.at 18 rfl) ?_
  refine r_iadd E (Lw_dc10.at 19 rfl) ?_
  obtain ⟨g273, h⟩ := ite_e h
  refine u_sld E hX hbl hB (by omega) S271 g273 (Lw_dc10.at 20 rfl) ?_
  refine r_aloadS_n E (Lw_dc10.at 21 rfl) hl rfl ?_
  refine u_il (x := x4) E (Lw_dc10.at 22 rfl) hl rfl ?_
  refine r_iconst E (Lw_dc10.at 23 rfl) ?_
  refine r_iadd E (Lw_dc10.at 24 rfl) ?_
  obtain ⟨g274, h⟩ := ite_e h
  refine u_sld E hX hbl hB (by omega) S271 g274 (Lw_dc10.at 25 rfl) ?_
  obtain ⟨g275, h⟩ := ite_e h
  obtain ⟨M277, r276, er276, h⟩ := bd2_e h
  refine u_cVI (As := [.int (zO (zX xs (w32 (x4 + 1)))), .int (zO (zX xs (w32 (x4 + 2)))), .int (zO (zX xs (w32 (x4 + 3))))]) (rest := [.int (zO r269)]) E S271 zcw_yX12_share zw_9_41 zw_9_42 zw_9_40 zck_12.1 rfl g275 (Mo_share_c l G fu top L M270 x2 (zX xs (w32 (x4 + 1))) (zX xs (w32 (x4 + 2))) (zX xs (w32 (x4 + 3))) hx2 (inR_zX _ _) (inR_zX _ _) (inR_zX _ _) er276) (zrm_law (by decide) (by decide)) ⟨by show _ ≤ 601024; omega, by show _ ≤ 7293034; omega⟩ rfl (by simp [zR_cat, zcat_I, zcat_J, zcat_S]) hl.size rfl (Lw_dc10.at 26 rfl) (fun H locs hr276 S278 => ?_)
  refine r_icmp_eq (tgt := 1497) E hr269 hr276 (Lw_dc10.at 27 rfl) (by decide) (fun q => ?_) (fun q => ?_)
  · have h := ite_t h q
    obtain ⟨v279, ev279, h⟩ := lt1_e h
    have hv279 := inR_eq ev279 (inR_w32 _)
    refine u_iinc (y := v279) (vs' := [some (.ref b), some (zR G.2.2.1 x1), some (zR G.2.2.1 x2), some (zR G.2.2.1 x3), some (.int (zO v279)), none, none]) E ev279 (Lw_dc19.at 5 rfl) hl rfl (by decide) rfl (fun ls hl => ?_)
    refine r_goto (tgt := 23) E (Lw_dc19.at 6 rfl) (by decide) ?_
    exact hk _ _ _ x1 x2 x3 v279 hx1 hx2 hx3 hv279 _ _ _ _ _ S278 (hl.sub (And.intro rfl (And.intro rfl (And.intro rfl (And.intro rfl (And.intro rfl True.intro)))))) (by omega) (by omega) h
  · have h := ite_f h q
    refine r_iconst E (Lw_dc10.at 28 rfl) ?_
    exact absurd (Option.some.inj h) (by decide)
theorem Lw_c912_w (E : zEv p m c code 7 s #[Value.ref b] "LaterLivesLaw" meth ret G) (hX : va_X b Ln xs s s.heap) (hbl : b < s.heap.size) (hB : G.2.2.1 + 1 = s.heap.size) (hLn : Ln ≤ 3072) (hlf : l.stackTraces = false) {k : Int → zL → zM → Int → Int → Int → Int → Option Int} (hk : ∀ (top : Int) (L : zL) (M : zM) (x1 x2 x3 x4 : Int), InR x1 → InR x2 → InR x3 → InR x4 → ∀ (H : Heap) (locs : List Loc) (ls : Array Slot) (cN sN : Nat), zS G top L M s H locs → zLV ls 7 [some (.ref b), some (zR G.2.2.1 x1), some (zR G.2.2.1 x2), some (zR G.2.2.1 x3), some (.int (zO x4)), none, none] → 6 * (cN : Int) + 7 * ((Ln : Int) - x4) ≤ 3606144 ∧ x4 ≤ (Ln : Int) → 6 * (sN : Int) + 3611 * ((Ln : Int) - x4) ≤ 43758204 → k top L M x1 x2 x3 x4 = some 1 → W p l e room_1 s m #[Value.ref b] below meth c H locs cN sN (lw_Z below #[Value.ref b] s) (F0 m 23 ls [])) {top : Int} {L : zL} {M : zM} {x1 x2 x3 x4 : Int} {H : Heap} {locs : List Loc} {ls : Array Slot} {cN sN : Nat} (hx1 : InR x1) (hx2 : InR x2) (hx3 : InR x3) (hx4 : InR x4) (S : zS G top L M s H locs) (hl : zLV ls 7 [some (.ref b), some (zR G.2.2.1 x1), some (zR G.2.2.1 x2), some (zR G.2.2.1 x3), some (.int (zO x4)), none, none]) (hc : 6 * (cN : Int) + 7 * ((Ln : Int) - x4) ≤ 3606144 ∧ x4 ≤ (Ln : Int)) (hs : 6 * (sN : Int) + 3611 * ((Ln : Int) - x4) ≤ 43758204) (hi : x4 ≤ (Ln : Int) - 6) (h : Lw_c912 fu (zX xs) Ln k top L M x1 x2 x3 x4 = some 1) : W p l e room_1 s m #[Value.ref b] below meth c H locs cN sN (lw_Z below #[Value.ref b] s) (F0 m 912 ls []) := by
  unfold Lw_c912 at h
  have e6 : w32 (x4 + 6) = x4 + 6 := w32_id ⟨by omega, by omega⟩
  refine u_al_n (x := x1) E (Lw_dc10.at 30 rfl) hl rfl ?_
  obtain ⟨g281, h⟩ := ite_e h
  obtain ⟨M283, r282, er282, h⟩ := bd2_e h
  refine u_cVI (As := []) (rest := []) E S zcw_yX11_story zw_5_84 zw_5_85 zw_5_83 zck_11.1 rfl g281 (Lx_story_c l G fu top L M x1 hx1 er282) (zrm_law (by decide) (by decide)) ⟨by show _ ≤ 601024; omega, by show _ ≤ 7293034; omega⟩ rfl (Nat.zero_le 8) hl.size rfl (Lw_dc10.at 31 rfl) (fun H locs hr282 S284 => ?_)
  refine u_al_n (x := x2) E (Lw_dc10.at 32 rfl) hl rfl ?_
  obtain ⟨g285, h⟩ := ite_e h
  obtain ⟨M287, r286, er286, h⟩ := bd2_e h
  refine u_cVI (As := []) (rest := [.int (zO r282)]) E S284 zcw_yX12_story zw_9_46 zw_9_47 zw_9_45 zck_12.1 rfl g285 (Mo_story_c l G fu top L M283 x2 hx2 er286) (zrm_law (by decide) (by decide)) ⟨by show _ ≤ 601024; omega, by show _ ≤ 7293034; omega⟩ rfl (by simp [zR_cat, zcat_I, zcat_J, zcat_S]) hl.size rfl (Lw_dc10.at 33 rfl) (fun H locs hr286 S288 => ?_)
  refine r_icmp_eq (tgt := 1497) E hr282 hr286 (Lw_dc10.at 34 rfl) (by decide) (fun q => ?_) (fun q => ?_)
  · have h := ite_t h q
    obtain ⟨v289, ev289, h⟩ := lt1_e h
    have hv289 := inR_eq ev289 (inR_w32 _)
    refine u_iinc (y := v289) (vs' := [some (.ref b), some (zR G.2.2.1 x1), some (zR G.2.2.1 x2), some (zR G.2.2.1 x3), some (.int (zO v289)), none, none]) E ev289 (Lw_dc19.at 5 rfl) hl rfl (by decide) rfl (fun ls hl => ?_)
    refine r_goto (tgt := 23) E (Lw_dc19.at 6 rfl) (by decide) ?_
    exact hk _ _ _ x1 x2 x3 v289 hx1 hx2 hx3 hv289 _ _ _ _ _ S288 (hl.sub (And.intro rfl (And.intro rfl (And.intro rfl (And.intro rfl (And.intro rfl True.intro)))))) (by omega) (by omega) h
  · have h := ite_f h q
    refine r_iconst E (Lw_dc10.at 35 rfl) ?_
    exact absurd (Option.some.inj h) (by decide)
theorem Lw_c925_w (E : zEv p m c code 7 s #[Value.ref b] "LaterLivesLaw" meth ret G) (hX : va_X b Ln xs s s.heap) (hbl : b < s.heap.size) (hB : G.2.2.1 + 1 = s.heap.size) (hLn : Ln ≤ 3072) (hlf : l.stackTraces = false) {k : Int → zL → zM → Int → Int → Int → Int → Option Int} (hk : ∀ (top : Int) (L : zL) (M : zM) (x1 x2 x3 x4 : Int), InR x1 → InR x2 → InR x3 → InR x4 → ∀ (H : Heap) (locs : List Loc) (ls : Array Slot) (cN sN : Nat), zS G top L M s H locs → zLV ls 7 [some (.ref b), some (zR G.2.2.1 x1), some (zR G.2.2.1 x2), some (zR G.2.2.1 x3), some (.int (zO x4)), none, none] → 6 * (cN : Int) + 7 * ((Ln : Int) - x4) ≤ 3606144 ∧ x4 ≤ (Ln : Int) → 6 * (sN : Int) + 3611 * ((Ln : Int) - x4) ≤ 43758204 → k top L M x1 x2 x3 x4 = some 1 → W p l e room_1 s m #[Value.ref b] below meth c H locs cN sN (lw_Z below #[Value.ref b] s) (F0 m 23 ls [])) {top : Int} {L : zL} {M : zM} {x1 x2 x3 x4 : Int} {H : Heap} {locs : List Loc} {ls : Array Slot} {cN sN : Nat} (hx1 : InR x1) (hx2 : InR x2) (hx3 : InR x3) (hx4 : InR x4) (S : zS G top L M s H locs) (hl : zLV ls 7 [some (.ref b), some (zR G.2.2.1 x1), some (zR G.2.2.1 x2), some (zR G.2.2.1 x3), some (.int (zO x4)), none, none]) (hc : 6 * (cN : Int) + 7 * ((Ln : Int) - x4) ≤ 3606144 ∧ x4 ≤ (Ln : Int)) (hs : 6 * (sN : Int) + 3611 * ((Ln : Int) - x4) ≤ 43758204) (hi : x4 ≤ (Ln : Int) - 6) (h : Lw_c925 fu (zX xs) Ln k top L M x1 x2 x3 x4 = some 1) : W p l e room_1 s m #[Value.ref b] below meth c H locs cN sN (lw_Z below #[Value.ref b] s) (F0 m 925 ls []) := by
  unfold Lw_c925 at h
  have e6 : w32 (x4 + 6) = x4 + 6 := w32_id ⟨by omega, by omega⟩
  refine u_al_n (x := x1) E (Lw_dc10.at 37 rfl) hl rfl ?_
  refine r_aloadS_n E (Lw_dc10.at 38 rfl) hl rfl ?_
  refine u_il (x := x4) E (Lw_dc10.at 39 rfl) hl rfl ?_
  refine r_iconst E (Lw_dc10.at 40 rfl) ?_
  refine r_iadd E (Lw_dc10.at 41 rfl) ?_
  obtain ⟨g291, h⟩ := ite_e h
  refine u_sld E hX hbl hB (by omega) S g291 (Lw_dc10.at 42 rfl) ?_
  obtain ⟨g292, h⟩ := ite_e h
  obtain ⟨r293, er293, h⟩ := bd1_e h
  refine u_cVI (As := [.int (zO (zX xs (w32 (x4 + 1))))]) (rest := []) E S zcw_yX11_storied zw_5_105 zw_5_106 zw_5_104 zck_11.1 rfl g292 (Lx_storied_c l G fu top L M x1 (zX xs (w32 (x4 + 1))) hx1 (inR_zX _ _) er293) (zrm_law (by decide) (by decide)) ⟨by show _ ≤ 601024; omega, by show _ ≤ 7293034; omega⟩ rfl (Nat.zero_le 8) hl.size rfl (Lw_dc10.at 43 rfl) (fun H locs hr293 S294 => ?_)
  refine u_al_n (x := x2) E (Lw_dc10.at 44 rfl) hl rfl ?_
  refine r_aloadS_n E (Lw_dc10.at 45 rfl) hl rfl ?_
  refine u_il (x := x4) E (Lw_dc10.at 46 rfl) hl rfl ?_
  refine r_iconst E (Lw_dc10.at 47 rfl) ?_
  refine r_iadd E (Lw_dc11.at 0 rfl) ?_
  obtain ⟨g295, h⟩ := ite_e h
  refine u_sld E hX hbl hB (by omega) S294 g295 (Lw_dc11.at 1 rfl) ?_
  obtain ⟨g296, h⟩ := ite_e h
  obtain ⟨M298, r297, er297, h⟩ := bd2_e h
  refine u_cVI (As := [.int (zO (zX xs (w32 (x4 + 1))))]) (rest := [.int (zO r293)]) E S294 zcw_yX12_storied zw_9_54 zw_9_55 zw_9_53 zck_12.1 rfl g296 (Mo_storied_c l G fu top L M x2 (zX xs (w32 (x4 + 1))) hx2 (inR_zX _ _) er297) (zrm_law (by decide) (by decide)) ⟨by show _ ≤ 601024; omega, by show _ ≤ 7293034; omega⟩ rfl (by simp [zR_cat, zcat_I, zcat_J, zcat_S]) hl.size rfl (Lw_dc11.at 2 rfl) (fun H locs hr297 S299 => ?_)
  refine r_icmp_eq (tgt := 1497) E hr293 hr297 (Lw_dc11.at 3 rfl) (by decide) (fun q => ?_) (fun q => ?_)
  · have h := ite_t h q
    obtain ⟨v300, ev300, h⟩ := lt1_e h
    have hv300 := inR_eq ev300 (inR_w32 _)
    refine u_iinc (y := v300) (vs' := [some (.ref b), some (zR G.2.2.1 x1), some (zR G.2.2.1 x2), some (zR G.2.2.1 x3), some (.int (zO v300)), none, none]) E ev300 (Lw_dc19.at 5 rfl) hl rfl (by decide) rfl (fun ls hl => ?_)
    refine r_goto (tgt := 23) E (Lw_dc19.at 6 rfl) (by decide) ?_
    exact hk _ _ _ x1 x2 x3 v300 hx1 hx2 hx3 hv300 _ _ _ _ _ S299 (hl.sub (And.intro rfl (And.intro rfl (And.intro rfl (And.intro rfl (And.intro rfl True.intro)))))) (by omega) (by omega) h
  · have h := ite_f h q
    refine r_iconst E (Lw_dc11.at 4 rfl) ?_
    exact absurd (Option.some.inj h) (by decide)
theorem Lw_c950_w (E : zEv p m c code 7 s #[Value.ref b] "LaterLivesLaw" meth ret G) (hX : va_X b Ln xs s s.heap) (hbl : b < s.heap.size) (hB : G.2.2.1 + 1 = s.heap.size) (hLn : Ln ≤ 3072) (hlf : l.stackTraces = false) {k : Int → zL → zM → Int → Int → Int → Int → Option Int} (hk : ∀ (top : Int) (L : zL) (M : zM) (x1 x2 x3 x4 : Int), InR x1 → InR x2 → InR x3 → InR x4 → ∀ (H : Heap) (locs : List Loc) (ls : Array Slot) (cN sN : Nat), zS G top L M s H locs → zLV ls 7 [some (.ref b), some (zR G.2.2.1 x1), some (zR G.2.2.1 x2), some (zR G.2.2.1 x3), some (.int (zO x4)), none, none] → 6 * (cN : Int) + 7 * ((Ln : Int) - x4) ≤ 3606144 ∧ x4 ≤ (Ln : Int) → 6 * (sN : Int) + 3611 * ((Ln : Int) - x4) ≤ 43758204 → k top L M x1 x2 x3 x4 = some 1 → W p l e room_1 s m #[Value.ref b] below meth c H locs cN sN (lw_Z below #[Value.ref b] s) (F0 m 23 ls [])) {top : Int} {L : zL} {M : zM} {x1 x2 x3 x4 : Int} {H : Heap} {locs : List Loc} {ls : Array Slot} {cN sN : Nat} (hx1 : InR x1) (hx2 : InR x2) (hx3 : InR x3) (hx4 : InR x4) (S : zS G top L M s H locs) (hl : zLV ls 7 [some (.ref b), some (zR G.2.2.1 x1), some (zR G.2.2.1 x2), some (zR G.2.2.1 x3), some (.int (zO x4)), none, none]) (hc : 6 * (cN : Int) + 7 * ((Ln : Int) - x4) ≤ 3606144 ∧ x4 ≤ (Ln : Int)) (hs : 6 * (sN : Int) + 3611 * ((Ln : Int) - x4) ≤ 43758204) (hi : x4 ≤ (Ln : Int) - 6) (h : Lw_c950 fu (zX xs) Ln k top L M x1 x2 x3 x4 = some 1) : W p l e room_1 s m #[Value.ref b] below meth c H locs cN sN (lw_Z below #[Value.ref b] s) (F0 m 950 ls []) := by
  unfold Lw_c950 at h
  have e6 : w32 (x4 + 6) = x4 + 6 := w32_id ⟨by omega, by omega⟩
  refine u_al_n (x := x1) E (Lw_dc11.at 6 rfl) hl rfl ?_
  refine r_aloadS_n E (Lw_dc11.at 7 rfl) hl rfl ?_
  refine u_il (x := x4) E (Lw_dc11.at 8 rfl) hl rfl ?_
  refine r_iconst E (Lw_dc11.at 9 rfl) ?_
  refine r_iadd E (Lw_dc11.at 10 rfl) ?_
  obtain ⟨g302, h⟩ := ite_e h
  refine u_sld E hX hbl hB (by omega) S g302 (Lw_dc11.at 11 rfl) ?_
  obtain ⟨g303, h⟩ := ite_e h
  obtain ⟨M305, r304, er304, h⟩ := bd2_e h
  refine u_cVI (As := [.int (zO (zX xs (w32 (x4 + 1))))]) (rest := []) E S zcw_yX11_storyState zw_5_109 zw_5_110 zw_5_108 zck_11.1 rfl g303 (Lx_storyState_c l G fu top L M x1 (zX xs (w32 (x4 + 1))) hx1 (inR_zX _ _) er304) (zrm_law (by decide) (by decide)) ⟨by show _ ≤ 601024; omega, by show _ ≤ 7293034; omega⟩ rfl (Nat.zero_le 8) hl.size rfl (Lw_dc11.at 12 rfl) (fun H locs hr304 S306 => ?_)
  refine u_al_n (x := x2) E (Lw_dc11.at 13 rfl) hl rfl ?_
  refine r_aloadS_n E (Lw_dc11.at 14 rfl) hl rfl ?_
  refine u_il (x := x4) E (Lw_dc11.at 15 rfl) hl rfl ?_
  refine r_iconst E (Lw_dc11.at 16 rfl) ?_
  refine r_iadd E (Lw_dc11.at 17 rfl) ?_
  obtain ⟨g307, h⟩ := ite_e h
  refine u_sld E hX hbl hB (by omega) S306 g307 (Lw_dc11.at 18 rfl) ?_
  obtain ⟨g308, h⟩ := ite_e h
  obtain ⟨M310, r309, er309, h⟩ := bd2_e h
  refine u_cVI (As := [.int (zO (zX xs (w32 (x4 + 1))))]) (rest := [.int (zO r304)]) E S306 zcw_yX12_storyState zw_9_58 zw_9_59 zw_9_57 zck_12.1 rfl g308 (Mo_storyState_c l G fu top L M305 x2 (zX xs (w32 (x4 + 1))) hx2 (inR_zX _ _) er309) (zrm_law (by decide) (by decide)) ⟨by show _ ≤ 601024; omega, by show _ ≤ 7293034; omega⟩ rfl (by simp [zR_cat, zcat_I, zcat_J, zcat_S]) hl.size rfl (Lw_dc11.at 19 rfl) (fun H locs hr309 S311 => ?_)
  refine r_icmp_eq (tgt := 1497) E hr304 hr309 (Lw_dc11.at 20 rfl) (by decide) (fun q => ?_) (fun q => ?_)
  · have h := ite_t h q
    obtain ⟨v312, ev312, h⟩ := lt1_e h
    have hv312 := inR_eq ev312 (inR_w32 _)
    refine u_iinc (y := v312) (vs' := [some (.ref b), some (zR G.2.2.1 x1), some (zR G.2.2.1 x2), some (zR G.2.2.1 x3), some (.int (zO v312)), none, none]) E ev312 (Lw_dc19.at 5 rfl) hl rfl (by decide) rfl (fun ls hl => ?_)
    refine r_goto (tgt := 23) E (Lw_dc19.at 6 rfl) (by decide) ?_
    exact hk _ _ _ x1 x2 x3 v312 hx1 hx2 hx3 hv312 _ _ _ _ _ S311 (hl.sub (And.intro rfl (And.intro rfl (And.intro rfl (And.intro rfl (And.intro rfl True.intro)))))) (by omega) (by omega) h
  · have h := ite_f h q
    refine r_iconst E (Lw_dc11.at 21 rfl) ?_
    exact absurd (Option.some.inj h) (by decide)
theorem Lw_c975_w (E : zEv p m c code 7 s #[Value.ref b] "LaterLivesLaw" meth ret G) (hX : va_X b Ln xs s s.heap) (hbl : b < s.heap.size) (hB : G.2.2.1 + 1 = s.heap.size) (hLn : Ln ≤ 3072) (hlf : l.stackTraces = false) {k : Int → zL → zM → Int → Int → Int → Int → Option Int} (hk : ∀ (top : Int) (L : zL) (M : zM) (x1 x2 x3 x4 : Int), InR x1 → InR x2 → InR x3 → InR x4 → ∀ (H : Heap) (locs : List Loc) (ls : Array Slot) (cN sN : Nat), zS G top L M s H locs → zLV ls 7 [some (.ref b), some (zR G.2.2.1 x1), some (zR G.2.2.1 x2), some (zR G.2.2.1 x3), some (.int (zO x4)), none, none] → 6 * (cN : Int) + 7 * ((Ln : Int) - x4) ≤ 3606144 ∧ x4 ≤ (Ln : Int) → 6 * (sN : Int) + 3611 * ((Ln : Int) - x4) ≤ 43758204 → k top L M x1 x2 x3 x4 = some 1 → W p l e room_1 s m #[Value.ref b] below meth c H locs cN sN (lw_Z below #[Value.ref b] s) (F0 m 23 ls [])) {top : Int} {L : zL} {M : zM} {x1 x2 x3 x4 : Int} {H : Heap} {locs : List Loc} {ls : Array Slot} {cN sN : Nat} (hx1 : InR x1) (hx2 : InR x2) (hx3 : InR x3) (hx4 : InR x4) (S : zS G top L M s H locs) (hl : zLV ls 7 [some (.ref b), some (zR G.2.2.1 x1), some (zR G.2.2.1 x2), some (zR G.2.2.1 x3), some (.int (zO x4)), none, none]) (hc : 6 * (cN : Int) + 7 * ((Ln : Int) - x4) ≤ 3606144 ∧ x4 ≤ (Ln : Int)) (hs : 6 * (sN : Int) + 3611 * ((Ln : Int) - x4) ≤ 43758204) (hi : x4 ≤ (Ln : Int) - 6) (h : Lw_c975 fu (zX xs) Ln k top L M x1 x2 x3 x4 = some 1) : W p l e room_1 s m #[Value.ref b] below meth c H locs cN sN (lw_Z below #[Value.ref b] s) (F0 m 975 ls []) := by
  unfold Lw_c975 at h
  have e6 : w32 (x4 + 6) = x4 + 6 := w32_id ⟨by omega, by omega⟩
  refine u_al_n (x := x1) E (Lw_dc11.at 23 rfl) hl rfl ?_
  refine r_aloadS_n E (Lw_dc11.at 24 rfl) hl rfl ?_
  refine u_il (x := x4) E (Lw_dc11.at 25 rfl) hl rfl ?_
  refine r_iconst E (Lw_dc11.at 26 rfl) ?_
  refine r_iadd E (Lw_dc11.at 27 rfl) ?_
  obtain ⟨g314, h⟩ := ite_e h
  refine u_sld E hX hbl hB (by omega) S g314 (Lw_dc11.at 28 rfl) ?_
  refine r_aloadS_n E (Lw_dc11.at 29 rfl) hl rfl ?_
  refine u_il (x := x4) E (Lw_dc11.at 30 rfl) hl rfl ?_
  refine r_iconst E (Lw_dc11.at 31 rfl) ?_
  refine r_iadd E (Lw_dc11.at 32 rfl) ?_
  obtain ⟨g315, h⟩ := ite_e h
  refine u_sld E hX hbl hB (by omega) S g315 (Lw_dc11.at 33 rfl) ?_
  obtain ⟨g316, h⟩ := ite_e h
  obtain ⟨M318, r317, er317, h⟩ := bd2_e h
  refine u_cVI (As := [.int (zO (zX xs (w32 (x4 + 1)))), .int (zO (zX xs (w32 (x4 + 2))))]) (rest := []) E S zcw_yX11_storyVests zw_5_117 zw_5_118 zw_5_116 zck_11.1 rfl g316 (Lx_storyVests_c l G fu top L M x1 (zX xs (w32 (x4 + 1))) (zX xs (w32 (x4 + 2))) hx1 (inR_zX _ _) (inR_zX _ _) er317) (zrm_law (by decide) (by decide)) ⟨by show _ ≤ 601024; omega, by show _ ≤ 7293034; omega⟩ rfl (Nat.zero_le 8) hl.size rfl (Lw_dc11.at 34 rfl) (fun H locs hr317 S319 => ?_)
  refine u_al_n (x := x2) E (Lw_dc11.at 35 rfl) hl rfl ?_
  refine r_aloadS_n E (Lw_dc11.at 36 rfl) hl rfl ?_
  refine u_il (x := x4) E (Lw_dc11.at 37 rfl) hl rfl ?_
  refine r_iconst E (Lw_dc11.at 38 rfl) ?_
  refine r_iadd E (Lw_dc11.at 39 rfl) ?_
  obtain ⟨g320, h⟩ := ite_e h
  refine u_sld E hX hbl hB (by omega) S319 g320 (Lw_dc11.at 40 rfl) ?_
  refine r_aloadS_n E (Lw_dc11.at 41 rfl) hl rfl ?_
  refine u_il (x := x4) E (Lw_dc11.at 42 rfl) hl rfl ?_
  refine r_iconst E (Lw_dc11.at 43 rfl) ?_
  refine r_iadd E (Lw_dc11.at 44 rfl) ?_
  obtain ⟨g321, h⟩ := ite_e h
  refine u_sld E hX hbl hB (by omega) S319 g321 (Lw_dc11.at 45 rfl) ?_
  obtain ⟨g322, h⟩ := ite_e h
  obtain ⟨M324, r323, er323, h⟩ := bd2_e h
  refine u_cVI (As := [.int (zO (zX xs (w32 (x4 + 1)))), .int (zO (zX xs (w32 (x4 + 2))))]) (rest := [.int (zO r317)]) E S319 zcw_yX12_storyVests zw_9_62 zw_9_63 zw_9_61 zck_12.1 rfl g322 (Mo_storyVests_c l G fu top L M318 x2 (zX xs (w32 (x4 + 1))) (zX xs (w32 (x4 + 2))) hx2 (inR_zX _ _) (inR_zX _ _) er323) (zrm_law (by decide) (by decide)) ⟨by show _ ≤ 601024; omega, by show _ ≤ 7293034; omega⟩ rfl (by simp [zR_cat, zcat_I, zcat_J, zcat_S]) hl.size rfl (Lw_dc11.at 46 rfl) (fun H locs hr323 S325 => ?_)
  refine r_icmp_eq (tgt := 1497) E hr317 hr323 (Lw_dc11.at 47 rfl) (by decide) (fun q => ?_) (fun q => ?_)
  · have h := ite_t h q
    obtain ⟨v326, ev326, h⟩ := lt1_e h
    have hv326 := inR_eq ev326 (inR_w32 _)
    refine u_iinc (y := v326) (vs' := [some (.ref b), some (zR G.2.2.1 x1), some (zR G.2.2.1 x2), some (zR G.2.2.1 x3), some (.int (zO v326)), none, none]) E ev326 (Lw_dc19.at 5 rfl) hl rfl (by decide) rfl (fun ls hl => ?_)
    refine r_goto (tgt := 23) E (Lw_dc19.at 6 rfl) (by decide) ?_
    exact hk _ _ _ x1 x2 x3 v326 hx1 hx2 hx3 hv326 _ _ _ _ _ S325 (hl.sub (And.intro rfl (And.intro rfl (And.intro rfl (And.intro rfl (And.intro rfl True.intro)))))) (by omega) (by omega) h
  · have h := ite_f h q
    refine r_iconst E (Lw_dc12.at 0 rfl) ?_
    exact absurd (Option.some.inj h) (by decide)
theorem Lw_c1012_w (E : zEv p m c code 7 s #[Value.ref b] "LaterLivesLaw" meth ret G) (hX : va_X b Ln xs s s.heap) (hbl : b < s.heap.size) (hB : G.2.2.1 + 1 = s.heap.size) (hLn : Ln ≤ 3072) (hlf : l.stackTraces = false) {k : Int → zL → zM → Int → Int → Int → Int → Option Int} (hk : ∀ (top : Int) (L : zL) (M : zM) (x1 x2 x3 x4 : Int), InR x1 → InR x2 → InR x3 → InR x4 → ∀ (H : Heap) (locs : List Loc) (ls : Array Slot) (cN sN : Nat), zS G top L M s H locs → zLV ls 7 [some (.ref b), some (zR G.2.2.1 x1), some (zR G.2.2.1 x2), some (zR G.2.2.1 x3), some (.int (zO x4)), none, none] → 6 * (cN : Int) + 7 * ((Ln : Int) - x4) ≤ 3606144 ∧ x4 ≤ (Ln : Int) → 6 * (sN : Int) + 3611 * ((Ln : Int) - x4) ≤ 43758204 → k top L M x1 x2 x3 x4 = some 1 → W p l e room_1 s m #[Value.ref b] below meth c H locs cN sN (lw_Z below #[Value.ref b] s) (F0 m 23 ls [])) {top : Int} {L : zL} {M : zM} {x1 x2 x3 x4 : Int} {H : Heap} {locs : List Loc} {ls : Array Slot} {cN sN : Nat} (hx1 : InR x1) (hx2 : InR x2) (hx3 : InR x3) (hx4 : InR x4) (S : zS G top L M s H locs) (hl : zLV ls 7 [some (.ref b), some (zR G.2.2.1 x1), some (zR G.2.2.1 x2), some (zR G.2.2.1 x3), some (.int (zO x4)), none, none]) (hc : 6 * (cN : Int) + 7 * ((Ln : Int) - x4) ≤ 3606144 ∧ x4 ≤ (Ln : Int)) (hs : 6 * (sN : Int) + 3611 * ((Ln : Int) - x4) ≤ 43758204) (hi : x4 ≤ (Ln : Int) - 6) (h : Lw_c1012 fu (zX xs) Ln k top L M x1 x2 x3 x4 = some 1) : W p l e room_1 s m #[Value.ref b] below meth c H locs cN sN (lw_Z below #[Value.ref b] s) (F0 m 1012 ls []) := by
  unfold Lw_c1012 at h
  have e6 : w32 (x4 + 6) = x4 + 6 := w32_id ⟨by omega, by omega⟩
  refine u_al_n (x := x1) E (Lw_dc12.at 2 rfl) hl rfl ?_
  refine r_aloadS_n E (Lw_dc12.at 3 rfl) hl rfl ?_
  refine u_il (x := x4) E (Lw_dc12.at 4 rfl) hl rfl ?_
  refine r_iconst E (Lw_dc12.at 5 rfl) ?_
  refine r_iadd E (Lw_dc12.at 6 rfl) ?_
  obtain ⟨g328, h⟩ := ite_e h
  refine u_sld E hX hbl hB (by omega) S g328 (Lw_dc12.at 7 rfl) ?_
  obtain ⟨g329, h⟩ := ite_e h
  obtain ⟨M331, r330, er330, h⟩ := bd2_e h
  refine u_cVI (As := [.int (zO (zX xs (w32 (x4 + 1))))]) (rest := []) E S zcw_yX11_good zw_5_121 zw_5_122 zw_5_120 zck_11.1 rfl g329 (Lx_good_c l G fu top L M x1 (zX xs (w32 (x4 + 1))) hx1 (inR_zX _ _) er330) (zrm_law (by decide) (by decide)) ⟨by show _ ≤ 601024; omega, by show _ ≤ 7293034; omega⟩ rfl (Nat.zero_le 8) hl.size rfl (Lw_dc12.at 8 rfl) (fun H locs hr330 S332 => ?_)
  refine u_al_n (x := x2) E (Lw_dc12.at 9 rfl) hl rfl ?_
  refine r_aloadS_n E (Lw_dc12.at 10 rfl) hl rfl ?_
  refine u_il (x := x4) E (Lw_dc12.at 11 rfl) hl rfl ?_
  refine r_iconst E (Lw_dc12.at 12 rfl) ?_
  refine r_iadd E (Lw_dc12.at 13 rfl) ?_
  obtain ⟨g333, h⟩ := ite_e h
  refine u_sld E hX hbl hB (by omega) S332 g333 (Lw_dc12.at 14 rfl) ?_
  obtain ⟨g334, h⟩ := ite_e h
  obtain ⟨M336, r335, er335, h⟩ := bd2_e h
  refine u_cVI (As := [.int (zO (zX xs (w32 (x4 + 1))))]) (rest := [.int (zO r330)]) E S332 zcw_yX12_good zw_9_66 zw_9_67 zw_9_65 zck_12.1 rfl g334 (Mo_good_c l G fu top L M331 x2 (zX xs (w32 (x4 + 1))) hx2 (inR_zX _ _) er335) (zrm_law (by decide) (by decide)) ⟨by show _ ≤ 601024; omega, by show _ ≤ 7293034; omega⟩ rfl (by simp [zR_cat, zcat_I, zcat_J, zcat_S]) hl.size rfl (Lw_dc12.at 15 rfl) (fun H locs hr335 S337 => ?_)
  refine r_icmp_eq (tgt := 1497) E hr330 hr335 (Lw_dc12.at 16 rfl) (by decide) (fun q => ?_) (fun q => ?_)
  · have h := ite_t h q
    obtain ⟨v338, ev338, h⟩ := lt1_e h
    have hv338 := inR_eq ev338 (inR_w32 _)
    refine u_iinc (y := v338) (vs' := [some (.ref b), some (zR G.2.2.1 x1), some (zR G.2.2.1 x2), some (zR G.2.2.1 x3), some (.int (zO v338)), none, none]) E ev338 (Lw_dc19.at 5 rfl) hl rfl (by decide) rfl (fun ls hl => ?_)
    refine r_goto (tgt := 23) E (Lw_dc19.at 6 rfl) (by decide) ?_
    exact hk _ _ _ x1 x2 x3 v338 hx1 hx2 hx3 hv338 _ _ _ _ _ S337 (hl.sub (And.intro rfl (And.intro rfl (And.intro rfl (And.intro rfl (And.intro rfl True.intro)))))) (by omega) (by omega) h
  · have h := ite_f h q
    refine r_iconst E (Lw_dc12.at 17 rfl) ?_
    exact absurd (Option.some.inj h) (by decide)
theorem Lw_c1037_w (E : zEv p m c code 7 s #[Value.ref b] "LaterLivesLaw" meth ret G) (hX : va_X b Ln xs s s.heap) (hbl : b < s.heap.size) (hB : G.2.2.1 + 1 = s.heap.size) (hLn : Ln ≤ 3072) (hlf : l.stackTraces = false) {k : Int → zL → zM → Int → Int → Int → Int → Option Int} (hk : ∀ (top : Int) (L : zL) (M : zM) (x1 x2 x3 x4 : Int), InR x1 → InR x2 → InR x3 → InR x4 → ∀ (H : Heap) (locs : List Loc) (ls : Array Slot) (cN sN : Nat), zS G top L M s H locs → zLV ls 7 [some (.ref b), some (zR G.2.2.1 x1), some (zR G.2.2.1 x2), some (zR G.2.2.1 x3), some (.int (zO x4)), none, none] → 6 * (cN : Int) + 7 * ((Ln : Int) - x4) ≤ 3606144 ∧ x4 ≤ (Ln : Int) → 6 * (sN : Int) + 3611 * ((Ln : Int) - x4) ≤ 43758204 → k top L M x1 x2 x3 x4 = some 1 → W p l e room_1 s m #[Value.ref b] below meth c H locs cN sN (lw_Z below #[Value.ref b] s) (F0 m 23 ls [])) {top : Int} {L : zL} {M : zM} {x1 x2 x3 x4 : Int} {H : Heap} {locs : List Loc} {ls : Array Slot} {cN sN : Nat} (hx1 : InR x1) (hx2 : InR x2) (hx3 : InR x3) (hx4 : InR x4) (S : zS G top L M s H locs) (hl : zLV ls 7 [some (.ref b), some (zR G.2.2.1 x1), some (zR G.2.2.1 x2), some (zR G.2.2.1 x3), some (.int (zO x4)), none, none]) (hc : 6 * (cN : Int) + 7 * ((Ln : Int) - x4) ≤ 3606144 ∧ x4 ≤ (Ln : Int)) (hs : 6 * (sN : Int) + 3611 * ((Ln : Int) - x4) ≤ 43758204) (hi : x4 ≤ (Ln : Int) - 6) (h : Lw_c1037 fu (zX xs) Ln k top L M x1 x2 x3 x4 = some 1) : W p l e room_1 s m #[Value.ref b] below meth c H locs cN sN (lw_Z below #[Value.ref b] s) (F0 m 1037 ls []) := by
  unfold Lw_c1037 at h
  have e6 : w32 (x4 + 6) = x4 + 6 := w32_id ⟨by omega, by omega⟩
  refine u_al_n (x := x1) E (Lw_dc12.at 19 rfl) hl rfl ?_
  refine r_aloadS_n E (Lw_dc12.at 20 rfl) hl rfl ?_
  refine u_il (x := x4) E (Lw_dc12.at 21 rfl) hl rfl ?_
  refine r_iconst E (Lw_dc12.at 22 rfl) ?_
  refine r_iadd E (Lw_dc12.at 23 rfl) ?_
  obtain ⟨g340, h⟩ := ite_e h
  refine u_sld E hX hbl hB (by omega) S g340 (Lw_dc12.at 24 rfl) ?_
  refine r_aloadS_n E (Lw_dc12.at 25 rfl) hl rfl ?_
  refine u_il (x := x4) E (Lw_dc12.at 26 rfl) hl rfl ?_
  refine r_iconst E (Lw_dc12.at 27 rfl) ?_
  refine r_iadd E (Lw_dc12.at 28 rfl) ?_
  obtain ⟨g341, h⟩ := ite_e h
  refine u_sld E hX hbl hB (by omega) S g341 (Lw_dc12.at 29 rfl) ?_
  refine r_aloadS_n E (Lw_dc12.at 30 rfl) hl rfl ?_
  refine u_il (x := x4) E (Lw_dc12.at 31 rfl) hl rfl ?_
  refine r_iconst E (Lw_dc12.at 32 rfl) ?_
  refine r_iadd E (Lw_dc12.at 33 rfl) ?_
  obtain ⟨g342, h⟩ := ite_e h
  refine u_sld E hX hbl hB (by omega) S g342 (Lw_dc12.at 34 rfl) ?_
  refine r_aloadS_n E (Lw_dc12.at 35 rfl) hl rfl ?_
  refine u_il (x := x4) E (Lw_dc12.at 36 rfl) hl rfl ?_
  refine r_iconst E (Lw_dc12.at 37 rfl) ?_
  refine r_iadd E (Lw_dc12.at 38 rfl) ?_
  obtain ⟨g343, h⟩ := ite_e h
  refine u_sld E hX hbl hB (by omega) S g343 (Lw_dc12.at 39 rfl) ?_
  obtain ⟨g344, h⟩ := ite_e h
  obtain ⟨M346, r345, er345, h⟩ := bd2_e h
  refine u_cVI (As := [.int (zO (zX xs (w32 (x4 + 1)))), .int (zO (zX xs (w32 (x4 + 2)))), .int (zO (zX xs (w32 (x4 + 3)))), .int (zO (zX xs (w32 (x4 + 4))))]) (rest := []) E S zcw_yX11_behind zw_5_187 zw_5_188 zw_5_186 zck_11.1 rfl g344 (Lx_behind_c l G fu top L M x1 (zX xs (w32 (x4 + 1))) (zX xs (w32 (x4 + 2))) (zX xs (w32 (x4 + 3))) (zX xs (w32 (x4 + 4))) hx1 (inR_zX _ _) (inR_zX _ _) (inR_zX _ _) (inR_zX _ _) er345) (zrm_law (by decide) (by decide)) ⟨by show _ ≤ 601024; omega, by show _ ≤ 7293034; omega⟩ rfl (Nat.zero_le 8) hl.size rfl (Lw_dc12.at 40 rfl) (fun H locs hr345 S347 => ?_)
  refine u_al_n (x := x2) E (Lw_dc12.at 41 rfl) hl rfl ?_
  refine r_aloadS_n E (Lw_dc12.at 42 rfl) hl rfl ?_
  refine u_il (x := x4) E (Lw_dc12.at 43 rfl) hl rfl ?_
  refine r_iconst E (Lw_dc12.at 44 rfl) ?_
  refine r_iadd E (Lw_dc12.at 45 rfl) ?_
  obtain ⟨g348, h⟩ := ite_e h
  refine u_sld E hX hbl hB (by omega) S347 g348 (Lw_dc12.at 46 rfl) ?_
  refine r_aloadS_n E (Lw_dc12.at 47 rfl) hl rfl ?_
  refine u_il (x := x4) E (Lw_dc13.at 0 rfl) hl rfl ?_
  refine r_iconst E (Lw_dc13.at 1 rfl) ?_
  refine r_iadd E (Lw_dc13.at 2 rfl) ?_
  obtain ⟨g349, h⟩ := ite_e h
  refine u_sld E hX hbl hB (by omega) S347 g349 (Lw_dc13.at 3 rfl) ?_
  refine r_aloadS_n E (Lw_dc13.at 4 rfl) hl rfl ?_
  refine u_il (x := x4) E (Lw_dc13.at 5 rfl) hl rfl ?_
  refine r_iconst E (Lw_dc13.at 6 rfl) ?_
  refine r_iadd E (Lw_dc13.at 7 rfl) ?_
  obtain ⟨g350, h⟩ := ite_e h
  refine u_sld E hX hbl hB (by omega) S347 g350 (Lw_dc13.at 8 rfl) ?_
  refine r_aloadS_n E (Lw_dc13.at 9 rfl) hl rfl ?_
  refine u_il (x := x4) E (Lw_dc13.at 10 rfl) hl rfl ?_
  refine r_iconst E (Lw_dc13.at 11 rfl) ?_
  refine r_iadd E (Lw_dc13.at 12 rfl) ?_
  obtain ⟨g351, h⟩ := ite_e h
  refine u_sld E hX hbl hB (by omega) S347 g351 (Lw_dc13.at 13 rfl) ?_
  obtain ⟨g352, h⟩ := ite_e h
  obtain ⟨M354, r353, er353, h⟩ := bd2_e h
  refine u_cVI (As := [.int (zO (zX xs (w32 (x4 + 1)))), .int (zO (zX xs (w32 (x4 + 2)))), .int (zO (zX xs (w32 (x4 + 3)))), .int (zO (zX xs (w32 (x4 + 4))))]) (rest := [.int (zO r345)]) E S347 zcw_yX12_behind zw_9_140 zw_9_141 zw_9_139 zck_12.1 rfl g352 (Mo_behind_c l G fu top L M346 x2 (zX xs (w32 (x4 + 1))) (zX xs (w32 (x4 + 2))) (zX xs (w32 (x4 + 3))) (zX xs (w32 (x4 + 4))) hx2 (inR_zX _ _) (inR_zX _ _) (inR_zX _ _) (inR_zX _ _) er353) (zrm_law (by decide) (by decide)) ⟨by show _ ≤ 601024; omega, by show _ ≤ 7293034; omega⟩ rfl (by simp [zR_cat, zcat_I, zcat_J, zcat_S]) hl.size rfl (Lw_dc13.at 14 rfl) (fun H locs hr353 S355 => ?_)
  refine r_icmp_eq (tgt := 1497) E hr345 hr353 (Lw_dc13.at 15 rfl) (by decide) (fun q => ?_) (fun q => ?_)
  · have h := ite_t h q
    obtain ⟨v356, ev356, h⟩ := lt1_e h
    have hv356 := inR_eq ev356 (inR_w32 _)
    refine u_iinc (y := v356) (vs' := [some (.ref b), some (zR G.2.2.1 x1), some (zR G.2.2.1 x2), some (zR G.2.2.1 x3), some (.int (zO v356)), none, none]) E ev356 (Lw_dc19.at 5 rfl) hl rfl (by decide) rfl (fun ls hl => ?_)
    refine r_goto (tgt := 23) E (Lw_dc19.at 6 rfl) (by decide) ?_
    exact hk _ _ _ x1 x2 x3 v356 hx1 hx2 hx3 hv356 _ _ _ _ _ S355 (hl.sub (And.intro rfl (And.intro rfl (And.intro rfl (And.intro rfl (And.intro rfl True.intro)))))) (by omega) (by omega) h
  · have h := ite_f h q
    refine r_iconst E (Lw_dc13.at 16 rfl) ?_
    exact absurd (Option.some.inj h) (by decide)
theorem Lw_c1098_w (E : zEv p m c code 7 s #[Value.ref b] "LaterLivesLaw" meth ret G) (hX : va_X b Ln xs s s.heap) (hbl : b < s.heap.size) (hB : G.2.2.1 + 1 = s.heap.size) (hLn : Ln ≤ 3072) (hlf : l.stackTraces = false) {k : Int → zL → zM → Int → Int → Int → Int → Option Int} (hk : ∀ (top : Int) (L : zL) (M : zM) (x1 x2 x3 x4 : Int), InR x1 → InR x2 → InR x3 → InR x4 → ∀ (H : Heap) (locs : List Loc) (ls : Array Slot) (cN sN : Nat), zS G top L M s H locs → zLV ls 7 [some (.ref b), some (zR G.2.2.1 x1), some (zR G.2.2.1 x2), some (zR G.2.2.1 x3), some (.int (zO x4)), none, none] → 6 * (cN : Int) + 7 * ((Ln : Int) - x4) ≤ 3606144 ∧ x4 ≤ (Ln : Int) → 6 * (sN : Int) + 3611 * ((Ln : Int) - x4) ≤ 43758204 → k top L M x1 x2 x3 x4 = some 1 → W p l e room_1 s m #[Value.ref b] below meth c H locs cN sN (lw_Z below #[Value.ref b] s) (F0 m 23 ls [])) {top : Int} {L : zL} {M : zM} {x1 x2 x3 x4 : Int} {H : Heap} {locs : List Loc} {ls : Array Slot} {cN sN : Nat} (hx1 : InR x1) (hx2 : InR x2) (hx3 : InR x3) (hx4 : InR x4) (S : zS G top L M s H locs) (hl : zLV ls 7 [some (.ref b), some (zR G.2.2.1 x1), some (zR G.2.2.1 x2), some (zR G.2.2.1 x3), some (.int (zO x4)), none, none]) (hc : 6 * (cN : Int) + 7 * ((Ln : Int) - x4) ≤ 3606144 ∧ x4 ≤ (Ln : Int)) (hs : 6 * (sN : Int) + 3611 * ((Ln : Int) - x4) ≤ 43758204) (hi : x4 ≤ (Ln : Int) - 6) (h : Lw_c1098 fu (zX xs) Ln k top L M x1 x2 x3 x4 = some 1) : W p l e room_1 s m #[Value.ref b] below meth c H locs cN sN (lw_Z below #[Value.ref b] s) (F0 m 1098 ls []) := by
  unfold Lw_c1098 at h
  have e6 : w32 (x4 + 6) = x4 + 6 := w32_id ⟨by omega, by omega⟩
  refine u_al_n (x := x1) E (Lw_dc13.at 18 rfl) hl rfl ?_
  refine r_aloadS_n E (Lw_dc13.at 19 rfl) hl rfl ?_
  refine u_il (x := x4) E (Lw_dc13.at 20 rfl) hl rfl ?_
  refine r_iconst E (Lw_dc13.at 21 rfl) ?_
  refine r_iadd E (Lw_dc13.at 22 rfl) ?_
  obtain ⟨g358, h⟩ := ite_e h
  refine u_sld E hX hbl hB (by omega) S g358 (Lw_dc13.at 23 rfl) ?_
  refine r_aloadS_n E (Lw_dc13.at 24 rfl) hl rfl ?_
  refine u_il (x := x4) E (Lw_dc13.at 25 rfl) hl rfl ?_
  refine r_iconst E (Lw_dc13.at 26 rfl) ?_
  refine r_iadd E (Lw_dc13.at 27 rfl) ?_
  obtain ⟨g359, h⟩ := ite_e h
  refine u_sld E hX hbl hB (by omega) S g359 (Lw_dc13.at 28 rfl) ?_
  refine r_aloadS_n E (Lw_dc13.at 29 rfl) hl rfl ?_
  refine u_il (x := x4) E (Lw_dc13.at 30 rfl) hl rfl ?_
  refine r_iconst E (Lw_dc13.at 31 rfl) ?_
  refine r_iadd E (Lw_dc13.at 32 rfl) ?_
  obtain ⟨g360, h⟩ := ite_e h
  refine u_sld E hX hbl hB (by omega) S g360 (Lw_dc13.at 33 rfl) ?_
  obtain ⟨g361, h⟩ := ite_e h
  obtain ⟨M363, r362, er362, h⟩ := bd2_e h
  refine u_cVI (As := [.int (zO (zX xs (w32 (x4 + 1)))), .int (zO (zX xs (w32 (x4 + 2)))), .int (zO (zX xs (w32 (x4 + 3))))]) (rest := []) E S zcw_yX11_soonest zw_5_205 zw_5_206 zw_5_204 zck_11.1 rfl g361 (Lx_soonest_c l G fu top L M x1 (zX xs (w32 (x4 + 1))) (zX xs (w32 (x4 + 2))) (zX xs (w32 (x4 + 3))) hx1 (inR_zX _ _) (inR_zX _ _) (inR_zX _ _) er362) (zrm_law (by decide) (by decide)) ⟨by show _ ≤ 601024; omega, by show _ ≤ 7293034; omega⟩ rfl (Nat.zero_le 8) hl.size rfl (Lw_dc13.at 34 rfl) (fun H locs hr362 S364 => ?_)
  refine u_al_n (x := x2) E (Lw_dc13.at 35 rfl) hl rfl ?_
  refine r_aloadS_n E (Lw_dc13.at 36 rfl) hl rfl ?_
  refine u_il (x := x4) E (Lw_dc13.at 37 rfl) hl rfl ?_
  refine r_iconst E (Lw_dc13.at 38 rfl) ?_
  refine r_iadd E (Lw_dc13.at 39 rfl) ?_
  obtain ⟨g365, h⟩ := ite_e h
  refine u_sld E hX hbl hB (by omega) S364 g365 (Lw_dc13.at 40 rfl) ?_
  refine r_aloadS_n E (Lw_dc13.at 41 rfl) hl rfl ?_
  refine u_il (x := x4) E (Lw_dc13.at 42 rfl) hl rfl ?_
  refine r_iconst E (Lw_dc13.at 43 rfl) ?_
  refine r_iadd E (Lw_dc13.at 44 rfl) ?_
  obtain ⟨g366, h⟩ := ite_e h
  refine u_sld E hX hbl hB (by omega) S364 g366 (Lw_dc13.at 45 rfl) ?_
  refine r_aloadS_n E (Lw_dc13.at 46 rfl) hl rfl ?_
  refine u_il (x := x4) E (Lw_dc13.at 47 rfl) hl rfl ?_
  refine r_iconst E (Lw_dc14.at 0 rfl) ?_
  refine r_iadd E (Lw_dc14.at 1 rfl) ?_
  obtain ⟨g367, h⟩ := ite_e h
  refine u_sld E hX hbl hB (by omega) S364 g367 (Lw_dc14.at 2 rfl) ?_
  obtain ⟨g368, h⟩ := ite_e h
  obtain ⟨M370, r369, er369, h⟩ := bd2_e h
  refine u_cVI (As := [.int (zO (zX xs (w32 (x4 + 1)))), .int (zO (zX xs (w32 (x4 + 2)))), .int (zO (zX xs (w32 (x4 + 3))))]) (rest := [.int (zO r362)]) E S364 zcw_yX12_soonest zw_9_152 zw_9_153 zw_9_151 zck_12.1 rfl g368 (Mo_soonest_c l G fu top L M363 x2 (zX xs (w32 (x4 + 1))) (zX xs (w32 (x4 + 2))) (zX xs (w32 (x4 + 3))) hx2 (inR_zX _ _) (inR_zX _ _) (inR_zX _ _) er369) (zrm_law (by decide) (by decide)) ⟨by show _ ≤ 601024; omega, by show _ ≤ 7293034; omega⟩ rfl (by simp [zR_cat, zcat_I, zcat_J, zcat_S]) hl.size rfl (Lw_dc14.at 3 rfl) (fun H locs hr369 S371 => ?_)
  refine r_icmp_eq (tgt := 1497) E hr362 hr369 (Lw_dc14.at 4 rfl) (by decide) (fun q => ?_) (fun q => ?_)
  · have h := ite_t h q
    obtain ⟨v372, ev372, h⟩ := lt1_e h
    have hv372 := inR_eq ev372 (inR_w32 _)
    refine u_iinc (y := v372) (vs' := [some (.ref b), some (zR G.2.2.1 x1), some (zR G.2.2.1 x2), some (zR G.2.2.1 x3), some (.int (zO v372)), none, none]) E ev372 (Lw_dc19.at 5 rfl) hl rfl (by decide) rfl (fun ls hl => ?_)
    refine r_goto (tgt := 23) E (Lw_dc19.at 6 rfl) (by decide) ?_
    exact hk _ _ _ x1 x2 x3 v372 hx1 hx2 hx3 hv372 _ _ _ _ _ S371 (hl.sub (And.intro rfl (And.intro rfl (And.intro rfl (And.intro rfl (And.intro rfl True.intro)))))) (by omega) (by omega) h
  · have h := ite_f h q
    refine r_iconst E (Lw_dc14.at 5 rfl) ?_
    exact absurd (Option.some.inj h) (by decide)
theorem Lw_c1147_w (E : zEv p m c code 7 s #[Value.ref b] "LaterLivesLaw" meth ret G) (hX : va_X b Ln xs s s.heap) (hbl : b < s.heap.size) (hB : G.2.2.1 + 1 = s.heap.size) (hLn : Ln ≤ 3072) (hlf : l.stackTraces = false) {k : Int → zL → zM → Int → Int → Int → Int → Option Int} (hk : ∀ (top : Int) (L : zL) (M : zM) (x1 x2 x3 x4 : Int), InR x1 → InR x2 → InR x3 → InR x4 → ∀ (H : Heap) (locs : List Loc) (ls : Array Slot) (cN sN : Nat), zS G top L M s H locs → zLV ls 7 [some (.ref b), some (zR G.2.2.1 x1), some (zR G.2.2.1 x2), some (zR G.2.2.1 x3), some (.int (zO x4)), none, none] → 6 * (cN : Int) + 7 * ((Ln : Int) - x4) ≤ 3606144 ∧ x4 ≤ (Ln : Int) → 6 * (sN : Int) + 3611 * ((Ln : Int) - x4) ≤ 43758204 → k top L M x1 x2 x3 x4 = some 1 → W p l e room_1 s m #[Value.ref b] below meth c H locs cN sN (lw_Z below #[Value.ref b] s) (F0 m 23 ls [])) {top : Int} {L : zL} {M : zM} {x1 x2 x3 x4 : Int} {H : Heap} {locs : List Loc} {ls : Array Slot} {cN sN : Nat} (hx1 : InR x1) (hx2 : InR x2) (hx3 : InR x3) (hx4 : InR x4) (S : zS G top L M s H locs) (hl : zLV ls 7 [some (.ref b), some (zR G.2.2.1 x1), some (zR G.2.2.1 x2), some (zR G.2.2.1 x3), some (.int (zO x4)), none, none]) (hc : 6 * (cN : Int) + 7 * ((Ln : Int) - x4) ≤ 3606144 ∧ x4 ≤ (Ln : Int)) (hs : 6 * (sN : Int) + 3611 * ((Ln : Int) - x4) ≤ 43758204) (hi : x4 ≤ (Ln : Int) - 6) (h : Lw_c1147 fu (zX xs) Ln k top L M x1 x2 x3 x4 = some 1) : W p l e room_1 s m #[Value.ref b] below meth c H locs cN sN (lw_Z below #[Value.ref b] s) (F0 m 1147 ls []) := by
  unfold Lw_c1147 at h
  have e6 : w32 (x4 + 6) = x4 + 6 := w32_id ⟨by omega, by omega⟩
  refine u_al_n (x := x1) E (Lw_dc14.at 7 rfl) hl rfl ?_
  refine r_aloadS_n E (Lw_dc14.at 8 rfl) hl rfl ?_
  refine u_il (x := x4) E (Lw_dc14.at 9 rfl) hl rfl ?_
  refine r_iconst E (Lw_dc14.at 10 rfl) ?_
  refine r_iadd E (Lw_dc14.at 11 rfl) ?_
  obtain ⟨g374, h⟩ := ite_e h
  refine u_sld E hX hbl hB (by omega) S g374 (Lw_dc14.at 12 rfl) ?_
  obtain ⟨g375, h⟩ := ite_e h
  obtain ⟨M377, r376, er376, h⟩ := bd2_e h
  refine u_cVI (As := [.int (zO (zX xs (w32 (x4 + 1))))]) (rest := []) E S zcw_yX11_carriers zw_5_220 zw_5_221 zw_5_219 zck_11.1 rfl g375 (Lx_carriers_c l G fu top L M x1 (zX xs (w32 (x4 + 1))) hx1 (inR_zX _ _) er376) (zrm_law (by decide) (by decide)) ⟨by show _ ≤ 601024; omega, by show _ ≤ 7293034; omega⟩ rfl (Nat.zero_le 8) hl.size rfl (Lw_dc14.at 13 rfl) (fun H locs hr376 S378 => ?_)
  refine u_al_n (x := x2) E (Lw_dc14.at 14 rfl) hl rfl ?_
  refine r_aloadS_n E (Lw_dc14.at 15 rfl) hl rfl ?_
  refine u_il (x := x4) E (Lw_dc14.at 16 rfl) hl rfl ?_
  refine r_iconst E (Lw_dc14.at 17 rfl) ?_
  refine r_iadd E (Lw_dc14.at 18 rfl) ?_
  obtain ⟨g379, h⟩ := ite_e h
  refine u_sld E hX hbl hB (by omega) S378 g379 (Lw_dc14.at 19 rfl) ?_
  obtain ⟨g380, h⟩ := ite_e h
  obtain ⟨M382, r381, er381, h⟩ := bd2_e h
  refine u_cVI (As := [.int (zO (zX xs (w32 (x4 + 1))))]) (rest := [.int (zO r376)]) E S378 zcw_yX12_carriers zw_9_172 zw_9_173 zw_9_171 zck_12.1 rfl g380 (Mo_carriers_c l G fu top L M377 x2 (zX xs (w32 (x4 + 1))) hx2 (inR_zX _ _) er381) (zrm_law (by decide) (by decide)) ⟨by show _ ≤ 601024; omega, by show _ ≤ 7293034; omega⟩ rfl (by simp [zR_cat, zcat_I, zcat_J, zcat_S]) hl.size rfl (Lw_dc14.at 20 rfl) (fun H locs hr381 S383 => ?_)
  refine r_icmp_eq (tgt := 1497) E hr376 hr381 (Lw_dc14.at 21 rfl) (by decide) (fun q => ?_) (fun q => ?_)
  · have h := ite_t h q
    obtain ⟨v384, ev384, h⟩ := lt1_e h
    have hv384 := inR_eq ev384 (inR_w32 _)
    refine u_iinc (y := v384) (vs' := [some (.ref b), some (zR G.2.2.1 x1), some (zR G.2.2.1 x2), some (zR G.2.2.1 x3), some (.int (zO v384)), none, none]) E ev384 (Lw_dc19.at 5 rfl) hl rfl (by decide) rfl (fun ls hl => ?_)
    refine r_goto (tgt := 23) E (Lw_dc19.at 6 rfl) (by decide) ?_
    exact hk _ _ _ x1 x2 x3 v384 hx1 hx2 hx3 hv384 _ _ _ _ _ S383 (hl.sub (And.intro rfl (And.intro rfl (And.intro rfl (And.intro rfl (And.intro rfl True.intro)))))) (by omega) (by omega) h
  · have h := ite_f h q
    refine r_iconst E (Lw_dc14.at 22 rfl) ?_
    exact absurd (Option.some.inj h) (by decide)
theorem Lw_c1172_w (E : zEv p m c code 7 s #[Value.ref b] "LaterLivesLaw" meth ret G) (hX : va_X b Ln xs s s.heap) (hbl : b < s.heap.size) (hB : G.2.2.1 + 1 = s.heap.size) (hLn : Ln ≤ 3072) (hlf : l.stackTraces = false) {k : Int → zL → zM → Int → Int → Int → Int → Option Int} (hk : ∀ (top : Int) (L : zL) (M : zM) (x1 x2 x3 x4 : Int), InR x1 → InR x2 → InR x3 → InR x4 → ∀ (H : Heap) (locs : List Loc) (ls : Array Slot) (cN sN : Nat), zS G top L M s H locs → zLV ls 7 [some (.ref b), some (zR G.2.2.1 x1), some (zR G.2.2.1 x2), some (zR G.2.2.1 x3), some (.int (zO x4)), none, none] → 6 * (cN : Int) + 7 * ((Ln : Int) - x4) ≤ 3606144 ∧ x4 ≤ (Ln : Int) → 6 * (sN : Int) + 3611 * ((Ln : Int) - x4) ≤ 43758204 → k top L M x1 x2 x3 x4 = some 1 → W p l e room_1 s m #[Value.ref b] below meth c H locs cN sN (lw_Z below #[Value.ref b] s) (F0 m 23 ls [])) {top : Int} {L : zL} {M : zM} {x1 x2 x3 x4 : Int} {H : Heap} {locs : List Loc} {ls : Array Slot} {cN sN : Nat} (hx1 : InR x1) (hx2 : InR x2) (hx3 : InR x3) (hx4 : InR x4) (S : zS G top L M s H locs) (hl : zLV ls 7 [some (.ref b), some (zR G.2.2.1 x1), some (zR G.2.2.1 x2), some (zR G.2.2.1 x3), some (.int (zO x4)), none, none]) (hc : 6 * (cN : Int) + 7 * ((Ln : Int) - x4) ≤ 3606144 ∧ x4 ≤ (Ln : Int)) (hs : 6 * (sN : Int) + 3611 * ((Ln : Int) - x4) ≤ 43758204) (hi : x4 ≤ (Ln : Int) - 6) (h : Lw_c1172 fu (zX xs) Ln k top L M x1 x2 x3 x4 = some 1) : W p l e room_1 s m #[Value.ref b] below meth c H locs cN sN (lw_Z below #[Value.ref b] s) (F0 m 1172 ls []) := by
  unfold Lw_c1172 at h
  have e6 : w32 (x4 + 6) = x4 + 6 := w32_id ⟨by omega, by omega⟩
  refine u_al_n (x := x1) E (Lw_dc14.at 24 rfl) hl rfl ?_
  refine r_aloadS_n E (Lw_dc14.at 25 rfl) hl rfl ?_
  refine u_il (x := x4) E (Lw_dc14.at 26 rfl) hl rfl ?_
  refine r_iconst E (Lw_dc14.at 27 rfl) ?_
  refine r_iadd E (Lw_dc14.at 28 rfl) ?_
  obtain ⟨g386, h⟩ := ite_e h
  refine u_sld E hX hbl hB (by omega) S g386 (Lw_dc14.at 29 rfl) ?_
  obtain ⟨g387, h⟩ := ite_e h
  obtain ⟨M389, r388, er388, h⟩ := bd2_e h
  refine u_cVI (As := [.int (zO (zX xs (w32 (x4 + 1))))]) (rest := []) E S zcw_yX11_ways zw_5_235 zw_5_236 zw_5_234 zck_11.1 rfl g387 (Lx_ways_c l G fu top L M x1 (zX xs (w32 (x4 + 1))) hx1 (inR_zX _ _) er388) (zrm_law (by decide) (by decide)) ⟨by show _ ≤ 601024; omega, by show _ ≤ 7293034; omega⟩ rfl (Nat.zero_le 8) hl.size rfl (Lw_dc14.at 30 rfl) (fun H locs hr388 S390 => ?_)
  refine u_al_n (x := x2) E (Lw_dc14.at 31 rfl) hl rfl ?_
  refine r_aloadS_n E (Lw_dc14.at 32 rfl) hl rfl ?_
  refine u_il (x := x4) E (Lw_dc14.at 33 rfl) hl rfl ?_
  refine r_iconst E (Lw_dc14.at 34 rfl) ?_
  refine r_iadd E (Lw_dc14.at 35 rfl) ?_
  obtain ⟨g391, h⟩ := ite_e h
  refine u_sld E hX hbl hB (by omega) S390 g391 (Lw_dc14.at 36 rfl) ?_
  obtain ⟨g392, h⟩ := ite_e h
  obtain ⟨M394, r393, er393, h⟩ := bd2_e h
  refine u_cVI (As := [.int (zO (zX xs (w32 (x4 + 1))))]) (rest := [.int (zO r388)]) E S390 zcw_yX12_ways zw_9_177 zw_9_178 zw_9_176 zck_12.1 rfl g392 (Mo_ways_c l G fu top L M389 x2 (zX xs (w32 (x4 + 1))) hx2 (inR_zX _ _) er393) (zrm_law (by decide) (by decide)) ⟨by show _ ≤ 601024; omega, by show _ ≤ 7293034; omega⟩ rfl (by simp [zR_cat, zcat_I, zcat_J, zcat_S]) hl.size rfl (Lw_dc14.at 37 rfl) (fun H locs hr393 S395 => ?_)
  refine r_icmp_eq (tgt := 1497) E hr388 hr393 (Lw_dc14.at 38 rfl) (by decide) (fun q => ?_) (fun q => ?_)
  · have h := ite_t h q
    obtain ⟨v396, ev396, h⟩ := lt1_e h
    have hv396 := inR_eq ev396 (inR_w32 _)
    refine u_iinc (y := v396) (vs' := [some (.ref b), some (zR G.2.2.1 x1), some (zR G.2.2.1 x2), some (zR G.2.2.1 x3), some (.int (zO v396)), none, none]) E ev396 (Lw_dc19.at 5 rfl) hl rfl (by decide) rfl (fun ls hl => ?_)
    refine r_goto (tgt := 23) E (Lw_dc19.at 6 rfl) (by decide) ?_
    exact hk _ _ _ x1 x2 x3 v396 hx1 hx2 hx3 hv396 _ _ _ _ _ S395 (hl.sub (And.intro rfl (And.intro rfl (And.intro rfl (And.intro rfl (And.intro rfl True.intro)))))) (by omega) (by omega) h
  · have h := ite_f h q
    refine r_iconst E (Lw_dc14.at 39 rfl) ?_
    exact absurd (Option.some.inj h) (by decide)
theorem Lw_c1197_w (E : zEv p m c code 7 s #[Value.ref b] "LaterLivesLaw" meth ret G) (hX : va_X b Ln xs s s.heap) (hbl : b < s.heap.size) (hB : G.2.2.1 + 1 = s.heap.size) (hLn : Ln ≤ 3072) (hlf : l.stackTraces = false) {k : Int → zL → zM → Int → Int → Int → Int → Option Int} (hk : ∀ (top : Int) (L : zL) (M : zM) (x1 x2 x3 x4 : Int), InR x1 → InR x2 → InR x3 → InR x4 → ∀ (H : Heap) (locs : List Loc) (ls : Array Slot) (cN sN : Nat), zS G top L M s H locs → zLV ls 7 [some (.ref b), some (zR G.2.2.1 x1), some (zR G.2.2.1 x2), some (zR G.2.2.1 x3), some (.int (zO x4)), none, none] → 6 * (cN : Int) + 7 * ((Ln : Int) - x4) ≤ 3606144 ∧ x4 ≤ (Ln : Int) → 6 * (sN : Int) + 3611 * ((Ln : Int) - x4) ≤ 43758204 → k top L M x1 x2 x3 x4 = some 1 → W p l e room_1 s m #[Value.ref b] below meth c H locs cN sN (lw_Z below #[Value.ref b] s) (F0 m 23 ls [])) {top : Int} {L : zL} {M : zM} {x1 x2 x3 x4 : Int} {H : Heap} {locs : List Loc} {ls : Array Slot} {cN sN : Nat} (hx1 : InR x1) (hx2 : InR x2) (hx3 : InR x3) (hx4 : InR x4) (S : zS G top L M s H locs) (hl : zLV ls 7 [some (.ref b), some (zR G.2.2.1 x1), some (zR G.2.2.1 x2), some (zR G.2.2.1 x3), some (.int (zO x4)), none, none]) (hc : 6 * (cN : Int) + 7 * ((Ln : Int) - x4) ≤ 3606144 ∧ x4 ≤ (Ln : Int)) (hs : 6 * (sN : Int) + 3611 * ((Ln : Int) - x4) ≤ 43758204) (hi : x4 ≤ (Ln : Int) - 6) (h : Lw_c1197 fu (zX xs) Ln k top L M x1 x2 x3 x4 = some 1) : W p l e room_1 s m #[Value.ref b] below meth c H locs cN sN (lw_Z below #[Value.ref b] s) (F0 m 1197 ls []) := by
  unfold Lw_c1197 at h
  have e6 : w32 (x4 + 6) = x4 + 6 := w32_id ⟨by omega, by omega⟩
  refine u_al_n (x := x1) E (Lw_dc14.at 41 rfl) hl rfl ?_
  refine r_aloadS_n E (Lw_dc14.at 42 rfl) hl rfl ?_
  refine u_il (x := x4) E (Lw_dc14.at 43 rfl) hl rfl ?_
  refine r_iconst E (Lw_dc14.at 44 rfl) ?_
  refine r_iadd E (Lw_dc14.at 45 rfl) ?_
  obtain ⟨g398, h⟩ := ite_e h
  refine u_sld E hX hbl hB (by omega) S g398 (Lw_dc14.at 46 rfl) ?_
  obtain ⟨g399, h⟩ := ite_e h
  obtain ⟨M401, r400, er400, h⟩ := bd2_e h
  refine u_cVI (As := [.int (zO (zX xs (w32 (x4 + 1))))]) (rest := []) E S zcw_yX11_lowered zw_6_3 zw_6_4 zw_6_2 zck_11.1 rfl g399 (Lx_lowered_c l G fu top L M x1 (zX xs (w32 (x4 + 1))) hx1 (inR_zX _ _) er400) (zrm_law (by decide) (by decide)) ⟨by show _ ≤ 601024; omega, by show _ ≤ 7293034; omega⟩ rfl (Nat.zero_le 8) hl.size rfl (Lw_dc14.at 47 rfl) (fun H locs hr400 S402 => ?_)
  refine u_al_n (x := x2) E (Lw_dc15.at 0 rfl) hl rfl ?_
  refine r_aloadS_n E (Lw_dc15.at 1 rfl) hl rfl ?_
  refine u_il (x := x4) E (Lw_dc15.at 2 rfl) hl rfl ?_
  refine r_iconst E (Lw_dc15.at 3 rfl) ?_
  refine r_iadd E (Lw_dc15.at 4 rfl) ?_
  obtain ⟨g403, h⟩ := ite_e h
  refine u_sld E hX hbl hB (by omega) S402 g403 (Lw_dc15.at 5 rfl) ?_
  obtain ⟨g404, h⟩ := ite_e h
  obtain ⟨M406, r405, er405, h⟩ := bd2_e h
  refine u_cVI (As := [.int (zO (zX xs (w32 (x4 + 1))))]) (rest := [.int (zO r400)]) E S402 zcw_yX12_lowered zw_9_185 zw_9_186 zw_9_184 zck_12.1 rfl g404 (Mo_lowered_c l G fu top L M401 x2 (zX xs (w32 (x4 + 1))) hx2 (inR_zX _ _) er405) (zrm_law (by decide) (by decide)) ⟨by show _ ≤ 601024; omega, by show _ ≤ 7293034; omega⟩ rfl (by simp [zR_cat, zcat_I, zcat_J, zcat_S]) hl.size rfl (Lw_dc15.at 6 rfl) (fun H locs hr405 S407 => ?_)
  refine r_icmp_eq (tgt := 1497) E hr400 hr405 (Lw_dc15.at 7 rfl) (by decide) (fun q => ?_) (fun q => ?_)
  · have h := ite_t h q
    obtain ⟨v408, ev408, h⟩ := lt1_e h
    have hv408 := inR_eq ev408 (inR_w32 _)
    refine u_iinc (y := v408) (vs' := [some (.ref b), some (zR G.2.2.1 x1), some (zR G.2.2.1 x2), some (zR G.2.2.1 x3), some (.int (zO v408)), none, none]) E ev408 (Lw_dc19.at 5 rfl) hl rfl (by decide) rfl (fun ls hl => ?_)
    refine r_goto (tgt := 23) E (Lw_dc19.at 6 rfl) (by decide) ?_
    exact hk _ _ _ x1 x2 x3 v408 hx1 hx2 hx3 hv408 _ _ _ _ _ S407 (hl.sub (And.intro rfl (And.intro rfl (And.intro rfl (And.intro rfl (And.intro rfl True.intro)))))) (by omega) (by omega) h
  · have h := ite_f h q
    refine r_iconst E (Lw_dc15.at 8 rfl) ?_
    exact absurd (Option.some.inj h) (by decide)
theorem Lw_c1222_w (E : zEv p m c code 7 s #[Value.ref b] "LaterLivesLaw" meth ret G) (hX : va_X b Ln xs s s.heap) (hbl : b < s.heap.size) (hB : G.2.2.1 + 1 = s.heap.size) (hLn : Ln ≤ 3072) (hlf : l.stackTraces = false) {k : Int → zL → zM → Int → Int → Int → Int → Option Int} (hk : ∀ (top : Int) (L : zL) (M : zM) (x1 x2 x3 x4 : Int), InR x1 → InR x2 → InR x3 → InR x4 → ∀ (H : Heap) (locs : List Loc) (ls : Array Slot) (cN sN : Nat), zS G top L M s H locs → zLV ls 7 [some (.ref b), some (zR G.2.2.1 x1), some (zR G.2.2.1 x2), some (zR G.2.2.1 x3), some (.int (zO x4)), none, none] → 6 * (cN : Int) + 7 * ((Ln : Int) - x4) ≤ 3606144 ∧ x4 ≤ (Ln : Int) → 6 * (sN : Int) + 3611 * ((Ln : Int) - x4) ≤ 43758204 → k top L M x1 x2 x3 x4 = some 1 → W p l e room_1 s m #[Value.ref b] below meth c H locs cN sN (lw_Z below #[Value.ref b] s) (F0 m 23 ls [])) {top : Int} {L : zL} {M : zM} {x1 x2 x3 x4 : Int} {H : Heap} {locs : List Loc} {ls : Array Slot} {cN sN : Nat} (hx1 : InR x1) (hx2 : InR x2) (hx3 : InR x3) (hx4 : InR x4) (S : zS G top L M s H locs) (hl : zLV ls 7 [some (.ref b), some (zR G.2.2.1 x1), some (zR G.2.2.1 x2), some (zR G.2.2.1 x3), some (.int (zO x4)), none, none]) (hc : 6 * (cN : Int) + 7 * ((Ln : Int) - x4) ≤ 3606144 ∧ x4 ≤ (Ln : Int)) (hs : 6 * (sN : Int) + 3611 * ((Ln : Int) - x4) ≤ 43758204) (hi : x4 ≤ (Ln : Int) - 6) (h : Lw_c1222 fu (zX xs) Ln k top L M x1 x2 x3 x4 = some 1) : W p l e room_1 s m #[Value.ref b] below meth c H locs cN sN (lw_Z below #[Value.ref b] s) (F0 m 1222 ls []) := by
  unfold Lw_c1222 at h
  have e6 : w32 (x4 + 6) = x4 + 6 := w32_id ⟨by omega, by omega⟩
  refine u_al_n (x := x1) E (Lw_dc15.at 10 rfl) hl rfl ?_
  refine r_aloadS_n E (Lw_dc15.at 11 rfl) hl rfl ?_
  refine u_il (x := x4) E (Lw_dc15.at 12 rfl) hl rfl ?_
  refine r_iconst E (Lw_dc15.at 13 rfl) ?_
  refine r_iadd E (Lw_dc15.at 14 rfl) ?_
  obtain ⟨g410, h⟩ := ite_e h
  refine u_sld E hX hbl hB (by omega) S g410 (Lw_dc15.at 15 rfl) ?_
  obtain ⟨g411, h⟩ := ite_e h
  obtain ⟨M413, r412, er412, h⟩ := bd2_e h
  refine u_cVI (As := [.int (zO (zX xs (w32 (x4 + 1))))]) (rest := []) E S zcw_yX11_witness zw_6_7 zw_6_8 zw_6_6 zck_11.1 rfl g411 (Lx_witness_c l G fu top L M x1 (zX xs (w32 (x4 + 1))) hx1 (inR_zX _ _) er412) (zrm_law (by decide) (by decide)) ⟨by show _ ≤ 601024; omega, by show _ ≤ 7293034; omega⟩ rfl (Nat.zero_le 8) hl.size rfl (Lw_dc15.at 16 rfl) (fun H locs hr412 S414 => ?_)
  refine u_al_n (x := x2) E (Lw_dc15.at 17 rfl) hl rfl ?_
  refine r_aloadS_n E (Lw_dc15.at 18 rfl) hl rfl ?_
  refine u_il (x := x4) E (Lw_dc15.at 19 rfl) hl rfl ?_
  refine r_iconst E (Lw_dc15.at 20 rfl) ?_
  refine r_iadd E (Lw_dc15.at 21 rfl) ?_
  obtain ⟨g415, h⟩ := ite_e h
  refine u_sld E hX hbl hB (by omega) S414 g415 (Lw_dc15.at 22 rfl) ?_
  obtain ⟨g416, h⟩ := ite_e h
  obtain ⟨M418, r417, er417, h⟩ := bd2_e h
  refine u_cVI (As := [.int (zO (zX xs (w32 (x4 + 1))))]) (rest := [.int (zO r412)]) E S414 zcw_yX12_witness zw_9_205 zw_9_206 zw_9_204 zck_12.1 rfl g416 (Mo_witness_c l G fu top L M413 x2 (zX xs (w32 (x4 + 1))) hx2 (inR_zX _ _) er417) (zrm_law (by decide) (by decide)) ⟨by show _ ≤ 601024; omega, by show _ ≤ 7293034; omega⟩ rfl (by simp [zR_cat, zcat_I, zcat_J, zcat_S]) hl.size rfl (Lw_dc15.at 23 rfl) (fun H locs hr417 S419 => ?_)
  refine r_icmp_eq (tgt := 1497) E hr412 hr417 (Lw_dc15.at 24 rfl) (by decide) (fun q => ?_) (fun q => ?_)
  · have h := ite_t h q
    obtain ⟨v420, ev420, h⟩ := lt1_e h
    have hv420 := inR_eq ev420 (inR_w32 _)
    refine u_iinc (y := v420) (vs' := [some (.ref b), some (zR G.2.2.1 x1), some (zR G.2.2.1 x2), some (zR G.2.2.1 x3), some (.int (zO v420)), none, none]) E ev420 (Lw_dc19.at 5 rfl) hl rfl (by decide) rfl (fun ls hl => ?_)
    refine r_goto (tgt := 23) E (Lw_dc19.at 6 rfl) (by decide) ?_
    exact hk _ _ _ x1 x2 x3 v420 hx1 hx2 hx3 hv420 _ _ _ _ _ S419 (hl.sub (And.intro rfl (And.intro rfl (And.intro rfl (And.intro rfl (And.intro rfl True.intro)))))) (by omega) (by omega) h
  · have h := ite_f h q
    refine r_iconst E (Lw_dc15.at 25 rfl) ?_
    exact absurd (Option.some.inj h) (by decide)
theorem Lw_c1247_w (E : zEv p m c code 7 s #[Value.ref b] "LaterLivesLaw" meth ret G) (hX : va_X b Ln xs s s.heap) (hbl : b < s.heap.size) (hB : G.2.2.1 + 1 = s.heap.size) (hLn : Ln ≤ 3072) (hlf : l.stackTraces = false) {k : Int → zL → zM → Int → Int → Int → Int → Option Int} (hk : ∀ (top : Int) (L : zL) (M : zM) (x1 x2 x3 x4 : Int), InR x1 → InR x2 → InR x3 → InR x4 → ∀ (H : Heap) (locs : List Loc) (ls : Array Slot) (cN sN : Nat), zS G top L M s H locs → zLV ls 7 [some (.ref b), some (zR G.2.2.1 x1), some (zR G.2.2.1 x2), some (zR G.2.2.1 x3), some (.int (zO x4)), none, none] → 6 * (cN : Int) + 7 * ((Ln : Int) - x4) ≤ 3606144 ∧ x4 ≤ (Ln : Int) → 6 * (sN : Int) + 3611 * ((Ln : Int) - x4) ≤ 43758204 → k top L M x1 x2 x3 x4 = some 1 → W p l e room_1 s m #[Value.ref b] below meth c H locs cN sN (lw_Z below #[Value.ref b] s) (F0 m 23 ls [])) {top : Int} {L : zL} {M : zM} {x1 x2 x3 x4 : Int} {H : Heap} {locs : List Loc} {ls : Array Slot} {cN sN : Nat} (hx1 : InR x1) (hx2 : InR x2) (hx3 : InR x3) (hx4 : InR x4) (S : zS G top L M s H locs) (hl : zLV ls 7 [some (.ref b), some (zR G.2.2.1 x1), some (zR G.2.2.1 x2), some (zR G.2.2.1 x3), some (.int (zO x4)), none, none]) (hc : 6 * (cN : Int) + 7 * ((Ln : Int) - x4) ≤ 3606144 ∧ x4 ≤ (Ln : Int)) (hs : 6 * (sN : Int) + 3611 * ((Ln : Int) - x4) ≤ 43758204) (hi : x4 ≤ (Ln : Int) - 6) (h : Lw_c1247 fu (zX xs) Ln k top L M x1 x2 x3 x4 = some 1) : W p l e room_1 s m #[Value.ref b] below meth c H locs cN sN (lw_Z below #[Value.ref b] s) (F0 m 1247 ls []) := by
  unfold Lw_c1247 at h
  have e6 : w32 (x4 + 6) = x4 + 6 := w32_id ⟨by omega, by omega⟩
  refine u_al_n (x := x1) E (Lw_dc15.at 27 rfl) hl rfl ?_
  refine r_aloadS_n E (Lw_dc15.at 28 rfl) hl rfl ?_
  refine u_il (x := x4) E (Lw_dc15.at 29 rfl) hl rfl ?_
  refine r_iconst E (Lw_dc15.at 30 rfl) ?_
  refine r_iadd E (Lw_dc15.at 31 rfl) ?_
  obtain ⟨g422, h⟩ := ite_e h
  refine u_sld E hX hbl hB (by omega) S g422 (Lw_dc15.at 32 rfl) ?_
  refine r_aloadS_n E (Lw_dc15.at 33 rfl) hl rfl ?_
  refine u_il (x := x4) E (Lw_dc15.at 34 rfl) hl rfl ?_
  refine r_iconst E (Lw_dc15.at 35 rfl) ?_
  refine r_iadd E (Lw_dc15.at 36 rfl) ?_
  obtain ⟨g423, h⟩ := ite_e h
  refine u_sld E hX hbl hB (by omega) S g423 (Lw_dc15.at 37 rfl) ?_
  refine r_aloadS_n E (Lw_dc15.at 38 rfl) hl rfl ?_
  refine u_il (x := x4) E (Lw_dc15.at 39 rfl) hl rfl ?_
  refine r_iconst E (Lw_dc15.at 40 rfl) ?_
  refine r_iadd E (Lw_dc15.at 41 rfl) ?_
  obtain ⟨g424, h⟩ := ite_e h
  refine u_sld E hX hbl hB (by omega) S g424 (Lw_dc15.at 42 rfl) ?_
  refine r_aloadS_n E (Lw_dc15.at 43 rfl) hl rfl ?_
  refine u_il (x := x4) E (Lw_dc15.at 44 rfl) hl rfl ?_
  refine r_iconst E (Lw_dc15.at 45 rfl) ?_
  refine r_iadd E (Lw_dc15.at 46 rfl) ?_
  obtain ⟨g425, h⟩ := ite_e h
  refine u_sld E hX hbl hB (by omega) S g425 (Lw_dc15.at 47 rfl) ?_
  obtain ⟨g426, h⟩ := ite_e h
  obtain ⟨M428, r427, er427, h⟩ := bd2_e h
  refine u_cVI (As := [.int (zO (zX xs (w32 (x4 + 1)))), .int (zO (zX xs (w32 (x4 + 2)))), .int (zO (zX xs (w32 (x4 + 3)))), .int (zO (zX xs (w32 (x4 + 4))))]) (rest := []) E S zcw_yX11_course zw_6_35 zw_6_36 zw_6_34 zck_11.1 rfl g426 (Lx_course_c l G fu top L M x1 (zX xs (w32 (x4 + 1))) (zX xs (w32 (x4 + 2))) (zX xs (w32 (x4 + 3))) (zX xs (w32 (x4 + 4))) hx1 (inR_zX _ _) (inR_zX _ _) (inR_zX _ _) (inR_zX _ _) er427) (zrm_law (by decide) (by decide)) ⟨by show _ ≤ 601024; omega, by show _ ≤ 7293034; omega⟩ rfl (Nat.zero_le 8) hl.size rfl (Lw_dc16.at 0 rfl) (fun H locs hr427 S429 => ?_)
  refine u_al_n (x := x2) E (Lw_dc16.at 1 rfl) hl rfl ?_
  refine r_aloadS_n E (Lw_dc16.at 2 rfl) hl rfl ?_
  refine u_il (x := x4) E (Lw_dc16.at 3 rfl) hl rfl ?_
  refine r_iconst E (Lw_dc16.at 4 rfl) ?_
  refine r_iadd E (Lw_dc16.at 5 rfl) ?_
  obtain ⟨g430, h⟩ := ite_e h
  refine u_sld E hX hbl hB (by omega) S429 g430 (Lw_dc16.at 6 rfl) ?_
  refine r_aloadS_n E (Lw_dc16.at 7 rfl) hl rfl ?_
  refine u_il (x := x4) E (Lw_dc16.at 8 rfl) hl rfl ?_
  refine r_iconst E (Lw_dc16.at 9 rfl) ?_
  refine r_iadd E (Lw_dc16.at 10 rfl) ?_
  obtain ⟨g431, h⟩ := ite_e h
  refine u_sld E hX hbl hB (by omega) S429 g431 (Lw_dc16.at 11 rfl) ?_
  refine r_aloadS_n E (Lw_dc16.at 12 rfl) hl rfl ?_
  refine u_il (x := x4) E (Lw_dc16.at 13 rfl) hl rfl ?_
  refine r_iconst E (Lw_dc16.at 14 rfl) ?_
  refine r_iadd E (Lw_dc16.at 15 rfl) ?_
  obtain ⟨g432, h⟩ := ite_e h
  refine u_sld E hX hbl hB (by omega) S429 g432 (Lw_dc16.at 16 rfl) ?_
  refine r_aloadS_n E (Lw_dc16.at 17 rfl) hl rfl ?_
  refine u_il (x := x4) E (Lw_dc16.at 18 rfl) hl rfl ?_
  refine r_iconst E (Lw_dc16.at 19 rfl) ?_
  refine r_iadd E (Lw_dc16.at 20 rfl) ?_
  obtain ⟨g433, h⟩ := ite_e h
  refine u_sld E hX hbl hB (by omega) S429 g433 (Lw_dc16.at 21 rfl) ?_
  obtain ⟨g434, h⟩ := ite_e h
  obtain ⟨M436, r435, er435, h⟩ := bd2_e h
  refine u_cVI (As := [.int (zO (zX xs (w32 (x4 + 1)))), .int (zO (zX xs (w32 (x4 + 2)))), .int (zO (zX xs (w32 (x4 + 3)))), .int (zO (zX xs (w32 (x4 + 4))))]) (rest := [.int (zO r427)]) E S429 zcw_yX12_course zw_9_189 zw_9_190 zw_9_188 zck_12.1 rfl g434 (Mo_course_c l G fu top L M428 x2 (zX xs (w32 (x4 + 1))) (zX xs (w32 (x4 + 2))) (zX xs (w32 (x4 + 3))) (zX xs (w32 (x4 + 4))) hx2 (inR_zX _ _) (inR_zX _ _) (inR_zX _ _) (inR_zX _ _) er435) (zrm_law (by decide) (by decide)) ⟨by show _ ≤ 601024; omega, by show _ ≤ 7293034; omega⟩ rfl (by simp [zR_cat, zcat_I, zcat_J, zcat_S]) hl.size rfl (Lw_dc16.at 22 rfl) (fun H locs hr435 S437 => ?_)
  refine r_icmp_eq (tgt := 1497) E hr427 hr435 (Lw_dc16.at 23 rfl) (by decide) (fun q => ?_) (fun q => ?_)
  · have h := ite_t h q
    obtain ⟨v438, ev438, h⟩ := lt1_e h
    have hv438 := inR_eq ev438 (inR_w32 _)
    refine u_iinc (y := v438) (vs' := [some (.ref b), some (zR G.2.2.1 x1), some (zR G.2.2.1 x2), some (zR G.2.2.1 x3), some (.int (zO v438)), none, none]) E ev438 (Lw_dc19.at 5 rfl) hl rfl (by decide) rfl (fun ls hl => ?_)
    refine r_goto (tgt := 23) E (Lw_dc19.at 6 rfl) (by decide) ?_
    exact hk _ _ _ x1 x2 x3 v438 hx1 hx2 hx3 hv438 _ _ _ _ _ S437 (hl.sub (And.intro rfl (And.intro rfl (And.intro rfl (And.intro rfl (And.intro rfl True.intro)))))) (by omega) (by omega) h
  · have h := ite_f h q
    refine r_iconst E (Lw_dc16.at 24 rfl) ?_
    exact absurd (Option.some.inj h) (by decide)
theorem Lw_c1308_w (E : zEv p m c code 7 s #[Value.ref b] "LaterLivesLaw" meth ret G) (hX : va_X b Ln xs s s.heap) (hbl : b < s.heap.size) (hB : G.2.2.1 + 1 = s.heap.size) (hLn : Ln ≤ 3072) (hlf : l.stackTraces = false) {k : Int → zL → zM → Int → Int → Int → Int → Option Int} (hk : ∀ (top : Int) (L : zL) (M : zM) (x1 x2 x3 x4 : Int), InR x1 → InR x2 → InR x3 → InR x4 → ∀ (H : Heap) (locs : List Loc) (ls : Array Slot) (cN sN : Nat), zS G top L M s H locs → zLV ls 7 [some (.ref b), some (zR G.2.2.1 x1), some (zR G.2.2.1 x2), some (zR G.2.2.1 x3), some (.int (zO x4)), none, none] → 6 * (cN : Int) + 7 * ((Ln : Int) - x4) ≤ 3606144 ∧ x4 ≤ (Ln : Int) → 6 * (sN : Int) + 3611 * ((Ln : Int) - x4) ≤ 43758204 → k top L M x1 x2 x3 x4 = some 1 → W p l e room_1 s m #[Value.ref b] below meth c H locs cN sN (lw_Z below #[Value.ref b] s) (F0 m 23 ls [])) {top : Int} {L : zL} {M : zM} {x1 x2 x3 x4 : Int} {H : Heap} {locs : List Loc} {ls : Array Slot} {cN sN : Nat} (hx1 : InR x1) (hx2 : InR x2) (hx3 : InR x3) (hx4 : InR x4) (S : zS G top L M s H locs) (hl : zLV ls 7 [some (.ref b), some (zR G.2.2.1 x1), some (zR G.2.2.1 x2), some (zR G.2.2.1 x3), some (.int (zO x4)), none, none]) (hc : 6 * (cN : Int) + 7 * ((Ln : Int) - x4) ≤ 3606144 ∧ x4 ≤ (Ln : Int)) (hs : 6 * (sN : Int) + 3611 * ((Ln : Int) - x4) ≤ 43758204) (hi : x4 ≤ (Ln : Int) - 6) (h : Lw_c1308 fu (zX xs) Ln k top L M x1 x2 x3 x4 = some 1) : W p l e room_1 s m #[Value.ref b] below meth c H locs cN sN (lw_Z below #[Value.ref b] s) (F0 m 1308 ls []) := by
  unfold Lw_c1308 at h
  have e6 : w32 (x4 + 6) = x4 + 6 := w32_id ⟨by omega, by omega⟩
  refine u_al_n (x := x1) E (Lw_dc16.at 26 rfl) hl rfl ?_
  refine r_aloadS_n E (Lw_dc16.at 27 rfl) hl rfl ?_
  refine u_il (x := x4) E (Lw_dc16.at 28 rfl) hl rfl ?_
  refine r_iconst E (Lw_dc16.at 29 rfl) ?_
  refine r_iadd E (Lw_dc16.at 30 rfl) ?_
  obtain ⟨g440, h⟩ := ite_e h
  refine u_sld E hX hbl hB (by omega) S g440 (Lw_dc16.at 31 rfl) ?_
  obtain ⟨g441, h⟩ := ite_e h
  obtain ⟨M443, r442, er442, h⟩ := bd2_e h
  refine u_cVI (As := [.int (zO (zX xs (w32 (x4 + 1))))]) (rest := []) E S zcw_yX11_lates zw_6_44 zw_6_45 zw_6_43 zck_11.1 rfl g441 (Lx_lates_c l G fu top L M x1 (zX xs (w32 (x4 + 1))) hx1 (inR_zX _ _) er442) (zrm_law (by decide) (by decide)) ⟨by show _ ≤ 601024; omega, by show _ ≤ 7293034; omega⟩ rfl (Nat.zero_le 8) hl.size rfl (Lw_dc16.at 32 rfl) (fun H locs hr442 S444 => ?_)
  refine u_al_n (x := x2) E (Lw_dc16.at 33 rfl) hl rfl ?_
  refine r_aloadS_n E (Lw_dc16.at 34 rfl) hl rfl ?_
  refine u_il (x := x4) E (Lw_dc16.at 35 rfl) hl rfl ?_
  refine r_iconst E (Lw_dc16.at 36 rfl) ?_
  refine r_iadd E (Lw_dc16.at 37 rfl) ?_
  obtain ⟨g445, h⟩ := ite_e h
  refine u_sld E hX hbl hB (by omega) S444 g445 (Lw_dc16.at 38 rfl) ?_
  obtain ⟨g446, h⟩ := ite_e h
  obtain ⟨M448, r447, er447, h⟩ := bd2_e h
  refine u_cVI (As := [.int (zO (zX xs (w32 (x4 + 1))))]) (rest := [.int (zO r442)]) E S444 zcw_yX12_lates zw_9_213 zw_9_214 zw_9_212 zck_12.1 rfl g446 (Mo_lates_c l G fu top L M443 x2 (zX xs (w32 (x4 + 1))) hx2 (inR_zX _ _) er447) (zrm_law (by decide) (by decide)) ⟨by show _ ≤ 601024; omega, by show _ ≤ 7293034; omega⟩ rfl (by simp [zR_cat, zcat_I, zcat_J, zcat_S]) hl.size rfl (Lw_dc16.at 39 rfl) (fun H locs hr447 S449 => ?_)
  refine r_icmp_eq (tgt := 1497) E hr442 hr447 (Lw_dc16.at 40 rfl) (by decide) (fun q => ?_) (fun q => ?_)
  · have h := ite_t h q
    obtain ⟨v450, ev450, h⟩ := lt1_e h
    have hv450 := inR_eq ev450 (inR_w32 _)
    refine u_iinc (y := v450) (vs' := [some (.ref b), some (zR G.2.2.1 x1), some (zR G.2.2.1 x2), some (zR G.2.2.1 x3), some (.int (zO v450)), none, none]) E ev450 (Lw_dc19.at 5 rfl) hl rfl (by decide) rfl (fun ls hl => ?_)
    refine r_goto (tgt := 23) E (Lw_dc19.at 6 rfl) (by decide) ?_
    exact hk _ _ _ x1 x2 x3 v450 hx1 hx2 hx3 hv450 _ _ _ _ _ S449 (hl.sub (And.intro rfl (And.intro rfl (And.intro rfl (And.intro rfl (And.intro rfl True.intro)))))) (by omega) (by omega) h
  · have h := ite_f h q
    refine r_iconst E (Lw_dc16.at 41 rfl) ?_
    exact absurd (Option.some.inj h) (by decide)
theorem Lw_c1333_w (E : zEv p m c code 7 s #[Value.ref b] "LaterLivesLaw" meth ret G) (hX : va_X b Ln xs s s.heap) (hbl : b < s.heap.size) (hB : G.2.2.1 + 1 = s.heap.size) (hLn : Ln ≤ 3072) (hlf : l.stackTraces = false) {k : Int → zL → zM → Int → Int → Int → Int → Option Int} (hk : ∀ (top : Int) (L : zL) (M : zM) (x1 x2 x3 x4 : Int), InR x1 → InR x2 → InR x3 → InR x4 → ∀ (H : Heap) (locs : List Loc) (ls : Array Slot) (cN sN : Nat), zS G top L M s H locs → zLV ls 7 [some (.ref b), some (zR G.2.2.1 x1), some (zR G.2.2.1 x2), some (zR G.2.2.1 x3), some (.int (zO x4)), none, none] → 6 * (cN : Int) + 7 * ((Ln : Int) - x4) ≤ 3606144 ∧ x4 ≤ (Ln : Int) → 6 * (sN : Int) + 3611 * ((Ln : Int) - x4) ≤ 43758204 → k top L M x1 x2 x3 x4 = some 1 → W p l e room_1 s m #[Value.ref b] below meth c H locs cN sN (lw_Z below #[Value.ref b] s) (F0 m 23 ls [])) {top : Int} {L : zL} {M : zM} {x1 x2 x3 x4 : Int} {H : Heap} {locs : List Loc} {ls : Array Slot} {cN sN : Nat} (hx1 : InR x1) (hx2 : InR x2) (hx3 : InR x3) (hx4 : InR x4) (S : zS G top L M s H locs) (hl : zLV ls 7 [some (.ref b), some (zR G.2.2.1 x1), some (zR G.2.2.1 x2), some (zR G.2.2.1 x3), some (.int (zO x4)), none, none]) (hc : 6 * (cN : Int) + 7 * ((Ln : Int) - x4) ≤ 3606144 ∧ x4 ≤ (Ln : Int)) (hs : 6 * (sN : Int) + 3611 * ((Ln : Int) - x4) ≤ 43758204) (hi : x4 ≤ (Ln : Int) - 6) (h : Lw_c1333 fu (zX xs) Ln k top L M x1 x2 x3 x4 = some 1) : W p l e room_1 s m #[Value.ref b] below meth c H locs cN sN (lw_Z below #[Value.ref b] s) (F0 m 1333 ls []) := by
  unfold Lw_c1333 at h
  have e6 : w32 (x4 + 6) = x4 + 6 := w32_id ⟨by omega, by omega⟩
  refine u_al_n (x := x1) E (Lw_dc16.at 43 rfl) hl rfl ?_
  refine r_aloadS_n E (Lw_dc16.at 44 rfl) hl rfl ?_
  refine u_il (x := x4) E (Lw_dc16.at 45 rfl) hl rfl ?_
  refine r_iconst E (Lw_dc16.at 46 rfl) ?_
  refine r_iadd E (Lw_dc16.at 47 rfl) ?_
  obtain ⟨g452, h⟩ := ite_e h
  refine u_sld E hX hbl hB (by omega) S g452 (Lw_dc17.at 0 rfl) ?_
  refine r_aloadS_n E (Lw_dc17.at 1 rfl) hl rfl ?_
  refine u_il (x := x4) E (Lw_dc17.at 2 rfl) hl rfl ?_
  refine r_iconst E (Lw_dc17.at 3 rfl) ?_
  refine r_iadd E (Lw_dc17.at 4 rfl) ?_
  obtain ⟨g453, h⟩ := ite_e h
  refine u_sld E hX hbl hB (by omega) S g453 (Lw_dc17.at 5 rfl) ?_
  obtain ⟨g454, h⟩ := ite_e h
  obtain ⟨M456, r455, er455, h⟩ := bd2_e h
  refine u_cVI (As := [.int (zO (zX xs (w32 (x4 + 1)))), .int (zO (zX xs (w32 (x4 + 2))))]) (rest := []) E S zcw_yX11_worst zw_6_52 zw_6_53 zw_6_51 zck_11.1 rfl g454 (Lx_worst_c l G fu top L M x1 (zX xs (w32 (x4 + 1))) (zX xs (w32 (x4 + 2))) hx1 (inR_zX _ _) (inR_zX _ _) er455) (zrm_law (by decide) (by decide)) ⟨by show _ ≤ 601024; omega, by show _ ≤ 7293034; omega⟩ rfl (Nat.zero_le 8) hl.size rfl (Lw_dc17.at 6 rfl) (fun H locs hr455 S457 => ?_)
  refine u_al_n (x := x2) E (Lw_dc17.at 7 rfl) hl rfl ?_
  refine r_aloadS_n E (Lw_dc17.at 8 rfl) hl rfl ?_
  refine u_il (x := x4) E (Lw_dc17.at 9 rfl) hl rfl ?_
  refine r_iconst E (Lw_dc17.at 10 rfl) ?_
  refine r_iadd E (Lw_dc17.at 11 rfl) ?_
  obtain ⟨g458, h⟩ := ite_e h
  refine u_sld E hX hbl hB (by omega) S457 g458 (Lw_dc17.at 12 rfl) ?_
  refine r_aloadS_n E (Lw_dc17.at 13 rfl) hl rfl ?_
  refine u_il (x := x4) E (Lw_dc17.at 14 rfl) hl rfl ?_
  refine r_iconst E (Lw_dc17.at 15 rfl) ?_
  refine r_iadd E (Lw_dc17.at 16 rfl) ?_
  obtain ⟨g459, h⟩ := ite_e h
  refine u_sld E hX hbl hB (by omega) S457 g459 (Lw_dc17.at 17 rfl) ?_
  obtain ⟨g460, h⟩ := ite_e h
  obtain ⟨M462, r461, er461, h⟩ := bd2_e h
  refine u_cVI (As := [.int (zO (zX xs (w32 (x4 + 1)))), .int (zO (zX xs (w32 (x4 + 2))))]) (rest := [.int (zO r455)]) E S457 zcw_yX12_worst zw_9_217 zw_9_218 zw_9_216 zck_12.1 rfl g460 (Mo_worst_c l G fu top L M456 x2 (zX xs (w32 (x4 + 1))) (zX xs (w32 (x4 + 2))) hx2 (inR_zX _ _) (inR_zX _ _) er461) (zrm_law (by decide) (by decide)) ⟨by show _ ≤ 601024; omega, by show _ ≤ 7293034; omega⟩ rfl (by simp [zR_cat, zcat_I, zcat_J, zcat_S]) hl.size rfl (Lw_dc17.at 18 rfl) (fun H locs hr461 S463 => ?_)
  refine r_icmp_eq (tgt := 1497) E hr455 hr461 (Lw_dc17.at 19 rfl) (by decide) (fun q => ?_) (fun q => ?_)
  · have h := ite_t h q
    obtain ⟨v464, ev464, h⟩ := lt1_e h
    have hv464 := inR_eq ev464 (inR_w32 _)
    refine u_iinc (y := v464) (vs' := [some (.ref b), some (zR G.2.2.1 x1), some (zR G.2.2.1 x2), some (zR G.2.2.1 x3), some (.int (zO v464)), none, none]) E ev464 (Lw_dc19.at 5 rfl) hl rfl (by decide) rfl (fun ls hl => ?_)
    refine r_goto (tgt := 23) E (Lw_dc19.at 6 rfl) (by decide) ?_
    exact hk _ _ _ x1 x2 x3 v464 hx1 hx2 hx3 hv464 _ _ _ _ _ S463 (hl.sub (And.intro rfl (And.intro rfl (And.intro rfl (And.intro rfl (And.intro rfl True.intro)))))) (by omega) (by omega) h
  · have h := ite_f h q
    refine r_iconst E (Lw_dc17.at 20 rfl) ?_
    exact absurd (Option.some.inj h) (by decide)
theorem Lw_c1370_w (E : zEv p m c code 7 s #[Value.ref b] "LaterLivesLaw" meth ret G) (hX : va_X b Ln xs s s.heap) (hbl : b < s.heap.size) (hB : G.2.2.1 + 1 = s.heap.size) (hLn : Ln ≤ 3072) (hlf : l.stackTraces = false) {k : Int → zL → zM → Int → Int → Int → Int → Option Int} (hk : ∀ (top : Int) (L : zL) (M : zM) (x1 x2 x3 x4 : Int), InR x1 → InR x2 → InR x3 → InR x4 → ∀ (H : Heap) (locs : List Loc) (ls : Array Slot) (cN sN : Nat), zS G top L M s H locs → zLV ls 7 [some (.ref b), some (zR G.2.2.1 x1), some (zR G.2.2.1 x2), some (zR G.2.2.1 x3), some (.int (zO x4)), none, none] → 6 * (cN : Int) + 7 * ((Ln : Int) - x4) ≤ 3606144 ∧ x4 ≤ (Ln : Int) → 6 * (sN : Int) + 3611 * ((Ln : Int) - x4) ≤ 43758204 → k top L M x1 x2 x3 x4 = some 1 → W p l e room_1 s m #[Value.ref b] below meth c H locs cN sN (lw_Z below #[Value.ref b] s) (F0 m 23 ls [])) {top : Int} {L : zL} {M : zM} {x1 x2 x3 x4 : Int} {H : Heap} {locs : List Loc} {ls : Array Slot} {cN sN : Nat} (hx1 : InR x1) (hx2 : InR x2) (hx3 : InR x3) (hx4 : InR x4) (S : zS G top L M s H locs) (hl : zLV ls 7 [some (.ref b), some (zR G.2.2.1 x1), some (zR G.2.2.1 x2), some (zR G.2.2.1 x3), some (.int (zO x4)), none, none]) (hc : 6 * (cN : Int) + 7 * ((Ln : Int) - x4) ≤ 3606144 ∧ x4 ≤ (Ln : Int)) (hs : 6 * (sN : Int) + 3611 * ((Ln : Int) - x4) ≤ 43758204) (hi : x4 ≤ (Ln : Int) - 6) (h : Lw_c1370 fu (zX xs) Ln k top L M x1 x2 x3 x4 = some 1) : W p l e room_1 s m #[Value.ref b] below meth c H locs cN sN (lw_Z below #[Value.ref b] s) (F0 m 1370 ls []) := by
  unfold Lw_c1370 at h
  have e6 : w32 (x4 + 6) = x4 + 6 := w32_id ⟨by omega, by omega⟩
  refine u_al_n (x := x1) E (Lw_dc17.at 22 rfl) hl rfl ?_
  obtain ⟨g466, h⟩ := ite_e h
  obtain ⟨M468, r467, er467, h⟩ := bd2_e h
  refine u_cVI (As := []) (rest := []) E S zcw_yX11_firstBad zw_6_62 zw_6_63 zw_6_61 zck_11.1 rfl g466 (Lx_firstBad_c l G fu top L M x1 hx1 er467) (zrm_law (by decide) (by decide)) ⟨by show _ ≤ 601024; omega, by show _ ≤ 7293034; omega⟩ rfl (Nat.zero_le 8) hl.size rfl (Lw_dc17.at 23 rfl) (fun H locs hr467 S469 => ?_)
  refine u_al_n (x := x2) E (Lw_dc17.at 24 rfl) hl rfl ?_
  obtain ⟨g470, h⟩ := ite_e h
  obtain ⟨M472, r471, er471, h⟩ := bd2_e h
  refine u_cVI (As := []) (rest := [.int (zO r467)]) E S469 zcw_yX12_firstBad zw_9_221 zw_9_222 zw_9_220 zck_12.1 rfl g470 (Mo_firstBad_c l G fu top L M468 x2 hx2 er471) (zrm_law (by decide) (by decide)) ⟨by show _ ≤ 601024; omega, by show _ ≤ 7293034; omega⟩ rfl (by simp [zR_cat, zcat_I, zcat_J, zcat_S]) hl.size rfl (Lw_dc17.at 25 rfl) (fun H locs hr471 S473 => ?_)
  refine r_icmp_eq (tgt := 1497) E hr467 hr471 (Lw_dc17.at 26 rfl) (by decide) (fun q => ?_) (fun q => ?_)
  · have h := ite_t h q
    obtain ⟨v474, ev474, h⟩ := lt1_e h
    have hv474 := inR_eq ev474 (inR_w32 _)
    refine u_iinc (y := v474) (vs' := [some (.ref b), some (zR G.2.2.1 x1), some (zR G.2.2.1 x2), some (zR G.2.2.1 x3), some (.int (zO v474)), none, none]) E ev474 (Lw_dc19.at 5 rfl) hl rfl (by decide) rfl (fun ls hl => ?_)
    refine r_goto (tgt := 23) E (Lw_dc19.at 6 rfl) (by decide) ?_
    exact hk _ _ _ x1 x2 x3 v474 hx1 hx2 hx3 hv474 _ _ _ _ _ S473 (hl.sub (And.intro rfl (And.intro rfl (And.intro rfl (And.intro rfl (And.intro rfl True.intro)))))) (by omega) (by omega) h
  · have h := ite_f h q
    refine r_iconst E (Lw_dc17.at 27 rfl) ?_
    exact absurd (Option.some.inj h) (by decide)
theorem Lw_c1383_w (E : zEv p m c code 7 s #[Value.ref b] "LaterLivesLaw" meth ret G) (hX : va_X b Ln xs s s.heap) (hbl : b < s.heap.size) (hB : G.2.2.1 + 1 = s.heap.size) (hLn : Ln ≤ 3072) (hlf : l.stackTraces = false) {k : Int → zL → zM → Int → Int → Int → Int → Option Int} (hk : ∀ (top : Int) (L : zL) (M : zM) (x1 x2 x3 x4 : Int), InR x1 → InR x2 → InR x3 → InR x4 → ∀ (H : Heap) (locs : List Loc) (ls : Array Slot) (cN sN : Nat), zS G top L M s H locs → zLV ls 7 [some (.ref b), some (zR G.2.2.1 x1), some (zR G.2.2.1 x2), some (zR G.2.2.1 x3), some (.int (zO x4)), none, none] → 6 * (cN : Int) + 7 * ((Ln : Int) - x4) ≤ 3606144 ∧ x4 ≤ (Ln : Int) → 6 * (sN : Int) + 3611 * ((Ln : Int) - x4) ≤ 43758204 → k top L M x1 x2 x3 x4 = some 1 → W p l e room_1 s m #[Value.ref b] below meth c H locs cN sN (lw_Z below #[Value.ref b] s) (F0 m 23 ls [])) {top : Int} {L : zL} {M : zM} {x1 x2 x3 x4 : Int} {H : Heap} {locs : List Loc} {ls : Array Slot} {cN sN : Nat} (hx1 : InR x1) (hx2 : InR x2) (hx3 : InR x3) (hx4 : InR x4) (S : zS G top L M s H locs) (hl : zLV ls 7 [some (.ref b), some (zR G.2.2.1 x1), some (zR G.2.2.1 x2), some (zR G.2.2.1 x3), some (.int (zO x4)), none, none]) (hc : 6 * (cN : Int) + 7 * ((Ln : Int) - x4) ≤ 3606144 ∧ x4 ≤ (Ln : Int)) (hs : 6 * (sN : Int) + 3611 * ((Ln : Int) - x4) ≤ 43758204) (hi : x4 ≤ (Ln : Int) - 6) (h : Lw_c1383 fu (zX xs) Ln k top L M x1 x2 x3 x4 = some 1) : W p l e room_1 s m #[Value.ref b] below meth c H locs cN sN (lw_Z below #[Value.ref b] s) (F0 m 1383 ls []) := by
  unfold Lw_c1383 at h
  have e6 : w32 (x4 + 6) = x4 + 6 := w32_id ⟨by omega, by omega⟩
  refine u_al_n (x := x1) E (Lw_dc17.at 29 rfl) hl rfl ?_
  obtain ⟨g476, h⟩ := ite_e h
  obtain ⟨M478, r477, er477, h⟩ := bd2_e h
  refine u_cVI (As := []) (rest := []) E S zcw_yX11_undo zw_6_66 zw_6_67 zw_6_65 zck_11.1 rfl g476 (Lx_undo_c l G fu top L M x1 hx1 er477) (zrm_law (by decide) (by decide)) ⟨by show _ ≤ 601024; omega, by show _ ≤ 7293034; omega⟩ rfl (Nat.zero_le 8) hl.size rfl (Lw_dc17.at 30 rfl) (fun H locs hr477 S479 => ?_)
  refine u_al_n (x := x2) E (Lw_dc17.at 31 rfl) hl rfl ?_
  obtain ⟨g480, h⟩ := ite_e h
  obtain ⟨M482, r481, er481, h⟩ := bd2_e h
  refine u_cVI (As := []) (rest := [.int (zO r477)]) E S479 zcw_yX12_undo zw_8_44 zw_8_45 zw_8_43 zck_12.1 rfl g480 (Mo_undo_c l G fu top L M478 x2 hx2 er481) (zrm_law (by decide) (by decide)) ⟨by show _ ≤ 601024; omega, by show _ ≤ 7293034; omega⟩ rfl (by simp [zR_cat, zcat_I, zcat_J, zcat_S]) hl.size rfl (Lw_dc17.at 32 rfl) (fun H locs hr481 S483 => ?_)
  refine r_icmp_eq (tgt := 1497) E hr477 hr481 (Lw_dc17.at 33 rfl) (by decide) (fun q => ?_) (fun q => ?_)
  · have h := ite_t h q
    obtain ⟨v484, ev484, h⟩ := lt1_e h
    have hv484 := inR_eq ev484 (inR_w32 _)
    refine u_iinc (y := v484) (vs' := [some (.ref b), some (zR G.2.2.1 x1), some (zR G.2.2.1 x2), some (zR G.2.2.1 x3), some (.int (zO v484)), none, none]) E ev484 (Lw_dc19.at 5 rfl) hl rfl (by decide) rfl (fun ls hl => ?_)
    refine r_goto (tgt := 23) E (Lw_dc19.at 6 rfl) (by decide) ?_
    exact hk _ _ _ x1 x2 x3 v484 hx1 hx2 hx3 hv484 _ _ _ _ _ S483 (hl.sub (And.intro rfl (And.intro rfl (And.intro rfl (And.intro rfl (And.intro rfl True.intro)))))) (by omega) (by omega) h
  · have h := ite_f h q
    refine r_iconst E (Lw_dc17.at 34 rfl) ?_
    exact absurd (Option.some.inj h) (by decide)
theorem Lw_c1396_w (E : zEv p m c code 7 s #[Value.ref b] "LaterLivesLaw" meth ret G) (hX : va_X b Ln xs s s.heap) (hbl : b < s.heap.size) (hB : G.2.2.1 + 1 = s.heap.size) (hLn : Ln ≤ 3072) (hlf : l.stackTraces = false) {k : Int → zL → zM → Int → Int → Int → Int → Option Int} (hk : ∀ (top : Int) (L : zL) (M : zM) (x1 x2 x3 x4 : Int), InR x1 → InR x2 → InR x3 → InR x4 → ∀ (H : Heap) (locs : List Loc) (ls : Array Slot) (cN sN : Nat), zS G top L M s H locs → zLV ls 7 [some (.ref b), some (zR G.2.2.1 x1), some (zR G.2.2.1 x2), some (zR G.2.2.1 x3), some (.int (zO x4)), none, none] → 6 * (cN : Int) + 7 * ((Ln : Int) - x4) ≤ 3606144 ∧ x4 ≤ (Ln : Int) → 6 * (sN : Int) + 3611 * ((Ln : Int) - x4) ≤ 43758204 → k top L M x1 x2 x3 x4 = some 1 → W p l e room_1 s m #[Value.ref b] below meth c H locs cN sN (lw_Z below #[Value.ref b] s) (F0 m 23 ls [])) {top : Int} {L : zL} {M : zM} {x1 x2 x3 x4 : Int} {H : Heap} {locs : List Loc} {ls : Array Slot} {cN sN : Nat} (hx1 : InR x1) (hx2 : InR x2) (hx3 : InR x3) (hx4 : InR x4) (S : zS G top L M s H locs) (hl : zLV ls 7 [some (.ref b), some (zR G.2.2.1 x1), some (zR G.2.2.1 x2), some (zR G.2.2.1 x3), some (.int (zO x4)), none, none]) (hc : 6 * (cN : Int) + 7 * ((Ln : Int) - x4) ≤ 3606144 ∧ x4 ≤ (Ln : Int)) (hs : 6 * (sN : Int) + 3611 * ((Ln : Int) - x4) ≤ 43758204) (hi : x4 ≤ (Ln : Int) - 6) (h : Lw_c1396 fu (zX xs) Ln k top L M x1 x2 x3 x4 = some 1) : W p l e room_1 s m #[Value.ref b] below meth c H locs cN sN (lw_Z below #[Value.ref b] s) (F0 m 1396 ls []) := by
  unfold Lw_c1396 at h
  have e6 : w32 (x4 + 6) = x4 + 6 := w32_id ⟨by omega, by omega⟩
  refine u_al_n (x := x1) E (Lw_dc17.at 36 rfl) hl rfl ?_
  obtain ⟨g486, h⟩ := ite_e h
  obtain ⟨M488, r487, er487, h⟩ := bd2_e h
  refine u_cVI (As := []) (rest := []) E S zcw_yX11_image zw_6_74 zw_6_75 zw_6_73 zck_11.1 rfl g486 (Lx_image_c l G fu top L M x1 hx1 er487) (zrm_law (by decide) (by decide)) ⟨by show _ ≤ 601024; omega, by show _ ≤ 7293034; omega⟩ rfl (Nat.zero_le 8) hl.size rfl (Lw_dc17.at 37 rfl) (fun H locs hr487 S489 => ?_)
  refine u_al_n (x := x2) E (Lw_dc17.at 38 rfl) hl rfl ?_
  obtain ⟨g490, h⟩ := ite_e h
  obtain ⟨M492, r491, er491, h⟩ := bd2_e h
  refine u_cVI (As := []) (rest := [.int (zO r487)]) E S489 zcw_yX12_image zw_9_225 zw_9_226 zw_9_224 zck_12.1 rfl g490 (Mo_image_c l G fu top L M488 x2 hx2 er491) (zrm_law (by decide) (by decide)) ⟨by show _ ≤ 601024; omega, by show _ ≤ 7293034; omega⟩ rfl (by simp [zR_cat, zcat_I, zcat_J, zcat_S]) hl.size rfl (Lw_dc17.at 39 rfl) (fun H locs hr491 S493 => ?_)
  refine r_icmp_eq (tgt := 1497) E hr487 hr491 (Lw_dc17.at 40 rfl) (by decide) (fun q => ?_) (fun q => ?_)
  · have h := ite_t h q
    obtain ⟨v494, ev494, h⟩ := lt1_e h
    have hv494 := inR_eq ev494 (inR_w32 _)
    refine u_iinc (y := v494) (vs' := [some (.ref b), some (zR G.2.2.1 x1), some (zR G.2.2.1 x2), some (zR G.2.2.1 x3), some (.int (zO v494)), none, none]) E ev494 (Lw_dc19.at 5 rfl) hl rfl (by decide) rfl (fun ls hl => ?_)
    refine r_goto (tgt := 23) E (Lw_dc19.at 6 rfl) (by decide) ?_
    exact hk _ _ _ x1 x2 x3 v494 hx1 hx2 hx3 hv494 _ _ _ _ _ S493 (hl.sub (And.intro rfl (And.intro rfl (And.intro rfl (And.intro rfl (And.intro rfl True.intro)))))) (by omega) (by omega) h
  · have h := ite_f h q
    refine r_iconst E (Lw_dc17.at 41 rfl) ?_
    exact absurd (Option.some.inj h) (by decide)
theorem Lw_c1409_w (E : zEv p m c code 7 s #[Value.ref b] "LaterLivesLaw" meth ret G) (hX : va_X b Ln xs s s.heap) (hbl : b < s.heap.size) (hB : G.2.2.1 + 1 = s.heap.size) (hLn : Ln ≤ 3072) (hlf : l.stackTraces = false) {k : Int → zL → zM → Int → Int → Int → Int → Option Int} (hk : ∀ (top : Int) (L : zL) (M : zM) (x1 x2 x3 x4 : Int), InR x1 → InR x2 → InR x3 → InR x4 → ∀ (H : Heap) (locs : List Loc) (ls : Array Slot) (cN sN : Nat), zS G top L M s H locs → zLV ls 7 [some (.ref b), some (zR G.2.2.1 x1), some (zR G.2.2.1 x2), some (zR G.2.2.1 x3), some (.int (zO x4)), none, none] → 6 * (cN : Int) + 7 * ((Ln : Int) - x4) ≤ 3606144 ∧ x4 ≤ (Ln : Int) → 6 * (sN : Int) + 3611 * ((Ln : Int) - x4) ≤ 43758204 → k top L M x1 x2 x3 x4 = some 1 → W p l e room_1 s m #[Value.ref b] below meth c H locs cN sN (lw_Z below #[Value.ref b] s) (F0 m 23 ls [])) {top : Int} {L : zL} {M : zM} {x1 x2 x3 x4 : Int} {H : Heap} {locs : List Loc} {ls : Array Slot} {cN sN : Nat} (hx1 : InR x1) (hx2 : InR x2) (hx3 : InR x3) (hx4 : InR x4) (S : zS G top L M s H locs) (hl : zLV ls 7 [some (.ref b), some (zR G.2.2.1 x1), some (zR G.2.2.1 x2), some (zR G.2.2.1 x3), some (.int (zO x4)), none, none]) (hc : 6 * (cN : Int) + 7 * ((Ln : Int) - x4) ≤ 3606144 ∧ x4 ≤ (Ln : Int)) (hs : 6 * (sN : Int) + 3611 * ((Ln : Int) - x4) ≤ 43758204) (hi : x4 ≤ (Ln : Int) - 6) (h : Lw_c1409 fu (zX xs) Ln k top L M x1 x2 x3 x4 = some 1) : W p l e room_1 s m #[Value.ref b] below meth c H locs cN sN (lw_Z below #[Value.ref b] s) (F0 m 1409 ls []) := by
  unfold Lw_c1409 at h
  have e6 : w32 (x4 + 6) = x4 + 6 := w32_id ⟨by omega, by omega⟩
  refine u_al_n (x := x1) E (Lw_dc17.at 43 rfl) hl rfl ?_
  obtain ⟨g496, h⟩ := ite_e h
  obtain ⟨M498, r497, er497, h⟩ := bd2_e h
  refine u_cVI (As := []) (rest := []) E S zcw_yX11_back zw_6_79 zw_6_80 zw_6_78 zck_11.1 rfl g496 (Lx_back_c l G fu top L M x1 hx1 er497) (zrm_law (by decide) (by decide)) ⟨by show _ ≤ 601024; omega, by show _ ≤ 7293034; omega⟩ rfl (Nat.zero_le 8) hl.size rfl (Lw_dc17.at 44 rfl) (fun H locs hr497 S499 => ?_)
  refine u_al_n (x := x2) E (Lw_dc17.at 45 rfl) hl rfl ?_
  obtain ⟨g500, h⟩ := ite_e h
  obtain ⟨M502, r501, er501, h⟩ := bd2_e h
  refine u_cVI (As := []) (rest := [.int (zO r497)]) E S499 zcw_yX12_back zw_9_229 zw_9_230 zw_9_228 zck_12.1 rfl g500 (Mo_back_c l G fu top L M498 x2 hx2 er501) (zrm_law (by decide) (by decide)) ⟨by show _ ≤ 601024; omega, by show _ ≤ 7293034; omega⟩ rfl (by simp [zR_cat, zcat_I, zcat_J, zcat_S]) hl.size rfl (Lw_dc17.at 46 rfl) (fun H locs hr501 S503 => ?_)
  refine r_icmp_eq (tgt := 1497) E hr497 hr501 (Lw_dc17.at 47 rfl) (by decide) (fun q => ?_) (fun q => ?_)
  · have h := ite_t h q
    obtain ⟨v504, ev504, h⟩ := lt1_e h
    have hv504 := inR_eq ev504 (inR_w32 _)
    refine u_iinc (y := v504) (vs' := [some (.ref b), some (zR G.2.2.1 x1), some (zR G.2.2.1 x2), some (zR G.2.2.1 x3), some (.int (zO v504)), none, none]) E ev504 (Lw_dc19.at 5 rfl) hl rfl (by decide) rfl (fun ls hl => ?_)
    refine r_goto (tgt := 23) E (Lw_dc19.at 6 rfl) (by decide) ?_
    exact hk _ _ _ x1 x2 x3 v504 hx1 hx2 hx3 hv504 _ _ _ _ _ S503 (hl.sub (And.intro rfl (And.intro rfl (And.intro rfl (And.intro rfl (And.intro rfl True.intro)))))) (by omega) (by omega) h
  · have h := ite_f h q
    refine r_iconst E (Lw_dc18.at 0 rfl) ?_
    exact absurd (Option.some.inj h) (by decide)
theorem Lw_c1422_w (E : zEv p m c code 7 s #[Value.ref b] "LaterLivesLaw" meth ret G) (hX : va_X b Ln xs s s.heap) (hbl : b < s.heap.size) (hB : G.2.2.1 + 1 = s.heap.size) (hLn : Ln ≤ 3072) (hlf : l.stackTraces = false) {k : Int → zL → zM → Int → Int → Int → Int → Option Int} (hk : ∀ (top : Int) (L : zL) (M : zM) (x1 x2 x3 x4 : Int), InR x1 → InR x2 → InR x3 → InR x4 → ∀ (H : Heap) (locs : List Loc) (ls : Array Slot) (cN sN : Nat), zS G top L M s H locs → zLV ls 7 [some (.ref b), some (zR G.2.2.1 x1), some (zR G.2.2.1 x2), some (zR G.2.2.1 x3), some (.int (zO x4)), none, none] → 6 * (cN : Int) + 7 * ((Ln : Int) - x4) ≤ 3606144 ∧ x4 ≤ (Ln : Int) → 6 * (sN : Int) + 3611 * ((Ln : Int) - x4) ≤ 43758204 → k top L M x1 x2 x3 x4 = some 1 → W p l e room_1 s m #[Value.ref b] below meth c H locs cN sN (lw_Z below #[Value.ref b] s) (F0 m 23 ls [])) {top : Int} {L : zL} {M : zM} {x1 x2 x3 x4 : Int} {H : Heap} {locs : List Loc} {ls : Array Slot} {cN sN : Nat} (hx1 : InR x1) (hx2 : InR x2) (hx3 : InR x3) (hx4 : InR x4) (S : zS G top L M s H locs) (hl : zLV ls 7 [some (.ref b), some (zR G.2.2.1 x1), some (zR G.2.2.1 x2), some (zR G.2.2.1 x3), some (.int (zO x4)), none, none]) (hc : 6 * (cN : Int) + 7 * ((Ln : Int) - x4) ≤ 3606144 ∧ x4 ≤ (Ln : Int)) (hs : 6 * (sN : Int) + 3611 * ((Ln : Int) - x4) ≤ 43758204) (hi : x4 ≤ (Ln : Int) - 6) (h : Lw_c1422 fu (zX xs) Ln k top L M x1 x2 x3 x4 = some 1) : W p l e room_1 s m #[Value.ref b] below meth c H locs cN sN (lw_Z below #[Value.ref b] s) (F0 m 1422 ls []) := by
  unfold Lw_c1422 at h
  have e6 : w32 (x4 + 6) = x4 + 6 := w32_id ⟨by omega, by omega⟩
  refine u_al_n (x := x1) E (Lw_dc18.at 2 rfl) hl rfl ?_
  refine r_aloadS_n E (Lw_dc18.at 3 rfl) hl rfl ?_
  refine u_il (x := x4) E (Lw_dc18.at 4 rfl) hl rfl ?_
  refine r_iconst E (Lw_dc18.at 5 rfl) ?_
  refine r_iadd E (Lw_dc18.at 6 rfl) ?_
  obtain ⟨g506, h⟩ := ite_e h
  refine u_sld E hX hbl hB (by omega) S g506 (Lw_dc18.at 7 rfl) ?_
  obtain ⟨g507, h⟩ := ite_e h
  obtain ⟨r508, er508, h⟩ := bd1_e h
  refine u_cVI (As := [.int (zO (zX xs (w32 (x4 + 1))))]) (rest := []) E S zcw_yX11_status zw_6_83 zw_6_84 zw_6_82 zck_11.1 rfl g507 (Lx_status_c l G fu top L M x1 (zX xs (w32 (x4 + 1))) hx1 (inR_zX _ _) er508) (zrm_law (by decide) (by decide)) ⟨by show _ ≤ 601024; omega, by show _ ≤ 7293034; omega⟩ rfl (Nat.zero_le 8) hl.size rfl (Lw_dc18.at 8 rfl) (fun H locs hr508 S509 => ?_)
  refine u_al_n (x := x2) E (Lw_dc18.at 9 rfl) hl rfl ?_
  refine r_aloadS_n E (Lw_dc18.at 10 rfl) hl rfl ?_
  refine u_il (x := x4) E (Lw_dc18.at 11 rfl) hl rfl ?_
  refine r_iconst E (Lw_dc18.at 12 rfl) ?_
  refine r_iadd E (Lw_dc18.at 13 rfl) ?_
  obtain ⟨g510, h⟩ := ite_e h
  refine u_sld E hX hbl hB (by omega) S509 g510 (Lw_dc18.at 14 rfl) ?_
  obtain ⟨g511, h⟩ := ite_e h
  obtain ⟨M513, r512, er512, h⟩ := bd2_e h
  refine u_cVI (As := [.int (zO (zX xs (w32 (x4 + 1))))]) (rest := [.int (zO r508)]) E S509 zcw_yX12_status zw_8_48 zw_8_49 zw_8_47 zck_12.1 rfl g511 (Mo_status_c l G fu top L M x2 (zX xs (w32 (x4 + 1))) hx2 (inR_zX _ _) er512) (zrm_law (by decide) (by decide)) ⟨by show _ ≤ 601024; omega, by show _ ≤ 7293034; omega⟩ rfl (by simp [zR_cat, zcat_I, zcat_J, zcat_S]) hl.size rfl (Lw_dc18.at 15 rfl) (fun H locs hr512 S514 => ?_)
  refine r_icmp_eq (tgt := 1497) E hr508 hr512 (Lw_dc18.at 16 rfl) (by decide) (fun q => ?_) (fun q => ?_)
  · have h := ite_t h q
    obtain ⟨v515, ev515, h⟩ := lt1_e h
    have hv515 := inR_eq ev515 (inR_w32 _)
    refine u_iinc (y := v515) (vs' := [some (.ref b), some (zR G.2.2.1 x1), some (zR G.2.2.1 x2), some (zR G.2.2.1 x3), some (.int (zO v515)), none, none]) E ev515 (Lw_dc19.at 5 rfl) hl rfl (by decide) rfl (fun ls hl => ?_)
    refine r_goto (tgt := 23) E (Lw_dc19.at 6 rfl) (by decide) ?_
    exact hk _ _ _ x1 x2 x3 v515 hx1 hx2 hx3 hv515 _ _ _ _ _ S514 (hl.sub (And.intro rfl (And.intro rfl (And.intro rfl (And.intro rfl (And.intro rfl True.intro)))))) (by omega) (by omega) h
  · have h := ite_f h q
    refine r_iconst E (Lw_dc18.at 17 rfl) ?_
    exact absurd (Option.some.inj h) (by decide)
theorem Lw_c1447_w (E : zEv p m c code 7 s #[Value.ref b] "LaterLivesLaw" meth ret G) (hX : va_X b Ln xs s s.heap) (hbl : b < s.heap.size) (hB : G.2.2.1 + 1 = s.heap.size) (hLn : Ln ≤ 3072) (hlf : l.stackTraces = false) {k : Int → zL → zM → Int → Int → Int → Int → Option Int} (hk : ∀ (top : Int) (L : zL) (M : zM) (x1 x2 x3 x4 : Int), InR x1 → InR x2 → InR x3 → InR x4 → ∀ (H : Heap) (locs : List Loc) (ls : Array Slot) (cN sN : Nat), zS G top L M s H locs → zLV ls 7 [some (.ref b), some (zR G.2.2.1 x1), some (zR G.2.2.1 x2), some (zR G.2.2.1 x3), some (.int (zO x4)), none, none] → 6 * (cN : Int) + 7 * ((Ln : Int) - x4) ≤ 3606144 ∧ x4 ≤ (Ln : Int) → 6 * (sN : Int) + 3611 * ((Ln : Int) - x4) ≤ 43758204 → k top L M x1 x2 x3 x4 = some 1 → W p l e room_1 s m #[Value.ref b] below meth c H locs cN sN (lw_Z below #[Value.ref b] s) (F0 m 23 ls [])) {top : Int} {L : zL} {M : zM} {x1 x2 x3 x4 : Int} {H : Heap} {locs : List Loc} {ls : Array Slot} {cN sN : Nat} (hx1 : InR x1) (hx2 : InR x2) (hx3 : InR x3) (hx4 : InR x4) (S : zS G top L M s H locs) (hl : zLV ls 7 [some (.ref b), some (zR G.2.2.1 x1), some (zR G.2.2.1 x2), some (zR G.2.2.1 x3), some (.int (zO x4)), none, none]) (hc : 6 * (cN : Int) + 7 * ((Ln : Int) - x4) ≤ 3606144 ∧ x4 ≤ (Ln : Int)) (hs : 6 * (sN : Int) + 3611 * ((Ln : Int) - x4) ≤ 43758204) (hi : x4 ≤ (Ln : Int) - 6) (h : Lw_c1447 fu (zX xs) Ln k top L M x1 x2 x3 x4 = some 1) : W p l e room_1 s m #[Value.ref b] below meth c H locs cN sN (lw_Z below #[Value.ref b] s) (F0 m 1447 ls []) := by
  unfold Lw_c1447 at h
  have e6 : w32 (x4 + 6) = x4 + 6 := w32_id ⟨by omega, by omega⟩
  refine u_al_n (x := x1) E (Lw_dc18.at 19 rfl) hl rfl ?_
  refine r_aloadS_n E (Lw_dc18.at 20 rfl) hl rfl ?_
  refine u_il (x := x4) E (Lw_dc18.at 21 rfl) hl rfl ?_
  refine r_iconst E (Lw_dc18.at 22 rfl) ?_
  refine r_iadd E (Lw_dc18.at 23 rfl) ?_
  obtain ⟨g517, h⟩ := ite_e h
  refine u_sld E hX hbl hB (by omega) S g517 (Lw_dc18.at 24 rfl) ?_
  obtain ⟨g518, h⟩ := ite_e h
  obtain ⟨M520, r519, er519, h⟩ := bd2_e h
  refine u_cVI (As := [.int (zO (zX xs (w32 (x4 + 1))))]) (rest := []) E S zcw_yX11_most zw_6_87 zw_6_88 zw_6_86 zck_11.1 rfl g518 (Lx_most_c l G fu top L M x1 (zX xs (w32 (x4 + 1))) hx1 (inR_zX _ _) er519) (zrm_law (by decide) (by decide)) ⟨by show _ ≤ 601024; omega, by show _ ≤ 7293034; omega⟩ rfl (Nat.zero_le 8) hl.size rfl (Lw_dc18.at 25 rfl) (fun H locs hr519 S521 => ?_)
  refine u_al_n (x := x2) E (Lw_dc18.at 26 rfl) hl rfl ?_
  refine r_aloadS_n E (Lw_dc18.at 27 rfl) hl rfl ?_
  refine u_il (x := x4) E (Lw_dc18.at 28 rfl) hl rfl ?_
  refine r_iconst E (Lw_dc18.at 29 rfl) ?_
  refine r_iadd E (Lw_dc18.at 30 rfl) ?_
  obtain ⟨g522, h⟩ := ite_e h
  refine u_sld E hX hbl hB (by omega) S521 g522 (Lw_dc18.at 31 rfl) ?_
  obtain ⟨g523, h⟩ := ite_e h
  obtain ⟨M525, r524, er524, h⟩ := bd2_e h
  refine u_cVI (As := [.int (zO (zX xs (w32 (x4 + 1))))]) (rest := [.int (zO r519)]) E S521 zcw_yX12_most zw_9_233 zw_9_234 zw_9_232 zck_12.1 rfl g523 (Mo_most_c l G fu top L M520 x2 (zX xs (w32 (x4 + 1))) hx2 (inR_zX _ _) er524) (zrm_law (by decide) (by decide)) ⟨by show _ ≤ 601024; omega, by show _ ≤ 7293034; omega⟩ rfl (by simp [zR_cat, zcat_I, zcat_J, zcat_S]) hl.size rfl (Lw_dc18.at 32 rfl) (fun H locs hr524 S526 => ?_)
  refine r_icmp_eq (tgt := 1497) E hr519 hr524 (Lw_dc18.at 33 rfl) (by decide) (fun q => ?_) (fun q => ?_)
  · have h := ite_t h q
    obtain ⟨v527, ev527, h⟩ := lt1_e h
    have hv527 := inR_eq ev527 (inR_w32 _)
    refine u_iinc (y := v527) (vs' := [some (.ref b), some (zR G.2.2.1 x1), some (zR G.2.2.1 x2), some (zR G.2.2.1 x3), some (.int (zO v527)), none, none]) E ev527 (Lw_dc19.at 5 rfl) hl rfl (by decide) rfl (fun ls hl => ?_)
    refine r_goto (tgt := 23) E (Lw_dc19.at 6 rfl) (by decide) ?_
    exact hk _ _ _ x1 x2 x3 v527 hx1 hx2 hx3 hv527 _ _ _ _ _ S526 (hl.sub (And.intro rfl (And.intro rfl (And.intro rfl (And.intro rfl (And.intro rfl True.intro)))))) (by omega) (by omega) h
  · have h := ite_f h q
    refine r_iconst E (Lw_dc18.at 34 rfl) ?_
    exact absurd (Option.some.inj h) (by decide)
theorem Lw_c1472_w (E : zEv p m c code 7 s #[Value.ref b] "LaterLivesLaw" meth ret G) (hX : va_X b Ln xs s s.heap) (hbl : b < s.heap.size) (hB : G.2.2.1 + 1 = s.heap.size) (hLn : Ln ≤ 3072) (hlf : l.stackTraces = false) {k : Int → zL → zM → Int → Int → Int → Int → Option Int} (hk : ∀ (top : Int) (L : zL) (M : zM) (x1 x2 x3 x4 : Int), InR x1 → InR x2 → InR x3 → InR x4 → ∀ (H : Heap) (locs : List Loc) (ls : Array Slot) (cN sN : Nat), zS G top L M s H locs → zLV ls 7 [some (.ref b), some (zR G.2.2.1 x1), some (zR G.2.2.1 x2), some (zR G.2.2.1 x3), some (.int (zO x4)), none, none] → 6 * (cN : Int) + 7 * ((Ln : Int) - x4) ≤ 3606144 ∧ x4 ≤ (Ln : Int) → 6 * (sN : Int) + 3611 * ((Ln : Int) - x4) ≤ 43758204 → k top L M x1 x2 x3 x4 = some 1 → W p l e room_1 s m #[Value.ref b] below meth c H locs cN sN (lw_Z below #[Value.ref b] s) (F0 m 23 ls [])) {top : Int} {L : zL} {M : zM} {x1 x2 x3 x4 : Int} {H : Heap} {locs : List Loc} {ls : Array Slot} {cN sN : Nat} (hx1 : InR x1) (hx2 : InR x2) (hx3 : InR x3) (hx4 : InR x4) (S : zS G top L M s H locs) (hl : zLV ls 7 [some (.ref b), some (zR G.2.2.1 x1), some (zR G.2.2.1 x2), some (zR G.2.2.1 x3), some (.int (zO x4)), none, none]) (hc : 6 * (cN : Int) + 7 * ((Ln : Int) - x4) ≤ 3606144 ∧ x4 ≤ (Ln : Int)) (hs : 6 * (sN : Int) + 3611 * ((Ln : Int) - x4) ≤ 43758204) (hi : x4 ≤ (Ln : Int) - 6) (h : Lw_c1472 fu (zX xs) Ln k top L M x1 x2 x3 x4 = some 1) : W p l e room_1 s m #[Value.ref b] below meth c H locs cN sN (lw_Z below #[Value.ref b] s) (F0 m 1472 ls []) := by
  unfold Lw_c1472 at h
  have e6 : w32 (x4 + 6) = x4 + 6 := w32_id ⟨by omega, by omega⟩
  refine u_al_n (x := x1) E (Lw_dc18.at 36 rfl) hl rfl ?_
  refine r_aloadS_n E (Lw_dc18.at 37 rfl) hl rfl ?_
  refine u_il (x := x4) E (Lw_dc18.at 38 rfl) hl rfl ?_
  refine r_iconst E (Lw_dc18.at 39 rfl) ?_
  refine r_iadd E (Lw_dc18.at 40 rfl) ?_
  obtain ⟨g529, h⟩ := ite_e h
  refine u_sld E hX hbl hB (by omega) S g529 (Lw_dc18.at 41 rfl) ?_
  obtain ⟨g530, h⟩ := ite_e h
  obtain ⟨r531, er531, h⟩ := bd1_e h
  refine u_cVI (As := [.int (zO (zX xs (w32 (x4 + 1))))]) (rest := []) E S zcw_yX11_size zw_6_124 zw_6_125 zw_6_123 zck_11.1 rfl g530 (Lx_size_c l G fu top L M x1 (zX xs (w32 (x4 + 1))) hx1 (inR_zX _ _) er531) (zrm_law (by decide) (by decide)) ⟨by show _ ≤ 601024; omega, by show _ ≤ 7293034; omega⟩ rfl (Nat.zero_le 8) hl.size rfl (Lw_dc18.at 42 rfl) (fun H locs hr531 S532 => ?_)
  refine u_al_n (x := x2) E (Lw_dc18.at 43 rfl) hl rfl ?_
  refine r_aloadS_n E (Lw_dc18.at 44 rfl) hl rfl ?_
  refine u_il (x := x4) E (Lw_dc18.at 45 rfl) hl rfl ?_
  refine r_iconst E (Lw_dc18.at 46 rfl) ?_
  refine r_iadd E (Lw_dc18.at 47 rfl) ?_
  obtain ⟨g533, h⟩ := ite_e h
  refine u_sld E hX hbl hB (by omega) S532 g533 (Lw_dc19.at 0 rfl) ?_
  obtain ⟨g534, h⟩ := ite_e h
  obtain ⟨M536, r535, er535, h⟩ := bd2_e h
  refine u_cVI (As := [.int (zO (zX xs (w32 (x4 + 1))))]) (rest := [.int (zO r531)]) E S532 zcw_yX12_size zw_10_25 zw_10_26 zw_10_24 zck_12.1 rfl g534 (Mo_size_c l G fu top L M x2 (zX xs (w32 (x4 + 1))) hx2 (inR_zX _ _) er535) (zrm_law (by decide) (by decide)) ⟨by show _ ≤ 601024; omega, by show _ ≤ 7293034; omega⟩ rfl (by simp [zR_cat, zcat_I, zcat_J, zcat_S]) hl.size rfl (Lw_dc19.at 1 rfl) (fun H locs hr535 S537 => ?_)
  refine r_icmp_eq (tgt := 1497) E hr531 hr535 (Lw_dc19.at 2 rfl) (by decide) (fun q => ?_) (fun q => ?_)
  · have h := ite_t h q
    obtain ⟨v538, ev538, h⟩ := lt1_e h
    have hv538 := inR_eq ev538 (inR_w32 _)
    refine u_iinc (y := v538) (vs' := [some (.ref b), some (zR G.2.2.1 x1), some (zR G.2.2.1 x2), some (zR G.2.2.1 x3), some (.int (zO v538)), none, none]) E ev538 (Lw_dc19.at 5 rfl) hl rfl (by decide) rfl (fun ls hl => ?_)
    refine r_goto (tgt := 23) E (Lw_dc19.at 6 rfl) (by decide) ?_
    exact hk _ _ _ x1 x2 x3 v538 hx1 hx2 hx3 hv538 _ _ _ _ _ S537 (hl.sub (And.intro rfl (And.intro rfl (And.intro rfl (And.intro rfl (And.intro rfl True.intro)))))) (by omega) (by omega) h
  · have h := ite_f h q
    refine r_iconst E (Lw_dc19.at 3 rfl) ?_
    exact absurd (Option.some.inj h) (by decide)
theorem Lw_s_w (E : zEv p m c code 7 s #[Value.ref b] "LaterLivesLaw" meth ret G) (hX : va_X b Ln xs s s.heap) (hbl : b < s.heap.size) (hB : G.2.2.1 + 1 = s.heap.size) (hLn : Ln ≤ 3072) (hlf : l.stackTraces = false) {k : Int → zL → zM → Int → Int → Int → Int → Option Int} (hk : ∀ (top : Int) (L : zL) (M : zM) (x1 x2 x3 x4 : Int), InR x1 → InR x2 → InR x3 → InR x4 → ∀ (H : Heap) (locs : List Loc) (ls : Array Slot) (cN sN : Nat), zS G top L M s H locs → zLV ls 7 [some (.ref b), some (zR G.2.2.1 x1), some (zR G.2.2.1 x2), some (zR G.2.2.1 x3), some (.int (zO x4)), none, none] → 6 * (cN : Int) + 7 * ((Ln : Int) - x4) ≤ 3606144 ∧ x4 ≤ (Ln : Int) → 6 * (sN : Int) + 3611 * ((Ln : Int) - x4) ≤ 43758204 → k top L M x1 x2 x3 x4 = some 1 → W p l e room_1 s m #[Value.ref b] below meth c H locs cN sN (lw_Z below #[Value.ref b] s) (F0 m 23 ls [])) {top : Int} {L : zL} {M : zM} {x1 x2 x3 x4 : Int} {H : Heap} {locs : List Loc} {ls : Array Slot} {cN sN : Nat} (hx1 : InR x1) (hx2 : InR x2) (hx3 : InR x3) (hx4 : InR x4) (S : zS G top L M s H locs) (hl : zLV ls 7 [some (.ref b), some (zR G.2.2.1 x1), some (zR G.2.2.1 x2), some (zR G.2.2.1 x3), some (.int (zO x4)), none, none]) (hc : 6 * (cN : Int) + 7 * ((Ln : Int) - x4) ≤ 3606144 ∧ x4 ≤ (Ln : Int)) (hs : 6 * (sN : Int) + 3611 * ((Ln : Int) - x4) ≤ 43758204) (h : Lw_s fu (zX xs) Ln k top L M x1 x2 x3 x4 = some 1) : W p l e room_1 s m #[Value.ref b] below meth c H locs cN sN (lw_Z below #[Value.ref b] s) (F0 m 23 ls []) := by
  unfold Lw_s at h
  have e6 : x4 ≤ (Ln : Int) - 6 → w32 (x4 + 6) = x4 + 6 := fun z => w32_id ⟨by omega, by omega⟩
  have e7 : w32 ((Ln : Int) - 6) = (Ln : Int) - 6 := w32_id ⟨by omega, by omega⟩
  refine u_il (x := x4) E (Lw_dc0.at 13 rfl) hl rfl ?_
  refine r_aloadS_n E (Lw_dc0.at 14 rfl) hl rfl ?_
  refine u_slen E hX hbl hB S (Lw_dc0.at 15 rfl) ?_
  refine r_bipush E (Lw_dc0.at 16 rfl) rfl ?_
  refine r_isub E (Lw_dc0.at 17 rfl) ?_
  refine r_icmp_gt (tgt := 1503) E hx4 (inR_w32 _) (Lw_dc0.at 18 rfl) (by decide) (fun q => ?_) (fun q => ?_)
  · have h := ite_t h q
    refine r_iconst E (Lw_dc19.at 7 rfl) ?_
    exact zlw_end E hB S (by omega) (by omega) (Lw_dc19.at 8 rfl)
  · have h := ite_f h q
    refine r_aloadS_n E (Lw_dc0.at 19 rfl) hl rfl ?_
    refine u_il (x := x4) E (Lw_dc0.at 20 rfl) hl rfl ?_
    obtain ⟨g1, h⟩ := ite_e h
    refine u_sld E hX hbl hB (by omega) S g1 (Lw_dc0.at 21 rfl) ?_
    refine r_bipush E (Lw_dc0.at 22 rfl) rfl ?_
    refine r_iand E (Lw_dc0.at 23 rfl) ?_
    by_cases q21 : (iand (zX xs x4) 63) = 0
    · have h := ite_t h q21
      refine r_tin (tgt := 224) (k := 0) E (inR_iand _ _) q21 (Lw_dc0.at 24 rfl) (by decide) (by decide) rfl (by decide) ?_
      exact Lw_c224_w E hX hbl hB hLn hlf hk hx1 hx2 hx3 hx4 S hl hc hs (by omega) h
    · have h := ite_f h q21
      by_cases q33 : (iand (zX xs x4) 63) = 1
      · have h := ite_t h q33
        refine r_tin (tgt := 297) (k := 1) E (inR_iand _ _) q33 (Lw_dc0.at 24 rfl) (by decide) (by decide) rfl (by decide) ?_
        exact Lw_c297_w E hX hbl hB hLn hlf hk hx1 hx2 hx3 hx4 S hl hc hs (by omega) h
      · have h := ite_f h q33
        by_cases q45 : (iand (zX xs x4) 63) = 2
        · have h := ite_t h q45
          refine r_tin (tgt := 322) (k := 2) E (inR_iand _ _) q45 (Lw_dc0.at 24 rfl) (by decide) (by decide) rfl (by decide) ?_
          exact Lw_c322_w E hX hbl hB hLn hlf hk hx1 hx2 hx3 hx4 S hl hc hs (by omega) h
        · have h := ite_f h q45
          by_cases q55 : (iand (zX xs x4) 63) = 3
          · have h := ite_t h q55
            refine r_tin (tgt := 347) (k := 3) E (inR_iand _ _) q55 (Lw_dc0.at 24 rfl) (by decide) (by decide) rfl (by decide) ?_
            exact Lw_c347_w E hX hbl hB hLn hlf hk hx1 hx2 hx3 hx4 S hl hc hs (by omega) h
          · have h := ite_f h q55
            by_cases q67 : (iand (zX xs x4) 63) = 4
            · have h := ite_t h q67
              refine r_tin (tgt := 360) (k := 4) E (inR_iand _ _) q67 (Lw_dc0.at 24 rfl) (by decide) (by decide) rfl (by decide) ?_
              exact Lw_c360_w E hX hbl hB hLn hlf hk hx1 hx2 hx3 hx4 S hl hc hs (by omega) h
            · have h := ite_f h q67
              by_cases q79 : (iand (zX xs x4) 63) = 5
              · have h := ite_t h q79
                refine r_tin (tgt := 373) (k := 5) E (inR_iand _ _) q79 (Lw_dc0.at 24 rfl) (by decide) (by decide) rfl (by decide) ?_
                exact Lw_c373_w E hX hbl hB hLn hlf hk hx1 hx2 hx3 hx4 S hl hc hs (by omega) h
              · have h := ite_f h q79
                by_cases q91 : (iand (zX xs x4) 63) = 6
                · have h := ite_t h q91
                  refine r_tin (tgt := 398) (k := 6) E (inR_iand _ _) q91 (Lw_dc0.at 24 rfl) (by decide) (by decide) rfl (by decide) ?_
                  exact Lw_c398_w E hX hbl hB hLn hlf hk hx1 hx2 hx3 hx4 S hl hc hs (by omega) h
                · have h := ite_f h q91
                  by_cases q103 : (iand (zX xs x4) 63) = 7
                  · have h := ite_t h q103
                    refine r_tin (tgt := 423) (k := 7) E (inR_iand _ _) q103 (Lw_dc0.at 24 rfl) (by decide) (by decide) rfl (by decide) ?_
                    exact Lw_c423_w E hX hbl hB hLn hlf hk hx1 hx2 hx3 hx4 S hl hc hs (by omega) h
                  · have h := ite_f h q103
                    by_cases q115 : (iand (zX xs x4) 63) = 8
                    · have h := ite_t h q115
                      refine r_tin (tgt := 448) (k := 8) E (inR_iand _ _) q115 (Lw_dc0.at 24 rfl) (by decide) (by decide) rfl (by decide) ?_
                      exact Lw_c448_w E hX hbl hB hLn hlf hk hx1 hx2 hx3 hx4 S hl hc hs (by omega) h
                    · have h := ite_f h q115
                      by_cases q127 : (iand (zX xs x4) 63) = 9
                      · have h := ite_t h q127
                        refine r_tin (tgt := 473) (k := 9) E (inR_iand _ _) q127 (Lw_dc0.at 24 rfl) (by decide) (by decide) rfl (by decide) ?_
                        exact Lw_c473_w E hX hbl hB hLn hlf hk hx1 hx2 hx3 hx4 S hl hc hs (by omega) h
                      · have h := ite_f h q127
                        by_cases q139 : (iand (zX xs x4) 63) = 10
                        · have h := ite_t h q139
                          refine r_tin (tgt := 498) (k := 10) E (inR_iand _ _) q139 (Lw_dc0.at 24 rfl) (by decide) (by decide) rfl (by decide) ?_
                          exact Lw_c498_w E hX hbl hB hLn hlf hk hx1 hx2 hx3 hx4 S hl hc hs (by omega) h
                        · have h := ite_f h q139
                          by_cases q150 : (iand (zX xs x4) 63) = 11
                          · have h := ite_t h q150
                            refine r_tin (tgt := 523) (k := 11) E (inR_iand _ _) q150 (Lw_dc0.at 24 rfl) (by decide) (by decide) rfl (by decide) ?_
                            exact Lw_c523_w E hX hbl hB hLn hlf hk hx1 hx2 hx3 hx4 S hl hc hs (by omega) h
                          · have h := ite_f h q150
                            by_cases q170 : (iand (zX xs x4) 63) = 12
                            · have h := ite_t h q170
                              refine r_tin (tgt := 548) (k := 12) E (inR_iand _ _) q170 (Lw_dc0.at 24 rfl) (by decide) (by decide) rfl (by decide) ?_
                              exact Lw_c548_w E hX hbl hB hLn hlf hk hx1 hx2 hx3 hx4 S hl hc hs (by omega) h
                            · have h := ite_f h q170
                              by_cases q183 : (iand (zX xs x4) 63) = 13
                              · have h := ite_t h q183
                                refine r_tin (tgt := 616) (k := 13) E (inR_iand _ _) q183 (Lw_dc0.at 24 rfl) (by decide) (by decide) rfl (by decide) ?_
                                exact Lw_c616_w E hX hbl hB hLn hlf hk hx1 hx2 hx3 hx4 S hl hc hs (by omega) h
                              · have h := ite_f h q183
                                by_cases q196 : (iand (zX xs x4) 63) = 14
                                · have h := ite_t h q196
                                  refine r_tin (tgt := 653) (k := 14) E (inR_iand _ _) q196 (Lw_dc0.at 24 rfl) (by decide) (by decide) rfl (by decide) ?_
                                  exact Lw_c653_w E hX hbl hB hLn hlf hk hx1 hx2 hx3 hx4 S hl hc hs (by omega) h
                                · have h := ite_f h q196
                                  by_cases q210 : (iand (zX xs x4) 63) = 15
                                  · have h := ite_t h q210
                                    refine r_tin (tgt := 690) (k := 15) E (inR_iand _ _) q210 (Lw_dc0.at 24 rfl) (by decide) (by decide) rfl (by decide) ?_
                                    exact Lw_c690_w E hX hbl hB hLn hlf hk hx1 hx2 hx3 hx4 S hl hc hs (by omega) h
                                  · have h := ite_f h q210
                                    by_cases q224 : (iand (zX xs x4) 63) = 16
                                    · have h := ite_t h q224
                                      refine r_tin (tgt := 727) (k := 16) E (inR_iand _ _) q224 (Lw_dc0.at 24 rfl) (by decide) (by decide) rfl (by decide) ?_
                                      exact Lw_c727_w E hX hbl hB hLn hlf hk hx1 hx2 hx3 hx4 S hl hc hs (by omega) h
                                    · have h := ite_f h q224
                                      by_cases q238 : (iand (zX xs x4) 63) = 17
                                      · have h := ite_t h q238
                                        refine r_tin (tgt := 764) (k := 17) E (inR_iand _ _) q238 (Lw_dc0.at 24 rfl) (by decide) (by decide) rfl (by decide) ?_
                                        exact Lw_c764_w E hX hbl hB hLn hlf hk hx1 hx2 hx3 hx4 S hl hc hs (by omega) h
                                      · have h := ite_f h q238
                                        by_cases q250 : (iand (zX xs x4) 63) = 18
                                        · have h := ite_t h q250
                                          refine r_tin (tgt := 801) (k := 18) E (inR_iand _ _) q250 (Lw_dc0.at 24 rfl) (by decide) (by decide) rfl (by decide) ?_
                                          exact Lw_c801_w E hX hbl hB hLn hlf hk hx1 hx2 hx3 hx4 S hl hc hs (by omega) h
                                        · have h := ite_f h q250
                                          by_cases q264 : (iand (zX xs x4) 63) = 19
                                          · have h := ite_t h q264
                                            refine r_tin (tgt := 826) (k := 19) E (inR_iand _ _) q264 (Lw_dc0.at 24 rfl) (by decide) (by decide) rfl (by decide) ?_
                                            exact Lw_c826_w E hX hbl hB hLn hlf hk hx1 hx2 hx3 hx4 S hl hc hs (by omega) h
                                          · have h := ite_f h q264
                                            by_cases q280 : (iand (zX xs x4) 63) = 20
                                            · have h := ite_t h q280
                                              refine r_tin (tgt := 863) (k := 20) E (inR_iand _ _) q280 (Lw_dc0.at 24 rfl) (by decide) (by decide) rfl (by decide) ?_
                                              exact Lw_c863_w E hX hbl hB hLn hlf hk hx1 hx2 hx3 hx4 S hl hc hs (by omega) h
                                            · have h := ite_f h q280
                                              by_cases q290 : (iand (zX xs x4) 63) = 21
                                              · have h := ite_t h q290
                                                refine r_tin (tgt := 912) (k := 21) E (inR_iand _ _) q290 (Lw_dc0.at 24 rfl) (by decide) (by decide) rfl (by decide) ?_
                                                exact Lw_c912_w E hX hbl hB hLn hlf hk hx1 hx2 hx3 hx4 S hl hc hs (by omega) h
                                              · have h := ite_f h q290
                                                by_cases q301 : (iand (zX xs x4) 63) = 22
                                                · have h := ite_t h q301
                                                  refine r_tin (tgt := 925) (k := 22) E (inR_iand _ _) q301 (Lw_dc0.at 24 rfl) (by decide) (by decide) rfl (by decide) ?_
                                                  exact Lw_c925_w E hX hbl hB hLn hlf hk hx1 hx2 hx3 hx4 S hl hc hs (by omega) h
                                                · have h := ite_f h q301
                                                  by_cases q313 : (iand (zX xs x4) 63) = 23
                                                  · have h := ite_t h q313
                                                    refine r_tin (tgt := 950) (k := 23) E (inR_iand _ _) q313 (Lw_dc0.at 24 rfl) (by decide) (by decide) rfl (by decide) ?_
                                                    exact Lw_c950_w E hX hbl hB hLn hlf hk hx1 hx2 hx3 hx4 S hl hc hs (by omega) h
                                                  · have h := ite_f h q313
                                                    by_cases q327 : (iand (zX xs x4) 63) = 24
                                                    · have h := ite_t h q327
                                                      refine r_tin (tgt := 975) (k := 24) E (inR_iand _ _) q327 (Lw_dc0.at 24 rfl) (by decide) (by decide) rfl (by decide) ?_
                                                      exact Lw_c975_w E hX hbl hB hLn hlf hk hx1 hx2 hx3 hx4 S hl hc hs (by omega) h
                                                    · have h := ite_f h q327
                                                      by_cases q339 : (iand (zX xs x4) 63) = 25
                                                      · have h := ite_t h q339
                                                        refine r_tin (tgt := 1012) (k := 25) E (inR_iand _ _) q339 (Lw_dc0.at 24 rfl) (by decide) (by decide) rfl (by decide) ?_
                                                        exact Lw_c1012_w E hX hbl hB hLn hlf hk hx1 hx2 hx3 hx4 S hl hc hs (by omega) h
                                                      · have h := ite_f h q339
                                                        by_cases q357 : (iand (zX xs x4) 63) = 26
                                                        · have h := ite_t h q357
                                                          refine r_tin (tgt := 1037) (k := 26) E (inR_iand _ _) q357 (Lw_dc0.at 24 rfl) (by decide) (by decide) rfl (by decide) ?_
                                                          exact Lw_c1037_w E hX hbl hB hLn hlf hk hx1 hx2 hx3 hx4 S hl hc hs (by omega) h
                                                        · have h := ite_f h q357
                                                          by_cases q373 : (iand (zX xs x4) 63) = 27
                                                          · have h := ite_t h q373
                                                            refine r_tin (tgt := 1098) (k := 27) E (inR_iand _ _) q373 (Lw_dc0.at 24 rfl) (by decide) (by decide) rfl (by decide) ?_
                                                            exact Lw_c1098_w E hX hbl hB hLn hlf hk hx1 hx2 hx3 hx4 S hl hc hs (by omega) h
                                                          · have h := ite_f h q373
                                                            by_cases q385 : (iand (zX xs x4) 63) = 28
                                                            · have h := ite_t h q385
                                                              refine r_tin (tgt := 1147) (k := 28) E (inR_iand _ _) q385 (Lw_dc0.at 24 rfl) (by decide) (by decide) rfl (by decide) ?_
                                                              exact Lw_c1147_w E hX hbl hB hLn hlf hk hx1 hx2 hx3 hx4 S hl hc hs (by omega) h
                                                            · have h := ite_f h q385
                                                              by_cases q397 : (iand (zX xs x4) 63) = 29
                                                              · have h := ite_t h q397
                                                                refine r_tin (tgt := 1172) (k := 29) E (inR_iand _ _) q397 (Lw_dc0.at 24 rfl) (by decide) (by decide) rfl (by decide) ?_
                                                                exact Lw_c1172_w E hX hbl hB hLn hlf hk hx1 hx2 hx3 hx4 S hl hc hs (by omega) h
                                                              · have h := ite_f h q397
                                                                by_cases q409 : (iand (zX xs x4) 63) = 30
                                                                · have h := ite_t h q409
                                                                  refine r_tin (tgt := 1197) (k := 30) E (inR_iand _ _) q409 (Lw_dc0.at 24 rfl) (by decide) (by decide) rfl (by decide) ?_
                                                                  exact Lw_c1197_w E hX hbl hB hLn hlf hk hx1 hx2 hx3 hx4 S hl hc hs (by omega) h
                                                                · have h := ite_f h q409
                                                                  by_cases q421 : (iand (zX xs x4) 63) = 31
                                                                  · have h := ite_t h q421
                                                                    refine r_tin (tgt := 1222) (k := 31) E (inR_iand _ _) q421 (Lw_dc0.at 24 rfl) (by decide) (by decide) rfl (by decide) ?_
                                                                    exact Lw_c1222_w E hX hbl hB hLn hlf hk hx1 hx2 hx3 hx4 S hl hc hs (by omega) h
                                                                  · have h := ite_f h q421
                                                                    by_cases q439 : (iand (zX xs x4) 63) = 32
                                                                    · have h := ite_t h q439
                                                                      refine r_tin (tgt := 1247) (k := 32) E (inR_iand _ _) q439 (Lw_dc0.at 24 rfl) (by decide) (by decide) rfl (by decide) ?_
                                                                      exact Lw_c1247_w E hX hbl hB hLn hlf hk hx1 hx2 hx3 hx4 S hl hc hs (by omega) h
                                                                    · have h := ite_f h q439
                                                                      by_cases q451 : (iand (zX xs x4) 63) = 33
                                                                      · have h := ite_t h q451
                                                                        refine r_tin (tgt := 1308) (k := 33) E (inR_iand _ _) q451 (Lw_dc0.at 24 rfl) (by decide) (by decide) rfl (by decide) ?_
                                                                        exact Lw_c1308_w E hX hbl hB hLn hlf hk hx1 hx2 hx3 hx4 S hl hc hs (by omega) h
                                                                      · have h := ite_f h q451
                                                                        by_cases q465 : (iand (zX xs x4) 63) = 34
                                                                        · have h := ite_t h q465
                                                                          refine r_tin (tgt := 1333) (k := 34) E (inR_iand _ _) q465 (Lw_dc0.at 24 rfl) (by decide) (by decide) rfl (by decide) ?_
                                                                          exact Lw_c1333_w E hX hbl hB hLn hlf hk hx1 hx2 hx3 hx4 S hl hc hs (by omega) h
                                                                        · have h := ite_f h q465
                                                                          by_cases q475 : (iand (zX xs x4) 63) = 35
                                                                          · have h := ite_t h q475
                                                                            refine r_tin (tgt := 1370) (k := 35) E (inR_iand _ _) q475 (Lw_dc0.at 24 rfl) (by decide) (by decide) rfl (by decide) ?_
                                                                            exact Lw_c1370_w E hX hbl hB hLn hlf hk hx1 hx2 hx3 hx4 S hl hc hs (by omega) h
                                                                          · have h := ite_f h q475
                                                                            by_cases q485 : (iand (zX xs x4) 63) = 36
                                                                            · have h := ite_t h q485
                                                                              refine r_tin (tgt := 1383) (k := 36) E (inR_iand _ _) q485 (Lw_dc0.at 24 rfl) (by decide) (by decide) rfl (by decide) ?_
                                                                              exact Lw_c1383_w E hX hbl hB hLn hlf hk hx1 hx2 hx3 hx4 S hl hc hs (by omega) h
                                                                            · have h := ite_f h q485
                                                                              by_cases q495 : (iand (zX xs x4) 63) = 37
                                                                              · have h := ite_t h q495
                                                                                refine r_tin (tgt := 1396) (k := 37) E (inR_iand _ _) q495 (Lw_dc0.at 24 rfl) (by decide) (by decide) rfl (by decide) ?_
                                                                                exact Lw_c1396_w E hX hbl hB hLn hlf hk hx1 hx2 hx3 hx4 S hl hc hs (by omega) h
                                                                              · have h := ite_f h q495
                                                                                by_cases q505 : (iand (zX xs x4) 63) = 38
                                                                                · have h := ite_t h q505
                                                                                  refine r_tin (tgt := 1409) (k := 38) E (inR_iand _ _) q505 (Lw_dc0.at 24 rfl) (by decide) (by decide) rfl (by decide) ?_
                                                                                  exact Lw_c1409_w E hX hbl hB hLn hlf hk hx1 hx2 hx3 hx4 S hl hc hs (by omega) h
                                                                                · have h := ite_f h q505
                                                                                  by_cases q516 : (iand (zX xs x4) 63) = 39
                                                                                  · have h := ite_t h q516
                                                                                    refine r_tin (tgt := 1422) (k := 39) E (inR_iand _ _) q516 (Lw_dc0.at 24 rfl) (by decide) (by decide) rfl (by decide) ?_
                                                                                    exact Lw_c1422_w E hX hbl hB hLn hlf hk hx1 hx2 hx3 hx4 S hl hc hs (by omega) h
                                                                                  · have h := ite_f h q516
                                                                                    by_cases q528 : (iand (zX xs x4) 63) = 40
                                                                                    · have h := ite_t h q528
                                                                                      refine r_tin (tgt := 1447) (k := 40) E (inR_iand _ _) q528 (Lw_dc0.at 24 rfl) (by decide) (by decide) rfl (by decide) ?_
                                                                                      exact Lw_c1447_w E hX hbl hB hLn hlf hk hx1 hx2 hx3 hx4 S hl hc hs (by omega) h
                                                                                    · have h := ite_f h q528
                                                                                      by_cases q539 : (iand (zX xs x4) 63) = 41
                                                                                      · have h := ite_t h q539
                                                                                        refine r_tin (tgt := 1472) (k := 41) E (inR_iand _ _) q539 (Lw_dc0.at 24 rfl) (by decide) (by decide) rfl (by decide) ?_
                                                                                        exact Lw_c1472_w E hX hbl hB hLn hlf hk hx1 hx2 hx3 hx4 S hl hc hs (by omega) h
                                                                                      · have h := ite_f h q539
                                                                                        refine r_tout (tgt := 1497) E (inR_iand _ _) (by omega) (Lw_dc0.at 24 rfl) (by decide) ?_
                                                                                        obtain ⟨v540, ev540, h⟩ := lt1_e h
                                                                                        have hv540 := inR_eq ev540 (inR_w32 _)
                                                                                        refine u_iinc (y := v540) (vs' := [some (.ref b), some (zR G.2.2.1 x1), some (zR G.2.2.1 x2), some (zR G.2.2.1 x3), some (.int (zO v540)), none, none]) E ev540 (Lw_dc19.at 5 rfl) hl rfl (by decide) rfl (fun ls hl => ?_)
                                                                                        refine r_goto (tgt := 23) E (Lw_dc19.at 6 rfl) (by decide) ?_
                                                                                        exact hk _ _ _ x1 x2 x3 v540 hx1 hx2 hx3 hv540 _ _ _ _ _ S (hl.sub (And.intro rfl (And.intro rfl (And.intro rfl (And.intro rfl (And.intro rfl True.intro)))))) (by omega) (by omega) h
theorem Lw_l_w (E : zEv p m c code 7 s #[Value.ref b] "LaterLivesLaw" meth ret G) (hX : va_X b Ln xs s s.heap) (hbl : b < s.heap.size) (hB : G.2.2.1 + 1 = s.heap.size) (hLn : Ln ≤ 3072) (hlf : l.stackTraces = false) : ∀ (n : Nat), ∀ (top : Int) (L : zL) (M : zM) (x1 x2 x3 x4 : Int), InR x1 → InR x2 → InR x3 → InR x4 → ∀ (H : Heap) (locs : List Loc) (ls : Array Slot) (cN sN : Nat), zS G top L M s H locs → zLV ls 7 [some (.ref b), some (zR G.2.2.1 x1), some (zR G.2.2.1 x2), some (zR G.2.2.1 x3), some (.int (zO x4)), none, none] → 6 * (cN : Int) + 7 * ((Ln : Int) - x4) ≤ 3606144 ∧ x4 ≤ (Ln : Int) → 6 * (sN : Int) + 3611 * ((Ln : Int) - x4) ≤ 43758204 → Lw_l fu (zX xs) Ln n top L M x1 x2 x3 x4 = some 1 → W p l e room_1 s m #[Value.ref b] below meth c H locs cN sN (lw_Z below #[Value.ref b] s) (F0 m 23 ls [])
  | 0 => fun _ _ _ _ _ _ _ _ _ _ _ _ _ _ _ _ _ _ _ _ h => (by cases h)
  | n + 1 => fun top L M x1 x2 x3 x4 hx1 hx2 hx3 hx4 H locs ls cN sN S hl hc hs h => Lw_s_w E hX hbl hB hLn hlf (Lw_l_w E hX hbl hB hLn hlf n) hx1 hx2 hx3 hx4 S hl hc hs h
theorem Lw_law_w (E : zEv p m c code 7 s #[Value.ref b] "LaterLivesLaw" meth ret G) (hX : va_X b Ln xs s s.heap) (hbl : b < s.heap.size) (hB : G.2.2.1 + 1 = s.heap.size) (hLn : Ln ≤ 3072) (hlf : l.stackTraces = false) {H : Heap} {locs : List Loc} {ls : Array Slot} (S : zS G 1 lE mE s H locs) (hl : zLV ls 7 [some (.ref b), none, none, none, none, none, none]) (h : Lw_law fu (zX xs) Ln = some 1) : W p l e room_1 s m #[Value.ref b] below meth c H locs 0 0 (lw_Z below #[Value.ref b] s) (F0 m 0 ls []) := by
  unfold Lw_law at h
  obtain ⟨g541, h⟩ := ite_e h
  obtain ⟨T542, eT542, h⟩ := lt1_e h
  obtain ⟨L543, eL543, h⟩ := lt1_e h
  obtain ⟨M544, eM544, h⟩ := lt1_e h
  refine u_new E S eT542 eL543 eM544 zck_11 rfl (zdf_11 _) zw_1_26 zw_1_27 zw_1_1 g541 ⟨by show _ ≤ 601024; omega, by show _ ≤ 7293034; omega⟩ (Lw_dc0.at 0 rfl) (fun H S545 g546 => ?_)
  refine r_dup E (Lw_dc0.at 1 rfl) (zR_cat _ _) ?_
  obtain ⟨T547, L548, M549, eM549, h⟩ := bd3_e h
  refine u_cI (As := []) (rest := [zR G.2.2.1 (1 : Int)]) E S545 zcw_yX11_init zw_1_29 rfl zw_1_28 (S545.1.tag g546 (by decide)).1 (Lx_init_c l G fu T542 L543 M544 (1 : Int) (S545.1.refR g546 (by decide)) eM549) (zrm_law (by decide) (by decide)) ⟨by show _ ≤ 601024; omega, by show _ ≤ 7293034; omega⟩ rfl (by simp [zR_cat, zcat_I, zcat_J, zcat_S]) hl.size rfl (Lw_dc0.at 2 rfl) (fun H locs _ S550 => ?_)
  obtain ⟨v551, ev551, h⟩ := lt1_e h
  have hv551 := inR_eq ev551 (S545.1.refR g546 (by decide))
  refine u_ast_n (y := v551) (vs' := [some (.ref b), some (zR G.2.2.1 v551), none, none, none, none, none]) E ev551 (Lw_dc0.at 3 rfl) hl (by decide) rfl (fun ls hl => ?_)
  obtain ⟨g552, h⟩ := ite_e h
  obtain ⟨T553, eT553, h⟩ := lt1_e h
  obtain ⟨L554, eL554, h⟩ := lt1_e h
  obtain ⟨M555, eM555, h⟩ := lt1_e h
  refine u_new E S550 eT553 eL554 eM555 zck_12 rfl (zdf_12 _) zw_6_200 zw_6_201 zw_1_12 g552 ⟨by show _ ≤ 601024; omega, by show _ ≤ 7293034; omega⟩ (Lw_dc0.at 4 rfl) (fun H S556 g557 => ?_)
  refine r_dup E (Lw_dc0.at 5 rfl) (zR_cat _ _) ?_
  obtain ⟨T558, L559, M560, eM560, h⟩ := bd3_e h
  refine u_cI (As := []) (rest := [zR G.2.2.1 T547]) E S556 zcw_yX12_init zw_6_203 rfl zw_6_202 (S556.1.tag g557 (by decide)).1 (Mo_init_c l G fu T553 L554 M555 T547 (S556.1.refR g557 (by decide)) eM560) (zrm_law (by decide) (by decide)) ⟨by show _ ≤ 601024; omega, by show _ ≤ 7293034; omega⟩ rfl (by simp [zR_cat, zcat_I, zcat_J, zcat_S]) hl.size rfl (Lw_dc0.at 6 rfl) (fun H locs _ S561 => ?_)
  refine u_ast_n (y := T547) (vs' := [some (.ref b), some (zR G.2.2.1 v551), some (zR G.2.2.1 T547), none, none, none, none]) E rfl (Lw_dc0.at 7 rfl) hl (by decide) rfl (fun ls hl => ?_)
  refine r_iconst E (Lw_dc0.at 8 rfl) ?_
  obtain ⟨g562, h⟩ := ite_e h
  obtain ⟨T563, eT563, h⟩ := lt1_e h
  obtain ⟨L564, eL564, h⟩ := lt1_e h
  obtain ⟨M565, eM565, h⟩ := lt1_e h
  refine u_newL (k := 1) E S561 eT563 eL564 eM565 zw_10_28 (by decide) g562 rfl ⟨by show _ ≤ 601024; omega, by show _ ≤ 7293034; omega⟩ (Lw_dc0.at 9 rfl) (fun H S566 g567 => ?_)
  refine u_ast_n (y := T558) (vs' := [some (.ref b), some (zR G.2.2.1 v551), some (zR G.2.2.1 T547), some (zR G.2.2.1 T558), none, none, none]) E rfl (Lw_dc0.at 10 rfl) hl (by decide) rfl (fun ls hl => ?_)
  refine r_iconst E (Lw_dc0.at 11 rfl) ?_
  refine u_ist (y := 0) (vs' := [some (.ref b), some (zR G.2.2.1 v551), some (zR G.2.2.1 T547), some (zR G.2.2.1 T558), some (.int (zO 0)), none, none]) E rfl (Lw_dc0.at 12 rfl) hl (by decide) rfl (fun ls hl => ?_)
  exact Lw_l_w E hX hbl hB hLn hlf fu _ _ _ v551 T547 T558 0 hv551 (S556.1.refR g557 (by decide)) (S566.1.refR g567 (by decide)) (show InR 0 by decide) _ _ _ _ _ S566 (hl.sub (And.intro rfl (And.intro rfl (And.intro rfl (And.intro rfl (And.intro rfl True.intro)))))) (by omega) (by omega) h
end ZW
