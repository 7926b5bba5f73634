section ZS
variable {p : Program} {l : Launch} {e : Env} {R : Room} {s : State} {m : MethodId} {args : Array Value} {below : List Frame} {meth : Method} {c : Code} {H : Heap} {locs : List Loc} {cells slots : Nat} {Q : State → Prop}
variable {cc : ByteArray} {nL pc pc' : Nat} {ls : Array Slot} {rest : List Value} {own : String} {ret : Option FieldType} {G : zG} {top : Int} {L : zL} {M : zM} {vs : List (Option Value)} {P : Prop}
theorem zldcW {T : State} (X : Stand p l e R s m args below meth c T locs cells slots) (hexec : p.tables.exec = Jvm.exec) {own text : String} {index : Nat} {a : Addr} (hown : s.vm.findClass own = some m.cls)
    (hconst : (Cond.stringRef own index text).before args s = true) (hev : (Term.string own index).eval args s none [] s = some (.ref a)) {g : JFrame} (hg : g.method = m) (hdg : decode c.code g.pc = .ok (.ldc_w index, 3)) :
    ∀ target, Steps p.tables e below (T.setTop { g with pc := g.pc + 3, stack := .ref a :: g.stack }) target → Steps p.tables e below (T.setTop g) target := by
  obtain ⟨k, cf, i, a', hk, hcf, hcp, -, hr, hev'⟩ := Cond.stringRef_spec hown hconst
  cases hev.symm.trans hev'
  obtain ⟨k', hk', he⟩ := X.warmed.alike.2.2 _ _ hk
  have hr' : k'.resolved[index]? = some (some (.string a)) := by
    rcases X.warmed.entry hk hk' index with h | ⟨h, -⟩
    · rw [h]; exact hr
    · rw [hr] at h; cases h
  intro target hrest
  subst hg
  jvm_step X.here [hexec, hdg, ldc_w.wp_string (e := e) (s := T) (f := g) X.here.top hk' (by rw [he]; exact hcf) hcp hr']
  exact hrest
theorem r_ldcwS (E : zEv p m c cc nL s args own meth ret G) {i j : Nat} {tx : String} (d : zD cc pc (.ldc_w i) 3 pc') (hw : zsite[j]? = some (own, i, tx)) (k : W p l e R s m args below meth c H locs cells slots Q (F0 m pc' ls (.ref (G.2.2.2.1 j) :: rest))) : W p l e R s m args below meth c H locs cells slots Q (F0 m pc ls rest) := by
  obtain ⟨d, rfl⟩ := d
  have hZ := E.2.1.2.2.2.2.1 j _ hw
  intro T hT X
  obtain ⟨t, a1, b1⟩ := k T hT X
  exact ⟨t, zldcW X E.1.1 E.1.2.2.2.1 (text := tx) (a := G.2.2.2.1 j) hZ.1 hZ.2 (g := F0 m pc ls rest) rfl (by rw [E.1.2.1]; exact d) t a1, b1⟩
theorem r_callT (E : zEv p m c cc nL s args own meth ret G) (S : zS G top L M s H locs) {y : MethodName} {bytes : ByteArray} {maxL n idx : Nat} {ret' : Option FieldType} {rm : Room} {As : List Value} {b : Nat} {x : Int} {stk : List Value}
    (cf : zCw y bytes maxL ret' n) (hi : Cond.instanceMethod y ∈ zTB) (hs : Cond.selects y.cls y y ∈ zTB) (lk : Cond.methodLink own idx y ∈ zTB) (hcell : ∃ cell : Cell, H[b]? = some cell ∧ cell.vm.isStatics = false ∧ s.vm.findClass y.cls = some cell.cls)
    (hM : Met l y (Cond.code y bytes maxL ret' :: zTB) rm (va_Pc (.ref b :: As) (zPre G top L M)) (zQ G top L M (some (.int (zO x))) P) 0 0 (zA G))
    (hrm : (rm.cells = 0 ∧ rm.slots = 0) ∧ rm.frames + 1 ≤ R.frames ∧ 8 + (maxL + 11) + rm.locals ≤ R.locals) (hroom : cells + 0 ≤ R.cells ∧ slots + 0 ≤ R.slots) (hn : As.length = n) (hcat : (rest.map fun v => v.category).sum ≤ 8) (hsz : ls.size = nL) (hst : stk = As.reverse ++ .ref b :: rest) (d : zD cc pc (.invokevirtual idx) 3 pc')
    (kk : ∀ (H1 : Heap) (locs1 : List Loc), P → zS G top L M s H1 locs1 → W p l e R s m args below meth c H1 locs1 cells slots Q (F0 m pc' ls (.int (zO x) :: rest))) : W p l e R s m args below meth c H locs cells slots Q (F0 m pc ls stk) := by
  have hts := E.1.2.2.2.2
  have cw : CallW R s args own y.cls idx y bytes maxL ret' (Cond.code y bytes maxL ret' :: zTB) rm 0 0 n := ⟨callB_of n hts (zCw_good cf) rfl hrm.1.1 hrm.1.2 (hts _ cf.2.1) (hts _ lk) cf.2.2 hrm.2, hts _ hi, hts _ hs⟩
  subst hst
  exact z_ret S (va_runV E.1 hM cw ⟨zPre_blind, hcell, z_pre E S _⟩ rfl hn hsz rfl (by show 2 * 0 + _ ≤ 8; omega) d.1 hroom) d.2 kk
theorem zSt_cell (E : zEv p m c cc nL s args own meth ret G) (S : zS G top L M s H locs) {i : Nat} (hi : i < zstr.length) : ∃ cell : Cell, H[G.2.2.2.1 i]? = some cell ∧ cell.vm.isStatics = false ∧ s.vm.findClass "java/lang/String" = some cell.cls := by
  obtain ⟨cell, h1, h2, h3, -⟩ := (E.2.1.2.2.2.1 i hi).1.kept S.2.1.2.1
  exact ⟨cell, h1, h2, h3⟩
end ZS
theorem zO_0 : zO 0 = 0 := rfl
theorem zO_1 : zO 1 = 1 := rfl
theorem cJ0_length_8abf5_dc : zDL cJ0_length_8abf5 [(0, .aload_n 0, 1, 1), (1, .getfield 9, 3, 4), (4, .arraylength, 1, 5), (5, .aload_n 0, 1, 6), (6, .invokevirtual 335, 3, 9), (9, .ishr, 1, 10), (10, .ireturn, 1, 11)] := zDL.of (by decide +kernel)
theorem cJ0_charAt_5068e_dc : zDL cJ0_charAt_5068e [(0, .aload_n 0, 1, 1), (1, .invokevirtual 492, 3, 4), (4, .ifCond .eq 12, 3, 7), (7, .aload_n 0, 1, 8), (8, .getfield 9, 3, 11), (11, .iload_n 1, 1, 12), (12, .invokestatic 495, 3, 15), (15, .ireturn, 1, 16)] := zDL.of (by decide +kernel)
theorem cJ0_coder_7d493_dc : zDL cJ0_coder_7d493 [(0, .getstatic 38, 3, 3), (3, .ifCond .eq 10, 3, 6), (6, .aload_n 0, 1, 7), (7, .getfield 15, 3, 10), (10, .goto 4, 3, 13), (13, .iconst 1, 1, 14), (14, .ireturn, 1, 15)] := zDL.of (by decide +kernel)
theorem cJ0_isLatin1_aae02_dc : zDL cJ0_isLatin1_aae02 [(0, .getstatic 38, 3, 3), (3, .ifCond .eq 14, 3, 6), (6, .aload_n 0, 1, 7), (7, .getfield 15, 3, 10), (10, .ifCond .ne 7, 3, 13), (13, .iconst 1, 1, 14), (14, .goto 4, 3, 17), (17, .iconst 0, 1, 18), (18, .ireturn, 1, 19)] := zDL.of (by decide +kernel)
theorem cJ1_charAt_3b067_dc : zDL cJ1_charAt_3b067 [(0, .iload_n 1, 1, 1), (1, .aload_n 0, 1, 2), (2, .arraylength, 1, 3), (3, .invokestatic 9, 3, 6), (6, .aload_n 0, 1, 7), (7, .iload_n 1, 1, 8), (8, .baload, 1, 9), (9, .sipush 255, 3, 12), (12, .iand, 1, 13), (13, .i2c, 1, 14), (14, .ireturn, 1, 15)] := zDL.of (by decide +kernel)
theorem cJ0_checkIndex_df160_dc : zDL cJ0_checkIndex_df160 [(0, .iload_n 0, 1, 1), (1, .iload_n 1, 1, 2), (2, .getstatic 1053, 3, 5), (5, .invokestatic 1059, 3, 8), (8, .pop, 1, 9), (9, .return_, 1, 10)] := zDL.of (by decide +kernel)
theorem cJ3_checkIndex_8e157_dc : zDL cJ3_checkIndex_8e157 [(0, .iload_n 0, 1, 1), (1, .ifCond .lt 8, 3, 4), (4, .iload_n 0, 1, 5), (5, .iload_n 1, 1, 6), (6, .if_icmp .lt 10, 3, 9), (9, .aload_n 2, 1, 10), (10, .iload_n 0, 1, 11), (11, .iload_n 1, 1, 12), (12, .invokestatic 95, 3, 15), (15, .athrow, 1, 16), (16, .iload_n 0, 1, 17), (17, .ireturn, 1, 18)] := zDL.of (by decide +kernel)
theorem cX12_in_dc : zDL cX12_in [(0, .lload_n 0, 1, 1), (1, .lload_n 2, 1, 2), (2, .lcmp, 1, 3), (3, .ifCond .lt 14, 3, 6), (6, .lload_n 0, 1, 7), (7, .lload 4, 2, 9), (9, .lcmp, 1, 10), (10, .ifCond .gt 7, 3, 13), (13, .iconst 1, 1, 14), (14, .goto 4, 3, 17), (17, .iconst 0, 1, 18), (18, .ireturn, 1, 19)] := zDL.of (by decide +kernel)
/-- coder(): 0 -/
theorem c_coder (l : Launch) (G : zG) (top : Int) (L : zL) (M : zM) {i : Nat} (hi : i < zstr.length) : Met l yJ0_coder_7d493 (Cond.code yJ0_coder_7d493 cJ0_coder_7d493 1 (some .byte) :: zTB) (zrm 1 0 0) (va_Pc [.ref (G.2.2.2.1 i)] (zPre G top L M)) (zQ G top L M (some (.int (zO 0))) True) 0 0 (zA G) :=
  z_met (by decide +kernel) (by simp [zcat_S]) (Nat.le_of_ble_eq_true rfl) fun p e s m below meth c ls E hn S hl => by
    have hts := E.1.2.2.2.2
    refine va_gets E.1.1 E.1.2.1 E.2.1.2.2.2.2.2.1 S.2.1 E.1.2.2.2.1 (hts _ zw_3_25) (fun x hx => hx) (cJ0_coder_7d493_dc.at 0 rfl).1 ?_
    refine lv_if_eq (tgt := 13) E.1.1 E.1.2.1 (cJ0_coder_7d493_dc.at 1 rfl).1 (by decide) (fun q => absurd q (by decide)) (fun _ => ?_)
    refine r_aloadS_n E (cJ0_coder_7d493_dc.at 2 rfl) hl rfl ?_
    refine vk_getf E.1.1 E.1.2.1 (E.2.1.2.2.2.1 i hi).2.1 S.2.1 E.1.2.2.2.1 (hts _ zw_10_47) (fun x hx => hx) (cJ0_coder_7d493_dc.at 3 rfl).1 ?_
    refine lv_goto (tgt := 14) E.1.1 E.1.2.1 (cJ0_coder_7d493_dc.at 4 rfl).1 (by decide) ?_
    exact W.zret (v := zO 0) E.1.1 E.1.2.1 E.2.2.1 rfl (fun t ht _ => ⟨rfl, trivial, by rw [ht]; exact S.1, S.2.1.F ht⟩) S.2.1.2.2 (cJ0_coder_7d493_dc.at 6 rfl).1 E.2.2.2
/-- isLatin1(): 1 -/
theorem c_isLatin1 (l : Launch) (G : zG) (top : Int) (L : zL) (M : zM) {i : Nat} (hi : i < zstr.length) : Met l yJ0_isLatin1_aae02 (Cond.code yJ0_isLatin1_aae02 cJ0_isLatin1_aae02 1 (some .boolean) :: zTB) (zrm 1 0 0) (va_Pc [.ref (G.2.2.2.1 i)] (zPre G top L M)) (zQ G top L M (some (.int (zO 1))) True) 0 0 (zA G) :=
  z_met (by decide +kernel) (by simp [zcat_S]) (Nat.le_of_ble_eq_true rfl) fun p e s m below meth c ls E hn S hl => by
    have hts := E.1.2.2.2.2
    refine va_gets E.1.1 E.1.2.1 E.2.1.2.2.2.2.2.1 S.2.1 E.1.2.2.2.1 (hts _ zw_3_25) (fun x hx => hx) (cJ0_isLatin1_aae02_dc.at 0 rfl).1 ?_
    refine lv_if_eq (tgt := 17) E.1.1 E.1.2.1 (cJ0_isLatin1_aae02_dc.at 1 rfl).1 (by decide) (fun q => absurd q (by decide)) (fun _ => ?_)
    refine r_aloadS_n E (cJ0_isLatin1_aae02_dc.at 2 rfl) hl rfl ?_
    refine vk_getf E.1.1 E.1.2.1 (E.2.1.2.2.2.1 i hi).2.1 S.2.1 E.1.2.2.2.1 (hts _ zw_10_47) (fun x hx => hx) (cJ0_isLatin1_aae02_dc.at 3 rfl).1 ?_
    refine lv_if_ne (tgt := 17) E.1.1 E.1.2.1 (cJ0_isLatin1_aae02_dc.at 4 rfl).1 (by decide) (fun q => absurd rfl q) (fun _ => ?_)
    refine r_iconst E (cJ0_isLatin1_aae02_dc.at 5 rfl) ?_
    refine lv_goto (tgt := 18) E.1.1 E.1.2.1 (cJ0_isLatin1_aae02_dc.at 6 rfl).1 (by decide) ?_
    exact r_zret E S trivial z01_1 (cJ0_isLatin1_aae02_dc.at 8 rfl)
theorem c_length (l : Launch) (G : zG) (top : Int) (L : zL) (M : zM) {i : Nat} (hi : i < zstr.length) : Met l yJ0_length_8abf5 (Cond.code yJ0_length_8abf5 cJ0_length_8abf5 1 (some .int) :: zTB) (zrm 5 0 0) (va_Pc [.ref (G.2.2.2.1 i)] (zPre G top L M)) (zQ G top L M (some (.int (zO ((zstr.getD i []).length : Int)))) True) 0 0 (zA G) :=
  z_met (by decide +kernel) (by simp [zcat_S]) (Nat.le_of_ble_eq_true rfl) fun p e s m below meth c ls E hn S hl => by
    have hts := E.1.2.2.2.2
    refine r_aloadS_n E (cJ0_length_8abf5_dc.at 0 rfl) hl rfl ?_
    refine vk_getf E.1.1 E.1.2.1 (E.2.1.2.2.2.1 i hi).2.2.1 S.2.1 E.1.2.2.2.1 (hts _ zw_10_46) (fun x hx => hx) (cJ0_length_8abf5_dc.at 1 rfl).1 ?_
    refine va_tlen (v := zO ((zstr.getD i []).length : Int)) E.1.1 E.1.2.1 (E.2.1.2.2.2.1 i hi).2.2.2 S.2.1 rfl (cJ0_length_8abf5_dc.at 2 rfl).1 ?_
    refine r_aloadS_n E (cJ0_length_8abf5_dc.at 3 rfl) hl rfl ?_
    refine r_callT (As := []) (rest := [.int (zO ((zstr.getD i []).length : Int))]) E S zcw_yJ0_coder_7d493 zw_3_22 zw_3_23 zw_3_21 (zSt_cell E S hi) (c_coder l G top L M hi) (zrm_ok (by decide) (by decide)) ⟨Nat.le_refl 0, Nat.le_refl 0⟩ rfl (by simp [zcat_I]) hl.size rfl (cJ0_length_8abf5_dc.at 4 rfl) (fun H locs _ S => ?_)
    refine lv_ishr E.1.1 E.1.2.1 (cJ0_length_8abf5_dc.at 5 rfl).1 ?_
    rw [show zO 0 = 0 from rfl, sb_shr0]
    exact r_iret E S trivial (cJ0_length_8abf5_dc.at 6 rfl)
theorem c_pci (l : Launch) (G : zG) (top : Int) (L : zL) (M : zM) {k n : Int} {t : Option Nat} (hk : InR k) (hn2 : InR n) (h0 : 0 ≤ k) (h1 : k < n) : Met l yJ3_checkIndex_8e157 (Cond.code yJ3_checkIndex_8e157 cJ3_checkIndex_8e157 3 (some .int) :: zTB) (zrm 1 0 0) (va_Pc [.int (zO k), .int (zO n), va_rf t] (zPre G top L M)) (zQ G top L M (some (.int (zO k))) True) 0 0 (zA G) :=
  z_met (by decide +kernel) (by simp [zcat_rf, zcat_I]) (Nat.le_of_ble_eq_true rfl) fun p e s m below meth c ls E hn S hl => by
    refine u_il_n (x := k) E (cJ3_checkIndex_8e157_dc.at 0 rfl) hl rfl ?_
    refine r_if_lt (tgt := 9) E hk (cJ3_checkIndex_8e157_dc.at 1 rfl) (by decide) (fun q => absurd q (by omega)) (fun q => ?_)
    refine u_il_n (x := k) E (cJ3_checkIndex_8e157_dc.at 2 rfl) hl rfl ?_
    refine u_il_n (x := n) E (cJ3_checkIndex_8e157_dc.at 3 rfl) hl rfl ?_
    refine r_icmp_lt (tgt := 16) E hk hn2 (cJ3_checkIndex_8e157_dc.at 4 rfl) (by decide) (fun q => ?_) (fun q => absurd h1 q)
    refine u_il_n (x := k) E (cJ3_checkIndex_8e157_dc.at 10 rfl) hl rfl ?_
    exact r_iret E S trivial (cJ3_checkIndex_8e157_dc.at 11 rfl)
theorem c_ci (l : Launch) (G : zG) (top : Int) (L : zL) (M : zM) {k n : Int} (hk : InR k) (hn2 : InR n) (h0 : 0 ≤ k) (h1 : k < n) : Met l yJ0_checkIndex_df160 (Cond.code yJ0_checkIndex_df160 cJ0_checkIndex_df160 2 none :: zTB) (zrm 2 0 0) (va_Pc [.int (zO k), .int (zO n)] (zPre G top L M)) (zQ G top L M none True) 0 0 (zA G) :=
  z_met (by decide +kernel) (by simp [zcat_S, zcat_I]) (Nat.le_of_ble_eq_true rfl) fun p e s m below meth c ls E hn S hl => by
    have hts := E.1.2.2.2.2
    obtain ⟨t, hZ⟩ := E.2.1.2.2.2.2.2.2.1
    refine u_il_n (x := k) E (cJ0_checkIndex_df160_dc.at 0 rfl) hl rfl ?_
    refine u_il_n (x := n) E (cJ0_checkIndex_df160_dc.at 1 rfl) hl rfl ?_
    refine va_gets E.1.1 E.1.2.1 hZ S.2.1 E.1.2.2.2.1 (hts _ zw_3_41) (fun x hx => hx) (cJ0_checkIndex_df160_dc.at 2 rfl).1 ?_
    refine u_cSI (As := [.int (zO k), .int (zO n), va_rf t]) (rest := []) E S zcw_yJ3_checkIndex_8e157 zw_3_44 zw_3_43 (c_pci l G top L M hk hn2 h0 h1) (zrm_ok (by decide) (by decide)) ⟨Nat.le_refl 0, Nat.le_refl 0⟩ rfl (Nat.zero_le 8) hl.size rfl (cJ0_checkIndex_df160_dc.at 3 rfl) (fun H locs _ S => ?_)
    refine r_pop E (cJ0_checkIndex_df160_dc.at 4 rfl) (zcat_I _) ?_
    exact r_vret E S trivial (cJ0_checkIndex_df160_dc.at 5 rfl)
theorem zstr_small : ∀ i, i < zstr.length → ∀ j, j < (zstr.getD i []).length → (zstr.getD i []).getD j 0 < 128 := by decide +kernel
theorem zch_small : ∀ c : Nat, c < 128 → ((Int32.ofNat c &&& 255).toUInt32 % 65536).toInt32 = Int32.ofNat c ∧ narrow .char (.int (Int32.ofNat c)) = .int (Int32.ofNat c) := by decide +kernel
theorem c_lat (l : Launch) (G : zG) (top : Int) (L : zL) (M : zM) {i : Nat} {k : Int} (hi : i < zstr.length) (h0 : 0 ≤ k) (h1 : k < ((zstr.getD i []).length : Int)) (hk : InR k) : Met l yJ1_charAt_3b067 (Cond.code yJ1_charAt_3b067 cJ1_charAt_3b067 2 (some .char) :: zTB) (zrm 3 0 0) (va_Pc [.ref (G.2.2.2.2 i), .int (zO k)] (zPre G top L M)) (zQ G top L M (some (.int (zO (((zstr.getD i []).getD k.toNat 0 : Nat) : Int)))) True) 0 0 (zA G) :=
  z_met (by decide +kernel) (by simp [zcat_S, zcat_I]) (Nat.le_of_ble_eq_true rfl) fun p e s m below meth c ls E hn S hl => by
    have hts := E.1.2.2.2.2
    have hlen : ((zstr.getD i []).length : Int) < 100 := by
      have : ∀ i, i < zstr.length → (zstr.getD i []).length < 100 := by decide +kernel
      have := this i hi
      omega
    have hch := zstr_small i hi k.toNat (by omega)
    obtain ⟨g1, g2⟩ := zO_idx h0 h1 (by omega)
    refine u_il_n (x := k) E (cJ1_charAt_3b067_dc.at 0 rfl) hl rfl ?_
    refine r_aloadS_n E (cJ1_charAt_3b067_dc.at 1 rfl) hl rfl ?_
    refine va_tlen (v := zO ((zstr.getD i []).length : Int)) E.1.1 E.1.2.1 (E.2.1.2.2.2.1 i hi).2.2.2 S.2.1 rfl (cJ1_charAt_3b067_dc.at 2 rfl).1 ?_
    refine u_cSU (As := [.int (zO k), .int (zO ((zstr.getD i []).length : Int))]) (rest := []) E S zcw_yJ0_checkIndex_df160 zw_3_39 zw_3_38 (c_ci l G top L M hk (by omega) h0 h1) (zrm_ok (by decide) (by decide)) ⟨Nat.le_refl 0, Nat.le_refl 0⟩ rfl (Nat.zero_le 8) hl.size rfl (cJ1_charAt_3b067_dc.at 3 rfl) (fun H locs _ S => ?_)
    refine r_aloadS_n E (cJ1_charAt_3b067_dc.at 4 rfl) hl rfl ?_
    refine u_il_n (x := k) E (cJ1_charAt_3b067_dc.at 5 rfl) hl rfl ?_
    refine va_tb (v := .int (Int32.ofNat ((zstr.getD i []).getD k.toNat 0))) E.1.1 E.1.2.1 (E.2.1.2.2.2.1 i hi).2.2.2 S.2.1 (by simpa using g1) (by rw [g2]) (cJ1_charAt_3b067_dc.at 6 rfl).1 ?_
    refine lv_sipush (v := 255) E.1.1 E.1.2.1 (cJ1_charAt_3b067_dc.at 7 rfl).1 rfl ?_
    refine lv_iand E.1.1 E.1.2.1 (cJ1_charAt_3b067_dc.at 8 rfl).1 ?_
    refine lv_i2c (v := Int32.ofNat ((zstr.getD i []).getD k.toNat 0)) E.1.1 E.1.2.1 (cJ1_charAt_3b067_dc.at 9 rfl).1 (zch_small _ hch).1 ?_
    exact W.zret (v := zO (((zstr.getD i []).getD k.toNat 0 : Nat) : Int)) E.1.1 E.1.2.1 E.2.2.1 (zch_small _ hch).2 (fun t ht _ => ⟨rfl, trivial, by rw [ht]; exact S.1, S.2.1.F ht⟩) S.2.1.2.2 (cJ1_charAt_3b067_dc.at 10 rfl).1 E.2.2.2
theorem c_charAt (l : Launch) (G : zG) (top : Int) (L : zL) (M : zM) {i : Nat} {k : Int} (hi : i < zstr.length) (h0 : 0 ≤ k) (h1 : k < ((zstr.getD i []).length : Int)) (hk : InR k) : Met l yJ0_charAt_5068e (Cond.code yJ0_charAt_5068e cJ0_charAt_5068e 2 (some .char) :: zTB) (zrm 5 0 0) (va_Pc [.ref (G.2.2.2.1 i), .int (zO k)] (zPre G top L M)) (zQ G top L M (some (.int (zO (((zstr.getD i []).getD k.toNat 0 : Nat) : Int)))) True) 0 0 (zA G) :=
  z_met (by decide +kernel) (by simp [zcat_S, zcat_I]) (Nat.le_of_ble_eq_true rfl) fun p e s m below meth c ls E hn S hl => by
    have hts := E.1.2.2.2.2
    have hch := zstr_small i hi k.toNat (by omega)
    refine r_aloadS_n E (cJ0_charAt_5068e_dc.at 0 rfl) hl rfl ?_
    refine r_callT (As := []) (rest := []) E S zcw_yJ0_isLatin1_aae02 zw_3_32 zw_3_33 zw_3_31 (zSt_cell E S hi) (c_isLatin1 l G top L M hi) (zrm_ok (by decide) (by decide)) ⟨Nat.le_refl 0, Nat.le_refl 0⟩ rfl (Nat.zero_le 8) hl.size rfl (cJ0_charAt_5068e_dc.at 1 rfl) (fun H locs _ S => ?_)
    refine r_if_eq (tgt := 16) E (by decide) (cJ0_charAt_5068e_dc.at 2 rfl) (by decide) (fun q => absurd q (by decide)) (fun q => ?_)
    refine r_aloadS_n E (cJ0_charAt_5068e_dc.at 3 rfl) hl rfl ?_
    refine vk_getf E.1.1 E.1.2.1 (E.2.1.2.2.2.1 i hi).2.2.1 S.2.1 E.1.2.2.2.1 (hts _ zw_10_46) (fun x hx => hx) (cJ0_charAt_5068e_dc.at 4 rfl).1 ?_
    refine u_il_n (x := k) E (cJ0_charAt_5068e_dc.at 5 rfl) hl rfl ?_
    refine u_cSI (As := [.ref (G.2.2.2.2 i), .int (zO k)]) (rest := []) E S zcw_yJ1_charAt_3b067 zw_3_36 zw_3_35 (c_lat l G top L M hi h0 h1 hk) (zrm_ok (by decide) (by decide)) ⟨Nat.le_refl 0, Nat.le_refl 0⟩ rfl (Nat.zero_le 8) hl.size rfl (cJ0_charAt_5068e_dc.at 6 rfl) (fun H locs _ S => ?_)
    exact W.zret (v := zO (((zstr.getD i []).getD k.toNat 0 : Nat) : Int)) E.1.1 E.1.2.1 E.2.2.1 (zch_small _ hch).2 (fun t ht _ => ⟨rfl, trivial, by rw [ht]; exact S.1, S.2.1.F ht⟩) S.2.1.2.2 (cJ0_charAt_5068e_dc.at 7 rfl).1 E.2.2.2
section ZS2
variable {p : Program} {l : Launch} {e : Env} {R : Room} {s : State} {m : MethodId} {args : Array Value} {below : List Frame} {meth : Method} {c : Code} {H : Heap} {locs : List Loc} {cells slots : Nat} {Q : State → Prop}
variable {cc : ByteArray} {nL pc pc' : Nat} {ls : Array Slot} {rest : List Value} {own : String} {ret : Option FieldType} {G : zG} {top : Int} {L : zL} {M : zM} {vs : List (Option Value)} {P : Prop}
theorem u_St_length (E : zEv p m c cc nL s args own meth ret G) (S : zS G top L M s H locs) {i idx : Nat} {x : Int} (ex : St_length i = some x) (lk : Cond.methodLink own idx yJ0_length_8abf5 ∈ zTB) (hsz : ls.size = nL) (hrm : ((zrm 5 0 0).cells = 0 ∧ (zrm 5 0 0).slots = 0) ∧ (zrm 5 0 0).frames + 1 ≤ R.frames ∧ 8 + (1 + 11) + (zrm 5 0 0).locals ≤ R.locals) (hcat : (rest.map fun v => v.category).sum ≤ 8) (d : zD cc pc (.invokevirtual idx) 3 pc')
    (hroom : cells + 0 ≤ R.cells ∧ slots + 0 ≤ R.slots) (kk : ∀ (H1 : Heap) (locs1 : List Loc), InR x → zS G top L M s H1 locs1 → W p l e R s m args below meth c H1 locs1 cells slots Q (F0 m pc' ls (.int (zO x) :: rest))) : W p l e R s m args below meth c H locs cells slots Q (F0 m pc ls (.ref (G.2.2.2.1 i) :: rest)) := by
  unfold St_length at ex
  obtain ⟨hi, ex⟩ := ite_e ex
  cases ex
  have hlen : ∀ i, i < zstr.length → (zstr.getD i []).length < 100 := by decide +kernel
  have := hlen i hi
  exact r_callT (As := []) E S zcw_yJ0_length_8abf5 zw_3_18 zw_3_19 lk (zSt_cell E S hi) (c_length l G top L M hi) hrm hroom rfl hcat hsz rfl d (fun H locs _ S => kk H locs (by omega) S)
theorem u_St_charAt (E : zEv p m c cc nL s args own meth ret G) (S : zS G top L M s H locs) {i idx : Nat} {k x : Int} (ex : St_charAt i k = some x) (hk : InR k) (lk : Cond.methodLink own idx yJ0_charAt_5068e ∈ zTB) (hsz : ls.size = nL) (hrm : ((zrm 5 0 0).cells = 0 ∧ (zrm 5 0 0).slots = 0) ∧ (zrm 5 0 0).frames + 1 ≤ R.frames ∧ 8 + (2 + 11) + (zrm 5 0 0).locals ≤ R.locals) (hcat : (rest.map fun v => v.category).sum ≤ 8) (d : zD cc pc (.invokevirtual idx) 3 pc')
    (hroom : cells + 0 ≤ R.cells ∧ slots + 0 ≤ R.slots) (kk : ∀ (H1 : Heap) (locs1 : List Loc), InR x → zS G top L M s H1 locs1 → W p l e R s m args below meth c H1 locs1 cells slots Q (F0 m pc' ls (.int (zO x) :: rest))) : W p l e R s m args below meth c H locs cells slots Q (F0 m pc ls (.int (zO k) :: .ref (G.2.2.2.1 i) :: rest)) := by
  unfold St_charAt at ex
  obtain ⟨⟨hi, h0, h1⟩, ex⟩ := ite_e ex
  cases ex
  have hch := zstr_small i hi k.toNat (by omega)
  exact r_callT (As := [.int (zO k)]) E S zcw_yJ0_charAt_5068e zw_3_28 zw_3_29 lk (zSt_cell E S hi) (c_charAt l G top L M hi h0 h1 hk) hrm hroom rfl hcat hsz rfl d (fun H locs _ S => kk H locs (by omega) S)
theorem u_cI (E : zEv p m c cc nL s args own meth ret G) (S : zS G top L M s H locs) {y : MethodName} {bytes : ByteArray} {maxL n idx : Nat} {rm : Room} {mc ms : Nat} {As : List Value} {a : Int} {stk : List Value} {top' : Int} {L' : zL} {M' : zM}
    (cf : zCw y bytes maxL none n) (hi : Cond.instanceMethod y ∈ zTB) (hy1 : y.name = "<init>") (lk : Cond.methodLink own idx y ∈ zTB) (ha : 0 < a)
    (hM : Met l y (Cond.code y bytes maxL none :: zTB) rm (va_Pc (zR G.2.2.1 a :: As) (zPre G top L M)) (zQ G top' L' M' none P) mc ms (zA G))
    (hrm : (rm.cells = mc ∧ rm.slots = ms) ∧ rm.frames + 1 ≤ R.frames ∧ 8 + (maxL + 11) + rm.locals ≤ R.locals) (hroom : cells + mc ≤ R.cells ∧ slots + ms ≤ R.slots) (hn : As.length = n) (hcat : (rest.map fun v => v.category).sum ≤ 8) (hsz : ls.size = nL) (hst : stk = As.reverse ++ zR G.2.2.1 a :: rest) (d : zD cc pc (.invokespecial idx) 3 pc')
    (kk : ∀ (H1 : Heap) (locs1 : List Loc), P → zS G top' L' M' s H1 locs1 → W p l e R s m args below meth c H1 locs1 (cells + mc) (slots + ms) Q (F0 m pc' ls rest)) : W p l e R s m args below meth c H locs cells slots Q (F0 m pc ls stk) := r_callI E S cf hi hy1 lk ha hM hrm hroom hn hcat hsz hst d kk
theorem u_cN (E : zEv p m c cc nL s args own meth ret G) (S : zS G top L M s H locs) {y : MethodName} {host : String} {bytes : ByteArray} {maxL n idx : Nat} {rm : Room} {mc ms : Nat} {As : List Value} {a : Int} {stk : List Value} {top' : Int} {L' : zL} {M' : zM}
    (cf : zCw y bytes maxL none n) (hi : Cond.instanceMethod y ∈ zTB) (hy1 : y.name = "<init>") (lk : Cond.methodLinkNest own idx y host ∈ zNW) (ha : 0 < a)
    (hM : Met l y (Cond.code y bytes maxL none :: zTB) rm (va_Pc (zR G.2.2.1 a :: As) (zPre G top L M)) (zQ G top' L' M' none P) mc ms (zA G))
    (hrm : (rm.cells = mc ∧ rm.slots = ms) ∧ rm.frames + 1 ≤ R.frames ∧ 8 + (maxL + 11) + rm.locals ≤ R.locals) (hroom : cells + mc ≤ R.cells ∧ slots + ms ≤ R.slots) (hn : As.length = n) (hcat : (rest.map fun v => v.category).sum ≤ 8) (hsz : ls.size = nL) (hst : stk = As.reverse ++ zR G.2.2.1 a :: rest) (d : zD cc pc (.invokespecial idx) 3 pc')
    (kk : ∀ (H1 : Heap) (locs1 : List Loc), P → zS G top' L' M' s H1 locs1 → W p l e R s m args below meth c H1 locs1 (cells + mc) (slots + ms) Q (F0 m pc' ls rest)) : W p l e R s m args below meth c H locs cells slots Q (F0 m pc ls stk) := r_callIN E S cf hi hy1 lk ha hM hrm hroom hn hcat hsz hst d kk
theorem u_cSA (E : zEv p m c cc nL s args own meth ret G) (S : zS G top L M s H locs) {y : MethodName} {bytes : ByteArray} {maxL n idx : Nat} {ret' : Option FieldType} {rm : Room} {mc ms : Nat} {As : List Value} {x : Int} {stk : List Value} {top' : Int} {L' : zL} {M' : zM}
    (cf : zCw y bytes maxL ret' n) (hi : Cond.static y ∈ zTB) (lk : Cond.methodLink own idx y ∈ zTB)
    (hM : Met l y (Cond.code y bytes maxL ret' :: zTB) rm (va_Pc As (zPre G top L M)) (zQ G top' L' M' (some (zR G.2.2.1 x)) P) mc ms (zA G))
    (hrm : (rm.cells = mc ∧ rm.slots = ms) ∧ rm.frames + 1 ≤ R.frames ∧ 8 + (maxL + 11) + rm.locals ≤ R.locals) (hroom : cells + mc ≤ R.cells ∧ slots + ms ≤ R.slots) (hn : As.length = n) (hcat : (rest.map fun v => v.category).sum ≤ 8) (hsz : ls.size = nL) (hst : stk = As.reverse ++ rest) (d : zD cc pc (.invokestatic idx) 3 pc')
    (kk : ∀ (H1 : Heap) (locs1 : List Loc), P → zS G top' L' M' s H1 locs1 → W p l e R s m args below meth c H1 locs1 (cells + mc) (slots + ms) Q (F0 m pc' ls (zR G.2.2.1 x :: rest))) : W p l e R s m args below meth c H locs cells slots Q (F0 m pc ls stk) := r_callS E S cf hi lk hM hrm hroom hn hcat hsz hst d kk
end ZS2
theorem zJ_toInt {a : Int} (h : InR a) : (Int64.ofInt a).toInt = a := by
  rw [Int64.toInt_ofInt]
  simp only [Int.bmod, show ((Int64.size : Nat) : Int) = 18446744073709551616 from rfl]
  omega
theorem zJ_lt {a b : Int} (h : InR a) (h' : InR b) : Int64.ofInt a < Int64.ofInt b ↔ a < b := by rw [Int64.lt_iff_toInt_lt, zJ_toInt h, zJ_toInt h']
theorem zJ_eq {a b : Int} (h : InR a) (h' : InR b) : Int64.ofInt a = Int64.ofInt b ↔ a = b := by rw [← Int64.toInt_inj, zJ_toInt h, zJ_toInt h']
theorem zlg_lt {a b : Int} (h : InR a) (h' : InR b) : lg_cmp (Int64.ofInt a) (Int64.ofInt b) < 0 ↔ a < b := by
  unfold lg_cmp
  by_cases h1 : b < a
  · rw [if_pos (show Int64.ofInt a > Int64.ofInt b from (zJ_lt h' h).mpr h1)]
    exact ⟨fun q => absurd q (by decide), fun q => by omega⟩
  · rw [if_neg (fun q => h1 ((zJ_lt h' h).mp q))]
    by_cases h2 : a = b
    · rw [if_pos ((zJ_eq h h').mpr h2)]
      exact ⟨fun q => absurd q (by decide), fun q => by omega⟩
    · rw [if_neg (fun q => h2 ((zJ_eq h h').mp q))]
      exact ⟨fun q => by omega, fun q => by decide⟩
theorem zlg_gt {a b : Int} (h : InR a) (h' : InR b) : 0 < lg_cmp (Int64.ofInt a) (Int64.ofInt b) ↔ b < a := by
  unfold lg_cmp
  by_cases h1 : b < a
  · rw [if_pos (show Int64.ofInt a > Int64.ofInt b from (zJ_lt h' h).mpr h1)]
    exact ⟨fun q => h1, fun q => by decide⟩
  · rw [if_neg (fun q => h1 ((zJ_lt h' h).mp q))]
    by_cases h2 : a = b
    · rw [if_pos ((zJ_eq h h').mpr h2)]
      exact ⟨fun q => absurd q (by decide), fun q => by omega⟩
    · rw [if_neg (fun q => h2 ((zJ_eq h h').mp q))]
      exact ⟨fun q => absurd q (by decide), fun q => by omega⟩
theorem zlg_eq {a b : Int} (h : InR a) (h' : InR b) : lg_cmp (Int64.ofInt a) (Int64.ofInt b) = 0 ↔ a = b := by
  unfold lg_cmp
  by_cases h1 : b < a
  · rw [if_pos (show Int64.ofInt a > Int64.ofInt b from (zJ_lt h' h).mpr h1)]
    exact ⟨fun q => absurd q (by decide), fun q => by omega⟩
  · rw [if_neg (fun q => h1 ((zJ_lt h' h).mp q))]
    by_cases h2 : a = b
    · rw [if_pos ((zJ_eq h h').mpr h2)]
      exact ⟨fun q => h2, fun q => rfl⟩
    · rw [if_neg (fun q => h2 ((zJ_eq h h').mp q))]
      exact ⟨fun q => absurd q (by decide), fun q => absurd q h2⟩
theorem Mo_in_c (l : Launch) (G : zG) (fu : Nat) (top : Int) (L : zL) (M : zM) (a0 a1 a2 : Int) {res : Int} (ha0 : InR a0) (ha1 : InR a1) (ha2 : InR a2) (h : Mo_in fu L M a0 a1 a2 = some res) : Met l yX12_in (Cond.code yX12_in cX12_in 6 (some .boolean) :: zTB) (zrm 1 0 0) (va_Pc [.long (Int64.ofInt a0), .long (Int64.ofInt a1), .long (Int64.ofInt a2)] (zPre G top L M)) (zQ G top L M (some (.int (zO res))) (0 ≤ res ∧ res ≤ 1)) 0 0 (zA G) := by
  refine Met.ofW (cc := cX12_in) (maxL := 6) (ret := some .boolean) (by decide +kernel) rfl ?_
  intro p e s m args below meth c s₁ B hml hv
  obtain ⟨rfl, hR, hK⟩ := hv
  have hts := atoms_spec (ws := Cond.code yX12_in cX12_in 6 (some .boolean) :: zTB) B.pre
  have hown : s.vm.findClass yX12_in.cls = some m.cls := findClass_of_methodNamed B.named
  have E : zEv p m c cX12_in 6 s [.long (Int64.ofInt a0), .long (Int64.ofInt a1), .long (Int64.ofInt a2)].toArray yX12_in.cls meth (some .boolean) G := ⟨⟨B.exec, B.bytes, hml, hown, fun w hw => hts w (List.mem_cons_of_mem _ hw)⟩, hK, B.returns, B.notSynchronized⟩
  have S : zS G top L M s s.heap [] := ⟨hR, va_S.rf, fun q hq => by
    have h1 := hR.2.1
    have h2 := hR.2.2.1
    show G.2.2.1 < q
    omega⟩
  rw [lg_entry_eq]
  have hl := lv_entry ([.long (Int64.ofInt a0), .long (Int64.ofInt a1), .long (Int64.ofInt a2)]) (n := 6) (Nat.le_of_ble_eq_true rfl)
  generalize ((lg_sl [.long (Int64.ofInt a0), .long (Int64.ofInt a1), .long (Int64.ofInt a2)] ++ List.replicate (6 - (lg_sl [.long (Int64.ofInt a0), .long (Int64.ofInt a1), .long (Int64.ofInt a2)]).length) Slot.unset).toArray) = ls at hl ⊢
  have hl : lv_has ls 6 [(0, .long (Int64.ofInt a0)), (2, .long (Int64.ofInt a1)), (4, .long (Int64.ofInt a2))] := hl
  unfold Mo_in at h
  have hx := E.1.1
  have hb := E.1.2.1
  refine lv_lload_n hx hb (cX12_in_dc.at 0 rfl).1 rfl (lv_at hl 0 rfl) ?_
  refine lv_lload_n hx hb (cX12_in_dc.at 1 rfl).1 rfl (lv_at hl 1 rfl) ?_
  refine W.lcmp hx hb (cX12_in_dc.at 2 rfl).1 ?_
  refine lv_if_lt (tgt := 17) hx hb (cX12_in_dc.at 3 rfl).1 (by decide) (fun q => ?_) (fun q => ?_)
  · have h := ite_t h ((zlg_lt ha0 ha1).mp q)
    cases h
    refine r_iconst E (cX12_in_dc.at 10 rfl) ?_
    exact r_zret E S z01_0 z01_0 (cX12_in_dc.at 11 rfl)
  · have h := ite_f h (fun z => q ((zlg_lt ha0 ha1).mpr z))
    refine lv_lload_n hx hb (cX12_in_dc.at 4 rfl).1 rfl (lv_at hl 0 rfl) ?_
    refine lv_lload hx hb (cX12_in_dc.at 5 rfl).1 (lv_at hl 2 rfl) ?_
    refine W.lcmp hx hb (cX12_in_dc.at 6 rfl).1 ?_
    refine lv_if_gt (tgt := 17) hx hb (cX12_in_dc.at 7 rfl).1 (by decide) (fun q => ?_) (fun q => ?_)
    · have h := ite_t h ((zlg_gt ha0 ha2).mp q)
      cases h
      refine r_iconst E (cX12_in_dc.at 10 rfl) ?_
      exact r_zret E S z01_0 z01_0 (cX12_in_dc.at 11 rfl)
    · have h := ite_f h (fun z => q ((zlg_gt ha0 ha2).mpr z))
      cases h
      refine r_iconst E (cX12_in_dc.at 8 rfl) ?_
      refine r_goto (tgt := 18) E (cX12_in_dc.at 9 rfl) (by decide) ?_
      exact r_zret E S z01_1 z01_1 (cX12_in_dc.at 11 rfl)
