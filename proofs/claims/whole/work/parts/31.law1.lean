/-! ===== the law's own person: the catch ===== -/
section ZP3
variable {p : Program} {l : Launch} {e : Env} {R : Room} {s : State} {m : MethodId} {args : Array Value} {below : List Frame} {meth : Method} {c : Code} {H : Heap} {locs : List Loc} {cells slots : Nat} {Q : State → Prop}
variable {cc : ByteArray} {nL pc pc' : Nat} {ls : Array Slot} {rest : List Value} {own : String} {ret : Option FieldType} {G : zG} {top : Int} {L : zL} {M : zM} {vs : List (Option Value)} {P : Prop} {fu : Nat}
theorem u_cVX (E : zEv p m c cc nL s args own meth ret G) (S : zS G top L M s H locs) {y : MethodName} {bytes : ByteArray} {maxL n idx ci : Nat} {ret' : Option FieldType} {T : u_T} {N : Nat} {rm : Room} {mc ms : Nat} {As : List Value} {a : Int} {stk : List Value} {res : Option Int}
    (cf : zCw y bytes maxL ret' n) (hi : Cond.instanceMethod y ∈ zTB) (hs : Cond.selects y.cls y y ∈ zTB) (lk : Cond.methodLink own idx y ∈ zTB) (F : zcl[ci]? = some (y.cls, T, N)) (htag : (L a).1 = (ci : Int) + 1)
    (hM : vx_Met l y (Cond.code y bytes maxL ret' :: zTB) rm (va_Pc (zR G.2.2.1 a :: As) (zPre G top L M)) (zQX G top L M res) (zXX G top L M res) mc ms (zA G))
    (hrm : (rm.cells = mc ∧ rm.slots = ms) ∧ rm.frames + 1 ≤ R.frames ∧ 8 + (maxL + 11) + rm.locals ≤ R.locals) (hroom : cells + mc ≤ R.cells ∧ slots + ms ≤ R.slots) (hn : As.length = n) (hcat : (rest.map fun v => v.category).sum ≤ 8) (hsz : ls.size = nL) (hst : stk = As.reverse ++ zR G.2.2.1 a :: rest) (d : zD cc pc (.invokevirtual idx) 3 pc')
    (kx : ∀ (q : Addr) (ce : Cell) (H1 : Heap) (locs1 : List Loc), res = none → zS G (top + 1) (lu L top (14, 0)) (mz M top) s H1 locs1 → H1[q]? = some ce → ce.vm = .none → s.vm.findClass "java/util/NoSuchElementException" = some ce.cls → vx_W p l e R s m args below meth c H1 locs1 (cells + mc) (slots + ms) Q (F0 m pc ls rest) q)
    (kk : ∀ (x : Int) (H1 : Heap) (locs1 : List Loc), res = some x → InR x → zS G top L M s H1 locs1 → W p l e R s m args below meth c H1 locs1 (cells + mc) (slots + ms) Q (F0 m pc' ls (.int (zO x) :: rest))) : W p l e R s m args below meth c H locs cells slots Q (F0 m pc ls stk) := by
  obtain ⟨t1, t2⟩ := S.1.tag htag (by omega)
  rw [zR_some t1] at hM hst
  have hat := S.1.at htag (by omega)
  rw [zce_obj htag (zcl_lt F)] at hat
  have hts := E.1.2.2.2.2
  have cw : CallW R s args own y.cls idx y bytes maxL ret' (Cond.code y bytes maxL ret' :: zTB) rm mc ms n := ⟨callB_of n hts (zCw_good cf) rfl hrm.1.1 hrm.1.2 (hts _ cf.2.1) (hts _ lk) cf.2.2 hrm.2, hts _ hi, hts _ hs⟩
  subst hst
  have hr : vx_Run p l e R s m args below meth c H locs cells slots mc ms (F0 m pc ls (As.reverse ++ Value.ref (G.2.2.1 + a.toNat) :: rest)) rest (zQX G top L M res (Value.ref (G.2.2.1 + a.toNat) :: As).toArray) (zXX G top L M res) (zA G) := vx_runV E.1 hM cw ⟨zPre_blind, va_recv E.2.1.1 S.1.1 F hat, z_pre E S _⟩ rfl hn hsz rfl (by show 2 * 0 + _ ≤ 8; omega) d.1 hroom
  have hpc := d.2
  subst hpc
  intro T hT X
  rcases hr T hT X with ⟨v', st₀, t, T', L1, h0, X', hL, e1, e2, ⟨x, hres, hv, hP, hRel, hz, hk⟩, st⟩ | ⟨q, st₀, t, T', L1, E9, ce, h0, X', hL, e1, e2, ⟨hE9, hres, hRel, hz, hk⟩, hce, hcv, hcl, st⟩
  · cases hv
    rw [h0] at hz hk
    obtain ⟨t2, a1, b1⟩ := kk x T'.heap (locs ++ L1) hres hP ⟨by rw [e1]; exact hRel, ⟨Nat.le_trans S.2.1.1 (by rw [e1]; exact hz), fun q h1 h2 => by rw [e1, hk q (Nat.lt_of_lt_of_le h1 S.2.1.1) h2]; exact S.2.1.2.1 q h1 h2, fun q hq => by
        rcases List.mem_append.mp hq with h | h
        · exact S.2.1.2.2 q h
        · exact hL q h⟩, S.2.2⟩ T' rfl X'
    exact ⟨t2, st t2 a1, b1⟩
  · subst hE9
    rw [h0] at hz hk
    obtain ⟨t2, a1, b1⟩ := kx q ce T'.heap (locs ++ L1) hres ⟨by rw [e1]; exact hRel, ⟨Nat.le_trans S.2.1.1 (by rw [e1]; exact hz), fun q h1 h2 => by rw [e1, hk q (Nat.lt_of_lt_of_le h1 S.2.1.1) h2]; exact S.2.1.2.1 q h1 h2, fun q hq => by
        rcases List.mem_append.mp hq with h | h
        · exact S.2.1.2.2 q h
        · exact hL q h⟩, S.2.2⟩ (by rw [e1]; exact hce) hcv hcl T' rfl X'
    exact ⟨t2, st.trans a1, b1⟩
theorem Lw_person_dc : zDL method_3_code [(0, .aload_n 3, 1, 1), (1, .iconst 0, 1, 2), (2, .aload_n 0, 1, 3), (3, .iload_n 1, 1, 4), (4, .iload_n 2, 1, 5), (5, .invokevirtual 7, 3, 8), (8, .i2l, 1, 9), (9, .lastore, 1, 10), (10, .goto 7, 3, 13), (13, .astore 4, 2, 15), (15, .iconst 1, 1, 16), (16, .ireturn, 1, 17), (17, .iconst 0, 1, 18), (18, .ireturn, 1, 19)] := zDL.of (by decide +kernel)
def Lw_person (fu : Nat) (top : Int) (L : zL) (M : zM) (x q w out : Int) : Option (Int × zL × zM × Int) :=
  (if top < 2000000000 then (if (L x).1 = 12 then (bd1 (Lx_person fu L M x q w) fun r => (match r with
    | none => some (top + 1, lu L top (14, 0), mz M top, 1)
    | some v => (if (L out).1 = 102 then (if (0 : Int) ≤ 0 ∧ 0 < (L out).2 then some (top, L, mu M out 0 v, 0) else none) else none))) else none) else none)
theorem Lw_person_w (E : zEv p m c method_3_code 5 s args "LaterLivesLaw" meth (some .int) G) {x q w out : Int} {top' : Int} {L' : zL} {M' : zM} {r : Int} {H : Heap} {locs : List Loc} {ls : Array Slot} (hlf : l.stackTraces = false) (hx : InR x) (hq : InR q) (hw : InR w) (hout : InR out) (htab : c.exceptionTable.toList = [⟨0, 10, 13, 13⟩]) (S : zS G top L M s H locs) (hl : zLV ls 5 [some (zR G.2.2.1 x), some (.int (zO q)), some (.int (zO w)), some (zR G.2.2.1 out), none]) (h : Lw_person fu top L M x q w out = some (top', L', M', r)) : W p l e (zrm 9 1 6) s m args below meth c H locs 0 0 (MQ below (zQ G top' L' M' (some (.int (zO r))) (InR r)) args s 1 6 (zA G)) (F0 m 0 ls []) := by
  unfold Lw_person at h
  obtain ⟨htop, h⟩ := ite_e h
  obtain ⟨hx12, h⟩ := ite_e h
  obtain ⟨res, er, h⟩ := bd1_e h
  refine u_al_n (x := out) E (Lw_person_dc.at 0 rfl) hl rfl ?_
  refine r_iconst E (Lw_person_dc.at 1 rfl) ?_
  refine u_al_n (x := x) E (Lw_person_dc.at 2 rfl) hl rfl ?_
  refine u_il_n (x := q) E (Lw_person_dc.at 3 rfl) hl rfl ?_
  refine u_il_n (x := w) E (Lw_person_dc.at 4 rfl) hl rfl ?_
  refine u_cVX (As := [.int (zO q), .int (zO w)]) (rest := [.int (zO 0), zR G.2.2.1 out]) E S zcw_yX11_person zw_6_132 zw_6_133 zw_6_131 zck_11.1 hx12 (Lx_person_c l hlf G fu top htop L M x q w hx hq hw er) (zrm_ok (by decide) (by decide)) ⟨by decide, by decide⟩ rfl (by simp [zR_cat, zcat_I]) hl.size rfl (Lw_person_dc.at 5 rfl) (fun a ce H1 locs1 hres S1 hce hcv hcl => ?_) (fun v H1 locs1 hres hv S1 => ?_)
  · subst hres
    cases h
    refine vx_catch (name := "java/util/NoSuchElementException") (E := "java/util/NoSuchElementException") E.1.2.2.2.1 [] ⟨0, 10, 13, 13⟩ [] htab (fun z hz => nomatch hz) (by decide) (by decide) (E.1.2.2.2.2 _ zw_6_130) ?_ hce hcv hcl ?_
    · exact va_Nw.use (by decide) (E.2.1.2.1 _ (by decide))
    · refine r_astore (o := some a) (vs' := [some (zR G.2.2.1 x), some (.int (zO q)), some (.int (zO w)), some (zR G.2.2.1 out), some (.ref a)]) E (Lw_person_dc.at 9 rfl) hl (by decide) rfl (fun ls hl => ?_)
      refine r_iconst E (Lw_person_dc.at 10 rfl) ?_
      exact r_iret E S1 (by decide) (Lw_person_dc.at 11 rfl)
  · subst hres
    obtain ⟨g1, h⟩ := ite_e h
    obtain ⟨g2, h⟩ := ite_e h
    cases h
    refine r_i2l E hv (Lw_person_dc.at 6 rfl) ?_
    refine u_last E rfl S1 g1 g2 hv (Lw_person_dc.at 7 rfl) (fun H locs S2 => ?_)
    refine r_goto (tgt := 17) E (Lw_person_dc.at 8 rfl) (by decide) ?_
    refine r_iconst E (Lw_person_dc.at 12 rfl) ?_
    exact r_iret E S2 (by decide) (Lw_person_dc.at 13 rfl)
theorem Lw_person_c (l : Launch) (hlf : l.stackTraces = false) (G : zG) (fu : Nat) (top : Int) (L : zL) (M : zM) (x q w out : Int) {top' : Int} {L' : zL} {M' : zM} {r : Int} (hx : InR x) (hq : InR q) (hw : InR w) (hout : InR out) (h : Lw_person fu top L M x q w out = some (top', L', M', r)) : vx_Met l yL_person (Cond.codeWith yL_person method_3_code 5 (some .int) [(0, 10, 13, 13)] :: zTB) (zrm 9 1 6) (va_Pc [zR G.2.2.1 x, .int (zO q), .int (zO w), zR G.2.2.1 out] (zPre G top L M)) (zQ G top' L' M' (some (.int (zO r))) (InR r)) (fun _ _ _ => False) 1 6 (zA G) := by
  refine vx_ofWH (cc := method_3_code) (maxL := 5) (ret := some .int) (hh := [(0, 10, 13, 13)]) (by decide +kernel) rfl ?_
  intro p e s m args below meth c s₁ B hml hv
  obtain ⟨rfl, hR, hK⟩ := hv
  have hts := atoms_spec (ws := Cond.codeWith yL_person method_3_code 5 (some .int) [(0, 10, 13, 13)] :: zTB) B.pre
  have hown : s.vm.findClass yL_person.cls = some m.cls := findClass_of_methodNamed B.named
  rw [lg_entry_eq]
  refine vx_ret ?_
  exact Lw_person_w ⟨⟨B.exec, B.bytes, hml, hown, fun w hw => hts w (List.mem_cons_of_mem _ hw)⟩, hK, B.returns, B.notSynchronized⟩ hlf hx hq hw hout (vx_table (x := yL_person) B (hts _ List.mem_cons_self)) ⟨hR, va_S.rf, fun q hq => by
    have h1 := hR.2.1
    have h2 := hR.2.2.1
    show G.2.2.1 < q
    omega⟩ ((zLV.entry (vs := [zR G.2.2.1 x, .int (zO q), .int (zO w), zR G.2.2.1 out]) (by simp [zR_cat, zcat_I]) (Nat.le_of_ble_eq_true rfl)).sub (And.intro rfl (And.intro rfl (And.intro rfl (And.intro rfl True.intro))))) h
theorem u_person (E : zEv p m c cc nL s args own meth ret G) (hlf : l.stackTraces = false) (S : zS G top L M s H locs) {x q w out top' : Int} {L' : zL} {M' : zM} {r : Int} {idx : Nat} (hx : InR x) (hq : InR q) (hw : InR w) (hout : InR out) (lk : Cond.methodLink own idx yL_person ∈ zTB) (hsz : ls.size = nL) (h : Lw_person fu top L M x q w out = some (top', L', M', r)) (hrm : 10 ≤ R.frames ∧ 8 + (5 + 11) + 576 ≤ R.locals) (hc : cells + 1 ≤ R.cells) (hs : slots + 6 ≤ R.slots) (hcat : (rest.map fun v => v.category).sum ≤ 8) (d : zD cc pc (.invokestatic idx) 3 pc')
    (kk : ∀ (H1 : Heap) (locs1 : List Loc), InR r → zS G top' L' M' s H1 locs1 → W p l e R s m args below meth c H1 locs1 (cells + 1) (slots + 6) Q (F0 m pc' ls (.int (zO r) :: rest))) : W p l e R s m args below meth c H locs cells slots Q (F0 m pc ls (zR G.2.2.1 out :: .int (zO w) :: .int (zO q) :: zR G.2.2.1 x :: rest)) := by
  have hts := E.1.2.2.2.2
  have cw : vx_CSW R s args own idx yL_person method_3_code 5 (some .int) [(0, 10, 13, 13)] (Cond.codeWith yL_person method_3_code 5 (some .int) [(0, 10, 13, 13)] :: zTB) (zrm 9 1 6) 1 6 4 := by
    refine vx_cwSW (ws' := zTB) 4 hts (fun v hv => ?_) rfl rfl rfl (by decide) ⟨hrm.1, hrm.2⟩
    have hv' : v = Cond.methodLink own idx yL_person ∨ v = Cond.static yL_person ∨ v = Cond.initialized yL_person.cls ∨ v = Cond.codeWith yL_person method_3_code 5 (some .int) [(0, 10, 13, 13)] ∨ v ∈ zTB := by
      simpa [va_wsS] using hv
    rcases hv' with rfl | rfl | rfl | rfl | hv
    · exact ⟨lk, good_of_word (zTB_good lk)⟩
    · exact ⟨zw_6_128, good_of_word (zTB_good zw_6_128)⟩
    · exact ⟨zw_1_0, good_of_word (zTB_good zw_1_0)⟩
    · exact ⟨zw_6_129, good_of_word (zTB_good zw_6_129)⟩
    · exact ⟨hv, good_of_word (zTB_good hv)⟩
  have hr : vx_Run p l e R s m args below meth c H locs cells slots 1 6 (F0 m pc ls (zR G.2.2.1 out :: .int (zO w) :: .int (zO q) :: zR G.2.2.1 x :: rest)) rest (zQ G top' L' M' (some (.int (zO r))) (InR r) [zR G.2.2.1 x, .int (zO q), .int (zO w), zR G.2.2.1 out].toArray) (fun _ _ _ => False) (zA G) := vx_runSX E.1 (Lw_person_c l hlf G fu top L M x q w out hx hq hw hout h) cw ⟨zPre_blind, z_pre E S _⟩ rfl rfl hsz rfl (by show 2 * 0 + _ ≤ 8; omega) d.1 ⟨hc, hs⟩
  refine z_ret (a := [zR G.2.2.1 x, .int (zO q), .int (zO w), zR G.2.2.1 out].toArray) S (v := some (.int (zO r))) (rest := rest) (P := InR r) (mc := 1) (ms := 6) (fun T hT X => ?_) d.2 kk
  rcases hr T hT X with h1 | ⟨q, st₀, t, T', L1, E9, ce, h0, X', hL, e1, e2, hF, -⟩
  · exact h1
  · exact hF.elim
end ZP3
