/-! ===== returns, contracts, calls ===== -/
def zQ (G : zG) (top : Int) (L : zL) (M : zM) (v : Option Value) (P : Prop) : Array Value → State → Outcome → State → Prop := fun _ st o t => o = .returned v ∧ P ∧ zRel G top L M t.heap ∧ va_F (zA G) st t
def zPre (G : zG) (top : Int) (L : zL) (M : zM) : State → Prop := fun U => zRel G top L M U.heap ∧ zK G U U.heap
def zrm (d mc ms : Nat) : Room := { frames := d, cells := mc, slots := ms, locals := 64 * d }
theorem zPre_blind {G : zG} {top : Int} {L : zL} {M : zM} {av : List Value} : FrameBlind (va_Pc av (zPre G top L M)) := by
  intro a U g mk q
  exact ⟨q.1, q.2.1, zK.go (s := U) (U := U.calling g mk a) q.2.2 (fun _ _ _ => rfl) rfl (State.WarmedH.refl U)⟩
section ZC
variable {p : Program} {l : Launch} {e : Env} {R : Room} {s : State} {m : MethodId} {args : Array Value} {below : List Frame} {meth : Method} {c : Code} {H : Heap} {locs : List Loc} {cells slots : Nat} {Q : State → Prop}
variable {cc : ByteArray} {nL pc pc' : Nat} {ls : Array Slot} {rest : List Value} {own : String} {ret : Option FieldType} {G : zG} {top : Int} {L : zL} {M : zM} {vs : List (Option Value)} {P : Prop}
theorem r_iret (E : zEv p m c cc nL s args own meth (some .int) G) {x : Int} (S : zS G top L M s H locs) (hP : P) (d : zD cc pc .ireturn 1 pc') : W p l e R s m args below meth c H locs cells slots (MQ below (zQ G top L M (some (.int (zO x))) P) args s cells slots (zA G)) (F0 m pc ls [.int (zO x)]) :=
  W.iret E.1.1 E.1.2.1 E.2.2.1 (fun t ht _ => ⟨rfl, hP, by rw [ht]; exact S.1, S.2.1.F ht⟩) S.2.1.2.2 d.1 E.2.2.2
theorem r_zret (E : zEv p m c cc nL s args own meth (some .boolean) G) {x : Int} (S : zS G top L M s H locs) (hP : P) (hx : 0 ≤ x ∧ x ≤ 1) (d : zD cc pc .ireturn 1 pc') : W p l e R s m args below meth c H locs cells slots (MQ below (zQ G top L M (some (.int (zO x))) P) args s cells slots (zA G)) (F0 m pc ls [.int (zO x)]) := by
  have hv01 : x = 0 ∨ x = 1 := by omega
  exact W.zret E.1.1 E.1.2.1 E.2.2.1 (by rcases hv01 with rfl | rfl <;> rfl) (fun t ht _ => ⟨rfl, hP, by rw [ht]; exact S.1, S.2.1.F ht⟩) S.2.1.2.2 d.1 E.2.2.2
theorem r_vret (E : zEv p m c cc nL s args own meth none G) (S : zS G top L M s H locs) (hP : P) (d : zD cc pc .return_ 1 pc') : W p l e R s m args below meth c H locs cells slots (MQ below (zQ G top L M none P) args s cells slots (zA G)) (F0 m pc ls []) :=
  W.vret E.1.1 E.1.2.1 E.2.2.1 (fun t ht _ => ⟨rfl, hP, by rw [ht]; exact S.1, S.2.1.F ht⟩) S.2.1.2.2 d.1 E.2.2.2
theorem r_aret {rt : FieldType} (E : zEv p m c cc nL s args own meth (some rt) G) (hrt : (∃ n, rt = .object n) ∨ ∃ t, rt = .array t) {x : Int} (S : zS G top L M s H locs) (hP : P) (d : zD cc pc .areturn 1 pc') : W p l e R s m args below meth c H locs cells slots (MQ below (zQ G top L M (some (zR G.2.2.1 x)) P) args s cells slots (zA G)) (F0 m pc ls [zR G.2.2.1 x]) := by
  refine W.aret E.1.1 E.1.2.1 E.2.2.1 hrt ?_ (fun t ht _ => ⟨rfl, hP, by rw [ht]; exact S.1, S.2.1.F ht⟩) S.2.1.2.2 d.1 E.2.2.2
  by_cases h : x = 0
  · exact Or.inl (zro_0 h)
  · exact Or.inr ⟨_, zro_ne h⟩
theorem z_met {y : MethodName} {As : List Value} {Qc : Array Value → State → Outcome → State → Prop} {rm : Room} {mc ms : Nat} (hy : plainName y.cls = true) (hcat : As.all (fun v => v.category == 1) = true) (hlen : As.length ≤ nL)
    (body : ∀ (p : Program) (e : Env) (s : State) (m : MethodId) (below : List Frame) (meth : Method) (c : Code) (ls : Array Slot), zEv p m c cc nL s As.toArray y.cls meth ret G → meth.name = y.name → zS G top L M s s.heap [] → zLV ls nL (As.map some) → W p l e rm s m As.toArray below meth c s.heap [] 0 0 (MQ below Qc As.toArray s mc ms (zA G)) (F0 m 0 ls [])) :
    Met l y (Cond.code y cc nL ret :: zTB) rm (va_Pc As (zPre G top L M)) Qc mc ms (zA G) := by
  refine Met.ofW (cc := cc) (maxL := nL) (ret := ret) hy rfl ?_
  intro p e s m args below meth c s₁ B hml hv
  obtain ⟨rfl, hR, hK⟩ := hv
  have hts := atoms_spec (ws := Cond.code y cc nL ret :: zTB) B.pre
  have hown : s.vm.findClass y.cls = some m.cls := findClass_of_methodNamed B.named
  rw [lg_entry_eq]
  refine body p e s m below meth c _ ⟨⟨B.exec, B.bytes, hml, hown, fun w hw => hts w (List.mem_cons_of_mem _ hw)⟩, hK, B.returns, B.notSynchronized⟩ (name_of_methodNamed B.named B.method).1 ⟨hR, va_S.rf, fun q hq => ?_⟩ (zLV.entry (fun v hv => ?_) hlen)
  · have h1 := hR.2.1
    have h2 := hR.2.2.1
    show G.2.2.1 < q
    omega
  · exact eq_of_beq (List.all_eq_true.mp hcat v hv)
/-- what the tables say of a method that is called -/
def zCw (y : MethodName) (bytes : ByteArray) (maxL : Nat) (ret : Option FieldType) (n : Nat) : Prop := Cond.code y bytes maxL ret ∈ zTB ∧ Cond.initialized y.cls ∈ zTB ∧ (y.cls ≠ "java/lang/invoke/MethodHandle" ∧ y.cls ≠ "java/lang/invoke/VarHandle" ∧ (parseMethodDescriptor y.desc).map (fun d => d.parameters.length) = some n)
theorem zTB_good {w : Cond} (h : w ∈ zTB) : goodWord w = true := (List.mem_filter.mp h).2
theorem zCw_good {y : MethodName} {bytes : ByteArray} {maxL : Nat} {ret : Option FieldType} {n : Nat} (cf : zCw y bytes maxL ret n) : GoodIn zTB (Cond.code y bytes maxL ret :: zTB) := by
  intro w hw
  rcases List.mem_cons.mp hw with rfl | hw
  · exact ⟨cf.1, good_of_word (zTB_good cf.1)⟩
  · exact ⟨hw, good_of_word (zTB_good hw)⟩
theorem z_ret {v : Option Value} {mc ms : Nat} {st0 : List Value} {a : Array Value} {top' : Int} {L' : zL} {M' : zM} (S : zS G top L M s H locs) (hr : va_Run p l e R s m args below meth c H locs cells slots mc ms (F0 m pc ls st0) rest (zQ G top' L' M' v P a) (zA G)) (hpc : pc + 3 = pc')
    (kk : ∀ (H1 : Heap) (locs1 : List Loc), P → zS G top' L' M' s H1 locs1 → W p l e R s m args below meth c H1 locs1 (cells + mc) (slots + ms) Q (F0 m pc' ls (v.toList ++ rest))) : W p l e R s m args below meth c H locs cells slots Q (F0 m pc ls st0) := by
  subst hpc
  intro T hT X
  obtain ⟨v', st₀, t, T', L1, h0, X', hL, e1, e2, ⟨hv, hP, hRel, hF⟩, st⟩ := hr T hT X
  cases hv
  obtain ⟨hz, hk⟩ := hF
  rw [h0] at hz hk
  obtain ⟨t2, a1, b1⟩ := kk T'.heap (locs ++ L1) hP ⟨by rw [e1]; exact hRel, ⟨Nat.le_trans S.2.1.1 (by rw [e1]; exact hz), fun q h1 h2 => by rw [e1, hk q (Nat.lt_of_lt_of_le h1 S.2.1.1) h2]; exact S.2.1.2.1 q h1 h2, fun q hq => by
      rcases List.mem_append.mp hq with h | h
      · exact S.2.1.2.2 q h
      · exact hL q h⟩, S.2.2⟩ T' rfl X'
  exact ⟨t2, st t2 a1, b1⟩
theorem z_pre (E : zEv p m c cc nL s args own meth ret G) (S : zS G top L M s H locs) (av : List Value) : ∀ U : State, U.heap = H → s.WarmedH U.vm → va_Pc av (zPre G top L M) av.toArray U := by
  intro U hU hW
  exact ⟨rfl, by rw [hU]; exact S.1, E.2.1.go S.2.1.2.1 hU hW⟩
theorem r_callV (E : zEv p m c cc nL s args own meth ret G) (S : zS G top L M s H locs) {y : MethodName} {bytes : ByteArray} {maxL n idx ci : Nat} {ret' : Option FieldType} {T : u_T} {N : Nat} {rm : Room} {mc ms : Nat} {As : List Value} {a : Int} {v : Option Value} {stk : List Value} {top' : Int} {L' : zL} {M' : zM}
    (cf : zCw y bytes maxL ret' n) (hi : Cond.instanceMethod y ∈ zTB) (hs : Cond.selects y.cls y y ∈ zTB) (lk : Cond.methodLink own idx y ∈ zTB) (F : zcl[ci]? = some (y.cls, T, N)) (htag : (L a).1 = (ci : Int) + 1)
    (hM : Met l y (Cond.code y bytes maxL ret' :: zTB) rm (va_Pc (zR G.2.2.1 a :: As) (zPre G top L M)) (zQ G top' L' M' v P) mc ms (zA G))
    (hrm : (rm.cells = mc ∧ rm.slots = ms) ∧ rm.frames + 1 ≤ R.frames ∧ 8 + (maxL + 11) + rm.locals ≤ R.locals) (hroom : cells + mc ≤ R.cells ∧ slots + ms ≤ R.slots) (hn : As.length = n) (hcat : (rest.map fun v => v.category).sum ≤ 8) (hsz : ls.size = nL) (hst : stk = As.reverse ++ zR G.2.2.1 a :: rest) (d : zD cc pc (.invokevirtual idx) 3 pc')
    (kk : ∀ (H1 : Heap) (locs1 : List Loc), P → zS G top' L' M' s H1 locs1 → W p l e R s m args below meth c H1 locs1 (cells + mc) (slots + ms) Q (F0 m pc' ls (v.toList ++ rest))) : W p l e R s m args below meth c H locs cells slots Q (F0 m pc ls stk) := by
  obtain ⟨t1, t2⟩ := S.1.tag htag (by omega)
  rw [zR_some t1] at hM hst
  have hat := S.1.at htag (by omega)
  rw [zce_obj htag (zcl_lt F)] at hat
  have hts := E.1.2.2.2.2
  have cw : CallW R s args own y.cls idx y bytes maxL ret' (Cond.code y bytes maxL ret' :: zTB) rm mc ms n := ⟨callB_of n hts (zCw_good cf) rfl hrm.1.1 hrm.1.2 (hts _ cf.2.1) (hts _ lk) cf.2.2 hrm.2, hts _ hi, hts _ hs⟩
  subst hst
  exact z_ret S (va_runV E.1 hM cw ⟨zPre_blind, va_recv E.2.1.1 S.1.1 F hat, z_pre E S _⟩ rfl hn hsz rfl (by show 2 * 0 + _ ≤ 8; omega) d.1 hroom) d.2 kk
theorem r_callS (E : zEv p m c cc nL s args own meth ret G) (S : zS G top L M s H locs) {y : MethodName} {bytes : ByteArray} {maxL n idx : Nat} {ret' : Option FieldType} {rm : Room} {mc ms : Nat} {As : List Value} {v : Option Value} {stk : List Value} {top' : Int} {L' : zL} {M' : zM}
    (cf : zCw y bytes maxL ret' n) (hi : Cond.static y ∈ zTB) (lk : Cond.methodLink own idx y ∈ zTB)
    (hM : Met l y (Cond.code y bytes maxL ret' :: zTB) rm (va_Pc As (zPre G top L M)) (zQ G top' L' M' v P) mc ms (zA G))
    (hrm : (rm.cells = mc ∧ rm.slots = ms) ∧ rm.frames + 1 ≤ R.frames ∧ 8 + (maxL + 11) + rm.locals ≤ R.locals) (hroom : cells + mc ≤ R.cells ∧ slots + ms ≤ R.slots) (hn : As.length = n) (hcat : (rest.map fun v => v.category).sum ≤ 8) (hsz : ls.size = nL) (hst : stk = As.reverse ++ rest) (d : zD cc pc (.invokestatic idx) 3 pc')
    (kk : ∀ (H1 : Heap) (locs1 : List Loc), P → zS G top' L' M' s H1 locs1 → W p l e R s m args below meth c H1 locs1 (cells + mc) (slots + ms) Q (F0 m pc' ls (v.toList ++ rest))) : W p l e R s m args below meth c H locs cells slots Q (F0 m pc ls stk) := by
  have hts := E.1.2.2.2.2
  have cw : CallB R s args own idx y bytes maxL ret' (Cond.code y bytes maxL ret' :: zTB) rm mc ms n ∧ (Cond.static y).before args s = true := ⟨callB_of n hts (zCw_good cf) rfl hrm.1.1 hrm.1.2 (hts _ cf.2.1) (hts _ lk) cf.2.2 hrm.2, hts _ hi⟩
  subst hst
  exact z_ret S (va_runS E.1 hM cw ⟨zPre_blind, z_pre E S _⟩ rfl hn hsz rfl (by show 2 * 0 + _ ≤ 8; omega) d.1 hroom) d.2 kk
theorem r_callI (E : zEv p m c cc nL s args own meth ret G) (S : zS G top L M s H locs) {y : MethodName} {bytes : ByteArray} {maxL n idx : Nat} {rm : Room} {mc ms : Nat} {As : List Value} {a : Int} {v : Option Value} {stk : List Value} {top' : Int} {L' : zL} {M' : zM}
    (cf : zCw y bytes maxL none n) (hi : Cond.instanceMethod y ∈ zTB) (hy1 : y.name = "<init>") (lk : Cond.methodLink own idx y ∈ zTB) (ha : 0 < a)
    (hM : Met l y (Cond.code y bytes maxL none :: zTB) rm (va_Pc (zR G.2.2.1 a :: As) (zPre G top L M)) (zQ G top' L' M' v P) mc ms (zA G))
    (hrm : (rm.cells = mc ∧ rm.slots = ms) ∧ rm.frames + 1 ≤ R.frames ∧ 8 + (maxL + 11) + rm.locals ≤ R.locals) (hroom : cells + mc ≤ R.cells ∧ slots + ms ≤ R.slots) (hn : As.length = n) (hcat : (rest.map fun v => v.category).sum ≤ 8) (hsz : ls.size = nL) (hst : stk = As.reverse ++ zR G.2.2.1 a :: rest) (d : zD cc pc (.invokespecial idx) 3 pc')
    (kk : ∀ (H1 : Heap) (locs1 : List Loc), P → zS G top' L' M' s H1 locs1 → W p l e R s m args below meth c H1 locs1 (cells + mc) (slots + ms) Q (F0 m pc' ls (v.toList ++ rest))) : W p l e R s m args below meth c H locs cells slots Q (F0 m pc ls stk) := by
  rw [zR_some ha] at hM hst
  have hts := E.1.2.2.2.2
  have cw : CallB R s args own idx y bytes maxL none (Cond.code y bytes maxL none :: zTB) rm mc ms n ∧ y.name = "<init>" ∧ (Cond.instanceMethod y).before args s = true := ⟨callB_of n hts (zCw_good cf) rfl hrm.1.1 hrm.1.2 (hts _ cf.2.1) (hts _ lk) cf.2.2 hrm.2, hy1, hts _ hi⟩
  subst hst
  exact z_ret S (va_runI E.1 hM cw ⟨zPre_blind, z_pre E S _⟩ rfl hn hsz rfl (by show 2 * 0 + _ ≤ 8; omega) d.1 hroom) d.2 kk
theorem r_callIN (E : zEv p m c cc nL s args own meth ret G) (S : zS G top L M s H locs) {y : MethodName} {host : String} {bytes : ByteArray} {maxL n idx : Nat} {rm : Room} {mc ms : Nat} {As : List Value} {a : Int} {v : Option Value} {stk : List Value} {top' : Int} {L' : zL} {M' : zM}
    (cf : zCw y bytes maxL none n) (hi : Cond.instanceMethod y ∈ zTB) (hy1 : y.name = "<init>") (lk : Cond.methodLinkNest own idx y host ∈ zNW) (ha : 0 < a)
    (hM : Met l y (Cond.code y bytes maxL none :: zTB) rm (va_Pc (zR G.2.2.1 a :: As) (zPre G top L M)) (zQ G top' L' M' v P) mc ms (zA G))
    (hrm : (rm.cells = mc ∧ rm.slots = ms) ∧ rm.frames + 1 ≤ R.frames ∧ 8 + (maxL + 11) + rm.locals ≤ R.locals) (hroom : cells + mc ≤ R.cells ∧ slots + ms ≤ R.slots) (hn : As.length = n) (hcat : (rest.map fun v => v.category).sum ≤ 8) (hsz : ls.size = nL) (hst : stk = As.reverse ++ zR G.2.2.1 a :: rest) (d : zD cc pc (.invokespecial idx) 3 pc')
    (kk : ∀ (H1 : Heap) (locs1 : List Loc), P → zS G top' L' M' s H1 locs1 → W p l e R s m args below meth c H1 locs1 (cells + mc) (slots + ms) Q (F0 m pc' ls (v.toList ++ rest))) : W p l e R s m args below meth c H locs cells slots Q (F0 m pc ls stk) := by
  rw [zR_some ha] at hM hst
  have hts := E.1.2.2.2.2
  have cw : va_CN R s args own idx y host bytes maxL none (Cond.code y bytes maxL none :: zTB) rm mc ms n ∧ y.name = "<init>" ∧ (Cond.instanceMethod y).before args s = true := ⟨va_cnB n hts (zCw_good cf) rfl hrm.1.1 hrm.1.2 (E.2.1.2.1 _ lk) (hts _ cf.2.1) cf.2.2 hrm.2, hy1, hts _ hi⟩
  subst hst
  exact z_ret S (va_runIN E.1 hM cw ⟨zPre_blind, z_pre E S _⟩ rfl hn hsz rfl (by show 2 * 0 + _ ≤ 8; omega) d.1 hroom) d.2 kk
theorem r_obj (E : zEv p m c cc nL s args own meth ret G) {idx : Nat} {a : Int} (lk : Cond.methodLink own idx Lib.objectInit ∈ zTB) (hi : Cond.instanceMethod Lib.objectInit ∈ zTB) (hc : Cond.code Lib.objectInit ⟨#[0xb1]⟩ 1 none ∈ zTB) (ha : 0 < a) (hsz : ls.size = nL) (hfr : 1 ≤ R.frames) (hlo : (rest.map fun v => v.category).sum + 12 ≤ R.locals) (d : zD cc pc (.invokespecial idx) 3 pc')
    (kk : W p l e R s m args below meth c H locs cells slots Q (F0 m pc' ls rest)) : W p l e R s m args below meth c H locs cells slots Q (F0 m pc ls (zR G.2.2.1 a :: rest)) := by
  obtain ⟨d, rfl⟩ := d
  have hts := E.1.2.2.2.2
  rw [zR_some ha]
  exact W.objInit E.1.1 E.1.2.1 E.1.2.2.2.1 (hts _ lk) (hts _ hi) (hts _ hc) rfl (hsz.trans E.1.2.2.1.symm) rfl d hfr (by show 2 * 0 + _ + 12 ≤ _; omega) kk
/-! allocation -/
theorem zws_push {E : Int × Int} (h : 0 < top) : zws G (top + 1) (lu L top E) (mz M top) = zws G top L M ++ [(G.2.2.1 + top.toNat, zce G (lu L top E) (mz M top) top)] := by
  unfold zws
  rw [show (top + 1).toNat - 1 = (top.toNat - 1) + 1 by omega, List.range_succ, List.map_append]
  congr 1
  · apply List.map_congr_left
    intro k hk
    have hk := List.mem_range.mp hk
    have hne : (k : Int) + 1 ≠ top := by omega
    unfold zce lu mz
    rw [if_neg hne]
    simp only [if_neg hne]
  · simp only [List.map_cons, List.map_nil]
    rw [show top.toNat - 1 + 1 = top.toNat by omega, show ((top.toNat - 1 : Nat) : Int) + 1 = top by omega]
theorem zRel.push {H1 : Heap} {E : Int × Int} (S : zRel G top L M H) (ht : top < 2000000000) (hE : E.1 ≠ 0) (hE2 : 0 ≤ E.2 ∧ E.2 < 2147483648) (hc : va_at G.1 zcl (G.2.2.1 + top.toNat, zce G (lu L top E) (mz M top) top) H1) (hz : H1.size = H.size + 1) (ho : ∀ q : Nat, q < H.size → H1[q]? = H[q]?) : zRel G (top + 1) (lu L top E) (mz M top) H1 := by
  have h0 := S.2.2.1
  refine ⟨?_, by rw [hz, S.2.1]; omega, by omega, fun a i => ?_, fun a ha => ?_, fun a => ?_⟩
  · rw [zws_push h0.1]
    refine va_P.app (S.1.kept fun k q hk => ho _ ((S.1 k q hk).lt)) ?_
    intro k q hk
    have hz : k < 1 := (List.getElem?_eq_some_iff.mp hk).1
    rw [show k = 0 by omega] at hk
    cases hk
    exact hc
  · unfold mz
    by_cases h : a = top
    · rw [if_pos h]; decide
    · rw [if_neg h]; exact S.2.2.2.1 a i
  · unfold lu at ha
    by_cases h : a = top
    · omega
    · rw [if_neg h] at ha
      have := S.2.2.2.2.1 a ha
      omega
  · unfold lu
    by_cases h : a = top
    · rw [if_pos h]; exact hE2
    · rw [if_neg h]; exact S.2.2.2.2.2 a
theorem zS.push {H1 : Heap} {E : Int × Int} (S : zS G top L M s H locs) (ht : top < 2000000000) (hE : E.1 ≠ 0) (hE2 : 0 ≤ E.2 ∧ E.2 < 2147483648) (hc : va_at G.1 zcl (G.2.2.1 + top.toNat, zce G (lu L top E) (mz M top) top) H1) (hz : H1.size = H.size + 1) (ho : ∀ q : Nat, q < H.size → H1[q]? = H[q]?) : zS G (top + 1) (lu L top E) (mz M top) s H1 locs :=
  ⟨S.1.push ht hE hE2 hc hz ho, ⟨Nat.le_trans S.2.1.1 (by omega), fun x h1 h2 => (ho x (Nat.lt_of_lt_of_le h1 S.2.1.1)).trans (S.2.1.2.1 x h1 h2), S.2.1.2.2⟩, S.2.2⟩
theorem r_new (E : zEv p m c cc nL s args own meth ret G) (S : zS G top L M s H locs) {ci idx : Nat} {C : String} {T : u_T} {N : Nat} {ty : Nat → FieldType} (F : zCl ci C T N ty) (hdef : ∀ k, k < N → defaultValue (ty k) = zfv G.2.2.1 ((zks ci).getD k false) 0) (hk : Cond.classLink own idx C ∈ zTB) (hi : Cond.instantiable C N ∈ zTB) (hini : Cond.initialized C ∈ zTB) (ht : top < 2000000000) (hroom : cells + 1 ≤ R.cells ∧ slots + N ≤ R.slots) (d : zD cc pc (.new idx) 3 pc')
    (kk : ∀ H1 : Heap, zS G (top + 1) (lu L top ((ci : Int) + 1, 0)) (mz M top) s H1 locs → W p l e R s m args below meth c H1 locs (cells + 1) (slots + N) Q (F0 m pc' ls (zR G.2.2.1 top :: rest))) : W p l e R s m args below meth c H locs cells slots Q (F0 m pc ls rest) := by
  obtain ⟨d, rfl⟩ := d
  have hts := E.1.2.2.2.2
  obtain ⟨f1, f2, f3, f4, f5, f6⟩ := F
  have hKn := E.2.1.1.1 ci _ f1
  have h0 := S.1.2.2.1
  refine W.newcK E.1.1 E.1.2.1 E.1.2.2.2.1 (hts _ hk) (hts _ hi) (hts _ hini) rfl d hroom.1 hroom.2 hKn.2.1 S.1.2.1 fun H1 kC hkC e1 z1 o1 => ?_
  have hci := zcl_lt f1
  have hlu : (lu L top ((ci : Int) + 1, 0) top) = ((ci : Int) + 1, 0) := by unfold lu; rw [if_pos rfl]
  have := kk H1 (S.push ht (by show (ci : Int) + 1 ≠ 0; omega) ⟨by show (0 : Int) ≤ 0; omega, by show (0 : Int) < _; omega⟩ (by
    rw [zce_obj (ci := ci) (by rw [hlu]) hci]
    refine ⟨_, f1, (u_born ty hts f2 hKn hkC e1 f3).to fun j hj => ?_⟩
    rw [hdef j hj]
    show _ = ((zfs G.2.2.1 (zks ci) (mz M top top))[j]?).getD .null
    rw [zfs_at (by rw [f5]; exact hj)]
    simp [mz]) (by rw [z1, S.1.2.1]) (fun q hq => o1 q (by rw [← S.1.2.1]; exact hq)))
  rw [zR_some h0.1] at this
  exact this
theorem r_newI (E : zEv p m c cc nL s args own meth ret G) (S : zS G top L M s H locs) {n : Int} {k : Nat} (hw : Cond.arrayClass .int ∈ zTB) (hn : 0 ≤ n ∧ n ≤ 100000) (ht : top < 2000000000) (hk : n.toNat = k) (hroom : cells + 1 ≤ R.cells ∧ slots + k ≤ R.slots) (d : zD cc pc (.newarray .int) 2 pc')
    (kk : ∀ H1 : Heap, zS G (top + 1) (lu L top (101, n)) (mz M top) s H1 locs → W p l e R s m args below meth c H1 locs (cells + 1) (slots + k) Q (F0 m pc' ls (zR G.2.2.1 top :: rest))) : W p l e R s m args below meth c H locs cells slots Q (F0 m pc ls (.int (zO n) :: rest)) := by
  obtain ⟨d, rfl⟩ := d
  subst hk
  have hts := E.1.2.2.2.2
  have h0 := S.1.2.2.1
  have hcl : (zO n).toNatClampNeg = n.toNat := (zO_idx (n := 2147483647) hn.1 (by omega) (by omega)).2
  refine va_newaK E.1.1 E.1.2.1 (atype := .int) (hts _ hw) rfl d rfl (fun q => ?_) hcl ?_ hroom.1 hroom.2 S.1.2.1 fun H1 cA e1 z1 o1 hAr hNm => ?_
  · have := (zO_lt (x := n) (y := 0) ⟨by omega, by omega⟩ (by decide)).mp q
    omega
  · show n.toNat * componentBytes .int ≤ 536870912
    have : componentBytes .int ≤ 8 := by decide
    have h3 : n.toNat ≤ 100000 := by omega
    calc n.toNat * componentBytes .int ≤ 100000 * 8 := Nat.mul_le_mul h3 this
      _ ≤ 536870912 := by decide
  · have hcA : cA = G.2.1 0 := by
      have h1 := (E.2.1.1.2 0 _ rfl).2
      exact Option.some.inj (hNm.symm.trans h1)
    subst hcA
    have hlu : (lu L top (101, n) top) = (101, n) := by unfold lu; rw [if_pos rfl]
    have := kk H1 (S.push ht (show (101 : Int) ≠ 0 by decide) ⟨hn.1, by show n < 2147483648; omega⟩ (by
      rw [zce_int (by rw [hlu])]
      show H1[G.2.2.1 + top.toNat]? = some (vp_cell _ _)
      rw [e1, vp_cell_i, hlu]
      congr 2
      funext j
      unfold mz
      rw [if_pos rfl]
      rfl) (by rw [z1, S.1.2.1]) (fun q hq => o1 q (by rw [← S.1.2.1]; exact hq)))
    rw [zR_some h0.1] at this
    exact this
theorem r_newL (E : zEv p m c cc nL s args own meth ret G) (S : zS G top L M s H locs) {n : Int} {k : Nat} (hw : Cond.arrayClass .long ∈ zTB) (hn : 0 ≤ n ∧ n ≤ 100000) (ht : top < 2000000000) (hk : n.toNat = k) (hroom : cells + 1 ≤ R.cells ∧ slots + k ≤ R.slots) (d : zD cc pc (.newarray .long) 2 pc')
    (kk : ∀ H1 : Heap, zS G (top + 1) (lu L top (102, n)) (mz M top) s H1 locs → W p l e R s m args below meth c H1 locs (cells + 1) (slots + k) Q (F0 m pc' ls (zR G.2.2.1 top :: rest))) : W p l e R s m args below meth c H locs cells slots Q (F0 m pc ls (.int (zO n) :: rest)) := by
  obtain ⟨d, rfl⟩ := d
  subst hk
  have hts := E.1.2.2.2.2
  have h0 := S.1.2.2.1
  have hcl : (zO n).toNatClampNeg = n.toNat := (zO_idx (n := 2147483647) hn.1 (by omega) (by omega)).2
  refine va_newaK E.1.1 E.1.2.1 (atype := .long) (hts _ hw) rfl d rfl (fun q => ?_) hcl ?_ hroom.1 hroom.2 S.1.2.1 fun H1 cA e1 z1 o1 hAr hNm => ?_
  · have := (zO_lt (x := n) (y := 0) ⟨by omega, by omega⟩ (by decide)).mp q
    omega
  · show n.toNat * componentBytes .long ≤ 536870912
    have : componentBytes .long ≤ 8 := by decide
    have h3 : n.toNat ≤ 100000 := by omega
    calc n.toNat * componentBytes .long ≤ 100000 * 8 := Nat.mul_le_mul h3 this
      _ ≤ 536870912 := by decide
  · have hcA : cA = G.2.1 1 := by
      have h1 := (E.2.1.1.2 1 _ rfl).2
      exact Option.some.inj (hNm.symm.trans h1)
    subst hcA
    have hlu : (lu L top (102, n) top) = (102, n) := by unfold lu; rw [if_pos rfl]
    have := kk H1 (S.push ht (show (102 : Int) ≠ 0 by decide) ⟨hn.1, by show n < 2147483648; omega⟩ (by
      rw [zce_long (by rw [hlu])]
      show H1[G.2.2.1 + top.toNat]? = some (vp_cell _ _)
      rw [e1, vp_cell_l, hlu]
      congr 2
      funext j
      unfold mz
      rw [if_pos rfl]
      rfl) (by rw [z1, S.1.2.1]) (fun q hq => o1 q (by rw [← S.1.2.1]; exact hq)))
    rw [zR_some h0.1] at this
    exact this
theorem r_anew (E : zEv p m c cc nL s args own meth ret G) (S : zS G top L M s H locs) {n t : Int} {k tk idx : Nat} {C : String} (hC : (C = RX3 ∧ t = 103 ∧ tk = 2) ∨ (C = RX1 ∧ t = 104 ∧ tk = 3)) (hw : Cond.classLink own idx C ∈ zTB) (hn : 0 ≤ n ∧ n ≤ 100000) (ht : top < 2000000000) (hk : n.toNat = k) (hroom : cells + 1 ≤ R.cells ∧ slots + k ≤ R.slots) (d : zD cc pc (.anewarray idx) 3 pc')
    (kk : ∀ H1 : Heap, zS G (top + 1) (lu L top (t, n)) (mz M top) s H1 locs → W p l e R s m args below meth c H1 locs (cells + 1) (slots + k) Q (F0 m pc' ls (zR G.2.2.1 top :: rest))) : W p l e R s m args below meth c H locs cells slots Q (F0 m pc ls (.int (zO n) :: rest)) := by
  obtain ⟨d, rfl⟩ := d
  subst hk
  have hts := E.1.2.2.2.2
  have h0 := S.1.2.2.1
  have hcl : (zO n).toNatClampNeg = n.toNat := (zO_idx (n := 2147483647) hn.1 (by omega) (by omega)).2
  have hover : (Cond.arrayOver (.object C)).before args s = true := by
    rcases hC with ⟨rfl, -, -⟩ | ⟨rfl, -, -⟩
    · exact va_AO.use E.2.1.2.2.1.1
    · exact va_AO.use E.2.1.2.2.1.2
  have hty : (ztys G)[tk]? = some (G.2.1 tk, .object C) := by
    rcases hC with ⟨rfl, -, rfl⟩ | ⟨rfl, -, rfl⟩ <;> rfl
  refine W.anew E.1.1 E.1.2.1 E.1.2.2.2.1 (hts _ hw) hover rfl d rfl (fun q => ?_) (by rw [hcl]; omega) hroom.1 (by rw [hcl]; exact hroom.2) fun cA kA comp f1 f2 f3 f4 => ?_
  · have := (zO_lt (x := n) (y := 0) ⟨by omega, by omega⟩ (by decide)).mp q
    omega
  · generalize hH1 : H.push ({ cls := cA, slots := Array.replicate (zO n).toNatClampNeg .null, vm := .none } : Cell) = H1
    have z1 : H1.size = H.size + 1 := by rw [← hH1, Array.size_push]
    have e1 : H1[H.size]? = some (arrV cA (zO n).toNatClampNeg (fun _ => .null)) := by rw [← hH1, Array.getElem?_push_size, ← arrV_new]
    have o1 : ∀ q : Nat, q < H.size → H1[q]? = H[q]? := fun q hq => by rw [← hH1, Array.getElem?_push, if_neg (Nat.ne_of_lt hq)]
    obtain ⟨kA', comp', -, -, -, h4⟩ := (E.2.1.1.2 tk _ hty).2
    have hcA : cA = G.2.1 tk := Option.some.inj (f1.symm.trans h4)
    subst hcA
    have hlu : (lu L top (t, n) top) = (t, n) := by unfold lu; rw [if_pos rfl]
    rw [hcl] at e1 ⊢
    have := kk H1 (S.push ht (by show t ≠ 0; omega) ⟨hn.1, by show n < 2147483648; omega⟩ (by
      have hx : zce G (lu L top (t, n)) (mz M top) top = .inl (G.2.1 tk, n.toNat, .inr (.inr (.inr (.inr (fun i => zro G.2.2.1 (mz M top top (i : Int))))))) := by
        rcases hC with ⟨-, rfl, rfl⟩ | ⟨-, rfl, rfl⟩
        · rw [zce_gift (by rw [hlu]), hlu]
        · rw [zce_aff (by rw [hlu]), hlu]
      rw [hx]
      show H1[G.2.2.1 + top.toNat]? = some (vp_cell _ _)
      rw [← S.1.2.1, e1, vp_cell_q]
      congr 2
      funext j
      unfold mz
      rw [if_pos rfl]
      rfl) z1 o1)
    rw [zR_some h0.1] at this
    rw [S.1.2.1]
    exact this
/-! switches, longs, Math -/
theorem r_tin (E : zEv p m c cc nL s args own meth ret G) {x k : Int} {dflt lo hi : Int} {offs : Array Int} {len : Nat} {off : Int} {tgt : Nat} (hx : InR x) (hk : x = k) (d : zD cc pc (.tableswitch dflt lo hi offs) len pc') (h1 : lo ≤ k) (h2 : k ≤ hi) (ho : offs[(k - lo).toNat]? = some off) (ht : (pc : Int) + off = (tgt : Int))
    (kk : W p l e R s m args below meth c H locs cells slots Q (F0 m tgt ls rest)) : W p l e R s m args below meth c H locs cells slots Q (F0 m pc ls (.int (zO x) :: rest)) := by
  subst hk
  exact lv_tableIn E.1.1 E.1.2.1 d.1 (by rw [zO_toInt hx]; omega) (by rw [zO_toInt hx]; omega) (by rw [zO_toInt hx]; exact ho) ht kk
theorem r_tout (E : zEv p m c cc nL s args own meth ret G) {x : Int} {dflt lo hi : Int} {offs : Array Int} {len : Nat} {tgt : Nat} (hx : InR x) (h : x < lo ∨ hi < x) (d : zD cc pc (.tableswitch dflt lo hi offs) len pc') (ht : (pc : Int) + dflt = (tgt : Int))
    (kk : W p l e R s m args below meth c H locs cells slots Q (F0 m tgt ls rest)) : W p l e R s m args below meth c H locs cells slots Q (F0 m pc ls (.int (zO x) :: rest)) :=
  lv_tableOut E.1.1 E.1.2.1 d.1 (by rw [zO_toInt hx]; exact h) ht kk
theorem r_look (E : zEv p m c cc nL s args own meth ret G) {x : Int} {dflt : Int} {ps : Array (Int × Int)} {len : Nat} {off : Int} {tgt : Nat} (hx : InR x) (d : zD cc pc (.lookupswitch dflt ps) len pc') (hp : (ps.toList.zip (ps.toList.drop 1)).all (fun (a, next) => a.1 < next.1) = true) (ho : Op.lookupswitch.offset ps.toList dflt x = off) (ht : (pc : Int) + off = (tgt : Int))
    (kk : W p l e R s m args below meth c H locs cells slots Q (F0 m tgt ls rest)) : W p l e R s m args below meth c H locs cells slots Q (F0 m pc ls (.int (zO x) :: rest)) :=
  lv_lookup E.1.1 E.1.2.1 d.1 hp (by rw [zO_toInt hx]; exact ho) ht kk
theorem r_i2l (E : zEv p m c cc nL s args own meth ret G) {x : Int} (hx : InR x) (d : zD cc pc .i2l 1 pc') (k : W p l e R s m args below meth c H locs cells slots Q (F0 m pc' ls (.long (Int64.ofInt x) :: rest))) : W p l e R s m args below meth c H locs cells slots Q (F0 m pc ls (.int (zO x) :: rest)) := by
  obtain ⟨d, rfl⟩ := d
  refine lv_i2l E.1.1 E.1.2.1 d ?_ k
  apply Int64.toInt_inj.mp
  rw [Int32.toInt_toInt64, zO_toInt hx, Int64.toInt_ofInt]
  simp only [Int.bmod, show ((Int64.size : Nat) : Int) = 18446744073709551616 from rfl]
  omega
theorem r_lconst (E : zEv p m c cc nL s args own meth ret G) {n : Fin 2} {x : Int} (d : zD cc pc (.lconst n) 1 pc') (hn : ((n : Nat) : Int) = x) (k : W p l e R s m args below meth c H locs cells slots Q (F0 m pc' ls (.long (Int64.ofInt x) :: rest))) : W p l e R s m args below meth c H locs cells slots Q (F0 m pc ls rest) := by
  obtain ⟨d, rfl⟩ := d
  subst hn
  exact lv_lconst E.1.1 E.1.2.1 d rfl k
theorem r_ldc2 (E : zEv p m c cc nL s args own meth ret G) {i : Nat} {x : Int} {v : Int64} (d : zD cc pc (.ldc2_w i) 3 pc') (hw : Cond.constantLong own i v ∈ zTB) (hn : v = Int64.ofInt x) (k : W p l e R s m args below meth c H locs cells slots Q (F0 m pc' ls (.long (Int64.ofInt x) :: rest))) : W p l e R s m args below meth c H locs cells slots Q (F0 m pc ls rest) := by
  obtain ⟨d, rfl⟩ := d
  subst hn
  exact lv_ldc2 E.1.1 E.1.2.1 E.1.2.2.2.1 (E.1.2.2.2.2 _ hw) d k
theorem r_max (E : zEv p m c cc nL s args own meth ret G) {x y : Int} {idx : Nat} (hx : InR x) (hy : InR y) (hsz : ls.size = nL) (lk : Cond.methodLink own idx Lib.Math.max.name ∈ zTB) (h1 : Cond.static Lib.Math.max.name ∈ zTB) (h2 : Cond.initialized "java/lang/Math" ∈ zTB) (h3 : Cond.code Lib.Math.max.name Lib.Math.max.code 2 (some .int) ∈ zTB) (hfr : 1 ≤ R.frames) (hlo : (rest.map fun v => v.category).sum + 13 ≤ R.locals) (hroom : cells ≤ R.cells ∧ slots ≤ R.slots) (d : zD cc pc (.invokestatic idx) 3 pc')
    (k : W p l e R s m args below meth c H locs cells slots Q (F0 m pc' ls (.int (zO (max x y)) :: rest))) : W p l e R s m args below meth c H locs cells slots Q (F0 m pc ls (.int (zO y) :: .int (zO x) :: rest)) := by
  obtain ⟨d, rfl⟩ := d
  have hts := E.1.2.2.2.2
  refine va_mmax E.1.1 E.1.2.1 (E.1.2.2.1.trans hsz.symm) E.1.2.2.2.1 (hts _ lk) (hts _ h1) (hts _ h2) (hts _ h3) hfr hlo hroom.1 hroom.2 d ?_
  have : (if zO x < zO y then zO y else zO x) = zO (max x y) := by
    by_cases h : x < y
    · rw [if_pos ((zO_lt hx hy).mpr h), Int.max_eq_right (by omega)]
    · rw [if_neg (fun z => h ((zO_lt hx hy).mp z)), Int.max_eq_left (by omega)]
  rw [this]
  exact k
theorem r_min (E : zEv p m c cc nL s args own meth ret G) {x y : Int} {idx : Nat} (hx : InR x) (hy : InR y) (hsz : ls.size = nL) (lk : Cond.methodLink own idx Lib.Math.min.name ∈ zTB) (h1 : Cond.static Lib.Math.min.name ∈ zTB) (h2 : Cond.initialized "java/lang/Math" ∈ zTB) (h3 : Cond.code Lib.Math.min.name Lib.Math.min.code 2 (some .int) ∈ zTB) (hfr : 1 ≤ R.frames) (hlo : (rest.map fun v => v.category).sum + 13 ≤ R.locals) (hroom : cells ≤ R.cells ∧ slots ≤ R.slots) (d : zD cc pc (.invokestatic idx) 3 pc')
    (k : W p l e R s m args below meth c H locs cells slots Q (F0 m pc' ls (.int (zO (min x y)) :: rest))) : W p l e R s m args below meth c H locs cells slots Q (F0 m pc ls (.int (zO y) :: .int (zO x) :: rest)) := by
  obtain ⟨d, rfl⟩ := d
  have hts := E.1.2.2.2.2
  refine va_mmin E.1.1 E.1.2.1 (E.1.2.2.1.trans hsz.symm) E.1.2.2.2.1 (hts _ lk) (hts _ h1) (hts _ h2) (hts _ h3) hfr hlo hroom.1 hroom.2 d ?_
  have : (if zO y < zO x then zO y else zO x) = zO (min x y) := by
    by_cases h : y < x
    · rw [if_pos ((zO_lt hy hx).mpr h), Int.min_eq_right (by omega)]
    · rw [if_neg (fun z => h ((zO_lt hy hx).mp z)), Int.min_eq_left (by omega)]
  rw [this]
  exact k
end ZC
