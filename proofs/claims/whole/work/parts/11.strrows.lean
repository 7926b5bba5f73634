section ZS
variable {p : Program} {l : Launch} {e : Env} {R : Room} {s : State} {m : MethodId} {args : Array Value} {below : List Frame} {meth : Method} {c : Code} {H : Heap} {locs : List Loc} {cells slots : Nat} {Q : State → Prop}
variable {cc : ByteArray} {nL pc pc' : Nat} {ls : Array Slot} {rest : List Value} {own : String} {ret : Option FieldType} {G : zG} {top : Int} {L : zL} {M : zM} {vs : List (Option Value)} {P : Prop}
theorem zldcW {T : State} (X : Stand p l e R s m args below meth c T locs cells slots) (hexec : p.tables.exec = Jvm.exec) {own text : String} {index : Nat} {a : Addr} (hown : s.vm.findClass own = some m.cls)
    (hconst : (Cond.stringRef own index text).before args s = true) (hev : (Term.string own index).eval args s none [] s = some (.ref a)) {g : JFrame} (hg : g.method = m) (hdg : decode c.code g.pc = .ok (.ldc_w index, 3)) :
    ∀ target, Steps p.tables e below (T.setTop { g with pc := g.pc + 3, stack := .ref a :: g.stack }) target → Steps p.tables e below (T.setTop g) target := by
  obtain ⟨k, cf, i, a', hk, hcf, hcp, -, hr, hev'⟩ := Cond.stringRef_spec hown hconst
  cases hev.symm.trans hev'
  obtain ⟨k', hk', he⟩ := X.warmed.alike.2.2 _ _ hk
  have hr' : k'.resolved[index]? = some (some (.string a)) := by
    rcases X.warmed.entry hk hk' index with h | ⟨h, -⟩
    · rw [h]; exact hr
    · rw [hr] at h; cases h
  intro target hrest
  subst hg
  jvm_step X.here [hexec, hdg, ldc_w.wp_string (e := e) (s := T) (f := g) X.here.top hk' (by rw [he]; exact hcf) hcp hr']
  exact hrest
theorem r_ldcwS (E : zEv p m c cc nL s args own meth ret G) {i j : Nat} {tx : String} (d : zD cc pc (.ldc_w i) 3 pc') (hw : zsite[j]? = some (own, i, tx)) (k : W p l e R s m args below meth c H locs cells slots Q (F0 m pc' ls (.ref (G.2.2.2.1 j) :: rest))) : W p l e R s m args below meth c H locs cells slots Q (F0 m pc ls rest) := by
  obtain ⟨d, rfl⟩ := d
  have hZ := E.2.1.2.2.2.2.1 j _ hw
  intro T hT X
  obtain ⟨t, a1, b1⟩ := k T hT X
  exact ⟨t, zldcW X E.1.1 E.1.2.2.2.1 (text := tx) (a := G.2.2.2.1 j) hZ.1 hZ.2 (g := F0 m pc ls rest) rfl (by rw [E.1.2.1]; exact d) t a1, b1⟩
theorem u_St_length (E : zEv p m c cc nL s args own meth ret G) (S : zS G top L M s H locs) {i idx : Nat} {x : Int} (ex : St_length i = some x) (lk : Cond.methodLink own idx yJ0_length_8abf5 ∈ zTB) (hsz : ls.size = nL) (hrm : ((zrm 5 0 0).cells = 0 ∧ (zrm 5 0 0).slots = 0) ∧ (zrm 5 0 0).frames + 1 ≤ R.frames ∧ 8 + (1 + 11) + (zrm 5 0 0).locals ≤ R.locals) (hcat : (rest.map fun v => v.category).sum ≤ 8) (d : zD cc pc (.invokevirtual idx) 3 pc')
    (kk : ∀ (H1 : Heap) (locs1 : List Loc), InR x → zS G top L M s H1 locs1 → W p l e R s m args below meth c H1 locs1 cells slots Q (F0 m pc' ls (.int (zO x) :: rest))) : W p l e R s m args below meth c H locs cells slots Q (F0 m pc ls (.ref (G.2.2.2.1 i) :: rest)) := sorry
theorem u_St_charAt (E : zEv p m c cc nL s args own meth ret G) (S : zS G top L M s H locs) {i idx : Nat} {k x : Int} (ex : St_charAt i k = some x) (hk : InR k) (lk : Cond.methodLink own idx yJ0_charAt_5068e ∈ zTB) (hsz : ls.size = nL) (hrm : ((zrm 5 0 0).cells = 0 ∧ (zrm 5 0 0).slots = 0) ∧ (zrm 5 0 0).frames + 1 ≤ R.frames ∧ 8 + (2 + 11) + (zrm 5 0 0).locals ≤ R.locals) (hcat : (rest.map fun v => v.category).sum ≤ 8) (d : zD cc pc (.invokevirtual idx) 3 pc')
    (kk : ∀ (H1 : Heap) (locs1 : List Loc), InR x → zS G top L M s H1 locs1 → W p l e R s m args below meth c H1 locs1 cells slots Q (F0 m pc' ls (.int (zO x) :: rest))) : W p l e R s m args below meth c H locs cells slots Q (F0 m pc ls (.int (zO k) :: .ref (G.2.2.2.1 i) :: rest)) := sorry
theorem u_cI (E : zEv p m c cc nL s args own meth ret G) (S : zS G top L M s H locs) {y : MethodName} {bytes : ByteArray} {maxL n idx : Nat} {rm : Room} {mc ms : Nat} {As : List Value} {a : Int} {stk : List Value} {top' : Int} {L' : zL} {M' : zM}
    (cf : zCw y bytes maxL none n) (hi : Cond.instanceMethod y ∈ zTB) (hy1 : y.name = "<init>") (lk : Cond.methodLink own idx y ∈ zTB) (ha : 0 < a)
    (hM : Met l y (Cond.code y bytes maxL none :: zTB) rm (va_Pc (zR G.2.2.1 a :: As) (zPre G top L M)) (zQ G top' L' M' none P) mc ms (zA G))
    (hrm : (rm.cells = mc ∧ rm.slots = ms) ∧ rm.frames + 1 ≤ R.frames ∧ 8 + (maxL + 11) + rm.locals ≤ R.locals) (hroom : cells + mc ≤ R.cells ∧ slots + ms ≤ R.slots) (hn : As.length = n) (hcat : (rest.map fun v => v.category).sum ≤ 8) (hsz : ls.size = nL) (hst : stk = As.reverse ++ zR G.2.2.1 a :: rest) (d : zD cc pc (.invokespecial idx) 3 pc')
    (kk : ∀ (H1 : Heap) (locs1 : List Loc), P → zS G top' L' M' s H1 locs1 → W p l e R s m args below meth c H1 locs1 (cells + mc) (slots + ms) Q (F0 m pc' ls rest)) : W p l e R s m args below meth c H locs cells slots Q (F0 m pc ls stk) := r_callI E S cf hi hy1 lk ha hM hrm hroom hn hcat hsz hst d kk
theorem u_cN (E : zEv p m c cc nL s args own meth ret G) (S : zS G top L M s H locs) {y : MethodName} {host : String} {bytes : ByteArray} {maxL n idx : Nat} {rm : Room} {mc ms : Nat} {As : List Value} {a : Int} {stk : List Value} {top' : Int} {L' : zL} {M' : zM}
    (cf : zCw y bytes maxL none n) (hi : Cond.instanceMethod y ∈ zTB) (hy1 : y.name = "<init>") (lk : Cond.methodLinkNest own idx y host ∈ zNW) (ha : 0 < a)
    (hM : Met l y (Cond.code y bytes maxL none :: zTB) rm (va_Pc (zR G.2.2.1 a :: As) (zPre G top L M)) (zQ G top' L' M' none P) mc ms (zA G))
    (hrm : (rm.cells = mc ∧ rm.slots = ms) ∧ rm.frames + 1 ≤ R.frames ∧ 8 + (maxL + 11) + rm.locals ≤ R.locals) (hroom : cells + mc ≤ R.cells ∧ slots + ms ≤ R.slots) (hn : As.length = n) (hcat : (rest.map fun v => v.category).sum ≤ 8) (hsz : ls.size = nL) (hst : stk = As.reverse ++ zR G.2.2.1 a :: rest) (d : zD cc pc (.invokespecial idx) 3 pc')
    (kk : ∀ (H1 : Heap) (locs1 : List Loc), P → zS G top' L' M' s H1 locs1 → W p l e R s m args below meth c H1 locs1 (cells + mc) (slots + ms) Q (F0 m pc' ls rest)) : W p l e R s m args below meth c H locs cells slots Q (F0 m pc ls stk) := r_callIN E S cf hi hy1 lk ha hM hrm hroom hn hcat hsz hst d kk
theorem u_cSA (E : zEv p m c cc nL s args own meth ret G) (S : zS G top L M s H locs) {y : MethodName} {bytes : ByteArray} {maxL n idx : Nat} {ret' : Option FieldType} {rm : Room} {mc ms : Nat} {As : List Value} {x : Int} {stk : List Value} {top' : Int} {L' : zL} {M' : zM}
    (cf : zCw y bytes maxL ret' n) (hi : Cond.static y ∈ zTB) (lk : Cond.methodLink own idx y ∈ zTB)
    (hM : Met l y (Cond.code y bytes maxL ret' :: zTB) rm (va_Pc As (zPre G top L M)) (zQ G top' L' M' (some (zR G.2.2.1 x)) P) mc ms (zA G))
    (hrm : (rm.cells = mc ∧ rm.slots = ms) ∧ rm.frames + 1 ≤ R.frames ∧ 8 + (maxL + 11) + rm.locals ≤ R.locals) (hroom : cells + mc ≤ R.cells ∧ slots + ms ≤ R.slots) (hn : As.length = n) (hcat : (rest.map fun v => v.category).sum ≤ 8) (hsz : ls.size = nL) (hst : stk = As.reverse ++ rest) (d : zD cc pc (.invokestatic idx) 3 pc')
    (kk : ∀ (H1 : Heap) (locs1 : List Loc), P → zS G top' L' M' s H1 locs1 → W p l e R s m args below meth c H1 locs1 (cells + mc) (slots + ms) Q (F0 m pc' ls (zR G.2.2.1 x :: rest))) : W p l e R s m args below meth c H locs cells slots Q (F0 m pc ls stk) := r_callS E S cf hi lk hM hrm hroom hn hcat hsz hst d kk
end ZS
theorem Mo_in_c (l : Launch) (G : zG) (fu : Nat) (top : Int) (L : zL) (M : zM) (a0 a1 a2 : Int) {res : Int} (ha0 : InR a0) (ha1 : InR a1) (ha2 : InR a2) (h : Mo_in fu L M a0 a1 a2 = some res) : Met l yX12_in (Cond.code yX12_in cX12_in 6 (some .boolean) :: zTB) (zrm 1 0 0) (va_Pc [.long (Int64.ofInt a0), .long (Int64.ofInt a1), .long (Int64.ofInt a2)] (zPre G top L M)) (zQ G top L M (some (.int (zO res))) (0 ≤ res ∧ res ≤ 1)) 0 0 (zA G) := sorry
theorem Ar_copyOf_c (l : Launch) (G : zG) (fu : Nat) (top : Int) (L : zL) (M : zM) (a n : Int) {res : Int × zL × zM × Int} (ha : InR a) (hn : InR n) (h : Ar_copyOf fu top L M a n = some res) : Met l yJ7_copyOf_59c91 (Cond.code yJ7_copyOf_59c91 cJ7_copyOf_59c91 3 (some (.array .int)) :: zTB) (zrm 2 1 600) (va_Pc [zR G.2.2.1 a, .int (zO n)] (zPre G top L M)) (zQ G res.1 res.2.1 res.2.2.1 (some (zR G.2.2.1 res.2.2.2)) (InR res.2.2.2)) 1 600 (zA G) := sorry
