section ZW
variable {p : Program} {l : Launch} {e : Env} {R : Room} {s : State} {m : MethodId} {args : Array Value} {below : List Frame} {meth : Method} {c : Code} {H : Heap} {locs : List Loc} {cells slots : Nat} {Q : State → Prop}
variable {cc : ByteArray} {nL pc pc' : Nat} {ls : Array Slot} {rest : List Value} {own : String} {ret : Option FieldType} {G : zG} {top : Int} {L : zL} {M : zM} {vs : List (Option Value)} {P : Prop}
theorem u_cVI (E : zEv p m c cc nL s args own meth ret G) (S : zS G top L M s H locs) {x : Int} {y : MethodName} {bytes : ByteArray} {maxL n idx ci : Nat} {ret' : Option FieldType} {T : u_T} {N : Nat} {rm : Room} {As : List Value} {a tg : Int} {stk : List Value} {M' : zM} (cf : zCw y bytes maxL ret' n) (hi : Cond.instanceMethod y ∈ zTB) (hs : Cond.selects y.cls y y ∈ zTB) (lk : Cond.methodLink own idx y ∈ zTB) (F : zcl[ci]? = some (y.cls, T, N)) (hci : (ci : Int) + 1 = tg) (htag : (L a).1 = tg) (hM : Met l y (Cond.code y bytes maxL ret' :: zTB) rm (va_Pc (zR G.2.2.1 a :: As) (zPre G top L M)) (zQ G top L M' (some (.int (zO x))) P) 0 0 (zA G)) (hrm : (rm.cells = 0 ∧ rm.slots = 0) ∧ rm.frames + 1 ≤ R.frames ∧ 8 + (maxL + 11) + rm.locals ≤ R.locals) (hroom : cells + 0 ≤ R.cells ∧ slots + 0 ≤ R.slots) (hn : As.length = n) (hcat : (rest.map fun v => v.category).sum ≤ 8) (hsz : ls.size = nL) (hst : stk = As.reverse ++ zR G.2.2.1 a :: rest) (d : zD cc pc (.invokevirtual idx) 3 pc')
    (kk : ∀ (H1 : Heap) (locs1 : List Loc), P → zS G top L M' s H1 locs1 → W p l e R s m args below meth c H1 locs1 cells slots Q (F0 m pc' ls (.int (zO x) :: rest))) : W p l e R s m args below meth c H locs cells slots Q (F0 m pc ls stk) :=
  r_callV E S cf hi hs lk F (htag.trans hci.symm) hM hrm hroom hn hcat hsz hst d kk
theorem u_cVR (E : zEv p m c cc nL s args own meth ret G) (S : zS G top L M s H locs) {x : Int} {y : MethodName} {bytes : ByteArray} {maxL n idx ci : Nat} {ret' : Option FieldType} {T : u_T} {N : Nat} {rm : Room} {As : List Value} {a tg : Int} {stk : List Value} {M' : zM} (cf : zCw y bytes maxL ret' n) (hi : Cond.instanceMethod y ∈ zTB) (hs : Cond.selects y.cls y y ∈ zTB) (lk : Cond.methodLink own idx y ∈ zTB) (F : zcl[ci]? = some (y.cls, T, N)) (hci : (ci : Int) + 1 = tg) (htag : (L a).1 = tg) (hM : Met l y (Cond.code y bytes maxL ret' :: zTB) rm (va_Pc (zR G.2.2.1 a :: As) (zPre G top L M)) (zQ G top L M' (some (zR G.2.2.1 x)) P) 0 0 (zA G)) (hrm : (rm.cells = 0 ∧ rm.slots = 0) ∧ rm.frames + 1 ≤ R.frames ∧ 8 + (maxL + 11) + rm.locals ≤ R.locals) (hroom : cells + 0 ≤ R.cells ∧ slots + 0 ≤ R.slots) (hn : As.length = n) (hcat : (rest.map fun v => v.category).sum ≤ 8) (hsz : ls.size = nL) (hst : stk = As.reverse ++ zR G.2.2.1 a :: rest) (d : zD cc pc (.invokevirtual idx) 3 pc')
    (kk : ∀ (H1 : Heap) (locs1 : List Loc), P → zS G top L M' s H1 locs1 → W p l e R s m args below meth c H1 locs1 cells slots Q (F0 m pc' ls (zR G.2.2.1 x :: rest))) : W p l e R s m args below meth c H locs cells slots Q (F0 m pc ls stk) :=
  r_callV E S cf hi hs lk F (htag.trans hci.symm) hM hrm hroom hn hcat hsz hst d kk
theorem u_cVU (E : zEv p m c cc nL s args own meth ret G) (S : zS G top L M s H locs) {y : MethodName} {bytes : ByteArray} {maxL n idx ci : Nat} {ret' : Option FieldType} {T : u_T} {N : Nat} {rm : Room} {As : List Value} {a tg : Int} {stk : List Value} {M' : zM} (cf : zCw y bytes maxL ret' n) (hi : Cond.instanceMethod y ∈ zTB) (hs : Cond.selects y.cls y y ∈ zTB) (lk : Cond.methodLink own idx y ∈ zTB) (F : zcl[ci]? = some (y.cls, T, N)) (hci : (ci : Int) + 1 = tg) (htag : (L a).1 = tg) (hM : Met l y (Cond.code y bytes maxL ret' :: zTB) rm (va_Pc (zR G.2.2.1 a :: As) (zPre G top L M)) (zQ G top L M' none P) 0 0 (zA G)) (hrm : (rm.cells = 0 ∧ rm.slots = 0) ∧ rm.frames + 1 ≤ R.frames ∧ 8 + (maxL + 11) + rm.locals ≤ R.locals) (hroom : cells + 0 ≤ R.cells ∧ slots + 0 ≤ R.slots) (hn : As.length = n) (hcat : (rest.map fun v => v.category).sum ≤ 8) (hsz : ls.size = nL) (hst : stk = As.reverse ++ zR G.2.2.1 a :: rest) (d : zD cc pc (.invokevirtual idx) 3 pc')
    (kk : ∀ (H1 : Heap) (locs1 : List Loc), P → zS G top L M' s H1 locs1 → W p l e R s m args below meth c H1 locs1 cells slots Q (F0 m pc' ls (rest))) : W p l e R s m args below meth c H locs cells slots Q (F0 m pc ls stk) :=
  r_callV E S cf hi hs lk F (htag.trans hci.symm) hM hrm hroom hn hcat hsz hst d kk
theorem u_cSI (E : zEv p m c cc nL s args own meth ret G) (S : zS G top L M s H locs) {x : Int} {y : MethodName} {bytes : ByteArray} {maxL n idx : Nat} {ret' : Option FieldType} {rm : Room} {As : List Value} {stk : List Value} {M' : zM} (cf : zCw y bytes maxL ret' n) (hi : Cond.static y ∈ zTB) (lk : Cond.methodLink own idx y ∈ zTB) (hM : Met l y (Cond.code y bytes maxL ret' :: zTB) rm (va_Pc (As) (zPre G top L M)) (zQ G top L M' (some (.int (zO x))) P) 0 0 (zA G)) (hrm : (rm.cells = 0 ∧ rm.slots = 0) ∧ rm.frames + 1 ≤ R.frames ∧ 8 + (maxL + 11) + rm.locals ≤ R.locals) (hroom : cells + 0 ≤ R.cells ∧ slots + 0 ≤ R.slots) (hn : As.length = n) (hcat : (rest.map fun v => v.category).sum ≤ 8) (hsz : ls.size = nL) (hst : stk = As.reverse ++ rest) (d : zD cc pc (.invokestatic idx) 3 pc')
    (kk : ∀ (H1 : Heap) (locs1 : List Loc), P → zS G top L M' s H1 locs1 → W p l e R s m args below meth c H1 locs1 cells slots Q (F0 m pc' ls (.int (zO x) :: rest))) : W p l e R s m args below meth c H locs cells slots Q (F0 m pc ls stk) :=
  r_callS E S cf hi lk hM hrm hroom hn hcat hsz hst d kk
theorem u_cSR (E : zEv p m c cc nL s args own meth ret G) (S : zS G top L M s H locs) {x : Int} {y : MethodName} {bytes : ByteArray} {maxL n idx : Nat} {ret' : Option FieldType} {rm : Room} {As : List Value} {stk : List Value} {M' : zM} (cf : zCw y bytes maxL ret' n) (hi : Cond.static y ∈ zTB) (lk : Cond.methodLink own idx y ∈ zTB) (hM : Met l y (Cond.code y bytes maxL ret' :: zTB) rm (va_Pc (As) (zPre G top L M)) (zQ G top L M' (some (zR G.2.2.1 x)) P) 0 0 (zA G)) (hrm : (rm.cells = 0 ∧ rm.slots = 0) ∧ rm.frames + 1 ≤ R.frames ∧ 8 + (maxL + 11) + rm.locals ≤ R.locals) (hroom : cells + 0 ≤ R.cells ∧ slots + 0 ≤ R.slots) (hn : As.length = n) (hcat : (rest.map fun v => v.category).sum ≤ 8) (hsz : ls.size = nL) (hst : stk = As.reverse ++ rest) (d : zD cc pc (.invokestatic idx) 3 pc')
    (kk : ∀ (H1 : Heap) (locs1 : List Loc), P → zS G top L M' s H1 locs1 → W p l e R s m args below meth c H1 locs1 cells slots Q (F0 m pc' ls (zR G.2.2.1 x :: rest))) : W p l e R s m args below meth c H locs cells slots Q (F0 m pc ls stk) :=
  r_callS E S cf hi lk hM hrm hroom hn hcat hsz hst d kk
theorem u_cSU (E : zEv p m c cc nL s args own meth ret G) (S : zS G top L M s H locs) {y : MethodName} {bytes : ByteArray} {maxL n idx : Nat} {ret' : Option FieldType} {rm : Room} {As : List Value} {stk : List Value} {M' : zM} (cf : zCw y bytes maxL ret' n) (hi : Cond.static y ∈ zTB) (lk : Cond.methodLink own idx y ∈ zTB) (hM : Met l y (Cond.code y bytes maxL ret' :: zTB) rm (va_Pc (As) (zPre G top L M)) (zQ G top L M' none P) 0 0 (zA G)) (hrm : (rm.cells = 0 ∧ rm.slots = 0) ∧ rm.frames + 1 ≤ R.frames ∧ 8 + (maxL + 11) + rm.locals ≤ R.locals) (hroom : cells + 0 ≤ R.cells ∧ slots + 0 ≤ R.slots) (hn : As.length = n) (hcat : (rest.map fun v => v.category).sum ≤ 8) (hsz : ls.size = nL) (hst : stk = As.reverse ++ rest) (d : zD cc pc (.invokestatic idx) 3 pc')
    (kk : ∀ (H1 : Heap) (locs1 : List Loc), P → zS G top L M' s H1 locs1 → W p l e R s m args below meth c H1 locs1 cells slots Q (F0 m pc' ls (rest))) : W p l e R s m args below meth c H locs cells slots Q (F0 m pc ls stk) :=
  r_callS E S cf hi lk hM hrm hroom hn hcat hsz hst d kk
theorem zcat_I (x : Int) : (Value.int (zO x)).category = 1 := rfl
theorem zcat_J (x : Int) : (Value.long (Int64.ofInt x)).category = 2 := rfl
theorem zcat_S (a : Nat) : (Value.ref a).category = 1 := rfl
theorem inR_eq {x y : Int} (e : x = y) (h : InR y) : InR x := by subst e; exact h
theorem z01_eq {x y : Int} (e : x = y) (h : 0 ≤ y ∧ y ≤ 1) : 0 ≤ x ∧ x ≤ 1 := by subst e; exact h
theorem u_new (E : zEv p m c cc nL s args own meth ret G) (S : zS G top L M s H locs) {ci idx : Nat} {C : String} {T : u_T} {N : Nat} {ty : Nat → FieldType} {top1 tg : Int} {L1 : zL} {M1 : zM} (eT : top1 = top + 1) (eL : L1 = lu L top (tg, 0)) (eM : M1 = mz M top) (F : zCl ci C T N ty) (hci : (ci : Int) + 1 = tg) (hdef : ∀ k, k < N → defaultValue (ty k) = zfv G.2.2.1 ((zks ci).getD k false) 0) (hk : Cond.classLink own idx C ∈ zTB) (hi : Cond.instantiable C N ∈ zTB) (hini : Cond.initialized C ∈ zTB) (ht : top < 2000000000) (hroom : cells + 1 ≤ R.cells ∧ slots + N ≤ R.slots) (d : zD cc pc (.new idx) 3 pc')
    (kk : ∀ H1 : Heap, zS G top1 L1 M1 s H1 locs → (L1 top).1 = tg → W p l e R s m args below meth c H1 locs (cells + 1) (slots + N) Q (F0 m pc' ls (zR G.2.2.1 top :: rest))) : W p l e R s m args below meth c H locs cells slots Q (F0 m pc ls rest) := by
  subst eT; subst eL; subst eM; subst hci
  exact r_new E S F hdef hk hi hini ht hroom d fun H1 S1 => kk H1 S1 (by unfold lu; rw [if_pos rfl])
theorem u_newI (E : zEv p m c cc nL s args own meth ret G) (S : zS G top L M s H locs) {n : Int} {k : Nat} {top1 : Int} {L1 : zL} {M1 : zM} (eT : top1 = top + 1) (eL : L1 = lu L top (101, n)) (eM : M1 = mz M top) (hw : Cond.arrayClass .int ∈ zTB) (hn : 0 ≤ n ∧ n ≤ 100000) (ht : top < 2000000000) (hk : n.toNat = k) (hroom : cells + 1 ≤ R.cells ∧ slots + k ≤ R.slots) (d : zD cc pc (.newarray .int) 2 pc')
    (kk : ∀ H1 : Heap, zS G top1 L1 M1 s H1 locs → (L1 top).1 = 101 → W p l e R s m args below meth c H1 locs (cells + 1) (slots + k) Q (F0 m pc' ls (zR G.2.2.1 top :: rest))) : W p l e R s m args below meth c H locs cells slots Q (F0 m pc ls (.int (zO n) :: rest)) := by
  subst eT; subst eL; subst eM
  exact r_newI E S hw hn ht hk hroom d fun H1 S1 => kk H1 S1 (by unfold lu; rw [if_pos rfl])
theorem u_newL (E : zEv p m c cc nL s args own meth ret G) (S : zS G top L M s H locs) {n : Int} {k : Nat} {top1 : Int} {L1 : zL} {M1 : zM} (eT : top1 = top + 1) (eL : L1 = lu L top (102, n)) (eM : M1 = mz M top) (hw : Cond.arrayClass .long ∈ zTB) (hn : 0 ≤ n ∧ n ≤ 100000) (ht : top < 2000000000) (hk : n.toNat = k) (hroom : cells + 1 ≤ R.cells ∧ slots + k ≤ R.slots) (d : zD cc pc (.newarray .long) 2 pc')
    (kk : ∀ H1 : Heap, zS G top1 L1 M1 s H1 locs → (L1 top).1 = 102 → W p l e R s m args below meth c H1 locs (cells + 1) (slots + k) Q (F0 m pc' ls (zR G.2.2.1 top :: rest))) : W p l e R s m args below meth c H locs cells slots Q (F0 m pc ls (.int (zO n) :: rest)) := by
  subst eT; subst eL; subst eM
  exact r_newL E S hw hn ht hk hroom d fun H1 S1 => kk H1 S1 (by unfold lu; rw [if_pos rfl])
theorem u_anew (E : zEv p m c cc nL s args own meth ret G) (S : zS G top L M s H locs) {n t : Int} {k tk idx : Nat} {C : String} {top1 : Int} {L1 : zL} {M1 : zM} (eT : top1 = top + 1) (eL : L1 = lu L top (t, n)) (eM : M1 = mz M top) (hC : (C = RX3 ∧ t = 103 ∧ tk = 2) ∨ (C = RX1 ∧ t = 104 ∧ tk = 3)) (hw : Cond.classLink own idx C ∈ zTB) (hn : 0 ≤ n ∧ n ≤ 100000) (ht : top < 2000000000) (hk : n.toNat = k) (hroom : cells + 1 ≤ R.cells ∧ slots + k ≤ R.slots) (d : zD cc pc (.anewarray idx) 3 pc')
    (kk : ∀ H1 : Heap, zS G top1 L1 M1 s H1 locs → (L1 top).1 = t → W p l e R s m args below meth c H1 locs (cells + 1) (slots + k) Q (F0 m pc' ls (zR G.2.2.1 top :: rest))) : W p l e R s m args below meth c H locs cells slots Q (F0 m pc ls (.int (zO n) :: rest)) := by
  subst eT; subst eL; subst eM
  exact r_anew E S hC hw hn ht hk hroom d fun H1 S1 => kk H1 S1 (by unfold lu; rw [if_pos rfl])
end ZW
theorem zcw_yX11_init : zCw yX11_init cX11_init 2 none 0 := ⟨zw_1_30, zw_1_1, by decide, by decide, by decide +kernel⟩
theorem zcw_yX7_init : zCw yX7_init cX7_init 1 none 0 := ⟨zw_1_38, zw_1_2, by decide, by decide, by decide +kernel⟩
theorem zcw_yX2_init : zCw yX2_init cX2_init 2 none 1 := ⟨zw_1_79, zw_1_3, by decide, by decide, by decide +kernel⟩
theorem zcw_yX4_init : zCw yX4_init cX4_init 2 none 1 := ⟨zw_1_101, zw_1_4, by decide, by decide, by decide +kernel⟩
theorem zcw_yX6_init : zCw yX6_init cX6_init 2 none 1 := ⟨zw_1_159, zw_1_5, by decide, by decide, by decide +kernel⟩
theorem zcw_yX1_init : zCw yX1_init cX1_init 1 none 0 := ⟨zw_1_182, zw_1_6, by decide, by decide, by decide +kernel⟩
theorem zcw_yX10_init : zCw yX10_init cX10_init 1 none 0 := ⟨zw_1_188, zw_1_7, by decide, by decide, by decide +kernel⟩
theorem zcw_yX0_init : zCw yX0_init cX0_init 2 none 0 := ⟨zw_2_8, zw_1_8, by decide, by decide, by decide +kernel⟩
theorem zcw_yX5_init : zCw yX5_init cX5_init 1 none 0 := ⟨zw_2_30, zw_1_9, by decide, by decide, by decide +kernel⟩
theorem zcw_yX9_init : zCw yX9_init cX9_init 2 none 1 := ⟨zw_2_58, zw_1_10, by decide, by decide, by decide +kernel⟩
theorem zcw_yX8_init : zCw yX8_init cX8_init 2 none 1 := ⟨zw_2_91, zw_1_11, by decide, by decide, by decide +kernel⟩
theorem zcw_yX11_feed : zCw yX11_feed cX11_feed 7 (some .int) 5 := ⟨zw_2_181, zw_1_1, by decide, by decide, by decide +kernel⟩
theorem zcw_yX7_solidBytes : zCw yX7_solidBytes cX7_solidBytes 3 (some .int) 1 := ⟨zw_2_184, zw_1_2, by decide, by decide, by decide +kernel⟩
theorem zcw_yX7_put : zCw yX7_put cX7_put 4 none 1 := ⟨zw_2_188, zw_1_2, by decide, by decide, by decide +kernel⟩
theorem zcw_yX11_end : zCw yX11_end cX11_end 2 (some .boolean) 1 := ⟨zw_2_192, zw_1_1, by decide, by decide, by decide +kernel⟩
theorem zcw_yX11_fault : zCw yX11_fault cX11_fault 2 (some .int) 1 := ⟨zw_2_196, zw_1_1, by decide, by decide, by decide +kernel⟩
theorem zcw_yX2_read : zCw yX2_read cX2_read 2 (some .int) 0 := ⟨zw_2_200, zw_1_3, by decide, by decide, by decide +kernel⟩
theorem zcw_yX7_restart : zCw yX7_restart cX7_restart 1 none 0 := ⟨zw_2_204, zw_1_2, by decide, by decide, by decide +kernel⟩
theorem zcw_yX7_advance : zCw yX7_advance cX7_advance 2 none 0 := ⟨zw_2_208, zw_1_2, by decide, by decide, by decide +kernel⟩
theorem zcw_yX7_pastBlanks : zCw yX7_pastBlanks cX7_pastBlanks 3 (some .int) 1 := ⟨zw_2_212, zw_1_2, by decide, by decide, by decide +kernel⟩
theorem zcw_yX7_at : zCw yX7_at cX7_at 2 (some .int) 1 := ⟨zw_2_216, zw_1_2, by decide, by decide, by decide +kernel⟩
theorem zcw_yX7_isLetter : zCw yX7_isLetter cX7_isLetter 1 (some .boolean) 1 := ⟨zw_2_219, zw_1_2, by decide, by decide, by decide +kernel⟩
theorem zcw_yX7_pastLetters : zCw yX7_pastLetters cX7_pastLetters 3 (some .int) 1 := ⟨zw_2_223, zw_1_2, by decide, by decide, by decide +kernel⟩
theorem zcw_yX7_isDigit : zCw yX7_isDigit cX7_isDigit 1 (some .boolean) 1 := ⟨zw_2_226, zw_1_2, by decide, by decide, by decide +kernel⟩
theorem zcw_yX7_pastDigits : zCw yX7_pastDigits cX7_pastDigits 3 (some .int) 1 := ⟨zw_2_230, zw_1_2, by decide, by decide, by decide +kernel⟩
theorem zcw_yX7_valueOf : zCw yX7_valueOf cX7_valueOf 5 (some .int) 2 := ⟨zw_2_234, zw_1_2, by decide, by decide, by decide +kernel⟩
theorem zcw_yX2_readPiece : zCw yX2_readPiece cX2_readPiece 4 (some .boolean) 0 := ⟨zw_2_238, zw_1_3, by decide, by decide, by decide +kernel⟩
theorem zcw_yX7_letter : zCw yX7_letter cX7_letter 1 (some .int) 0 := ⟨zw_3_2, zw_1_2, by decide, by decide, by decide +kernel⟩
theorem zcw_yX2_indexOf : zCw yX2_indexOf cX2_indexOf 3 (some .int) 1 := ⟨zw_3_6, zw_1_3, by decide, by decide, by decide +kernel⟩
theorem zcw_yX7_isNumber : zCw yX7_isNumber cX7_isNumber 3 (some .boolean) 2 := ⟨zw_3_11, zw_1_2, by decide, by decide, by decide +kernel⟩
theorem zcw_yX7_isWord : zCw yX7_isWord cX7_isWord 3 (some .boolean) 1 := ⟨zw_3_16, zw_1_2, by decide, by decide, by decide +kernel⟩
theorem zcw_yJ0_length_8abf5 : zCw yJ0_length_8abf5 cJ0_length_8abf5 1 (some .int) 0 := ⟨zw_3_20, zw_1_13, by decide, by decide, by decide +kernel⟩
theorem zcw_yJ0_coder_7d493 : zCw yJ0_coder_7d493 cJ0_coder_7d493 1 (some .byte) 0 := ⟨zw_3_24, zw_1_13, by decide, by decide, by decide +kernel⟩
theorem zcw_yJ0_charAt_5068e : zCw yJ0_charAt_5068e cJ0_charAt_5068e 2 (some .char) 1 := ⟨zw_3_30, zw_1_13, by decide, by decide, by decide +kernel⟩
theorem zcw_yJ0_isLatin1_aae02 : zCw yJ0_isLatin1_aae02 cJ0_isLatin1_aae02 1 (some .boolean) 0 := ⟨zw_3_34, zw_1_13, by decide, by decide, by decide +kernel⟩
theorem zcw_yJ1_charAt_3b067 : zCw yJ1_charAt_3b067 cJ1_charAt_3b067 2 (some .char) 2 := ⟨zw_3_37, zw_1_14, by decide, by decide, by decide +kernel⟩
theorem zcw_yJ0_checkIndex_df160 : zCw yJ0_checkIndex_df160 cJ0_checkIndex_df160 2 none 2 := ⟨zw_3_40, zw_1_13, by decide, by decide, by decide +kernel⟩
theorem zcw_yJ3_checkIndex_8e157 : zCw yJ3_checkIndex_8e157 cJ3_checkIndex_8e157 3 (some .int) 3 := ⟨zw_3_45, zw_1_15, by decide, by decide, by decide +kernel⟩
theorem zcw_yJ2_charAt_3b067 : zCw yJ2_charAt_3b067 cJ2_charAt_3b067 2 (some .char) 2 := ⟨zw_3_48, zw_1_16, by decide, by decide, by decide +kernel⟩
theorem zcw_yJ2_checkIndex_2214a : zCw yJ2_checkIndex_2214a cJ2_checkIndex_2214a 2 none 2 := ⟨zw_3_51, zw_1_16, by decide, by decide, by decide +kernel⟩
theorem zcw_yJ2_length_9d52b : zCw yJ2_length_9d52b cJ2_length_9d52b 1 (some .int) 1 := ⟨zw_3_54, zw_1_16, by decide, by decide, by decide +kernel⟩
theorem zcw_yJ2_getChar_3b067 : zCw yJ2_getChar_3b067 cJ2_getChar_3b067 2 (some .char) 2 := ⟨zw_3_58, zw_1_16, by decide, by decide, by decide +kernel⟩
theorem zcw_yX2_isParent : zCw yX2_isParent cX2_isParent 3 (some .boolean) 2 := ⟨zw_3_68, zw_1_3, by decide, by decide, by decide +kernel⟩
theorem zcw_yX2_note : zCw yX2_note cX2_note 4 none 3 := ⟨zw_3_72, zw_1_3, by decide, by decide, by decide +kernel⟩
theorem zcw_yX7_isOver : zCw yX7_isOver cX7_isOver 1 (some .boolean) 0 := ⟨zw_3_76, zw_1_2, by decide, by decide, by decide +kernel⟩
theorem zcw_yX7_isSign : zCw yX7_isSign cX7_isSign 2 (some .boolean) 1 := ⟨zw_3_80, zw_1_2, by decide, by decide, by decide +kernel⟩
theorem zcw_yX4_read : zCw yX4_read cX4_read 2 (some .int) 0 := ⟨zw_3_84, zw_1_4, by decide, by decide, by decide +kernel⟩
theorem zcw_yX4_readWord : zCw yX4_readWord cX4_readWord 2 (some .boolean) 1 := ⟨zw_3_90, zw_1_4, by decide, by decide, by decide +kernel⟩
theorem zcw_yX4_take : zCw yX4_take cX4_take 2 none 0 := ⟨zw_3_95, zw_1_4, by decide, by decide, by decide +kernel⟩
theorem zcw_yX4_write : zCw yX4_write cX4_write 2 none 1 := ⟨zw_3_99, zw_1_4, by decide, by decide, by decide +kernel⟩
theorem zcw_yX4_writeNumber : zCw yX4_writeNumber cX4_writeNumber 2 none 1 := ⟨zw_3_103, zw_1_4, by decide, by decide, by decide +kernel⟩
theorem zcw_yX4_readWhom : zCw yX4_readWhom cX4_readWhom 1 (some .boolean) 0 := ⟨zw_3_109, zw_1_4, by decide, by decide, by decide +kernel⟩
theorem zcw_yX7_lifeNamed : zCw yX7_lifeNamed cX7_lifeNamed 3 (some .int) 0 := ⟨zw_3_115, zw_1_2, by decide, by decide, by decide +kernel⟩
theorem zcw_yX4_readLife : zCw yX4_readLife cX4_readLife 1 (some .boolean) 0 := ⟨zw_3_120, zw_1_4, by decide, by decide, by decide +kernel⟩
theorem zcw_yX4_readAny : zCw yX4_readAny cX4_readAny 4 (some .boolean) 1 := ⟨zw_3_125, zw_1_4, by decide, by decide, by decide +kernel⟩
theorem zcw_yX4_readAll : zCw yX4_readAll cX4_readAll 4 (some .boolean) 1 := ⟨zw_3_129, zw_1_4, by decide, by decide, by decide +kernel⟩
theorem zcw_yX4_readFact : zCw yX4_readFact cX4_readFact 4 (some .boolean) 1 := ⟨zw_3_133, zw_1_4, by decide, by decide, by decide +kernel⟩
theorem zcw_yX4_readGroup : zCw yX4_readGroup cX4_readGroup 2 (some .boolean) 1 := ⟨zw_3_138, zw_1_4, by decide, by decide, by decide +kernel⟩
theorem zcw_yX4_readAfter : zCw yX4_readAfter cX4_readAfter 3 (some .boolean) 1 := ⟨zw_3_143, zw_1_4, by decide, by decide, by decide +kernel⟩
theorem zcw_yX4_noteStep : zCw yX4_noteStep cX4_noteStep 4 none 3 := ⟨zw_3_148, zw_1_4, by decide, by decide, by decide +kernel⟩
theorem zcw_yX4_readNumber : zCw yX4_readNumber cX4_readNumber 3 (some .boolean) 2 := ⟨zw_3_153, zw_1_4, by decide, by decide, by decide +kernel⟩
theorem zcw_yX4_noteJoint : zCw yX4_noteJoint cX4_noteJoint 3 none 2 := ⟨zw_3_161, zw_1_4, by decide, by decide, by decide +kernel⟩
theorem zcw_yX4_notePart : zCw yX4_notePart cX4_notePart 2 none 1 := ⟨zw_3_165, zw_1_4, by decide, by decide, by decide +kernel⟩
theorem zcw_yX6_read : zCw yX6_read cX6_read 2 (some .int) 0 := ⟨zw_3_171, zw_1_5, by decide, by decide, by decide +kernel⟩
theorem zcw_yX6_readEvent : zCw yX6_readEvent cX6_readEvent 2 (some .boolean) 0 := ⟨zw_3_176, zw_1_5, by decide, by decide, by decide +kernel⟩
theorem zcw_yX6_readYear : zCw yX6_readYear cX6_readYear 1 (some .boolean) 0 := ⟨zw_3_183, zw_1_5, by decide, by decide, by decide +kernel⟩
theorem zcw_yX6_note : zCw yX6_note cX6_note 3 none 2 := ⟨zw_3_188, zw_1_5, by decide, by decide, by decide +kernel⟩
theorem zcw_yX6_readDeed : zCw yX6_readDeed cX6_readDeed 3 (some .boolean) 1 := ⟨zw_3_194, zw_1_5, by decide, by decide, by decide +kernel⟩
theorem zcw_yX11_family : zCw yX11_family cX11_family 1 (some .int) 0 := ⟨zw_3_203, zw_1_1, by decide, by decide, by decide +kernel⟩
theorem zcw_yX2_found : zCw yX2_found cX2_found 3 none 1 := ⟨zw_3_207, zw_1_3, by decide, by decide, by decide +kernel⟩
theorem zcw_yX1_clear : zCw yX1_clear cX1_clear 1 none 0 := ⟨zw_3_211, zw_1_6, by decide, by decide, by decide +kernel⟩
theorem zcw_yX10_clear : zCw yX10_clear cX10_clear 1 none 0 := ⟨zw_3_215, zw_1_7, by decide, by decide, by decide +kernel⟩
theorem zcw_yX10_addLife : zCw yX10_addLife cX10_addLife 3 none 2 := ⟨zw_3_219, zw_1_7, by decide, by decide, by decide +kernel⟩
theorem zcw_yX10_add : zCw yX10_add cX10_add 3 none 2 := ⟨zw_3_223, zw_1_7, by decide, by decide, by decide +kernel⟩
theorem zcw_yX7_learn : zCw yX7_learn cX7_learn 4 none 2 := ⟨zw_3_228, zw_1_2, by decide, by decide, by decide +kernel⟩
theorem zcw_yX0_clear : zCw yX0_clear cX0_clear 1 none 0 := ⟨zw_3_232, zw_1_8, by decide, by decide, by decide +kernel⟩
theorem zcw_yX11_gift : zCw yX11_gift cX11_gift 1 (some .int) 0 := ⟨zw_3_236, zw_1_1, by decide, by decide, by decide +kernel⟩
theorem zcw_yX11_refused : zCw yX11_refused cX11_refused 2 (some .int) 1 := ⟨zw_4_0, zw_1_1, by decide, by decide, by decide +kernel⟩
theorem zcw_yX0_keep : zCw yX0_keep cX0_keep 3 none 1 := ⟨zw_4_4, zw_1_8, by decide, by decide, by decide +kernel⟩
theorem zcw_yX0_placeAt : zCw yX0_placeAt cX0_placeAt 2 (some (.object "LaterLives$Affairs")) 1 := ⟨zw_4_8, zw_1_8, by decide, by decide, by decide +kernel⟩
theorem zcw_yX1_copyFrom : zCw yX1_copyFrom cX1_copyFrom 3 none 1 := ⟨zw_4_12, zw_1_6, by decide, by decide, by decide +kernel⟩
theorem zcw_yX10_copyFrom : zCw yX10_copyFrom cX10_copyFrom 3 none 1 := ⟨zw_4_16, zw_1_7, by decide, by decide, by decide +kernel⟩
theorem zcw_yX10_bornIn : zCw yX10_bornIn cX10_bornIn 2 (some .int) 1 := ⟨zw_4_21, zw_1_7, by decide, by decide, by decide +kernel⟩
theorem zcw_yX10_parentOf : zCw yX10_parentOf cX10_parentOf 2 (some .int) 1 := ⟨zw_4_25, zw_1_7, by decide, by decide, by decide +kernel⟩
theorem zcw_yX10_diedIn : zCw yX10_diedIn cX10_diedIn 2 (some .int) 1 := ⟨zw_4_29, zw_1_7, by decide, by decide, by decide +kernel⟩
theorem zcw_yX10_setDeath : zCw yX10_setDeath cX10_setDeath 3 none 2 := ⟨zw_4_33, zw_1_7, by decide, by decide, by decide +kernel⟩
theorem zcw_yX10_has : zCw yX10_has cX10_has 2 (some .boolean) 1 := ⟨zw_4_37, zw_1_7, by decide, by decide, by decide +kernel⟩
theorem zcw_yX1_giftAt : zCw yX1_giftAt cX1_giftAt 2 (some (.object "LaterLives$Gift")) 1 := ⟨zw_4_41, zw_1_6, by decide, by decide, by decide +kernel⟩
theorem zcw_yX1_addGift : zCw yX1_addGift cX1_addGift 2 none 1 := ⟨zw_4_45, zw_1_6, by decide, by decide, by decide +kernel⟩
theorem zcw_yJ9_min_7cf53 : zCw yJ9_min_7cf53 cJ9_min_7cf53 2 (some .int) 2 := ⟨zw_4_48, zw_1_17, by decide, by decide, by decide +kernel⟩
theorem zcw_yX3_init : zCw yX3_init cX3_init 2 none 1 := ⟨zw_4_53, zw_1_18, by decide, by decide, by decide +kernel⟩
theorem zcw_yJ9_max_7cf53 : zCw yJ9_max_7cf53 cJ9_max_7cf53 2 (some .int) 2 := ⟨zw_4_57, zw_1_17, by decide, by decide, by decide +kernel⟩
theorem zcw_yJ7_copyOf_59c91 : zCw yJ7_copyOf_59c91 cJ7_copyOf_59c91 3 (some (.array .int)) 2 := ⟨zw_4_60, zw_1_19, by decide, by decide, by decide +kernel⟩
theorem zcw_yX11_drop : zCw yX11_drop cX11_drop 2 (some .int) 1 := ⟨zw_4_127, zw_1_1, by decide, by decide, by decide +kernel⟩
theorem zcw_yX1_removeGift : zCw yX1_removeGift cX1_removeGift 3 none 1 := ⟨zw_4_132, zw_1_6, by decide, by decide, by decide +kernel⟩
theorem zcw_yX11_pass : zCw yX11_pass cX11_pass 2 (some .int) 1 := ⟨zw_4_136, zw_1_1, by decide, by decide, by decide +kernel⟩
theorem zcw_yX11_birth : zCw yX11_birth cX11_birth 3 (some .int) 1 := ⟨zw_4_140, zw_1_1, by decide, by decide, by decide +kernel⟩
theorem zcw_yX10_whyNoBirth : zCw yX10_whyNoBirth cX10_whyNoBirth 2 (some .int) 1 := ⟨zw_4_144, zw_1_7, by decide, by decide, by decide +kernel⟩
theorem zcw_yX10_isAlive : zCw yX10_isAlive cX10_isAlive 2 (some .boolean) 1 := ⟨zw_4_148, zw_1_7, by decide, by decide, by decide +kernel⟩
theorem zcw_yX11_death : zCw yX11_death cX11_death 3 (some .int) 1 := ⟨zw_4_153, zw_1_1, by decide, by decide, by decide +kernel⟩
theorem zcw_yX10_whyNoDeath : zCw yX10_whyNoDeath cX10_whyNoDeath 2 (some .int) 1 := ⟨zw_4_157, zw_1_7, by decide, by decide, by decide +kernel⟩
theorem zcw_yX10_bury : zCw yX10_bury cX10_bury 2 none 1 := ⟨zw_4_161, zw_1_7, by decide, by decide, by decide +kernel⟩
theorem zcw_yX10_ageOf : zCw yX10_ageOf cX10_ageOf 3 (some .int) 1 := ⟨zw_4_165, zw_1_7, by decide, by decide, by decide +kernel⟩
theorem zcw_yX11_period : zCw yX11_period cX11_period 3 (some .int) 1 := ⟨zw_4_169, zw_1_1, by decide, by decide, by decide +kernel⟩
theorem zcw_yX11_limit : zCw yX11_limit cX11_limit 3 (some .int) 1 := ⟨zw_4_173, zw_1_1, by decide, by decide, by decide +kernel⟩
theorem zcw_yX11_rule : zCw yX11_rule cX11_rule 3 (some .int) 1 := ⟨zw_4_177, zw_1_1, by decide, by decide, by decide +kernel⟩
theorem zcw_yX10_livingLives : zCw yX10_livingLives cX10_livingLives 3 (some .int) 0 := ⟨zw_4_181, zw_1_7, by decide, by decide, by decide +kernel⟩
theorem zcw_yX10_lastDeath : zCw yX10_lastDeath cX10_lastDeath 3 (some .int) 0 := ⟨zw_4_185, zw_1_7, by decide, by decide, by decide +kernel⟩
theorem zcw_yX10_theEnd : zCw yX10_theEnd cX10_theEnd 3 (some .int) 1 := ⟨zw_4_190, zw_1_7, by decide, by decide, by decide +kernel⟩
theorem zcw_yX11_told : zCw yX11_told cX11_told 4 (some .int) 2 := ⟨zw_4_195, zw_1_1, by decide, by decide, by decide +kernel⟩
theorem zcw_yX11_written : zCw yX11_written cX11_written 4 (some .int) 2 := ⟨zw_4_199, zw_1_1, by decide, by decide, by decide +kernel⟩
theorem zcw_yX11_member : zCw yX11_member cX11_member 3 (some .int) 2 := ⟨zw_4_203, zw_1_1, by decide, by decide, by decide +kernel⟩
theorem zcw_yX11_waitFor : zCw yX11_waitFor cX11_waitFor 3 (some .boolean) 1 := ⟨zw_4_207, zw_1_1, by decide, by decide, by decide +kernel⟩
theorem zcw_yX9_look : zCw yX9_look cX9_look 6 none 3 := ⟨zw_4_211, zw_1_10, by decide, by decide, by decide +kernel⟩
theorem zcw_yX10_natureOf : zCw yX10_natureOf cX10_natureOf 4 (some .int) 1 := ⟨zw_4_217, zw_1_7, by decide, by decide, by decide +kernel⟩
theorem zcw_yX5_choose : zCw yX5_choose cX5_choose 6 none 3 := ⟨zw_4_221, zw_1_9, by decide, by decide, by decide +kernel⟩
theorem zcw_yX3_hasStep : zCw yX3_hasStep cX3_hasStep 2 (some .boolean) 1 := ⟨zw_4_225, zw_1_18, by decide, by decide, by decide +kernel⟩
theorem zcw_yX10_inClass : zCw yX10_inClass cX10_inClass 3 (some .boolean) 2 := ⟨zw_4_230, zw_1_7, by decide, by decide, by decide +kernel⟩
theorem zcw_yX5_vestingYear : zCw yX5_vestingYear cX5_vestingYear 7 (some .int) 3 := ⟨zw_4_236, zw_1_9, by decide, by decide, by decide +kernel⟩
theorem zcw_yX5_answerOf : zCw yX5_answerOf cX5_answerOf 2 (some .int) 2 := ⟨zw_4_239, zw_1_9, by decide, by decide, by decide +kernel⟩
theorem zcw_yX5_asOf : zCw yX5_asOf cX5_asOf 2 (some .int) 2 := ⟨zw_5_2, zw_1_9, by decide, by decide, by decide +kernel⟩
theorem zcw_yX5_reached : zCw yX5_reached cX5_reached 5 (some .int) 4 := ⟨zw_5_8, zw_1_9, by decide, by decide, by decide +kernel⟩
theorem zcw_yX5_later : zCw yX5_later cX5_later 2 (some .int) 2 := ⟨zw_5_13, zw_1_9, by decide, by decide, by decide +kernel⟩
theorem zcw_yX5_earlier : zCw yX5_earlier cX5_earlier 2 (some .int) 2 := ⟨zw_5_16, zw_1_9, by decide, by decide, by decide +kernel⟩
theorem zcw_yX9_close : zCw yX9_close cX9_close 3 none 1 := ⟨zw_5_20, zw_1_10, by decide, by decide, by decide +kernel⟩
theorem zcw_yX9_firstYear : zCw yX9_firstYear cX9_firstYear 3 (some .int) 0 := ⟨zw_5_24, zw_1_10, by decide, by decide, by decide +kernel⟩
theorem zcw_yX9_membersInAll : zCw yX9_membersInAll cX9_membersInAll 3 (some .int) 0 := ⟨zw_5_28, zw_1_10, by decide, by decide, by decide +kernel⟩
theorem zcw_yX9_yearOf : zCw yX9_yearOf cX9_yearOf 2 (some .int) 1 := ⟨zw_5_32, zw_1_10, by decide, by decide, by decide +kernel⟩
theorem zcw_yX9_memberAt : zCw yX9_memberAt cX9_memberAt 4 (some .int) 1 := ⟨zw_5_36, zw_1_10, by decide, by decide, by decide +kernel⟩
theorem zcw_yX11_vests : zCw yX11_vests cX11_vests 3 (some .int) 2 := ⟨zw_5_40, zw_1_1, by decide, by decide, by decide +kernel⟩
theorem zcw_yX11_closes : zCw yX11_closes cX11_closes 3 (some .int) 2 := ⟨zw_5_47, zw_1_1, by decide, by decide, by decide +kernel⟩
theorem zcw_yX11_state : zCw yX11_state cX11_state 2 (some .int) 1 := ⟨zw_5_51, zw_1_1, by decide, by decide, by decide +kernel⟩
theorem zcw_yX9_standing : zCw yX9_standing cX9_standing 3 (some .int) 0 := ⟨zw_5_55, zw_1_10, by decide, by decide, by decide +kernel⟩
theorem zcw_yX9_tally : zCw yX9_tally cX9_tally 4 (some .int) 1 := ⟨zw_5_59, zw_1_10, by decide, by decide, by decide +kernel⟩
theorem zcw_yX9_kindOf : zCw yX9_kindOf cX9_kindOf 2 (some .int) 1 := ⟨zw_5_63, zw_1_10, by decide, by decide, by decide +kernel⟩
theorem zcw_yX9_complete : zCw yX9_complete cX9_complete 1 (some .boolean) 0 := ⟨zw_5_67, zw_1_10, by decide, by decide, by decide +kernel⟩
theorem zcw_yX11_count : zCw yX11_count cX11_count 3 (some .int) 2 := ⟨zw_5_72, zw_1_1, by decide, by decide, by decide +kernel⟩
theorem zcw_yX11_share : zCw yX11_share cX11_share 4 (some .int) 3 := ⟨zw_5_77, zw_1_1, by decide, by decide, by decide +kernel⟩
theorem zcw_yX9_partOf : zCw yX9_partOf cX9_partOf 6 (some .int) 2 := ⟨zw_5_82, zw_1_10, by decide, by decide, by decide +kernel⟩
theorem zcw_yX11_story : zCw yX11_story cX11_story 2 (some .int) 0 := ⟨zw_5_86, zw_1_1, by decide, by decide, by decide +kernel⟩
theorem zcw_yX6_play : zCw yX6_play cX6_play 4 (some .int) 2 := ⟨zw_5_90, zw_1_5, by decide, by decide, by decide +kernel⟩
theorem zcw_yX10_startOf : zCw yX10_startOf cX10_startOf 3 none 1 := ⟨zw_5_94, zw_1_7, by decide, by decide, by decide +kernel⟩
theorem zcw_yX6_happen : zCw yX6_happen cX6_happen 4 (some .boolean) 3 := ⟨zw_5_99, zw_1_5, by decide, by decide, by decide +kernel⟩
theorem zcw_yX11_storied : zCw yX11_storied cX11_storied 2 (some .int) 1 := ⟨zw_5_107, zw_1_1, by decide, by decide, by decide +kernel⟩
theorem zcw_yX11_storyState : zCw yX11_storyState cX11_storyState 2 (some .int) 1 := ⟨zw_5_111, zw_1_1, by decide, by decide, by decide +kernel⟩
theorem zcw_yX11_waitAside : zCw yX11_waitAside cX11_waitAside 3 (some .boolean) 1 := ⟨zw_5_115, zw_1_1, by decide, by decide, by decide +kernel⟩
theorem zcw_yX11_storyVests : zCw yX11_storyVests cX11_storyVests 3 (some .int) 2 := ⟨zw_5_119, zw_1_1, by decide, by decide, by decide +kernel⟩
theorem zcw_yX11_good : zCw yX11_good cX11_good 2 (some .int) 1 := ⟨zw_5_123, zw_1_1, by decide, by decide, by decide +kernel⟩
theorem zcw_yX11_tryGift : zCw yX11_tryGift cX11_tryGift 3 (some .boolean) 1 := ⟨zw_5_127, zw_1_1, by decide, by decide, by decide +kernel⟩
theorem zcw_yX8_take : zCw yX8_take cX8_take 5 none 4 := ⟨zw_5_131, zw_1_11, by decide, by decide, by decide +kernel⟩
theorem zcw_yX8_addMembers : zCw yX8_addMembers cX8_addMembers 3 none 1 := ⟨zw_5_137, zw_1_11, by decide, by decide, by decide +kernel⟩
theorem zcw_yX8_belongs : zCw yX8_belongs cX8_belongs 4 (some .boolean) 2 := ⟨zw_5_141, zw_1_11, by decide, by decide, by decide +kernel⟩
theorem zcw_yX8_vestedAtStart : zCw yX8_vestedAtStart cX8_vestedAtStart 2 (some .boolean) 0 := ⟨zw_5_147, zw_1_11, by decide, by decide, by decide +kernel⟩
theorem zcw_yX8_allLives : zCw yX8_allLives cX8_allLives 1 (some .int) 0 := ⟨zw_5_153, zw_1_11, by decide, by decide, by decide +kernel⟩
theorem zcw_yX8_passes : zCw yX8_passes cX8_passes 3 (some .boolean) 1 := ⟨zw_5_158, zw_1_11, by decide, by decide, by decide +kernel⟩
theorem zcw_yX5_yearsBehind : zCw yX5_yearsBehind cX5_yearsBehind 12 (some .int) 4 := ⟨zw_5_162, zw_1_9, by decide, by decide, by decide +kernel⟩
theorem zcw_yX5_bornBehind : zCw yX5_bornBehind cX5_bornBehind 3 (some .int) 3 := ⟨zw_5_165, zw_1_9, by decide, by decide, by decide +kernel⟩
theorem zcw_yX5_inSet : zCw yX5_inSet cX5_inSet 2 (some .boolean) 2 := ⟨zw_5_168, zw_1_9, by decide, by decide, by decide +kernel⟩
theorem zcw_yX5_ageBehind : zCw yX5_ageBehind cX5_ageBehind 4 (some .int) 4 := ⟨zw_5_172, zw_1_9, by decide, by decide, by decide +kernel⟩
theorem zcw_yX10_yearsTo : zCw yX10_yearsTo cX10_yearsTo 3 (some .int) 2 := ⟨zw_5_176, zw_1_7, by decide, by decide, by decide +kernel⟩
theorem zcw_yX5_more : zCw yX5_more cX5_more 2 (some .int) 2 := ⟨zw_5_179, zw_1_9, by decide, by decide, by decide +kernel⟩
theorem zcw_yX5_ageSure : zCw yX5_ageSure cX5_ageSure 3 (some .int) 3 := ⟨zw_5_182, zw_1_9, by decide, by decide, by decide +kernel⟩
theorem zcw_yX5_laterAgeSure : zCw yX5_laterAgeSure cX5_laterAgeSure 2 (some .int) 2 := ⟨zw_5_185, zw_1_9, by decide, by decide, by decide +kernel⟩
theorem zcw_yX11_behind : zCw yX11_behind cX11_behind 6 (some .int) 4 := ⟨zw_5_189, zw_1_1, by decide, by decide, by decide +kernel⟩
theorem zcw_yX11_tryMember : zCw yX11_tryMember cX11_tryMember 5 (some .boolean) 3 := ⟨zw_5_193, zw_1_1, by decide, by decide, by decide +kernel⟩
theorem zcw_yX8_isSet : zCw yX8_isSet cX8_isSet 2 (some .boolean) 1 := ⟨zw_5_197, zw_1_11, by decide, by decide, by decide +kernel⟩
theorem zcw_yX8_behindOf : zCw yX8_behindOf cX8_behindOf 4 (some .int) 3 := ⟨zw_5_203, zw_1_11, by decide, by decide, by decide +kernel⟩
theorem zcw_yX11_soonest : zCw yX11_soonest cX11_soonest 4 (some .int) 3 := ⟨zw_5_207, zw_1_1, by decide, by decide, by decide +kernel⟩
theorem zcw_yX8_soonestOf : zCw yX8_soonestOf cX8_soonestOf 3 (some .int) 2 := ⟨zw_5_211, zw_1_11, by decide, by decide, by decide +kernel⟩
theorem zcw_yX5_soonestYear : zCw yX5_soonestYear cX5_soonestYear 9 (some .int) 3 := ⟨zw_5_215, zw_1_9, by decide, by decide, by decide +kernel⟩
theorem zcw_yX5_bornSoonest : zCw yX5_bornSoonest cX5_bornSoonest 1 (some .int) 1 := ⟨zw_5_218, zw_1_9, by decide, by decide, by decide +kernel⟩
theorem zcw_yX11_carriers : zCw yX11_carriers cX11_carriers 2 (some .int) 1 := ⟨zw_5_222, zw_1_1, by decide, by decide, by decide +kernel⟩
theorem zcw_yX8_fewestLives : zCw yX8_fewestLives cX8_fewestLives 4 (some .int) 0 := ⟨zw_5_226, zw_1_11, by decide, by decide, by decide +kernel⟩
theorem zcw_yJ6_bitCount_0f7a4 : zCw yJ6_bitCount_0f7a4 cJ6_bitCount_0f7a4 1 (some .int) 1 := ⟨zw_5_229, zw_1_25, by decide, by decide, by decide +kernel⟩
theorem zcw_yX11_ways : zCw yX11_ways cX11_ways 5 (some .int) 1 := ⟨zw_5_237, zw_1_1, by decide, by decide, by decide +kernel⟩
theorem zcw_yX3_partEnd : zCw yX3_partEnd cX3_partEnd 2 (some .int) 1 := ⟨zw_6_1, zw_1_18, by decide, by decide, by decide +kernel⟩
theorem zcw_yX11_lowered : zCw yX11_lowered cX11_lowered 4 (some .int) 1 := ⟨zw_6_5, zw_1_1, by decide, by decide, by decide +kernel⟩
theorem zcw_yX11_witness : zCw yX11_witness cX11_witness 2 (some .int) 1 := ⟨zw_6_9, zw_1_1, by decide, by decide, by decide +kernel⟩
theorem zcw_yX8_firstLateCourse : zCw yX8_firstLateCourse cX8_firstLateCourse 2 (some .int) 0 := ⟨zw_6_13, zw_1_11, by decide, by decide, by decide +kernel⟩
theorem zcw_yX8_isCourse : zCw yX8_isCourse cX8_isCourse 2 (some .boolean) 1 := ⟨zw_6_17, zw_1_11, by decide, by decide, by decide +kernel⟩
theorem zcw_yX8_isLateBy : zCw yX8_isLateBy cX8_isLateBy 3 (some .boolean) 1 := ⟨zw_6_22, zw_1_11, by decide, by decide, by decide +kernel⟩
theorem zcw_yX8_follow : zCw yX8_follow cX8_follow 4 none 1 := ⟨zw_6_26, zw_1_11, by decide, by decide, by decide +kernel⟩
theorem zcw_yX8_yearFollowed : zCw yX8_yearFollowed cX8_yearFollowed 4 (some .int) 2 := ⟨zw_6_32, zw_1_11, by decide, by decide, by decide +kernel⟩
theorem zcw_yX11_course : zCw yX11_course cX11_course 5 (some .int) 4 := ⟨zw_6_37, zw_1_1, by decide, by decide, by decide +kernel⟩
theorem zcw_yX8_yearByCourse : zCw yX8_yearByCourse cX8_yearByCourse 4 (some .int) 3 := ⟨zw_6_42, zw_1_11, by decide, by decide, by decide +kernel⟩
theorem zcw_yX11_lates : zCw yX11_lates cX11_lates 2 (some .int) 1 := ⟨zw_6_46, zw_1_1, by decide, by decide, by decide +kernel⟩
theorem zcw_yX8_lateCourses : zCw yX8_lateCourses cX8_lateCourses 3 (some .int) 0 := ⟨zw_6_50, zw_1_11, by decide, by decide, by decide +kernel⟩
theorem zcw_yX11_worst : zCw yX11_worst cX11_worst 3 (some .int) 2 := ⟨zw_6_54, zw_1_1, by decide, by decide, by decide +kernel⟩
theorem zcw_yX8_tellWorst : zCw yX8_tellWorst cX8_tellWorst 6 (some .int) 1 := ⟨zw_6_58, zw_1_11, by decide, by decide, by decide +kernel⟩
theorem zcw_yX11_firstBad : zCw yX11_firstBad cX11_firstBad 2 (some .int) 0 := ⟨zw_6_64, zw_1_1, by decide, by decide, by decide +kernel⟩
theorem zcw_yX11_undo : zCw yX11_undo cX11_undo 1 (some .int) 0 := ⟨zw_6_68, zw_1_1, by decide, by decide, by decide +kernel⟩
theorem zcw_yX0_takeBack : zCw yX0_takeBack cX0_takeBack 4 (some .boolean) 1 := ⟨zw_6_72, zw_1_8, by decide, by decide, by decide +kernel⟩
theorem zcw_yX11_image : zCw yX11_image cX11_image 1 (some .int) 0 := ⟨zw_6_76, zw_1_1, by decide, by decide, by decide +kernel⟩
theorem zcw_yX11_back : zCw yX11_back cX11_back 1 (some .int) 0 := ⟨zw_6_81, zw_1_1, by decide, by decide, by decide +kernel⟩
theorem zcw_yX11_status : zCw yX11_status cX11_status 2 (some .int) 1 := ⟨zw_6_85, zw_1_1, by decide, by decide, by decide +kernel⟩
theorem zcw_yX11_most : zCw yX11_most cX11_most 2 (some .int) 1 := ⟨zw_6_89, zw_1_1, by decide, by decide, by decide +kernel⟩
theorem zcw_yX10_mostChildren : zCw yX10_mostChildren cX10_mostChildren 3 (some .int) 0 := ⟨zw_6_93, zw_1_7, by decide, by decide, by decide +kernel⟩
theorem zcw_yX10_childrenOf : zCw yX10_childrenOf cX10_childrenOf 4 (some .int) 1 := ⟨zw_6_97, zw_1_7, by decide, by decide, by decide +kernel⟩
theorem zcw_yX10_oldestLiving : zCw yX10_oldestLiving cX10_oldestLiving 3 (some .int) 0 := ⟨zw_6_101, zw_1_7, by decide, by decide, by decide +kernel⟩
theorem zcw_yX10_livingPersons : zCw yX10_livingPersons cX10_livingPersons 3 (some .int) 0 := ⟨zw_6_105, zw_1_7, by decide, by decide, by decide +kernel⟩
theorem zcw_yX11_goodGifts : zCw yX11_goodGifts cX11_goodGifts 3 (some .int) 0 := ⟨zw_6_109, zw_1_1, by decide, by decide, by decide +kernel⟩
theorem zcw_yX11_lateGifts : zCw yX11_lateGifts cX11_lateGifts 3 (some .int) 0 := ⟨zw_6_113, zw_1_1, by decide, by decide, by decide +kernel⟩
theorem zcw_yX1_longestGift : zCw yX1_longestGift cX1_longestGift 5 (some .int) 0 := ⟨zw_6_117, zw_1_6, by decide, by decide, by decide +kernel⟩
theorem zcw_yX10_greatestAge : zCw yX10_greatestAge cX10_greatestAge 3 (some .int) 0 := ⟨zw_6_121, zw_1_7, by decide, by decide, by decide +kernel⟩
theorem zcw_yX11_size : zCw yX11_size cX11_size 2 (some .int) 1 := ⟨zw_6_126, zw_1_1, by decide, by decide, by decide +kernel⟩
theorem zcw_yX11_person : zCw yX11_person cX11_person 4 (some .int) 2 := ⟨zw_6_134, zw_1_1, by decide, by decide, by decide +kernel⟩
theorem zcw_yX12_init : zCw yX12_init cX12_init 1 none 0 := ⟨zw_6_204, zw_1_12, by decide, by decide, by decide +kernel⟩
theorem zcw_yX12_thrown : zCw yX12_thrown cX12_thrown 1 (some .int) 0 := ⟨zw_7_121, zw_1_12, by decide, by decide, by decide +kernel⟩
theorem zcw_yX12_feed : zCw yX12_feed cX12_feed 9 (some .int) 5 := ⟨zw_7_125, zw_1_12, by decide, by decide, by decide +kernel⟩
theorem zcw_yX12_byteOf : zCw yX12_byteOf cX12_byteOf 7 (some .int) 6 := ⟨zw_7_128, zw_1_12, by decide, by decide, by decide +kernel⟩
theorem zcw_yX12_end : zCw yX12_end cX12_end 2 (some .boolean) 1 := ⟨zw_7_132, zw_1_12, by decide, by decide, by decide +kernel⟩
theorem zcw_yX12_in : zCw yX12_in cX12_in 6 (some .boolean) 3 := ⟨zw_7_135, zw_1_12, by decide, by decide, by decide +kernel⟩
theorem zcw_yX12_fault : zCw yX12_fault cX12_fault 2 (some .int) 1 := ⟨zw_7_139, zw_1_12, by decide, by decide, by decide +kernel⟩
theorem zcw_yX12_readsFamily : zCw yX12_readsFamily cX12_readsFamily 1 (some .int) 0 := ⟨zw_7_144, zw_1_12, by decide, by decide, by decide +kernel⟩
theorem zcw_yX12_begins : zCw yX12_begins cX12_begins 1 none 0 := ⟨zw_7_148, zw_1_12, by decide, by decide, by decide +kernel⟩
theorem zcw_yX12_next : zCw yX12_next cX12_next 2 none 0 := ⟨zw_7_152, zw_1_12, by decide, by decide, by decide +kernel⟩
theorem zcw_yX12_see : zCw yX12_see cX12_see 2 (some .int) 1 := ⟨zw_7_156, zw_1_12, by decide, by decide, by decide +kernel⟩
theorem zcw_yX12_isSmall : zCw yX12_isSmall cX12_isSmall 1 (some .boolean) 1 := ⟨zw_7_159, zw_1_12, by decide, by decide, by decide +kernel⟩
theorem zcw_yX12_isDigit : zCw yX12_isDigit cX12_isDigit 1 (some .boolean) 1 := ⟨zw_7_162, zw_1_12, by decide, by decide, by decide +kernel⟩
theorem zcw_yX12_readsPiece : zCw yX12_readsPiece cX12_readsPiece 4 none 0 := ⟨zw_7_168, zw_1_12, by decide, by decide, by decide +kernel⟩
theorem zcw_yX12_letter : zCw yX12_letter cX12_letter 1 (some .int) 0 := ⟨zw_7_172, zw_1_12, by decide, by decide, by decide +kernel⟩
theorem zcw_yX12_readLife : zCw yX12_readLife cX12_readLife 3 (some .int) 1 := ⟨zw_7_176, zw_1_12, by decide, by decide, by decide +kernel⟩
theorem zcw_yX12_bad : zCw yX12_bad cX12_bad 1 none 0 := ⟨zw_7_180, zw_1_12, by decide, by decide, by decide +kernel⟩
theorem zcw_yX12_takesNumber : zCw yX12_takesNumber cX12_takesNumber 3 (some .int) 1 := ⟨zw_7_184, zw_1_12, by decide, by decide, by decide +kernel⟩
theorem zcw_yX12_takesWord : zCw yX12_takesWord cX12_takesWord 3 (some .boolean) 1 := ⟨zw_7_189, zw_1_12, by decide, by decide, by decide +kernel⟩
theorem zcw_yX12_isWord : zCw yX12_isWord cX12_isWord 4 (some .boolean) 1 := ⟨zw_7_193, zw_1_12, by decide, by decide, by decide +kernel⟩
theorem zcw_yX12_takesSign : zCw yX12_takesSign cX12_takesSign 3 (some .boolean) 1 := ⟨zw_7_199, zw_1_12, by decide, by decide, by decide +kernel⟩
theorem zcw_yX12_isSign : zCw yX12_isSign cX12_isSign 2 (some .boolean) 1 := ⟨zw_7_203, zw_1_12, by decide, by decide, by decide +kernel⟩
theorem zcw_yX12_mustEnd : zCw yX12_mustEnd cX12_mustEnd 1 none 0 := ⟨zw_7_207, zw_1_12, by decide, by decide, by decide +kernel⟩
theorem zcw_yX12_readsGift : zCw yX12_readsGift cX12_readsGift 1 (some .int) 0 := ⟨zw_7_211, zw_1_12, by decide, by decide, by decide +kernel⟩
theorem zcw_yX12_mustWord : zCw yX12_mustWord cX12_mustWord 2 none 1 := ⟨zw_7_216, zw_1_12, by decide, by decide, by decide +kernel⟩
theorem zcw_yX12_takesLife : zCw yX12_takesLife cX12_takesLife 2 (some .int) 0 := ⟨zw_7_222, zw_1_12, by decide, by decide, by decide +kernel⟩
theorem zcw_yX12_lifeOf : zCw yX12_lifeOf cX12_lifeOf 3 (some .int) 1 := ⟨zw_7_226, zw_1_12, by decide, by decide, by decide +kernel⟩
theorem zcw_yX12_readsAll : zCw yX12_readsAll cX12_readsAll 2 (some .int) 0 := ⟨zw_7_231, zw_1_12, by decide, by decide, by decide +kernel⟩
theorem zcw_yX12_readsWay : zCw yX12_readsWay cX12_readsWay 1 none 0 := ⟨zw_7_235, zw_1_12, by decide, by decide, by decide +kernel⟩
theorem zcw_yX12_readsFact : zCw yX12_readsFact cX12_readsFact 4 none 0 := ⟨zw_7_239, zw_1_12, by decide, by decide, by decide +kernel⟩
theorem zcw_yX12_readsWithin : zCw yX12_readsWithin cX12_readsWithin 1 none 0 := ⟨zw_8_3, zw_1_12, by decide, by decide, by decide +kernel⟩
theorem zcw_yX12_lays : zCw yX12_lays cX12_lays 4 none 3 := ⟨zw_8_7, zw_1_12, by decide, by decide, by decide +kernel⟩
theorem zcw_yX12_oneFact : zCw yX12_oneFact cX12_oneFact 1 none 0 := ⟨zw_8_16, zw_1_12, by decide, by decide, by decide +kernel⟩
theorem zcw_yX12_readsStory : zCw yX12_readsStory cX12_readsStory 1 (some .int) 0 := ⟨zw_8_22, zw_1_12, by decide, by decide, by decide +kernel⟩
theorem zcw_yX12_readsEvent : zCw yX12_readsEvent cX12_readsEvent 3 none 0 := ⟨zw_8_26, zw_1_12, by decide, by decide, by decide +kernel⟩
theorem zcw_yX12_takesWho : zCw yX12_takesWho cX12_takesWho 1 (some .int) 0 := ⟨zw_8_31, zw_1_12, by decide, by decide, by decide +kernel⟩
theorem zcw_yX12_family : zCw yX12_family cX12_family 2 (some .int) 0 := ⟨zw_8_37, zw_1_12, by decide, by decide, by decide +kernel⟩
theorem zcw_yX12_beginsWorld : zCw yX12_beginsWorld cX12_beginsWorld 3 none 1 := ⟨zw_8_41, zw_1_12, by decide, by decide, by decide +kernel⟩
theorem zcw_yX12_undo : zCw yX12_undo cX12_undo 2 (some .int) 0 := ⟨zw_8_46, zw_1_12, by decide, by decide, by decide +kernel⟩
theorem zcw_yX12_status : zCw yX12_status cX12_status 2 (some .int) 1 := ⟨zw_8_50, zw_1_12, by decide, by decide, by decide +kernel⟩
theorem zcw_yX12_gift : zCw yX12_gift cX12_gift 2 (some .int) 0 := ⟨zw_8_55, zw_1_12, by decide, by decide, by decide +kernel⟩
theorem zcw_yX12_refuses : zCw yX12_refuses cX12_refuses 2 (some .int) 1 := ⟨zw_8_59, zw_1_12, by decide, by decide, by decide +kernel⟩
theorem zcw_yX12_gifts : zCw yX12_gifts cX12_gifts 1 (some .int) 0 := ⟨zw_8_63, zw_1_12, by decide, by decide, by decide +kernel⟩
theorem zcw_yX12_keeps : zCw yX12_keeps cX12_keeps 2 none 0 := ⟨zw_8_67, zw_1_12, by decide, by decide, by decide +kernel⟩
theorem zcw_yX12_giftAt : zCw yX12_giftAt cX12_giftAt 1 (some .int) 1 := ⟨zw_8_70, zw_1_12, by decide, by decide, by decide +kernel⟩
theorem zcw_yX12_drop : zCw yX12_drop cX12_drop 3 (some .int) 1 := ⟨zw_8_74, zw_1_12, by decide, by decide, by decide +kernel⟩
theorem zcw_yX12_isGift : zCw yX12_isGift cX12_isGift 2 (some .boolean) 1 := ⟨zw_8_78, zw_1_12, by decide, by decide, by decide +kernel⟩
theorem zcw_yX12_pass : zCw yX12_pass cX12_pass 2 (some .int) 1 := ⟨zw_8_82, zw_1_12, by decide, by decide, by decide +kernel⟩
theorem zcw_yX12_birth : zCw yX12_birth cX12_birth 3 (some .int) 1 := ⟨zw_8_87, zw_1_12, by decide, by decide, by decide +kernel⟩
theorem zcw_yX12_whyNotBorn : zCw yX12_whyNotBorn cX12_whyNotBorn 2 (some .int) 2 := ⟨zw_8_90, zw_1_12, by decide, by decide, by decide +kernel⟩
theorem zcw_yX12_isIn : zCw yX12_isIn cX12_isIn 2 (some .boolean) 2 := ⟨zw_8_93, zw_1_12, by decide, by decide, by decide +kernel⟩
theorem zcw_yX12_isBorn : zCw yX12_isBorn cX12_isBorn 3 none 2 := ⟨zw_8_96, zw_1_12, by decide, by decide, by decide +kernel⟩
theorem zcw_yX12_death : zCw yX12_death cX12_death 2 (some .int) 1 := ⟨zw_8_100, zw_1_12, by decide, by decide, by decide +kernel⟩
theorem zcw_yX12_period : zCw yX12_period cX12_period 2 (some .int) 1 := ⟨zw_8_104, zw_1_12, by decide, by decide, by decide +kernel⟩
theorem zcw_yX12_becomes : zCw yX12_becomes cX12_becomes 5 (some .int) 3 := ⟨zw_8_108, zw_1_12, by decide, by decide, by decide +kernel⟩
theorem zcw_yX12_limit : zCw yX12_limit cX12_limit 2 (some .int) 1 := ⟨zw_8_113, zw_1_12, by decide, by decide, by decide +kernel⟩
theorem zcw_yX12_rule : zCw yX12_rule cX12_rule 2 (some .int) 1 := ⟨zw_8_117, zw_1_12, by decide, by decide, by decide +kernel⟩
theorem zcw_yX12_living : zCw yX12_living cX12_living 4 (some .int) 2 := ⟨zw_8_120, zw_1_12, by decide, by decide, by decide +kernel⟩
theorem zcw_yX12_lastDeath : zCw yX12_lastDeath cX12_lastDeath 4 (some .int) 1 := ⟨zw_8_124, zw_1_12, by decide, by decide, by decide +kernel⟩
theorem zcw_yX12_end_ : zCw yX12_end_ cX12_end_ 3 (some .int) 1 := ⟨zw_8_129, zw_1_12, by decide, by decide, by decide +kernel⟩
theorem zcw_yX12_person : zCw yX12_person cX12_person 3 (some .int) 2 := ⟨zw_8_133, zw_1_12, by decide, by decide, by decide +kernel⟩
theorem zcw_yX12_ageOf : zCw yX12_ageOf cX12_ageOf 2 (some .int) 1 := ⟨zw_8_138, zw_1_12, by decide, by decide, by decide +kernel⟩
theorem zcw_yX12_children : zCw yX12_children cX12_children 4 (some .int) 1 := ⟨zw_8_142, zw_1_12, by decide, by decide, by decide +kernel⟩
theorem zcw_yX12_told : zCw yX12_told cX12_told 3 (some .int) 2 := ⟨zw_8_146, zw_1_12, by decide, by decide, by decide +kernel⟩
theorem zcw_yX12_written : zCw yX12_written cX12_written 4 (some .int) 2 := ⟨zw_8_151, zw_1_12, by decide, by decide, by decide +kernel⟩
theorem zcw_yX12_writesAll : zCw yX12_writesAll cX12_writesAll 3 none 1 := ⟨zw_8_156, zw_1_12, by decide, by decide, by decide +kernel⟩
theorem zcw_yX12_writes : zCw yX12_writes cX12_writes 2 none 1 := ⟨zw_8_160, zw_1_12, by decide, by decide, by decide +kernel⟩
theorem zcw_yX12_to : zCw yX12_to cX12_to 2 (some .int) 1 := ⟨zw_8_164, zw_1_12, by decide, by decide, by decide +kernel⟩
theorem zcw_yX12_toldLife : zCw yX12_toldLife cX12_toldLife 2 (some .int) 1 := ⟨zw_8_171, zw_1_12, by decide, by decide, by decide +kernel⟩
theorem zcw_yX12_writesName : zCw yX12_writesName cX12_writesName 2 none 1 := ⟨zw_8_175, zw_1_12, by decide, by decide, by decide +kernel⟩
theorem zcw_yX12_writesSign : zCw yX12_writesSign cX12_writesSign 4 none 1 := ⟨zw_8_180, zw_1_12, by decide, by decide, by decide +kernel⟩
theorem zcw_yX12_writesNumber : zCw yX12_writesNumber cX12_writesNumber 2 none 1 := ⟨zw_8_185, zw_1_12, by decide, by decide, by decide +kernel⟩
theorem zcw_yX12_member : zCw yX12_member cX12_member 5 (some .int) 2 := ⟨zw_8_193, zw_1_12, by decide, by decide, by decide +kernel⟩
theorem zcw_yX12_isMember : zCw yX12_isMember cX12_isMember 5 (some .boolean) 3 := ⟨zw_8_197, zw_1_12, by decide, by decide, by decide +kernel⟩
theorem zcw_yX12_convenience : zCw yX12_convenience cX12_convenience 5 (some .int) 2 := ⟨zw_8_201, zw_1_12, by decide, by decide, by decide +kernel⟩
theorem zcw_yX12_isOfClass : zCw yX12_isOfClass cX12_isOfClass 5 (some .boolean) 3 := ⟨zw_8_206, zw_1_12, by decide, by decide, by decide +kernel⟩
theorem zcw_yX12_vestYear : zCw yX12_vestYear cX12_vestYear 4 (some .int) 3 := ⟨zw_8_210, zw_1_12, by decide, by decide, by decide +kernel⟩
theorem zcw_yX12_goesThrough : zCw yX12_goesThrough cX12_goesThrough 2 none 1 := ⟨zw_8_214, zw_1_12, by decide, by decide, by decide +kernel⟩
theorem zcw_yX12_vestsSo : zCw yX12_vestsSo cX12_vestsSo 6 (some .int) 4 := ⟨zw_8_218, zw_1_12, by decide, by decide, by decide +kernel⟩
theorem zcw_yX12_whenAll : zCw yX12_whenAll cX12_whenAll 2 (some .int) 0 := ⟨zw_8_222, zw_1_12, by decide, by decide, by decide +kernel⟩
theorem zcw_yX12_whenWay : zCw yX12_whenWay cX12_whenWay 2 (some .int) 0 := ⟨zw_8_226, zw_1_12, by decide, by decide, by decide +kernel⟩
theorem zcw_yX12_whenFact : zCw yX12_whenFact cX12_whenFact 5 (some .int) 0 := ⟨zw_8_230, zw_1_12, by decide, by decide, by decide +kernel⟩
theorem zcw_yX12_reached : zCw yX12_reached cX12_reached 5 (some .int) 3 := ⟨zw_8_234, zw_1_12, by decide, by decide, by decide +kernel⟩
theorem zcw_yX12_passes : zCw yX12_passes cX12_passes 3 (some .boolean) 1 := ⟨zw_8_239, zw_1_12, by decide, by decide, by decide +kernel⟩
theorem zcw_yX12_isNext : zCw yX12_isNext cX12_isNext 2 (some .boolean) 1 := ⟨zw_9_3, zw_1_12, by decide, by decide, by decide +kernel⟩
theorem zcw_yX12_vests : zCw yX12_vests cX12_vests 3 (some .int) 2 := ⟨zw_9_7, zw_1_12, by decide, by decide, by decide +kernel⟩
theorem zcw_yX12_vestsIn : zCw yX12_vestsIn cX12_vestsIn 5 (some .int) 3 := ⟨zw_9_11, zw_1_12, by decide, by decide, by decide +kernel⟩
theorem zcw_yX12_closes : zCw yX12_closes cX12_closes 3 (some .int) 2 := ⟨zw_9_15, zw_1_12, by decide, by decide, by decide +kernel⟩
theorem zcw_yX12_nature : zCw yX12_nature cX12_nature 6 (some .int) 2 := ⟨zw_9_19, zw_1_12, by decide, by decide, by decide +kernel⟩
theorem zcw_yX12_state : zCw yX12_state cX12_state 2 (some .int) 1 := ⟨zw_9_23, zw_1_12, by decide, by decide, by decide +kernel⟩
theorem zcw_yX12_stateOf : zCw yX12_stateOf cX12_stateOf 5 (some .int) 2 := ⟨zw_9_27, zw_1_12, by decide, by decide, by decide +kernel⟩
theorem zcw_yX12_counted : zCw yX12_counted cX12_counted 9 (some .int) 3 := ⟨zw_9_31, zw_1_12, by decide, by decide, by decide +kernel⟩
theorem zcw_yX12_isClosed : zCw yX12_isClosed cX12_isClosed 3 (some .boolean) 2 := ⟨zw_9_35, zw_1_12, by decide, by decide, by decide +kernel⟩
theorem zcw_yX12_count : zCw yX12_count cX12_count 3 (some .int) 2 := ⟨zw_9_39, zw_1_12, by decide, by decide, by decide +kernel⟩
theorem zcw_yX12_share : zCw yX12_share cX12_share 7 (some .int) 3 := ⟨zw_9_43, zw_1_12, by decide, by decide, by decide +kernel⟩
theorem zcw_yX12_story : zCw yX12_story cX12_story 2 (some .int) 0 := ⟨zw_9_48, zw_1_12, by decide, by decide, by decide +kernel⟩
theorem zcw_yX12_isDone : zCw yX12_isDone cX12_isDone 3 (some .boolean) 1 := ⟨zw_9_52, zw_1_12, by decide, by decide, by decide +kernel⟩
theorem zcw_yX12_storied : zCw yX12_storied cX12_storied 2 (some .int) 1 := ⟨zw_9_56, zw_1_12, by decide, by decide, by decide +kernel⟩
theorem zcw_yX12_storyState : zCw yX12_storyState cX12_storyState 2 (some .int) 1 := ⟨zw_9_60, zw_1_12, by decide, by decide, by decide +kernel⟩
theorem zcw_yX12_storyVests : zCw yX12_storyVests cX12_storyVests 3 (some .int) 2 := ⟨zw_9_64, zw_1_12, by decide, by decide, by decide +kernel⟩
theorem zcw_yX12_good : zCw yX12_good cX12_good 2 (some .int) 1 := ⟨zw_9_68, zw_1_12, by decide, by decide, by decide +kernel⟩
theorem zcw_yX12_isGoodGift : zCw yX12_isGoodGift cX12_isGoodGift 2 (some .boolean) 1 := ⟨zw_9_72, zw_1_12, by decide, by decide, by decide +kernel⟩
theorem zcw_yX12_asksAll : zCw yX12_asksAll cX12_asksAll 2 none 1 := ⟨zw_9_76, zw_1_12, by decide, by decide, by decide +kernel⟩
theorem zcw_yX12_allLives : zCw yX12_allLives cX12_allLives 1 (some .int) 0 := ⟨zw_9_80, zw_1_12, by decide, by decide, by decide +kernel⟩
theorem zcw_yX12_isGood : zCw yX12_isGood cX12_isGood 6 (some .boolean) 2 := ⟨zw_9_84, zw_1_12, by decide, by decide, by decide +kernel⟩
theorem zcw_yX12_hasVested : zCw yX12_hasVested cX12_hasVested 4 (some .boolean) 1 := ⟨zw_9_88, zw_1_12, by decide, by decide, by decide +kernel⟩
theorem zcw_yX12_isLifeOf : zCw yX12_isLifeOf cX12_isLifeOf 3 (some .boolean) 2 := ⟨zw_9_92, zw_1_12, by decide, by decide, by decide +kernel⟩
theorem zcw_yX12_begin : zCw yX12_begin cX12_begin 1 none 0 := ⟨zw_9_96, zw_1_12, by decide, by decide, by decide +kernel⟩
theorem zcw_yX12_isThere : zCw yX12_isThere cX12_isThere 5 (some .boolean) 4 := ⟨zw_9_100, zw_1_12, by decide, by decide, by decide +kernel⟩
theorem zcw_yX12_canBear : zCw yX12_canBear cX12_canBear 2 (some .boolean) 1 := ⟨zw_9_104, zw_1_12, by decide, by decide, by decide +kernel⟩
theorem zcw_yX12_behindSo : zCw yX12_behindSo cX12_behindSo 4 (some .int) 3 := ⟨zw_9_108, zw_1_12, by decide, by decide, by decide +kernel⟩
theorem zcw_yX12_testAll : zCw yX12_testAll cX12_testAll 4 none 0 := ⟨zw_9_112, zw_1_12, by decide, by decide, by decide +kernel⟩
theorem zcw_yX12_testWay : zCw yX12_testWay cX12_testWay 3 none 0 := ⟨zw_9_116, zw_1_12, by decide, by decide, by decide +kernel⟩
theorem zcw_yX12_testFact : zCw yX12_testFact cX12_testFact 5 none 0 := ⟨zw_9_120, zw_1_12, by decide, by decide, by decide +kernel⟩
theorem zcw_yX12_are : zCw yX12_are cX12_are 3 none 2 := ⟨zw_9_124, zw_1_12, by decide, by decide, by decide +kernel⟩
theorem zcw_yX12_has : zCw yX12_has cX12_has 2 (some .boolean) 2 := ⟨zw_9_127, zw_1_12, by decide, by decide, by decide +kernel⟩
theorem zcw_yX12_bornBy : zCw yX12_bornBy cX12_bornBy 1 (some .int) 0 := ⟨zw_9_131, zw_1_12, by decide, by decide, by decide +kernel⟩
theorem zcw_yX12_laysReaches : zCw yX12_laysReaches cX12_laysReaches 4 none 2 := ⟨zw_9_135, zw_1_12, by decide, by decide, by decide +kernel⟩
theorem zcw_yX12_added : zCw yX12_added cX12_added 2 (some .int) 2 := ⟨zw_9_138, zw_1_12, by decide, by decide, by decide +kernel⟩
theorem zcw_yX12_behind : zCw yX12_behind cX12_behind 6 (some .int) 4 := ⟨zw_9_142, zw_1_12, by decide, by decide, by decide +kernel⟩
theorem zcw_yX12_isAsked : zCw yX12_isAsked cX12_isAsked 4 (some .boolean) 3 := ⟨zw_9_146, zw_1_12, by decide, by decide, by decide +kernel⟩
theorem zcw_yX12_isThereNow : zCw yX12_isThereNow cX12_isThereNow 4 (some .boolean) 3 := ⟨zw_9_150, zw_1_12, by decide, by decide, by decide +kernel⟩
theorem zcw_yX12_soonest : zCw yX12_soonest cX12_soonest 4 (some .int) 3 := ⟨zw_9_154, zw_1_12, by decide, by decide, by decide +kernel⟩
theorem zcw_yX12_soonAll : zCw yX12_soonAll cX12_soonAll 2 (some .int) 0 := ⟨zw_9_158, zw_1_12, by decide, by decide, by decide +kernel⟩
theorem zcw_yX12_soonWay : zCw yX12_soonWay cX12_soonWay 2 (some .int) 0 := ⟨zw_9_162, zw_1_12, by decide, by decide, by decide +kernel⟩
theorem zcw_yX12_soonFact : zCw yX12_soonFact cX12_soonFact 5 (some .int) 0 := ⟨zw_9_166, zw_1_12, by decide, by decide, by decide +kernel⟩
theorem zcw_yX12_soonBorn : zCw yX12_soonBorn cX12_soonBorn 1 (some .int) 0 := ⟨zw_9_170, zw_1_12, by decide, by decide, by decide +kernel⟩
theorem zcw_yX12_carriers : zCw yX12_carriers cX12_carriers 5 (some .int) 1 := ⟨zw_9_174, zw_1_12, by decide, by decide, by decide +kernel⟩
theorem zcw_yX12_ways : zCw yX12_ways cX12_ways 6 (some .int) 1 := ⟨zw_9_179, zw_1_12, by decide, by decide, by decide +kernel⟩
theorem zcw_yX12_wayEnd : zCw yX12_wayEnd cX12_wayEnd 5 (some .int) 2 := ⟨zw_9_183, zw_1_12, by decide, by decide, by decide +kernel⟩
theorem zcw_yX12_lowered : zCw yX12_lowered cX12_lowered 4 (some .int) 1 := ⟨zw_9_187, zw_1_12, by decide, by decide, by decide +kernel⟩
theorem zcw_yX12_course : zCw yX12_course cX12_course 6 (some .int) 4 := ⟨zw_9_191, zw_1_12, by decide, by decide, by decide +kernel⟩
theorem zcw_yX12_isCourse : zCw yX12_isCourse cX12_isCourse 2 (some .boolean) 1 := ⟨zw_9_195, zw_1_12, by decide, by decide, by decide +kernel⟩
theorem zcw_yX12_vestsBy : zCw yX12_vestsBy cX12_vestsBy 5 (some .int) 3 := ⟨zw_9_200, zw_1_12, by decide, by decide, by decide +kernel⟩
theorem zcw_yX12_diesIn : zCw yX12_diesIn cX12_diesIn 2 (some .int) 2 := ⟨zw_9_203, zw_1_12, by decide, by decide, by decide +kernel⟩
theorem zcw_yX12_witness : zCw yX12_witness cX12_witness 4 (some .int) 1 := ⟨zw_9_207, zw_1_12, by decide, by decide, by decide +kernel⟩
theorem zcw_yX12_isLate : zCw yX12_isLate cX12_isLate 7 (some .boolean) 3 := ⟨zw_9_211, zw_1_12, by decide, by decide, by decide +kernel⟩
theorem zcw_yX12_lates : zCw yX12_lates cX12_lates 5 (some .int) 1 := ⟨zw_9_215, zw_1_12, by decide, by decide, by decide +kernel⟩
theorem zcw_yX12_worst : zCw yX12_worst cX12_worst 8 (some .int) 2 := ⟨zw_9_219, zw_1_12, by decide, by decide, by decide +kernel⟩
theorem zcw_yX12_firstBad : zCw yX12_firstBad cX12_firstBad 2 (some .int) 0 := ⟨zw_9_223, zw_1_12, by decide, by decide, by decide +kernel⟩
theorem zcw_yX12_image : zCw yX12_image cX12_image 2 (some .int) 0 := ⟨zw_9_227, zw_1_12, by decide, by decide, by decide +kernel⟩
theorem zcw_yX12_back : zCw yX12_back cX12_back 2 (some .int) 0 := ⟨zw_9_231, zw_1_12, by decide, by decide, by decide +kernel⟩
theorem zcw_yX12_most : zCw yX12_most cX12_most 2 (some .int) 1 := ⟨zw_9_235, zw_1_12, by decide, by decide, by decide +kernel⟩
theorem zcw_yX12_fullest : zCw yX12_fullest cX12_fullest 3 (some .int) 0 := ⟨zw_9_239, zw_1_12, by decide, by decide, by decide +kernel⟩
theorem zcw_yX12_oldest : zCw yX12_oldest cX12_oldest 3 (some .int) 0 := ⟨zw_10_3, zw_1_12, by decide, by decide, by decide +kernel⟩
theorem zcw_yX12_alive : zCw yX12_alive cX12_alive 3 (some .int) 0 := ⟨zw_10_7, zw_1_12, by decide, by decide, by decide +kernel⟩
theorem zcw_yX12_goodOnes : zCw yX12_goodOnes cX12_goodOnes 3 (some .int) 0 := ⟨zw_10_11, zw_1_12, by decide, by decide, by decide +kernel⟩
theorem zcw_yX12_badStates : zCw yX12_badStates cX12_badStates 3 (some .int) 0 := ⟨zw_10_15, zw_1_12, by decide, by decide, by decide +kernel⟩
theorem zcw_yX12_longest : zCw yX12_longest cX12_longest 3 (some .int) 0 := ⟨zw_10_19, zw_1_12, by decide, by decide, by decide +kernel⟩
theorem zcw_yX12_greatestAge : zCw yX12_greatestAge cX12_greatestAge 3 (some .int) 0 := ⟨zw_10_23, zw_1_12, by decide, by decide, by decide +kernel⟩
theorem zcw_yX12_size : zCw yX12_size cX12_size 2 (some .int) 1 := ⟨zw_10_27, zw_1_12, by decide, by decide, by decide +kernel⟩
theorem zdf_0 (B : Nat) : ∀ k, k < 3 → defaultValue (tyX0 k) = zfv B ((zks 0).getD k false) 0 := by
  intro k hk
  match k, hk with
  | 0, _ => rfl
  | 1, _ => rfl
  | 2, _ => rfl
  | (k + 3), hk => exact absurd hk (by omega)
theorem zdf_1 (B : Nat) : ∀ k, k < 5 → defaultValue (tyX1 k) = zfv B ((zks 1).getD k false) 0 := by
  intro k hk
  match k, hk with
  | 0, _ => rfl
  | 1, _ => rfl
  | 2, _ => rfl
  | 3, _ => rfl
  | 4, _ => rfl
  | (k + 5), hk => exact absurd hk (by omega)
theorem zdf_2 (B : Nat) : ∀ k, k < 5 → defaultValue (tyX2 k) = zfv B ((zks 2).getD k false) 0 := by
  intro k hk
  match k, hk with
  | 0, _ => rfl
  | 1, _ => rfl
  | 2, _ => rfl
  | 3, _ => rfl
  | 4, _ => rfl
  | (k + 5), hk => exact absurd hk (by omega)
theorem zdf_3 (B : Nat) : ∀ k, k < 11 → defaultValue (tyX3 k) = zfv B ((zks 3).getD k false) 0 := by
  intro k hk
  match k, hk with
  | 0, _ => rfl
  | 1, _ => rfl
  | 2, _ => rfl
  | 3, _ => rfl
  | 4, _ => rfl
  | 5, _ => rfl
  | 6, _ => rfl
  | 7, _ => rfl
  | 8, _ => rfl
  | 9, _ => rfl
  | 10, _ => rfl
  | (k + 11), hk => exact absurd hk (by omega)
theorem zdf_4 (B : Nat) : ∀ k, k < 13 → defaultValue (tyX4 k) = zfv B ((zks 4).getD k false) 0 := by
  intro k hk
  match k, hk with
  | 0, _ => rfl
  | 1, _ => rfl
  | 2, _ => rfl
  | 3, _ => rfl
  | 4, _ => rfl
  | 5, _ => rfl
  | 6, _ => rfl
  | 7, _ => rfl
  | 8, _ => rfl
  | 9, _ => rfl
  | 10, _ => rfl
  | 11, _ => rfl
  | 12, _ => rfl
  | (k + 13), hk => exact absurd hk (by omega)
theorem zdf_5 (B : Nat) : ∀ k, k < 7 → defaultValue (tyX5 k) = zfv B ((zks 5).getD k false) 0 := by
  intro k hk
  match k, hk with
  | 0, _ => rfl
  | 1, _ => rfl
  | 2, _ => rfl
  | 3, _ => rfl
  | 4, _ => rfl
  | 5, _ => rfl
  | 6, _ => rfl
  | (k + 7), hk => exact absurd hk (by omega)
theorem zdf_6 (B : Nat) : ∀ k, k < 5 → defaultValue (tyX6 k) = zfv B ((zks 6).getD k false) 0 := by
  intro k hk
  match k, hk with
  | 0, _ => rfl
  | 1, _ => rfl
  | 2, _ => rfl
  | 3, _ => rfl
  | 4, _ => rfl
  | (k + 5), hk => exact absurd hk (by omega)
theorem zdf_7 (B : Nat) : ∀ k, k < 8 → defaultValue (tyX7 k) = zfv B ((zks 7).getD k false) 0 := by
  intro k hk
  match k, hk with
  | 0, _ => rfl
  | 1, _ => rfl
  | 2, _ => rfl
  | 3, _ => rfl
  | 4, _ => rfl
  | 5, _ => rfl
  | 6, _ => rfl
  | 7, _ => rfl
  | (k + 8), hk => exact absurd hk (by omega)
theorem zdf_8 (B : Nat) : ∀ k, k < 12 → defaultValue (tyX8 k) = zfv B ((zks 8).getD k false) 0 := by
  intro k hk
  match k, hk with
  | 0, _ => rfl
  | 1, _ => rfl
  | 2, _ => rfl
  | 3, _ => rfl
  | 4, _ => rfl
  | 5, _ => rfl
  | 6, _ => rfl
  | 7, _ => rfl
  | 8, _ => rfl
  | 9, _ => rfl
  | 10, _ => rfl
  | 11, _ => rfl
  | (k + 12), hk => exact absurd hk (by omega)
theorem zdf_9 (B : Nat) : ∀ k, k < 8 → defaultValue (tyX9 k) = zfv B ((zks 9).getD k false) 0 := by
  intro k hk
  match k, hk with
  | 0, _ => rfl
  | 1, _ => rfl
  | 2, _ => rfl
  | 3, _ => rfl
  | 4, _ => rfl
  | 5, _ => rfl
  | 6, _ => rfl
  | 7, _ => rfl
  | (k + 8), hk => exact absurd hk (by omega)
theorem zdf_10 (B : Nat) : ∀ k, k < 6 → defaultValue (tyX10 k) = zfv B ((zks 10).getD k false) 0 := by
  intro k hk
  match k, hk with
  | 0, _ => rfl
  | 1, _ => rfl
  | 2, _ => rfl
  | 3, _ => rfl
  | 4, _ => rfl
  | 5, _ => rfl
  | (k + 6), hk => exact absurd hk (by omega)
theorem zdf_11 (B : Nat) : ∀ k, k < 15 → defaultValue (tyX11 k) = zfv B ((zks 11).getD k false) 0 := by
  intro k hk
  match k, hk with
  | 0, _ => rfl
  | 1, _ => rfl
  | 2, _ => rfl
  | 3, _ => rfl
  | 4, _ => rfl
  | 5, _ => rfl
  | 6, _ => rfl
  | 7, _ => rfl
  | 8, _ => rfl
  | 9, _ => rfl
  | 10, _ => rfl
  | 11, _ => rfl
  | 12, _ => rfl
  | 13, _ => rfl
  | 14, _ => rfl
  | (k + 15), hk => exact absurd hk (by omega)
theorem zdf_12 (B : Nat) : ∀ k, k < 50 → defaultValue (tyX12 k) = zfv B ((zks 12).getD k false) 0 := by
  intro k hk
  match k, hk with
  | 0, _ => rfl
  | 1, _ => rfl
  | 2, _ => rfl
  | 3, _ => rfl
  | 4, _ => rfl
  | 5, _ => rfl
  | 6, _ => rfl
  | 7, _ => rfl
  | 8, _ => rfl
  | 9, _ => rfl
  | 10, _ => rfl
  | 11, _ => rfl
  | 12, _ => rfl
  | 13, _ => rfl
  | 14, _ => rfl
  | 15, _ => rfl
  | 16, _ => rfl
  | 17, _ => rfl
  | 18, _ => rfl
  | 19, _ => rfl
  | 20, _ => rfl
  | 21, _ => rfl
  | 22, _ => rfl
  | 23, _ => rfl
  | 24, _ => rfl
  | 25, _ => rfl
  | 26, _ => rfl
  | 27, _ => rfl
  | 28, _ => rfl
  | 29, _ => rfl
  | 30, _ => rfl
  | 31, _ => rfl
  | 32, _ => rfl
  | 33, _ => rfl
  | 34, _ => rfl
  | 35, _ => rfl
  | 36, _ => rfl
  | 37, _ => rfl
  | 38, _ => rfl
  | 39, _ => rfl
  | 40, _ => rfl
  | 41, _ => rfl
  | 42, _ => rfl
  | 43, _ => rfl
  | 44, _ => rfl
  | 45, _ => rfl
  | 46, _ => rfl
  | 47, _ => rfl
  | 48, _ => rfl
  | 49, _ => rfl
  | (k + 50), hk => exact absurd hk (by omega)
