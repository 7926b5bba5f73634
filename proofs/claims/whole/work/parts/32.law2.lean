/-! ===== rows of the law's own body ===== -/
theorem w32_id {x : Int} (h : InR x) : w32 x = x := by unfold w32; omega
def zX (xs : Nat → Int32) (i : Int) : Int := (xs i.toNat).toInt
theorem inR_zX (xs : Nat → Int32) (i : Int) : InR (zX xs i) := ⟨Int32.le_toInt _, Int32.toInt_lt _⟩
theorem zrm_law {d' mL mc ms : Nat} (h : d' + 1 ≤ 2048) (hm : 8 + (mL + 11) + 64 * d' ≤ 84000) : ((zrm d' mc ms).cells = mc ∧ (zrm d' mc ms).slots = ms) ∧ (zrm d' mc ms).frames + 1 ≤ room_1.frames ∧ 8 + (mL + 11) + (zrm d' mc ms).locals ≤ room_1.locals := ⟨⟨rfl, rfl⟩, h, hm⟩
section ZL
variable {p : Program} {l : Launch} {e : Env} {R : Room} {s : State} {m : MethodId} {args : Array Value} {below : List Frame} {meth : Method} {c : Code} {H : Heap} {locs : List Loc} {cells slots : Nat} {Q : State → Prop}
variable {cc : ByteArray} {nL pc pc' : Nat} {ls : Array Slot} {rest : List Value} {own : String} {G : zG} {top : Int} {L : zL} {M : zM} {vs : List (Option Value)} {P : Prop} {fu : Nat}
theorem u_cVA {ret : Option FieldType} (E : zEv p m c cc nL s args own meth ret G) (S : zS G top L M s H locs) {x : Int} {y : MethodName} {bytes : ByteArray} {maxL n idx ci : Nat} {ret' : Option FieldType} {T : u_T} {N : Nat} {rm : Room} {mc ms : Nat} {As : List Value} {a tg top' : Int} {stk : List Value} {L' : zL} {M' : zM} (cf : zCw y bytes maxL ret' n) (hi : Cond.instanceMethod y ∈ zTB) (hs : Cond.selects y.cls y y ∈ zTB) (lk : Cond.methodLink own idx y ∈ zTB) (F : zcl[ci]? = some (y.cls, T, N)) (hci : (ci : Int) + 1 = tg) (htag : (L a).1 = tg) (hM : Met l y (Cond.code y bytes maxL ret' :: zTB) rm (va_Pc (zR G.2.2.1 a :: As) (zPre G top L M)) (zQ G top' L' M' (some (.int (zO x))) P) mc ms (zA G)) (hrm : (rm.cells = mc ∧ rm.slots = ms) ∧ rm.frames + 1 ≤ R.frames ∧ 8 + (maxL + 11) + rm.locals ≤ R.locals) (hroom : cells + mc ≤ R.cells ∧ slots + ms ≤ R.slots) (hn : As.length = n) (hcat : (rest.map fun v => v.category).sum ≤ 8) (hsz : ls.size = nL) (hst : stk = As.reverse ++ zR G.2.2.1 a :: rest) (d : zD cc pc (.invokevirtual idx) 3 pc')
    (kk : ∀ (H1 : Heap) (locs1 : List Loc), P → zS G top' L' M' s H1 locs1 → W p l e R s m args below meth c H1 locs1 (cells + mc) (slots + ms) Q (F0 m pc' ls (.int (zO x) :: rest))) : W p l e R s m args below meth c H locs cells slots Q (F0 m pc ls stk) :=
  r_callV E S cf hi hs lk F (htag.trans hci.symm) hM hrm hroom hn hcat hsz hst d kk
variable {b Ln : Nat} {xs : Nat → Int32}
theorem u_slen {ret : Option FieldType} (E : zEv p m c cc nL s args own meth ret G) (hX : va_X b Ln xs s s.heap) (hbl : b < s.heap.size) (hB : G.2.2.1 + 1 = s.heap.size) (S : zS G top L M s H locs) (d : zD cc pc .arraylength 1 pc')
    (kk : W p l e R s m args below meth c H locs cells slots Q (F0 m pc' ls (.int (zO (Ln : Int)) :: rest))) : W p l e R s m args below meth c H locs cells slots Q (F0 m pc ls (.ref b :: rest)) := by
  obtain ⟨d, rfl⟩ := d
  refine va_slen E.1.1 E.1.2.1 hX hbl (A := zA G) (by show ¬ G.2.2.1 < b; omega) S.2.1 d ?_
  rw [show Int32.ofNat Ln = zO (Ln : Int) from rfl]
  exact kk
theorem u_sld {ret : Option FieldType} (E : zEv p m c cc nL s args own meth ret G) (hX : va_X b Ln xs s s.heap) (hbl : b < s.heap.size) (hB : G.2.2.1 + 1 = s.heap.size) (hLn : (Ln : Int) < 2147483648) {i : Int} (S : zS G top L M s H locs) (hi : 0 ≤ i ∧ i < (Ln : Int)) (d : zD cc pc .iaload 1 pc')
    (kk : W p l e R s m args below meth c H locs cells slots Q (F0 m pc' ls (.int (zO (zX xs i)) :: rest))) : W p l e R s m args below meth c H locs cells slots Q (F0 m pc ls (.int (zO i) :: .ref b :: rest)) := by
  obtain ⟨d, rfl⟩ := d
  obtain ⟨g1, g2⟩ := zO_idx hi.1 hi.2 hLn
  rw [Int.toNat_natCast] at g1
  refine va_sld E.1.1 E.1.2.1 hX hbl (A := zA G) (by show ¬ G.2.2.1 < b; omega) S.2.1 g1 d ?_
  rw [g2]
  unfold zX zO at kk
  rw [Int32.ofInt_toInt] at kk
  exact kk
theorem r_lald {ret : Option FieldType} (E : zEv p m c cc nL s args own meth ret G) {a i : Int} (S : zS G top L M s H locs) (h : (L a).1 = 102) (hi : 0 ≤ i ∧ i < (L a).2) (d : zD cc pc .laload 1 pc')
    (kk : W p l e R s m args below meth c H locs cells slots Q (F0 m pc' ls (.long (Int64.ofInt (M a i)) :: rest))) : W p l e R s m args below meth c H locs cells slots Q (F0 m pc ls (.int (zO i) :: zR G.2.2.1 a :: rest)) := by
  obtain ⟨d, rfl⟩ := d
  rw [zR_some (S.1.tag h (by omega)).1]
  have hat := S.1.at h (by omega)
  rw [zce_long h] at hat
  obtain ⟨g1, g2⟩ := zO_idx hi.1 hi.2 (S.1.2.2.2.2.2 a).2
  refine va_lald E.1.1 E.1.2.1 E.2.1.1 S.1.1 _ 1 hat rfl g1 d ?_
  rw [g2, Int.toNat_of_nonneg hi.1]
  exact kk
theorem r_lcmp {ret : Option FieldType} (E : zEv p m c cc nL s args own meth ret G) {x y : Int} (d : zD cc pc .lcmp 1 pc')
    (kk : W p l e R s m args below meth c H locs cells slots Q (F0 m pc' ls (.int (lg_cmp (Int64.ofInt x) (Int64.ofInt y)) :: rest))) : W p l e R s m args below meth c H locs cells slots Q (F0 m pc ls (.long (Int64.ofInt y) :: .long (Int64.ofInt x) :: rest)) := by
  obtain ⟨d, rfl⟩ := d
  exact W.lcmp E.1.1 E.1.2.1 d kk
theorem r_lif_eq {ret : Option FieldType} (E : zEv p m c cc nL s args own meth ret G) {x y off : Int} {tgt : Nat} (hx : InR x) (hy : InR y) (d : zD cc pc (.ifCond .eq off) 3 pc') (ht : (pc : Int) + off = (tgt : Int)) (kt : x = y → W p l e R s m args below meth c H locs cells slots Q (F0 m tgt ls rest)) (kf : ¬ x = y → W p l e R s m args below meth c H locs cells slots Q (F0 m pc' ls rest)) : W p l e R s m args below meth c H locs cells slots Q (F0 m pc ls (.int (lg_cmp (Int64.ofInt x) (Int64.ofInt y)) :: rest)) := by
  obtain ⟨d, rfl⟩ := d
  exact lv_if_eq E.1.1 E.1.2.1 d ht (fun q => kt ((zlg_eq hx hy).mp q)) (fun q => kf (fun z => q ((zlg_eq hx hy).mpr z)))
theorem zlw_end (E : zEv p m c code nL s #[Value.ref b] own meth ret G) (hB : G.2.2.1 + 1 = s.heap.size) (S : zS G top L M s H locs) (hc : cells ≤ 601024) (hs : slots ≤ 7293034) (d : zD code pc .ireturn 1 pc') : W p l e room_1 s m #[Value.ref b] below meth c H locs cells slots (lw_Z below #[Value.ref b] s) (F0 m pc ls [.int (zO 1)]) := by
  refine va_forget (fun q hq => ?_) ?_
  · have h : G.2.2.1 < q.base := S.2.1.2.2 q hq
    omega
  · refine W.widen (k := 601024) (n := 7293034) hc hs ?_
    exact lw_ret E.1.1 E.1.2.1 E.2.2.1 E.2.2.2 d.1
end ZL
