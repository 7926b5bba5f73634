/-! ===== the environment, the relation between memory and heap ===== -/
abbrev zG : Type := va_G × (Nat → ClassId) × Nat × (Nat → Nat) × (Nat → Nat)
def zro (B : Nat) (x : Int) : Option Nat := if x = 0 then none else some (B + x.toNat)
def zR (B : Nat) (x : Int) : Value := va_rf (zro B x)
def zfv (B : Nat) (r : Bool) (x : Int) : Value := if r = true then zR B x else .int (zO x)
def zfs (B : Nat) (ks : List Bool) (f : Int → Int) : List Value := (List.range ks.length).map (fun k => zfv B (ks.getD k false) (f (k : Int)))
def zce (G : zG) (L : zL) (M : zM) (a : Int) : va_E :=
  if (L a).1 = 101 then .inl (G.2.1 0, (L a).2.toNat, .inl (fun i => zO (M a (i : Int))))
  else if (L a).1 = 102 then .inl (G.2.1 1, (L a).2.toNat, .inr (.inl (fun i => Int64.ofInt (M a (i : Int)))))
  else if (L a).1 = 103 then .inl (G.2.1 2, (L a).2.toNat, .inr (.inr (.inr (.inr (fun i => zro G.2.2.1 (M a (i : Int)))))))
  else if (L a).1 = 104 then .inl (G.2.1 3, (L a).2.toNat, .inr (.inr (.inr (.inr (fun i => zro G.2.2.1 (M a (i : Int)))))))
  else .inr (((L a).1 - 1).toNat, zfs G.2.2.1 (zks ((L a).1 - 1).toNat) (M a))
def zws (G : zG) (top : Int) (L : zL) (M : zM) : va_W := (List.range (top.toNat - 1)).map (fun k => (G.2.2.1 + (k + 1), zce G L M ((k : Int) + 1)))
def ztys (G : zG) : List (ClassId × FieldType) := [(G.2.1 0, .int), (G.2.1 1, .long), (G.2.1 2, .object RX3), (G.2.1 3, .object RX1)]
def zRel (G : zG) (top : Int) (L : zL) (M : zM) (H : Heap) : Prop :=
  va_P G.1 zcl (zws G top L M) H ∧ H.size = G.2.2.1 + top.toNat ∧ (0 < top ∧ top < 2147483648) ∧ (∀ a i, InR (M a i)) ∧ (∀ a, (L a).1 ≠ 0 → 0 < a ∧ a < top) ∧ (∀ a, 0 ≤ (L a).2 ∧ (L a).2 < 2147483648)
abbrev zA (G : zG) : Nat → Prop := fun q => G.2.2.1 < q
theorem zws_at {G : zG} {top : Int} {L : zL} {M : zM} {a : Int} (h : 0 < a) (h2 : a < top) : (zws G top L M)[a.toNat - 1]? = some (G.2.2.1 + a.toNat, zce G L M a) := by
  unfold zws
  rw [List.getElem?_map, List.getElem?_range (by omega)]
  simp only [Option.map_some]
  rw [show a.toNat - 1 + 1 = a.toNat by omega, show ((a.toNat - 1 : Nat) : Int) + 1 = a by omega]
theorem zws_len (G : zG) (top : Int) (L : zL) (M : zM) : (zws G top L M).length = top.toNat - 1 := by simp [zws]
theorem zws_get {G : zG} {top : Int} {L : zL} {M : zM} {k : Nat} {q : Nat × va_E} (h : (zws G top L M)[k]? = some q) : k < top.toNat - 1 ∧ q = (G.2.2.1 + (k + 1), zce G L M ((k : Int) + 1)) := by
  have hk : k < top.toNat - 1 := by rw [← zws_len G top L M]; exact (List.getElem?_eq_some_iff.mp h).1
  refine ⟨hk, ?_⟩
  unfold zws at h
  rw [List.getElem?_map, List.getElem?_range hk] at h
  simp only [Option.map_some] at h
  exact (Option.some.inj h).symm
theorem zws_D (G : zG) (top : Int) (L : zL) (M : zM) : va_D (zA G) (zws G top L M) := by
  refine ⟨fun i j p q hi hj hpq => ?_, fun k q h => ?_⟩
  · obtain ⟨-, rfl⟩ := zws_get hi
    obtain ⟨-, rfl⟩ := zws_get hj
    simp only at hpq
    omega
  · obtain ⟨-, rfl⟩ := zws_get h
    show G.2.2.1 < G.2.2.1 + (k + 1)
    omega
theorem zws_set {G : zG} {top : Int} {L : zL} {M M' : zM} {a : Int} {E : va_E} (h : 0 < a) (h2 : a < top) (hE : zce G L M' a = E) (hM : ∀ b, b ≠ a → M' b = M b) : (zws G top L M).set (a.toNat - 1) (G.2.2.1 + a.toNat, E) = zws G top L M' := by
  apply List.ext_getElem?
  intro k
  by_cases hk : k = a.toNat - 1
  · subst hk
    rw [List.getElem?_set_self (by rw [zws_len]; omega), zws_at h h2, hE]
  · rw [List.getElem?_set_ne (Ne.symm hk)]
    unfold zws
    rw [List.getElem?_map, List.getElem?_map]
    by_cases hl : k < top.toNat - 1
    · rw [List.getElem?_range hl]
      simp only [Option.map_some]
      have hne : ((k : Int) + 1) ≠ a := by omega
      unfold zce
      rw [hM _ hne]
    · rw [List.getElem?_eq_none (by simp; omega)]
      rfl
theorem zfs_at {B : Nat} {ks : List Bool} {f : Int → Int} {k : Nat} (hk : k < ks.length) : (zfs B ks f)[k]? = some (zfv B (ks.getD k false) (f (k : Int))) := by
  unfold zfs
  rw [List.getElem?_map, List.getElem?_range hk]
  rfl
theorem zfs_len (B : Nat) (ks : List Bool) (f : Int → Int) : (zfs B ks f).length = ks.length := by simp [zfs]
theorem zfs_set {B : Nat} {ks : List Bool} {f f' : Int → Int} {k : Nat} {v : Value} (hv : zfv B (ks.getD k false) (f' (k : Int)) = v) (hf : ∀ j : Int, j ≠ k → f' j = f j) : (zfs B ks f).set k v = zfs B ks f' := by
  apply List.ext_getElem?
  intro j
  by_cases hj : j = k
  · subst hj
    by_cases hl : j < ks.length
    · rw [List.getElem?_set_self (by rw [zfs_len]; exact hl), zfs_at hl, hv]
    · rw [List.getElem?_eq_none (by rw [List.length_set, zfs_len]; omega), List.getElem?_eq_none (by rw [zfs_len]; omega)]
  · rw [List.getElem?_set_ne (Ne.symm hj)]
    unfold zfs
    rw [List.getElem?_map, List.getElem?_map]
    by_cases hl : j < ks.length
    · rw [List.getElem?_range hl]
      simp only [Option.map_some]
      rw [hf _ (by omega)]
    · rw [List.getElem?_eq_none (by simp; omega)]
      rfl
theorem mu_ne {M : zM} {a i v b : Int} (h : b ≠ a) : mu M a i v b = M b := by
  funext j
  unfold mu
  rw [if_neg (fun q => h q.1)]
theorem mu_at {M : zM} {a i v : Int} : mu M a i v a i = v := by
  unfold mu
  rw [if_pos ⟨rfl, rfl⟩]
theorem mu_oth {M : zM} {a i v b j : Int} (h : j ≠ i) : mu M a i v b j = M b j := by
  unfold mu
  rw [if_neg (fun q => h q.2)]
theorem zRel.inR {G : zG} {top : Int} {L : zL} {M : zM} {H : Heap} (h : zRel G top L M H) (a i : Int) : InR (M a i) := h.2.2.2.1 a i
theorem zRel.tag {G : zG} {top : Int} {L : zL} {M : zM} {H : Heap} (h : zRel G top L M H) {a t : Int} (ht : (L a).1 = t) (h0 : t ≠ 0) : 0 < a ∧ a < top := h.2.2.2.2.1 a (by rw [ht]; exact h0)
theorem zRel.lenR {G : zG} {top : Int} {L : zL} {M : zM} {H : Heap} (h : zRel G top L M H) (a : Int) : InR (L a).2 := ⟨by have := (h.2.2.2.2.2 a).1; omega, (h.2.2.2.2.2 a).2⟩
theorem zRel.refR {G : zG} {top : Int} {L : zL} {M : zM} {H : Heap} (h : zRel G top L M H) {a t : Int} (ht : (L a).1 = t) (h0 : t ≠ 0) : InR a := by
  have h1 := h.tag ht h0
  have h2 := h.2.2.1
  omega
theorem zRel.at {G : zG} {top : Int} {L : zL} {M : zM} {H : Heap} (h : zRel G top L M H) {a t : Int} (ht : (L a).1 = t) (h0 : t ≠ 0) : (zws G top L M)[a.toNat - 1]? = some (G.2.2.1 + a.toNat, zce G L M a) := zws_at (h.tag ht h0).1 (h.tag ht h0).2
theorem zR_some {B : Nat} {x : Int} (h : 0 < x) : zR B x = .ref (B + x.toNat) := by
  unfold zR zro
  rw [if_neg (by omega)]
  rfl
theorem zR_null (B : Nat) : zR B 0 = .null := rfl
theorem zR_cat (B : Nat) (x : Int) : (zR B x).category = 1 := by
  unfold zR zro
  by_cases h : x = 0
  · rw [if_pos h]; rfl
  · rw [if_neg h]; rfl
/-! ===== locals ===== -/
def zLV (ls : Array Slot) (n : Nat) (vs : List (Option Value)) : Prop := ∃ l, lv_has ls n l ∧ (∀ q ∈ l, q.2.category = 1) ∧ ∀ (k : Nat) (v : Value), vs[k]? = some (some v) → (k, v) ∈ l
theorem zLV.at {ls : Array Slot} {n : Nat} {vs : List (Option Value)} (h : zLV ls n vs) {k : Nat} {v : Value} (hk : vs[k]? = some (some v)) : ls[k]? = some (.val v) := by
  obtain ⟨l, h1, -, h3⟩ := h
  exact h1.2.2 (k, v) (h3 k v hk)
theorem zLV.size {ls : Array Slot} {n : Nat} {vs : List (Option Value)} (h : zLV ls n vs) : ls.size = n := by
  obtain ⟨l, h1, -⟩ := h
  exact h1.1
def zsub : List (Option Value) → List (Option Value) → Prop
  | _, [] => True
  | a :: l, none :: l' => zsub l l'
  | a :: l, some v :: l' => a = some v ∧ zsub l l'
  | [], none :: l' => zsub [] l'
  | [], some _ :: _ => False
theorem zsub_at : ∀ (vs vs' : List (Option Value)), zsub vs vs' → ∀ (k : Nat) (v : Value), vs'[k]? = some (some v) → vs[k]? = some (some v)
  | _, [], _, k, v, hk => by simp at hk
  | a :: l, none :: l', h, 0, v, hk => by simp at hk
  | a :: l, none :: l', h, k + 1, v, hk => by simpa using zsub_at l l' h k v (by simpa using hk)
  | a :: l, some w :: l', h, 0, v, hk => by
      simp at hk
      rw [← hk, h.1]
      rfl
  | a :: l, some w :: l', h, k + 1, v, hk => by simpa using zsub_at l l' h.2 k v (by simpa using hk)
  | [], none :: l', h, 0, v, hk => by simp at hk
  | [], none :: l', h, k + 1, v, hk => by
      have := zsub_at [] l' h k v (by simpa using hk)
      simp at this
  | [], some _ :: _, h, k, v, hk => h.elim
theorem zLV.sub {ls : Array Slot} {n : Nat} {vs vs' : List (Option Value)} (h : zLV ls n vs) (hs : zsub vs vs') : zLV ls n vs' := by
  obtain ⟨l, h1, h2, h3⟩ := h
  exact ⟨l, h1, h2, fun k v hk => h3 k v (zsub_at vs vs' hs k v hk)⟩
theorem zLV.put {ls' : Array Slot} {n i : Nat} {v : Value} {l : List (Nat × Value)} {vs : List (Option Value)} (hc : v.category = 1) (h2 : ∀ q ∈ l, q.2.category = 1) (h3 : ∀ (k : Nat) (v : Value), vs[k]? = some (some v) → (k, v) ∈ l)
    (h : lv_has ls' n ((i, v) :: l.filter (fun q => !(q.1 == i) && !(q.1 + 1 == i && q.2.category == 2)))) : zLV ls' n (vs.set i (some v)) := by
  refine ⟨_, h, fun q hq => ?_, fun k w hk => ?_⟩
  · rcases List.mem_cons.mp hq with rfl | hq
    · exact hc
    · exact h2 q (List.mem_filter.mp hq).1
  · by_cases hki : k = i
    · subst hki
      by_cases hl : k < vs.length
      · rw [List.getElem?_set_self hl] at hk
        cases hk
        exact List.mem_cons_self
      · rw [List.getElem?_eq_none (by simp; omega)] at hk
        cases hk
    · rw [List.getElem?_set_ne (Ne.symm hki)] at hk
      refine List.mem_cons_of_mem _ (List.mem_filter.mpr ⟨h3 k w hk, ?_⟩)
      have hc1 := h2 (k, w) (h3 k w hk)
      simp only at hc1
      simp [hki, hc1]
theorem zLV.entry {vs : List Value} {n : Nat} (h1 : ∀ v ∈ vs, v.category = 1) (h : vs.length ≤ n) : zLV ((lg_sl vs ++ List.replicate (n - (lg_sl vs).length) Slot.unset).toArray) n (vs.map some) := by
  have e : ∀ (ws : List Value), (∀ v ∈ ws, v.category = 1) → (lg_sl ws).length = ws.length := by
    intro ws
    induction ws with
    | nil => intro _; rfl
    | cons a t ih =>
      intro hw
      have ha := hw a List.mem_cons_self
      have := ih (fun v hv => hw v (List.mem_cons_of_mem _ hv))
      simp only [lg_sl, List.flatMap_cons, ha] at this ⊢
      simp [this]
  have ea : ∀ (ws : List Value) (k : Nat), (∀ v ∈ ws, v.category = 1) → (∀ q ∈ lv_args k ws, q.2.category = 1) ∧ ∀ (j : Nat) (v : Value), ws[j]? = some v → (k + j, v) ∈ lv_args k ws := by
    intro ws
    induction ws with
    | nil => intro k _; exact ⟨fun q hq => by simp [lv_args] at hq, fun j v hj => by simp at hj⟩
    | cons a t ih =>
      intro k hw
      have ha := hw a List.mem_cons_self
      obtain ⟨i1, i2⟩ := ih (k + 1) (fun v hv => hw v (List.mem_cons_of_mem _ hv))
      have hl : lv_args k (a :: t) = (k, a) :: lv_args (k + 1) t := by simp [lv_args, ha]
      rw [hl]
      refine ⟨fun q hq => ?_, fun j v hj => ?_⟩
      · rcases List.mem_cons.mp hq with rfl | hq
        · exact ha
        · exact i1 q hq
      · cases j with
        | zero =>
          simp at hj
          subst hj
          exact List.mem_cons_self
        | succ j =>
          have := i2 j v (by simpa using hj)
          rw [show k + (j + 1) = k + 1 + j by omega]
          exact List.mem_cons_of_mem _ this
  obtain ⟨a1, a2⟩ := ea vs 0 h1
  refine ⟨_, lv_entry vs (by rw [e vs h1]; exact h), a1, fun k v hk => ?_⟩
  rw [List.getElem?_map] at hk
  cases hq : vs[k]? with
  | none => rw [hq] at hk; cases hk
  | some w =>
    rw [hq] at hk
    have hw : w = v := by simpa using hk
    subst hw
    have := a2 k w hq
    rwa [Nat.zero_add] at this
/-! ===== what holds at a place of a method ===== -/
def zD (cc : ByteArray) (pc : Nat) (i : Instr) (n pc' : Nat) : Prop := decode cc pc = .ok (i, n) ∧ pc + n = pc'
theorem zcat_rf (t : Option Nat) : (va_rf t).category = 1 := by cases t <;> rfl
/-! strings: place i of the constants -/
def zSt (G : zG) (U : State) (H : Heap) : Prop := ∀ i : Nat, i < zstr.length → va_O "java/lang/String" (G.2.2.2.1 i) (zA G) U H ∧ va_OF "java/lang/String" "coder" "B" (.int 0) (G.2.2.2.1 i) (zA G) U H ∧ va_OF "java/lang/String" "value" "[B" (.ref (G.2.2.2.2 i)) (G.2.2.2.1 i) (zA G) U H ∧ va_T .byte (G.2.2.2.2 i) (zstr.getD i []).length (fun j => .int (Int32.ofNat ((zstr.getD i []).getD j 0))) (zA G) U H
def zK (G : zG) (U : State) (H : Heap) : Prop :=
  va_K G.1 zcl (ztys G) U ∧ (∀ w ∈ zNW, va_Nw w U) ∧ (va_AO RX3 U ∧ va_AO RX1 U) ∧ zSt G U H ∧ (∀ (i : Nat) (q : String × Nat × String), zsite[i]? = some q → vk_R q.1 q.2.1 q.2.2 (G.2.2.2.1 i) U) ∧ va_Z "java/lang/String" "COMPACT_STRINGS" "Z" (.int 1) (zA G) U H ∧ (∃ t : Option Nat, va_Z "jdk/internal/util/Preconditions" "SIOOBE_FORMATTER" "Ljava/util/function/BiFunction;" (va_rf t) (zA G) U H) ∧ vx_Zq Bundle.tN "UNASSIGNED_STACK" Bundle.steD (zA G) U H ∧ vx_Zq Bundle.tN "SUPPRESSED_SENTINEL" Bundle.listD (zA G) U H
theorem zNW_warm {s U : State} (hW : s.WarmedH U.vm) (h : ∀ w ∈ zNW, va_Nw w s) : ∀ w ∈ zNW, va_Nw w U := by
  intro w hw
  have h1 := h w hw
  simp only [zNW, List.mem_cons, List.not_mem_nil, or_false] at hw
  rcases hw with rfl | rfl | rfl | rfl | rfl | rfl | rfl | rfl | rfl | rfl | rfl | rfl <;> first | exact va_Nw.warmM hW h1 | exact va_Nw.warmC hW h1 | exact va_Nw.warmD hW h1
theorem zK.go {G : zG} {s U : State} {H : Heap} (h : zK G s s.heap) (hk : ∀ q : Nat, q < s.heap.size → ¬ zA G q → H[q]? = s.heap[q]?) (hU : U.heap = H) (hW : s.WarmedH U.vm) : zK G U U.heap := by
  obtain ⟨h1, h2, ⟨h3, h3'⟩, h4, h5, h6, ⟨t, h7⟩, h8, h9⟩ := h
  have hA := hW.alike
  subst hU
  refine ⟨va_K.moved hA h1, zNW_warm hW h2, ⟨va_AO.moved hA h3, va_AO.moved hA h3'⟩, fun i hi => ?_, fun i q hq => vk_R.warm hW (h5 i q hq), (va_Z.moved hA h6).kept hk, ⟨t, (va_Z.moved hA h7).kept hk⟩, (vx_Zq.moved hA h8).kept hk, (vx_Zq.moved hA h9).kept hk⟩
  obtain ⟨a, b, c, d⟩ := h4 i hi
  exact ⟨(va_O.moved hA a).kept hk, (va_OF.moved hA b).kept hk, (va_OF.moved hA c).kept hk, (va_T.moved hA d).kept hk⟩
def zEv (p : Program) (m : MethodId) (c : Code) (cc : ByteArray) (nL : Nat) (s : State) (args : Array Value) (own : String) (meth : Method) (ret : Option FieldType) (G : zG) : Prop :=
  CallFix p m c cc nL s args zTB own ∧ zK G s s.heap ∧ meth.sig.returnType = ret ∧ meth.locks = false
/-- the memory at a heap, and what the method has changed so far -/
def zS (G : zG) (top : Int) (L : zL) (M : zM) (s : State) (H : Heap) (locs : List Loc) : Prop := zRel G top L M H ∧ va_S (zA G) s.heap H locs ∧ (∀ q : Nat, s.heap.size ≤ q → zA G q)
section ZR
variable {p : Program} {l : Launch} {e : Env} {R : Room} {s : State} {m : MethodId} {args : Array Value} {below : List Frame} {meth : Method} {c : Code} {H : Heap} {locs : List Loc} {cells slots : Nat} {Q : State → Prop}
variable {cc : ByteArray} {nL pc pc' : Nat} {ls : Array Slot} {rest : List Value} {own : String} {ret : Option FieldType} {G : zG} {top : Int} {L : zL} {M : zM} {vs : List (Option Value)}
theorem r_iconst (E : zEv p m c cc nL s args own meth ret G) {n : Int} (d : zD cc pc (.iconst n) 1 pc') (k : W p l e R s m args below meth c H locs cells slots Q (F0 m pc' ls (.int (zO n) :: rest))) : W p l e R s m args below meth c H locs cells slots Q (F0 m pc ls rest) := by
  obtain ⟨d, rfl⟩ := d
  exact lv_iconst E.1.1 E.1.2.1 d rfl k
theorem r_bipush (E : zEv p m c cc nL s args own meth ret G) {n : Int} (d : zD cc pc (.bipush n) 2 pc') (hn : (Int8.ofInt n).toInt32 = zO n) (k : W p l e R s m args below meth c H locs cells slots Q (F0 m pc' ls (.int (zO n) :: rest))) : W p l e R s m args below meth c H locs cells slots Q (F0 m pc ls rest) := by
  obtain ⟨d, rfl⟩ := d
  exact lv_bipush E.1.1 E.1.2.1 d hn k
theorem r_sipush (E : zEv p m c cc nL s args own meth ret G) {n : Int} (d : zD cc pc (.sipush n) 3 pc') (hn : (Int16.ofInt n).toInt32 = zO n) (k : W p l e R s m args below meth c H locs cells slots Q (F0 m pc' ls (.int (zO n) :: rest))) : W p l e R s m args below meth c H locs cells slots Q (F0 m pc ls rest) := by
  obtain ⟨d, rfl⟩ := d
  exact lv_sipush E.1.1 E.1.2.1 d hn k
theorem r_ldc (E : zEv p m c cc nL s args own meth ret G) {i : Nat} {n : Int} {v : Int32} (d : zD cc pc (.ldc i) 2 pc') (hw : Cond.constant own i v ∈ zTB) (hn : v = zO n) (k : W p l e R s m args below meth c H locs cells slots Q (F0 m pc' ls (.int (zO n) :: rest))) : W p l e R s m args below meth c H locs cells slots Q (F0 m pc ls rest) := by
  obtain ⟨d, rfl⟩ := d
  subst hn
  exact lv_ldc E.1.1 E.1.2.1 E.1.2.2.2.1 (E.1.2.2.2.2 _ hw) d k
theorem r_ldcw (E : zEv p m c cc nL s args own meth ret G) {i : Nat} {n : Int} {v : Int32} (d : zD cc pc (.ldc_w i) 3 pc') (hw : Cond.constant own i v ∈ zTB) (hn : v = zO n) (k : W p l e R s m args below meth c H locs cells slots Q (F0 m pc' ls (.int (zO n) :: rest))) : W p l e R s m args below meth c H locs cells slots Q (F0 m pc ls rest) := by
  obtain ⟨d, rfl⟩ := d
  subst hn
  exact lv_ldcw E.1.1 E.1.2.1 E.1.2.2.2.1 (E.1.2.2.2.2 _ hw) d k
theorem r_ldcS (E : zEv p m c cc nL s args own meth ret G) {i j : Nat} {tx : String} (d : zD cc pc (.ldc i) 2 pc') (hw : zsite[j]? = some (own, i, tx)) (k : W p l e R s m args below meth c H locs cells slots Q (F0 m pc' ls (.ref (G.2.2.2.1 j) :: rest))) : W p l e R s m args below meth c H locs cells slots Q (F0 m pc ls rest) := by
  obtain ⟨d, rfl⟩ := d
  exact va_ldcS E.1.1 E.1.2.1 E.1.2.2.2.1 (E.2.1.2.2.2.2.1 j _ hw) d k
theorem r_null (E : zEv p m c cc nL s args own meth ret G) (d : zD cc pc .aconst_null 1 pc') (k : W p l e R s m args below meth c H locs cells slots Q (F0 m pc' ls (zR G.2.2.1 0 :: rest))) : W p l e R s m args below meth c H locs cells slots Q (F0 m pc ls rest) := by
  obtain ⟨d, rfl⟩ := d
  exact lv_null E.1.1 E.1.2.1 d k
theorem r_iload_n (E : zEv p m c cc nL s args own meth ret G) {j : Fin 4} {x : Int32} (d : zD cc pc (.iload_n j) 1 pc') (hl : zLV ls nL vs) (hk : vs[(j : Nat)]? = some (some (.int x))) (k : W p l e R s m args below meth c H locs cells slots Q (F0 m pc' ls (.int x :: rest))) : W p l e R s m args below meth c H locs cells slots Q (F0 m pc ls rest) := by
  obtain ⟨d, rfl⟩ := d
  exact lv_iload_n E.1.1 E.1.2.1 d rfl (hl.at hk) k
theorem r_iload (E : zEv p m c cc nL s args own meth ret G) {j : Nat} {x : Int32} (d : zD cc pc (.iload j) 2 pc') (hl : zLV ls nL vs) (hk : vs[j]? = some (some (.int x))) (k : W p l e R s m args below meth c H locs cells slots Q (F0 m pc' ls (.int x :: rest))) : W p l e R s m args below meth c H locs cells slots Q (F0 m pc ls rest) := by
  obtain ⟨d, rfl⟩ := d
  exact lv_iload E.1.1 E.1.2.1 d (hl.at hk) k
theorem r_aload_n (E : zEv p m c cc nL s args own meth ret G) {j : Fin 4} {o : Option Nat} (d : zD cc pc (.aload_n j) 1 pc') (hl : zLV ls nL vs) (hk : vs[(j : Nat)]? = some (some (va_rf o))) (k : W p l e R s m args below meth c H locs cells slots Q (F0 m pc' ls (va_rf o :: rest))) : W p l e R s m args below meth c H locs cells slots Q (F0 m pc ls rest) := by
  obtain ⟨d, rfl⟩ := d
  cases o with
  | none => exact lv_aload_nN E.1.1 E.1.2.1 d rfl (hl.at hk) k
  | some a => exact lv_aload_n E.1.1 E.1.2.1 d rfl (hl.at hk) k
theorem r_aload (E : zEv p m c cc nL s args own meth ret G) {j : Nat} {o : Option Nat} (d : zD cc pc (.aload j) 2 pc') (hl : zLV ls nL vs) (hk : vs[j]? = some (some (va_rf o))) (k : W p l e R s m args below meth c H locs cells slots Q (F0 m pc' ls (va_rf o :: rest))) : W p l e R s m args below meth c H locs cells slots Q (F0 m pc ls rest) := by
  obtain ⟨d, rfl⟩ := d
  cases o with
  | none => exact lv_aloadN E.1.1 E.1.2.1 d (hl.at hk) k
  | some a => exact lv_aload E.1.1 E.1.2.1 d (hl.at hk) k
theorem r_aloadS_n (E : zEv p m c cc nL s args own meth ret G) {j : Fin 4} {o : Nat} (d : zD cc pc (.aload_n j) 1 pc') (hl : zLV ls nL vs) (hk : vs[(j : Nat)]? = some (some (.ref o))) (k : W p l e R s m args below meth c H locs cells slots Q (F0 m pc' ls (.ref o :: rest))) : W p l e R s m args below meth c H locs cells slots Q (F0 m pc ls rest) := by
  obtain ⟨d, rfl⟩ := d
  exact lv_aload_n E.1.1 E.1.2.1 d rfl (hl.at hk) k
theorem r_istore_n (E : zEv p m c cc nL s args own meth ret G) {j : Fin 4} {x : Int32} {vs' : List (Option Value)} (d : zD cc pc (.istore_n j) 1 pc') (hl : zLV ls nL vs) (hn : (j : Nat) < nL) (hv : vs.set j (some (.int x)) = vs') (k : ∀ ls' : Array Slot, zLV ls' nL vs' → W p l e R s m args below meth c H locs cells slots Q (F0 m pc' ls' rest)) : W p l e R s m args below meth c H locs cells slots Q (F0 m pc ls (.int x :: rest)) := by
  obtain ⟨d, rfl⟩ := d
  obtain ⟨q, h1, h2, h3⟩ := hl
  exact lv_istore_n E.1.1 E.1.2.1 d rfl h1 hn rfl fun ls' h => k ls' (hv ▸ zLV.put rfl h2 h3 h)
theorem r_istore (E : zEv p m c cc nL s args own meth ret G) {j : Nat} {x : Int32} {vs' : List (Option Value)} (d : zD cc pc (.istore j) 2 pc') (hl : zLV ls nL vs) (hn : j < nL) (hv : vs.set j (some (.int x)) = vs') (k : ∀ ls' : Array Slot, zLV ls' nL vs' → W p l e R s m args below meth c H locs cells slots Q (F0 m pc' ls' rest)) : W p l e R s m args below meth c H locs cells slots Q (F0 m pc ls (.int x :: rest)) := by
  obtain ⟨d, rfl⟩ := d
  obtain ⟨q, h1, h2, h3⟩ := hl
  exact lv_istore E.1.1 E.1.2.1 d h1 hn rfl fun ls' h => k ls' (hv ▸ zLV.put rfl h2 h3 h)
theorem r_astore_n (E : zEv p m c cc nL s args own meth ret G) {j : Fin 4} {o : Option Nat} {vs' : List (Option Value)} (d : zD cc pc (.astore_n j) 1 pc') (hl : zLV ls nL vs) (hn : (j : Nat) < nL) (hv : vs.set j (some (va_rf o)) = vs') (k : ∀ ls' : Array Slot, zLV ls' nL vs' → W p l e R s m args below meth c H locs cells slots Q (F0 m pc' ls' rest)) : W p l e R s m args below meth c H locs cells slots Q (F0 m pc ls (va_rf o :: rest)) := by
  obtain ⟨d, rfl⟩ := d
  obtain ⟨q, h1, h2, h3⟩ := hl
  cases o with
  | none => exact lv_astore_nN E.1.1 E.1.2.1 d rfl h1 hn rfl fun ls' h => k ls' (hv ▸ zLV.put rfl h2 h3 h)
  | some a => exact lv_astore_n E.1.1 E.1.2.1 d rfl h1 hn rfl fun ls' h => k ls' (hv ▸ zLV.put rfl h2 h3 h)
theorem r_astore (E : zEv p m c cc nL s args own meth ret G) {j : Nat} {o : Option Nat} {vs' : List (Option Value)} (d : zD cc pc (.astore j) 2 pc') (hl : zLV ls nL vs) (hn : j < nL) (hv : vs.set j (some (va_rf o)) = vs') (k : ∀ ls' : Array Slot, zLV ls' nL vs' → W p l e R s m args below meth c H locs cells slots Q (F0 m pc' ls' rest)) : W p l e R s m args below meth c H locs cells slots Q (F0 m pc ls (va_rf o :: rest)) := by
  obtain ⟨d, rfl⟩ := d
  obtain ⟨q, h1, h2, h3⟩ := hl
  cases o with
  | none => exact lv_astoreN E.1.1 E.1.2.1 d h1 hn rfl fun ls' h => k ls' (hv ▸ zLV.put rfl h2 h3 h)
  | some a => exact lv_astore E.1.1 E.1.2.1 d h1 hn rfl fun ls' h => k ls' (hv ▸ zLV.put rfl h2 h3 h)
theorem r_iinc (E : zEv p m c cc nL s args own meth ret G) {j : Nat} {n x : Int} {vs' : List (Option Value)} (d : zD cc pc (.iinc j n) 3 pc') (hl : zLV ls nL vs) (hk : vs[j]? = some (some (.int (zO x)))) (hn : j < nL) (hv : vs.set j (some (.int (zO (w32 (x + n))))) = vs') (k : ∀ ls' : Array Slot, zLV ls' nL vs' → W p l e R s m args below meth c H locs cells slots Q (F0 m pc' ls' rest)) : W p l e R s m args below meth c H locs cells slots Q (F0 m pc ls rest) := by
  obtain ⟨d, rfl⟩ := d
  obtain ⟨q, h1, h2, h3⟩ := hl
  obtain ⟨i, hi⟩ := List.getElem?_of_mem (h3 j _ hk)
  exact lv_iinc E.1.1 E.1.2.1 d h1 hi (zO_add x n) hn rfl fun ls' h => k ls' (hv ▸ zLV.put rfl h2 h3 h)
theorem r_iadd (E : zEv p m c cc nL s args own meth ret G) {x y : Int} (d : zD cc pc .iadd 1 pc') (k : W p l e R s m args below meth c H locs cells slots Q (F0 m pc' ls (.int (zO (w32 (x + y))) :: rest))) : W p l e R s m args below meth c H locs cells slots Q (F0 m pc ls (.int (zO y) :: .int (zO x) :: rest)) := by
  obtain ⟨d, rfl⟩ := d
  refine lv_iadd E.1.1 E.1.2.1 d ?_
  rw [zO_add]
  exact k
theorem r_isub (E : zEv p m c cc nL s args own meth ret G) {x y : Int} (d : zD cc pc .isub 1 pc') (k : W p l e R s m args below meth c H locs cells slots Q (F0 m pc' ls (.int (zO (w32 (x - y))) :: rest))) : W p l e R s m args below meth c H locs cells slots Q (F0 m pc ls (.int (zO y) :: .int (zO x) :: rest)) := by
  obtain ⟨d, rfl⟩ := d
  refine lv_isub E.1.1 E.1.2.1 d ?_
  rw [zO_sub]
  exact k
theorem r_imul (E : zEv p m c cc nL s args own meth ret G) {x y : Int} (d : zD cc pc .imul 1 pc') (k : W p l e R s m args below meth c H locs cells slots Q (F0 m pc' ls (.int (zO (w32 (x * y))) :: rest))) : W p l e R s m args below meth c H locs cells slots Q (F0 m pc ls (.int (zO y) :: .int (zO x) :: rest)) := by
  obtain ⟨d, rfl⟩ := d
  refine lv_imul E.1.1 E.1.2.1 d ?_
  rw [zO_mul]
  exact k
theorem zO_ne0 {y : Int} (h : InR y) (h0 : y ≠ 0) : ¬ zO y = 0 := fun q => h0 ((zO_eq h (by decide : InR 0)).mp (q.trans rfl))
theorem r_idiv (E : zEv p m c cc nL s args own meth ret G) {x y : Int} (hx : InR x) (hy : InR y) (h0 : y ≠ 0) (d : zD cc pc .idiv 1 pc') (k : W p l e R s m args below meth c H locs cells slots Q (F0 m pc' ls (.int (zO (w32 (x.tdiv y))) :: rest))) : W p l e R s m args below meth c H locs cells slots Q (F0 m pc ls (.int (zO y) :: .int (zO x) :: rest)) := by
  obtain ⟨d, rfl⟩ := d
  refine lv_idiv E.1.1 E.1.2.1 d (zO_ne0 hy h0) ?_
  rw [zO_div hx hy h0]
  exact k
theorem r_irem (E : zEv p m c cc nL s args own meth ret G) {x y : Int} (hx : InR x) (hy : InR y) (h0 : y ≠ 0) (d : zD cc pc .irem 1 pc') (k : W p l e R s m args below meth c H locs cells slots Q (F0 m pc' ls (.int (zO (w32 (x.tmod y))) :: rest))) : W p l e R s m args below meth c H locs cells slots Q (F0 m pc ls (.int (zO y) :: .int (zO x) :: rest)) := by
  obtain ⟨d, rfl⟩ := d
  refine lv_irem E.1.1 E.1.2.1 d (zO_ne0 hy h0) ?_
  rw [zO_rem hx hy h0]
  exact k
theorem r_ineg (E : zEv p m c cc nL s args own meth ret G) {x : Int} (d : zD cc pc .ineg 1 pc') (k : W p l e R s m args below meth c H locs cells slots Q (F0 m pc' ls (.int (zO (w32 (-x))) :: rest))) : W p l e R s m args below meth c H locs cells slots Q (F0 m pc ls (.int (zO x) :: rest)) := by
  obtain ⟨d, rfl⟩ := d
  refine lv_ineg E.1.1 E.1.2.1 d ?_
  rw [zO_neg]
  exact k
theorem r_iand (E : zEv p m c cc nL s args own meth ret G) {x y : Int} (d : zD cc pc .iand 1 pc') (k : W p l e R s m args below meth c H locs cells slots Q (F0 m pc' ls (.int (zO (iand x y)) :: rest))) : W p l e R s m args below meth c H locs cells slots Q (F0 m pc ls (.int (zO y) :: .int (zO x) :: rest)) := by
  obtain ⟨d, rfl⟩ := d
  refine lv_iand E.1.1 E.1.2.1 d ?_
  unfold iand at k
  rw [zO_of] at k
  exact k
theorem r_ior (E : zEv p m c cc nL s args own meth ret G) {x y : Int} (d : zD cc pc .ior 1 pc') (k : W p l e R s m args below meth c H locs cells slots Q (F0 m pc' ls (.int (zO (ior x y)) :: rest))) : W p l e R s m args below meth c H locs cells slots Q (F0 m pc ls (.int (zO y) :: .int (zO x) :: rest)) := by
  obtain ⟨d, rfl⟩ := d
  refine lv_ior E.1.1 E.1.2.1 d ?_
  unfold ior at k
  rw [zO_of] at k
  exact k
theorem r_ishl (E : zEv p m c cc nL s args own meth ret G) {x y : Int} (d : zD cc pc .ishl 1 pc') (k : W p l e R s m args below meth c H locs cells slots Q (F0 m pc' ls (.int (zO (ishl x y)) :: rest))) : W p l e R s m args below meth c H locs cells slots Q (F0 m pc ls (.int (zO y) :: .int (zO x) :: rest)) := by
  obtain ⟨d, rfl⟩ := d
  refine lv_ishl E.1.1 E.1.2.1 d ?_
  unfold ishl at k
  rw [zO_of] at k
  exact k
theorem r_ishr (E : zEv p m c cc nL s args own meth ret G) {x y : Int} (d : zD cc pc .ishr 1 pc') (k : W p l e R s m args below meth c H locs cells slots Q (F0 m pc' ls (.int (zO (ishr x y)) :: rest))) : W p l e R s m args below meth c H locs cells slots Q (F0 m pc ls (.int (zO y) :: .int (zO x) :: rest)) := by
  obtain ⟨d, rfl⟩ := d
  refine lv_ishr E.1.1 E.1.2.1 d ?_
  unfold ishr at k
  rw [zO_of] at k
  exact k
theorem r_iushr (E : zEv p m c cc nL s args own meth ret G) {x y : Int} (d : zD cc pc .iushr 1 pc') (k : W p l e R s m args below meth c H locs cells slots Q (F0 m pc' ls (.int (zO (iushr x y)) :: rest))) : W p l e R s m args below meth c H locs cells slots Q (F0 m pc ls (.int (zO y) :: .int (zO x) :: rest)) := by
  obtain ⟨d, rfl⟩ := d
  unfold iushr at k
  rw [zO_of] at k
  exact lv_iushr E.1.1 E.1.2.1 d rfl k
theorem r_dup (E : zEv p m c cc nL s args own meth ret G) {v : Value} (d : zD cc pc .dup 1 pc') (hv : v.category = 1) (k : W p l e R s m args below meth c H locs cells slots Q (F0 m pc' ls (v :: v :: rest))) : W p l e R s m args below meth c H locs cells slots Q (F0 m pc ls (v :: rest)) := by
  obtain ⟨d, rfl⟩ := d
  exact lv_dup E.1.1 E.1.2.1 d hv k
theorem r_dup2 (E : zEv p m c cc nL s args own meth ret G) {v w : Value} (d : zD cc pc .dup2 1 pc') (hv : v.category = 1) (hw : w.category = 1) (k : W p l e R s m args below meth c H locs cells slots Q (F0 m pc' ls (v :: w :: v :: w :: rest))) : W p l e R s m args below meth c H locs cells slots Q (F0 m pc ls (v :: w :: rest)) := by
  obtain ⟨d, rfl⟩ := d
  exact lv_dup2_11 E.1.1 E.1.2.1 d hv hw k
theorem r_pop (E : zEv p m c cc nL s args own meth ret G) {v : Value} (d : zD cc pc .pop 1 pc') (hv : v.category = 1) (k : W p l e R s m args below meth c H locs cells slots Q (F0 m pc' ls rest)) : W p l e R s m args below meth c H locs cells slots Q (F0 m pc ls (v :: rest)) := by
  obtain ⟨d, rfl⟩ := d
  exact lv_pop E.1.1 E.1.2.1 d hv k
theorem r_goto (E : zEv p m c cc nL s args own meth ret G) {off : Int} {tgt : Nat} (d : zD cc pc (.goto off) 3 pc') (ht : (pc : Int) + off = (tgt : Int)) (k : W p l e R s m args below meth c H locs cells slots Q (F0 m tgt ls rest)) : W p l e R s m args below meth c H locs cells slots Q (F0 m pc ls rest) := by
  obtain ⟨d, rfl⟩ := d
  exact lv_goto E.1.1 E.1.2.1 d ht k
theorem r_icmp_eq (E : zEv p m c cc nL s args own meth ret G) {x y off : Int} {tgt : Nat} (hx : InR x) (hy : InR y) (d : zD cc pc (.if_icmp .eq off) 3 pc') (ht : (pc : Int) + off = (tgt : Int)) (kt : x = y → W p l e R s m args below meth c H locs cells slots Q (F0 m tgt ls rest)) (kf : ¬ x = y → W p l e R s m args below meth c H locs cells slots Q (F0 m pc' ls rest)) : W p l e R s m args below meth c H locs cells slots Q (F0 m pc ls (.int (zO y) :: .int (zO x) :: rest)) := by
  obtain ⟨d, rfl⟩ := d
  exact lv_icmp_eq E.1.1 E.1.2.1 d ht (fun q => kt ((zO_eq hx hy).mp q)) (fun q => kf (fun z => q ((zO_eq hx hy).mpr z)))
theorem r_icmp_ne (E : zEv p m c cc nL s args own meth ret G) {x y off : Int} {tgt : Nat} (hx : InR x) (hy : InR y) (d : zD cc pc (.if_icmp .ne off) 3 pc') (ht : (pc : Int) + off = (tgt : Int)) (kt : x = y → W p l e R s m args below meth c H locs cells slots Q (F0 m pc' ls rest)) (kf : ¬ x = y → W p l e R s m args below meth c H locs cells slots Q (F0 m tgt ls rest)) : W p l e R s m args below meth c H locs cells slots Q (F0 m pc ls (.int (zO y) :: .int (zO x) :: rest)) := by
  obtain ⟨d, rfl⟩ := d
  exact lv_icmp_ne E.1.1 E.1.2.1 d ht (fun q => kf (fun z => q ((zO_eq hx hy).mpr z))) (fun q => kt ((zO_eq hx hy).mp q))
theorem r_icmp_lt (E : zEv p m c cc nL s args own meth ret G) {x y off : Int} {tgt : Nat} (hx : InR x) (hy : InR y) (d : zD cc pc (.if_icmp .lt off) 3 pc') (ht : (pc : Int) + off = (tgt : Int)) (kt : x < y → W p l e R s m args below meth c H locs cells slots Q (F0 m tgt ls rest)) (kf : ¬ x < y → W p l e R s m args below meth c H locs cells slots Q (F0 m pc' ls rest)) : W p l e R s m args below meth c H locs cells slots Q (F0 m pc ls (.int (zO y) :: .int (zO x) :: rest)) := by
  obtain ⟨d, rfl⟩ := d
  exact lv_icmp_lt E.1.1 E.1.2.1 d ht (fun q => kt ((zO_lt hx hy).mp q)) (fun q => kf (fun z => q ((zO_lt hx hy).mpr z)))
theorem r_icmp_ge (E : zEv p m c cc nL s args own meth ret G) {x y off : Int} {tgt : Nat} (hx : InR x) (hy : InR y) (d : zD cc pc (.if_icmp .ge off) 3 pc') (ht : (pc : Int) + off = (tgt : Int)) (kt : x < y → W p l e R s m args below meth c H locs cells slots Q (F0 m pc' ls rest)) (kf : ¬ x < y → W p l e R s m args below meth c H locs cells slots Q (F0 m tgt ls rest)) : W p l e R s m args below meth c H locs cells slots Q (F0 m pc ls (.int (zO y) :: .int (zO x) :: rest)) := by
  obtain ⟨d, rfl⟩ := d
  exact lv_icmp_ge E.1.1 E.1.2.1 d ht (fun q => kf (fun z => Int.not_le.mpr z ((zO_le hy hx).mp q))) (fun q => kt (Int.not_le.mp fun z => q ((zO_le hy hx).mpr z)))
theorem r_icmp_gt (E : zEv p m c cc nL s args own meth ret G) {x y off : Int} {tgt : Nat} (hx : InR x) (hy : InR y) (d : zD cc pc (.if_icmp .gt off) 3 pc') (ht : (pc : Int) + off = (tgt : Int)) (kt : y < x → W p l e R s m args below meth c H locs cells slots Q (F0 m tgt ls rest)) (kf : ¬ y < x → W p l e R s m args below meth c H locs cells slots Q (F0 m pc' ls rest)) : W p l e R s m args below meth c H locs cells slots Q (F0 m pc ls (.int (zO y) :: .int (zO x) :: rest)) := by
  obtain ⟨d, rfl⟩ := d
  exact lv_icmp_gt E.1.1 E.1.2.1 d ht (fun q => kt ((zO_lt hy hx).mp q)) (fun q => kf (fun z => q ((zO_lt hy hx).mpr z)))
theorem r_icmp_le (E : zEv p m c cc nL s args own meth ret G) {x y off : Int} {tgt : Nat} (hx : InR x) (hy : InR y) (d : zD cc pc (.if_icmp .le off) 3 pc') (ht : (pc : Int) + off = (tgt : Int)) (kt : y < x → W p l e R s m args below meth c H locs cells slots Q (F0 m pc' ls rest)) (kf : ¬ y < x → W p l e R s m args below meth c H locs cells slots Q (F0 m tgt ls rest)) : W p l e R s m args below meth c H locs cells slots Q (F0 m pc ls (.int (zO y) :: .int (zO x) :: rest)) := by
  obtain ⟨d, rfl⟩ := d
  exact lv_icmp_le E.1.1 E.1.2.1 d ht (fun q => kf (fun z => Int.not_le.mpr z ((zO_le hx hy).mp q))) (fun q => kt (Int.not_le.mp fun z => q ((zO_le hx hy).mpr z)))
theorem r_if_eq (E : zEv p m c cc nL s args own meth ret G) {x off : Int} {tgt : Nat} (hx : InR x) (d : zD cc pc (.ifCond .eq off) 3 pc') (ht : (pc : Int) + off = (tgt : Int)) (kt : x = 0 → W p l e R s m args below meth c H locs cells slots Q (F0 m tgt ls rest)) (kf : ¬ x = 0 → W p l e R s m args below meth c H locs cells slots Q (F0 m pc' ls rest)) : W p l e R s m args below meth c H locs cells slots Q (F0 m pc ls (.int (zO x) :: rest)) := by
  obtain ⟨d, rfl⟩ := d
  have h0 : InR 0 := by decide
  exact lv_if_eq E.1.1 E.1.2.1 d ht (fun q => kt ((zO_eq hx h0).mp q)) (fun q => kf (fun z => q ((zO_eq hx h0).mpr z)))
theorem r_if_ne (E : zEv p m c cc nL s args own meth ret G) {x off : Int} {tgt : Nat} (hx : InR x) (d : zD cc pc (.ifCond .ne off) 3 pc') (ht : (pc : Int) + off = (tgt : Int)) (kt : x = 0 → W p l e R s m args below meth c H locs cells slots Q (F0 m pc' ls rest)) (kf : ¬ x = 0 → W p l e R s m args below meth c H locs cells slots Q (F0 m tgt ls rest)) : W p l e R s m args below meth c H locs cells slots Q (F0 m pc ls (.int (zO x) :: rest)) := by
  obtain ⟨d, rfl⟩ := d
  have h0 : InR 0 := by decide
  exact lv_if_ne E.1.1 E.1.2.1 d ht (fun q => kf (fun z => q ((zO_eq hx h0).mpr z))) (fun q => kt ((zO_eq hx h0).mp q))
theorem r_if_lt (E : zEv p m c cc nL s args own meth ret G) {x off : Int} {tgt : Nat} (hx : InR x) (d : zD cc pc (.ifCond .lt off) 3 pc') (ht : (pc : Int) + off = (tgt : Int)) (kt : x < 0 → W p l e R s m args below meth c H locs cells slots Q (F0 m tgt ls rest)) (kf : ¬ x < 0 → W p l e R s m args below meth c H locs cells slots Q (F0 m pc' ls rest)) : W p l e R s m args below meth c H locs cells slots Q (F0 m pc ls (.int (zO x) :: rest)) := by
  obtain ⟨d, rfl⟩ := d
  have h0 : InR 0 := by decide
  exact lv_if_lt E.1.1 E.1.2.1 d ht (fun q => kt ((zO_lt hx h0).mp q)) (fun q => kf (fun z => q ((zO_lt hx h0).mpr z)))
theorem r_if_ge (E : zEv p m c cc nL s args own meth ret G) {x off : Int} {tgt : Nat} (hx : InR x) (d : zD cc pc (.ifCond .ge off) 3 pc') (ht : (pc : Int) + off = (tgt : Int)) (kt : x < 0 → W p l e R s m args below meth c H locs cells slots Q (F0 m pc' ls rest)) (kf : ¬ x < 0 → W p l e R s m args below meth c H locs cells slots Q (F0 m tgt ls rest)) : W p l e R s m args below meth c H locs cells slots Q (F0 m pc ls (.int (zO x) :: rest)) := by
  obtain ⟨d, rfl⟩ := d
  have h0 : InR 0 := by decide
  exact lv_if_ge E.1.1 E.1.2.1 d ht (fun q => kf (fun z => Int.not_le.mpr z ((zO_le h0 hx).mp q))) (fun q => kt (Int.not_le.mp fun z => q ((zO_le h0 hx).mpr z)))
theorem r_if_gt (E : zEv p m c cc nL s args own meth ret G) {x off : Int} {tgt : Nat} (hx : InR x) (d : zD cc pc (.ifCond .gt off) 3 pc') (ht : (pc : Int) + off = (tgt : Int)) (kt : 0 < x → W p l e R s m args below meth c H locs cells slots Q (F0 m tgt ls rest)) (kf : ¬ 0 < x → W p l e R s m args below meth c H locs cells slots Q (F0 m pc' ls rest)) : W p l e R s m args below meth c H locs cells slots Q (F0 m pc ls (.int (zO x) :: rest)) := by
  obtain ⟨d, rfl⟩ := d
  have h0 : InR 0 := by decide
  exact lv_if_gt E.1.1 E.1.2.1 d ht (fun q => kt ((zO_lt h0 hx).mp q)) (fun q => kf (fun z => q ((zO_lt h0 hx).mpr z)))
theorem r_if_le (E : zEv p m c cc nL s args own meth ret G) {x off : Int} {tgt : Nat} (hx : InR x) (d : zD cc pc (.ifCond .le off) 3 pc') (ht : (pc : Int) + off = (tgt : Int)) (kt : 0 < x → W p l e R s m args below meth c H locs cells slots Q (F0 m pc' ls rest)) (kf : ¬ 0 < x → W p l e R s m args below meth c H locs cells slots Q (F0 m tgt ls rest)) : W p l e R s m args below meth c H locs cells slots Q (F0 m pc ls (.int (zO x) :: rest)) := by
  obtain ⟨d, rfl⟩ := d
  have h0 : InR 0 := by decide
  exact lv_if_le E.1.1 E.1.2.1 d ht (fun q => kf (fun z => Int.not_le.mpr z ((zO_le hx h0).mp q))) (fun q => kt (Int.not_le.mp fun z => q ((zO_le hx h0).mpr z)))
theorem zro_0 {B : Nat} {x : Int} (h : x = 0) : zR B x = .null := by subst h; rfl
theorem zro_ne {B : Nat} {x : Int} (h : ¬ x = 0) : zR B x = .ref (B + x.toNat) := by unfold zR zro; rw [if_neg h]; rfl
theorem r_ifnull (E : zEv p m c cc nL s args own meth ret G) {x off : Int} {tgt : Nat} (d : zD cc pc (.ifnull off) 3 pc') (ht : (pc : Int) + off = (tgt : Int)) (kt : x = 0 → W p l e R s m args below meth c H locs cells slots Q (F0 m tgt ls rest)) (kf : ¬ x = 0 → W p l e R s m args below meth c H locs cells slots Q (F0 m pc' ls rest)) : W p l e R s m args below meth c H locs cells slots Q (F0 m pc ls (zR G.2.2.1 x :: rest)) := by
  obtain ⟨d, rfl⟩ := d
  by_cases h : x = 0
  · rw [zro_0 h]
    exact lv_ifnullN E.1.1 E.1.2.1 d ht (kt h)
  · rw [zro_ne h]
    exact lv_ifnull E.1.1 E.1.2.1 d (kf h)
theorem r_ifnonnull (E : zEv p m c cc nL s args own meth ret G) {x off : Int} {tgt : Nat} (d : zD cc pc (.ifnonnull off) 3 pc') (ht : (pc : Int) + off = (tgt : Int)) (kt : x = 0 → W p l e R s m args below meth c H locs cells slots Q (F0 m pc' ls rest)) (kf : ¬ x = 0 → W p l e R s m args below meth c H locs cells slots Q (F0 m tgt ls rest)) : W p l e R s m args below meth c H locs cells slots Q (F0 m pc ls (zR G.2.2.1 x :: rest)) := by
  obtain ⟨d, rfl⟩ := d
  by_cases h : x = 0
  · rw [zro_0 h]
    exact lv_ifnonnullN E.1.1 E.1.2.1 d (kt h)
  · rw [zro_ne h]
    exact lv_ifnonnull E.1.1 E.1.2.1 d ht (kf h)
/-! memory -/
theorem zce_obj {G : zG} {L : zL} {M : zM} {a : Int} {ci : Nat} (h : (L a).1 = (ci : Int) + 1) (hc : ci < 14) : zce G L M a = .inr (ci, zfs G.2.2.1 (zks ci) (M a)) := by
  unfold zce
  rw [if_neg (by omega), if_neg (by omega), if_neg (by omega), if_neg (by omega), show ((L a).1 - 1).toNat = ci by omega]
theorem zce_int {G : zG} {L : zL} {M : zM} {a : Int} (h : (L a).1 = 101) : zce G L M a = .inl (G.2.1 0, (L a).2.toNat, .inl (fun i => zO (M a (i : Int)))) := by
  unfold zce
  rw [if_pos h]
theorem zce_long {G : zG} {L : zL} {M : zM} {a : Int} (h : (L a).1 = 102) : zce G L M a = .inl (G.2.1 1, (L a).2.toNat, .inr (.inl (fun i => Int64.ofInt (M a (i : Int))))) := by
  unfold zce
  rw [if_neg (by omega), if_pos h]
theorem zce_gift {G : zG} {L : zL} {M : zM} {a : Int} (h : (L a).1 = 103) : zce G L M a = .inl (G.2.1 2, (L a).2.toNat, .inr (.inr (.inr (.inr (fun i => zro G.2.2.1 (M a (i : Int))))))) := by
  unfold zce
  rw [if_neg (by omega), if_neg (by omega), if_pos h]
theorem zce_aff {G : zG} {L : zL} {M : zM} {a : Int} (h : (L a).1 = 104) : zce G L M a = .inl (G.2.1 3, (L a).2.toNat, .inr (.inr (.inr (.inr (fun i => zro G.2.2.1 (M a (i : Int))))))) := by
  unfold zce
  rw [if_neg (by omega), if_neg (by omega), if_neg (by omega), if_pos h]
theorem zcl_lt {ci : Nat} {q : vw_C} (h : zcl[ci]? = some q) : ci < 14 := (List.getElem?_eq_some_iff.mp h).1
theorem r_get (E : zEv p m c cc nL s args own meth ret G) {a ki : Int} {ci k index : Nat} {C : String} {T : u_T} {N : Nat} {ty : Nat → FieldType} (F : zCl ci C T N ty) (S : zS G top L M s H locs) (h : (L a).1 = (ci : Int) + 1) (hk : k < N) (hki : (k : Int) = ki) (hw : Cond.fieldLink own index (T k).1 (T k).2.1 (T k).2.2.1 ∈ zTB) (d : zD cc pc (.getfield index) 3 pc')
    (kk : W p l e R s m args below meth c H locs cells slots Q (F0 m pc' ls (zfv G.2.2.1 ((zks ci).getD k false) (M a ki) :: rest))) : W p l e R s m args below meth c H locs cells slots Q (F0 m pc ls (zR G.2.2.1 a :: rest)) := by
  obtain ⟨d, rfl⟩ := d
  obtain ⟨f1, f2, f3, f4, f5, f6⟩ := F
  subst hki
  rw [zR_some (S.1.tag h (by omega)).1]
  have hat := S.1.at h (by omega)
  rw [zce_obj h (zcl_lt f1)] at hat
  refine va_get (ref := (T k).1) E.1.1 E.1.2.1 E.1.2.2.2.2 f2 E.1.2.2.2.1 E.2.1.1 S.1.1 _ hat f1 k hk (E.1.2.2.2.2 _ hw) (fun x hx => hx) (zfs_at (by rw [f5]; exact hk)) d kk
theorem r_getI (E : zEv p m c cc nL s args own meth ret G) {a ki : Int} {ci k index : Nat} {C : String} {T : u_T} {N : Nat} {ty : Nat → FieldType} (F : zCl ci C T N ty) (S : zS G top L M s H locs) (h : (L a).1 = (ci : Int) + 1) (hk : k < N) (hki : (k : Int) = ki) (hr : (zks ci).getD k false = false) (hw : Cond.fieldLink own index (T k).1 (T k).2.1 (T k).2.2.1 ∈ zTB) (d : zD cc pc (.getfield index) 3 pc')
    (kk : W p l e R s m args below meth c H locs cells slots Q (F0 m pc' ls (.int (zO (M a ki)) :: rest))) : W p l e R s m args below meth c H locs cells slots Q (F0 m pc ls (zR G.2.2.1 a :: rest)) := by
  refine r_get E F S h hk hki hw d ?_
  rw [hr]
  exact kk
theorem r_getR (E : zEv p m c cc nL s args own meth ret G) {a ki : Int} {ci k index : Nat} {C : String} {T : u_T} {N : Nat} {ty : Nat → FieldType} (F : zCl ci C T N ty) (S : zS G top L M s H locs) (h : (L a).1 = (ci : Int) + 1) (hk : k < N) (hki : (k : Int) = ki) (hr : (zks ci).getD k false = true) (hw : Cond.fieldLink own index (T k).1 (T k).2.1 (T k).2.2.1 ∈ zTB) (d : zD cc pc (.getfield index) 3 pc')
    (kk : W p l e R s m args below meth c H locs cells slots Q (F0 m pc' ls (zR G.2.2.1 (M a ki) :: rest))) : W p l e R s m args below meth c H locs cells slots Q (F0 m pc ls (zR G.2.2.1 a :: rest)) := by
  refine r_get E F S h hk hki hw d ?_
  rw [hr]
  exact kk
theorem zRel.upd {H H1 : Heap} {a ki v : Int} (S : zRel G top L M H) (hv : InR v) (hP : va_P G.1 zcl (zws G top L (mu M a ki v)) H1) (hz : H1.size = H.size) : zRel G top L (mu M a ki v) H1 := by
  refine ⟨hP, by rw [hz]; exact S.2.1, S.2.2.1, fun b j => ?_, S.2.2.2.2⟩
  unfold mu
  by_cases h : b = a ∧ j = ki
  · rw [if_pos h]; exact hv
  · rw [if_neg h]; exact S.2.2.2.1 b j
theorem zS.put {H1 : Heap} {locs1 : List Loc} {a ki v : Int} (S : zS G top L M s H locs) (hv : InR v) (hP : va_P G.1 zcl (zws G top L (mu M a ki v)) H1) (hS : va_S (zA G) s.heap H1 locs1) (hz : H1.size = H.size) : zS G top L (mu M a ki v) s H1 locs1 := ⟨S.1.upd hv hP hz, hS, S.2.2⟩
theorem zat_obj {L : zL} {M : zM} {H : Heap} {s : State} {locs : List Loc} {a : Int} {ci : Nat} {C : String} {T : u_T} {N : Nat} {ty : Nat → FieldType} (F : zCl ci C T N ty) (S : zS G top L M s H locs) (h : (L a).1 = (ci : Int) + 1) : t_OB (G.2.2.1 + a.toNat) (G.1.1 ci) N (G.1.2 ci) H (vp_V (zfs G.2.2.1 (zks ci) (M a))) := by
  have hat := S.1.at h (by omega)
  rw [zce_obj h (zcl_lt F.1)] at hat
  obtain ⟨r, h1, h2⟩ := S.1.1 _ _ hat
  cases h1.symm.trans F.1
  exact h2
theorem r_put (E : zEv p m c cc nL s args own meth ret G) {a ki v : Int} {ci k index : Nat} {C : String} {T : u_T} {N : Nat} {ty : Nat → FieldType} (F : zCl ci C T N ty) (S : zS G top L M s H locs) (h : (L a).1 = (ci : Int) + 1) (hk : k < N) (hki : (k : Int) = ki) (hv : InR v) (hfin : (T k).2.2.2 = false ∨ ((T k).2.2.2 = true ∧ meth.name = "<init>" ∧ (T k).1 = own)) {V : Value} (hV : zfv G.2.2.1 ((zks ci).getD k false) v = V) (hn : narrow (ty k) V = V) (hfit : fits (ty k) V = true)
    (hw : Cond.fieldLink own index (T k).1 (T k).2.1 (T k).2.2.1 ∈ zTB) (d : zD cc pc (.putfield index) 3 pc')
    (kk : ∀ (H1 : Heap) (locs1 : List Loc), zS G top L (mu M a ki v) s H1 locs1 → W p l e R s m args below meth c H1 locs1 cells slots Q (F0 m pc' ls rest)) : W p l e R s m args below meth c H locs cells slots Q (F0 m pc ls (V :: zR G.2.2.1 a :: rest)) := by
  obtain ⟨d, rfl⟩ := d
  subst hki
  have hOB := zat_obj F S h
  obtain ⟨t1, t2⟩ := S.1.tag h (by omega)
  have hat := S.1.at h (by omega)
  rw [zce_obj h (zcl_lt F.1)] at hat
  obtain ⟨f1, f2, f3, f4, f5, f6⟩ := F
  obtain ⟨x1, x2, x3, x4, x5⟩ := E.1
  have hap := va_apart (own := own) x5 f2 ty f3 f4 E.2.1.1 f1
  obtain ⟨cell, q1, q2, q3, q4⟩ := hOB
  obtain ⟨hS, hfc, kC, hkC, hkind⟩ := E.2.1.1.1 ci _ f1
  obtain ⟨cf, kf, fi, f, hi, hsl⟩ := hS k hk
  have hlay := x5 _ (f2 _ (u_in_lay hk))
  have hst := (u_facts hfc hkC (u_lays x5 f2 hk) hi).1
  have fin : ∀ (H1 : Heap) (j : Nat), H1[G.2.2.1 + a.toNat]? = some (cell.setSlot (G.1.2 ci k) V) → H1.size = H.size → (∀ q : Nat, q ≠ G.2.2.1 + a.toNat → H1[q]? = H[q]?) → zS G top L (mu M a (k : Int) v) s H1 (locs ++ [⟨G.2.2.1 + a.toNat, j⟩]) := by
    intro H1 j e1 e2 e3
    refine S.put hv ?_ (S.2.1.put e2 e3 (show G.2.2.1 < _ by omega)) e2
    rw [← zws_set (M := M) (E := .inr (ci, (zfs G.2.2.1 (zks ci) (M a)).set k V)) t1 t2 ?_ (fun b hb => mu_ne hb)]
    · exact S.1.1.set (zws_D G top L M) hat ⟨_, f1, t_OB.to (V := updV (vp_V (zfs G.2.2.1 (zks ci) (M a))) k V) ⟨_, e1, q2, q3, t_set q4 hap hk V⟩ (fun j _ => vp_updV_set (by rw [zfs_len, f5]; exact hk) V j)⟩ e3
    · rw [zce_obj h (zcl_lt f1)]
      congr 2
      refine (zfs_set ?_ (fun j hj => mu_oth hj)).symm
      rw [mu_at]
      exact hV
  rw [zR_some t1]
  rcases hfin with hf | ⟨hf, hi2, ho⟩
  · unfold u_lay at hlay
    rw [if_neg (by rw [hf]; decide)] at hlay
    refine W.putK x1 x2 (f := f) ⟨x4, x5 _ hw, ⟨_, _, _, hi⟩, hst⟩ (by rw [q2]; exact u_store hfc hkC hkind hlay hi (f3 k hk) hn hfit) q1 q3 (by rw [hsl]; exact k2_hasslot (q4 k hk)) rfl rfl d fun H1 e1 e2 e3 => ?_
    rw [hsl] at e1 ⊢
    exact kk H1 _ (fin H1 _ e1 e2 e3)
  · unfold u_lay at hlay
    rw [if_pos hf] at hlay
    have hcf : m.cls = cf := by
      obtain ⟨_, _, c', _, _, _, -, -, hf', -, -, -, hown2, -⟩ := Cond.laysFinal_spec hlay
      have e1 : c' = cf := by have := hi.symm.trans hf'; simp at this; exact this.1.symm
      rw [ho] at hown2
      rw [← e1]; exact Option.some.inj (x4.symm.trans hown2)
    refine W.putFinK x1 x2 x4 (x5 _ hw) hi hst hcf hi2 (by rw [q2]; exact u_fits hfc hkC hkind (Or.inr hlay) hi (f3 k hk) hn hfit) q1 q3 (by rw [hsl]; exact k2_hasslot (q4 k hk)) rfl rfl d fun H1 e1 e2 e3 => ?_
    rw [hsl] at e1 ⊢
    exact kk H1 _ (fin H1 _ e1 e2 e3)
theorem zfit_ref {ty : FieldType} (h : refKind ty = true) (B : Nat) (x : Int) : narrow ty (zR B x) = zR B x ∧ fits ty (zR B x) = true := by
  unfold zR zro
  by_cases hx : x = 0
  · rw [if_pos hx]
    cases ty <;> first | (cases h; done) | exact ⟨rfl, rfl⟩
  · rw [if_neg hx]
    cases ty <;> first | (cases h; done) | exact ⟨rfl, rfl⟩
theorem r_putI (E : zEv p m c cc nL s args own meth ret G) {a ki v : Int} {ci k index : Nat} {C : String} {T : u_T} {N : Nat} {ty : Nat → FieldType} (F : zCl ci C T N ty) (S : zS G top L M s H locs) (h : (L a).1 = (ci : Int) + 1) (hk : k < N) (hki : (k : Int) = ki) (hv : InR v) (hfin : (T k).2.2.2 = false ∨ ((T k).2.2.2 = true ∧ meth.name = "<init>" ∧ (T k).1 = own)) (hr : (zks ci).getD k false = false) (hty : ty k = .int)
    (hw : Cond.fieldLink own index (T k).1 (T k).2.1 (T k).2.2.1 ∈ zTB) (d : zD cc pc (.putfield index) 3 pc')
    (kk : ∀ (H1 : Heap) (locs1 : List Loc), zS G top L (mu M a ki v) s H1 locs1 → W p l e R s m args below meth c H1 locs1 cells slots Q (F0 m pc' ls rest)) : W p l e R s m args below meth c H locs cells slots Q (F0 m pc ls (.int (zO v) :: zR G.2.2.1 a :: rest)) :=
  r_put E F S h hk hki hv hfin (by rw [hr]; rfl) (by rw [hty]; rfl) (by rw [hty]; rfl) hw d kk
theorem r_putZ (E : zEv p m c cc nL s args own meth ret G) {a ki v : Int} {ci k index : Nat} {C : String} {T : u_T} {N : Nat} {ty : Nat → FieldType} (F : zCl ci C T N ty) (S : zS G top L M s H locs) (h : (L a).1 = (ci : Int) + 1) (hk : k < N) (hki : (k : Int) = ki) (hv : 0 ≤ v ∧ v ≤ 1) (hfin : (T k).2.2.2 = false ∨ ((T k).2.2.2 = true ∧ meth.name = "<init>" ∧ (T k).1 = own)) (hr : (zks ci).getD k false = false) (hty : ty k = .boolean)
    (hw : Cond.fieldLink own index (T k).1 (T k).2.1 (T k).2.2.1 ∈ zTB) (d : zD cc pc (.putfield index) 3 pc')
    (kk : ∀ (H1 : Heap) (locs1 : List Loc), zS G top L (mu M a ki v) s H1 locs1 → W p l e R s m args below meth c H1 locs1 cells slots Q (F0 m pc' ls rest)) : W p l e R s m args below meth c H locs cells slots Q (F0 m pc ls (.int (zO v) :: zR G.2.2.1 a :: rest)) := by
  have hv01 : v = 0 ∨ v = 1 := by omega
  refine r_put E F S h hk hki (by omega) hfin (by rw [hr]; rfl) ?_ ?_ hw d kk
  · rw [hty]; rcases hv01 with rfl | rfl <;> rfl
  · rw [hty]; rcases hv01 with rfl | rfl <;> rfl
theorem r_putR (E : zEv p m c cc nL s args own meth ret G) {a ki v : Int} {ci k index : Nat} {C : String} {T : u_T} {N : Nat} {ty : Nat → FieldType} (F : zCl ci C T N ty) (S : zS G top L M s H locs) (h : (L a).1 = (ci : Int) + 1) (hk : k < N) (hki : (k : Int) = ki) (hv : InR v) (hfin : (T k).2.2.2 = false ∨ ((T k).2.2.2 = true ∧ meth.name = "<init>" ∧ (T k).1 = own)) (hr : (zks ci).getD k false = true)
    (hw : Cond.fieldLink own index (T k).1 (T k).2.1 (T k).2.2.1 ∈ zTB) (d : zD cc pc (.putfield index) 3 pc')
    (kk : ∀ (H1 : Heap) (locs1 : List Loc), zS G top L (mu M a ki v) s H1 locs1 → W p l e R s m args below meth c H1 locs1 cells slots Q (F0 m pc' ls rest)) : W p l e R s m args below meth c H locs cells slots Q (F0 m pc ls (zR G.2.2.1 v :: zR G.2.2.1 a :: rest)) := by
  have hrk : refKind (ty k) = true := by rw [← F.2.2.2.2.2 k hk]; exact hr
  exact r_put E F S h hk hki hv hfin (by rw [hr]; rfl) (zfit_ref hrk _ _).1 (zfit_ref hrk _ _).2 hw d kk
theorem r_alen (E : zEv p m c cc nL s args own meth ret G) {a t : Int} (S : zS G top L M s H locs) (h : (L a).1 = t) (ht : t = 101 ∨ t = 102 ∨ t = 103 ∨ t = 104) (d : zD cc pc .arraylength 1 pc')
    (kk : W p l e R s m args below meth c H locs cells slots Q (F0 m pc' ls (.int (zO (L a).2) :: rest))) : W p l e R s m args below meth c H locs cells slots Q (F0 m pc ls (zR G.2.2.1 a :: rest)) := by
  obtain ⟨d, rfl⟩ := d
  rw [zR_some (S.1.tag h (by omega)).1]
  have hat := S.1.at h (by omega)
  have h2 := S.1.2.2.2.2.2 a
  have hv : Int32.ofNat (L a).2.toNat = zO (L a).2 := by
    unfold zO
    conv => rhs; rw [← Int.toNat_of_nonneg h2.1]
    rfl
  rcases ht with rfl | rfl | rfl | rfl
  · rw [zce_int h] at hat
    exact va_alen E.1.1 E.1.2.1 E.2.1.1 S.1.1 _ 0 hat rfl hv d kk
  · rw [zce_long h] at hat
    exact va_alen E.1.1 E.1.2.1 E.2.1.1 S.1.1 _ 1 hat rfl hv d kk
  · rw [zce_gift h] at hat
    exact va_alen E.1.1 E.1.2.1 E.2.1.1 S.1.1 _ 2 hat rfl hv d kk
  · rw [zce_aff h] at hat
    exact va_alen E.1.1 E.1.2.1 E.2.1.1 S.1.1 _ 3 hat rfl hv d kk
theorem r_iald (E : zEv p m c cc nL s args own meth ret G) {a i : Int} (S : zS G top L M s H locs) (h : (L a).1 = 101) (hi : 0 ≤ i ∧ i < (L a).2) (d : zD cc pc .iaload 1 pc')
    (kk : W p l e R s m args below meth c H locs cells slots Q (F0 m pc' ls (.int (zO (M a i)) :: rest))) : W p l e R s m args below meth c H locs cells slots Q (F0 m pc ls (.int (zO i) :: zR G.2.2.1 a :: rest)) := by
  obtain ⟨d, rfl⟩ := d
  rw [zR_some (S.1.tag h (by omega)).1]
  have hat := S.1.at h (by omega)
  rw [zce_int h] at hat
  obtain ⟨g1, g2⟩ := zO_idx hi.1 hi.2 (S.1.2.2.2.2.2 a).2
  refine va_iald E.1.1 E.1.2.1 E.2.1.1 S.1.1 _ 0 hat rfl g1 d ?_
  rw [g2, Int.toNat_of_nonneg hi.1]
  exact kk
theorem r_aald (E : zEv p m c cc nL s args own meth ret G) {a i t : Int} (S : zS G top L M s H locs) (h : (L a).1 = t) (ht : t = 103 ∨ t = 104) (hi : 0 ≤ i ∧ i < (L a).2) (d : zD cc pc .aaload 1 pc')
    (kk : W p l e R s m args below meth c H locs cells slots Q (F0 m pc' ls (zR G.2.2.1 (M a i) :: rest))) : W p l e R s m args below meth c H locs cells slots Q (F0 m pc ls (.int (zO i) :: zR G.2.2.1 a :: rest)) := by
  obtain ⟨d, rfl⟩ := d
  rw [zR_some (S.1.tag h (by omega)).1]
  have hat := S.1.at h (by omega)
  obtain ⟨g1, g2⟩ := zO_idx hi.1 hi.2 (S.1.2.2.2.2.2 a).2
  rcases ht with rfl | rfl
  · rw [zce_gift h] at hat
    refine va_aldq E.1.1 E.1.2.1 E.2.1.1 S.1.1 _ 2 hat rfl g1 d ?_
    rw [g2, Int.toNat_of_nonneg hi.1]
    exact kk
  · rw [zce_aff h] at hat
    refine va_aldq E.1.1 E.1.2.1 E.2.1.1 S.1.1 _ 3 hat rfl g1 d ?_
    rw [g2, Int.toNat_of_nonneg hi.1]
    exact kk
theorem zS.store {a i v : Int} {V : Value} {f f' : Nat → Value} {cA : ClassId} {n : Nat} {x : vp_A} {cell : Cell} (S : zS G top L M s H locs) (hv : InR v) (t1 : 0 < a) (t2 : a < top) (hi : 0 ≤ i) (hx : zce G L M a = .inl (cA, x)) {x' : vp_A} (hx' : zce G L (mu M a i v) a = .inl (cA, x')) {H1 : Heap} {j : Nat} (hc : H1[G.2.2.1 + a.toNat]? = some (vp_cell cA x')) (z : H1.size = H.size) (oq : ∀ q : Nat, q ≠ G.2.2.1 + a.toNat → H1[q]? = H[q]?) : zS G top L (mu M a i v) s H1 (locs ++ [⟨G.2.2.1 + a.toNat, j⟩]) := by
  refine S.put hv ?_ (S.2.1.put z oq (show G.2.2.1 < _ by omega)) z
  rw [← zws_set (M := M) t1 t2 hx' (fun b hb => mu_ne hb)]
  exact S.1.1.set (zws_D G top L M) (zws_at t1 t2) hc oq
theorem r_iast (E : zEv p m c cc nL s args own meth ret G) {a i v : Int} (S : zS G top L M s H locs) (h : (L a).1 = 101) (hi : 0 ≤ i ∧ i < (L a).2) (hv : InR v) (d : zD cc pc .iastore 1 pc')
    (kk : ∀ (H1 : Heap) (locs1 : List Loc), zS G top L (mu M a i v) s H1 locs1 → W p l e R s m args below meth c H1 locs1 cells slots Q (F0 m pc' ls rest)) : W p l e R s m args below meth c H locs cells slots Q (F0 m pc ls (.int (zO v) :: .int (zO i) :: zR G.2.2.1 a :: rest)) := by
  obtain ⟨d, rfl⟩ := d
  obtain ⟨t1, t2⟩ := S.1.tag h (by omega)
  rw [zR_some t1]
  have hat := S.1.1 _ _ (S.1.at h (by omega))
  rw [zce_int h] at hat
  obtain ⟨g1, g2⟩ := zO_idx hi.1 hi.2 (S.1.2.2.2.2.2 a).2
  refine W.iast E.1.1 E.1.2.1 hat ((E.2.1.1.2 0 _ rfl).1 _ _) (fun q => by cases q) (by show ¬ (_ ∨ (arrV _ _ _).slots.size ≤ _); rw [arrV_size]; exact g1) rfl rfl d fun H1 e z oq => ?_
  refine kk H1 _ (zS.store (f := fun _ => .null) (f' := fun _ => .null) (V := .null) (n := 0) (cell := arrV 0 0 (fun _ => .null)) S hv t1 t2 hi.1 (zce_int h) (zce_int h) ?_ z oq)
  rw [e, vp_cell_i, vp_cell_i, arrV_store, g2]
  congr 2
  funext q
  by_cases hq : q = i.toNat
  · subst hq
    unfold updV mu
    rw [if_pos rfl, if_pos ⟨rfl, Int.toNat_of_nonneg hi.1⟩]
  · unfold updV mu
    rw [if_neg hq, if_neg (fun z => hq (by omega))]
theorem r_last (E : zEv p m c cc nL s args own meth ret G) {a i v : Int} (S : zS G top L M s H locs) (h : (L a).1 = 102) (hi : 0 ≤ i ∧ i < (L a).2) (hv : InR v) (d : zD cc pc .lastore 1 pc')
    (kk : ∀ (H1 : Heap) (locs1 : List Loc), zS G top L (mu M a i v) s H1 locs1 → W p l e R s m args below meth c H1 locs1 cells slots Q (F0 m pc' ls rest)) : W p l e R s m args below meth c H locs cells slots Q (F0 m pc ls (.long (Int64.ofInt v) :: .int (zO i) :: zR G.2.2.1 a :: rest)) := by
  obtain ⟨d, rfl⟩ := d
  obtain ⟨t1, t2⟩ := S.1.tag h (by omega)
  rw [zR_some t1]
  have hat := S.1.1 _ _ (S.1.at h (by omega))
  rw [zce_long h] at hat
  obtain ⟨g1, g2⟩ := zO_idx hi.1 hi.2 (S.1.2.2.2.2.2 a).2
  refine W.last E.1.1 E.1.2.1 hat ((E.2.1.1.2 1 _ rfl).1 _ _) (fun q => by cases q) (by show ¬ (_ ∨ (arrV _ _ _).slots.size ≤ _); rw [arrV_size]; exact g1) rfl rfl d fun H1 e z oq => ?_
  refine kk H1 _ (zS.store (f := fun _ => .null) (f' := fun _ => .null) (V := .null) (n := 0) (cell := arrV 0 0 (fun _ => .null)) S hv t1 t2 hi.1 (zce_long h) (zce_long h) ?_ z oq)
  rw [e, vp_cell_l, vp_cell_l, arrV_store, g2]
  congr 2
  funext q
  by_cases hq : q = i.toNat
  · subst hq
    unfold updV mu
    rw [if_pos rfl, if_pos ⟨rfl, Int.toNat_of_nonneg hi.1⟩]
  · unfold updV mu
    rw [if_neg hq, if_neg (fun z => hq (by omega))]
theorem r_aast (E : zEv p m c cc nL s args own meth ret G) {a i v t : Int} {ci : Nat} (S : zS G top L M s H locs) (h : (L a).1 = t) (ht : (t = 103 ∧ ci = 3) ∨ (t = 104 ∧ ci = 1)) (hvt : (L v).1 = (ci : Int) + 1) (hi : 0 ≤ i ∧ i < (L a).2) (d : zD cc pc .aastore 1 pc')
    (kk : ∀ (H1 : Heap) (locs1 : List Loc), zS G top L (mu M a i v) s H1 locs1 → W p l e R s m args below meth c H1 locs1 cells slots Q (F0 m pc' ls rest)) : W p l e R s m args below meth c H locs cells slots Q (F0 m pc ls (zR G.2.2.1 v :: .int (zO i) :: zR G.2.2.1 a :: rest)) := by
  obtain ⟨d, rfl⟩ := d
  obtain ⟨t1, t2⟩ := S.1.tag h (by omega)
  obtain ⟨v1, v2⟩ := S.1.tag hvt (by omega)
  have hv : InR v := S.1.refR hvt (by omega)
  rw [zR_some t1, zR_some v1]
  have hat := S.1.1 _ _ (S.1.at h (by omega))
  obtain ⟨g1, g2⟩ := zO_idx hi.1 hi.2 (S.1.2.2.2.2.2 a).2
  have go : ∀ (cA : ClassId) (tk : Nat) (C : String) (q : vw_C) (hx : ∀ M' : zM, zce G L M' a = .inl (cA, (L a).2.toNat, .inr (.inr (.inr (.inr (fun i => zro G.2.2.1 (M' a (i : Int)))))))) (hty : (ztys G)[tk]? = some (cA, .object C)) (hcl : zcl[ci]? = some q) (hq1 : q.1 = C), W p l e R s m args below meth c H locs cells slots Q (F0 m pc ls (.ref (G.2.2.1 + v.toNat) :: .int (zO i) :: .ref (G.2.2.1 + a.toNat) :: rest)) := by
    intro cA tk C q hx hty hcl hq1
    rw [hx M] at hat
    have hvat := S.1.at hvt (by omega)
    rw [zce_obj hvt (zcl_lt hcl)] at hvat
    obtain ⟨r', hr', cellV, w1, w2, w3, -⟩ := S.1.1 _ _ hvat
    have hcls := (E.2.1.1.1 ci q hcl).2
    obtain ⟨kA, comp, k1, k2, k3, -⟩ := (E.2.1.1.2 tk _ hty).2
    rw [hq1] at hcls
    have hcomp : comp = G.1.1 ci := Option.some.inj (k3.symm.trans hcls.1)
    subst hcomp
    obtain ⟨kC, hkC, -⟩ := hcls.2
    refine W.aast E.1.1 E.1.2.1 hat (fun q h => by cases h) (fun h => by cases h) k1 k2 rfl hkC ⟨fun z => g1 (Or.inl z), by show _ < (arrV _ _ _).slots.size; rw [arrV_size]; exact Nat.not_le.mp fun z => g1 (Or.inr z)⟩ w1 (fun q h => by rw [w3] at h; cases h) (by rw [w2]; exact hkC) (by rw [w2]; exact va_assign hcls) rfl rfl d fun H1 e z oq => ?_
    refine kk H1 _ (zS.store (f := fun _ => .null) (f' := fun _ => .null) (V := .null) (n := 0) (cell := arrV 0 0 (fun _ => .null)) S hv t1 t2 hi.1 (hx M) (hx _) ?_ z oq)
    rw [e, vp_cell_q, vp_cell_q, arrV_store, g2]
    congr 2
    funext q
    by_cases hq : q = i.toNat
    · subst hq
      unfold updV mu
      rw [if_pos rfl, if_pos ⟨rfl, Int.toNat_of_nonneg hi.1⟩]
      exact (zR_some v1).symm
    · unfold updV mu
      rw [if_neg hq, if_neg (fun z => hq (by omega))]
  rcases ht with ⟨rfl, rfl⟩ | ⟨rfl, rfl⟩
  · exact go _ 2 _ _ (fun M' => zce_gift h) rfl rfl rfl
  · exact go _ 3 _ _ (fun M' => zce_aff h) rfl rfl rfl
end ZR
