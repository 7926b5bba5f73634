/-! ===== from the entry: what is left is the pure theorem ===== -/
theorem whole_of {p : Program} {e : Env} {s : State} {m : MethodId} {below : List Frame} {meth : Method} {c : Code} (l : Launch) (hflags : l.flags = flags0) {b L : Nat} {xs : Nat → Int32} (hL : L ≤ 3072) (C0 : lw_At p s m meth c b L xs) {fu : Nat} (hfu : Lw_law fu (zX xs) (L : Int) = some 1) : W p l e room_1 s m #[Value.ref b] below meth c s.heap [] 0 0 (lw_Z below #[Value.ref b] s) (entryFrame m ([Value.ref b] : List Value).toArray 7) := by
  obtain ⟨hx, hb, hr, hml, hown, hts, hX, hbl, hlk, hgn⟩ := C0
  have hn : ∀ w ∈ flatC narrow_1, w.before #[Value.ref b] s = true := fun w hw => flat_of_before _ hgn w (List.mem_append_right _ hw)
  obtain ⟨G, hB, hK⟩ := zstart_K hts hn zNW_ot (by omega)
  have hlf : l.stackTraces = false := by
    first
      | (unfold Launch.stackTraces; rw [hflags]; rfl)
      | (rw [← Launch.flags_stackTraces, hflags]; rfl)
      | exact congrArg (fun f => f.stackTraces) hflags
  have E : zEv p m c code 7 s #[Value.ref b] "LaterLivesLaw" meth ret G := ⟨⟨hx, hb, hml, hown, fun w hw => hts w (List.mem_filter.mp hw).1⟩, hK, hr, hlk⟩
  have S : zS G 1 lE mE s s.heap [] := by
    refine ⟨⟨fun k q hk => ?_, by show s.heap.size = G.2.2.1 + 1; omega, ⟨by decide, by decide⟩, fun a i => (show InR (0 : Int) by decide), fun a ha => absurd rfl ha, fun a => (show (0 : Int) ≤ 0 ∧ (0 : Int) < 2147483648 by decide)⟩, va_S.rf, fun q hq => by show G.2.2.1 < q; omega⟩
    have h := (zws_get hk).1
    exact absurd h (Nat.not_lt_zero _)
  rw [lg_entry_eq]
  exact Lw_law_w E hX hbl hB hL hlf S ((zLV.entry (vs := [.ref b]) (by simp [zcat_S]) (Nat.le_of_ble_eq_true rfl)).sub (And.intro rfl True.intro)) hfu
