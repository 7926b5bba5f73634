/-! ===== the start: all that the rows need ===== -/
theorem zstart_K {args : Array Value} {s : State} (ht : ∀ w ∈ lw_tbl, w.before args s = true) (hn : ∀ w ∈ flatC narrow_1, w.before args s = true) (hot : ∀ w ∈ zNW, w.onTables = true) (hz : 0 < s.heap.size) : ∃ G : zG, G.2.2.1 + 1 = s.heap.size ∧ zK G s s.heap := by
  obtain ⟨D, hD⟩ := zstart_D ht
  obtain ⟨c0, k0, r0⟩ := zstart_arr (ty := .int) (Or.inl rfl) (ht _ zac_I)
  obtain ⟨c1, k1, r1⟩ := zstart_arr (ty := .long) (Or.inr rfl) (ht _ zac_J)
  obtain ⟨c2, k2, r2⟩ := zstart_arrQ (C := RX3) (ht _ zao_G)
  obtain ⟨c3, k3, r3⟩ := zstart_arrQ (C := RX1) (ht _ zao_A)
  have hA : ∀ a : Nat, a < s.heap.size → ¬ (fun q : Nat => s.heap.size - 1 < q) a := fun a h => by show ¬ s.heap.size - 1 < a; omega
  obtain ⟨ad, had⟩ := zstart_str (A := fun q => s.heap.size - 1 < q) hn hA
  refine ⟨((fun c => (D c).1, fun c => (D c).2), (fun k => match k with | 0 => c0 | 1 => c1 | 2 => c2 | _ => c3), s.heap.size - 1, fun i => (ad i).1, fun i => (ad i).2), by show s.heap.size - 1 + 1 = _; omega, ⟨hD, fun k q hk => ?_⟩, fun w hw => va_Nw.of (hot w hw) (ht w (zNW_tbl w hw)), ⟨va_AO.of (ht _ zao_G), va_AO.of (ht _ zao_A)⟩, fun i hi => (had i hi).2, fun i q hq => ?_, ?_, ?_, ?_, ?_⟩
  · match k, hk with
    | 0, hk => cases hk; exact ⟨k0, r0⟩
    | 1, hk => cases hk; exact ⟨k1, r1⟩
    | 2, hk => cases hk; exact ⟨k2, r2⟩
    | 3, hk => cases hk; exact ⟨k3, r3⟩
    | (k + 4), hk => exact absurd (List.getElem?_eq_some_iff.mp hk).1 (by show ¬ (k + 4 < 4); omega)
  · have hi : i < 41 := (List.getElem?_eq_some_iff.mp hq).1
    have e : zsq i = q := by
      unfold zsq
      rw [List.getD_eq_getElem?_getD, hq]
      rfl
    have h1 := (had i hi).1
    rw [e] at h1
    exact vk_R.of (ht _ (zsr_mem i q hq)) h1
  · exact va_Zof (ht _ zls_cs) (ht _ zin_cs) (va_eqt (hn _ (by decide +kernel))) hA
  · rcases va_Zqof (ht _ zls_si) (ht _ zin_si) (hn _ (by decide +kernel)) hA with h | ⟨t, h⟩
    · exact ⟨none, h⟩
    · exact ⟨some t, h⟩
  · exact vx_Zqof (ht _ zls_us) (ht _ zin_us) (hn _ (by decide +kernel)) hA
  · exact vx_Zqof (ht _ zls_ss) (ht _ zin_us) (hn _ (by decide +kernel)) hA
