/-! ===== rows in the form in which they are used ===== -/
def zDL (cc : ByteArray) (l : List (Nat × Instr × Nat × Nat)) : Prop := ∀ q ∈ l, decode cc q.1 = .ok (q.2.1, q.2.2.1) ∧ q.1 + q.2.2.1 = q.2.2.2
def zDLb (cc : ByteArray) (l : List (Nat × Instr × Nat × Nat)) : Bool := l.all fun q => match decode cc q.1 with
  | .ok r => decide (r.1 = q.2.1) && decide (r.2 = q.2.2.1) && decide (q.1 + q.2.2.1 = q.2.2.2)
  | .error _ => false
theorem zDL.of {cc : ByteArray} {l : List (Nat × Instr × Nat × Nat)} (h : zDLb cc l = true) : zDL cc l := by
  intro q hq
  have h1 := List.all_eq_true.mp h q hq
  cases hd : decode cc q.1 with
  | error x => simp [hd] at h1
  | ok r =>
    simp only [hd, Bool.and_eq_true, decide_eq_true_eq] at h1
    exact ⟨by rw [← h1.1.1, ← h1.1.2], h1.2⟩
theorem zDL.at {cc : ByteArray} {l : List (Nat × Instr × Nat × Nat)} (h : zDL cc l) (k : Nat) {pc n pc' : Nat} {i : Instr} (hk : l[k]? = some (pc, i, n, pc')) : zD cc pc i n pc' := by
  have h1 := h (pc, i, n, pc') (List.mem_of_getElem? hk)
  exact And.intro h1.1 h1.2
theorem zrm_ok {d' d mL mc ms MC MS : Nat} (h : d' + 1 ≤ d) (hm : mL ≤ 40) : ((zrm d' mc ms).cells = mc ∧ (zrm d' mc ms).slots = ms) ∧ (zrm d' mc ms).frames + 1 ≤ (zrm d MC MS).frames ∧ 8 + (mL + 11) + (zrm d' mc ms).locals ≤ (zrm d MC MS).locals := by
  refine ⟨⟨rfl, rfl⟩, h, ?_⟩
  show 8 + (mL + 11) + 64 * d' ≤ 64 * d
  omega
abbrev zFI (ci k : Nat) (tg ki : Int) (C : String) (T : u_T) (N : Nat) (ty : Nat → FieldType) : Prop := zCl ci C T N ty ∧ k < N ∧ (k : Int) = ki ∧ (ci : Int) + 1 = tg ∧ (zks ci).getD k false = false
abbrev zFR (ci k : Nat) (tg ki : Int) (C : String) (T : u_T) (N : Nat) (ty : Nat → FieldType) : Prop := zCl ci C T N ty ∧ k < N ∧ (k : Int) = ki ∧ (ci : Int) + 1 = tg ∧ (zks ci).getD k false = true
theorem inR_iand (x y : Int) : InR (iand x y) := inR_of _
theorem inR_ior (x y : Int) : InR (ior x y) := inR_of _
theorem inR_ishl (x y : Int) : InR (ishl x y) := inR_of _
theorem inR_ishr (x y : Int) : InR (ishr x y) := inR_of _
theorem inR_iushr (x y : Int) : InR (iushr x y) := inR_of _
theorem inR_01 {x : Int} (h : 0 ≤ x ∧ x ≤ 1) : InR x := by omega
theorem z01_0 : (0 : Int) ≤ 0 ∧ (0 : Int) ≤ 1 := by decide
theorem z01_1 : (0 : Int) ≤ 1 ∧ (1 : Int) ≤ 1 := by decide
theorem zf_0_0 : zFR 0 0 1 0 RX0 TX0 3 tyX0 := ⟨zck_0, by decide, rfl, rfl, rfl⟩
theorem zf_0_1 : zFI 0 1 1 1 RX0 TX0 3 tyX0 := ⟨zck_0, by decide, rfl, rfl, rfl⟩
theorem zf_0_2 : zFI 0 2 1 2 RX0 TX0 3 tyX0 := ⟨zck_0, by decide, rfl, rfl, rfl⟩
theorem zf_1_0 : zFR 1 0 2 0 RX1 TX1 5 tyX1 := ⟨zck_1, by decide, rfl, rfl, rfl⟩
theorem zf_1_1 : zFR 1 1 2 1 RX1 TX1 5 tyX1 := ⟨zck_1, by decide, rfl, rfl, rfl⟩
theorem zf_1_2 : zFI 1 2 2 2 RX1 TX1 5 tyX1 := ⟨zck_1, by decide, rfl, rfl, rfl⟩
theorem zf_1_3 : zFI 1 3 2 3 RX1 TX1 5 tyX1 := ⟨zck_1, by decide, rfl, rfl, rfl⟩
theorem zf_1_4 : zFI 1 4 2 4 RX1 TX1 5 tyX1 := ⟨zck_1, by decide, rfl, rfl, rfl⟩
theorem zf_2_0 : zFR 2 0 3 0 RX2 TX2 5 tyX2 := ⟨zck_2, by decide, rfl, rfl, rfl⟩
theorem zf_2_1 : zFR 2 1 3 1 RX2 TX2 5 tyX2 := ⟨zck_2, by decide, rfl, rfl, rfl⟩
theorem zf_2_2 : zFR 2 2 3 2 RX2 TX2 5 tyX2 := ⟨zck_2, by decide, rfl, rfl, rfl⟩
theorem zf_2_3 : zFR 2 3 3 3 RX2 TX2 5 tyX2 := ⟨zck_2, by decide, rfl, rfl, rfl⟩
theorem zf_2_4 : zFI 2 4 3 4 RX2 TX2 5 tyX2 := ⟨zck_2, by decide, rfl, rfl, rfl⟩
theorem zf_3_0 : zFI 3 0 4 0 RX3 TX3 11 tyX3 := ⟨zck_3, by decide, rfl, rfl, rfl⟩
theorem zf_3_1 : zFI 3 1 4 1 RX3 TX3 11 tyX3 := ⟨zck_3, by decide, rfl, rfl, rfl⟩
theorem zf_3_2 : zFI 3 2 4 2 RX3 TX3 11 tyX3 := ⟨zck_3, by decide, rfl, rfl, rfl⟩
theorem zf_3_3 : zFI 3 3 4 3 RX3 TX3 11 tyX3 := ⟨zck_3, by decide, rfl, rfl, rfl⟩
theorem zf_3_4 : zFI 3 4 4 4 RX3 TX3 11 tyX3 := ⟨zck_3, by decide, rfl, rfl, rfl⟩
theorem zf_3_5 : zFR 3 5 4 5 RX3 TX3 11 tyX3 := ⟨zck_3, by decide, rfl, rfl, rfl⟩
theorem zf_3_6 : zFR 3 6 4 6 RX3 TX3 11 tyX3 := ⟨zck_3, by decide, rfl, rfl, rfl⟩
theorem zf_3_7 : zFR 3 7 4 7 RX3 TX3 11 tyX3 := ⟨zck_3, by decide, rfl, rfl, rfl⟩
theorem zf_3_8 : zFR 3 8 4 8 RX3 TX3 11 tyX3 := ⟨zck_3, by decide, rfl, rfl, rfl⟩
theorem zf_3_9 : zFR 3 9 4 9 RX3 TX3 11 tyX3 := ⟨zck_3, by decide, rfl, rfl, rfl⟩
theorem zf_3_10 : zFR 3 10 4 10 RX3 TX3 11 tyX3 := ⟨zck_3, by decide, rfl, rfl, rfl⟩
theorem zf_4_0 : zFR 4 0 5 0 RX4 TX4 13 tyX4 := ⟨zck_4, by decide, rfl, rfl, rfl⟩
theorem zf_4_1 : zFR 4 1 5 1 RX4 TX4 13 tyX4 := ⟨zck_4, by decide, rfl, rfl, rfl⟩
theorem zf_4_2 : zFR 4 2 5 2 RX4 TX4 13 tyX4 := ⟨zck_4, by decide, rfl, rfl, rfl⟩
theorem zf_4_3 : zFR 4 3 5 3 RX4 TX4 13 tyX4 := ⟨zck_4, by decide, rfl, rfl, rfl⟩
theorem zf_4_4 : zFR 4 4 5 4 RX4 TX4 13 tyX4 := ⟨zck_4, by decide, rfl, rfl, rfl⟩
theorem zf_4_5 : zFR 4 5 5 5 RX4 TX4 13 tyX4 := ⟨zck_4, by decide, rfl, rfl, rfl⟩
theorem zf_4_6 : zFR 4 6 5 6 RX4 TX4 13 tyX4 := ⟨zck_4, by decide, rfl, rfl, rfl⟩
theorem zf_4_7 : zFI 4 7 5 7 RX4 TX4 13 tyX4 := ⟨zck_4, by decide, rfl, rfl, rfl⟩
theorem zf_4_8 : zFI 4 8 5 8 RX4 TX4 13 tyX4 := ⟨zck_4, by decide, rfl, rfl, rfl⟩
theorem zf_4_9 : zFI 4 9 5 9 RX4 TX4 13 tyX4 := ⟨zck_4, by decide, rfl, rfl, rfl⟩
theorem zf_4_10 : zFI 4 10 5 10 RX4 TX4 13 tyX4 := ⟨zck_4, by decide, rfl, rfl, rfl⟩
theorem zf_4_11 : zFI 4 11 5 11 RX4 TX4 13 tyX4 := ⟨zck_4, by decide, rfl, rfl, rfl⟩
theorem zf_4_12 : zFI 4 12 5 12 RX4 TX4 13 tyX4 := ⟨zck_4, by decide, rfl, rfl, rfl⟩
theorem zf_5_0 : zFR 5 0 6 0 RX5 TX5 7 tyX5 := ⟨zck_5, by decide, rfl, rfl, rfl⟩
theorem zf_5_1 : zFR 5 1 6 1 RX5 TX5 7 tyX5 := ⟨zck_5, by decide, rfl, rfl, rfl⟩
theorem zf_5_2 : zFR 5 2 6 2 RX5 TX5 7 tyX5 := ⟨zck_5, by decide, rfl, rfl, rfl⟩
theorem zf_5_3 : zFR 5 3 6 3 RX5 TX5 7 tyX5 := ⟨zck_5, by decide, rfl, rfl, rfl⟩
theorem zf_5_4 : zFR 5 4 6 4 RX5 TX5 7 tyX5 := ⟨zck_5, by decide, rfl, rfl, rfl⟩
theorem zf_5_5 : zFR 5 5 6 5 RX5 TX5 7 tyX5 := ⟨zck_5, by decide, rfl, rfl, rfl⟩
theorem zf_5_6 : zFI 5 6 6 6 RX5 TX5 7 tyX5 := ⟨zck_5, by decide, rfl, rfl, rfl⟩
theorem zf_6_0 : zFR 6 0 7 0 RX6 TX6 5 tyX6 := ⟨zck_6, by decide, rfl, rfl, rfl⟩
theorem zf_6_1 : zFR 6 1 7 1 RX6 TX6 5 tyX6 := ⟨zck_6, by decide, rfl, rfl, rfl⟩
theorem zf_6_2 : zFR 6 2 7 2 RX6 TX6 5 tyX6 := ⟨zck_6, by decide, rfl, rfl, rfl⟩
theorem zf_6_3 : zFI 6 3 7 3 RX6 TX6 5 tyX6 := ⟨zck_6, by decide, rfl, rfl, rfl⟩
theorem zf_6_4 : zFI 6 4 7 4 RX6 TX6 5 tyX6 := ⟨zck_6, by decide, rfl, rfl, rfl⟩
theorem zf_7_0 : zFR 7 0 8 0 RX7 TX7 8 tyX7 := ⟨zck_7, by decide, rfl, rfl, rfl⟩
theorem zf_7_1 : zFR 7 1 8 1 RX7 TX7 8 tyX7 := ⟨zck_7, by decide, rfl, rfl, rfl⟩
theorem zf_7_2 : zFI 7 2 8 2 RX7 TX7 8 tyX7 := ⟨zck_7, by decide, rfl, rfl, rfl⟩
theorem zf_7_3 : zFI 7 3 8 3 RX7 TX7 8 tyX7 := ⟨zck_7, by decide, rfl, rfl, rfl⟩
theorem zf_7_4 : zFI 7 4 8 4 RX7 TX7 8 tyX7 := ⟨zck_7, by decide, rfl, rfl, rfl⟩
theorem zf_7_5 : zFI 7 5 8 5 RX7 TX7 8 tyX7 := ⟨zck_7, by decide, rfl, rfl, rfl⟩
theorem zf_7_6 : zFI 7 6 8 6 RX7 TX7 8 tyX7 := ⟨zck_7, by decide, rfl, rfl, rfl⟩
theorem zf_7_7 : zFI 7 7 8 7 RX7 TX7 8 tyX7 := ⟨zck_7, by decide, rfl, rfl, rfl⟩
theorem zf_8_0 : zFR 8 0 9 0 RX8 TX8 12 tyX8 := ⟨zck_8, by decide, rfl, rfl, rfl⟩
theorem zf_8_1 : zFR 8 1 9 1 RX8 TX8 12 tyX8 := ⟨zck_8, by decide, rfl, rfl, rfl⟩
theorem zf_8_2 : zFR 8 2 9 2 RX8 TX8 12 tyX8 := ⟨zck_8, by decide, rfl, rfl, rfl⟩
theorem zf_8_3 : zFR 8 3 9 3 RX8 TX8 12 tyX8 := ⟨zck_8, by decide, rfl, rfl, rfl⟩
theorem zf_8_4 : zFR 8 4 9 4 RX8 TX8 12 tyX8 := ⟨zck_8, by decide, rfl, rfl, rfl⟩
theorem zf_8_5 : zFI 8 5 9 5 RX8 TX8 12 tyX8 := ⟨zck_8, by decide, rfl, rfl, rfl⟩
theorem zf_8_6 : zFI 8 6 9 6 RX8 TX8 12 tyX8 := ⟨zck_8, by decide, rfl, rfl, rfl⟩
theorem zf_8_7 : zFI 8 7 9 7 RX8 TX8 12 tyX8 := ⟨zck_8, by decide, rfl, rfl, rfl⟩
theorem zf_8_8 : zFI 8 8 9 8 RX8 TX8 12 tyX8 := ⟨zck_8, by decide, rfl, rfl, rfl⟩
theorem zf_8_9 : zFI 8 9 9 9 RX8 TX8 12 tyX8 := ⟨zck_8, by decide, rfl, rfl, rfl⟩
theorem zf_8_10 : zFI 8 10 9 10 RX8 TX8 12 tyX8 := ⟨zck_8, by decide, rfl, rfl, rfl⟩
theorem zf_8_11 : zFI 8 11 9 11 RX8 TX8 12 tyX8 := ⟨zck_8, by decide, rfl, rfl, rfl⟩
theorem zf_9_0 : zFR 9 0 10 0 RX9 TX9 8 tyX9 := ⟨zck_9, by decide, rfl, rfl, rfl⟩
theorem zf_9_1 : zFR 9 1 10 1 RX9 TX9 8 tyX9 := ⟨zck_9, by decide, rfl, rfl, rfl⟩
theorem zf_9_2 : zFI 9 2 10 2 RX9 TX9 8 tyX9 := ⟨zck_9, by decide, rfl, rfl, rfl⟩
theorem zf_9_3 : zFI 9 3 10 3 RX9 TX9 8 tyX9 := ⟨zck_9, by decide, rfl, rfl, rfl⟩
theorem zf_9_4 : zFI 9 4 10 4 RX9 TX9 8 tyX9 := ⟨zck_9, by decide, rfl, rfl, rfl⟩
theorem zf_9_5 : zFI 9 5 10 5 RX9 TX9 8 tyX9 := ⟨zck_9, by decide, rfl, rfl, rfl⟩
theorem zf_9_6 : zFI 9 6 10 6 RX9 TX9 8 tyX9 := ⟨zck_9, by decide, rfl, rfl, rfl⟩
theorem zf_9_7 : zFI 9 7 10 7 RX9 TX9 8 tyX9 := ⟨zck_9, by decide, rfl, rfl, rfl⟩
theorem zf_10_0 : zFR 10 0 11 0 RX10 TX10 6 tyX10 := ⟨zck_10, by decide, rfl, rfl, rfl⟩
theorem zf_10_1 : zFR 10 1 11 1 RX10 TX10 6 tyX10 := ⟨zck_10, by decide, rfl, rfl, rfl⟩
theorem zf_10_2 : zFR 10 2 11 2 RX10 TX10 6 tyX10 := ⟨zck_10, by decide, rfl, rfl, rfl⟩
theorem zf_10_3 : zFI 10 3 11 3 RX10 TX10 6 tyX10 := ⟨zck_10, by decide, rfl, rfl, rfl⟩
theorem zf_10_4 : zFI 10 4 11 4 RX10 TX10 6 tyX10 := ⟨zck_10, by decide, rfl, rfl, rfl⟩
theorem zf_10_5 : zFI 10 5 11 5 RX10 TX10 6 tyX10 := ⟨zck_10, by decide, rfl, rfl, rfl⟩
theorem zf_11_0 : zFR 11 0 12 0 RX11 TX11 15 tyX11 := ⟨zck_11, by decide, rfl, rfl, rfl⟩
theorem zf_11_1 : zFR 11 1 12 1 RX11 TX11 15 tyX11 := ⟨zck_11, by decide, rfl, rfl, rfl⟩
theorem zf_11_2 : zFR 11 2 12 2 RX11 TX11 15 tyX11 := ⟨zck_11, by decide, rfl, rfl, rfl⟩
theorem zf_11_3 : zFR 11 3 12 3 RX11 TX11 15 tyX11 := ⟨zck_11, by decide, rfl, rfl, rfl⟩
theorem zf_11_4 : zFR 11 4 12 4 RX11 TX11 15 tyX11 := ⟨zck_11, by decide, rfl, rfl, rfl⟩
theorem zf_11_5 : zFR 11 5 12 5 RX11 TX11 15 tyX11 := ⟨zck_11, by decide, rfl, rfl, rfl⟩
theorem zf_11_6 : zFR 11 6 12 6 RX11 TX11 15 tyX11 := ⟨zck_11, by decide, rfl, rfl, rfl⟩
theorem zf_11_7 : zFR 11 7 12 7 RX11 TX11 15 tyX11 := ⟨zck_11, by decide, rfl, rfl, rfl⟩
theorem zf_11_8 : zFR 11 8 12 8 RX11 TX11 15 tyX11 := ⟨zck_11, by decide, rfl, rfl, rfl⟩
theorem zf_11_9 : zFR 11 9 12 9 RX11 TX11 15 tyX11 := ⟨zck_11, by decide, rfl, rfl, rfl⟩
theorem zf_11_10 : zFR 11 10 12 10 RX11 TX11 15 tyX11 := ⟨zck_11, by decide, rfl, rfl, rfl⟩
theorem zf_11_11 : zFI 11 11 12 11 RX11 TX11 15 tyX11 := ⟨zck_11, by decide, rfl, rfl, rfl⟩
theorem zf_11_12 : zFI 11 12 12 12 RX11 TX11 15 tyX11 := ⟨zck_11, by decide, rfl, rfl, rfl⟩
theorem zf_11_13 : zFI 11 13 12 13 RX11 TX11 15 tyX11 := ⟨zck_11, by decide, rfl, rfl, rfl⟩
theorem zf_11_14 : zFI 11 14 12 14 RX11 TX11 15 tyX11 := ⟨zck_11, by decide, rfl, rfl, rfl⟩
theorem zf_12_0 : zFI 12 0 13 0 RX12 TX12 50 tyX12 := ⟨zck_12, by decide, rfl, rfl, rfl⟩
theorem zf_12_1 : zFR 12 1 13 1 RX12 TX12 50 tyX12 := ⟨zck_12, by decide, rfl, rfl, rfl⟩
theorem zf_12_2 : zFI 12 2 13 2 RX12 TX12 50 tyX12 := ⟨zck_12, by decide, rfl, rfl, rfl⟩
theorem zf_12_3 : zFI 12 3 13 3 RX12 TX12 50 tyX12 := ⟨zck_12, by decide, rfl, rfl, rfl⟩
theorem zf_12_4 : zFI 12 4 13 4 RX12 TX12 50 tyX12 := ⟨zck_12, by decide, rfl, rfl, rfl⟩
theorem zf_12_5 : zFI 12 5 13 5 RX12 TX12 50 tyX12 := ⟨zck_12, by decide, rfl, rfl, rfl⟩
theorem zf_12_6 : zFI 12 6 13 6 RX12 TX12 50 tyX12 := ⟨zck_12, by decide, rfl, rfl, rfl⟩
theorem zf_12_7 : zFI 12 7 13 7 RX12 TX12 50 tyX12 := ⟨zck_12, by decide, rfl, rfl, rfl⟩
theorem zf_12_8 : zFR 12 8 13 8 RX12 TX12 50 tyX12 := ⟨zck_12, by decide, rfl, rfl, rfl⟩
theorem zf_12_9 : zFR 12 9 13 9 RX12 TX12 50 tyX12 := ⟨zck_12, by decide, rfl, rfl, rfl⟩
theorem zf_12_10 : zFR 12 10 13 10 RX12 TX12 50 tyX12 := ⟨zck_12, by decide, rfl, rfl, rfl⟩
theorem zf_12_11 : zFI 12 11 13 11 RX12 TX12 50 tyX12 := ⟨zck_12, by decide, rfl, rfl, rfl⟩
theorem zf_12_12 : zFR 12 12 13 12 RX12 TX12 50 tyX12 := ⟨zck_12, by decide, rfl, rfl, rfl⟩
theorem zf_12_13 : zFI 12 13 13 13 RX12 TX12 50 tyX12 := ⟨zck_12, by decide, rfl, rfl, rfl⟩
theorem zf_12_14 : zFR 12 14 13 14 RX12 TX12 50 tyX12 := ⟨zck_12, by decide, rfl, rfl, rfl⟩
theorem zf_12_15 : zFR 12 15 13 15 RX12 TX12 50 tyX12 := ⟨zck_12, by decide, rfl, rfl, rfl⟩
theorem zf_12_16 : zFI 12 16 13 16 RX12 TX12 50 tyX12 := ⟨zck_12, by decide, rfl, rfl, rfl⟩
theorem zf_12_17 : zFI 12 17 13 17 RX12 TX12 50 tyX12 := ⟨zck_12, by decide, rfl, rfl, rfl⟩
theorem zf_12_18 : zFR 12 18 13 18 RX12 TX12 50 tyX12 := ⟨zck_12, by decide, rfl, rfl, rfl⟩
theorem zf_12_19 : zFI 12 19 13 19 RX12 TX12 50 tyX12 := ⟨zck_12, by decide, rfl, rfl, rfl⟩
theorem zf_12_20 : zFI 12 20 13 20 RX12 TX12 50 tyX12 := ⟨zck_12, by decide, rfl, rfl, rfl⟩
theorem zf_12_21 : zFR 12 21 13 21 RX12 TX12 50 tyX12 := ⟨zck_12, by decide, rfl, rfl, rfl⟩
theorem zf_12_22 : zFR 12 22 13 22 RX12 TX12 50 tyX12 := ⟨zck_12, by decide, rfl, rfl, rfl⟩
theorem zf_12_23 : zFR 12 23 13 23 RX12 TX12 50 tyX12 := ⟨zck_12, by decide, rfl, rfl, rfl⟩
theorem zf_12_24 : zFR 12 24 13 24 RX12 TX12 50 tyX12 := ⟨zck_12, by decide, rfl, rfl, rfl⟩
theorem zf_12_25 : zFI 12 25 13 25 RX12 TX12 50 tyX12 := ⟨zck_12, by decide, rfl, rfl, rfl⟩
theorem zf_12_26 : zFR 12 26 13 26 RX12 TX12 50 tyX12 := ⟨zck_12, by decide, rfl, rfl, rfl⟩
theorem zf_12_27 : zFI 12 27 13 27 RX12 TX12 50 tyX12 := ⟨zck_12, by decide, rfl, rfl, rfl⟩
theorem zf_12_28 : zFI 12 28 13 28 RX12 TX12 50 tyX12 := ⟨zck_12, by decide, rfl, rfl, rfl⟩
theorem zf_12_29 : zFI 12 29 13 29 RX12 TX12 50 tyX12 := ⟨zck_12, by decide, rfl, rfl, rfl⟩
theorem zf_12_30 : zFI 12 30 13 30 RX12 TX12 50 tyX12 := ⟨zck_12, by decide, rfl, rfl, rfl⟩
theorem zf_12_31 : zFI 12 31 13 31 RX12 TX12 50 tyX12 := ⟨zck_12, by decide, rfl, rfl, rfl⟩
theorem zf_12_32 : zFI 12 32 13 32 RX12 TX12 50 tyX12 := ⟨zck_12, by decide, rfl, rfl, rfl⟩
theorem zf_12_33 : zFR 12 33 13 33 RX12 TX12 50 tyX12 := ⟨zck_12, by decide, rfl, rfl, rfl⟩
theorem zf_12_34 : zFI 12 34 13 34 RX12 TX12 50 tyX12 := ⟨zck_12, by decide, rfl, rfl, rfl⟩
theorem zf_12_35 : zFI 12 35 13 35 RX12 TX12 50 tyX12 := ⟨zck_12, by decide, rfl, rfl, rfl⟩
theorem zf_12_36 : zFI 12 36 13 36 RX12 TX12 50 tyX12 := ⟨zck_12, by decide, rfl, rfl, rfl⟩
theorem zf_12_37 : zFR 12 37 13 37 RX12 TX12 50 tyX12 := ⟨zck_12, by decide, rfl, rfl, rfl⟩
theorem zf_12_38 : zFI 12 38 13 38 RX12 TX12 50 tyX12 := ⟨zck_12, by decide, rfl, rfl, rfl⟩
theorem zf_12_39 : zFI 12 39 13 39 RX12 TX12 50 tyX12 := ⟨zck_12, by decide, rfl, rfl, rfl⟩
theorem zf_12_40 : zFI 12 40 13 40 RX12 TX12 50 tyX12 := ⟨zck_12, by decide, rfl, rfl, rfl⟩
theorem zf_12_41 : zFI 12 41 13 41 RX12 TX12 50 tyX12 := ⟨zck_12, by decide, rfl, rfl, rfl⟩
theorem zf_12_42 : zFI 12 42 13 42 RX12 TX12 50 tyX12 := ⟨zck_12, by decide, rfl, rfl, rfl⟩
theorem zf_12_43 : zFI 12 43 13 43 RX12 TX12 50 tyX12 := ⟨zck_12, by decide, rfl, rfl, rfl⟩
theorem zf_12_44 : zFI 12 44 13 44 RX12 TX12 50 tyX12 := ⟨zck_12, by decide, rfl, rfl, rfl⟩
theorem zf_12_45 : zFI 12 45 13 45 RX12 TX12 50 tyX12 := ⟨zck_12, by decide, rfl, rfl, rfl⟩
theorem zf_12_46 : zFI 12 46 13 46 RX12 TX12 50 tyX12 := ⟨zck_12, by decide, rfl, rfl, rfl⟩
theorem zf_12_47 : zFR 12 47 13 47 RX12 TX12 50 tyX12 := ⟨zck_12, by decide, rfl, rfl, rfl⟩
theorem zf_12_48 : zFR 12 48 13 48 RX12 TX12 50 tyX12 := ⟨zck_12, by decide, rfl, rfl, rfl⟩
theorem zf_12_49 : zFI 12 49 13 49 RX12 TX12 50 tyX12 := ⟨zck_12, by decide, rfl, rfl, rfl⟩
section ZU
variable {p : Program} {l : Launch} {e : Env} {R : Room} {s : State} {m : MethodId} {args : Array Value} {below : List Frame} {meth : Method} {c : Code} {H : Heap} {locs : List Loc} {cells slots : Nat} {Q : State → Prop}
variable {cc : ByteArray} {nL pc pc' : Nat} {ls : Array Slot} {rest : List Value} {own : String} {ret : Option FieldType} {G : zG} {top : Int} {L : zL} {M : zM} {vs : List (Option Value)} {P : Prop}
theorem u_al_n (E : zEv p m c cc nL s args own meth ret G) {j : Fin 4} {x : Int} (d : zD cc pc (.aload_n j) 1 pc') (hl : zLV ls nL vs) (hk : vs[(j : Nat)]? = some (some (zR G.2.2.1 x))) (k : W p l e R s m args below meth c H locs cells slots Q (F0 m pc' ls (zR G.2.2.1 x :: rest))) : W p l e R s m args below meth c H locs cells slots Q (F0 m pc ls rest) := r_aload_n E d hl hk k
theorem u_al (E : zEv p m c cc nL s args own meth ret G) {j : Nat} {x : Int} (d : zD cc pc (.aload j) 2 pc') (hl : zLV ls nL vs) (hk : vs[j]? = some (some (zR G.2.2.1 x))) (k : W p l e R s m args below meth c H locs cells slots Q (F0 m pc' ls (zR G.2.2.1 x :: rest))) : W p l e R s m args below meth c H locs cells slots Q (F0 m pc ls rest) := r_aload E d hl hk k
theorem u_il_n (E : zEv p m c cc nL s args own meth ret G) {j : Fin 4} {x : Int} (d : zD cc pc (.iload_n j) 1 pc') (hl : zLV ls nL vs) (hk : vs[(j : Nat)]? = some (some (.int (zO x)))) (k : W p l e R s m args below meth c H locs cells slots Q (F0 m pc' ls (.int (zO x) :: rest))) : W p l e R s m args below meth c H locs cells slots Q (F0 m pc ls rest) := r_iload_n E d hl hk k
theorem u_il (E : zEv p m c cc nL s args own meth ret G) {j : Nat} {x : Int} (d : zD cc pc (.iload j) 2 pc') (hl : zLV ls nL vs) (hk : vs[j]? = some (some (.int (zO x)))) (k : W p l e R s m args below meth c H locs cells slots Q (F0 m pc' ls (.int (zO x) :: rest))) : W p l e R s m args below meth c H locs cells slots Q (F0 m pc ls rest) := r_iload E d hl hk k
theorem u_ist_n (E : zEv p m c cc nL s args own meth ret G) {j : Fin 4} {x y : Int} {vs' : List (Option Value)} (ex : y = x) (d : zD cc pc (.istore_n j) 1 pc') (hl : zLV ls nL vs) (hn : (j : Nat) < nL) (hv : vs.set j (some (.int (zO y))) = vs') (k : ∀ ls' : Array Slot, zLV ls' nL vs' → W p l e R s m args below meth c H locs cells slots Q (F0 m pc' ls' rest)) : W p l e R s m args below meth c H locs cells slots Q (F0 m pc ls (.int (zO x) :: rest)) := by
  subst ex
  exact r_istore_n E d hl hn hv k
theorem u_ist (E : zEv p m c cc nL s args own meth ret G) {j : Nat} {x y : Int} {vs' : List (Option Value)} (ex : y = x) (d : zD cc pc (.istore j) 2 pc') (hl : zLV ls nL vs) (hn : j < nL) (hv : vs.set j (some (.int (zO y))) = vs') (k : ∀ ls' : Array Slot, zLV ls' nL vs' → W p l e R s m args below meth c H locs cells slots Q (F0 m pc' ls' rest)) : W p l e R s m args below meth c H locs cells slots Q (F0 m pc ls (.int (zO x) :: rest)) := by
  subst ex
  exact r_istore E d hl hn hv k
theorem u_ast_n (E : zEv p m c cc nL s args own meth ret G) {j : Fin 4} {x y : Int} {vs' : List (Option Value)} (ex : y = x) (d : zD cc pc (.astore_n j) 1 pc') (hl : zLV ls nL vs) (hn : (j : Nat) < nL) (hv : vs.set j (some (zR G.2.2.1 y)) = vs') (k : ∀ ls' : Array Slot, zLV ls' nL vs' → W p l e R s m args below meth c H locs cells slots Q (F0 m pc' ls' rest)) : W p l e R s m args below meth c H locs cells slots Q (F0 m pc ls (zR G.2.2.1 x :: rest)) := by
  subst ex
  exact r_astore_n E d hl hn hv k
theorem u_ast (E : zEv p m c cc nL s args own meth ret G) {j : Nat} {x y : Int} {vs' : List (Option Value)} (ex : y = x) (d : zD cc pc (.astore j) 2 pc') (hl : zLV ls nL vs) (hn : j < nL) (hv : vs.set j (some (zR G.2.2.1 y)) = vs') (k : ∀ ls' : Array Slot, zLV ls' nL vs' → W p l e R s m args below meth c H locs cells slots Q (F0 m pc' ls' rest)) : W p l e R s m args below meth c H locs cells slots Q (F0 m pc ls (zR G.2.2.1 x :: rest)) := by
  subst ex
  exact r_astore E d hl hn hv k
theorem u_iinc (E : zEv p m c cc nL s args own meth ret G) {j : Nat} {n x y : Int} {vs' : List (Option Value)} (ex : y = w32 (x + n)) (d : zD cc pc (.iinc j n) 3 pc') (hl : zLV ls nL vs) (hk : vs[j]? = some (some (.int (zO x)))) (hn : j < nL) (hv : vs.set j (some (.int (zO y))) = vs') (k : ∀ ls' : Array Slot, zLV ls' nL vs' → W p l e R s m args below meth c H locs cells slots Q (F0 m pc' ls' rest)) : W p l e R s m args below meth c H locs cells slots Q (F0 m pc ls rest) := by
  subst ex
  exact r_iinc E d hl hk hn hv k
theorem u_gI (E : zEv p m c cc nL s args own meth ret G) {a tg ki : Int} {ci k index : Nat} {C : String} {T : u_T} {N : Nat} {ty : Nat → FieldType} (F : zFI ci k tg ki C T N ty) (S : zS G top L M s H locs) (h : (L a).1 = tg) (hw : Cond.fieldLink own index (T k).1 (T k).2.1 (T k).2.2.1 ∈ zTB) (d : zD cc pc (.getfield index) 3 pc')
    (kk : W p l e R s m args below meth c H locs cells slots Q (F0 m pc' ls (.int (zO (M a ki)) :: rest))) : W p l e R s m args below meth c H locs cells slots Q (F0 m pc ls (zR G.2.2.1 a :: rest)) := r_getI E F.1 S (h.trans F.2.2.2.1.symm) F.2.1 F.2.2.1 F.2.2.2.2 hw d kk
theorem u_gR (E : zEv p m c cc nL s args own meth ret G) {a tg ki : Int} {ci k index : Nat} {C : String} {T : u_T} {N : Nat} {ty : Nat → FieldType} (F : zFR ci k tg ki C T N ty) (S : zS G top L M s H locs) (h : (L a).1 = tg) (hw : Cond.fieldLink own index (T k).1 (T k).2.1 (T k).2.2.1 ∈ zTB) (d : zD cc pc (.getfield index) 3 pc')
    (kk : W p l e R s m args below meth c H locs cells slots Q (F0 m pc' ls (zR G.2.2.1 (M a ki) :: rest))) : W p l e R s m args below meth c H locs cells slots Q (F0 m pc ls (zR G.2.2.1 a :: rest)) := r_getR E F.1 S (h.trans F.2.2.2.1.symm) F.2.1 F.2.2.1 F.2.2.2.2 hw d kk
theorem u_pI (E : zEv p m c cc nL s args own meth ret G) {a tg ki v : Int} {ci k index : Nat} {C : String} {T : u_T} {N : Nat} {ty : Nat → FieldType} {M1 : zM} (eM : M1 = mu M a ki v) (F : zFI ci k tg ki C T N ty) (S : zS G top L M s H locs) (h : (L a).1 = tg) (hv : InR v) (hfin : (T k).2.2.2 = false ∨ ((T k).2.2.2 = true ∧ meth.name = "<init>" ∧ (T k).1 = own)) (hty : ty k = .int) (hw : Cond.fieldLink own index (T k).1 (T k).2.1 (T k).2.2.1 ∈ zTB) (d : zD cc pc (.putfield index) 3 pc')
    (kk : ∀ (H1 : Heap) (locs1 : List Loc), zS G top L M1 s H1 locs1 → W p l e R s m args below meth c H1 locs1 cells slots Q (F0 m pc' ls rest)) : W p l e R s m args below meth c H locs cells slots Q (F0 m pc ls (.int (zO v) :: zR G.2.2.1 a :: rest)) := by
  subst eM
  exact r_putI E F.1 S (h.trans F.2.2.2.1.symm) F.2.1 F.2.2.1 hv hfin F.2.2.2.2 hty hw d kk
theorem u_pZ (E : zEv p m c cc nL s args own meth ret G) {a tg ki v : Int} {ci k index : Nat} {C : String} {T : u_T} {N : Nat} {ty : Nat → FieldType} {M1 : zM} (eM : M1 = mu M a ki v) (F : zFI ci k tg ki C T N ty) (S : zS G top L M s H locs) (h : (L a).1 = tg) (hv : 0 ≤ v ∧ v ≤ 1) (hfin : (T k).2.2.2 = false ∨ ((T k).2.2.2 = true ∧ meth.name = "<init>" ∧ (T k).1 = own)) (hty : ty k = .boolean) (hw : Cond.fieldLink own index (T k).1 (T k).2.1 (T k).2.2.1 ∈ zTB) (d : zD cc pc (.putfield index) 3 pc')
    (kk : ∀ (H1 : Heap) (locs1 : List Loc), zS G top L M1 s H1 locs1 → W p l e R s m args below meth c H1 locs1 cells slots Q (F0 m pc' ls rest)) : W p l e R s m args below meth c H locs cells slots Q (F0 m pc ls (.int (zO v) :: zR G.2.2.1 a :: rest)) := by
  subst eM
  exact r_putZ E F.1 S (h.trans F.2.2.2.1.symm) F.2.1 F.2.2.1 hv hfin F.2.2.2.2 hty hw d kk
theorem u_pR (E : zEv p m c cc nL s args own meth ret G) {a tg ki v : Int} {ci k index : Nat} {C : String} {T : u_T} {N : Nat} {ty : Nat → FieldType} {M1 : zM} (eM : M1 = mu M a ki v) (F : zFR ci k tg ki C T N ty) (S : zS G top L M s H locs) (h : (L a).1 = tg) (hv : InR v) (hfin : (T k).2.2.2 = false ∨ ((T k).2.2.2 = true ∧ meth.name = "<init>" ∧ (T k).1 = own)) (hw : Cond.fieldLink own index (T k).1 (T k).2.1 (T k).2.2.1 ∈ zTB) (d : zD cc pc (.putfield index) 3 pc')
    (kk : ∀ (H1 : Heap) (locs1 : List Loc), zS G top L M1 s H1 locs1 → W p l e R s m args below meth c H1 locs1 cells slots Q (F0 m pc' ls rest)) : W p l e R s m args below meth c H locs cells slots Q (F0 m pc ls (zR G.2.2.1 v :: zR G.2.2.1 a :: rest)) := by
  subst eM
  exact r_putR E F.1 S (h.trans F.2.2.2.1.symm) F.2.1 F.2.2.1 hv hfin F.2.2.2.2 hw d kk
theorem u_iast (E : zEv p m c cc nL s args own meth ret G) {a i v : Int} {M1 : zM} (eM : M1 = mu M a i v) (S : zS G top L M s H locs) (h : (L a).1 = 101) (hi : 0 ≤ i ∧ i < (L a).2) (hv : InR v) (d : zD cc pc .iastore 1 pc')
    (kk : ∀ (H1 : Heap) (locs1 : List Loc), zS G top L M1 s H1 locs1 → W p l e R s m args below meth c H1 locs1 cells slots Q (F0 m pc' ls rest)) : W p l e R s m args below meth c H locs cells slots Q (F0 m pc ls (.int (zO v) :: .int (zO i) :: zR G.2.2.1 a :: rest)) := by
  subst eM
  exact r_iast E S h hi hv d kk
theorem u_last (E : zEv p m c cc nL s args own meth ret G) {a i v : Int} {M1 : zM} (eM : M1 = mu M a i v) (S : zS G top L M s H locs) (h : (L a).1 = 102) (hi : 0 ≤ i ∧ i < (L a).2) (hv : InR v) (d : zD cc pc .lastore 1 pc')
    (kk : ∀ (H1 : Heap) (locs1 : List Loc), zS G top L M1 s H1 locs1 → W p l e R s m args below meth c H1 locs1 cells slots Q (F0 m pc' ls rest)) : W p l e R s m args below meth c H locs cells slots Q (F0 m pc ls (.long (Int64.ofInt v) :: .int (zO i) :: zR G.2.2.1 a :: rest)) := by
  subst eM
  exact r_last E S h hi hv d kk
theorem u_aastG (E : zEv p m c cc nL s args own meth ret G) {a i v : Int} {M1 : zM} (eM : M1 = mu M a i v) (S : zS G top L M s H locs) (h : (L a).1 = 103) (hvt : (L v).1 = 4) (hi : 0 ≤ i ∧ i < (L a).2) (d : zD cc pc .aastore 1 pc')
    (kk : ∀ (H1 : Heap) (locs1 : List Loc), zS G top L M1 s H1 locs1 → W p l e R s m args below meth c H1 locs1 cells slots Q (F0 m pc' ls rest)) : W p l e R s m args below meth c H locs cells slots Q (F0 m pc ls (zR G.2.2.1 v :: .int (zO i) :: zR G.2.2.1 a :: rest)) := by
  subst eM
  exact r_aast (ci := 3) E S h (Or.inl ⟨rfl, rfl⟩) hvt hi d kk
theorem u_aastA (E : zEv p m c cc nL s args own meth ret G) {a i v : Int} {M1 : zM} (eM : M1 = mu M a i v) (S : zS G top L M s H locs) (h : (L a).1 = 104) (hvt : (L v).1 = 2) (hi : 0 ≤ i ∧ i < (L a).2) (d : zD cc pc .aastore 1 pc')
    (kk : ∀ (H1 : Heap) (locs1 : List Loc), zS G top L M1 s H1 locs1 → W p l e R s m args below meth c H1 locs1 cells slots Q (F0 m pc' ls rest)) : W p l e R s m args below meth c H locs cells slots Q (F0 m pc ls (zR G.2.2.1 v :: .int (zO i) :: zR G.2.2.1 a :: rest)) := by
  subst eM
  exact r_aast (ci := 1) E S h (Or.inr ⟨rfl, rfl⟩) hvt hi d kk
theorem zcat_le {r : List Value} (h : (r.map fun v => v.category).sum = r.length) (hl : r.length ≤ 8) : (r.map fun v => v.category).sum ≤ 8 := by omega
end ZU
