/-! ===== pure: part 95: ways, lowered ===== -/
section
variable {fu : Nat} {L : zL} {M : zM} {top : Int} {g ga st pt tl wh li e : Int}
/-- one step of wayEnd over a sign that ends no way -/
theorem y_we1 {N : zM} {S : Int → Int} {c e : Int} (l4 : L 154 = (13, 0)) (l62 : L 162 = (101, 2597)) (p18 : N 154 18 = 162) (hc : 0 ≤ c ∧ c + e ≤ 2597) {i n l k v : Int} (hN : N 162 (c + i) = S i) (hS : S i = 10000 * n + 100 * l + k) (hn : 0 ≤ n ∧ n ≤ 99) (hl : 0 ≤ l ∧ l < 100) (hk : 0 ≤ k ∧ k < 10) (i0 : 0 ≤ i) (i1 : i < e) (hv : 0 ≤ v ∧ v ≤ 1000) (h9 : k ≠ 9 ∨ 0 < v) (f : Nat) :
    Mo_wayEnd_l5 fu L (f + 1) N 154 (c + e) v (c + i) = Mo_wayEnd_l5 fu L f N 154 (c + e) (if k = 6 then v + 1 else if k = 7 then v - 1 else v) (c + (i + 1)) := by
  have d := (y_dec hS hk.1 (by omega) hl.1 hl.2 hn.1 hn.2).1
  have b1 : 0 ≤ c + i ∧ c + i < ((101, 2597) : Int × Int).2 := by show 0 ≤ c + i ∧ c + i < 2597; omega
  have e1 : w32 (c + i + 1) = c + (i + 1) := by rw [w32_id (by omega)]; omega
  have e2 : w32 (v + 1) = v + 1 := w32_id (by omega)
  have e3 : w32 (v + (-1)) = v - 1 := by rw [w32_id (by omega)]; omega
  have e4 : w32 (v + 0) = v := by rw [w32_id (by omega)]; omega
  have b30 : Mo_wayEnd_b30 fu (Mo_wayEnd_l5 fu L f) L N 154 (c + e) v (c + i) = Mo_wayEnd_l5 fu L f N 154 (c + e) (if k = 6 then v + 1 else if k = 7 then v - 1 else v) (c + (i + 1)) := by
    unfold Mo_wayEnd_b30
    simp only [l4, p18, l62, ↓reduceIte, hN, d, e1, e2, e3, e4, ↓lt1_def]
    rw [if_pos b1]
    by_cases k6 : k = 6
    · rw [if_pos k6, if_pos k6]
    · rw [if_neg k6, if_neg k6]
      by_cases k7 : k = 7
      · rw [if_pos k7, if_pos k7, if_pos b1]
      · rw [if_neg k7, if_neg k7, if_pos b1]
  show Mo_wayEnd_s5 _ _ _ _ _ _ _ _ = _
  unfold Mo_wayEnd_s5
  rw [if_pos (by omega)]
  by_cases v0 : 0 < v
  · rw [if_pos v0, b30]
  · rw [if_neg v0, l4, if_pos rfl, p18, l62, if_pos rfl, if_pos b1, hN, d, if_neg (by omega), b30]
/-- wayEnd goes over what is told by signs i to j -/
theorem y_we {N : zM} {S K Q A F : Int → Int} {lv c e st : Int} (l4 : L 154 = (13, 0)) (l62 : L 162 = (101, 2597)) (p18 : N 154 18 = 162) (hc : 0 ≤ c ∧ c + e ≤ 2597) (hN : ∀ i, 0 ≤ i → i < e → N 162 (c + i) = S i) {md d : Nat} {i j p q : Int} (h : y_seg S K Q A F lv e st md d i j p q) :
    ∀ (v : Int) (f : Nat), 0 ≤ v → v + d ≤ 1000 → (md = 2 → 0 < v) → Mo_wayEnd_l5 fu L (f + (j - i).toNat) N 154 (c + e) v (c + i) = Mo_wayEnd_l5 fu L f N 154 (c + e) v (c + j) := by
  refine y_seg_ind (fun md d i j p q => ∀ (v : Int) (f : Nat), 0 ≤ v → v + d ≤ 1000 → (md = 2 → 0 < v) → Mo_wayEnd_l5 fu L (f + (j - i).toNat) N 154 (c + e) v (c + i) = Mo_wayEnd_l5 fu L f N 154 (c + e) v (c + j)) ?_ ?_ ?_ ?_ ?_ ?_ ?_ h
  · intro d i p k n l h1 h2 h3 h4 h5 h6 h7 h8 h9 h10 h11 h12 h13 h14 v f v0 vd vm
    rw [show (i + 1 - i).toNat = 1 by omega, y_we1 l4 l62 p18 hc (hN i h8 h9) h12 ⟨h3, h4⟩ ⟨h5, by omega⟩ ⟨h1, by omega⟩ h8 h9 ⟨v0, by omega⟩ (by omega), if_neg (by omega), if_neg (by omega)]
  · intro d i j p q n hs ih h1 h2 h3 h4 h5 h6 h7 v f v0 vd vm
    have b := (y_seg_b hs).1
    rw [show f + (j - i).toNat = f + (j - (i + 1)).toNat + 1 by omega, y_we1 (n := n) (l := 0) (k := 5) l4 l62 p18 hc (hN i h3 (by omega)) (by omega) ⟨h1, h2⟩ (by omega) (by omega) h3 (by omega) ⟨v0, by omega⟩ (by omega), if_neg (by omega), if_neg (by omega)]
    exact ih v f v0 (by omega) (fun z => absurd z (by decide))
  · intro d i j p q hs ih h1 h2 h3 h4 v f v0 vd vm
    have b := (y_seg_b hs).1
    rw [show f + (j + 1 - i).toNat = (f + 1) + (j - (i + 1)).toNat + 1 by omega, y_we1 (n := 0) (l := 0) (k := 6) l4 l62 p18 hc (hN i h1 (by omega)) (by omega) (by omega) (by omega) (by omega) h1 (by omega) ⟨v0, by omega⟩ (by omega), if_pos rfl, ih (v + 1) (f + 1) (by omega) (by omega) (fun _ => by omega), y_we1 (n := 0) (l := 0) (k := 7) l4 l62 p18 hc (hN j (by omega) h2) (by omega) (by omega) (by omega) (by omega) (by omega) (by omega) ⟨by omega, by omega⟩ (by omega), if_neg (by omega), if_pos rfl, show v + 1 - 1 = v by omega]
  · intro d i j p q hs ih v f v0 vd vm
    exact ih v f v0 vd (fun z => absurd z (by decide))
  · intro d i m j p r q hs ih h1 hs' ih' h3 h4 h5 v f v0 vd vm
    have b := (y_seg_b hs).1
    have b' := (y_seg_b hs').1
    rw [show f + (j - i).toNat = (f + (j - (m + 1)).toNat + 1) + (m - i).toNat by omega, ih v _ v0 vd (fun z => absurd z (by decide)), y_we1 (n := 0) (l := 0) (k := 8) l4 l62 p18 hc (hN m (by omega) (by omega)) (by omega) (by omega) (by omega) (by omega) (by omega) (by omega) ⟨v0, by omega⟩ (by omega), if_neg (by omega), if_neg (by omega)]
    exact ih' v f v0 vd (fun z => absurd z (by decide))
  · intro d i j p q hs ih h1 v f v0 vd vm
    exact ih v f v0 vd (fun z => absurd z (by decide))
  · intro d i m j p r q hs ih h1 hs' ih' h2 h3 h4 h5 v f v0 vd vm
    have vp := vm rfl
    have b := (y_seg_b hs).1
    have b' := (y_seg_b hs').1
    rw [show f + (j - i).toNat = (f + (j - (m + 1)).toNat + 1) + (m - i).toNat by omega, ih v _ v0 vd vm, y_we1 (n := 0) (l := 0) (k := 9) l4 l62 p18 hc (hN m (by omega) (by omega)) (by omega) (by omega) (by omega) (by omega) (by omega) (by omega) ⟨v0, by omega⟩ (by omega), if_neg (by omega), if_neg (by omega)]
    exact ih' v f v0 vd (fun z => absurd z (by decide))
/-- wayEnd from the beginning of a way -/
theorem Mo_wayEnd_ok (hf : 600 ≤ fu) {N : zM} {S K Q A F : Int → Int} {lv c e st : Int} (l4 : L 154 = (13, 0)) (l62 : L 162 = (101, 2597)) (p18 : N 154 18 = 162) (hc : 0 ≤ c ∧ c + e ≤ 2597) (he : e ≤ 310) (hN : ∀ i, 0 ≤ i → i < e → N 162 (c + i) = S i) {i j p q : Int} (h : y_seg S K Q A F lv e st 1 5 i j p q) (hj : j = e ∨ S j = 9) :
    Mo_wayEnd fu L N 154 (c + i) (c + e) = some (c + j) := by
  have b := (y_seg_b h).1
  unfold Mo_wayEnd
  obtain ⟨f, hfu⟩ : ∃ f : Nat, fu = (f + 1) + (j - i).toNat := ⟨fu - 1 - (j - i).toNat, by omega⟩
  have e0 := y_we (fu := fu) l4 l62 p18 hc hN h 0 (f + 1) (by omega) (by omega) (fun z => absurd z (by decide))
  rw [← hfu] at e0
  rw [e0]
  show Mo_wayEnd_s5 _ _ _ _ _ _ _ _ = _
  unfold Mo_wayEnd_s5
  by_cases cj : j = e
  · rw [if_neg (by omega)]
  · have s9 : S j = 9 := by omega
    have d := (y_dec (s := S j) (n := 0) (l := 0) (k := 9) (by omega) (by omega) (by omega) (by omega) (by omega) (by omega) (by omega)).1
    have b1 : 0 ≤ c + j ∧ c + j < ((101, 2597) : Int × Int).2 := by show 0 ≤ c + j ∧ c + j < 2597; omega
    rw [if_pos (by omega), if_neg (by omega), l4, if_pos rfl, p18, l62, if_pos rfl, if_pos b1, hN j (by omega) (by omega), d, if_pos rfl]
theorem y_iorR (x y : Int) : InR (ior x y) := by unfold ior; exact inR_of _
theorem y_gd.wy (D : y_gd L M g ga st pt tl wh li e) : (1 ≤ pt ∧ pt ≤ 16) ∧ ∃ sb pb : Int → Int, sb 0 = 0 ∧ sb pt = e + 1 ∧ ∀ k, 0 ≤ k → k < pt → y_seg (fun i => M 162 (77 + 315 * g + (5 + i))) (M (M ga 5)) (M (M ga 6)) (M (M ga 7)) (M (M ga 8)) (M 154 20) e st 1 5 (sb k) (sb (k + 1) - 1) (pb k) (M (M ga 9) k) ∧ (k + 1 < pt → M 162 (77 + 315 * g + (5 + (sb (k + 1) - 1))) = 9) := ⟨⟨D.2.2.2.2.2.2.1, D.2.2.2.2.2.2.2.1⟩, D.2.2.2.2.2.2.2.2⟩
/-- way k passes the test -/
def y_wg (M : zM) (ga wh li k : Int) : Prop := y_good (M 154 20) (M 162) (M (M ga 5)) (M (M ga 6)) (M (M ga 7)) (M (M ga 8)) (M (M ga 9) k) 99 wh li (M 162 74) (M 162 75) (1 - y_ind (y_hv wh li (M 154 20) (M 162) (M (M ga 5)) (M (M ga 6)) (M (M ga 7)) (M (M ga 8)) 99 (M (M ga 9) k))) (y_all (M 154 20))
theorem y_gd.take2 (D : y_gd L M g ga st pt tl wh li e) (hf : 400 ≤ fu) (I : y_inv L M top) {N : zM} (o : y_off M N) {m ln : Int} (hm : 1 ≤ m ∧ m ≤ st) (hln : 0 ≤ ln ∧ ln ≤ 99) :
    ∃ N1 N2, Tr_take fu L N 142 19 ga m ln = some N1 ∧ N1 1 9 = 142 ∧ Tr_allLives fu L N1 142 = some (y_all (M 154 20)) ∧ Tr_passes fu L N1 142 (y_all (M 154 20)) = some (N2, y_ind (y_good (M 154 20) (M 162) (M (M ga 5)) (M (M ga 6)) (M (M ga 7)) (M (M ga 8)) m ln wh li (M 162 74) (M 162 75) (1 - y_ind (y_hv wh li (M 154 20) (M 162) (M (M ga 5)) (M (M ga 6)) (M (M ga 7)) (M (M ga 8)) ln m)) (y_all (M 154 20)))) ∧ y_off M N2 := by
  obtain ⟨N1, op, a1, a2, a3⟩ := D.take (fu := fu) hf I o hm hln
  have ho := y_op a3.2.2.2.2.1 a3.2.2.2.2.2.1
  rw [ho] at a3
  have te := D.te (m := m) (ln := ln) I hm hln
  obtain ⟨N2, b1, b2⟩ := Tr_passes_ok (fu := fu) hf I.lay (a2.ptr I.ptr) te a3 (y_all (M 154 20))
  exact ⟨N1, N2, a1, y_9 I a2, Tr_allLives_ok I.lay (a2.ptr I.ptr) (by have := I.wv.1; omega) a3, b1, a2.trans b2.off⟩
theorem c_ways (hf : 600 ≤ fu) (I : y_inv L M top) (g : Int) : y_same L M (fun M => Lx_ways fu L M 1 g) (fun M => Mo_ways fu L M 154 g) := by
  have l1 : L 1 = (12, 0) := I.lay 1 (by decide)
  have l4 : L 154 = (13, 0) := I.lay 154 (by decide)
  have l19 : L 19 = (2, 0) := I.lay 19 (by decide)
  have l42 : L 142 = (9, 0) := I.lay 142 (by decide)
  have l62 : L 162 = (101, 2597) := I.lay 162 (by decide)
  have p4 : M 1 4 = 19 := I.ptr (1, 4, 19) (by decide +kernel)
  by_cases h : M 154 19 = 1 ∧ 0 ≤ g ∧ g < M 162 76
  · obtain ⟨ga, st, pt, tl, wh, li, e, D⟩ := y_gift2 I h
    obtain ⟨hpt, sb, pb, z1, z2, z3⟩ := D.wy
    obtain ⟨g1, g2, g3, g4⟩ := D.at (fu := fu) I (y_off.refl M)
    have gc := D.2.1.2.1
    have hr := gc.2.2.2.1
    obtain ⟨q1, q2, q3, q4⟩ := D.2.2.1
    have hb := D.2.2.2.1
    have hg8 := D.1
    obtain ⟨stp, hstp⟩ : ∃ stp : Int → Int → Int, stp = fun k s => if y_ind (y_wg M ga wh li k) = 0 then s else ior s (ishl 1 k) := ⟨_, rfl⟩
    have hsR : ∀ k s, InR s → InR (stp k s) := fun k s hs => by
      rw [hstp]
      show InR (if _ then _ else _)
      split
      · exact hs
      · exact y_iorR _ _
    have A : ∃ U, Lx_ways_l20 fu L fu M 1 ga 0 0 = some (U, y_fo stp pt.toNat 0 0) ∧ y_off M U := by
      refine y_lpm0 (F := fun n T s i => Lx_ways_l20 fu L n T 1 ga s i) (fin := fun s => s) (st := stp) (N := pt) (fun T => y_off M T) (fun i s => InR s) (fun n T s i o i0 iN hI => ?_) (fun n T s i o iN hI => ?_) pt.toNat fu M 0 0 (y_off.refl M) (by omega) (by omega) (by omega) (by omega)
      · obtain ⟨sg, _⟩ := z3 i i0 iN
        have sb' := (y_seg_b sg).2.1
        obtain ⟨_, _, h3, h4⟩ := D.at (fu := fu) I o
        have e4 : T ga 4 = pt := (o _ _ (by omega)).trans gc.2.1.2
        have e9 : T ga 9 = M ga 9 := o _ _ (by omega)
        have r9 : T (M ga 9) = M (M ga 9) := o.hi hr.2.2.2.2.2.1
        have l9 : L (M ga 9) = (101, pt) := gc.2.2.1.2.2.2.2.1
        have pe : Gf_partEnd fu L T ga i = some (M (M ga 9) i) := by
          unfold Gf_partEnd
          rw [if_neg (by omega), gc.1, if_pos rfl, e9, l9, if_pos rfl, if_pos (show i < ((101, pt) : Int × Int).2 from iN), if_pos (show 0 ≤ i ∧ i < ((101, pt) : Int × Int).2 from ⟨i0, iN⟩), r9]
        have P := o.ptr I.ptr
        have p4' : T 1 4 = 19 := P (1, 4, 19) (by decide +kernel)
        obtain ⟨N1, N2, a1, a2, a3, a4, a5⟩ := D.take2 (fu := fu) (by omega) I o (m := M (M ga 9) i) (ln := 99) (by omega) (by omega)
        have ew : w32 (i + 1) = i + 1 := w32_id (by omega)
        refine ⟨N2, ?_, a5, hsR i s hI⟩
        show Lx_ways_s20 _ _ _ _ _ _ _ _ = _
        unfold Lx_ways_s20
        rw [gc.1, if_pos rfl, e4, if_pos iN, l1, if_pos rfl, pe, bd1_some, y_9 I o, l42, if_pos rfl, p4', a1, bd1_some, a2, l42, if_pos rfl, a3, bd1_some, a4, bd2_some, lt1_def, lt1_def, lt1_def, ew, hstp]
        show _ = Lx_ways_l20 fu L n N2 1 ga (if y_ind (y_wg M ga wh li i) = 0 then s else ior s (ishl 1 i)) (i + 1)
        unfold y_wg
        split <;> rfl
      · refine ⟨T, ?_, o⟩
        have e4 : T ga 4 = pt := (o _ _ (by omega)).trans gc.2.1.2
        show Lx_ways_s20 _ _ _ _ _ _ _ _ = _
        unfold Lx_ways_s20
        rw [gc.1, if_pos rfl, e4, if_neg (by omega)]
    obtain ⟨U, u1, u2⟩ := A
    have o2 := u2.trans (y_off0 U)
    have B : ∃ V, Mo_ways_l42 fu L fu (mu U 154 0 0) 154 g (82 + 315 * g) (82 + 315 * g + e) 0 0 = some (V, y_fo stp pt.toNat 0 0) ∧ y_off M V := by
      have hz : 82 + 315 * g = 82 + 315 * g + sb 0 := by omega
      refine y_lpm0 (F := fun n T s i => Mo_ways_l42 fu L n T 154 g (82 + 315 * g + sb i) (82 + 315 * g + e) s i) (fin := fun s => s) (st := stp) (N := pt) (fun T => y_off M T) (fun i s => InR s) (fun n T s i o i0 iN hI => ?_) (fun n T s i o iN hI => ?_) pt.toNat fu (mu U 154 0 0) 0 0 o2 (by omega) (by omega) (by omega) (by omega) |> fun z => by rw [← hz] at z; exact z
      · obtain ⟨sg, sn⟩ := z3 i i0 iN
        have sb' := y_seg_b sg
        have p18 := y_18 I o
        have ew3 : w32 (77 + 315 * g + 3) = 77 + 315 * g + 3 := w32_id (by omega)
        have g11 : 0 ≤ 77 + 315 * g + 3 ∧ 77 + 315 * g + 3 < ((101, 2597) : Int × Int).2 := by show 0 ≤ 77 + 315 * g + 3 ∧ 77 + 315 * g + 3 < 2597; omega
        have e3 : T 162 (77 + 315 * g + 3) = pt := (o _ _ (by omega)).trans q3
        have oT : y_off M (mu T 154 45 (82 + 315 * g + sb i)) := o.mu (by omega)
        have we := Mo_wayEnd_ok (fu := fu) (c := 82 + 315 * g) (e := e) hf l4 l62 (y_18 I oT) (by omega) (by omega) (S := fun i => M 162 (77 + 315 * g + (5 + i))) (fun i i0 i1 => by
          rw [oT _ _ (by omega)]; show M 162 (82 + 315 * g + i) = M 162 (77 + 315 * g + (5 + i)); congr 1; omega) sg (by
          by_cases c : i + 1 < pt
          · exact Or.inr (sn c)
          · left; have : i + 1 = pt := by omega
            rw [this, z2]; omega)
        have oV : y_off M (mu (mu T 154 45 (82 + 315 * g + sb i)) 154 46 (82 + 315 * g + (sb (i + 1) - 1))) := oT.mu (by omega)
        have mt := D.mt I (N := mu (mu T 154 45 (82 + 315 * g + sb i)) 154 46 (82 + 315 * g + (sb (i + 1) - 1))) (fun a i _ c => oV a i c) (ln := 99) ((oV _ _ (by omega)).trans I.2.2.2.2.2.2.2.2.2) (by omega)
        have hop := y_op01 (y_hv wh li (M 154 20) (M 162) (M (M ga 5)) (M (M ga 6)) (M (M ga 7)) (M (M ga 8)) 99 (M (M ga 9) i))
        have ms : y_ms (mu (mu T 154 45 (82 + 315 * g + sb i)) 154 46 (82 + 315 * g + (sb (i + 1) - 1))) (fun i => M 162 (77 + 315 * g + (5 + i))) (M (M ga 5)) (M (M ga 6)) (M (M ga 7)) (M (M ga 8)) (M 154 20) e st (82 + 315 * g) (sb i) (sb (i + 1) - 1) (pb i) (M (M ga 9) i) :=
          ⟨D.sg (fun i => oV _ _ (by omega)), Or.inl sg, ⟨by rw [mx_ne (by omega), mx_same], mx_same _ _ _ _⟩, by omega, hb.2.2.2.2, D.sk⟩
        obtain ⟨W, v1, v2⟩ := Mo_isGood_ok (fu := fu) (by omega) mt ms (y_all (M 154 20)) hop.1 hop.2
        have oW := oV.trans v2.off
        have e46 : W 154 46 = 82 + 315 * g + (sb (i + 1) - 1) := by rw [v2 _ _ (by omega) (by omega)]; exact mx_same _ _ _ _
        have ew : w32 (i + 1) = i + 1 := w32_id (by omega)
        have ew46 : w32 (82 + 315 * g + (sb (i + 1) - 1) + 1) = 82 + 315 * g + sb (i + 1) := by rw [w32_id (by omega)]; omega
        refine ⟨W, ?_, oW, hsR i s hI⟩
        show Mo_ways_s42 _ _ _ _ _ _ _ _ _ _ = _
        unfold Mo_ways_s42
        rw [l4, if_pos rfl, Mo_giftAt_ok (by omega), bd1_some, p18, l62, if_pos rfl, ew3, if_pos g11, e3, if_pos iN, lt1_def, we, bd1_some, lt1_def, Mo_allLives_ok I (oV _ _ (by omega)), bd1_some, v1, bd2_some]
        unfold Mo_ways_b95
        simp only [l4, ↓reduceIte, lt1_def, e46, ew46, ew]
        rw [ior_zero hI, hstp]
        show _ = Mo_ways_l42 fu L n W 154 g (82 + 315 * g + sb (i + 1)) (82 + 315 * g + e) (if y_ind (y_wg M ga wh li i) = 0 then s else ior s (ishl 1 i)) (i + 1)
        unfold y_wg
        split <;> rfl
      · refine ⟨T, ?_, o⟩
        have p18 := y_18 I o
        have ew3 : w32 (77 + 315 * g + 3) = 77 + 315 * g + 3 := w32_id (by omega)
        have g11 : 0 ≤ 77 + 315 * g + 3 ∧ 77 + 315 * g + 3 < ((101, 2597) : Int × Int).2 := by show 0 ≤ 77 + 315 * g + 3 ∧ 77 + 315 * g + 3 < 2597; omega
        have e3 : T 162 (77 + 315 * g + 3) = pt := (o _ _ (by omega)).trans q3
        show Mo_ways_s42 _ _ _ _ _ _ _ _ _ _ = _
        unfold Mo_ways_s42
        rw [l4, if_pos rfl, Mo_giftAt_ok (by omega), bd1_some, p18, l62, if_pos rfl, ew3, if_pos g11, e3, if_neg (by omega)]
    obtain ⟨V, v1, v2⟩ := B
    refine y_same.mk (M1 := U) (M2 := V) (r := y_fo stp pt.toNat 0 0) v2 ?_ ?_
    · show Lx_ways fu L M 1 g = _
      unfold Lx_ways
      rw [l1, if_pos rfl, p4, l19, if_pos rfl, g1, bd1_some, if_neg g2, u1]
    · have p18 := y_18 I o2
      have ew5 : w32 (77 + 315 * g + 5) = 82 + 315 * g := by rw [w32_id (by omega)]; omega
      have ew4 : w32 (77 + 315 * g + 4) = 77 + 315 * g + 4 := w32_id (by omega)
      have g11 : 0 ≤ 77 + 315 * g + 4 ∧ 77 + 315 * g + 4 < ((101, 2597) : Int × Int).2 := by show 0 ≤ 77 + 315 * g + 4 ∧ 77 + 315 * g + 4 < 2597; omega
      have e4 : mu U 154 0 0 162 (77 + 315 * g + 4) = e := (o2 _ _ (by omega)).trans q4
      have ewe : w32 (82 + 315 * g + e) = 82 + 315 * g + e := w32_id (by omega)
      show Mo_ways fu L U 154 g = _
      unfold Mo_ways
      rw [l4, if_pos rfl, lt1_def, y_isG I o2, if_pos h, bd1_some, if_neg (by decide), Mo_giftAt_ok (by omega), bd1_some, lt1_def, bd1_some, p18, l62, if_pos rfl, ew4, if_pos g11, e4, ew5, lt1_def, ewe, v1]
  · refine y_same.mk (M1 := M) (M2 := mu M 154 0 0) (r := -1) (y_off0 M) ?_ ?_
    · show Lx_ways fu L M 1 g = _
      unfold Lx_ways
      rw [l1, if_pos rfl, p4, l19, if_pos rfl, Af_giftAt_n I h, bd1_some, if_pos rfl]
    · show Mo_ways fu L M 154 g = _
      unfold Mo_ways
      rw [l4, if_pos rfl, lt1_def, y_isG I (y_off0 M), if_neg h, bd1_some, if_pos rfl]
end
