/-! ===== pure: part 41 ===== -/
theorem lt1_def {α γ : Type} (x : α) (k : α → Option γ) : lt1 x k = k x := rfl
theorem bd1_some {α γ : Type} (x : α) (k : α → Option γ) : bd1 (some x) k = k x := rfl
theorem bd2_some {α β γ : Type} (x : α) (y : β) (k : α → β → Option γ) : bd2 (some (x, y)) k = k x y := rfl
theorem mx_same (M : zM) (a i v : Int) : mu M a i v a i = v := by unfold mu; rw [if_pos ⟨rfl, rfl⟩]
theorem mx_ne {M : zM} {a i v b j : Int} (h : b ≠ a ∨ j ≠ i) : mu M a i v b j = M b j := by
  unfold mu
  rw [if_neg (fun q => by rcases h with h | h; exact h q.1; exact h q.2)]
theorem Ptr.mu {M : zM} (h : Ptr M) {a i v : Int} (hn : ∀ q ∈ zPt, (q.1 : Int) ≠ a ∨ (q.2.1 : Int) ≠ i) : Ptr (mu M a i v) := fun q hq => by rw [mx_ne (hn q hq)]; exact h q hq
def by8 (w s : Int) : Int := iand (iushr w s) 255
def nz (x : Int) : Int := if x = 0 then 0 else 1
/-- a byte that is not 0 is put at the end of an array A whose length is field f of O -/
def gput (A O f : Int) (M : zM) (b : Int) : zM := if b = 0 then M else mu (mu M A (M O f) b) O f (M O f + 1)
theorem gput_0 (A O f : Int) (M : zM) : gput A O f M 0 = M := if_pos rfl
theorem gput_n {A O f : Int} {M : zM} {b : Int} (h : b ≠ 0) : gput A O f M b = mu (mu M A (M O f) b) O f (M O f + 1) := if_neg h
theorem gput_len {A O f : Int} (hA : A ≠ O) (M : zM) (b : Int) : gput A O f M b O f = M O f + nz b := by
  unfold gput nz
  by_cases h : b = 0
  · rw [if_pos h, if_pos h]; omega
  · rw [if_neg h, if_neg h, mx_same]
theorem gput_off {A O f : Int} (M : zM) (b a i : Int) (h : a ≠ A) (h2 : a ≠ O ∨ i ≠ f) : gput A O f M b a i = M a i := by
  unfold gput
  by_cases h0 : b = 0
  · rw [if_pos h0]
  · rw [if_neg h0, mx_ne h2, mx_ne (Or.inl h)]
theorem gput_arr {A O f : Int} (hA : A ≠ O) (M : zM) (b i : Int) (h : i < M O f) : gput A O f M b A i = M A i := by
  unfold gput
  by_cases h0 : b = 0
  · rw [if_pos h0]
  · rw [if_neg h0, mx_ne (Or.inl hA), mx_ne (Or.inr (by omega))]
theorem gput_new {A O f : Int} (hA : A ≠ O) (M : zM) {b : Int} (h : b ≠ 0) : gput A O f M b A (M O f) = b := by
  rw [gput_n h, mx_ne (Or.inl hA), mx_same]
/-- two tapes that are alike stay alike when the same is put on both -/
theorem gput_alike {A O f B P g : Int} (hA : A ≠ O) (hB : B ≠ P) {M N : zM} (hl : M O f = N P g) (he : ∀ i, 0 ≤ i → i < M O f → M A i = N B i) (b : Int) :
    gput A O f M b O f = gput B P g N b P g ∧ ∀ i, 0 ≤ i → i < gput A O f M b O f → gput A O f M b A i = gput B P g N b B i := by
  rw [gput_len hA, gput_len hB]
  refine ⟨by omega, fun i h0 h1 => ?_⟩
  by_cases h : i < M O f
  · rw [gput_arr hA _ _ _ h, gput_arr hB _ _ _ (by omega)]
    exact he i h0 h
  · by_cases hb : b = 0
    · unfold nz at h1
      rw [if_pos hb] at h1
      omega
    · unfold nz at h1
      rw [if_neg hb] at h1
      have e : i = M O f := by omega
      rw [e, gput_new hA _ hb, hl, gput_new hB _ hb]
def gputs (A O f : Int) (M : zM) (bs : List Int) : zM := bs.foldl (gput A O f) M
theorem gputs_alike {A O f B P g : Int} (hA : A ≠ O) (hB : B ≠ P) : ∀ (bs : List Int) {M N : zM}, M O f = N P g → (∀ i, 0 ≤ i → i < M O f → M A i = N B i) →
    gputs A O f M bs O f = gputs B P g N bs P g ∧ ∀ i, 0 ≤ i → i < gputs A O f M bs O f → gputs A O f M bs A i = gputs B P g N bs B i
  | [], _, _, hl, he => ⟨hl, he⟩
  | b :: bs, M, N, hl, he => by
    obtain ⟨h1, h2⟩ := gput_alike hA hB hl he b
    exact gputs_alike hA hB bs h1 h2
theorem gputs_off {A O f : Int} (a i : Int) (h : a ≠ A) (h2 : a ≠ O ∨ i ≠ f) : ∀ (bs : List Int) (M : zM), gputs A O f M bs a i = M a i
  | [], _ => rfl
  | b :: bs, M => (gputs_off a i h h2 bs (gput A O f M b)).trans (gput_off M b a i h h2)
def nzs (bs : List Int) : Int := (bs.map nz).sum
theorem gputs_len {A O f : Int} (hA : A ≠ O) : ∀ (bs : List Int) (M : zM), gputs A O f M bs O f = M O f + nzs bs
  | [], M => by simp [gputs, nzs]
  | b :: bs, M => by
    show gputs A O f (gput A O f M b) bs O f = _
    rw [gputs_len hA bs, gput_len hA]
    simp only [nzs, List.map_cons, List.sum_cons]
    omega
theorem nz_01 (b : Int) : 0 ≤ nz b ∧ nz b ≤ 1 := by unfold nz; split <;> omega
theorem nzs_01 : ∀ bs : List Int, 0 ≤ nzs bs ∧ nzs bs ≤ bs.length
  | [] => ⟨by decide, by decide⟩
  | b :: bs => by
    have h := nzs_01 bs
    have h1 := nz_01 b
    simp only [nzs, List.map_cons, List.sum_cons, List.length_cons] at h ⊢
    omega
/-! the class: what a word adds, and the putting of it -/
theorem Tp_sb_s {fu : Nat} {k : zM → Int → Int → Int → Option Int} {L : zL} {M : zM} {w x s s' : Int} (h : 0 ≤ x ∧ x < 1000) (hs : 0 ≤ s ∧ s < 100) (hs' : s' = s - 8) : Tp_solidBytes_s5 fu k L M w x s = k M w (x + nz (by8 w s)) s' := by
  subst hs'
  unfold Tp_solidBytes_s5 nz by8
  rw [if_neg (by omega)]
  by_cases hb : iand (iushr w s) 255 = 0
  · rw [if_pos hb, if_pos hb, lt1_def, w32_id (by omega), show x + 0 = x by omega, show s + -8 = s - 8 by omega]
  · rw [if_neg hb, if_neg hb, lt1_def, lt1_def, w32_id (by omega), w32_id (by omega), show s + -8 = s - 8 by omega]
def bys (w : Int) : List Int := [by8 w 24, by8 w 16, by8 w 8, by8 w 0]
theorem Tp_sb {fu : Nat} (hf : 10 ≤ fu) (L : zL) (M : zM) (w : Int) : Tp_solidBytes fu L M w = some (nzs (bys w)) := by
  obtain ⟨n, rfl⟩ : ∃ n, fu = n + 5 := ⟨fu - 5, by omega⟩
  unfold Tp_solidBytes
  have h1 := nz_01 (by8 w 24)
  have h2 := nz_01 (by8 w 16)
  have h3 := nz_01 (by8 w 8)
  show Tp_solidBytes_s5 _ _ _ _ _ _ _ = _
  rw [Tp_sb_s (s' := 16) (by omega) (by omega) (by omega)]
  show Tp_solidBytes_s5 _ _ _ _ _ _ _ = _
  rw [Tp_sb_s (s' := 8) (by omega) (by omega) (by omega)]
  show Tp_solidBytes_s5 _ _ _ _ _ _ _ = _
  rw [Tp_sb_s (s' := 0) (by omega) (by omega) (by omega)]
  show Tp_solidBytes_s5 _ _ _ _ _ _ _ = _
  rw [Tp_sb_s (s' := -8) (by omega) (by omega) (by omega)]
  show Tp_solidBytes_s5 _ _ _ _ _ _ _ = _
  unfold Tp_solidBytes_s5
  rw [if_pos (by omega)]
  simp only [nzs, bys, List.map_cons, List.map_nil, List.sum_cons, List.sum_nil]
  congr 1
  omega
theorem Tp_put_s {fu : Nat} {k : zM → Int → Int → Int → Option zM} {L : zL} {M : zM} {w s s' : Int} (hL : Lay L) (hP : Ptr M) (hs : 0 ≤ s ∧ s < 100) (hs' : s' = s - 8) (h0 : 0 ≤ M 2 2) (h1 : M 2 2 + nz (by8 w s) ≤ 300) : Tp_put_s3 fu k L M 2 w s = k (gput 3 2 2 M (by8 w s)) 2 w s' := by
  subst hs'
  have l2 : L 2 = (8, 0) := hL 2 (by decide)
  have l3 : L 3 = (101, 300) := hL 3 (by decide)
  have p : M 2 0 = 3 := hP (2, 0, 3) (by decide)
  unfold Tp_put_s3
  rw [if_neg (by omega), lt1_def]
  show (if by8 w s = 0 then _ else _) = _
  by_cases hb : by8 w s = 0
  · rw [if_pos hb, lt1_def, w32_id (by omega), hb, gput_0, show s + -8 = s - 8 by omega]
  · unfold nz at h1
    rw [if_neg hb] at h1
    rw [if_neg hb, gput_n hb, l2, p, l3, if_pos rfl, if_neg (by omega), if_pos rfl, if_pos (by show M 2 2 < 300; omega), if_pos (by show 0 ≤ M 2 2 ∧ M 2 2 < 300; omega), lt1_def, lt1_def, lt1_def]
    have e : mu M 3 (M 2 2) (iand (iushr w s) 255) 2 2 = M 2 2 := mx_ne (by omega)
    rw [e, w32_id (by omega), w32_id (by omega), show s + -8 = s - 8 by omega]
    rfl
theorem Ptr.gput {M : zM} (h : Ptr M) {A O f b : Int} (h1 : ∀ q ∈ zPt, (q.1 : Int) ≠ A) (h2 : ∀ q ∈ zPt, (q.1 : Int) ≠ O ∨ (q.2.1 : Int) ≠ f) : Ptr (gput A O f M b) := fun q hq => by rw [gput_off _ _ _ _ (h1 q hq) (h2 q hq)]; exact h q hq
theorem pt_3 : ∀ q ∈ zPt, (q.1 : Int) ≠ 3 := by decide +kernel
theorem pt_2_2 : ∀ q ∈ zPt, (q.1 : Int) ≠ 2 ∨ (q.2.1 : Int) ≠ 2 := by decide +kernel
theorem Tp_put_ok {fu : Nat} (hf : 10 ≤ fu) {L : zL} {M : zM} {w : Int} (hL : Lay L) (hP : Ptr M) (h0 : 0 ≤ M 2 2) (h1 : M 2 2 + nzs (bys w) ≤ 300) : Tp_put fu L M 2 w = some (gputs 3 2 2 M (bys w)) := by
  obtain ⟨n, rfl⟩ : ∃ n, fu = n + 5 := ⟨fu - 5, by omega⟩
  have n1 := nz_01 (by8 w 24)
  have n2 := nz_01 (by8 w 16)
  have n3 := nz_01 (by8 w 8)
  have n4 := nz_01 (by8 w 0)
  simp only [nzs, bys, List.map_cons, List.map_nil, List.sum_cons, List.sum_nil] at h1
  have q1 : (3 : Int) ≠ 2 := by decide
  have P1 := hP.gput (A := 3) (O := 2) (f := 2) (b := by8 w 24) pt_3 pt_2_2
  have P2 := P1.gput (A := 3) (O := 2) (f := 2) (b := by8 w 16) pt_3 pt_2_2
  have P3 := P2.gput (A := 3) (O := 2) (f := 2) (b := by8 w 8) pt_3 pt_2_2
  have g1 := gput_len q1 M (by8 w 24) (f := 2)
  have g2 := gput_len q1 (gput 3 2 2 M (by8 w 24)) (by8 w 16) (f := 2)
  have g3 := gput_len q1 (gput 3 2 2 (gput 3 2 2 M (by8 w 24)) (by8 w 16)) (by8 w 8) (f := 2)
  unfold Tp_put
  show Tp_put_s3 _ _ _ _ _ _ _ = _
  rw [Tp_put_s (s' := 16) hL hP (by omega) (by omega) h0 (by omega)]
  show Tp_put_s3 _ _ _ _ _ _ _ = _
  rw [Tp_put_s (s' := 8) hL P1 (by omega) (by omega) (by omega) (by omega)]
  show Tp_put_s3 _ _ _ _ _ _ _ = _
  rw [Tp_put_s (s' := 0) hL P2 (by omega) (by omega) (by omega) (by omega)]
  show Tp_put_s3 _ _ _ _ _ _ _ = _
  rw [Tp_put_s (s' := -8) hL P3 (by omega) (by omega) (by omega) (by omega)]
  show Tp_put_s3 _ _ _ _ _ _ _ = _
  unfold Tp_put_s3
  rw [if_pos (by omega)]
  rfl
theorem Ptr.gputs {A O f : Int} (h1 : ∀ q ∈ zPt, (q.1 : Int) ≠ A) (h2 : ∀ q ∈ zPt, (q.1 : Int) ≠ O ∨ (q.2.1 : Int) ≠ f) {M : zM} (h : Ptr M) (bs : List Int) : Ptr (gputs A O f M bs) := fun q hq => by rw [gputs_off _ _ (h1 q hq) (h2 q hq)]; exact h q hq
theorem gputs_app (A O f : Int) (M : zM) (b c : List Int) : gputs A O f (gputs A O f M b) c = gputs A O f M (b ++ c) := by unfold gputs; rw [List.foldl_append]
theorem nzs_app (b c : List Int) : nzs (b ++ c) = nzs b + nzs c := by unfold nzs; rw [List.map_append, List.sum_append]
def bys5 (a b c d e : Int) : List Int := bys a ++ bys b ++ bys c ++ bys d ++ bys e
theorem Lx_feed_ok {fu : Nat} (hf : 10 ≤ fu) {L : zL} {M : zM} (hL : Lay L) (hP : Ptr M) (h0 : 0 ≤ M 2 2) (h1 : M 2 2 ≤ 300) (a b c d e : Int) : Lx_feed fu L M 1 a b c d e = if 300 < M 2 2 + nzs (bys5 a b c d e) then some (M, -1) else some (gputs 3 2 2 M (bys5 a b c d e), M 2 2 + nzs (bys5 a b c d e)) := by
  have l1 : L 1 = (12, 0) := hL 1 (by decide)
  have l2 : L 2 = (8, 0) := hL 2 (by decide)
  have q1 : (3 : Int) ≠ 2 := by decide
  have p1 : ∀ {N : zM}, Ptr N → N 1 0 = 2 := fun h => h (1, 0, 2) (by decide)
  have na := nzs_01 (bys a)
  have nb := nzs_01 (bys b)
  have nc := nzs_01 (bys c)
  have nd := nzs_01 (bys d)
  have ne := nzs_01 (bys e)
  simp only [bys, List.length_cons, List.length_nil] at na nb nc nd ne
  have hs : nzs (bys5 a b c d e) = nzs (bys a) + nzs (bys b) + nzs (bys c) + nzs (bys d) + nzs (bys e) := by unfold bys5; simp only [nzs_app]
  have ea : nzs (bys a) ≤ 4 ∧ 0 ≤ nzs (bys a) := by unfold bys; omega
  have eb : nzs (bys b) ≤ 4 ∧ 0 ≤ nzs (bys b) := by unfold bys; omega
  have ec : nzs (bys c) ≤ 4 ∧ 0 ≤ nzs (bys c) := by unfold bys; omega
  have ed : nzs (bys d) ≤ 4 ∧ 0 ≤ nzs (bys d) := by unfold bys; omega
  have ee : nzs (bys e) ≤ 4 ∧ 0 ≤ nzs (bys e) := by unfold bys; omega
  unfold Lx_feed
  simp only [Tp_sb hf, bd1_some, lt1_def, l1, p1 hP, l2, if_true]
  simp (disch := omega) only [w32_id]
  rw [← hs]
  by_cases hb : 300 < M 2 2 + nzs (bys5 a b c d e)
  · rw [if_pos hb, if_pos hb]
  · rw [if_neg hb, if_neg hb]
    have P1 := Ptr.gputs pt_3 pt_2_2 hP (bys a)
    have P2 := Ptr.gputs pt_3 pt_2_2 P1 (bys b)
    have P3 := Ptr.gputs pt_3 pt_2_2 P2 (bys c)
    have P4 := Ptr.gputs pt_3 pt_2_2 P3 (bys d)
    have P5 := Ptr.gputs pt_3 pt_2_2 P4 (bys e)
    have g1 := gputs_len q1 (f := 2) (bys a) M
    have g2 := gputs_len q1 (f := 2) (bys b) (gputs 3 2 2 M (bys a))
    have g3 := gputs_len q1 (f := 2) (bys c) (gputs 3 2 2 (gputs 3 2 2 M (bys a)) (bys b))
    have g4 := gputs_len q1 (f := 2) (bys d) (gputs 3 2 2 (gputs 3 2 2 (gputs 3 2 2 M (bys a)) (bys b)) (bys c))
    have g5 := gputs_len q1 (f := 2) (bys e) (gputs 3 2 2 (gputs 3 2 2 (gputs 3 2 2 (gputs 3 2 2 M (bys a)) (bys b)) (bys c)) (bys d))
    rw [Tp_put_ok hf hL hP h0 (by omega), bd1_some, p1 P1, l2, if_pos rfl, Tp_put_ok hf hL P1 (by omega) (by omega), bd1_some, p1 P2, l2, if_pos rfl, Tp_put_ok hf hL P2 (by omega) (by omega), bd1_some, p1 P3, l2, if_pos rfl, Tp_put_ok hf hL P3 (by omega) (by omega), bd1_some, p1 P4, l2, if_pos rfl, Tp_put_ok hf hL P4 (by omega) (by omega), bd1_some, p1 P5, l2, if_pos rfl, g5]
    have e0 : gputs 3 2 2 M (bys5 a b c d e) = gputs 3 2 2 (gputs 3 2 2 (gputs 3 2 2 (gputs 3 2 2 (gputs 3 2 2 M (bys a)) (bys b)) (bys c)) (bys d)) (bys e) := by simp only [gputs_app, bys5]
    rw [e0, hs]
    congr 2
    omega
theorem bv_mask (x : BitVec 32) (k : Nat) (hk : k ≤ 24) : (x.sshiftRight k) &&& 255#32 = (x >>> k) &&& 255#32 := by
  apply BitVec.eq_of_getLsbD_eq
  intro i hi
  rw [BitVec.getLsbD_and, BitVec.getLsbD_and, BitVec.getLsbD_sshiftRight, BitVec.getLsbD_ushiftRight]
  by_cases h : i < 8
  · have h1 : k + i < 32 := by omega
    have h4 : ¬ 32 ≤ i := by omega
    simp [h1, hi, h4]
  · have : (255#32).getLsbD i = false := by
      have h3 : ∀ j : Nat, j < 32 → ¬ j < 8 → (255#32).getLsbD j = false := by decide
      exact h3 i hi h
    rw [this, Bool.and_false, Bool.and_false]
theorem i32_mask (x : Int32) : ∀ s : Int, s = 0 ∨ s = 8 ∨ s = 16 ∨ s = 24 → (x >>> (zO s &&& 31)) &&& zO 255 = ((x.toUInt32 >>> ((zO s).toUInt32 &&& Int32.toUInt32 31)).toInt32) &&& zO 255 := by
  intro s hs
  apply Int32.toBitVec_inj.mp
  rcases hs with rfl | rfl | rfl | rfl
  · exact bv_mask x.toBitVec 0 (by decide)
  · exact bv_mask x.toBitVec 8 (by decide)
  · exact bv_mask x.toBitVec 16 (by decide)
  · exact bv_mask x.toBitVec 24 (by decide)
theorem by8_s (w s : Int) (hs : s = 0 ∨ s = 8 ∨ s = 16 ∨ s = 24) : iand (ishr w s) 255 = iand (iushr w s) 255 := by
  unfold iand ishr iushr
  rw [zO_of, zO_of, i32_mask _ s hs]
theorem Mo_byte (fu : Nat) (L : zL) (M : zM) (a b c d e : Int) : ∀ (k : Nat), k < 20 → Mo_byteOf fu L M a b c d e (k : Int) = some ((bys5 a b c d e).getD k 0)
  | 0, _ => (show Mo_byteOf fu L M a b c d e 0 = some (iand (ishr a 24) 255) from rfl).trans (congrArg some (by8_s a 24 (by decide)))
  | 1, _ => (show Mo_byteOf fu L M a b c d e 1 = some (iand (ishr a 16) 255) from rfl).trans (congrArg some (by8_s a 16 (by decide)))
  | 2, _ => (show Mo_byteOf fu L M a b c d e 2 = some (iand (ishr a 8) 255) from rfl).trans (congrArg some (by8_s a 8 (by decide)))
  | 3, _ => (show Mo_byteOf fu L M a b c d e 3 = some (iand (ishr a 0) 255) from rfl).trans (congrArg some (by8_s a 0 (by decide)))
  | 4, _ => (show Mo_byteOf fu L M a b c d e 4 = some (iand (ishr b 24) 255) from rfl).trans (congrArg some (by8_s b 24 (by decide)))
  | 5, _ => (show Mo_byteOf fu L M a b c d e 5 = some (iand (ishr b 16) 255) from rfl).trans (congrArg some (by8_s b 16 (by decide)))
  | 6, _ => (show Mo_byteOf fu L M a b c d e 6 = some (iand (ishr b 8) 255) from rfl).trans (congrArg some (by8_s b 8 (by decide)))
  | 7, _ => (show Mo_byteOf fu L M a b c d e 7 = some (iand (ishr b 0) 255) from rfl).trans (congrArg some (by8_s b 0 (by decide)))
  | 8, _ => (show Mo_byteOf fu L M a b c d e 8 = some (iand (ishr c 24) 255) from rfl).trans (congrArg some (by8_s c 24 (by decide)))
  | 9, _ => (show Mo_byteOf fu L M a b c d e 9 = some (iand (ishr c 16) 255) from rfl).trans (congrArg some (by8_s c 16 (by decide)))
  | 10, _ => (show Mo_byteOf fu L M a b c d e 10 = some (iand (ishr c 8) 255) from rfl).trans (congrArg some (by8_s c 8 (by decide)))
  | 11, _ => (show Mo_byteOf fu L M a b c d e 11 = some (iand (ishr c 0) 255) from rfl).trans (congrArg some (by8_s c 0 (by decide)))
  | 12, _ => (show Mo_byteOf fu L M a b c d e 12 = some (iand (ishr d 24) 255) from rfl).trans (congrArg some (by8_s d 24 (by decide)))
  | 13, _ => (show Mo_byteOf fu L M a b c d e 13 = some (iand (ishr d 16) 255) from rfl).trans (congrArg some (by8_s d 16 (by decide)))
  | 14, _ => (show Mo_byteOf fu L M a b c d e 14 = some (iand (ishr d 8) 255) from rfl).trans (congrArg some (by8_s d 8 (by decide)))
  | 15, _ => (show Mo_byteOf fu L M a b c d e 15 = some (iand (ishr d 0) 255) from rfl).trans (congrArg some (by8_s d 0 (by decide)))
  | 16, _ => (show Mo_byteOf fu L M a b c d e 16 = some (iand (ishr e 24) 255) from rfl).trans (congrArg some (by8_s e 24 (by decide)))
  | 17, _ => (show Mo_byteOf fu L M a b c d e 17 = some (iand (ishr e 16) 255) from rfl).trans (congrArg some (by8_s e 16 (by decide)))
  | 18, _ => (show Mo_byteOf fu L M a b c d e 18 = some (iand (ishr e 8) 255) from rfl).trans (congrArg some (by8_s e 8 (by decide)))
  | 19, _ => (show Mo_byteOf fu L M a b c d e 19 = some (iand (ishr e 0) 255) from rfl).trans (congrArg some (by8_s e 0 (by decide)))
  | (k + 20), h => absurd h (by omega)
theorem drop_get {l : List Int} {j : Nat} (h : j < l.length) : l.drop j = l.getD j 0 :: l.drop (j + 1) := by
  rw [List.drop_eq_getElem_cons h, List.getD_eq_getElem?_getD, List.getElem?_eq_getElem h]
  rfl
theorem nzs_cons (b : Int) (bs : List Int) : nzs (b :: bs) = nz b + nzs bs := by simp only [nzs, List.map_cons, List.sum_cons]
theorem gputs_0 (A O f : Int) (M : zM) (bs : List Int) : gputs A O f M (0 :: bs) = gputs A O f M bs := by
  show gputs A O f (gput A O f M 0) bs = _
  rw [gput_0]
theorem Mo_feed_l67_ok {fu : Nat} {L : zL} (hL : Lay L) (a b c d e : Int) : ∀ (m n j : Nat) (M : zM), j + m = 20 → m < n → Ptr M → 0 ≤ M 154 2 → M 154 2 + nzs ((bys5 a b c d e).drop j) ≤ 300 → Mo_feed_l67 fu L n M 154 a b c d e (j : Int) = some (gputs 155 154 2 M ((bys5 a b c d e).drop j), M 154 2 + nzs ((bys5 a b c d e).drop j))
  | 0, n + 1, j, M, hj, hn, hP, h0, h1 => by
    have l4 : L 154 = (13, 0) := hL 154 (by decide)
    have e : (bys5 a b c d e).drop j = [] := List.drop_eq_nil_of_le (by show 20 ≤ j; omega)
    show Mo_feed_s67 _ _ _ _ _ _ _ _ _ _ _ = _
    unfold Mo_feed_s67
    rw [if_neg (by omega), l4, if_pos rfl, e]
    simp [gputs, nzs]
  | m + 1, n + 1, j, M, hj, hn, hP, h0, h1 => by
    have l4 : L 154 = (13, 0) := hL 154 (by decide)
    have l5 : L 155 = (101, 300) := hL 155 (by decide)
    have p5 : M 154 1 = 155 := hP (154, 1, 155) (by decide +kernel)
    have hd := drop_get (l := bys5 a b c d e) (j := j) (by show j < 20; omega)
    have ih := Mo_feed_l67_ok (fu := fu) hL a b c d e m n (j + 1)
    show Mo_feed_s67 _ _ _ _ _ _ _ _ _ _ _ = _
    unfold Mo_feed_s67
    rw [if_pos (by omega), Mo_byte fu L M a b c d e j (by omega), bd1_some, hd]
    rw [hd, nzs_cons] at h1
    generalize (bys5 a b c d e).getD j 0 = v at *
    have hz := nzs_01 ((bys5 a b c d e).drop (j + 1))
    have e1 : w32 ((j : Int) + 1) = ((j + 1 : Nat) : Int) := by rw [w32_id (by omega)]; omega
    by_cases hv : v = 0
    · rw [if_pos hv, lt1_def, e1]
      subst hv
      have hh := ih M (by omega) (by omega) hP h0 (by unfold nz at h1; rw [if_pos rfl] at h1; omega)
      rw [hh, nzs_cons]
      rw [show nz (0 : Int) = 0 from rfl, Int.zero_add]
      rw [gputs_0]
    · have hnz : nz v = 1 := if_neg hv
      rw [if_neg hv, l4, if_pos rfl, p5, l5, if_pos rfl, if_pos (by show 0 ≤ M 154 2 ∧ M 154 2 < 300; omega), lt1_def, lt1_def, lt1_def, e1, mx_ne (by omega), w32_id (by omega)]
      have g := gput_n (A := 155) (O := 154) (f := 2) (M := M) hv
      rw [← g]
      have gl := gput_len (A := 155) (O := 154) (f := 2) (by decide) M v
      have hh := ih (gput 155 154 2 M v) (by omega) (by omega) (hP.gput (by decide +kernel) (by decide +kernel)) (by omega) (by omega)
      rw [hh, nzs_cons, gl, Int.add_assoc]
      rfl
theorem Mo_feed_l11_ok {fu : Nat} {L : zL} (hL : Lay L) (a b c d e : Int) : ∀ (m n j : Nat) (M : zM) (x : Int), j + m = 20 → m < n → 0 ≤ M 154 2 → M 154 2 ≤ 300 → 0 ≤ x → x ≤ (j : Int) → Mo_feed_l11 fu L n M 154 a b c d e x (j : Int) = if 300 < M 154 2 + (x + nzs ((bys5 a b c d e).drop j)) then some (M, -1) else Mo_feed_l67 fu L fu M 154 a b c d e 0
  | 0, n + 1, j, M, x, hj, hn, h0, h1, h2, h3 => by
    have l4 : L 154 = (13, 0) := hL 154 (by decide)
    have e : (bys5 a b c d e).drop j = [] := List.drop_eq_nil_of_le (by show 20 ≤ j; omega)
    show Mo_feed_s11 _ _ _ _ _ _ _ _ _ _ _ _ = _
    unfold Mo_feed_s11
    rw [if_neg (by omega), l4, if_pos rfl, e, w32_id (by omega)]
    simp [nzs]
  | m + 1, n + 1, j, M, x, hj, hn, h0, h1, h2, h3 => by
    have hd := drop_get (l := bys5 a b c d e) (j := j) (by show j < 20; omega)
    have ih := Mo_feed_l11_ok (fu := fu) hL a b c d e m n (j + 1) M
    show Mo_feed_s11 _ _ _ _ _ _ _ _ _ _ _ _ = _
    unfold Mo_feed_s11
    rw [if_pos (by omega), Mo_byte fu L M a b c d e j (by omega), bd1_some, hd, nzs_cons]
    generalize (bys5 a b c d e).getD j 0 = v at *
    have e1 : w32 ((j : Int) + 1) = ((j + 1 : Nat) : Int) := by rw [w32_id (by omega)]; omega
    by_cases hv : v = 0
    · rw [if_pos hv, lt1_def, lt1_def, e1, w32_id (by omega), ih (x + 0) (by omega) (by omega) h0 h1 (by omega) (by omega), show nz v = 0 from if_pos hv, Int.add_zero, Int.zero_add]
    · rw [if_neg hv, lt1_def, lt1_def, e1, w32_id (by omega), ih (x + 1) (by omega) (by omega) h0 h1 (by omega) (by omega), show nz v = 1 from if_neg hv, Int.add_assoc]
theorem Mo_feed_ok {fu : Nat} (hf : 50 ≤ fu) {L : zL} {M : zM} (hL : Lay L) (hP : Ptr M) (h0 : 0 ≤ M 154 2) (h1 : M 154 2 ≤ 300) (a b c d e : Int) : Mo_feed fu L M 154 a b c d e = if 300 < M 154 2 + nzs (bys5 a b c d e) then some (mu M 154 0 0, -1) else some (gputs 155 154 2 (mu M 154 0 0) (bys5 a b c d e), M 154 2 + nzs (bys5 a b c d e)) := by
  have l4 : L 154 = (13, 0) := hL 154 (by decide)
  have e0 : mu M 154 0 0 154 2 = M 154 2 := mx_ne (by omega)
  unfold Mo_feed
  rw [l4, if_pos rfl, lt1_def]
  have h := Mo_feed_l11_ok (fu := fu) hL a b c d e 20 fu 0 (mu M 154 0 0) 0 (by omega) (by omega) (by omega) (by omega) (by omega) (by omega)
  rw [List.drop_zero, e0, Int.zero_add] at h
  refine h.trans ?_
  by_cases hb : 300 < M 154 2 + nzs (bys5 a b c d e)
  · rw [if_pos hb, if_pos hb]
  · rw [if_neg hb, if_neg hb]
    have hP' : Ptr (mu M 154 0 0) := hP.mu (by decide +kernel)
    have g := Mo_feed_l67_ok (fu := fu) hL a b c d e 20 fu 0 (mu M 154 0 0) (by omega) (by omega) hP' (by omega) (by rw [List.drop_zero]; omega)
    rw [List.drop_zero, e0] at g
    exact g
