/-! ===== pure: part 51 ===== -/
/-! ===== pure: pieces alike ===== -/
theorem fnd_congr {g h : Int → Int} {c : Int} (k : Nat) (i : Int) (hh : ∀ j, i ≤ j → j < i + k → g j = h j) : fnd g c k i = fnd h c k i := fnd_shift k i (fun j h1 h2 => by rw [hh j h1 h2])
theorem tkB_congr {f g : Int → Int} {n p : Int} (he : ∀ i, 0 ≤ i → i < n → f i = g i) (h : 0 ≤ p) : tkB f n p = tkB g n p := wh_congr he 301 p h
theorem tkK_congr {f g : Int → Int} {n b : Int} (he : ∀ i, 0 ≤ i → i < n → f i = g i) (h : 0 ≤ b) : tkK f n b = tkK g n b := by
  unfold tkK
  by_cases hb : b < n
  · rw [if_pos hb, if_pos hb, he b h hb]
  · rw [if_neg hb, if_neg hb]
theorem tkE_congr {f g : Int → Int} {n b : Int} (he : ∀ i, 0 ≤ i → i < n → f i = g i) (h : 0 ≤ b) : tkE f n b = tkE g n b := by
  unfold tkE
  by_cases hb : b < n
  · rw [if_pos hb, if_pos hb, he b h hb, wh_congr he 301 b h, wh_congr he 301 b h]
  · rw [if_neg hb, if_neg hb]
theorem nxt_congr {f g : Int → Int} {n b : Int} (he : ∀ i, 0 ≤ i → i < n → f i = g i) (h : 0 ≤ b) (hn : b ≤ n) : nxt f n b = nxt g n b := by
  have e0 := tkE_ge (f := g) hn
  unfold nxt
  rw [tkE_congr he h, tkB_congr he (by omega)]
theorem nxt_ge {f : Int → Int} {n b : Int} (hn : b ≤ n) : b ≤ nxt f n b := by
  have e0 := tkE_ge (f := f) hn
  have e1 := tkB_ge (f := f) (n := n) (p := tkE f n b)
  unfold nxt
  omega
theorem nxt_le {f : Int → Int} {n b : Int} (hn : b ≤ n) : nxt f n b ≤ n := tkB_le (tkE_le hn)
theorem ltr_congr {f g : Int → Int} {n b : Int} (he : ∀ i, 0 ≤ i → i < n → f i = g i) (h : 0 ≤ b) : ltr f n b = ltr g n b := by
  unfold ltr
  rw [tkK_congr he h, tkE_congr he h]
  by_cases hk : tkK g n b = 1 ∧ tkE g n b - b = 1
  · have hlt := tkK_lt (f := g) (n := n) (b := b) (by omega)
    rw [if_pos hk, if_pos hk, he b h hlt]
  · rw [if_neg hk, if_neg hk]
theorem eqs_congr {f g : Int → Int} {n : Int} (he : ∀ i, 0 ≤ i → i < n → f i = g i) : ∀ (l : List Nat) (i : Int), 0 ≤ i → i + (l.length : Int) ≤ n → eqs f i l = eqs g i l
  | [], _, _, _ => rfl
  | c :: cs, i, h0, h1 => by
    simp only [List.length_cons] at h1
    unfold eqs
    rw [he i h0 (by omega), eqs_congr he cs (i + 1) (by omega) (by omega)]
theorem isW_congr {f g : Int → Int} {n b : Int} (he : ∀ i, 0 ≤ i → i < n → f i = g i) (h : 0 ≤ b) (hn : b ≤ n) (s : Nat) : isW s f n b = isW s g n b := by
  have e1 := tkE_le (f := g) hn
  unfold isW
  rw [tkK_congr he h, tkE_congr he h]
  by_cases hk : tkE g n b - b = ((zstr.getD s []).length : Int)
  · rw [eqs_congr he _ b h (by omega)]
  · rw [decide_eq_false hk, Bool.false_and, Bool.false_and]
theorem isG_congr {f g : Int → Int} {n b : Int} (he : ∀ i, 0 ≤ i → i < n → f i = g i) (h : 0 ≤ b) (c : Int) : isG c f n b = isG c g n b := by
  unfold isG
  rw [tkK_congr he h]
  by_cases hk : tkK g n b = 3
  · have hlt := tkK_lt (f := g) (n := n) (b := b) (by omega)
    rw [he b h hlt]
  · rw [decide_eq_false (fun z => hk z.1), decide_eq_false (fun z => hk z.1)]
theorem tkV_congr {f g : Int → Int} {n b : Int} (he : ∀ i, 0 ≤ i → i < n → f i = g i) (h : 0 ≤ b) (hn : b ≤ n) : tkV f n b = tkV g n b := by
  have e0 := tkE_ge (f := g) hn
  have e1 := tkE_le (f := g) hn
  unfold tkV
  rw [tkE_congr he h]
  exact dv_congr _ b 0 (fun j h1 h2 => he j (by omega) (by omega))
theorem isN_congr {f g : Int → Int} {n b : Int} (he : ∀ i, 0 ≤ i → i < n → f i = g i) (h : 0 ≤ b) (hn : b ≤ n) (m : Int) : isN m f n b = isN m g n b := by
  unfold isN
  rw [tkK_congr he h, tkE_congr he h, tkV_congr he h hn]
/-- a piece is the same on tapes and rows that are alike -/
theorem piece_congr {f f' g g' h h' : Int → Int} {n m b : Int} (he : ∀ i, 0 ≤ i → i < n → f i = f' i) (hg : ∀ i, 0 ≤ i → i < m → g i = g' i) (hh : ∀ i, 0 ≤ i → i < m → h i = h' i) (h0 : 0 ≤ b) (hn : b ≤ n) (hm : 0 ≤ m) : piece f n m g h b = piece f' n m g' h' b := by
  have a1 := nxt_congr he h0 hn
  have b1 := nxt_ge (f := f') hn
  have c1 := nxt_le (f := f') hn
  have a2 := nxt_congr he (b := nxt f' n b) (by omega) c1
  have b2 := nxt_ge (f := f') c1
  have c2 := nxt_le (f := f') c1
  have a3 := nxt_congr he (b := nxt f' n (nxt f' n b)) (by omega) c2
  have b3 := nxt_ge (f := f') c2
  have c3 := nxt_le (f := f') c2
  have a4 := nxt_congr he (b := nxt f' n (nxt f' n (nxt f' n b))) (by omega) c3
  have fc : ∀ c, fnd g c m.toNat 0 = fnd g' c m.toNat 0 := fun c => fnd_congr _ 0 (fun j h1 h2 => hg j h1 (by omega))
  unfold piece
  rw [a1, a2, a3, a4, ltr_congr he h0, ltr_congr he (b := nxt f' n (nxt f' n (nxt f' n b))) (by omega), isN_congr he (by omega) c1, isW_congr he (by omega) c2, tkV_congr he (by omega) c1, fc, fc]
  have pr := fnd_r g' (ltr f' n (nxt f' n (nxt f' n (nxt f' n b)))) m.toNat 0
  generalize fnd g' (ltr f' n (nxt f' n (nxt f' n (nxt f' n b)))) m.toNat 0 = p at *
  by_cases hp : 0 ≤ p
  · rw [hh p hp (by omega)]
  · have e : ∀ x : Int, ¬ (0 ≤ p ∧ 13 ≤ x) := fun x z => hp z.1
    rw [if_neg (e _), if_neg (e _)]
