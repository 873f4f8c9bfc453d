def padP (x : List Int × List Int) (k : Nat) : Int := if k < 6 then x.1.getD k 0 else x.2.getD (k - 6) 0
def cmpP (f g : Nat → Int) : Nat → Nat → Int
  | 0, _ => 0
  | d + 1, k => if f k = g k then cmpP f g d (k + 1) else if g k < f k then -1 else 1
def insL (x : List Int × List Int) : DL → DL
  | [] => [x]
  | y :: L => if 0 < cmpP (padP y) (padP x) 12 0 then y :: insL x L else if cmpP (padP y) (padP x) 12 0 = 0 then y :: L else x :: y :: L
def onN (b : Nat) : Nat → Nat
  | 0 => 0
  | k + 1 => onN b k + b / 2 ^ k % 2
def mpL (S : Int → Int) (b0 : Int) (n m : Nat) : Nat → DL
  | 0 => []
  | b + 1 => if onN b 10 + 1 = m then (match wy S b0 (bl b 0 (n + m - 2)) [0] [b0] with
    | some x => insL x (mpL S b0 n m b)
    | none => mpL S b0 n m b) else mpL S b0 n m b
def cnB (m : Nat) : Nat → Nat
  | 0 => 0
  | b + 1 => cnB m b + (if onN b 10 + 1 = m then 1 else 0)
theorem cnB_252 : ∀ m : Fin 7, cnB m.val 1024 ≤ 252 := by decide +kernel
theorem cnB_mono (m : Nat) : ∀ (e b : Nat), cnB m b ≤ cnB m (b + e)
  | 0, _ => Nat.le_refl _
  | e + 1, b => by have := cnB_mono m e b; rw [← Nat.add_assoc, cnB]; omega
theorem insL_len (x : List Int × List Int) : ∀ L : DL, (insL x L).length ≤ L.length + 1
  | [] => by simp [insL]
  | y :: L => by
    have := insL_len x L
    rw [insL]
    split
    · simp; omega
    · split <;> simp
theorem mpL_len (S : Int → Int) (b0 : Int) (n m : Nat) : ∀ b, (mpL S b0 n m b).length ≤ cnB m b
  | 0 => by simp [mpL, cnB]
  | b + 1 => by
    have ih := mpL_len S b0 n m b
    rw [mpL, cnB]
    split
    · split
      · rename_i x _
        have := insL_len x (mpL S b0 n m b)
        omega
      · omega
    · omega
theorem mpL_252 {S : Int → Int} {b0 : Int} {n m b : Nat} (hm : m ≤ 6) (hb : b ≤ 1024) : (mpL S b0 n m b).length ≤ 252 := by
  have a := mpL_len S b0 n m b
  have c := cnB_mono m (1024 - b) b
  have d := cnB_252 ⟨m, by omega⟩
  rw [show b + (1024 - b) = 1024 by omega] at c
  simp only at d
  omega
theorem cT_onN (b : Nat) : ∀ (c k : Nat), cT (bl b k c) + onN b k = onN b (k + c)
  | 0, k => by simp [bl, cT]
  | c + 1, k => by
    have ih := cT_onN b c (k + 1)
    rw [show k + (c + 1) = k + 1 + c by omega, ← ih, bl]
    have h2 : b / 2 ^ k % 2 = 0 ∨ b / 2 ^ k % 2 = 1 := by omega
    rcases h2 with h | h
    · rw [decide_eq_false (by omega)]; simp only [cT, onN]; omega
    · rw [decide_eq_true h]; simp only [cT, onN]; omega
theorem onN_hi {b c : Nat} (h : b < 2 ^ c) : ∀ e, onN b (c + e) = onN b c
  | 0 => rfl
  | e + 1 => by
    rw [show c + (e + 1) = c + e + 1 by omega, onN, onN_hi h e]
    have : b / 2 ^ (c + e) = 0 := Nat.div_eq_of_lt (Nat.lt_of_lt_of_le h (Nat.pow_le_pow_right (by omega) (by omega)))
    rw [this, Nat.zero_mod, Nat.add_zero]
theorem ones_cT {b c : Nat} (h : b < 2 ^ c) (hc : c ≤ 10) : cT (bl b 0 c) = onN b 10 := by
  have a := cT_onN b c 0
  have d := onN_hi h (10 - c)
  rw [show c + (10 - c) = 10 by omega] at d
  rw [d]
  simp only [onN, Nat.zero_add, Nat.add_zero] at a
  exact a
theorem wy_len {S : Int → Int} {b0 : Int} : ∀ (bs : List Bool) (A B A' B' : List Int), wy S b0 bs A B = some (A', B') → A'.length + cT bs = A.length + bs.length ∧ B'.length = B.length + cT bs
  | [], A, B, A', B', h => by
    rw [wy] at h
    split at h
    · cases h; simp [cT]
    · cases h
  | true :: bs, A, B, A', B', h => by
    rw [wy] at h
    split at h
    · have := wy_len bs _ _ _ _ h
      simp only [List.length_append, List.length_cons, List.length_nil, cT] at this ⊢
      omega
    · cases h
  | false :: bs, A, B, A', B', h => by
    rw [wy] at h
    split at h
    · have := wy_len bs _ _ _ _ h
      have h9 := cT_le bs
      simp only [List.length_append, List.length_cons, List.length_nil, cT] at this ⊢
      omega
    · cases h
def rowsM (dc : Nat → Int) (L : DL) : Prop := ∀ (i : Nat) (x : List Int × List Int), L[i]? = some x → ∀ k, k < 12 → dc (12 * i + k) = padP x k
def zH (nf mf : Nat) (hn : Nat → Int) : Prop := ∀ k, k < 12 → (nf ≤ k ∧ k < 6) ∨ 6 + mf ≤ k → hn k = 0
theorem zH.kp {nf mf : Nat} {hn hn' : Nat → Int} (h : zH nf mf hn) (k : kpH nf mf hn hn') : zH nf mf hn' := fun j hj z => by rw [k j z]; exact h j hj z
theorem hn_pad {nf mf : Nat} {hn : Nat → Int} {A B : List Int} (hA : pre A hn) (hB : pre B (fun j => hn (6 + j))) (la : A.length = nf) (lb9 : B.length = mf) (hz : zH nf mf hn) (h6 : nf ≤ 6) (h7 : mf ≤ 6) : ∀ k, k < 12 → hn k = padP (A, B) k := fun k hk => by
  unfold padP
  split
  · rename_i h
    rcases Nat.lt_or_ge k A.length with z | z
    · rw [List.getD_eq_getElem?_getD, List.getElem?_eq_getElem z]; exact hA k _ (List.getElem?_eq_getElem z)
    · rw [List.getD_eq_getElem?_getD, List.getElem?_eq_none z]; exact hz k hk (Or.inl ⟨by omega, h⟩)
  · rename_i h
    rcases Nat.lt_or_ge (k - 6) B.length with z | z
    · rw [List.getD_eq_getElem?_getD, List.getElem?_eq_getElem z]; have := hB (k - 6) _ (List.getElem?_eq_getElem z); simp only at this; rw [show 6 + (k - 6) = k by omega] at this; exact this
    · rw [List.getD_eq_getElem?_getD, List.getElem?_eq_none z]; exact hz k hk (Or.inr (by omega))
theorem cmpP_ext {f g f' g' : Nat → Int} : ∀ (d k : Nat), (∀ j, k ≤ j → j < k + d → f j = f' j ∧ g j = g' j) → cmpP f g d k = cmpP f' g' d k
  | 0, _, _ => rfl
  | d + 1, k, h => by
    have h0 := h k (Nat.le_refl k) (by omega)
    rw [cmpP, cmpP, h0.1, h0.2, cmpP_ext d (k + 1) (fun j a b => h j (by omega) (by omega))]
theorem ordM_cmp (dc hn : Nat → Int) (p : Nat) : ∀ d k, ordM dc hn p d k = cmpP (fun j => dc (12 * p + j)) hn d k
  | 0, _ => rfl
  | d + 1, k => by rw [ordM, cmpP, ordM_cmp dc hn p d (k + 1)]
theorem cmpP_in (f g : Nat → Int) : ∀ d k, -1 ≤ cmpP f g d k ∧ cmpP f g d k ≤ 1
  | 0, _ => by simp [cmpP]
  | d + 1, k => by
    have := cmpP_in f g d (k + 1)
    rw [cmpP]
    split
    · exact this
    · split <;> omega
def up12 (dc : Nat → Int) (top k : Nat) : Nat → Int := fun j => if k + 12 ≤ j ∧ j < top + 12 then dc (j - 12) else dc j
theorem up12_0 {dc : Nat → Int} {top : Nat} : up12 dc top top = dc := by funext j; unfold up12; rw [if_neg (by omega)]
theorem up12_s {dc : Nat → Int} {top k : Nat} (hk : k < top) : va_up (up12 dc top (k + 1)) (k + 12) (up12 dc top (k + 1) k) = up12 dc top k := by
  funext j
  unfold va_up up12
  by_cases h : j = k + 12
  · rw [if_pos h, if_neg (by omega), if_pos (by omega)]; rw [h]; rfl
  · rw [if_neg h]
    by_cases h2 : k + 1 + 12 ≤ j ∧ j < top + 12
    · rw [if_pos h2, if_pos (by omega)]
    · rw [if_neg h2, if_neg (by omega)]
def rowX (dc hn : Nat → Int) (p i : Nat) : Nat → Int := fun j => if 12 * p ≤ j ∧ j < 12 * p + i then hn (j - 12 * p) else dc j
theorem rowX_0 {dc hn : Nat → Int} {p : Nat} : rowX dc hn p 0 = dc := by funext j; unfold rowX; rw [if_neg (by omega)]
theorem rowX_s {dc hn : Nat → Int} {p i : Nat} : va_up (rowX dc hn p i) (12 * p + i) (hn i) = rowX dc hn p (i + 1) := by
  funext j
  unfold va_up rowX
  by_cases h : j = 12 * p + i
  · rw [if_pos h, if_pos (by omega), h, Nat.add_sub_cancel_left]
  · rw [if_neg h]
    by_cases h2 : 12 * p ≤ j ∧ j < 12 * p + i
    · rw [if_pos h2, if_pos (by omega)]
    · rw [if_neg h2, if_neg (by omega)]
theorem rows_ins {dc hn : Nat → Int} {L : DL} {x : List Int × List Int} {p : Nat} (h : rowsM dc L) (hx : ∀ k, k < 12 → hn k = padP x k) (hp : p ≤ L.length) : rowsM (rowX (up12 dc (12 * L.length) (12 * p)) hn p 12) (L.take p ++ x :: L.drop p) := by
  intro i y hy k hk
  unfold rowX up12
  rcases Nat.lt_trichotomy i p with z | z | z
  · rw [List.getElem?_append_left (by rw [List.length_take]; omega), List.getElem?_take_of_lt z] at hy
    rw [if_neg (by omega), if_neg (by omega)]
    exact h i y hy k hk
  · subst z
    rw [List.getElem?_append_right (by rw [List.length_take]; omega), List.length_take, Nat.min_eq_left hp, Nat.sub_self] at hy
    cases hy
    rw [if_pos (by omega), Nat.add_sub_cancel_left]
    exact hx k hk
  · rw [List.getElem?_append_right (by rw [List.length_take]; omega), List.length_take, Nat.min_eq_left hp, show i - p = (i - p - 1) + 1 by omega, List.getElem?_cons_succ, List.getElem?_drop, show p + (i - p - 1) = i - 1 by omega] at hy
    have hl := (List.getElem?_eq_some_iff.mp hy).1
    rw [if_neg (by omega), if_pos (by omega), show 12 * i + k - 12 = 12 * (i - 1) + k by omega]
    exact h (i - 1) y hy k hk
section
variable {G : GT} {h : HT} {b s t mk df jo tr di dy : SG} {a c d e B : Int} {n m k j i0 : Nat} {f g : Nat → Int} {th ln by9 dn ac bd pm pq tk fo f1 f2 : Int} {xtp xwg xwh xmd xsl xhw xhs xhd xha xp1 xp2 xp3 xl1 xl2 xrt xlf xdc xhn xsu : Nat → Int} {T : Int → Int} {p : Prop}
variable {q q2 K nf mf bits : Nat} {b0 : Int}
theorem l_M_ins {Qr : Option AV → HT → Prop} {Qt : HT → Prop} {L : DL} {x : List Int × List Int} {i p9 : Nat} {dc hn su : Nat → Int} (hi : i < 1024) (hp : p9 ≤ L.length) (hL : L.length ≤ 252) (hr : rowsM dc L) (hx : ∀ k, k < 12 → hn k = padP x k) (hq : ∀ dc, rowsM dc (L.take p9 ++ x :: L.drop p9) → AW G M_M_pairs Qr Qt 0 0 94 [some (vr 8 0), some (vi (q : Int)), some (vi (nf : Int)), some (vi (mf : Int)), some (vi ((i : Int) + 1)), none, none, none] [] (Hp b s t mk df jo tr di [some (ob 8 [vi 0, vr 8 1, vi ln, vr 8 2, vr 8 3, vr 8 4, vi by9, vr 8 5, vr 8 6, vr 8 7, vr 8 8, vr 8 9, vi dn, vi ac, vi bd, vr 8 10, vr 8 11, vr 8 12, vr 8 13, vr 8 14, vi pm, vl pq, vr 8 15, vr 8 16, vi tk, vr 8 17, vr 8 18, vr 8 19, vi ((L.length : Int) + 1), vi (nf : Int), vi (mf : Int)]), some (ar 2 200 xtp), some (ar 0 32016 xwg), some (ar 0 16 xwh), some (ar 1 2001 xmd), some (ar 0 30 xsl), some (ar 0 30 xhw), some (ar 0 30 xhs), some (ar 0 60030 xhd), some (ar 0 60030 xha), some (ar 0 600 xp1), some (ar 0 600 xp2), some (ar 1 600 xp3), some (ar 1 2001 xl1), some (ar 1 2001 xl2), some (ar 1 2001 xrt), some (ar 3 2001 xlf), some (ar 0 3600 dc), some (ar 0 12 hn), some (ar 0 4005 su)] dy)) (x5 x7 : Option AV) : AW G M_M_pairs Qr Qt 0 0 208 [some (vr 8 0), some (vi (q : Int)), some (vi (nf : Int)), some (vi (mf : Int)), some (vi (i : Int)), x5, some (vi (p9 : Int)), x7] [] (Hp b s t mk df jo tr di [some (ob 8 [vi 0, vr 8 1, vi ln, vr 8 2, vr 8 3, vr 8 4, vi by9, vr 8 5, vr 8 6, vr 8 7, vr 8 8, vr 8 9, vi dn, vi ac, vi bd, vr 8 10, vr 8 11, vr 8 12, vr 8 13, vr 8 14, vi pm, vl pq, vr 8 15, vr 8 16, vi tk, vr 8 17, vr 8 18, vr 8 19, vi (L.length : Int), vi (nf : Int), vi (mf : Int)]), some (ar 2 200 xtp), some (ar 0 32016 xwg), some (ar 0 16 xwh), some (ar 1 2001 xmd), some (ar 0 30 xsl), some (ar 0 30 xhw), some (ar 0 30 xhs), some (ar 0 60030 xhd), some (ar 0 60030 xha), some (ar 0 600 xp1), some (ar 0 600 xp2), some (ar 1 600 xp3), some (ar 1 2001 xl1), some (ar 1 2001 xl2), some (ar 1 2001 xrt), some (ar 3 2001 xlf), some (ar 0 3600 dc), some (ar 0 12 hn), some (ar 0 4005 su)] dy) := by
  have hi2 : i < 1024 := hi
  refine aw_ls (ls' := [some (vr 8 0), some (vi (q : Int)), some (vi (nf : Int)), some (vi (mf : Int)), some (vi (i : Int)), none, some (vi (p9 : Int)), none]) (lsk_s (lsk_s (lsk_s (lsk_s (lsk_s (lsk_n (lsk_s (lsk_n lsk_0)))))))) ?_
  refine aw_blk (pc' := 219) (ls' := [some (vr 8 0), some (vi (q : Int)), some (vi (nf : Int)), some (vi (mf : Int)), some (vi (i : Int)), none, some (vi (p9 : Int)), some (vi ((12 * (L.length : Int)) - 1))]) (st' := []) [.inl (.bipush 12), .inl (.aload_n 0), .inr (204, 8, 28), .inl (.imul), .inl (.iconst 1), .inl (.isub), .inl (.istore 7)] 208 _ _ (by decide +kernel) rfl ?_
  refine aw_eq (ls' := [some (vr 8 0), some (vi (q : Int)), some (vi (nf : Int)), some (vi (mf : Int)), some (vi (i : Int)), none, some (vi (p9 : Int)), some (vi (((12 * L.length - 0 : Nat) : Int) - 1))]) (h' := Hp b s t mk df jo tr di [some (ob 8 [vi 0, vr 8 1, vi ln, vr 8 2, vr 8 3, vr 8 4, vi by9, vr 8 5, vr 8 6, vr 8 7, vr 8 8, vr 8 9, vi dn, vi ac, vi bd, vr 8 10, vr 8 11, vr 8 12, vr 8 13, vr 8 14, vi pm, vl pq, vr 8 15, vr 8 16, vi tk, vr 8 17, vr 8 18, vr 8 19, vi (L.length : Int), vi (nf : Int), vi (mf : Int)]), some (ar 2 200 xtp), some (ar 0 32016 xwg), some (ar 0 16 xwh), some (ar 1 2001 xmd), some (ar 0 30 xsl), some (ar 0 30 xhw), some (ar 0 30 xhs), some (ar 0 60030 xhd), some (ar 0 60030 xha), some (ar 0 600 xp1), some (ar 0 600 xp2), some (ar 1 600 xp3), some (ar 1 2001 xl1), some (ar 1 2001 xl2), some (ar 1 2001 xrt), some (ar 3 2001 xlf), some (ar 0 3600 (up12 dc (12 * L.length) (12 * L.length - 0))), some (ar 0 12 hn), some (ar 0 4005 su)] dy) (by rw [show 12 * L.length - 0 = 12 * L.length by omega]; try rfl) rfl (by rw [show 12 * L.length - 0 = 12 * L.length by omega, up12_0]) ?_
  refine up_to (W := fun e : Nat => AW G M_M_pairs Qr Qt 0 0 219 [some (vr 8 0), some (vi (q : Int)), some (vi (nf : Int)), some (vi (mf : Int)), some (vi (i : Int)), none, some (vi (p9 : Int)), some (vi (((12 * L.length - e : Nat) : Int) - 1))] [] (Hp b s t mk df jo tr di [some (ob 8 [vi 0, vr 8 1, vi ln, vr 8 2, vr 8 3, vr 8 4, vi by9, vr 8 5, vr 8 6, vr 8 7, vr 8 8, vr 8 9, vi dn, vi ac, vi bd, vr 8 10, vr 8 11, vr 8 12, vr 8 13, vr 8 14, vi pm, vl pq, vr 8 15, vr 8 16, vi tk, vr 8 17, vr 8 18, vr 8 19, vi (L.length : Int), vi (nf : Int), vi (mf : Int)]), some (ar 2 200 xtp), some (ar 0 32016 xwg), some (ar 0 16 xwh), some (ar 1 2001 xmd), some (ar 0 30 xsl), some (ar 0 30 xhw), some (ar 0 30 xhs), some (ar 0 60030 xhd), some (ar 0 60030 xha), some (ar 0 600 xp1), some (ar 0 600 xp2), some (ar 1 600 xp3), some (ar 1 2001 xl1), some (ar 1 2001 xl2), some (ar 1 2001 xrt), some (ar 3 2001 xlf), some (ar 0 3600 (up12 dc (12 * L.length) (12 * L.length - e))), some (ar 0 12 hn), some (ar 0 4005 su)] dy)) (12 * L.length - 12 * p9) ?_ (fun e he ih => ?_) 0 (by omega)
  · rw [show 12 * L.length - (12 * L.length - 12 * p9) = 12 * p9 by omega]
    refine aw_blk (pc' := 226) (ls' := [some (vr 8 0), some (vi (q : Int)), some (vi (nf : Int)), some (vi (mf : Int)), some (vi (i : Int)), none, some (vi (p9 : Int)), some (vi (((12 * p9 : Nat) : Int) - 1))]) (st' := [vi (12 * (p9 : Int)), vi (((12 * p9 : Nat) : Int) - 1)]) [.inl (.iload 7), .inl (.bipush 12), .inl (.iload 6), .inl (.imul)] 219 _ _ (by decide +kernel) rfl ?_
    refine aw_icmp_lt (o := 26) (tgt := 252) (by decide +kernel) (by decide) (by omega) (by omega) (fun _ => ?_) (fun c => absurd (by omega) c)
    refine aw_blk (pc' := 255) (ls' := [some (vr 8 0), some (vi (q : Int)), some (vi (nf : Int)), some (vi (mf : Int)), some (vi (i : Int)), none, some (vi (p9 : Int)), some (vi 0)]) (st' := []) [.inl (.iconst 0), .inl (.istore 7)] 252 _ _ (by decide +kernel) rfl ?_
    refine aw_eq (h' := Hp b s t mk df jo tr di [some (ob 8 [vi 0, vr 8 1, vi ln, vr 8 2, vr 8 3, vr 8 4, vi by9, vr 8 5, vr 8 6, vr 8 7, vr 8 8, vr 8 9, vi dn, vi ac, vi bd, vr 8 10, vr 8 11, vr 8 12, vr 8 13, vr 8 14, vi pm, vl pq, vr 8 15, vr 8 16, vi tk, vr 8 17, vr 8 18, vr 8 19, vi (L.length : Int), vi (nf : Int), vi (mf : Int)]), some (ar 2 200 xtp), some (ar 0 32016 xwg), some (ar 0 16 xwh), some (ar 1 2001 xmd), some (ar 0 30 xsl), some (ar 0 30 xhw), some (ar 0 30 xhs), some (ar 0 60030 xhd), some (ar 0 60030 xha), some (ar 0 600 xp1), some (ar 0 600 xp2), some (ar 1 600 xp3), some (ar 1 2001 xl1), some (ar 1 2001 xl2), some (ar 1 2001 xrt), some (ar 3 2001 xlf), some (ar 0 3600 (rowX (up12 dc (12 * L.length) (12 * p9)) hn p9 0)), some (ar 0 12 hn), some (ar 0 4005 su)] dy) rfl rfl (by rw [rowX_0]) ?_
    refine up_to (W := fun k : Nat => AW G M_M_pairs Qr Qt 0 0 255 [some (vr 8 0), some (vi (q : Int)), some (vi (nf : Int)), some (vi (mf : Int)), some (vi (i : Int)), none, some (vi (p9 : Int)), some (vi (k : Int))] [] (Hp b s t mk df jo tr di [some (ob 8 [vi 0, vr 8 1, vi ln, vr 8 2, vr 8 3, vr 8 4, vi by9, vr 8 5, vr 8 6, vr 8 7, vr 8 8, vr 8 9, vi dn, vi ac, vi bd, vr 8 10, vr 8 11, vr 8 12, vr 8 13, vr 8 14, vi pm, vl pq, vr 8 15, vr 8 16, vi tk, vr 8 17, vr 8 18, vr 8 19, vi (L.length : Int), vi (nf : Int), vi (mf : Int)]), some (ar 2 200 xtp), some (ar 0 32016 xwg), some (ar 0 16 xwh), some (ar 1 2001 xmd), some (ar 0 30 xsl), some (ar 0 30 xhw), some (ar 0 30 xhs), some (ar 0 60030 xhd), some (ar 0 60030 xha), some (ar 0 600 xp1), some (ar 0 600 xp2), some (ar 1 600 xp3), some (ar 1 2001 xl1), some (ar 1 2001 xl2), some (ar 1 2001 xrt), some (ar 3 2001 xlf), some (ar 0 3600 (rowX (up12 dc (12 * L.length) (12 * p9)) hn p9 k)), some (ar 0 12 hn), some (ar 0 4005 su)] dy)) 12 ?_ (fun k hk9 ih => ?_) 0 (by omega)
    · refine aw_blk (pc' := 259) (ls' := [some (vr 8 0), some (vi (q : Int)), some (vi (nf : Int)), some (vi (mf : Int)), some (vi (i : Int)), none, some (vi (p9 : Int)), some (vi ((12 : Nat) : Int))]) (st' := [vi 12, vi ((12 : Nat) : Int)]) [.inl (.iload 7), .inl (.bipush 12)] 255 _ _ (by decide +kernel) rfl ?_
      refine aw_icmp_ge (o := 29) (tgt := 288) (by decide +kernel) (by decide) (by omega) (by omega) (fun _ => ?_) (fun c => absurd (by omega) c)
      refine aw_blk (pc' := 295) (ls' := [some (vr 8 0), some (vi (q : Int)), some (vi (nf : Int)), some (vi (mf : Int)), some (vi (i : Int)), none, some (vi (p9 : Int)), some (vi ((12 : Nat) : Int))]) (st' := [vi ((L.length : Int) + 1), vr 8 0]) [.inl (.aload_n 0), .inl (.dup), .inr (204, 8, 28), .inl (.iconst 1), .inl (.iadd)] 288 _ _ (by decide +kernel) rfl ?_
      refine aw_put (idx := 204) (ci := 8) (k := 28) (h' := Hp b s t mk df jo tr di [some (ob 8 [vi 0, vr 8 1, vi ln, vr 8 2, vr 8 3, vr 8 4, vi by9, vr 8 5, vr 8 6, vr 8 7, vr 8 8, vr 8 9, vi dn, vi ac, vi bd, vr 8 10, vr 8 11, vr 8 12, vr 8 13, vr 8 14, vi pm, vl pq, vr 8 15, vr 8 16, vi tk, vr 8 17, vr 8 18, vr 8 19, vi ((L.length : Int) + 1), vi (nf : Int), vi (mf : Int)]), some (ar 2 200 xtp), some (ar 0 32016 xwg), some (ar 0 16 xwh), some (ar 1 2001 xmd), some (ar 0 30 xsl), some (ar 0 30 xhw), some (ar 0 30 xhs), some (ar 0 60030 xhd), some (ar 0 60030 xha), some (ar 0 600 xp1), some (ar 0 600 xp2), some (ar 1 600 xp3), some (ar 1 2001 xl1), some (ar 1 2001 xl2), some (ar 1 2001 xrt), some (ar 3 2001 xlf), some (ar 0 3600 (rowX (up12 dc (12 * L.length) (12 * p9)) hn p9 12)), some (ar 0 12 hn), some (ar 0 4005 su)] dy) (by decide +kernel) (by decide +kernel) rfl (Nat.le_of_ble_eq_true rfl) (show I32 _ from by omega) rfl ?_
      refine aw_blk (pc' := 301) (ls' := [some (vr 8 0), some (vi (q : Int)), some (vi (nf : Int)), some (vi (mf : Int)), some (vi ((i : Int) + 1)), none, some (vi (p9 : Int)), some (vi ((12 : Nat) : Int))]) (st' := []) [.inl (.iinc 4 1)] 298 _ _ (by decide +kernel) rfl ?_
      refine aw_goto (o := -207) (tgt := 94) (by decide +kernel) (by decide) ?_
      refine aw_ls (ls' := [some (vr 8 0), some (vi (q : Int)), some (vi (nf : Int)), some (vi (mf : Int)), some (vi ((i : Int) + 1)), none, none, none]) (lsk_s (lsk_s (lsk_s (lsk_s (lsk_s (lsk_n (lsk_n (lsk_n lsk_0)))))))) ?_
      refine hq _ ?_
      exact rows_ins hr hx hp
    · refine aw_blk (pc' := 259) (ls' := [some (vr 8 0), some (vi (q : Int)), some (vi (nf : Int)), some (vi (mf : Int)), some (vi (i : Int)), none, some (vi (p9 : Int)), some (vi (k : Int))]) (st' := [vi 12, vi (k : Int)]) [.inl (.iload 7), .inl (.bipush 12)] 255 _ _ (by decide +kernel) rfl ?_
      refine aw_icmp_ge (o := 29) (tgt := 288) (by decide +kernel) (by decide) (by omega) (by omega) (fun c => absurd c (by omega)) (fun _ => ?_)
      refine aw_blk (pc' := 280) (ls' := [some (vr 8 0), some (vi (q : Int)), some (vi (nf : Int)), some (vi (mf : Int)), some (vi (i : Int)), none, some (vi (p9 : Int)), some (vi (k : Int))]) (st' := [vi (k : Int), vr 8 18, vi ((12 * (p9 : Int)) + (k : Int)), vr 8 17]) [.inl (.aload_n 0), .inr (70, 8, 25), .inl (.bipush 12), .inl (.iload 6), .inl (.imul), .inl (.iload 7), .inl (.iadd), .inl (.aload_n 0), .inr (73, 8, 26), .inl (.iload 7)] 262 _ _ (by decide +kernel) rfl ?_
      refine aw_iald (j := k) (by decide +kernel) rfl (by omega) (by omega) (fun r280 => ?_)
      refine aw_iast (j := 12 * p9 + k) (h' := Hp b s t mk df jo tr di [some (ob 8 [vi 0, vr 8 1, vi ln, vr 8 2, vr 8 3, vr 8 4, vi by9, vr 8 5, vr 8 6, vr 8 7, vr 8 8, vr 8 9, vi dn, vi ac, vi bd, vr 8 10, vr 8 11, vr 8 12, vr 8 13, vr 8 14, vi pm, vl pq, vr 8 15, vr 8 16, vi tk, vr 8 17, vr 8 18, vr 8 19, vi (L.length : Int), vi (nf : Int), vi (mf : Int)]), some (ar 2 200 xtp), some (ar 0 32016 xwg), some (ar 0 16 xwh), some (ar 1 2001 xmd), some (ar 0 30 xsl), some (ar 0 30 xhw), some (ar 0 30 xhs), some (ar 0 60030 xhd), some (ar 0 60030 xha), some (ar 0 600 xp1), some (ar 0 600 xp2), some (ar 1 600 xp3), some (ar 1 2001 xl1), some (ar 1 2001 xl2), some (ar 1 2001 xrt), some (ar 3 2001 xlf), some (ar 0 3600 (va_up (rowX (up12 dc (12 * L.length) (12 * p9)) hn p9 k) (12 * p9 + k) (hn k))), some (ar 0 12 hn), some (ar 0 4005 su)] dy) (by decide +kernel) rfl (by omega) (by omega) (by omega) rfl ?_
      refine aw_blk (pc' := 285) (ls' := [some (vr 8 0), some (vi (q : Int)), some (vi (nf : Int)), some (vi (mf : Int)), some (vi (i : Int)), none, some (vi (p9 : Int)), some (vi ((k : Int) + 1))]) (st' := []) [.inl (.iinc 7 1)] 282 _ _ (by decide +kernel) rfl ?_
      refine aw_goto (o := -30) (tgt := 255) (by decide +kernel) (by decide) ?_
      exact aw_eq rfl rfl (by rw [← rowX_s]) ih
  · refine aw_blk (pc' := 226) (ls' := [some (vr 8 0), some (vi (q : Int)), some (vi (nf : Int)), some (vi (mf : Int)), some (vi (i : Int)), none, some (vi (p9 : Int)), some (vi (((12 * L.length - e : Nat) : Int) - 1))]) (st' := [vi (12 * (p9 : Int)), vi (((12 * L.length - e : Nat) : Int) - 1)]) [.inl (.iload 7), .inl (.bipush 12), .inl (.iload 6), .inl (.imul)] 219 _ _ (by decide +kernel) rfl ?_
    refine aw_icmp_lt (o := 26) (tgt := 252) (by decide +kernel) (by decide) (by omega) (by omega) (fun c => absurd c (by omega)) (fun _ => ?_)
    refine aw_blk (pc' := 244) (ls' := [some (vr 8 0), some (vi (q : Int)), some (vi (nf : Int)), some (vi (mf : Int)), some (vi (i : Int)), none, some (vi (p9 : Int)), some (vi (((12 * L.length - e : Nat) : Int) - 1))]) (st' := [vi (((12 * L.length - e : Nat) : Int) - 1), vr 8 17, vi ((((12 * L.length - e : Nat) : Int) - 1) + 12), vr 8 17]) [.inl (.aload_n 0), .inr (70, 8, 25), .inl (.iload 7), .inl (.bipush 12), .inl (.iadd), .inl (.aload_n 0), .inr (70, 8, 25), .inl (.iload 7)] 229 _ _ (by decide +kernel) rfl ?_
    refine aw_iald (j := 12 * L.length - e - 1) (by decide +kernel) rfl (by omega) (by omega) (fun r244 => ?_)
    refine aw_iast (j := 12 * L.length - e - 1 + 12) (h' := Hp b s t mk df jo tr di [some (ob 8 [vi 0, vr 8 1, vi ln, vr 8 2, vr 8 3, vr 8 4, vi by9, vr 8 5, vr 8 6, vr 8 7, vr 8 8, vr 8 9, vi dn, vi ac, vi bd, vr 8 10, vr 8 11, vr 8 12, vr 8 13, vr 8 14, vi pm, vl pq, vr 8 15, vr 8 16, vi tk, vr 8 17, vr 8 18, vr 8 19, vi (L.length : Int), vi (nf : Int), vi (mf : Int)]), some (ar 2 200 xtp), some (ar 0 32016 xwg), some (ar 0 16 xwh), some (ar 1 2001 xmd), some (ar 0 30 xsl), some (ar 0 30 xhw), some (ar 0 30 xhs), some (ar 0 60030 xhd), some (ar 0 60030 xha), some (ar 0 600 xp1), some (ar 0 600 xp2), some (ar 1 600 xp3), some (ar 1 2001 xl1), some (ar 1 2001 xl2), some (ar 1 2001 xrt), some (ar 3 2001 xlf), some (ar 0 3600 (va_up (up12 dc (12 * L.length) (12 * L.length - e)) (12 * L.length - e - 1 + 12) ((up12 dc (12 * L.length) (12 * L.length - e)) (12 * L.length - e - 1)))), some (ar 0 12 hn), some (ar 0 4005 su)] dy) (by decide +kernel) rfl (by omega) (by omega) (by omega) rfl ?_
    refine aw_blk (pc' := 249) (ls' := [some (vr 8 0), some (vi (q : Int)), some (vi (nf : Int)), some (vi (mf : Int)), some (vi (i : Int)), none, some (vi (p9 : Int)), some (vi ((((12 * L.length - e : Nat) : Int) - 1) + (-1)))]) (st' := []) [.inl (.iinc 7 (-1))] 246 _ _ (by decide +kernel) rfl ?_
    refine aw_goto (o := -30) (tgt := 219) (by decide +kernel) (by decide) ?_
    exact aw_eq (by rw [show ((12 * L.length - (e + 1) : Nat) : Int) - 1 = ((12 * L.length - e : Nat) : Int) - 1 + (-1) by omega]) rfl (by have h9 := up12_s (dc := dc) (top := 12 * L.length) (k := 12 * L.length - e - 1) (by omega); rw [show 12 * L.length - e - 1 + 1 = 12 * L.length - e by omega] at h9; rw [h9, show 12 * L.length - e - 1 = 12 * L.length - (e + 1) by omega]) ih
end
