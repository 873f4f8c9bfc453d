/-- what the reference pairs with its like; its lists -/
def jBo (T T2 : Int → Int) (W W2 d v : Int) : Int := if d = 1 then 0 else if T v * W2 < T2 v * W then T v * W2 else T2 v * W
def lkM (T T2 : Int → Int) (W W2 d : Int) : Nat → List T3
  | 0 => []
  | k + 1 => lkM T T2 W W2 d k ++ (if 0 < jBo T T2 W W2 d (idv k) then [(idv k, idv k, jBo T T2 W W2 d (idv k))] else [])
def jlA (T T2 : Int → Int) (W W2 d : Int) (k : Nat) : Int := T (idv k) * W2 - jBo T T2 W W2 d (idv k)
def jlB (T T2 : Int → Int) (W W2 d : Int) (k : Nat) : Int := T2 (idv k) * W - jBo T T2 W W2 d (idv k)
def jM (T T2 : Int → Int) (W W2 d : Int) : List T3 := lkM T T2 W W2 d 2001 ++ nw (tab idv (jlA T T2 W W2 d) 0 2001) (tab idv (jlB T T2 W W2 d) 0 2001)
theorem lkM_len (T T2 : Int → Int) (W W2 d : Int) : ∀ (e k : Nat), (lkM T T2 W W2 d k).length ≤ (lkM T T2 W W2 d (k + e)).length
  | 0, k => Nat.le_refl _
  | e + 1, k => by
    have := lkM_len T T2 W W2 d e k
    rw [show k + (e + 1) = k + e + 1 by omega, lkM, List.length_append]
    omega
theorem nw_nil (A : List (Int × Int)) : nw A [] = [] := by cases A <;> simp [nw]
theorem nw_0l (B : List (Int × Int)) : nw [] B = [] := by simp [nw]
theorem nw_zl {v w y : Int} {A B : List (Int × Int)} (hy : 0 ≤ y) : nw ((v, 0) :: A) ((w, y) :: B) = nw A ((w, y) :: B) := by
  rw [nw, if_pos hy, if_neg (by omega), Int.sub_zero]; rfl
theorem nw_zr {v w x : Int} {A B : List (Int × Int)} (hx : 0 < x) : nw ((v, x) :: A) ((w, 0) :: B) = nw ((v, x) :: A) B := by
  rw [nw, if_neg (by omega), if_neg (by omega), Int.sub_zero]; rfl
theorem nw_em {v w x y z : Int} {A B : List (Int × Int)} (hx : 0 < x) (hy : 0 < y) (hz : z = if x < y then x else y) : nw ((v, x) :: A) ((w, y) :: B) = (v, w, z) :: nw ((v, x - z) :: A) ((w, y - z) :: B) := by
  by_cases h : x ≤ y
  · have e : z = x := by rw [hz]; split <;> omega
    subst e
    rw [Int.sub_self, nw_zl (by omega), nw, if_pos h, if_pos (by omega)]; rfl
  · have e : z = y := by rw [hz]; split <;> omega
    subst e
    rw [Int.sub_self, nw_zr (by omega), nw, if_neg h, if_pos (by omega)]; rfl
theorem tab_s {f g : Nat → Int} {i : Nat} (hi : i < 2001) : tab f g i (2001 - i) = (f i, g i) :: tab f g (i + 1) (2001 - (i + 1)) := by
  rw [show 2001 - i = (2001 - (i + 1)) + 1 by omega]; rfl
theorem tab_e {f g : Nat → Int} : tab f g 2001 (2001 - 2001) = [] := rfl
theorem tab_u {f g : Nat → Int} {i : Nat} {x : Int} (hi : i < 2001) : tab f (va_up g i x) i (2001 - i) = (f i, x) :: tab f g (i + 1) (2001 - (i + 1)) := by
  rw [tab_s hi, tab_up (by omega), va_eq]
theorem jBo_in {T T2 : Int → Int} {W W2 d v : Int} (h : 0 ≤ T v ∧ T v ≤ 1048576) (h2 : 0 ≤ T2 v ∧ T2 v ≤ 1048576) (hw : 1 ≤ W ∧ W ≤ 1048576) (hw2 : 1 ≤ W2 ∧ W2 ≤ 1048576) : 0 ≤ jBo T T2 W W2 d v ∧ jBo T T2 W W2 d v ≤ T v * W2 ∧ jBo T T2 W W2 d v ≤ T2 v * W ∧ T v * W2 ≤ 1099511627776 ∧ T2 v * W ≤ 1099511627776 := by
  have a := mulB (x := T v) (y := W2) (by omega) (by omega) (by omega) (by omega)
  have b := mulB (x := T2 v) (y := W) (by omega) (by omega) (by omega) (by omega)
  unfold jBo
  split
  · omega
  · split <;> omega
def inJ (f : Nat → Int) : Prop := ∀ k, k < 2001 → 0 ≤ f k ∧ f k ≤ 1099511627776
theorem inJ_up {f : Nat → Int} {i : Nat} {x : Int} (h : inJ f) (hx : 0 ≤ x ∧ x ≤ 1099511627776) : inJ (va_up f i x) := fun k hk => by
  unfold va_up; split; exact hx; exact h k hk
def jmu (l1 l2 : Nat → Int) (i j : Nat) : Nat := 2 * (4002 - i - j) + (if l1 i = 0 then 0 else 1) + (if l2 j = 0 then 0 else 1)
theorem jmu_i {l1 l2 : Nat → Int} {i j : Nat} (h0 : l1 i = 0) (hi : i < 2001) (hj : j ≤ 2001) : jmu l1 l2 (i + 1) j < jmu l1 l2 i j := by
  unfold jmu
  rw [h0, if_pos rfl]
  have a : (if l1 (i + 1) = 0 then 0 else 1) ≤ 1 := by split <;> omega
  omega
theorem jmu_j {l1 l2 : Nat → Int} {i j : Nat} (h0 : l2 j = 0) (hi : i ≤ 2001) (hj : j < 2001) : jmu l1 l2 i (j + 1) < jmu l1 l2 i j := by
  unfold jmu
  rw [h0, if_pos rfl]
  have a : (if l2 (j + 1) = 0 then 0 else 1) ≤ 1 := by split <;> omega
  omega
theorem jmu_e {l1 l2 : Nat → Int} {i j : Nat} {z : Int} (h1 : l1 i ≠ 0) (h2 : l2 j ≠ 0) (hz : z = l1 i ∨ z = l2 j) : jmu (va_up l1 i (l1 i - z)) (va_up l2 j (l2 j - z)) i j < jmu l1 l2 i j := by
  unfold jmu
  rw [va_eq, va_eq, if_neg h1, if_neg h2]
  have a : (if l1 i - z = 0 then 0 else 1) ≤ 1 := by split <;> omega
  have b : (if l2 j - z = 0 then 0 else 1) ≤ 1 := by split <;> omega
  rcases hz with e | e
  · have c : (if l1 i - z = 0 then 0 else 1) = 0 := by rw [if_pos (by omega)]
    omega
  · have c : (if l2 j - z = 0 then 0 else 1) = 0 := by rw [if_pos (by omega)]
    omega
section
variable {G : GT} {h : HT} {b s t mk df jo tr di dy : SG} {a c d e B : Int} {n m k j i0 : Nat} {f g : Nat → Int} {th ln by9 dn ac bd pm pq tk fo f1 f2 : Int} {xtp xwg xwh xmd xsl xhw xhs xhd xha xp1 xp2 xp3 xl1 xl2 xrt xlf xdc xhn xsu : Nat → Int} {T : Int → Int} {p : Prop}
variable {q q2 : Nat}
theorem m_M_pairs0 (hk : k < 600) (ha : I32 a) (hc : I32 c) (he : I64 e) : ADet G M_M_pairs0 [vr 8 0, vi a, vi c, vl e] (Hp b s t mk df jo tr di (sgM th ln by9 dn ac bd (k : Int) pq tk fo f1 f2 xtp xwg xwh xmd xsl xhw xhs xhd xha xp1 xp2 xp3 xl1 xl2 xrt xlf xdc xhn xsu) dy) none (Hp b s t mk df jo tr di (sgM th ln by9 dn ac bd ((k : Int) + 1) pq tk fo f1 f2 xtp xwg xwh xmd xsl xhw xhs xhd xha (va_up xp1 k a) (va_up xp2 k c) (va_up xp3 k e) xl1 xl2 xrt xlf xdc xhn xsu) dy) := by
  refine am_det (by decide +kernel) (Nat.le_of_ble_eq_true rfl) (fun Qr Qt hq => ?_)
  refine aw_blk (pc' := 9) (ls' := [some (vr 8 0), some (vi a), some (vi c), some (vl e), none]) (st' := [vi a, vi (k : Int), vr 8 10]) [.inl (.aload_n 0), .inr (44, 8, 15), .inl (.aload_n 0), .inr (172, 8, 20), .inl (.iload_n 1)] 0 _ _ (by decide +kernel) rfl ?_
  refine aw_iast (j := k) (h' := Hp b s t mk df jo tr di [some (ob 8 [vi th, vr 8 1, vi ln, vr 8 2, vr 8 3, vr 8 4, vi by9, vr 8 5, vr 8 6, vr 8 7, vr 8 8, vr 8 9, vi dn, vi ac, vi bd, vr 8 10, vr 8 11, vr 8 12, vr 8 13, vr 8 14, vi (k : Int), vl pq, vr 8 15, vr 8 16, vi tk, vr 8 17, vr 8 18, vr 8 19, vi fo, vi f1, vi f2]), some (ar 2 200 xtp), some (ar 0 32016 xwg), some (ar 0 16 xwh), some (ar 1 2001 xmd), some (ar 0 30 xsl), some (ar 0 30 xhw), some (ar 0 30 xhs), some (ar 0 60030 xhd), some (ar 0 60030 xha), some (ar 0 600 (va_up xp1 k a)), some (ar 0 600 xp2), some (ar 1 600 xp3), some (ar 1 2001 xl1), some (ar 1 2001 xl2), some (ar 1 2001 xrt), some (ar 3 2001 xlf), some (ar 0 3600 xdc), some (ar 0 12 xhn), some (ar 0 4005 xsu)] dy) (by decide +kernel) rfl (by omega) (by omega) (by omega) rfl ?_
  refine aw_blk (pc' := 19) (ls' := [some (vr 8 0), some (vi a), some (vi c), some (vl e), none]) (st' := [vi c, vi (k : Int), vr 8 11]) [.inl (.aload_n 0), .inr (47, 8, 16), .inl (.aload_n 0), .inr (172, 8, 20), .inl (.iload_n 2)] 10 _ _ (by decide +kernel) rfl ?_
  refine aw_iast (j := k) (h' := Hp b s t mk df jo tr di [some (ob 8 [vi th, vr 8 1, vi ln, vr 8 2, vr 8 3, vr 8 4, vi by9, vr 8 5, vr 8 6, vr 8 7, vr 8 8, vr 8 9, vi dn, vi ac, vi bd, vr 8 10, vr 8 11, vr 8 12, vr 8 13, vr 8 14, vi (k : Int), vl pq, vr 8 15, vr 8 16, vi tk, vr 8 17, vr 8 18, vr 8 19, vi fo, vi f1, vi f2]), some (ar 2 200 xtp), some (ar 0 32016 xwg), some (ar 0 16 xwh), some (ar 1 2001 xmd), some (ar 0 30 xsl), some (ar 0 30 xhw), some (ar 0 30 xhs), some (ar 0 60030 xhd), some (ar 0 60030 xha), some (ar 0 600 (va_up xp1 k a)), some (ar 0 600 (va_up xp2 k c)), some (ar 1 600 xp3), some (ar 1 2001 xl1), some (ar 1 2001 xl2), some (ar 1 2001 xrt), some (ar 3 2001 xlf), some (ar 0 3600 xdc), some (ar 0 12 xhn), some (ar 0 4005 xsu)] dy) (by decide +kernel) rfl (by omega) (by omega) (by omega) rfl ?_
  refine aw_blk (pc' := 29) (ls' := [some (vr 8 0), some (vi a), some (vi c), some (vl e), none]) (st' := [vl e, vi (k : Int), vr 8 12]) [.inl (.aload_n 0), .inr (50, 8, 17), .inl (.aload_n 0), .inr (172, 8, 20), .inl (.lload_n 3)] 20 _ _ (by decide +kernel) rfl ?_
  refine aw_last (j := k) (h' := Hp b s t mk df jo tr di [some (ob 8 [vi th, vr 8 1, vi ln, vr 8 2, vr 8 3, vr 8 4, vi by9, vr 8 5, vr 8 6, vr 8 7, vr 8 8, vr 8 9, vi dn, vi ac, vi bd, vr 8 10, vr 8 11, vr 8 12, vr 8 13, vr 8 14, vi (k : Int), vl pq, vr 8 15, vr 8 16, vi tk, vr 8 17, vr 8 18, vr 8 19, vi fo, vi f1, vi f2]), some (ar 2 200 xtp), some (ar 0 32016 xwg), some (ar 0 16 xwh), some (ar 1 2001 xmd), some (ar 0 30 xsl), some (ar 0 30 xhw), some (ar 0 30 xhs), some (ar 0 60030 xhd), some (ar 0 60030 xha), some (ar 0 600 (va_up xp1 k a)), some (ar 0 600 (va_up xp2 k c)), some (ar 1 600 (va_up xp3 k e)), some (ar 1 2001 xl1), some (ar 1 2001 xl2), some (ar 1 2001 xrt), some (ar 3 2001 xlf), some (ar 0 3600 xdc), some (ar 0 12 xhn), some (ar 0 4005 xsu)] dy) (by decide +kernel) rfl (by omega) (by omega) (by omega) rfl ?_
  refine aw_blk (pc' := 37) (ls' := [some (vr 8 0), some (vi a), some (vi c), some (vl e), none]) (st' := [vi ((k : Int) + 1), vr 8 0]) [.inl (.aload_n 0), .inl (.dup), .inr (172, 8, 20), .inl (.iconst 1), .inl (.iadd)] 30 _ _ (by decide +kernel) rfl ?_
  refine aw_put (idx := 172) (ci := 8) (k := 20) (h' := Hp b s t mk df jo tr di [some (ob 8 [vi th, vr 8 1, vi ln, vr 8 2, vr 8 3, vr 8 4, vi by9, vr 8 5, vr 8 6, vr 8 7, vr 8 8, vr 8 9, vi dn, vi ac, vi bd, vr 8 10, vr 8 11, vr 8 12, vr 8 13, vr 8 14, vi ((k : Int) + 1), vl pq, vr 8 15, vr 8 16, vi tk, vr 8 17, vr 8 18, vr 8 19, vi fo, vi f1, vi f2]), some (ar 2 200 xtp), some (ar 0 32016 xwg), some (ar 0 16 xwh), some (ar 1 2001 xmd), some (ar 0 30 xsl), some (ar 0 30 xhw), some (ar 0 30 xhs), some (ar 0 60030 xhd), some (ar 0 60030 xha), some (ar 0 600 (va_up xp1 k a)), some (ar 0 600 (va_up xp2 k c)), some (ar 1 600 (va_up xp3 k e)), some (ar 1 2001 xl1), some (ar 1 2001 xl2), some (ar 1 2001 xrt), some (ar 3 2001 xlf), some (ar 0 3600 xdc), some (ar 0 12 xhn), some (ar 0 4005 xsu)] dy) (by decide +kernel) (by decide +kernel) rfl (Nat.le_of_ble_eq_true rfl) (show I32 _ from by omega) rfl ?_
  exact aw_vret (by decide +kernel) rfl (by decide) (by decide) (hq _ _ rfl rfl)

theorem l_M_j192 {Qr : Option AV → HT → Prop} {Qt : HT → Prop} {jfin : List T3} (hz : jfin.length ≤ 600) : ∀ (e i j : Nat) (js : List T3) (p1 p2 p3 l1 l2 : Nat → Int) (x6 : Option AV), jmu l1 l2 i j < e → i ≤ 2001 → j ≤ 2001 → inJ l1 → inJ l2 → jr p1 p2 p3 js → jfin = js ++ nw (tab idv l1 i (2001 - i)) (tab idv l2 j (2001 - j)) → (∀ js p1 p2 p3 l1 l2, js = jfin → jr p1 p2 p3 js → Qr (some (vi (js.length : Int))) (Hp b s t mk df jo tr di [some (ob 8 [vi 0, vr 8 1, vi ln, vr 8 2, vr 8 3, vr 8 4, vi by9, vr 8 5, vr 8 6, vr 8 7, vr 8 8, vr 8 9, vi dn, vi ac, vi bd, vr 8 10, vr 8 11, vr 8 12, vr 8 13, vr 8 14, vi (js.length : Int), vl pq, vr 8 15, vr 8 16, vi tk, vr 8 17, vr 8 18, vr 8 19, vi fo, vi f1, vi f2]), some (ar 2 200 xtp), some (ar 0 32016 xwg), some (ar 0 16 xwh), some (ar 1 2001 xmd), some (ar 0 30 xsl), some (ar 0 30 xhw), some (ar 0 30 xhs), some (ar 0 60030 xhd), some (ar 0 60030 xha), some (ar 0 600 p1), some (ar 0 600 p2), some (ar 1 600 p3), some (ar 1 2001 l1), some (ar 1 2001 l2), some (ar 1 2001 xrt), some (ar 3 2001 xlf), some (ar 0 3600 xdc), some (ar 0 12 xhn), some (ar 0 4005 xsu)] dy)) → AW G M_M_joint Qr Qt 0 0 192 [some (vr 8 0), some (vi (q : Int)), some (vi (q2 : Int)), some (vi d), some (vi (i : Int)), some (vi (j : Int)), x6, none, none, none, none] [] (Hp b s t mk df jo tr di [some (ob 8 [vi 0, vr 8 1, vi ln, vr 8 2, vr 8 3, vr 8 4, vi by9, vr 8 5, vr 8 6, vr 8 7, vr 8 8, vr 8 9, vi dn, vi ac, vi bd, vr 8 10, vr 8 11, vr 8 12, vr 8 13, vr 8 14, vi (js.length : Int), vl pq, vr 8 15, vr 8 16, vi tk, vr 8 17, vr 8 18, vr 8 19, vi fo, vi f1, vi f2]), some (ar 2 200 xtp), some (ar 0 32016 xwg), some (ar 0 16 xwh), some (ar 1 2001 xmd), some (ar 0 30 xsl), some (ar 0 30 xhw), some (ar 0 30 xhs), some (ar 0 60030 xhd), some (ar 0 60030 xha), some (ar 0 600 p1), some (ar 0 600 p2), some (ar 1 600 p3), some (ar 1 2001 l1), some (ar 1 2001 l2), some (ar 1 2001 xrt), some (ar 3 2001 xlf), some (ar 0 3600 xdc), some (ar 0 12 xhn), some (ar 0 4005 xsu)] dy) := by
  intro e
  induction e with
  | zero => intro i j js p1 p2 p3 l1 l2 x6 hm; omega
  | succ e ih =>
    intro i j js p1 p2 p3 l1 l2 x6 hm hi hj n1 n2 hr hfin hq
    refine aw_ls (ls' := [some (vr 8 0), some (vi (q : Int)), some (vi (q2 : Int)), some (vi d), some (vi (i : Int)), some (vi (j : Int)), none, none, none, none, none]) (lsk_s (lsk_s (lsk_s (lsk_s (lsk_s (lsk_s (lsk_n (lsk_n (lsk_n (lsk_n (lsk_n lsk_0))))))))))) ?_
    have k218 : (i = 2001 ∨ (i < 2001 ∧ l1 i ≠ 0)) → ∀ (d9 j : Nat), j + d9 = 2001 → j ≤ 2001 → jfin = js ++ nw (tab idv l1 i (2001 - i)) (tab idv l2 j (2001 - j)) → jmu l1 l2 i j < e + 1 → AW G M_M_joint Qr Qt 0 0 218 [some (vr 8 0), some (vi (q : Int)), some (vi (q2 : Int)), some (vi d), some (vi (i : Int)), some (vi (j : Int)), none, none, none, none, none] [] (Hp b s t mk df jo tr di [some (ob 8 [vi 0, vr 8 1, vi ln, vr 8 2, vr 8 3, vr 8 4, vi by9, vr 8 5, vr 8 6, vr 8 7, vr 8 8, vr 8 9, vi dn, vi ac, vi bd, vr 8 10, vr 8 11, vr 8 12, vr 8 13, vr 8 14, vi (js.length : Int), vl pq, vr 8 15, vr 8 16, vi tk, vr 8 17, vr 8 18, vr 8 19, vi fo, vi f1, vi f2]), some (ar 2 200 xtp), some (ar 0 32016 xwg), some (ar 0 16 xwh), some (ar 1 2001 xmd), some (ar 0 30 xsl), some (ar 0 30 xhw), some (ar 0 30 xhs), some (ar 0 60030 xhd), some (ar 0 60030 xha), some (ar 0 600 p1), some (ar 0 600 p2), some (ar 1 600 p3), some (ar 1 2001 l1), some (ar 1 2001 l2), some (ar 1 2001 xrt), some (ar 3 2001 xlf), some (ar 0 3600 xdc), some (ar 0 12 xhn), some (ar 0 4005 xsu)] dy) := by
      intro hA
      intro d9
      induction d9 with
      | zero =>
        intro j hj9 hj hfin hm
        obtain rfl : j = 2001 := by omega
        refine aw_blk (pc' := 223) (ls' := [some (vr 8 0), some (vi (q : Int)), some (vi (q2 : Int)), some (vi d), some (vi (i : Int)), some (vi ((2001 : Nat) : Int)), none, none, none, none, none]) (st' := [vi 2001, vi ((2001 : Nat) : Int)]) [.inl (.iload 5), .inl (.sipush 2001)] 218 _ _ (by decide +kernel) rfl ?_
        refine aw_icmp_ge (o := 21) (tgt := 244) (by decide +kernel) (by decide) (by omega) (by omega) (fun _ => ?_) (fun c => absurd (by omega) c)
        refine aw_blk (pc' := 249) (ls' := [some (vr 8 0), some (vi (q : Int)), some (vi (q2 : Int)), some (vi d), some (vi (i : Int)), some (vi ((2001 : Nat) : Int)), none, none, none, none, none]) (st' := [vi 2001, vi (i : Int)]) [.inl (.iload 4), .inl (.sipush 2001)] 244 _ _ (by decide +kernel) rfl ?_
        refine aw_icmp_eq (o := 11) (tgt := 260) (by decide +kernel) (by decide) (by omega) (by omega) (fun ci => ?_) (fun ci => ?_)
        · have hi2 : i = 2001 := by omega
          refine aw_blk (pc' := 264) (ls' := [some (vr 8 0), some (vi (q : Int)), some (vi (q2 : Int)), some (vi d), some (vi (i : Int)), some (vi ((2001 : Nat) : Int)), none, none, none, none, none]) (st' := [vi (js.length : Int)]) [.inl (.aload_n 0), .inr (172, 8, 20)] 260 _ _ (by decide +kernel) rfl ?_
          exact aw_iret (by decide +kernel) rfl (by decide) (by decide) (hq js p1 p2 p3 l1 l2 (by rw [hfin, hi2, tab_e, nw_0l, List.append_nil]) hr)
        · refine aw_blk (pc' := 257) (ls' := [some (vr 8 0), some (vi (q : Int)), some (vi (q2 : Int)), some (vi d), some (vi (i : Int)), some (vi ((2001 : Nat) : Int)), none, none, none, none, none]) (st' := [vi 2001, vi ((2001 : Nat) : Int)]) [.inl (.iload 5), .inl (.sipush 2001)] 252 _ _ (by decide +kernel) rfl ?_
          refine aw_icmp_ne (o := 8) (tgt := 265) (by decide +kernel) (by decide) (by omega) (by omega) (fun c => absurd (by omega) c) (fun _ => ?_)
          refine aw_blk (pc' := 264) (ls' := [some (vr 8 0), some (vi (q : Int)), some (vi (q2 : Int)), some (vi d), some (vi (i : Int)), some (vi ((2001 : Nat) : Int)), none, none, none, none, none]) (st' := [vi (js.length : Int)]) [.inl (.aload_n 0), .inr (172, 8, 20)] 260 _ _ (by decide +kernel) rfl ?_
          exact aw_iret (by decide +kernel) rfl (by decide) (by decide) (hq js p1 p2 p3 l1 l2 (by rw [hfin, tab_e, nw_nil, List.append_nil]) hr)
      | succ d9 ih9 =>
        intro j hj9 hj hfin hm
        refine aw_blk (pc' := 223) (ls' := [some (vr 8 0), some (vi (q : Int)), some (vi (q2 : Int)), some (vi d), some (vi (i : Int)), some (vi (j : Int)), none, none, none, none, none]) (st' := [vi 2001, vi (j : Int)]) [.inl (.iload 5), .inl (.sipush 2001)] 218 _ _ (by decide +kernel) rfl ?_
        refine aw_icmp_ge (o := 21) (tgt := 244) (by decide +kernel) (by decide) (by omega) (by omega) (fun c => absurd c (by omega)) (fun _ => ?_)
        have hy2 := n2 j (by omega)
        refine aw_blk (pc' := 232) (ls' := [some (vr 8 0), some (vi (q : Int)), some (vi (q2 : Int)), some (vi d), some (vi (i : Int)), some (vi (j : Int)), none, none, none, none, none]) (st' := [vi (j : Int), vr 8 14]) [.inl (.aload_n 0), .inr (56, 8, 19), .inl (.iload 5)] 226 _ _ (by decide +kernel) rfl ?_
        refine aw_lald (j := j) (by decide +kernel) rfl (by omega) (by omega) (fun r232 => ?_)
        refine aw_blk (pc' := 234) (ls' := [some (vr 8 0), some (vi (q : Int)), some (vi (q2 : Int)), some (vi d), some (vi (i : Int)), some (vi (j : Int)), none, none, none, none, none]) (st' := [vl 0, vl (l2 j)]) [.inl (.lconst 0)] 233 _ _ (by decide +kernel) rfl ?_
        refine aw_lcmp (by decide +kernel) (by omega) (by omega) ?_
        refine aw_if_ne (o := 9) (tgt := 244) (by decide +kernel) (by decide) (cmpI_in _ _) (fun hy0 => ?_) (fun hy0 => ?_)
        · rw [cmpI_eq] at hy0
          refine aw_blk (pc' := 249) (ls' := [some (vr 8 0), some (vi (q : Int)), some (vi (q2 : Int)), some (vi d), some (vi (i : Int)), some (vi (j : Int)), none, none, none, none, none]) (st' := [vi 2001, vi (i : Int)]) [.inl (.iload 4), .inl (.sipush 2001)] 244 _ _ (by decide +kernel) rfl ?_
          refine aw_icmp_eq (o := 11) (tgt := 260) (by decide +kernel) (by decide) (by omega) (by omega) (fun ci => ?_) (fun ci => ?_)
          · have hi2 : i = 2001 := by omega
            refine aw_blk (pc' := 264) (ls' := [some (vr 8 0), some (vi (q : Int)), some (vi (q2 : Int)), some (vi d), some (vi (i : Int)), some (vi (j : Int)), none, none, none, none, none]) (st' := [vi (js.length : Int)]) [.inl (.aload_n 0), .inr (172, 8, 20)] 260 _ _ (by decide +kernel) rfl ?_
            exact aw_iret (by decide +kernel) rfl (by decide) (by decide) (hq js p1 p2 p3 l1 l2 (by rw [hfin, hi2, tab_e, nw_0l, List.append_nil]) hr)
          · refine aw_blk (pc' := 257) (ls' := [some (vr 8 0), some (vi (q : Int)), some (vi (q2 : Int)), some (vi d), some (vi (i : Int)), some (vi (j : Int)), none, none, none, none, none]) (st' := [vi 2001, vi (j : Int)]) [.inl (.iload 5), .inl (.sipush 2001)] 252 _ _ (by decide +kernel) rfl ?_
            refine aw_icmp_ne (o := 8) (tgt := 265) (by decide +kernel) (by decide) (by omega) (by omega) (fun _ => ?_) (fun c => absurd c (by omega))
            have hx1 := n1 i (by omega)
            have hy1 := n2 j (by omega)
            have hx0 : l1 i ≠ 0 := by omega
            have hem := nw_em (v := idv i) (w := idv j) (A := tab idv l1 (i + 1) (2001 - (i + 1))) (B := tab idv l2 (j + 1) (2001 - (j + 1))) (show 0 < l1 i by omega) (show 0 < l2 j by omega) rfl
            rw [tab_s (show i < 2001 by omega), tab_s (show j < 2001 by omega), hem] at hfin
            have hlen : js.length + 1 ≤ 600 := by have := congrArg List.length hfin; simp only [List.length_append, List.length_cons] at this; omega
            refine aw_blk (pc' := 271) (ls' := [some (vr 8 0), some (vi (q : Int)), some (vi (q2 : Int)), some (vi d), some (vi (i : Int)), some (vi (j : Int)), none, none, none, none, none]) (st' := [vi (i : Int), vr 8 13]) [.inl (.aload_n 0), .inr (53, 8, 18), .inl (.iload 4)] 265 _ _ (by decide +kernel) rfl ?_
            refine aw_lald (j := i) (by decide +kernel) rfl (by omega) (by omega) (fun r271 => ?_)
            refine aw_blk (pc' := 278) (ls' := [some (vr 8 0), some (vi (q : Int)), some (vi (q2 : Int)), some (vi d), some (vi (i : Int)), some (vi (j : Int)), none, none, none, none, none]) (st' := [vi (j : Int), vr 8 14, vl (l1 i)]) [.inl (.aload_n 0), .inr (56, 8, 19), .inl (.iload 5)] 272 _ _ (by decide +kernel) rfl ?_
            refine aw_lald (j := j) (by decide +kernel) rfl (by omega) (by omega) (fun r278 => ?_)
            refine aw_lcmp (by decide +kernel) (by omega) (by omega) ?_
            refine aw_if_ge (o := 13) (tgt := 293) (by decide +kernel) (by decide) (cmpI_in _ _) (fun cx => ?_) (fun cx => ?_)
            · rw [cmpI_ge] at cx
              refine aw_blk (pc' := 299) (ls' := [some (vr 8 0), some (vi (q : Int)), some (vi (q2 : Int)), some (vi d), some (vi (i : Int)), some (vi (j : Int)), none, none, none, none, none]) (st' := [vi (j : Int), vr 8 14]) [.inl (.aload_n 0), .inr (56, 8, 19), .inl (.iload 5)] 293 _ _ (by decide +kernel) rfl ?_
              refine aw_lald (j := j) (by decide +kernel) rfl (by omega) (by omega) (fun r299 => ?_)
              refine aw_blk (pc' := 317) (ls' := [some (vr 8 0), some (vi (q : Int)), some (vi (q2 : Int)), some (vi d), some (vi (i : Int)), some (vi (j : Int)), some (vl (l2 j)), none, none, none, none]) (st' := [vl (l2 j), vi ((j : Int) + (-1000)), vi ((i : Int) + (-1000)), vr 8 0]) [.inl (.lstore 6), .inl (.aload_n 0), .inl (.iload 4), .inl (.sipush (-1000)), .inl (.iadd), .inl (.iload 5), .inl (.sipush (-1000)), .inl (.iadd), .inl (.lload 6)] 300 _ _ (by decide +kernel) rfl ?_
              rw [if_neg (by omega)] at hfin
              refine aw_dV (cs' := 0) (sl' := 0) (pc' := 320) (st' := []) (idx := 175) (as := [vi ((i : Int) + (-1000)), vi ((j : Int) + (-1000)), vl (l2 j)]) (st := []) (m_M_pairs0 (by omega) (by omega) (by omega) (by omega)) (by decide +kernel) (show vOK "ChanceBenchModel" 175 M_M_pairs0 3 = true by decide +kernel) rfl rfl rfl (Nat.le_of_ble_eq_true rfl) (by decide) (by decide) (by decide) rfl rfl rfl rfl ?_
              refine aw_blk (pc' := 327) (ls' := [some (vr 8 0), some (vi (q : Int)), some (vi (q2 : Int)), some (vi d), some (vi (i : Int)), some (vi (j : Int)), some (vl (l2 j)), none, none, none, none]) (st' := [vi (i : Int), vr 8 13, vi (i : Int), vr 8 13]) [.inl (.aload_n 0), .inr (53, 8, 18), .inl (.iload 4), .inl (.dup2)] 320 _ _ (by decide +kernel) rfl ?_
              refine aw_lald (j := i) (by decide +kernel) rfl (by omega) (by omega) (fun r327 => ?_)
              refine aw_blk (pc' := 331) (ls' := [some (vr 8 0), some (vi (q : Int)), some (vi (q2 : Int)), some (vi d), some (vi (i : Int)), some (vi (j : Int)), some (vl (l2 j)), none, none, none, none]) (st' := [vl ((l1 i) - (l2 j)), vi (i : Int), vr 8 13]) [.inl (.lload 6), .inl (.lsub)] 328 _ _ (by decide +kernel) rfl ?_
              refine aw_last (j := i) (h' := Hp b s t mk df jo tr di [some (ob 8 [vi 0, vr 8 1, vi ln, vr 8 2, vr 8 3, vr 8 4, vi by9, vr 8 5, vr 8 6, vr 8 7, vr 8 8, vr 8 9, vi dn, vi ac, vi bd, vr 8 10, vr 8 11, vr 8 12, vr 8 13, vr 8 14, vi ((js.length : Int) + 1), vl pq, vr 8 15, vr 8 16, vi tk, vr 8 17, vr 8 18, vr 8 19, vi fo, vi f1, vi f2]), some (ar 2 200 xtp), some (ar 0 32016 xwg), some (ar 0 16 xwh), some (ar 1 2001 xmd), some (ar 0 30 xsl), some (ar 0 30 xhw), some (ar 0 30 xhs), some (ar 0 60030 xhd), some (ar 0 60030 xha), some (ar 0 600 (va_up p1 js.length (idv i))), some (ar 0 600 (va_up p2 js.length (idv j))), some (ar 1 600 (va_up p3 js.length (l2 j))), some (ar 1 2001 (va_up l1 i ((l1 i) - (l2 j)))), some (ar 1 2001 l2), some (ar 1 2001 xrt), some (ar 3 2001 xlf), some (ar 0 3600 xdc), some (ar 0 12 xhn), some (ar 0 4005 xsu)] dy) (by decide +kernel) rfl (by omega) (by omega) (by omega) rfl ?_
              refine aw_blk (pc' := 339) (ls' := [some (vr 8 0), some (vi (q : Int)), some (vi (q2 : Int)), some (vi d), some (vi (i : Int)), some (vi (j : Int)), some (vl (l2 j)), none, none, none, none]) (st' := [vi (j : Int), vr 8 14, vi (j : Int), vr 8 14]) [.inl (.aload_n 0), .inr (56, 8, 19), .inl (.iload 5), .inl (.dup2)] 332 _ _ (by decide +kernel) rfl ?_
              refine aw_lald (j := j) (by decide +kernel) rfl (by omega) (by omega) (fun r339 => ?_)
              refine aw_blk (pc' := 343) (ls' := [some (vr 8 0), some (vi (q : Int)), some (vi (q2 : Int)), some (vi d), some (vi (i : Int)), some (vi (j : Int)), some (vl (l2 j)), none, none, none, none]) (st' := [vl ((l2 j) - (l2 j)), vi (j : Int), vr 8 14]) [.inl (.lload 6), .inl (.lsub)] 340 _ _ (by decide +kernel) rfl ?_
              refine aw_last (j := j) (h' := Hp b s t mk df jo tr di [some (ob 8 [vi 0, vr 8 1, vi ln, vr 8 2, vr 8 3, vr 8 4, vi by9, vr 8 5, vr 8 6, vr 8 7, vr 8 8, vr 8 9, vi dn, vi ac, vi bd, vr 8 10, vr 8 11, vr 8 12, vr 8 13, vr 8 14, vi ((js.length : Int) + 1), vl pq, vr 8 15, vr 8 16, vi tk, vr 8 17, vr 8 18, vr 8 19, vi fo, vi f1, vi f2]), some (ar 2 200 xtp), some (ar 0 32016 xwg), some (ar 0 16 xwh), some (ar 1 2001 xmd), some (ar 0 30 xsl), some (ar 0 30 xhw), some (ar 0 30 xhs), some (ar 0 60030 xhd), some (ar 0 60030 xha), some (ar 0 600 (va_up p1 js.length (idv i))), some (ar 0 600 (va_up p2 js.length (idv j))), some (ar 1 600 (va_up p3 js.length (l2 j))), some (ar 1 2001 (va_up l1 i ((l1 i) - (l2 j)))), some (ar 1 2001 (va_up l2 j ((l2 j) - (l2 j)))), some (ar 1 2001 xrt), some (ar 3 2001 xlf), some (ar 0 3600 xdc), some (ar 0 12 xhn), some (ar 0 4005 xsu)] dy) (by decide +kernel) rfl (by omega) (by omega) (by omega) rfl ?_
              refine aw_goto (o := -152) (tgt := 192) (by decide +kernel) (by decide) ?_
              refine aw_eq rfl rfl ?_ (ih i j (js ++ [(idv i, idv j, l2 j)]) (va_up p1 js.length (idv i)) (va_up p2 js.length (idv j)) (va_up p3 js.length (l2 j)) (va_up l1 i (l1 i - l2 j)) (va_up l2 j (l2 j - l2 j)) _ ?_ hi hj (inJ_up n1 (by omega)) (inJ_up n2 (by omega)) (jr_s hr) ?_ hq)
              · rw [List.length_append]; rfl
              · exact Nat.lt_of_lt_of_le (jmu_e hx0 hy0 (Or.inr rfl)) (by omega)
              · rw [hfin, tab_u (by omega), tab_u (by omega), List.append_assoc]; rfl
            · rw [cmpI_ge] at cx
              refine aw_blk (pc' := 289) (ls' := [some (vr 8 0), some (vi (q : Int)), some (vi (q2 : Int)), some (vi d), some (vi (i : Int)), some (vi (j : Int)), none, none, none, none, none]) (st' := [vi (i : Int), vr 8 13]) [.inl (.aload_n 0), .inr (53, 8, 18), .inl (.iload 4)] 283 _ _ (by decide +kernel) rfl ?_
              refine aw_lald (j := i) (by decide +kernel) rfl (by omega) (by omega) (fun r289 => ?_)
              refine aw_goto (o := 10) (tgt := 300) (by decide +kernel) (by decide) ?_
              refine aw_blk (pc' := 317) (ls' := [some (vr 8 0), some (vi (q : Int)), some (vi (q2 : Int)), some (vi d), some (vi (i : Int)), some (vi (j : Int)), some (vl (l1 i)), none, none, none, none]) (st' := [vl (l1 i), vi ((j : Int) + (-1000)), vi ((i : Int) + (-1000)), vr 8 0]) [.inl (.lstore 6), .inl (.aload_n 0), .inl (.iload 4), .inl (.sipush (-1000)), .inl (.iadd), .inl (.iload 5), .inl (.sipush (-1000)), .inl (.iadd), .inl (.lload 6)] 300 _ _ (by decide +kernel) rfl ?_
              rw [if_pos (by omega)] at hfin
              refine aw_dV (cs' := 0) (sl' := 0) (pc' := 320) (st' := []) (idx := 175) (as := [vi ((i : Int) + (-1000)), vi ((j : Int) + (-1000)), vl (l1 i)]) (st := []) (m_M_pairs0 (by omega) (by omega) (by omega) (by omega)) (by decide +kernel) (show vOK "ChanceBenchModel" 175 M_M_pairs0 3 = true by decide +kernel) rfl rfl rfl (Nat.le_of_ble_eq_true rfl) (by decide) (by decide) (by decide) rfl rfl rfl rfl ?_
              refine aw_blk (pc' := 327) (ls' := [some (vr 8 0), some (vi (q : Int)), some (vi (q2 : Int)), some (vi d), some (vi (i : Int)), some (vi (j : Int)), some (vl (l1 i)), none, none, none, none]) (st' := [vi (i : Int), vr 8 13, vi (i : Int), vr 8 13]) [.inl (.aload_n 0), .inr (53, 8, 18), .inl (.iload 4), .inl (.dup2)] 320 _ _ (by decide +kernel) rfl ?_
              refine aw_lald (j := i) (by decide +kernel) rfl (by omega) (by omega) (fun r327 => ?_)
              refine aw_blk (pc' := 331) (ls' := [some (vr 8 0), some (vi (q : Int)), some (vi (q2 : Int)), some (vi d), some (vi (i : Int)), some (vi (j : Int)), some (vl (l1 i)), none, none, none, none]) (st' := [vl ((l1 i) - (l1 i)), vi (i : Int), vr 8 13]) [.inl (.lload 6), .inl (.lsub)] 328 _ _ (by decide +kernel) rfl ?_
              refine aw_last (j := i) (h' := Hp b s t mk df jo tr di [some (ob 8 [vi 0, vr 8 1, vi ln, vr 8 2, vr 8 3, vr 8 4, vi by9, vr 8 5, vr 8 6, vr 8 7, vr 8 8, vr 8 9, vi dn, vi ac, vi bd, vr 8 10, vr 8 11, vr 8 12, vr 8 13, vr 8 14, vi ((js.length : Int) + 1), vl pq, vr 8 15, vr 8 16, vi tk, vr 8 17, vr 8 18, vr 8 19, vi fo, vi f1, vi f2]), some (ar 2 200 xtp), some (ar 0 32016 xwg), some (ar 0 16 xwh), some (ar 1 2001 xmd), some (ar 0 30 xsl), some (ar 0 30 xhw), some (ar 0 30 xhs), some (ar 0 60030 xhd), some (ar 0 60030 xha), some (ar 0 600 (va_up p1 js.length (idv i))), some (ar 0 600 (va_up p2 js.length (idv j))), some (ar 1 600 (va_up p3 js.length (l1 i))), some (ar 1 2001 (va_up l1 i ((l1 i) - (l1 i)))), some (ar 1 2001 l2), some (ar 1 2001 xrt), some (ar 3 2001 xlf), some (ar 0 3600 xdc), some (ar 0 12 xhn), some (ar 0 4005 xsu)] dy) (by decide +kernel) rfl (by omega) (by omega) (by omega) rfl ?_
              refine aw_blk (pc' := 339) (ls' := [some (vr 8 0), some (vi (q : Int)), some (vi (q2 : Int)), some (vi d), some (vi (i : Int)), some (vi (j : Int)), some (vl (l1 i)), none, none, none, none]) (st' := [vi (j : Int), vr 8 14, vi (j : Int), vr 8 14]) [.inl (.aload_n 0), .inr (56, 8, 19), .inl (.iload 5), .inl (.dup2)] 332 _ _ (by decide +kernel) rfl ?_
              refine aw_lald (j := j) (by decide +kernel) rfl (by omega) (by omega) (fun r339 => ?_)
              refine aw_blk (pc' := 343) (ls' := [some (vr 8 0), some (vi (q : Int)), some (vi (q2 : Int)), some (vi d), some (vi (i : Int)), some (vi (j : Int)), some (vl (l1 i)), none, none, none, none]) (st' := [vl ((l2 j) - (l1 i)), vi (j : Int), vr 8 14]) [.inl (.lload 6), .inl (.lsub)] 340 _ _ (by decide +kernel) rfl ?_
              refine aw_last (j := j) (h' := Hp b s t mk df jo tr di [some (ob 8 [vi 0, vr 8 1, vi ln, vr 8 2, vr 8 3, vr 8 4, vi by9, vr 8 5, vr 8 6, vr 8 7, vr 8 8, vr 8 9, vi dn, vi ac, vi bd, vr 8 10, vr 8 11, vr 8 12, vr 8 13, vr 8 14, vi ((js.length : Int) + 1), vl pq, vr 8 15, vr 8 16, vi tk, vr 8 17, vr 8 18, vr 8 19, vi fo, vi f1, vi f2]), some (ar 2 200 xtp), some (ar 0 32016 xwg), some (ar 0 16 xwh), some (ar 1 2001 xmd), some (ar 0 30 xsl), some (ar 0 30 xhw), some (ar 0 30 xhs), some (ar 0 60030 xhd), some (ar 0 60030 xha), some (ar 0 600 (va_up p1 js.length (idv i))), some (ar 0 600 (va_up p2 js.length (idv j))), some (ar 1 600 (va_up p3 js.length (l1 i))), some (ar 1 2001 (va_up l1 i ((l1 i) - (l1 i)))), some (ar 1 2001 (va_up l2 j ((l2 j) - (l1 i)))), some (ar 1 2001 xrt), some (ar 3 2001 xlf), some (ar 0 3600 xdc), some (ar 0 12 xhn), some (ar 0 4005 xsu)] dy) (by decide +kernel) rfl (by omega) (by omega) (by omega) rfl ?_
              refine aw_goto (o := -152) (tgt := 192) (by decide +kernel) (by decide) ?_
              refine aw_eq rfl rfl ?_ (ih i j (js ++ [(idv i, idv j, l1 i)]) (va_up p1 js.length (idv i)) (va_up p2 js.length (idv j)) (va_up p3 js.length (l1 i)) (va_up l1 i (l1 i - l1 i)) (va_up l2 j (l2 j - l1 i)) _ ?_ hi hj (inJ_up n1 (by omega)) (inJ_up n2 (by omega)) (jr_s hr) ?_ hq)
              · rw [List.length_append]; rfl
              · exact Nat.lt_of_lt_of_le (jmu_e hx0 hy0 (Or.inl rfl)) (by omega)
              · rw [hfin, tab_u (by omega), tab_u (by omega), List.append_assoc]; rfl
        · rw [cmpI_eq] at hy0
          refine aw_blk (pc' := 241) (ls' := [some (vr 8 0), some (vi (q : Int)), some (vi (q2 : Int)), some (vi d), some (vi (i : Int)), some (vi ((j : Int) + 1)), none, none, none, none, none]) (st' := []) [.inl (.iinc 5 1)] 238 _ _ (by decide +kernel) rfl ?_
          refine aw_goto (o := -23) (tgt := 218) (by decide +kernel) (by decide) ?_
          refine ih9 (j + 1) (by omega) (by omega) ?_ ?_
          · rw [hfin, tab_s (show j < 2001 by omega), hy0]; rcases hA with z | z
            · rw [z, tab_e, nw_0l, nw_0l]
            · rw [tab_s z.1, nw_zr (by have := n1 i z.1; omega)]
          · have := jmu_j (l1 := l1) hy0 hi (show j < 2001 by omega); omega
    refine aw_blk (pc' := 197) (ls' := [some (vr 8 0), some (vi (q : Int)), some (vi (q2 : Int)), some (vi d), some (vi (i : Int)), some (vi (j : Int)), none, none, none, none, none]) (st' := [vi 2001, vi (i : Int)]) [.inl (.iload 4), .inl (.sipush 2001)] 192 _ _ (by decide +kernel) rfl ?_
    refine aw_icmp_ge (o := 21) (tgt := 218) (by decide +kernel) (by decide) (by omega) (by omega) (fun ci => ?_) (fun ci => ?_)
    · exact k218 (Or.inl (by omega)) (2001 - j) j (by omega) hj hfin hm
    · have hx2 := n1 i (by omega)
      refine aw_blk (pc' := 206) (ls' := [some (vr 8 0), some (vi (q : Int)), some (vi (q2 : Int)), some (vi d), some (vi (i : Int)), some (vi (j : Int)), none, none, none, none, none]) (st' := [vi (i : Int), vr 8 13]) [.inl (.aload_n 0), .inr (53, 8, 18), .inl (.iload 4)] 200 _ _ (by decide +kernel) rfl ?_
      refine aw_lald (j := i) (by decide +kernel) rfl (by omega) (by omega) (fun r206 => ?_)
      refine aw_blk (pc' := 208) (ls' := [some (vr 8 0), some (vi (q : Int)), some (vi (q2 : Int)), some (vi d), some (vi (i : Int)), some (vi (j : Int)), none, none, none, none, none]) (st' := [vl 0, vl (l1 i)]) [.inl (.lconst 0)] 207 _ _ (by decide +kernel) rfl ?_
      refine aw_lcmp (by decide +kernel) (by omega) (by omega) ?_
      refine aw_if_ne (o := 9) (tgt := 218) (by decide +kernel) (by decide) (cmpI_in _ _) (fun hx0 => ?_) (fun hx0 => ?_)
      · rw [cmpI_eq] at hx0
        exact k218 (Or.inr ⟨by omega, hx0⟩) (2001 - j) j (by omega) hj hfin hm
      · rw [cmpI_eq] at hx0
        refine aw_blk (pc' := 215) (ls' := [some (vr 8 0), some (vi (q : Int)), some (vi (q2 : Int)), some (vi d), some (vi ((i : Int) + 1)), some (vi (j : Int)), none, none, none, none, none]) (st' := []) [.inl (.iinc 4 1)] 212 _ _ (by decide +kernel) rfl ?_
        refine aw_goto (o := -23) (tgt := 192) (by decide +kernel) (by decide) ?_
        refine ih (i + 1) j js p1 p2 p3 l1 l2 none ?_ (by omega) hj n1 n2 hr ?_ hq
        · have := jmu_i (l2 := l2) hx0 (show i < 2001 by omega) hj; omega
        · rw [hfin, tab_s (show i < 2001 by omega), hx0]; rcases Nat.lt_or_ge j 2001 with z | z
          · rw [tab_s z, nw_zl (n2 j z).1]
          · obtain rfl : j = 2001 := by omega
            rw [tab_e, nw_nil, nw_nil]
end
