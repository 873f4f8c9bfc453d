abbrev T3 : Type := Int × Int × Int
abbrev sgJ (sz : Int) (wh : Int) (fa fb fw fl sl : Nat → Int) : SG := [some (ob 5 [vr 5 1, vr 5 2, vr 5 3, vr 5 4, vr 5 5, vi sz, vl wh]), some (ar 0 72 fa), some (ar 0 72 fb), some (ar 1 72 fw), some (ar 1 24 fl), some (ar 1 24 sl)]
/-- the rows hold the list -/
def jr (fa fb fw : Nat → Int) (js : List T3) : Prop := ∀ (k : Nat) (x : T3), js[k]? = some x → fa k = x.1 ∧ fb k = x.2.1 ∧ fw k = x.2.2
theorem jr_0 {fa fb fw : Nat → Int} : jr fa fb fw [] := fun k x h => by simp at h
theorem jr_s {fa fb fw : Nat → Int} {js : List T3} {v w x : Int} (h : jr fa fb fw js) : jr (va_up fa js.length v) (va_up fb js.length w) (va_up fw js.length x) (js ++ [(v, w, x)]) := by
  intro k y hy
  rcases Nat.lt_or_ge k js.length with z | z
  · rw [List.getElem?_append_left z] at hy
    have := h k y hy
    simp only [va_up, if_neg (show ¬ k = js.length by omega)]
    exact this
  · rw [List.getElem?_append_right z] at hy
    have hl := (List.getElem?_eq_some_iff.mp hy).1
    simp at hl
    have e : k = js.length := by omega
    subst e
    simp at hy
    subst hy
    simp only [va_up, if_true]
    exact ⟨trivial, trivial, trivial⟩
def tab (f g : Nat → Int) : Nat → Nat → List (Int × Int)
  | _, 0 => []
  | i, d + 1 => (f i, g i) :: tab f g (i + 1) d
/-- NORTHWEST of two rows of what is left -/
def nw : List (Int × Int) → List (Int × Int) → List T3
  | [], _ => []
  | _ :: _, [] => []
  | (v, x) :: A, (w, y) :: B => if x ≤ y then (if 1 ≤ x then [(v, w, x)] else []) ++ nw A ((w, y - x) :: B) else (if 1 ≤ y then [(v, w, y)] else []) ++ nw ((v, x - y) :: A) B
termination_by A B => A.length + B.length
theorem tab_up {f g : Nat → Int} {j : Nat} {x : Int} : ∀ {i d : Nat}, j < i → tab f (va_up g j x) i d = tab f g i d
  | _, 0, _ => rfl
  | i, d + 1, h => by
    simp only [tab]
    rw [tab_up (show j < i + 1 by omega)]
    simp only [va_up, if_neg (show ¬ i = j by omega)]
def fnd (fa fb fw : Nat → Int) (v w : Int) : Nat → Nat → Int
  | 0, _ => 0
  | d + 1, k => if fa k = v ∧ fb k = w then fw k else fnd fa fb fw v w d (k + 1)
section
variable {G : GT} {h : HT} {b s t mk df jo tr di mo dy : SG} {a c d : Int} {n i j k k1 k2 q q1 q2 m sz : Nat} {at_ wt at2 wt2 fa fb fw fl sl_ : Nat → Int} {W W2 wh : Int} {js : List T3}
theorem m_J_size : ADet G M_J_size [vr 5 0] (Hp b s t mk df (sgJ (sz : Int) wh fa fb fw fl sl_) tr di mo dy) (some (vi (sz : Int))) (Hp b s t mk df (sgJ (sz : Int) wh fa fb fw fl sl_) tr di mo dy) := by
  refine am_det (by decide +kernel) (Nat.le_of_ble_eq_true rfl) (fun Qr Qt hq => ?_)
  refine aw_blk (pc' := 4) (ls' := [some (vr 5 0)]) (st' := [vi (sz : Int)]) [.inl (.aload_n 0), .inr (28, 5, 5)] 0 _ _ (by decide +kernel) rfl ?_
  exact aw_iret (by decide +kernel) rfl (by decide) (by decide) (hq _ _ rfl rfl)

theorem m_J_whole : ADet G M_J_whole [vr 5 0] (Hp b s t mk df (sgJ (sz : Int) wh fa fb fw fl sl_) tr di mo dy) (some (vl wh)) (Hp b s t mk df (sgJ (sz : Int) wh fa fb fw fl sl_) tr di mo dy) := by
  refine am_det (by decide +kernel) (Nat.le_of_ble_eq_true rfl) (fun Qr Qt hq => ?_)
  refine aw_blk (pc' := 4) (ls' := [some (vr 5 0)]) (st' := [vl wh]) [.inl (.aload_n 0), .inr (32, 5, 6)] 0 _ _ (by decide +kernel) rfl ?_
  exact aw_lret (by decide +kernel) rfl (by decide) (by decide) (hq _ _ rfl rfl)

theorem m_J_fill4 (hA : isD dy k k1 k2 n at_ wt W) (A : lwN n at_ wt W) (ha : 1 ≤ a ∧ a ≤ 1048576) : ADet G M_J_fill [vr 5 4, vr 9 k, vi a] (Hp b s t mk df (sgJ (sz : Int) wh fa fb fw fl sl_) tr di mo dy) none (Hp b s t mk df (sgJ (sz : Int) wh fa fb fw (mp (fun x => wt x * a) fl n) sl_) tr di mo dy) := by
  refine am_det (by decide +kernel) (Nat.le_of_ble_eq_true rfl) (fun Qr Qt hq => ?_)
  have hn := A.1
  refine aw_blk (pc' := 2) (ls' := [some (vr 5 4), some (vr 9 k), some (vi a), some (vi 0)]) (st' := []) [.inl (.iconst 0), .inl (.istore_n 3)] 0 _ _ (by decide +kernel) rfl ?_
  rw [show Hp b s t mk df (sgJ (sz : Int) wh fa fb fw fl sl_) tr di mo dy = Hp b s t mk df (sgJ (sz : Int) wh fa fb fw (mp (fun x => wt x * a) fl 0) sl_) tr di mo dy by rw [mp_0]]
  refine up_to (W := fun i : Nat => AW G M_J_fill Qr Qt 0 0 2 [some (vr 5 4), some (vr 9 k), some (vi a), some (vi (i : Int))] [] (Hp b s t mk df [some (ob 5 [vr 5 1, vr 5 2, vr 5 3, vr 5 4, vr 5 5, vi (sz : Int), vl wh]), some (ar 0 72 fa), some (ar 0 72 fb), some (ar 1 72 fw), some (ar 1 24 (mp (fun x => wt x * a) fl i)), some (ar 1 24 sl_)] tr di mo dy)) n ?_ (fun i hi ih => ?_) 0 (by omega)
  · refine aw_blk (pc' := 4) (ls' := [some (vr 5 4), some (vr 9 k), some (vi a), some (vi (n : Int))]) (st' := [vr 9 k, vi (n : Int)]) [.inl (.iload_n 3), .inl (.aload_n 1)] 2 _ _ (by decide +kernel) rfl ?_
    refine aw_get (idx := 55) (ci := 9) (f := 0) (by decide +kernel) (by decide +kernel) hA.1 rfl ?_
    refine aw_alen (by decide +kernel) hA.2.1 (fun r7 => ?_)
    refine aw_icmp_ge (o := 28) (tgt := 36) (by decide +kernel) (by decide) (by omega) (by omega) (fun _ => ?_) (fun c => absurd (by omega) c)
    exact aw_vret (by decide +kernel) rfl (by decide) (by decide) (hq _ _ rfl rfl)
  · have hw := (A.2.2.1 i hi).2
    have hW := A.2.2.2.2.1
    have hm := mulB (x := wt i) (y := a) (by omega) (by omega) (by omega) (by omega)
    refine aw_blk (pc' := 4) (ls' := [some (vr 5 4), some (vr 9 k), some (vi a), some (vi (i : Int))]) (st' := [vr 9 k, vi (i : Int)]) [.inl (.iload_n 3), .inl (.aload_n 1)] 2 _ _ (by decide +kernel) rfl ?_
    refine aw_get (idx := 55) (ci := 9) (f := 0) (by decide +kernel) (by decide +kernel) hA.1 rfl ?_
    refine aw_alen (by decide +kernel) hA.2.1 (fun r7 => ?_)
    refine aw_icmp_ge (o := 28) (tgt := 36) (by decide +kernel) (by decide) (by omega) (by omega) (fun c => absurd c (by omega)) (fun _ => ?_)
    refine aw_blk (pc' := 13) (ls' := [some (vr 5 4), some (vr 9 k), some (vi a), some (vi (i : Int))]) (st' := [vr 5 4, vi (i : Int)]) [.inl (.iload_n 3), .inl (.aload_n 0)] 11 _ _ (by decide +kernel) rfl ?_
    refine aw_alen (by decide +kernel) rfl (fun r13 => ?_)
    refine aw_icmp_ge (o := 22) (tgt := 36) (by decide +kernel) (by decide) (by omega) (by omega) (fun c => absurd c (by omega)) (fun _ => ?_)
    refine aw_blk (pc' := 20) (ls' := [some (vr 5 4), some (vr 9 k), some (vi a), some (vi (i : Int))]) (st' := [vr 9 k, vi (i : Int), vr 5 4]) [.inl (.aload_n 0), .inl (.iload_n 3), .inl (.aload_n 1)] 17 _ _ (by decide +kernel) rfl ?_
    refine aw_get (idx := 58) (ci := 9) (f := 1) (by decide +kernel) (by decide +kernel) hA.1 rfl ?_
    refine aw_blk (pc' := 24) (ls' := [some (vr 5 4), some (vr 9 k), some (vi a), some (vi (i : Int))]) (st' := [vi (i : Int), vr 9 k2, vi (i : Int), vr 5 4]) [.inl (.iload_n 3)] 23 _ _ (by decide +kernel) rfl ?_
    refine aw_iald (j := i) (by decide +kernel) hA.2.2 (by omega) (by omega) (fun r24 => ?_)
    refine aw_i2l (by decide +kernel) (by omega) ?_
    refine aw_blk (pc' := 27) (ls' := [some (vr 5 4), some (vr 9 k), some (vi a), some (vi (i : Int))]) (st' := [vi a, vl (wt i), vi (i : Int), vr 5 4]) [.inl (.iload_n 2)] 26 _ _ (by decide +kernel) rfl ?_
    refine aw_i2l (by decide +kernel) (by omega) ?_
    refine aw_blk (pc' := 29) (ls' := [some (vr 5 4), some (vr 9 k), some (vi a), some (vi (i : Int))]) (st' := [vl ((wt i) * a), vi (i : Int), vr 5 4]) [.inl (.lmul)] 28 _ _ (by decide +kernel) rfl ?_
    refine aw_last (j := i) (h' := Hp b s t mk df [some (ob 5 [vr 5 1, vr 5 2, vr 5 3, vr 5 4, vr 5 5, vi (sz : Int), vl wh]), some (ar 0 72 fa), some (ar 0 72 fb), some (ar 1 72 fw), some (ar 1 24 (va_up (mp (fun x => wt x * a) fl i) i ((wt i) * a))), some (ar 1 24 sl_)] tr di mo dy) (by decide +kernel) rfl (by omega) (by omega) (by omega) rfl ?_
    refine aw_blk (pc' := 33) (ls' := [some (vr 5 4), some (vr 9 k), some (vi a), some (vi ((i : Int) + 1))]) (st' := []) [.inl (.iinc 3 1)] 30 _ _ (by decide +kernel) rfl ?_
    refine aw_goto (o := -31) (tgt := 2) (by decide +kernel) (by decide) ?_
    exact aw_eq rfl rfl (by rw [← mp_s]) ih

theorem m_J_fill5 (hA : isD dy k k1 k2 n at_ wt W) (A : lwN n at_ wt W) (ha : 1 ≤ a ∧ a ≤ 1048576) : ADet G M_J_fill [vr 5 5, vr 9 k, vi a] (Hp b s t mk df (sgJ (sz : Int) wh fa fb fw fl sl_) tr di mo dy) none (Hp b s t mk df (sgJ (sz : Int) wh fa fb fw fl (mp (fun x => wt x * a) sl_ n)) tr di mo dy) := by
  refine am_det (by decide +kernel) (Nat.le_of_ble_eq_true rfl) (fun Qr Qt hq => ?_)
  have hn := A.1
  refine aw_blk (pc' := 2) (ls' := [some (vr 5 5), some (vr 9 k), some (vi a), some (vi 0)]) (st' := []) [.inl (.iconst 0), .inl (.istore_n 3)] 0 _ _ (by decide +kernel) rfl ?_
  rw [show Hp b s t mk df (sgJ (sz : Int) wh fa fb fw fl sl_) tr di mo dy = Hp b s t mk df (sgJ (sz : Int) wh fa fb fw fl (mp (fun x => wt x * a) sl_ 0)) tr di mo dy by rw [mp_0]]
  refine up_to (W := fun i : Nat => AW G M_J_fill Qr Qt 0 0 2 [some (vr 5 5), some (vr 9 k), some (vi a), some (vi (i : Int))] [] (Hp b s t mk df [some (ob 5 [vr 5 1, vr 5 2, vr 5 3, vr 5 4, vr 5 5, vi (sz : Int), vl wh]), some (ar 0 72 fa), some (ar 0 72 fb), some (ar 1 72 fw), some (ar 1 24 fl), some (ar 1 24 (mp (fun x => wt x * a) sl_ i))] tr di mo dy)) n ?_ (fun i hi ih => ?_) 0 (by omega)
  · refine aw_blk (pc' := 4) (ls' := [some (vr 5 5), some (vr 9 k), some (vi a), some (vi (n : Int))]) (st' := [vr 9 k, vi (n : Int)]) [.inl (.iload_n 3), .inl (.aload_n 1)] 2 _ _ (by decide +kernel) rfl ?_
    refine aw_get (idx := 55) (ci := 9) (f := 0) (by decide +kernel) (by decide +kernel) hA.1 rfl ?_
    refine aw_alen (by decide +kernel) hA.2.1 (fun r7 => ?_)
    refine aw_icmp_ge (o := 28) (tgt := 36) (by decide +kernel) (by decide) (by omega) (by omega) (fun _ => ?_) (fun c => absurd (by omega) c)
    exact aw_vret (by decide +kernel) rfl (by decide) (by decide) (hq _ _ rfl rfl)
  · have hw := (A.2.2.1 i hi).2
    have hW := A.2.2.2.2.1
    have hm := mulB (x := wt i) (y := a) (by omega) (by omega) (by omega) (by omega)
    refine aw_blk (pc' := 4) (ls' := [some (vr 5 5), some (vr 9 k), some (vi a), some (vi (i : Int))]) (st' := [vr 9 k, vi (i : Int)]) [.inl (.iload_n 3), .inl (.aload_n 1)] 2 _ _ (by decide +kernel) rfl ?_
    refine aw_get (idx := 55) (ci := 9) (f := 0) (by decide +kernel) (by decide +kernel) hA.1 rfl ?_
    refine aw_alen (by decide +kernel) hA.2.1 (fun r7 => ?_)
    refine aw_icmp_ge (o := 28) (tgt := 36) (by decide +kernel) (by decide) (by omega) (by omega) (fun c => absurd c (by omega)) (fun _ => ?_)
    refine aw_blk (pc' := 13) (ls' := [some (vr 5 5), some (vr 9 k), some (vi a), some (vi (i : Int))]) (st' := [vr 5 5, vi (i : Int)]) [.inl (.iload_n 3), .inl (.aload_n 0)] 11 _ _ (by decide +kernel) rfl ?_
    refine aw_alen (by decide +kernel) rfl (fun r13 => ?_)
    refine aw_icmp_ge (o := 22) (tgt := 36) (by decide +kernel) (by decide) (by omega) (by omega) (fun c => absurd c (by omega)) (fun _ => ?_)
    refine aw_blk (pc' := 20) (ls' := [some (vr 5 5), some (vr 9 k), some (vi a), some (vi (i : Int))]) (st' := [vr 9 k, vi (i : Int), vr 5 5]) [.inl (.aload_n 0), .inl (.iload_n 3), .inl (.aload_n 1)] 17 _ _ (by decide +kernel) rfl ?_
    refine aw_get (idx := 58) (ci := 9) (f := 1) (by decide +kernel) (by decide +kernel) hA.1 rfl ?_
    refine aw_blk (pc' := 24) (ls' := [some (vr 5 5), some (vr 9 k), some (vi a), some (vi (i : Int))]) (st' := [vi (i : Int), vr 9 k2, vi (i : Int), vr 5 5]) [.inl (.iload_n 3)] 23 _ _ (by decide +kernel) rfl ?_
    refine aw_iald (j := i) (by decide +kernel) hA.2.2 (by omega) (by omega) (fun r24 => ?_)
    refine aw_i2l (by decide +kernel) (by omega) ?_
    refine aw_blk (pc' := 27) (ls' := [some (vr 5 5), some (vr 9 k), some (vi a), some (vi (i : Int))]) (st' := [vi a, vl (wt i), vi (i : Int), vr 5 5]) [.inl (.iload_n 2)] 26 _ _ (by decide +kernel) rfl ?_
    refine aw_i2l (by decide +kernel) (by omega) ?_
    refine aw_blk (pc' := 29) (ls' := [some (vr 5 5), some (vr 9 k), some (vi a), some (vi (i : Int))]) (st' := [vl ((wt i) * a), vi (i : Int), vr 5 5]) [.inl (.lmul)] 28 _ _ (by decide +kernel) rfl ?_
    refine aw_last (j := i) (h' := Hp b s t mk df [some (ob 5 [vr 5 1, vr 5 2, vr 5 3, vr 5 4, vr 5 5, vi (sz : Int), vl wh]), some (ar 0 72 fa), some (ar 0 72 fb), some (ar 1 72 fw), some (ar 1 24 fl), some (ar 1 24 (va_up (mp (fun x => wt x * a) sl_ i) i ((wt i) * a)))] tr di mo dy) (by decide +kernel) rfl (by omega) (by omega) (by omega) rfl ?_
    refine aw_blk (pc' := 33) (ls' := [some (vr 5 5), some (vr 9 k), some (vi a), some (vi ((i : Int) + 1))]) (st' := []) [.inl (.iinc 3 1)] 30 _ _ (by decide +kernel) rfl ?_
    refine aw_goto (o := -31) (tgt := 2) (by decide +kernel) (by decide) ?_
    exact aw_eq rfl rfl (by rw [← mp_s]) ih

theorem m_J_pairUp_0 (hA : isD dy k k1 k2 n at_ wt W) (hA2 : isD dy q q1 q2 m at2 wt2 W2) (A : lwN n at_ wt W) (A2 : lwN m at2 wt2 W2) (hi : i < n) (hj : j < m) (hl : (if sl_ j < fl i then sl_ j else fl i) < 1) : ADet G M_J_pairUp [vr 5 0, vr 9 k, vi (i : Int), vr 9 q, vi (j : Int)] (Hp b s t mk df (sgJ (sz : Int) wh fa fb fw fl sl_) tr di mo dy) none (Hp b s t mk df (sgJ (sz : Int) wh fa fb fw fl sl_) tr di mo dy) := by
  refine am_det (by decide +kernel) (Nat.le_of_ble_eq_true rfl) (fun Qr Qt hq => ?_)
  have hn := A.1
  have hm := A2.1
  obtain ⟨l, el⟩ : ∃ l : Int, l = if sl_ j < fl i then sl_ j else fl i := ⟨_, rfl⟩
  rw [← el] at hl
  refine aw_blk (pc' := 5) (ls' := [some (vr 5 0), some (vr 9 k), some (vi (i : Int)), some (vr 9 q), some (vi (j : Int)), none, none]) (st' := [vi (i : Int), vr 5 4]) [.inl (.aload_n 0), .inr (22, 5, 3), .inl (.iload_n 2)] 0 _ _ (by decide +kernel) rfl ?_
  refine aw_lald (j := i) (by decide +kernel) rfl (by omega) (by omega) (fun r5 => ?_)
  refine aw_blk (pc' := 12) (ls' := [some (vr 5 0), some (vr 9 k), some (vi (i : Int)), some (vr 9 q), some (vi (j : Int)), none, none]) (st' := [vi (j : Int), vr 5 5, vl (fl i)]) [.inl (.aload_n 0), .inr (25, 5, 4), .inl (.iload 4)] 6 _ _ (by decide +kernel) rfl ?_
  refine aw_lald (j := j) (by decide +kernel) rfl (by omega) (by omega) (fun r12 => ?_)
  refine aw_mminJ (idx := 68) (by decide +kernel) (by decide +kernel) (Nat.le_of_ble_eq_true rfl) (by decide) (by decide) (by decide) (by omega) (by omega) ?_
  rw [← el]
  have hl2 : I64 l := by rw [el]; split <;> omega
  refine aw_blk (pc' := 21) (ls' := [some (vr 5 0), some (vr 9 k), some (vi (i : Int)), some (vr 9 q), some (vi (j : Int)), some (vl l), none]) (st' := [vl 1, vl l]) [.inl (.lstore 5), .inl (.lload 5), .inl (.lconst 1)] 16 _ _ (by decide +kernel) rfl ?_
  refine aw_lcmp (by decide +kernel) (by omega) (by omega) ?_
  refine aw_if_lt (o := 12) (tgt := 34) (by decide +kernel) (by decide) (cmpI_in _ _) (fun _ => ?_) (fun c => absurd ((cmpI_lt _ _).mpr (by omega)) c)
  exact aw_vret (by decide +kernel) rfl (by decide) (by decide) (hq _ _ rfl rfl)

theorem m_J_pairUp_1 {l : Int} (hA : isD dy k k1 k2 n at_ wt W) (hA2 : isD dy q q1 q2 m at2 wt2 W2) (A : lwN n at_ wt W) (A2 : lwN m at2 wt2 W2) (hi : i < n) (hj : j < m) (hs : sz < 72) (hf : 0 ≤ fl i) (hs2 : 0 ≤ sl_ j) (el : l = if sl_ j < fl i then sl_ j else fl i) (hl : 1 ≤ l) : ADet G M_J_pairUp [vr 5 0, vr 9 k, vi (i : Int), vr 9 q, vi (j : Int)] (Hp b s t mk df (sgJ (sz : Int) wh fa fb fw fl sl_) tr di mo dy) none (Hp b s t mk df (sgJ ((sz : Int) + 1) wh (va_up fa sz (at_ i)) (va_up fb sz (at2 j)) (va_up fw sz l) (va_up fl i (fl i - l)) (va_up sl_ j (sl_ j - l))) tr di mo dy) := by
  refine am_det (by decide +kernel) (Nat.le_of_ble_eq_true rfl) (fun Qr Qt hq => ?_)
  have hn := A.1
  have hm := A2.1
  refine aw_blk (pc' := 5) (ls' := [some (vr 5 0), some (vr 9 k), some (vi (i : Int)), some (vr 9 q), some (vi (j : Int)), none, none]) (st' := [vi (i : Int), vr 5 4]) [.inl (.aload_n 0), .inr (22, 5, 3), .inl (.iload_n 2)] 0 _ _ (by decide +kernel) rfl ?_
  refine aw_lald (j := i) (by decide +kernel) rfl (by omega) (by omega) (fun r5 => ?_)
  refine aw_blk (pc' := 12) (ls' := [some (vr 5 0), some (vr 9 k), some (vi (i : Int)), some (vr 9 q), some (vi (j : Int)), none, none]) (st' := [vi (j : Int), vr 5 5, vl (fl i)]) [.inl (.aload_n 0), .inr (25, 5, 4), .inl (.iload 4)] 6 _ _ (by decide +kernel) rfl ?_
  refine aw_lald (j := j) (by decide +kernel) rfl (by omega) (by omega) (fun r12 => ?_)
  refine aw_mminJ (idx := 68) (by decide +kernel) (by decide +kernel) (Nat.le_of_ble_eq_true rfl) (by decide) (by decide) (by decide) (by omega) (by omega) ?_
  rw [← el]
  have hl3 : I64 l := by rw [el]; split <;> omega
  refine aw_blk (pc' := 21) (ls' := [some (vr 5 0), some (vr 9 k), some (vi (i : Int)), some (vr 9 q), some (vi (j : Int)), some (vl l), none]) (st' := [vl 1, vl l]) [.inl (.lstore 5), .inl (.lload 5), .inl (.lconst 1)] 16 _ _ (by decide +kernel) rfl ?_
  refine aw_lcmp (by decide +kernel) (by omega) (by omega) ?_
  refine aw_if_lt (o := 12) (tgt := 34) (by decide +kernel) (by decide) (cmpI_in _ _) (fun c => absurd ((cmpI_lt _ _).mp c) (by omega)) (fun _ => ?_)
  refine aw_blk (pc' := 31) (ls' := [some (vr 5 0), some (vr 9 k), some (vi (i : Int)), some (vr 9 q), some (vi (j : Int)), some (vl l), none]) (st' := [vi 72, vi (sz : Int)]) [.inl (.aload_n 0), .inr (28, 5, 5), .inl (.bipush 72)] 25 _ _ (by decide +kernel) rfl ?_
  refine aw_icmp_lt (o := 4) (tgt := 35) (by decide +kernel) (by decide) (by omega) (by omega) (fun _ => ?_) (fun c => absurd (by omega) c)
  refine aw_blk (pc' := 41) (ls' := [some (vr 5 0), some (vr 9 k), some (vi (i : Int)), some (vr 9 q), some (vi (j : Int)), some (vl l), none]) (st' := [vi (i : Int), vr 5 4, vi (i : Int), vr 5 4]) [.inl (.aload_n 0), .inr (22, 5, 3), .inl (.iload_n 2), .inl (.dup2)] 35 _ _ (by decide +kernel) rfl ?_
  refine aw_lald (j := i) (by decide +kernel) rfl (by omega) (by omega) (fun r41 => ?_)
  refine aw_blk (pc' := 45) (ls' := [some (vr 5 0), some (vr 9 k), some (vi (i : Int)), some (vr 9 q), some (vi (j : Int)), some (vl l), none]) (st' := [vl ((fl i) - l), vi (i : Int), vr 5 4]) [.inl (.lload 5), .inl (.lsub)] 42 _ _ (by decide +kernel) rfl ?_
  refine aw_last (j := i) (h' := Hp b s t mk df [some (ob 5 [vr 5 1, vr 5 2, vr 5 3, vr 5 4, vr 5 5, vi (sz : Int), vl wh]), some (ar 0 72 fa), some (ar 0 72 fb), some (ar 1 72 fw), some (ar 1 24 (va_up fl i ((fl i) - l))), some (ar 1 24 sl_)] tr di mo dy) (by decide +kernel) rfl (by omega) (by omega) (by omega) rfl ?_
  refine aw_blk (pc' := 53) (ls' := [some (vr 5 0), some (vr 9 k), some (vi (i : Int)), some (vr 9 q), some (vi (j : Int)), some (vl l), none]) (st' := [vi (j : Int), vr 5 5, vi (j : Int), vr 5 5]) [.inl (.aload_n 0), .inr (25, 5, 4), .inl (.iload 4), .inl (.dup2)] 46 _ _ (by decide +kernel) rfl ?_
  refine aw_lald (j := j) (by decide +kernel) rfl (by omega) (by omega) (fun r53 => ?_)
  refine aw_blk (pc' := 57) (ls' := [some (vr 5 0), some (vr 9 k), some (vi (i : Int)), some (vr 9 q), some (vi (j : Int)), some (vl l), none]) (st' := [vl ((sl_ j) - l), vi (j : Int), vr 5 5]) [.inl (.lload 5), .inl (.lsub)] 54 _ _ (by decide +kernel) rfl ?_
  refine aw_last (j := j) (h' := Hp b s t mk df [some (ob 5 [vr 5 1, vr 5 2, vr 5 3, vr 5 4, vr 5 5, vi (sz : Int), vl wh]), some (ar 0 72 fa), some (ar 0 72 fb), some (ar 1 72 fw), some (ar 1 24 (va_up fl i ((fl i) - l))), some (ar 1 24 (va_up sl_ j ((sl_ j) - l)))] tr di mo dy) (by decide +kernel) rfl (by omega) (by omega) (by omega) rfl ?_
  refine aw_blk (pc' := 67) (ls' := [some (vr 5 0), some (vr 9 k), some (vi (i : Int)), some (vr 9 q), some (vi (j : Int)), some (vl l), none]) (st' := [vr 9 k, vi (sz : Int), vr 5 1]) [.inl (.aload_n 0), .inr (11, 5, 0), .inl (.aload_n 0), .inr (28, 5, 5), .inl (.aload_n 1)] 58 _ _ (by decide +kernel) rfl ?_
  refine aw_get (idx := 55) (ci := 9) (f := 0) (by decide +kernel) (by decide +kernel) hA.1 rfl ?_
  refine aw_blk (pc' := 71) (ls' := [some (vr 5 0), some (vr 9 k), some (vi (i : Int)), some (vr 9 q), some (vi (j : Int)), some (vl l), none]) (st' := [vi (i : Int), vr 9 k1, vi (sz : Int), vr 5 1]) [.inl (.iload_n 2)] 70 _ _ (by decide +kernel) rfl ?_
  refine aw_iald (j := i) (by decide +kernel) hA.2.1 (by omega) (by omega) (fun r71 => ?_)
  refine aw_iast (j := sz) (h' := Hp b s t mk df [some (ob 5 [vr 5 1, vr 5 2, vr 5 3, vr 5 4, vr 5 5, vi (sz : Int), vl wh]), some (ar 0 72 (va_up fa sz (at_ i))), some (ar 0 72 fb), some (ar 1 72 fw), some (ar 1 24 (va_up fl i ((fl i) - l))), some (ar 1 24 (va_up sl_ j ((sl_ j) - l)))] tr di mo dy) (by decide +kernel) rfl (by omega) (by omega) (by omega) rfl ?_
  refine aw_blk (pc' := 82) (ls' := [some (vr 5 0), some (vr 9 k), some (vi (i : Int)), some (vr 9 q), some (vi (j : Int)), some (vl l), none]) (st' := [vr 9 q, vi (sz : Int), vr 5 2]) [.inl (.aload_n 0), .inr (15, 5, 1), .inl (.aload_n 0), .inr (28, 5, 5), .inl (.aload_n 3)] 73 _ _ (by decide +kernel) rfl ?_
  refine aw_get (idx := 55) (ci := 9) (f := 0) (by decide +kernel) (by decide +kernel) hA2.1 rfl ?_
  refine aw_blk (pc' := 87) (ls' := [some (vr 5 0), some (vr 9 k), some (vi (i : Int)), some (vr 9 q), some (vi (j : Int)), some (vl l), none]) (st' := [vi (j : Int), vr 9 q1, vi (sz : Int), vr 5 2]) [.inl (.iload 4)] 85 _ _ (by decide +kernel) rfl ?_
  refine aw_iald (j := j) (by decide +kernel) hA2.2.1 (by omega) (by omega) (fun r87 => ?_)
  refine aw_iast (j := sz) (h' := Hp b s t mk df [some (ob 5 [vr 5 1, vr 5 2, vr 5 3, vr 5 4, vr 5 5, vi (sz : Int), vl wh]), some (ar 0 72 (va_up fa sz (at_ i))), some (ar 0 72 (va_up fb sz (at2 j))), some (ar 1 72 fw), some (ar 1 24 (va_up fl i ((fl i) - l))), some (ar 1 24 (va_up sl_ j ((sl_ j) - l)))] tr di mo dy) (by decide +kernel) rfl (by omega) (by omega) (by omega) rfl ?_
  refine aw_blk (pc' := 99) (ls' := [some (vr 5 0), some (vr 9 k), some (vi (i : Int)), some (vr 9 q), some (vi (j : Int)), some (vl l), none]) (st' := [vl l, vi (sz : Int), vr 5 3]) [.inl (.aload_n 0), .inr (18, 5, 2), .inl (.aload_n 0), .inr (28, 5, 5), .inl (.lload 5)] 89 _ _ (by decide +kernel) rfl ?_
  refine aw_last (j := sz) (h' := Hp b s t mk df [some (ob 5 [vr 5 1, vr 5 2, vr 5 3, vr 5 4, vr 5 5, vi (sz : Int), vl wh]), some (ar 0 72 (va_up fa sz (at_ i))), some (ar 0 72 (va_up fb sz (at2 j))), some (ar 1 72 (va_up fw sz l)), some (ar 1 24 (va_up fl i ((fl i) - l))), some (ar 1 24 (va_up sl_ j ((sl_ j) - l)))] tr di mo dy) (by decide +kernel) rfl (by omega) (by omega) (by omega) rfl ?_
  refine aw_blk (pc' := 107) (ls' := [some (vr 5 0), some (vr 9 k), some (vi (i : Int)), some (vr 9 q), some (vi (j : Int)), some (vl l), none]) (st' := [vi ((sz : Int) + 1), vr 5 0]) [.inl (.aload_n 0), .inl (.dup), .inr (28, 5, 5), .inl (.iconst 1), .inl (.iadd)] 100 _ _ (by decide +kernel) rfl ?_
  refine aw_put (idx := 28) (ci := 5) (k := 5) (h' := Hp b s t mk df [some (ob 5 [vr 5 1, vr 5 2, vr 5 3, vr 5 4, vr 5 5, vi ((sz : Int) + 1), vl wh]), some (ar 0 72 (va_up fa sz (at_ i))), some (ar 0 72 (va_up fb sz (at2 j))), some (ar 1 72 (va_up fw sz l)), some (ar 1 24 (va_up fl i ((fl i) - l))), some (ar 1 24 (va_up sl_ j ((sl_ j) - l)))] tr di mo dy) (by decide +kernel) (by decide +kernel) rfl (Nat.le_of_ble_eq_true rfl) (show I32 _ from by omega) rfl ?_
  exact aw_vret (by decide +kernel) rfl (by decide) (by decide) (hq _ _ rfl rfl)

theorem l_J_wo {Qr : Option AV → HT → Prop} {Qt : HT → Prop} (hn : sz ≤ 72) (ha : I32 a) (hc : I32 c) : ∀ (e k : Nat), k + e = sz → (∀ x g, x = some (vl (fnd fa fb fw a c e k)) → g = Hp b s t mk df (sgJ (sz : Int) wh fa fb fw fl sl_) tr di mo dy → Qr x g) → AW G M_J_weightOf Qr Qt 0 0 2 [some (vr 5 0), some (vi a), some (vi c), some (vi (k : Int))] [] (Hp b s t mk df (sgJ (sz : Int) wh fa fb fw fl sl_) tr di mo dy) := by
  intro e
  induction e with
  | zero =>
    intro k hk hq
    refine aw_blk (pc' := 7) (ls' := [some (vr 5 0), some (vi a), some (vi c), some (vi (k : Int))]) (st' := [vi (sz : Int), vi (k : Int)]) [.inl (.iload_n 3), .inl (.aload_n 0), .inr (28, 5, 5)] 2 _ _ (by decide +kernel) rfl ?_
    refine aw_icmp_ge (o := 36) (tgt := 43) (by decide +kernel) (by decide) (by omega) (by omega) (fun _ => ?_) (fun c => absurd (by omega) c)
    refine aw_blk (pc' := 44) (ls' := [some (vr 5 0), some (vi a), some (vi c), some (vi (k : Int))]) (st' := [vl 0]) [.inl (.lconst 0)] 43 _ _ (by decide +kernel) rfl ?_
    exact aw_lret (by decide +kernel) rfl (by decide) (by decide) (hq _ _ rfl rfl)
  | succ e ih =>
    intro k hk hq
    refine aw_blk (pc' := 7) (ls' := [some (vr 5 0), some (vi a), some (vi c), some (vi (k : Int))]) (st' := [vi (sz : Int), vi (k : Int)]) [.inl (.iload_n 3), .inl (.aload_n 0), .inr (28, 5, 5)] 2 _ _ (by decide +kernel) rfl ?_
    refine aw_icmp_ge (o := 36) (tgt := 43) (by decide +kernel) (by decide) (by omega) (by omega) (fun c => absurd c (by omega)) (fun _ => ?_)
    refine aw_blk (pc' := 15) (ls' := [some (vr 5 0), some (vi a), some (vi c), some (vi (k : Int))]) (st' := [vi (k : Int), vr 5 1]) [.inl (.aload_n 0), .inr (11, 5, 0), .inl (.iload_n 3)] 10 _ _ (by decide +kernel) rfl ?_
    refine aw_iald (j := k) (by decide +kernel) rfl (by omega) (by omega) (fun r15 => ?_)
    refine aw_blk (pc' := 17) (ls' := [some (vr 5 0), some (vi a), some (vi c), some (vi (k : Int))]) (st' := [vi a, vi (fa k)]) [.inl (.iload_n 1)] 16 _ _ (by decide +kernel) rfl ?_
    refine aw_icmp_ne (o := 20) (tgt := 37) (by decide +kernel) (by decide) (by omega) (by omega) (fun c17 => ?_) (fun c17 => ?_)
    · refine aw_blk (pc' := 40) (ls' := [some (vr 5 0), some (vi a), some (vi c), some (vi ((k : Int) + 1))]) (st' := []) [.inl (.iinc 3 1)] 37 _ _ (by decide +kernel) rfl ?_
      refine aw_goto (o := -38) (tgt := 2) (by decide +kernel) (by decide) ?_
      refine aw_eq rfl rfl rfl (ih (k + 1) (by omega) (fun x g e1 e2 => hq x g ?_ e2))
      rw [e1, fnd, if_neg (by omega)]
    · refine aw_blk (pc' := 25) (ls' := [some (vr 5 0), some (vi a), some (vi c), some (vi (k : Int))]) (st' := [vi (k : Int), vr 5 2]) [.inl (.aload_n 0), .inr (15, 5, 1), .inl (.iload_n 3)] 20 _ _ (by decide +kernel) rfl ?_
      refine aw_iald (j := k) (by decide +kernel) rfl (by omega) (by omega) (fun r25 => ?_)
      refine aw_blk (pc' := 27) (ls' := [some (vr 5 0), some (vi a), some (vi c), some (vi (k : Int))]) (st' := [vi c, vi (fb k)]) [.inl (.iload_n 2)] 26 _ _ (by decide +kernel) rfl ?_
      refine aw_icmp_ne (o := 10) (tgt := 37) (by decide +kernel) (by decide) (by omega) (by omega) (fun c27 => ?_) (fun c27 => ?_)
      · refine aw_blk (pc' := 40) (ls' := [some (vr 5 0), some (vi a), some (vi c), some (vi ((k : Int) + 1))]) (st' := []) [.inl (.iinc 3 1)] 37 _ _ (by decide +kernel) rfl ?_
        refine aw_goto (o := -38) (tgt := 2) (by decide +kernel) (by decide) ?_
        refine aw_eq rfl rfl rfl (ih (k + 1) (by omega) (fun x g e1 e2 => hq x g ?_ e2))
        rw [e1, fnd, if_neg (by omega)]
      · refine aw_blk (pc' := 35) (ls' := [some (vr 5 0), some (vi a), some (vi c), some (vi (k : Int))]) (st' := [vi (k : Int), vr 5 3]) [.inl (.aload_n 0), .inr (18, 5, 2), .inl (.iload_n 3)] 30 _ _ (by decide +kernel) rfl ?_
        refine aw_lald (j := k) (by decide +kernel) rfl (by omega) (by omega) (fun r35 => ?_)
        exact aw_lret (by decide +kernel) rfl (by decide) (by decide) (hq _ _ (by rw [fnd, if_pos (by omega)]) rfl)
theorem m_J_weightOf (hn : sz ≤ 72) (ha : I32 a) (hc : I32 c) : ADet G M_J_weightOf [vr 5 0, vi a, vi c] (Hp b s t mk df (sgJ (sz : Int) wh fa fb fw fl sl_) tr di mo dy) (some (vl (fnd fa fb fw a c sz 0))) (Hp b s t mk df (sgJ (sz : Int) wh fa fb fw fl sl_) tr di mo dy) := by
  refine am_det (by decide +kernel) (Nat.le_of_ble_eq_true rfl) (fun Qr Qt hq => ?_)
  refine aw_blk (pc' := 2) (ls' := [some (vr 5 0), some (vi a), some (vi c), some (vi 0)]) (st' := []) [.inl (.iconst 0), .inl (.istore_n 3)] 0 _ _ (by decide +kernel) rfl ?_
  exact l_J_wo hn ha hc sz 0 (by omega) hq

theorem up_ge {F : Nat → Int} {N k : Nat} {x : Int} (h : ∀ i, i < N → 0 ≤ F i) (hx : 0 ≤ x) : ∀ i, i < N → 0 ≤ va_up F k x i := by
  intro i hi
  simp only [va_up]
  split
  · exact hx
  · exact h i hi
theorem l_J_nw {Qr : Option AV → HT → Prop} {Qt : HT → Prop} (hA : isD dy k k1 k2 n at_ wt W) (hA2 : isD dy q q1 q2 m at2 wt2 W2) (A : lwN n at_ wt W) (A2 : lwN m at2 wt2 W2) : ∀ (e i j : Nat) (js : List T3) (fa fb fw fl sl_ : Nat → Int), (n - i) + (m - j) < e → i ≤ n → j ≤ m → (∀ k, k < n → 0 ≤ fl k) → (∀ k, k < m → 0 ≤ sl_ k) → jr fa fb fw js → js.length ≤ 24 + i + j → (∀ js2 fa fb fw fl2 sl2, js2 = js ++ nw (tab at_ fl i (n - i)) (tab at2 sl_ j (m - j)) → jr fa fb fw js2 → Qr none (Hp b s t mk df (sgJ (js2.length : Int) wh fa fb fw fl2 sl2) tr di mo dy)) → AW G M_J_pairNorthwest Qr Qt 0 0 5 [some (vr 5 0), some (vr 9 k), some (vr 9 q), some (vi (i : Int)), some (vi (j : Int))] [] (Hp b s t mk df (sgJ (js.length : Int) wh fa fb fw fl sl_) tr di mo dy) := by
  intro e
  induction e with
  | zero =>
    intro i j js fa fb fw fl sl_ he hi hj hF hS hR hz hq
    exact absurd he (by omega)
  | succ e ih =>
    intro i j js fa fb fw fl sl_ he hi hj hF hS hR hz hq
    have hn := A.1
    have hm := A2.1
    refine aw_blk (pc' := 7) (ls' := [some (vr 5 0), some (vr 9 k), some (vr 9 q), some (vi (i : Int)), some (vi (j : Int))]) (st' := [vr 9 k, vi (i : Int)]) [.inl (.iload_n 3), .inl (.aload_n 1)] 5 _ _ (by decide +kernel) rfl ?_
    refine aw_get (idx := 55) (ci := 9) (f := 0) (by decide +kernel) (by decide +kernel) hA.1 rfl ?_
    refine aw_alen (by decide +kernel) hA.2.1 (fun r10 => ?_)
    refine aw_icmp_ge (o := 45) (tgt := 56) (by decide +kernel) (by decide) (by omega) (by omega) (fun c11 => ?_) (fun c11 => ?_)
    · have e1 : n - i = 0 := by omega
      rw [e1] at hq
      exact aw_vret (by decide +kernel) rfl (by decide) (by decide) (hq js fa fb fw fl sl_ (by simp [tab, nw]) hR)
    · refine aw_blk (pc' := 17) (ls' := [some (vr 5 0), some (vr 9 k), some (vr 9 q), some (vi (i : Int)), some (vi (j : Int))]) (st' := [vr 9 q, vi (j : Int)]) [.inl (.iload 4), .inl (.aload_n 2)] 14 _ _ (by decide +kernel) rfl ?_
      refine aw_get (idx := 55) (ci := 9) (f := 0) (by decide +kernel) (by decide +kernel) hA2.1 rfl ?_
      refine aw_alen (by decide +kernel) hA2.2.1 (fun r20 => ?_)
      refine aw_icmp_ge (o := 35) (tgt := 56) (by decide +kernel) (by decide) (by omega) (by omega) (fun c21 => ?_) (fun c21 => ?_)
      · have e1 : m - j = 0 := by omega
        rw [e1] at hq
        exact aw_vret (by decide +kernel) rfl (by decide) (by decide) (hq js fa fb fw fl sl_ (by obtain ⟨d, hd⟩ : ∃ d, n - i = d + 1 := ⟨n - i - 1, by omega⟩; simp [hd, tab, nw]) hR)
      · refine aw_blk (pc' := 30) (ls' := [some (vr 5 0), some (vr 9 k), some (vr 9 q), some (vi (i : Int)), some (vi (j : Int))]) (st' := [vi (j : Int), vr 9 q, vi (i : Int), vr 9 k, vr 5 0]) [.inl (.aload_n 0), .inl (.aload_n 1), .inl (.iload_n 3), .inl (.aload_n 2), .inl (.iload 4)] 24 _ _ (by decide +kernel) rfl ?_
        obtain ⟨d, hd⟩ : ∃ d, n - i = d + 1 := ⟨n - i - 1, by omega⟩
        obtain ⟨d2, hd2⟩ : ∃ d, m - j = d + 1 := ⟨m - j - 1, by omega⟩
        have hd3 : n - (i + 1) = d := by omega
        have hd4 : m - (j + 1) = d2 := by omega
        have hF1 := hF i (by omega)
        have hS1 := hS j (by omega)
        obtain ⟨l, el⟩ : ∃ l : Int, l = if sl_ j < fl i then sl_ j else fl i := ⟨_, rfl⟩
        rcases Int.lt_or_le l 1 with c9 | c9
        · refine aw_dV (cs' := 0) (sl' := 0) (pc' := 33) (st' := []) (idx := 64) (as := [vr 9 k, vi (i : Int), vr 9 q, vi (j : Int)]) (st := []) (m_J_pairUp_0 hA hA2 A A2 (by omega) (by omega) (by rw [← el]; exact c9)) (by decide +kernel) (show vOK "ChanceBench$Joint" 64 M_J_pairUp 4 = true by decide +kernel) rfl rfl rfl (Nat.le_of_ble_eq_true rfl) (by decide) (by decide) (by decide) rfl rfl rfl rfl ?_
          refine aw_blk (pc' := 38) (ls' := [some (vr 5 0), some (vr 9 k), some (vr 9 q), some (vi (i : Int)), some (vi (j : Int))]) (st' := [vi (i : Int), vr 5 4]) [.inl (.aload_n 0), .inr (22, 5, 3), .inl (.iload_n 3)] 33 _ _ (by decide +kernel) rfl ?_
          refine aw_lald (j := i) (by decide +kernel) rfl (by omega) (by omega) (fun r38 => ?_)
          refine aw_blk (pc' := 40) (ls' := [some (vr 5 0), some (vr 9 k), some (vr 9 q), some (vi (i : Int)), some (vi (j : Int))]) (st' := [vl 0, vl (fl i)]) [.inl (.lconst 0)] 39 _ _ (by decide +kernel) rfl ?_
          refine aw_lcmp (by decide +kernel) (by omega) (by omega) ?_
          refine aw_if_ne (o := 9) (tgt := 50) (by decide +kernel) (by decide) (cmpI_in _ _) (fun c40 => ?_) (fun c40 => ?_)
          · rw [cmpI_eq] at c40
            refine aw_blk (pc' := 53) (ls' := [some (vr 5 0), some (vr 9 k), some (vr 9 q), some (vi (i : Int)), some (vi ((j : Int) + 1))]) (st' := []) [.inl (.iinc 4 1)] 50 _ _ (by decide +kernel) rfl ?_
            refine aw_goto (o := -48) (tgt := 5) (by decide +kernel) (by decide) ?_
            exact ih i (j + 1) js fa fb fw fl sl_ (by omega) (by omega) (by omega) hF hS hR (by omega) (fun js2 a1 a2 a3 a4 a5 e1 e2 => hq js2 a1 a2 a3 a4 a5 (by rw [e1, hd, hd2, hd4]; simp only [tab]; rw [nw, if_neg (by split at el <;> omega), if_neg (by split at el <;> omega)]; rw [show sl_ j = 0 by split at el <;> omega, Int.sub_zero]; simp) e2)
          · rw [cmpI_eq] at c40
            refine aw_blk (pc' := 47) (ls' := [some (vr 5 0), some (vr 9 k), some (vr 9 q), some (vi ((i : Int) + 1)), some (vi (j : Int))]) (st' := []) [.inl (.iinc 3 1)] 44 _ _ (by decide +kernel) rfl ?_
            refine aw_goto (o := -42) (tgt := 5) (by decide +kernel) (by decide) ?_
            exact ih (i + 1) j js fa fb fw fl sl_ (by omega) (by omega) (by omega) hF hS hR (by omega) (fun js2 a1 a2 a3 a4 a5 e1 e2 => hq js2 a1 a2 a3 a4 a5 (by rw [e1, hd, hd2, hd3]; simp only [tab]; rw [nw, if_pos (by split at el <;> omega), if_neg (by omega), show fl i = 0 by omega, Int.sub_zero]; simp) e2)
        · refine aw_dV (cs' := 0) (sl' := 0) (pc' := 33) (st' := []) (idx := 64) (as := [vr 9 k, vi (i : Int), vr 9 q, vi (j : Int)]) (st := []) (m_J_pairUp_1 hA hA2 A A2 (by omega) (by omega) (by omega) (by omega) (by omega) el c9) (by decide +kernel) (show vOK "ChanceBench$Joint" 64 M_J_pairUp 4 = true by decide +kernel) rfl rfl rfl (Nat.le_of_ble_eq_true rfl) (by decide) (by decide) (by decide) rfl rfl rfl rfl ?_
          refine aw_blk (pc' := 38) (ls' := [some (vr 5 0), some (vr 9 k), some (vr 9 q), some (vi (i : Int)), some (vi (j : Int))]) (st' := [vi (i : Int), vr 5 4]) [.inl (.aload_n 0), .inr (22, 5, 3), .inl (.iload_n 3)] 33 _ _ (by decide +kernel) rfl ?_
          refine aw_lald (j := i) (by decide +kernel) rfl (by omega) (by omega) (fun r38 => ?_)
          rw [va_eq] at r38 ⊢
          refine aw_blk (pc' := 40) (ls' := [some (vr 5 0), some (vr 9 k), some (vr 9 q), some (vi (i : Int)), some (vi (j : Int))]) (st' := [vl 0, vl (fl i - l)]) [.inl (.lconst 0)] 39 _ _ (by decide +kernel) rfl ?_
          have hl5 : l ≤ fl i ∧ l ≤ sl_ j := by rw [el]; split <;> omega
          refine aw_lcmp (by decide +kernel) (by omega) (by omega) ?_
          refine aw_if_ne (o := 9) (tgt := 50) (by decide +kernel) (by decide) (cmpI_in _ _) (fun c40 => ?_) (fun c40 => ?_)
          · rw [cmpI_eq] at c40
            refine aw_blk (pc' := 53) (ls' := [some (vr 5 0), some (vr 9 k), some (vr 9 q), some (vi (i : Int)), some (vi ((j : Int) + 1))]) (st' := []) [.inl (.iinc 4 1)] 50 _ _ (by decide +kernel) rfl ?_
            refine aw_goto (o := -48) (tgt := 5) (by decide +kernel) (by decide) ?_
            refine aw_eq rfl rfl (by simp) (ih (i) (j + 1) (js ++ [(at_ i, at2 j, l)]) (va_up fa js.length (at_ i)) (va_up fb js.length (at2 j)) (va_up fw js.length l) (va_up fl i (fl i - l)) (va_up sl_ j (sl_ j - l)) (by omega) (by omega) (by omega) (up_ge hF (by omega)) (up_ge hS (by omega)) (jr_s hR) (by simp; omega) (fun js2 a1 a2 a3 a4 a5 e1 e2 => hq js2 a1 a2 a3 a4 a5 ?_ e2))
            rw [e1, hd, hd2, hd4, List.append_assoc]
            congr 1
            simp only [tab, va_eq]
            rw [nw, if_neg (by split at el <;> omega), if_pos (by split at el <;> omega), tab_up (show j < j + 1 by omega), show sl_ j = l by split at el <;> omega]
            simp [tab_up (show i < i + 1 by omega), tab_up (show j < j + 1 by omega)]
          · rw [cmpI_eq] at c40
            refine aw_blk (pc' := 47) (ls' := [some (vr 5 0), some (vr 9 k), some (vr 9 q), some (vi ((i : Int) + 1)), some (vi (j : Int))]) (st' := []) [.inl (.iinc 3 1)] 44 _ _ (by decide +kernel) rfl ?_
            refine aw_goto (o := -42) (tgt := 5) (by decide +kernel) (by decide) ?_
            refine aw_eq rfl rfl (by simp) (ih (i + 1) (j) (js ++ [(at_ i, at2 j, l)]) (va_up fa js.length (at_ i)) (va_up fb js.length (at2 j)) (va_up fw js.length l) (va_up fl i (fl i - l)) (va_up sl_ j (sl_ j - l)) (by omega) (by omega) (by omega) (up_ge hF (by omega)) (up_ge hS (by omega)) (jr_s hR) (by simp; omega) (fun js2 a1 a2 a3 a4 a5 e1 e2 => hq js2 a1 a2 a3 a4 a5 ?_ e2))
            rw [e1, hd, hd2, hd3, List.append_assoc]
            congr 1
            simp only [tab, va_eq]
            rw [nw, if_pos (by split at el <;> omega), if_pos (by split at el <;> omega), tab_up (show i < i + 1 by omega), show fl i = l by split at el <;> omega]
            simp [tab_up (show i < i + 1 by omega), tab_up (show j < j + 1 by omega)]
end
