abbrev sgF (n : Int) (D B : Nat → Int) : SG := [some (ob 4 [vr 4 1, vr 4 2, vi n]), some (ar 0 48 D), some (ar 1 48 B)]
def ab (x : Int) : Int := if 0 < x then x else -x
/-- the weight that stands at v -/
def den (f g : Nat → Int) (n : Nat) (v : Int) : Int := sumZ (fun i => if f i = v then g i else 0) n
def arF (D B : Nat → Int) : Nat → Int
  | 0 => 0
  | k + 1 => arF D B k + ab (sumZ B (k + 1)) * (D (k + 1) - D k)
def ovF (D B : Nat → Int) : Nat → Int
  | 0 => 0
  | k + 1 => ovF D B k + sumZ B (k + 1) * (D (k + 1) - D k)
def lna (D B : Nat → Int) : Nat → Nat → Int
  | 0, _ => 5000
  | d + 1, k => if 0 < sumZ B (k + 1) then D k + 1 else lna D B d (k + 1)
def lms (D B : Nat → Int) : Nat → Nat → Int
  | 0, _ => 5000
  | d + 1, k => if 0 < sumZ B (k + 1) ∧ Int.tdiv (-(ovF D B k)) (sumZ B (k + 1)) + 1 ≤ D (k + 1) - D k then D k + (Int.tdiv (-(ovF D B k)) (sumZ B (k + 1)) + 1) else lms D B d (k + 1)
section
variable {G : GT} {h : HT} {b s t mk df jo tr di mo dy : SG} {a c d : Int} {n p k k1 k2 j j1 j2 m L : Nat} {f g D B at_ wt at2 wt2 : Nat → Int} {W W2 : Int}
theorem m_F_note_h (hL : 0 < L ∧ L ≤ 48) (ha : I32 a) (he : D (L - 1) = a) (hi : I64 (B (L - 1) + c)) : ADet G M_F_note [vr 4 0, vi a, vl c] (Hp b s t mk (sgF (L : Int) D B) jo tr di mo dy) none (Hp b s t mk (sgF (L : Int) D (va_up B (L - 1) (B (L - 1) + c))) jo tr di mo dy) := by
  refine am_det (by decide +kernel) (Nat.le_of_ble_eq_true rfl) (fun Qr Qt hq => ?_)
  refine aw_blk (pc' := 4) (ls' := [some (vr 4 0), some (vi a), some (vl c), none]) (st' := [vi (L : Int)]) [.inl (.aload_n 0), .inr (19, 4, 2)] 0 _ _ (by decide +kernel) rfl ?_
  refine aw_if_le (o := 36) (tgt := 40) (by decide +kernel) (by decide) (by omega) (fun c => absurd c (by omega)) (fun _ => ?_)
  refine aw_blk (pc' := 17) (ls' := [some (vr 4 0), some (vi a), some (vl c), none]) (st' := [vi ((L : Int) - 1), vr 4 1]) [.inl (.aload_n 0), .inr (9, 4, 0), .inl (.aload_n 0), .inr (19, 4, 2), .inl (.iconst 1), .inl (.isub)] 7 _ _ (by decide +kernel) rfl ?_
  refine aw_iald (j := L - 1) (by decide +kernel) rfl (by omega) (by omega) (fun r17 => ?_)
  refine aw_blk (pc' := 19) (ls' := [some (vr 4 0), some (vi a), some (vl c), none]) (st' := [vi a, vi (D (L - 1))]) [.inl (.iload_n 1)] 18 _ _ (by decide +kernel) rfl ?_
  refine aw_icmp_ne (o := 21) (tgt := 40) (by decide +kernel) (by decide) (by omega) (by omega) (fun c => absurd (by omega) c) (fun _ => ?_)
  refine aw_blk (pc' := 33) (ls' := [some (vr 4 0), some (vi a), some (vl c), none]) (st' := [vi ((L : Int) - 1), vr 4 2, vi ((L : Int) - 1), vr 4 2]) [.inl (.aload_n 0), .inr (15, 4, 1), .inl (.aload_n 0), .inr (19, 4, 2), .inl (.iconst 1), .inl (.isub), .inl (.dup2)] 22 _ _ (by decide +kernel) rfl ?_
  refine aw_lald (j := L - 1) (by decide +kernel) rfl (by omega) (by omega) (fun r33 => ?_)
  refine aw_blk (pc' := 36) (ls' := [some (vr 4 0), some (vi a), some (vl c), none]) (st' := [vl ((B (L - 1)) + c), vi ((L : Int) - 1), vr 4 2]) [.inl (.lload_n 2), .inl (.ladd)] 34 _ _ (by decide +kernel) rfl ?_
  refine aw_last (j := L - 1) (h' := Hp b s t mk [some (ob 4 [vr 4 1, vr 4 2, vi (L : Int)]), some (ar 0 48 D), some (ar 1 48 (va_up B (L - 1) ((B (L - 1)) + c)))] jo tr di mo dy) (by decide +kernel) rfl (by omega) (by omega) (by omega) rfl ?_
  refine aw_goto (o := 45) (tgt := 82) (by decide +kernel) (by decide) ?_
  exact aw_vret (by decide +kernel) rfl (by decide) (by decide) (hq _ _ rfl rfl)

theorem m_F_note_n (hL : L < 48) (ha : I32 a) (hc : I64 c) (he : 0 < L → D (L - 1) ≠ a) : ADet G M_F_note [vr 4 0, vi a, vl c] (Hp b s t mk (sgF (L : Int) D B) jo tr di mo dy) none (Hp b s t mk (sgF ((L : Int) + 1) (va_up D L a) (va_up B L c)) jo tr di mo dy) := by
  refine am_det (by decide +kernel) (Nat.le_of_ble_eq_true rfl) (fun Qr Qt hq => ?_)
  refine aw_blk (pc' := 4) (ls' := [some (vr 4 0), some (vi a), some (vl c), none]) (st' := [vi (L : Int)]) [.inl (.aload_n 0), .inr (19, 4, 2)] 0 _ _ (by decide +kernel) rfl ?_
  refine aw_if_le (o := 36) (tgt := 40) (by decide +kernel) (by decide) (by omega) (fun c4 => ?_) (fun c4 => ?_)
  · refine aw_blk (pc' := 48) (ls' := [some (vr 4 0), some (vi a), some (vl c), none]) (st' := [vr 4 1, vi (L : Int)]) [.inl (.aload_n 0), .inr (19, 4, 2), .inl (.aload_n 0), .inr (9, 4, 0)] 40 _ _ (by decide +kernel) rfl ?_
    refine aw_alen (by decide +kernel) rfl (fun r48 => ?_)
    refine aw_icmp_ge (o := 33) (tgt := 82) (by decide +kernel) (by decide) (by omega) (by omega) (fun c => absurd c (by omega)) (fun _ => ?_)
    refine aw_blk (pc' := 61) (ls' := [some (vr 4 0), some (vi a), some (vl c), none]) (st' := [vi a, vi (L : Int), vr 4 1]) [.inl (.aload_n 0), .inr (9, 4, 0), .inl (.aload_n 0), .inr (19, 4, 2), .inl (.iload_n 1)] 52 _ _ (by decide +kernel) rfl ?_
    refine aw_iast (j := L) (h' := Hp b s t mk [some (ob 4 [vr 4 1, vr 4 2, vi (L : Int)]), some (ar 0 48 (va_up D L a)), some (ar 1 48 B)] jo tr di mo dy) (by decide +kernel) rfl (by omega) (by omega) (by omega) rfl ?_
    refine aw_blk (pc' := 71) (ls' := [some (vr 4 0), some (vi a), some (vl c), none]) (st' := [vl c, vi (L : Int), vr 4 2]) [.inl (.aload_n 0), .inr (15, 4, 1), .inl (.aload_n 0), .inr (19, 4, 2), .inl (.lload_n 2)] 62 _ _ (by decide +kernel) rfl ?_
    refine aw_last (j := L) (h' := Hp b s t mk [some (ob 4 [vr 4 1, vr 4 2, vi (L : Int)]), some (ar 0 48 (va_up D L a)), some (ar 1 48 (va_up B L c))] jo tr di mo dy) (by decide +kernel) rfl (by omega) (by omega) (by omega) rfl ?_
    refine aw_blk (pc' := 79) (ls' := [some (vr 4 0), some (vi a), some (vl c), none]) (st' := [vi ((L : Int) + 1), vr 4 0]) [.inl (.aload_n 0), .inl (.dup), .inr (19, 4, 2), .inl (.iconst 1), .inl (.iadd)] 72 _ _ (by decide +kernel) rfl ?_
    refine aw_put (idx := 19) (ci := 4) (k := 2) (h' := Hp b s t mk [some (ob 4 [vr 4 1, vr 4 2, vi ((L : Int) + 1)]), some (ar 0 48 (va_up D L a)), some (ar 1 48 (va_up B L c))] jo tr di mo dy) (by decide +kernel) (by decide +kernel) rfl (Nat.le_of_ble_eq_true rfl) (show I32 _ from by omega) rfl ?_
    exact aw_vret (by decide +kernel) rfl (by decide) (by decide) (hq _ _ rfl rfl)
  · refine aw_blk (pc' := 17) (ls' := [some (vr 4 0), some (vi a), some (vl c), none]) (st' := [vi ((L : Int) - 1), vr 4 1]) [.inl (.aload_n 0), .inr (9, 4, 0), .inl (.aload_n 0), .inr (19, 4, 2), .inl (.iconst 1), .inl (.isub)] 7 _ _ (by decide +kernel) rfl ?_
    refine aw_iald (j := L - 1) (by decide +kernel) rfl (by omega) (by omega) (fun r17 => ?_)
    refine aw_blk (pc' := 19) (ls' := [some (vr 4 0), some (vi a), some (vl c), none]) (st' := [vi a, vi (D (L - 1))]) [.inl (.iload_n 1)] 18 _ _ (by decide +kernel) rfl ?_
    refine aw_icmp_ne (o := 21) (tgt := 40) (by decide +kernel) (by decide) (by omega) (by omega) (fun _ => ?_) (fun c => absurd c (by omega))
    refine aw_blk (pc' := 48) (ls' := [some (vr 4 0), some (vi a), some (vl c), none]) (st' := [vr 4 1, vi (L : Int)]) [.inl (.aload_n 0), .inr (19, 4, 2), .inl (.aload_n 0), .inr (9, 4, 0)] 40 _ _ (by decide +kernel) rfl ?_
    refine aw_alen (by decide +kernel) rfl (fun r48 => ?_)
    refine aw_icmp_ge (o := 33) (tgt := 82) (by decide +kernel) (by decide) (by omega) (by omega) (fun c => absurd c (by omega)) (fun _ => ?_)
    refine aw_blk (pc' := 61) (ls' := [some (vr 4 0), some (vi a), some (vl c), none]) (st' := [vi a, vi (L : Int), vr 4 1]) [.inl (.aload_n 0), .inr (9, 4, 0), .inl (.aload_n 0), .inr (19, 4, 2), .inl (.iload_n 1)] 52 _ _ (by decide +kernel) rfl ?_
    refine aw_iast (j := L) (h' := Hp b s t mk [some (ob 4 [vr 4 1, vr 4 2, vi (L : Int)]), some (ar 0 48 (va_up D L a)), some (ar 1 48 B)] jo tr di mo dy) (by decide +kernel) rfl (by omega) (by omega) (by omega) rfl ?_
    refine aw_blk (pc' := 71) (ls' := [some (vr 4 0), some (vi a), some (vl c), none]) (st' := [vl c, vi (L : Int), vr 4 2]) [.inl (.aload_n 0), .inr (15, 4, 1), .inl (.aload_n 0), .inr (19, 4, 2), .inl (.lload_n 2)] 62 _ _ (by decide +kernel) rfl ?_
    refine aw_last (j := L) (h' := Hp b s t mk [some (ob 4 [vr 4 1, vr 4 2, vi (L : Int)]), some (ar 0 48 (va_up D L a)), some (ar 1 48 (va_up B L c))] jo tr di mo dy) (by decide +kernel) rfl (by omega) (by omega) (by omega) rfl ?_
    refine aw_blk (pc' := 79) (ls' := [some (vr 4 0), some (vi a), some (vl c), none]) (st' := [vi ((L : Int) + 1), vr 4 0]) [.inl (.aload_n 0), .inl (.dup), .inr (19, 4, 2), .inl (.iconst 1), .inl (.iadd)] 72 _ _ (by decide +kernel) rfl ?_
    refine aw_put (idx := 19) (ci := 4) (k := 2) (h' := Hp b s t mk [some (ob 4 [vr 4 1, vr 4 2, vi ((L : Int) + 1)]), some (ar 0 48 (va_up D L a)), some (ar 1 48 (va_up B L c))] jo tr di mo dy) (by decide +kernel) (by decide +kernel) rfl (Nat.le_of_ble_eq_true rfl) (show I32 _ from by omega) rfl ?_
    exact aw_vret (by decide +kernel) rfl (by decide) (by decide) (hq _ _ rfl rfl)

theorem m_F_size (hL : L ≤ 48) : ADet G M_F_size [vr 4 0] (Hp b s t mk (sgF (L : Int) D B) jo tr di mo dy) (some (vl (sumZ (fun k => ab (B k)) L))) (Hp b s t mk (sgF (L : Int) D B) jo tr di mo dy) := by
  refine am_det (by decide +kernel) (Nat.le_of_ble_eq_true rfl) (fun Qr Qt hq => ?_)
  refine aw_blk (pc' := 4) (ls' := [some (vr 4 0), some (vl 0), none, some (vi 0)]) (st' := []) [.inl (.lconst 0), .inl (.lstore_n 1), .inl (.iconst 0), .inl (.istore_n 3)] 0 _ _ (by decide +kernel) rfl ?_
  refine up_to (W := fun i : Nat => AW G M_F_size Qr Qt 0 0 4 [some (vr 4 0), some (vl (sumZ (fun k => ab (B k)) i)), none, some (vi (i : Int))] [] (Hp b s t mk [some (ob 4 [vr 4 1, vr 4 2, vi (L : Int)]), some (ar 0 48 D), some (ar 1 48 B)] jo tr di mo dy)) L ?_ (fun i hi ih => ?_) 0 (by omega)
  · refine aw_blk (pc' := 9) (ls' := [some (vr 4 0), some (vl (sumZ (fun k => ab (B k)) L)), none, some (vi (L : Int))]) (st' := [vi (L : Int), vi (L : Int)]) [.inl (.iload_n 3), .inl (.aload_n 0), .inr (19, 4, 2)] 4 _ _ (by decide +kernel) rfl ?_
    refine aw_icmp_ge (o := 21) (tgt := 30) (by decide +kernel) (by decide) (by omega) (by omega) (fun _ => ?_) (fun c => absurd (by omega) c)
    refine aw_blk (pc' := 31) (ls' := [some (vr 4 0), some (vl (sumZ (fun k => ab (B k)) L)), none, some (vi (L : Int))]) (st' := [vl (sumZ (fun k => ab (B k)) L)]) [.inl (.lload_n 1)] 30 _ _ (by decide +kernel) rfl ?_
    exact aw_lret (by decide +kernel) rfl (by decide) (by decide) (hq _ _ rfl rfl)
  · refine aw_blk (pc' := 9) (ls' := [some (vr 4 0), some (vl (sumZ (fun k => ab (B k)) i)), none, some (vi (i : Int))]) (st' := [vi (L : Int), vi (i : Int)]) [.inl (.iload_n 3), .inl (.aload_n 0), .inr (19, 4, 2)] 4 _ _ (by decide +kernel) rfl ?_
    refine aw_icmp_ge (o := 21) (tgt := 30) (by decide +kernel) (by decide) (by omega) (by omega) (fun c => absurd c (by omega)) (fun _ => ?_)
    refine aw_blk (pc' := 18) (ls' := [some (vr 4 0), some (vl (sumZ (fun k => ab (B k)) i)), none, some (vi (i : Int))]) (st' := [vi (i : Int), vr 4 2, vl (sumZ (fun k => ab (B k)) i)]) [.inl (.lload_n 1), .inl (.aload_n 0), .inr (15, 4, 1), .inl (.iload_n 3)] 12 _ _ (by decide +kernel) rfl ?_
    refine aw_lald (j := i) (by decide +kernel) rfl (by omega) (by omega) (fun r18 => ?_)
    refine aw_mabsJ (idx := 36) (by decide +kernel) (by decide +kernel) (Nat.le_of_ble_eq_true rfl) (by decide) (by decide) (by decide) (by omega) ?_
    refine aw_blk (pc' := 27) (ls' := [some (vr 4 0), some (vl ((sumZ (fun k => ab (B k)) i) + (if 0 < (B i) then B i else -(B i)))), none, some (vi ((i : Int) + 1))]) (st' := []) [.inl (.ladd), .inl (.lstore_n 1), .inl (.iinc 3 1)] 22 _ _ (by decide +kernel) rfl ?_
    refine aw_goto (o := -23) (tgt := 4) (by decide +kernel) (by decide) ?_
    exact aw_eq rfl rfl rfl ih

theorem m_F_ofMeans (hL : L ≤ 48) : ADet G M_F_ofMeans [vr 4 0] (Hp b s t mk (sgF (L : Int) D B) jo tr di mo dy) (some (vl (sumZ (fun k => B k * D k) L))) (Hp b s t mk (sgF (L : Int) D B) jo tr di mo dy) := by
  refine am_det (by decide +kernel) (Nat.le_of_ble_eq_true rfl) (fun Qr Qt hq => ?_)
  refine aw_blk (pc' := 4) (ls' := [some (vr 4 0), some (vl 0), none, some (vi 0)]) (st' := []) [.inl (.lconst 0), .inl (.lstore_n 1), .inl (.iconst 0), .inl (.istore_n 3)] 0 _ _ (by decide +kernel) rfl ?_
  refine up_to (W := fun i : Nat => AW G M_F_ofMeans Qr Qt 0 0 4 [some (vr 4 0), some (vl (sumZ (fun k => B k * D k) i)), none, some (vi (i : Int))] [] (Hp b s t mk [some (ob 4 [vr 4 1, vr 4 2, vi (L : Int)]), some (ar 0 48 D), some (ar 1 48 B)] jo tr di mo dy)) L ?_ (fun i hi ih => ?_) 0 (by omega)
  · refine aw_blk (pc' := 9) (ls' := [some (vr 4 0), some (vl (sumZ (fun k => B k * D k) L)), none, some (vi (L : Int))]) (st' := [vi (L : Int), vi (L : Int)]) [.inl (.iload_n 3), .inl (.aload_n 0), .inr (19, 4, 2)] 4 _ _ (by decide +kernel) rfl ?_
    refine aw_icmp_ge (o := 26) (tgt := 35) (by decide +kernel) (by decide) (by omega) (by omega) (fun _ => ?_) (fun c => absurd (by omega) c)
    refine aw_blk (pc' := 36) (ls' := [some (vr 4 0), some (vl (sumZ (fun k => B k * D k) L)), none, some (vi (L : Int))]) (st' := [vl (sumZ (fun k => B k * D k) L)]) [.inl (.lload_n 1)] 35 _ _ (by decide +kernel) rfl ?_
    exact aw_lret (by decide +kernel) rfl (by decide) (by decide) (hq _ _ rfl rfl)
  · refine aw_blk (pc' := 9) (ls' := [some (vr 4 0), some (vl (sumZ (fun k => B k * D k) i)), none, some (vi (i : Int))]) (st' := [vi (L : Int), vi (i : Int)]) [.inl (.iload_n 3), .inl (.aload_n 0), .inr (19, 4, 2)] 4 _ _ (by decide +kernel) rfl ?_
    refine aw_icmp_ge (o := 26) (tgt := 35) (by decide +kernel) (by decide) (by omega) (by omega) (fun c => absurd c (by omega)) (fun _ => ?_)
    refine aw_blk (pc' := 18) (ls' := [some (vr 4 0), some (vl (sumZ (fun k => B k * D k) i)), none, some (vi (i : Int))]) (st' := [vi (i : Int), vr 4 2, vl (sumZ (fun k => B k * D k) i)]) [.inl (.lload_n 1), .inl (.aload_n 0), .inr (15, 4, 1), .inl (.iload_n 3)] 12 _ _ (by decide +kernel) rfl ?_
    refine aw_lald (j := i) (by decide +kernel) rfl (by omega) (by omega) (fun r18 => ?_)
    refine aw_blk (pc' := 24) (ls' := [some (vr 4 0), some (vl (sumZ (fun k => B k * D k) i)), none, some (vi (i : Int))]) (st' := [vi (i : Int), vr 4 1, vl (B i), vl (sumZ (fun k => B k * D k) i)]) [.inl (.aload_n 0), .inr (9, 4, 0), .inl (.iload_n 3)] 19 _ _ (by decide +kernel) rfl ?_
    refine aw_iald (j := i) (by decide +kernel) rfl (by omega) (by omega) (fun r24 => ?_)
    refine aw_i2l (by decide +kernel) (by omega) ?_
    refine aw_blk (pc' := 32) (ls' := [some (vr 4 0), some (vl ((sumZ (fun k => B k * D k) i) + ((B i) * (D i)))), none, some (vi ((i : Int) + 1))]) (st' := []) [.inl (.lmul), .inl (.ladd), .inl (.lstore_n 1), .inl (.iinc 3 1)] 26 _ _ (by decide +kernel) rfl ?_
    refine aw_goto (o := -28) (tgt := 4) (by decide +kernel) (by decide) ?_
    exact aw_eq rfl rfl rfl ih

theorem m_F_area (hL : 1 ≤ L ∧ L ≤ 48) (hR : ∀ k, k ≤ L → I64 (sumZ B k)) (hD : ∀ k, k < L → -1000 ≤ D k ∧ D k ≤ 1000) : ADet G M_F_area [vr 4 0] (Hp b s t mk (sgF (L : Int) D B) jo tr di mo dy) (some (vl (arF D B (L - 1)))) (Hp b s t mk (sgF (L : Int) D B) jo tr di mo dy) := by
  refine am_det (by decide +kernel) (Nat.le_of_ble_eq_true rfl) (fun Qr Qt hq => ?_)
  refine aw_blk (pc' := 7) (ls' := [some (vr 4 0), some (vl 0), none, some (vl 0), none, some (vi 0)]) (st' := []) [.inl (.lconst 0), .inl (.lstore_n 1), .inl (.lconst 0), .inl (.lstore_n 3), .inl (.iconst 0), .inl (.istore 5)] 0 _ _ (by decide +kernel) rfl ?_
  refine up_to (W := fun i : Nat => AW G M_F_area Qr Qt 0 0 7 [some (vr 4 0), some (vl (arF D B i)), none, some (vl (sumZ B i)), none, some (vi (i : Int))] [] (Hp b s t mk [some (ob 4 [vr 4 1, vr 4 2, vi (L : Int)]), some (ar 0 48 D), some (ar 1 48 B)] jo tr di mo dy)) (L - 1) ?_ (fun i hi ih => ?_) 0 (by omega)
  · refine aw_blk (pc' := 15) (ls' := [some (vr 4 0), some (vl (arF D B (L - 1))), none, some (vl (sumZ B (L - 1))), none, some (vi ((L - 1 : Nat) : Int))]) (st' := [vi (L : Int), vi (((L - 1 : Nat) : Int) + 1)]) [.inl (.iload 5), .inl (.iconst 1), .inl (.iadd), .inl (.aload_n 0), .inr (19, 4, 2)] 7 _ _ (by decide +kernel) rfl ?_
    refine aw_icmp_ge (o := 45) (tgt := 60) (by decide +kernel) (by decide) (by omega) (by omega) (fun _ => ?_) (fun c => absurd (by omega) c)
    refine aw_blk (pc' := 61) (ls' := [some (vr 4 0), some (vl (arF D B (L - 1))), none, some (vl (sumZ B (L - 1))), none, some (vi ((L - 1 : Nat) : Int))]) (st' := [vl (arF D B (L - 1))]) [.inl (.lload_n 1)] 60 _ _ (by decide +kernel) rfl ?_
    exact aw_lret (by decide +kernel) rfl (by decide) (by decide) (hq _ _ rfl rfl)
  · have hR1 := hR (i + 1) (by omega)
    have hD1 := hD i (by omega)
    have hD2 := hD (i + 1) (by omega)
    refine aw_blk (pc' := 15) (ls' := [some (vr 4 0), some (vl (arF D B i)), none, some (vl (sumZ B i)), none, some (vi (i : Int))]) (st' := [vi (L : Int), vi ((i : Int) + 1)]) [.inl (.iload 5), .inl (.iconst 1), .inl (.iadd), .inl (.aload_n 0), .inr (19, 4, 2)] 7 _ _ (by decide +kernel) rfl ?_
    refine aw_icmp_ge (o := 45) (tgt := 60) (by decide +kernel) (by decide) (by omega) (by omega) (fun c => absurd c (by omega)) (fun _ => ?_)
    refine aw_blk (pc' := 25) (ls' := [some (vr 4 0), some (vl (arF D B i)), none, some (vl (sumZ B i)), none, some (vi (i : Int))]) (st' := [vi (i : Int), vr 4 2, vl (sumZ B i)]) [.inl (.lload_n 3), .inl (.aload_n 0), .inr (15, 4, 1), .inl (.iload 5)] 18 _ _ (by decide +kernel) rfl ?_
    refine aw_lald (j := i) (by decide +kernel) rfl (by omega) (by omega) (fun r25 => ?_)
    refine aw_blk (pc' := 30) (ls' := [some (vr 4 0), some (vl (arF D B i)), none, some (vl ((sumZ B i) + (B i))), none, some (vi (i : Int))]) (st' := [vl ((sumZ B i) + (B i)), vl (arF D B i)]) [.inl (.ladd), .inl (.lstore_n 3), .inl (.lload_n 1), .inl (.lload_n 3)] 26 _ _ (by decide +kernel) rfl ?_
    refine aw_mabsJ (idx := 36) (by decide +kernel) (by decide +kernel) (Nat.le_of_ble_eq_true rfl) (by decide) (by decide) (by decide) hR1 ?_
    refine aw_blk (pc' := 41) (ls' := [some (vr 4 0), some (vl (arF D B i)), none, some (vl ((sumZ B i) + (B i))), none, some (vi (i : Int))]) (st' := [vi ((i : Int) + 1), vr 4 1, vl (if 0 < ((sumZ B i) + (B i)) then (sumZ B i) + (B i) else -((sumZ B i) + (B i))), vl (arF D B i)]) [.inl (.aload_n 0), .inr (9, 4, 0), .inl (.iload 5), .inl (.iconst 1), .inl (.iadd)] 33 _ _ (by decide +kernel) rfl ?_
    refine aw_iald (j := i + 1) (by decide +kernel) rfl (by omega) (by omega) (fun r41 => ?_)
    refine aw_blk (pc' := 48) (ls' := [some (vr 4 0), some (vl (arF D B i)), none, some (vl ((sumZ B i) + (B i))), none, some (vi (i : Int))]) (st' := [vi (i : Int), vr 4 1, vi (D (i + 1)), vl (if 0 < ((sumZ B i) + (B i)) then (sumZ B i) + (B i) else -((sumZ B i) + (B i))), vl (arF D B i)]) [.inl (.aload_n 0), .inr (9, 4, 0), .inl (.iload 5)] 42 _ _ (by decide +kernel) rfl ?_
    refine aw_iald (j := i) (by decide +kernel) rfl (by omega) (by omega) (fun r48 => ?_)
    refine aw_blk (pc' := 50) (ls' := [some (vr 4 0), some (vl (arF D B i)), none, some (vl ((sumZ B i) + (B i))), none, some (vi (i : Int))]) (st' := [vi ((D (i + 1)) - (D i)), vl (if 0 < ((sumZ B i) + (B i)) then (sumZ B i) + (B i) else -((sumZ B i) + (B i))), vl (arF D B i)]) [.inl (.isub)] 49 _ _ (by decide +kernel) rfl ?_
    refine aw_i2l (by decide +kernel) (by omega) ?_
    refine aw_blk (pc' := 57) (ls' := [some (vr 4 0), some (vl ((arF D B i) + ((if 0 < ((sumZ B i) + (B i)) then (sumZ B i) + (B i) else -((sumZ B i) + (B i))) * ((D (i + 1)) - (D i))))), none, some (vl ((sumZ B i) + (B i))), none, some (vi ((i : Int) + 1))]) (st' := []) [.inl (.lmul), .inl (.ladd), .inl (.lstore_n 1), .inl (.iinc 5 1)] 51 _ _ (by decide +kernel) rfl ?_
    refine aw_goto (o := -50) (tgt := 7) (by decide +kernel) (by decide) ?_
    exact aw_eq rfl rfl rfl ih

theorem l_F_lna {Qr : Option AV → HT → Prop} {Qt : HT → Prop} (hL : L ≤ 48) (hR : ∀ k, k ≤ L → I64 (sumZ B k)) (hD : ∀ k, k < L → -1000 ≤ D k ∧ D k ≤ 1000) : ∀ (d k : Nat), k + d = L → (∀ x g, x = some (vi (lna D B d k)) → g = Hp b s t mk (sgF (L : Int) D B) jo tr di mo dy → Qr x g) → AW G M_F_leastNotAbove Qr Qt 0 0 4 [some (vr 4 0), some (vl (sumZ B k)), none, some (vi (k : Int))] [] (Hp b s t mk (sgF (L : Int) D B) jo tr di mo dy) := by
  intro d
  induction d with
  | zero =>
    intro k hk hq
    refine aw_blk (pc' := 9) (ls' := [some (vr 4 0), some (vl (sumZ B k)), none, some (vi (k : Int))]) (st' := [vi (L : Int), vi (k : Int)]) [.inl (.iload_n 3), .inl (.aload_n 0), .inr (19, 4, 2)] 4 _ _ (by decide +kernel) rfl ?_
    refine aw_icmp_ge (o := 33) (tgt := 42) (by decide +kernel) (by decide) (by omega) (by omega) (fun _ => ?_) (fun c => absurd (by omega) c)
    refine aw_blk (pc' := 45) (ls' := [some (vr 4 0), some (vl (sumZ B k)), none, some (vi (k : Int))]) (st' := [vi 5000]) [.inl (.sipush 5000)] 42 _ _ (by decide +kernel) rfl ?_
    exact aw_iret (by decide +kernel) rfl (by decide) (by decide) (hq _ _ rfl rfl)
  | succ d ih =>
    intro k hk hq
    have hR1 := hR (k + 1) (by omega)
    simp only [sumZ] at hR1
    have hD1 := hD k (by omega)
    refine aw_blk (pc' := 9) (ls' := [some (vr 4 0), some (vl (sumZ B k)), none, some (vi (k : Int))]) (st' := [vi (L : Int), vi (k : Int)]) [.inl (.iload_n 3), .inl (.aload_n 0), .inr (19, 4, 2)] 4 _ _ (by decide +kernel) rfl ?_
    refine aw_icmp_ge (o := 33) (tgt := 42) (by decide +kernel) (by decide) (by omega) (by omega) (fun c => absurd c (by omega)) (fun _ => ?_)
    refine aw_blk (pc' := 18) (ls' := [some (vr 4 0), some (vl (sumZ B k)), none, some (vi (k : Int))]) (st' := [vi (k : Int), vr 4 2, vl (sumZ B k)]) [.inl (.lload_n 1), .inl (.aload_n 0), .inr (15, 4, 1), .inl (.iload_n 3)] 12 _ _ (by decide +kernel) rfl ?_
    refine aw_lald (j := k) (by decide +kernel) rfl (by omega) (by omega) (fun r18 => ?_)
    refine aw_blk (pc' := 23) (ls' := [some (vr 4 0), some (vl ((sumZ B k) + (B k))), none, some (vi (k : Int))]) (st' := [vl 0, vl ((sumZ B k) + (B k))]) [.inl (.ladd), .inl (.lstore_n 1), .inl (.lload_n 1), .inl (.lconst 0)] 19 _ _ (by decide +kernel) rfl ?_
    refine aw_lcmp (by decide +kernel) (by omega) (by omega) ?_
    refine aw_if_le (o := 12) (tgt := 36) (by decide +kernel) (by decide) (cmpI_in _ _) (fun c23 => ?_) (fun c23 => ?_)
    · rw [cmpI_le] at c23
      refine aw_blk (pc' := 39) (ls' := [some (vr 4 0), some (vl ((sumZ B k) + (B k))), none, some (vi ((k : Int) + 1))]) (st' := []) [.inl (.iinc 3 1)] 36 _ _ (by decide +kernel) rfl ?_
      refine aw_goto (o := -35) (tgt := 4) (by decide +kernel) (by decide) ?_
      refine aw_eq rfl rfl rfl (ih (k + 1) (by omega) (fun x g e1 e2 => hq x g ?_ e2))
      rw [e1, lna, if_neg (by simp only [sumZ]; omega)]
    · rw [cmpI_le] at c23
      refine aw_blk (pc' := 32) (ls' := [some (vr 4 0), some (vl ((sumZ B k) + (B k))), none, some (vi (k : Int))]) (st' := [vi (k : Int), vr 4 1]) [.inl (.aload_n 0), .inr (9, 4, 0), .inl (.iload_n 3)] 27 _ _ (by decide +kernel) rfl ?_
      refine aw_iald (j := k) (by decide +kernel) rfl (by omega) (by omega) (fun r32 => ?_)
      refine aw_blk (pc' := 35) (ls' := [some (vr 4 0), some (vl ((sumZ B k) + (B k))), none, some (vi (k : Int))]) (st' := [vi ((D k) + 1)]) [.inl (.iconst 1), .inl (.iadd)] 33 _ _ (by decide +kernel) rfl ?_
      exact aw_iret (by decide +kernel) rfl (by decide) (by decide) (hq _ _ (by rw [lna, if_pos (by simp only [sumZ]; omega)]) rfl)
theorem m_F_leastNotAbove (hL : L ≤ 48) (hR : ∀ k, k ≤ L → I64 (sumZ B k)) (hD : ∀ k, k < L → -1000 ≤ D k ∧ D k ≤ 1000) : ADet G M_F_leastNotAbove [vr 4 0] (Hp b s t mk (sgF (L : Int) D B) jo tr di mo dy) (some (vi (lna D B L 0))) (Hp b s t mk (sgF (L : Int) D B) jo tr di mo dy) := by
  refine am_det (by decide +kernel) (Nat.le_of_ble_eq_true rfl) (fun Qr Qt hq => ?_)
  refine aw_blk (pc' := 4) (ls' := [some (vr 4 0), some (vl 0), none, some (vi 0)]) (st' := []) [.inl (.lconst 0), .inl (.lstore_n 1), .inl (.iconst 0), .inl (.istore_n 3)] 0 _ _ (by decide +kernel) rfl ?_
  exact l_F_lna hL hR hD L 0 (by omega) hq

theorem lsN9 {a0 a1 a3 a5 : AV} {x6 x7 : Option AV} : ∀ (k : Nat) (v : AV), ([some a0, some a1, none, some a3, none, some a5, none, none, none] : LSt)[k]? = some (some v) → ([some a0, some a1, none, some a3, none, some a5, x6, x7, none] : LSt)[k]? = some (some v) := by
  intro k v h
  match k, h with
  | 0, h => exact h
  | 1, h => exact h
  | 2, h => exact h
  | 3, h => exact h
  | 4, h => exact h
  | 5, h => exact h
  | 6, h => simp at h
  | 7, h => simp at h
  | k + 8, h => exact h
theorem tdiv_in {x y : Int} (hx : -4611686018427387904 ≤ x ∧ x ≤ 4611686018427387904) (hy : 0 < y) : -4611686018427387904 ≤ Int.tdiv (-x) y ∧ Int.tdiv (-x) y ≤ 4611686018427387904 := by
  have h1 := Int.natAbs_tdiv (-x) y
  have h2 : (-x).natAbs / y.natAbs ≤ (-x).natAbs := Nat.div_le_self _ _
  have h3 : (Int.tdiv (-x) y).natAbs ≤ (-x).natAbs := by rw [h1]; exact h2
  omega
theorem l_F_lms {Qr : Option AV → HT → Prop} {Qt : HT → Prop} (hL : 1 ≤ L ∧ L ≤ 48) (hR : ∀ k, k ≤ L → -4611686018427387904 ≤ sumZ B k ∧ sumZ B k ≤ 4611686018427387904) (hO : ∀ k, k < L → -4611686018427387904 ≤ ovF D B k ∧ ovF D B k ≤ 4611686018427387904) (hD : ∀ k, k < L → -1000 ≤ D k ∧ D k ≤ 1000) : ∀ (d k : Nat) (x6 x7 : Option AV), k + 1 + d = L → (∀ x g, x = some (vi (lms D B d k)) → g = Hp b s t mk (sgF (L : Int) D B) jo tr di mo dy → Qr x g) → AW G M_F_leastMoreSpread Qr Qt 0 0 7 [some (vr 4 0), some (vl (sumZ B k)), none, some (vl (ovF D B k)), none, some (vi (k : Int)), x6, x7, none] [] (Hp b s t mk (sgF (L : Int) D B) jo tr di mo dy) := by
  intro d
  induction d with
  | zero =>
    intro k x6 x7 hk hq
    refine aw_ls (ls' := [some (vr 4 0), some (vl (sumZ B k)), none, some (vl (ovF D B k)), none, some (vi (k : Int)), none, none, none]) lsN9 ?_
    refine aw_blk (pc' := 15) (ls' := [some (vr 4 0), some (vl (sumZ B k)), none, some (vl (ovF D B k)), none, some (vi (k : Int)), none, none, none]) (st' := [vi (L : Int), vi ((k : Int) + 1)]) [.inl (.iload 5), .inl (.iconst 1), .inl (.iadd), .inl (.aload_n 0), .inr (19, 4, 2)] 7 _ _ (by decide +kernel) rfl ?_
    refine aw_icmp_ge (o := 81) (tgt := 96) (by decide +kernel) (by decide) (by omega) (by omega) (fun _ => ?_) (fun c => absurd (by omega) c)
    refine aw_blk (pc' := 99) (ls' := [some (vr 4 0), some (vl (sumZ B k)), none, some (vl (ovF D B k)), none, some (vi (k : Int)), none, none, none]) (st' := [vi 5000]) [.inl (.sipush 5000)] 96 _ _ (by decide +kernel) rfl ?_
    exact aw_iret (by decide +kernel) rfl (by decide) (by decide) (hq _ _ rfl rfl)
  | succ d ih =>
    intro k x6 x7 hk hq
    refine aw_ls (ls' := [some (vr 4 0), some (vl (sumZ B k)), none, some (vl (ovF D B k)), none, some (vi (k : Int)), none, none, none]) lsN9 ?_
    have hR1 := hR (k + 1) (by omega)
    have e1 : sumZ B (k + 1) = sumZ B k + B k := rfl
    have hO1 := hO k (by omega)
    have hD1 := hD k (by omega)
    have hD2 := hD (k + 1) (by omega)
    refine aw_blk (pc' := 15) (ls' := [some (vr 4 0), some (vl (sumZ B k)), none, some (vl (ovF D B k)), none, some (vi (k : Int)), none, none, none]) (st' := [vi (L : Int), vi ((k : Int) + 1)]) [.inl (.iload 5), .inl (.iconst 1), .inl (.iadd), .inl (.aload_n 0), .inr (19, 4, 2)] 7 _ _ (by decide +kernel) rfl ?_
    refine aw_icmp_ge (o := 81) (tgt := 96) (by decide +kernel) (by decide) (by omega) (by omega) (fun c => absurd c (by omega)) (fun _ => ?_)
    refine aw_blk (pc' := 25) (ls' := [some (vr 4 0), some (vl (sumZ B k)), none, some (vl (ovF D B k)), none, some (vi (k : Int)), none, none, none]) (st' := [vi (k : Int), vr 4 2, vl (sumZ B k)]) [.inl (.lload_n 1), .inl (.aload_n 0), .inr (15, 4, 1), .inl (.iload 5)] 18 _ _ (by decide +kernel) rfl ?_
    refine aw_lald (j := k) (by decide +kernel) rfl (by omega) (by omega) (fun r25 => ?_)
    refine aw_blk (pc' := 36) (ls' := [some (vr 4 0), some (vl ((sumZ B k) + (B k))), none, some (vl (ovF D B k)), none, some (vi (k : Int)), none, none, none]) (st' := [vi ((k : Int) + 1), vr 4 1]) [.inl (.ladd), .inl (.lstore_n 1), .inl (.aload_n 0), .inr (9, 4, 0), .inl (.iload 5), .inl (.iconst 1), .inl (.iadd)] 26 _ _ (by decide +kernel) rfl ?_
    refine aw_iald (j := k + 1) (by decide +kernel) rfl (by omega) (by omega) (fun r36 => ?_)
    refine aw_blk (pc' := 43) (ls' := [some (vr 4 0), some (vl ((sumZ B k) + (B k))), none, some (vl (ovF D B k)), none, some (vi (k : Int)), none, none, none]) (st' := [vi (k : Int), vr 4 1, vi (D (k + 1))]) [.inl (.aload_n 0), .inr (9, 4, 0), .inl (.iload 5)] 37 _ _ (by decide +kernel) rfl ?_
    refine aw_iald (j := k) (by decide +kernel) rfl (by omega) (by omega) (fun r43 => ?_)
    refine aw_blk (pc' := 49) (ls' := [some (vr 4 0), some (vl ((sumZ B k) + (B k))), none, some (vl (ovF D B k)), none, some (vi (k : Int)), some (vi ((D (k + 1)) - (D k))), none, none]) (st' := [vl 0, vl ((sumZ B k) + (B k))]) [.inl (.isub), .inl (.istore 6), .inl (.lload_n 1), .inl (.lconst 0)] 44 _ _ (by decide +kernel) rfl ?_
    refine aw_lcmp (by decide +kernel) (by omega) (by omega) ?_
    refine aw_if_le (o := 32) (tgt := 82) (by decide +kernel) (by decide) (cmpI_in _ _) (fun c49 => ?_) (fun c49 => ?_)
    · rw [cmpI_le] at c49
      refine aw_blk (pc' := 86) (ls' := [some (vr 4 0), some (vl ((sumZ B k) + (B k))), none, some (vl (ovF D B k)), none, some (vi (k : Int)), some (vi ((D (k + 1)) - (D k))), none, none]) (st' := [vi ((D (k + 1)) - (D k)), vl ((sumZ B k) + (B k)), vl (ovF D B k)]) [.inl (.lload_n 3), .inl (.lload_n 1), .inl (.iload 6)] 82 _ _ (by decide +kernel) rfl ?_
      refine aw_i2l (by decide +kernel) (by omega) ?_
      refine aw_blk (pc' := 93) (ls' := [some (vr 4 0), some (vl ((sumZ B k) + (B k))), none, some (vl ((ovF D B k) + (((sumZ B k) + (B k)) * ((D (k + 1)) - (D k))))), none, some (vi ((k : Int) + 1)), some (vi ((D (k + 1)) - (D k))), none, none]) (st' := []) [.inl (.lmul), .inl (.ladd), .inl (.lstore_n 3), .inl (.iinc 5 1)] 87 _ _ (by decide +kernel) rfl ?_
      refine aw_goto (o := -86) (tgt := 7) (by decide +kernel) (by decide) ?_
      refine aw_eq rfl rfl rfl (ih (k + 1) _ _ (by omega) (fun x g e2 e3 => hq x g ?_ e3))
      rw [e2, lms, if_neg (by omega)]
    · rw [cmpI_le] at c49
      refine aw_blk (pc' := 56) (ls' := [some (vr 4 0), some (vl ((sumZ B k) + (B k))), none, some (vl (ovF D B k)), none, some (vi (k : Int)), some (vi ((D (k + 1)) - (D k))), none, none]) (st' := [vl ((sumZ B k) + (B k)), vl (-(ovF D B k))]) [.inl (.lload_n 3), .inl (.lneg), .inl (.lload_n 1)] 53 _ _ (by decide +kernel) rfl ?_
      refine aw_ldiv (by decide +kernel) (by omega) (by omega) (by omega) ?_
      refine aw_blk (pc' := 65) (ls' := [some (vr 4 0), some (vl ((sumZ B k) + (B k))), none, some (vl (ovF D B k)), none, some (vi (k : Int)), some (vi ((D (k + 1)) - (D k))), some (vl ((Int.tdiv (-(ovF D B k)) ((sumZ B k) + (B k))) + 1)), none]) (st' := [vi ((D (k + 1)) - (D k)), vl ((Int.tdiv (-(ovF D B k)) ((sumZ B k) + (B k))) + 1)]) [.inl (.lconst 1), .inl (.ladd), .inl (.lstore 7), .inl (.lload 7), .inl (.iload 6)] 57 _ _ (by decide +kernel) rfl ?_
      refine aw_i2l (by decide +kernel) (by omega) ?_
      have hq1 := tdiv_in (x := ovF D B k) (y := sumZ B k + B k) (by omega) (by omega)
      refine aw_lcmp (by decide +kernel) (by omega) (by omega) ?_
      refine aw_if_gt (o := 15) (tgt := 82) (by decide +kernel) (by decide) (cmpI_in _ _) (fun c66 => ?_) (fun c66 => ?_)
      · rw [cmpI_gt] at c66
        refine aw_blk (pc' := 86) (ls' := [some (vr 4 0), some (vl ((sumZ B k) + (B k))), none, some (vl (ovF D B k)), none, some (vi (k : Int)), some (vi ((D (k + 1)) - (D k))), some (vl ((Int.tdiv (-(ovF D B k)) ((sumZ B k) + (B k))) + 1)), none]) (st' := [vi ((D (k + 1)) - (D k)), vl ((sumZ B k) + (B k)), vl (ovF D B k)]) [.inl (.lload_n 3), .inl (.lload_n 1), .inl (.iload 6)] 82 _ _ (by decide +kernel) rfl ?_
        refine aw_i2l (by decide +kernel) (by omega) ?_
        refine aw_blk (pc' := 93) (ls' := [some (vr 4 0), some (vl ((sumZ B k) + (B k))), none, some (vl ((ovF D B k) + (((sumZ B k) + (B k)) * ((D (k + 1)) - (D k))))), none, some (vi ((k : Int) + 1)), some (vi ((D (k + 1)) - (D k))), some (vl ((Int.tdiv (-(ovF D B k)) ((sumZ B k) + (B k))) + 1)), none]) (st' := []) [.inl (.lmul), .inl (.ladd), .inl (.lstore_n 3), .inl (.iinc 5 1)] 87 _ _ (by decide +kernel) rfl ?_
        refine aw_goto (o := -86) (tgt := 7) (by decide +kernel) (by decide) ?_
        refine aw_eq rfl rfl rfl (ih (k + 1) _ _ (by omega) (fun x g e2 e3 => hq x g ?_ e3))
        rw [e2, lms, if_neg (by rw [e1]; omega)]
      · rw [cmpI_gt] at c66
        refine aw_blk (pc' := 76) (ls' := [some (vr 4 0), some (vl ((sumZ B k) + (B k))), none, some (vl (ovF D B k)), none, some (vi (k : Int)), some (vi ((D (k + 1)) - (D k))), some (vl ((Int.tdiv (-(ovF D B k)) ((sumZ B k) + (B k))) + 1)), none]) (st' := [vi (k : Int), vr 4 1]) [.inl (.aload_n 0), .inr (9, 4, 0), .inl (.iload 5)] 70 _ _ (by decide +kernel) rfl ?_
        refine aw_iald (j := k) (by decide +kernel) rfl (by omega) (by omega) (fun r76 => ?_)
        refine aw_blk (pc' := 81) (ls' := [some (vr 4 0), some (vl ((sumZ B k) + (B k))), none, some (vl (ovF D B k)), none, some (vi (k : Int)), some (vi ((D (k + 1)) - (D k))), some (vl ((Int.tdiv (-(ovF D B k)) ((sumZ B k) + (B k))) + 1)), none]) (st' := [vi ((D k) + ((Int.tdiv (-(ovF D B k)) ((sumZ B k) + (B k))) + 1))]) [.inl (.lload 7), .inl (.l2i), .inl (.iadd)] 77 _ _ (by decide +kernel) rfl ?_
        exact aw_iret (by decide +kernel) rfl (by decide) (by decide) (hq _ _ (by rw [lms, if_pos (by rw [e1]; omega)]; rfl) rfl)
theorem m_F_leastMoreSpread (hL : 1 ≤ L ∧ L ≤ 48) (hR : ∀ k, k ≤ L → -4611686018427387904 ≤ sumZ B k ∧ sumZ B k ≤ 4611686018427387904) (hO : ∀ k, k < L → -4611686018427387904 ≤ ovF D B k ∧ ovF D B k ≤ 4611686018427387904) (hD : ∀ k, k < L → -1000 ≤ D k ∧ D k ≤ 1000) : ADet G M_F_leastMoreSpread [vr 4 0] (Hp b s t mk (sgF (L : Int) D B) jo tr di mo dy) (some (vi (lms D B (L - 1) 0))) (Hp b s t mk (sgF (L : Int) D B) jo tr di mo dy) := by
  refine am_det (by decide +kernel) (Nat.le_of_ble_eq_true rfl) (fun Qr Qt hq => ?_)
  refine aw_blk (pc' := 7) (ls' := [some (vr 4 0), some (vl 0), none, some (vl 0), none, some (vi 0), none, none, none]) (st' := []) [.inl (.lconst 0), .inl (.lstore_n 1), .inl (.lconst 0), .inl (.lstore_n 3), .inl (.iconst 0), .inl (.istore 5)] 0 _ _ (by decide +kernel) rfl ?_
  exact l_F_lms hL hR hO hD (L - 1) 0 none none (by omega) hq

end
