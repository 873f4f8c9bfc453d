section
variable {b s t mk df jo tr di mo dy : SG} {x y z x' : AC}
theorem d1_get0 : hget (Hp b s t mk df jo tr di mo (dy ++ [some x])) 9 dy.length = some x := by simp [hget, hgs]
theorem d2_get0 : hget (Hp b s t mk df jo tr di mo (dy ++ [some x, some y])) 9 dy.length = some x := by simp [hget, hgs]
theorem d2_get1 : hget (Hp b s t mk df jo tr di mo (dy ++ [some x, some y])) 9 (dy.length + 1) = some y := by simp [hget, hgs]
theorem d3_get0 : hget (Hp b s t mk df jo tr di mo (dy ++ [some x, some y, some z])) 9 dy.length = some x := by simp [hget, hgs]
theorem d3_get1 : hget (Hp b s t mk df jo tr di mo (dy ++ [some x, some y, some z])) 9 (dy.length + 1) = some y := by simp [hget, hgs]
theorem d3_get2 : hget (Hp b s t mk df jo tr di mo (dy ++ [some x, some y, some z])) 9 (dy.length + 2) = some z := by simp [hget, hgs]
theorem d2_set0 : hset (Hp b s t mk df jo tr di mo (dy ++ [some x, some y])) 9 dy.length x' = Hp b s t mk df jo tr di mo (dy ++ [some x', some y]) := by simp [hset, hss]
theorem d2_set1 : hset (Hp b s t mk df jo tr di mo (dy ++ [some x, some y])) 9 (dy.length + 1) x' = Hp b s t mk df jo tr di mo (dy ++ [some x, some x']) := by simp [hset, hss, List.set_append_right]
theorem d3_set2 : hset (Hp b s t mk df jo tr di mo (dy ++ [some x, some y, some z])) 9 (dy.length + 2) x' = Hp b s t mk df jo tr di mo (dy ++ [some x, some y, some x']) := by simp [hset, hss, List.set_append_right]
theorem dp_1 {c : Option AC} : ((Hp b s t mk df jo tr di mo dy).1 + 1, hps (Hp b s t mk df jo tr di mo dy).2 9 c) = Hp b s t mk df jo tr di mo (dy ++ [c]) := by simp [hps]; omega
theorem dp_2 {c : Option AC} : ((Hp b s t mk df jo tr di mo (dy ++ [some x])).1 + 1, hps (Hp b s t mk df jo tr di mo (dy ++ [some x])).2 9 c) = Hp b s t mk df jo tr di mo (dy ++ [some x, c]) := by simp [hps]; omega
theorem dp_3 {c : Option AC} : ((Hp b s t mk df jo tr di mo (dy ++ [some x, some y])).1 + 1, hps (Hp b s t mk df jo tr di mo (dy ++ [some x, some y])).2 9 c) = Hp b s t mk df jo tr di mo (dy ++ [some x, some y, c]) := by simp [hps]; omega
theorem okP9 {n : Nat} : okP 9 n := ⟨Nat.le_refl 9, fun h => absurd h (by decide)⟩
end
abbrev sgK (n rf : Int) (f g : Nat → Int) : SG := [some (ob 3 [vr 3 1, vr 3 2, vi n, vi rf]), some (ar 0 24 f), some (ar 1 24 g)]
/-- the row with v put in at place p -/
def ins (f : Nat → Int) (n p : Nat) (v : Int) : Nat → Int := fun i => if i = p then v else if p < i ∧ i ≤ n then f (i - 1) else f i
def shf (f : Nat → Int) (n k : Nat) : Nat → Int := fun i => if k < i ∧ i ≤ n then f (i - 1) else f i
theorem shf_n (f : Nat → Int) (n : Nat) : shf f n n = f := by funext i; simp only [shf]; rw [if_neg (by omega)]
theorem shf_s (f : Nat → Int) (n k : Nat) (h : k < n) : va_up (shf f n (k + 1)) (k + 1) (shf f n (k + 1) k) = shf f n k := by
  funext i
  simp only [va_up, shf]
  by_cases h1 : i = k + 1
  · subst h1; rw [if_pos rfl, if_neg (by omega), if_pos (by omega)]; rfl
  · rw [if_neg h1]
    by_cases h2 : k < i ∧ i ≤ n
    · rw [if_pos h2, if_pos (by omega)]
    · rw [if_neg h2, if_neg (by omega)]
theorem shf_ins (f : Nat → Int) (n p : Nat) (v : Int) : va_up (shf f n p) p v = ins f n p v := by
  funext i
  simp only [va_up, shf, ins]
section
variable {G : GT} {h : HT} {b s t mk df jo tr di mo dy : SG} {a c d : Int} {n p k k1 k2 j j1 j2 m : Nat} {f g : Nat → Int} {rf : Int}
theorem m_K_clear : ADet G M_K_clear [vr 3 0] (Hp b s t (sgK (n : Int) rf f g) df jo tr di mo dy) none (Hp b s t (sgK 0 0 f g) df jo tr di mo dy) := by
  refine am_det (by decide +kernel) (Nat.le_of_ble_eq_true rfl) (fun Qr Qt hq => ?_)
  refine aw_blk (pc' := 2) (ls' := [some (vr 3 0)]) (st' := [vi 0, vr 3 0]) [.inl (.aload_n 0), .inl (.iconst 0)] 0 _ _ (by decide +kernel) rfl ?_
  refine aw_put (idx := 19) (ci := 3) (k := 2) (h' := Hp b s t [some (ob 3 [vr 3 1, vr 3 2, vi 0, vi rf]), some (ar 0 24 f), some (ar 1 24 g)] df jo tr di mo dy) (by decide +kernel) (by decide +kernel) rfl (Nat.le_of_ble_eq_true rfl) (show I32 _ from by omega) rfl ?_
  refine aw_blk (pc' := 7) (ls' := [some (vr 3 0)]) (st' := [vi 0, vr 3 0]) [.inl (.aload_n 0), .inl (.iconst 0)] 5 _ _ (by decide +kernel) rfl ?_
  refine aw_put (idx := 23) (ci := 3) (k := 3) (h' := Hp b s t [some (ob 3 [vr 3 1, vr 3 2, vi 0, vi 0]), some (ar 0 24 f), some (ar 1 24 g)] df jo tr di mo dy) (by decide +kernel) (by decide +kernel) rfl (Nat.le_of_ble_eq_true rfl) (show 0 ≤ _ ∧ _ ≤ _ from by omega) rfl ?_
  exact aw_vret (by decide +kernel) rfl (by decide) (by decide) (hq _ _ rfl rfl)

theorem m_K_insert (hp : p ≤ n) (hn : n < 24) (ha : I32 a) (hc : I64 c) : ADet G M_K_insert [vr 3 0, vi (p : Int), vi a, vl c] (Hp b s t (sgK (n : Int) rf f g) df jo tr di mo dy) none (Hp b s t (sgK ((n : Int) + 1) rf (ins f n p a) (ins g n p c)) df jo tr di mo dy) := by
  refine am_det (by decide +kernel) (Nat.le_of_ble_eq_true rfl) (fun Qr Qt hq => ?_)
  refine aw_blk (pc' := 6) (ls' := [some (vr 3 0), some (vi (p : Int)), some (vi a), some (vl c), none, some (vi (n : Int))]) (st' := []) [.inl (.aload_n 0), .inr (19, 3, 2), .inl (.istore 5)] 0 _ _ (by decide +kernel) rfl ?_
  rw [show Hp b s t [some (ob 3 [vr 3 1, vr 3 2, vi (n : Int), vi rf]), some (ar 0 24 f), some (ar 1 24 g)] df jo tr di mo dy = Hp b s t (sgK (n : Int) rf (shf f n n) (shf g n n)) df jo tr di mo dy by rw [shf_n, shf_n]]
  have key : ∀ e : Nat, p + e ≤ n → AW G M_K_insert Qr Qt 0 0 6 [some (vr 3 0), some (vi (p : Int)), some (vi a), some (vl c), none, some (vi ((p + e : Nat) : Int))] [] (Hp b s t [some (ob 3 [vr 3 1, vr 3 2, vi (n : Int), vi rf]), some (ar 0 24 (shf f n (p + e))), some (ar 1 24 (shf g n (p + e)))] df jo tr di mo dy) := by
    intro e
    induction e with
    | zero =>
      intro he
      refine aw_blk (pc' := 9) (ls' := [some (vr 3 0), some (vi (p : Int)), some (vi a), some (vl c), none, some (vi ((p + 0 : Nat) : Int))]) (st' := [vi (p : Int), vi ((p + 0 : Nat) : Int)]) [.inl (.iload 5), .inl (.iload_n 1)] 6 _ _ (by decide +kernel) rfl ?_
      refine aw_icmp_le (o := 41) (tgt := 50) (by decide +kernel) (by decide) (by omega) (by omega) (fun _ => ?_) (fun c => absurd (by omega) c)
      refine aw_blk (pc' := 56) (ls' := [some (vr 3 0), some (vi (p : Int)), some (vi a), some (vl c), none, some (vi ((p + 0 : Nat) : Int))]) (st' := [vi a, vi (p : Int), vr 3 1]) [.inl (.aload_n 0), .inr (9, 3, 0), .inl (.iload_n 1), .inl (.iload_n 2)] 50 _ _ (by decide +kernel) rfl ?_
      refine aw_iast (j := p) (h' := Hp b s t [some (ob 3 [vr 3 1, vr 3 2, vi (n : Int), vi rf]), some (ar 0 24 (va_up (shf f n (p + 0)) p a)), some (ar 1 24 (shf g n (p + 0)))] df jo tr di mo dy) (by decide +kernel) rfl (by omega) (by omega) (by omega) rfl ?_
      refine aw_blk (pc' := 63) (ls' := [some (vr 3 0), some (vi (p : Int)), some (vi a), some (vl c), none, some (vi ((p + 0 : Nat) : Int))]) (st' := [vl c, vi (p : Int), vr 3 2]) [.inl (.aload_n 0), .inr (15, 3, 1), .inl (.iload_n 1), .inl (.lload_n 3)] 57 _ _ (by decide +kernel) rfl ?_
      refine aw_last (j := p) (h' := Hp b s t [some (ob 3 [vr 3 1, vr 3 2, vi (n : Int), vi rf]), some (ar 0 24 (va_up (shf f n (p + 0)) p a)), some (ar 1 24 (va_up (shf g n (p + 0)) p c))] df jo tr di mo dy) (by decide +kernel) rfl (by omega) (by omega) (by omega) rfl ?_
      refine aw_blk (pc' := 71) (ls' := [some (vr 3 0), some (vi (p : Int)), some (vi a), some (vl c), none, some (vi ((p + 0 : Nat) : Int))]) (st' := [vi ((n : Int) + 1), vr 3 0]) [.inl (.aload_n 0), .inl (.dup), .inr (19, 3, 2), .inl (.iconst 1), .inl (.iadd)] 64 _ _ (by decide +kernel) rfl ?_
      refine aw_put (idx := 19) (ci := 3) (k := 2) (h' := Hp b s t [some (ob 3 [vr 3 1, vr 3 2, vi ((n : Int) + 1), vi rf]), some (ar 0 24 (va_up (shf f n (p + 0)) p a)), some (ar 1 24 (va_up (shf g n (p + 0)) p c))] df jo tr di mo dy) (by decide +kernel) (by decide +kernel) rfl (Nat.le_of_ble_eq_true rfl) (show I32 _ from by omega) rfl ?_
      exact aw_vret (by decide +kernel) rfl (by decide) (by decide) (hq _ _ rfl (by rw [Nat.add_zero, shf_ins, shf_ins]))
    | succ e ih =>
      intro he
      refine aw_blk (pc' := 9) (ls' := [some (vr 3 0), some (vi (p : Int)), some (vi a), some (vl c), none, some (vi ((p + (e + 1) : Nat) : Int))]) (st' := [vi (p : Int), vi ((p + (e + 1) : Nat) : Int)]) [.inl (.iload 5), .inl (.iload_n 1)] 6 _ _ (by decide +kernel) rfl ?_
      refine aw_icmp_le (o := 41) (tgt := 50) (by decide +kernel) (by decide) (by omega) (by omega) (fun c => absurd c (by omega)) (fun _ => ?_)
      refine aw_blk (pc' := 26) (ls' := [some (vr 3 0), some (vi (p : Int)), some (vi a), some (vl c), none, some (vi ((p + (e + 1) : Nat) : Int))]) (st' := [vi (((p + (e + 1) : Nat) : Int) - 1), vr 3 1, vi ((p + (e + 1) : Nat) : Int), vr 3 1]) [.inl (.aload_n 0), .inr (9, 3, 0), .inl (.iload 5), .inl (.aload_n 0), .inr (9, 3, 0), .inl (.iload 5), .inl (.iconst 1), .inl (.isub)] 12 _ _ (by decide +kernel) rfl ?_
      refine aw_iald (j := p + e) (by decide +kernel) rfl (by omega) (by omega) (fun r26 => ?_)
      refine aw_iast (j := p + (e + 1)) (h' := Hp b s t [some (ob 3 [vr 3 1, vr 3 2, vi (n : Int), vi rf]), some (ar 0 24 (va_up (shf f n (p + (e + 1))) (p + (e + 1)) ((shf f n (p + (e + 1))) (p + e)))), some (ar 1 24 (shf g n (p + (e + 1))))] df jo tr di mo dy) (by decide +kernel) rfl rfl (by omega) (by omega) rfl ?_
      refine aw_blk (pc' := 42) (ls' := [some (vr 3 0), some (vi (p : Int)), some (vi a), some (vl c), none, some (vi ((p + (e + 1) : Nat) : Int))]) (st' := [vi (((p + (e + 1) : Nat) : Int) - 1), vr 3 2, vi ((p + (e + 1) : Nat) : Int), vr 3 2]) [.inl (.aload_n 0), .inr (15, 3, 1), .inl (.iload 5), .inl (.aload_n 0), .inr (15, 3, 1), .inl (.iload 5), .inl (.iconst 1), .inl (.isub)] 28 _ _ (by decide +kernel) rfl ?_
      refine aw_lald (j := p + e) (by decide +kernel) rfl (by omega) (by omega) (fun r42 => ?_)
      refine aw_last (j := p + (e + 1)) (h' := Hp b s t [some (ob 3 [vr 3 1, vr 3 2, vi (n : Int), vi rf]), some (ar 0 24 (va_up (shf f n (p + (e + 1))) (p + (e + 1)) ((shf f n (p + (e + 1))) (p + e)))), some (ar 1 24 (va_up (shf g n (p + (e + 1))) (p + (e + 1)) ((shf g n (p + (e + 1))) (p + e))))] df jo tr di mo dy) (by decide +kernel) rfl rfl (by omega) (by omega) rfl ?_
      refine aw_blk (pc' := 47) (ls' := [some (vr 3 0), some (vi (p : Int)), some (vi a), some (vl c), none, some (vi (((p + (e + 1) : Nat) : Int) + (-1)))]) (st' := []) [.inl (.iinc 5 (-1))] 44 _ _ (by decide +kernel) rfl ?_
      refine aw_goto (o := -41) (tgt := 6) (by decide +kernel) (by decide) ?_
      exact aw_eq (by rw [show ((p + (e + 1) : Nat) : Int) + (-1) = ((p + e : Nat) : Int) by omega]) rfl (by rw [← Nat.add_assoc, shf_s f n (p + e) (by omega), shf_s g n (p + e) (by omega)]) (ih (by omega))
  have := key (n - p) (by omega)
  rw [show p + (n - p) = n by omega] at this
  exact this

theorem m_K_add_r : ADet G M_K_add [vr 3 0, vl a, vl c] (Hp b s t (sgK (n : Int) 1 f g) df jo tr di mo dy) none (Hp b s t (sgK (n : Int) 1 f g) df jo tr di mo dy) := by
  refine am_det (by decide +kernel) (Nat.le_of_ble_eq_true rfl) (fun Qr Qt hq => ?_)
  refine aw_blk (pc' := 4) (ls' := [some (vr 3 0), some (vl a), none, some (vl c), none, none]) (st' := [vi 1]) [.inl (.aload_n 0), .inr (23, 3, 3)] 0 _ _ (by decide +kernel) rfl ?_
  refine aw_if_ne (o := 9) (tgt := 13) (by decide +kernel) (by decide) (by omega) (fun _ => ?_) (fun c => absurd c (by omega))
  exact aw_vret (by decide +kernel) rfl (by decide) (by decide) (hq _ _ rfl rfl)

theorem m_K_add_z (hc : I64 c) (h0 : c < 1) : ADet G M_K_add [vr 3 0, vl a, vl c] (Hp b s t (sgK (n : Int) 0 f g) df jo tr di mo dy) none (Hp b s t (sgK (n : Int) 0 f g) df jo tr di mo dy) := by
  refine am_det (by decide +kernel) (Nat.le_of_ble_eq_true rfl) (fun Qr Qt hq => ?_)
  refine aw_blk (pc' := 4) (ls' := [some (vr 3 0), some (vl a), none, some (vl c), none, none]) (st' := [vi 0]) [.inl (.aload_n 0), .inr (23, 3, 3)] 0 _ _ (by decide +kernel) rfl ?_
  refine aw_if_ne (o := 9) (tgt := 13) (by decide +kernel) (by decide) (by omega) (fun c => absurd (by omega) c) (fun _ => ?_)
  refine aw_blk (pc' := 9) (ls' := [some (vr 3 0), some (vl a), none, some (vl c), none, none]) (st' := [vl 1, vl c]) [.inl (.lload_n 3), .inl (.lconst 1)] 7 _ _ (by decide +kernel) rfl ?_
  refine aw_lcmp (by decide +kernel) (by omega) (by omega) ?_
  refine aw_if_ge (o := 4) (tgt := 14) (by decide +kernel) (by decide) (cmpI_in _ _) (fun c => absurd ((cmpI_ge _ _).mp c) (by omega)) (fun _ => ?_)
  exact aw_vret (by decide +kernel) rfl (by decide) (by decide) (hq _ _ rfl rfl)

theorem m_K_add_b (ha : I64 a) (hc : I64 c) (h0 : 1 ≤ c) (h1 : a < -1000 ∨ 1000 < a) : ADet G M_K_add [vr 3 0, vl a, vl c] (Hp b s t (sgK (n : Int) 0 f g) df jo tr di mo dy) none (Hp b s t (sgK (n : Int) 1 f g) df jo tr di mo dy) := by
  refine am_det (by decide +kernel) (Nat.le_of_ble_eq_true rfl) (fun Qr Qt hq => ?_)
  refine aw_blk (pc' := 4) (ls' := [some (vr 3 0), some (vl a), none, some (vl c), none, none]) (st' := [vi 0]) [.inl (.aload_n 0), .inr (23, 3, 3)] 0 _ _ (by decide +kernel) rfl ?_
  refine aw_if_ne (o := 9) (tgt := 13) (by decide +kernel) (by decide) (by omega) (fun c => absurd (by omega) c) (fun _ => ?_)
  refine aw_blk (pc' := 9) (ls' := [some (vr 3 0), some (vl a), none, some (vl c), none, none]) (st' := [vl 1, vl c]) [.inl (.lload_n 3), .inl (.lconst 1)] 7 _ _ (by decide +kernel) rfl ?_
  refine aw_lcmp (by decide +kernel) (by omega) (by omega) ?_
  refine aw_if_ge (o := 4) (tgt := 14) (by decide +kernel) (by decide) (cmpI_in _ _) (fun _ => ?_) (fun c => absurd ((cmpI_ge _ _).mpr (by omega)) c)
  refine aw_blk (pc' := 15) (ls' := [some (vr 3 0), some (vl a), none, some (vl c), none, none]) (st' := [vl a]) [.inl (.lload_n 1)] 14 _ _ (by decide +kernel) rfl ?_
  refine aw_ldc2 (a := (-1000)) (ix := 27) (v := (-1000)) (by decide +kernel) (by decide +kernel) (by decide) ?_
  refine aw_lcmp (by decide +kernel) (by omega) (by omega) ?_
  refine aw_if_lt (o := 11) (tgt := 30) (by decide +kernel) (by decide) (cmpI_in _ _) (fun c18 => ?_) (fun c18 => ?_)
  · rw [cmpI_lt] at c18
    refine aw_blk (pc' := 32) (ls' := [some (vr 3 0), some (vl a), none, some (vl c), none, none]) (st' := [vi 1, vr 3 0]) [.inl (.aload_n 0), .inl (.iconst 1)] 30 _ _ (by decide +kernel) rfl ?_
    refine aw_put (idx := 23) (ci := 3) (k := 3) (h' := Hp b s t [some (ob 3 [vr 3 1, vr 3 2, vi (n : Int), vi 1]), some (ar 0 24 f), some (ar 1 24 g)] df jo tr di mo dy) (by decide +kernel) (by decide +kernel) rfl (Nat.le_of_ble_eq_true rfl) (show 0 ≤ _ ∧ _ ≤ _ from by omega) rfl ?_
    exact aw_vret (by decide +kernel) rfl (by decide) (by decide) (hq _ _ rfl rfl)
  · rw [cmpI_lt] at c18
    refine aw_blk (pc' := 23) (ls' := [some (vr 3 0), some (vl a), none, some (vl c), none, none]) (st' := [vl a]) [.inl (.lload_n 1)] 22 _ _ (by decide +kernel) rfl ?_
    refine aw_ldc2 (a := 1000) (ix := 29) (v := 1000) (by decide +kernel) (by decide +kernel) (by decide) ?_
    refine aw_lcmp (by decide +kernel) (by omega) (by omega) ?_
    refine aw_if_le (o := 9) (tgt := 36) (by decide +kernel) (by decide) (cmpI_in _ _) (fun c => absurd ((cmpI_le _ _).mp c) (by omega)) (fun _ => ?_)
    refine aw_blk (pc' := 32) (ls' := [some (vr 3 0), some (vl a), none, some (vl c), none, none]) (st' := [vi 1, vr 3 0]) [.inl (.aload_n 0), .inl (.iconst 1)] 30 _ _ (by decide +kernel) rfl ?_
    refine aw_put (idx := 23) (ci := 3) (k := 3) (h' := Hp b s t [some (ob 3 [vr 3 1, vr 3 2, vi (n : Int), vi 1]), some (ar 0 24 f), some (ar 1 24 g)] df jo tr di mo dy) (by decide +kernel) (by decide +kernel) rfl (Nat.le_of_ble_eq_true rfl) (show 0 ≤ _ ∧ _ ≤ _ from by omega) rfl ?_
    exact aw_vret (by decide +kernel) rfl (by decide) (by decide) (hq _ _ rfl rfl)

theorem m_K_add_h (hn : n ≤ 24) (hs : inc f n) (ha : -1000 ≤ a ∧ a ≤ 1000) (h0 : 1 ≤ c) (hc : I64 c) (hl : lb f a n < n) (he : f (lb f a n) = a) (hi : I64 (g (lb f a n) + c)) : ADet G M_K_add [vr 3 0, vl a, vl c] (Hp b s t (sgK (n : Int) 0 f g) df jo tr di mo dy) none (Hp b s t (sgK (n : Int) 0 f (va_up g (lb f a n) (g (lb f a n) + c))) df jo tr di mo dy) := by
  refine am_det (by decide +kernel) (Nat.le_of_ble_eq_true rfl) (fun Qr Qt hq => ?_)
  refine aw_blk (pc' := 4) (ls' := [some (vr 3 0), some (vl a), none, some (vl c), none, none]) (st' := [vi 0]) [.inl (.aload_n 0), .inr (23, 3, 3)] 0 _ _ (by decide +kernel) rfl ?_
  refine aw_if_ne (o := 9) (tgt := 13) (by decide +kernel) (by decide) (by omega) (fun c => absurd (by omega) c) (fun _ => ?_)
  refine aw_blk (pc' := 9) (ls' := [some (vr 3 0), some (vl a), none, some (vl c), none, none]) (st' := [vl 1, vl c]) [.inl (.lload_n 3), .inl (.lconst 1)] 7 _ _ (by decide +kernel) rfl ?_
  refine aw_lcmp (by decide +kernel) (by omega) (by omega) ?_
  refine aw_if_ge (o := 4) (tgt := 14) (by decide +kernel) (by decide) (cmpI_in _ _) (fun _ => ?_) (fun c => absurd ((cmpI_ge _ _).mpr (by omega)) c)
  refine aw_blk (pc' := 15) (ls' := [some (vr 3 0), some (vl a), none, some (vl c), none, none]) (st' := [vl a]) [.inl (.lload_n 1)] 14 _ _ (by decide +kernel) rfl ?_
  refine aw_ldc2 (a := (-1000)) (ix := 27) (v := (-1000)) (by decide +kernel) (by decide +kernel) (by decide) ?_
  refine aw_lcmp (by decide +kernel) (by omega) (by omega) ?_
  refine aw_if_lt (o := 11) (tgt := 30) (by decide +kernel) (by decide) (cmpI_in _ _) (fun c => absurd ((cmpI_lt _ _).mp c) (by omega)) (fun _ => ?_)
  refine aw_blk (pc' := 23) (ls' := [some (vr 3 0), some (vl a), none, some (vl c), none, none]) (st' := [vl a]) [.inl (.lload_n 1)] 22 _ _ (by decide +kernel) rfl ?_
  refine aw_ldc2 (a := 1000) (ix := 29) (v := 1000) (by decide +kernel) (by decide +kernel) (by decide) ?_
  refine aw_lcmp (by decide +kernel) (by omega) (by omega) ?_
  refine aw_if_le (o := 9) (tgt := 36) (by decide +kernel) (by decide) (cmpI_in _ _) (fun _ => ?_) (fun c => absurd ((cmpI_le _ _).mpr (by omega)) c)
  refine aw_blk (pc' := 46) (ls' := [some (vr 3 0), some (vl a), none, some (vl c), none, none]) (st' := [vi a, vi (n : Int), vr 3 1]) [.inl (.aload_n 0), .inr (9, 3, 0), .inl (.aload_n 0), .inr (19, 3, 2), .inl (.lload_n 1), .inl (.l2i)] 36 _ _ (by decide +kernel) rfl ?_
  refine aw_dSN (cs' := 0) (sl' := 0) (pc' := 49) (st' := [vi ((lb f a n : Nat) : Int)]) (idx := 31) (as := [vr 3 1, vi (n : Int), vi a]) (st := []) (m_B_placeIn (h := Hp b s t (sgK (n : Int) 0 f g) df jo tr di mo dy) rfl (by omega) (by omega) hs (by omega)) (by decide +kernel) (show snOK "ChanceBench$Maker" 31 M_B_placeIn 3 = true by decide +kernel) rfl (Nat.le_of_ble_eq_true rfl) (by decide) (by decide) (by decide) rfl rfl rfl rfl ?_
  have hb := lb_le f a n
  refine aw_blk (pc' := 57) (ls' := [some (vr 3 0), some (vl a), none, some (vl c), none, some (vi ((lb f a n : Nat) : Int))]) (st' := [vi (n : Int), vi ((lb f a n : Nat) : Int)]) [.inl (.istore 5), .inl (.iload 5), .inl (.aload_n 0), .inr (19, 3, 2)] 49 _ _ (by decide +kernel) rfl ?_
  refine aw_icmp_ge (o := 30) (tgt := 87) (by decide +kernel) (by decide) (by omega) (by omega) (fun c => absurd c (by omega)) (fun _ => ?_)
  refine aw_blk (pc' := 66) (ls' := [some (vr 3 0), some (vl a), none, some (vl c), none, some (vi ((lb f a n : Nat) : Int))]) (st' := [vi ((lb f a n : Nat) : Int), vr 3 1]) [.inl (.aload_n 0), .inr (9, 3, 0), .inl (.iload 5)] 60 _ _ (by decide +kernel) rfl ?_
  refine aw_iald (j := lb f a n) (by decide +kernel) rfl rfl (by omega) (fun r66 => ?_)
  refine aw_i2l (by decide +kernel) (by omega) ?_
  refine aw_blk (pc' := 69) (ls' := [some (vr 3 0), some (vl a), none, some (vl c), none, some (vi ((lb f a n : Nat) : Int))]) (st' := [vl a, vl (f (lb f a n))]) [.inl (.lload_n 1)] 68 _ _ (by decide +kernel) rfl ?_
  refine aw_lcmp (by decide +kernel) (by omega) (by omega) ?_
  refine aw_if_ne (o := 17) (tgt := 87) (by decide +kernel) (by decide) (cmpI_in _ _) (fun c => absurd ((cmpI_eq _ _).mpr (by omega)) c) (fun _ => ?_)
  refine aw_blk (pc' := 80) (ls' := [some (vr 3 0), some (vl a), none, some (vl c), none, some (vi ((lb f a n : Nat) : Int))]) (st' := [vi ((lb f a n : Nat) : Int), vr 3 2, vi ((lb f a n : Nat) : Int), vr 3 2]) [.inl (.aload_n 0), .inr (15, 3, 1), .inl (.iload 5), .inl (.dup2)] 73 _ _ (by decide +kernel) rfl ?_
  refine aw_lald (j := lb f a n) (by decide +kernel) rfl rfl (by omega) (fun r80 => ?_)
  refine aw_blk (pc' := 83) (ls' := [some (vr 3 0), some (vl a), none, some (vl c), none, some (vi ((lb f a n : Nat) : Int))]) (st' := [vl ((g (lb f a n)) + c), vi ((lb f a n : Nat) : Int), vr 3 2]) [.inl (.lload_n 3), .inl (.ladd)] 81 _ _ (by decide +kernel) rfl ?_
  refine aw_last (j := lb f a n) (h' := Hp b s t [some (ob 3 [vr 3 1, vr 3 2, vi (n : Int), vi 0]), some (ar 0 24 f), some (ar 1 24 (va_up g (lb f a n) ((g (lb f a n)) + c)))] df jo tr di mo dy) (by decide +kernel) rfl rfl (by omega) (by omega) rfl ?_
  refine aw_goto (o := 29) (tgt := 113) (by decide +kernel) (by decide) ?_
  exact aw_vret (by decide +kernel) rfl (by decide) (by decide) (hq _ _ rfl rfl)

theorem m_K_add_n (hn : n < 24) (hs : inc f n) (ha : -1000 ≤ a ∧ a ≤ 1000) (h0 : 1 ≤ c) (hc : I64 c) (he : ¬ (lb f a n < n ∧ f (lb f a n) = a)) : ADet G M_K_add [vr 3 0, vl a, vl c] (Hp b s t (sgK (n : Int) 0 f g) df jo tr di mo dy) none (Hp b s t (sgK ((n : Int) + 1) 0 (ins f n (lb f a n) a) (ins g n (lb f a n) c)) df jo tr di mo dy) := by
  refine am_det (by decide +kernel) (Nat.le_of_ble_eq_true rfl) (fun Qr Qt hq => ?_)
  refine aw_blk (pc' := 4) (ls' := [some (vr 3 0), some (vl a), none, some (vl c), none, none]) (st' := [vi 0]) [.inl (.aload_n 0), .inr (23, 3, 3)] 0 _ _ (by decide +kernel) rfl ?_
  refine aw_if_ne (o := 9) (tgt := 13) (by decide +kernel) (by decide) (by omega) (fun c => absurd (by omega) c) (fun _ => ?_)
  refine aw_blk (pc' := 9) (ls' := [some (vr 3 0), some (vl a), none, some (vl c), none, none]) (st' := [vl 1, vl c]) [.inl (.lload_n 3), .inl (.lconst 1)] 7 _ _ (by decide +kernel) rfl ?_
  refine aw_lcmp (by decide +kernel) (by omega) (by omega) ?_
  refine aw_if_ge (o := 4) (tgt := 14) (by decide +kernel) (by decide) (cmpI_in _ _) (fun _ => ?_) (fun c => absurd ((cmpI_ge _ _).mpr (by omega)) c)
  refine aw_blk (pc' := 15) (ls' := [some (vr 3 0), some (vl a), none, some (vl c), none, none]) (st' := [vl a]) [.inl (.lload_n 1)] 14 _ _ (by decide +kernel) rfl ?_
  refine aw_ldc2 (a := (-1000)) (ix := 27) (v := (-1000)) (by decide +kernel) (by decide +kernel) (by decide) ?_
  refine aw_lcmp (by decide +kernel) (by omega) (by omega) ?_
  refine aw_if_lt (o := 11) (tgt := 30) (by decide +kernel) (by decide) (cmpI_in _ _) (fun c => absurd ((cmpI_lt _ _).mp c) (by omega)) (fun _ => ?_)
  refine aw_blk (pc' := 23) (ls' := [some (vr 3 0), some (vl a), none, some (vl c), none, none]) (st' := [vl a]) [.inl (.lload_n 1)] 22 _ _ (by decide +kernel) rfl ?_
  refine aw_ldc2 (a := 1000) (ix := 29) (v := 1000) (by decide +kernel) (by decide +kernel) (by decide) ?_
  refine aw_lcmp (by decide +kernel) (by omega) (by omega) ?_
  refine aw_if_le (o := 9) (tgt := 36) (by decide +kernel) (by decide) (cmpI_in _ _) (fun _ => ?_) (fun c => absurd ((cmpI_le _ _).mpr (by omega)) c)
  refine aw_blk (pc' := 46) (ls' := [some (vr 3 0), some (vl a), none, some (vl c), none, none]) (st' := [vi a, vi (n : Int), vr 3 1]) [.inl (.aload_n 0), .inr (9, 3, 0), .inl (.aload_n 0), .inr (19, 3, 2), .inl (.lload_n 1), .inl (.l2i)] 36 _ _ (by decide +kernel) rfl ?_
  refine aw_dSN (cs' := 0) (sl' := 0) (pc' := 49) (st' := [vi ((lb f a n : Nat) : Int)]) (idx := 31) (as := [vr 3 1, vi (n : Int), vi a]) (st := []) (m_B_placeIn (h := Hp b s t (sgK (n : Int) 0 f g) df jo tr di mo dy) rfl (by omega) (by omega) hs (by omega)) (by decide +kernel) (show snOK "ChanceBench$Maker" 31 M_B_placeIn 3 = true by decide +kernel) rfl (Nat.le_of_ble_eq_true rfl) (by decide) (by decide) (by decide) rfl rfl rfl rfl ?_
  have hb := lb_le f a n
  refine aw_blk (pc' := 57) (ls' := [some (vr 3 0), some (vl a), none, some (vl c), none, some (vi ((lb f a n : Nat) : Int))]) (st' := [vi (n : Int), vi ((lb f a n : Nat) : Int)]) [.inl (.istore 5), .inl (.iload 5), .inl (.aload_n 0), .inr (19, 3, 2)] 49 _ _ (by decide +kernel) rfl ?_
  refine aw_icmp_ge (o := 30) (tgt := 87) (by decide +kernel) (by decide) (by omega) (by omega) (fun c57 => ?_) (fun c57 => ?_)
  · refine aw_blk (pc' := 93) (ls' := [some (vr 3 0), some (vl a), none, some (vl c), none, some (vi ((lb f a n : Nat) : Int))]) (st' := [vi 24, vi (n : Int)]) [.inl (.aload_n 0), .inr (19, 3, 2), .inl (.bipush 24)] 87 _ _ (by decide +kernel) rfl ?_
    refine aw_icmp_ge (o := 15) (tgt := 108) (by decide +kernel) (by decide) (by omega) (by omega) (fun c => absurd c (by omega)) (fun _ => ?_)
    refine aw_blk (pc' := 102) (ls' := [some (vr 3 0), some (vl a), none, some (vl c), none, some (vi ((lb f a n : Nat) : Int))]) (st' := [vl c, vi a, vi ((lb f a n : Nat) : Int), vr 3 0]) [.inl (.aload_n 0), .inl (.iload 5), .inl (.lload_n 1), .inl (.l2i), .inl (.lload_n 3)] 96 _ _ (by decide +kernel) rfl ?_
    refine aw_dV (cs' := 0) (sl' := 0) (pc' := 105) (st' := []) (idx := 35) (as := [vi ((lb f a n : Nat) : Int), vi a, vl c]) (st := []) (m_K_insert hb hn (by omega) hc) (by decide +kernel) (show vOK "ChanceBench$Maker" 35 M_K_insert 3 = true by decide +kernel) rfl rfl rfl (Nat.le_of_ble_eq_true rfl) (by decide) (by decide) (by decide) rfl rfl rfl rfl ?_
    refine aw_goto (o := 8) (tgt := 113) (by decide +kernel) (by decide) ?_
    exact aw_vret (by decide +kernel) rfl (by decide) (by decide) (hq _ _ rfl rfl)
  · refine aw_blk (pc' := 66) (ls' := [some (vr 3 0), some (vl a), none, some (vl c), none, some (vi ((lb f a n : Nat) : Int))]) (st' := [vi ((lb f a n : Nat) : Int), vr 3 1]) [.inl (.aload_n 0), .inr (9, 3, 0), .inl (.iload 5)] 60 _ _ (by decide +kernel) rfl ?_
    refine aw_iald (j := lb f a n) (by decide +kernel) rfl rfl (by omega) (fun r66 => ?_)
    refine aw_i2l (by decide +kernel) (by omega) ?_
    refine aw_blk (pc' := 69) (ls' := [some (vr 3 0), some (vl a), none, some (vl c), none, some (vi ((lb f a n : Nat) : Int))]) (st' := [vl a, vl (f (lb f a n))]) [.inl (.lload_n 1)] 68 _ _ (by decide +kernel) rfl ?_
    refine aw_lcmp (by decide +kernel) (by omega) (by omega) ?_
    refine aw_if_ne (o := 17) (tgt := 87) (by decide +kernel) (by decide) (cmpI_in _ _) (fun _ => ?_) (fun c => absurd ((cmpI_eq _ _).mp c) (by omega))
    refine aw_blk (pc' := 93) (ls' := [some (vr 3 0), some (vl a), none, some (vl c), none, some (vi ((lb f a n : Nat) : Int))]) (st' := [vi 24, vi (n : Int)]) [.inl (.aload_n 0), .inr (19, 3, 2), .inl (.bipush 24)] 87 _ _ (by decide +kernel) rfl ?_
    refine aw_icmp_ge (o := 15) (tgt := 108) (by decide +kernel) (by decide) (by omega) (by omega) (fun c => absurd c (by omega)) (fun _ => ?_)
    refine aw_blk (pc' := 102) (ls' := [some (vr 3 0), some (vl a), none, some (vl c), none, some (vi ((lb f a n : Nat) : Int))]) (st' := [vl c, vi a, vi ((lb f a n : Nat) : Int), vr 3 0]) [.inl (.aload_n 0), .inl (.iload 5), .inl (.lload_n 1), .inl (.l2i), .inl (.lload_n 3)] 96 _ _ (by decide +kernel) rfl ?_
    refine aw_dV (cs' := 0) (sl' := 0) (pc' := 105) (st' := []) (idx := 35) (as := [vi ((lb f a n : Nat) : Int), vi a, vl c]) (st := []) (m_K_insert hb hn (by omega) hc) (by decide +kernel) (show vOK "ChanceBench$Maker" 35 M_K_insert 3 = true by decide +kernel) rfl rfl rfl (Nat.le_of_ble_eq_true rfl) (by decide) (by decide) (by decide) rfl rfl rfl rfl ?_
    refine aw_goto (o := 8) (tgt := 113) (by decide +kernel) (by decide) ?_
    exact aw_vret (by decide +kernel) rfl (by decide) (by decide) (hq _ _ rfl rfl)

theorem m_K_add_f (hn : n = 24) (hs : inc f n) (ha : -1000 ≤ a ∧ a ≤ 1000) (h0 : 1 ≤ c) (hc : I64 c) (he : ¬ (lb f a n < n ∧ f (lb f a n) = a)) : ADet G M_K_add [vr 3 0, vl a, vl c] (Hp b s t (sgK (n : Int) 0 f g) df jo tr di mo dy) none (Hp b s t (sgK (n : Int) 1 f g) df jo tr di mo dy) := by
  refine am_det (by decide +kernel) (Nat.le_of_ble_eq_true rfl) (fun Qr Qt hq => ?_)
  refine aw_blk (pc' := 4) (ls' := [some (vr 3 0), some (vl a), none, some (vl c), none, none]) (st' := [vi 0]) [.inl (.aload_n 0), .inr (23, 3, 3)] 0 _ _ (by decide +kernel) rfl ?_
  refine aw_if_ne (o := 9) (tgt := 13) (by decide +kernel) (by decide) (by omega) (fun c => absurd (by omega) c) (fun _ => ?_)
  refine aw_blk (pc' := 9) (ls' := [some (vr 3 0), some (vl a), none, some (vl c), none, none]) (st' := [vl 1, vl c]) [.inl (.lload_n 3), .inl (.lconst 1)] 7 _ _ (by decide +kernel) rfl ?_
  refine aw_lcmp (by decide +kernel) (by omega) (by omega) ?_
  refine aw_if_ge (o := 4) (tgt := 14) (by decide +kernel) (by decide) (cmpI_in _ _) (fun _ => ?_) (fun c => absurd ((cmpI_ge _ _).mpr (by omega)) c)
  refine aw_blk (pc' := 15) (ls' := [some (vr 3 0), some (vl a), none, some (vl c), none, none]) (st' := [vl a]) [.inl (.lload_n 1)] 14 _ _ (by decide +kernel) rfl ?_
  refine aw_ldc2 (a := (-1000)) (ix := 27) (v := (-1000)) (by decide +kernel) (by decide +kernel) (by decide) ?_
  refine aw_lcmp (by decide +kernel) (by omega) (by omega) ?_
  refine aw_if_lt (o := 11) (tgt := 30) (by decide +kernel) (by decide) (cmpI_in _ _) (fun c => absurd ((cmpI_lt _ _).mp c) (by omega)) (fun _ => ?_)
  refine aw_blk (pc' := 23) (ls' := [some (vr 3 0), some (vl a), none, some (vl c), none, none]) (st' := [vl a]) [.inl (.lload_n 1)] 22 _ _ (by decide +kernel) rfl ?_
  refine aw_ldc2 (a := 1000) (ix := 29) (v := 1000) (by decide +kernel) (by decide +kernel) (by decide) ?_
  refine aw_lcmp (by decide +kernel) (by omega) (by omega) ?_
  refine aw_if_le (o := 9) (tgt := 36) (by decide +kernel) (by decide) (cmpI_in _ _) (fun _ => ?_) (fun c => absurd ((cmpI_le _ _).mpr (by omega)) c)
  refine aw_blk (pc' := 46) (ls' := [some (vr 3 0), some (vl a), none, some (vl c), none, none]) (st' := [vi a, vi (n : Int), vr 3 1]) [.inl (.aload_n 0), .inr (9, 3, 0), .inl (.aload_n 0), .inr (19, 3, 2), .inl (.lload_n 1), .inl (.l2i)] 36 _ _ (by decide +kernel) rfl ?_
  refine aw_dSN (cs' := 0) (sl' := 0) (pc' := 49) (st' := [vi ((lb f a n : Nat) : Int)]) (idx := 31) (as := [vr 3 1, vi (n : Int), vi a]) (st := []) (m_B_placeIn (h := Hp b s t (sgK (n : Int) 0 f g) df jo tr di mo dy) rfl (by omega) (by omega) hs (by omega)) (by decide +kernel) (show snOK "ChanceBench$Maker" 31 M_B_placeIn 3 = true by decide +kernel) rfl (Nat.le_of_ble_eq_true rfl) (by decide) (by decide) (by decide) rfl rfl rfl rfl ?_
  have hb := lb_le f a n
  refine aw_blk (pc' := 57) (ls' := [some (vr 3 0), some (vl a), none, some (vl c), none, some (vi ((lb f a n : Nat) : Int))]) (st' := [vi (n : Int), vi ((lb f a n : Nat) : Int)]) [.inl (.istore 5), .inl (.iload 5), .inl (.aload_n 0), .inr (19, 3, 2)] 49 _ _ (by decide +kernel) rfl ?_
  refine aw_icmp_ge (o := 30) (tgt := 87) (by decide +kernel) (by decide) (by omega) (by omega) (fun c57 => ?_) (fun c57 => ?_)
  · refine aw_blk (pc' := 93) (ls' := [some (vr 3 0), some (vl a), none, some (vl c), none, some (vi ((lb f a n : Nat) : Int))]) (st' := [vi 24, vi (n : Int)]) [.inl (.aload_n 0), .inr (19, 3, 2), .inl (.bipush 24)] 87 _ _ (by decide +kernel) rfl ?_
    refine aw_icmp_ge (o := 15) (tgt := 108) (by decide +kernel) (by decide) (by omega) (by omega) (fun _ => ?_) (fun c => absurd (by omega) c)
    refine aw_blk (pc' := 110) (ls' := [some (vr 3 0), some (vl a), none, some (vl c), none, some (vi ((lb f a n : Nat) : Int))]) (st' := [vi 1, vr 3 0]) [.inl (.aload_n 0), .inl (.iconst 1)] 108 _ _ (by decide +kernel) rfl ?_
    refine aw_put (idx := 23) (ci := 3) (k := 3) (h' := Hp b s t [some (ob 3 [vr 3 1, vr 3 2, vi (n : Int), vi 1]), some (ar 0 24 f), some (ar 1 24 g)] df jo tr di mo dy) (by decide +kernel) (by decide +kernel) rfl (Nat.le_of_ble_eq_true rfl) (show 0 ≤ _ ∧ _ ≤ _ from by omega) rfl ?_
    exact aw_vret (by decide +kernel) rfl (by decide) (by decide) (hq _ _ rfl rfl)
  · refine aw_blk (pc' := 66) (ls' := [some (vr 3 0), some (vl a), none, some (vl c), none, some (vi ((lb f a n : Nat) : Int))]) (st' := [vi ((lb f a n : Nat) : Int), vr 3 1]) [.inl (.aload_n 0), .inr (9, 3, 0), .inl (.iload 5)] 60 _ _ (by decide +kernel) rfl ?_
    refine aw_iald (j := lb f a n) (by decide +kernel) rfl rfl (by omega) (fun r66 => ?_)
    refine aw_i2l (by decide +kernel) (by omega) ?_
    refine aw_blk (pc' := 69) (ls' := [some (vr 3 0), some (vl a), none, some (vl c), none, some (vi ((lb f a n : Nat) : Int))]) (st' := [vl a, vl (f (lb f a n))]) [.inl (.lload_n 1)] 68 _ _ (by decide +kernel) rfl ?_
    refine aw_lcmp (by decide +kernel) (by omega) (by omega) ?_
    refine aw_if_ne (o := 17) (tgt := 87) (by decide +kernel) (by decide) (cmpI_in _ _) (fun _ => ?_) (fun c => absurd ((cmpI_eq _ _).mp c) (by omega))
    refine aw_blk (pc' := 93) (ls' := [some (vr 3 0), some (vl a), none, some (vl c), none, some (vi ((lb f a n : Nat) : Int))]) (st' := [vi 24, vi (n : Int)]) [.inl (.aload_n 0), .inr (19, 3, 2), .inl (.bipush 24)] 87 _ _ (by decide +kernel) rfl ?_
    refine aw_icmp_ge (o := 15) (tgt := 108) (by decide +kernel) (by decide) (by omega) (by omega) (fun _ => ?_) (fun c => absurd (by omega) c)
    refine aw_blk (pc' := 110) (ls' := [some (vr 3 0), some (vl a), none, some (vl c), none, some (vi ((lb f a n : Nat) : Int))]) (st' := [vi 1, vr 3 0]) [.inl (.aload_n 0), .inl (.iconst 1)] 108 _ _ (by decide +kernel) rfl ?_
    refine aw_put (idx := 23) (ci := 3) (k := 3) (h' := Hp b s t [some (ob 3 [vr 3 1, vr 3 2, vi (n : Int), vi 1]), some (ar 0 24 f), some (ar 1 24 g)] df jo tr di mo dy) (by decide +kernel) (by decide +kernel) rfl (Nat.le_of_ble_eq_true rfl) (show 0 ≤ _ ∧ _ ≤ _ from by omega) rfl ?_
    exact aw_vret (by decide +kernel) rfl (by decide) (by decide) (hq _ _ rfl rfl)

theorem m_L_init {x y : AC} (ha : I32 a) : ADet G M_L_init [vr 9 (dy.length + 2), vr 9 k1, vr 9 k2, vi a] (Hp b s t mk df jo tr di mo (dy ++ [some x, some y, some (ob 9 [vn, vn, vi 0])])) none (Hp b s t mk df jo tr di mo (dy ++ [some x, some y, some (ob 9 [vr 9 k1, vr 9 k2, vi a])])) := by
  refine am_det (by decide +kernel) (Nat.le_of_ble_eq_true rfl) (fun Qr Qt hq => ?_)
  refine aw_blk (pc' := 1) (ls' := [some (vr 9 (dy.length + 2)), some (vr 9 k1), some (vr 9 k2), some (vi a)]) (st' := [vr 9 (dy.length + 2)]) [.inl (.aload_n 0)] 0 _ _ (by decide +kernel) rfl ?_
  refine aw_obj (idx := 3) (by decide +kernel) (fun z => nomatch z) (by decide +kernel) (by decide +kernel) (by decide +kernel) (by decide) (Nat.le_of_ble_eq_true rfl) ?_
  refine aw_blk (pc' := 6) (ls' := [some (vr 9 (dy.length + 2)), some (vr 9 k1), some (vr 9 k2), some (vi a)]) (st' := [vr 9 k1, vr 9 (dy.length + 2)]) [.inl (.aload_n 0), .inl (.aload_n 1)] 4 _ _ (by decide +kernel) rfl ?_
  refine aw_putF (idx := 9) (ci := 9) (k := 0) (h' := Hp b s t mk df jo tr di mo (dy ++ [some (x), some (y), some (ob 9 [vr 9 k1, vn, vi 0])])) (by decide +kernel) (by decide +kernel) d3_get2 (Nat.le_of_ble_eq_true rfl) trivial d3_set2 ?_
  refine aw_blk (pc' := 11) (ls' := [some (vr 9 (dy.length + 2)), some (vr 9 k1), some (vr 9 k2), some (vi a)]) (st' := [vr 9 k2, vr 9 (dy.length + 2)]) [.inl (.aload_n 0), .inl (.aload_n 2)] 9 _ _ (by decide +kernel) rfl ?_
  refine aw_putF (idx := 15) (ci := 9) (k := 1) (h' := Hp b s t mk df jo tr di mo (dy ++ [some (x), some (y), some (ob 9 [vr 9 k1, vr 9 k2, vi 0])])) (by decide +kernel) (by decide +kernel) d3_get2 (Nat.le_of_ble_eq_true rfl) trivial d3_set2 ?_
  refine aw_blk (pc' := 16) (ls' := [some (vr 9 (dy.length + 2)), some (vr 9 k1), some (vr 9 k2), some (vi a)]) (st' := [vi a, vr 9 (dy.length + 2)]) [.inl (.aload_n 0), .inl (.iload_n 3)] 14 _ _ (by decide +kernel) rfl ?_
  refine aw_putF (idx := 18) (ci := 9) (k := 2) (h' := Hp b s t mk df jo tr di mo (dy ++ [some (x), some (y), some (ob 9 [vr 9 k1, vr 9 k2, vi a])])) (by decide +kernel) (by decide +kernel) d3_get2 (Nat.le_of_ble_eq_true rfl) (show I32 _ from by omega) d3_set2 ?_
  exact aw_vret (by decide +kernel) rfl (by decide) (by decide) (hq _ _ rfl rfl)

def dv (g : Nat → Int) : Nat → Int
  | 0 => 0
  | i + 1 => gc (g i) (dv g i)
theorem dv_in (hg : ∀ i, i < n → J64 (g i)) : ∀ i, i ≤ n → 0 ≤ dv g i ∧ dv g i ≤ 9223372036854775807 ∧ (1 ≤ i → 1 ≤ dv g i)
  | 0, _ => ⟨by simp [dv], by simp [dv], by omega⟩
  | i + 1, h => by
    have ih := dv_in hg i (by omega)
    have := gc_in (hg i (by omega)) (show J64 (dv g i) by omega)
    exact ⟨by simp only [dv]; omega, by simp only [dv]; omega, fun _ => by simp only [dv]; omega⟩
def cp (f : Nat → Int) (i : Nat) : Nat → Int := fun j => if j < i then f j else 0
theorem cp_0 (f : Nat → Int) : cp f 0 = fun _ => 0 := by funext j; simp [cp]
theorem cp_s (f : Nat → Int) (i : Nat) : va_up (cp f i) i (f i) = cp f (i + 1) := by
  funext j
  simp only [va_up, cp]
  by_cases h1 : j = i
  · subst h1; rw [if_pos rfl, if_pos (by omega)]
  · rw [if_neg h1]
    by_cases h2 : j < i
    · rw [if_pos h2, if_pos (by omega)]
    · rw [if_neg h2, if_neg (by omega)]
theorem sumZ_nn (hg : ∀ i, i < n → 0 ≤ g i) : ∀ m, m ≤ n → 0 ≤ sumZ g m
  | 0, _ => by simp [sumZ]
  | m + 1, h => by have := sumZ_nn hg m (by omega); have := hg m (by omega); simp only [sumZ]; omega
theorem sumZ_le (hg : ∀ i, i < n → 0 ≤ g i) : ∀ {m i : Nat}, m ≤ n → i < m → g i ≤ sumZ g m
  | 0, i, _, h => by omega
  | m + 1, i, h1, h2 => by
    simp only [sumZ]
    rcases Nat.lt_or_ge i m with z | z
    · have := sumZ_le hg (m := m) (i := i) (by omega) z; have := hg m (by omega); omega
    · have : i = m := by omega
      subst this; have := sumZ_nn hg i (by omega); omega
theorem tdiv_le {x y D : Int} (h0 : 0 ≤ x) (h : x ≤ y) (hD : 0 < D) : 0 ≤ Int.tdiv x D ∧ Int.tdiv x D ≤ Int.tdiv y D := by
  rw [Int.tdiv_eq_ediv_of_nonneg h0, Int.tdiv_eq_ediv_of_nonneg (by omega)]
  exact ⟨Int.ediv_nonneg h0 (by omega), Int.ediv_le_ediv hD h⟩
theorem m_K_made_r : ADet G M_K_made [vr 3 0] (Hp b s t (sgK (n : Int) 1 f g) df jo tr di mo dy) (some vn) (Hp b s t (sgK (n : Int) 1 f g) df jo tr di mo dy) := by
  refine am_det (by decide +kernel) (Nat.le_of_ble_eq_true rfl) (fun Qr Qt hq => ?_)
  refine aw_blk (pc' := 4) (ls' := [some (vr 3 0), none, none, none, none, none, none, none]) (st' := [vi 1]) [.inl (.aload_n 0), .inr (23, 3, 3)] 0 _ _ (by decide +kernel) rfl ?_
  refine aw_if_ne (o := 11) (tgt := 15) (by decide +kernel) (by decide) (by omega) (fun _ => ?_) (fun c => absurd c (by omega))
  refine aw_blk (pc' := 16) (ls' := [some (vr 3 0), none, none, none, none, none, none, none]) (st' := [vn]) [.inl (.aconst_null)] 15 _ _ (by decide +kernel) rfl ?_
  exact aw_aret (by decide +kernel) rfl (by decide) (by decide) (hq _ _ rfl rfl)

theorem m_K_made_0 : ADet G M_K_made [vr 3 0] (Hp b s t (sgK 0 0 f g) df jo tr di mo dy) (some vn) (Hp b s t (sgK 0 0 f g) df jo tr di mo dy) := by
  refine am_det (by decide +kernel) (Nat.le_of_ble_eq_true rfl) (fun Qr Qt hq => ?_)
  refine aw_blk (pc' := 4) (ls' := [some (vr 3 0), none, none, none, none, none, none, none]) (st' := [vi 0]) [.inl (.aload_n 0), .inr (23, 3, 3)] 0 _ _ (by decide +kernel) rfl ?_
  refine aw_if_ne (o := 11) (tgt := 15) (by decide +kernel) (by decide) (by omega) (fun c => absurd (by omega) c) (fun _ => ?_)
  refine aw_blk (pc' := 12) (ls' := [some (vr 3 0), none, none, none, none, none, none, none]) (st' := [vi 1, vi 0]) [.inl (.aload_n 0), .inr (19, 3, 2), .inl (.iconst 1)] 7 _ _ (by decide +kernel) rfl ?_
  refine aw_icmp_ge (o := 5) (tgt := 17) (by decide +kernel) (by decide) (by omega) (by omega) (fun c => absurd c (by omega)) (fun _ => ?_)
  refine aw_blk (pc' := 16) (ls' := [some (vr 3 0), none, none, none, none, none, none, none]) (st' := [vn]) [.inl (.aconst_null)] 15 _ _ (by decide +kernel) rfl ?_
  exact aw_aret (by decide +kernel) rfl (by decide) (by decide) (hq _ _ rfl rfl)

theorem m_K_made_b (hn : 1 ≤ n ∧ n ≤ 24) (hg : ∀ i, i < n → 1 ≤ g i ∧ I64 (g i)) (hS : sumZ g n ≤ 4611686018427387904) (hb : 1048576 < Int.tdiv (sumZ g n) (dv g n)) : ADet G M_K_made [vr 3 0] (Hp b s t (sgK (n : Int) 0 f g) df jo tr di mo dy) (some vn) (Hp b s t (sgK (n : Int) 0 f g) df jo tr di mo dy) := by
  refine am_det (by decide +kernel) (Nat.le_of_ble_eq_true rfl) (fun Qr Qt hq => ?_)
  have hnn : ∀ i, i < n → 0 ≤ g i := fun i hi => by have := (hg i hi).1; omega
  have hgj : ∀ i, i < n → J64 (g i) := fun i hi => by have := (hg i hi).1; have := sumZ_le hnn (Nat.le_refl n) hi; constructor <;> omega
  have hdv := dv_in hgj
  have hS0 := sumZ_nn hnn n (Nat.le_refl n)
  refine aw_blk (pc' := 4) (ls' := [some (vr 3 0), none, none, none, none, none, none, none]) (st' := [vi 0]) [.inl (.aload_n 0), .inr (23, 3, 3)] 0 _ _ (by decide +kernel) rfl ?_
  refine aw_if_ne (o := 11) (tgt := 15) (by decide +kernel) (by decide) (by omega) (fun c => absurd (by omega) c) (fun _ => ?_)
  refine aw_blk (pc' := 12) (ls' := [some (vr 3 0), none, none, none, none, none, none, none]) (st' := [vi 1, vi (n : Int)]) [.inl (.aload_n 0), .inr (19, 3, 2), .inl (.iconst 1)] 7 _ _ (by decide +kernel) rfl ?_
  refine aw_icmp_ge (o := 5) (tgt := 17) (by decide +kernel) (by decide) (by omega) (by omega) (fun _ => ?_) (fun c => absurd (by omega) c)
  refine aw_blk (pc' := 24) (ls' := [some (vr 3 0), some (vl 0), none, some (vl 0), none, some (vi 0), none, none]) (st' := []) [.inl (.lconst 0), .inl (.lstore_n 1), .inl (.lconst 0), .inl (.lstore_n 3), .inl (.iconst 0), .inl (.istore 5)] 17 _ _ (by decide +kernel) rfl ?_
  refine up_to (W := fun i : Nat => AW G M_K_made Qr Qt 0 0 24 [some (vr 3 0), some (vl (dv g i)), none, some (vl (sumZ g i)), none, some (vi (i : Int)), none, none] [] (Hp b s t [some (ob 3 [vr 3 1, vr 3 2, vi (n : Int), vi 0]), some (ar 0 24 f), some (ar 1 24 g)] df jo tr di mo dy)) n ?_ (fun i hi ih => ?_) 0 (by omega)
  · have hd1 := hdv n (Nat.le_refl n)
    have hq1 := tdiv_le (D := dv g n) hS0 (Int.le_refl (sumZ g n)) (by omega)
    have hq2 : Int.tdiv (sumZ g n) (dv g n) ≤ sumZ g n := by rw [Int.tdiv_eq_ediv_of_nonneg hS0]; exact Int.ediv_le_self _ hS0
    refine aw_blk (pc' := 30) (ls' := [some (vr 3 0), some (vl (dv g n)), none, some (vl (sumZ g n)), none, some (vi (n : Int)), none, none]) (st' := [vi (n : Int), vi (n : Int)]) [.inl (.iload 5), .inl (.aload_n 0), .inr (19, 3, 2)] 24 _ _ (by decide +kernel) rfl ?_
    refine aw_icmp_ge (o := 31) (tgt := 61) (by decide +kernel) (by decide) (by omega) (by omega) (fun _ => ?_) (fun c => absurd (by omega) c)
    refine aw_blk (pc' := 63) (ls' := [some (vr 3 0), some (vl (dv g n)), none, some (vl (sumZ g n)), none, some (vi (n : Int)), none, none]) (st' := [vl 1, vl (dv g n)]) [.inl (.lload_n 1), .inl (.lconst 1)] 61 _ _ (by decide +kernel) rfl ?_
    refine aw_lcmp (by decide +kernel) (by omega) (by omega) ?_
    refine aw_if_lt (o := 13) (tgt := 77) (by decide +kernel) (by decide) (cmpI_in _ _) (fun c => absurd ((cmpI_lt _ _).mp c) (by omega)) (fun _ => ?_)
    refine aw_blk (pc' := 69) (ls' := [some (vr 3 0), some (vl (dv g n)), none, some (vl (sumZ g n)), none, some (vi (n : Int)), none, none]) (st' := [vl (dv g n), vl (sumZ g n)]) [.inl (.lload_n 3), .inl (.lload_n 1)] 67 _ _ (by decide +kernel) rfl ?_
    refine aw_ldiv (by decide +kernel) (by omega) (by omega) (by omega) ?_
    refine aw_ldc2 (a := 1048576) (ix := 43) (v := 1048576) (by decide +kernel) (by decide +kernel) (by decide) ?_
    refine aw_lcmp (by decide +kernel) (by omega) (by omega) ?_
    refine aw_if_le (o := 5) (tgt := 79) (by decide +kernel) (by decide) (cmpI_in _ _) (fun c => absurd ((cmpI_le _ _).mp c) (by omega)) (fun _ => ?_)
    refine aw_blk (pc' := 78) (ls' := [some (vr 3 0), some (vl (dv g n)), none, some (vl (sumZ g n)), none, some (vi (n : Int)), none, none]) (st' := [vn]) [.inl (.aconst_null)] 77 _ _ (by decide +kernel) rfl ?_
    exact aw_aret (by decide +kernel) rfl (by decide) (by decide) (hq _ _ rfl rfl)
  · refine aw_blk (pc' := 30) (ls' := [some (vr 3 0), some (vl (dv g i)), none, some (vl (sumZ g i)), none, some (vi (i : Int)), none, none]) (st' := [vi (n : Int), vi (i : Int)]) [.inl (.iload 5), .inl (.aload_n 0), .inr (19, 3, 2)] 24 _ _ (by decide +kernel) rfl ?_
    refine aw_icmp_ge (o := 31) (tgt := 61) (by decide +kernel) (by decide) (by omega) (by omega) (fun c => absurd c (by omega)) (fun _ => ?_)
    refine aw_blk (pc' := 39) (ls' := [some (vr 3 0), some (vl (dv g i)), none, some (vl (sumZ g i)), none, some (vi (i : Int)), none, none]) (st' := [vi (i : Int), vr 3 2]) [.inl (.aload_n 0), .inr (15, 3, 1), .inl (.iload 5)] 33 _ _ (by decide +kernel) rfl ?_
    refine aw_lald (j := i) (by decide +kernel) rfl (by omega) (by omega) (fun r39 => ?_)
    refine aw_blk (pc' := 41) (ls' := [some (vr 3 0), some (vl (dv g i)), none, some (vl (sumZ g i)), none, some (vi (i : Int)), none, none]) (st' := [vl (dv g i), vl (g i)]) [.inl (.lload_n 1)] 40 _ _ (by decide +kernel) rfl ?_
    have hd1 := hdv i (by omega)
    have hg1 := hgj i hi
    refine aw_dSN (cs' := 0) (sl' := 0) (pc' := 44) (st' := [vl (gc (g i) (dv g i))]) (idx := 39) (as := [vl (g i), vl (dv g i)]) (st := []) (m_B_commonDivisor hg1 (by omega)) (by decide +kernel) (show snOK "ChanceBench$Maker" 39 M_B_commonDivisor 2 = true by decide +kernel) rfl (Nat.le_of_ble_eq_true rfl) (by decide) (by decide) (by decide) rfl rfl rfl rfl ?_
    refine aw_blk (pc' := 52) (ls' := [some (vr 3 0), some (vl (gc (g i) (dv g i))), none, some (vl (sumZ g i)), none, some (vi (i : Int)), none, none]) (st' := [vi (i : Int), vr 3 2, vl (sumZ g i)]) [.inl (.lstore_n 1), .inl (.lload_n 3), .inl (.aload_n 0), .inr (15, 3, 1), .inl (.iload 5)] 44 _ _ (by decide +kernel) rfl ?_
    refine aw_lald (j := i) (by decide +kernel) rfl (by omega) (by omega) (fun r52 => ?_)
    refine aw_blk (pc' := 58) (ls' := [some (vr 3 0), some (vl (gc (g i) (dv g i))), none, some (vl ((sumZ g i) + (g i))), none, some (vi ((i : Int) + 1)), none, none]) (st' := []) [.inl (.ladd), .inl (.lstore_n 3), .inl (.iinc 5 1)] 53 _ _ (by decide +kernel) rfl ?_
    refine aw_goto (o := -34) (tgt := 24) (by decide +kernel) (by decide) ?_
    exact aw_eq rfl rfl rfl ih

theorem m_K_made_k (hn : 1 ≤ n ∧ n ≤ 24) (hg : ∀ i, i < n → 1 ≤ g i ∧ I64 (g i)) (hS : sumZ g n ≤ 4611686018427387904) (hb : Int.tdiv (sumZ g n) (dv g n) ≤ 1048576) : ADet G M_K_made [vr 3 0] (Hp b s t (sgK (n : Int) 0 f g) df jo tr di mo dy) (some (vr 9 (dy.length + 2))) (Hp b s t (sgK (n : Int) 0 f g) df jo tr di mo (dy ++ [some (ar 0 n (cp f n)), some (ar 0 n (cp (fun j => Int.tdiv (g j) (dv g n)) n)), some (ob 9 [vr 9 dy.length, vr 9 (dy.length + 1), vi (Int.tdiv (sumZ g n) (dv g n))])])) := by
  refine am_det (by decide +kernel) (Nat.le_of_ble_eq_true rfl) (fun Qr Qt hq => ?_)
  have hnn : ∀ i, i < n → 0 ≤ g i := fun i hi => by have := (hg i hi).1; omega
  have hgj : ∀ i, i < n → J64 (g i) := fun i hi => by have := (hg i hi).1; have := sumZ_le hnn (Nat.le_refl n) hi; constructor <;> omega
  have hdv := dv_in hgj
  have hS0 := sumZ_nn hnn n (Nat.le_refl n)
  refine aw_blk (pc' := 4) (ls' := [some (vr 3 0), none, none, none, none, none, none, none]) (st' := [vi 0]) [.inl (.aload_n 0), .inr (23, 3, 3)] 0 _ _ (by decide +kernel) rfl ?_
  refine aw_if_ne (o := 11) (tgt := 15) (by decide +kernel) (by decide) (by omega) (fun c => absurd (by omega) c) (fun _ => ?_)
  refine aw_blk (pc' := 12) (ls' := [some (vr 3 0), none, none, none, none, none, none, none]) (st' := [vi 1, vi (n : Int)]) [.inl (.aload_n 0), .inr (19, 3, 2), .inl (.iconst 1)] 7 _ _ (by decide +kernel) rfl ?_
  refine aw_icmp_ge (o := 5) (tgt := 17) (by decide +kernel) (by decide) (by omega) (by omega) (fun _ => ?_) (fun c => absurd (by omega) c)
  refine aw_blk (pc' := 24) (ls' := [some (vr 3 0), some (vl 0), none, some (vl 0), none, some (vi 0), none, none]) (st' := []) [.inl (.lconst 0), .inl (.lstore_n 1), .inl (.lconst 0), .inl (.lstore_n 3), .inl (.iconst 0), .inl (.istore 5)] 17 _ _ (by decide +kernel) rfl ?_
  refine up_to (W := fun i : Nat => AW G M_K_made Qr Qt 0 0 24 [some (vr 3 0), some (vl (dv g i)), none, some (vl (sumZ g i)), none, some (vi (i : Int)), none, none] [] (Hp b s t [some (ob 3 [vr 3 1, vr 3 2, vi (n : Int), vi 0]), some (ar 0 24 f), some (ar 1 24 g)] df jo tr di mo dy)) n ?_ (fun i hi ih => ?_) 0 (by omega)
  · have hd1 := hdv n (Nat.le_refl n)
    have hq1 := tdiv_le (D := dv g n) hS0 (Int.le_refl (sumZ g n)) (by omega)
    have hq2 : Int.tdiv (sumZ g n) (dv g n) ≤ sumZ g n := by rw [Int.tdiv_eq_ediv_of_nonneg hS0]; exact Int.ediv_le_self _ hS0
    refine aw_blk (pc' := 30) (ls' := [some (vr 3 0), some (vl (dv g n)), none, some (vl (sumZ g n)), none, some (vi (n : Int)), none, none]) (st' := [vi (n : Int), vi (n : Int)]) [.inl (.iload 5), .inl (.aload_n 0), .inr (19, 3, 2)] 24 _ _ (by decide +kernel) rfl ?_
    refine aw_icmp_ge (o := 31) (tgt := 61) (by decide +kernel) (by decide) (by omega) (by omega) (fun _ => ?_) (fun c => absurd (by omega) c)
    refine aw_blk (pc' := 63) (ls' := [some (vr 3 0), some (vl (dv g n)), none, some (vl (sumZ g n)), none, some (vi (n : Int)), none, none]) (st' := [vl 1, vl (dv g n)]) [.inl (.lload_n 1), .inl (.lconst 1)] 61 _ _ (by decide +kernel) rfl ?_
    refine aw_lcmp (by decide +kernel) (by omega) (by omega) ?_
    refine aw_if_lt (o := 13) (tgt := 77) (by decide +kernel) (by decide) (cmpI_in _ _) (fun c => absurd ((cmpI_lt _ _).mp c) (by omega)) (fun _ => ?_)
    refine aw_blk (pc' := 69) (ls' := [some (vr 3 0), some (vl (dv g n)), none, some (vl (sumZ g n)), none, some (vi (n : Int)), none, none]) (st' := [vl (dv g n), vl (sumZ g n)]) [.inl (.lload_n 3), .inl (.lload_n 1)] 67 _ _ (by decide +kernel) rfl ?_
    refine aw_ldiv (by decide +kernel) (by omega) (by omega) (by omega) ?_
    refine aw_ldc2 (a := 1048576) (ix := 43) (v := 1048576) (by decide +kernel) (by decide +kernel) (by decide) ?_
    refine aw_lcmp (by decide +kernel) (by omega) (by omega) ?_
    refine aw_if_le (o := 5) (tgt := 79) (by decide +kernel) (by decide) (cmpI_in _ _) (fun _ => ?_) (fun c => absurd ((cmpI_le _ _).mpr (by omega)) c)
    refine aw_blk (pc' := 83) (ls' := [some (vr 3 0), some (vl (dv g n)), none, some (vl (sumZ g n)), none, some (vi (n : Int)), none, none]) (st' := [vi (n : Int)]) [.inl (.aload_n 0), .inr (19, 3, 2)] 79 _ _ (by decide +kernel) rfl ?_
    refine aw_newa (t := 0) (N := n) (s := 9) (n := dy.length) (h' := Hp b s t [some (ob 3 [vr 3 1, vr 3 2, vi (n : Int), vi 0]), some (ar 0 24 f), some (ar 1 24 g)] df jo tr di mo (dy ++ [some (ar 0 n (fun _ => 0))])) (by decide +kernel) (by decide) (by decide +kernel) rfl (by omega) rfl okP9 rfl (by decide) (by show _ ≤ 51; omega) dp_1 ?_
    refine aw_blk (pc' := 91) (ls' := [some (vr 3 0), some (vl (dv g n)), none, some (vl (sumZ g n)), none, some (vr 9 dy.length), none, none]) (st' := [vi (n : Int)]) [.inl (.astore 5), .inl (.aload_n 0), .inr (19, 3, 2)] 85 _ _ (by decide +kernel) rfl ?_
    refine aw_newa (t := 0) (N := n) (s := 9) (n := dy.length + 1) (h' := Hp b s t [some (ob 3 [vr 3 1, vr 3 2, vi (n : Int), vi 0]), some (ar 0 24 f), some (ar 1 24 g)] df jo tr di mo (dy ++ [some (ar 0 n (fun _ => 0)), some (ar 0 n (fun _ => 0))])) (by decide +kernel) (by decide) (by decide +kernel) rfl (by omega) (by simp [hln]) okP9 (by simp [off]) (by decide) (by show _ ≤ 51; omega) dp_2 ?_
    refine aw_blk (pc' := 98) (ls' := [some (vr 3 0), some (vl (dv g n)), none, some (vl (sumZ g n)), none, some (vr 9 dy.length), some (vr 9 (dy.length + 1)), some (vi 0)]) (st' := []) [.inl (.astore 6), .inl (.iconst 0), .inl (.istore 7)] 93 _ _ (by decide +kernel) rfl ?_
    rw [show Hp b s t (sgK (n : Int) 0 f g) df jo tr di mo (dy ++ [some (ar 0 n (fun _ => 0)), some (ar 0 n (fun _ => 0))]) = Hp b s t (sgK (n : Int) 0 f g) df jo tr di mo (dy ++ [some (ar 0 n (cp f 0)), some (ar 0 n (cp (fun j => Int.tdiv (g j) (dv g n)) 0))]) by rw [cp_0, cp_0]]
    refine up_to (W := fun i : Nat => AW G M_K_made Qr Qt 2 (0 + n + n) 98 [some (vr 3 0), some (vl (dv g n)), none, some (vl (sumZ g n)), none, some (vr 9 dy.length), some (vr 9 (dy.length + 1)), some (vi (i : Int))] [] (Hp b s t [some (ob 3 [vr 3 1, vr 3 2, vi (n : Int), vi 0]), some (ar 0 24 f), some (ar 1 24 g)] df jo tr di mo (dy ++ [some (ar 0 n (cp f i)), some (ar 0 n (cp (fun j => Int.tdiv (g j) (dv g n)) i))]))) n ?_ (fun i hi ih => ?_) 0 (by omega)
    · refine aw_blk (pc' := 104) (ls' := [some (vr 3 0), some (vl (dv g n)), none, some (vl (sumZ g n)), none, some (vr 9 dy.length), some (vr 9 (dy.length + 1)), some (vi (n : Int))]) (st' := [vi (n : Int), vi (n : Int)]) [.inl (.iload 7), .inl (.aload_n 0), .inr (19, 3, 2)] 98 _ _ (by decide +kernel) rfl ?_
      refine aw_icmp_ge (o := 36) (tgt := 140) (by decide +kernel) (by decide) (by omega) (by omega) (fun _ => ?_) (fun c => absurd (by omega) c)
      refine aw_new (idx := 45) (ci := 9) (N := 3) (s := 9) (n := dy.length + 2) (h' := Hp b s t [some (ob 3 [vr 3 1, vr 3 2, vi (n : Int), vi 0]), some (ar 0 24 f), some (ar 1 24 g)] df jo tr di mo (dy ++ [some (ar 0 n (cp f n)), some (ar 0 n (cp (fun j => Int.tdiv (g j) (dv g n)) n)), some (ob 9 [vn, vn, vi 0])])) (by decide +kernel) (by decide +kernel) rfl (by simp [hln]) okP9 (by simp [off]) (by decide) (by show _ ≤ 51; omega) dp_3 ?_
      refine aw_blk (pc' := 150) (ls' := [some (vr 3 0), some (vl (dv g n)), none, some (vl (sumZ g n)), none, some (vr 9 dy.length), some (vr 9 (dy.length + 1)), some (vi (n : Int))]) (st' := [vl (dv g n), vl (sumZ g n), vr 9 (dy.length + 1), vr 9 dy.length, vr 9 (dy.length + 2), vr 9 (dy.length + 2)]) [.inl (.dup), .inl (.aload 5), .inl (.aload 6), .inl (.lload_n 3), .inl (.lload_n 1)] 143 _ _ (by decide +kernel) rfl ?_
      refine aw_ldiv (by decide +kernel) (by omega) (by omega) (by omega) ?_
      refine aw_blk (pc' := 152) (ls' := [some (vr 3 0), some (vl (dv g n)), none, some (vl (sumZ g n)), none, some (vr 9 dy.length), some (vr 9 (dy.length + 1)), some (vi (n : Int))]) (st' := [vi (Int.tdiv (sumZ g n) (dv g n)), vr 9 (dy.length + 1), vr 9 dy.length, vr 9 (dy.length + 2), vr 9 (dy.length + 2)]) [.inl (.l2i)] 151 _ _ (by decide +kernel) rfl ?_
      refine aw_dI (cs' := 3) (sl' := 0 + n + n + 3) (pc' := 155) (st' := [vr 9 (dy.length + 2)]) (idx := 47) (as := [vr 9 dy.length, vr 9 (dy.length + 1), vi (Int.tdiv (sumZ g n) (dv g n))]) (st := [vr 9 (dy.length + 2)]) (m_L_init (by omega)) (by decide +kernel) (show iOK "ChanceBench$Maker" 47 M_L_init 3 = true by decide +kernel) rfl (Nat.le_of_ble_eq_true rfl) (by decide) (by decide) (by show 0 + n + n + 3 + 0 ≤ 51; omega) rfl rfl rfl rfl ?_
      exact aw_aret (by decide +kernel) rfl (by decide) (by show 0 + n + n + 3 ≤ 51; omega) (hq _ _ rfl rfl)
    · refine aw_blk (pc' := 104) (ls' := [some (vr 3 0), some (vl (dv g n)), none, some (vl (sumZ g n)), none, some (vr 9 dy.length), some (vr 9 (dy.length + 1)), some (vi (i : Int))]) (st' := [vi (n : Int), vi (i : Int)]) [.inl (.iload 7), .inl (.aload_n 0), .inr (19, 3, 2)] 98 _ _ (by decide +kernel) rfl ?_
      refine aw_icmp_ge (o := 36) (tgt := 140) (by decide +kernel) (by decide) (by omega) (by omega) (fun c => absurd c (by omega)) (fun _ => ?_)
      refine aw_blk (pc' := 117) (ls' := [some (vr 3 0), some (vl (dv g n)), none, some (vl (sumZ g n)), none, some (vr 9 dy.length), some (vr 9 (dy.length + 1)), some (vi (i : Int))]) (st' := [vi (i : Int), vr 3 1, vi (i : Int), vr 9 dy.length]) [.inl (.aload 5), .inl (.iload 7), .inl (.aload_n 0), .inr (9, 3, 0), .inl (.iload 7)] 107 _ _ (by decide +kernel) rfl ?_
      refine aw_iald (j := i) (by decide +kernel) rfl (by omega) (by omega) (fun r117 => ?_)
      refine aw_iast (j := i) (h' := Hp b s t [some (ob 3 [vr 3 1, vr 3 2, vi (n : Int), vi 0]), some (ar 0 24 f), some (ar 1 24 g)] df jo tr di mo (dy ++ [some (ar 0 n (va_up (cp f i) i (f i))), some (ar 0 n (cp (fun j => Int.tdiv (g j) (dv g n)) i))])) (by decide +kernel) d2_get0 (by omega) (by omega) (by omega) d2_set0 ?_
      refine aw_blk (pc' := 129) (ls' := [some (vr 3 0), some (vl (dv g n)), none, some (vl (sumZ g n)), none, some (vr 9 dy.length), some (vr 9 (dy.length + 1)), some (vi (i : Int))]) (st' := [vi (i : Int), vr 3 2, vi (i : Int), vr 9 (dy.length + 1)]) [.inl (.aload 6), .inl (.iload 7), .inl (.aload_n 0), .inr (15, 3, 1), .inl (.iload 7)] 119 _ _ (by decide +kernel) rfl ?_
      refine aw_lald (j := i) (by decide +kernel) rfl (by omega) (by omega) (fun r129 => ?_)
      refine aw_blk (pc' := 131) (ls' := [some (vr 3 0), some (vl (dv g n)), none, some (vl (sumZ g n)), none, some (vr 9 dy.length), some (vr 9 (dy.length + 1)), some (vi (i : Int))]) (st' := [vl (dv g n), vl (g i), vi (i : Int), vr 9 (dy.length + 1)]) [.inl (.lload_n 1)] 130 _ _ (by decide +kernel) rfl ?_
      have hg1 := sumZ_le hnn (Nat.le_refl n) hi
      have hq3 := tdiv_le (D := dv g n) (hnn i hi) hg1 (by omega)
      refine aw_ldiv (by decide +kernel) (by omega) (by omega) (by omega) ?_
      refine aw_blk (pc' := 133) (ls' := [some (vr 3 0), some (vl (dv g n)), none, some (vl (sumZ g n)), none, some (vr 9 dy.length), some (vr 9 (dy.length + 1)), some (vi (i : Int))]) (st' := [vi (Int.tdiv (g i) (dv g n)), vi (i : Int), vr 9 (dy.length + 1)]) [.inl (.l2i)] 132 _ _ (by decide +kernel) rfl ?_
      refine aw_iast (j := i) (h' := Hp b s t [some (ob 3 [vr 3 1, vr 3 2, vi (n : Int), vi 0]), some (ar 0 24 f), some (ar 1 24 g)] df jo tr di mo (dy ++ [some (ar 0 n (va_up (cp f i) i (f i))), some (ar 0 n (va_up (cp (fun j => Int.tdiv (g j) (dv g n)) i) i (Int.tdiv (g i) (dv g n))))])) (by decide +kernel) d2_get1 (by omega) (by omega) (by omega) d2_set1 ?_
      refine aw_blk (pc' := 137) (ls' := [some (vr 3 0), some (vl (dv g n)), none, some (vl (sumZ g n)), none, some (vr 9 dy.length), some (vr 9 (dy.length + 1)), some (vi ((i : Int) + 1))]) (st' := []) [.inl (.iinc 7 1)] 134 _ _ (by decide +kernel) rfl ?_
      refine aw_goto (o := -39) (tgt := 98) (by decide +kernel) (by decide) ?_
      exact aw_eq rfl rfl (by rw [← cp_s f i, ← cp_s (fun j => Int.tdiv (g j) (dv g n)) i]) ih
  · refine aw_blk (pc' := 30) (ls' := [some (vr 3 0), some (vl (dv g i)), none, some (vl (sumZ g i)), none, some (vi (i : Int)), none, none]) (st' := [vi (n : Int), vi (i : Int)]) [.inl (.iload 5), .inl (.aload_n 0), .inr (19, 3, 2)] 24 _ _ (by decide +kernel) rfl ?_
    refine aw_icmp_ge (o := 31) (tgt := 61) (by decide +kernel) (by decide) (by omega) (by omega) (fun c => absurd c (by omega)) (fun _ => ?_)
    refine aw_blk (pc' := 39) (ls' := [some (vr 3 0), some (vl (dv g i)), none, some (vl (sumZ g i)), none, some (vi (i : Int)), none, none]) (st' := [vi (i : Int), vr 3 2]) [.inl (.aload_n 0), .inr (15, 3, 1), .inl (.iload 5)] 33 _ _ (by decide +kernel) rfl ?_
    refine aw_lald (j := i) (by decide +kernel) rfl (by omega) (by omega) (fun r39 => ?_)
    refine aw_blk (pc' := 41) (ls' := [some (vr 3 0), some (vl (dv g i)), none, some (vl (sumZ g i)), none, some (vi (i : Int)), none, none]) (st' := [vl (dv g i), vl (g i)]) [.inl (.lload_n 1)] 40 _ _ (by decide +kernel) rfl ?_
    have hd1 := hdv i (by omega)
    have hg1 := hgj i hi
    refine aw_dSN (cs' := 0) (sl' := 0) (pc' := 44) (st' := [vl (gc (g i) (dv g i))]) (idx := 39) (as := [vl (g i), vl (dv g i)]) (st := []) (m_B_commonDivisor hg1 (by omega)) (by decide +kernel) (show snOK "ChanceBench$Maker" 39 M_B_commonDivisor 2 = true by decide +kernel) rfl (Nat.le_of_ble_eq_true rfl) (by decide) (by decide) (by decide) rfl rfl rfl rfl ?_
    refine aw_blk (pc' := 52) (ls' := [some (vr 3 0), some (vl (gc (g i) (dv g i))), none, some (vl (sumZ g i)), none, some (vi (i : Int)), none, none]) (st' := [vi (i : Int), vr 3 2, vl (sumZ g i)]) [.inl (.lstore_n 1), .inl (.lload_n 3), .inl (.aload_n 0), .inr (15, 3, 1), .inl (.iload 5)] 44 _ _ (by decide +kernel) rfl ?_
    refine aw_lald (j := i) (by decide +kernel) rfl (by omega) (by omega) (fun r52 => ?_)
    refine aw_blk (pc' := 58) (ls' := [some (vr 3 0), some (vl (gc (g i) (dv g i))), none, some (vl ((sumZ g i) + (g i))), none, some (vi ((i : Int) + 1)), none, none]) (st' := []) [.inl (.ladd), .inl (.lstore_n 3), .inl (.iinc 5 1)] 53 _ _ (by decide +kernel) rfl ?_
    refine aw_goto (o := -34) (tgt := 24) (by decide +kernel) (by decide) ?_
    exact aw_eq rfl rfl rfl ih

end
