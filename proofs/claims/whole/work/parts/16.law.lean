theorem up_to {W : Nat → Prop} (N : Nat) (h1 : W N) (h2 : ∀ i, i < N → W (i + 1) → W i) : ∀ i, i ≤ N → W i := by
  intro i hi
  obtain ⟨d, rfl⟩ : ∃ d, N = i + d := ⟨N - i, by omega⟩
  clear hi
  induction d generalizing i with
  | zero => exact h1
  | succ d ih => exact h2 i (by omega) (ih (i + 1) (by rw [show i + 1 + d = i + (d + 1) by omega]; exact h1) (fun j hj => h2 j (by omega)))
section
variable {G : GT} {M : MI} {Qr : Option AV → HT → Prop} {Qt : HT → Prop} {cs sl pc : Nat} {ls ls' : LSt} {st st' : List AV} {h h' : HT}
theorem aw_eq (e1 : ls = ls') (e2 : st = st') (e3 : h = h') (k : AW G M Qr Qt cs sl pc ls' st' h') : AW G M Qr Qt cs sl pc ls st h := by subst e1 e2 e3; exact k
theorem am_det {as : List AV} {r : Option AV} (hy : plainName M.1.cls = true) (hn : (entL as).length ≤ M.2.2.1) (k : ∀ Qr Qt, (∀ x g, x = r → g = h' → Qr x g) → AW G M Qr Qt 0 0 0 (entN as M.2.2.1) [] h) : ADet G M as h r h' :=
  am_entry hy hn (k _ _ (fun x g a b => ⟨a, b⟩))
end
def sumZ (f : Nat → Int) : Nat → Int
  | 0 => 0
  | n + 1 => sumZ f n + f n
def isL (h : HT) (k k1 k2 n : Nat) (at_ wt : Nat → Int) (W : Int) : Prop := hget h 9 k = some (ob 9 [vr 9 k1, vr 9 k2, vi W]) ∧ hget h 9 k1 = some (ar 0 n at_) ∧ hget h 9 k2 = some (ar 0 n wt)
section
variable {G : GT} {h : HT} {b s t mk df jo tr di mo dy : SG} {a c : Int} {n k k1 k2 j j1 j2 m : Nat} {f at_ wt at2 wt2 : Nat → Int} {W W2 : Int} {laws ahead made : Nat → Option (Nat × Nat)} {slot : Nat → Int} {od dn un : Int}
def cntL (laws : Nat → Option (Nat × Nat)) : Nat → Int
  | 0 => 0
  | k + 1 => cntL laws k + (if laws k = none then 0 else 1)
theorem m_S_laws : ADet G M_S_laws [vr 1 0] (Hp b (sgS laws slot ahead made od dn un) t mk df jo tr di mo dy) (some (vi (cntL laws 16))) (Hp b (sgS laws slot ahead made od dn un) t mk df jo tr di mo dy) := by
  refine am_det (by decide +kernel) (Nat.le_of_ble_eq_true rfl) (fun Qr Qt hq => ?_)
  refine aw_blk (pc' := 4) (ls' := [some (vr 1 0), some (vi 0), some (vi 0)]) (st' := []) [.inl (.iconst 0), .inl (.istore_n 1), .inl (.iconst 0), .inl (.istore_n 2)] 0 _ _ (by decide +kernel) rfl ?_
  refine up_to (W := fun i : Nat => AW G M_S_laws Qr Qt 0 0 4 [some (vr 1 0), some (vi (cntL laws i)), some (vi (i : Int))] [] (Hp b [some (ob 1 [vr 1 1, vr 1 2, vr 1 3, vr 1 4, vi od, vi dn, vi un]), some (rs 16 laws), some (ar 0 30 slot), some (rs 30 ahead), some (rs 30 made)] t mk df jo tr di mo dy)) 16 ?_ (fun i hi ih => ?_) 0 (by omega)
  · refine aw_blk (pc' := 7) (ls' := [some (vr 1 0), some (vi (cntL laws 16)), some (vi (16 : Int))]) (st' := [vi 16, vi (16 : Int)]) [.inl (.iload_n 2), .inl (.bipush 16)] 4 _ _ (by decide +kernel) rfl ?_
    refine aw_icmp_ge (o := 21) (tgt := 28) (by decide +kernel) (by decide) (by omega) (by omega) (fun _ => ?_) (fun c => absurd (by omega) c)
    refine aw_blk (pc' := 29) (ls' := [some (vr 1 0), some (vi (cntL laws 16)), some (vi (16 : Int))]) (st' := [vi (cntL laws 16)]) [.inl (.iload_n 1)] 28 _ _ (by decide +kernel) rfl ?_
    exact aw_iret (by decide +kernel) rfl (by decide) (by decide) (hq _ _ rfl rfl)
  · refine aw_blk (pc' := 7) (ls' := [some (vr 1 0), some (vi (cntL laws i)), some (vi (i : Int))]) (st' := [vi 16, vi (i : Int)]) [.inl (.iload_n 2), .inl (.bipush 16)] 4 _ _ (by decide +kernel) rfl ?_
    refine aw_icmp_ge (o := 21) (tgt := 28) (by decide +kernel) (by decide) (by omega) (by omega) (fun c => absurd c (by omega)) (fun _ => ?_)
    refine aw_blk (pc' := 15) (ls' := [some (vr 1 0), some (vi (cntL laws i)), some (vi (i : Int))]) (st' := [vi (i : Int), vr 1 1]) [.inl (.aload_n 0), .inr (11, 1, 0), .inl (.iload_n 2)] 10 _ _ (by decide +kernel) rfl ?_
    refine aw_aald (j := i) (by decide +kernel) rfl rfl (by omega) ?_
    refine aw_ifnull (o := 6) (tgt := 22) (by decide +kernel) (by decide) (fun c16 => ?_) (fun q16 c16 => ?_)
    · refine aw_blk (pc' := 25) (ls' := [some (vr 1 0), some (vi (cntL laws i)), some (vi ((i : Int) + 1))]) (st' := []) [.inl (.iinc 2 1)] 22 _ _ (by decide +kernel) rfl ?_
      refine aw_goto (o := -21) (tgt := 4) (by decide +kernel) (by decide) ?_
      exact aw_eq (by rw [cntL, if_pos c16, Int.add_zero]; rfl) rfl rfl ih
    · refine aw_blk (pc' := 25) (ls' := [some (vr 1 0), some (vi ((cntL laws i) + 1)), some (vi ((i : Int) + 1))]) (st' := []) [.inl (.iinc 1 1), .inl (.iinc 2 1)] 19 _ _ (by decide +kernel) rfl ?_
      refine aw_goto (o := -21) (tgt := 4) (by decide +kernel) (by decide) ?_
      exact aw_eq (by rw [cntL, if_neg (by rw [c16]; exact fun z => nomatch z)]; rfl) rfl rfl ih

theorem m_L_total (hL : isL h k k1 k2 n at_ wt W) : ADet G M_L_total [vr 9 k] h (some (vl (sumZ (fun i => at_ i * wt i) n))) h := by
  refine am_det (by decide +kernel) (Nat.le_of_ble_eq_true rfl) (fun Qr Qt hq => ?_)
  refine aw_blk (pc' := 4) (ls' := [some (vr 9 k), some (vl 0), none, some (vi 0)]) (st' := []) [.inl (.lconst 0), .inl (.lstore_n 1), .inl (.iconst 0), .inl (.istore_n 3)] 0 _ _ (by decide +kernel) rfl ?_
  refine up_to (W := fun i : Nat => AW G M_L_total Qr Qt 0 0 4 [some (vr 9 k), some (vl (sumZ (fun i => at_ i * wt i) i)), none, some (vi (i : Int))] [] (h)) n ?_ (fun i hi ih => ?_) 0 (by omega)
  · refine aw_blk (pc' := 6) (ls' := [some (vr 9 k), some (vl (sumZ (fun i => at_ i * wt i) n)), none, some (vi (n : Int))]) (st' := [vr 9 k, vi (n : Int)]) [.inl (.iload_n 3), .inl (.aload_n 0)] 4 _ _ (by decide +kernel) rfl ?_
    refine aw_get (idx := 9) (ci := 9) (f := 0) (by decide +kernel) (by decide +kernel) hL.1 rfl ?_
    refine aw_alen (by decide +kernel) hL.2.1 (fun r9 => ?_)
    refine aw_icmp_ge (o := 27) (tgt := 37) (by decide +kernel) (by decide) (by omega) (by omega) (fun _ => ?_) (fun c => absurd (by omega) c)
    refine aw_blk (pc' := 38) (ls' := [some (vr 9 k), some (vl (sumZ (fun i => at_ i * wt i) n)), none, some (vi (n : Int))]) (st' := [vl (sumZ (fun i => at_ i * wt i) n)]) [.inl (.lload_n 1)] 37 _ _ (by decide +kernel) rfl ?_
    exact aw_lret (by decide +kernel) rfl (by decide) (by decide) (hq _ _ rfl rfl)
  · refine aw_blk (pc' := 6) (ls' := [some (vr 9 k), some (vl (sumZ (fun i => at_ i * wt i) i)), none, some (vi (i : Int))]) (st' := [vr 9 k, vi (i : Int)]) [.inl (.iload_n 3), .inl (.aload_n 0)] 4 _ _ (by decide +kernel) rfl ?_
    refine aw_get (idx := 9) (ci := 9) (f := 0) (by decide +kernel) (by decide +kernel) hL.1 rfl ?_
    refine aw_alen (by decide +kernel) hL.2.1 (fun r9 => ?_)
    refine aw_icmp_ge (o := 27) (tgt := 37) (by decide +kernel) (by decide) (by omega) (by omega) (fun c => absurd c (by omega)) (fun _ => ?_)
    refine aw_blk (pc' := 15) (ls' := [some (vr 9 k), some (vl (sumZ (fun i => at_ i * wt i) i)), none, some (vi (i : Int))]) (st' := [vr 9 k, vl (sumZ (fun i => at_ i * wt i) i)]) [.inl (.lload_n 1), .inl (.aload_n 0)] 13 _ _ (by decide +kernel) rfl ?_
    refine aw_get (idx := 9) (ci := 9) (f := 0) (by decide +kernel) (by decide +kernel) hL.1 rfl ?_
    refine aw_blk (pc' := 19) (ls' := [some (vr 9 k), some (vl (sumZ (fun i => at_ i * wt i) i)), none, some (vi (i : Int))]) (st' := [vi (i : Int), vr 9 k1, vl (sumZ (fun i => at_ i * wt i) i)]) [.inl (.iload_n 3)] 18 _ _ (by decide +kernel) rfl ?_
    refine aw_iald (j := i) (by decide +kernel) hL.2.1 (by omega) (by omega) (fun r19 => ?_)
    refine aw_i2l (by decide +kernel) (by omega) ?_
    refine aw_blk (pc' := 22) (ls' := [some (vr 9 k), some (vl (sumZ (fun i => at_ i * wt i) i)), none, some (vi (i : Int))]) (st' := [vr 9 k, vl (at_ i), vl (sumZ (fun i => at_ i * wt i) i)]) [.inl (.aload_n 0)] 21 _ _ (by decide +kernel) rfl ?_
    refine aw_get (idx := 15) (ci := 9) (f := 1) (by decide +kernel) (by decide +kernel) hL.1 rfl ?_
    refine aw_blk (pc' := 26) (ls' := [some (vr 9 k), some (vl (sumZ (fun i => at_ i * wt i) i)), none, some (vi (i : Int))]) (st' := [vi (i : Int), vr 9 k2, vl (at_ i), vl (sumZ (fun i => at_ i * wt i) i)]) [.inl (.iload_n 3)] 25 _ _ (by decide +kernel) rfl ?_
    refine aw_iald (j := i) (by decide +kernel) hL.2.2 (by omega) (by omega) (fun r26 => ?_)
    refine aw_i2l (by decide +kernel) (by omega) ?_
    refine aw_blk (pc' := 34) (ls' := [some (vr 9 k), some (vl ((sumZ (fun i => at_ i * wt i) i) + ((at_ i) * (wt i)))), none, some (vi ((i : Int) + 1))]) (st' := []) [.inl (.lmul), .inl (.ladd), .inl (.lstore_n 1), .inl (.iinc 3 1)] 28 _ _ (by decide +kernel) rfl ?_
    refine aw_goto (o := -30) (tgt := 4) (by decide +kernel) (by decide) ?_
    exact aw_eq rfl rfl rfl ih

theorem m_L_totalOfSquares (hL : isL h k k1 k2 n at_ wt W) : ADet G M_L_totalOfSquares [vr 9 k] h (some (vl (sumZ (fun i => at_ i * at_ i * wt i) n))) h := by
  refine am_det (by decide +kernel) (Nat.le_of_ble_eq_true rfl) (fun Qr Qt hq => ?_)
  refine aw_blk (pc' := 4) (ls' := [some (vr 9 k), some (vl 0), none, some (vi 0)]) (st' := []) [.inl (.lconst 0), .inl (.lstore_n 1), .inl (.iconst 0), .inl (.istore_n 3)] 0 _ _ (by decide +kernel) rfl ?_
  refine up_to (W := fun i : Nat => AW G M_L_totalOfSquares Qr Qt 0 0 4 [some (vr 9 k), some (vl (sumZ (fun i => at_ i * at_ i * wt i) i)), none, some (vi (i : Int))] [] (h)) n ?_ (fun i hi ih => ?_) 0 (by omega)
  · refine aw_blk (pc' := 6) (ls' := [some (vr 9 k), some (vl (sumZ (fun i => at_ i * at_ i * wt i) n)), none, some (vi (n : Int))]) (st' := [vr 9 k, vi (n : Int)]) [.inl (.iload_n 3), .inl (.aload_n 0)] 4 _ _ (by decide +kernel) rfl ?_
    refine aw_get (idx := 9) (ci := 9) (f := 0) (by decide +kernel) (by decide +kernel) hL.1 rfl ?_
    refine aw_alen (by decide +kernel) hL.2.1 (fun r9 => ?_)
    refine aw_icmp_ge (o := 35) (tgt := 45) (by decide +kernel) (by decide) (by omega) (by omega) (fun _ => ?_) (fun c => absurd (by omega) c)
    refine aw_blk (pc' := 46) (ls' := [some (vr 9 k), some (vl (sumZ (fun i => at_ i * at_ i * wt i) n)), none, some (vi (n : Int))]) (st' := [vl (sumZ (fun i => at_ i * at_ i * wt i) n)]) [.inl (.lload_n 1)] 45 _ _ (by decide +kernel) rfl ?_
    exact aw_lret (by decide +kernel) rfl (by decide) (by decide) (hq _ _ rfl rfl)
  · refine aw_blk (pc' := 6) (ls' := [some (vr 9 k), some (vl (sumZ (fun i => at_ i * at_ i * wt i) i)), none, some (vi (i : Int))]) (st' := [vr 9 k, vi (i : Int)]) [.inl (.iload_n 3), .inl (.aload_n 0)] 4 _ _ (by decide +kernel) rfl ?_
    refine aw_get (idx := 9) (ci := 9) (f := 0) (by decide +kernel) (by decide +kernel) hL.1 rfl ?_
    refine aw_alen (by decide +kernel) hL.2.1 (fun r9 => ?_)
    refine aw_icmp_ge (o := 35) (tgt := 45) (by decide +kernel) (by decide) (by omega) (by omega) (fun c => absurd c (by omega)) (fun _ => ?_)
    refine aw_blk (pc' := 15) (ls' := [some (vr 9 k), some (vl (sumZ (fun i => at_ i * at_ i * wt i) i)), none, some (vi (i : Int))]) (st' := [vr 9 k, vl (sumZ (fun i => at_ i * at_ i * wt i) i)]) [.inl (.lload_n 1), .inl (.aload_n 0)] 13 _ _ (by decide +kernel) rfl ?_
    refine aw_get (idx := 9) (ci := 9) (f := 0) (by decide +kernel) (by decide +kernel) hL.1 rfl ?_
    refine aw_blk (pc' := 19) (ls' := [some (vr 9 k), some (vl (sumZ (fun i => at_ i * at_ i * wt i) i)), none, some (vi (i : Int))]) (st' := [vi (i : Int), vr 9 k1, vl (sumZ (fun i => at_ i * at_ i * wt i) i)]) [.inl (.iload_n 3)] 18 _ _ (by decide +kernel) rfl ?_
    refine aw_iald (j := i) (by decide +kernel) hL.2.1 (by omega) (by omega) (fun r19 => ?_)
    refine aw_i2l (by decide +kernel) (by omega) ?_
    refine aw_blk (pc' := 22) (ls' := [some (vr 9 k), some (vl (sumZ (fun i => at_ i * at_ i * wt i) i)), none, some (vi (i : Int))]) (st' := [vr 9 k, vl (at_ i), vl (sumZ (fun i => at_ i * at_ i * wt i) i)]) [.inl (.aload_n 0)] 21 _ _ (by decide +kernel) rfl ?_
    refine aw_get (idx := 9) (ci := 9) (f := 0) (by decide +kernel) (by decide +kernel) hL.1 rfl ?_
    refine aw_blk (pc' := 26) (ls' := [some (vr 9 k), some (vl (sumZ (fun i => at_ i * at_ i * wt i) i)), none, some (vi (i : Int))]) (st' := [vi (i : Int), vr 9 k1, vl (at_ i), vl (sumZ (fun i => at_ i * at_ i * wt i) i)]) [.inl (.iload_n 3)] 25 _ _ (by decide +kernel) rfl ?_
    refine aw_iald (j := i) (by decide +kernel) hL.2.1 (by omega) (by omega) (fun r26 => ?_)
    refine aw_i2l (by decide +kernel) (by omega) ?_
    refine aw_blk (pc' := 30) (ls' := [some (vr 9 k), some (vl (sumZ (fun i => at_ i * at_ i * wt i) i)), none, some (vi (i : Int))]) (st' := [vr 9 k, vl ((at_ i) * (at_ i)), vl (sumZ (fun i => at_ i * at_ i * wt i) i)]) [.inl (.lmul), .inl (.aload_n 0)] 28 _ _ (by decide +kernel) rfl ?_
    refine aw_get (idx := 15) (ci := 9) (f := 1) (by decide +kernel) (by decide +kernel) hL.1 rfl ?_
    refine aw_blk (pc' := 34) (ls' := [some (vr 9 k), some (vl (sumZ (fun i => at_ i * at_ i * wt i) i)), none, some (vi (i : Int))]) (st' := [vi (i : Int), vr 9 k2, vl ((at_ i) * (at_ i)), vl (sumZ (fun i => at_ i * at_ i * wt i) i)]) [.inl (.iload_n 3)] 33 _ _ (by decide +kernel) rfl ?_
    refine aw_iald (j := i) (by decide +kernel) hL.2.2 (by omega) (by omega) (fun r34 => ?_)
    refine aw_i2l (by decide +kernel) (by omega) ?_
    refine aw_blk (pc' := 42) (ls' := [some (vr 9 k), some (vl ((sumZ (fun i => at_ i * at_ i * wt i) i) + (((at_ i) * (at_ i)) * (wt i)))), none, some (vi ((i : Int) + 1))]) (st' := []) [.inl (.lmul), .inl (.ladd), .inl (.lstore_n 1), .inl (.iinc 3 1)] 36 _ _ (by decide +kernel) rfl ?_
    refine aw_goto (o := -38) (tgt := 4) (by decide +kernel) (by decide) ?_
    exact aw_eq rfl rfl rfl ih

def upW (at_ wt : Nat → Int) (t : Int) : Nat → Int
  | 0 => 0
  | n + 1 => upW at_ wt t n + (if at_ n ≤ t then wt n else 0)
def inc (at_ : Nat → Int) (n : Nat) : Prop := ∀ i j, i < j → j < n → at_ i < at_ j
theorem upW_stop {t : Int} (hs : inc at_ n) {i : Nat} (hi : i < n) (hc : t < at_ i) : upW at_ wt t n = upW at_ wt t i := by
  obtain ⟨d, rfl⟩ : ∃ d, n = i + d := ⟨n - i, by omega⟩
  have : ∀ e, e ≤ d → upW at_ wt t (i + e) = upW at_ wt t i := by
    intro e
    induction e with
    | zero => intro _; rfl
    | succ e ih =>
      intro he
      rw [← Nat.add_assoc, upW, ih (by omega), if_neg, Int.add_zero]
      rcases Nat.eq_zero_or_pos e with z | z
      · subst z; simp only [Nat.add_zero]; omega
      · have := hs i (i + e) (by omega) (by omega); omega
  exact this d (Nat.le_refl d)
theorem m_L_weightUpTo (hL : isL h k k1 k2 n at_ wt W) (ha : I32 a) (hs : inc at_ n) : ADet G M_L_weightUpTo [vr 9 k, vi a] h (some (vl (upW at_ wt a n))) h := by
  refine am_det (by decide +kernel) (Nat.le_of_ble_eq_true rfl) (fun Qr Qt hq => ?_)
  refine aw_blk (pc' := 5) (ls' := [some (vr 9 k), some (vi a), some (vl 0), none, some (vi 0)]) (st' := []) [.inl (.lconst 0), .inl (.lstore_n 2), .inl (.iconst 0), .inl (.istore 4)] 0 _ _ (by decide +kernel) rfl ?_
  refine up_to (W := fun i : Nat => AW G M_L_weightUpTo Qr Qt 0 0 5 [some (vr 9 k), some (vi a), some (vl (upW at_ wt a i)), none, some (vi (i : Int))] [] (h)) n ?_ (fun i hi ih => ?_) 0 (by omega)
  · refine aw_blk (pc' := 8) (ls' := [some (vr 9 k), some (vi a), some (vl (upW at_ wt a n)), none, some (vi (n : Int))]) (st' := [vr 9 k, vi (n : Int)]) [.inl (.iload 4), .inl (.aload_n 0)] 5 _ _ (by decide +kernel) rfl ?_
    refine aw_get (idx := 9) (ci := 9) (f := 0) (by decide +kernel) (by decide +kernel) hL.1 rfl ?_
    refine aw_alen (by decide +kernel) hL.2.1 (fun r11 => ?_)
    refine aw_icmp_ge (o := 31) (tgt := 43) (by decide +kernel) (by decide) (by omega) (by omega) (fun _ => ?_) (fun c => absurd (by omega) c)
    refine aw_blk (pc' := 44) (ls' := [some (vr 9 k), some (vi a), some (vl (upW at_ wt a n)), none, some (vi (n : Int))]) (st' := [vl (upW at_ wt a n)]) [.inl (.lload_n 2)] 43 _ _ (by decide +kernel) rfl ?_
    exact aw_lret (by decide +kernel) rfl (by decide) (by decide) (hq _ _ rfl rfl)
  · refine aw_blk (pc' := 8) (ls' := [some (vr 9 k), some (vi a), some (vl (upW at_ wt a i)), none, some (vi (i : Int))]) (st' := [vr 9 k, vi (i : Int)]) [.inl (.iload 4), .inl (.aload_n 0)] 5 _ _ (by decide +kernel) rfl ?_
    refine aw_get (idx := 9) (ci := 9) (f := 0) (by decide +kernel) (by decide +kernel) hL.1 rfl ?_
    refine aw_alen (by decide +kernel) hL.2.1 (fun r11 => ?_)
    refine aw_icmp_ge (o := 31) (tgt := 43) (by decide +kernel) (by decide) (by omega) (by omega) (fun c => absurd c (by omega)) (fun _ => ?_)
    refine aw_blk (pc' := 16) (ls' := [some (vr 9 k), some (vi a), some (vl (upW at_ wt a i)), none, some (vi (i : Int))]) (st' := [vr 9 k]) [.inl (.aload_n 0)] 15 _ _ (by decide +kernel) rfl ?_
    refine aw_get (idx := 9) (ci := 9) (f := 0) (by decide +kernel) (by decide +kernel) hL.1 rfl ?_
    refine aw_blk (pc' := 21) (ls' := [some (vr 9 k), some (vi a), some (vl (upW at_ wt a i)), none, some (vi (i : Int))]) (st' := [vi (i : Int), vr 9 k1]) [.inl (.iload 4)] 19 _ _ (by decide +kernel) rfl ?_
    refine aw_iald (j := i) (by decide +kernel) hL.2.1 (by omega) (by omega) (fun r21 => ?_)
    refine aw_blk (pc' := 23) (ls' := [some (vr 9 k), some (vi a), some (vl (upW at_ wt a i)), none, some (vi (i : Int))]) (st' := [vi a, vi (at_ i)]) [.inl (.iload_n 1)] 22 _ _ (by decide +kernel) rfl ?_
    refine aw_icmp_gt (o := 20) (tgt := 43) (by decide +kernel) (by decide) (by omega) (by omega) (fun c23 => ?_) (fun c23 => ?_)
    · refine aw_blk (pc' := 44) (ls' := [some (vr 9 k), some (vi a), some (vl (upW at_ wt a i)), none, some (vi (i : Int))]) (st' := [vl (upW at_ wt a i)]) [.inl (.lload_n 2)] 43 _ _ (by decide +kernel) rfl ?_
      exact aw_lret (by decide +kernel) rfl (by decide) (by decide) (hq _ _ (by rw [upW_stop hs hi c23]) rfl)
    · refine aw_blk (pc' := 28) (ls' := [some (vr 9 k), some (vi a), some (vl (upW at_ wt a i)), none, some (vi (i : Int))]) (st' := [vr 9 k, vl (upW at_ wt a i)]) [.inl (.lload_n 2), .inl (.aload_n 0)] 26 _ _ (by decide +kernel) rfl ?_
      refine aw_get (idx := 15) (ci := 9) (f := 1) (by decide +kernel) (by decide +kernel) hL.1 rfl ?_
      refine aw_blk (pc' := 33) (ls' := [some (vr 9 k), some (vi a), some (vl (upW at_ wt a i)), none, some (vi (i : Int))]) (st' := [vi (i : Int), vr 9 k2, vl (upW at_ wt a i)]) [.inl (.iload 4)] 31 _ _ (by decide +kernel) rfl ?_
      refine aw_iald (j := i) (by decide +kernel) hL.2.2 (by omega) (by omega) (fun r33 => ?_)
      refine aw_i2l (by decide +kernel) (by omega) ?_
      refine aw_blk (pc' := 40) (ls' := [some (vr 9 k), some (vi a), some (vl ((upW at_ wt a i) + (wt i))), none, some (vi ((i : Int) + 1))]) (st' := []) [.inl (.ladd), .inl (.lstore_n 2), .inl (.iinc 4 1)] 35 _ _ (by decide +kernel) rfl ?_
      refine aw_goto (o := -35) (tgt := 5) (by decide +kernel) (by decide) ?_
      exact aw_eq (by rw [upW, if_pos (by omega)]; rfl) rfl rfl ih

/-- how many of the first n numbers of a rising row are below v -/
def lb (f : Nat → Int) (v : Int) : Nat → Nat
  | 0 => 0
  | n + 1 => if f n < v then n + 1 else lb f v n
theorem lb_le (f : Nat → Int) (v : Int) : ∀ n, lb f v n ≤ n
  | 0 => Nat.le_refl 0
  | n + 1 => by rw [lb]; split; exact Nat.le_refl _; have := lb_le f v n; omega
theorem lb_ge {v : Int} : ∀ {n i : Nat}, lb f v n ≤ i → i < n → v ≤ f i
  | 0, i, _, h => by omega
  | n + 1, i, h1, h2 => by
    rw [lb] at h1
    split at h1
    · omega
    · rcases Nat.lt_or_ge i n with z | z
      · exact lb_ge h1 z
      · have : i = n := by omega
        subst this; omega
theorem lb_lt {v : Int} : ∀ {n i : Nat}, inc f n → i < lb f v n → f i < v
  | 0, i, _, h => by simp [lb] at h
  | n + 1, i, hs, h => by
    rw [lb] at h
    split at h
    · rename_i hc
      rcases Nat.lt_or_ge i n with z | z
      · have := hs i n z (by omega); omega
      · have : i = n := by omega
        subst this; exact hc
    · exact lb_lt (fun i j a b => hs i j a (by omega)) h
theorem lb_uniq {v : Int} {n p : Nat} (hs : inc f n) (hp : p ≤ n) (h1 : ∀ i, i < p → f i < v) (h2 : ∀ i, p ≤ i → i < n → v ≤ f i) : lb f v n = p := by
  rcases Nat.lt_trichotomy (lb f v n) p with z | z | z
  · have a := h1 _ z
    have b := lb_ge (f := f) (v := v) (n := n) (i := lb f v n) (Nat.le_refl _) (by omega)
    omega
  · exact z
  · have a := lb_lt hs z
    have b := h2 p (Nat.le_refl p) (by have := lb_le f v n; omega)
    omega
theorem inc_ge {v : Int} {i j : Nat} (hs : inc f n) (h1 : j ≤ i) (h2 : i < n) (h3 : v ≤ f j) : v ≤ f i := by
  rcases Nat.lt_or_ge j i with z | z
  · have := hs j i z h2; omega
  · have : i = j := by omega
    subst this; exact h3
theorem inc_lt {v : Int} {i j : Nat} (hs : inc f n) (h1 : i ≤ j) (h2 : j < n) (h3 : f j < v) : f i < v := by
  rcases Nat.lt_or_ge i j with z | z
  · have := hs i j z h2; omega
  · have : i = j := by omega
    subst this; exact h3
theorem lsN5 {v0 v1 v2 v3 v4 : AV} {v5 : Option AV} : ∀ (k : Nat) (v : AV), ([some v0, some v1, some v2, some v3, some v4, none] : LSt)[k]? = some (some v) → ([some v0, some v1, some v2, some v3, some v4, v5] : LSt)[k]? = some (some v) := by
  intro k v h
  match k, h with
  | 0, h => exact h
  | 1, h => exact h
  | 2, h => exact h
  | 3, h => exact h
  | 4, h => exact h
  | k + 5, h => cases k <;> simp at h
theorem l_B_placeIn {Qr : Option AV → HT → Prop} {Qt : HT → Prop} (hq : ∀ x g, x = some (vi ((lb f a m : Nat) : Int)) → g = h → Qr x g) (hg : hget h k1 k2 = some (ar 0 n f)) (hn : (n : Int) ≤ 2147483647) (hm : m ≤ n) (hs : inc f m) (ha : I32 a) : ∀ (d p q : Nat) (x5 : Option AV), q - p ≤ d → p ≤ q → q ≤ m → (∀ i, i < p → f i < a) → (∀ i, q ≤ i → i < m → a ≤ f i) → AW G M_B_placeIn Qr Qt 0 0 16 [some (vr k1 k2), some (vi (m : Int)), some (vi a), some (vi (p : Int)), some (vi (q : Int)), x5] [] h := by
  intro d
  induction d with
  | zero =>
    intro p q x5 hd h1 h2 h3 h4
    have : p = q := by omega
    subst this
    refine aw_ls (ls' := [some (vr k1 k2), some (vi (m : Int)), some (vi a), some (vi (p : Int)), some (vi (p : Int)), none]) (lsN5) ?_
    refine aw_blk (pc' := 19) (ls' := [some (vr k1 k2), some (vi (m : Int)), some (vi a), some (vi (p : Int)), some (vi (p : Int)), none]) (st' := [vi (p : Int), vi (p : Int)]) [.inl (.iload_n 3), .inl (.iload 4)] 16 _ _ (by decide +kernel) rfl ?_
    refine aw_icmp_ge (o := 34) (tgt := 53) (by decide +kernel) (by decide) (by omega) (by omega) (fun _ => ?_) (fun c => absurd (by omega) c)
    refine aw_blk (pc' := 54) (ls' := [some (vr k1 k2), some (vi (m : Int)), some (vi a), some (vi (p : Int)), some (vi (p : Int)), none]) (st' := [vi (p : Int)]) [.inl (.iload_n 3)] 53 _ _ (by decide +kernel) rfl ?_
    exact aw_iret (by decide +kernel) rfl (by decide) (by decide) (hq _ _ (by rw [lb_uniq hs (by omega) h3 h4]) rfl)
  | succ d ih =>
    intro p q x5 hd h1 h2 h3 h4
    refine aw_ls (ls' := [some (vr k1 k2), some (vi (m : Int)), some (vi a), some (vi (p : Int)), some (vi (q : Int)), none]) (lsN5) ?_
    refine aw_blk (pc' := 19) (ls' := [some (vr k1 k2), some (vi (m : Int)), some (vi a), some (vi (p : Int)), some (vi (q : Int)), none]) (st' := [vi (q : Int), vi (p : Int)]) [.inl (.iload_n 3), .inl (.iload 4)] 16 _ _ (by decide +kernel) rfl ?_
    refine aw_icmp_ge (o := 34) (tgt := 53) (by decide +kernel) (by decide) (by omega) (by omega) (fun c19 => ?_) (fun c19 => ?_)
    · have : p = q := by omega
      subst this
      refine aw_blk (pc' := 54) (ls' := [some (vr k1 k2), some (vi (m : Int)), some (vi a), some (vi (p : Int)), some (vi (p : Int)), none]) (st' := [vi (p : Int)]) [.inl (.iload_n 3)] 53 _ _ (by decide +kernel) rfl ?_
      exact aw_iret (by decide +kernel) rfl (by decide) (by decide) (hq _ _ (by rw [lb_uniq hs (by omega) h3 h4]) rfl)
    · refine aw_blk (pc' := 27) (ls' := [some (vr k1 k2), some (vi (m : Int)), some (vi a), some (vi (p : Int)), some (vi (q : Int)), none]) (st' := [vi 1, vi ((p : Int) + (q : Int))]) [.inl (.iload_n 3), .inl (.iload 4), .inl (.iadd), .inl (.iconst 1)] 22 _ _ (by decide +kernel) rfl ?_
      refine aw_ushr (p9 := 2) 1 (by decide +kernel) rfl (by decide) (by decide) ?_
      rw [show ((p : Int) + (q : Int)) % 4294967296 / 2 = (((p + q) / 2 : Nat) : Int) by omega]
      refine aw_blk (pc' := 33) (ls' := [some (vr k1 k2), some (vi (m : Int)), some (vi a), some (vi (p : Int)), some (vi (q : Int)), some (vi (((p + q) / 2 : Nat) : Int))]) (st' := [vi (((p + q) / 2 : Nat) : Int), vr k1 k2]) [.inl (.istore 5), .inl (.aload_n 0), .inl (.iload 5)] 28 _ _ (by decide +kernel) rfl ?_
      refine aw_iald (j := (p + q) / 2) (by decide +kernel) hg rfl (by omega) (fun r33 => ?_)
      refine aw_blk (pc' := 35) (ls' := [some (vr k1 k2), some (vi (m : Int)), some (vi a), some (vi (p : Int)), some (vi (q : Int)), some (vi (((p + q) / 2 : Nat) : Int))]) (st' := [vi a, vi (f ((p + q) / 2))]) [.inl (.iload_n 2)] 34 _ _ (by decide +kernel) rfl ?_
      refine aw_icmp_ge (o := 11) (tgt := 46) (by decide +kernel) (by decide) (by omega) (by omega) (fun c35 => ?_) (fun c35 => ?_)
      · refine aw_blk (pc' := 50) (ls' := [some (vr k1 k2), some (vi (m : Int)), some (vi a), some (vi (p : Int)), some (vi (((p + q) / 2 : Nat) : Int)), some (vi (((p + q) / 2 : Nat) : Int))]) (st' := []) [.inl (.iload 5), .inl (.istore 4)] 46 _ _ (by decide +kernel) rfl ?_
        refine aw_goto (o := -34) (tgt := 16) (by decide +kernel) (by decide) ?_
        exact ih p ((p + q) / 2) _ (by omega) (by omega) (by omega) h3 (fun i hi hj => by rcases Nat.lt_or_ge i q with z | z; exact inc_ge hs (by omega) (by omega) c35; exact h4 i z hj)
      · refine aw_blk (pc' := 43) (ls' := [some (vr k1 k2), some (vi (m : Int)), some (vi a), some (vi ((((p + q) / 2 : Nat) : Int) + 1)), some (vi (q : Int)), some (vi (((p + q) / 2 : Nat) : Int))]) (st' := []) [.inl (.iload 5), .inl (.iconst 1), .inl (.iadd), .inl (.istore_n 3)] 38 _ _ (by decide +kernel) rfl ?_
        refine aw_goto (o := 7) (tgt := 50) (by decide +kernel) (by decide) ?_
        refine aw_goto (o := -34) (tgt := 16) (by decide +kernel) (by decide) ?_
        exact aw_eq (by rw [show ((((p + q) / 2 : Nat) : Int) + 1) = (((p + q) / 2 + 1 : Nat) : Int) from rfl]) rfl rfl (ih ((p + q) / 2 + 1) q _ (by omega) (by omega) (by omega) (fun i hi => inc_lt (j := (p + q) / 2) hs (by omega) (by omega) (by omega)) h4)
theorem m_B_placeIn (hg : hget h k1 k2 = some (ar 0 n f)) (hm : m ≤ n) (hn : n ≤ 2147483647) (hs : inc f m) (ha : I32 a) : ADet G M_B_placeIn [vr k1 k2, vi (m : Int), vi a] h (some (vi ((lb f a m : Nat) : Int))) h := by
  refine am_det (by decide +kernel) (Nat.le_of_ble_eq_true rfl) (fun Qr Qt hq => ?_)
  refine aw_blk (pc' := 4) (ls' := [some (vr k1 k2), some (vi (m : Int)), some (vi a), some (vi 0), none, none]) (st' := [vr k1 k2, vi (m : Int)]) [.inl (.iconst 0), .inl (.istore_n 3), .inl (.iload_n 1), .inl (.aload_n 0)] 0 _ _ (by decide +kernel) rfl ?_
  refine aw_alen (by decide +kernel) hg (fun r4 => ?_)
  refine aw_icmp_ge (o := 7) (tgt := 12) (by decide +kernel) (by decide) (by omega) (by omega) (fun c5 => ?_) (fun c5 => ?_)
  · have hmn : m = n := by omega
    refine aw_blk (pc' := 13) (ls' := [some (vr k1 k2), some (vi (m : Int)), some (vi a), some (vi 0), none, none]) (st' := [vr k1 k2]) [.inl (.aload_n 0)] 12 _ _ (by decide +kernel) rfl ?_
    refine aw_alen (by decide +kernel) hg (fun r13 => ?_)
    refine aw_blk (pc' := 16) (ls' := [some (vr k1 k2), some (vi (m : Int)), some (vi a), some (vi 0), some (vi (n : Int)), none]) (st' := []) [.inl (.istore 4)] 14 _ _ (by decide +kernel) rfl ?_
    exact aw_eq (by rw [hmn]; rfl) rfl rfl (l_B_placeIn hq hg r4 hm hs ha m 0 m none (by omega) (by omega) (by omega) (fun i hi => by omega) (fun i hi hj => by omega))
  · refine aw_blk (pc' := 9) (ls' := [some (vr k1 k2), some (vi (m : Int)), some (vi a), some (vi 0), none, none]) (st' := [vi (m : Int)]) [.inl (.iload_n 1)] 8 _ _ (by decide +kernel) rfl ?_
    refine aw_goto (o := 5) (tgt := 14) (by decide +kernel) (by decide) ?_
    refine aw_blk (pc' := 16) (ls' := [some (vr k1 k2), some (vi (m : Int)), some (vi a), some (vi 0), some (vi (m : Int)), none]) (st' := []) [.inl (.istore 4)] 14 _ _ (by decide +kernel) rfl ?_
    exact l_B_placeIn hq hg r4 hm hs ha m 0 m none (by omega) (by omega) (by omega) (fun i hi => by omega) (fun i hi hj => by omega)

end
