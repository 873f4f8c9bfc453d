/-- the pairs of dice of a law, in their order -/
def dcL (at_ wt : Nat → Int) (n : Nat) (W : Int) (nf mf : Nat) : DL := if Int.tmod ((nf : Int) * (mf : Int)) W = 0 then ext (fun u => den at_ wt n u * Int.tdiv ((nf : Int) * (mf : Int)) W) nf mf (at_ 0) 10 [0] [at_ 0] 6000 else []
theorem pb_up : ∀ (d p q : Nat), pb p q ≤ pb (p + d) q
  | 0, _, _ => Nat.le_refl _
  | d + 1, p, q => Nat.le_trans (pb_up d p q) (by have := pb_A (p := p + d + 1) (q := q) (by omega); exact this)
theorem pb_up2 : ∀ (d p q : Nat), pb p q ≤ pb p (q + d)
  | 0, _, _ => Nat.le_refl _
  | d + 1, p, q => Nat.le_trans (pb_up2 d p q) (by have := pb_B (p := p) (q := q + d + 1) (by omega); exact this)
theorem pb_66 : ∀ p q : Fin 6, pb p.val q.val ≤ 252 := fun p q => by
  have a := pb_up (5 - p.val) p.val q.val
  have b := pb_up2 (5 - q.val) 5 q.val
  have e : pb 5 5 = 252 := by simp [pb]
  rw [show p.val + (5 - p.val) = 5 by omega] at a
  rw [show q.val + (5 - q.val) = 5 by omega] at b
  omega
theorem dcL_len {at_ wt : Nat → Int} {n nf mf : Nat} {W : Int} (h1 : 1 ≤ nf ∧ nf ≤ 6) (h2 : 1 ≤ mf ∧ mf ≤ 6) : (dcL at_ wt n W nf mf).length ≤ 252 := by
  unfold dcL
  split
  · have a := ext_len (fun u => den at_ wt n u * Int.tdiv ((nf : Int) * (mf : Int)) W) nf mf (at_ 0) 10 [0] [at_ 0] 6000
    have b := pb_66 ⟨nf - 1, by omega⟩ ⟨mf - 1, by omega⟩
    simp only [List.length_cons, List.length_nil] at a b
    exact Nat.le_trans a b
  · simp
section
variable {G : GT} {h : HT} {b s t mk df jo tr di mo dy : SG} {a c d e B bd tk : Int} {n m k k1 k2 q q1 q2 j nn len : Nat} {f g ff gg ft at_ wt at2 wt2 : Nat → Int} {rf rr W W2 : Int} {T : Int → Int} {by_ : Prop} {laws ahead made : Nat → Option (Nat × Nat)} {slot : Nat → Int} {od dn un : Nat}
variable {kp fi se ta tl : Nat → Int} {fd f1 f2 : Int} {nf mf F l9 : Nat}
theorem src_S (A : lwN n at_ wt W) (h1 : 1 ≤ nf ∧ nf ≤ 6) (h2 : 1 ≤ mf ∧ mf ≤ 6) (hd : Int.tmod ((nf : Int) * (mf : Int)) W = 0) : 1 ≤ Int.tdiv ((nf : Int) * (mf : Int)) W ∧ Int.tdiv ((nf : Int) * (mf : Int)) W ≤ 36 ∧ W * Int.tdiv ((nf : Int) * (mf : Int)) W = (nf : Int) * (mf : Int) ∧ 1 ≤ (nf : Int) * (mf : Int) ∧ (nf : Int) * (mf : Int) ≤ 36 := by
  have a := A.2.2.2
  have b : 1 ≤ (nf : Int) * (mf : Int) := by have := Int.mul_le_mul (show (1 : Int) ≤ (nf : Int) by omega) (show (1 : Int) ≤ (mf : Int) by omega) (by omega) (by omega); omega
  have c : (nf : Int) * (mf : Int) ≤ 36 := by have := Int.mul_le_mul (show (nf : Int) ≤ 6 by omega) (show (mf : Int) ≤ 6 by omega) (by omega) (by omega); omega
  have e := Int.mul_tdiv_add_tmod ((nf : Int) * (mf : Int)) W
  rw [hd, Int.add_zero] at e
  have f := tdiv_nn (x := (nf : Int) * (mf : Int)) (y := W) (B := 36) (by omega) c a.1
  refine ⟨?_, f.2, e, b, c⟩
  rcases Int.lt_or_le (Int.tdiv ((nf : Int) * (mf : Int)) W) 1 with z | z
  · have : Int.tdiv ((nf : Int) * (mf : Int)) W = 0 := by omega
    rw [this, Int.mul_zero] at e; omega
  · exact z
theorem src_dS (A : lwN n at_ wt W) (h1 : 1 ≤ nf ∧ nf ≤ 6) (h2 : 1 ≤ mf ∧ mf ≤ 6) (hd : Int.tmod ((nf : Int) * (mf : Int)) W = 0) : dS (fun u => den at_ wt n u * Int.tdiv ((nf : Int) * (mf : Int)) W) (mp at_ ta n) n nf mf (at_ 0) := by
  obtain ⟨q1, q2, q3, q4, q5⟩ := src_S A h1 h2 hd
  have a1 := A.2.2.2
  have hn := A.1
  refine ⟨⟨hn.2, fun i j hij hj => ?_, fun i hi => ?_⟩, fun u => ⟨Int.mul_nonneg (lw_nn A u) (by omega), ?_⟩, fun u hu => ?_, h1, h2, (A.2.2.1 0 (by omega)).1⟩
  · rw [mp_lt hj, mp_lt (show i < n by omega)]; exact A.2.1 i j hij hj
  · rw [mp_lt hi]; exact (A.2.2.1 i hi).1
  · have d1 := den_le (f := at_) (u := u) (n := n) (g := wt) (fun i hi => by have := (A.2.2.1 i hi).2; omega)
    rw [← A.2.2.2.2.2] at d1
    have := Int.mul_le_mul_of_nonneg_right d1 (show 0 ≤ Int.tdiv ((nf : Int) * (mf : Int)) W by omega)
    show den at_ wt n u * _ ≤ _
    omega
  · change 0 < den at_ wt n u * _ at hu
    rcases Classical.em (∃ i, i < n ∧ at_ i = u) with ⟨i, hi, e⟩ | h
    · exact ⟨i, hi, by rw [mp_lt hi]; exact e⟩
    · rw [den_0 (fun i hi e => h ⟨i, hi, e⟩)] at hu; omega
theorem src_0 (A : lwN n at_ wt W) (h1 : 1 ≤ nf ∧ nf ≤ 6) (h2 : 1 ≤ mf ∧ mf ≤ 6) (hd : Int.tmod ((nf : Int) * (mf : Int)) W = 0) : 1 ≤ den at_ wt n (at_ 0) * Int.tdiv ((nf : Int) * (mf : Int)) W := by
  obtain ⟨q1, q2, q3, q4, q5⟩ := src_S A h1 h2 hd
  have hn := A.1
  rw [den_at A.2.1 (by omega)]
  have := Int.mul_le_mul (A.2.2.1 0 (by omega)).2.1 q1 (by omega) (by have := (A.2.2.1 0 (by omega)).2.1; omega)
  omega
theorem src_dP (A : lwN n at_ wt W) (h1 : 1 ≤ nf ∧ nf ≤ 6) (h2 : 1 ≤ mf ∧ mf ≤ 6) (hd : Int.tmod ((nf : Int) * (mf : Int)) W = 0) : dP (fun u => den at_ wt n u * Int.tdiv ((nf : Int) * (mf : Int)) W) nf mf (at_ 0) [0] [at_ 0] := by
  obtain ⟨q1, q2, q3, q4, q5⟩ := src_S A h1 h2 hd
  have hn := A.1
  have hr := (A.2.2.1 0 (by omega)).1
  refine ⟨rfl, rfl, by simp; omega, by simp; omega, fun v hv => ?_, fun v hv => ?_, fun u => ?_⟩
  · rw [List.mem_singleton.mp hv]; omega
  · rw [List.mem_singleton.mp hv]; omega
  · unfold rem_
    simp only [sm, cB]
    have h0 := src_0 A h1 h2 hd
    by_cases e : at_ 0 = u - 0
    · rw [if_pos e]
      have e' : u = at_ 0 := by omega
      subst e'; omega
    · rw [if_neg e]; have := Int.mul_nonneg (lw_nn A u) (show 0 ≤ Int.tdiv ((nf : Int) * (mf : Int)) W by omega); omega
theorem src_dV (A : lwN n at_ wt W) {Q : Int} : dV (fun u => den at_ wt n u * Q) (mp at_ ta n) n [0] [at_ 0] (va_up fi 0 0) (va_up se 0 (at_ 0)) (va_up (mp (fun k => wt k * Q) tl n) 0 (wt 0 * Q - 1)) := by
  refine ⟨fun j v hj => ?_, fun j v hj => ?_, fun i hi => ?_⟩
  · cases j with
    | zero => simp at hj; subst hj; simp [va_up]
    | succ j => simp at hj
  · cases j with
    | zero => simp at hj; subst hj; simp [va_up]
    | succ j => simp at hj
  · unfold rem_
    simp only [sm, cB, va_up]
    rw [mp_lt (f := at_) (g := ta) hi, den_at A.2.1 hi]
    by_cases e : i = 0
    · subst e; rw [if_pos rfl, if_pos (by omega)]; omega
    · rw [if_neg e, mp_lt hi, if_neg (by have := A.2.1 0 i (by omega) hi; omega)]; omega
theorem m_D_search (hA : isD dy k k1 k2 n at_ wt W) (A : lwN n at_ wt W) (h1 : 1 ≤ nf ∧ nf ≤ 6) (h2 : 1 ≤ mf ∧ mf ≤ 6) : AMet G M_D_search [vr 7 0, vr 9 k, vi (nf : Int), vi (mf : Int)] (Hp b s t mk df jo tr (sgD (l9 : Int) fd f1 f2 kp fi se ta tl) mo dy) (fun r h => r = none ∧ ∃ (l9 : Nat) (kp fi se ta tl : Nat → Int), rows kp 0 (dcL at_ wt n W nf mf) ∧ h = Hp b s t mk df jo tr (sgD (l9 : Int) ((dcL at_ wt n W nf mf).length : Int) (nf : Int) (mf : Int) kp fi se ta tl) mo dy) (fun _ => False) := by
  refine am_rel (by decide +kernel) (Nat.le_of_ble_eq_true rfl) (fun Qr Qt hq => ?_)
  have a1 := A.2.2.2
  have hn := A.1
  have hpq : 1 ≤ (nf : Int) * (mf : Int) ∧ (nf : Int) * (mf : Int) ≤ 36 := ⟨by have := Int.mul_le_mul (show (1 : Int) ≤ (nf : Int) by omega) (show (1 : Int) ≤ (mf : Int) by omega) (by omega) (by omega); omega, by have := Int.mul_le_mul (show (nf : Int) ≤ 6 by omega) (show (mf : Int) ≤ 6 by omega) (by omega) (by omega); omega⟩
  refine aw_blk (pc' := 2) (ls' := [some (vr 7 0), some (vr 9 k), some (vi (nf : Int)), some (vi (mf : Int)), none, none]) (st' := [vi 0, vr 7 0]) [.inl (.aload_n 0), .inl (.iconst 0)] 0 _ _ (by decide +kernel) rfl ?_
  refine aw_put (idx := 31) (ci := 7) (k := 6) (h' := Hp b s t mk df jo tr [some (ob 7 [vr 7 1, vr 7 2, vr 7 3, vr 7 4, vr 7 5, vi (l9 : Int), vi 0, vi f1, vi f2]), some (ar 0 3024 kp), some (ar 0 6 fi), some (ar 0 6 se), some (ar 0 24 ta), some (ar 0 24 tl)] mo dy) (by decide +kernel) (by decide +kernel) rfl (Nat.le_of_ble_eq_true rfl) (show I32 _ from by omega) rfl ?_
  refine aw_blk (pc' := 9) (ls' := [some (vr 7 0), some (vr 9 k), some (vi (nf : Int)), some (vi (mf : Int)), none, none]) (st' := [vi 6, vi (nf : Int), vr 7 0]) [.inl (.aload_n 0), .inl (.iload_n 2), .inl (.bipush 6)] 5 _ _ (by decide +kernel) rfl ?_
  refine aw_mmin (idx := 44) (by decide +kernel) (by decide +kernel) (Nat.le_of_ble_eq_true rfl) (by decide) (by decide) (by decide) (by omega) (by omega) ?_
  rw [if_neg (show ¬ (6 : Int) < (nf : Int) by omega)]
  refine aw_put (idx := 34) (ci := 7) (k := 7) (h' := Hp b s t mk df jo tr [some (ob 7 [vr 7 1, vr 7 2, vr 7 3, vr 7 4, vr 7 5, vi (l9 : Int), vi 0, vi (nf : Int), vi f2]), some (ar 0 3024 kp), some (ar 0 6 fi), some (ar 0 6 se), some (ar 0 24 ta), some (ar 0 24 tl)] mo dy) (by decide +kernel) (by decide +kernel) rfl (Nat.le_of_ble_eq_true rfl) (show I32 _ from by omega) rfl ?_
  refine aw_blk (pc' := 19) (ls' := [some (vr 7 0), some (vr 9 k), some (vi (nf : Int)), some (vi (mf : Int)), none, none]) (st' := [vi 6, vi (mf : Int), vr 7 0]) [.inl (.aload_n 0), .inl (.iload_n 3), .inl (.bipush 6)] 15 _ _ (by decide +kernel) rfl ?_
  refine aw_mmin (idx := 44) (by decide +kernel) (by decide +kernel) (Nat.le_of_ble_eq_true rfl) (by decide) (by decide) (by decide) (by omega) (by omega) ?_
  rw [if_neg (show ¬ (6 : Int) < (mf : Int) by omega)]
  refine aw_put (idx := 37) (ci := 7) (k := 8) (h' := Hp b s t mk df jo tr [some (ob 7 [vr 7 1, vr 7 2, vr 7 3, vr 7 4, vr 7 5, vi (l9 : Int), vi 0, vi (nf : Int), vi (mf : Int)]), some (ar 0 3024 kp), some (ar 0 6 fi), some (ar 0 6 se), some (ar 0 24 ta), some (ar 0 24 tl)] mo dy) (by decide +kernel) (by decide +kernel) rfl (Nat.le_of_ble_eq_true rfl) (show I32 _ from by omega) rfl ?_
  refine aw_blk (pc' := 37) (ls' := [some (vr 7 0), some (vr 9 k), some (vi (nf : Int)), some (vi (mf : Int)), some (vi ((nf : Int) * (mf : Int))), none]) (st' := [vr 9 k]) [.inl (.aload_n 0), .inr (34, 7, 7), .inl (.aload_n 0), .inr (37, 7, 8), .inl (.imul), .inl (.istore 4), .inl (.aload_n 1)] 25 _ _ (by decide +kernel) rfl ?_
  refine aw_get (idx := 50) (ci := 9) (f := 2) (by decide +kernel) (by decide +kernel) hA.1 rfl ?_
  refine aw_blk (pc' := 41) (ls' := [some (vr 7 0), some (vr 9 k), some (vi (nf : Int)), some (vi (mf : Int)), some (vi ((nf : Int) * (mf : Int))), none]) (st' := [vi 1, vi W]) [.inl (.iconst 1)] 40 _ _ (by decide +kernel) rfl ?_
  refine aw_icmp_lt (o := 13) (tgt := 54) (by decide +kernel) (by decide) (by omega) (by omega) (fun c => absurd c (by omega)) (fun _ => ?_)
  refine aw_blk (pc' := 47) (ls' := [some (vr 7 0), some (vr 9 k), some (vi (nf : Int)), some (vi (mf : Int)), some (vi ((nf : Int) * (mf : Int))), none]) (st' := [vr 9 k, vi ((nf : Int) * (mf : Int))]) [.inl (.iload 4), .inl (.aload_n 1)] 44 _ _ (by decide +kernel) rfl ?_
  refine aw_get (idx := 50) (ci := 9) (f := 2) (by decide +kernel) (by decide +kernel) hA.1 rfl ?_
  refine aw_irem (by decide +kernel) (by omega) (by omega) (by omega) ?_
  have hmd := tmod_nn (x := (nf : Int) * (mf : Int)) (y := W) (by omega) (by omega)
  refine aw_if_eq (o := 4) (tgt := 55) (by decide +kernel) (by decide) (by omega) (fun c51 => ?_) (fun c51 => ?_)
  · obtain ⟨hq1, hq2, hq3, _, _⟩ := src_S A h1 h2 c51
    refine aw_blk (pc' := 57) (ls' := [some (vr 7 0), some (vr 9 k), some (vi (nf : Int)), some (vi (mf : Int)), some (vi ((nf : Int) * (mf : Int))), none]) (st' := [vr 9 k, vr 7 0]) [.inl (.aload_n 0), .inl (.aload_n 1)] 55 _ _ (by decide +kernel) rfl ?_
    refine aw_get (idx := 55) (ci := 9) (f := 0) (by decide +kernel) (by decide +kernel) hA.1 rfl ?_
    refine aw_alen (by decide +kernel) hA.2.1 (fun r60 => ?_)
    refine aw_blk (pc' := 63) (ls' := [some (vr 7 0), some (vr 9 k), some (vi (nf : Int)), some (vi (mf : Int)), some (vi ((nf : Int) * (mf : Int))), none]) (st' := [vi 24, vi (n : Int), vr 7 0]) [.inl (.bipush 24)] 61 _ _ (by decide +kernel) rfl ?_
    refine aw_mmin (idx := 44) (by decide +kernel) (by decide +kernel) (Nat.le_of_ble_eq_true rfl) (by decide) (by decide) (by decide) (by omega) (by omega) ?_
    rw [if_neg (show ¬ (24 : Int) < (n : Int) by omega)]
    refine aw_put (idx := 27) (ci := 7) (k := 5) (h' := Hp b s t mk df jo tr [some (ob 7 [vr 7 1, vr 7 2, vr 7 3, vr 7 4, vr 7 5, vi (n : Int), vi 0, vi (nf : Int), vi (mf : Int)]), some (ar 0 3024 kp), some (ar 0 6 fi), some (ar 0 6 se), some (ar 0 24 ta), some (ar 0 24 tl)] mo dy) (by decide +kernel) (by decide +kernel) rfl (Nat.le_of_ble_eq_true rfl) (show I32 _ from by omega) rfl ?_
    refine aw_blk (pc' := 72) (ls' := [some (vr 7 0), some (vr 9 k), some (vi (nf : Int)), some (vi (mf : Int)), some (vi ((nf : Int) * (mf : Int))), some (vi 0)]) (st' := []) [.inl (.iconst 0), .inl (.istore 5)] 69 _ _ (by decide +kernel) rfl ?_
    refine aw_eq (h' := Hp b s t mk df jo tr [some (ob 7 [vr 7 1, vr 7 2, vr 7 3, vr 7 4, vr 7 5, vi (n : Int), vi 0, vi (nf : Int), vi (mf : Int)]), some (ar 0 3024 kp), some (ar 0 6 fi), some (ar 0 6 se), some (ar 0 24 (mp at_ ta 0)), some (ar 0 24 (mp (fun k => wt k * Int.tdiv ((nf : Int) * (mf : Int)) W) tl 0))] mo dy) rfl rfl (by rw [mp_0, mp_0]) ?_
    refine up_to (W := fun i : Nat => AW G M_D_search Qr Qt 0 0 72 [some (vr 7 0), some (vr 9 k), some (vi (nf : Int)), some (vi (mf : Int)), some (vi ((nf : Int) * (mf : Int))), some (vi (i : Int))] [] (Hp b s t mk df jo tr [some (ob 7 [vr 7 1, vr 7 2, vr 7 3, vr 7 4, vr 7 5, vi (n : Int), vi 0, vi (nf : Int), vi (mf : Int)]), some (ar 0 3024 kp), some (ar 0 6 fi), some (ar 0 6 se), some (ar 0 24 (mp at_ ta i)), some (ar 0 24 (mp (fun k => wt k * Int.tdiv ((nf : Int) * (mf : Int)) W) tl i))] mo dy)) n ?_ (fun i hi ih => ?_) 0 (by omega)
    · refine aw_blk (pc' := 78) (ls' := [some (vr 7 0), some (vr 9 k), some (vi (nf : Int)), some (vi (mf : Int)), some (vi ((nf : Int) * (mf : Int))), some (vi (n : Int))]) (st' := [vi (n : Int), vi (n : Int)]) [.inl (.iload 5), .inl (.aload_n 0), .inr (27, 7, 5)] 72 _ _ (by decide +kernel) rfl ?_
      refine aw_icmp_ge (o := 45) (tgt := 123) (by decide +kernel) (by decide) (by omega) (by omega) (fun _ => ?_) (fun c => absurd (by omega) c)
      have ea : mp at_ ta n 0 = at_ 0 := mp_lt (by omega)
      have et : mp (fun k => wt k * Int.tdiv ((nf : Int) * (mf : Int)) W) tl n 0 = wt 0 * Int.tdiv ((nf : Int) * (mf : Int)) W := mp_lt (by omega)
      have ha0 := A.2.2.1 0 (by omega)
      have hm0 : 1 ≤ wt 0 * Int.tdiv ((nf : Int) * (mf : Int)) W ∧ wt 0 * Int.tdiv ((nf : Int) * (mf : Int)) W ≤ 100000000 := ⟨by have := Int.mul_le_mul ha0.2.1 hq1 (by omega) (by omega); omega, by have := Int.mul_le_mul (show wt 0 ≤ 1048576 by omega) hq2 (by omega) (by omega); omega⟩
      refine aw_blk (pc' := 129) (ls' := [some (vr 7 0), some (vr 9 k), some (vi (nf : Int)), some (vi (mf : Int)), some (vi ((nf : Int) * (mf : Int))), some (vi (n : Int))]) (st' := [vi 0, vi 0, vr 7 2]) [.inl (.aload_n 0), .inr (15, 7, 1), .inl (.iconst 0), .inl (.iconst 0)] 123 _ _ (by decide +kernel) rfl ?_
      refine aw_iast (j := 0) (h' := Hp b s t mk df jo tr [some (ob 7 [vr 7 1, vr 7 2, vr 7 3, vr 7 4, vr 7 5, vi (n : Int), vi 0, vi (nf : Int), vi (mf : Int)]), some (ar 0 3024 kp), some (ar 0 6 (va_up fi 0 0)), some (ar 0 6 se), some (ar 0 24 (mp at_ ta n)), some (ar 0 24 (mp (fun k => wt k * Int.tdiv ((nf : Int) * (mf : Int)) W) tl n))] mo dy) (by decide +kernel) rfl (by omega) (by omega) (by omega) rfl ?_
      refine aw_blk (pc' := 140) (ls' := [some (vr 7 0), some (vr 9 k), some (vi (nf : Int)), some (vi (mf : Int)), some (vi ((nf : Int) * (mf : Int))), some (vi (n : Int))]) (st' := [vi 0, vr 7 4, vi 0, vr 7 3]) [.inl (.aload_n 0), .inr (18, 7, 2), .inl (.iconst 0), .inl (.aload_n 0), .inr (21, 7, 3), .inl (.iconst 0)] 130 _ _ (by decide +kernel) rfl ?_
      refine aw_iald (j := 0) (by decide +kernel) rfl (by omega) (by omega) (fun r140 => ?_)
      rw [ea]
      refine aw_iast (j := 0) (h' := Hp b s t mk df jo tr [some (ob 7 [vr 7 1, vr 7 2, vr 7 3, vr 7 4, vr 7 5, vi (n : Int), vi 0, vi (nf : Int), vi (mf : Int)]), some (ar 0 3024 kp), some (ar 0 6 (va_up fi 0 0)), some (ar 0 6 (va_up se 0 (at_ 0))), some (ar 0 24 (mp at_ ta n)), some (ar 0 24 (mp (fun k => wt k * Int.tdiv ((nf : Int) * (mf : Int)) W) tl n))] mo dy) (by decide +kernel) rfl rfl (by omega) (by omega) rfl ?_
      refine aw_blk (pc' := 148) (ls' := [some (vr 7 0), some (vr 9 k), some (vi (nf : Int)), some (vi (mf : Int)), some (vi ((nf : Int) * (mf : Int))), some (vi (n : Int))]) (st' := [vi 0, vr 7 5, vi 0, vr 7 5]) [.inl (.aload_n 0), .inr (24, 7, 4), .inl (.iconst 0), .inl (.dup2)] 142 _ _ (by decide +kernel) rfl ?_
      refine aw_iald (j := 0) (by decide +kernel) rfl (by omega) (by omega) (fun r148 => ?_)
      refine aw_blk (pc' := 151) (ls' := [some (vr 7 0), some (vr 9 k), some (vi (nf : Int)), some (vi (mf : Int)), some (vi ((nf : Int) * (mf : Int))), some (vi (n : Int))]) (st' := [vi (((mp (fun k => wt k * Int.tdiv ((nf : Int) * (mf : Int)) W) tl n) 0) - 1), vi 0, vr 7 5]) [.inl (.iconst 1), .inl (.isub)] 149 _ _ (by decide +kernel) rfl ?_
      rw [et]
      refine aw_iast (j := 0) (h' := Hp b s t mk df jo tr [some (ob 7 [vr 7 1, vr 7 2, vr 7 3, vr 7 4, vr 7 5, vi (n : Int), vi 0, vi (nf : Int), vi (mf : Int)]), some (ar 0 3024 kp), some (ar 0 6 (va_up fi 0 0)), some (ar 0 6 (va_up se 0 (at_ 0))), some (ar 0 24 (mp at_ ta n)), some (ar 0 24 (va_up (mp (fun k => wt k * Int.tdiv ((nf : Int) * (mf : Int)) W) tl n) 0 (wt 0 * Int.tdiv ((nf : Int) * (mf : Int)) W - 1)))] mo dy) (by decide +kernel) rfl rfl (by omega) (by omega) rfl ?_
      refine aw_blk (pc' := 156) (ls' := [some (vr 7 0), some (vr 9 k), some (vi (nf : Int)), some (vi (mf : Int)), some (vi ((nf : Int) * (mf : Int))), some (vi (n : Int))]) (st' := [vi (-1), vi 1, vi 1, vr 7 0]) [.inl (.aload_n 0), .inl (.iconst 1), .inl (.iconst 1), .inl (.iconst (-1))] 152 _ _ (by decide +kernel) rfl ?_
      have hS : dS (fun u => den at_ wt n u * Int.tdiv ((nf : Int) * (mf : Int)) W) (mp at_ ta n) n nf mf (at_ 0) := src_dS A h1 h2 c51
      have hP : dP (fun u => den at_ wt n u * Int.tdiv ((nf : Int) * (mf : Int)) W) nf mf (at_ 0) [0] [at_ 0] := src_dP A h1 h2 c51
      have hV : dV (fun u => den at_ wt n u * Int.tdiv ((nf : Int) * (mf : Int)) W) (mp at_ ta n) n [0] [at_ 0] (va_up fi 0 0) (va_up se 0 (at_ 0)) (va_up (mp (fun k => wt k * Int.tdiv ((nf : Int) * (mf : Int)) W) tl n) 0 (wt 0 * Int.tdiv ((nf : Int) * (mf : Int)) W - 1)) := src_dV A
      have hpb := pb_66 ⟨nf - 1, by omega⟩ ⟨mf - 1, by omega⟩
      simp only at hpb
      refine aw_rV (cs' := 0) (sl' := 0) (pc' := 159) (idx := 61) (as := [vi 1, vi 1, vi (-1)]) (st := []) (m_D_ext_10 (x := 1) (y := 1) (F := 0) (bar := 6000) hS hP hV rfl rfl (by omega) (Or.inl ⟨rfl, rfl⟩) (by rw [Nat.zero_add]; exact hpb)) (by decide +kernel) (show vOK "ChanceBench$Dice" 61 (M_D_extend 10) 3 = true by decide +kernel) rfl rfl rfl (Nat.le_of_ble_eq_true rfl) (by decide) (by decide) (by decide) rfl rfl rfl (fun r156 h156 z156 => ?_)
      obtain ⟨rfl, kp2, fi2, se2, hR, rfl⟩ := z156
      have eL : dcL at_ wt n W nf mf = ext (fun u => den at_ wt n u * Int.tdiv ((nf : Int) * (mf : Int)) W) nf mf (at_ 0) 10 [0] [at_ 0] 6000 := by unfold dcL; rw [if_pos c51]
      exact aw_vret (by decide +kernel) rfl (by decide) (by decide) (hq _ _ ⟨rfl, n, kp2, fi2, se2, mp at_ ta n, va_up (mp (fun k => wt k * Int.tdiv ((nf : Int) * (mf : Int)) W) tl n) 0 (wt 0 * Int.tdiv ((nf : Int) * (mf : Int)) W - 1), by rw [eL]; exact hR.2.2.2, by rw [eL, Nat.zero_add]⟩)
    · have hai := A.2.2.1 i hi
      have hmu : 0 ≤ wt i * Int.tdiv ((nf : Int) * (mf : Int)) W ∧ wt i * Int.tdiv ((nf : Int) * (mf : Int)) W ≤ 100000000 := ⟨Int.mul_nonneg (by omega) (by omega), by have := Int.mul_le_mul (show wt i ≤ 1048576 by omega) hq2 (by omega) (by omega); omega⟩
      refine aw_blk (pc' := 78) (ls' := [some (vr 7 0), some (vr 9 k), some (vi (nf : Int)), some (vi (mf : Int)), some (vi ((nf : Int) * (mf : Int))), some (vi (i : Int))]) (st' := [vi (n : Int), vi (i : Int)]) [.inl (.iload 5), .inl (.aload_n 0), .inr (27, 7, 5)] 72 _ _ (by decide +kernel) rfl ?_
      refine aw_icmp_ge (o := 45) (tgt := 123) (by decide +kernel) (by decide) (by omega) (by omega) (fun c => absurd c (by omega)) (fun _ => ?_)
      refine aw_blk (pc' := 88) (ls' := [some (vr 7 0), some (vr 9 k), some (vi (nf : Int)), some (vi (mf : Int)), some (vi ((nf : Int) * (mf : Int))), some (vi (i : Int))]) (st' := [vr 9 k, vi (i : Int), vr 7 4]) [.inl (.aload_n 0), .inr (21, 7, 3), .inl (.iload 5), .inl (.aload_n 1)] 81 _ _ (by decide +kernel) rfl ?_
      refine aw_get (idx := 55) (ci := 9) (f := 0) (by decide +kernel) (by decide +kernel) hA.1 rfl ?_
      refine aw_blk (pc' := 93) (ls' := [some (vr 7 0), some (vr 9 k), some (vi (nf : Int)), some (vi (mf : Int)), some (vi ((nf : Int) * (mf : Int))), some (vi (i : Int))]) (st' := [vi (i : Int), vr 9 k1, vi (i : Int), vr 7 4]) [.inl (.iload 5)] 91 _ _ (by decide +kernel) rfl ?_
      refine aw_iald (j := i) (by decide +kernel) hA.2.1 (by omega) (by omega) (fun r93 => ?_)
      refine aw_iast (j := i) (h' := Hp b s t mk df jo tr [some (ob 7 [vr 7 1, vr 7 2, vr 7 3, vr 7 4, vr 7 5, vi (n : Int), vi 0, vi (nf : Int), vi (mf : Int)]), some (ar 0 3024 kp), some (ar 0 6 fi), some (ar 0 6 se), some (ar 0 24 (va_up (mp at_ ta i) i (at_ i))), some (ar 0 24 (mp (fun k => wt k * Int.tdiv ((nf : Int) * (mf : Int)) W) tl i))] mo dy) (by decide +kernel) rfl (by omega) (by omega) (by omega) rfl ?_
      refine aw_blk (pc' := 102) (ls' := [some (vr 7 0), some (vr 9 k), some (vi (nf : Int)), some (vi (mf : Int)), some (vi ((nf : Int) * (mf : Int))), some (vi (i : Int))]) (st' := [vr 9 k, vi (i : Int), vr 7 5]) [.inl (.aload_n 0), .inr (24, 7, 4), .inl (.iload 5), .inl (.aload_n 1)] 95 _ _ (by decide +kernel) rfl ?_
      refine aw_get (idx := 58) (ci := 9) (f := 1) (by decide +kernel) (by decide +kernel) hA.1 rfl ?_
      refine aw_blk (pc' := 107) (ls' := [some (vr 7 0), some (vr 9 k), some (vi (nf : Int)), some (vi (mf : Int)), some (vi ((nf : Int) * (mf : Int))), some (vi (i : Int))]) (st' := [vi (i : Int), vr 9 k2, vi (i : Int), vr 7 5]) [.inl (.iload 5)] 105 _ _ (by decide +kernel) rfl ?_
      refine aw_iald (j := i) (by decide +kernel) hA.2.2 (by omega) (by omega) (fun r107 => ?_)
      refine aw_blk (pc' := 111) (ls' := [some (vr 7 0), some (vr 9 k), some (vi (nf : Int)), some (vi (mf : Int)), some (vi ((nf : Int) * (mf : Int))), some (vi (i : Int))]) (st' := [vr 9 k, vi ((nf : Int) * (mf : Int)), vi (wt i), vi (i : Int), vr 7 5]) [.inl (.iload 4), .inl (.aload_n 1)] 108 _ _ (by decide +kernel) rfl ?_
      refine aw_get (idx := 50) (ci := 9) (f := 2) (by decide +kernel) (by decide +kernel) hA.1 rfl ?_
      refine aw_idiv (by decide +kernel) (by omega) (by omega) (by omega) ?_
      refine aw_blk (pc' := 116) (ls' := [some (vr 7 0), some (vr 9 k), some (vi (nf : Int)), some (vi (mf : Int)), some (vi ((nf : Int) * (mf : Int))), some (vi (i : Int))]) (st' := [vi ((wt i) * (Int.tdiv ((nf : Int) * (mf : Int)) W)), vi (i : Int), vr 7 5]) [.inl (.imul)] 115 _ _ (by decide +kernel) rfl ?_
      refine aw_iast (j := i) (h' := Hp b s t mk df jo tr [some (ob 7 [vr 7 1, vr 7 2, vr 7 3, vr 7 4, vr 7 5, vi (n : Int), vi 0, vi (nf : Int), vi (mf : Int)]), some (ar 0 3024 kp), some (ar 0 6 fi), some (ar 0 6 se), some (ar 0 24 (va_up (mp at_ ta i) i (at_ i))), some (ar 0 24 (va_up (mp (fun k => wt k * Int.tdiv ((nf : Int) * (mf : Int)) W) tl i) i ((wt i) * (Int.tdiv ((nf : Int) * (mf : Int)) W))))] mo dy) (by decide +kernel) rfl (by omega) (by omega) (by omega) rfl ?_
      refine aw_blk (pc' := 120) (ls' := [some (vr 7 0), some (vr 9 k), some (vi (nf : Int)), some (vi (mf : Int)), some (vi ((nf : Int) * (mf : Int))), some (vi ((i : Int) + 1))]) (st' := []) [.inl (.iinc 5 1)] 117 _ _ (by decide +kernel) rfl ?_
      refine aw_goto (o := -48) (tgt := 72) (by decide +kernel) (by decide) ?_
      exact aw_eq rfl rfl (by rw [mp_s at_ ta i, mp_s (fun k => wt k * Int.tdiv ((nf : Int) * (mf : Int)) W) tl i]) ih
  · have eL : dcL at_ wt n W nf mf = [] := by unfold dcL; rw [if_neg c51]
    exact aw_vret (by decide +kernel) rfl (by decide) (by decide) (hq _ _ ⟨rfl, l9, kp, fi, se, ta, tl, by rw [eL]; exact rows_nil, by rw [eL]; rfl⟩)

theorem m_B_pairs (hI : I32 e) (h1 : 1 ≤ nf ∧ nf ≤ 6) (h2 : 1 ≤ mf ∧ mf ≤ 6) (hl1 : lawAt laws e = some (9, k)) (hA : isD dy k k1 k2 n at_ wt W) (A : lwN n at_ wt W) : AMet G M_B_pairs [vr 0 0, vi e, vi (nf : Int), vi (mf : Int)] (Hp (sgB bd tk) (sgS laws slot ahead made (od : Int) (dn : Int) (un : Int)) t (sgK (nn : Int) rr ff gg) df jo tr (sgD (l9 : Int) fd f1 f2 kp fi se ta tl) mo dy) (fun r h => r = some (vi ((dcL at_ wt n W nf mf).length : Int)) ∧ ∃ (l9 : Nat) (kp fi se ta tl : Nat → Int), rows kp 0 (dcL at_ wt n W nf mf) ∧ h = Hp (sgB bd tk) (sgS laws slot ahead made (od : Int) (dn : Int) (un : Int)) t (sgK (nn : Int) rr ff gg) df jo tr (sgD (l9 : Int) ((dcL at_ wt n W nf mf).length : Int) (nf : Int) (mf : Int) kp fi se ta tl) mo dy) (fun _ => False) := by
  refine am_rel (by decide +kernel) (Nat.le_of_ble_eq_true rfl) (fun Qr Qt hq => ?_)
  refine aw_blk (pc' := 5) (ls' := [some (vr 0 0), some (vi e), some (vi (nf : Int)), some (vi (mf : Int)), none]) (st' := [vi e, vr 1 0]) [.inl (.aload_n 0), .inr (10, 0, 0), .inl (.iload_n 1)] 0 _ _ (by decide +kernel) rfl ?_
  refine aw_dV (cs' := 0) (sl' := 0) (pc' := 8) (st' := [vo (lawAt laws e)]) (idx := 117) (as := [vi e]) (st := []) (m_S_lawIn hI) (by decide +kernel) (show vOK "ChanceBench" 117 M_S_lawIn 1 = true by decide +kernel) rfl rfl rfl (Nat.le_of_ble_eq_true rfl) (by decide) (by decide) (by decide) rfl rfl rfl rfl ?_
  rw [hl1]
  refine aw_blk (pc' := 12) (ls' := [some (vr 0 0), some (vi e), some (vi (nf : Int)), some (vi (mf : Int)), some (vr 9 k)]) (st' := [vr 9 k]) [.inl (.astore 4), .inl (.aload 4)] 8 _ _ (by decide +kernel) rfl ?_
  refine aw_ifnull (o := 23) (tgt := 35) (by decide +kernel) (by decide) (fun z => nomatch z) (fun _ _ => ?_)
  refine aw_blk (pc' := 19) (ls' := [some (vr 0 0), some (vi e), some (vi (nf : Int)), some (vi (mf : Int)), some (vr 9 k)]) (st' := [vi 6, vi 1, vi (nf : Int)]) [.inl (.iload_n 2), .inl (.iconst 1), .inl (.bipush 6)] 15 _ _ (by decide +kernel) rfl ?_
  refine aw_dS (cs' := 0) (sl' := 0) (pc' := 22) (st' := [vi (if 1 ≤ (nf : Int) ∧ (nf : Int) ≤ 6 then 1 else 0)]) (idx := 98) (as := [vi (nf : Int), vi 1, vi 6]) (st := []) (m_B_isWithin (by omega) (by omega) (by omega)) (by decide +kernel) (show sOK "ChanceBench" 98 M_B_isWithin 3 = true by decide +kernel) rfl (Nat.le_of_ble_eq_true rfl) (by decide) (by decide) (by decide) rfl rfl rfl rfl ?_
  rw [if_pos (by omega)]
  refine aw_if_eq (o := 13) (tgt := 35) (by decide +kernel) (by decide) (by omega) (fun c => absurd c (by omega)) (fun _ => ?_)
  refine aw_blk (pc' := 29) (ls' := [some (vr 0 0), some (vi e), some (vi (nf : Int)), some (vi (mf : Int)), some (vr 9 k)]) (st' := [vi 6, vi 1, vi (mf : Int)]) [.inl (.iload_n 3), .inl (.iconst 1), .inl (.bipush 6)] 25 _ _ (by decide +kernel) rfl ?_
  refine aw_dS (cs' := 0) (sl' := 0) (pc' := 32) (st' := [vi (if 1 ≤ (mf : Int) ∧ (mf : Int) ≤ 6 then 1 else 0)]) (idx := 98) (as := [vi (mf : Int), vi 1, vi 6]) (st := []) (m_B_isWithin (by omega) (by omega) (by omega)) (by decide +kernel) (show sOK "ChanceBench" 98 M_B_isWithin 3 = true by decide +kernel) rfl (Nat.le_of_ble_eq_true rfl) (by decide) (by decide) (by decide) rfl rfl rfl rfl ?_
  rw [if_pos (by omega)]
  refine aw_if_ne (o := 5) (tgt := 37) (by decide +kernel) (by decide) (by omega) (fun _ => ?_) (fun c => absurd c (by omega))
  refine aw_blk (pc' := 45) (ls' := [some (vr 0 0), some (vi e), some (vi (nf : Int)), some (vi (mf : Int)), some (vr 9 k)]) (st' := [vi (mf : Int), vi (nf : Int), vr 9 k, vr 7 0]) [.inl (.aload_n 0), .inr (54, 0, 6), .inl (.aload 4), .inl (.iload_n 2), .inl (.iload_n 3)] 37 _ _ (by decide +kernel) rfl ?_
  refine aw_rV (cs' := 0) (sl' := 0) (pc' := 48) (idx := 232) (as := [vr 9 k, vi (nf : Int), vi (mf : Int)]) (st := []) (m_D_search hA A h1 h2) (by decide +kernel) (show vOK "ChanceBench" 232 M_D_search 3 = true by decide +kernel) rfl rfl rfl (Nat.le_of_ble_eq_true rfl) (by decide) (by decide) (by decide) rfl rfl rfl (fun r45 h45 z45 => ?_)
  obtain ⟨rfl, l9, kp, fi, se, ta, tl, hr, rfl⟩ := z45
  refine aw_blk (pc' := 52) (ls' := [some (vr 0 0), some (vi e), some (vi (nf : Int)), some (vi (mf : Int)), some (vr 9 k)]) (st' := [vr 7 0]) [.inl (.aload_n 0), .inr (54, 0, 6)] 48 _ _ (by decide +kernel) rfl ?_
  refine aw_dV (cs' := 0) (sl' := 0) (pc' := 55) (st' := [vi ((dcL at_ wt n W nf mf).length : Int)]) (idx := 236) (as := []) (st := []) (m_D_found) (by decide +kernel) (show vOK "ChanceBench" 236 M_D_found 0 = true by decide +kernel) rfl rfl rfl (Nat.le_of_ble_eq_true rfl) (by decide) (by decide) (by decide) rfl rfl rfl rfl ?_
  exact aw_iret (by decide +kernel) rfl (by decide) (by decide) (hq _ _ ⟨rfl, l9, kp, fi, se, ta, tl, hr, rfl⟩)

theorem m_B_pairs_0 (hI : I32 e) (hl1 : lawAt laws e = none) : ADet G M_B_pairs [vr 0 0, vi e, vi c, vi d] (Hp (sgB bd tk) (sgS laws slot ahead made (od : Int) (dn : Int) (un : Int)) t (sgK (nn : Int) rr ff gg) df jo tr di mo dy) (some (vi (-1))) (Hp (sgB bd tk) (sgS laws slot ahead made (od : Int) (dn : Int) (un : Int)) t (sgK (nn : Int) rr ff gg) df jo tr di mo dy) := by
  refine am_det (by decide +kernel) (Nat.le_of_ble_eq_true rfl) (fun Qr Qt hq => ?_)
  refine aw_blk (pc' := 5) (ls' := [some (vr 0 0), some (vi e), some (vi c), some (vi d), none]) (st' := [vi e, vr 1 0]) [.inl (.aload_n 0), .inr (10, 0, 0), .inl (.iload_n 1)] 0 _ _ (by decide +kernel) rfl ?_
  refine aw_dV (cs' := 0) (sl' := 0) (pc' := 8) (st' := [vo (lawAt laws e)]) (idx := 117) (as := [vi e]) (st := []) (m_S_lawIn hI) (by decide +kernel) (show vOK "ChanceBench" 117 M_S_lawIn 1 = true by decide +kernel) rfl rfl rfl (Nat.le_of_ble_eq_true rfl) (by decide) (by decide) (by decide) rfl rfl rfl rfl ?_
  rw [hl1]
  refine aw_blk (pc' := 12) (ls' := [some (vr 0 0), some (vi e), some (vi c), some (vi d), some (vn)]) (st' := [vn]) [.inl (.astore 4), .inl (.aload 4)] 8 _ _ (by decide +kernel) rfl ?_
  refine aw_ifnull (o := 23) (tgt := 35) (by decide +kernel) (by decide) (fun _ => ?_) (fun _ z => nomatch z)
  refine aw_blk (pc' := 36) (ls' := [some (vr 0 0), some (vi e), some (vi c), some (vi d), some (vn)]) (st' := [vi (-1)]) [.inl (.iconst (-1))] 35 _ _ (by decide +kernel) rfl ?_
  exact aw_iret (by decide +kernel) rfl (by decide) (by decide) (hq _ _ rfl rfl)

theorem m_B_pairs_1 (hI : I32 e ∧ I32 c ∧ I32 d) (h2 : ¬ ((1 ≤ c ∧ c ≤ 6) ∧ (1 ≤ d ∧ d ≤ 6))) (hl1 : lawAt laws e = some (9, k)) : ADet G M_B_pairs [vr 0 0, vi e, vi c, vi d] (Hp (sgB bd tk) (sgS laws slot ahead made (od : Int) (dn : Int) (un : Int)) t (sgK (nn : Int) rr ff gg) df jo tr di mo dy) (some (vi (-1))) (Hp (sgB bd tk) (sgS laws slot ahead made (od : Int) (dn : Int) (un : Int)) t (sgK (nn : Int) rr ff gg) df jo tr di mo dy) := by
  refine am_det (by decide +kernel) (Nat.le_of_ble_eq_true rfl) (fun Qr Qt hq => ?_)
  refine aw_blk (pc' := 5) (ls' := [some (vr 0 0), some (vi e), some (vi c), some (vi d), none]) (st' := [vi e, vr 1 0]) [.inl (.aload_n 0), .inr (10, 0, 0), .inl (.iload_n 1)] 0 _ _ (by decide +kernel) rfl ?_
  refine aw_dV (cs' := 0) (sl' := 0) (pc' := 8) (st' := [vo (lawAt laws e)]) (idx := 117) (as := [vi e]) (st := []) (m_S_lawIn hI.1) (by decide +kernel) (show vOK "ChanceBench" 117 M_S_lawIn 1 = true by decide +kernel) rfl rfl rfl (Nat.le_of_ble_eq_true rfl) (by decide) (by decide) (by decide) rfl rfl rfl rfl ?_
  rw [hl1]
  refine aw_blk (pc' := 12) (ls' := [some (vr 0 0), some (vi e), some (vi c), some (vi d), some (vr 9 k)]) (st' := [vr 9 k]) [.inl (.astore 4), .inl (.aload 4)] 8 _ _ (by decide +kernel) rfl ?_
  refine aw_ifnull (o := 23) (tgt := 35) (by decide +kernel) (by decide) (fun z => nomatch z) (fun _ _ => ?_)
  refine aw_blk (pc' := 19) (ls' := [some (vr 0 0), some (vi e), some (vi c), some (vi d), some (vr 9 k)]) (st' := [vi 6, vi 1, vi c]) [.inl (.iload_n 2), .inl (.iconst 1), .inl (.bipush 6)] 15 _ _ (by decide +kernel) rfl ?_
  refine aw_dS (cs' := 0) (sl' := 0) (pc' := 22) (st' := [vi (if 1 ≤ c ∧ c ≤ 6 then 1 else 0)]) (idx := 98) (as := [vi c, vi 1, vi 6]) (st := []) (m_B_isWithin hI.2.1 (by omega) (by omega)) (by decide +kernel) (show sOK "ChanceBench" 98 M_B_isWithin 3 = true by decide +kernel) rfl (Nat.le_of_ble_eq_true rfl) (by decide) (by decide) (by decide) rfl rfl rfl rfl ?_
  by_cases h1 : 1 ≤ c ∧ c ≤ 6
  · rw [if_pos h1]
    refine aw_if_eq (o := 13) (tgt := 35) (by decide +kernel) (by decide) (by omega) (fun c => absurd c (by omega)) (fun _ => ?_)
    refine aw_blk (pc' := 29) (ls' := [some (vr 0 0), some (vi e), some (vi c), some (vi d), some (vr 9 k)]) (st' := [vi 6, vi 1, vi d]) [.inl (.iload_n 3), .inl (.iconst 1), .inl (.bipush 6)] 25 _ _ (by decide +kernel) rfl ?_
    refine aw_dS (cs' := 0) (sl' := 0) (pc' := 32) (st' := [vi (if 1 ≤ d ∧ d ≤ 6 then 1 else 0)]) (idx := 98) (as := [vi d, vi 1, vi 6]) (st := []) (m_B_isWithin hI.2.2 (by omega) (by omega)) (by decide +kernel) (show sOK "ChanceBench" 98 M_B_isWithin 3 = true by decide +kernel) rfl (Nat.le_of_ble_eq_true rfl) (by decide) (by decide) (by decide) rfl rfl rfl rfl ?_
    rw [if_neg (fun z => h2 ⟨h1, z⟩)]
    refine aw_if_ne (o := 5) (tgt := 37) (by decide +kernel) (by decide) (by omega) (fun c => absurd (by omega) c) (fun _ => ?_)
    refine aw_blk (pc' := 36) (ls' := [some (vr 0 0), some (vi e), some (vi c), some (vi d), some (vr 9 k)]) (st' := [vi (-1)]) [.inl (.iconst (-1))] 35 _ _ (by decide +kernel) rfl ?_
    exact aw_iret (by decide +kernel) rfl (by decide) (by decide) (hq _ _ rfl rfl)
  · rw [if_neg h1]
    refine aw_if_eq (o := 13) (tgt := 35) (by decide +kernel) (by decide) (by omega) (fun _ => ?_) (fun c => absurd (by omega) c)
    refine aw_blk (pc' := 36) (ls' := [some (vr 0 0), some (vi e), some (vi c), some (vi d), some (vr 9 k)]) (st' := [vi (-1)]) [.inl (.iconst (-1))] 35 _ _ (by decide +kernel) rfl ?_
    exact aw_iret (by decide +kernel) rfl (by decide) (by decide) (hq _ _ rfl rfl)

theorem m_B_face (hI : I32 a ∧ I32 c ∧ I32 d) (hF : (0 ≤ fd ∧ fd ≤ 252) ∧ (0 ≤ f1 ∧ f1 ≤ 6) ∧ 0 ≤ f2 ∧ f2 ≤ 6) (hf : (0 ≤ a ∧ a < fd) ∧ 0 ≤ d ∧ ((c = 0 ∧ d < f1) ∨ (c = 1 ∧ d < f2))) : ADet G M_B_face [vr 0 0, vi a, vi c, vi d] (Hp (sgB bd tk) (sgS laws slot ahead made (od : Int) (dn : Int) (un : Int)) t (sgK (nn : Int) rr ff gg) df jo tr (sgD (l9 : Int) fd f1 f2 kp fi se ta tl) mo dy) (some (vi (kp (a * 12 + c * 6 + d).toNat))) (Hp (sgB bd tk) (sgS laws slot ahead made (od : Int) (dn : Int) (un : Int)) t (sgK (nn : Int) rr ff gg) df jo tr (sgD (l9 : Int) fd f1 f2 kp fi se ta tl) mo dy) := by
  refine am_det (by decide +kernel) (Nat.le_of_ble_eq_true rfl) (fun Qr Qt hq => ?_)
  refine aw_blk (pc' := 7) (ls' := [some (vr 0 0), some (vi a), some (vi c), some (vi d)]) (st' := [vi d, vi c, vi a, vr 7 0]) [.inl (.aload_n 0), .inr (54, 0, 6), .inl (.iload_n 1), .inl (.iload_n 2), .inl (.iload_n 3)] 0 _ _ (by decide +kernel) rfl ?_
  refine aw_dV (cs' := 0) (sl' := 0) (pc' := 10) (st' := [vi (if (0 ≤ a ∧ a < fd) ∧ 0 ≤ d ∧ ((c = 0 ∧ d < f1) ∨ (c = 1 ∧ d < f2)) then 1 else 0)]) (idx := 239) (as := [vi a, vi c, vi d]) (st := []) (m_D_hasFace hI (by omega)) (by decide +kernel) (show vOK "ChanceBench" 239 M_D_hasFace 3 = true by decide +kernel) rfl rfl rfl (Nat.le_of_ble_eq_true rfl) (by decide) (by decide) (by decide) rfl rfl rfl rfl ?_
  rw [if_pos hf]
  refine aw_if_ne (o := 11) (tgt := 21) (by decide +kernel) (by decide) (by omega) (fun _ => ?_) (fun c => absurd c (by omega))
  refine aw_blk (pc' := 28) (ls' := [some (vr 0 0), some (vi a), some (vi c), some (vi d)]) (st' := [vi d, vi c, vi a, vr 7 0]) [.inl (.aload_n 0), .inr (54, 0, 6), .inl (.iload_n 1), .inl (.iload_n 2), .inl (.iload_n 3)] 21 _ _ (by decide +kernel) rfl ?_
  refine aw_dV (cs' := 0) (sl' := 0) (pc' := 31) (st' := [vi (kp (a * 12 + c * 6 + d).toNat)]) (idx := 242) (as := [vi a, vi c, vi d]) (st := []) (m_D_faceOf hf (by omega)) (by decide +kernel) (show vOK "ChanceBench" 242 M_D_faceOf 3 = true by decide +kernel) rfl rfl rfl (Nat.le_of_ble_eq_true rfl) (by decide) (by decide) (by decide) rfl rfl rfl rfl ?_
  exact aw_iret (by decide +kernel) rfl (by decide) (by decide) (hq _ _ rfl rfl)

theorem m_B_face_t (hI : I32 a ∧ I32 c ∧ I32 d) (hF : (0 ≤ fd ∧ fd ≤ 252) ∧ (0 ≤ f1 ∧ f1 ≤ 6) ∧ 0 ≤ f2 ∧ f2 ≤ 6) (hf : ¬ ((0 ≤ a ∧ a < fd) ∧ 0 ≤ d ∧ ((c = 0 ∧ d < f1) ∨ (c = 1 ∧ d < f2)))) : AThr G M_B_face [vr 0 0, vi a, vi c, vi d] (Hp (sgB bd tk) (sgS laws slot ahead made (od : Int) (dn : Int) (un : Int)) t (sgK (nn : Int) rr ff gg) df jo tr (sgD (l9 : Int) fd f1 f2 kp fi se ta tl) mo dy) := by
  refine am_thr (by decide +kernel) (Nat.le_of_ble_eq_true rfl) (fun Qr Qt hq => ?_)
  refine aw_blk (pc' := 7) (ls' := [some (vr 0 0), some (vi a), some (vi c), some (vi d)]) (st' := [vi d, vi c, vi a, vr 7 0]) [.inl (.aload_n 0), .inr (54, 0, 6), .inl (.iload_n 1), .inl (.iload_n 2), .inl (.iload_n 3)] 0 _ _ (by decide +kernel) rfl ?_
  refine aw_dV (cs' := 0) (sl' := 0) (pc' := 10) (st' := [vi (if (0 ≤ a ∧ a < fd) ∧ 0 ≤ d ∧ ((c = 0 ∧ d < f1) ∨ (c = 1 ∧ d < f2)) then 1 else 0)]) (idx := 239) (as := [vi a, vi c, vi d]) (st := []) (m_D_hasFace hI (by omega)) (by decide +kernel) (show vOK "ChanceBench" 239 M_D_hasFace 3 = true by decide +kernel) rfl rfl rfl (Nat.le_of_ble_eq_true rfl) (by decide) (by decide) (by decide) rfl rfl rfl rfl ?_
  rw [if_neg hf]
  refine aw_if_ne (o := 11) (tgt := 21) (by decide +kernel) (by decide) (by omega) (fun c => absurd (by omega) c) (fun _ => ?_)
  exact aw_throw (ik := 146) (ic := 148) tOK_B (by decide +kernel) (by decide +kernel) (by decide +kernel) (by decide +kernel) (Nat.le_of_ble_eq_true rfl) (by decide) (by decide) (by decide) hq

variable {fa fb fw fl sl_ : Nat → Int} {wh : Int}
theorem m_B_count_0  : ADet G M_B_count [vr 0 0, vi 0] (Hp (sgB bd tk) (sgS laws slot ahead made (od : Int) (dn : Int) (un : Int)) (sgT (len : Int) ft) (sgK (nn : Int) rr ff gg) df (sgJ (F : Int) wh fa fb fw fl sl_) tr (sgD (l9 : Int) fd f1 f2 kp fi se ta tl) mo dy) (some (vi (cntL laws 16))) (Hp (sgB bd tk) (sgS laws slot ahead made (od : Int) (dn : Int) (un : Int)) (sgT (len : Int) ft) (sgK (nn : Int) rr ff gg) df (sgJ (F : Int) wh fa fb fw fl sl_) tr (sgD (l9 : Int) fd f1 f2 kp fi se ta tl) mo dy) := by
  refine am_det (by decide +kernel) (Nat.le_of_ble_eq_true rfl) (fun Qr Qt hq => ?_)
  refine aw_blk (pc' := 1) (ls' := [some (vr 0 0), some (vi 0)]) (st' := [vi 0]) [.inl (.iload_n 1)] 0 _ _ (by decide +kernel) rfl ?_
  refine aw_tabIn (dflt := 87) (lo := 0) (hi := 5) (offs := #[39, 47, 55, 63, 71, 79]) (len := 39) (o := 39) (tgt := 40) (by decide +kernel) (by omega) (by decide) (by decide) (by decide +kernel) rfl ?_
  refine aw_blk (pc' := 44) (ls' := [some (vr 0 0), some (vi 0)]) (st' := [vr 1 0]) [.inl (.aload_n 0), .inr (10, 0, 0)] 40 _ _ (by decide +kernel) rfl ?_
  refine aw_dV (cs' := 0) (sl' := 0) (pc' := 47) (st' := [vi (cntL laws 16)]) (idx := 252) (as := []) (st := []) (m_S_laws) (by decide +kernel) (show vOK "ChanceBench" 252 M_S_laws 0 = true by decide +kernel) rfl rfl rfl (Nat.le_of_ble_eq_true rfl) (by decide) (by decide) (by decide) rfl rfl rfl rfl ?_
  exact aw_iret (by decide +kernel) rfl (by decide) (by decide) (hq _ _ rfl rfl)

theorem m_B_count_1  : ADet G M_B_count [vr 0 0, vi 1] (Hp (sgB bd tk) (sgS laws slot ahead made (od : Int) (dn : Int) (un : Int)) (sgT (len : Int) ft) (sgK (nn : Int) rr ff gg) df (sgJ (F : Int) wh fa fb fw fl sl_) tr (sgD (l9 : Int) fd f1 f2 kp fi se ta tl) mo dy) (some (vi ((len : Int)))) (Hp (sgB bd tk) (sgS laws slot ahead made (od : Int) (dn : Int) (un : Int)) (sgT (len : Int) ft) (sgK (nn : Int) rr ff gg) df (sgJ (F : Int) wh fa fb fw fl sl_) tr (sgD (l9 : Int) fd f1 f2 kp fi se ta tl) mo dy) := by
  refine am_det (by decide +kernel) (Nat.le_of_ble_eq_true rfl) (fun Qr Qt hq => ?_)
  refine aw_blk (pc' := 1) (ls' := [some (vr 0 0), some (vi 1)]) (st' := [vi 1]) [.inl (.iload_n 1)] 0 _ _ (by decide +kernel) rfl ?_
  refine aw_tabIn (dflt := 87) (lo := 0) (hi := 5) (offs := #[39, 47, 55, 63, 71, 79]) (len := 39) (o := 47) (tgt := 48) (by decide +kernel) (by omega) (by decide) (by decide) (by decide +kernel) rfl ?_
  refine aw_blk (pc' := 52) (ls' := [some (vr 0 0), some (vi 1)]) (st' := [vr 2 0]) [.inl (.aload_n 0), .inr (19, 0, 1)] 48 _ _ (by decide +kernel) rfl ?_
  refine aw_dV (cs' := 0) (sl' := 0) (pc' := 55) (st' := [vi (len : Int)]) (idx := 73) (as := []) (st := []) (m_T_length) (by decide +kernel) (show vOK "ChanceBench" 73 M_T_length 0 = true by decide +kernel) rfl rfl rfl (Nat.le_of_ble_eq_true rfl) (by decide) (by decide) (by decide) rfl rfl rfl rfl ?_
  exact aw_iret (by decide +kernel) rfl (by decide) (by decide) (hq _ _ rfl rfl)

theorem m_B_count_2  : ADet G M_B_count [vr 0 0, vi 2] (Hp (sgB bd tk) (sgS laws slot ahead made (od : Int) (dn : Int) (un : Int)) (sgT (len : Int) ft) (sgK (nn : Int) rr ff gg) df (sgJ (F : Int) wh fa fb fw fl sl_) tr (sgD (l9 : Int) fd f1 f2 kp fi se ta tl) mo dy) (some (vi ((dn : Int)))) (Hp (sgB bd tk) (sgS laws slot ahead made (od : Int) (dn : Int) (un : Int)) (sgT (len : Int) ft) (sgK (nn : Int) rr ff gg) df (sgJ (F : Int) wh fa fb fw fl sl_) tr (sgD (l9 : Int) fd f1 f2 kp fi se ta tl) mo dy) := by
  refine am_det (by decide +kernel) (Nat.le_of_ble_eq_true rfl) (fun Qr Qt hq => ?_)
  refine aw_blk (pc' := 1) (ls' := [some (vr 0 0), some (vi 2)]) (st' := [vi 2]) [.inl (.iload_n 1)] 0 _ _ (by decide +kernel) rfl ?_
  refine aw_tabIn (dflt := 87) (lo := 0) (hi := 5) (offs := #[39, 47, 55, 63, 71, 79]) (len := 39) (o := 55) (tgt := 56) (by decide +kernel) (by omega) (by decide) (by decide) (by decide +kernel) rfl ?_
  refine aw_blk (pc' := 60) (ls' := [some (vr 0 0), some (vi 2)]) (st' := [vr 1 0]) [.inl (.aload_n 0), .inr (10, 0, 0)] 56 _ _ (by decide +kernel) rfl ?_
  refine aw_dV (cs' := 0) (sl' := 0) (pc' := 63) (st' := [vi (dn : Int)]) (idx := 255) (as := []) (st := []) (m_S_done) (by decide +kernel) (show vOK "ChanceBench" 255 M_S_done 0 = true by decide +kernel) rfl rfl rfl (Nat.le_of_ble_eq_true rfl) (by decide) (by decide) (by decide) rfl rfl rfl rfl ?_
  exact aw_iret (by decide +kernel) rfl (by decide) (by decide) (hq _ _ rfl rfl)

theorem m_B_count_3  : ADet G M_B_count [vr 0 0, vi 3] (Hp (sgB bd tk) (sgS laws slot ahead made (od : Int) (dn : Int) (un : Int)) (sgT (len : Int) ft) (sgK (nn : Int) rr ff gg) df (sgJ (F : Int) wh fa fb fw fl sl_) tr (sgD (l9 : Int) fd f1 f2 kp fi se ta tl) mo dy) (some (vi ((un : Int)))) (Hp (sgB bd tk) (sgS laws slot ahead made (od : Int) (dn : Int) (un : Int)) (sgT (len : Int) ft) (sgK (nn : Int) rr ff gg) df (sgJ (F : Int) wh fa fb fw fl sl_) tr (sgD (l9 : Int) fd f1 f2 kp fi se ta tl) mo dy) := by
  refine am_det (by decide +kernel) (Nat.le_of_ble_eq_true rfl) (fun Qr Qt hq => ?_)
  refine aw_blk (pc' := 1) (ls' := [some (vr 0 0), some (vi 3)]) (st' := [vi 3]) [.inl (.iload_n 1)] 0 _ _ (by decide +kernel) rfl ?_
  refine aw_tabIn (dflt := 87) (lo := 0) (hi := 5) (offs := #[39, 47, 55, 63, 71, 79]) (len := 39) (o := 63) (tgt := 64) (by decide +kernel) (by omega) (by decide) (by decide) (by decide +kernel) rfl ?_
  refine aw_blk (pc' := 68) (ls' := [some (vr 0 0), some (vi 3)]) (st' := [vr 1 0]) [.inl (.aload_n 0), .inr (10, 0, 0)] 64 _ _ (by decide +kernel) rfl ?_
  refine aw_dV (cs' := 0) (sl' := 0) (pc' := 71) (st' := [vi (un : Int)]) (idx := 258) (as := []) (st := []) (m_S_undone) (by decide +kernel) (show vOK "ChanceBench" 258 M_S_undone 0 = true by decide +kernel) rfl rfl rfl (Nat.le_of_ble_eq_true rfl) (by decide) (by decide) (by decide) rfl rfl rfl rfl ?_
  exact aw_iret (by decide +kernel) rfl (by decide) (by decide) (hq _ _ rfl rfl)

theorem m_B_count_4  : ADet G M_B_count [vr 0 0, vi 4] (Hp (sgB bd tk) (sgS laws slot ahead made (od : Int) (dn : Int) (un : Int)) (sgT (len : Int) ft) (sgK (nn : Int) rr ff gg) df (sgJ (F : Int) wh fa fb fw fl sl_) tr (sgD (l9 : Int) fd f1 f2 kp fi se ta tl) mo dy) (some (vi (fd))) (Hp (sgB bd tk) (sgS laws slot ahead made (od : Int) (dn : Int) (un : Int)) (sgT (len : Int) ft) (sgK (nn : Int) rr ff gg) df (sgJ (F : Int) wh fa fb fw fl sl_) tr (sgD (l9 : Int) fd f1 f2 kp fi se ta tl) mo dy) := by
  refine am_det (by decide +kernel) (Nat.le_of_ble_eq_true rfl) (fun Qr Qt hq => ?_)
  refine aw_blk (pc' := 1) (ls' := [some (vr 0 0), some (vi 4)]) (st' := [vi 4]) [.inl (.iload_n 1)] 0 _ _ (by decide +kernel) rfl ?_
  refine aw_tabIn (dflt := 87) (lo := 0) (hi := 5) (offs := #[39, 47, 55, 63, 71, 79]) (len := 39) (o := 71) (tgt := 72) (by decide +kernel) (by omega) (by decide) (by decide) (by decide +kernel) rfl ?_
  refine aw_blk (pc' := 76) (ls' := [some (vr 0 0), some (vi 4)]) (st' := [vr 7 0]) [.inl (.aload_n 0), .inr (54, 0, 6)] 72 _ _ (by decide +kernel) rfl ?_
  refine aw_dV (cs' := 0) (sl' := 0) (pc' := 79) (st' := [vi fd]) (idx := 236) (as := []) (st := []) (m_D_found) (by decide +kernel) (show vOK "ChanceBench" 236 M_D_found 0 = true by decide +kernel) rfl rfl rfl (Nat.le_of_ble_eq_true rfl) (by decide) (by decide) (by decide) rfl rfl rfl rfl ?_
  exact aw_iret (by decide +kernel) rfl (by decide) (by decide) (hq _ _ rfl rfl)

theorem m_B_count_5  : ADet G M_B_count [vr 0 0, vi 5] (Hp (sgB bd tk) (sgS laws slot ahead made (od : Int) (dn : Int) (un : Int)) (sgT (len : Int) ft) (sgK (nn : Int) rr ff gg) df (sgJ (F : Int) wh fa fb fw fl sl_) tr (sgD (l9 : Int) fd f1 f2 kp fi se ta tl) mo dy) (some (vi ((F : Int)))) (Hp (sgB bd tk) (sgS laws slot ahead made (od : Int) (dn : Int) (un : Int)) (sgT (len : Int) ft) (sgK (nn : Int) rr ff gg) df (sgJ (F : Int) wh fa fb fw fl sl_) tr (sgD (l9 : Int) fd f1 f2 kp fi se ta tl) mo dy) := by
  refine am_det (by decide +kernel) (Nat.le_of_ble_eq_true rfl) (fun Qr Qt hq => ?_)
  refine aw_blk (pc' := 1) (ls' := [some (vr 0 0), some (vi 5)]) (st' := [vi 5]) [.inl (.iload_n 1)] 0 _ _ (by decide +kernel) rfl ?_
  refine aw_tabIn (dflt := 87) (lo := 0) (hi := 5) (offs := #[39, 47, 55, 63, 71, 79]) (len := 39) (o := 79) (tgt := 80) (by decide +kernel) (by omega) (by decide) (by decide) (by decide +kernel) rfl ?_
  refine aw_blk (pc' := 84) (ls' := [some (vr 0 0), some (vi 5)]) (st' := [vr 5 0]) [.inl (.aload_n 0), .inr (40, 0, 4)] 80 _ _ (by decide +kernel) rfl ?_
  refine aw_dV (cs' := 0) (sl' := 0) (pc' := 87) (st' := [vi (F : Int)]) (idx := 199) (as := []) (st := []) (m_J_size) (by decide +kernel) (show vOK "ChanceBench" 199 M_J_size 0 = true by decide +kernel) rfl rfl rfl (Nat.le_of_ble_eq_true rfl) (by decide) (by decide) (by decide) rfl rfl rfl rfl ?_
  exact aw_iret (by decide +kernel) rfl (by decide) (by decide) (hq _ _ rfl rfl)

theorem m_B_count_6 (hi : I32 d) (hd : d < 0 ∨ 5 < d) : ADet G M_B_count [vr 0 0, vi d] (Hp (sgB bd tk) (sgS laws slot ahead made (od : Int) (dn : Int) (un : Int)) (sgT (len : Int) ft) (sgK (nn : Int) rr ff gg) df (sgJ (F : Int) wh fa fb fw fl sl_) tr (sgD (l9 : Int) fd f1 f2 kp fi se ta tl) mo dy) (some (vi (-1))) (Hp (sgB bd tk) (sgS laws slot ahead made (od : Int) (dn : Int) (un : Int)) (sgT (len : Int) ft) (sgK (nn : Int) rr ff gg) df (sgJ (F : Int) wh fa fb fw fl sl_) tr (sgD (l9 : Int) fd f1 f2 kp fi se ta tl) mo dy) := by
  refine am_det (by decide +kernel) (Nat.le_of_ble_eq_true rfl) (fun Qr Qt hq => ?_)
  refine aw_blk (pc' := 1) (ls' := [some (vr 0 0), some (vi d)]) (st' := [vi d]) [.inl (.iload_n 1)] 0 _ _ (by decide +kernel) rfl ?_
  refine aw_tabOut (dflt := 87) (lo := 0) (hi := 5) (offs := #[39, 47, 55, 63, 71, 79]) (len := 39) (tgt := 88) (by decide +kernel) (by omega) (by omega) rfl ?_
  refine aw_blk (pc' := 89) (ls' := [some (vr 0 0), some (vi d)]) (st' := [vi (-1)]) [.inl (.iconst (-1))] 88 _ _ (by decide +kernel) rfl ?_
  exact aw_iret (by decide +kernel) rfl (by decide) (by decide) (hq _ _ rfl rfl)

end
