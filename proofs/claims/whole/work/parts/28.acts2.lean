section
variable {G : GT} {h : HT} {b s t mk df jo tr di mo dy : SG} {a c d e B bd tk : Int} {n m k k1 k2 q q1 q2 j nn len : Nat} {f g ff gg ft at_ wt at2 wt2 : Nat → Int} {rf rr W W2 : Int} {T : Int → Int} {by_ : Prop} {laws ahead made : Nat → Option (Nat × Nat)} {slot : Nat → Int} {od dn un : Nat}
theorem mul_in {x y u v : Int} (h1 : -x ≤ u ∧ u ≤ x) (h2 : -y ≤ v ∧ v ≤ y) (hx : 0 ≤ x) (hy : 0 ≤ y) : -(x * y) ≤ u * v ∧ u * v ≤ x * y := by
  have h : u.natAbs * v.natAbs ≤ x.natAbs * y.natAbs := Nat.mul_le_mul (by omega) (by omega)
  rw [← Int.natAbs_mul, ← Int.natAbs_mul] at h
  have : 0 ≤ x * y := Int.mul_nonneg hx hy
  omega
theorem m_B_times (ha : I32 a) (hI : I32 e ∧ I32 c ∧ I32 d) (hl1 : lawAt laws e = some (9, k)) (hA : isD dy k k1 k2 n at_ wt W) (A : lwN n at_ wt W) (ho : od < 30) (hd : dn ≤ 30) (hl : lwOK dy laws) : AMet G M_B_times [vr 0 0, vi a, vi e, vi c, vi d] (Hp (sgB bd tk) (sgS laws slot ahead made (od : Int) (dn : Int) (un : Int)) t (sgK (nn : Int) rr ff gg) df jo tr di mo dy) (fun r h => ∃ (nn : Nat) (rr : Int) (ff gg : Nat → Int), stl laws slot ahead made od dn un bd tk t (sgK (nn : Int) rr ff gg) df jo tr di mo dy a (den (fun i => c * at_ i + d) (wt) n) (¬ ((-1000 ≤ c ∧ c ≤ 1000) ∧ (-2000 ≤ d ∧ d ≤ 2000)) ∨ byd (fun i => c * at_ i + d) (wt) n) r h) (fun _ => False) := by
  refine am_rel (by decide +kernel) (Nat.le_of_ble_eq_true rfl) (fun Qr Qt hq => ?_)
  refine aw_blk (pc' := 5) (ls' := [some (vr 0 0), some (vi a), some (vi e), some (vi c), some (vi d), none, none]) (st' := [vi e, vr 1 0]) [.inl (.aload_n 0), .inr (10, 0, 0), .inl (.iload_n 2)] 0 _ _ (by decide +kernel) rfl ?_
  refine aw_dV (cs' := 0) (sl' := 0) (pc' := 8) (st' := [vo (lawAt laws e)]) (idx := 117) (as := [vi e]) (st := []) (m_S_lawIn hI.1) (by decide +kernel) (show vOK "ChanceBench" 117 M_S_lawIn 1 = true by decide +kernel) rfl rfl rfl (Nat.le_of_ble_eq_true rfl) (by decide) (by decide) (by decide) rfl rfl rfl rfl ?_
  rw [hl1]
  refine aw_blk (pc' := 12) (ls' := [some (vr 0 0), some (vi a), some (vi e), some (vi c), some (vi d), some (vr 9 k), none]) (st' := [vr 9 k]) [.inl (.astore 5), .inl (.aload 5)] 8 _ _ (by decide +kernel) rfl ?_
  refine aw_ifnull (o := 30) (tgt := 42) (by decide +kernel) (by decide) (fun z => nomatch z) (fun _ _ => ?_)
  refine aw_blk (pc' := 22) (ls' := [some (vr 0 0), some (vi a), some (vi e), some (vi c), some (vi d), some (vr 9 k), none]) (st' := [vi 1000, vi (-1000), vi c]) [.inl (.iload_n 3), .inl (.sipush (-1000)), .inl (.sipush 1000)] 15 _ _ (by decide +kernel) rfl ?_
  refine aw_dS (cs' := 0) (sl' := 0) (pc' := 25) (st' := [vi (if -1000 ≤ c ∧ c ≤ 1000 then 1 else 0)]) (idx := 98) (as := [vi c, vi (-1000), vi 1000]) (st := []) (m_B_isWithin hI.2.1 (by omega) (by omega)) (by decide +kernel) (show sOK "ChanceBench" 98 M_B_isWithin 3 = true by decide +kernel) rfl (Nat.le_of_ble_eq_true rfl) (by decide) (by decide) (by decide) rfl rfl rfl rfl ?_
  by_cases h1 : -1000 ≤ c ∧ c ≤ 1000
  · rw [if_pos h1]
    refine aw_if_eq (o := 17) (tgt := 42) (by decide +kernel) (by decide) (by omega) (fun c => absurd c (by omega)) (fun _ => ?_)
    refine aw_blk (pc' := 36) (ls' := [some (vr 0 0), some (vi a), some (vi e), some (vi c), some (vi d), some (vr 9 k), none]) (st' := [vi 2000, vi (-2000), vi d]) [.inl (.iload 4), .inl (.sipush (-2000)), .inl (.sipush 2000)] 28 _ _ (by decide +kernel) rfl ?_
    refine aw_dS (cs' := 0) (sl' := 0) (pc' := 39) (st' := [vi (if -2000 ≤ d ∧ d ≤ 2000 then 1 else 0)]) (idx := 98) (as := [vi d, vi (-2000), vi 2000]) (st := []) (m_B_isWithin hI.2.2 (by omega) (by omega)) (by decide +kernel) (show sOK "ChanceBench" 98 M_B_isWithin 3 = true by decide +kernel) rfl (Nat.le_of_ble_eq_true rfl) (by decide) (by decide) (by decide) rfl rfl rfl rfl ?_
    by_cases h2 : -2000 ≤ d ∧ d ≤ 2000
    · rw [if_pos h2]
      refine aw_if_ne (o := 5) (tgt := 44) (by decide +kernel) (by decide) (by omega) (fun _ => ?_) (fun c => absurd c (by omega))
      refine aw_blk (pc' := 48) (ls' := [some (vr 0 0), some (vi a), some (vi e), some (vi c), some (vi d), some (vr 9 k), none]) (st' := [vr 3 0]) [.inl (.aload_n 0), .inr (26, 0, 2)] 44 _ _ (by decide +kernel) rfl ?_
      refine aw_dV (cs' := 0) (sl' := 0) (pc' := 51) (st' := []) (idx := 81) (as := []) (st := []) (m_K_clear) (by decide +kernel) (show vOK "ChanceBench" 81 M_K_clear 0 = true by decide +kernel) rfl rfl rfl (Nat.le_of_ble_eq_true rfl) (by decide) (by decide) (by decide) rfl rfl rfl rfl ?_
      refine aw_blk (pc' := 54) (ls' := [some (vr 0 0), some (vi a), some (vi e), some (vi c), some (vi d), some (vr 9 k), some (vi 0)]) (st' := []) [.inl (.iconst 0), .inl (.istore 6)] 51 _ _ (by decide +kernel) rfl ?_
      refine up_to (W := fun i : Nat => ∀ (nn : Nat) (rr : Int) (ff gg : Nat → Int), mkR ((i : Int) * 1048576) (fun u => 0 + den (fun i => c * at_ i + d) (wt) i u) (False ∨ byd (fun i => c * at_ i + d) (wt) i) nn rr ff gg → AW G M_B_times Qr Qt 0 0 54 [some (vr 0 0), some (vi a), some (vi e), some (vi c), some (vi d), some (vr 9 k), some (vi (i : Int))] [] (Hp [some (ob 0 [vr 1 0, vr 2 0, vr 3 0, vr 4 0, vr 5 0, vr 6 0, vr 7 0, vi bd, vi tk])] [some (ob 1 [vr 1 1, vr 1 2, vr 1 3, vr 1 4, vi (od : Int), vi (dn : Int), vi (un : Int)]), some (rs 16 laws), some (ar 0 30 slot), some (rs 30 ahead), some (rs 30 made)] t [some (ob 3 [vr 3 1, vr 3 2, vi (nn : Int), vi rr]), some (ar 0 24 ff), some (ar 1 24 gg)] df jo tr di mo dy)) n ?_ (fun i hi ih => ?_) 0 (by omega) _ _ _ _ mkR_0.z
      · intro nn rr ff gg R
        have hn := A.1
        refine aw_blk (pc' := 58) (ls' := [some (vr 0 0), some (vi a), some (vi e), some (vi c), some (vi d), some (vr 9 k), some (vi (n : Int))]) (st' := [vr 9 k, vi (n : Int)]) [.inl (.iload 6), .inl (.aload 5)] 54 _ _ (by decide +kernel) rfl ?_
        refine aw_get (idx := 121) (ci := 9) (f := 0) (by decide +kernel) (by decide +kernel) hA.1 rfl ?_
        refine aw_alen (by decide +kernel) hA.2.1 (fun r61 => ?_)
        refine aw_icmp_ge (o := 41) (tgt := 103) (by decide +kernel) (by decide) (by omega) (by omega) (fun _ => ?_) (fun c => absurd (by omega) c)
        have R9 := R.e.eq (Int.le_refl _) (fun u _ => rfl) (show byd (fun i => c * at_ i + d) (wt) n ↔ (¬ ((-1000 ≤ c ∧ c ≤ 1000) ∧ (-2000 ≤ d ∧ d ≤ 2000)) ∨ byd (fun i => c * at_ i + d) (wt) n) from ⟨Or.inr, fun z => z.elim (fun z => absurd ⟨h1, h2⟩ z) id⟩)
        refine aw_blk (pc' := 105) (ls' := [some (vr 0 0), some (vi a), some (vi e), some (vi c), some (vi d), some (vr 9 k), some (vi (n : Int))]) (st' := [vi a, vr 0 0]) [.inl (.aload_n 0), .inl (.iload_n 1)] 103 _ _ (by decide +kernel) rfl ?_
        refine aw_rV (cs' := 3) (sl' := 51) (pc' := 108) (idx := 95) (as := [vi a]) (st := []) (m_B_settle ha (R9) (by omega) ho hd hl) (by decide +kernel) (show vOK "ChanceBench" 95 M_B_settle 1 = true by decide +kernel) rfl rfl rfl (Nat.le_of_ble_eq_true rfl) (by decide) (by decide) (by decide) rfl rfl rfl (fun r105 h105 z105 => ?_)
        rcases z105 with ⟨rfl, h1, rfl⟩ | ⟨rfl, h1, h2, m9, a9, w9, W9, h3, rfl⟩
        · exact aw_zret (by decide +kernel) rfl (by decide) (by decide) (by omega) (hq _ _ ⟨nn, rr, ff, gg, Or.inl ⟨rfl, h1, rfl⟩⟩)
        · exact aw_zret (by decide +kernel) rfl (by decide) (by decide) (by omega) (hq _ _ ⟨nn, rr, ff, gg, Or.inr ⟨rfl, h1, h2, m9, a9, w9, W9, h3, rfl⟩⟩)
      · intro nn rr ff gg R
        have hn := A.1
        have hai := A.2.2.1 i hi
        have hW := A.2.2.2.2.1
        refine aw_blk (pc' := 58) (ls' := [some (vr 0 0), some (vi a), some (vi e), some (vi c), some (vi d), some (vr 9 k), some (vi (i : Int))]) (st' := [vr 9 k, vi (i : Int)]) [.inl (.iload 6), .inl (.aload 5)] 54 _ _ (by decide +kernel) rfl ?_
        refine aw_get (idx := 121) (ci := 9) (f := 0) (by decide +kernel) (by decide +kernel) hA.1 rfl ?_
        refine aw_alen (by decide +kernel) hA.2.1 (fun r61 => ?_)
        refine aw_icmp_ge (o := 41) (tgt := 103) (by decide +kernel) (by decide) (by omega) (by omega) (fun c => absurd c (by omega)) (fun _ => ?_)
        have hm : -1000000 ≤ c * at_ i ∧ c * at_ i ≤ 1000000 := mul_in (x := 1000) (y := 1000) (by omega) (by omega) (by omega) (by omega)
        refine aw_blk (pc' := 70) (ls' := [some (vr 0 0), some (vi a), some (vi e), some (vi c), some (vi d), some (vr 9 k), some (vi (i : Int))]) (st' := [vi c, vr 3 0]) [.inl (.aload_n 0), .inr (26, 0, 2), .inl (.iload_n 3)] 65 _ _ (by decide +kernel) rfl ?_
        refine aw_i2l (by decide +kernel) (by omega) ?_
        refine aw_blk (pc' := 73) (ls' := [some (vr 0 0), some (vi a), some (vi e), some (vi c), some (vi d), some (vr 9 k), some (vi (i : Int))]) (st' := [vr 9 k, vl c, vr 3 0]) [.inl (.aload 5)] 71 _ _ (by decide +kernel) rfl ?_
        refine aw_get (idx := 121) (ci := 9) (f := 0) (by decide +kernel) (by decide +kernel) hA.1 rfl ?_
        refine aw_blk (pc' := 78) (ls' := [some (vr 0 0), some (vi a), some (vi e), some (vi c), some (vi d), some (vr 9 k), some (vi (i : Int))]) (st' := [vi (i : Int), vr 9 k1, vl c, vr 3 0]) [.inl (.iload 6)] 76 _ _ (by decide +kernel) rfl ?_
        refine aw_iald (j := i) (by decide +kernel) hA.2.1 (by omega) (by omega) (fun r78 => ?_)
        refine aw_i2l (by decide +kernel) (by omega) ?_
        refine aw_blk (pc' := 83) (ls' := [some (vr 0 0), some (vi a), some (vi e), some (vi c), some (vi d), some (vr 9 k), some (vi (i : Int))]) (st' := [vi d, vl (c * (at_ i)), vr 3 0]) [.inl (.lmul), .inl (.iload 4)] 80 _ _ (by decide +kernel) rfl ?_
        refine aw_i2l (by decide +kernel) (by omega) ?_
        refine aw_blk (pc' := 87) (ls' := [some (vr 0 0), some (vi a), some (vi e), some (vi c), some (vi d), some (vr 9 k), some (vi (i : Int))]) (st' := [vr 9 k, vl ((c * (at_ i)) + d), vr 3 0]) [.inl (.ladd), .inl (.aload 5)] 84 _ _ (by decide +kernel) rfl ?_
        refine aw_get (idx := 127) (ci := 9) (f := 1) (by decide +kernel) (by decide +kernel) hA.1 rfl ?_
        refine aw_blk (pc' := 92) (ls' := [some (vr 0 0), some (vi a), some (vi e), some (vi c), some (vi d), some (vr 9 k), some (vi (i : Int))]) (st' := [vi (i : Int), vr 9 k2, vl ((c * (at_ i)) + d), vr 3 0]) [.inl (.iload 6)] 90 _ _ (by decide +kernel) rfl ?_
        refine aw_iald (j := i) (by decide +kernel) hA.2.2 (by omega) (by omega) (fun r92 => ?_)
        refine aw_i2l (by decide +kernel) (by omega) ?_
        refine aw_rV (cs' := 0) (sl' := 0) (pc' := 97) (idx := 88) (as := [vl ((c * (at_ i)) + d), vl (wt i)]) (st := []) (m_K_addR R (by omega) (by omega) (by omega)) (by decide +kernel) (show vOK "ChanceBench" 88 M_K_add 2 = true by decide +kernel) rfl rfl rfl (Nat.le_of_ble_eq_true rfl) (by decide) (by decide) (by decide) rfl rfl rfl (fun r94 h94 z94 => ?_)
        obtain ⟨rfl, nn2, rr2, ff2, gg2, R2, rfl⟩ := z94
        refine aw_blk (pc' := 100) (ls' := [some (vr 0 0), some (vi a), some (vi e), some (vi c), some (vi d), some (vr 9 k), some (vi ((i : Int) + 1))]) (st' := []) [.inl (.iinc 6 1)] 97 _ _ (by decide +kernel) rfl ?_
        refine aw_goto (o := -46) (tgt := 54) (by decide +kernel) (by decide) ?_
        exact ih _ _ _ _ (R2.s (V := fun i => c * at_ i + d) (by omega))
    · rw [if_neg h2]
      refine aw_if_ne (o := 5) (tgt := 44) (by decide +kernel) (by decide) (by omega) (fun c => absurd (by omega) c) (fun _ => ?_)
      refine aw_blk (pc' := 43) (ls' := [some (vr 0 0), some (vi a), some (vi e), some (vi c), some (vi d), some (vr 9 k), none]) (st' := [vi 0]) [.inl (.iconst 0)] 42 _ _ (by decide +kernel) rfl ?_
      exact aw_zret (by decide +kernel) rfl (by decide) (by decide) (by omega) (hq _ _ ⟨nn, rr, ff, gg, Or.inl ⟨rfl, fun z => z.2.1 (Or.inl (fun z => h2 z.2)), rfl⟩⟩)
  · rw [if_neg h1]
    refine aw_if_eq (o := 17) (tgt := 42) (by decide +kernel) (by decide) (by omega) (fun _ => ?_) (fun c => absurd (by omega) c)
    refine aw_blk (pc' := 43) (ls' := [some (vr 0 0), some (vi a), some (vi e), some (vi c), some (vi d), some (vr 9 k), none]) (st' := [vi 0]) [.inl (.iconst 0)] 42 _ _ (by decide +kernel) rfl ?_
    exact aw_zret (by decide +kernel) rfl (by decide) (by decide) (by omega) (hq _ _ ⟨nn, rr, ff, gg, Or.inl ⟨rfl, fun z => z.2.1 (Or.inl (fun z => h1 z.1)), rfl⟩⟩)

theorem m_B_times_0 (hI : I32 e) (hl1 : lawAt laws e = none) : ADet G M_B_times [vr 0 0, vi a, vi e, vi c, vi d] (Hp (sgB bd tk) (sgS laws slot ahead made (od : Int) (dn : Int) (un : Int)) t (sgK (nn : Int) rr ff gg) df jo tr di mo dy) (some (vi 0)) (Hp (sgB bd tk) (sgS laws slot ahead made (od : Int) (dn : Int) (un : Int)) t (sgK (nn : Int) rr ff gg) df jo tr di mo dy) := by
  refine am_det (by decide +kernel) (Nat.le_of_ble_eq_true rfl) (fun Qr Qt hq => ?_)
  refine aw_blk (pc' := 5) (ls' := [some (vr 0 0), some (vi a), some (vi e), some (vi c), some (vi d), none, none]) (st' := [vi e, vr 1 0]) [.inl (.aload_n 0), .inr (10, 0, 0), .inl (.iload_n 2)] 0 _ _ (by decide +kernel) rfl ?_
  refine aw_dV (cs' := 0) (sl' := 0) (pc' := 8) (st' := [vo (lawAt laws e)]) (idx := 117) (as := [vi e]) (st := []) (m_S_lawIn hI) (by decide +kernel) (show vOK "ChanceBench" 117 M_S_lawIn 1 = true by decide +kernel) rfl rfl rfl (Nat.le_of_ble_eq_true rfl) (by decide) (by decide) (by decide) rfl rfl rfl rfl ?_
  rw [hl1]
  refine aw_blk (pc' := 12) (ls' := [some (vr 0 0), some (vi a), some (vi e), some (vi c), some (vi d), some (vn), none]) (st' := [vn]) [.inl (.astore 5), .inl (.aload 5)] 8 _ _ (by decide +kernel) rfl ?_
  refine aw_ifnull (o := 30) (tgt := 42) (by decide +kernel) (by decide) (fun _ => ?_) (fun _ z => nomatch z)
  refine aw_blk (pc' := 43) (ls' := [some (vr 0 0), some (vi a), some (vi e), some (vi c), some (vi d), some (vn), none]) (st' := [vi 0]) [.inl (.iconst 0)] 42 _ _ (by decide +kernel) rfl ?_
  exact aw_zret (by decide +kernel) rfl (by decide) (by decide) (by omega) (hq _ _ rfl rfl)

theorem m_B_given (ha : I32 a) (hI : I32 e ∧ I32 c ∧ I32 d) (hl1 : lawAt laws e = some (9, k)) (hA : isD dy k k1 k2 n at_ wt W) (A : lwN n at_ wt W) (ho : od < 30) (hd : dn ≤ 30) (hl : lwOK dy laws) : AMet G M_B_given [vr 0 0, vi a, vi e, vi c, vi d] (Hp (sgB bd tk) (sgS laws slot ahead made (od : Int) (dn : Int) (un : Int)) t (sgK (nn : Int) rr ff gg) df jo tr di mo dy) (fun r h => ∃ (nn : Nat) (rr : Int) (ff gg : Nat → Int), stl laws slot ahead made od dn un bd tk t (sgK (nn : Int) rr ff gg) df jo tr di mo dy a (den (at_) (fun i => if c ≤ at_ i ∧ at_ i ≤ d then wt i else 0) n) (byd (at_) (fun i => if c ≤ at_ i ∧ at_ i ≤ d then wt i else 0) n) r h) (fun _ => False) := by
  refine am_rel (by decide +kernel) (Nat.le_of_ble_eq_true rfl) (fun Qr Qt hq => ?_)
  refine aw_blk (pc' := 5) (ls' := [some (vr 0 0), some (vi a), some (vi e), some (vi c), some (vi d), none, none]) (st' := [vi e, vr 1 0]) [.inl (.aload_n 0), .inr (10, 0, 0), .inl (.iload_n 2)] 0 _ _ (by decide +kernel) rfl ?_
  refine aw_dV (cs' := 0) (sl' := 0) (pc' := 8) (st' := [vo (lawAt laws e)]) (idx := 117) (as := [vi e]) (st := []) (m_S_lawIn hI.1) (by decide +kernel) (show vOK "ChanceBench" 117 M_S_lawIn 1 = true by decide +kernel) rfl rfl rfl (Nat.le_of_ble_eq_true rfl) (by decide) (by decide) (by decide) rfl rfl rfl rfl ?_
  rw [hl1]
  refine aw_blk (pc' := 12) (ls' := [some (vr 0 0), some (vi a), some (vi e), some (vi c), some (vi d), some (vr 9 k), none]) (st' := [vr 9 k]) [.inl (.astore 5), .inl (.aload 5)] 8 _ _ (by decide +kernel) rfl ?_
  refine aw_ifnonnull (o := 5) (tgt := 17) (by decide +kernel) (by decide) (fun _ _ => ?_) (fun z => nomatch z)
  refine aw_blk (pc' := 21) (ls' := [some (vr 0 0), some (vi a), some (vi e), some (vi c), some (vi d), some (vr 9 k), none]) (st' := [vr 3 0]) [.inl (.aload_n 0), .inr (26, 0, 2)] 17 _ _ (by decide +kernel) rfl ?_
  refine aw_dV (cs' := 0) (sl' := 0) (pc' := 24) (st' := []) (idx := 81) (as := []) (st := []) (m_K_clear) (by decide +kernel) (show vOK "ChanceBench" 81 M_K_clear 0 = true by decide +kernel) rfl rfl rfl (Nat.le_of_ble_eq_true rfl) (by decide) (by decide) (by decide) rfl rfl rfl rfl ?_
  refine aw_blk (pc' := 27) (ls' := [some (vr 0 0), some (vi a), some (vi e), some (vi c), some (vi d), some (vr 9 k), some (vi 0)]) (st' := []) [.inl (.iconst 0), .inl (.istore 6)] 24 _ _ (by decide +kernel) rfl ?_
  refine up_to (W := fun i : Nat => ∀ (nn : Nat) (rr : Int) (ff gg : Nat → Int), mkR ((i : Int) * 1048576) (fun u => 0 + den (at_) (fun i => if c ≤ at_ i ∧ at_ i ≤ d then wt i else 0) i u) (False ∨ byd (at_) (fun i => if c ≤ at_ i ∧ at_ i ≤ d then wt i else 0) i) nn rr ff gg → AW G M_B_given Qr Qt 0 0 27 [some (vr 0 0), some (vi a), some (vi e), some (vi c), some (vi d), some (vr 9 k), some (vi (i : Int))] [] (Hp [some (ob 0 [vr 1 0, vr 2 0, vr 3 0, vr 4 0, vr 5 0, vr 6 0, vr 7 0, vi bd, vi tk])] [some (ob 1 [vr 1 1, vr 1 2, vr 1 3, vr 1 4, vi (od : Int), vi (dn : Int), vi (un : Int)]), some (rs 16 laws), some (ar 0 30 slot), some (rs 30 ahead), some (rs 30 made)] t [some (ob 3 [vr 3 1, vr 3 2, vi (nn : Int), vi rr]), some (ar 0 24 ff), some (ar 1 24 gg)] df jo tr di mo dy)) n ?_ (fun i hi ih => ?_) 0 (by omega) _ _ _ _ mkR_0.z
  · intro nn rr ff gg R
    have hn := A.1
    refine aw_blk (pc' := 31) (ls' := [some (vr 0 0), some (vi a), some (vi e), some (vi c), some (vi d), some (vr 9 k), some (vi (n : Int))]) (st' := [vr 9 k, vi (n : Int)]) [.inl (.iload 6), .inl (.aload 5)] 27 _ _ (by decide +kernel) rfl ?_
    refine aw_get (idx := 121) (ci := 9) (f := 0) (by decide +kernel) (by decide +kernel) hA.1 rfl ?_
    refine aw_alen (by decide +kernel) hA.2.1 (fun r34 => ?_)
    refine aw_icmp_ge (o := 51) (tgt := 86) (by decide +kernel) (by decide) (by omega) (by omega) (fun _ => ?_) (fun c => absurd (by omega) c)
    have R9 := R.e
    refine aw_blk (pc' := 88) (ls' := [some (vr 0 0), some (vi a), some (vi e), some (vi c), some (vi d), some (vr 9 k), some (vi (n : Int))]) (st' := [vi a, vr 0 0]) [.inl (.aload_n 0), .inl (.iload_n 1)] 86 _ _ (by decide +kernel) rfl ?_
    refine aw_rV (cs' := 3) (sl' := 51) (pc' := 91) (idx := 95) (as := [vi a]) (st := []) (m_B_settle ha (R9) (by omega) ho hd hl) (by decide +kernel) (show vOK "ChanceBench" 95 M_B_settle 1 = true by decide +kernel) rfl rfl rfl (Nat.le_of_ble_eq_true rfl) (by decide) (by decide) (by decide) rfl rfl rfl (fun r88 h88 z88 => ?_)
    rcases z88 with ⟨rfl, h1, rfl⟩ | ⟨rfl, h1, h2, m9, a9, w9, W9, h3, rfl⟩
    · exact aw_zret (by decide +kernel) rfl (by decide) (by decide) (by omega) (hq _ _ ⟨nn, rr, ff, gg, Or.inl ⟨rfl, h1, rfl⟩⟩)
    · exact aw_zret (by decide +kernel) rfl (by decide) (by decide) (by omega) (hq _ _ ⟨nn, rr, ff, gg, Or.inr ⟨rfl, h1, h2, m9, a9, w9, W9, h3, rfl⟩⟩)
  · intro nn rr ff gg R
    have hn := A.1
    have hai := A.2.2.1 i hi
    have hW := A.2.2.2.2.1
    refine aw_blk (pc' := 31) (ls' := [some (vr 0 0), some (vi a), some (vi e), some (vi c), some (vi d), some (vr 9 k), some (vi (i : Int))]) (st' := [vr 9 k, vi (i : Int)]) [.inl (.iload 6), .inl (.aload 5)] 27 _ _ (by decide +kernel) rfl ?_
    refine aw_get (idx := 121) (ci := 9) (f := 0) (by decide +kernel) (by decide +kernel) hA.1 rfl ?_
    refine aw_alen (by decide +kernel) hA.2.1 (fun r34 => ?_)
    refine aw_icmp_ge (o := 51) (tgt := 86) (by decide +kernel) (by decide) (by omega) (by omega) (fun c => absurd c (by omega)) (fun _ => ?_)
    refine aw_blk (pc' := 40) (ls' := [some (vr 0 0), some (vi a), some (vi e), some (vi c), some (vi d), some (vr 9 k), some (vi (i : Int))]) (st' := [vr 9 k]) [.inl (.aload 5)] 38 _ _ (by decide +kernel) rfl ?_
    refine aw_get (idx := 121) (ci := 9) (f := 0) (by decide +kernel) (by decide +kernel) hA.1 rfl ?_
    refine aw_blk (pc' := 45) (ls' := [some (vr 0 0), some (vi a), some (vi e), some (vi c), some (vi d), some (vr 9 k), some (vi (i : Int))]) (st' := [vi (i : Int), vr 9 k1]) [.inl (.iload 6)] 43 _ _ (by decide +kernel) rfl ?_
    refine aw_iald (j := i) (by decide +kernel) hA.2.1 (by omega) (by omega) (fun r45 => ?_)
    refine aw_blk (pc' := 49) (ls' := [some (vr 0 0), some (vi a), some (vi e), some (vi c), some (vi d), some (vr 9 k), some (vi (i : Int))]) (st' := [vi d, vi c, vi (at_ i)]) [.inl (.iload_n 3), .inl (.iload 4)] 46 _ _ (by decide +kernel) rfl ?_
    refine aw_dS (cs' := 0) (sl' := 0) (pc' := 52) (st' := [vi (if c ≤ at_ i ∧ at_ i ≤ d then 1 else 0)]) (idx := 98) (as := [vi (at_ i), vi c, vi d]) (st := []) (m_B_isWithin (by omega) hI.2.1 hI.2.2) (by decide +kernel) (show sOK "ChanceBench" 98 M_B_isWithin 3 = true by decide +kernel) rfl (Nat.le_of_ble_eq_true rfl) (by decide) (by decide) (by decide) rfl rfl rfl rfl ?_
    by_cases h1 : c ≤ at_ i ∧ at_ i ≤ d
    · rw [if_pos h1]
      refine aw_if_eq (o := 28) (tgt := 80) (by decide +kernel) (by decide) (by omega) (fun c => absurd c (by omega)) (fun _ => ?_)
      refine aw_blk (pc' := 61) (ls' := [some (vr 0 0), some (vi a), some (vi e), some (vi c), some (vi d), some (vr 9 k), some (vi (i : Int))]) (st' := [vr 9 k, vr 3 0]) [.inl (.aload_n 0), .inr (26, 0, 2), .inl (.aload 5)] 55 _ _ (by decide +kernel) rfl ?_
      refine aw_get (idx := 121) (ci := 9) (f := 0) (by decide +kernel) (by decide +kernel) hA.1 rfl ?_
      refine aw_blk (pc' := 66) (ls' := [some (vr 0 0), some (vi a), some (vi e), some (vi c), some (vi d), some (vr 9 k), some (vi (i : Int))]) (st' := [vi (i : Int), vr 9 k1, vr 3 0]) [.inl (.iload 6)] 64 _ _ (by decide +kernel) rfl ?_
      refine aw_iald (j := i) (by decide +kernel) hA.2.1 (by omega) (by omega) (fun r66 => ?_)
      refine aw_i2l (by decide +kernel) (by omega) ?_
      refine aw_blk (pc' := 70) (ls' := [some (vr 0 0), some (vi a), some (vi e), some (vi c), some (vi d), some (vr 9 k), some (vi (i : Int))]) (st' := [vr 9 k, vl (at_ i), vr 3 0]) [.inl (.aload 5)] 68 _ _ (by decide +kernel) rfl ?_
      refine aw_get (idx := 127) (ci := 9) (f := 1) (by decide +kernel) (by decide +kernel) hA.1 rfl ?_
      refine aw_blk (pc' := 75) (ls' := [some (vr 0 0), some (vi a), some (vi e), some (vi c), some (vi d), some (vr 9 k), some (vi (i : Int))]) (st' := [vi (i : Int), vr 9 k2, vl (at_ i), vr 3 0]) [.inl (.iload 6)] 73 _ _ (by decide +kernel) rfl ?_
      refine aw_iald (j := i) (by decide +kernel) hA.2.2 (by omega) (by omega) (fun r75 => ?_)
      refine aw_i2l (by decide +kernel) (by omega) ?_
      refine aw_rV (cs' := 0) (sl' := 0) (pc' := 80) (idx := 88) (as := [vl (at_ i), vl (wt i)]) (st := []) (m_K_addR R (by omega) (by omega) (by omega)) (by decide +kernel) (show vOK "ChanceBench" 88 M_K_add 2 = true by decide +kernel) rfl rfl rfl (Nat.le_of_ble_eq_true rfl) (by decide) (by decide) (by decide) rfl rfl rfl (fun r77 h77 z77 => ?_)
      obtain ⟨rfl, nn2, rr2, ff2, gg2, R2, rfl⟩ := z77
      refine aw_blk (pc' := 83) (ls' := [some (vr 0 0), some (vi a), some (vi e), some (vi c), some (vi d), some (vr 9 k), some (vi ((i : Int) + 1))]) (st' := []) [.inl (.iinc 6 1)] 80 _ _ (by decide +kernel) rfl ?_
      refine aw_goto (o := -56) (tgt := 27) (by decide +kernel) (by decide) ?_
      exact ih _ _ _ _ (mkR.s (V := at_) (C := fun i => if c ≤ at_ i ∧ at_ i ≤ d then wt i else 0) (i := i) (B := (i : Int) * 1048576) (R2.eq (by simp only [if_pos h1]; omega) (fun u _ => by simp only [if_pos h1]) (by simp only [if_pos h1])) (by simp only [if_pos h1]; omega))
    · rw [if_neg h1]
      refine aw_if_eq (o := 28) (tgt := 80) (by decide +kernel) (by decide) (by omega) (fun _ => ?_) (fun c => absurd (by omega) c)
      refine aw_blk (pc' := 83) (ls' := [some (vr 0 0), some (vi a), some (vi e), some (vi c), some (vi d), some (vr 9 k), some (vi ((i : Int) + 1))]) (st' := []) [.inl (.iinc 6 1)] 80 _ _ (by decide +kernel) rfl ?_
      refine aw_goto (o := -56) (tgt := 27) (by decide +kernel) (by decide) ?_
      exact ih _ _ _ _ (mkR.s (V := at_) (C := fun i => if c ≤ at_ i ∧ at_ i ≤ d then wt i else 0) (i := i) (B := (i : Int) * 1048576) (R.eq (by simp only [if_neg h1]; omega) (fun u _ => by simp only [if_neg h1]; split <;> omega) ⟨fun z => Or.inl z, fun z => z.elim id (fun z => by simp only [if_neg h1] at z; omega)⟩) (by simp only [if_neg h1]; omega))

theorem m_B_given_0 (hI : I32 e) (hl1 : lawAt laws e = none) : ADet G M_B_given [vr 0 0, vi a, vi e, vi c, vi d] (Hp (sgB bd tk) (sgS laws slot ahead made (od : Int) (dn : Int) (un : Int)) t (sgK (nn : Int) rr ff gg) df jo tr di mo dy) (some (vi 0)) (Hp (sgB bd tk) (sgS laws slot ahead made (od : Int) (dn : Int) (un : Int)) t (sgK (nn : Int) rr ff gg) df jo tr di mo dy) := by
  refine am_det (by decide +kernel) (Nat.le_of_ble_eq_true rfl) (fun Qr Qt hq => ?_)
  refine aw_blk (pc' := 5) (ls' := [some (vr 0 0), some (vi a), some (vi e), some (vi c), some (vi d), none, none]) (st' := [vi e, vr 1 0]) [.inl (.aload_n 0), .inr (10, 0, 0), .inl (.iload_n 2)] 0 _ _ (by decide +kernel) rfl ?_
  refine aw_dV (cs' := 0) (sl' := 0) (pc' := 8) (st' := [vo (lawAt laws e)]) (idx := 117) (as := [vi e]) (st := []) (m_S_lawIn hI) (by decide +kernel) (show vOK "ChanceBench" 117 M_S_lawIn 1 = true by decide +kernel) rfl rfl rfl (Nat.le_of_ble_eq_true rfl) (by decide) (by decide) (by decide) rfl rfl rfl rfl ?_
  rw [hl1]
  refine aw_blk (pc' := 12) (ls' := [some (vr 0 0), some (vi a), some (vi e), some (vi c), some (vi d), some (vn), none]) (st' := [vn]) [.inl (.astore 5), .inl (.aload 5)] 8 _ _ (by decide +kernel) rfl ?_
  refine aw_ifnonnull (o := 5) (tgt := 17) (by decide +kernel) (by decide) (fun _ z => nomatch z) (fun _ => ?_)
  refine aw_blk (pc' := 16) (ls' := [some (vr 0 0), some (vi a), some (vi e), some (vi c), some (vi d), some (vn), none]) (st' := [vi 0]) [.inl (.iconst 0)] 15 _ _ (by decide +kernel) rfl ?_
  exact aw_zret (by decide +kernel) rfl (by decide) (by decide) (by omega) (hq _ _ rfl rfl)

theorem m_B_addAll (hA : isD dy k k1 k2 n at_ wt W) (A : lwN n at_ wt W) (hc : 0 ≤ c ∧ c ≤ 1048576000) (R0 : mkR B T by_ nn rr ff gg) (hB : B ≤ 100000000000000000) : AMet G M_B_addAll [vr 0 0, vr 9 k, vl c] (Hp (sgB bd tk) (sgS laws slot ahead made (od : Int) (dn : Int) (un : Int)) t (sgK (nn : Int) rr ff gg) df jo tr di mo dy) (fun r h => r = none ∧ ∃ (nn : Nat) (rr : Int) (ff gg : Nat → Int), mkR (B + 26400000000000000) (fun u => T u + den at_ (fun i => wt i * c) n u) (by_ ∨ byd at_ (fun i => wt i * c) n) nn rr ff gg ∧ h = Hp (sgB bd tk) (sgS laws slot ahead made (od : Int) (dn : Int) (un : Int)) t (sgK (nn : Int) rr ff gg) df jo tr di mo dy) (fun _ => False) := by
  refine am_rel (by decide +kernel) (Nat.le_of_ble_eq_true rfl) (fun Qr Qt hq => ?_)
  have hn := A.1
  refine aw_blk (pc' := 3) (ls' := [some (vr 0 0), some (vr 9 k), some (vl c), none, some (vi 0)]) (st' := []) [.inl (.iconst 0), .inl (.istore 4)] 0 _ _ (by decide +kernel) rfl ?_
  refine up_to (W := fun i : Nat => ∀ (nn : Nat) (rr : Int) (ff gg : Nat → Int), mkR (B + (i : Int) * 1100000000000000) (fun u => T u + den at_ (fun i => wt i * c) i u) (by_ ∨ byd at_ (fun i => wt i * c) i) nn rr ff gg → AW G M_B_addAll Qr Qt 0 0 3 [some (vr 0 0), some (vr 9 k), some (vl c), none, some (vi (i : Int))] [] (Hp [some (ob 0 [vr 1 0, vr 2 0, vr 3 0, vr 4 0, vr 5 0, vr 6 0, vr 7 0, vi bd, vi tk])] [some (ob 1 [vr 1 1, vr 1 2, vr 1 3, vr 1 4, vi (od : Int), vi (dn : Int), vi (un : Int)]), some (rs 16 laws), some (ar 0 30 slot), some (rs 30 ahead), some (rs 30 made)] t [some (ob 3 [vr 3 1, vr 3 2, vi (nn : Int), vi rr]), some (ar 0 24 ff), some (ar 1 24 gg)] df jo tr di mo dy)) n ?_ (fun i hi ih => ?_) 0 (by omega) _ _ _ _ (show mkR (B + ((0 : Nat) : Int) * 1100000000000000) _ _ nn rr ff gg from R0.z.eq (by omega) (fun _ _ => rfl) Iff.rfl)
  · intro nn rr ff gg R
    refine aw_blk (pc' := 6) (ls' := [some (vr 0 0), some (vr 9 k), some (vl c), none, some (vi (n : Int))]) (st' := [vr 9 k, vi (n : Int)]) [.inl (.iload 4), .inl (.aload_n 1)] 3 _ _ (by decide +kernel) rfl ?_
    refine aw_get (idx := 121) (ci := 9) (f := 0) (by decide +kernel) (by decide +kernel) hA.1 rfl ?_
    refine aw_alen (by decide +kernel) hA.2.1 (fun r9 => ?_)
    refine aw_icmp_ge (o := 34) (tgt := 44) (by decide +kernel) (by decide) (by omega) (by omega) (fun _ => ?_) (fun c => absurd (by omega) c)
    exact aw_vret (by decide +kernel) rfl (by decide) (by decide) (hq _ _ ⟨rfl, nn, rr, ff, gg, R.eq (by omega) (fun _ _ => rfl) Iff.rfl, rfl⟩)
  · intro nn rr ff gg R
    have hai := A.2.2.1 i hi
    have hW := A.2.2.2.2.1
    have hm : 0 ≤ wt i * c ∧ wt i * c ≤ 1100000000000000 := ⟨Int.mul_nonneg (by omega) (by omega), by have := Int.mul_le_mul (show wt i ≤ 1048576 by omega) hc.2 hc.1 (by omega); omega⟩
    refine aw_blk (pc' := 6) (ls' := [some (vr 0 0), some (vr 9 k), some (vl c), none, some (vi (i : Int))]) (st' := [vr 9 k, vi (i : Int)]) [.inl (.iload 4), .inl (.aload_n 1)] 3 _ _ (by decide +kernel) rfl ?_
    refine aw_get (idx := 121) (ci := 9) (f := 0) (by decide +kernel) (by decide +kernel) hA.1 rfl ?_
    refine aw_alen (by decide +kernel) hA.2.1 (fun r9 => ?_)
    refine aw_icmp_ge (o := 34) (tgt := 44) (by decide +kernel) (by decide) (by omega) (by omega) (fun c => absurd c (by omega)) (fun _ => ?_)
    refine aw_blk (pc' := 18) (ls' := [some (vr 0 0), some (vr 9 k), some (vl c), none, some (vi (i : Int))]) (st' := [vr 9 k, vr 3 0]) [.inl (.aload_n 0), .inr (26, 0, 2), .inl (.aload_n 1)] 13 _ _ (by decide +kernel) rfl ?_
    refine aw_get (idx := 121) (ci := 9) (f := 0) (by decide +kernel) (by decide +kernel) hA.1 rfl ?_
    refine aw_blk (pc' := 23) (ls' := [some (vr 0 0), some (vr 9 k), some (vl c), none, some (vi (i : Int))]) (st' := [vi (i : Int), vr 9 k1, vr 3 0]) [.inl (.iload 4)] 21 _ _ (by decide +kernel) rfl ?_
    refine aw_iald (j := i) (by decide +kernel) hA.2.1 (by omega) (by omega) (fun r23 => ?_)
    refine aw_i2l (by decide +kernel) (by omega) ?_
    refine aw_blk (pc' := 26) (ls' := [some (vr 0 0), some (vr 9 k), some (vl c), none, some (vi (i : Int))]) (st' := [vr 9 k, vl (at_ i), vr 3 0]) [.inl (.aload_n 1)] 25 _ _ (by decide +kernel) rfl ?_
    refine aw_get (idx := 127) (ci := 9) (f := 1) (by decide +kernel) (by decide +kernel) hA.1 rfl ?_
    refine aw_blk (pc' := 31) (ls' := [some (vr 0 0), some (vr 9 k), some (vl c), none, some (vi (i : Int))]) (st' := [vi (i : Int), vr 9 k2, vl (at_ i), vr 3 0]) [.inl (.iload 4)] 29 _ _ (by decide +kernel) rfl ?_
    refine aw_iald (j := i) (by decide +kernel) hA.2.2 (by omega) (by omega) (fun r31 => ?_)
    refine aw_i2l (by decide +kernel) (by omega) ?_
    refine aw_blk (pc' := 35) (ls' := [some (vr 0 0), some (vr 9 k), some (vl c), none, some (vi (i : Int))]) (st' := [vl ((wt i) * c), vl (at_ i), vr 3 0]) [.inl (.lload_n 2), .inl (.lmul)] 33 _ _ (by decide +kernel) rfl ?_
    refine aw_rV (cs' := 0) (sl' := 0) (pc' := 38) (idx := 88) (as := [vl (at_ i), vl ((wt i) * c)]) (st := []) (m_K_addR R (by omega) (by omega) (by omega)) (by decide +kernel) (show vOK "ChanceBench" 88 M_K_add 2 = true by decide +kernel) rfl rfl rfl (Nat.le_of_ble_eq_true rfl) (by decide) (by decide) (by decide) rfl rfl rfl (fun r35 h35 z35 => ?_)
    obtain ⟨rfl, nn2, rr2, ff2, gg2, R2, rfl⟩ := z35
    refine aw_blk (pc' := 41) (ls' := [some (vr 0 0), some (vr 9 k), some (vl c), none, some (vi ((i : Int) + 1))]) (st' := []) [.inl (.iinc 4 1)] 38 _ _ (by decide +kernel) rfl ?_
    refine aw_goto (o := -38) (tgt := 3) (by decide +kernel) (by decide) ?_
    exact ih _ _ _ _ (R2.s (V := at_) (C := fun i => wt i * c) (by show _ + wt i * c ≤ _; omega))

theorem m_B_mix (ha : I32 a) (hI : I32 e ∧ I32 B ∧ I32 c ∧ I32 d) (hl1 : lawAt laws e = some (9, k)) (hl2 : lawAt laws B = some (9, q)) (hA : isD dy k k1 k2 n at_ wt W) (A : lwN n at_ wt W) (hA2 : isD dy q q1 q2 m at2 wt2 W2) (A2 : lwN m at2 wt2 W2) (ho : od < 30) (hd : dn ≤ 30) (hl : lwOK dy laws) : AMet G M_B_mix [vr 0 0, vi a, vi e, vi B, vi c, vi d] (Hp (sgB bd tk) (sgS laws slot ahead made (od : Int) (dn : Int) (un : Int)) t (sgK (nn : Int) rr ff gg) df jo tr di mo dy) (fun r h => ∃ (nn : Nat) (rr : Int) (ff gg : Nat → Int), stl laws slot ahead made od dn un bd tk t (sgK (nn : Int) rr ff gg) df jo tr di mo dy a (fun u => den at_ (fun i => wt i * (c * W2)) n u + den at2 (fun i => wt2 i * ((d - c) * W)) m u) (¬ ((1 ≤ d ∧ d ≤ 1000) ∧ (0 ≤ c ∧ c ≤ d)) ∨ byd at_ (fun i => wt i * (c * W2)) n ∨ byd at2 (fun i => wt2 i * ((d - c) * W)) m) r h) (fun _ => False) := by
  refine am_rel (by decide +kernel) (Nat.le_of_ble_eq_true rfl) (fun Qr Qt hq => ?_)
  have hW := A.2.2.2.1
  have hW1 := A.2.2.2.2.1
  have hW2 := A2.2.2.2.1
  have hW3 := A2.2.2.2.2.1
  refine aw_blk (pc' := 5) (ls' := [some (vr 0 0), some (vi a), some (vi e), some (vi B), some (vi c), some (vi d), none, none]) (st' := [vi e, vr 1 0]) [.inl (.aload_n 0), .inr (10, 0, 0), .inl (.iload_n 2)] 0 _ _ (by decide +kernel) rfl ?_
  refine aw_dV (cs' := 0) (sl' := 0) (pc' := 8) (st' := [vo (lawAt laws e)]) (idx := 117) (as := [vi e]) (st := []) (m_S_lawIn hI.1) (by decide +kernel) (show vOK "ChanceBench" 117 M_S_lawIn 1 = true by decide +kernel) rfl rfl rfl (Nat.le_of_ble_eq_true rfl) (by decide) (by decide) (by decide) rfl rfl rfl rfl ?_
  rw [hl1]
  refine aw_blk (pc' := 15) (ls' := [some (vr 0 0), some (vi a), some (vi e), some (vi B), some (vi c), some (vi d), some (vr 9 k), none]) (st' := [vi B, vr 1 0]) [.inl (.astore 6), .inl (.aload_n 0), .inr (10, 0, 0), .inl (.iload_n 3)] 8 _ _ (by decide +kernel) rfl ?_
  refine aw_dV (cs' := 0) (sl' := 0) (pc' := 18) (st' := [vo (lawAt laws B)]) (idx := 117) (as := [vi B]) (st := []) (m_S_lawIn hI.2.1) (by decide +kernel) (show vOK "ChanceBench" 117 M_S_lawIn 1 = true by decide +kernel) rfl rfl rfl (Nat.le_of_ble_eq_true rfl) (by decide) (by decide) (by decide) rfl rfl rfl rfl ?_
  rw [hl2]
  refine aw_blk (pc' := 22) (ls' := [some (vr 0 0), some (vi a), some (vi e), some (vi B), some (vi c), some (vi d), some (vr 9 k), some (vr 9 q)]) (st' := [vr 9 k]) [.inl (.astore 7), .inl (.aload 6)] 18 _ _ (by decide +kernel) rfl ?_
  refine aw_ifnull (o := 21) (tgt := 43) (by decide +kernel) (by decide) (fun z => nomatch z) (fun _ _ => ?_)
  refine aw_blk (pc' := 27) (ls' := [some (vr 0 0), some (vi a), some (vi e), some (vi B), some (vi c), some (vi d), some (vr 9 k), some (vr 9 q)]) (st' := [vr 9 q]) [.inl (.aload 7)] 25 _ _ (by decide +kernel) rfl ?_
  refine aw_ifnull (o := 16) (tgt := 43) (by decide +kernel) (by decide) (fun z => nomatch z) (fun _ _ => ?_)
  refine aw_blk (pc' := 37) (ls' := [some (vr 0 0), some (vi a), some (vi e), some (vi B), some (vi c), some (vi d), some (vr 9 k), some (vr 9 q)]) (st' := [vi 1000, vi d, vi c]) [.inl (.iload 4), .inl (.iload 5), .inl (.sipush 1000)] 30 _ _ (by decide +kernel) rfl ?_
  refine aw_dS (cs' := 0) (sl' := 0) (pc' := 40) (st' := [vi (if (1 ≤ d ∧ d ≤ 1000) ∧ (0 ≤ c ∧ c ≤ d) then 1 else 0)]) (idx := 110) (as := [vi c, vi d, vi 1000]) (st := []) (m_B_isShare hI.2.2.1 hI.2.2.2 (by omega)) (by decide +kernel) (show sOK "ChanceBench" 110 M_B_isShare 3 = true by decide +kernel) rfl (Nat.le_of_ble_eq_true rfl) (by decide) (by decide) (by decide) rfl rfl rfl rfl ?_
  by_cases hv : (1 ≤ d ∧ d ≤ 1000) ∧ (0 ≤ c ∧ c ≤ d)
  · rw [if_pos hv]
    refine aw_if_ne (o := 5) (tgt := 45) (by decide +kernel) (by decide) (by omega) (fun _ => ?_) (fun c => absurd c (by omega))
    refine aw_blk (pc' := 49) (ls' := [some (vr 0 0), some (vi a), some (vi e), some (vi B), some (vi c), some (vi d), some (vr 9 k), some (vr 9 q)]) (st' := [vr 3 0]) [.inl (.aload_n 0), .inr (26, 0, 2)] 45 _ _ (by decide +kernel) rfl ?_
    refine aw_dV (cs' := 0) (sl' := 0) (pc' := 52) (st' := []) (idx := 81) (as := []) (st := []) (m_K_clear) (by decide +kernel) (show vOK "ChanceBench" 81 M_K_clear 0 = true by decide +kernel) rfl rfl rfl (Nat.le_of_ble_eq_true rfl) (by decide) (by decide) (by decide) rfl rfl rfl rfl ?_
    refine aw_blk (pc' := 57) (ls' := [some (vr 0 0), some (vi a), some (vi e), some (vi B), some (vi c), some (vi d), some (vr 9 k), some (vr 9 q)]) (st' := [vi c, vr 9 k, vr 0 0]) [.inl (.aload_n 0), .inl (.aload 6), .inl (.iload 4)] 52 _ _ (by decide +kernel) rfl ?_
    refine aw_i2l (by decide +kernel) (by omega) ?_
    refine aw_blk (pc' := 60) (ls' := [some (vr 0 0), some (vi a), some (vi e), some (vi B), some (vi c), some (vi d), some (vr 9 k), some (vr 9 q)]) (st' := [vr 9 q, vl c, vr 9 k, vr 0 0]) [.inl (.aload 7)] 58 _ _ (by decide +kernel) rfl ?_
    refine aw_get (idx := 130) (ci := 9) (f := 2) (by decide +kernel) (by decide +kernel) hA2.1 rfl ?_
    refine aw_i2l (by decide +kernel) (by omega) ?_
    refine aw_blk (pc' := 65) (ls' := [some (vr 0 0), some (vi a), some (vi e), some (vi B), some (vi c), some (vi d), some (vr 9 k), some (vr 9 q)]) (st' := [vl (c * W2), vr 9 k, vr 0 0]) [.inl (.lmul)] 64 _ _ (by decide +kernel) rfl ?_
    have hm1 : 0 ≤ c * W2 ∧ c * W2 ≤ 1048576000 := ⟨Int.mul_nonneg (by omega) (by omega), by have := Int.mul_le_mul (show c ≤ 1000 by omega) hW3 (by omega) (by omega); omega⟩
    have hm2 : 0 ≤ (d - c) * W ∧ (d - c) * W ≤ 1048576000 := ⟨Int.mul_nonneg (by omega) (by omega), by have := Int.mul_le_mul (show d - c ≤ 1000 by omega) hW1 (by omega) (by omega); omega⟩
    refine aw_rV (cs' := 0) (sl' := 0) (pc' := 68) (idx := 133) (as := [vr 9 k, vl (c * W2)]) (st := []) (m_B_addAll (nn := 0) hA A hm1 (mkR_0 (f := ff) (g := gg)) (by omega)) (by decide +kernel) (show vOK "ChanceBench" 133 M_B_addAll 2 = true by decide +kernel) rfl rfl rfl (Nat.le_of_ble_eq_true rfl) (by decide) (by decide) (by decide) rfl rfl rfl (fun r65 h65 z65 => ?_)
    obtain ⟨rfl, nn2, rr2, ff2, gg2, R2, rfl⟩ := z65
    refine aw_blk (pc' := 76) (ls' := [some (vr 0 0), some (vi a), some (vi e), some (vi B), some (vi c), some (vi d), some (vr 9 k), some (vr 9 q)]) (st' := [vi (d - c), vr 9 q, vr 0 0]) [.inl (.aload_n 0), .inl (.aload 7), .inl (.iload 5), .inl (.iload 4), .inl (.isub)] 68 _ _ (by decide +kernel) rfl ?_
    refine aw_i2l (by decide +kernel) (by omega) ?_
    refine aw_blk (pc' := 79) (ls' := [some (vr 0 0), some (vi a), some (vi e), some (vi B), some (vi c), some (vi d), some (vr 9 k), some (vr 9 q)]) (st' := [vr 9 k, vl (d - c), vr 9 q, vr 0 0]) [.inl (.aload 6)] 77 _ _ (by decide +kernel) rfl ?_
    refine aw_get (idx := 130) (ci := 9) (f := 2) (by decide +kernel) (by decide +kernel) hA.1 rfl ?_
    refine aw_i2l (by decide +kernel) (by omega) ?_
    refine aw_blk (pc' := 84) (ls' := [some (vr 0 0), some (vi a), some (vi e), some (vi B), some (vi c), some (vi d), some (vr 9 k), some (vr 9 q)]) (st' := [vl ((d - c) * W), vr 9 q, vr 0 0]) [.inl (.lmul)] 83 _ _ (by decide +kernel) rfl ?_
    refine aw_rV (cs' := 0) (sl' := 0) (pc' := 87) (idx := 133) (as := [vr 9 q, vl ((d - c) * W)]) (st := []) (m_B_addAll hA2 A2 hm2 R2 (by omega)) (by decide +kernel) (show vOK "ChanceBench" 133 M_B_addAll 2 = true by decide +kernel) rfl rfl rfl (Nat.le_of_ble_eq_true rfl) (by decide) (by decide) (by decide) rfl rfl rfl (fun r84 h84 z84 => ?_)
    obtain ⟨rfl, nn3, rr3, ff3, gg3, R3, rfl⟩ := z84
    have R9 := R3.eq (T' := fun u => den at_ (fun i => wt i * (c * W2)) n u + den at2 (fun i => wt2 i * ((d - c) * W)) m u) (by' := ¬ ((1 ≤ d ∧ d ≤ 1000) ∧ (0 ≤ c ∧ c ≤ d)) ∨ byd at_ (fun i => wt i * (c * W2)) n ∨ byd at2 (fun i => wt2 i * ((d - c) * W)) m) (Int.le_refl _) (fun u _ => by show 0 + den at_ (fun i => wt i * (c * W2)) n u + den at2 (fun i => wt2 i * ((d - c) * W)) m u = _; omega) ⟨fun z => Or.inr (z.elim (fun z => Or.inl (z.elim False.elim id)) Or.inr), fun z => z.elim (fun z => absurd hv z) (fun z => z.elim (fun z => Or.inl (Or.inr z)) Or.inr)⟩
    refine aw_blk (pc' := 89) (ls' := [some (vr 0 0), some (vi a), some (vi e), some (vi B), some (vi c), some (vi d), some (vr 9 k), some (vr 9 q)]) (st' := [vi a, vr 0 0]) [.inl (.aload_n 0), .inl (.iload_n 1)] 87 _ _ (by decide +kernel) rfl ?_
    refine aw_rV (cs' := 3) (sl' := 51) (pc' := 92) (idx := 95) (as := [vi a]) (st := []) (m_B_settle ha (R9) (by omega) ho hd hl) (by decide +kernel) (show vOK "ChanceBench" 95 M_B_settle 1 = true by decide +kernel) rfl rfl rfl (Nat.le_of_ble_eq_true rfl) (by decide) (by decide) (by decide) rfl rfl rfl (fun r89 h89 z89 => ?_)
    rcases z89 with ⟨rfl, h1, rfl⟩ | ⟨rfl, h1, h2, m9, a9, w9, W9, h3, rfl⟩
    · exact aw_zret (by decide +kernel) rfl (by decide) (by decide) (by omega) (hq _ _ ⟨nn3, rr3, ff3, gg3, Or.inl ⟨rfl, h1, rfl⟩⟩)
    · exact aw_zret (by decide +kernel) rfl (by decide) (by decide) (by omega) (hq _ _ ⟨nn3, rr3, ff3, gg3, Or.inr ⟨rfl, h1, h2, m9, a9, w9, W9, h3, rfl⟩⟩)
  · rw [if_neg hv]
    refine aw_if_ne (o := 5) (tgt := 45) (by decide +kernel) (by decide) (by omega) (fun c => absurd (by omega) c) (fun _ => ?_)
    refine aw_blk (pc' := 44) (ls' := [some (vr 0 0), some (vi a), some (vi e), some (vi B), some (vi c), some (vi d), some (vr 9 k), some (vr 9 q)]) (st' := [vi 0]) [.inl (.iconst 0)] 43 _ _ (by decide +kernel) rfl ?_
    exact aw_zret (by decide +kernel) rfl (by decide) (by decide) (by omega) (hq _ _ ⟨nn, rr, ff, gg, Or.inl ⟨rfl, fun z => z.2.1 (Or.inl hv), rfl⟩⟩)

theorem m_B_mix_0 (hI : I32 e ∧ I32 B) (hl1 : lawAt laws e = none) : ADet G M_B_mix [vr 0 0, vi a, vi e, vi B, vi c, vi d] (Hp (sgB bd tk) (sgS laws slot ahead made (od : Int) (dn : Int) (un : Int)) t (sgK (nn : Int) rr ff gg) df jo tr di mo dy) (some (vi 0)) (Hp (sgB bd tk) (sgS laws slot ahead made (od : Int) (dn : Int) (un : Int)) t (sgK (nn : Int) rr ff gg) df jo tr di mo dy) := by
  refine am_det (by decide +kernel) (Nat.le_of_ble_eq_true rfl) (fun Qr Qt hq => ?_)
  refine aw_blk (pc' := 5) (ls' := [some (vr 0 0), some (vi a), some (vi e), some (vi B), some (vi c), some (vi d), none, none]) (st' := [vi e, vr 1 0]) [.inl (.aload_n 0), .inr (10, 0, 0), .inl (.iload_n 2)] 0 _ _ (by decide +kernel) rfl ?_
  refine aw_dV (cs' := 0) (sl' := 0) (pc' := 8) (st' := [vo (lawAt laws e)]) (idx := 117) (as := [vi e]) (st := []) (m_S_lawIn hI.1) (by decide +kernel) (show vOK "ChanceBench" 117 M_S_lawIn 1 = true by decide +kernel) rfl rfl rfl (Nat.le_of_ble_eq_true rfl) (by decide) (by decide) (by decide) rfl rfl rfl rfl ?_
  rw [hl1]
  refine aw_blk (pc' := 15) (ls' := [some (vr 0 0), some (vi a), some (vi e), some (vi B), some (vi c), some (vi d), some (vn), none]) (st' := [vi B, vr 1 0]) [.inl (.astore 6), .inl (.aload_n 0), .inr (10, 0, 0), .inl (.iload_n 3)] 8 _ _ (by decide +kernel) rfl ?_
  refine aw_dV (cs' := 0) (sl' := 0) (pc' := 18) (st' := [vo (lawAt laws B)]) (idx := 117) (as := [vi B]) (st := []) (m_S_lawIn hI.2) (by decide +kernel) (show vOK "ChanceBench" 117 M_S_lawIn 1 = true by decide +kernel) rfl rfl rfl (Nat.le_of_ble_eq_true rfl) (by decide) (by decide) (by decide) rfl rfl rfl rfl ?_
  refine aw_blk (pc' := 22) (ls' := [some (vr 0 0), some (vi a), some (vi e), some (vi B), some (vi c), some (vi d), some (vn), some (vo (lawAt laws B))]) (st' := [vn]) [.inl (.astore 7), .inl (.aload 6)] 18 _ _ (by decide +kernel) rfl ?_
  refine aw_ifnull (o := 21) (tgt := 43) (by decide +kernel) (by decide) (fun _ => ?_) (fun _ z => nomatch z)
  refine aw_blk (pc' := 44) (ls' := [some (vr 0 0), some (vi a), some (vi e), some (vi B), some (vi c), some (vi d), some (vn), some (vo (lawAt laws B))]) (st' := [vi 0]) [.inl (.iconst 0)] 43 _ _ (by decide +kernel) rfl ?_
  exact aw_zret (by decide +kernel) rfl (by decide) (by decide) (by omega) (hq _ _ rfl rfl)

theorem m_B_mix_1 (hI : I32 e ∧ I32 B) (hl1 : lawAt laws e = some (9, k)) (hl2 : lawAt laws B = none) : ADet G M_B_mix [vr 0 0, vi a, vi e, vi B, vi c, vi d] (Hp (sgB bd tk) (sgS laws slot ahead made (od : Int) (dn : Int) (un : Int)) t (sgK (nn : Int) rr ff gg) df jo tr di mo dy) (some (vi 0)) (Hp (sgB bd tk) (sgS laws slot ahead made (od : Int) (dn : Int) (un : Int)) t (sgK (nn : Int) rr ff gg) df jo tr di mo dy) := by
  refine am_det (by decide +kernel) (Nat.le_of_ble_eq_true rfl) (fun Qr Qt hq => ?_)
  refine aw_blk (pc' := 5) (ls' := [some (vr 0 0), some (vi a), some (vi e), some (vi B), some (vi c), some (vi d), none, none]) (st' := [vi e, vr 1 0]) [.inl (.aload_n 0), .inr (10, 0, 0), .inl (.iload_n 2)] 0 _ _ (by decide +kernel) rfl ?_
  refine aw_dV (cs' := 0) (sl' := 0) (pc' := 8) (st' := [vo (lawAt laws e)]) (idx := 117) (as := [vi e]) (st := []) (m_S_lawIn hI.1) (by decide +kernel) (show vOK "ChanceBench" 117 M_S_lawIn 1 = true by decide +kernel) rfl rfl rfl (Nat.le_of_ble_eq_true rfl) (by decide) (by decide) (by decide) rfl rfl rfl rfl ?_
  rw [hl1]
  refine aw_blk (pc' := 15) (ls' := [some (vr 0 0), some (vi a), some (vi e), some (vi B), some (vi c), some (vi d), some (vr 9 k), none]) (st' := [vi B, vr 1 0]) [.inl (.astore 6), .inl (.aload_n 0), .inr (10, 0, 0), .inl (.iload_n 3)] 8 _ _ (by decide +kernel) rfl ?_
  refine aw_dV (cs' := 0) (sl' := 0) (pc' := 18) (st' := [vo (lawAt laws B)]) (idx := 117) (as := [vi B]) (st := []) (m_S_lawIn hI.2) (by decide +kernel) (show vOK "ChanceBench" 117 M_S_lawIn 1 = true by decide +kernel) rfl rfl rfl (Nat.le_of_ble_eq_true rfl) (by decide) (by decide) (by decide) rfl rfl rfl rfl ?_
  rw [hl2]
  refine aw_blk (pc' := 22) (ls' := [some (vr 0 0), some (vi a), some (vi e), some (vi B), some (vi c), some (vi d), some (vr 9 k), some (vn)]) (st' := [vr 9 k]) [.inl (.astore 7), .inl (.aload 6)] 18 _ _ (by decide +kernel) rfl ?_
  refine aw_ifnull (o := 21) (tgt := 43) (by decide +kernel) (by decide) (fun z => nomatch z) (fun _ _ => ?_)
  refine aw_blk (pc' := 27) (ls' := [some (vr 0 0), some (vi a), some (vi e), some (vi B), some (vi c), some (vi d), some (vr 9 k), some (vn)]) (st' := [vn]) [.inl (.aload 7)] 25 _ _ (by decide +kernel) rfl ?_
  refine aw_ifnull (o := 16) (tgt := 43) (by decide +kernel) (by decide) (fun _ => ?_) (fun _ z => nomatch z)
  refine aw_blk (pc' := 44) (ls' := [some (vr 0 0), some (vi a), some (vi e), some (vi B), some (vi c), some (vi d), some (vr 9 k), some (vn)]) (st' := [vi 0]) [.inl (.iconst 0)] 43 _ _ (by decide +kernel) rfl ?_
  exact aw_zret (by decide +kernel) rfl (by decide) (by decide) (by omega) (hq _ _ rfl rfl)

end
