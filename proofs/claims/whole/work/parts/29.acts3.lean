theorem jnd_in {d v w : Int} (hv : inR v) (hw : inR w) : -2000 ≤ jnd d v w ∧ jnd d v w ≤ 2000 := by
  unfold jnd sg
  split
  · split <;> omega
  · split
    · split <;> omega
    · split
      · split
        · omega
        · split <;> omega
      · omega
abbrev Vj (d : Int) (at_ at2 : Nat → Int) (i : Nat) : Nat → Int := fun j => jnd d (at_ i) (at2 j)
abbrev Cj (wt wt2 : Nat → Int) (i : Nat) : Nat → Int := fun j => wt i * wt2 j
def T2 (d : Int) (at_ wt at2 wt2 : Nat → Int) (m n : Nat) (u : Int) : Int := sumZ (fun i => den (Vj d at_ at2 i) (Cj wt wt2 i) m u) n
def B2 (d : Int) (at_ wt at2 wt2 : Nat → Int) (m n : Nat) : Prop := ∃ i, i < n ∧ byd (Vj d at_ at2 i) (Cj wt wt2 i) m
theorem B2_s {d : Int} {at_ wt at2 wt2 : Nat → Int} {m n : Nat} : B2 d at_ wt at2 wt2 m (n + 1) ↔ B2 d at_ wt at2 wt2 m n ∨ byd (Vj d at_ at2 n) (Cj wt wt2 n) m := by
  constructor
  · rintro ⟨k, h1, h2⟩
    rcases Nat.lt_or_ge k n with z | z
    · exact Or.inl ⟨k, z, h2⟩
    · have : k = n := by omega
      subst this; exact Or.inr h2
  · rintro (⟨k, h1, h2⟩ | h)
    · exact ⟨k, by omega, h2⟩
    · exact ⟨n, by omega, h⟩
section
variable {G : GT} {h : HT} {b s t mk df jo tr di mo dy : SG} {a c d e B bd tk : Int} {n m k k1 k2 q q1 q2 j nn len : Nat} {f g ff gg ft at_ wt at2 wt2 : Nat → Int} {rf rr W W2 : Int} {T : Int → Int} {by_ : Prop} {laws ahead made : Nat → Option (Nat × Nat)} {slot : Nat → Int} {od dn un : Nat}
theorem m_B_settleOfBoth (ha : I32 a) (hI : I32 e ∧ I32 B) (hd4 : 0 ≤ d ∧ d ≤ 3) (hl1 : lawAt laws e = some (9, k)) (hl2 : lawAt laws B = some (9, q)) (hA : isD dy k k1 k2 n at_ wt W) (A : lwN n at_ wt W) (hA2 : isD dy q q1 q2 m at2 wt2 W2) (A2 : lwN m at2 wt2 W2) (ho : od < 30) (hd : dn ≤ 30) (hl : lwOK dy laws) : AMet G M_B_settleOfBoth [vr 0 0, vi a, vi e, vi B, vi d] (Hp (sgB bd tk) (sgS laws slot ahead made (od : Int) (dn : Int) (un : Int)) t (sgK (nn : Int) rr ff gg) df jo tr di mo dy) (fun r h => ∃ (nn : Nat) (rr : Int) (ff gg : Nat → Int), stl laws slot ahead made od dn un bd tk t (sgK (nn : Int) rr ff gg) df jo tr di mo dy a (T2 d at_ wt at2 wt2 m n) (B2 d at_ wt at2 wt2 m n) r h) (fun _ => False) := by
  refine am_rel (by decide +kernel) (Nat.le_of_ble_eq_true rfl) (fun Qr Qt hq => ?_)
  have hn := A.1
  have hm := A2.1
  refine aw_blk (pc' := 5) (ls' := [some (vr 0 0), some (vi a), some (vi e), some (vi B), some (vi d), none, none, none, none]) (st' := [vi e, vr 1 0]) [.inl (.aload_n 0), .inr (10, 0, 0), .inl (.iload_n 2)] 0 _ _ (by decide +kernel) rfl ?_
  refine aw_dV (cs' := 0) (sl' := 0) (pc' := 8) (st' := [vo (lawAt laws e)]) (idx := 117) (as := [vi e]) (st := []) (m_S_lawIn hI.1) (by decide +kernel) (show vOK "ChanceBench" 117 M_S_lawIn 1 = true by decide +kernel) rfl rfl rfl (Nat.le_of_ble_eq_true rfl) (by decide) (by decide) (by decide) rfl rfl rfl rfl ?_
  rw [hl1]
  refine aw_blk (pc' := 15) (ls' := [some (vr 0 0), some (vi a), some (vi e), some (vi B), some (vi d), some (vr 9 k), none, none, none]) (st' := [vi B, vr 1 0]) [.inl (.astore 5), .inl (.aload_n 0), .inr (10, 0, 0), .inl (.iload_n 3)] 8 _ _ (by decide +kernel) rfl ?_
  refine aw_dV (cs' := 0) (sl' := 0) (pc' := 18) (st' := [vo (lawAt laws B)]) (idx := 117) (as := [vi B]) (st := []) (m_S_lawIn hI.2) (by decide +kernel) (show vOK "ChanceBench" 117 M_S_lawIn 1 = true by decide +kernel) rfl rfl rfl (Nat.le_of_ble_eq_true rfl) (by decide) (by decide) (by decide) rfl rfl rfl rfl ?_
  rw [hl2]
  refine aw_blk (pc' := 22) (ls' := [some (vr 0 0), some (vi a), some (vi e), some (vi B), some (vi d), some (vr 9 k), some (vr 9 q), none, none]) (st' := [vr 9 k]) [.inl (.astore 6), .inl (.aload 5)] 18 _ _ (by decide +kernel) rfl ?_
  refine aw_ifnull (o := 8) (tgt := 30) (by decide +kernel) (by decide) (fun z => nomatch z) (fun _ _ => ?_)
  refine aw_blk (pc' := 27) (ls' := [some (vr 0 0), some (vi a), some (vi e), some (vi B), some (vi d), some (vr 9 k), some (vr 9 q), none, none]) (st' := [vr 9 q]) [.inl (.aload 6)] 25 _ _ (by decide +kernel) rfl ?_
  refine aw_ifnonnull (o := 5) (tgt := 32) (by decide +kernel) (by decide) (fun _ _ => ?_) (fun z => nomatch z)
  refine aw_blk (pc' := 36) (ls' := [some (vr 0 0), some (vi a), some (vi e), some (vi B), some (vi d), some (vr 9 k), some (vr 9 q), none, none]) (st' := [vr 3 0]) [.inl (.aload_n 0), .inr (26, 0, 2)] 32 _ _ (by decide +kernel) rfl ?_
  refine aw_dV (cs' := 0) (sl' := 0) (pc' := 39) (st' := []) (idx := 81) (as := []) (st := []) (m_K_clear) (by decide +kernel) (show vOK "ChanceBench" 81 M_K_clear 0 = true by decide +kernel) rfl rfl rfl (Nat.le_of_ble_eq_true rfl) (by decide) (by decide) (by decide) rfl rfl rfl rfl ?_
  refine aw_blk (pc' := 42) (ls' := [some (vr 0 0), some (vi a), some (vi e), some (vi B), some (vi d), some (vr 9 k), some (vr 9 q), some (vi 0), none]) (st' := []) [.inl (.iconst 0), .inl (.istore 7)] 39 _ _ (by decide +kernel) rfl ?_
  refine up_to (W := fun i : Nat => ∀ (nn : Nat) (rr : Int) (ff gg : Nat → Int), mkR ((i : Int) * 26388279066624) (T2 d at_ wt at2 wt2 m i) (B2 d at_ wt at2 wt2 m i) nn rr ff gg → AW G M_B_settleOfBoth Qr Qt 0 0 42 [some (vr 0 0), some (vi a), some (vi e), some (vi B), some (vi d), some (vr 9 k), some (vr 9 q), some (vi (i : Int)), none] [] (Hp [some (ob 0 [vr 1 0, vr 2 0, vr 3 0, vr 4 0, vr 5 0, vr 6 0, vr 7 0, vi bd, vi tk])] [some (ob 1 [vr 1 1, vr 1 2, vr 1 3, vr 1 4, vi (od : Int), vi (dn : Int), vi (un : Int)]), some (rs 16 laws), some (ar 0 30 slot), some (rs 30 ahead), some (rs 30 made)] t [some (ob 3 [vr 3 1, vr 3 2, vi (nn : Int), vi rr]), some (ar 0 24 ff), some (ar 1 24 gg)] df jo tr di mo dy)) n ?_ (fun i hi ih => ?_) 0 (by omega) _ _ _ _ (show mkR (((0 : Nat) : Int) * 26388279066624) (T2 d at_ wt at2 wt2 m 0) (B2 d at_ wt at2 wt2 m 0) 0 0 ff gg from mkR_0.eq (by omega) (fun u _ => rfl) ⟨False.elim, fun ⟨i, h, _⟩ => by omega⟩)
  · intro nn rr ff gg R
    refine aw_blk (pc' := 46) (ls' := [some (vr 0 0), some (vi a), some (vi e), some (vi B), some (vi d), some (vr 9 k), some (vr 9 q), some (vi (n : Int)), none]) (st' := [vr 9 k, vi (n : Int)]) [.inl (.iload 7), .inl (.aload 5)] 42 _ _ (by decide +kernel) rfl ?_
    refine aw_get (idx := 121) (ci := 9) (f := 0) (by decide +kernel) (by decide +kernel) hA.1 rfl ?_
    refine aw_alen (by decide +kernel) hA.2.1 (fun r49 => ?_)
    refine aw_icmp_ge (o := 77) (tgt := 127) (by decide +kernel) (by decide) (by omega) (by omega) (fun _ => ?_) (fun c => absurd (by omega) c)
    refine aw_blk (pc' := 129) (ls' := [some (vr 0 0), some (vi a), some (vi e), some (vi B), some (vi d), some (vr 9 k), some (vr 9 q), some (vi (n : Int)), none]) (st' := [vi a, vr 0 0]) [.inl (.aload_n 0), .inl (.iload_n 1)] 127 _ _ (by decide +kernel) rfl ?_
    refine aw_rV (cs' := 3) (sl' := 51) (pc' := 132) (idx := 95) (as := [vi a]) (st := []) (m_B_settle ha (R) (by omega) ho hd hl) (by decide +kernel) (show vOK "ChanceBench" 95 M_B_settle 1 = true by decide +kernel) rfl rfl rfl (Nat.le_of_ble_eq_true rfl) (by decide) (by decide) (by decide) rfl rfl rfl (fun r129 h129 z129 => ?_)
    rcases z129 with ⟨rfl, h1, rfl⟩ | ⟨rfl, h1, h2, m9, a9, w9, W9, h3, rfl⟩
    · exact aw_zret (by decide +kernel) rfl (by decide) (by decide) (by omega) (hq _ _ ⟨nn, rr, ff, gg, Or.inl ⟨rfl, h1, rfl⟩⟩)
    · exact aw_zret (by decide +kernel) rfl (by decide) (by decide) (by omega) (hq _ _ ⟨nn, rr, ff, gg, Or.inr ⟨rfl, h1, h2, m9, a9, w9, W9, h3, rfl⟩⟩)
  · intro nn rr ff gg R
    have ihO := ih
    have hai := A.2.2.1 i hi
    have hW := A.2.2.2.2.1
    have hW2 := A2.2.2.2.2.1
    refine aw_blk (pc' := 46) (ls' := [some (vr 0 0), some (vi a), some (vi e), some (vi B), some (vi d), some (vr 9 k), some (vr 9 q), some (vi (i : Int)), none]) (st' := [vr 9 k, vi (i : Int)]) [.inl (.iload 7), .inl (.aload 5)] 42 _ _ (by decide +kernel) rfl ?_
    refine aw_get (idx := 121) (ci := 9) (f := 0) (by decide +kernel) (by decide +kernel) hA.1 rfl ?_
    refine aw_alen (by decide +kernel) hA.2.1 (fun r49 => ?_)
    refine aw_icmp_ge (o := 77) (tgt := 127) (by decide +kernel) (by decide) (by omega) (by omega) (fun c => absurd c (by omega)) (fun _ => ?_)
    refine aw_blk (pc' := 56) (ls' := [some (vr 0 0), some (vi a), some (vi e), some (vi B), some (vi d), some (vr 9 k), some (vr 9 q), some (vi (i : Int)), some (vi 0)]) (st' := []) [.inl (.iconst 0), .inl (.istore 8)] 53 _ _ (by decide +kernel) rfl ?_
    refine up_to (W := fun j : Nat => ∀ (nn : Nat) (rr : Int) (ff gg : Nat → Int), mkR ((i : Int) * 26388279066624 + (j : Int) * 1099511627776) (fun u => T2 d at_ wt at2 wt2 m i u + den (Vj d at_ at2 i) (Cj wt wt2 i) j u) (B2 d at_ wt at2 wt2 m i ∨ byd (Vj d at_ at2 i) (Cj wt wt2 i) j) nn rr ff gg → AW G M_B_settleOfBoth Qr Qt 0 0 56 [some (vr 0 0), some (vi a), some (vi e), some (vi B), some (vi d), some (vr 9 k), some (vr 9 q), some (vi (i : Int)), some (vi (j : Int))] [] (Hp [some (ob 0 [vr 1 0, vr 2 0, vr 3 0, vr 4 0, vr 5 0, vr 6 0, vr 7 0, vi bd, vi tk])] [some (ob 1 [vr 1 1, vr 1 2, vr 1 3, vr 1 4, vi (od : Int), vi (dn : Int), vi (un : Int)]), some (rs 16 laws), some (ar 0 30 slot), some (rs 30 ahead), some (rs 30 made)] t [some (ob 3 [vr 3 1, vr 3 2, vi (nn : Int), vi rr]), some (ar 0 24 ff), some (ar 1 24 gg)] df jo tr di mo dy)) m ?_ (fun j hj ih => ?_) 0 (by omega) _ _ _ _ (show mkR ((i : Int) * 26388279066624 + ((0 : Nat) : Int) * 1099511627776) _ _ nn rr ff gg from R.z.eq (by omega) (fun _ _ => rfl) Iff.rfl)
    · intro nn rr ff gg R
      refine aw_blk (pc' := 60) (ls' := [some (vr 0 0), some (vi a), some (vi e), some (vi B), some (vi d), some (vr 9 k), some (vr 9 q), some (vi (i : Int)), some (vi (m : Int))]) (st' := [vr 9 q, vi (m : Int)]) [.inl (.iload 8), .inl (.aload 6)] 56 _ _ (by decide +kernel) rfl ?_
      refine aw_get (idx := 121) (ci := 9) (f := 0) (by decide +kernel) (by decide +kernel) hA2.1 rfl ?_
      refine aw_alen (by decide +kernel) hA2.2.1 (fun r63 => ?_)
      refine aw_icmp_ge (o := 57) (tgt := 121) (by decide +kernel) (by decide) (by omega) (by omega) (fun _ => ?_) (fun c => absurd (by omega) c)
      refine aw_blk (pc' := 124) (ls' := [some (vr 0 0), some (vi a), some (vi e), some (vi B), some (vi d), some (vr 9 k), some (vr 9 q), some (vi ((i : Int) + 1)), some (vi (m : Int))]) (st' := []) [.inl (.iinc 7 1)] 121 _ _ (by decide +kernel) rfl ?_
      refine aw_goto (o := -82) (tgt := 42) (by decide +kernel) (by decide) ?_
      refine aw_ls (ls' := [some (vr 0 0), some (vi a), some (vi e), some (vi B), some (vi d), some (vr 9 k), some (vr 9 q), some (vi ((i : Int) + 1)), none]) (lsk_s (lsk_s (lsk_s (lsk_s (lsk_s (lsk_s (lsk_s (lsk_s (lsk_n lsk_0))))))))) ?_
      exact ihO _ _ _ _ (R.eq (by omega) (fun u _ => rfl) B2_s.symm)
    · intro nn rr ff gg R
      have haj := A2.2.2.1 j hj
      have hv := jnd_in (d := d) hai.1 haj.1
      have hmu := mulB (x := wt i) (y := wt2 j) (by omega) (by omega) (by omega) (by omega)
      refine aw_blk (pc' := 60) (ls' := [some (vr 0 0), some (vi a), some (vi e), some (vi B), some (vi d), some (vr 9 k), some (vr 9 q), some (vi (i : Int)), some (vi (j : Int))]) (st' := [vr 9 q, vi (j : Int)]) [.inl (.iload 8), .inl (.aload 6)] 56 _ _ (by decide +kernel) rfl ?_
      refine aw_get (idx := 121) (ci := 9) (f := 0) (by decide +kernel) (by decide +kernel) hA2.1 rfl ?_
      refine aw_alen (by decide +kernel) hA2.2.1 (fun r63 => ?_)
      refine aw_icmp_ge (o := 57) (tgt := 121) (by decide +kernel) (by decide) (by omega) (by omega) (fun c => absurd c (by omega)) (fun _ => ?_)
      refine aw_blk (pc' := 73) (ls' := [some (vr 0 0), some (vi a), some (vi e), some (vi B), some (vi d), some (vr 9 k), some (vr 9 q), some (vi (i : Int)), some (vi (j : Int))]) (st' := [vr 9 k, vr 3 0]) [.inl (.aload_n 0), .inr (26, 0, 2), .inl (.aload 5)] 67 _ _ (by decide +kernel) rfl ?_
      refine aw_get (idx := 121) (ci := 9) (f := 0) (by decide +kernel) (by decide +kernel) hA.1 rfl ?_
      refine aw_blk (pc' := 78) (ls' := [some (vr 0 0), some (vi a), some (vi e), some (vi B), some (vi d), some (vr 9 k), some (vr 9 q), some (vi (i : Int)), some (vi (j : Int))]) (st' := [vi (i : Int), vr 9 k1, vr 3 0]) [.inl (.iload 7)] 76 _ _ (by decide +kernel) rfl ?_
      refine aw_iald (j := i) (by decide +kernel) hA.2.1 (by omega) (by omega) (fun r78 => ?_)
      refine aw_blk (pc' := 81) (ls' := [some (vr 0 0), some (vi a), some (vi e), some (vi B), some (vi d), some (vr 9 k), some (vr 9 q), some (vi (i : Int)), some (vi (j : Int))]) (st' := [vr 9 q, vi (at_ i), vr 3 0]) [.inl (.aload 6)] 79 _ _ (by decide +kernel) rfl ?_
      refine aw_get (idx := 121) (ci := 9) (f := 0) (by decide +kernel) (by decide +kernel) hA2.1 rfl ?_
      refine aw_blk (pc' := 86) (ls' := [some (vr 0 0), some (vi a), some (vi e), some (vi B), some (vi d), some (vr 9 k), some (vr 9 q), some (vi (i : Int)), some (vi (j : Int))]) (st' := [vi (j : Int), vr 9 q1, vi (at_ i), vr 3 0]) [.inl (.iload 8)] 84 _ _ (by decide +kernel) rfl ?_
      refine aw_iald (j := j) (by decide +kernel) hA2.2.1 (by omega) (by omega) (fun r86 => ?_)
      refine aw_blk (pc' := 89) (ls' := [some (vr 0 0), some (vi a), some (vi e), some (vi B), some (vi d), some (vr 9 k), some (vr 9 q), some (vi (i : Int)), some (vi (j : Int))]) (st' := [vi d, vi (at2 j), vi (at_ i), vr 3 0]) [.inl (.iload 4)] 87 _ _ (by decide +kernel) rfl ?_
      refine aw_dS (cs' := 0) (sl' := 0) (pc' := 92) (st' := [vi (jnd d (at_ i) (at2 j)), vr 3 0]) (idx := 272) (as := [vi (at_ i), vi (at2 j), vi d]) (st := [vr 3 0]) (m_B_joined (by omega) (by omega) hd4) (by decide +kernel) (show sOK "ChanceBench" 272 M_B_joined 3 = true by decide +kernel) rfl (Nat.le_of_ble_eq_true rfl) (by decide) (by decide) (by decide) rfl rfl rfl rfl ?_
      refine aw_i2l (by decide +kernel) (by omega) ?_
      refine aw_blk (pc' := 95) (ls' := [some (vr 0 0), some (vi a), some (vi e), some (vi B), some (vi d), some (vr 9 k), some (vr 9 q), some (vi (i : Int)), some (vi (j : Int))]) (st' := [vr 9 k, vl (jnd d (at_ i) (at2 j)), vr 3 0]) [.inl (.aload 5)] 93 _ _ (by decide +kernel) rfl ?_
      refine aw_get (idx := 127) (ci := 9) (f := 1) (by decide +kernel) (by decide +kernel) hA.1 rfl ?_
      refine aw_blk (pc' := 100) (ls' := [some (vr 0 0), some (vi a), some (vi e), some (vi B), some (vi d), some (vr 9 k), some (vr 9 q), some (vi (i : Int)), some (vi (j : Int))]) (st' := [vi (i : Int), vr 9 k2, vl (jnd d (at_ i) (at2 j)), vr 3 0]) [.inl (.iload 7)] 98 _ _ (by decide +kernel) rfl ?_
      refine aw_iald (j := i) (by decide +kernel) hA.2.2 (by omega) (by omega) (fun r100 => ?_)
      refine aw_i2l (by decide +kernel) (by omega) ?_
      refine aw_blk (pc' := 104) (ls' := [some (vr 0 0), some (vi a), some (vi e), some (vi B), some (vi d), some (vr 9 k), some (vr 9 q), some (vi (i : Int)), some (vi (j : Int))]) (st' := [vr 9 q, vl (wt i), vl (jnd d (at_ i) (at2 j)), vr 3 0]) [.inl (.aload 6)] 102 _ _ (by decide +kernel) rfl ?_
      refine aw_get (idx := 127) (ci := 9) (f := 1) (by decide +kernel) (by decide +kernel) hA2.1 rfl ?_
      refine aw_blk (pc' := 109) (ls' := [some (vr 0 0), some (vi a), some (vi e), some (vi B), some (vi d), some (vr 9 k), some (vr 9 q), some (vi (i : Int)), some (vi (j : Int))]) (st' := [vi (j : Int), vr 9 q2, vl (wt i), vl (jnd d (at_ i) (at2 j)), vr 3 0]) [.inl (.iload 8)] 107 _ _ (by decide +kernel) rfl ?_
      refine aw_iald (j := j) (by decide +kernel) hA2.2.2 (by omega) (by omega) (fun r109 => ?_)
      refine aw_i2l (by decide +kernel) (by omega) ?_
      refine aw_blk (pc' := 112) (ls' := [some (vr 0 0), some (vi a), some (vi e), some (vi B), some (vi d), some (vr 9 k), some (vr 9 q), some (vi (i : Int)), some (vi (j : Int))]) (st' := [vl ((wt i) * (wt2 j)), vl (jnd d (at_ i) (at2 j)), vr 3 0]) [.inl (.lmul)] 111 _ _ (by decide +kernel) rfl ?_
      refine aw_rV (cs' := 0) (sl' := 0) (pc' := 115) (idx := 88) (as := [vl (jnd d (at_ i) (at2 j)), vl ((wt i) * (wt2 j))]) (st := []) (m_K_addR R (by omega) (by omega) (by omega)) (by decide +kernel) (show vOK "ChanceBench" 88 M_K_add 2 = true by decide +kernel) rfl rfl rfl (Nat.le_of_ble_eq_true rfl) (by decide) (by decide) (by decide) rfl rfl rfl (fun r112 h112 z112 => ?_)
      obtain ⟨rfl, nn2, rr2, ff2, gg2, R2, rfl⟩ := z112
      refine aw_blk (pc' := 118) (ls' := [some (vr 0 0), some (vi a), some (vi e), some (vi B), some (vi d), some (vr 9 k), some (vr 9 q), some (vi (i : Int)), some (vi ((j : Int) + 1))]) (st' := []) [.inl (.iinc 8 1)] 115 _ _ (by decide +kernel) rfl ?_
      refine aw_goto (o := -62) (tgt := 56) (by decide +kernel) (by decide) ?_
      exact ih _ _ _ _ (R2.s (V := Vj d at_ at2 i) (C := Cj wt wt2 i) (by show _ + wt i * wt2 j ≤ _; omega))

theorem m_B_settleOfBoth_0 (hI : I32 e ∧ I32 B) (hl1 : lawAt laws e = none) : ADet G M_B_settleOfBoth [vr 0 0, vi a, vi e, vi B, vi d] (Hp (sgB bd tk) (sgS laws slot ahead made (od : Int) (dn : Int) (un : Int)) t (sgK (nn : Int) rr ff gg) df jo tr di mo dy) (some (vi 0)) (Hp (sgB bd tk) (sgS laws slot ahead made (od : Int) (dn : Int) (un : Int)) t (sgK (nn : Int) rr ff gg) df jo tr di mo dy) := by
  refine am_det (by decide +kernel) (Nat.le_of_ble_eq_true rfl) (fun Qr Qt hq => ?_)
  refine aw_blk (pc' := 5) (ls' := [some (vr 0 0), some (vi a), some (vi e), some (vi B), some (vi d), none, none, none, none]) (st' := [vi e, vr 1 0]) [.inl (.aload_n 0), .inr (10, 0, 0), .inl (.iload_n 2)] 0 _ _ (by decide +kernel) rfl ?_
  refine aw_dV (cs' := 0) (sl' := 0) (pc' := 8) (st' := [vo (lawAt laws e)]) (idx := 117) (as := [vi e]) (st := []) (m_S_lawIn hI.1) (by decide +kernel) (show vOK "ChanceBench" 117 M_S_lawIn 1 = true by decide +kernel) rfl rfl rfl (Nat.le_of_ble_eq_true rfl) (by decide) (by decide) (by decide) rfl rfl rfl rfl ?_
  rw [hl1]
  refine aw_blk (pc' := 15) (ls' := [some (vr 0 0), some (vi a), some (vi e), some (vi B), some (vi d), some (vn), none, none, none]) (st' := [vi B, vr 1 0]) [.inl (.astore 5), .inl (.aload_n 0), .inr (10, 0, 0), .inl (.iload_n 3)] 8 _ _ (by decide +kernel) rfl ?_
  refine aw_dV (cs' := 0) (sl' := 0) (pc' := 18) (st' := [vo (lawAt laws B)]) (idx := 117) (as := [vi B]) (st := []) (m_S_lawIn hI.2) (by decide +kernel) (show vOK "ChanceBench" 117 M_S_lawIn 1 = true by decide +kernel) rfl rfl rfl (Nat.le_of_ble_eq_true rfl) (by decide) (by decide) (by decide) rfl rfl rfl rfl ?_
  refine aw_blk (pc' := 22) (ls' := [some (vr 0 0), some (vi a), some (vi e), some (vi B), some (vi d), some (vn), some (vo (lawAt laws B)), none, none]) (st' := [vn]) [.inl (.astore 6), .inl (.aload 5)] 18 _ _ (by decide +kernel) rfl ?_
  refine aw_ifnull (o := 8) (tgt := 30) (by decide +kernel) (by decide) (fun _ => ?_) (fun _ z => nomatch z)
  refine aw_blk (pc' := 31) (ls' := [some (vr 0 0), some (vi a), some (vi e), some (vi B), some (vi d), some (vn), some (vo (lawAt laws B)), none, none]) (st' := [vi 0]) [.inl (.iconst 0)] 30 _ _ (by decide +kernel) rfl ?_
  exact aw_zret (by decide +kernel) rfl (by decide) (by decide) (by omega) (hq _ _ rfl rfl)

theorem m_B_settleOfBoth_1 (hI : I32 e ∧ I32 B) (hl1 : lawAt laws e = some (9, k)) (hl2 : lawAt laws B = none) : ADet G M_B_settleOfBoth [vr 0 0, vi a, vi e, vi B, vi d] (Hp (sgB bd tk) (sgS laws slot ahead made (od : Int) (dn : Int) (un : Int)) t (sgK (nn : Int) rr ff gg) df jo tr di mo dy) (some (vi 0)) (Hp (sgB bd tk) (sgS laws slot ahead made (od : Int) (dn : Int) (un : Int)) t (sgK (nn : Int) rr ff gg) df jo tr di mo dy) := by
  refine am_det (by decide +kernel) (Nat.le_of_ble_eq_true rfl) (fun Qr Qt hq => ?_)
  refine aw_blk (pc' := 5) (ls' := [some (vr 0 0), some (vi a), some (vi e), some (vi B), some (vi d), none, none, none, none]) (st' := [vi e, vr 1 0]) [.inl (.aload_n 0), .inr (10, 0, 0), .inl (.iload_n 2)] 0 _ _ (by decide +kernel) rfl ?_
  refine aw_dV (cs' := 0) (sl' := 0) (pc' := 8) (st' := [vo (lawAt laws e)]) (idx := 117) (as := [vi e]) (st := []) (m_S_lawIn hI.1) (by decide +kernel) (show vOK "ChanceBench" 117 M_S_lawIn 1 = true by decide +kernel) rfl rfl rfl (Nat.le_of_ble_eq_true rfl) (by decide) (by decide) (by decide) rfl rfl rfl rfl ?_
  rw [hl1]
  refine aw_blk (pc' := 15) (ls' := [some (vr 0 0), some (vi a), some (vi e), some (vi B), some (vi d), some (vr 9 k), none, none, none]) (st' := [vi B, vr 1 0]) [.inl (.astore 5), .inl (.aload_n 0), .inr (10, 0, 0), .inl (.iload_n 3)] 8 _ _ (by decide +kernel) rfl ?_
  refine aw_dV (cs' := 0) (sl' := 0) (pc' := 18) (st' := [vo (lawAt laws B)]) (idx := 117) (as := [vi B]) (st := []) (m_S_lawIn hI.2) (by decide +kernel) (show vOK "ChanceBench" 117 M_S_lawIn 1 = true by decide +kernel) rfl rfl rfl (Nat.le_of_ble_eq_true rfl) (by decide) (by decide) (by decide) rfl rfl rfl rfl ?_
  rw [hl2]
  refine aw_blk (pc' := 22) (ls' := [some (vr 0 0), some (vi a), some (vi e), some (vi B), some (vi d), some (vr 9 k), some (vn), none, none]) (st' := [vr 9 k]) [.inl (.astore 6), .inl (.aload 5)] 18 _ _ (by decide +kernel) rfl ?_
  refine aw_ifnull (o := 8) (tgt := 30) (by decide +kernel) (by decide) (fun z => nomatch z) (fun _ _ => ?_)
  refine aw_blk (pc' := 27) (ls' := [some (vr 0 0), some (vi a), some (vi e), some (vi B), some (vi d), some (vr 9 k), some (vn), none, none]) (st' := [vn]) [.inl (.aload 6)] 25 _ _ (by decide +kernel) rfl ?_
  refine aw_ifnonnull (o := 5) (tgt := 32) (by decide +kernel) (by decide) (fun _ z => nomatch z) (fun _ => ?_)
  refine aw_blk (pc' := 31) (ls' := [some (vr 0 0), some (vi a), some (vi e), some (vi B), some (vi d), some (vr 9 k), some (vn), none, none]) (st' := [vi 0]) [.inl (.iconst 0)] 30 _ _ (by decide +kernel) rfl ?_
  exact aw_zret (by decide +kernel) rfl (by decide) (by decide) (by omega) (hq _ _ rfl rfl)

theorem m_B_sum (ha : I32 a) (hI : I32 e ∧ I32 B) (hl1 : lawAt laws e = some (9, k)) (hl2 : lawAt laws B = some (9, q)) (hA : isD dy k k1 k2 n at_ wt W) (A : lwN n at_ wt W) (hA2 : isD dy q q1 q2 m at2 wt2 W2) (A2 : lwN m at2 wt2 W2) (ho : od < 30) (hd : dn ≤ 30) (hl : lwOK dy laws) : AMet G M_B_sum [vr 0 0, vi a, vi e, vi B] (Hp (sgB bd tk) (sgS laws slot ahead made (od : Int) (dn : Int) (un : Int)) t (sgK (nn : Int) rr ff gg) df jo tr di mo dy) (fun r h => ∃ (nn : Nat) (rr : Int) (ff gg : Nat → Int), stl laws slot ahead made od dn un bd tk t (sgK (nn : Int) rr ff gg) df jo tr di mo dy a (T2 3 at_ wt at2 wt2 m n) (B2 3 at_ wt at2 wt2 m n) r h) (fun _ => False) := by
  refine am_rel (by decide +kernel) (Nat.le_of_ble_eq_true rfl) (fun Qr Qt hq => ?_)
  have hd4 : (0 : Int) ≤ 3 ∧ (3 : Int) ≤ 3 := by omega
  refine aw_blk (pc' := 5) (ls' := [some (vr 0 0), some (vi a), some (vi e), some (vi B)]) (st' := [vi 3, vi B, vi e, vi a, vr 0 0]) [.inl (.aload_n 0), .inl (.iload_n 1), .inl (.iload_n 2), .inl (.iload_n 3), .inl (.iconst 3)] 0 _ _ (by decide +kernel) rfl ?_
  refine aw_rV (cs' := 3) (sl' := 51) (pc' := 8) (idx := 113) (as := [vi a, vi e, vi B, vi 3]) (st := []) (m_B_settleOfBoth ha hI hd4 hl1 hl2 hA A hA2 A2 ho hd hl) (by decide +kernel) (show vOK "ChanceBench" 113 M_B_settleOfBoth 4 = true by decide +kernel) rfl rfl rfl (Nat.le_of_ble_eq_true rfl) (by decide) (by decide) (by decide) rfl rfl rfl (fun r5 h5 z5 => ?_)
  obtain ⟨nn, rr, ff, gg, ⟨rfl, h1, rfl⟩ | ⟨rfl, h1, h2, m9, a9, w9, W9, h3, rfl⟩⟩ := z5
  · exact aw_zret (by decide +kernel) rfl (by decide) (by decide) (by omega) (hq _ _ ⟨nn, rr, ff, gg, Or.inl ⟨rfl, h1, rfl⟩⟩)
  · exact aw_zret (by decide +kernel) rfl (by decide) (by decide) (by omega) (hq _ _ ⟨nn, rr, ff, gg, Or.inr ⟨rfl, h1, h2, m9, a9, w9, W9, h3, rfl⟩⟩)

theorem m_B_sum_0 (hI : I32 e ∧ I32 B) (hl1 : lawAt laws e = none) : ADet G M_B_sum [vr 0 0, vi a, vi e, vi B] (Hp (sgB bd tk) (sgS laws slot ahead made (od : Int) (dn : Int) (un : Int)) t (sgK (nn : Int) rr ff gg) df jo tr di mo dy) (some (vi 0)) (Hp (sgB bd tk) (sgS laws slot ahead made (od : Int) (dn : Int) (un : Int)) t (sgK (nn : Int) rr ff gg) df jo tr di mo dy) := by
  refine am_det (by decide +kernel) (Nat.le_of_ble_eq_true rfl) (fun Qr Qt hq => ?_)
  refine aw_blk (pc' := 5) (ls' := [some (vr 0 0), some (vi a), some (vi e), some (vi B)]) (st' := [vi 3, vi B, vi e, vi a, vr 0 0]) [.inl (.aload_n 0), .inl (.iload_n 1), .inl (.iload_n 2), .inl (.iload_n 3), .inl (.iconst 3)] 0 _ _ (by decide +kernel) rfl ?_
  refine aw_dV (cs' := 3) (sl' := 51) (pc' := 8) (st' := [vi 0]) (idx := 113) (as := [vi a, vi e, vi B, vi 3]) (st := []) (m_B_settleOfBoth_0 hI hl1) (by decide +kernel) (show vOK "ChanceBench" 113 M_B_settleOfBoth 4 = true by decide +kernel) rfl rfl rfl (Nat.le_of_ble_eq_true rfl) (by decide) (by decide) (by decide) rfl rfl rfl rfl ?_
  exact aw_zret (by decide +kernel) rfl (by decide) (by decide) (by omega) (hq _ _ rfl rfl)

theorem m_B_sum_1 (hI : I32 e ∧ I32 B) (hl1 : lawAt laws e = some (9, k)) (hl2 : lawAt laws B = none) : ADet G M_B_sum [vr 0 0, vi a, vi e, vi B] (Hp (sgB bd tk) (sgS laws slot ahead made (od : Int) (dn : Int) (un : Int)) t (sgK (nn : Int) rr ff gg) df jo tr di mo dy) (some (vi 0)) (Hp (sgB bd tk) (sgS laws slot ahead made (od : Int) (dn : Int) (un : Int)) t (sgK (nn : Int) rr ff gg) df jo tr di mo dy) := by
  refine am_det (by decide +kernel) (Nat.le_of_ble_eq_true rfl) (fun Qr Qt hq => ?_)
  refine aw_blk (pc' := 5) (ls' := [some (vr 0 0), some (vi a), some (vi e), some (vi B)]) (st' := [vi 3, vi B, vi e, vi a, vr 0 0]) [.inl (.aload_n 0), .inl (.iload_n 1), .inl (.iload_n 2), .inl (.iload_n 3), .inl (.iconst 3)] 0 _ _ (by decide +kernel) rfl ?_
  refine aw_dV (cs' := 3) (sl' := 51) (pc' := 8) (st' := [vi 0]) (idx := 113) (as := [vi a, vi e, vi B, vi 3]) (st := []) (m_B_settleOfBoth_1 hI hl1 hl2) (by decide +kernel) (show vOK "ChanceBench" 113 M_B_settleOfBoth 4 = true by decide +kernel) rfl rfl rfl (Nat.le_of_ble_eq_true rfl) (by decide) (by decide) (by decide) rfl rfl rfl rfl ?_
  exact aw_zret (by decide +kernel) rfl (by decide) (by decide) (by omega) (hq _ _ rfl rfl)

theorem m_B_of (ha : I32 a) (hI : I32 e ∧ I32 B) (h2 : 0 ≤ d ∧ d ≤ 2) (hl1 : lawAt laws e = some (9, k)) (hl2 : lawAt laws B = some (9, q)) (hA : isD dy k k1 k2 n at_ wt W) (A : lwN n at_ wt W) (hA2 : isD dy q q1 q2 m at2 wt2 W2) (A2 : lwN m at2 wt2 W2) (ho : od < 30) (hd : dn ≤ 30) (hl : lwOK dy laws) : AMet G M_B_of [vr 0 0, vi a, vi e, vi B, vi d] (Hp (sgB bd tk) (sgS laws slot ahead made (od : Int) (dn : Int) (un : Int)) t (sgK (nn : Int) rr ff gg) df jo tr di mo dy) (fun r h => ∃ (nn : Nat) (rr : Int) (ff gg : Nat → Int), stl laws slot ahead made od dn un bd tk t (sgK (nn : Int) rr ff gg) df jo tr di mo dy a (T2 d at_ wt at2 wt2 m n) (B2 d at_ wt at2 wt2 m n) r h) (fun _ => False) := by
  refine am_rel (by decide +kernel) (Nat.le_of_ble_eq_true rfl) (fun Qr Qt hq => ?_)
  refine aw_blk (pc' := 4) (ls' := [some (vr 0 0), some (vi a), some (vi e), some (vi B), some (vi d)]) (st' := [vi 2, vi 0, vi d]) [.inl (.iload 4), .inl (.iconst 0), .inl (.iconst 2)] 0 _ _ (by decide +kernel) rfl ?_
  refine aw_dS (cs' := 0) (sl' := 0) (pc' := 7) (st' := [vi (if 0 ≤ d ∧ d ≤ 2 then 1 else 0)]) (idx := 98) (as := [vi d, vi 0, vi 2]) (st := []) (m_B_isWithin (by omega) (by omega) (by omega)) (by decide +kernel) (show sOK "ChanceBench" 98 M_B_isWithin 3 = true by decide +kernel) rfl (Nat.le_of_ble_eq_true rfl) (by decide) (by decide) (by decide) rfl rfl rfl rfl ?_
  rw [if_pos h2]
  refine aw_if_eq (o := 19) (tgt := 26) (by decide +kernel) (by decide) (by omega) (fun c => absurd c (by omega)) (fun _ => ?_)
  have hd4 : 0 ≤ d ∧ d ≤ 3 := by omega
  refine aw_blk (pc' := 16) (ls' := [some (vr 0 0), some (vi a), some (vi e), some (vi B), some (vi d)]) (st' := [vi d, vi B, vi e, vi a, vr 0 0]) [.inl (.aload_n 0), .inl (.iload_n 1), .inl (.iload_n 2), .inl (.iload_n 3), .inl (.iload 4)] 10 _ _ (by decide +kernel) rfl ?_
  refine aw_rV (cs' := 3) (sl' := 51) (pc' := 19) (idx := 113) (as := [vi a, vi e, vi B, vi d]) (st := []) (m_B_settleOfBoth ha hI hd4 hl1 hl2 hA A hA2 A2 ho hd hl) (by decide +kernel) (show vOK "ChanceBench" 113 M_B_settleOfBoth 4 = true by decide +kernel) rfl rfl rfl (Nat.le_of_ble_eq_true rfl) (by decide) (by decide) (by decide) rfl rfl rfl (fun r16 h16 z16 => ?_)
  obtain ⟨nn, rr, ff, gg, ⟨rfl, h1, rfl⟩ | ⟨rfl, h1, h2, m9, a9, w9, W9, h3, rfl⟩⟩ := z16
  · refine aw_if_eq (o := 7) (tgt := 26) (by decide +kernel) (by decide) (by omega) (fun _ => ?_) (fun c => absurd (by omega) c)
    refine aw_blk (pc' := 27) (ls' := [some (vr 0 0), some (vi a), some (vi e), some (vi B), some (vi d)]) (st' := [vi 0]) [.inl (.iconst 0)] 26 _ _ (by decide +kernel) rfl ?_
    exact aw_zret (by decide +kernel) rfl (by decide) (by decide) (by omega) (hq _ _ ⟨nn, rr, ff, gg, Or.inl ⟨rfl, h1, rfl⟩⟩)
  · refine aw_if_eq (o := 7) (tgt := 26) (by decide +kernel) (by decide) (by omega) (fun c => absurd c (by omega)) (fun _ => ?_)
    refine aw_blk (pc' := 23) (ls' := [some (vr 0 0), some (vi a), some (vi e), some (vi B), some (vi d)]) (st' := [vi 1]) [.inl (.iconst 1)] 22 _ _ (by decide +kernel) rfl ?_
    refine aw_goto (o := 4) (tgt := 27) (by decide +kernel) (by decide) ?_
    exact aw_zret (by decide +kernel) rfl (by decide) (by decide) (by omega) (hq _ _ ⟨nn, rr, ff, gg, Or.inr ⟨rfl, h1, h2, m9, a9, w9, W9, h3, rfl⟩⟩)

theorem m_B_of_0 (hI : I32 e ∧ I32 B) (h2 : 0 ≤ d ∧ d ≤ 2) (hl1 : lawAt laws e = none) : ADet G M_B_of [vr 0 0, vi a, vi e, vi B, vi d] (Hp (sgB bd tk) (sgS laws slot ahead made (od : Int) (dn : Int) (un : Int)) t (sgK (nn : Int) rr ff gg) df jo tr di mo dy) (some (vi 0)) (Hp (sgB bd tk) (sgS laws slot ahead made (od : Int) (dn : Int) (un : Int)) t (sgK (nn : Int) rr ff gg) df jo tr di mo dy) := by
  refine am_det (by decide +kernel) (Nat.le_of_ble_eq_true rfl) (fun Qr Qt hq => ?_)
  refine aw_blk (pc' := 4) (ls' := [some (vr 0 0), some (vi a), some (vi e), some (vi B), some (vi d)]) (st' := [vi 2, vi 0, vi d]) [.inl (.iload 4), .inl (.iconst 0), .inl (.iconst 2)] 0 _ _ (by decide +kernel) rfl ?_
  refine aw_dS (cs' := 0) (sl' := 0) (pc' := 7) (st' := [vi (if 0 ≤ d ∧ d ≤ 2 then 1 else 0)]) (idx := 98) (as := [vi d, vi 0, vi 2]) (st := []) (m_B_isWithin (by omega) (by omega) (by omega)) (by decide +kernel) (show sOK "ChanceBench" 98 M_B_isWithin 3 = true by decide +kernel) rfl (Nat.le_of_ble_eq_true rfl) (by decide) (by decide) (by decide) rfl rfl rfl rfl ?_
  rw [if_pos h2]
  refine aw_if_eq (o := 19) (tgt := 26) (by decide +kernel) (by decide) (by omega) (fun c => absurd c (by omega)) (fun _ => ?_)
  refine aw_blk (pc' := 16) (ls' := [some (vr 0 0), some (vi a), some (vi e), some (vi B), some (vi d)]) (st' := [vi d, vi B, vi e, vi a, vr 0 0]) [.inl (.aload_n 0), .inl (.iload_n 1), .inl (.iload_n 2), .inl (.iload_n 3), .inl (.iload 4)] 10 _ _ (by decide +kernel) rfl ?_
  refine aw_dV (cs' := 3) (sl' := 51) (pc' := 19) (st' := [vi 0]) (idx := 113) (as := [vi a, vi e, vi B, vi d]) (st := []) (m_B_settleOfBoth_0 hI hl1) (by decide +kernel) (show vOK "ChanceBench" 113 M_B_settleOfBoth 4 = true by decide +kernel) rfl rfl rfl (Nat.le_of_ble_eq_true rfl) (by decide) (by decide) (by decide) rfl rfl rfl rfl ?_
  refine aw_if_eq (o := 7) (tgt := 26) (by decide +kernel) (by decide) (by omega) (fun _ => ?_) (fun c => absurd (by omega) c)
  refine aw_blk (pc' := 27) (ls' := [some (vr 0 0), some (vi a), some (vi e), some (vi B), some (vi d)]) (st' := [vi 0]) [.inl (.iconst 0)] 26 _ _ (by decide +kernel) rfl ?_
  exact aw_zret (by decide +kernel) rfl (by decide) (by decide) (by omega) (hq _ _ rfl rfl)

theorem m_B_of_1 (hI : I32 e ∧ I32 B) (h2 : 0 ≤ d ∧ d ≤ 2) (hl1 : lawAt laws e = some (9, k)) (hl2 : lawAt laws B = none) : ADet G M_B_of [vr 0 0, vi a, vi e, vi B, vi d] (Hp (sgB bd tk) (sgS laws slot ahead made (od : Int) (dn : Int) (un : Int)) t (sgK (nn : Int) rr ff gg) df jo tr di mo dy) (some (vi 0)) (Hp (sgB bd tk) (sgS laws slot ahead made (od : Int) (dn : Int) (un : Int)) t (sgK (nn : Int) rr ff gg) df jo tr di mo dy) := by
  refine am_det (by decide +kernel) (Nat.le_of_ble_eq_true rfl) (fun Qr Qt hq => ?_)
  refine aw_blk (pc' := 4) (ls' := [some (vr 0 0), some (vi a), some (vi e), some (vi B), some (vi d)]) (st' := [vi 2, vi 0, vi d]) [.inl (.iload 4), .inl (.iconst 0), .inl (.iconst 2)] 0 _ _ (by decide +kernel) rfl ?_
  refine aw_dS (cs' := 0) (sl' := 0) (pc' := 7) (st' := [vi (if 0 ≤ d ∧ d ≤ 2 then 1 else 0)]) (idx := 98) (as := [vi d, vi 0, vi 2]) (st := []) (m_B_isWithin (by omega) (by omega) (by omega)) (by decide +kernel) (show sOK "ChanceBench" 98 M_B_isWithin 3 = true by decide +kernel) rfl (Nat.le_of_ble_eq_true rfl) (by decide) (by decide) (by decide) rfl rfl rfl rfl ?_
  rw [if_pos h2]
  refine aw_if_eq (o := 19) (tgt := 26) (by decide +kernel) (by decide) (by omega) (fun c => absurd c (by omega)) (fun _ => ?_)
  refine aw_blk (pc' := 16) (ls' := [some (vr 0 0), some (vi a), some (vi e), some (vi B), some (vi d)]) (st' := [vi d, vi B, vi e, vi a, vr 0 0]) [.inl (.aload_n 0), .inl (.iload_n 1), .inl (.iload_n 2), .inl (.iload_n 3), .inl (.iload 4)] 10 _ _ (by decide +kernel) rfl ?_
  refine aw_dV (cs' := 3) (sl' := 51) (pc' := 19) (st' := [vi 0]) (idx := 113) (as := [vi a, vi e, vi B, vi d]) (st := []) (m_B_settleOfBoth_1 hI hl1 hl2) (by decide +kernel) (show vOK "ChanceBench" 113 M_B_settleOfBoth 4 = true by decide +kernel) rfl rfl rfl (Nat.le_of_ble_eq_true rfl) (by decide) (by decide) (by decide) rfl rfl rfl rfl ?_
  refine aw_if_eq (o := 7) (tgt := 26) (by decide +kernel) (by decide) (by omega) (fun _ => ?_) (fun c => absurd (by omega) c)
  refine aw_blk (pc' := 27) (ls' := [some (vr 0 0), some (vi a), some (vi e), some (vi B), some (vi d)]) (st' := [vi 0]) [.inl (.iconst 0)] 26 _ _ (by decide +kernel) rfl ?_
  exact aw_zret (by decide +kernel) rfl (by decide) (by decide) (by omega) (hq _ _ rfl rfl)

theorem m_B_of_2 (hI : I32 d) (h2 : ¬ (0 ≤ d ∧ d ≤ 2)) : ADet G M_B_of [vr 0 0, vi a, vi e, vi B, vi d] (Hp (sgB bd tk) (sgS laws slot ahead made (od : Int) (dn : Int) (un : Int)) t (sgK (nn : Int) rr ff gg) df jo tr di mo dy) (some (vi 0)) (Hp (sgB bd tk) (sgS laws slot ahead made (od : Int) (dn : Int) (un : Int)) t (sgK (nn : Int) rr ff gg) df jo tr di mo dy) := by
  refine am_det (by decide +kernel) (Nat.le_of_ble_eq_true rfl) (fun Qr Qt hq => ?_)
  refine aw_blk (pc' := 4) (ls' := [some (vr 0 0), some (vi a), some (vi e), some (vi B), some (vi d)]) (st' := [vi 2, vi 0, vi d]) [.inl (.iload 4), .inl (.iconst 0), .inl (.iconst 2)] 0 _ _ (by decide +kernel) rfl ?_
  refine aw_dS (cs' := 0) (sl' := 0) (pc' := 7) (st' := [vi (if 0 ≤ d ∧ d ≤ 2 then 1 else 0)]) (idx := 98) (as := [vi d, vi 0, vi 2]) (st := []) (m_B_isWithin hI (by omega) (by omega)) (by decide +kernel) (show sOK "ChanceBench" 98 M_B_isWithin 3 = true by decide +kernel) rfl (Nat.le_of_ble_eq_true rfl) (by decide) (by decide) (by decide) rfl rfl rfl rfl ?_
  rw [if_neg h2]
  refine aw_if_eq (o := 19) (tgt := 26) (by decide +kernel) (by decide) (by omega) (fun _ => ?_) (fun c => absurd (by omega) c)
  refine aw_blk (pc' := 27) (ls' := [some (vr 0 0), some (vi a), some (vi e), some (vi B), some (vi d)]) (st' := [vi 0]) [.inl (.iconst 0)] 26 _ _ (by decide +kernel) rfl ?_
  exact aw_zret (by decide +kernel) rfl (by decide) (by decide) (by omega) (hq _ _ rfl rfl)

def uC (c d e B : Int) (k : Nat) : Int := if B = 0 then chs c.toNat (k : Int) * chs d.toNat (e - (k : Int)) else chs e.toNat (k : Int) * pw c k * pw d (e.toNat - k)
theorem pw_in {x : Int} (h : 0 ≤ x ∧ x ≤ 20) : ∀ k : Nat, 0 ≤ pw x k ∧ pw x k ≤ pw 20 k
  | 0 => ⟨by simp [pw], Int.le_refl _⟩
  | k + 1 => by
    obtain ⟨h1, h2⟩ := pw_in h k
    simp only [pw]
    exact ⟨Int.mul_nonneg h1 h.1, Int.mul_le_mul h2 h.2 h.1 (Int.le_trans h1 h2)⟩
theorem pw_20 : ∀ (d : Fin 11) (k : Fin 11), k.val ≤ d.val → pw 20 k.val * pw 20 (d.val - k.val) ≤ 10240000000000 := by decide +kernel
theorem chs_10 : ∀ (d : Fin 11) (k : Fin 11), 0 ≤ chs d.val (k.val : Int) ∧ chs d.val (k.val : Int) ≤ 252 := by decide +kernel
theorem chs_20 {n : Nat} {c : Int} (hn : n ≤ 20) : 0 ≤ chs n c ∧ chs n c ≤ 184756 := by
  unfold chs
  split
  · rename_i h
    exact chW_in ⟨n, by omega⟩ ⟨c.toNat, by omega⟩ (by show c.toNat ≤ n; omega) ⟨c.toNat, by omega⟩ (Nat.le_refl _)
  · omega
theorem uC_in {c d e B : Int} {k : Nat} (h1 : 0 ≤ c ∧ c ≤ 20) (h2 : 0 ≤ d ∧ d ≤ 20) (h3 : 1 ≤ e ∧ e ≤ 10) (hk : (k : Int) ≤ e) : 0 ≤ uC c d e B k ∧ uC c d e B k ≤ 2600000000000000 := by
  unfold uC
  split
  · have a := chs_20 (n := c.toNat) (c := (k : Int)) (by omega)
    have b := chs_20 (n := d.toNat) (c := e - (k : Int)) (by omega)
    have := Int.mul_le_mul a.2 b.2 b.1 (by omega)
    exact ⟨Int.mul_nonneg a.1 b.1, by omega⟩
  · have a := chs_10 ⟨e.toNat, by omega⟩ ⟨k, by omega⟩
    have b := pw_in h1 k
    have b2 := pw_in h2 (e.toNat - k)
    have c := pw_20 ⟨e.toNat, by omega⟩ ⟨k, by omega⟩ (by show k ≤ e.toNat; omega)
    have m1 := Int.mul_le_mul b.2 b2.2 b2.1 (by omega)
    have m0 := Int.mul_nonneg b.1 b2.1
    simp only at a c
    rw [Int.mul_assoc]
    have := Int.mul_le_mul a.2 (Int.le_trans m1 c) m0 (by omega)
    exact ⟨Int.mul_nonneg a.1 m0, by omega⟩
theorem m_B_urn (ha : I32 a) (hI : I32 c ∧ I32 d ∧ I32 e) (hB : 0 ≤ B ∧ B ≤ 1) (ho : od < 30) (hd : dn ≤ 30) (hl : lwOK dy laws) : AMet G M_B_urn [vr 0 0, vi a, vi c, vi d, vi e, vi B] (Hp (sgB bd tk) (sgS laws slot ahead made (od : Int) (dn : Int) (un : Int)) t (sgK (nn : Int) rr ff gg) df jo tr di mo dy) (fun r h => ∃ (nn : Nat) (rr : Int) (ff gg : Nat → Int), stl laws slot ahead made od dn un bd tk t (sgK (nn : Int) rr ff gg) df jo tr di mo dy a (den (fun k => (k : Int)) (uC c d e B) (e.toNat + 1)) (¬ ((0 ≤ c ∧ c ≤ 20) ∧ (0 ≤ d ∧ d ≤ 20) ∧ (1 ≤ e ∧ e ≤ 10) ∧ c + d ≠ 0 ∧ (B = 0 → e ≤ c + d)) ∨ byd (fun k => (k : Int)) (uC c d e B) (e.toNat + 1)) r h) (fun _ => False) := by
  refine am_rel (by decide +kernel) (Nat.le_of_ble_eq_true rfl) (fun Qr Qt hq => ?_)
  refine aw_blk (pc' := 4) (ls' := [some (vr 0 0), some (vi a), some (vi c), some (vi d), some (vi e), some (vi B), none, none, none, none]) (st' := [vi 20, vi 0, vi c]) [.inl (.iload_n 2), .inl (.iconst 0), .inl (.bipush 20)] 0 _ _ (by decide +kernel) rfl ?_
  refine aw_dS (cs' := 0) (sl' := 0) (pc' := 7) (st' := [vi (if 0 ≤ c ∧ c ≤ 20 then 1 else 0)]) (idx := 98) (as := [vi c, vi 0, vi 20]) (st := []) (m_B_isWithin hI.1 (by omega) (by omega)) (by decide +kernel) (show sOK "ChanceBench" 98 M_B_isWithin 3 = true by decide +kernel) rfl (Nat.le_of_ble_eq_true rfl) (by decide) (by decide) (by decide) rfl rfl rfl rfl ?_
  by_cases h1 : 0 ≤ c ∧ c ≤ 20
  · rw [if_pos h1]
    refine aw_if_eq (o := 24) (tgt := 31) (by decide +kernel) (by decide) (by omega) (fun c => absurd c (by omega)) (fun _ => ?_)
    refine aw_blk (pc' := 14) (ls' := [some (vr 0 0), some (vi a), some (vi c), some (vi d), some (vi e), some (vi B), none, none, none, none]) (st' := [vi 20, vi 0, vi d]) [.inl (.iload_n 3), .inl (.iconst 0), .inl (.bipush 20)] 10 _ _ (by decide +kernel) rfl ?_
    refine aw_dS (cs' := 0) (sl' := 0) (pc' := 17) (st' := [vi (if 0 ≤ d ∧ d ≤ 20 then 1 else 0)]) (idx := 98) (as := [vi d, vi 0, vi 20]) (st := []) (m_B_isWithin hI.2.1 (by omega) (by omega)) (by decide +kernel) (show sOK "ChanceBench" 98 M_B_isWithin 3 = true by decide +kernel) rfl (Nat.le_of_ble_eq_true rfl) (by decide) (by decide) (by decide) rfl rfl rfl rfl ?_
    by_cases h2 : 0 ≤ d ∧ d ≤ 20
    · rw [if_pos h2]
      refine aw_if_eq (o := 14) (tgt := 31) (by decide +kernel) (by decide) (by omega) (fun c => absurd c (by omega)) (fun _ => ?_)
      refine aw_blk (pc' := 25) (ls' := [some (vr 0 0), some (vi a), some (vi c), some (vi d), some (vi e), some (vi B), none, none, none, none]) (st' := [vi 10, vi 1, vi e]) [.inl (.iload 4), .inl (.iconst 1), .inl (.bipush 10)] 20 _ _ (by decide +kernel) rfl ?_
      refine aw_dS (cs' := 0) (sl' := 0) (pc' := 28) (st' := [vi (if 1 ≤ e ∧ e ≤ 10 then 1 else 0)]) (idx := 98) (as := [vi e, vi 1, vi 10]) (st := []) (m_B_isWithin hI.2.2 (by omega) (by omega)) (by decide +kernel) (show sOK "ChanceBench" 98 M_B_isWithin 3 = true by decide +kernel) rfl (Nat.le_of_ble_eq_true rfl) (by decide) (by decide) (by decide) rfl rfl rfl rfl ?_
      by_cases h3 : 1 ≤ e ∧ e ≤ 10
      · rw [if_pos h3]
        refine aw_if_ne (o := 5) (tgt := 33) (by decide +kernel) (by decide) (by omega) (fun _ => ?_) (fun c => absurd c (by omega))
        refine aw_blk (pc' := 40) (ls' := [some (vr 0 0), some (vi a), some (vi c), some (vi d), some (vi e), some (vi B), some (vi (c + d)), none, none, none]) (st' := [vi (c + d)]) [.inl (.iload_n 2), .inl (.iload_n 3), .inl (.iadd), .inl (.istore 6), .inl (.iload 6)] 33 _ _ (by decide +kernel) rfl ?_
        refine aw_if_eq (o := 15) (tgt := 55) (by decide +kernel) (by decide) (by omega) (fun c40 => ?_) (fun c40 => ?_)
        · refine aw_blk (pc' := 56) (ls' := [some (vr 0 0), some (vi a), some (vi c), some (vi d), some (vi e), some (vi B), some (vi (c + d)), none, none, none]) (st' := [vi 0]) [.inl (.iconst 0)] 55 _ _ (by decide +kernel) rfl ?_
          exact aw_zret (by decide +kernel) rfl (by decide) (by decide) (by omega) (hq _ _ ⟨nn, rr, ff, gg, Or.inl ⟨rfl, fun z => z.2.1 (Or.inl (fun z => z.2.2.2.1 c40)), rfl⟩⟩)
        · refine aw_blk (pc' := 45) (ls' := [some (vr 0 0), some (vi a), some (vi c), some (vi d), some (vi e), some (vi B), some (vi (c + d)), none, none, none]) (st' := [vi B]) [.inl (.iload 5)] 43 _ _ (by decide +kernel) rfl ?_
          refine aw_if_ne (o := 12) (tgt := 57) (by decide +kernel) (by decide) (by omega) (fun c45 => ?_) (fun c45 => ?_)
          · obtain ⟨N, rfl⟩ : ∃ N : Nat, e = (N : Int) := ⟨e.toNat, by omega⟩
            obtain ⟨c1, rfl⟩ : ∃ N : Nat, c = (N : Int) := ⟨c.toNat, by omega⟩
            obtain ⟨d1, rfl⟩ : ∃ N : Nat, d = (N : Int) := ⟨d.toNat, by omega⟩
            refine aw_blk (pc' := 61) (ls' := [some (vr 0 0), some (vi a), some (vi (c1 : Int)), some (vi (d1 : Int)), some (vi (N : Int)), some (vi B), some (vi ((c1 : Int) + (d1 : Int))), none, none, none]) (st' := [vr 3 0]) [.inl (.aload_n 0), .inr (26, 0, 2)] 57 _ _ (by decide +kernel) rfl ?_
            refine aw_dV (cs' := 0) (sl' := 0) (pc' := 64) (st' := []) (idx := 81) (as := []) (st := []) (m_K_clear) (by decide +kernel) (show vOK "ChanceBench" 81 M_K_clear 0 = true by decide +kernel) rfl rfl rfl (Nat.le_of_ble_eq_true rfl) (by decide) (by decide) (by decide) rfl rfl rfl rfl ?_
            refine aw_blk (pc' := 67) (ls' := [some (vr 0 0), some (vi a), some (vi (c1 : Int)), some (vi (d1 : Int)), some (vi (N : Int)), some (vi B), some (vi ((c1 : Int) + (d1 : Int))), some (vi 0), none, none]) (st' := []) [.inl (.iconst 0), .inl (.istore 7)] 64 _ _ (by decide +kernel) rfl ?_
            refine up_to (W := fun i : Nat => ∀ (nn : Nat) (rr : Int) (ff gg : Nat → Int), mkR ((i : Int) * 2600000000000000) (fun u => 0 + den (fun k => (k : Int)) (uC (c1 : Int) (d1 : Int) (N : Int) B) i u) (False ∨ byd (fun k => (k : Int)) (uC (c1 : Int) (d1 : Int) (N : Int) B) i) nn rr ff gg → AW G M_B_urn Qr Qt 0 0 67 [some (vr 0 0), some (vi a), some (vi (c1 : Int)), some (vi (d1 : Int)), some (vi (N : Int)), some (vi B), some (vi ((c1 : Int) + (d1 : Int))), some (vi (i : Int)), none, none] [] (Hp [some (ob 0 [vr 1 0, vr 2 0, vr 3 0, vr 4 0, vr 5 0, vr 6 0, vr 7 0, vi bd, vi tk])] [some (ob 1 [vr 1 1, vr 1 2, vr 1 3, vr 1 4, vi (od : Int), vi (dn : Int), vi (un : Int)]), some (rs 16 laws), some (ar 0 30 slot), some (rs 30 ahead), some (rs 30 made)] t [some (ob 3 [vr 3 1, vr 3 2, vi (nn : Int), vi rr]), some (ar 0 24 ff), some (ar 1 24 gg)] df jo tr di mo dy)) (N + 1) ?_ (fun i hi ih => ?_) 0 (by omega) _ _ _ _ mkR_0.z
            · intro nn rr ff gg R
              refine aw_blk (pc' := 71) (ls' := [some (vr 0 0), some (vi a), some (vi (c1 : Int)), some (vi (d1 : Int)), some (vi (N : Int)), some (vi B), some (vi ((c1 : Int) + (d1 : Int))), some (vi ((N + 1 : Nat) : Int)), none, none]) (st' := [vi (N : Int), vi ((N + 1 : Nat) : Int)]) [.inl (.iload 7), .inl (.iload 4)] 67 _ _ (by decide +kernel) rfl ?_
              refine aw_icmp_gt (o := 71) (tgt := 142) (by decide +kernel) (by decide) (by omega) (by omega) (fun _ => ?_) (fun c => absurd (by omega) c)
              have R9 := R.e.eq (by' := ¬ ((0 ≤ (c1 : Int) ∧ (c1 : Int) ≤ 20) ∧ (0 ≤ (d1 : Int) ∧ (d1 : Int) ≤ 20) ∧ (1 ≤ (N : Int) ∧ (N : Int) ≤ 10) ∧ (c1 : Int) + (d1 : Int) ≠ 0 ∧ (B = 0 → (N : Int) ≤ (c1 : Int) + (d1 : Int))) ∨ byd (fun k => (k : Int)) (uC (c1 : Int) (d1 : Int) (N : Int) B) (N + 1)) (Int.le_refl _) (fun u _ => rfl) ⟨Or.inr, fun z => z.elim (fun z => absurd (⟨h1, h2, h3, by omega, fun z => absurd z (by omega)⟩) z) id⟩
              refine aw_blk (pc' := 144) (ls' := [some (vr 0 0), some (vi a), some (vi (c1 : Int)), some (vi (d1 : Int)), some (vi (N : Int)), some (vi B), some (vi ((c1 : Int) + (d1 : Int))), some (vi ((N + 1 : Nat) : Int)), none, none]) (st' := [vi a, vr 0 0]) [.inl (.aload_n 0), .inl (.iload_n 1)] 142 _ _ (by decide +kernel) rfl ?_
              refine aw_rV (cs' := 3) (sl' := 51) (pc' := 147) (idx := 95) (as := [vi a]) (st := []) (m_B_settle ha (R9) (by omega) ho hd hl) (by decide +kernel) (show vOK "ChanceBench" 95 M_B_settle 1 = true by decide +kernel) rfl rfl rfl (Nat.le_of_ble_eq_true rfl) (by decide) (by decide) (by decide) rfl rfl rfl (fun r144 h144 z144 => ?_)
              rcases z144 with ⟨rfl, h1, rfl⟩ | ⟨rfl, h1, h2, m9, a9, w9, W9, h3, rfl⟩
              · exact aw_zret (by decide +kernel) rfl (by decide) (by decide) (by omega) (hq _ _ ⟨nn, rr, ff, gg, Or.inl ⟨rfl, h1, rfl⟩⟩)
              · exact aw_zret (by decide +kernel) rfl (by decide) (by decide) (by omega) (hq _ _ ⟨nn, rr, ff, gg, Or.inr ⟨rfl, h1, h2, m9, a9, w9, W9, h3, rfl⟩⟩)
            · intro nn rr ff gg R
              have hu := uC_in (c := (c1 : Int)) (d := (d1 : Int)) (e := (N : Int)) (B := B) (k := i) h1 h2 h3 (by omega)
              refine aw_blk (pc' := 71) (ls' := [some (vr 0 0), some (vi a), some (vi (c1 : Int)), some (vi (d1 : Int)), some (vi (N : Int)), some (vi B), some (vi ((c1 : Int) + (d1 : Int))), some (vi (i : Int)), none, none]) (st' := [vi (N : Int), vi (i : Int)]) [.inl (.iload 7), .inl (.iload 4)] 67 _ _ (by decide +kernel) rfl ?_
              refine aw_icmp_gt (o := 71) (tgt := 142) (by decide +kernel) (by decide) (by omega) (by omega) (fun c => absurd c (by omega)) (fun _ => ?_)
              refine aw_blk (pc' := 76) (ls' := [some (vr 0 0), some (vi a), some (vi (c1 : Int)), some (vi (d1 : Int)), some (vi (N : Int)), some (vi B), some (vi ((c1 : Int) + (d1 : Int))), some (vi (i : Int)), none, none]) (st' := [vi B]) [.inl (.iload 5)] 74 _ _ (by decide +kernel) rfl ?_
              refine aw_if_eq (o := 30) (tgt := 106) (by decide +kernel) (by decide) (by omega) (fun c => absurd c (by omega)) (fun _ => ?_)
              refine aw_blk (pc' := 83) (ls' := [some (vr 0 0), some (vi a), some (vi (c1 : Int)), some (vi (d1 : Int)), some (vi (N : Int)), some (vi B), some (vi ((c1 : Int) + (d1 : Int))), some (vi (i : Int)), none, none]) (st' := [vi (i : Int), vi (N : Int)]) [.inl (.iload 4), .inl (.iload 7)] 79 _ _ (by decide +kernel) rfl ?_
              refine aw_dS (cs' := 0) (sl' := 0) (pc' := 86) (st' := [vl (chs N (i : Int))]) (idx := 102) (as := [vi (N : Int), vi (i : Int)]) (st := []) (m_B_choices (n := N) (by omega) (by omega)) (by decide +kernel) (show sOK "ChanceBench" 102 M_B_choices 2 = true by decide +kernel) rfl (Nat.le_of_ble_eq_true rfl) (by decide) (by decide) (by decide) rfl rfl rfl rfl ?_
              refine aw_blk (pc' := 89) (ls' := [some (vr 0 0), some (vi a), some (vi (c1 : Int)), some (vi (d1 : Int)), some (vi (N : Int)), some (vi B), some (vi ((c1 : Int) + (d1 : Int))), some (vi (i : Int)), none, none]) (st' := [vi (i : Int), vi (c1 : Int), vl (chs N (i : Int))]) [.inl (.iload_n 2), .inl (.iload 7)] 86 _ _ (by decide +kernel) rfl ?_
              refine aw_dS (cs' := 0) (sl' := 0) (pc' := 92) (st' := [vl (pw (c1 : Int) i), vl (chs N (i : Int))]) (idx := 106) (as := [vi (c1 : Int), vi (i : Int)]) (st := [vl (chs N (i : Int))]) (m_B_power (by omega) (by omega)) (by decide +kernel) (show sOK "ChanceBench" 106 M_B_power 2 = true by decide +kernel) rfl (Nat.le_of_ble_eq_true rfl) (by decide) (by decide) (by decide) rfl rfl rfl rfl ?_
              refine aw_blk (pc' := 99) (ls' := [some (vr 0 0), some (vi a), some (vi (c1 : Int)), some (vi (d1 : Int)), some (vi (N : Int)), some (vi B), some (vi ((c1 : Int) + (d1 : Int))), some (vi (i : Int)), none, none]) (st' := [vi ((N : Int) - (i : Int)), vi (d1 : Int), vl ((chs N (i : Int)) * (pw (c1 : Int) i))]) [.inl (.lmul), .inl (.iload_n 3), .inl (.iload 4), .inl (.iload 7), .inl (.isub)] 92 _ _ (by decide +kernel) rfl ?_
              rw [show (N : Int) - (i : Int) = ((N - i : Nat) : Int) by omega]
              refine aw_dS (cs' := 0) (sl' := 0) (pc' := 102) (st' := [vl (pw (d1 : Int) (N - i)), vl ((chs N (i : Int)) * (pw (c1 : Int) i))]) (idx := 106) (as := [vi (d1 : Int), vi ((N - i : Nat) : Int)]) (st := [vl ((chs N (i : Int)) * (pw (c1 : Int) i))]) (m_B_power (by omega) (by omega)) (by decide +kernel) (show sOK "ChanceBench" 106 M_B_power 2 = true by decide +kernel) rfl (Nat.le_of_ble_eq_true rfl) (by decide) (by decide) (by decide) rfl rfl rfl rfl ?_
              refine aw_blk (pc' := 103) (ls' := [some (vr 0 0), some (vi a), some (vi (c1 : Int)), some (vi (d1 : Int)), some (vi (N : Int)), some (vi B), some (vi ((c1 : Int) + (d1 : Int))), some (vi (i : Int)), none, none]) (st' := [vl (((chs N (i : Int)) * (pw (c1 : Int) i)) * (pw (d1 : Int) (N - i)))]) [.inl (.lmul)] 102 _ _ (by decide +kernel) rfl ?_
              refine aw_goto (o := 19) (tgt := 122) (by decide +kernel) (by decide) ?_
              rw [show chs N (i : Int) * pw (c1 : Int) i * pw (d1 : Int) (N - i) = uC (c1 : Int) (d1 : Int) (N : Int) B i by unfold uC; rw [if_neg (by omega)]; rfl]
              refine aw_blk (pc' := 130) (ls' := [some (vr 0 0), some (vi a), some (vi (c1 : Int)), some (vi (d1 : Int)), some (vi (N : Int)), some (vi B), some (vi ((c1 : Int) + (d1 : Int))), some (vi (i : Int)), some (vl (uC (c1 : Int) (d1 : Int) (N : Int) B i)), none]) (st' := [vi (i : Int), vr 3 0]) [.inl (.lstore 8), .inl (.aload_n 0), .inr (26, 0, 2), .inl (.iload 7)] 122 _ _ (by decide +kernel) rfl ?_
              refine aw_i2l (by decide +kernel) (by omega) ?_
              refine aw_blk (pc' := 133) (ls' := [some (vr 0 0), some (vi a), some (vi (c1 : Int)), some (vi (d1 : Int)), some (vi (N : Int)), some (vi B), some (vi ((c1 : Int) + (d1 : Int))), some (vi (i : Int)), some (vl (uC (c1 : Int) (d1 : Int) (N : Int) B i)), none]) (st' := [vl (uC (c1 : Int) (d1 : Int) (N : Int) B i), vl (i : Int), vr 3 0]) [.inl (.lload 8)] 131 _ _ (by decide +kernel) rfl ?_
              refine aw_rV (cs' := 0) (sl' := 0) (pc' := 136) (idx := 88) (as := [vl (i : Int), vl (uC (c1 : Int) (d1 : Int) (N : Int) B i)]) (st := []) (m_K_addR R (by omega) hu.1 (by omega)) (by decide +kernel) (show vOK "ChanceBench" 88 M_K_add 2 = true by decide +kernel) rfl rfl rfl (Nat.le_of_ble_eq_true rfl) (by decide) (by decide) (by decide) rfl rfl rfl (fun r133 h133 z133 => ?_)
              obtain ⟨rfl, nn2, rr2, ff2, gg2, R2, rfl⟩ := z133
              refine aw_blk (pc' := 139) (ls' := [some (vr 0 0), some (vi a), some (vi (c1 : Int)), some (vi (d1 : Int)), some (vi (N : Int)), some (vi B), some (vi ((c1 : Int) + (d1 : Int))), some (vi ((i : Int) + 1)), some (vl (uC (c1 : Int) (d1 : Int) (N : Int) B i)), none]) (st' := []) [.inl (.iinc 7 1)] 136 _ _ (by decide +kernel) rfl ?_
              refine aw_goto (o := -72) (tgt := 67) (by decide +kernel) (by decide) ?_
              refine aw_ls (ls' := [some (vr 0 0), some (vi a), some (vi (c1 : Int)), some (vi (d1 : Int)), some (vi (N : Int)), some (vi B), some (vi ((c1 : Int) + (d1 : Int))), some (vi ((i : Int) + 1)), none, none]) (lsk_s (lsk_s (lsk_s (lsk_s (lsk_s (lsk_s (lsk_s (lsk_s (lsk_n (lsk_n lsk_0)))))))))) ?_
              exact ih _ _ _ _ (R2.s (V := fun k => (k : Int)) (C := uC (c1 : Int) (d1 : Int) (N : Int) B) (by omega))
          · refine aw_blk (pc' := 52) (ls' := [some (vr 0 0), some (vi a), some (vi c), some (vi d), some (vi e), some (vi B), some (vi (c + d)), none, none, none]) (st' := [vi (c + d), vi e]) [.inl (.iload 4), .inl (.iload 6)] 48 _ _ (by decide +kernel) rfl ?_
            refine aw_icmp_le (o := 5) (tgt := 57) (by decide +kernel) (by decide) (by omega) (by omega) (fun c52 => ?_) (fun c52 => ?_)
            · obtain ⟨N, rfl⟩ : ∃ N : Nat, e = (N : Int) := ⟨e.toNat, by omega⟩
              obtain ⟨c1, rfl⟩ : ∃ N : Nat, c = (N : Int) := ⟨c.toNat, by omega⟩
              obtain ⟨d1, rfl⟩ : ∃ N : Nat, d = (N : Int) := ⟨d.toNat, by omega⟩
              refine aw_blk (pc' := 61) (ls' := [some (vr 0 0), some (vi a), some (vi (c1 : Int)), some (vi (d1 : Int)), some (vi (N : Int)), some (vi B), some (vi ((c1 : Int) + (d1 : Int))), none, none, none]) (st' := [vr 3 0]) [.inl (.aload_n 0), .inr (26, 0, 2)] 57 _ _ (by decide +kernel) rfl ?_
              refine aw_dV (cs' := 0) (sl' := 0) (pc' := 64) (st' := []) (idx := 81) (as := []) (st := []) (m_K_clear) (by decide +kernel) (show vOK "ChanceBench" 81 M_K_clear 0 = true by decide +kernel) rfl rfl rfl (Nat.le_of_ble_eq_true rfl) (by decide) (by decide) (by decide) rfl rfl rfl rfl ?_
              refine aw_blk (pc' := 67) (ls' := [some (vr 0 0), some (vi a), some (vi (c1 : Int)), some (vi (d1 : Int)), some (vi (N : Int)), some (vi B), some (vi ((c1 : Int) + (d1 : Int))), some (vi 0), none, none]) (st' := []) [.inl (.iconst 0), .inl (.istore 7)] 64 _ _ (by decide +kernel) rfl ?_
              refine up_to (W := fun i : Nat => ∀ (nn : Nat) (rr : Int) (ff gg : Nat → Int), mkR ((i : Int) * 2600000000000000) (fun u => 0 + den (fun k => (k : Int)) (uC (c1 : Int) (d1 : Int) (N : Int) B) i u) (False ∨ byd (fun k => (k : Int)) (uC (c1 : Int) (d1 : Int) (N : Int) B) i) nn rr ff gg → AW G M_B_urn Qr Qt 0 0 67 [some (vr 0 0), some (vi a), some (vi (c1 : Int)), some (vi (d1 : Int)), some (vi (N : Int)), some (vi B), some (vi ((c1 : Int) + (d1 : Int))), some (vi (i : Int)), none, none] [] (Hp [some (ob 0 [vr 1 0, vr 2 0, vr 3 0, vr 4 0, vr 5 0, vr 6 0, vr 7 0, vi bd, vi tk])] [some (ob 1 [vr 1 1, vr 1 2, vr 1 3, vr 1 4, vi (od : Int), vi (dn : Int), vi (un : Int)]), some (rs 16 laws), some (ar 0 30 slot), some (rs 30 ahead), some (rs 30 made)] t [some (ob 3 [vr 3 1, vr 3 2, vi (nn : Int), vi rr]), some (ar 0 24 ff), some (ar 1 24 gg)] df jo tr di mo dy)) (N + 1) ?_ (fun i hi ih => ?_) 0 (by omega) _ _ _ _ mkR_0.z
              · intro nn rr ff gg R
                refine aw_blk (pc' := 71) (ls' := [some (vr 0 0), some (vi a), some (vi (c1 : Int)), some (vi (d1 : Int)), some (vi (N : Int)), some (vi B), some (vi ((c1 : Int) + (d1 : Int))), some (vi ((N + 1 : Nat) : Int)), none, none]) (st' := [vi (N : Int), vi ((N + 1 : Nat) : Int)]) [.inl (.iload 7), .inl (.iload 4)] 67 _ _ (by decide +kernel) rfl ?_
                refine aw_icmp_gt (o := 71) (tgt := 142) (by decide +kernel) (by decide) (by omega) (by omega) (fun _ => ?_) (fun c => absurd (by omega) c)
                have R9 := R.e.eq (by' := ¬ ((0 ≤ (c1 : Int) ∧ (c1 : Int) ≤ 20) ∧ (0 ≤ (d1 : Int) ∧ (d1 : Int) ≤ 20) ∧ (1 ≤ (N : Int) ∧ (N : Int) ≤ 10) ∧ (c1 : Int) + (d1 : Int) ≠ 0 ∧ (B = 0 → (N : Int) ≤ (c1 : Int) + (d1 : Int))) ∨ byd (fun k => (k : Int)) (uC (c1 : Int) (d1 : Int) (N : Int) B) (N + 1)) (Int.le_refl _) (fun u _ => rfl) ⟨Or.inr, fun z => z.elim (fun z => absurd (⟨h1, h2, h3, by omega, fun _ => by omega⟩) z) id⟩
                refine aw_blk (pc' := 144) (ls' := [some (vr 0 0), some (vi a), some (vi (c1 : Int)), some (vi (d1 : Int)), some (vi (N : Int)), some (vi B), some (vi ((c1 : Int) + (d1 : Int))), some (vi ((N + 1 : Nat) : Int)), none, none]) (st' := [vi a, vr 0 0]) [.inl (.aload_n 0), .inl (.iload_n 1)] 142 _ _ (by decide +kernel) rfl ?_
                refine aw_rV (cs' := 3) (sl' := 51) (pc' := 147) (idx := 95) (as := [vi a]) (st := []) (m_B_settle ha (R9) (by omega) ho hd hl) (by decide +kernel) (show vOK "ChanceBench" 95 M_B_settle 1 = true by decide +kernel) rfl rfl rfl (Nat.le_of_ble_eq_true rfl) (by decide) (by decide) (by decide) rfl rfl rfl (fun r144 h144 z144 => ?_)
                rcases z144 with ⟨rfl, h1, rfl⟩ | ⟨rfl, h1, h2, m9, a9, w9, W9, h3, rfl⟩
                · exact aw_zret (by decide +kernel) rfl (by decide) (by decide) (by omega) (hq _ _ ⟨nn, rr, ff, gg, Or.inl ⟨rfl, h1, rfl⟩⟩)
                · exact aw_zret (by decide +kernel) rfl (by decide) (by decide) (by omega) (hq _ _ ⟨nn, rr, ff, gg, Or.inr ⟨rfl, h1, h2, m9, a9, w9, W9, h3, rfl⟩⟩)
              · intro nn rr ff gg R
                have hu := uC_in (c := (c1 : Int)) (d := (d1 : Int)) (e := (N : Int)) (B := B) (k := i) h1 h2 h3 (by omega)
                refine aw_blk (pc' := 71) (ls' := [some (vr 0 0), some (vi a), some (vi (c1 : Int)), some (vi (d1 : Int)), some (vi (N : Int)), some (vi B), some (vi ((c1 : Int) + (d1 : Int))), some (vi (i : Int)), none, none]) (st' := [vi (N : Int), vi (i : Int)]) [.inl (.iload 7), .inl (.iload 4)] 67 _ _ (by decide +kernel) rfl ?_
                refine aw_icmp_gt (o := 71) (tgt := 142) (by decide +kernel) (by decide) (by omega) (by omega) (fun c => absurd c (by omega)) (fun _ => ?_)
                refine aw_blk (pc' := 76) (ls' := [some (vr 0 0), some (vi a), some (vi (c1 : Int)), some (vi (d1 : Int)), some (vi (N : Int)), some (vi B), some (vi ((c1 : Int) + (d1 : Int))), some (vi (i : Int)), none, none]) (st' := [vi B]) [.inl (.iload 5)] 74 _ _ (by decide +kernel) rfl ?_
                refine aw_if_eq (o := 30) (tgt := 106) (by decide +kernel) (by decide) (by omega) (fun _ => ?_) (fun c => absurd (by omega) c)
                refine aw_blk (pc' := 109) (ls' := [some (vr 0 0), some (vi a), some (vi (c1 : Int)), some (vi (d1 : Int)), some (vi (N : Int)), some (vi B), some (vi ((c1 : Int) + (d1 : Int))), some (vi (i : Int)), none, none]) (st' := [vi (i : Int), vi (c1 : Int)]) [.inl (.iload_n 2), .inl (.iload 7)] 106 _ _ (by decide +kernel) rfl ?_
                refine aw_dS (cs' := 0) (sl' := 0) (pc' := 112) (st' := [vl (chs c1 (i : Int))]) (idx := 102) (as := [vi (c1 : Int), vi (i : Int)]) (st := []) (m_B_choices (n := c1) (by omega) (by omega)) (by decide +kernel) (show sOK "ChanceBench" 102 M_B_choices 2 = true by decide +kernel) rfl (Nat.le_of_ble_eq_true rfl) (by decide) (by decide) (by decide) rfl rfl rfl rfl ?_
                refine aw_blk (pc' := 118) (ls' := [some (vr 0 0), some (vi a), some (vi (c1 : Int)), some (vi (d1 : Int)), some (vi (N : Int)), some (vi B), some (vi ((c1 : Int) + (d1 : Int))), some (vi (i : Int)), none, none]) (st' := [vi ((N : Int) - (i : Int)), vi (d1 : Int), vl (chs c1 (i : Int))]) [.inl (.iload_n 3), .inl (.iload 4), .inl (.iload 7), .inl (.isub)] 112 _ _ (by decide +kernel) rfl ?_
                refine aw_dS (cs' := 0) (sl' := 0) (pc' := 121) (st' := [vl (chs d1 ((N : Int) - (i : Int))), vl (chs c1 (i : Int))]) (idx := 102) (as := [vi (d1 : Int), vi ((N : Int) - (i : Int))]) (st := [vl (chs c1 (i : Int))]) (m_B_choices (n := d1) (by omega) (by omega)) (by decide +kernel) (show sOK "ChanceBench" 102 M_B_choices 2 = true by decide +kernel) rfl (Nat.le_of_ble_eq_true rfl) (by decide) (by decide) (by decide) rfl rfl rfl rfl ?_
                refine aw_blk (pc' := 122) (ls' := [some (vr 0 0), some (vi a), some (vi (c1 : Int)), some (vi (d1 : Int)), some (vi (N : Int)), some (vi B), some (vi ((c1 : Int) + (d1 : Int))), some (vi (i : Int)), none, none]) (st' := [vl ((chs c1 (i : Int)) * (chs d1 ((N : Int) - (i : Int))))]) [.inl (.lmul)] 121 _ _ (by decide +kernel) rfl ?_
                rw [show chs c1 (i : Int) * chs d1 ((N : Int) - (i : Int)) = uC (c1 : Int) (d1 : Int) (N : Int) B i by unfold uC; rw [if_pos (by omega)]; rfl]
                refine aw_blk (pc' := 130) (ls' := [some (vr 0 0), some (vi a), some (vi (c1 : Int)), some (vi (d1 : Int)), some (vi (N : Int)), some (vi B), some (vi ((c1 : Int) + (d1 : Int))), some (vi (i : Int)), some (vl (uC (c1 : Int) (d1 : Int) (N : Int) B i)), none]) (st' := [vi (i : Int), vr 3 0]) [.inl (.lstore 8), .inl (.aload_n 0), .inr (26, 0, 2), .inl (.iload 7)] 122 _ _ (by decide +kernel) rfl ?_
                refine aw_i2l (by decide +kernel) (by omega) ?_
                refine aw_blk (pc' := 133) (ls' := [some (vr 0 0), some (vi a), some (vi (c1 : Int)), some (vi (d1 : Int)), some (vi (N : Int)), some (vi B), some (vi ((c1 : Int) + (d1 : Int))), some (vi (i : Int)), some (vl (uC (c1 : Int) (d1 : Int) (N : Int) B i)), none]) (st' := [vl (uC (c1 : Int) (d1 : Int) (N : Int) B i), vl (i : Int), vr 3 0]) [.inl (.lload 8)] 131 _ _ (by decide +kernel) rfl ?_
                refine aw_rV (cs' := 0) (sl' := 0) (pc' := 136) (idx := 88) (as := [vl (i : Int), vl (uC (c1 : Int) (d1 : Int) (N : Int) B i)]) (st := []) (m_K_addR R (by omega) hu.1 (by omega)) (by decide +kernel) (show vOK "ChanceBench" 88 M_K_add 2 = true by decide +kernel) rfl rfl rfl (Nat.le_of_ble_eq_true rfl) (by decide) (by decide) (by decide) rfl rfl rfl (fun r133 h133 z133 => ?_)
                obtain ⟨rfl, nn2, rr2, ff2, gg2, R2, rfl⟩ := z133
                refine aw_blk (pc' := 139) (ls' := [some (vr 0 0), some (vi a), some (vi (c1 : Int)), some (vi (d1 : Int)), some (vi (N : Int)), some (vi B), some (vi ((c1 : Int) + (d1 : Int))), some (vi ((i : Int) + 1)), some (vl (uC (c1 : Int) (d1 : Int) (N : Int) B i)), none]) (st' := []) [.inl (.iinc 7 1)] 136 _ _ (by decide +kernel) rfl ?_
                refine aw_goto (o := -72) (tgt := 67) (by decide +kernel) (by decide) ?_
                refine aw_ls (ls' := [some (vr 0 0), some (vi a), some (vi (c1 : Int)), some (vi (d1 : Int)), some (vi (N : Int)), some (vi B), some (vi ((c1 : Int) + (d1 : Int))), some (vi ((i : Int) + 1)), none, none]) (lsk_s (lsk_s (lsk_s (lsk_s (lsk_s (lsk_s (lsk_s (lsk_s (lsk_n (lsk_n lsk_0)))))))))) ?_
                exact ih _ _ _ _ (R2.s (V := fun k => (k : Int)) (C := uC (c1 : Int) (d1 : Int) (N : Int) B) (by omega))
            · refine aw_blk (pc' := 56) (ls' := [some (vr 0 0), some (vi a), some (vi c), some (vi d), some (vi e), some (vi B), some (vi (c + d)), none, none, none]) (st' := [vi 0]) [.inl (.iconst 0)] 55 _ _ (by decide +kernel) rfl ?_
              exact aw_zret (by decide +kernel) rfl (by decide) (by decide) (by omega) (hq _ _ ⟨nn, rr, ff, gg, Or.inl ⟨rfl, fun z => z.2.1 (Or.inl (fun z => by have := z.2.2.2.2 (by omega); omega)), rfl⟩⟩)
      · rw [if_neg h3]
        refine aw_if_ne (o := 5) (tgt := 33) (by decide +kernel) (by decide) (by omega) (fun c => absurd (by omega) c) (fun _ => ?_)
        refine aw_blk (pc' := 32) (ls' := [some (vr 0 0), some (vi a), some (vi c), some (vi d), some (vi e), some (vi B), none, none, none, none]) (st' := [vi 0]) [.inl (.iconst 0)] 31 _ _ (by decide +kernel) rfl ?_
        exact aw_zret (by decide +kernel) rfl (by decide) (by decide) (by omega) (hq _ _ ⟨nn, rr, ff, gg, Or.inl ⟨rfl, fun z => z.2.1 (Or.inl (fun z => h3 z.2.2.1)), rfl⟩⟩)
    · rw [if_neg h2]
      refine aw_if_eq (o := 14) (tgt := 31) (by decide +kernel) (by decide) (by omega) (fun _ => ?_) (fun c => absurd (by omega) c)
      refine aw_blk (pc' := 32) (ls' := [some (vr 0 0), some (vi a), some (vi c), some (vi d), some (vi e), some (vi B), none, none, none, none]) (st' := [vi 0]) [.inl (.iconst 0)] 31 _ _ (by decide +kernel) rfl ?_
      exact aw_zret (by decide +kernel) rfl (by decide) (by decide) (by omega) (hq _ _ ⟨nn, rr, ff, gg, Or.inl ⟨rfl, fun z => z.2.1 (Or.inl (fun z => h2 z.2.1)), rfl⟩⟩)
  · rw [if_neg h1]
    refine aw_if_eq (o := 24) (tgt := 31) (by decide +kernel) (by decide) (by omega) (fun _ => ?_) (fun c => absurd (by omega) c)
    refine aw_blk (pc' := 32) (ls' := [some (vr 0 0), some (vi a), some (vi c), some (vi d), some (vi e), some (vi B), none, none, none, none]) (st' := [vi 0]) [.inl (.iconst 0)] 31 _ _ (by decide +kernel) rfl ?_
    exact aw_zret (by decide +kernel) rfl (by decide) (by decide) (by omega) (hq _ _ ⟨nn, rr, ff, gg, Or.inl ⟨rfl, fun z => z.2.1 (Or.inl (fun z => h1 z.1)), rfl⟩⟩)

end
