section
variable {G : GT} {h : HT} {b s t mk df jo tr di dy : SG} {a c d e B : Int} {n m k j i0 : Nat} {f g : Nat → Int} {th ln by9 dn ac bd pm pq tk fo f1 f2 : Int} {xtp xwg xwh xmd xsl xhw xhs xhd xha xp1 xp2 xp3 xl1 xl2 xrt xlf xdc xhn xsu : Nat → Int} {T : Int → Int} {p : Prop}
variable {q q2 : Nat}
end
section
variable {G : GT} {h : HT} {a c d : Int} {n k : Nat}
theorem m_M_choose (hn : n ≤ 20) (hc : I32 c) : ADet G M_M_choose [vi (n : Int), vi c] h (some (vl (chs n c))) h := by
  refine am_det (by decide +kernel) (Nat.le_of_ble_eq_true rfl) (fun Qr Qt hq => ?_)
  refine aw_blk (pc' := 1) (ls' := [some (vi (n : Int)), some (vi c), none, none, none]) (st' := [vi c]) [.inl (.iload_n 1)] 0 _ _ (by decide +kernel) rfl ?_
  refine aw_if_lt (o := 8) (tgt := 9) (by decide +kernel) (by decide) (by omega) (fun c1 => ?_) (fun c1 => ?_)
  · refine aw_blk (pc' := 10) (ls' := [some (vi (n : Int)), some (vi c), none, none, none]) (st' := [vl 0]) [.inl (.lconst 0)] 9 _ _ (by decide +kernel) rfl ?_
    exact aw_lret (by decide +kernel) rfl (by decide) (by decide) (hq _ _ (by rw [chs, if_neg (by omega)]) rfl)
  · refine aw_blk (pc' := 6) (ls' := [some (vi (n : Int)), some (vi c), none, none, none]) (st' := [vi (n : Int), vi c]) [.inl (.iload_n 1), .inl (.iload_n 0)] 4 _ _ (by decide +kernel) rfl ?_
    refine aw_icmp_le (o := 5) (tgt := 11) (by decide +kernel) (by decide) (by omega) (by omega) (fun c6 => ?_) (fun c6 => ?_)
    · refine aw_blk (pc' := 16) (ls' := [some (vi (n : Int)), some (vi c), some (vl 1), none, some (vi 1)]) (st' := []) [.inl (.lconst 1), .inl (.lstore_n 2), .inl (.iconst 1), .inl (.istore 4)] 11 _ _ (by decide +kernel) rfl ?_
      obtain ⟨k, rfl⟩ : ∃ k : Nat, c = (k : Int) := ⟨c.toNat, by omega⟩
      refine up_to (W := fun i : Nat => AW G M_M_choose Qr Qt 0 0 16 [some (vi (n : Int)), some (vi (k : Int)), some (vl (chW n k i)), none, some (vi ((i : Int) + 1))] [] (h)) k ?_ (fun i hi ih => ?_) 0 (by omega)
      · refine aw_blk (pc' := 19) (ls' := [some (vi (n : Int)), some (vi (k : Int)), some (vl (chW n k k)), none, some (vi ((k : Int) + 1))]) (st' := [vi (k : Int), vi ((k : Int) + 1)]) [.inl (.iload 4), .inl (.iload_n 1)] 16 _ _ (by decide +kernel) rfl ?_
        refine aw_icmp_gt (o := 23) (tgt := 42) (by decide +kernel) (by decide) (by omega) (by omega) (fun _ => ?_) (fun c => absurd (by omega) c)
        refine aw_blk (pc' := 43) (ls' := [some (vi (n : Int)), some (vi (k : Int)), some (vl (chW n k k)), none, some (vi ((k : Int) + 1))]) (st' := [vl (chW n k k)]) [.inl (.lload_n 2)] 42 _ _ (by decide +kernel) rfl ?_
        exact aw_lret (by decide +kernel) rfl (by decide) (by decide) (hq _ _ (by rw [chs, if_pos (by omega)]; rfl) rfl)
      · have hb := chW_in ⟨n, by omega⟩ ⟨k, by omega⟩ (by show k ≤ n; omega) ⟨i, by omega⟩ (by show i ≤ k; omega)
        have hb1 : 0 ≤ chW n k i := hb.1
        have hb2 : chW n k i ≤ 184756 := hb.2
        refine aw_blk (pc' := 19) (ls' := [some (vi (n : Int)), some (vi (k : Int)), some (vl (chW n k i)), none, some (vi ((i : Int) + 1))]) (st' := [vi (k : Int), vi ((i : Int) + 1)]) [.inl (.iload 4), .inl (.iload_n 1)] 16 _ _ (by decide +kernel) rfl ?_
        refine aw_icmp_gt (o := 23) (tgt := 42) (by decide +kernel) (by decide) (by omega) (by omega) (fun c => absurd c (by omega)) (fun _ => ?_)
        refine aw_blk (pc' := 29) (ls' := [some (vi (n : Int)), some (vi (k : Int)), some (vl (chW n k i)), none, some (vi ((i : Int) + 1))]) (st' := [vi (((n : Int) - (k : Int)) + ((i : Int) + 1)), vl (chW n k i)]) [.inl (.lload_n 2), .inl (.iload_n 0), .inl (.iload_n 1), .inl (.isub), .inl (.iload 4), .inl (.iadd)] 22 _ _ (by decide +kernel) rfl ?_
        refine aw_i2l (by decide +kernel) (by omega) ?_
        refine aw_blk (pc' := 33) (ls' := [some (vi (n : Int)), some (vi (k : Int)), some (vl (chW n k i)), none, some (vi ((i : Int) + 1))]) (st' := [vi ((i : Int) + 1), vl ((chW n k i) * (((n : Int) - (k : Int)) + ((i : Int) + 1)))]) [.inl (.lmul), .inl (.iload 4)] 30 _ _ (by decide +kernel) rfl ?_
        refine aw_i2l (by decide +kernel) (by omega) ?_
        have hm : 0 ≤ chW n k i * ((n : Int) - (k : Int) + ((i : Int) + 1)) ∧ chW n k i * ((n : Int) - (k : Int) + ((i : Int) + 1)) ≤ 184756 * 21 := ⟨Int.mul_nonneg hb1 (by omega), Int.mul_le_mul hb2 (by omega) (by omega) (by omega)⟩
        refine aw_ldiv (by decide +kernel) (by omega) (by omega) (by omega) ?_
        refine aw_blk (pc' := 39) (ls' := [some (vi (n : Int)), some (vi (k : Int)), some (vl (Int.tdiv ((chW n k i) * (((n : Int) - (k : Int)) + ((i : Int) + 1))) ((i : Int) + 1))), none, some (vi (((i : Int) + 1) + 1))]) (st' := []) [.inl (.lstore_n 2), .inl (.iinc 4 1)] 35 _ _ (by decide +kernel) rfl ?_
        refine aw_goto (o := -23) (tgt := 16) (by decide +kernel) (by decide) ?_
        exact aw_eq rfl rfl rfl ih
    · refine aw_blk (pc' := 10) (ls' := [some (vi (n : Int)), some (vi c), none, none, none]) (st' := [vl 0]) [.inl (.lconst 0)] 9 _ _ (by decide +kernel) rfl ?_
      exact aw_lret (by decide +kernel) rfl (by decide) (by decide) (hq _ _ (by rw [chs, if_neg (by omega)]) rfl)

end
section
variable {G : GT} {h : HT} {b s t mk df jo tr di dy : SG} {a c d e B : Int} {n m k j i0 : Nat} {f g : Nat → Int} {th ln by9 dn ac bd pm pq tk fo f1 f2 : Int} {xtp xwg xwh xmd xsl xhw xhs xhd xha xp1 xp2 xp3 xl1 xl2 xrt xlf xdc xhn xsu : Nat → Int} {T : Int → Int} {p : Prop}
variable {q q2 : Nat}
theorem den_z {V C : Nat → Int} {m : Nat} {u : Int} (h : ∀ j, j < m → C j = 0) : den V C m u = 0 := by
  unfold den; rw [sumZ_ext (g := fun _ => 0) (fun i hi => by rw [h i hi]; split <;> rfl), sumZ_0]
theorem byd_z {V C : Nat → Int} {m : Nat} (h : ∀ j, j < m → C j = 0) : ¬ byd V C m := fun ⟨k, h1, h2, _⟩ => by rw [h k h1] at h2; omega
theorem m_M_sum (hj : j ≤ 30) (ha : I32 a)  (hl : isLw xwh (q : Int)) (hTq : ∀ v, 0 ≤ Tm xwg q v ∧ Tm xwg q v ≤ 1048576) (hl2 : isLw xwh (q2 : Int)) (hTq2 : ∀ v, 0 ≤ Tm xwg q2 v ∧ Tm xwg q2 v ≤ 1048576) : AMet G M_M_sum [vr 8 0, vi a, vi (q : Int), vi (q2 : Int)] (Hp b s t mk df jo tr di (sgM th ln by9 (j : Int) ac bd pm pq tk fo f1 f2 xtp xwg xwh xmd xsl xhw xhs xhd xha xp1 xp2 xp3 xl1 xl2 xrt xlf xdc xhn xsu) dy) (fun r h => ∃ (md' : Nat → Int) (by' : Int), puM b s t mk df jo tr di dy j 0 ln by' ac bd pm pq tk fo f1 f2 xtp xwg xwh md' xsl xhw xhs xhd xha xp1 xp2 xp3 xl1 xl2 xrt xlf xdc xhn xsu a (T2 3 idv (fun i => Tm xwg q (idv i)) idv (fun i => Tm xwg q2 (idv i)) 2001 2001) (B2 3 idv (fun i => Tm xwg q (idv i)) idv (fun i => Tm xwg q2 (idv i)) 2001 2001) r h) (fun _ => False) := by
  refine am_rel (by decide +kernel) (Nat.le_of_ble_eq_true rfl) (fun Qr Qt hq => ?_)
  have hq16 := hl.1
  have hq17 := hl2.1
  refine aw_blk (pc' := 1) (ls' := [some (vr 8 0), some (vi a), some (vi (q : Int)), some (vi (q2 : Int)), none, none]) (st' := [vr 8 0]) [.inl (.aload_n 0)] 0 _ _ (by decide +kernel) rfl ?_
  refine aw_rV (cs' := 0) (sl' := 0) (pc' := 4) (idx := 113) (as := []) (st := []) (m_M_begin) (by decide +kernel) (show vOK "ChanceBenchModel" 113 M_M_begin 0 = true by decide +kernel) rfl rfl rfl (Nat.le_of_ble_eq_true rfl) (by decide) (by decide) (by decide) rfl rfl rfl (fun r1 h1 z1 => ?_)
  obtain ⟨rfl, md0, hmd, rfl⟩ := z1
  have hQ0 := mdQ_0 hmd
  refine aw_blk (pc' := 6) (ls' := [some (vr 8 0), some (vi a), some (vi (q : Int)), some (vi (q2 : Int)), none, none]) (st' := [vi (q : Int), vr 8 0]) [.inl (.aload_n 0), .inl (.iload_n 2)] 4 _ _ (by decide +kernel) rfl ?_
  refine aw_dV (cs' := 0) (sl' := 0) (pc' := 9) (st' := [vi 1]) (idx := 133) (as := [vi (q : Int)]) (st := []) (m_M_isLaw_1 hl) (by decide +kernel) (show vOK "ChanceBenchModel" 133 M_M_isLaw 1 = true by decide +kernel) rfl rfl rfl (Nat.le_of_ble_eq_true rfl) (by decide) (by decide) (by decide) rfl rfl rfl rfl ?_
  refine aw_if_eq (o := 11) (tgt := 20) (by decide +kernel) (by decide) (by omega) (fun c => absurd c (by omega)) (fun _ => ?_)
  refine aw_blk (pc' := 14) (ls' := [some (vr 8 0), some (vi a), some (vi (q : Int)), some (vi (q2 : Int)), none, none]) (st' := [vi (q2 : Int), vr 8 0]) [.inl (.aload_n 0), .inl (.iload_n 3)] 12 _ _ (by decide +kernel) rfl ?_
  refine aw_dV (cs' := 0) (sl' := 0) (pc' := 17) (st' := [vi 1]) (idx := 133) (as := [vi (q2 : Int)]) (st := []) (m_M_isLaw_1 hl2) (by decide +kernel) (show vOK "ChanceBenchModel" 133 M_M_isLaw 1 = true by decide +kernel) rfl rfl rfl (Nat.le_of_ble_eq_true rfl) (by decide) (by decide) (by decide) rfl rfl rfl rfl ?_
  refine aw_if_ne (o := 5) (tgt := 22) (by decide +kernel) (by decide) (by omega) (fun _ => ?_) (fun c => absurd c (by omega))
  refine aw_blk (pc' := 27) (ls' := [some (vr 8 0), some (vi a), some (vi (q : Int)), some (vi (q2 : Int)), some (vi (-1000)), none]) (st' := []) [.inl (.sipush (-1000)), .inl (.istore 4)] 22 _ _ (by decide +kernel) rfl ?_
  refine up_to (W := fun i : Nat => ∀ (md1 : Nat → Int) (by1 : Int), mdQ ((i : Int) * 2200122767179776) (T2 3 idv (fun i => Tm xwg q (idv i)) idv (fun i => Tm xwg q2 (idv i)) 2001 i) md1 → byR (B2 3 idv (fun i => Tm xwg q (idv i)) idv (fun i => Tm xwg q2 (idv i)) 2001 i) by1 → AW G M_M_sum Qr Qt 0 0 27 [some (vr 8 0), some (vi a), some (vi (q : Int)), some (vi (q2 : Int)), some (vi (idv i)), none] [] (Hp b s t mk df jo tr di [some (ob 8 [vi 0, vr 8 1, vi ln, vr 8 2, vr 8 3, vr 8 4, vi by1, vr 8 5, vr 8 6, vr 8 7, vr 8 8, vr 8 9, vi (j : Int), vi ac, vi bd, vr 8 10, vr 8 11, vr 8 12, vr 8 13, vr 8 14, vi pm, vl pq, vr 8 15, vr 8 16, vi tk, vr 8 17, vr 8 18, vr 8 19, vi fo, vi f1, vi f2]), some (ar 2 200 xtp), some (ar 0 32016 xwg), some (ar 0 16 xwh), some (ar 1 2001 md1), some (ar 0 30 xsl), some (ar 0 30 xhw), some (ar 0 30 xhs), some (ar 0 60030 xhd), some (ar 0 60030 xha), some (ar 0 600 xp1), some (ar 0 600 xp2), some (ar 1 600 xp3), some (ar 1 2001 xl1), some (ar 1 2001 xl2), some (ar 1 2001 xrt), some (ar 3 2001 xlf), some (ar 0 3600 xdc), some (ar 0 12 xhn), some (ar 0 4005 xsu)] dy)) 2001 ?_ (fun i hi ih => ?_) 0 (by omega) _ _ (hQ0.eq (T' := T2 3 idv (fun i => Tm xwg q (idv i)) idv (fun i => Tm xwg q2 (idv i)) 2001 0) (by omega) (fun _ _ => rfl)) (byR_0.eq (q := B2 3 idv (fun i => Tm xwg q (idv i)) idv (fun i => Tm xwg q2 (idv i)) 2001 0) ⟨False.elim, fun ⟨i, h, _⟩ => by omega⟩)
  · intro md1 by1 hQ hb
    refine aw_blk (pc' := 32) (ls' := [some (vr 8 0), some (vi a), some (vi (q : Int)), some (vi (q2 : Int)), some (vi (idv 2001)), none]) (st' := [vi 1000, vi (idv 2001)]) [.inl (.iload 4), .inl (.sipush 1000)] 27 _ _ (by decide +kernel) rfl ?_
    refine aw_icmp_gt (o := 65) (tgt := 97) (by decide +kernel) (by decide) (by show I32 (_ - _); omega) (by omega) (fun _ => ?_) (fun c => absurd (by show _ < (_ - _); omega) c)
    refine aw_blk (pc' := 99) (ls' := [some (vr 8 0), some (vi a), some (vi (q : Int)), some (vi (q2 : Int)), some (vi (idv 2001)), none]) (st' := [vi a, vr 8 0]) [.inl (.aload_n 0), .inl (.iload_n 1)] 97 _ _ (by decide +kernel) rfl ?_
    refine aw_rV (cs' := 0) (sl' := 0) (pc' := 102) (idx := 124) (as := [vi a]) (st := []) (m_M_put hj ha hQ.1 hQ.2.1 (by have := hQ.2.2; omega) hb) (by decide +kernel) (show vOK "ChanceBenchModel" 124 M_M_put 1 = true by decide +kernel) rfl rfl rfl (Nat.le_of_ble_eq_true rfl) (by decide) (by decide) (by decide) rfl rfl rfl (fun r99 h99 z99 => ?_)
    rcases z99 with ⟨rfl, h1, rfl⟩ | ⟨rfl, h1, h2, s1, rfl, rfl⟩
    · exact aw_zret (by decide +kernel) rfl (by decide) (by decide) (by omega) (hq _ _ ⟨md1, by1, Or.inl ⟨rfl, h1, rfl⟩⟩)
    · exact aw_zret (by decide +kernel) rfl (by decide) (by decide) (by omega) (hq _ _ ⟨md1, by1, Or.inr ⟨rfl, h1, h2, s1, rfl, rfl⟩⟩)
  · intro md1 by1 hQ hb
    have ihO := ih
    have hiv : idv i = (i : Int) - 1000 := rfl
    have htq := hTq (idv i)
    have hnx : idv i + 1 = idv (i + 1) := by unfold idv; omega
    refine aw_blk (pc' := 32) (ls' := [some (vr 8 0), some (vi a), some (vi (q : Int)), some (vi (q2 : Int)), some (vi (idv i)), none]) (st' := [vi 1000, vi (idv i)]) [.inl (.iload 4), .inl (.sipush 1000)] 27 _ _ (by decide +kernel) rfl ?_
    refine aw_icmp_gt (o := 65) (tgt := 97) (by decide +kernel) (by decide) (by omega) (by omega) (fun c => absurd c (by omega)) (fun _ => ?_)
    refine aw_blk (pc' := 40) (ls' := [some (vr 8 0), some (vi a), some (vi (q : Int)), some (vi (q2 : Int)), some (vi (idv i)), some (vi (-1000))]) (st' := []) [.inl (.sipush (-1000)), .inl (.istore 5)] 35 _ _ (by decide +kernel) rfl ?_
    rcases Int.lt_or_le 0 (Tm xwg q (idv i)) with hz | hz
    · refine up_to (W := fun y : Nat => ∀ (md1 : Nat → Int) (by1 : Int), mdQ ((i : Int) * 2200122767179776 + (y : Int) * 1099511627776) (fun u => T2 3 idv (fun i => Tm xwg q (idv i)) idv (fun i => Tm xwg q2 (idv i)) 2001 i u + den (Vj 3 idv idv i) (Cj (fun i => Tm xwg q (idv i)) (fun i => Tm xwg q2 (idv i)) i) y u) md1 → byR (B2 3 idv (fun i => Tm xwg q (idv i)) idv (fun i => Tm xwg q2 (idv i)) 2001 i ∨ byd (Vj 3 idv idv i) (Cj (fun i => Tm xwg q (idv i)) (fun i => Tm xwg q2 (idv i)) i) y) by1 → AW G M_M_sum Qr Qt 0 0 40 [some (vr 8 0), some (vi a), some (vi (q : Int)), some (vi (q2 : Int)), some (vi (idv i)), some (vi (idv y))] [] (Hp b s t mk df jo tr di [some (ob 8 [vi 0, vr 8 1, vi ln, vr 8 2, vr 8 3, vr 8 4, vi by1, vr 8 5, vr 8 6, vr 8 7, vr 8 8, vr 8 9, vi (j : Int), vi ac, vi bd, vr 8 10, vr 8 11, vr 8 12, vr 8 13, vr 8 14, vi pm, vl pq, vr 8 15, vr 8 16, vi tk, vr 8 17, vr 8 18, vr 8 19, vi fo, vi f1, vi f2]), some (ar 2 200 xtp), some (ar 0 32016 xwg), some (ar 0 16 xwh), some (ar 1 2001 md1), some (ar 0 30 xsl), some (ar 0 30 xhw), some (ar 0 30 xhs), some (ar 0 60030 xhd), some (ar 0 60030 xha), some (ar 0 600 xp1), some (ar 0 600 xp2), some (ar 1 600 xp3), some (ar 1 2001 xl1), some (ar 1 2001 xl2), some (ar 1 2001 xrt), some (ar 3 2001 xlf), some (ar 0 3600 xdc), some (ar 0 12 xhn), some (ar 0 4005 xsu)] dy)) 2001 ?_ (fun y hj9 ih => ?_) 0 (by omega) _ _ ((hQ.z (V := Vj 3 idv idv i) (C := Cj (fun i => Tm xwg q (idv i)) (fun i => Tm xwg q2 (idv i)) i)).eq (by omega) (fun _ _ => rfl)) (hb.z (V := Vj 3 idv idv i) (C := Cj (fun i => Tm xwg q (idv i)) (fun i => Tm xwg q2 (idv i)) i))
      · intro md1 by1 hQ hb
        refine aw_blk (pc' := 45) (ls' := [some (vr 8 0), some (vi a), some (vi (q : Int)), some (vi (q2 : Int)), some (vi (idv i)), some (vi (idv 2001))]) (st' := [vi 1000, vi (idv 2001)]) [.inl (.iload 5), .inl (.sipush 1000)] 40 _ _ (by decide +kernel) rfl ?_
        refine aw_icmp_gt (o := 46) (tgt := 91) (by decide +kernel) (by decide) (by show I32 (_ - _); omega) (by omega) (fun _ => ?_) (fun c => absurd (by show _ < (_ - _); omega) c)
        refine aw_blk (pc' := 94) (ls' := [some (vr 8 0), some (vi a), some (vi (q : Int)), some (vi (q2 : Int)), some (vi ((idv i) + 1)), some (vi (idv 2001))]) (st' := []) [.inl (.iinc 4 1)] 91 _ _ (by decide +kernel) rfl ?_
        refine aw_goto (o := -67) (tgt := 27) (by decide +kernel) (by decide) ?_
        rw [hnx]
        refine aw_ls (ls' := [some (vr 8 0), some (vi a), some (vi (q : Int)), some (vi (q2 : Int)), some (vi (idv (i + 1))), none]) (lsk_s (lsk_s (lsk_s (lsk_s (lsk_s (lsk_n lsk_0)))))) ?_
        exact ihO _ _ (hQ.eq (by omega) (fun u _ => rfl)) (hb.eq B2_s.symm)
      · intro md1 by1 hQ hb
        have hjv : idv y = (y : Int) - 1000 := rfl
        have htq2 := hTq2 (idv y)
        have hnj : idv y + 1 = idv (y + 1) := by unfold idv; omega
        have hmu := mulB (x := Tm xwg q (idv i)) (y := Tm xwg q2 (idv y)) (by omega) (by omega) (by omega) (by omega)
        have hjn := jnd_in (d := 3) (v := idv i) (w := idv y) (by omega) (by omega)
        refine aw_blk (pc' := 45) (ls' := [some (vr 8 0), some (vi a), some (vi (q : Int)), some (vi (q2 : Int)), some (vi (idv i)), some (vi (idv y))]) (st' := [vi 1000, vi (idv y)]) [.inl (.iload 5), .inl (.sipush 1000)] 40 _ _ (by decide +kernel) rfl ?_
        refine aw_icmp_gt (o := 46) (tgt := 91) (by decide +kernel) (by decide) (by omega) (by omega) (fun c => absurd c (by omega)) (fun _ => ?_)
        refine aw_blk (pc' := 52) (ls' := [some (vr 8 0), some (vi a), some (vi (q : Int)), some (vi (q2 : Int)), some (vi (idv i)), some (vi (idv y))]) (st' := [vi (idv i), vi (q : Int), vr 8 0]) [.inl (.aload_n 0), .inl (.iload_n 2), .inl (.iload 4)] 48 _ _ (by decide +kernel) rfl ?_
        refine aw_dV (cs' := 0) (sl' := 0) (pc' := 55) (st' := [vi (Tm xwg q (idv i))]) (idx := 136) (as := [vi (q : Int), vi (idv i)]) (st := []) (m_M_at (by omega) (by omega)) (by decide +kernel) (show vOK "ChanceBenchModel" 136 M_M_at 2 = true by decide +kernel) rfl rfl rfl (Nat.le_of_ble_eq_true rfl) (by decide) (by decide) (by decide) rfl rfl rfl rfl ?_
        refine aw_if_le (o := 36) (tgt := 91) (by decide +kernel) (by decide) (by omega) (fun c => absurd c (by omega)) (fun _ => ?_)
        refine aw_blk (pc' := 64) (ls' := [some (vr 8 0), some (vi a), some (vi (q : Int)), some (vi (q2 : Int)), some (vi (idv i)), some (vi (idv y))]) (st' := [vi ((idv i) + (idv y)), vr 8 0]) [.inl (.aload_n 0), .inl (.iload 4), .inl (.iload 5), .inl (.iadd)] 58 _ _ (by decide +kernel) rfl ?_
        rw [show idv i + idv y = jnd 3 (idv i) (idv y) from rfl]
        refine aw_i2l (by decide +kernel) (by omega) ?_
        refine aw_blk (pc' := 69) (ls' := [some (vr 8 0), some (vi a), some (vi (q : Int)), some (vi (q2 : Int)), some (vi (idv i)), some (vi (idv y))]) (st' := [vi (idv i), vi (q : Int), vr 8 0, vl (jnd 3 (idv i) (idv y)), vr 8 0]) [.inl (.aload_n 0), .inl (.iload_n 2), .inl (.iload 4)] 65 _ _ (by decide +kernel) rfl ?_
        refine aw_dV (cs' := 0) (sl' := 0) (pc' := 72) (st' := [vi (Tm xwg q (idv i)), vl (jnd 3 (idv i) (idv y)), vr 8 0]) (idx := 136) (as := [vi (q : Int), vi (idv i)]) (st := [vl (jnd 3 (idv i) (idv y)), vr 8 0]) (m_M_at (by omega) (by omega)) (by decide +kernel) (show vOK "ChanceBenchModel" 136 M_M_at 2 = true by decide +kernel) rfl rfl rfl (Nat.le_of_ble_eq_true rfl) (by decide) (by decide) (by decide) rfl rfl rfl rfl ?_
        refine aw_i2l (by decide +kernel) (by omega) ?_
        refine aw_blk (pc' := 77) (ls' := [some (vr 8 0), some (vi a), some (vi (q : Int)), some (vi (q2 : Int)), some (vi (idv i)), some (vi (idv y))]) (st' := [vi (idv y), vi (q2 : Int), vr 8 0, vl (Tm xwg q (idv i)), vl (jnd 3 (idv i) (idv y)), vr 8 0]) [.inl (.aload_n 0), .inl (.iload_n 3), .inl (.iload 5)] 73 _ _ (by decide +kernel) rfl ?_
        refine aw_dV (cs' := 0) (sl' := 0) (pc' := 80) (st' := [vi (Tm xwg q2 (idv y)), vl (Tm xwg q (idv i)), vl (jnd 3 (idv i) (idv y)), vr 8 0]) (idx := 136) (as := [vi (q2 : Int), vi (idv y)]) (st := [vl (Tm xwg q (idv i)), vl (jnd 3 (idv i) (idv y)), vr 8 0]) (m_M_at (by omega) (by omega)) (by decide +kernel) (show vOK "ChanceBenchModel" 136 M_M_at 2 = true by decide +kernel) rfl rfl rfl (Nat.le_of_ble_eq_true rfl) (by decide) (by decide) (by decide) rfl rfl rfl rfl ?_
        refine aw_i2l (by decide +kernel) (by omega) ?_
        refine aw_blk (pc' := 82) (ls' := [some (vr 8 0), some (vi a), some (vi (q : Int)), some (vi (q2 : Int)), some (vi (idv i)), some (vi (idv y))]) (st' := [vl ((Tm xwg q (idv i)) * (Tm xwg q2 (idv y))), vl (jnd 3 (idv i) (idv y)), vr 8 0]) [.inl (.lmul)] 81 _ _ (by decide +kernel) rfl ?_
        refine aw_rV (cs' := 0) (sl' := 0) (pc' := 85) (idx := 120) (as := [vl (jnd 3 (idv i) (idv y)), vl ((Tm xwg q (idv i)) * (Tm xwg q2 (idv y)))]) (st := []) (m_M_addQ hQ hb (by omega) (by omega) (by omega)) (by decide +kernel) (show vOK "ChanceBenchModel" 120 M_M_add 2 = true by decide +kernel) rfl rfl rfl (Nat.le_of_ble_eq_true rfl) (by decide) (by decide) (by decide) rfl rfl rfl (fun r82 h82 z82 => ?_)
        obtain ⟨rfl, md2, by2, hQ2, hb2, rfl⟩ := z82
        refine aw_blk (pc' := 88) (ls' := [some (vr 8 0), some (vi a), some (vi (q : Int)), some (vi (q2 : Int)), some (vi (idv i)), some (vi ((idv y) + 1))]) (st' := []) [.inl (.iinc 5 1)] 85 _ _ (by decide +kernel) rfl ?_
        refine aw_goto (o := -48) (tgt := 40) (by decide +kernel) (by decide) ?_
        rw [hnj]
        exact ih _ _ (hQ2.s (V := Vj 3 idv idv i) (C := Cj (fun i => Tm xwg q (idv i)) (fun i => Tm xwg q2 (idv i)) i) (by show _ + Tm xwg q (idv i) * Tm xwg q2 (idv y) ≤ _; omega)) (hb2.s (V := Vj 3 idv idv i) (C := Cj (fun i => Tm xwg q (idv i)) (fun i => Tm xwg q2 (idv i)) i))
    · refine aw_blk (pc' := 45) (ls' := [some (vr 8 0), some (vi a), some (vi (q : Int)), some (vi (q2 : Int)), some (vi (idv i)), some (vi (-1000))]) (st' := [vi 1000, vi (-1000)]) [.inl (.iload 5), .inl (.sipush 1000)] 40 _ _ (by decide +kernel) rfl ?_
      refine aw_icmp_gt (o := 46) (tgt := 91) (by decide +kernel) (by decide) (by omega) (by omega) (fun c => absurd c (by omega)) (fun _ => ?_)
      refine aw_blk (pc' := 52) (ls' := [some (vr 8 0), some (vi a), some (vi (q : Int)), some (vi (q2 : Int)), some (vi (idv i)), some (vi (-1000))]) (st' := [vi (idv i), vi (q : Int), vr 8 0]) [.inl (.aload_n 0), .inl (.iload_n 2), .inl (.iload 4)] 48 _ _ (by decide +kernel) rfl ?_
      refine aw_dV (cs' := 0) (sl' := 0) (pc' := 55) (st' := [vi (Tm xwg q (idv i))]) (idx := 136) (as := [vi (q : Int), vi (idv i)]) (st := []) (m_M_at (by omega) (by omega)) (by decide +kernel) (show vOK "ChanceBenchModel" 136 M_M_at 2 = true by decide +kernel) rfl rfl rfl (Nat.le_of_ble_eq_true rfl) (by decide) (by decide) (by decide) rfl rfl rfl rfl ?_
      refine aw_if_le (o := 36) (tgt := 91) (by decide +kernel) (by decide) (by omega) (fun _ => ?_) (fun c => absurd (by omega) c)
      refine aw_blk (pc' := 94) (ls' := [some (vr 8 0), some (vi a), some (vi (q : Int)), some (vi (q2 : Int)), some (vi ((idv i) + 1)), some (vi (-1000))]) (st' := []) [.inl (.iinc 4 1)] 91 _ _ (by decide +kernel) rfl ?_
      refine aw_goto (o := -67) (tgt := 27) (by decide +kernel) (by decide) ?_
      rw [hnx]
      refine aw_ls (ls' := [some (vr 8 0), some (vi a), some (vi (q : Int)), some (vi (q2 : Int)), some (vi (idv (i + 1))), none]) (lsk_s (lsk_s (lsk_s (lsk_s (lsk_s (lsk_n lsk_0)))))) ?_
      have hz0 : ∀ j, j < 2001 → Cj (fun i => Tm xwg q (idv i)) (fun i => Tm xwg q2 (idv i)) i j = 0 := fun j _ => by show Tm xwg q (idv i) * _ = 0; rw [show Tm xwg q (idv i) = 0 by omega, Int.zero_mul]
      exact ihO _ _ (hQ.eq (by omega) (fun u _ => by show _ = T2 3 idv (fun i => Tm xwg q (idv i)) idv (fun i => Tm xwg q2 (idv i)) 2001 i u + den (Vj 3 idv idv i) (Cj (fun i => Tm xwg q (idv i)) (fun i => Tm xwg q2 (idv i)) i) 2001 u; rw [den_z hz0, Int.add_zero])) (hb.eq (by rw [B2_s]; exact ⟨Or.inl, fun z => z.elim id (fun z => absurd z (byd_z hz0))⟩))

theorem m_M_of (hj : j ≤ 30) (ha : I32 a) (hd2 : 0 ≤ d ∧ d ≤ 2) (hl : isLw xwh (q : Int)) (hTq : ∀ v, 0 ≤ Tm xwg q v ∧ Tm xwg q v ≤ 1048576) (hl2 : isLw xwh (q2 : Int)) (hTq2 : ∀ v, 0 ≤ Tm xwg q2 v ∧ Tm xwg q2 v ≤ 1048576) : AMet G M_M_of [vr 8 0, vi a, vi (q : Int), vi (q2 : Int), vi d] (Hp b s t mk df jo tr di (sgM th ln by9 (j : Int) ac bd pm pq tk fo f1 f2 xtp xwg xwh xmd xsl xhw xhs xhd xha xp1 xp2 xp3 xl1 xl2 xrt xlf xdc xhn xsu) dy) (fun r h => ∃ (md' : Nat → Int) (by' : Int), puM b s t mk df jo tr di dy j 0 ln by' ac bd pm pq tk fo f1 f2 xtp xwg xwh md' xsl xhw xhs xhd xha xp1 xp2 xp3 xl1 xl2 xrt xlf xdc xhn xsu a (T2 d idv (fun i => Tm xwg q (idv i)) idv (fun i => Tm xwg q2 (idv i)) 2001 2001) (B2 d idv (fun i => Tm xwg q (idv i)) idv (fun i => Tm xwg q2 (idv i)) 2001 2001) r h) (fun _ => False) := by
  refine am_rel (by decide +kernel) (Nat.le_of_ble_eq_true rfl) (fun Qr Qt hq => ?_)
  have hq16 := hl.1
  have hq17 := hl2.1
  refine aw_blk (pc' := 1) (ls' := [some (vr 8 0), some (vi a), some (vi (q : Int)), some (vi (q2 : Int)), some (vi d), none, none]) (st' := [vr 8 0]) [.inl (.aload_n 0)] 0 _ _ (by decide +kernel) rfl ?_
  refine aw_rV (cs' := 0) (sl' := 0) (pc' := 4) (idx := 113) (as := []) (st := []) (m_M_begin) (by decide +kernel) (show vOK "ChanceBenchModel" 113 M_M_begin 0 = true by decide +kernel) rfl rfl rfl (Nat.le_of_ble_eq_true rfl) (by decide) (by decide) (by decide) rfl rfl rfl (fun r1 h1 z1 => ?_)
  obtain ⟨rfl, md0, hmd, rfl⟩ := z1
  have hQ0 := mdQ_0 hmd
  refine aw_blk (pc' := 6) (ls' := [some (vr 8 0), some (vi a), some (vi (q : Int)), some (vi (q2 : Int)), some (vi d), none, none]) (st' := [vi (q : Int), vr 8 0]) [.inl (.aload_n 0), .inl (.iload_n 2)] 4 _ _ (by decide +kernel) rfl ?_
  refine aw_dV (cs' := 0) (sl' := 0) (pc' := 9) (st' := [vi 1]) (idx := 133) (as := [vi (q : Int)]) (st := []) (m_M_isLaw_1 hl) (by decide +kernel) (show vOK "ChanceBenchModel" 133 M_M_isLaw 1 = true by decide +kernel) rfl rfl rfl (Nat.le_of_ble_eq_true rfl) (by decide) (by decide) (by decide) rfl rfl rfl rfl ?_
  refine aw_if_eq (o := 22) (tgt := 31) (by decide +kernel) (by decide) (by omega) (fun c => absurd c (by omega)) (fun _ => ?_)
  refine aw_blk (pc' := 14) (ls' := [some (vr 8 0), some (vi a), some (vi (q : Int)), some (vi (q2 : Int)), some (vi d), none, none]) (st' := [vi (q2 : Int), vr 8 0]) [.inl (.aload_n 0), .inl (.iload_n 3)] 12 _ _ (by decide +kernel) rfl ?_
  refine aw_dV (cs' := 0) (sl' := 0) (pc' := 17) (st' := [vi 1]) (idx := 133) (as := [vi (q2 : Int)]) (st := []) (m_M_isLaw_1 hl2) (by decide +kernel) (show vOK "ChanceBenchModel" 133 M_M_isLaw 1 = true by decide +kernel) rfl rfl rfl (Nat.le_of_ble_eq_true rfl) (by decide) (by decide) (by decide) rfl rfl rfl rfl ?_
  refine aw_if_eq (o := 14) (tgt := 31) (by decide +kernel) (by decide) (by omega) (fun c => absurd c (by omega)) (fun _ => ?_)
  refine aw_blk (pc' := 22) (ls' := [some (vr 8 0), some (vi a), some (vi (q : Int)), some (vi (q2 : Int)), some (vi d), none, none]) (st' := [vi d]) [.inl (.iload 4)] 20 _ _ (by decide +kernel) rfl ?_
  refine aw_if_lt (o := 9) (tgt := 31) (by decide +kernel) (by decide) (by omega) (fun c => absurd c (by omega)) (fun _ => ?_)
  refine aw_blk (pc' := 28) (ls' := [some (vr 8 0), some (vi a), some (vi (q : Int)), some (vi (q2 : Int)), some (vi d), none, none]) (st' := [vi 2, vi d]) [.inl (.iload 4), .inl (.iconst 2)] 25 _ _ (by decide +kernel) rfl ?_
  refine aw_icmp_le (o := 5) (tgt := 33) (by decide +kernel) (by decide) (by omega) (by omega) (fun _ => ?_) (fun c => absurd (by omega) c)
  refine aw_blk (pc' := 38) (ls' := [some (vr 8 0), some (vi a), some (vi (q : Int)), some (vi (q2 : Int)), some (vi d), some (vi (-1000)), none]) (st' := []) [.inl (.sipush (-1000)), .inl (.istore 5)] 33 _ _ (by decide +kernel) rfl ?_
  refine up_to (W := fun i : Nat => ∀ (md1 : Nat → Int) (by1 : Int), mdQ ((i : Int) * 2200122767179776) (T2 d idv (fun i => Tm xwg q (idv i)) idv (fun i => Tm xwg q2 (idv i)) 2001 i) md1 → byR (B2 d idv (fun i => Tm xwg q (idv i)) idv (fun i => Tm xwg q2 (idv i)) 2001 i) by1 → AW G M_M_of Qr Qt 0 0 38 [some (vr 8 0), some (vi a), some (vi (q : Int)), some (vi (q2 : Int)), some (vi d), some (vi (idv i)), none] [] (Hp b s t mk df jo tr di [some (ob 8 [vi 0, vr 8 1, vi ln, vr 8 2, vr 8 3, vr 8 4, vi by1, vr 8 5, vr 8 6, vr 8 7, vr 8 8, vr 8 9, vi (j : Int), vi ac, vi bd, vr 8 10, vr 8 11, vr 8 12, vr 8 13, vr 8 14, vi pm, vl pq, vr 8 15, vr 8 16, vi tk, vr 8 17, vr 8 18, vr 8 19, vi fo, vi f1, vi f2]), some (ar 2 200 xtp), some (ar 0 32016 xwg), some (ar 0 16 xwh), some (ar 1 2001 md1), some (ar 0 30 xsl), some (ar 0 30 xhw), some (ar 0 30 xhs), some (ar 0 60030 xhd), some (ar 0 60030 xha), some (ar 0 600 xp1), some (ar 0 600 xp2), some (ar 1 600 xp3), some (ar 1 2001 xl1), some (ar 1 2001 xl2), some (ar 1 2001 xrt), some (ar 3 2001 xlf), some (ar 0 3600 xdc), some (ar 0 12 xhn), some (ar 0 4005 xsu)] dy)) 2001 ?_ (fun i hi ih => ?_) 0 (by omega) _ _ (hQ0.eq (T' := T2 d idv (fun i => Tm xwg q (idv i)) idv (fun i => Tm xwg q2 (idv i)) 2001 0) (by omega) (fun _ _ => rfl)) (byR_0.eq (q := B2 d idv (fun i => Tm xwg q (idv i)) idv (fun i => Tm xwg q2 (idv i)) 2001 0) ⟨False.elim, fun ⟨i, h, _⟩ => by omega⟩)
  · intro md1 by1 hQ hb
    refine aw_blk (pc' := 43) (ls' := [some (vr 8 0), some (vi a), some (vi (q : Int)), some (vi (q2 : Int)), some (vi d), some (vi (idv 2001)), none]) (st' := [vi 1000, vi (idv 2001)]) [.inl (.iload 5), .inl (.sipush 1000)] 38 _ _ (by decide +kernel) rfl ?_
    refine aw_icmp_gt (o := 132) (tgt := 175) (by decide +kernel) (by decide) (by show I32 (_ - _); omega) (by omega) (fun _ => ?_) (fun c => absurd (by show _ < (_ - _); omega) c)
    refine aw_blk (pc' := 177) (ls' := [some (vr 8 0), some (vi a), some (vi (q : Int)), some (vi (q2 : Int)), some (vi d), some (vi (idv 2001)), none]) (st' := [vi a, vr 8 0]) [.inl (.aload_n 0), .inl (.iload_n 1)] 175 _ _ (by decide +kernel) rfl ?_
    refine aw_rV (cs' := 0) (sl' := 0) (pc' := 180) (idx := 124) (as := [vi a]) (st := []) (m_M_put hj ha hQ.1 hQ.2.1 (by have := hQ.2.2; omega) hb) (by decide +kernel) (show vOK "ChanceBenchModel" 124 M_M_put 1 = true by decide +kernel) rfl rfl rfl (Nat.le_of_ble_eq_true rfl) (by decide) (by decide) (by decide) rfl rfl rfl (fun r177 h177 z177 => ?_)
    rcases z177 with ⟨rfl, h1, rfl⟩ | ⟨rfl, h1, h2, s1, rfl, rfl⟩
    · exact aw_zret (by decide +kernel) rfl (by decide) (by decide) (by omega) (hq _ _ ⟨md1, by1, Or.inl ⟨rfl, h1, rfl⟩⟩)
    · exact aw_zret (by decide +kernel) rfl (by decide) (by decide) (by omega) (hq _ _ ⟨md1, by1, Or.inr ⟨rfl, h1, h2, s1, rfl, rfl⟩⟩)
  · intro md1 by1 hQ hb
    have ihO := ih
    have hiv : idv i = (i : Int) - 1000 := rfl
    have htq := hTq (idv i)
    have hnx : idv i + 1 = idv (i + 1) := by unfold idv; omega
    refine aw_blk (pc' := 43) (ls' := [some (vr 8 0), some (vi a), some (vi (q : Int)), some (vi (q2 : Int)), some (vi d), some (vi (idv i)), none]) (st' := [vi 1000, vi (idv i)]) [.inl (.iload 5), .inl (.sipush 1000)] 38 _ _ (by decide +kernel) rfl ?_
    refine aw_icmp_gt (o := 132) (tgt := 175) (by decide +kernel) (by decide) (by omega) (by omega) (fun c => absurd c (by omega)) (fun _ => ?_)
    refine aw_blk (pc' := 51) (ls' := [some (vr 8 0), some (vi a), some (vi (q : Int)), some (vi (q2 : Int)), some (vi d), some (vi (idv i)), some (vi (-1000))]) (st' := []) [.inl (.sipush (-1000)), .inl (.istore 6)] 46 _ _ (by decide +kernel) rfl ?_
    rcases Int.lt_or_le 0 (Tm xwg q (idv i)) with hz | hz
    · refine up_to (W := fun y : Nat => ∀ (md1 : Nat → Int) (by1 : Int), mdQ ((i : Int) * 2200122767179776 + (y : Int) * 1099511627776) (fun u => T2 d idv (fun i => Tm xwg q (idv i)) idv (fun i => Tm xwg q2 (idv i)) 2001 i u + den (Vj d idv idv i) (Cj (fun i => Tm xwg q (idv i)) (fun i => Tm xwg q2 (idv i)) i) y u) md1 → byR (B2 d idv (fun i => Tm xwg q (idv i)) idv (fun i => Tm xwg q2 (idv i)) 2001 i ∨ byd (Vj d idv idv i) (Cj (fun i => Tm xwg q (idv i)) (fun i => Tm xwg q2 (idv i)) i) y) by1 → AW G M_M_of Qr Qt 0 0 51 [some (vr 8 0), some (vi a), some (vi (q : Int)), some (vi (q2 : Int)), some (vi d), some (vi (idv i)), some (vi (idv y))] [] (Hp b s t mk df jo tr di [some (ob 8 [vi 0, vr 8 1, vi ln, vr 8 2, vr 8 3, vr 8 4, vi by1, vr 8 5, vr 8 6, vr 8 7, vr 8 8, vr 8 9, vi (j : Int), vi ac, vi bd, vr 8 10, vr 8 11, vr 8 12, vr 8 13, vr 8 14, vi pm, vl pq, vr 8 15, vr 8 16, vi tk, vr 8 17, vr 8 18, vr 8 19, vi fo, vi f1, vi f2]), some (ar 2 200 xtp), some (ar 0 32016 xwg), some (ar 0 16 xwh), some (ar 1 2001 md1), some (ar 0 30 xsl), some (ar 0 30 xhw), some (ar 0 30 xhs), some (ar 0 60030 xhd), some (ar 0 60030 xha), some (ar 0 600 xp1), some (ar 0 600 xp2), some (ar 1 600 xp3), some (ar 1 2001 xl1), some (ar 1 2001 xl2), some (ar 1 2001 xrt), some (ar 3 2001 xlf), some (ar 0 3600 xdc), some (ar 0 12 xhn), some (ar 0 4005 xsu)] dy)) 2001 ?_ (fun y hj9 ih => ?_) 0 (by omega) _ _ ((hQ.z (V := Vj d idv idv i) (C := Cj (fun i => Tm xwg q (idv i)) (fun i => Tm xwg q2 (idv i)) i)).eq (by omega) (fun _ _ => rfl)) (hb.z (V := Vj d idv idv i) (C := Cj (fun i => Tm xwg q (idv i)) (fun i => Tm xwg q2 (idv i)) i))
      · intro md1 by1 hQ hb
        refine aw_blk (pc' := 56) (ls' := [some (vr 8 0), some (vi a), some (vi (q : Int)), some (vi (q2 : Int)), some (vi d), some (vi (idv i)), some (vi (idv 2001))]) (st' := [vi 1000, vi (idv 2001)]) [.inl (.iload 6), .inl (.sipush 1000)] 51 _ _ (by decide +kernel) rfl ?_
        refine aw_icmp_gt (o := 113) (tgt := 169) (by decide +kernel) (by decide) (by show I32 (_ - _); omega) (by omega) (fun _ => ?_) (fun c => absurd (by show _ < (_ - _); omega) c)
        refine aw_blk (pc' := 172) (ls' := [some (vr 8 0), some (vi a), some (vi (q : Int)), some (vi (q2 : Int)), some (vi d), some (vi ((idv i) + 1)), some (vi (idv 2001))]) (st' := []) [.inl (.iinc 5 1)] 169 _ _ (by decide +kernel) rfl ?_
        refine aw_goto (o := -134) (tgt := 38) (by decide +kernel) (by decide) ?_
        rw [hnx]
        refine aw_ls (ls' := [some (vr 8 0), some (vi a), some (vi (q : Int)), some (vi (q2 : Int)), some (vi d), some (vi (idv (i + 1))), none]) (lsk_s (lsk_s (lsk_s (lsk_s (lsk_s (lsk_s (lsk_n lsk_0))))))) ?_
        exact ihO _ _ (hQ.eq (by omega) (fun u _ => rfl)) (hb.eq B2_s.symm)
      · intro md1 by1 hQ hb
        have hjv : idv y = (y : Int) - 1000 := rfl
        have htq2 := hTq2 (idv y)
        have hnj : idv y + 1 = idv (y + 1) := by unfold idv; omega
        have hmu := mulB (x := Tm xwg q (idv i)) (y := Tm xwg q2 (idv y)) (by omega) (by omega) (by omega) (by omega)
        have hjn := jnd_in (d := d) (v := idv i) (w := idv y) (by omega) (by omega)
        refine aw_blk (pc' := 56) (ls' := [some (vr 8 0), some (vi a), some (vi (q : Int)), some (vi (q2 : Int)), some (vi d), some (vi (idv i)), some (vi (idv y))]) (st' := [vi 1000, vi (idv y)]) [.inl (.iload 6), .inl (.sipush 1000)] 51 _ _ (by decide +kernel) rfl ?_
        refine aw_icmp_gt (o := 113) (tgt := 169) (by decide +kernel) (by decide) (by omega) (by omega) (fun c => absurd c (by omega)) (fun _ => ?_)
        refine aw_blk (pc' := 63) (ls' := [some (vr 8 0), some (vi a), some (vi (q : Int)), some (vi (q2 : Int)), some (vi d), some (vi (idv i)), some (vi (idv y))]) (st' := [vi (idv i), vi (q : Int), vr 8 0]) [.inl (.aload_n 0), .inl (.iload_n 2), .inl (.iload 5)] 59 _ _ (by decide +kernel) rfl ?_
        refine aw_dV (cs' := 0) (sl' := 0) (pc' := 66) (st' := [vi (Tm xwg q (idv i))]) (idx := 136) (as := [vi (q : Int), vi (idv i)]) (st := []) (m_M_at (by omega) (by omega)) (by decide +kernel) (show vOK "ChanceBenchModel" 136 M_M_at 2 = true by decide +kernel) rfl rfl rfl (Nat.le_of_ble_eq_true rfl) (by decide) (by decide) (by decide) rfl rfl rfl rfl ?_
        refine aw_if_le (o := 103) (tgt := 169) (by decide +kernel) (by decide) (by omega) (fun c => absurd c (by omega)) (fun _ => ?_)
        refine aw_blk (pc' := 72) (ls' := [some (vr 8 0), some (vi a), some (vi (q : Int)), some (vi (q2 : Int)), some (vi d), some (vi (idv i)), some (vi (idv y))]) (st' := [vi d, vr 8 0]) [.inl (.aload_n 0), .inl (.iload 4)] 69 _ _ (by decide +kernel) rfl ?_
        have tail : AW G M_M_of Qr Qt 0 0 143 [some (vr 8 0), some (vi a), some (vi (q : Int)), some (vi (q2 : Int)), some (vi d), some (vi (idv i)), some (vi (idv y))] [vl (jnd d (idv i) (idv y)), vr 8 0] (Hp b s t mk df jo tr di [some (ob 8 [vi 0, vr 8 1, vi ln, vr 8 2, vr 8 3, vr 8 4, vi by1, vr 8 5, vr 8 6, vr 8 7, vr 8 8, vr 8 9, vi (j : Int), vi ac, vi bd, vr 8 10, vr 8 11, vr 8 12, vr 8 13, vr 8 14, vi pm, vl pq, vr 8 15, vr 8 16, vi tk, vr 8 17, vr 8 18, vr 8 19, vi fo, vi f1, vi f2]), some (ar 2 200 xtp), some (ar 0 32016 xwg), some (ar 0 16 xwh), some (ar 1 2001 md1), some (ar 0 30 xsl), some (ar 0 30 xhw), some (ar 0 30 xhs), some (ar 0 60030 xhd), some (ar 0 60030 xha), some (ar 0 600 xp1), some (ar 0 600 xp2), some (ar 1 600 xp3), some (ar 1 2001 xl1), some (ar 1 2001 xl2), some (ar 1 2001 xrt), some (ar 3 2001 xlf), some (ar 0 3600 xdc), some (ar 0 12 xhn), some (ar 0 4005 xsu)] dy) := by
          refine aw_blk (pc' := 147) (ls' := [some (vr 8 0), some (vi a), some (vi (q : Int)), some (vi (q2 : Int)), some (vi d), some (vi (idv i)), some (vi (idv y))]) (st' := [vi (idv i), vi (q : Int), vr 8 0, vl (jnd d (idv i) (idv y)), vr 8 0]) [.inl (.aload_n 0), .inl (.iload_n 2), .inl (.iload 5)] 143 _ _ (by decide +kernel) rfl ?_
          refine aw_dV (cs' := 0) (sl' := 0) (pc' := 150) (st' := [vi (Tm xwg q (idv i)), vl (jnd d (idv i) (idv y)), vr 8 0]) (idx := 136) (as := [vi (q : Int), vi (idv i)]) (st := [vl (jnd d (idv i) (idv y)), vr 8 0]) (m_M_at (by omega) (by omega)) (by decide +kernel) (show vOK "ChanceBenchModel" 136 M_M_at 2 = true by decide +kernel) rfl rfl rfl (Nat.le_of_ble_eq_true rfl) (by decide) (by decide) (by decide) rfl rfl rfl rfl ?_
          refine aw_i2l (by decide +kernel) (by omega) ?_
          refine aw_blk (pc' := 155) (ls' := [some (vr 8 0), some (vi a), some (vi (q : Int)), some (vi (q2 : Int)), some (vi d), some (vi (idv i)), some (vi (idv y))]) (st' := [vi (idv y), vi (q2 : Int), vr 8 0, vl (Tm xwg q (idv i)), vl (jnd d (idv i) (idv y)), vr 8 0]) [.inl (.aload_n 0), .inl (.iload_n 3), .inl (.iload 6)] 151 _ _ (by decide +kernel) rfl ?_
          refine aw_dV (cs' := 0) (sl' := 0) (pc' := 158) (st' := [vi (Tm xwg q2 (idv y)), vl (Tm xwg q (idv i)), vl (jnd d (idv i) (idv y)), vr 8 0]) (idx := 136) (as := [vi (q2 : Int), vi (idv y)]) (st := [vl (Tm xwg q (idv i)), vl (jnd d (idv i) (idv y)), vr 8 0]) (m_M_at (by omega) (by omega)) (by decide +kernel) (show vOK "ChanceBenchModel" 136 M_M_at 2 = true by decide +kernel) rfl rfl rfl (Nat.le_of_ble_eq_true rfl) (by decide) (by decide) (by decide) rfl rfl rfl rfl ?_
          refine aw_i2l (by decide +kernel) (by omega) ?_
          refine aw_blk (pc' := 160) (ls' := [some (vr 8 0), some (vi a), some (vi (q : Int)), some (vi (q2 : Int)), some (vi d), some (vi (idv i)), some (vi (idv y))]) (st' := [vl ((Tm xwg q (idv i)) * (Tm xwg q2 (idv y))), vl (jnd d (idv i) (idv y)), vr 8 0]) [.inl (.lmul)] 159 _ _ (by decide +kernel) rfl ?_
          refine aw_rV (cs' := 0) (sl' := 0) (pc' := 163) (idx := 120) (as := [vl (jnd d (idv i) (idv y)), vl ((Tm xwg q (idv i)) * (Tm xwg q2 (idv y)))]) (st := []) (m_M_addQ hQ hb (by omega) (by omega) (by omega)) (by decide +kernel) (show vOK "ChanceBenchModel" 120 M_M_add 2 = true by decide +kernel) rfl rfl rfl (Nat.le_of_ble_eq_true rfl) (by decide) (by decide) (by decide) rfl rfl rfl (fun r160 h160 z160 => ?_)
          obtain ⟨rfl, md2, by2, hQ2, hb2, rfl⟩ := z160
          refine aw_blk (pc' := 166) (ls' := [some (vr 8 0), some (vi a), some (vi (q : Int)), some (vi (q2 : Int)), some (vi d), some (vi (idv i)), some (vi ((idv y) + 1))]) (st' := []) [.inl (.iinc 6 1)] 163 _ _ (by decide +kernel) rfl ?_
          refine aw_goto (o := -115) (tgt := 51) (by decide +kernel) (by decide) ?_
          rw [hnj]
          exact ih _ _ (hQ2.s (V := Vj d idv idv i) (C := Cj (fun i => Tm xwg q (idv i)) (fun i => Tm xwg q2 (idv i)) i) (by show _ + Tm xwg q (idv i) * Tm xwg q2 (idv y) ≤ _; omega)) (hb2.s (V := Vj d idv idv i) (C := Cj (fun i => Tm xwg q (idv i)) (fun i => Tm xwg q2 (idv i)) i))
        refine aw_if_ne (o := 22) (tgt := 94) (by decide +kernel) (by decide) (by omega) (fun c72 => ?_) (fun c72 => ?_)
        · refine aw_blk (pc' := 97) (ls' := [some (vr 8 0), some (vi a), some (vi (q : Int)), some (vi (q2 : Int)), some (vi d), some (vi (idv i)), some (vi (idv y))]) (st' := [vi 1, vi d, vr 8 0]) [.inl (.iload 4), .inl (.iconst 1)] 94 _ _ (by decide +kernel) rfl ?_
          refine aw_icmp_ne (o := 22) (tgt := 119) (by decide +kernel) (by decide) (by omega) (by omega) (fun c97 => ?_) (fun c97 => ?_)
          · have d0 : d = 2 := by omega
            refine aw_blk (pc' := 121) (ls' := [some (vr 8 0), some (vi a), some (vi (q : Int)), some (vi (q2 : Int)), some (vi d), some (vi (idv i)), some (vi (idv y))]) (st' := [vi (idv y), vr 8 0]) [.inl (.iload 6)] 119 _ _ (by decide +kernel) rfl ?_
            refine aw_if_ge (o := 10) (tgt := 131) (by decide +kernel) (by decide) (by omega) (fun c121 => ?_) (fun c121 => ?_)
            · refine aw_blk (pc' := 133) (ls' := [some (vr 8 0), some (vi a), some (vi (q : Int)), some (vi (q2 : Int)), some (vi d), some (vi (idv i)), some (vi (idv y))]) (st' := [vi (idv y), vr 8 0]) [.inl (.iload 6)] 131 _ _ (by decide +kernel) rfl ?_
              refine aw_if_le (o := 9) (tgt := 142) (by decide +kernel) (by decide) (by omega) (fun c133 => ?_) (fun c133 => ?_)
              · refine aw_blk (pc' := 143) (ls' := [some (vr 8 0), some (vi a), some (vi (q : Int)), some (vi (q2 : Int)), some (vi d), some (vi (idv i)), some (vi (idv y))]) (st' := [vl 0, vr 8 0]) [.inl (.lconst 0)] 142 _ _ (by decide +kernel) rfl ?_
                rw [show jnd d (idv i) (idv y) = 0 by unfold jnd sg; rw [if_neg (by omega), if_neg (by omega), if_pos d0, if_neg (by omega), if_neg (by omega)]; omega] at tail
                exact tail
              · refine aw_blk (pc' := 138) (ls' := [some (vr 8 0), some (vi a), some (vi (q : Int)), some (vi (q2 : Int)), some (vi d), some (vi (idv i)), some (vi (idv y))]) (st' := [vi (idv i), vr 8 0]) [.inl (.iload 5)] 136 _ _ (by decide +kernel) rfl ?_
                refine aw_i2l (by decide +kernel) (by omega) ?_
                refine aw_goto (o := 4) (tgt := 143) (by decide +kernel) (by decide) ?_
                rw [show jnd d (idv i) (idv y) = idv i by unfold jnd sg; rw [if_neg (by omega), if_neg (by omega), if_pos d0, if_neg (by omega), if_pos (by omega)]; omega] at tail
                exact tail
            · refine aw_blk (pc' := 127) (ls' := [some (vr 8 0), some (vi a), some (vi (q : Int)), some (vi (q2 : Int)), some (vi d), some (vi (idv i)), some (vi (idv y))]) (st' := [vi (-(idv i)), vr 8 0]) [.inl (.iload 5), .inl (.ineg)] 124 _ _ (by decide +kernel) rfl ?_
              refine aw_i2l (by decide +kernel) (by omega) ?_
              refine aw_goto (o := 15) (tgt := 143) (by decide +kernel) (by decide) ?_
              rw [show jnd d (idv i) (idv y) = -(idv i) by unfold jnd sg; rw [if_neg (by omega), if_neg (by omega), if_pos d0, if_pos (by omega)]; omega] at tail
              exact tail
          · have d0 : d = 1 := by omega
            refine aw_blk (pc' := 104) (ls' := [some (vr 8 0), some (vi a), some (vi (q : Int)), some (vi (q2 : Int)), some (vi d), some (vi (idv i)), some (vi (idv y))]) (st' := [vi (idv y), vi (idv i), vr 8 0]) [.inl (.iload 5), .inl (.iload 6)] 100 _ _ (by decide +kernel) rfl ?_
            refine aw_icmp_le (o := 9) (tgt := 113) (by decide +kernel) (by decide) (by omega) (by omega) (fun c104 => ?_) (fun c104 => ?_)
            · refine aw_blk (pc' := 115) (ls' := [some (vr 8 0), some (vi a), some (vi (q : Int)), some (vi (q2 : Int)), some (vi d), some (vi (idv i)), some (vi (idv y))]) (st' := [vi (idv y), vr 8 0]) [.inl (.iload 6)] 113 _ _ (by decide +kernel) rfl ?_
              refine aw_i2l (by decide +kernel) (by omega) ?_
              refine aw_goto (o := 27) (tgt := 143) (by decide +kernel) (by decide) ?_
              rw [show jnd d (idv i) (idv y) = idv y by unfold jnd sg; rw [if_neg (by omega), if_pos d0]; split <;> omega] at tail
              exact tail
            · refine aw_blk (pc' := 109) (ls' := [some (vr 8 0), some (vi a), some (vi (q : Int)), some (vi (q2 : Int)), some (vi d), some (vi (idv i)), some (vi (idv y))]) (st' := [vi (idv i), vr 8 0]) [.inl (.iload 5)] 107 _ _ (by decide +kernel) rfl ?_
              refine aw_i2l (by decide +kernel) (by omega) ?_
              refine aw_goto (o := 33) (tgt := 143) (by decide +kernel) (by decide) ?_
              rw [show jnd d (idv i) (idv y) = idv i by unfold jnd sg; rw [if_neg (by omega), if_pos d0]; split <;> omega] at tail
              exact tail
        · have d0 : d = 0 := by omega
          refine aw_blk (pc' := 79) (ls' := [some (vr 8 0), some (vi a), some (vi (q : Int)), some (vi (q2 : Int)), some (vi d), some (vi (idv i)), some (vi (idv y))]) (st' := [vi (idv y), vi (idv i), vr 8 0]) [.inl (.iload 5), .inl (.iload 6)] 75 _ _ (by decide +kernel) rfl ?_
          refine aw_icmp_ge (o := 9) (tgt := 88) (by decide +kernel) (by decide) (by omega) (by omega) (fun c79 => ?_) (fun c79 => ?_)
          · refine aw_blk (pc' := 90) (ls' := [some (vr 8 0), some (vi a), some (vi (q : Int)), some (vi (q2 : Int)), some (vi d), some (vi (idv i)), some (vi (idv y))]) (st' := [vi (idv y), vr 8 0]) [.inl (.iload 6)] 88 _ _ (by decide +kernel) rfl ?_
            refine aw_i2l (by decide +kernel) (by omega) ?_
            refine aw_goto (o := 52) (tgt := 143) (by decide +kernel) (by decide) ?_
            rw [show jnd d (idv i) (idv y) = idv y by unfold jnd sg; rw [if_pos d0]; split <;> omega] at tail
            exact tail
          · refine aw_blk (pc' := 84) (ls' := [some (vr 8 0), some (vi a), some (vi (q : Int)), some (vi (q2 : Int)), some (vi d), some (vi (idv i)), some (vi (idv y))]) (st' := [vi (idv i), vr 8 0]) [.inl (.iload 5)] 82 _ _ (by decide +kernel) rfl ?_
            refine aw_i2l (by decide +kernel) (by omega) ?_
            refine aw_goto (o := 58) (tgt := 143) (by decide +kernel) (by decide) ?_
            rw [show jnd d (idv i) (idv y) = idv i by unfold jnd sg; rw [if_pos d0]; split <;> omega] at tail
            exact tail
    · refine aw_blk (pc' := 56) (ls' := [some (vr 8 0), some (vi a), some (vi (q : Int)), some (vi (q2 : Int)), some (vi d), some (vi (idv i)), some (vi (-1000))]) (st' := [vi 1000, vi (-1000)]) [.inl (.iload 6), .inl (.sipush 1000)] 51 _ _ (by decide +kernel) rfl ?_
      refine aw_icmp_gt (o := 113) (tgt := 169) (by decide +kernel) (by decide) (by omega) (by omega) (fun c => absurd c (by omega)) (fun _ => ?_)
      refine aw_blk (pc' := 63) (ls' := [some (vr 8 0), some (vi a), some (vi (q : Int)), some (vi (q2 : Int)), some (vi d), some (vi (idv i)), some (vi (-1000))]) (st' := [vi (idv i), vi (q : Int), vr 8 0]) [.inl (.aload_n 0), .inl (.iload_n 2), .inl (.iload 5)] 59 _ _ (by decide +kernel) rfl ?_
      refine aw_dV (cs' := 0) (sl' := 0) (pc' := 66) (st' := [vi (Tm xwg q (idv i))]) (idx := 136) (as := [vi (q : Int), vi (idv i)]) (st := []) (m_M_at (by omega) (by omega)) (by decide +kernel) (show vOK "ChanceBenchModel" 136 M_M_at 2 = true by decide +kernel) rfl rfl rfl (Nat.le_of_ble_eq_true rfl) (by decide) (by decide) (by decide) rfl rfl rfl rfl ?_
      refine aw_if_le (o := 103) (tgt := 169) (by decide +kernel) (by decide) (by omega) (fun _ => ?_) (fun c => absurd (by omega) c)
      refine aw_blk (pc' := 172) (ls' := [some (vr 8 0), some (vi a), some (vi (q : Int)), some (vi (q2 : Int)), some (vi d), some (vi ((idv i) + 1)), some (vi (-1000))]) (st' := []) [.inl (.iinc 5 1)] 169 _ _ (by decide +kernel) rfl ?_
      refine aw_goto (o := -134) (tgt := 38) (by decide +kernel) (by decide) ?_
      rw [hnx]
      refine aw_ls (ls' := [some (vr 8 0), some (vi a), some (vi (q : Int)), some (vi (q2 : Int)), some (vi d), some (vi (idv (i + 1))), none]) (lsk_s (lsk_s (lsk_s (lsk_s (lsk_s (lsk_s (lsk_n lsk_0))))))) ?_
      have hz0 : ∀ j, j < 2001 → Cj (fun i => Tm xwg q (idv i)) (fun i => Tm xwg q2 (idv i)) i j = 0 := fun j _ => by show Tm xwg q (idv i) * _ = 0; rw [show Tm xwg q (idv i) = 0 by omega, Int.zero_mul]
      exact ihO _ _ (hQ.eq (by omega) (fun u _ => by show _ = T2 d idv (fun i => Tm xwg q (idv i)) idv (fun i => Tm xwg q2 (idv i)) 2001 i u + den (Vj d idv idv i) (Cj (fun i => Tm xwg q (idv i)) (fun i => Tm xwg q2 (idv i)) i) 2001 u; rw [den_z hz0, Int.add_zero])) (hb.eq (by rw [B2_s]; exact ⟨Or.inl, fun z => z.elim id (fun z => absurd z (byd_z hz0))⟩))

theorem m_M_mix (hj : j ≤ 30) (ha : I32 a) (hI : I32 c ∧ I32 d) (hl : isLw xwh (q : Int)) (hTq : ∀ v, 0 ≤ Tm xwg q v ∧ Tm xwg q v ≤ 1048576) (hl2 : isLw xwh (q2 : Int)) (hTq2 : ∀ v, 0 ≤ Tm xwg q2 v ∧ Tm xwg q2 v ≤ 1048576) (hw : (1 ≤ xwh q ∧ xwh q ≤ 1048576) ∧ 1 ≤ xwh q2 ∧ xwh q2 ≤ 1048576) : AMet G M_M_mix [vr 8 0, vi a, vi (q : Int), vi (q2 : Int), vi c, vi d] (Hp b s t mk df jo tr di (sgM th ln by9 (j : Int) ac bd pm pq tk fo f1 f2 xtp xwg xwh xmd xsl xhw xhs xhd xha xp1 xp2 xp3 xl1 xl2 xrt xlf xdc xhn xsu) dy) (fun r h => ∃ (md' : Nat → Int) (by' : Int), puM b s t mk df jo tr di dy j 0 ln by' ac bd pm pq tk fo f1 f2 xtp xwg xwh md' xsl xhw xhs xhd xha xp1 xp2 xp3 xl1 xl2 xrt xlf xdc xhn xsu a (fun u => den idv (fun i => c * Tm xwg q (idv i) * xwh q2) 2001 u + den idv (fun i => (d - c) * Tm xwg q2 (idv i) * xwh q) 2001 u) (¬ ((1 ≤ d ∧ d ≤ 1000) ∧ (0 ≤ c ∧ c ≤ d))) r h) (fun _ => False) := by
  refine am_rel (by decide +kernel) (Nat.le_of_ble_eq_true rfl) (fun Qr Qt hq => ?_)
  have hq16 := hl.1
  have hq17 := hl2.1
  refine aw_blk (pc' := 1) (ls' := [some (vr 8 0), some (vi a), some (vi (q : Int)), some (vi (q2 : Int)), some (vi c), some (vi d), none]) (st' := [vr 8 0]) [.inl (.aload_n 0)] 0 _ _ (by decide +kernel) rfl ?_
  refine aw_rV (cs' := 0) (sl' := 0) (pc' := 4) (idx := 113) (as := []) (st := []) (m_M_begin) (by decide +kernel) (show vOK "ChanceBenchModel" 113 M_M_begin 0 = true by decide +kernel) rfl rfl rfl (Nat.le_of_ble_eq_true rfl) (by decide) (by decide) (by decide) rfl rfl rfl (fun r1 h1 z1 => ?_)
  obtain ⟨rfl, md0, hmd, rfl⟩ := z1
  have hQ0 := mdQ_0 hmd
  refine aw_blk (pc' := 6) (ls' := [some (vr 8 0), some (vi a), some (vi (q : Int)), some (vi (q2 : Int)), some (vi c), some (vi d), none]) (st' := [vi (q : Int), vr 8 0]) [.inl (.aload_n 0), .inl (.iload_n 2)] 4 _ _ (by decide +kernel) rfl ?_
  refine aw_dV (cs' := 0) (sl' := 0) (pc' := 9) (st' := [vi 1]) (idx := 133) (as := [vi (q : Int)]) (st := []) (m_M_isLaw_1 hl) (by decide +kernel) (show vOK "ChanceBenchModel" 133 M_M_isLaw 1 = true by decide +kernel) rfl rfl rfl (Nat.le_of_ble_eq_true rfl) (by decide) (by decide) (by decide) rfl rfl rfl rfl ?_
  refine aw_if_eq (o := 37) (tgt := 46) (by decide +kernel) (by decide) (by omega) (fun c => absurd c (by omega)) (fun _ => ?_)
  refine aw_blk (pc' := 14) (ls' := [some (vr 8 0), some (vi a), some (vi (q : Int)), some (vi (q2 : Int)), some (vi c), some (vi d), none]) (st' := [vi (q2 : Int), vr 8 0]) [.inl (.aload_n 0), .inl (.iload_n 3)] 12 _ _ (by decide +kernel) rfl ?_
  refine aw_dV (cs' := 0) (sl' := 0) (pc' := 17) (st' := [vi 1]) (idx := 133) (as := [vi (q2 : Int)]) (st := []) (m_M_isLaw_1 hl2) (by decide +kernel) (show vOK "ChanceBenchModel" 133 M_M_isLaw 1 = true by decide +kernel) rfl rfl rfl (Nat.le_of_ble_eq_true rfl) (by decide) (by decide) (by decide) rfl rfl rfl rfl ?_
  refine aw_if_eq (o := 29) (tgt := 46) (by decide +kernel) (by decide) (by omega) (fun c => absurd c (by omega)) (fun _ => ?_)
  refine aw_blk (pc' := 23) (ls' := [some (vr 8 0), some (vi a), some (vi (q : Int)), some (vi (q2 : Int)), some (vi c), some (vi d), none]) (st' := [vi 1, vi d]) [.inl (.iload 5), .inl (.iconst 1)] 20 _ _ (by decide +kernel) rfl ?_
  refine aw_icmp_lt (o := 23) (tgt := 46) (by decide +kernel) (by decide) (by omega) (by omega) (fun c23 => ?_) (fun c23 => ?_)
  · refine aw_blk (pc' := 47) (ls' := [some (vr 8 0), some (vi a), some (vi (q : Int)), some (vi (q2 : Int)), some (vi c), some (vi d), none]) (st' := [vi 0]) [.inl (.iconst 0)] 46 _ _ (by decide +kernel) rfl ?_
    exact aw_zret (by decide +kernel) rfl (by decide) (by decide) (by omega) (hq _ _ ⟨md0, 0, Or.inl ⟨rfl, fun z => z.2.1 (by omega), rfl⟩⟩)
  · refine aw_blk (pc' := 31) (ls' := [some (vr 8 0), some (vi a), some (vi (q : Int)), some (vi (q2 : Int)), some (vi c), some (vi d), none]) (st' := [vi 1000, vi d]) [.inl (.iload 5), .inl (.sipush 1000)] 26 _ _ (by decide +kernel) rfl ?_
    refine aw_icmp_gt (o := 15) (tgt := 46) (by decide +kernel) (by decide) (by omega) (by omega) (fun c31 => ?_) (fun c31 => ?_)
    · refine aw_blk (pc' := 47) (ls' := [some (vr 8 0), some (vi a), some (vi (q : Int)), some (vi (q2 : Int)), some (vi c), some (vi d), none]) (st' := [vi 0]) [.inl (.iconst 0)] 46 _ _ (by decide +kernel) rfl ?_
      exact aw_zret (by decide +kernel) rfl (by decide) (by decide) (by omega) (hq _ _ ⟨md0, 0, Or.inl ⟨rfl, fun z => z.2.1 (by omega), rfl⟩⟩)
    · refine aw_blk (pc' := 36) (ls' := [some (vr 8 0), some (vi a), some (vi (q : Int)), some (vi (q2 : Int)), some (vi c), some (vi d), none]) (st' := [vi c]) [.inl (.iload 4)] 34 _ _ (by decide +kernel) rfl ?_
      refine aw_if_lt (o := 10) (tgt := 46) (by decide +kernel) (by decide) (by omega) (fun c36 => ?_) (fun c36 => ?_)
      · refine aw_blk (pc' := 47) (ls' := [some (vr 8 0), some (vi a), some (vi (q : Int)), some (vi (q2 : Int)), some (vi c), some (vi d), none]) (st' := [vi 0]) [.inl (.iconst 0)] 46 _ _ (by decide +kernel) rfl ?_
        exact aw_zret (by decide +kernel) rfl (by decide) (by decide) (by omega) (hq _ _ ⟨md0, 0, Or.inl ⟨rfl, fun z => z.2.1 (by omega), rfl⟩⟩)
      · refine aw_blk (pc' := 43) (ls' := [some (vr 8 0), some (vi a), some (vi (q : Int)), some (vi (q2 : Int)), some (vi c), some (vi d), none]) (st' := [vi d, vi c]) [.inl (.iload 4), .inl (.iload 5)] 39 _ _ (by decide +kernel) rfl ?_
        refine aw_icmp_le (o := 5) (tgt := 48) (by decide +kernel) (by decide) (by omega) (by omega) (fun c43 => ?_) (fun c43 => ?_)
        · refine aw_blk (pc' := 53) (ls' := [some (vr 8 0), some (vi a), some (vi (q : Int)), some (vi (q2 : Int)), some (vi c), some (vi d), some (vi (-1000))]) (st' := []) [.inl (.sipush (-1000)), .inl (.istore 6)] 48 _ _ (by decide +kernel) rfl ?_
          refine up_to (W := fun i : Nat => ∀ (md1 : Nat → Int) (by1 : Int), mdQ ((i : Int) * 2199023255552000) (fun u => den idv (fun i => c * Tm xwg q (idv i) * xwh q2) i u + den idv (fun i => (d - c) * Tm xwg q2 (idv i) * xwh q) i u) md1 → byR (¬ ((1 ≤ d ∧ d ≤ 1000) ∧ (0 ≤ c ∧ c ≤ d))) by1 → AW G M_M_mix Qr Qt 0 0 53 [some (vr 8 0), some (vi a), some (vi (q : Int)), some (vi (q2 : Int)), some (vi c), some (vi d), some (vi (idv i))] [] (Hp b s t mk df jo tr di [some (ob 8 [vi 0, vr 8 1, vi ln, vr 8 2, vr 8 3, vr 8 4, vi by1, vr 8 5, vr 8 6, vr 8 7, vr 8 8, vr 8 9, vi (j : Int), vi ac, vi bd, vr 8 10, vr 8 11, vr 8 12, vr 8 13, vr 8 14, vi pm, vl pq, vr 8 15, vr 8 16, vi tk, vr 8 17, vr 8 18, vr 8 19, vi fo, vi f1, vi f2]), some (ar 2 200 xtp), some (ar 0 32016 xwg), some (ar 0 16 xwh), some (ar 1 2001 md1), some (ar 0 30 xsl), some (ar 0 30 xhw), some (ar 0 30 xhs), some (ar 0 60030 xhd), some (ar 0 60030 xha), some (ar 0 600 xp1), some (ar 0 600 xp2), some (ar 1 600 xp3), some (ar 1 2001 xl1), some (ar 1 2001 xl2), some (ar 1 2001 xrt), some (ar 3 2001 xlf), some (ar 0 3600 xdc), some (ar 0 12 xhn), some (ar 0 4005 xsu)] dy)) 2001 ?_ (fun i hi ih => ?_) 0 (by omega) _ _ (hQ0.eq (T' := fun u => den idv (fun i => c * Tm xwg q (idv i) * xwh q2) 0 u + den idv (fun i => (d - c) * Tm xwg q2 (idv i) * xwh q) 0 u) (by omega) (fun _ _ => rfl)) (byR_0.eq (q := ¬ ((1 ≤ d ∧ d ≤ 1000) ∧ (0 ≤ c ∧ c ≤ d))) ⟨False.elim, fun z => z (by omega)⟩)
          · intro md1 by1 hQ hb
            refine aw_blk (pc' := 58) (ls' := [some (vr 8 0), some (vi a), some (vi (q : Int)), some (vi (q2 : Int)), some (vi c), some (vi d), some (vi (idv 2001))]) (st' := [vi 1000, vi (idv 2001)]) [.inl (.iload 6), .inl (.sipush 1000)] 53 _ _ (by decide +kernel) rfl ?_
            refine aw_icmp_gt (o := 66) (tgt := 124) (by decide +kernel) (by decide) (by show I32 (_ - _); omega) (by omega) (fun _ => ?_) (fun c => absurd (by show _ < (_ - _); omega) c)
            refine aw_blk (pc' := 126) (ls' := [some (vr 8 0), some (vi a), some (vi (q : Int)), some (vi (q2 : Int)), some (vi c), some (vi d), some (vi (idv 2001))]) (st' := [vi a, vr 8 0]) [.inl (.aload_n 0), .inl (.iload_n 1)] 124 _ _ (by decide +kernel) rfl ?_
            refine aw_rV (cs' := 0) (sl' := 0) (pc' := 129) (idx := 124) (as := [vi a]) (st := []) (m_M_put hj ha hQ.1 hQ.2.1 (by have := hQ.2.2; omega) hb) (by decide +kernel) (show vOK "ChanceBenchModel" 124 M_M_put 1 = true by decide +kernel) rfl rfl rfl (Nat.le_of_ble_eq_true rfl) (by decide) (by decide) (by decide) rfl rfl rfl (fun r126 h126 z126 => ?_)
            rcases z126 with ⟨rfl, h1, rfl⟩ | ⟨rfl, h1, h2, s1, rfl, rfl⟩
            · exact aw_zret (by decide +kernel) rfl (by decide) (by decide) (by omega) (hq _ _ ⟨md1, by1, Or.inl ⟨rfl, h1, rfl⟩⟩)
            · exact aw_zret (by decide +kernel) rfl (by decide) (by decide) (by omega) (hq _ _ ⟨md1, by1, Or.inr ⟨rfl, h1, h2, s1, rfl, rfl⟩⟩)
          · intro md1 by1 hQ hb
            have hiv : idv i = (i : Int) - 1000 := rfl
            have htq := hTq (idv i)
            have htq2 := hTq2 (idv i)
            have hnx : idv i + 1 = idv (i + 1) := by unfold idv; omega
            have h1 := mul_in (x := 1000) (y := 1048576) (u := c) (v := Tm xwg q (idv i)) (by omega) (by omega) (by omega) (by omega)
            have h1n := Int.mul_nonneg (show 0 ≤ c by omega) htq.1
            have h2 := mul_in (x := 1048576000) (y := 1048576) (u := c * Tm xwg q (idv i)) (v := xwh q2) (by omega) (by omega) (by omega) (by omega)
            have h2n := Int.mul_nonneg h1n (show 0 ≤ xwh q2 by omega)
            have h3 := mul_in (x := 1000) (y := 1048576) (u := d - c) (v := Tm xwg q2 (idv i)) (by omega) (by omega) (by omega) (by omega)
            have h3n := Int.mul_nonneg (show 0 ≤ d - c by omega) htq2.1
            have h4 := mul_in (x := 1048576000) (y := 1048576) (u := (d - c) * Tm xwg q2 (idv i)) (v := xwh q) (by omega) (by omega) (by omega) (by omega)
            have h4n := Int.mul_nonneg h3n (show 0 ≤ xwh q by omega)
            refine aw_blk (pc' := 58) (ls' := [some (vr 8 0), some (vi a), some (vi (q : Int)), some (vi (q2 : Int)), some (vi c), some (vi d), some (vi (idv i))]) (st' := [vi 1000, vi (idv i)]) [.inl (.iload 6), .inl (.sipush 1000)] 53 _ _ (by decide +kernel) rfl ?_
            refine aw_icmp_gt (o := 66) (tgt := 124) (by decide +kernel) (by decide) (by omega) (by omega) (fun c => absurd c (by omega)) (fun _ => ?_)
            refine aw_blk (pc' := 64) (ls' := [some (vr 8 0), some (vi a), some (vi (q : Int)), some (vi (q2 : Int)), some (vi c), some (vi d), some (vi (idv i))]) (st' := [vi (idv i), vr 8 0]) [.inl (.aload_n 0), .inl (.iload 6)] 61 _ _ (by decide +kernel) rfl ?_
            refine aw_i2l (by decide +kernel) (by omega) ?_
            refine aw_blk (pc' := 67) (ls' := [some (vr 8 0), some (vi a), some (vi (q : Int)), some (vi (q2 : Int)), some (vi c), some (vi d), some (vi (idv i))]) (st' := [vi c, vl (idv i), vr 8 0]) [.inl (.iload 4)] 65 _ _ (by decide +kernel) rfl ?_
            refine aw_i2l (by decide +kernel) (by omega) ?_
            refine aw_blk (pc' := 72) (ls' := [some (vr 8 0), some (vi a), some (vi (q : Int)), some (vi (q2 : Int)), some (vi c), some (vi d), some (vi (idv i))]) (st' := [vi (idv i), vi (q : Int), vr 8 0, vl c, vl (idv i), vr 8 0]) [.inl (.aload_n 0), .inl (.iload_n 2), .inl (.iload 6)] 68 _ _ (by decide +kernel) rfl ?_
            refine aw_dV (cs' := 0) (sl' := 0) (pc' := 75) (st' := [vi (Tm xwg q (idv i)), vl c, vl (idv i), vr 8 0]) (idx := 136) (as := [vi (q : Int), vi (idv i)]) (st := [vl c, vl (idv i), vr 8 0]) (m_M_at (by omega) (by omega)) (by decide +kernel) (show vOK "ChanceBenchModel" 136 M_M_at 2 = true by decide +kernel) rfl rfl rfl (Nat.le_of_ble_eq_true rfl) (by decide) (by decide) (by decide) rfl rfl rfl rfl ?_
            refine aw_i2l (by decide +kernel) (by omega) ?_
            refine aw_blk (pc' := 82) (ls' := [some (vr 8 0), some (vi a), some (vi (q : Int)), some (vi (q2 : Int)), some (vi c), some (vi d), some (vi (idv i))]) (st' := [vi (q2 : Int), vr 8 3, vl (c * (Tm xwg q (idv i))), vl (idv i), vr 8 0]) [.inl (.lmul), .inl (.aload_n 0), .inr (17, 8, 4), .inl (.iload_n 3)] 76 _ _ (by decide +kernel) rfl ?_
            refine aw_iald (j := q2) (by decide +kernel) rfl (by omega) (by omega) (fun r82 => ?_)
            refine aw_i2l (by decide +kernel) (by omega) ?_
            refine aw_blk (pc' := 85) (ls' := [some (vr 8 0), some (vi a), some (vi (q : Int)), some (vi (q2 : Int)), some (vi c), some (vi d), some (vi (idv i))]) (st' := [vl ((c * (Tm xwg q (idv i))) * (xwh q2)), vl (idv i), vr 8 0]) [.inl (.lmul)] 84 _ _ (by decide +kernel) rfl ?_
            refine aw_rV (cs' := 0) (sl' := 0) (pc' := 88) (idx := 120) (as := [vl (idv i), vl ((c * (Tm xwg q (idv i))) * (xwh q2))]) (st := []) (m_M_addQ hQ hb (by omega) h2n (by omega)) (by decide +kernel) (show vOK "ChanceBenchModel" 120 M_M_add 2 = true by decide +kernel) rfl rfl rfl (Nat.le_of_ble_eq_true rfl) (by decide) (by decide) (by decide) rfl rfl rfl (fun r85 h85 z85 => ?_)
            obtain ⟨rfl, md2, by2, hQ2, hb2, rfl⟩ := z85
            refine aw_blk (pc' := 91) (ls' := [some (vr 8 0), some (vi a), some (vi (q : Int)), some (vi (q2 : Int)), some (vi c), some (vi d), some (vi (idv i))]) (st' := [vi (idv i), vr 8 0]) [.inl (.aload_n 0), .inl (.iload 6)] 88 _ _ (by decide +kernel) rfl ?_
            refine aw_i2l (by decide +kernel) (by omega) ?_
            refine aw_blk (pc' := 97) (ls' := [some (vr 8 0), some (vi a), some (vi (q : Int)), some (vi (q2 : Int)), some (vi c), some (vi d), some (vi (idv i))]) (st' := [vi (d - c), vl (idv i), vr 8 0]) [.inl (.iload 5), .inl (.iload 4), .inl (.isub)] 92 _ _ (by decide +kernel) rfl ?_
            refine aw_i2l (by decide +kernel) (by omega) ?_
            refine aw_blk (pc' := 102) (ls' := [some (vr 8 0), some (vi a), some (vi (q : Int)), some (vi (q2 : Int)), some (vi c), some (vi d), some (vi (idv i))]) (st' := [vi (idv i), vi (q2 : Int), vr 8 0, vl (d - c), vl (idv i), vr 8 0]) [.inl (.aload_n 0), .inl (.iload_n 3), .inl (.iload 6)] 98 _ _ (by decide +kernel) rfl ?_
            refine aw_dV (cs' := 0) (sl' := 0) (pc' := 105) (st' := [vi (Tm xwg q2 (idv i)), vl (d - c), vl (idv i), vr 8 0]) (idx := 136) (as := [vi (q2 : Int), vi (idv i)]) (st := [vl (d - c), vl (idv i), vr 8 0]) (m_M_at (by omega) (by omega)) (by decide +kernel) (show vOK "ChanceBenchModel" 136 M_M_at 2 = true by decide +kernel) rfl rfl rfl (Nat.le_of_ble_eq_true rfl) (by decide) (by decide) (by decide) rfl rfl rfl rfl ?_
            refine aw_i2l (by decide +kernel) (by omega) ?_
            refine aw_blk (pc' := 112) (ls' := [some (vr 8 0), some (vi a), some (vi (q : Int)), some (vi (q2 : Int)), some (vi c), some (vi d), some (vi (idv i))]) (st' := [vi (q : Int), vr 8 3, vl ((d - c) * (Tm xwg q2 (idv i))), vl (idv i), vr 8 0]) [.inl (.lmul), .inl (.aload_n 0), .inr (17, 8, 4), .inl (.iload_n 2)] 106 _ _ (by decide +kernel) rfl ?_
            refine aw_iald (j := q) (by decide +kernel) rfl (by omega) (by omega) (fun r112 => ?_)
            refine aw_i2l (by decide +kernel) (by omega) ?_
            refine aw_blk (pc' := 115) (ls' := [some (vr 8 0), some (vi a), some (vi (q : Int)), some (vi (q2 : Int)), some (vi c), some (vi d), some (vi (idv i))]) (st' := [vl (((d - c) * (Tm xwg q2 (idv i))) * (xwh q)), vl (idv i), vr 8 0]) [.inl (.lmul)] 114 _ _ (by decide +kernel) rfl ?_
            refine aw_rV (cs' := 0) (sl' := 0) (pc' := 118) (idx := 120) (as := [vl (idv i), vl (((d - c) * (Tm xwg q2 (idv i))) * (xwh q))]) (st := []) (m_M_addQ hQ2 hb2 (by omega) h4n (by omega)) (by decide +kernel) (show vOK "ChanceBenchModel" 120 M_M_add 2 = true by decide +kernel) rfl rfl rfl (Nat.le_of_ble_eq_true rfl) (by decide) (by decide) (by decide) rfl rfl rfl (fun r115 h115 z115 => ?_)
            obtain ⟨rfl, md3, by3, hQ3, hb3, rfl⟩ := z115
            refine aw_blk (pc' := 121) (ls' := [some (vr 8 0), some (vi a), some (vi (q : Int)), some (vi (q2 : Int)), some (vi c), some (vi d), some (vi ((idv i) + 1))]) (st' := []) [.inl (.iinc 6 1)] 118 _ _ (by decide +kernel) rfl ?_
            refine aw_goto (o := -68) (tgt := 53) (by decide +kernel) (by decide) ?_
            rw [hnx]
            exact ih _ _ (hQ3.eq (by omega) (fun u _ => by rw [den_s, den_s]; omega)) (hb3.eq ⟨fun z => z.elim (fun z => z.elim id (fun z => by omega)) (fun z => by omega), fun z => Or.inl (Or.inl z)⟩)
        · refine aw_blk (pc' := 47) (ls' := [some (vr 8 0), some (vi a), some (vi (q : Int)), some (vi (q2 : Int)), some (vi c), some (vi d), none]) (st' := [vi 0]) [.inl (.iconst 0)] 46 _ _ (by decide +kernel) rfl ?_
          exact aw_zret (by decide +kernel) rfl (by decide) (by decide) (by omega) (hq _ _ ⟨md0, 0, Or.inl ⟨rfl, fun z => z.2.1 (by omega), rfl⟩⟩)

/-- choose, times what is drawn one by one -/
def uP (c d : Int) (w0 : Int) (k : Nat) : Nat → Int
  | 0 => w0
  | i + 1 => uP c d w0 k i * (if i < k then c else d)
theorem uP_lo {c d w0 : Int} {k : Nat} : ∀ i, i ≤ k → uP c d w0 k i = w0 * pw c i
  | 0, _ => by simp [uP, pw]
  | i + 1, h => by rw [uP, uP_lo i (by omega), if_pos (by omega), pw, Int.mul_assoc]
theorem uP_hi {c d w0 : Int} {k : Nat} : ∀ i, uP c d w0 k (k + i) = w0 * pw c k * pw d i
  | 0 => by rw [Nat.add_zero, uP_lo k (Nat.le_refl k), pw, Int.mul_one]
  | i + 1 => by rw [← Nat.add_assoc, uP, uP_hi i, if_neg (by omega), pw, Int.mul_assoc]
theorem m_M_urn (hj : j ≤ 30) (ha : I32 a) (hI : I32 c ∧ I32 d ∧ I32 e) (hB : 0 ≤ B ∧ B ≤ 1) : AMet G M_M_urn [vr 8 0, vi a, vi c, vi d, vi e, vi B] (Hp b s t mk df jo tr di (sgM th ln by9 (j : Int) ac bd pm pq tk fo f1 f2 xtp xwg xwh xmd xsl xhw xhs xhd xha xp1 xp2 xp3 xl1 xl2 xrt xlf xdc xhn xsu) dy) (fun r h => ∃ (md' : Nat → Int) (by' : Int), puM b s t mk df jo tr di dy j 0 ln by' ac bd pm pq tk fo f1 f2 xtp xwg xwh md' xsl xhw xhs xhd xha xp1 xp2 xp3 xl1 xl2 xrt xlf xdc xhn xsu a (den (fun k => (k : Int)) (uC c d e B) (e.toNat + 1)) (¬ ((0 ≤ c ∧ c ≤ 20) ∧ (0 ≤ d ∧ d ≤ 20) ∧ (1 ≤ e ∧ e ≤ 10) ∧ c + d ≠ 0 ∧ (B = 0 → e ≤ c + d)) ∨ byd (fun k => (k : Int)) (uC c d e B) (e.toNat + 1)) r h) (fun _ => False) := by
  refine am_rel (by decide +kernel) (Nat.le_of_ble_eq_true rfl) (fun Qr Qt hq => ?_)
  refine aw_blk (pc' := 1) (ls' := [some (vr 8 0), some (vi a), some (vi c), some (vi d), some (vi e), some (vi B), none, none, none, none]) (st' := [vr 8 0]) [.inl (.aload_n 0)] 0 _ _ (by decide +kernel) rfl ?_
  refine aw_rV (cs' := 0) (sl' := 0) (pc' := 4) (idx := 113) (as := []) (st := []) (m_M_begin) (by decide +kernel) (show vOK "ChanceBenchModel" 113 M_M_begin 0 = true by decide +kernel) rfl rfl rfl (Nat.le_of_ble_eq_true rfl) (by decide) (by decide) (by decide) rfl rfl rfl (fun r1 h1 z1 => ?_)
  obtain ⟨rfl, md0, hmd, rfl⟩ := z1
  have hQ0 := mdQ_0 hmd
  refine aw_blk (pc' := 5) (ls' := [some (vr 8 0), some (vi a), some (vi c), some (vi d), some (vi e), some (vi B), none, none, none, none]) (st' := [vi c]) [.inl (.iload_n 2)] 4 _ _ (by decide +kernel) rfl ?_
  refine aw_if_lt (o := 51) (tgt := 56) (by decide +kernel) (by decide) (by omega) (fun c5 => ?_) (fun c5 => ?_)
  · refine aw_blk (pc' := 57) (ls' := [some (vr 8 0), some (vi a), some (vi c), some (vi d), some (vi e), some (vi B), none, none, none, none]) (st' := [vi 0]) [.inl (.iconst 0)] 56 _ _ (by decide +kernel) rfl ?_
    exact aw_zret (by decide +kernel) rfl (by decide) (by decide) (by omega) (hq _ _ ⟨md0, 0, Or.inl ⟨rfl, fun z => z.2.1 (Or.inl (by omega)), rfl⟩⟩)
  · refine aw_blk (pc' := 11) (ls' := [some (vr 8 0), some (vi a), some (vi c), some (vi d), some (vi e), some (vi B), none, none, none, none]) (st' := [vi 20, vi c]) [.inl (.iload_n 2), .inl (.bipush 20)] 8 _ _ (by decide +kernel) rfl ?_
    refine aw_icmp_gt (o := 45) (tgt := 56) (by decide +kernel) (by decide) (by omega) (by omega) (fun c11 => ?_) (fun c11 => ?_)
    · refine aw_blk (pc' := 57) (ls' := [some (vr 8 0), some (vi a), some (vi c), some (vi d), some (vi e), some (vi B), none, none, none, none]) (st' := [vi 0]) [.inl (.iconst 0)] 56 _ _ (by decide +kernel) rfl ?_
      exact aw_zret (by decide +kernel) rfl (by decide) (by decide) (by omega) (hq _ _ ⟨md0, 0, Or.inl ⟨rfl, fun z => z.2.1 (Or.inl (by omega)), rfl⟩⟩)
    · refine aw_blk (pc' := 15) (ls' := [some (vr 8 0), some (vi a), some (vi c), some (vi d), some (vi e), some (vi B), none, none, none, none]) (st' := [vi d]) [.inl (.iload_n 3)] 14 _ _ (by decide +kernel) rfl ?_
      refine aw_if_lt (o := 41) (tgt := 56) (by decide +kernel) (by decide) (by omega) (fun c15 => ?_) (fun c15 => ?_)
      · refine aw_blk (pc' := 57) (ls' := [some (vr 8 0), some (vi a), some (vi c), some (vi d), some (vi e), some (vi B), none, none, none, none]) (st' := [vi 0]) [.inl (.iconst 0)] 56 _ _ (by decide +kernel) rfl ?_
        exact aw_zret (by decide +kernel) rfl (by decide) (by decide) (by omega) (hq _ _ ⟨md0, 0, Or.inl ⟨rfl, fun z => z.2.1 (Or.inl (by omega)), rfl⟩⟩)
      · refine aw_blk (pc' := 21) (ls' := [some (vr 8 0), some (vi a), some (vi c), some (vi d), some (vi e), some (vi B), none, none, none, none]) (st' := [vi 20, vi d]) [.inl (.iload_n 3), .inl (.bipush 20)] 18 _ _ (by decide +kernel) rfl ?_
        refine aw_icmp_gt (o := 35) (tgt := 56) (by decide +kernel) (by decide) (by omega) (by omega) (fun c21 => ?_) (fun c21 => ?_)
        · refine aw_blk (pc' := 57) (ls' := [some (vr 8 0), some (vi a), some (vi c), some (vi d), some (vi e), some (vi B), none, none, none, none]) (st' := [vi 0]) [.inl (.iconst 0)] 56 _ _ (by decide +kernel) rfl ?_
          exact aw_zret (by decide +kernel) rfl (by decide) (by decide) (by omega) (hq _ _ ⟨md0, 0, Or.inl ⟨rfl, fun z => z.2.1 (Or.inl (by omega)), rfl⟩⟩)
        · refine aw_blk (pc' := 27) (ls' := [some (vr 8 0), some (vi a), some (vi c), some (vi d), some (vi e), some (vi B), none, none, none, none]) (st' := [vi (c + d)]) [.inl (.iload_n 2), .inl (.iload_n 3), .inl (.iadd)] 24 _ _ (by decide +kernel) rfl ?_
          refine aw_if_eq (o := 29) (tgt := 56) (by decide +kernel) (by decide) (by omega) (fun c27 => ?_) (fun c27 => ?_)
          · refine aw_blk (pc' := 57) (ls' := [some (vr 8 0), some (vi a), some (vi c), some (vi d), some (vi e), some (vi B), none, none, none, none]) (st' := [vi 0]) [.inl (.iconst 0)] 56 _ _ (by decide +kernel) rfl ?_
            exact aw_zret (by decide +kernel) rfl (by decide) (by decide) (by omega) (hq _ _ ⟨md0, 0, Or.inl ⟨rfl, fun z => z.2.1 (Or.inl (by omega)), rfl⟩⟩)
          · refine aw_blk (pc' := 33) (ls' := [some (vr 8 0), some (vi a), some (vi c), some (vi d), some (vi e), some (vi B), none, none, none, none]) (st' := [vi 1, vi e]) [.inl (.iload 4), .inl (.iconst 1)] 30 _ _ (by decide +kernel) rfl ?_
            refine aw_icmp_lt (o := 23) (tgt := 56) (by decide +kernel) (by decide) (by omega) (by omega) (fun c33 => ?_) (fun c33 => ?_)
            · refine aw_blk (pc' := 57) (ls' := [some (vr 8 0), some (vi a), some (vi c), some (vi d), some (vi e), some (vi B), none, none, none, none]) (st' := [vi 0]) [.inl (.iconst 0)] 56 _ _ (by decide +kernel) rfl ?_
              exact aw_zret (by decide +kernel) rfl (by decide) (by decide) (by omega) (hq _ _ ⟨md0, 0, Or.inl ⟨rfl, fun z => z.2.1 (Or.inl (by omega)), rfl⟩⟩)
            · refine aw_blk (pc' := 40) (ls' := [some (vr 8 0), some (vi a), some (vi c), some (vi d), some (vi e), some (vi B), none, none, none, none]) (st' := [vi 10, vi e]) [.inl (.iload 4), .inl (.bipush 10)] 36 _ _ (by decide +kernel) rfl ?_
              refine aw_icmp_gt (o := 16) (tgt := 56) (by decide +kernel) (by decide) (by omega) (by omega) (fun c40 => ?_) (fun c40 => ?_)
              · refine aw_blk (pc' := 57) (ls' := [some (vr 8 0), some (vi a), some (vi c), some (vi d), some (vi e), some (vi B), none, none, none, none]) (st' := [vi 0]) [.inl (.iconst 0)] 56 _ _ (by decide +kernel) rfl ?_
                exact aw_zret (by decide +kernel) rfl (by decide) (by decide) (by omega) (hq _ _ ⟨md0, 0, Or.inl ⟨rfl, fun z => z.2.1 (Or.inl (by omega)), rfl⟩⟩)
              · refine aw_blk (pc' := 45) (ls' := [some (vr 8 0), some (vi a), some (vi c), some (vi d), some (vi e), some (vi B), none, none, none, none]) (st' := [vi B]) [.inl (.iload 5)] 43 _ _ (by decide +kernel) rfl ?_
                refine aw_if_ne (o := 13) (tgt := 58) (by decide +kernel) (by decide) (by omega) (fun c45 => ?_) (fun c45 => ?_)
                · obtain ⟨N, rfl⟩ : ∃ N : Nat, e = (N : Int) := ⟨e.toNat, by omega⟩
                  obtain ⟨c1, rfl⟩ : ∃ N : Nat, c = (N : Int) := ⟨c.toNat, by omega⟩
                  obtain ⟨d1, rfl⟩ : ∃ N : Nat, d = (N : Int) := ⟨d.toNat, by omega⟩
                  refine aw_blk (pc' := 61) (ls' := [some (vr 8 0), some (vi a), some (vi (c1 : Int)), some (vi (d1 : Int)), some (vi (N : Int)), some (vi B), some (vi 0), none, none, none]) (st' := []) [.inl (.iconst 0), .inl (.istore 6)] 58 _ _ (by decide +kernel) rfl ?_
                  refine up_to (W := fun i : Nat => ∀ (md1 : Nat → Int) (by1 : Int), mdQ ((i : Int) * 2600000000000000) (fun u => 0 + den (fun k => (k : Int)) (uC (c1 : Int) (d1 : Int) (N : Int) B) i u) md1 → byR (False ∨ byd (fun k => (k : Int)) (uC (c1 : Int) (d1 : Int) (N : Int) B) i) by1 → AW G M_M_urn Qr Qt 0 0 61 [some (vr 8 0), some (vi a), some (vi (c1 : Int)), some (vi (d1 : Int)), some (vi (N : Int)), some (vi B), some (vi (i : Int)), none, none, none] [] (Hp b s t mk df jo tr di [some (ob 8 [vi 0, vr 8 1, vi ln, vr 8 2, vr 8 3, vr 8 4, vi by1, vr 8 5, vr 8 6, vr 8 7, vr 8 8, vr 8 9, vi (j : Int), vi ac, vi bd, vr 8 10, vr 8 11, vr 8 12, vr 8 13, vr 8 14, vi pm, vl pq, vr 8 15, vr 8 16, vi tk, vr 8 17, vr 8 18, vr 8 19, vi fo, vi f1, vi f2]), some (ar 2 200 xtp), some (ar 0 32016 xwg), some (ar 0 16 xwh), some (ar 1 2001 md1), some (ar 0 30 xsl), some (ar 0 30 xhw), some (ar 0 30 xhs), some (ar 0 60030 xhd), some (ar 0 60030 xha), some (ar 0 600 xp1), some (ar 0 600 xp2), some (ar 1 600 xp3), some (ar 1 2001 xl1), some (ar 1 2001 xl2), some (ar 1 2001 xrt), some (ar 3 2001 xlf), some (ar 0 3600 xdc), some (ar 0 12 xhn), some (ar 0 4005 xsu)] dy)) (N + 1) ?_ (fun i hi ih => ?_) 0 (by omega) _ _ hQ0.z byR_0.z
                  · intro md1 by1 hQ hb
                    refine aw_blk (pc' := 65) (ls' := [some (vr 8 0), some (vi a), some (vi (c1 : Int)), some (vi (d1 : Int)), some (vi (N : Int)), some (vi B), some (vi ((N + 1 : Nat) : Int)), none, none, none]) (st' := [vi (N : Int), vi ((N + 1 : Nat) : Int)]) [.inl (.iload 6), .inl (.iload 4)] 61 _ _ (by decide +kernel) rfl ?_
                    refine aw_icmp_gt (o := 91) (tgt := 156) (by decide +kernel) (by decide) (by omega) (by omega) (fun _ => ?_) (fun c => absurd (by omega) c)
                    have hQ9 := hQ.e
                    have hb9 := hb.e (q := ¬ ((0 ≤ (c1 : Int) ∧ (c1 : Int) ≤ 20) ∧ (0 ≤ (d1 : Int) ∧ (d1 : Int) ≤ 20) ∧ (1 ≤ (N : Int) ∧ (N : Int) ≤ 10) ∧ (c1 : Int) + (d1 : Int) ≠ 0 ∧ (B = 0 → (N : Int) ≤ (c1 : Int) + (d1 : Int)))) (fun z => z ⟨by omega, by omega, by omega, by omega, fun _ => by omega⟩)
                    refine aw_blk (pc' := 158) (ls' := [some (vr 8 0), some (vi a), some (vi (c1 : Int)), some (vi (d1 : Int)), some (vi (N : Int)), some (vi B), some (vi ((N + 1 : Nat) : Int)), none, none, none]) (st' := [vi a, vr 8 0]) [.inl (.aload_n 0), .inl (.iload_n 1)] 156 _ _ (by decide +kernel) rfl ?_
                    refine aw_rV (cs' := 0) (sl' := 0) (pc' := 161) (idx := 124) (as := [vi a]) (st := []) (m_M_put hj ha hQ9.1 hQ9.2.1 (by have := hQ9.2.2; omega) hb9) (by decide +kernel) (show vOK "ChanceBenchModel" 124 M_M_put 1 = true by decide +kernel) rfl rfl rfl (Nat.le_of_ble_eq_true rfl) (by decide) (by decide) (by decide) rfl rfl rfl (fun r158 h158 z158 => ?_)
                    rcases z158 with ⟨rfl, h1, rfl⟩ | ⟨rfl, h1, h2, s1, rfl, rfl⟩
                    · exact aw_zret (by decide +kernel) rfl (by decide) (by decide) (by omega) (hq _ _ ⟨md1, by1, Or.inl ⟨rfl, h1, rfl⟩⟩)
                    · exact aw_zret (by decide +kernel) rfl (by decide) (by decide) (by omega) (hq _ _ ⟨md1, by1, Or.inr ⟨rfl, h1, h2, s1, rfl, rfl⟩⟩)
                  · intro md1 by1 hQ hb
                    have hu := uC_in (c := (c1 : Int)) (d := (d1 : Int)) (e := (N : Int)) (B := B) (k := i) (by omega) (by omega) (by omega) (by omega)
                    refine aw_blk (pc' := 65) (ls' := [some (vr 8 0), some (vi a), some (vi (c1 : Int)), some (vi (d1 : Int)), some (vi (N : Int)), some (vi B), some (vi (i : Int)), none, none, none]) (st' := [vi (N : Int), vi (i : Int)]) [.inl (.iload 6), .inl (.iload 4)] 61 _ _ (by decide +kernel) rfl ?_
                    refine aw_icmp_gt (o := 91) (tgt := 156) (by decide +kernel) (by decide) (by omega) (by omega) (fun c => absurd c (by omega)) (fun _ => ?_)
                    refine aw_blk (pc' := 70) (ls' := [some (vr 8 0), some (vi a), some (vi (c1 : Int)), some (vi (d1 : Int)), some (vi (N : Int)), some (vi B), some (vi (i : Int)), none, none, none]) (st' := [vi B]) [.inl (.iload 5)] 68 _ _ (by decide +kernel) rfl ?_
                    refine aw_if_eq (o := 13) (tgt := 83) (by decide +kernel) (by decide) (by omega) (fun c => absurd c (by omega)) (fun _ => ?_)
                    refine aw_blk (pc' := 77) (ls' := [some (vr 8 0), some (vi a), some (vi (c1 : Int)), some (vi (d1 : Int)), some (vi (N : Int)), some (vi B), some (vi (i : Int)), none, none, none]) (st' := [vi (i : Int), vi (N : Int)]) [.inl (.iload 4), .inl (.iload 6)] 73 _ _ (by decide +kernel) rfl ?_
                    refine aw_dS (cs' := 0) (sl' := 0) (pc' := 80) (st' := [vl (chs N (i : Int))]) (idx := 128) (as := [vi (N : Int), vi (i : Int)]) (st := []) (m_M_choose (n := N) (by omega) (by omega)) (by decide +kernel) (show sOK "ChanceBenchModel" 128 M_M_choose 2 = true by decide +kernel) rfl (Nat.le_of_ble_eq_true rfl) (by decide) (by decide) (by decide) rfl rfl rfl rfl ?_
                    refine aw_goto (o := 19) (tgt := 99) (by decide +kernel) (by decide) ?_
                    refine aw_blk (pc' := 104) (ls' := [some (vr 8 0), some (vi a), some (vi (c1 : Int)), some (vi (d1 : Int)), some (vi (N : Int)), some (vi B), some (vi (i : Int)), some (vl (chs N (i : Int))), none, some (vi 0)]) (st' := []) [.inl (.lstore 7), .inl (.iconst 0), .inl (.istore 9)] 99 _ _ (by decide +kernel) rfl ?_
                    refine up_to (W := fun y : Nat => AW G M_M_urn Qr Qt 0 0 104 [some (vr 8 0), some (vi a), some (vi (c1 : Int)), some (vi (d1 : Int)), some (vi (N : Int)), some (vi B), some (vi (i : Int)), some (vl (uP (c1 : Int) (d1 : Int) (chs N (i : Int)) i y)), none, some (vi (y : Int))] [] (Hp b s t mk df jo tr di [some (ob 8 [vi 0, vr 8 1, vi ln, vr 8 2, vr 8 3, vr 8 4, vi by1, vr 8 5, vr 8 6, vr 8 7, vr 8 8, vr 8 9, vi (j : Int), vi ac, vi bd, vr 8 10, vr 8 11, vr 8 12, vr 8 13, vr 8 14, vi pm, vl pq, vr 8 15, vr 8 16, vi tk, vr 8 17, vr 8 18, vr 8 19, vi fo, vi f1, vi f2]), some (ar 2 200 xtp), some (ar 0 32016 xwg), some (ar 0 16 xwh), some (ar 1 2001 md1), some (ar 0 30 xsl), some (ar 0 30 xhw), some (ar 0 30 xhs), some (ar 0 60030 xhd), some (ar 0 60030 xha), some (ar 0 600 xp1), some (ar 0 600 xp2), some (ar 1 600 xp3), some (ar 1 2001 xl1), some (ar 1 2001 xl2), some (ar 1 2001 xrt), some (ar 3 2001 xlf), some (ar 0 3600 xdc), some (ar 0 12 xhn), some (ar 0 4005 xsu)] dy)) N ?_ (fun y ht ih2 => ?_) 0 (by omega)
                    · refine aw_blk (pc' := 108) (ls' := [some (vr 8 0), some (vi a), some (vi (c1 : Int)), some (vi (d1 : Int)), some (vi (N : Int)), some (vi B), some (vi (i : Int)), some (vl (uP (c1 : Int) (d1 : Int) (chs N (i : Int)) i N)), none, some (vi (N : Int))]) (st' := [vi (N : Int), vi (N : Int)]) [.inl (.iload 9), .inl (.iload 4)] 104 _ _ (by decide +kernel) rfl ?_
                      refine aw_icmp_ge (o := 33) (tgt := 141) (by decide +kernel) (by decide) (by omega) (by omega) (fun _ => ?_) (fun c => absurd (by omega) c)
                      rw [show uP (c1 : Int) (d1 : Int) (chs N (i : Int)) i N = uC (c1 : Int) (d1 : Int) (N : Int) B i by unfold uC; rw [if_neg (by omega)]; have := uP_hi (c := (c1 : Int)) (d := (d1 : Int)) (w0 := chs N (i : Int)) (k := i) (N - i); rw [show i + (N - i) = N by omega] at this; rw [this]; rfl]
                      refine aw_blk (pc' := 144) (ls' := [some (vr 8 0), some (vi a), some (vi (c1 : Int)), some (vi (d1 : Int)), some (vi (N : Int)), some (vi B), some (vi (i : Int)), some (vl (uC (c1 : Int) (d1 : Int) (N : Int) B i)), none, some (vi (N : Int))]) (st' := [vi (i : Int), vr 8 0]) [.inl (.aload_n 0), .inl (.iload 6)] 141 _ _ (by decide +kernel) rfl ?_
                      refine aw_i2l (by decide +kernel) (by omega) ?_
                      refine aw_blk (pc' := 147) (ls' := [some (vr 8 0), some (vi a), some (vi (c1 : Int)), some (vi (d1 : Int)), some (vi (N : Int)), some (vi B), some (vi (i : Int)), some (vl (uC (c1 : Int) (d1 : Int) (N : Int) B i)), none, some (vi (N : Int))]) (st' := [vl (uC (c1 : Int) (d1 : Int) (N : Int) B i), vl (i : Int), vr 8 0]) [.inl (.lload 7)] 145 _ _ (by decide +kernel) rfl ?_
                      refine aw_rV (cs' := 0) (sl' := 0) (pc' := 150) (idx := 120) (as := [vl (i : Int), vl (uC (c1 : Int) (d1 : Int) (N : Int) B i)]) (st := []) (m_M_addQ hQ hb (by omega) hu.1 (by omega)) (by decide +kernel) (show vOK "ChanceBenchModel" 120 M_M_add 2 = true by decide +kernel) rfl rfl rfl (Nat.le_of_ble_eq_true rfl) (by decide) (by decide) (by decide) rfl rfl rfl (fun r147 h147 z147 => ?_)
                      obtain ⟨rfl, md2, by2, hQ2, hb2, rfl⟩ := z147
                      refine aw_blk (pc' := 153) (ls' := [some (vr 8 0), some (vi a), some (vi (c1 : Int)), some (vi (d1 : Int)), some (vi (N : Int)), some (vi B), some (vi ((i : Int) + 1)), some (vl (uC (c1 : Int) (d1 : Int) (N : Int) B i)), none, some (vi (N : Int))]) (st' := []) [.inl (.iinc 6 1)] 150 _ _ (by decide +kernel) rfl ?_
                      refine aw_goto (o := -92) (tgt := 61) (by decide +kernel) (by decide) ?_
                      refine aw_ls (ls' := [some (vr 8 0), some (vi a), some (vi (c1 : Int)), some (vi (d1 : Int)), some (vi (N : Int)), some (vi B), some (vi ((i : Int) + 1)), none, none, none]) (lsk_s (lsk_s (lsk_s (lsk_s (lsk_s (lsk_s (lsk_s (lsk_n (lsk_n (lsk_n lsk_0)))))))))) ?_
                      exact ih _ _ (hQ2.s (V := fun k => (k : Int)) (C := uC (c1 : Int) (d1 : Int) (N : Int) B) (by omega)) (hb2.s (V := fun k => (k : Int)) (C := uC (c1 : Int) (d1 : Int) (N : Int) B))
                    · refine aw_blk (pc' := 108) (ls' := [some (vr 8 0), some (vi a), some (vi (c1 : Int)), some (vi (d1 : Int)), some (vi (N : Int)), some (vi B), some (vi (i : Int)), some (vl (uP (c1 : Int) (d1 : Int) (chs N (i : Int)) i y)), none, some (vi (y : Int))]) (st' := [vi (N : Int), vi (y : Int)]) [.inl (.iload 9), .inl (.iload 4)] 104 _ _ (by decide +kernel) rfl ?_
                      refine aw_icmp_ge (o := 33) (tgt := 141) (by decide +kernel) (by decide) (by omega) (by omega) (fun c => absurd c (by omega)) (fun _ => ?_)
                      refine aw_blk (pc' := 113) (ls' := [some (vr 8 0), some (vi a), some (vi (c1 : Int)), some (vi (d1 : Int)), some (vi (N : Int)), some (vi B), some (vi (i : Int)), some (vl (uP (c1 : Int) (d1 : Int) (chs N (i : Int)) i y)), none, some (vi (y : Int))]) (st' := [vi B]) [.inl (.iload 5)] 111 _ _ (by decide +kernel) rfl ?_
                      refine aw_if_eq (o := 28) (tgt := 141) (by decide +kernel) (by decide) (by omega) (fun c => absurd c (by omega)) (fun _ => ?_)
                      refine aw_blk (pc' := 122) (ls' := [some (vr 8 0), some (vi a), some (vi (c1 : Int)), some (vi (d1 : Int)), some (vi (N : Int)), some (vi B), some (vi (i : Int)), some (vl (uP (c1 : Int) (d1 : Int) (chs N (i : Int)) i y)), none, some (vi (y : Int))]) (st' := [vi (i : Int), vi (y : Int), vl (uP (c1 : Int) (d1 : Int) (chs N (i : Int)) i y)]) [.inl (.lload 7), .inl (.iload 9), .inl (.iload 6)] 116 _ _ (by decide +kernel) rfl ?_
                      refine aw_icmp_ge (o := 8) (tgt := 130) (by decide +kernel) (by decide) (by omega) (by omega) (fun c122 => ?_) (fun c122 => ?_)
                      · refine aw_blk (pc' := 131) (ls' := [some (vr 8 0), some (vi a), some (vi (c1 : Int)), some (vi (d1 : Int)), some (vi (N : Int)), some (vi B), some (vi (i : Int)), some (vl (uP (c1 : Int) (d1 : Int) (chs N (i : Int)) i y)), none, some (vi (y : Int))]) (st' := [vi (d1 : Int), vl (uP (c1 : Int) (d1 : Int) (chs N (i : Int)) i y)]) [.inl (.iload_n 3)] 130 _ _ (by decide +kernel) rfl ?_
                        refine aw_i2l (by decide +kernel) (by omega) ?_
                        refine aw_blk (pc' := 138) (ls' := [some (vr 8 0), some (vi a), some (vi (c1 : Int)), some (vi (d1 : Int)), some (vi (N : Int)), some (vi B), some (vi (i : Int)), some (vl ((uP (c1 : Int) (d1 : Int) (chs N (i : Int)) i y) * (d1 : Int))), none, some (vi ((y : Int) + 1))]) (st' := []) [.inl (.lmul), .inl (.lstore 7), .inl (.iinc 9 1)] 132 _ _ (by decide +kernel) rfl ?_
                        refine aw_goto (o := -34) (tgt := 104) (by decide +kernel) (by decide) ?_
                        exact aw_eq (by rw [uP, if_neg (by omega)]; rfl) rfl rfl ih2
                      · refine aw_blk (pc' := 126) (ls' := [some (vr 8 0), some (vi a), some (vi (c1 : Int)), some (vi (d1 : Int)), some (vi (N : Int)), some (vi B), some (vi (i : Int)), some (vl (uP (c1 : Int) (d1 : Int) (chs N (i : Int)) i y)), none, some (vi (y : Int))]) (st' := [vi (c1 : Int), vl (uP (c1 : Int) (d1 : Int) (chs N (i : Int)) i y)]) [.inl (.iload_n 2)] 125 _ _ (by decide +kernel) rfl ?_
                        refine aw_i2l (by decide +kernel) (by omega) ?_
                        refine aw_goto (o := 5) (tgt := 132) (by decide +kernel) (by decide) ?_
                        refine aw_blk (pc' := 138) (ls' := [some (vr 8 0), some (vi a), some (vi (c1 : Int)), some (vi (d1 : Int)), some (vi (N : Int)), some (vi B), some (vi (i : Int)), some (vl ((uP (c1 : Int) (d1 : Int) (chs N (i : Int)) i y) * (c1 : Int))), none, some (vi ((y : Int) + 1))]) (st' := []) [.inl (.lmul), .inl (.lstore 7), .inl (.iinc 9 1)] 132 _ _ (by decide +kernel) rfl ?_
                        refine aw_goto (o := -34) (tgt := 104) (by decide +kernel) (by decide) ?_
                        exact aw_eq (by rw [uP, if_pos (by omega)]; rfl) rfl rfl ih2
                · refine aw_blk (pc' := 53) (ls' := [some (vr 8 0), some (vi a), some (vi c), some (vi d), some (vi e), some (vi B), none, none, none, none]) (st' := [vi (c + d), vi e]) [.inl (.iload 4), .inl (.iload_n 2), .inl (.iload_n 3), .inl (.iadd)] 48 _ _ (by decide +kernel) rfl ?_
                  refine aw_icmp_le (o := 5) (tgt := 58) (by decide +kernel) (by decide) (by omega) (by omega) (fun c53 => ?_) (fun c53 => ?_)
                  · obtain ⟨N, rfl⟩ : ∃ N : Nat, e = (N : Int) := ⟨e.toNat, by omega⟩
                    obtain ⟨c1, rfl⟩ : ∃ N : Nat, c = (N : Int) := ⟨c.toNat, by omega⟩
                    obtain ⟨d1, rfl⟩ : ∃ N : Nat, d = (N : Int) := ⟨d.toNat, by omega⟩
                    refine aw_blk (pc' := 61) (ls' := [some (vr 8 0), some (vi a), some (vi (c1 : Int)), some (vi (d1 : Int)), some (vi (N : Int)), some (vi B), some (vi 0), none, none, none]) (st' := []) [.inl (.iconst 0), .inl (.istore 6)] 58 _ _ (by decide +kernel) rfl ?_
                    refine up_to (W := fun i : Nat => ∀ (md1 : Nat → Int) (by1 : Int), mdQ ((i : Int) * 2600000000000000) (fun u => 0 + den (fun k => (k : Int)) (uC (c1 : Int) (d1 : Int) (N : Int) B) i u) md1 → byR (False ∨ byd (fun k => (k : Int)) (uC (c1 : Int) (d1 : Int) (N : Int) B) i) by1 → AW G M_M_urn Qr Qt 0 0 61 [some (vr 8 0), some (vi a), some (vi (c1 : Int)), some (vi (d1 : Int)), some (vi (N : Int)), some (vi B), some (vi (i : Int)), none, none, none] [] (Hp b s t mk df jo tr di [some (ob 8 [vi 0, vr 8 1, vi ln, vr 8 2, vr 8 3, vr 8 4, vi by1, vr 8 5, vr 8 6, vr 8 7, vr 8 8, vr 8 9, vi (j : Int), vi ac, vi bd, vr 8 10, vr 8 11, vr 8 12, vr 8 13, vr 8 14, vi pm, vl pq, vr 8 15, vr 8 16, vi tk, vr 8 17, vr 8 18, vr 8 19, vi fo, vi f1, vi f2]), some (ar 2 200 xtp), some (ar 0 32016 xwg), some (ar 0 16 xwh), some (ar 1 2001 md1), some (ar 0 30 xsl), some (ar 0 30 xhw), some (ar 0 30 xhs), some (ar 0 60030 xhd), some (ar 0 60030 xha), some (ar 0 600 xp1), some (ar 0 600 xp2), some (ar 1 600 xp3), some (ar 1 2001 xl1), some (ar 1 2001 xl2), some (ar 1 2001 xrt), some (ar 3 2001 xlf), some (ar 0 3600 xdc), some (ar 0 12 xhn), some (ar 0 4005 xsu)] dy)) (N + 1) ?_ (fun i hi ih => ?_) 0 (by omega) _ _ hQ0.z byR_0.z
                    · intro md1 by1 hQ hb
                      refine aw_blk (pc' := 65) (ls' := [some (vr 8 0), some (vi a), some (vi (c1 : Int)), some (vi (d1 : Int)), some (vi (N : Int)), some (vi B), some (vi ((N + 1 : Nat) : Int)), none, none, none]) (st' := [vi (N : Int), vi ((N + 1 : Nat) : Int)]) [.inl (.iload 6), .inl (.iload 4)] 61 _ _ (by decide +kernel) rfl ?_
                      refine aw_icmp_gt (o := 91) (tgt := 156) (by decide +kernel) (by decide) (by omega) (by omega) (fun _ => ?_) (fun c => absurd (by omega) c)
                      have hQ9 := hQ.e
                      have hb9 := hb.e (q := ¬ ((0 ≤ (c1 : Int) ∧ (c1 : Int) ≤ 20) ∧ (0 ≤ (d1 : Int) ∧ (d1 : Int) ≤ 20) ∧ (1 ≤ (N : Int) ∧ (N : Int) ≤ 10) ∧ (c1 : Int) + (d1 : Int) ≠ 0 ∧ (B = 0 → (N : Int) ≤ (c1 : Int) + (d1 : Int)))) (fun z => z ⟨by omega, by omega, by omega, by omega, fun _ => by omega⟩)
                      refine aw_blk (pc' := 158) (ls' := [some (vr 8 0), some (vi a), some (vi (c1 : Int)), some (vi (d1 : Int)), some (vi (N : Int)), some (vi B), some (vi ((N + 1 : Nat) : Int)), none, none, none]) (st' := [vi a, vr 8 0]) [.inl (.aload_n 0), .inl (.iload_n 1)] 156 _ _ (by decide +kernel) rfl ?_
                      refine aw_rV (cs' := 0) (sl' := 0) (pc' := 161) (idx := 124) (as := [vi a]) (st := []) (m_M_put hj ha hQ9.1 hQ9.2.1 (by have := hQ9.2.2; omega) hb9) (by decide +kernel) (show vOK "ChanceBenchModel" 124 M_M_put 1 = true by decide +kernel) rfl rfl rfl (Nat.le_of_ble_eq_true rfl) (by decide) (by decide) (by decide) rfl rfl rfl (fun r158 h158 z158 => ?_)
                      rcases z158 with ⟨rfl, h1, rfl⟩ | ⟨rfl, h1, h2, s1, rfl, rfl⟩
                      · exact aw_zret (by decide +kernel) rfl (by decide) (by decide) (by omega) (hq _ _ ⟨md1, by1, Or.inl ⟨rfl, h1, rfl⟩⟩)
                      · exact aw_zret (by decide +kernel) rfl (by decide) (by decide) (by omega) (hq _ _ ⟨md1, by1, Or.inr ⟨rfl, h1, h2, s1, rfl, rfl⟩⟩)
                    · intro md1 by1 hQ hb
                      have hu := uC_in (c := (c1 : Int)) (d := (d1 : Int)) (e := (N : Int)) (B := B) (k := i) (by omega) (by omega) (by omega) (by omega)
                      refine aw_blk (pc' := 65) (ls' := [some (vr 8 0), some (vi a), some (vi (c1 : Int)), some (vi (d1 : Int)), some (vi (N : Int)), some (vi B), some (vi (i : Int)), none, none, none]) (st' := [vi (N : Int), vi (i : Int)]) [.inl (.iload 6), .inl (.iload 4)] 61 _ _ (by decide +kernel) rfl ?_
                      refine aw_icmp_gt (o := 91) (tgt := 156) (by decide +kernel) (by decide) (by omega) (by omega) (fun c => absurd c (by omega)) (fun _ => ?_)
                      refine aw_blk (pc' := 70) (ls' := [some (vr 8 0), some (vi a), some (vi (c1 : Int)), some (vi (d1 : Int)), some (vi (N : Int)), some (vi B), some (vi (i : Int)), none, none, none]) (st' := [vi B]) [.inl (.iload 5)] 68 _ _ (by decide +kernel) rfl ?_
                      refine aw_if_eq (o := 13) (tgt := 83) (by decide +kernel) (by decide) (by omega) (fun _ => ?_) (fun c => absurd (by omega) c)
                      refine aw_blk (pc' := 86) (ls' := [some (vr 8 0), some (vi a), some (vi (c1 : Int)), some (vi (d1 : Int)), some (vi (N : Int)), some (vi B), some (vi (i : Int)), none, none, none]) (st' := [vi (i : Int), vi (c1 : Int)]) [.inl (.iload_n 2), .inl (.iload 6)] 83 _ _ (by decide +kernel) rfl ?_
                      refine aw_dS (cs' := 0) (sl' := 0) (pc' := 89) (st' := [vl (chs c1 (i : Int))]) (idx := 128) (as := [vi (c1 : Int), vi (i : Int)]) (st := []) (m_M_choose (n := c1) (by omega) (by omega)) (by decide +kernel) (show sOK "ChanceBenchModel" 128 M_M_choose 2 = true by decide +kernel) rfl (Nat.le_of_ble_eq_true rfl) (by decide) (by decide) (by decide) rfl rfl rfl rfl ?_
                      refine aw_blk (pc' := 95) (ls' := [some (vr 8 0), some (vi a), some (vi (c1 : Int)), some (vi (d1 : Int)), some (vi (N : Int)), some (vi B), some (vi (i : Int)), none, none, none]) (st' := [vi ((N : Int) - (i : Int)), vi (d1 : Int), vl (chs c1 (i : Int))]) [.inl (.iload_n 3), .inl (.iload 4), .inl (.iload 6), .inl (.isub)] 89 _ _ (by decide +kernel) rfl ?_
                      refine aw_dS (cs' := 0) (sl' := 0) (pc' := 98) (st' := [vl (chs d1 ((N : Int) - (i : Int))), vl (chs c1 (i : Int))]) (idx := 128) (as := [vi (d1 : Int), vi ((N : Int) - (i : Int))]) (st := [vl (chs c1 (i : Int))]) (m_M_choose (n := d1) (by omega) (by omega)) (by decide +kernel) (show sOK "ChanceBenchModel" 128 M_M_choose 2 = true by decide +kernel) rfl (Nat.le_of_ble_eq_true rfl) (by decide) (by decide) (by decide) rfl rfl rfl rfl ?_
                      refine aw_blk (pc' := 99) (ls' := [some (vr 8 0), some (vi a), some (vi (c1 : Int)), some (vi (d1 : Int)), some (vi (N : Int)), some (vi B), some (vi (i : Int)), none, none, none]) (st' := [vl ((chs c1 (i : Int)) * (chs d1 ((N : Int) - (i : Int))))]) [.inl (.lmul)] 98 _ _ (by decide +kernel) rfl ?_
                      rw [show chs c1 (i : Int) * chs d1 ((N : Int) - (i : Int)) = uC (c1 : Int) (d1 : Int) (N : Int) B i by unfold uC; rw [if_pos (by omega)]; rfl]
                      refine aw_blk (pc' := 108) (ls' := [some (vr 8 0), some (vi a), some (vi (c1 : Int)), some (vi (d1 : Int)), some (vi (N : Int)), some (vi B), some (vi (i : Int)), some (vl (uC (c1 : Int) (d1 : Int) (N : Int) B i)), none, some (vi 0)]) (st' := [vi (N : Int), vi 0]) [.inl (.lstore 7), .inl (.iconst 0), .inl (.istore 9), .inl (.iload 9), .inl (.iload 4)] 99 _ _ (by decide +kernel) rfl ?_
                      refine aw_icmp_ge (o := 33) (tgt := 141) (by decide +kernel) (by decide) (by omega) (by omega) (fun c => absurd c (by omega)) (fun _ => ?_)
                      refine aw_blk (pc' := 113) (ls' := [some (vr 8 0), some (vi a), some (vi (c1 : Int)), some (vi (d1 : Int)), some (vi (N : Int)), some (vi B), some (vi (i : Int)), some (vl (uC (c1 : Int) (d1 : Int) (N : Int) B i)), none, some (vi 0)]) (st' := [vi B]) [.inl (.iload 5)] 111 _ _ (by decide +kernel) rfl ?_
                      refine aw_if_eq (o := 28) (tgt := 141) (by decide +kernel) (by decide) (by omega) (fun _ => ?_) (fun c => absurd (by omega) c)
                      refine aw_blk (pc' := 144) (ls' := [some (vr 8 0), some (vi a), some (vi (c1 : Int)), some (vi (d1 : Int)), some (vi (N : Int)), some (vi B), some (vi (i : Int)), some (vl (uC (c1 : Int) (d1 : Int) (N : Int) B i)), none, some (vi 0)]) (st' := [vi (i : Int), vr 8 0]) [.inl (.aload_n 0), .inl (.iload 6)] 141 _ _ (by decide +kernel) rfl ?_
                      refine aw_i2l (by decide +kernel) (by omega) ?_
                      refine aw_blk (pc' := 147) (ls' := [some (vr 8 0), some (vi a), some (vi (c1 : Int)), some (vi (d1 : Int)), some (vi (N : Int)), some (vi B), some (vi (i : Int)), some (vl (uC (c1 : Int) (d1 : Int) (N : Int) B i)), none, some (vi 0)]) (st' := [vl (uC (c1 : Int) (d1 : Int) (N : Int) B i), vl (i : Int), vr 8 0]) [.inl (.lload 7)] 145 _ _ (by decide +kernel) rfl ?_
                      refine aw_rV (cs' := 0) (sl' := 0) (pc' := 150) (idx := 120) (as := [vl (i : Int), vl (uC (c1 : Int) (d1 : Int) (N : Int) B i)]) (st := []) (m_M_addQ hQ hb (by omega) hu.1 (by omega)) (by decide +kernel) (show vOK "ChanceBenchModel" 120 M_M_add 2 = true by decide +kernel) rfl rfl rfl (Nat.le_of_ble_eq_true rfl) (by decide) (by decide) (by decide) rfl rfl rfl (fun r147 h147 z147 => ?_)
                      obtain ⟨rfl, md2, by2, hQ2, hb2, rfl⟩ := z147
                      refine aw_blk (pc' := 153) (ls' := [some (vr 8 0), some (vi a), some (vi (c1 : Int)), some (vi (d1 : Int)), some (vi (N : Int)), some (vi B), some (vi ((i : Int) + 1)), some (vl (uC (c1 : Int) (d1 : Int) (N : Int) B i)), none, some (vi 0)]) (st' := []) [.inl (.iinc 6 1)] 150 _ _ (by decide +kernel) rfl ?_
                      refine aw_goto (o := -92) (tgt := 61) (by decide +kernel) (by decide) ?_
                      refine aw_ls (ls' := [some (vr 8 0), some (vi a), some (vi (c1 : Int)), some (vi (d1 : Int)), some (vi (N : Int)), some (vi B), some (vi ((i : Int) + 1)), none, none, none]) (lsk_s (lsk_s (lsk_s (lsk_s (lsk_s (lsk_s (lsk_s (lsk_n (lsk_n (lsk_n lsk_0)))))))))) ?_
                      exact ih _ _ (hQ2.s (V := fun k => (k : Int)) (C := uC (c1 : Int) (d1 : Int) (N : Int) B) (by omega)) (hb2.s (V := fun k => (k : Int)) (C := uC (c1 : Int) (d1 : Int) (N : Int) B))
                  · refine aw_blk (pc' := 57) (ls' := [some (vr 8 0), some (vi a), some (vi c), some (vi d), some (vi e), some (vi B), none, none, none, none]) (st' := [vi 0]) [.inl (.iconst 0)] 56 _ _ (by decide +kernel) rfl ?_
                    exact aw_zret (by decide +kernel) rfl (by decide) (by decide) (by omega) (hq _ _ ⟨md0, 0, Or.inl ⟨rfl, fun z => z.2.1 (Or.inl (by omega)), rfl⟩⟩)

end
