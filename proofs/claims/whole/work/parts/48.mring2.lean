/-- a byte of the tape, without its sign -/
def bq (xtp : Nat → Int) (j : Nat) : Nat := (xtp j % 256).toNat
theorem bq_eq (xtp : Nat → Int) (j : Nat) : xtp j % 256 = ((bq xtp j : Nat) : Int) := by unfold bq; omega
theorem bq_in (xtp : Nat → Int) (j : Nat) : bq xtp j ≤ 255 := by unfold bq; omega
theorem nx_mod {n i : Nat} (hi : i < n) : Int.tmod ((i : Int) + 1) (n : Int) = ((nx n i : Nat) : Int) := by
  have e : ((i : Int) + 1) = ((i + 1 : Nat) : Int) := by omega
  rw [e, tmod_nat]
  unfold nx
  split
  · rename_i h
    rw [Nat.mod_eq_of_lt h]
  · rename_i h
    rw [show i + 1 = n by omega, Nat.mod_self]
theorem nx_lt {n i : Nat} (hi : i < n) : nx n i < n := by unfold nx; split <;> omega
def rgm (X Y : Nat → Int) : Nat → Int × Int
  | 0 => (2, 1)
  | k + 1 => if X k * (rgm X Y k).2 < (rgm X Y k).1 * Y k then (X k, Y k) else rgm X Y k
abbrev mX (xwg xtp : Nat → Int) (n : Nat) (j : Nat) : Int := win (Tm xwg (bq xtp j)) (Tm xwg (bq xtp (nx n j)))
abbrev mY (xwh xtp : Nat → Int) (n : Nat) (j : Nat) : Int := xwh (bq xtp j) * xwh (bq xtp (nx n j))
/-- what is known of the laws -/
def lwsM (xwg xwh : Nat → Int) : Prop := (∀ q : Nat, isLw xwh (q : Int) → (∀ v, 0 ≤ Tm xwg q v ∧ Tm xwg q v ≤ 1048576) ∧ 1 ≤ xwh q ∧ xwh q ≤ 1048576) ∧ ∀ q q2 : Nat, isLw xwh (q : Int) → isLw xwh (q2 : Int) → 0 ≤ win (Tm xwg q) (Tm xwg q2) ∧ win (Tm xwg q) (Tm xwg q2) ≤ xwh q * xwh q2
theorem rgm_in {xwg xwh xtp : Nat → Int} {n : Nat} (hP : lwsM xwg xwh) (h : ∀ j, j < n → isLw xwh ((bq xtp j : Nat) : Int)) : ∀ i, i ≤ n → (0 ≤ (rgm (mX xwg xtp n) (mY xwh xtp n) i).1 ∧ (rgm (mX xwg xtp n) (mY xwh xtp n) i).1 ≤ 1099511627776) ∧ 1 ≤ (rgm (mX xwg xtp n) (mY xwh xtp n) i).2 ∧ (rgm (mX xwg xtp n) (mY xwh xtp n) i).2 ≤ 1099511627776
  | 0, _ => by simp [rgm]
  | i + 1, hi => by
    have ih := rgm_in hP h i (by omega)
    have h1 := h i (by omega)
    have h2 := h (nx n i) (nx_lt (by omega))
    have a := (hP.1 _ h1).2
    have b := (hP.1 _ h2).2
    have c := hP.2 _ _ h1 h2
    have d := mulB (x := xwh (bq xtp i)) (y := xwh (bq xtp (nx n i))) (by omega) (by omega) (by omega) (by omega)
    have e := Int.mul_le_mul a.1 b.1 (by omega) (by omega)
    simp only [rgm]
    split
    · simp only [mX, mY]; omega
    · exact ih
section
variable {G : GT} {h : HT} {b s t mk df jo tr di dy : SG} {a c d e B : Int} {n m k j i0 : Nat} {f g : Nat → Int} {th ln by9 dn ac bd pm pq tk fo f1 f2 : Int} {xtp xwg xwh xmd xsl xhw xhs xhd xha xp1 xp2 xp3 xl1 xl2 xrt xlf xdc xhn xsu : Nat → Int} {T : Int → Int} {p : Prop}
variable {q q2 : Nat}
theorem m_M_ring (hi : I32 d) (hn : n ≤ 200) (hP : lwsM xwg xwh) : AMet G M_M_ring [vr 8 0, vi d] (Hp b s t mk df jo tr di (sgM th (n : Int) by9 dn ac bd pm pq tk fo f1 f2 xtp xwg xwh xmd xsl xhw xhs xhd xha xp1 xp2 xp3 xl1 xl2 xrt xlf xdc xhn xsu) dy) (fun r h => h = Hp b s t mk df jo tr di (sgM 0 0 by9 dn ac bd pm pq tk fo f1 f2 xtp xwg xwh xmd xsl xhw xhs xhd xha xp1 xp2 xp3 xl1 xl2 xrt xlf xdc xhn xsu) dy ∧ ((((¬ (1 ≤ (n : Int) ∧ (n : Int) ≤ 16)) ∨ ¬ (0 ≤ d ∧ d ≤ 2) ∨ ∃ j, j < n ∧ ¬ isLw xwh ((bq xtp j : Nat) : Int)) ∧ r = some (vl (-1))) ∨ ((1 ≤ (n : Int) ∧ (n : Int) ≤ 16) ∧ (0 ≤ d ∧ d ≤ 2) ∧ (∀ j, j < n → isLw xwh ((bq xtp j : Nat) : Int)) ∧ r = some (vl (rgA (rgm (mX xwg xtp n) (mY xwh xtp n) n).1 (rgm (mX xwg xtp n) (mY xwh xtp n) n).2 d))))) (fun _ => False) := by
  refine am_rel (by decide +kernel) (Nat.le_of_ble_eq_true rfl) (fun Qr Qt hq => ?_)
  refine aw_blk (pc' := 2) (ls' := [some (vr 8 0), some (vi d), none, none, none, none, none, none, none, none, none, none, none, none]) (st' := [vi 0, vr 8 0]) [.inl (.aload_n 0), .inl (.iconst 0)] 0 _ _ (by decide +kernel) rfl ?_
  refine aw_put (idx := 79) (ci := 8) (k := 0) (h' := Hp b s t mk df jo tr di [some (ob 8 [vi 0, vr 8 1, vi (n : Int), vr 8 2, vr 8 3, vr 8 4, vi by9, vr 8 5, vr 8 6, vr 8 7, vr 8 8, vr 8 9, vi dn, vi ac, vi bd, vr 8 10, vr 8 11, vr 8 12, vr 8 13, vr 8 14, vi pm, vl pq, vr 8 15, vr 8 16, vi tk, vr 8 17, vr 8 18, vr 8 19, vi fo, vi f1, vi f2]), some (ar 2 200 xtp), some (ar 0 32016 xwg), some (ar 0 16 xwh), some (ar 1 2001 xmd), some (ar 0 30 xsl), some (ar 0 30 xhw), some (ar 0 30 xhs), some (ar 0 60030 xhd), some (ar 0 60030 xha), some (ar 0 600 xp1), some (ar 0 600 xp2), some (ar 1 600 xp3), some (ar 1 2001 xl1), some (ar 1 2001 xl2), some (ar 1 2001 xrt), some (ar 3 2001 xlf), some (ar 0 3600 xdc), some (ar 0 12 xhn), some (ar 0 4005 xsu)] dy) (by decide +kernel) (by decide +kernel) rfl (Nat.le_of_ble_eq_true rfl) (show I32 _ from by omega) rfl ?_
  refine aw_blk (pc' := 6) (ls' := [some (vr 8 0), some (vi d), none, none, none, none, none, none, none, none, none, none, none, none]) (st' := [vr 8 0]) [.inl (.aload_n 0)] 5 _ _ (by decide +kernel) rfl ?_
  refine aw_dV (cs' := 0) (sl' := 0) (pc' := 9) (st' := [vi (n : Int)]) (idx := 116) (as := []) (st := []) (m_M_used) (by decide +kernel) (show vOK "ChanceBenchModel" 116 M_M_used 0 = true by decide +kernel) rfl rfl rfl (Nat.le_of_ble_eq_true rfl) (by decide) (by decide) (by decide) rfl rfl rfl rfl ?_
  refine aw_blk (pc' := 12) (ls' := [some (vr 8 0), some (vi d), some (vi (n : Int)), none, none, none, none, none, none, none, none, none, none, none]) (st' := [vi 1, vi (n : Int)]) [.inl (.istore_n 2), .inl (.iload_n 2), .inl (.iconst 1)] 9 _ _ (by decide +kernel) rfl ?_
  refine aw_icmp_lt (o := 18) (tgt := 30) (by decide +kernel) (by decide) (by omega) (by omega) (fun c1 => ?_) (fun c1 => ?_)
  · refine aw_ldc2 (a := (-1)) (ix := 223) (v := (-1)) (by decide +kernel) (by decide +kernel) (by decide) ?_
    exact aw_lret (by decide +kernel) rfl (by decide) (by decide) (hq _ _ ⟨rfl, Or.inl ⟨Or.inl (by omega), rfl⟩⟩)
  · refine aw_blk (pc' := 18) (ls' := [some (vr 8 0), some (vi d), some (vi (n : Int)), none, none, none, none, none, none, none, none, none, none, none]) (st' := [vi 16, vi (n : Int)]) [.inl (.iload_n 2), .inl (.bipush 16)] 15 _ _ (by decide +kernel) rfl ?_
    refine aw_icmp_gt (o := 12) (tgt := 30) (by decide +kernel) (by decide) (by omega) (by omega) (fun c2 => ?_) (fun c2 => ?_)
    · refine aw_ldc2 (a := (-1)) (ix := 223) (v := (-1)) (by decide +kernel) (by decide +kernel) (by decide) ?_
      exact aw_lret (by decide +kernel) rfl (by decide) (by decide) (hq _ _ ⟨rfl, Or.inl ⟨Or.inl (by omega), rfl⟩⟩)
    · refine aw_blk (pc' := 22) (ls' := [some (vr 8 0), some (vi d), some (vi (n : Int)), none, none, none, none, none, none, none, none, none, none, none]) (st' := [vi d]) [.inl (.iload_n 1)] 21 _ _ (by decide +kernel) rfl ?_
      refine aw_if_lt (o := 8) (tgt := 30) (by decide +kernel) (by decide) (by omega) (fun c3 => ?_) (fun c3 => ?_)
      · refine aw_ldc2 (a := (-1)) (ix := 223) (v := (-1)) (by decide +kernel) (by decide +kernel) (by decide) ?_
        exact aw_lret (by decide +kernel) rfl (by decide) (by decide) (hq _ _ ⟨rfl, Or.inl ⟨Or.inr (Or.inl (by omega)), rfl⟩⟩)
      · refine aw_blk (pc' := 27) (ls' := [some (vr 8 0), some (vi d), some (vi (n : Int)), none, none, none, none, none, none, none, none, none, none, none]) (st' := [vi 2, vi d]) [.inl (.iload_n 1), .inl (.iconst 2)] 25 _ _ (by decide +kernel) rfl ?_
        refine aw_icmp_le (o := 7) (tgt := 34) (by decide +kernel) (by decide) (by omega) (by omega) (fun c4 => ?_) (fun c4 => ?_)
        · refine aw_blk (pc' := 36) (ls' := [some (vr 8 0), some (vi d), some (vi (n : Int)), some (vi 0), none, none, none, none, none, none, none, none, none, none]) (st' := []) [.inl (.iconst 0), .inl (.istore_n 3)] 34 _ _ (by decide +kernel) rfl ?_
          refine up_to (W := fun i : Nat => (∀ j, j < i → isLw xwh ((bq xtp j : Nat) : Int)) → AW G M_M_ring Qr Qt 0 0 36 [some (vr 8 0), some (vi d), some (vi (n : Int)), some (vi (i : Int)), none, none, none, none, none, none, none, none, none, none] [] (Hp b s t mk df jo tr di [some (ob 8 [vi 0, vr 8 1, vi 0, vr 8 2, vr 8 3, vr 8 4, vi by9, vr 8 5, vr 8 6, vr 8 7, vr 8 8, vr 8 9, vi dn, vi ac, vi bd, vr 8 10, vr 8 11, vr 8 12, vr 8 13, vr 8 14, vi pm, vl pq, vr 8 15, vr 8 16, vi tk, vr 8 17, vr 8 18, vr 8 19, vi fo, vi f1, vi f2]), some (ar 2 200 xtp), some (ar 0 32016 xwg), some (ar 0 16 xwh), some (ar 1 2001 xmd), some (ar 0 30 xsl), some (ar 0 30 xhw), some (ar 0 30 xhs), some (ar 0 60030 xhd), some (ar 0 60030 xha), some (ar 0 600 xp1), some (ar 0 600 xp2), some (ar 1 600 xp3), some (ar 1 2001 xl1), some (ar 1 2001 xl2), some (ar 1 2001 xrt), some (ar 3 2001 xlf), some (ar 0 3600 xdc), some (ar 0 12 xhn), some (ar 0 4005 xsu)] dy)) n ?_ (fun i hi9 ih => ?_) 0 (by omega) (fun j hj => by omega)
          · intro hp
            refine aw_blk (pc' := 38) (ls' := [some (vr 8 0), some (vi d), some (vi (n : Int)), some (vi (n : Int)), none, none, none, none, none, none, none, none, none, none]) (st' := [vi (n : Int), vi (n : Int)]) [.inl (.iload_n 3), .inl (.iload_n 2)] 36 _ _ (by decide +kernel) rfl ?_
            refine aw_icmp_ge (o := 30) (tgt := 68) (by decide +kernel) (by decide) (by omega) (by omega) (fun _ => ?_) (fun c => absurd (by omega) c)
            refine aw_ldc2 (a := 2) (ix := 167) (v := 2) (by decide +kernel) (by decide +kernel) (by decide) ?_
            refine aw_blk (pc' := 78) (ls' := [some (vr 8 0), some (vi d), some (vi (n : Int)), some (vl 2), none, some (vl 1), none, some (vi 0), none, none, none, none, none, none]) (st' := []) [.inl (.lstore_n 3), .inl (.lconst 1), .inl (.lstore 5), .inl (.iconst 0), .inl (.istore 7)] 71 _ _ (by decide +kernel) rfl ?_
            refine up_to (W := fun i : Nat => AW G M_M_ring Qr Qt 0 0 78 [some (vr 8 0), some (vi d), some (vi (n : Int)), some (vl ((rgm (mX xwg xtp n) (mY xwh xtp n) i).1)), none, some (vl ((rgm (mX xwg xtp n) (mY xwh xtp n) i).2)), none, some (vi (i : Int)), none, none, none, none, none, none] [] (Hp b s t mk df jo tr di [some (ob 8 [vi 0, vr 8 1, vi 0, vr 8 2, vr 8 3, vr 8 4, vi by9, vr 8 5, vr 8 6, vr 8 7, vr 8 8, vr 8 9, vi dn, vi ac, vi bd, vr 8 10, vr 8 11, vr 8 12, vr 8 13, vr 8 14, vi pm, vl pq, vr 8 15, vr 8 16, vi tk, vr 8 17, vr 8 18, vr 8 19, vi fo, vi f1, vi f2]), some (ar 2 200 xtp), some (ar 0 32016 xwg), some (ar 0 16 xwh), some (ar 1 2001 xmd), some (ar 0 30 xsl), some (ar 0 30 xhw), some (ar 0 30 xhs), some (ar 0 60030 xhd), some (ar 0 60030 xha), some (ar 0 600 xp1), some (ar 0 600 xp2), some (ar 1 600 xp3), some (ar 1 2001 xl1), some (ar 1 2001 xl2), some (ar 1 2001 xrt), some (ar 3 2001 xlf), some (ar 0 3600 xdc), some (ar 0 12 xhn), some (ar 0 4005 xsu)] dy)) n ?_ (fun i hi9 ih => ?_) 0 (by omega)
            · have hb := rgm_in hP hp n (Nat.le_refl n)
              refine aw_blk (pc' := 81) (ls' := [some (vr 8 0), some (vi d), some (vi (n : Int)), some (vl ((rgm (mX xwg xtp n) (mY xwh xtp n) n).1)), none, some (vl ((rgm (mX xwg xtp n) (mY xwh xtp n) n).2)), none, some (vi (n : Int)), none, none, none, none, none, none]) (st' := [vi (n : Int), vi (n : Int)]) [.inl (.iload 7), .inl (.iload_n 2)] 78 _ _ (by decide +kernel) rfl ?_
              refine aw_icmp_ge (o := 91) (tgt := 172) (by decide +kernel) (by decide) (by omega) (by omega) (fun _ => ?_) (fun c => absurd (by omega) c)
              refine aw_blk (pc' := 174) (ls' := [some (vr 8 0), some (vi d), some (vi (n : Int)), some (vl ((rgm (mX xwg xtp n) (mY xwh xtp n) n).1)), none, some (vl ((rgm (mX xwg xtp n) (mY xwh xtp n) n).2)), none, some (vi (n : Int)), none, none, none, none, none, none]) (st' := [vi 2, vi d]) [.inl (.iload_n 1), .inl (.iconst 2)] 172 _ _ (by decide +kernel) rfl ?_
              refine aw_icmp_ne (o := 22) (tgt := 196) (by decide +kernel) (by decide) (by omega) (by omega) (fun c5 => ?_) (fun c5 => ?_)
              · refine aw_blk (pc' := 200) (ls' := [some (vr 8 0), some (vi d), some (vi (n : Int)), some (vl ((rgm (mX xwg xtp n) (mY xwh xtp n) n).1)), none, some (vl ((rgm (mX xwg xtp n) (mY xwh xtp n) n).2)), none, some (vi (n : Int)), none, none, none, none, none, none]) (st' := [vi d, vl ((rgm (mX xwg xtp n) (mY xwh xtp n) n).2), vl ((rgm (mX xwg xtp n) (mY xwh xtp n) n).1)]) [.inl (.lload_n 3), .inl (.lload 5), .inl (.iload_n 1)] 196 _ _ (by decide +kernel) rfl ?_
                refine aw_dS (cs' := 0) (sl' := 0) (pc' := 203) (st' := [vl (prt (rgm (mX xwg xtp n) (mY xwh xtp n) n).1 (rgm (mX xwg xtp n) (mY xwh xtp n) n).2 d)]) (idx := 148) (as := [vl ((rgm (mX xwg xtp n) (mY xwh xtp n) n).1), vl ((rgm (mX xwg xtp n) (mY xwh xtp n) n).2), vi d]) (st := []) (m_M_part (by omega) (by omega) (by omega)) (by decide +kernel) (show sOK "ChanceBenchModel" 148 M_M_part 3 = true by decide +kernel) rfl (Nat.le_of_ble_eq_true rfl) (by decide) (by decide) (by decide) rfl rfl rfl rfl ?_
                exact aw_lret (by decide +kernel) rfl (by decide) (by decide) (hq _ _ ⟨rfl, Or.inr ⟨⟨by omega, by omega⟩, ⟨by omega, by omega⟩, hp, by rw [rgA, if_neg (by omega)]⟩⟩)
              · refine aw_ldc2 (a := 2) (ix := 167) (v := 2) (by decide +kernel) (by decide +kernel) (by decide) ?_
                refine aw_blk (pc' := 184) (ls' := [some (vr 8 0), some (vi d), some (vi (n : Int)), some (vl ((rgm (mX xwg xtp n) (mY xwh xtp n) n).1)), none, some (vl ((rgm (mX xwg xtp n) (mY xwh xtp n) n).2)), none, some (vi (n : Int)), none, none, none, none, none, none]) (st' := [vl ((rgm (mX xwg xtp n) (mY xwh xtp n) n).2), vl (2 * ((rgm (mX xwg xtp n) (mY xwh xtp n) n).1))]) [.inl (.lload_n 3), .inl (.lmul), .inl (.lload 5)] 180 _ _ (by decide +kernel) rfl ?_
                refine aw_lcmp (by decide +kernel) (by omega) (by omega) ?_
                refine aw_if_le (o := 7) (tgt := 192) (by decide +kernel) (by decide) (cmpI_in _ _) (fun c6 => ?_) (fun c6 => ?_)
                · rw [cmpI_le] at c6
                  refine aw_blk (pc' := 193) (ls' := [some (vr 8 0), some (vi d), some (vi (n : Int)), some (vl ((rgm (mX xwg xtp n) (mY xwh xtp n) n).1)), none, some (vl ((rgm (mX xwg xtp n) (mY xwh xtp n) n).2)), none, some (vi (n : Int)), none, none, none, none, none, none]) (st' := [vl 0]) [.inl (.lconst 0)] 192 _ _ (by decide +kernel) rfl ?_
                  refine aw_goto (o := 10) (tgt := 203) (by decide +kernel) (by decide) ?_
                  exact aw_lret (by decide +kernel) rfl (by decide) (by decide) (hq _ _ ⟨rfl, Or.inr ⟨⟨by omega, by omega⟩, ⟨by omega, by omega⟩, hp, by rw [rgA, if_pos (by omega), if_neg (by omega)]⟩⟩)
                · rw [cmpI_le] at c6
                  refine aw_blk (pc' := 189) (ls' := [some (vr 8 0), some (vi d), some (vi (n : Int)), some (vl ((rgm (mX xwg xtp n) (mY xwh xtp n) n).1)), none, some (vl ((rgm (mX xwg xtp n) (mY xwh xtp n) n).2)), none, some (vi (n : Int)), none, none, none, none, none, none]) (st' := [vl 1]) [.inl (.lconst 1)] 188 _ _ (by decide +kernel) rfl ?_
                  refine aw_goto (o := 14) (tgt := 203) (by decide +kernel) (by decide) ?_
                  exact aw_lret (by decide +kernel) rfl (by decide) (by decide) (hq _ _ ⟨rfl, Or.inr ⟨⟨by omega, by omega⟩, ⟨by omega, by omega⟩, hp, by rw [rgA, if_pos (by omega), if_pos (by omega)]⟩⟩)
            · have hb := rgm_in hP hp i (by omega)
              have hl1 := hp i hi9
              have hl2 := hp (nx n i) (nx_lt hi9)
              have a1 := hP.1 _ hl1
              have a2 := hP.1 _ hl2
              have hwn : 0 ≤ mX xwg xtp n i ∧ mX xwg xtp n i ≤ xwh (bq xtp i) * xwh (bq xtp (nx n i)) := hP.2 _ _ hl1 hl2
              have j1 := hl1.1
              have j2 := hl2.1
              have hww := mulB (x := xwh (bq xtp i)) (y := xwh (bq xtp (nx n i))) (by omega) (by omega) (by omega) (by omega)
              have hw1 := Int.mul_le_mul a1.2.1 a2.2.1 (by omega) (by omega)
              refine aw_blk (pc' := 81) (ls' := [some (vr 8 0), some (vi d), some (vi (n : Int)), some (vl ((rgm (mX xwg xtp n) (mY xwh xtp n) i).1)), none, some (vl ((rgm (mX xwg xtp n) (mY xwh xtp n) i).2)), none, some (vi (i : Int)), none, none, none, none, none, none]) (st' := [vi (n : Int), vi (i : Int)]) [.inl (.iload 7), .inl (.iload_n 2)] 78 _ _ (by decide +kernel) rfl ?_
              refine aw_icmp_ge (o := 91) (tgt := 172) (by decide +kernel) (by decide) (by omega) (by omega) (fun c => absurd c (by omega)) (fun _ => ?_)
              refine aw_blk (pc' := 90) (ls' := [some (vr 8 0), some (vi d), some (vi (n : Int)), some (vl ((rgm (mX xwg xtp n) (mY xwh xtp n) i).1)), none, some (vl ((rgm (mX xwg xtp n) (mY xwh xtp n) i).2)), none, some (vi (i : Int)), none, none, none, none, none, none]) (st' := [vi (i : Int), vr 8 1]) [.inl (.aload_n 0), .inr (7, 8, 1), .inl (.iload 7)] 84 _ _ (by decide +kernel) rfl ?_
              refine aw_bald (j := i) (by decide +kernel) rfl (by omega) (by omega) (fun r90 => ?_)
              refine aw_blk (pc' := 94) (ls' := [some (vr 8 0), some (vi d), some (vi (n : Int)), some (vl ((rgm (mX xwg xtp n) (mY xwh xtp n) i).1)), none, some (vl ((rgm (mX xwg xtp n) (mY xwh xtp n) i).2)), none, some (vi (i : Int)), none, none, none, none, none, none]) (st' := [vi 255, vi (xtp i)]) [.inl (.sipush 255)] 91 _ _ (by decide +kernel) rfl ?_
              refine aw_and (p9 := 256) 8 (by decide +kernel) (by decide) (by decide) (by decide) ?_
              rw [bq_eq]
              refine aw_blk (pc' := 106) (ls' := [some (vr 8 0), some (vi d), some (vi (n : Int)), some (vl ((rgm (mX xwg xtp n) (mY xwh xtp n) i).1)), none, some (vl ((rgm (mX xwg xtp n) (mY xwh xtp n) i).2)), none, some (vi (i : Int)), some (vi ((bq xtp i : Nat) : Int)), none, none, none, none, none]) (st' := [vi (n : Int), vi ((i : Int) + 1), vr 8 1]) [.inl (.istore 8), .inl (.aload_n 0), .inr (7, 8, 1), .inl (.iload 7), .inl (.iconst 1), .inl (.iadd), .inl (.iload_n 2)] 95 _ _ (by decide +kernel) rfl ?_
              refine aw_irem (by decide +kernel) (by omega) (by omega) (by omega) ?_
              rw [nx_mod hi9]
              refine aw_bald (j := nx n i) (by decide +kernel) rfl rfl (by have := nx_lt hi9; omega) (fun r107 => ?_)
              refine aw_blk (pc' := 111) (ls' := [some (vr 8 0), some (vi d), some (vi (n : Int)), some (vl ((rgm (mX xwg xtp n) (mY xwh xtp n) i).1)), none, some (vl ((rgm (mX xwg xtp n) (mY xwh xtp n) i).2)), none, some (vi (i : Int)), some (vi ((bq xtp i : Nat) : Int)), none, none, none, none, none]) (st' := [vi 255, vi (xtp (nx n i))]) [.inl (.sipush 255)] 108 _ _ (by decide +kernel) rfl ?_
              refine aw_and (p9 := 256) 8 (by decide +kernel) (by decide) (by decide) (by decide) ?_
              rw [bq_eq]
              refine aw_blk (pc' := 119) (ls' := [some (vr 8 0), some (vi d), some (vi (n : Int)), some (vl ((rgm (mX xwg xtp n) (mY xwh xtp n) i).1)), none, some (vl ((rgm (mX xwg xtp n) (mY xwh xtp n) i).2)), none, some (vi (i : Int)), some (vi ((bq xtp i : Nat) : Int)), some (vi ((bq xtp (nx n i) : Nat) : Int)), none, none, none, none]) (st' := [vi ((bq xtp (nx n i) : Nat) : Int), vi ((bq xtp i : Nat) : Int), vr 8 0]) [.inl (.istore 9), .inl (.aload_n 0), .inl (.iload 8), .inl (.iload 9)] 112 _ _ (by decide +kernel) rfl ?_
              refine aw_dV (cs' := 0) (sl' := 0) (pc' := 122) (st' := [vl (mX xwg xtp n i)]) (idx := 220) (as := [vi ((bq xtp i : Nat) : Int), vi ((bq xtp (nx n i) : Nat) : Int)]) (st := []) (m_M_wins (by omega) a1.1 (by omega) a2.1) (by decide +kernel) (show vOK "ChanceBenchModel" 220 M_M_wins 2 = true by decide +kernel) rfl rfl rfl (Nat.le_of_ble_eq_true rfl) (by decide) (by decide) (by decide) rfl rfl rfl rfl ?_
              refine aw_blk (pc' := 130) (ls' := [some (vr 8 0), some (vi d), some (vi (n : Int)), some (vl ((rgm (mX xwg xtp n) (mY xwh xtp n) i).1)), none, some (vl ((rgm (mX xwg xtp n) (mY xwh xtp n) i).2)), none, some (vi (i : Int)), some (vi ((bq xtp i : Nat) : Int)), some (vi ((bq xtp (nx n i) : Nat) : Int)), some (vl (mX xwg xtp n i)), none, none, none]) (st' := [vi ((bq xtp i : Nat) : Int), vr 8 3]) [.inl (.lstore 10), .inl (.aload_n 0), .inr (17, 8, 4), .inl (.iload 8)] 122 _ _ (by decide +kernel) rfl ?_
              refine aw_iald (j := bq xtp i) (by decide +kernel) rfl rfl (by omega) (fun r130 => ?_)
              refine aw_i2l (by decide +kernel) (by omega) ?_
              refine aw_blk (pc' := 138) (ls' := [some (vr 8 0), some (vi d), some (vi (n : Int)), some (vl ((rgm (mX xwg xtp n) (mY xwh xtp n) i).1)), none, some (vl ((rgm (mX xwg xtp n) (mY xwh xtp n) i).2)), none, some (vi (i : Int)), some (vi ((bq xtp i : Nat) : Int)), some (vi ((bq xtp (nx n i) : Nat) : Int)), some (vl (mX xwg xtp n i)), none, none, none]) (st' := [vi ((bq xtp (nx n i) : Nat) : Int), vr 8 3, vl (xwh (bq xtp i))]) [.inl (.aload_n 0), .inr (17, 8, 4), .inl (.iload 9)] 132 _ _ (by decide +kernel) rfl ?_
              refine aw_iald (j := bq xtp (nx n i)) (by decide +kernel) rfl rfl (by omega) (fun r138 => ?_)
              refine aw_i2l (by decide +kernel) (by omega) ?_
              refine aw_blk (pc' := 150) (ls' := [some (vr 8 0), some (vi d), some (vi (n : Int)), some (vl ((rgm (mX xwg xtp n) (mY xwh xtp n) i).1)), none, some (vl ((rgm (mX xwg xtp n) (mY xwh xtp n) i).2)), none, some (vi (i : Int)), some (vi ((bq xtp i : Nat) : Int)), some (vi ((bq xtp (nx n i) : Nat) : Int)), some (vl (mX xwg xtp n i)), none, some (vl ((xwh (bq xtp i)) * (xwh (bq xtp (nx n i))))), none]) (st' := [vl ((rgm (mX xwg xtp n) (mY xwh xtp n) i).2), vl ((rgm (mX xwg xtp n) (mY xwh xtp n) i).1), vl ((xwh (bq xtp i)) * (xwh (bq xtp (nx n i)))), vl (mX xwg xtp n i)]) [.inl (.lmul), .inl (.lstore 12), .inl (.lload 10), .inl (.lload 12), .inl (.lload_n 3), .inl (.lload 5)] 140 _ _ (by decide +kernel) rfl ?_
              refine aw_dS (cs' := 0) (sl' := 0) (pc' := 153) (st' := [vi (if mX xwg xtp n i * (rgm (mX xwg xtp n) (mY xwh xtp n) i).2 < (rgm (mX xwg xtp n) (mY xwh xtp n) i).1 * mY xwh xtp n i then 1 else 0)]) (idx := 225) (as := [vl (mX xwg xtp n i), vl ((xwh (bq xtp i)) * (xwh (bq xtp (nx n i)))), vl ((rgm (mX xwg xtp n) (mY xwh xtp n) i).1), vl ((rgm (mX xwg xtp n) (mY xwh xtp n) i).2)]) (st := []) (m_M_isLess (by omega) (by omega) (by omega) (by omega)) (by decide +kernel) (show sOK "ChanceBenchModel" 225 M_M_isLess 4 = true by decide +kernel) rfl (Nat.le_of_ble_eq_true rfl) (by decide) (by decide) (by decide) rfl rfl rfl rfl ?_
              by_cases hc : mX xwg xtp n i * (rgm (mX xwg xtp n) (mY xwh xtp n) i).2 < (rgm (mX xwg xtp n) (mY xwh xtp n) i).1 * mY xwh xtp n i
              · rw [if_pos hc]
                refine aw_if_ne (o := 6) (tgt := 159) (by decide +kernel) (by decide) (by omega) (fun _ => ?_) (fun c => absurd c (by omega))
                refine aw_blk (pc' := 169) (ls' := [some (vr 8 0), some (vi d), some (vi (n : Int)), some (vl (mX xwg xtp n i)), none, some (vl ((xwh (bq xtp i)) * (xwh (bq xtp (nx n i))))), none, some (vi ((i : Int) + 1)), some (vi ((bq xtp i : Nat) : Int)), some (vi ((bq xtp (nx n i) : Nat) : Int)), some (vl (mX xwg xtp n i)), none, some (vl ((xwh (bq xtp i)) * (xwh (bq xtp (nx n i))))), none]) (st' := []) [.inl (.lload 10), .inl (.lstore_n 3), .inl (.lload 12), .inl (.lstore 5), .inl (.iinc 7 1)] 159 _ _ (by decide +kernel) rfl ?_
                refine aw_goto (o := -91) (tgt := 78) (by decide +kernel) (by decide) ?_
                refine aw_ls (ls' := [some (vr 8 0), some (vi d), some (vi (n : Int)), some (vl (mX xwg xtp n i)), none, some (vl ((xwh (bq xtp i)) * (xwh (bq xtp (nx n i))))), none, some (vi ((i : Int) + 1)), none, none, none, none, none, none]) (lsk_s (lsk_s (lsk_s (lsk_s (lsk_n (lsk_s (lsk_n (lsk_s (lsk_n (lsk_n (lsk_n (lsk_n (lsk_n (lsk_n lsk_0)))))))))))))) ?_
                exact aw_eq (by rw [show rgm (mX xwg xtp n) (mY xwh xtp n) (i + 1) = (mX xwg xtp n i, mY xwh xtp n i) by rw [rgm, if_pos hc]]; rfl) rfl rfl ih
              · rw [if_neg hc]
                refine aw_if_ne (o := 6) (tgt := 159) (by decide +kernel) (by decide) (by omega) (fun c => absurd (by omega) c) (fun _ => ?_)
                refine aw_goto (o := 10) (tgt := 166) (by decide +kernel) (by decide) ?_
                refine aw_blk (pc' := 169) (ls' := [some (vr 8 0), some (vi d), some (vi (n : Int)), some (vl ((rgm (mX xwg xtp n) (mY xwh xtp n) i).1)), none, some (vl ((rgm (mX xwg xtp n) (mY xwh xtp n) i).2)), none, some (vi ((i : Int) + 1)), some (vi ((bq xtp i : Nat) : Int)), some (vi ((bq xtp (nx n i) : Nat) : Int)), some (vl (mX xwg xtp n i)), none, some (vl ((xwh (bq xtp i)) * (xwh (bq xtp (nx n i))))), none]) (st' := []) [.inl (.iinc 7 1)] 166 _ _ (by decide +kernel) rfl ?_
                refine aw_goto (o := -91) (tgt := 78) (by decide +kernel) (by decide) ?_
                refine aw_ls (ls' := [some (vr 8 0), some (vi d), some (vi (n : Int)), some (vl ((rgm (mX xwg xtp n) (mY xwh xtp n) i).1)), none, some (vl ((rgm (mX xwg xtp n) (mY xwh xtp n) i).2)), none, some (vi ((i : Int) + 1)), none, none, none, none, none, none]) (lsk_s (lsk_s (lsk_s (lsk_s (lsk_n (lsk_s (lsk_n (lsk_s (lsk_n (lsk_n (lsk_n (lsk_n (lsk_n (lsk_n lsk_0)))))))))))))) ?_
                exact aw_eq (by rw [show rgm (mX xwg xtp n) (mY xwh xtp n) (i + 1) = rgm (mX xwg xtp n) (mY xwh xtp n) i by rw [rgm, if_neg hc]]; rfl) rfl rfl ih
          · intro hp
            refine aw_blk (pc' := 38) (ls' := [some (vr 8 0), some (vi d), some (vi (n : Int)), some (vi (i : Int)), none, none, none, none, none, none, none, none, none, none]) (st' := [vi (n : Int), vi (i : Int)]) [.inl (.iload_n 3), .inl (.iload_n 2)] 36 _ _ (by decide +kernel) rfl ?_
            refine aw_icmp_ge (o := 30) (tgt := 68) (by decide +kernel) (by decide) (by omega) (by omega) (fun c => absurd c (by omega)) (fun _ => ?_)
            refine aw_blk (pc' := 47) (ls' := [some (vr 8 0), some (vi d), some (vi (n : Int)), some (vi (i : Int)), none, none, none, none, none, none, none, none, none, none]) (st' := [vi (i : Int), vr 8 1, vr 8 0]) [.inl (.aload_n 0), .inl (.aload_n 0), .inr (7, 8, 1), .inl (.iload_n 3)] 41 _ _ (by decide +kernel) rfl ?_
            refine aw_bald (j := i) (by decide +kernel) rfl (by omega) (by omega) (fun r47 => ?_)
            refine aw_blk (pc' := 51) (ls' := [some (vr 8 0), some (vi d), some (vi (n : Int)), some (vi (i : Int)), none, none, none, none, none, none, none, none, none, none]) (st' := [vi 255, vi (xtp i), vr 8 0]) [.inl (.sipush 255)] 48 _ _ (by decide +kernel) rfl ?_
            refine aw_and (p9 := 256) 8 (by decide +kernel) (by decide) (by decide) (by decide) ?_
            rw [bq_eq]
            have hb := bq_in xtp i
            by_cases hlw : isLw xwh ((bq xtp i : Nat) : Int)
            · refine aw_dV (cs' := 0) (sl' := 0) (pc' := 55) (st' := [vi 1]) (idx := 133) (as := [vi ((bq xtp i : Nat) : Int)]) (st := []) (m_M_isLaw_1 hlw) (by decide +kernel) (show vOK "ChanceBenchModel" 133 M_M_isLaw 1 = true by decide +kernel) rfl rfl rfl (Nat.le_of_ble_eq_true rfl) (by decide) (by decide) (by decide) rfl rfl rfl rfl ?_
              refine aw_if_ne (o := 7) (tgt := 62) (by decide +kernel) (by decide) (by omega) (fun _ => ?_) (fun c => absurd c (by omega))
              refine aw_blk (pc' := 65) (ls' := [some (vr 8 0), some (vi d), some (vi (n : Int)), some (vi ((i : Int) + 1)), none, none, none, none, none, none, none, none, none, none]) (st' := []) [.inl (.iinc 3 1)] 62 _ _ (by decide +kernel) rfl ?_
              refine aw_goto (o := -29) (tgt := 36) (by decide +kernel) (by decide) ?_
              exact ih (fun j hj => by rcases Nat.lt_or_ge j i with z | z; exact hp j z; rw [show j = i by omega]; exact hlw)
            · refine aw_dV (cs' := 0) (sl' := 0) (pc' := 55) (st' := [vi 0]) (idx := 133) (as := [vi ((bq xtp i : Nat) : Int)]) (st := []) (m_M_isLaw_0 (by omega) hlw) (by decide +kernel) (show vOK "ChanceBenchModel" 133 M_M_isLaw 1 = true by decide +kernel) rfl rfl rfl (Nat.le_of_ble_eq_true rfl) (by decide) (by decide) (by decide) rfl rfl rfl rfl ?_
              refine aw_if_ne (o := 7) (tgt := 62) (by decide +kernel) (by decide) (by omega) (fun c => absurd (by omega) c) (fun _ => ?_)
              refine aw_ldc2 (a := (-1)) (ix := 223) (v := (-1)) (by decide +kernel) (by decide +kernel) (by decide) ?_
              exact aw_lret (by decide +kernel) rfl (by decide) (by decide) (hq _ _ ⟨rfl, Or.inl ⟨Or.inr (Or.inr ⟨i, hi9, hlw⟩), rfl⟩⟩)
        · refine aw_ldc2 (a := (-1)) (ix := 223) (v := (-1)) (by decide +kernel) (by decide +kernel) (by decide) ?_
          exact aw_lret (by decide +kernel) rfl (by decide) (by decide) (hq _ _ ⟨rfl, Or.inl ⟨Or.inr (Or.inl (by omega)), rfl⟩⟩)

end
