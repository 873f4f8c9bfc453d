section
variable {G : GT} {h : HT} {b s t mk df jo tr di mo dy : SG} {a c d e B bd tk : Int} {n m k k1 k2 q q1 q2 j nn len : Nat} {f g ff gg ft at_ wt at2 wt2 : Nat → Int} {rf rr W W2 : Int} {T : Int → Int} {by_ : Prop} {laws ahead made : Nat → Option (Nat × Nat)} {slot : Nat → Int} {od dn un : Nat}
variable {L : Nat} {D Bf D0 B0 : Nat → Int} {l0 : Int}
theorem m_F_area_0 : ADet G M_F_area [vr 4 0] (Hp b s t mk (sgF 0 D Bf) jo tr di mo dy) (some (vl 0)) (Hp b s t mk (sgF 0 D Bf) jo tr di mo dy) := by
  refine am_det (by decide +kernel) (Nat.le_of_ble_eq_true rfl) (fun Qr Qt hq => ?_)
  refine aw_blk (pc' := 15) (ls' := [some (vr 4 0), some (vl 0), none, some (vl 0), none, some (vi 0)]) (st' := [vi 0, vi (0 + 1)]) [.inl (.lconst 0), .inl (.lstore_n 1), .inl (.lconst 0), .inl (.lstore_n 3), .inl (.iconst 0), .inl (.istore 5), .inl (.iload 5), .inl (.iconst 1), .inl (.iadd), .inl (.aload_n 0), .inr (19, 4, 2)] 0 _ _ (by decide +kernel) rfl ?_
  refine aw_icmp_ge (o := 45) (tgt := 60) (by decide +kernel) (by decide) (by omega) (by omega) (fun _ => ?_) (fun c => absurd (by omega) c)
  refine aw_blk (pc' := 61) (ls' := [some (vr 4 0), some (vl 0), none, some (vl 0), none, some (vi 0)]) (st' := [vl 0]) [.inl (.lload_n 1)] 60 _ _ (by decide +kernel) rfl ?_
  exact aw_lret (by decide +kernel) rfl (by decide) (by decide) (hq _ _ rfl rfl)

theorem m_F_lms_0 : ADet G M_F_leastMoreSpread [vr 4 0] (Hp b s t mk (sgF 0 D Bf) jo tr di mo dy) (some (vi 5000)) (Hp b s t mk (sgF 0 D Bf) jo tr di mo dy) := by
  refine am_det (by decide +kernel) (Nat.le_of_ble_eq_true rfl) (fun Qr Qt hq => ?_)
  refine aw_blk (pc' := 15) (ls' := [some (vr 4 0), some (vl 0), none, some (vl 0), none, some (vi 0), none, none, none]) (st' := [vi 0, vi (0 + 1)]) [.inl (.lconst 0), .inl (.lstore_n 1), .inl (.lconst 0), .inl (.lstore_n 3), .inl (.iconst 0), .inl (.istore 5), .inl (.iload 5), .inl (.iconst 1), .inl (.iadd), .inl (.aload_n 0), .inr (19, 4, 2)] 0 _ _ (by decide +kernel) rfl ?_
  refine aw_icmp_ge (o := 81) (tgt := 96) (by decide +kernel) (by decide) (by omega) (by omega) (fun _ => ?_) (fun c => absurd (by omega) c)
  refine aw_blk (pc' := 99) (ls' := [some (vr 4 0), some (vl 0), none, some (vl 0), none, some (vi 0), none, none, none]) (st' := [vi 5000]) [.inl (.sipush 5000)] 96 _ _ (by decide +kernel) rfl ?_
  exact aw_iret (by decide +kernel) rfl (by decide) (by decide) (hq _ _ rfl rfl)

theorem m_F_areaR (K : tkD n m at_ wt at2 wt2 W W2 L D Bf) : ADet G M_F_area [vr 4 0] (Hp b s t mk (sgF (L : Int) D Bf) jo tr di mo dy) (some (vl (sT (fun s => ab (cum (Ed n m at_ wt at2 wt2 W W2) s))))) (Hp b s t mk (sgF (L : Int) D Bf) jo tr di mo dy) := by
  rw [← K.area]
  rcases Nat.eq_zero_or_pos L with z | z
  · subst z; exact m_F_area_0
  · exact m_F_area ⟨z, K.1⟩ (fun k hk => by have := K.2.2.2.2.2.1 k hk; omega) K.2.2.1
theorem m_F_lmsR (K : tkD n m at_ wt at2 wt2 W W2 L D Bf) : ADet G M_F_leastMoreSpread [vr 4 0] (Hp b s t mk (sgF (L : Int) D Bf) jo tr di mo dy) (some (vi (lms D Bf (L - 1) 0))) (Hp b s t mk (sgF (L : Int) D Bf) jo tr di mo dy) := by
  rcases Nat.eq_zero_or_pos L with z | z
  · subst z; exact m_F_lms_0
  · exact m_F_leastMoreSpread ⟨z, K.1⟩ (fun k hk => by have := K.2.2.2.2.2.1 k hk; omega) K.2.2.2.2.2.2 K.2.2.1
theorem m_F_takeR (hA : isD dy k k1 k2 n at_ wt W) (hA2 : isD dy q q1 q2 m at2 wt2 W2) (A : lwN n at_ wt W) (A2 : lwN m at2 wt2 W2) : AMet G M_F_take [vr 4 0, vr 9 k, vr 9 q] (Hp b s t mk (sgF l0 D0 B0) jo tr di mo dy) (fun r h => r = none ∧ ∃ L D Bf, tkD n m at_ wt at2 wt2 W W2 L D Bf ∧ h = Hp b s t mk (sgF (L : Int) D Bf) jo tr di mo dy) (fun _ => False) :=
  am_mono (m_F_take hA hA2 A A2) (fun r h z => by obtain ⟨z1, L, D, B, z2, z3⟩ := z; exact ⟨z1, L, D, B, tk_D A A2 z2, z3⟩) (fun _ z => z)
theorem size_in (A : lwN n at_ wt W) (A2 : lwN m at2 wt2 W2) : 0 ≤ sT (fun u => ab (Ed n m at_ wt at2 wt2 W W2 u)) ∧ sT (fun u => ab (Ed n m at_ wt at2 wt2 W W2 u)) ≤ 1000000000000000000 := by
  have a1 := A.2.2.2
  have b1 := A2.2.2.2
  have h : ∀ u, inR u → 0 ≤ ab (Ed n m at_ wt at2 wt2 W W2 u) ∧ ab (Ed n m at_ wt at2 wt2 W W2 u) ≤ 1099511627776 := fun u _ => by
    refine ⟨ab_nn _, ab_le ?_⟩
    have c1 := lw_nn A u
    have c2 := lw_nn A2 u
    have d1 := den_le (f := at_) (u := u) (n := n) (g := wt) (fun i hi => by have := (A.2.2.1 i hi).2; omega)
    have d2 := den_le (f := at2) (u := u) (n := m) (g := wt2) (fun i hi => by have := (A2.2.2.1 i hi).2; omega)
    have e1 := mulB (x := W2) (y := den at_ wt n u) (by omega) (by omega) (by omega) (by omega)
    have e2 := mulB (x := W) (y := den at2 wt2 m u) (by omega) (by omega) (by omega) (by omega)
    unfold Ed; omega
  have b := sT_mono (F := fun _ => 0) (H := fun u => ab (Ed n m at_ wt at2 wt2 W W2 u)) (fun u hu => (h u hu).1)
  have c := sT_in (F := fun u => ab (Ed n m at_ wt at2 wt2 W W2 u)) (K := 1099511627776) (fun u hu => by have := h u hu; omega)
  rw [sT_0] at b
  omega
theorem area_in (A : lwN n at_ wt W) (A2 : lwN m at2 wt2 W2) : 0 ≤ sT (fun s => ab (cum (Ed n m at_ wt at2 wt2 W W2) s)) ∧ sT (fun s => ab (cum (Ed n m at_ wt at2 wt2 W W2) s)) ≤ 1000000000000000000 := by
  have b := sT_mono (F := fun _ => 0) (H := fun s => ab (cum (Ed n m at_ wt at2 wt2 W W2) s)) (fun u _ => ab_nn _)
  have c := sT_in (F := fun s => ab (cum (Ed n m at_ wt at2 wt2 W W2) s)) (K := 1099511627776) (fun u _ => by have := ab_le (Ed_in A A2 u); have := ab_nn (cum (Ed n m at_ wt at2 wt2 W W2) u); omega)
  rw [sT_0] at b
  omega
theorem m_B_apart_t (hI : I32 e) (hl1 : lawAt laws e = none) : AThr G M_B_apart [vr 0 0, vi e, vi c, vi d] (Hp (sgB bd tk) (sgS laws slot ahead made (od : Int) (dn : Int) (un : Int)) t (sgK (nn : Int) rr ff gg) df jo tr di mo dy) := by
  refine am_thr (by decide +kernel) (Nat.le_of_ble_eq_true rfl) (fun Qr Qt hq => ?_)
  refine aw_blk (pc' := 2) (ls' := [some (vr 0 0), some (vi e), some (vi c), some (vi d), none, none]) (st' := [vi e, vr 0 0]) [.inl (.aload_n 0), .inl (.iload_n 1)] 0 _ _ (by decide +kernel) rfl ?_
  exact aw_tV (idx := 143) (as := [vi e]) (st := []) (m_B_lawOf_t hI hl1) (by decide +kernel) (show vOK "ChanceBench" 143 M_B_lawOf 1 = true by decide +kernel) rfl rfl rfl (Nat.le_of_ble_eq_true rfl) (by decide) (by decide) (by decide) hq

theorem m_B_apart_t1 (hI : I32 e ∧ I32 c) (hl1 : lawAt laws e = some (9, k)) (hl2 : lawAt laws c = none) : AThr G M_B_apart [vr 0 0, vi e, vi c, vi d] (Hp (sgB bd tk) (sgS laws slot ahead made (od : Int) (dn : Int) (un : Int)) t (sgK (nn : Int) rr ff gg) df jo tr di mo dy) := by
  refine am_thr (by decide +kernel) (Nat.le_of_ble_eq_true rfl) (fun Qr Qt hq => ?_)
  refine aw_blk (pc' := 2) (ls' := [some (vr 0 0), some (vi e), some (vi c), some (vi d), none, none]) (st' := [vi e, vr 0 0]) [.inl (.aload_n 0), .inl (.iload_n 1)] 0 _ _ (by decide +kernel) rfl ?_
  refine aw_dV (cs' := 1) (sl' := 6) (pc' := 5) (st' := [vr 9 k]) (idx := 143) (as := [vi e]) (st := []) (m_B_lawOf hI.1 hl1) (by decide +kernel) (show vOK "ChanceBench" 143 M_B_lawOf 1 = true by decide +kernel) rfl rfl rfl (Nat.le_of_ble_eq_true rfl) (by decide) (by decide) (by decide) rfl rfl rfl rfl ?_
  refine aw_blk (pc' := 9) (ls' := [some (vr 0 0), some (vi e), some (vi c), some (vi d), some (vr 9 k), none]) (st' := [vi c, vr 0 0]) [.inl (.astore 4), .inl (.aload_n 0), .inl (.iload_n 2)] 5 _ _ (by decide +kernel) rfl ?_
  exact aw_tV (idx := 143) (as := [vi c]) (st := []) (m_B_lawOf_t hI.2 hl2) (by decide +kernel) (show vOK "ChanceBench" 143 M_B_lawOf 1 = true by decide +kernel) rfl rfl rfl (Nat.le_of_ble_eq_true rfl) (by decide) (by decide) (by decide) hq

theorem m_B_far_t (hI : I32 e) (hl1 : lawAt laws e = none) : AThr G M_B_far [vr 0 0, vi e, vi c, vi d] (Hp (sgB bd tk) (sgS laws slot ahead made (od : Int) (dn : Int) (un : Int)) t (sgK (nn : Int) rr ff gg) df jo tr di mo dy) := by
  refine am_thr (by decide +kernel) (Nat.le_of_ble_eq_true rfl) (fun Qr Qt hq => ?_)
  refine aw_blk (pc' := 2) (ls' := [some (vr 0 0), some (vi e), some (vi c), some (vi d), none, none]) (st' := [vi e, vr 0 0]) [.inl (.aload_n 0), .inl (.iload_n 1)] 0 _ _ (by decide +kernel) rfl ?_
  exact aw_tV (idx := 143) (as := [vi e]) (st := []) (m_B_lawOf_t hI hl1) (by decide +kernel) (show vOK "ChanceBench" 143 M_B_lawOf 1 = true by decide +kernel) rfl rfl rfl (Nat.le_of_ble_eq_true rfl) (by decide) (by decide) (by decide) hq

theorem m_B_far_t1 (hI : I32 e ∧ I32 c) (hl1 : lawAt laws e = some (9, k)) (hl2 : lawAt laws c = none) : AThr G M_B_far [vr 0 0, vi e, vi c, vi d] (Hp (sgB bd tk) (sgS laws slot ahead made (od : Int) (dn : Int) (un : Int)) t (sgK (nn : Int) rr ff gg) df jo tr di mo dy) := by
  refine am_thr (by decide +kernel) (Nat.le_of_ble_eq_true rfl) (fun Qr Qt hq => ?_)
  refine aw_blk (pc' := 2) (ls' := [some (vr 0 0), some (vi e), some (vi c), some (vi d), none, none]) (st' := [vi e, vr 0 0]) [.inl (.aload_n 0), .inl (.iload_n 1)] 0 _ _ (by decide +kernel) rfl ?_
  refine aw_dV (cs' := 1) (sl' := 6) (pc' := 5) (st' := [vr 9 k]) (idx := 143) (as := [vi e]) (st := []) (m_B_lawOf hI.1 hl1) (by decide +kernel) (show vOK "ChanceBench" 143 M_B_lawOf 1 = true by decide +kernel) rfl rfl rfl (Nat.le_of_ble_eq_true rfl) (by decide) (by decide) (by decide) rfl rfl rfl rfl ?_
  refine aw_blk (pc' := 9) (ls' := [some (vr 0 0), some (vi e), some (vi c), some (vi d), some (vr 9 k), none]) (st' := [vi c, vr 0 0]) [.inl (.astore 4), .inl (.aload_n 0), .inl (.iload_n 2)] 5 _ _ (by decide +kernel) rfl ?_
  exact aw_tV (idx := 143) (as := [vi c]) (st := []) (m_B_lawOf_t hI.2 hl2) (by decide +kernel) (show vOK "ChanceBench" 143 M_B_lawOf 1 = true by decide +kernel) rfl rfl rfl (Nat.le_of_ble_eq_true rfl) (by decide) (by decide) (by decide) hq

theorem m_B_beats_t (hI : I32 e) (hl1 : lawAt laws e = none) : AThr G M_B_beats [vr 0 0, vi e, vi c, vi d] (Hp (sgB bd tk) (sgS laws slot ahead made (od : Int) (dn : Int) (un : Int)) t (sgK (nn : Int) rr ff gg) df jo tr di mo dy) := by
  refine am_thr (by decide +kernel) (Nat.le_of_ble_eq_true rfl) (fun Qr Qt hq => ?_)
  refine aw_blk (pc' := 2) (ls' := [some (vr 0 0), some (vi e), some (vi c), some (vi d), none, none]) (st' := [vi e, vr 0 0]) [.inl (.aload_n 0), .inl (.iload_n 1)] 0 _ _ (by decide +kernel) rfl ?_
  exact aw_tV (idx := 143) (as := [vi e]) (st := []) (m_B_lawOf_t hI hl1) (by decide +kernel) (show vOK "ChanceBench" 143 M_B_lawOf 1 = true by decide +kernel) rfl rfl rfl (Nat.le_of_ble_eq_true rfl) (by decide) (by decide) (by decide) hq

theorem m_B_beats_t1 (hI : I32 e ∧ I32 c) (hl1 : lawAt laws e = some (9, k)) (hl2 : lawAt laws c = none) : AThr G M_B_beats [vr 0 0, vi e, vi c, vi d] (Hp (sgB bd tk) (sgS laws slot ahead made (od : Int) (dn : Int) (un : Int)) t (sgK (nn : Int) rr ff gg) df jo tr di mo dy) := by
  refine am_thr (by decide +kernel) (Nat.le_of_ble_eq_true rfl) (fun Qr Qt hq => ?_)
  refine aw_blk (pc' := 2) (ls' := [some (vr 0 0), some (vi e), some (vi c), some (vi d), none, none]) (st' := [vi e, vr 0 0]) [.inl (.aload_n 0), .inl (.iload_n 1)] 0 _ _ (by decide +kernel) rfl ?_
  refine aw_dV (cs' := 1) (sl' := 6) (pc' := 5) (st' := [vr 9 k]) (idx := 143) (as := [vi e]) (st := []) (m_B_lawOf hI.1 hl1) (by decide +kernel) (show vOK "ChanceBench" 143 M_B_lawOf 1 = true by decide +kernel) rfl rfl rfl (Nat.le_of_ble_eq_true rfl) (by decide) (by decide) (by decide) rfl rfl rfl rfl ?_
  refine aw_blk (pc' := 9) (ls' := [some (vr 0 0), some (vi e), some (vi c), some (vi d), some (vr 9 k), none]) (st' := [vi c, vr 0 0]) [.inl (.astore 4), .inl (.aload_n 0), .inl (.iload_n 2)] 5 _ _ (by decide +kernel) rfl ?_
  exact aw_tV (idx := 143) (as := [vi c]) (st := []) (m_B_lawOf_t hI.2 hl2) (by decide +kernel) (show vOK "ChanceBench" 143 M_B_lawOf 1 = true by decide +kernel) rfl rfl rfl (Nat.le_of_ble_eq_true rfl) (by decide) (by decide) (by decide) hq

theorem m_B_apart (hI : I32 e ∧ I32 c) (hd1 : d = 0 ∨ d = 1) (hl1 : lawAt laws e = some (9, k)) (hl2 : lawAt laws c = some (9, q)) (hA : isD dy k k1 k2 n at_ wt W) (A : lwN n at_ wt W) (hA2 : isD dy q q1 q2 m at2 wt2 W2) (A2 : lwN m at2 wt2 W2) : AMet G M_B_apart [vr 0 0, vi e, vi c, vi d] (Hp (sgB bd tk) (sgS laws slot ahead made (od : Int) (dn : Int) (un : Int)) t (sgK (nn : Int) rr ff gg) (sgF l0 D0 B0) jo tr di mo dy) (fun r h => r = some (vl (prt (sT (fun u => ab (Ed n m at_ wt at2 wt2 W W2 u))) (2 * (W * W2)) d)) ∧ ∃ (L : Nat) (D Bf : Nat → Int), h = Hp (sgB bd tk) (sgS laws slot ahead made (od : Int) (dn : Int) (un : Int)) t (sgK (nn : Int) rr ff gg) (sgF (L : Int) D Bf) jo tr di mo dy) (fun _ => False) := by
  refine am_rel (by decide +kernel) (Nat.le_of_ble_eq_true rfl) (fun Qr Qt hq => ?_)
  have a1 := A.2.2.2
  have b1 := A2.2.2.2
  have hWW := mulB (x := W) (y := W2) (by omega) (by omega) (by omega) (by omega)
  refine aw_blk (pc' := 2) (ls' := [some (vr 0 0), some (vi e), some (vi c), some (vi d), none, none]) (st' := [vi e, vr 0 0]) [.inl (.aload_n 0), .inl (.iload_n 1)] 0 _ _ (by decide +kernel) rfl ?_
  refine aw_dV (cs' := 1) (sl' := 6) (pc' := 5) (st' := [vr 9 k]) (idx := 143) (as := [vi e]) (st := []) (m_B_lawOf hI.1 hl1) (by decide +kernel) (show vOK "ChanceBench" 143 M_B_lawOf 1 = true by decide +kernel) rfl rfl rfl (Nat.le_of_ble_eq_true rfl) (by decide) (by decide) (by decide) rfl rfl rfl rfl ?_
  refine aw_blk (pc' := 9) (ls' := [some (vr 0 0), some (vi e), some (vi c), some (vi d), some (vr 9 k), none]) (st' := [vi c, vr 0 0]) [.inl (.astore 4), .inl (.aload_n 0), .inl (.iload_n 2)] 5 _ _ (by decide +kernel) rfl ?_
  refine aw_dV (cs' := 2) (sl' := 12) (pc' := 12) (st' := [vr 9 q]) (idx := 143) (as := [vi c]) (st := []) (m_B_lawOf hI.2 hl2) (by decide +kernel) (show vOK "ChanceBench" 143 M_B_lawOf 1 = true by decide +kernel) rfl rfl rfl (Nat.le_of_ble_eq_true rfl) (by decide) (by decide) (by decide) rfl rfl rfl rfl ?_
  refine aw_blk (pc' := 22) (ls' := [some (vr 0 0), some (vi e), some (vi c), some (vi d), some (vr 9 k), some (vr 9 q)]) (st' := [vr 9 q, vr 9 k, vr 4 0]) [.inl (.astore 5), .inl (.aload_n 0), .inr (33, 0, 3), .inl (.aload 4), .inl (.aload 5)] 12 _ _ (by decide +kernel) rfl ?_
  refine aw_rV (cs' := 2) (sl' := 12) (pc' := 25) (idx := 167) (as := [vr 9 k, vr 9 q]) (st := []) (m_F_takeR hA hA2 A A2) (by decide +kernel) (show vOK "ChanceBench" 167 M_F_take 2 = true by decide +kernel) rfl rfl rfl (Nat.le_of_ble_eq_true rfl) (by decide) (by decide) (by decide) rfl rfl rfl (fun r22 h22 z22 => ?_)
  obtain ⟨rfl, L, D, Bf, K, rfl⟩ := z22
  refine aw_blk (pc' := 29) (ls' := [some (vr 0 0), some (vi e), some (vi c), some (vi d), some (vr 9 k), some (vr 9 q)]) (st' := [vr 4 0]) [.inl (.aload_n 0), .inr (33, 0, 3)] 25 _ _ (by decide +kernel) rfl ?_
  refine aw_dV (cs' := 2) (sl' := 12) (pc' := 32) (st' := [vl (sumZ (fun k => ab (Bf k)) L)]) (idx := 171) (as := []) (st := []) (m_F_size K.1) (by decide +kernel) (show vOK "ChanceBench" 171 M_F_size 0 = true by decide +kernel) rfl rfl rfl (Nat.le_of_ble_eq_true rfl) (by decide) (by decide) (by decide) rfl rfl rfl rfl ?_
  rw [K.size]
  have hsz := size_in A A2
  refine aw_ldc2 (a := 2) (ix := 174) (v := 2) (by decide +kernel) (by decide +kernel) (by decide) ?_
  refine aw_blk (pc' := 39) (ls' := [some (vr 0 0), some (vi e), some (vi c), some (vi d), some (vr 9 k), some (vr 9 q)]) (st' := [vr 9 q, vr 9 k, vl 2, vl (sT (fun u => ab (Ed n m at_ wt at2 wt2 W W2 u)))]) [.inl (.aload 4), .inl (.aload 5)] 35 _ _ (by decide +kernel) rfl ?_
  refine aw_dS (cs' := 2) (sl' := 12) (pc' := 42) (st' := [vl (W * W2), vl 2, vl (sT (fun u => ab (Ed n m at_ wt at2 wt2 W W2 u)))]) (idx := 176) (as := [vr 9 k, vr 9 q]) (st := [vl 2, vl (sT (fun u => ab (Ed n m at_ wt at2 wt2 W W2 u)))]) (m_B_product hA.L hA2.L) (by decide +kernel) (show sOK "ChanceBench" 176 M_B_product 2 = true by decide +kernel) rfl (Nat.le_of_ble_eq_true rfl) (by decide) (by decide) (by decide) rfl rfl rfl rfl ?_
  refine aw_blk (pc' := 44) (ls' := [some (vr 0 0), some (vi e), some (vi c), some (vi d), some (vr 9 k), some (vr 9 q)]) (st' := [vi d, vl (2 * (W * W2)), vl (sT (fun u => ab (Ed n m at_ wt at2 wt2 W W2 u)))]) [.inl (.lmul), .inl (.iload_n 3)] 42 _ _ (by decide +kernel) rfl ?_
  refine aw_dS (cs' := 3) (sl' := 18) (pc' := 47) (st' := [vl (prt (sT (fun u => ab (Ed n m at_ wt at2 wt2 W W2 u))) (2 * (W * W2)) d)]) (idx := 152) (as := [vl (sT (fun u => ab (Ed n m at_ wt at2 wt2 W W2 u))), vl (2 * (W * W2)), vi d]) (st := []) (m_B_part (by constructor <;> omega) (by constructor <;> omega) hd1) (by decide +kernel) (show sOK "ChanceBench" 152 M_B_part 3 = true by decide +kernel) rfl (Nat.le_of_ble_eq_true rfl) (by decide) (by decide) (by decide) rfl rfl rfl rfl ?_
  exact aw_lret (by decide +kernel) rfl (by decide) (by decide) (hq _ _ ⟨rfl, L, D, Bf, rfl⟩)

theorem m_B_apart_t2 (hI : I32 e ∧ I32 c) (hi : I32 d) (hd1 : ¬ (d = 0 ∨ d = 1)) (hl1 : lawAt laws e = some (9, k)) (hl2 : lawAt laws c = some (9, q)) (hA : isD dy k k1 k2 n at_ wt W) (A : lwN n at_ wt W) (hA2 : isD dy q q1 q2 m at2 wt2 W2) (A2 : lwN m at2 wt2 W2) : AMet G M_B_apart [vr 0 0, vi e, vi c, vi d] (Hp (sgB bd tk) (sgS laws slot ahead made (od : Int) (dn : Int) (un : Int)) t (sgK (nn : Int) rr ff gg) (sgF l0 D0 B0) jo tr di mo dy) (fun _ _ => False) (fun h => ∃ (L : Nat) (D Bf : Nat → Int) (j : Nat), h = ((Hp (sgB bd tk) (sgS laws slot ahead made (od : Int) (dn : Int) (un : Int)) t (sgK (nn : Int) rr ff gg) (sgF (L : Int) D Bf) jo tr di mo dy).1 + j, junk (Hp (sgB bd tk) (sgS laws slot ahead made (od : Int) (dn : Int) (un : Int)) t (sgK (nn : Int) rr ff gg) (sgF (L : Int) D Bf) jo tr di mo dy).2 j)) := by
  refine am_entry (by decide +kernel) (Nat.le_of_ble_eq_true rfl) ?_
  have a1 := A.2.2.2
  have b1 := A2.2.2.2
  have hWW := mulB (x := W) (y := W2) (by omega) (by omega) (by omega) (by omega)
  refine aw_blk (pc' := 2) (ls' := [some (vr 0 0), some (vi e), some (vi c), some (vi d), none, none]) (st' := [vi e, vr 0 0]) [.inl (.aload_n 0), .inl (.iload_n 1)] 0 _ _ (by decide +kernel) rfl ?_
  refine aw_dV (cs' := 1) (sl' := 6) (pc' := 5) (st' := [vr 9 k]) (idx := 143) (as := [vi e]) (st := []) (m_B_lawOf hI.1 hl1) (by decide +kernel) (show vOK "ChanceBench" 143 M_B_lawOf 1 = true by decide +kernel) rfl rfl rfl (Nat.le_of_ble_eq_true rfl) (by decide) (by decide) (by decide) rfl rfl rfl rfl ?_
  refine aw_blk (pc' := 9) (ls' := [some (vr 0 0), some (vi e), some (vi c), some (vi d), some (vr 9 k), none]) (st' := [vi c, vr 0 0]) [.inl (.astore 4), .inl (.aload_n 0), .inl (.iload_n 2)] 5 _ _ (by decide +kernel) rfl ?_
  refine aw_dV (cs' := 2) (sl' := 12) (pc' := 12) (st' := [vr 9 q]) (idx := 143) (as := [vi c]) (st := []) (m_B_lawOf hI.2 hl2) (by decide +kernel) (show vOK "ChanceBench" 143 M_B_lawOf 1 = true by decide +kernel) rfl rfl rfl (Nat.le_of_ble_eq_true rfl) (by decide) (by decide) (by decide) rfl rfl rfl rfl ?_
  refine aw_blk (pc' := 22) (ls' := [some (vr 0 0), some (vi e), some (vi c), some (vi d), some (vr 9 k), some (vr 9 q)]) (st' := [vr 9 q, vr 9 k, vr 4 0]) [.inl (.astore 5), .inl (.aload_n 0), .inr (33, 0, 3), .inl (.aload 4), .inl (.aload 5)] 12 _ _ (by decide +kernel) rfl ?_
  refine aw_rV (cs' := 2) (sl' := 12) (pc' := 25) (idx := 167) (as := [vr 9 k, vr 9 q]) (st := []) (m_F_takeR hA hA2 A A2) (by decide +kernel) (show vOK "ChanceBench" 167 M_F_take 2 = true by decide +kernel) rfl rfl rfl (Nat.le_of_ble_eq_true rfl) (by decide) (by decide) (by decide) rfl rfl rfl (fun r22 h22 z22 => ?_)
  obtain ⟨rfl, L, D, Bf, K, rfl⟩ := z22
  refine aw_blk (pc' := 29) (ls' := [some (vr 0 0), some (vi e), some (vi c), some (vi d), some (vr 9 k), some (vr 9 q)]) (st' := [vr 4 0]) [.inl (.aload_n 0), .inr (33, 0, 3)] 25 _ _ (by decide +kernel) rfl ?_
  refine aw_dV (cs' := 2) (sl' := 12) (pc' := 32) (st' := [vl (sumZ (fun k => ab (Bf k)) L)]) (idx := 171) (as := []) (st := []) (m_F_size K.1) (by decide +kernel) (show vOK "ChanceBench" 171 M_F_size 0 = true by decide +kernel) rfl rfl rfl (Nat.le_of_ble_eq_true rfl) (by decide) (by decide) (by decide) rfl rfl rfl rfl ?_
  rw [K.size]
  have hsz := size_in A A2
  refine aw_ldc2 (a := 2) (ix := 174) (v := 2) (by decide +kernel) (by decide +kernel) (by decide) ?_
  refine aw_blk (pc' := 39) (ls' := [some (vr 0 0), some (vi e), some (vi c), some (vi d), some (vr 9 k), some (vr 9 q)]) (st' := [vr 9 q, vr 9 k, vl 2, vl (sT (fun u => ab (Ed n m at_ wt at2 wt2 W W2 u)))]) [.inl (.aload 4), .inl (.aload 5)] 35 _ _ (by decide +kernel) rfl ?_
  refine aw_dS (cs' := 2) (sl' := 12) (pc' := 42) (st' := [vl (W * W2), vl 2, vl (sT (fun u => ab (Ed n m at_ wt at2 wt2 W W2 u)))]) (idx := 176) (as := [vr 9 k, vr 9 q]) (st := [vl 2, vl (sT (fun u => ab (Ed n m at_ wt at2 wt2 W W2 u)))]) (m_B_product hA.L hA2.L) (by decide +kernel) (show sOK "ChanceBench" 176 M_B_product 2 = true by decide +kernel) rfl (Nat.le_of_ble_eq_true rfl) (by decide) (by decide) (by decide) rfl rfl rfl rfl ?_
  refine aw_blk (pc' := 44) (ls' := [some (vr 0 0), some (vi e), some (vi c), some (vi d), some (vr 9 k), some (vr 9 q)]) (st' := [vi d, vl (2 * (W * W2)), vl (sT (fun u => ab (Ed n m at_ wt at2 wt2 W W2 u)))]) [.inl (.lmul), .inl (.iload_n 3)] 42 _ _ (by decide +kernel) rfl ?_
  exact aw_tS (idx := 152) (as := [vl (sT (fun u => ab (Ed n m at_ wt at2 wt2 W W2 u))), vl (2 * (W * W2)), vi d]) (st := []) (m_B_part_t hi (by omega) (by omega)) (by decide +kernel) (show sOK "ChanceBench" 152 M_B_part 3 = true by decide +kernel) rfl (Nat.le_of_ble_eq_true rfl) (by decide) (by decide) (by decide) (fun j => ⟨L, D, Bf, j, rfl⟩)

theorem m_B_far (hI : I32 e ∧ I32 c) (hd1 : d = 0 ∨ d = 1) (hl1 : lawAt laws e = some (9, k)) (hl2 : lawAt laws c = some (9, q)) (hA : isD dy k k1 k2 n at_ wt W) (A : lwN n at_ wt W) (hA2 : isD dy q q1 q2 m at2 wt2 W2) (A2 : lwN m at2 wt2 W2) : AMet G M_B_far [vr 0 0, vi e, vi c, vi d] (Hp (sgB bd tk) (sgS laws slot ahead made (od : Int) (dn : Int) (un : Int)) t (sgK (nn : Int) rr ff gg) (sgF l0 D0 B0) jo tr di mo dy) (fun r h => r = some (vl (prt (sT (fun s => ab (cum (Ed n m at_ wt at2 wt2 W W2) s))) (W * W2) d)) ∧ ∃ (L : Nat) (D Bf : Nat → Int), h = Hp (sgB bd tk) (sgS laws slot ahead made (od : Int) (dn : Int) (un : Int)) t (sgK (nn : Int) rr ff gg) (sgF (L : Int) D Bf) jo tr di mo dy) (fun _ => False) := by
  refine am_rel (by decide +kernel) (Nat.le_of_ble_eq_true rfl) (fun Qr Qt hq => ?_)
  have a1 := A.2.2.2
  have b1 := A2.2.2.2
  have hWW := mulB (x := W) (y := W2) (by omega) (by omega) (by omega) (by omega)
  refine aw_blk (pc' := 2) (ls' := [some (vr 0 0), some (vi e), some (vi c), some (vi d), none, none]) (st' := [vi e, vr 0 0]) [.inl (.aload_n 0), .inl (.iload_n 1)] 0 _ _ (by decide +kernel) rfl ?_
  refine aw_dV (cs' := 1) (sl' := 6) (pc' := 5) (st' := [vr 9 k]) (idx := 143) (as := [vi e]) (st := []) (m_B_lawOf hI.1 hl1) (by decide +kernel) (show vOK "ChanceBench" 143 M_B_lawOf 1 = true by decide +kernel) rfl rfl rfl (Nat.le_of_ble_eq_true rfl) (by decide) (by decide) (by decide) rfl rfl rfl rfl ?_
  refine aw_blk (pc' := 9) (ls' := [some (vr 0 0), some (vi e), some (vi c), some (vi d), some (vr 9 k), none]) (st' := [vi c, vr 0 0]) [.inl (.astore 4), .inl (.aload_n 0), .inl (.iload_n 2)] 5 _ _ (by decide +kernel) rfl ?_
  refine aw_dV (cs' := 2) (sl' := 12) (pc' := 12) (st' := [vr 9 q]) (idx := 143) (as := [vi c]) (st := []) (m_B_lawOf hI.2 hl2) (by decide +kernel) (show vOK "ChanceBench" 143 M_B_lawOf 1 = true by decide +kernel) rfl rfl rfl (Nat.le_of_ble_eq_true rfl) (by decide) (by decide) (by decide) rfl rfl rfl rfl ?_
  refine aw_blk (pc' := 22) (ls' := [some (vr 0 0), some (vi e), some (vi c), some (vi d), some (vr 9 k), some (vr 9 q)]) (st' := [vr 9 q, vr 9 k, vr 4 0]) [.inl (.astore 5), .inl (.aload_n 0), .inr (33, 0, 3), .inl (.aload 4), .inl (.aload 5)] 12 _ _ (by decide +kernel) rfl ?_
  refine aw_rV (cs' := 2) (sl' := 12) (pc' := 25) (idx := 167) (as := [vr 9 k, vr 9 q]) (st := []) (m_F_takeR hA hA2 A A2) (by decide +kernel) (show vOK "ChanceBench" 167 M_F_take 2 = true by decide +kernel) rfl rfl rfl (Nat.le_of_ble_eq_true rfl) (by decide) (by decide) (by decide) rfl rfl rfl (fun r22 h22 z22 => ?_)
  obtain ⟨rfl, L, D, Bf, K, rfl⟩ := z22
  refine aw_blk (pc' := 29) (ls' := [some (vr 0 0), some (vi e), some (vi c), some (vi d), some (vr 9 k), some (vr 9 q)]) (st' := [vr 4 0]) [.inl (.aload_n 0), .inr (33, 0, 3)] 25 _ _ (by decide +kernel) rfl ?_
  refine aw_dV (cs' := 2) (sl' := 12) (pc' := 32) (st' := [vl (sT (fun s => ab (cum (Ed n m at_ wt at2 wt2 W W2) s)))]) (idx := 180) (as := []) (st := []) (m_F_areaR K) (by decide +kernel) (show vOK "ChanceBench" 180 M_F_area 0 = true by decide +kernel) rfl rfl rfl (Nat.le_of_ble_eq_true rfl) (by decide) (by decide) (by decide) rfl rfl rfl rfl ?_
  have hsz := area_in A A2
  refine aw_blk (pc' := 36) (ls' := [some (vr 0 0), some (vi e), some (vi c), some (vi d), some (vr 9 k), some (vr 9 q)]) (st' := [vr 9 q, vr 9 k, vl (sT (fun s => ab (cum (Ed n m at_ wt at2 wt2 W W2) s)))]) [.inl (.aload 4), .inl (.aload 5)] 32 _ _ (by decide +kernel) rfl ?_
  refine aw_dS (cs' := 2) (sl' := 12) (pc' := 39) (st' := [vl (W * W2), vl (sT (fun s => ab (cum (Ed n m at_ wt at2 wt2 W W2) s)))]) (idx := 176) (as := [vr 9 k, vr 9 q]) (st := [vl (sT (fun s => ab (cum (Ed n m at_ wt at2 wt2 W W2) s)))]) (m_B_product hA.L hA2.L) (by decide +kernel) (show sOK "ChanceBench" 176 M_B_product 2 = true by decide +kernel) rfl (Nat.le_of_ble_eq_true rfl) (by decide) (by decide) (by decide) rfl rfl rfl rfl ?_
  refine aw_blk (pc' := 40) (ls' := [some (vr 0 0), some (vi e), some (vi c), some (vi d), some (vr 9 k), some (vr 9 q)]) (st' := [vi d, vl (W * W2), vl (sT (fun s => ab (cum (Ed n m at_ wt at2 wt2 W W2) s)))]) [.inl (.iload_n 3)] 39 _ _ (by decide +kernel) rfl ?_
  refine aw_dS (cs' := 3) (sl' := 18) (pc' := 43) (st' := [vl (prt (sT (fun s => ab (cum (Ed n m at_ wt at2 wt2 W W2) s))) (W * W2) d)]) (idx := 152) (as := [vl (sT (fun s => ab (cum (Ed n m at_ wt at2 wt2 W W2) s))), vl (W * W2), vi d]) (st := []) (m_B_part (by constructor <;> omega) (by constructor <;> omega) hd1) (by decide +kernel) (show sOK "ChanceBench" 152 M_B_part 3 = true by decide +kernel) rfl (Nat.le_of_ble_eq_true rfl) (by decide) (by decide) (by decide) rfl rfl rfl rfl ?_
  exact aw_lret (by decide +kernel) rfl (by decide) (by decide) (hq _ _ ⟨rfl, L, D, Bf, rfl⟩)

theorem m_B_far_t2 (hI : I32 e ∧ I32 c) (hi : I32 d) (hd1 : ¬ (d = 0 ∨ d = 1)) (hl1 : lawAt laws e = some (9, k)) (hl2 : lawAt laws c = some (9, q)) (hA : isD dy k k1 k2 n at_ wt W) (A : lwN n at_ wt W) (hA2 : isD dy q q1 q2 m at2 wt2 W2) (A2 : lwN m at2 wt2 W2) : AMet G M_B_far [vr 0 0, vi e, vi c, vi d] (Hp (sgB bd tk) (sgS laws slot ahead made (od : Int) (dn : Int) (un : Int)) t (sgK (nn : Int) rr ff gg) (sgF l0 D0 B0) jo tr di mo dy) (fun _ _ => False) (fun h => ∃ (L : Nat) (D Bf : Nat → Int) (j : Nat), h = ((Hp (sgB bd tk) (sgS laws slot ahead made (od : Int) (dn : Int) (un : Int)) t (sgK (nn : Int) rr ff gg) (sgF (L : Int) D Bf) jo tr di mo dy).1 + j, junk (Hp (sgB bd tk) (sgS laws slot ahead made (od : Int) (dn : Int) (un : Int)) t (sgK (nn : Int) rr ff gg) (sgF (L : Int) D Bf) jo tr di mo dy).2 j)) := by
  refine am_entry (by decide +kernel) (Nat.le_of_ble_eq_true rfl) ?_
  have a1 := A.2.2.2
  have b1 := A2.2.2.2
  have hWW := mulB (x := W) (y := W2) (by omega) (by omega) (by omega) (by omega)
  refine aw_blk (pc' := 2) (ls' := [some (vr 0 0), some (vi e), some (vi c), some (vi d), none, none]) (st' := [vi e, vr 0 0]) [.inl (.aload_n 0), .inl (.iload_n 1)] 0 _ _ (by decide +kernel) rfl ?_
  refine aw_dV (cs' := 1) (sl' := 6) (pc' := 5) (st' := [vr 9 k]) (idx := 143) (as := [vi e]) (st := []) (m_B_lawOf hI.1 hl1) (by decide +kernel) (show vOK "ChanceBench" 143 M_B_lawOf 1 = true by decide +kernel) rfl rfl rfl (Nat.le_of_ble_eq_true rfl) (by decide) (by decide) (by decide) rfl rfl rfl rfl ?_
  refine aw_blk (pc' := 9) (ls' := [some (vr 0 0), some (vi e), some (vi c), some (vi d), some (vr 9 k), none]) (st' := [vi c, vr 0 0]) [.inl (.astore 4), .inl (.aload_n 0), .inl (.iload_n 2)] 5 _ _ (by decide +kernel) rfl ?_
  refine aw_dV (cs' := 2) (sl' := 12) (pc' := 12) (st' := [vr 9 q]) (idx := 143) (as := [vi c]) (st := []) (m_B_lawOf hI.2 hl2) (by decide +kernel) (show vOK "ChanceBench" 143 M_B_lawOf 1 = true by decide +kernel) rfl rfl rfl (Nat.le_of_ble_eq_true rfl) (by decide) (by decide) (by decide) rfl rfl rfl rfl ?_
  refine aw_blk (pc' := 22) (ls' := [some (vr 0 0), some (vi e), some (vi c), some (vi d), some (vr 9 k), some (vr 9 q)]) (st' := [vr 9 q, vr 9 k, vr 4 0]) [.inl (.astore 5), .inl (.aload_n 0), .inr (33, 0, 3), .inl (.aload 4), .inl (.aload 5)] 12 _ _ (by decide +kernel) rfl ?_
  refine aw_rV (cs' := 2) (sl' := 12) (pc' := 25) (idx := 167) (as := [vr 9 k, vr 9 q]) (st := []) (m_F_takeR hA hA2 A A2) (by decide +kernel) (show vOK "ChanceBench" 167 M_F_take 2 = true by decide +kernel) rfl rfl rfl (Nat.le_of_ble_eq_true rfl) (by decide) (by decide) (by decide) rfl rfl rfl (fun r22 h22 z22 => ?_)
  obtain ⟨rfl, L, D, Bf, K, rfl⟩ := z22
  refine aw_blk (pc' := 29) (ls' := [some (vr 0 0), some (vi e), some (vi c), some (vi d), some (vr 9 k), some (vr 9 q)]) (st' := [vr 4 0]) [.inl (.aload_n 0), .inr (33, 0, 3)] 25 _ _ (by decide +kernel) rfl ?_
  refine aw_dV (cs' := 2) (sl' := 12) (pc' := 32) (st' := [vl (sT (fun s => ab (cum (Ed n m at_ wt at2 wt2 W W2) s)))]) (idx := 180) (as := []) (st := []) (m_F_areaR K) (by decide +kernel) (show vOK "ChanceBench" 180 M_F_area 0 = true by decide +kernel) rfl rfl rfl (Nat.le_of_ble_eq_true rfl) (by decide) (by decide) (by decide) rfl rfl rfl rfl ?_
  have hsz := area_in A A2
  refine aw_blk (pc' := 36) (ls' := [some (vr 0 0), some (vi e), some (vi c), some (vi d), some (vr 9 k), some (vr 9 q)]) (st' := [vr 9 q, vr 9 k, vl (sT (fun s => ab (cum (Ed n m at_ wt at2 wt2 W W2) s)))]) [.inl (.aload 4), .inl (.aload 5)] 32 _ _ (by decide +kernel) rfl ?_
  refine aw_dS (cs' := 2) (sl' := 12) (pc' := 39) (st' := [vl (W * W2), vl (sT (fun s => ab (cum (Ed n m at_ wt at2 wt2 W W2) s)))]) (idx := 176) (as := [vr 9 k, vr 9 q]) (st := [vl (sT (fun s => ab (cum (Ed n m at_ wt at2 wt2 W W2) s)))]) (m_B_product hA.L hA2.L) (by decide +kernel) (show sOK "ChanceBench" 176 M_B_product 2 = true by decide +kernel) rfl (Nat.le_of_ble_eq_true rfl) (by decide) (by decide) (by decide) rfl rfl rfl rfl ?_
  refine aw_blk (pc' := 40) (ls' := [some (vr 0 0), some (vi e), some (vi c), some (vi d), some (vr 9 k), some (vr 9 q)]) (st' := [vi d, vl (W * W2), vl (sT (fun s => ab (cum (Ed n m at_ wt at2 wt2 W W2) s)))]) [.inl (.iload_n 3)] 39 _ _ (by decide +kernel) rfl ?_
  exact aw_tS (idx := 152) (as := [vl (sT (fun s => ab (cum (Ed n m at_ wt at2 wt2 W W2) s))), vl (W * W2), vi d]) (st := []) (m_B_part_t hi (by omega) (by omega)) (by decide +kernel) (show sOK "ChanceBench" 152 M_B_part 3 = true by decide +kernel) rfl (Nat.le_of_ble_eq_true rfl) (by decide) (by decide) (by decide) (fun j => ⟨L, D, Bf, j, rfl⟩)

/-- in how many of the throws of both the first is greater -/
def win (T T2 : Int → Int) : Int := sT (fun v => T v * cum T2 (v - 1))
theorem wns_T (A : lwN n at_ wt W) (A2 : lwN m at2 wt2 W2) : wns at_ wt at2 wt2 m n = win (den at_ wt n) (den at2 wt2 m) := by
  unfold win wns
  rw [tr_ (F := fun v x => x * cum (den at2 wt2 m) (v - 1)) (fun _ _ => by simp) A.2.1 (fun i hi => (A.2.2.1 i hi).1)]
  exact sumZ_ext (fun i hi => by
    rw [run_cum (p := lb at2 (at_ i) m) A2.2.1 (fun i hi => (A2.2.2.1 i hi).1) (lb_le _ _ _) (fun j hj => by have := lb_lt A2.2.1 hj; omega) (fun j a b => by have := lb_ge (f := at2) (v := at_ i) a b; omega)])
theorem win_in (A : lwN n at_ wt W) (A2 : lwN m at2 wt2 W2) : 0 ≤ win (den at_ wt n) (den at2 wt2 m) ∧ win (den at_ wt n) (den at2 wt2 m) ≤ W * W2 := by
  unfold win
  constructor
  · have b := sT_mono (F := fun _ => 0) (H := fun v => den at_ wt n v * cum (den at2 wt2 m) (v - 1)) (fun u _ => Int.mul_nonneg (lw_nn A u) (lw_cum A2 _).1)
    rw [sT_0] at b; exact b
  · have b := sT_mono (F := fun v => den at_ wt n v * cum (den at2 wt2 m) (v - 1)) (H := fun v => W2 * den at_ wt n v) (fun u _ => by
      rw [Int.mul_comm]; exact Int.mul_le_mul_of_nonneg_right (lw_cum A2 _).2 (lw_nn A u))
    rw [sT_mul, lw_tot A, Int.mul_comm] at b; exact b
theorem m_B_beats (hI : I32 e ∧ I32 c) (hd1 : d = 0 ∨ d = 1) (hl1 : lawAt laws e = some (9, k)) (hl2 : lawAt laws c = some (9, q)) (hA : isD dy k k1 k2 n at_ wt W) (A : lwN n at_ wt W) (hA2 : isD dy q q1 q2 m at2 wt2 W2) (A2 : lwN m at2 wt2 W2) : ADet G M_B_beats [vr 0 0, vi e, vi c, vi d] (Hp (sgB bd tk) (sgS laws slot ahead made (od : Int) (dn : Int) (un : Int)) t (sgK (nn : Int) rr ff gg) df jo tr di mo dy) (some (vl (prt (win (den at_ wt n) (den at2 wt2 m)) (W * W2) d))) (Hp (sgB bd tk) (sgS laws slot ahead made (od : Int) (dn : Int) (un : Int)) t (sgK (nn : Int) rr ff gg) df jo tr di mo dy) := by
  refine am_det (by decide +kernel) (Nat.le_of_ble_eq_true rfl) (fun Qr Qt hq => ?_)
  have a1 := A.2.2.2
  have b1 := A2.2.2.2
  have hWW := mulB (x := W) (y := W2) (by omega) (by omega) (by omega) (by omega)
  have hwi := win_in A A2
  refine aw_blk (pc' := 2) (ls' := [some (vr 0 0), some (vi e), some (vi c), some (vi d), none, none]) (st' := [vi e, vr 0 0]) [.inl (.aload_n 0), .inl (.iload_n 1)] 0 _ _ (by decide +kernel) rfl ?_
  refine aw_dV (cs' := 1) (sl' := 6) (pc' := 5) (st' := [vr 9 k]) (idx := 143) (as := [vi e]) (st := []) (m_B_lawOf hI.1 hl1) (by decide +kernel) (show vOK "ChanceBench" 143 M_B_lawOf 1 = true by decide +kernel) rfl rfl rfl (Nat.le_of_ble_eq_true rfl) (by decide) (by decide) (by decide) rfl rfl rfl rfl ?_
  refine aw_blk (pc' := 9) (ls' := [some (vr 0 0), some (vi e), some (vi c), some (vi d), some (vr 9 k), none]) (st' := [vi c, vr 0 0]) [.inl (.astore 4), .inl (.aload_n 0), .inl (.iload_n 2)] 5 _ _ (by decide +kernel) rfl ?_
  refine aw_dV (cs' := 2) (sl' := 12) (pc' := 12) (st' := [vr 9 q]) (idx := 143) (as := [vi c]) (st := []) (m_B_lawOf hI.2 hl2) (by decide +kernel) (show vOK "ChanceBench" 143 M_B_lawOf 1 = true by decide +kernel) rfl rfl rfl (Nat.le_of_ble_eq_true rfl) (by decide) (by decide) (by decide) rfl rfl rfl rfl ?_
  refine aw_blk (pc' := 18) (ls' := [some (vr 0 0), some (vi e), some (vi c), some (vi d), some (vr 9 k), some (vr 9 q)]) (st' := [vr 9 q, vr 9 k]) [.inl (.astore 5), .inl (.aload 4), .inl (.aload 5)] 12 _ _ (by decide +kernel) rfl ?_
  refine aw_dS (cs' := 2) (sl' := 12) (pc' := 21) (st' := [vl (wns at_ wt at2 wt2 m n)]) (idx := 246) (as := [vr 9 k, vr 9 q]) (st := []) (m_B_winsOf hA.L hA2.L A.2.1 A2.2.1) (by decide +kernel) (show sOK "ChanceBench" 246 M_B_winsOf 2 = true by decide +kernel) rfl (Nat.le_of_ble_eq_true rfl) (by decide) (by decide) (by decide) rfl rfl rfl rfl ?_
  rw [wns_T A A2]
  refine aw_blk (pc' := 25) (ls' := [some (vr 0 0), some (vi e), some (vi c), some (vi d), some (vr 9 k), some (vr 9 q)]) (st' := [vr 9 q, vr 9 k, vl (win (den at_ wt n) (den at2 wt2 m))]) [.inl (.aload 4), .inl (.aload 5)] 21 _ _ (by decide +kernel) rfl ?_
  refine aw_dS (cs' := 2) (sl' := 12) (pc' := 28) (st' := [vl (W * W2), vl (win (den at_ wt n) (den at2 wt2 m))]) (idx := 176) (as := [vr 9 k, vr 9 q]) (st := [vl (win (den at_ wt n) (den at2 wt2 m))]) (m_B_product hA.L hA2.L) (by decide +kernel) (show sOK "ChanceBench" 176 M_B_product 2 = true by decide +kernel) rfl (Nat.le_of_ble_eq_true rfl) (by decide) (by decide) (by decide) rfl rfl rfl rfl ?_
  refine aw_blk (pc' := 29) (ls' := [some (vr 0 0), some (vi e), some (vi c), some (vi d), some (vr 9 k), some (vr 9 q)]) (st' := [vi d, vl (W * W2), vl (win (den at_ wt n) (den at2 wt2 m))]) [.inl (.iload_n 3)] 28 _ _ (by decide +kernel) rfl ?_
  refine aw_dS (cs' := 3) (sl' := 18) (pc' := 32) (st' := [vl (prt (win (den at_ wt n) (den at2 wt2 m)) (W * W2) d)]) (idx := 152) (as := [vl (win (den at_ wt n) (den at2 wt2 m)), vl (W * W2), vi d]) (st := []) (m_B_part (by constructor <;> omega) (by constructor <;> omega) hd1) (by decide +kernel) (show sOK "ChanceBench" 152 M_B_part 3 = true by decide +kernel) rfl (Nat.le_of_ble_eq_true rfl) (by decide) (by decide) (by decide) rfl rfl rfl rfl ?_
  exact aw_lret (by decide +kernel) rfl (by decide) (by decide) (hq _ _ rfl rfl)

theorem m_B_beats_t2 (hI : I32 e ∧ I32 c) (hi : I32 d) (hd1 : ¬ (d = 0 ∨ d = 1)) (hl1 : lawAt laws e = some (9, k)) (hl2 : lawAt laws c = some (9, q)) (hA : isD dy k k1 k2 n at_ wt W) (A : lwN n at_ wt W) (hA2 : isD dy q q1 q2 m at2 wt2 W2) (A2 : lwN m at2 wt2 W2) : AThr G M_B_beats [vr 0 0, vi e, vi c, vi d] (Hp (sgB bd tk) (sgS laws slot ahead made (od : Int) (dn : Int) (un : Int)) t (sgK (nn : Int) rr ff gg) df jo tr di mo dy) := by
  refine am_thr (by decide +kernel) (Nat.le_of_ble_eq_true rfl) (fun Qr Qt hq => ?_)
  have a1 := A.2.2.2
  have b1 := A2.2.2.2
  have hWW := mulB (x := W) (y := W2) (by omega) (by omega) (by omega) (by omega)
  have hwi := win_in A A2
  refine aw_blk (pc' := 2) (ls' := [some (vr 0 0), some (vi e), some (vi c), some (vi d), none, none]) (st' := [vi e, vr 0 0]) [.inl (.aload_n 0), .inl (.iload_n 1)] 0 _ _ (by decide +kernel) rfl ?_
  refine aw_dV (cs' := 1) (sl' := 6) (pc' := 5) (st' := [vr 9 k]) (idx := 143) (as := [vi e]) (st := []) (m_B_lawOf hI.1 hl1) (by decide +kernel) (show vOK "ChanceBench" 143 M_B_lawOf 1 = true by decide +kernel) rfl rfl rfl (Nat.le_of_ble_eq_true rfl) (by decide) (by decide) (by decide) rfl rfl rfl rfl ?_
  refine aw_blk (pc' := 9) (ls' := [some (vr 0 0), some (vi e), some (vi c), some (vi d), some (vr 9 k), none]) (st' := [vi c, vr 0 0]) [.inl (.astore 4), .inl (.aload_n 0), .inl (.iload_n 2)] 5 _ _ (by decide +kernel) rfl ?_
  refine aw_dV (cs' := 2) (sl' := 12) (pc' := 12) (st' := [vr 9 q]) (idx := 143) (as := [vi c]) (st := []) (m_B_lawOf hI.2 hl2) (by decide +kernel) (show vOK "ChanceBench" 143 M_B_lawOf 1 = true by decide +kernel) rfl rfl rfl (Nat.le_of_ble_eq_true rfl) (by decide) (by decide) (by decide) rfl rfl rfl rfl ?_
  refine aw_blk (pc' := 18) (ls' := [some (vr 0 0), some (vi e), some (vi c), some (vi d), some (vr 9 k), some (vr 9 q)]) (st' := [vr 9 q, vr 9 k]) [.inl (.astore 5), .inl (.aload 4), .inl (.aload 5)] 12 _ _ (by decide +kernel) rfl ?_
  refine aw_dS (cs' := 2) (sl' := 12) (pc' := 21) (st' := [vl (wns at_ wt at2 wt2 m n)]) (idx := 246) (as := [vr 9 k, vr 9 q]) (st := []) (m_B_winsOf hA.L hA2.L A.2.1 A2.2.1) (by decide +kernel) (show sOK "ChanceBench" 246 M_B_winsOf 2 = true by decide +kernel) rfl (Nat.le_of_ble_eq_true rfl) (by decide) (by decide) (by decide) rfl rfl rfl rfl ?_
  rw [wns_T A A2]
  refine aw_blk (pc' := 25) (ls' := [some (vr 0 0), some (vi e), some (vi c), some (vi d), some (vr 9 k), some (vr 9 q)]) (st' := [vr 9 q, vr 9 k, vl (win (den at_ wt n) (den at2 wt2 m))]) [.inl (.aload 4), .inl (.aload 5)] 21 _ _ (by decide +kernel) rfl ?_
  refine aw_dS (cs' := 2) (sl' := 12) (pc' := 28) (st' := [vl (W * W2), vl (win (den at_ wt n) (den at2 wt2 m))]) (idx := 176) (as := [vr 9 k, vr 9 q]) (st := [vl (win (den at_ wt n) (den at2 wt2 m))]) (m_B_product hA.L hA2.L) (by decide +kernel) (show sOK "ChanceBench" 176 M_B_product 2 = true by decide +kernel) rfl (Nat.le_of_ble_eq_true rfl) (by decide) (by decide) (by decide) rfl rfl rfl rfl ?_
  refine aw_blk (pc' := 29) (ls' := [some (vr 0 0), some (vi e), some (vi c), some (vi d), some (vr 9 k), some (vr 9 q)]) (st' := [vi d, vl (W * W2), vl (win (den at_ wt n) (den at2 wt2 m))]) [.inl (.iload_n 3)] 28 _ _ (by decide +kernel) rfl ?_
  exact aw_tS (idx := 152) (as := [vl (win (den at_ wt n) (den at2 wt2 m)), vl (W * W2), vi d]) (st := []) (m_B_part_t hi (by omega) (by omega)) (by decide +kernel) (show sOK "ChanceBench" 152 M_B_part 3 = true by decide +kernel) rfl (Nat.le_of_ble_eq_true rfl) (by decide) (by decide) (by decide) hq

theorem m_B_above_0 (hI : I32 e ∧ I32 c) (hl1 : lawAt laws e = none) : ADet G M_B_above [vr 0 0, vi e, vi c] (Hp (sgB bd tk) (sgS laws slot ahead made (od : Int) (dn : Int) (un : Int)) t (sgK (nn : Int) rr ff gg) df jo tr di mo dy) (some (vi (-1))) (Hp (sgB bd tk) (sgS laws slot ahead made (od : Int) (dn : Int) (un : Int)) t (sgK (nn : Int) rr ff gg) df jo tr di mo dy) := by
  refine am_det (by decide +kernel) (Nat.le_of_ble_eq_true rfl) (fun Qr Qt hq => ?_)
  refine aw_blk (pc' := 5) (ls' := [some (vr 0 0), some (vi e), some (vi c), none, none]) (st' := [vi e, vr 1 0]) [.inl (.aload_n 0), .inr (10, 0, 0), .inl (.iload_n 1)] 0 _ _ (by decide +kernel) rfl ?_
  refine aw_dV (cs' := 0) (sl' := 0) (pc' := 8) (st' := [vo (lawAt laws e)]) (idx := 117) (as := [vi e]) (st := []) (m_S_lawIn hI.1) (by decide +kernel) (show vOK "ChanceBench" 117 M_S_lawIn 1 = true by decide +kernel) rfl rfl rfl (Nat.le_of_ble_eq_true rfl) (by decide) (by decide) (by decide) rfl rfl rfl rfl ?_
  rw [hl1]
  refine aw_blk (pc' := 14) (ls' := [some (vr 0 0), some (vi e), some (vi c), some (vn), none]) (st' := [vi c, vr 1 0]) [.inl (.astore_n 3), .inl (.aload_n 0), .inr (10, 0, 0), .inl (.iload_n 2)] 8 _ _ (by decide +kernel) rfl ?_
  refine aw_dV (cs' := 0) (sl' := 0) (pc' := 17) (st' := [vo (lawAt laws c)]) (idx := 117) (as := [vi c]) (st := []) (m_S_lawIn hI.2) (by decide +kernel) (show vOK "ChanceBench" 117 M_S_lawIn 1 = true by decide +kernel) rfl rfl rfl (Nat.le_of_ble_eq_true rfl) (by decide) (by decide) (by decide) rfl rfl rfl rfl ?_
  refine aw_blk (pc' := 20) (ls' := [some (vr 0 0), some (vi e), some (vi c), some (vn), some (vo (lawAt laws c))]) (st' := [vn]) [.inl (.astore 4), .inl (.aload_n 3)] 17 _ _ (by decide +kernel) rfl ?_
  refine aw_ifnull (o := 8) (tgt := 28) (by decide +kernel) (by decide) (fun _ => ?_) (fun _ z => nomatch z)
  refine aw_blk (pc' := 29) (ls' := [some (vr 0 0), some (vi e), some (vi c), some (vn), some (vo (lawAt laws c))]) (st' := [vi (-1)]) [.inl (.iconst (-1))] 28 _ _ (by decide +kernel) rfl ?_
  exact aw_iret (by decide +kernel) rfl (by decide) (by decide) (hq _ _ rfl rfl)

theorem m_B_above_1 (hI : I32 e ∧ I32 c) (hl1 : lawAt laws e = some (9, k)) (hl2 : lawAt laws c = none) : ADet G M_B_above [vr 0 0, vi e, vi c] (Hp (sgB bd tk) (sgS laws slot ahead made (od : Int) (dn : Int) (un : Int)) t (sgK (nn : Int) rr ff gg) df jo tr di mo dy) (some (vi (-1))) (Hp (sgB bd tk) (sgS laws slot ahead made (od : Int) (dn : Int) (un : Int)) t (sgK (nn : Int) rr ff gg) df jo tr di mo dy) := by
  refine am_det (by decide +kernel) (Nat.le_of_ble_eq_true rfl) (fun Qr Qt hq => ?_)
  refine aw_blk (pc' := 5) (ls' := [some (vr 0 0), some (vi e), some (vi c), none, none]) (st' := [vi e, vr 1 0]) [.inl (.aload_n 0), .inr (10, 0, 0), .inl (.iload_n 1)] 0 _ _ (by decide +kernel) rfl ?_
  refine aw_dV (cs' := 0) (sl' := 0) (pc' := 8) (st' := [vo (lawAt laws e)]) (idx := 117) (as := [vi e]) (st := []) (m_S_lawIn hI.1) (by decide +kernel) (show vOK "ChanceBench" 117 M_S_lawIn 1 = true by decide +kernel) rfl rfl rfl (Nat.le_of_ble_eq_true rfl) (by decide) (by decide) (by decide) rfl rfl rfl rfl ?_
  rw [hl1]
  refine aw_blk (pc' := 14) (ls' := [some (vr 0 0), some (vi e), some (vi c), some (vr 9 k), none]) (st' := [vi c, vr 1 0]) [.inl (.astore_n 3), .inl (.aload_n 0), .inr (10, 0, 0), .inl (.iload_n 2)] 8 _ _ (by decide +kernel) rfl ?_
  refine aw_dV (cs' := 0) (sl' := 0) (pc' := 17) (st' := [vo (lawAt laws c)]) (idx := 117) (as := [vi c]) (st := []) (m_S_lawIn hI.2) (by decide +kernel) (show vOK "ChanceBench" 117 M_S_lawIn 1 = true by decide +kernel) rfl rfl rfl (Nat.le_of_ble_eq_true rfl) (by decide) (by decide) (by decide) rfl rfl rfl rfl ?_
  rw [hl2]
  refine aw_blk (pc' := 20) (ls' := [some (vr 0 0), some (vi e), some (vi c), some (vr 9 k), some (vn)]) (st' := [vr 9 k]) [.inl (.astore 4), .inl (.aload_n 3)] 17 _ _ (by decide +kernel) rfl ?_
  refine aw_ifnull (o := 8) (tgt := 28) (by decide +kernel) (by decide) (fun z => nomatch z) (fun _ _ => ?_)
  refine aw_blk (pc' := 25) (ls' := [some (vr 0 0), some (vi e), some (vi c), some (vr 9 k), some (vn)]) (st' := [vn]) [.inl (.aload 4)] 23 _ _ (by decide +kernel) rfl ?_
  refine aw_ifnonnull (o := 5) (tgt := 30) (by decide +kernel) (by decide) (fun _ z => nomatch z) (fun _ => ?_)
  refine aw_blk (pc' := 29) (ls' := [some (vr 0 0), some (vi e), some (vi c), some (vr 9 k), some (vn)]) (st' := [vi (-1)]) [.inl (.iconst (-1))] 28 _ _ (by decide +kernel) rfl ?_
  exact aw_iret (by decide +kernel) rfl (by decide) (by decide) (hq _ _ rfl rfl)

theorem m_B_spread_0 (hI : I32 e ∧ I32 c) (hl1 : lawAt laws e = none) : ADet G M_B_spread [vr 0 0, vi e, vi c] (Hp (sgB bd tk) (sgS laws slot ahead made (od : Int) (dn : Int) (un : Int)) t (sgK (nn : Int) rr ff gg) df jo tr di mo dy) (some (vi (-1))) (Hp (sgB bd tk) (sgS laws slot ahead made (od : Int) (dn : Int) (un : Int)) t (sgK (nn : Int) rr ff gg) df jo tr di mo dy) := by
  refine am_det (by decide +kernel) (Nat.le_of_ble_eq_true rfl) (fun Qr Qt hq => ?_)
  refine aw_blk (pc' := 5) (ls' := [some (vr 0 0), some (vi e), some (vi c), none, none]) (st' := [vi e, vr 1 0]) [.inl (.aload_n 0), .inr (10, 0, 0), .inl (.iload_n 1)] 0 _ _ (by decide +kernel) rfl ?_
  refine aw_dV (cs' := 0) (sl' := 0) (pc' := 8) (st' := [vo (lawAt laws e)]) (idx := 117) (as := [vi e]) (st := []) (m_S_lawIn hI.1) (by decide +kernel) (show vOK "ChanceBench" 117 M_S_lawIn 1 = true by decide +kernel) rfl rfl rfl (Nat.le_of_ble_eq_true rfl) (by decide) (by decide) (by decide) rfl rfl rfl rfl ?_
  rw [hl1]
  refine aw_blk (pc' := 14) (ls' := [some (vr 0 0), some (vi e), some (vi c), some (vn), none]) (st' := [vi c, vr 1 0]) [.inl (.astore_n 3), .inl (.aload_n 0), .inr (10, 0, 0), .inl (.iload_n 2)] 8 _ _ (by decide +kernel) rfl ?_
  refine aw_dV (cs' := 0) (sl' := 0) (pc' := 17) (st' := [vo (lawAt laws c)]) (idx := 117) (as := [vi c]) (st := []) (m_S_lawIn hI.2) (by decide +kernel) (show vOK "ChanceBench" 117 M_S_lawIn 1 = true by decide +kernel) rfl rfl rfl (Nat.le_of_ble_eq_true rfl) (by decide) (by decide) (by decide) rfl rfl rfl rfl ?_
  refine aw_blk (pc' := 20) (ls' := [some (vr 0 0), some (vi e), some (vi c), some (vn), some (vo (lawAt laws c))]) (st' := [vn]) [.inl (.astore 4), .inl (.aload_n 3)] 17 _ _ (by decide +kernel) rfl ?_
  refine aw_ifnull (o := 8) (tgt := 28) (by decide +kernel) (by decide) (fun _ => ?_) (fun _ z => nomatch z)
  refine aw_blk (pc' := 29) (ls' := [some (vr 0 0), some (vi e), some (vi c), some (vn), some (vo (lawAt laws c))]) (st' := [vi (-1)]) [.inl (.iconst (-1))] 28 _ _ (by decide +kernel) rfl ?_
  exact aw_iret (by decide +kernel) rfl (by decide) (by decide) (hq _ _ rfl rfl)

theorem m_B_spread_1 (hI : I32 e ∧ I32 c) (hl1 : lawAt laws e = some (9, k)) (hl2 : lawAt laws c = none) : ADet G M_B_spread [vr 0 0, vi e, vi c] (Hp (sgB bd tk) (sgS laws slot ahead made (od : Int) (dn : Int) (un : Int)) t (sgK (nn : Int) rr ff gg) df jo tr di mo dy) (some (vi (-1))) (Hp (sgB bd tk) (sgS laws slot ahead made (od : Int) (dn : Int) (un : Int)) t (sgK (nn : Int) rr ff gg) df jo tr di mo dy) := by
  refine am_det (by decide +kernel) (Nat.le_of_ble_eq_true rfl) (fun Qr Qt hq => ?_)
  refine aw_blk (pc' := 5) (ls' := [some (vr 0 0), some (vi e), some (vi c), none, none]) (st' := [vi e, vr 1 0]) [.inl (.aload_n 0), .inr (10, 0, 0), .inl (.iload_n 1)] 0 _ _ (by decide +kernel) rfl ?_
  refine aw_dV (cs' := 0) (sl' := 0) (pc' := 8) (st' := [vo (lawAt laws e)]) (idx := 117) (as := [vi e]) (st := []) (m_S_lawIn hI.1) (by decide +kernel) (show vOK "ChanceBench" 117 M_S_lawIn 1 = true by decide +kernel) rfl rfl rfl (Nat.le_of_ble_eq_true rfl) (by decide) (by decide) (by decide) rfl rfl rfl rfl ?_
  rw [hl1]
  refine aw_blk (pc' := 14) (ls' := [some (vr 0 0), some (vi e), some (vi c), some (vr 9 k), none]) (st' := [vi c, vr 1 0]) [.inl (.astore_n 3), .inl (.aload_n 0), .inr (10, 0, 0), .inl (.iload_n 2)] 8 _ _ (by decide +kernel) rfl ?_
  refine aw_dV (cs' := 0) (sl' := 0) (pc' := 17) (st' := [vo (lawAt laws c)]) (idx := 117) (as := [vi c]) (st := []) (m_S_lawIn hI.2) (by decide +kernel) (show vOK "ChanceBench" 117 M_S_lawIn 1 = true by decide +kernel) rfl rfl rfl (Nat.le_of_ble_eq_true rfl) (by decide) (by decide) (by decide) rfl rfl rfl rfl ?_
  rw [hl2]
  refine aw_blk (pc' := 20) (ls' := [some (vr 0 0), some (vi e), some (vi c), some (vr 9 k), some (vn)]) (st' := [vr 9 k]) [.inl (.astore 4), .inl (.aload_n 3)] 17 _ _ (by decide +kernel) rfl ?_
  refine aw_ifnull (o := 8) (tgt := 28) (by decide +kernel) (by decide) (fun z => nomatch z) (fun _ _ => ?_)
  refine aw_blk (pc' := 25) (ls' := [some (vr 0 0), some (vi e), some (vi c), some (vr 9 k), some (vn)]) (st' := [vn]) [.inl (.aload 4)] 23 _ _ (by decide +kernel) rfl ?_
  refine aw_ifnonnull (o := 5) (tgt := 30) (by decide +kernel) (by decide) (fun _ z => nomatch z) (fun _ => ?_)
  refine aw_blk (pc' := 29) (ls' := [some (vr 0 0), some (vi e), some (vi c), some (vr 9 k), some (vn)]) (st' := [vi (-1)]) [.inl (.iconst (-1))] 28 _ _ (by decide +kernel) rfl ?_
  exact aw_iret (by decide +kernel) rfl (by decide) (by decide) (hq _ _ rfl rfl)

theorem m_B_joint_0 (hI : I32 e ∧ I32 c) (hl1 : lawAt laws e = none) : ADet G M_B_joint [vr 0 0, vi e, vi c, vi d] (Hp (sgB bd tk) (sgS laws slot ahead made (od : Int) (dn : Int) (un : Int)) t (sgK (nn : Int) rr ff gg) df jo tr di mo dy) (some (vi (-1))) (Hp (sgB bd tk) (sgS laws slot ahead made (od : Int) (dn : Int) (un : Int)) t (sgK (nn : Int) rr ff gg) df jo tr di mo dy) := by
  refine am_det (by decide +kernel) (Nat.le_of_ble_eq_true rfl) (fun Qr Qt hq => ?_)
  refine aw_blk (pc' := 5) (ls' := [some (vr 0 0), some (vi e), some (vi c), some (vi d), none, none]) (st' := [vi e, vr 1 0]) [.inl (.aload_n 0), .inr (10, 0, 0), .inl (.iload_n 1)] 0 _ _ (by decide +kernel) rfl ?_
  refine aw_dV (cs' := 0) (sl' := 0) (pc' := 8) (st' := [vo (lawAt laws e)]) (idx := 117) (as := [vi e]) (st := []) (m_S_lawIn hI.1) (by decide +kernel) (show vOK "ChanceBench" 117 M_S_lawIn 1 = true by decide +kernel) rfl rfl rfl (Nat.le_of_ble_eq_true rfl) (by decide) (by decide) (by decide) rfl rfl rfl rfl ?_
  rw [hl1]
  refine aw_blk (pc' := 15) (ls' := [some (vr 0 0), some (vi e), some (vi c), some (vi d), some (vn), none]) (st' := [vi c, vr 1 0]) [.inl (.astore 4), .inl (.aload_n 0), .inr (10, 0, 0), .inl (.iload_n 2)] 8 _ _ (by decide +kernel) rfl ?_
  refine aw_dV (cs' := 0) (sl' := 0) (pc' := 18) (st' := [vo (lawAt laws c)]) (idx := 117) (as := [vi c]) (st := []) (m_S_lawIn hI.2) (by decide +kernel) (show vOK "ChanceBench" 117 M_S_lawIn 1 = true by decide +kernel) rfl rfl rfl (Nat.le_of_ble_eq_true rfl) (by decide) (by decide) (by decide) rfl rfl rfl rfl ?_
  refine aw_blk (pc' := 22) (ls' := [some (vr 0 0), some (vi e), some (vi c), some (vi d), some (vn), some (vo (lawAt laws c))]) (st' := [vn]) [.inl (.astore 5), .inl (.aload 4)] 18 _ _ (by decide +kernel) rfl ?_
  refine aw_ifnull (o := 17) (tgt := 39) (by decide +kernel) (by decide) (fun _ => ?_) (fun _ z => nomatch z)
  refine aw_blk (pc' := 40) (ls' := [some (vr 0 0), some (vi e), some (vi c), some (vi d), some (vn), some (vo (lawAt laws c))]) (st' := [vi (-1)]) [.inl (.iconst (-1))] 39 _ _ (by decide +kernel) rfl ?_
  exact aw_iret (by decide +kernel) rfl (by decide) (by decide) (hq _ _ rfl rfl)

theorem m_B_joint_1 (hI : I32 e ∧ I32 c) (hl1 : lawAt laws e = some (9, k)) (hl2 : lawAt laws c = none) : ADet G M_B_joint [vr 0 0, vi e, vi c, vi d] (Hp (sgB bd tk) (sgS laws slot ahead made (od : Int) (dn : Int) (un : Int)) t (sgK (nn : Int) rr ff gg) df jo tr di mo dy) (some (vi (-1))) (Hp (sgB bd tk) (sgS laws slot ahead made (od : Int) (dn : Int) (un : Int)) t (sgK (nn : Int) rr ff gg) df jo tr di mo dy) := by
  refine am_det (by decide +kernel) (Nat.le_of_ble_eq_true rfl) (fun Qr Qt hq => ?_)
  refine aw_blk (pc' := 5) (ls' := [some (vr 0 0), some (vi e), some (vi c), some (vi d), none, none]) (st' := [vi e, vr 1 0]) [.inl (.aload_n 0), .inr (10, 0, 0), .inl (.iload_n 1)] 0 _ _ (by decide +kernel) rfl ?_
  refine aw_dV (cs' := 0) (sl' := 0) (pc' := 8) (st' := [vo (lawAt laws e)]) (idx := 117) (as := [vi e]) (st := []) (m_S_lawIn hI.1) (by decide +kernel) (show vOK "ChanceBench" 117 M_S_lawIn 1 = true by decide +kernel) rfl rfl rfl (Nat.le_of_ble_eq_true rfl) (by decide) (by decide) (by decide) rfl rfl rfl rfl ?_
  rw [hl1]
  refine aw_blk (pc' := 15) (ls' := [some (vr 0 0), some (vi e), some (vi c), some (vi d), some (vr 9 k), none]) (st' := [vi c, vr 1 0]) [.inl (.astore 4), .inl (.aload_n 0), .inr (10, 0, 0), .inl (.iload_n 2)] 8 _ _ (by decide +kernel) rfl ?_
  refine aw_dV (cs' := 0) (sl' := 0) (pc' := 18) (st' := [vo (lawAt laws c)]) (idx := 117) (as := [vi c]) (st := []) (m_S_lawIn hI.2) (by decide +kernel) (show vOK "ChanceBench" 117 M_S_lawIn 1 = true by decide +kernel) rfl rfl rfl (Nat.le_of_ble_eq_true rfl) (by decide) (by decide) (by decide) rfl rfl rfl rfl ?_
  rw [hl2]
  refine aw_blk (pc' := 22) (ls' := [some (vr 0 0), some (vi e), some (vi c), some (vi d), some (vr 9 k), some (vn)]) (st' := [vr 9 k]) [.inl (.astore 5), .inl (.aload 4)] 18 _ _ (by decide +kernel) rfl ?_
  refine aw_ifnull (o := 17) (tgt := 39) (by decide +kernel) (by decide) (fun z => nomatch z) (fun _ _ => ?_)
  refine aw_blk (pc' := 27) (ls' := [some (vr 0 0), some (vi e), some (vi c), some (vi d), some (vr 9 k), some (vn)]) (st' := [vn]) [.inl (.aload 5)] 25 _ _ (by decide +kernel) rfl ?_
  refine aw_ifnull (o := 12) (tgt := 39) (by decide +kernel) (by decide) (fun _ => ?_) (fun _ z => nomatch z)
  refine aw_blk (pc' := 40) (ls' := [some (vr 0 0), some (vi e), some (vi c), some (vi d), some (vr 9 k), some (vn)]) (st' := [vi (-1)]) [.inl (.iconst (-1))] 39 _ _ (by decide +kernel) rfl ?_
  exact aw_iret (by decide +kernel) rfl (by decide) (by decide) (hq _ _ rfl rfl)

theorem isF_in {P : Int → Prop} {v : Int} (h : isF P v) : I32 v := by rcases h with ⟨a, _⟩ | ⟨a, _⟩ <;> omega
theorem m_B_above (hI : I32 e ∧ I32 c) (hl1 : lawAt laws e = some (9, k)) (hl2 : lawAt laws c = some (9, q)) (hA : isD dy k k1 k2 n at_ wt W) (A : lwN n at_ wt W) (hA2 : isD dy q q1 q2 m at2 wt2 W2) (A2 : lwN m at2 wt2 W2) : AMet G M_B_above [vr 0 0, vi e, vi c] (Hp (sgB bd tk) (sgS laws slot ahead made (od : Int) (dn : Int) (un : Int)) t (sgK (nn : Int) rr ff gg) (sgF l0 D0 B0) jo tr di mo dy) (fun r h => ∃ (L : Nat) (D Bf : Nat → Int) (v : Int), isF (fun t => 0 < cum (Ed n m at_ wt at2 wt2 W W2) (t - 1)) v ∧ r = some (vi (if v = 5000 then 1 else 0)) ∧ h = Hp (sgB (if v = 5000 then bd else v) tk) (sgS laws slot ahead made (od : Int) (dn : Int) (un : Int)) t (sgK (nn : Int) rr ff gg) (sgF (L : Int) D Bf) jo tr di mo dy) (fun _ => False) := by
  refine am_rel (by decide +kernel) (Nat.le_of_ble_eq_true rfl) (fun Qr Qt hq => ?_)
  refine aw_blk (pc' := 5) (ls' := [some (vr 0 0), some (vi e), some (vi c), none, none]) (st' := [vi e, vr 1 0]) [.inl (.aload_n 0), .inr (10, 0, 0), .inl (.iload_n 1)] 0 _ _ (by decide +kernel) rfl ?_
  refine aw_dV (cs' := 0) (sl' := 0) (pc' := 8) (st' := [vo (lawAt laws e)]) (idx := 117) (as := [vi e]) (st := []) (m_S_lawIn hI.1) (by decide +kernel) (show vOK "ChanceBench" 117 M_S_lawIn 1 = true by decide +kernel) rfl rfl rfl (Nat.le_of_ble_eq_true rfl) (by decide) (by decide) (by decide) rfl rfl rfl rfl ?_
  rw [hl1]
  refine aw_blk (pc' := 14) (ls' := [some (vr 0 0), some (vi e), some (vi c), some (vr 9 k), none]) (st' := [vi c, vr 1 0]) [.inl (.astore_n 3), .inl (.aload_n 0), .inr (10, 0, 0), .inl (.iload_n 2)] 8 _ _ (by decide +kernel) rfl ?_
  refine aw_dV (cs' := 0) (sl' := 0) (pc' := 17) (st' := [vo (lawAt laws c)]) (idx := 117) (as := [vi c]) (st := []) (m_S_lawIn hI.2) (by decide +kernel) (show vOK "ChanceBench" 117 M_S_lawIn 1 = true by decide +kernel) rfl rfl rfl (Nat.le_of_ble_eq_true rfl) (by decide) (by decide) (by decide) rfl rfl rfl rfl ?_
  rw [hl2]
  refine aw_blk (pc' := 20) (ls' := [some (vr 0 0), some (vi e), some (vi c), some (vr 9 k), some (vr 9 q)]) (st' := [vr 9 k]) [.inl (.astore 4), .inl (.aload_n 3)] 17 _ _ (by decide +kernel) rfl ?_
  refine aw_ifnull (o := 8) (tgt := 28) (by decide +kernel) (by decide) (fun z => nomatch z) (fun _ _ => ?_)
  refine aw_blk (pc' := 25) (ls' := [some (vr 0 0), some (vi e), some (vi c), some (vr 9 k), some (vr 9 q)]) (st' := [vr 9 q]) [.inl (.aload 4)] 23 _ _ (by decide +kernel) rfl ?_
  refine aw_ifnonnull (o := 5) (tgt := 30) (by decide +kernel) (by decide) (fun _ _ => ?_) (fun z => nomatch z)
  refine aw_blk (pc' := 37) (ls' := [some (vr 0 0), some (vi e), some (vi c), some (vr 9 k), some (vr 9 q)]) (st' := [vr 9 q, vr 9 k, vr 4 0]) [.inl (.aload_n 0), .inr (33, 0, 3), .inl (.aload_n 3), .inl (.aload 4)] 30 _ _ (by decide +kernel) rfl ?_
  refine aw_rV (cs' := 0) (sl' := 0) (pc' := 40) (idx := 167) (as := [vr 9 k, vr 9 q]) (st := []) (m_F_takeR hA hA2 A A2) (by decide +kernel) (show vOK "ChanceBench" 167 M_F_take 2 = true by decide +kernel) rfl rfl rfl (Nat.le_of_ble_eq_true rfl) (by decide) (by decide) (by decide) rfl rfl rfl (fun r37 h37 z37 => ?_)
  obtain ⟨rfl, L, D, Bf, K, rfl⟩ := z37
  refine aw_blk (pc' := 45) (ls' := [some (vr 0 0), some (vi e), some (vi c), some (vr 9 k), some (vr 9 q)]) (st' := [vr 4 0, vr 0 0]) [.inl (.aload_n 0), .inl (.aload_n 0), .inr (33, 0, 3)] 40 _ _ (by decide +kernel) rfl ?_
  refine aw_dV (cs' := 0) (sl' := 0) (pc' := 48) (st' := [vi (lna D Bf L 0), vr 0 0]) (idx := 183) (as := []) (st := [vr 0 0]) (m_F_leastNotAbove K.1 (fun k hk => by have := K.2.2.2.2.2.1 k hk; omega) K.2.2.1) (by decide +kernel) (show vOK "ChanceBench" 183 M_F_leastNotAbove 0 = true by decide +kernel) rfl rfl rfl (Nat.le_of_ble_eq_true rfl) (by decide) (by decide) (by decide) rfl rfl rfl rfl ?_
  have hF := K.lna
  generalize lna D Bf L 0 = v at hF ⊢
  refine aw_dV (cs' := 0) (sl' := 0) (pc' := 51) (st' := [vi (if v = 5000 then 1 else 0)]) (idx := 186) (as := [vi v]) (st := []) (m_B_heldUnless (isF_in hF)) (by decide +kernel) (show vOK "ChanceBench" 186 M_B_heldUnless 1 = true by decide +kernel) rfl rfl rfl (Nat.le_of_ble_eq_true rfl) (by decide) (by decide) (by decide) rfl rfl rfl rfl ?_
  exact aw_iret (by decide +kernel) rfl (by decide) (by decide) (hq _ _ ⟨L, D, Bf, v, hF, rfl, rfl⟩)

theorem means_in (A : lwN n at_ wt W) (A2 : lwN m at2 wt2 W2) : I64 (sT (fun u => Ed n m at_ wt at2 wt2 W W2 u * u)) := by
  have a1 := A.2.2.2
  have b1 := A2.2.2.2
  have e : sT (fun u => Ed n m at_ wt at2 wt2 W W2 u * u) = W2 * sT (fun u => u * den at_ wt n u) - W * sT (fun u => u * den at2 wt2 m u) := by
    rw [← sT_mul, ← sT_mul, ← sT_sub]
    refine sT_ext (fun u _ => ?_)
    show (W2 * den at_ wt n u - W * den at2 wt2 m u) * u = _
    rw [Int.sub_mul, Int.mul_assoc, Int.mul_assoc, Int.mul_comm (den at_ wt n u), Int.mul_comm (den at2 wt2 m u)]
  have c1 := lw_b1 A
  have c2 := lw_b1 A2
  have d1 := mul_in (x := 1048576) (y := 1048576000) (u := W2) (v := sT (fun u => u * den at_ wt n u)) (by omega) (by omega) (by omega) (by omega)
  have d2 := mul_in (x := 1048576) (y := 1048576000) (u := W) (v := sT (fun u => u * den at2 wt2 m u)) (by omega) (by omega) (by omega) (by omega)
  rw [e]; omega
theorem m_B_spread (hI : I32 e ∧ I32 c) (hl1 : lawAt laws e = some (9, k)) (hl2 : lawAt laws c = some (9, q)) (hA : isD dy k k1 k2 n at_ wt W) (A : lwN n at_ wt W) (hA2 : isD dy q q1 q2 m at2 wt2 W2) (A2 : lwN m at2 wt2 W2) : AMet G M_B_spread [vr 0 0, vi e, vi c] (Hp (sgB bd tk) (sgS laws slot ahead made (od : Int) (dn : Int) (un : Int)) t (sgK (nn : Int) rr ff gg) (sgF l0 D0 B0) jo tr di mo dy) (fun r h => ∃ (L : Nat) (D Bf : Nat → Int), (sT (fun u => Ed n m at_ wt at2 wt2 W W2 u * u) ≠ 0 ∧ r = some (vi 2) ∧ h = Hp (sgB bd tk) (sgS laws slot ahead made (od : Int) (dn : Int) (un : Int)) t (sgK (nn : Int) rr ff gg) (sgF (L : Int) D Bf) jo tr di mo dy) ∨ (sT (fun u => Ed n m at_ wt at2 wt2 W W2 u * u) = 0 ∧ ∃ v : Int, isF (fun t => 0 < Ov (Ed n m at_ wt at2 wt2 W W2) t) v ∧ r = some (vi (if v = 5000 then 1 else 0)) ∧ h = Hp (sgB (if v = 5000 then bd else v) tk) (sgS laws slot ahead made (od : Int) (dn : Int) (un : Int)) t (sgK (nn : Int) rr ff gg) (sgF (L : Int) D Bf) jo tr di mo dy)) (fun _ => False) := by
  refine am_rel (by decide +kernel) (Nat.le_of_ble_eq_true rfl) (fun Qr Qt hq => ?_)
  refine aw_blk (pc' := 5) (ls' := [some (vr 0 0), some (vi e), some (vi c), none, none]) (st' := [vi e, vr 1 0]) [.inl (.aload_n 0), .inr (10, 0, 0), .inl (.iload_n 1)] 0 _ _ (by decide +kernel) rfl ?_
  refine aw_dV (cs' := 0) (sl' := 0) (pc' := 8) (st' := [vo (lawAt laws e)]) (idx := 117) (as := [vi e]) (st := []) (m_S_lawIn hI.1) (by decide +kernel) (show vOK "ChanceBench" 117 M_S_lawIn 1 = true by decide +kernel) rfl rfl rfl (Nat.le_of_ble_eq_true rfl) (by decide) (by decide) (by decide) rfl rfl rfl rfl ?_
  rw [hl1]
  refine aw_blk (pc' := 14) (ls' := [some (vr 0 0), some (vi e), some (vi c), some (vr 9 k), none]) (st' := [vi c, vr 1 0]) [.inl (.astore_n 3), .inl (.aload_n 0), .inr (10, 0, 0), .inl (.iload_n 2)] 8 _ _ (by decide +kernel) rfl ?_
  refine aw_dV (cs' := 0) (sl' := 0) (pc' := 17) (st' := [vo (lawAt laws c)]) (idx := 117) (as := [vi c]) (st := []) (m_S_lawIn hI.2) (by decide +kernel) (show vOK "ChanceBench" 117 M_S_lawIn 1 = true by decide +kernel) rfl rfl rfl (Nat.le_of_ble_eq_true rfl) (by decide) (by decide) (by decide) rfl rfl rfl rfl ?_
  rw [hl2]
  refine aw_blk (pc' := 20) (ls' := [some (vr 0 0), some (vi e), some (vi c), some (vr 9 k), some (vr 9 q)]) (st' := [vr 9 k]) [.inl (.astore 4), .inl (.aload_n 3)] 17 _ _ (by decide +kernel) rfl ?_
  refine aw_ifnull (o := 8) (tgt := 28) (by decide +kernel) (by decide) (fun z => nomatch z) (fun _ _ => ?_)
  refine aw_blk (pc' := 25) (ls' := [some (vr 0 0), some (vi e), some (vi c), some (vr 9 k), some (vr 9 q)]) (st' := [vr 9 q]) [.inl (.aload 4)] 23 _ _ (by decide +kernel) rfl ?_
  refine aw_ifnonnull (o := 5) (tgt := 30) (by decide +kernel) (by decide) (fun _ _ => ?_) (fun z => nomatch z)
  refine aw_blk (pc' := 37) (ls' := [some (vr 0 0), some (vi e), some (vi c), some (vr 9 k), some (vr 9 q)]) (st' := [vr 9 q, vr 9 k, vr 4 0]) [.inl (.aload_n 0), .inr (33, 0, 3), .inl (.aload_n 3), .inl (.aload 4)] 30 _ _ (by decide +kernel) rfl ?_
  refine aw_rV (cs' := 0) (sl' := 0) (pc' := 40) (idx := 167) (as := [vr 9 k, vr 9 q]) (st := []) (m_F_takeR hA hA2 A A2) (by decide +kernel) (show vOK "ChanceBench" 167 M_F_take 2 = true by decide +kernel) rfl rfl rfl (Nat.le_of_ble_eq_true rfl) (by decide) (by decide) (by decide) rfl rfl rfl (fun r37 h37 z37 => ?_)
  obtain ⟨rfl, L, D, Bf, K, rfl⟩ := z37
  refine aw_blk (pc' := 44) (ls' := [some (vr 0 0), some (vi e), some (vi c), some (vr 9 k), some (vr 9 q)]) (st' := [vr 4 0]) [.inl (.aload_n 0), .inr (33, 0, 3)] 40 _ _ (by decide +kernel) rfl ?_
  refine aw_dV (cs' := 0) (sl' := 0) (pc' := 47) (st' := [vl (sumZ (fun k => Bf k * D k) L)]) (idx := 189) (as := []) (st := []) (m_F_ofMeans K.1) (by decide +kernel) (show vOK "ChanceBench" 189 M_F_ofMeans 0 = true by decide +kernel) rfl rfl rfl (Nat.le_of_ble_eq_true rfl) (by decide) (by decide) (by decide) rfl rfl rfl rfl ?_
  have hmb := means_in A A2
  rw [K.means]
  refine aw_blk (pc' := 48) (ls' := [some (vr 0 0), some (vi e), some (vi c), some (vr 9 k), some (vr 9 q)]) (st' := [vl 0, vl (sT (fun u => Ed n m at_ wt at2 wt2 W W2 u * u))]) [.inl (.lconst 0)] 47 _ _ (by decide +kernel) rfl ?_
  refine aw_lcmp (by decide +kernel) (by omega) (by omega) ?_
  refine aw_if_ne (o := 17) (tgt := 66) (by decide +kernel) (by decide) (cmpI_in _ _) (fun c48 => ?_) (fun c48 => ?_)
  · rw [cmpI_eq] at c48
    refine aw_blk (pc' := 67) (ls' := [some (vr 0 0), some (vi e), some (vi c), some (vr 9 k), some (vr 9 q)]) (st' := [vi 2]) [.inl (.iconst 2)] 66 _ _ (by decide +kernel) rfl ?_
    exact aw_iret (by decide +kernel) rfl (by decide) (by decide) (hq _ _ ⟨L, D, Bf, Or.inl ⟨c48, rfl, rfl⟩⟩)
  · rw [cmpI_eq] at c48
    refine aw_blk (pc' := 57) (ls' := [some (vr 0 0), some (vi e), some (vi c), some (vr 9 k), some (vr 9 q)]) (st' := [vr 4 0, vr 0 0]) [.inl (.aload_n 0), .inl (.aload_n 0), .inr (33, 0, 3)] 52 _ _ (by decide +kernel) rfl ?_
    refine aw_dV (cs' := 0) (sl' := 0) (pc' := 60) (st' := [vi (lms D Bf (L - 1) 0), vr 0 0]) (idx := 192) (as := []) (st := [vr 0 0]) (m_F_lmsR K) (by decide +kernel) (show vOK "ChanceBench" 192 M_F_leastMoreSpread 0 = true by decide +kernel) rfl rfl rfl (Nat.le_of_ble_eq_true rfl) (by decide) (by decide) (by decide) rfl rfl rfl rfl ?_
    have hF := K.lms A A2 c48
    generalize lms D Bf (L - 1) 0 = v at hF ⊢
    refine aw_dV (cs' := 0) (sl' := 0) (pc' := 63) (st' := [vi (if v = 5000 then 1 else 0)]) (idx := 186) (as := [vi v]) (st := []) (m_B_heldUnless (isF_in hF)) (by decide +kernel) (show vOK "ChanceBench" 186 M_B_heldUnless 1 = true by decide +kernel) rfl rfl rfl (Nat.le_of_ble_eq_true rfl) (by decide) (by decide) (by decide) rfl rfl rfl rfl ?_
    refine aw_goto (o := 4) (tgt := 67) (by decide +kernel) (by decide) ?_
    exact aw_iret (by decide +kernel) rfl (by decide) (by decide) (hq _ _ ⟨L, D, Bf, Or.inr ⟨c48, v, hF, rfl, rfl⟩⟩)

theorem m_B_bound : ADet G M_B_bound [vr 0 0] (Hp (sgB bd tk) (sgS laws slot ahead made (od : Int) (dn : Int) (un : Int)) t (sgK (nn : Int) rr ff gg) df jo tr di mo dy) (some (vi bd)) (Hp (sgB bd tk) (sgS laws slot ahead made (od : Int) (dn : Int) (un : Int)) t (sgK (nn : Int) rr ff gg) df jo tr di mo dy) := by
  refine am_det (by decide +kernel) (Nat.le_of_ble_eq_true rfl) (fun Qr Qt hq => ?_)
  refine aw_blk (pc' := 4) (ls' := [some (vr 0 0)]) (st' := [vi bd]) [.inl (.aload_n 0), .inr (58, 0, 7)] 0 _ _ (by decide +kernel) rfl ?_
  exact aw_iret (by decide +kernel) rfl (by decide) (by decide) (hq _ _ rfl rfl)

theorem m_B_taken : ADet G M_B_taken [vr 0 0] (Hp (sgB bd tk) (sgS laws slot ahead made (od : Int) (dn : Int) (un : Int)) t (sgK (nn : Int) rr ff gg) df jo tr di mo dy) (some (vi tk)) (Hp (sgB bd tk) (sgS laws slot ahead made (od : Int) (dn : Int) (un : Int)) t (sgK (nn : Int) rr ff gg) df jo tr di mo dy) := by
  refine am_det (by decide +kernel) (Nat.le_of_ble_eq_true rfl) (fun Qr Qt hq => ?_)
  refine aw_blk (pc' := 4) (ls' := [some (vr 0 0)]) (st' := [vi tk]) [.inl (.aload_n 0), .inr (62, 0, 8)] 0 _ _ (by decide +kernel) rfl ?_
  exact aw_iret (by decide +kernel) rfl (by decide) (by decide) (hq _ _ rfl rfl)

end
