section
variable {G : GT} {h : HT} {b s t mk df jo tr di mo dy : SG} {a c d e B bd tk : Int} {n m k k1 k2 q q1 q2 j nn len : Nat} {f g ff gg ft at_ wt at2 wt2 : Nat → Int} {rf rr W W2 : Int} {T : Int → Int} {by_ : Prop} {laws ahead made : Nat → Option (Nat × Nat)} {slot : Nat → Int} {od dn un : Nat}
variable {r dd : Nat → Int} {lv op W0 l9 : Int}
def uT (n : Nat) (W : Int) (wt : Nat → Int) : Nat → Int
  | 0 => 0
  | k + 1 => 2 * uT n W wt k + 2 * oT n W wt k
theorem uT_in (A : lwN n at_ wt W) : ∀ k, 0 ≤ uT n W wt k ∧ uT n W wt k ≤ 48 * pw 2 k
  | 0 => by simp [uT, pw]
  | k + 1 => by
    have h := uT_in A k
    have ho := oT_in A k
    have hp : ∀ j, 1 ≤ pw 2 j := fun j => by
      induction j with
      | zero => simp [pw]
      | succ j ih => simp only [pw]; omega
    have := hp k
    simp only [uT, pw]
    have h2 : ∀ j, uT n W wt j + 48 ≤ 48 * pw 2 j := fun j => by
      induction j with
      | zero => simp [uT, pw]
      | succ j ih => have := oT_in A j; simp only [uT, pw]; omega
    have := h2 k
    omega
theorem pw2_in : ∀ k : Fin 41, 1 ≤ pw 2 k.val ∧ pw 2 k.val ≤ 1099511627776 := by decide +kernel
theorem pw_s (x : Int) (k : Nat) : pw x (k + 1) = pw x k * x := rfl
theorem m_B_lots {K : Nat} (hI : I32 e) (hK : K ≤ 40) (hd1 : d = 0 ∨ d = 1) (hl1 : lawAt laws e = some (9, k)) (hA : isD dy k k1 k2 n at_ wt W) (A : lwN n at_ wt W) : AMet G M_B_lots [vr 0 0, vi e, vi (K : Int), vi d] (Hp (sgB bd tk) (sgS laws slot ahead made (od : Int) (dn : Int) (un : Int)) t (sgK (nn : Int) rr ff gg) df jo (sgR l9 W0 lv op r dd) di mo dy) (fun x h => x = some (vl (prt (uT n W wt K) (pw 2 K) d)) ∧ ∃ r dd, h = Hp (sgB bd tk) (sgS laws slot ahead made (od : Int) (dn : Int) (un : Int)) t (sgK (nn : Int) rr ff gg) df jo (sgR (n : Int) W (lT n W wt K) (oT n W wt K) r dd) di mo dy) (fun _ => False) := by
  refine am_rel (by decide +kernel) (Nat.le_of_ble_eq_true rfl) (fun Qr Qt hq => ?_)
  refine aw_blk (pc' := 2) (ls' := [some (vr 0 0), some (vi e), some (vi (K : Int)), some (vi d), none, none, none, none, none, none]) (st' := [vi e, vr 0 0]) [.inl (.aload_n 0), .inl (.iload_n 1)] 0 _ _ (by decide +kernel) rfl ?_
  refine aw_dV (cs' := 1) (sl' := 6) (pc' := 5) (st' := [vr 9 k]) (idx := 143) (as := [vi e]) (st := []) (m_B_lawOf hI hl1) (by decide +kernel) (show vOK "ChanceBench" 143 M_B_lawOf 1 = true by decide +kernel) rfl rfl rfl (Nat.le_of_ble_eq_true rfl) (by decide) (by decide) (by decide) rfl rfl rfl rfl ?_
  refine aw_blk (pc' := 11) (ls' := [some (vr 0 0), some (vi e), some (vi (K : Int)), some (vi d), some (vr 9 k), none, none, none, none, none]) (st' := [vi 40, vi 0, vi (K : Int)]) [.inl (.astore 4), .inl (.iload_n 2), .inl (.iconst 0), .inl (.bipush 40)] 5 _ _ (by decide +kernel) rfl ?_
  refine aw_dS (cs' := 1) (sl' := 6) (pc' := 14) (st' := [vi (if 0 ≤ (K : Int) ∧ (K : Int) ≤ 40 then 1 else 0)]) (idx := 98) (as := [vi (K : Int), vi 0, vi 40]) (st := []) (m_B_isWithin (by omega) (by omega) (by omega)) (by decide +kernel) (show sOK "ChanceBench" 98 M_B_isWithin 3 = true by decide +kernel) rfl (Nat.le_of_ble_eq_true rfl) (by decide) (by decide) (by decide) rfl rfl rfl rfl ?_
  rw [if_pos (by omega)]
  refine aw_if_ne (o := 11) (tgt := 25) (by decide +kernel) (by decide) (by omega) (fun _ => ?_) (fun c => absurd c (by omega))
  refine aw_blk (pc' := 31) (ls' := [some (vr 0 0), some (vi e), some (vi (K : Int)), some (vi d), some (vr 9 k), none, none, none, none, none]) (st' := [vr 9 k, vr 6 0]) [.inl (.aload_n 0), .inr (47, 0, 5), .inl (.aload 4)] 25 _ _ (by decide +kernel) rfl ?_
  refine aw_rV (cs' := 1) (sl' := 6) (pc' := 34) (idx := 216) (as := [vr 9 k]) (st := []) (m_R_plantR hA A) (by decide +kernel) (show vOK "ChanceBench" 216 M_R_plant 1 = true by decide +kernel) rfl rfl rfl (Nat.le_of_ble_eq_true rfl) (by decide) (by decide) (by decide) rfl rfl rfl (fun r31 h31 z31 => ?_)
  obtain ⟨rfl, r, dd, hS, rfl⟩ := z31
  refine aw_blk (pc' := 43) (ls' := [some (vr 0 0), some (vi e), some (vi (K : Int)), some (vi d), some (vr 9 k), some (vl 0), none, some (vl 1), none, some (vi 0)]) (st' := []) [.inl (.lconst 0), .inl (.lstore 5), .inl (.lconst 1), .inl (.lstore 7), .inl (.iconst 0), .inl (.istore 9)] 34 _ _ (by decide +kernel) rfl ?_
  refine up_to (W := fun i : Nat => ∀ r dd, trS n W wt i r dd → AW G M_B_lots Qr Qt 1 6 43 [some (vr 0 0), some (vi e), some (vi (K : Int)), some (vi d), some (vr 9 k), some (vl (uT n W wt i)), none, some (vl (pw 2 i)), none, some (vi (i : Int))] [] (Hp [some (ob 0 [vr 1 0, vr 2 0, vr 3 0, vr 4 0, vr 5 0, vr 6 0, vr 7 0, vi bd, vi tk])] [some (ob 1 [vr 1 1, vr 1 2, vr 1 3, vr 1 4, vi (od : Int), vi (dn : Int), vi (un : Int)]), some (rs 16 laws), some (ar 0 30 slot), some (rs 30 ahead), some (rs 30 made)] t [some (ob 3 [vr 3 1, vr 3 2, vi (nn : Int), vi rr]), some (ar 0 24 ff), some (ar 1 24 gg)] df jo [some (ob 6 [vr 6 1, vr 6 2, vi (n : Int), vi W, vi (lT n W wt i), vi (oT n W wt i)]), some (ar 0 24 r), some (ar 0 24 dd)] di mo dy)) K ?_ (fun i hi ih => ?_) 0 (by omega) r dd hS
  · intro r dd hS
    have hu := uT_in A K
    have hp := pw2_in ⟨K, by omega⟩
    simp only at hp
    refine aw_blk (pc' := 46) (ls' := [some (vr 0 0), some (vi e), some (vi (K : Int)), some (vi d), some (vr 9 k), some (vl (uT n W wt K)), none, some (vl (pw 2 K)), none, some (vi (K : Int))]) (st' := [vi (K : Int), vi (K : Int)]) [.inl (.iload 9), .inl (.iload_n 2)] 43 _ _ (by decide +kernel) rfl ?_
    refine aw_icmp_ge (o := 43) (tgt := 89) (by decide +kernel) (by decide) (by omega) (by omega) (fun _ => ?_) (fun c => absurd (by omega) c)
    refine aw_blk (pc' := 94) (ls' := [some (vr 0 0), some (vi e), some (vi (K : Int)), some (vi d), some (vr 9 k), some (vl (uT n W wt K)), none, some (vl (pw 2 K)), none, some (vi (K : Int))]) (st' := [vi d, vl (pw 2 K), vl (uT n W wt K)]) [.inl (.lload 5), .inl (.lload 7), .inl (.iload_n 3)] 89 _ _ (by decide +kernel) rfl ?_
    refine aw_dS (cs' := 2) (sl' := 12) (pc' := 97) (st' := [vl (prt (uT n W wt K) (pw 2 K) d)]) (idx := 152) (as := [vl (uT n W wt K), vl (pw 2 K), vi d]) (st := []) (m_B_part (by constructor <;> omega) (by constructor <;> omega) hd1) (by decide +kernel) (show sOK "ChanceBench" 152 M_B_part 3 = true by decide +kernel) rfl (Nat.le_of_ble_eq_true rfl) (by decide) (by decide) (by decide) rfl rfl rfl rfl ?_
    exact aw_lret (by decide +kernel) rfl (by decide) (by decide) (hq _ _ ⟨rfl, r, dd, rfl⟩)
  · intro r dd hS
    have ho := oT_in A i
    refine aw_blk (pc' := 46) (ls' := [some (vr 0 0), some (vi e), some (vi (K : Int)), some (vi d), some (vr 9 k), some (vl (uT n W wt i)), none, some (vl (pw 2 i)), none, some (vi (i : Int))]) (st' := [vi (K : Int), vi (i : Int)]) [.inl (.iload 9), .inl (.iload_n 2)] 43 _ _ (by decide +kernel) rfl ?_
    refine aw_icmp_ge (o := 43) (tgt := 89) (by decide +kernel) (by decide) (by omega) (by omega) (fun c => absurd c (by omega)) (fun _ => ?_)
    refine aw_ldc2 (a := 2) (ix := 174) (v := 2) (by decide +kernel) (by decide +kernel) (by decide) ?_
    refine aw_blk (pc' := 60) (ls' := [some (vr 0 0), some (vi e), some (vi (K : Int)), some (vi d), some (vr 9 k), some (vl (uT n W wt i)), none, some (vl (pw 2 i)), none, some (vi (i : Int))]) (st' := [vr 6 0, vi 2, vl (2 * (uT n W wt i))]) [.inl (.lload 5), .inl (.lmul), .inl (.iconst 2), .inl (.aload_n 0), .inr (47, 0, 5)] 52 _ _ (by decide +kernel) rfl ?_
    refine aw_dV (cs' := 1) (sl' := 6) (pc' := 63) (st' := [vi (oT n W wt i), vi 2, vl (2 * (uT n W wt i))]) (idx := 210) (as := []) (st := [vi 2, vl (2 * (uT n W wt i))]) (m_R_openPlaces) (by decide +kernel) (show vOK "ChanceBench" 210 M_R_openPlaces 0 = true by decide +kernel) rfl rfl rfl (Nat.le_of_ble_eq_true rfl) (by decide) (by decide) (by decide) rfl rfl rfl rfl ?_
    refine aw_blk (pc' := 64) (ls' := [some (vr 0 0), some (vi e), some (vi (K : Int)), some (vi d), some (vr 9 k), some (vl (uT n W wt i)), none, some (vl (pw 2 i)), none, some (vi (i : Int))]) (st' := [vi (2 * (oT n W wt i)), vl (2 * (uT n W wt i))]) [.inl (.imul)] 63 _ _ (by decide +kernel) rfl ?_
    refine aw_i2l (by decide +kernel) (by omega) ?_
    refine aw_blk (pc' := 68) (ls' := [some (vr 0 0), some (vi e), some (vi (K : Int)), some (vi d), some (vr 9 k), some (vl ((2 * (uT n W wt i)) + (2 * (oT n W wt i)))), none, some (vl (pw 2 i)), none, some (vi (i : Int))]) (st' := []) [.inl (.ladd), .inl (.lstore 5)] 65 _ _ (by decide +kernel) rfl ?_
    refine aw_ldc2 (a := 2) (ix := 174) (v := 2) (by decide +kernel) (by decide +kernel) (by decide) ?_
    refine aw_blk (pc' := 80) (ls' := [some (vr 0 0), some (vi e), some (vi (K : Int)), some (vi d), some (vr 9 k), some (vl ((2 * (uT n W wt i)) + (2 * (oT n W wt i)))), none, some (vl (2 * (pw 2 i))), none, some (vi (i : Int))]) (st' := [vr 6 0]) [.inl (.lload 7), .inl (.lmul), .inl (.lstore 7), .inl (.aload_n 0), .inr (47, 0, 5)] 71 _ _ (by decide +kernel) rfl ?_
    refine aw_rV (cs' := 1) (sl' := 6) (pc' := 83) (idx := 220) (as := []) (st := []) (m_R_growR A hS) (by decide +kernel) (show vOK "ChanceBench" 220 M_R_grow 0 = true by decide +kernel) rfl rfl rfl (Nat.le_of_ble_eq_true rfl) (by decide) (by decide) (by decide) rfl rfl rfl (fun r80 h80 z80 => ?_)
    obtain ⟨rfl, r2, d2, hS2, rfl⟩ := z80
    refine aw_blk (pc' := 86) (ls' := [some (vr 0 0), some (vi e), some (vi (K : Int)), some (vi d), some (vr 9 k), some (vl ((2 * (uT n W wt i)) + (2 * (oT n W wt i)))), none, some (vl (2 * (pw 2 i))), none, some (vi ((i : Int) + 1))]) (st' := []) [.inl (.iinc 9 1)] 83 _ _ (by decide +kernel) rfl ?_
    refine aw_goto (o := -43) (tgt := 43) (by decide +kernel) (by decide) ?_
    exact aw_eq (by rw [pw_s, Int.mul_comm (pw 2 i)]; rfl) rfl rfl (ih r2 d2 hS2)

theorem m_B_lots_t3 {K : Nat} (hI : I32 e) (hK : K ≤ 40) (hi : I32 d) (hd1 : ¬ (d = 0 ∨ d = 1)) (hl1 : lawAt laws e = some (9, k)) (hA : isD dy k k1 k2 n at_ wt W) (A : lwN n at_ wt W) : AMet G M_B_lots [vr 0 0, vi e, vi (K : Int), vi d] (Hp (sgB bd tk) (sgS laws slot ahead made (od : Int) (dn : Int) (un : Int)) t (sgK (nn : Int) rr ff gg) df jo (sgR l9 W0 lv op r dd) di mo dy) (fun _ _ => False) (fun h => ∃ (r dd : Nat → Int) (j : Nat), h = ((Hp (sgB bd tk) (sgS laws slot ahead made (od : Int) (dn : Int) (un : Int)) t (sgK (nn : Int) rr ff gg) df jo (sgR (n : Int) W (lT n W wt K) (oT n W wt K) r dd) di mo dy).1 + j, junk (Hp (sgB bd tk) (sgS laws slot ahead made (od : Int) (dn : Int) (un : Int)) t (sgK (nn : Int) rr ff gg) df jo (sgR (n : Int) W (lT n W wt K) (oT n W wt K) r dd) di mo dy).2 j)) := by
  refine am_entry (by decide +kernel) (Nat.le_of_ble_eq_true rfl) ?_
  generalize hQr : (fun (_ : Option AV) (_ : HT) => False) = Qr
  generalize hQt : (fun h => ∃ (r dd : Nat → Int) (j : Nat), h = ((Hp (sgB bd tk) (sgS laws slot ahead made (od : Int) (dn : Int) (un : Int)) t (sgK (nn : Int) rr ff gg) df jo (sgR (n : Int) W (lT n W wt K) (oT n W wt K) r dd) di mo dy).1 + j, junk (Hp (sgB bd tk) (sgS laws slot ahead made (od : Int) (dn : Int) (un : Int)) t (sgK (nn : Int) rr ff gg) df jo (sgR (n : Int) W (lT n W wt K) (oT n W wt K) r dd) di mo dy).2 j)) = Qt
  refine aw_blk (pc' := 2) (ls' := [some (vr 0 0), some (vi e), some (vi (K : Int)), some (vi d), none, none, none, none, none, none]) (st' := [vi e, vr 0 0]) [.inl (.aload_n 0), .inl (.iload_n 1)] 0 _ _ (by decide +kernel) rfl ?_
  refine aw_dV (cs' := 1) (sl' := 6) (pc' := 5) (st' := [vr 9 k]) (idx := 143) (as := [vi e]) (st := []) (m_B_lawOf hI hl1) (by decide +kernel) (show vOK "ChanceBench" 143 M_B_lawOf 1 = true by decide +kernel) rfl rfl rfl (Nat.le_of_ble_eq_true rfl) (by decide) (by decide) (by decide) rfl rfl rfl rfl ?_
  refine aw_blk (pc' := 11) (ls' := [some (vr 0 0), some (vi e), some (vi (K : Int)), some (vi d), some (vr 9 k), none, none, none, none, none]) (st' := [vi 40, vi 0, vi (K : Int)]) [.inl (.astore 4), .inl (.iload_n 2), .inl (.iconst 0), .inl (.bipush 40)] 5 _ _ (by decide +kernel) rfl ?_
  refine aw_dS (cs' := 1) (sl' := 6) (pc' := 14) (st' := [vi (if 0 ≤ (K : Int) ∧ (K : Int) ≤ 40 then 1 else 0)]) (idx := 98) (as := [vi (K : Int), vi 0, vi 40]) (st := []) (m_B_isWithin (by omega) (by omega) (by omega)) (by decide +kernel) (show sOK "ChanceBench" 98 M_B_isWithin 3 = true by decide +kernel) rfl (Nat.le_of_ble_eq_true rfl) (by decide) (by decide) (by decide) rfl rfl rfl rfl ?_
  rw [if_pos (by omega)]
  refine aw_if_ne (o := 11) (tgt := 25) (by decide +kernel) (by decide) (by omega) (fun _ => ?_) (fun c => absurd c (by omega))
  refine aw_blk (pc' := 31) (ls' := [some (vr 0 0), some (vi e), some (vi (K : Int)), some (vi d), some (vr 9 k), none, none, none, none, none]) (st' := [vr 9 k, vr 6 0]) [.inl (.aload_n 0), .inr (47, 0, 5), .inl (.aload 4)] 25 _ _ (by decide +kernel) rfl ?_
  refine aw_rV (cs' := 1) (sl' := 6) (pc' := 34) (idx := 216) (as := [vr 9 k]) (st := []) (m_R_plantR hA A) (by decide +kernel) (show vOK "ChanceBench" 216 M_R_plant 1 = true by decide +kernel) rfl rfl rfl (Nat.le_of_ble_eq_true rfl) (by decide) (by decide) (by decide) rfl rfl rfl (fun r31 h31 z31 => ?_)
  obtain ⟨rfl, r, dd, hS, rfl⟩ := z31
  refine aw_blk (pc' := 43) (ls' := [some (vr 0 0), some (vi e), some (vi (K : Int)), some (vi d), some (vr 9 k), some (vl 0), none, some (vl 1), none, some (vi 0)]) (st' := []) [.inl (.lconst 0), .inl (.lstore 5), .inl (.lconst 1), .inl (.lstore 7), .inl (.iconst 0), .inl (.istore 9)] 34 _ _ (by decide +kernel) rfl ?_
  refine up_to (W := fun i : Nat => ∀ r dd, trS n W wt i r dd → AW G M_B_lots Qr Qt 1 6 43 [some (vr 0 0), some (vi e), some (vi (K : Int)), some (vi d), some (vr 9 k), some (vl (uT n W wt i)), none, some (vl (pw 2 i)), none, some (vi (i : Int))] [] (Hp [some (ob 0 [vr 1 0, vr 2 0, vr 3 0, vr 4 0, vr 5 0, vr 6 0, vr 7 0, vi bd, vi tk])] [some (ob 1 [vr 1 1, vr 1 2, vr 1 3, vr 1 4, vi (od : Int), vi (dn : Int), vi (un : Int)]), some (rs 16 laws), some (ar 0 30 slot), some (rs 30 ahead), some (rs 30 made)] t [some (ob 3 [vr 3 1, vr 3 2, vi (nn : Int), vi rr]), some (ar 0 24 ff), some (ar 1 24 gg)] df jo [some (ob 6 [vr 6 1, vr 6 2, vi (n : Int), vi W, vi (lT n W wt i), vi (oT n W wt i)]), some (ar 0 24 r), some (ar 0 24 dd)] di mo dy)) K ?_ (fun i hi ih => ?_) 0 (by omega) r dd hS
  · intro r dd hS
    have hu := uT_in A K
    have hp := pw2_in ⟨K, by omega⟩
    simp only at hp
    refine aw_blk (pc' := 46) (ls' := [some (vr 0 0), some (vi e), some (vi (K : Int)), some (vi d), some (vr 9 k), some (vl (uT n W wt K)), none, some (vl (pw 2 K)), none, some (vi (K : Int))]) (st' := [vi (K : Int), vi (K : Int)]) [.inl (.iload 9), .inl (.iload_n 2)] 43 _ _ (by decide +kernel) rfl ?_
    refine aw_icmp_ge (o := 43) (tgt := 89) (by decide +kernel) (by decide) (by omega) (by omega) (fun _ => ?_) (fun c => absurd (by omega) c)
    refine aw_blk (pc' := 94) (ls' := [some (vr 0 0), some (vi e), some (vi (K : Int)), some (vi d), some (vr 9 k), some (vl (uT n W wt K)), none, some (vl (pw 2 K)), none, some (vi (K : Int))]) (st' := [vi d, vl (pw 2 K), vl (uT n W wt K)]) [.inl (.lload 5), .inl (.lload 7), .inl (.iload_n 3)] 89 _ _ (by decide +kernel) rfl ?_
    exact aw_tS (idx := 152) (as := [vl (uT n W wt K), vl (pw 2 K), vi d]) (st := []) (m_B_part_t hi (by omega) (by omega)) (by decide +kernel) (show sOK "ChanceBench" 152 M_B_part 3 = true by decide +kernel) rfl (Nat.le_of_ble_eq_true rfl) (by decide) (by decide) (by decide) (fun j => by rw [← hQt]; exact ⟨r, dd, j, rfl⟩)
  · intro r dd hS
    have ho := oT_in A i
    refine aw_blk (pc' := 46) (ls' := [some (vr 0 0), some (vi e), some (vi (K : Int)), some (vi d), some (vr 9 k), some (vl (uT n W wt i)), none, some (vl (pw 2 i)), none, some (vi (i : Int))]) (st' := [vi (K : Int), vi (i : Int)]) [.inl (.iload 9), .inl (.iload_n 2)] 43 _ _ (by decide +kernel) rfl ?_
    refine aw_icmp_ge (o := 43) (tgt := 89) (by decide +kernel) (by decide) (by omega) (by omega) (fun c => absurd c (by omega)) (fun _ => ?_)
    refine aw_ldc2 (a := 2) (ix := 174) (v := 2) (by decide +kernel) (by decide +kernel) (by decide) ?_
    refine aw_blk (pc' := 60) (ls' := [some (vr 0 0), some (vi e), some (vi (K : Int)), some (vi d), some (vr 9 k), some (vl (uT n W wt i)), none, some (vl (pw 2 i)), none, some (vi (i : Int))]) (st' := [vr 6 0, vi 2, vl (2 * (uT n W wt i))]) [.inl (.lload 5), .inl (.lmul), .inl (.iconst 2), .inl (.aload_n 0), .inr (47, 0, 5)] 52 _ _ (by decide +kernel) rfl ?_
    refine aw_dV (cs' := 1) (sl' := 6) (pc' := 63) (st' := [vi (oT n W wt i), vi 2, vl (2 * (uT n W wt i))]) (idx := 210) (as := []) (st := [vi 2, vl (2 * (uT n W wt i))]) (m_R_openPlaces) (by decide +kernel) (show vOK "ChanceBench" 210 M_R_openPlaces 0 = true by decide +kernel) rfl rfl rfl (Nat.le_of_ble_eq_true rfl) (by decide) (by decide) (by decide) rfl rfl rfl rfl ?_
    refine aw_blk (pc' := 64) (ls' := [some (vr 0 0), some (vi e), some (vi (K : Int)), some (vi d), some (vr 9 k), some (vl (uT n W wt i)), none, some (vl (pw 2 i)), none, some (vi (i : Int))]) (st' := [vi (2 * (oT n W wt i)), vl (2 * (uT n W wt i))]) [.inl (.imul)] 63 _ _ (by decide +kernel) rfl ?_
    refine aw_i2l (by decide +kernel) (by omega) ?_
    refine aw_blk (pc' := 68) (ls' := [some (vr 0 0), some (vi e), some (vi (K : Int)), some (vi d), some (vr 9 k), some (vl ((2 * (uT n W wt i)) + (2 * (oT n W wt i)))), none, some (vl (pw 2 i)), none, some (vi (i : Int))]) (st' := []) [.inl (.ladd), .inl (.lstore 5)] 65 _ _ (by decide +kernel) rfl ?_
    refine aw_ldc2 (a := 2) (ix := 174) (v := 2) (by decide +kernel) (by decide +kernel) (by decide) ?_
    refine aw_blk (pc' := 80) (ls' := [some (vr 0 0), some (vi e), some (vi (K : Int)), some (vi d), some (vr 9 k), some (vl ((2 * (uT n W wt i)) + (2 * (oT n W wt i)))), none, some (vl (2 * (pw 2 i))), none, some (vi (i : Int))]) (st' := [vr 6 0]) [.inl (.lload 7), .inl (.lmul), .inl (.lstore 7), .inl (.aload_n 0), .inr (47, 0, 5)] 71 _ _ (by decide +kernel) rfl ?_
    refine aw_rV (cs' := 1) (sl' := 6) (pc' := 83) (idx := 220) (as := []) (st := []) (m_R_growR A hS) (by decide +kernel) (show vOK "ChanceBench" 220 M_R_grow 0 = true by decide +kernel) rfl rfl rfl (Nat.le_of_ble_eq_true rfl) (by decide) (by decide) (by decide) rfl rfl rfl (fun r80 h80 z80 => ?_)
    obtain ⟨rfl, r2, d2, hS2, rfl⟩ := z80
    refine aw_blk (pc' := 86) (ls' := [some (vr 0 0), some (vi e), some (vi (K : Int)), some (vi d), some (vr 9 k), some (vl ((2 * (uT n W wt i)) + (2 * (oT n W wt i)))), none, some (vl (2 * (pw 2 i))), none, some (vi ((i : Int) + 1))]) (st' := []) [.inl (.iinc 9 1)] 83 _ _ (by decide +kernel) rfl ?_
    refine aw_goto (o := -43) (tgt := 43) (by decide +kernel) (by decide) ?_
    exact aw_eq (by rw [pw_s, Int.mul_comm (pw 2 i)]; rfl) rfl rfl (ih r2 d2 hS2)

theorem m_B_lots_t2 (hI : I32 e) (hc : I32 c) (hd0 : ¬ (0 ≤ c ∧ c ≤ 40)) (hl1 : lawAt laws e = some (9, k)) : AThr G M_B_lots [vr 0 0, vi e, vi c, vi d] (Hp (sgB bd tk) (sgS laws slot ahead made (od : Int) (dn : Int) (un : Int)) t (sgK (nn : Int) rr ff gg) df jo tr di mo dy) := by
  refine am_thr (by decide +kernel) (Nat.le_of_ble_eq_true rfl) (fun Qr Qt hq => ?_)
  refine aw_blk (pc' := 2) (ls' := [some (vr 0 0), some (vi e), some (vi c), some (vi d), none, none, none, none, none, none]) (st' := [vi e, vr 0 0]) [.inl (.aload_n 0), .inl (.iload_n 1)] 0 _ _ (by decide +kernel) rfl ?_
  refine aw_dV (cs' := 1) (sl' := 6) (pc' := 5) (st' := [vr 9 k]) (idx := 143) (as := [vi e]) (st := []) (m_B_lawOf hI hl1) (by decide +kernel) (show vOK "ChanceBench" 143 M_B_lawOf 1 = true by decide +kernel) rfl rfl rfl (Nat.le_of_ble_eq_true rfl) (by decide) (by decide) (by decide) rfl rfl rfl rfl ?_
  refine aw_blk (pc' := 11) (ls' := [some (vr 0 0), some (vi e), some (vi c), some (vi d), some (vr 9 k), none, none, none, none, none]) (st' := [vi 40, vi 0, vi c]) [.inl (.astore 4), .inl (.iload_n 2), .inl (.iconst 0), .inl (.bipush 40)] 5 _ _ (by decide +kernel) rfl ?_
  refine aw_dS (cs' := 1) (sl' := 6) (pc' := 14) (st' := [vi (if 0 ≤ c ∧ c ≤ 40 then 1 else 0)]) (idx := 98) (as := [vi c, vi 0, vi 40]) (st := []) (m_B_isWithin hc (by omega) (by omega)) (by decide +kernel) (show sOK "ChanceBench" 98 M_B_isWithin 3 = true by decide +kernel) rfl (Nat.le_of_ble_eq_true rfl) (by decide) (by decide) (by decide) rfl rfl rfl rfl ?_
  rw [if_neg hd0]
  refine aw_if_ne (o := 11) (tgt := 25) (by decide +kernel) (by decide) (by omega) (fun c => absurd (by omega) c) (fun _ => ?_)
  exact aw_throw (ik := 146) (ic := 148) tOK_B (by decide +kernel) (by decide +kernel) (by decide +kernel) (by decide +kernel) (Nat.le_of_ble_eq_true rfl) (by decide) (by decide) (by decide) hq

def bitF (ft : Nat → Int) (k : Nat) : Int := ft (k / 8) / ((2 ^ (7 - k % 8) : Nat) : Int) % 2
theorem bitF_in (ft : Nat → Int) (k : Nat) : 0 ≤ bitF ft k ∧ bitF ft k ≤ 1 := by unfold bitF; omega
/-- the number among the nodes of depth k -/
def nT (n : Nat) (W : Int) (wt ft : Nat → Int) : Nat → Int
  | 0 => 0
  | k + 1 => 2 * (nT n W wt ft k - lT n W wt k) + bitF ft k
theorem nT_in : ∀ k, (∀ j, j < k → lT n W wt j ≤ nT n W wt ft j) → 0 ≤ nT n W wt ft k ∧ nT n W wt ft k < lT n W wt k + oT n W wt k
  | 0, _ => by simp only [nT, oT]; omega
  | k + 1, h => by
    have ih := nT_in k (fun j hj => h j (by omega))
    have h1 := h k (by omega)
    have hb := bitF_in ft k
    simp only [nT, oT]; omega
theorem iol_in (d : Nat → Int) (u : Int) : ∀ (e k : Nat) (l : Int), iol d u e k l = -1 ∨ ∃ j : Nat, iol d u e k l = (j : Int) ∧ j < k + e
  | 0, _, _ => Or.inl rfl
  | e + 1, k, l => by
    unfold iol
    split
    · split
      · exact Or.inr ⟨k, rfl, by omega⟩
      · rcases iol_in d u e (k + 1) (l + 1) with z | ⟨j, z, q⟩
        · exact Or.inl z
        · exact Or.inr ⟨j, z, by omega⟩
    · rcases iol_in d u e (k + 1) l with z | ⟨j, z, q⟩
      · exact Or.inl z
      · exact Or.inr ⟨j, z, by omega⟩
theorem iol_ext {d d' : Nat → Int} {u : Int} : ∀ (e k : Nat) (l : Int), (∀ i, k ≤ i → i < k + e → d i = d' i) → iol d u e k l = iol d' u e k l
  | 0, _, _, _ => rfl
  | e + 1, k, l, h => by
    unfold iol
    rw [h k (by omega) (by omega), iol_ext e (k + 1) (l + 1) (fun i a b => h i (by omega) (by omega)), iol_ext e (k + 1) l (fun i a b => h i (by omega) (by omega))]
def drA (n : Nat) (W : Int) (at_ wt ft : Nat → Int) (K : Nat) : Int := if iol (dT W wt K) (nT n W wt ft K) n 0 0 = -1 then 5000 else at_ (iol (dT W wt K) (nT n W wt ft K) n 0 0).toNat
/-- where the draw ends -/
def drE (n : Nat) (W : Int) (wt ft : Nat → Int) (N K : Nat) : Prop := K ≤ N ∧ (∀ j, j < K → lT n W wt j ≤ nT n W wt ft j) ∧ (K = N ∨ nT n W wt ft K < lT n W wt K)
theorem m_T_bitF {i : Nat} (hi : i < 8 * len) (hn : len ≤ 200) (hf : ∀ j, I32 (ft j)) : ADet G M_T_bitAt [vr 2 0, vi (i : Int)] (Hp b s (sgT (len : Int) ft) mk df jo tr di mo dy) (some (vi (bitF ft i))) (Hp b s (sgT (len : Int) ft) mk df jo tr di mo dy) := by
  have := m_T_bitAt (G := G) (a := (i : Int)) (b := b) (s := s) (mk := mk) (df := df) (jo := jo) (tr := tr) (di := di) (mo := mo) (dy := dy) (f := ft) (n := len) (by omega) hn hf
  rw [show ((i : Int) / 8).toNat = i / 8 by omega, show (7 - (i : Int) % 8).toNat = 7 - i % 8 by omega] at this
  exact this
theorem m_B_draw (hI : I32 e) (hln : len ≤ 200) (hf : ∀ i, 0 ≤ ft i ∧ ft i ≤ 255) (hl1 : lawAt laws e = some (9, k)) (hA : isD dy k k1 k2 n at_ wt W) (A : lwN n at_ wt W) : AMet G M_B_draw [vr 0 0, vi e] (Hp (sgB bd tk) (sgS laws slot ahead made (od : Int) (dn : Int) (un : Int)) (sgT (len : Int) ft) (sgK (nn : Int) rr ff gg) df jo (sgR l9 W0 lv op r dd) di mo dy) (fun x h => ∃ K, drE n W wt ft (8 * len) K ∧ x = some (vi (drA n W at_ wt ft K)) ∧ ∃ r dd, h = Hp (sgB bd (K : Int)) (sgS laws slot ahead made (od : Int) (dn : Int) (un : Int)) (sgT 0 ft) (sgK (nn : Int) rr ff gg) df jo (sgR (n : Int) W (lT n W wt K) (oT n W wt K) r dd) di mo dy) (fun _ => False) := by
  refine am_rel (by decide +kernel) (Nat.le_of_ble_eq_true rfl) (fun Qr Qt hq => ?_)
  have hn := A.1
  refine aw_blk (pc' := 2) (ls' := [some (vr 0 0), some (vi e), none, none, none, none, none]) (st' := [vi e, vr 0 0]) [.inl (.aload_n 0), .inl (.iload_n 1)] 0 _ _ (by decide +kernel) rfl ?_
  refine aw_dV (cs' := 1) (sl' := 6) (pc' := 5) (st' := [vr 9 k]) (idx := 143) (as := [vi e]) (st := []) (m_B_lawOf hI hl1) (by decide +kernel) (show vOK "ChanceBench" 143 M_B_lawOf 1 = true by decide +kernel) rfl rfl rfl (Nat.le_of_ble_eq_true rfl) (by decide) (by decide) (by decide) rfl rfl rfl rfl ?_
  refine aw_blk (pc' := 11) (ls' := [some (vr 0 0), some (vi e), some (vr 9 k), none, none, none, none]) (st' := [vr 9 k, vr 6 0]) [.inl (.astore_n 2), .inl (.aload_n 0), .inr (47, 0, 5), .inl (.aload_n 2)] 5 _ _ (by decide +kernel) rfl ?_
  refine aw_rV (cs' := 1) (sl' := 6) (pc' := 14) (idx := 216) (as := [vr 9 k]) (st := []) (m_R_plantR hA A) (by decide +kernel) (show vOK "ChanceBench" 216 M_R_plant 1 = true by decide +kernel) rfl rfl rfl (Nat.le_of_ble_eq_true rfl) (by decide) (by decide) (by decide) rfl rfl rfl (fun r11 h11 z11 => ?_)
  obtain ⟨rfl, r, dd, hS, rfl⟩ := z11
  refine aw_blk (pc' := 18) (ls' := [some (vr 0 0), some (vi e), some (vr 9 k), none, none, none, none]) (st' := [vr 2 0]) [.inl (.aload_n 0), .inr (19, 0, 1)] 14 _ _ (by decide +kernel) rfl ?_
  refine aw_dV (cs' := 1) (sl' := 6) (pc' := 21) (st' := [vi (len : Int)]) (idx := 73) (as := []) (st := []) (m_T_length) (by decide +kernel) (show vOK "ChanceBench" 73 M_T_length 0 = true by decide +kernel) rfl rfl rfl (Nat.le_of_ble_eq_true rfl) (by decide) (by decide) (by decide) rfl rfl rfl rfl ?_
  refine aw_blk (pc' := 31) (ls' := [some (vr 0 0), some (vi e), some (vr 9 k), some (vi ((len : Int) * 8)), some (vi 0), some (vi 0), none]) (st' := []) [.inl (.bipush 8), .inl (.imul), .inl (.istore_n 3), .inl (.iconst 0), .inl (.istore 4), .inl (.iconst 0), .inl (.istore 5)] 21 _ _ (by decide +kernel) rfl ?_
  refine aw_eq (ls' := [some (vr 0 0), some (vi e), some (vr 9 k), some (vi ((8 * len : Nat) : Int)), some (vi (nT n W wt ft 0)), some (vi ((0 : Nat) : Int)), none]) (by rw [show (len : Int) * 8 = ((8 * len : Nat) : Int) by omega]; rfl) rfl rfl ?_
  refine up_to (W := fun i : Nat => (∀ j, j < i → lT n W wt j ≤ nT n W wt ft j) → ∀ r dd, trS n W wt i r dd → AW G M_B_draw Qr Qt 1 6 31 [some (vr 0 0), some (vi e), some (vr 9 k), some (vi ((8 * len : Nat) : Int)), some (vi (nT n W wt ft i)), some (vi (i : Int)), none] [] (Hp [some (ob 0 [vr 1 0, vr 2 0, vr 3 0, vr 4 0, vr 5 0, vr 6 0, vr 7 0, vi bd, vi tk])] [some (ob 1 [vr 1 1, vr 1 2, vr 1 3, vr 1 4, vi (od : Int), vi (dn : Int), vi (un : Int)]), some (rs 16 laws), some (ar 0 30 slot), some (rs 30 ahead), some (rs 30 made)] [some (ob 2 [vr 2 1, vi (len : Int)]), some (ar 0 200 ft)] [some (ob 3 [vr 3 1, vr 3 2, vi (nn : Int), vi rr]), some (ar 0 24 ff), some (ar 1 24 gg)] df jo [some (ob 6 [vr 6 1, vr 6 2, vi (n : Int), vi W, vi (lT n W wt i), vi (oT n W wt i)]), some (ar 0 24 r), some (ar 0 24 dd)] di mo dy)) (8 * len) ?_ (fun i hi ih => ?_) 0 (by omega) (fun j hj => by omega) r dd hS
  · intro hp r dd hS
    have hnb := nT_in (8 * len) hp
    have hlb := lT_in n W wt (8 * len)
    have hob := oT_in A (8 * len)
    refine aw_blk (pc' := 34) (ls' := [some (vr 0 0), some (vi e), some (vr 9 k), some (vi ((8 * len : Nat) : Int)), some (vi (nT n W wt ft (8 * len))), some (vi ((8 * len : Nat) : Int)), none]) (st' := [vi ((8 * len : Nat) : Int), vi ((8 * len : Nat) : Int)]) [.inl (.iload 5), .inl (.iload_n 3)] 31 _ _ (by decide +kernel) rfl ?_
    refine aw_icmp_ge (o := 52) (tgt := 86) (by decide +kernel) (by decide) (by omega) (by omega) (fun _ => ?_) (fun c => absurd (by omega) c)
    refine aw_blk (pc' := 89) (ls' := [some (vr 0 0), some (vi e), some (vr 9 k), some (vi ((8 * len : Nat) : Int)), some (vi (nT n W wt ft (8 * len))), some (vi ((8 * len : Nat) : Int)), none]) (st' := [vi ((8 * len : Nat) : Int), vr 0 0]) [.inl (.aload_n 0), .inl (.iload 5)] 86 _ _ (by decide +kernel) rfl ?_
    refine aw_put (idx := 62) (ci := 0) (k := 8) (h' := Hp [some (ob 0 [vr 1 0, vr 2 0, vr 3 0, vr 4 0, vr 5 0, vr 6 0, vr 7 0, vi bd, vi ((8 * len : Nat) : Int)])] [some (ob 1 [vr 1 1, vr 1 2, vr 1 3, vr 1 4, vi (od : Int), vi (dn : Int), vi (un : Int)]), some (rs 16 laws), some (ar 0 30 slot), some (rs 30 ahead), some (rs 30 made)] [some (ob 2 [vr 2 1, vi (len : Int)]), some (ar 0 200 ft)] [some (ob 3 [vr 3 1, vr 3 2, vi (nn : Int), vi rr]), some (ar 0 24 ff), some (ar 1 24 gg)] df jo [some (ob 6 [vr 6 1, vr 6 2, vi (n : Int), vi W, vi (lT n W wt (8 * len)), vi (oT n W wt (8 * len))]), some (ar 0 24 r), some (ar 0 24 dd)] di mo dy) (by decide +kernel) (by decide +kernel) rfl (Nat.le_of_ble_eq_true rfl) (show I32 _ from by omega) rfl ?_
    refine aw_blk (pc' := 96) (ls' := [some (vr 0 0), some (vi e), some (vr 9 k), some (vi ((8 * len : Nat) : Int)), some (vi (nT n W wt ft (8 * len))), some (vi ((8 * len : Nat) : Int)), none]) (st' := [vr 2 0]) [.inl (.aload_n 0), .inr (19, 0, 1)] 92 _ _ (by decide +kernel) rfl ?_
    refine aw_dV (cs' := 1) (sl' := 6) (pc' := 99) (st' := []) (idx := 92) (as := []) (st := []) (m_T_empty) (by decide +kernel) (show vOK "ChanceBench" 92 M_T_empty 0 = true by decide +kernel) rfl rfl rfl (Nat.le_of_ble_eq_true rfl) (by decide) (by decide) (by decide) rfl rfl rfl rfl ?_
    refine aw_blk (pc' := 105) (ls' := [some (vr 0 0), some (vi e), some (vr 9 k), some (vi ((8 * len : Nat) : Int)), some (vi (nT n W wt ft (8 * len))), some (vi ((8 * len : Nat) : Int)), none]) (st' := [vi (nT n W wt ft (8 * len)), vr 6 0]) [.inl (.aload_n 0), .inr (47, 0, 5), .inl (.iload 4)] 99 _ _ (by decide +kernel) rfl ?_
    refine aw_dV (cs' := 1) (sl' := 6) (pc' := 108) (st' := [vi (iol dd (nT n W wt ft (8 * len)) n 0 0)]) (idx := 229) (as := [vi (nT n W wt ft (8 * len))]) (st := []) (m_R_indexOfLeaf (by omega) (by omega)) (by decide +kernel) (show vOK "ChanceBench" 229 M_R_indexOfLeaf 1 = true by decide +kernel) rfl rfl rfl (Nat.le_of_ble_eq_true rfl) (by decide) (by decide) (by decide) rfl rfl rfl rfl ?_
    rw [iol_ext n 0 0 (fun i _ hi => (hS i (by omega)).2)]
    have hio := iol_in (dT W wt (8 * len)) (nT n W wt ft (8 * len)) n 0 0
    refine aw_blk (pc' := 113) (ls' := [some (vr 0 0), some (vi e), some (vr 9 k), some (vi ((8 * len : Nat) : Int)), some (vi (nT n W wt ft (8 * len))), some (vi ((8 * len : Nat) : Int)), some (vi (iol (dT W wt (8 * len)) (nT n W wt ft (8 * len)) n 0 0))]) (st' := [vi (-1), vi (iol (dT W wt (8 * len)) (nT n W wt ft (8 * len)) n 0 0)]) [.inl (.istore 6), .inl (.iload 6), .inl (.iconst (-1))] 108 _ _ (by decide +kernel) rfl ?_
    have hio2 : I32 (iol (dT W wt (8 * len)) (nT n W wt ft (8 * len)) n 0 0) := by rcases hio with z | ⟨j, z, q⟩ <;> rw [z] <;> omega
    refine aw_icmp_ne (o := 9) (tgt := 122) (by decide +kernel) (by decide) (by omega) (by omega) (fun c113 => ?_) (fun c113 => ?_)
    · obtain ⟨j9, ej, hj9⟩ := hio.resolve_left c113
      have haj := A.2.2.1 j9 (by omega)
      have eA : drA n W at_ wt ft (8 * len) = at_ j9 := by rw [drA, if_neg c113, ej]; rfl
      rw [ej]
      refine aw_blk (pc' := 123) (ls' := [some (vr 0 0), some (vi e), some (vr 9 k), some (vi ((8 * len : Nat) : Int)), some (vi (nT n W wt ft (8 * len))), some (vi ((8 * len : Nat) : Int)), some (vi (j9 : Int))]) (st' := [vr 9 k]) [.inl (.aload_n 2)] 122 _ _ (by decide +kernel) rfl ?_
      refine aw_get (idx := 121) (ci := 9) (f := 0) (by decide +kernel) (by decide +kernel) hA.1 rfl ?_
      refine aw_blk (pc' := 128) (ls' := [some (vr 0 0), some (vi e), some (vr 9 k), some (vi ((8 * len : Nat) : Int)), some (vi (nT n W wt ft (8 * len))), some (vi ((8 * len : Nat) : Int)), some (vi (j9 : Int))]) (st' := [vi (j9 : Int), vr 9 k1]) [.inl (.iload 6)] 126 _ _ (by decide +kernel) rfl ?_
      refine aw_iald (j := j9) (by decide +kernel) hA.2.1 (by omega) (by omega) (fun r128 => ?_)
      exact aw_iret (by decide +kernel) rfl (by decide) (by decide) (hq _ _ ⟨8 * len, ⟨Nat.le_refl _, hp, Or.inl rfl⟩, by rw [eA], r, dd, rfl⟩)
    · refine aw_blk (pc' := 119) (ls' := [some (vr 0 0), some (vi e), some (vr 9 k), some (vi ((8 * len : Nat) : Int)), some (vi (nT n W wt ft (8 * len))), some (vi ((8 * len : Nat) : Int)), some (vi (iol (dT W wt (8 * len)) (nT n W wt ft (8 * len)) n 0 0))]) (st' := [vi 5000]) [.inl (.sipush 5000)] 116 _ _ (by decide +kernel) rfl ?_
      refine aw_goto (o := 10) (tgt := 129) (by decide +kernel) (by decide) ?_
      exact aw_iret (by decide +kernel) rfl (by decide) (by decide) (hq _ _ ⟨8 * len, ⟨Nat.le_refl _, hp, Or.inl rfl⟩, by rw [drA, if_pos c113], r, dd, rfl⟩)
  · intro hp r dd hS
    have hnb := nT_in i hp
    have hlb := lT_in n W wt i
    have hob := oT_in A i
    refine aw_blk (pc' := 34) (ls' := [some (vr 0 0), some (vi e), some (vr 9 k), some (vi ((8 * len : Nat) : Int)), some (vi (nT n W wt ft i)), some (vi (i : Int)), none]) (st' := [vi ((8 * len : Nat) : Int), vi (i : Int)]) [.inl (.iload 5), .inl (.iload_n 3)] 31 _ _ (by decide +kernel) rfl ?_
    refine aw_icmp_ge (o := 52) (tgt := 86) (by decide +kernel) (by decide) (by omega) (by omega) (fun c => absurd c (by omega)) (fun _ => ?_)
    refine aw_blk (pc' := 43) (ls' := [some (vr 0 0), some (vi e), some (vr 9 k), some (vi ((8 * len : Nat) : Int)), some (vi (nT n W wt ft i)), some (vi (i : Int)), none]) (st' := [vr 6 0, vi (nT n W wt ft i)]) [.inl (.iload 4), .inl (.aload_n 0), .inr (47, 0, 5)] 37 _ _ (by decide +kernel) rfl ?_
    refine aw_dV (cs' := 1) (sl' := 6) (pc' := 46) (st' := [vi (lT n W wt (i)), vi (nT n W wt ft i)]) (idx := 223) (as := []) (st := [vi (nT n W wt ft i)]) (m_R_leaves) (by decide +kernel) (show vOK "ChanceBench" 223 M_R_leaves 0 = true by decide +kernel) rfl rfl rfl (Nat.le_of_ble_eq_true rfl) (by decide) (by decide) (by decide) rfl rfl rfl rfl ?_
    refine aw_icmp_lt (o := 40) (tgt := 86) (by decide +kernel) (by decide) (by omega) (by omega) (fun c46 => ?_) (fun c46 => ?_)
    · refine aw_blk (pc' := 89) (ls' := [some (vr 0 0), some (vi e), some (vr 9 k), some (vi ((8 * len : Nat) : Int)), some (vi (nT n W wt ft i)), some (vi (i : Int)), none]) (st' := [vi (i : Int), vr 0 0]) [.inl (.aload_n 0), .inl (.iload 5)] 86 _ _ (by decide +kernel) rfl ?_
      refine aw_put (idx := 62) (ci := 0) (k := 8) (h' := Hp [some (ob 0 [vr 1 0, vr 2 0, vr 3 0, vr 4 0, vr 5 0, vr 6 0, vr 7 0, vi bd, vi (i : Int)])] [some (ob 1 [vr 1 1, vr 1 2, vr 1 3, vr 1 4, vi (od : Int), vi (dn : Int), vi (un : Int)]), some (rs 16 laws), some (ar 0 30 slot), some (rs 30 ahead), some (rs 30 made)] [some (ob 2 [vr 2 1, vi (len : Int)]), some (ar 0 200 ft)] [some (ob 3 [vr 3 1, vr 3 2, vi (nn : Int), vi rr]), some (ar 0 24 ff), some (ar 1 24 gg)] df jo [some (ob 6 [vr 6 1, vr 6 2, vi (n : Int), vi W, vi (lT n W wt (i)), vi (oT n W wt (i))]), some (ar 0 24 r), some (ar 0 24 dd)] di mo dy) (by decide +kernel) (by decide +kernel) rfl (Nat.le_of_ble_eq_true rfl) (show I32 _ from by omega) rfl ?_
      refine aw_blk (pc' := 96) (ls' := [some (vr 0 0), some (vi e), some (vr 9 k), some (vi ((8 * len : Nat) : Int)), some (vi (nT n W wt ft i)), some (vi (i : Int)), none]) (st' := [vr 2 0]) [.inl (.aload_n 0), .inr (19, 0, 1)] 92 _ _ (by decide +kernel) rfl ?_
      refine aw_dV (cs' := 1) (sl' := 6) (pc' := 99) (st' := []) (idx := 92) (as := []) (st := []) (m_T_empty) (by decide +kernel) (show vOK "ChanceBench" 92 M_T_empty 0 = true by decide +kernel) rfl rfl rfl (Nat.le_of_ble_eq_true rfl) (by decide) (by decide) (by decide) rfl rfl rfl rfl ?_
      refine aw_blk (pc' := 105) (ls' := [some (vr 0 0), some (vi e), some (vr 9 k), some (vi ((8 * len : Nat) : Int)), some (vi (nT n W wt ft i)), some (vi (i : Int)), none]) (st' := [vi (nT n W wt ft i), vr 6 0]) [.inl (.aload_n 0), .inr (47, 0, 5), .inl (.iload 4)] 99 _ _ (by decide +kernel) rfl ?_
      refine aw_dV (cs' := 1) (sl' := 6) (pc' := 108) (st' := [vi (iol dd (nT n W wt ft (i)) n 0 0)]) (idx := 229) (as := [vi (nT n W wt ft i)]) (st := []) (m_R_indexOfLeaf (by omega) (by omega)) (by decide +kernel) (show vOK "ChanceBench" 229 M_R_indexOfLeaf 1 = true by decide +kernel) rfl rfl rfl (Nat.le_of_ble_eq_true rfl) (by decide) (by decide) (by decide) rfl rfl rfl rfl ?_
      rw [iol_ext n 0 0 (fun i _ hi => (hS i (by omega)).2)]
      have hio := iol_in (dT W wt (i)) (nT n W wt ft (i)) n 0 0
      refine aw_blk (pc' := 113) (ls' := [some (vr 0 0), some (vi e), some (vr 9 k), some (vi ((8 * len : Nat) : Int)), some (vi (nT n W wt ft i)), some (vi (i : Int)), some (vi (iol (dT W wt (i)) (nT n W wt ft (i)) n 0 0))]) (st' := [vi (-1), vi (iol (dT W wt (i)) (nT n W wt ft (i)) n 0 0)]) [.inl (.istore 6), .inl (.iload 6), .inl (.iconst (-1))] 108 _ _ (by decide +kernel) rfl ?_
      have hio2 : I32 (iol (dT W wt (i)) (nT n W wt ft (i)) n 0 0) := by rcases hio with z | ⟨j, z, q⟩ <;> rw [z] <;> omega
      refine aw_icmp_ne (o := 9) (tgt := 122) (by decide +kernel) (by decide) (by omega) (by omega) (fun c113 => ?_) (fun c113 => ?_)
      · obtain ⟨j9, ej, hj9⟩ := hio.resolve_left c113
        have haj := A.2.2.1 j9 (by omega)
        have eA : drA n W at_ wt ft (i) = at_ j9 := by rw [drA, if_neg c113, ej]; rfl
        rw [ej]
        refine aw_blk (pc' := 123) (ls' := [some (vr 0 0), some (vi e), some (vr 9 k), some (vi ((8 * len : Nat) : Int)), some (vi (nT n W wt ft i)), some (vi (i : Int)), some (vi (j9 : Int))]) (st' := [vr 9 k]) [.inl (.aload_n 2)] 122 _ _ (by decide +kernel) rfl ?_
        refine aw_get (idx := 121) (ci := 9) (f := 0) (by decide +kernel) (by decide +kernel) hA.1 rfl ?_
        refine aw_blk (pc' := 128) (ls' := [some (vr 0 0), some (vi e), some (vr 9 k), some (vi ((8 * len : Nat) : Int)), some (vi (nT n W wt ft i)), some (vi (i : Int)), some (vi (j9 : Int))]) (st' := [vi (j9 : Int), vr 9 k1]) [.inl (.iload 6)] 126 _ _ (by decide +kernel) rfl ?_
        refine aw_iald (j := j9) (by decide +kernel) hA.2.1 (by omega) (by omega) (fun r128 => ?_)
        exact aw_iret (by decide +kernel) rfl (by decide) (by decide) (hq _ _ ⟨i, ⟨by omega, hp, Or.inr c46⟩, by rw [eA], r, dd, rfl⟩)
      · refine aw_blk (pc' := 119) (ls' := [some (vr 0 0), some (vi e), some (vr 9 k), some (vi ((8 * len : Nat) : Int)), some (vi (nT n W wt ft i)), some (vi (i : Int)), some (vi (iol (dT W wt (i)) (nT n W wt ft (i)) n 0 0))]) (st' := [vi 5000]) [.inl (.sipush 5000)] 116 _ _ (by decide +kernel) rfl ?_
        refine aw_goto (o := 10) (tgt := 129) (by decide +kernel) (by decide) ?_
        exact aw_iret (by decide +kernel) rfl (by decide) (by decide) (hq _ _ ⟨i, ⟨by omega, hp, Or.inr c46⟩, by rw [drA, if_pos c113], r, dd, rfl⟩)
    · refine aw_blk (pc' := 56) (ls' := [some (vr 0 0), some (vi e), some (vr 9 k), some (vi ((8 * len : Nat) : Int)), some (vi (nT n W wt ft i)), some (vi (i : Int)), none]) (st' := [vr 6 0, vi (nT n W wt ft i), vi 2]) [.inl (.iconst 2), .inl (.iload 4), .inl (.aload_n 0), .inr (47, 0, 5)] 49 _ _ (by decide +kernel) rfl ?_
      refine aw_dV (cs' := 1) (sl' := 6) (pc' := 59) (st' := [vi (lT n W wt (i)), vi (nT n W wt ft i), vi 2]) (idx := 223) (as := []) (st := [vi (nT n W wt ft i), vi 2]) (m_R_leaves) (by decide +kernel) (show vOK "ChanceBench" 223 M_R_leaves 0 = true by decide +kernel) rfl rfl rfl (Nat.le_of_ble_eq_true rfl) (by decide) (by decide) (by decide) rfl rfl rfl rfl ?_
      refine aw_blk (pc' := 67) (ls' := [some (vr 0 0), some (vi e), some (vr 9 k), some (vi ((8 * len : Nat) : Int)), some (vi (nT n W wt ft i)), some (vi (i : Int)), none]) (st' := [vi (i : Int), vr 2 0, vi (2 * ((nT n W wt ft i) - (lT n W wt (i))))]) [.inl (.isub), .inl (.imul), .inl (.aload_n 0), .inr (19, 0, 1), .inl (.iload 5)] 59 _ _ (by decide +kernel) rfl ?_
      refine aw_dV (cs' := 1) (sl' := 6) (pc' := 70) (st' := [vi (bitF ft i), vi (2 * ((nT n W wt ft i) - (lT n W wt (i))))]) (idx := 226) (as := [vi (i : Int)]) (st := [vi (2 * ((nT n W wt ft i) - (lT n W wt (i))))]) (m_T_bitF (by omega) (by omega) (fun j => by have := hf j; omega)) (by decide +kernel) (show vOK "ChanceBench" 226 M_T_bitAt 1 = true by decide +kernel) rfl rfl rfl (Nat.le_of_ble_eq_true rfl) (by decide) (by decide) (by decide) rfl rfl rfl rfl ?_
      have hbi := bitF_in ft i
      refine aw_blk (pc' := 77) (ls' := [some (vr 0 0), some (vi e), some (vr 9 k), some (vi ((8 * len : Nat) : Int)), some (vi ((2 * ((nT n W wt ft i) - (lT n W wt (i)))) + (bitF ft i))), some (vi (i : Int)), none]) (st' := [vr 6 0]) [.inl (.iadd), .inl (.istore 4), .inl (.aload_n 0), .inr (47, 0, 5)] 70 _ _ (by decide +kernel) rfl ?_
      refine aw_rV (cs' := 1) (sl' := 6) (pc' := 80) (idx := 220) (as := []) (st := []) (m_R_growR A hS) (by decide +kernel) (show vOK "ChanceBench" 220 M_R_grow 0 = true by decide +kernel) rfl rfl rfl (Nat.le_of_ble_eq_true rfl) (by decide) (by decide) (by decide) rfl rfl rfl (fun r77 h77 z77 => ?_)
      obtain ⟨rfl, r2, d2, hS2, rfl⟩ := z77
      refine aw_blk (pc' := 83) (ls' := [some (vr 0 0), some (vi e), some (vr 9 k), some (vi ((8 * len : Nat) : Int)), some (vi ((2 * ((nT n W wt ft i) - (lT n W wt (i)))) + (bitF ft i))), some (vi ((i : Int) + 1)), none]) (st' := []) [.inl (.iinc 5 1)] 80 _ _ (by decide +kernel) rfl ?_
      refine aw_goto (o := -52) (tgt := 31) (by decide +kernel) (by decide) ?_
      exact ih (fun j hj => by rcases Nat.lt_or_ge j i with z | z; exact hp j z; rw [show j = i by omega]; omega) r2 d2 hS2

def fed (ft : Nat → Int) (n : Nat) (a b c d e : Int) : Nat → Int := wr4 (wr4 (wr4 (wr4 (wr4 ft n a) (n + 4) b) (n + 8) c) (n + 12) d) (n + 16) e
theorem m_B_feed (hr : len + 20 ≤ 200) : ADet G M_B_feed [vr 0 0, vi a, vi c, vi d, vi e, vi B] (Hp (sgB bd tk) (sgS laws slot ahead made (od : Int) (dn : Int) (un : Int)) (sgT (len : Int) ft) (sgK (nn : Int) rr ff gg) df jo tr di mo dy) (some (vi ((len + 20 : Nat) : Int))) (Hp (sgB bd tk) (sgS laws slot ahead made (od : Int) (dn : Int) (un : Int)) (sgT ((len + 20 : Nat) : Int) (fed ft len a c d e B)) (sgK (nn : Int) rr ff gg) df jo tr di mo dy) := by
  refine am_det (by decide +kernel) (Nat.le_of_ble_eq_true rfl) (fun Qr Qt hq => ?_)
  refine aw_blk (pc' := 4) (ls' := [some (vr 0 0), some (vi a), some (vi c), some (vi d), some (vi e), some (vi B)]) (st' := [vr 2 0]) [.inl (.aload_n 0), .inr (19, 0, 1)] 0 _ _ (by decide +kernel) rfl ?_
  refine aw_dV (cs' := 0) (sl' := 0) (pc' := 7) (st' := [vi (if (len : Int) + 20 ≤ 200 then 1 else 0)]) (idx := 65) (as := []) (st := []) (m_T_hasRoom (by omega) (by omega)) (by decide +kernel) (show vOK "ChanceBench" 65 M_T_hasRoom 0 = true by decide +kernel) rfl rfl rfl (Nat.le_of_ble_eq_true rfl) (by decide) (by decide) (by decide) rfl rfl rfl rfl ?_
  rw [if_pos (by omega)]
  refine aw_if_ne (o := 5) (tgt := 12) (by decide +kernel) (by decide) (by omega) (fun _ => ?_) (fun c => absurd c (by omega))
  refine aw_blk (pc' := 17) (ls' := [some (vr 0 0), some (vi a), some (vi c), some (vi d), some (vi e), some (vi B)]) (st' := [vi a, vr 2 0]) [.inl (.aload_n 0), .inr (19, 0, 1), .inl (.iload_n 1)] 12 _ _ (by decide +kernel) rfl ?_
  refine aw_dV (cs' := 0) (sl' := 0) (pc' := 20) (st' := []) (idx := 69) (as := [vi a]) (st := []) (m_T_write (n := len) (by omega)) (by decide +kernel) (show vOK "ChanceBench" 69 M_T_write 1 = true by decide +kernel) rfl rfl rfl (Nat.le_of_ble_eq_true rfl) (by decide) (by decide) (by decide) rfl rfl rfl rfl ?_
  refine aw_blk (pc' := 25) (ls' := [some (vr 0 0), some (vi a), some (vi c), some (vi d), some (vi e), some (vi B)]) (st' := [vi c, vr 2 0]) [.inl (.aload_n 0), .inr (19, 0, 1), .inl (.iload_n 2)] 20 _ _ (by decide +kernel) rfl ?_
  refine aw_dV (cs' := 0) (sl' := 0) (pc' := 28) (st' := []) (idx := 69) (as := [vi c]) (st := []) (m_T_write (n := len + 4) (by omega)) (by decide +kernel) (show vOK "ChanceBench" 69 M_T_write 1 = true by decide +kernel) rfl rfl rfl (Nat.le_of_ble_eq_true rfl) (by decide) (by decide) (by decide) rfl rfl rfl rfl ?_
  refine aw_blk (pc' := 33) (ls' := [some (vr 0 0), some (vi a), some (vi c), some (vi d), some (vi e), some (vi B)]) (st' := [vi d, vr 2 0]) [.inl (.aload_n 0), .inr (19, 0, 1), .inl (.iload_n 3)] 28 _ _ (by decide +kernel) rfl ?_
  refine aw_dV (cs' := 0) (sl' := 0) (pc' := 36) (st' := []) (idx := 69) (as := [vi d]) (st := []) (m_T_write (n := len + 8) (by omega)) (by decide +kernel) (show vOK "ChanceBench" 69 M_T_write 1 = true by decide +kernel) rfl rfl rfl (Nat.le_of_ble_eq_true rfl) (by decide) (by decide) (by decide) rfl rfl rfl rfl ?_
  refine aw_blk (pc' := 42) (ls' := [some (vr 0 0), some (vi a), some (vi c), some (vi d), some (vi e), some (vi B)]) (st' := [vi e, vr 2 0]) [.inl (.aload_n 0), .inr (19, 0, 1), .inl (.iload 4)] 36 _ _ (by decide +kernel) rfl ?_
  refine aw_dV (cs' := 0) (sl' := 0) (pc' := 45) (st' := []) (idx := 69) (as := [vi e]) (st := []) (m_T_write (n := len + 12) (by omega)) (by decide +kernel) (show vOK "ChanceBench" 69 M_T_write 1 = true by decide +kernel) rfl rfl rfl (Nat.le_of_ble_eq_true rfl) (by decide) (by decide) (by decide) rfl rfl rfl rfl ?_
  refine aw_blk (pc' := 51) (ls' := [some (vr 0 0), some (vi a), some (vi c), some (vi d), some (vi e), some (vi B)]) (st' := [vi B, vr 2 0]) [.inl (.aload_n 0), .inr (19, 0, 1), .inl (.iload 5)] 45 _ _ (by decide +kernel) rfl ?_
  refine aw_dV (cs' := 0) (sl' := 0) (pc' := 54) (st' := []) (idx := 69) (as := [vi B]) (st := []) (m_T_write (n := len + 16) (by omega)) (by decide +kernel) (show vOK "ChanceBench" 69 M_T_write 1 = true by decide +kernel) rfl rfl rfl (Nat.le_of_ble_eq_true rfl) (by decide) (by decide) (by decide) rfl rfl rfl rfl ?_
  refine aw_blk (pc' := 58) (ls' := [some (vr 0 0), some (vi a), some (vi c), some (vi d), some (vi e), some (vi B)]) (st' := [vr 2 0]) [.inl (.aload_n 0), .inr (19, 0, 1)] 54 _ _ (by decide +kernel) rfl ?_
  refine aw_dV (cs' := 0) (sl' := 0) (pc' := 61) (st' := [vi ((len + 20 : Nat) : Int)]) (idx := 73) (as := []) (st := []) (m_T_length) (by decide +kernel) (show vOK "ChanceBench" 73 M_T_length 0 = true by decide +kernel) rfl rfl rfl (Nat.le_of_ble_eq_true rfl) (by decide) (by decide) (by decide) rfl rfl rfl rfl ?_
  exact aw_iret (by decide +kernel) rfl (by decide) (by decide) (hq _ _ rfl rfl)

theorem m_B_feed_0 (hl : len ≤ 200) (hr : ¬ len + 20 ≤ 200) : ADet G M_B_feed [vr 0 0, vi a, vi c, vi d, vi e, vi B] (Hp (sgB bd tk) (sgS laws slot ahead made (od : Int) (dn : Int) (un : Int)) (sgT (len : Int) ft) (sgK (nn : Int) rr ff gg) df jo tr di mo dy) (some (vi (-1))) (Hp (sgB bd tk) (sgS laws slot ahead made (od : Int) (dn : Int) (un : Int)) (sgT (len : Int) ft) (sgK (nn : Int) rr ff gg) df jo tr di mo dy) := by
  refine am_det (by decide +kernel) (Nat.le_of_ble_eq_true rfl) (fun Qr Qt hq => ?_)
  refine aw_blk (pc' := 4) (ls' := [some (vr 0 0), some (vi a), some (vi c), some (vi d), some (vi e), some (vi B)]) (st' := [vr 2 0]) [.inl (.aload_n 0), .inr (19, 0, 1)] 0 _ _ (by decide +kernel) rfl ?_
  refine aw_dV (cs' := 0) (sl' := 0) (pc' := 7) (st' := [vi (if (len : Int) + 20 ≤ 200 then 1 else 0)]) (idx := 65) (as := []) (st := []) (m_T_hasRoom (by omega) (by omega)) (by decide +kernel) (show vOK "ChanceBench" 65 M_T_hasRoom 0 = true by decide +kernel) rfl rfl rfl (Nat.le_of_ble_eq_true rfl) (by decide) (by decide) (by decide) rfl rfl rfl rfl ?_
  rw [if_neg (by omega)]
  refine aw_if_ne (o := 5) (tgt := 12) (by decide +kernel) (by decide) (by omega) (fun c => absurd (by omega) c) (fun _ => ?_)
  refine aw_blk (pc' := 11) (ls' := [some (vr 0 0), some (vi a), some (vi c), some (vi d), some (vi e), some (vi B)]) (st' := [vi (-1)]) [.inl (.iconst (-1))] 10 _ _ (by decide +kernel) rfl ?_
  exact aw_iret (by decide +kernel) rfl (by decide) (by decide) (hq _ _ rfl rfl)

theorem m_B_end_1 (ha : I32 a) (hl : len ≤ 200) (ha2 : 0 ≤ a ∧ a ≤ (len : Int)) : ADet G M_B_end [vr 0 0, vi a] (Hp (sgB bd tk) (sgS laws slot ahead made (od : Int) (dn : Int) (un : Int)) (sgT (len : Int) ft) (sgK (nn : Int) rr ff gg) df jo tr di mo dy) (some (vi 1)) (Hp (sgB bd tk) (sgS laws slot ahead made (od : Int) (dn : Int) (un : Int)) (sgT a ft) (sgK (nn : Int) rr ff gg) df jo tr di mo dy) := by
  refine am_det (by decide +kernel) (Nat.le_of_ble_eq_true rfl) (fun Qr Qt hq => ?_)
  refine aw_blk (pc' := 5) (ls' := [some (vr 0 0), some (vi a)]) (st' := [vi a, vr 2 0]) [.inl (.aload_n 0), .inr (19, 0, 1), .inl (.iload_n 1)] 0 _ _ (by decide +kernel) rfl ?_
  have hc := m_T_cut (G := G) (b := sgB bd tk) (s := (sgS laws slot ahead made (od : Int) (dn : Int) (un : Int))) (mk := sgK (nn : Int) rr ff gg) (df := df) (jo := jo) (tr := tr) (di := di) (mo := mo) (dy := dy) (f := ft) ha (show 0 ≤ (len : Int) by omega) (by omega)
  rw [if_pos ha2, if_pos ha2] at hc
  refine aw_dV (cs' := 0) (sl' := 0) (pc' := 8) (st' := [vi 1]) (idx := 77) (as := [vi a]) (st := []) (hc) (by decide +kernel) (show vOK "ChanceBench" 77 M_T_cut 1 = true by decide +kernel) rfl rfl rfl (Nat.le_of_ble_eq_true rfl) (by decide) (by decide) (by decide) rfl rfl rfl rfl ?_
  exact aw_zret (by decide +kernel) rfl (by decide) (by decide) (by omega) (hq _ _ rfl rfl)

theorem m_B_end_0 (ha : I32 a) (hl : len ≤ 200) (ha2 : ¬ (0 ≤ a ∧ a ≤ (len : Int))) : ADet G M_B_end [vr 0 0, vi a] (Hp (sgB bd tk) (sgS laws slot ahead made (od : Int) (dn : Int) (un : Int)) (sgT (len : Int) ft) (sgK (nn : Int) rr ff gg) df jo tr di mo dy) (some (vi 0)) (Hp (sgB bd tk) (sgS laws slot ahead made (od : Int) (dn : Int) (un : Int)) (sgT (len : Int) ft) (sgK (nn : Int) rr ff gg) df jo tr di mo dy) := by
  refine am_det (by decide +kernel) (Nat.le_of_ble_eq_true rfl) (fun Qr Qt hq => ?_)
  refine aw_blk (pc' := 5) (ls' := [some (vr 0 0), some (vi a)]) (st' := [vi a, vr 2 0]) [.inl (.aload_n 0), .inr (19, 0, 1), .inl (.iload_n 1)] 0 _ _ (by decide +kernel) rfl ?_
  have hc := m_T_cut (G := G) (b := sgB bd tk) (s := (sgS laws slot ahead made (od : Int) (dn : Int) (un : Int))) (mk := sgK (nn : Int) rr ff gg) (df := df) (jo := jo) (tr := tr) (di := di) (mo := mo) (dy := dy) (f := ft) ha (show 0 ≤ (len : Int) by omega) (by omega)
  rw [if_neg ha2, if_neg ha2] at hc
  refine aw_dV (cs' := 0) (sl' := 0) (pc' := 8) (st' := [vi 0]) (idx := 77) (as := [vi a]) (st := []) (hc) (by decide +kernel) (show vOK "ChanceBench" 77 M_T_cut 1 = true by decide +kernel) rfl rfl rfl (Nat.le_of_ble_eq_true rfl) (by decide) (by decide) (by decide) rfl rfl rfl rfl ?_
  exact aw_zret (by decide +kernel) rfl (by decide) (by decide) (by omega) (hq _ _ rfl rfl)

theorem m_B_undo_0 (h0 : dn < 1) (hd : dn ≤ 30) (hu : un ≤ 30) : ADet G M_B_undo [vr 0 0] (Hp (sgB bd tk) (sgS laws slot ahead made (od : Int) (dn : Int) (un : Int)) t (sgK (nn : Int) rr ff gg) df jo tr di mo dy) (some (vi 0)) (Hp (sgB bd tk) (sgS laws slot ahead made (od : Int) (dn : Int) (un : Int)) t (sgK (nn : Int) rr ff gg) df jo tr di mo dy) := by
  refine am_det (by decide +kernel) (Nat.le_of_ble_eq_true rfl) (fun Qr Qt hq => ?_)
  refine aw_blk (pc' := 4) (ls' := [some (vr 0 0)]) (st' := [vr 1 0]) [.inl (.aload_n 0), .inr (10, 0, 0)] 0 _ _ (by decide +kernel) rfl ?_
  refine aw_dV (cs' := 0) (sl' := 0) (pc' := 7) (st' := [vi 0]) (idx := 137) (as := []) (st := []) (m_S_takeBack_0 h0 hd hu) (by decide +kernel) (show vOK "ChanceBench" 137 M_S_takeBack 0 = true by decide +kernel) rfl rfl rfl (Nat.le_of_ble_eq_true rfl) (by decide) (by decide) (by decide) rfl rfl rfl rfl ?_
  exact aw_zret (by decide +kernel) rfl (by decide) (by decide) (by omega) (hq _ _ rfl rfl)

theorem m_B_undo (h0 : 1 ≤ dn) (ho : od < 30) (hd : dn ≤ 30) (hu : un ≤ 30) (hs : ∀ i, 0 ≤ slot i ∧ slot i < 16) (ha : lwOK dy ahead) : ADet G M_B_undo [vr 0 0] (Hp (sgB bd tk) (sgS laws slot ahead made (od : Int) (dn : Int) (un : Int)) t (sgK (nn : Int) rr ff gg) df jo tr di mo dy) (some (vi 1)) (Hp (sgB bd tk) (sgS (va_up laws (slot ((od + (dn - 1)) % 30)).toNat (ahead ((od + (dn - 1)) % 30))) slot ahead made (od : Int) ((dn - 1 : Nat) : Int) ((un : Int) + 1)) t (sgK (nn : Int) rr ff gg) df jo tr di mo dy) := by
  refine am_det (by decide +kernel) (Nat.le_of_ble_eq_true rfl) (fun Qr Qt hq => ?_)
  refine aw_blk (pc' := 4) (ls' := [some (vr 0 0)]) (st' := [vr 1 0]) [.inl (.aload_n 0), .inr (10, 0, 0)] 0 _ _ (by decide +kernel) rfl ?_
  refine aw_dV (cs' := 0) (sl' := 0) (pc' := 7) (st' := [vi 1]) (idx := 137) (as := []) (st := []) (m_S_takeBack_1 h0 ho hd hu hs ha) (by decide +kernel) (show vOK "ChanceBench" 137 M_S_takeBack 0 = true by decide +kernel) rfl rfl rfl (Nat.le_of_ble_eq_true rfl) (by decide) (by decide) (by decide) rfl rfl rfl rfl ?_
  exact aw_zret (by decide +kernel) rfl (by decide) (by decide) (by omega) (hq _ _ rfl rfl)

theorem m_B_redo_0 (h0 : un < 1) (hd : dn ≤ 30) (hu : un ≤ 30) : ADet G M_B_redo [vr 0 0] (Hp (sgB bd tk) (sgS laws slot ahead made (od : Int) (dn : Int) (un : Int)) t (sgK (nn : Int) rr ff gg) df jo tr di mo dy) (some (vi 0)) (Hp (sgB bd tk) (sgS laws slot ahead made (od : Int) (dn : Int) (un : Int)) t (sgK (nn : Int) rr ff gg) df jo tr di mo dy) := by
  refine am_det (by decide +kernel) (Nat.le_of_ble_eq_true rfl) (fun Qr Qt hq => ?_)
  refine aw_blk (pc' := 4) (ls' := [some (vr 0 0)]) (st' := [vr 1 0]) [.inl (.aload_n 0), .inr (10, 0, 0)] 0 _ _ (by decide +kernel) rfl ?_
  refine aw_dV (cs' := 0) (sl' := 0) (pc' := 7) (st' := [vi 0]) (idx := 140) (as := []) (st := []) (m_S_doAgain_0 h0 hd hu) (by decide +kernel) (show vOK "ChanceBench" 140 M_S_doAgain 0 = true by decide +kernel) rfl rfl rfl (Nat.le_of_ble_eq_true rfl) (by decide) (by decide) (by decide) rfl rfl rfl rfl ?_
  exact aw_zret (by decide +kernel) rfl (by decide) (by decide) (by omega) (hq _ _ rfl rfl)

theorem m_B_redo (h0 : 1 ≤ un) (ho : od < 30) (hd : dn ≤ 30) (hu : un ≤ 30) (hs : ∀ i, 0 ≤ slot i ∧ slot i < 16) (hm : lwOK dy made) : ADet G M_B_redo [vr 0 0] (Hp (sgB bd tk) (sgS laws slot ahead made (od : Int) (dn : Int) (un : Int)) t (sgK (nn : Int) rr ff gg) df jo tr di mo dy) (some (vi 1)) (Hp (sgB bd tk) (sgS (va_up laws (slot ((od + dn) % 30)).toNat (made ((od + dn) % 30))) slot ahead made (od : Int) ((dn : Int) + 1) ((un : Int) - 1)) t (sgK (nn : Int) rr ff gg) df jo tr di mo dy) := by
  refine am_det (by decide +kernel) (Nat.le_of_ble_eq_true rfl) (fun Qr Qt hq => ?_)
  refine aw_blk (pc' := 4) (ls' := [some (vr 0 0)]) (st' := [vr 1 0]) [.inl (.aload_n 0), .inr (10, 0, 0)] 0 _ _ (by decide +kernel) rfl ?_
  refine aw_dV (cs' := 0) (sl' := 0) (pc' := 7) (st' := [vi 1]) (idx := 140) (as := []) (st := []) (m_S_doAgain_1 h0 ho hd hu hs hm) (by decide +kernel) (show vOK "ChanceBench" 140 M_S_doAgain 0 = true by decide +kernel) rfl rfl rfl (Nat.le_of_ble_eq_true rfl) (by decide) (by decide) (by decide) rfl rfl rfl rfl ?_
  exact aw_zret (by decide +kernel) rfl (by decide) (by decide) (by omega) (hq _ _ rfl rfl)

end
