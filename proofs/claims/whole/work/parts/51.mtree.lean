/-- the reference's rests, leaves, open places -/
def mr (T : Int → Int) (W : Int) : Nat → Int → Int
  | 0, v => T v
  | k + 1, v => rsd W (2 * mr T W k v)
def mg (T : Int → Int) (W : Int) : Nat → Int → Int
  | 0, _ => 0
  | k + 1, v => dg W (2 * mr T W k v)
def ml (T : Int → Int) (W : Int) (k : Nat) : Int := sT (mg T W k)
def mo (T : Int → Int) (W : Int) : Nat → Int
  | 0 => 1
  | k + 1 => 2 * mo T W k - ml T W (k + 1)
def tM (T : Int → Int) (W : Int) (k : Nat) (rt lf : Nat → Int) : Prop := ∀ j, j < 2001 → rt j = mr T W k (idv j) ∧ (1 ≤ k → lf j = mg T W k (idv j))
theorem mr_in {T : Int → Int} {W : Int} (h : ∀ v, 0 ≤ T v ∧ T v < W) (v : Int) : ∀ k, 0 ≤ mr T W k v ∧ mr T W k v < W
  | 0 => h v
  | k + 1 => by
    have := mr_in h v k
    simp only [mr, rsd, dg]
    split <;> omega
theorem mg_in (T : Int → Int) (W : Int) (v : Int) : ∀ k, 0 ≤ mg T W k v ∧ mg T W k v ≤ 1
  | 0 => by simp [mg]
  | k + 1 => by simp only [mg]; exact dg_in _ _
theorem ml_in (T : Int → Int) (W : Int) (k : Nat) : 0 ≤ ml T W k ∧ ml T W k ≤ 2001 := by
  have a := sT_mono (F := fun _ => 0) (H := mg T W k) (fun u _ => (mg_in T W u k).1)
  have b := sT_in (F := mg T W k) (K := 1) (fun u _ => by have := mg_in T W u k; omega)
  rw [sT_0] at a
  unfold ml
  omega
/-- one value has the whole -/
def alM (T : Int → Int) (W : Int) : Prop := ∃ k : Nat, k < 2001 ∧ T (idv k) = W
section
variable {G : GT} {h : HT} {b s t mk df jo tr di dy : SG} {a c d e B : Int} {n m k j i0 : Nat} {f g : Nat → Int} {th ln by9 dn ac bd pm pq tk fo f1 f2 : Int} {xtp xwg xwh xmd xsl xhw xhs xhd xha xp1 xp2 xp3 xl1 xl2 xrt xlf xdc xhn xsu : Nat → Int} {T : Int → Int} {p : Prop}
variable {q q2 : Nat}
theorem m_M_plant (hj : q < 16) (hTq : ∀ v, 0 ≤ Tm xwg q v ∧ Tm xwg q v ≤ 1048576) : ADet G M_M_plant [vr 8 0, vi (q : Int)] (Hp b s t mk df jo tr di (sgM th ln by9 dn ac bd pm pq tk fo f1 f2 xtp xwg xwh xmd xsl xhw xhs xhd xha xp1 xp2 xp3 xl1 xl2 xrt xlf xdc xhn xsu) dy) none (Hp b s t mk df jo tr di (sgM th ln by9 dn ac bd pm pq tk fo f1 f2 xtp xwg xwh xmd xsl xhw xhs xhd xha xp1 xp2 xp3 xl1 xl2 (mp (fun k => Tm xwg q (idv k)) xrt 2001) xlf xdc xhn xsu) dy) := by
  refine am_det (by decide +kernel) (Nat.le_of_ble_eq_true rfl) (fun Qr Qt hq => ?_)
  refine aw_blk (pc' := 4) (ls' := [some (vr 8 0), some (vi (q : Int)), some (vi (-1000))]) (st' := []) [.inl (.sipush (-1000)), .inl (.istore_n 2)] 0 _ _ (by decide +kernel) rfl ?_
  refine aw_eq (ls' := [some (vr 8 0), some (vi (q : Int)), some (vi (idv 0))]) rfl rfl (h' := Hp b s t mk df jo tr di [some (ob 8 [vi th, vr 8 1, vi ln, vr 8 2, vr 8 3, vr 8 4, vi by9, vr 8 5, vr 8 6, vr 8 7, vr 8 8, vr 8 9, vi dn, vi ac, vi bd, vr 8 10, vr 8 11, vr 8 12, vr 8 13, vr 8 14, vi pm, vl pq, vr 8 15, vr 8 16, vi tk, vr 8 17, vr 8 18, vr 8 19, vi fo, vi f1, vi f2]), some (ar 2 200 xtp), some (ar 0 32016 xwg), some (ar 0 16 xwh), some (ar 1 2001 xmd), some (ar 0 30 xsl), some (ar 0 30 xhw), some (ar 0 30 xhs), some (ar 0 60030 xhd), some (ar 0 60030 xha), some (ar 0 600 xp1), some (ar 0 600 xp2), some (ar 1 600 xp3), some (ar 1 2001 xl1), some (ar 1 2001 xl2), some (ar 1 2001 (mp (fun k => Tm xwg q (idv k)) xrt 0)), some (ar 3 2001 xlf), some (ar 0 3600 xdc), some (ar 0 12 xhn), some (ar 0 4005 xsu)] dy) (by rw [mp_0]) ?_
  refine up_to (W := fun i : Nat => AW G M_M_plant Qr Qt 0 0 4 [some (vr 8 0), some (vi (q : Int)), some (vi (idv i))] [] (Hp b s t mk df jo tr di [some (ob 8 [vi th, vr 8 1, vi ln, vr 8 2, vr 8 3, vr 8 4, vi by9, vr 8 5, vr 8 6, vr 8 7, vr 8 8, vr 8 9, vi dn, vi ac, vi bd, vr 8 10, vr 8 11, vr 8 12, vr 8 13, vr 8 14, vi pm, vl pq, vr 8 15, vr 8 16, vi tk, vr 8 17, vr 8 18, vr 8 19, vi fo, vi f1, vi f2]), some (ar 2 200 xtp), some (ar 0 32016 xwg), some (ar 0 16 xwh), some (ar 1 2001 xmd), some (ar 0 30 xsl), some (ar 0 30 xhw), some (ar 0 30 xhs), some (ar 0 60030 xhd), some (ar 0 60030 xha), some (ar 0 600 xp1), some (ar 0 600 xp2), some (ar 1 600 xp3), some (ar 1 2001 xl1), some (ar 1 2001 xl2), some (ar 1 2001 (mp (fun k => Tm xwg q (idv k)) xrt i)), some (ar 3 2001 xlf), some (ar 0 3600 xdc), some (ar 0 12 xhn), some (ar 0 4005 xsu)] dy)) 2001 ?_ (fun i hi ih => ?_) 0 (by omega)
  · refine aw_blk (pc' := 8) (ls' := [some (vr 8 0), some (vi (q : Int)), some (vi (idv 2001))]) (st' := [vi 1000, vi (idv 2001)]) [.inl (.iload_n 2), .inl (.sipush 1000)] 4 _ _ (by decide +kernel) rfl ?_
    refine aw_icmp_gt (o := 26) (tgt := 34) (by decide +kernel) (by decide) (by show I32 (_ - _); omega) (by omega) (fun _ => ?_) (fun c => absurd (by show _ < (_ - _); omega) c)
    exact aw_vret (by decide +kernel) rfl (by decide) (by decide) (hq _ _ rfl rfl)
  · have hiv : idv i = (i : Int) - 1000 := rfl
    have hnx : idv i + 1 = idv (i + 1) := by unfold idv; omega
    have htq := hTq (idv i)
    refine aw_blk (pc' := 8) (ls' := [some (vr 8 0), some (vi (q : Int)), some (vi (idv i))]) (st' := [vi 1000, vi (idv i)]) [.inl (.iload_n 2), .inl (.sipush 1000)] 4 _ _ (by decide +kernel) rfl ?_
    refine aw_icmp_gt (o := 26) (tgt := 34) (by decide +kernel) (by decide) (by omega) (by omega) (fun c => absurd c (by omega)) (fun _ => ?_)
    refine aw_blk (pc' := 23) (ls' := [some (vr 8 0), some (vi (q : Int)), some (vi (idv i))]) (st' := [vi (idv i), vi (q : Int), vr 8 0, vi ((idv i) - (-1000)), vr 8 15]) [.inl (.aload_n 0), .inr (63, 8, 22), .inl (.iload_n 2), .inl (.sipush (-1000)), .inl (.isub), .inl (.aload_n 0), .inl (.iload_n 1), .inl (.iload_n 2)] 11 _ _ (by decide +kernel) rfl ?_
    refine aw_dV (cs' := 0) (sl' := 0) (pc' := 26) (st' := [vi (Tm xwg q (idv i)), vi ((idv i) - (-1000)), vr 8 15]) (idx := 136) (as := [vi (q : Int), vi (idv i)]) (st := [vi ((idv i) - (-1000)), vr 8 15]) (m_M_at (by omega) (by omega)) (by decide +kernel) (show vOK "ChanceBenchModel" 136 M_M_at 2 = true by decide +kernel) rfl rfl rfl (Nat.le_of_ble_eq_true rfl) (by decide) (by decide) (by decide) rfl rfl rfl rfl ?_
    refine aw_i2l (by decide +kernel) (by omega) ?_
    refine aw_last (j := i) (h' := Hp b s t mk df jo tr di [some (ob 8 [vi th, vr 8 1, vi ln, vr 8 2, vr 8 3, vr 8 4, vi by9, vr 8 5, vr 8 6, vr 8 7, vr 8 8, vr 8 9, vi dn, vi ac, vi bd, vr 8 10, vr 8 11, vr 8 12, vr 8 13, vr 8 14, vi pm, vl pq, vr 8 15, vr 8 16, vi tk, vr 8 17, vr 8 18, vr 8 19, vi fo, vi f1, vi f2]), some (ar 2 200 xtp), some (ar 0 32016 xwg), some (ar 0 16 xwh), some (ar 1 2001 xmd), some (ar 0 30 xsl), some (ar 0 30 xhw), some (ar 0 30 xhs), some (ar 0 60030 xhd), some (ar 0 60030 xha), some (ar 0 600 xp1), some (ar 0 600 xp2), some (ar 1 600 xp3), some (ar 1 2001 xl1), some (ar 1 2001 xl2), some (ar 1 2001 (va_up (mp (fun k => Tm xwg q (idv k)) xrt i) i (Tm xwg q (idv i)))), some (ar 3 2001 xlf), some (ar 0 3600 xdc), some (ar 0 12 xhn), some (ar 0 4005 xsu)] dy) (by decide +kernel) rfl (by omega) (by omega) (by omega) rfl ?_
    refine aw_blk (pc' := 31) (ls' := [some (vr 8 0), some (vi (q : Int)), some (vi ((idv i) + 1))]) (st' := []) [.inl (.iinc 2 1)] 28 _ _ (by decide +kernel) rfl ?_
    refine aw_goto (o := -27) (tgt := 4) (by decide +kernel) (by decide) ?_
    rw [hnx]
    exact aw_eq rfl rfl (by rw [← mp_s]) ih

theorem m_M_isAlone_1 (hj : q < 16) (hTq : ∀ v, 0 ≤ Tm xwg q v ∧ Tm xwg q v ≤ 1048576) (ha : alM (Tm xwg q) (xwh q)) : ADet G M_M_isAlone [vr 8 0, vi (q : Int)] (Hp b s t mk df jo tr di (sgM th ln by9 dn ac bd pm pq tk fo f1 f2 xtp xwg xwh xmd xsl xhw xhs xhd xha xp1 xp2 xp3 xl1 xl2 xrt xlf xdc xhn xsu) dy) (some (vi 1)) (Hp b s t mk df jo tr di (sgM th ln by9 dn ac bd pm pq tk fo f1 f2 xtp xwg xwh xmd xsl xhw xhs xhd xha xp1 xp2 xp3 xl1 xl2 xrt xlf xdc xhn xsu) dy) := by
  refine am_det (by decide +kernel) (Nat.le_of_ble_eq_true rfl) (fun Qr Qt hq => ?_)
  refine aw_blk (pc' := 4) (ls' := [some (vr 8 0), some (vi (q : Int)), some (vi (-1000))]) (st' := []) [.inl (.sipush (-1000)), .inl (.istore_n 2)] 0 _ _ (by decide +kernel) rfl ?_
  refine up_to (W := fun i : Nat => (∃ k : Nat, i ≤ k ∧ k < 2001 ∧ Tm xwg q (idv k) = xwh q) → AW G M_M_isAlone Qr Qt 0 0 4 [some (vr 8 0), some (vi (q : Int)), some (vi (idv i))] [] (Hp b s t mk df jo tr di [some (ob 8 [vi th, vr 8 1, vi ln, vr 8 2, vr 8 3, vr 8 4, vi by9, vr 8 5, vr 8 6, vr 8 7, vr 8 8, vr 8 9, vi dn, vi ac, vi bd, vr 8 10, vr 8 11, vr 8 12, vr 8 13, vr 8 14, vi pm, vl pq, vr 8 15, vr 8 16, vi tk, vr 8 17, vr 8 18, vr 8 19, vi fo, vi f1, vi f2]), some (ar 2 200 xtp), some (ar 0 32016 xwg), some (ar 0 16 xwh), some (ar 1 2001 xmd), some (ar 0 30 xsl), some (ar 0 30 xhw), some (ar 0 30 xhs), some (ar 0 60030 xhd), some (ar 0 60030 xha), some (ar 0 600 xp1), some (ar 0 600 xp2), some (ar 1 600 xp3), some (ar 1 2001 xl1), some (ar 1 2001 xl2), some (ar 1 2001 xrt), some (ar 3 2001 xlf), some (ar 0 3600 xdc), some (ar 0 12 xhn), some (ar 0 4005 xsu)] dy)) 2001 ?_ (fun i hi ih => ?_) 0 (by omega) (by obtain ⟨k, a, b⟩ := ha; exact ⟨k, Nat.zero_le k, a, b⟩)
  · intro ⟨k, a, b, _⟩
    omega
  · intro ⟨k, a, b, c⟩
    have hiv : idv i = (i : Int) - 1000 := rfl
    have hnx : idv i + 1 = idv (i + 1) := by unfold idv; omega
    have htq := hTq (idv i)
    refine aw_blk (pc' := 8) (ls' := [some (vr 8 0), some (vi (q : Int)), some (vi (idv i))]) (st' := [vi 1000, vi (idv i)]) [.inl (.iload_n 2), .inl (.sipush 1000)] 4 _ _ (by decide +kernel) rfl ?_
    refine aw_icmp_gt (o := 26) (tgt := 34) (by decide +kernel) (by decide) (by omega) (by omega) (fun c => absurd c (by omega)) (fun _ => ?_)
    refine aw_blk (pc' := 14) (ls' := [some (vr 8 0), some (vi (q : Int)), some (vi (idv i))]) (st' := [vi (idv i), vi (q : Int), vr 8 0]) [.inl (.aload_n 0), .inl (.iload_n 1), .inl (.iload_n 2)] 11 _ _ (by decide +kernel) rfl ?_
    refine aw_dV (cs' := 0) (sl' := 0) (pc' := 17) (st' := [vi (Tm xwg q (idv i))]) (idx := 136) (as := [vi (q : Int), vi (idv i)]) (st := []) (m_M_at (by omega) (by omega)) (by decide +kernel) (show vOK "ChanceBenchModel" 136 M_M_at 2 = true by decide +kernel) rfl rfl rfl (Nat.le_of_ble_eq_true rfl) (by decide) (by decide) (by decide) rfl rfl rfl rfl ?_
    refine aw_blk (pc' := 22) (ls' := [some (vr 8 0), some (vi (q : Int)), some (vi (idv i))]) (st' := [vi (q : Int), vr 8 3, vi (Tm xwg q (idv i))]) [.inl (.aload_n 0), .inr (17, 8, 4), .inl (.iload_n 1)] 17 _ _ (by decide +kernel) rfl ?_
    refine aw_iald (j := q) (by decide +kernel) rfl (by omega) (by omega) (fun r22 => ?_)
    refine aw_icmp_ne (o := 5) (tgt := 28) (by decide +kernel) (by decide) (by omega) (by omega) (fun c9 => ?_) (fun c9 => ?_)
    · refine aw_blk (pc' := 31) (ls' := [some (vr 8 0), some (vi (q : Int)), some (vi ((idv i) + 1))]) (st' := []) [.inl (.iinc 2 1)] 28 _ _ (by decide +kernel) rfl ?_
      refine aw_goto (o := -27) (tgt := 4) (by decide +kernel) (by decide) ?_
      rw [hnx]
      refine ih ⟨k, ?_, b, c⟩
      rcases Nat.lt_or_ge i k with z | z
      · exact z
      · exact absurd (by rw [show i = k by omega]; exact c) c9
    · refine aw_blk (pc' := 27) (ls' := [some (vr 8 0), some (vi (q : Int)), some (vi (idv i))]) (st' := [vi 1]) [.inl (.iconst 1)] 26 _ _ (by decide +kernel) rfl ?_
      exact aw_zret (by decide +kernel) rfl (by decide) (by decide) (by omega) (hq _ _ rfl rfl)

theorem m_M_isAlone_0 (hj : q < 16) (hTq : ∀ v, 0 ≤ Tm xwg q v ∧ Tm xwg q v ≤ 1048576) (ha : ¬ alM (Tm xwg q) (xwh q)) : ADet G M_M_isAlone [vr 8 0, vi (q : Int)] (Hp b s t mk df jo tr di (sgM th ln by9 dn ac bd pm pq tk fo f1 f2 xtp xwg xwh xmd xsl xhw xhs xhd xha xp1 xp2 xp3 xl1 xl2 xrt xlf xdc xhn xsu) dy) (some (vi 0)) (Hp b s t mk df jo tr di (sgM th ln by9 dn ac bd pm pq tk fo f1 f2 xtp xwg xwh xmd xsl xhw xhs xhd xha xp1 xp2 xp3 xl1 xl2 xrt xlf xdc xhn xsu) dy) := by
  refine am_det (by decide +kernel) (Nat.le_of_ble_eq_true rfl) (fun Qr Qt hq => ?_)
  refine aw_blk (pc' := 4) (ls' := [some (vr 8 0), some (vi (q : Int)), some (vi (-1000))]) (st' := []) [.inl (.sipush (-1000)), .inl (.istore_n 2)] 0 _ _ (by decide +kernel) rfl ?_
  refine up_to (W := fun i : Nat => (True) → AW G M_M_isAlone Qr Qt 0 0 4 [some (vr 8 0), some (vi (q : Int)), some (vi (idv i))] [] (Hp b s t mk df jo tr di [some (ob 8 [vi th, vr 8 1, vi ln, vr 8 2, vr 8 3, vr 8 4, vi by9, vr 8 5, vr 8 6, vr 8 7, vr 8 8, vr 8 9, vi dn, vi ac, vi bd, vr 8 10, vr 8 11, vr 8 12, vr 8 13, vr 8 14, vi pm, vl pq, vr 8 15, vr 8 16, vi tk, vr 8 17, vr 8 18, vr 8 19, vi fo, vi f1, vi f2]), some (ar 2 200 xtp), some (ar 0 32016 xwg), some (ar 0 16 xwh), some (ar 1 2001 xmd), some (ar 0 30 xsl), some (ar 0 30 xhw), some (ar 0 30 xhs), some (ar 0 60030 xhd), some (ar 0 60030 xha), some (ar 0 600 xp1), some (ar 0 600 xp2), some (ar 1 600 xp3), some (ar 1 2001 xl1), some (ar 1 2001 xl2), some (ar 1 2001 xrt), some (ar 3 2001 xlf), some (ar 0 3600 xdc), some (ar 0 12 xhn), some (ar 0 4005 xsu)] dy)) 2001 ?_ (fun i hi ih => ?_) 0 (by omega) trivial
  · intro _
    refine aw_blk (pc' := 8) (ls' := [some (vr 8 0), some (vi (q : Int)), some (vi (idv 2001))]) (st' := [vi 1000, vi (idv 2001)]) [.inl (.iload_n 2), .inl (.sipush 1000)] 4 _ _ (by decide +kernel) rfl ?_
    refine aw_icmp_gt (o := 26) (tgt := 34) (by decide +kernel) (by decide) (by show I32 (_ - _); omega) (by omega) (fun _ => ?_) (fun c => absurd (by show _ < (_ - _); omega) c)
    refine aw_blk (pc' := 35) (ls' := [some (vr 8 0), some (vi (q : Int)), some (vi (idv 2001))]) (st' := [vi 0]) [.inl (.iconst 0)] 34 _ _ (by decide +kernel) rfl ?_
    exact aw_zret (by decide +kernel) rfl (by decide) (by decide) (by omega) (hq _ _ rfl rfl)
  · intro _
    have hiv : idv i = (i : Int) - 1000 := rfl
    have hnx : idv i + 1 = idv (i + 1) := by unfold idv; omega
    have htq := hTq (idv i)
    refine aw_blk (pc' := 8) (ls' := [some (vr 8 0), some (vi (q : Int)), some (vi (idv i))]) (st' := [vi 1000, vi (idv i)]) [.inl (.iload_n 2), .inl (.sipush 1000)] 4 _ _ (by decide +kernel) rfl ?_
    refine aw_icmp_gt (o := 26) (tgt := 34) (by decide +kernel) (by decide) (by omega) (by omega) (fun c => absurd c (by omega)) (fun _ => ?_)
    refine aw_blk (pc' := 14) (ls' := [some (vr 8 0), some (vi (q : Int)), some (vi (idv i))]) (st' := [vi (idv i), vi (q : Int), vr 8 0]) [.inl (.aload_n 0), .inl (.iload_n 1), .inl (.iload_n 2)] 11 _ _ (by decide +kernel) rfl ?_
    refine aw_dV (cs' := 0) (sl' := 0) (pc' := 17) (st' := [vi (Tm xwg q (idv i))]) (idx := 136) (as := [vi (q : Int), vi (idv i)]) (st := []) (m_M_at (by omega) (by omega)) (by decide +kernel) (show vOK "ChanceBenchModel" 136 M_M_at 2 = true by decide +kernel) rfl rfl rfl (Nat.le_of_ble_eq_true rfl) (by decide) (by decide) (by decide) rfl rfl rfl rfl ?_
    refine aw_blk (pc' := 22) (ls' := [some (vr 8 0), some (vi (q : Int)), some (vi (idv i))]) (st' := [vi (q : Int), vr 8 3, vi (Tm xwg q (idv i))]) [.inl (.aload_n 0), .inr (17, 8, 4), .inl (.iload_n 1)] 17 _ _ (by decide +kernel) rfl ?_
    refine aw_iald (j := q) (by decide +kernel) rfl (by omega) (by omega) (fun r22 => ?_)
    refine aw_icmp_ne (o := 5) (tgt := 28) (by decide +kernel) (by decide) (by omega) (by omega) (fun c9 => ?_) (fun c9 => ?_)
    · refine aw_blk (pc' := 31) (ls' := [some (vr 8 0), some (vi (q : Int)), some (vi ((idv i) + 1))]) (st' := []) [.inl (.iinc 2 1)] 28 _ _ (by decide +kernel) rfl ?_
      refine aw_goto (o := -27) (tgt := 4) (by decide +kernel) (by decide) ?_
      rw [hnx]
      exact ih trivial
    · exact absurd ⟨i, hi, c9⟩ ha

theorem m_M_digits (hj : q < 16) (hw : 1 ≤ xwh q ∧ xwh q ≤ 1048576) (hr : ∀ k, k < 2001 → 0 ≤ xrt k ∧ xrt k ≤ 1048576) : ADet G M_M_digits [vr 8 0, vi (q : Int)] (Hp b s t mk df jo tr di (sgM th ln by9 dn ac bd pm pq tk fo f1 f2 xtp xwg xwh xmd xsl xhw xhs xhd xha xp1 xp2 xp3 xl1 xl2 xrt xlf xdc xhn xsu) dy) (some (vi (sumZ (fun k => dg (xwh q) (2 * xrt k)) 2001))) (Hp b s t mk df jo tr di (sgM th ln by9 dn ac bd pm pq tk fo f1 f2 xtp xwg xwh xmd xsl xhw xhs xhd xha xp1 xp2 xp3 xl1 xl2 (mp (fun k => rsd (xwh q) (2 * xrt k)) xrt 2001) (mp (fun k => dg (xwh q) (2 * xrt k)) xlf 2001) xdc xhn xsu) dy) := by
  refine am_det (by decide +kernel) (Nat.le_of_ble_eq_true rfl) (fun Qr Qt hq => ?_)
  refine aw_blk (pc' := 4) (ls' := [some (vr 8 0), some (vi (q : Int)), some (vi 0), some (vi 0)]) (st' := []) [.inl (.iconst 0), .inl (.istore_n 2), .inl (.iconst 0), .inl (.istore_n 3)] 0 _ _ (by decide +kernel) rfl ?_
  refine aw_eq (ls' := [some (vr 8 0), some (vi (q : Int)), some (vi (sumZ (fun k => dg (xwh q) (2 * xrt k)) 0)), some (vi (0 : Int))]) rfl rfl (h' := Hp b s t mk df jo tr di [some (ob 8 [vi th, vr 8 1, vi ln, vr 8 2, vr 8 3, vr 8 4, vi by9, vr 8 5, vr 8 6, vr 8 7, vr 8 8, vr 8 9, vi dn, vi ac, vi bd, vr 8 10, vr 8 11, vr 8 12, vr 8 13, vr 8 14, vi pm, vl pq, vr 8 15, vr 8 16, vi tk, vr 8 17, vr 8 18, vr 8 19, vi fo, vi f1, vi f2]), some (ar 2 200 xtp), some (ar 0 32016 xwg), some (ar 0 16 xwh), some (ar 1 2001 xmd), some (ar 0 30 xsl), some (ar 0 30 xhw), some (ar 0 30 xhs), some (ar 0 60030 xhd), some (ar 0 60030 xha), some (ar 0 600 xp1), some (ar 0 600 xp2), some (ar 1 600 xp3), some (ar 1 2001 xl1), some (ar 1 2001 xl2), some (ar 1 2001 (mp (fun k => rsd (xwh q) (2 * xrt k)) xrt 0)), some (ar 3 2001 (mp (fun k => dg (xwh q) (2 * xrt k)) xlf 0)), some (ar 0 3600 xdc), some (ar 0 12 xhn), some (ar 0 4005 xsu)] dy) (by rw [mp_0, mp_0]) ?_
  refine up_to (W := fun i : Nat => AW G M_M_digits Qr Qt 0 0 4 [some (vr 8 0), some (vi (q : Int)), some (vi (sumZ (fun k => dg (xwh q) (2 * xrt k)) i)), some (vi (i : Int))] [] (Hp b s t mk df jo tr di [some (ob 8 [vi th, vr 8 1, vi ln, vr 8 2, vr 8 3, vr 8 4, vi by9, vr 8 5, vr 8 6, vr 8 7, vr 8 8, vr 8 9, vi dn, vi ac, vi bd, vr 8 10, vr 8 11, vr 8 12, vr 8 13, vr 8 14, vi pm, vl pq, vr 8 15, vr 8 16, vi tk, vr 8 17, vr 8 18, vr 8 19, vi fo, vi f1, vi f2]), some (ar 2 200 xtp), some (ar 0 32016 xwg), some (ar 0 16 xwh), some (ar 1 2001 xmd), some (ar 0 30 xsl), some (ar 0 30 xhw), some (ar 0 30 xhs), some (ar 0 60030 xhd), some (ar 0 60030 xha), some (ar 0 600 xp1), some (ar 0 600 xp2), some (ar 1 600 xp3), some (ar 1 2001 xl1), some (ar 1 2001 xl2), some (ar 1 2001 (mp (fun k => rsd (xwh q) (2 * xrt k)) xrt i)), some (ar 3 2001 (mp (fun k => dg (xwh q) (2 * xrt k)) xlf i)), some (ar 0 3600 xdc), some (ar 0 12 xhn), some (ar 0 4005 xsu)] dy)) 2001 ?_ (fun i hi ih => ?_) 0 (by omega)
  · refine aw_blk (pc' := 8) (ls' := [some (vr 8 0), some (vi (q : Int)), some (vi (sumZ (fun k => dg (xwh q) (2 * xrt k)) 2001)), some (vi ((2001 : Nat) : Int))]) (st' := [vi 2001, vi ((2001 : Nat) : Int)]) [.inl (.iload_n 3), .inl (.sipush 2001)] 4 _ _ (by decide +kernel) rfl ?_
    refine aw_icmp_ge (o := 95) (tgt := 103) (by decide +kernel) (by decide) (by omega) (by omega) (fun _ => ?_) (fun c => absurd (by omega) c)
    refine aw_blk (pc' := 104) (ls' := [some (vr 8 0), some (vi (q : Int)), some (vi (sumZ (fun k => dg (xwh q) (2 * xrt k)) 2001)), some (vi ((2001 : Nat) : Int))]) (st' := [vi (sumZ (fun k => dg (xwh q) (2 * xrt k)) 2001)]) [.inl (.iload_n 2)] 103 _ _ (by decide +kernel) rfl ?_
    exact aw_iret (by decide +kernel) rfl (by decide) (by decide) (hq _ _ rfl rfl)
  · have hb := hr i hi
    by_cases hc : 2 * xrt i < xwh q
    · have hd1 : dg (xwh q) (2 * xrt i) = 0 := by unfold dg; rw [if_pos hc]
      have hr1 : rsd (xwh q) (2 * xrt i) = 2 * xrt i - 0 := by unfold rsd; rw [hd1]; omega
      have e1 : va_up (mp (fun k => dg (xwh q) (2 * xrt k)) xlf i) i 0 = mp (fun k => dg (xwh q) (2 * xrt k)) xlf (i + 1) := by rw [← mp_s]; show _ = va_up _ i (dg (xwh q) (2 * xrt i)); rw [hd1]
      have e2 : va_up (mp (fun k => rsd (xwh q) (2 * xrt k)) xrt i) i (2 * xrt i - 0) = mp (fun k => rsd (xwh q) (2 * xrt k)) xrt (i + 1) := by rw [← mp_s]; show _ = va_up _ i (rsd (xwh q) (2 * xrt i)); rw [hr1]
      refine aw_blk (pc' := 8) (ls' := [some (vr 8 0), some (vi (q : Int)), some (vi (sumZ (fun k => dg (xwh q) (2 * xrt k)) i)), some (vi (i : Int))]) (st' := [vi 2001, vi (i : Int)]) [.inl (.iload_n 3), .inl (.sipush 2001)] 4 _ _ (by decide +kernel) rfl ?_
      refine aw_icmp_ge (o := 95) (tgt := 103) (by decide +kernel) (by decide) (by omega) (by omega) (fun c => absurd c (by omega)) (fun _ => ?_)
      refine aw_blk (pc' := 16) (ls' := [some (vr 8 0), some (vi (q : Int)), some (vi (sumZ (fun k => dg (xwh q) (2 * xrt k)) i)), some (vi (i : Int))]) (st' := [vi (i : Int), vr 8 16]) [.inl (.aload_n 0), .inr (66, 8, 23), .inl (.iload_n 3)] 11 _ _ (by decide +kernel) rfl ?_
      refine aw_ldc2 (a := 2) (ix := 167) (v := 2) (by decide +kernel) (by decide +kernel) (by decide) ?_
      refine aw_blk (pc' := 24) (ls' := [some (vr 8 0), some (vi (q : Int)), some (vi (sumZ (fun k => dg (xwh q) (2 * xrt k)) i)), some (vi (i : Int))]) (st' := [vi (i : Int), vr 8 15, vl 2, vi (i : Int), vr 8 16]) [.inl (.aload_n 0), .inr (63, 8, 22), .inl (.iload_n 3)] 19 _ _ (by decide +kernel) rfl ?_
      refine aw_lald (j := i) (by decide +kernel) rfl (by omega) (by omega) (fun r24 => ?_)
      refine aw_blk (pc' := 31) (ls' := [some (vr 8 0), some (vi (q : Int)), some (vi (sumZ (fun k => dg (xwh q) (2 * xrt k)) i)), some (vi (i : Int))]) (st' := [vi (q : Int), vr 8 3, vl (2 * ((mp (fun k => rsd (xwh q) (2 * xrt k)) xrt i) i)), vi (i : Int), vr 8 16]) [.inl (.lmul), .inl (.aload_n 0), .inr (17, 8, 4), .inl (.iload_n 1)] 25 _ _ (by decide +kernel) rfl ?_
      refine aw_iald (j := q) (by decide +kernel) rfl (by omega) (by omega) (fun r31 => ?_)
      refine aw_i2l (by decide +kernel) (by omega) ?_
      rw [mp_ge (Nat.le_refl i)]
      refine aw_lcmp (by decide +kernel) (by omega) (by omega) ?_
      refine aw_if_lt (o := 7) (tgt := 41) (by decide +kernel) (by decide) (cmpI_in _ _) (fun _ => ?_) (fun c => absurd ((cmpI_lt _ _).mpr (by omega)) c)
      refine aw_blk (pc' := 42) (ls' := [some (vr 8 0), some (vi (q : Int)), some (vi (sumZ (fun k => dg (xwh q) (2 * xrt k)) i)), some (vi (i : Int))]) (st' := [vi 0, vi (i : Int), vr 8 16]) [.inl (.iconst 0)] 41 _ _ (by decide +kernel) rfl ?_
      refine aw_zast (j := i) (h' := Hp b s t mk df jo tr di [some (ob 8 [vi th, vr 8 1, vi ln, vr 8 2, vr 8 3, vr 8 4, vi by9, vr 8 5, vr 8 6, vr 8 7, vr 8 8, vr 8 9, vi dn, vi ac, vi bd, vr 8 10, vr 8 11, vr 8 12, vr 8 13, vr 8 14, vi pm, vl pq, vr 8 15, vr 8 16, vi tk, vr 8 17, vr 8 18, vr 8 19, vi fo, vi f1, vi f2]), some (ar 2 200 xtp), some (ar 0 32016 xwg), some (ar 0 16 xwh), some (ar 1 2001 xmd), some (ar 0 30 xsl), some (ar 0 30 xhw), some (ar 0 30 xhs), some (ar 0 60030 xhd), some (ar 0 60030 xha), some (ar 0 600 xp1), some (ar 0 600 xp2), some (ar 1 600 xp3), some (ar 1 2001 xl1), some (ar 1 2001 xl2), some (ar 1 2001 (mp (fun k => rsd (xwh q) (2 * xrt k)) xrt i)), some (ar 3 2001 (va_up (mp (fun k => dg (xwh q) (2 * xrt k)) xlf i) i 0)), some (ar 0 3600 xdc), some (ar 0 12 xhn), some (ar 0 4005 xsu)] dy) (by decide +kernel) rfl (by omega) (by omega) (by omega) rfl ?_
      refine aw_blk (pc' := 48) (ls' := [some (vr 8 0), some (vi (q : Int)), some (vi (sumZ (fun k => dg (xwh q) (2 * xrt k)) i)), some (vi (i : Int))]) (st' := [vi (i : Int), vr 8 15]) [.inl (.aload_n 0), .inr (63, 8, 22), .inl (.iload_n 3)] 43 _ _ (by decide +kernel) rfl ?_
      refine aw_ldc2 (a := 2) (ix := 167) (v := 2) (by decide +kernel) (by decide +kernel) (by decide) ?_
      refine aw_blk (pc' := 56) (ls' := [some (vr 8 0), some (vi (q : Int)), some (vi (sumZ (fun k => dg (xwh q) (2 * xrt k)) i)), some (vi (i : Int))]) (st' := [vi (i : Int), vr 8 15, vl 2, vi (i : Int), vr 8 15]) [.inl (.aload_n 0), .inr (63, 8, 22), .inl (.iload_n 3)] 51 _ _ (by decide +kernel) rfl ?_
      refine aw_lald (j := i) (by decide +kernel) rfl (by omega) (by omega) (fun r56 => ?_)
      refine aw_blk (pc' := 63) (ls' := [some (vr 8 0), some (vi (q : Int)), some (vi (sumZ (fun k => dg (xwh q) (2 * xrt k)) i)), some (vi (i : Int))]) (st' := [vi (i : Int), vr 8 16, vl (2 * ((mp (fun k => rsd (xwh q) (2 * xrt k)) xrt i) i)), vi (i : Int), vr 8 15]) [.inl (.lmul), .inl (.aload_n 0), .inr (66, 8, 23), .inl (.iload_n 3)] 57 _ _ (by decide +kernel) rfl ?_
      refine aw_zald (j := i) (by decide +kernel) rfl (by omega) (by omega) (fun r63 => ?_)
      rw [mp_ge (Nat.le_refl i), va_eq]
      refine aw_if_eq (o := 12) (tgt := 76) (by decide +kernel) (by decide) (by omega) (fun _ => ?_) (fun c => absurd (by omega) c)
      refine aw_blk (pc' := 77) (ls' := [some (vr 8 0), some (vi (q : Int)), some (vi (sumZ (fun k => dg (xwh q) (2 * xrt k)) i)), some (vi (i : Int))]) (st' := [vi 0, vl (2 * ((xrt i))), vi (i : Int), vr 8 15]) [.inl (.iconst 0)] 76 _ _ (by decide +kernel) rfl ?_
      refine aw_i2l (by decide +kernel) (by omega) ?_
      refine aw_blk (pc' := 79) (ls' := [some (vr 8 0), some (vi (q : Int)), some (vi (sumZ (fun k => dg (xwh q) (2 * xrt k)) i)), some (vi (i : Int))]) (st' := [vl ((2 * ((xrt i))) - 0), vi (i : Int), vr 8 15]) [.inl (.lsub)] 78 _ _ (by decide +kernel) rfl ?_
      refine aw_last (j := i) (h' := Hp b s t mk df jo tr di [some (ob 8 [vi th, vr 8 1, vi ln, vr 8 2, vr 8 3, vr 8 4, vi by9, vr 8 5, vr 8 6, vr 8 7, vr 8 8, vr 8 9, vi dn, vi ac, vi bd, vr 8 10, vr 8 11, vr 8 12, vr 8 13, vr 8 14, vi pm, vl pq, vr 8 15, vr 8 16, vi tk, vr 8 17, vr 8 18, vr 8 19, vi fo, vi f1, vi f2]), some (ar 2 200 xtp), some (ar 0 32016 xwg), some (ar 0 16 xwh), some (ar 1 2001 xmd), some (ar 0 30 xsl), some (ar 0 30 xhw), some (ar 0 30 xhs), some (ar 0 60030 xhd), some (ar 0 60030 xha), some (ar 0 600 xp1), some (ar 0 600 xp2), some (ar 1 600 xp3), some (ar 1 2001 xl1), some (ar 1 2001 xl2), some (ar 1 2001 (va_up (mp (fun k => rsd (xwh q) (2 * xrt k)) xrt i) i ((2 * ((xrt i))) - 0))), some (ar 3 2001 (va_up (mp (fun k => dg (xwh q) (2 * xrt k)) xlf i) i 0)), some (ar 0 3600 xdc), some (ar 0 12 xhn), some (ar 0 4005 xsu)] dy) (by decide +kernel) rfl (by omega) (by omega) (by omega) rfl ?_
      refine aw_blk (pc' := 86) (ls' := [some (vr 8 0), some (vi (q : Int)), some (vi (sumZ (fun k => dg (xwh q) (2 * xrt k)) i)), some (vi (i : Int))]) (st' := [vi (i : Int), vr 8 16, vi (sumZ (fun k => dg (xwh q) (2 * xrt k)) i)]) [.inl (.iload_n 2), .inl (.aload_n 0), .inr (66, 8, 23), .inl (.iload_n 3)] 80 _ _ (by decide +kernel) rfl ?_
      refine aw_zald (j := i) (by decide +kernel) rfl (by omega) (by omega) (fun r86 => ?_)
      rw [va_eq]
      refine aw_if_eq (o := 7) (tgt := 94) (by decide +kernel) (by decide) (by omega) (fun _ => ?_) (fun c => absurd (by omega) c)
      refine aw_blk (pc' := 100) (ls' := [some (vr 8 0), some (vi (q : Int)), some (vi ((sumZ (fun k => dg (xwh q) (2 * xrt k)) i) + 0)), some (vi ((i : Int) + 1))]) (st' := []) [.inl (.iconst 0), .inl (.iadd), .inl (.istore_n 2), .inl (.iinc 3 1)] 94 _ _ (by decide +kernel) rfl ?_
      refine aw_goto (o := -96) (tgt := 4) (by decide +kernel) (by decide) ?_
      exact aw_eq (by simp only [sumZ]; rw [hd1]; rfl) rfl (by rw [e1, e2]) ih
    · have hd1 : dg (xwh q) (2 * xrt i) = 1 := by unfold dg; rw [if_neg hc]
      have hr1 : rsd (xwh q) (2 * xrt i) = 2 * xrt i - xwh q := by unfold rsd; rw [hd1]; omega
      have e1 : va_up (mp (fun k => dg (xwh q) (2 * xrt k)) xlf i) i 1 = mp (fun k => dg (xwh q) (2 * xrt k)) xlf (i + 1) := by rw [← mp_s]; show _ = va_up _ i (dg (xwh q) (2 * xrt i)); rw [hd1]
      have e2 : va_up (mp (fun k => rsd (xwh q) (2 * xrt k)) xrt i) i (2 * xrt i - xwh q) = mp (fun k => rsd (xwh q) (2 * xrt k)) xrt (i + 1) := by rw [← mp_s]; show _ = va_up _ i (rsd (xwh q) (2 * xrt i)); rw [hr1]
      refine aw_blk (pc' := 8) (ls' := [some (vr 8 0), some (vi (q : Int)), some (vi (sumZ (fun k => dg (xwh q) (2 * xrt k)) i)), some (vi (i : Int))]) (st' := [vi 2001, vi (i : Int)]) [.inl (.iload_n 3), .inl (.sipush 2001)] 4 _ _ (by decide +kernel) rfl ?_
      refine aw_icmp_ge (o := 95) (tgt := 103) (by decide +kernel) (by decide) (by omega) (by omega) (fun c => absurd c (by omega)) (fun _ => ?_)
      refine aw_blk (pc' := 16) (ls' := [some (vr 8 0), some (vi (q : Int)), some (vi (sumZ (fun k => dg (xwh q) (2 * xrt k)) i)), some (vi (i : Int))]) (st' := [vi (i : Int), vr 8 16]) [.inl (.aload_n 0), .inr (66, 8, 23), .inl (.iload_n 3)] 11 _ _ (by decide +kernel) rfl ?_
      refine aw_ldc2 (a := 2) (ix := 167) (v := 2) (by decide +kernel) (by decide +kernel) (by decide) ?_
      refine aw_blk (pc' := 24) (ls' := [some (vr 8 0), some (vi (q : Int)), some (vi (sumZ (fun k => dg (xwh q) (2 * xrt k)) i)), some (vi (i : Int))]) (st' := [vi (i : Int), vr 8 15, vl 2, vi (i : Int), vr 8 16]) [.inl (.aload_n 0), .inr (63, 8, 22), .inl (.iload_n 3)] 19 _ _ (by decide +kernel) rfl ?_
      refine aw_lald (j := i) (by decide +kernel) rfl (by omega) (by omega) (fun r24 => ?_)
      refine aw_blk (pc' := 31) (ls' := [some (vr 8 0), some (vi (q : Int)), some (vi (sumZ (fun k => dg (xwh q) (2 * xrt k)) i)), some (vi (i : Int))]) (st' := [vi (q : Int), vr 8 3, vl (2 * ((mp (fun k => rsd (xwh q) (2 * xrt k)) xrt i) i)), vi (i : Int), vr 8 16]) [.inl (.lmul), .inl (.aload_n 0), .inr (17, 8, 4), .inl (.iload_n 1)] 25 _ _ (by decide +kernel) rfl ?_
      refine aw_iald (j := q) (by decide +kernel) rfl (by omega) (by omega) (fun r31 => ?_)
      refine aw_i2l (by decide +kernel) (by omega) ?_
      rw [mp_ge (Nat.le_refl i)]
      refine aw_lcmp (by decide +kernel) (by omega) (by omega) ?_
      refine aw_if_lt (o := 7) (tgt := 41) (by decide +kernel) (by decide) (cmpI_in _ _) (fun c => absurd ((cmpI_lt _ _).mp c) (by omega)) (fun _ => ?_)
      refine aw_blk (pc' := 38) (ls' := [some (vr 8 0), some (vi (q : Int)), some (vi (sumZ (fun k => dg (xwh q) (2 * xrt k)) i)), some (vi (i : Int))]) (st' := [vi 1, vi (i : Int), vr 8 16]) [.inl (.iconst 1)] 37 _ _ (by decide +kernel) rfl ?_
      refine aw_goto (o := 4) (tgt := 42) (by decide +kernel) (by decide) ?_
      refine aw_zast (j := i) (h' := Hp b s t mk df jo tr di [some (ob 8 [vi th, vr 8 1, vi ln, vr 8 2, vr 8 3, vr 8 4, vi by9, vr 8 5, vr 8 6, vr 8 7, vr 8 8, vr 8 9, vi dn, vi ac, vi bd, vr 8 10, vr 8 11, vr 8 12, vr 8 13, vr 8 14, vi pm, vl pq, vr 8 15, vr 8 16, vi tk, vr 8 17, vr 8 18, vr 8 19, vi fo, vi f1, vi f2]), some (ar 2 200 xtp), some (ar 0 32016 xwg), some (ar 0 16 xwh), some (ar 1 2001 xmd), some (ar 0 30 xsl), some (ar 0 30 xhw), some (ar 0 30 xhs), some (ar 0 60030 xhd), some (ar 0 60030 xha), some (ar 0 600 xp1), some (ar 0 600 xp2), some (ar 1 600 xp3), some (ar 1 2001 xl1), some (ar 1 2001 xl2), some (ar 1 2001 (mp (fun k => rsd (xwh q) (2 * xrt k)) xrt i)), some (ar 3 2001 (va_up (mp (fun k => dg (xwh q) (2 * xrt k)) xlf i) i 1)), some (ar 0 3600 xdc), some (ar 0 12 xhn), some (ar 0 4005 xsu)] dy) (by decide +kernel) rfl (by omega) (by omega) (by omega) rfl ?_
      refine aw_blk (pc' := 48) (ls' := [some (vr 8 0), some (vi (q : Int)), some (vi (sumZ (fun k => dg (xwh q) (2 * xrt k)) i)), some (vi (i : Int))]) (st' := [vi (i : Int), vr 8 15]) [.inl (.aload_n 0), .inr (63, 8, 22), .inl (.iload_n 3)] 43 _ _ (by decide +kernel) rfl ?_
      refine aw_ldc2 (a := 2) (ix := 167) (v := 2) (by decide +kernel) (by decide +kernel) (by decide) ?_
      refine aw_blk (pc' := 56) (ls' := [some (vr 8 0), some (vi (q : Int)), some (vi (sumZ (fun k => dg (xwh q) (2 * xrt k)) i)), some (vi (i : Int))]) (st' := [vi (i : Int), vr 8 15, vl 2, vi (i : Int), vr 8 15]) [.inl (.aload_n 0), .inr (63, 8, 22), .inl (.iload_n 3)] 51 _ _ (by decide +kernel) rfl ?_
      refine aw_lald (j := i) (by decide +kernel) rfl (by omega) (by omega) (fun r56 => ?_)
      refine aw_blk (pc' := 63) (ls' := [some (vr 8 0), some (vi (q : Int)), some (vi (sumZ (fun k => dg (xwh q) (2 * xrt k)) i)), some (vi (i : Int))]) (st' := [vi (i : Int), vr 8 16, vl (2 * ((mp (fun k => rsd (xwh q) (2 * xrt k)) xrt i) i)), vi (i : Int), vr 8 15]) [.inl (.lmul), .inl (.aload_n 0), .inr (66, 8, 23), .inl (.iload_n 3)] 57 _ _ (by decide +kernel) rfl ?_
      refine aw_zald (j := i) (by decide +kernel) rfl (by omega) (by omega) (fun r63 => ?_)
      rw [mp_ge (Nat.le_refl i), va_eq]
      refine aw_if_eq (o := 12) (tgt := 76) (by decide +kernel) (by decide) (by omega) (fun c => absurd c (by omega)) (fun _ => ?_)
      refine aw_blk (pc' := 72) (ls' := [some (vr 8 0), some (vi (q : Int)), some (vi (sumZ (fun k => dg (xwh q) (2 * xrt k)) i)), some (vi (i : Int))]) (st' := [vi (q : Int), vr 8 3, vl (2 * ((xrt i))), vi (i : Int), vr 8 15]) [.inl (.aload_n 0), .inr (17, 8, 4), .inl (.iload_n 1)] 67 _ _ (by decide +kernel) rfl ?_
      refine aw_iald (j := q) (by decide +kernel) rfl (by omega) (by omega) (fun r72 => ?_)
      refine aw_goto (o := 4) (tgt := 77) (by decide +kernel) (by decide) ?_
      refine aw_i2l (by decide +kernel) (by omega) ?_
      refine aw_blk (pc' := 79) (ls' := [some (vr 8 0), some (vi (q : Int)), some (vi (sumZ (fun k => dg (xwh q) (2 * xrt k)) i)), some (vi (i : Int))]) (st' := [vl ((2 * ((xrt i))) - (xwh q)), vi (i : Int), vr 8 15]) [.inl (.lsub)] 78 _ _ (by decide +kernel) rfl ?_
      refine aw_last (j := i) (h' := Hp b s t mk df jo tr di [some (ob 8 [vi th, vr 8 1, vi ln, vr 8 2, vr 8 3, vr 8 4, vi by9, vr 8 5, vr 8 6, vr 8 7, vr 8 8, vr 8 9, vi dn, vi ac, vi bd, vr 8 10, vr 8 11, vr 8 12, vr 8 13, vr 8 14, vi pm, vl pq, vr 8 15, vr 8 16, vi tk, vr 8 17, vr 8 18, vr 8 19, vi fo, vi f1, vi f2]), some (ar 2 200 xtp), some (ar 0 32016 xwg), some (ar 0 16 xwh), some (ar 1 2001 xmd), some (ar 0 30 xsl), some (ar 0 30 xhw), some (ar 0 30 xhs), some (ar 0 60030 xhd), some (ar 0 60030 xha), some (ar 0 600 xp1), some (ar 0 600 xp2), some (ar 1 600 xp3), some (ar 1 2001 xl1), some (ar 1 2001 xl2), some (ar 1 2001 (va_up (mp (fun k => rsd (xwh q) (2 * xrt k)) xrt i) i ((2 * ((xrt i))) - (xwh q)))), some (ar 3 2001 (va_up (mp (fun k => dg (xwh q) (2 * xrt k)) xlf i) i 1)), some (ar 0 3600 xdc), some (ar 0 12 xhn), some (ar 0 4005 xsu)] dy) (by decide +kernel) rfl (by omega) (by omega) (by omega) rfl ?_
      refine aw_blk (pc' := 86) (ls' := [some (vr 8 0), some (vi (q : Int)), some (vi (sumZ (fun k => dg (xwh q) (2 * xrt k)) i)), some (vi (i : Int))]) (st' := [vi (i : Int), vr 8 16, vi (sumZ (fun k => dg (xwh q) (2 * xrt k)) i)]) [.inl (.iload_n 2), .inl (.aload_n 0), .inr (66, 8, 23), .inl (.iload_n 3)] 80 _ _ (by decide +kernel) rfl ?_
      refine aw_zald (j := i) (by decide +kernel) rfl (by omega) (by omega) (fun r86 => ?_)
      rw [va_eq]
      refine aw_if_eq (o := 7) (tgt := 94) (by decide +kernel) (by decide) (by omega) (fun c => absurd c (by omega)) (fun _ => ?_)
      refine aw_blk (pc' := 91) (ls' := [some (vr 8 0), some (vi (q : Int)), some (vi (sumZ (fun k => dg (xwh q) (2 * xrt k)) i)), some (vi (i : Int))]) (st' := [vi 1, vi (sumZ (fun k => dg (xwh q) (2 * xrt k)) i)]) [.inl (.iconst 1)] 90 _ _ (by decide +kernel) rfl ?_
      refine aw_goto (o := 4) (tgt := 95) (by decide +kernel) (by decide) ?_
      refine aw_blk (pc' := 100) (ls' := [some (vr 8 0), some (vi (q : Int)), some (vi ((sumZ (fun k => dg (xwh q) (2 * xrt k)) i) + 1)), some (vi ((i : Int) + 1))]) (st' := []) [.inl (.iadd), .inl (.istore_n 2), .inl (.iinc 3 1)] 95 _ _ (by decide +kernel) rfl ?_
      refine aw_goto (o := -96) (tgt := 4) (by decide +kernel) (by decide) ?_
      exact aw_eq (by simp only [sumZ]; rw [hd1]; rfl) rfl (by rw [e1, e2]) ih

theorem m_M_digitsR (hj : q < 16) (hw : 1 ≤ xwh q ∧ xwh q ≤ 1048576) (hna : ∀ v, 0 ≤ Tm xwg q v ∧ Tm xwg q v < xwh q) (hS : tM (Tm xwg q) (xwh q) k xrt xlf) : AMet G M_M_digits [vr 8 0, vi (q : Int)] (Hp b s t mk df jo tr di (sgM th ln by9 dn ac bd pm pq tk fo f1 f2 xtp xwg xwh xmd xsl xhw xhs xhd xha xp1 xp2 xp3 xl1 xl2 xrt xlf xdc xhn xsu) dy) (fun r h => r = some (vi (ml (Tm xwg q) (xwh q) (k + 1))) ∧ ∃ rt lf, tM (Tm xwg q) (xwh q) (k + 1) rt lf ∧ h = Hp b s t mk df jo tr di (sgM th ln by9 dn ac bd pm pq tk fo f1 f2 xtp xwg xwh xmd xsl xhw xhs xhd xha xp1 xp2 xp3 xl1 xl2 rt lf xdc xhn xsu) dy) (fun _ => False) := by
  refine am_mono (m_M_digits hj hw (fun j hj2 => by rw [(hS j hj2).1]; have := mr_in hna (idv j) k; omega)) (fun r h z => ?_) (fun _ z => z)
  obtain ⟨z1, z2⟩ := z
  refine ⟨by rw [z1]; unfold ml sT; rw [sumZ_ext (g := fun k9 => mg (Tm xwg q) (xwh q) (k + 1) ((k9 : Int) - 1000)) (fun i hi => by rw [(hS i hi).1]; rfl)], _, _, fun j hj2 => ⟨?_, fun _ => ?_⟩, z2⟩
  · rw [mp_lt hj2, (hS j hj2).1]; rfl
  · rw [mp_lt hj2, (hS j hj2).1]; rfl
theorem tM_0 {T : Int → Int} {W : Int} {rt lf : Nat → Int} (h : ∀ j, j < 2001 → rt j = T (idv j)) : tM T W 0 rt lf := fun j hj => ⟨h j hj, fun z => by omega⟩
end
