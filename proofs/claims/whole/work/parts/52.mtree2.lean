theorem na_of {xwg : Nat → Int} {q : Nat} {W : Int} (hTq : ∀ v, 0 ≤ Tm xwg q v ∧ Tm xwg q v ≤ 1048576) (hW : 1 ≤ W) (hTW : ∀ v, Tm xwg q v ≤ W) (ha : ¬ alM (Tm xwg q) W) : ∀ v, 0 ≤ Tm xwg q v ∧ Tm xwg q v < W := fun v => by
  have h1 := hTq v
  have h2 := hTW v
  refine ⟨h1.1, ?_⟩
  by_cases hv : inR v
  · have h3 : Tm xwg q v ≠ W := fun e => ha ⟨(v + 1000).toNat, by omega, by rw [show idv (v + 1000).toNat = v by unfold idv; omega]; exact e⟩
    omega
  · have : Tm xwg q v = 0 := by unfold Tm; rw [if_neg hv]
    omega
noncomputable def moA (T : Int → Int) (W : Int) (k : Nat) : Int := @ite _ (alM T W) (Classical.propDecidable _) 0 (mo T W k)
theorem moA_1 {T : Int → Int} {W : Int} {k : Nat} (h : alM T W) : moA T W k = 0 := by unfold moA; rw [if_pos h]
theorem moA_0 {T : Int → Int} {W : Int} {k : Nat} (h : ¬ alM T W) : moA T W k = mo T W k := by unfold moA; rw [if_neg h]
noncomputable def lfM (T : Int → Int) (W : Int) (k : Nat) (v : Int) : Int := if T v = 0 then 0 else @ite _ (alM T W) (Classical.propDecidable _) (if k = 0 then 1 else 0) (mg T W k v)
noncomputable def smM (T : Int → Int) (W : Int) : Nat → Int
  | 0 => 0
  | k + 1 => 2 * smM T W k + moA T W k
theorem smM_in {T : Int → Int} {W : Int} (h : ∀ k, 0 ≤ moA T W k ∧ moA T W k ≤ 24) : ∀ k : Nat, 0 ≤ smM T W k ∧ smM T W k ≤ 24 * pw 2 k - 24
  | 0 => by simp [smM, pw]
  | k + 1 => by
    have a := smM_in h k
    have b := h k
    have c : ∀ k : Nat, 1 ≤ pw 2 k := fun k => by
      induction k with
      | zero => simp [pw]
      | succ k ih => rw [pw_s]; omega
    have d := c k
    simp only [smM, pw_s]
    omega
theorem pw_2 : ∀ k : Nat, ((2 ^ k : Nat) : Int) = pw 2 k
  | 0 => rfl
  | k + 1 => by rw [pw_s, ← pw_2 k, Nat.pow_succ]; omega
section
variable {G : GT} {h : HT} {b s t mk df jo tr di dy : SG} {a c d e B : Int} {n m k j i0 : Nat} {f g : Nat → Int} {th ln by9 dn ac bd pm pq tk fo f1 f2 : Int} {xtp xwg xwh xmd xsl xhw xhs xhd xha xp1 xp2 xp3 xl1 xl2 xrt xlf xdc xhn xsu : Nat → Int} {T : Int → Int} {p : Prop}
variable {q q2 K : Nat}
theorem m_M_openAt (hl : isLw xwh (q : Int)) (hTq : ∀ v, 0 ≤ Tm xwg q v ∧ Tm xwg q v ≤ 1048576) (hw : 1 ≤ xwh q ∧ xwh q ≤ 1048576) (hTW : ∀ v, Tm xwg q v ≤ xwh q) (hK : K ≤ 60) : AMet G M_M_openAt [vr 8 0, vi (q : Int), vi (K : Int)] (Hp b s t mk df jo tr di (sgM th ln by9 dn ac bd pm pq tk fo f1 f2 xtp xwg xwh xmd xsl xhw xhs xhd xha xp1 xp2 xp3 xl1 xl2 xrt xlf xdc xhn xsu) dy) (fun r h => r = some (vi (moA (Tm xwg q) (xwh q) K)) ∧ ∃ rt lf, h = Hp b s t mk df jo tr di (sgM th ln by9 dn ac bd pm pq tk fo f1 f2 xtp xwg xwh xmd xsl xhw xhs xhd xha xp1 xp2 xp3 xl1 xl2 rt lf xdc xhn xsu) dy) (fun _ => False) := by
  refine am_rel (by decide +kernel) (Nat.le_of_ble_eq_true rfl) (fun Qr Qt hq => ?_)
  have hj := hl.1
  refine aw_blk (pc' := 2) (ls' := [some (vr 8 0), some (vi (q : Int)), some (vi (K : Int)), none, none]) (st' := [vi (q : Int), vr 8 0]) [.inl (.aload_n 0), .inl (.iload_n 1)] 0 _ _ (by decide +kernel) rfl ?_
  by_cases ha : alM (Tm xwg q) (xwh q)
  · refine aw_dV (cs' := 0) (sl' := 0) (pc' := 5) (st' := [vi 1]) (idx := 179) (as := [vi (q : Int)]) (st := []) (m_M_isAlone_1 (by omega) hTq ha) (by decide +kernel) (show vOK "ChanceBenchModel" 179 M_M_isAlone 1 = true by decide +kernel) rfl rfl rfl (Nat.le_of_ble_eq_true rfl) (by decide) (by decide) (by decide) rfl rfl rfl rfl ?_
    refine aw_if_eq (o := 5) (tgt := 10) (by decide +kernel) (by decide) (by omega) (fun c => absurd c (by omega)) (fun _ => ?_)
    refine aw_blk (pc' := 9) (ls' := [some (vr 8 0), some (vi (q : Int)), some (vi (K : Int)), none, none]) (st' := [vi 0]) [.inl (.iconst 0)] 8 _ _ (by decide +kernel) rfl ?_
    exact aw_iret (by decide +kernel) rfl (by decide) (by decide) (hq _ _ ⟨by rw [moA_1 ha], xrt, xlf, rfl⟩)
  · have hna := na_of hTq hw.1 hTW ha
    refine aw_dV (cs' := 0) (sl' := 0) (pc' := 5) (st' := [vi 0]) (idx := 179) (as := [vi (q : Int)]) (st := []) (m_M_isAlone_0 (by omega) hTq ha) (by decide +kernel) (show vOK "ChanceBenchModel" 179 M_M_isAlone 1 = true by decide +kernel) rfl rfl rfl (Nat.le_of_ble_eq_true rfl) (by decide) (by decide) (by decide) rfl rfl rfl rfl ?_
    refine aw_if_eq (o := 5) (tgt := 10) (by decide +kernel) (by decide) (by omega) (fun _ => ?_) (fun c => absurd (by omega) c)
    refine aw_blk (pc' := 12) (ls' := [some (vr 8 0), some (vi (q : Int)), some (vi (K : Int)), none, none]) (st' := [vi (q : Int), vr 8 0]) [.inl (.aload_n 0), .inl (.iload_n 1)] 10 _ _ (by decide +kernel) rfl ?_
    refine aw_dV (cs' := 0) (sl' := 0) (pc' := 15) (st' := []) (idx := 182) (as := [vi (q : Int)]) (st := []) (m_M_plant (by omega) hTq) (by decide +kernel) (show vOK "ChanceBenchModel" 182 M_M_plant 1 = true by decide +kernel) rfl rfl rfl (Nat.le_of_ble_eq_true rfl) (by decide) (by decide) (by decide) rfl rfl rfl rfl ?_
    refine aw_blk (pc' := 20) (ls' := [some (vr 8 0), some (vi (q : Int)), some (vi (K : Int)), some (vi 1), some (vi 0)]) (st' := []) [.inl (.iconst 1), .inl (.istore_n 3), .inl (.iconst 0), .inl (.istore 4)] 15 _ _ (by decide +kernel) rfl ?_
    refine up_to (W := fun i : Nat => ∀ rt lf, tM (Tm xwg q) (xwh q) i rt lf → AW G M_M_openAt Qr Qt 0 0 20 [some (vr 8 0), some (vi (q : Int)), some (vi (K : Int)), some (vi (mo (Tm xwg q) (xwh q) i)), some (vi (i : Int))] [] (Hp b s t mk df jo tr di [some (ob 8 [vi th, vr 8 1, vi ln, vr 8 2, vr 8 3, vr 8 4, vi by9, vr 8 5, vr 8 6, vr 8 7, vr 8 8, vr 8 9, vi dn, vi ac, vi bd, vr 8 10, vr 8 11, vr 8 12, vr 8 13, vr 8 14, vi pm, vl pq, vr 8 15, vr 8 16, vi tk, vr 8 17, vr 8 18, vr 8 19, vi fo, vi f1, vi f2]), some (ar 2 200 xtp), some (ar 0 32016 xwg), some (ar 0 16 xwh), some (ar 1 2001 xmd), some (ar 0 30 xsl), some (ar 0 30 xhw), some (ar 0 30 xhs), some (ar 0 60030 xhd), some (ar 0 60030 xha), some (ar 0 600 xp1), some (ar 0 600 xp2), some (ar 1 600 xp3), some (ar 1 2001 xl1), some (ar 1 2001 xl2), some (ar 1 2001 rt), some (ar 3 2001 lf), some (ar 0 3600 xdc), some (ar 0 12 xhn), some (ar 0 4005 xsu)] dy)) K ?_ (fun i hi9 ih => ?_) 0 (by omega) _ _ (tM_0 (fun j hj9 => mp_lt hj9))
    · intro rt lf hS
      refine aw_blk (pc' := 23) (ls' := [some (vr 8 0), some (vi (q : Int)), some (vi (K : Int)), some (vi (mo (Tm xwg q) (xwh q) K)), some (vi (K : Int))]) (st' := [vi (K : Int), vi (K : Int)]) [.inl (.iload 4), .inl (.iload_n 2)] 20 _ _ (by decide +kernel) rfl ?_
      refine aw_icmp_ge (o := 19) (tgt := 42) (by decide +kernel) (by decide) (by omega) (by omega) (fun _ => ?_) (fun c => absurd (by omega) c)
      refine aw_blk (pc' := 43) (ls' := [some (vr 8 0), some (vi (q : Int)), some (vi (K : Int)), some (vi (mo (Tm xwg q) (xwh q) K)), some (vi (K : Int))]) (st' := [vi (mo (Tm xwg q) (xwh q) K)]) [.inl (.iload_n 3)] 42 _ _ (by decide +kernel) rfl ?_
      exact aw_iret (by decide +kernel) rfl (by decide) (by decide) (hq _ _ ⟨by rw [moA_0 ha], rt, lf, rfl⟩)
    · intro rt lf hS
      refine aw_blk (pc' := 23) (ls' := [some (vr 8 0), some (vi (q : Int)), some (vi (K : Int)), some (vi (mo (Tm xwg q) (xwh q) i)), some (vi (i : Int))]) (st' := [vi (K : Int), vi (i : Int)]) [.inl (.iload 4), .inl (.iload_n 2)] 20 _ _ (by decide +kernel) rfl ?_
      refine aw_icmp_ge (o := 19) (tgt := 42) (by decide +kernel) (by decide) (by omega) (by omega) (fun c => absurd c (by omega)) (fun _ => ?_)
      refine aw_blk (pc' := 31) (ls' := [some (vr 8 0), some (vi (q : Int)), some (vi (K : Int)), some (vi (mo (Tm xwg q) (xwh q) i)), some (vi (i : Int))]) (st' := [vi (q : Int), vr 8 0, vi (2 * (mo (Tm xwg q) (xwh q) i))]) [.inl (.iconst 2), .inl (.iload_n 3), .inl (.imul), .inl (.aload_n 0), .inl (.iload_n 1)] 26 _ _ (by decide +kernel) rfl ?_
      refine aw_rV (cs' := 0) (sl' := 0) (pc' := 34) (idx := 185) (as := [vi (q : Int)]) (st := [vi (2 * (mo (Tm xwg q) (xwh q) i))]) (m_M_digitsR (by omega) hw hna hS) (by decide +kernel) (show vOK "ChanceBenchModel" 185 M_M_digits 1 = true by decide +kernel) rfl rfl rfl (Nat.le_of_ble_eq_true rfl) (by decide) (by decide) (by decide) rfl rfl rfl (fun r31 h31 z31 => ?_)
      obtain ⟨rfl, rt2, lf2, hS2, rfl⟩ := z31
      refine aw_blk (pc' := 39) (ls' := [some (vr 8 0), some (vi (q : Int)), some (vi (K : Int)), some (vi ((2 * (mo (Tm xwg q) (xwh q) i)) - (ml (Tm xwg q) (xwh q) (i + 1)))), some (vi ((i : Int) + 1))]) (st' := []) [.inl (.isub), .inl (.istore_n 3), .inl (.iinc 4 1)] 34 _ _ (by decide +kernel) rfl ?_
      refine aw_goto (o := -19) (tgt := 20) (by decide +kernel) (by decide) ?_
      exact ih rt2 lf2 hS2

theorem m_M_open (hl : isLw xwh (q : Int)) (hTq : ∀ v, 0 ≤ Tm xwg q v ∧ Tm xwg q v ≤ 1048576) (hw : 1 ≤ xwh q ∧ xwh q ≤ 1048576) (hTW : ∀ v, Tm xwg q v ≤ xwh q) (hK : K ≤ 60) : AMet G M_M_open [vr 8 0, vi (q : Int), vi (K : Int)] (Hp b s t mk df jo tr di (sgM th ln by9 dn ac bd pm pq tk fo f1 f2 xtp xwg xwh xmd xsl xhw xhs xhd xha xp1 xp2 xp3 xl1 xl2 xrt xlf xdc xhn xsu) dy) (fun r h => r = some (vi (moA (Tm xwg q) (xwh q) K)) ∧ ∃ rt lf, h = Hp b s t mk df jo tr di (sgM 0 ln by9 dn ac bd pm pq tk fo f1 f2 xtp xwg xwh xmd xsl xhw xhs xhd xha xp1 xp2 xp3 xl1 xl2 rt lf xdc xhn xsu) dy) (fun _ => False) := by
  refine am_rel (by decide +kernel) (Nat.le_of_ble_eq_true rfl) (fun Qr Qt hq => ?_)
  refine aw_blk (pc' := 3) (ls' := [some (vr 8 0), some (vi (q : Int)), some (vi (K : Int))]) (st' := [vi (q : Int), vr 8 0, vr 8 0]) [.inl (.aload_n 0), .inl (.aload_n 0), .inl (.iload_n 1)] 0 _ _ (by decide +kernel) rfl ?_
  refine aw_dV (cs' := 0) (sl' := 0) (pc' := 6) (st' := [vi 1, vr 8 0]) (idx := 133) (as := [vi (q : Int)]) (st := [vr 8 0]) (m_M_isLaw_1 hl) (by decide +kernel) (show vOK "ChanceBenchModel" 133 M_M_isLaw 1 = true by decide +kernel) rfl rfl rfl (Nat.le_of_ble_eq_true rfl) (by decide) (by decide) (by decide) rfl rfl rfl rfl ?_
  refine aw_if_eq (o := 13) (tgt := 19) (by decide +kernel) (by decide) (by omega) (fun c => absurd c (by omega)) (fun _ => ?_)
  refine aw_blk (pc' := 10) (ls' := [some (vr 8 0), some (vi (q : Int)), some (vi (K : Int))]) (st' := [vi (K : Int), vr 8 0]) [.inl (.iload_n 2)] 9 _ _ (by decide +kernel) rfl ?_
  refine aw_if_lt (o := 9) (tgt := 19) (by decide +kernel) (by decide) (by omega) (fun c => absurd c (by omega)) (fun _ => ?_)
  refine aw_blk (pc' := 16) (ls' := [some (vr 8 0), some (vi (q : Int)), some (vi (K : Int))]) (st' := [vi 60, vi (K : Int), vr 8 0]) [.inl (.iload_n 2), .inl (.bipush 60)] 13 _ _ (by decide +kernel) rfl ?_
  refine aw_icmp_le (o := 7) (tgt := 23) (by decide +kernel) (by decide) (by omega) (by omega) (fun _ => ?_) (fun c => absurd (by omega) c)
  refine aw_blk (pc' := 24) (ls' := [some (vr 8 0), some (vi (q : Int)), some (vi (K : Int))]) (st' := [vi 0, vr 8 0]) [.inl (.iconst 0)] 23 _ _ (by decide +kernel) rfl ?_
  refine aw_dV (cs' := 0) (sl' := 0) (pc' := 27) (st' := [vi 0]) (idx := 140) (as := [vi 0]) (st := []) (m_M_throwsIf_0) (by decide +kernel) (show vOK "ChanceBenchModel" 140 M_M_throwsIf 1 = true by decide +kernel) rfl rfl rfl (Nat.le_of_ble_eq_true rfl) (by decide) (by decide) (by decide) rfl rfl rfl rfl ?_
  refine aw_if_eq (o := 7) (tgt := 34) (by decide +kernel) (by decide) (by omega) (fun _ => ?_) (fun c => absurd (by omega) c)
  refine aw_blk (pc' := 37) (ls' := [some (vr 8 0), some (vi (q : Int)), some (vi (K : Int))]) (st' := [vi (K : Int), vi (q : Int), vr 8 0]) [.inl (.aload_n 0), .inl (.iload_n 1), .inl (.iload_n 2)] 34 _ _ (by decide +kernel) rfl ?_
  refine aw_rV (cs' := 0) (sl' := 0) (pc' := 40) (idx := 189) (as := [vi (q : Int), vi (K : Int)]) (st := []) (m_M_openAt hl hTq hw hTW hK) (by decide +kernel) (show vOK "ChanceBenchModel" 189 M_M_openAt 2 = true by decide +kernel) rfl rfl rfl (Nat.le_of_ble_eq_true rfl) (by decide) (by decide) (by decide) rfl rfl rfl (fun r37 h37 z37 => ?_)
  obtain ⟨rfl, rt, lf, rfl⟩ := z37
  exact aw_iret (by decide +kernel) rfl (by decide) (by decide) (hq _ _ ⟨rfl, rt, lf, rfl⟩)

theorem m_M_open_0 (hi : I32 a ∧ I32 c) (hl : ¬ (isLw xwh a ∧ 0 ≤ c ∧ c ≤ 60)) : ADet G M_M_open [vr 8 0, vi a, vi c] (Hp b s t mk df jo tr di (sgM th ln by9 dn ac bd pm pq tk fo f1 f2 xtp xwg xwh xmd xsl xhw xhs xhd xha xp1 xp2 xp3 xl1 xl2 xrt xlf xdc xhn xsu) dy) (some (vi 0)) (Hp b s t mk df jo tr di (sgM 1 ln by9 dn ac bd pm pq tk fo f1 f2 xtp xwg xwh xmd xsl xhw xhs xhd xha xp1 xp2 xp3 xl1 xl2 xrt xlf xdc xhn xsu) dy) := by
  refine am_det (by decide +kernel) (Nat.le_of_ble_eq_true rfl) (fun Qr Qt hq => ?_)
  refine aw_blk (pc' := 3) (ls' := [some (vr 8 0), some (vi a), some (vi c)]) (st' := [vi a, vr 8 0, vr 8 0]) [.inl (.aload_n 0), .inl (.aload_n 0), .inl (.iload_n 1)] 0 _ _ (by decide +kernel) rfl ?_
  by_cases hl1 : isLw xwh a
  · refine aw_dV (cs' := 0) (sl' := 0) (pc' := 6) (st' := [vi 1, vr 8 0]) (idx := 133) (as := [vi a]) (st := [vr 8 0]) (m_M_isLaw_1 hl1) (by decide +kernel) (show vOK "ChanceBenchModel" 133 M_M_isLaw 1 = true by decide +kernel) rfl rfl rfl (Nat.le_of_ble_eq_true rfl) (by decide) (by decide) (by decide) rfl rfl rfl rfl ?_
    refine aw_if_eq (o := 13) (tgt := 19) (by decide +kernel) (by decide) (by omega) (fun c => absurd c (by omega)) (fun _ => ?_)
    refine aw_blk (pc' := 10) (ls' := [some (vr 8 0), some (vi a), some (vi c)]) (st' := [vi c, vr 8 0]) [.inl (.iload_n 2)] 9 _ _ (by decide +kernel) rfl ?_
    refine aw_if_lt (o := 9) (tgt := 19) (by decide +kernel) (by decide) (by omega) (fun c0 => ?_) (fun c0 => ?_)
    · refine aw_blk (pc' := 20) (ls' := [some (vr 8 0), some (vi a), some (vi c)]) (st' := [vi 1, vr 8 0]) [.inl (.iconst 1)] 19 _ _ (by decide +kernel) rfl ?_
      refine aw_goto (o := 4) (tgt := 24) (by decide +kernel) (by decide) ?_
      refine aw_dV (cs' := 0) (sl' := 0) (pc' := 27) (st' := [vi 1]) (idx := 140) (as := [vi 1]) (st := []) (m_M_throwsIf_1) (by decide +kernel) (show vOK "ChanceBenchModel" 140 M_M_throwsIf 1 = true by decide +kernel) rfl rfl rfl (Nat.le_of_ble_eq_true rfl) (by decide) (by decide) (by decide) rfl rfl rfl rfl ?_
      refine aw_if_eq (o := 7) (tgt := 34) (by decide +kernel) (by decide) (by omega) (fun c => absurd c (by omega)) (fun _ => ?_)
      refine aw_blk (pc' := 31) (ls' := [some (vr 8 0), some (vi a), some (vi c)]) (st' := [vi 0]) [.inl (.iconst 0)] 30 _ _ (by decide +kernel) rfl ?_
      refine aw_goto (o := 9) (tgt := 40) (by decide +kernel) (by decide) ?_
      exact aw_iret (by decide +kernel) rfl (by decide) (by decide) (hq _ _ rfl rfl)
    · refine aw_blk (pc' := 16) (ls' := [some (vr 8 0), some (vi a), some (vi c)]) (st' := [vi 60, vi c, vr 8 0]) [.inl (.iload_n 2), .inl (.bipush 60)] 13 _ _ (by decide +kernel) rfl ?_
      refine aw_icmp_le (o := 7) (tgt := 23) (by decide +kernel) (by decide) (by omega) (by omega) (fun c1 => ?_) (fun c1 => ?_)
      · exact absurd ⟨hl1, by omega⟩ hl
      · refine aw_blk (pc' := 20) (ls' := [some (vr 8 0), some (vi a), some (vi c)]) (st' := [vi 1, vr 8 0]) [.inl (.iconst 1)] 19 _ _ (by decide +kernel) rfl ?_
        refine aw_goto (o := 4) (tgt := 24) (by decide +kernel) (by decide) ?_
        refine aw_dV (cs' := 0) (sl' := 0) (pc' := 27) (st' := [vi 1]) (idx := 140) (as := [vi 1]) (st := []) (m_M_throwsIf_1) (by decide +kernel) (show vOK "ChanceBenchModel" 140 M_M_throwsIf 1 = true by decide +kernel) rfl rfl rfl (Nat.le_of_ble_eq_true rfl) (by decide) (by decide) (by decide) rfl rfl rfl rfl ?_
        refine aw_if_eq (o := 7) (tgt := 34) (by decide +kernel) (by decide) (by omega) (fun c => absurd c (by omega)) (fun _ => ?_)
        refine aw_blk (pc' := 31) (ls' := [some (vr 8 0), some (vi a), some (vi c)]) (st' := [vi 0]) [.inl (.iconst 0)] 30 _ _ (by decide +kernel) rfl ?_
        refine aw_goto (o := 9) (tgt := 40) (by decide +kernel) (by decide) ?_
        exact aw_iret (by decide +kernel) rfl (by decide) (by decide) (hq _ _ rfl rfl)
  · refine aw_dV (cs' := 0) (sl' := 0) (pc' := 6) (st' := [vi 0, vr 8 0]) (idx := 133) (as := [vi a]) (st := [vr 8 0]) (m_M_isLaw_0 (by omega) hl1) (by decide +kernel) (show vOK "ChanceBenchModel" 133 M_M_isLaw 1 = true by decide +kernel) rfl rfl rfl (Nat.le_of_ble_eq_true rfl) (by decide) (by decide) (by decide) rfl rfl rfl rfl ?_
    refine aw_if_eq (o := 13) (tgt := 19) (by decide +kernel) (by decide) (by omega) (fun _ => ?_) (fun c => absurd (by omega) c)
    refine aw_blk (pc' := 20) (ls' := [some (vr 8 0), some (vi a), some (vi c)]) (st' := [vi 1, vr 8 0]) [.inl (.iconst 1)] 19 _ _ (by decide +kernel) rfl ?_
    refine aw_goto (o := 4) (tgt := 24) (by decide +kernel) (by decide) ?_
    refine aw_dV (cs' := 0) (sl' := 0) (pc' := 27) (st' := [vi 1]) (idx := 140) (as := [vi 1]) (st := []) (m_M_throwsIf_1) (by decide +kernel) (show vOK "ChanceBenchModel" 140 M_M_throwsIf 1 = true by decide +kernel) rfl rfl rfl (Nat.le_of_ble_eq_true rfl) (by decide) (by decide) (by decide) rfl rfl rfl rfl ?_
    refine aw_if_eq (o := 7) (tgt := 34) (by decide +kernel) (by decide) (by omega) (fun c => absurd c (by omega)) (fun _ => ?_)
    refine aw_blk (pc' := 31) (ls' := [some (vr 8 0), some (vi a), some (vi c)]) (st' := [vi 0]) [.inl (.iconst 0)] 30 _ _ (by decide +kernel) rfl ?_
    refine aw_goto (o := 9) (tgt := 40) (by decide +kernel) (by decide) ?_
    exact aw_iret (by decide +kernel) rfl (by decide) (by decide) (hq _ _ rfl rfl)

theorem m_M_leaf_0 (hi : I32 a ∧ I32 d) (hl : ¬ (isLw xwh a ∧ 0 ≤ d ∧ d ≤ 60)) : ADet G M_M_leaf [vr 8 0, vi a, vi c, vi d] (Hp b s t mk df jo tr di (sgM th ln by9 dn ac bd pm pq tk fo f1 f2 xtp xwg xwh xmd xsl xhw xhs xhd xha xp1 xp2 xp3 xl1 xl2 xrt xlf xdc xhn xsu) dy) (some (vi 0)) (Hp b s t mk df jo tr di (sgM 1 ln by9 dn ac bd pm pq tk fo f1 f2 xtp xwg xwh xmd xsl xhw xhs xhd xha xp1 xp2 xp3 xl1 xl2 xrt xlf xdc xhn xsu) dy) := by
  refine am_det (by decide +kernel) (Nat.le_of_ble_eq_true rfl) (fun Qr Qt hq => ?_)
  refine aw_blk (pc' := 3) (ls' := [some (vr 8 0), some (vi a), some (vi c), some (vi d), none]) (st' := [vi a, vr 8 0, vr 8 0]) [.inl (.aload_n 0), .inl (.aload_n 0), .inl (.iload_n 1)] 0 _ _ (by decide +kernel) rfl ?_
  by_cases hl1 : isLw xwh a
  · refine aw_dV (cs' := 0) (sl' := 0) (pc' := 6) (st' := [vi 1, vr 8 0]) (idx := 133) (as := [vi a]) (st := [vr 8 0]) (m_M_isLaw_1 hl1) (by decide +kernel) (show vOK "ChanceBenchModel" 133 M_M_isLaw 1 = true by decide +kernel) rfl rfl rfl (Nat.le_of_ble_eq_true rfl) (by decide) (by decide) (by decide) rfl rfl rfl rfl ?_
    refine aw_if_eq (o := 13) (tgt := 19) (by decide +kernel) (by decide) (by omega) (fun c => absurd c (by omega)) (fun _ => ?_)
    refine aw_blk (pc' := 10) (ls' := [some (vr 8 0), some (vi a), some (vi c), some (vi d), none]) (st' := [vi d, vr 8 0]) [.inl (.iload_n 3)] 9 _ _ (by decide +kernel) rfl ?_
    refine aw_if_lt (o := 9) (tgt := 19) (by decide +kernel) (by decide) (by omega) (fun c0 => ?_) (fun c0 => ?_)
    · refine aw_blk (pc' := 20) (ls' := [some (vr 8 0), some (vi a), some (vi c), some (vi d), none]) (st' := [vi 1, vr 8 0]) [.inl (.iconst 1)] 19 _ _ (by decide +kernel) rfl ?_
      refine aw_goto (o := 4) (tgt := 24) (by decide +kernel) (by decide) ?_
      refine aw_dV (cs' := 0) (sl' := 0) (pc' := 27) (st' := [vi 1]) (idx := 140) (as := [vi 1]) (st := []) (m_M_throwsIf_1) (by decide +kernel) (show vOK "ChanceBenchModel" 140 M_M_throwsIf 1 = true by decide +kernel) rfl rfl rfl (Nat.le_of_ble_eq_true rfl) (by decide) (by decide) (by decide) rfl rfl rfl rfl ?_
      refine aw_if_ne (o := 12) (tgt := 39) (by decide +kernel) (by decide) (by omega) (fun _ => ?_) (fun c => absurd c (by omega))
      refine aw_blk (pc' := 40) (ls' := [some (vr 8 0), some (vi a), some (vi c), some (vi d), none]) (st' := [vi 0]) [.inl (.iconst 0)] 39 _ _ (by decide +kernel) rfl ?_
      exact aw_zret (by decide +kernel) rfl (by decide) (by decide) (by omega) (hq _ _ rfl rfl)
    · refine aw_blk (pc' := 16) (ls' := [some (vr 8 0), some (vi a), some (vi c), some (vi d), none]) (st' := [vi 60, vi d, vr 8 0]) [.inl (.iload_n 3), .inl (.bipush 60)] 13 _ _ (by decide +kernel) rfl ?_
      refine aw_icmp_le (o := 7) (tgt := 23) (by decide +kernel) (by decide) (by omega) (by omega) (fun c1 => ?_) (fun c1 => ?_)
      · exact absurd ⟨hl1, by omega⟩ hl
      · refine aw_blk (pc' := 20) (ls' := [some (vr 8 0), some (vi a), some (vi c), some (vi d), none]) (st' := [vi 1, vr 8 0]) [.inl (.iconst 1)] 19 _ _ (by decide +kernel) rfl ?_
        refine aw_goto (o := 4) (tgt := 24) (by decide +kernel) (by decide) ?_
        refine aw_dV (cs' := 0) (sl' := 0) (pc' := 27) (st' := [vi 1]) (idx := 140) (as := [vi 1]) (st := []) (m_M_throwsIf_1) (by decide +kernel) (show vOK "ChanceBenchModel" 140 M_M_throwsIf 1 = true by decide +kernel) rfl rfl rfl (Nat.le_of_ble_eq_true rfl) (by decide) (by decide) (by decide) rfl rfl rfl rfl ?_
        refine aw_if_ne (o := 12) (tgt := 39) (by decide +kernel) (by decide) (by omega) (fun _ => ?_) (fun c => absurd c (by omega))
        refine aw_blk (pc' := 40) (ls' := [some (vr 8 0), some (vi a), some (vi c), some (vi d), none]) (st' := [vi 0]) [.inl (.iconst 0)] 39 _ _ (by decide +kernel) rfl ?_
        exact aw_zret (by decide +kernel) rfl (by decide) (by decide) (by omega) (hq _ _ rfl rfl)
  · refine aw_dV (cs' := 0) (sl' := 0) (pc' := 6) (st' := [vi 0, vr 8 0]) (idx := 133) (as := [vi a]) (st := [vr 8 0]) (m_M_isLaw_0 (by omega) hl1) (by decide +kernel) (show vOK "ChanceBenchModel" 133 M_M_isLaw 1 = true by decide +kernel) rfl rfl rfl (Nat.le_of_ble_eq_true rfl) (by decide) (by decide) (by decide) rfl rfl rfl rfl ?_
    refine aw_if_eq (o := 13) (tgt := 19) (by decide +kernel) (by decide) (by omega) (fun _ => ?_) (fun c => absurd (by omega) c)
    refine aw_blk (pc' := 20) (ls' := [some (vr 8 0), some (vi a), some (vi c), some (vi d), none]) (st' := [vi 1, vr 8 0]) [.inl (.iconst 1)] 19 _ _ (by decide +kernel) rfl ?_
    refine aw_goto (o := 4) (tgt := 24) (by decide +kernel) (by decide) ?_
    refine aw_dV (cs' := 0) (sl' := 0) (pc' := 27) (st' := [vi 1]) (idx := 140) (as := [vi 1]) (st := []) (m_M_throwsIf_1) (by decide +kernel) (show vOK "ChanceBenchModel" 140 M_M_throwsIf 1 = true by decide +kernel) rfl rfl rfl (Nat.le_of_ble_eq_true rfl) (by decide) (by decide) (by decide) rfl rfl rfl rfl ?_
    refine aw_if_ne (o := 12) (tgt := 39) (by decide +kernel) (by decide) (by omega) (fun _ => ?_) (fun c => absurd c (by omega))
    refine aw_blk (pc' := 40) (ls' := [some (vr 8 0), some (vi a), some (vi c), some (vi d), none]) (st' := [vi 0]) [.inl (.iconst 0)] 39 _ _ (by decide +kernel) rfl ?_
    exact aw_zret (by decide +kernel) rfl (by decide) (by decide) (by omega) (hq _ _ rfl rfl)

theorem m_M_lots_0 (hi : I32 a ∧ I32 c ∧ I32 d) (hl : ¬ (isLw xwh a ∧ 0 ≤ c ∧ c ≤ 40 ∧ 0 ≤ d ∧ d ≤ 1)) : ADet G M_M_lots [vr 8 0, vi a, vi c, vi d] (Hp b s t mk df jo tr di (sgM th ln by9 dn ac bd pm pq tk fo f1 f2 xtp xwg xwh xmd xsl xhw xhs xhd xha xp1 xp2 xp3 xl1 xl2 xrt xlf xdc xhn xsu) dy) (some (vl 0)) (Hp b s t mk df jo tr di (sgM 1 ln by9 dn ac bd pm pq tk fo f1 f2 xtp xwg xwh xmd xsl xhw xhs xhd xha xp1 xp2 xp3 xl1 xl2 xrt xlf xdc xhn xsu) dy) := by
  refine am_det (by decide +kernel) (Nat.le_of_ble_eq_true rfl) (fun Qr Qt hq => ?_)
  refine aw_blk (pc' := 3) (ls' := [some (vr 8 0), some (vi a), some (vi c), some (vi d), none, none, none]) (st' := [vi a, vr 8 0, vr 8 0]) [.inl (.aload_n 0), .inl (.aload_n 0), .inl (.iload_n 1)] 0 _ _ (by decide +kernel) rfl ?_
  by_cases hl1 : isLw xwh a
  · refine aw_dV (cs' := 0) (sl' := 0) (pc' := 6) (st' := [vi 1, vr 8 0]) (idx := 133) (as := [vi a]) (st := [vr 8 0]) (m_M_isLaw_1 hl1) (by decide +kernel) (show vOK "ChanceBenchModel" 133 M_M_isLaw 1 = true by decide +kernel) rfl rfl rfl (Nat.le_of_ble_eq_true rfl) (by decide) (by decide) (by decide) rfl rfl rfl rfl ?_
    refine aw_if_eq (o := 22) (tgt := 28) (by decide +kernel) (by decide) (by omega) (fun c => absurd c (by omega)) (fun _ => ?_)
    refine aw_blk (pc' := 10) (ls' := [some (vr 8 0), some (vi a), some (vi c), some (vi d), none, none, none]) (st' := [vi c, vr 8 0]) [.inl (.iload_n 2)] 9 _ _ (by decide +kernel) rfl ?_
    refine aw_if_lt (o := 18) (tgt := 28) (by decide +kernel) (by decide) (by omega) (fun c0 => ?_) (fun c0 => ?_)
    · refine aw_blk (pc' := 29) (ls' := [some (vr 8 0), some (vi a), some (vi c), some (vi d), none, none, none]) (st' := [vi 1, vr 8 0]) [.inl (.iconst 1)] 28 _ _ (by decide +kernel) rfl ?_
      refine aw_goto (o := 4) (tgt := 33) (by decide +kernel) (by decide) ?_
      refine aw_dV (cs' := 0) (sl' := 0) (pc' := 36) (st' := [vi 1]) (idx := 140) (as := [vi 1]) (st := []) (m_M_throwsIf_1) (by decide +kernel) (show vOK "ChanceBenchModel" 140 M_M_throwsIf 1 = true by decide +kernel) rfl rfl rfl (Nat.le_of_ble_eq_true rfl) (by decide) (by decide) (by decide) rfl rfl rfl rfl ?_
      refine aw_if_eq (o := 5) (tgt := 41) (by decide +kernel) (by decide) (by omega) (fun c => absurd c (by omega)) (fun _ => ?_)
      refine aw_blk (pc' := 40) (ls' := [some (vr 8 0), some (vi a), some (vi c), some (vi d), none, none, none]) (st' := [vl 0]) [.inl (.lconst 0)] 39 _ _ (by decide +kernel) rfl ?_
      exact aw_lret (by decide +kernel) rfl (by decide) (by decide) (hq _ _ rfl rfl)
    · refine aw_blk (pc' := 16) (ls' := [some (vr 8 0), some (vi a), some (vi c), some (vi d), none, none, none]) (st' := [vi 40, vi c, vr 8 0]) [.inl (.iload_n 2), .inl (.bipush 40)] 13 _ _ (by decide +kernel) rfl ?_
      refine aw_icmp_gt (o := 12) (tgt := 28) (by decide +kernel) (by decide) (by omega) (by omega) (fun c1 => ?_) (fun c1 => ?_)
      · refine aw_blk (pc' := 29) (ls' := [some (vr 8 0), some (vi a), some (vi c), some (vi d), none, none, none]) (st' := [vi 1, vr 8 0]) [.inl (.iconst 1)] 28 _ _ (by decide +kernel) rfl ?_
        refine aw_goto (o := 4) (tgt := 33) (by decide +kernel) (by decide) ?_
        refine aw_dV (cs' := 0) (sl' := 0) (pc' := 36) (st' := [vi 1]) (idx := 140) (as := [vi 1]) (st := []) (m_M_throwsIf_1) (by decide +kernel) (show vOK "ChanceBenchModel" 140 M_M_throwsIf 1 = true by decide +kernel) rfl rfl rfl (Nat.le_of_ble_eq_true rfl) (by decide) (by decide) (by decide) rfl rfl rfl rfl ?_
        refine aw_if_eq (o := 5) (tgt := 41) (by decide +kernel) (by decide) (by omega) (fun c => absurd c (by omega)) (fun _ => ?_)
        refine aw_blk (pc' := 40) (ls' := [some (vr 8 0), some (vi a), some (vi c), some (vi d), none, none, none]) (st' := [vl 0]) [.inl (.lconst 0)] 39 _ _ (by decide +kernel) rfl ?_
        exact aw_lret (by decide +kernel) rfl (by decide) (by decide) (hq _ _ rfl rfl)
      · refine aw_blk (pc' := 20) (ls' := [some (vr 8 0), some (vi a), some (vi c), some (vi d), none, none, none]) (st' := [vi d, vr 8 0]) [.inl (.iload_n 3)] 19 _ _ (by decide +kernel) rfl ?_
        refine aw_if_lt (o := 8) (tgt := 28) (by decide +kernel) (by decide) (by omega) (fun c2 => ?_) (fun c2 => ?_)
        · refine aw_blk (pc' := 29) (ls' := [some (vr 8 0), some (vi a), some (vi c), some (vi d), none, none, none]) (st' := [vi 1, vr 8 0]) [.inl (.iconst 1)] 28 _ _ (by decide +kernel) rfl ?_
          refine aw_goto (o := 4) (tgt := 33) (by decide +kernel) (by decide) ?_
          refine aw_dV (cs' := 0) (sl' := 0) (pc' := 36) (st' := [vi 1]) (idx := 140) (as := [vi 1]) (st := []) (m_M_throwsIf_1) (by decide +kernel) (show vOK "ChanceBenchModel" 140 M_M_throwsIf 1 = true by decide +kernel) rfl rfl rfl (Nat.le_of_ble_eq_true rfl) (by decide) (by decide) (by decide) rfl rfl rfl rfl ?_
          refine aw_if_eq (o := 5) (tgt := 41) (by decide +kernel) (by decide) (by omega) (fun c => absurd c (by omega)) (fun _ => ?_)
          refine aw_blk (pc' := 40) (ls' := [some (vr 8 0), some (vi a), some (vi c), some (vi d), none, none, none]) (st' := [vl 0]) [.inl (.lconst 0)] 39 _ _ (by decide +kernel) rfl ?_
          exact aw_lret (by decide +kernel) rfl (by decide) (by decide) (hq _ _ rfl rfl)
        · refine aw_blk (pc' := 25) (ls' := [some (vr 8 0), some (vi a), some (vi c), some (vi d), none, none, none]) (st' := [vi 1, vi d, vr 8 0]) [.inl (.iload_n 3), .inl (.iconst 1)] 23 _ _ (by decide +kernel) rfl ?_
          refine aw_icmp_le (o := 7) (tgt := 32) (by decide +kernel) (by decide) (by omega) (by omega) (fun c3 => ?_) (fun c3 => ?_)
          · exact absurd ⟨hl1, by omega⟩ hl
          · refine aw_blk (pc' := 29) (ls' := [some (vr 8 0), some (vi a), some (vi c), some (vi d), none, none, none]) (st' := [vi 1, vr 8 0]) [.inl (.iconst 1)] 28 _ _ (by decide +kernel) rfl ?_
            refine aw_goto (o := 4) (tgt := 33) (by decide +kernel) (by decide) ?_
            refine aw_dV (cs' := 0) (sl' := 0) (pc' := 36) (st' := [vi 1]) (idx := 140) (as := [vi 1]) (st := []) (m_M_throwsIf_1) (by decide +kernel) (show vOK "ChanceBenchModel" 140 M_M_throwsIf 1 = true by decide +kernel) rfl rfl rfl (Nat.le_of_ble_eq_true rfl) (by decide) (by decide) (by decide) rfl rfl rfl rfl ?_
            refine aw_if_eq (o := 5) (tgt := 41) (by decide +kernel) (by decide) (by omega) (fun c => absurd c (by omega)) (fun _ => ?_)
            refine aw_blk (pc' := 40) (ls' := [some (vr 8 0), some (vi a), some (vi c), some (vi d), none, none, none]) (st' := [vl 0]) [.inl (.lconst 0)] 39 _ _ (by decide +kernel) rfl ?_
            exact aw_lret (by decide +kernel) rfl (by decide) (by decide) (hq _ _ rfl rfl)
  · refine aw_dV (cs' := 0) (sl' := 0) (pc' := 6) (st' := [vi 0, vr 8 0]) (idx := 133) (as := [vi a]) (st := [vr 8 0]) (m_M_isLaw_0 (by omega) hl1) (by decide +kernel) (show vOK "ChanceBenchModel" 133 M_M_isLaw 1 = true by decide +kernel) rfl rfl rfl (Nat.le_of_ble_eq_true rfl) (by decide) (by decide) (by decide) rfl rfl rfl rfl ?_
    refine aw_if_eq (o := 22) (tgt := 28) (by decide +kernel) (by decide) (by omega) (fun _ => ?_) (fun c => absurd (by omega) c)
    refine aw_blk (pc' := 29) (ls' := [some (vr 8 0), some (vi a), some (vi c), some (vi d), none, none, none]) (st' := [vi 1, vr 8 0]) [.inl (.iconst 1)] 28 _ _ (by decide +kernel) rfl ?_
    refine aw_goto (o := 4) (tgt := 33) (by decide +kernel) (by decide) ?_
    refine aw_dV (cs' := 0) (sl' := 0) (pc' := 36) (st' := [vi 1]) (idx := 140) (as := [vi 1]) (st := []) (m_M_throwsIf_1) (by decide +kernel) (show vOK "ChanceBenchModel" 140 M_M_throwsIf 1 = true by decide +kernel) rfl rfl rfl (Nat.le_of_ble_eq_true rfl) (by decide) (by decide) (by decide) rfl rfl rfl rfl ?_
    refine aw_if_eq (o := 5) (tgt := 41) (by decide +kernel) (by decide) (by omega) (fun c => absurd c (by omega)) (fun _ => ?_)
    refine aw_blk (pc' := 40) (ls' := [some (vr 8 0), some (vi a), some (vi c), some (vi d), none, none, none]) (st' := [vl 0]) [.inl (.lconst 0)] 39 _ _ (by decide +kernel) rfl ?_
    exact aw_lret (by decide +kernel) rfl (by decide) (by decide) (hq _ _ rfl rfl)

theorem m_M_leaf (hl : isLw xwh (q : Int)) (hTq : ∀ v, 0 ≤ Tm xwg q v ∧ Tm xwg q v ≤ 1048576) (hw : 1 ≤ xwh q ∧ xwh q ≤ 1048576) (hTW : ∀ v, Tm xwg q v ≤ xwh q) (hc : I32 c) (hK : K ≤ 60) : AMet G M_M_leaf [vr 8 0, vi (q : Int), vi c, vi (K : Int)] (Hp b s t mk df jo tr di (sgM th ln by9 dn ac bd pm pq tk fo f1 f2 xtp xwg xwh xmd xsl xhw xhs xhd xha xp1 xp2 xp3 xl1 xl2 xrt xlf xdc xhn xsu) dy) (fun r h => r = some (vi (lfM (Tm xwg q) (xwh q) K c)) ∧ ∃ rt lf, h = Hp b s t mk df jo tr di (sgM 0 ln by9 dn ac bd pm pq tk fo f1 f2 xtp xwg xwh xmd xsl xhw xhs xhd xha xp1 xp2 xp3 xl1 xl2 rt lf xdc xhn xsu) dy) (fun _ => False) := by
  refine am_rel (by decide +kernel) (Nat.le_of_ble_eq_true rfl) (fun Qr Qt hq => ?_)
  have hj := hl.1
  have htq := hTq c
  refine aw_blk (pc' := 3) (ls' := [some (vr 8 0), some (vi (q : Int)), some (vi c), some (vi (K : Int)), none]) (st' := [vi (q : Int), vr 8 0, vr 8 0]) [.inl (.aload_n 0), .inl (.aload_n 0), .inl (.iload_n 1)] 0 _ _ (by decide +kernel) rfl ?_
  refine aw_dV (cs' := 0) (sl' := 0) (pc' := 6) (st' := [vi 1, vr 8 0]) (idx := 133) (as := [vi (q : Int)]) (st := [vr 8 0]) (m_M_isLaw_1 hl) (by decide +kernel) (show vOK "ChanceBenchModel" 133 M_M_isLaw 1 = true by decide +kernel) rfl rfl rfl (Nat.le_of_ble_eq_true rfl) (by decide) (by decide) (by decide) rfl rfl rfl rfl ?_
  refine aw_if_eq (o := 13) (tgt := 19) (by decide +kernel) (by decide) (by omega) (fun c => absurd c (by omega)) (fun _ => ?_)
  refine aw_blk (pc' := 10) (ls' := [some (vr 8 0), some (vi (q : Int)), some (vi c), some (vi (K : Int)), none]) (st' := [vi (K : Int), vr 8 0]) [.inl (.iload_n 3)] 9 _ _ (by decide +kernel) rfl ?_
  refine aw_if_lt (o := 9) (tgt := 19) (by decide +kernel) (by decide) (by omega) (fun c => absurd c (by omega)) (fun _ => ?_)
  refine aw_blk (pc' := 16) (ls' := [some (vr 8 0), some (vi (q : Int)), some (vi c), some (vi (K : Int)), none]) (st' := [vi 60, vi (K : Int), vr 8 0]) [.inl (.iload_n 3), .inl (.bipush 60)] 13 _ _ (by decide +kernel) rfl ?_
  refine aw_icmp_le (o := 7) (tgt := 23) (by decide +kernel) (by decide) (by omega) (by omega) (fun _ => ?_) (fun c => absurd (by omega) c)
  refine aw_blk (pc' := 24) (ls' := [some (vr 8 0), some (vi (q : Int)), some (vi c), some (vi (K : Int)), none]) (st' := [vi 0, vr 8 0]) [.inl (.iconst 0)] 23 _ _ (by decide +kernel) rfl ?_
  refine aw_dV (cs' := 0) (sl' := 0) (pc' := 27) (st' := [vi 0]) (idx := 140) (as := [vi 0]) (st := []) (m_M_throwsIf_0) (by decide +kernel) (show vOK "ChanceBenchModel" 140 M_M_throwsIf 1 = true by decide +kernel) rfl rfl rfl (Nat.le_of_ble_eq_true rfl) (by decide) (by decide) (by decide) rfl rfl rfl rfl ?_
  refine aw_if_ne (o := 12) (tgt := 39) (by decide +kernel) (by decide) (by omega) (fun c => absurd (by omega) c) (fun _ => ?_)
  refine aw_blk (pc' := 33) (ls' := [some (vr 8 0), some (vi (q : Int)), some (vi c), some (vi (K : Int)), none]) (st' := [vi c, vi (q : Int), vr 8 0]) [.inl (.aload_n 0), .inl (.iload_n 1), .inl (.iload_n 2)] 30 _ _ (by decide +kernel) rfl ?_
  refine aw_dV (cs' := 0) (sl' := 0) (pc' := 36) (st' := [vi (Tm xwg q c)]) (idx := 136) (as := [vi (q : Int), vi c]) (st := []) (m_M_at (by omega) hc) (by decide +kernel) (show vOK "ChanceBenchModel" 136 M_M_at 2 = true by decide +kernel) rfl rfl rfl (Nat.le_of_ble_eq_true rfl) (by decide) (by decide) (by decide) rfl rfl rfl rfl ?_
  refine aw_if_ne (o := 5) (tgt := 41) (by decide +kernel) (by decide) (by omega) (fun c0 => ?_) (fun c0 => ?_)
  · refine aw_blk (pc' := 43) (ls' := [some (vr 8 0), some (vi (q : Int)), some (vi c), some (vi (K : Int)), none]) (st' := [vi (q : Int), vr 8 0]) [.inl (.aload_n 0), .inl (.iload_n 1)] 41 _ _ (by decide +kernel) rfl ?_
    by_cases ha : alM (Tm xwg q) (xwh q)
    · refine aw_dV (cs' := 0) (sl' := 0) (pc' := 46) (st' := [vi 1]) (idx := 179) (as := [vi (q : Int)]) (st := []) (m_M_isAlone_1 (by omega) hTq ha) (by decide +kernel) (show vOK "ChanceBenchModel" 179 M_M_isAlone 1 = true by decide +kernel) rfl rfl rfl (Nat.le_of_ble_eq_true rfl) (by decide) (by decide) (by decide) rfl rfl rfl rfl ?_
      refine aw_if_ne (o := 7) (tgt := 53) (by decide +kernel) (by decide) (by omega) (fun _ => ?_) (fun c => absurd c (by omega))
      refine aw_blk (pc' := 55) (ls' := [some (vr 8 0), some (vi (q : Int)), some (vi c), some (vi (K : Int)), none]) (st' := [vi (q : Int), vr 8 0]) [.inl (.aload_n 0), .inl (.iload_n 1)] 53 _ _ (by decide +kernel) rfl ?_
      refine aw_dV (cs' := 0) (sl' := 0) (pc' := 58) (st' := [vi 1]) (idx := 179) (as := [vi (q : Int)]) (st := []) (m_M_isAlone_1 (by omega) hTq ha) (by decide +kernel) (show vOK "ChanceBenchModel" 179 M_M_isAlone 1 = true by decide +kernel) rfl rfl rfl (Nat.le_of_ble_eq_true rfl) (by decide) (by decide) (by decide) rfl rfl rfl rfl ?_
      refine aw_if_eq (o := 11) (tgt := 69) (by decide +kernel) (by decide) (by omega) (fun c => absurd c (by omega)) (fun _ => ?_)
      refine aw_blk (pc' := 62) (ls' := [some (vr 8 0), some (vi (q : Int)), some (vi c), some (vi (K : Int)), none]) (st' := [vi (K : Int)]) [.inl (.iload_n 3)] 61 _ _ (by decide +kernel) rfl ?_
      refine aw_if_ne (o := 7) (tgt := 69) (by decide +kernel) (by decide) (by omega) (fun c1 => ?_) (fun c1 => ?_)
      · refine aw_blk (pc' := 70) (ls' := [some (vr 8 0), some (vi (q : Int)), some (vi c), some (vi (K : Int)), none]) (st' := [vi 0]) [.inl (.iconst 0)] 69 _ _ (by decide +kernel) rfl ?_
        exact aw_zret (by decide +kernel) rfl (by decide) (by decide) (by omega) (hq _ _ ⟨by unfold lfM; rw [if_neg c0, if_pos ha, if_neg (by omega)], xrt, xlf, rfl⟩)
      · refine aw_blk (pc' := 66) (ls' := [some (vr 8 0), some (vi (q : Int)), some (vi c), some (vi (K : Int)), none]) (st' := [vi 1]) [.inl (.iconst 1)] 65 _ _ (by decide +kernel) rfl ?_
        refine aw_goto (o := 4) (tgt := 70) (by decide +kernel) (by decide) ?_
        exact aw_zret (by decide +kernel) rfl (by decide) (by decide) (by omega) (hq _ _ ⟨by unfold lfM; rw [if_neg c0, if_pos ha, if_pos (by omega)], xrt, xlf, rfl⟩)
    · refine aw_dV (cs' := 0) (sl' := 0) (pc' := 46) (st' := [vi 0]) (idx := 179) (as := [vi (q : Int)]) (st := []) (m_M_isAlone_0 (by omega) hTq ha) (by decide +kernel) (show vOK "ChanceBenchModel" 179 M_M_isAlone 1 = true by decide +kernel) rfl rfl rfl (Nat.le_of_ble_eq_true rfl) (by decide) (by decide) (by decide) rfl rfl rfl rfl ?_
      refine aw_if_ne (o := 7) (tgt := 53) (by decide +kernel) (by decide) (by omega) (fun c => absurd (by omega) c) (fun _ => ?_)
      refine aw_blk (pc' := 50) (ls' := [some (vr 8 0), some (vi (q : Int)), some (vi c), some (vi (K : Int)), none]) (st' := [vi (K : Int)]) [.inl (.iload_n 3)] 49 _ _ (by decide +kernel) rfl ?_
      refine aw_if_ne (o := 21) (tgt := 71) (by decide +kernel) (by decide) (by omega) (fun c1 => ?_) (fun c1 => ?_)
      · have hna := na_of hTq hw.1 hTW ha
        refine aw_blk (pc' := 73) (ls' := [some (vr 8 0), some (vi (q : Int)), some (vi c), some (vi (K : Int)), none]) (st' := [vi (q : Int), vr 8 0]) [.inl (.aload_n 0), .inl (.iload_n 1)] 71 _ _ (by decide +kernel) rfl ?_
        refine aw_dV (cs' := 0) (sl' := 0) (pc' := 76) (st' := []) (idx := 182) (as := [vi (q : Int)]) (st := []) (m_M_plant (by omega) hTq) (by decide +kernel) (show vOK "ChanceBenchModel" 182 M_M_plant 1 = true by decide +kernel) rfl rfl rfl (Nat.le_of_ble_eq_true rfl) (by decide) (by decide) (by decide) rfl rfl rfl rfl ?_
        refine aw_blk (pc' := 79) (ls' := [some (vr 8 0), some (vi (q : Int)), some (vi c), some (vi (K : Int)), some (vi 0)]) (st' := []) [.inl (.iconst 0), .inl (.istore 4)] 76 _ _ (by decide +kernel) rfl ?_
        refine up_to (W := fun i : Nat => ∀ rt lf, tM (Tm xwg q) (xwh q) i rt lf → AW G M_M_leaf Qr Qt 0 0 79 [some (vr 8 0), some (vi (q : Int)), some (vi c), some (vi (K : Int)), some (vi (i : Int))] [] (Hp b s t mk df jo tr di [some (ob 8 [vi 0, vr 8 1, vi ln, vr 8 2, vr 8 3, vr 8 4, vi by9, vr 8 5, vr 8 6, vr 8 7, vr 8 8, vr 8 9, vi dn, vi ac, vi bd, vr 8 10, vr 8 11, vr 8 12, vr 8 13, vr 8 14, vi pm, vl pq, vr 8 15, vr 8 16, vi tk, vr 8 17, vr 8 18, vr 8 19, vi fo, vi f1, vi f2]), some (ar 2 200 xtp), some (ar 0 32016 xwg), some (ar 0 16 xwh), some (ar 1 2001 xmd), some (ar 0 30 xsl), some (ar 0 30 xhw), some (ar 0 30 xhs), some (ar 0 60030 xhd), some (ar 0 60030 xha), some (ar 0 600 xp1), some (ar 0 600 xp2), some (ar 1 600 xp3), some (ar 1 2001 xl1), some (ar 1 2001 xl2), some (ar 1 2001 rt), some (ar 3 2001 lf), some (ar 0 3600 xdc), some (ar 0 12 xhn), some (ar 0 4005 xsu)] dy)) K ?_ (fun i hi9 ih => ?_) 0 (by omega) _ _ (tM_0 (fun j hj9 => mp_lt hj9))
        · intro rt lf hS
          refine aw_blk (pc' := 82) (ls' := [some (vr 8 0), some (vi (q : Int)), some (vi c), some (vi (K : Int)), some (vi (K : Int))]) (st' := [vi (K : Int), vi (K : Int)]) [.inl (.iload 4), .inl (.iload_n 3)] 79 _ _ (by decide +kernel) rfl ?_
          refine aw_icmp_ge (o := 15) (tgt := 97) (by decide +kernel) (by decide) (by omega) (by omega) (fun _ => ?_) (fun c => absurd (by omega) c)
          refine aw_blk (pc' := 106) (ls' := [some (vr 8 0), some (vi (q : Int)), some (vi c), some (vi (K : Int)), some (vi (K : Int))]) (st' := [vi (c - (-1000)), vr 8 16]) [.inl (.aload_n 0), .inr (66, 8, 23), .inl (.iload_n 2), .inl (.sipush (-1000)), .inl (.isub)] 97 _ _ (by decide +kernel) rfl ?_
          have hcr : inR c := by rcases Int.lt_or_le c (-1000) with z | z; exact absurd (by unfold Tm; rw [if_neg (by omega)]) c0; rcases Int.lt_or_le 1000 c with z2 | z2; exact absurd (by unfold Tm; rw [if_neg (by omega)]) c0; exact ⟨z, z2⟩
          have hlf := (hS (c + 1000).toNat (by omega)).2 (by omega)
          rw [show idv (c + 1000).toNat = c by unfold idv; omega] at hlf
          refine aw_zald (j := (c + 1000).toNat) (by decide +kernel) rfl (by omega) (by omega) (fun r106 => ?_)
          exact aw_zret (by decide +kernel) rfl (by decide) (by decide) (by omega) (hq _ _ ⟨by unfold lfM; rw [if_neg c0, if_neg ha, hlf], rt, lf, rfl⟩)
        · intro rt lf hS
          refine aw_blk (pc' := 82) (ls' := [some (vr 8 0), some (vi (q : Int)), some (vi c), some (vi (K : Int)), some (vi (i : Int))]) (st' := [vi (K : Int), vi (i : Int)]) [.inl (.iload 4), .inl (.iload_n 3)] 79 _ _ (by decide +kernel) rfl ?_
          refine aw_icmp_ge (o := 15) (tgt := 97) (by decide +kernel) (by decide) (by omega) (by omega) (fun c => absurd c (by omega)) (fun _ => ?_)
          refine aw_blk (pc' := 87) (ls' := [some (vr 8 0), some (vi (q : Int)), some (vi c), some (vi (K : Int)), some (vi (i : Int))]) (st' := [vi (q : Int), vr 8 0]) [.inl (.aload_n 0), .inl (.iload_n 1)] 85 _ _ (by decide +kernel) rfl ?_
          refine aw_rV (cs' := 0) (sl' := 0) (pc' := 90) (idx := 185) (as := [vi (q : Int)]) (st := []) (m_M_digitsR (by omega) hw hna hS) (by decide +kernel) (show vOK "ChanceBenchModel" 185 M_M_digits 1 = true by decide +kernel) rfl rfl rfl (Nat.le_of_ble_eq_true rfl) (by decide) (by decide) (by decide) rfl rfl rfl (fun r87 h87 z87 => ?_)
          obtain ⟨rfl, rt2, lf2, hS2, rfl⟩ := z87
          refine aw_blk (pc' := 94) (ls' := [some (vr 8 0), some (vi (q : Int)), some (vi c), some (vi (K : Int)), some (vi ((i : Int) + 1))]) (st' := []) [.inl (.pop), .inl (.iinc 4 1)] 90 _ _ (by decide +kernel) rfl ?_
          refine aw_goto (o := -15) (tgt := 79) (by decide +kernel) (by decide) ?_
          exact ih rt2 lf2 hS2
      · refine aw_blk (pc' := 55) (ls' := [some (vr 8 0), some (vi (q : Int)), some (vi c), some (vi (K : Int)), none]) (st' := [vi (q : Int), vr 8 0]) [.inl (.aload_n 0), .inl (.iload_n 1)] 53 _ _ (by decide +kernel) rfl ?_
        refine aw_dV (cs' := 0) (sl' := 0) (pc' := 58) (st' := [vi 0]) (idx := 179) (as := [vi (q : Int)]) (st := []) (m_M_isAlone_0 (by omega) hTq ha) (by decide +kernel) (show vOK "ChanceBenchModel" 179 M_M_isAlone 1 = true by decide +kernel) rfl rfl rfl (Nat.le_of_ble_eq_true rfl) (by decide) (by decide) (by decide) rfl rfl rfl rfl ?_
        refine aw_if_eq (o := 11) (tgt := 69) (by decide +kernel) (by decide) (by omega) (fun _ => ?_) (fun c => absurd (by omega) c)
        refine aw_blk (pc' := 70) (ls' := [some (vr 8 0), some (vi (q : Int)), some (vi c), some (vi (K : Int)), none]) (st' := [vi 0]) [.inl (.iconst 0)] 69 _ _ (by decide +kernel) rfl ?_
        exact aw_zret (by decide +kernel) rfl (by decide) (by decide) (by omega) (hq _ _ ⟨by unfold lfM; rw [if_neg c0, if_neg ha, show K = 0 by omega]; rfl, xrt, xlf, rfl⟩)
  · refine aw_blk (pc' := 40) (ls' := [some (vr 8 0), some (vi (q : Int)), some (vi c), some (vi (K : Int)), none]) (st' := [vi 0]) [.inl (.iconst 0)] 39 _ _ (by decide +kernel) rfl ?_
    exact aw_zret (by decide +kernel) rfl (by decide) (by decide) (by omega) (hq _ _ ⟨by unfold lfM; rw [if_pos c0], xrt, xlf, rfl⟩)

theorem m_M_lots (hl : isLw xwh (q : Int)) (hTq : ∀ v, 0 ≤ Tm xwg q v ∧ Tm xwg q v ≤ 1048576) (hw : 1 ≤ xwh q ∧ xwh q ≤ 1048576) (hTW : ∀ v, Tm xwg q v ≤ xwh q) (hK : K ≤ 40) (hd : d = 0 ∨ d = 1) (hmo : ∀ k, 0 ≤ moA (Tm xwg q) (xwh q) k ∧ moA (Tm xwg q) (xwh q) k ≤ 24) : AMet G M_M_lots [vr 8 0, vi (q : Int), vi (K : Int), vi d] (Hp b s t mk df jo tr di (sgM th ln by9 dn ac bd pm pq tk fo f1 f2 xtp xwg xwh xmd xsl xhw xhs xhd xha xp1 xp2 xp3 xl1 xl2 xrt xlf xdc xhn xsu) dy) (fun r h => r = some (vl (if K = 0 then prt (smM (Tm xwg q) (xwh q) K) 1 d else prt (smM (Tm xwg q) (xwh q) K) (pw 2 (K - 1)) d)) ∧ ∃ rt lf, h = Hp b s t mk df jo tr di (sgM 0 ln by9 dn ac bd pm pq tk fo f1 f2 xtp xwg xwh xmd xsl xhw xhs xhd xha xp1 xp2 xp3 xl1 xl2 rt lf xdc xhn xsu) dy) (fun _ => False) := by
  refine am_rel (by decide +kernel) (Nat.le_of_ble_eq_true rfl) (fun Qr Qt hq => ?_)
  have hsm := smM_in hmo
  refine aw_blk (pc' := 3) (ls' := [some (vr 8 0), some (vi (q : Int)), some (vi (K : Int)), some (vi d), none, none, none]) (st' := [vi (q : Int), vr 8 0, vr 8 0]) [.inl (.aload_n 0), .inl (.aload_n 0), .inl (.iload_n 1)] 0 _ _ (by decide +kernel) rfl ?_
  refine aw_dV (cs' := 0) (sl' := 0) (pc' := 6) (st' := [vi 1, vr 8 0]) (idx := 133) (as := [vi (q : Int)]) (st := [vr 8 0]) (m_M_isLaw_1 hl) (by decide +kernel) (show vOK "ChanceBenchModel" 133 M_M_isLaw 1 = true by decide +kernel) rfl rfl rfl (Nat.le_of_ble_eq_true rfl) (by decide) (by decide) (by decide) rfl rfl rfl rfl ?_
  refine aw_if_eq (o := 22) (tgt := 28) (by decide +kernel) (by decide) (by omega) (fun c => absurd c (by omega)) (fun _ => ?_)
  refine aw_blk (pc' := 10) (ls' := [some (vr 8 0), some (vi (q : Int)), some (vi (K : Int)), some (vi d), none, none, none]) (st' := [vi (K : Int), vr 8 0]) [.inl (.iload_n 2)] 9 _ _ (by decide +kernel) rfl ?_
  refine aw_if_lt (o := 18) (tgt := 28) (by decide +kernel) (by decide) (by omega) (fun c => absurd c (by omega)) (fun _ => ?_)
  refine aw_blk (pc' := 16) (ls' := [some (vr 8 0), some (vi (q : Int)), some (vi (K : Int)), some (vi d), none, none, none]) (st' := [vi 40, vi (K : Int), vr 8 0]) [.inl (.iload_n 2), .inl (.bipush 40)] 13 _ _ (by decide +kernel) rfl ?_
  refine aw_icmp_gt (o := 12) (tgt := 28) (by decide +kernel) (by decide) (by omega) (by omega) (fun c => absurd c (by omega)) (fun _ => ?_)
  refine aw_blk (pc' := 20) (ls' := [some (vr 8 0), some (vi (q : Int)), some (vi (K : Int)), some (vi d), none, none, none]) (st' := [vi d, vr 8 0]) [.inl (.iload_n 3)] 19 _ _ (by decide +kernel) rfl ?_
  refine aw_if_lt (o := 8) (tgt := 28) (by decide +kernel) (by decide) (by omega) (fun c => absurd c (by omega)) (fun _ => ?_)
  refine aw_blk (pc' := 25) (ls' := [some (vr 8 0), some (vi (q : Int)), some (vi (K : Int)), some (vi d), none, none, none]) (st' := [vi 1, vi d, vr 8 0]) [.inl (.iload_n 3), .inl (.iconst 1)] 23 _ _ (by decide +kernel) rfl ?_
  refine aw_icmp_le (o := 7) (tgt := 32) (by decide +kernel) (by decide) (by omega) (by omega) (fun _ => ?_) (fun c => absurd (by omega) c)
  refine aw_blk (pc' := 33) (ls' := [some (vr 8 0), some (vi (q : Int)), some (vi (K : Int)), some (vi d), none, none, none]) (st' := [vi 0, vr 8 0]) [.inl (.iconst 0)] 32 _ _ (by decide +kernel) rfl ?_
  refine aw_dV (cs' := 0) (sl' := 0) (pc' := 36) (st' := [vi 0]) (idx := 140) (as := [vi 0]) (st := []) (m_M_throwsIf_0) (by decide +kernel) (show vOK "ChanceBenchModel" 140 M_M_throwsIf 1 = true by decide +kernel) rfl rfl rfl (Nat.le_of_ble_eq_true rfl) (by decide) (by decide) (by decide) rfl rfl rfl rfl ?_
  refine aw_if_eq (o := 5) (tgt := 41) (by decide +kernel) (by decide) (by omega) (fun _ => ?_) (fun c => absurd (by omega) c)
  refine aw_blk (pc' := 47) (ls' := [some (vr 8 0), some (vi (q : Int)), some (vi (K : Int)), some (vi d), some (vl 0), none, some (vi 0)]) (st' := []) [.inl (.lconst 0), .inl (.lstore 4), .inl (.iconst 0), .inl (.istore 6)] 41 _ _ (by decide +kernel) rfl ?_
  refine up_to (W := fun i : Nat => ∀ rt lf, AW G M_M_lots Qr Qt 0 0 47 [some (vr 8 0), some (vi (q : Int)), some (vi (K : Int)), some (vi d), some (vl (smM (Tm xwg q) (xwh q) i)), none, some (vi (i : Int))] [] (Hp b s t mk df jo tr di [some (ob 8 [vi 0, vr 8 1, vi ln, vr 8 2, vr 8 3, vr 8 4, vi by9, vr 8 5, vr 8 6, vr 8 7, vr 8 8, vr 8 9, vi dn, vi ac, vi bd, vr 8 10, vr 8 11, vr 8 12, vr 8 13, vr 8 14, vi pm, vl pq, vr 8 15, vr 8 16, vi tk, vr 8 17, vr 8 18, vr 8 19, vi fo, vi f1, vi f2]), some (ar 2 200 xtp), some (ar 0 32016 xwg), some (ar 0 16 xwh), some (ar 1 2001 xmd), some (ar 0 30 xsl), some (ar 0 30 xhw), some (ar 0 30 xhs), some (ar 0 60030 xhd), some (ar 0 60030 xha), some (ar 0 600 xp1), some (ar 0 600 xp2), some (ar 1 600 xp3), some (ar 1 2001 xl1), some (ar 1 2001 xl2), some (ar 1 2001 rt), some (ar 3 2001 lf), some (ar 0 3600 xdc), some (ar 0 12 xhn), some (ar 0 4005 xsu)] dy)) K ?_ (fun i hi9 ih => ?_) 0 (by omega) xrt xlf
  · intro rt lf
    have hb := hsm K
    have hp := pw2_in ⟨K, by omega⟩
    have hp2 := pw2_in ⟨K - 1, by omega⟩
    simp only at hp hp2
    refine aw_blk (pc' := 50) (ls' := [some (vr 8 0), some (vi (q : Int)), some (vi (K : Int)), some (vi d), some (vl (smM (Tm xwg q) (xwh q) K)), none, some (vi (K : Int))]) (st' := [vi (K : Int), vi (K : Int)]) [.inl (.iload 6), .inl (.iload_n 2)] 47 _ _ (by decide +kernel) rfl ?_
    refine aw_icmp_ge (o := 26) (tgt := 76) (by decide +kernel) (by decide) (by omega) (by omega) (fun _ => ?_) (fun c => absurd (by omega) c)
    refine aw_blk (pc' := 79) (ls' := [some (vr 8 0), some (vi (q : Int)), some (vi (K : Int)), some (vi d), some (vl (smM (Tm xwg q) (xwh q) K)), none, some (vi (K : Int))]) (st' := [vi (K : Int), vl (smM (Tm xwg q) (xwh q) K)]) [.inl (.lload 4), .inl (.iload_n 2)] 76 _ _ (by decide +kernel) rfl ?_
    refine aw_if_ne (o := 7) (tgt := 86) (by decide +kernel) (by decide) (by omega) (fun c1 => ?_) (fun c1 => ?_)
    · refine aw_blk (pc' := 90) (ls' := [some (vr 8 0), some (vi (q : Int)), some (vi (K : Int)), some (vi d), some (vl (smM (Tm xwg q) (xwh q) K)), none, some (vi (K : Int))]) (st' := [vi ((K : Int) - 1), vl 1, vl (smM (Tm xwg q) (xwh q) K)]) [.inl (.lconst 1), .inl (.iload_n 2), .inl (.iconst 1), .inl (.isub)] 86 _ _ (by decide +kernel) rfl ?_
      refine aw_lshl (p9 := ((2 ^ (K - 1) : Nat) : Int)) (K - 1) (by decide +kernel) (by omega) (by omega) rfl ?_
      rw [Int.one_mul, pw_2]
      refine aw_blk (pc' := 92) (ls' := [some (vr 8 0), some (vi (q : Int)), some (vi (K : Int)), some (vi d), some (vl (smM (Tm xwg q) (xwh q) K)), none, some (vi (K : Int))]) (st' := [vi d, vl (pw 2 (K - 1)), vl (smM (Tm xwg q) (xwh q) K)]) [.inl (.iload_n 3)] 91 _ _ (by decide +kernel) rfl ?_
      refine aw_dS (cs' := 0) (sl' := 0) (pc' := 95) (st' := [vl (prt (smM (Tm xwg q) (xwh q) K) (pw 2 (K - 1)) d)]) (idx := 148) (as := [vl (smM (Tm xwg q) (xwh q) K), vl (pw 2 (K - 1)), vi d]) (st := []) (m_M_part (by omega) (by omega) (by omega)) (by decide +kernel) (show sOK "ChanceBenchModel" 148 M_M_part 3 = true by decide +kernel) rfl (Nat.le_of_ble_eq_true rfl) (by decide) (by decide) (by decide) rfl rfl rfl rfl ?_
      exact aw_lret (by decide +kernel) rfl (by decide) (by decide) (hq _ _ ⟨by rw [if_neg (by omega)], rt, lf, rfl⟩)
    · refine aw_blk (pc' := 83) (ls' := [some (vr 8 0), some (vi (q : Int)), some (vi (K : Int)), some (vi d), some (vl (smM (Tm xwg q) (xwh q) K)), none, some (vi (K : Int))]) (st' := [vl 1, vl (smM (Tm xwg q) (xwh q) K)]) [.inl (.lconst 1)] 82 _ _ (by decide +kernel) rfl ?_
      refine aw_goto (o := 8) (tgt := 91) (by decide +kernel) (by decide) ?_
      refine aw_blk (pc' := 92) (ls' := [some (vr 8 0), some (vi (q : Int)), some (vi (K : Int)), some (vi d), some (vl (smM (Tm xwg q) (xwh q) K)), none, some (vi (K : Int))]) (st' := [vi d, vl 1, vl (smM (Tm xwg q) (xwh q) K)]) [.inl (.iload_n 3)] 91 _ _ (by decide +kernel) rfl ?_
      refine aw_dS (cs' := 0) (sl' := 0) (pc' := 95) (st' := [vl (prt (smM (Tm xwg q) (xwh q) K) 1 d)]) (idx := 148) (as := [vl (smM (Tm xwg q) (xwh q) K), vl 1, vi d]) (st := []) (m_M_part (by omega) (by omega) (by omega)) (by decide +kernel) (show sOK "ChanceBenchModel" 148 M_M_part 3 = true by decide +kernel) rfl (Nat.le_of_ble_eq_true rfl) (by decide) (by decide) (by decide) rfl rfl rfl rfl ?_
      exact aw_lret (by decide +kernel) rfl (by decide) (by decide) (hq _ _ ⟨by rw [if_pos (by omega)], rt, lf, rfl⟩)
  · intro rt lf
    have hb := hmo i
    refine aw_blk (pc' := 50) (ls' := [some (vr 8 0), some (vi (q : Int)), some (vi (K : Int)), some (vi d), some (vl (smM (Tm xwg q) (xwh q) i)), none, some (vi (i : Int))]) (st' := [vi (K : Int), vi (i : Int)]) [.inl (.iload 6), .inl (.iload_n 2)] 47 _ _ (by decide +kernel) rfl ?_
    refine aw_icmp_ge (o := 26) (tgt := 76) (by decide +kernel) (by decide) (by omega) (by omega) (fun c => absurd c (by omega)) (fun _ => ?_)
    refine aw_ldc2 (a := 2) (ix := 167) (v := 2) (by decide +kernel) (by decide +kernel) (by decide) ?_
    refine aw_blk (pc' := 63) (ls' := [some (vr 8 0), some (vi (q : Int)), some (vi (K : Int)), some (vi d), some (vl (smM (Tm xwg q) (xwh q) i)), none, some (vi (i : Int))]) (st' := [vi (i : Int), vi (q : Int), vr 8 0, vl (2 * (smM (Tm xwg q) (xwh q) i))]) [.inl (.lload 4), .inl (.lmul), .inl (.aload_n 0), .inl (.iload_n 1), .inl (.iload 6)] 56 _ _ (by decide +kernel) rfl ?_
    refine aw_rV (cs' := 0) (sl' := 0) (pc' := 66) (idx := 189) (as := [vi (q : Int), vi (i : Int)]) (st := [vl (2 * (smM (Tm xwg q) (xwh q) i))]) (m_M_openAt hl hTq hw hTW (by omega)) (by decide +kernel) (show vOK "ChanceBenchModel" 189 M_M_openAt 2 = true by decide +kernel) rfl rfl rfl (Nat.le_of_ble_eq_true rfl) (by decide) (by decide) (by decide) rfl rfl rfl (fun r63 h63 z63 => ?_)
    obtain ⟨rfl, rt2, lf2, rfl⟩ := z63
    refine aw_i2l (by decide +kernel) (by omega) ?_
    refine aw_blk (pc' := 73) (ls' := [some (vr 8 0), some (vi (q : Int)), some (vi (K : Int)), some (vi d), some (vl ((2 * (smM (Tm xwg q) (xwh q) i)) + (moA (Tm xwg q) (xwh q) i))), none, some (vi ((i : Int) + 1))]) (st' := []) [.inl (.ladd), .inl (.lstore 4), .inl (.iinc 6 1)] 67 _ _ (by decide +kernel) rfl ?_
    refine aw_goto (o := -26) (tgt := 47) (by decide +kernel) (by decide) ?_
    exact ih rt2 lf2

end
