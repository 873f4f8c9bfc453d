theorem gc_Z {a c : Int} (h : 1 ≤ c) : gc a c = gcZ a c := by
  unfold gc gcZ
  have : 0 < Nat.gcd a.natAbs c.natAbs := Nat.gcd_pos_of_pos_right _ (by omega)
  split <;> omega
theorem cum_idv {T : Int → Int} {i : Nat} (hi : i ≤ 2001) : cum T (idv i - 1) = sumZ (fun k => T (idv k)) i := by
  unfold cum sT
  exact sumZ_cut hi (fun k hk => by show (if (k : Int) - 1000 ≤ (i : Int) - 1000 - 1 then T ((k : Int) - 1000) else 0) = T ((k : Int) - 1000); rw [if_pos (by omega)]) (fun k a b => by
    show (if (k : Int) - 1000 ≤ (i : Int) - 1000 - 1 then T ((k : Int) - 1000) else 0) = 0
    rw [if_neg (by omega)])
theorem cum_cut {T : Int → Int} {c : Int} {i : Nat} (hi : i ≤ 2001) (h : c < idv i) : cum T c = sumZ (fun k => if idv k ≤ c then T (idv k) else 0) i := by
  unfold cum sT
  exact sumZ_cut hi (fun k _ => rfl) (fun k a b => by
    show (if (k : Int) - 1000 ≤ c then T ((k : Int) - 1000) else 0) = 0
    rw [if_neg (by unfold idv at h; omega)])
theorem psum_in {T : Int → Int} (h : ∀ v, 0 ≤ T v ∧ T v ≤ 1048576) : ∀ i : Nat, 0 ≤ sumZ (fun k => T (idv k)) i ∧ sumZ (fun k => T (idv k)) i ≤ (i : Int) * 1048576
  | 0 => by simp [sumZ]
  | i + 1 => by have := psum_in h i; have := h (idv i); simp only [sumZ]; omega
/-- the value of this number, or none -/
def vlT (T : Int → Int) : Nat → Nat → Int → Option Int
  | 0, _, _ => none
  | d + 1, k, l => if T (idv k) = 0 then vlT T d (k + 1) l else if l = 0 then some (idv k) else vlT T d (k + 1) (l + -1)
/-- whether one fraction is less, turned or not -/
def fls (p q r s : Int) (tn : Int) : Int := if p * s = r * q then 0 else if p * s < r * q then (if tn = 0 then 1 else 0) else (if tn = 0 then 0 else 1)
section
variable {G : GT} {h : HT} {b s t mk df jo tr di dy : SG} {a c d e B : Int} {n m k j i0 : Nat} {f g : Nat → Int} {th ln by9 dn ac bd pm pq tk fo f1 f2 : Int} {xtp xwg xwh xmd xsl xhw xhs xhd xha xp1 xp2 xp3 xl1 xl2 xrt xlf xdc xhn xsu : Nat → Int} {T : Int → Int} {p : Prop}
variable {q q2 : Nat}
theorem m_M_part (ha : J64 a) (hc : 1 ≤ c ∧ c ≤ 9223372036854775807) (hd : I32 d) : ADet G M_M_part [vl a, vl c, vi d] h (some (vl (prt a c d))) h := by
  refine am_det (by decide +kernel) (Nat.le_of_ble_eq_true rfl) (fun Qr Qt hq => ?_)
  have hg := gc_in (a := a) (c := c) ha (by constructor <;> omega)
  refine aw_blk (pc' := 2) (ls' := [some (vl a), none, some (vl c), none, some (vi d), none, none]) (st' := [vl c, vl a]) [.inl (.lload_n 0), .inl (.lload_n 2)] 0 _ _ (by decide +kernel) rfl ?_
  refine aw_dS (cs' := 0) (sl' := 0) (pc' := 5) (st' := [vl (gcZ a c)]) (idx := 97) (as := [vl a, vl c]) (st := []) (m_M_common ha (by omega)) (by decide +kernel) (show sOK "ChanceBenchModel" 97 M_M_common 2 = true by decide +kernel) rfl (Nat.le_of_ble_eq_true rfl) (by decide) (by decide) (by decide) rfl rfl rfl rfl ?_
  rw [← gc_Z hc.1]
  refine aw_blk (pc' := 9) (ls' := [some (vl a), none, some (vl c), none, some (vi d), some (vl (gc a c)), none]) (st' := [vi d]) [.inl (.lstore 5), .inl (.iload 4)] 5 _ _ (by decide +kernel) rfl ?_
  refine aw_if_ne (o := 10) (tgt := 19) (by decide +kernel) (by decide) (by omega) (fun c9 => ?_) (fun c9 => ?_)
  · refine aw_blk (pc' := 22) (ls' := [some (vl a), none, some (vl c), none, some (vi d), some (vl (gc a c)), none]) (st' := [vl (gc a c), vl c]) [.inl (.lload_n 2), .inl (.lload 5)] 19 _ _ (by decide +kernel) rfl ?_
    refine aw_ldiv (by decide +kernel) (by omega) (by omega) (by omega) ?_
    exact aw_lret (by decide +kernel) rfl (by decide) (by decide) (hq _ _ (by rw [prt, if_neg c9]) rfl)
  · refine aw_blk (pc' := 15) (ls' := [some (vl a), none, some (vl c), none, some (vi d), some (vl (gc a c)), none]) (st' := [vl (gc a c), vl a]) [.inl (.lload_n 0), .inl (.lload 5)] 12 _ _ (by decide +kernel) rfl ?_
    refine aw_ldiv (by decide +kernel) (by omega) (by omega) (by omega) ?_
    refine aw_goto (o := 7) (tgt := 23) (by decide +kernel) (by decide) ?_
    exact aw_lret (by decide +kernel) rfl (by decide) (by decide) (hq _ _ (by rw [prt, if_pos c9]) rfl)

theorem m_M_size (ha : I64 a) : ADet G M_M_size [vl a] h (some (vl (ab a))) h := by
  refine am_det (by decide +kernel) (Nat.le_of_ble_eq_true rfl) (fun Qr Qt hq => ?_)
  refine aw_blk (pc' := 2) (ls' := [some (vl a), none]) (st' := [vl 0, vl a]) [.inl (.lload_n 0), .inl (.lconst 0)] 0 _ _ (by decide +kernel) rfl ?_
  refine aw_lcmp (by decide +kernel) (by omega) (by omega) ?_
  refine aw_if_ge (o := 8) (tgt := 11) (by decide +kernel) (by decide) (cmpI_in _ _) (fun c2 => ?_) (fun c2 => ?_)
  · rw [cmpI_ge] at c2
    refine aw_blk (pc' := 12) (ls' := [some (vl a), none]) (st' := [vl a]) [.inl (.lload_n 0)] 11 _ _ (by decide +kernel) rfl ?_
    exact aw_lret (by decide +kernel) rfl (by decide) (by decide) (hq _ _ (by rw [show ab a = a by unfold ab; split <;> omega]) rfl)
  · rw [cmpI_ge] at c2
    refine aw_blk (pc' := 8) (ls' := [some (vl a), none]) (st' := [vl (-a)]) [.inl (.lload_n 0), .inl (.lneg)] 6 _ _ (by decide +kernel) rfl ?_
    refine aw_goto (o := 4) (tgt := 12) (by decide +kernel) (by decide) ?_
    exact aw_lret (by decide +kernel) rfl (by decide) (by decide) (hq _ _ (by rw [show ab a = -a by unfold ab; split <;> omega]) rfl)

theorem m_M_no_1 (hl : isLw xwh a) (hd : d = 0 ∨ d = 1) : ADet G M_M_no [vr 8 0, vi a, vi d] (Hp b s t mk df jo tr di (sgM th ln by9 dn ac bd pm pq tk fo f1 f2 xtp xwg xwh xmd xsl xhw xhs xhd xha xp1 xp2 xp3 xl1 xl2 xrt xlf xdc xhn xsu) dy) (some (vi 0)) (Hp b s t mk df jo tr di (sgM 0 ln by9 dn ac bd pm pq tk fo f1 f2 xtp xwg xwh xmd xsl xhw xhs xhd xha xp1 xp2 xp3 xl1 xl2 xrt xlf xdc xhn xsu) dy) := by
  refine am_det (by decide +kernel) (Nat.le_of_ble_eq_true rfl) (fun Qr Qt hq => ?_)
  refine aw_blk (pc' := 3) (ls' := [some (vr 8 0), some (vi a), some (vi d)]) (st' := [vi a, vr 8 0, vr 8 0]) [.inl (.aload_n 0), .inl (.aload_n 0), .inl (.iload_n 1)] 0 _ _ (by decide +kernel) rfl ?_
  refine aw_dV (cs' := 0) (sl' := 0) (pc' := 6) (st' := [vi 1, vr 8 0]) (idx := 133) (as := [vi a]) (st := [vr 8 0]) (m_M_isLaw_1 hl) (by decide +kernel) (show vOK "ChanceBenchModel" 133 M_M_isLaw 1 = true by decide +kernel) rfl rfl rfl (Nat.le_of_ble_eq_true rfl) (by decide) (by decide) (by decide) rfl rfl rfl rfl ?_
  refine aw_if_eq (o := 12) (tgt := 18) (by decide +kernel) (by decide) (by omega) (fun c => absurd c (by omega)) (fun _ => ?_)
  refine aw_blk (pc' := 10) (ls' := [some (vr 8 0), some (vi a), some (vi d)]) (st' := [vi d, vr 8 0]) [.inl (.iload_n 2)] 9 _ _ (by decide +kernel) rfl ?_
  refine aw_if_lt (o := 8) (tgt := 18) (by decide +kernel) (by decide) (by omega) (fun c => absurd c (by omega)) (fun _ => ?_)
  refine aw_blk (pc' := 15) (ls' := [some (vr 8 0), some (vi a), some (vi d)]) (st' := [vi 1, vi d, vr 8 0]) [.inl (.iload_n 2), .inl (.iconst 1)] 13 _ _ (by decide +kernel) rfl ?_
  refine aw_icmp_le (o := 7) (tgt := 22) (by decide +kernel) (by decide) (by omega) (by omega) (fun _ => ?_) (fun c => absurd (by omega) c)
  refine aw_blk (pc' := 23) (ls' := [some (vr 8 0), some (vi a), some (vi d)]) (st' := [vi 0, vr 8 0]) [.inl (.iconst 0)] 22 _ _ (by decide +kernel) rfl ?_
  refine aw_dV (cs' := 0) (sl' := 0) (pc' := 26) (st' := [vi 0]) (idx := 140) (as := [vi 0]) (st := []) (m_M_throwsIf_0) (by decide +kernel) (show vOK "ChanceBenchModel" 140 M_M_throwsIf 1 = true by decide +kernel) rfl rfl rfl (Nat.le_of_ble_eq_true rfl) (by decide) (by decide) (by decide) rfl rfl rfl rfl ?_
  exact aw_zret (by decide +kernel) rfl (by decide) (by decide) (by omega) (hq _ _ rfl rfl)

theorem m_M_noTwo_1 (hl : isLw xwh a) (hl2 : isLw xwh c) (hd : d = 0 ∨ d = 1) : ADet G M_M_noTwo [vr 8 0, vi a, vi c, vi d] (Hp b s t mk df jo tr di (sgM th ln by9 dn ac bd pm pq tk fo f1 f2 xtp xwg xwh xmd xsl xhw xhs xhd xha xp1 xp2 xp3 xl1 xl2 xrt xlf xdc xhn xsu) dy) (some (vi 0)) (Hp b s t mk df jo tr di (sgM 0 ln by9 dn ac bd pm pq tk fo f1 f2 xtp xwg xwh xmd xsl xhw xhs xhd xha xp1 xp2 xp3 xl1 xl2 xrt xlf xdc xhn xsu) dy) := by
  refine am_det (by decide +kernel) (Nat.le_of_ble_eq_true rfl) (fun Qr Qt hq => ?_)
  refine aw_blk (pc' := 3) (ls' := [some (vr 8 0), some (vi a), some (vi c), some (vi d)]) (st' := [vi a, vr 8 0, vr 8 0]) [.inl (.aload_n 0), .inl (.aload_n 0), .inl (.iload_n 1)] 0 _ _ (by decide +kernel) rfl ?_
  refine aw_dV (cs' := 0) (sl' := 0) (pc' := 6) (st' := [vi 1, vr 8 0]) (idx := 133) (as := [vi a]) (st := [vr 8 0]) (m_M_isLaw_1 hl) (by decide +kernel) (show vOK "ChanceBenchModel" 133 M_M_isLaw 1 = true by decide +kernel) rfl rfl rfl (Nat.le_of_ble_eq_true rfl) (by decide) (by decide) (by decide) rfl rfl rfl rfl ?_
  refine aw_if_eq (o := 20) (tgt := 26) (by decide +kernel) (by decide) (by omega) (fun c => absurd c (by omega)) (fun _ => ?_)
  refine aw_blk (pc' := 11) (ls' := [some (vr 8 0), some (vi a), some (vi c), some (vi d)]) (st' := [vi c, vr 8 0, vr 8 0]) [.inl (.aload_n 0), .inl (.iload_n 2)] 9 _ _ (by decide +kernel) rfl ?_
  refine aw_dV (cs' := 0) (sl' := 0) (pc' := 14) (st' := [vi 1, vr 8 0]) (idx := 133) (as := [vi c]) (st := [vr 8 0]) (m_M_isLaw_1 hl2) (by decide +kernel) (show vOK "ChanceBenchModel" 133 M_M_isLaw 1 = true by decide +kernel) rfl rfl rfl (Nat.le_of_ble_eq_true rfl) (by decide) (by decide) (by decide) rfl rfl rfl rfl ?_
  refine aw_if_eq (o := 12) (tgt := 26) (by decide +kernel) (by decide) (by omega) (fun c => absurd c (by omega)) (fun _ => ?_)
  refine aw_blk (pc' := 18) (ls' := [some (vr 8 0), some (vi a), some (vi c), some (vi d)]) (st' := [vi d, vr 8 0]) [.inl (.iload_n 3)] 17 _ _ (by decide +kernel) rfl ?_
  refine aw_if_lt (o := 8) (tgt := 26) (by decide +kernel) (by decide) (by omega) (fun c => absurd c (by omega)) (fun _ => ?_)
  refine aw_blk (pc' := 23) (ls' := [some (vr 8 0), some (vi a), some (vi c), some (vi d)]) (st' := [vi 1, vi d, vr 8 0]) [.inl (.iload_n 3), .inl (.iconst 1)] 21 _ _ (by decide +kernel) rfl ?_
  refine aw_icmp_le (o := 7) (tgt := 30) (by decide +kernel) (by decide) (by omega) (by omega) (fun _ => ?_) (fun c => absurd (by omega) c)
  refine aw_blk (pc' := 31) (ls' := [some (vr 8 0), some (vi a), some (vi c), some (vi d)]) (st' := [vi 0, vr 8 0]) [.inl (.iconst 0)] 30 _ _ (by decide +kernel) rfl ?_
  refine aw_dV (cs' := 0) (sl' := 0) (pc' := 34) (st' := [vi 0]) (idx := 140) (as := [vi 0]) (st := []) (m_M_throwsIf_0) (by decide +kernel) (show vOK "ChanceBenchModel" 140 M_M_throwsIf 1 = true by decide +kernel) rfl rfl rfl (Nat.le_of_ble_eq_true rfl) (by decide) (by decide) (by decide) rfl rfl rfl rfl ?_
  exact aw_zret (by decide +kernel) rfl (by decide) (by decide) (by omega) (hq _ _ rfl rfl)

theorem m_M_no_0 (hi : I32 a ∧ I32 d) (hl : ¬ (isLw xwh a ∧ (d = 0 ∨ d = 1))) : ADet G M_M_no [vr 8 0, vi a, vi d] (Hp b s t mk df jo tr di (sgM th ln by9 dn ac bd pm pq tk fo f1 f2 xtp xwg xwh xmd xsl xhw xhs xhd xha xp1 xp2 xp3 xl1 xl2 xrt xlf xdc xhn xsu) dy) (some (vi 1)) (Hp b s t mk df jo tr di (sgM 1 ln by9 dn ac bd pm pq tk fo f1 f2 xtp xwg xwh xmd xsl xhw xhs xhd xha xp1 xp2 xp3 xl1 xl2 xrt xlf xdc xhn xsu) dy) := by
  refine am_det (by decide +kernel) (Nat.le_of_ble_eq_true rfl) (fun Qr Qt hq => ?_)
  refine aw_blk (pc' := 3) (ls' := [some (vr 8 0), some (vi a), some (vi d)]) (st' := [vi a, vr 8 0, vr 8 0]) [.inl (.aload_n 0), .inl (.aload_n 0), .inl (.iload_n 1)] 0 _ _ (by decide +kernel) rfl ?_
  by_cases hl1 : isLw xwh a
  · refine aw_dV (cs' := 0) (sl' := 0) (pc' := 6) (st' := [vi 1, vr 8 0]) (idx := 133) (as := [vi a]) (st := [vr 8 0]) (m_M_isLaw_1 hl1) (by decide +kernel) (show vOK "ChanceBenchModel" 133 M_M_isLaw 1 = true by decide +kernel) rfl rfl rfl (Nat.le_of_ble_eq_true rfl) (by decide) (by decide) (by decide) rfl rfl rfl rfl ?_
    refine aw_if_eq (o := 12) (tgt := 18) (by decide +kernel) (by decide) (by omega) (fun c => absurd c (by omega)) (fun _ => ?_)
    refine aw_blk (pc' := 10) (ls' := [some (vr 8 0), some (vi a), some (vi d)]) (st' := [vi d, vr 8 0]) [.inl (.iload_n 2)] 9 _ _ (by decide +kernel) rfl ?_
    refine aw_if_lt (o := 8) (tgt := 18) (by decide +kernel) (by decide) (by omega) (fun c10 => ?_) (fun c10 => ?_)
    · refine aw_blk (pc' := 19) (ls' := [some (vr 8 0), some (vi a), some (vi d)]) (st' := [vi 1, vr 8 0]) [.inl (.iconst 1)] 18 _ _ (by decide +kernel) rfl ?_
      refine aw_goto (o := 4) (tgt := 23) (by decide +kernel) (by decide) ?_
      refine aw_dV (cs' := 0) (sl' := 0) (pc' := 26) (st' := [vi 1]) (idx := 140) (as := [vi 1]) (st := []) (m_M_throwsIf_1) (by decide +kernel) (show vOK "ChanceBenchModel" 140 M_M_throwsIf 1 = true by decide +kernel) rfl rfl rfl (Nat.le_of_ble_eq_true rfl) (by decide) (by decide) (by decide) rfl rfl rfl rfl ?_
      exact aw_zret (by decide +kernel) rfl (by decide) (by decide) (by omega) (hq _ _ rfl rfl)
    · refine aw_blk (pc' := 15) (ls' := [some (vr 8 0), some (vi a), some (vi d)]) (st' := [vi 1, vi d, vr 8 0]) [.inl (.iload_n 2), .inl (.iconst 1)] 13 _ _ (by decide +kernel) rfl ?_
      refine aw_icmp_le (o := 7) (tgt := 22) (by decide +kernel) (by decide) (by omega) (by omega) (fun c => absurd c (by have : ¬ (d = 0 ∨ d = 1) := fun z => hl ⟨hl1, z⟩; omega)) (fun _ => ?_)
      refine aw_blk (pc' := 19) (ls' := [some (vr 8 0), some (vi a), some (vi d)]) (st' := [vi 1, vr 8 0]) [.inl (.iconst 1)] 18 _ _ (by decide +kernel) rfl ?_
      refine aw_goto (o := 4) (tgt := 23) (by decide +kernel) (by decide) ?_
      refine aw_dV (cs' := 0) (sl' := 0) (pc' := 26) (st' := [vi 1]) (idx := 140) (as := [vi 1]) (st := []) (m_M_throwsIf_1) (by decide +kernel) (show vOK "ChanceBenchModel" 140 M_M_throwsIf 1 = true by decide +kernel) rfl rfl rfl (Nat.le_of_ble_eq_true rfl) (by decide) (by decide) (by decide) rfl rfl rfl rfl ?_
      exact aw_zret (by decide +kernel) rfl (by decide) (by decide) (by omega) (hq _ _ rfl rfl)
  · refine aw_dV (cs' := 0) (sl' := 0) (pc' := 6) (st' := [vi 0, vr 8 0]) (idx := 133) (as := [vi a]) (st := [vr 8 0]) (m_M_isLaw_0 hi.1 hl1) (by decide +kernel) (show vOK "ChanceBenchModel" 133 M_M_isLaw 1 = true by decide +kernel) rfl rfl rfl (Nat.le_of_ble_eq_true rfl) (by decide) (by decide) (by decide) rfl rfl rfl rfl ?_
    refine aw_if_eq (o := 12) (tgt := 18) (by decide +kernel) (by decide) (by omega) (fun _ => ?_) (fun c => absurd (by omega) c)
    refine aw_blk (pc' := 19) (ls' := [some (vr 8 0), some (vi a), some (vi d)]) (st' := [vi 1, vr 8 0]) [.inl (.iconst 1)] 18 _ _ (by decide +kernel) rfl ?_
    refine aw_goto (o := 4) (tgt := 23) (by decide +kernel) (by decide) ?_
    refine aw_dV (cs' := 0) (sl' := 0) (pc' := 26) (st' := [vi 1]) (idx := 140) (as := [vi 1]) (st := []) (m_M_throwsIf_1) (by decide +kernel) (show vOK "ChanceBenchModel" 140 M_M_throwsIf 1 = true by decide +kernel) rfl rfl rfl (Nat.le_of_ble_eq_true rfl) (by decide) (by decide) (by decide) rfl rfl rfl rfl ?_
    exact aw_zret (by decide +kernel) rfl (by decide) (by decide) (by omega) (hq _ _ rfl rfl)

theorem m_M_noTwo_0 (hi : I32 a ∧ I32 c ∧ I32 d) (hl : ¬ (isLw xwh a ∧ isLw xwh c ∧ (d = 0 ∨ d = 1))) : ADet G M_M_noTwo [vr 8 0, vi a, vi c, vi d] (Hp b s t mk df jo tr di (sgM th ln by9 dn ac bd pm pq tk fo f1 f2 xtp xwg xwh xmd xsl xhw xhs xhd xha xp1 xp2 xp3 xl1 xl2 xrt xlf xdc xhn xsu) dy) (some (vi 1)) (Hp b s t mk df jo tr di (sgM 1 ln by9 dn ac bd pm pq tk fo f1 f2 xtp xwg xwh xmd xsl xhw xhs xhd xha xp1 xp2 xp3 xl1 xl2 xrt xlf xdc xhn xsu) dy) := by
  refine am_det (by decide +kernel) (Nat.le_of_ble_eq_true rfl) (fun Qr Qt hq => ?_)
  refine aw_blk (pc' := 3) (ls' := [some (vr 8 0), some (vi a), some (vi c), some (vi d)]) (st' := [vi a, vr 8 0, vr 8 0]) [.inl (.aload_n 0), .inl (.aload_n 0), .inl (.iload_n 1)] 0 _ _ (by decide +kernel) rfl ?_
  by_cases hl1 : isLw xwh a
  · refine aw_dV (cs' := 0) (sl' := 0) (pc' := 6) (st' := [vi 1, vr 8 0]) (idx := 133) (as := [vi a]) (st := [vr 8 0]) (m_M_isLaw_1 hl1) (by decide +kernel) (show vOK "ChanceBenchModel" 133 M_M_isLaw 1 = true by decide +kernel) rfl rfl rfl (Nat.le_of_ble_eq_true rfl) (by decide) (by decide) (by decide) rfl rfl rfl rfl ?_
    refine aw_if_eq (o := 20) (tgt := 26) (by decide +kernel) (by decide) (by omega) (fun c => absurd c (by omega)) (fun _ => ?_)
    refine aw_blk (pc' := 11) (ls' := [some (vr 8 0), some (vi a), some (vi c), some (vi d)]) (st' := [vi c, vr 8 0, vr 8 0]) [.inl (.aload_n 0), .inl (.iload_n 2)] 9 _ _ (by decide +kernel) rfl ?_
    by_cases hl2 : isLw xwh c
    · refine aw_dV (cs' := 0) (sl' := 0) (pc' := 14) (st' := [vi 1, vr 8 0]) (idx := 133) (as := [vi c]) (st := [vr 8 0]) (m_M_isLaw_1 hl2) (by decide +kernel) (show vOK "ChanceBenchModel" 133 M_M_isLaw 1 = true by decide +kernel) rfl rfl rfl (Nat.le_of_ble_eq_true rfl) (by decide) (by decide) (by decide) rfl rfl rfl rfl ?_
      refine aw_if_eq (o := 12) (tgt := 26) (by decide +kernel) (by decide) (by omega) (fun c => absurd c (by omega)) (fun _ => ?_)
      refine aw_blk (pc' := 18) (ls' := [some (vr 8 0), some (vi a), some (vi c), some (vi d)]) (st' := [vi d, vr 8 0]) [.inl (.iload_n 3)] 17 _ _ (by decide +kernel) rfl ?_
      refine aw_if_lt (o := 8) (tgt := 26) (by decide +kernel) (by decide) (by omega) (fun c18 => ?_) (fun c18 => ?_)
      · refine aw_blk (pc' := 27) (ls' := [some (vr 8 0), some (vi a), some (vi c), some (vi d)]) (st' := [vi 1, vr 8 0]) [.inl (.iconst 1)] 26 _ _ (by decide +kernel) rfl ?_
        refine aw_goto (o := 4) (tgt := 31) (by decide +kernel) (by decide) ?_
        refine aw_dV (cs' := 0) (sl' := 0) (pc' := 34) (st' := [vi 1]) (idx := 140) (as := [vi 1]) (st := []) (m_M_throwsIf_1) (by decide +kernel) (show vOK "ChanceBenchModel" 140 M_M_throwsIf 1 = true by decide +kernel) rfl rfl rfl (Nat.le_of_ble_eq_true rfl) (by decide) (by decide) (by decide) rfl rfl rfl rfl ?_
        exact aw_zret (by decide +kernel) rfl (by decide) (by decide) (by omega) (hq _ _ rfl rfl)
      · refine aw_blk (pc' := 23) (ls' := [some (vr 8 0), some (vi a), some (vi c), some (vi d)]) (st' := [vi 1, vi d, vr 8 0]) [.inl (.iload_n 3), .inl (.iconst 1)] 21 _ _ (by decide +kernel) rfl ?_
        refine aw_icmp_le (o := 7) (tgt := 30) (by decide +kernel) (by decide) (by omega) (by omega) (fun c => absurd c (by have : ¬ (d = 0 ∨ d = 1) := fun z => hl ⟨hl1, hl2, z⟩; omega)) (fun _ => ?_)
        refine aw_blk (pc' := 27) (ls' := [some (vr 8 0), some (vi a), some (vi c), some (vi d)]) (st' := [vi 1, vr 8 0]) [.inl (.iconst 1)] 26 _ _ (by decide +kernel) rfl ?_
        refine aw_goto (o := 4) (tgt := 31) (by decide +kernel) (by decide) ?_
        refine aw_dV (cs' := 0) (sl' := 0) (pc' := 34) (st' := [vi 1]) (idx := 140) (as := [vi 1]) (st := []) (m_M_throwsIf_1) (by decide +kernel) (show vOK "ChanceBenchModel" 140 M_M_throwsIf 1 = true by decide +kernel) rfl rfl rfl (Nat.le_of_ble_eq_true rfl) (by decide) (by decide) (by decide) rfl rfl rfl rfl ?_
        exact aw_zret (by decide +kernel) rfl (by decide) (by decide) (by omega) (hq _ _ rfl rfl)
    · refine aw_dV (cs' := 0) (sl' := 0) (pc' := 14) (st' := [vi 0, vr 8 0]) (idx := 133) (as := [vi c]) (st := [vr 8 0]) (m_M_isLaw_0 hi.2.1 hl2) (by decide +kernel) (show vOK "ChanceBenchModel" 133 M_M_isLaw 1 = true by decide +kernel) rfl rfl rfl (Nat.le_of_ble_eq_true rfl) (by decide) (by decide) (by decide) rfl rfl rfl rfl ?_
      refine aw_if_eq (o := 12) (tgt := 26) (by decide +kernel) (by decide) (by omega) (fun _ => ?_) (fun c => absurd (by omega) c)
      refine aw_blk (pc' := 27) (ls' := [some (vr 8 0), some (vi a), some (vi c), some (vi d)]) (st' := [vi 1, vr 8 0]) [.inl (.iconst 1)] 26 _ _ (by decide +kernel) rfl ?_
      refine aw_goto (o := 4) (tgt := 31) (by decide +kernel) (by decide) ?_
      refine aw_dV (cs' := 0) (sl' := 0) (pc' := 34) (st' := [vi 1]) (idx := 140) (as := [vi 1]) (st := []) (m_M_throwsIf_1) (by decide +kernel) (show vOK "ChanceBenchModel" 140 M_M_throwsIf 1 = true by decide +kernel) rfl rfl rfl (Nat.le_of_ble_eq_true rfl) (by decide) (by decide) (by decide) rfl rfl rfl rfl ?_
      exact aw_zret (by decide +kernel) rfl (by decide) (by decide) (by omega) (hq _ _ rfl rfl)
  · refine aw_dV (cs' := 0) (sl' := 0) (pc' := 6) (st' := [vi 0, vr 8 0]) (idx := 133) (as := [vi a]) (st := [vr 8 0]) (m_M_isLaw_0 hi.1 hl1) (by decide +kernel) (show vOK "ChanceBenchModel" 133 M_M_isLaw 1 = true by decide +kernel) rfl rfl rfl (Nat.le_of_ble_eq_true rfl) (by decide) (by decide) (by decide) rfl rfl rfl rfl ?_
    refine aw_if_eq (o := 20) (tgt := 26) (by decide +kernel) (by decide) (by omega) (fun _ => ?_) (fun c => absurd (by omega) c)
    refine aw_blk (pc' := 27) (ls' := [some (vr 8 0), some (vi a), some (vi c), some (vi d)]) (st' := [vi 1, vr 8 0]) [.inl (.iconst 1)] 26 _ _ (by decide +kernel) rfl ?_
    refine aw_goto (o := 4) (tgt := 31) (by decide +kernel) (by decide) ?_
    refine aw_dV (cs' := 0) (sl' := 0) (pc' := 34) (st' := [vi 1]) (idx := 140) (as := [vi 1]) (st := []) (m_M_throwsIf_1) (by decide +kernel) (show vOK "ChanceBenchModel" 140 M_M_throwsIf 1 = true by decide +kernel) rfl rfl rfl (Nat.le_of_ble_eq_true rfl) (by decide) (by decide) (by decide) rfl rfl rfl rfl ?_
    exact aw_zret (by decide +kernel) rfl (by decide) (by decide) (by omega) (hq _ _ rfl rfl)

theorem m_M_upTo (hj : q < 16) (hTq : ∀ v, 0 ≤ Tm xwg q v ∧ Tm xwg q v ≤ 1048576) (hc : I32 c) : ADet G M_M_upTo [vr 8 0, vi (q : Int), vi c] (Hp b s t mk df jo tr di (sgM th ln by9 dn ac bd pm pq tk fo f1 f2 xtp xwg xwh xmd xsl xhw xhs xhd xha xp1 xp2 xp3 xl1 xl2 xrt xlf xdc xhn xsu) dy) (some (vl (cum (Tm xwg q) c))) (Hp b s t mk df jo tr di (sgM th ln by9 dn ac bd pm pq tk fo f1 f2 xtp xwg xwh xmd xsl xhw xhs xhd xha xp1 xp2 xp3 xl1 xl2 xrt xlf xdc xhn xsu) dy) := by
  refine am_det (by decide +kernel) (Nat.le_of_ble_eq_true rfl) (fun Qr Qt hq => ?_)
  refine aw_blk (pc' := 7) (ls' := [some (vr 8 0), some (vi (q : Int)), some (vi c), some (vl 0), none, some (vi (-1000))]) (st' := []) [.inl (.lconst 0), .inl (.lstore_n 3), .inl (.sipush (-1000)), .inl (.istore 5)] 0 _ _ (by decide +kernel) rfl ?_
  refine up_to (W := fun i : Nat => AW G M_M_upTo Qr Qt 0 0 7 [some (vr 8 0), some (vi (q : Int)), some (vi c), some (vl (sumZ (fun k => if idv k ≤ c then Tm xwg q (idv k) else 0) i)), none, some (vi (idv i))] [] (Hp b s t mk df jo tr di [some (ob 8 [vi th, vr 8 1, vi ln, vr 8 2, vr 8 3, vr 8 4, vi by9, vr 8 5, vr 8 6, vr 8 7, vr 8 8, vr 8 9, vi dn, vi ac, vi bd, vr 8 10, vr 8 11, vr 8 12, vr 8 13, vr 8 14, vi pm, vl pq, vr 8 15, vr 8 16, vi tk, vr 8 17, vr 8 18, vr 8 19, vi fo, vi f1, vi f2]), some (ar 2 200 xtp), some (ar 0 32016 xwg), some (ar 0 16 xwh), some (ar 1 2001 xmd), some (ar 0 30 xsl), some (ar 0 30 xhw), some (ar 0 30 xhs), some (ar 0 60030 xhd), some (ar 0 60030 xha), some (ar 0 600 xp1), some (ar 0 600 xp2), some (ar 1 600 xp3), some (ar 1 2001 xl1), some (ar 1 2001 xl2), some (ar 1 2001 xrt), some (ar 3 2001 xlf), some (ar 0 3600 xdc), some (ar 0 12 xhn), some (ar 0 4005 xsu)] dy)) 2001 ?_ (fun i hi ih => ?_) 0 (by omega)
  · refine aw_blk (pc' := 12) (ls' := [some (vr 8 0), some (vi (q : Int)), some (vi c), some (vl (sumZ (fun k => if idv k ≤ c then Tm xwg q (idv k) else 0) 2001)), none, some (vi (idv 2001))]) (st' := [vi 1000, vi (idv 2001)]) [.inl (.iload 5), .inl (.sipush 1000)] 7 _ _ (by decide +kernel) rfl ?_
    refine aw_icmp_gt (o := 26) (tgt := 38) (by decide +kernel) (by decide) (by show I32 (_ - _); omega) (by omega) (fun _ => ?_) (fun c => absurd (by show _ < (_ - _); omega) c)
    refine aw_blk (pc' := 39) (ls' := [some (vr 8 0), some (vi (q : Int)), some (vi c), some (vl (sumZ (fun k => if idv k ≤ c then Tm xwg q (idv k) else 0) 2001)), none, some (vi (idv 2001))]) (st' := [vl (sumZ (fun k => if idv k ≤ c then Tm xwg q (idv k) else 0) 2001)]) [.inl (.lload_n 3)] 38 _ _ (by decide +kernel) rfl ?_
    exact aw_lret (by decide +kernel) rfl (by decide) (by decide) (hq _ _ rfl rfl)
  · have hiv : idv i = (i : Int) - 1000 := rfl
    have hnx : idv i + 1 = idv (i + 1) := by unfold idv; omega
    have htq := hTq (idv i)
    refine aw_blk (pc' := 12) (ls' := [some (vr 8 0), some (vi (q : Int)), some (vi c), some (vl (sumZ (fun k => if idv k ≤ c then Tm xwg q (idv k) else 0) i)), none, some (vi (idv i))]) (st' := [vi 1000, vi (idv i)]) [.inl (.iload 5), .inl (.sipush 1000)] 7 _ _ (by decide +kernel) rfl ?_
    refine aw_icmp_gt (o := 26) (tgt := 38) (by decide +kernel) (by decide) (by omega) (by omega) (fun c => absurd c (by omega)) (fun _ => ?_)
    refine aw_blk (pc' := 18) (ls' := [some (vr 8 0), some (vi (q : Int)), some (vi c), some (vl (sumZ (fun k => if idv k ≤ c then Tm xwg q (idv k) else 0) i)), none, some (vi (idv i))]) (st' := [vi c, vi (idv i)]) [.inl (.iload 5), .inl (.iload_n 2)] 15 _ _ (by decide +kernel) rfl ?_
    refine aw_icmp_gt (o := 20) (tgt := 38) (by decide +kernel) (by decide) (by omega) (by omega) (fun c18 => ?_) (fun c18 => ?_)
    · refine aw_blk (pc' := 39) (ls' := [some (vr 8 0), some (vi (q : Int)), some (vi c), some (vl (sumZ (fun k => if idv k ≤ c then Tm xwg q (idv k) else 0) i)), none, some (vi (idv i))]) (st' := [vl (sumZ (fun k => if idv k ≤ c then Tm xwg q (idv k) else 0) i)]) [.inl (.lload_n 3)] 38 _ _ (by decide +kernel) rfl ?_
      exact aw_lret (by decide +kernel) rfl (by decide) (by decide) (hq _ _ (by rw [cum_cut (i := i) (by omega) (by omega)]) rfl)
    · refine aw_blk (pc' := 26) (ls' := [some (vr 8 0), some (vi (q : Int)), some (vi c), some (vl (sumZ (fun k => if idv k ≤ c then Tm xwg q (idv k) else 0) i)), none, some (vi (idv i))]) (st' := [vi (idv i), vi (q : Int), vr 8 0, vl (sumZ (fun k => if idv k ≤ c then Tm xwg q (idv k) else 0) i)]) [.inl (.lload_n 3), .inl (.aload_n 0), .inl (.iload_n 1), .inl (.iload 5)] 21 _ _ (by decide +kernel) rfl ?_
      refine aw_dV (cs' := 0) (sl' := 0) (pc' := 29) (st' := [vi (Tm xwg q (idv i)), vl (sumZ (fun k => if idv k ≤ c then Tm xwg q (idv k) else 0) i)]) (idx := 136) (as := [vi (q : Int), vi (idv i)]) (st := [vl (sumZ (fun k => if idv k ≤ c then Tm xwg q (idv k) else 0) i)]) (m_M_at (by omega) (by omega)) (by decide +kernel) (show vOK "ChanceBenchModel" 136 M_M_at 2 = true by decide +kernel) rfl rfl rfl (Nat.le_of_ble_eq_true rfl) (by decide) (by decide) (by decide) rfl rfl rfl rfl ?_
      refine aw_i2l (by decide +kernel) (by omega) ?_
      refine aw_blk (pc' := 35) (ls' := [some (vr 8 0), some (vi (q : Int)), some (vi c), some (vl ((sumZ (fun k => if idv k ≤ c then Tm xwg q (idv k) else 0) i) + (Tm xwg q (idv i)))), none, some (vi ((idv i) + 1))]) (st' := []) [.inl (.ladd), .inl (.lstore_n 3), .inl (.iinc 5 1)] 30 _ _ (by decide +kernel) rfl ?_
      refine aw_goto (o := -28) (tgt := 7) (by decide +kernel) (by decide) ?_
      rw [hnx]
      exact aw_eq (by simp only [sumZ]; rw [if_pos (by omega)]; try rfl) rfl rfl ih

theorem m_M_first (hj : q < 16) (hTq : ∀ v, 0 ≤ Tm xwg q v ∧ Tm xwg q v ≤ 1048576) : ADet G M_M_first [vr 8 0, vi (q : Int)] (Hp b s t mk df jo tr di (sgM th ln by9 dn ac bd pm pq tk fo f1 f2 xtp xwg xwh xmd xsl xhw xhs xhd xha xp1 xp2 xp3 xl1 xl2 xrt xlf xdc xhn xsu) dy) (some (vl (sT (fun u => u * Tm xwg q u)))) (Hp b s t mk df jo tr di (sgM th ln by9 dn ac bd pm pq tk fo f1 f2 xtp xwg xwh xmd xsl xhw xhs xhd xha xp1 xp2 xp3 xl1 xl2 xrt xlf xdc xhn xsu) dy) := by
  refine am_det (by decide +kernel) (Nat.le_of_ble_eq_true rfl) (fun Qr Qt hq => ?_)
  refine aw_blk (pc' := 7) (ls' := [some (vr 8 0), some (vi (q : Int)), some (vl 0), none, some (vi (-1000))]) (st' := []) [.inl (.lconst 0), .inl (.lstore_n 2), .inl (.sipush (-1000)), .inl (.istore 4)] 0 _ _ (by decide +kernel) rfl ?_
  refine up_to (W := fun i : Nat => AW G M_M_first Qr Qt 0 0 7 [some (vr 8 0), some (vi (q : Int)), some (vl (sumZ (fun k => idv k * Tm xwg q (idv k)) i)), none, some (vi (idv i))] [] (Hp b s t mk df jo tr di [some (ob 8 [vi th, vr 8 1, vi ln, vr 8 2, vr 8 3, vr 8 4, vi by9, vr 8 5, vr 8 6, vr 8 7, vr 8 8, vr 8 9, vi dn, vi ac, vi bd, vr 8 10, vr 8 11, vr 8 12, vr 8 13, vr 8 14, vi pm, vl pq, vr 8 15, vr 8 16, vi tk, vr 8 17, vr 8 18, vr 8 19, vi fo, vi f1, vi f2]), some (ar 2 200 xtp), some (ar 0 32016 xwg), some (ar 0 16 xwh), some (ar 1 2001 xmd), some (ar 0 30 xsl), some (ar 0 30 xhw), some (ar 0 30 xhs), some (ar 0 60030 xhd), some (ar 0 60030 xha), some (ar 0 600 xp1), some (ar 0 600 xp2), some (ar 1 600 xp3), some (ar 1 2001 xl1), some (ar 1 2001 xl2), some (ar 1 2001 xrt), some (ar 3 2001 xlf), some (ar 0 3600 xdc), some (ar 0 12 xhn), some (ar 0 4005 xsu)] dy)) 2001 ?_ (fun i hi ih => ?_) 0 (by omega)
  · refine aw_blk (pc' := 12) (ls' := [some (vr 8 0), some (vi (q : Int)), some (vl (sumZ (fun k => idv k * Tm xwg q (idv k)) 2001)), none, some (vi (idv 2001))]) (st' := [vi 1000, vi (idv 2001)]) [.inl (.iload 4), .inl (.sipush 1000)] 7 _ _ (by decide +kernel) rfl ?_
    refine aw_icmp_gt (o := 24) (tgt := 36) (by decide +kernel) (by decide) (by show I32 (_ - _); omega) (by omega) (fun _ => ?_) (fun c => absurd (by show _ < (_ - _); omega) c)
    refine aw_blk (pc' := 37) (ls' := [some (vr 8 0), some (vi (q : Int)), some (vl (sumZ (fun k => idv k * Tm xwg q (idv k)) 2001)), none, some (vi (idv 2001))]) (st' := [vl (sumZ (fun k => idv k * Tm xwg q (idv k)) 2001)]) [.inl (.lload_n 2)] 36 _ _ (by decide +kernel) rfl ?_
    exact aw_lret (by decide +kernel) rfl (by decide) (by decide) (hq _ _ rfl rfl)
  · have hiv : idv i = (i : Int) - 1000 := rfl
    have hnx : idv i + 1 = idv (i + 1) := by unfold idv; omega
    have htq := hTq (idv i)
    refine aw_blk (pc' := 12) (ls' := [some (vr 8 0), some (vi (q : Int)), some (vl (sumZ (fun k => idv k * Tm xwg q (idv k)) i)), none, some (vi (idv i))]) (st' := [vi 1000, vi (idv i)]) [.inl (.iload 4), .inl (.sipush 1000)] 7 _ _ (by decide +kernel) rfl ?_
    refine aw_icmp_gt (o := 24) (tgt := 36) (by decide +kernel) (by decide) (by omega) (by omega) (fun c => absurd c (by omega)) (fun _ => ?_)
    refine aw_blk (pc' := 18) (ls' := [some (vr 8 0), some (vi (q : Int)), some (vl (sumZ (fun k => idv k * Tm xwg q (idv k)) i)), none, some (vi (idv i))]) (st' := [vi (idv i), vl (sumZ (fun k => idv k * Tm xwg q (idv k)) i)]) [.inl (.lload_n 2), .inl (.iload 4)] 15 _ _ (by decide +kernel) rfl ?_
    refine aw_i2l (by decide +kernel) (by omega) ?_
    refine aw_blk (pc' := 23) (ls' := [some (vr 8 0), some (vi (q : Int)), some (vl (sumZ (fun k => idv k * Tm xwg q (idv k)) i)), none, some (vi (idv i))]) (st' := [vi (idv i), vi (q : Int), vr 8 0, vl (idv i), vl (sumZ (fun k => idv k * Tm xwg q (idv k)) i)]) [.inl (.aload_n 0), .inl (.iload_n 1), .inl (.iload 4)] 19 _ _ (by decide +kernel) rfl ?_
    refine aw_dV (cs' := 0) (sl' := 0) (pc' := 26) (st' := [vi (Tm xwg q (idv i)), vl (idv i), vl (sumZ (fun k => idv k * Tm xwg q (idv k)) i)]) (idx := 136) (as := [vi (q : Int), vi (idv i)]) (st := [vl (idv i), vl (sumZ (fun k => idv k * Tm xwg q (idv k)) i)]) (m_M_at (by omega) (by omega)) (by decide +kernel) (show vOK "ChanceBenchModel" 136 M_M_at 2 = true by decide +kernel) rfl rfl rfl (Nat.le_of_ble_eq_true rfl) (by decide) (by decide) (by decide) rfl rfl rfl rfl ?_
    refine aw_i2l (by decide +kernel) (by omega) ?_
    refine aw_blk (pc' := 33) (ls' := [some (vr 8 0), some (vi (q : Int)), some (vl ((sumZ (fun k => idv k * Tm xwg q (idv k)) i) + ((idv i) * (Tm xwg q (idv i))))), none, some (vi ((idv i) + 1))]) (st' := []) [.inl (.lmul), .inl (.ladd), .inl (.lstore_n 2), .inl (.iinc 4 1)] 27 _ _ (by decide +kernel) rfl ?_
    refine aw_goto (o := -26) (tgt := 7) (by decide +kernel) (by decide) ?_
    rw [hnx]
    exact aw_eq rfl rfl rfl ih

theorem m_M_wins (hj : q < 16) (hTq : ∀ v, 0 ≤ Tm xwg q v ∧ Tm xwg q v ≤ 1048576) (hj2 : q2 < 16) (hTq2 : ∀ v, 0 ≤ Tm xwg q2 v ∧ Tm xwg q2 v ≤ 1048576) : ADet G M_M_wins [vr 8 0, vi (q : Int), vi (q2 : Int)] (Hp b s t mk df jo tr di (sgM th ln by9 dn ac bd pm pq tk fo f1 f2 xtp xwg xwh xmd xsl xhw xhs xhd xha xp1 xp2 xp3 xl1 xl2 xrt xlf xdc xhn xsu) dy) (some (vl (win (Tm xwg q) (Tm xwg q2)))) (Hp b s t mk df jo tr di (sgM th ln by9 dn ac bd pm pq tk fo f1 f2 xtp xwg xwh xmd xsl xhw xhs xhd xha xp1 xp2 xp3 xl1 xl2 xrt xlf xdc xhn xsu) dy) := by
  refine am_det (by decide +kernel) (Nat.le_of_ble_eq_true rfl) (fun Qr Qt hq => ?_)
  refine aw_blk (pc' := 10) (ls' := [some (vr 8 0), some (vi (q : Int)), some (vi (q2 : Int)), some (vl 0), none, some (vl 0), none, some (vi (-1000))]) (st' := []) [.inl (.lconst 0), .inl (.lstore_n 3), .inl (.lconst 0), .inl (.lstore 5), .inl (.sipush (-1000)), .inl (.istore 7)] 0 _ _ (by decide +kernel) rfl ?_
  refine up_to (W := fun i : Nat => AW G M_M_wins Qr Qt 0 0 10 [some (vr 8 0), some (vi (q : Int)), some (vi (q2 : Int)), some (vl (sumZ (fun k => Tm xwg q (idv k) * cum (Tm xwg q2) (idv k - 1)) i)), none, some (vl (sumZ (fun k => Tm xwg q2 (idv k)) i)), none, some (vi (idv i))] [] (Hp b s t mk df jo tr di [some (ob 8 [vi th, vr 8 1, vi ln, vr 8 2, vr 8 3, vr 8 4, vi by9, vr 8 5, vr 8 6, vr 8 7, vr 8 8, vr 8 9, vi dn, vi ac, vi bd, vr 8 10, vr 8 11, vr 8 12, vr 8 13, vr 8 14, vi pm, vl pq, vr 8 15, vr 8 16, vi tk, vr 8 17, vr 8 18, vr 8 19, vi fo, vi f1, vi f2]), some (ar 2 200 xtp), some (ar 0 32016 xwg), some (ar 0 16 xwh), some (ar 1 2001 xmd), some (ar 0 30 xsl), some (ar 0 30 xhw), some (ar 0 30 xhs), some (ar 0 60030 xhd), some (ar 0 60030 xha), some (ar 0 600 xp1), some (ar 0 600 xp2), some (ar 1 600 xp3), some (ar 1 2001 xl1), some (ar 1 2001 xl2), some (ar 1 2001 xrt), some (ar 3 2001 xlf), some (ar 0 3600 xdc), some (ar 0 12 xhn), some (ar 0 4005 xsu)] dy)) 2001 ?_ (fun i hi ih => ?_) 0 (by omega)
  · refine aw_blk (pc' := 15) (ls' := [some (vr 8 0), some (vi (q : Int)), some (vi (q2 : Int)), some (vl (sumZ (fun k => Tm xwg q (idv k) * cum (Tm xwg q2) (idv k - 1)) 2001)), none, some (vl (sumZ (fun k => Tm xwg q2 (idv k)) 2001)), none, some (vi (idv 2001))]) (st' := [vi 1000, vi (idv 2001)]) [.inl (.iload 7), .inl (.sipush 1000)] 10 _ _ (by decide +kernel) rfl ?_
    refine aw_icmp_gt (o := 36) (tgt := 51) (by decide +kernel) (by decide) (by show I32 (_ - _); omega) (by omega) (fun _ => ?_) (fun c => absurd (by show _ < (_ - _); omega) c)
    refine aw_blk (pc' := 52) (ls' := [some (vr 8 0), some (vi (q : Int)), some (vi (q2 : Int)), some (vl (sumZ (fun k => Tm xwg q (idv k) * cum (Tm xwg q2) (idv k - 1)) 2001)), none, some (vl (sumZ (fun k => Tm xwg q2 (idv k)) 2001)), none, some (vi (idv 2001))]) (st' := [vl (sumZ (fun k => Tm xwg q (idv k) * cum (Tm xwg q2) (idv k - 1)) 2001)]) [.inl (.lload_n 3)] 51 _ _ (by decide +kernel) rfl ?_
    exact aw_lret (by decide +kernel) rfl (by decide) (by decide) (hq _ _ rfl rfl)
  · have hiv : idv i = (i : Int) - 1000 := rfl
    have hnx : idv i + 1 = idv (i + 1) := by unfold idv; omega
    have htq := hTq (idv i)
    have htq2 := hTq2 (idv i)
    refine aw_blk (pc' := 15) (ls' := [some (vr 8 0), some (vi (q : Int)), some (vi (q2 : Int)), some (vl (sumZ (fun k => Tm xwg q (idv k) * cum (Tm xwg q2) (idv k - 1)) i)), none, some (vl (sumZ (fun k => Tm xwg q2 (idv k)) i)), none, some (vi (idv i))]) (st' := [vi 1000, vi (idv i)]) [.inl (.iload 7), .inl (.sipush 1000)] 10 _ _ (by decide +kernel) rfl ?_
    refine aw_icmp_gt (o := 36) (tgt := 51) (by decide +kernel) (by decide) (by omega) (by omega) (fun c => absurd c (by omega)) (fun _ => ?_)
    refine aw_blk (pc' := 23) (ls' := [some (vr 8 0), some (vi (q : Int)), some (vi (q2 : Int)), some (vl (sumZ (fun k => Tm xwg q (idv k) * cum (Tm xwg q2) (idv k - 1)) i)), none, some (vl (sumZ (fun k => Tm xwg q2 (idv k)) i)), none, some (vi (idv i))]) (st' := [vi (idv i), vi (q : Int), vr 8 0, vl (sumZ (fun k => Tm xwg q (idv k) * cum (Tm xwg q2) (idv k - 1)) i)]) [.inl (.lload_n 3), .inl (.aload_n 0), .inl (.iload_n 1), .inl (.iload 7)] 18 _ _ (by decide +kernel) rfl ?_
    refine aw_dV (cs' := 0) (sl' := 0) (pc' := 26) (st' := [vi (Tm xwg q (idv i)), vl (sumZ (fun k => Tm xwg q (idv k) * cum (Tm xwg q2) (idv k - 1)) i)]) (idx := 136) (as := [vi (q : Int), vi (idv i)]) (st := [vl (sumZ (fun k => Tm xwg q (idv k) * cum (Tm xwg q2) (idv k - 1)) i)]) (m_M_at (by omega) (by omega)) (by decide +kernel) (show vOK "ChanceBenchModel" 136 M_M_at 2 = true by decide +kernel) rfl rfl rfl (Nat.le_of_ble_eq_true rfl) (by decide) (by decide) (by decide) rfl rfl rfl rfl ?_
    refine aw_i2l (by decide +kernel) (by omega) ?_
    refine aw_blk (pc' := 38) (ls' := [some (vr 8 0), some (vi (q : Int)), some (vi (q2 : Int)), some (vl ((sumZ (fun k => Tm xwg q (idv k) * cum (Tm xwg q2) (idv k - 1)) i) + ((Tm xwg q (idv i)) * (sumZ (fun k => Tm xwg q2 (idv k)) i)))), none, some (vl (sumZ (fun k => Tm xwg q2 (idv k)) i)), none, some (vi (idv i))]) (st' := [vi (idv i), vi (q2 : Int), vr 8 0, vl (sumZ (fun k => Tm xwg q2 (idv k)) i)]) [.inl (.lload 5), .inl (.lmul), .inl (.ladd), .inl (.lstore_n 3), .inl (.lload 5), .inl (.aload_n 0), .inl (.iload_n 2), .inl (.iload 7)] 27 _ _ (by decide +kernel) rfl ?_
    refine aw_dV (cs' := 0) (sl' := 0) (pc' := 41) (st' := [vi (Tm xwg q2 (idv i)), vl (sumZ (fun k => Tm xwg q2 (idv k)) i)]) (idx := 136) (as := [vi (q2 : Int), vi (idv i)]) (st := [vl (sumZ (fun k => Tm xwg q2 (idv k)) i)]) (m_M_at (by omega) (by omega)) (by decide +kernel) (show vOK "ChanceBenchModel" 136 M_M_at 2 = true by decide +kernel) rfl rfl rfl (Nat.le_of_ble_eq_true rfl) (by decide) (by decide) (by decide) rfl rfl rfl rfl ?_
    refine aw_i2l (by decide +kernel) (by omega) ?_
    refine aw_blk (pc' := 48) (ls' := [some (vr 8 0), some (vi (q : Int)), some (vi (q2 : Int)), some (vl ((sumZ (fun k => Tm xwg q (idv k) * cum (Tm xwg q2) (idv k - 1)) i) + ((Tm xwg q (idv i)) * (sumZ (fun k => Tm xwg q2 (idv k)) i)))), none, some (vl ((sumZ (fun k => Tm xwg q2 (idv k)) i) + (Tm xwg q2 (idv i)))), none, some (vi ((idv i) + 1))]) (st' := []) [.inl (.ladd), .inl (.lstore 5), .inl (.iinc 7 1)] 42 _ _ (by decide +kernel) rfl ?_
    refine aw_goto (o := -38) (tgt := 10) (by decide +kernel) (by decide) ?_
    rw [hnx]
    exact aw_eq (by simp only [sumZ]; rw [cum_idv (by omega)]; try rfl) rfl rfl ih

theorem m_M_over (hj : q < 16) (hTq : ∀ v, 0 ≤ Tm xwg q v ∧ Tm xwg q v ≤ 1048576) (hc : inR c) : ADet G M_M_over [vr 8 0, vi (q : Int), vi c] (Hp b s t mk df jo tr di (sgM th ln by9 dn ac bd pm pq tk fo f1 f2 xtp xwg xwh xmd xsl xhw xhs xhd xha xp1 xp2 xp3 xl1 xl2 xrt xlf xdc xhn xsu) dy) (some (vl (Ov (Tm xwg q) c))) (Hp b s t mk df jo tr di (sgM th ln by9 dn ac bd pm pq tk fo f1 f2 xtp xwg xwh xmd xsl xhw xhs xhd xha xp1 xp2 xp3 xl1 xl2 xrt xlf xdc xhn xsu) dy) := by
  refine am_det (by decide +kernel) (Nat.le_of_ble_eq_true rfl) (fun Qr Qt hq => ?_)
  obtain ⟨z, rfl⟩ : ∃ z : Nat, c = idv z := ⟨(c + 1000).toNat, by unfold idv; omega⟩
  have hzv : idv z = (z : Int) - 1000 := rfl
  refine aw_blk (pc' := 7) (ls' := [some (vr 8 0), some (vi (q : Int)), some (vi (idv z)), some (vl 0), none, some (vi ((idv z) + 1))]) (st' := []) [.inl (.lconst 0), .inl (.lstore_n 3), .inl (.iload_n 2), .inl (.iconst 1), .inl (.iadd), .inl (.istore 5)] 0 _ _ (by decide +kernel) rfl ?_
  have e0 : sumZ (fun k => if idv z < idv k then (idv k - idv z) * Tm xwg q (idv k) else 0) (z + 1 + 0) = 0 := by rw [sumZ_cut (p := 0) (G := fun _ => 0) (Nat.zero_le _) (fun k hk => by omega) (fun k a b => by rw [if_neg (by show ¬ (z : Int) - 1000 < (k : Int) - 1000; omega)])]; try rfl
  have e1 : idv z + 1 = idv (z + 1 + 0) := by unfold idv; omega
  refine aw_eq (ls' := [some (vr 8 0), some (vi (q : Int)), some (vi (idv z)), some (vl (sumZ (fun k => if idv z < idv k then (idv k - idv z) * Tm xwg q (idv k) else 0) (z + 1 + 0))), none, some (vi (idv (z + 1 + 0)))]) (by rw [e0, ← e1]) rfl rfl ?_
  refine up_to (W := fun i : Nat => AW G M_M_over Qr Qt 0 0 7 [some (vr 8 0), some (vi (q : Int)), some (vi (idv z)), some (vl (sumZ (fun k => if idv z < idv k then (idv k - idv z) * Tm xwg q (idv k) else 0) (z + 1 + i))), none, some (vi (idv (z + 1 + i)))] [] (Hp b s t mk df jo tr di [some (ob 8 [vi th, vr 8 1, vi ln, vr 8 2, vr 8 3, vr 8 4, vi by9, vr 8 5, vr 8 6, vr 8 7, vr 8 8, vr 8 9, vi dn, vi ac, vi bd, vr 8 10, vr 8 11, vr 8 12, vr 8 13, vr 8 14, vi pm, vl pq, vr 8 15, vr 8 16, vi tk, vr 8 17, vr 8 18, vr 8 19, vi fo, vi f1, vi f2]), some (ar 2 200 xtp), some (ar 0 32016 xwg), some (ar 0 16 xwh), some (ar 1 2001 xmd), some (ar 0 30 xsl), some (ar 0 30 xhw), some (ar 0 30 xhs), some (ar 0 60030 xhd), some (ar 0 60030 xha), some (ar 0 600 xp1), some (ar 0 600 xp2), some (ar 1 600 xp3), some (ar 1 2001 xl1), some (ar 1 2001 xl2), some (ar 1 2001 xrt), some (ar 3 2001 xlf), some (ar 0 3600 xdc), some (ar 0 12 xhn), some (ar 0 4005 xsu)] dy)) (2000 - z) ?_ (fun i hi ih => ?_) 0 (by omega)
  · rw [show z + 1 + (2000 - z) = 2001 by omega]
    refine aw_blk (pc' := 12) (ls' := [some (vr 8 0), some (vi (q : Int)), some (vi (idv z)), some (vl (sumZ (fun k => if idv z < idv k then (idv k - idv z) * Tm xwg q (idv k) else 0) 2001)), none, some (vi (idv 2001))]) (st' := [vi 1000, vi (idv 2001)]) [.inl (.iload 5), .inl (.sipush 1000)] 7 _ _ (by decide +kernel) rfl ?_
    refine aw_icmp_gt (o := 26) (tgt := 38) (by decide +kernel) (by decide) (by show I32 (_ - _); omega) (by omega) (fun _ => ?_) (fun c => absurd (by show _ < (_ - _); omega) c)
    refine aw_blk (pc' := 39) (ls' := [some (vr 8 0), some (vi (q : Int)), some (vi (idv z)), some (vl (sumZ (fun k => if idv z < idv k then (idv k - idv z) * Tm xwg q (idv k) else 0) 2001)), none, some (vi (idv 2001))]) (st' := [vl (sumZ (fun k => if idv z < idv k then (idv k - idv z) * Tm xwg q (idv k) else 0) 2001)]) [.inl (.lload_n 3)] 38 _ _ (by decide +kernel) rfl ?_
    exact aw_lret (by decide +kernel) rfl (by decide) (by decide) (hq _ _ rfl rfl)
  · have hiv : idv (z + 1 + i) = ((z + 1 + i : Nat) : Int) - 1000 := rfl
    have hnx : idv (z + 1 + i) + 1 = idv (z + 1 + (i + 1)) := by unfold idv; omega
    have htq := hTq (idv (z + 1 + i))
    refine aw_blk (pc' := 12) (ls' := [some (vr 8 0), some (vi (q : Int)), some (vi (idv z)), some (vl (sumZ (fun k => if idv z < idv k then (idv k - idv z) * Tm xwg q (idv k) else 0) (z + 1 + i))), none, some (vi (idv (z + 1 + i)))]) (st' := [vi 1000, vi (idv (z + 1 + i))]) [.inl (.iload 5), .inl (.sipush 1000)] 7 _ _ (by decide +kernel) rfl ?_
    refine aw_icmp_gt (o := 26) (tgt := 38) (by decide +kernel) (by decide) (by omega) (by omega) (fun c => absurd c (by omega)) (fun _ => ?_)
    refine aw_blk (pc' := 20) (ls' := [some (vr 8 0), some (vi (q : Int)), some (vi (idv z)), some (vl (sumZ (fun k => if idv z < idv k then (idv k - idv z) * Tm xwg q (idv k) else 0) (z + 1 + i))), none, some (vi (idv (z + 1 + i)))]) (st' := [vi ((idv (z + 1 + i)) - (idv z)), vl (sumZ (fun k => if idv z < idv k then (idv k - idv z) * Tm xwg q (idv k) else 0) (z + 1 + i))]) [.inl (.lload_n 3), .inl (.iload 5), .inl (.iload_n 2), .inl (.isub)] 15 _ _ (by decide +kernel) rfl ?_
    refine aw_i2l (by decide +kernel) (by omega) ?_
    refine aw_blk (pc' := 25) (ls' := [some (vr 8 0), some (vi (q : Int)), some (vi (idv z)), some (vl (sumZ (fun k => if idv z < idv k then (idv k - idv z) * Tm xwg q (idv k) else 0) (z + 1 + i))), none, some (vi (idv (z + 1 + i)))]) (st' := [vi (idv (z + 1 + i)), vi (q : Int), vr 8 0, vl ((idv (z + 1 + i)) - (idv z)), vl (sumZ (fun k => if idv z < idv k then (idv k - idv z) * Tm xwg q (idv k) else 0) (z + 1 + i))]) [.inl (.aload_n 0), .inl (.iload_n 1), .inl (.iload 5)] 21 _ _ (by decide +kernel) rfl ?_
    refine aw_dV (cs' := 0) (sl' := 0) (pc' := 28) (st' := [vi (Tm xwg q (idv (z + 1 + i))), vl ((idv (z + 1 + i)) - (idv z)), vl (sumZ (fun k => if idv z < idv k then (idv k - idv z) * Tm xwg q (idv k) else 0) (z + 1 + i))]) (idx := 136) (as := [vi (q : Int), vi (idv (z + 1 + i))]) (st := [vl ((idv (z + 1 + i)) - (idv z)), vl (sumZ (fun k => if idv z < idv k then (idv k - idv z) * Tm xwg q (idv k) else 0) (z + 1 + i))]) (m_M_at (by omega) (by omega)) (by decide +kernel) (show vOK "ChanceBenchModel" 136 M_M_at 2 = true by decide +kernel) rfl rfl rfl (Nat.le_of_ble_eq_true rfl) (by decide) (by decide) (by decide) rfl rfl rfl rfl ?_
    refine aw_i2l (by decide +kernel) (by omega) ?_
    refine aw_blk (pc' := 35) (ls' := [some (vr 8 0), some (vi (q : Int)), some (vi (idv z)), some (vl ((sumZ (fun k => if idv z < idv k then (idv k - idv z) * Tm xwg q (idv k) else 0) (z + 1 + i)) + (((idv (z + 1 + i)) - (idv z)) * (Tm xwg q (idv (z + 1 + i)))))), none, some (vi ((idv (z + 1 + i)) + 1))]) (st' := []) [.inl (.lmul), .inl (.ladd), .inl (.lstore_n 3), .inl (.iinc 5 1)] 29 _ _ (by decide +kernel) rfl ?_
    refine aw_goto (o := -28) (tgt := 7) (by decide +kernel) (by decide) ?_
    rw [hnx]
    exact aw_eq (by rw [← Nat.add_assoc]; simp only [sumZ]; rw [if_pos (by omega)]; try rfl) rfl rfl ih

theorem m_M_values (hl : isLw xwh (q : Int)) (hTq : ∀ v, 0 ≤ Tm xwg q v ∧ Tm xwg q v ≤ 1048576) : ADet G M_M_values [vr 8 0, vi (q : Int)] (Hp b s t mk df jo tr di (sgM th ln by9 dn ac bd pm pq tk fo f1 f2 xtp xwg xwh xmd xsl xhw xhs xhd xha xp1 xp2 xp3 xl1 xl2 xrt xlf xdc xhn xsu) dy) (some (vi (cnt (Tm xwg q)))) (Hp b s t mk df jo tr di (sgM 0 ln by9 dn ac bd pm pq tk fo f1 f2 xtp xwg xwh xmd xsl xhw xhs xhd xha xp1 xp2 xp3 xl1 xl2 xrt xlf xdc xhn xsu) dy) := by
  refine am_det (by decide +kernel) (Nat.le_of_ble_eq_true rfl) (fun Qr Qt hq => ?_)
  have hj := hl.1
  refine aw_blk (pc' := 2) (ls' := [some (vr 8 0), some (vi (q : Int)), none, none]) (st' := [vi 0, vr 8 0]) [.inl (.aload_n 0), .inl (.iconst 0)] 0 _ _ (by decide +kernel) rfl ?_
  refine aw_put (idx := 79) (ci := 8) (k := 0) (h' := Hp b s t mk df jo tr di [some (ob 8 [vi 0, vr 8 1, vi ln, vr 8 2, vr 8 3, vr 8 4, vi by9, vr 8 5, vr 8 6, vr 8 7, vr 8 8, vr 8 9, vi dn, vi ac, vi bd, vr 8 10, vr 8 11, vr 8 12, vr 8 13, vr 8 14, vi pm, vl pq, vr 8 15, vr 8 16, vi tk, vr 8 17, vr 8 18, vr 8 19, vi fo, vi f1, vi f2]), some (ar 2 200 xtp), some (ar 0 32016 xwg), some (ar 0 16 xwh), some (ar 1 2001 xmd), some (ar 0 30 xsl), some (ar 0 30 xhw), some (ar 0 30 xhs), some (ar 0 60030 xhd), some (ar 0 60030 xha), some (ar 0 600 xp1), some (ar 0 600 xp2), some (ar 1 600 xp3), some (ar 1 2001 xl1), some (ar 1 2001 xl2), some (ar 1 2001 xrt), some (ar 3 2001 xlf), some (ar 0 3600 xdc), some (ar 0 12 xhn), some (ar 0 4005 xsu)] dy) (by decide +kernel) (by decide +kernel) rfl (Nat.le_of_ble_eq_true rfl) (show I32 _ from by omega) rfl ?_
  refine aw_blk (pc' := 11) (ls' := [some (vr 8 0), some (vi (q : Int)), some (vi 0), some (vi (-1000))]) (st' := []) [.inl (.iconst 0), .inl (.istore_n 2), .inl (.sipush (-1000)), .inl (.istore_n 3)] 5 _ _ (by decide +kernel) rfl ?_
  refine up_to (W := fun i : Nat => AW G M_M_values Qr Qt 0 0 11 [some (vr 8 0), some (vi (q : Int)), some (vi (sumZ (fun k => if 0 < Tm xwg q (idv k) then 1 else 0) i)), some (vi (idv i))] [] (Hp b s t mk df jo tr di [some (ob 8 [vi 0, vr 8 1, vi ln, vr 8 2, vr 8 3, vr 8 4, vi by9, vr 8 5, vr 8 6, vr 8 7, vr 8 8, vr 8 9, vi dn, vi ac, vi bd, vr 8 10, vr 8 11, vr 8 12, vr 8 13, vr 8 14, vi pm, vl pq, vr 8 15, vr 8 16, vi tk, vr 8 17, vr 8 18, vr 8 19, vi fo, vi f1, vi f2]), some (ar 2 200 xtp), some (ar 0 32016 xwg), some (ar 0 16 xwh), some (ar 1 2001 xmd), some (ar 0 30 xsl), some (ar 0 30 xhw), some (ar 0 30 xhs), some (ar 0 60030 xhd), some (ar 0 60030 xha), some (ar 0 600 xp1), some (ar 0 600 xp2), some (ar 1 600 xp3), some (ar 1 2001 xl1), some (ar 1 2001 xl2), some (ar 1 2001 xrt), some (ar 3 2001 xlf), some (ar 0 3600 xdc), some (ar 0 12 xhn), some (ar 0 4005 xsu)] dy)) 2001 ?_ (fun i hi ih => ?_) 0 (by omega)
  · refine aw_blk (pc' := 15) (ls' := [some (vr 8 0), some (vi (q : Int)), some (vi (sumZ (fun k => if 0 < Tm xwg q (idv k) then 1 else 0) 2001)), some (vi (idv 2001))]) (st' := [vi 1000, vi (idv 2001)]) [.inl (.iload_n 3), .inl (.sipush 1000)] 11 _ _ (by decide +kernel) rfl ?_
    refine aw_icmp_gt (o := 34) (tgt := 49) (by decide +kernel) (by decide) (by show I32 (_ - _); omega) (by omega) (fun _ => ?_) (fun c => absurd (by show _ < (_ - _); omega) c)
    refine aw_blk (pc' := 50) (ls' := [some (vr 8 0), some (vi (q : Int)), some (vi (sumZ (fun k => if 0 < Tm xwg q (idv k) then 1 else 0) 2001)), some (vi (idv 2001))]) (st' := [vi (sumZ (fun k => if 0 < Tm xwg q (idv k) then 1 else 0) 2001)]) [.inl (.iload_n 2)] 49 _ _ (by decide +kernel) rfl ?_
    exact aw_iret (by decide +kernel) rfl (by decide) (by decide) (hq _ _ rfl rfl)
  · have hiv : idv i = (i : Int) - 1000 := rfl
    have hnx : idv i + 1 = idv (i + 1) := by unfold idv; omega
    have htq := hTq (idv i)
    refine aw_blk (pc' := 15) (ls' := [some (vr 8 0), some (vi (q : Int)), some (vi (sumZ (fun k => if 0 < Tm xwg q (idv k) then 1 else 0) i)), some (vi (idv i))]) (st' := [vi 1000, vi (idv i)]) [.inl (.iload_n 3), .inl (.sipush 1000)] 11 _ _ (by decide +kernel) rfl ?_
    refine aw_icmp_gt (o := 34) (tgt := 49) (by decide +kernel) (by decide) (by omega) (by omega) (fun c => absurd c (by omega)) (fun _ => ?_)
    refine aw_blk (pc' := 20) (ls' := [some (vr 8 0), some (vi (q : Int)), some (vi (sumZ (fun k => if 0 < Tm xwg q (idv k) then 1 else 0) i)), some (vi (idv i))]) (st' := [vi (q : Int), vr 8 0]) [.inl (.aload_n 0), .inl (.iload_n 1)] 18 _ _ (by decide +kernel) rfl ?_
    refine aw_dV (cs' := 0) (sl' := 0) (pc' := 23) (st' := [vi 1]) (idx := 133) (as := [vi (q : Int)]) (st := []) (m_M_isLaw_1 hl) (by decide +kernel) (show vOK "ChanceBenchModel" 133 M_M_isLaw 1 = true by decide +kernel) rfl rfl rfl (Nat.le_of_ble_eq_true rfl) (by decide) (by decide) (by decide) rfl rfl rfl rfl ?_
    refine aw_if_eq (o := 26) (tgt := 49) (by decide +kernel) (by decide) (by omega) (fun c => absurd c (by omega)) (fun _ => ?_)
    refine aw_blk (pc' := 30) (ls' := [some (vr 8 0), some (vi (q : Int)), some (vi (sumZ (fun k => if 0 < Tm xwg q (idv k) then 1 else 0) i)), some (vi (idv i))]) (st' := [vi (idv i), vi (q : Int), vr 8 0, vi (sumZ (fun k => if 0 < Tm xwg q (idv k) then 1 else 0) i)]) [.inl (.iload_n 2), .inl (.aload_n 0), .inl (.iload_n 1), .inl (.iload_n 3)] 26 _ _ (by decide +kernel) rfl ?_
    refine aw_dV (cs' := 0) (sl' := 0) (pc' := 33) (st' := [vi (Tm xwg q (idv i)), vi (sumZ (fun k => if 0 < Tm xwg q (idv k) then 1 else 0) i)]) (idx := 136) (as := [vi (q : Int), vi (idv i)]) (st := [vi (sumZ (fun k => if 0 < Tm xwg q (idv k) then 1 else 0) i)]) (m_M_at (by omega) (by omega)) (by decide +kernel) (show vOK "ChanceBenchModel" 136 M_M_at 2 = true by decide +kernel) rfl rfl rfl (Nat.le_of_ble_eq_true rfl) (by decide) (by decide) (by decide) rfl rfl rfl rfl ?_
    refine aw_if_le (o := 7) (tgt := 40) (by decide +kernel) (by decide) (by omega) (fun c33 => ?_) (fun c33 => ?_)
    · refine aw_blk (pc' := 46) (ls' := [some (vr 8 0), some (vi (q : Int)), some (vi ((sumZ (fun k => if 0 < Tm xwg q (idv k) then 1 else 0) i) + 0)), some (vi ((idv i) + 1))]) (st' := []) [.inl (.iconst 0), .inl (.iadd), .inl (.istore_n 2), .inl (.iinc 3 1)] 40 _ _ (by decide +kernel) rfl ?_
      refine aw_goto (o := -35) (tgt := 11) (by decide +kernel) (by decide) ?_
      rw [hnx]
      exact aw_eq (by simp only [sumZ]; rw [if_neg (by omega)]; try rfl) rfl rfl ih
    · refine aw_blk (pc' := 37) (ls' := [some (vr 8 0), some (vi (q : Int)), some (vi (sumZ (fun k => if 0 < Tm xwg q (idv k) then 1 else 0) i)), some (vi (idv i))]) (st' := [vi 1, vi (sumZ (fun k => if 0 < Tm xwg q (idv k) then 1 else 0) i)]) [.inl (.iconst 1)] 36 _ _ (by decide +kernel) rfl ?_
      refine aw_goto (o := 4) (tgt := 41) (by decide +kernel) (by decide) ?_
      refine aw_blk (pc' := 46) (ls' := [some (vr 8 0), some (vi (q : Int)), some (vi ((sumZ (fun k => if 0 < Tm xwg q (idv k) then 1 else 0) i) + 1)), some (vi ((idv i) + 1))]) (st' := []) [.inl (.iadd), .inl (.istore_n 2), .inl (.iinc 3 1)] 41 _ _ (by decide +kernel) rfl ?_
      refine aw_goto (o := -35) (tgt := 11) (by decide +kernel) (by decide) ?_
      rw [hnx]
      exact aw_eq (by simp only [sumZ]; rw [if_pos (by omega)]; try rfl) rfl rfl ih

theorem m_M_values_0 (hi : I32 a) (hl : ¬ isLw xwh a) : ADet G M_M_values [vr 8 0, vi a] (Hp b s t mk df jo tr di (sgM th ln by9 dn ac bd pm pq tk fo f1 f2 xtp xwg xwh xmd xsl xhw xhs xhd xha xp1 xp2 xp3 xl1 xl2 xrt xlf xdc xhn xsu) dy) (some (vi 0)) (Hp b s t mk df jo tr di (sgM 0 ln by9 dn ac bd pm pq tk fo f1 f2 xtp xwg xwh xmd xsl xhw xhs xhd xha xp1 xp2 xp3 xl1 xl2 xrt xlf xdc xhn xsu) dy) := by
  refine am_det (by decide +kernel) (Nat.le_of_ble_eq_true rfl) (fun Qr Qt hq => ?_)
  refine aw_blk (pc' := 2) (ls' := [some (vr 8 0), some (vi a), none, none]) (st' := [vi 0, vr 8 0]) [.inl (.aload_n 0), .inl (.iconst 0)] 0 _ _ (by decide +kernel) rfl ?_
  refine aw_put (idx := 79) (ci := 8) (k := 0) (h' := Hp b s t mk df jo tr di [some (ob 8 [vi 0, vr 8 1, vi ln, vr 8 2, vr 8 3, vr 8 4, vi by9, vr 8 5, vr 8 6, vr 8 7, vr 8 8, vr 8 9, vi dn, vi ac, vi bd, vr 8 10, vr 8 11, vr 8 12, vr 8 13, vr 8 14, vi pm, vl pq, vr 8 15, vr 8 16, vi tk, vr 8 17, vr 8 18, vr 8 19, vi fo, vi f1, vi f2]), some (ar 2 200 xtp), some (ar 0 32016 xwg), some (ar 0 16 xwh), some (ar 1 2001 xmd), some (ar 0 30 xsl), some (ar 0 30 xhw), some (ar 0 30 xhs), some (ar 0 60030 xhd), some (ar 0 60030 xha), some (ar 0 600 xp1), some (ar 0 600 xp2), some (ar 1 600 xp3), some (ar 1 2001 xl1), some (ar 1 2001 xl2), some (ar 1 2001 xrt), some (ar 3 2001 xlf), some (ar 0 3600 xdc), some (ar 0 12 xhn), some (ar 0 4005 xsu)] dy) (by decide +kernel) (by decide +kernel) rfl (Nat.le_of_ble_eq_true rfl) (show I32 _ from by omega) rfl ?_
  refine aw_blk (pc' := 15) (ls' := [some (vr 8 0), some (vi a), some (vi 0), some (vi (-1000))]) (st' := [vi 1000, vi (-1000)]) [.inl (.iconst 0), .inl (.istore_n 2), .inl (.sipush (-1000)), .inl (.istore_n 3), .inl (.iload_n 3), .inl (.sipush 1000)] 5 _ _ (by decide +kernel) rfl ?_
  refine aw_icmp_gt (o := 34) (tgt := 49) (by decide +kernel) (by decide) (by omega) (by omega) (fun c => absurd c (by omega)) (fun _ => ?_)
  refine aw_blk (pc' := 20) (ls' := [some (vr 8 0), some (vi a), some (vi 0), some (vi (-1000))]) (st' := [vi a, vr 8 0]) [.inl (.aload_n 0), .inl (.iload_n 1)] 18 _ _ (by decide +kernel) rfl ?_
  refine aw_dV (cs' := 0) (sl' := 0) (pc' := 23) (st' := [vi 0]) (idx := 133) (as := [vi a]) (st := []) (m_M_isLaw_0 hi hl) (by decide +kernel) (show vOK "ChanceBenchModel" 133 M_M_isLaw 1 = true by decide +kernel) rfl rfl rfl (Nat.le_of_ble_eq_true rfl) (by decide) (by decide) (by decide) rfl rfl rfl rfl ?_
  refine aw_if_eq (o := 26) (tgt := 49) (by decide +kernel) (by decide) (by omega) (fun _ => ?_) (fun c => absurd (by omega) c)
  refine aw_blk (pc' := 50) (ls' := [some (vr 8 0), some (vi a), some (vi 0), some (vi (-1000))]) (st' := [vi 0]) [.inl (.iload_n 2)] 49 _ _ (by decide +kernel) rfl ?_
  exact aw_iret (by decide +kernel) rfl (by decide) (by decide) (hq _ _ rfl rfl)

theorem m_M_bound : ADet G M_M_bound [vr 8 0] (Hp b s t mk df jo tr di (sgM th ln by9 dn ac bd pm pq tk fo f1 f2 xtp xwg xwh xmd xsl xhw xhs xhd xha xp1 xp2 xp3 xl1 xl2 xrt xlf xdc xhn xsu) dy) (some (vi bd)) (Hp b s t mk df jo tr di (sgM 0 ln by9 dn ac bd pm pq tk fo f1 f2 xtp xwg xwh xmd xsl xhw xhs xhd xha xp1 xp2 xp3 xl1 xl2 xrt xlf xdc xhn xsu) dy) := by
  refine am_det (by decide +kernel) (Nat.le_of_ble_eq_true rfl) (fun Qr Qt hq => ?_)
  refine aw_blk (pc' := 2) (ls' := [some (vr 8 0)]) (st' := [vi 0, vr 8 0]) [.inl (.aload_n 0), .inl (.iconst 0)] 0 _ _ (by decide +kernel) rfl ?_
  refine aw_put (idx := 79) (ci := 8) (k := 0) (h' := Hp b s t mk df jo tr di [some (ob 8 [vi 0, vr 8 1, vi ln, vr 8 2, vr 8 3, vr 8 4, vi by9, vr 8 5, vr 8 6, vr 8 7, vr 8 8, vr 8 9, vi dn, vi ac, vi bd, vr 8 10, vr 8 11, vr 8 12, vr 8 13, vr 8 14, vi pm, vl pq, vr 8 15, vr 8 16, vi tk, vr 8 17, vr 8 18, vr 8 19, vi fo, vi f1, vi f2]), some (ar 2 200 xtp), some (ar 0 32016 xwg), some (ar 0 16 xwh), some (ar 1 2001 xmd), some (ar 0 30 xsl), some (ar 0 30 xhw), some (ar 0 30 xhs), some (ar 0 60030 xhd), some (ar 0 60030 xha), some (ar 0 600 xp1), some (ar 0 600 xp2), some (ar 1 600 xp3), some (ar 1 2001 xl1), some (ar 1 2001 xl2), some (ar 1 2001 xrt), some (ar 3 2001 xlf), some (ar 0 3600 xdc), some (ar 0 12 xhn), some (ar 0 4005 xsu)] dy) (by decide +kernel) (by decide +kernel) rfl (Nat.le_of_ble_eq_true rfl) (show I32 _ from by omega) rfl ?_
  refine aw_blk (pc' := 9) (ls' := [some (vr 8 0)]) (st' := [vi bd]) [.inl (.aload_n 0), .inr (40, 8, 14)] 5 _ _ (by decide +kernel) rfl ?_
  exact aw_iret (by decide +kernel) rfl (by decide) (by decide) (hq _ _ rfl rfl)

theorem m_M_taken : ADet G M_M_taken [vr 8 0] (Hp b s t mk df jo tr di (sgM th ln by9 dn ac bd pm pq tk fo f1 f2 xtp xwg xwh xmd xsl xhw xhs xhd xha xp1 xp2 xp3 xl1 xl2 xrt xlf xdc xhn xsu) dy) (some (vi tk)) (Hp b s t mk df jo tr di (sgM 0 ln by9 dn ac bd pm pq tk fo f1 f2 xtp xwg xwh xmd xsl xhw xhs xhd xha xp1 xp2 xp3 xl1 xl2 xrt xlf xdc xhn xsu) dy) := by
  refine am_det (by decide +kernel) (Nat.le_of_ble_eq_true rfl) (fun Qr Qt hq => ?_)
  refine aw_blk (pc' := 2) (ls' := [some (vr 8 0)]) (st' := [vi 0, vr 8 0]) [.inl (.aload_n 0), .inl (.iconst 0)] 0 _ _ (by decide +kernel) rfl ?_
  refine aw_put (idx := 79) (ci := 8) (k := 0) (h' := Hp b s t mk df jo tr di [some (ob 8 [vi 0, vr 8 1, vi ln, vr 8 2, vr 8 3, vr 8 4, vi by9, vr 8 5, vr 8 6, vr 8 7, vr 8 8, vr 8 9, vi dn, vi ac, vi bd, vr 8 10, vr 8 11, vr 8 12, vr 8 13, vr 8 14, vi pm, vl pq, vr 8 15, vr 8 16, vi tk, vr 8 17, vr 8 18, vr 8 19, vi fo, vi f1, vi f2]), some (ar 2 200 xtp), some (ar 0 32016 xwg), some (ar 0 16 xwh), some (ar 1 2001 xmd), some (ar 0 30 xsl), some (ar 0 30 xhw), some (ar 0 30 xhs), some (ar 0 60030 xhd), some (ar 0 60030 xha), some (ar 0 600 xp1), some (ar 0 600 xp2), some (ar 1 600 xp3), some (ar 1 2001 xl1), some (ar 1 2001 xl2), some (ar 1 2001 xrt), some (ar 3 2001 xlf), some (ar 0 3600 xdc), some (ar 0 12 xhn), some (ar 0 4005 xsu)] dy) (by decide +kernel) (by decide +kernel) rfl (Nat.le_of_ble_eq_true rfl) (show I32 _ from by omega) rfl ?_
  refine aw_blk (pc' := 9) (ls' := [some (vr 8 0)]) (st' := [vi tk]) [.inl (.aload_n 0), .inr (192, 8, 24)] 5 _ _ (by decide +kernel) rfl ?_
  exact aw_iret (by decide +kernel) rfl (by decide) (by decide) (hq _ _ rfl rfl)

theorem m_M_value_0 (hi : I32 a ∧ I32 d) (hl : ¬ (isLw xwh a ∧ 0 ≤ d)) : ADet G M_M_value [vr 8 0, vi a, vi d] (Hp b s t mk df jo tr di (sgM th ln by9 dn ac bd pm pq tk fo f1 f2 xtp xwg xwh xmd xsl xhw xhs xhd xha xp1 xp2 xp3 xl1 xl2 xrt xlf xdc xhn xsu) dy) (some (vi 0)) (Hp b s t mk df jo tr di (sgM 1 ln by9 dn ac bd pm pq tk fo f1 f2 xtp xwg xwh xmd xsl xhw xhs xhd xha xp1 xp2 xp3 xl1 xl2 xrt xlf xdc xhn xsu) dy) := by
  refine am_det (by decide +kernel) (Nat.le_of_ble_eq_true rfl) (fun Qr Qt hq => ?_)
  refine aw_blk (pc' := 12) (ls' := [some (vr 8 0), some (vi a), some (vi d), some (vi d), some (vi (-1000))]) (st' := [vi 1000, vi (-1000)]) [.inl (.iload_n 2), .inl (.istore_n 3), .inl (.sipush (-1000)), .inl (.istore 4), .inl (.iload 4), .inl (.sipush 1000)] 0 _ _ (by decide +kernel) rfl ?_
  refine aw_icmp_gt (o := 49) (tgt := 61) (by decide +kernel) (by decide) (by omega) (by omega) (fun c => absurd c (by omega)) (fun _ => ?_)
  refine aw_blk (pc' := 17) (ls' := [some (vr 8 0), some (vi a), some (vi d), some (vi d), some (vi (-1000))]) (st' := [vi a, vr 8 0]) [.inl (.aload_n 0), .inl (.iload_n 1)] 15 _ _ (by decide +kernel) rfl ?_
  by_cases hl1 : isLw xwh a
  · refine aw_dV (cs' := 0) (sl' := 0) (pc' := 20) (st' := [vi 1]) (idx := 133) (as := [vi a]) (st := []) (m_M_isLaw_1 hl1) (by decide +kernel) (show vOK "ChanceBenchModel" 133 M_M_isLaw 1 = true by decide +kernel) rfl rfl rfl (Nat.le_of_ble_eq_true rfl) (by decide) (by decide) (by decide) rfl rfl rfl rfl ?_
    refine aw_if_eq (o := 41) (tgt := 61) (by decide +kernel) (by decide) (by omega) (fun c => absurd c (by omega)) (fun _ => ?_)
    refine aw_blk (pc' := 24) (ls' := [some (vr 8 0), some (vi a), some (vi d), some (vi d), some (vi (-1000))]) (st' := [vi d]) [.inl (.iload_n 2)] 23 _ _ (by decide +kernel) rfl ?_
    refine aw_if_lt (o := 37) (tgt := 61) (by decide +kernel) (by decide) (by omega) (fun _ => ?_) (fun c => absurd (by rcases Int.lt_or_le d 0 with z | z; exact z; exact absurd ⟨hl1, z⟩ hl) c)
    refine aw_blk (pc' := 63) (ls' := [some (vr 8 0), some (vi a), some (vi d), some (vi d), some (vi (-1000))]) (st' := [vi 1, vr 8 0]) [.inl (.aload_n 0), .inl (.iconst 1)] 61 _ _ (by decide +kernel) rfl ?_
    refine aw_put (idx := 79) (ci := 8) (k := 0) (h' := Hp b s t mk df jo tr di [some (ob 8 [vi 1, vr 8 1, vi ln, vr 8 2, vr 8 3, vr 8 4, vi by9, vr 8 5, vr 8 6, vr 8 7, vr 8 8, vr 8 9, vi dn, vi ac, vi bd, vr 8 10, vr 8 11, vr 8 12, vr 8 13, vr 8 14, vi pm, vl pq, vr 8 15, vr 8 16, vi tk, vr 8 17, vr 8 18, vr 8 19, vi fo, vi f1, vi f2]), some (ar 2 200 xtp), some (ar 0 32016 xwg), some (ar 0 16 xwh), some (ar 1 2001 xmd), some (ar 0 30 xsl), some (ar 0 30 xhw), some (ar 0 30 xhs), some (ar 0 60030 xhd), some (ar 0 60030 xha), some (ar 0 600 xp1), some (ar 0 600 xp2), some (ar 1 600 xp3), some (ar 1 2001 xl1), some (ar 1 2001 xl2), some (ar 1 2001 xrt), some (ar 3 2001 xlf), some (ar 0 3600 xdc), some (ar 0 12 xhn), some (ar 0 4005 xsu)] dy) (by decide +kernel) (by decide +kernel) rfl (Nat.le_of_ble_eq_true rfl) (show I32 _ from by omega) rfl ?_
    refine aw_blk (pc' := 67) (ls' := [some (vr 8 0), some (vi a), some (vi d), some (vi d), some (vi (-1000))]) (st' := [vi 0]) [.inl (.iconst 0)] 66 _ _ (by decide +kernel) rfl ?_
    exact aw_iret (by decide +kernel) rfl (by decide) (by decide) (hq _ _ rfl rfl)
  · refine aw_dV (cs' := 0) (sl' := 0) (pc' := 20) (st' := [vi 0]) (idx := 133) (as := [vi a]) (st := []) (m_M_isLaw_0 hi.1 hl1) (by decide +kernel) (show vOK "ChanceBenchModel" 133 M_M_isLaw 1 = true by decide +kernel) rfl rfl rfl (Nat.le_of_ble_eq_true rfl) (by decide) (by decide) (by decide) rfl rfl rfl rfl ?_
    refine aw_if_eq (o := 41) (tgt := 61) (by decide +kernel) (by decide) (by omega) (fun _ => ?_) (fun c => absurd (by omega) c)
    refine aw_blk (pc' := 63) (ls' := [some (vr 8 0), some (vi a), some (vi d), some (vi d), some (vi (-1000))]) (st' := [vi 1, vr 8 0]) [.inl (.aload_n 0), .inl (.iconst 1)] 61 _ _ (by decide +kernel) rfl ?_
    refine aw_put (idx := 79) (ci := 8) (k := 0) (h' := Hp b s t mk df jo tr di [some (ob 8 [vi 1, vr 8 1, vi ln, vr 8 2, vr 8 3, vr 8 4, vi by9, vr 8 5, vr 8 6, vr 8 7, vr 8 8, vr 8 9, vi dn, vi ac, vi bd, vr 8 10, vr 8 11, vr 8 12, vr 8 13, vr 8 14, vi pm, vl pq, vr 8 15, vr 8 16, vi tk, vr 8 17, vr 8 18, vr 8 19, vi fo, vi f1, vi f2]), some (ar 2 200 xtp), some (ar 0 32016 xwg), some (ar 0 16 xwh), some (ar 1 2001 xmd), some (ar 0 30 xsl), some (ar 0 30 xhw), some (ar 0 30 xhs), some (ar 0 60030 xhd), some (ar 0 60030 xha), some (ar 0 600 xp1), some (ar 0 600 xp2), some (ar 1 600 xp3), some (ar 1 2001 xl1), some (ar 1 2001 xl2), some (ar 1 2001 xrt), some (ar 3 2001 xlf), some (ar 0 3600 xdc), some (ar 0 12 xhn), some (ar 0 4005 xsu)] dy) (by decide +kernel) (by decide +kernel) rfl (Nat.le_of_ble_eq_true rfl) (show I32 _ from by omega) rfl ?_
    refine aw_blk (pc' := 67) (ls' := [some (vr 8 0), some (vi a), some (vi d), some (vi d), some (vi (-1000))]) (st' := [vi 0]) [.inl (.iconst 0)] 66 _ _ (by decide +kernel) rfl ?_
    exact aw_iret (by decide +kernel) rfl (by decide) (by decide) (hq _ _ rfl rfl)

theorem l_M_vl {Qr : Option AV → HT → Prop} {Qt : HT → Prop} (hl : isLw xwh (q : Int)) (hTq : ∀ v, 0 ≤ Tm xwg q v ∧ Tm xwg q v ≤ 1048576) (hd : 0 ≤ d ∧ d ≤ 2147483647) : ∀ (y i : Nat) (l : Int), i + y = 2001 → (-2147483648 + (y : Int) ≤ l ∧ l ≤ 2147483647) → (∀ v, vlT (Tm xwg q) y i l = some v → Qr (some (vi v)) (Hp b s t mk df jo tr di (sgM 0 ln by9 dn ac bd pm pq tk fo f1 f2 xtp xwg xwh xmd xsl xhw xhs xhd xha xp1 xp2 xp3 xl1 xl2 xrt xlf xdc xhn xsu) dy)) → (vlT (Tm xwg q) y i l = none → Qr (some (vi 0)) (Hp b s t mk df jo tr di (sgM 1 ln by9 dn ac bd pm pq tk fo f1 f2 xtp xwg xwh xmd xsl xhw xhs xhd xha xp1 xp2 xp3 xl1 xl2 xrt xlf xdc xhn xsu) dy)) → AW G M_M_value Qr Qt 0 0 7 [some (vr 8 0), some (vi (q : Int)), some (vi d), some (vi l), some (vi (idv i))] [] (Hp b s t mk df jo tr di (sgM th ln by9 dn ac bd pm pq tk fo f1 f2 xtp xwg xwh xmd xsl xhw xhs xhd xha xp1 xp2 xp3 xl1 xl2 xrt xlf xdc xhn xsu) dy) := by
  intro y
  induction y with
  | zero =>
    intro i l he hl2 hq1 hq0
    have hiv : idv i = (i : Int) - 1000 := rfl
    refine aw_blk (pc' := 12) (ls' := [some (vr 8 0), some (vi (q : Int)), some (vi d), some (vi l), some (vi (idv i))]) (st' := [vi 1000, vi (idv i)]) [.inl (.iload 4), .inl (.sipush 1000)] 7 _ _ (by decide +kernel) rfl ?_
    refine aw_icmp_gt (o := 49) (tgt := 61) (by decide +kernel) (by decide) (by omega) (by omega) (fun _ => ?_) (fun c => absurd (by omega) c)
    refine aw_blk (pc' := 63) (ls' := [some (vr 8 0), some (vi (q : Int)), some (vi d), some (vi l), some (vi (idv i))]) (st' := [vi 1, vr 8 0]) [.inl (.aload_n 0), .inl (.iconst 1)] 61 _ _ (by decide +kernel) rfl ?_
    refine aw_put (idx := 79) (ci := 8) (k := 0) (h' := Hp b s t mk df jo tr di [some (ob 8 [vi 1, vr 8 1, vi ln, vr 8 2, vr 8 3, vr 8 4, vi by9, vr 8 5, vr 8 6, vr 8 7, vr 8 8, vr 8 9, vi dn, vi ac, vi bd, vr 8 10, vr 8 11, vr 8 12, vr 8 13, vr 8 14, vi pm, vl pq, vr 8 15, vr 8 16, vi tk, vr 8 17, vr 8 18, vr 8 19, vi fo, vi f1, vi f2]), some (ar 2 200 xtp), some (ar 0 32016 xwg), some (ar 0 16 xwh), some (ar 1 2001 xmd), some (ar 0 30 xsl), some (ar 0 30 xhw), some (ar 0 30 xhs), some (ar 0 60030 xhd), some (ar 0 60030 xha), some (ar 0 600 xp1), some (ar 0 600 xp2), some (ar 1 600 xp3), some (ar 1 2001 xl1), some (ar 1 2001 xl2), some (ar 1 2001 xrt), some (ar 3 2001 xlf), some (ar 0 3600 xdc), some (ar 0 12 xhn), some (ar 0 4005 xsu)] dy) (by decide +kernel) (by decide +kernel) rfl (Nat.le_of_ble_eq_true rfl) (show I32 _ from by omega) rfl ?_
    refine aw_blk (pc' := 67) (ls' := [some (vr 8 0), some (vi (q : Int)), some (vi d), some (vi l), some (vi (idv i))]) (st' := [vi 0]) [.inl (.iconst 0)] 66 _ _ (by decide +kernel) rfl ?_
    exact aw_iret (by decide +kernel) rfl (by decide) (by decide) (hq0 rfl)
  | succ y ih =>
    intro i l he hl2 hq1 hq0
    have hiv : idv i = (i : Int) - 1000 := rfl
    have hnx : idv i + 1 = idv (i + 1) := by unfold idv; omega
    have htq := hTq (idv i)
    have hj := hl.1
    refine aw_blk (pc' := 12) (ls' := [some (vr 8 0), some (vi (q : Int)), some (vi d), some (vi l), some (vi (idv i))]) (st' := [vi 1000, vi (idv i)]) [.inl (.iload 4), .inl (.sipush 1000)] 7 _ _ (by decide +kernel) rfl ?_
    refine aw_icmp_gt (o := 49) (tgt := 61) (by decide +kernel) (by decide) (by omega) (by omega) (fun c => absurd c (by omega)) (fun _ => ?_)
    refine aw_blk (pc' := 17) (ls' := [some (vr 8 0), some (vi (q : Int)), some (vi d), some (vi l), some (vi (idv i))]) (st' := [vi (q : Int), vr 8 0]) [.inl (.aload_n 0), .inl (.iload_n 1)] 15 _ _ (by decide +kernel) rfl ?_
    refine aw_dV (cs' := 0) (sl' := 0) (pc' := 20) (st' := [vi 1]) (idx := 133) (as := [vi (q : Int)]) (st := []) (m_M_isLaw_1 hl) (by decide +kernel) (show vOK "ChanceBenchModel" 133 M_M_isLaw 1 = true by decide +kernel) rfl rfl rfl (Nat.le_of_ble_eq_true rfl) (by decide) (by decide) (by decide) rfl rfl rfl rfl ?_
    refine aw_if_eq (o := 41) (tgt := 61) (by decide +kernel) (by decide) (by omega) (fun c => absurd c (by omega)) (fun _ => ?_)
    refine aw_blk (pc' := 24) (ls' := [some (vr 8 0), some (vi (q : Int)), some (vi d), some (vi l), some (vi (idv i))]) (st' := [vi d]) [.inl (.iload_n 2)] 23 _ _ (by decide +kernel) rfl ?_
    refine aw_if_lt (o := 37) (tgt := 61) (by decide +kernel) (by decide) (by omega) (fun c => absurd c (by omega)) (fun _ => ?_)
    refine aw_blk (pc' := 31) (ls' := [some (vr 8 0), some (vi (q : Int)), some (vi d), some (vi l), some (vi (idv i))]) (st' := [vi (idv i), vi (q : Int), vr 8 0]) [.inl (.aload_n 0), .inl (.iload_n 1), .inl (.iload 4)] 27 _ _ (by decide +kernel) rfl ?_
    refine aw_dV (cs' := 0) (sl' := 0) (pc' := 34) (st' := [vi (Tm xwg q (idv i))]) (idx := 136) (as := [vi (q : Int), vi (idv i)]) (st := []) (m_M_at (by omega) (by omega)) (by decide +kernel) (show vOK "ChanceBenchModel" 136 M_M_at 2 = true by decide +kernel) rfl rfl rfl (Nat.le_of_ble_eq_true rfl) (by decide) (by decide) (by decide) rfl rfl rfl rfl ?_
    refine aw_if_ne (o := 6) (tgt := 40) (by decide +kernel) (by decide) (by omega) (fun c34 => ?_) (fun c34 => ?_)
    · refine aw_blk (pc' := 41) (ls' := [some (vr 8 0), some (vi (q : Int)), some (vi d), some (vi l), some (vi (idv i))]) (st' := [vi l]) [.inl (.iload_n 3)] 40 _ _ (by decide +kernel) rfl ?_
      refine aw_if_ne (o := 11) (tgt := 52) (by decide +kernel) (by decide) (by omega) (fun c41 => ?_) (fun c41 => ?_)
      · refine aw_blk (pc' := 58) (ls' := [some (vr 8 0), some (vi (q : Int)), some (vi d), some (vi (l + (-1))), some (vi ((idv i) + 1))]) (st' := []) [.inl (.iinc 3 (-1)), .inl (.iinc 4 1)] 52 _ _ (by decide +kernel) rfl ?_
        refine aw_goto (o := -51) (tgt := 7) (by decide +kernel) (by decide) ?_
        rw [hnx]
        exact ih (i + 1) (l + -1) (by omega) (by omega) (fun v e => hq1 v (by rw [vlT, if_neg c34, if_neg c41]; exact e)) (fun e => hq0 (by rw [vlT, if_neg c34, if_neg c41]; exact e))
      · refine aw_blk (pc' := 46) (ls' := [some (vr 8 0), some (vi (q : Int)), some (vi d), some (vi l), some (vi (idv i))]) (st' := [vi 0, vr 8 0]) [.inl (.aload_n 0), .inl (.iconst 0)] 44 _ _ (by decide +kernel) rfl ?_
        refine aw_put (idx := 79) (ci := 8) (k := 0) (h' := Hp b s t mk df jo tr di [some (ob 8 [vi 0, vr 8 1, vi ln, vr 8 2, vr 8 3, vr 8 4, vi by9, vr 8 5, vr 8 6, vr 8 7, vr 8 8, vr 8 9, vi dn, vi ac, vi bd, vr 8 10, vr 8 11, vr 8 12, vr 8 13, vr 8 14, vi pm, vl pq, vr 8 15, vr 8 16, vi tk, vr 8 17, vr 8 18, vr 8 19, vi fo, vi f1, vi f2]), some (ar 2 200 xtp), some (ar 0 32016 xwg), some (ar 0 16 xwh), some (ar 1 2001 xmd), some (ar 0 30 xsl), some (ar 0 30 xhw), some (ar 0 30 xhs), some (ar 0 60030 xhd), some (ar 0 60030 xha), some (ar 0 600 xp1), some (ar 0 600 xp2), some (ar 1 600 xp3), some (ar 1 2001 xl1), some (ar 1 2001 xl2), some (ar 1 2001 xrt), some (ar 3 2001 xlf), some (ar 0 3600 xdc), some (ar 0 12 xhn), some (ar 0 4005 xsu)] dy) (by decide +kernel) (by decide +kernel) rfl (Nat.le_of_ble_eq_true rfl) (show I32 _ from by omega) rfl ?_
        refine aw_blk (pc' := 51) (ls' := [some (vr 8 0), some (vi (q : Int)), some (vi d), some (vi l), some (vi (idv i))]) (st' := [vi (idv i)]) [.inl (.iload 4)] 49 _ _ (by decide +kernel) rfl ?_
        exact aw_iret (by decide +kernel) rfl (by decide) (by decide) (hq1 _ (by rw [vlT, if_neg c34, if_pos c41]))
    · refine aw_goto (o := 18) (tgt := 55) (by decide +kernel) (by decide) ?_
      refine aw_blk (pc' := 58) (ls' := [some (vr 8 0), some (vi (q : Int)), some (vi d), some (vi l), some (vi ((idv i) + 1))]) (st' := []) [.inl (.iinc 4 1)] 55 _ _ (by decide +kernel) rfl ?_
      refine aw_goto (o := -51) (tgt := 7) (by decide +kernel) (by decide) ?_
      rw [hnx]
      exact ih (i + 1) l (by omega) (by omega) (fun v e => hq1 v (by rw [vlT, if_pos c34]; exact e)) (fun e => hq0 (by rw [vlT, if_pos c34]; exact e))
theorem m_M_value (hl : isLw xwh (q : Int)) (hTq : ∀ v, 0 ≤ Tm xwg q v ∧ Tm xwg q v ≤ 1048576) (hd : 0 ≤ d ∧ d ≤ 2147483647) : AMet G M_M_value [vr 8 0, vi (q : Int), vi d] (Hp b s t mk df jo tr di (sgM th ln by9 dn ac bd pm pq tk fo f1 f2 xtp xwg xwh xmd xsl xhw xhs xhd xha xp1 xp2 xp3 xl1 xl2 xrt xlf xdc xhn xsu) dy) (fun r h => (∃ v, vlT (Tm xwg q) 2001 0 d = some v ∧ r = some (vi v) ∧ h = Hp b s t mk df jo tr di (sgM 0 ln by9 dn ac bd pm pq tk fo f1 f2 xtp xwg xwh xmd xsl xhw xhs xhd xha xp1 xp2 xp3 xl1 xl2 xrt xlf xdc xhn xsu) dy) ∨ (vlT (Tm xwg q) 2001 0 d = none ∧ r = some (vi 0) ∧ h = Hp b s t mk df jo tr di (sgM 1 ln by9 dn ac bd pm pq tk fo f1 f2 xtp xwg xwh xmd xsl xhw xhs xhd xha xp1 xp2 xp3 xl1 xl2 xrt xlf xdc xhn xsu) dy)) (fun _ => False) := by
  refine am_rel (by decide +kernel) (Nat.le_of_ble_eq_true rfl) (fun Qr Qt hq => ?_)
  refine aw_blk (pc' := 7) (ls' := [some (vr 8 0), some (vi (q : Int)), some (vi d), some (vi d), some (vi (-1000))]) (st' := []) [.inl (.iload_n 2), .inl (.istore_n 3), .inl (.sipush (-1000)), .inl (.istore 4)] 0 _ _ (by decide +kernel) rfl ?_
  exact l_M_vl hl hTq hd 2001 0 d rfl (by omega) (fun v e => hq _ _ (Or.inl ⟨v, e, rfl, rfl⟩)) (fun e => hq _ _ (Or.inr ⟨e, rfl, rfl⟩))

theorem m_M_chance (hl : isLw xwh (q : Int)) (hTq : ∀ v, 0 ≤ Tm xwg q v ∧ Tm xwg q v ≤ 1048576) (hw : 1 ≤ xwh q ∧ xwh q ≤ 1048576) (hd : d = 0 ∨ d = 1) (hc : I32 c) (hJ : J64 (Tm xwg q c)) : ADet G M_M_chance [vr 8 0, vi (q : Int), vi c, vi d] (Hp b s t mk df jo tr di (sgM th ln by9 dn ac bd pm pq tk fo f1 f2 xtp xwg xwh xmd xsl xhw xhs xhd xha xp1 xp2 xp3 xl1 xl2 xrt xlf xdc xhn xsu) dy) (some (vl (prt (Tm xwg q c) (xwh q) d))) (Hp b s t mk df jo tr di (sgM 0 ln by9 dn ac bd pm pq tk fo f1 f2 xtp xwg xwh xmd xsl xhw xhs xhd xha xp1 xp2 xp3 xl1 xl2 xrt xlf xdc xhn xsu) dy) := by
  refine am_det (by decide +kernel) (Nat.le_of_ble_eq_true rfl) (fun Qr Qt hq => ?_)
  have hj := hl.1
  refine aw_blk (pc' := 3) (ls' := [some (vr 8 0), some (vi (q : Int)), some (vi c), some (vi d)]) (st' := [vi d, vi (q : Int), vr 8 0]) [.inl (.aload_n 0), .inl (.iload_n 1), .inl (.iload_n 3)] 0 _ _ (by decide +kernel) rfl ?_
  refine aw_dV (cs' := 0) (sl' := 0) (pc' := 6) (st' := [vi 0]) (idx := 144) (as := [vi (q : Int), vi d]) (st := []) (m_M_no_1 hl hd) (by decide +kernel) (show vOK "ChanceBenchModel" 144 M_M_no 2 = true by decide +kernel) rfl rfl rfl (Nat.le_of_ble_eq_true rfl) (by decide) (by decide) (by decide) rfl rfl rfl rfl ?_
  refine aw_if_eq (o := 7) (tgt := 13) (by decide +kernel) (by decide) (by omega) (fun _ => ?_) (fun c => absurd (by omega) c)
  refine aw_blk (pc' := 16) (ls' := [some (vr 8 0), some (vi (q : Int)), some (vi c), some (vi d)]) (st' := [vi c, vi (q : Int), vr 8 0]) [.inl (.aload_n 0), .inl (.iload_n 1), .inl (.iload_n 2)] 13 _ _ (by decide +kernel) rfl ?_
  refine aw_dV (cs' := 0) (sl' := 0) (pc' := 19) (st' := [vi (Tm xwg q c)]) (idx := 136) (as := [vi (q : Int), vi c]) (st := []) (m_M_at (by omega) hc) (by decide +kernel) (show vOK "ChanceBenchModel" 136 M_M_at 2 = true by decide +kernel) rfl rfl rfl (Nat.le_of_ble_eq_true rfl) (by decide) (by decide) (by decide) rfl rfl rfl rfl ?_
  have htq := hTq c
  refine aw_i2l (by decide +kernel) (by omega) ?_
  refine aw_blk (pc' := 25) (ls' := [some (vr 8 0), some (vi (q : Int)), some (vi c), some (vi d)]) (st' := [vi (q : Int), vr 8 3, vl (Tm xwg q c)]) [.inl (.aload_n 0), .inr (17, 8, 4), .inl (.iload_n 1)] 20 _ _ (by decide +kernel) rfl ?_
  refine aw_iald (j := q) (by decide +kernel) rfl (by omega) (by omega) (fun r25 => ?_)
  refine aw_i2l (by decide +kernel) (by omega) ?_
  refine aw_blk (pc' := 28) (ls' := [some (vr 8 0), some (vi (q : Int)), some (vi c), some (vi d)]) (st' := [vi d, vl (xwh q), vl (Tm xwg q c)]) [.inl (.iload_n 3)] 27 _ _ (by decide +kernel) rfl ?_
  refine aw_dS (cs' := 0) (sl' := 0) (pc' := 31) (st' := [vl (prt (Tm xwg q c) (xwh q) d)]) (idx := 148) (as := [vl (Tm xwg q c), vl (xwh q), vi d]) (st := []) (m_M_part hJ (by omega) (by omega)) (by decide +kernel) (show sOK "ChanceBenchModel" 148 M_M_part 3 = true by decide +kernel) rfl (Nat.le_of_ble_eq_true rfl) (by decide) (by decide) (by decide) rfl rfl rfl rfl ?_
  exact aw_lret (by decide +kernel) rfl (by decide) (by decide) (hq _ _ rfl rfl)

theorem m_M_chance_0 (hi : I32 a ∧ I32 d) (hl : ¬ (isLw xwh a ∧ (d = 0 ∨ d = 1))) : ADet G M_M_chance [vr 8 0, vi a, vi c, vi d] (Hp b s t mk df jo tr di (sgM th ln by9 dn ac bd pm pq tk fo f1 f2 xtp xwg xwh xmd xsl xhw xhs xhd xha xp1 xp2 xp3 xl1 xl2 xrt xlf xdc xhn xsu) dy) (some (vl 0)) (Hp b s t mk df jo tr di (sgM 1 ln by9 dn ac bd pm pq tk fo f1 f2 xtp xwg xwh xmd xsl xhw xhs xhd xha xp1 xp2 xp3 xl1 xl2 xrt xlf xdc xhn xsu) dy) := by
  refine am_det (by decide +kernel) (Nat.le_of_ble_eq_true rfl) (fun Qr Qt hq => ?_)
  refine aw_blk (pc' := 3) (ls' := [some (vr 8 0), some (vi a), some (vi c), some (vi d)]) (st' := [vi d, vi a, vr 8 0]) [.inl (.aload_n 0), .inl (.iload_n 1), .inl (.iload_n 3)] 0 _ _ (by decide +kernel) rfl ?_
  refine aw_dV (cs' := 0) (sl' := 0) (pc' := 6) (st' := [vi 1]) (idx := 144) (as := [vi a, vi d]) (st := []) (m_M_no_0 hi hl) (by decide +kernel) (show vOK "ChanceBenchModel" 144 M_M_no 2 = true by decide +kernel) rfl rfl rfl (Nat.le_of_ble_eq_true rfl) (by decide) (by decide) (by decide) rfl rfl rfl rfl ?_
  refine aw_if_eq (o := 7) (tgt := 13) (by decide +kernel) (by decide) (by omega) (fun c => absurd c (by omega)) (fun _ => ?_)
  refine aw_blk (pc' := 10) (ls' := [some (vr 8 0), some (vi a), some (vi c), some (vi d)]) (st' := [vl 0]) [.inl (.lconst 0)] 9 _ _ (by decide +kernel) rfl ?_
  refine aw_goto (o := 21) (tgt := 31) (by decide +kernel) (by decide) ?_
  exact aw_lret (by decide +kernel) rfl (by decide) (by decide) (hq _ _ rfl rfl)

theorem m_M_below (hl : isLw xwh (q : Int)) (hTq : ∀ v, 0 ≤ Tm xwg q v ∧ Tm xwg q v ≤ 1048576) (hw : 1 ≤ xwh q ∧ xwh q ≤ 1048576) (hd : d = 0 ∨ d = 1) (hc : I32 c) (hJ : J64 (cum (Tm xwg q) c)) : ADet G M_M_below [vr 8 0, vi (q : Int), vi c, vi d] (Hp b s t mk df jo tr di (sgM th ln by9 dn ac bd pm pq tk fo f1 f2 xtp xwg xwh xmd xsl xhw xhs xhd xha xp1 xp2 xp3 xl1 xl2 xrt xlf xdc xhn xsu) dy) (some (vl (prt (cum (Tm xwg q) c) (xwh q) d))) (Hp b s t mk df jo tr di (sgM 0 ln by9 dn ac bd pm pq tk fo f1 f2 xtp xwg xwh xmd xsl xhw xhs xhd xha xp1 xp2 xp3 xl1 xl2 xrt xlf xdc xhn xsu) dy) := by
  refine am_det (by decide +kernel) (Nat.le_of_ble_eq_true rfl) (fun Qr Qt hq => ?_)
  have hj := hl.1
  refine aw_blk (pc' := 3) (ls' := [some (vr 8 0), some (vi (q : Int)), some (vi c), some (vi d)]) (st' := [vi d, vi (q : Int), vr 8 0]) [.inl (.aload_n 0), .inl (.iload_n 1), .inl (.iload_n 3)] 0 _ _ (by decide +kernel) rfl ?_
  refine aw_dV (cs' := 0) (sl' := 0) (pc' := 6) (st' := [vi 0]) (idx := 144) (as := [vi (q : Int), vi d]) (st := []) (m_M_no_1 hl hd) (by decide +kernel) (show vOK "ChanceBenchModel" 144 M_M_no 2 = true by decide +kernel) rfl rfl rfl (Nat.le_of_ble_eq_true rfl) (by decide) (by decide) (by decide) rfl rfl rfl rfl ?_
  refine aw_if_eq (o := 7) (tgt := 13) (by decide +kernel) (by decide) (by omega) (fun _ => ?_) (fun c => absurd (by omega) c)
  refine aw_blk (pc' := 16) (ls' := [some (vr 8 0), some (vi (q : Int)), some (vi c), some (vi d)]) (st' := [vi c, vi (q : Int), vr 8 0]) [.inl (.aload_n 0), .inl (.iload_n 1), .inl (.iload_n 2)] 13 _ _ (by decide +kernel) rfl ?_
  refine aw_dV (cs' := 0) (sl' := 0) (pc' := 19) (st' := [vl (cum (Tm xwg q) c)]) (idx := 152) (as := [vi (q : Int), vi c]) (st := []) (m_M_upTo (by omega) hTq hc) (by decide +kernel) (show vOK "ChanceBenchModel" 152 M_M_upTo 2 = true by decide +kernel) rfl rfl rfl (Nat.le_of_ble_eq_true rfl) (by decide) (by decide) (by decide) rfl rfl rfl rfl ?_
  refine aw_blk (pc' := 24) (ls' := [some (vr 8 0), some (vi (q : Int)), some (vi c), some (vi d)]) (st' := [vi (q : Int), vr 8 3, vl (cum (Tm xwg q) c)]) [.inl (.aload_n 0), .inr (17, 8, 4), .inl (.iload_n 1)] 19 _ _ (by decide +kernel) rfl ?_
  refine aw_iald (j := q) (by decide +kernel) rfl (by omega) (by omega) (fun r24 => ?_)
  refine aw_i2l (by decide +kernel) (by omega) ?_
  refine aw_blk (pc' := 27) (ls' := [some (vr 8 0), some (vi (q : Int)), some (vi c), some (vi d)]) (st' := [vi d, vl (xwh q), vl (cum (Tm xwg q) c)]) [.inl (.iload_n 3)] 26 _ _ (by decide +kernel) rfl ?_
  refine aw_dS (cs' := 0) (sl' := 0) (pc' := 30) (st' := [vl (prt (cum (Tm xwg q) c) (xwh q) d)]) (idx := 148) (as := [vl (cum (Tm xwg q) c), vl (xwh q), vi d]) (st := []) (m_M_part hJ (by omega) (by omega)) (by decide +kernel) (show sOK "ChanceBenchModel" 148 M_M_part 3 = true by decide +kernel) rfl (Nat.le_of_ble_eq_true rfl) (by decide) (by decide) (by decide) rfl rfl rfl rfl ?_
  exact aw_lret (by decide +kernel) rfl (by decide) (by decide) (hq _ _ rfl rfl)

theorem m_M_below_0 (hi : I32 a ∧ I32 d) (hl : ¬ (isLw xwh a ∧ (d = 0 ∨ d = 1))) : ADet G M_M_below [vr 8 0, vi a, vi c, vi d] (Hp b s t mk df jo tr di (sgM th ln by9 dn ac bd pm pq tk fo f1 f2 xtp xwg xwh xmd xsl xhw xhs xhd xha xp1 xp2 xp3 xl1 xl2 xrt xlf xdc xhn xsu) dy) (some (vl 0)) (Hp b s t mk df jo tr di (sgM 1 ln by9 dn ac bd pm pq tk fo f1 f2 xtp xwg xwh xmd xsl xhw xhs xhd xha xp1 xp2 xp3 xl1 xl2 xrt xlf xdc xhn xsu) dy) := by
  refine am_det (by decide +kernel) (Nat.le_of_ble_eq_true rfl) (fun Qr Qt hq => ?_)
  refine aw_blk (pc' := 3) (ls' := [some (vr 8 0), some (vi a), some (vi c), some (vi d)]) (st' := [vi d, vi a, vr 8 0]) [.inl (.aload_n 0), .inl (.iload_n 1), .inl (.iload_n 3)] 0 _ _ (by decide +kernel) rfl ?_
  refine aw_dV (cs' := 0) (sl' := 0) (pc' := 6) (st' := [vi 1]) (idx := 144) (as := [vi a, vi d]) (st := []) (m_M_no_0 hi hl) (by decide +kernel) (show vOK "ChanceBenchModel" 144 M_M_no 2 = true by decide +kernel) rfl rfl rfl (Nat.le_of_ble_eq_true rfl) (by decide) (by decide) (by decide) rfl rfl rfl rfl ?_
  refine aw_if_eq (o := 7) (tgt := 13) (by decide +kernel) (by decide) (by omega) (fun c => absurd c (by omega)) (fun _ => ?_)
  refine aw_blk (pc' := 10) (ls' := [some (vr 8 0), some (vi a), some (vi c), some (vi d)]) (st' := [vl 0]) [.inl (.lconst 0)] 9 _ _ (by decide +kernel) rfl ?_
  refine aw_goto (o := 20) (tgt := 30) (by decide +kernel) (by decide) ?_
  exact aw_lret (by decide +kernel) rfl (by decide) (by decide) (hq _ _ rfl rfl)

theorem m_M_mean (hl : isLw xwh (q : Int)) (hTq : ∀ v, 0 ≤ Tm xwg q v ∧ Tm xwg q v ≤ 1048576) (hw : 1 ≤ xwh q ∧ xwh q ≤ 1048576) (hd : d = 0 ∨ d = 1)  (hJ : J64 (sT (fun u => u * Tm xwg q u))) : ADet G M_M_mean [vr 8 0, vi (q : Int), vi d] (Hp b s t mk df jo tr di (sgM th ln by9 dn ac bd pm pq tk fo f1 f2 xtp xwg xwh xmd xsl xhw xhs xhd xha xp1 xp2 xp3 xl1 xl2 xrt xlf xdc xhn xsu) dy) (some (vl (prt (sT (fun u => u * Tm xwg q u)) (xwh q) d))) (Hp b s t mk df jo tr di (sgM 0 ln by9 dn ac bd pm pq tk fo f1 f2 xtp xwg xwh xmd xsl xhw xhs xhd xha xp1 xp2 xp3 xl1 xl2 xrt xlf xdc xhn xsu) dy) := by
  refine am_det (by decide +kernel) (Nat.le_of_ble_eq_true rfl) (fun Qr Qt hq => ?_)
  have hj := hl.1
  refine aw_blk (pc' := 3) (ls' := [some (vr 8 0), some (vi (q : Int)), some (vi d)]) (st' := [vi d, vi (q : Int), vr 8 0]) [.inl (.aload_n 0), .inl (.iload_n 1), .inl (.iload_n 2)] 0 _ _ (by decide +kernel) rfl ?_
  refine aw_dV (cs' := 0) (sl' := 0) (pc' := 6) (st' := [vi 0]) (idx := 144) (as := [vi (q : Int), vi d]) (st := []) (m_M_no_1 hl hd) (by decide +kernel) (show vOK "ChanceBenchModel" 144 M_M_no 2 = true by decide +kernel) rfl rfl rfl (Nat.le_of_ble_eq_true rfl) (by decide) (by decide) (by decide) rfl rfl rfl rfl ?_
  refine aw_if_eq (o := 7) (tgt := 13) (by decide +kernel) (by decide) (by omega) (fun _ => ?_) (fun c => absurd (by omega) c)
  refine aw_blk (pc' := 15) (ls' := [some (vr 8 0), some (vi (q : Int)), some (vi d)]) (st' := [vi (q : Int), vr 8 0]) [.inl (.aload_n 0), .inl (.iload_n 1)] 13 _ _ (by decide +kernel) rfl ?_
  refine aw_dV (cs' := 0) (sl' := 0) (pc' := 18) (st' := [vl (sT (fun u => u * Tm xwg q u))]) (idx := 155) (as := [vi (q : Int)]) (st := []) (m_M_first (by omega) hTq) (by decide +kernel) (show vOK "ChanceBenchModel" 155 M_M_first 1 = true by decide +kernel) rfl rfl rfl (Nat.le_of_ble_eq_true rfl) (by decide) (by decide) (by decide) rfl rfl rfl rfl ?_
  refine aw_blk (pc' := 23) (ls' := [some (vr 8 0), some (vi (q : Int)), some (vi d)]) (st' := [vi (q : Int), vr 8 3, vl (sT (fun u => u * Tm xwg q u))]) [.inl (.aload_n 0), .inr (17, 8, 4), .inl (.iload_n 1)] 18 _ _ (by decide +kernel) rfl ?_
  refine aw_iald (j := q) (by decide +kernel) rfl (by omega) (by omega) (fun r23 => ?_)
  refine aw_i2l (by decide +kernel) (by omega) ?_
  refine aw_blk (pc' := 26) (ls' := [some (vr 8 0), some (vi (q : Int)), some (vi d)]) (st' := [vi d, vl (xwh q), vl (sT (fun u => u * Tm xwg q u))]) [.inl (.iload_n 2)] 25 _ _ (by decide +kernel) rfl ?_
  refine aw_dS (cs' := 0) (sl' := 0) (pc' := 29) (st' := [vl (prt (sT (fun u => u * Tm xwg q u)) (xwh q) d)]) (idx := 148) (as := [vl (sT (fun u => u * Tm xwg q u)), vl (xwh q), vi d]) (st := []) (m_M_part hJ (by omega) (by omega)) (by decide +kernel) (show sOK "ChanceBenchModel" 148 M_M_part 3 = true by decide +kernel) rfl (Nat.le_of_ble_eq_true rfl) (by decide) (by decide) (by decide) rfl rfl rfl rfl ?_
  exact aw_lret (by decide +kernel) rfl (by decide) (by decide) (hq _ _ rfl rfl)

theorem m_M_mean_0 (hi : I32 a ∧ I32 d) (hl : ¬ (isLw xwh a ∧ (d = 0 ∨ d = 1))) : ADet G M_M_mean [vr 8 0, vi a, vi d] (Hp b s t mk df jo tr di (sgM th ln by9 dn ac bd pm pq tk fo f1 f2 xtp xwg xwh xmd xsl xhw xhs xhd xha xp1 xp2 xp3 xl1 xl2 xrt xlf xdc xhn xsu) dy) (some (vl 0)) (Hp b s t mk df jo tr di (sgM 1 ln by9 dn ac bd pm pq tk fo f1 f2 xtp xwg xwh xmd xsl xhw xhs xhd xha xp1 xp2 xp3 xl1 xl2 xrt xlf xdc xhn xsu) dy) := by
  refine am_det (by decide +kernel) (Nat.le_of_ble_eq_true rfl) (fun Qr Qt hq => ?_)
  refine aw_blk (pc' := 3) (ls' := [some (vr 8 0), some (vi a), some (vi d)]) (st' := [vi d, vi a, vr 8 0]) [.inl (.aload_n 0), .inl (.iload_n 1), .inl (.iload_n 2)] 0 _ _ (by decide +kernel) rfl ?_
  refine aw_dV (cs' := 0) (sl' := 0) (pc' := 6) (st' := [vi 1]) (idx := 144) (as := [vi a, vi d]) (st := []) (m_M_no_0 hi hl) (by decide +kernel) (show vOK "ChanceBenchModel" 144 M_M_no 2 = true by decide +kernel) rfl rfl rfl (Nat.le_of_ble_eq_true rfl) (by decide) (by decide) (by decide) rfl rfl rfl rfl ?_
  refine aw_if_eq (o := 7) (tgt := 13) (by decide +kernel) (by decide) (by omega) (fun c => absurd c (by omega)) (fun _ => ?_)
  refine aw_blk (pc' := 10) (ls' := [some (vr 8 0), some (vi a), some (vi d)]) (st' := [vl 0]) [.inl (.lconst 0)] 9 _ _ (by decide +kernel) rfl ?_
  refine aw_goto (o := 19) (tgt := 29) (by decide +kernel) (by decide) ?_
  exact aw_lret (by decide +kernel) rfl (by decide) (by decide) (hq _ _ rfl rfl)

theorem m_M_variance (hl : isLw xwh (q : Int)) (hTq : ∀ v, 0 ≤ Tm xwg q v ∧ Tm xwg q v ≤ 1048576) (hw : 1 ≤ xwh q ∧ xwh q ≤ 1048576) (hd : d = 0 ∨ d = 1) (hJ : J64 (sT (fun u => u * u * Tm xwg q u) * xwh q - sT (fun u => u * Tm xwg q u) * sT (fun u => u * Tm xwg q u))) : ADet G M_M_variance [vr 8 0, vi (q : Int), vi d] (Hp b s t mk df jo tr di (sgM th ln by9 dn ac bd pm pq tk fo f1 f2 xtp xwg xwh xmd xsl xhw xhs xhd xha xp1 xp2 xp3 xl1 xl2 xrt xlf xdc xhn xsu) dy) (some (vl (prt (sT (fun u => u * u * Tm xwg q u) * xwh q - sT (fun u => u * Tm xwg q u) * sT (fun u => u * Tm xwg q u)) (xwh q * xwh q) d))) (Hp b s t mk df jo tr di (sgM 0 ln by9 dn ac bd pm pq tk fo f1 f2 xtp xwg xwh xmd xsl xhw xhs xhd xha xp1 xp2 xp3 xl1 xl2 xrt xlf xdc xhn xsu) dy) := by
  refine am_det (by decide +kernel) (Nat.le_of_ble_eq_true rfl) (fun Qr Qt hq => ?_)
  have hj := hl.1
  have hww := mulB (x := xwh q) (y := xwh q) (by omega) (by omega) (by omega) (by omega)
  have hw1 := Int.mul_le_mul hw.1 hw.1 (by omega) (by omega)
  refine aw_blk (pc' := 3) (ls' := [some (vr 8 0), some (vi (q : Int)), some (vi d), none, none, none, none]) (st' := [vi d, vi (q : Int), vr 8 0]) [.inl (.aload_n 0), .inl (.iload_n 1), .inl (.iload_n 2)] 0 _ _ (by decide +kernel) rfl ?_
  refine aw_dV (cs' := 0) (sl' := 0) (pc' := 6) (st' := [vi 0]) (idx := 144) (as := [vi (q : Int), vi d]) (st := []) (m_M_no_1 hl hd) (by decide +kernel) (show vOK "ChanceBenchModel" 144 M_M_no 2 = true by decide +kernel) rfl rfl rfl (Nat.le_of_ble_eq_true rfl) (by decide) (by decide) (by decide) rfl rfl rfl rfl ?_
  refine aw_if_eq (o := 5) (tgt := 11) (by decide +kernel) (by decide) (by omega) (fun _ => ?_) (fun c => absurd (by omega) c)
  refine aw_blk (pc' := 18) (ls' := [some (vr 8 0), some (vi (q : Int)), some (vi d), some (vl 0), none, some (vi (-1000)), none]) (st' := []) [.inl (.lconst 0), .inl (.lstore_n 3), .inl (.sipush (-1000)), .inl (.istore 5)] 11 _ _ (by decide +kernel) rfl ?_
  refine up_to (W := fun i : Nat => AW G M_M_variance Qr Qt 0 0 18 [some (vr 8 0), some (vi (q : Int)), some (vi d), some (vl (sumZ (fun k => idv k * idv k * Tm xwg q (idv k)) i)), none, some (vi (idv i)), none] [] (Hp b s t mk df jo tr di [some (ob 8 [vi 0, vr 8 1, vi ln, vr 8 2, vr 8 3, vr 8 4, vi by9, vr 8 5, vr 8 6, vr 8 7, vr 8 8, vr 8 9, vi dn, vi ac, vi bd, vr 8 10, vr 8 11, vr 8 12, vr 8 13, vr 8 14, vi pm, vl pq, vr 8 15, vr 8 16, vi tk, vr 8 17, vr 8 18, vr 8 19, vi fo, vi f1, vi f2]), some (ar 2 200 xtp), some (ar 0 32016 xwg), some (ar 0 16 xwh), some (ar 1 2001 xmd), some (ar 0 30 xsl), some (ar 0 30 xhw), some (ar 0 30 xhs), some (ar 0 60030 xhd), some (ar 0 60030 xha), some (ar 0 600 xp1), some (ar 0 600 xp2), some (ar 1 600 xp3), some (ar 1 2001 xl1), some (ar 1 2001 xl2), some (ar 1 2001 xrt), some (ar 3 2001 xlf), some (ar 0 3600 xdc), some (ar 0 12 xhn), some (ar 0 4005 xsu)] dy)) 2001 ?_ (fun i hi ih => ?_) 0 (by omega)
  · refine aw_blk (pc' := 23) (ls' := [some (vr 8 0), some (vi (q : Int)), some (vi d), some (vl (sumZ (fun k => idv k * idv k * Tm xwg q (idv k)) 2001)), none, some (vi (idv 2001)), none]) (st' := [vi 1000, vi (idv 2001)]) [.inl (.iload 5), .inl (.sipush 1000)] 18 _ _ (by decide +kernel) rfl ?_
    refine aw_icmp_gt (o := 28) (tgt := 51) (by decide +kernel) (by decide) (by show I32 (_ - _); omega) (by omega) (fun _ => ?_) (fun c => absurd (by show _ < (_ - _); omega) c)
    refine aw_blk (pc' := 53) (ls' := [some (vr 8 0), some (vi (q : Int)), some (vi d), some (vl (sumZ (fun k => idv k * idv k * Tm xwg q (idv k)) 2001)), none, some (vi (idv 2001)), none]) (st' := [vi (q : Int), vr 8 0]) [.inl (.aload_n 0), .inl (.iload_n 1)] 51 _ _ (by decide +kernel) rfl ?_
    rw [show sumZ (fun k => idv k * idv k * Tm xwg q (idv k)) 2001 = sT (fun u => u * u * Tm xwg q u) from rfl]
    refine aw_dV (cs' := 0) (sl' := 0) (pc' := 56) (st' := [vl (sT (fun u => u * Tm xwg q u))]) (idx := 155) (as := [vi (q : Int)]) (st := []) (m_M_first (by omega) hTq) (by decide +kernel) (show vOK "ChanceBenchModel" 155 M_M_first 1 = true by decide +kernel) rfl rfl rfl (Nat.le_of_ble_eq_true rfl) (by decide) (by decide) (by decide) rfl rfl rfl rfl ?_
    refine aw_blk (pc' := 64) (ls' := [some (vr 8 0), some (vi (q : Int)), some (vi d), some (vl (sT (fun u => u * u * Tm xwg q u))), none, some (vl (sT (fun u => u * Tm xwg q u))), none]) (st' := [vi (q : Int), vr 8 3, vl (sT (fun u => u * u * Tm xwg q u))]) [.inl (.lstore 5), .inl (.lload_n 3), .inl (.aload_n 0), .inr (17, 8, 4), .inl (.iload_n 1)] 56 _ _ (by decide +kernel) rfl ?_
    refine aw_iald (j := q) (by decide +kernel) rfl (by omega) (by omega) (fun r64 => ?_)
    refine aw_i2l (by decide +kernel) (by omega) ?_
    refine aw_blk (pc' := 78) (ls' := [some (vr 8 0), some (vi (q : Int)), some (vi d), some (vl (sT (fun u => u * u * Tm xwg q u))), none, some (vl (sT (fun u => u * Tm xwg q u))), none]) (st' := [vi (q : Int), vr 8 3, vl (((sT (fun u => u * u * Tm xwg q u)) * (xwh q)) - ((sT (fun u => u * Tm xwg q u)) * (sT (fun u => u * Tm xwg q u))))]) [.inl (.lmul), .inl (.lload 5), .inl (.lload 5), .inl (.lmul), .inl (.lsub), .inl (.aload_n 0), .inr (17, 8, 4), .inl (.iload_n 1)] 66 _ _ (by decide +kernel) rfl ?_
    refine aw_iald (j := q) (by decide +kernel) rfl (by omega) (by omega) (fun r78 => ?_)
    refine aw_i2l (by decide +kernel) (by omega) ?_
    refine aw_blk (pc' := 85) (ls' := [some (vr 8 0), some (vi (q : Int)), some (vi d), some (vl (sT (fun u => u * u * Tm xwg q u))), none, some (vl (sT (fun u => u * Tm xwg q u))), none]) (st' := [vi (q : Int), vr 8 3, vl (xwh q), vl (((sT (fun u => u * u * Tm xwg q u)) * (xwh q)) - ((sT (fun u => u * Tm xwg q u)) * (sT (fun u => u * Tm xwg q u))))]) [.inl (.aload_n 0), .inr (17, 8, 4), .inl (.iload_n 1)] 80 _ _ (by decide +kernel) rfl ?_
    refine aw_iald (j := q) (by decide +kernel) rfl (by omega) (by omega) (fun r85 => ?_)
    refine aw_i2l (by decide +kernel) (by omega) ?_
    refine aw_blk (pc' := 89) (ls' := [some (vr 8 0), some (vi (q : Int)), some (vi d), some (vl (sT (fun u => u * u * Tm xwg q u))), none, some (vl (sT (fun u => u * Tm xwg q u))), none]) (st' := [vi d, vl ((xwh q) * (xwh q)), vl (((sT (fun u => u * u * Tm xwg q u)) * (xwh q)) - ((sT (fun u => u * Tm xwg q u)) * (sT (fun u => u * Tm xwg q u))))]) [.inl (.lmul), .inl (.iload_n 2)] 87 _ _ (by decide +kernel) rfl ?_
    refine aw_dS (cs' := 0) (sl' := 0) (pc' := 92) (st' := [vl (prt (sT (fun u => u * u * Tm xwg q u) * xwh q - sT (fun u => u * Tm xwg q u) * sT (fun u => u * Tm xwg q u)) (xwh q * xwh q) d)]) (idx := 148) (as := [vl (((sT (fun u => u * u * Tm xwg q u)) * (xwh q)) - ((sT (fun u => u * Tm xwg q u)) * (sT (fun u => u * Tm xwg q u)))), vl ((xwh q) * (xwh q)), vi d]) (st := []) (m_M_part hJ (by omega) (by omega)) (by decide +kernel) (show sOK "ChanceBenchModel" 148 M_M_part 3 = true by decide +kernel) rfl (Nat.le_of_ble_eq_true rfl) (by decide) (by decide) (by decide) rfl rfl rfl rfl ?_
    exact aw_lret (by decide +kernel) rfl (by decide) (by decide) (hq _ _ rfl rfl)
  · have hiv : idv i = (i : Int) - 1000 := rfl
    have hnx : idv i + 1 = idv (i + 1) := by unfold idv; omega
    have htq := hTq (idv i)
    refine aw_blk (pc' := 23) (ls' := [some (vr 8 0), some (vi (q : Int)), some (vi d), some (vl (sumZ (fun k => idv k * idv k * Tm xwg q (idv k)) i)), none, some (vi (idv i)), none]) (st' := [vi 1000, vi (idv i)]) [.inl (.iload 5), .inl (.sipush 1000)] 18 _ _ (by decide +kernel) rfl ?_
    refine aw_icmp_gt (o := 28) (tgt := 51) (by decide +kernel) (by decide) (by omega) (by omega) (fun c => absurd c (by omega)) (fun _ => ?_)
    refine aw_blk (pc' := 29) (ls' := [some (vr 8 0), some (vi (q : Int)), some (vi d), some (vl (sumZ (fun k => idv k * idv k * Tm xwg q (idv k)) i)), none, some (vi (idv i)), none]) (st' := [vi (idv i), vl (sumZ (fun k => idv k * idv k * Tm xwg q (idv k)) i)]) [.inl (.lload_n 3), .inl (.iload 5)] 26 _ _ (by decide +kernel) rfl ?_
    refine aw_i2l (by decide +kernel) (by omega) ?_
    refine aw_blk (pc' := 32) (ls' := [some (vr 8 0), some (vi (q : Int)), some (vi d), some (vl (sumZ (fun k => idv k * idv k * Tm xwg q (idv k)) i)), none, some (vi (idv i)), none]) (st' := [vi (idv i), vl (idv i), vl (sumZ (fun k => idv k * idv k * Tm xwg q (idv k)) i)]) [.inl (.iload 5)] 30 _ _ (by decide +kernel) rfl ?_
    refine aw_i2l (by decide +kernel) (by omega) ?_
    refine aw_blk (pc' := 38) (ls' := [some (vr 8 0), some (vi (q : Int)), some (vi d), some (vl (sumZ (fun k => idv k * idv k * Tm xwg q (idv k)) i)), none, some (vi (idv i)), none]) (st' := [vi (idv i), vi (q : Int), vr 8 0, vl ((idv i) * (idv i)), vl (sumZ (fun k => idv k * idv k * Tm xwg q (idv k)) i)]) [.inl (.lmul), .inl (.aload_n 0), .inl (.iload_n 1), .inl (.iload 5)] 33 _ _ (by decide +kernel) rfl ?_
    refine aw_dV (cs' := 0) (sl' := 0) (pc' := 41) (st' := [vi (Tm xwg q (idv i)), vl ((idv i) * (idv i)), vl (sumZ (fun k => idv k * idv k * Tm xwg q (idv k)) i)]) (idx := 136) (as := [vi (q : Int), vi (idv i)]) (st := [vl ((idv i) * (idv i)), vl (sumZ (fun k => idv k * idv k * Tm xwg q (idv k)) i)]) (m_M_at (by omega) (by omega)) (by decide +kernel) (show vOK "ChanceBenchModel" 136 M_M_at 2 = true by decide +kernel) rfl rfl rfl (Nat.le_of_ble_eq_true rfl) (by decide) (by decide) (by decide) rfl rfl rfl rfl ?_
    refine aw_i2l (by decide +kernel) (by omega) ?_
    refine aw_blk (pc' := 48) (ls' := [some (vr 8 0), some (vi (q : Int)), some (vi d), some (vl ((sumZ (fun k => idv k * idv k * Tm xwg q (idv k)) i) + (((idv i) * (idv i)) * (Tm xwg q (idv i))))), none, some (vi ((idv i) + 1)), none]) (st' := []) [.inl (.lmul), .inl (.ladd), .inl (.lstore_n 3), .inl (.iinc 5 1)] 42 _ _ (by decide +kernel) rfl ?_
    refine aw_goto (o := -30) (tgt := 18) (by decide +kernel) (by decide) ?_
    rw [hnx]
    exact aw_eq rfl rfl rfl ih

theorem m_M_variance_0 (hi : I32 a ∧ I32 d) (hl : ¬ (isLw xwh a ∧ (d = 0 ∨ d = 1))) : ADet G M_M_variance [vr 8 0, vi a, vi d] (Hp b s t mk df jo tr di (sgM th ln by9 dn ac bd pm pq tk fo f1 f2 xtp xwg xwh xmd xsl xhw xhs xhd xha xp1 xp2 xp3 xl1 xl2 xrt xlf xdc xhn xsu) dy) (some (vl 0)) (Hp b s t mk df jo tr di (sgM 1 ln by9 dn ac bd pm pq tk fo f1 f2 xtp xwg xwh xmd xsl xhw xhs xhd xha xp1 xp2 xp3 xl1 xl2 xrt xlf xdc xhn xsu) dy) := by
  refine am_det (by decide +kernel) (Nat.le_of_ble_eq_true rfl) (fun Qr Qt hq => ?_)
  refine aw_blk (pc' := 3) (ls' := [some (vr 8 0), some (vi a), some (vi d), none, none, none, none]) (st' := [vi d, vi a, vr 8 0]) [.inl (.aload_n 0), .inl (.iload_n 1), .inl (.iload_n 2)] 0 _ _ (by decide +kernel) rfl ?_
  refine aw_dV (cs' := 0) (sl' := 0) (pc' := 6) (st' := [vi 1]) (idx := 144) (as := [vi a, vi d]) (st := []) (m_M_no_0 hi hl) (by decide +kernel) (show vOK "ChanceBenchModel" 144 M_M_no 2 = true by decide +kernel) rfl rfl rfl (Nat.le_of_ble_eq_true rfl) (by decide) (by decide) (by decide) rfl rfl rfl rfl ?_
  refine aw_if_eq (o := 5) (tgt := 11) (by decide +kernel) (by decide) (by omega) (fun c => absurd c (by omega)) (fun _ => ?_)
  refine aw_blk (pc' := 10) (ls' := [some (vr 8 0), some (vi a), some (vi d), none, none, none, none]) (st' := [vl 0]) [.inl (.lconst 0)] 9 _ _ (by decide +kernel) rfl ?_
  exact aw_lret (by decide +kernel) rfl (by decide) (by decide) (hq _ _ rfl rfl)

end
