abbrev I01 (z : Int) : Prop := 0 ≤ z ∧ z ≤ 1
/-- a call that may throw, through its helper, then the reference's -/
def OpP (G : GT) (MM : MI) (rg : Int → Prop) (cv : Int → AV) (as : List AV) (v : Int) (g : HT) : Prop := rg v ∧ AMr G MM as g (fun y g2 => y = some (cv v) ∧ Inv 0 v g2)
def OpX (G : GT) (MM : MI) (cv : Int → AV) (as : List AV) (g : HT) : Prop := AMr G MM as g (fun y g2 => (∃ z, y = some (cv z)) ∧ ∃ ov, Inv 1 ov g2)
def Op (G : GT) (MZ : MI) (hh : List (Nat × Nat × Nat × Nat)) (MM : MI) (rg : Int → Prop) (cv : Int → AV) (as : List AV) (h : HT) : Prop := AHet G MZ hh (vr 0 0 :: as ++ [vr 9 0]) h (fun x g => (x = some (vi 0) ∧ ∃ v, OpP G MM rg cv as v g) ∨ (x = some (vi 1) ∧ OpX G MM cv as g))
theorem vl_at {at_ wt : Nat → Int} {n : Nat} {W : Int} (A : lwN n at_ wt W) : ∀ (y k : Nat) (l : Int), k + y = 2001 → 0 ≤ l → vlT (den at_ wt n) y k l = if l + (lb at_ (idv k) n : Int) < (n : Int) then some (at_ (l.toNat + lb at_ (idv k) n)) else none := by
  intro y
  induction y with
  | zero =>
    intro k l hk hl
    have : k = 2001 := by omega
    rw [this, lb_end A, vlT, if_neg (by omega)]
  | succ y ih =>
    intro k l hk hl
    rw [vlT]
    by_cases hit : ∃ i, i < n ∧ at_ i = idv k
    · obtain ⟨i, hi, ei⟩ := hit
      obtain ⟨l1, l2⟩ := lb_hit A hi ei
      have hw := (A.2.2.1 i hi).2
      rw [← ei, den_at A.2.1 hi, if_neg (by omega), ei, l1]
      by_cases h0 : l = 0
      · subst h0
        rw [if_pos rfl, if_pos (by omega), show (0 : Int).toNat + i = i by simp, ei]
      · rw [if_neg h0, ih (k + 1) (l + -1) (by omega) (by omega), l2]
        by_cases c : l + (i : Int) < (n : Int)
        · rw [if_pos c, if_pos (by omega), show (l + -1).toNat + (i + 1) = l.toNat + i by omega]
        · rw [if_neg c, if_neg (by omega)]
    · have hm : ∀ i, i < n → at_ i ≠ idv k := fun i hi ei => hit ⟨i, hi, ei⟩
      rw [den_0 hm, if_pos rfl, ih (k + 1) l (by omega) hl, lb_miss A hm]
theorem vl_law {at_ wt : Nat → Int} {n : Nat} {W l : Int} (A : lwN n at_ wt W) (hl : 0 ≤ l) : vlT (den at_ wt n) 2001 0 l = if l < (n : Int) then some (at_ l.toNat) else none := by
  rw [vl_at A 2001 0 l (by omega) hl, lb_beg A]
  simp
section
variable {G : GT} {h : HT} {a c d e B th : Int} {bd tk : Int} {laws : Nat → Option (Nat × Nat)} {slot : Nat → Int} {ahead made : Nat → Option (Nat × Nat)} {od dn un len nn : Nat} {ft : Nat → Int} {rr : Int} {ff gg : Nat → Int} {l0 : Int} {D0 B0 : Nat → Int} {js : List T3} {wh : Int} {fa fb fw fl sl_ : Nat → Int} {l9 W0 lv op : Int} {r9 dd : Nat → Int} {l8 : Nat} {fd f1 f2 : Int} {kp fi se ta tl : Nat → Int} {by9 : Int} {xtp xwg xwh xmd xsl xhw xhs xhd xha xp1 xp2 xp3 xl1 xl2 xrt xlf xdc xhn xsu : Nat → Int} {fo9 : Nat → Int} {dy : SG}
theorem op_value (hT : tpR len ft xtp) (hS : shR (some (ar 1 1 fo9) :: dy) laws slot ahead made od dn un xwg xwh xsl xhw xhs xhd xha) (hJ : joR js wh fa fb fw xp1 xp2 xp3) (hD : diR fd f1 f2 kp xdc) (hI : I32 bd ∧ I32 tk) (he : I32 e) (hd : I32 d) : Op G M_Z_value [(0, 10, 13, 13)] M_M_value I32 (fun z => vi z) [vi e, vi d] (Hp (sgB bd tk) (sgS laws slot ahead made (od : Int) (dn : Int) (un : Int)) (sgT (len : Int) ft) (sgK (nn : Int) rr ff gg) (sgF l0 D0 B0) (sgJ (js.length : Int) wh fa fb fw fl sl_) (sgR l9 W0 lv op r9 dd) (sgD (l8 : Int) fd f1 f2 kp fi se ta tl) (sgM th (len : Int) by9 (dn : Int) ((dn + un : Nat) : Int) bd (js.length : Int) wh tk fd f1 f2 xtp xwg xwh xmd xsl xhw xhs xhd xha xp1 xp2 xp3 xl1 xl2 xrt xlf xdc xhn xsu) (some (ar 1 1 fo9) :: dy)) := by
  have hdn : dn ≤ 30 := by have := hS.1.2.1; omega
  have hln := hT.1
  refine h_value rfl ?_
  rcases hS.at e with ⟨l1, l2⟩ | ⟨q, k, k1, k2, n, at_, wt, rfl, hq16, l1, l2, hA, A, eT⟩
  · refine am_mono (m_B_value_t he l1) (fun _ _ z => z.elim) (fun g hg => ?_)
    obtain ⟨j9, rfl⟩ := hg
    rw [junk_Hp]
    exact am_monoR (m_M_value_0 ⟨he, hd⟩ (fun z => l2 z.1)) (fun y g2 w => ⟨⟨_, w.1⟩, fo9 0, by rw [w.2]; exact ⟨bd, tk, laws, slot, ahead, made, od, dn, un, len, nn, ft, rr, ff, gg, l0, D0, B0, js, wh, fa, fb, fw, fl, sl_, l9, W0, lv, op, r9, dd, l8, fd, f1, f2, kp, fi, se, ta, tl, by9, xtp, xwg, xwh, xmd, xsl, xhw, xhs, xhd, xha, xp1, xp2, xp3, xl1, xl2, xrt, xlf, xdc, xhn, xsu, fo9, dy ++ List.replicate j9 none, hT, hS.app, hJ, hD, hI, rfl, rfl⟩⟩) (fun _ z => z)
  · have hTq : ∀ v, 0 ≤ Tm xwg q v ∧ Tm xwg q v ≤ 1048576 := by rw [eT]; exact lw_q A
    have hw : 1 ≤ xwh q ∧ xwh q ≤ 1048576 := ⟨A.2.2.2.1, A.2.2.2.2.1⟩
    have hTW : ∀ v, Tm xwg q v ≤ xwh q := by rw [eT]; exact lw_qW A
    by_cases h2 : 0 ≤ d ∧ d < (n : Int)
    · have hv := lw_inR A d.toNat (by omega)
      have ev := vl_law (l := d) A h2.1
      rw [if_pos h2.2, ← eT] at ev
      refine am_mono (m_B_value he h2 l1 hA A) (fun r g z => ⟨at_ d.toNat, z.1, by constructor <;> omega, _, _, _, _, _, _, _, _, _, _, _, z.2, by constructor <;> omega, ?_⟩) (fun _ z => z.elim)
      refine am_monoR (m_M_value l2 hTq (by omega)) (fun y g2 w => ?_) (fun _ z => z)
      rcases w with ⟨v, e1, rfl, rfl⟩ | ⟨e1, -, -⟩
      · rw [ev] at e1
        cases e1
        exact ⟨rfl, ⟨bd, tk, laws, slot, ahead, made, od, dn, un, len, nn, ft, rr, ff, gg, l0, D0, B0, js, wh, fa, fb, fw, fl, sl_, l9, W0, lv, op, r9, dd, l8, fd, f1, f2, kp, fi, se, ta, tl, by9, xtp, xwg, xwh, xmd, xsl, xhw, xhs, xhd, xha, xp1, xp2, xp3, xl1, xl2, xrt, xlf, xdc, xhn, xsu, _, dy, hT, hS.out, hJ, hD, hI, va_eq, rfl⟩⟩
      · rw [ev] at e1; cases e1
    · refine am_mono (m_B_value_t2 he hd h2 l1 hA A) (fun _ _ z => z.elim) (fun g hg => ?_)
      obtain ⟨j9, rfl⟩ := hg
      rw [junk_Hp]
      by_cases h3 : 0 ≤ d
      · refine am_monoR (m_M_value l2 hTq (by omega)) (fun y g2 w => ?_) (fun _ z => z)
        have ev := vl_law (l := d) A h3
        rw [if_neg (by omega), ← eT] at ev
        rcases w with ⟨v, e1, -, -⟩ | ⟨-, rfl, rfl⟩
        · rw [ev] at e1; cases e1
        · exact ⟨⟨_, rfl⟩, fo9 0, ⟨bd, tk, laws, slot, ahead, made, od, dn, un, len, nn, ft, rr, ff, gg, l0, D0, B0, js, wh, fa, fb, fw, fl, sl_, l9, W0, lv, op, r9, dd, l8, fd, f1, f2, kp, fi, se, ta, tl, by9, xtp, xwg, xwh, xmd, xsl, xhw, xhs, xhd, xha, xp1, xp2, xp3, xl1, xl2, xrt, xlf, xdc, xhn, xsu, fo9, dy ++ List.replicate j9 none, hT, hS.app, hJ, hD, hI, rfl, rfl⟩⟩
      · exact am_monoR (m_M_value_0 ⟨he, hd⟩ (fun z => h3 z.2)) (fun y g2 w => ⟨⟨_, w.1⟩, fo9 0, by rw [w.2]; exact ⟨bd, tk, laws, slot, ahead, made, od, dn, un, len, nn, ft, rr, ff, gg, l0, D0, B0, js, wh, fa, fb, fw, fl, sl_, l9, W0, lv, op, r9, dd, l8, fd, f1, f2, kp, fi, se, ta, tl, by9, xtp, xwg, xwh, xmd, xsl, xhw, xhs, xhd, xha, xp1, xp2, xp3, xl1, xl2, xrt, xlf, xdc, xhn, xsu, fo9, dy ++ List.replicate j9 none, hT, hS.app, hJ, hD, hI, rfl, rfl⟩⟩) (fun _ z => z)
theorem prt_I64 {a c d : Int} (ha : J64 a) (hc : 1 ≤ c ∧ c ≤ 9223372036854775807) : I64 (prt a c d) := by
  have hg := gc_in (a := a) (c := c) ha (by constructor <;> omega)
  unfold prt
  split
  · have h1 := Int.natAbs_tdiv_le_natAbs a (gc a c)
    constructor <;> omega
  · have h1 := tdiv_nn (x := c) (y := gc a c) (B := 9223372036854775807) (by omega) hc.2 hg.1
    constructor <;> omega
theorem op_chance (hT : tpR len ft xtp) (hS : shR (some (ar 1 1 fo9) :: dy) laws slot ahead made od dn un xwg xwh xsl xhw xhs xhd xha) (hJ : joR js wh fa fb fw xp1 xp2 xp3) (hD : diR fd f1 f2 kp xdc) (hI : I32 bd ∧ I32 tk) (he : I32 e) (hc : I32 c) (hd : I32 d) : Op G M_Z_chance [(0, 11, 14, 13)] M_M_chance I64 (fun z => vl z) [vi e, vi c, vi d] (Hp (sgB bd tk) (sgS laws slot ahead made (od : Int) (dn : Int) (un : Int)) (sgT (len : Int) ft) (sgK (nn : Int) rr ff gg) (sgF l0 D0 B0) (sgJ (js.length : Int) wh fa fb fw fl sl_) (sgR l9 W0 lv op r9 dd) (sgD (l8 : Int) fd f1 f2 kp fi se ta tl) (sgM th (len : Int) by9 (dn : Int) ((dn + un : Nat) : Int) bd (js.length : Int) wh tk fd f1 f2 xtp xwg xwh xmd xsl xhw xhs xhd xha xp1 xp2 xp3 xl1 xl2 xrt xlf xdc xhn xsu) (some (ar 1 1 fo9) :: dy)) := by
  have hdn : dn ≤ 30 := by have := hS.1.2.1; omega
  have hln := hT.1
  refine h_chance rfl ?_
  rcases hS.at e with ⟨l1, l2⟩ | ⟨q, k, k1, k2, n, at_, wt, rfl, hq16, l1, l2, hA, A, eT⟩
  · refine am_mono (m_B_chance_t he l1) (fun _ _ z => z.elim) (fun g hg => ?_)
    obtain ⟨j9, rfl⟩ := hg
    rw [junk_Hp]
    exact am_monoR (m_M_chance_0 ⟨he, hd⟩ (fun z => l2 z.1)) (fun y g2 w => ⟨⟨_, w.1⟩, fo9 0, by rw [w.2]; exact ⟨bd, tk, laws, slot, ahead, made, od, dn, un, len, nn, ft, rr, ff, gg, l0, D0, B0, js, wh, fa, fb, fw, fl, sl_, l9, W0, lv, op, r9, dd, l8, fd, f1, f2, kp, fi, se, ta, tl, by9, xtp, xwg, xwh, xmd, xsl, xhw, xhs, xhd, xha, xp1, xp2, xp3, xl1, xl2, xrt, xlf, xdc, xhn, xsu, fo9, dy ++ List.replicate j9 none, hT, hS.app, hJ, hD, hI, rfl, rfl⟩⟩) (fun _ z => z)
  · have hTq : ∀ v, 0 ≤ Tm xwg q v ∧ Tm xwg q v ≤ 1048576 := by rw [eT]; exact lw_q A
    have hw : 1 ≤ xwh q ∧ xwh q ≤ 1048576 := ⟨A.2.2.2.1, A.2.2.2.2.1⟩
    have hTW : ∀ v, Tm xwg q v ≤ xwh q := by rw [eT]; exact lw_qW A
    by_cases h2 : d = 0 ∨ d = 1
    · have h8 := lw_q A c
      have hv : I64 (prt (den at_ wt n c) (xwh q) d) := prt_I64 (by constructor <;> omega) (by omega)
      refine am_mono (m_B_chance he hc h2 l1 hA A) (fun r g z => ⟨prt (den at_ wt n c) (xwh q) d, z.1, hv, _, _, _, _, _, _, _, _, _, _, _, z.2, hv, ?_⟩) (fun _ z => z.elim)
      exact am_monoR (m_M_chance l2 hTq hw h2 hc (by rw [eT]; have := lw_q A c; constructor <;> omega)) (fun y g2 w => ⟨by rw [w.1, eT], by rw [w.2]; exact ⟨bd, tk, laws, slot, ahead, made, od, dn, un, len, nn, ft, rr, ff, gg, l0, D0, B0, js, wh, fa, fb, fw, fl, sl_, l9, W0, lv, op, r9, dd, l8, fd, f1, f2, kp, fi, se, ta, tl, by9, xtp, xwg, xwh, xmd, xsl, xhw, xhs, xhd, xha, xp1, xp2, xp3, xl1, xl2, xrt, xlf, xdc, xhn, xsu, _, dy, hT, hS.out, hJ, hD, hI, va_eq, rfl⟩⟩) (fun _ z => z)
    · refine am_mono (m_B_chance_t2 he hc hd h2 l1 hA A) (fun _ _ z => z.elim) (fun g hg => ?_)
      obtain ⟨j9, rfl⟩ := hg
      rw [junk_Hp]
      exact am_monoR (m_M_chance_0 ⟨he, hd⟩ (fun z => h2 z.2)) (fun y g2 w => ⟨⟨_, w.1⟩, fo9 0, by rw [w.2]; exact ⟨bd, tk, laws, slot, ahead, made, od, dn, un, len, nn, ft, rr, ff, gg, l0, D0, B0, js, wh, fa, fb, fw, fl, sl_, l9, W0, lv, op, r9, dd, l8, fd, f1, f2, kp, fi, se, ta, tl, by9, xtp, xwg, xwh, xmd, xsl, xhw, xhs, xhd, xha, xp1, xp2, xp3, xl1, xl2, xrt, xlf, xdc, xhn, xsu, fo9, dy ++ List.replicate j9 none, hT, hS.app, hJ, hD, hI, rfl, rfl⟩⟩) (fun _ z => z)
theorem op_below (hT : tpR len ft xtp) (hS : shR (some (ar 1 1 fo9) :: dy) laws slot ahead made od dn un xwg xwh xsl xhw xhs xhd xha) (hJ : joR js wh fa fb fw xp1 xp2 xp3) (hD : diR fd f1 f2 kp xdc) (hI : I32 bd ∧ I32 tk) (he : I32 e) (hc : I32 c) (hd : I32 d) : Op G M_Z_below [(0, 11, 14, 13)] M_M_below I64 (fun z => vl z) [vi e, vi c, vi d] (Hp (sgB bd tk) (sgS laws slot ahead made (od : Int) (dn : Int) (un : Int)) (sgT (len : Int) ft) (sgK (nn : Int) rr ff gg) (sgF l0 D0 B0) (sgJ (js.length : Int) wh fa fb fw fl sl_) (sgR l9 W0 lv op r9 dd) (sgD (l8 : Int) fd f1 f2 kp fi se ta tl) (sgM th (len : Int) by9 (dn : Int) ((dn + un : Nat) : Int) bd (js.length : Int) wh tk fd f1 f2 xtp xwg xwh xmd xsl xhw xhs xhd xha xp1 xp2 xp3 xl1 xl2 xrt xlf xdc xhn xsu) (some (ar 1 1 fo9) :: dy)) := by
  have hdn : dn ≤ 30 := by have := hS.1.2.1; omega
  have hln := hT.1
  refine h_below rfl ?_
  rcases hS.at e with ⟨l1, l2⟩ | ⟨q, k, k1, k2, n, at_, wt, rfl, hq16, l1, l2, hA, A, eT⟩
  · refine am_mono (m_B_below_t he l1) (fun _ _ z => z.elim) (fun g hg => ?_)
    obtain ⟨j9, rfl⟩ := hg
    rw [junk_Hp]
    exact am_monoR (m_M_below_0 ⟨he, hd⟩ (fun z => l2 z.1)) (fun y g2 w => ⟨⟨_, w.1⟩, fo9 0, by rw [w.2]; exact ⟨bd, tk, laws, slot, ahead, made, od, dn, un, len, nn, ft, rr, ff, gg, l0, D0, B0, js, wh, fa, fb, fw, fl, sl_, l9, W0, lv, op, r9, dd, l8, fd, f1, f2, kp, fi, se, ta, tl, by9, xtp, xwg, xwh, xmd, xsl, xhw, xhs, xhd, xha, xp1, xp2, xp3, xl1, xl2, xrt, xlf, xdc, xhn, xsu, fo9, dy ++ List.replicate j9 none, hT, hS.app, hJ, hD, hI, rfl, rfl⟩⟩) (fun _ z => z)
  · have hTq : ∀ v, 0 ≤ Tm xwg q v ∧ Tm xwg q v ≤ 1048576 := by rw [eT]; exact lw_q A
    have hw : 1 ≤ xwh q ∧ xwh q ≤ 1048576 := ⟨A.2.2.2.1, A.2.2.2.2.1⟩
    have hTW : ∀ v, Tm xwg q v ≤ xwh q := by rw [eT]; exact lw_qW A
    by_cases h2 : d = 0 ∨ d = 1
    · have h8 := lw_cum A c
      have hv : I64 (prt (cum (den at_ wt n) c) (xwh q) d) := prt_I64 (by constructor <;> omega) (by omega)
      refine am_mono (m_B_below he hc h2 l1 hA A) (fun r g z => ⟨prt (cum (den at_ wt n) c) (xwh q) d, z.1, hv, _, _, _, _, _, _, _, _, _, _, _, z.2, hv, ?_⟩) (fun _ z => z.elim)
      exact am_monoR (m_M_below l2 hTq hw h2 hc (by rw [eT]; have := lw_cum A c; constructor <;> omega)) (fun y g2 w => ⟨by rw [w.1, eT], by rw [w.2]; exact ⟨bd, tk, laws, slot, ahead, made, od, dn, un, len, nn, ft, rr, ff, gg, l0, D0, B0, js, wh, fa, fb, fw, fl, sl_, l9, W0, lv, op, r9, dd, l8, fd, f1, f2, kp, fi, se, ta, tl, by9, xtp, xwg, xwh, xmd, xsl, xhw, xhs, xhd, xha, xp1, xp2, xp3, xl1, xl2, xrt, xlf, xdc, xhn, xsu, _, dy, hT, hS.out, hJ, hD, hI, va_eq, rfl⟩⟩) (fun _ z => z)
    · refine am_mono (m_B_below_t2 he hc hd h2 l1 hA A) (fun _ _ z => z.elim) (fun g hg => ?_)
      obtain ⟨j9, rfl⟩ := hg
      rw [junk_Hp]
      exact am_monoR (m_M_below_0 ⟨he, hd⟩ (fun z => h2 z.2)) (fun y g2 w => ⟨⟨_, w.1⟩, fo9 0, by rw [w.2]; exact ⟨bd, tk, laws, slot, ahead, made, od, dn, un, len, nn, ft, rr, ff, gg, l0, D0, B0, js, wh, fa, fb, fw, fl, sl_, l9, W0, lv, op, r9, dd, l8, fd, f1, f2, kp, fi, se, ta, tl, by9, xtp, xwg, xwh, xmd, xsl, xhw, xhs, xhd, xha, xp1, xp2, xp3, xl1, xl2, xrt, xlf, xdc, xhn, xsu, fo9, dy ++ List.replicate j9 none, hT, hS.app, hJ, hD, hI, rfl, rfl⟩⟩) (fun _ z => z)
theorem op_mean (hT : tpR len ft xtp) (hS : shR (some (ar 1 1 fo9) :: dy) laws slot ahead made od dn un xwg xwh xsl xhw xhs xhd xha) (hJ : joR js wh fa fb fw xp1 xp2 xp3) (hD : diR fd f1 f2 kp xdc) (hI : I32 bd ∧ I32 tk) (he : I32 e) (hd : I32 d) : Op G M_Z_mean [(0, 9, 12, 13)] M_M_mean I64 (fun z => vl z) [vi e, vi d] (Hp (sgB bd tk) (sgS laws slot ahead made (od : Int) (dn : Int) (un : Int)) (sgT (len : Int) ft) (sgK (nn : Int) rr ff gg) (sgF l0 D0 B0) (sgJ (js.length : Int) wh fa fb fw fl sl_) (sgR l9 W0 lv op r9 dd) (sgD (l8 : Int) fd f1 f2 kp fi se ta tl) (sgM th (len : Int) by9 (dn : Int) ((dn + un : Nat) : Int) bd (js.length : Int) wh tk fd f1 f2 xtp xwg xwh xmd xsl xhw xhs xhd xha xp1 xp2 xp3 xl1 xl2 xrt xlf xdc xhn xsu) (some (ar 1 1 fo9) :: dy)) := by
  have hdn : dn ≤ 30 := by have := hS.1.2.1; omega
  have hln := hT.1
  refine h_mean rfl ?_
  rcases hS.at e with ⟨l1, l2⟩ | ⟨q, k, k1, k2, n, at_, wt, rfl, hq16, l1, l2, hA, A, eT⟩
  · refine am_mono (m_B_mean_t he l1) (fun _ _ z => z.elim) (fun g hg => ?_)
    obtain ⟨j9, rfl⟩ := hg
    rw [junk_Hp]
    exact am_monoR (m_M_mean_0 ⟨he, hd⟩ (fun z => l2 z.1)) (fun y g2 w => ⟨⟨_, w.1⟩, fo9 0, by rw [w.2]; exact ⟨bd, tk, laws, slot, ahead, made, od, dn, un, len, nn, ft, rr, ff, gg, l0, D0, B0, js, wh, fa, fb, fw, fl, sl_, l9, W0, lv, op, r9, dd, l8, fd, f1, f2, kp, fi, se, ta, tl, by9, xtp, xwg, xwh, xmd, xsl, xhw, xhs, xhd, xha, xp1, xp2, xp3, xl1, xl2, xrt, xlf, xdc, xhn, xsu, fo9, dy ++ List.replicate j9 none, hT, hS.app, hJ, hD, hI, rfl, rfl⟩⟩) (fun _ z => z)
  · have hTq : ∀ v, 0 ≤ Tm xwg q v ∧ Tm xwg q v ≤ 1048576 := by rw [eT]; exact lw_q A
    have hw : 1 ≤ xwh q ∧ xwh q ≤ 1048576 := ⟨A.2.2.2.1, A.2.2.2.2.1⟩
    have hTW : ∀ v, Tm xwg q v ≤ xwh q := by rw [eT]; exact lw_qW A
    by_cases h2 : d = 0 ∨ d = 1
    · have h8 := lw_b1 A
      have hv : I64 (prt (sT (fun u => u * den at_ wt n u)) (xwh q) d) := prt_I64 (by constructor <;> omega) (by omega)
      refine am_mono (m_B_mean he h2 l1 hA A) (fun r g z => ⟨prt (sT (fun u => u * den at_ wt n u)) (xwh q) d, z.1, hv, _, _, _, _, _, _, _, _, _, _, _, z.2, hv, ?_⟩) (fun _ z => z.elim)
      exact am_monoR (m_M_mean l2 hTq hw h2 (by rw [eT]; have := lw_b1 A; constructor <;> omega)) (fun y g2 w => ⟨by rw [w.1, eT], by rw [w.2]; exact ⟨bd, tk, laws, slot, ahead, made, od, dn, un, len, nn, ft, rr, ff, gg, l0, D0, B0, js, wh, fa, fb, fw, fl, sl_, l9, W0, lv, op, r9, dd, l8, fd, f1, f2, kp, fi, se, ta, tl, by9, xtp, xwg, xwh, xmd, xsl, xhw, xhs, xhd, xha, xp1, xp2, xp3, xl1, xl2, xrt, xlf, xdc, xhn, xsu, _, dy, hT, hS.out, hJ, hD, hI, va_eq, rfl⟩⟩) (fun _ z => z)
    · refine am_mono (m_B_mean_t2 he hd h2 l1 hA A) (fun _ _ z => z.elim) (fun g hg => ?_)
      obtain ⟨j9, rfl⟩ := hg
      rw [junk_Hp]
      exact am_monoR (m_M_mean_0 ⟨he, hd⟩ (fun z => h2 z.2)) (fun y g2 w => ⟨⟨_, w.1⟩, fo9 0, by rw [w.2]; exact ⟨bd, tk, laws, slot, ahead, made, od, dn, un, len, nn, ft, rr, ff, gg, l0, D0, B0, js, wh, fa, fb, fw, fl, sl_, l9, W0, lv, op, r9, dd, l8, fd, f1, f2, kp, fi, se, ta, tl, by9, xtp, xwg, xwh, xmd, xsl, xhw, xhs, xhd, xha, xp1, xp2, xp3, xl1, xl2, xrt, xlf, xdc, xhn, xsu, fo9, dy ++ List.replicate j9 none, hT, hS.app, hJ, hD, hI, rfl, rfl⟩⟩) (fun _ z => z)
theorem op_variance (hT : tpR len ft xtp) (hS : shR (some (ar 1 1 fo9) :: dy) laws slot ahead made od dn un xwg xwh xsl xhw xhs xhd xha) (hJ : joR js wh fa fb fw xp1 xp2 xp3) (hD : diR fd f1 f2 kp xdc) (hI : I32 bd ∧ I32 tk) (he : I32 e) (hd : I32 d) : Op G M_Z_variance [(0, 9, 12, 13)] M_M_variance I64 (fun z => vl z) [vi e, vi d] (Hp (sgB bd tk) (sgS laws slot ahead made (od : Int) (dn : Int) (un : Int)) (sgT (len : Int) ft) (sgK (nn : Int) rr ff gg) (sgF l0 D0 B0) (sgJ (js.length : Int) wh fa fb fw fl sl_) (sgR l9 W0 lv op r9 dd) (sgD (l8 : Int) fd f1 f2 kp fi se ta tl) (sgM th (len : Int) by9 (dn : Int) ((dn + un : Nat) : Int) bd (js.length : Int) wh tk fd f1 f2 xtp xwg xwh xmd xsl xhw xhs xhd xha xp1 xp2 xp3 xl1 xl2 xrt xlf xdc xhn xsu) (some (ar 1 1 fo9) :: dy)) := by
  have hdn : dn ≤ 30 := by have := hS.1.2.1; omega
  have hln := hT.1
  refine h_variance rfl ?_
  rcases hS.at e with ⟨l1, l2⟩ | ⟨q, k, k1, k2, n, at_, wt, rfl, hq16, l1, l2, hA, A, eT⟩
  · refine am_mono (m_B_variance_t he l1) (fun _ _ z => z.elim) (fun g hg => ?_)
    obtain ⟨j9, rfl⟩ := hg
    rw [junk_Hp]
    exact am_monoR (m_M_variance_0 ⟨he, hd⟩ (fun z => l2 z.1)) (fun y g2 w => ⟨⟨_, w.1⟩, fo9 0, by rw [w.2]; exact ⟨bd, tk, laws, slot, ahead, made, od, dn, un, len, nn, ft, rr, ff, gg, l0, D0, B0, js, wh, fa, fb, fw, fl, sl_, l9, W0, lv, op, r9, dd, l8, fd, f1, f2, kp, fi, se, ta, tl, by9, xtp, xwg, xwh, xmd, xsl, xhw, xhs, xhd, xha, xp1, xp2, xp3, xl1, xl2, xrt, xlf, xdc, xhn, xsu, fo9, dy ++ List.replicate j9 none, hT, hS.app, hJ, hD, hI, rfl, rfl⟩⟩) (fun _ z => z)
  · have hTq : ∀ v, 0 ≤ Tm xwg q v ∧ Tm xwg q v ≤ 1048576 := by rw [eT]; exact lw_q A
    have hw : 1 ≤ xwh q ∧ xwh q ≤ 1048576 := ⟨A.2.2.2.1, A.2.2.2.2.1⟩
    have hTW : ∀ v, Tm xwg q v ≤ xwh q := by rw [eT]; exact lw_qW A
    by_cases h2 : d = 0 ∨ d = 1
    · have h8 := lw_b1 A
      have h9 := lw_b2 A
      have g1 := mul_in (x := 1048576) (y := 1048576000000) (u := xwh q) (v := sT (fun u => u * u * den at_ wt n u)) (by omega) (by omega) (by omega) (by omega)
      have g2 := mul_in (x := 1048576000) (y := 1048576000) (u := sT (fun u => u * den at_ wt n u)) (v := sT (fun u => u * den at_ wt n u)) (by omega) (by omega) (by omega) (by omega)
      have g3 := mulB (x := xwh q) (y := xwh q) (by omega) (by omega) (by omega) (by omega)
      have g4 := Int.mul_le_mul hw.1 hw.1 (by omega) (by omega)
      have hJ9 : J64 (sT (fun u => u * u * Tm xwg q u) * xwh q - sT (fun u => u * Tm xwg q u) * sT (fun u => u * Tm xwg q u)) := by rw [eT, Int.mul_comm (sT (fun u => u * u * den at_ wt n u))]; constructor <;> omega
      have hv : I64 (prt (xwh q * sT (fun u => u * u * den at_ wt n u) - sT (fun u => u * den at_ wt n u) * sT (fun u => u * den at_ wt n u)) (xwh q * xwh q) d) := prt_I64 (by constructor <;> omega) (by omega)
      refine am_mono (m_B_variance he h2 l1 hA A) (fun r g z => ⟨prt (xwh q * sT (fun u => u * u * den at_ wt n u) - sT (fun u => u * den at_ wt n u) * sT (fun u => u * den at_ wt n u)) (xwh q * xwh q) d, z.1, hv, _, _, _, _, _, _, _, _, _, _, _, z.2, hv, ?_⟩) (fun _ z => z.elim)
      exact am_monoR (m_M_variance l2 hTq hw h2 hJ9) (fun y g2 w => ⟨by rw [w.1, eT, Int.mul_comm (sT (fun u => u * u * den at_ wt n u))], by rw [w.2]; exact ⟨bd, tk, laws, slot, ahead, made, od, dn, un, len, nn, ft, rr, ff, gg, l0, D0, B0, js, wh, fa, fb, fw, fl, sl_, l9, W0, lv, op, r9, dd, l8, fd, f1, f2, kp, fi, se, ta, tl, by9, xtp, xwg, xwh, xmd, xsl, xhw, xhs, xhd, xha, xp1, xp2, xp3, xl1, xl2, xrt, xlf, xdc, xhn, xsu, _, dy, hT, hS.out, hJ, hD, hI, va_eq, rfl⟩⟩) (fun _ z => z)
    · refine am_mono (m_B_variance_t2 he hd h2 l1 hA A) (fun _ _ z => z.elim) (fun g hg => ?_)
      obtain ⟨j9, rfl⟩ := hg
      rw [junk_Hp]
      exact am_monoR (m_M_variance_0 ⟨he, hd⟩ (fun z => h2 z.2)) (fun y g2 w => ⟨⟨_, w.1⟩, fo9 0, by rw [w.2]; exact ⟨bd, tk, laws, slot, ahead, made, od, dn, un, len, nn, ft, rr, ff, gg, l0, D0, B0, js, wh, fa, fb, fw, fl, sl_, l9, W0, lv, op, r9, dd, l8, fd, f1, f2, kp, fi, se, ta, tl, by9, xtp, xwg, xwh, xmd, xsl, xhw, xhs, xhd, xha, xp1, xp2, xp3, xl1, xl2, xrt, xlf, xdc, xhn, xsu, fo9, dy ++ List.replicate j9 none, hT, hS.app, hJ, hD, hI, rfl, rfl⟩⟩) (fun _ z => z)
end
