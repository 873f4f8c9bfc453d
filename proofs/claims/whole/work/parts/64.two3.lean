theorem prt_in {a c d K : Int} (ha : 0 ≤ a ∧ a ≤ K) (hc : 1 ≤ c ∧ c ≤ K) (hK : K ≤ 9223372036854775807) : 0 ≤ prt a c d ∧ prt a c d ≤ K := by
  have hg := gc_in (a := a) (c := c) (by constructor <;> omega) (by constructor <;> omega)
  unfold prt
  split
  · exact tdiv_nn ha.1 ha.2 hg.1
  · exact tdiv_nn (by omega) hc.2 hg.1
section
variable {dy : SG} {laws ahead made : Nat → Option (Nat × Nat)} {slot : Nat → Int} {od dn un : Nat} {xwg xwh xsl xhw xhs xhd xha : Nat → Int}
theorem shR.law (h : shR dy laws slot ahead made od dn un xwg xwh xsl xhw xhs xhd xha) (a : Int) : lawR dy (lawAt laws a) (Tm xwg a.toNat) (if 0 ≤ a ∧ a < 16 then xwh a.toNat else 0) := by
  unfold lawAt
  by_cases ha : 0 ≤ a ∧ a < 16
  · rw [if_pos ha, if_pos ha]; exact h.2.1 a.toNat (by omega)
  · rw [if_neg ha, if_neg ha]; rfl
theorem shR.lws (h : shR dy laws slot ahead made od dn un xwg xwh xsl xhw xhs xhd xha) : lwsM xwg xwh := by
  have key : ∀ q : Nat, isLw xwh (q : Int) → ∃ (n : Nat) (at_ wt : Nat → Int), lwN n at_ wt (xwh q) ∧ Tm xwg q = den at_ wt n := fun q hq => by
    rcases h.at (q : Int) with ⟨_, l2⟩ | ⟨q', k, k1, k2, n, at_, wt, e, hq16, l1, l2, hA, A, eT⟩
    · exact absurd hq l2
    · have : q = q' := by omega
      subst this
      exact ⟨n, at_, wt, A, eT⟩
  refine ⟨fun q hq => ?_, fun q q2 hq hq2 => ?_⟩
  · obtain ⟨n, at_, wt, A, eT⟩ := key q hq
    exact ⟨by rw [eT]; exact lw_q A, A.2.2.2.1, A.2.2.2.2.1⟩
  · obtain ⟨n, at_, wt, A, eT⟩ := key q hq
    obtain ⟨m, at2, wt2, A2, eT2⟩ := key q2 hq2
    rw [eT, eT2]
    exact win_in A A2
end
section
variable {G : GT} {h : HT} {a c d e B th : Int} {bd tk : Int} {laws : Nat → Option (Nat × Nat)} {slot : Nat → Int} {ahead made : Nat → Option (Nat × Nat)} {od dn un len nn : Nat} {ft : Nat → Int} {rr : Int} {ff gg : Nat → Int} {l0 : Int} {D0 B0 : Nat → Int} {js : List T3} {wh : Int} {fa fb fw fl sl_ : Nat → Int} {l9 W0 lv op : Int} {r9 dd : Nat → Int} {l8 : Nat} {fd f1 f2 : Int} {kp fi se ta tl : Nat → Int} {by9 : Int} {xtp xwg xwh xmd xsl xhw xhs xhd xha xp1 xp2 xp3 xl1 xl2 xrt xlf xdc xhn xsu : Nat → Int} {fo9 : Nat → Int} {dy : SG}
theorem two_joint (hT : tpR len ft xtp) (hS : shR (some (ar 1 1 fo9) :: dy) laws slot ahead made od dn un xwg xwh xsl xhw xhs xhd xha) (hJ : joR js wh fa fb fw xp1 xp2 xp3) (hD : diR fd f1 f2 kp xdc) (hI : I32 bd ∧ I32 tk) (he : I32 e) (hc : I32 c) (hd : I32 d) : Two G M_B_joint M_M_joint [vi e, vi c, vi d] (Hp (sgB bd tk) (sgS laws slot ahead made (od : Int) (dn : Int) (un : Int)) (sgT (len : Int) ft) (sgK (nn : Int) rr ff gg) (sgF l0 D0 B0) (sgJ (js.length : Int) wh fa fb fw fl sl_) (sgR l9 W0 lv op r9 dd) (sgD (l8 : Int) fd f1 f2 kp fi se ta tl) (sgM th (len : Int) by9 (dn : Int) ((dn + un : Nat) : Int) bd (js.length : Int) wh tk fd f1 f2 xtp xwg xwh xmd xsl xhw xhs xhd xha xp1 xp2 xp3 xl1 xl2 xrt xlf xdc xhn xsu) (some (ar 1 1 fo9) :: dy)) := by
  rcases hS.at e with ⟨m1, m2⟩ | ⟨q, k, k1, k2, n, at_, wt, rfl, hq16, m1, m2, hA, A, eT⟩
  · exact two_d (by constructor <;> decide) (m_B_joint_0 ⟨he, hc⟩ m1) (m_M_joint_0 ⟨he, hc, hd⟩ (fun z => m2 z.1)) rfl ⟨fo9 0, bd, tk, laws, slot, ahead, made, od, dn, un, len, nn, ft, rr, ff, gg, l0, D0, B0, js, wh, fa, fb, fw, fl, sl_, l9, W0, lv, op, r9, dd, l8, fd, f1, f2, kp, fi, se, ta, tl, by9, xtp, xwg, xwh, xmd, xsl, xhw, xhs, xhd, xha, xp1, xp2, xp3, xl1, xl2, xrt, xlf, xdc, xhn, xsu, fo9, dy, hT, hS, hJ, hD, hI, rfl, rfl⟩
  · rcases hS.at c with ⟨m3, m4⟩ | ⟨q2, j, j1, j2, m, at2, wt2, rfl, hq17, m3, m4, hA2, A2, eT2⟩
    · exact two_d (by constructor <;> decide) (m_B_joint_1 ⟨he, hc⟩ m1 m3) (m_M_joint_0 ⟨he, hc, hd⟩ (fun z => m4 z.2.1)) rfl ⟨fo9 0, bd, tk, laws, slot, ahead, made, od, dn, un, len, nn, ft, rr, ff, gg, l0, D0, B0, js, wh, fa, fb, fw, fl, sl_, l9, W0, lv, op, r9, dd, l8, fd, f1, f2, kp, fi, se, ta, tl, by9, xtp, xwg, xwh, xmd, xsl, xhw, xhs, xhd, xha, xp1, xp2, xp3, xl1, xl2, xrt, xlf, xdc, xhn, xsu, fo9, dy, hT, hS, hJ, hD, hI, rfl, rfl⟩
    · by_cases h2 : 0 ≤ d ∧ d ≤ 1
      · have hTq : ∀ v, 0 ≤ Tm xwg q v ∧ Tm xwg q v ≤ 1048576 := by rw [eT]; exact lw_q A
        have hTq2 : ∀ v, 0 ≤ Tm xwg q2 v ∧ Tm xwg q2 v ≤ 1048576 := by rw [eT2]; exact lw_q A2
        have ej := jn_jM A A2 (d := d) (by omega)
        have hlen := jn_len (at_ := at_) (wt := wt) (at2 := at2) (wt2 := wt2) (W := xwh q) (W2 := xwh q2) (lk := decide (d = 0)) A.1.2 A2.1.2
        rw [← eT, ← eT2] at ej
        refine am_mono (m_B_joint ⟨he, hc, hd⟩ h2 m1 m3 hA A hA2 A2) (fun x g z => ?_) (fun _ z => z)
        obtain ⟨fa2, fb2, fw2, fl2, sl2, hr, rfl, rfl⟩ := z
        refine ⟨_, by constructor <;> omega, rfl, am_monoR (m_M_joint m2 hTq ⟨A.2.2.2.1, A.2.2.2.2.1⟩ m4 hTq2 ⟨A2.2.2.2.1, A2.2.2.2.2.1⟩ h2 (by rw [← ej]; omega)) (fun y g2 w => ?_) (fun _ w => w)⟩
        obtain ⟨p1, p2, p3, l1, l2, hr2, rfl, rfl⟩ := w
        rw [← ej] at hr2 ⊢
        have hJ2 : joR (jn n m at_ wt at2 wt2 (xwh q) (xwh q2) (decide (d = 0))) (xwh q * xwh q2) fa2 fb2 fw2 p1 p2 p3 := ⟨hlen, hr, hr2, jn_ok A A2⟩
        exact ⟨rfl, ⟨fo9 0, bd, tk, laws, slot, ahead, made, od, dn, un, len, nn, ft, rr, ff, gg, l0, D0, B0, _, _, fa2, fb2, fw2, fl2, sl2, l9, W0, lv, op, r9, dd, l8, fd, f1, f2, kp, fi, se, ta, tl, by9, xtp, xwg, xwh, xmd, xsl, xhw, xhs, xhd, xha, p1, p2, p3, l1, l2, xrt, xlf, xdc, xhn, xsu, fo9, dy, hT, hS, hJ2, hD, hI, rfl, rfl⟩⟩
      · exact two_d (by constructor <;> decide) (m_B_joint_2 ⟨he, hc, hd⟩ h2 m1 m3) (m_M_joint_0 ⟨he, hc, hd⟩ (fun z => h2 z.2.2)) rfl ⟨fo9 0, bd, tk, laws, slot, ahead, made, od, dn, un, len, nn, ft, rr, ff, gg, l0, D0, B0, js, wh, fa, fb, fw, fl, sl_, l9, W0, lv, op, r9, dd, l8, fd, f1, f2, kp, fi, se, ta, tl, by9, xtp, xwg, xwh, xmd, xsl, xhw, xhs, xhd, xha, xp1, xp2, xp3, xl1, xl2, xrt, xlf, xdc, xhn, xsu, fo9, dy, hT, hS, hJ, hD, hI, rfl, rfl⟩
theorem two_ring (hT : tpR len ft xtp) (hS : shR (some (ar 1 1 fo9) :: dy) laws slot ahead made od dn un xwg xwh xsl xhw xhs xhd xha) (hJ : joR js wh fa fb fw xp1 xp2 xp3) (hD : diR fd f1 f2 kp xdc) (hI : I32 bd ∧ I32 tk) (hd : I32 d) : TwoL G M_B_ring M_M_ring [vi d] (Hp (sgB bd tk) (sgS laws slot ahead made (od : Int) (dn : Int) (un : Int)) (sgT (len : Int) ft) (sgK (nn : Int) rr ff gg) (sgF l0 D0 B0) (sgJ (js.length : Int) wh fa fb fw fl sl_) (sgR l9 W0 lv op r9 dd) (sgD (l8 : Int) fd f1 f2 kp fi se ta tl) (sgM th (len : Int) by9 (dn : Int) ((dn + un : Nat) : Int) bd (js.length : Int) wh tk fd f1 f2 xtp xwg xwh xmd xsl xhw xhs xhd xha xp1 xp2 xp3 xl1 xl2 xrt xlf xdc xhn xsu) (some (ar 1 1 fo9) :: dy)) := by
  have hln := hT.1
  have eb : ∀ j, ft j = ((bq xtp j : Nat) : Int) := fun j => by rw [← bq_eq]; exact (hT.2 j).2
  have hlw : ∀ j, lawAt laws (ft j) = none ↔ ¬ isLw xwh ((bq xtp j : Nat) : Int) := fun j => by
    rw [← eb]
    rcases hS.at (ft j) with ⟨l1, l2⟩ | ⟨q', k, k1, k2, n, at_, wt, e, hq16, l1, l2, hA, A, eT⟩
    · exact ⟨fun _ => l2, fun _ => l1⟩
    · rw [l1, e]; exact ⟨fun z => (nomatch z), fun z => absurd l2 z⟩
  have hT2 : tpR 0 ft xtp := ⟨by omega, hT.2⟩
  refine am_mono (m_B_ring (Tb := fun a => Tm xwg a.toNat) (Wb := fun a => if 0 ≤ a ∧ a < 16 then xwh a.toNat else 0) hd hln (fun i => (hT.2 i).1) (fun a => hS.law a)) (fun x g z => ?_) (fun _ z => z)
  obtain ⟨rfl, z⟩ := z
  have hM := fun b s t mk df jo tr di dz => m_M_ring (G := G) (b := b) (s := s) (t := t) (mk := mk) (df := df) (jo := jo) (tr := tr) (di := di) (dy := dz) (th := th) (n := len) (by9 := by9) (dn := (dn : Int)) (ac := ((dn + un : Nat) : Int)) (bd := bd) (pm := (js.length : Int)) (pq := wh) (tk := tk) (fo := fd) (f1 := f1) (f2 := f2) (xtp := xtp) (xwg := xwg) (xwh := xwh) (xmd := xmd) (xsl := xsl) (xhw := xhw) (xhs := xhs) (xhd := xhd) (xha := xha) (xp1 := xp1) (xp2 := xp2) (xp3 := xp3) (xl1 := xl1) (xl2 := xl2) (xrt := xrt) (xlf := xlf) (xdc := xdc) (xhn := xhn) (xsu := xsu) hd hln hS.lws
  rcases z with ⟨hbad, rfl⟩ | ⟨g1, g2, g3, rfl⟩
  · refine ⟨-1, by constructor <;> decide, rfl, am_monoR (hM _ _ _ _ _ _ _ _ _) (fun y g2 w => ?_) (fun _ w => w)⟩
    obtain ⟨rfl, w⟩ := w
    rcases w with ⟨-, rfl⟩ | ⟨w1, w2, w3, -⟩
    · exact ⟨rfl, fo9 0, bd, tk, laws, slot, ahead, made, od, dn, un, 0, nn, ft, rr, ff, gg, l0, D0, B0, js, wh, fa, fb, fw, fl, sl_, l9, W0, lv, op, r9, dd, l8, fd, f1, f2, kp, fi, se, ta, tl, by9, xtp, xwg, xwh, xmd, xsl, xhw, xhs, xhd, xha, xp1, xp2, xp3, xl1, xl2, xrt, xlf, xdc, xhn, xsu, fo9, dy, hT2, hS, hJ, hD, hI, rfl, rfl⟩
    · exfalso
      rcases hbad with z | z | ⟨j, hj, z⟩
      · exact z w1
      · exact z w2
      · exact (hlw j).mp z (w3 j hj)
  · have hl : ∀ j, j < len → isLw xwh ((bq xtp j : Nat) : Int) := fun j hj => Classical.byContradiction (fun z => g3 j hj ((hlw j).mpr z))
    have eX : ∀ j, j < len → rX (fun a => Tm xwg a.toNat) ft len j = mX xwg xtp len j ∧ rY (fun a => if 0 ≤ a ∧ a < 16 then xwh a.toNat else 0) ft len j = mY xwh xtp len j := fun j hj => by
      have h1 := (hl j hj).1
      have h2 := (hl (nx len j) (nx_lt hj)).1
      simp only [rX, rY, mX, mY]
      rw [eb j, eb (nx len j), if_pos h1, if_pos h2]
      exact ⟨rfl, rfl⟩
    rw [rg_ext len eX]
    have hXY : ∀ k, k < len → 0 ≤ mX xwg xtp len k ∧ mX xwg xtp len k ≤ mY xwh xtp len k ∧ 1 ≤ mY xwh xtp len k := fun k hk => by
      have a1 := hl k hk
      have a2 := hl (nx len k) (nx_lt hk)
      have b := hS.lws.2 _ _ a1 a2
      have c1 := (hS.lws.1 _ a1).2
      have c2 := (hS.lws.1 _ a2).2
      have := Int.mul_le_mul c1.1 c2.1 (by omega) (by omega)
      exact ⟨b.1, b.2, by simp only [mY]; omega⟩
    have hrm := rgm_in hS.lws hl len (Nat.le_refl _)
    rw [rgA_eq (by omega) hXY]
    refine ⟨_, ?_, rfl, am_monoR (hM _ _ _ _ _ _ _ _ _) (fun y h9 w => ?_) (fun _ w => w)⟩
    · unfold rgA
      split
      · split <;> (constructor <;> decide)
      · have := prt_in (d := d) hrm.1 hrm.2 (by decide)
        constructor <;> omega
    · obtain ⟨rfl, w⟩ := w
      rcases w with ⟨w1, -⟩ | ⟨-, -, -, rfl⟩
      · exfalso
        rcases w1 with z | z | ⟨j, hj, z⟩
        · exact z g1
        · exact z g2
        · exact z (hl j hj)
      · exact ⟨rfl, fo9 0, bd, tk, laws, slot, ahead, made, od, dn, un, 0, nn, ft, rr, ff, gg, l0, D0, B0, js, wh, fa, fb, fw, fl, sl_, l9, W0, lv, op, r9, dd, l8, fd, f1, f2, kp, fi, se, ta, tl, by9, xtp, xwg, xwh, xmd, xsl, xhw, xhs, xhd, xha, xp1, xp2, xp3, xl1, xl2, xrt, xlf, xdc, xhn, xsu, fo9, dy, hT2, hS, hJ, hD, hI, rfl, rfl⟩
end
