section
variable {G : GT} {h : HT} {a c d e B th : Int} {bd tk : Int} {laws : Nat → Option (Nat × Nat)} {slot : Nat → Int} {ahead made : Nat → Option (Nat × Nat)} {od dn un len nn : Nat} {ft : Nat → Int} {rr : Int} {ff gg : Nat → Int} {l0 : Int} {D0 B0 : Nat → Int} {js : List T3} {wh : Int} {fa fb fw fl sl_ : Nat → Int} {l9 W0 lv op : Int} {r9 dd : Nat → Int} {l8 : Nat} {fd f1 f2 : Int} {kp fi se ta tl : Nat → Int} {by9 : Int} {xtp xwg xwh xmd xsl xhw xhs xhd xha xp1 xp2 xp3 xl1 xl2 xrt xlf xdc xhn xsu : Nat → Int} {fo9 : Nat → Int} {dy : SG}
theorem two_pairs (hT : tpR len ft xtp) (hS : shR (some (ar 1 1 fo9) :: dy) laws slot ahead made od dn un xwg xwh xsl xhw xhs xhd xha) (hJ : joR js wh fa fb fw xp1 xp2 xp3) (hD : diR fd f1 f2 kp xdc) (hI : I32 bd ∧ I32 tk) (he : I32 e) (hc : I32 c) (hd : I32 d) : Two G M_B_pairs M_M_pairs [vi e, vi c, vi d] (Hp (sgB bd tk) (sgS laws slot ahead made (od : Int) (dn : Int) (un : Int)) (sgT (len : Int) ft) (sgK (nn : Int) rr ff gg) (sgF l0 D0 B0) (sgJ (js.length : Int) wh fa fb fw fl sl_) (sgR l9 W0 lv op r9 dd) (sgD (l8 : Int) fd f1 f2 kp fi se ta tl) (sgM th (len : Int) by9 (dn : Int) ((dn + un : Nat) : Int) bd (js.length : Int) wh tk fd f1 f2 xtp xwg xwh xmd xsl xhw xhs xhd xha xp1 xp2 xp3 xl1 xl2 xrt xlf xdc xhn xsu) (some (ar 1 1 fo9) :: dy)) := by
  rcases hS.at e with ⟨m1, m2⟩ | ⟨q, k, k1, k2, n, at_, wt, rfl, hq16, m1, m2, hA, A, eT⟩
  · exact two_d (by constructor <;> decide) (m_B_pairs_0 he m1) (m_M_pairs_0 ⟨he, hc, hd⟩ (fun z => m2 z.1)) rfl ⟨fo9 0, bd, tk, laws, slot, ahead, made, od, dn, un, len, nn, ft, rr, ff, gg, l0, D0, B0, js, wh, fa, fb, fw, fl, sl_, l9, W0, lv, op, r9, dd, l8, fd, f1, f2, kp, fi, se, ta, tl, by9, xtp, xwg, xwh, xmd, xsl, xhw, xhs, xhd, xha, xp1, xp2, xp3, xl1, xl2, xrt, xlf, xdc, xhn, xsu, fo9, dy, hT, hS, hJ, hD, hI, rfl, rfl⟩
  · by_cases h2 : (1 ≤ c ∧ c ≤ 6) ∧ (1 ≤ d ∧ d ≤ 6)
    · obtain ⟨nf, rfl⟩ : ∃ nf : Nat, c = (nf : Int) := ⟨c.toNat, by omega⟩
      obtain ⟨mf, rfl⟩ : ∃ mf : Nat, d = (mf : Int) := ⟨d.toNat, by omega⟩
      have h3 : 1 ≤ nf ∧ nf ≤ 6 := by omega
      have h4 : 1 ≤ mf ∧ mf ≤ 6 := by omega
      have hTq : ∀ v, 0 ≤ Tm xwg q v ∧ Tm xwg q v ≤ 1048576 := by rw [eT]; exact lw_q A
      obtain ⟨d1, d2, d3⟩ := dc_eq A eT h3 h4
      have hlen := dcL_len (at_ := at_) (wt := wt) (n := n) (W := xwh q) h3 h4
      refine am_mono (m_B_pairs he h3 h4 m1 hA A) (fun x g z => ?_) (fun _ z => z)
      obtain ⟨rfl, l8, kp2, fi2, se2, ta2, tl2, hr, rfl⟩ := z
      refine ⟨_, by constructor <;> omega, rfl, am_monoR (m_M_pairs m2 hTq ⟨A.2.2.2.1, A.2.2.2.2.1⟩ h3 h4 d1) (fun y g2 w => ?_) (fun _ w => w)⟩
      obtain ⟨rfl, dc2, hn2, su2, hr2, rfl⟩ := w
      rw [← d2] at hr2 ⊢
      have hD2 := di_rows h3.2 h4.2 hlen d3 hr hr2
      exact ⟨rfl, ⟨fo9 0, bd, tk, laws, slot, ahead, made, od, dn, un, len, nn, ft, rr, ff, gg, l0, D0, B0, js, wh, fa, fb, fw, fl, sl_, l9, W0, lv, op, r9, dd, l8, _, _, _, kp2, fi2, se2, ta2, tl2, by9, xtp, xwg, xwh, xmd, xsl, xhw, xhs, xhd, xha, xp1, xp2, xp3, xl1, xl2, xrt, xlf, dc2, hn2, su2, fo9, dy, hT, hS, hJ, hD2, hI, rfl, rfl⟩⟩
    · exact two_d (by constructor <;> decide) (m_B_pairs_1 ⟨he, hc, hd⟩ h2 m1) (m_M_pairs_0 ⟨he, hc, hd⟩ (fun z => h2 z.2)) rfl ⟨fo9 0, bd, tk, laws, slot, ahead, made, od, dn, un, len, nn, ft, rr, ff, gg, l0, D0, B0, js, wh, fa, fb, fw, fl, sl_, l9, W0, lv, op, r9, dd, l8, fd, f1, f2, kp, fi, se, ta, tl, by9, xtp, xwg, xwh, xmd, xsl, xhw, xhs, xhd, xha, xp1, xp2, xp3, xl1, xl2, xrt, xlf, xdc, xhn, xsu, fo9, dy, hT, hS, hJ, hD, hI, rfl, rfl⟩
end
