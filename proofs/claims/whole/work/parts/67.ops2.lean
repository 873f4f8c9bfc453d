theorem am_ok {G : GT} {M : MI} {as : List AV} {h : HT} {Qr : Option AV → HT → Prop} {Qt : HT → Prop} (k : (∀ (s q : Nat) (c : AC), hget h s q = some c → okC c) → AMet G M as h Qr Qt) : AMet G M as h Qr Qt := by
  intro hl p e a1 a2 a3 s m args below f1 f2 f3 f4
  exact k (fun s q c hc => (f3.2.1.2 s q c hc).2.1) hl p e a1 a2 a3 s m args below f1 f2 f3 f4
theorem fdL_in {js : List T3} {w a c : Int} (hw : 0 ≤ w) (h : ∀ x ∈ js, 0 ≤ x.2.2 ∧ x.2.2 ≤ w) : 0 ≤ fdL a c js ∧ fdL a c js ≤ w := by
  induction js with
  | nil => simp only [fdL]; omega
  | cons x js ih =>
    rw [fdL]
    split
    · exact h x List.mem_cons_self
    · exact ih (fun y hy => h y (List.mem_cons_of_mem _ hy))
section
variable {G : GT} {h : HT} {a c d e B th : Int} {bd tk : Int} {laws : Nat → Option (Nat × Nat)} {slot : Nat → Int} {ahead made : Nat → Option (Nat × Nat)} {od dn un len nn : Nat} {ft : Nat → Int} {rr : Int} {ff gg : Nat → Int} {l0 : Int} {D0 B0 : Nat → Int} {js : List T3} {wh : Int} {fa fb fw fl sl_ : Nat → Int} {l9 W0 lv op : Int} {r9 dd : Nat → Int} {l8 : Nat} {fd f1 f2 : Int} {kp fi se ta tl : Nat → Int} {by9 : Int} {xtp xwg xwh xmd xsl xhw xhs xhd xha xp1 xp2 xp3 xl1 xl2 xrt xlf xdc xhn xsu : Nat → Int} {fo9 : Nat → Int} {dy : SG}
theorem op_apart (hT : tpR len ft xtp) (hS : shR (some (ar 1 1 fo9) :: dy) laws slot ahead made od dn un xwg xwh xsl xhw xhs xhd xha) (hJ : joR js wh fa fb fw xp1 xp2 xp3) (hD : diR fd f1 f2 kp xdc) (hI : I32 bd ∧ I32 tk) (he : I32 e) (hc : I32 c) (hd : I32 d) : Op G M_Z_apart [(0, 11, 14, 13)] M_M_apart I64 (fun z => vl z) [vi e, vi c, vi d] (Hp (sgB bd tk) (sgS laws slot ahead made (od : Int) (dn : Int) (un : Int)) (sgT (len : Int) ft) (sgK (nn : Int) rr ff gg) (sgF l0 D0 B0) (sgJ (js.length : Int) wh fa fb fw fl sl_) (sgR l9 W0 lv op r9 dd) (sgD (l8 : Int) fd f1 f2 kp fi se ta tl) (sgM th (len : Int) by9 (dn : Int) ((dn + un : Nat) : Int) bd (js.length : Int) wh tk fd f1 f2 xtp xwg xwh xmd xsl xhw xhs xhd xha xp1 xp2 xp3 xl1 xl2 xrt xlf xdc xhn xsu) (some (ar 1 1 fo9) :: dy)) := by
  have hdn : dn ≤ 30 := by have := hS.1.2.1; omega
  have hln := hT.1
  refine h_apart rfl ?_
  rcases hS.at e with ⟨l1, l2⟩ | ⟨q, k, k1, k2, n, at_, wt, rfl, hq16, l1, l2, hA, A, eT⟩
  · refine am_mono (m_B_apart_t he l1) (fun _ _ z => z.elim) (fun g hg => ?_)
    obtain ⟨j9, rfl⟩ := hg
    rw [junk_Hp]
    exact am_monoR (m_M_apart_0 ⟨he, hc, hd⟩ (fun z => l2 z.1)) (fun y g2 w => ⟨⟨_, w.1⟩, fo9 0, by rw [w.2]; exact ⟨bd, tk, laws, slot, ahead, made, od, dn, un, len, nn, ft, rr, ff, gg, l0, D0, B0, js, wh, fa, fb, fw, fl, sl_, l9, W0, lv, op, r9, dd, l8, fd, f1, f2, kp, fi, se, ta, tl, by9, xtp, xwg, xwh, xmd, xsl, xhw, xhs, xhd, xha, xp1, xp2, xp3, xl1, xl2, xrt, xlf, xdc, xhn, xsu, fo9, dy ++ List.replicate j9 none, hT, hS.app, hJ, hD, hI, rfl, rfl⟩⟩) (fun _ z => z)
  · rcases hS.at c with ⟨l3, l4⟩ | ⟨q2, j, j1, j2, m, at2, wt2, rfl, hq17, l3, l4, hA2, A2, eT2⟩
    · refine am_mono (m_B_apart_t1 ⟨he, hc⟩ l1 l3) (fun _ _ z => z.elim) (fun g hg => ?_)
      obtain ⟨j9, rfl⟩ := hg
      rw [junk_Hp]
      exact am_monoR (m_M_apart_0 ⟨he, hc, hd⟩ (fun z => l4 z.2.1)) (fun y g2 w => ⟨⟨_, w.1⟩, fo9 0, by rw [w.2]; exact ⟨bd, tk, laws, slot, ahead, made, od, dn, un, len, nn, ft, rr, ff, gg, l0, D0, B0, js, wh, fa, fb, fw, fl, sl_, l9, W0, lv, op, r9, dd, l8, fd, f1, f2, kp, fi, se, ta, tl, by9, xtp, xwg, xwh, xmd, xsl, xhw, xhs, xhd, xha, xp1, xp2, xp3, xl1, xl2, xrt, xlf, xdc, xhn, xsu, fo9, dy ++ List.replicate j9 none, hT, hS.app, hJ, hD, hI, rfl, rfl⟩⟩) (fun _ z => z)
    · have hTq : ∀ v, 0 ≤ Tm xwg q v ∧ Tm xwg q v ≤ 1048576 := by rw [eT]; exact lw_q A
      have hTq2 : ∀ v, 0 ≤ Tm xwg q2 v ∧ Tm xwg q2 v ≤ 1048576 := by rw [eT2]; exact lw_q A2
      have hw : 1 ≤ xwh q ∧ xwh q ≤ 1048576 := ⟨A.2.2.2.1, A.2.2.2.2.1⟩
      have hw2 : 1 ≤ xwh q2 ∧ xwh q2 ≤ 1048576 := ⟨A2.2.2.2.1, A2.2.2.2.2.1⟩
      have hww := mulB (x := xwh q) (y := xwh q2) (by omega) (by omega) (by omega) (by omega)
      have hw1 := Int.mul_le_mul hw.1 hw2.1 (by omega) (by omega)
      by_cases h2 : d = 0 ∨ d = 1
      · have h8 := size_in A A2
        have eX : sT (fun u => ab (Ed n m at_ wt at2 wt2 (xwh q) (xwh q2) u)) = sT (fun u => ab ((fun u => Tm xwg q u * xwh q2 - Tm xwg q2 u * xwh q) u)) := sT_ext (fun u _ => by show ab (xwh q2 * den at_ wt n u - xwh q * den at2 wt2 m u) = ab (Tm xwg q u * xwh q2 - Tm xwg q2 u * xwh q); rw [eT, eT2, Int.mul_comm (xwh q2), Int.mul_comm (xwh q)])
        have hv : I64 (prt (sT (fun u => ab (Ed n m at_ wt at2 wt2 (xwh q) (xwh q2) u))) (2 * (xwh q * xwh q2)) d) := prt_I64 (by constructor <;> omega) (by omega)
        refine am_mono (m_B_apart ⟨he, hc⟩ h2 l1 l3 hA A hA2 A2) (fun r g z => ?_) (fun _ z => z.elim)
        obtain ⟨z1, L, D9, Bf, rfl⟩ := z
        refine ⟨prt (sT (fun u => ab (Ed n m at_ wt at2 wt2 (xwh q) (xwh q2) u))) (2 * (xwh q * xwh q2)) d, z1, hv, _, _, _, _, _, _, _, _, _, _, _, rfl, hv, ?_⟩
        exact am_monoR (m_M_apart l2 hTq hw l4 hTq2 hw2 h2 (by rw [← eX]; constructor <;> omega)) (fun y g2 w => ⟨by rw [w.1, eX], by rw [w.2]; exact ⟨bd, tk, laws, slot, ahead, made, od, dn, un, len, nn, ft, rr, ff, gg, _, _, _, js, wh, fa, fb, fw, fl, sl_, l9, W0, lv, op, r9, dd, l8, fd, f1, f2, kp, fi, se, ta, tl, by9, xtp, xwg, xwh, xmd, xsl, xhw, xhs, xhd, xha, xp1, xp2, xp3, xl1, xl2, xrt, xlf, xdc, xhn, xsu, _, dy, hT, hS.out, hJ, hD, hI, va_eq, rfl⟩⟩) (fun _ z => z)
      · refine am_mono (m_B_apart_t2 ⟨he, hc⟩ hd h2 l1 l3 hA A hA2 A2) (fun _ _ z => z.elim) (fun g hg => ?_)
        obtain ⟨L, D9, Bf, j9, rfl⟩ := hg
        rw [junk_Hp]
        exact am_monoR (m_M_apart_0 ⟨he, hc, hd⟩ (fun z => h2 z.2.2)) (fun y g2 w => ⟨⟨_, w.1⟩, fo9 0, by rw [w.2]; exact ⟨bd, tk, laws, slot, ahead, made, od, dn, un, len, nn, ft, rr, ff, gg, _, _, _, js, wh, fa, fb, fw, fl, sl_, l9, W0, lv, op, r9, dd, l8, fd, f1, f2, kp, fi, se, ta, tl, by9, xtp, xwg, xwh, xmd, xsl, xhw, xhs, xhd, xha, xp1, xp2, xp3, xl1, xl2, xrt, xlf, xdc, xhn, xsu, fo9, dy ++ List.replicate j9 none, hT, hS.app, hJ, hD, hI, rfl, rfl⟩⟩) (fun _ z => z)
theorem op_far (hT : tpR len ft xtp) (hS : shR (some (ar 1 1 fo9) :: dy) laws slot ahead made od dn un xwg xwh xsl xhw xhs xhd xha) (hJ : joR js wh fa fb fw xp1 xp2 xp3) (hD : diR fd f1 f2 kp xdc) (hI : I32 bd ∧ I32 tk) (he : I32 e) (hc : I32 c) (hd : I32 d) : Op G M_Z_far [(0, 11, 14, 13)] M_M_far I64 (fun z => vl z) [vi e, vi c, vi d] (Hp (sgB bd tk) (sgS laws slot ahead made (od : Int) (dn : Int) (un : Int)) (sgT (len : Int) ft) (sgK (nn : Int) rr ff gg) (sgF l0 D0 B0) (sgJ (js.length : Int) wh fa fb fw fl sl_) (sgR l9 W0 lv op r9 dd) (sgD (l8 : Int) fd f1 f2 kp fi se ta tl) (sgM th (len : Int) by9 (dn : Int) ((dn + un : Nat) : Int) bd (js.length : Int) wh tk fd f1 f2 xtp xwg xwh xmd xsl xhw xhs xhd xha xp1 xp2 xp3 xl1 xl2 xrt xlf xdc xhn xsu) (some (ar 1 1 fo9) :: dy)) := by
  have hdn : dn ≤ 30 := by have := hS.1.2.1; omega
  have hln := hT.1
  refine h_far rfl ?_
  rcases hS.at e with ⟨l1, l2⟩ | ⟨q, k, k1, k2, n, at_, wt, rfl, hq16, l1, l2, hA, A, eT⟩
  · refine am_mono (m_B_far_t he l1) (fun _ _ z => z.elim) (fun g hg => ?_)
    obtain ⟨j9, rfl⟩ := hg
    rw [junk_Hp]
    exact am_monoR (m_M_far_0 ⟨he, hc, hd⟩ (fun z => l2 z.1)) (fun y g2 w => ⟨⟨_, w.1⟩, fo9 0, by rw [w.2]; exact ⟨bd, tk, laws, slot, ahead, made, od, dn, un, len, nn, ft, rr, ff, gg, l0, D0, B0, js, wh, fa, fb, fw, fl, sl_, l9, W0, lv, op, r9, dd, l8, fd, f1, f2, kp, fi, se, ta, tl, by9, xtp, xwg, xwh, xmd, xsl, xhw, xhs, xhd, xha, xp1, xp2, xp3, xl1, xl2, xrt, xlf, xdc, xhn, xsu, fo9, dy ++ List.replicate j9 none, hT, hS.app, hJ, hD, hI, rfl, rfl⟩⟩) (fun _ z => z)
  · rcases hS.at c with ⟨l3, l4⟩ | ⟨q2, j, j1, j2, m, at2, wt2, rfl, hq17, l3, l4, hA2, A2, eT2⟩
    · refine am_mono (m_B_far_t1 ⟨he, hc⟩ l1 l3) (fun _ _ z => z.elim) (fun g hg => ?_)
      obtain ⟨j9, rfl⟩ := hg
      rw [junk_Hp]
      exact am_monoR (m_M_far_0 ⟨he, hc, hd⟩ (fun z => l4 z.2.1)) (fun y g2 w => ⟨⟨_, w.1⟩, fo9 0, by rw [w.2]; exact ⟨bd, tk, laws, slot, ahead, made, od, dn, un, len, nn, ft, rr, ff, gg, l0, D0, B0, js, wh, fa, fb, fw, fl, sl_, l9, W0, lv, op, r9, dd, l8, fd, f1, f2, kp, fi, se, ta, tl, by9, xtp, xwg, xwh, xmd, xsl, xhw, xhs, xhd, xha, xp1, xp2, xp3, xl1, xl2, xrt, xlf, xdc, xhn, xsu, fo9, dy ++ List.replicate j9 none, hT, hS.app, hJ, hD, hI, rfl, rfl⟩⟩) (fun _ z => z)
    · have hTq : ∀ v, 0 ≤ Tm xwg q v ∧ Tm xwg q v ≤ 1048576 := by rw [eT]; exact lw_q A
      have hTq2 : ∀ v, 0 ≤ Tm xwg q2 v ∧ Tm xwg q2 v ≤ 1048576 := by rw [eT2]; exact lw_q A2
      have hw : 1 ≤ xwh q ∧ xwh q ≤ 1048576 := ⟨A.2.2.2.1, A.2.2.2.2.1⟩
      have hw2 : 1 ≤ xwh q2 ∧ xwh q2 ≤ 1048576 := ⟨A2.2.2.2.1, A2.2.2.2.2.1⟩
      have hww := mulB (x := xwh q) (y := xwh q2) (by omega) (by omega) (by omega) (by omega)
      have hw1 := Int.mul_le_mul hw.1 hw2.1 (by omega) (by omega)
      by_cases h2 : d = 0 ∨ d = 1
      · have h8 := area_in A A2
        have eX : sT (fun s => ab (cum (Ed n m at_ wt at2 wt2 (xwh q) (xwh q2)) s)) = sT (fun u => ab (cum (Tm xwg q) u * xwh q2 - cum (Tm xwg q2) u * xwh q)) := sT_ext (fun u _ => by rw [Ed_cum, eT, eT2, Int.mul_comm (xwh q2), Int.mul_comm (xwh q)])
        have hv : I64 (prt (sT (fun s => ab (cum (Ed n m at_ wt at2 wt2 (xwh q) (xwh q2)) s))) (xwh q * xwh q2) d) := prt_I64 (by constructor <;> omega) (by omega)
        refine am_mono (m_B_far ⟨he, hc⟩ h2 l1 l3 hA A hA2 A2) (fun r g z => ?_) (fun _ z => z.elim)
        obtain ⟨z1, L, D9, Bf, rfl⟩ := z
        refine ⟨prt (sT (fun s => ab (cum (Ed n m at_ wt at2 wt2 (xwh q) (xwh q2)) s))) (xwh q * xwh q2) d, z1, hv, _, _, _, _, _, _, _, _, _, _, _, rfl, hv, ?_⟩
        exact am_monoR (m_M_far l2 hTq hw l4 hTq2 hw2 h2 (by rw [← eX]; constructor <;> omega)) (fun y g2 w => ⟨by rw [w.1, eX], by rw [w.2]; exact ⟨bd, tk, laws, slot, ahead, made, od, dn, un, len, nn, ft, rr, ff, gg, _, _, _, js, wh, fa, fb, fw, fl, sl_, l9, W0, lv, op, r9, dd, l8, fd, f1, f2, kp, fi, se, ta, tl, by9, xtp, xwg, xwh, xmd, xsl, xhw, xhs, xhd, xha, xp1, xp2, xp3, xl1, xl2, xrt, xlf, xdc, xhn, xsu, _, dy, hT, hS.out, hJ, hD, hI, va_eq, rfl⟩⟩) (fun _ z => z)
      · refine am_mono (m_B_far_t2 ⟨he, hc⟩ hd h2 l1 l3 hA A hA2 A2) (fun _ _ z => z.elim) (fun g hg => ?_)
        obtain ⟨L, D9, Bf, j9, rfl⟩ := hg
        rw [junk_Hp]
        exact am_monoR (m_M_far_0 ⟨he, hc, hd⟩ (fun z => h2 z.2.2)) (fun y g2 w => ⟨⟨_, w.1⟩, fo9 0, by rw [w.2]; exact ⟨bd, tk, laws, slot, ahead, made, od, dn, un, len, nn, ft, rr, ff, gg, _, _, _, js, wh, fa, fb, fw, fl, sl_, l9, W0, lv, op, r9, dd, l8, fd, f1, f2, kp, fi, se, ta, tl, by9, xtp, xwg, xwh, xmd, xsl, xhw, xhs, xhd, xha, xp1, xp2, xp3, xl1, xl2, xrt, xlf, xdc, xhn, xsu, fo9, dy ++ List.replicate j9 none, hT, hS.app, hJ, hD, hI, rfl, rfl⟩⟩) (fun _ z => z)
theorem op_beats (hT : tpR len ft xtp) (hS : shR (some (ar 1 1 fo9) :: dy) laws slot ahead made od dn un xwg xwh xsl xhw xhs xhd xha) (hJ : joR js wh fa fb fw xp1 xp2 xp3) (hD : diR fd f1 f2 kp xdc) (hI : I32 bd ∧ I32 tk) (he : I32 e) (hc : I32 c) (hd : I32 d) : Op G M_Z_beats [(0, 11, 14, 13)] M_M_beats I64 (fun z => vl z) [vi e, vi c, vi d] (Hp (sgB bd tk) (sgS laws slot ahead made (od : Int) (dn : Int) (un : Int)) (sgT (len : Int) ft) (sgK (nn : Int) rr ff gg) (sgF l0 D0 B0) (sgJ (js.length : Int) wh fa fb fw fl sl_) (sgR l9 W0 lv op r9 dd) (sgD (l8 : Int) fd f1 f2 kp fi se ta tl) (sgM th (len : Int) by9 (dn : Int) ((dn + un : Nat) : Int) bd (js.length : Int) wh tk fd f1 f2 xtp xwg xwh xmd xsl xhw xhs xhd xha xp1 xp2 xp3 xl1 xl2 xrt xlf xdc xhn xsu) (some (ar 1 1 fo9) :: dy)) := by
  have hdn : dn ≤ 30 := by have := hS.1.2.1; omega
  have hln := hT.1
  refine h_beats rfl ?_
  rcases hS.at e with ⟨l1, l2⟩ | ⟨q, k, k1, k2, n, at_, wt, rfl, hq16, l1, l2, hA, A, eT⟩
  · refine am_mono (m_B_beats_t he l1) (fun _ _ z => z.elim) (fun g hg => ?_)
    obtain ⟨j9, rfl⟩ := hg
    rw [junk_Hp]
    exact am_monoR (m_M_beats_0 ⟨he, hc, hd⟩ (fun z => l2 z.1)) (fun y g2 w => ⟨⟨_, w.1⟩, fo9 0, by rw [w.2]; exact ⟨bd, tk, laws, slot, ahead, made, od, dn, un, len, nn, ft, rr, ff, gg, l0, D0, B0, js, wh, fa, fb, fw, fl, sl_, l9, W0, lv, op, r9, dd, l8, fd, f1, f2, kp, fi, se, ta, tl, by9, xtp, xwg, xwh, xmd, xsl, xhw, xhs, xhd, xha, xp1, xp2, xp3, xl1, xl2, xrt, xlf, xdc, xhn, xsu, fo9, dy ++ List.replicate j9 none, hT, hS.app, hJ, hD, hI, rfl, rfl⟩⟩) (fun _ z => z)
  · rcases hS.at c with ⟨l3, l4⟩ | ⟨q2, j, j1, j2, m, at2, wt2, rfl, hq17, l3, l4, hA2, A2, eT2⟩
    · refine am_mono (m_B_beats_t1 ⟨he, hc⟩ l1 l3) (fun _ _ z => z.elim) (fun g hg => ?_)
      obtain ⟨j9, rfl⟩ := hg
      rw [junk_Hp]
      exact am_monoR (m_M_beats_0 ⟨he, hc, hd⟩ (fun z => l4 z.2.1)) (fun y g2 w => ⟨⟨_, w.1⟩, fo9 0, by rw [w.2]; exact ⟨bd, tk, laws, slot, ahead, made, od, dn, un, len, nn, ft, rr, ff, gg, l0, D0, B0, js, wh, fa, fb, fw, fl, sl_, l9, W0, lv, op, r9, dd, l8, fd, f1, f2, kp, fi, se, ta, tl, by9, xtp, xwg, xwh, xmd, xsl, xhw, xhs, xhd, xha, xp1, xp2, xp3, xl1, xl2, xrt, xlf, xdc, xhn, xsu, fo9, dy ++ List.replicate j9 none, hT, hS.app, hJ, hD, hI, rfl, rfl⟩⟩) (fun _ z => z)
    · have hTq : ∀ v, 0 ≤ Tm xwg q v ∧ Tm xwg q v ≤ 1048576 := by rw [eT]; exact lw_q A
      have hTq2 : ∀ v, 0 ≤ Tm xwg q2 v ∧ Tm xwg q2 v ≤ 1048576 := by rw [eT2]; exact lw_q A2
      have hw : 1 ≤ xwh q ∧ xwh q ≤ 1048576 := ⟨A.2.2.2.1, A.2.2.2.2.1⟩
      have hw2 : 1 ≤ xwh q2 ∧ xwh q2 ≤ 1048576 := ⟨A2.2.2.2.1, A2.2.2.2.2.1⟩
      have hww := mulB (x := xwh q) (y := xwh q2) (by omega) (by omega) (by omega) (by omega)
      have hw1 := Int.mul_le_mul hw.1 hw2.1 (by omega) (by omega)
      by_cases h2 : d = 0 ∨ d = 1
      · have h8 := win_in A A2
        have hv : I64 (prt (win (den at_ wt n) (den at2 wt2 m)) (xwh q * xwh q2) d) := prt_I64 (by constructor <;> omega) (by omega)
        refine am_mono (m_B_beats ⟨he, hc⟩ h2 l1 l3 hA A hA2 A2) (fun r g z => ⟨prt (win (den at_ wt n) (den at2 wt2 m)) (xwh q * xwh q2) d, z.1, hv, _, _, _, _, _, _, _, _, _, _, _, z.2, hv, ?_⟩) (fun _ z => z.elim)
        exact am_monoR (m_M_beats l2 hTq hw l4 hTq2 hw2 h2 (by rw [eT, eT2]; constructor <;> omega)) (fun y g2 w => ⟨by rw [w.1, eT, eT2], by rw [w.2]; exact ⟨bd, tk, laws, slot, ahead, made, od, dn, un, len, nn, ft, rr, ff, gg, l0, D0, B0, js, wh, fa, fb, fw, fl, sl_, l9, W0, lv, op, r9, dd, l8, fd, f1, f2, kp, fi, se, ta, tl, by9, xtp, xwg, xwh, xmd, xsl, xhw, xhs, xhd, xha, xp1, xp2, xp3, xl1, xl2, xrt, xlf, xdc, xhn, xsu, _, dy, hT, hS.out, hJ, hD, hI, va_eq, rfl⟩⟩) (fun _ z => z)
      · refine am_mono (m_B_beats_t2 ⟨he, hc⟩ hd h2 l1 l3 hA A hA2 A2) (fun _ _ z => z.elim) (fun g hg => ?_)
        obtain ⟨j9, rfl⟩ := hg
        rw [junk_Hp]
        exact am_monoR (m_M_beats_0 ⟨he, hc, hd⟩ (fun z => h2 z.2.2)) (fun y g2 w => ⟨⟨_, w.1⟩, fo9 0, by rw [w.2]; exact ⟨bd, tk, laws, slot, ahead, made, od, dn, un, len, nn, ft, rr, ff, gg, l0, D0, B0, js, wh, fa, fb, fw, fl, sl_, l9, W0, lv, op, r9, dd, l8, fd, f1, f2, kp, fi, se, ta, tl, by9, xtp, xwg, xwh, xmd, xsl, xhw, xhs, xhd, xha, xp1, xp2, xp3, xl1, xl2, xrt, xlf, xdc, xhn, xsu, fo9, dy ++ List.replicate j9 none, hT, hS.app, hJ, hD, hI, rfl, rfl⟩⟩) (fun _ z => z)
theorem op_pair (hT : tpR len ft xtp) (hS : shR (some (ar 1 1 fo9) :: dy) laws slot ahead made od dn un xwg xwh xsl xhw xhs xhd xha) (hJ : joR js wh fa fb fw xp1 xp2 xp3) (hD : diR fd f1 f2 kp xdc) (hI : I32 bd ∧ I32 tk) (ha : I32 a) (hc : I32 c) (hd : I32 d) : Op G M_Z_pair [(0, 11, 14, 13)] M_M_pair I64 (fun z => vl z) [vi a, vi c, vi d] (Hp (sgB bd tk) (sgS laws slot ahead made (od : Int) (dn : Int) (un : Int)) (sgT (len : Int) ft) (sgK (nn : Int) rr ff gg) (sgF l0 D0 B0) (sgJ (js.length : Int) wh fa fb fw fl sl_) (sgR l9 W0 lv op r9 dd) (sgD (l8 : Int) fd f1 f2 kp fi se ta tl) (sgM th (len : Int) by9 (dn : Int) ((dn + un : Nat) : Int) bd (js.length : Int) wh tk fd f1 f2 xtp xwg xwh xmd xsl xhw xhs xhd xha xp1 xp2 xp3 xl1 xl2 xrt xlf xdc xhn xsu) (some (ar 1 1 fo9) :: dy)) := by
  have hdn : dn ≤ 30 := by have := hS.1.2.1; omega
  have hln := hT.1
  refine h_pair rfl ?_
  have hj := hJ.2.2.2
  have hj1 := hj.1
  have hfd := fdL_in (a := a) (c := c) (by have := hj.1; omega) hj.2
  by_cases h2 : d = 0 ∨ d = 1
  · have hv : I64 (prt (fdL a c js) wh d) := prt_I64 (by constructor <;> omega) (by omega)
    refine am_mono (m_B_pair ha hc hJ.1 hJ.2.1 (by constructor <;> omega) (by constructor <;> omega) h2) (fun r g z => ⟨prt (fdL a c js) wh d, z.1, hv, _, _, _, _, _, _, _, _, _, _, _, z.2, hv, ?_⟩) (fun _ z => z.elim)
    exact am_monoR (m_M_pair ⟨ha, hc⟩ h2 (by have := hJ.1; omega) hJ.2.2.1 hj) (fun y g2 w => ⟨w.1, by rw [w.2]; exact ⟨bd, tk, laws, slot, ahead, made, od, dn, un, len, nn, ft, rr, ff, gg, l0, D0, B0, js, wh, fa, fb, fw, fl, sl_, l9, W0, lv, op, r9, dd, l8, fd, f1, f2, kp, fi, se, ta, tl, by9, xtp, xwg, xwh, xmd, xsl, xhw, xhs, xhd, xha, xp1, xp2, xp3, xl1, xl2, xrt, xlf, xdc, xhn, xsu, _, dy, hT, hS.out, hJ, hD, hI, va_eq, rfl⟩⟩) (fun _ z => z)
  · refine am_mono (m_B_pair_t ha hc hJ.1 hJ.2.1 hd h2) (fun _ _ z => z.elim) (fun g hg => ?_)
    obtain ⟨j9, rfl⟩ := hg
    rw [junk_Hp]
    exact am_monoR (m_M_pair_0 hd h2) (fun y g2 w => ⟨⟨_, w.1⟩, fo9 0, by rw [w.2]; exact ⟨bd, tk, laws, slot, ahead, made, od, dn, un, len, nn, ft, rr, ff, gg, l0, D0, B0, js, wh, fa, fb, fw, fl, sl_, l9, W0, lv, op, r9, dd, l8, fd, f1, f2, kp, fi, se, ta, tl, by9, xtp, xwg, xwh, xmd, xsl, xhw, xhs, xhd, xha, xp1, xp2, xp3, xl1, xl2, xrt, xlf, xdc, xhn, xsu, fo9, dy ++ List.replicate j9 none, hT, hS.app, hJ, hD, hI, rfl, rfl⟩⟩) (fun _ z => z)
theorem op_face (hT : tpR len ft xtp) (hS : shR (some (ar 1 1 fo9) :: dy) laws slot ahead made od dn un xwg xwh xsl xhw xhs xhd xha) (hJ : joR js wh fa fb fw xp1 xp2 xp3) (hD : diR fd f1 f2 kp xdc) (hI : I32 bd ∧ I32 tk) (ha : I32 a) (hc : I32 c) (hd : I32 d) : Op G M_Z_face [(0, 12, 15, 13)] M_M_face I32 (fun z => vi z) [vi a, vi c, vi d] (Hp (sgB bd tk) (sgS laws slot ahead made (od : Int) (dn : Int) (un : Int)) (sgT (len : Int) ft) (sgK (nn : Int) rr ff gg) (sgF l0 D0 B0) (sgJ (js.length : Int) wh fa fb fw fl sl_) (sgR l9 W0 lv op r9 dd) (sgD (l8 : Int) fd f1 f2 kp fi se ta tl) (sgM th (len : Int) by9 (dn : Int) ((dn + un : Nat) : Int) bd (js.length : Int) wh tk fd f1 f2 xtp xwg xwh xmd xsl xhw xhs xhd xha xp1 xp2 xp3 xl1 xl2 xrt xlf xdc xhn xsu) (some (ar 1 1 fo9) :: dy)) := by
  have hdn : dn ≤ 30 := by have := hS.1.2.1; omega
  have hln := hT.1
  refine h_face rfl (am_ok (fun hok => ?_))
  have hF := hD.1
  by_cases hf : (0 ≤ a ∧ a < fd) ∧ 0 ≤ d ∧ ((c = 0 ∧ d < f1) ∨ (c = 1 ∧ d < f2))
  · have hv : I32 (kp (a * 12 + c * 6 + d).toNat) := (hok 7 1 _ rfl).2.2 _
    have ek : kp (a * 12 + c * 6 + d).toNat = xdc (12 * a + 6 * c + d).toNat := by
      have h9 := hD.2 a.toNat d.toNat (by omega)
      rcases hf.2.2 with ⟨rfl, z⟩ | ⟨rfl, z⟩
      · have := h9.1 (by omega)
        rw [show (a * 12 + 0 * 6 + d).toNat = 12 * a.toNat + d.toNat by omega, show (12 * a + 6 * 0 + d).toNat = 12 * a.toNat + d.toNat by omega]; exact this
      · have := h9.2 (by omega)
        rw [show (a * 12 + 1 * 6 + d).toNat = 12 * a.toNat + 6 + d.toNat by omega, show (12 * a + 6 * 1 + d).toNat = 12 * a.toNat + 6 + d.toNat by omega]; exact this
    refine am_mono (m_B_face ⟨ha, hc, hd⟩ hF hf) (fun r g z => ⟨kp (a * 12 + c * 6 + d).toNat, z.1, hv, _, _, _, _, _, _, _, _, _, _, _, z.2, hv, ?_⟩) (fun _ z => z.elim)
    exact am_monoR (m_M_face ⟨ha, hc, hd⟩ hF hf) (fun y g2 w => ⟨by rw [w.1, ek], by rw [w.2]; exact ⟨bd, tk, laws, slot, ahead, made, od, dn, un, len, nn, ft, rr, ff, gg, l0, D0, B0, js, wh, fa, fb, fw, fl, sl_, l9, W0, lv, op, r9, dd, l8, fd, f1, f2, kp, fi, se, ta, tl, by9, xtp, xwg, xwh, xmd, xsl, xhw, xhs, xhd, xha, xp1, xp2, xp3, xl1, xl2, xrt, xlf, xdc, xhn, xsu, _, dy, hT, hS.out, hJ, hD, hI, va_eq, rfl⟩⟩) (fun _ z => z)
  · refine am_mono (m_B_face_t ⟨ha, hc, hd⟩ hF hf) (fun _ _ z => z.elim) (fun g hg => ?_)
    obtain ⟨j9, rfl⟩ := hg
    rw [junk_Hp]
    exact am_monoR (m_M_face_0 ⟨ha, hc, hd⟩ hF hf) (fun y g2 w => ⟨⟨_, w.1⟩, fo9 0, by rw [w.2]; exact ⟨bd, tk, laws, slot, ahead, made, od, dn, un, len, nn, ft, rr, ff, gg, l0, D0, B0, js, wh, fa, fb, fw, fl, sl_, l9, W0, lv, op, r9, dd, l8, fd, f1, f2, kp, fi, se, ta, tl, by9, xtp, xwg, xwh, xmd, xsl, xhw, xhs, xhd, xha, xp1, xp2, xp3, xl1, xl2, xrt, xlf, xdc, xhn, xsu, fo9, dy ++ List.replicate j9 none, hT, hS.app, hJ, hD, hI, rfl, rfl⟩⟩) (fun _ z => z)
end
