def tp1 (x y : Int) : Prop := (0 ≤ x ∧ x ≤ 255) ∧ x = y % 256
theorem tp_up {f g : Nat → Int} {i : Nat} {x y : Int} (h : ∀ j, tp1 (f j) (g j)) (hx : tp1 x y) : ∀ j, tp1 (va_up f i x j) (va_up g i y j) := fun j => by
  rw [va_if, va_if]; split
  · exact hx
  · exact h j
theorem tp_4 {f g : Nat → Int} {n : Nat} {a : Int} (h : ∀ j, tp1 (f j) (g j)) : ∀ j, tp1 (wr4 f n a j) (wm4 g n a j) := by
  unfold wr4 wm4
  refine tp_up (tp_up (tp_up (tp_up h ?_) ?_) ?_) ?_ <;> (unfold tp1; rw [w8_mod]; simp only [byt]; omega)
theorem cnt_L {dy : SG} {laws ahead made : Nat → Option (Nat × Nat)} {slot : Nat → Int} {od dn un : Nat} {xwg xwh xsl xhw xhs xhd xha : Nat → Int} (h : shR dy laws slot ahead made od dn un xwg xwh xsl xhw xhs xhd xha) : ∀ k, k ≤ 16 → cntL laws k = sumZ (fun k => if 0 < xwh k then (1 : Int) else 0) k
  | 0, _ => rfl
  | k + 1, hk => by
    have ih := cnt_L h k (by omega)
    have h1 := h.2.1 k (by omega)
    simp only [cntL, sumZ]
    rw [ih]
    cases hl : laws k with
    | none =>
      rw [hl] at h1
      have h2 : xwh k = 0 := h1
      rw [if_pos rfl, if_neg (by omega)]
    | some y =>
      rw [hl] at h1
      obtain ⟨k0, k1, k2, n, at_, wt, ey, hD, A, eT⟩ := h1
      have := A.2.2.2.1
      rw [if_neg (by simp), if_pos (by omega)]
theorem cntL_in (laws : Nat → Option (Nat × Nat)) : ∀ k : Nat, 0 ≤ cntL laws k ∧ cntL laws k ≤ (k : Int)
  | 0 => by simp [cntL]
  | k + 1 => by have := cntL_in laws k; simp only [cntL]; split <;> omega
section
variable {G : GT} {h : HT} {a c d e B th : Int} {bd tk : Int} {laws : Nat → Option (Nat × Nat)} {slot : Nat → Int} {ahead made : Nat → Option (Nat × Nat)} {od dn un len nn : Nat} {ft : Nat → Int} {rr : Int} {ff gg : Nat → Int} {l0 : Int} {D0 B0 : Nat → Int} {js : List T3} {wh : Int} {fa fb fw fl sl_ : Nat → Int} {l9 W0 lv op : Int} {r9 dd : Nat → Int} {l8 : Nat} {fd f1 f2 : Int} {kp fi se ta tl : Nat → Int} {by9 : Int} {xtp xwg xwh xmd xsl xhw xhs xhd xha xp1 xp2 xp3 xl1 xl2 xrt xlf xdc xhn xsu : Nat → Int} {fo9 : Nat → Int} {dy : SG}
theorem two_feed (hT : tpR len ft xtp) (hS : shR (some (ar 1 1 fo9) :: dy) laws slot ahead made od dn un xwg xwh xsl xhw xhs xhd xha) (hJ : joR js wh fa fb fw xp1 xp2 xp3) (hD : diR fd f1 f2 kp xdc) (hI : I32 bd ∧ I32 tk) (ha : I32 a) (hc : I32 c) (hd : I32 d) (he : I32 e) (hB : I32 B) : Two G M_B_feed M_M_feed [vi a, vi c, vi d, vi e, vi B] (Hp (sgB bd tk) (sgS laws slot ahead made (od : Int) (dn : Int) (un : Int)) (sgT (len : Int) ft) (sgK (nn : Int) rr ff gg) (sgF l0 D0 B0) (sgJ (js.length : Int) wh fa fb fw fl sl_) (sgR l9 W0 lv op r9 dd) (sgD (l8 : Int) fd f1 f2 kp fi se ta tl) (sgM th (len : Int) by9 (dn : Int) ((dn + un : Nat) : Int) bd (js.length : Int) wh tk fd f1 f2 xtp xwg xwh xmd xsl xhw xhs xhd xha xp1 xp2 xp3 xl1 xl2 xrt xlf xdc xhn xsu) (some (ar 1 1 fo9) :: dy)) := by
  have hdn : dn ≤ 30 := by have := hS.1.2.1; omega
  have hln := hT.1
  by_cases hr : len + 20 ≤ 200
  · have hT2 : tpR (len + 20) (fed ft len a c d e B) (fem xtp len a c d e B) := ⟨hr, tp_4 (tp_4 (tp_4 (tp_4 (tp_4 hT.2))))⟩
    exact two_d (by constructor <;> omega) (m_B_feed hr) (m_M_feed ⟨ha, hc, hd, he, hB⟩ hr) rfl ⟨fo9 0, bd, tk, laws, slot, ahead, made, od, dn, un, len + 20, nn, _, rr, ff, gg, l0, D0, B0, js, wh, fa, fb, fw, fl, sl_, l9, W0, lv, op, r9, dd, l8, fd, f1, f2, kp, fi, se, ta, tl, by9, _, xwg, xwh, xmd, xsl, xhw, xhs, xhd, xha, xp1, xp2, xp3, xl1, xl2, xrt, xlf, xdc, xhn, xsu, fo9, dy, hT2, hS, hJ, hD, hI, rfl, rfl⟩
  · exact two_d (by constructor <;> decide) (m_B_feed_0 hln hr) (m_M_feed_0 hln hr) rfl ⟨fo9 0, bd, tk, laws, slot, ahead, made, od, dn, un, len, nn, ft, rr, ff, gg, l0, D0, B0, js, wh, fa, fb, fw, fl, sl_, l9, W0, lv, op, r9, dd, l8, fd, f1, f2, kp, fi, se, ta, tl, by9, xtp, xwg, xwh, xmd, xsl, xhw, xhs, xhd, xha, xp1, xp2, xp3, xl1, xl2, xrt, xlf, xdc, xhn, xsu, fo9, dy, hT, hS, hJ, hD, hI, rfl, rfl⟩
theorem two_end (hT : tpR len ft xtp) (hS : shR (some (ar 1 1 fo9) :: dy) laws slot ahead made od dn un xwg xwh xsl xhw xhs xhd xha) (hJ : joR js wh fa fb fw xp1 xp2 xp3) (hD : diR fd f1 f2 kp xdc) (hI : I32 bd ∧ I32 tk) (ha : I32 a) : Two G M_B_end M_M_end [vi a] (Hp (sgB bd tk) (sgS laws slot ahead made (od : Int) (dn : Int) (un : Int)) (sgT (len : Int) ft) (sgK (nn : Int) rr ff gg) (sgF l0 D0 B0) (sgJ (js.length : Int) wh fa fb fw fl sl_) (sgR l9 W0 lv op r9 dd) (sgD (l8 : Int) fd f1 f2 kp fi se ta tl) (sgM th (len : Int) by9 (dn : Int) ((dn + un : Nat) : Int) bd (js.length : Int) wh tk fd f1 f2 xtp xwg xwh xmd xsl xhw xhs xhd xha xp1 xp2 xp3 xl1 xl2 xrt xlf xdc xhn xsu) (some (ar 1 1 fo9) :: dy)) := by
  have hdn : dn ≤ 30 := by have := hS.1.2.1; omega
  have hln := hT.1
  by_cases hr : 0 ≤ a ∧ a ≤ (len : Int)
  · obtain ⟨n, rfl⟩ : ∃ n : Nat, a = (n : Int) := ⟨a.toNat, by omega⟩
    have hT2 : tpR n ft xtp := ⟨by omega, hT.2⟩
    exact two_d (by constructor <;> decide) (m_B_end_1 ha hln hr) (m_M_end_1 hln hr) rfl ⟨fo9 0, bd, tk, laws, slot, ahead, made, od, dn, un, n, nn, ft, rr, ff, gg, l0, D0, B0, js, wh, fa, fb, fw, fl, sl_, l9, W0, lv, op, r9, dd, l8, fd, f1, f2, kp, fi, se, ta, tl, by9, xtp, xwg, xwh, xmd, xsl, xhw, xhs, xhd, xha, xp1, xp2, xp3, xl1, xl2, xrt, xlf, xdc, xhn, xsu, fo9, dy, hT2, hS, hJ, hD, hI, rfl, rfl⟩
  · exact two_d z32 (m_B_end_0 ha hln hr) (m_M_end_0 ha hln hr) rfl ⟨fo9 0, bd, tk, laws, slot, ahead, made, od, dn, un, len, nn, ft, rr, ff, gg, l0, D0, B0, js, wh, fa, fb, fw, fl, sl_, l9, W0, lv, op, r9, dd, l8, fd, f1, f2, kp, fi, se, ta, tl, by9, xtp, xwg, xwh, xmd, xsl, xhw, xhs, xhd, xha, xp1, xp2, xp3, xl1, xl2, xrt, xlf, xdc, xhn, xsu, fo9, dy, hT, hS, hJ, hD, hI, rfl, rfl⟩
theorem two_undo (hT : tpR len ft xtp) (hS : shR (some (ar 1 1 fo9) :: dy) laws slot ahead made od dn un xwg xwh xsl xhw xhs xhd xha) (hJ : joR js wh fa fb fw xp1 xp2 xp3) (hD : diR fd f1 f2 kp xdc) (hI : I32 bd ∧ I32 tk)  : Two G M_B_undo M_M_undo [] (Hp (sgB bd tk) (sgS laws slot ahead made (od : Int) (dn : Int) (un : Int)) (sgT (len : Int) ft) (sgK (nn : Int) rr ff gg) (sgF l0 D0 B0) (sgJ (js.length : Int) wh fa fb fw fl sl_) (sgR l9 W0 lv op r9 dd) (sgD (l8 : Int) fd f1 f2 kp fi se ta tl) (sgM th (len : Int) by9 (dn : Int) ((dn + un : Nat) : Int) bd (js.length : Int) wh tk fd f1 f2 xtp xwg xwh xmd xsl xhw xhs xhd xha xp1 xp2 xp3 xl1 xl2 xrt xlf xdc xhn xsu) (some (ar 1 1 fo9) :: dy)) := by
  have hdn : dn ≤ 30 := by have := hS.1.2.1; omega
  have hln := hT.1
  have hun : un ≤ 30 := by have := hS.1.2.1; omega
  cases dn with
  | zero => exact two_d z32 (m_B_undo_0 (by omega) hdn hun) m_M_undo_0 rfl ⟨fo9 0, bd, tk, laws, slot, ahead, made, od, 0, un, len, nn, ft, rr, ff, gg, l0, D0, B0, js, wh, fa, fb, fw, fl, sl_, l9, W0, lv, op, r9, dd, l8, fd, f1, f2, kp, fi, se, ta, tl, by9, xtp, xwg, xwh, xmd, xsl, xhw, xhs, xhd, xha, xp1, xp2, xp3, xl1, xl2, xrt, xlf, xdc, xhn, xsu, fo9, dy, hT, hS, hJ, hD, hI, rfl, rfl⟩
  | succ j =>
    have hx := hS.2.2 j (by omega)
    have hsl := hS.1.2.2.1 ((od + j) % 30)
    have hS2 := hS.back (i := j) (by omega) hx.2.1 (fun y hy => hS.1.2.2.2.2.1 _ y hy) (dn' := j) (un' := un + 1) (by omega)
    have hB := m_B_undo (G := G) (bd := bd) (tk := tk) (t := (sgT (len : Int) ft)) (nn := nn) (rr := rr) (ff := ff) (gg := gg) (df := (sgF l0 D0 B0)) (jo := (sgJ (js.length : Int) wh fa fb fw fl sl_)) (tr := (sgR l9 W0 lv op r9 dd)) (di := (sgD (l8 : Int) fd f1 f2 kp fi se ta tl)) (mo := (sgM th (len : Int) by9 ((j + 1 : Nat) : Int) ((j + 1 + un : Nat) : Int) bd (js.length : Int) wh tk fd f1 f2 xtp xwg xwh xmd xsl xhw xhs xhd xha xp1 xp2 xp3 xl1 xl2 xrt xlf xdc xhn xsu)) (dy := (some (ar 1 1 fo9) :: dy)) (laws := laws) (slot := slot) (ahead := ahead) (made := made) (od := od) (dn := j + 1) (un := un) (by omega) hS.1.1 hdn hun hS.1.2.2.1 hS.1.2.2.2.2.1
    rw [Nat.add_sub_cancel] at hB
    refine two_d (by constructor <;> decide) hB (m_M_undo (j := j) (by omega) (by rw [← hx.1]; exact hsl)) rfl ?_
    rw [show ((j + 1 + un : Nat) : Int) = ((j + (un + 1) : Nat) : Int) by omega]
    exact ⟨fo9 0, bd, tk, _, slot, ahead, made, od, j, un + 1, len, nn, ft, rr, ff, gg, l0, D0, B0, js, wh, fa, fb, fw, fl, sl_, l9, W0, lv, op, r9, dd, l8, fd, f1, f2, kp, fi, se, ta, tl, by9, xtp, _, _, xmd, xsl, xhw, xhs, xhd, xha, xp1, xp2, xp3, xl1, xl2, xrt, xlf, xdc, xhn, xsu, fo9, dy, hT, hS2, hJ, hD, hI, rfl, rfl⟩
theorem two_redo (hT : tpR len ft xtp) (hS : shR (some (ar 1 1 fo9) :: dy) laws slot ahead made od dn un xwg xwh xsl xhw xhs xhd xha) (hJ : joR js wh fa fb fw xp1 xp2 xp3) (hD : diR fd f1 f2 kp xdc) (hI : I32 bd ∧ I32 tk)  : Two G M_B_redo M_M_redo [] (Hp (sgB bd tk) (sgS laws slot ahead made (od : Int) (dn : Int) (un : Int)) (sgT (len : Int) ft) (sgK (nn : Int) rr ff gg) (sgF l0 D0 B0) (sgJ (js.length : Int) wh fa fb fw fl sl_) (sgR l9 W0 lv op r9 dd) (sgD (l8 : Int) fd f1 f2 kp fi se ta tl) (sgM th (len : Int) by9 (dn : Int) ((dn + un : Nat) : Int) bd (js.length : Int) wh tk fd f1 f2 xtp xwg xwh xmd xsl xhw xhs xhd xha xp1 xp2 xp3 xl1 xl2 xrt xlf xdc xhn xsu) (some (ar 1 1 fo9) :: dy)) := by
  have hdn : dn ≤ 30 := by have := hS.1.2.1; omega
  have hln := hT.1
  have hun : un ≤ 30 := by have := hS.1.2.1; omega
  cases un with
  | zero => exact two_d z32 (m_B_redo_0 (by omega) hdn hun) (m_M_redo_0 (j := dn) hdn) rfl ⟨fo9 0, bd, tk, laws, slot, ahead, made, od, dn, 0, len, nn, ft, rr, ff, gg, l0, D0, B0, js, wh, fa, fb, fw, fl, sl_, l9, W0, lv, op, r9, dd, l8, fd, f1, f2, kp, fi, se, ta, tl, by9, xtp, xwg, xwh, xmd, xsl, xhw, xhs, xhd, xha, xp1, xp2, xp3, xl1, xl2, xrt, xlf, xdc, xhn, xsu, fo9, dy, hT, hS, hJ, hD, hI, rfl, rfl⟩
  | succ j =>
    have hx := hS.2.2 dn (by omega)
    have hsl := hS.1.2.2.1 ((od + dn) % 30)
    have hdu := hS.1.2.1
    have hS2 := hS.back (i := dn) (by omega) hx.2.2 (fun y hy => hS.1.2.2.2.2.2 _ y hy) (dn' := dn + 1) (un' := j) (by omega)
    refine two_d (by constructor <;> decide) (m_B_redo (by omega) hS.1.1 hdn hun hS.1.2.2.1 hS.1.2.2.2.2.2) (m_M_redo (j := dn) (m := dn + (j + 1)) (by omega) (by omega) (by rw [← hx.1]; exact hsl)) rfl ?_
    rw [show ((dn + (j + 1) : Nat) : Int) = ((dn + 1 + j : Nat) : Int) by omega, show ((j + 1 : Nat) : Int) - 1 = (j : Int) by omega]
    exact ⟨fo9 0, bd, tk, _, slot, ahead, made, od, dn + 1, j, len, nn, ft, rr, ff, gg, l0, D0, B0, js, wh, fa, fb, fw, fl, sl_, l9, W0, lv, op, r9, dd, l8, fd, f1, f2, kp, fi, se, ta, tl, by9, xtp, _, _, xmd, xsl, xhw, xhs, xhd, xha, xp1, xp2, xp3, xl1, xl2, xrt, xlf, xdc, xhn, xsu, fo9, dy, hT, hS2, hJ, hD, hI, rfl, rfl⟩
theorem two_bound (hT : tpR len ft xtp) (hS : shR (some (ar 1 1 fo9) :: dy) laws slot ahead made od dn un xwg xwh xsl xhw xhs xhd xha) (hJ : joR js wh fa fb fw xp1 xp2 xp3) (hD : diR fd f1 f2 kp xdc) (hI : I32 bd ∧ I32 tk)  : Two G M_B_bound M_M_bound [] (Hp (sgB bd tk) (sgS laws slot ahead made (od : Int) (dn : Int) (un : Int)) (sgT (len : Int) ft) (sgK (nn : Int) rr ff gg) (sgF l0 D0 B0) (sgJ (js.length : Int) wh fa fb fw fl sl_) (sgR l9 W0 lv op r9 dd) (sgD (l8 : Int) fd f1 f2 kp fi se ta tl) (sgM th (len : Int) by9 (dn : Int) ((dn + un : Nat) : Int) bd (js.length : Int) wh tk fd f1 f2 xtp xwg xwh xmd xsl xhw xhs xhd xha xp1 xp2 xp3 xl1 xl2 xrt xlf xdc xhn xsu) (some (ar 1 1 fo9) :: dy)) := by
  have hdn : dn ≤ 30 := by have := hS.1.2.1; omega
  have hln := hT.1
  exact two_d hI.1 m_B_bound m_M_bound rfl ⟨fo9 0, bd, tk, laws, slot, ahead, made, od, dn, un, len, nn, ft, rr, ff, gg, l0, D0, B0, js, wh, fa, fb, fw, fl, sl_, l9, W0, lv, op, r9, dd, l8, fd, f1, f2, kp, fi, se, ta, tl, by9, xtp, xwg, xwh, xmd, xsl, xhw, xhs, xhd, xha, xp1, xp2, xp3, xl1, xl2, xrt, xlf, xdc, xhn, xsu, fo9, dy, hT, hS, hJ, hD, hI, rfl, rfl⟩
theorem two_taken (hT : tpR len ft xtp) (hS : shR (some (ar 1 1 fo9) :: dy) laws slot ahead made od dn un xwg xwh xsl xhw xhs xhd xha) (hJ : joR js wh fa fb fw xp1 xp2 xp3) (hD : diR fd f1 f2 kp xdc) (hI : I32 bd ∧ I32 tk)  : Two G M_B_taken M_M_taken [] (Hp (sgB bd tk) (sgS laws slot ahead made (od : Int) (dn : Int) (un : Int)) (sgT (len : Int) ft) (sgK (nn : Int) rr ff gg) (sgF l0 D0 B0) (sgJ (js.length : Int) wh fa fb fw fl sl_) (sgR l9 W0 lv op r9 dd) (sgD (l8 : Int) fd f1 f2 kp fi se ta tl) (sgM th (len : Int) by9 (dn : Int) ((dn + un : Nat) : Int) bd (js.length : Int) wh tk fd f1 f2 xtp xwg xwh xmd xsl xhw xhs xhd xha xp1 xp2 xp3 xl1 xl2 xrt xlf xdc xhn xsu) (some (ar 1 1 fo9) :: dy)) := by
  have hdn : dn ≤ 30 := by have := hS.1.2.1; omega
  have hln := hT.1
  exact two_d hI.2 m_B_taken m_M_taken rfl ⟨fo9 0, bd, tk, laws, slot, ahead, made, od, dn, un, len, nn, ft, rr, ff, gg, l0, D0, B0, js, wh, fa, fb, fw, fl, sl_, l9, W0, lv, op, r9, dd, l8, fd, f1, f2, kp, fi, se, ta, tl, by9, xtp, xwg, xwh, xmd, xsl, xhw, xhs, xhd, xha, xp1, xp2, xp3, xl1, xl2, xrt, xlf, xdc, xhn, xsu, fo9, dy, hT, hS, hJ, hD, hI, rfl, rfl⟩
theorem two_values (hT : tpR len ft xtp) (hS : shR (some (ar 1 1 fo9) :: dy) laws slot ahead made od dn un xwg xwh xsl xhw xhs xhd xha) (hJ : joR js wh fa fb fw xp1 xp2 xp3) (hD : diR fd f1 f2 kp xdc) (hI : I32 bd ∧ I32 tk) (he : I32 e) : Two G M_B_values M_M_values [vi e] (Hp (sgB bd tk) (sgS laws slot ahead made (od : Int) (dn : Int) (un : Int)) (sgT (len : Int) ft) (sgK (nn : Int) rr ff gg) (sgF l0 D0 B0) (sgJ (js.length : Int) wh fa fb fw fl sl_) (sgR l9 W0 lv op r9 dd) (sgD (l8 : Int) fd f1 f2 kp fi se ta tl) (sgM th (len : Int) by9 (dn : Int) ((dn + un : Nat) : Int) bd (js.length : Int) wh tk fd f1 f2 xtp xwg xwh xmd xsl xhw xhs xhd xha xp1 xp2 xp3 xl1 xl2 xrt xlf xdc xhn xsu) (some (ar 1 1 fo9) :: dy)) := by
  have hdn : dn ≤ 30 := by have := hS.1.2.1; omega
  have hln := hT.1
  rcases hS.at e with ⟨l1, l2⟩ | ⟨q, k, k1, k2, n, at_, wt, rfl, hq16, l1, l2, hA, A, eT⟩
  · exact two_d z32 (m_B_values_0 he l1) (m_M_values_0 he l2) rfl ⟨fo9 0, bd, tk, laws, slot, ahead, made, od, dn, un, len, nn, ft, rr, ff, gg, l0, D0, B0, js, wh, fa, fb, fw, fl, sl_, l9, W0, lv, op, r9, dd, l8, fd, f1, f2, kp, fi, se, ta, tl, by9, xtp, xwg, xwh, xmd, xsl, xhw, xhs, xhd, xha, xp1, xp2, xp3, xl1, xl2, xrt, xlf, xdc, xhn, xsu, fo9, dy, hT, hS, hJ, hD, hI, rfl, rfl⟩
  · have hn := A.1
    exact two_d (by constructor <;> omega) (m_B_values he l1 hA A) (m_M_values l2 (by rw [eT]; exact lw_q A)) (by rw [eT, cnt_den A.2.1 (lw_inR A) (fun i hi => (A.2.2.1 i hi).2.1)]) ⟨fo9 0, bd, tk, laws, slot, ahead, made, od, dn, un, len, nn, ft, rr, ff, gg, l0, D0, B0, js, wh, fa, fb, fw, fl, sl_, l9, W0, lv, op, r9, dd, l8, fd, f1, f2, kp, fi, se, ta, tl, by9, xtp, xwg, xwh, xmd, xsl, xhw, xhs, xhd, xha, xp1, xp2, xp3, xl1, xl2, xrt, xlf, xdc, xhn, xsu, fo9, dy, hT, hS, hJ, hD, hI, rfl, rfl⟩
theorem two_count (hT : tpR len ft xtp) (hS : shR (some (ar 1 1 fo9) :: dy) laws slot ahead made od dn un xwg xwh xsl xhw xhs xhd xha) (hJ : joR js wh fa fb fw xp1 xp2 xp3) (hD : diR fd f1 f2 kp xdc) (hI : I32 bd ∧ I32 tk) (hd : I32 d) : Two G M_B_count M_M_count [vi d] (Hp (sgB bd tk) (sgS laws slot ahead made (od : Int) (dn : Int) (un : Int)) (sgT (len : Int) ft) (sgK (nn : Int) rr ff gg) (sgF l0 D0 B0) (sgJ (js.length : Int) wh fa fb fw fl sl_) (sgR l9 W0 lv op r9 dd) (sgD (l8 : Int) fd f1 f2 kp fi se ta tl) (sgM th (len : Int) by9 (dn : Int) ((dn + un : Nat) : Int) bd (js.length : Int) wh tk fd f1 f2 xtp xwg xwh xmd xsl xhw xhs xhd xha xp1 xp2 xp3 xl1 xl2 xrt xlf xdc xhn xsu) (some (ar 1 1 fo9) :: dy)) := by
  have hdn : dn ≤ 30 := by have := hS.1.2.1; omega
  have hln := hT.1
  have hc := cntL_in laws 16
  have hun : un ≤ 30 := by have := hS.1.2.1; omega
  have hjs := hJ.1
  have hfd := hD.1.1
  by_cases h6 : d < 0 ∨ 5 < d
  · exact two_d (by constructor <;> decide) (m_B_count_6 hd h6) (m_M_count_6 hd h6) rfl ⟨fo9 0, bd, tk, laws, slot, ahead, made, od, dn, un, len, nn, ft, rr, ff, gg, l0, D0, B0, js, wh, fa, fb, fw, fl, sl_, l9, W0, lv, op, r9, dd, l8, fd, f1, f2, kp, fi, se, ta, tl, by9, xtp, xwg, xwh, xmd, xsl, xhw, xhs, xhd, xha, xp1, xp2, xp3, xl1, xl2, xrt, xlf, xdc, xhn, xsu, fo9, dy, hT, hS, hJ, hD, hI, rfl, rfl⟩
  · rcases (show d = 0 ∨ d = 1 ∨ d = 2 ∨ d = 3 ∨ d = 4 ∨ d = 5 by omega) with rfl | rfl | rfl | rfl | rfl | rfl
    · exact two_d (by constructor <;> omega) m_B_count_0 m_M_count_0 (cnt_L hS 16 (Nat.le_refl _)) ⟨fo9 0, bd, tk, laws, slot, ahead, made, od, dn, un, len, nn, ft, rr, ff, gg, l0, D0, B0, js, wh, fa, fb, fw, fl, sl_, l9, W0, lv, op, r9, dd, l8, fd, f1, f2, kp, fi, se, ta, tl, by9, xtp, xwg, xwh, xmd, xsl, xhw, xhs, xhd, xha, xp1, xp2, xp3, xl1, xl2, xrt, xlf, xdc, xhn, xsu, fo9, dy, hT, hS, hJ, hD, hI, rfl, rfl⟩
    · exact two_d (by constructor <;> omega) m_B_count_1 m_M_count_1 rfl ⟨fo9 0, bd, tk, laws, slot, ahead, made, od, dn, un, len, nn, ft, rr, ff, gg, l0, D0, B0, js, wh, fa, fb, fw, fl, sl_, l9, W0, lv, op, r9, dd, l8, fd, f1, f2, kp, fi, se, ta, tl, by9, xtp, xwg, xwh, xmd, xsl, xhw, xhs, xhd, xha, xp1, xp2, xp3, xl1, xl2, xrt, xlf, xdc, xhn, xsu, fo9, dy, hT, hS, hJ, hD, hI, rfl, rfl⟩
    · exact two_d (by constructor <;> omega) m_B_count_2 m_M_count_2 rfl ⟨fo9 0, bd, tk, laws, slot, ahead, made, od, dn, un, len, nn, ft, rr, ff, gg, l0, D0, B0, js, wh, fa, fb, fw, fl, sl_, l9, W0, lv, op, r9, dd, l8, fd, f1, f2, kp, fi, se, ta, tl, by9, xtp, xwg, xwh, xmd, xsl, xhw, xhs, xhd, xha, xp1, xp2, xp3, xl1, xl2, xrt, xlf, xdc, xhn, xsu, fo9, dy, hT, hS, hJ, hD, hI, rfl, rfl⟩
    · exact two_d (by constructor <;> omega) m_B_count_3 m_M_count_3 (by omega) ⟨fo9 0, bd, tk, laws, slot, ahead, made, od, dn, un, len, nn, ft, rr, ff, gg, l0, D0, B0, js, wh, fa, fb, fw, fl, sl_, l9, W0, lv, op, r9, dd, l8, fd, f1, f2, kp, fi, se, ta, tl, by9, xtp, xwg, xwh, xmd, xsl, xhw, xhs, xhd, xha, xp1, xp2, xp3, xl1, xl2, xrt, xlf, xdc, xhn, xsu, fo9, dy, hT, hS, hJ, hD, hI, rfl, rfl⟩
    · exact two_d (by constructor <;> omega) m_B_count_4 m_M_count_4 rfl ⟨fo9 0, bd, tk, laws, slot, ahead, made, od, dn, un, len, nn, ft, rr, ff, gg, l0, D0, B0, js, wh, fa, fb, fw, fl, sl_, l9, W0, lv, op, r9, dd, l8, fd, f1, f2, kp, fi, se, ta, tl, by9, xtp, xwg, xwh, xmd, xsl, xhw, xhs, xhd, xha, xp1, xp2, xp3, xl1, xl2, xrt, xlf, xdc, xhn, xsu, fo9, dy, hT, hS, hJ, hD, hI, rfl, rfl⟩
    · exact two_d (by constructor <;> omega) m_B_count_5 m_M_count_5 rfl ⟨fo9 0, bd, tk, laws, slot, ahead, made, od, dn, un, len, nn, ft, rr, ff, gg, l0, D0, B0, js, wh, fa, fb, fw, fl, sl_, l9, W0, lv, op, r9, dd, l8, fd, f1, f2, kp, fi, se, ta, tl, by9, xtp, xwg, xwh, xmd, xsl, xhw, xhs, xhd, xha, xp1, xp2, xp3, xl1, xl2, xrt, xlf, xdc, xhn, xsu, fo9, dy, hT, hS, hJ, hD, hI, rfl, rfl⟩
theorem two_above (hT : tpR len ft xtp) (hS : shR (some (ar 1 1 fo9) :: dy) laws slot ahead made od dn un xwg xwh xsl xhw xhs xhd xha) (hJ : joR js wh fa fb fw xp1 xp2 xp3) (hD : diR fd f1 f2 kp xdc) (hI : I32 bd ∧ I32 tk) (he : I32 e) (hc : I32 c) : Two G M_B_above M_M_above [vi e, vi c] (Hp (sgB bd tk) (sgS laws slot ahead made (od : Int) (dn : Int) (un : Int)) (sgT (len : Int) ft) (sgK (nn : Int) rr ff gg) (sgF l0 D0 B0) (sgJ (js.length : Int) wh fa fb fw fl sl_) (sgR l9 W0 lv op r9 dd) (sgD (l8 : Int) fd f1 f2 kp fi se ta tl) (sgM th (len : Int) by9 (dn : Int) ((dn + un : Nat) : Int) bd (js.length : Int) wh tk fd f1 f2 xtp xwg xwh xmd xsl xhw xhs xhd xha xp1 xp2 xp3 xl1 xl2 xrt xlf xdc xhn xsu) (some (ar 1 1 fo9) :: dy)) := by
  have hdn : dn ≤ 30 := by have := hS.1.2.1; omega
  have hln := hT.1
  rcases hS.at e with ⟨l1, l2⟩ | ⟨q, k, k1, k2, n, at_, wt, rfl, hq16, l1, l2, hA, A, eT⟩
  · exact two_d (by constructor <;> decide) (m_B_above_0 ⟨he, hc⟩ l1) (m_M_above_0 ⟨he, hc⟩ (fun z => l2 z.1)) rfl ⟨fo9 0, bd, tk, laws, slot, ahead, made, od, dn, un, len, nn, ft, rr, ff, gg, l0, D0, B0, js, wh, fa, fb, fw, fl, sl_, l9, W0, lv, op, r9, dd, l8, fd, f1, f2, kp, fi, se, ta, tl, by9, xtp, xwg, xwh, xmd, xsl, xhw, xhs, xhd, xha, xp1, xp2, xp3, xl1, xl2, xrt, xlf, xdc, xhn, xsu, fo9, dy, hT, hS, hJ, hD, hI, rfl, rfl⟩
  · rcases hS.at c with ⟨l3, l4⟩ | ⟨q2, j, j1, j2, m, at2, wt2, rfl, hq17, l3, l4, hA2, A2, eT2⟩
    · exact two_d (by constructor <;> decide) (m_B_above_1 ⟨he, hc⟩ l1 l3) (m_M_above_0 ⟨he, hc⟩ (fun z => l4 z.2)) rfl ⟨fo9 0, bd, tk, laws, slot, ahead, made, od, dn, un, len, nn, ft, rr, ff, gg, l0, D0, B0, js, wh, fa, fb, fw, fl, sl_, l9, W0, lv, op, r9, dd, l8, fd, f1, f2, kp, fi, se, ta, tl, by9, xtp, xwg, xwh, xmd, xsl, xhw, xhs, xhd, xha, xp1, xp2, xp3, xl1, xl2, xrt, xlf, xdc, xhn, xsu, fo9, dy, hT, hS, hJ, hD, hI, rfl, rfl⟩
    · have hTq : ∀ v, 0 ≤ Tm xwg q v ∧ Tm xwg q v ≤ 1048576 := by rw [eT]; exact lw_q A
      have hTq2 : ∀ v, 0 ≤ Tm xwg q2 v ∧ Tm xwg q2 v ≤ 1048576 := by rw [eT2]; exact lw_q A2
      have hw : 1 ≤ xwh q ∧ xwh q ≤ 1048576 := ⟨A.2.2.2.1, A.2.2.2.2.1⟩
      have hw2 : 1 ≤ xwh q2 ∧ xwh q2 ≤ 1048576 := ⟨A2.2.2.2.1, A2.2.2.2.2.1⟩
      refine am_mono (m_B_above ⟨he, hc⟩ l1 l3 hA A hA2 A2) (fun x g z => ?_) (fun _ z => z)
      obtain ⟨L, D9, Bf, v, hv, rfl, rfl⟩ := z
      refine ⟨_, by split <;> (constructor <;> decide), rfl, am_monoR (m_M_above l2 hTq hw l4 hTq2 hw2) (fun y g2 w => ?_) (fun _ w => w)⟩
      obtain ⟨v2, hv2, rfl, rfl⟩ := w
      have ev : v2 = v := by
        refine isF_eq hv2 (isF_ext (fun t _ => ?_) hv)
        rw [Ed_cum, eT, eT2, Int.sub_mul, Int.sub_mul, Int.mul_comm (xwh q2) (xwh q), Int.mul_comm (xwh q2), Int.mul_comm (xwh q)]
        omega
      subst ev
      exact ⟨rfl, ⟨fo9 0, _, tk, laws, slot, ahead, made, od, dn, un, len, nn, ft, rr, ff, gg, _, _, _, js, wh, fa, fb, fw, fl, sl_, l9, W0, lv, op, r9, dd, l8, fd, f1, f2, kp, fi, se, ta, tl, by9, xtp, xwg, xwh, xmd, xsl, xhw, xhs, xhd, xha, xp1, xp2, xp3, xl1, xl2, xrt, xlf, xdc, xhn, xsu, fo9, dy, hT, hS, hJ, hD, ⟨by split; exact hI.1; rcases hv with ⟨z, _⟩ | ⟨z, _⟩ <;> omega, hI.2⟩, rfl, rfl⟩⟩
theorem Ov_Ed {n m : Nat} {at_ wt at2 wt2 : Nat → Int} {W W2 t : Int} : Ov (Ed n m at_ wt at2 wt2 W W2) t = W2 * Ov (den at_ wt n) t - W * Ov (den at2 wt2 m) t := by
  unfold Ov
  rw [← sT_mul, ← sT_mul, ← sT_sub]
  refine sT_ext (fun v _ => ?_)
  split
  · rw [Int.mul_sub, Int.mul_left_comm, Int.mul_left_comm (v - t)]
  · simp
theorem S1_Ed {n m : Nat} {at_ wt at2 wt2 : Nat → Int} {W W2 : Int} : sT (fun u => Ed n m at_ wt at2 wt2 W W2 u * u) = W2 * sT (fun u => u * den at_ wt n u) - W * sT (fun u => u * den at2 wt2 m u) := by
  rw [← sT_mul, ← sT_mul, ← sT_sub]
  refine sT_ext (fun v _ => ?_)
  rw [Int.sub_mul, Int.mul_assoc, Int.mul_assoc, Int.mul_comm v, Int.mul_comm v]
theorem two_spread (hT : tpR len ft xtp) (hS : shR (some (ar 1 1 fo9) :: dy) laws slot ahead made od dn un xwg xwh xsl xhw xhs xhd xha) (hJ : joR js wh fa fb fw xp1 xp2 xp3) (hD : diR fd f1 f2 kp xdc) (hI : I32 bd ∧ I32 tk) (he : I32 e) (hc : I32 c) : Two G M_B_spread M_M_spread [vi e, vi c] (Hp (sgB bd tk) (sgS laws slot ahead made (od : Int) (dn : Int) (un : Int)) (sgT (len : Int) ft) (sgK (nn : Int) rr ff gg) (sgF l0 D0 B0) (sgJ (js.length : Int) wh fa fb fw fl sl_) (sgR l9 W0 lv op r9 dd) (sgD (l8 : Int) fd f1 f2 kp fi se ta tl) (sgM th (len : Int) by9 (dn : Int) ((dn + un : Nat) : Int) bd (js.length : Int) wh tk fd f1 f2 xtp xwg xwh xmd xsl xhw xhs xhd xha xp1 xp2 xp3 xl1 xl2 xrt xlf xdc xhn xsu) (some (ar 1 1 fo9) :: dy)) := by
  have hdn : dn ≤ 30 := by have := hS.1.2.1; omega
  have hln := hT.1
  rcases hS.at e with ⟨l1, l2⟩ | ⟨q, k, k1, k2, n, at_, wt, rfl, hq16, l1, l2, hA, A, eT⟩
  · exact two_d (by constructor <;> decide) (m_B_spread_0 ⟨he, hc⟩ l1) (m_M_spread_0 ⟨he, hc⟩ (fun z => l2 z.1)) rfl ⟨fo9 0, bd, tk, laws, slot, ahead, made, od, dn, un, len, nn, ft, rr, ff, gg, l0, D0, B0, js, wh, fa, fb, fw, fl, sl_, l9, W0, lv, op, r9, dd, l8, fd, f1, f2, kp, fi, se, ta, tl, by9, xtp, xwg, xwh, xmd, xsl, xhw, xhs, xhd, xha, xp1, xp2, xp3, xl1, xl2, xrt, xlf, xdc, xhn, xsu, fo9, dy, hT, hS, hJ, hD, hI, rfl, rfl⟩
  · rcases hS.at c with ⟨l3, l4⟩ | ⟨q2, j, j1, j2, m, at2, wt2, rfl, hq17, l3, l4, hA2, A2, eT2⟩
    · exact two_d (by constructor <;> decide) (m_B_spread_1 ⟨he, hc⟩ l1 l3) (m_M_spread_0 ⟨he, hc⟩ (fun z => l4 z.2)) rfl ⟨fo9 0, bd, tk, laws, slot, ahead, made, od, dn, un, len, nn, ft, rr, ff, gg, l0, D0, B0, js, wh, fa, fb, fw, fl, sl_, l9, W0, lv, op, r9, dd, l8, fd, f1, f2, kp, fi, se, ta, tl, by9, xtp, xwg, xwh, xmd, xsl, xhw, xhs, xhd, xha, xp1, xp2, xp3, xl1, xl2, xrt, xlf, xdc, xhn, xsu, fo9, dy, hT, hS, hJ, hD, hI, rfl, rfl⟩
    · have hTq : ∀ v, 0 ≤ Tm xwg q v ∧ Tm xwg q v ≤ 1048576 := by rw [eT]; exact lw_q A
      have hTq2 : ∀ v, 0 ≤ Tm xwg q2 v ∧ Tm xwg q2 v ≤ 1048576 := by rw [eT2]; exact lw_q A2
      have hw : 1 ≤ xwh q ∧ xwh q ≤ 1048576 := ⟨A.2.2.2.1, A.2.2.2.2.1⟩
      have hw2 : 1 ≤ xwh q2 ∧ xwh q2 ≤ 1048576 := ⟨A2.2.2.2.1, A2.2.2.2.2.1⟩
      have hm : sT (fun u => Ed n m at_ wt at2 wt2 (xwh q) (xwh q2) u * u) = 0 ↔ sT (fun u => u * Tm xwg q u) * xwh q2 = sT (fun u => u * Tm xwg q2 u) * xwh q := by
        rw [S1_Ed, eT, eT2, Int.mul_comm (sT _) (xwh q2), Int.mul_comm (sT _) (xwh q)]; omega
      refine am_mono (m_B_spread ⟨he, hc⟩ l1 l3 hA A hA2 A2) (fun x g z => ?_) (fun _ z => z)
      obtain ⟨L, D9, Bf, z⟩ := z
      rcases z with ⟨h1, rfl, rfl⟩ | ⟨h1, v, hv, rfl, rfl⟩
      · refine ⟨2, by constructor <;> decide, rfl, am_monoR (m_M_spread l2 hTq hw l4 hTq2 hw2) (fun y g2 w => ?_) (fun _ w => w)⟩
        rcases w with ⟨-, rfl, rfl⟩ | ⟨h2, -⟩
        · exact ⟨rfl, ⟨fo9 0, bd, tk, laws, slot, ahead, made, od, dn, un, len, nn, ft, rr, ff, gg, _, _, _, js, wh, fa, fb, fw, fl, sl_, l9, W0, lv, op, r9, dd, l8, fd, f1, f2, kp, fi, se, ta, tl, by9, xtp, xwg, xwh, xmd, xsl, xhw, xhs, xhd, xha, xp1, xp2, xp3, xl1, xl2, xrt, xlf, xdc, xhn, xsu, fo9, dy, hT, hS, hJ, hD, hI, rfl, rfl⟩⟩
        · exact absurd (hm.mpr h2) h1
      · refine ⟨_, by split <;> (constructor <;> decide), rfl, am_monoR (m_M_spread l2 hTq hw l4 hTq2 hw2) (fun y g2 w => ?_) (fun _ w => w)⟩
        rcases w with ⟨h2, -⟩ | ⟨-, v2, hv2, rfl, rfl⟩
        · exact absurd (hm.mp h1) h2
        · have ev : v2 = v := by
            refine isF_eq hv2 (isF_ext (fun t _ => ?_) hv)
            rw [Ov_Ed, eT, eT2, Int.mul_comm (xwh q2), Int.mul_comm (xwh q)]
            omega
          subst ev
          exact ⟨rfl, ⟨fo9 0, _, tk, laws, slot, ahead, made, od, dn, un, len, nn, ft, rr, ff, gg, _, _, _, js, wh, fa, fb, fw, fl, sl_, l9, W0, lv, op, r9, dd, l8, fd, f1, f2, kp, fi, se, ta, tl, by9, xtp, xwg, xwh, xmd, xsl, xhw, xhs, xhd, xha, xp1, xp2, xp3, xl1, xl2, xrt, xlf, xdc, xhn, xsu, fo9, dy, hT, hS, hJ, hD, ⟨by split; exact hI.1; rcases hv with ⟨z, _⟩ | ⟨z, _⟩ <;> omega, hI.2⟩, rfl, rfl⟩⟩
end
