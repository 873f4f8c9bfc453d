/-- bench and reference agree -/
def Inv (th ov : Int) (h : HT) : Prop := ∃ (bd tk : Int) (laws : Nat → Option (Nat × Nat)) (slot : Nat → Int) (ahead made : Nat → Option (Nat × Nat)) (od dn un len nn : Nat) (ft : Nat → Int) (rr : Int) (ff gg : Nat → Int) (l0 : Int) (D0 B0 : Nat → Int) (js : List T3) (wh : Int) (fa fb fw fl sl_ : Nat → Int) (l9 W0 lv op : Int) (r9 dd : Nat → Int) (l8 : Nat) (fd f1 f2 : Int) (kp fi se ta tl : Nat → Int) (by9 : Int) (xtp xwg xwh xmd xsl xhw xhs xhd xha xp1 xp2 xp3 xl1 xl2 xrt xlf xdc xhn xsu : Nat → Int) (fo9 : Nat → Int) (dy : SG), tpR len ft xtp ∧ shR (some (ar 1 1 fo9) :: dy) laws slot ahead made od dn un xwg xwh xsl xhw xhs xhd xha ∧ joR js wh fa fb fw xp1 xp2 xp3 ∧ diR fd f1 f2 kp xdc ∧ (I32 bd ∧ I32 tk) ∧ fo9 0 = ov ∧ h = Hp (sgB bd tk) (sgS laws slot ahead made (od : Int) (dn : Int) (un : Int)) (sgT (len : Int) ft) (sgK (nn : Int) rr ff gg) (sgF l0 D0 B0) (sgJ (js.length : Int) wh fa fb fw fl sl_) (sgR l9 W0 lv op r9 dd) (sgD (l8 : Int) fd f1 f2 kp fi se ta tl) (sgM th (len : Int) by9 (dn : Int) ((dn + un : Nat) : Int) bd (js.length : Int) wh tk fd f1 f2 xtp xwg xwh xmd xsl xhw xhs xhd xha xp1 xp2 xp3 xl1 xl2 xrt xlf xdc xhn xsu) (some (ar 1 1 fo9) :: dy)
theorem acc_iff {T T' : Int → Int} {p q : Prop} (hT : ∀ u, inR u → T u = T' u) (hb : p ↔ q) : acc T p ↔ acc T' q := by
  unfold acc
  rw [cnt_ext hT, allT_ext hT, hb]
/-- a call of the reference, which is there -/
abbrev AMr (G : GT) (MM : MI) (as : List AV) (g : HT) (Q : Option AV → HT → Prop) : Prop := (∃ fs, hget g 8 0 = some (ob 8 fs)) ∧ AMet G MM (vr 8 0 :: as) g Q (fun _ => False)
theorem am_monoR {G : GT} {MM : MI} {as : List AV} {g : HT} {Q Q' : Option AV → HT → Prop} {Qt : HT → Prop} (h : AMet G MM (vr 8 0 :: as) g Q Qt) (h1 : ∀ r g2, Q r g2 → Q' r g2) (h2 : ∀ g2, Qt g2 → False) (hg : ∃ fs, hget g 8 0 = some (ob 8 fs) := by exact ⟨_, rfl⟩) : AMr G MM as g Q' := ⟨hg, am_mono h h1 h2⟩
def Two (G : GT) (MB MM : MI) (as : List AV) (h : HT) : Prop := AMet G MB (vr 0 0 :: as) h (fun x g => ∃ r, I32 r ∧ x = some (vi r) ∧ AMr G MM as g (fun y g2 => y = some (vi r) ∧ ∃ ov, Inv 0 ov g2)) (fun _ => False)
def TwoL (G : GT) (MB MM : MI) (as : List AV) (h : HT) : Prop := AMet G MB (vr 0 0 :: as) h (fun x g => ∃ r, I64 r ∧ x = some (vl r) ∧ AMr G MM as g (fun y g2 => y = some (vl r) ∧ ∃ ov, Inv 0 ov g2)) (fun _ => False)
theorem two_d {G : GT} {MB MM : MI} {as : List AV} {h h1 h2 : HT} {r r2 : Int} (hi : I32 r) (hB : ADet G MB (vr 0 0 :: as) h (some (vi r)) h1) (hM : ADet G MM (vr 8 0 :: as) h1 (some (vi r2)) h2) (he : r = r2) (hv : ∃ ov, Inv 0 ov h2) (hg : ∃ fs, hget h1 8 0 = some (ob 8 fs) := by exact ⟨_, rfl⟩) : Two G MB MM as h :=
  am_mono hB (fun x g z => ⟨r, hi, z.1, by rw [z.2]; exact am_monoR hM (fun y g2 z2 => ⟨by rw [z2.1, he], by rw [z2.2]; exact hv⟩) (fun _ z => z) hg⟩) (fun _ z => z)
section
variable {G : GT} {h : HT} {a c d e B th : Int} {len2 : Nat} {bd tk : Int} {laws : Nat → Option (Nat × Nat)} {slot : Nat → Int} {ahead made : Nat → Option (Nat × Nat)} {od dn un len nn : Nat} {ft : Nat → Int} {rr : Int} {ff gg : Nat → Int} {l0 : Int} {D0 B0 : Nat → Int} {js : List T3} {wh : Int} {fa fb fw fl sl_ : Nat → Int} {l9 W0 lv op : Int} {r9 dd : Nat → Int} {l8 : Nat} {fd f1 f2 : Int} {kp fi se ta tl : Nat → Int} {by9 : Int} {xtp xwg xwh xmd xsl xhw xhs xhd xha xp1 xp2 xp3 xl1 xl2 xrt xlf xdc xhn xsu : Nat → Int} {fo9 : Nat → Int} {dy : SG} {MB MM : MI} {as : List AV} {T T' : Int → Int} {p q : Prop}
theorem act2 (hT : tpR len ft xtp) (hS : shR (some (ar 1 1 fo9) :: dy) laws slot ahead made od dn un xwg xwh xsl xhw xhs xhd xha) (hJ : joR js wh fa fb fw xp1 xp2 xp3) (hD : diR fd f1 f2 kp xdc) (hI : I32 bd ∧ I32 tk) (hl2 : len2 = len ∨ len2 = 0) (hB : AMet G MB (vr 0 0 :: as) (Hp (sgB bd tk) (sgS laws slot ahead made (od : Int) (dn : Int) (un : Int)) (sgT (len : Int) ft) (sgK (nn : Int) rr ff gg) (sgF l0 D0 B0) (sgJ (js.length : Int) wh fa fb fw fl sl_) (sgR l9 W0 lv op r9 dd) (sgD (l8 : Int) fd f1 f2 kp fi se ta tl) (sgM th (len : Int) by9 (dn : Int) ((dn + un : Nat) : Int) bd (js.length : Int) wh tk fd f1 f2 xtp xwg xwh xmd xsl xhw xhs xhd xha xp1 xp2 xp3 xl1 xl2 xrt xlf xdc xhn xsu) (some (ar 1 1 fo9) :: dy)) (fun r h => ∃ (nn : Nat) (rr : Int) (ff gg : Nat → Int), stl laws slot ahead made od dn un bd tk (sgT (len2 : Int) ft) (sgK (nn : Int) rr ff gg) (sgF l0 D0 B0) (sgJ (js.length : Int) wh fa fb fw fl sl_) (sgR l9 W0 lv op r9 dd) (sgD (l8 : Int) fd f1 f2 kp fi se ta tl) (sgM th (len : Int) by9 (dn : Int) ((dn + un : Nat) : Int) bd (js.length : Int) wh tk fd f1 f2 xtp xwg xwh xmd xsl xhw xhs xhd xha xp1 xp2 xp3 xl1 xl2 xrt xlf xdc xhn xsu) (some (ar 1 1 fo9) :: dy) a T p r h) (fun _ => False)) (hM : ∀ b s t mk df jo tr di dz, AMet G MM (vr 8 0 :: as) (Hp b s t mk df jo tr di (sgM th (len : Int) by9 (dn : Int) ((dn + un : Nat) : Int) bd (js.length : Int) wh tk fd f1 f2 xtp xwg xwh xmd xsl xhw xhs xhd xha xp1 xp2 xp3 xl1 xl2 xrt xlf xdc xhn xsu) dz) (fun r h => ∃ (md2 : Nat → Int) (by2 : Int), puM b s t mk df jo tr di dz dn 0 (len2 : Int) by2 ((dn + un : Nat) : Int) bd (js.length : Int) wh tk fd f1 f2 xtp xwg xwh md2 xsl xhw xhs xhd xha xp1 xp2 xp3 xl1 xl2 xrt xlf xdc xhn xsu a T' q r h) (fun _ => False)) (hT9 : ∀ u, inR u → T u = T' u) (hb : p ↔ q) : Two G MB MM as (Hp (sgB bd tk) (sgS laws slot ahead made (od : Int) (dn : Int) (un : Int)) (sgT (len : Int) ft) (sgK (nn : Int) rr ff gg) (sgF l0 D0 B0) (sgJ (js.length : Int) wh fa fb fw fl sl_) (sgR l9 W0 lv op r9 dd) (sgD (l8 : Int) fd f1 f2 kp fi se ta tl) (sgM th (len : Int) by9 (dn : Int) ((dn + un : Nat) : Int) bd (js.length : Int) wh tk fd f1 f2 xtp xwg xwh xmd xsl xhw xhs xhd xha xp1 xp2 xp3 xl1 xl2 xrt xlf xdc xhn xsu) (some (ar 1 1 fo9) :: dy)) := by
  have hT2 : tpR len2 ft xtp := ⟨by have := hT.1; omega, hT.2⟩
  refine am_mono hB (fun x g z => ?_) (fun _ z => z)
  obtain ⟨nn2, rr2, ff2, gg2, z⟩ := z
  rcases z with ⟨rfl, hn, rfl⟩ | ⟨rfl, ha, hc, m9, at9, wt9, W9, hL, rfl⟩
  · refine ⟨0, z32, rfl, am_monoR (hM _ _ _ _ _ _ _ _ _) (fun y g2 w => ?_) (fun _ w => w)⟩
    obtain ⟨md2, by2, w⟩ := w
    rcases w with ⟨rfl, -, rfl⟩ | ⟨rfl, ha2, hc2, -⟩
    · refine ⟨rfl, fo9 0, ?_⟩
      exact ⟨bd, tk, laws, slot, ahead, made, od, dn, un, len2, nn2, ft, rr2, ff2, gg2, l0, D0, B0, js, wh, fa, fb, fw, fl, sl_, l9, W0, lv, op, r9, dd, l8, fd, f1, f2, kp, fi, se, ta, tl, by2, xtp, xwg, xwh, md2, xsl, xhw, xhs, xhd, xha, xp1, xp2, xp3, xl1, xl2, xrt, xlf, xdc, xhn, xsu, fo9, dy, hT2, hS, hJ, hD, hI, rfl, rfl⟩
    · exact absurd ⟨ha2, (acc_iff hT9 hb).mpr hc2⟩ hn
  · refine ⟨1, by constructor <;> decide, rfl, am_monoR (hM _ _ _ _ _ _ _ _ _) (fun y g2 w => ?_) (fun _ w => w)⟩
    obtain ⟨md2, by2, w⟩ := w
    rcases w with ⟨rfl, hn, rfl⟩ | ⟨rfl, -, -, s1, rfl, rfl⟩
    · exact absurd ⟨ha, (acc_iff hT9 hb).mp hc⟩ hn
    · refine ⟨rfl, ?_⟩
      have hS2 := hS.put (s1 := s1) (by omega) hT9 hL
      rw [show ((s1 : Int)).toNat = s1 from rfl]
      by_cases hd : dn = 30
      · subst hd
        rw [if_pos rfl]
        simp only [if_true] at hS2
        exact ⟨fo9 0, bd, tk, _, _, _, _, _, _, _, len2, nn2, ft, rr2, ff2, gg2, l0, D0, B0, js, wh, fa, fb, fw, fl, sl_, l9, W0, lv, op, r9, dd, l8, fd, f1, f2, kp, fi, se, ta, tl, by2, xtp, _, _, md2, _, _, _, _, _, xp1, xp2, xp3, xl1, xl2, xrt, xlf, xdc, xhn, xsu, fo9, _, hT2, hS2, hJ, hD, hI, rfl, rfl⟩
      · rw [if_neg hd]
        simp only [if_neg hd] at hS2
        have ed : dnP dn = dn + 1 := by unfold dnP; rw [if_pos (by have := hS.1.2.1; omega)]
        rw [show (dn : Int) + 1 = ((dnP dn : Nat) : Int) by rw [ed]; omega]
        exact ⟨fo9 0, bd, tk, _, _, _, _, _, _, _, len2, nn2, ft, rr2, ff2, gg2, l0, D0, B0, js, wh, fa, fb, fw, fl, sl_, l9, W0, lv, op, r9, dd, l8, fd, f1, f2, kp, fi, se, ta, tl, by2, xtp, _, _, md2, _, _, _, _, _, xp1, xp2, xp3, xl1, xl2, xrt, xlf, xdc, xhn, xsu, fo9, _, hT2, hS2, hJ, hD, hI, rfl, rfl⟩
end
