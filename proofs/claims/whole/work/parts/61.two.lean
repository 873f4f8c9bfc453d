section
variable {at_ wt at2 wt2 : Nat → Int} {n m : Nat} {W W2 c d u : Int}
theorem lw_q (A : lwN n at_ wt W) : ∀ v, 0 ≤ den at_ wt n v ∧ den at_ wt n v ≤ 1048576 := fun v => by
  have a := lw_nn A v
  have b := den_le (f := at_) (u := v) (fun i hi => show 0 ≤ wt i by have := (A.2.2.1 i hi).2; omega)
  have e := A.2.2.2.2
  omega
theorem lw_qW (A : lwN n at_ wt W) : ∀ v, den at_ wt n v ≤ W := fun v => by
  have b := den_le (f := at_) (u := v) (fun i hi => show 0 ≤ wt i by have := (A.2.2.1 i hi).2; omega)
  have e := A.2.2.2.2.2
  omega
theorem lw_inR (A : lwN n at_ wt W) : ∀ i, i < n → inR (at_ i) := fun i hi => (A.2.2.1 i hi).1
theorem ex_T {P : Int → Int → Prop} (hP : ∀ u t, P u t → 1 ≤ t) (A : lwN n at_ wt W) : (∃ k, k < 2001 ∧ P (idv k) (den at_ wt n (idv k))) ↔ ∃ i, i < n ∧ P (at_ i) (wt i) := by
  constructor
  · rintro ⟨k, hk, h⟩
    have h1 := hP _ _ h
    by_cases e : ∃ i, i < n ∧ at_ i = idv k
    · obtain ⟨i, hi, ei⟩ := e
      refine ⟨i, hi, ?_⟩
      rw [← ei, den_at A.2.1 hi] at h
      exact h
    · rw [den_0 (fun i hi ei => e ⟨i, hi, ei⟩)] at h1
      omega
  · rintro ⟨i, hi, h⟩
    have hr := lw_inR A i hi
    refine ⟨(at_ i + 1000).toNat, by omega, ?_⟩
    rw [show idv (at_ i + 1000).toNat = at_ i by unfold idv; omega, den_at A.2.1 hi]
    exact h
theorem tr_T {F : Int → Int → Int} (h0 : ∀ u, F u 0 = 0) (A : lwN n at_ wt W) : sumZ (fun k => F (idv k) (den at_ wt n (idv k))) 2001 = sumZ (fun i => F (at_ i) (wt i)) n := tr_ (F := F) (fun u _ => h0 u) A.2.1 (lw_inR A)
theorem d_map (A : lwN n at_ wt W) (V : Int → Int) (C : Int → Int → Int) (h0 : ∀ v, C v 0 = 0) : den (fun i => V (at_ i)) (fun i => C (at_ i) (wt i)) n u = den (fun i => V (idv i)) (fun i => C (idv i) (den at_ wt n (idv i))) 2001 u :=
  (tr_T (F := fun v t => if V v = u then C v t else 0) (fun v => by simp only [h0]; split <;> rfl) A).symm
theorem b_map (A : lwN n at_ wt W) (V : Int → Int) (C : Int → Int → Int) (h0 : ∀ v t, 1 ≤ C v t → 1 ≤ t) : byd (fun i => V (at_ i)) (fun i => C (at_ i) (wt i)) n ↔ byd (fun i => V (idv i)) (fun i => C (idv i) (den at_ wt n (idv i))) 2001 :=
  (ex_T (P := fun v t => 1 ≤ C v t ∧ ¬ inR (V v)) (fun u t h => h0 u t h.1) A).symm
theorem b_no {V C : Nat → Int} {N : Nat} (h : ∀ i, i < N → inR (V i)) : ¬ byd V C N := fun ⟨k, hk, _, h2⟩ => h2 (h k hk)
theorem idv_in {i : Nat} (h : i < 2001) : inR (idv i) := by unfold idv; omega
theorem T2_map (A : lwN n at_ wt W) (A2 : lwN m at2 wt2 W2) : T2 d at_ wt at2 wt2 m n u = T2 d idv (fun i => den at_ wt n (idv i)) idv (fun i => den at2 wt2 m (idv i)) 2001 2001 u := by
  have e1 : ∀ (v t : Int), sumZ (fun j => if jnd d v (at2 j) = u then t * wt2 j else 0) m = sumZ (fun l => if jnd d v (idv l) = u then t * den at2 wt2 m (idv l) else 0) 2001 := fun v t => by
    have h9 := tr_T (F := fun w y => if jnd d v w = u then t * y else 0) (fun w => by simp) A2
    exact h9.symm
  have e2 := tr_T (F := fun v t => sumZ (fun l => if jnd d v (idv l) = u then t * den at2 wt2 m (idv l) else 0) 2001) (fun v => by
    have : (fun l : Nat => if jnd d v (idv l) = u then (0 : Int) * den at2 wt2 m (idv l) else 0) = fun _ => 0 := by funext l; simp
    rw [this]; exact sumZ_0 _) A
  have e3 : T2 d at_ wt at2 wt2 m n u = sumZ (fun i => sumZ (fun l => if jnd d (at_ i) (idv l) = u then wt i * den at2 wt2 m (idv l) else 0) 2001) n := sumZ_ext (fun i _ => e1 (at_ i) (wt i))
  rw [e3]
  exact e2.symm
theorem B2_map (A : lwN n at_ wt W) (A2 : lwN m at2 wt2 W2) : B2 d at_ wt at2 wt2 m n ↔ B2 d idv (fun i => den at_ wt n (idv i)) idv (fun i => den at2 wt2 m (idv i)) 2001 2001 := by
  have hpos : ∀ x y : Int, 0 ≤ x → 0 ≤ y → 1 ≤ x * y → 1 ≤ x ∧ 1 ≤ y := fun x y hx hy h => by
    constructor
    · rcases Int.lt_or_le x 1 with z | z
      · rw [show x = 0 by omega, Int.zero_mul] at h; omega
      · exact z
    · rcases Int.lt_or_le y 1 with z | z
      · rw [show y = 0 by omega, Int.mul_zero] at h; omega
      · exact z
  constructor
  · rintro ⟨i, hi, j, hj, h1, h2⟩
    have ri := lw_inR A i hi
    have rj := lw_inR A2 j hj
    refine ⟨(at_ i + 1000).toNat, by omega, (at2 j + 1000).toNat, by omega, ?_, ?_⟩
    · simp only [Cj] at h1 ⊢
      rw [show idv (at_ i + 1000).toNat = at_ i by unfold idv; omega, show idv (at2 j + 1000).toNat = at2 j by unfold idv; omega, den_at A.2.1 hi, den_at A2.2.1 hj]
      exact h1
    · simp only [Vj] at h2 ⊢
      rw [show idv (at_ i + 1000).toNat = at_ i by unfold idv; omega, show idv (at2 j + 1000).toNat = at2 j by unfold idv; omega]
      exact h2
  · rintro ⟨i, hi, j, hj, h1, h2⟩
    simp only [Cj, Vj] at h1 h2
    obtain ⟨p1, p2⟩ := hpos _ _ (lw_nn A _) (lw_nn A2 _) h1
    obtain ⟨i2, hi2, e2, f2⟩ := (ex_T (P := fun v t => 1 ≤ t ∧ v = idv i ∧ t = den at_ wt n (idv i)) (fun _ _ z => z.1) A).mp ⟨i, hi, p1, rfl, rfl⟩
    obtain ⟨j2, hj2, e3, f3⟩ := (ex_T (P := fun v t => 1 ≤ t ∧ v = idv j ∧ t = den at2 wt2 m (idv j)) (fun _ _ z => z.1) A2).mp ⟨j, hj, p2, rfl, rfl⟩
    refine ⟨i2, hi2, j2, hj2, ?_, ?_⟩
    · simp only [Cj]; rw [f2.2, f3.2]; exact h1
    · simp only [Vj]; rw [f2.1, f3.1]; exact h2
end
section
variable {G : GT} {h : HT} {a c d e B th : Int} {len2 : Nat} {bd tk : Int} {laws : Nat → Option (Nat × Nat)} {slot : Nat → Int} {ahead made : Nat → Option (Nat × Nat)} {od dn un len nn : Nat} {ft : Nat → Int} {rr : Int} {ff gg : Nat → Int} {l0 : Int} {D0 B0 : Nat → Int} {js : List T3} {wh : Int} {fa fb fw fl sl_ : Nat → Int} {l9 W0 lv op : Int} {r9 dd : Nat → Int} {l8 : Nat} {fd f1 f2 : Int} {kp fi se ta tl : Nat → Int} {by9 : Int} {xtp xwg xwh xmd xsl xhw xhs xhd xha xp1 xp2 xp3 xl1 xl2 xrt xlf xdc xhn xsu : Nat → Int} {fo9 : Nat → Int} {dy : SG} {MB MM : MI} {as : List AV} {T T' : Int → Int} {p q : Prop}
theorem act0 (hT : tpR len ft xtp) (hS : shR (some (ar 1 1 fo9) :: dy) laws slot ahead made od dn un xwg xwh xsl xhw xhs xhd xha) (hJ : joR js wh fa fb fw xp1 xp2 xp3) (hD : diR fd f1 f2 kp xdc) (hI : I32 bd ∧ I32 tk) (hB : ADet G MB (vr 0 0 :: as) (Hp (sgB bd tk) (sgS laws slot ahead made (od : Int) (dn : Int) (un : Int)) (sgT (len : Int) ft) (sgK (nn : Int) rr ff gg) (sgF l0 D0 B0) (sgJ (js.length : Int) wh fa fb fw fl sl_) (sgR l9 W0 lv op r9 dd) (sgD (l8 : Int) fd f1 f2 kp fi se ta tl) (sgM th (len : Int) by9 (dn : Int) ((dn + un : Nat) : Int) bd (js.length : Int) wh tk fd f1 f2 xtp xwg xwh xmd xsl xhw xhs xhd xha xp1 xp2 xp3 xl1 xl2 xrt xlf xdc xhn xsu) (some (ar 1 1 fo9) :: dy)) (some (vi 0)) (Hp (sgB bd tk) (sgS laws slot ahead made (od : Int) (dn : Int) (un : Int)) (sgT (len : Int) ft) (sgK (nn : Int) rr ff gg) (sgF l0 D0 B0) (sgJ (js.length : Int) wh fa fb fw fl sl_) (sgR l9 W0 lv op r9 dd) (sgD (l8 : Int) fd f1 f2 kp fi se ta tl) (sgM th (len : Int) by9 (dn : Int) ((dn + un : Nat) : Int) bd (js.length : Int) wh tk fd f1 f2 xtp xwg xwh xmd xsl xhw xhs xhd xha xp1 xp2 xp3 xl1 xl2 xrt xlf xdc xhn xsu) (some (ar 1 1 fo9) :: dy))) (hM : ∀ b s t mk df jo tr di dz, AMet G MM (vr 8 0 :: as) (Hp b s t mk df jo tr di (sgM th (len : Int) by9 (dn : Int) ((dn + un : Nat) : Int) bd (js.length : Int) wh tk fd f1 f2 xtp xwg xwh xmd xsl xhw xhs xhd xha xp1 xp2 xp3 xl1 xl2 xrt xlf xdc xhn xsu) dz) (fun r h => r = some (vi 0) ∧ ∃ md2 : Nat → Int, h = Hp b s t mk df jo tr di (sgM 0 (len : Int) 0 (dn : Int) ((dn + un : Nat) : Int) bd (js.length : Int) wh tk fd f1 f2 xtp xwg xwh md2 xsl xhw xhs xhd xha xp1 xp2 xp3 xl1 xl2 xrt xlf xdc xhn xsu) dz) (fun _ => False)) : Two G MB MM as (Hp (sgB bd tk) (sgS laws slot ahead made (od : Int) (dn : Int) (un : Int)) (sgT (len : Int) ft) (sgK (nn : Int) rr ff gg) (sgF l0 D0 B0) (sgJ (js.length : Int) wh fa fb fw fl sl_) (sgR l9 W0 lv op r9 dd) (sgD (l8 : Int) fd f1 f2 kp fi se ta tl) (sgM th (len : Int) by9 (dn : Int) ((dn + un : Nat) : Int) bd (js.length : Int) wh tk fd f1 f2 xtp xwg xwh xmd xsl xhw xhs xhd xha xp1 xp2 xp3 xl1 xl2 xrt xlf xdc xhn xsu) (some (ar 1 1 fo9) :: dy)) := by
  refine am_mono hB (fun x g z => ⟨0, z32, z.1, ?_⟩) (fun _ z => z)
  rw [z.2]
  refine am_monoR (hM _ _ _ _ _ _ _ _ _) (fun y g2 w => ?_) (fun _ w => w)
  obtain ⟨w1, md2, rfl⟩ := w
  exact ⟨w1, fo9 0, bd, tk, laws, slot, ahead, made, od, dn, un, len, nn, ft, rr, ff, gg, l0, D0, B0, js, wh, fa, fb, fw, fl, sl_, l9, W0, lv, op, r9, dd, l8, fd, f1, f2, kp, fi, se, ta, tl, 0, xtp, xwg, xwh, md2, xsl, xhw, xhs, xhd, xha, xp1, xp2, xp3, xl1, xl2, xrt, xlf, xdc, xhn, xsu, fo9, dy, hT, hS, hJ, hD, hI, rfl, rfl⟩
theorem two_wheel (hT : tpR len ft xtp) (hS : shR (some (ar 1 1 fo9) :: dy) laws slot ahead made od dn un xwg xwh xsl xhw xhs xhd xha) (hJ : joR js wh fa fb fw xp1 xp2 xp3) (hD : diR fd f1 f2 kp xdc) (hI : I32 bd ∧ I32 tk) (ha : I32 a) (hc : I32 c) (hd : I32 d) : Two G M_B_wheel M_M_wheel [vi a, vi d, vi c] (Hp (sgB bd tk) (sgS laws slot ahead made (od : Int) (dn : Int) (un : Int)) (sgT (len : Int) ft) (sgK (nn : Int) rr ff gg) (sgF l0 D0 B0) (sgJ (js.length : Int) wh fa fb fw fl sl_) (sgR l9 W0 lv op r9 dd) (sgD (l8 : Int) fd f1 f2 kp fi se ta tl) (sgM th (len : Int) by9 (dn : Int) ((dn + un : Nat) : Int) bd (js.length : Int) wh tk fd f1 f2 xtp xwg xwh xmd xsl xhw xhs xhd xha xp1 xp2 xp3 xl1 xl2 xrt xlf xdc xhn xsu) (some (ar 1 1 fo9) :: dy)) := by
  have hdn : dn ≤ 30 := by have := hS.1.2.1; omega
  exact act2 (len2 := len) hT hS hJ hD hI (Or.inl rfl) (m_B_wheel ha ⟨hc, hd⟩ hS.1.1 hdn hS.1.2.2.2.1) (fun b s t mk df jo tr di dz => m_M_wheel hdn ha ⟨hc, hd⟩) (fun u _ => rfl) Iff.rfl
theorem two_coin (hT : tpR len ft xtp) (hS : shR (some (ar 1 1 fo9) :: dy) laws slot ahead made od dn un xwg xwh xsl xhw xhs xhd xha) (hJ : joR js wh fa fb fw xp1 xp2 xp3) (hD : diR fd f1 f2 kp xdc) (hI : I32 bd ∧ I32 tk) (ha : I32 a) (hc : I32 c) (hd : I32 d) : Two G M_B_coin M_M_coin [vi a, vi c, vi d] (Hp (sgB bd tk) (sgS laws slot ahead made (od : Int) (dn : Int) (un : Int)) (sgT (len : Int) ft) (sgK (nn : Int) rr ff gg) (sgF l0 D0 B0) (sgJ (js.length : Int) wh fa fb fw fl sl_) (sgR l9 W0 lv op r9 dd) (sgD (l8 : Int) fd f1 f2 kp fi se ta tl) (sgM th (len : Int) by9 (dn : Int) ((dn + un : Nat) : Int) bd (js.length : Int) wh tk fd f1 f2 xtp xwg xwh xmd xsl xhw xhs xhd xha xp1 xp2 xp3 xl1 xl2 xrt xlf xdc xhn xsu) (some (ar 1 1 fo9) :: dy)) := by
  have hdn : dn ≤ 30 := by have := hS.1.2.1; omega
  exact act2 (len2 := len) hT hS hJ hD hI (Or.inl rfl) (m_B_coin ha ⟨hc, hd⟩ hS.1.1 hdn hS.1.2.2.2.1) (fun b s t mk df jo tr di dz => m_M_coin hdn ha ⟨hc, hd⟩) (fun u _ => rfl) Iff.rfl
theorem two_sheet (hT : tpR len ft xtp) (hS : shR (some (ar 1 1 fo9) :: dy) laws slot ahead made od dn un xwg xwh xsl xhw xhs xhd xha) (hJ : joR js wh fa fb fw xp1 xp2 xp3) (hD : diR fd f1 f2 kp xdc) (hI : I32 bd ∧ I32 tk) (ha : I32 a) (hc : I32 c) (hd : I32 d) : Two G M_B_sheet M_M_sheet [vi a, vi c, vi d] (Hp (sgB bd tk) (sgS laws slot ahead made (od : Int) (dn : Int) (un : Int)) (sgT (len : Int) ft) (sgK (nn : Int) rr ff gg) (sgF l0 D0 B0) (sgJ (js.length : Int) wh fa fb fw fl sl_) (sgR l9 W0 lv op r9 dd) (sgD (l8 : Int) fd f1 f2 kp fi se ta tl) (sgM th (len : Int) by9 (dn : Int) ((dn + un : Nat) : Int) bd (js.length : Int) wh tk fd f1 f2 xtp xwg xwh xmd xsl xhw xhs xhd xha xp1 xp2 xp3 xl1 xl2 xrt xlf xdc xhn xsu) (some (ar 1 1 fo9) :: dy)) := by
  have hdn : dn ≤ 30 := by have := hS.1.2.1; omega
  have ef : ft = fun k => xtp k % 256 := by funext k; exact (hT.2 k).2
  exact act2 (len2 := 0) hT hS hJ hD hI (Or.inr rfl) (m_B_sheet ha ⟨hc, hd⟩ hT.1 (fun i => (hT.2 i).1) hS.1.1 hdn hS.1.2.2.2.1) (fun b s t mk df jo tr di dz => m_M_sheet hdn ha ⟨hc, hd⟩ hT.1) (fun u _ => by rw [ef]) (by rw [ef])
theorem two_urn (hT : tpR len ft xtp) (hS : shR (some (ar 1 1 fo9) :: dy) laws slot ahead made od dn un xwg xwh xsl xhw xhs xhd xha) (hJ : joR js wh fa fb fw xp1 xp2 xp3) (hD : diR fd f1 f2 kp xdc) (hI : I32 bd ∧ I32 tk) (ha : I32 a) (hc : I32 c) (hd : I32 d) (he : I32 e) (hB9 : 0 ≤ B ∧ B ≤ 1) : Two G M_B_urn M_M_urn [vi a, vi c, vi d, vi e, vi B] (Hp (sgB bd tk) (sgS laws slot ahead made (od : Int) (dn : Int) (un : Int)) (sgT (len : Int) ft) (sgK (nn : Int) rr ff gg) (sgF l0 D0 B0) (sgJ (js.length : Int) wh fa fb fw fl sl_) (sgR l9 W0 lv op r9 dd) (sgD (l8 : Int) fd f1 f2 kp fi se ta tl) (sgM th (len : Int) by9 (dn : Int) ((dn + un : Nat) : Int) bd (js.length : Int) wh tk fd f1 f2 xtp xwg xwh xmd xsl xhw xhs xhd xha xp1 xp2 xp3 xl1 xl2 xrt xlf xdc xhn xsu) (some (ar 1 1 fo9) :: dy)) := by
  have hdn : dn ≤ 30 := by have := hS.1.2.1; omega
  exact act2 (len2 := len) hT hS hJ hD hI (Or.inl rfl) (m_B_urn ha ⟨hc, hd, he⟩ hB9 hS.1.1 hdn hS.1.2.2.2.1) (fun b s t mk df jo tr di dz => m_M_urn hdn ha ⟨hc, hd, he⟩ hB9) (fun u _ => rfl) Iff.rfl
theorem two_times (hT : tpR len ft xtp) (hS : shR (some (ar 1 1 fo9) :: dy) laws slot ahead made od dn un xwg xwh xsl xhw xhs xhd xha) (hJ : joR js wh fa fb fw xp1 xp2 xp3) (hD : diR fd f1 f2 kp xdc) (hI : I32 bd ∧ I32 tk) (ha : I32 a) (he : I32 e) (hc : I32 c) (hd : I32 d) : Two G M_B_times M_M_times [vi a, vi e, vi c, vi d] (Hp (sgB bd tk) (sgS laws slot ahead made (od : Int) (dn : Int) (un : Int)) (sgT (len : Int) ft) (sgK (nn : Int) rr ff gg) (sgF l0 D0 B0) (sgJ (js.length : Int) wh fa fb fw fl sl_) (sgR l9 W0 lv op r9 dd) (sgD (l8 : Int) fd f1 f2 kp fi se ta tl) (sgM th (len : Int) by9 (dn : Int) ((dn + un : Nat) : Int) bd (js.length : Int) wh tk fd f1 f2 xtp xwg xwh xmd xsl xhw xhs xhd xha xp1 xp2 xp3 xl1 xl2 xrt xlf xdc xhn xsu) (some (ar 1 1 fo9) :: dy)) := by
  have hdn : dn ≤ 30 := by have := hS.1.2.1; omega
  rcases hS.at e with ⟨l1, l2⟩ | ⟨q, k, k1, k2, n, at_, wt, rfl, hq16, l1, l2, hA, A, eT⟩
  · exact act0 hT hS hJ hD hI (m_B_times_0 he l1) (fun b s t mk df jo tr di dz => m_M_times_0 he l2)
  · have hTq : ∀ v, 0 ≤ Tm xwg q v ∧ Tm xwg q v ≤ 1048576 := by rw [eT]; exact lw_q A
    refine act2 (len2 := len) hT hS hJ hD hI (Or.inl rfl) (m_B_times ha ⟨he, hc, hd⟩ l1 hA A hS.1.1 hdn hS.1.2.2.2.1) (fun b s t mk df jo tr di dz => m_M_times hdn ha ⟨hc, hd⟩ l2 hTq) (fun u _ => ?_) ?_
    · rw [eT]; exact d_map A (fun v => c * v + d) (fun _ t => t) (fun _ => rfl)
    · rw [eT, b_map A (fun v => c * v + d) (fun _ t => t) (fun _ _ h => h)]
theorem two_given (hT : tpR len ft xtp) (hS : shR (some (ar 1 1 fo9) :: dy) laws slot ahead made od dn un xwg xwh xsl xhw xhs xhd xha) (hJ : joR js wh fa fb fw xp1 xp2 xp3) (hD : diR fd f1 f2 kp xdc) (hI : I32 bd ∧ I32 tk) (ha : I32 a) (he : I32 e) (hc : I32 c) (hd : I32 d) : Two G M_B_given M_M_given [vi a, vi e, vi c, vi d] (Hp (sgB bd tk) (sgS laws slot ahead made (od : Int) (dn : Int) (un : Int)) (sgT (len : Int) ft) (sgK (nn : Int) rr ff gg) (sgF l0 D0 B0) (sgJ (js.length : Int) wh fa fb fw fl sl_) (sgR l9 W0 lv op r9 dd) (sgD (l8 : Int) fd f1 f2 kp fi se ta tl) (sgM th (len : Int) by9 (dn : Int) ((dn + un : Nat) : Int) bd (js.length : Int) wh tk fd f1 f2 xtp xwg xwh xmd xsl xhw xhs xhd xha xp1 xp2 xp3 xl1 xl2 xrt xlf xdc xhn xsu) (some (ar 1 1 fo9) :: dy)) := by
  have hdn : dn ≤ 30 := by have := hS.1.2.1; omega
  rcases hS.at e with ⟨l1, l2⟩ | ⟨q, k, k1, k2, n, at_, wt, rfl, hq16, l1, l2, hA, A, eT⟩
  · exact act0 hT hS hJ hD hI (m_B_given_0 he l1) (fun b s t mk df jo tr di dz => m_M_given_0 he l2)
  · have hTq : ∀ v, 0 ≤ Tm xwg q v ∧ Tm xwg q v ≤ 1048576 := by rw [eT]; exact lw_q A
    refine act2 (len2 := len) hT hS hJ hD hI (Or.inl rfl) (m_B_given ha ⟨he, hc, hd⟩ l1 hA A hS.1.1 hdn hS.1.2.2.2.1) (fun b s t mk df jo tr di dz => m_M_given hdn ha ⟨hc, hd⟩ l2 hTq) (fun u _ => ?_) ?_
    · rw [eT]; exact d_map A (fun v => v) (fun v t => if c ≤ v ∧ v ≤ d then t else 0) (fun v => by split <;> rfl)
    · exact ⟨fun z => absurd z (b_no (lw_inR A)), fun z => absurd z (b_no (fun i hi => idv_in hi))⟩
theorem two_sum (hT : tpR len ft xtp) (hS : shR (some (ar 1 1 fo9) :: dy) laws slot ahead made od dn un xwg xwh xsl xhw xhs xhd xha) (hJ : joR js wh fa fb fw xp1 xp2 xp3) (hD : diR fd f1 f2 kp xdc) (hI : I32 bd ∧ I32 tk) (ha : I32 a) (he : I32 e) (hB9 : I32 B) : Two G M_B_sum M_M_sum [vi a, vi e, vi B] (Hp (sgB bd tk) (sgS laws slot ahead made (od : Int) (dn : Int) (un : Int)) (sgT (len : Int) ft) (sgK (nn : Int) rr ff gg) (sgF l0 D0 B0) (sgJ (js.length : Int) wh fa fb fw fl sl_) (sgR l9 W0 lv op r9 dd) (sgD (l8 : Int) fd f1 f2 kp fi se ta tl) (sgM th (len : Int) by9 (dn : Int) ((dn + un : Nat) : Int) bd (js.length : Int) wh tk fd f1 f2 xtp xwg xwh xmd xsl xhw xhs xhd xha xp1 xp2 xp3 xl1 xl2 xrt xlf xdc xhn xsu) (some (ar 1 1 fo9) :: dy)) := by
  have hdn : dn ≤ 30 := by have := hS.1.2.1; omega
  rcases hS.at e with ⟨l1, l2⟩ | ⟨q, k, k1, k2, n, at_, wt, rfl, hq16, l1, l2, hA, A, eT⟩
  · exact act0 hT hS hJ hD hI (m_B_sum_0 ⟨he, hB9⟩ l1) (fun b s t mk df jo tr di dz => m_M_sum_0 ⟨he, hB9⟩ (fun z => l2 z.1))
  · rcases hS.at B with ⟨l3, l4⟩ | ⟨q2, j, j1, j2, m, at2, wt2, rfl, hq17, l3, l4, hA2, A2, eT2⟩
    · exact act0 hT hS hJ hD hI (m_B_sum_1 ⟨he, hB9⟩ l1 l3) (fun b s t mk df jo tr di dz => m_M_sum_0 ⟨he, hB9⟩ (fun z => l4 z.2))
    · have hTq : ∀ v, 0 ≤ Tm xwg q v ∧ Tm xwg q v ≤ 1048576 := by rw [eT]; exact lw_q A
      have hTq2 : ∀ v, 0 ≤ Tm xwg q2 v ∧ Tm xwg q2 v ≤ 1048576 := by rw [eT2]; exact lw_q A2
      refine act2 (len2 := len) hT hS hJ hD hI (Or.inl rfl) (m_B_sum ha ⟨he, hB9⟩ l1 l3 hA A hA2 A2 hS.1.1 hdn hS.1.2.2.2.1) (fun b s t mk df jo tr di dz => m_M_sum hdn ha l2 hTq l4 hTq2) (fun u _ => ?_) ?_
      · rw [eT, eT2]; exact T2_map A A2
      · rw [eT, eT2]; exact B2_map A A2
theorem two_of (hT : tpR len ft xtp) (hS : shR (some (ar 1 1 fo9) :: dy) laws slot ahead made od dn un xwg xwh xsl xhw xhs xhd xha) (hJ : joR js wh fa fb fw xp1 xp2 xp3) (hD : diR fd f1 f2 kp xdc) (hI : I32 bd ∧ I32 tk) (ha : I32 a) (he : I32 e) (hB9 : I32 B) (hd : I32 d) : Two G M_B_of M_M_of [vi a, vi e, vi B, vi d] (Hp (sgB bd tk) (sgS laws slot ahead made (od : Int) (dn : Int) (un : Int)) (sgT (len : Int) ft) (sgK (nn : Int) rr ff gg) (sgF l0 D0 B0) (sgJ (js.length : Int) wh fa fb fw fl sl_) (sgR l9 W0 lv op r9 dd) (sgD (l8 : Int) fd f1 f2 kp fi se ta tl) (sgM th (len : Int) by9 (dn : Int) ((dn + un : Nat) : Int) bd (js.length : Int) wh tk fd f1 f2 xtp xwg xwh xmd xsl xhw xhs xhd xha xp1 xp2 xp3 xl1 xl2 xrt xlf xdc xhn xsu) (some (ar 1 1 fo9) :: dy)) := by
  have hdn : dn ≤ 30 := by have := hS.1.2.1; omega
  by_cases h2 : 0 ≤ d ∧ d ≤ 2
  · rcases hS.at e with ⟨l1, l2⟩ | ⟨q, k, k1, k2, n, at_, wt, rfl, hq16, l1, l2, hA, A, eT⟩
    · exact act0 hT hS hJ hD hI (m_B_of_0 ⟨he, hB9⟩ h2 l1) (fun b s t mk df jo tr di dz => m_M_of_0 ⟨he, hB9⟩ (fun z => l2 z.1))
    · rcases hS.at B with ⟨l3, l4⟩ | ⟨q2, j, j1, j2, m, at2, wt2, rfl, hq17, l3, l4, hA2, A2, eT2⟩
      · exact act0 hT hS hJ hD hI (m_B_of_1 ⟨he, hB9⟩ h2 l1 l3) (fun b s t mk df jo tr di dz => m_M_of_0 ⟨he, hB9⟩ (fun z => l4 z.2))
      · have hTq : ∀ v, 0 ≤ Tm xwg q v ∧ Tm xwg q v ≤ 1048576 := by rw [eT]; exact lw_q A
        have hTq2 : ∀ v, 0 ≤ Tm xwg q2 v ∧ Tm xwg q2 v ≤ 1048576 := by rw [eT2]; exact lw_q A2
        refine act2 (len2 := len) hT hS hJ hD hI (Or.inl rfl) (m_B_of ha ⟨he, hB9⟩ h2 l1 l3 hA A hA2 A2 hS.1.1 hdn hS.1.2.2.2.1) (fun b s t mk df jo tr di dz => m_M_of hdn ha h2 l2 hTq l4 hTq2) (fun u _ => ?_) ?_
        · rw [eT, eT2]; exact T2_map A A2
        · rw [eT, eT2]; exact B2_map A A2
  · refine act0 hT hS hJ hD hI (m_B_of_2 hd h2) (fun b s t mk df jo tr di dz => ?_)
    by_cases hl : isLw xwh e ∧ isLw xwh B
    · exact m_M_of_2 hd h2 hl
    · exact m_M_of_0 ⟨he, hB9⟩ hl
theorem two_mix (hT : tpR len ft xtp) (hS : shR (some (ar 1 1 fo9) :: dy) laws slot ahead made od dn un xwg xwh xsl xhw xhs xhd xha) (hJ : joR js wh fa fb fw xp1 xp2 xp3) (hD : diR fd f1 f2 kp xdc) (hI : I32 bd ∧ I32 tk) (ha : I32 a) (he : I32 e) (hB9 : I32 B) (hc : I32 c) (hd : I32 d) : Two G M_B_mix M_M_mix [vi a, vi e, vi B, vi c, vi d] (Hp (sgB bd tk) (sgS laws slot ahead made (od : Int) (dn : Int) (un : Int)) (sgT (len : Int) ft) (sgK (nn : Int) rr ff gg) (sgF l0 D0 B0) (sgJ (js.length : Int) wh fa fb fw fl sl_) (sgR l9 W0 lv op r9 dd) (sgD (l8 : Int) fd f1 f2 kp fi se ta tl) (sgM th (len : Int) by9 (dn : Int) ((dn + un : Nat) : Int) bd (js.length : Int) wh tk fd f1 f2 xtp xwg xwh xmd xsl xhw xhs xhd xha xp1 xp2 xp3 xl1 xl2 xrt xlf xdc xhn xsu) (some (ar 1 1 fo9) :: dy)) := by
  have hdn : dn ≤ 30 := by have := hS.1.2.1; omega
  rcases hS.at e with ⟨l1, l2⟩ | ⟨q, k, k1, k2, n, at_, wt, rfl, hq16, l1, l2, hA, A, eT⟩
  · exact act0 hT hS hJ hD hI (m_B_mix_0 ⟨he, hB9⟩ l1) (fun b s t mk df jo tr di dz => m_M_mix_0 ⟨he, hB9⟩ (fun z => l2 z.1))
  · rcases hS.at B with ⟨l3, l4⟩ | ⟨q2, j, j1, j2, m, at2, wt2, rfl, hq17, l3, l4, hA2, A2, eT2⟩
    · exact act0 hT hS hJ hD hI (m_B_mix_1 ⟨he, hB9⟩ l1 l3) (fun b s t mk df jo tr di dz => m_M_mix_0 ⟨he, hB9⟩ (fun z => l4 z.2))
    · have hTq : ∀ v, 0 ≤ Tm xwg q v ∧ Tm xwg q v ≤ 1048576 := by rw [eT]; exact lw_q A
      have hTq2 : ∀ v, 0 ≤ Tm xwg q2 v ∧ Tm xwg q2 v ≤ 1048576 := by rw [eT2]; exact lw_q A2
      refine act2 (len2 := len) hT hS hJ hD hI (Or.inl rfl) (m_B_mix ha ⟨he, hB9, hc, hd⟩ l1 l3 hA A hA2 A2 hS.1.1 hdn hS.1.2.2.2.1) (fun b s t mk df jo tr di dz => m_M_mix hdn ha ⟨hc, hd⟩ l2 hTq l4 hTq2 ⟨⟨A.2.2.2.1, A.2.2.2.2.1⟩, A2.2.2.2.1, A2.2.2.2.2.1⟩) (fun u _ => ?_) ?_
      · rw [eT, eT2]
        have e1 := d_map (u := u) A (fun v => v) (fun _ t => t * (c * xwh q2)) (fun _ => by simp)
        have e2 := d_map (u := u) A2 (fun v => v) (fun _ t => t * ((d - c) * xwh q)) (fun _ => by simp)
        refine (congrArg (fun z => z + _) e1).trans ((congrArg (fun z => _ + z) e2).trans ?_)
        refine congr (congrArg HAdd.hAdd (sumZ_ext (fun i _ => ?_))) (sumZ_ext (fun i _ => ?_))
        · simp only; split
          · rw [Int.mul_comm _ (c * xwh q2), Int.mul_assoc, Int.mul_comm (xwh q2), ← Int.mul_assoc]
          · rfl
        · simp only; split
          · rw [Int.mul_comm _ ((d - c) * xwh q), Int.mul_assoc, Int.mul_comm (xwh q), ← Int.mul_assoc]
          · rfl
      · constructor
        · rintro (z | z | z)
          · exact z
          · exact absurd z (b_no (lw_inR A))
          · exact absurd z (b_no (lw_inR A2))
        · exact fun z => Or.inl z
end
