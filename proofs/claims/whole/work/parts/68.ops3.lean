section
variable {at_ wt g : Nat → Int} {n : Nat} {W c : Int}
theorem al_iff (A : lwN n at_ wt W) : alM (den at_ wt n) W ↔ ∃ i, i < n ∧ wt i = W := ex_T (P := fun _ t => t = W) (fun _ t h => by have := A.2.2.2.1; omega) A
theorem al_one (A : lwN n at_ wt W) (h : alM (den at_ wt n) W) : n = 1 ∧ wt 0 = W := by
  obtain ⟨i, hi, e⟩ := (al_iff A).mp h
  have hs := A.2.2.2.2.2
  have h1 : ∀ j, j < n → j = i := fun j hj => Classical.byContradiction (fun hne => by
    have a := sumZ_one (F := wt) (G := fun k => if k = i then 0 else wt k) hi (fun k hk hne2 => by simp only [if_neg hne2])
    simp only [if_true] at a
    have b := sumZ_le (g := fun k => if k = i then 0 else wt k) (n := n) (fun k hk => by split; exact Int.le_refl _; have := (A.2.2.1 k hk).2; omega) (m := n) (i := j) (Nat.le_refl n) hj
    simp only [if_neg hne] at b
    have := (A.2.2.1 j hj).2
    omega)
  have h0 := A.1.1
  have e0 := h1 0 (by omega)
  have e1 : n = 1 := Classical.byContradiction (fun z => by have := h1 1 (by omega); omega)
  exact ⟨e1, by rw [e0]; exact e⟩
theorem rsd_lt {x : Int} (h : x < W) : rsd W x = x ∧ dg W x = 0 := by unfold rsd dg; rw [if_pos h]; omega
theorem al_rT (h : wt 0 = W) (hW : 1 ≤ W) : ∀ k, rT W wt k 0 = 0
  | 0 => by rw [rT, h, Int.one_mul]; unfold rsd dg; rw [if_neg (by omega)]; omega
  | k + 1 => by rw [rT, al_rT h hW k]; exact (rsd_lt (by omega)).1
theorem al_dT (h : wt 0 = W) (hW : 1 ≤ W) (k : Nat) : dT W wt k 0 = if k = 0 then 1 else 0 := by
  cases k with
  | zero => rw [dT, h, Int.one_mul]; unfold dg; rw [if_neg (by omega)]; rfl
  | succ k => rw [dT, al_rT h hW k, if_neg (by omega)]; exact (rsd_lt (by omega)).2
theorem den_z0 {v : Int} (h : ∀ i, i < n → g i = 0) : den at_ g n v = 0 := by
  have : den at_ g n v = sumZ (fun _ => 0) n := sumZ_ext (fun i hi => by rw [h i hi]; split <;> rfl)
  rw [this, sumZ_0]
/-- by the value, or none -/
theorem den_cases (A : lwN n at_ wt W) (v : Int) : (∃ i, i < n ∧ at_ i = v ∧ ∀ g : Nat → Int, den at_ g n v = g i) ∨ ∀ g : Nat → Int, den at_ g n v = 0 := by
  by_cases hit : ∃ i, i < n ∧ at_ i = v
  · obtain ⟨i, hi, rfl⟩ := hit
    exact Or.inl ⟨i, hi, rfl, fun g => den_at A.2.1 hi⟩
  · exact Or.inr (fun g => den_0 (fun i hi e => hit ⟨i, hi, e⟩))
theorem mr_rT (A : lwN n at_ wt W) (h : ¬ alM (den at_ wt n) W) : ∀ k, mr (den at_ wt n) W k = den at_ (rT W wt k) n
  | 0 => by
    funext v
    have hW := A.2.2.2.1
    rcases den_cases A v with ⟨i, hi, e, hg⟩ | hg
    · rw [mr, hg, hg, rT, Int.one_mul, (rsd_lt (show wt i < W by have := (A.2.2.1 i hi).2; rcases Int.lt_or_le (wt i) W with z | z; exact z; exact absurd ((al_iff A).mpr ⟨i, hi, by omega⟩) h)).1]
    · rw [mr, hg, hg]
  | k + 1 => by
    funext v
    have hW := A.2.2.2.1
    rw [mr, mr_rT A h k]
    rcases den_cases A v with ⟨i, hi, e, hg⟩ | hg
    · rw [hg, hg]; rfl
    · rw [hg, hg]; exact (rsd_lt (by omega)).1
theorem dT_0 (A : lwN n at_ wt W) (h : ¬ alM (den at_ wt n) W) : ∀ i, i < n → dT W wt 0 i = 0 := fun i hi => by
  rw [dT, Int.one_mul]
  exact (rsd_lt (show wt i < W by have := (A.2.2.1 i hi).2; rcases Int.lt_or_le (wt i) W with z | z; exact z; exact absurd ((al_iff A).mpr ⟨i, hi, by omega⟩) h)).2
theorem mg_dT (A : lwN n at_ wt W) (h : ¬ alM (den at_ wt n) W) (k : Nat) : mg (den at_ wt n) W k = den at_ (dT W wt k) n := by
  funext v
  have hW := A.2.2.2.1
  cases k with
  | zero => rw [mg, den_z0 (dT_0 A h)]
  | succ k =>
    rw [mg, mr_rT A h k]
    rcases den_cases A v with ⟨i, hi, e, hg⟩ | hg
    · rw [hg, hg]; rfl
    · rw [hg, hg]; exact (rsd_lt (by omega)).2
theorem sT_den (A : lwN n at_ wt W) : sT (den at_ g n) = sumZ g n := tr_ (F := fun _ t => t) (fun _ _ => rfl) A.2.1 (lw_inR A)
theorem ml_lT (A : lwN n at_ wt W) (h : ¬ alM (den at_ wt n) W) (k : Nat) : ml (den at_ wt n) W k = lT n W wt k := by
  unfold ml lT
  rw [mg_dT A h k]
  exact sT_den A
theorem mo_oT (A : lwN n at_ wt W) (h : ¬ alM (den at_ wt n) W) : ∀ k, mo (den at_ wt n) W k = oT n W wt k
  | 0 => by
    have : lT n W wt 0 = 0 := by rw [← ml_lT A h, ml_0]
    rw [mo, oT, this]; rfl
  | k + 1 => by rw [mo, oT, mo_oT A h k, ml_lT A h]
theorem moA_oT (A : lwN n at_ wt W) (k : Nat) : moA (den at_ wt n) W k = oT n W wt k := by
  by_cases h : alM (den at_ wt n) W
  · rw [moA_1 h]
    obtain ⟨rfl, e⟩ := al_one A h
    have hl : ∀ k, lT 1 W wt k = if k = 0 then 1 else 0 := fun k => by
      unfold lT; simp only [sumZ]; rw [al_dT e A.2.2.2.1]; omega
    have : ∀ k, oT 1 W wt k = 0 := fun k => by
      induction k with
      | zero => rw [oT, hl]; rfl
      | succ k ih => rw [oT, ih, hl, if_neg (by omega)]; rfl
    exact (this k).symm
  · rw [moA_0 h, mo_oT A h]
theorem lfM_hlf (A : lwN n at_ wt W) (k : Nat) : lfM (den at_ wt n) W k c = hlf n W at_ wt k c := by
  rw [hlf_den]
  unfold lfM
  rcases den_cases A c with ⟨i, hi, e, hg⟩ | hg
  · have hw := (A.2.2.1 i hi).2
    rw [hg, hg, if_neg (by omega)]
    have hd : dT W wt k i = 0 ∨ dT W wt k i = 1 := by
      cases k with
      | zero => have := dg_in W (1 * wt i); rw [dT]; omega
      | succ k => have := dg_in W (2 * rT W wt k i); rw [dT]; omega
    by_cases h : alM (den at_ wt n) W
    · rw [if_pos h]
      obtain ⟨rfl, ew⟩ := al_one A h
      obtain rfl : i = 0 := by omega
      rw [al_dT ew A.2.2.2.1]
      by_cases hk : k = 0
      · rw [if_pos hk]; rfl
      · rw [if_neg hk]; rfl
    · rw [if_neg h, mg_dT A h, hg]
      rcases hd with z | z <;> rw [z] <;> rfl
  · rw [hg, hg, if_pos rfl]
theorem sm_uT (A : lwN n at_ wt W) : ∀ k, uT n W wt k = 2 * smM (den at_ wt n) W k
  | 0 => by rw [uT, smM]; rfl
  | k + 1 => by rw [uT, smM, sm_uT A k, moA_oT A]; omega
theorem vl_iol (A : lwN n at_ wt W) (hg : ∀ i, i < n → g i = 0 ∨ g i = 1) : ∀ (y k : Nat) (l c : Int), k + y = 2001 → 0 ≤ l → vlT (den at_ g n) y k l = if iol g (c + l) (n - lb at_ (idv k) n) (lb at_ (idv k) n) c = -1 then none else some (at_ (iol g (c + l) (n - lb at_ (idv k) n) (lb at_ (idv k) n) c).toNat) := by
  intro y
  induction y with
  | zero =>
    intro k l c hk hl
    have : k = 2001 := by omega
    rw [this, lb_end A, Nat.sub_self, vlT, iol, if_pos rfl]
  | succ y ih =>
    intro k l c hk hl
    rw [vlT]
    by_cases hit : ∃ i, i < n ∧ at_ i = idv k
    · obtain ⟨i, hi, ei⟩ := hit
      obtain ⟨l1, l2⟩ := lb_hit A hi ei
      rw [← ei, den_at A.2.1 hi, ei, l1, show n - i = (n - (i + 1)) + 1 by omega]
      rcases hg i hi with z | z
      · have hio : iol g (c + l) (n - (i + 1) + 1) i c = iol g (c + l) (n - (i + 1)) (i + 1) c := by rw [iol, if_neg (by rw [z]; decide)]
        rw [z, if_pos rfl, hio, ih (k + 1) l c (by omega) hl, l2]
      · by_cases h0 : l = 0
        · have hio : iol g (c + l) (n - (i + 1) + 1) i c = (i : Int) := by rw [iol, if_pos z, if_pos (by omega)]
          rw [z, if_neg (by decide), if_pos h0, hio, if_neg (by omega), ← ei]; rfl
        · have hio : iol g (c + l) (n - (i + 1) + 1) i c = iol g (c + l) (n - (i + 1)) (i + 1) (c + 1) := by rw [iol, if_pos z, if_neg (by omega)]
          rw [z, if_neg (by decide), if_neg h0, hio, ih (k + 1) (l + -1) (c + 1) (by omega) (by omega), l2, show c + 1 + (l + -1) = c + l by omega]
    · have hm : ∀ i, i < n → at_ i ≠ idv k := fun i hi ei => hit ⟨i, hi, ei⟩
      rw [den_0 hm, if_pos rfl, ih (k + 1) l c (by omega) hl, lb_miss A hm]
theorem vl_i0 (A : lwN n at_ wt W) (hg : ∀ i, i < n → g i = 0 ∨ g i = 1) {l : Int} (hl : 0 ≤ l) : vlT (den at_ g n) 2001 0 l = if iol g l n 0 0 = -1 then none else some (at_ (iol g l n 0 0).toNat) := by
  have h := vl_iol A hg 2001 0 l 0 (by omega) hl
  rw [lb_beg A, Nat.sub_zero, Int.zero_add] at h
  exact h
theorem vlT_none {T : Int → Int} (h : ∀ v, 0 ≤ T v ∧ T v ≤ 1) : ∀ (y i : Nat) (l : Int), i + y = 2001 → sT T - sumZ (fun k => T (idv k)) i ≤ l → vlT T y i l = none := by
  intro y
  induction y with
  | zero => intro i l e h1; rfl
  | succ y ih =>
    intro i l e h1
    have hv := h (idv i)
    have es : sumZ (fun k => T (idv k)) (i + 1) = sumZ (fun k => T (idv k)) i + T (idv i) := rfl
    have hle : sumZ (fun k => T (idv k)) (i + 1) ≤ sT T := by
      have : ∀ d j : Nat, sumZ (fun k => T (idv k)) j ≤ sumZ (fun k => T (idv k)) (j + d) := fun d j => by
        induction d with
        | zero => exact Int.le_refl _
        | succ d ihd => have h9 := (h (idv (j + d))).1; rw [← Nat.add_assoc]; simp only [sumZ]; omega
      have h8 := this (2001 - (i + 1)) (i + 1)
      rw [show i + 1 + (2001 - (i + 1)) = 2001 by omega] at h8
      exact h8
    rw [vlT]
    by_cases hz : T (idv i) = 0
    · rw [if_pos hz]; exact ih (i + 1) l (by omega) (by omega)
    · rw [if_neg hz, if_neg (by omega)]; exact ih (i + 1) (l + -1) (by omega) (by omega)
theorem dT_01 (k i : Nat) : dT W wt k i = 0 ∨ dT W wt k i = 1 := by
  cases k with
  | zero => have := dg_in W (1 * wt i); rw [dT]; omega
  | succ k => have := dg_in W (2 * rT W wt k i); rw [dT]; omega
theorem bit_eq {ft xtp : Nat → Int} (h : ∀ j, ft j = xtp j % 256) (k : Nat) : bitF xtp k = bitF ft k := by
  unfold bitF
  rw [h]
  have h8 : k % 8 < 8 := Nat.mod_lt _ (by omega)
  rcases (show k % 8 = 0 ∨ k % 8 = 1 ∨ k % 8 = 2 ∨ k % 8 = 3 ∨ k % 8 = 4 ∨ k % 8 = 5 ∨ k % 8 = 6 ∨ k % 8 = 7 by omega) with z | z | z | z | z | z | z | z <;> rw [z] <;> simp only [Nat.sub_zero, Nat.reduceSub, Nat.reducePow] <;> omega
theorem nM_nT (A : lwN n at_ wt W) (h : ¬ alM (den at_ wt n) W) {ft xtp : Nat → Int} (hf : ∀ j, ft j = xtp j % 256) : ∀ k, nM (den at_ wt n) W xtp k = nT n W wt ft k
  | 0 => rfl
  | k + 1 => by rw [nM, nT, nM_nT A h hf k, ml_lT A h, bit_eq hf]
end
section
variable {G : GT} {h : HT} {a c d e B th : Int} {bd tk : Int} {laws : Nat → Option (Nat × Nat)} {slot : Nat → Int} {ahead made : Nat → Option (Nat × Nat)} {od dn un len nn : Nat} {ft : Nat → Int} {rr : Int} {ff gg : Nat → Int} {l0 : Int} {D0 B0 : Nat → Int} {js : List T3} {wh : Int} {fa fb fw fl sl_ : Nat → Int} {l9 W0 lv op : Int} {r9 dd : Nat → Int} {l8 : Nat} {fd f1 f2 : Int} {kp fi se ta tl : Nat → Int} {by9 : Int} {xtp xwg xwh xmd xsl xhw xhs xhd xha xp1 xp2 xp3 xl1 xl2 xrt xlf xdc xhn xsu : Nat → Int} {fo9 : Nat → Int} {dy : SG}
theorem op_open (hT : tpR len ft xtp) (hS : shR (some (ar 1 1 fo9) :: dy) laws slot ahead made od dn un xwg xwh xsl xhw xhs xhd xha) (hJ : joR js wh fa fb fw xp1 xp2 xp3) (hD : diR fd f1 f2 kp xdc) (hI : I32 bd ∧ I32 tk) (he : I32 e) (hd : I32 d) : Op G M_Z_open [(0, 10, 13, 13)] M_M_open I32 (fun z => vi z) [vi e, vi d] (Hp (sgB bd tk) (sgS laws slot ahead made (od : Int) (dn : Int) (un : Int)) (sgT (len : Int) ft) (sgK (nn : Int) rr ff gg) (sgF l0 D0 B0) (sgJ (js.length : Int) wh fa fb fw fl sl_) (sgR l9 W0 lv op r9 dd) (sgD (l8 : Int) fd f1 f2 kp fi se ta tl) (sgM th (len : Int) by9 (dn : Int) ((dn + un : Nat) : Int) bd (js.length : Int) wh tk fd f1 f2 xtp xwg xwh xmd xsl xhw xhs xhd xha xp1 xp2 xp3 xl1 xl2 xrt xlf xdc xhn xsu) (some (ar 1 1 fo9) :: dy)) := by
  have hdn : dn ≤ 30 := by have := hS.1.2.1; omega
  have hln := hT.1
  refine h_open rfl ?_
  rcases hS.at e with ⟨l1, l2⟩ | ⟨q, k, k1, k2, n, at_, wt, rfl, hq16, l1, l2, hA, A, eT⟩
  · refine am_mono (m_B_open_t he l1) (fun _ _ z => z.elim) (fun g hg => ?_)
    obtain ⟨j9, rfl⟩ := hg
    rw [junk_Hp]
    exact am_monoR (m_M_open_0 ⟨he, hd⟩ (fun z => l2 z.1)) (fun y g2 w => ⟨⟨_, w.1⟩, fo9 0, by rw [w.2]; exact ⟨bd, tk, laws, slot, ahead, made, od, dn, un, len, nn, ft, rr, ff, gg, l0, D0, B0, js, wh, fa, fb, fw, fl, sl_, l9, W0, lv, op, r9, dd, l8, fd, f1, f2, kp, fi, se, ta, tl, by9, xtp, xwg, xwh, xmd, xsl, xhw, xhs, xhd, xha, xp1, xp2, xp3, xl1, xl2, xrt, xlf, xdc, xhn, xsu, fo9, dy ++ List.replicate j9 none, hT, hS.app, hJ, hD, hI, rfl, rfl⟩⟩) (fun _ z => z)
  · have hTq : ∀ v, 0 ≤ Tm xwg q v ∧ Tm xwg q v ≤ 1048576 := by rw [eT]; exact lw_q A
    have hw : 1 ≤ xwh q ∧ xwh q ≤ 1048576 := ⟨A.2.2.2.1, A.2.2.2.2.1⟩
    have hTW : ∀ v, Tm xwg q v ≤ xwh q := by rw [eT]; exact lw_qW A
    by_cases h2 : 0 ≤ d ∧ d ≤ 60
    · obtain ⟨K, rfl⟩ : ∃ K : Nat, d = (K : Int) := ⟨d.toNat, by omega⟩
      have ho := oT_in A K
      have hv : I32 (oT n (xwh q) wt K) := by constructor <;> omega
      refine am_mono (m_B_open he (by omega) l1 hA A) (fun r g z => ?_) (fun _ z => z.elim)
      obtain ⟨z1, r2, dd2, rfl⟩ := z
      refine ⟨oT n (xwh q) wt K, z1, hv, _, _, _, _, _, _, _, _, _, _, _, rfl, hv, ?_⟩
      refine am_monoR (m_M_open l2 hTq hw hTW (by omega)) (fun y g2 w => ?_) (fun _ z => z)
      obtain ⟨w1, rt, lf, rfl⟩ := w
      exact ⟨by rw [w1, eT, moA_oT A], ⟨bd, tk, laws, slot, ahead, made, od, dn, un, len, nn, ft, rr, ff, gg, l0, D0, B0, js, wh, fa, fb, fw, fl, sl_, _, _, _, _, _, _, l8, fd, f1, f2, kp, fi, se, ta, tl, by9, xtp, xwg, xwh, xmd, xsl, xhw, xhs, xhd, xha, xp1, xp2, xp3, xl1, xl2, _, _, xdc, xhn, xsu, _, dy, hT, hS.out, hJ, hD, hI, va_eq, rfl⟩⟩
    · refine am_mono (m_B_open_t2 he hd h2 l1) (fun _ _ z => z.elim) (fun g hg => ?_)
      obtain ⟨j9, rfl⟩ := hg
      rw [junk_Hp]
      exact am_monoR (m_M_open_0 ⟨he, hd⟩ (fun z => h2 z.2)) (fun y g2 w => ⟨⟨_, w.1⟩, fo9 0, by rw [w.2]; exact ⟨bd, tk, laws, slot, ahead, made, od, dn, un, len, nn, ft, rr, ff, gg, l0, D0, B0, js, wh, fa, fb, fw, fl, sl_, l9, W0, lv, op, r9, dd, l8, fd, f1, f2, kp, fi, se, ta, tl, by9, xtp, xwg, xwh, xmd, xsl, xhw, xhs, xhd, xha, xp1, xp2, xp3, xl1, xl2, xrt, xlf, xdc, xhn, xsu, fo9, dy ++ List.replicate j9 none, hT, hS.app, hJ, hD, hI, rfl, rfl⟩⟩) (fun _ z => z)
theorem op_leaf (hT : tpR len ft xtp) (hS : shR (some (ar 1 1 fo9) :: dy) laws slot ahead made od dn un xwg xwh xsl xhw xhs xhd xha) (hJ : joR js wh fa fb fw xp1 xp2 xp3) (hD : diR fd f1 f2 kp xdc) (hI : I32 bd ∧ I32 tk) (he : I32 e) (hc : I32 c) (hd : I32 d) : Op G M_Z_leaf [(0, 19, 22, 13)] M_M_leaf I01 (fun z => vi z) [vi e, vi c, vi d] (Hp (sgB bd tk) (sgS laws slot ahead made (od : Int) (dn : Int) (un : Int)) (sgT (len : Int) ft) (sgK (nn : Int) rr ff gg) (sgF l0 D0 B0) (sgJ (js.length : Int) wh fa fb fw fl sl_) (sgR l9 W0 lv op r9 dd) (sgD (l8 : Int) fd f1 f2 kp fi se ta tl) (sgM th (len : Int) by9 (dn : Int) ((dn + un : Nat) : Int) bd (js.length : Int) wh tk fd f1 f2 xtp xwg xwh xmd xsl xhw xhs xhd xha xp1 xp2 xp3 xl1 xl2 xrt xlf xdc xhn xsu) (some (ar 1 1 fo9) :: dy)) := by
  have hdn : dn ≤ 30 := by have := hS.1.2.1; omega
  have hln := hT.1
  refine h_leaf rfl ?_
  rcases hS.at e with ⟨l1, l2⟩ | ⟨q, k, k1, k2, n, at_, wt, rfl, hq16, l1, l2, hA, A, eT⟩
  · refine am_mono (m_B_leaf_t he l1) (fun _ _ z => z.elim) (fun g hg => ?_)
    obtain ⟨j9, rfl⟩ := hg
    rw [junk_Hp]
    exact am_monoR (m_M_leaf_0 ⟨he, hd⟩ (fun z => l2 z.1)) (fun y g2 w => ⟨⟨_, w.1⟩, fo9 0, by rw [w.2]; exact ⟨bd, tk, laws, slot, ahead, made, od, dn, un, len, nn, ft, rr, ff, gg, l0, D0, B0, js, wh, fa, fb, fw, fl, sl_, l9, W0, lv, op, r9, dd, l8, fd, f1, f2, kp, fi, se, ta, tl, by9, xtp, xwg, xwh, xmd, xsl, xhw, xhs, xhd, xha, xp1, xp2, xp3, xl1, xl2, xrt, xlf, xdc, xhn, xsu, fo9, dy ++ List.replicate j9 none, hT, hS.app, hJ, hD, hI, rfl, rfl⟩⟩) (fun _ z => z)
  · have hTq : ∀ v, 0 ≤ Tm xwg q v ∧ Tm xwg q v ≤ 1048576 := by rw [eT]; exact lw_q A
    have hw : 1 ≤ xwh q ∧ xwh q ≤ 1048576 := ⟨A.2.2.2.1, A.2.2.2.2.1⟩
    have hTW : ∀ v, Tm xwg q v ≤ xwh q := by rw [eT]; exact lw_qW A
    by_cases h2 : 0 ≤ d ∧ d ≤ 60
    · obtain ⟨K, rfl⟩ : ∃ K : Nat, d = (K : Int) := ⟨d.toNat, by omega⟩
      have hv : I01 (hlf n (xwh q) at_ wt K c) := by
        rw [hlf_den]
        rcases den_cases A c with ⟨i, hi, e, hg⟩ | hg
        · rw [hg]; split <;> omega
        · rw [hg]; omega
      refine am_mono (m_B_leaf he hc (by omega) l1 hA A) (fun r g z => ?_) (fun _ z => z.elim)
      obtain ⟨z1, r2, dd2, rfl⟩ := z
      refine ⟨hlf n (xwh q) at_ wt K c, z1, hv, _, _, _, _, _, _, _, _, _, _, _, rfl, hv, ?_⟩
      refine am_monoR (m_M_leaf l2 hTq hw hTW hc (by omega)) (fun y g2 w => ?_) (fun _ z => z)
      obtain ⟨w1, rt, lf, rfl⟩ := w
      exact ⟨by rw [w1, eT, lfM_hlf A], ⟨bd, tk, laws, slot, ahead, made, od, dn, un, len, nn, ft, rr, ff, gg, l0, D0, B0, js, wh, fa, fb, fw, fl, sl_, _, _, _, _, _, _, l8, fd, f1, f2, kp, fi, se, ta, tl, by9, xtp, xwg, xwh, xmd, xsl, xhw, xhs, xhd, xha, xp1, xp2, xp3, xl1, xl2, _, _, xdc, xhn, xsu, _, dy, hT, hS.out, hJ, hD, hI, va_eq, rfl⟩⟩
    · refine am_mono (m_B_leaf_t2 he hd h2 l1) (fun _ _ z => z.elim) (fun g hg => ?_)
      obtain ⟨j9, rfl⟩ := hg
      rw [junk_Hp]
      exact am_monoR (m_M_leaf_0 ⟨he, hd⟩ (fun z => h2 z.2)) (fun y g2 w => ⟨⟨_, w.1⟩, fo9 0, by rw [w.2]; exact ⟨bd, tk, laws, slot, ahead, made, od, dn, un, len, nn, ft, rr, ff, gg, l0, D0, B0, js, wh, fa, fb, fw, fl, sl_, l9, W0, lv, op, r9, dd, l8, fd, f1, f2, kp, fi, se, ta, tl, by9, xtp, xwg, xwh, xmd, xsl, xhw, xhs, xhd, xha, xp1, xp2, xp3, xl1, xl2, xrt, xlf, xdc, xhn, xsu, fo9, dy ++ List.replicate j9 none, hT, hS.app, hJ, hD, hI, rfl, rfl⟩⟩) (fun _ z => z)
theorem op_lots (hT : tpR len ft xtp) (hS : shR (some (ar 1 1 fo9) :: dy) laws slot ahead made od dn un xwg xwh xsl xhw xhs xhd xha) (hJ : joR js wh fa fb fw xp1 xp2 xp3) (hD : diR fd f1 f2 kp xdc) (hI : I32 bd ∧ I32 tk) (he : I32 e) (hc : I32 c) (hd : I32 d) : Op G M_Z_lots [(0, 11, 14, 13)] M_M_lots I64 (fun z => vl z) [vi e, vi c, vi d] (Hp (sgB bd tk) (sgS laws slot ahead made (od : Int) (dn : Int) (un : Int)) (sgT (len : Int) ft) (sgK (nn : Int) rr ff gg) (sgF l0 D0 B0) (sgJ (js.length : Int) wh fa fb fw fl sl_) (sgR l9 W0 lv op r9 dd) (sgD (l8 : Int) fd f1 f2 kp fi se ta tl) (sgM th (len : Int) by9 (dn : Int) ((dn + un : Nat) : Int) bd (js.length : Int) wh tk fd f1 f2 xtp xwg xwh xmd xsl xhw xhs xhd xha xp1 xp2 xp3 xl1 xl2 xrt xlf xdc xhn xsu) (some (ar 1 1 fo9) :: dy)) := by
  have hdn : dn ≤ 30 := by have := hS.1.2.1; omega
  have hln := hT.1
  refine h_lots rfl ?_
  rcases hS.at e with ⟨l1, l2⟩ | ⟨q, k, k1, k2, n, at_, wt, rfl, hq16, l1, l2, hA, A, eT⟩
  · refine am_mono (m_B_lots_t he l1) (fun _ _ z => z.elim) (fun g hg => ?_)
    obtain ⟨j9, rfl⟩ := hg
    rw [junk_Hp]
    exact am_monoR (m_M_lots_0 ⟨he, hc, hd⟩ (fun z => l2 z.1)) (fun y g2 w => ⟨⟨_, w.1⟩, fo9 0, by rw [w.2]; exact ⟨bd, tk, laws, slot, ahead, made, od, dn, un, len, nn, ft, rr, ff, gg, l0, D0, B0, js, wh, fa, fb, fw, fl, sl_, l9, W0, lv, op, r9, dd, l8, fd, f1, f2, kp, fi, se, ta, tl, by9, xtp, xwg, xwh, xmd, xsl, xhw, xhs, xhd, xha, xp1, xp2, xp3, xl1, xl2, xrt, xlf, xdc, xhn, xsu, fo9, dy ++ List.replicate j9 none, hT, hS.app, hJ, hD, hI, rfl, rfl⟩⟩) (fun _ z => z)
  · have hTq : ∀ v, 0 ≤ Tm xwg q v ∧ Tm xwg q v ≤ 1048576 := by rw [eT]; exact lw_q A
    have hw : 1 ≤ xwh q ∧ xwh q ≤ 1048576 := ⟨A.2.2.2.1, A.2.2.2.2.1⟩
    have hTW : ∀ v, Tm xwg q v ≤ xwh q := by rw [eT]; exact lw_qW A
    by_cases h2 : 0 ≤ c ∧ c ≤ 40
    · obtain ⟨K, rfl⟩ : ∃ K : Nat, c = (K : Int) := ⟨c.toNat, by omega⟩
      by_cases h3 : d = 0 ∨ d = 1
      · have hu := uT_in A K
        have hp := pw2_in ⟨K, by omega⟩
        have hp2 := pw2_in ⟨K - 1, by omega⟩
        simp only at hp hp2
        have hs := sm_uT A K
        have hv : I64 (prt (uT n (xwh q) wt K) (pw 2 K) d) := prt_I64 (by constructor <;> omega) (by omega)
        have ev : (if K = 0 then prt (smM (Tm xwg q) (xwh q) K) 1 d else prt (smM (Tm xwg q) (xwh q) K) (pw 2 (K - 1)) d) = prt (uT n (xwh q) wt K) (pw 2 K) d := by
          rw [eT]
          cases K with
          | zero => rw [if_pos rfl, smM, uT]; rfl
          | succ K =>
            rw [if_neg (by omega)]
            refine prt_eq ?_ (by omega) (by omega) (by omega) (by omega)
            rw [hs, pw_s, Nat.add_sub_cancel, Int.mul_comm 2, Int.mul_assoc, Int.mul_comm 2]
        refine am_mono (m_B_lots he (by omega) h3 l1 hA A) (fun r g z => ?_) (fun _ z => z.elim)
        obtain ⟨z1, r2, dd2, rfl⟩ := z
        refine ⟨prt (uT n (xwh q) wt K) (pw 2 K) d, z1, hv, _, _, _, _, _, _, _, _, _, _, _, rfl, hv, ?_⟩
        refine am_monoR (m_M_lots l2 hTq hw hTW (by omega) h3 (fun k => by rw [eT, moA_oT A]; have := oT_in A k; omega)) (fun y g2 w => ?_) (fun _ z => z)
        obtain ⟨w1, rt, lf, rfl⟩ := w
        exact ⟨by rw [w1, ev], ⟨bd, tk, laws, slot, ahead, made, od, dn, un, len, nn, ft, rr, ff, gg, l0, D0, B0, js, wh, fa, fb, fw, fl, sl_, _, _, _, _, _, _, l8, fd, f1, f2, kp, fi, se, ta, tl, by9, xtp, xwg, xwh, xmd, xsl, xhw, xhs, xhd, xha, xp1, xp2, xp3, xl1, xl2, _, _, xdc, xhn, xsu, _, dy, hT, hS.out, hJ, hD, hI, va_eq, rfl⟩⟩
      · refine am_mono (m_B_lots_t3 he (by omega) hd h3 l1 hA A) (fun _ _ z => z.elim) (fun g hg => ?_)
        obtain ⟨r2, dd2, j9, rfl⟩ := hg
        rw [junk_Hp]
        exact am_monoR (m_M_lots_0 ⟨he, hc, hd⟩ (fun z => h3 (by omega))) (fun y g2 w => ⟨⟨_, w.1⟩, fo9 0, by rw [w.2]; exact ⟨bd, tk, laws, slot, ahead, made, od, dn, un, len, nn, ft, rr, ff, gg, l0, D0, B0, js, wh, fa, fb, fw, fl, sl_, _, _, _, _, _, _, l8, fd, f1, f2, kp, fi, se, ta, tl, by9, xtp, xwg, xwh, xmd, xsl, xhw, xhs, xhd, xha, xp1, xp2, xp3, xl1, xl2, xrt, xlf, xdc, xhn, xsu, fo9, dy ++ List.replicate j9 none, hT, hS.app, hJ, hD, hI, rfl, rfl⟩⟩) (fun _ z => z)
    · refine am_mono (m_B_lots_t2 he hc h2 l1) (fun _ _ z => z.elim) (fun g hg => ?_)
      obtain ⟨j9, rfl⟩ := hg
      rw [junk_Hp]
      exact am_monoR (m_M_lots_0 ⟨he, hc, hd⟩ (fun z => h2 ⟨z.2.1, z.2.2.1⟩)) (fun y g2 w => ⟨⟨_, w.1⟩, fo9 0, by rw [w.2]; exact ⟨bd, tk, laws, slot, ahead, made, od, dn, un, len, nn, ft, rr, ff, gg, l0, D0, B0, js, wh, fa, fb, fw, fl, sl_, l9, W0, lv, op, r9, dd, l8, fd, f1, f2, kp, fi, se, ta, tl, by9, xtp, xwg, xwh, xmd, xsl, xhw, xhs, xhd, xha, xp1, xp2, xp3, xl1, xl2, xrt, xlf, xdc, xhn, xsu, fo9, dy ++ List.replicate j9 none, hT, hS.app, hJ, hD, hI, rfl, rfl⟩⟩) (fun _ z => z)
theorem op_draw (hT : tpR len ft xtp) (hS : shR (some (ar 1 1 fo9) :: dy) laws slot ahead made od dn un xwg xwh xsl xhw xhs xhd xha) (hJ : joR js wh fa fb fw xp1 xp2 xp3) (hD : diR fd f1 f2 kp xdc) (hI : I32 bd ∧ I32 tk) (he : I32 e) : Op G M_Z_draw [(0, 9, 12, 13)] M_M_draw I32 (fun z => vi z) [vi e] (Hp (sgB bd tk) (sgS laws slot ahead made (od : Int) (dn : Int) (un : Int)) (sgT (len : Int) ft) (sgK (nn : Int) rr ff gg) (sgF l0 D0 B0) (sgJ (js.length : Int) wh fa fb fw fl sl_) (sgR l9 W0 lv op r9 dd) (sgD (l8 : Int) fd f1 f2 kp fi se ta tl) (sgM th (len : Int) by9 (dn : Int) ((dn + un : Nat) : Int) bd (js.length : Int) wh tk fd f1 f2 xtp xwg xwh xmd xsl xhw xhs xhd xha xp1 xp2 xp3 xl1 xl2 xrt xlf xdc xhn xsu) (some (ar 1 1 fo9) :: dy)) := by
  have hdn : dn ≤ 30 := by have := hS.1.2.1; omega
  have hln := hT.1
  refine h_draw rfl ?_
  rcases hS.at e with ⟨l1, l2⟩ | ⟨q, k, k1, k2, n, at_, wt, rfl, hq16, l1, l2, hA, A, eT⟩
  · refine am_mono (m_B_draw_t he l1) (fun _ _ z => z.elim) (fun g hg => ?_)
    obtain ⟨j9, rfl⟩ := hg
    rw [junk_Hp]
    exact am_monoR (m_M_draw_t he l2) (fun y g2 w => ⟨⟨_, w.1⟩, fo9 0, by rw [w.2]; exact ⟨bd, tk, laws, slot, ahead, made, od, dn, un, len, nn, ft, rr, ff, gg, l0, D0, B0, js, wh, fa, fb, fw, fl, sl_, l9, W0, lv, op, r9, dd, l8, fd, f1, f2, kp, fi, se, ta, tl, by9, xtp, xwg, xwh, xmd, xsl, xhw, xhs, xhd, xha, xp1, xp2, xp3, xl1, xl2, xrt, xlf, xdc, xhn, xsu, fo9, dy ++ List.replicate j9 none, hT, hS.app, hJ, hD, hI, rfl, rfl⟩⟩) (fun _ z => z)
  · have hTq : ∀ v, 0 ≤ Tm xwg q v ∧ Tm xwg q v ≤ 1048576 := by rw [eT]; exact lw_q A
    have hw : 1 ≤ xwh q ∧ xwh q ≤ 1048576 := ⟨A.2.2.2.1, A.2.2.2.2.1⟩
    have hTW : ∀ v, Tm xwg q v ≤ xwh q := by rw [eT]; exact lw_qW A
    have hT2 : tpR 0 ft xtp := ⟨by omega, hT.2⟩
    have hf : ∀ j, ft j = xtp j % 256 := fun j => (hT.2 j).2
    refine am_mono (m_B_draw he hln (fun i => (hT.2 i).1) l1 hA A) (fun r g z => ?_) (fun _ z => z.elim)
    obtain ⟨K, ⟨hK1, hK2, hK3⟩, rfl, r2, dd2, rfl⟩ := z
    have hK4 : (K : Int) ≤ 1600 := by omega
    have hv : I32 (drA n (xwh q) at_ wt ft K) := by
      unfold drA
      split
      · constructor <;> decide
      · rcases iol_in (dT (xwh q) wt K) (nT n (xwh q) wt ft K) n 0 0 with z | ⟨j9, z, hj9⟩
        · contradiction
        · rw [z]; have := lw_inR A ((j9 : Int)).toNat (by omega); constructor <;> omega
    refine ⟨drA n (xwh q) at_ wt ft K, rfl, hv, _, _, _, _, _, _, _, _, _, _, _, rfl, hv, ?_⟩
    have hI2 : I32 bd ∧ I32 (K : Int) := ⟨hI.1, by constructor <;> omega⟩
    by_cases ha : alM (Tm xwg q) (xwh q)
    · obtain ⟨hn1, ew⟩ := al_one A (by rw [← eT]; exact ha)
      have ev := vl_law (l := 0) A (Int.le_refl 0)
      rw [if_pos (by omega), ← eT] at ev
      have hd0 : dT (xwh q) wt 0 0 = 1 := by rw [al_dT ew A.2.2.2.1]; rfl
      have eK : K = 0 := Classical.byContradiction (fun z => by
        have h9 := hK2 0 (by omega)
        have : lT n (xwh q) wt 0 = 1 := by rw [hn1]; unfold lT; simp only [sumZ]; rw [hd0]; rfl
        rw [this, nT] at h9
        omega)
      subst eK
      have er : drA n (xwh q) at_ wt ft 0 = at_ (0 : Int).toNat := by
        unfold drA
        rw [hn1, nT]
        simp only [iol, hd0, if_true]
        rfl
      refine am_monoR (m_M_draw_1 l2 hTq hw hTW ha ev) (fun y g2 w => ?_) (fun _ z => z)
      obtain ⟨w1, rt, rfl⟩ := w
      exact ⟨by rw [w1, er], ⟨bd, _, laws, slot, ahead, made, od, dn, un, 0, nn, ft, rr, ff, gg, l0, D0, B0, js, wh, fa, fb, fw, fl, sl_, _, _, _, _, _, _, l8, fd, f1, f2, kp, fi, se, ta, tl, by9, xtp, xwg, xwh, xmd, xsl, xhw, xhs, xhd, xha, xp1, xp2, xp3, xl1, xl2, _, xlf, xdc, xhn, xsu, _, dy, hT2, hS.out, hJ, hD, hI2, va_eq, rfl⟩⟩
    · have ha2 : ¬ alM (den at_ wt n) (xwh q) := by rw [← eT]; exact ha
      refine am_monoR (m_M_draw_0 l2 hTq hw hTW ha hln (fun k => by rw [eT, mo_oT A ha2]; have := oT_in A k; omega)) (fun y g2 w => ?_) (fun _ z => z)
      obtain ⟨K', k1', k2', k3', rt, lf, rfl⟩ := w
      simp only [eT, ml_lT A ha2, nM_nT A ha2 hf] at k2' k3'
      have eK : K' = K := by
        rcases Nat.lt_trichotomy K' K with z | z | z
        · have h8 := hK2 K' z
          rcases k3' with ⟨y1, -⟩ | ⟨y1, -⟩ <;> omega
        · exact z
        · have h8 := k2' K z
          rcases hK3 with y1 | y1 <;> omega
      subst eK
      have hn0 := (nT_in (n := n) (W := xwh q) (wt := wt) (ft := ft) K' hK2).1
      have hvl := vl_i0 (g := dT (xwh q) wt K') A (fun i _ => dT_01 K' i) hn0
      refine ⟨?_, ⟨bd, _, laws, slot, ahead, made, od, dn, un, 0, nn, ft, rr, ff, gg, l0, D0, B0, js, wh, fa, fb, fw, fl, sl_, _, _, _, _, _, _, l8, fd, f1, f2, kp, fi, se, ta, tl, by9, xtp, xwg, xwh, xmd, xsl, xhw, xhs, xhd, xha, xp1, xp2, xp3, xl1, xl2, _, _, xdc, xhn, xsu, _, dy, hT2, hS.out, hJ, hD, hI2, va_eq, rfl⟩⟩
      rcases k3' with ⟨-, y2, rfl⟩ | ⟨y1, v, hv9, rfl⟩
      · have hno : vlT (den at_ (dT (xwh q) wt K') n) 2001 0 (nT n (xwh q) wt ft K') = none := by
          rw [← mg_dT A ha2]
          refine vlT_none (fun v => mg_in _ _ v _) 2001 0 _ (by omega) ?_
          show ml (den at_ wt n) (xwh q) K' - 0 ≤ _
          rw [ml_lT A ha2]; omega
        rw [hno] at hvl
        unfold drA
        split
        · rfl
        · rename_i z; rw [if_neg z] at hvl; cases hvl
      · rw [mg_dT A ha2, hvl] at hv9
        unfold drA
        split
        · rename_i z; rw [if_pos z] at hv9; cases hv9
        · rename_i z; rw [if_neg z] at hv9; cases hv9; rfl
end
