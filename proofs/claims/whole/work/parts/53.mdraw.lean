/-- the number among the nodes, for the reference -/
def nM (T : Int → Int) (W : Int) (tp : Nat → Int) : Nat → Int
  | 0 => 0
  | k + 1 => 2 * (nM T W tp k - ml T W k) + bitF tp k
theorem ml_0 (T : Int → Int) (W : Int) : ml T W 0 = 0 := by
  have : mg T W 0 = fun _ => 0 := by funext v; rfl
  unfold ml; rw [this, sT_0]
theorem vlT_some {T : Int → Int} (h : ∀ v, 0 ≤ T v ∧ T v ≤ 1) : ∀ (y i : Nat) (l : Int), i + y = 2001 → 0 ≤ l → l < sT T - sumZ (fun k => T (idv k)) i → ∃ v, vlT T y i l = some v := by
  intro y
  induction y with
  | zero =>
    intro i l e h0 h1
    exfalso
    have e3 : i = 2001 := by omega
    rw [e3] at h1
    have h2 : l < sumZ (fun k => T (idv k)) 2001 - sumZ (fun k => T (idv k)) 2001 := h1
    omega
  | succ y ih =>
    intro i l e h0 h1
    have hv := h (idv i)
    have es : sumZ (fun k => T (idv k)) (i + 1) = sumZ (fun k => T (idv k)) i + T (idv i) := rfl
    rw [vlT]
    by_cases hz : T (idv i) = 0
    · rw [if_pos hz]
      exact ih (i + 1) l (by omega) h0 (by omega)
    · rw [if_neg hz]
      by_cases hl : l = 0
      · rw [if_pos hl]; exact ⟨_, rfl⟩
      · rw [if_neg hl]
        exact ih (i + 1) (l + -1) (by omega) (by omega) (by omega)
def fsX (su : Nat → Int) : Nat → Nat → Int
  | 0, k => (k : Int) - 2000
  | d + 1, k => if su k = 0 then fsX su d (k + 1) else (k : Int) - 2000
abbrev taM (i : Nat) : Int := (i : Int) - 2000
theorem taM_inc : inc taM 4005 := fun i j h _ => by show (i : Int) - 2000 < (j : Int) - 2000; omega
theorem dcr_nN {tl o : Nat → Int} {a : Int} (h : ∀ i, i < 4005 → 0 ≤ tl i) : ∀ (k : Nat), tkOK tl taM 4005 a o k → ∀ i, i < 4005 → 0 ≤ dcr tl taM 4005 a o k i
  | 0, _, i, hi => by rw [dcr_0]; exact h i hi
  | k + 1, ht, i, hi => by
    have ih := dcr_nN h k (fun j hj => ht j (by omega)) i hi
    obtain ⟨i2, h2, e2, g2⟩ := ht k (by omega)
    rw [← dcr_s taM_inc h2 e2]
    unfold va_up
    split
    · omega
    · exact ih
theorem dcr_nn {tl o : Nat → Int} {a : Int} {k : Nat} (h : ∀ i, i < 4005 → 0 ≤ tl i) (ht : tkOK tl taM 4005 a o k) : ∀ i, i < 4005 → 0 ≤ dcr tl taM 4005 a o k i := dcr_nN h k ht
def ordM (dc hn : Nat → Int) (p : Nat) : Nat → Nat → Int
  | 0, _ => 0
  | d + 1, k => if dc (12 * p + k) = hn k then ordM dc hn p d (k + 1) else if hn k < dc (12 * p + k) then -1 else 1
section
variable {G : GT} {h : HT} {b s t mk df jo tr di dy : SG} {a c d e B : Int} {n m k j i0 : Nat} {f g : Nat → Int} {th ln by9 dn ac bd pm pq tk fo f1 f2 : Int} {xtp xwg xwh xmd xsl xhw xhs xhd xha xp1 xp2 xp3 xl1 xl2 xrt xlf xdc xhn xsu : Nat → Int} {T : Int → Int} {p : Prop}
variable {q q2 K : Nat}
theorem l_M_dl {Qr : Option AV → HT → Prop} {Qt : HT → Prop} {T : Int → Int} (hS : ∀ j, j < 2001 → xlf j = T (idv j)) : ∀ (y i : Nat) (l : Int), i + y = 2001 → (0 ≤ l ∧ l ≤ 1000000) → ∀ v, vlT T y i l = some v → Qr (some (vi v)) (Hp b s t mk df jo tr di (sgM th ln by9 dn ac bd pm pq tk fo f1 f2 xtp xwg xwh xmd xsl xhw xhs xhd xha xp1 xp2 xp3 xl1 xl2 xrt xlf xdc xhn xsu) dy) → AW G M_M_draw Qr Qt 0 0 136 [some (vr 8 0), some (vi (q : Int)), some (vi B), some (vi a), some (vi c), some (vi e), some (vi l), some (vi (i : Int))] [] (Hp b s t mk df jo tr di (sgM th ln by9 dn ac bd pm pq tk fo f1 f2 xtp xwg xwh xmd xsl xhw xhs xhd xha xp1 xp2 xp3 xl1 xl2 xrt xlf xdc xhn xsu) dy) := by
  intro y
  induction y with
  | zero => intro i l he h0 v hv; cases hv
  | succ y ih =>
    intro i l he h0 v hv hq
    rw [vlT] at hv
    have hlf := hS i (by omega)
    refine aw_blk (pc' := 142) (ls' := [some (vr 8 0), some (vi (q : Int)), some (vi B), some (vi a), some (vi c), some (vi e), some (vi l), some (vi (i : Int))]) (st' := [vi (i : Int), vr 8 16]) [.inl (.aload_n 0), .inr (66, 8, 23), .inl (.iload 7)] 136 _ _ (by decide +kernel) rfl ?_
    refine aw_zald (j := i) (by decide +kernel) rfl (by omega) (by omega) (fun r142 => ?_)
    refine aw_if_eq (o := 8) (tgt := 151) (by decide +kernel) (by decide) (by omega) (fun c1 => ?_) (fun c1 => ?_)
    · rw [if_pos (by rw [← hlf]; exact c1)] at hv
      refine aw_blk (pc' := 157) (ls' := [some (vr 8 0), some (vi (q : Int)), some (vi B), some (vi a), some (vi c), some (vi e), some (vi l), some (vi (i : Int))]) (st' := [vi (i : Int), vr 8 16]) [.inl (.aload_n 0), .inr (66, 8, 23), .inl (.iload 7)] 151 _ _ (by decide +kernel) rfl ?_
      refine aw_zald (j := i) (by decide +kernel) rfl (by omega) (by omega) (fun r157 => ?_)
      refine aw_if_eq (o := 6) (tgt := 164) (by decide +kernel) (by decide) (by omega) (fun _ => ?_) (fun c => absurd (by omega) c)
      refine aw_blk (pc' := 167) (ls' := [some (vr 8 0), some (vi (q : Int)), some (vi B), some (vi a), some (vi c), some (vi e), some (vi l), some (vi ((i : Int) + 1))]) (st' := []) [.inl (.iinc 7 1)] 164 _ _ (by decide +kernel) rfl ?_
      refine aw_goto (o := -31) (tgt := 136) (by decide +kernel) (by decide) ?_
      exact ih (i + 1) l (by omega) h0 v hv hq
    · rw [if_neg (by rw [← hlf]; exact c1)] at hv
      refine aw_blk (pc' := 148) (ls' := [some (vr 8 0), some (vi (q : Int)), some (vi B), some (vi a), some (vi c), some (vi e), some (vi l), some (vi (i : Int))]) (st' := [vi l]) [.inl (.iload 6)] 146 _ _ (by decide +kernel) rfl ?_
      refine aw_if_le (o := 22) (tgt := 170) (by decide +kernel) (by decide) (by omega) (fun c2 => ?_) (fun c2 => ?_)
      · rw [if_pos (by omega)] at hv
        cases hv
        refine aw_blk (pc' := 176) (ls' := [some (vr 8 0), some (vi (q : Int)), some (vi B), some (vi a), some (vi c), some (vi e), some (vi l), some (vi (i : Int))]) (st' := [vi ((i : Int) + (-1000))]) [.inl (.iload 7), .inl (.sipush (-1000)), .inl (.iadd)] 170 _ _ (by decide +kernel) rfl ?_
        exact aw_iret (by decide +kernel) rfl (by decide) (by decide) hq
      · rw [if_neg (by omega)] at hv
        refine aw_blk (pc' := 157) (ls' := [some (vr 8 0), some (vi (q : Int)), some (vi B), some (vi a), some (vi c), some (vi e), some (vi l), some (vi (i : Int))]) (st' := [vi (i : Int), vr 8 16]) [.inl (.aload_n 0), .inr (66, 8, 23), .inl (.iload 7)] 151 _ _ (by decide +kernel) rfl ?_
        refine aw_zald (j := i) (by decide +kernel) rfl (by omega) (by omega) (fun r157 => ?_)
        refine aw_if_eq (o := 6) (tgt := 164) (by decide +kernel) (by decide) (by omega) (fun c => absurd c (by omega)) (fun _ => ?_)
        refine aw_blk (pc' := 167) (ls' := [some (vr 8 0), some (vi (q : Int)), some (vi B), some (vi a), some (vi c), some (vi e), some (vi (l + (-1))), some (vi ((i : Int) + 1))]) (st' := []) [.inl (.iinc 6 (-1)), .inl (.iinc 7 1)] 161 _ _ (by decide +kernel) rfl ?_
        refine aw_goto (o := -31) (tgt := 136) (by decide +kernel) (by decide) ?_
        exact ih (i + 1) (l + -1) (by omega) (by omega) v hv hq
theorem m_M_draw_1 (hl : isLw xwh (q : Int)) (hTq : ∀ v, 0 ≤ Tm xwg q v ∧ Tm xwg q v ≤ 1048576) (hw : 1 ≤ xwh q ∧ xwh q ≤ 1048576) (hTW : ∀ v, Tm xwg q v ≤ xwh q) (ha : alM (Tm xwg q) (xwh q)) {v : Int} (hv : vlT (Tm xwg q) 2001 0 0 = some v) : AMet G M_M_draw [vr 8 0, vi (q : Int)] (Hp b s t mk df jo tr di (sgM th (n : Int) by9 dn ac bd pm pq tk fo f1 f2 xtp xwg xwh xmd xsl xhw xhs xhd xha xp1 xp2 xp3 xl1 xl2 xrt xlf xdc xhn xsu) dy) (fun r h => r = some (vi v) ∧ ∃ rt, h = Hp b s t mk df jo tr di (sgM 0 0 by9 dn ac bd pm pq 0 fo f1 f2 xtp xwg xwh xmd xsl xhw xhs xhd xha xp1 xp2 xp3 xl1 xl2 rt xlf xdc xhn xsu) dy) (fun _ => False) := by
  refine am_rel (by decide +kernel) (Nat.le_of_ble_eq_true rfl) (fun Qr Qt hq => ?_)
  have hj := hl.1
  refine aw_blk (pc' := 3) (ls' := [some (vr 8 0), some (vi (q : Int)), none, none, none, none, none, none]) (st' := [vi (q : Int), vr 8 0, vr 8 0]) [.inl (.aload_n 0), .inl (.aload_n 0), .inl (.iload_n 1)] 0 _ _ (by decide +kernel) rfl ?_
  refine aw_dV (cs' := 0) (sl' := 0) (pc' := 6) (st' := [vi 1, vr 8 0]) (idx := 133) (as := [vi (q : Int)]) (st := [vr 8 0]) (m_M_isLaw_1 hl) (by decide +kernel) (show vOK "ChanceBenchModel" 133 M_M_isLaw 1 = true by decide +kernel) rfl rfl rfl (Nat.le_of_ble_eq_true rfl) (by decide) (by decide) (by decide) rfl rfl rfl rfl ?_
  refine aw_if_ne (o := 7) (tgt := 13) (by decide +kernel) (by decide) (by omega) (fun _ => ?_) (fun c => absurd c (by omega))
  refine aw_blk (pc' := 14) (ls' := [some (vr 8 0), some (vi (q : Int)), none, none, none, none, none, none]) (st' := [vi 0, vr 8 0]) [.inl (.iconst 0)] 13 _ _ (by decide +kernel) rfl ?_
  refine aw_dV (cs' := 0) (sl' := 0) (pc' := 17) (st' := [vi 0]) (idx := 140) (as := [vi 0]) (st := []) (m_M_throwsIf_0) (by decide +kernel) (show vOK "ChanceBenchModel" 140 M_M_throwsIf 1 = true by decide +kernel) rfl rfl rfl (Nat.le_of_ble_eq_true rfl) (by decide) (by decide) (by decide) rfl rfl rfl rfl ?_
  refine aw_if_eq (o := 5) (tgt := 22) (by decide +kernel) (by decide) (by omega) (fun _ => ?_) (fun c => absurd (by omega) c)
  refine aw_blk (pc' := 25) (ls' := [some (vr 8 0), some (vi (q : Int)), none, none, none, none, none, none]) (st' := [vr 8 0, vi 8]) [.inl (.bipush 8), .inl (.aload_n 0)] 22 _ _ (by decide +kernel) rfl ?_
  refine aw_dV (cs' := 0) (sl' := 0) (pc' := 28) (st' := [vi (n : Int), vi 8]) (idx := 116) (as := []) (st := [vi 8]) (m_M_used) (by decide +kernel) (show vOK "ChanceBenchModel" 116 M_M_used 0 = true by decide +kernel) rfl rfl rfl (Nat.le_of_ble_eq_true rfl) (by decide) (by decide) (by decide) rfl rfl rfl rfl ?_
  refine aw_blk (pc' := 32) (ls' := [some (vr 8 0), some (vi (q : Int)), some (vi (8 * (n : Int))), none, none, none, none, none]) (st' := [vi 0, vr 8 0]) [.inl (.imul), .inl (.istore_n 2), .inl (.aload_n 0), .inl (.iconst 0)] 28 _ _ (by decide +kernel) rfl ?_
  refine aw_put (idx := 192) (ci := 8) (k := 24) (h' := Hp b s t mk df jo tr di [some (ob 8 [vi 0, vr 8 1, vi 0, vr 8 2, vr 8 3, vr 8 4, vi by9, vr 8 5, vr 8 6, vr 8 7, vr 8 8, vr 8 9, vi dn, vi ac, vi bd, vr 8 10, vr 8 11, vr 8 12, vr 8 13, vr 8 14, vi pm, vl pq, vr 8 15, vr 8 16, vi 0, vr 8 17, vr 8 18, vr 8 19, vi fo, vi f1, vi f2]), some (ar 2 200 xtp), some (ar 0 32016 xwg), some (ar 0 16 xwh), some (ar 1 2001 xmd), some (ar 0 30 xsl), some (ar 0 30 xhw), some (ar 0 30 xhs), some (ar 0 60030 xhd), some (ar 0 60030 xha), some (ar 0 600 xp1), some (ar 0 600 xp2), some (ar 1 600 xp3), some (ar 1 2001 xl1), some (ar 1 2001 xl2), some (ar 1 2001 xrt), some (ar 3 2001 xlf), some (ar 0 3600 xdc), some (ar 0 12 xhn), some (ar 0 4005 xsu)] dy) (by decide +kernel) (by decide +kernel) rfl (Nat.le_of_ble_eq_true rfl) (show I32 _ from by omega) rfl ?_
  refine aw_blk (pc' := 37) (ls' := [some (vr 8 0), some (vi (q : Int)), some (vi (8 * (n : Int))), none, none, none, none, none]) (st' := [vi (q : Int), vr 8 0]) [.inl (.aload_n 0), .inl (.iload_n 1)] 35 _ _ (by decide +kernel) rfl ?_
  refine aw_dV (cs' := 0) (sl' := 0) (pc' := 40) (st' := []) (idx := 182) (as := [vi (q : Int)]) (st := []) (m_M_plant (by omega) hTq) (by decide +kernel) (show vOK "ChanceBenchModel" 182 M_M_plant 1 = true by decide +kernel) rfl rfl rfl (Nat.le_of_ble_eq_true rfl) (by decide) (by decide) (by decide) rfl rfl rfl rfl ?_
  refine aw_blk (pc' := 42) (ls' := [some (vr 8 0), some (vi (q : Int)), some (vi (8 * (n : Int))), none, none, none, none, none]) (st' := [vi (q : Int), vr 8 0]) [.inl (.aload_n 0), .inl (.iload_n 1)] 40 _ _ (by decide +kernel) rfl ?_
  refine aw_dV (cs' := 0) (sl' := 0) (pc' := 45) (st' := [vi 1]) (idx := 179) (as := [vi (q : Int)]) (st := []) (m_M_isAlone_1 (by omega) hTq ha) (by decide +kernel) (show vOK "ChanceBenchModel" 179 M_M_isAlone 1 = true by decide +kernel) rfl rfl rfl (Nat.le_of_ble_eq_true rfl) (by decide) (by decide) (by decide) rfl rfl rfl rfl ?_
  refine aw_if_eq (o := 10) (tgt := 55) (by decide +kernel) (by decide) (by omega) (fun c => absurd c (by omega)) (fun _ => ?_)
  refine aw_blk (pc' := 51) (ls' := [some (vr 8 0), some (vi (q : Int)), some (vi (8 * (n : Int))), none, none, none, none, none]) (st' := [vi 0, vi (q : Int), vr 8 0]) [.inl (.aload_n 0), .inl (.iload_n 1), .inl (.iconst 0)] 48 _ _ (by decide +kernel) rfl ?_
  refine aw_rV (cs' := 0) (sl' := 0) (pc' := 54) (idx := 195) (as := [vi (q : Int), vi 0]) (st := []) (m_M_value hl hTq (by omega)) (by decide +kernel) (show vOK "ChanceBenchModel" 195 M_M_value 2 = true by decide +kernel) rfl rfl rfl (Nat.le_of_ble_eq_true rfl) (by decide) (by decide) (by decide) rfl rfl rfl (fun r51 h51 z51 => ?_)
  rcases z51 with ⟨v2, e1, rfl, rfl⟩ | ⟨e1, rfl, rfl⟩
  · exact aw_iret (by decide +kernel) rfl (by decide) (by decide) (hq _ _ ⟨by rw [hv] at e1; cases e1; rfl, _, rfl⟩)
  · rw [hv] at e1; cases e1

theorem m_M_draw_0 (hl : isLw xwh (q : Int)) (hTq : ∀ v, 0 ≤ Tm xwg q v ∧ Tm xwg q v ≤ 1048576) (hw : 1 ≤ xwh q ∧ xwh q ≤ 1048576) (hTW : ∀ v, Tm xwg q v ≤ xwh q) (ha : ¬ alM (Tm xwg q) (xwh q)) (hn : n ≤ 200) (hmo : ∀ k, 0 ≤ mo (Tm xwg q) (xwh q) k ∧ mo (Tm xwg q) (xwh q) k ≤ 24) : AMet G M_M_draw [vr 8 0, vi (q : Int)] (Hp b s t mk df jo tr di (sgM th (n : Int) by9 dn ac bd pm pq tk fo f1 f2 xtp xwg xwh xmd xsl xhw xhs xhd xha xp1 xp2 xp3 xl1 xl2 xrt xlf xdc xhn xsu) dy) (fun r h => ∃ K : Nat, K ≤ 8 * n ∧ (∀ j, j < K → (ml (Tm xwg q) (xwh q) j) ≤ (nM (Tm xwg q) (xwh q) xtp j)) ∧ ((K = 8 * n ∧ (ml (Tm xwg q) (xwh q) K) ≤ (nM (Tm xwg q) (xwh q) xtp K) ∧ r = some (vi 5000)) ∨ ((nM (Tm xwg q) (xwh q) xtp K) < (ml (Tm xwg q) (xwh q) K) ∧ ∃ v, vlT (mg (Tm xwg q) (xwh q) K) 2001 0 (nM (Tm xwg q) (xwh q) xtp K) = some v ∧ r = some (vi v))) ∧ ∃ rt lf, h = Hp b s t mk df jo tr di (sgM 0 0 by9 dn ac bd pm pq (K : Int) fo f1 f2 xtp xwg xwh xmd xsl xhw xhs xhd xha xp1 xp2 xp3 xl1 xl2 rt lf xdc xhn xsu) dy) (fun _ => False) := by
  refine am_rel (by decide +kernel) (Nat.le_of_ble_eq_true rfl) (fun Qr Qt hq => ?_)
  have hna := na_of hTq hw.1 hTW ha
  have hj := hl.1
  refine aw_blk (pc' := 3) (ls' := [some (vr 8 0), some (vi (q : Int)), none, none, none, none, none, none]) (st' := [vi (q : Int), vr 8 0, vr 8 0]) [.inl (.aload_n 0), .inl (.aload_n 0), .inl (.iload_n 1)] 0 _ _ (by decide +kernel) rfl ?_
  refine aw_dV (cs' := 0) (sl' := 0) (pc' := 6) (st' := [vi 1, vr 8 0]) (idx := 133) (as := [vi (q : Int)]) (st := [vr 8 0]) (m_M_isLaw_1 hl) (by decide +kernel) (show vOK "ChanceBenchModel" 133 M_M_isLaw 1 = true by decide +kernel) rfl rfl rfl (Nat.le_of_ble_eq_true rfl) (by decide) (by decide) (by decide) rfl rfl rfl rfl ?_
  refine aw_if_ne (o := 7) (tgt := 13) (by decide +kernel) (by decide) (by omega) (fun _ => ?_) (fun c => absurd c (by omega))
  refine aw_blk (pc' := 14) (ls' := [some (vr 8 0), some (vi (q : Int)), none, none, none, none, none, none]) (st' := [vi 0, vr 8 0]) [.inl (.iconst 0)] 13 _ _ (by decide +kernel) rfl ?_
  refine aw_dV (cs' := 0) (sl' := 0) (pc' := 17) (st' := [vi 0]) (idx := 140) (as := [vi 0]) (st := []) (m_M_throwsIf_0) (by decide +kernel) (show vOK "ChanceBenchModel" 140 M_M_throwsIf 1 = true by decide +kernel) rfl rfl rfl (Nat.le_of_ble_eq_true rfl) (by decide) (by decide) (by decide) rfl rfl rfl rfl ?_
  refine aw_if_eq (o := 5) (tgt := 22) (by decide +kernel) (by decide) (by omega) (fun _ => ?_) (fun c => absurd (by omega) c)
  refine aw_blk (pc' := 25) (ls' := [some (vr 8 0), some (vi (q : Int)), none, none, none, none, none, none]) (st' := [vr 8 0, vi 8]) [.inl (.bipush 8), .inl (.aload_n 0)] 22 _ _ (by decide +kernel) rfl ?_
  refine aw_dV (cs' := 0) (sl' := 0) (pc' := 28) (st' := [vi (n : Int), vi 8]) (idx := 116) (as := []) (st := [vi 8]) (m_M_used) (by decide +kernel) (show vOK "ChanceBenchModel" 116 M_M_used 0 = true by decide +kernel) rfl rfl rfl (Nat.le_of_ble_eq_true rfl) (by decide) (by decide) (by decide) rfl rfl rfl rfl ?_
  refine aw_blk (pc' := 32) (ls' := [some (vr 8 0), some (vi (q : Int)), some (vi (8 * (n : Int))), none, none, none, none, none]) (st' := [vi 0, vr 8 0]) [.inl (.imul), .inl (.istore_n 2), .inl (.aload_n 0), .inl (.iconst 0)] 28 _ _ (by decide +kernel) rfl ?_
  refine aw_put (idx := 192) (ci := 8) (k := 24) (h' := Hp b s t mk df jo tr di [some (ob 8 [vi 0, vr 8 1, vi 0, vr 8 2, vr 8 3, vr 8 4, vi by9, vr 8 5, vr 8 6, vr 8 7, vr 8 8, vr 8 9, vi dn, vi ac, vi bd, vr 8 10, vr 8 11, vr 8 12, vr 8 13, vr 8 14, vi pm, vl pq, vr 8 15, vr 8 16, vi 0, vr 8 17, vr 8 18, vr 8 19, vi fo, vi f1, vi f2]), some (ar 2 200 xtp), some (ar 0 32016 xwg), some (ar 0 16 xwh), some (ar 1 2001 xmd), some (ar 0 30 xsl), some (ar 0 30 xhw), some (ar 0 30 xhs), some (ar 0 60030 xhd), some (ar 0 60030 xha), some (ar 0 600 xp1), some (ar 0 600 xp2), some (ar 1 600 xp3), some (ar 1 2001 xl1), some (ar 1 2001 xl2), some (ar 1 2001 xrt), some (ar 3 2001 xlf), some (ar 0 3600 xdc), some (ar 0 12 xhn), some (ar 0 4005 xsu)] dy) (by decide +kernel) (by decide +kernel) rfl (Nat.le_of_ble_eq_true rfl) (show I32 _ from by omega) rfl ?_
  refine aw_blk (pc' := 37) (ls' := [some (vr 8 0), some (vi (q : Int)), some (vi (8 * (n : Int))), none, none, none, none, none]) (st' := [vi (q : Int), vr 8 0]) [.inl (.aload_n 0), .inl (.iload_n 1)] 35 _ _ (by decide +kernel) rfl ?_
  refine aw_dV (cs' := 0) (sl' := 0) (pc' := 40) (st' := []) (idx := 182) (as := [vi (q : Int)]) (st := []) (m_M_plant (by omega) hTq) (by decide +kernel) (show vOK "ChanceBenchModel" 182 M_M_plant 1 = true by decide +kernel) rfl rfl rfl (Nat.le_of_ble_eq_true rfl) (by decide) (by decide) (by decide) rfl rfl rfl rfl ?_
  refine aw_blk (pc' := 42) (ls' := [some (vr 8 0), some (vi (q : Int)), some (vi (8 * (n : Int))), none, none, none, none, none]) (st' := [vi (q : Int), vr 8 0]) [.inl (.aload_n 0), .inl (.iload_n 1)] 40 _ _ (by decide +kernel) rfl ?_
  refine aw_dV (cs' := 0) (sl' := 0) (pc' := 45) (st' := [vi 0]) (idx := 179) (as := [vi (q : Int)]) (st := []) (m_M_isAlone_0 (by omega) hTq ha) (by decide +kernel) (show vOK "ChanceBenchModel" 179 M_M_isAlone 1 = true by decide +kernel) rfl rfl rfl (Nat.le_of_ble_eq_true rfl) (by decide) (by decide) (by decide) rfl rfl rfl rfl ?_
  refine aw_if_eq (o := 10) (tgt := 55) (by decide +kernel) (by decide) (by omega) (fun _ => ?_) (fun c => absurd (by omega) c)
  refine aw_blk (pc' := 57) (ls' := [some (vr 8 0), some (vi (q : Int)), some (vi (8 * (n : Int))), some (vi 0), none, none, none, none]) (st' := []) [.inl (.iconst 0), .inl (.istore_n 3)] 55 _ _ (by decide +kernel) rfl ?_
  have e0 : (0 : Int) = (nM (Tm xwg q) (xwh q) xtp 0) - (ml (Tm xwg q) (xwh q) 0) := by rw [ml_0]; rfl
  refine aw_eq (ls' := [some (vr 8 0), some (vi (q : Int)), some (vi (8 * (n : Int))), some (vi ((nM (Tm xwg q) (xwh q) xtp 0) - (ml (Tm xwg q) (xwh q) 0))), none, none, none, none]) (by rw [← e0]) rfl rfl ?_
  refine up_to (W := fun i : Nat => ∀ rt lf, tM (Tm xwg q) (xwh q) i rt lf → (∀ j, j ≤ i → (ml (Tm xwg q) (xwh q) j) ≤ (nM (Tm xwg q) (xwh q) xtp j)) → (nM (Tm xwg q) (xwh q) xtp i) - (ml (Tm xwg q) (xwh q) i) < mo (Tm xwg q) (xwh q) i → AW G M_M_draw Qr Qt 0 0 57 [some (vr 8 0), some (vi (q : Int)), some (vi (8 * (n : Int))), some (vi ((nM (Tm xwg q) (xwh q) xtp i) - (ml (Tm xwg q) (xwh q) i))), none, none, none, none] [] (Hp b s t mk df jo tr di [some (ob 8 [vi 0, vr 8 1, vi 0, vr 8 2, vr 8 3, vr 8 4, vi by9, vr 8 5, vr 8 6, vr 8 7, vr 8 8, vr 8 9, vi dn, vi ac, vi bd, vr 8 10, vr 8 11, vr 8 12, vr 8 13, vr 8 14, vi pm, vl pq, vr 8 15, vr 8 16, vi (i : Int), vr 8 17, vr 8 18, vr 8 19, vi fo, vi f1, vi f2]), some (ar 2 200 xtp), some (ar 0 32016 xwg), some (ar 0 16 xwh), some (ar 1 2001 xmd), some (ar 0 30 xsl), some (ar 0 30 xhw), some (ar 0 30 xhs), some (ar 0 60030 xhd), some (ar 0 60030 xha), some (ar 0 600 xp1), some (ar 0 600 xp2), some (ar 1 600 xp3), some (ar 1 2001 xl1), some (ar 1 2001 xl2), some (ar 1 2001 rt), some (ar 3 2001 lf), some (ar 0 3600 xdc), some (ar 0 12 xhn), some (ar 0 4005 xsu)] dy)) (8 * n) ?_ (fun i hi9 ih => ?_) 0 (by omega) _ _ (tM_0 (fun j hj9 => mp_lt hj9)) (fun j hj9 => by rw [show j = 0 by omega, ml_0]; exact Int.le_refl _) (by rw [← e0]; show (0 : Int) < 1; decide)
  · intro rt lf hS hle hlt
    refine aw_blk (pc' := 62) (ls' := [some (vr 8 0), some (vi (q : Int)), some (vi (8 * (n : Int))), some (vi ((nM (Tm xwg q) (xwh q) xtp (8 * n)) - (ml (Tm xwg q) (xwh q) (8 * n)))), none, none, none, none]) (st' := [vi (8 * (n : Int)), vi ((8 * n : Nat) : Int)]) [.inl (.aload_n 0), .inr (192, 8, 24), .inl (.iload_n 2)] 57 _ _ (by decide +kernel) rfl ?_
    refine aw_icmp_ge (o := 115) (tgt := 177) (by decide +kernel) (by decide) (by omega) (by omega) (fun _ => ?_) (fun c => absurd (by omega) c)
    refine aw_blk (pc' := 180) (ls' := [some (vr 8 0), some (vi (q : Int)), some (vi (8 * (n : Int))), some (vi ((nM (Tm xwg q) (xwh q) xtp (8 * n)) - (ml (Tm xwg q) (xwh q) (8 * n)))), none, none, none, none]) (st' := [vi 5000]) [.inl (.sipush 5000)] 177 _ _ (by decide +kernel) rfl ?_
    exact aw_iret (by decide +kernel) rfl (by decide) (by decide) (hq _ _ ⟨8 * n, Nat.le_refl _, fun j hj9 => hle j (by omega), Or.inl ⟨rfl, hle _ (Nat.le_refl _), rfl⟩, rt, lf, rfl⟩)
  · intro rt lf hS hle hlt
    refine aw_blk (pc' := 62) (ls' := [some (vr 8 0), some (vi (q : Int)), some (vi (8 * (n : Int))), some (vi ((nM (Tm xwg q) (xwh q) xtp i) - (ml (Tm xwg q) (xwh q) i))), none, none, none, none]) (st' := [vi (8 * (n : Int)), vi (i : Int)]) [.inl (.aload_n 0), .inr (192, 8, 24), .inl (.iload_n 2)] 57 _ _ (by decide +kernel) rfl ?_
    refine aw_icmp_ge (o := 115) (tgt := 177) (by decide +kernel) (by decide) (by omega) (by omega) (fun c => absurd c (by omega)) (fun _ => ?_)
    refine aw_blk (pc' := 75) (ls' := [some (vr 8 0), some (vi (q : Int)), some (vi (8 * (n : Int))), some (vi ((nM (Tm xwg q) (xwh q) xtp i) - (ml (Tm xwg q) (xwh q) i))), none, none, none, none]) (st' := [vi 8, vi (i : Int), vr 8 1]) [.inl (.aload_n 0), .inr (7, 8, 1), .inl (.aload_n 0), .inr (192, 8, 24), .inl (.bipush 8)] 65 _ _ (by decide +kernel) rfl ?_
    refine aw_idiv (by decide +kernel) (by omega) (by omega) (by omega) ?_
    rw [show Int.tdiv (i : Int) 8 = ((i / 8 : Nat) : Int) from rfl]
    refine aw_bald (j := i / 8) (by decide +kernel) rfl rfl (by omega) (fun r76 => ?_)
    refine aw_blk (pc' := 85) (ls' := [some (vr 8 0), some (vi (q : Int)), some (vi (8 * (n : Int))), some (vi ((nM (Tm xwg q) (xwh q) xtp i) - (ml (Tm xwg q) (xwh q) i))), none, none, none, none]) (st' := [vi 8, vi (i : Int), vi 7, vi (xtp (i / 8))]) [.inl (.bipush 7), .inl (.aload_n 0), .inr (192, 8, 24), .inl (.bipush 8)] 77 _ _ (by decide +kernel) rfl ?_
    refine aw_irem (by decide +kernel) (by omega) (by omega) (by omega) ?_
    rw [show Int.tmod (i : Int) 8 = ((i % 8 : Nat) : Int) from rfl]
    refine aw_blk (pc' := 87) (ls' := [some (vr 8 0), some (vi (q : Int)), some (vi (8 * (n : Int))), some (vi ((nM (Tm xwg q) (xwh q) xtp i) - (ml (Tm xwg q) (xwh q) i))), none, none, none, none]) (st' := [vi (7 - ((i % 8 : Nat) : Int)), vi (xtp (i / 8))]) [.inl (.isub)] 86 _ _ (by decide +kernel) rfl ?_
    refine aw_shr (p9 := ((2 ^ (7 - i % 8) : Nat) : Int)) (7 - i % 8) (by decide +kernel) (by omega) (by omega) (by omega) rfl ?_
    refine aw_blk (pc' := 89) (ls' := [some (vr 8 0), some (vi (q : Int)), some (vi (8 * (n : Int))), some (vi ((nM (Tm xwg q) (xwh q) xtp i) - (ml (Tm xwg q) (xwh q) i))), none, none, none, none]) (st' := [vi 1, vi ((xtp (i / 8)) / ((2 ^ (7 - i % 8) : Nat) : Int))]) [.inl (.iconst 1)] 88 _ _ (by decide +kernel) rfl ?_
    refine aw_and (p9 := 2) 1 (by decide +kernel) (by decide) (by decide) (by decide) ?_
    have hbf := bitF_in xtp i
    rw [show xtp (i / 8) / ((2 ^ (7 - i % 8) : Nat) : Int) % 2 = bitF xtp i from rfl]
    refine aw_blk (pc' := 99) (ls' := [some (vr 8 0), some (vi (q : Int)), some (vi (8 * (n : Int))), some (vi ((nM (Tm xwg q) (xwh q) xtp i) - (ml (Tm xwg q) (xwh q) i))), some (vi (bitF xtp i)), none, none, none]) (st' := [vi ((i : Int) + 1), vr 8 0]) [.inl (.istore 4), .inl (.aload_n 0), .inl (.dup), .inr (192, 8, 24), .inl (.iconst 1), .inl (.iadd)] 90 _ _ (by decide +kernel) rfl ?_
    refine aw_put (idx := 192) (ci := 8) (k := 24) (h' := Hp b s t mk df jo tr di [some (ob 8 [vi 0, vr 8 1, vi 0, vr 8 2, vr 8 3, vr 8 4, vi by9, vr 8 5, vr 8 6, vr 8 7, vr 8 8, vr 8 9, vi dn, vi ac, vi bd, vr 8 10, vr 8 11, vr 8 12, vr 8 13, vr 8 14, vi pm, vl pq, vr 8 15, vr 8 16, vi ((i : Int) + 1), vr 8 17, vr 8 18, vr 8 19, vi fo, vi f1, vi f2]), some (ar 2 200 xtp), some (ar 0 32016 xwg), some (ar 0 16 xwh), some (ar 1 2001 xmd), some (ar 0 30 xsl), some (ar 0 30 xhw), some (ar 0 30 xhs), some (ar 0 60030 xhd), some (ar 0 60030 xha), some (ar 0 600 xp1), some (ar 0 600 xp2), some (ar 1 600 xp3), some (ar 1 2001 xl1), some (ar 1 2001 xl2), some (ar 1 2001 rt), some (ar 3 2001 lf), some (ar 0 3600 xdc), some (ar 0 12 xhn), some (ar 0 4005 xsu)] dy) (by decide +kernel) (by decide +kernel) rfl (Nat.le_of_ble_eq_true rfl) (show I32 _ from by omega) rfl ?_
    refine aw_blk (pc' := 104) (ls' := [some (vr 8 0), some (vi (q : Int)), some (vi (8 * (n : Int))), some (vi ((nM (Tm xwg q) (xwh q) xtp i) - (ml (Tm xwg q) (xwh q) i))), some (vi (bitF xtp i)), none, none, none]) (st' := [vi (q : Int), vr 8 0]) [.inl (.aload_n 0), .inl (.iload_n 1)] 102 _ _ (by decide +kernel) rfl ?_
    refine aw_rV (cs' := 0) (sl' := 0) (pc' := 107) (idx := 185) (as := [vi (q : Int)]) (st := []) (m_M_digitsR (by omega) hw hna hS) (by decide +kernel) (show vOK "ChanceBenchModel" 185 M_M_digits 1 = true by decide +kernel) rfl rfl rfl (Nat.le_of_ble_eq_true rfl) (by decide) (by decide) (by decide) rfl rfl rfl (fun r104 h104 z104 => ?_)
    obtain ⟨rfl, rt2, lf2, hS2, rfl⟩ := z104
    have hml := ml_in (Tm xwg q) (xwh q) (i + 1)
    have hmo1 := hmo i
    have hmo2 := hmo (i + 1)
    have hle9 := hle i (Nat.le_refl i)
    have emo : mo (Tm xwg q) (xwh q) (i + 1) = 2 * mo (Tm xwg q) (xwh q) i - (ml (Tm xwg q) (xwh q) (i + 1)) := rfl
    have enm : (nM (Tm xwg q) (xwh q) xtp (i + 1)) = 2 * ((nM (Tm xwg q) (xwh q) xtp i) - (ml (Tm xwg q) (xwh q) i)) + bitF xtp i := rfl
    refine aw_blk (pc' := 117) (ls' := [some (vr 8 0), some (vi (q : Int)), some (vi (8 * (n : Int))), some (vi ((nM (Tm xwg q) (xwh q) xtp i) - (ml (Tm xwg q) (xwh q) i))), some (vi (bitF xtp i)), some (vi (ml (Tm xwg q) (xwh q) (i + 1))), some (vi ((2 * ((nM (Tm xwg q) (xwh q) xtp i) - (ml (Tm xwg q) (xwh q) i))) + (bitF xtp i))), none]) (st' := []) [.inl (.istore 5), .inl (.iconst 2), .inl (.iload_n 3), .inl (.imul), .inl (.iload 4), .inl (.iadd), .inl (.istore 6)] 107 _ _ (by decide +kernel) rfl ?_
    rw [← enm]
    refine aw_blk (pc' := 121) (ls' := [some (vr 8 0), some (vi (q : Int)), some (vi (8 * (n : Int))), some (vi ((nM (Tm xwg q) (xwh q) xtp i) - (ml (Tm xwg q) (xwh q) i))), some (vi (bitF xtp i)), some (vi (ml (Tm xwg q) (xwh q) (i + 1))), some (vi (nM (Tm xwg q) (xwh q) xtp (i + 1))), none]) (st' := [vi (ml (Tm xwg q) (xwh q) (i + 1)), vi (nM (Tm xwg q) (xwh q) xtp (i + 1))]) [.inl (.iload 6), .inl (.iload 5)] 117 _ _ (by decide +kernel) rfl ?_
    refine aw_icmp_lt (o := 12) (tgt := 133) (by decide +kernel) (by decide) (by omega) (by omega) (fun c3 => ?_) (fun c3 => ?_)
    · refine aw_blk (pc' := 136) (ls' := [some (vr 8 0), some (vi (q : Int)), some (vi (8 * (n : Int))), some (vi ((nM (Tm xwg q) (xwh q) xtp i) - (ml (Tm xwg q) (xwh q) i))), some (vi (bitF xtp i)), some (vi (ml (Tm xwg q) (xwh q) (i + 1))), some (vi (nM (Tm xwg q) (xwh q) xtp (i + 1))), some (vi 0)]) (st' := []) [.inl (.iconst 0), .inl (.istore 7)] 133 _ _ (by decide +kernel) rfl ?_
      obtain ⟨v, hv⟩ := vlT_some (fun v => mg_in (Tm xwg q) (xwh q) v (i + 1)) 2001 0 (nM (Tm xwg q) (xwh q) xtp (i + 1)) (by omega) (by omega) (by show _ < (ml (Tm xwg q) (xwh q) (i + 1)) - 0; omega)
      refine l_M_dl (T := mg (Tm xwg q) (xwh q) (i + 1)) (fun j hj9 => (hS2 j hj9).2 (by omega)) 2001 0 _ (by omega) (by omega) v hv (hq _ _ ⟨i + 1, by omega, fun j hj9 => hle j (by omega), Or.inr ⟨c3, v, hv, rfl⟩, rt2, lf2, rfl⟩)
    · refine aw_blk (pc' := 130) (ls' := [some (vr 8 0), some (vi (q : Int)), some (vi (8 * (n : Int))), some (vi ((nM (Tm xwg q) (xwh q) xtp (i + 1)) - (ml (Tm xwg q) (xwh q) (i + 1)))), some (vi (bitF xtp i)), some (vi (ml (Tm xwg q) (xwh q) (i + 1))), some (vi (nM (Tm xwg q) (xwh q) xtp (i + 1))), none]) (st' := []) [.inl (.iload 6), .inl (.iload 5), .inl (.isub), .inl (.istore_n 3)] 124 _ _ (by decide +kernel) rfl ?_
      refine aw_goto (o := -73) (tgt := 57) (by decide +kernel) (by decide) ?_
      refine aw_ls (ls' := [some (vr 8 0), some (vi (q : Int)), some (vi (8 * (n : Int))), some (vi ((nM (Tm xwg q) (xwh q) xtp (i + 1)) - (ml (Tm xwg q) (xwh q) (i + 1)))), none, none, none, none]) (lsk_s (lsk_s (lsk_s (lsk_s (lsk_n (lsk_n (lsk_n (lsk_n lsk_0)))))))) ?_
      exact ih rt2 lf2 hS2 (fun j hj9 => by rcases Nat.lt_or_ge i j with z | z; rw [show j = i + 1 by omega]; omega; exact hle j z) (by omega)

theorem m_M_draw_t (hi : I32 a) (hl : ¬ isLw xwh a) : ADet G M_M_draw [vr 8 0, vi a] (Hp b s t mk df jo tr di (sgM th ln by9 dn ac bd pm pq tk fo f1 f2 xtp xwg xwh xmd xsl xhw xhs xhd xha xp1 xp2 xp3 xl1 xl2 xrt xlf xdc xhn xsu) dy) (some (vi 0)) (Hp b s t mk df jo tr di (sgM 1 ln by9 dn ac bd pm pq tk fo f1 f2 xtp xwg xwh xmd xsl xhw xhs xhd xha xp1 xp2 xp3 xl1 xl2 xrt xlf xdc xhn xsu) dy) := by
  refine am_det (by decide +kernel) (Nat.le_of_ble_eq_true rfl) (fun Qr Qt hq => ?_)
  refine aw_blk (pc' := 3) (ls' := [some (vr 8 0), some (vi a), none, none, none, none, none, none]) (st' := [vi a, vr 8 0, vr 8 0]) [.inl (.aload_n 0), .inl (.aload_n 0), .inl (.iload_n 1)] 0 _ _ (by decide +kernel) rfl ?_
  refine aw_dV (cs' := 0) (sl' := 0) (pc' := 6) (st' := [vi 0, vr 8 0]) (idx := 133) (as := [vi a]) (st := [vr 8 0]) (m_M_isLaw_0 hi hl) (by decide +kernel) (show vOK "ChanceBenchModel" 133 M_M_isLaw 1 = true by decide +kernel) rfl rfl rfl (Nat.le_of_ble_eq_true rfl) (by decide) (by decide) (by decide) rfl rfl rfl rfl ?_
  refine aw_if_ne (o := 7) (tgt := 13) (by decide +kernel) (by decide) (by omega) (fun c => absurd (by omega) c) (fun _ => ?_)
  refine aw_blk (pc' := 10) (ls' := [some (vr 8 0), some (vi a), none, none, none, none, none, none]) (st' := [vi 1, vr 8 0]) [.inl (.iconst 1)] 9 _ _ (by decide +kernel) rfl ?_
  refine aw_goto (o := 4) (tgt := 14) (by decide +kernel) (by decide) ?_
  refine aw_dV (cs' := 0) (sl' := 0) (pc' := 17) (st' := [vi 1]) (idx := 140) (as := [vi 1]) (st := []) (m_M_throwsIf_1) (by decide +kernel) (show vOK "ChanceBenchModel" 140 M_M_throwsIf 1 = true by decide +kernel) rfl rfl rfl (Nat.le_of_ble_eq_true rfl) (by decide) (by decide) (by decide) rfl rfl rfl rfl ?_
  refine aw_if_eq (o := 5) (tgt := 22) (by decide +kernel) (by decide) (by omega) (fun c => absurd c (by omega)) (fun _ => ?_)
  refine aw_blk (pc' := 21) (ls' := [some (vr 8 0), some (vi a), none, none, none, none, none, none]) (st' := [vi 0]) [.inl (.iconst 0)] 20 _ _ (by decide +kernel) rfl ?_
  exact aw_iret (by decide +kernel) rfl (by decide) (by decide) (hq _ _ rfl rfl)

theorem l_M_ls {Qr : Option AV → HT → Prop} {Qt : HT → Prop} : ∀ (d k : Nat), k + d = 4005 → Qr (some (vi (fsX xsu d k))) (Hp b s t mk df jo tr di (sgM th ln by9 dn ac bd pm pq tk fo f1 f2 xtp xwg xwh xmd xsl xhw xhs xhd xha xp1 xp2 xp3 xl1 xl2 xrt xlf xdc xhn xsu) dy) → AW G M_M_least Qr Qt 0 0 2 [some (vr 8 0), some (vi (k : Int))] [] (Hp b s t mk df jo tr di (sgM th ln by9 dn ac bd pm pq tk fo f1 f2 xtp xwg xwh xmd xsl xhw xhs xhd xha xp1 xp2 xp3 xl1 xl2 xrt xlf xdc xhn xsu) dy) := by
  intro d
  induction d with
  | zero =>
    intro k e hq
    obtain rfl : k = 4005 := by omega
    refine aw_blk (pc' := 6) (ls' := [some (vr 8 0), some (vi ((4005 : Nat) : Int))]) (st' := [vi 4005, vi ((4005 : Nat) : Int)]) [.inl (.iload_n 1), .inl (.sipush 4005)] 2 _ _ (by decide +kernel) rfl ?_
    refine aw_icmp_ge (o := 18) (tgt := 24) (by decide +kernel) (by decide) (by omega) (by omega) (fun _ => ?_) (fun c => absurd (by omega) c)
    refine aw_blk (pc' := 29) (ls' := [some (vr 8 0), some (vi ((4005 : Nat) : Int))]) (st' := [vi (((4005 : Nat) : Int) - 2000)]) [.inl (.iload_n 1), .inl (.sipush 2000), .inl (.isub)] 24 _ _ (by decide +kernel) rfl ?_
    exact aw_iret (by decide +kernel) rfl (by decide) (by decide) hq
  | succ d ih =>
    intro k e hq
    rw [fsX] at hq
    refine aw_blk (pc' := 6) (ls' := [some (vr 8 0), some (vi (k : Int))]) (st' := [vi 4005, vi (k : Int)]) [.inl (.iload_n 1), .inl (.sipush 4005)] 2 _ _ (by decide +kernel) rfl ?_
    refine aw_icmp_ge (o := 18) (tgt := 24) (by decide +kernel) (by decide) (by omega) (by omega) (fun c => absurd c (by omega)) (fun _ => ?_)
    refine aw_blk (pc' := 14) (ls' := [some (vr 8 0), some (vi (k : Int))]) (st' := [vi (k : Int), vr 8 19]) [.inl (.aload_n 0), .inr (76, 8, 27), .inl (.iload_n 1)] 9 _ _ (by decide +kernel) rfl ?_
    refine aw_iald (j := k) (by decide +kernel) rfl (by omega) (by omega) (fun r14 => ?_)
    refine aw_if_ne (o := 9) (tgt := 24) (by decide +kernel) (by decide) (by omega) (fun c1 => ?_) (fun c1 => ?_)
    · rw [if_neg c1] at hq
      refine aw_blk (pc' := 29) (ls' := [some (vr 8 0), some (vi (k : Int))]) (st' := [vi ((k : Int) - 2000)]) [.inl (.iload_n 1), .inl (.sipush 2000), .inl (.isub)] 24 _ _ (by decide +kernel) rfl ?_
      exact aw_iret (by decide +kernel) rfl (by decide) (by decide) hq
    · rw [if_pos c1] at hq
      refine aw_blk (pc' := 21) (ls' := [some (vr 8 0), some (vi ((k : Int) + 1))]) (st' := []) [.inl (.iinc 1 1)] 18 _ _ (by decide +kernel) rfl ?_
      refine aw_goto (o := -19) (tgt := 2) (by decide +kernel) (by decide) ?_
      exact ih (k + 1) (by omega) hq
theorem m_M_least : ADet G M_M_least [vr 8 0] (Hp b s t mk df jo tr di (sgM th ln by9 dn ac bd pm pq tk fo f1 f2 xtp xwg xwh xmd xsl xhw xhs xhd xha xp1 xp2 xp3 xl1 xl2 xrt xlf xdc xhn xsu) dy) (some (vi (fsX xsu 4005 0))) (Hp b s t mk df jo tr di (sgM th ln by9 dn ac bd pm pq tk fo f1 f2 xtp xwg xwh xmd xsl xhw xhs xhd xha xp1 xp2 xp3 xl1 xl2 xrt xlf xdc xhn xsu) dy) := by
  refine am_det (by decide +kernel) (Nat.le_of_ble_eq_true rfl) (fun Qr Qt hq => ?_)
  refine aw_blk (pc' := 2) (ls' := [some (vr 8 0), some (vi 0)]) (st' := []) [.inl (.iconst 0), .inl (.istore_n 1)] 0 _ _ (by decide +kernel) rfl ?_
  exact l_M_ls 4005 0 (by omega) (hq _ _ rfl rfl)

theorem l_M_s0 {Qr : Option AV → HT → Prop} {Qt : HT → Prop} (hm : m + n ≤ 12) (ha : -1000000 ≤ a ∧ a ≤ 1000000) (ho : ∀ j, j < n → -1000000 ≤ xhn (m + j) ∧ xhn (m + j) ≤ 1000000) : ∀ i, i ≤ n → ∀ su, (∀ i, i < 4005 → 0 ≤ su i) → (∀ su, Qr (some (vi 0)) (Hp b s t mk df jo tr di (sgM th ln by9 dn ac bd pm pq tk fo f1 f2 xtp xwg xwh xmd xsl xhw xhs xhd xha xp1 xp2 xp3 xl1 xl2 xrt xlf xdc xhn su) dy)) → AW G M_M_strike Qr Qt 0 0 6 [some (vr 8 0), some (vi a), some (vi (m : Int)), some (vi (n : Int)), some (vi 0), some (vi (i : Int)), none] [] (Hp b s t mk df jo tr di [some (ob 8 [vi th, vr 8 1, vi ln, vr 8 2, vr 8 3, vr 8 4, vi by9, vr 8 5, vr 8 6, vr 8 7, vr 8 8, vr 8 9, vi dn, vi ac, vi bd, vr 8 10, vr 8 11, vr 8 12, vr 8 13, vr 8 14, vi pm, vl pq, vr 8 15, vr 8 16, vi tk, vr 8 17, vr 8 18, vr 8 19, vi fo, vi f1, vi f2]), some (ar 2 200 xtp), some (ar 0 32016 xwg), some (ar 0 16 xwh), some (ar 1 2001 xmd), some (ar 0 30 xsl), some (ar 0 30 xhw), some (ar 0 30 xhs), some (ar 0 60030 xhd), some (ar 0 60030 xha), some (ar 0 600 xp1), some (ar 0 600 xp2), some (ar 1 600 xp3), some (ar 1 2001 xl1), some (ar 1 2001 xl2), some (ar 1 2001 xrt), some (ar 3 2001 xlf), some (ar 0 3600 xdc), some (ar 0 12 xhn), some (ar 0 4005 su)] dy) := by
  refine up_to (W := fun i : Nat => ∀ su, (∀ i, i < 4005 → 0 ≤ su i) → (∀ su, Qr (some (vi 0)) (Hp b s t mk df jo tr di (sgM th ln by9 dn ac bd pm pq tk fo f1 f2 xtp xwg xwh xmd xsl xhw xhs xhd xha xp1 xp2 xp3 xl1 xl2 xrt xlf xdc xhn su) dy)) → AW G M_M_strike Qr Qt 0 0 6 [some (vr 8 0), some (vi a), some (vi (m : Int)), some (vi (n : Int)), some (vi 0), some (vi (i : Int)), none] [] (Hp b s t mk df jo tr di [some (ob 8 [vi th, vr 8 1, vi ln, vr 8 2, vr 8 3, vr 8 4, vi by9, vr 8 5, vr 8 6, vr 8 7, vr 8 8, vr 8 9, vi dn, vi ac, vi bd, vr 8 10, vr 8 11, vr 8 12, vr 8 13, vr 8 14, vi pm, vl pq, vr 8 15, vr 8 16, vi tk, vr 8 17, vr 8 18, vr 8 19, vi fo, vi f1, vi f2]), some (ar 2 200 xtp), some (ar 0 32016 xwg), some (ar 0 16 xwh), some (ar 1 2001 xmd), some (ar 0 30 xsl), some (ar 0 30 xhw), some (ar 0 30 xhs), some (ar 0 60030 xhd), some (ar 0 60030 xha), some (ar 0 600 xp1), some (ar 0 600 xp2), some (ar 1 600 xp3), some (ar 1 2001 xl1), some (ar 1 2001 xl2), some (ar 1 2001 xrt), some (ar 3 2001 xlf), some (ar 0 3600 xdc), some (ar 0 12 xhn), some (ar 0 4005 su)] dy)) n ?_ (fun i hi9 ih => ?_)
  · intro su hs hq
    refine aw_blk (pc' := 9) (ls' := [some (vr 8 0), some (vi a), some (vi (m : Int)), some (vi (n : Int)), some (vi 0), some (vi (n : Int)), none]) (st' := [vi (n : Int), vi (n : Int)]) [.inl (.iload 5), .inl (.iload_n 3)] 6 _ _ (by decide +kernel) rfl ?_
    refine aw_icmp_ge (o := 66) (tgt := 75) (by decide +kernel) (by decide) (by omega) (by omega) (fun _ => ?_) (fun c => absurd (by omega) c)
    refine aw_blk (pc' := 77) (ls' := [some (vr 8 0), some (vi a), some (vi (m : Int)), some (vi (n : Int)), some (vi 0), some (vi (n : Int)), none]) (st' := [vi 0]) [.inl (.iload 4)] 75 _ _ (by decide +kernel) rfl ?_
    exact aw_zret (by decide +kernel) rfl (by decide) (by decide) (by omega) (hq su)
  · intro su hs hq
    have hok := ho i hi9
    refine aw_blk (pc' := 9) (ls' := [some (vr 8 0), some (vi a), some (vi (m : Int)), some (vi (n : Int)), some (vi 0), some (vi (i : Int)), none]) (st' := [vi (n : Int), vi (i : Int)]) [.inl (.iload 5), .inl (.iload_n 3)] 6 _ _ (by decide +kernel) rfl ?_
    refine aw_icmp_ge (o := 66) (tgt := 75) (by decide +kernel) (by decide) (by omega) (by omega) (fun c => absurd c (by omega)) (fun _ => ?_)
    refine aw_blk (pc' := 21) (ls' := [some (vr 8 0), some (vi a), some (vi (m : Int)), some (vi (n : Int)), some (vi 0), some (vi (i : Int)), none]) (st' := [vi ((m : Int) + (i : Int)), vr 8 18, vi a]) [.inl (.iload_n 1), .inl (.aload_n 0), .inr (73, 8, 26), .inl (.iload_n 2), .inl (.iload 5), .inl (.iadd)] 12 _ _ (by decide +kernel) rfl ?_
    refine aw_iald (j := m + i) (by decide +kernel) rfl (by omega) (by omega) (fun r21 => ?_)
    refine aw_blk (pc' := 31) (ls' := [some (vr 8 0), some (vi a), some (vi (m : Int)), some (vi (n : Int)), some (vi 0), some (vi (i : Int)), some (vi ((a + (xhn (m + i))) + 2000))]) (st' := [vi ((a + (xhn (m + i))) + 2000)]) [.inl (.iadd), .inl (.sipush 2000), .inl (.iadd), .inl (.istore 6), .inl (.iload 6)] 22 _ _ (by decide +kernel) rfl ?_
    refine aw_if_lt (o := 21) (tgt := 52) (by decide +kernel) (by decide) (by omega) (fun c1 => ?_) (fun c1 => ?_)
    · refine aw_blk (pc' := 55) (ls' := [some (vr 8 0), some (vi a), some (vi (m : Int)), some (vi (n : Int)), some (vi 0), some (vi (i : Int)), some (vi ((a + (xhn (m + i))) + 2000))]) (st' := []) [.inl (.iconst 0), .inl (.istore 4)] 52 _ _ (by decide +kernel) rfl ?_
      refine aw_goto (o := 14) (tgt := 69) (by decide +kernel) (by decide) ?_
      refine aw_blk (pc' := 72) (ls' := [some (vr 8 0), some (vi a), some (vi (m : Int)), some (vi (n : Int)), some (vi 0), some (vi ((i : Int) + 1)), some (vi ((a + (xhn (m + i))) + 2000))]) (st' := []) [.inl (.iinc 5 1)] 69 _ _ (by decide +kernel) rfl ?_
      refine aw_goto (o := -66) (tgt := 6) (by decide +kernel) (by decide) ?_
      refine aw_ls (ls' := [some (vr 8 0), some (vi a), some (vi (m : Int)), some (vi (n : Int)), some (vi 0), some (vi ((i : Int) + 1)), none]) (lsk_s (lsk_s (lsk_s (lsk_s (lsk_s (lsk_s (lsk_n lsk_0))))))) ?_
      exact ih su hs hq
    · refine aw_blk (pc' := 39) (ls' := [some (vr 8 0), some (vi a), some (vi (m : Int)), some (vi (n : Int)), some (vi 0), some (vi (i : Int)), some (vi ((a + (xhn (m + i))) + 2000))]) (st' := [vi 4004, vi ((a + (xhn (m + i))) + 2000)]) [.inl (.iload 6), .inl (.sipush 4004)] 34 _ _ (by decide +kernel) rfl ?_
      refine aw_icmp_gt (o := 13) (tgt := 52) (by decide +kernel) (by decide) (by omega) (by omega) (fun c2 => ?_) (fun c2 => ?_)
      · refine aw_blk (pc' := 55) (ls' := [some (vr 8 0), some (vi a), some (vi (m : Int)), some (vi (n : Int)), some (vi 0), some (vi (i : Int)), some (vi ((a + (xhn (m + i))) + 2000))]) (st' := []) [.inl (.iconst 0), .inl (.istore 4)] 52 _ _ (by decide +kernel) rfl ?_
        refine aw_goto (o := 14) (tgt := 69) (by decide +kernel) (by decide) ?_
        refine aw_blk (pc' := 72) (ls' := [some (vr 8 0), some (vi a), some (vi (m : Int)), some (vi (n : Int)), some (vi 0), some (vi ((i : Int) + 1)), some (vi ((a + (xhn (m + i))) + 2000))]) (st' := []) [.inl (.iinc 5 1)] 69 _ _ (by decide +kernel) rfl ?_
        refine aw_goto (o := -66) (tgt := 6) (by decide +kernel) (by decide) ?_
        refine aw_ls (ls' := [some (vr 8 0), some (vi a), some (vi (m : Int)), some (vi (n : Int)), some (vi 0), some (vi ((i : Int) + 1)), none]) (lsk_s (lsk_s (lsk_s (lsk_s (lsk_s (lsk_s (lsk_n lsk_0))))))) ?_
        exact ih su hs hq
      · obtain ⟨t9, et⟩ : ∃ t9 : Nat, a + xhn (m + i) + 2000 = (t9 : Int) := ⟨(a + xhn (m + i) + 2000).toNat, by omega⟩
        rw [et]
        refine aw_blk (pc' := 48) (ls' := [some (vr 8 0), some (vi a), some (vi (m : Int)), some (vi (n : Int)), some (vi 0), some (vi (i : Int)), some (vi (t9 : Int))]) (st' := [vi (t9 : Int), vr 8 19]) [.inl (.aload_n 0), .inr (76, 8, 27), .inl (.iload 6)] 42 _ _ (by decide +kernel) rfl ?_
        refine aw_iald (j := t9) (by decide +kernel) rfl (by omega) (by omega) (fun r48 => ?_)
        refine aw_if_ne (o := 9) (tgt := 58) (by decide +kernel) (by decide) (by omega) (fun c3 => ?_) (fun c3 => ?_)
        · have hs9 := hs t9 (by omega)
          refine aw_blk (pc' := 65) (ls' := [some (vr 8 0), some (vi a), some (vi (m : Int)), some (vi (n : Int)), some (vi 0), some (vi (i : Int)), some (vi (t9 : Int))]) (st' := [vi (t9 : Int), vr 8 19, vi (t9 : Int), vr 8 19]) [.inl (.aload_n 0), .inr (76, 8, 27), .inl (.iload 6), .inl (.dup2)] 58 _ _ (by decide +kernel) rfl ?_
          refine aw_iald (j := t9) (by decide +kernel) rfl (by omega) (by omega) (fun r65 => ?_)
          refine aw_blk (pc' := 68) (ls' := [some (vr 8 0), some (vi a), some (vi (m : Int)), some (vi (n : Int)), some (vi 0), some (vi (i : Int)), some (vi (t9 : Int))]) (st' := [vi ((su t9) - 1), vi (t9 : Int), vr 8 19]) [.inl (.iconst 1), .inl (.isub)] 66 _ _ (by decide +kernel) rfl ?_
          refine aw_iast (j := t9) (h' := Hp b s t mk df jo tr di [some (ob 8 [vi th, vr 8 1, vi ln, vr 8 2, vr 8 3, vr 8 4, vi by9, vr 8 5, vr 8 6, vr 8 7, vr 8 8, vr 8 9, vi dn, vi ac, vi bd, vr 8 10, vr 8 11, vr 8 12, vr 8 13, vr 8 14, vi pm, vl pq, vr 8 15, vr 8 16, vi tk, vr 8 17, vr 8 18, vr 8 19, vi fo, vi f1, vi f2]), some (ar 2 200 xtp), some (ar 0 32016 xwg), some (ar 0 16 xwh), some (ar 1 2001 xmd), some (ar 0 30 xsl), some (ar 0 30 xhw), some (ar 0 30 xhs), some (ar 0 60030 xhd), some (ar 0 60030 xha), some (ar 0 600 xp1), some (ar 0 600 xp2), some (ar 1 600 xp3), some (ar 1 2001 xl1), some (ar 1 2001 xl2), some (ar 1 2001 xrt), some (ar 3 2001 xlf), some (ar 0 3600 xdc), some (ar 0 12 xhn), some (ar 0 4005 (va_up su t9 ((su t9) - 1)))] dy) (by decide +kernel) rfl (by omega) (by omega) (by omega) rfl ?_
          refine aw_blk (pc' := 72) (ls' := [some (vr 8 0), some (vi a), some (vi (m : Int)), some (vi (n : Int)), some (vi 0), some (vi ((i : Int) + 1)), some (vi (t9 : Int))]) (st' := []) [.inl (.iinc 5 1)] 69 _ _ (by decide +kernel) rfl ?_
          refine aw_goto (o := -66) (tgt := 6) (by decide +kernel) (by decide) ?_
          refine aw_ls (ls' := [some (vr 8 0), some (vi a), some (vi (m : Int)), some (vi (n : Int)), some (vi 0), some (vi ((i : Int) + 1)), none]) (lsk_s (lsk_s (lsk_s (lsk_s (lsk_s (lsk_s (lsk_n lsk_0))))))) ?_
          exact ih _ (fun i hi => by unfold va_up; split; omega; exact hs i hi) hq
        · refine aw_blk (pc' := 55) (ls' := [some (vr 8 0), some (vi a), some (vi (m : Int)), some (vi (n : Int)), some (vi 0), some (vi (i : Int)), some (vi (t9 : Int))]) (st' := []) [.inl (.iconst 0), .inl (.istore 4)] 52 _ _ (by decide +kernel) rfl ?_
          refine aw_goto (o := 14) (tgt := 69) (by decide +kernel) (by decide) ?_
          refine aw_blk (pc' := 72) (ls' := [some (vr 8 0), some (vi a), some (vi (m : Int)), some (vi (n : Int)), some (vi 0), some (vi ((i : Int) + 1)), some (vi (t9 : Int))]) (st' := []) [.inl (.iinc 5 1)] 69 _ _ (by decide +kernel) rfl ?_
          refine aw_goto (o := -66) (tgt := 6) (by decide +kernel) (by decide) ?_
          refine aw_ls (ls' := [some (vr 8 0), some (vi a), some (vi (m : Int)), some (vi (n : Int)), some (vi 0), some (vi ((i : Int) + 1)), none]) (lsk_s (lsk_s (lsk_s (lsk_s (lsk_s (lsk_s (lsk_n lsk_0))))))) ?_
          exact ih su hs hq
theorem m_M_strike (hm : m + n ≤ 12) (ha : -1000000 ≤ a ∧ a ≤ 1000000) (ho : ∀ j, j < n → -1000000 ≤ xhn (m + j) ∧ xhn (m + j) ≤ 1000000) (hs : ∀ i, i < 4005 → 0 ≤ xsu i) : AMet G M_M_strike [vr 8 0, vi a, vi (m : Int), vi (n : Int)] (Hp b s t mk df jo tr di (sgM th ln by9 dn ac bd pm pq tk fo f1 f2 xtp xwg xwh xmd xsl xhw xhs xhd xha xp1 xp2 xp3 xl1 xl2 xrt xlf xdc xhn xsu) dy) (fun r h => (r = some (vi 1) ∧ tkOK xsu taM 4005 a (fun j => xhn (m + j)) n ∧ h = Hp b s t mk df jo tr di (sgM th ln by9 dn ac bd pm pq tk fo f1 f2 xtp xwg xwh xmd xsl xhw xhs xhd xha xp1 xp2 xp3 xl1 xl2 xrt xlf xdc xhn (dcr xsu taM 4005 a (fun j => xhn (m + j)) n)) dy) ∨ (r = some (vi 0) ∧ ¬ tkOK xsu taM 4005 a (fun j => xhn (m + j)) n ∧ ∃ su, h = Hp b s t mk df jo tr di (sgM th ln by9 dn ac bd pm pq tk fo f1 f2 xtp xwg xwh xmd xsl xhw xhs xhd xha xp1 xp2 xp3 xl1 xl2 xrt xlf xdc xhn su) dy)) (fun _ => False) := by
  refine am_rel (by decide +kernel) (Nat.le_of_ble_eq_true rfl) (fun Qr Qt hq => ?_)
  refine aw_blk (pc' := 6) (ls' := [some (vr 8 0), some (vi a), some (vi (m : Int)), some (vi (n : Int)), some (vi 1), some (vi 0), none]) (st' := []) [.inl (.iconst 1), .inl (.istore 4), .inl (.iconst 0), .inl (.istore 5)] 0 _ _ (by decide +kernel) rfl ?_
  refine aw_eq (h' := Hp b s t mk df jo tr di [some (ob 8 [vi th, vr 8 1, vi ln, vr 8 2, vr 8 3, vr 8 4, vi by9, vr 8 5, vr 8 6, vr 8 7, vr 8 8, vr 8 9, vi dn, vi ac, vi bd, vr 8 10, vr 8 11, vr 8 12, vr 8 13, vr 8 14, vi pm, vl pq, vr 8 15, vr 8 16, vi tk, vr 8 17, vr 8 18, vr 8 19, vi fo, vi f1, vi f2]), some (ar 2 200 xtp), some (ar 0 32016 xwg), some (ar 0 16 xwh), some (ar 1 2001 xmd), some (ar 0 30 xsl), some (ar 0 30 xhw), some (ar 0 30 xhs), some (ar 0 60030 xhd), some (ar 0 60030 xha), some (ar 0 600 xp1), some (ar 0 600 xp2), some (ar 1 600 xp3), some (ar 1 2001 xl1), some (ar 1 2001 xl2), some (ar 1 2001 xrt), some (ar 3 2001 xlf), some (ar 0 3600 xdc), some (ar 0 12 xhn), some (ar 0 4005 (dcr xsu taM 4005 a (fun j => xhn (m + j)) 0))] dy) rfl rfl (by rw [dcr_0]) ?_
  refine up_to (W := fun i : Nat => tkOK xsu taM 4005 a (fun j => xhn (m + j)) i → AW G M_M_strike Qr Qt 0 0 6 [some (vr 8 0), some (vi a), some (vi (m : Int)), some (vi (n : Int)), some (vi 1), some (vi (i : Int)), none] [] (Hp b s t mk df jo tr di [some (ob 8 [vi th, vr 8 1, vi ln, vr 8 2, vr 8 3, vr 8 4, vi by9, vr 8 5, vr 8 6, vr 8 7, vr 8 8, vr 8 9, vi dn, vi ac, vi bd, vr 8 10, vr 8 11, vr 8 12, vr 8 13, vr 8 14, vi pm, vl pq, vr 8 15, vr 8 16, vi tk, vr 8 17, vr 8 18, vr 8 19, vi fo, vi f1, vi f2]), some (ar 2 200 xtp), some (ar 0 32016 xwg), some (ar 0 16 xwh), some (ar 1 2001 xmd), some (ar 0 30 xsl), some (ar 0 30 xhw), some (ar 0 30 xhs), some (ar 0 60030 xhd), some (ar 0 60030 xha), some (ar 0 600 xp1), some (ar 0 600 xp2), some (ar 1 600 xp3), some (ar 1 2001 xl1), some (ar 1 2001 xl2), some (ar 1 2001 xrt), some (ar 3 2001 xlf), some (ar 0 3600 xdc), some (ar 0 12 xhn), some (ar 0 4005 (dcr xsu taM 4005 a (fun j => xhn (m + j)) i))] dy)) n ?_ (fun i hi9 ih => ?_) 0 (by omega) (fun k hk => by omega)
  · intro ht
    refine aw_blk (pc' := 9) (ls' := [some (vr 8 0), some (vi a), some (vi (m : Int)), some (vi (n : Int)), some (vi 1), some (vi (n : Int)), none]) (st' := [vi (n : Int), vi (n : Int)]) [.inl (.iload 5), .inl (.iload_n 3)] 6 _ _ (by decide +kernel) rfl ?_
    refine aw_icmp_ge (o := 66) (tgt := 75) (by decide +kernel) (by decide) (by omega) (by omega) (fun _ => ?_) (fun c => absurd (by omega) c)
    refine aw_blk (pc' := 77) (ls' := [some (vr 8 0), some (vi a), some (vi (m : Int)), some (vi (n : Int)), some (vi 1), some (vi (n : Int)), none]) (st' := [vi 1]) [.inl (.iload 4)] 75 _ _ (by decide +kernel) rfl ?_
    exact aw_zret (by decide +kernel) rfl (by decide) (by decide) (by omega) (hq _ _ (Or.inl ⟨rfl, ht, rfl⟩))
  · intro ht
    have hnn := dcr_nn hs ht
    have hok := ho i hi9
    refine aw_blk (pc' := 9) (ls' := [some (vr 8 0), some (vi a), some (vi (m : Int)), some (vi (n : Int)), some (vi 1), some (vi (i : Int)), none]) (st' := [vi (n : Int), vi (i : Int)]) [.inl (.iload 5), .inl (.iload_n 3)] 6 _ _ (by decide +kernel) rfl ?_
    refine aw_icmp_ge (o := 66) (tgt := 75) (by decide +kernel) (by decide) (by omega) (by omega) (fun c => absurd c (by omega)) (fun _ => ?_)
    refine aw_blk (pc' := 21) (ls' := [some (vr 8 0), some (vi a), some (vi (m : Int)), some (vi (n : Int)), some (vi 1), some (vi (i : Int)), none]) (st' := [vi ((m : Int) + (i : Int)), vr 8 18, vi a]) [.inl (.iload_n 1), .inl (.aload_n 0), .inr (73, 8, 26), .inl (.iload_n 2), .inl (.iload 5), .inl (.iadd)] 12 _ _ (by decide +kernel) rfl ?_
    refine aw_iald (j := m + i) (by decide +kernel) rfl (by omega) (by omega) (fun r21 => ?_)
    refine aw_blk (pc' := 31) (ls' := [some (vr 8 0), some (vi a), some (vi (m : Int)), some (vi (n : Int)), some (vi 1), some (vi (i : Int)), some (vi ((a + (xhn (m + i))) + 2000))]) (st' := [vi ((a + (xhn (m + i))) + 2000)]) [.inl (.iadd), .inl (.sipush 2000), .inl (.iadd), .inl (.istore 6), .inl (.iload 6)] 22 _ _ (by decide +kernel) rfl ?_
    refine aw_if_lt (o := 21) (tgt := 52) (by decide +kernel) (by decide) (by omega) (fun c1 => ?_) (fun c1 => ?_)
    · have hno : ¬ tkOK xsu taM 4005 a (fun j => xhn (m + j)) n := fun z => by obtain ⟨i2, g1, g2, g3⟩ := z i hi9; simp only [taM] at g2; omega
      refine aw_blk (pc' := 55) (ls' := [some (vr 8 0), some (vi a), some (vi (m : Int)), some (vi (n : Int)), some (vi 0), some (vi (i : Int)), some (vi ((a + (xhn (m + i))) + 2000))]) (st' := []) [.inl (.iconst 0), .inl (.istore 4)] 52 _ _ (by decide +kernel) rfl ?_
      refine aw_goto (o := 14) (tgt := 69) (by decide +kernel) (by decide) ?_
      refine aw_blk (pc' := 72) (ls' := [some (vr 8 0), some (vi a), some (vi (m : Int)), some (vi (n : Int)), some (vi 0), some (vi ((i : Int) + 1)), some (vi ((a + (xhn (m + i))) + 2000))]) (st' := []) [.inl (.iinc 5 1)] 69 _ _ (by decide +kernel) rfl ?_
      refine aw_goto (o := -66) (tgt := 6) (by decide +kernel) (by decide) ?_
      refine aw_ls (ls' := [some (vr 8 0), some (vi a), some (vi (m : Int)), some (vi (n : Int)), some (vi 0), some (vi ((i : Int) + 1)), none]) (lsk_s (lsk_s (lsk_s (lsk_s (lsk_s (lsk_s (lsk_n lsk_0))))))) ?_
      exact l_M_s0 hm ha ho (i + 1) (by omega) _ hnn (fun su => hq _ _ (Or.inr ⟨rfl, hno, su, rfl⟩))
    · refine aw_blk (pc' := 39) (ls' := [some (vr 8 0), some (vi a), some (vi (m : Int)), some (vi (n : Int)), some (vi 1), some (vi (i : Int)), some (vi ((a + (xhn (m + i))) + 2000))]) (st' := [vi 4004, vi ((a + (xhn (m + i))) + 2000)]) [.inl (.iload 6), .inl (.sipush 4004)] 34 _ _ (by decide +kernel) rfl ?_
      refine aw_icmp_gt (o := 13) (tgt := 52) (by decide +kernel) (by decide) (by omega) (by omega) (fun c2 => ?_) (fun c2 => ?_)
      · have hno : ¬ tkOK xsu taM 4005 a (fun j => xhn (m + j)) n := fun z => by obtain ⟨i2, g1, g2, g3⟩ := z i hi9; simp only [taM] at g2; omega
        refine aw_blk (pc' := 55) (ls' := [some (vr 8 0), some (vi a), some (vi (m : Int)), some (vi (n : Int)), some (vi 0), some (vi (i : Int)), some (vi ((a + (xhn (m + i))) + 2000))]) (st' := []) [.inl (.iconst 0), .inl (.istore 4)] 52 _ _ (by decide +kernel) rfl ?_
        refine aw_goto (o := 14) (tgt := 69) (by decide +kernel) (by decide) ?_
        refine aw_blk (pc' := 72) (ls' := [some (vr 8 0), some (vi a), some (vi (m : Int)), some (vi (n : Int)), some (vi 0), some (vi ((i : Int) + 1)), some (vi ((a + (xhn (m + i))) + 2000))]) (st' := []) [.inl (.iinc 5 1)] 69 _ _ (by decide +kernel) rfl ?_
        refine aw_goto (o := -66) (tgt := 6) (by decide +kernel) (by decide) ?_
        refine aw_ls (ls' := [some (vr 8 0), some (vi a), some (vi (m : Int)), some (vi (n : Int)), some (vi 0), some (vi ((i : Int) + 1)), none]) (lsk_s (lsk_s (lsk_s (lsk_s (lsk_s (lsk_s (lsk_n lsk_0))))))) ?_
        exact l_M_s0 hm ha ho (i + 1) (by omega) _ hnn (fun su => hq _ _ (Or.inr ⟨rfl, hno, su, rfl⟩))
      · obtain ⟨t9, et⟩ : ∃ t9 : Nat, a + xhn (m + i) + 2000 = (t9 : Int) := ⟨(a + xhn (m + i) + 2000).toNat, by omega⟩
        rw [et]
        refine aw_blk (pc' := 48) (ls' := [some (vr 8 0), some (vi a), some (vi (m : Int)), some (vi (n : Int)), some (vi 1), some (vi (i : Int)), some (vi (t9 : Int))]) (st' := [vi (t9 : Int), vr 8 19]) [.inl (.aload_n 0), .inr (76, 8, 27), .inl (.iload 6)] 42 _ _ (by decide +kernel) rfl ?_
        refine aw_iald (j := t9) (by decide +kernel) rfl (by omega) (by omega) (fun r48 => ?_)
        refine aw_if_ne (o := 9) (tgt := 58) (by decide +kernel) (by decide) (by omega) (fun c3 => ?_) (fun c3 => ?_)
        · have hs9 := hnn t9 (by omega)
          refine aw_blk (pc' := 65) (ls' := [some (vr 8 0), some (vi a), some (vi (m : Int)), some (vi (n : Int)), some (vi 1), some (vi (i : Int)), some (vi (t9 : Int))]) (st' := [vi (t9 : Int), vr 8 19, vi (t9 : Int), vr 8 19]) [.inl (.aload_n 0), .inr (76, 8, 27), .inl (.iload 6), .inl (.dup2)] 58 _ _ (by decide +kernel) rfl ?_
          refine aw_iald (j := t9) (by decide +kernel) rfl (by omega) (by omega) (fun r65 => ?_)
          refine aw_blk (pc' := 68) (ls' := [some (vr 8 0), some (vi a), some (vi (m : Int)), some (vi (n : Int)), some (vi 1), some (vi (i : Int)), some (vi (t9 : Int))]) (st' := [vi (((dcr xsu taM 4005 a (fun j => xhn (m + j)) i) t9) - 1), vi (t9 : Int), vr 8 19]) [.inl (.iconst 1), .inl (.isub)] 66 _ _ (by decide +kernel) rfl ?_
          refine aw_iast (j := t9) (h' := Hp b s t mk df jo tr di [some (ob 8 [vi th, vr 8 1, vi ln, vr 8 2, vr 8 3, vr 8 4, vi by9, vr 8 5, vr 8 6, vr 8 7, vr 8 8, vr 8 9, vi dn, vi ac, vi bd, vr 8 10, vr 8 11, vr 8 12, vr 8 13, vr 8 14, vi pm, vl pq, vr 8 15, vr 8 16, vi tk, vr 8 17, vr 8 18, vr 8 19, vi fo, vi f1, vi f2]), some (ar 2 200 xtp), some (ar 0 32016 xwg), some (ar 0 16 xwh), some (ar 1 2001 xmd), some (ar 0 30 xsl), some (ar 0 30 xhw), some (ar 0 30 xhs), some (ar 0 60030 xhd), some (ar 0 60030 xha), some (ar 0 600 xp1), some (ar 0 600 xp2), some (ar 1 600 xp3), some (ar 1 2001 xl1), some (ar 1 2001 xl2), some (ar 1 2001 xrt), some (ar 3 2001 xlf), some (ar 0 3600 xdc), some (ar 0 12 xhn), some (ar 0 4005 (va_up (dcr xsu taM 4005 a (fun j => xhn (m + j)) i) t9 (((dcr xsu taM 4005 a (fun j => xhn (m + j)) i) t9) - 1)))] dy) (by decide +kernel) rfl (by omega) (by omega) (by omega) rfl ?_
          refine aw_blk (pc' := 72) (ls' := [some (vr 8 0), some (vi a), some (vi (m : Int)), some (vi (n : Int)), some (vi 1), some (vi ((i : Int) + 1)), some (vi (t9 : Int))]) (st' := []) [.inl (.iinc 5 1)] 69 _ _ (by decide +kernel) rfl ?_
          refine aw_goto (o := -66) (tgt := 6) (by decide +kernel) (by decide) ?_
          refine aw_ls (ls' := [some (vr 8 0), some (vi a), some (vi (m : Int)), some (vi (n : Int)), some (vi 1), some (vi ((i : Int) + 1)), none]) (lsk_s (lsk_s (lsk_s (lsk_s (lsk_s (lsk_s (lsk_n lsk_0))))))) ?_
          have ht2 : taM t9 = a + (fun j => xhn (m + j)) i := by show (t9 : Int) - 2000 = a + xhn (m + i); omega
          rw [dcr_s (tl := xsu) (o := (fun j => xhn (m + j))) (k := i) taM_inc (show t9 < 4005 by omega) ht2]
          exact ih (fun k hk => by rcases Nat.lt_or_ge k i with z | z; exact ht k z; rw [show k = i by omega]; exact ⟨t9, by omega, ht2, by omega⟩)
        · have hno : ¬ tkOK xsu taM 4005 a (fun j => xhn (m + j)) n := fun z => by obtain ⟨i2, g1, g2, g3⟩ := z i hi9; rw [show i2 = t9 by simp only [taM] at g2; omega] at g3; omega
          refine aw_blk (pc' := 55) (ls' := [some (vr 8 0), some (vi a), some (vi (m : Int)), some (vi (n : Int)), some (vi 0), some (vi (i : Int)), some (vi (t9 : Int))]) (st' := []) [.inl (.iconst 0), .inl (.istore 4)] 52 _ _ (by decide +kernel) rfl ?_
          refine aw_goto (o := 14) (tgt := 69) (by decide +kernel) (by decide) ?_
          refine aw_blk (pc' := 72) (ls' := [some (vr 8 0), some (vi a), some (vi (m : Int)), some (vi (n : Int)), some (vi 0), some (vi ((i : Int) + 1)), some (vi (t9 : Int))]) (st' := []) [.inl (.iinc 5 1)] 69 _ _ (by decide +kernel) rfl ?_
          refine aw_goto (o := -66) (tgt := 6) (by decide +kernel) (by decide) ?_
          refine aw_ls (ls' := [some (vr 8 0), some (vi a), some (vi (m : Int)), some (vi (n : Int)), some (vi 0), some (vi ((i : Int) + 1)), none]) (lsk_s (lsk_s (lsk_s (lsk_s (lsk_s (lsk_s (lsk_n lsk_0))))))) ?_
          exact l_M_s0 hm ha ho (i + 1) (by omega) _ hnn (fun su => hq _ _ (Or.inr ⟨rfl, hno, su, rfl⟩))

theorem l_M_or {Qr : Option AV → HT → Prop} {Qt : HT → Prop} (hm : m < 300) : ∀ (d k : Nat), k + d = 12 → Qr (some (vi (ordM xdc xhn m d k))) (Hp b s t mk df jo tr di (sgM th ln by9 dn ac bd pm pq tk fo f1 f2 xtp xwg xwh xmd xsl xhw xhs xhd xha xp1 xp2 xp3 xl1 xl2 xrt xlf xdc xhn xsu) dy) → AW G M_M_order Qr Qt 0 0 2 [some (vr 8 0), some (vi (m : Int)), some (vi (k : Int))] [] (Hp b s t mk df jo tr di (sgM th ln by9 dn ac bd pm pq tk fo f1 f2 xtp xwg xwh xmd xsl xhw xhs xhd xha xp1 xp2 xp3 xl1 xl2 xrt xlf xdc xhn xsu) dy) := by
  intro d
  induction d with
  | zero =>
    intro k e hq
    obtain rfl : k = 12 := by omega
    refine aw_blk (pc' := 5) (ls' := [some (vr 8 0), some (vi (m : Int)), some (vi ((12 : Nat) : Int))]) (st' := [vi 12, vi ((12 : Nat) : Int)]) [.inl (.iload_n 2), .inl (.bipush 12)] 2 _ _ (by decide +kernel) rfl ?_
    refine aw_icmp_ge (o := 55) (tgt := 60) (by decide +kernel) (by decide) (by omega) (by omega) (fun _ => ?_) (fun c => absurd (by omega) c)
    refine aw_blk (pc' := 61) (ls' := [some (vr 8 0), some (vi (m : Int)), some (vi ((12 : Nat) : Int))]) (st' := [vi 0]) [.inl (.iconst 0)] 60 _ _ (by decide +kernel) rfl ?_
    exact aw_iret (by decide +kernel) rfl (by decide) (by decide) hq
  | succ d ih =>
    intro k e hq
    rw [ordM] at hq
    refine aw_blk (pc' := 5) (ls' := [some (vr 8 0), some (vi (m : Int)), some (vi (k : Int))]) (st' := [vi 12, vi (k : Int)]) [.inl (.iload_n 2), .inl (.bipush 12)] 2 _ _ (by decide +kernel) rfl ?_
    refine aw_icmp_ge (o := 55) (tgt := 60) (by decide +kernel) (by decide) (by omega) (by omega) (fun c => absurd c (by omega)) (fun _ => ?_)
    refine aw_blk (pc' := 18) (ls' := [some (vr 8 0), some (vi (m : Int)), some (vi (k : Int))]) (st' := [vi ((12 * (m : Int)) + (k : Int)), vr 8 17]) [.inl (.aload_n 0), .inr (70, 8, 25), .inl (.bipush 12), .inl (.iload_n 1), .inl (.imul), .inl (.iload_n 2), .inl (.iadd)] 8 _ _ (by decide +kernel) rfl ?_
    refine aw_iald (j := 12 * m + k) (by decide +kernel) rfl (by omega) (by omega) (fun r18 => ?_)
    refine aw_blk (pc' := 24) (ls' := [some (vr 8 0), some (vi (m : Int)), some (vi (k : Int))]) (st' := [vi (k : Int), vr 8 18, vi (xdc (12 * m + k))]) [.inl (.aload_n 0), .inr (73, 8, 26), .inl (.iload_n 2)] 19 _ _ (by decide +kernel) rfl ?_
    refine aw_iald (j := k) (by decide +kernel) rfl (by omega) (by omega) (fun r24 => ?_)
    refine aw_icmp_eq (o := 29) (tgt := 54) (by decide +kernel) (by decide) (by omega) (by omega) (fun c1 => ?_) (fun c1 => ?_)
    · rw [if_pos c1] at hq
      refine aw_blk (pc' := 57) (ls' := [some (vr 8 0), some (vi (m : Int)), some (vi ((k : Int) + 1))]) (st' := []) [.inl (.iinc 2 1)] 54 _ _ (by decide +kernel) rfl ?_
      refine aw_goto (o := -55) (tgt := 2) (by decide +kernel) (by decide) ?_
      exact ih (k + 1) (by omega) hq
    · rw [if_neg c1] at hq
      refine aw_blk (pc' := 33) (ls' := [some (vr 8 0), some (vi (m : Int)), some (vi (k : Int))]) (st' := [vi (k : Int), vr 8 18]) [.inl (.aload_n 0), .inr (73, 8, 26), .inl (.iload_n 2)] 28 _ _ (by decide +kernel) rfl ?_
      refine aw_iald (j := k) (by decide +kernel) rfl (by omega) (by omega) (fun r33 => ?_)
      refine aw_blk (pc' := 44) (ls' := [some (vr 8 0), some (vi (m : Int)), some (vi (k : Int))]) (st' := [vi ((12 * (m : Int)) + (k : Int)), vr 8 17, vi (xhn k)]) [.inl (.aload_n 0), .inr (70, 8, 25), .inl (.bipush 12), .inl (.iload_n 1), .inl (.imul), .inl (.iload_n 2), .inl (.iadd)] 34 _ _ (by decide +kernel) rfl ?_
      refine aw_iald (j := 12 * m + k) (by decide +kernel) rfl (by omega) (by omega) (fun r44 => ?_)
      refine aw_icmp_ge (o := 7) (tgt := 52) (by decide +kernel) (by decide) (by omega) (by omega) (fun c2 => ?_) (fun c2 => ?_)
      · rw [if_neg (by omega)] at hq
        refine aw_blk (pc' := 53) (ls' := [some (vr 8 0), some (vi (m : Int)), some (vi (k : Int))]) (st' := [vi 1]) [.inl (.iconst 1)] 52 _ _ (by decide +kernel) rfl ?_
        exact aw_iret (by decide +kernel) rfl (by decide) (by decide) hq
      · rw [if_pos (by omega)] at hq
        refine aw_blk (pc' := 49) (ls' := [some (vr 8 0), some (vi (m : Int)), some (vi (k : Int))]) (st' := [vi (-1)]) [.inl (.iconst (-1))] 48 _ _ (by decide +kernel) rfl ?_
        refine aw_goto (o := 4) (tgt := 53) (by decide +kernel) (by decide) ?_
        exact aw_iret (by decide +kernel) rfl (by decide) (by decide) hq
theorem m_M_order (hm : m < 300) : ADet G M_M_order [vr 8 0, vi (m : Int)] (Hp b s t mk df jo tr di (sgM th ln by9 dn ac bd pm pq tk fo f1 f2 xtp xwg xwh xmd xsl xhw xhs xhd xha xp1 xp2 xp3 xl1 xl2 xrt xlf xdc xhn xsu) dy) (some (vi (ordM xdc xhn m 12 0))) (Hp b s t mk df jo tr di (sgM th ln by9 dn ac bd pm pq tk fo f1 f2 xtp xwg xwh xmd xsl xhw xhs xhd xha xp1 xp2 xp3 xl1 xl2 xrt xlf xdc xhn xsu) dy) := by
  refine am_det (by decide +kernel) (Nat.le_of_ble_eq_true rfl) (fun Qr Qt hq => ?_)
  refine aw_blk (pc' := 2) (ls' := [some (vr 8 0), some (vi (m : Int)), some (vi 0)]) (st' := []) [.inl (.iconst 0), .inl (.istore_n 2)] 0 _ _ (by decide +kernel) rfl ?_
  exact l_M_or hm 12 0 (by omega) (hq _ _ rfl rfl)

theorem m_M_face (hI : I32 a ∧ I32 c ∧ I32 d) (hF : (0 ≤ fo ∧ fo ≤ 252) ∧ (0 ≤ f1 ∧ f1 ≤ 6) ∧ 0 ≤ f2 ∧ f2 ≤ 6) (hf : (0 ≤ a ∧ a < fo) ∧ 0 ≤ d ∧ ((c = 0 ∧ d < f1) ∨ (c = 1 ∧ d < f2))) : ADet G M_M_face [vr 8 0, vi a, vi c, vi d] (Hp b s t mk df jo tr di (sgM th ln by9 dn ac bd pm pq tk fo f1 f2 xtp xwg xwh xmd xsl xhw xhs xhd xha xp1 xp2 xp3 xl1 xl2 xrt xlf xdc xhn xsu) dy) (some (vi (xdc (12 * a + 6 * c + d).toNat))) (Hp b s t mk df jo tr di (sgM 0 ln by9 dn ac bd pm pq tk fo f1 f2 xtp xwg xwh xmd xsl xhw xhs xhd xha xp1 xp2 xp3 xl1 xl2 xrt xlf xdc xhn xsu) dy) := by
  refine am_det (by decide +kernel) (Nat.le_of_ble_eq_true rfl) (fun Qr Qt hq => ?_)
  refine aw_blk (pc' := 2) (ls' := [some (vr 8 0), some (vi a), some (vi c), some (vi d)]) (st' := [vi a, vr 8 0]) [.inl (.aload_n 0), .inl (.iload_n 1)] 0 _ _ (by decide +kernel) rfl ?_
  refine aw_if_lt (o := 43) (tgt := 45) (by decide +kernel) (by decide) (by omega) (fun c => absurd c (by omega)) (fun _ => ?_)
  refine aw_blk (pc' := 10) (ls' := [some (vr 8 0), some (vi a), some (vi c), some (vi d)]) (st' := [vi fo, vi a, vr 8 0]) [.inl (.iload_n 1), .inl (.aload_n 0), .inr (204, 8, 28)] 5 _ _ (by decide +kernel) rfl ?_
  refine aw_icmp_ge (o := 35) (tgt := 45) (by decide +kernel) (by decide) (by omega) (by omega) (fun c => absurd c (by omega)) (fun _ => ?_)
  refine aw_blk (pc' := 14) (ls' := [some (vr 8 0), some (vi a), some (vi c), some (vi d)]) (st' := [vi c, vr 8 0]) [.inl (.iload_n 2)] 13 _ _ (by decide +kernel) rfl ?_
  refine aw_if_lt (o := 31) (tgt := 45) (by decide +kernel) (by decide) (by omega) (fun c => absurd c (by omega)) (fun _ => ?_)
  refine aw_blk (pc' := 19) (ls' := [some (vr 8 0), some (vi a), some (vi c), some (vi d)]) (st' := [vi 1, vi c, vr 8 0]) [.inl (.iload_n 2), .inl (.iconst 1)] 17 _ _ (by decide +kernel) rfl ?_
  refine aw_icmp_gt (o := 26) (tgt := 45) (by decide +kernel) (by decide) (by omega) (by omega) (fun c => absurd c (by omega)) (fun _ => ?_)
  refine aw_blk (pc' := 23) (ls' := [some (vr 8 0), some (vi a), some (vi c), some (vi d)]) (st' := [vi d, vr 8 0]) [.inl (.iload_n 3)] 22 _ _ (by decide +kernel) rfl ?_
  refine aw_if_lt (o := 22) (tgt := 45) (by decide +kernel) (by decide) (by omega) (fun c => absurd c (by omega)) (fun _ => ?_)
  refine aw_blk (pc' := 28) (ls' := [some (vr 8 0), some (vi a), some (vi c), some (vi d)]) (st' := [vi c, vi d, vr 8 0]) [.inl (.iload_n 3), .inl (.iload_n 2)] 26 _ _ (by decide +kernel) rfl ?_
  refine aw_if_ne (o := 10) (tgt := 38) (by decide +kernel) (by decide) (by omega) (fun c1 => ?_) (fun c1 => ?_)
  · refine aw_blk (pc' := 42) (ls' := [some (vr 8 0), some (vi a), some (vi c), some (vi d)]) (st' := [vi f2, vi d, vr 8 0]) [.inl (.aload_n 0), .inr (210, 8, 30)] 38 _ _ (by decide +kernel) rfl ?_
    refine aw_icmp_lt (o := 7) (tgt := 49) (by decide +kernel) (by decide) (by omega) (by omega) (fun _ => ?_) (fun c => absurd (by omega) c)
    refine aw_blk (pc' := 50) (ls' := [some (vr 8 0), some (vi a), some (vi c), some (vi d)]) (st' := [vi 0, vr 8 0]) [.inl (.iconst 0)] 49 _ _ (by decide +kernel) rfl ?_
    refine aw_dV (cs' := 0) (sl' := 0) (pc' := 53) (st' := [vi 0]) (idx := 140) (as := [vi 0]) (st := []) (m_M_throwsIf_0) (by decide +kernel) (show vOK "ChanceBenchModel" 140 M_M_throwsIf 1 = true by decide +kernel) rfl rfl rfl (Nat.le_of_ble_eq_true rfl) (by decide) (by decide) (by decide) rfl rfl rfl rfl ?_
    refine aw_if_eq (o := 5) (tgt := 58) (by decide +kernel) (by decide) (by omega) (fun _ => ?_) (fun c => absurd (by omega) c)
    refine aw_blk (pc' := 73) (ls' := [some (vr 8 0), some (vi a), some (vi c), some (vi d)]) (st' := [vi (((12 * a) + (6 * c)) + d), vr 8 17]) [.inl (.aload_n 0), .inr (70, 8, 25), .inl (.bipush 12), .inl (.iload_n 1), .inl (.imul), .inl (.bipush 6), .inl (.iload_n 2), .inl (.imul), .inl (.iadd), .inl (.iload_n 3), .inl (.iadd)] 58 _ _ (by decide +kernel) rfl ?_
    refine aw_iald (j := (12 * a + 6 * c + d).toNat) (by decide +kernel) rfl (by omega) (by omega) (fun r73 => ?_)
    exact aw_iret (by decide +kernel) rfl (by decide) (by decide) (hq _ _ rfl rfl)
  · refine aw_blk (pc' := 35) (ls' := [some (vr 8 0), some (vi a), some (vi c), some (vi d)]) (st' := [vi f1, vi d, vr 8 0]) [.inl (.aload_n 0), .inr (207, 8, 29)] 31 _ _ (by decide +kernel) rfl ?_
    refine aw_goto (o := 7) (tgt := 42) (by decide +kernel) (by decide) ?_
    refine aw_icmp_lt (o := 7) (tgt := 49) (by decide +kernel) (by decide) (by omega) (by omega) (fun _ => ?_) (fun c => absurd (by omega) c)
    refine aw_blk (pc' := 50) (ls' := [some (vr 8 0), some (vi a), some (vi c), some (vi d)]) (st' := [vi 0, vr 8 0]) [.inl (.iconst 0)] 49 _ _ (by decide +kernel) rfl ?_
    refine aw_dV (cs' := 0) (sl' := 0) (pc' := 53) (st' := [vi 0]) (idx := 140) (as := [vi 0]) (st := []) (m_M_throwsIf_0) (by decide +kernel) (show vOK "ChanceBenchModel" 140 M_M_throwsIf 1 = true by decide +kernel) rfl rfl rfl (Nat.le_of_ble_eq_true rfl) (by decide) (by decide) (by decide) rfl rfl rfl rfl ?_
    refine aw_if_eq (o := 5) (tgt := 58) (by decide +kernel) (by decide) (by omega) (fun _ => ?_) (fun c => absurd (by omega) c)
    refine aw_blk (pc' := 73) (ls' := [some (vr 8 0), some (vi a), some (vi c), some (vi d)]) (st' := [vi (((12 * a) + (6 * c)) + d), vr 8 17]) [.inl (.aload_n 0), .inr (70, 8, 25), .inl (.bipush 12), .inl (.iload_n 1), .inl (.imul), .inl (.bipush 6), .inl (.iload_n 2), .inl (.imul), .inl (.iadd), .inl (.iload_n 3), .inl (.iadd)] 58 _ _ (by decide +kernel) rfl ?_
    refine aw_iald (j := (12 * a + 6 * c + d).toNat) (by decide +kernel) rfl (by omega) (by omega) (fun r73 => ?_)
    exact aw_iret (by decide +kernel) rfl (by decide) (by decide) (hq _ _ rfl rfl)

theorem m_M_face_0 (hI : I32 a ∧ I32 c ∧ I32 d) (hF : (0 ≤ fo ∧ fo ≤ 252) ∧ (0 ≤ f1 ∧ f1 ≤ 6) ∧ 0 ≤ f2 ∧ f2 ≤ 6) (hf : ¬ ((0 ≤ a ∧ a < fo) ∧ 0 ≤ d ∧ ((c = 0 ∧ d < f1) ∨ (c = 1 ∧ d < f2)))) : ADet G M_M_face [vr 8 0, vi a, vi c, vi d] (Hp b s t mk df jo tr di (sgM th ln by9 dn ac bd pm pq tk fo f1 f2 xtp xwg xwh xmd xsl xhw xhs xhd xha xp1 xp2 xp3 xl1 xl2 xrt xlf xdc xhn xsu) dy) (some (vi 0)) (Hp b s t mk df jo tr di (sgM 1 ln by9 dn ac bd pm pq tk fo f1 f2 xtp xwg xwh xmd xsl xhw xhs xhd xha xp1 xp2 xp3 xl1 xl2 xrt xlf xdc xhn xsu) dy) := by
  refine am_det (by decide +kernel) (Nat.le_of_ble_eq_true rfl) (fun Qr Qt hq => ?_)
  refine aw_blk (pc' := 2) (ls' := [some (vr 8 0), some (vi a), some (vi c), some (vi d)]) (st' := [vi a, vr 8 0]) [.inl (.aload_n 0), .inl (.iload_n 1)] 0 _ _ (by decide +kernel) rfl ?_
  refine aw_if_lt (o := 43) (tgt := 45) (by decide +kernel) (by decide) (by omega) (fun c0 => ?_) (fun c0 => ?_)
  · refine aw_blk (pc' := 46) (ls' := [some (vr 8 0), some (vi a), some (vi c), some (vi d)]) (st' := [vi 1, vr 8 0]) [.inl (.iconst 1)] 45 _ _ (by decide +kernel) rfl ?_
    refine aw_goto (o := 4) (tgt := 50) (by decide +kernel) (by decide) ?_
    refine aw_dV (cs' := 0) (sl' := 0) (pc' := 53) (st' := [vi 1]) (idx := 140) (as := [vi 1]) (st := []) (m_M_throwsIf_1) (by decide +kernel) (show vOK "ChanceBenchModel" 140 M_M_throwsIf 1 = true by decide +kernel) rfl rfl rfl (Nat.le_of_ble_eq_true rfl) (by decide) (by decide) (by decide) rfl rfl rfl rfl ?_
    refine aw_if_eq (o := 5) (tgt := 58) (by decide +kernel) (by decide) (by omega) (fun c => absurd c (by omega)) (fun _ => ?_)
    refine aw_blk (pc' := 57) (ls' := [some (vr 8 0), some (vi a), some (vi c), some (vi d)]) (st' := [vi 0]) [.inl (.iconst 0)] 56 _ _ (by decide +kernel) rfl ?_
    exact aw_iret (by decide +kernel) rfl (by decide) (by decide) (hq _ _ rfl rfl)
  · refine aw_blk (pc' := 10) (ls' := [some (vr 8 0), some (vi a), some (vi c), some (vi d)]) (st' := [vi fo, vi a, vr 8 0]) [.inl (.iload_n 1), .inl (.aload_n 0), .inr (204, 8, 28)] 5 _ _ (by decide +kernel) rfl ?_
    refine aw_icmp_ge (o := 35) (tgt := 45) (by decide +kernel) (by decide) (by omega) (by omega) (fun c1 => ?_) (fun c1 => ?_)
    · refine aw_blk (pc' := 46) (ls' := [some (vr 8 0), some (vi a), some (vi c), some (vi d)]) (st' := [vi 1, vr 8 0]) [.inl (.iconst 1)] 45 _ _ (by decide +kernel) rfl ?_
      refine aw_goto (o := 4) (tgt := 50) (by decide +kernel) (by decide) ?_
      refine aw_dV (cs' := 0) (sl' := 0) (pc' := 53) (st' := [vi 1]) (idx := 140) (as := [vi 1]) (st := []) (m_M_throwsIf_1) (by decide +kernel) (show vOK "ChanceBenchModel" 140 M_M_throwsIf 1 = true by decide +kernel) rfl rfl rfl (Nat.le_of_ble_eq_true rfl) (by decide) (by decide) (by decide) rfl rfl rfl rfl ?_
      refine aw_if_eq (o := 5) (tgt := 58) (by decide +kernel) (by decide) (by omega) (fun c => absurd c (by omega)) (fun _ => ?_)
      refine aw_blk (pc' := 57) (ls' := [some (vr 8 0), some (vi a), some (vi c), some (vi d)]) (st' := [vi 0]) [.inl (.iconst 0)] 56 _ _ (by decide +kernel) rfl ?_
      exact aw_iret (by decide +kernel) rfl (by decide) (by decide) (hq _ _ rfl rfl)
    · refine aw_blk (pc' := 14) (ls' := [some (vr 8 0), some (vi a), some (vi c), some (vi d)]) (st' := [vi c, vr 8 0]) [.inl (.iload_n 2)] 13 _ _ (by decide +kernel) rfl ?_
      refine aw_if_lt (o := 31) (tgt := 45) (by decide +kernel) (by decide) (by omega) (fun c2 => ?_) (fun c2 => ?_)
      · refine aw_blk (pc' := 46) (ls' := [some (vr 8 0), some (vi a), some (vi c), some (vi d)]) (st' := [vi 1, vr 8 0]) [.inl (.iconst 1)] 45 _ _ (by decide +kernel) rfl ?_
        refine aw_goto (o := 4) (tgt := 50) (by decide +kernel) (by decide) ?_
        refine aw_dV (cs' := 0) (sl' := 0) (pc' := 53) (st' := [vi 1]) (idx := 140) (as := [vi 1]) (st := []) (m_M_throwsIf_1) (by decide +kernel) (show vOK "ChanceBenchModel" 140 M_M_throwsIf 1 = true by decide +kernel) rfl rfl rfl (Nat.le_of_ble_eq_true rfl) (by decide) (by decide) (by decide) rfl rfl rfl rfl ?_
        refine aw_if_eq (o := 5) (tgt := 58) (by decide +kernel) (by decide) (by omega) (fun c => absurd c (by omega)) (fun _ => ?_)
        refine aw_blk (pc' := 57) (ls' := [some (vr 8 0), some (vi a), some (vi c), some (vi d)]) (st' := [vi 0]) [.inl (.iconst 0)] 56 _ _ (by decide +kernel) rfl ?_
        exact aw_iret (by decide +kernel) rfl (by decide) (by decide) (hq _ _ rfl rfl)
      · refine aw_blk (pc' := 19) (ls' := [some (vr 8 0), some (vi a), some (vi c), some (vi d)]) (st' := [vi 1, vi c, vr 8 0]) [.inl (.iload_n 2), .inl (.iconst 1)] 17 _ _ (by decide +kernel) rfl ?_
        refine aw_icmp_gt (o := 26) (tgt := 45) (by decide +kernel) (by decide) (by omega) (by omega) (fun c3 => ?_) (fun c3 => ?_)
        · refine aw_blk (pc' := 46) (ls' := [some (vr 8 0), some (vi a), some (vi c), some (vi d)]) (st' := [vi 1, vr 8 0]) [.inl (.iconst 1)] 45 _ _ (by decide +kernel) rfl ?_
          refine aw_goto (o := 4) (tgt := 50) (by decide +kernel) (by decide) ?_
          refine aw_dV (cs' := 0) (sl' := 0) (pc' := 53) (st' := [vi 1]) (idx := 140) (as := [vi 1]) (st := []) (m_M_throwsIf_1) (by decide +kernel) (show vOK "ChanceBenchModel" 140 M_M_throwsIf 1 = true by decide +kernel) rfl rfl rfl (Nat.le_of_ble_eq_true rfl) (by decide) (by decide) (by decide) rfl rfl rfl rfl ?_
          refine aw_if_eq (o := 5) (tgt := 58) (by decide +kernel) (by decide) (by omega) (fun c => absurd c (by omega)) (fun _ => ?_)
          refine aw_blk (pc' := 57) (ls' := [some (vr 8 0), some (vi a), some (vi c), some (vi d)]) (st' := [vi 0]) [.inl (.iconst 0)] 56 _ _ (by decide +kernel) rfl ?_
          exact aw_iret (by decide +kernel) rfl (by decide) (by decide) (hq _ _ rfl rfl)
        · refine aw_blk (pc' := 23) (ls' := [some (vr 8 0), some (vi a), some (vi c), some (vi d)]) (st' := [vi d, vr 8 0]) [.inl (.iload_n 3)] 22 _ _ (by decide +kernel) rfl ?_
          refine aw_if_lt (o := 22) (tgt := 45) (by decide +kernel) (by decide) (by omega) (fun c4 => ?_) (fun c4 => ?_)
          · refine aw_blk (pc' := 46) (ls' := [some (vr 8 0), some (vi a), some (vi c), some (vi d)]) (st' := [vi 1, vr 8 0]) [.inl (.iconst 1)] 45 _ _ (by decide +kernel) rfl ?_
            refine aw_goto (o := 4) (tgt := 50) (by decide +kernel) (by decide) ?_
            refine aw_dV (cs' := 0) (sl' := 0) (pc' := 53) (st' := [vi 1]) (idx := 140) (as := [vi 1]) (st := []) (m_M_throwsIf_1) (by decide +kernel) (show vOK "ChanceBenchModel" 140 M_M_throwsIf 1 = true by decide +kernel) rfl rfl rfl (Nat.le_of_ble_eq_true rfl) (by decide) (by decide) (by decide) rfl rfl rfl rfl ?_
            refine aw_if_eq (o := 5) (tgt := 58) (by decide +kernel) (by decide) (by omega) (fun c => absurd c (by omega)) (fun _ => ?_)
            refine aw_blk (pc' := 57) (ls' := [some (vr 8 0), some (vi a), some (vi c), some (vi d)]) (st' := [vi 0]) [.inl (.iconst 0)] 56 _ _ (by decide +kernel) rfl ?_
            exact aw_iret (by decide +kernel) rfl (by decide) (by decide) (hq _ _ rfl rfl)
          · refine aw_blk (pc' := 28) (ls' := [some (vr 8 0), some (vi a), some (vi c), some (vi d)]) (st' := [vi c, vi d, vr 8 0]) [.inl (.iload_n 3), .inl (.iload_n 2)] 26 _ _ (by decide +kernel) rfl ?_
            refine aw_if_ne (o := 10) (tgt := 38) (by decide +kernel) (by decide) (by omega) (fun c5 => ?_) (fun c5 => ?_)
            · refine aw_blk (pc' := 42) (ls' := [some (vr 8 0), some (vi a), some (vi c), some (vi d)]) (st' := [vi f2, vi d, vr 8 0]) [.inl (.aload_n 0), .inr (210, 8, 30)] 38 _ _ (by decide +kernel) rfl ?_
              refine aw_icmp_lt (o := 7) (tgt := 49) (by decide +kernel) (by decide) (by omega) (by omega) (fun c6 => ?_) (fun c6 => ?_)
              · exact absurd ⟨⟨by omega, by omega⟩, by omega, by omega⟩ hf
              · refine aw_blk (pc' := 46) (ls' := [some (vr 8 0), some (vi a), some (vi c), some (vi d)]) (st' := [vi 1, vr 8 0]) [.inl (.iconst 1)] 45 _ _ (by decide +kernel) rfl ?_
                refine aw_goto (o := 4) (tgt := 50) (by decide +kernel) (by decide) ?_
                refine aw_dV (cs' := 0) (sl' := 0) (pc' := 53) (st' := [vi 1]) (idx := 140) (as := [vi 1]) (st := []) (m_M_throwsIf_1) (by decide +kernel) (show vOK "ChanceBenchModel" 140 M_M_throwsIf 1 = true by decide +kernel) rfl rfl rfl (Nat.le_of_ble_eq_true rfl) (by decide) (by decide) (by decide) rfl rfl rfl rfl ?_
                refine aw_if_eq (o := 5) (tgt := 58) (by decide +kernel) (by decide) (by omega) (fun c => absurd c (by omega)) (fun _ => ?_)
                refine aw_blk (pc' := 57) (ls' := [some (vr 8 0), some (vi a), some (vi c), some (vi d)]) (st' := [vi 0]) [.inl (.iconst 0)] 56 _ _ (by decide +kernel) rfl ?_
                exact aw_iret (by decide +kernel) rfl (by decide) (by decide) (hq _ _ rfl rfl)
            · refine aw_blk (pc' := 35) (ls' := [some (vr 8 0), some (vi a), some (vi c), some (vi d)]) (st' := [vi f1, vi d, vr 8 0]) [.inl (.aload_n 0), .inr (207, 8, 29)] 31 _ _ (by decide +kernel) rfl ?_
              refine aw_goto (o := 7) (tgt := 42) (by decide +kernel) (by decide) ?_
              refine aw_icmp_lt (o := 7) (tgt := 49) (by decide +kernel) (by decide) (by omega) (by omega) (fun c6 => ?_) (fun c6 => ?_)
              · exact absurd ⟨⟨by omega, by omega⟩, by omega, by omega⟩ hf
              · refine aw_blk (pc' := 46) (ls' := [some (vr 8 0), some (vi a), some (vi c), some (vi d)]) (st' := [vi 1, vr 8 0]) [.inl (.iconst 1)] 45 _ _ (by decide +kernel) rfl ?_
                refine aw_goto (o := 4) (tgt := 50) (by decide +kernel) (by decide) ?_
                refine aw_dV (cs' := 0) (sl' := 0) (pc' := 53) (st' := [vi 1]) (idx := 140) (as := [vi 1]) (st := []) (m_M_throwsIf_1) (by decide +kernel) (show vOK "ChanceBenchModel" 140 M_M_throwsIf 1 = true by decide +kernel) rfl rfl rfl (Nat.le_of_ble_eq_true rfl) (by decide) (by decide) (by decide) rfl rfl rfl rfl ?_
                refine aw_if_eq (o := 5) (tgt := 58) (by decide +kernel) (by decide) (by omega) (fun c => absurd c (by omega)) (fun _ => ?_)
                refine aw_blk (pc' := 57) (ls' := [some (vr 8 0), some (vi a), some (vi c), some (vi d)]) (st' := [vi 0]) [.inl (.iconst 0)] 56 _ _ (by decide +kernel) rfl ?_
                exact aw_iret (by decide +kernel) rfl (by decide) (by decide) (hq _ _ rfl rfl)

end
