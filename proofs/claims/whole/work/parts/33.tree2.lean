theorem nw_len : ∀ (N : Nat) (A B : List (Int × Int)), A.length + B.length ≤ N → (nw A B).length ≤ A.length + B.length
  | 0, A, B, h => by
    have : A = [] := List.length_eq_zero_iff.mp (by omega)
    subst this; simp [nw]
  | N + 1, [], B, h => by simp [nw]
  | N + 1, a :: A, [], h => by simp [nw]
  | N + 1, (v, x) :: A, (w, y) :: B, h => by
    rw [nw]
    simp only [List.length_cons] at h
    split
    · have := nw_len N A ((w, y - x) :: B) (by simp only [List.length_cons]; omega)
      simp only [List.length_cons, List.length_append] at this ⊢
      split <;> simp <;> omega
    · have := nw_len N ((v, x - y) :: A) B (by simp only [List.length_cons]; omega)
      simp only [List.length_cons, List.length_append] at this ⊢
      split <;> simp <;> omega
theorem tab_len (f g : Nat → Int) : ∀ (d i : Nat), (tab f g i d).length = d
  | 0, _ => rfl
  | d + 1, i => by simp only [tab, List.length_cons]; rw [tab_len f g d]
theorem jn_len {n m : Nat} {at_ wt at2 wt2 : Nat → Int} {W W2 : Int} {lk : Bool} (hn : n ≤ 24) (hm : m ≤ 24) : (jn n m at_ wt at2 wt2 W W2 lk).length ≤ 72 := by
  unfold jn
  split
  · have a := lkL_len at_ wt at2 wt2 m W W2 n
    have b := nw_len _ (tab at_ (lfA at_ wt at2 wt2 m W W2 n) 0 n) (tab at2 (lfB at_ wt at2 wt2 W W2 n) 0 m) (Nat.le_refl _)
    rw [tab_len, tab_len] at b
    rw [List.length_append]; omega
  · have b := nw_len _ (tab at_ (fun k => wt k * W2) 0 n) (tab at2 (fun k => wt2 k * W) 0 m) (Nat.le_refl _)
    rw [tab_len, tab_len] at b
    omega
section
variable {G : GT} {h : HT} {b s t mk df jo tr di mo dy : SG} {a c d e B bd tk : Int} {n m k k1 k2 q q1 q2 j nn len : Nat} {f g ff gg ft at_ wt at2 wt2 : Nat → Int} {rf rr W W2 : Int} {T : Int → Int} {by_ : Prop} {laws ahead made : Nat → Option (Nat × Nat)} {slot : Nat → Int} {od dn un : Nat}
variable {fa fb fw fl sl_ : Nat → Int} {wh z0 : Int} {sz : Nat} {js : List T3}
theorem m_B_joint_2 (hI : I32 e ∧ I32 c ∧ I32 d) (h2 : ¬ (0 ≤ d ∧ d ≤ 1)) (hl1 : lawAt laws e = some (9, k)) (hl2 : lawAt laws c = some (9, q)) : ADet G M_B_joint [vr 0 0, vi e, vi c, vi d] (Hp (sgB bd tk) (sgS laws slot ahead made (od : Int) (dn : Int) (un : Int)) t (sgK (nn : Int) rr ff gg) df jo tr di mo dy) (some (vi (-1))) (Hp (sgB bd tk) (sgS laws slot ahead made (od : Int) (dn : Int) (un : Int)) t (sgK (nn : Int) rr ff gg) df jo tr di mo dy) := by
  refine am_det (by decide +kernel) (Nat.le_of_ble_eq_true rfl) (fun Qr Qt hq => ?_)
  refine aw_blk (pc' := 5) (ls' := [some (vr 0 0), some (vi e), some (vi c), some (vi d), none, none]) (st' := [vi e, vr 1 0]) [.inl (.aload_n 0), .inr (10, 0, 0), .inl (.iload_n 1)] 0 _ _ (by decide +kernel) rfl ?_
  refine aw_dV (cs' := 0) (sl' := 0) (pc' := 8) (st' := [vo (lawAt laws e)]) (idx := 117) (as := [vi e]) (st := []) (m_S_lawIn hI.1) (by decide +kernel) (show vOK "ChanceBench" 117 M_S_lawIn 1 = true by decide +kernel) rfl rfl rfl (Nat.le_of_ble_eq_true rfl) (by decide) (by decide) (by decide) rfl rfl rfl rfl ?_
  rw [hl1]
  refine aw_blk (pc' := 15) (ls' := [some (vr 0 0), some (vi e), some (vi c), some (vi d), some (vr 9 k), none]) (st' := [vi c, vr 1 0]) [.inl (.astore 4), .inl (.aload_n 0), .inr (10, 0, 0), .inl (.iload_n 2)] 8 _ _ (by decide +kernel) rfl ?_
  refine aw_dV (cs' := 0) (sl' := 0) (pc' := 18) (st' := [vo (lawAt laws c)]) (idx := 117) (as := [vi c]) (st := []) (m_S_lawIn hI.2.1) (by decide +kernel) (show vOK "ChanceBench" 117 M_S_lawIn 1 = true by decide +kernel) rfl rfl rfl (Nat.le_of_ble_eq_true rfl) (by decide) (by decide) (by decide) rfl rfl rfl rfl ?_
  rw [hl2]
  refine aw_blk (pc' := 22) (ls' := [some (vr 0 0), some (vi e), some (vi c), some (vi d), some (vr 9 k), some (vr 9 q)]) (st' := [vr 9 k]) [.inl (.astore 5), .inl (.aload 4)] 18 _ _ (by decide +kernel) rfl ?_
  refine aw_ifnull (o := 17) (tgt := 39) (by decide +kernel) (by decide) (fun z => nomatch z) (fun _ _ => ?_)
  refine aw_blk (pc' := 27) (ls' := [some (vr 0 0), some (vi e), some (vi c), some (vi d), some (vr 9 k), some (vr 9 q)]) (st' := [vr 9 q]) [.inl (.aload 5)] 25 _ _ (by decide +kernel) rfl ?_
  refine aw_ifnull (o := 12) (tgt := 39) (by decide +kernel) (by decide) (fun z => nomatch z) (fun _ _ => ?_)
  refine aw_blk (pc' := 33) (ls' := [some (vr 0 0), some (vi e), some (vi c), some (vi d), some (vr 9 k), some (vr 9 q)]) (st' := [vi 1, vi 0, vi d]) [.inl (.iload_n 3), .inl (.iconst 0), .inl (.iconst 1)] 30 _ _ (by decide +kernel) rfl ?_
  refine aw_dS (cs' := 0) (sl' := 0) (pc' := 36) (st' := [vi (if 0 ≤ d ∧ d ≤ 1 then 1 else 0)]) (idx := 98) (as := [vi d, vi 0, vi 1]) (st := []) (m_B_isWithin hI.2.2 (by omega) (by omega)) (by decide +kernel) (show sOK "ChanceBench" 98 M_B_isWithin 3 = true by decide +kernel) rfl (Nat.le_of_ble_eq_true rfl) (by decide) (by decide) (by decide) rfl rfl rfl rfl ?_
  rw [if_neg h2]
  refine aw_if_ne (o := 5) (tgt := 41) (by decide +kernel) (by decide) (by omega) (fun c => absurd (by omega) c) (fun _ => ?_)
  refine aw_blk (pc' := 40) (ls' := [some (vr 0 0), some (vi e), some (vi c), some (vi d), some (vr 9 k), some (vr 9 q)]) (st' := [vi (-1)]) [.inl (.iconst (-1))] 39 _ _ (by decide +kernel) rfl ?_
  exact aw_iret (by decide +kernel) rfl (by decide) (by decide) (hq _ _ rfl rfl)

theorem m_B_joint (hI : I32 e ∧ I32 c ∧ I32 d) (h2 : 0 ≤ d ∧ d ≤ 1) (hl1 : lawAt laws e = some (9, k)) (hl2 : lawAt laws c = some (9, q)) (hA : isD dy k k1 k2 n at_ wt W) (A : lwN n at_ wt W) (hA2 : isD dy q q1 q2 m at2 wt2 W2) (A2 : lwN m at2 wt2 W2) : AMet G M_B_joint [vr 0 0, vi e, vi c, vi d] (Hp (sgB bd tk) (sgS laws slot ahead made (od : Int) (dn : Int) (un : Int)) t (sgK (nn : Int) rr ff gg) df (sgJ z0 wh fa fb fw fl sl_) tr di mo dy) (fun r h => ∃ fa fb fw fl sl_, jr fa fb fw (jn n m at_ wt at2 wt2 W W2 (decide (d = 0))) ∧ r = some (vi ((jn n m at_ wt at2 wt2 W W2 (decide (d = 0))).length : Int)) ∧ h = Hp (sgB bd tk) (sgS laws slot ahead made (od : Int) (dn : Int) (un : Int)) t (sgK (nn : Int) rr ff gg) df (sgJ ((jn n m at_ wt at2 wt2 W W2 (decide (d = 0))).length : Int) (W * W2) fa fb fw fl sl_) tr di mo dy) (fun _ => False) := by
  refine am_rel (by decide +kernel) (Nat.le_of_ble_eq_true rfl) (fun Qr Qt hq => ?_)
  refine aw_blk (pc' := 5) (ls' := [some (vr 0 0), some (vi e), some (vi c), some (vi d), none, none]) (st' := [vi e, vr 1 0]) [.inl (.aload_n 0), .inr (10, 0, 0), .inl (.iload_n 1)] 0 _ _ (by decide +kernel) rfl ?_
  refine aw_dV (cs' := 0) (sl' := 0) (pc' := 8) (st' := [vo (lawAt laws e)]) (idx := 117) (as := [vi e]) (st := []) (m_S_lawIn hI.1) (by decide +kernel) (show vOK "ChanceBench" 117 M_S_lawIn 1 = true by decide +kernel) rfl rfl rfl (Nat.le_of_ble_eq_true rfl) (by decide) (by decide) (by decide) rfl rfl rfl rfl ?_
  rw [hl1]
  refine aw_blk (pc' := 15) (ls' := [some (vr 0 0), some (vi e), some (vi c), some (vi d), some (vr 9 k), none]) (st' := [vi c, vr 1 0]) [.inl (.astore 4), .inl (.aload_n 0), .inr (10, 0, 0), .inl (.iload_n 2)] 8 _ _ (by decide +kernel) rfl ?_
  refine aw_dV (cs' := 0) (sl' := 0) (pc' := 18) (st' := [vo (lawAt laws c)]) (idx := 117) (as := [vi c]) (st := []) (m_S_lawIn hI.2.1) (by decide +kernel) (show vOK "ChanceBench" 117 M_S_lawIn 1 = true by decide +kernel) rfl rfl rfl (Nat.le_of_ble_eq_true rfl) (by decide) (by decide) (by decide) rfl rfl rfl rfl ?_
  rw [hl2]
  refine aw_blk (pc' := 22) (ls' := [some (vr 0 0), some (vi e), some (vi c), some (vi d), some (vr 9 k), some (vr 9 q)]) (st' := [vr 9 k]) [.inl (.astore 5), .inl (.aload 4)] 18 _ _ (by decide +kernel) rfl ?_
  refine aw_ifnull (o := 17) (tgt := 39) (by decide +kernel) (by decide) (fun z => nomatch z) (fun _ _ => ?_)
  refine aw_blk (pc' := 27) (ls' := [some (vr 0 0), some (vi e), some (vi c), some (vi d), some (vr 9 k), some (vr 9 q)]) (st' := [vr 9 q]) [.inl (.aload 5)] 25 _ _ (by decide +kernel) rfl ?_
  refine aw_ifnull (o := 12) (tgt := 39) (by decide +kernel) (by decide) (fun z => nomatch z) (fun _ _ => ?_)
  refine aw_blk (pc' := 33) (ls' := [some (vr 0 0), some (vi e), some (vi c), some (vi d), some (vr 9 k), some (vr 9 q)]) (st' := [vi 1, vi 0, vi d]) [.inl (.iload_n 3), .inl (.iconst 0), .inl (.iconst 1)] 30 _ _ (by decide +kernel) rfl ?_
  refine aw_dS (cs' := 0) (sl' := 0) (pc' := 36) (st' := [vi (if 0 ≤ d ∧ d ≤ 1 then 1 else 0)]) (idx := 98) (as := [vi d, vi 0, vi 1]) (st := []) (m_B_isWithin hI.2.2 (by omega) (by omega)) (by decide +kernel) (show sOK "ChanceBench" 98 M_B_isWithin 3 = true by decide +kernel) rfl (Nat.le_of_ble_eq_true rfl) (by decide) (by decide) (by decide) rfl rfl rfl rfl ?_
  rw [if_pos h2]
  refine aw_if_ne (o := 5) (tgt := 41) (by decide +kernel) (by decide) (by omega) (fun _ => ?_) (fun c => absurd c (by omega))
  refine aw_blk (pc' := 50) (ls' := [some (vr 0 0), some (vi e), some (vi c), some (vi d), some (vr 9 k), some (vr 9 q)]) (st' := [vi d, vr 9 q, vr 9 k, vr 5 0]) [.inl (.aload_n 0), .inr (40, 0, 4), .inl (.aload 4), .inl (.aload 5), .inl (.iload_n 3)] 41 _ _ (by decide +kernel) rfl ?_
  refine aw_if_ne (o := 7) (tgt := 57) (by decide +kernel) (by decide) (by omega) (fun c50 => ?_) (fun c50 => ?_)
  · refine aw_blk (pc' := 58) (ls' := [some (vr 0 0), some (vi e), some (vi c), some (vi d), some (vr 9 k), some (vr 9 q)]) (st' := [vi 0, vr 9 q, vr 9 k, vr 5 0]) [.inl (.iconst 0)] 57 _ _ (by decide +kernel) rfl ?_
    refine aw_rV (cs' := 0) (sl' := 0) (pc' := 61) (idx := 195) (as := [vr 9 k, vr 9 q, vi 0]) (st := []) (m_J_make_0 hA hA2 A A2) (by decide +kernel) (show vOK "ChanceBench" 195 M_J_make 3 = true by decide +kernel) rfl rfl rfl (Nat.le_of_ble_eq_true rfl) (by decide) (by decide) (by decide) rfl rfl rfl (fun r58 h58 z58 => ?_)
    obtain ⟨rfl, fa2, fb2, fw2, fl2, sl2, hj, rfl⟩ := z58
    refine aw_blk (pc' := 65) (ls' := [some (vr 0 0), some (vi e), some (vi c), some (vi d), some (vr 9 k), some (vr 9 q)]) (st' := [vr 5 0]) [.inl (.aload_n 0), .inr (40, 0, 4)] 61 _ _ (by decide +kernel) rfl ?_
    refine aw_dV (cs' := 0) (sl' := 0) (pc' := 68) (st' := [vi ((jn n m at_ wt at2 wt2 W W2 false).length : Int)]) (idx := 199) (as := []) (st := []) (m_J_size) (by decide +kernel) (show vOK "ChanceBench" 199 M_J_size 0 = true by decide +kernel) rfl rfl rfl (Nat.le_of_ble_eq_true rfl) (by decide) (by decide) (by decide) rfl rfl rfl rfl ?_
    have ed : (decide (d = 0)) = false := by exact decide_eq_false (by omega)
    exact aw_iret (by decide +kernel) rfl (by decide) (by decide) (hq _ _ ⟨fa2, fb2, fw2, fl2, sl2, by rw [ed]; exact hj, by rw [ed], by rw [ed]⟩)
  · refine aw_blk (pc' := 54) (ls' := [some (vr 0 0), some (vi e), some (vi c), some (vi d), some (vr 9 k), some (vr 9 q)]) (st' := [vi 1, vr 9 q, vr 9 k, vr 5 0]) [.inl (.iconst 1)] 53 _ _ (by decide +kernel) rfl ?_
    refine aw_goto (o := 4) (tgt := 58) (by decide +kernel) (by decide) ?_
    refine aw_rV (cs' := 0) (sl' := 0) (pc' := 61) (idx := 195) (as := [vr 9 k, vr 9 q, vi 1]) (st := []) (m_J_make_1 hA hA2 A A2) (by decide +kernel) (show vOK "ChanceBench" 195 M_J_make 3 = true by decide +kernel) rfl rfl rfl (Nat.le_of_ble_eq_true rfl) (by decide) (by decide) (by decide) rfl rfl rfl (fun r58 h58 z58 => ?_)
    obtain ⟨rfl, fa2, fb2, fw2, fl2, sl2, hj, rfl⟩ := z58
    refine aw_blk (pc' := 65) (ls' := [some (vr 0 0), some (vi e), some (vi c), some (vi d), some (vr 9 k), some (vr 9 q)]) (st' := [vr 5 0]) [.inl (.aload_n 0), .inr (40, 0, 4)] 61 _ _ (by decide +kernel) rfl ?_
    refine aw_dV (cs' := 0) (sl' := 0) (pc' := 68) (st' := [vi ((jn n m at_ wt at2 wt2 W W2 true).length : Int)]) (idx := 199) (as := []) (st := []) (m_J_size) (by decide +kernel) (show vOK "ChanceBench" 199 M_J_size 0 = true by decide +kernel) rfl rfl rfl (Nat.le_of_ble_eq_true rfl) (by decide) (by decide) (by decide) rfl rfl rfl rfl ?_
    have ed : (decide (d = 0)) = true := by exact decide_eq_true (by omega)
    exact aw_iret (by decide +kernel) rfl (by decide) (by decide) (hq _ _ ⟨fa2, fb2, fw2, fl2, sl2, by rw [ed]; exact hj, by rw [ed], by rw [ed]⟩)

def fdL (v w : Int) : List T3 → Int
  | [] => 0
  | x :: js => if x.1 = v ∧ x.2.1 = w then x.2.2 else fdL v w js
theorem fnd_L {v w : Int} : ∀ (js : List T3) (k : Nat), (∀ (i : Nat) (x : T3), js[i]? = some x → fa (k + i) = x.1 ∧ fb (k + i) = x.2.1 ∧ fw (k + i) = x.2.2) → fnd fa fb fw v w js.length k = fdL v w js
  | [], k, _ => rfl
  | x :: js, k, h => by
    have h0 := h 0 x rfl
    simp only [Nat.add_zero] at h0
    simp only [List.length_cons, fnd, fdL]
    rw [h0.1, h0.2.1, h0.2.2, fnd_L js (k + 1) (fun i y hy => by have := h (i + 1) y hy; rw [show k + 1 + i = k + (i + 1) by omega]; exact this)]
theorem fnd_js {v w : Int} (h : jr fa fb fw js) : fnd fa fb fw v w js.length 0 = fdL v w js := fnd_L js 0 (fun i x hx => by rw [Nat.zero_add]; exact h i x hx)
theorem m_B_pair (ha : I32 a) (hc : I32 c) (hz : js.length ≤ 72) (hj : jr fa fb fw js) (hJ : J64 (fdL a c js)) (hJ2 : J64 wh) (hd1 : d = 0 ∨ d = 1) : ADet G M_B_pair [vr 0 0, vi a, vi c, vi d] (Hp (sgB bd tk) (sgS laws slot ahead made (od : Int) (dn : Int) (un : Int)) t (sgK (nn : Int) rr ff gg) df (sgJ (js.length : Int) wh fa fb fw fl sl_) tr di mo dy) (some (vl (prt (fdL a c js) wh d))) (Hp (sgB bd tk) (sgS laws slot ahead made (od : Int) (dn : Int) (un : Int)) t (sgK (nn : Int) rr ff gg) df (sgJ (js.length : Int) wh fa fb fw fl sl_) tr di mo dy) := by
  refine am_det (by decide +kernel) (Nat.le_of_ble_eq_true rfl) (fun Qr Qt hq => ?_)
  refine aw_blk (pc' := 6) (ls' := [some (vr 0 0), some (vi a), some (vi c), some (vi d)]) (st' := [vi c, vi a, vr 5 0]) [.inl (.aload_n 0), .inr (40, 0, 4), .inl (.iload_n 1), .inl (.iload_n 2)] 0 _ _ (by decide +kernel) rfl ?_
  refine aw_dV (cs' := 0) (sl' := 0) (pc' := 9) (st' := [vl (fnd fa fb fw a c js.length 0)]) (idx := 201) (as := [vi a, vi c]) (st := []) (m_J_weightOf hz ha hc) (by decide +kernel) (show vOK "ChanceBench" 201 M_J_weightOf 2 = true by decide +kernel) rfl rfl rfl (Nat.le_of_ble_eq_true rfl) (by decide) (by decide) (by decide) rfl rfl rfl rfl ?_
  rw [fnd_js hj]
  refine aw_blk (pc' := 13) (ls' := [some (vr 0 0), some (vi a), some (vi c), some (vi d)]) (st' := [vr 5 0, vl (fdL a c js)]) [.inl (.aload_n 0), .inr (40, 0, 4)] 9 _ _ (by decide +kernel) rfl ?_
  refine aw_dV (cs' := 0) (sl' := 0) (pc' := 16) (st' := [vl wh, vl (fdL a c js)]) (idx := 204) (as := []) (st := [vl (fdL a c js)]) (m_J_whole) (by decide +kernel) (show vOK "ChanceBench" 204 M_J_whole 0 = true by decide +kernel) rfl rfl rfl (Nat.le_of_ble_eq_true rfl) (by decide) (by decide) (by decide) rfl rfl rfl rfl ?_
  refine aw_blk (pc' := 17) (ls' := [some (vr 0 0), some (vi a), some (vi c), some (vi d)]) (st' := [vi d, vl wh, vl (fdL a c js)]) [.inl (.iload_n 3)] 16 _ _ (by decide +kernel) rfl ?_
  refine aw_dS (cs' := 1) (sl' := 6) (pc' := 20) (st' := [vl (prt (fdL a c js) wh d)]) (idx := 152) (as := [vl (fdL a c js), vl wh, vi d]) (st := []) (m_B_part hJ hJ2 hd1) (by decide +kernel) (show sOK "ChanceBench" 152 M_B_part 3 = true by decide +kernel) rfl (Nat.le_of_ble_eq_true rfl) (by decide) (by decide) (by decide) rfl rfl rfl rfl ?_
  exact aw_lret (by decide +kernel) rfl (by decide) (by decide) (hq _ _ rfl rfl)

theorem m_B_pair_t (ha : I32 a) (hc : I32 c) (hz : js.length ≤ 72) (hj : jr fa fb fw js) (hi : I32 d) (hd1 : ¬ (d = 0 ∨ d = 1)) : AThr G M_B_pair [vr 0 0, vi a, vi c, vi d] (Hp (sgB bd tk) (sgS laws slot ahead made (od : Int) (dn : Int) (un : Int)) t (sgK (nn : Int) rr ff gg) df (sgJ (js.length : Int) wh fa fb fw fl sl_) tr di mo dy) := by
  refine am_thr (by decide +kernel) (Nat.le_of_ble_eq_true rfl) (fun Qr Qt hq => ?_)
  refine aw_blk (pc' := 6) (ls' := [some (vr 0 0), some (vi a), some (vi c), some (vi d)]) (st' := [vi c, vi a, vr 5 0]) [.inl (.aload_n 0), .inr (40, 0, 4), .inl (.iload_n 1), .inl (.iload_n 2)] 0 _ _ (by decide +kernel) rfl ?_
  refine aw_dV (cs' := 0) (sl' := 0) (pc' := 9) (st' := [vl (fnd fa fb fw a c js.length 0)]) (idx := 201) (as := [vi a, vi c]) (st := []) (m_J_weightOf hz ha hc) (by decide +kernel) (show vOK "ChanceBench" 201 M_J_weightOf 2 = true by decide +kernel) rfl rfl rfl (Nat.le_of_ble_eq_true rfl) (by decide) (by decide) (by decide) rfl rfl rfl rfl ?_
  rw [fnd_js hj]
  refine aw_blk (pc' := 13) (ls' := [some (vr 0 0), some (vi a), some (vi c), some (vi d)]) (st' := [vr 5 0, vl (fdL a c js)]) [.inl (.aload_n 0), .inr (40, 0, 4)] 9 _ _ (by decide +kernel) rfl ?_
  refine aw_dV (cs' := 0) (sl' := 0) (pc' := 16) (st' := [vl wh, vl (fdL a c js)]) (idx := 204) (as := []) (st := [vl (fdL a c js)]) (m_J_whole) (by decide +kernel) (show vOK "ChanceBench" 204 M_J_whole 0 = true by decide +kernel) rfl rfl rfl (Nat.le_of_ble_eq_true rfl) (by decide) (by decide) (by decide) rfl rfl rfl rfl ?_
  refine aw_blk (pc' := 17) (ls' := [some (vr 0 0), some (vi a), some (vi c), some (vi d)]) (st' := [vi d, vl wh, vl (fdL a c js)]) [.inl (.iload_n 3)] 16 _ _ (by decide +kernel) rfl ?_
  exact aw_tS (idx := 152) (as := [vl (fdL a c js), vl wh, vi d]) (st := []) (m_B_part_t hi (by omega) (by omega)) (by decide +kernel) (show sOK "ChanceBench" 152 M_B_part 3 = true by decide +kernel) rfl (Nat.le_of_ble_eq_true rfl) (by decide) (by decide) (by decide) hq

def rT (W : Int) (wt : Nat → Int) : Nat → Nat → Int
  | 0, i => rsd W (1 * wt i)
  | k + 1, i => rsd W (2 * rT W wt k i)
def dT (W : Int) (wt : Nat → Int) : Nat → Nat → Int
  | 0, i => dg W (1 * wt i)
  | k + 1, i => dg W (2 * rT W wt k i)
def lT (n : Nat) (W : Int) (wt : Nat → Int) (k : Nat) : Int := sumZ (dT W wt k) n
def oT (n : Nat) (W : Int) (wt : Nat → Int) : Nat → Int
  | 0 => 1 - lT n W wt 0
  | k + 1 => 2 * oT n W wt k - lT n W wt (k + 1)
def trS (n : Nat) (W : Int) (wt : Nat → Int) (k : Nat) (r dd : Nat → Int) : Prop := ∀ i, i < n → r i = rT W wt k i ∧ dd i = dT W wt k i
theorem rT_in (A : lwN n at_ wt W) {i : Nat} (hi : i < n) : ∀ k, 0 ≤ rT W wt k i ∧ rT W wt k i < W
  | 0 => by have h := A.2.2.1 i hi; simp only [rT, rsd, dg]; split <;> omega
  | k + 1 => by have h := rT_in A hi k; simp only [rT, rsd, dg]; split <;> omega
theorem oT_W (A : lwN n at_ wt W) : ∀ k, oT n W wt k * W = sumZ (rT W wt k) n
  | 0 => by
    have e : sumZ (rT W wt 0) n = sumZ (fun i => wt i - W * dT W wt 0 i) n := sumZ_ext (fun i _ => by simp only [rT, dT, rsd]; rw [Int.mul_comm W]; omega)
    rw [e, sumZ_sub, sumZ_mul, ← A.2.2.2.2.2]
    simp only [oT, lT]
    rw [Int.sub_mul, Int.mul_comm (sumZ (dT W wt 0) n)]; omega
  | k + 1 => by
    have e : sumZ (rT W wt (k + 1)) n = sumZ (fun i => 2 * rT W wt k i - W * dT W wt (k + 1) i) n := sumZ_ext (fun i _ => by simp only [rT, dT, rsd]; rw [Int.mul_comm W])
    rw [e, sumZ_sub, sumZ_mul, sumZ_mul, ← oT_W A k]
    simp only [oT, lT]
    rw [Int.sub_mul, Int.mul_comm (sumZ (dT W wt (k + 1)) n), Int.mul_assoc]
theorem oT_in (A : lwN n at_ wt W) (k : Nat) : 0 ≤ oT n W wt k ∧ oT n W wt k < 24 := by
  have e := oT_W A k
  have h0 := sumZ_nn (n := n) (g := rT W wt k) (fun i hi => (rT_in A hi k).1) n (Nat.le_refl n)
  have hn := A.1
  have hW := A.2.2.2.1
  have h1 : sumZ (rT W wt k) n < (n : Int) * W := by
    have : ∀ m, m ≤ n → 1 ≤ m → sumZ (rT W wt k) m < (m : Int) * W := by
      intro m
      induction m with
      | zero => intro _ h; omega
      | succ m ih =>
        intro h _
        have h2 := rT_in A (i := m) (by omega) k
        simp only [sumZ]
        rw [show ((m + 1 : Nat) : Int) = (m : Int) + 1 by omega, Int.add_mul]
        rcases Nat.eq_zero_or_pos m with z | z
        · subst z; simp [sumZ]; omega
        · have := ih (by omega) z; omega
    exact this n (Nat.le_refl n) (by omega)
  constructor
  · rcases Int.lt_or_le (oT n W wt k) 0 with z | z
    · have := Int.mul_neg_of_neg_of_pos z (show 0 < W by omega); omega
    · exact z
  · rcases Int.lt_or_le (oT n W wt k) 24 with z | z
    · exact z
    · have a := Int.mul_le_mul_of_nonneg_right z (show 0 ≤ W by omega)
      have b := Int.mul_le_mul_of_nonneg_right (show (n : Int) ≤ 24 by omega) (show 0 ≤ W by omega)
      omega
theorem lT_in (n : Nat) (W : Int) (wt : Nat → Int) (k : Nat) : 0 ≤ lT n W wt k ∧ lT n W wt k ≤ (n : Int) := by
  unfold lT
  have h : ∀ i, 0 ≤ dT W wt k i ∧ dT W wt k i ≤ 1 := fun i => by cases k <;> exact dg_in _ _
  have : ∀ m : Nat, 0 ≤ sumZ (dT W wt k) m ∧ sumZ (dT W wt k) m ≤ (m : Int) := fun m => by
    induction m with
    | zero => simp [sumZ]
    | succ m ih => have := h m; simp only [sumZ]; omega
  exact this n
variable {r dd : Nat → Int} {lv op W0 l9 : Int}
theorem m_R_plantR (hA : isD dy k k1 k2 n at_ wt W) (A : lwN n at_ wt W) : AMet G M_R_plant [vr 6 0, vr 9 k] (Hp b s t mk df jo (sgR l9 W0 lv op r dd) di mo dy) (fun x h => x = none ∧ ∃ r dd, trS n W wt 0 r dd ∧ h = Hp b s t mk df jo (sgR (n : Int) W (lT n W wt 0) (oT n W wt 0) r dd) di mo dy) (fun _ => False) := by
  have e : spL W 1 (mp wt r n) n = lT n W wt 0 := sumZ_ext (fun i hi => by show dg W (1 * mp wt r n i) = dg W (1 * wt i); rw [mp_lt hi])
  refine am_mono (m_R_plant hA A) (fun x h z => ⟨z.1, spR W 1 (mp wt r n) n, spD W 1 (mp wt r n) dd n, ?_, by rw [z.2, e]; rfl⟩) (fun _ z => z)
  intro i hi
  simp only [spR, spD]
  rw [mp_lt hi, mp_lt hi]
  simp only [rT, dT, mp_lt hi]
  exact ⟨trivial, trivial⟩
theorem m_R_growR {K : Nat} (A : lwN n at_ wt W) (hS : trS n W wt K r dd) : AMet G M_R_grow [vr 6 0] (Hp b s t mk df jo (sgR (n : Int) W (lT n W wt K) (oT n W wt K) r dd) di mo dy) (fun x h => x = none ∧ ∃ r dd, trS n W wt (K + 1) r dd ∧ h = Hp b s t mk df jo (sgR (n : Int) W (lT n W wt (K + 1)) (oT n W wt (K + 1)) r dd) di mo dy) (fun _ => False) := by
  have hn := A.1
  have hW := A.2.2.2
  have ho := oT_in A K
  have e : spL W 2 r n = lT n W wt (K + 1) := sumZ_ext (fun i hi => by show dg W (2 * r i) = dg W (2 * rT W wt K i); rw [(hS i hi).1])
  refine am_mono (m_R_grow (by omega) ⟨by omega, by omega⟩ (fun i hi => by have := rT_in A hi K; rw [(hS i hi).1]; omega) (by omega)) (fun x h z => ⟨z.1, spR W 2 r n, spD W 2 r dd n, ?_, by rw [z.2, e]; rfl⟩) (fun _ z => z)
  intro i hi
  simp only [spR, spD]
  rw [mp_lt hi, mp_lt hi, (hS i hi).1]
  exact ⟨rfl, rfl⟩
theorem m_B_growTo {K : Nat} (hK : K ≤ 60) (hA : isD dy k k1 k2 n at_ wt W) (A : lwN n at_ wt W) : AMet G M_B_growTo [vr 0 0, vr 9 k, vi (K : Int)] (Hp (sgB bd tk) (sgS laws slot ahead made (od : Int) (dn : Int) (un : Int)) t (sgK (nn : Int) rr ff gg) df jo (sgR l9 W0 lv op r dd) di mo dy) (fun x h => x = none ∧ ∃ r dd, trS n W wt K r dd ∧ h = Hp (sgB bd tk) (sgS laws slot ahead made (od : Int) (dn : Int) (un : Int)) t (sgK (nn : Int) rr ff gg) df jo (sgR (n : Int) W (lT n W wt K) (oT n W wt K) r dd) di mo dy) (fun _ => False) := by
  refine am_rel (by decide +kernel) (Nat.le_of_ble_eq_true rfl) (fun Qr Qt hq => ?_)
  refine aw_blk (pc' := 4) (ls' := [some (vr 0 0), some (vr 9 k), some (vi (K : Int)), none]) (st' := [vi 60, vi 0, vi (K : Int)]) [.inl (.iload_n 2), .inl (.iconst 0), .inl (.bipush 60)] 0 _ _ (by decide +kernel) rfl ?_
  refine aw_dS (cs' := 0) (sl' := 0) (pc' := 7) (st' := [vi (if 0 ≤ (K : Int) ∧ (K : Int) ≤ 60 then 1 else 0)]) (idx := 98) (as := [vi (K : Int), vi 0, vi 60]) (st := []) (m_B_isWithin (by omega) (by omega) (by omega)) (by decide +kernel) (show sOK "ChanceBench" 98 M_B_isWithin 3 = true by decide +kernel) rfl (Nat.le_of_ble_eq_true rfl) (by decide) (by decide) (by decide) rfl rfl rfl rfl ?_
  rw [if_pos (by omega)]
  refine aw_if_ne (o := 11) (tgt := 18) (by decide +kernel) (by decide) (by omega) (fun _ => ?_) (fun c => absurd c (by omega))
  refine aw_blk (pc' := 23) (ls' := [some (vr 0 0), some (vr 9 k), some (vi (K : Int)), none]) (st' := [vr 9 k, vr 6 0]) [.inl (.aload_n 0), .inr (47, 0, 5), .inl (.aload_n 1)] 18 _ _ (by decide +kernel) rfl ?_
  refine aw_rV (cs' := 0) (sl' := 0) (pc' := 26) (idx := 216) (as := [vr 9 k]) (st := []) (m_R_plantR hA A) (by decide +kernel) (show vOK "ChanceBench" 216 M_R_plant 1 = true by decide +kernel) rfl rfl rfl (Nat.le_of_ble_eq_true rfl) (by decide) (by decide) (by decide) rfl rfl rfl (fun r23 h23 z23 => ?_)
  obtain ⟨rfl, r, dd, hS, rfl⟩ := z23
  refine aw_blk (pc' := 28) (ls' := [some (vr 0 0), some (vr 9 k), some (vi (K : Int)), some (vi 0)]) (st' := []) [.inl (.iconst 0), .inl (.istore_n 3)] 26 _ _ (by decide +kernel) rfl ?_
  refine up_to (W := fun i : Nat => ∀ r dd, trS n W wt i r dd → AW G M_B_growTo Qr Qt 0 0 28 [some (vr 0 0), some (vr 9 k), some (vi (K : Int)), some (vi (i : Int))] [] (Hp [some (ob 0 [vr 1 0, vr 2 0, vr 3 0, vr 4 0, vr 5 0, vr 6 0, vr 7 0, vi bd, vi tk])] [some (ob 1 [vr 1 1, vr 1 2, vr 1 3, vr 1 4, vi (od : Int), vi (dn : Int), vi (un : Int)]), some (rs 16 laws), some (ar 0 30 slot), some (rs 30 ahead), some (rs 30 made)] t [some (ob 3 [vr 3 1, vr 3 2, vi (nn : Int), vi rr]), some (ar 0 24 ff), some (ar 1 24 gg)] df jo [some (ob 6 [vr 6 1, vr 6 2, vi (n : Int), vi W, vi (lT n W wt i), vi (oT n W wt i)]), some (ar 0 24 r), some (ar 0 24 dd)] di mo dy)) K ?_ (fun i hi ih => ?_) 0 (by omega) r dd hS
  · intro r dd hS
    refine aw_blk (pc' := 30) (ls' := [some (vr 0 0), some (vr 9 k), some (vi (K : Int)), some (vi (K : Int))]) (st' := [vi (K : Int), vi (K : Int)]) [.inl (.iload_n 3), .inl (.iload_n 2)] 28 _ _ (by decide +kernel) rfl ?_
    refine aw_icmp_ge (o := 16) (tgt := 46) (by decide +kernel) (by decide) (by omega) (by omega) (fun _ => ?_) (fun c => absurd (by omega) c)
    exact aw_vret (by decide +kernel) rfl (by decide) (by decide) (hq _ _ ⟨rfl, r, dd, hS, rfl⟩)
  · intro r dd hS
    refine aw_blk (pc' := 30) (ls' := [some (vr 0 0), some (vr 9 k), some (vi (K : Int)), some (vi (i : Int))]) (st' := [vi (K : Int), vi (i : Int)]) [.inl (.iload_n 3), .inl (.iload_n 2)] 28 _ _ (by decide +kernel) rfl ?_
    refine aw_icmp_ge (o := 16) (tgt := 46) (by decide +kernel) (by decide) (by omega) (by omega) (fun c => absurd c (by omega)) (fun _ => ?_)
    refine aw_blk (pc' := 37) (ls' := [some (vr 0 0), some (vr 9 k), some (vi (K : Int)), some (vi (i : Int))]) (st' := [vr 6 0]) [.inl (.aload_n 0), .inr (47, 0, 5)] 33 _ _ (by decide +kernel) rfl ?_
    refine aw_rV (cs' := 0) (sl' := 0) (pc' := 40) (idx := 220) (as := []) (st := []) (m_R_growR A hS) (by decide +kernel) (show vOK "ChanceBench" 220 M_R_grow 0 = true by decide +kernel) rfl rfl rfl (Nat.le_of_ble_eq_true rfl) (by decide) (by decide) (by decide) rfl rfl rfl (fun r37 h37 z37 => ?_)
    obtain ⟨rfl, r2, d2, hS2, rfl⟩ := z37
    refine aw_blk (pc' := 43) (ls' := [some (vr 0 0), some (vr 9 k), some (vi (K : Int)), some (vi ((i : Int) + 1))]) (st' := []) [.inl (.iinc 3 1)] 40 _ _ (by decide +kernel) rfl ?_
    refine aw_goto (o := -15) (tgt := 28) (by decide +kernel) (by decide) ?_
    exact ih r2 d2 hS2

theorem m_B_open {K : Nat} (hI : I32 e) (hK : K ≤ 60) (hl1 : lawAt laws e = some (9, k)) (hA : isD dy k k1 k2 n at_ wt W) (A : lwN n at_ wt W) : AMet G M_B_open [vr 0 0, vi e, vi (K : Int)] (Hp (sgB bd tk) (sgS laws slot ahead made (od : Int) (dn : Int) (un : Int)) t (sgK (nn : Int) rr ff gg) df jo (sgR l9 W0 lv op r dd) di mo dy) (fun x h => x = some (vi (oT n W wt K)) ∧ ∃ r dd, h = Hp (sgB bd tk) (sgS laws slot ahead made (od : Int) (dn : Int) (un : Int)) t (sgK (nn : Int) rr ff gg) df jo (sgR (n : Int) W (lT n W wt K) (oT n W wt K) r dd) di mo dy) (fun _ => False) := by
  refine am_rel (by decide +kernel) (Nat.le_of_ble_eq_true rfl) (fun Qr Qt hq => ?_)
  refine aw_blk (pc' := 2) (ls' := [some (vr 0 0), some (vi e), some (vi (K : Int)), none]) (st' := [vi e, vr 0 0]) [.inl (.aload_n 0), .inl (.iload_n 1)] 0 _ _ (by decide +kernel) rfl ?_
  refine aw_dV (cs' := 1) (sl' := 6) (pc' := 5) (st' := [vr 9 k]) (idx := 143) (as := [vi e]) (st := []) (m_B_lawOf hI hl1) (by decide +kernel) (show vOK "ChanceBench" 143 M_B_lawOf 1 = true by decide +kernel) rfl rfl rfl (Nat.le_of_ble_eq_true rfl) (by decide) (by decide) (by decide) rfl rfl rfl rfl ?_
  refine aw_blk (pc' := 9) (ls' := [some (vr 0 0), some (vi e), some (vi (K : Int)), some (vr 9 k)]) (st' := [vi (K : Int), vr 9 k, vr 0 0]) [.inl (.astore_n 3), .inl (.aload_n 0), .inl (.aload_n 3), .inl (.iload_n 2)] 5 _ _ (by decide +kernel) rfl ?_
  refine aw_rV (cs' := 2) (sl' := 12) (pc' := 12) (idx := 206) (as := [vr 9 k, vi (K : Int)]) (st := []) (m_B_growTo hK hA A) (by decide +kernel) (show vOK "ChanceBench" 206 M_B_growTo 2 = true by decide +kernel) rfl rfl rfl (Nat.le_of_ble_eq_true rfl) (by decide) (by decide) (by decide) rfl rfl rfl (fun r9 h9 z9 => ?_)
  obtain ⟨rfl, r, dd, hS, rfl⟩ := z9
  refine aw_blk (pc' := 16) (ls' := [some (vr 0 0), some (vi e), some (vi (K : Int)), some (vr 9 k)]) (st' := [vr 6 0]) [.inl (.aload_n 0), .inr (47, 0, 5)] 12 _ _ (by decide +kernel) rfl ?_
  refine aw_dV (cs' := 2) (sl' := 12) (pc' := 19) (st' := [vi (oT n W wt K)]) (idx := 210) (as := []) (st := []) (m_R_openPlaces) (by decide +kernel) (show vOK "ChanceBench" 210 M_R_openPlaces 0 = true by decide +kernel) rfl rfl rfl (Nat.le_of_ble_eq_true rfl) (by decide) (by decide) (by decide) rfl rfl rfl rfl ?_
  exact aw_iret (by decide +kernel) rfl (by decide) (by decide) (hq _ _ ⟨rfl, r, dd, rfl⟩)

theorem m_B_open_t2 (hI : I32 e) (hi : I32 d) (hd0 : ¬ (0 ≤ d ∧ d ≤ 60)) (hl1 : lawAt laws e = some (9, k)) : AThr G M_B_open [vr 0 0, vi e, vi d] (Hp (sgB bd tk) (sgS laws slot ahead made (od : Int) (dn : Int) (un : Int)) t (sgK (nn : Int) rr ff gg) df jo tr di mo dy) := by
  refine am_thr (by decide +kernel) (Nat.le_of_ble_eq_true rfl) (fun Qr Qt hq => ?_)
  refine aw_blk (pc' := 2) (ls' := [some (vr 0 0), some (vi e), some (vi d), none]) (st' := [vi e, vr 0 0]) [.inl (.aload_n 0), .inl (.iload_n 1)] 0 _ _ (by decide +kernel) rfl ?_
  refine aw_dV (cs' := 1) (sl' := 6) (pc' := 5) (st' := [vr 9 k]) (idx := 143) (as := [vi e]) (st := []) (m_B_lawOf hI hl1) (by decide +kernel) (show vOK "ChanceBench" 143 M_B_lawOf 1 = true by decide +kernel) rfl rfl rfl (Nat.le_of_ble_eq_true rfl) (by decide) (by decide) (by decide) rfl rfl rfl rfl ?_
  refine aw_blk (pc' := 9) (ls' := [some (vr 0 0), some (vi e), some (vi d), some (vr 9 k)]) (st' := [vi d, vr 9 k, vr 0 0]) [.inl (.astore_n 3), .inl (.aload_n 0), .inl (.aload_n 3), .inl (.iload_n 2)] 5 _ _ (by decide +kernel) rfl ?_
  exact aw_tV (idx := 206) (as := [vr 9 k, vi d]) (st := []) (m_B_growTo_t hi hd0) (by decide +kernel) (show vOK "ChanceBench" 206 M_B_growTo 2 = true by decide +kernel) rfl rfl rfl (Nat.le_of_ble_eq_true rfl) (by decide) (by decide) (by decide) hq

theorem m_B_leaf_t2 (hI : I32 e) (hi : I32 d) (hd0 : ¬ (0 ≤ d ∧ d ≤ 60)) (hl1 : lawAt laws e = some (9, k)) : AThr G M_B_leaf [vr 0 0, vi e, vi c, vi d] (Hp (sgB bd tk) (sgS laws slot ahead made (od : Int) (dn : Int) (un : Int)) t (sgK (nn : Int) rr ff gg) df jo tr di mo dy) := by
  refine am_thr (by decide +kernel) (Nat.le_of_ble_eq_true rfl) (fun Qr Qt hq => ?_)
  refine aw_blk (pc' := 2) (ls' := [some (vr 0 0), some (vi e), some (vi c), some (vi d), none]) (st' := [vi e, vr 0 0]) [.inl (.aload_n 0), .inl (.iload_n 1)] 0 _ _ (by decide +kernel) rfl ?_
  refine aw_dV (cs' := 1) (sl' := 6) (pc' := 5) (st' := [vr 9 k]) (idx := 143) (as := [vi e]) (st := []) (m_B_lawOf hI hl1) (by decide +kernel) (show vOK "ChanceBench" 143 M_B_lawOf 1 = true by decide +kernel) rfl rfl rfl (Nat.le_of_ble_eq_true rfl) (by decide) (by decide) (by decide) rfl rfl rfl rfl ?_
  refine aw_blk (pc' := 11) (ls' := [some (vr 0 0), some (vi e), some (vi c), some (vi d), some (vr 9 k)]) (st' := [vi d, vr 9 k, vr 0 0]) [.inl (.astore 4), .inl (.aload_n 0), .inl (.aload 4), .inl (.iload_n 3)] 5 _ _ (by decide +kernel) rfl ?_
  exact aw_tV (idx := 206) (as := [vr 9 k, vi d]) (st := []) (m_B_growTo_t hi hd0) (by decide +kernel) (show vOK "ChanceBench" 206 M_B_growTo 2 = true by decide +kernel) rfl rfl rfl (Nat.le_of_ble_eq_true rfl) (by decide) (by decide) (by decide) hq

/-- whether the value v has a leaf of depth k -/
def hlf (n : Nat) (W : Int) (at_ wt : Nat → Int) (k : Nat) (v : Int) : Int := sumZ (fun i => if at_ i = v ∧ dT W wt k i = 1 then 1 else 0) n
theorem hlf_den (v : Int) (k : Nat) : hlf n W at_ wt k v = den at_ (fun i => if dT W wt k i = 1 then 1 else 0) n v := sumZ_ext (fun i _ => by by_cases h : at_ i = v <;> simp [h])
theorem m_B_leaf {K : Nat} (hI : I32 e) (hc : I32 c) (hK : K ≤ 60) (hl1 : lawAt laws e = some (9, k)) (hA : isD dy k k1 k2 n at_ wt W) (A : lwN n at_ wt W) : AMet G M_B_leaf [vr 0 0, vi e, vi c, vi (K : Int)] (Hp (sgB bd tk) (sgS laws slot ahead made (od : Int) (dn : Int) (un : Int)) t (sgK (nn : Int) rr ff gg) df jo (sgR l9 W0 lv op r dd) di mo dy) (fun x h => x = some (vi (hlf n W at_ wt K c)) ∧ ∃ r dd, h = Hp (sgB bd tk) (sgS laws slot ahead made (od : Int) (dn : Int) (un : Int)) t (sgK (nn : Int) rr ff gg) df jo (sgR (n : Int) W (lT n W wt K) (oT n W wt K) r dd) di mo dy) (fun _ => False) := by
  refine am_rel (by decide +kernel) (Nat.le_of_ble_eq_true rfl) (fun Qr Qt hq => ?_)
  have hn := A.1
  refine aw_blk (pc' := 2) (ls' := [some (vr 0 0), some (vi e), some (vi c), some (vi (K : Int)), none]) (st' := [vi e, vr 0 0]) [.inl (.aload_n 0), .inl (.iload_n 1)] 0 _ _ (by decide +kernel) rfl ?_
  refine aw_dV (cs' := 1) (sl' := 6) (pc' := 5) (st' := [vr 9 k]) (idx := 143) (as := [vi e]) (st := []) (m_B_lawOf hI hl1) (by decide +kernel) (show vOK "ChanceBench" 143 M_B_lawOf 1 = true by decide +kernel) rfl rfl rfl (Nat.le_of_ble_eq_true rfl) (by decide) (by decide) (by decide) rfl rfl rfl rfl ?_
  refine aw_blk (pc' := 11) (ls' := [some (vr 0 0), some (vi e), some (vi c), some (vi (K : Int)), some (vr 9 k)]) (st' := [vi (K : Int), vr 9 k, vr 0 0]) [.inl (.astore 4), .inl (.aload_n 0), .inl (.aload 4), .inl (.iload_n 3)] 5 _ _ (by decide +kernel) rfl ?_
  refine aw_rV (cs' := 2) (sl' := 12) (pc' := 14) (idx := 206) (as := [vr 9 k, vi (K : Int)]) (st := []) (m_B_growTo hK hA A) (by decide +kernel) (show vOK "ChanceBench" 206 M_B_growTo 2 = true by decide +kernel) rfl rfl rfl (Nat.le_of_ble_eq_true rfl) (by decide) (by decide) (by decide) rfl rfl rfl (fun r11 h11 z11 => ?_)
  obtain ⟨rfl, r, dd, hS, rfl⟩ := z11
  refine aw_blk (pc' := 21) (ls' := [some (vr 0 0), some (vi e), some (vi c), some (vi (K : Int)), some (vr 9 k)]) (st' := [vi c, vr 9 k, vr 6 0]) [.inl (.aload_n 0), .inr (47, 0, 5), .inl (.aload 4), .inl (.iload_n 2)] 14 _ _ (by decide +kernel) rfl ?_
  refine aw_dV (cs' := 2) (sl' := 12) (pc' := 24) (st' := [vi (ixO at_ n c), vr 6 0]) (idx := 149) (as := [vi c]) (st := [vr 6 0]) (m_L_indexOf hA.L A.2.1 hc) (by decide +kernel) (show vOK "ChanceBench" 149 M_L_indexOf 1 = true by decide +kernel) hA.1 rfl rfl (Nat.le_of_ble_eq_true rfl) (by decide) (by decide) (by decide) rfl rfl rfl rfl ?_
  have hix : I32 (ixO at_ n c) := by unfold ixO; have := lb_le at_ c n; split <;> omega
  refine aw_dV (cs' := 2) (sl' := 12) (pc' := 27) (st' := [vi (if (0 ≤ ixO at_ n c ∧ ixO at_ n c < (n : Int)) ∧ dd (ixO at_ n c).toNat = 1 then 1 else 0)]) (idx := 213) (as := [vi (ixO at_ n c)]) (st := []) (m_R_hasLeaf (by omega) hix) (by decide +kernel) (show vOK "ChanceBench" 213 M_R_hasLeaf 1 = true by decide +kernel) rfl rfl rfl (Nat.le_of_ble_eq_true rfl) (by decide) (by decide) (by decide) rfl rfl rfl rfl ?_
  have hr9 : (if (0 ≤ ixO at_ n c ∧ ixO at_ n c < (n : Int)) ∧ dd (ixO at_ n c).toNat = 1 then (1 : Int) else 0) = hlf n W at_ wt K c := by
    rw [hlf_den]
    by_cases h : ixO at_ n c = -1
    · rw [if_neg (by omega), den_0 (ixO_no A.2.1 h)]
    · obtain ⟨D, hD, eD, vD⟩ := ixO_yes h
      rw [eD, ← vD, den_at A.2.1 hD, Int.toNat_natCast, (hS D hD).2]
      by_cases h5 : dT W wt K D = 1
      · rw [if_pos ⟨⟨by omega, by omega⟩, h5⟩, if_pos h5]
      · rw [if_neg (fun z => h5 z.2), if_neg h5]
  rw [hr9]
  have hr8 : 0 ≤ hlf n W at_ wt K c ∧ hlf n W at_ wt K c ≤ 1 := by rw [← hr9]; split <;> omega
  exact aw_zret (by decide +kernel) rfl (by decide) (by decide) (by omega) (hq _ _ ⟨rfl, r, dd, rfl⟩)

end
