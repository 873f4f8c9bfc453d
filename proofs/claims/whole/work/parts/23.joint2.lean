def mn (x y : Int) : Int := if y < x then y else x
theorem mn_le (x y : Int) : mn x y ≤ x ∧ mn x y ≤ y := by unfold mn; split <;> omega
theorem mn_or (x y : Int) : mn x y = x ∨ mn x y = y := by unfold mn; split <;> simp
section
variable {f g at_ wt at2 wt2 : Nat → Int} {n m i j : Nat} {v W W2 : Int}
theorem den_0 : ∀ {n : Nat}, (∀ k, k < n → f k ≠ v) → den f g n v = 0
  | 0, _ => rfl
  | n + 1, h => by rw [den_s, den_0 (fun k hk => h k (by omega)), if_neg (h n (by omega))]; rfl
theorem den_at (hs : inc f n) (hj : j < n) : den f g n (f j) = g j := by
  have : ∀ d, j + 1 + d ≤ n → den f g (j + 1 + d) (f j) = g j := by
    intro d
    induction d with
    | zero =>
      intro h
      rw [Nat.add_zero, den_s, den_0 (fun k hk => by have := hs k j hk hj; omega), if_pos rfl]; omega
    | succ d ih =>
      intro h
      rw [← Nat.add_assoc, den_s, ih (by omega), if_neg (by have := hs j (j + 1 + d) (by omega) (by omega); omega)]; omega
  have := this (n - (j + 1)) (by omega)
  rw [show j + 1 + (n - (j + 1)) = n by omega] at this
  exact this
theorem ixO_no (hs : inc f n) (h : ixO f n v = -1) : ∀ k, k < n → f k ≠ v := by
  intro k hk e
  unfold ixO at h
  split at h
  · omega
  · rename_i hc
    have h1 : lb f v n ≤ k := by
      rcases Nat.lt_or_ge k (lb f v n) with z | z
      · have := lb_lt hs z; omega
      · exact z
    have h2 := lb_ge (f := f) (v := v) (n := n) (Nat.le_refl _) (show lb f v n < n by omega)
    refine hc ⟨by omega, ?_⟩
    rcases Nat.lt_or_ge (lb f v n) k with z | z
    · have := hs _ k z hk; omega
    · rw [show lb f v n = k by omega]; exact e
theorem ixO_yes (h : ixO f n v ≠ -1) : ∃ j : Nat, j < n ∧ ixO f n v = (j : Int) ∧ f j = v := by
  unfold ixO at h ⊢
  split
  · rename_i hc; exact ⟨lb f v n, hc.1, rfl, hc.2⟩
  · rename_i hc; rw [if_neg hc] at h; exact absurd rfl h
end
/-- what of a value goes to its like -/
def zL (at_ wt at2 wt2 : Nat → Int) (m : Nat) (W W2 : Int) (i : Nat) : Int := mn (wt i * W2) (den at2 wt2 m (at_ i) * W)
def lkL (at_ wt at2 wt2 : Nat → Int) (m : Nat) (W W2 : Int) : Nat → List T3
  | 0 => []
  | i + 1 => lkL at_ wt at2 wt2 m W W2 i ++ (if 1 ≤ zL at_ wt at2 wt2 m W W2 i then [(at_ i, at_ i, zL at_ wt at2 wt2 m W W2 i)] else [])
def lfA (at_ wt at2 wt2 : Nat → Int) (m : Nat) (W W2 : Int) (i k : Nat) : Int := if k < i then wt k * W2 - zL at_ wt at2 wt2 m W W2 k else wt k * W2
def lfB (at_ wt at2 wt2 : Nat → Int) (W W2 : Int) (i k : Nat) : Int := wt2 k * W - mn (den at_ wt i (at2 k) * W2) (wt2 k * W)
theorem lkL_len (at_ wt at2 wt2 : Nat → Int) (m : Nat) (W W2 : Int) : ∀ i, (lkL at_ wt at2 wt2 m W W2 i).length ≤ i
  | 0 => Nat.le_refl 0
  | i + 1 => by have := lkL_len at_ wt at2 wt2 m W W2 i; simp only [lkL, List.length_append]; split <;> simp <;> omega
/-- the joint's pairs -/
def jn (n m : Nat) (at_ wt at2 wt2 : Nat → Int) (W W2 : Int) (lk : Bool) : List T3 :=
  if lk then lkL at_ wt at2 wt2 m W W2 n ++ nw (tab at_ (lfA at_ wt at2 wt2 m W W2 n) 0 n) (tab at2 (lfB at_ wt at2 wt2 W W2 n) 0 m)
  else nw (tab at_ (fun k => wt k * W2) 0 n) (tab at2 (fun k => wt2 k * W) 0 m)
theorem tab_ext {f g g' : Nat → Int} : ∀ {d i : Nat}, (∀ k, i ≤ k → k < i + d → g k = g' k) → tab f g i d = tab f g' i d
  | 0, _, _ => rfl
  | d + 1, i, h => by simp only [tab]; rw [h i (by omega) (by omega), tab_ext (fun k a b => h k (by omega) (by omega))]
section
variable {G : GT} {h : HT} {b s t mk df jo tr di mo dy : SG} {a c d : Int} {n k k1 k2 q q1 q2 m : Nat} {at_ wt at2 wt2 : Nat → Int} {W W2 wh : Int}
theorem l_J_lk {Qr : Option AV → HT → Prop} {Qt : HT → Prop} (hA : isD dy k k1 k2 n at_ wt W) (hA2 : isD dy q q1 q2 m at2 wt2 W2) (A : lwN n at_ wt W) (A2 : lwN m at2 wt2 W2) : ∀ (e i : Nat) (fa fb fw fl sl_ : Nat → Int) (x4 : Option AV), i + e = n → (∀ k, k < n → fl k = lfA at_ wt at2 wt2 m W W2 i k) → (∀ k, k < m → sl_ k = lfB at_ wt at2 wt2 W W2 i k) → jr fa fb fw (lkL at_ wt at2 wt2 m W W2 i) → (∀ fa fb fw fl sl_, (∀ k, k < n → fl k = lfA at_ wt at2 wt2 m W W2 n k) → (∀ k, k < m → sl_ k = lfB at_ wt at2 wt2 W W2 n k) → jr fa fb fw (lkL at_ wt at2 wt2 m W W2 n) → Qr none (Hp b s t mk df (sgJ ((lkL at_ wt at2 wt2 m W W2 n).length : Int) wh fa fb fw fl sl_) tr di mo dy)) → AW G M_J_pairLikes Qr Qt 0 0 2 [some (vr 5 0), some (vr 9 k), some (vr 9 q), some (vi (i : Int)), x4] [] (Hp b s t mk df (sgJ ((lkL at_ wt at2 wt2 m W W2 i).length : Int) wh fa fb fw fl sl_) tr di mo dy) := by
  intro e
  induction e with
  | zero =>
    intro i fa fb fw fl sl_ x4 he hF hS hR hq
    have hi0 : i = n := by omega
    subst hi0
    refine aw_ls (ls' := [some (vr 5 0), some (vr 9 k), some (vr 9 q), some (vi (i : Int)), none]) lsM5 ?_
    have hn := A.1
    refine aw_blk (pc' := 4) (ls' := [some (vr 5 0), some (vr 9 k), some (vr 9 q), some (vi (i : Int)), none]) (st' := [vr 9 k, vi (i : Int)]) [.inl (.iload_n 3), .inl (.aload_n 1)] 2 _ _ (by decide +kernel) rfl ?_
    refine aw_get (idx := 55) (ci := 9) (f := 0) (by decide +kernel) (by decide +kernel) hA.1 rfl ?_
    refine aw_alen (by decide +kernel) hA.2.1 (fun r7 => ?_)
    refine aw_icmp_ge (o := 36) (tgt := 44) (by decide +kernel) (by decide) (by omega) (by omega) (fun _ => ?_) (fun c => absurd (by omega) c)
    exact aw_vret (by decide +kernel) rfl (by decide) (by decide) (hq fa fb fw fl sl_ hF hS hR)
  | succ e ih =>
    intro i fa fb fw fl sl_ x4 he hF hS hR hq
    refine aw_ls (ls' := [some (vr 5 0), some (vr 9 k), some (vr 9 q), some (vi (i : Int)), none]) lsM5 ?_
    have hn := A.1
    have hm := A2.1
    have hi : i < n := by omega
    have hai := (A.2.2.1 i hi)
    refine aw_blk (pc' := 4) (ls' := [some (vr 5 0), some (vr 9 k), some (vr 9 q), some (vi (i : Int)), none]) (st' := [vr 9 k, vi (i : Int)]) [.inl (.iload_n 3), .inl (.aload_n 1)] 2 _ _ (by decide +kernel) rfl ?_
    refine aw_get (idx := 55) (ci := 9) (f := 0) (by decide +kernel) (by decide +kernel) hA.1 rfl ?_
    refine aw_alen (by decide +kernel) hA.2.1 (fun r7 => ?_)
    refine aw_icmp_ge (o := 36) (tgt := 44) (by decide +kernel) (by decide) (by omega) (by omega) (fun c => absurd c (by omega)) (fun _ => ?_)
    refine aw_blk (pc' := 13) (ls' := [some (vr 5 0), some (vr 9 k), some (vr 9 q), some (vi (i : Int)), none]) (st' := [vr 9 k, vr 9 q]) [.inl (.aload_n 2), .inl (.aload_n 1)] 11 _ _ (by decide +kernel) rfl ?_
    refine aw_get (idx := 55) (ci := 9) (f := 0) (by decide +kernel) (by decide +kernel) hA.1 rfl ?_
    refine aw_blk (pc' := 17) (ls' := [some (vr 5 0), some (vr 9 k), some (vr 9 q), some (vi (i : Int)), none]) (st' := [vi (i : Int), vr 9 k1, vr 9 q]) [.inl (.iload_n 3)] 16 _ _ (by decide +kernel) rfl ?_
    refine aw_iald (j := i) (by decide +kernel) hA.2.1 (by omega) (by omega) (fun r17 => ?_)
    refine aw_dV (cs' := 0) (sl' := 0) (pc' := 21) (st' := [vi (ixO at2 m (at_ i))]) (idx := 60) (as := [vi (at_ i)]) (st := []) (m_L_indexOf hA2.L A2.2.1 (by omega)) (by decide +kernel) (show vOK "ChanceBench$Joint" 60 M_L_indexOf 1 = true by decide +kernel) hA2.1 rfl rfl (Nat.le_of_ble_eq_true rfl) (by decide) (by decide) (by decide) rfl rfl rfl rfl ?_
    have hix : I32 (ixO at2 m (at_ i)) := by unfold ixO; have := lb_le at2 (at_ i) m; split <;> omega
    refine aw_blk (pc' := 26) (ls' := [some (vr 5 0), some (vr 9 k), some (vr 9 q), some (vi (i : Int)), some (vi (ixO at2 m (at_ i)))]) (st' := [vi (-1), vi (ixO at2 m (at_ i))]) [.inl (.istore 4), .inl (.iload 4), .inl (.iconst (-1))] 21 _ _ (by decide +kernel) rfl ?_
    refine aw_icmp_eq (o := 12) (tgt := 38) (by decide +kernel) (by decide) (by omega) (by omega) (fun c26 => ?_) (fun c26 => ?_)
    · have hno := ixO_no A2.2.1 c26
      have hd0 : den at2 wt2 m (at_ i) = 0 := den_0 hno
      have hz : zL at_ wt at2 wt2 m W W2 i = 0 := by unfold zL; rw [hd0]; have h1 := Int.mul_nonneg (show 0 ≤ wt i by omega) (show 0 ≤ W2 by have := A2.2.2.2.1; omega); unfold mn; split <;> omega
      have hlk : lkL at_ wt at2 wt2 m W W2 (i + 1) = lkL at_ wt at2 wt2 m W W2 i := by rw [lkL, hz]; simp
      refine aw_blk (pc' := 41) (ls' := [some (vr 5 0), some (vr 9 k), some (vr 9 q), some (vi ((i : Int) + 1)), some (vi (ixO at2 m (at_ i)))]) (st' := []) [.inl (.iinc 3 1)] 38 _ _ (by decide +kernel) rfl ?_
      refine aw_goto (o := -39) (tgt := 2) (by decide +kernel) (by decide) ?_
      refine aw_eq rfl rfl (by rw [hlk]) (ih (i + 1) fa fb fw fl sl_ _ (by omega) (fun k hk => ?_) (fun k hk => ?_) (by rw [hlk]; exact hR) hq)
      · rw [hF k hk]; unfold lfA; by_cases h1 : k < i
        · rw [if_pos h1, if_pos (by omega)]
        · rw [if_neg h1]; split
          · rw [show k = i by omega, hz]; omega
          · rfl
      · rw [hS k hk]; unfold lfB; rw [den_s, if_neg (fun e => hno k hk e.symm), Int.add_zero]
    · obtain ⟨j, hj, ej, evj⟩ := ixO_yes c26
      rw [ej]
      have haj := (A2.2.2.1 j hj)
      refine aw_blk (pc' := 35) (ls' := [some (vr 5 0), some (vr 9 k), some (vr 9 q), some (vi (i : Int)), some (vi (j : Int))]) (st' := [vi (j : Int), vr 9 q, vi (i : Int), vr 9 k, vr 5 0]) [.inl (.aload_n 0), .inl (.aload_n 1), .inl (.iload_n 3), .inl (.aload_n 2), .inl (.iload 4)] 29 _ _ (by decide +kernel) rfl ?_
      have hfi : fl i = wt i * W2 := by rw [hF i hi]; unfold lfA; rw [if_neg (by omega)]
      have hd0 : den at_ wt i (at2 j) = 0 := den_0 (fun k hk => by have := A.2.1 k i hk hi; omega)
      have hW1 := A.2.2.2.1
      have hW2 := A2.2.2.2.1
      have hp1 : 1 ≤ wt i * W2 := by have := Int.mul_le_mul hai.2.1 hW2 (by omega) (by omega); omega
      have hp2 : 1 ≤ wt2 j * W := by have := Int.mul_le_mul haj.2.1 hW1 (by omega) (by omega); omega
      have hsj : sl_ j = wt2 j * W := by rw [hS j hj]; unfold lfB; rw [hd0, Int.zero_mul]; unfold mn; rw [if_neg (by omega), Int.sub_zero]
      have hdm : den at2 wt2 m (at_ i) = wt2 j := by rw [← evj]; exact den_at A2.2.1 hj
      have hz : zL at_ wt at2 wt2 m W W2 i = if sl_ j < fl i then sl_ j else fl i := by rw [zL, hdm, hfi, hsj]; rfl
      have hz1 : 1 ≤ zL at_ wt at2 wt2 m W W2 i := by rw [hz]; split <;> omega
      have hlk : lkL at_ wt at2 wt2 m W W2 (i + 1) = lkL at_ wt at2 wt2 m W W2 i ++ [(at_ i, at2 j, zL at_ wt at2 wt2 m W W2 i)] := by rw [lkL, if_pos hz1, evj]
      have hll := lkL_len at_ wt at2 wt2 m W W2 i
      refine aw_dV (cs' := 0) (sl' := 0) (pc' := 38) (st' := []) (idx := 64) (as := [vr 9 k, vi (i : Int), vr 9 q, vi (j : Int)]) (st := []) (m_J_pairUp_1 hA hA2 A A2 hi hj (by omega) (by omega) (by omega) hz hz1) (by decide +kernel) (show vOK "ChanceBench$Joint" 64 M_J_pairUp 4 = true by decide +kernel) rfl rfl rfl (Nat.le_of_ble_eq_true rfl) (by decide) (by decide) (by decide) rfl rfl rfl rfl ?_
      refine aw_blk (pc' := 41) (ls' := [some (vr 5 0), some (vr 9 k), some (vr 9 q), some (vi ((i : Int) + 1)), some (vi (j : Int))]) (st' := []) [.inl (.iinc 3 1)] 38 _ _ (by decide +kernel) rfl ?_
      refine aw_goto (o := -39) (tgt := 2) (by decide +kernel) (by decide) ?_
      refine aw_eq rfl rfl (by rw [hlk]; simp) (ih (i + 1) (va_up fa (lkL at_ wt at2 wt2 m W W2 i).length (at_ i)) (va_up fb (lkL at_ wt at2 wt2 m W W2 i).length (at2 j)) (va_up fw (lkL at_ wt at2 wt2 m W W2 i).length (zL at_ wt at2 wt2 m W W2 i)) (va_up fl i (fl i - zL at_ wt at2 wt2 m W W2 i)) (va_up sl_ j (sl_ j - zL at_ wt at2 wt2 m W W2 i)) _ (by omega) (fun k hk => ?_) (fun k hk => ?_) (by rw [hlk]; exact jr_s hR) hq)
      · simp only [va_up]; split
        · rename_i e1; rw [e1, hfi]; unfold lfA; rw [if_pos (by omega)]
        · rename_i e1; rw [hF k hk]; unfold lfA; by_cases h1 : k < i
          · rw [if_pos h1, if_pos (by omega)]
          · rw [if_neg h1, if_neg (by omega)]
      · simp only [va_up]; split
        · rename_i e1; rw [e1, hsj]; unfold lfB; rw [den_s, hd0, if_pos evj.symm, Int.zero_add, zL, hdm]
        · rename_i e1; rw [hS k hk]; unfold lfB; rw [den_s, if_neg (fun e => e1 ?_), Int.add_zero]
          rcases Nat.lt_trichotomy k j with z | z | z
          · have := A2.2.1 k j z hj; omega
          · exact z
          · have := A2.2.1 j k z hk; omega
theorem lfA_nn (A : lwN n at_ wt W) (A2 : lwN m at2 wt2 W2) {i k : Nat} (hk : k < n) : 0 ≤ lfA at_ wt at2 wt2 m W W2 i k := by
  have h1 := (A.2.2.1 k hk).2
  have h2 := A2.2.2.2.1
  have h3 := Int.mul_nonneg (show 0 ≤ wt k by omega) (show 0 ≤ W2 by omega)
  unfold lfA
  split
  · have := (mn_le (wt k * W2) (den at2 wt2 m (at_ k) * W)).1; unfold zL; omega
  · exact h3
theorem lfB_nn {i k : Nat} : 0 ≤ lfB at_ wt at2 wt2 W W2 i k := by
  have := (mn_le (den at_ wt i (at2 k) * W2) (wt2 k * W)).2
  unfold lfB; omega
theorem m_J_make_1 {z0 : Int} {fa fb fw fl sl_ : Nat → Int} (hA : isD dy k k1 k2 n at_ wt W) (hA2 : isD dy q q1 q2 m at2 wt2 W2) (A : lwN n at_ wt W) (A2 : lwN m at2 wt2 W2) : AMet G M_J_make [vr 5 0, vr 9 k, vr 9 q, vi 1] (Hp b s t mk df (sgJ z0 wh fa fb fw fl sl_) tr di mo dy) (fun r h => r = none ∧ ∃ fa fb fw fl sl_, jr fa fb fw (jn n m at_ wt at2 wt2 W W2 true) ∧ h = Hp b s t mk df (sgJ ((jn n m at_ wt at2 wt2 W W2 true).length : Int) (W * W2) fa fb fw fl sl_) tr di mo dy) (fun _ => False) := by
  refine am_entry (by decide +kernel) (Nat.le_of_ble_eq_true rfl) ?_
  have hW1 := A.2.2.2.1
  have hW2 := A2.2.2.2.1
  have hW3 := A.2.2.2.2.1
  have hW4 := A2.2.2.2.2.1
  have hm := mulB (x := W) (y := W2) (by omega) (by omega) (by omega) (by omega)
  have hn1 := A.1
  have hn2 := A2.1
  refine aw_blk (pc' := 2) (ls' := [some (vr 5 0), some (vr 9 k), some (vr 9 q), some (vi 1)]) (st' := [vi 0, vr 5 0]) [.inl (.aload_n 0), .inl (.iconst 0)] 0 _ _ (by decide +kernel) rfl ?_
  refine aw_put (idx := 28) (ci := 5) (k := 5) (h' := Hp b s t mk df [some (ob 5 [vr 5 1, vr 5 2, vr 5 3, vr 5 4, vr 5 5, vi 0, vl wh]), some (ar 0 72 fa), some (ar 0 72 fb), some (ar 1 72 fw), some (ar 1 24 fl), some (ar 1 24 sl_)] tr di mo dy) (by decide +kernel) (by decide +kernel) rfl (Nat.le_of_ble_eq_true rfl) (show I32 _ from by omega) rfl ?_
  refine aw_blk (pc' := 8) (ls' := [some (vr 5 0), some (vr 9 k), some (vr 9 q), some (vi 1)]) (st' := [vr 9 q, vr 9 k, vr 5 0]) [.inl (.aload_n 0), .inl (.aload_n 1), .inl (.aload_n 2)] 5 _ _ (by decide +kernel) rfl ?_
  refine aw_dSN (cs' := 0) (sl' := 0) (pc' := 11) (st' := [vl (W * W2), vr 5 0]) (idx := 36) (as := [vr 9 k, vr 9 q]) (st := [vr 5 0]) (m_B_product hA.L hA2.L) (by decide +kernel) (show snOK "ChanceBench$Joint" 36 M_B_product 2 = true by decide +kernel) rfl (Nat.le_of_ble_eq_true rfl) (by decide) (by decide) (by decide) rfl rfl rfl rfl ?_
  refine aw_put (idx := 32) (ci := 5) (k := 6) (h' := Hp b s t mk df [some (ob 5 [vr 5 1, vr 5 2, vr 5 3, vr 5 4, vr 5 5, vi 0, vl (W * W2)]), some (ar 0 72 fa), some (ar 0 72 fb), some (ar 1 72 fw), some (ar 1 24 fl), some (ar 1 24 sl_)] tr di mo dy) (by decide +kernel) (by decide +kernel) rfl (Nat.le_of_ble_eq_true rfl) (show I64 _ from by omega) rfl ?_
  refine aw_blk (pc' := 20) (ls' := [some (vr 5 0), some (vr 9 k), some (vr 9 q), some (vi 1)]) (st' := [vr 9 q, vr 9 k, vr 5 4]) [.inl (.aload_n 0), .inr (22, 5, 3), .inl (.aload_n 1), .inl (.aload_n 2)] 14 _ _ (by decide +kernel) rfl ?_
  refine aw_get (idx := 40) (ci := 9) (f := 2) (by decide +kernel) (by decide +kernel) hA2.1 rfl ?_
  refine aw_dS (cs' := 0) (sl' := 0) (pc' := 26) (st' := []) (idx := 44) (as := [vr 5 4, vr 9 k, vi W2]) (st := []) (m_J_fill4 (sz := 0) hA A (by omega)) (by decide +kernel) (show sOK "ChanceBench$Joint" 44 M_J_fill 3 = true by decide +kernel) rfl (Nat.le_of_ble_eq_true rfl) (by decide) (by decide) (by decide) rfl rfl rfl rfl ?_
  refine aw_blk (pc' := 32) (ls' := [some (vr 5 0), some (vr 9 k), some (vr 9 q), some (vi 1)]) (st' := [vr 9 k, vr 9 q, vr 5 5]) [.inl (.aload_n 0), .inr (25, 5, 4), .inl (.aload_n 2), .inl (.aload_n 1)] 26 _ _ (by decide +kernel) rfl ?_
  refine aw_get (idx := 40) (ci := 9) (f := 2) (by decide +kernel) (by decide +kernel) hA.1 rfl ?_
  refine aw_dS (cs' := 0) (sl' := 0) (pc' := 38) (st' := []) (idx := 44) (as := [vr 5 5, vr 9 q, vi W]) (st := []) (m_J_fill5 (sz := 0) hA2 A2 (by omega)) (by decide +kernel) (show sOK "ChanceBench$Joint" 44 M_J_fill 3 = true by decide +kernel) rfl (Nat.le_of_ble_eq_true rfl) (by decide) (by decide) (by decide) rfl rfl rfl rfl ?_
  refine aw_blk (pc' := 39) (ls' := [some (vr 5 0), some (vr 9 k), some (vr 9 q), some (vi 1)]) (st' := [vi 1]) [.inl (.iload_n 3)] 38 _ _ (by decide +kernel) rfl ?_
  refine aw_if_eq (o := 9) (tgt := 48) (by decide +kernel) (by decide) (by omega) (fun c => absurd c (by omega)) (fun _ => ?_)
  refine aw_blk (pc' := 45) (ls' := [some (vr 5 0), some (vr 9 k), some (vr 9 q), some (vi 1)]) (st' := [vr 9 q, vr 9 k, vr 5 0]) [.inl (.aload_n 0), .inl (.aload_n 1), .inl (.aload_n 2)] 42 _ _ (by decide +kernel) rfl ?_
  refine aw_callV (M' := M_J_pairLikes) (idx := 48) (as := [vr 9 k, vr 9 q]) (st := []) (Qr' := fun r h => r = none ∧ ∃ fa fb fw fl sl_, (∀ k, k < n → fl k = lfA at_ wt at2 wt2 m W W2 n k) ∧ (∀ k, k < m → sl_ k = lfB at_ wt at2 wt2 W W2 n k) ∧ jr fa fb fw (lkL at_ wt at2 wt2 m W W2 n) ∧ h = Hp b s t mk df (sgJ ((lkL at_ wt at2 wt2 m W W2 n).length : Int) (W * W2) fa fb fw fl sl_) tr di mo dy) (Qt' := fun _ => False) ?_ (by decide +kernel) (show vOK "ChanceBench$Joint" 48 M_J_pairLikes 2 = true by decide +kernel) rfl rfl rfl (Nat.le_of_ble_eq_true rfl) (by decide) (by decide) (by decide) (fun _ z => z.elim) (fun r h9 z => ?_)
  · refine am_entry (by decide +kernel) (Nat.le_of_ble_eq_true rfl) ?_
    refine aw_blk (pc' := 2) (ls' := [some (vr 5 0), some (vr 9 k), some (vr 9 q), some (vi 0), none]) (st' := []) [.inl (.iconst 0), .inl (.istore_n 3)] 0 _ _ (by decide +kernel) rfl ?_
    exact l_J_lk hA hA2 A A2 n 0 fa fb fw _ _ none (by omega) (fun k hk => by rw [mp_lt hk]; unfold lfA; rw [if_neg (by omega)]) (fun k hk => by rw [mp_lt hk]; unfold lfB; rw [show den at_ wt 0 (at2 k) = 0 from rfl, Int.zero_mul]; have := Int.mul_nonneg (show 0 ≤ wt2 k by have := (A2.2.2.1 k hk).2; omega) (show 0 ≤ W by omega); unfold mn; rw [if_neg (by omega), Int.sub_zero]) jr_0 (fun fa fb fw fl sl_ h1 h2 h3 => ⟨rfl, fa, fb, fw, fl, sl_, h1, h2, h3, rfl⟩)
  · obtain ⟨rfl, fa, fb, fw, fl, sl_, hF, hS, hR, rfl⟩ := z
    refine aw_blk (pc' := 51) (ls' := [some (vr 5 0), some (vr 9 k), some (vr 9 q), some (vi 1)]) (st' := [vr 9 q, vr 9 k, vr 5 0]) [.inl (.aload_n 0), .inl (.aload_n 1), .inl (.aload_n 2)] 48 _ _ (by decide +kernel) rfl ?_
    refine aw_callV (M' := M_J_pairNorthwest) (idx := 52) (as := [vr 9 k, vr 9 q]) (st := []) (Qr' := fun r h => r = none ∧ ∃ js fa9 fb9 fw9 fl9 sl9, js = (lkL at_ wt at2 wt2 m W W2 n) ++ nw (tab at_ fl 0 n) (tab at2 sl_ 0 m) ∧ jr fa9 fb9 fw9 js ∧ h = Hp b s t mk df (sgJ (js.length : Int) (W * W2) fa9 fb9 fw9 fl9 sl9) tr di mo dy) (Qt' := fun _ => False) ?_ (by decide +kernel) (show vOK "ChanceBench$Joint" 52 M_J_pairNorthwest 2 = true by decide +kernel) rfl rfl rfl (Nat.le_of_ble_eq_true rfl) (by decide) (by decide) (by decide) (fun _ z => z.elim) (fun r h9 z => ?_)
    · refine am_entry (by decide +kernel) (Nat.le_of_ble_eq_true rfl) ?_
      refine aw_blk (pc' := 5) (ls' := [some (vr 5 0), some (vr 9 k), some (vr 9 q), some (vi 0), some (vi 0)]) (st' := []) [.inl (.iconst 0), .inl (.istore_n 3), .inl (.iconst 0), .inl (.istore 4)] 0 _ _ (by decide +kernel) rfl ?_
      exact l_J_nw hA hA2 A A2 (n + m + 1) 0 0 (lkL at_ wt at2 wt2 m W W2 n) fa fb fw fl sl_ (by omega) (by omega) (by omega) (fun k hk => by rw [hF k hk]; exact lfA_nn A A2 hk) (fun k hk => by rw [hS k hk]; exact lfB_nn) hR (by have := lkL_len at_ wt at2 wt2 m W W2 n; omega) (fun js2 fa fb fw fl2 sl2 e1 e2 => ⟨rfl, js2, fa, fb, fw, fl2, sl2, e1, e2, rfl⟩)
    · obtain ⟨rfl, js, fa2, fb2, fw2, fl2, sl2, e1, e2, rfl⟩ := z
      have e3 : js = jn n m at_ wt at2 wt2 W W2 true := (by rw [e1, jn, if_pos rfl, tab_ext (g := fl) (fun k _ hk => hF k (by omega)), tab_ext (g := sl_) (fun k _ hk => hS k (by omega))])
      subst e3
      exact aw_vret (by decide +kernel) rfl (by decide) (by decide) ⟨rfl, fa2, fb2, fw2, fl2, sl2, e2, rfl⟩

theorem m_J_make_0 {z0 : Int} {fa fb fw fl sl_ : Nat → Int} (hA : isD dy k k1 k2 n at_ wt W) (hA2 : isD dy q q1 q2 m at2 wt2 W2) (A : lwN n at_ wt W) (A2 : lwN m at2 wt2 W2) : AMet G M_J_make [vr 5 0, vr 9 k, vr 9 q, vi 0] (Hp b s t mk df (sgJ z0 wh fa fb fw fl sl_) tr di mo dy) (fun r h => r = none ∧ ∃ fa fb fw fl sl_, jr fa fb fw (jn n m at_ wt at2 wt2 W W2 false) ∧ h = Hp b s t mk df (sgJ ((jn n m at_ wt at2 wt2 W W2 false).length : Int) (W * W2) fa fb fw fl sl_) tr di mo dy) (fun _ => False) := by
  refine am_entry (by decide +kernel) (Nat.le_of_ble_eq_true rfl) ?_
  have hW1 := A.2.2.2.1
  have hW2 := A2.2.2.2.1
  have hW3 := A.2.2.2.2.1
  have hW4 := A2.2.2.2.2.1
  have hm := mulB (x := W) (y := W2) (by omega) (by omega) (by omega) (by omega)
  have hn1 := A.1
  have hn2 := A2.1
  refine aw_blk (pc' := 2) (ls' := [some (vr 5 0), some (vr 9 k), some (vr 9 q), some (vi 0)]) (st' := [vi 0, vr 5 0]) [.inl (.aload_n 0), .inl (.iconst 0)] 0 _ _ (by decide +kernel) rfl ?_
  refine aw_put (idx := 28) (ci := 5) (k := 5) (h' := Hp b s t mk df [some (ob 5 [vr 5 1, vr 5 2, vr 5 3, vr 5 4, vr 5 5, vi 0, vl wh]), some (ar 0 72 fa), some (ar 0 72 fb), some (ar 1 72 fw), some (ar 1 24 fl), some (ar 1 24 sl_)] tr di mo dy) (by decide +kernel) (by decide +kernel) rfl (Nat.le_of_ble_eq_true rfl) (show I32 _ from by omega) rfl ?_
  refine aw_blk (pc' := 8) (ls' := [some (vr 5 0), some (vr 9 k), some (vr 9 q), some (vi 0)]) (st' := [vr 9 q, vr 9 k, vr 5 0]) [.inl (.aload_n 0), .inl (.aload_n 1), .inl (.aload_n 2)] 5 _ _ (by decide +kernel) rfl ?_
  refine aw_dSN (cs' := 0) (sl' := 0) (pc' := 11) (st' := [vl (W * W2), vr 5 0]) (idx := 36) (as := [vr 9 k, vr 9 q]) (st := [vr 5 0]) (m_B_product hA.L hA2.L) (by decide +kernel) (show snOK "ChanceBench$Joint" 36 M_B_product 2 = true by decide +kernel) rfl (Nat.le_of_ble_eq_true rfl) (by decide) (by decide) (by decide) rfl rfl rfl rfl ?_
  refine aw_put (idx := 32) (ci := 5) (k := 6) (h' := Hp b s t mk df [some (ob 5 [vr 5 1, vr 5 2, vr 5 3, vr 5 4, vr 5 5, vi 0, vl (W * W2)]), some (ar 0 72 fa), some (ar 0 72 fb), some (ar 1 72 fw), some (ar 1 24 fl), some (ar 1 24 sl_)] tr di mo dy) (by decide +kernel) (by decide +kernel) rfl (Nat.le_of_ble_eq_true rfl) (show I64 _ from by omega) rfl ?_
  refine aw_blk (pc' := 20) (ls' := [some (vr 5 0), some (vr 9 k), some (vr 9 q), some (vi 0)]) (st' := [vr 9 q, vr 9 k, vr 5 4]) [.inl (.aload_n 0), .inr (22, 5, 3), .inl (.aload_n 1), .inl (.aload_n 2)] 14 _ _ (by decide +kernel) rfl ?_
  refine aw_get (idx := 40) (ci := 9) (f := 2) (by decide +kernel) (by decide +kernel) hA2.1 rfl ?_
  refine aw_dS (cs' := 0) (sl' := 0) (pc' := 26) (st' := []) (idx := 44) (as := [vr 5 4, vr 9 k, vi W2]) (st := []) (m_J_fill4 (sz := 0) hA A (by omega)) (by decide +kernel) (show sOK "ChanceBench$Joint" 44 M_J_fill 3 = true by decide +kernel) rfl (Nat.le_of_ble_eq_true rfl) (by decide) (by decide) (by decide) rfl rfl rfl rfl ?_
  refine aw_blk (pc' := 32) (ls' := [some (vr 5 0), some (vr 9 k), some (vr 9 q), some (vi 0)]) (st' := [vr 9 k, vr 9 q, vr 5 5]) [.inl (.aload_n 0), .inr (25, 5, 4), .inl (.aload_n 2), .inl (.aload_n 1)] 26 _ _ (by decide +kernel) rfl ?_
  refine aw_get (idx := 40) (ci := 9) (f := 2) (by decide +kernel) (by decide +kernel) hA.1 rfl ?_
  refine aw_dS (cs' := 0) (sl' := 0) (pc' := 38) (st' := []) (idx := 44) (as := [vr 5 5, vr 9 q, vi W]) (st := []) (m_J_fill5 (sz := 0) hA2 A2 (by omega)) (by decide +kernel) (show sOK "ChanceBench$Joint" 44 M_J_fill 3 = true by decide +kernel) rfl (Nat.le_of_ble_eq_true rfl) (by decide) (by decide) (by decide) rfl rfl rfl rfl ?_
  refine aw_blk (pc' := 39) (ls' := [some (vr 5 0), some (vr 9 k), some (vr 9 q), some (vi 0)]) (st' := [vi 0]) [.inl (.iload_n 3)] 38 _ _ (by decide +kernel) rfl ?_
  refine aw_if_eq (o := 9) (tgt := 48) (by decide +kernel) (by decide) (by omega) (fun _ => ?_) (fun c => absurd (by omega) c)
  refine aw_blk (pc' := 51) (ls' := [some (vr 5 0), some (vr 9 k), some (vr 9 q), some (vi 0)]) (st' := [vr 9 q, vr 9 k, vr 5 0]) [.inl (.aload_n 0), .inl (.aload_n 1), .inl (.aload_n 2)] 48 _ _ (by decide +kernel) rfl ?_
  refine aw_callV (M' := M_J_pairNorthwest) (idx := 52) (as := [vr 9 k, vr 9 q]) (st := []) (Qr' := fun r h => r = none ∧ ∃ js fa9 fb9 fw9 fl9 sl9, js = [] ++ nw (tab at_ (mp (fun x => wt x * W2) fl n) 0 n) (tab at2 (mp (fun x => wt2 x * W) sl_ m) 0 m) ∧ jr fa9 fb9 fw9 js ∧ h = Hp b s t mk df (sgJ (js.length : Int) (W * W2) fa9 fb9 fw9 fl9 sl9) tr di mo dy) (Qt' := fun _ => False) ?_ (by decide +kernel) (show vOK "ChanceBench$Joint" 52 M_J_pairNorthwest 2 = true by decide +kernel) rfl rfl rfl (Nat.le_of_ble_eq_true rfl) (by decide) (by decide) (by decide) (fun _ z => z.elim) (fun r h9 z => ?_)
  · refine am_entry (by decide +kernel) (Nat.le_of_ble_eq_true rfl) ?_
    refine aw_blk (pc' := 5) (ls' := [some (vr 5 0), some (vr 9 k), some (vr 9 q), some (vi 0), some (vi 0)]) (st' := []) [.inl (.iconst 0), .inl (.istore_n 3), .inl (.iconst 0), .inl (.istore 4)] 0 _ _ (by decide +kernel) rfl ?_
    exact l_J_nw hA hA2 A A2 (n + m + 1) 0 0 [] fa fb fw (mp (fun x => wt x * W2) fl n) (mp (fun x => wt2 x * W) sl_ m) (by omega) (by omega) (by omega) (fun k hk => by rw [mp_lt hk]; exact Int.mul_nonneg (by have := (A.2.2.1 k hk).2; omega) (by omega)) (fun k hk => by rw [mp_lt hk]; exact Int.mul_nonneg (by have := (A2.2.2.1 k hk).2; omega) (by omega)) jr_0 (by simp) (fun js2 fa fb fw fl2 sl2 e1 e2 => ⟨rfl, js2, fa, fb, fw, fl2, sl2, e1, e2, rfl⟩)
  · obtain ⟨rfl, js, fa2, fb2, fw2, fl2, sl2, e1, e2, rfl⟩ := z
    have e3 : js = jn n m at_ wt at2 wt2 W W2 false := (by rw [e1, jn, if_neg (by decide), List.nil_append, tab_ext (g := mp (fun x => wt x * W2) fl n) (fun k _ hk => mp_lt (by omega)), tab_ext (g := mp (fun x => wt2 x * W) sl_ m) (fun k _ hk => mp_lt (by omega))])
    subst e3
    exact aw_vret (by decide +kernel) rfl (by decide) (by decide) ⟨rfl, fa2, fb2, fw2, fl2, sl2, e2, rfl⟩

end
