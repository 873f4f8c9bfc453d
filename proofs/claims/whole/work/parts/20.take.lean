/-- a law's object in the dynamic segment; a law's numbers -/
abbrev isD (dy : SG) (k k1 k2 n : Nat) (at_ wt : Nat → Int) (W : Int) : Prop := dyg dy k = some (ob 9 [vr 9 k1, vr 9 k2, vi W]) ∧ dyg dy k1 = some (ar 0 n at_) ∧ dyg dy k2 = some (ar 0 n wt)
def lwN (n : Nat) (at_ wt : Nat → Int) (W : Int) : Prop := (1 ≤ n ∧ n ≤ 24) ∧ inc at_ n ∧ (∀ i, i < n → (-1000 ≤ at_ i ∧ at_ i ≤ 1000) ∧ 1 ≤ wt i ∧ wt i ≤ W) ∧ 1 ≤ W ∧ W ≤ 1048576 ∧ W = sumZ wt n
theorem isD.L {b s t mk df jo tr di mo dy : SG} {k k1 k2 n : Nat} {at_ wt : Nat → Int} {W : Int} (h : isD dy k k1 k2 n at_ wt W) : isL (Hp b s t mk df jo tr di mo dy) k k1 k2 n at_ wt W := h
theorem sumZ_ext {f g : Nat → Int} : ∀ {n : Nat}, (∀ i, i < n → f i = g i) → sumZ f n = sumZ g n
  | 0, _ => rfl
  | n + 1, h => by simp only [sumZ]; rw [sumZ_ext (fun i hi => h i (by omega)), h n (by omega)]
section
variable {D B at_ wt at2 wt2 : Nat → Int} {L n m i j : Nat} {v c u W W2 : Int}
theorem den_n : den (va_up D L v) (va_up B L c) (L + 1) u = den D B L u + (if v = u then c else 0) := by
  unfold den
  simp only [sumZ]
  congr 1
  · refine sumZ_ext (fun i hi => ?_)
    have : i ≠ L := by omega
    simp only [va_up, if_neg this]
  · simp only [va_up, if_true]
theorem den_h (hL : 0 < L) (he : D (L - 1) = v) : den D (va_up B (L - 1) (B (L - 1) + c)) L u = den D B L u + (if v = u then c else 0) := by
  obtain ⟨l, rfl⟩ : ∃ l, L = l + 1 := ⟨L - 1, by omega⟩
  rw [Nat.add_sub_cancel] at he ⊢
  unfold den
  simp only [sumZ]
  rw [show sumZ (fun i => if D i = u then va_up B l (B l + c) i else 0) l = sumZ (fun i => if D i = u then B i else 0) l from sumZ_ext (fun i hi => by
    have : i ≠ l := by omega
    simp only [va_up, if_neg this])]
  simp only [va_up, if_true, he]
  split <;> omega
theorem den_s (f g : Nat → Int) (i : Nat) (u : Int) : den f g (i + 1) u = den f g i u + (if f i = u then g i else 0) := rfl
def tkI (n m : Nat) (at_ wt at2 wt2 : Nat → Int) (W W2 : Int) (i j L : Nat) (D B : Nat → Int) : Prop :=
  L ≤ i + j ∧ inc D L ∧ (∀ k, k < L → -1000 ≤ D k ∧ D k ≤ 1000) ∧ (∀ u, den D B L u = W2 * den at_ wt i u - W * den at2 wt2 j u) ∧ (0 < L → (i < n → D (L - 1) ≤ at_ i) ∧ (j < m → D (L - 1) ≤ at2 j)) ∧ ∀ k, k < L → -(((i + j : Nat) : Int) * 1099511627776) ≤ B k ∧ B k ≤ ((i + j : Nat) : Int) * 1099511627776
theorem inc_up (h : inc D L) (hv : 0 < L → D (L - 1) < v) : inc (va_up D L v) (L + 1) := by
  intro i j hij hj
  simp only [va_up]
  by_cases h1 : j = L
  · subst h1
    rw [if_neg (by omega), if_pos rfl]
    rcases Nat.lt_or_ge i (j - 1) with z | z
    · have := h i (j - 1) z (by omega); have := hv (by omega); omega
    · have e : i = j - 1 := by omega
      subst e; exact hv (by omega)
  · rw [if_neg h1, if_neg (by omega)]
    exact h i j hij (by omega)
theorem up_in {P : Int → Prop} {F : Nat → Int} {k : Nat} {x : Int} (h : ∀ i, i < L → P (F i)) (hx : P x) : ∀ i, i < L + 1 → P (va_up F L x i) := by
  intro i hi
  simp only [va_up]
  split
  · exact hx
  · exact h i (by omega)
theorem up_in2 {P : Int → Prop} {F : Nat → Int} {k : Nat} {x : Int} (h : ∀ i, i < L → P (F i)) (hx : P x) : ∀ i, i < L → P (va_up F k x i) := by
  intro i hi
  simp only [va_up]
  split
  · exact hx
  · exact h i hi
end
section
variable {D B at_ wt at2 wt2 : Nat → Int} {L n m i j : Nat} {W W2 : Int}
theorem mulB {x y : Int} (h1 : 0 ≤ x) (h2 : x ≤ 1048576) (h3 : 0 ≤ y) (h4 : y ≤ 1048576) : 0 ≤ x * y ∧ x * y ≤ 1099511627776 :=
  ⟨Int.mul_nonneg h1 h3, by have := Int.mul_le_mul h2 h4 h3 (by omega); omega⟩
/-- the next value is the first law's -/
theorem tk_1h (A : lwN n at_ wt W) (A2 : lwN m at2 wt2 W2) (I : tkI n m at_ wt at2 wt2 W W2 i j L D B) (hi : i < n) (hj : j < m → at_ i ≤ at2 j) (hL : 0 < L) (he : D (L - 1) = at_ i) : tkI n m at_ wt at2 wt2 W W2 (i + 1) j L D (va_up B (L - 1) (B (L - 1) + wt i * W2)) := by
  obtain ⟨I1, I2, I3, I4, I5, I6⟩ := I
  have hw := (A.2.2.1 i hi).2
  have hm := mulB (x := wt i) (y := W2) (by omega) (by have := A.2.2.2.2.1; omega) (by have := A2.2.2.2.1; omega) A2.2.2.2.2.1
  refine ⟨by omega, I2, I3, fun u => ?_, fun _ => ⟨fun h => ?_, fun h => ?_⟩, ?_⟩
  · rw [den_h hL he, I4, den_s]; split <;> rw [Int.mul_add] <;> (try rw [Int.mul_comm W2 (wt i)]) <;> omega
  · rw [he]; exact Int.le_of_lt (A.2.1 i (i + 1) (by omega) h)
  · rw [he]; exact hj h
  · refine up_in2 (P := fun z => -(((i + 1 + j : Nat) : Int) * 1099511627776) ≤ z ∧ z ≤ ((i + 1 + j : Nat) : Int) * 1099511627776) (fun k hk => ?_) ?_
    · have := I6 k hk; omega
    · have := I6 (L - 1) (by omega); omega
theorem tk_1n (A : lwN n at_ wt W) (A2 : lwN m at2 wt2 W2) (I : tkI n m at_ wt at2 wt2 W W2 i j L D B) (hi : i < n) (hj : j < m → at_ i ≤ at2 j) (he : ¬ (0 < L ∧ D (L - 1) = at_ i)) : tkI n m at_ wt at2 wt2 W W2 (i + 1) j (L + 1) (va_up D L (at_ i)) (va_up B L (wt i * W2)) := by
  obtain ⟨I1, I2, I3, I4, I5, I6⟩ := I
  have hw := (A.2.2.1 i hi)
  have hm := mulB (x := wt i) (y := W2) (by omega) (by have := A.2.2.2.2.1; omega) (by have := A2.2.2.2.1; omega) A2.2.2.2.2.1
  refine ⟨by omega, inc_up I2 (fun h => ?_), up_in (P := fun z => -1000 ≤ z ∧ z ≤ 1000) (k := 0) I3 hw.1, fun u => ?_, fun _ => ⟨fun h => ?_, fun h => ?_⟩, ?_⟩
  · have := (I5 h).1 hi; omega
  · rw [den_n, I4, den_s]; split <;> rw [Int.mul_add] <;> (try rw [Int.mul_comm W2 (wt i)]) <;> omega
  · simp only [Nat.add_sub_cancel, va_up, if_true]; exact Int.le_of_lt (A.2.1 i (i + 1) (by omega) h)
  · simp only [Nat.add_sub_cancel, va_up, if_true]; exact hj h
  · refine up_in (P := fun z => -(((i + 1 + j : Nat) : Int) * 1099511627776) ≤ z ∧ z ≤ ((i + 1 + j : Nat) : Int) * 1099511627776) (k := 0) (fun k hk => ?_) ?_
    · have := I6 k hk; omega
    · omega
theorem tk_2h (A : lwN n at_ wt W) (A2 : lwN m at2 wt2 W2) (I : tkI n m at_ wt at2 wt2 W W2 i j L D B) (hj : j < m) (hi : i < n → at2 j ≤ at_ i) (hL : 0 < L) (he : D (L - 1) = at2 j) : tkI n m at_ wt at2 wt2 W W2 i (j + 1) L D (va_up B (L - 1) (B (L - 1) + -wt2 j * W)) := by
  obtain ⟨I1, I2, I3, I4, I5, I6⟩ := I
  have hw := (A2.2.2.1 j hj).2
  have hm := mulB (x := wt2 j) (y := W) (by omega) (by have := A2.2.2.2.2.1; omega) (by have := A.2.2.2.1; omega) A.2.2.2.2.1
  rw [Int.neg_mul]
  refine ⟨by omega, I2, I3, fun u => ?_, fun _ => ⟨fun h => ?_, fun h => ?_⟩, ?_⟩
  · rw [den_h hL he, I4, den_s]; split <;> rw [Int.mul_add] <;> (try rw [Int.mul_comm W (wt2 j)]) <;> omega
  · rw [he]; exact hi h
  · rw [he]; exact Int.le_of_lt (A2.2.1 j (j + 1) (by omega) h)
  · refine up_in2 (P := fun z => -(((i + (j + 1) : Nat) : Int) * 1099511627776) ≤ z ∧ z ≤ ((i + (j + 1) : Nat) : Int) * 1099511627776) (fun k hk => ?_) ?_
    · have := I6 k hk; omega
    · have := I6 (L - 1) (by omega); omega
theorem tk_2n (A : lwN n at_ wt W) (A2 : lwN m at2 wt2 W2) (I : tkI n m at_ wt at2 wt2 W W2 i j L D B) (hj : j < m) (hi : i < n → at2 j ≤ at_ i) (he : ¬ (0 < L ∧ D (L - 1) = at2 j)) : tkI n m at_ wt at2 wt2 W W2 i (j + 1) (L + 1) (va_up D L (at2 j)) (va_up B L (-wt2 j * W)) := by
  obtain ⟨I1, I2, I3, I4, I5, I6⟩ := I
  have hw := (A2.2.2.1 j hj)
  have hm := mulB (x := wt2 j) (y := W) (by omega) (by have := A2.2.2.2.2.1; omega) (by have := A.2.2.2.1; omega) A.2.2.2.2.1
  rw [Int.neg_mul]
  refine ⟨by omega, inc_up I2 (fun h => ?_), up_in (P := fun z => -1000 ≤ z ∧ z ≤ 1000) (k := 0) I3 hw.1, fun u => ?_, fun _ => ⟨fun h => ?_, fun h => ?_⟩, ?_⟩
  · have := (I5 h).2 hj; omega
  · rw [den_n, I4, den_s]; split <;> rw [Int.mul_add] <;> (try rw [Int.mul_comm W (wt2 j)]) <;> omega
  · simp only [Nat.add_sub_cancel, va_up, if_true]; exact hi h
  · simp only [Nat.add_sub_cancel, va_up, if_true]; exact Int.le_of_lt (A2.2.1 j (j + 1) (by omega) h)
  · refine up_in (P := fun z => -(((i + (j + 1) : Nat) : Int) * 1099511627776) ≤ z ∧ z ≤ ((i + (j + 1) : Nat) : Int) * 1099511627776) (k := 0) (fun k hk => ?_) ?_
    · have := I6 k hk; omega
    · omega
end
section
variable {G : GT} {h : HT} {b s t mk df jo tr di mo dy : SG} {a c d : Int} {n k k1 k2 q q1 q2 m : Nat} {at_ wt at2 wt2 : Nat → Int} {W W2 : Int}
theorem l_F_take {Qr : Option AV → HT → Prop} {Qt : HT → Prop} (hA : isD dy k k1 k2 n at_ wt W) (hA2 : isD dy q q1 q2 m at2 wt2 W2) (A : lwN n at_ wt W) (A2 : lwN m at2 wt2 W2) : ∀ (e i j L : Nat) (D B : Nat → Int) (x5 : Option AV), (n - i) + (m - j) < e → i ≤ n → j ≤ m → tkI n m at_ wt at2 wt2 W W2 i j L D B → (∀ L D B, tkI n m at_ wt at2 wt2 W W2 n m L D B → Qr none (Hp b s t mk (sgF (L : Int) D B) jo tr di mo dy)) → AW G M_F_take Qr Qt 0 0 10 [some (vr 4 0), some (vr 9 k), some (vr 9 q), some (vi (i : Int)), some (vi (j : Int)), x5] [] (Hp b s t mk (sgF (L : Int) D B) jo tr di mo dy) := by
  intro e
  induction e with
  | zero =>
    intro i j L D B x5 he hi hj I hq
    exact absurd he (by omega)
  | succ e ih =>
    intro i j L D B x5 he hi hj I hq
    refine aw_ls (ls' := [some (vr 4 0), some (vr 9 k), some (vr 9 q), some (vi (i : Int)), some (vi (j : Int)), none]) lsN5 ?_
    have hn1 := A.1
    have hn2 := A2.1
    have hW1 := A.2.2.2.1
    have hW2 := A2.2.2.2.1
    have hW3 := A.2.2.2.2.1
    have hW4 := A2.2.2.2.2.1
    have I1 := I.1
    refine aw_blk (pc' := 12) (ls' := [some (vr 4 0), some (vr 9 k), some (vr 9 q), some (vi (i : Int)), some (vi (j : Int)), none]) (st' := [vr 9 k, vi (i : Int)]) [.inl (.iload_n 3), .inl (.aload_n 1)] 10 _ _ (by decide +kernel) rfl ?_
    refine aw_get (idx := 23) (ci := 9) (f := 0) (by decide +kernel) (by decide +kernel) hA.1 rfl ?_
    refine aw_alen (by decide +kernel) hA.2.1 (fun r15 => ?_)
    refine aw_icmp_lt (o := 13) (tgt := 29) (by decide +kernel) (by decide) (by omega) (by omega) (fun c16 => ?_) (fun c16 => ?_)
    · refine aw_blk (pc' := 32) (ls' := [some (vr 4 0), some (vr 9 k), some (vr 9 q), some (vi (i : Int)), some (vi (j : Int)), none]) (st' := [vr 9 q, vi (j : Int)]) [.inl (.iload 4), .inl (.aload_n 2)] 29 _ _ (by decide +kernel) rfl ?_
      refine aw_get (idx := 23) (ci := 9) (f := 0) (by decide +kernel) (by decide +kernel) hA2.1 rfl ?_
      refine aw_alen (by decide +kernel) hA2.2.1 (fun r35 => ?_)
      refine aw_icmp_ge (o := 28) (tgt := 64) (by decide +kernel) (by decide) (by omega) (by omega) (fun c36 => ?_) (fun c36 => ?_)
      · refine aw_blk (pc' := 65) (ls' := [some (vr 4 0), some (vr 9 k), some (vr 9 q), some (vi (i : Int)), some (vi (j : Int)), none]) (st' := [vi 1]) [.inl (.iconst 1)] 64 _ _ (by decide +kernel) rfl ?_
        refine aw_goto (o := 4) (tgt := 69) (by decide +kernel) (by decide) ?_
        refine aw_blk (pc' := 73) (ls' := [some (vr 4 0), some (vr 9 k), some (vr 9 q), some (vi (i : Int)), some (vi (j : Int)), some (vi 1)]) (st' := [vi 1]) [.inl (.istore 5), .inl (.iload 5)] 69 _ _ (by decide +kernel) rfl ?_
        refine aw_if_eq (o := 32) (tgt := 105) (by decide +kernel) (by decide) (by omega) (fun c => absurd c (by omega)) (fun _ => ?_)
        refine aw_blk (pc' := 78) (ls' := [some (vr 4 0), some (vr 9 k), some (vr 9 q), some (vi (i : Int)), some (vi (j : Int)), some (vi 1)]) (st' := [vr 9 k, vr 4 0]) [.inl (.aload_n 0), .inl (.aload_n 1)] 76 _ _ (by decide +kernel) rfl ?_
        refine aw_get (idx := 23) (ci := 9) (f := 0) (by decide +kernel) (by decide +kernel) hA.1 rfl ?_
        refine aw_blk (pc' := 82) (ls' := [some (vr 4 0), some (vr 9 k), some (vr 9 q), some (vi (i : Int)), some (vi (j : Int)), some (vi 1)]) (st' := [vi (i : Int), vr 9 k1, vr 4 0]) [.inl (.iload_n 3)] 81 _ _ (by decide +kernel) rfl ?_
        refine aw_iald (j := i) (by decide +kernel) hA.2.1 (by omega) (by omega) (fun r82 => ?_)
        refine aw_blk (pc' := 84) (ls' := [some (vr 4 0), some (vr 9 k), some (vr 9 q), some (vi (i : Int)), some (vi (j : Int)), some (vi 1)]) (st' := [vr 9 k, vi (at_ i), vr 4 0]) [.inl (.aload_n 1)] 83 _ _ (by decide +kernel) rfl ?_
        refine aw_get (idx := 26) (ci := 9) (f := 1) (by decide +kernel) (by decide +kernel) hA.1 rfl ?_
        refine aw_blk (pc' := 88) (ls' := [some (vr 4 0), some (vr 9 k), some (vr 9 q), some (vi (i : Int)), some (vi (j : Int)), some (vi 1)]) (st' := [vi (i : Int), vr 9 k2, vi (at_ i), vr 4 0]) [.inl (.iload_n 3)] 87 _ _ (by decide +kernel) rfl ?_
        refine aw_iald (j := i) (by decide +kernel) hA.2.2 (by omega) (by omega) (fun r88 => ?_)
        refine aw_i2l (by decide +kernel) (by omega) ?_
        refine aw_blk (pc' := 91) (ls' := [some (vr 4 0), some (vr 9 k), some (vr 9 q), some (vi (i : Int)), some (vi (j : Int)), some (vi 1)]) (st' := [vr 9 q, vl (wt i), vi (at_ i), vr 4 0]) [.inl (.aload_n 2)] 90 _ _ (by decide +kernel) rfl ?_
        refine aw_get (idx := 29) (ci := 9) (f := 2) (by decide +kernel) (by decide +kernel) hA2.1 rfl ?_
        refine aw_i2l (by decide +kernel) (by omega) ?_
        refine aw_blk (pc' := 96) (ls' := [some (vr 4 0), some (vr 9 k), some (vr 9 q), some (vi (i : Int)), some (vi (j : Int)), some (vi 1)]) (st' := [vl ((wt i) * W2), vi (at_ i), vr 4 0]) [.inl (.lmul)] 95 _ _ (by decide +kernel) rfl ?_
        have hw := (A.2.2.1 i (by omega))
        have hm := mulB (x := wt i) (y := W2) (by omega) (by omega) (by omega) (by omega)
        rcases Decidable.em (0 < L ∧ D (L - 1) = at_ i) with c9 | c9
        · have hb := I.2.2.2.2.2 (L - 1) (by omega)
          refine aw_dV (cs' := 0) (sl' := 0) (pc' := 99) (st' := []) (idx := 32) (as := [vi (at_ i), vl ((wt i) * W2)]) (st := []) (m_F_note_h (by omega) (by omega) c9.2 (by omega)) (by decide +kernel) (show vOK "ChanceBench$Difference" 32 M_F_note 2 = true by decide +kernel) rfl rfl rfl (Nat.le_of_ble_eq_true rfl) (by decide) (by decide) (by decide) rfl rfl rfl rfl ?_
          refine aw_blk (pc' := 102) (ls' := [some (vr 4 0), some (vr 9 k), some (vr 9 q), some (vi ((i : Int) + 1)), some (vi (j : Int)), some (vi 1)]) (st' := []) [.inl (.iinc 3 1)] 99 _ _ (by decide +kernel) rfl ?_
          refine aw_goto (o := 32) (tgt := 134) (by decide +kernel) (by decide) ?_
          refine aw_goto (o := -124) (tgt := 10) (by decide +kernel) (by decide) ?_
          exact ih (i + 1) (j) _ _ _ _ (by omega) (by omega) (by omega) (tk_1h A A2 I (by omega) (fun h => by omega) c9.1 c9.2) hq
        · refine aw_dV (cs' := 0) (sl' := 0) (pc' := 99) (st' := []) (idx := 32) (as := [vi (at_ i), vl ((wt i) * W2)]) (st := []) (m_F_note_n (by omega) (by omega) (by omega) (fun h1 h2 => c9 ⟨h1, h2⟩)) (by decide +kernel) (show vOK "ChanceBench$Difference" 32 M_F_note 2 = true by decide +kernel) rfl rfl rfl (Nat.le_of_ble_eq_true rfl) (by decide) (by decide) (by decide) rfl rfl rfl rfl ?_
          refine aw_blk (pc' := 102) (ls' := [some (vr 4 0), some (vr 9 k), some (vr 9 q), some (vi ((i : Int) + 1)), some (vi (j : Int)), some (vi 1)]) (st' := []) [.inl (.iinc 3 1)] 99 _ _ (by decide +kernel) rfl ?_
          refine aw_goto (o := 32) (tgt := 134) (by decide +kernel) (by decide) ?_
          refine aw_goto (o := -124) (tgt := 10) (by decide +kernel) (by decide) ?_
          exact ih (i + 1) (j) (L + 1) _ _ _ (by omega) (by omega) (by omega) (tk_1n A A2 I (by omega) (fun h => by omega) c9) hq
      · refine aw_blk (pc' := 41) (ls' := [some (vr 4 0), some (vr 9 k), some (vr 9 q), some (vi (i : Int)), some (vi (j : Int)), none]) (st' := [vr 9 k, vi (i : Int)]) [.inl (.iload_n 3), .inl (.aload_n 1)] 39 _ _ (by decide +kernel) rfl ?_
        refine aw_get (idx := 23) (ci := 9) (f := 0) (by decide +kernel) (by decide +kernel) hA.1 rfl ?_
        refine aw_alen (by decide +kernel) hA.2.1 (fun r44 => ?_)
        refine aw_icmp_ge (o := 23) (tgt := 68) (by decide +kernel) (by decide) (by omega) (by omega) (fun c45 => ?_) (fun c45 => ?_)
        · refine aw_blk (pc' := 69) (ls' := [some (vr 4 0), some (vr 9 k), some (vr 9 q), some (vi (i : Int)), some (vi (j : Int)), none]) (st' := [vi 0]) [.inl (.iconst 0)] 68 _ _ (by decide +kernel) rfl ?_
          refine aw_blk (pc' := 73) (ls' := [some (vr 4 0), some (vr 9 k), some (vr 9 q), some (vi (i : Int)), some (vi (j : Int)), some (vi 0)]) (st' := [vi 0]) [.inl (.istore 5), .inl (.iload 5)] 69 _ _ (by decide +kernel) rfl ?_
          refine aw_if_eq (o := 32) (tgt := 105) (by decide +kernel) (by decide) (by omega) (fun _ => ?_) (fun c => absurd (by omega) c)
          refine aw_blk (pc' := 107) (ls' := [some (vr 4 0), some (vr 9 k), some (vr 9 q), some (vi (i : Int)), some (vi (j : Int)), some (vi 0)]) (st' := [vr 9 q, vr 4 0]) [.inl (.aload_n 0), .inl (.aload_n 2)] 105 _ _ (by decide +kernel) rfl ?_
          refine aw_get (idx := 23) (ci := 9) (f := 0) (by decide +kernel) (by decide +kernel) hA2.1 rfl ?_
          refine aw_blk (pc' := 112) (ls' := [some (vr 4 0), some (vr 9 k), some (vr 9 q), some (vi (i : Int)), some (vi (j : Int)), some (vi 0)]) (st' := [vi (j : Int), vr 9 q1, vr 4 0]) [.inl (.iload 4)] 110 _ _ (by decide +kernel) rfl ?_
          refine aw_iald (j := j) (by decide +kernel) hA2.2.1 (by omega) (by omega) (fun r112 => ?_)
          refine aw_blk (pc' := 114) (ls' := [some (vr 4 0), some (vr 9 k), some (vr 9 q), some (vi (i : Int)), some (vi (j : Int)), some (vi 0)]) (st' := [vr 9 q, vi (at2 j), vr 4 0]) [.inl (.aload_n 2)] 113 _ _ (by decide +kernel) rfl ?_
          refine aw_get (idx := 26) (ci := 9) (f := 1) (by decide +kernel) (by decide +kernel) hA2.1 rfl ?_
          refine aw_blk (pc' := 119) (ls' := [some (vr 4 0), some (vr 9 k), some (vr 9 q), some (vi (i : Int)), some (vi (j : Int)), some (vi 0)]) (st' := [vi (j : Int), vr 9 q2, vi (at2 j), vr 4 0]) [.inl (.iload 4)] 117 _ _ (by decide +kernel) rfl ?_
          refine aw_iald (j := j) (by decide +kernel) hA2.2.2 (by omega) (by omega) (fun r119 => ?_)
          refine aw_i2l (by decide +kernel) (by omega) ?_
          refine aw_blk (pc' := 123) (ls' := [some (vr 4 0), some (vr 9 k), some (vr 9 q), some (vi (i : Int)), some (vi (j : Int)), some (vi 0)]) (st' := [vr 9 k, vl (-(wt2 j)), vi (at2 j), vr 4 0]) [.inl (.lneg), .inl (.aload_n 1)] 121 _ _ (by decide +kernel) rfl ?_
          refine aw_get (idx := 29) (ci := 9) (f := 2) (by decide +kernel) (by decide +kernel) hA.1 rfl ?_
          refine aw_i2l (by decide +kernel) (by omega) ?_
          refine aw_blk (pc' := 128) (ls' := [some (vr 4 0), some (vr 9 k), some (vr 9 q), some (vi (i : Int)), some (vi (j : Int)), some (vi 0)]) (st' := [vl ((-(wt2 j)) * W), vi (at2 j), vr 4 0]) [.inl (.lmul)] 127 _ _ (by decide +kernel) rfl ?_
          have hw := (A2.2.2.1 j (by omega))
          have hm := mulB (x := wt2 j) (y := W) (by omega) (by omega) (by omega) (by omega)
          have hmn : -wt2 j * W = -(wt2 j * W) := Int.neg_mul _ _
          rcases Decidable.em (0 < L ∧ D (L - 1) = at2 j) with c9 | c9
          · have hb := I.2.2.2.2.2 (L - 1) (by omega)
            refine aw_dV (cs' := 0) (sl' := 0) (pc' := 131) (st' := []) (idx := 32) (as := [vi (at2 j), vl ((-(wt2 j)) * W)]) (st := []) (m_F_note_h (by omega) (by omega) c9.2 (by omega)) (by decide +kernel) (show vOK "ChanceBench$Difference" 32 M_F_note 2 = true by decide +kernel) rfl rfl rfl (Nat.le_of_ble_eq_true rfl) (by decide) (by decide) (by decide) rfl rfl rfl rfl ?_
            refine aw_blk (pc' := 134) (ls' := [some (vr 4 0), some (vr 9 k), some (vr 9 q), some (vi (i : Int)), some (vi ((j : Int) + 1)), some (vi 0)]) (st' := []) [.inl (.iinc 4 1)] 131 _ _ (by decide +kernel) rfl ?_
            refine aw_goto (o := -124) (tgt := 10) (by decide +kernel) (by decide) ?_
            exact ih (i) (j + 1) _ _ _ _ (by omega) (by omega) (by omega) (tk_2h A A2 I (by omega) (fun h => by omega) c9.1 c9.2) hq
          · refine aw_dV (cs' := 0) (sl' := 0) (pc' := 131) (st' := []) (idx := 32) (as := [vi (at2 j), vl ((-(wt2 j)) * W)]) (st := []) (m_F_note_n (by omega) (by omega) (by omega) (fun h1 h2 => c9 ⟨h1, h2⟩)) (by decide +kernel) (show vOK "ChanceBench$Difference" 32 M_F_note 2 = true by decide +kernel) rfl rfl rfl (Nat.le_of_ble_eq_true rfl) (by decide) (by decide) (by decide) rfl rfl rfl rfl ?_
            refine aw_blk (pc' := 134) (ls' := [some (vr 4 0), some (vr 9 k), some (vr 9 q), some (vi (i : Int)), some (vi ((j : Int) + 1)), some (vi 0)]) (st' := []) [.inl (.iinc 4 1)] 131 _ _ (by decide +kernel) rfl ?_
            refine aw_goto (o := -124) (tgt := 10) (by decide +kernel) (by decide) ?_
            exact ih (i) (j + 1) (L + 1) _ _ _ (by omega) (by omega) (by omega) (tk_2n A A2 I (by omega) (fun h => by omega) c9) hq
        · refine aw_blk (pc' := 49) (ls' := [some (vr 4 0), some (vr 9 k), some (vr 9 q), some (vi (i : Int)), some (vi (j : Int)), none]) (st' := [vr 9 k]) [.inl (.aload_n 1)] 48 _ _ (by decide +kernel) rfl ?_
          refine aw_get (idx := 23) (ci := 9) (f := 0) (by decide +kernel) (by decide +kernel) hA.1 rfl ?_
          refine aw_blk (pc' := 53) (ls' := [some (vr 4 0), some (vr 9 k), some (vr 9 q), some (vi (i : Int)), some (vi (j : Int)), none]) (st' := [vi (i : Int), vr 9 k1]) [.inl (.iload_n 3)] 52 _ _ (by decide +kernel) rfl ?_
          refine aw_iald (j := i) (by decide +kernel) hA.2.1 (by omega) (by omega) (fun r53 => ?_)
          refine aw_blk (pc' := 55) (ls' := [some (vr 4 0), some (vr 9 k), some (vr 9 q), some (vi (i : Int)), some (vi (j : Int)), none]) (st' := [vr 9 q, vi (at_ i)]) [.inl (.aload_n 2)] 54 _ _ (by decide +kernel) rfl ?_
          refine aw_get (idx := 23) (ci := 9) (f := 0) (by decide +kernel) (by decide +kernel) hA2.1 rfl ?_
          refine aw_blk (pc' := 60) (ls' := [some (vr 4 0), some (vr 9 k), some (vr 9 q), some (vi (i : Int)), some (vi (j : Int)), none]) (st' := [vi (j : Int), vr 9 q1, vi (at_ i)]) [.inl (.iload 4)] 58 _ _ (by decide +kernel) rfl ?_
          refine aw_iald (j := j) (by decide +kernel) hA2.2.1 (by omega) (by omega) (fun r60 => ?_)
          refine aw_icmp_gt (o := 7) (tgt := 68) (by decide +kernel) (by decide) (by omega) (by omega) (fun c61 => ?_) (fun c61 => ?_)
          · refine aw_blk (pc' := 69) (ls' := [some (vr 4 0), some (vr 9 k), some (vr 9 q), some (vi (i : Int)), some (vi (j : Int)), none]) (st' := [vi 0]) [.inl (.iconst 0)] 68 _ _ (by decide +kernel) rfl ?_
            refine aw_blk (pc' := 73) (ls' := [some (vr 4 0), some (vr 9 k), some (vr 9 q), some (vi (i : Int)), some (vi (j : Int)), some (vi 0)]) (st' := [vi 0]) [.inl (.istore 5), .inl (.iload 5)] 69 _ _ (by decide +kernel) rfl ?_
            refine aw_if_eq (o := 32) (tgt := 105) (by decide +kernel) (by decide) (by omega) (fun _ => ?_) (fun c => absurd (by omega) c)
            refine aw_blk (pc' := 107) (ls' := [some (vr 4 0), some (vr 9 k), some (vr 9 q), some (vi (i : Int)), some (vi (j : Int)), some (vi 0)]) (st' := [vr 9 q, vr 4 0]) [.inl (.aload_n 0), .inl (.aload_n 2)] 105 _ _ (by decide +kernel) rfl ?_
            refine aw_get (idx := 23) (ci := 9) (f := 0) (by decide +kernel) (by decide +kernel) hA2.1 rfl ?_
            refine aw_blk (pc' := 112) (ls' := [some (vr 4 0), some (vr 9 k), some (vr 9 q), some (vi (i : Int)), some (vi (j : Int)), some (vi 0)]) (st' := [vi (j : Int), vr 9 q1, vr 4 0]) [.inl (.iload 4)] 110 _ _ (by decide +kernel) rfl ?_
            refine aw_iald (j := j) (by decide +kernel) hA2.2.1 (by omega) (by omega) (fun r112 => ?_)
            refine aw_blk (pc' := 114) (ls' := [some (vr 4 0), some (vr 9 k), some (vr 9 q), some (vi (i : Int)), some (vi (j : Int)), some (vi 0)]) (st' := [vr 9 q, vi (at2 j), vr 4 0]) [.inl (.aload_n 2)] 113 _ _ (by decide +kernel) rfl ?_
            refine aw_get (idx := 26) (ci := 9) (f := 1) (by decide +kernel) (by decide +kernel) hA2.1 rfl ?_
            refine aw_blk (pc' := 119) (ls' := [some (vr 4 0), some (vr 9 k), some (vr 9 q), some (vi (i : Int)), some (vi (j : Int)), some (vi 0)]) (st' := [vi (j : Int), vr 9 q2, vi (at2 j), vr 4 0]) [.inl (.iload 4)] 117 _ _ (by decide +kernel) rfl ?_
            refine aw_iald (j := j) (by decide +kernel) hA2.2.2 (by omega) (by omega) (fun r119 => ?_)
            refine aw_i2l (by decide +kernel) (by omega) ?_
            refine aw_blk (pc' := 123) (ls' := [some (vr 4 0), some (vr 9 k), some (vr 9 q), some (vi (i : Int)), some (vi (j : Int)), some (vi 0)]) (st' := [vr 9 k, vl (-(wt2 j)), vi (at2 j), vr 4 0]) [.inl (.lneg), .inl (.aload_n 1)] 121 _ _ (by decide +kernel) rfl ?_
            refine aw_get (idx := 29) (ci := 9) (f := 2) (by decide +kernel) (by decide +kernel) hA.1 rfl ?_
            refine aw_i2l (by decide +kernel) (by omega) ?_
            refine aw_blk (pc' := 128) (ls' := [some (vr 4 0), some (vr 9 k), some (vr 9 q), some (vi (i : Int)), some (vi (j : Int)), some (vi 0)]) (st' := [vl ((-(wt2 j)) * W), vi (at2 j), vr 4 0]) [.inl (.lmul)] 127 _ _ (by decide +kernel) rfl ?_
            have hw := (A2.2.2.1 j (by omega))
            have hm := mulB (x := wt2 j) (y := W) (by omega) (by omega) (by omega) (by omega)
            have hmn : -wt2 j * W = -(wt2 j * W) := Int.neg_mul _ _
            rcases Decidable.em (0 < L ∧ D (L - 1) = at2 j) with c9 | c9
            · have hb := I.2.2.2.2.2 (L - 1) (by omega)
              refine aw_dV (cs' := 0) (sl' := 0) (pc' := 131) (st' := []) (idx := 32) (as := [vi (at2 j), vl ((-(wt2 j)) * W)]) (st := []) (m_F_note_h (by omega) (by omega) c9.2 (by omega)) (by decide +kernel) (show vOK "ChanceBench$Difference" 32 M_F_note 2 = true by decide +kernel) rfl rfl rfl (Nat.le_of_ble_eq_true rfl) (by decide) (by decide) (by decide) rfl rfl rfl rfl ?_
              refine aw_blk (pc' := 134) (ls' := [some (vr 4 0), some (vr 9 k), some (vr 9 q), some (vi (i : Int)), some (vi ((j : Int) + 1)), some (vi 0)]) (st' := []) [.inl (.iinc 4 1)] 131 _ _ (by decide +kernel) rfl ?_
              refine aw_goto (o := -124) (tgt := 10) (by decide +kernel) (by decide) ?_
              exact ih (i) (j + 1) _ _ _ _ (by omega) (by omega) (by omega) (tk_2h A A2 I (by omega) (fun h => by omega) c9.1 c9.2) hq
            · refine aw_dV (cs' := 0) (sl' := 0) (pc' := 131) (st' := []) (idx := 32) (as := [vi (at2 j), vl ((-(wt2 j)) * W)]) (st := []) (m_F_note_n (by omega) (by omega) (by omega) (fun h1 h2 => c9 ⟨h1, h2⟩)) (by decide +kernel) (show vOK "ChanceBench$Difference" 32 M_F_note 2 = true by decide +kernel) rfl rfl rfl (Nat.le_of_ble_eq_true rfl) (by decide) (by decide) (by decide) rfl rfl rfl rfl ?_
              refine aw_blk (pc' := 134) (ls' := [some (vr 4 0), some (vr 9 k), some (vr 9 q), some (vi (i : Int)), some (vi ((j : Int) + 1)), some (vi 0)]) (st' := []) [.inl (.iinc 4 1)] 131 _ _ (by decide +kernel) rfl ?_
              refine aw_goto (o := -124) (tgt := 10) (by decide +kernel) (by decide) ?_
              exact ih (i) (j + 1) (L + 1) _ _ _ (by omega) (by omega) (by omega) (tk_2n A A2 I (by omega) (fun h => by omega) c9) hq
          · refine aw_blk (pc' := 65) (ls' := [some (vr 4 0), some (vr 9 k), some (vr 9 q), some (vi (i : Int)), some (vi (j : Int)), none]) (st' := [vi 1]) [.inl (.iconst 1)] 64 _ _ (by decide +kernel) rfl ?_
            refine aw_goto (o := 4) (tgt := 69) (by decide +kernel) (by decide) ?_
            refine aw_blk (pc' := 73) (ls' := [some (vr 4 0), some (vr 9 k), some (vr 9 q), some (vi (i : Int)), some (vi (j : Int)), some (vi 1)]) (st' := [vi 1]) [.inl (.istore 5), .inl (.iload 5)] 69 _ _ (by decide +kernel) rfl ?_
            refine aw_if_eq (o := 32) (tgt := 105) (by decide +kernel) (by decide) (by omega) (fun c => absurd c (by omega)) (fun _ => ?_)
            refine aw_blk (pc' := 78) (ls' := [some (vr 4 0), some (vr 9 k), some (vr 9 q), some (vi (i : Int)), some (vi (j : Int)), some (vi 1)]) (st' := [vr 9 k, vr 4 0]) [.inl (.aload_n 0), .inl (.aload_n 1)] 76 _ _ (by decide +kernel) rfl ?_
            refine aw_get (idx := 23) (ci := 9) (f := 0) (by decide +kernel) (by decide +kernel) hA.1 rfl ?_
            refine aw_blk (pc' := 82) (ls' := [some (vr 4 0), some (vr 9 k), some (vr 9 q), some (vi (i : Int)), some (vi (j : Int)), some (vi 1)]) (st' := [vi (i : Int), vr 9 k1, vr 4 0]) [.inl (.iload_n 3)] 81 _ _ (by decide +kernel) rfl ?_
            refine aw_iald (j := i) (by decide +kernel) hA.2.1 (by omega) (by omega) (fun r82 => ?_)
            refine aw_blk (pc' := 84) (ls' := [some (vr 4 0), some (vr 9 k), some (vr 9 q), some (vi (i : Int)), some (vi (j : Int)), some (vi 1)]) (st' := [vr 9 k, vi (at_ i), vr 4 0]) [.inl (.aload_n 1)] 83 _ _ (by decide +kernel) rfl ?_
            refine aw_get (idx := 26) (ci := 9) (f := 1) (by decide +kernel) (by decide +kernel) hA.1 rfl ?_
            refine aw_blk (pc' := 88) (ls' := [some (vr 4 0), some (vr 9 k), some (vr 9 q), some (vi (i : Int)), some (vi (j : Int)), some (vi 1)]) (st' := [vi (i : Int), vr 9 k2, vi (at_ i), vr 4 0]) [.inl (.iload_n 3)] 87 _ _ (by decide +kernel) rfl ?_
            refine aw_iald (j := i) (by decide +kernel) hA.2.2 (by omega) (by omega) (fun r88 => ?_)
            refine aw_i2l (by decide +kernel) (by omega) ?_
            refine aw_blk (pc' := 91) (ls' := [some (vr 4 0), some (vr 9 k), some (vr 9 q), some (vi (i : Int)), some (vi (j : Int)), some (vi 1)]) (st' := [vr 9 q, vl (wt i), vi (at_ i), vr 4 0]) [.inl (.aload_n 2)] 90 _ _ (by decide +kernel) rfl ?_
            refine aw_get (idx := 29) (ci := 9) (f := 2) (by decide +kernel) (by decide +kernel) hA2.1 rfl ?_
            refine aw_i2l (by decide +kernel) (by omega) ?_
            refine aw_blk (pc' := 96) (ls' := [some (vr 4 0), some (vr 9 k), some (vr 9 q), some (vi (i : Int)), some (vi (j : Int)), some (vi 1)]) (st' := [vl ((wt i) * W2), vi (at_ i), vr 4 0]) [.inl (.lmul)] 95 _ _ (by decide +kernel) rfl ?_
            have hw := (A.2.2.1 i (by omega))
            have hm := mulB (x := wt i) (y := W2) (by omega) (by omega) (by omega) (by omega)
            rcases Decidable.em (0 < L ∧ D (L - 1) = at_ i) with c9 | c9
            · have hb := I.2.2.2.2.2 (L - 1) (by omega)
              refine aw_dV (cs' := 0) (sl' := 0) (pc' := 99) (st' := []) (idx := 32) (as := [vi (at_ i), vl ((wt i) * W2)]) (st := []) (m_F_note_h (by omega) (by omega) c9.2 (by omega)) (by decide +kernel) (show vOK "ChanceBench$Difference" 32 M_F_note 2 = true by decide +kernel) rfl rfl rfl (Nat.le_of_ble_eq_true rfl) (by decide) (by decide) (by decide) rfl rfl rfl rfl ?_
              refine aw_blk (pc' := 102) (ls' := [some (vr 4 0), some (vr 9 k), some (vr 9 q), some (vi ((i : Int) + 1)), some (vi (j : Int)), some (vi 1)]) (st' := []) [.inl (.iinc 3 1)] 99 _ _ (by decide +kernel) rfl ?_
              refine aw_goto (o := 32) (tgt := 134) (by decide +kernel) (by decide) ?_
              refine aw_goto (o := -124) (tgt := 10) (by decide +kernel) (by decide) ?_
              exact ih (i + 1) (j) _ _ _ _ (by omega) (by omega) (by omega) (tk_1h A A2 I (by omega) (fun h => by omega) c9.1 c9.2) hq
            · refine aw_dV (cs' := 0) (sl' := 0) (pc' := 99) (st' := []) (idx := 32) (as := [vi (at_ i), vl ((wt i) * W2)]) (st := []) (m_F_note_n (by omega) (by omega) (by omega) (fun h1 h2 => c9 ⟨h1, h2⟩)) (by decide +kernel) (show vOK "ChanceBench$Difference" 32 M_F_note 2 = true by decide +kernel) rfl rfl rfl (Nat.le_of_ble_eq_true rfl) (by decide) (by decide) (by decide) rfl rfl rfl rfl ?_
              refine aw_blk (pc' := 102) (ls' := [some (vr 4 0), some (vr 9 k), some (vr 9 q), some (vi ((i : Int) + 1)), some (vi (j : Int)), some (vi 1)]) (st' := []) [.inl (.iinc 3 1)] 99 _ _ (by decide +kernel) rfl ?_
              refine aw_goto (o := 32) (tgt := 134) (by decide +kernel) (by decide) ?_
              refine aw_goto (o := -124) (tgt := 10) (by decide +kernel) (by decide) ?_
              exact ih (i + 1) (j) (L + 1) _ _ _ (by omega) (by omega) (by omega) (tk_1n A A2 I (by omega) (fun h => by omega) c9) hq
    · refine aw_blk (pc' := 22) (ls' := [some (vr 4 0), some (vr 9 k), some (vr 9 q), some (vi (i : Int)), some (vi (j : Int)), none]) (st' := [vr 9 q, vi (j : Int)]) [.inl (.iload 4), .inl (.aload_n 2)] 19 _ _ (by decide +kernel) rfl ?_
      refine aw_get (idx := 23) (ci := 9) (f := 0) (by decide +kernel) (by decide +kernel) hA2.1 rfl ?_
      refine aw_alen (by decide +kernel) hA2.2.1 (fun r25 => ?_)
      refine aw_icmp_ge (o := 111) (tgt := 137) (by decide +kernel) (by decide) (by omega) (by omega) (fun c26 => ?_) (fun c26 => ?_)
      · have e1 : i = n := by omega
        have e2 : j = m := by omega
        subst e1 e2
        exact aw_vret (by decide +kernel) rfl (by decide) (by decide) (hq L D B I)
      · refine aw_blk (pc' := 32) (ls' := [some (vr 4 0), some (vr 9 k), some (vr 9 q), some (vi (i : Int)), some (vi (j : Int)), none]) (st' := [vr 9 q, vi (j : Int)]) [.inl (.iload 4), .inl (.aload_n 2)] 29 _ _ (by decide +kernel) rfl ?_
        refine aw_get (idx := 23) (ci := 9) (f := 0) (by decide +kernel) (by decide +kernel) hA2.1 rfl ?_
        refine aw_alen (by decide +kernel) hA2.2.1 (fun r35 => ?_)
        refine aw_icmp_ge (o := 28) (tgt := 64) (by decide +kernel) (by decide) (by omega) (by omega) (fun c36 => ?_) (fun c36 => ?_)
        · refine aw_blk (pc' := 65) (ls' := [some (vr 4 0), some (vr 9 k), some (vr 9 q), some (vi (i : Int)), some (vi (j : Int)), none]) (st' := [vi 1]) [.inl (.iconst 1)] 64 _ _ (by decide +kernel) rfl ?_
          refine aw_goto (o := 4) (tgt := 69) (by decide +kernel) (by decide) ?_
          refine aw_blk (pc' := 73) (ls' := [some (vr 4 0), some (vr 9 k), some (vr 9 q), some (vi (i : Int)), some (vi (j : Int)), some (vi 1)]) (st' := [vi 1]) [.inl (.istore 5), .inl (.iload 5)] 69 _ _ (by decide +kernel) rfl ?_
          refine aw_if_eq (o := 32) (tgt := 105) (by decide +kernel) (by decide) (by omega) (fun c => absurd c (by omega)) (fun _ => ?_)
          refine aw_blk (pc' := 78) (ls' := [some (vr 4 0), some (vr 9 k), some (vr 9 q), some (vi (i : Int)), some (vi (j : Int)), some (vi 1)]) (st' := [vr 9 k, vr 4 0]) [.inl (.aload_n 0), .inl (.aload_n 1)] 76 _ _ (by decide +kernel) rfl ?_
          refine aw_get (idx := 23) (ci := 9) (f := 0) (by decide +kernel) (by decide +kernel) hA.1 rfl ?_
          refine aw_blk (pc' := 82) (ls' := [some (vr 4 0), some (vr 9 k), some (vr 9 q), some (vi (i : Int)), some (vi (j : Int)), some (vi 1)]) (st' := [vi (i : Int), vr 9 k1, vr 4 0]) [.inl (.iload_n 3)] 81 _ _ (by decide +kernel) rfl ?_
          refine aw_iald (j := i) (by decide +kernel) hA.2.1 (by omega) (by omega) (fun r82 => ?_)
          refine aw_blk (pc' := 84) (ls' := [some (vr 4 0), some (vr 9 k), some (vr 9 q), some (vi (i : Int)), some (vi (j : Int)), some (vi 1)]) (st' := [vr 9 k, vi (at_ i), vr 4 0]) [.inl (.aload_n 1)] 83 _ _ (by decide +kernel) rfl ?_
          refine aw_get (idx := 26) (ci := 9) (f := 1) (by decide +kernel) (by decide +kernel) hA.1 rfl ?_
          refine aw_blk (pc' := 88) (ls' := [some (vr 4 0), some (vr 9 k), some (vr 9 q), some (vi (i : Int)), some (vi (j : Int)), some (vi 1)]) (st' := [vi (i : Int), vr 9 k2, vi (at_ i), vr 4 0]) [.inl (.iload_n 3)] 87 _ _ (by decide +kernel) rfl ?_
          refine aw_iald (j := i) (by decide +kernel) hA.2.2 (by omega) (by omega) (fun r88 => ?_)
          refine aw_i2l (by decide +kernel) (by omega) ?_
          refine aw_blk (pc' := 91) (ls' := [some (vr 4 0), some (vr 9 k), some (vr 9 q), some (vi (i : Int)), some (vi (j : Int)), some (vi 1)]) (st' := [vr 9 q, vl (wt i), vi (at_ i), vr 4 0]) [.inl (.aload_n 2)] 90 _ _ (by decide +kernel) rfl ?_
          refine aw_get (idx := 29) (ci := 9) (f := 2) (by decide +kernel) (by decide +kernel) hA2.1 rfl ?_
          refine aw_i2l (by decide +kernel) (by omega) ?_
          refine aw_blk (pc' := 96) (ls' := [some (vr 4 0), some (vr 9 k), some (vr 9 q), some (vi (i : Int)), some (vi (j : Int)), some (vi 1)]) (st' := [vl ((wt i) * W2), vi (at_ i), vr 4 0]) [.inl (.lmul)] 95 _ _ (by decide +kernel) rfl ?_
          have hw := (A.2.2.1 i (by omega))
          have hm := mulB (x := wt i) (y := W2) (by omega) (by omega) (by omega) (by omega)
          rcases Decidable.em (0 < L ∧ D (L - 1) = at_ i) with c9 | c9
          · have hb := I.2.2.2.2.2 (L - 1) (by omega)
            refine aw_dV (cs' := 0) (sl' := 0) (pc' := 99) (st' := []) (idx := 32) (as := [vi (at_ i), vl ((wt i) * W2)]) (st := []) (m_F_note_h (by omega) (by omega) c9.2 (by omega)) (by decide +kernel) (show vOK "ChanceBench$Difference" 32 M_F_note 2 = true by decide +kernel) rfl rfl rfl (Nat.le_of_ble_eq_true rfl) (by decide) (by decide) (by decide) rfl rfl rfl rfl ?_
            refine aw_blk (pc' := 102) (ls' := [some (vr 4 0), some (vr 9 k), some (vr 9 q), some (vi ((i : Int) + 1)), some (vi (j : Int)), some (vi 1)]) (st' := []) [.inl (.iinc 3 1)] 99 _ _ (by decide +kernel) rfl ?_
            refine aw_goto (o := 32) (tgt := 134) (by decide +kernel) (by decide) ?_
            refine aw_goto (o := -124) (tgt := 10) (by decide +kernel) (by decide) ?_
            exact ih (i + 1) (j) _ _ _ _ (by omega) (by omega) (by omega) (tk_1h A A2 I (by omega) (fun h => by omega) c9.1 c9.2) hq
          · refine aw_dV (cs' := 0) (sl' := 0) (pc' := 99) (st' := []) (idx := 32) (as := [vi (at_ i), vl ((wt i) * W2)]) (st := []) (m_F_note_n (by omega) (by omega) (by omega) (fun h1 h2 => c9 ⟨h1, h2⟩)) (by decide +kernel) (show vOK "ChanceBench$Difference" 32 M_F_note 2 = true by decide +kernel) rfl rfl rfl (Nat.le_of_ble_eq_true rfl) (by decide) (by decide) (by decide) rfl rfl rfl rfl ?_
            refine aw_blk (pc' := 102) (ls' := [some (vr 4 0), some (vr 9 k), some (vr 9 q), some (vi ((i : Int) + 1)), some (vi (j : Int)), some (vi 1)]) (st' := []) [.inl (.iinc 3 1)] 99 _ _ (by decide +kernel) rfl ?_
            refine aw_goto (o := 32) (tgt := 134) (by decide +kernel) (by decide) ?_
            refine aw_goto (o := -124) (tgt := 10) (by decide +kernel) (by decide) ?_
            exact ih (i + 1) (j) (L + 1) _ _ _ (by omega) (by omega) (by omega) (tk_1n A A2 I (by omega) (fun h => by omega) c9) hq
        · refine aw_blk (pc' := 41) (ls' := [some (vr 4 0), some (vr 9 k), some (vr 9 q), some (vi (i : Int)), some (vi (j : Int)), none]) (st' := [vr 9 k, vi (i : Int)]) [.inl (.iload_n 3), .inl (.aload_n 1)] 39 _ _ (by decide +kernel) rfl ?_
          refine aw_get (idx := 23) (ci := 9) (f := 0) (by decide +kernel) (by decide +kernel) hA.1 rfl ?_
          refine aw_alen (by decide +kernel) hA.2.1 (fun r44 => ?_)
          refine aw_icmp_ge (o := 23) (tgt := 68) (by decide +kernel) (by decide) (by omega) (by omega) (fun c45 => ?_) (fun c45 => ?_)
          · refine aw_blk (pc' := 69) (ls' := [some (vr 4 0), some (vr 9 k), some (vr 9 q), some (vi (i : Int)), some (vi (j : Int)), none]) (st' := [vi 0]) [.inl (.iconst 0)] 68 _ _ (by decide +kernel) rfl ?_
            refine aw_blk (pc' := 73) (ls' := [some (vr 4 0), some (vr 9 k), some (vr 9 q), some (vi (i : Int)), some (vi (j : Int)), some (vi 0)]) (st' := [vi 0]) [.inl (.istore 5), .inl (.iload 5)] 69 _ _ (by decide +kernel) rfl ?_
            refine aw_if_eq (o := 32) (tgt := 105) (by decide +kernel) (by decide) (by omega) (fun _ => ?_) (fun c => absurd (by omega) c)
            refine aw_blk (pc' := 107) (ls' := [some (vr 4 0), some (vr 9 k), some (vr 9 q), some (vi (i : Int)), some (vi (j : Int)), some (vi 0)]) (st' := [vr 9 q, vr 4 0]) [.inl (.aload_n 0), .inl (.aload_n 2)] 105 _ _ (by decide +kernel) rfl ?_
            refine aw_get (idx := 23) (ci := 9) (f := 0) (by decide +kernel) (by decide +kernel) hA2.1 rfl ?_
            refine aw_blk (pc' := 112) (ls' := [some (vr 4 0), some (vr 9 k), some (vr 9 q), some (vi (i : Int)), some (vi (j : Int)), some (vi 0)]) (st' := [vi (j : Int), vr 9 q1, vr 4 0]) [.inl (.iload 4)] 110 _ _ (by decide +kernel) rfl ?_
            refine aw_iald (j := j) (by decide +kernel) hA2.2.1 (by omega) (by omega) (fun r112 => ?_)
            refine aw_blk (pc' := 114) (ls' := [some (vr 4 0), some (vr 9 k), some (vr 9 q), some (vi (i : Int)), some (vi (j : Int)), some (vi 0)]) (st' := [vr 9 q, vi (at2 j), vr 4 0]) [.inl (.aload_n 2)] 113 _ _ (by decide +kernel) rfl ?_
            refine aw_get (idx := 26) (ci := 9) (f := 1) (by decide +kernel) (by decide +kernel) hA2.1 rfl ?_
            refine aw_blk (pc' := 119) (ls' := [some (vr 4 0), some (vr 9 k), some (vr 9 q), some (vi (i : Int)), some (vi (j : Int)), some (vi 0)]) (st' := [vi (j : Int), vr 9 q2, vi (at2 j), vr 4 0]) [.inl (.iload 4)] 117 _ _ (by decide +kernel) rfl ?_
            refine aw_iald (j := j) (by decide +kernel) hA2.2.2 (by omega) (by omega) (fun r119 => ?_)
            refine aw_i2l (by decide +kernel) (by omega) ?_
            refine aw_blk (pc' := 123) (ls' := [some (vr 4 0), some (vr 9 k), some (vr 9 q), some (vi (i : Int)), some (vi (j : Int)), some (vi 0)]) (st' := [vr 9 k, vl (-(wt2 j)), vi (at2 j), vr 4 0]) [.inl (.lneg), .inl (.aload_n 1)] 121 _ _ (by decide +kernel) rfl ?_
            refine aw_get (idx := 29) (ci := 9) (f := 2) (by decide +kernel) (by decide +kernel) hA.1 rfl ?_
            refine aw_i2l (by decide +kernel) (by omega) ?_
            refine aw_blk (pc' := 128) (ls' := [some (vr 4 0), some (vr 9 k), some (vr 9 q), some (vi (i : Int)), some (vi (j : Int)), some (vi 0)]) (st' := [vl ((-(wt2 j)) * W), vi (at2 j), vr 4 0]) [.inl (.lmul)] 127 _ _ (by decide +kernel) rfl ?_
            have hw := (A2.2.2.1 j (by omega))
            have hm := mulB (x := wt2 j) (y := W) (by omega) (by omega) (by omega) (by omega)
            have hmn : -wt2 j * W = -(wt2 j * W) := Int.neg_mul _ _
            rcases Decidable.em (0 < L ∧ D (L - 1) = at2 j) with c9 | c9
            · have hb := I.2.2.2.2.2 (L - 1) (by omega)
              refine aw_dV (cs' := 0) (sl' := 0) (pc' := 131) (st' := []) (idx := 32) (as := [vi (at2 j), vl ((-(wt2 j)) * W)]) (st := []) (m_F_note_h (by omega) (by omega) c9.2 (by omega)) (by decide +kernel) (show vOK "ChanceBench$Difference" 32 M_F_note 2 = true by decide +kernel) rfl rfl rfl (Nat.le_of_ble_eq_true rfl) (by decide) (by decide) (by decide) rfl rfl rfl rfl ?_
              refine aw_blk (pc' := 134) (ls' := [some (vr 4 0), some (vr 9 k), some (vr 9 q), some (vi (i : Int)), some (vi ((j : Int) + 1)), some (vi 0)]) (st' := []) [.inl (.iinc 4 1)] 131 _ _ (by decide +kernel) rfl ?_
              refine aw_goto (o := -124) (tgt := 10) (by decide +kernel) (by decide) ?_
              exact ih (i) (j + 1) _ _ _ _ (by omega) (by omega) (by omega) (tk_2h A A2 I (by omega) (fun h => by omega) c9.1 c9.2) hq
            · refine aw_dV (cs' := 0) (sl' := 0) (pc' := 131) (st' := []) (idx := 32) (as := [vi (at2 j), vl ((-(wt2 j)) * W)]) (st := []) (m_F_note_n (by omega) (by omega) (by omega) (fun h1 h2 => c9 ⟨h1, h2⟩)) (by decide +kernel) (show vOK "ChanceBench$Difference" 32 M_F_note 2 = true by decide +kernel) rfl rfl rfl (Nat.le_of_ble_eq_true rfl) (by decide) (by decide) (by decide) rfl rfl rfl rfl ?_
              refine aw_blk (pc' := 134) (ls' := [some (vr 4 0), some (vr 9 k), some (vr 9 q), some (vi (i : Int)), some (vi ((j : Int) + 1)), some (vi 0)]) (st' := []) [.inl (.iinc 4 1)] 131 _ _ (by decide +kernel) rfl ?_
              refine aw_goto (o := -124) (tgt := 10) (by decide +kernel) (by decide) ?_
              exact ih (i) (j + 1) (L + 1) _ _ _ (by omega) (by omega) (by omega) (tk_2n A A2 I (by omega) (fun h => by omega) c9) hq
          · refine aw_blk (pc' := 49) (ls' := [some (vr 4 0), some (vr 9 k), some (vr 9 q), some (vi (i : Int)), some (vi (j : Int)), none]) (st' := [vr 9 k]) [.inl (.aload_n 1)] 48 _ _ (by decide +kernel) rfl ?_
            refine aw_get (idx := 23) (ci := 9) (f := 0) (by decide +kernel) (by decide +kernel) hA.1 rfl ?_
            refine aw_blk (pc' := 53) (ls' := [some (vr 4 0), some (vr 9 k), some (vr 9 q), some (vi (i : Int)), some (vi (j : Int)), none]) (st' := [vi (i : Int), vr 9 k1]) [.inl (.iload_n 3)] 52 _ _ (by decide +kernel) rfl ?_
            refine aw_iald (j := i) (by decide +kernel) hA.2.1 (by omega) (by omega) (fun r53 => ?_)
            refine aw_blk (pc' := 55) (ls' := [some (vr 4 0), some (vr 9 k), some (vr 9 q), some (vi (i : Int)), some (vi (j : Int)), none]) (st' := [vr 9 q, vi (at_ i)]) [.inl (.aload_n 2)] 54 _ _ (by decide +kernel) rfl ?_
            refine aw_get (idx := 23) (ci := 9) (f := 0) (by decide +kernel) (by decide +kernel) hA2.1 rfl ?_
            refine aw_blk (pc' := 60) (ls' := [some (vr 4 0), some (vr 9 k), some (vr 9 q), some (vi (i : Int)), some (vi (j : Int)), none]) (st' := [vi (j : Int), vr 9 q1, vi (at_ i)]) [.inl (.iload 4)] 58 _ _ (by decide +kernel) rfl ?_
            refine aw_iald (j := j) (by decide +kernel) hA2.2.1 (by omega) (by omega) (fun r60 => ?_)
            refine aw_icmp_gt (o := 7) (tgt := 68) (by decide +kernel) (by decide) (by omega) (by omega) (fun c61 => ?_) (fun c61 => ?_)
            · refine aw_blk (pc' := 69) (ls' := [some (vr 4 0), some (vr 9 k), some (vr 9 q), some (vi (i : Int)), some (vi (j : Int)), none]) (st' := [vi 0]) [.inl (.iconst 0)] 68 _ _ (by decide +kernel) rfl ?_
              refine aw_blk (pc' := 73) (ls' := [some (vr 4 0), some (vr 9 k), some (vr 9 q), some (vi (i : Int)), some (vi (j : Int)), some (vi 0)]) (st' := [vi 0]) [.inl (.istore 5), .inl (.iload 5)] 69 _ _ (by decide +kernel) rfl ?_
              refine aw_if_eq (o := 32) (tgt := 105) (by decide +kernel) (by decide) (by omega) (fun _ => ?_) (fun c => absurd (by omega) c)
              refine aw_blk (pc' := 107) (ls' := [some (vr 4 0), some (vr 9 k), some (vr 9 q), some (vi (i : Int)), some (vi (j : Int)), some (vi 0)]) (st' := [vr 9 q, vr 4 0]) [.inl (.aload_n 0), .inl (.aload_n 2)] 105 _ _ (by decide +kernel) rfl ?_
              refine aw_get (idx := 23) (ci := 9) (f := 0) (by decide +kernel) (by decide +kernel) hA2.1 rfl ?_
              refine aw_blk (pc' := 112) (ls' := [some (vr 4 0), some (vr 9 k), some (vr 9 q), some (vi (i : Int)), some (vi (j : Int)), some (vi 0)]) (st' := [vi (j : Int), vr 9 q1, vr 4 0]) [.inl (.iload 4)] 110 _ _ (by decide +kernel) rfl ?_
              refine aw_iald (j := j) (by decide +kernel) hA2.2.1 (by omega) (by omega) (fun r112 => ?_)
              refine aw_blk (pc' := 114) (ls' := [some (vr 4 0), some (vr 9 k), some (vr 9 q), some (vi (i : Int)), some (vi (j : Int)), some (vi 0)]) (st' := [vr 9 q, vi (at2 j), vr 4 0]) [.inl (.aload_n 2)] 113 _ _ (by decide +kernel) rfl ?_
              refine aw_get (idx := 26) (ci := 9) (f := 1) (by decide +kernel) (by decide +kernel) hA2.1 rfl ?_
              refine aw_blk (pc' := 119) (ls' := [some (vr 4 0), some (vr 9 k), some (vr 9 q), some (vi (i : Int)), some (vi (j : Int)), some (vi 0)]) (st' := [vi (j : Int), vr 9 q2, vi (at2 j), vr 4 0]) [.inl (.iload 4)] 117 _ _ (by decide +kernel) rfl ?_
              refine aw_iald (j := j) (by decide +kernel) hA2.2.2 (by omega) (by omega) (fun r119 => ?_)
              refine aw_i2l (by decide +kernel) (by omega) ?_
              refine aw_blk (pc' := 123) (ls' := [some (vr 4 0), some (vr 9 k), some (vr 9 q), some (vi (i : Int)), some (vi (j : Int)), some (vi 0)]) (st' := [vr 9 k, vl (-(wt2 j)), vi (at2 j), vr 4 0]) [.inl (.lneg), .inl (.aload_n 1)] 121 _ _ (by decide +kernel) rfl ?_
              refine aw_get (idx := 29) (ci := 9) (f := 2) (by decide +kernel) (by decide +kernel) hA.1 rfl ?_
              refine aw_i2l (by decide +kernel) (by omega) ?_
              refine aw_blk (pc' := 128) (ls' := [some (vr 4 0), some (vr 9 k), some (vr 9 q), some (vi (i : Int)), some (vi (j : Int)), some (vi 0)]) (st' := [vl ((-(wt2 j)) * W), vi (at2 j), vr 4 0]) [.inl (.lmul)] 127 _ _ (by decide +kernel) rfl ?_
              have hw := (A2.2.2.1 j (by omega))
              have hm := mulB (x := wt2 j) (y := W) (by omega) (by omega) (by omega) (by omega)
              have hmn : -wt2 j * W = -(wt2 j * W) := Int.neg_mul _ _
              rcases Decidable.em (0 < L ∧ D (L - 1) = at2 j) with c9 | c9
              · have hb := I.2.2.2.2.2 (L - 1) (by omega)
                refine aw_dV (cs' := 0) (sl' := 0) (pc' := 131) (st' := []) (idx := 32) (as := [vi (at2 j), vl ((-(wt2 j)) * W)]) (st := []) (m_F_note_h (by omega) (by omega) c9.2 (by omega)) (by decide +kernel) (show vOK "ChanceBench$Difference" 32 M_F_note 2 = true by decide +kernel) rfl rfl rfl (Nat.le_of_ble_eq_true rfl) (by decide) (by decide) (by decide) rfl rfl rfl rfl ?_
                refine aw_blk (pc' := 134) (ls' := [some (vr 4 0), some (vr 9 k), some (vr 9 q), some (vi (i : Int)), some (vi ((j : Int) + 1)), some (vi 0)]) (st' := []) [.inl (.iinc 4 1)] 131 _ _ (by decide +kernel) rfl ?_
                refine aw_goto (o := -124) (tgt := 10) (by decide +kernel) (by decide) ?_
                exact ih (i) (j + 1) _ _ _ _ (by omega) (by omega) (by omega) (tk_2h A A2 I (by omega) (fun h => by omega) c9.1 c9.2) hq
              · refine aw_dV (cs' := 0) (sl' := 0) (pc' := 131) (st' := []) (idx := 32) (as := [vi (at2 j), vl ((-(wt2 j)) * W)]) (st := []) (m_F_note_n (by omega) (by omega) (by omega) (fun h1 h2 => c9 ⟨h1, h2⟩)) (by decide +kernel) (show vOK "ChanceBench$Difference" 32 M_F_note 2 = true by decide +kernel) rfl rfl rfl (Nat.le_of_ble_eq_true rfl) (by decide) (by decide) (by decide) rfl rfl rfl rfl ?_
                refine aw_blk (pc' := 134) (ls' := [some (vr 4 0), some (vr 9 k), some (vr 9 q), some (vi (i : Int)), some (vi ((j : Int) + 1)), some (vi 0)]) (st' := []) [.inl (.iinc 4 1)] 131 _ _ (by decide +kernel) rfl ?_
                refine aw_goto (o := -124) (tgt := 10) (by decide +kernel) (by decide) ?_
                exact ih (i) (j + 1) (L + 1) _ _ _ (by omega) (by omega) (by omega) (tk_2n A A2 I (by omega) (fun h => by omega) c9) hq
            · refine aw_blk (pc' := 65) (ls' := [some (vr 4 0), some (vr 9 k), some (vr 9 q), some (vi (i : Int)), some (vi (j : Int)), none]) (st' := [vi 1]) [.inl (.iconst 1)] 64 _ _ (by decide +kernel) rfl ?_
              refine aw_goto (o := 4) (tgt := 69) (by decide +kernel) (by decide) ?_
              refine aw_blk (pc' := 73) (ls' := [some (vr 4 0), some (vr 9 k), some (vr 9 q), some (vi (i : Int)), some (vi (j : Int)), some (vi 1)]) (st' := [vi 1]) [.inl (.istore 5), .inl (.iload 5)] 69 _ _ (by decide +kernel) rfl ?_
              refine aw_if_eq (o := 32) (tgt := 105) (by decide +kernel) (by decide) (by omega) (fun c => absurd c (by omega)) (fun _ => ?_)
              refine aw_blk (pc' := 78) (ls' := [some (vr 4 0), some (vr 9 k), some (vr 9 q), some (vi (i : Int)), some (vi (j : Int)), some (vi 1)]) (st' := [vr 9 k, vr 4 0]) [.inl (.aload_n 0), .inl (.aload_n 1)] 76 _ _ (by decide +kernel) rfl ?_
              refine aw_get (idx := 23) (ci := 9) (f := 0) (by decide +kernel) (by decide +kernel) hA.1 rfl ?_
              refine aw_blk (pc' := 82) (ls' := [some (vr 4 0), some (vr 9 k), some (vr 9 q), some (vi (i : Int)), some (vi (j : Int)), some (vi 1)]) (st' := [vi (i : Int), vr 9 k1, vr 4 0]) [.inl (.iload_n 3)] 81 _ _ (by decide +kernel) rfl ?_
              refine aw_iald (j := i) (by decide +kernel) hA.2.1 (by omega) (by omega) (fun r82 => ?_)
              refine aw_blk (pc' := 84) (ls' := [some (vr 4 0), some (vr 9 k), some (vr 9 q), some (vi (i : Int)), some (vi (j : Int)), some (vi 1)]) (st' := [vr 9 k, vi (at_ i), vr 4 0]) [.inl (.aload_n 1)] 83 _ _ (by decide +kernel) rfl ?_
              refine aw_get (idx := 26) (ci := 9) (f := 1) (by decide +kernel) (by decide +kernel) hA.1 rfl ?_
              refine aw_blk (pc' := 88) (ls' := [some (vr 4 0), some (vr 9 k), some (vr 9 q), some (vi (i : Int)), some (vi (j : Int)), some (vi 1)]) (st' := [vi (i : Int), vr 9 k2, vi (at_ i), vr 4 0]) [.inl (.iload_n 3)] 87 _ _ (by decide +kernel) rfl ?_
              refine aw_iald (j := i) (by decide +kernel) hA.2.2 (by omega) (by omega) (fun r88 => ?_)
              refine aw_i2l (by decide +kernel) (by omega) ?_
              refine aw_blk (pc' := 91) (ls' := [some (vr 4 0), some (vr 9 k), some (vr 9 q), some (vi (i : Int)), some (vi (j : Int)), some (vi 1)]) (st' := [vr 9 q, vl (wt i), vi (at_ i), vr 4 0]) [.inl (.aload_n 2)] 90 _ _ (by decide +kernel) rfl ?_
              refine aw_get (idx := 29) (ci := 9) (f := 2) (by decide +kernel) (by decide +kernel) hA2.1 rfl ?_
              refine aw_i2l (by decide +kernel) (by omega) ?_
              refine aw_blk (pc' := 96) (ls' := [some (vr 4 0), some (vr 9 k), some (vr 9 q), some (vi (i : Int)), some (vi (j : Int)), some (vi 1)]) (st' := [vl ((wt i) * W2), vi (at_ i), vr 4 0]) [.inl (.lmul)] 95 _ _ (by decide +kernel) rfl ?_
              have hw := (A.2.2.1 i (by omega))
              have hm := mulB (x := wt i) (y := W2) (by omega) (by omega) (by omega) (by omega)
              rcases Decidable.em (0 < L ∧ D (L - 1) = at_ i) with c9 | c9
              · have hb := I.2.2.2.2.2 (L - 1) (by omega)
                refine aw_dV (cs' := 0) (sl' := 0) (pc' := 99) (st' := []) (idx := 32) (as := [vi (at_ i), vl ((wt i) * W2)]) (st := []) (m_F_note_h (by omega) (by omega) c9.2 (by omega)) (by decide +kernel) (show vOK "ChanceBench$Difference" 32 M_F_note 2 = true by decide +kernel) rfl rfl rfl (Nat.le_of_ble_eq_true rfl) (by decide) (by decide) (by decide) rfl rfl rfl rfl ?_
                refine aw_blk (pc' := 102) (ls' := [some (vr 4 0), some (vr 9 k), some (vr 9 q), some (vi ((i : Int) + 1)), some (vi (j : Int)), some (vi 1)]) (st' := []) [.inl (.iinc 3 1)] 99 _ _ (by decide +kernel) rfl ?_
                refine aw_goto (o := 32) (tgt := 134) (by decide +kernel) (by decide) ?_
                refine aw_goto (o := -124) (tgt := 10) (by decide +kernel) (by decide) ?_
                exact ih (i + 1) (j) _ _ _ _ (by omega) (by omega) (by omega) (tk_1h A A2 I (by omega) (fun h => by omega) c9.1 c9.2) hq
              · refine aw_dV (cs' := 0) (sl' := 0) (pc' := 99) (st' := []) (idx := 32) (as := [vi (at_ i), vl ((wt i) * W2)]) (st := []) (m_F_note_n (by omega) (by omega) (by omega) (fun h1 h2 => c9 ⟨h1, h2⟩)) (by decide +kernel) (show vOK "ChanceBench$Difference" 32 M_F_note 2 = true by decide +kernel) rfl rfl rfl (Nat.le_of_ble_eq_true rfl) (by decide) (by decide) (by decide) rfl rfl rfl rfl ?_
                refine aw_blk (pc' := 102) (ls' := [some (vr 4 0), some (vr 9 k), some (vr 9 q), some (vi ((i : Int) + 1)), some (vi (j : Int)), some (vi 1)]) (st' := []) [.inl (.iinc 3 1)] 99 _ _ (by decide +kernel) rfl ?_
                refine aw_goto (o := 32) (tgt := 134) (by decide +kernel) (by decide) ?_
                refine aw_goto (o := -124) (tgt := 10) (by decide +kernel) (by decide) ?_
                exact ih (i + 1) (j) (L + 1) _ _ _ (by omega) (by omega) (by omega) (tk_1n A A2 I (by omega) (fun h => by omega) c9) hq
theorem m_F_take {l0 : Int} {D B : Nat → Int} (hA : isD dy k k1 k2 n at_ wt W) (hA2 : isD dy q q1 q2 m at2 wt2 W2) (A : lwN n at_ wt W) (A2 : lwN m at2 wt2 W2) : AMet G M_F_take [vr 4 0, vr 9 k, vr 9 q] (Hp b s t mk (sgF l0 D B) jo tr di mo dy) (fun r h => r = none ∧ ∃ L D B, tkI n m at_ wt at2 wt2 W W2 n m L D B ∧ h = Hp b s t mk (sgF (L : Int) D B) jo tr di mo dy) (fun _ => False) := by
  refine am_entry (by decide +kernel) (Nat.le_of_ble_eq_true rfl) ?_
  refine aw_blk (pc' := 2) (ls' := [some (vr 4 0), some (vr 9 k), some (vr 9 q), none, none, none]) (st' := [vi 0, vr 4 0]) [.inl (.aload_n 0), .inl (.iconst 0)] 0 _ _ (by decide +kernel) rfl ?_
  refine aw_put (idx := 19) (ci := 4) (k := 2) (h' := Hp b s t mk [some (ob 4 [vr 4 1, vr 4 2, vi 0]), some (ar 0 48 D), some (ar 1 48 B)] jo tr di mo dy) (by decide +kernel) (by decide +kernel) rfl (Nat.le_of_ble_eq_true rfl) (show I32 _ from by omega) rfl ?_
  refine aw_blk (pc' := 10) (ls' := [some (vr 4 0), some (vr 9 k), some (vr 9 q), some (vi 0), some (vi 0), none]) (st' := []) [.inl (.iconst 0), .inl (.istore_n 3), .inl (.iconst 0), .inl (.istore 4)] 5 _ _ (by decide +kernel) rfl ?_
  exact l_F_take hA hA2 A A2 (n + m + 1) 0 0 0 D B none (by omega) (by omega) (by omega) ⟨by omega, fun i j h1 h2 => by omega, fun k h => by omega, fun u => by simp [den, sumZ], fun h => by omega, fun k h => by omega⟩ (fun L D B I => ⟨rfl, L, D, B, I, rfl⟩)

end
