/-! digit by digit, and by the cross products -/
theorem fl_lt {r o x y : Int} (hr : 0 ≤ r) (ho : 0 ≤ o) (hx : 1 ≤ x) (hy : 1 ≤ y) (h : r / x < o / y) : r * y < o * x ∧ x * y ≤ o * x - r * y + (x * y - 1) := by
  have e1 := Int.mul_ediv_add_emod r x
  have e2 := Int.mul_ediv_add_emod o y
  have m1 := Int.emod_lt_of_pos r (show 0 < x by omega)
  have m2 := Int.emod_nonneg o (show y ≠ 0 by omega)
  have a : r < x * (r / x + 1) := by rw [Int.mul_add]; omega
  have b : y * (r / x + 1) ≤ o := by
    have := Int.mul_le_mul_of_nonneg_left (show r / x + 1 ≤ o / y by omega) (show 0 ≤ y by omega)
    omega
  have c : r * y < x * (r / x + 1) * y := Int.mul_lt_mul_of_pos_right a (by omega)
  have d : y * (r / x + 1) * x ≤ o * x := Int.mul_le_mul_of_nonneg_right b (by omega)
  have e : x * (r / x + 1) * y = y * (r / x + 1) * x := by rw [Int.mul_comm x, Int.mul_assoc, Int.mul_comm x y, ← Int.mul_assoc, Int.mul_comm (r / x + 1) y]
  constructor <;> omega
theorem fl_eq {r o x y : Int} (hr : 0 ≤ r) (ho : 0 ≤ o) (hx : 1 ≤ x) (hy : 1 ≤ y) (h : r / x = o / y) : (r % x) * y - (o % y) * x = r * y - o * x ∧ r * y - o * x < x * y ∧ -(x * y) < r * y - o * x := by
  have e1 := Int.mul_ediv_add_emod r x
  have e2 := Int.mul_ediv_add_emod o y
  have m1 := Int.emod_lt_of_pos r (show 0 < x by omega)
  have m2 := Int.emod_nonneg o (show y ≠ 0 by omega)
  have m3 := Int.emod_lt_of_pos o (show 0 < y by omega)
  have m4 := Int.emod_nonneg r (show x ≠ 0 by omega)
  have f1 : r * y = x * (r / x) * y + (r % x) * y := by rw [← Int.add_mul, e1]
  have f2 : o * x = y * (r / x) * x + (o % y) * x := by rw [h, ← Int.add_mul, e2]
  have f3 : x * (r / x) * y = y * (r / x) * x := by rw [Int.mul_comm x, Int.mul_assoc, Int.mul_comm x y, ← Int.mul_assoc, Int.mul_comm (r / x) y]
  have g1 : (r % x) * y < x * y := Int.mul_lt_mul_of_pos_right m1 (by omega)
  have g2 : (o % y) * x < y * x := Int.mul_lt_mul_of_pos_right m3 (by omega)
  have g3 : 0 ≤ (r % x) * y := Int.mul_nonneg m4 (by omega)
  have g4 : 0 ≤ (o % y) * x := Int.mul_nonneg m2 (by omega)
  rw [Int.mul_comm y x] at g2
  refine ⟨by omega, by omega, by omega⟩
theorem isl_lt {x y : Int} (hx : 1 ≤ x) (hy : 1 ≤ y) : ∀ (d : Nat) (r o : Int), 0 ≤ r → 0 ≤ o → (r * y - o * x = 0 ∨ x * y ≤ (r * y - o * x) * pw 1048576 d ∨ x * y ≤ -(r * y - o * x) * pw 1048576 d) → isl x y (d + 1) r o = if r * y < o * x then 1 else 0
  | d, r, o, hr, ho, hd => by
    rw [isl, Int.tdiv_eq_ediv_of_nonneg hr, Int.tdiv_eq_ediv_of_nonneg ho]
    by_cases h : r / x = o / y
    · rw [if_pos h, Int.tmod_eq_emod_of_nonneg hr, Int.tmod_eq_emod_of_nonneg ho]
      obtain ⟨a, b, c⟩ := fl_eq hr ho hx hy h
      have m2 := Int.emod_nonneg o (show y ≠ 0 by omega)
      have m4 := Int.emod_nonneg r (show x ≠ 0 by omega)
      match d, hd with
      | 0, hd =>
        simp only [pw, Int.mul_one] at hd
        rw [isl, if_neg]
        rcases hd with z | z | z <;> omega
      | d + 1, hd =>
        have e : (r % x * 1048576) * y - (o % y * 1048576) * x = (r * y - o * x) * 1048576 := by
          rw [← a, Int.sub_mul, Int.mul_assoc, Int.mul_comm 1048576 y, ← Int.mul_assoc, Int.mul_assoc (o % y), Int.mul_comm 1048576 x, ← Int.mul_assoc]
        rw [isl_lt hx hy d (r % x * 1048576) (o % y * 1048576) (by omega) (by omega) (by
          rw [e]
          rcases hd with z | z | z
          · rw [z]; simp
          · exact Or.inr (Or.inl (by rw [Int.mul_assoc, Int.mul_comm 1048576]; exact z))
          · refine Or.inr (Or.inr ?_)
            rw [← Int.neg_mul, Int.mul_assoc, Int.mul_comm 1048576]; exact z)]
        by_cases q : r * y < o * x
        · rw [if_pos q, if_pos (by omega)]
        · rw [if_neg q, if_neg (by omega)]
    · rw [if_neg h]
      by_cases q : r / x < o / y
      · rw [if_pos q, if_pos (fl_lt hr ho hx hy q).1]
      · have := (fl_lt ho hr hy hx (show o / y < r / x by omega)).1
        rw [if_neg q, if_neg (by omega)]
theorem isl_5 {x y r o : Int} (hx : 1 ≤ x ∧ x ≤ 1099511627776) (hy : 1 ≤ y ∧ y ≤ 1099511627776) (hr : 0 ≤ r) (ho : 0 ≤ o) : isl x y 5 r o = if r * y < o * x then 1 else 0 := by
  refine isl_lt hx.1 hy.1 4 r o hr ho ?_
  have e : pw 1048576 4 = 1208925819614629174706176 := by decide +kernel
  have b : x * y ≤ 1208925819614629174706176 := by
    have := Int.mul_le_mul hx.2 hy.2 (by omega) (by omega); omega
  rw [e]
  omega
/-- a slot's law, or none, as a table and its whole -/
def lawR (dy : SG) (x : Option (Nat × Nat)) (T : Int → Int) (W : Int) : Prop := match x with
  | none => W = 0
  | some y => ∃ (k k1 k2 n : Nat) (at_ wt : Nat → Int), y = (9, k) ∧ isD dy k k1 k2 n at_ wt W ∧ lwN n at_ wt W ∧ T = den at_ wt n
def nx (len j : Nat) : Nat := if j + 1 < len then j + 1 else 0
def rg (X Y : Nat → Int) : Nat → Int × Int
  | 0 => (1, 1)
  | k + 1 => if X k * (rg X Y k).2 < (rg X Y k).1 * Y k then (X k, Y k) else rg X Y k
def rgA (u l d : Int) : Int := if d = 2 then (if l < 2 * u then 1 else 0) else prt u l d
theorem lawR_W {dy : SG} {x : Option (Nat × Nat)} {T : Int → Int} {W : Int} (h : lawR dy x T W) (hx : x ≠ none) : 1 ≤ W ∧ W ≤ 1048576 := by
  match x, h, hx with
  | some y, ⟨k, k1, k2, n, at_, wt, e, hD, A, eT⟩, _ => exact ⟨A.2.2.2.1, A.2.2.2.2.1⟩
theorem lawR_win {dy : SG} {x x2 : Option (Nat × Nat)} {T T2 : Int → Int} {W W2 : Int} (h : lawR dy x T W) (hx : x ≠ none) (h2 : lawR dy x2 T2 W2) (hx2 : x2 ≠ none) : 0 ≤ win T T2 ∧ win T T2 ≤ W * W2 := by
  match x, h, hx, x2, h2, hx2 with
  | some y, ⟨k, k1, k2, n, at_, wt, e, hD, A, eT⟩, _, some y2, ⟨k', k1', k2', n', at', wt', e', hD', A', eT'⟩, _ => rw [eT, eT']; exact win_in A A'

section
variable {G : GT} {h : HT} {b s t mk df jo tr di mo dy : SG} {a c d e B bd tk : Int} {n m k k1 k2 q q1 q2 j nn len : Nat} {f g ff gg ft at_ wt at2 wt2 : Nat → Int} {rf rr W W2 : Int} {T : Int → Int} {by_ : Prop} {laws ahead made : Nat → Option (Nat × Nat)} {slot : Nat → Int} {od dn un : Nat}
variable {Tb : Int → Int → Int} {Wb : Int → Int}
abbrev rX (Tb : Int → Int → Int) (ft : Nat → Int) (len : Nat) (j : Nat) : Int := win (Tb (ft j)) (Tb (ft (nx len j)))
abbrev rY (Wb : Int → Int) (ft : Nat → Int) (len : Nat) (j : Nat) : Int := Wb (ft j) * Wb (ft (nx len j))
theorem rg_in (hP : ∀ a : Int, lawR dy (lawAt laws a) (Tb a) (Wb a)) : ∀ i, (∀ j, j < i → lawAt laws (ft j) ≠ none ∧ lawAt laws (ft (nx len j)) ≠ none) → (0 ≤ (rg (rX Tb ft len) (rY Wb ft len) i).1 ∧ (rg (rX Tb ft len) (rY Wb ft len) i).1 ≤ 1099511627776) ∧ 1 ≤ (rg (rX Tb ft len) (rY Wb ft len) i).2 ∧ (rg (rX Tb ft len) (rY Wb ft len) i).2 ≤ 1099511627776
  | 0, _ => by simp [rg]
  | i + 1, h => by
    have ih := rg_in hP i (fun j hj => h j (by omega))
    have h1 := h i (by omega)
    have a := lawR_W (hP _) h1.1
    have b := lawR_W (hP _) h1.2
    have c := lawR_win (hP _) h1.1 (hP _) h1.2
    have d := mulB (x := Wb (ft i)) (y := Wb (ft (nx len i))) (by omega) (by omega) (by omega) (by omega)
    have e := Int.mul_le_mul a.1 b.1 (by omega) (by omega)
    simp only [rg]
    split
    · simp only [rX, rY]; omega
    · exact ih
theorem m_B_judgedRing (hi : I32 d) (hln : len ≤ 200) (hf : ∀ i, 0 ≤ ft i ∧ ft i ≤ 255) (hP : ∀ a : Int, lawR dy (lawAt laws a) (Tb a) (Wb a)) : AMet G M_B_judgedRing [vr 0 0, vi d] (Hp (sgB bd tk) (sgS laws slot ahead made (od : Int) (dn : Int) (un : Int)) (sgT (len : Int) ft) (sgK (nn : Int) rr ff gg) df jo tr di mo dy) (fun r h => h = Hp (sgB bd tk) (sgS laws slot ahead made (od : Int) (dn : Int) (un : Int)) (sgT (len : Int) ft) (sgK (nn : Int) rr ff gg) df jo tr di mo dy ∧ ((((¬ (1 ≤ (len : Int) ∧ (len : Int) ≤ 16)) ∨ ¬ (0 ≤ d ∧ d ≤ 2) ∨ ∃ j, j < len ∧ lawAt laws (ft j) = none) ∧ r = some (vl (-1))) ∨ ((1 ≤ (len : Int) ∧ (len : Int) ≤ 16) ∧ (0 ≤ d ∧ d ≤ 2) ∧ (∀ j, j < len → lawAt laws (ft j) ≠ none) ∧ r = some (vl (rgA (rg (rX Tb ft len) (rY Wb ft len) len).1 (rg (rX Tb ft len) (rY Wb ft len) len).2 d))))) (fun _ => False) := by
  refine am_rel (by decide +kernel) (Nat.le_of_ble_eq_true rfl) (fun Qr Qt hq => ?_)
  refine aw_blk (pc' := 4) (ls' := [some (vr 0 0), some (vi d), none, none, none, none, none, none, none, none, none, none, none, none]) (st' := [vr 2 0]) [.inl (.aload_n 0), .inr (19, 0, 1)] 0 _ _ (by decide +kernel) rfl ?_
  refine aw_dV (cs' := 0) (sl' := 0) (pc' := 7) (st' := [vi (len : Int)]) (idx := 73) (as := []) (st := []) (m_T_length) (by decide +kernel) (show vOK "ChanceBench" 73 M_T_length 0 = true by decide +kernel) rfl rfl rfl (Nat.le_of_ble_eq_true rfl) (by decide) (by decide) (by decide) rfl rfl rfl rfl ?_
  refine aw_blk (pc' := 12) (ls' := [some (vr 0 0), some (vi d), some (vi (len : Int)), none, none, none, none, none, none, none, none, none, none, none]) (st' := [vi 16, vi 1, vi (len : Int)]) [.inl (.istore_n 2), .inl (.iload_n 2), .inl (.iconst 1), .inl (.bipush 16)] 7 _ _ (by decide +kernel) rfl ?_
  refine aw_dS (cs' := 0) (sl' := 0) (pc' := 15) (st' := [vi (if 1 ≤ (len : Int) ∧ (len : Int) ≤ 16 then 1 else 0)]) (idx := 98) (as := [vi (len : Int), vi 1, vi 16]) (st := []) (m_B_isWithin (by omega) (by omega) (by omega)) (by decide +kernel) (show sOK "ChanceBench" 98 M_B_isWithin 3 = true by decide +kernel) rfl (Nat.le_of_ble_eq_true rfl) (by decide) (by decide) (by decide) rfl rfl rfl rfl ?_
  by_cases h1 : 1 ≤ (len : Int) ∧ (len : Int) ≤ 16
  · rw [if_pos h1]
    refine aw_if_eq (o := 12) (tgt := 27) (by decide +kernel) (by decide) (by omega) (fun c => absurd c (by omega)) (fun _ => ?_)
    refine aw_blk (pc' := 21) (ls' := [some (vr 0 0), some (vi d), some (vi (len : Int)), none, none, none, none, none, none, none, none, none, none, none]) (st' := [vi 2, vi 0, vi d]) [.inl (.iload_n 1), .inl (.iconst 0), .inl (.iconst 2)] 18 _ _ (by decide +kernel) rfl ?_
    refine aw_dS (cs' := 0) (sl' := 0) (pc' := 24) (st' := [vi (if 0 ≤ d ∧ d ≤ 2 then 1 else 0)]) (idx := 98) (as := [vi d, vi 0, vi 2]) (st := []) (m_B_isWithin hi (by omega) (by omega)) (by decide +kernel) (show sOK "ChanceBench" 98 M_B_isWithin 3 = true by decide +kernel) rfl (Nat.le_of_ble_eq_true rfl) (by decide) (by decide) (by decide) rfl rfl rfl rfl ?_
    by_cases h2 : 0 ≤ d ∧ d ≤ 2
    · rw [if_pos h2]
      refine aw_if_ne (o := 7) (tgt := 31) (by decide +kernel) (by decide) (by omega) (fun _ => ?_) (fun c => absurd c (by omega))
      refine aw_blk (pc' := 39) (ls' := [some (vr 0 0), some (vi d), some (vi (len : Int)), some (vl 1), none, some (vl 1), none, some (vi 0), none, none, none, none, none, none]) (st' := []) [.inl (.lconst 1), .inl (.lstore_n 3), .inl (.lconst 1), .inl (.lstore 5), .inl (.iconst 0), .inl (.istore 7)] 31 _ _ (by decide +kernel) rfl ?_
      refine up_to (W := fun i : Nat => (∀ j, j < i → lawAt laws (ft j) ≠ none ∧ lawAt laws (ft (nx len j)) ≠ none) → AW G M_B_judgedRing Qr Qt 0 0 39 [some (vr 0 0), some (vi d), some (vi (len : Int)), some (vl ((rg (rX Tb ft len) (rY Wb ft len) i).1)), none, some (vl ((rg (rX Tb ft len) (rY Wb ft len) i).2)), none, some (vi (i : Int)), none, none, none, none, none, none] [] (Hp [some (ob 0 [vr 1 0, vr 2 0, vr 3 0, vr 4 0, vr 5 0, vr 6 0, vr 7 0, vi bd, vi tk])] [some (ob 1 [vr 1 1, vr 1 2, vr 1 3, vr 1 4, vi (od : Int), vi (dn : Int), vi (un : Int)]), some (rs 16 laws), some (ar 0 30 slot), some (rs 30 ahead), some (rs 30 made)] [some (ob 2 [vr 2 1, vi (len : Int)]), some (ar 0 200 ft)] [some (ob 3 [vr 3 1, vr 3 2, vi (nn : Int), vi rr]), some (ar 0 24 ff), some (ar 1 24 gg)] df jo tr di mo dy)) len ?_ (fun i hi9 ih => ?_) 0 (by omega) (fun j hj => by omega)
      · intro hp
        have hb := rg_in hP len hp
        refine aw_blk (pc' := 42) (ls' := [some (vr 0 0), some (vi d), some (vi (len : Int)), some (vl ((rg (rX Tb ft len) (rY Wb ft len) len).1)), none, some (vl ((rg (rX Tb ft len) (rY Wb ft len) len).2)), none, some (vi (len : Int)), none, none, none, none, none, none]) (st' := [vi (len : Int), vi (len : Int)]) [.inl (.iload 7), .inl (.iload_n 2)] 39 _ _ (by decide +kernel) rfl ?_
        refine aw_icmp_ge (o := 111) (tgt := 153) (by decide +kernel) (by decide) (by omega) (by omega) (fun _ => ?_) (fun c => absurd (by omega) c)
        refine aw_blk (pc' := 155) (ls' := [some (vr 0 0), some (vi d), some (vi (len : Int)), some (vl ((rg (rX Tb ft len) (rY Wb ft len) len).1)), none, some (vl ((rg (rX Tb ft len) (rY Wb ft len) len).2)), none, some (vi (len : Int)), none, none, none, none, none, none]) (st' := [vi 2, vi d]) [.inl (.iload_n 1), .inl (.iconst 2)] 153 _ _ (by decide +kernel) rfl ?_
        refine aw_icmp_ne (o := 20) (tgt := 175) (by decide +kernel) (by decide) (by omega) (by omega) (fun c155 => ?_) (fun c155 => ?_)
        · refine aw_blk (pc' := 179) (ls' := [some (vr 0 0), some (vi d), some (vi (len : Int)), some (vl ((rg (rX Tb ft len) (rY Wb ft len) len).1)), none, some (vl ((rg (rX Tb ft len) (rY Wb ft len) len).2)), none, some (vi (len : Int)), none, none, none, none, none, none]) (st' := [vi d, vl ((rg (rX Tb ft len) (rY Wb ft len) len).2), vl ((rg (rX Tb ft len) (rY Wb ft len) len).1)]) [.inl (.lload_n 3), .inl (.lload 5), .inl (.iload_n 1)] 175 _ _ (by decide +kernel) rfl ?_
          refine aw_dS (cs' := 1) (sl' := 6) (pc' := 182) (st' := [vl (prt (rg (rX Tb ft len) (rY Wb ft len) len).1 (rg (rX Tb ft len) (rY Wb ft len) len).2 d)]) (idx := 152) (as := [vl ((rg (rX Tb ft len) (rY Wb ft len) len).1), vl ((rg (rX Tb ft len) (rY Wb ft len) len).2), vi d]) (st := []) (m_B_part (by constructor <;> omega) (by constructor <;> omega) (by omega)) (by decide +kernel) (show sOK "ChanceBench" 152 M_B_part 3 = true by decide +kernel) rfl (Nat.le_of_ble_eq_true rfl) (by decide) (by decide) (by decide) rfl rfl rfl rfl ?_
          exact aw_lret (by decide +kernel) rfl (by decide) (by decide) (hq _ _ ⟨rfl, Or.inr ⟨h1, h2, fun j hj => (hp j hj).1, by rw [rgA, if_neg (by omega)]⟩⟩)
        · refine aw_ldc2 (a := 2) (ix := 174) (v := 2) (by decide +kernel) (by decide +kernel) (by decide) ?_
          refine aw_blk (pc' := 165) (ls' := [some (vr 0 0), some (vi d), some (vi (len : Int)), some (vl ((rg (rX Tb ft len) (rY Wb ft len) len).1)), none, some (vl ((rg (rX Tb ft len) (rY Wb ft len) len).2)), none, some (vi (len : Int)), none, none, none, none, none, none]) (st' := [vl ((rg (rX Tb ft len) (rY Wb ft len) len).2), vl (2 * ((rg (rX Tb ft len) (rY Wb ft len) len).1))]) [.inl (.lload_n 3), .inl (.lmul), .inl (.lload 5)] 161 _ _ (by decide +kernel) rfl ?_
          refine aw_lcmp (by decide +kernel) (by omega) (by omega) ?_
          refine aw_if_le (o := 7) (tgt := 173) (by decide +kernel) (by decide) (cmpI_in _ _) (fun c165 => ?_) (fun c165 => ?_)
          · rw [cmpI_le] at c165
            refine aw_blk (pc' := 174) (ls' := [some (vr 0 0), some (vi d), some (vi (len : Int)), some (vl ((rg (rX Tb ft len) (rY Wb ft len) len).1)), none, some (vl ((rg (rX Tb ft len) (rY Wb ft len) len).2)), none, some (vi (len : Int)), none, none, none, none, none, none]) (st' := [vl 0]) [.inl (.lconst 0)] 173 _ _ (by decide +kernel) rfl ?_
            exact aw_lret (by decide +kernel) rfl (by decide) (by decide) (hq _ _ ⟨rfl, Or.inr ⟨h1, h2, fun j hj => (hp j hj).1, by rw [rgA, if_pos (by omega), if_neg (by omega)]⟩⟩)
          · rw [cmpI_le] at c165
            refine aw_blk (pc' := 170) (ls' := [some (vr 0 0), some (vi d), some (vi (len : Int)), some (vl ((rg (rX Tb ft len) (rY Wb ft len) len).1)), none, some (vl ((rg (rX Tb ft len) (rY Wb ft len) len).2)), none, some (vi (len : Int)), none, none, none, none, none, none]) (st' := [vl 1]) [.inl (.lconst 1)] 169 _ _ (by decide +kernel) rfl ?_
            refine aw_goto (o := 4) (tgt := 174) (by decide +kernel) (by decide) ?_
            exact aw_lret (by decide +kernel) rfl (by decide) (by decide) (hq _ _ ⟨rfl, Or.inr ⟨h1, h2, fun j hj => (hp j hj).1, by rw [rgA, if_pos (by omega), if_pos (by omega)]⟩⟩)
      · intro hp
        have hb := rg_in hP i hp
        have hfi := hf i
        have hfn := hf (nx len i)
        refine aw_blk (pc' := 42) (ls' := [some (vr 0 0), some (vi d), some (vi (len : Int)), some (vl ((rg (rX Tb ft len) (rY Wb ft len) i).1)), none, some (vl ((rg (rX Tb ft len) (rY Wb ft len) i).2)), none, some (vi (i : Int)), none, none, none, none, none, none]) (st' := [vi (len : Int), vi (i : Int)]) [.inl (.iload 7), .inl (.iload_n 2)] 39 _ _ (by decide +kernel) rfl ?_
        refine aw_icmp_ge (o := 111) (tgt := 153) (by decide +kernel) (by decide) (by omega) (by omega) (fun c => absurd c (by omega)) (fun _ => ?_)
        refine aw_blk (pc' := 55) (ls' := [some (vr 0 0), some (vi d), some (vi (len : Int)), some (vl ((rg (rX Tb ft len) (rY Wb ft len) i).1)), none, some (vl ((rg (rX Tb ft len) (rY Wb ft len) i).2)), none, some (vi (i : Int)), none, none, none, none, none, none]) (st' := [vi (i : Int), vr 2 0, vr 1 0]) [.inl (.aload_n 0), .inr (10, 0, 0), .inl (.aload_n 0), .inr (19, 0, 1), .inl (.iload 7)] 45 _ _ (by decide +kernel) rfl ?_
        refine aw_dV (cs' := 0) (sl' := 0) (pc' := 58) (st' := [vi (ft i), vr 1 0]) (idx := 84) (as := [vi (i : Int)]) (st := [vr 1 0]) (m_T_byteIn (a := (i : Int)) (by omega) (by omega)) (by decide +kernel) (show vOK "ChanceBench" 84 M_T_byteAt 1 = true by decide +kernel) rfl rfl rfl (Nat.le_of_ble_eq_true rfl) (by decide) (by decide) (by decide) rfl rfl rfl rfl ?_
        refine aw_dV (cs' := 0) (sl' := 0) (pc' := 61) (st' := [vo (lawAt laws (ft i))]) (idx := 117) (as := [vi (ft i)]) (st := []) (m_S_lawIn (by omega)) (by decide +kernel) (show vOK "ChanceBench" 117 M_S_lawIn 1 = true by decide +kernel) rfl rfl rfl (Nat.le_of_ble_eq_true rfl) (by decide) (by decide) (by decide) rfl rfl rfl rfl ?_
        refine aw_blk (pc' := 76) (ls' := [some (vr 0 0), some (vi d), some (vi (len : Int)), some (vl ((rg (rX Tb ft len) (rY Wb ft len) i).1)), none, some (vl ((rg (rX Tb ft len) (rY Wb ft len) i).2)), none, some (vi (i : Int)), some (vo (lawAt laws (ft i))), none, none, none, none, none]) (st' := [vi (len : Int), vi ((i : Int) + 1), vr 2 0, vr 1 0]) [.inl (.astore 8), .inl (.aload_n 0), .inr (10, 0, 0), .inl (.aload_n 0), .inr (19, 0, 1), .inl (.iload 7), .inl (.iconst 1), .inl (.iadd), .inl (.iload_n 2)] 61 _ _ (by decide +kernel) rfl ?_
        refine aw_icmp_ge (o := 10) (tgt := 86) (by decide +kernel) (by decide) (by omega) (by omega) (fun c76 => ?_) (fun c76 => ?_)
        · refine aw_blk (pc' := 87) (ls' := [some (vr 0 0), some (vi d), some (vi (len : Int)), some (vl ((rg (rX Tb ft len) (rY Wb ft len) i).1)), none, some (vl ((rg (rX Tb ft len) (rY Wb ft len) i).2)), none, some (vi (i : Int)), some (vo (lawAt laws (ft i))), none, none, none, none, none]) (st' := [vi 0, vr 2 0, vr 1 0]) [.inl (.iconst 0)] 86 _ _ (by decide +kernel) rfl ?_
          have enx : nx len i = 0 := by unfold nx; rw [if_neg (by omega)]
          refine aw_dV (cs' := 0) (sl' := 0) (pc' := 90) (st' := [vi (ft (0)), vr 1 0]) (idx := 84) (as := [vi 0]) (st := [vr 1 0]) (m_T_byteIn (a := ((0 : Nat) : Int)) (by omega) (by omega)) (by decide +kernel) (show vOK "ChanceBench" 84 M_T_byteAt 1 = true by decide +kernel) rfl rfl rfl (Nat.le_of_ble_eq_true rfl) (by decide) (by decide) (by decide) rfl rfl rfl rfl ?_
          have hfn2 : I32 (ft (0)) := by rw [← enx]; omega
          refine aw_dV (cs' := 0) (sl' := 0) (pc' := 93) (st' := [vo (lawAt laws (ft (0)))]) (idx := 117) (as := [vi (ft (0))]) (st := []) (m_S_lawIn hfn2) (by decide +kernel) (show vOK "ChanceBench" 117 M_S_lawIn 1 = true by decide +kernel) rfl rfl rfl (Nat.le_of_ble_eq_true rfl) (by decide) (by decide) (by decide) rfl rfl rfl rfl ?_
          rw [show lawAt laws (ft (0)) = lawAt laws (ft (nx len i)) by rw [enx]]
          refine aw_blk (pc' := 97) (ls' := [some (vr 0 0), some (vi d), some (vi (len : Int)), some (vl ((rg (rX Tb ft len) (rY Wb ft len) i).1)), none, some (vl ((rg (rX Tb ft len) (rY Wb ft len) i).2)), none, some (vi (i : Int)), some (vo (lawAt laws (ft i))), some (vo (lawAt laws (ft (nx len i)))), none, none, none, none]) (st' := [vo (lawAt laws (ft i))]) [.inl (.astore 9), .inl (.aload 8)] 93 _ _ (by decide +kernel) rfl ?_
          have hP1 := hP (ft i)
          have hP2 := hP (ft (nx len i))
          rcases hq1 : lawAt laws (ft i) with _ | y1
          · refine aw_ifnull (o := 8) (tgt := 105) (by decide +kernel) (by decide) (fun _ => ?_) (fun _ z => nomatch z)
            refine aw_ldc2 (a := (-1)) (ix := 289) (v := (-1)) (by decide +kernel) (by decide +kernel) (by decide) ?_
            exact aw_lret (by decide +kernel) rfl (by decide) (by decide) (hq _ _ ⟨rfl, Or.inl ⟨Or.inr (Or.inr ⟨i, hi9, hq1⟩), rfl⟩⟩)
          · rw [hq1] at hP1
            obtain ⟨k, k1, k2, n, at_, wt, rfl, hA, A, eT⟩ := hP1
            refine aw_ifnull (o := 8) (tgt := 105) (by decide +kernel) (by decide) (fun z => nomatch z) (fun _ _ => ?_)
            refine aw_blk (pc' := 102) (ls' := [some (vr 0 0), some (vi d), some (vi (len : Int)), some (vl ((rg (rX Tb ft len) (rY Wb ft len) i).1)), none, some (vl ((rg (rX Tb ft len) (rY Wb ft len) i).2)), none, some (vi (i : Int)), some (vr 9 k), some (vo (lawAt laws (ft (nx len i)))), none, none, none, none]) (st' := [vo (lawAt laws (ft (nx len i)))]) [.inl (.aload 9)] 100 _ _ (by decide +kernel) rfl ?_
            rcases hq2 : lawAt laws (ft (nx len i)) with _ | y2
            · refine aw_ifnonnull (o := 7) (tgt := 109) (by decide +kernel) (by decide) (fun _ z => nomatch z) (fun _ => ?_)
              refine aw_ldc2 (a := (-1)) (ix := 289) (v := (-1)) (by decide +kernel) (by decide +kernel) (by decide) ?_
              exact aw_lret (by decide +kernel) rfl (by decide) (by decide) (hq _ _ ⟨rfl, Or.inl ⟨Or.inr (Or.inr ⟨nx len i, by rw [enx]; omega, hq2⟩), rfl⟩⟩)
            · rw [hq2] at hP2
              obtain ⟨q, q1, q2, m, at2, wt2, rfl, hA2, A2, eT2⟩ := hP2
              refine aw_ifnonnull (o := 7) (tgt := 109) (by decide +kernel) (by decide) (fun _ _ => ?_) (fun z => nomatch z)
              refine aw_blk (pc' := 113) (ls' := [some (vr 0 0), some (vi d), some (vi (len : Int)), some (vl ((rg (rX Tb ft len) (rY Wb ft len) i).1)), none, some (vl ((rg (rX Tb ft len) (rY Wb ft len) i).2)), none, some (vi (i : Int)), some (vr 9 k), some (vr 9 q), none, none, none, none]) (st' := [vr 9 q, vr 9 k]) [.inl (.aload 8), .inl (.aload 9)] 109 _ _ (by decide +kernel) rfl ?_
              have hp2 : ∀ j, j < i + 1 → lawAt laws (ft j) ≠ none ∧ lawAt laws (ft (nx len j)) ≠ none := fun j hj => by
                rcases Nat.lt_or_ge j i with z | z
                · exact hp j z
                · rw [show j = i by omega, hq1, hq2]; exact ⟨(fun z => nomatch z), (fun z => nomatch z)⟩
              have hw := win_in A A2
              have a1 := A.2.2.2
              have b1 := A2.2.2.2
              have hWW := mulB (x := Wb (ft i)) (y := Wb (ft (nx len i))) (by omega) (by omega) (by omega) (by omega)
              have hW1 := Int.mul_le_mul a1.1 b1.1 (by omega) (by omega)
              refine aw_dS (cs' := 0) (sl' := 0) (pc' := 116) (st' := [vl (wns at_ wt at2 wt2 m n)]) (idx := 246) (as := [vr 9 k, vr 9 q]) (st := []) (m_B_winsOf hA.L hA2.L A.2.1 A2.2.1) (by decide +kernel) (show sOK "ChanceBench" 246 M_B_winsOf 2 = true by decide +kernel) rfl (Nat.le_of_ble_eq_true rfl) (by decide) (by decide) (by decide) rfl rfl rfl rfl ?_
              rw [wns_T A A2, ← eT, ← eT2]
              rw [← eT, ← eT2] at hw
              change 0 ≤ rX Tb ft len i ∧ rX Tb ft len i ≤ rY Wb ft len i at hw
              change 0 ≤ rY Wb ft len i ∧ rY Wb ft len i ≤ _ at hWW
              change _ ≤ rY Wb ft len i at hW1
              refine aw_blk (pc' := 122) (ls' := [some (vr 0 0), some (vi d), some (vi (len : Int)), some (vl ((rg (rX Tb ft len) (rY Wb ft len) i).1)), none, some (vl ((rg (rX Tb ft len) (rY Wb ft len) i).2)), none, some (vi (i : Int)), some (vr 9 k), some (vr 9 q), some (vl (rX Tb ft len i)), none, none, none]) (st' := [vr 9 q, vr 9 k]) [.inl (.lstore 10), .inl (.aload 8), .inl (.aload 9)] 116 _ _ (by decide +kernel) rfl ?_
              refine aw_dS (cs' := 0) (sl' := 0) (pc' := 125) (st' := [vl (rY Wb ft len i)]) (idx := 176) (as := [vr 9 k, vr 9 q]) (st := []) (m_B_product hA.L hA2.L) (by decide +kernel) (show sOK "ChanceBench" 176 M_B_product 2 = true by decide +kernel) rfl (Nat.le_of_ble_eq_true rfl) (by decide) (by decide) (by decide) rfl rfl rfl rfl ?_
              refine aw_blk (pc' := 134) (ls' := [some (vr 0 0), some (vi d), some (vi (len : Int)), some (vl ((rg (rX Tb ft len) (rY Wb ft len) i).1)), none, some (vl ((rg (rX Tb ft len) (rY Wb ft len) i).2)), none, some (vi (i : Int)), some (vr 9 k), some (vr 9 q), some (vl (rX Tb ft len i)), none, some (vl (rY Wb ft len i)), none]) (st' := [vl ((rg (rX Tb ft len) (rY Wb ft len) i).2), vl ((rg (rX Tb ft len) (rY Wb ft len) i).1), vl (rY Wb ft len i), vl (rX Tb ft len i)]) [.inl (.lstore 12), .inl (.lload 10), .inl (.lload 12), .inl (.lload_n 3), .inl (.lload 5)] 125 _ _ (by decide +kernel) rfl ?_
              refine aw_dS (cs' := 0) (sl' := 0) (pc' := 137) (st' := [vi (isl (rY Wb ft len i) (rg (rX Tb ft len) (rY Wb ft len) i).2 5 (rX Tb ft len i) (rg (rX Tb ft len) (rY Wb ft len) i).1)]) (idx := 291) (as := [vl (rX Tb ft len i), vl (rY Wb ft len i), vl ((rg (rX Tb ft len) (rY Wb ft len) i).1), vl ((rg (rX Tb ft len) (rY Wb ft len) i).2)]) (st := []) (m_B_isLess ⟨hw.1, by omega⟩ ⟨by omega, by omega⟩ ⟨hb.1.1, hb.1.2⟩ hb.2) (by decide +kernel) (show sOK "ChanceBench" 291 M_B_isLess 4 = true by decide +kernel) rfl (Nat.le_of_ble_eq_true rfl) (by decide) (by decide) (by decide) rfl rfl rfl rfl ?_
              rw [isl_5 ⟨by omega, by omega⟩ hb.2 hw.1 hb.1.1]
              by_cases hlt : rX Tb ft len i * (rg (rX Tb ft len) (rY Wb ft len) i).2 < (rg (rX Tb ft len) (rY Wb ft len) i).1 * rY Wb ft len i
              · rw [if_pos hlt]
                refine aw_if_eq (o := 10) (tgt := 147) (by decide +kernel) (by decide) (by omega) (fun c => absurd c (by omega)) (fun _ => ?_)
                refine aw_blk (pc' := 150) (ls' := [some (vr 0 0), some (vi d), some (vi (len : Int)), some (vl (rX Tb ft len i)), none, some (vl (rY Wb ft len i)), none, some (vi ((i : Int) + 1)), some (vr 9 k), some (vr 9 q), some (vl (rX Tb ft len i)), none, some (vl (rY Wb ft len i)), none]) (st' := []) [.inl (.lload 10), .inl (.lstore_n 3), .inl (.lload 12), .inl (.lstore 5), .inl (.iinc 7 1)] 140 _ _ (by decide +kernel) rfl ?_
                refine aw_goto (o := -111) (tgt := 39) (by decide +kernel) (by decide) ?_
                refine aw_ls (ls' := [some (vr 0 0), some (vi d), some (vi (len : Int)), some (vl (rX Tb ft len i)), none, some (vl (rY Wb ft len i)), none, some (vi ((i : Int) + 1)), none, none, none, none, none, none]) (lsk_s (lsk_s (lsk_s (lsk_s (lsk_n (lsk_s (lsk_n (lsk_s (lsk_n (lsk_n (lsk_n (lsk_n (lsk_n (lsk_n lsk_0)))))))))))))) ?_
                exact aw_eq (by rw [rg, if_pos hlt]; rfl) rfl rfl (ih hp2)
              · rw [if_neg hlt]
                refine aw_if_eq (o := 10) (tgt := 147) (by decide +kernel) (by decide) (by omega) (fun _ => ?_) (fun c => absurd (by omega) c)
                refine aw_blk (pc' := 150) (ls' := [some (vr 0 0), some (vi d), some (vi (len : Int)), some (vl ((rg (rX Tb ft len) (rY Wb ft len) i).1)), none, some (vl ((rg (rX Tb ft len) (rY Wb ft len) i).2)), none, some (vi ((i : Int) + 1)), some (vr 9 k), some (vr 9 q), some (vl (rX Tb ft len i)), none, some (vl (rY Wb ft len i)), none]) (st' := []) [.inl (.iinc 7 1)] 147 _ _ (by decide +kernel) rfl ?_
                refine aw_goto (o := -111) (tgt := 39) (by decide +kernel) (by decide) ?_
                refine aw_ls (ls' := [some (vr 0 0), some (vi d), some (vi (len : Int)), some (vl ((rg (rX Tb ft len) (rY Wb ft len) i).1)), none, some (vl ((rg (rX Tb ft len) (rY Wb ft len) i).2)), none, some (vi ((i : Int) + 1)), none, none, none, none, none, none]) (lsk_s (lsk_s (lsk_s (lsk_s (lsk_n (lsk_s (lsk_n (lsk_s (lsk_n (lsk_n (lsk_n (lsk_n (lsk_n (lsk_n lsk_0)))))))))))))) ?_
                exact aw_eq (by rw [rg, if_neg hlt]; rfl) rfl rfl (ih hp2)
        · refine aw_blk (pc' := 83) (ls' := [some (vr 0 0), some (vi d), some (vi (len : Int)), some (vl ((rg (rX Tb ft len) (rY Wb ft len) i).1)), none, some (vl ((rg (rX Tb ft len) (rY Wb ft len) i).2)), none, some (vi (i : Int)), some (vo (lawAt laws (ft i))), none, none, none, none, none]) (st' := [vi ((i : Int) + 1), vr 2 0, vr 1 0]) [.inl (.iload 7), .inl (.iconst 1), .inl (.iadd)] 79 _ _ (by decide +kernel) rfl ?_
          refine aw_goto (o := 4) (tgt := 87) (by decide +kernel) (by decide) ?_
          have enx : nx len i = i + 1 := by unfold nx; rw [if_pos (by omega)]
          refine aw_dV (cs' := 0) (sl' := 0) (pc' := 90) (st' := [vi (ft (i + 1)), vr 1 0]) (idx := 84) (as := [vi ((i : Int) + 1)]) (st := [vr 1 0]) (m_T_byteIn (a := ((i + 1 : Nat) : Int)) (by omega) (by omega)) (by decide +kernel) (show vOK "ChanceBench" 84 M_T_byteAt 1 = true by decide +kernel) rfl rfl rfl (Nat.le_of_ble_eq_true rfl) (by decide) (by decide) (by decide) rfl rfl rfl rfl ?_
          have hfn2 : I32 (ft (i + 1)) := by rw [← enx]; omega
          refine aw_dV (cs' := 0) (sl' := 0) (pc' := 93) (st' := [vo (lawAt laws (ft (i + 1)))]) (idx := 117) (as := [vi (ft (i + 1))]) (st := []) (m_S_lawIn hfn2) (by decide +kernel) (show vOK "ChanceBench" 117 M_S_lawIn 1 = true by decide +kernel) rfl rfl rfl (Nat.le_of_ble_eq_true rfl) (by decide) (by decide) (by decide) rfl rfl rfl rfl ?_
          rw [show lawAt laws (ft (i + 1)) = lawAt laws (ft (nx len i)) by rw [enx]]
          refine aw_blk (pc' := 97) (ls' := [some (vr 0 0), some (vi d), some (vi (len : Int)), some (vl ((rg (rX Tb ft len) (rY Wb ft len) i).1)), none, some (vl ((rg (rX Tb ft len) (rY Wb ft len) i).2)), none, some (vi (i : Int)), some (vo (lawAt laws (ft i))), some (vo (lawAt laws (ft (nx len i)))), none, none, none, none]) (st' := [vo (lawAt laws (ft i))]) [.inl (.astore 9), .inl (.aload 8)] 93 _ _ (by decide +kernel) rfl ?_
          have hP1 := hP (ft i)
          have hP2 := hP (ft (nx len i))
          rcases hq1 : lawAt laws (ft i) with _ | y1
          · refine aw_ifnull (o := 8) (tgt := 105) (by decide +kernel) (by decide) (fun _ => ?_) (fun _ z => nomatch z)
            refine aw_ldc2 (a := (-1)) (ix := 289) (v := (-1)) (by decide +kernel) (by decide +kernel) (by decide) ?_
            exact aw_lret (by decide +kernel) rfl (by decide) (by decide) (hq _ _ ⟨rfl, Or.inl ⟨Or.inr (Or.inr ⟨i, hi9, hq1⟩), rfl⟩⟩)
          · rw [hq1] at hP1
            obtain ⟨k, k1, k2, n, at_, wt, rfl, hA, A, eT⟩ := hP1
            refine aw_ifnull (o := 8) (tgt := 105) (by decide +kernel) (by decide) (fun z => nomatch z) (fun _ _ => ?_)
            refine aw_blk (pc' := 102) (ls' := [some (vr 0 0), some (vi d), some (vi (len : Int)), some (vl ((rg (rX Tb ft len) (rY Wb ft len) i).1)), none, some (vl ((rg (rX Tb ft len) (rY Wb ft len) i).2)), none, some (vi (i : Int)), some (vr 9 k), some (vo (lawAt laws (ft (nx len i)))), none, none, none, none]) (st' := [vo (lawAt laws (ft (nx len i)))]) [.inl (.aload 9)] 100 _ _ (by decide +kernel) rfl ?_
            rcases hq2 : lawAt laws (ft (nx len i)) with _ | y2
            · refine aw_ifnonnull (o := 7) (tgt := 109) (by decide +kernel) (by decide) (fun _ z => nomatch z) (fun _ => ?_)
              refine aw_ldc2 (a := (-1)) (ix := 289) (v := (-1)) (by decide +kernel) (by decide +kernel) (by decide) ?_
              exact aw_lret (by decide +kernel) rfl (by decide) (by decide) (hq _ _ ⟨rfl, Or.inl ⟨Or.inr (Or.inr ⟨nx len i, by rw [enx]; omega, hq2⟩), rfl⟩⟩)
            · rw [hq2] at hP2
              obtain ⟨q, q1, q2, m, at2, wt2, rfl, hA2, A2, eT2⟩ := hP2
              refine aw_ifnonnull (o := 7) (tgt := 109) (by decide +kernel) (by decide) (fun _ _ => ?_) (fun z => nomatch z)
              refine aw_blk (pc' := 113) (ls' := [some (vr 0 0), some (vi d), some (vi (len : Int)), some (vl ((rg (rX Tb ft len) (rY Wb ft len) i).1)), none, some (vl ((rg (rX Tb ft len) (rY Wb ft len) i).2)), none, some (vi (i : Int)), some (vr 9 k), some (vr 9 q), none, none, none, none]) (st' := [vr 9 q, vr 9 k]) [.inl (.aload 8), .inl (.aload 9)] 109 _ _ (by decide +kernel) rfl ?_
              have hp2 : ∀ j, j < i + 1 → lawAt laws (ft j) ≠ none ∧ lawAt laws (ft (nx len j)) ≠ none := fun j hj => by
                rcases Nat.lt_or_ge j i with z | z
                · exact hp j z
                · rw [show j = i by omega, hq1, hq2]; exact ⟨(fun z => nomatch z), (fun z => nomatch z)⟩
              have hw := win_in A A2
              have a1 := A.2.2.2
              have b1 := A2.2.2.2
              have hWW := mulB (x := Wb (ft i)) (y := Wb (ft (nx len i))) (by omega) (by omega) (by omega) (by omega)
              have hW1 := Int.mul_le_mul a1.1 b1.1 (by omega) (by omega)
              refine aw_dS (cs' := 0) (sl' := 0) (pc' := 116) (st' := [vl (wns at_ wt at2 wt2 m n)]) (idx := 246) (as := [vr 9 k, vr 9 q]) (st := []) (m_B_winsOf hA.L hA2.L A.2.1 A2.2.1) (by decide +kernel) (show sOK "ChanceBench" 246 M_B_winsOf 2 = true by decide +kernel) rfl (Nat.le_of_ble_eq_true rfl) (by decide) (by decide) (by decide) rfl rfl rfl rfl ?_
              rw [wns_T A A2, ← eT, ← eT2]
              rw [← eT, ← eT2] at hw
              change 0 ≤ rX Tb ft len i ∧ rX Tb ft len i ≤ rY Wb ft len i at hw
              change 0 ≤ rY Wb ft len i ∧ rY Wb ft len i ≤ _ at hWW
              change _ ≤ rY Wb ft len i at hW1
              refine aw_blk (pc' := 122) (ls' := [some (vr 0 0), some (vi d), some (vi (len : Int)), some (vl ((rg (rX Tb ft len) (rY Wb ft len) i).1)), none, some (vl ((rg (rX Tb ft len) (rY Wb ft len) i).2)), none, some (vi (i : Int)), some (vr 9 k), some (vr 9 q), some (vl (rX Tb ft len i)), none, none, none]) (st' := [vr 9 q, vr 9 k]) [.inl (.lstore 10), .inl (.aload 8), .inl (.aload 9)] 116 _ _ (by decide +kernel) rfl ?_
              refine aw_dS (cs' := 0) (sl' := 0) (pc' := 125) (st' := [vl (rY Wb ft len i)]) (idx := 176) (as := [vr 9 k, vr 9 q]) (st := []) (m_B_product hA.L hA2.L) (by decide +kernel) (show sOK "ChanceBench" 176 M_B_product 2 = true by decide +kernel) rfl (Nat.le_of_ble_eq_true rfl) (by decide) (by decide) (by decide) rfl rfl rfl rfl ?_
              refine aw_blk (pc' := 134) (ls' := [some (vr 0 0), some (vi d), some (vi (len : Int)), some (vl ((rg (rX Tb ft len) (rY Wb ft len) i).1)), none, some (vl ((rg (rX Tb ft len) (rY Wb ft len) i).2)), none, some (vi (i : Int)), some (vr 9 k), some (vr 9 q), some (vl (rX Tb ft len i)), none, some (vl (rY Wb ft len i)), none]) (st' := [vl ((rg (rX Tb ft len) (rY Wb ft len) i).2), vl ((rg (rX Tb ft len) (rY Wb ft len) i).1), vl (rY Wb ft len i), vl (rX Tb ft len i)]) [.inl (.lstore 12), .inl (.lload 10), .inl (.lload 12), .inl (.lload_n 3), .inl (.lload 5)] 125 _ _ (by decide +kernel) rfl ?_
              refine aw_dS (cs' := 0) (sl' := 0) (pc' := 137) (st' := [vi (isl (rY Wb ft len i) (rg (rX Tb ft len) (rY Wb ft len) i).2 5 (rX Tb ft len i) (rg (rX Tb ft len) (rY Wb ft len) i).1)]) (idx := 291) (as := [vl (rX Tb ft len i), vl (rY Wb ft len i), vl ((rg (rX Tb ft len) (rY Wb ft len) i).1), vl ((rg (rX Tb ft len) (rY Wb ft len) i).2)]) (st := []) (m_B_isLess ⟨hw.1, by omega⟩ ⟨by omega, by omega⟩ ⟨hb.1.1, hb.1.2⟩ hb.2) (by decide +kernel) (show sOK "ChanceBench" 291 M_B_isLess 4 = true by decide +kernel) rfl (Nat.le_of_ble_eq_true rfl) (by decide) (by decide) (by decide) rfl rfl rfl rfl ?_
              rw [isl_5 ⟨by omega, by omega⟩ hb.2 hw.1 hb.1.1]
              by_cases hlt : rX Tb ft len i * (rg (rX Tb ft len) (rY Wb ft len) i).2 < (rg (rX Tb ft len) (rY Wb ft len) i).1 * rY Wb ft len i
              · rw [if_pos hlt]
                refine aw_if_eq (o := 10) (tgt := 147) (by decide +kernel) (by decide) (by omega) (fun c => absurd c (by omega)) (fun _ => ?_)
                refine aw_blk (pc' := 150) (ls' := [some (vr 0 0), some (vi d), some (vi (len : Int)), some (vl (rX Tb ft len i)), none, some (vl (rY Wb ft len i)), none, some (vi ((i : Int) + 1)), some (vr 9 k), some (vr 9 q), some (vl (rX Tb ft len i)), none, some (vl (rY Wb ft len i)), none]) (st' := []) [.inl (.lload 10), .inl (.lstore_n 3), .inl (.lload 12), .inl (.lstore 5), .inl (.iinc 7 1)] 140 _ _ (by decide +kernel) rfl ?_
                refine aw_goto (o := -111) (tgt := 39) (by decide +kernel) (by decide) ?_
                refine aw_ls (ls' := [some (vr 0 0), some (vi d), some (vi (len : Int)), some (vl (rX Tb ft len i)), none, some (vl (rY Wb ft len i)), none, some (vi ((i : Int) + 1)), none, none, none, none, none, none]) (lsk_s (lsk_s (lsk_s (lsk_s (lsk_n (lsk_s (lsk_n (lsk_s (lsk_n (lsk_n (lsk_n (lsk_n (lsk_n (lsk_n lsk_0)))))))))))))) ?_
                exact aw_eq (by rw [rg, if_pos hlt]; rfl) rfl rfl (ih hp2)
              · rw [if_neg hlt]
                refine aw_if_eq (o := 10) (tgt := 147) (by decide +kernel) (by decide) (by omega) (fun _ => ?_) (fun c => absurd (by omega) c)
                refine aw_blk (pc' := 150) (ls' := [some (vr 0 0), some (vi d), some (vi (len : Int)), some (vl ((rg (rX Tb ft len) (rY Wb ft len) i).1)), none, some (vl ((rg (rX Tb ft len) (rY Wb ft len) i).2)), none, some (vi ((i : Int) + 1)), some (vr 9 k), some (vr 9 q), some (vl (rX Tb ft len i)), none, some (vl (rY Wb ft len i)), none]) (st' := []) [.inl (.iinc 7 1)] 147 _ _ (by decide +kernel) rfl ?_
                refine aw_goto (o := -111) (tgt := 39) (by decide +kernel) (by decide) ?_
                refine aw_ls (ls' := [some (vr 0 0), some (vi d), some (vi (len : Int)), some (vl ((rg (rX Tb ft len) (rY Wb ft len) i).1)), none, some (vl ((rg (rX Tb ft len) (rY Wb ft len) i).2)), none, some (vi ((i : Int) + 1)), none, none, none, none, none, none]) (lsk_s (lsk_s (lsk_s (lsk_s (lsk_n (lsk_s (lsk_n (lsk_s (lsk_n (lsk_n (lsk_n (lsk_n (lsk_n (lsk_n lsk_0)))))))))))))) ?_
                exact aw_eq (by rw [rg, if_neg hlt]; rfl) rfl rfl (ih hp2)
    · rw [if_neg h2]
      refine aw_if_ne (o := 7) (tgt := 31) (by decide +kernel) (by decide) (by omega) (fun c => absurd (by omega) c) (fun _ => ?_)
      refine aw_ldc2 (a := (-1)) (ix := 289) (v := (-1)) (by decide +kernel) (by decide +kernel) (by decide) ?_
      exact aw_lret (by decide +kernel) rfl (by decide) (by decide) (hq _ _ ⟨rfl, Or.inl ⟨Or.inr (Or.inl h2), rfl⟩⟩)
  · rw [if_neg h1]
    refine aw_if_eq (o := 12) (tgt := 27) (by decide +kernel) (by decide) (by omega) (fun _ => ?_) (fun c => absurd (by omega) c)
    refine aw_ldc2 (a := (-1)) (ix := 289) (v := (-1)) (by decide +kernel) (by decide +kernel) (by decide) ?_
    exact aw_lret (by decide +kernel) rfl (by decide) (by decide) (hq _ _ ⟨rfl, Or.inl ⟨Or.inl h1, rfl⟩⟩)

theorem m_B_ring (hi : I32 d) (hln : len ≤ 200) (hf : ∀ i, 0 ≤ ft i ∧ ft i ≤ 255) (hP : ∀ a : Int, lawR dy (lawAt laws a) (Tb a) (Wb a)) : AMet G M_B_ring [vr 0 0, vi d] (Hp (sgB bd tk) (sgS laws slot ahead made (od : Int) (dn : Int) (un : Int)) (sgT (len : Int) ft) (sgK (nn : Int) rr ff gg) df jo tr di mo dy) (fun r h => h = Hp (sgB bd tk) (sgS laws slot ahead made (od : Int) (dn : Int) (un : Int)) (sgT 0 ft) (sgK (nn : Int) rr ff gg) df jo tr di mo dy ∧ ((((¬ (1 ≤ (len : Int) ∧ (len : Int) ≤ 16)) ∨ ¬ (0 ≤ d ∧ d ≤ 2) ∨ ∃ j, j < len ∧ lawAt laws (ft j) = none) ∧ r = some (vl (-1))) ∨ ((1 ≤ (len : Int) ∧ (len : Int) ≤ 16) ∧ (0 ≤ d ∧ d ≤ 2) ∧ (∀ j, j < len → lawAt laws (ft j) ≠ none) ∧ r = some (vl (rgA (rg (rX Tb ft len) (rY Wb ft len) len).1 (rg (rX Tb ft len) (rY Wb ft len) len).2 d))))) (fun _ => False) := by
  refine am_rel (by decide +kernel) (Nat.le_of_ble_eq_true rfl) (fun Qr Qt hq => ?_)
  refine aw_blk (pc' := 2) (ls' := [some (vr 0 0), some (vi d), none, none]) (st' := [vi d, vr 0 0]) [.inl (.aload_n 0), .inl (.iload_n 1)] 0 _ _ (by decide +kernel) rfl ?_
  refine aw_rV (cs' := 1) (sl' := 6) (pc' := 5) (idx := 249) (as := [vi d]) (st := []) (m_B_judgedRing hi hln hf hP) (by decide +kernel) (show vOK "ChanceBench" 249 M_B_judgedRing 1 = true by decide +kernel) rfl rfl rfl (Nat.le_of_ble_eq_true rfl) (by decide) (by decide) (by decide) rfl rfl rfl (fun r2 h2 z2 => ?_)
  obtain ⟨rfl, ⟨h3, rfl⟩ | ⟨h3, h4, h5, rfl⟩⟩ := z2
  · refine aw_blk (pc' := 10) (ls' := [some (vr 0 0), some (vi d), some (vl (-1)), none]) (st' := [vr 2 0]) [.inl (.lstore_n 2), .inl (.aload_n 0), .inr (19, 0, 1)] 5 _ _ (by decide +kernel) rfl ?_
    refine aw_dV (cs' := 1) (sl' := 6) (pc' := 13) (st' := []) (idx := 92) (as := []) (st := []) (m_T_empty) (by decide +kernel) (show vOK "ChanceBench" 92 M_T_empty 0 = true by decide +kernel) rfl rfl rfl (Nat.le_of_ble_eq_true rfl) (by decide) (by decide) (by decide) rfl rfl rfl rfl ?_
    refine aw_blk (pc' := 14) (ls' := [some (vr 0 0), some (vi d), some (vl (-1)), none]) (st' := [vl (-1)]) [.inl (.lload_n 2)] 13 _ _ (by decide +kernel) rfl ?_
    exact aw_lret (by decide +kernel) rfl (by decide) (by decide) (hq _ _ ⟨rfl, Or.inl ⟨h3, rfl⟩⟩)
  · refine aw_blk (pc' := 10) (ls' := [some (vr 0 0), some (vi d), some (vl (rgA (rg (rX Tb ft len) (rY Wb ft len) len).1 (rg (rX Tb ft len) (rY Wb ft len) len).2 d)), none]) (st' := [vr 2 0]) [.inl (.lstore_n 2), .inl (.aload_n 0), .inr (19, 0, 1)] 5 _ _ (by decide +kernel) rfl ?_
    refine aw_dV (cs' := 1) (sl' := 6) (pc' := 13) (st' := []) (idx := 92) (as := []) (st := []) (m_T_empty) (by decide +kernel) (show vOK "ChanceBench" 92 M_T_empty 0 = true by decide +kernel) rfl rfl rfl (Nat.le_of_ble_eq_true rfl) (by decide) (by decide) (by decide) rfl rfl rfl rfl ?_
    refine aw_blk (pc' := 14) (ls' := [some (vr 0 0), some (vi d), some (vl (rgA (rg (rX Tb ft len) (rY Wb ft len) len).1 (rg (rX Tb ft len) (rY Wb ft len) len).2 d)), none]) (st' := [vl (rgA (rg (rX Tb ft len) (rY Wb ft len) len).1 (rg (rX Tb ft len) (rY Wb ft len) len).2 d)]) [.inl (.lload_n 2)] 13 _ _ (by decide +kernel) rfl ?_
    exact aw_lret (by decide +kernel) rfl (by decide) (by decide) (hq _ _ ⟨rfl, Or.inr ⟨h3, h4, h5, rfl⟩⟩)

end
