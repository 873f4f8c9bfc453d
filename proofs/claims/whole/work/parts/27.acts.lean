/-- something beyond the values comes in -/
def byd (V C : Nat → Int) (n : Nat) : Prop := ∃ k, k < n ∧ 1 ≤ C k ∧ ¬ inR (V k)
theorem byd_s {V C : Nat → Int} {n : Nat} : byd V C (n + 1) ↔ byd V C n ∨ (1 ≤ C n ∧ ¬ inR (V n)) := by
  constructor
  · rintro ⟨k, h1, h2⟩
    rcases Nat.lt_or_ge k n with z | z
    · exact Or.inl ⟨k, z, h2⟩
    · have : k = n := by omega
      subst this; exact Or.inr h2
  · rintro (⟨k, h1, h2⟩ | h)
    · exact ⟨k, by omega, h2⟩
    · exact ⟨n, by omega, h⟩
theorem byd_0 {V C : Nat → Int} : ¬ byd V C 0 := fun ⟨k, h, _⟩ => by omega
/-- one add more -/
theorem mkR.s {B B' : Int} {V C : Nat → Int} {T0 : Int → Int} {b0 : Prop} {i n : Nat} {rf : Int} {f g : Nat → Int} (R : mkR (B + C i) (fun u => (T0 u + den V C i u) + (if V i = u then C i else 0)) ((b0 ∨ byd V C i) ∨ (1 ≤ C i ∧ ¬ inR (V i))) n rf f g) (hB : B + C i ≤ B') : mkR B' (fun u => T0 u + den V C (i + 1) u) (b0 ∨ byd V C (i + 1)) n rf f g :=
  R.eq hB (fun u _ => by rw [den_s]; omega) (by rw [byd_s, or_assoc])
theorem mkR.z {B : Int} {V C : Nat → Int} {T0 : Int → Int} {b0 : Prop} {n : Nat} {rf : Int} {f g : Nat → Int} (R : mkR B T0 b0 n rf f g) : mkR B (fun u => T0 u + den V C 0 u) (b0 ∨ byd V C 0) n rf f g :=
  R.eq (Int.le_refl _) (fun u _ => by rw [show den V C 0 u = 0 from rfl, Int.add_zero]) ⟨Or.inl, fun z => z.elim id (fun z => absurd z byd_0)⟩
theorem mkR.e {B : Int} {V C : Nat → Int} {n N : Nat} {rf : Int} {f g : Nat → Int} (R : mkR B (fun u => 0 + den V C N u) (False ∨ byd V C N) n rf f g) : mkR B (den V C N) (byd V C N) n rf f g :=
  R.eq (Int.le_refl _) (fun u _ => by rw [Int.zero_add]) ⟨fun z => z.elim False.elim id, Or.inr⟩
theorem am_rel {G : GT} {M : MI} {h : HT} {Qr : Option AV → HT → Prop} {as : List AV} (hy : plainName M.1.cls = true) (hn : (entL as).length ≤ M.2.2.1) (k : ∀ Qr9 Qt9, (∀ x g, Qr x g → Qr9 x g) → AW G M Qr9 Qt9 0 0 0 (entN as M.2.2.1) [] h) : AMet G M as h Qr (fun _ => False) :=
  am_entry hy hn (k _ _ (fun _ _ z => z))
section
variable {G : GT} {h : HT} {b s t mk df jo tr di mo dy : SG} {a c d e B bd tk : Int} {n m k k1 k2 q q1 q2 j nn len : Nat} {f g ff gg ft at_ wt at2 wt2 : Nat → Int} {rf rr W W2 : Int} {T : Int → Int} {by_ : Prop} {laws ahead made : Nat → Option (Nat × Nat)} {slot : Nat → Int} {od dn un : Nat}
theorem m_B_wheel (ha : I32 a) (hI : I32 c ∧ I32 d) (ho : od < 30) (hd : dn ≤ 30) (hl : lwOK dy laws) : AMet G M_B_wheel [vr 0 0, vi a, vi d, vi c] (Hp (sgB bd tk) (sgS laws slot ahead made (od : Int) (dn : Int) (un : Int)) t (sgK (nn : Int) rr ff gg) df jo tr di mo dy) (fun r h => ∃ (nn : Nat) (rr : Int) (ff gg : Nat → Int), stl laws slot ahead made od dn un bd tk t (sgK (nn : Int) rr ff gg) df jo tr di mo dy a (den (fun k => c + (k : Int)) (fun _ => 1) d.toNat) (¬ (1 ≤ d ∧ d ≤ 24) ∨ byd (fun k => c + (k : Int)) (fun _ => 1) d.toNat) r h) (fun _ => False) := by
  refine am_rel (by decide +kernel) (Nat.le_of_ble_eq_true rfl) (fun Qr Qt hq => ?_)
  refine aw_blk (pc' := 2) (ls' := [some (vr 0 0), some (vi a), some (vi d), some (vi c), none]) (st' := [vi 1, vi d]) [.inl (.iload_n 2), .inl (.iconst 1)] 0 _ _ (by decide +kernel) rfl ?_
  have hi0 := hI
  refine aw_icmp_lt (o := 9) (tgt := 11) (by decide +kernel) (by decide) (by omega) (by omega) (fun c2 => ?_) (fun c2 => ?_)
  · refine aw_blk (pc' := 12) (ls' := [some (vr 0 0), some (vi a), some (vi d), some (vi c), none]) (st' := [vi 0]) [.inl (.iconst 0)] 11 _ _ (by decide +kernel) rfl ?_
    exact aw_zret (by decide +kernel) rfl (by decide) (by decide) (by omega) (hq _ _ ⟨nn, rr, ff, gg, Or.inl ⟨rfl, fun z => z.2.1 (Or.inl (by omega)), rfl⟩⟩)
  · refine aw_blk (pc' := 8) (ls' := [some (vr 0 0), some (vi a), some (vi d), some (vi c), none]) (st' := [vi 24, vi d]) [.inl (.iload_n 2), .inl (.bipush 24)] 5 _ _ (by decide +kernel) rfl ?_
    refine aw_icmp_le (o := 5) (tgt := 13) (by decide +kernel) (by decide) (by omega) (by omega) (fun c8 => ?_) (fun c8 => ?_)
    · obtain ⟨N, rfl⟩ : ∃ N : Nat, d = (N : Int) := ⟨d.toNat, by omega⟩
      refine aw_blk (pc' := 17) (ls' := [some (vr 0 0), some (vi a), some (vi (N : Int)), some (vi c), none]) (st' := [vr 3 0]) [.inl (.aload_n 0), .inr (26, 0, 2)] 13 _ _ (by decide +kernel) rfl ?_
      refine aw_dV (cs' := 0) (sl' := 0) (pc' := 20) (st' := []) (idx := 81) (as := []) (st := []) (m_K_clear) (by decide +kernel) (show vOK "ChanceBench" 81 M_K_clear 0 = true by decide +kernel) rfl rfl rfl (Nat.le_of_ble_eq_true rfl) (by decide) (by decide) (by decide) rfl rfl rfl rfl ?_
      refine aw_blk (pc' := 23) (ls' := [some (vr 0 0), some (vi a), some (vi (N : Int)), some (vi c), some (vi 0)]) (st' := []) [.inl (.iconst 0), .inl (.istore 4)] 20 _ _ (by decide +kernel) rfl ?_
      refine up_to (W := fun i : Nat => ∀ (nn : Nat) (rr : Int) (ff gg : Nat → Int), mkR ((i : Int) * 1) (fun u => 0 + den (fun k => c + (k : Int)) (fun _ => 1) i u) (False ∨ byd (fun k => c + (k : Int)) (fun _ => 1) i) nn rr ff gg → AW G M_B_wheel Qr Qt 0 0 23 [some (vr 0 0), some (vi a), some (vi (N : Int)), some (vi c), some (vi (i : Int))] [] (Hp [some (ob 0 [vr 1 0, vr 2 0, vr 3 0, vr 4 0, vr 5 0, vr 6 0, vr 7 0, vi bd, vi tk])] [some (ob 1 [vr 1 1, vr 1 2, vr 1 3, vr 1 4, vi (od : Int), vi (dn : Int), vi (un : Int)]), some (rs 16 laws), some (ar 0 30 slot), some (rs 30 ahead), some (rs 30 made)] t [some (ob 3 [vr 3 1, vr 3 2, vi (nn : Int), vi rr]), some (ar 0 24 ff), some (ar 1 24 gg)] df jo tr di mo dy)) N ?_ (fun i hi ih => ?_) 0 (by omega) _ _ _ _ mkR_0.z
      · intro nn rr ff gg R
        refine aw_blk (pc' := 26) (ls' := [some (vr 0 0), some (vi a), some (vi (N : Int)), some (vi c), some (vi (N : Int))]) (st' := [vi (N : Int), vi (N : Int)]) [.inl (.iload 4), .inl (.iload_n 2)] 23 _ _ (by decide +kernel) rfl ?_
        refine aw_icmp_ge (o := 23) (tgt := 49) (by decide +kernel) (by decide) (by omega) (by omega) (fun _ => ?_) (fun c => absurd (by omega) c)
        have R9 := R.e.eq (Int.le_refl _) (fun u _ => rfl) (show byd (fun k => c + (k : Int)) (fun _ => 1) N ↔ (¬ (1 ≤ (N : Int) ∧ (N : Int) ≤ 24) ∨ byd (fun k => c + (k : Int)) (fun _ => 1) N) from ⟨Or.inr, fun z => z.elim (fun z => absurd (by omega) z) id⟩)
        refine aw_blk (pc' := 51) (ls' := [some (vr 0 0), some (vi a), some (vi (N : Int)), some (vi c), some (vi (N : Int))]) (st' := [vi a, vr 0 0]) [.inl (.aload_n 0), .inl (.iload_n 1)] 49 _ _ (by decide +kernel) rfl ?_
        refine aw_rV (cs' := 3) (sl' := 51) (pc' := 54) (idx := 95) (as := [vi a]) (st := []) (m_B_settle ha (R9) (by omega) ho hd hl) (by decide +kernel) (show vOK "ChanceBench" 95 M_B_settle 1 = true by decide +kernel) rfl rfl rfl (Nat.le_of_ble_eq_true rfl) (by decide) (by decide) (by decide) rfl rfl rfl (fun r51 h51 z51 => ?_)
        rcases z51 with ⟨rfl, h1, rfl⟩ | ⟨rfl, h1, h2, m9, a9, w9, W9, h3, rfl⟩
        · exact aw_zret (by decide +kernel) rfl (by decide) (by decide) (by omega) (hq _ _ ⟨nn, rr, ff, gg, Or.inl ⟨rfl, h1, rfl⟩⟩)
        · exact aw_zret (by decide +kernel) rfl (by decide) (by decide) (by omega) (hq _ _ ⟨nn, rr, ff, gg, Or.inr ⟨rfl, h1, h2, m9, a9, w9, W9, h3, rfl⟩⟩)
      · intro nn rr ff gg R
        refine aw_blk (pc' := 26) (ls' := [some (vr 0 0), some (vi a), some (vi (N : Int)), some (vi c), some (vi (i : Int))]) (st' := [vi (N : Int), vi (i : Int)]) [.inl (.iload 4), .inl (.iload_n 2)] 23 _ _ (by decide +kernel) rfl ?_
        refine aw_icmp_ge (o := 23) (tgt := 49) (by decide +kernel) (by decide) (by omega) (by omega) (fun c => absurd c (by omega)) (fun _ => ?_)
        refine aw_blk (pc' := 34) (ls' := [some (vr 0 0), some (vi a), some (vi (N : Int)), some (vi c), some (vi (i : Int))]) (st' := [vi c, vr 3 0]) [.inl (.aload_n 0), .inr (26, 0, 2), .inl (.iload_n 3)] 29 _ _ (by decide +kernel) rfl ?_
        refine aw_i2l (by decide +kernel) (by omega) ?_
        refine aw_blk (pc' := 37) (ls' := [some (vr 0 0), some (vi a), some (vi (N : Int)), some (vi c), some (vi (i : Int))]) (st' := [vi (i : Int), vl c, vr 3 0]) [.inl (.iload 4)] 35 _ _ (by decide +kernel) rfl ?_
        refine aw_i2l (by decide +kernel) (by omega) ?_
        refine aw_blk (pc' := 40) (ls' := [some (vr 0 0), some (vi a), some (vi (N : Int)), some (vi c), some (vi (i : Int))]) (st' := [vl 1, vl (c + (i : Int)), vr 3 0]) [.inl (.ladd), .inl (.lconst 1)] 38 _ _ (by decide +kernel) rfl ?_
        refine aw_rV (cs' := 0) (sl' := 0) (pc' := 43) (idx := 88) (as := [vl (c + (i : Int)), vl 1]) (st := []) (m_K_addR R (by omega) (by omega) (by omega)) (by decide +kernel) (show vOK "ChanceBench" 88 M_K_add 2 = true by decide +kernel) rfl rfl rfl (Nat.le_of_ble_eq_true rfl) (by decide) (by decide) (by decide) rfl rfl rfl (fun r40 h40 z40 => ?_)
        obtain ⟨rfl, nn2, rr2, ff2, gg2, R2, rfl⟩ := z40
        refine aw_blk (pc' := 46) (ls' := [some (vr 0 0), some (vi a), some (vi (N : Int)), some (vi c), some (vi ((i : Int) + 1))]) (st' := []) [.inl (.iinc 4 1)] 43 _ _ (by decide +kernel) rfl ?_
        refine aw_goto (o := -23) (tgt := 23) (by decide +kernel) (by decide) ?_
        exact ih _ _ _ _ (R2.s (by omega))
    · refine aw_blk (pc' := 12) (ls' := [some (vr 0 0), some (vi a), some (vi d), some (vi c), none]) (st' := [vi 0]) [.inl (.iconst 0)] 11 _ _ (by decide +kernel) rfl ?_
      exact aw_zret (by decide +kernel) rfl (by decide) (by decide) (by omega) (hq _ _ ⟨nn, rr, ff, gg, Or.inl ⟨rfl, fun z => z.2.1 (Or.inl (by omega)), rfl⟩⟩)

theorem m_B_coin (ha : I32 a) (hI : I32 c ∧ I32 d) (ho : od < 30) (hd : dn ≤ 30) (hl : lwOK dy laws) : AMet G M_B_coin [vr 0 0, vi a, vi c, vi d] (Hp (sgB bd tk) (sgS laws slot ahead made (od : Int) (dn : Int) (un : Int)) t (sgK (nn : Int) rr ff gg) df jo tr di mo dy) (fun r h => ∃ (nn : Nat) (rr : Int) (ff gg : Nat → Int), stl laws slot ahead made od dn un bd tk t (sgK (nn : Int) rr ff gg) df jo tr di mo dy a (den (fun k => (k : Int)) (fun k => if k = 0 then d - c else c) 2) (¬ ((1 ≤ d ∧ d ≤ 1048576) ∧ (0 ≤ c ∧ c ≤ d)) ∨ byd (fun k => (k : Int)) (fun k => if k = 0 then d - c else c) 2) r h) (fun _ => False) := by
  refine am_rel (by decide +kernel) (Nat.le_of_ble_eq_true rfl) (fun Qr Qt hq => ?_)
  refine aw_blk (pc' := 2) (ls' := [some (vr 0 0), some (vi a), some (vi c), some (vi d)]) (st' := [vi d, vi c]) [.inl (.iload_n 2), .inl (.iload_n 3)] 0 _ _ (by decide +kernel) rfl ?_
  refine aw_ldc (a := 1048576) (ix := 109) (v := 1048576) (by decide +kernel) (by decide +kernel) (by decide) ?_
  refine aw_dS (cs' := 0) (sl' := 0) (pc' := 7) (st' := [vi (if (1 ≤ d ∧ d ≤ 1048576) ∧ (0 ≤ c ∧ c ≤ d) then 1 else 0)]) (idx := 110) (as := [vi c, vi d, vi 1048576]) (st := []) (m_B_isShare hI.1 hI.2 (by omega)) (by decide +kernel) (show sOK "ChanceBench" 110 M_B_isShare 3 = true by decide +kernel) rfl (Nat.le_of_ble_eq_true rfl) (by decide) (by decide) (by decide) rfl rfl rfl rfl ?_
  by_cases hv : (1 ≤ d ∧ d ≤ 1048576) ∧ (0 ≤ c ∧ c ≤ d)
  · rw [if_pos hv]
    refine aw_if_ne (o := 5) (tgt := 12) (by decide +kernel) (by decide) (by omega) (fun _ => ?_) (fun c => absurd c (by omega))
    refine aw_blk (pc' := 16) (ls' := [some (vr 0 0), some (vi a), some (vi c), some (vi d)]) (st' := [vr 3 0]) [.inl (.aload_n 0), .inr (26, 0, 2)] 12 _ _ (by decide +kernel) rfl ?_
    refine aw_dV (cs' := 0) (sl' := 0) (pc' := 19) (st' := []) (idx := 81) (as := []) (st := []) (m_K_clear) (by decide +kernel) (show vOK "ChanceBench" 81 M_K_clear 0 = true by decide +kernel) rfl rfl rfl (Nat.le_of_ble_eq_true rfl) (by decide) (by decide) (by decide) rfl rfl rfl rfl ?_
    refine aw_blk (pc' := 27) (ls' := [some (vr 0 0), some (vi a), some (vi c), some (vi d)]) (st' := [vi (d - c), vl 0, vr 3 0]) [.inl (.aload_n 0), .inr (26, 0, 2), .inl (.lconst 0), .inl (.iload_n 3), .inl (.iload_n 2), .inl (.isub)] 19 _ _ (by decide +kernel) rfl ?_
    refine aw_i2l (by decide +kernel) (by omega) ?_
    have R := (mkR_0 (f := ff) (g := gg)).z (V := fun k => (k : Int)) (C := fun k => if k = 0 then d - c else c)
    refine aw_rV (cs' := 0) (sl' := 0) (pc' := 31) (idx := 88) (as := [vl 0, vl (d - c)]) (st := []) (m_K_addR (n := 0) R (by omega) (by omega) (by omega)) (by decide +kernel) (show vOK "ChanceBench" 88 M_K_add 2 = true by decide +kernel) rfl rfl rfl (Nat.le_of_ble_eq_true rfl) (by decide) (by decide) (by decide) rfl rfl rfl (fun r28 h28 z28 => ?_)
    obtain ⟨rfl, nn2, rr2, ff2, gg2, R2, rfl⟩ := z28
    have R3 := (show mkR (0 + (fun k => if k = 0 then d - c else c) 0) _ _ nn2 rr2 ff2 gg2 from R2).s (i := 0) (V := fun k => (k : Int)) (C := fun k => if k = 0 then d - c else c) (B' := 1048576) (by show 0 + (d - c) ≤ _; omega)
    refine aw_blk (pc' := 37) (ls' := [some (vr 0 0), some (vi a), some (vi c), some (vi d)]) (st' := [vi c, vl 1, vr 3 0]) [.inl (.aload_n 0), .inr (26, 0, 2), .inl (.lconst 1), .inl (.iload_n 2)] 31 _ _ (by decide +kernel) rfl ?_
    refine aw_i2l (by decide +kernel) (by omega) ?_
    refine aw_rV (cs' := 0) (sl' := 0) (pc' := 41) (idx := 88) (as := [vl 1, vl c]) (st := []) (m_K_addR R3 (by omega) (by omega) (by omega)) (by decide +kernel) (show vOK "ChanceBench" 88 M_K_add 2 = true by decide +kernel) rfl rfl rfl (Nat.le_of_ble_eq_true rfl) (by decide) (by decide) (by decide) rfl rfl rfl (fun r38 h38 z38 => ?_)
    obtain ⟨rfl, nn3, rr3, ff3, gg3, R4, rfl⟩ := z38
    have R := (show mkR (1048576 + (fun k => if k = 0 then d - c else c) 1) _ _ nn3 rr3 ff3 gg3 from R4).s (i := 1) (V := fun k => (k : Int)) (C := fun k => if k = 0 then d - c else c) (B' := 2097152) (by show 1048576 + c ≤ _; omega)
    have R9 := R.e.eq (Int.le_refl _) (fun u _ => rfl) (show byd (fun k => (k : Int)) (fun k => if k = 0 then d - c else c) 2 ↔ (¬ ((1 ≤ d ∧ d ≤ 1048576) ∧ (0 ≤ c ∧ c ≤ d)) ∨ byd (fun k => (k : Int)) (fun k => if k = 0 then d - c else c) 2) from ⟨Or.inr, fun z => z.elim (fun z => absurd hv z) id⟩)
    clear R R2 R3 R4
    refine aw_blk (pc' := 43) (ls' := [some (vr 0 0), some (vi a), some (vi c), some (vi d)]) (st' := [vi a, vr 0 0]) [.inl (.aload_n 0), .inl (.iload_n 1)] 41 _ _ (by decide +kernel) rfl ?_
    refine aw_rV (cs' := 3) (sl' := 51) (pc' := 46) (idx := 95) (as := [vi a]) (st := []) (m_B_settle ha (R9) (by omega) ho hd hl) (by decide +kernel) (show vOK "ChanceBench" 95 M_B_settle 1 = true by decide +kernel) rfl rfl rfl (Nat.le_of_ble_eq_true rfl) (by decide) (by decide) (by decide) rfl rfl rfl (fun r43 h43 z43 => ?_)
    rcases z43 with ⟨rfl, h1, rfl⟩ | ⟨rfl, h1, h2, m9, a9, w9, W9, h3, rfl⟩
    · exact aw_zret (by decide +kernel) rfl (by decide) (by decide) (by omega) (hq _ _ ⟨nn3, rr3, ff3, gg3, Or.inl ⟨rfl, h1, rfl⟩⟩)
    · exact aw_zret (by decide +kernel) rfl (by decide) (by decide) (by omega) (hq _ _ ⟨nn3, rr3, ff3, gg3, Or.inr ⟨rfl, h1, h2, m9, a9, w9, W9, h3, rfl⟩⟩)
  · rw [if_neg hv]
    refine aw_if_ne (o := 5) (tgt := 12) (by decide +kernel) (by decide) (by omega) (fun c => absurd (by omega) c) (fun _ => ?_)
    refine aw_blk (pc' := 11) (ls' := [some (vr 0 0), some (vi a), some (vi c), some (vi d)]) (st' := [vi 0]) [.inl (.iconst 0)] 10 _ _ (by decide +kernel) rfl ?_
    exact aw_zret (by decide +kernel) rfl (by decide) (by decide) (by omega) (hq _ _ ⟨nn, rr, ff, gg, Or.inl ⟨rfl, fun z => z.2.1 (Or.inl hv), rfl⟩⟩)

theorem acc_0 : ¬ acc (fun _ => 0) False := fun A => by
  have h1 := A.2.1
  have h2 : cnt (fun _ => 0) = 0 := by unfold cnt sT; exact sumZ_0 _
  omega
theorem m_B_sheet (ha : I32 a) (hI : I32 c ∧ I32 d) (hln : len ≤ 200) (hf : ∀ i, 0 ≤ ft i ∧ ft i ≤ 255) (ho : od < 30) (hd : dn ≤ 30) (hl : lwOK dy laws) : AMet G M_B_sheet [vr 0 0, vi a, vi c, vi d] (Hp (sgB bd tk) (sgS laws slot ahead made (od : Int) (dn : Int) (un : Int)) (sgT (len : Int) ft) (sgK (nn : Int) rr ff gg) df jo tr di mo dy) (fun r h => ∃ (nn : Nat) (rr : Int) (ff gg : Nat → Int), stl laws slot ahead made od dn un bd tk (sgT 0 ft) (sgK (nn : Int) rr ff gg) df jo tr di mo dy a (den (fun k => c + d * (k : Int)) (ft) len) (¬ (1 ≤ d ∧ d ≤ 100) ∨ byd (fun k => c + d * (k : Int)) (ft) len) r h) (fun _ => False) := by
  refine am_rel (by decide +kernel) (Nat.le_of_ble_eq_true rfl) (fun Qr Qt hq => ?_)
  refine aw_blk (pc' := 4) (ls' := [some (vr 0 0), some (vi a), some (vi c), some (vi d), none]) (st' := [vr 3 0]) [.inl (.aload_n 0), .inr (26, 0, 2)] 0 _ _ (by decide +kernel) rfl ?_
  refine aw_dV (cs' := 0) (sl' := 0) (pc' := 7) (st' := []) (idx := 81) (as := []) (st := []) (m_K_clear) (by decide +kernel) (show vOK "ChanceBench" 81 M_K_clear 0 = true by decide +kernel) rfl rfl rfl (Nat.le_of_ble_eq_true rfl) (by decide) (by decide) (by decide) rfl rfl rfl rfl ?_
  refine aw_blk (pc' := 9) (ls' := [some (vr 0 0), some (vi a), some (vi c), some (vi d), none]) (st' := [vi 1, vi d]) [.inl (.iload_n 3), .inl (.iconst 1)] 7 _ _ (by decide +kernel) rfl ?_
  refine aw_icmp_lt (o := 56) (tgt := 65) (by decide +kernel) (by decide) (by omega) (by omega) (fun c9 => ?_) (fun c9 => ?_)
  · refine aw_blk (pc' := 69) (ls' := [some (vr 0 0), some (vi a), some (vi c), some (vi d), none]) (st' := [vr 2 0]) [.inl (.aload_n 0), .inr (19, 0, 1)] 65 _ _ (by decide +kernel) rfl ?_
    refine aw_dV (cs' := 0) (sl' := 0) (pc' := 72) (st' := []) (idx := 92) (as := []) (st := []) (m_T_empty) (by decide +kernel) (show vOK "ChanceBench" 92 M_T_empty 0 = true by decide +kernel) rfl rfl rfl (Nat.le_of_ble_eq_true rfl) (by decide) (by decide) (by decide) rfl rfl rfl rfl ?_
    refine aw_blk (pc' := 74) (ls' := [some (vr 0 0), some (vi a), some (vi c), some (vi d), none]) (st' := [vi a, vr 0 0]) [.inl (.aload_n 0), .inl (.iload_n 1)] 72 _ _ (by decide +kernel) rfl ?_
    refine aw_rV (cs' := 3) (sl' := 51) (pc' := 77) (idx := 95) (as := [vi a]) (st := []) (m_B_settle (n := 0) (T := fun _ => 0) (by_ := False) ha (mkR_0 (f := ff) (g := gg)) (by omega) ho hd hl) (by decide +kernel) (show vOK "ChanceBench" 95 M_B_settle 1 = true by decide +kernel) rfl rfl rfl (Nat.le_of_ble_eq_true rfl) (by decide) (by decide) (by decide) rfl rfl rfl (fun r74 h74 z74 => ?_)
    rcases z74 with ⟨rfl, h1, rfl⟩ | ⟨rfl, h1, h2, h3⟩
    · exact aw_zret (by decide +kernel) rfl (by decide) (by decide) (by omega) (hq _ _ ⟨0, 0, ff, gg, Or.inl ⟨rfl, fun z => z.2.1 (Or.inl (by omega)), rfl⟩⟩)
    · exact absurd h2 acc_0
  · refine aw_blk (pc' := 15) (ls' := [some (vr 0 0), some (vi a), some (vi c), some (vi d), none]) (st' := [vi 100, vi d]) [.inl (.iload_n 3), .inl (.bipush 100)] 12 _ _ (by decide +kernel) rfl ?_
    refine aw_icmp_gt (o := 50) (tgt := 65) (by decide +kernel) (by decide) (by omega) (by omega) (fun c15 => ?_) (fun c15 => ?_)
    · refine aw_blk (pc' := 69) (ls' := [some (vr 0 0), some (vi a), some (vi c), some (vi d), none]) (st' := [vr 2 0]) [.inl (.aload_n 0), .inr (19, 0, 1)] 65 _ _ (by decide +kernel) rfl ?_
      refine aw_dV (cs' := 0) (sl' := 0) (pc' := 72) (st' := []) (idx := 92) (as := []) (st := []) (m_T_empty) (by decide +kernel) (show vOK "ChanceBench" 92 M_T_empty 0 = true by decide +kernel) rfl rfl rfl (Nat.le_of_ble_eq_true rfl) (by decide) (by decide) (by decide) rfl rfl rfl rfl ?_
      refine aw_blk (pc' := 74) (ls' := [some (vr 0 0), some (vi a), some (vi c), some (vi d), none]) (st' := [vi a, vr 0 0]) [.inl (.aload_n 0), .inl (.iload_n 1)] 72 _ _ (by decide +kernel) rfl ?_
      refine aw_rV (cs' := 3) (sl' := 51) (pc' := 77) (idx := 95) (as := [vi a]) (st := []) (m_B_settle (n := 0) (T := fun _ => 0) (by_ := False) ha (mkR_0 (f := ff) (g := gg)) (by omega) ho hd hl) (by decide +kernel) (show vOK "ChanceBench" 95 M_B_settle 1 = true by decide +kernel) rfl rfl rfl (Nat.le_of_ble_eq_true rfl) (by decide) (by decide) (by decide) rfl rfl rfl (fun r74 h74 z74 => ?_)
      rcases z74 with ⟨rfl, h1, rfl⟩ | ⟨rfl, h1, h2, h3⟩
      · exact aw_zret (by decide +kernel) rfl (by decide) (by decide) (by omega) (hq _ _ ⟨0, 0, ff, gg, Or.inl ⟨rfl, fun z => z.2.1 (Or.inl (by omega)), rfl⟩⟩)
      · exact absurd h2 acc_0
    · refine aw_blk (pc' := 21) (ls' := [some (vr 0 0), some (vi a), some (vi c), some (vi d), some (vi 0)]) (st' := []) [.inl (.iconst 0), .inl (.istore 4)] 18 _ _ (by decide +kernel) rfl ?_
      refine up_to (W := fun i : Nat => ∀ (nn : Nat) (rr : Int) (ff gg : Nat → Int), mkR ((i : Int) * 255) (fun u => 0 + den (fun k => c + d * (k : Int)) (ft) i u) (False ∨ byd (fun k => c + d * (k : Int)) (ft) i) nn rr ff gg → AW G M_B_sheet Qr Qt 0 0 21 [some (vr 0 0), some (vi a), some (vi c), some (vi d), some (vi (i : Int))] [] (Hp [some (ob 0 [vr 1 0, vr 2 0, vr 3 0, vr 4 0, vr 5 0, vr 6 0, vr 7 0, vi bd, vi tk])] [some (ob 1 [vr 1 1, vr 1 2, vr 1 3, vr 1 4, vi (od : Int), vi (dn : Int), vi (un : Int)]), some (rs 16 laws), some (ar 0 30 slot), some (rs 30 ahead), some (rs 30 made)] [some (ob 2 [vr 2 1, vi (len : Int)]), some (ar 0 200 ft)] [some (ob 3 [vr 3 1, vr 3 2, vi (nn : Int), vi rr]), some (ar 0 24 ff), some (ar 1 24 gg)] df jo tr di mo dy)) len ?_ (fun i hi ih => ?_) 0 (by omega) _ _ _ _ mkR_0.z
      · intro nn rr ff gg R
        refine aw_blk (pc' := 27) (ls' := [some (vr 0 0), some (vi a), some (vi c), some (vi d), some (vi (len : Int))]) (st' := [vr 2 0, vi (len : Int)]) [.inl (.iload 4), .inl (.aload_n 0), .inr (19, 0, 1)] 21 _ _ (by decide +kernel) rfl ?_
        refine aw_dV (cs' := 0) (sl' := 0) (pc' := 30) (st' := [vi (len : Int), vi (len : Int)]) (idx := 73) (as := []) (st := [vi (len : Int)]) (m_T_length) (by decide +kernel) (show vOK "ChanceBench" 73 M_T_length 0 = true by decide +kernel) rfl rfl rfl (Nat.le_of_ble_eq_true rfl) (by decide) (by decide) (by decide) rfl rfl rfl rfl ?_
        refine aw_icmp_ge (o := 35) (tgt := 65) (by decide +kernel) (by decide) (by omega) (by omega) (fun _ => ?_) (fun c => absurd (by omega) c)
        refine aw_blk (pc' := 69) (ls' := [some (vr 0 0), some (vi a), some (vi c), some (vi d), some (vi (len : Int))]) (st' := [vr 2 0]) [.inl (.aload_n 0), .inr (19, 0, 1)] 65 _ _ (by decide +kernel) rfl ?_
        refine aw_dV (cs' := 0) (sl' := 0) (pc' := 72) (st' := []) (idx := 92) (as := []) (st := []) (m_T_empty) (by decide +kernel) (show vOK "ChanceBench" 92 M_T_empty 0 = true by decide +kernel) rfl rfl rfl (Nat.le_of_ble_eq_true rfl) (by decide) (by decide) (by decide) rfl rfl rfl rfl ?_
        have R9 := R.e.eq (Int.le_refl _) (fun u _ => rfl) (show byd (fun k => c + d * (k : Int)) (ft) len ↔ (¬ (1 ≤ d ∧ d ≤ 100) ∨ byd (fun k => c + d * (k : Int)) (ft) len) from ⟨Or.inr, fun z => z.elim (fun z => absurd (by omega) z) id⟩)
        refine aw_blk (pc' := 74) (ls' := [some (vr 0 0), some (vi a), some (vi c), some (vi d), some (vi (len : Int))]) (st' := [vi a, vr 0 0]) [.inl (.aload_n 0), .inl (.iload_n 1)] 72 _ _ (by decide +kernel) rfl ?_
        refine aw_rV (cs' := 3) (sl' := 51) (pc' := 77) (idx := 95) (as := [vi a]) (st := []) (m_B_settle ha (R9) (by omega) ho hd hl) (by decide +kernel) (show vOK "ChanceBench" 95 M_B_settle 1 = true by decide +kernel) rfl rfl rfl (Nat.le_of_ble_eq_true rfl) (by decide) (by decide) (by decide) rfl rfl rfl (fun r74 h74 z74 => ?_)
        rcases z74 with ⟨rfl, h1, rfl⟩ | ⟨rfl, h1, h2, m9, a9, w9, W9, h3, rfl⟩
        · exact aw_zret (by decide +kernel) rfl (by decide) (by decide) (by omega) (hq _ _ ⟨nn, rr, ff, gg, Or.inl ⟨rfl, h1, rfl⟩⟩)
        · exact aw_zret (by decide +kernel) rfl (by decide) (by decide) (by omega) (hq _ _ ⟨nn, rr, ff, gg, Or.inr ⟨rfl, h1, h2, m9, a9, w9, W9, h3, rfl⟩⟩)
      · intro nn rr ff gg R
        refine aw_blk (pc' := 27) (ls' := [some (vr 0 0), some (vi a), some (vi c), some (vi d), some (vi (i : Int))]) (st' := [vr 2 0, vi (i : Int)]) [.inl (.iload 4), .inl (.aload_n 0), .inr (19, 0, 1)] 21 _ _ (by decide +kernel) rfl ?_
        refine aw_dV (cs' := 0) (sl' := 0) (pc' := 30) (st' := [vi (len : Int), vi (i : Int)]) (idx := 73) (as := []) (st := [vi (i : Int)]) (m_T_length) (by decide +kernel) (show vOK "ChanceBench" 73 M_T_length 0 = true by decide +kernel) rfl rfl rfl (Nat.le_of_ble_eq_true rfl) (by decide) (by decide) (by decide) rfl rfl rfl rfl ?_
        refine aw_icmp_ge (o := 35) (tgt := 65) (by decide +kernel) (by decide) (by omega) (by omega) (fun c => absurd c (by omega)) (fun _ => ?_)
        have hb := hf i
        have hm : 0 ≤ d * (i : Int) ∧ d * (i : Int) ≤ 20000 := ⟨Int.mul_nonneg (by omega) (by omega), by have := Int.mul_le_mul (show d ≤ 100 by omega) (show (i : Int) ≤ 200 by omega) (by omega) (by omega); omega⟩
        refine aw_blk (pc' := 38) (ls' := [some (vr 0 0), some (vi a), some (vi c), some (vi d), some (vi (i : Int))]) (st' := [vi c, vr 3 0]) [.inl (.aload_n 0), .inr (26, 0, 2), .inl (.iload_n 2)] 33 _ _ (by decide +kernel) rfl ?_
        refine aw_i2l (by decide +kernel) (by omega) ?_
        refine aw_blk (pc' := 40) (ls' := [some (vr 0 0), some (vi a), some (vi c), some (vi d), some (vi (i : Int))]) (st' := [vi d, vl c, vr 3 0]) [.inl (.iload_n 3)] 39 _ _ (by decide +kernel) rfl ?_
        refine aw_i2l (by decide +kernel) (by omega) ?_
        refine aw_blk (pc' := 43) (ls' := [some (vr 0 0), some (vi a), some (vi c), some (vi d), some (vi (i : Int))]) (st' := [vi (i : Int), vl d, vl c, vr 3 0]) [.inl (.iload 4)] 41 _ _ (by decide +kernel) rfl ?_
        refine aw_i2l (by decide +kernel) (by omega) ?_
        refine aw_blk (pc' := 52) (ls' := [some (vr 0 0), some (vi a), some (vi c), some (vi d), some (vi (i : Int))]) (st' := [vi (i : Int), vr 2 0, vl (c + (d * (i : Int))), vr 3 0]) [.inl (.lmul), .inl (.ladd), .inl (.aload_n 0), .inr (19, 0, 1), .inl (.iload 4)] 44 _ _ (by decide +kernel) rfl ?_
        refine aw_dV (cs' := 0) (sl' := 0) (pc' := 55) (st' := [vi (ft i), vl (c + (d * (i : Int))), vr 3 0]) (idx := 84) (as := [vi (i : Int)]) (st := [vl (c + (d * (i : Int))), vr 3 0]) (m_T_byteIn (a := (i : Int)) (by omega) (by omega)) (by decide +kernel) (show vOK "ChanceBench" 84 M_T_byteAt 1 = true by decide +kernel) rfl rfl rfl (Nat.le_of_ble_eq_true rfl) (by decide) (by decide) (by decide) rfl rfl rfl rfl ?_
        refine aw_i2l (by decide +kernel) (by omega) ?_
        refine aw_rV (cs' := 0) (sl' := 0) (pc' := 59) (idx := 88) (as := [vl (c + (d * (i : Int))), vl (ft i)]) (st := []) (m_K_addR R (by omega) (by omega) (by omega)) (by decide +kernel) (show vOK "ChanceBench" 88 M_K_add 2 = true by decide +kernel) rfl rfl rfl (Nat.le_of_ble_eq_true rfl) (by decide) (by decide) (by decide) rfl rfl rfl (fun r56 h56 z56 => ?_)
        obtain ⟨rfl, nn2, rr2, ff2, gg2, R2, rfl⟩ := z56
        refine aw_blk (pc' := 62) (ls' := [some (vr 0 0), some (vi a), some (vi c), some (vi d), some (vi ((i : Int) + 1))]) (st' := []) [.inl (.iinc 4 1)] 59 _ _ (by decide +kernel) rfl ?_
        refine aw_goto (o := -41) (tgt := 21) (by decide +kernel) (by decide) ?_
        exact ih _ _ _ _ (R2.s (V := fun k => c + d * (k : Int)) (by omega))

end
