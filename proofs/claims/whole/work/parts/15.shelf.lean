section
variable {G : GT} {h : HT} {b s t mk df jo tr di mo dy : SG} {a c : Int} {n : Nat} {f : Nat → Int}
def byt (a : Int) (k : Nat) : Int := match k with
  | 0 => a % 4294967296 / 16777216 % 256
  | 1 => a % 4294967296 / 65536 % 256
  | 2 => a % 4294967296 / 256 % 256
  | _ => a % 4294967296 / 1 % 256
def wr4 (f : Nat → Int) (n : Nat) (a : Int) : Nat → Int := va_up (va_up (va_up (va_up f n (byt a 0)) (n + 1) (byt a 1)) (n + 2) (byt a 2)) (n + 3) (byt a 3)
theorem m_T_write (hn : n + 4 ≤ 200) : ADet G M_T_write [vr 2 0, vi a] (Hp b s (sgT (n : Int) f) mk df jo tr di mo dy) none (Hp b s (sgT ((n : Int) + 1 + 1 + 1 + 1) (wr4 f n a)) mk df jo tr di mo dy) := by
  refine am_entry (by decide +kernel) (Nat.le_of_ble_eq_true rfl) ?_
  refine aw_blk (pc' := 4) (ls' := [some (vr 2 0), some (vi a), some (vi 24)]) (st' := [vi 24]) [.inl (.bipush 24), .inl (.istore_n 2), .inl (.iload_n 2)] 0 _ _ (by decide +kernel) rfl ?_
  refine aw_if_lt (o := 45) (tgt := 49) (by decide +kernel) (by decide) (by omega) (fun c => absurd c (by omega)) (fun _ => ?_)
  refine aw_blk (pc' := 14) (ls' := [some (vr 2 0), some (vi a), some (vi 24)]) (st' := [vi 200, vi (n : Int)]) [.inl (.aload_n 0), .inr (13, 2, 1), .inl (.sipush 200)] 7 _ _ (by decide +kernel) rfl ?_
  refine aw_icmp_ge (o := 35) (tgt := 49) (by decide +kernel) (by decide) (by omega) (by omega) (fun c => absurd c (by omega)) (fun _ => ?_)
  refine aw_blk (pc' := 27) (ls' := [some (vr 2 0), some (vi a), some (vi 24)]) (st' := [vi 24, vi a, vi (n : Int), vr 2 1]) [.inl (.aload_n 0), .inr (9, 2, 0), .inl (.aload_n 0), .inr (13, 2, 1), .inl (.iload_n 1), .inl (.iload_n 2)] 17 _ _ (by decide +kernel) rfl ?_
  refine aw_ushr (p9 := 16777216) 24 (by decide +kernel) rfl (by decide) (by decide) ?_
  refine aw_blk (pc' := 31) (ls' := [some (vr 2 0), some (vi a), some (vi 24)]) (st' := [vi 255, vi (a % 4294967296 / 16777216), vi (n : Int), vr 2 1]) [.inl (.sipush 255)] 28 _ _ (by decide +kernel) rfl ?_
  refine aw_and (p9 := 256) 8 (by decide +kernel) (by decide) (by decide) (by decide) ?_
  refine aw_iast (j := n) (h' := Hp b s [some (ob 2 [vr 2 1, vi (n : Int)]), some (ar 0 200 (va_up f n ((a % 4294967296 / 16777216) % 256)))] mk df jo tr di mo dy) (by decide +kernel) rfl (by omega) (by omega) (by omega) rfl ?_
  refine aw_blk (pc' := 40) (ls' := [some (vr 2 0), some (vi a), some (vi 24)]) (st' := [vi ((n : Int) + 1), vr 2 0]) [.inl (.aload_n 0), .inl (.dup), .inr (13, 2, 1), .inl (.iconst 1), .inl (.iadd)] 33 _ _ (by decide +kernel) rfl ?_
  refine aw_put (idx := 13) (ci := 2) (k := 1) (h' := Hp b s [some (ob 2 [vr 2 1, vi ((n : Int) + 1)]), some (ar 0 200 (va_up f n ((a % 4294967296 / 16777216) % 256)))] mk df jo tr di mo dy) (by decide +kernel) (by decide +kernel) rfl (Nat.le_of_ble_eq_true rfl) (show I32 _ from by omega) rfl ?_
  refine aw_blk (pc' := 46) (ls' := [some (vr 2 0), some (vi a), some (vi (24 + (-8)))]) (st' := []) [.inl (.iinc 2 (-8))] 43 _ _ (by decide +kernel) rfl ?_
  refine aw_goto (o := -43) (tgt := 3) (by decide +kernel) (by decide) ?_
  refine aw_blk (pc' := 4) (ls' := [some (vr 2 0), some (vi a), some (vi (24 + (-8)))]) (st' := [vi (24 + (-8))]) [.inl (.iload_n 2)] 3 _ _ (by decide +kernel) rfl ?_
  refine aw_if_lt (o := 45) (tgt := 49) (by decide +kernel) (by decide) (by omega) (fun c => absurd c (by omega)) (fun _ => ?_)
  refine aw_blk (pc' := 14) (ls' := [some (vr 2 0), some (vi a), some (vi (24 + (-8)))]) (st' := [vi 200, vi ((n : Int) + 1)]) [.inl (.aload_n 0), .inr (13, 2, 1), .inl (.sipush 200)] 7 _ _ (by decide +kernel) rfl ?_
  refine aw_icmp_ge (o := 35) (tgt := 49) (by decide +kernel) (by decide) (by omega) (by omega) (fun c => absurd c (by omega)) (fun _ => ?_)
  refine aw_blk (pc' := 27) (ls' := [some (vr 2 0), some (vi a), some (vi (24 + (-8)))]) (st' := [vi (24 + (-8)), vi a, vi ((n : Int) + 1), vr 2 1]) [.inl (.aload_n 0), .inr (9, 2, 0), .inl (.aload_n 0), .inr (13, 2, 1), .inl (.iload_n 1), .inl (.iload_n 2)] 17 _ _ (by decide +kernel) rfl ?_
  refine aw_ushr (p9 := 65536) 16 (by decide +kernel) rfl (by decide) (by decide) ?_
  refine aw_blk (pc' := 31) (ls' := [some (vr 2 0), some (vi a), some (vi (24 + (-8)))]) (st' := [vi 255, vi (a % 4294967296 / 65536), vi ((n : Int) + 1), vr 2 1]) [.inl (.sipush 255)] 28 _ _ (by decide +kernel) rfl ?_
  refine aw_and (p9 := 256) 8 (by decide +kernel) (by decide) (by decide) (by decide) ?_
  refine aw_iast (j := n + 1) (h' := Hp b s [some (ob 2 [vr 2 1, vi ((n : Int) + 1)]), some (ar 0 200 (va_up (va_up f n ((a % 4294967296 / 16777216) % 256)) (n + 1) ((a % 4294967296 / 65536) % 256)))] mk df jo tr di mo dy) (by decide +kernel) rfl (by omega) (by omega) (by omega) rfl ?_
  refine aw_blk (pc' := 40) (ls' := [some (vr 2 0), some (vi a), some (vi (24 + (-8)))]) (st' := [vi (((n : Int) + 1) + 1), vr 2 0]) [.inl (.aload_n 0), .inl (.dup), .inr (13, 2, 1), .inl (.iconst 1), .inl (.iadd)] 33 _ _ (by decide +kernel) rfl ?_
  refine aw_put (idx := 13) (ci := 2) (k := 1) (h' := Hp b s [some (ob 2 [vr 2 1, vi (((n : Int) + 1) + 1)]), some (ar 0 200 (va_up (va_up f n ((a % 4294967296 / 16777216) % 256)) (n + 1) ((a % 4294967296 / 65536) % 256)))] mk df jo tr di mo dy) (by decide +kernel) (by decide +kernel) rfl (Nat.le_of_ble_eq_true rfl) (show I32 _ from by omega) rfl ?_
  refine aw_blk (pc' := 46) (ls' := [some (vr 2 0), some (vi a), some (vi ((24 + (-8)) + (-8)))]) (st' := []) [.inl (.iinc 2 (-8))] 43 _ _ (by decide +kernel) rfl ?_
  refine aw_goto (o := -43) (tgt := 3) (by decide +kernel) (by decide) ?_
  refine aw_blk (pc' := 4) (ls' := [some (vr 2 0), some (vi a), some (vi ((24 + (-8)) + (-8)))]) (st' := [vi ((24 + (-8)) + (-8))]) [.inl (.iload_n 2)] 3 _ _ (by decide +kernel) rfl ?_
  refine aw_if_lt (o := 45) (tgt := 49) (by decide +kernel) (by decide) (by omega) (fun c => absurd c (by omega)) (fun _ => ?_)
  refine aw_blk (pc' := 14) (ls' := [some (vr 2 0), some (vi a), some (vi ((24 + (-8)) + (-8)))]) (st' := [vi 200, vi (((n : Int) + 1) + 1)]) [.inl (.aload_n 0), .inr (13, 2, 1), .inl (.sipush 200)] 7 _ _ (by decide +kernel) rfl ?_
  refine aw_icmp_ge (o := 35) (tgt := 49) (by decide +kernel) (by decide) (by omega) (by omega) (fun c => absurd c (by omega)) (fun _ => ?_)
  refine aw_blk (pc' := 27) (ls' := [some (vr 2 0), some (vi a), some (vi ((24 + (-8)) + (-8)))]) (st' := [vi ((24 + (-8)) + (-8)), vi a, vi (((n : Int) + 1) + 1), vr 2 1]) [.inl (.aload_n 0), .inr (9, 2, 0), .inl (.aload_n 0), .inr (13, 2, 1), .inl (.iload_n 1), .inl (.iload_n 2)] 17 _ _ (by decide +kernel) rfl ?_
  refine aw_ushr (p9 := 256) 8 (by decide +kernel) rfl (by decide) (by decide) ?_
  refine aw_blk (pc' := 31) (ls' := [some (vr 2 0), some (vi a), some (vi ((24 + (-8)) + (-8)))]) (st' := [vi 255, vi (a % 4294967296 / 256), vi (((n : Int) + 1) + 1), vr 2 1]) [.inl (.sipush 255)] 28 _ _ (by decide +kernel) rfl ?_
  refine aw_and (p9 := 256) 8 (by decide +kernel) (by decide) (by decide) (by decide) ?_
  refine aw_iast (j := n + 2) (h' := Hp b s [some (ob 2 [vr 2 1, vi (((n : Int) + 1) + 1)]), some (ar 0 200 (va_up (va_up (va_up f n ((a % 4294967296 / 16777216) % 256)) (n + 1) ((a % 4294967296 / 65536) % 256)) (n + 2) ((a % 4294967296 / 256) % 256)))] mk df jo tr di mo dy) (by decide +kernel) rfl (by omega) (by omega) (by omega) rfl ?_
  refine aw_blk (pc' := 40) (ls' := [some (vr 2 0), some (vi a), some (vi ((24 + (-8)) + (-8)))]) (st' := [vi ((((n : Int) + 1) + 1) + 1), vr 2 0]) [.inl (.aload_n 0), .inl (.dup), .inr (13, 2, 1), .inl (.iconst 1), .inl (.iadd)] 33 _ _ (by decide +kernel) rfl ?_
  refine aw_put (idx := 13) (ci := 2) (k := 1) (h' := Hp b s [some (ob 2 [vr 2 1, vi ((((n : Int) + 1) + 1) + 1)]), some (ar 0 200 (va_up (va_up (va_up f n ((a % 4294967296 / 16777216) % 256)) (n + 1) ((a % 4294967296 / 65536) % 256)) (n + 2) ((a % 4294967296 / 256) % 256)))] mk df jo tr di mo dy) (by decide +kernel) (by decide +kernel) rfl (Nat.le_of_ble_eq_true rfl) (show I32 _ from by omega) rfl ?_
  refine aw_blk (pc' := 46) (ls' := [some (vr 2 0), some (vi a), some (vi (((24 + (-8)) + (-8)) + (-8)))]) (st' := []) [.inl (.iinc 2 (-8))] 43 _ _ (by decide +kernel) rfl ?_
  refine aw_goto (o := -43) (tgt := 3) (by decide +kernel) (by decide) ?_
  refine aw_blk (pc' := 4) (ls' := [some (vr 2 0), some (vi a), some (vi (((24 + (-8)) + (-8)) + (-8)))]) (st' := [vi (((24 + (-8)) + (-8)) + (-8))]) [.inl (.iload_n 2)] 3 _ _ (by decide +kernel) rfl ?_
  refine aw_if_lt (o := 45) (tgt := 49) (by decide +kernel) (by decide) (by omega) (fun c => absurd c (by omega)) (fun _ => ?_)
  refine aw_blk (pc' := 14) (ls' := [some (vr 2 0), some (vi a), some (vi (((24 + (-8)) + (-8)) + (-8)))]) (st' := [vi 200, vi ((((n : Int) + 1) + 1) + 1)]) [.inl (.aload_n 0), .inr (13, 2, 1), .inl (.sipush 200)] 7 _ _ (by decide +kernel) rfl ?_
  refine aw_icmp_ge (o := 35) (tgt := 49) (by decide +kernel) (by decide) (by omega) (by omega) (fun c => absurd c (by omega)) (fun _ => ?_)
  refine aw_blk (pc' := 27) (ls' := [some (vr 2 0), some (vi a), some (vi (((24 + (-8)) + (-8)) + (-8)))]) (st' := [vi (((24 + (-8)) + (-8)) + (-8)), vi a, vi ((((n : Int) + 1) + 1) + 1), vr 2 1]) [.inl (.aload_n 0), .inr (9, 2, 0), .inl (.aload_n 0), .inr (13, 2, 1), .inl (.iload_n 1), .inl (.iload_n 2)] 17 _ _ (by decide +kernel) rfl ?_
  refine aw_ushr (p9 := 1) 0 (by decide +kernel) rfl (by decide) (by decide) ?_
  refine aw_blk (pc' := 31) (ls' := [some (vr 2 0), some (vi a), some (vi (((24 + (-8)) + (-8)) + (-8)))]) (st' := [vi 255, vi (a % 4294967296 / 1), vi ((((n : Int) + 1) + 1) + 1), vr 2 1]) [.inl (.sipush 255)] 28 _ _ (by decide +kernel) rfl ?_
  refine aw_and (p9 := 256) 8 (by decide +kernel) (by decide) (by decide) (by decide) ?_
  refine aw_iast (j := n + 3) (h' := Hp b s [some (ob 2 [vr 2 1, vi ((((n : Int) + 1) + 1) + 1)]), some (ar 0 200 (va_up (va_up (va_up (va_up f n ((a % 4294967296 / 16777216) % 256)) (n + 1) ((a % 4294967296 / 65536) % 256)) (n + 2) ((a % 4294967296 / 256) % 256)) (n + 3) ((a % 4294967296 / 1) % 256)))] mk df jo tr di mo dy) (by decide +kernel) rfl (by omega) (by omega) (by omega) rfl ?_
  refine aw_blk (pc' := 40) (ls' := [some (vr 2 0), some (vi a), some (vi (((24 + (-8)) + (-8)) + (-8)))]) (st' := [vi (((((n : Int) + 1) + 1) + 1) + 1), vr 2 0]) [.inl (.aload_n 0), .inl (.dup), .inr (13, 2, 1), .inl (.iconst 1), .inl (.iadd)] 33 _ _ (by decide +kernel) rfl ?_
  refine aw_put (idx := 13) (ci := 2) (k := 1) (h' := Hp b s [some (ob 2 [vr 2 1, vi (((((n : Int) + 1) + 1) + 1) + 1)]), some (ar 0 200 (va_up (va_up (va_up (va_up f n ((a % 4294967296 / 16777216) % 256)) (n + 1) ((a % 4294967296 / 65536) % 256)) (n + 2) ((a % 4294967296 / 256) % 256)) (n + 3) ((a % 4294967296 / 1) % 256)))] mk df jo tr di mo dy) (by decide +kernel) (by decide +kernel) rfl (Nat.le_of_ble_eq_true rfl) (show I32 _ from by omega) rfl ?_
  refine aw_blk (pc' := 46) (ls' := [some (vr 2 0), some (vi a), some (vi ((((24 + (-8)) + (-8)) + (-8)) + (-8)))]) (st' := []) [.inl (.iinc 2 (-8))] 43 _ _ (by decide +kernel) rfl ?_
  refine aw_goto (o := -43) (tgt := 3) (by decide +kernel) (by decide) ?_
  refine aw_blk (pc' := 4) (ls' := [some (vr 2 0), some (vi a), some (vi ((((24 + (-8)) + (-8)) + (-8)) + (-8)))]) (st' := [vi ((((24 + (-8)) + (-8)) + (-8)) + (-8))]) [.inl (.iload_n 2)] 3 _ _ (by decide +kernel) rfl ?_
  refine aw_if_lt (o := 45) (tgt := 49) (by decide +kernel) (by decide) (by omega) (fun _ => ?_) (fun c => absurd (by omega) c)
  exact aw_vret (by decide +kernel) rfl (by decide) (by decide) ⟨rfl, rfl⟩

theorem m_T_byteIn (ha : 0 ≤ a ∧ a < (n : Int)) (hn : n ≤ 200) : ADet G M_T_byteAt [vr 2 0, vi a] (Hp b s (sgT (n : Int) f) mk df jo tr di mo dy) (some (vi (f a.toNat))) (Hp b s (sgT (n : Int) f) mk df jo tr di mo dy) := by
  have z := m_T_byteAt (G := G) (b := b) (s := s) (mk := mk) (df := df) (jo := jo) (tr := tr) (di := di) (mo := mo) (dy := dy) (a := a) (len := (n : Int)) (f := f) (by omega) (by omega) (by omega)
  rw [if_pos (by omega)] at z
  exact z
theorem m_T_bitAt (ha : 0 ≤ a ∧ a < 8 * (n : Int)) (hn : n ≤ 200) (hf : ∀ j, I32 (f j)) : ADet G M_T_bitAt [vr 2 0, vi a] (Hp b s (sgT (n : Int) f) mk df jo tr di mo dy) (some (vi (f (a / 8).toNat / ((2 ^ (7 - a % 8).toNat : Nat) : Int) % 2))) (Hp b s (sgT (n : Int) f) mk df jo tr di mo dy) := by
  refine am_entry (by decide +kernel) (Nat.le_of_ble_eq_true rfl) ?_
  refine aw_blk (pc' := 3) (ls' := [some (vr 2 0), some (vi a)]) (st' := [vi 3, vi a, vr 2 0]) [.inl (.aload_n 0), .inl (.iload_n 1), .inl (.iconst 3)] 0 _ _ (by decide +kernel) rfl ?_
  refine aw_shr (p9 := 8) 3 (by decide +kernel) (by omega) rfl (by decide) (by decide) ?_
  refine aw_dV (cs' := 0) (sl' := 0) (pc' := 7) (st' := [vi (f (a / 8).toNat)]) (idx := 17) (as := [vi (a / 8)]) (st := []) (m_T_byteIn (by omega) hn) (by decide +kernel) (show vOK "ChanceBench$Tape" 17 M_T_byteAt 1 = true by decide +kernel) rfl rfl rfl (Nat.le_of_ble_eq_true rfl) (by decide) (by decide) (by decide) rfl rfl rfl rfl ?_
  refine aw_blk (pc' := 12) (ls' := [some (vr 2 0), some (vi a)]) (st' := [vi 7, vi a, vi 7, vi (f (a / 8).toNat)]) [.inl (.bipush 7), .inl (.iload_n 1), .inl (.bipush 7)] 7 _ _ (by decide +kernel) rfl ?_
  refine aw_and (p9 := 8) 3 (by decide +kernel) (by decide) (by decide) (by decide) ?_
  refine aw_blk (pc' := 14) (ls' := [some (vr 2 0), some (vi a)]) (st' := [vi (7 - (a % 8)), vi (f (a / 8).toNat)]) [.inl (.isub)] 13 _ _ (by decide +kernel) rfl ?_
  refine aw_shr (p9 := ((2 ^ (7 - a % 8).toNat : Nat) : Int)) ((7 - a % 8).toNat) (by decide +kernel) (hf _) (by omega) (by omega) rfl ?_
  refine aw_blk (pc' := 16) (ls' := [some (vr 2 0), some (vi a)]) (st' := [vi 1, vi ((f (a / 8).toNat) / ((2 ^ (7 - a % 8).toNat : Nat) : Int))]) [.inl (.iconst 1)] 15 _ _ (by decide +kernel) rfl ?_
  refine aw_and (p9 := 2) 1 (by decide +kernel) (by decide) (by decide) (by decide) ?_
  exact aw_iret (by decide +kernel) rfl (by decide) (by decide) ⟨rfl, rfl⟩

abbrev sgS (laws : Nat → Option (Nat × Nat)) (slot : Nat → Int) (ahead made : Nat → Option (Nat × Nat)) (od dn un : Int) : SG := [some (ob 1 [vr 1 1, vr 1 2, vr 1 3, vr 1 4, vi od, vi dn, vi un]), some (rs 16 laws), some (ar 0 30 slot), some (rs 30 ahead), some (rs 30 made)]
variable {laws ahead made : Nat → Option (Nat × Nat)} {slot : Nat → Int} {od dn un : Nat}
theorem m_S_hasSlot (ha : I32 a) : ADet G M_S_hasSlot [vr 1 0, vi a] (Hp b (sgS laws slot ahead made (od : Int) (dn : Int) (un : Int)) t mk df jo tr di mo dy) (some (vi (if 0 ≤ a ∧ a < 16 then 1 else 0))) (Hp b (sgS laws slot ahead made (od : Int) (dn : Int) (un : Int)) t mk df jo tr di mo dy) := by
  refine am_entry (by decide +kernel) (Nat.le_of_ble_eq_true rfl) ?_
  refine aw_blk (pc' := 1) (ls' := [some (vr 1 0), some (vi a)]) (st' := [vi a]) [.inl (.iload_n 1)] 0 _ _ (by decide +kernel) rfl ?_
  refine aw_if_lt (o := 13) (tgt := 14) (by decide +kernel) (by decide) (by omega) (fun c1 => ?_) (fun c1 => ?_)
  · refine aw_blk (pc' := 15) (ls' := [some (vr 1 0), some (vi a)]) (st' := [vi 0]) [.inl (.iconst 0)] 14 _ _ (by decide +kernel) rfl ?_
    exact aw_zret (by decide +kernel) rfl (by decide) (by decide) (by omega) ⟨by rw [if_neg (by omega)], rfl⟩
  · refine aw_blk (pc' := 7) (ls' := [some (vr 1 0), some (vi a)]) (st' := [vi 16, vi a]) [.inl (.iload_n 1), .inl (.bipush 16)] 4 _ _ (by decide +kernel) rfl ?_
    refine aw_icmp_ge (o := 7) (tgt := 14) (by decide +kernel) (by decide) (by omega) (by omega) (fun c7 => ?_) (fun c7 => ?_)
    · refine aw_blk (pc' := 15) (ls' := [some (vr 1 0), some (vi a)]) (st' := [vi 0]) [.inl (.iconst 0)] 14 _ _ (by decide +kernel) rfl ?_
      exact aw_zret (by decide +kernel) rfl (by decide) (by decide) (by omega) ⟨by rw [if_neg (by omega)], rfl⟩
    · refine aw_blk (pc' := 11) (ls' := [some (vr 1 0), some (vi a)]) (st' := [vi 1]) [.inl (.iconst 1)] 10 _ _ (by decide +kernel) rfl ?_
      refine aw_goto (o := 4) (tgt := 15) (by decide +kernel) (by decide) ?_
      exact aw_zret (by decide +kernel) rfl (by decide) (by decide) (by omega) ⟨by rw [if_pos (by omega)], rfl⟩

def lawAt (laws : Nat → Option (Nat × Nat)) (a : Int) : Option (Nat × Nat) := if 0 ≤ a ∧ a < 16 then laws a.toNat else none
theorem m_S_lawIn (ha : I32 a) : ADet G M_S_lawIn [vr 1 0, vi a] (Hp b (sgS laws slot ahead made (od : Int) (dn : Int) (un : Int)) t mk df jo tr di mo dy) (some (vo (lawAt laws a))) (Hp b (sgS laws slot ahead made (od : Int) (dn : Int) (un : Int)) t mk df jo tr di mo dy) := by
  refine am_entry (by decide +kernel) (Nat.le_of_ble_eq_true rfl) ?_
  refine aw_blk (pc' := 2) (ls' := [some (vr 1 0), some (vi a)]) (st' := [vi a, vr 1 0]) [.inl (.aload_n 0), .inl (.iload_n 1)] 0 _ _ (by decide +kernel) rfl ?_
  refine aw_dV (cs' := 0) (sl' := 0) (pc' := 5) (st' := [vi (if 0 ≤ a ∧ a < 16 then 1 else 0)]) (idx := 37) (as := [vi a]) (st := []) (m_S_hasSlot ha) (by decide +kernel) (show vOK "ChanceBench$Shelf" 37 M_S_hasSlot 1 = true by decide +kernel) rfl rfl rfl (Nat.le_of_ble_eq_true rfl) (by decide) (by decide) (by decide) rfl rfl rfl rfl ?_
  refine aw_if_eq (o := 12) (tgt := 17) (by decide +kernel) (by decide) (by split <;> omega) (fun c5 => ?_) (fun c5 => ?_)
  · have c5 : ¬ (0 ≤ a ∧ a < 16) := fun z => by rw [if_pos z] at c5; cases c5
    refine aw_blk (pc' := 18) (ls' := [some (vr 1 0), some (vi a)]) (st' := [vn]) [.inl (.aconst_null)] 17 _ _ (by decide +kernel) rfl ?_
    exact aw_aret (by decide +kernel) rfl (by decide) (by decide) ⟨by rw [lawAt, if_neg c5], rfl⟩
  · have c5 : 0 ≤ a ∧ a < 16 := by rcases Decidable.em (0 ≤ a ∧ a < 16) with z | z; exact z; rw [if_neg z] at c5; exact absurd rfl c5
    refine aw_blk (pc' := 13) (ls' := [some (vr 1 0), some (vi a)]) (st' := [vi a, vr 1 1]) [.inl (.aload_n 0), .inr (11, 1, 0), .inl (.iload_n 1)] 8 _ _ (by decide +kernel) rfl ?_
    refine aw_aald (j := a.toNat) (by decide +kernel) rfl (by omega) (by omega) ?_
    refine aw_goto (o := 4) (tgt := 18) (by decide +kernel) (by decide) ?_
    exact aw_aret (by decide +kernel) rfl (by decide) (by decide) ⟨by rw [lawAt, if_pos c5], rfl⟩

theorem m_S_done : ADet G M_S_done [vr 1 0] (Hp b (sgS laws slot ahead made (od : Int) (dn : Int) (un : Int)) t mk df jo tr di mo dy) (some (vi dn)) (Hp b (sgS laws slot ahead made (od : Int) (dn : Int) (un : Int)) t mk df jo tr di mo dy) := by
  refine am_entry (by decide +kernel) (Nat.le_of_ble_eq_true rfl) ?_
  refine aw_blk (pc' := 4) (ls' := [some (vr 1 0)]) (st' := [vi (dn : Int)]) [.inl (.aload_n 0), .inr (31, 1, 5)] 0 _ _ (by decide +kernel) rfl ?_
  exact aw_iret (by decide +kernel) rfl (by decide) (by decide) ⟨rfl, rfl⟩

theorem m_S_undone : ADet G M_S_undone [vr 1 0] (Hp b (sgS laws slot ahead made (od : Int) (dn : Int) (un : Int)) t mk df jo tr di mo dy) (some (vi un)) (Hp b (sgS laws slot ahead made (od : Int) (dn : Int) (un : Int)) t mk df jo tr di mo dy) := by
  refine am_entry (by decide +kernel) (Nat.le_of_ble_eq_true rfl) ?_
  refine aw_blk (pc' := 4) (ls' := [some (vr 1 0)]) (st' := [vi (un : Int)]) [.inl (.aload_n 0), .inr (34, 1, 6)] 0 _ _ (by decide +kernel) rfl ?_
  exact aw_iret (by decide +kernel) rfl (by decide) (by decide) ⟨rfl, rfl⟩

theorem tmod_nat (m k : Nat) : Int.tmod (m : Int) (k : Int) = ((m % k : Nat) : Int) := rfl
theorem tdiv_nat (m k : Nat) : Int.tdiv (m : Int) (k : Int) = ((m / k : Nat) : Int) := rfl
theorem m_S_placeOfAct (ho : od < 30) (hn : n ≤ 30) : ADet G M_S_placeOfAct [vr 1 0, vi (n : Int)] (Hp b (sgS laws slot ahead made (od : Int) (dn : Int) (un : Int)) t mk df jo tr di mo dy) (some (vi (((od + n) % 30 : Nat) : Int))) (Hp b (sgS laws slot ahead made (od : Int) (dn : Int) (un : Int)) t mk df jo tr di mo dy) := by
  refine am_entry (by decide +kernel) (Nat.le_of_ble_eq_true rfl) ?_
  refine aw_blk (pc' := 8) (ls' := [some (vr 1 0), some (vi (n : Int))]) (st' := [vi 30, vi ((od : Int) + (n : Int))]) [.inl (.aload_n 0), .inr (27, 1, 4), .inl (.iload_n 1), .inl (.iadd), .inl (.bipush 30)] 0 _ _ (by decide +kernel) rfl ?_
  refine aw_irem (by decide +kernel) (by omega) (by omega) (by omega) ?_
  exact aw_iret (by decide +kernel) rfl (by decide) (by decide) ⟨by rw [← Int.natCast_add]; rfl, rfl⟩

abbrev dyg (dy : SG) (k : Nat) : Option AC := hgs [dy] 0 k
def lwOK (dy : SG) (g : Nat → Option (Nat × Nat)) : Prop := ∀ (i : Nat) (x : Nat × Nat), g i = some x → x.1 = 9 ∧ ∃ fs, dyg dy x.2 = some (ob 9 fs)
theorem lwOK.at {g : Nat → Option (Nat × Nat)} {h : HT} {i : Nat} {x : Nat × Nat} (hl : lwOK dy g) (hx : g i = some x) (hh : h = Hp b s t mk df jo tr di mo dy := by rfl) : ∃ fs, hget h x.1 x.2 = some (ob 9 fs) := by
  obtain ⟨e, fs, z⟩ := hl i x hx
  subst hh
  obtain ⟨x1, x2⟩ := x
  cases e
  exact ⟨fs, z⟩
variable {k j : Nat}
theorem m_S_put_a {fs : List AV} (ho : od < 30) (hj : j < 16) (hd : dn < 30) (hk : dyg dy k = some (ob 9 fs)) (hl : lwOK dy laws) : ADet G M_S_put [vr 1 0, vi (j : Int), vr 9 k] (Hp b (sgS laws slot ahead made (od : Int) (dn : Int) (un : Int)) t mk df jo tr di mo dy) none (Hp b (sgS (va_up laws j (some (9, k))) (va_up slot ((od + dn) % 30) (j : Int)) (va_up ahead ((od + dn) % 30) (laws j)) (va_up made ((od + dn) % 30) (some (9, k))) (od : Int) ((dn : Int) + 1) 0) t mk df jo tr di mo dy) := by
  refine am_entry (by decide +kernel) (Nat.le_of_ble_eq_true rfl) ?_
  refine aw_blk (pc' := 2) (ls' := [some (vr 1 0), some (vi (j : Int)), some (vr 9 k), none]) (st' := [vi (j : Int), vr 1 0]) [.inl (.aload_n 0), .inl (.iload_n 1)] 0 _ _ (by decide +kernel) rfl ?_
  refine aw_dV (cs' := 0) (sl' := 0) (pc' := 5) (st' := [vi (if 0 ≤ (j : Int) ∧ (j : Int) < 16 then 1 else 0)]) (idx := 37) (as := [vi (j : Int)]) (st := []) (m_S_hasSlot (by omega)) (by decide +kernel) (show vOK "ChanceBench$Shelf" 37 M_S_hasSlot 1 = true by decide +kernel) rfl rfl rfl (Nat.le_of_ble_eq_true rfl) (by decide) (by decide) (by decide) rfl rfl rfl rfl ?_
  rw [if_pos (show 0 ≤ (j : Int) ∧ (j : Int) < 16 by omega)]
  refine aw_if_ne (o := 4) (tgt := 9) (by decide +kernel) (by decide) (by omega) (fun _ => ?_) (fun c => absurd c (by omega))
  refine aw_blk (pc' := 15) (ls' := [some (vr 1 0), some (vi (j : Int)), some (vr 9 k), none]) (st' := [vi 30, vi (dn : Int)]) [.inl (.aload_n 0), .inr (31, 1, 5), .inl (.bipush 30)] 9 _ _ (by decide +kernel) rfl ?_
  refine aw_icmp_ne (o := 26) (tgt := 41) (by decide +kernel) (by decide) (by omega) (by omega) (fun _ => ?_) (fun c => absurd c (by omega))
  refine aw_blk (pc' := 46) (ls' := [some (vr 1 0), some (vi (j : Int)), some (vr 9 k), none]) (st' := [vi (dn : Int), vr 1 0]) [.inl (.aload_n 0), .inl (.aload_n 0), .inr (31, 1, 5)] 41 _ _ (by decide +kernel) rfl ?_
  refine aw_dV (cs' := 0) (sl' := 0) (pc' := 49) (st' := [vi ((od + dn) % 30 : Nat)]) (idx := 41) (as := [vi (dn : Int)]) (st := []) (m_S_placeOfAct ho (by omega)) (by decide +kernel) (show vOK "ChanceBench$Shelf" 41 M_S_placeOfAct 1 = true by decide +kernel) rfl rfl rfl (Nat.le_of_ble_eq_true rfl) (by decide) (by decide) (by decide) rfl rfl rfl rfl ?_
  refine aw_blk (pc' := 56) (ls' := [some (vr 1 0), some (vi (j : Int)), some (vr 9 k), some (vi (((od + dn) % 30 : Nat) : Int))]) (st' := [vi (j : Int), vi (((od + dn) % 30 : Nat) : Int), vr 1 2]) [.inl (.istore_n 3), .inl (.aload_n 0), .inr (17, 1, 1), .inl (.iload_n 3), .inl (.iload_n 1)] 49 _ _ (by decide +kernel) rfl ?_
  refine aw_iast (j := (od + dn) % 30) (h' := Hp b [some (ob 1 [vr 1 1, vr 1 2, vr 1 3, vr 1 4, vi (od : Int), vi (dn : Int), vi (un : Int)]), some (rs 16 laws), some (ar 0 30 (va_up slot ((od + dn) % 30) (j : Int))), some (rs 30 ahead), some (rs 30 made)] t mk df jo tr di mo dy) (by decide +kernel) rfl rfl (by omega) (by omega) rfl ?_
  refine aw_blk (pc' := 67) (ls' := [some (vr 1 0), some (vi (j : Int)), some (vr 9 k), some (vi (((od + dn) % 30 : Nat) : Int))]) (st' := [vi (j : Int), vr 1 1, vi (((od + dn) % 30 : Nat) : Int), vr 1 3]) [.inl (.aload_n 0), .inr (21, 1, 2), .inl (.iload_n 3), .inl (.aload_n 0), .inr (11, 1, 0), .inl (.iload_n 1)] 57 _ _ (by decide +kernel) rfl ?_
  refine aw_aald (j := j) (by decide +kernel) rfl rfl (by omega) ?_
  refine aw_aast (j := (od + dn) % 30) (h' := Hp b [some (ob 1 [vr 1 1, vr 1 2, vr 1 3, vr 1 4, vi (od : Int), vi (dn : Int), vi (un : Int)]), some (rs 16 laws), some (ar 0 30 (va_up slot ((od + dn) % 30) (j : Int))), some (rs 30 (va_up ahead ((od + dn) % 30) (laws j))), some (rs 30 made)] t mk df jo tr di mo dy) (by decide +kernel) rfl rfl (by omega) (fun x hx => hl.at hx) rfl ?_
  refine aw_blk (pc' := 75) (ls' := [some (vr 1 0), some (vi (j : Int)), some (vr 9 k), some (vi (((od + dn) % 30 : Nat) : Int))]) (st' := [vr 9 k, vi (((od + dn) % 30 : Nat) : Int), vr 1 4]) [.inl (.aload_n 0), .inr (24, 1, 3), .inl (.iload_n 3), .inl (.aload_n 2)] 69 _ _ (by decide +kernel) rfl ?_
  refine aw_aast (j := (od + dn) % 30) (h' := Hp b [some (ob 1 [vr 1 1, vr 1 2, vr 1 3, vr 1 4, vi (od : Int), vi (dn : Int), vi (un : Int)]), some (rs 16 laws), some (ar 0 30 (va_up slot ((od + dn) % 30) (j : Int))), some (rs 30 (va_up ahead ((od + dn) % 30) (laws j))), some (rs 30 (va_up made ((od + dn) % 30) (some (9, k))))] t mk df jo tr di mo dy) (by decide +kernel) rfl rfl (by omega) (fun x hx => by cases hx; exact ⟨_, hk⟩) rfl ?_
  refine aw_blk (pc' := 82) (ls' := [some (vr 1 0), some (vi (j : Int)), some (vr 9 k), some (vi (((od + dn) % 30 : Nat) : Int))]) (st' := [vr 9 k, vi (j : Int), vr 1 1]) [.inl (.aload_n 0), .inr (11, 1, 0), .inl (.iload_n 1), .inl (.aload_n 2)] 76 _ _ (by decide +kernel) rfl ?_
  refine aw_aast (j := j) (h' := Hp b [some (ob 1 [vr 1 1, vr 1 2, vr 1 3, vr 1 4, vi (od : Int), vi (dn : Int), vi (un : Int)]), some (rs 16 (va_up laws j (some (9, k)))), some (ar 0 30 (va_up slot ((od + dn) % 30) (j : Int))), some (rs 30 (va_up ahead ((od + dn) % 30) (laws j))), some (rs 30 (va_up made ((od + dn) % 30) (some (9, k))))] t mk df jo tr di mo dy) (by decide +kernel) rfl rfl (by omega) (fun x hx => by cases hx; exact ⟨_, hk⟩) rfl ?_
  refine aw_blk (pc' := 90) (ls' := [some (vr 1 0), some (vi (j : Int)), some (vr 9 k), some (vi (((od + dn) % 30 : Nat) : Int))]) (st' := [vi ((dn : Int) + 1), vr 1 0]) [.inl (.aload_n 0), .inl (.dup), .inr (31, 1, 5), .inl (.iconst 1), .inl (.iadd)] 83 _ _ (by decide +kernel) rfl ?_
  refine aw_put (idx := 31) (ci := 1) (k := 5) (h' := Hp b [some (ob 1 [vr 1 1, vr 1 2, vr 1 3, vr 1 4, vi (od : Int), vi ((dn : Int) + 1), vi (un : Int)]), some (rs 16 (va_up laws j (some (9, k)))), some (ar 0 30 (va_up slot ((od + dn) % 30) (j : Int))), some (rs 30 (va_up ahead ((od + dn) % 30) (laws j))), some (rs 30 (va_up made ((od + dn) % 30) (some (9, k))))] t mk df jo tr di mo dy) (by decide +kernel) (by decide +kernel) rfl (Nat.le_of_ble_eq_true rfl) (show I32 _ from by omega) rfl ?_
  refine aw_blk (pc' := 95) (ls' := [some (vr 1 0), some (vi (j : Int)), some (vr 9 k), some (vi (((od + dn) % 30 : Nat) : Int))]) (st' := [vi 0, vr 1 0]) [.inl (.aload_n 0), .inl (.iconst 0)] 93 _ _ (by decide +kernel) rfl ?_
  refine aw_put (idx := 34) (ci := 1) (k := 6) (h' := Hp b [some (ob 1 [vr 1 1, vr 1 2, vr 1 3, vr 1 4, vi (od : Int), vi ((dn : Int) + 1), vi 0]), some (rs 16 (va_up laws j (some (9, k)))), some (ar 0 30 (va_up slot ((od + dn) % 30) (j : Int))), some (rs 30 (va_up ahead ((od + dn) % 30) (laws j))), some (rs 30 (va_up made ((od + dn) % 30) (some (9, k))))] t mk df jo tr di mo dy) (by decide +kernel) (by decide +kernel) rfl (Nat.le_of_ble_eq_true rfl) (show I32 _ from by omega) rfl ?_
  exact aw_vret (by decide +kernel) rfl (by decide) (by decide) ⟨rfl, rfl⟩

theorem m_S_put_b {fs : List AV} (ho : od < 30) (hj : j < 16) (hk : dyg dy k = some (ob 9 fs)) (hl : lwOK dy laws) : ADet G M_S_put [vr 1 0, vi (j : Int), vr 9 k] (Hp b (sgS laws slot ahead made (od : Int) 30 (un : Int)) t mk df jo tr di mo dy) none (Hp b (sgS (va_up laws j (some (9, k))) (va_up slot (((od + 1) % 30 + 29) % 30) (j : Int)) (va_up ahead (((od + 1) % 30 + 29) % 30) (laws j)) (va_up made (((od + 1) % 30 + 29) % 30) (some (9, k))) (((od + 1) % 30 : Nat) : Int) (30 - 1 + 1) 0) t mk df jo tr di mo dy) := by
  refine am_entry (by decide +kernel) (Nat.le_of_ble_eq_true rfl) ?_
  refine aw_blk (pc' := 2) (ls' := [some (vr 1 0), some (vi (j : Int)), some (vr 9 k), none]) (st' := [vi (j : Int), vr 1 0]) [.inl (.aload_n 0), .inl (.iload_n 1)] 0 _ _ (by decide +kernel) rfl ?_
  refine aw_dV (cs' := 0) (sl' := 0) (pc' := 5) (st' := [vi (if 0 ≤ (j : Int) ∧ (j : Int) < 16 then 1 else 0)]) (idx := 37) (as := [vi (j : Int)]) (st := []) (m_S_hasSlot (dn := 30) (by omega)) (by decide +kernel) (show vOK "ChanceBench$Shelf" 37 M_S_hasSlot 1 = true by decide +kernel) rfl rfl rfl (Nat.le_of_ble_eq_true rfl) (by decide) (by decide) (by decide) rfl rfl rfl rfl ?_
  rw [if_pos (show 0 ≤ (j : Int) ∧ (j : Int) < 16 by omega)]
  refine aw_if_ne (o := 4) (tgt := 9) (by decide +kernel) (by decide) (by omega) (fun _ => ?_) (fun c => absurd c (by omega))
  refine aw_blk (pc' := 15) (ls' := [some (vr 1 0), some (vi (j : Int)), some (vr 9 k), none]) (st' := [vi 30, vi 30]) [.inl (.aload_n 0), .inr (31, 1, 5), .inl (.bipush 30)] 9 _ _ (by decide +kernel) rfl ?_
  refine aw_icmp_ne (o := 26) (tgt := 41) (by decide +kernel) (by decide) (by omega) (by omega) (fun c => absurd (by omega) c) (fun _ => ?_)
  refine aw_blk (pc' := 27) (ls' := [some (vr 1 0), some (vi (j : Int)), some (vr 9 k), none]) (st' := [vi 30, vi ((od : Int) + 1), vr 1 0]) [.inl (.aload_n 0), .inl (.aload_n 0), .inr (27, 1, 4), .inl (.iconst 1), .inl (.iadd), .inl (.bipush 30)] 18 _ _ (by decide +kernel) rfl ?_
  refine aw_irem (by decide +kernel) (by omega) (by omega) (by omega) ?_
  rw [show Int.tmod ((od : Int) + 1) 30 = (((od + 1) % 30 : Nat) : Int) from by rw [← Int.natCast_one, ← Int.natCast_add]; rfl]
  refine aw_put (idx := 27) (ci := 1) (k := 4) (h' := Hp b [some (ob 1 [vr 1 1, vr 1 2, vr 1 3, vr 1 4, vi (((od + 1) % 30 : Nat) : Int), vi 30, vi (un : Int)]), some (rs 16 laws), some (ar 0 30 slot), some (rs 30 ahead), some (rs 30 made)] t mk df jo tr di mo dy) (by decide +kernel) (by decide +kernel) rfl (Nat.le_of_ble_eq_true rfl) (show I32 _ from by omega) rfl ?_
  refine aw_blk (pc' := 38) (ls' := [some (vr 1 0), some (vi (j : Int)), some (vr 9 k), none]) (st' := [vi (30 - 1), vr 1 0]) [.inl (.aload_n 0), .inl (.dup), .inr (31, 1, 5), .inl (.iconst 1), .inl (.isub)] 31 _ _ (by decide +kernel) rfl ?_
  refine aw_put (idx := 31) (ci := 1) (k := 5) (h' := Hp b [some (ob 1 [vr 1 1, vr 1 2, vr 1 3, vr 1 4, vi (((od + 1) % 30 : Nat) : Int), vi (30 - 1), vi (un : Int)]), some (rs 16 laws), some (ar 0 30 slot), some (rs 30 ahead), some (rs 30 made)] t mk df jo tr di mo dy) (by decide +kernel) (by decide +kernel) rfl (Nat.le_of_ble_eq_true rfl) (show I32 _ from by omega) rfl ?_
  refine aw_blk (pc' := 46) (ls' := [some (vr 1 0), some (vi (j : Int)), some (vr 9 k), none]) (st' := [vi (30 - 1), vr 1 0]) [.inl (.aload_n 0), .inl (.aload_n 0), .inr (31, 1, 5)] 41 _ _ (by decide +kernel) rfl ?_
  refine aw_dV (cs' := 0) (sl' := 0) (pc' := 49) (st' := [vi (((od + 1) % 30 + 29) % 30 : Nat)]) (idx := 41) (as := [vi (30 - 1)]) (st := []) (m_S_placeOfAct (od := (od + 1) % 30) (dn := 29) (n := 29) (by omega) (by omega)) (by decide +kernel) (show vOK "ChanceBench$Shelf" 41 M_S_placeOfAct 1 = true by decide +kernel) rfl rfl rfl (Nat.le_of_ble_eq_true rfl) (by decide) (by decide) (by decide) rfl rfl rfl rfl ?_
  refine aw_blk (pc' := 56) (ls' := [some (vr 1 0), some (vi (j : Int)), some (vr 9 k), some (vi ((((od + 1) % 30 + 29) % 30 : Nat) : Int))]) (st' := [vi (j : Int), vi ((((od + 1) % 30 + 29) % 30 : Nat) : Int), vr 1 2]) [.inl (.istore_n 3), .inl (.aload_n 0), .inr (17, 1, 1), .inl (.iload_n 3), .inl (.iload_n 1)] 49 _ _ (by decide +kernel) rfl ?_
  refine aw_iast (j := ((od + 1) % 30 + 29) % 30) (h' := Hp b [some (ob 1 [vr 1 1, vr 1 2, vr 1 3, vr 1 4, vi (((od + 1) % 30 : Nat) : Int), vi (30 - 1), vi (un : Int)]), some (rs 16 laws), some (ar 0 30 (va_up slot (((od + 1) % 30 + 29) % 30) (j : Int))), some (rs 30 ahead), some (rs 30 made)] t mk df jo tr di mo dy) (by decide +kernel) rfl rfl (by omega) (by omega) rfl ?_
  refine aw_blk (pc' := 67) (ls' := [some (vr 1 0), some (vi (j : Int)), some (vr 9 k), some (vi ((((od + 1) % 30 + 29) % 30 : Nat) : Int))]) (st' := [vi (j : Int), vr 1 1, vi ((((od + 1) % 30 + 29) % 30 : Nat) : Int), vr 1 3]) [.inl (.aload_n 0), .inr (21, 1, 2), .inl (.iload_n 3), .inl (.aload_n 0), .inr (11, 1, 0), .inl (.iload_n 1)] 57 _ _ (by decide +kernel) rfl ?_
  refine aw_aald (j := j) (by decide +kernel) rfl rfl (by omega) ?_
  refine aw_aast (j := ((od + 1) % 30 + 29) % 30) (h' := Hp b [some (ob 1 [vr 1 1, vr 1 2, vr 1 3, vr 1 4, vi (((od + 1) % 30 : Nat) : Int), vi (30 - 1), vi (un : Int)]), some (rs 16 laws), some (ar 0 30 (va_up slot (((od + 1) % 30 + 29) % 30) (j : Int))), some (rs 30 (va_up ahead (((od + 1) % 30 + 29) % 30) (laws j))), some (rs 30 made)] t mk df jo tr di mo dy) (by decide +kernel) rfl rfl (by omega) (fun x hx => hl.at hx) rfl ?_
  refine aw_blk (pc' := 75) (ls' := [some (vr 1 0), some (vi (j : Int)), some (vr 9 k), some (vi ((((od + 1) % 30 + 29) % 30 : Nat) : Int))]) (st' := [vr 9 k, vi ((((od + 1) % 30 + 29) % 30 : Nat) : Int), vr 1 4]) [.inl (.aload_n 0), .inr (24, 1, 3), .inl (.iload_n 3), .inl (.aload_n 2)] 69 _ _ (by decide +kernel) rfl ?_
  refine aw_aast (j := ((od + 1) % 30 + 29) % 30) (h' := Hp b [some (ob 1 [vr 1 1, vr 1 2, vr 1 3, vr 1 4, vi (((od + 1) % 30 : Nat) : Int), vi (30 - 1), vi (un : Int)]), some (rs 16 laws), some (ar 0 30 (va_up slot (((od + 1) % 30 + 29) % 30) (j : Int))), some (rs 30 (va_up ahead (((od + 1) % 30 + 29) % 30) (laws j))), some (rs 30 (va_up made (((od + 1) % 30 + 29) % 30) (some (9, k))))] t mk df jo tr di mo dy) (by decide +kernel) rfl rfl (by omega) (fun x hx => by cases hx; exact ⟨_, hk⟩) rfl ?_
  refine aw_blk (pc' := 82) (ls' := [some (vr 1 0), some (vi (j : Int)), some (vr 9 k), some (vi ((((od + 1) % 30 + 29) % 30 : Nat) : Int))]) (st' := [vr 9 k, vi (j : Int), vr 1 1]) [.inl (.aload_n 0), .inr (11, 1, 0), .inl (.iload_n 1), .inl (.aload_n 2)] 76 _ _ (by decide +kernel) rfl ?_
  refine aw_aast (j := j) (h' := Hp b [some (ob 1 [vr 1 1, vr 1 2, vr 1 3, vr 1 4, vi (((od + 1) % 30 : Nat) : Int), vi (30 - 1), vi (un : Int)]), some (rs 16 (va_up laws j (some (9, k)))), some (ar 0 30 (va_up slot (((od + 1) % 30 + 29) % 30) (j : Int))), some (rs 30 (va_up ahead (((od + 1) % 30 + 29) % 30) (laws j))), some (rs 30 (va_up made (((od + 1) % 30 + 29) % 30) (some (9, k))))] t mk df jo tr di mo dy) (by decide +kernel) rfl rfl (by omega) (fun x hx => by cases hx; exact ⟨_, hk⟩) rfl ?_
  refine aw_blk (pc' := 90) (ls' := [some (vr 1 0), some (vi (j : Int)), some (vr 9 k), some (vi ((((od + 1) % 30 + 29) % 30 : Nat) : Int))]) (st' := [vi ((30 - 1) + 1), vr 1 0]) [.inl (.aload_n 0), .inl (.dup), .inr (31, 1, 5), .inl (.iconst 1), .inl (.iadd)] 83 _ _ (by decide +kernel) rfl ?_
  refine aw_put (idx := 31) (ci := 1) (k := 5) (h' := Hp b [some (ob 1 [vr 1 1, vr 1 2, vr 1 3, vr 1 4, vi (((od + 1) % 30 : Nat) : Int), vi ((30 - 1) + 1), vi (un : Int)]), some (rs 16 (va_up laws j (some (9, k)))), some (ar 0 30 (va_up slot (((od + 1) % 30 + 29) % 30) (j : Int))), some (rs 30 (va_up ahead (((od + 1) % 30 + 29) % 30) (laws j))), some (rs 30 (va_up made (((od + 1) % 30 + 29) % 30) (some (9, k))))] t mk df jo tr di mo dy) (by decide +kernel) (by decide +kernel) rfl (Nat.le_of_ble_eq_true rfl) (show I32 _ from by omega) rfl ?_
  refine aw_blk (pc' := 95) (ls' := [some (vr 1 0), some (vi (j : Int)), some (vr 9 k), some (vi ((((od + 1) % 30 + 29) % 30 : Nat) : Int))]) (st' := [vi 0, vr 1 0]) [.inl (.aload_n 0), .inl (.iconst 0)] 93 _ _ (by decide +kernel) rfl ?_
  refine aw_put (idx := 34) (ci := 1) (k := 6) (h' := Hp b [some (ob 1 [vr 1 1, vr 1 2, vr 1 3, vr 1 4, vi (((od + 1) % 30 : Nat) : Int), vi ((30 - 1) + 1), vi 0]), some (rs 16 (va_up laws j (some (9, k)))), some (ar 0 30 (va_up slot (((od + 1) % 30 + 29) % 30) (j : Int))), some (rs 30 (va_up ahead (((od + 1) % 30 + 29) % 30) (laws j))), some (rs 30 (va_up made (((od + 1) % 30 + 29) % 30) (some (9, k))))] t mk df jo tr di mo dy) (by decide +kernel) (by decide +kernel) rfl (Nat.le_of_ble_eq_true rfl) (show I32 _ from by omega) rfl ?_
  exact aw_vret (by decide +kernel) rfl (by decide) (by decide) ⟨rfl, rfl⟩

theorem m_S_takeBack_0 (h0 : dn < 1) (hd : dn ≤ 30) (hu : un ≤ 30) : ADet G M_S_takeBack [vr 1 0] (Hp b (sgS laws slot ahead made (od : Int) (dn : Int) (un : Int)) t mk df jo tr di mo dy) (some (vi 0)) (Hp b (sgS laws slot ahead made (od : Int) (dn : Int) (un : Int)) t mk df jo tr di mo dy) := by
  refine am_entry (by decide +kernel) (Nat.le_of_ble_eq_true rfl) ?_
  refine aw_blk (pc' := 5) (ls' := [some (vr 1 0), none]) (st' := [vi 1, vi (dn : Int)]) [.inl (.aload_n 0), .inr (31, 1, 5), .inl (.iconst 1)] 0 _ _ (by decide +kernel) rfl ?_
  refine aw_icmp_ge (o := 5) (tgt := 10) (by decide +kernel) (by decide) (by omega) (by omega) (fun c => absurd c (by omega)) (fun _ => ?_)
  refine aw_blk (pc' := 9) (ls' := [some (vr 1 0), none]) (st' := [vi 0]) [.inl (.iconst 0)] 8 _ _ (by decide +kernel) rfl ?_
  exact aw_zret (by decide +kernel) rfl (by decide) (by decide) (by omega) ⟨rfl, rfl⟩

theorem m_S_takeBack_1 (h0 : 1 ≤ dn) (ho : od < 30) (hd : dn ≤ 30) (hu : un ≤ 30) (hs : ∀ i, 0 ≤ slot i ∧ slot i < 16) (ha : lwOK dy ahead) : ADet G M_S_takeBack [vr 1 0] (Hp b (sgS laws slot ahead made (od : Int) (dn : Int) (un : Int)) t mk df jo tr di mo dy) (some (vi 1)) (Hp b (sgS (va_up laws (slot ((od + (dn - 1)) % 30)).toNat (ahead ((od + (dn - 1)) % 30))) slot ahead made (od : Int) ((dn - 1 : Nat) : Int) ((un : Int) + 1)) t mk df jo tr di mo dy) := by
  refine am_entry (by decide +kernel) (Nat.le_of_ble_eq_true rfl) ?_
  refine aw_blk (pc' := 5) (ls' := [some (vr 1 0), none]) (st' := [vi 1, vi (dn : Int)]) [.inl (.aload_n 0), .inr (31, 1, 5), .inl (.iconst 1)] 0 _ _ (by decide +kernel) rfl ?_
  refine aw_icmp_ge (o := 5) (tgt := 10) (by decide +kernel) (by decide) (by omega) (by omega) (fun _ => ?_) (fun c => absurd (by omega) c)
  refine aw_blk (pc' := 17) (ls' := [some (vr 1 0), none]) (st' := [vi ((dn : Int) - 1), vr 1 0]) [.inl (.aload_n 0), .inl (.dup), .inr (31, 1, 5), .inl (.iconst 1), .inl (.isub)] 10 _ _ (by decide +kernel) rfl ?_
  refine aw_put (idx := 31) (ci := 1) (k := 5) (h' := Hp b [some (ob 1 [vr 1 1, vr 1 2, vr 1 3, vr 1 4, vi (od : Int), vi ((dn : Int) - 1), vi (un : Int)]), some (rs 16 laws), some (ar 0 30 slot), some (rs 30 ahead), some (rs 30 made)] t mk df jo tr di mo dy) (by decide +kernel) (by decide +kernel) rfl (Nat.le_of_ble_eq_true rfl) (show I32 _ from by omega) rfl ?_
  refine aw_blk (pc' := 27) (ls' := [some (vr 1 0), none]) (st' := [vi ((un : Int) + 1), vr 1 0]) [.inl (.aload_n 0), .inl (.dup), .inr (34, 1, 6), .inl (.iconst 1), .inl (.iadd)] 20 _ _ (by decide +kernel) rfl ?_
  refine aw_put (idx := 34) (ci := 1) (k := 6) (h' := Hp b [some (ob 1 [vr 1 1, vr 1 2, vr 1 3, vr 1 4, vi (od : Int), vi ((dn : Int) - 1), vi ((un : Int) + 1)]), some (rs 16 laws), some (ar 0 30 slot), some (rs 30 ahead), some (rs 30 made)] t mk df jo tr di mo dy) (by decide +kernel) (by decide +kernel) rfl (Nat.le_of_ble_eq_true rfl) (show I32 _ from by omega) rfl ?_
  refine aw_blk (pc' := 35) (ls' := [some (vr 1 0), none]) (st' := [vi ((dn : Int) - 1), vr 1 0]) [.inl (.aload_n 0), .inl (.aload_n 0), .inr (31, 1, 5)] 30 _ _ (by decide +kernel) rfl ?_
  rw [show (dn : Int) - 1 = ((dn - 1 : Nat) : Int) by omega]
  refine aw_dV (cs' := 0) (sl' := 0) (pc' := 38) (st' := [vi (((od + (dn - 1)) % 30 : Nat) : Int)]) (idx := 41) (as := [vi ((dn - 1 : Nat) : Int)]) (st := []) (m_S_placeOfAct (un := un + 1) (dn := dn - 1) (n := dn - 1) ho (by omega)) (by decide +kernel) (show vOK "ChanceBench$Shelf" 41 M_S_placeOfAct 1 = true by decide +kernel) rfl rfl rfl (Nat.le_of_ble_eq_true rfl) (by decide) (by decide) (by decide) rfl rfl rfl rfl ?_
  refine aw_blk (pc' := 48) (ls' := [some (vr 1 0), some (vi (((od + (dn - 1)) % 30 : Nat) : Int))]) (st' := [vi (((od + (dn - 1)) % 30 : Nat) : Int), vr 1 2, vr 1 1]) [.inl (.istore_n 1), .inl (.aload_n 0), .inr (11, 1, 0), .inl (.aload_n 0), .inr (17, 1, 1), .inl (.iload_n 1)] 38 _ _ (by decide +kernel) rfl ?_
  refine aw_iald (j := (od + (dn - 1)) % 30) (by decide +kernel) rfl rfl (by omega) (fun r48 => ?_)
  refine aw_blk (pc' := 54) (ls' := [some (vr 1 0), some (vi (((od + (dn - 1)) % 30 : Nat) : Int))]) (st' := [vi (((od + (dn - 1)) % 30 : Nat) : Int), vr 1 3, vi (slot ((od + (dn - 1)) % 30)), vr 1 1]) [.inl (.aload_n 0), .inr (21, 1, 2), .inl (.iload_n 1)] 49 _ _ (by decide +kernel) rfl ?_
  refine aw_aald (j := (od + (dn - 1)) % 30) (by decide +kernel) rfl rfl (by omega) ?_
  refine aw_aast (j := (slot ((od + (dn - 1)) % 30)).toNat) (h' := Hp b [some (ob 1 [vr 1 1, vr 1 2, vr 1 3, vr 1 4, vi (od : Int), vi ((dn - 1 : Nat) : Int), vi ((un : Int) + 1)]), some (rs 16 (va_up laws ((slot ((od + (dn - 1)) % 30)).toNat) (ahead ((od + (dn - 1)) % 30)))), some (ar 0 30 slot), some (rs 30 ahead), some (rs 30 made)] t mk df jo tr di mo dy) (by decide +kernel) rfl (by have := hs ((od + (dn - 1)) % 30); omega) (by have := hs ((od + (dn - 1)) % 30); omega) (fun x hx => ha.at hx) rfl ?_
  refine aw_blk (pc' := 57) (ls' := [some (vr 1 0), some (vi (((od + (dn - 1)) % 30 : Nat) : Int))]) (st' := [vi 1]) [.inl (.iconst 1)] 56 _ _ (by decide +kernel) rfl ?_
  exact aw_zret (by decide +kernel) rfl (by decide) (by decide) (by omega) ⟨rfl, rfl⟩

theorem m_S_doAgain_0 (h0 : un < 1) (hd : dn ≤ 30) (hu : un ≤ 30) : ADet G M_S_doAgain [vr 1 0] (Hp b (sgS laws slot ahead made (od : Int) (dn : Int) (un : Int)) t mk df jo tr di mo dy) (some (vi 0)) (Hp b (sgS laws slot ahead made (od : Int) (dn : Int) (un : Int)) t mk df jo tr di mo dy) := by
  refine am_entry (by decide +kernel) (Nat.le_of_ble_eq_true rfl) ?_
  refine aw_blk (pc' := 5) (ls' := [some (vr 1 0), none]) (st' := [vi 1, vi (un : Int)]) [.inl (.aload_n 0), .inr (34, 1, 6), .inl (.iconst 1)] 0 _ _ (by decide +kernel) rfl ?_
  refine aw_icmp_ge (o := 5) (tgt := 10) (by decide +kernel) (by decide) (by omega) (by omega) (fun c => absurd c (by omega)) (fun _ => ?_)
  refine aw_blk (pc' := 9) (ls' := [some (vr 1 0), none]) (st' := [vi 0]) [.inl (.iconst 0)] 8 _ _ (by decide +kernel) rfl ?_
  exact aw_zret (by decide +kernel) rfl (by decide) (by decide) (by omega) ⟨rfl, rfl⟩

theorem m_S_doAgain_1 (h0 : 1 ≤ un) (ho : od < 30) (hd : dn ≤ 30) (hu : un ≤ 30) (hs : ∀ i, 0 ≤ slot i ∧ slot i < 16) (hm : lwOK dy made) : ADet G M_S_doAgain [vr 1 0] (Hp b (sgS laws slot ahead made (od : Int) (dn : Int) (un : Int)) t mk df jo tr di mo dy) (some (vi 1)) (Hp b (sgS (va_up laws (slot ((od + dn) % 30)).toNat (made ((od + dn) % 30))) slot ahead made (od : Int) ((dn : Int) + 1) ((un : Int) - 1)) t mk df jo tr di mo dy) := by
  refine am_entry (by decide +kernel) (Nat.le_of_ble_eq_true rfl) ?_
  refine aw_blk (pc' := 5) (ls' := [some (vr 1 0), none]) (st' := [vi 1, vi (un : Int)]) [.inl (.aload_n 0), .inr (34, 1, 6), .inl (.iconst 1)] 0 _ _ (by decide +kernel) rfl ?_
  refine aw_icmp_ge (o := 5) (tgt := 10) (by decide +kernel) (by decide) (by omega) (by omega) (fun _ => ?_) (fun c => absurd (by omega) c)
  refine aw_blk (pc' := 15) (ls' := [some (vr 1 0), none]) (st' := [vi (dn : Int), vr 1 0]) [.inl (.aload_n 0), .inl (.aload_n 0), .inr (31, 1, 5)] 10 _ _ (by decide +kernel) rfl ?_
  refine aw_dV (cs' := 0) (sl' := 0) (pc' := 18) (st' := [vi (((od + dn) % 30 : Nat) : Int)]) (idx := 41) (as := [vi (dn : Int)]) (st := []) (m_S_placeOfAct ho (by omega)) (by decide +kernel) (show vOK "ChanceBench$Shelf" 41 M_S_placeOfAct 1 = true by decide +kernel) rfl rfl rfl (Nat.le_of_ble_eq_true rfl) (by decide) (by decide) (by decide) rfl rfl rfl rfl ?_
  refine aw_blk (pc' := 28) (ls' := [some (vr 1 0), some (vi (((od + dn) % 30 : Nat) : Int))]) (st' := [vi (((od + dn) % 30 : Nat) : Int), vr 1 2, vr 1 1]) [.inl (.istore_n 1), .inl (.aload_n 0), .inr (11, 1, 0), .inl (.aload_n 0), .inr (17, 1, 1), .inl (.iload_n 1)] 18 _ _ (by decide +kernel) rfl ?_
  refine aw_iald (j := (od + dn) % 30) (by decide +kernel) rfl rfl (by omega) (fun r28 => ?_)
  refine aw_blk (pc' := 34) (ls' := [some (vr 1 0), some (vi (((od + dn) % 30 : Nat) : Int))]) (st' := [vi (((od + dn) % 30 : Nat) : Int), vr 1 4, vi (slot ((od + dn) % 30)), vr 1 1]) [.inl (.aload_n 0), .inr (24, 1, 3), .inl (.iload_n 1)] 29 _ _ (by decide +kernel) rfl ?_
  refine aw_aald (j := (od + dn) % 30) (by decide +kernel) rfl rfl (by omega) ?_
  refine aw_aast (j := (slot ((od + dn) % 30)).toNat) (h' := Hp b [some (ob 1 [vr 1 1, vr 1 2, vr 1 3, vr 1 4, vi (od : Int), vi (dn : Int), vi (un : Int)]), some (rs 16 (va_up laws ((slot ((od + dn) % 30)).toNat) (made ((od + dn) % 30)))), some (ar 0 30 slot), some (rs 30 ahead), some (rs 30 made)] t mk df jo tr di mo dy) (by decide +kernel) rfl (by have := hs ((od + dn) % 30); omega) (by have := hs ((od + dn) % 30); omega) (fun x hx => hm.at hx) rfl ?_
  refine aw_blk (pc' := 43) (ls' := [some (vr 1 0), some (vi (((od + dn) % 30 : Nat) : Int))]) (st' := [vi ((dn : Int) + 1), vr 1 0]) [.inl (.aload_n 0), .inl (.dup), .inr (31, 1, 5), .inl (.iconst 1), .inl (.iadd)] 36 _ _ (by decide +kernel) rfl ?_
  refine aw_put (idx := 31) (ci := 1) (k := 5) (h' := Hp b [some (ob 1 [vr 1 1, vr 1 2, vr 1 3, vr 1 4, vi (od : Int), vi ((dn : Int) + 1), vi (un : Int)]), some (rs 16 (va_up laws ((slot ((od + dn) % 30)).toNat) (made ((od + dn) % 30)))), some (ar 0 30 slot), some (rs 30 ahead), some (rs 30 made)] t mk df jo tr di mo dy) (by decide +kernel) (by decide +kernel) rfl (Nat.le_of_ble_eq_true rfl) (show I32 _ from by omega) rfl ?_
  refine aw_blk (pc' := 53) (ls' := [some (vr 1 0), some (vi (((od + dn) % 30 : Nat) : Int))]) (st' := [vi ((un : Int) - 1), vr 1 0]) [.inl (.aload_n 0), .inl (.dup), .inr (34, 1, 6), .inl (.iconst 1), .inl (.isub)] 46 _ _ (by decide +kernel) rfl ?_
  refine aw_put (idx := 34) (ci := 1) (k := 6) (h' := Hp b [some (ob 1 [vr 1 1, vr 1 2, vr 1 3, vr 1 4, vi (od : Int), vi ((dn : Int) + 1), vi ((un : Int) - 1)]), some (rs 16 (va_up laws ((slot ((od + dn) % 30)).toNat) (made ((od + dn) % 30)))), some (ar 0 30 slot), some (rs 30 ahead), some (rs 30 made)] t mk df jo tr di mo dy) (by decide +kernel) (by decide +kernel) rfl (Nat.le_of_ble_eq_true rfl) (show I32 _ from by omega) rfl ?_
  refine aw_blk (pc' := 57) (ls' := [some (vr 1 0), some (vi (((od + dn) % 30 : Nat) : Int))]) (st' := [vi 1]) [.inl (.iconst 1)] 56 _ _ (by decide +kernel) rfl ?_
  exact aw_zret (by decide +kernel) rfl (by decide) (by decide) (by omega) ⟨rfl, rfl⟩

end
