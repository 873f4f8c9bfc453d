section
variable {G : GT} {h : HT} {b s t mk df jo tr di mo dy : SG} {a c : Int} {len : Int} {f : Nat → Int}
theorem m_B_isWithin {d : Int} (ha : I32 a) (hc : I32 c) (hd : I32 d) : ADet G M_B_isWithin [vi a, vi c, vi d] h (some (vi (if c ≤ a ∧ a ≤ d then 1 else 0))) h := by
  refine am_entry (by decide +kernel) (Nat.le_of_ble_eq_true rfl) ?_
  refine aw_blk (pc' := 2) (ls' := [some (vi a), some (vi c), some (vi d)]) (st' := [vi c, vi a]) [.inl (.iload_n 0), .inl (.iload_n 1)] 0 _ _ (by decide +kernel) rfl ?_
  refine aw_icmp_lt (o := 12) (tgt := 14) (by decide +kernel) (by decide) (by omega) (by omega) (fun c2 => ?_) (fun c2 => ?_)
  · refine aw_blk (pc' := 15) (ls' := [some (vi a), some (vi c), some (vi d)]) (st' := [vi 0]) [.inl (.iconst 0)] 14 _ _ (by decide +kernel) rfl ?_
    exact aw_zret (by decide +kernel) rfl (by decide) (by decide) (by omega) ⟨by rw [if_neg (by omega)], rfl⟩
  · refine aw_blk (pc' := 7) (ls' := [some (vi a), some (vi c), some (vi d)]) (st' := [vi d, vi a]) [.inl (.iload_n 0), .inl (.iload_n 2)] 5 _ _ (by decide +kernel) rfl ?_
    refine aw_icmp_gt (o := 7) (tgt := 14) (by decide +kernel) (by decide) (by omega) (by omega) (fun c7 => ?_) (fun c7 => ?_)
    · refine aw_blk (pc' := 15) (ls' := [some (vi a), some (vi c), some (vi d)]) (st' := [vi 0]) [.inl (.iconst 0)] 14 _ _ (by decide +kernel) rfl ?_
      exact aw_zret (by decide +kernel) rfl (by decide) (by decide) (by omega) ⟨by rw [if_neg (by omega)], rfl⟩
    · refine aw_blk (pc' := 11) (ls' := [some (vi a), some (vi c), some (vi d)]) (st' := [vi 1]) [.inl (.iconst 1)] 10 _ _ (by decide +kernel) rfl ?_
      refine aw_goto (o := 4) (tgt := 15) (by decide +kernel) (by decide) ?_
      exact aw_zret (by decide +kernel) rfl (by decide) (by decide) (by omega) ⟨by rw [if_pos (by omega)], rfl⟩

abbrev sgT (len : Int) (f : Nat → Int) : SG := [some (ob 2 [vr 2 1, vi len]), some (ar 0 200 f)]
theorem m_T_hasRoom (h0 : 0 ≤ len) (h1 : len ≤ 200) : ADet G M_T_hasRoom [vr 2 0] (Hp b s (sgT len f) mk df jo tr di mo dy) (some (vi (if len + 20 ≤ 200 then 1 else 0))) (Hp b s (sgT len f) mk df jo tr di mo dy) := by
  refine am_entry (by decide +kernel) (Nat.le_of_ble_eq_true rfl) ?_
  refine aw_blk (pc' := 10) (ls' := [some (vr 2 0)]) (st' := [vi 200, vi (len + 20)]) [.inl (.aload_n 0), .inr (13, 2, 1), .inl (.bipush 20), .inl (.iadd), .inl (.sipush 200)] 0 _ _ (by decide +kernel) rfl ?_
  refine aw_icmp_gt (o := 7) (tgt := 17) (by decide +kernel) (by decide) (by omega) (by omega) (fun c10 => ?_) (fun c10 => ?_)
  · refine aw_blk (pc' := 18) (ls' := [some (vr 2 0)]) (st' := [vi 0]) [.inl (.iconst 0)] 17 _ _ (by decide +kernel) rfl ?_
    exact aw_zret (by decide +kernel) rfl (by decide) (by decide) (by omega) ⟨by rw [if_neg (by omega)], rfl⟩
  · refine aw_blk (pc' := 14) (ls' := [some (vr 2 0)]) (st' := [vi 1]) [.inl (.iconst 1)] 13 _ _ (by decide +kernel) rfl ?_
    refine aw_goto (o := 4) (tgt := 18) (by decide +kernel) (by decide) ?_
    exact aw_zret (by decide +kernel) rfl (by decide) (by decide) (by omega) ⟨by rw [if_pos (by omega)], rfl⟩

theorem m_T_empty : ADet G M_T_empty [vr 2 0] (Hp b s (sgT len f) mk df jo tr di mo dy) none (Hp b s (sgT 0 f) mk df jo tr di mo dy) := by
  refine am_entry (by decide +kernel) (Nat.le_of_ble_eq_true rfl) ?_
  refine aw_blk (pc' := 2) (ls' := [some (vr 2 0)]) (st' := [vi 0, vr 2 0]) [.inl (.aload_n 0), .inl (.iconst 0)] 0 _ _ (by decide +kernel) rfl ?_
  refine aw_put (idx := 13) (ci := 2) (k := 1) (h' := Hp b s [some (ob 2 [vr 2 1, vi 0]), some (ar 0 200 f)] mk df jo tr di mo dy) (by decide +kernel) (by decide +kernel) rfl (Nat.le_of_ble_eq_true rfl) (show I32 _ from by omega) rfl ?_
  exact aw_vret (by decide +kernel) rfl (by decide) (by decide) ⟨rfl, rfl⟩

theorem m_T_cut (ha : I32 a) (h0 : 0 ≤ len) (h1 : len ≤ 200) : ADet G M_T_cut [vr 2 0, vi a] (Hp b s (sgT len f) mk df jo tr di mo dy) (some (vi (if 0 ≤ a ∧ a ≤ len then 1 else 0))) (Hp b s (sgT (if 0 ≤ a ∧ a ≤ len then a else len) f) mk df jo tr di mo dy) := by
  refine am_entry (by decide +kernel) (Nat.le_of_ble_eq_true rfl) ?_
  refine aw_blk (pc' := 1) (ls' := [some (vr 2 0), some (vi a)]) (st' := [vi a]) [.inl (.iload_n 1)] 0 _ _ (by decide +kernel) rfl ?_
  refine aw_if_lt (o := 11) (tgt := 12) (by decide +kernel) (by decide) (by omega) (fun c1 => ?_) (fun c1 => ?_)
  · refine aw_blk (pc' := 13) (ls' := [some (vr 2 0), some (vi a)]) (st' := [vi 0]) [.inl (.iconst 0)] 12 _ _ (by decide +kernel) rfl ?_
    exact aw_zret (by decide +kernel) rfl (by decide) (by decide) (by omega) ⟨by rw [if_neg (by omega)], by rw [if_neg (by omega)]⟩
  · refine aw_blk (pc' := 9) (ls' := [some (vr 2 0), some (vi a)]) (st' := [vi len, vi a]) [.inl (.iload_n 1), .inl (.aload_n 0), .inr (13, 2, 1)] 4 _ _ (by decide +kernel) rfl ?_
    refine aw_icmp_le (o := 5) (tgt := 14) (by decide +kernel) (by decide) (by omega) (by omega) (fun c9 => ?_) (fun c9 => ?_)
    · refine aw_blk (pc' := 16) (ls' := [some (vr 2 0), some (vi a)]) (st' := [vi a, vr 2 0]) [.inl (.aload_n 0), .inl (.iload_n 1)] 14 _ _ (by decide +kernel) rfl ?_
      refine aw_put (idx := 13) (ci := 2) (k := 1) (h' := Hp b s [some (ob 2 [vr 2 1, vi a]), some (ar 0 200 f)] mk df jo tr di mo dy) (by decide +kernel) (by decide +kernel) rfl (Nat.le_of_ble_eq_true rfl) (show I32 _ from by omega) rfl ?_
      refine aw_blk (pc' := 20) (ls' := [some (vr 2 0), some (vi a)]) (st' := [vi 1]) [.inl (.iconst 1)] 19 _ _ (by decide +kernel) rfl ?_
      exact aw_zret (by decide +kernel) rfl (by decide) (by decide) (by omega) ⟨by rw [if_pos (by omega)], by rw [if_pos (by omega)]⟩
    · refine aw_blk (pc' := 13) (ls' := [some (vr 2 0), some (vi a)]) (st' := [vi 0]) [.inl (.iconst 0)] 12 _ _ (by decide +kernel) rfl ?_
      exact aw_zret (by decide +kernel) rfl (by decide) (by decide) (by omega) ⟨by rw [if_neg (by omega)], by rw [if_neg (by omega)]⟩

theorem m_T_byteAt (ha : I32 a) (h0 : 0 ≤ len) (h1 : len ≤ 200) : ADet G M_T_byteAt [vr 2 0, vi a] (Hp b s (sgT len f) mk df jo tr di mo dy) (some (vi (if 0 ≤ a ∧ a < len then f a.toNat else 0))) (Hp b s (sgT len f) mk df jo tr di mo dy) := by
  refine am_entry (by decide +kernel) (Nat.le_of_ble_eq_true rfl) ?_
  refine aw_blk (pc' := 1) (ls' := [some (vr 2 0), some (vi a)]) (st' := [vi a]) [.inl (.iload_n 1)] 0 _ _ (by decide +kernel) rfl ?_
  refine aw_if_lt (o := 20) (tgt := 21) (by decide +kernel) (by decide) (by omega) (fun c1 => ?_) (fun c1 => ?_)
  · refine aw_blk (pc' := 22) (ls' := [some (vr 2 0), some (vi a)]) (st' := [vi 0]) [.inl (.iconst 0)] 21 _ _ (by decide +kernel) rfl ?_
    exact aw_iret (by decide +kernel) rfl (by decide) (by decide) ⟨by rw [if_neg (by omega)], rfl⟩
  · refine aw_blk (pc' := 9) (ls' := [some (vr 2 0), some (vi a)]) (st' := [vi len, vi a]) [.inl (.iload_n 1), .inl (.aload_n 0), .inr (13, 2, 1)] 4 _ _ (by decide +kernel) rfl ?_
    refine aw_icmp_ge (o := 12) (tgt := 21) (by decide +kernel) (by decide) (by omega) (by omega) (fun c9 => ?_) (fun c9 => ?_)
    · refine aw_blk (pc' := 22) (ls' := [some (vr 2 0), some (vi a)]) (st' := [vi 0]) [.inl (.iconst 0)] 21 _ _ (by decide +kernel) rfl ?_
      exact aw_iret (by decide +kernel) rfl (by decide) (by decide) ⟨by rw [if_neg (by omega)], rfl⟩
    · refine aw_blk (pc' := 17) (ls' := [some (vr 2 0), some (vi a)]) (st' := [vi a, vr 2 1]) [.inl (.aload_n 0), .inr (9, 2, 0), .inl (.iload_n 1)] 12 _ _ (by decide +kernel) rfl ?_
      refine aw_iald (j := a.toNat) (by decide +kernel) rfl (by omega) (by omega) (fun r17 => ?_)
      refine aw_goto (o := 4) (tgt := 22) (by decide +kernel) (by decide) ?_
      exact aw_iret (by decide +kernel) rfl (by decide) (by decide) ⟨by rw [if_pos (by omega)], rfl⟩

end
