abbrev sgD (len fd f1 f2 : Int) (kp fi se ta tl : Nat → Int) : SG := [some (ob 7 [vr 7 1, vr 7 2, vr 7 3, vr 7 4, vr 7 5, vi len, vi fd, vi f1, vi f2]), some (ar 0 3024 kp), some (ar 0 6 fi), some (ar 0 6 se), some (ar 0 24 ta), some (ar 0 24 tl)]
def lsI (tl : Nat → Int) : Nat → Nat → Int
  | 0, _ => -1
  | d + 1, k => if 0 < tl k then (k : Int) else lsI tl d (k + 1)
/-- how often u is among the first k sums with a -/
def hits (a : Int) (o : Nat → Int) (u : Int) (k : Nat) : Int := sumZ (fun j => if a + o j = u then 1 else 0) k
def dcr (tl ta : Nat → Int) (len : Nat) (a : Int) (o : Nat → Int) (k : Nat) : Nat → Int := fun i => if i < len then tl i - hits a o (ta i) k else tl i
def icr (tl ta : Nat → Int) (len : Nat) (a : Int) (o : Nat → Int) (k : Nat) : Nat → Int := fun i => if i < len then tl i + hits a o (ta i) k else tl i
def tkOK (tl ta : Nat → Int) (len : Nat) (a : Int) (o : Nat → Int) (y : Nat) : Prop := ∀ k, k < y → ∃ i, i < len ∧ ta i = a + o k ∧ 1 ≤ dcr tl ta len a o k i
section
variable {tl ta o : Nat → Int} {len k : Nat} {a : Int}
theorem dcr_0 : dcr tl ta len a o 0 = tl := by funext i; unfold dcr hits; simp [sumZ]
theorem icr_0 : icr tl ta len a o 0 = tl := by funext i; unfold icr hits; simp [sumZ]
theorem icr_dcr : icr (dcr tl ta len a o k) ta len a o k = tl := by
  funext i
  unfold icr dcr
  by_cases h : i < len
  · simp only [if_pos h]; omega
  · simp only [if_neg h]
theorem hits_s (u : Int) : hits a o u (k + 1) = hits a o u k + (if a + o k = u then 1 else 0) := rfl
theorem dcr_s {i : Nat} (hs : inc ta len) (hi : i < len) (he : ta i = a + o k) : va_up (dcr tl ta len a o k) i (dcr tl ta len a o k i - 1) = dcr tl ta len a o (k + 1) := by
  funext j
  simp only [va_up]
  by_cases h : j = i
  · subst h
    rw [if_pos rfl]
    simp only [dcr, if_pos hi, hits_s, if_pos he.symm]; omega
  · rw [if_neg h]
    unfold dcr
    by_cases h2 : j < len
    · rw [if_pos h2, if_pos h2, hits_s, if_neg (fun e => ?_)]
      · omega
      · rcases Nat.lt_or_ge j i with z | z
        · have := hs j i z hi; omega
        · have := hs i j (by omega) h2; omega
    · rw [if_neg h2, if_neg h2]
theorem icr_s {i : Nat} (hs : inc ta len) (hi : i < len) (he : ta i = a + o k) : va_up (icr tl ta len a o k) i (icr tl ta len a o k i + 1) = icr tl ta len a o (k + 1) := by
  funext j
  simp only [va_up]
  by_cases h : j = i
  · subst h
    rw [if_pos rfl]
    simp only [icr, if_pos hi, hits_s, if_pos he.symm]; omega
  · rw [if_neg h]
    unfold icr
    by_cases h2 : j < len
    · rw [if_pos h2, if_pos h2, hits_s, if_neg (fun e => ?_)]
      · omega
      · rcases Nat.lt_or_ge j i with z | z
        · have := hs j i z hi; omega
        · have := hs i j (by omega) h2; omega
    · rw [if_neg h2, if_neg h2]
theorem icr_n (hs : ∀ i, i < len → ta i ≠ a + o k) : icr tl ta len a o k = icr tl ta len a o (k + 1) := by
  funext j
  unfold icr
  by_cases h2 : j < len
  · rw [if_pos h2, if_pos h2, hits_s, if_neg (fun e => hs j h2 e.symm)]; omega
  · rw [if_neg h2, if_neg h2]
theorem hits_in (u : Int) : ∀ k : Nat, 0 ≤ hits a o u k ∧ hits a o u k ≤ (k : Int)
  | 0 => by simp [hits, sumZ]
  | k + 1 => by have := hits_in u k; rw [hits_s]; split <;> omega
end
section
variable {G : GT} {h : HT} {b s t mk df jo tr di mo dy : SG} {a c d e B bd tk : Int} {n m k k1 k2 q q1 q2 j nn len : Nat} {f g ff gg ft at_ wt at2 wt2 : Nat → Int} {rf rr W W2 : Int} {T : Int → Int} {by_ : Prop} {laws ahead made : Nat → Option (Nat × Nat)} {slot : Nat → Int} {od dn un : Nat}
variable {kp fi se ta tl : Nat → Int} {fd f1 f2 : Int} {x y : Nat}
theorem m_D_found : ADet G M_D_found [vr 7 0] (Hp b s t mk df jo tr (sgD (len : Int) fd f1 f2 kp fi se ta tl) mo dy) (some (vi fd)) (Hp b s t mk df jo tr (sgD (len : Int) fd f1 f2 kp fi se ta tl) mo dy) := by
  refine am_det (by decide +kernel) (Nat.le_of_ble_eq_true rfl) (fun Qr Qt hq => ?_)
  refine aw_blk (pc' := 4) (ls' := [some (vr 7 0)]) (st' := [vi fd]) [.inl (.aload_n 0), .inr (31, 7, 6)] 0 _ _ (by decide +kernel) rfl ?_
  exact aw_iret (by decide +kernel) rfl (by decide) (by decide) (hq _ _ rfl rfl)

theorem m_D_hasFace (hI : I32 a ∧ I32 c ∧ I32 d) (hF : I32 fd ∧ I32 f1 ∧ I32 f2) : ADet G M_D_hasFace [vr 7 0, vi a, vi c, vi d] (Hp b s t mk df jo tr (sgD (len : Int) fd f1 f2 kp fi se ta tl) mo dy) (some (vi (if (0 ≤ a ∧ a < fd) ∧ 0 ≤ d ∧ ((c = 0 ∧ d < f1) ∨ (c = 1 ∧ d < f2)) then 1 else 0))) (Hp b s t mk df jo tr (sgD (len : Int) fd f1 f2 kp fi se ta tl) mo dy) := by
  refine am_det (by decide +kernel) (Nat.le_of_ble_eq_true rfl) (fun Qr Qt hq => ?_)
  refine aw_blk (pc' := 1) (ls' := [some (vr 7 0), some (vi a), some (vi c), some (vi d)]) (st' := [vi a]) [.inl (.iload_n 1)] 0 _ _ (by decide +kernel) rfl ?_
  refine aw_if_lt (o := 15) (tgt := 16) (by decide +kernel) (by decide) (by omega) (fun c1 => ?_) (fun c1 => ?_)
  · refine aw_blk (pc' := 17) (ls' := [some (vr 7 0), some (vi a), some (vi c), some (vi d)]) (st' := [vi 0]) [.inl (.iconst 0)] 16 _ _ (by decide +kernel) rfl ?_
    exact aw_zret (by decide +kernel) rfl (by decide) (by decide) (by omega) (hq _ _ (by rw [if_neg (by omega)]) rfl)
  · refine aw_blk (pc' := 9) (ls' := [some (vr 7 0), some (vi a), some (vi c), some (vi d)]) (st' := [vi fd, vi a]) [.inl (.iload_n 1), .inl (.aload_n 0), .inr (31, 7, 6)] 4 _ _ (by decide +kernel) rfl ?_
    refine aw_icmp_ge (o := 7) (tgt := 16) (by decide +kernel) (by decide) (by omega) (by omega) (fun c9 => ?_) (fun c9 => ?_)
    · refine aw_blk (pc' := 17) (ls' := [some (vr 7 0), some (vi a), some (vi c), some (vi d)]) (st' := [vi 0]) [.inl (.iconst 0)] 16 _ _ (by decide +kernel) rfl ?_
      exact aw_zret (by decide +kernel) rfl (by decide) (by decide) (by omega) (hq _ _ (by rw [if_neg (by omega)]) rfl)
    · refine aw_blk (pc' := 13) (ls' := [some (vr 7 0), some (vi a), some (vi c), some (vi d)]) (st' := [vi d]) [.inl (.iload_n 3)] 12 _ _ (by decide +kernel) rfl ?_
      refine aw_if_ge (o := 5) (tgt := 18) (by decide +kernel) (by decide) (by omega) (fun c13 => ?_) (fun c13 => ?_)
      · refine aw_blk (pc' := 19) (ls' := [some (vr 7 0), some (vi a), some (vi c), some (vi d)]) (st' := [vi c]) [.inl (.iload_n 2)] 18 _ _ (by decide +kernel) rfl ?_
        refine aw_if_ne (o := 11) (tgt := 30) (by decide +kernel) (by decide) (by omega) (fun c19 => ?_) (fun c19 => ?_)
        · refine aw_blk (pc' := 32) (ls' := [some (vr 7 0), some (vi a), some (vi c), some (vi d)]) (st' := [vi 1, vi c]) [.inl (.iload_n 2), .inl (.iconst 1)] 30 _ _ (by decide +kernel) rfl ?_
          refine aw_icmp_ne (o := 15) (tgt := 47) (by decide +kernel) (by decide) (by omega) (by omega) (fun c32 => ?_) (fun c32 => ?_)
          · refine aw_blk (pc' := 48) (ls' := [some (vr 7 0), some (vi a), some (vi c), some (vi d)]) (st' := [vi 0]) [.inl (.iconst 0)] 47 _ _ (by decide +kernel) rfl ?_
            exact aw_zret (by decide +kernel) rfl (by decide) (by decide) (by omega) (hq _ _ (by rw [if_neg (by omega)]) rfl)
          · refine aw_blk (pc' := 40) (ls' := [some (vr 7 0), some (vi a), some (vi c), some (vi d)]) (st' := [vi f2, vi d]) [.inl (.iload_n 3), .inl (.aload_n 0), .inr (37, 7, 8)] 35 _ _ (by decide +kernel) rfl ?_
            refine aw_icmp_ge (o := 7) (tgt := 47) (by decide +kernel) (by decide) (by omega) (by omega) (fun c40 => ?_) (fun c40 => ?_)
            · refine aw_blk (pc' := 48) (ls' := [some (vr 7 0), some (vi a), some (vi c), some (vi d)]) (st' := [vi 0]) [.inl (.iconst 0)] 47 _ _ (by decide +kernel) rfl ?_
              exact aw_zret (by decide +kernel) rfl (by decide) (by decide) (by omega) (hq _ _ (by rw [if_neg (by omega)]) rfl)
            · refine aw_blk (pc' := 44) (ls' := [some (vr 7 0), some (vi a), some (vi c), some (vi d)]) (st' := [vi 1]) [.inl (.iconst 1)] 43 _ _ (by decide +kernel) rfl ?_
              refine aw_goto (o := 4) (tgt := 48) (by decide +kernel) (by decide) ?_
              exact aw_zret (by decide +kernel) rfl (by decide) (by decide) (by omega) (hq _ _ (by rw [if_pos (by omega)]) rfl)
        · refine aw_blk (pc' := 27) (ls' := [some (vr 7 0), some (vi a), some (vi c), some (vi d)]) (st' := [vi f1, vi d]) [.inl (.iload_n 3), .inl (.aload_n 0), .inr (34, 7, 7)] 22 _ _ (by decide +kernel) rfl ?_
          refine aw_icmp_lt (o := 16) (tgt := 43) (by decide +kernel) (by decide) (by omega) (by omega) (fun c27 => ?_) (fun c27 => ?_)
          · refine aw_blk (pc' := 44) (ls' := [some (vr 7 0), some (vi a), some (vi c), some (vi d)]) (st' := [vi 1]) [.inl (.iconst 1)] 43 _ _ (by decide +kernel) rfl ?_
            refine aw_goto (o := 4) (tgt := 48) (by decide +kernel) (by decide) ?_
            exact aw_zret (by decide +kernel) rfl (by decide) (by decide) (by omega) (hq _ _ (by rw [if_pos (by omega)]) rfl)
          · refine aw_blk (pc' := 32) (ls' := [some (vr 7 0), some (vi a), some (vi c), some (vi d)]) (st' := [vi 1, vi c]) [.inl (.iload_n 2), .inl (.iconst 1)] 30 _ _ (by decide +kernel) rfl ?_
            refine aw_icmp_ne (o := 15) (tgt := 47) (by decide +kernel) (by decide) (by omega) (by omega) (fun c32 => ?_) (fun c32 => ?_)
            · refine aw_blk (pc' := 48) (ls' := [some (vr 7 0), some (vi a), some (vi c), some (vi d)]) (st' := [vi 0]) [.inl (.iconst 0)] 47 _ _ (by decide +kernel) rfl ?_
              exact aw_zret (by decide +kernel) rfl (by decide) (by decide) (by omega) (hq _ _ (by rw [if_neg (by omega)]) rfl)
            · refine aw_blk (pc' := 40) (ls' := [some (vr 7 0), some (vi a), some (vi c), some (vi d)]) (st' := [vi f2, vi d]) [.inl (.iload_n 3), .inl (.aload_n 0), .inr (37, 7, 8)] 35 _ _ (by decide +kernel) rfl ?_
              refine aw_icmp_ge (o := 7) (tgt := 47) (by decide +kernel) (by decide) (by omega) (by omega) (fun c40 => ?_) (fun c40 => ?_)
              · refine aw_blk (pc' := 48) (ls' := [some (vr 7 0), some (vi a), some (vi c), some (vi d)]) (st' := [vi 0]) [.inl (.iconst 0)] 47 _ _ (by decide +kernel) rfl ?_
                exact aw_zret (by decide +kernel) rfl (by decide) (by decide) (by omega) (hq _ _ (by rw [if_neg (by omega)]) rfl)
              · refine aw_blk (pc' := 44) (ls' := [some (vr 7 0), some (vi a), some (vi c), some (vi d)]) (st' := [vi 1]) [.inl (.iconst 1)] 43 _ _ (by decide +kernel) rfl ?_
                refine aw_goto (o := 4) (tgt := 48) (by decide +kernel) (by decide) ?_
                exact aw_zret (by decide +kernel) rfl (by decide) (by decide) (by omega) (hq _ _ (by rw [if_pos (by omega)]) rfl)
      · refine aw_blk (pc' := 17) (ls' := [some (vr 7 0), some (vi a), some (vi c), some (vi d)]) (st' := [vi 0]) [.inl (.iconst 0)] 16 _ _ (by decide +kernel) rfl ?_
        exact aw_zret (by decide +kernel) rfl (by decide) (by decide) (by omega) (hq _ _ (by rw [if_neg (by omega)]) rfl)

theorem m_D_faceOf (hf : (0 ≤ a ∧ a < fd) ∧ 0 ≤ d ∧ ((c = 0 ∧ d < f1) ∨ (c = 1 ∧ d < f2))) (hF : fd ≤ 252 ∧ f1 ≤ 6 ∧ f2 ≤ 6 ∧ 0 ≤ f1 ∧ 0 ≤ f2) : ADet G M_D_faceOf [vr 7 0, vi a, vi c, vi d] (Hp b s t mk df jo tr (sgD (len : Int) fd f1 f2 kp fi se ta tl) mo dy) (some (vi (kp (a * 12 + c * 6 + d).toNat))) (Hp b s t mk df jo tr (sgD (len : Int) fd f1 f2 kp fi se ta tl) mo dy) := by
  refine am_det (by decide +kernel) (Nat.le_of_ble_eq_true rfl) (fun Qr Qt hq => ?_)
  refine aw_blk (pc' := 4) (ls' := [some (vr 7 0), some (vi a), some (vi c), some (vi d)]) (st' := [vi d, vi c, vi a, vr 7 0]) [.inl (.aload_n 0), .inl (.iload_n 1), .inl (.iload_n 2), .inl (.iload_n 3)] 0 _ _ (by decide +kernel) rfl ?_
  refine aw_dV (cs' := 0) (sl' := 0) (pc' := 7) (st' := [vi (if (0 ≤ a ∧ a < fd) ∧ 0 ≤ d ∧ ((c = 0 ∧ d < f1) ∨ (c = 1 ∧ d < f2)) then 1 else 0)]) (idx := 40) (as := [vi a, vi c, vi d]) (st := []) (m_D_hasFace (by omega) (by omega)) (by decide +kernel) (show vOK "ChanceBench$Dice" 40 M_D_hasFace 3 = true by decide +kernel) rfl rfl rfl (Nat.le_of_ble_eq_true rfl) (by decide) (by decide) (by decide) rfl rfl rfl rfl ?_
  rw [if_pos hf]
  refine aw_if_eq (o := 22) (tgt := 29) (by decide +kernel) (by decide) (by omega) (fun c => absurd c (by omega)) (fun _ => ?_)
  refine aw_blk (pc' := 25) (ls' := [some (vr 7 0), some (vi a), some (vi c), some (vi d)]) (st' := [vi (((a * 12) + (c * 6)) + d), vr 7 1]) [.inl (.aload_n 0), .inr (11, 7, 0), .inl (.iload_n 1), .inl (.bipush 12), .inl (.imul), .inl (.iload_n 2), .inl (.bipush 6), .inl (.imul), .inl (.iadd), .inl (.iload_n 3), .inl (.iadd)] 10 _ _ (by decide +kernel) rfl ?_
  refine aw_iald (j := (a * 12 + c * 6 + d).toNat) (by decide +kernel) rfl (by omega) (by omega) (fun r25 => ?_)
  refine aw_goto (o := 4) (tgt := 30) (by decide +kernel) (by decide) ?_
  exact aw_iret (by decide +kernel) rfl (by decide) (by decide) (hq _ _ rfl rfl)

theorem m_D_indexOfThrow (hln : len ≤ 24) (hs : inc ta len) (ha : I32 a) : ADet G M_D_indexOfThrow [vr 7 0, vi a] (Hp b s t mk df jo tr (sgD (len : Int) fd f1 f2 kp fi se ta tl) mo dy) (some (vi (ixO ta len a))) (Hp b s t mk df jo tr (sgD (len : Int) fd f1 f2 kp fi se ta tl) mo dy) := by
  refine am_det (by decide +kernel) (Nat.le_of_ble_eq_true rfl) (fun Qr Qt hq => ?_)
  have hl := lb_le ta a len
  refine aw_blk (pc' := 9) (ls' := [some (vr 7 0), some (vi a), none]) (st' := [vi a, vi (len : Int), vr 7 4]) [.inl (.aload_n 0), .inr (21, 7, 3), .inl (.aload_n 0), .inr (27, 7, 5), .inl (.iload_n 1)] 0 _ _ (by decide +kernel) rfl ?_
  refine aw_dSN (cs' := 0) (sl' := 0) (pc' := 12) (st' := [vi ((lb ta a len : Nat) : Int)]) (idx := 84) (as := [vr 7 4, vi (len : Int), vi a]) (st := []) (m_B_placeIn (n := 24) rfl hln (by omega) hs ha) (by decide +kernel) (show snOK "ChanceBench$Dice" 84 M_B_placeIn 3 = true by decide +kernel) rfl (Nat.le_of_ble_eq_true rfl) (by decide) (by decide) (by decide) rfl rfl rfl rfl ?_
  refine aw_blk (pc' := 18) (ls' := [some (vr 7 0), some (vi a), some (vi ((lb ta a len : Nat) : Int))]) (st' := [vi (len : Int), vi ((lb ta a len : Nat) : Int)]) [.inl (.istore_n 2), .inl (.iload_n 2), .inl (.aload_n 0), .inr (27, 7, 5)] 12 _ _ (by decide +kernel) rfl ?_
  refine aw_icmp_ge (o := 17) (tgt := 35) (by decide +kernel) (by decide) (by omega) (by omega) (fun c18 => ?_) (fun c18 => ?_)
  · refine aw_blk (pc' := 36) (ls' := [some (vr 7 0), some (vi a), some (vi ((lb ta a len : Nat) : Int))]) (st' := [vi (-1)]) [.inl (.iconst (-1))] 35 _ _ (by decide +kernel) rfl ?_
    exact aw_iret (by decide +kernel) rfl (by decide) (by decide) (hq _ _ (by unfold ixO; rw [if_neg (by omega)]) rfl)
  · refine aw_blk (pc' := 26) (ls' := [some (vr 7 0), some (vi a), some (vi ((lb ta a len : Nat) : Int))]) (st' := [vi ((lb ta a len : Nat) : Int), vr 7 4]) [.inl (.aload_n 0), .inr (21, 7, 3), .inl (.iload_n 2)] 21 _ _ (by decide +kernel) rfl ?_
    refine aw_iald (j := lb ta a len) (by decide +kernel) rfl rfl (by omega) (fun r26 => ?_)
    refine aw_blk (pc' := 28) (ls' := [some (vr 7 0), some (vi a), some (vi ((lb ta a len : Nat) : Int))]) (st' := [vi a, vi (ta (lb ta a len))]) [.inl (.iload_n 1)] 27 _ _ (by decide +kernel) rfl ?_
    refine aw_icmp_ne (o := 7) (tgt := 35) (by decide +kernel) (by decide) (by omega) (by omega) (fun c28 => ?_) (fun c28 => ?_)
    · refine aw_blk (pc' := 36) (ls' := [some (vr 7 0), some (vi a), some (vi ((lb ta a len : Nat) : Int))]) (st' := [vi (-1)]) [.inl (.iconst (-1))] 35 _ _ (by decide +kernel) rfl ?_
      exact aw_iret (by decide +kernel) rfl (by decide) (by decide) (hq _ _ (by unfold ixO; rw [if_neg (by omega)]) rfl)
    · refine aw_blk (pc' := 32) (ls' := [some (vr 7 0), some (vi a), some (vi ((lb ta a len : Nat) : Int))]) (st' := [vi ((lb ta a len : Nat) : Int)]) [.inl (.iload_n 2)] 31 _ _ (by decide +kernel) rfl ?_
      refine aw_goto (o := 4) (tgt := 36) (by decide +kernel) (by decide) ?_
      exact aw_iret (by decide +kernel) rfl (by decide) (by decide) (hq _ _ (by unfold ixO; rw [if_pos (by omega)]) rfl)

theorem l_D_ls {Qr : Option AV → HT → Prop} {Qt : HT → Prop} (hln : len ≤ 24) : ∀ (e k : Nat), k + e = len → (∀ z g, z = some (vi (lsI tl e k)) → g = Hp b s t mk df jo tr (sgD (len : Int) fd f1 f2 kp fi se ta tl) mo dy → Qr z g) → AW G M_D_leastThrowLeft Qr Qt 0 0 2 [some (vr 7 0), some (vi (k : Int))] [] (Hp b s t mk df jo tr (sgD (len : Int) fd f1 f2 kp fi se ta tl) mo dy) := by
  intro e
  induction e with
  | zero =>
    intro k he hq
    have hk : k = len := by omega
    subst hk
    refine aw_blk (pc' := 7) (ls' := [some (vr 7 0), some (vi (k : Int))]) (st' := [vi (k : Int), vi (k : Int)]) [.inl (.iload_n 1), .inl (.aload_n 0), .inr (27, 7, 5)] 2 _ _ (by decide +kernel) rfl ?_
    refine aw_icmp_ge (o := 20) (tgt := 27) (by decide +kernel) (by decide) (by omega) (by omega) (fun _ => ?_) (fun c => absurd (by omega) c)
    refine aw_blk (pc' := 28) (ls' := [some (vr 7 0), some (vi (k : Int))]) (st' := [vi (-1)]) [.inl (.iconst (-1))] 27 _ _ (by decide +kernel) rfl ?_
    exact aw_iret (by decide +kernel) rfl (by decide) (by decide) (hq _ _ rfl rfl)
  | succ e ih =>
    intro k he hq
    refine aw_blk (pc' := 7) (ls' := [some (vr 7 0), some (vi (k : Int))]) (st' := [vi (len : Int), vi (k : Int)]) [.inl (.iload_n 1), .inl (.aload_n 0), .inr (27, 7, 5)] 2 _ _ (by decide +kernel) rfl ?_
    refine aw_icmp_ge (o := 20) (tgt := 27) (by decide +kernel) (by decide) (by omega) (by omega) (fun c => absurd c (by omega)) (fun _ => ?_)
    refine aw_blk (pc' := 15) (ls' := [some (vr 7 0), some (vi (k : Int))]) (st' := [vi (k : Int), vr 7 5]) [.inl (.aload_n 0), .inr (24, 7, 4), .inl (.iload_n 1)] 10 _ _ (by decide +kernel) rfl ?_
    refine aw_iald (j := k) (by decide +kernel) rfl (by omega) (by omega) (fun r15 => ?_)
    refine aw_if_le (o := 5) (tgt := 21) (by decide +kernel) (by decide) (by omega) (fun c16 => ?_) (fun c16 => ?_)
    · refine aw_blk (pc' := 24) (ls' := [some (vr 7 0), some (vi ((k : Int) + 1))]) (st' := []) [.inl (.iinc 1 1)] 21 _ _ (by decide +kernel) rfl ?_
      refine aw_goto (o := -22) (tgt := 2) (by decide +kernel) (by decide) ?_
      exact ih (k + 1) (by omega) (fun z g e1 e2 => hq z g (by rw [e1, lsI, if_neg (by omega)]) e2)
    · refine aw_blk (pc' := 20) (ls' := [some (vr 7 0), some (vi (k : Int))]) (st' := [vi (k : Int)]) [.inl (.iload_n 1)] 19 _ _ (by decide +kernel) rfl ?_
      exact aw_iret (by decide +kernel) rfl (by decide) (by decide) (hq _ _ (by rw [lsI, if_pos (by omega)]) rfl)
theorem m_D_leastThrowLeft (hln : len ≤ 24) : ADet G M_D_leastThrowLeft [vr 7 0] (Hp b s t mk df jo tr (sgD (len : Int) fd f1 f2 kp fi se ta tl) mo dy) (some (vi (lsI tl len 0))) (Hp b s t mk df jo tr (sgD (len : Int) fd f1 f2 kp fi se ta tl) mo dy) := by
  refine am_det (by decide +kernel) (Nat.le_of_ble_eq_true rfl) (fun Qr Qt hq => ?_)
  refine aw_blk (pc' := 2) (ls' := [some (vr 7 0), some (vi 0)]) (st' := []) [.inl (.iconst 0), .inl (.istore_n 1)] 0 _ _ (by decide +kernel) rfl ?_
  exact l_D_ls hln len 0 (by omega) hq

theorem m_D_giveBack_fi (hln : len ≤ 24) (hs : inc ta len) (ho : ∀ j, j < y → -1000000 ≤ fi j ∧ fi j ≤ 1000000) (ha : -1000000 ≤ a ∧ a ≤ 1000000) (hy : y ≤ 6) (htl : ∀ i, i < len → -1000000 ≤ tl i ∧ tl i ≤ 1000000) : ADet G M_D_giveBackThrows [vr 7 0, vi a, vr 7 2, vi (y : Int)] (Hp b s t mk df jo tr (sgD (len : Int) fd f1 f2 kp fi se ta tl) mo dy) none (Hp b s t mk df jo tr (sgD (len : Int) fd f1 f2 kp fi se ta (icr tl ta len a fi y)) mo dy) := by
  refine am_det (by decide +kernel) (Nat.le_of_ble_eq_true rfl) (fun Qr Qt hq => ?_)
  refine aw_blk (pc' := 3) (ls' := [some (vr 7 0), some (vi a), some (vr 7 2), some (vi (y : Int)), some (vi 0), none]) (st' := []) [.inl (.iconst 0), .inl (.istore 4)] 0 _ _ (by decide +kernel) rfl ?_
  refine aw_eq (h' := Hp b s t mk df jo tr [some (ob 7 [vr 7 1, vr 7 2, vr 7 3, vr 7 4, vr 7 5, vi (len : Int), vi fd, vi f1, vi f2]), some (ar 0 3024 kp), some (ar 0 6 fi), some (ar 0 6 se), some (ar 0 24 ta), some (ar 0 24 (icr tl ta len a fi 0))] mo dy) rfl rfl (by rw [icr_0]) ?_
  refine up_to (W := fun k : Nat => AW G M_D_giveBackThrows Qr Qt 0 0 3 [some (vr 7 0), some (vi a), some (vr 7 2), some (vi (y : Int)), some (vi (k : Int)), none] [] (Hp b s t mk df jo tr [some (ob 7 [vr 7 1, vr 7 2, vr 7 3, vr 7 4, vr 7 5, vi (len : Int), vi fd, vi f1, vi f2]), some (ar 0 3024 kp), some (ar 0 6 fi), some (ar 0 6 se), some (ar 0 24 ta), some (ar 0 24 (icr tl ta len a fi k))] mo dy)) y ?_ (fun k hi ih => ?_) 0 (by omega)
  · refine aw_blk (pc' := 6) (ls' := [some (vr 7 0), some (vi a), some (vr 7 2), some (vi (y : Int)), some (vi (y : Int)), none]) (st' := [vi (y : Int), vi (y : Int)]) [.inl (.iload 4), .inl (.iload_n 3)] 3 _ _ (by decide +kernel) rfl ?_
    refine aw_icmp_ge (o := 45) (tgt := 51) (by decide +kernel) (by decide) (by omega) (by omega) (fun _ => ?_) (fun c => absurd (by omega) c)
    exact aw_vret (by decide +kernel) rfl (by decide) (by decide) (hq _ _ rfl rfl)
  · have hok := ho k hi
    refine aw_blk (pc' := 6) (ls' := [some (vr 7 0), some (vi a), some (vr 7 2), some (vi (y : Int)), some (vi (k : Int)), none]) (st' := [vi (y : Int), vi (k : Int)]) [.inl (.iload 4), .inl (.iload_n 3)] 3 _ _ (by decide +kernel) rfl ?_
    refine aw_icmp_ge (o := 45) (tgt := 51) (by decide +kernel) (by decide) (by omega) (by omega) (fun c => absurd c (by omega)) (fun _ => ?_)
    refine aw_blk (pc' := 12) (ls' := [some (vr 7 0), some (vi a), some (vr 7 2), some (vi (y : Int)), some (vi (k : Int)), none]) (st' := [vr 7 2, vi (k : Int)]) [.inl (.iload 4), .inl (.aload_n 2)] 9 _ _ (by decide +kernel) rfl ?_
    refine aw_alen (by decide +kernel) rfl (fun r12 => ?_)
    refine aw_icmp_ge (o := 38) (tgt := 51) (by decide +kernel) (by decide) (by omega) (by omega) (fun c => absurd c (by omega)) (fun _ => ?_)
    refine aw_blk (pc' := 21) (ls' := [some (vr 7 0), some (vi a), some (vr 7 2), some (vi (y : Int)), some (vi (k : Int)), none]) (st' := [vi (k : Int), vr 7 2, vi a, vr 7 0]) [.inl (.aload_n 0), .inl (.iload_n 1), .inl (.aload_n 2), .inl (.iload 4)] 16 _ _ (by decide +kernel) rfl ?_
    refine aw_iald (j := k) (by decide +kernel) rfl (by omega) (by omega) (fun r21 => ?_)
    refine aw_blk (pc' := 23) (ls' := [some (vr 7 0), some (vi a), some (vr 7 2), some (vi (y : Int)), some (vi (k : Int)), none]) (st' := [vi (a + (fi k)), vr 7 0]) [.inl (.iadd)] 22 _ _ (by decide +kernel) rfl ?_
    refine aw_dV (cs' := 0) (sl' := 0) (pc' := 26) (st' := [vi (ixO ta len (a + fi k))]) (idx := 80) (as := [vi (a + (fi k))]) (st := []) (m_D_indexOfThrow hln hs (by omega)) (by decide +kernel) (show vOK "ChanceBench$Dice" 80 M_D_indexOfThrow 1 = true by decide +kernel) rfl rfl rfl (Nat.le_of_ble_eq_true rfl) (by decide) (by decide) (by decide) rfl rfl rfl rfl ?_
    have hix : I32 (ixO ta len (a + fi k)) := by unfold ixO; have := lb_le ta (a + fi k) len; split <;> omega
    refine aw_blk (pc' := 31) (ls' := [some (vr 7 0), some (vi a), some (vr 7 2), some (vi (y : Int)), some (vi (k : Int)), some (vi (ixO ta len (a + fi k)))]) (st' := [vi (-1), vi (ixO ta len (a + fi k))]) [.inl (.istore 5), .inl (.iload 5), .inl (.iconst (-1))] 26 _ _ (by decide +kernel) rfl ?_
    refine aw_icmp_eq (o := 14) (tgt := 45) (by decide +kernel) (by decide) (by omega) (by omega) (fun c31 => ?_) (fun c31 => ?_)
    · refine aw_blk (pc' := 48) (ls' := [some (vr 7 0), some (vi a), some (vr 7 2), some (vi (y : Int)), some (vi ((k : Int) + 1)), some (vi (ixO ta len (a + fi k)))]) (st' := []) [.inl (.iinc 4 1)] 45 _ _ (by decide +kernel) rfl ?_
      refine aw_goto (o := -45) (tgt := 3) (by decide +kernel) (by decide) ?_
      refine aw_ls (ls' := [some (vr 7 0), some (vi a), some (vr 7 2), some (vi (y : Int)), some (vi ((k : Int) + 1)), none]) (lsk_s (lsk_s (lsk_s (lsk_s (lsk_s (lsk_n lsk_0)))))) ?_
      exact aw_eq rfl rfl (by rw [icr_n (ixO_no hs c31)]) ih
    · obtain ⟨i, hi2, ei, vi_⟩ := ixO_yes c31
      have hti := htl i hi2
      have hhi := hits_in (a := a) (o := fi) (ta i) k
      have hcr : icr tl ta len a fi k i = tl i + hits a fi (ta i) k := by unfold icr; rw [if_pos hi2]
      rw [ei]
      refine aw_blk (pc' := 41) (ls' := [some (vr 7 0), some (vi a), some (vr 7 2), some (vi (y : Int)), some (vi (k : Int)), some (vi (i : Int))]) (st' := [vi (i : Int), vr 7 5, vi (i : Int), vr 7 5]) [.inl (.aload_n 0), .inr (24, 7, 4), .inl (.iload 5), .inl (.dup2)] 34 _ _ (by decide +kernel) rfl ?_
      refine aw_iald (j := i) (by decide +kernel) rfl (by omega) (by omega) (fun r41 => ?_)
      refine aw_blk (pc' := 44) (ls' := [some (vr 7 0), some (vi a), some (vr 7 2), some (vi (y : Int)), some (vi (k : Int)), some (vi (i : Int))]) (st' := [vi (((icr tl ta len a fi k) i) + 1), vi (i : Int), vr 7 5]) [.inl (.iconst 1), .inl (.iadd)] 42 _ _ (by decide +kernel) rfl ?_
      refine aw_iast (j := i) (h' := Hp b s t mk df jo tr [some (ob 7 [vr 7 1, vr 7 2, vr 7 3, vr 7 4, vr 7 5, vi (len : Int), vi fd, vi f1, vi f2]), some (ar 0 3024 kp), some (ar 0 6 fi), some (ar 0 6 se), some (ar 0 24 ta), some (ar 0 24 (va_up (icr tl ta len a fi k) i (((icr tl ta len a fi k) i) + 1)))] mo dy) (by decide +kernel) rfl (by omega) (by omega) (by omega) rfl ?_
      refine aw_blk (pc' := 48) (ls' := [some (vr 7 0), some (vi a), some (vr 7 2), some (vi (y : Int)), some (vi ((k : Int) + 1)), some (vi (i : Int))]) (st' := []) [.inl (.iinc 4 1)] 45 _ _ (by decide +kernel) rfl ?_
      refine aw_goto (o := -45) (tgt := 3) (by decide +kernel) (by decide) ?_
      refine aw_ls (ls' := [some (vr 7 0), some (vi a), some (vr 7 2), some (vi (y : Int)), some (vi ((k : Int) + 1)), none]) (lsk_s (lsk_s (lsk_s (lsk_s (lsk_s (lsk_n lsk_0)))))) ?_
      exact aw_eq rfl rfl (by rw [icr_s hs hi2 vi_]) ih

theorem ixO_at {f : Nat → Int} {n i : Nat} {v : Int} (hs : inc f n) (hi : i < n) (he : f i = v) : ixO f n v = (i : Int) := by
  have : lb f v n = i := lb_uniq hs (by omega) (fun j hj => by have := hs j i hj hi; omega) (fun j a b => by
    rcases Nat.lt_or_ge i j with z | z
    · have := hs i j z b; omega
    · have : j = i := by omega
      subst this; omega)
  unfold ixO
  rw [this, if_pos ⟨hi, he⟩]
theorem m_D_take_fi_1 (hln : len ≤ 24) (hs : inc ta len) (ho : ∀ j, j < y → -1000000 ≤ fi j ∧ fi j ≤ 1000000) (ha : -1000000 ≤ a ∧ a ≤ 1000000) (hy : y ≤ 6) (htl : ∀ i, i < len → -1000000 ≤ tl i ∧ tl i ≤ 1000000) (ht : tkOK tl ta len a fi y) : ADet G M_D_takeThrows [vr 7 0, vi a, vr 7 2, vi (y : Int)] (Hp b s t mk df jo tr (sgD (len : Int) fd f1 f2 kp fi se ta tl) mo dy) (some (vi 1)) (Hp b s t mk df jo tr (sgD (len : Int) fd f1 f2 kp fi se ta (dcr tl ta len a fi y)) mo dy) := by
  refine am_det (by decide +kernel) (Nat.le_of_ble_eq_true rfl) (fun Qr Qt hq => ?_)
  refine aw_blk (pc' := 3) (ls' := [some (vr 7 0), some (vi a), some (vr 7 2), some (vi (y : Int)), some (vi 0), none]) (st' := []) [.inl (.iconst 0), .inl (.istore 4)] 0 _ _ (by decide +kernel) rfl ?_
  refine aw_eq (h' := Hp b s t mk df jo tr [some (ob 7 [vr 7 1, vr 7 2, vr 7 3, vr 7 4, vr 7 5, vi (len : Int), vi fd, vi f1, vi f2]), some (ar 0 3024 kp), some (ar 0 6 fi), some (ar 0 6 se), some (ar 0 24 ta), some (ar 0 24 (dcr tl ta len a fi 0))] mo dy) rfl rfl (by rw [dcr_0]) ?_
  refine up_to (W := fun k : Nat => AW G M_D_takeThrows Qr Qt 0 0 3 [some (vr 7 0), some (vi a), some (vr 7 2), some (vi (y : Int)), some (vi (k : Int)), none] [] (Hp b s t mk df jo tr [some (ob 7 [vr 7 1, vr 7 2, vr 7 3, vr 7 4, vr 7 5, vi (len : Int), vi fd, vi f1, vi f2]), some (ar 0 3024 kp), some (ar 0 6 fi), some (ar 0 6 se), some (ar 0 24 ta), some (ar 0 24 (dcr tl ta len a fi k))] mo dy)) y ?_ (fun k hi ih => ?_) 0 (by omega)
  · refine aw_blk (pc' := 6) (ls' := [some (vr 7 0), some (vi a), some (vr 7 2), some (vi (y : Int)), some (vi (y : Int)), none]) (st' := [vi (y : Int), vi (y : Int)]) [.inl (.iload 4), .inl (.iload_n 3)] 3 _ _ (by decide +kernel) rfl ?_
    refine aw_icmp_ge (o := 66) (tgt := 72) (by decide +kernel) (by decide) (by omega) (by omega) (fun _ => ?_) (fun c => absurd (by omega) c)
    refine aw_blk (pc' := 73) (ls' := [some (vr 7 0), some (vi a), some (vr 7 2), some (vi (y : Int)), some (vi (y : Int)), none]) (st' := [vi 1]) [.inl (.iconst 1)] 72 _ _ (by decide +kernel) rfl ?_
    exact aw_zret (by decide +kernel) rfl (by decide) (by decide) (by omega) (hq _ _ rfl rfl)
  · have hok := ho k hi
    obtain ⟨i, hi2, vi_, hge⟩ := ht k hi
    have hti := htl i hi2
    have hhi := hits_in (a := a) (o := fi) (ta i) k
    have hcr : dcr tl ta len a fi k i = tl i - hits a fi (ta i) k := by unfold dcr; rw [if_pos hi2]
    have hix2 : ixO ta len (a + fi k) = (i : Int) := ixO_at hs hi2 vi_
    refine aw_blk (pc' := 6) (ls' := [some (vr 7 0), some (vi a), some (vr 7 2), some (vi (y : Int)), some (vi (k : Int)), none]) (st' := [vi (y : Int), vi (k : Int)]) [.inl (.iload 4), .inl (.iload_n 3)] 3 _ _ (by decide +kernel) rfl ?_
    refine aw_icmp_ge (o := 66) (tgt := 72) (by decide +kernel) (by decide) (by omega) (by omega) (fun c => absurd c (by omega)) (fun _ => ?_)
    refine aw_blk (pc' := 12) (ls' := [some (vr 7 0), some (vi a), some (vr 7 2), some (vi (y : Int)), some (vi (k : Int)), none]) (st' := [vr 7 2, vi (k : Int)]) [.inl (.iload 4), .inl (.aload_n 2)] 9 _ _ (by decide +kernel) rfl ?_
    refine aw_alen (by decide +kernel) rfl (fun r12 => ?_)
    refine aw_icmp_ge (o := 59) (tgt := 72) (by decide +kernel) (by decide) (by omega) (by omega) (fun c => absurd c (by omega)) (fun _ => ?_)
    refine aw_blk (pc' := 21) (ls' := [some (vr 7 0), some (vi a), some (vr 7 2), some (vi (y : Int)), some (vi (k : Int)), none]) (st' := [vi (k : Int), vr 7 2, vi a, vr 7 0]) [.inl (.aload_n 0), .inl (.iload_n 1), .inl (.aload_n 2), .inl (.iload 4)] 16 _ _ (by decide +kernel) rfl ?_
    refine aw_iald (j := k) (by decide +kernel) rfl (by omega) (by omega) (fun r21 => ?_)
    refine aw_blk (pc' := 23) (ls' := [some (vr 7 0), some (vi a), some (vr 7 2), some (vi (y : Int)), some (vi (k : Int)), none]) (st' := [vi (a + (fi k)), vr 7 0]) [.inl (.iadd)] 22 _ _ (by decide +kernel) rfl ?_
    refine aw_dV (cs' := 0) (sl' := 0) (pc' := 26) (st' := [vi (ixO ta len (a + fi k))]) (idx := 80) (as := [vi (a + (fi k))]) (st := []) (m_D_indexOfThrow hln hs (by omega)) (by decide +kernel) (show vOK "ChanceBench$Dice" 80 M_D_indexOfThrow 1 = true by decide +kernel) rfl rfl rfl (Nat.le_of_ble_eq_true rfl) (by decide) (by decide) (by decide) rfl rfl rfl rfl ?_
    rw [hix2]
    refine aw_blk (pc' := 31) (ls' := [some (vr 7 0), some (vi a), some (vr 7 2), some (vi (y : Int)), some (vi (k : Int)), some (vi (i : Int))]) (st' := [vi (-1), vi (i : Int)]) [.inl (.istore 5), .inl (.iload 5), .inl (.iconst (-1))] 26 _ _ (by decide +kernel) rfl ?_
    refine aw_icmp_eq (o := 14) (tgt := 45) (by decide +kernel) (by decide) (by omega) (by omega) (fun c => absurd c (by omega)) (fun _ => ?_)
    refine aw_blk (pc' := 40) (ls' := [some (vr 7 0), some (vi a), some (vr 7 2), some (vi (y : Int)), some (vi (k : Int)), some (vi (i : Int))]) (st' := [vi (i : Int), vr 7 5]) [.inl (.aload_n 0), .inr (24, 7, 4), .inl (.iload 5)] 34 _ _ (by decide +kernel) rfl ?_
    refine aw_iald (j := i) (by decide +kernel) rfl (by omega) (by omega) (fun r40 => ?_)
    refine aw_blk (pc' := 42) (ls' := [some (vr 7 0), some (vi a), some (vr 7 2), some (vi (y : Int)), some (vi (k : Int)), some (vi (i : Int))]) (st' := [vi 1, vi ((dcr tl ta len a fi k) i)]) [.inl (.iconst 1)] 41 _ _ (by decide +kernel) rfl ?_
    refine aw_icmp_ge (o := 13) (tgt := 55) (by decide +kernel) (by decide) (by omega) (by omega) (fun _ => ?_) (fun c => absurd (by omega) c)
    refine aw_blk (pc' := 62) (ls' := [some (vr 7 0), some (vi a), some (vr 7 2), some (vi (y : Int)), some (vi (k : Int)), some (vi (i : Int))]) (st' := [vi (i : Int), vr 7 5, vi (i : Int), vr 7 5]) [.inl (.aload_n 0), .inr (24, 7, 4), .inl (.iload 5), .inl (.dup2)] 55 _ _ (by decide +kernel) rfl ?_
    refine aw_iald (j := i) (by decide +kernel) rfl (by omega) (by omega) (fun r62 => ?_)
    refine aw_blk (pc' := 65) (ls' := [some (vr 7 0), some (vi a), some (vr 7 2), some (vi (y : Int)), some (vi (k : Int)), some (vi (i : Int))]) (st' := [vi (((dcr tl ta len a fi k) i) - 1), vi (i : Int), vr 7 5]) [.inl (.iconst 1), .inl (.isub)] 63 _ _ (by decide +kernel) rfl ?_
    refine aw_iast (j := i) (h' := Hp b s t mk df jo tr [some (ob 7 [vr 7 1, vr 7 2, vr 7 3, vr 7 4, vr 7 5, vi (len : Int), vi fd, vi f1, vi f2]), some (ar 0 3024 kp), some (ar 0 6 fi), some (ar 0 6 se), some (ar 0 24 ta), some (ar 0 24 (va_up (dcr tl ta len a fi k) i (((dcr tl ta len a fi k) i) - 1)))] mo dy) (by decide +kernel) rfl (by omega) (by omega) (by omega) rfl ?_
    refine aw_blk (pc' := 69) (ls' := [some (vr 7 0), some (vi a), some (vr 7 2), some (vi (y : Int)), some (vi ((k : Int) + 1)), some (vi (i : Int))]) (st' := []) [.inl (.iinc 4 1)] 66 _ _ (by decide +kernel) rfl ?_
    refine aw_goto (o := -66) (tgt := 3) (by decide +kernel) (by decide) ?_
    refine aw_ls (ls' := [some (vr 7 0), some (vi a), some (vr 7 2), some (vi (y : Int)), some (vi ((k : Int) + 1)), none]) (lsk_s (lsk_s (lsk_s (lsk_s (lsk_s (lsk_n lsk_0)))))) ?_
    exact aw_eq rfl rfl (by rw [dcr_s hs hi2 vi_]) ih

theorem tk_first {tl ta o : Nat → Int} {len y : Nat} {a : Int} (h : ¬ tkOK tl ta len a o y) : ∃ z, z < y ∧ (∀ k, k < z → ∃ i, i < len ∧ ta i = a + o k ∧ 1 ≤ dcr tl ta len a o k i) ∧ ¬ ∃ i, i < len ∧ ta i = a + o z ∧ 1 ≤ dcr tl ta len a o z i := by
  induction y with
  | zero => exact absurd (fun k hk => by omega) h
  | succ y ih =>
    rcases Classical.em (tkOK tl ta len a o y) with q | q
    · refine ⟨y, by omega, q, fun e => h (fun k hk => ?_)⟩
      rcases Nat.lt_or_ge k y with z | z
      · exact q k z
      · rw [show k = y by omega]; exact e
    · obtain ⟨z, a1, a2, a3⟩ := ih q
      exact ⟨z, by omega, a2, a3⟩
theorem m_D_take_fi_0 (hln : len ≤ 24) (hs : inc ta len) (ho : ∀ j, j < y → -1000000 ≤ fi j ∧ fi j ≤ 1000000) (ha : -1000000 ≤ a ∧ a ≤ 1000000) (hy : y ≤ 6) (htl : ∀ i, i < len → -900000 ≤ tl i ∧ tl i ≤ 900000) (htb : ∀ i, i < len → -900000 ≤ tl i) (ht : ¬ tkOK tl ta len a fi y) : ADet G M_D_takeThrows [vr 7 0, vi a, vr 7 2, vi (y : Int)] (Hp b s t mk df jo tr (sgD (len : Int) fd f1 f2 kp fi se ta tl) mo dy) (some (vi 0)) (Hp b s t mk df jo tr (sgD (len : Int) fd f1 f2 kp fi se ta tl) mo dy) := by
  refine am_det (by decide +kernel) (Nat.le_of_ble_eq_true rfl) (fun Qr Qt hq => ?_)
  obtain ⟨z, hzy, hzp, hzn⟩ := tk_first ht
  refine aw_blk (pc' := 3) (ls' := [some (vr 7 0), some (vi a), some (vr 7 2), some (vi (y : Int)), some (vi 0), none]) (st' := []) [.inl (.iconst 0), .inl (.istore 4)] 0 _ _ (by decide +kernel) rfl ?_
  refine aw_eq (h' := Hp b s t mk df jo tr [some (ob 7 [vr 7 1, vr 7 2, vr 7 3, vr 7 4, vr 7 5, vi (len : Int), vi fd, vi f1, vi f2]), some (ar 0 3024 kp), some (ar 0 6 fi), some (ar 0 6 se), some (ar 0 24 ta), some (ar 0 24 (dcr tl ta len a fi 0))] mo dy) rfl rfl (by rw [dcr_0]) ?_
  refine up_to (W := fun k : Nat => AW G M_D_takeThrows Qr Qt 0 0 3 [some (vr 7 0), some (vi a), some (vr 7 2), some (vi (y : Int)), some (vi (k : Int)), none] [] (Hp b s t mk df jo tr [some (ob 7 [vr 7 1, vr 7 2, vr 7 3, vr 7 4, vr 7 5, vi (len : Int), vi fd, vi f1, vi f2]), some (ar 0 3024 kp), some (ar 0 6 fi), some (ar 0 6 se), some (ar 0 24 ta), some (ar 0 24 (dcr tl ta len a fi k))] mo dy)) z ?_ (fun k hi ih => ?_) 0 (by omega)
  · have hok := ho z hzy
    have hdt : ∀ i, i < len → -1000006 ≤ dcr tl ta len a fi z i ∧ dcr tl ta len a fi z i ≤ 1000000 := fun i hi => by have := htl i hi; have := hits_in (a := a) (o := fi) (ta i) z; unfold dcr; rw [if_pos hi]; omega
    refine aw_blk (pc' := 6) (ls' := [some (vr 7 0), some (vi a), some (vr 7 2), some (vi (y : Int)), some (vi (z : Int)), none]) (st' := [vi (y : Int), vi (z : Int)]) [.inl (.iload 4), .inl (.iload_n 3)] 3 _ _ (by decide +kernel) rfl ?_
    refine aw_icmp_ge (o := 66) (tgt := 72) (by decide +kernel) (by decide) (by omega) (by omega) (fun c => absurd c (by omega)) (fun _ => ?_)
    refine aw_blk (pc' := 12) (ls' := [some (vr 7 0), some (vi a), some (vr 7 2), some (vi (y : Int)), some (vi (z : Int)), none]) (st' := [vr 7 2, vi (z : Int)]) [.inl (.iload 4), .inl (.aload_n 2)] 9 _ _ (by decide +kernel) rfl ?_
    refine aw_alen (by decide +kernel) rfl (fun r12 => ?_)
    refine aw_icmp_ge (o := 59) (tgt := 72) (by decide +kernel) (by decide) (by omega) (by omega) (fun c => absurd c (by omega)) (fun _ => ?_)
    refine aw_blk (pc' := 21) (ls' := [some (vr 7 0), some (vi a), some (vr 7 2), some (vi (y : Int)), some (vi (z : Int)), none]) (st' := [vi (z : Int), vr 7 2, vi a, vr 7 0]) [.inl (.aload_n 0), .inl (.iload_n 1), .inl (.aload_n 2), .inl (.iload 4)] 16 _ _ (by decide +kernel) rfl ?_
    refine aw_iald (j := z) (by decide +kernel) rfl (by omega) (by omega) (fun r21 => ?_)
    refine aw_blk (pc' := 23) (ls' := [some (vr 7 0), some (vi a), some (vr 7 2), some (vi (y : Int)), some (vi (z : Int)), none]) (st' := [vi (a + (fi z)), vr 7 0]) [.inl (.iadd)] 22 _ _ (by decide +kernel) rfl ?_
    refine aw_dV (cs' := 0) (sl' := 0) (pc' := 26) (st' := [vi (ixO ta len (a + fi z))]) (idx := 80) (as := [vi (a + (fi z))]) (st := []) (m_D_indexOfThrow hln hs (by omega)) (by decide +kernel) (show vOK "ChanceBench$Dice" 80 M_D_indexOfThrow 1 = true by decide +kernel) rfl rfl rfl (Nat.le_of_ble_eq_true rfl) (by decide) (by decide) (by decide) rfl rfl rfl rfl ?_
    have hix : I32 (ixO ta len (a + fi z)) := by unfold ixO; have := lb_le ta (a + fi z) len; split <;> omega
    refine aw_blk (pc' := 31) (ls' := [some (vr 7 0), some (vi a), some (vr 7 2), some (vi (y : Int)), some (vi (z : Int)), some (vi (ixO ta len (a + fi z)))]) (st' := [vi (-1), vi (ixO ta len (a + fi z))]) [.inl (.istore 5), .inl (.iload 5), .inl (.iconst (-1))] 26 _ _ (by decide +kernel) rfl ?_
    refine aw_icmp_eq (o := 14) (tgt := 45) (by decide +kernel) (by decide) (by omega) (by omega) (fun c31 => ?_) (fun c31 => ?_)
    · refine aw_blk (pc' := 50) (ls' := [some (vr 7 0), some (vi a), some (vr 7 2), some (vi (y : Int)), some (vi (z : Int)), some (vi (ixO ta len (a + fi z)))]) (st' := [vi (z : Int), vr 7 2, vi a, vr 7 0]) [.inl (.aload_n 0), .inl (.iload_n 1), .inl (.aload_n 2), .inl (.iload 4)] 45 _ _ (by decide +kernel) rfl ?_
      refine aw_dV (cs' := 0) (sl' := 0) (pc' := 53) (st' := []) (idx := 76) (as := [vi a, vr 7 2, vi (z : Int)]) (st := []) (m_D_giveBack_fi (y := z) hln hs (fun j hj => ho j (by omega)) ha (by omega) (fun i hi => by have := htl i hi; have := hits_in (a := a) (o := fi) (ta i) z; have := htb i hi; unfold dcr; rw [if_pos hi]; omega)) (by decide +kernel) (show vOK "ChanceBench$Dice" 76 M_D_giveBackThrows 3 = true by decide +kernel) rfl rfl rfl (Nat.le_of_ble_eq_true rfl) (by decide) (by decide) (by decide) rfl rfl rfl rfl ?_
      refine aw_blk (pc' := 54) (ls' := [some (vr 7 0), some (vi a), some (vr 7 2), some (vi (y : Int)), some (vi (z : Int)), some (vi (ixO ta len (a + fi z)))]) (st' := [vi 0]) [.inl (.iconst 0)] 53 _ _ (by decide +kernel) rfl ?_
      exact aw_zret (by decide +kernel) rfl (by decide) (by decide) (by omega) (hq _ _ rfl (by rw [icr_dcr]))
    · obtain ⟨i, hi2, ei, vi_⟩ := ixO_yes c31
      have hlt : ¬ 1 ≤ dcr tl ta len a fi z i := fun q => hzn ⟨i, hi2, vi_, q⟩
      have hdi := hdt i hi2
      rw [ei]
      refine aw_blk (pc' := 40) (ls' := [some (vr 7 0), some (vi a), some (vr 7 2), some (vi (y : Int)), some (vi (z : Int)), some (vi (i : Int))]) (st' := [vi (i : Int), vr 7 5]) [.inl (.aload_n 0), .inr (24, 7, 4), .inl (.iload 5)] 34 _ _ (by decide +kernel) rfl ?_
      refine aw_iald (j := i) (by decide +kernel) rfl (by omega) (by omega) (fun r40 => ?_)
      refine aw_blk (pc' := 42) (ls' := [some (vr 7 0), some (vi a), some (vr 7 2), some (vi (y : Int)), some (vi (z : Int)), some (vi (i : Int))]) (st' := [vi 1, vi ((dcr tl ta len a fi z) i)]) [.inl (.iconst 1)] 41 _ _ (by decide +kernel) rfl ?_
      refine aw_icmp_ge (o := 13) (tgt := 55) (by decide +kernel) (by decide) (by omega) (by omega) (fun c => absurd c (by omega)) (fun _ => ?_)
      refine aw_blk (pc' := 50) (ls' := [some (vr 7 0), some (vi a), some (vr 7 2), some (vi (y : Int)), some (vi (z : Int)), some (vi (i : Int))]) (st' := [vi (z : Int), vr 7 2, vi a, vr 7 0]) [.inl (.aload_n 0), .inl (.iload_n 1), .inl (.aload_n 2), .inl (.iload 4)] 45 _ _ (by decide +kernel) rfl ?_
      refine aw_dV (cs' := 0) (sl' := 0) (pc' := 53) (st' := []) (idx := 76) (as := [vi a, vr 7 2, vi (z : Int)]) (st := []) (m_D_giveBack_fi (y := z) hln hs (fun j hj => ho j (by omega)) ha (by omega) (fun i hi => by have := htl i hi; have := hits_in (a := a) (o := fi) (ta i) z; have := htb i hi; unfold dcr; rw [if_pos hi]; omega)) (by decide +kernel) (show vOK "ChanceBench$Dice" 76 M_D_giveBackThrows 3 = true by decide +kernel) rfl rfl rfl (Nat.le_of_ble_eq_true rfl) (by decide) (by decide) (by decide) rfl rfl rfl rfl ?_
      refine aw_blk (pc' := 54) (ls' := [some (vr 7 0), some (vi a), some (vr 7 2), some (vi (y : Int)), some (vi (z : Int)), some (vi (i : Int))]) (st' := [vi 0]) [.inl (.iconst 0)] 53 _ _ (by decide +kernel) rfl ?_
      exact aw_zret (by decide +kernel) rfl (by decide) (by decide) (by omega) (hq _ _ rfl (by rw [icr_dcr]))
  · have hok := ho k (by omega)
    obtain ⟨i, hi2, vi_, hge⟩ := hzp k hi
    have hti := htl i hi2
    have hhi := hits_in (a := a) (o := fi) (ta i) k
    have hcr : dcr tl ta len a fi k i = tl i - hits a fi (ta i) k := by unfold dcr; rw [if_pos hi2]
    have hix2 : ixO ta len (a + fi k) = (i : Int) := ixO_at hs hi2 vi_
    refine aw_blk (pc' := 6) (ls' := [some (vr 7 0), some (vi a), some (vr 7 2), some (vi (y : Int)), some (vi (k : Int)), none]) (st' := [vi (y : Int), vi (k : Int)]) [.inl (.iload 4), .inl (.iload_n 3)] 3 _ _ (by decide +kernel) rfl ?_
    refine aw_icmp_ge (o := 66) (tgt := 72) (by decide +kernel) (by decide) (by omega) (by omega) (fun c => absurd c (by omega)) (fun _ => ?_)
    refine aw_blk (pc' := 12) (ls' := [some (vr 7 0), some (vi a), some (vr 7 2), some (vi (y : Int)), some (vi (k : Int)), none]) (st' := [vr 7 2, vi (k : Int)]) [.inl (.iload 4), .inl (.aload_n 2)] 9 _ _ (by decide +kernel) rfl ?_
    refine aw_alen (by decide +kernel) rfl (fun r12 => ?_)
    refine aw_icmp_ge (o := 59) (tgt := 72) (by decide +kernel) (by decide) (by omega) (by omega) (fun c => absurd c (by omega)) (fun _ => ?_)
    refine aw_blk (pc' := 21) (ls' := [some (vr 7 0), some (vi a), some (vr 7 2), some (vi (y : Int)), some (vi (k : Int)), none]) (st' := [vi (k : Int), vr 7 2, vi a, vr 7 0]) [.inl (.aload_n 0), .inl (.iload_n 1), .inl (.aload_n 2), .inl (.iload 4)] 16 _ _ (by decide +kernel) rfl ?_
    refine aw_iald (j := k) (by decide +kernel) rfl (by omega) (by omega) (fun r21 => ?_)
    refine aw_blk (pc' := 23) (ls' := [some (vr 7 0), some (vi a), some (vr 7 2), some (vi (y : Int)), some (vi (k : Int)), none]) (st' := [vi (a + (fi k)), vr 7 0]) [.inl (.iadd)] 22 _ _ (by decide +kernel) rfl ?_
    refine aw_dV (cs' := 0) (sl' := 0) (pc' := 26) (st' := [vi (ixO ta len (a + fi k))]) (idx := 80) (as := [vi (a + (fi k))]) (st := []) (m_D_indexOfThrow hln hs (by omega)) (by decide +kernel) (show vOK "ChanceBench$Dice" 80 M_D_indexOfThrow 1 = true by decide +kernel) rfl rfl rfl (Nat.le_of_ble_eq_true rfl) (by decide) (by decide) (by decide) rfl rfl rfl rfl ?_
    rw [hix2]
    refine aw_blk (pc' := 31) (ls' := [some (vr 7 0), some (vi a), some (vr 7 2), some (vi (y : Int)), some (vi (k : Int)), some (vi (i : Int))]) (st' := [vi (-1), vi (i : Int)]) [.inl (.istore 5), .inl (.iload 5), .inl (.iconst (-1))] 26 _ _ (by decide +kernel) rfl ?_
    refine aw_icmp_eq (o := 14) (tgt := 45) (by decide +kernel) (by decide) (by omega) (by omega) (fun c => absurd c (by omega)) (fun _ => ?_)
    refine aw_blk (pc' := 40) (ls' := [some (vr 7 0), some (vi a), some (vr 7 2), some (vi (y : Int)), some (vi (k : Int)), some (vi (i : Int))]) (st' := [vi (i : Int), vr 7 5]) [.inl (.aload_n 0), .inr (24, 7, 4), .inl (.iload 5)] 34 _ _ (by decide +kernel) rfl ?_
    refine aw_iald (j := i) (by decide +kernel) rfl (by omega) (by omega) (fun r40 => ?_)
    refine aw_blk (pc' := 42) (ls' := [some (vr 7 0), some (vi a), some (vr 7 2), some (vi (y : Int)), some (vi (k : Int)), some (vi (i : Int))]) (st' := [vi 1, vi ((dcr tl ta len a fi k) i)]) [.inl (.iconst 1)] 41 _ _ (by decide +kernel) rfl ?_
    refine aw_icmp_ge (o := 13) (tgt := 55) (by decide +kernel) (by decide) (by omega) (by omega) (fun _ => ?_) (fun c => absurd (by omega) c)
    refine aw_blk (pc' := 62) (ls' := [some (vr 7 0), some (vi a), some (vr 7 2), some (vi (y : Int)), some (vi (k : Int)), some (vi (i : Int))]) (st' := [vi (i : Int), vr 7 5, vi (i : Int), vr 7 5]) [.inl (.aload_n 0), .inr (24, 7, 4), .inl (.iload 5), .inl (.dup2)] 55 _ _ (by decide +kernel) rfl ?_
    refine aw_iald (j := i) (by decide +kernel) rfl (by omega) (by omega) (fun r62 => ?_)
    refine aw_blk (pc' := 65) (ls' := [some (vr 7 0), some (vi a), some (vr 7 2), some (vi (y : Int)), some (vi (k : Int)), some (vi (i : Int))]) (st' := [vi (((dcr tl ta len a fi k) i) - 1), vi (i : Int), vr 7 5]) [.inl (.iconst 1), .inl (.isub)] 63 _ _ (by decide +kernel) rfl ?_
    refine aw_iast (j := i) (h' := Hp b s t mk df jo tr [some (ob 7 [vr 7 1, vr 7 2, vr 7 3, vr 7 4, vr 7 5, vi (len : Int), vi fd, vi f1, vi f2]), some (ar 0 3024 kp), some (ar 0 6 fi), some (ar 0 6 se), some (ar 0 24 ta), some (ar 0 24 (va_up (dcr tl ta len a fi k) i (((dcr tl ta len a fi k) i) - 1)))] mo dy) (by decide +kernel) rfl (by omega) (by omega) (by omega) rfl ?_
    refine aw_blk (pc' := 69) (ls' := [some (vr 7 0), some (vi a), some (vr 7 2), some (vi (y : Int)), some (vi ((k : Int) + 1)), some (vi (i : Int))]) (st' := []) [.inl (.iinc 4 1)] 66 _ _ (by decide +kernel) rfl ?_
    refine aw_goto (o := -66) (tgt := 3) (by decide +kernel) (by decide) ?_
    refine aw_ls (ls' := [some (vr 7 0), some (vi a), some (vr 7 2), some (vi (y : Int)), some (vi ((k : Int) + 1)), none]) (lsk_s (lsk_s (lsk_s (lsk_s (lsk_s (lsk_n lsk_0)))))) ?_
    exact aw_eq rfl rfl (by rw [dcr_s hs hi2 vi_]) ih

theorem m_D_giveBack_se (hln : len ≤ 24) (hs : inc ta len) (ho : ∀ j, j < y → -1000000 ≤ se j ∧ se j ≤ 1000000) (ha : -1000000 ≤ a ∧ a ≤ 1000000) (hy : y ≤ 6) (htl : ∀ i, i < len → -1000000 ≤ tl i ∧ tl i ≤ 1000000) : ADet G M_D_giveBackThrows [vr 7 0, vi a, vr 7 3, vi (y : Int)] (Hp b s t mk df jo tr (sgD (len : Int) fd f1 f2 kp fi se ta tl) mo dy) none (Hp b s t mk df jo tr (sgD (len : Int) fd f1 f2 kp fi se ta (icr tl ta len a se y)) mo dy) := by
  refine am_det (by decide +kernel) (Nat.le_of_ble_eq_true rfl) (fun Qr Qt hq => ?_)
  refine aw_blk (pc' := 3) (ls' := [some (vr 7 0), some (vi a), some (vr 7 3), some (vi (y : Int)), some (vi 0), none]) (st' := []) [.inl (.iconst 0), .inl (.istore 4)] 0 _ _ (by decide +kernel) rfl ?_
  refine aw_eq (h' := Hp b s t mk df jo tr [some (ob 7 [vr 7 1, vr 7 2, vr 7 3, vr 7 4, vr 7 5, vi (len : Int), vi fd, vi f1, vi f2]), some (ar 0 3024 kp), some (ar 0 6 fi), some (ar 0 6 se), some (ar 0 24 ta), some (ar 0 24 (icr tl ta len a se 0))] mo dy) rfl rfl (by rw [icr_0]) ?_
  refine up_to (W := fun k : Nat => AW G M_D_giveBackThrows Qr Qt 0 0 3 [some (vr 7 0), some (vi a), some (vr 7 3), some (vi (y : Int)), some (vi (k : Int)), none] [] (Hp b s t mk df jo tr [some (ob 7 [vr 7 1, vr 7 2, vr 7 3, vr 7 4, vr 7 5, vi (len : Int), vi fd, vi f1, vi f2]), some (ar 0 3024 kp), some (ar 0 6 fi), some (ar 0 6 se), some (ar 0 24 ta), some (ar 0 24 (icr tl ta len a se k))] mo dy)) y ?_ (fun k hi ih => ?_) 0 (by omega)
  · refine aw_blk (pc' := 6) (ls' := [some (vr 7 0), some (vi a), some (vr 7 3), some (vi (y : Int)), some (vi (y : Int)), none]) (st' := [vi (y : Int), vi (y : Int)]) [.inl (.iload 4), .inl (.iload_n 3)] 3 _ _ (by decide +kernel) rfl ?_
    refine aw_icmp_ge (o := 45) (tgt := 51) (by decide +kernel) (by decide) (by omega) (by omega) (fun _ => ?_) (fun c => absurd (by omega) c)
    exact aw_vret (by decide +kernel) rfl (by decide) (by decide) (hq _ _ rfl rfl)
  · have hok := ho k hi
    refine aw_blk (pc' := 6) (ls' := [some (vr 7 0), some (vi a), some (vr 7 3), some (vi (y : Int)), some (vi (k : Int)), none]) (st' := [vi (y : Int), vi (k : Int)]) [.inl (.iload 4), .inl (.iload_n 3)] 3 _ _ (by decide +kernel) rfl ?_
    refine aw_icmp_ge (o := 45) (tgt := 51) (by decide +kernel) (by decide) (by omega) (by omega) (fun c => absurd c (by omega)) (fun _ => ?_)
    refine aw_blk (pc' := 12) (ls' := [some (vr 7 0), some (vi a), some (vr 7 3), some (vi (y : Int)), some (vi (k : Int)), none]) (st' := [vr 7 3, vi (k : Int)]) [.inl (.iload 4), .inl (.aload_n 2)] 9 _ _ (by decide +kernel) rfl ?_
    refine aw_alen (by decide +kernel) rfl (fun r12 => ?_)
    refine aw_icmp_ge (o := 38) (tgt := 51) (by decide +kernel) (by decide) (by omega) (by omega) (fun c => absurd c (by omega)) (fun _ => ?_)
    refine aw_blk (pc' := 21) (ls' := [some (vr 7 0), some (vi a), some (vr 7 3), some (vi (y : Int)), some (vi (k : Int)), none]) (st' := [vi (k : Int), vr 7 3, vi a, vr 7 0]) [.inl (.aload_n 0), .inl (.iload_n 1), .inl (.aload_n 2), .inl (.iload 4)] 16 _ _ (by decide +kernel) rfl ?_
    refine aw_iald (j := k) (by decide +kernel) rfl (by omega) (by omega) (fun r21 => ?_)
    refine aw_blk (pc' := 23) (ls' := [some (vr 7 0), some (vi a), some (vr 7 3), some (vi (y : Int)), some (vi (k : Int)), none]) (st' := [vi (a + (se k)), vr 7 0]) [.inl (.iadd)] 22 _ _ (by decide +kernel) rfl ?_
    refine aw_dV (cs' := 0) (sl' := 0) (pc' := 26) (st' := [vi (ixO ta len (a + se k))]) (idx := 80) (as := [vi (a + (se k))]) (st := []) (m_D_indexOfThrow hln hs (by omega)) (by decide +kernel) (show vOK "ChanceBench$Dice" 80 M_D_indexOfThrow 1 = true by decide +kernel) rfl rfl rfl (Nat.le_of_ble_eq_true rfl) (by decide) (by decide) (by decide) rfl rfl rfl rfl ?_
    have hix : I32 (ixO ta len (a + se k)) := by unfold ixO; have := lb_le ta (a + se k) len; split <;> omega
    refine aw_blk (pc' := 31) (ls' := [some (vr 7 0), some (vi a), some (vr 7 3), some (vi (y : Int)), some (vi (k : Int)), some (vi (ixO ta len (a + se k)))]) (st' := [vi (-1), vi (ixO ta len (a + se k))]) [.inl (.istore 5), .inl (.iload 5), .inl (.iconst (-1))] 26 _ _ (by decide +kernel) rfl ?_
    refine aw_icmp_eq (o := 14) (tgt := 45) (by decide +kernel) (by decide) (by omega) (by omega) (fun c31 => ?_) (fun c31 => ?_)
    · refine aw_blk (pc' := 48) (ls' := [some (vr 7 0), some (vi a), some (vr 7 3), some (vi (y : Int)), some (vi ((k : Int) + 1)), some (vi (ixO ta len (a + se k)))]) (st' := []) [.inl (.iinc 4 1)] 45 _ _ (by decide +kernel) rfl ?_
      refine aw_goto (o := -45) (tgt := 3) (by decide +kernel) (by decide) ?_
      refine aw_ls (ls' := [some (vr 7 0), some (vi a), some (vr 7 3), some (vi (y : Int)), some (vi ((k : Int) + 1)), none]) (lsk_s (lsk_s (lsk_s (lsk_s (lsk_s (lsk_n lsk_0)))))) ?_
      exact aw_eq rfl rfl (by rw [icr_n (ixO_no hs c31)]) ih
    · obtain ⟨i, hi2, ei, vi_⟩ := ixO_yes c31
      have hti := htl i hi2
      have hhi := hits_in (a := a) (o := se) (ta i) k
      have hcr : icr tl ta len a se k i = tl i + hits a se (ta i) k := by unfold icr; rw [if_pos hi2]
      rw [ei]
      refine aw_blk (pc' := 41) (ls' := [some (vr 7 0), some (vi a), some (vr 7 3), some (vi (y : Int)), some (vi (k : Int)), some (vi (i : Int))]) (st' := [vi (i : Int), vr 7 5, vi (i : Int), vr 7 5]) [.inl (.aload_n 0), .inr (24, 7, 4), .inl (.iload 5), .inl (.dup2)] 34 _ _ (by decide +kernel) rfl ?_
      refine aw_iald (j := i) (by decide +kernel) rfl (by omega) (by omega) (fun r41 => ?_)
      refine aw_blk (pc' := 44) (ls' := [some (vr 7 0), some (vi a), some (vr 7 3), some (vi (y : Int)), some (vi (k : Int)), some (vi (i : Int))]) (st' := [vi (((icr tl ta len a se k) i) + 1), vi (i : Int), vr 7 5]) [.inl (.iconst 1), .inl (.iadd)] 42 _ _ (by decide +kernel) rfl ?_
      refine aw_iast (j := i) (h' := Hp b s t mk df jo tr [some (ob 7 [vr 7 1, vr 7 2, vr 7 3, vr 7 4, vr 7 5, vi (len : Int), vi fd, vi f1, vi f2]), some (ar 0 3024 kp), some (ar 0 6 fi), some (ar 0 6 se), some (ar 0 24 ta), some (ar 0 24 (va_up (icr tl ta len a se k) i (((icr tl ta len a se k) i) + 1)))] mo dy) (by decide +kernel) rfl (by omega) (by omega) (by omega) rfl ?_
      refine aw_blk (pc' := 48) (ls' := [some (vr 7 0), some (vi a), some (vr 7 3), some (vi (y : Int)), some (vi ((k : Int) + 1)), some (vi (i : Int))]) (st' := []) [.inl (.iinc 4 1)] 45 _ _ (by decide +kernel) rfl ?_
      refine aw_goto (o := -45) (tgt := 3) (by decide +kernel) (by decide) ?_
      refine aw_ls (ls' := [some (vr 7 0), some (vi a), some (vr 7 3), some (vi (y : Int)), some (vi ((k : Int) + 1)), none]) (lsk_s (lsk_s (lsk_s (lsk_s (lsk_s (lsk_n lsk_0)))))) ?_
      exact aw_eq rfl rfl (by rw [icr_s hs hi2 vi_]) ih

theorem m_D_take_se_1 (hln : len ≤ 24) (hs : inc ta len) (ho : ∀ j, j < y → -1000000 ≤ se j ∧ se j ≤ 1000000) (ha : -1000000 ≤ a ∧ a ≤ 1000000) (hy : y ≤ 6) (htl : ∀ i, i < len → -1000000 ≤ tl i ∧ tl i ≤ 1000000) (ht : tkOK tl ta len a se y) : ADet G M_D_takeThrows [vr 7 0, vi a, vr 7 3, vi (y : Int)] (Hp b s t mk df jo tr (sgD (len : Int) fd f1 f2 kp fi se ta tl) mo dy) (some (vi 1)) (Hp b s t mk df jo tr (sgD (len : Int) fd f1 f2 kp fi se ta (dcr tl ta len a se y)) mo dy) := by
  refine am_det (by decide +kernel) (Nat.le_of_ble_eq_true rfl) (fun Qr Qt hq => ?_)
  refine aw_blk (pc' := 3) (ls' := [some (vr 7 0), some (vi a), some (vr 7 3), some (vi (y : Int)), some (vi 0), none]) (st' := []) [.inl (.iconst 0), .inl (.istore 4)] 0 _ _ (by decide +kernel) rfl ?_
  refine aw_eq (h' := Hp b s t mk df jo tr [some (ob 7 [vr 7 1, vr 7 2, vr 7 3, vr 7 4, vr 7 5, vi (len : Int), vi fd, vi f1, vi f2]), some (ar 0 3024 kp), some (ar 0 6 fi), some (ar 0 6 se), some (ar 0 24 ta), some (ar 0 24 (dcr tl ta len a se 0))] mo dy) rfl rfl (by rw [dcr_0]) ?_
  refine up_to (W := fun k : Nat => AW G M_D_takeThrows Qr Qt 0 0 3 [some (vr 7 0), some (vi a), some (vr 7 3), some (vi (y : Int)), some (vi (k : Int)), none] [] (Hp b s t mk df jo tr [some (ob 7 [vr 7 1, vr 7 2, vr 7 3, vr 7 4, vr 7 5, vi (len : Int), vi fd, vi f1, vi f2]), some (ar 0 3024 kp), some (ar 0 6 fi), some (ar 0 6 se), some (ar 0 24 ta), some (ar 0 24 (dcr tl ta len a se k))] mo dy)) y ?_ (fun k hi ih => ?_) 0 (by omega)
  · refine aw_blk (pc' := 6) (ls' := [some (vr 7 0), some (vi a), some (vr 7 3), some (vi (y : Int)), some (vi (y : Int)), none]) (st' := [vi (y : Int), vi (y : Int)]) [.inl (.iload 4), .inl (.iload_n 3)] 3 _ _ (by decide +kernel) rfl ?_
    refine aw_icmp_ge (o := 66) (tgt := 72) (by decide +kernel) (by decide) (by omega) (by omega) (fun _ => ?_) (fun c => absurd (by omega) c)
    refine aw_blk (pc' := 73) (ls' := [some (vr 7 0), some (vi a), some (vr 7 3), some (vi (y : Int)), some (vi (y : Int)), none]) (st' := [vi 1]) [.inl (.iconst 1)] 72 _ _ (by decide +kernel) rfl ?_
    exact aw_zret (by decide +kernel) rfl (by decide) (by decide) (by omega) (hq _ _ rfl rfl)
  · have hok := ho k hi
    obtain ⟨i, hi2, vi_, hge⟩ := ht k hi
    have hti := htl i hi2
    have hhi := hits_in (a := a) (o := se) (ta i) k
    have hcr : dcr tl ta len a se k i = tl i - hits a se (ta i) k := by unfold dcr; rw [if_pos hi2]
    have hix2 : ixO ta len (a + se k) = (i : Int) := ixO_at hs hi2 vi_
    refine aw_blk (pc' := 6) (ls' := [some (vr 7 0), some (vi a), some (vr 7 3), some (vi (y : Int)), some (vi (k : Int)), none]) (st' := [vi (y : Int), vi (k : Int)]) [.inl (.iload 4), .inl (.iload_n 3)] 3 _ _ (by decide +kernel) rfl ?_
    refine aw_icmp_ge (o := 66) (tgt := 72) (by decide +kernel) (by decide) (by omega) (by omega) (fun c => absurd c (by omega)) (fun _ => ?_)
    refine aw_blk (pc' := 12) (ls' := [some (vr 7 0), some (vi a), some (vr 7 3), some (vi (y : Int)), some (vi (k : Int)), none]) (st' := [vr 7 3, vi (k : Int)]) [.inl (.iload 4), .inl (.aload_n 2)] 9 _ _ (by decide +kernel) rfl ?_
    refine aw_alen (by decide +kernel) rfl (fun r12 => ?_)
    refine aw_icmp_ge (o := 59) (tgt := 72) (by decide +kernel) (by decide) (by omega) (by omega) (fun c => absurd c (by omega)) (fun _ => ?_)
    refine aw_blk (pc' := 21) (ls' := [some (vr 7 0), some (vi a), some (vr 7 3), some (vi (y : Int)), some (vi (k : Int)), none]) (st' := [vi (k : Int), vr 7 3, vi a, vr 7 0]) [.inl (.aload_n 0), .inl (.iload_n 1), .inl (.aload_n 2), .inl (.iload 4)] 16 _ _ (by decide +kernel) rfl ?_
    refine aw_iald (j := k) (by decide +kernel) rfl (by omega) (by omega) (fun r21 => ?_)
    refine aw_blk (pc' := 23) (ls' := [some (vr 7 0), some (vi a), some (vr 7 3), some (vi (y : Int)), some (vi (k : Int)), none]) (st' := [vi (a + (se k)), vr 7 0]) [.inl (.iadd)] 22 _ _ (by decide +kernel) rfl ?_
    refine aw_dV (cs' := 0) (sl' := 0) (pc' := 26) (st' := [vi (ixO ta len (a + se k))]) (idx := 80) (as := [vi (a + (se k))]) (st := []) (m_D_indexOfThrow hln hs (by omega)) (by decide +kernel) (show vOK "ChanceBench$Dice" 80 M_D_indexOfThrow 1 = true by decide +kernel) rfl rfl rfl (Nat.le_of_ble_eq_true rfl) (by decide) (by decide) (by decide) rfl rfl rfl rfl ?_
    rw [hix2]
    refine aw_blk (pc' := 31) (ls' := [some (vr 7 0), some (vi a), some (vr 7 3), some (vi (y : Int)), some (vi (k : Int)), some (vi (i : Int))]) (st' := [vi (-1), vi (i : Int)]) [.inl (.istore 5), .inl (.iload 5), .inl (.iconst (-1))] 26 _ _ (by decide +kernel) rfl ?_
    refine aw_icmp_eq (o := 14) (tgt := 45) (by decide +kernel) (by decide) (by omega) (by omega) (fun c => absurd c (by omega)) (fun _ => ?_)
    refine aw_blk (pc' := 40) (ls' := [some (vr 7 0), some (vi a), some (vr 7 3), some (vi (y : Int)), some (vi (k : Int)), some (vi (i : Int))]) (st' := [vi (i : Int), vr 7 5]) [.inl (.aload_n 0), .inr (24, 7, 4), .inl (.iload 5)] 34 _ _ (by decide +kernel) rfl ?_
    refine aw_iald (j := i) (by decide +kernel) rfl (by omega) (by omega) (fun r40 => ?_)
    refine aw_blk (pc' := 42) (ls' := [some (vr 7 0), some (vi a), some (vr 7 3), some (vi (y : Int)), some (vi (k : Int)), some (vi (i : Int))]) (st' := [vi 1, vi ((dcr tl ta len a se k) i)]) [.inl (.iconst 1)] 41 _ _ (by decide +kernel) rfl ?_
    refine aw_icmp_ge (o := 13) (tgt := 55) (by decide +kernel) (by decide) (by omega) (by omega) (fun _ => ?_) (fun c => absurd (by omega) c)
    refine aw_blk (pc' := 62) (ls' := [some (vr 7 0), some (vi a), some (vr 7 3), some (vi (y : Int)), some (vi (k : Int)), some (vi (i : Int))]) (st' := [vi (i : Int), vr 7 5, vi (i : Int), vr 7 5]) [.inl (.aload_n 0), .inr (24, 7, 4), .inl (.iload 5), .inl (.dup2)] 55 _ _ (by decide +kernel) rfl ?_
    refine aw_iald (j := i) (by decide +kernel) rfl (by omega) (by omega) (fun r62 => ?_)
    refine aw_blk (pc' := 65) (ls' := [some (vr 7 0), some (vi a), some (vr 7 3), some (vi (y : Int)), some (vi (k : Int)), some (vi (i : Int))]) (st' := [vi (((dcr tl ta len a se k) i) - 1), vi (i : Int), vr 7 5]) [.inl (.iconst 1), .inl (.isub)] 63 _ _ (by decide +kernel) rfl ?_
    refine aw_iast (j := i) (h' := Hp b s t mk df jo tr [some (ob 7 [vr 7 1, vr 7 2, vr 7 3, vr 7 4, vr 7 5, vi (len : Int), vi fd, vi f1, vi f2]), some (ar 0 3024 kp), some (ar 0 6 fi), some (ar 0 6 se), some (ar 0 24 ta), some (ar 0 24 (va_up (dcr tl ta len a se k) i (((dcr tl ta len a se k) i) - 1)))] mo dy) (by decide +kernel) rfl (by omega) (by omega) (by omega) rfl ?_
    refine aw_blk (pc' := 69) (ls' := [some (vr 7 0), some (vi a), some (vr 7 3), some (vi (y : Int)), some (vi ((k : Int) + 1)), some (vi (i : Int))]) (st' := []) [.inl (.iinc 4 1)] 66 _ _ (by decide +kernel) rfl ?_
    refine aw_goto (o := -66) (tgt := 3) (by decide +kernel) (by decide) ?_
    refine aw_ls (ls' := [some (vr 7 0), some (vi a), some (vr 7 3), some (vi (y : Int)), some (vi ((k : Int) + 1)), none]) (lsk_s (lsk_s (lsk_s (lsk_s (lsk_s (lsk_n lsk_0)))))) ?_
    exact aw_eq rfl rfl (by rw [dcr_s hs hi2 vi_]) ih

theorem m_D_take_se_0 (hln : len ≤ 24) (hs : inc ta len) (ho : ∀ j, j < y → -1000000 ≤ se j ∧ se j ≤ 1000000) (ha : -1000000 ≤ a ∧ a ≤ 1000000) (hy : y ≤ 6) (htl : ∀ i, i < len → -900000 ≤ tl i ∧ tl i ≤ 900000) (htb : ∀ i, i < len → -900000 ≤ tl i) (ht : ¬ tkOK tl ta len a se y) : ADet G M_D_takeThrows [vr 7 0, vi a, vr 7 3, vi (y : Int)] (Hp b s t mk df jo tr (sgD (len : Int) fd f1 f2 kp fi se ta tl) mo dy) (some (vi 0)) (Hp b s t mk df jo tr (sgD (len : Int) fd f1 f2 kp fi se ta tl) mo dy) := by
  refine am_det (by decide +kernel) (Nat.le_of_ble_eq_true rfl) (fun Qr Qt hq => ?_)
  obtain ⟨z, hzy, hzp, hzn⟩ := tk_first ht
  refine aw_blk (pc' := 3) (ls' := [some (vr 7 0), some (vi a), some (vr 7 3), some (vi (y : Int)), some (vi 0), none]) (st' := []) [.inl (.iconst 0), .inl (.istore 4)] 0 _ _ (by decide +kernel) rfl ?_
  refine aw_eq (h' := Hp b s t mk df jo tr [some (ob 7 [vr 7 1, vr 7 2, vr 7 3, vr 7 4, vr 7 5, vi (len : Int), vi fd, vi f1, vi f2]), some (ar 0 3024 kp), some (ar 0 6 fi), some (ar 0 6 se), some (ar 0 24 ta), some (ar 0 24 (dcr tl ta len a se 0))] mo dy) rfl rfl (by rw [dcr_0]) ?_
  refine up_to (W := fun k : Nat => AW G M_D_takeThrows Qr Qt 0 0 3 [some (vr 7 0), some (vi a), some (vr 7 3), some (vi (y : Int)), some (vi (k : Int)), none] [] (Hp b s t mk df jo tr [some (ob 7 [vr 7 1, vr 7 2, vr 7 3, vr 7 4, vr 7 5, vi (len : Int), vi fd, vi f1, vi f2]), some (ar 0 3024 kp), some (ar 0 6 fi), some (ar 0 6 se), some (ar 0 24 ta), some (ar 0 24 (dcr tl ta len a se k))] mo dy)) z ?_ (fun k hi ih => ?_) 0 (by omega)
  · have hok := ho z hzy
    have hdt : ∀ i, i < len → -1000006 ≤ dcr tl ta len a se z i ∧ dcr tl ta len a se z i ≤ 1000000 := fun i hi => by have := htl i hi; have := hits_in (a := a) (o := se) (ta i) z; unfold dcr; rw [if_pos hi]; omega
    refine aw_blk (pc' := 6) (ls' := [some (vr 7 0), some (vi a), some (vr 7 3), some (vi (y : Int)), some (vi (z : Int)), none]) (st' := [vi (y : Int), vi (z : Int)]) [.inl (.iload 4), .inl (.iload_n 3)] 3 _ _ (by decide +kernel) rfl ?_
    refine aw_icmp_ge (o := 66) (tgt := 72) (by decide +kernel) (by decide) (by omega) (by omega) (fun c => absurd c (by omega)) (fun _ => ?_)
    refine aw_blk (pc' := 12) (ls' := [some (vr 7 0), some (vi a), some (vr 7 3), some (vi (y : Int)), some (vi (z : Int)), none]) (st' := [vr 7 3, vi (z : Int)]) [.inl (.iload 4), .inl (.aload_n 2)] 9 _ _ (by decide +kernel) rfl ?_
    refine aw_alen (by decide +kernel) rfl (fun r12 => ?_)
    refine aw_icmp_ge (o := 59) (tgt := 72) (by decide +kernel) (by decide) (by omega) (by omega) (fun c => absurd c (by omega)) (fun _ => ?_)
    refine aw_blk (pc' := 21) (ls' := [some (vr 7 0), some (vi a), some (vr 7 3), some (vi (y : Int)), some (vi (z : Int)), none]) (st' := [vi (z : Int), vr 7 3, vi a, vr 7 0]) [.inl (.aload_n 0), .inl (.iload_n 1), .inl (.aload_n 2), .inl (.iload 4)] 16 _ _ (by decide +kernel) rfl ?_
    refine aw_iald (j := z) (by decide +kernel) rfl (by omega) (by omega) (fun r21 => ?_)
    refine aw_blk (pc' := 23) (ls' := [some (vr 7 0), some (vi a), some (vr 7 3), some (vi (y : Int)), some (vi (z : Int)), none]) (st' := [vi (a + (se z)), vr 7 0]) [.inl (.iadd)] 22 _ _ (by decide +kernel) rfl ?_
    refine aw_dV (cs' := 0) (sl' := 0) (pc' := 26) (st' := [vi (ixO ta len (a + se z))]) (idx := 80) (as := [vi (a + (se z))]) (st := []) (m_D_indexOfThrow hln hs (by omega)) (by decide +kernel) (show vOK "ChanceBench$Dice" 80 M_D_indexOfThrow 1 = true by decide +kernel) rfl rfl rfl (Nat.le_of_ble_eq_true rfl) (by decide) (by decide) (by decide) rfl rfl rfl rfl ?_
    have hix : I32 (ixO ta len (a + se z)) := by unfold ixO; have := lb_le ta (a + se z) len; split <;> omega
    refine aw_blk (pc' := 31) (ls' := [some (vr 7 0), some (vi a), some (vr 7 3), some (vi (y : Int)), some (vi (z : Int)), some (vi (ixO ta len (a + se z)))]) (st' := [vi (-1), vi (ixO ta len (a + se z))]) [.inl (.istore 5), .inl (.iload 5), .inl (.iconst (-1))] 26 _ _ (by decide +kernel) rfl ?_
    refine aw_icmp_eq (o := 14) (tgt := 45) (by decide +kernel) (by decide) (by omega) (by omega) (fun c31 => ?_) (fun c31 => ?_)
    · refine aw_blk (pc' := 50) (ls' := [some (vr 7 0), some (vi a), some (vr 7 3), some (vi (y : Int)), some (vi (z : Int)), some (vi (ixO ta len (a + se z)))]) (st' := [vi (z : Int), vr 7 3, vi a, vr 7 0]) [.inl (.aload_n 0), .inl (.iload_n 1), .inl (.aload_n 2), .inl (.iload 4)] 45 _ _ (by decide +kernel) rfl ?_
      refine aw_dV (cs' := 0) (sl' := 0) (pc' := 53) (st' := []) (idx := 76) (as := [vi a, vr 7 3, vi (z : Int)]) (st := []) (m_D_giveBack_se (y := z) hln hs (fun j hj => ho j (by omega)) ha (by omega) (fun i hi => by have := htl i hi; have := hits_in (a := a) (o := se) (ta i) z; have := htb i hi; unfold dcr; rw [if_pos hi]; omega)) (by decide +kernel) (show vOK "ChanceBench$Dice" 76 M_D_giveBackThrows 3 = true by decide +kernel) rfl rfl rfl (Nat.le_of_ble_eq_true rfl) (by decide) (by decide) (by decide) rfl rfl rfl rfl ?_
      refine aw_blk (pc' := 54) (ls' := [some (vr 7 0), some (vi a), some (vr 7 3), some (vi (y : Int)), some (vi (z : Int)), some (vi (ixO ta len (a + se z)))]) (st' := [vi 0]) [.inl (.iconst 0)] 53 _ _ (by decide +kernel) rfl ?_
      exact aw_zret (by decide +kernel) rfl (by decide) (by decide) (by omega) (hq _ _ rfl (by rw [icr_dcr]))
    · obtain ⟨i, hi2, ei, vi_⟩ := ixO_yes c31
      have hlt : ¬ 1 ≤ dcr tl ta len a se z i := fun q => hzn ⟨i, hi2, vi_, q⟩
      have hdi := hdt i hi2
      rw [ei]
      refine aw_blk (pc' := 40) (ls' := [some (vr 7 0), some (vi a), some (vr 7 3), some (vi (y : Int)), some (vi (z : Int)), some (vi (i : Int))]) (st' := [vi (i : Int), vr 7 5]) [.inl (.aload_n 0), .inr (24, 7, 4), .inl (.iload 5)] 34 _ _ (by decide +kernel) rfl ?_
      refine aw_iald (j := i) (by decide +kernel) rfl (by omega) (by omega) (fun r40 => ?_)
      refine aw_blk (pc' := 42) (ls' := [some (vr 7 0), some (vi a), some (vr 7 3), some (vi (y : Int)), some (vi (z : Int)), some (vi (i : Int))]) (st' := [vi 1, vi ((dcr tl ta len a se z) i)]) [.inl (.iconst 1)] 41 _ _ (by decide +kernel) rfl ?_
      refine aw_icmp_ge (o := 13) (tgt := 55) (by decide +kernel) (by decide) (by omega) (by omega) (fun c => absurd c (by omega)) (fun _ => ?_)
      refine aw_blk (pc' := 50) (ls' := [some (vr 7 0), some (vi a), some (vr 7 3), some (vi (y : Int)), some (vi (z : Int)), some (vi (i : Int))]) (st' := [vi (z : Int), vr 7 3, vi a, vr 7 0]) [.inl (.aload_n 0), .inl (.iload_n 1), .inl (.aload_n 2), .inl (.iload 4)] 45 _ _ (by decide +kernel) rfl ?_
      refine aw_dV (cs' := 0) (sl' := 0) (pc' := 53) (st' := []) (idx := 76) (as := [vi a, vr 7 3, vi (z : Int)]) (st := []) (m_D_giveBack_se (y := z) hln hs (fun j hj => ho j (by omega)) ha (by omega) (fun i hi => by have := htl i hi; have := hits_in (a := a) (o := se) (ta i) z; have := htb i hi; unfold dcr; rw [if_pos hi]; omega)) (by decide +kernel) (show vOK "ChanceBench$Dice" 76 M_D_giveBackThrows 3 = true by decide +kernel) rfl rfl rfl (Nat.le_of_ble_eq_true rfl) (by decide) (by decide) (by decide) rfl rfl rfl rfl ?_
      refine aw_blk (pc' := 54) (ls' := [some (vr 7 0), some (vi a), some (vr 7 3), some (vi (y : Int)), some (vi (z : Int)), some (vi (i : Int))]) (st' := [vi 0]) [.inl (.iconst 0)] 53 _ _ (by decide +kernel) rfl ?_
      exact aw_zret (by decide +kernel) rfl (by decide) (by decide) (by omega) (hq _ _ rfl (by rw [icr_dcr]))
  · have hok := ho k (by omega)
    obtain ⟨i, hi2, vi_, hge⟩ := hzp k hi
    have hti := htl i hi2
    have hhi := hits_in (a := a) (o := se) (ta i) k
    have hcr : dcr tl ta len a se k i = tl i - hits a se (ta i) k := by unfold dcr; rw [if_pos hi2]
    have hix2 : ixO ta len (a + se k) = (i : Int) := ixO_at hs hi2 vi_
    refine aw_blk (pc' := 6) (ls' := [some (vr 7 0), some (vi a), some (vr 7 3), some (vi (y : Int)), some (vi (k : Int)), none]) (st' := [vi (y : Int), vi (k : Int)]) [.inl (.iload 4), .inl (.iload_n 3)] 3 _ _ (by decide +kernel) rfl ?_
    refine aw_icmp_ge (o := 66) (tgt := 72) (by decide +kernel) (by decide) (by omega) (by omega) (fun c => absurd c (by omega)) (fun _ => ?_)
    refine aw_blk (pc' := 12) (ls' := [some (vr 7 0), some (vi a), some (vr 7 3), some (vi (y : Int)), some (vi (k : Int)), none]) (st' := [vr 7 3, vi (k : Int)]) [.inl (.iload 4), .inl (.aload_n 2)] 9 _ _ (by decide +kernel) rfl ?_
    refine aw_alen (by decide +kernel) rfl (fun r12 => ?_)
    refine aw_icmp_ge (o := 59) (tgt := 72) (by decide +kernel) (by decide) (by omega) (by omega) (fun c => absurd c (by omega)) (fun _ => ?_)
    refine aw_blk (pc' := 21) (ls' := [some (vr 7 0), some (vi a), some (vr 7 3), some (vi (y : Int)), some (vi (k : Int)), none]) (st' := [vi (k : Int), vr 7 3, vi a, vr 7 0]) [.inl (.aload_n 0), .inl (.iload_n 1), .inl (.aload_n 2), .inl (.iload 4)] 16 _ _ (by decide +kernel) rfl ?_
    refine aw_iald (j := k) (by decide +kernel) rfl (by omega) (by omega) (fun r21 => ?_)
    refine aw_blk (pc' := 23) (ls' := [some (vr 7 0), some (vi a), some (vr 7 3), some (vi (y : Int)), some (vi (k : Int)), none]) (st' := [vi (a + (se k)), vr 7 0]) [.inl (.iadd)] 22 _ _ (by decide +kernel) rfl ?_
    refine aw_dV (cs' := 0) (sl' := 0) (pc' := 26) (st' := [vi (ixO ta len (a + se k))]) (idx := 80) (as := [vi (a + (se k))]) (st := []) (m_D_indexOfThrow hln hs (by omega)) (by decide +kernel) (show vOK "ChanceBench$Dice" 80 M_D_indexOfThrow 1 = true by decide +kernel) rfl rfl rfl (Nat.le_of_ble_eq_true rfl) (by decide) (by decide) (by decide) rfl rfl rfl rfl ?_
    rw [hix2]
    refine aw_blk (pc' := 31) (ls' := [some (vr 7 0), some (vi a), some (vr 7 3), some (vi (y : Int)), some (vi (k : Int)), some (vi (i : Int))]) (st' := [vi (-1), vi (i : Int)]) [.inl (.istore 5), .inl (.iload 5), .inl (.iconst (-1))] 26 _ _ (by decide +kernel) rfl ?_
    refine aw_icmp_eq (o := 14) (tgt := 45) (by decide +kernel) (by decide) (by omega) (by omega) (fun c => absurd c (by omega)) (fun _ => ?_)
    refine aw_blk (pc' := 40) (ls' := [some (vr 7 0), some (vi a), some (vr 7 3), some (vi (y : Int)), some (vi (k : Int)), some (vi (i : Int))]) (st' := [vi (i : Int), vr 7 5]) [.inl (.aload_n 0), .inr (24, 7, 4), .inl (.iload 5)] 34 _ _ (by decide +kernel) rfl ?_
    refine aw_iald (j := i) (by decide +kernel) rfl (by omega) (by omega) (fun r40 => ?_)
    refine aw_blk (pc' := 42) (ls' := [some (vr 7 0), some (vi a), some (vr 7 3), some (vi (y : Int)), some (vi (k : Int)), some (vi (i : Int))]) (st' := [vi 1, vi ((dcr tl ta len a se k) i)]) [.inl (.iconst 1)] 41 _ _ (by decide +kernel) rfl ?_
    refine aw_icmp_ge (o := 13) (tgt := 55) (by decide +kernel) (by decide) (by omega) (by omega) (fun _ => ?_) (fun c => absurd (by omega) c)
    refine aw_blk (pc' := 62) (ls' := [some (vr 7 0), some (vi a), some (vr 7 3), some (vi (y : Int)), some (vi (k : Int)), some (vi (i : Int))]) (st' := [vi (i : Int), vr 7 5, vi (i : Int), vr 7 5]) [.inl (.aload_n 0), .inr (24, 7, 4), .inl (.iload 5), .inl (.dup2)] 55 _ _ (by decide +kernel) rfl ?_
    refine aw_iald (j := i) (by decide +kernel) rfl (by omega) (by omega) (fun r62 => ?_)
    refine aw_blk (pc' := 65) (ls' := [some (vr 7 0), some (vi a), some (vr 7 3), some (vi (y : Int)), some (vi (k : Int)), some (vi (i : Int))]) (st' := [vi (((dcr tl ta len a se k) i) - 1), vi (i : Int), vr 7 5]) [.inl (.iconst 1), .inl (.isub)] 63 _ _ (by decide +kernel) rfl ?_
    refine aw_iast (j := i) (h' := Hp b s t mk df jo tr [some (ob 7 [vr 7 1, vr 7 2, vr 7 3, vr 7 4, vr 7 5, vi (len : Int), vi fd, vi f1, vi f2]), some (ar 0 3024 kp), some (ar 0 6 fi), some (ar 0 6 se), some (ar 0 24 ta), some (ar 0 24 (va_up (dcr tl ta len a se k) i (((dcr tl ta len a se k) i) - 1)))] mo dy) (by decide +kernel) rfl (by omega) (by omega) (by omega) rfl ?_
    refine aw_blk (pc' := 69) (ls' := [some (vr 7 0), some (vi a), some (vr 7 3), some (vi (y : Int)), some (vi ((k : Int) + 1)), some (vi (i : Int))]) (st' := []) [.inl (.iinc 4 1)] 66 _ _ (by decide +kernel) rfl ?_
    refine aw_goto (o := -66) (tgt := 3) (by decide +kernel) (by decide) ?_
    refine aw_ls (ls' := [some (vr 7 0), some (vi a), some (vr 7 3), some (vi (y : Int)), some (vi ((k : Int) + 1)), none]) (lsk_s (lsk_s (lsk_s (lsk_s (lsk_s (lsk_n lsk_0)))))) ?_
    exact aw_eq rfl rfl (by rw [dcr_s hs hi2 vi_]) ih

def kpR (kp fi se : Nat → Int) (F i : Nat) : Nat → Int := fun k => if 12 * F ≤ k ∧ k < 12 * F + i then fi (k - 12 * F) else if 12 * F + 6 ≤ k ∧ k < 12 * F + 6 + i then se (k - (12 * F + 6)) else kp k
theorem kpR_0 {kp fi se : Nat → Int} {F : Nat} : kpR kp fi se F 0 = kp := by funext k; unfold kpR; rw [if_neg (by omega), if_neg (by omega)]
theorem kpR_s {kp fi se : Nat → Int} {F i : Nat} (hi : i < 6) : va_up (va_up (kpR kp fi se F i) (12 * F + i) (fi i)) (12 * F + 6 + i) (se i) = kpR kp fi se F (i + 1) := by
  funext k
  simp only [va_up, kpR]
  by_cases h1 : k = 12 * F + 6 + i
  · rw [if_pos h1, if_neg (by omega), if_pos (by omega), show k - (12 * F + 6) = i by omega]
  · rw [if_neg h1]
    by_cases h2 : k = 12 * F + i
    · rw [if_pos h2, if_pos (by omega), show k - 12 * F = i by omega]
    · rw [if_neg h2]
      by_cases h3 : 12 * F ≤ k ∧ k < 12 * F + i
      · rw [if_pos h3, if_pos (by omega)]
      · rw [if_neg h3, if_neg (show ¬ (12 * F ≤ k ∧ k < 12 * F + (i + 1)) by omega)]
        by_cases h4 : 12 * F + 6 ≤ k ∧ k < 12 * F + 6 + i
        · rw [if_pos h4, if_pos (by omega)]
        · rw [if_neg h4, if_neg (by omega)]
theorem m_D_keep {F : Nat} (hF : F < 252) : ADet G M_D_keep [vr 7 0] (Hp b s t mk df jo tr (sgD (len : Int) (F : Int) f1 f2 kp fi se ta tl) mo dy) none (Hp b s t mk df jo tr (sgD (len : Int) ((F : Int) + 1) f1 f2 (kpR kp fi se F 6) fi se ta tl) mo dy) := by
  refine am_det (by decide +kernel) (Nat.le_of_ble_eq_true rfl) (fun Qr Qt hq => ?_)
  refine aw_blk (pc' := 7) (ls' := [some (vr 7 0), none, none]) (st' := [vi 252, vi (F : Int)]) [.inl (.aload_n 0), .inr (31, 7, 6), .inl (.sipush 252)] 0 _ _ (by decide +kernel) rfl ?_
  refine aw_icmp_lt (o := 4) (tgt := 11) (by decide +kernel) (by decide) (by omega) (by omega) (fun _ => ?_) (fun c => absurd (by omega) c)
  refine aw_blk (pc' := 21) (ls' := [some (vr 7 0), some (vi ((F : Int) * 12)), some (vi 0)]) (st' := []) [.inl (.aload_n 0), .inr (31, 7, 6), .inl (.bipush 12), .inl (.imul), .inl (.istore_n 1), .inl (.iconst 0), .inl (.istore_n 2)] 11 _ _ (by decide +kernel) rfl ?_
  refine aw_eq (h' := Hp b s t mk df jo tr [some (ob 7 [vr 7 1, vr 7 2, vr 7 3, vr 7 4, vr 7 5, vi (len : Int), vi (F : Int), vi f1, vi f2]), some (ar 0 3024 (kpR kp fi se F 0)), some (ar 0 6 fi), some (ar 0 6 se), some (ar 0 24 ta), some (ar 0 24 tl)] mo dy) rfl rfl (by rw [kpR_0]) ?_
  refine up_to (W := fun i : Nat => AW G M_D_keep Qr Qt 0 0 21 [some (vr 7 0), some (vi ((F : Int) * 12)), some (vi (i : Int))] [] (Hp b s t mk df jo tr [some (ob 7 [vr 7 1, vr 7 2, vr 7 3, vr 7 4, vr 7 5, vi (len : Int), vi (F : Int), vi f1, vi f2]), some (ar 0 3024 (kpR kp fi se F i)), some (ar 0 6 fi), some (ar 0 6 se), some (ar 0 24 ta), some (ar 0 24 tl)] mo dy)) 6 ?_ (fun i hi ih => ?_) 0 (by omega)
  · refine aw_blk (pc' := 24) (ls' := [some (vr 7 0), some (vi ((F : Int) * 12)), some (vi (6 : Int))]) (st' := [vi 6, vi (6 : Int)]) [.inl (.iload_n 2), .inl (.bipush 6)] 21 _ _ (by decide +kernel) rfl ?_
    refine aw_icmp_ge (o := 40) (tgt := 64) (by decide +kernel) (by decide) (by omega) (by omega) (fun _ => ?_) (fun c => absurd (by omega) c)
    refine aw_blk (pc' := 71) (ls' := [some (vr 7 0), some (vi ((F : Int) * 12)), some (vi (6 : Int))]) (st' := [vi ((F : Int) + 1), vr 7 0]) [.inl (.aload_n 0), .inl (.dup), .inr (31, 7, 6), .inl (.iconst 1), .inl (.iadd)] 64 _ _ (by decide +kernel) rfl ?_
    refine aw_put (idx := 31) (ci := 7) (k := 6) (h' := Hp b s t mk df jo tr [some (ob 7 [vr 7 1, vr 7 2, vr 7 3, vr 7 4, vr 7 5, vi (len : Int), vi ((F : Int) + 1), vi f1, vi f2]), some (ar 0 3024 (kpR kp fi se F 6)), some (ar 0 6 fi), some (ar 0 6 se), some (ar 0 24 ta), some (ar 0 24 tl)] mo dy) (by decide +kernel) (by decide +kernel) rfl (Nat.le_of_ble_eq_true rfl) (show I32 _ from by omega) rfl ?_
    exact aw_vret (by decide +kernel) rfl (by decide) (by decide) (hq _ _ rfl rfl)
  · refine aw_blk (pc' := 24) (ls' := [some (vr 7 0), some (vi ((F : Int) * 12)), some (vi (i : Int))]) (st' := [vi 6, vi (i : Int)]) [.inl (.iload_n 2), .inl (.bipush 6)] 21 _ _ (by decide +kernel) rfl ?_
    refine aw_icmp_ge (o := 40) (tgt := 64) (by decide +kernel) (by decide) (by omega) (by omega) (fun c => absurd c (by omega)) (fun _ => ?_)
    refine aw_blk (pc' := 39) (ls' := [some (vr 7 0), some (vi ((F : Int) * 12)), some (vi (i : Int))]) (st' := [vi (i : Int), vr 7 2, vi (((F : Int) * 12) + (i : Int)), vr 7 1]) [.inl (.aload_n 0), .inr (11, 7, 0), .inl (.iload_n 1), .inl (.iload_n 2), .inl (.iadd), .inl (.aload_n 0), .inr (15, 7, 1), .inl (.iload_n 2)] 27 _ _ (by decide +kernel) rfl ?_
    refine aw_iald (j := i) (by decide +kernel) rfl (by omega) (by omega) (fun r39 => ?_)
    refine aw_iast (j := 12 * F + i) (h' := Hp b s t mk df jo tr [some (ob 7 [vr 7 1, vr 7 2, vr 7 3, vr 7 4, vr 7 5, vi (len : Int), vi (F : Int), vi f1, vi f2]), some (ar 0 3024 (va_up (kpR kp fi se F i) (12 * F + i) (fi i))), some (ar 0 6 fi), some (ar 0 6 se), some (ar 0 24 ta), some (ar 0 24 tl)] mo dy) (by decide +kernel) rfl (by omega) (by omega) (by omega) rfl ?_
    refine aw_blk (pc' := 56) (ls' := [some (vr 7 0), some (vi ((F : Int) * 12)), some (vi (i : Int))]) (st' := [vi (i : Int), vr 7 3, vi ((((F : Int) * 12) + 6) + (i : Int)), vr 7 1]) [.inl (.aload_n 0), .inr (11, 7, 0), .inl (.iload_n 1), .inl (.bipush 6), .inl (.iadd), .inl (.iload_n 2), .inl (.iadd), .inl (.aload_n 0), .inr (18, 7, 2), .inl (.iload_n 2)] 41 _ _ (by decide +kernel) rfl ?_
    refine aw_iald (j := i) (by decide +kernel) rfl (by omega) (by omega) (fun r56 => ?_)
    refine aw_iast (j := 12 * F + 6 + i) (h' := Hp b s t mk df jo tr [some (ob 7 [vr 7 1, vr 7 2, vr 7 3, vr 7 4, vr 7 5, vi (len : Int), vi (F : Int), vi f1, vi f2]), some (ar 0 3024 (va_up (va_up (kpR kp fi se F i) (12 * F + i) (fi i)) (12 * F + 6 + i) (se i))), some (ar 0 6 fi), some (ar 0 6 se), some (ar 0 24 ta), some (ar 0 24 tl)] mo dy) (by decide +kernel) rfl (by omega) (by omega) (by omega) rfl ?_
    refine aw_blk (pc' := 61) (ls' := [some (vr 7 0), some (vi ((F : Int) * 12)), some (vi ((i : Int) + 1))]) (st' := []) [.inl (.iinc 2 1)] 58 _ _ (by decide +kernel) rfl ?_
    refine aw_goto (o := -40) (tgt := 21) (by decide +kernel) (by decide) ?_
    exact aw_eq rfl rfl (by rw [kpR_s hi]) ih

end
