theorem fls_lt {p q r s tn : Int} (h : p * s < r * q) : fls p q r s tn = if tn = 0 then 1 else 0 := by unfold fls; rw [if_neg (by omega), if_pos h]
theorem fls_gt {p q r s tn : Int} (h : r * q < p * s) : fls p q r s tn = if tn = 0 then 0 else 1 := by unfold fls; rw [if_neg (by omega), if_neg (by omega)]
theorem fls_0 {p q r s tn : Int} (h : p * s = r * q) : fls p q r s tn = 0 := by unfold fls; rw [if_pos h]
theorem fls_00 {p q r s : Int} : fls p q r s 0 = if p * s < r * q then 1 else 0 := by
  unfold fls
  by_cases h1 : p * s = r * q
  · rw [if_pos h1, if_neg (by omega)]
  · rw [if_neg h1]
    by_cases h2 : p * s < r * q
    · rw [if_pos h2, if_pos h2]; rfl
    · rw [if_neg h2, if_neg h2]; rfl
theorem fls_sw {p q r s tn : Int} (hp : 0 ≤ p) (hr : 0 ≤ r) (hq : 1 ≤ q) (hs : 1 ≤ s) (h : p / q = r / s) (ht : tn = 0 ∨ tn = 1) : fls q (p % q) s (r % s) (if tn = 0 then 1 else 0) = fls p q r s tn := by
  obtain ⟨a, b, c⟩ := fl_eq hp hr hq hs h
  rw [Int.mul_comm (p % q), Int.mul_comm (r % s)] at a
  rcases Int.lt_trichotomy (p * s) (r * q) with z | z | z
  · rw [fls_lt z, fls_gt (by omega)]; rcases ht with y | y <;> simp [y]
  · rw [fls_0 z, fls_0 (by omega)]
  · rw [fls_gt z, fls_lt (by omega)]; rcases ht with y | y <;> simp [y]
section
variable {G : GT} {h : HT} {b s t mk df jo tr di dy : SG} {a c d e B : Int} {n m k j i0 : Nat} {f g : Nat → Int} {th ln by9 dn ac bd pm pq tk fo f1 f2 : Int} {xtp xwg xwh xmd xsl xhw xhs xhd xha xp1 xp2 xp3 xl1 xl2 xrt xlf xdc xhn xsu : Nat → Int} {T : Int → Int} {p : Prop}
variable {q q2 : Nat} {s0 : Int}
theorem l_M_il {Qr : Option AV → HT → Prop} {Qt : HT → Prop} : ∀ (y : Nat) (x z w tn : Int) (a17 a18 a19 a20 a21 a22 : Option AV), (0 ≤ x ∧ x ≤ 4398046511104) → (1 ≤ (y : Int) ∧ (y : Int) ≤ 4398046511104) → (0 ≤ z ∧ z ≤ 4398046511104) → (1 ≤ w ∧ w ≤ 4398046511104) → (tn = 0 ∨ tn = 1) → (∀ g, g = some (vi (fls x (y : Int) z w tn)) → Qr g h) → AW G M_M_isLess Qr Qt 0 0 17 [some (vl a), none, some (vl c), none, some (vl d), none, some (vl e), none, some (vl x), none, some (vl (y : Int)), none, some (vl z), none, some (vl w), none, some (vi tn), a17, a18, a19, a20, a21, a22] [] h := by
  intro y
  induction y using Nat.strongRecOn with
  | ind y ih =>
    intro x z w tn a17 a18 a19 a20 a21 a22 hx hy hz hw ht hq
    refine aw_ls (ls' := [some (vl a), none, some (vl c), none, some (vl d), none, some (vl e), none, some (vl x), none, some (vl (y : Int)), none, some (vl z), none, some (vl w), none, some (vi tn), none, none, none, none, none, none]) (lsk_s (lsk_n (lsk_s (lsk_n (lsk_s (lsk_n (lsk_s (lsk_n (lsk_s (lsk_n (lsk_s (lsk_n (lsk_s (lsk_n (lsk_s (lsk_n (lsk_s (lsk_n (lsk_n (lsk_n (lsk_n (lsk_n (lsk_n lsk_0))))))))))))))))))))))) ?_
    have dx := tdiv_nn (x := x) (y := (y : Int)) hx.1 hx.2 hy.1
    have dz := tdiv_nn (x := z) (y := w) hz.1 hz.2 hw.1
    have mx := tmod_nn (x := x) (y := (y : Int)) hx.1 hy.1
    have mz := tmod_nn (x := z) (y := w) hz.1 hw.1
    have e1 := Int.tdiv_eq_ediv_of_nonneg (a := x) (b := (y : Int)) hx.1
    have e2 := Int.tdiv_eq_ediv_of_nonneg (a := z) (b := w) hz.1
    have e3 := Int.tmod_eq_emod_of_nonneg (a := x) (b := (y : Int)) hx.1
    have e4 := Int.tmod_eq_emod_of_nonneg (a := z) (b := w) hz.1
    refine aw_blk (pc' := 21) (ls' := [some (vl a), none, some (vl c), none, some (vl d), none, some (vl e), none, some (vl x), none, some (vl (y : Int)), none, some (vl z), none, some (vl w), none, some (vi tn), none, none, none, none, none, none]) (st' := [vl (y : Int), vl x]) [.inl (.lload 8), .inl (.lload 10)] 17 _ _ (by decide +kernel) rfl ?_
    refine aw_ldiv (by decide +kernel) (by omega) (by omega) (by omega) ?_
    rw [e1]
    refine aw_blk (pc' := 28) (ls' := [some (vl a), none, some (vl c), none, some (vl d), none, some (vl e), none, some (vl x), none, some (vl (y : Int)), none, some (vl z), none, some (vl w), none, some (vi tn), some (vl (x / (y : Int))), none, none, none, none, none]) (st' := [vl w, vl z]) [.inl (.lstore 17), .inl (.lload 12), .inl (.lload 14)] 22 _ _ (by decide +kernel) rfl ?_
    refine aw_ldiv (by decide +kernel) (by omega) (by omega) (by omega) ?_
    rw [e2]
    rw [e1] at dx
    rw [e2] at dz
    rw [e3] at mx
    rw [e4] at mz
    refine aw_blk (pc' := 35) (ls' := [some (vl a), none, some (vl c), none, some (vl d), none, some (vl e), none, some (vl x), none, some (vl (y : Int)), none, some (vl z), none, some (vl w), none, some (vi tn), some (vl (x / (y : Int))), none, some (vl (z / w)), none, none, none]) (st' := [vl (z / w), vl (x / (y : Int))]) [.inl (.lstore 19), .inl (.lload 17), .inl (.lload 19)] 29 _ _ (by decide +kernel) rfl ?_
    refine aw_lcmp (by decide +kernel) (by omega) (by omega) ?_
    refine aw_if_eq (o := 27) (tgt := 63) (by decide +kernel) (by decide) (cmpI_in _ _) (fun cq => ?_) (fun cq => ?_)
    · rw [cmpI_eq] at cq
      obtain ⟨f1_, f2_, f3_⟩ := fl_eq hx.1 hz.1 hy.1 hw.1 cq
      refine aw_blk (pc' := 67) (ls' := [some (vl a), none, some (vl c), none, some (vl d), none, some (vl e), none, some (vl x), none, some (vl (y : Int)), none, some (vl z), none, some (vl w), none, some (vi tn), some (vl (x / (y : Int))), none, some (vl (z / w)), none, none, none]) (st' := [vl (y : Int), vl x]) [.inl (.lload 8), .inl (.lload 10)] 63 _ _ (by decide +kernel) rfl ?_
      refine aw_lrem (by decide +kernel) (by omega) (by omega) (by omega) ?_
      rw [e3]
      refine aw_blk (pc' := 74) (ls' := [some (vl a), none, some (vl c), none, some (vl d), none, some (vl e), none, some (vl (x % (y : Int))), none, some (vl (y : Int)), none, some (vl z), none, some (vl w), none, some (vi tn), some (vl (x / (y : Int))), none, some (vl (z / w)), none, none, none]) (st' := [vl w, vl z]) [.inl (.lstore 8), .inl (.lload 12), .inl (.lload 14)] 68 _ _ (by decide +kernel) rfl ?_
      refine aw_lrem (by decide +kernel) (by omega) (by omega) (by omega) ?_
      rw [e4]
      refine aw_blk (pc' := 80) (ls' := [some (vl a), none, some (vl c), none, some (vl d), none, some (vl e), none, some (vl (x % (y : Int))), none, some (vl (y : Int)), none, some (vl (z % w)), none, some (vl w), none, some (vi tn), some (vl (x / (y : Int))), none, some (vl (z / w)), none, none, none]) (st' := [vl 0, vl (x % (y : Int))]) [.inl (.lstore 12), .inl (.lload 8), .inl (.lconst 0)] 75 _ _ (by decide +kernel) rfl ?_
      refine aw_lcmp (by decide +kernel) (by omega) (by omega) ?_
      refine aw_if_eq (o := 10) (tgt := 91) (by decide +kernel) (by decide) (cmpI_in _ _) (fun cp => ?_) (fun cp => ?_)
      · rw [cmpI_eq] at cp
        refine aw_blk (pc' := 95) (ls' := [some (vl a), none, some (vl c), none, some (vl d), none, some (vl e), none, some (vl (x % (y : Int))), none, some (vl (y : Int)), none, some (vl (z % w)), none, some (vl w), none, some (vi tn), some (vl (x / (y : Int))), none, some (vl (z / w)), none, none, none]) (st' := [vl (z % w), vl (x % (y : Int))]) [.inl (.lload 8), .inl (.lload 12)] 91 _ _ (by decide +kernel) rfl ?_
        refine aw_lcmp (by decide +kernel) (by omega) (by omega) ?_
        refine aw_if_eq (o := 24) (tgt := 120) (by decide +kernel) (by decide) (cmpI_in _ _) (fun cz => ?_) (fun cz => ?_)
        · rw [cmpI_eq] at cz
          have hg : fls x (y : Int) z w tn = 0 := fls_0 (by have g1 : x % (y : Int) = 0 := (by omega); have g2 : z % w = 0 := (by omega); rw [g1, g2, Int.zero_mul, Int.zero_mul] at f1_; omega)
          refine aw_blk (pc' := 121) (ls' := [some (vl a), none, some (vl c), none, some (vl d), none, some (vl e), none, some (vl (x % (y : Int))), none, some (vl (y : Int)), none, some (vl (z % w)), none, some (vl w), none, some (vi tn), some (vl (x / (y : Int))), none, some (vl (z / w)), none, none, none]) (st' := [vi 0]) [.inl (.iconst 0)] 120 _ _ (by decide +kernel) rfl ?_
          exact aw_zret (by decide +kernel) rfl (by decide) (by decide) (by omega) (hq _ (by rw [hg]))
        · rw [cmpI_eq] at cz
          refine aw_blk (pc' := 102) (ls' := [some (vl a), none, some (vl c), none, some (vl d), none, some (vl e), none, some (vl (x % (y : Int))), none, some (vl (y : Int)), none, some (vl (z % w)), none, some (vl w), none, some (vi tn), some (vl (x / (y : Int))), none, some (vl (z / w)), none, none, none]) (st' := [vl 0, vl (x % (y : Int))]) [.inl (.lload 8), .inl (.lconst 0)] 99 _ _ (by decide +kernel) rfl ?_
          refine aw_lcmp (by decide +kernel) (by omega) (by omega) ?_
          refine aw_if_ne (o := 7) (tgt := 110) (by decide +kernel) (by decide) (cmpI_in _ _) (fun cu => ?_) (fun cu => ?_)
          · rw [cmpI_eq] at cu
            have hg := fls_gt (tn := tn) (show z * (y : Int) < x * w by omega)
            refine aw_blk (pc' := 113) (ls' := [some (vl a), none, some (vl c), none, some (vl d), none, some (vl e), none, some (vl (x % (y : Int))), none, some (vl (y : Int)), none, some (vl (z % w)), none, some (vl w), none, some (vi tn), some (vl (x / (y : Int))), none, some (vl (z / w)), none, none, none]) (st' := [vi tn, vi 0]) [.inl (.iconst 0), .inl (.iload 16)] 110 _ _ (by decide +kernel) rfl ?_
            refine aw_icmp_eq (o := 7) (tgt := 120) (by decide +kernel) (by decide) (by omega) (by omega) (fun ct => ?_) (fun ct => ?_)
            · refine aw_blk (pc' := 121) (ls' := [some (vl a), none, some (vl c), none, some (vl d), none, some (vl e), none, some (vl (x % (y : Int))), none, some (vl (y : Int)), none, some (vl (z % w)), none, some (vl w), none, some (vi tn), some (vl (x / (y : Int))), none, some (vl (z / w)), none, none, none]) (st' := [vi 0]) [.inl (.iconst 0)] 120 _ _ (by decide +kernel) rfl ?_
              exact aw_zret (by decide +kernel) rfl (by decide) (by decide) (by omega) (hq _ (by rw [hg]; rcases ht with q | q <;> subst q <;> simp at ct ⊢))
            · refine aw_blk (pc' := 117) (ls' := [some (vl a), none, some (vl c), none, some (vl d), none, some (vl e), none, some (vl (x % (y : Int))), none, some (vl (y : Int)), none, some (vl (z % w)), none, some (vl w), none, some (vi tn), some (vl (x / (y : Int))), none, some (vl (z / w)), none, none, none]) (st' := [vi 1]) [.inl (.iconst 1)] 116 _ _ (by decide +kernel) rfl ?_
              refine aw_goto (o := 4) (tgt := 121) (by decide +kernel) (by decide) ?_
              exact aw_zret (by decide +kernel) rfl (by decide) (by decide) (by omega) (hq _ (by rw [hg]; rcases ht with q | q <;> subst q <;> simp at ct ⊢))
          · rw [cmpI_eq] at cu
            have hg := fls_lt (tn := tn) (show x * w < z * (y : Int) by have g1 : x % (y : Int) = 0 := (by omega); rw [g1, Int.zero_mul] at f1_; have := Int.mul_pos (show 0 < z % w by omega) (show 0 < (y : Int) by omega); omega)
            refine aw_blk (pc' := 107) (ls' := [some (vl a), none, some (vl c), none, some (vl d), none, some (vl e), none, some (vl (x % (y : Int))), none, some (vl (y : Int)), none, some (vl (z % w)), none, some (vl w), none, some (vi tn), some (vl (x / (y : Int))), none, some (vl (z / w)), none, none, none]) (st' := [vi 1]) [.inl (.iconst 1)] 106 _ _ (by decide +kernel) rfl ?_
            refine aw_goto (o := 4) (tgt := 111) (by decide +kernel) (by decide) ?_
            refine aw_blk (pc' := 113) (ls' := [some (vl a), none, some (vl c), none, some (vl d), none, some (vl e), none, some (vl (x % (y : Int))), none, some (vl (y : Int)), none, some (vl (z % w)), none, some (vl w), none, some (vi tn), some (vl (x / (y : Int))), none, some (vl (z / w)), none, none, none]) (st' := [vi tn, vi 1]) [.inl (.iload 16)] 111 _ _ (by decide +kernel) rfl ?_
            refine aw_icmp_eq (o := 7) (tgt := 120) (by decide +kernel) (by decide) (by omega) (by omega) (fun ct => ?_) (fun ct => ?_)
            · refine aw_blk (pc' := 121) (ls' := [some (vl a), none, some (vl c), none, some (vl d), none, some (vl e), none, some (vl (x % (y : Int))), none, some (vl (y : Int)), none, some (vl (z % w)), none, some (vl w), none, some (vi tn), some (vl (x / (y : Int))), none, some (vl (z / w)), none, none, none]) (st' := [vi 0]) [.inl (.iconst 0)] 120 _ _ (by decide +kernel) rfl ?_
              exact aw_zret (by decide +kernel) rfl (by decide) (by decide) (by omega) (hq _ (by rw [hg]; rcases ht with q | q <;> subst q <;> simp at ct ⊢))
            · refine aw_blk (pc' := 117) (ls' := [some (vl a), none, some (vl c), none, some (vl d), none, some (vl e), none, some (vl (x % (y : Int))), none, some (vl (y : Int)), none, some (vl (z % w)), none, some (vl w), none, some (vi tn), some (vl (x / (y : Int))), none, some (vl (z / w)), none, none, none]) (st' := [vi 1]) [.inl (.iconst 1)] 116 _ _ (by decide +kernel) rfl ?_
              refine aw_goto (o := 4) (tgt := 121) (by decide +kernel) (by decide) ?_
              exact aw_zret (by decide +kernel) rfl (by decide) (by decide) (by omega) (hq _ (by rw [hg]; rcases ht with q | q <;> subst q <;> simp at ct ⊢))
      · rw [cmpI_eq] at cp
        refine aw_blk (pc' := 87) (ls' := [some (vl a), none, some (vl c), none, some (vl d), none, some (vl e), none, some (vl (x % (y : Int))), none, some (vl (y : Int)), none, some (vl (z % w)), none, some (vl w), none, some (vi tn), some (vl (x / (y : Int))), none, some (vl (z / w)), none, none, none]) (st' := [vl 0, vl (z % w)]) [.inl (.lload 12), .inl (.lconst 0)] 84 _ _ (by decide +kernel) rfl ?_
        refine aw_lcmp (by decide +kernel) (by omega) (by omega) ?_
        refine aw_if_ne (o := 34) (tgt := 122) (by decide +kernel) (by decide) (cmpI_in _ _) (fun cr => ?_) (fun cr => ?_)
        · rw [cmpI_eq] at cr
          refine aw_blk (pc' := 130) (ls' := [some (vl a), none, some (vl c), none, some (vl d), none, some (vl e), none, some (vl (y : Int)), none, some (vl (y : Int)), none, some (vl (z % w)), none, some (vl w), none, some (vi tn), some (vl (x / (y : Int))), none, some (vl (z / w)), none, some (vl (x % (y : Int))), none]) (st' := []) [.inl (.lload 8), .inl (.lstore 21), .inl (.lload 10), .inl (.lstore 8)] 122 _ _ (by decide +kernel) rfl ?_
          refine aw_blk (pc' := 138) (ls' := [some (vl a), none, some (vl c), none, some (vl d), none, some (vl e), none, some (vl (y : Int)), none, some (vl (x % (y : Int))), none, some (vl (z % w)), none, some (vl w), none, some (vi tn), some (vl (x / (y : Int))), none, some (vl (z / w)), none, some (vl (z % w)), none]) (st' := []) [.inl (.lload 21), .inl (.lstore 10), .inl (.lload 12), .inl (.lstore 21)] 130 _ _ (by decide +kernel) rfl ?_
          refine aw_blk (pc' := 146) (ls' := [some (vl a), none, some (vl c), none, some (vl d), none, some (vl e), none, some (vl (y : Int)), none, some (vl (x % (y : Int))), none, some (vl w), none, some (vl (z % w)), none, some (vi tn), some (vl (x / (y : Int))), none, some (vl (z / w)), none, some (vl (z % w)), none]) (st' := []) [.inl (.lload 14), .inl (.lstore 12), .inl (.lload 21), .inl (.lstore 14)] 138 _ _ (by decide +kernel) rfl ?_
          refine aw_blk (pc' := 148) (ls' := [some (vl a), none, some (vl c), none, some (vl d), none, some (vl e), none, some (vl (y : Int)), none, some (vl (x % (y : Int))), none, some (vl w), none, some (vl (z % w)), none, some (vi tn), some (vl (x / (y : Int))), none, some (vl (z / w)), none, some (vl (z % w)), none]) (st' := [vi tn]) [.inl (.iload 16)] 146 _ _ (by decide +kernel) rfl ?_
          refine aw_if_ne (o := 7) (tgt := 155) (by decide +kernel) (by decide) (by omega) (fun cw => ?_) (fun cw => ?_)
          · obtain ⟨y2, ey⟩ : ∃ y2 : Nat, x % (y : Int) = (y2 : Int) := ⟨(x % (y : Int)).toNat, by omega⟩
            refine aw_blk (pc' := 158) (ls' := [some (vl a), none, some (vl c), none, some (vl d), none, some (vl e), none, some (vl (y : Int)), none, some (vl (x % (y : Int))), none, some (vl w), none, some (vl (z % w)), none, some (vi 0), some (vl (x / (y : Int))), none, some (vl (z / w)), none, some (vl (z % w)), none]) (st' := []) [.inl (.iconst 0), .inl (.istore 16)] 155 _ _ (by decide +kernel) rfl ?_
            refine aw_goto (o := -141) (tgt := 17) (by decide +kernel) (by decide) ?_
            have hsw := fls_sw (tn := tn) hx.1 hz.1 hy.1 hw.1 cq ht
            rw [if_neg (by omega)] at hsw
            rw [ey] at hsw ⊢
            exact ih y2 (by omega) (y : Int) w (z % w) 0 _ _ _ _ _ _ (by omega) (by omega) (by omega) (by omega) (by omega) (fun g e9 => hq g (by rw [e9, hsw]))
          · obtain ⟨y2, ey⟩ : ∃ y2 : Nat, x % (y : Int) = (y2 : Int) := ⟨(x % (y : Int)).toNat, by omega⟩
            refine aw_blk (pc' := 152) (ls' := [some (vl a), none, some (vl c), none, some (vl d), none, some (vl e), none, some (vl (y : Int)), none, some (vl (x % (y : Int))), none, some (vl w), none, some (vl (z % w)), none, some (vi tn), some (vl (x / (y : Int))), none, some (vl (z / w)), none, some (vl (z % w)), none]) (st' := [vi 1]) [.inl (.iconst 1)] 151 _ _ (by decide +kernel) rfl ?_
            refine aw_goto (o := 4) (tgt := 156) (by decide +kernel) (by decide) ?_
            refine aw_blk (pc' := 158) (ls' := [some (vl a), none, some (vl c), none, some (vl d), none, some (vl e), none, some (vl (y : Int)), none, some (vl (x % (y : Int))), none, some (vl w), none, some (vl (z % w)), none, some (vi 1), some (vl (x / (y : Int))), none, some (vl (z / w)), none, some (vl (z % w)), none]) (st' := []) [.inl (.istore 16)] 156 _ _ (by decide +kernel) rfl ?_
            refine aw_goto (o := -141) (tgt := 17) (by decide +kernel) (by decide) ?_
            have hsw := fls_sw (tn := tn) hx.1 hz.1 hy.1 hw.1 cq ht
            rw [if_pos (by omega)] at hsw
            rw [ey] at hsw ⊢
            exact ih y2 (by omega) (y : Int) w (z % w) 1 _ _ _ _ _ _ (by omega) (by omega) (by omega) (by omega) (by omega) (fun g e9 => hq g (by rw [e9, hsw]))
        · rw [cmpI_eq] at cr
          refine aw_blk (pc' := 95) (ls' := [some (vl a), none, some (vl c), none, some (vl d), none, some (vl e), none, some (vl (x % (y : Int))), none, some (vl (y : Int)), none, some (vl (z % w)), none, some (vl w), none, some (vi tn), some (vl (x / (y : Int))), none, some (vl (z / w)), none, none, none]) (st' := [vl (z % w), vl (x % (y : Int))]) [.inl (.lload 8), .inl (.lload 12)] 91 _ _ (by decide +kernel) rfl ?_
          refine aw_lcmp (by decide +kernel) (by omega) (by omega) ?_
          refine aw_if_eq (o := 24) (tgt := 120) (by decide +kernel) (by decide) (cmpI_in _ _) (fun cz => ?_) (fun cz => ?_)
          · rw [cmpI_eq] at cz
            have hg : fls x (y : Int) z w tn = 0 := fls_0 (by have g1 : x % (y : Int) = 0 := (by omega); have g2 : z % w = 0 := (by omega); rw [g1, g2, Int.zero_mul, Int.zero_mul] at f1_; omega)
            refine aw_blk (pc' := 121) (ls' := [some (vl a), none, some (vl c), none, some (vl d), none, some (vl e), none, some (vl (x % (y : Int))), none, some (vl (y : Int)), none, some (vl (z % w)), none, some (vl w), none, some (vi tn), some (vl (x / (y : Int))), none, some (vl (z / w)), none, none, none]) (st' := [vi 0]) [.inl (.iconst 0)] 120 _ _ (by decide +kernel) rfl ?_
            exact aw_zret (by decide +kernel) rfl (by decide) (by decide) (by omega) (hq _ (by rw [hg]))
          · rw [cmpI_eq] at cz
            refine aw_blk (pc' := 102) (ls' := [some (vl a), none, some (vl c), none, some (vl d), none, some (vl e), none, some (vl (x % (y : Int))), none, some (vl (y : Int)), none, some (vl (z % w)), none, some (vl w), none, some (vi tn), some (vl (x / (y : Int))), none, some (vl (z / w)), none, none, none]) (st' := [vl 0, vl (x % (y : Int))]) [.inl (.lload 8), .inl (.lconst 0)] 99 _ _ (by decide +kernel) rfl ?_
            refine aw_lcmp (by decide +kernel) (by omega) (by omega) ?_
            refine aw_if_ne (o := 7) (tgt := 110) (by decide +kernel) (by decide) (cmpI_in _ _) (fun cu => ?_) (fun cu => ?_)
            · rw [cmpI_eq] at cu
              have hg := fls_gt (tn := tn) (show z * (y : Int) < x * w by have g2 : z % w = 0 := (by omega); rw [g2, Int.zero_mul] at f1_; have := Int.mul_pos (show 0 < x % (y : Int) by omega) (show 0 < w by omega); omega)
              refine aw_blk (pc' := 113) (ls' := [some (vl a), none, some (vl c), none, some (vl d), none, some (vl e), none, some (vl (x % (y : Int))), none, some (vl (y : Int)), none, some (vl (z % w)), none, some (vl w), none, some (vi tn), some (vl (x / (y : Int))), none, some (vl (z / w)), none, none, none]) (st' := [vi tn, vi 0]) [.inl (.iconst 0), .inl (.iload 16)] 110 _ _ (by decide +kernel) rfl ?_
              refine aw_icmp_eq (o := 7) (tgt := 120) (by decide +kernel) (by decide) (by omega) (by omega) (fun ct => ?_) (fun ct => ?_)
              · refine aw_blk (pc' := 121) (ls' := [some (vl a), none, some (vl c), none, some (vl d), none, some (vl e), none, some (vl (x % (y : Int))), none, some (vl (y : Int)), none, some (vl (z % w)), none, some (vl w), none, some (vi tn), some (vl (x / (y : Int))), none, some (vl (z / w)), none, none, none]) (st' := [vi 0]) [.inl (.iconst 0)] 120 _ _ (by decide +kernel) rfl ?_
                exact aw_zret (by decide +kernel) rfl (by decide) (by decide) (by omega) (hq _ (by rw [hg]; rcases ht with q | q <;> subst q <;> simp at ct ⊢))
              · refine aw_blk (pc' := 117) (ls' := [some (vl a), none, some (vl c), none, some (vl d), none, some (vl e), none, some (vl (x % (y : Int))), none, some (vl (y : Int)), none, some (vl (z % w)), none, some (vl w), none, some (vi tn), some (vl (x / (y : Int))), none, some (vl (z / w)), none, none, none]) (st' := [vi 1]) [.inl (.iconst 1)] 116 _ _ (by decide +kernel) rfl ?_
                refine aw_goto (o := 4) (tgt := 121) (by decide +kernel) (by decide) ?_
                exact aw_zret (by decide +kernel) rfl (by decide) (by decide) (by omega) (hq _ (by rw [hg]; rcases ht with q | q <;> subst q <;> simp at ct ⊢))
            · rw [cmpI_eq] at cu
              have hg := fls_lt (tn := tn) (show x * w < z * (y : Int) by omega)
              refine aw_blk (pc' := 107) (ls' := [some (vl a), none, some (vl c), none, some (vl d), none, some (vl e), none, some (vl (x % (y : Int))), none, some (vl (y : Int)), none, some (vl (z % w)), none, some (vl w), none, some (vi tn), some (vl (x / (y : Int))), none, some (vl (z / w)), none, none, none]) (st' := [vi 1]) [.inl (.iconst 1)] 106 _ _ (by decide +kernel) rfl ?_
              refine aw_goto (o := 4) (tgt := 111) (by decide +kernel) (by decide) ?_
              refine aw_blk (pc' := 113) (ls' := [some (vl a), none, some (vl c), none, some (vl d), none, some (vl e), none, some (vl (x % (y : Int))), none, some (vl (y : Int)), none, some (vl (z % w)), none, some (vl w), none, some (vi tn), some (vl (x / (y : Int))), none, some (vl (z / w)), none, none, none]) (st' := [vi tn, vi 1]) [.inl (.iload 16)] 111 _ _ (by decide +kernel) rfl ?_
              refine aw_icmp_eq (o := 7) (tgt := 120) (by decide +kernel) (by decide) (by omega) (by omega) (fun ct => ?_) (fun ct => ?_)
              · refine aw_blk (pc' := 121) (ls' := [some (vl a), none, some (vl c), none, some (vl d), none, some (vl e), none, some (vl (x % (y : Int))), none, some (vl (y : Int)), none, some (vl (z % w)), none, some (vl w), none, some (vi tn), some (vl (x / (y : Int))), none, some (vl (z / w)), none, none, none]) (st' := [vi 0]) [.inl (.iconst 0)] 120 _ _ (by decide +kernel) rfl ?_
                exact aw_zret (by decide +kernel) rfl (by decide) (by decide) (by omega) (hq _ (by rw [hg]; rcases ht with q | q <;> subst q <;> simp at ct ⊢))
              · refine aw_blk (pc' := 117) (ls' := [some (vl a), none, some (vl c), none, some (vl d), none, some (vl e), none, some (vl (x % (y : Int))), none, some (vl (y : Int)), none, some (vl (z % w)), none, some (vl w), none, some (vi tn), some (vl (x / (y : Int))), none, some (vl (z / w)), none, none, none]) (st' := [vi 1]) [.inl (.iconst 1)] 116 _ _ (by decide +kernel) rfl ?_
                refine aw_goto (o := 4) (tgt := 121) (by decide +kernel) (by decide) ?_
                exact aw_zret (by decide +kernel) rfl (by decide) (by decide) (by omega) (hq _ (by rw [hg]; rcases ht with q | q <;> subst q <;> simp at ct ⊢))
    · rw [cmpI_eq] at cq
      refine aw_blk (pc' := 43) (ls' := [some (vl a), none, some (vl c), none, some (vl d), none, some (vl e), none, some (vl x), none, some (vl (y : Int)), none, some (vl z), none, some (vl w), none, some (vi tn), some (vl (x / (y : Int))), none, some (vl (z / w)), none, none, none]) (st' := [vl (z / w), vl (x / (y : Int))]) [.inl (.lload 17), .inl (.lload 19)] 39 _ _ (by decide +kernel) rfl ?_
      refine aw_lcmp (by decide +kernel) (by omega) (by omega) ?_
      refine aw_if_ge (o := 7) (tgt := 51) (by decide +kernel) (by decide) (cmpI_in _ _) (fun cl => ?_) (fun cl => ?_)
      · rw [cmpI_ge] at cl
        have hg := fls_gt (tn := tn) (fl_lt hz.1 hx.1 hw.1 hy.1 (show z / w < x / (y : Int) by omega)).1
        refine aw_blk (pc' := 54) (ls' := [some (vl a), none, some (vl c), none, some (vl d), none, some (vl e), none, some (vl x), none, some (vl (y : Int)), none, some (vl z), none, some (vl w), none, some (vi tn), some (vl (x / (y : Int))), none, some (vl (z / w)), none, none, none]) (st' := [vi tn, vi 0]) [.inl (.iconst 0), .inl (.iload 16)] 51 _ _ (by decide +kernel) rfl ?_
        refine aw_icmp_eq (o := 7) (tgt := 61) (by decide +kernel) (by decide) (by omega) (by omega) (fun ct => ?_) (fun ct => ?_)
        · refine aw_blk (pc' := 62) (ls' := [some (vl a), none, some (vl c), none, some (vl d), none, some (vl e), none, some (vl x), none, some (vl (y : Int)), none, some (vl z), none, some (vl w), none, some (vi tn), some (vl (x / (y : Int))), none, some (vl (z / w)), none, none, none]) (st' := [vi 0]) [.inl (.iconst 0)] 61 _ _ (by decide +kernel) rfl ?_
          exact aw_zret (by decide +kernel) rfl (by decide) (by decide) (by omega) (hq _ (by rw [hg]; rcases ht with q | q <;> subst q <;> simp at ct ⊢))
        · refine aw_blk (pc' := 58) (ls' := [some (vl a), none, some (vl c), none, some (vl d), none, some (vl e), none, some (vl x), none, some (vl (y : Int)), none, some (vl z), none, some (vl w), none, some (vi tn), some (vl (x / (y : Int))), none, some (vl (z / w)), none, none, none]) (st' := [vi 1]) [.inl (.iconst 1)] 57 _ _ (by decide +kernel) rfl ?_
          refine aw_goto (o := 4) (tgt := 62) (by decide +kernel) (by decide) ?_
          exact aw_zret (by decide +kernel) rfl (by decide) (by decide) (by omega) (hq _ (by rw [hg]; rcases ht with q | q <;> subst q <;> simp at ct ⊢))
      · rw [cmpI_ge] at cl
        have hg := fls_lt (tn := tn) (fl_lt hx.1 hz.1 hy.1 hw.1 (show x / (y : Int) < z / w by omega)).1
        refine aw_blk (pc' := 48) (ls' := [some (vl a), none, some (vl c), none, some (vl d), none, some (vl e), none, some (vl x), none, some (vl (y : Int)), none, some (vl z), none, some (vl w), none, some (vi tn), some (vl (x / (y : Int))), none, some (vl (z / w)), none, none, none]) (st' := [vi 1]) [.inl (.iconst 1)] 47 _ _ (by decide +kernel) rfl ?_
        refine aw_goto (o := 4) (tgt := 52) (by decide +kernel) (by decide) ?_
        refine aw_blk (pc' := 54) (ls' := [some (vl a), none, some (vl c), none, some (vl d), none, some (vl e), none, some (vl x), none, some (vl (y : Int)), none, some (vl z), none, some (vl w), none, some (vi tn), some (vl (x / (y : Int))), none, some (vl (z / w)), none, none, none]) (st' := [vi tn, vi 1]) [.inl (.iload 16)] 52 _ _ (by decide +kernel) rfl ?_
        refine aw_icmp_eq (o := 7) (tgt := 61) (by decide +kernel) (by decide) (by omega) (by omega) (fun ct => ?_) (fun ct => ?_)
        · refine aw_blk (pc' := 62) (ls' := [some (vl a), none, some (vl c), none, some (vl d), none, some (vl e), none, some (vl x), none, some (vl (y : Int)), none, some (vl z), none, some (vl w), none, some (vi tn), some (vl (x / (y : Int))), none, some (vl (z / w)), none, none, none]) (st' := [vi 0]) [.inl (.iconst 0)] 61 _ _ (by decide +kernel) rfl ?_
          exact aw_zret (by decide +kernel) rfl (by decide) (by decide) (by omega) (hq _ (by rw [hg]; rcases ht with q | q <;> subst q <;> simp at ct ⊢))
        · refine aw_blk (pc' := 58) (ls' := [some (vl a), none, some (vl c), none, some (vl d), none, some (vl e), none, some (vl x), none, some (vl (y : Int)), none, some (vl z), none, some (vl w), none, some (vi tn), some (vl (x / (y : Int))), none, some (vl (z / w)), none, none, none]) (st' := [vi 1]) [.inl (.iconst 1)] 57 _ _ (by decide +kernel) rfl ?_
          refine aw_goto (o := 4) (tgt := 62) (by decide +kernel) (by decide) ?_
          exact aw_zret (by decide +kernel) rfl (by decide) (by decide) (by omega) (hq _ (by rw [hg]; rcases ht with q | q <;> subst q <;> simp at ct ⊢))
theorem m_M_isLess (ha : 0 ≤ a ∧ a ≤ 4398046511104) (hc : 1 ≤ c ∧ c ≤ 4398046511104) (hd : 0 ≤ d ∧ d ≤ 4398046511104) (he : 1 ≤ e ∧ e ≤ 4398046511104) : ADet G M_M_isLess [vl a, vl c, vl d, vl e] h (some (vi (if a * e < d * c then 1 else 0))) h := by
  refine am_det (by decide +kernel) (Nat.le_of_ble_eq_true rfl) (fun Qr Qt hq => ?_)
  obtain ⟨y, rfl⟩ : ∃ y : Nat, c = (y : Int) := ⟨c.toNat, by omega⟩
  refine aw_blk (pc' := 6) (ls' := [some (vl a), none, some (vl (y : Int)), none, some (vl d), none, some (vl e), none, some (vl a), none, some (vl (y : Int)), none, none, none, none, none, none, none, none, none, none, none, none]) (st' := []) [.inl (.lload_n 0), .inl (.lstore 8), .inl (.lload_n 2), .inl (.lstore 10)] 0 _ _ (by decide +kernel) rfl ?_
  refine aw_blk (pc' := 14) (ls' := [some (vl a), none, some (vl (y : Int)), none, some (vl d), none, some (vl e), none, some (vl a), none, some (vl (y : Int)), none, some (vl d), none, some (vl e), none, none, none, none, none, none, none, none]) (st' := []) [.inl (.lload 4), .inl (.lstore 12), .inl (.lload 6), .inl (.lstore 14)] 6 _ _ (by decide +kernel) rfl ?_
  refine aw_blk (pc' := 17) (ls' := [some (vl a), none, some (vl (y : Int)), none, some (vl d), none, some (vl e), none, some (vl a), none, some (vl (y : Int)), none, some (vl d), none, some (vl e), none, some (vi 0), none, none, none, none, none, none]) (st' := []) [.inl (.iconst 0), .inl (.istore 16)] 14 _ _ (by decide +kernel) rfl ?_
  exact l_M_il y a d e 0 none none none none none none ha hc hd he (Or.inl rfl) (fun g e9 => hq g h (by rw [e9, fls_00]) rfl)

end
