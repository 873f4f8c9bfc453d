theorem lsk_0 : ∀ (k : Nat) (v : AV), ([] : LSt)[k]? = some (some v) → ([] : LSt)[k]? = some (some v) := fun _ _ h => h
theorem lsk_s {x : Option AV} {l l' : LSt} (h : ∀ (k : Nat) (v : AV), l[k]? = some (some v) → l'[k]? = some (some v)) : ∀ (k : Nat) (v : AV), (x :: l)[k]? = some (some v) → (x :: l')[k]? = some (some v)
  | 0, _, e => e
  | k + 1, v, e => h k v e
theorem lsk_n {x : Option AV} {l l' : LSt} (h : ∀ (k : Nat) (v : AV), l[k]? = some (some v) → l'[k]? = some (some v)) : ∀ (k : Nat) (v : AV), ((none : Option AV) :: l)[k]? = some (some v) → (x :: l')[k]? = some (some v)
  | 0, v, e => by simp at e
  | k + 1, v, e => h k v e
section
variable {G : GT} {M : MI} {Qr : Option AV → HT → Prop} {Qt : HT → Prop} {cs sl pc : Nat} {ls : LSt} {st : List AV} {h : HT} {a b c : Int}
theorem aw_ior (hd : decode M.2.1 pc = .ok (.ior, 1)) (hv : Int32.ofInt a ||| Int32.ofInt b = Int32.ofInt c) (kk : AW G M Qr Qt cs sl (pc + 1) ls (vi c :: st) h) : AW G M Qr Qt cs sl pc ls (vi b :: vi a :: st) h := by
  intro p e s0 m args below meth c H locs lsR C R S L
  refine lv_ior C.1 C.2.1 hd ?_
  rw [hv]
  exact kk p e s0 m args below meth c H locs lsR C R S L
end
def sg (w : Int) : Int := if w < 0 then -1 else if 0 < w then 1 else 0
def jnd (d v w : Int) : Int := if d = 0 then (if w < v then w else v) else if d = 1 then (if v < w then w else v) else if d = 2 then v * sg w else v + w
theorem sg_or {a : Int} (ha : I32 a) : Int32.ofInt (a / 2147483648) ||| Int32.ofInt ((-a) % 4294967296 / 2147483648) = Int32.ofInt (sg a) := by
  unfold sg
  split
  · rename_i h
    rw [show a / 2147483648 = -1 by omega]
    rcases Int.lt_or_le (-2147483648) a with z | z
    · rw [show (-a) % 4294967296 / 2147483648 = 0 by omega]; decide
    · rw [show (-a) % 4294967296 / 2147483648 = 1 by omega]; decide
  · split
    · rw [show a / 2147483648 = 0 by omega, show (-a) % 4294967296 / 2147483648 = 1 by omega]; decide
    · rw [show a / 2147483648 = 0 by omega, show (-a) % 4294967296 / 2147483648 = 0 by omega]; decide

section
variable {G : GT} {h : HT} {b s t mk df jo tr di mo dy : SG} {a c d e : Int} {n k k1 k2 q q1 q2 m : Nat} {at_ wt at2 wt2 : Nat → Int} {W W2 : Int}
theorem m_Int_signum (ha : I32 a) : ADet G M_Int_signum [vi a] h (some (vi (sg a))) h := by
  refine am_det (by decide +kernel) (Nat.le_of_ble_eq_true rfl) (fun Qr Qt hq => ?_)
  refine aw_blk (pc' := 3) (ls' := [some (vi a)]) (st' := [vi 31, vi a]) [.inl (.iload_n 0), .inl (.bipush 31)] 0 _ _ (by decide +kernel) rfl ?_
  refine aw_shr (p9 := 2147483648) 31 (by decide +kernel) (by omega) rfl (by decide) (by decide) ?_
  refine aw_blk (pc' := 8) (ls' := [some (vi a)]) (st' := [vi 31, vi (-a), vi (a / 2147483648)]) [.inl (.iload_n 0), .inl (.ineg), .inl (.bipush 31)] 4 _ _ (by decide +kernel) rfl ?_
  refine aw_ushr (p9 := 2147483648) 31 (by decide +kernel) rfl (by decide) (by decide) ?_
  refine aw_ior (by decide +kernel) (sg_or ha) ?_
  exact aw_iret (by decide +kernel) rfl (by decide) (by decide) (hq _ _ rfl rfl)

theorem m_B_joined (ha : I32 a) (hc : I32 c) (hd : 0 ≤ d ∧ d ≤ 3) : ADet G M_B_joined [vi a, vi c, vi d] h (some (vi (jnd d a c))) h := by
  refine am_det (by decide +kernel) (Nat.le_of_ble_eq_true rfl) (fun Qr Qt hq => ?_)
  refine aw_blk (pc' := 1) (ls' := [some (vi a), some (vi c), some (vi d)]) (st' := [vi d]) [.inl (.iload_n 2)] 0 _ _ (by decide +kernel) rfl ?_
  rcases (show d = 0 ∨ d = 1 ∨ d = 2 ∨ d = 3 by omega) with z | z | z | z
  · subst z
    refine aw_tabIn (dflt := 46) (lo := 0) (hi := 2) (offs := #[27, 33, 39]) (len := 27) (o := 27) (tgt := 28) (by decide +kernel) (by omega) (by decide) (by decide) (by decide +kernel) rfl ?_
    refine aw_blk (pc' := 30) (ls' := [some (vi a), some (vi c), some (vi 0)]) (st' := [vi c, vi a]) [.inl (.iload_n 0), .inl (.iload_n 1)] 28 _ _ (by decide +kernel) rfl ?_
    refine aw_mmin (idx := 275) (by decide +kernel) (by decide +kernel) (Nat.le_of_ble_eq_true rfl) (by decide) (by decide) (by decide) (by omega) (by omega) ?_
    exact aw_iret (by decide +kernel) rfl (by decide) (by decide) (hq _ _ rfl rfl)
  · subst z
    refine aw_tabIn (dflt := 46) (lo := 0) (hi := 2) (offs := #[27, 33, 39]) (len := 27) (o := 33) (tgt := 34) (by decide +kernel) (by omega) (by decide) (by decide) (by decide +kernel) rfl ?_
    refine aw_blk (pc' := 36) (ls' := [some (vi a), some (vi c), some (vi 1)]) (st' := [vi c, vi a]) [.inl (.iload_n 0), .inl (.iload_n 1)] 34 _ _ (by decide +kernel) rfl ?_
    refine aw_mmax (idx := 281) (by decide +kernel) (by decide +kernel) (Nat.le_of_ble_eq_true rfl) (by decide) (by decide) (by decide) (by omega) (by omega) ?_
    exact aw_iret (by decide +kernel) rfl (by decide) (by decide) (hq _ _ rfl rfl)
  · subst z
    refine aw_tabIn (dflt := 46) (lo := 0) (hi := 2) (offs := #[27, 33, 39]) (len := 27) (o := 39) (tgt := 40) (by decide +kernel) (by omega) (by decide) (by decide) (by decide +kernel) rfl ?_
    refine aw_blk (pc' := 42) (ls' := [some (vi a), some (vi c), some (vi 2)]) (st' := [vi c, vi a]) [.inl (.iload_n 0), .inl (.iload_n 1)] 40 _ _ (by decide +kernel) rfl ?_
    refine aw_dS (cs' := 0) (sl' := 0) (pc' := 45) (st' := [vi (sg c), vi a]) (idx := 284) (as := [vi c]) (st := [vi a]) (m_Int_signum hc) (by decide +kernel) (show sOK "ChanceBench" 284 M_Int_signum 1 = true by decide +kernel) rfl (Nat.le_of_ble_eq_true rfl) (by decide) (by decide) (by decide) rfl rfl rfl rfl ?_
    refine aw_blk (pc' := 46) (ls' := [some (vi a), some (vi c), some (vi 2)]) (st' := [vi (a * (sg c))]) [.inl (.imul)] 45 _ _ (by decide +kernel) rfl ?_
    exact aw_iret (by decide +kernel) rfl (by decide) (by decide) (hq _ _ rfl rfl)
  · subst z
    refine aw_tabOut (dflt := 46) (lo := 0) (hi := 2) (offs := #[27, 33, 39]) (len := 27) (tgt := 47) (by decide +kernel) (by omega) (by omega) rfl ?_
    refine aw_blk (pc' := 50) (ls' := [some (vi a), some (vi c), some (vi 3)]) (st' := [vi (a + c)]) [.inl (.iload_n 0), .inl (.iload_n 1), .inl (.iadd)] 47 _ _ (by decide +kernel) rfl ?_
    exact aw_iret (by decide +kernel) rfl (by decide) (by decide) (hq _ _ rfl rfl)

/-- where the second row stands before turn i -/
def pj (at_ at2 : Nat → Int) (m : Nat) : Nat → Nat
  | 0 => 0
  | i + 1 => lb at2 (at_ i) m
def wns (at_ wt at2 wt2 : Nat → Int) (m : Nat) : Nat → Int := sumZ (fun i => wt i * sumZ wt2 (lb at2 (at_ i) m))
theorem pj_le (hs : inc at_ n) (hs2 : inc at2 m) : ∀ i, i < n → pj at_ at2 m i ≤ lb at2 (at_ i) m
  | 0, _ => Nat.zero_le _
  | i + 1, h => by
    rcases Nat.lt_or_ge (lb at2 (at_ (i + 1)) m) (lb at2 (at_ i) m) with z | z
    · have h1 := lb_lt hs2 z
      have h2 := lb_le at2 (at_ i) m
      have h3 := lb_ge (f := at2) (v := at_ (i + 1)) (n := m) (Nat.le_refl _) (by omega)
      have h4 := hs i (i + 1) (by omega) h
      omega
    · exact z
theorem m_B_winsOf (hL : isL h k k1 k2 n at_ wt W) (hL2 : isL h q q1 q2 m at2 wt2 W2) (hs : inc at_ n) (hs2 : inc at2 m) : ADet G M_B_winsOf [vr 9 k, vr 9 q] h (some (vl (wns at_ wt at2 wt2 m n))) h := by
  refine am_det (by decide +kernel) (Nat.le_of_ble_eq_true rfl) (fun Qr Qt hq => ?_)
  refine aw_blk (pc' := 11) (ls' := [some (vr 9 k), some (vr 9 q), some (vl 0), none, some (vl 0), none, some (vi 0), some (vi 0)]) (st' := []) [.inl (.lconst 0), .inl (.lstore_n 2), .inl (.lconst 0), .inl (.lstore 4), .inl (.iconst 0), .inl (.istore 6), .inl (.iconst 0), .inl (.istore 7)] 0 _ _ (by decide +kernel) rfl ?_
  refine up_to (W := fun i : Nat => AW G M_B_winsOf Qr Qt 0 0 11 [some (vr 9 k), some (vr 9 q), some (vl (wns at_ wt at2 wt2 m i)), none, some (vl (sumZ wt2 (pj at_ at2 m i))), none, some (vi ((pj at_ at2 m i : Nat) : Int)), some (vi (i : Int))] [] (h)) n ?_ (fun i hi ih => ?_) 0 (by omega)
  · refine aw_blk (pc' := 14) (ls' := [some (vr 9 k), some (vr 9 q), some (vl (wns at_ wt at2 wt2 m n)), none, some (vl (sumZ wt2 (pj at_ at2 m n))), none, some (vi ((pj at_ at2 m n : Nat) : Int)), some (vi (n : Int))]) (st' := [vr 9 k, vi (n : Int)]) [.inl (.iload 7), .inl (.aload_n 0)] 11 _ _ (by decide +kernel) rfl ?_
    refine aw_get (idx := 121) (ci := 9) (f := 0) (by decide +kernel) (by decide +kernel) hL.1 rfl ?_
    refine aw_alen (by decide +kernel) hL.2.1 (fun r17 => ?_)
    refine aw_icmp_ge (o := 69) (tgt := 87) (by decide +kernel) (by decide) (by omega) (by omega) (fun _ => ?_) (fun c => absurd (by omega) c)
    refine aw_blk (pc' := 88) (ls' := [some (vr 9 k), some (vr 9 q), some (vl (wns at_ wt at2 wt2 m n)), none, some (vl (sumZ wt2 (pj at_ at2 m n))), none, some (vi ((pj at_ at2 m n : Nat) : Int)), some (vi (n : Int))]) (st' := [vl (wns at_ wt at2 wt2 m n)]) [.inl (.lload_n 2)] 87 _ _ (by decide +kernel) rfl ?_
    exact aw_lret (by decide +kernel) rfl (by decide) (by decide) (hq _ _ rfl rfl)
  · have ihO := ih
    refine aw_blk (pc' := 14) (ls' := [some (vr 9 k), some (vr 9 q), some (vl (wns at_ wt at2 wt2 m i)), none, some (vl (sumZ wt2 (pj at_ at2 m i))), none, some (vi ((pj at_ at2 m i : Nat) : Int)), some (vi (i : Int))]) (st' := [vr 9 k, vi (i : Int)]) [.inl (.iload 7), .inl (.aload_n 0)] 11 _ _ (by decide +kernel) rfl ?_
    refine aw_get (idx := 121) (ci := 9) (f := 0) (by decide +kernel) (by decide +kernel) hL.1 rfl ?_
    refine aw_alen (by decide +kernel) hL.2.1 (fun r17 => ?_)
    refine aw_icmp_ge (o := 69) (tgt := 87) (by decide +kernel) (by decide) (by omega) (by omega) (fun c => absurd c (by omega)) (fun _ => ?_)
    have hp := pj_le hs hs2 i hi
    have hlb := lb_le at2 (at_ i) m
    refine up_to (W := fun j : Nat => AW G M_B_winsOf Qr Qt 0 0 21 [some (vr 9 k), some (vr 9 q), some (vl (wns at_ wt at2 wt2 m i)), none, some (vl (sumZ wt2 j)), none, some (vi (j : Int)), some (vi (i : Int))] [] (h)) (lb at2 (at_ i) m) ?_ (fun j hj ih => ?_) (pj at_ at2 m i) hp
    · refine aw_blk (pc' := 24) (ls' := [some (vr 9 k), some (vr 9 q), some (vl (wns at_ wt at2 wt2 m i)), none, some (vl (sumZ wt2 (lb at2 (at_ i) m))), none, some (vi ((lb at2 (at_ i) m : Nat) : Int)), some (vi (i : Int))]) (st' := [vr 9 q, vi ((lb at2 (at_ i) m : Nat) : Int)]) [.inl (.iload 6), .inl (.aload_n 1)] 21 _ _ (by decide +kernel) rfl ?_
      refine aw_get (idx := 121) (ci := 9) (f := 0) (by decide +kernel) (by decide +kernel) hL2.1 rfl ?_
      refine aw_alen (by decide +kernel) hL2.2.1 (fun r27 => ?_)
      refine aw_icmp_ge (o := 39) (tgt := 67) (by decide +kernel) (by decide) (by omega) (by omega) (fun c28 => ?_) (fun c28 => ?_)
      · refine aw_blk (pc' := 69) (ls' := [some (vr 9 k), some (vr 9 q), some (vl (wns at_ wt at2 wt2 m i)), none, some (vl (sumZ wt2 (lb at2 (at_ i) m))), none, some (vi ((lb at2 (at_ i) m : Nat) : Int)), some (vi (i : Int))]) (st' := [vr 9 k, vl (wns at_ wt at2 wt2 m i)]) [.inl (.lload_n 2), .inl (.aload_n 0)] 67 _ _ (by decide +kernel) rfl ?_
        refine aw_get (idx := 127) (ci := 9) (f := 1) (by decide +kernel) (by decide +kernel) hL.1 rfl ?_
        refine aw_blk (pc' := 74) (ls' := [some (vr 9 k), some (vr 9 q), some (vl (wns at_ wt at2 wt2 m i)), none, some (vl (sumZ wt2 (lb at2 (at_ i) m))), none, some (vi ((lb at2 (at_ i) m : Nat) : Int)), some (vi (i : Int))]) (st' := [vi (i : Int), vr 9 k2, vl (wns at_ wt at2 wt2 m i)]) [.inl (.iload 7)] 72 _ _ (by decide +kernel) rfl ?_
        refine aw_iald (j := i) (by decide +kernel) hL.2.2 (by omega) (by omega) (fun r74 => ?_)
        refine aw_i2l (by decide +kernel) (by omega) ?_
        refine aw_blk (pc' := 84) (ls' := [some (vr 9 k), some (vr 9 q), some (vl ((wns at_ wt at2 wt2 m i) + ((wt i) * (sumZ wt2 (lb at2 (at_ i) m))))), none, some (vl (sumZ wt2 (lb at2 (at_ i) m))), none, some (vi ((lb at2 (at_ i) m : Nat) : Int)), some (vi ((i : Int) + 1))]) (st' := []) [.inl (.lload 4), .inl (.lmul), .inl (.ladd), .inl (.lstore_n 2), .inl (.iinc 7 1)] 76 _ _ (by decide +kernel) rfl ?_
        refine aw_goto (o := -73) (tgt := 11) (by decide +kernel) (by decide) ?_
        exact aw_eq rfl rfl rfl ihO
      · have hge := lb_ge (f := at2) (v := at_ i) (n := m) (Nat.le_refl _) (by omega)
        refine aw_blk (pc' := 32) (ls' := [some (vr 9 k), some (vr 9 q), some (vl (wns at_ wt at2 wt2 m i)), none, some (vl (sumZ wt2 (lb at2 (at_ i) m))), none, some (vi ((lb at2 (at_ i) m : Nat) : Int)), some (vi (i : Int))]) (st' := [vr 9 q]) [.inl (.aload_n 1)] 31 _ _ (by decide +kernel) rfl ?_
        refine aw_get (idx := 121) (ci := 9) (f := 0) (by decide +kernel) (by decide +kernel) hL2.1 rfl ?_
        refine aw_blk (pc' := 37) (ls' := [some (vr 9 k), some (vr 9 q), some (vl (wns at_ wt at2 wt2 m i)), none, some (vl (sumZ wt2 (lb at2 (at_ i) m))), none, some (vi ((lb at2 (at_ i) m : Nat) : Int)), some (vi (i : Int))]) (st' := [vi ((lb at2 (at_ i) m : Nat) : Int), vr 9 q1]) [.inl (.iload 6)] 35 _ _ (by decide +kernel) rfl ?_
        refine aw_iald (j := lb at2 (at_ i) m) (by decide +kernel) hL2.2.1 rfl (by omega) (fun r37 => ?_)
        refine aw_blk (pc' := 39) (ls' := [some (vr 9 k), some (vr 9 q), some (vl (wns at_ wt at2 wt2 m i)), none, some (vl (sumZ wt2 (lb at2 (at_ i) m))), none, some (vi ((lb at2 (at_ i) m : Nat) : Int)), some (vi (i : Int))]) (st' := [vr 9 k, vi (at2 (lb at2 (at_ i) m))]) [.inl (.aload_n 0)] 38 _ _ (by decide +kernel) rfl ?_
        refine aw_get (idx := 121) (ci := 9) (f := 0) (by decide +kernel) (by decide +kernel) hL.1 rfl ?_
        refine aw_blk (pc' := 44) (ls' := [some (vr 9 k), some (vr 9 q), some (vl (wns at_ wt at2 wt2 m i)), none, some (vl (sumZ wt2 (lb at2 (at_ i) m))), none, some (vi ((lb at2 (at_ i) m : Nat) : Int)), some (vi (i : Int))]) (st' := [vi (i : Int), vr 9 k1, vi (at2 (lb at2 (at_ i) m))]) [.inl (.iload 7)] 42 _ _ (by decide +kernel) rfl ?_
        refine aw_iald (j := i) (by decide +kernel) hL.2.1 (by omega) (by omega) (fun r44 => ?_)
        refine aw_icmp_ge (o := 22) (tgt := 67) (by decide +kernel) (by decide) (by omega) (by omega) (fun _ => ?_) (fun c => absurd (by omega) c)
        refine aw_blk (pc' := 69) (ls' := [some (vr 9 k), some (vr 9 q), some (vl (wns at_ wt at2 wt2 m i)), none, some (vl (sumZ wt2 (lb at2 (at_ i) m))), none, some (vi ((lb at2 (at_ i) m : Nat) : Int)), some (vi (i : Int))]) (st' := [vr 9 k, vl (wns at_ wt at2 wt2 m i)]) [.inl (.lload_n 2), .inl (.aload_n 0)] 67 _ _ (by decide +kernel) rfl ?_
        refine aw_get (idx := 127) (ci := 9) (f := 1) (by decide +kernel) (by decide +kernel) hL.1 rfl ?_
        refine aw_blk (pc' := 74) (ls' := [some (vr 9 k), some (vr 9 q), some (vl (wns at_ wt at2 wt2 m i)), none, some (vl (sumZ wt2 (lb at2 (at_ i) m))), none, some (vi ((lb at2 (at_ i) m : Nat) : Int)), some (vi (i : Int))]) (st' := [vi (i : Int), vr 9 k2, vl (wns at_ wt at2 wt2 m i)]) [.inl (.iload 7)] 72 _ _ (by decide +kernel) rfl ?_
        refine aw_iald (j := i) (by decide +kernel) hL.2.2 (by omega) (by omega) (fun r74 => ?_)
        refine aw_i2l (by decide +kernel) (by omega) ?_
        refine aw_blk (pc' := 84) (ls' := [some (vr 9 k), some (vr 9 q), some (vl ((wns at_ wt at2 wt2 m i) + ((wt i) * (sumZ wt2 (lb at2 (at_ i) m))))), none, some (vl (sumZ wt2 (lb at2 (at_ i) m))), none, some (vi ((lb at2 (at_ i) m : Nat) : Int)), some (vi ((i : Int) + 1))]) (st' := []) [.inl (.lload 4), .inl (.lmul), .inl (.ladd), .inl (.lstore_n 2), .inl (.iinc 7 1)] 76 _ _ (by decide +kernel) rfl ?_
        refine aw_goto (o := -73) (tgt := 11) (by decide +kernel) (by decide) ?_
        exact aw_eq rfl rfl rfl ihO
    · have hlt := lb_lt hs2 hj
      refine aw_blk (pc' := 24) (ls' := [some (vr 9 k), some (vr 9 q), some (vl (wns at_ wt at2 wt2 m i)), none, some (vl (sumZ wt2 j)), none, some (vi (j : Int)), some (vi (i : Int))]) (st' := [vr 9 q, vi (j : Int)]) [.inl (.iload 6), .inl (.aload_n 1)] 21 _ _ (by decide +kernel) rfl ?_
      refine aw_get (idx := 121) (ci := 9) (f := 0) (by decide +kernel) (by decide +kernel) hL2.1 rfl ?_
      refine aw_alen (by decide +kernel) hL2.2.1 (fun r27 => ?_)
      refine aw_icmp_ge (o := 39) (tgt := 67) (by decide +kernel) (by decide) (by omega) (by omega) (fun c => absurd c (by omega)) (fun _ => ?_)
      refine aw_blk (pc' := 32) (ls' := [some (vr 9 k), some (vr 9 q), some (vl (wns at_ wt at2 wt2 m i)), none, some (vl (sumZ wt2 j)), none, some (vi (j : Int)), some (vi (i : Int))]) (st' := [vr 9 q]) [.inl (.aload_n 1)] 31 _ _ (by decide +kernel) rfl ?_
      refine aw_get (idx := 121) (ci := 9) (f := 0) (by decide +kernel) (by decide +kernel) hL2.1 rfl ?_
      refine aw_blk (pc' := 37) (ls' := [some (vr 9 k), some (vr 9 q), some (vl (wns at_ wt at2 wt2 m i)), none, some (vl (sumZ wt2 j)), none, some (vi (j : Int)), some (vi (i : Int))]) (st' := [vi (j : Int), vr 9 q1]) [.inl (.iload 6)] 35 _ _ (by decide +kernel) rfl ?_
      refine aw_iald (j := j) (by decide +kernel) hL2.2.1 (by omega) (by omega) (fun r37 => ?_)
      refine aw_blk (pc' := 39) (ls' := [some (vr 9 k), some (vr 9 q), some (vl (wns at_ wt at2 wt2 m i)), none, some (vl (sumZ wt2 j)), none, some (vi (j : Int)), some (vi (i : Int))]) (st' := [vr 9 k, vi (at2 j)]) [.inl (.aload_n 0)] 38 _ _ (by decide +kernel) rfl ?_
      refine aw_get (idx := 121) (ci := 9) (f := 0) (by decide +kernel) (by decide +kernel) hL.1 rfl ?_
      refine aw_blk (pc' := 44) (ls' := [some (vr 9 k), some (vr 9 q), some (vl (wns at_ wt at2 wt2 m i)), none, some (vl (sumZ wt2 j)), none, some (vi (j : Int)), some (vi (i : Int))]) (st' := [vi (i : Int), vr 9 k1, vi (at2 j)]) [.inl (.iload 7)] 42 _ _ (by decide +kernel) rfl ?_
      refine aw_iald (j := i) (by decide +kernel) hL.2.1 (by omega) (by omega) (fun r44 => ?_)
      refine aw_icmp_ge (o := 22) (tgt := 67) (by decide +kernel) (by decide) (by omega) (by omega) (fun c => absurd c (by omega)) (fun _ => ?_)
      refine aw_blk (pc' := 51) (ls' := [some (vr 9 k), some (vr 9 q), some (vl (wns at_ wt at2 wt2 m i)), none, some (vl (sumZ wt2 j)), none, some (vi (j : Int)), some (vi (i : Int))]) (st' := [vr 9 q, vl (sumZ wt2 j)]) [.inl (.lload 4), .inl (.aload_n 1)] 48 _ _ (by decide +kernel) rfl ?_
      refine aw_get (idx := 127) (ci := 9) (f := 1) (by decide +kernel) (by decide +kernel) hL2.1 rfl ?_
      refine aw_blk (pc' := 56) (ls' := [some (vr 9 k), some (vr 9 q), some (vl (wns at_ wt at2 wt2 m i)), none, some (vl (sumZ wt2 j)), none, some (vi (j : Int)), some (vi (i : Int))]) (st' := [vi (j : Int), vr 9 q2, vl (sumZ wt2 j)]) [.inl (.iload 6)] 54 _ _ (by decide +kernel) rfl ?_
      refine aw_iald (j := j) (by decide +kernel) hL2.2.2 (by omega) (by omega) (fun r56 => ?_)
      refine aw_i2l (by decide +kernel) (by omega) ?_
      refine aw_blk (pc' := 64) (ls' := [some (vr 9 k), some (vr 9 q), some (vl (wns at_ wt at2 wt2 m i)), none, some (vl ((sumZ wt2 j) + (wt2 j))), none, some (vi ((j : Int) + 1)), some (vi (i : Int))]) (st' := []) [.inl (.ladd), .inl (.lstore 4), .inl (.iinc 6 1)] 58 _ _ (by decide +kernel) rfl ?_
      refine aw_goto (o := -43) (tgt := 21) (by decide +kernel) (by decide) ?_
      exact aw_eq rfl rfl rfl ih

/-- the comparison, digit by digit -/
def isl (x y : Int) : Nat → Int → Int → Int
  | 0, _, _ => 0
  | d + 1, r, o => if Int.tdiv r x = Int.tdiv o y then isl x y d (Int.tmod r x * 1048576) (Int.tmod o y * 1048576) else if Int.tdiv r x < Int.tdiv o y then 1 else 0
theorem tdiv_nn {x y B : Int} (h0 : 0 ≤ x) (h1 : x ≤ B) (hy : 1 ≤ y) : 0 ≤ Int.tdiv x y ∧ Int.tdiv x y ≤ B := by
  rw [Int.tdiv_eq_ediv_of_nonneg h0]
  exact ⟨Int.ediv_nonneg h0 (by omega), Int.le_trans (Int.ediv_le_self y h0) h1⟩
theorem tmod_nn {x y : Int} (h0 : 0 ≤ x) (hy : 1 ≤ y) : 0 ≤ Int.tmod x y ∧ Int.tmod x y < y := by
  rw [Int.tmod_eq_emod_of_nonneg h0]
  exact ⟨Int.emod_nonneg x (by omega), Int.emod_lt_of_pos x (by omega)⟩
theorem l_B_isl {Qr : Option AV → HT → Prop} {Qt : HT → Prop} (ha : 0 ≤ a ∧ a ≤ 1099511627776) (hc : 1 ≤ c ∧ c ≤ 1099511627776) (hd : 0 ≤ d ∧ d ≤ 1099511627776) (he : 1 ≤ e ∧ e ≤ 1099511627776) : ∀ (u i : Nat) (x y : Int) (z13 z14 z15 z16 : Option AV), i + u = 5 → (0 ≤ x ∧ x ≤ 1152921504606846976) → (0 ≤ y ∧ y ≤ 1152921504606846976) → (∀ z g, z = some (vi (isl c e u x y)) → g = h → Qr z g) → AW G M_B_isLess Qr Qt 0 0 25 [some (vl a), none, some (vl c), none, some (vl d), none, some (vl e), none, some (vl x), none, some (vl y), none, some (vi (i : Int)), z13, z14, z15, z16] [] h := by
  intro u
  induction u with
  | zero =>
    intro i x y z13 z14 z15 z16 hi hx hy hq
    refine aw_ls (ls' := [some (vl a), none, some (vl c), none, some (vl d), none, some (vl e), none, some (vl x), none, some (vl y), none, some (vi (i : Int)), none, none, none, none]) (lsk_s (lsk_n (lsk_s (lsk_n (lsk_s (lsk_n (lsk_s (lsk_n (lsk_s (lsk_n (lsk_s (lsk_n (lsk_s (lsk_n (lsk_n (lsk_n (lsk_n lsk_0))))))))))))))))) ?_
    refine aw_blk (pc' := 28) (ls' := [some (vl a), none, some (vl c), none, some (vl d), none, some (vl e), none, some (vl x), none, some (vl y), none, some (vi (i : Int)), none, none, none, none]) (st' := [vi 4, vi (i : Int)]) [.inl (.iload 12), .inl (.iconst 4)] 25 _ _ (by decide +kernel) rfl ?_
    refine aw_icmp_gt (o := 63) (tgt := 91) (by decide +kernel) (by decide) (by omega) (by omega) (fun _ => ?_) (fun c => absurd (by omega) c)
    refine aw_blk (pc' := 92) (ls' := [some (vl a), none, some (vl c), none, some (vl d), none, some (vl e), none, some (vl x), none, some (vl y), none, some (vi (i : Int)), none, none, none, none]) (st' := [vi 0]) [.inl (.iconst 0)] 91 _ _ (by decide +kernel) rfl ?_
    exact aw_zret (by decide +kernel) rfl (by decide) (by decide) (by omega) (hq _ _ rfl rfl)
  | succ u ih =>
    intro i x y z13 z14 z15 z16 hi hx hy hq
    refine aw_ls (ls' := [some (vl a), none, some (vl c), none, some (vl d), none, some (vl e), none, some (vl x), none, some (vl y), none, some (vi (i : Int)), none, none, none, none]) (lsk_s (lsk_n (lsk_s (lsk_n (lsk_s (lsk_n (lsk_s (lsk_n (lsk_s (lsk_n (lsk_s (lsk_n (lsk_s (lsk_n (lsk_n (lsk_n (lsk_n lsk_0))))))))))))))))) ?_
    have q1 := tdiv_nn hx.1 hx.2 hc.1
    have q2 := tdiv_nn hy.1 hy.2 he.1
    have q3 := tmod_nn hx.1 hc.1
    have q4 := tmod_nn hy.1 he.1
    refine aw_blk (pc' := 28) (ls' := [some (vl a), none, some (vl c), none, some (vl d), none, some (vl e), none, some (vl x), none, some (vl y), none, some (vi (i : Int)), none, none, none, none]) (st' := [vi 4, vi (i : Int)]) [.inl (.iload 12), .inl (.iconst 4)] 25 _ _ (by decide +kernel) rfl ?_
    refine aw_icmp_gt (o := 63) (tgt := 91) (by decide +kernel) (by decide) (by omega) (by omega) (fun c => absurd c (by omega)) (fun _ => ?_)
    refine aw_blk (pc' := 34) (ls' := [some (vl a), none, some (vl c), none, some (vl d), none, some (vl e), none, some (vl x), none, some (vl y), none, some (vi (i : Int)), none, none, none, none]) (st' := [vl c, vl x]) [.inl (.lload 8), .inl (.lload_n 2)] 31 _ _ (by decide +kernel) rfl ?_
    refine aw_ldiv (by decide +kernel) (by omega) (by omega) (by omega) ?_
    refine aw_blk (pc' := 41) (ls' := [some (vl a), none, some (vl c), none, some (vl d), none, some (vl e), none, some (vl x), none, some (vl y), none, some (vi (i : Int)), some (vl (Int.tdiv x c)), none, none, none]) (st' := [vl e, vl y]) [.inl (.lstore 13), .inl (.lload 10), .inl (.lload 6)] 35 _ _ (by decide +kernel) rfl ?_
    refine aw_ldiv (by decide +kernel) (by omega) (by omega) (by omega) ?_
    refine aw_blk (pc' := 48) (ls' := [some (vl a), none, some (vl c), none, some (vl d), none, some (vl e), none, some (vl x), none, some (vl y), none, some (vi (i : Int)), some (vl (Int.tdiv x c)), none, some (vl (Int.tdiv y e)), none]) (st' := [vl (Int.tdiv y e), vl (Int.tdiv x c)]) [.inl (.lstore 15), .inl (.lload 13), .inl (.lload 15)] 42 _ _ (by decide +kernel) rfl ?_
    refine aw_lcmp (by decide +kernel) (by omega) (by omega) ?_
    refine aw_if_eq (o := 17) (tgt := 66) (by decide +kernel) (by decide) (cmpI_in _ _) (fun c48 => ?_) (fun c48 => ?_)
    · rw [cmpI_eq] at c48
      refine aw_blk (pc' := 69) (ls' := [some (vl a), none, some (vl c), none, some (vl d), none, some (vl e), none, some (vl x), none, some (vl y), none, some (vi (i : Int)), some (vl (Int.tdiv x c)), none, some (vl (Int.tdiv y e)), none]) (st' := [vl c, vl x]) [.inl (.lload 8), .inl (.lload_n 2)] 66 _ _ (by decide +kernel) rfl ?_
      refine aw_lrem (by decide +kernel) (by omega) (by omega) (by omega) ?_
      refine aw_blk (pc' := 72) (ls' := [some (vl a), none, some (vl c), none, some (vl d), none, some (vl e), none, some (vl x), none, some (vl y), none, some (vi (i : Int)), some (vl (Int.tdiv x c)), none, some (vl (Int.tdiv y e)), none]) (st' := [vi 20, vl (Int.tmod x c)]) [.inl (.bipush 20)] 70 _ _ (by decide +kernel) rfl ?_
      refine aw_lshl (p9 := 1048576) (20) (by decide +kernel) rfl (by decide) (by decide) ?_
      refine aw_blk (pc' := 79) (ls' := [some (vl a), none, some (vl c), none, some (vl d), none, some (vl e), none, some (vl ((Int.tmod x c) * 1048576)), none, some (vl y), none, some (vi (i : Int)), some (vl (Int.tdiv x c)), none, some (vl (Int.tdiv y e)), none]) (st' := [vl e, vl y]) [.inl (.lstore 8), .inl (.lload 10), .inl (.lload 6)] 73 _ _ (by decide +kernel) rfl ?_
      refine aw_lrem (by decide +kernel) (by omega) (by omega) (by omega) ?_
      refine aw_blk (pc' := 82) (ls' := [some (vl a), none, some (vl c), none, some (vl d), none, some (vl e), none, some (vl ((Int.tmod x c) * 1048576)), none, some (vl y), none, some (vi (i : Int)), some (vl (Int.tdiv x c)), none, some (vl (Int.tdiv y e)), none]) (st' := [vi 20, vl (Int.tmod y e)]) [.inl (.bipush 20)] 80 _ _ (by decide +kernel) rfl ?_
      refine aw_lshl (p9 := 1048576) (20) (by decide +kernel) rfl (by decide) (by decide) ?_
      refine aw_blk (pc' := 88) (ls' := [some (vl a), none, some (vl c), none, some (vl d), none, some (vl e), none, some (vl ((Int.tmod x c) * 1048576)), none, some (vl ((Int.tmod y e) * 1048576)), none, some (vi ((i : Int) + 1)), some (vl (Int.tdiv x c)), none, some (vl (Int.tdiv y e)), none]) (st' := []) [.inl (.lstore 10), .inl (.iinc 12 1)] 83 _ _ (by decide +kernel) rfl ?_
      refine aw_goto (o := -63) (tgt := 25) (by decide +kernel) (by decide) ?_
      exact ih (i + 1) _ _ _ _ _ _ (by omega) (by omega) (by omega) (fun z g e1 e2 => hq z g (by rw [e1, isl, if_pos c48]) e2)
    · rw [cmpI_eq] at c48
      refine aw_blk (pc' := 56) (ls' := [some (vl a), none, some (vl c), none, some (vl d), none, some (vl e), none, some (vl x), none, some (vl y), none, some (vi (i : Int)), some (vl (Int.tdiv x c)), none, some (vl (Int.tdiv y e)), none]) (st' := [vl (Int.tdiv y e), vl (Int.tdiv x c)]) [.inl (.lload 13), .inl (.lload 15)] 52 _ _ (by decide +kernel) rfl ?_
      refine aw_lcmp (by decide +kernel) (by omega) (by omega) ?_
      refine aw_if_ge (o := 7) (tgt := 64) (by decide +kernel) (by decide) (cmpI_in _ _) (fun c56 => ?_) (fun c56 => ?_)
      · rw [cmpI_ge] at c56
        refine aw_blk (pc' := 65) (ls' := [some (vl a), none, some (vl c), none, some (vl d), none, some (vl e), none, some (vl x), none, some (vl y), none, some (vi (i : Int)), some (vl (Int.tdiv x c)), none, some (vl (Int.tdiv y e)), none]) (st' := [vi 0]) [.inl (.iconst 0)] 64 _ _ (by decide +kernel) rfl ?_
        exact aw_zret (by decide +kernel) rfl (by decide) (by decide) (by omega) (hq _ _ (by rw [isl, if_neg c48, if_neg (by omega)]) rfl)
      · rw [cmpI_ge] at c56
        refine aw_blk (pc' := 61) (ls' := [some (vl a), none, some (vl c), none, some (vl d), none, some (vl e), none, some (vl x), none, some (vl y), none, some (vi (i : Int)), some (vl (Int.tdiv x c)), none, some (vl (Int.tdiv y e)), none]) (st' := [vi 1]) [.inl (.iconst 1)] 60 _ _ (by decide +kernel) rfl ?_
        refine aw_goto (o := 4) (tgt := 65) (by decide +kernel) (by decide) ?_
        exact aw_zret (by decide +kernel) rfl (by decide) (by decide) (by omega) (hq _ _ (by rw [isl, if_neg c48, if_pos (by omega)]) rfl)
theorem m_B_isLess (ha : 0 ≤ a ∧ a ≤ 1099511627776) (hc : 1 ≤ c ∧ c ≤ 1099511627776) (hd : 0 ≤ d ∧ d ≤ 1099511627776) (he : 1 ≤ e ∧ e ≤ 1099511627776) : ADet G M_B_isLess [vl a, vl c, vl d, vl e] h (some (vi (isl c e 5 a d))) h := by
  refine am_det (by decide +kernel) (Nat.le_of_ble_eq_true rfl) (fun Qr Qt hq => ?_)
  refine aw_blk (pc' := 2) (ls' := [some (vl a), none, some (vl c), none, some (vl d), none, some (vl e), none, none, none, none, none, none, none, none, none, none]) (st' := [vl 1, vl c]) [.inl (.lload_n 2), .inl (.lconst 1)] 0 _ _ (by decide +kernel) rfl ?_
  refine aw_lcmp (by decide +kernel) (by omega) (by omega) ?_
  refine aw_if_lt (o := 10) (tgt := 13) (by decide +kernel) (by decide) (cmpI_in _ _) (fun c => absurd ((cmpI_lt _ _).mp c) (by omega)) (fun _ => ?_)
  refine aw_blk (pc' := 9) (ls' := [some (vl a), none, some (vl c), none, some (vl d), none, some (vl e), none, none, none, none, none, none, none, none, none, none]) (st' := [vl 1, vl e]) [.inl (.lload 6), .inl (.lconst 1)] 6 _ _ (by decide +kernel) rfl ?_
  refine aw_lcmp (by decide +kernel) (by omega) (by omega) ?_
  refine aw_if_ge (o := 5) (tgt := 15) (by decide +kernel) (by decide) (cmpI_in _ _) (fun _ => ?_) (fun c => absurd ((cmpI_ge _ _).mpr (by omega)) c)
  refine aw_blk (pc' := 25) (ls' := [some (vl a), none, some (vl c), none, some (vl d), none, some (vl e), none, some (vl a), none, some (vl d), none, some (vi 0), none, none, none, none]) (st' := []) [.inl (.lload_n 0), .inl (.lstore 8), .inl (.lload 4), .inl (.lstore 10), .inl (.iconst 0), .inl (.istore 12)] 15 _ _ (by decide +kernel) rfl ?_
  exact l_B_isl ha hc hd he 5 0 a d none none none none rfl (by omega) (by omega) hq

abbrev sgB (bd tk : Int) : SG := [some (ob 0 [vr 1 0, vr 2 0, vr 3 0, vr 4 0, vr 5 0, vr 6 0, vr 7 0, vi bd, vi tk])]
variable {bd tk : Int} {laws ahead made : Nat → Option (Nat × Nat)} {slot : Nat → Int} {od dn un : Nat}
theorem m_B_heldUnless (ha : I32 a) : ADet G M_B_heldUnless [vr 0 0, vi a] (Hp (sgB bd tk) s t mk df jo tr di mo dy) (some (vi (if a = 5000 then 1 else 0))) (Hp (sgB (if a = 5000 then bd else a) tk) s t mk df jo tr di mo dy) := by
  refine am_det (by decide +kernel) (Nat.le_of_ble_eq_true rfl) (fun Qr Qt hq => ?_)
  refine aw_blk (pc' := 4) (ls' := [some (vr 0 0), some (vi a)]) (st' := [vi 5000, vi a]) [.inl (.iload_n 1), .inl (.sipush 5000)] 0 _ _ (by decide +kernel) rfl ?_
  refine aw_icmp_ne (o := 5) (tgt := 9) (by decide +kernel) (by decide) (by omega) (by omega) (fun c4 => ?_) (fun c4 => ?_)
  · refine aw_blk (pc' := 11) (ls' := [some (vr 0 0), some (vi a)]) (st' := [vi a, vr 0 0]) [.inl (.aload_n 0), .inl (.iload_n 1)] 9 _ _ (by decide +kernel) rfl ?_
    refine aw_put (idx := 58) (ci := 0) (k := 7) (h' := Hp [some (ob 0 [vr 1 0, vr 2 0, vr 3 0, vr 4 0, vr 5 0, vr 6 0, vr 7 0, vi a, vi tk])] s t mk df jo tr di mo dy) (by decide +kernel) (by decide +kernel) rfl (Nat.le_of_ble_eq_true rfl) (show I32 _ from by omega) rfl ?_
    refine aw_blk (pc' := 15) (ls' := [some (vr 0 0), some (vi a)]) (st' := [vi 0]) [.inl (.iconst 0)] 14 _ _ (by decide +kernel) rfl ?_
    exact aw_iret (by decide +kernel) rfl (by decide) (by decide) (hq _ _ (by rw [if_neg c4]) (by rw [if_neg c4]))
  · refine aw_blk (pc' := 8) (ls' := [some (vr 0 0), some (vi a)]) (st' := [vi 1]) [.inl (.iconst 1)] 7 _ _ (by decide +kernel) rfl ?_
    exact aw_iret (by decide +kernel) rfl (by decide) (by decide) (hq _ _ (by rw [if_pos c4]) (by rw [if_pos c4]))

theorem m_B_lawOf (ha : I32 a) (hl : lawAt laws a = some (9, k)) : ADet G M_B_lawOf [vr 0 0, vi a] (Hp (sgB bd tk) (sgS laws slot ahead made (od : Int) (dn : Int) (un : Int)) t mk df jo tr di mo dy) (some (vr 9 k)) (Hp (sgB bd tk) (sgS laws slot ahead made (od : Int) (dn : Int) (un : Int)) t mk df jo tr di mo dy) := by
  refine am_det (by decide +kernel) (Nat.le_of_ble_eq_true rfl) (fun Qr Qt hq => ?_)
  refine aw_blk (pc' := 5) (ls' := [some (vr 0 0), some (vi a), none]) (st' := [vi a, vr 1 0]) [.inl (.aload_n 0), .inr (10, 0, 0), .inl (.iload_n 1)] 0 _ _ (by decide +kernel) rfl ?_
  refine aw_dV (cs' := 0) (sl' := 0) (pc' := 8) (st' := [vo (lawAt laws a)]) (idx := 117) (as := [vi a]) (st := []) (m_S_lawIn ha) (by decide +kernel) (show vOK "ChanceBench" 117 M_S_lawIn 1 = true by decide +kernel) rfl rfl rfl (Nat.le_of_ble_eq_true rfl) (by decide) (by decide) (by decide) rfl rfl rfl rfl ?_
  rw [hl]
  refine aw_blk (pc' := 10) (ls' := [some (vr 0 0), some (vi a), some (vr 9 k)]) (st' := [vr 9 k]) [.inl (.astore_n 2), .inl (.aload_n 2)] 8 _ _ (by decide +kernel) rfl ?_
  refine aw_ifnonnull (o := 11) (tgt := 21) (by decide +kernel) (by decide) (fun _ _ => ?_) (fun z => nomatch z)
  refine aw_blk (pc' := 22) (ls' := [some (vr 0 0), some (vi a), some (vr 9 k)]) (st' := [vr 9 k]) [.inl (.aload_n 2)] 21 _ _ (by decide +kernel) rfl ?_
  exact aw_aret (by decide +kernel) rfl (by decide) (by decide) (hq _ _ rfl rfl)

theorem m_B_lawOf_t (ha : I32 a) (hl : lawAt laws a = none) : AThr G M_B_lawOf [vr 0 0, vi a] (Hp (sgB bd tk) (sgS laws slot ahead made (od : Int) (dn : Int) (un : Int)) t mk df jo tr di mo dy) := by
  refine am_thr (by decide +kernel) (Nat.le_of_ble_eq_true rfl) (fun Qr Qt hq => ?_)
  refine aw_blk (pc' := 5) (ls' := [some (vr 0 0), some (vi a), none]) (st' := [vi a, vr 1 0]) [.inl (.aload_n 0), .inr (10, 0, 0), .inl (.iload_n 1)] 0 _ _ (by decide +kernel) rfl ?_
  refine aw_dV (cs' := 0) (sl' := 0) (pc' := 8) (st' := [vo (lawAt laws a)]) (idx := 117) (as := [vi a]) (st := []) (m_S_lawIn ha) (by decide +kernel) (show vOK "ChanceBench" 117 M_S_lawIn 1 = true by decide +kernel) rfl rfl rfl (Nat.le_of_ble_eq_true rfl) (by decide) (by decide) (by decide) rfl rfl rfl rfl ?_
  rw [hl]
  refine aw_blk (pc' := 10) (ls' := [some (vr 0 0), some (vi a), some (vn)]) (st' := [vn]) [.inl (.astore_n 2), .inl (.aload_n 2)] 8 _ _ (by decide +kernel) rfl ?_
  refine aw_ifnonnull (o := 11) (tgt := 21) (by decide +kernel) (by decide) (fun _ z => nomatch z) (fun _ => ?_)
  exact aw_throw (ik := 146) (ic := 148) tOK_B (by decide +kernel) (by decide +kernel) (by decide +kernel) (by decide +kernel) (Nat.le_of_ble_eq_true rfl) (by decide) (by decide) (by decide) hq

theorem m_B_growTo_t (ha : I32 a) (h0 : ¬ (0 ≤ a ∧ a ≤ 60)) : AThr G M_B_growTo [vr 0 0, vr k1 k2, vi a] (Hp (sgB bd tk) (sgS laws slot ahead made (od : Int) (dn : Int) (un : Int)) t mk df jo tr di mo dy) := by
  refine am_thr (by decide +kernel) (Nat.le_of_ble_eq_true rfl) (fun Qr Qt hq => ?_)
  refine aw_blk (pc' := 4) (ls' := [some (vr 0 0), some (vr k1 k2), some (vi a), none]) (st' := [vi 60, vi 0, vi a]) [.inl (.iload_n 2), .inl (.iconst 0), .inl (.bipush 60)] 0 _ _ (by decide +kernel) rfl ?_
  refine aw_dS (cs' := 0) (sl' := 0) (pc' := 7) (st' := [vi (if 0 ≤ a ∧ a ≤ 60 then 1 else 0)]) (idx := 98) (as := [vi a, vi 0, vi 60]) (st := []) (m_B_isWithin (by omega) (by omega) (by omega)) (by decide +kernel) (show sOK "ChanceBench" 98 M_B_isWithin 3 = true by decide +kernel) rfl (Nat.le_of_ble_eq_true rfl) (by decide) (by decide) (by decide) rfl rfl rfl rfl ?_
  rw [if_neg (by omega)]
  refine aw_if_ne (o := 11) (tgt := 18) (by decide +kernel) (by decide) (by omega) (fun c => absurd (by omega) c) (fun _ => ?_)
  exact aw_throw (ik := 146) (ic := 148) tOK_B (by decide +kernel) (by decide +kernel) (by decide +kernel) (by decide +kernel) (Nat.le_of_ble_eq_true rfl) (by decide) (by decide) (by decide) hq

end
