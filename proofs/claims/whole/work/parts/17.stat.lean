section
variable {G : GT} {M : MI} {h : HT}
/-- a method that throws, and has changed nothing -/
abbrev AThr (G : GT) (M : MI) (as : List AV) (h : HT) : Prop := AMet G M as h (fun _ _ => False) (fun h' => ∃ j, h' = (h.1 + j, junk h.2 j))
theorem am_thr {as : List AV} (hy : plainName M.1.cls = true) (hn : (entL as).length ≤ M.2.2.1) (k : ∀ Qr Qt, (∀ j, Qt (h.1 + j, junk h.2 j)) → AW G M Qr Qt 0 0 0 (entN as M.2.2.1) [] h) : AThr G M as h :=
  am_entry hy hn (k _ _ (fun j => ⟨j, rfl⟩))
variable {M' : MI} {Qr : Option AV → HT → Prop} {Qt : HT → Prop} {cs sl pc : Nat} {ls : LSt} {st : List AV} {s q n idx : Nat}
theorem aw_tV {as : List AV} {ci : Nat} {fs : List AV} {stk : List AV} (hM : AThr G M' (vr s q :: as) h) (hd : decode M.2.1 pc = .ok (.invokevirtual idx, 3)) (hw : vOK M.1.cls idx M' as.length = true) (hg : hget h s q = some (ob ci fs)) (hci : (cls[ci]?).map (fun r => r.1) = some M'.1.cls) (hst : stk = as.reverse ++ vr s q :: st) (hcat : catS st ≤ 8) (hd1 : M'.2.2.2.2.1 + 1 ≤ M.2.2.2.2.1) (hc : cs + M'.2.2.2.2.2.1 ≤ M.2.2.2.2.2.1) (hs : sl + M'.2.2.2.2.2.2 ≤ M.2.2.2.2.2.2)
    (k : ∀ j, Qt (h.1 + j, junk h.2 j)) : AW G M Qr Qt cs sl pc ls stk h :=
  aw_callV hM hd hw hg hci hst hcat hd1 hc hs (fun h' z => by obtain ⟨j, rfl⟩ := z; exact k j) (fun _ _ z => z.elim)
theorem aw_tS {as : List AV} {stk : List AV} (hM : AThr G M' as h) (hd : decode M.2.1 pc = .ok (.invokestatic idx, 3)) (hw : sOK M.1.cls idx M' as.length = true) (hst : stk = as.reverse ++ st) (hcat : catS st ≤ 8) (hd1 : M'.2.2.2.2.1 + 1 ≤ M.2.2.2.2.1) (hc : cs + M'.2.2.2.2.2.1 ≤ M.2.2.2.2.2.1) (hs : sl + M'.2.2.2.2.2.2 ≤ M.2.2.2.2.2.2)
    (k : ∀ j, Qt (h.1 + j, junk h.2 j)) : AW G M Qr Qt cs sl pc ls stk h :=
  aw_callS hM hd hw hst hcat hd1 hc hs (fun h' z => by obtain ⟨j, rfl⟩ := z; exact k j) (fun _ _ z => z.elim)
end
/-! Euclid: how many steps it takes -/
def eu : Nat → Nat → Nat → Prop
  | 0, _, y => y = 0
  | n + 1, x, y => y = 0 ∨ eu n y (x % y)
def fb : Nat → Nat
  | 0 => 0
  | 1 => 1
  | n + 2 => fb (n + 1) + fb n
theorem eu_fb : ∀ (n x y : Nat), y ≤ x → ¬ eu n x y → fb (n + 1) ≤ y ∧ fb (n + 2) ≤ x
  | 0, x, y, h, e => by
    have : y ≠ 0 := e
    exact ⟨by show 1 ≤ y; omega, by show 1 + 0 ≤ x; omega⟩
  | n + 1, x, y, h, e => by
    have e1 : y ≠ 0 := fun z => e (Or.inl z)
    have e2 : ¬ eu n y (x % y) := fun z => e (Or.inr z)
    have hl : x % y < y := Nat.mod_lt x (by omega)
    obtain ⟨a1, a2⟩ := eu_fb n y (x % y) (by omega) e2
    refine ⟨a2, ?_⟩
    show fb (n + 2) + fb (n + 1) ≤ x
    have h3 := Nat.div_add_mod x y
    have h4 : 1 ≤ x / y := (Nat.one_le_div_iff (by omega)).mpr h
    have h5 : y * 1 ≤ y * (x / y) := Nat.mul_le_mul_left y h4
    omega
theorem fb_93 : 9223372036854775808 < fb 93 := by decide +kernel
theorem eu_mono : ∀ (n x y : Nat), eu n x y → eu (n + 1) x y
  | 0, x, y, h => Or.inl h
  | n + 1, x, y, h => h.elim Or.inl (fun z => Or.inr (eu_mono n y (x % y) z))
theorem eu_le {n m x y : Nat} (h : n ≤ m) (e : eu n x y) : eu m x y := by
  obtain ⟨d, rfl⟩ : ∃ d, m = n + d := ⟨m - n, by omega⟩
  clear h
  induction d with
  | zero => exact e
  | succ d ih => exact eu_mono _ _ _ ih
theorem eu_100 {x y : Nat} (hx : x ≤ 9223372036854775807) (hy : y ≤ 9223372036854775807) : eu 100 x y := by
  have key : ∀ x y : Nat, y ≤ x → y ≤ 9223372036854775807 → eu 92 x y := fun x y h h2 => by
    rcases Classical.em (eu 92 x y) with z | z
    · exact z
    · have := (eu_fb 92 x y h z).1
      have := fb_93
      exfalso
      have e : fb (92 + 1) = fb 93 := rfl
      omega
  rcases Nat.lt_or_ge x y with z | z
  · refine eu_le (n := 93) (by decide) (Or.inr ?_)
    rw [Nat.mod_eq_of_lt z]
    exact key y x (by omega) hx
  · exact eu_le (n := 92) (by decide) (key x y z hy)
def gc (a c : Int) : Int := if 1 < ((Nat.gcd a.natAbs c.natAbs : Nat) : Int) then ((Nat.gcd a.natAbs c.natAbs : Nat) : Int) else 1
abbrev J64 (z : Int) : Prop := -9223372036854775807 ≤ z ∧ z ≤ 9223372036854775807
section
variable {G : GT} {h : HT} {b s t mk df jo tr di mo dy : SG} {a c d : Int} {n k k1 k2 j j1 j2 m : Nat} {f at_ wt at2 wt2 : Nat → Int} {W W2 : Int}
theorem lsN11 {a0 a2 a4 a6 a8 : AV} {x9 : Option AV} : ∀ (k : Nat) (v : AV), ([some a0, none, some a2, none, some a4, none, some a6, none, some a8, none, none] : LSt)[k]? = some (some v) → ([some a0, none, some a2, none, some a4, none, some a6, none, some a8, x9, none] : LSt)[k]? = some (some v) := by
  intro k v h
  match k, h with
  | 0, h => exact h
  | 1, h => exact h
  | 2, h => exact h
  | 3, h => exact h
  | 4, h => exact h
  | 5, h => exact h
  | 6, h => exact h
  | 7, h => exact h
  | 8, h => exact h
  | 9, h => simp at h
  | k + 10, h => exact h
theorem l_B_cd {Qr : Option AV → HT → Prop} {Qt : HT → Prop} (ha : J64 a) (hc : J64 c) (hq : ∀ x g, x = some (vl (gc a c)) → g = h → Qr x g) : ∀ (n x y t : Nat) (x9 : Option AV), t + n = 100 → eu n x y → Nat.gcd x y = Nat.gcd a.natAbs c.natAbs → x ≤ 9223372036854775807 → y ≤ 9223372036854775807 → AW G M_B_commonDivisor Qr Qt 0 0 15 [some (vl a), none, some (vl c), none, some (vl (x : Int)), none, some (vl (y : Int)), none, some (vi (t : Int)), x9, none] [] h := by
  intro n
  induction n with
  | zero =>
    intro x y t x9 ht he hg hx hy
    have hy0 : y = 0 := he
    subst hy0
    have ht1 : t = 100 := by omega
    subst ht1
    refine aw_ls (ls' := [some (vl a), none, some (vl c), none, some (vl (x : Int)), none, some (vl ((0 : Nat) : Int)), none, some (vi ((100 : Nat) : Int)), none, none]) (lsN11) ?_
    refine aw_blk (pc' := 19) (ls' := [some (vl a), none, some (vl c), none, some (vl (x : Int)), none, some (vl ((0 : Nat) : Int)), none, some (vi ((100 : Nat) : Int)), none, none]) (st' := [vi 100, vi ((100 : Nat) : Int)]) [.inl (.iload 8), .inl (.bipush 100)] 15 _ _ (by decide +kernel) rfl ?_
    refine aw_icmp_ge (o := 31) (tgt := 50) (by decide +kernel) (by decide) (by omega) (by omega) (fun _ => ?_) (fun c => absurd (by omega) c)
    refine aw_blk (pc' := 53) (ls' := [some (vl a), none, some (vl c), none, some (vl (x : Int)), none, some (vl ((0 : Nat) : Int)), none, some (vi ((100 : Nat) : Int)), none, none]) (st' := [vl 1, vl (x : Int)]) [.inl (.lload 4), .inl (.lconst 1)] 50 _ _ (by decide +kernel) rfl ?_
    refine aw_mmaxJ (idx := 303) (by decide +kernel) (by decide +kernel) (Nat.le_of_ble_eq_true rfl) (by decide) (by decide) (by decide) (by omega) (by omega) ?_
    exact aw_lret (by decide +kernel) rfl (by decide) (by decide) (hq _ _ (by rw [gc, ← hg, Nat.gcd_zero_right]) rfl)
  | succ n ih =>
    intro x y t x9 ht he hg hx hy
    refine aw_ls (ls' := [some (vl a), none, some (vl c), none, some (vl (x : Int)), none, some (vl (y : Int)), none, some (vi (t : Int)), none, none]) (lsN11) ?_
    refine aw_blk (pc' := 19) (ls' := [some (vl a), none, some (vl c), none, some (vl (x : Int)), none, some (vl (y : Int)), none, some (vi (t : Int)), none, none]) (st' := [vi 100, vi (t : Int)]) [.inl (.iload 8), .inl (.bipush 100)] 15 _ _ (by decide +kernel) rfl ?_
    refine aw_icmp_ge (o := 31) (tgt := 50) (by decide +kernel) (by decide) (by omega) (by omega) (fun c => absurd c (by omega)) (fun _ => ?_)
    refine aw_blk (pc' := 25) (ls' := [some (vl a), none, some (vl c), none, some (vl (x : Int)), none, some (vl (y : Int)), none, some (vi (t : Int)), none, none]) (st' := [vl 0, vl (y : Int)]) [.inl (.lload 6), .inl (.lconst 0)] 22 _ _ (by decide +kernel) rfl ?_
    refine aw_lcmp (by decide +kernel) (by omega) (by omega) ?_
    refine aw_if_le (o := 24) (tgt := 50) (by decide +kernel) (by decide) (cmpI_in _ _) (fun c25 => ?_) (fun c25 => ?_)
    · rw [cmpI_le] at c25
      have hy0 : y = 0 := by omega
      subst hy0
      refine aw_blk (pc' := 53) (ls' := [some (vl a), none, some (vl c), none, some (vl (x : Int)), none, some (vl ((0 : Nat) : Int)), none, some (vi (t : Int)), none, none]) (st' := [vl 1, vl (x : Int)]) [.inl (.lload 4), .inl (.lconst 1)] 50 _ _ (by decide +kernel) rfl ?_
      refine aw_mmaxJ (idx := 303) (by decide +kernel) (by decide +kernel) (Nat.le_of_ble_eq_true rfl) (by decide) (by decide) (by decide) (by omega) (by omega) ?_
      exact aw_lret (by decide +kernel) rfl (by decide) (by decide) (hq _ _ (by rw [gc, ← hg, Nat.gcd_zero_right]) rfl)
    · rw [cmpI_le] at c25
      refine aw_blk (pc' := 33) (ls' := [some (vl a), none, some (vl c), none, some (vl (x : Int)), none, some (vl (y : Int)), none, some (vi (t : Int)), none, none]) (st' := [vl (y : Int), vl (x : Int)]) [.inl (.lload 4), .inl (.lload 6)] 29 _ _ (by decide +kernel) rfl ?_
      refine aw_lrem (by decide +kernel) (by omega) (by omega) (by omega) ?_
      rw [tmod_nat]
      refine aw_blk (pc' := 47) (ls' := [some (vl a), none, some (vl c), none, some (vl (y : Int)), none, some (vl ((x % y : Nat) : Int)), none, some (vi ((t : Int) + 1)), some (vl ((x % y : Nat) : Int)), none]) (st' := []) [.inl (.lstore 9), .inl (.lload 6), .inl (.lstore 4), .inl (.lload 9), .inl (.lstore 6), .inl (.iinc 8 1)] 34 _ _ (by decide +kernel) rfl ?_
      refine aw_goto (o := -32) (tgt := 15) (by decide +kernel) (by decide) ?_
      exact ih y (x % y) (t + 1) _ (by omega) (he.resolve_left (by omega)) (by rw [← hg, Nat.gcd_comm x y, Nat.gcd_rec y x, Nat.gcd_comm]) (by omega) (Nat.le_trans (Nat.mod_le x y) hx)
theorem m_B_commonDivisor (ha : J64 a) (hc : J64 c) : ADet G M_B_commonDivisor [vl a, vl c] h (some (vl (gc a c))) h := by
  refine am_det (by decide +kernel) (Nat.le_of_ble_eq_true rfl) (fun Qr Qt hq => ?_)
  refine aw_blk (pc' := 1) (ls' := [some (vl a), none, some (vl c), none, none, none, none, none, none, none, none]) (st' := [vl a]) [.inl (.lload_n 0)] 0 _ _ (by decide +kernel) rfl ?_
  refine aw_mabsJ (idx := 299) (by decide +kernel) (by decide +kernel) (Nat.le_of_ble_eq_true rfl) (by decide) (by decide) (by decide) (by omega) ?_
  refine aw_blk (pc' := 7) (ls' := [some (vl a), none, some (vl c), none, some (vl (if 0 < a then a else -a)), none, none, none, none, none, none]) (st' := [vl c]) [.inl (.lstore 4), .inl (.lload_n 2)] 4 _ _ (by decide +kernel) rfl ?_
  refine aw_mabsJ (idx := 299) (by decide +kernel) (by decide +kernel) (Nat.le_of_ble_eq_true rfl) (by decide) (by decide) (by decide) (by omega) ?_
  refine aw_blk (pc' := 15) (ls' := [some (vl a), none, some (vl c), none, some (vl (if 0 < a then a else -a)), none, some (vl (if 0 < c then c else -c)), none, some (vi 0), none, none]) (st' := []) [.inl (.lstore 6), .inl (.iconst 0), .inl (.istore 8)] 10 _ _ (by decide +kernel) rfl ?_
  rw [show (if 0 < a then a else -a) = (a.natAbs : Int) by omega, show (if 0 < c then c else -c) = (c.natAbs : Int) by omega]
  exact l_B_cd ha hc hq 100 a.natAbs c.natAbs 0 none (by omega) (eu_100 (by omega) (by omega)) rfl (by omega) (by omega)

def pw (a : Int) : Nat → Int
  | 0 => 1
  | n + 1 => pw a n * a
theorem m_B_power (ha : I32 a) (hn : n ≤ 1000) : ADet G M_B_power [vi a, vi (n : Int)] h (some (vl (pw a n))) h := by
  refine am_det (by decide +kernel) (Nat.le_of_ble_eq_true rfl) (fun Qr Qt hq => ?_)
  refine aw_blk (pc' := 5) (ls' := [some (vi a), some (vi (n : Int)), some (vl 1), none, some (vi 0)]) (st' := []) [.inl (.lconst 1), .inl (.lstore_n 2), .inl (.iconst 0), .inl (.istore 4)] 0 _ _ (by decide +kernel) rfl ?_
  refine up_to (W := fun i : Nat => AW G M_B_power Qr Qt 0 0 5 [some (vi a), some (vi (n : Int)), some (vl (pw a i)), none, some (vi (i : Int))] [] (h)) n ?_ (fun i hi ih => ?_) 0 (by omega)
  · refine aw_blk (pc' := 8) (ls' := [some (vi a), some (vi (n : Int)), some (vl (pw a n)), none, some (vi (n : Int))]) (st' := [vi (n : Int), vi (n : Int)]) [.inl (.iload 4), .inl (.iload_n 1)] 5 _ _ (by decide +kernel) rfl ?_
    refine aw_icmp_ge (o := 14) (tgt := 22) (by decide +kernel) (by decide) (by omega) (by omega) (fun _ => ?_) (fun c => absurd (by omega) c)
    refine aw_blk (pc' := 23) (ls' := [some (vi a), some (vi (n : Int)), some (vl (pw a n)), none, some (vi (n : Int))]) (st' := [vl (pw a n)]) [.inl (.lload_n 2)] 22 _ _ (by decide +kernel) rfl ?_
    exact aw_lret (by decide +kernel) rfl (by decide) (by decide) (hq _ _ rfl rfl)
  · refine aw_blk (pc' := 8) (ls' := [some (vi a), some (vi (n : Int)), some (vl (pw a i)), none, some (vi (i : Int))]) (st' := [vi (n : Int), vi (i : Int)]) [.inl (.iload 4), .inl (.iload_n 1)] 5 _ _ (by decide +kernel) rfl ?_
    refine aw_icmp_ge (o := 14) (tgt := 22) (by decide +kernel) (by decide) (by omega) (by omega) (fun c => absurd c (by omega)) (fun _ => ?_)
    refine aw_blk (pc' := 13) (ls' := [some (vi a), some (vi (n : Int)), some (vl (pw a i)), none, some (vi (i : Int))]) (st' := [vi a, vl (pw a i)]) [.inl (.lload_n 2), .inl (.iload_n 0)] 11 _ _ (by decide +kernel) rfl ?_
    refine aw_i2l (by decide +kernel) (by omega) ?_
    refine aw_blk (pc' := 19) (ls' := [some (vi a), some (vi (n : Int)), some (vl ((pw a i) * a)), none, some (vi ((i : Int) + 1))]) (st' := []) [.inl (.lmul), .inl (.lstore_n 2), .inl (.iinc 4 1)] 14 _ _ (by decide +kernel) rfl ?_
    refine aw_goto (o := -14) (tgt := 5) (by decide +kernel) (by decide) ?_
    exact aw_eq rfl rfl rfl ih

def chW (n k : Nat) : Nat → Int
  | 0 => 1
  | i + 1 => Int.tdiv (chW n k i * ((n : Int) - (k : Int) + ((i : Int) + 1))) ((i : Int) + 1)
def chs (n : Nat) (c : Int) : Int := if 0 ≤ c ∧ c ≤ (n : Int) then chW n c.toNat c.toNat else 0
theorem chW_in : ∀ (n : Fin 21) (k : Fin 21), k.val ≤ n.val → ∀ i : Fin 21, i.val ≤ k.val → 0 ≤ chW n.val k.val i.val ∧ chW n.val k.val i.val ≤ 184756 := by decide +kernel
theorem m_B_choices (hn : n ≤ 20) (hc : I32 c) : ADet G M_B_choices [vi (n : Int), vi c] h (some (vl (chs n c))) h := by
  refine am_det (by decide +kernel) (Nat.le_of_ble_eq_true rfl) (fun Qr Qt hq => ?_)
  refine aw_blk (pc' := 1) (ls' := [some (vi (n : Int)), some (vi c), none, none, none]) (st' := [vi c]) [.inl (.iload_n 1)] 0 _ _ (by decide +kernel) rfl ?_
  refine aw_if_lt (o := 8) (tgt := 9) (by decide +kernel) (by decide) (by omega) (fun c1 => ?_) (fun c1 => ?_)
  · refine aw_blk (pc' := 10) (ls' := [some (vi (n : Int)), some (vi c), none, none, none]) (st' := [vl 0]) [.inl (.lconst 0)] 9 _ _ (by decide +kernel) rfl ?_
    exact aw_lret (by decide +kernel) rfl (by decide) (by decide) (hq _ _ (by rw [chs, if_neg (by omega)]) rfl)
  · refine aw_blk (pc' := 6) (ls' := [some (vi (n : Int)), some (vi c), none, none, none]) (st' := [vi (n : Int), vi c]) [.inl (.iload_n 1), .inl (.iload_n 0)] 4 _ _ (by decide +kernel) rfl ?_
    refine aw_icmp_le (o := 5) (tgt := 11) (by decide +kernel) (by decide) (by omega) (by omega) (fun c6 => ?_) (fun c6 => ?_)
    · refine aw_blk (pc' := 16) (ls' := [some (vi (n : Int)), some (vi c), some (vl 1), none, some (vi 1)]) (st' := []) [.inl (.lconst 1), .inl (.lstore_n 2), .inl (.iconst 1), .inl (.istore 4)] 11 _ _ (by decide +kernel) rfl ?_
      obtain ⟨k, rfl⟩ : ∃ k : Nat, c = (k : Int) := ⟨c.toNat, by omega⟩
      refine up_to (W := fun i : Nat => AW G M_B_choices Qr Qt 0 0 16 [some (vi (n : Int)), some (vi (k : Int)), some (vl (chW n k i)), none, some (vi ((i : Int) + 1))] [] (h)) k ?_ (fun i hi ih => ?_) 0 (by omega)
      · refine aw_blk (pc' := 19) (ls' := [some (vi (n : Int)), some (vi (k : Int)), some (vl (chW n k k)), none, some (vi ((k : Int) + 1))]) (st' := [vi (k : Int), vi ((k : Int) + 1)]) [.inl (.iload 4), .inl (.iload_n 1)] 16 _ _ (by decide +kernel) rfl ?_
        refine aw_icmp_gt (o := 23) (tgt := 42) (by decide +kernel) (by decide) (by omega) (by omega) (fun _ => ?_) (fun c => absurd (by omega) c)
        refine aw_blk (pc' := 43) (ls' := [some (vi (n : Int)), some (vi (k : Int)), some (vl (chW n k k)), none, some (vi ((k : Int) + 1))]) (st' := [vl (chW n k k)]) [.inl (.lload_n 2)] 42 _ _ (by decide +kernel) rfl ?_
        exact aw_lret (by decide +kernel) rfl (by decide) (by decide) (hq _ _ (by rw [chs, if_pos (by omega)]; rfl) rfl)
      · have hb := chW_in ⟨n, by omega⟩ ⟨k, by omega⟩ (by show k ≤ n; omega) ⟨i, by omega⟩ (by show i ≤ k; omega)
        have hb1 : 0 ≤ chW n k i := hb.1
        have hb2 : chW n k i ≤ 184756 := hb.2
        refine aw_blk (pc' := 19) (ls' := [some (vi (n : Int)), some (vi (k : Int)), some (vl (chW n k i)), none, some (vi ((i : Int) + 1))]) (st' := [vi (k : Int), vi ((i : Int) + 1)]) [.inl (.iload 4), .inl (.iload_n 1)] 16 _ _ (by decide +kernel) rfl ?_
        refine aw_icmp_gt (o := 23) (tgt := 42) (by decide +kernel) (by decide) (by omega) (by omega) (fun c => absurd c (by omega)) (fun _ => ?_)
        refine aw_blk (pc' := 29) (ls' := [some (vi (n : Int)), some (vi (k : Int)), some (vl (chW n k i)), none, some (vi ((i : Int) + 1))]) (st' := [vi (((n : Int) - (k : Int)) + ((i : Int) + 1)), vl (chW n k i)]) [.inl (.lload_n 2), .inl (.iload_n 0), .inl (.iload_n 1), .inl (.isub), .inl (.iload 4), .inl (.iadd)] 22 _ _ (by decide +kernel) rfl ?_
        refine aw_i2l (by decide +kernel) (by omega) ?_
        refine aw_blk (pc' := 33) (ls' := [some (vi (n : Int)), some (vi (k : Int)), some (vl (chW n k i)), none, some (vi ((i : Int) + 1))]) (st' := [vi ((i : Int) + 1), vl ((chW n k i) * (((n : Int) - (k : Int)) + ((i : Int) + 1)))]) [.inl (.lmul), .inl (.iload 4)] 30 _ _ (by decide +kernel) rfl ?_
        refine aw_i2l (by decide +kernel) (by omega) ?_
        have hm : 0 ≤ chW n k i * ((n : Int) - (k : Int) + ((i : Int) + 1)) ∧ chW n k i * ((n : Int) - (k : Int) + ((i : Int) + 1)) ≤ 184756 * 21 := ⟨Int.mul_nonneg hb1 (by omega), Int.mul_le_mul hb2 (by omega) (by omega) (by omega)⟩
        refine aw_ldiv (by decide +kernel) (by omega) (by omega) (by omega) ?_
        refine aw_blk (pc' := 39) (ls' := [some (vi (n : Int)), some (vi (k : Int)), some (vl (Int.tdiv ((chW n k i) * (((n : Int) - (k : Int)) + ((i : Int) + 1))) ((i : Int) + 1))), none, some (vi (((i : Int) + 1) + 1))]) (st' := []) [.inl (.lstore_n 2), .inl (.iinc 4 1)] 35 _ _ (by decide +kernel) rfl ?_
        refine aw_goto (o := -23) (tgt := 16) (by decide +kernel) (by decide) ?_
        exact aw_eq rfl rfl rfl ih
    · refine aw_blk (pc' := 10) (ls' := [some (vi (n : Int)), some (vi c), none, none, none]) (st' := [vl 0]) [.inl (.lconst 0)] 9 _ _ (by decide +kernel) rfl ?_
      exact aw_lret (by decide +kernel) rfl (by decide) (by decide) (hq _ _ (by rw [chs, if_neg (by omega)]) rfl)

theorem m_B_isShare (ha : I32 a) (hc : I32 c) (hd : I32 d) : ADet G M_B_isShare [vi a, vi c, vi d] h (some (vi (if (1 ≤ c ∧ c ≤ d) ∧ (0 ≤ a ∧ a ≤ c) then 1 else 0))) h := by
  refine am_det (by decide +kernel) (Nat.le_of_ble_eq_true rfl) (fun Qr Qt hq => ?_)
  refine aw_blk (pc' := 3) (ls' := [some (vi a), some (vi c), some (vi d)]) (st' := [vi d, vi 1, vi c]) [.inl (.iload_n 1), .inl (.iconst 1), .inl (.iload_n 2)] 0 _ _ (by decide +kernel) rfl ?_
  refine aw_dS (cs' := 0) (sl' := 0) (pc' := 6) (st' := [vi (if 1 ≤ c ∧ c ≤ d then 1 else 0)]) (idx := 98) (as := [vi c, vi 1, vi d]) (st := []) (m_B_isWithin hc (by omega) hd) (by decide +kernel) (show sOK "ChanceBench" 98 M_B_isWithin 3 = true by decide +kernel) rfl (Nat.le_of_ble_eq_true rfl) (by decide) (by decide) (by decide) rfl rfl rfl rfl ?_
  refine aw_if_eq (o := 16) (tgt := 22) (by decide +kernel) (by decide) (by split <;> omega) (fun c6 => ?_) (fun c6 => ?_)
  · have c6 : ¬ (1 ≤ c ∧ c ≤ d) := fun z => by rw [if_pos z] at c6; cases c6
    refine aw_blk (pc' := 23) (ls' := [some (vi a), some (vi c), some (vi d)]) (st' := [vi 0]) [.inl (.iconst 0)] 22 _ _ (by decide +kernel) rfl ?_
    exact aw_zret (by decide +kernel) rfl (by decide) (by decide) (by omega) (hq _ _ (by rw [if_neg (fun z => c6 z.1)]) rfl)
  · have c6 : 1 ≤ c ∧ c ≤ d := by rcases Decidable.em (1 ≤ c ∧ c ≤ d) with z | z; exact z; rw [if_neg z] at c6; exact absurd rfl c6
    refine aw_blk (pc' := 12) (ls' := [some (vi a), some (vi c), some (vi d)]) (st' := [vi c, vi 0, vi a]) [.inl (.iload_n 0), .inl (.iconst 0), .inl (.iload_n 1)] 9 _ _ (by decide +kernel) rfl ?_
    refine aw_dS (cs' := 0) (sl' := 0) (pc' := 15) (st' := [vi (if 0 ≤ a ∧ a ≤ c then 1 else 0)]) (idx := 98) (as := [vi a, vi 0, vi c]) (st := []) (m_B_isWithin ha (by omega) hc) (by decide +kernel) (show sOK "ChanceBench" 98 M_B_isWithin 3 = true by decide +kernel) rfl (Nat.le_of_ble_eq_true rfl) (by decide) (by decide) (by decide) rfl rfl rfl rfl ?_
    refine aw_if_eq (o := 7) (tgt := 22) (by decide +kernel) (by decide) (by split <;> omega) (fun c15 => ?_) (fun c15 => ?_)
    · have c15 : ¬ (0 ≤ a ∧ a ≤ c) := fun z => by rw [if_pos z] at c15; cases c15
      refine aw_blk (pc' := 23) (ls' := [some (vi a), some (vi c), some (vi d)]) (st' := [vi 0]) [.inl (.iconst 0)] 22 _ _ (by decide +kernel) rfl ?_
      exact aw_zret (by decide +kernel) rfl (by decide) (by decide) (by omega) (hq _ _ (by rw [if_neg (fun z => c15 z.2)]) rfl)
    · have c15 : 0 ≤ a ∧ a ≤ c := by rcases Decidable.em (0 ≤ a ∧ a ≤ c) with z | z; exact z; rw [if_neg z] at c15; exact absurd rfl c15
      refine aw_blk (pc' := 19) (ls' := [some (vi a), some (vi c), some (vi d)]) (st' := [vi 1]) [.inl (.iconst 1)] 18 _ _ (by decide +kernel) rfl ?_
      refine aw_goto (o := 4) (tgt := 23) (by decide +kernel) (by decide) ?_
      exact aw_zret (by decide +kernel) rfl (by decide) (by decide) (by omega) (hq _ _ (by rw [if_pos ⟨c6, c15⟩]) rfl)

theorem m_B_product (hL : isL h k k1 k2 n at_ wt W) (hL2 : isL h j j1 j2 m at2 wt2 W2) : ADet G M_B_product [vr 9 k, vr 9 j] h (some (vl (W * W2))) h := by
  refine am_det (by decide +kernel) (Nat.le_of_ble_eq_true rfl) (fun Qr Qt hq => ?_)
  refine aw_ok (fun ok => ?_)
  have hW : I32 W := ok _ _ _ hL.1 (vi W) (by simp)
  have hW2 : I32 W2 := ok _ _ _ hL2.1 (vi W2) (by simp)
  refine aw_blk (pc' := 1) (ls' := [some (vr 9 k), some (vr 9 j)]) (st' := [vr 9 k]) [.inl (.aload_n 0)] 0 _ _ (by decide +kernel) rfl ?_
  refine aw_get (idx := 130) (ci := 9) (f := 2) (by decide +kernel) (by decide +kernel) hL.1 rfl ?_
  refine aw_i2l (by decide +kernel) (by omega) ?_
  refine aw_blk (pc' := 6) (ls' := [some (vr 9 k), some (vr 9 j)]) (st' := [vr 9 j, vl W]) [.inl (.aload_n 1)] 5 _ _ (by decide +kernel) rfl ?_
  refine aw_get (idx := 130) (ci := 9) (f := 2) (by decide +kernel) (by decide +kernel) hL2.1 rfl ?_
  refine aw_i2l (by decide +kernel) (by omega) ?_
  refine aw_blk (pc' := 11) (ls' := [some (vr 9 k), some (vr 9 j)]) (st' := [vl (W * W2)]) [.inl (.lmul)] 10 _ _ (by decide +kernel) rfl ?_
  exact aw_lret (by decide +kernel) rfl (by decide) (by decide) (hq _ _ rfl rfl)

def ixO (at_ : Nat → Int) (n : Nat) (v : Int) : Int := if lb at_ v n < n ∧ at_ (lb at_ v n) = v then ((lb at_ v n : Nat) : Int) else -1
theorem m_L_indexOf (hL : isL h k k1 k2 n at_ wt W) (hs : inc at_ n) (ha : I32 a) : ADet G M_L_indexOf [vr 9 k, vi a] h (some (vi (ixO at_ n a))) h := by
  refine am_det (by decide +kernel) (Nat.le_of_ble_eq_true rfl) (fun Qr Qt hq => ?_)
  refine aw_blk (pc' := 1) (ls' := [some (vr 9 k), some (vi a), none]) (st' := [vr 9 k]) [.inl (.aload_n 0)] 0 _ _ (by decide +kernel) rfl ?_
  refine aw_get (idx := 9) (ci := 9) (f := 0) (by decide +kernel) (by decide +kernel) hL.1 rfl ?_
  refine aw_blk (pc' := 5) (ls' := [some (vr 9 k), some (vi a), none]) (st' := [vr 9 k, vr 9 k1]) [.inl (.aload_n 0)] 4 _ _ (by decide +kernel) rfl ?_
  refine aw_get (idx := 9) (ci := 9) (f := 0) (by decide +kernel) (by decide +kernel) hL.1 rfl ?_
  refine aw_alen (by decide +kernel) hL.2.1 (fun r8 => ?_)
  refine aw_blk (pc' := 10) (ls' := [some (vr 9 k), some (vi a), none]) (st' := [vi a, vi (n : Int), vr 9 k1]) [.inl (.iload_n 1)] 9 _ _ (by decide +kernel) rfl ?_
  refine aw_dSN (cs' := 0) (sl' := 0) (pc' := 13) (st' := [vi ((lb at_ a n : Nat) : Int)]) (idx := 22) (as := [vr 9 k1, vi (n : Int), vi a]) (st := []) (m_B_placeIn hL.2.1 (Nat.le_refl n) (by omega) hs ha) (by decide +kernel) (show snOK "ChanceBench$Law" 22 M_B_placeIn 3 = true by decide +kernel) rfl (Nat.le_of_ble_eq_true rfl) (by decide) (by decide) (by decide) rfl rfl rfl rfl ?_
  have hb := lb_le at_ a n
  refine aw_blk (pc' := 16) (ls' := [some (vr 9 k), some (vi a), some (vi ((lb at_ a n : Nat) : Int))]) (st' := [vr 9 k, vi ((lb at_ a n : Nat) : Int)]) [.inl (.istore_n 2), .inl (.iload_n 2), .inl (.aload_n 0)] 13 _ _ (by decide +kernel) rfl ?_
  refine aw_get (idx := 9) (ci := 9) (f := 0) (by decide +kernel) (by decide +kernel) hL.1 rfl ?_
  refine aw_alen (by decide +kernel) hL.2.1 (fun r19 => ?_)
  refine aw_icmp_ge (o := 17) (tgt := 37) (by decide +kernel) (by decide) (by omega) (by omega) (fun c20 => ?_) (fun c20 => ?_)
  · refine aw_blk (pc' := 38) (ls' := [some (vr 9 k), some (vi a), some (vi ((lb at_ a n : Nat) : Int))]) (st' := [vi (-1)]) [.inl (.iconst (-1))] 37 _ _ (by decide +kernel) rfl ?_
    exact aw_iret (by decide +kernel) rfl (by decide) (by decide) (hq _ _ (by rw [ixO, if_neg (by omega)]) rfl)
  · refine aw_blk (pc' := 24) (ls' := [some (vr 9 k), some (vi a), some (vi ((lb at_ a n : Nat) : Int))]) (st' := [vr 9 k]) [.inl (.aload_n 0)] 23 _ _ (by decide +kernel) rfl ?_
    refine aw_get (idx := 9) (ci := 9) (f := 0) (by decide +kernel) (by decide +kernel) hL.1 rfl ?_
    refine aw_blk (pc' := 28) (ls' := [some (vr 9 k), some (vi a), some (vi ((lb at_ a n : Nat) : Int))]) (st' := [vi ((lb at_ a n : Nat) : Int), vr 9 k1]) [.inl (.iload_n 2)] 27 _ _ (by decide +kernel) rfl ?_
    refine aw_iald (j := lb at_ a n) (by decide +kernel) hL.2.1 rfl (by omega) (fun r28 => ?_)
    refine aw_blk (pc' := 30) (ls' := [some (vr 9 k), some (vi a), some (vi ((lb at_ a n : Nat) : Int))]) (st' := [vi a, vi (at_ (lb at_ a n))]) [.inl (.iload_n 1)] 29 _ _ (by decide +kernel) rfl ?_
    refine aw_icmp_ne (o := 7) (tgt := 37) (by decide +kernel) (by decide) (by omega) (by omega) (fun c30 => ?_) (fun c30 => ?_)
    · refine aw_blk (pc' := 38) (ls' := [some (vr 9 k), some (vi a), some (vi ((lb at_ a n : Nat) : Int))]) (st' := [vi (-1)]) [.inl (.iconst (-1))] 37 _ _ (by decide +kernel) rfl ?_
      exact aw_iret (by decide +kernel) rfl (by decide) (by decide) (hq _ _ (by rw [ixO, if_neg (by omega)]) rfl)
    · refine aw_blk (pc' := 34) (ls' := [some (vr 9 k), some (vi a), some (vi ((lb at_ a n : Nat) : Int))]) (st' := [vi ((lb at_ a n : Nat) : Int)]) [.inl (.iload_n 2)] 33 _ _ (by decide +kernel) rfl ?_
      refine aw_goto (o := 4) (tgt := 38) (by decide +kernel) (by decide) ?_
      exact aw_iret (by decide +kernel) rfl (by decide) (by decide) (hq _ _ (by rw [ixO, if_pos (by omega)]) rfl)

theorem gc_in (ha : J64 a) (hc : J64 c) : 1 ≤ gc a c ∧ gc a c ≤ 9223372036854775807 := by
  unfold gc
  split
  · rename_i hz
    refine ⟨by omega, ?_⟩
    rcases Nat.eq_zero_or_pos a.natAbs with z | z
    · rw [z, Nat.gcd_zero_left]; omega
    · have := Nat.gcd_le_left c.natAbs z; omega
  · omega
theorem m_B_part (ha : J64 a) (hc : J64 c) (hd : d = 0 ∨ d = 1) : ADet G M_B_part [vl a, vl c, vi d] h (some (vl (if d = 0 then Int.tdiv a (gc a c) else Int.tdiv c (gc a c)))) h := by
  refine am_det (by decide +kernel) (Nat.le_of_ble_eq_true rfl) (fun Qr Qt hq => ?_)
  refine aw_blk (pc' := 2) (ls' := [some (vl a), none, some (vl c), none, some (vi d), none, none]) (st' := [vi d]) [.inl (.iload 4)] 0 _ _ (by decide +kernel) rfl ?_
  refine aw_if_eq (o := 17) (tgt := 19) (by decide +kernel) (by decide) (by omega) (fun c2 => ?_) (fun c2 => ?_)
  · refine aw_blk (pc' := 21) (ls' := [some (vl a), none, some (vl c), none, some (vi d), none, none]) (st' := [vl c, vl a]) [.inl (.lload_n 0), .inl (.lload_n 2)] 19 _ _ (by decide +kernel) rfl ?_
    refine aw_dS (cs' := 0) (sl' := 0) (pc' := 24) (st' := [vl (gc a c)]) (idx := 295) (as := [vl a, vl c]) (st := []) (m_B_commonDivisor ha hc) (by decide +kernel) (show sOK "ChanceBench" 295 M_B_commonDivisor 2 = true by decide +kernel) rfl (Nat.le_of_ble_eq_true rfl) (by decide) (by decide) (by decide) rfl rfl rfl rfl ?_
    have hg := gc_in ha hc
    refine aw_blk (pc' := 28) (ls' := [some (vl a), none, some (vl c), none, some (vi d), some (vl (gc a c)), none]) (st' := [vi d]) [.inl (.lstore 5), .inl (.iload 4)] 24 _ _ (by decide +kernel) rfl ?_
    refine aw_if_ne (o := 7) (tgt := 35) (by decide +kernel) (by decide) (by omega) (fun c => absurd (by omega) c) (fun _ => ?_)
    refine aw_blk (pc' := 32) (ls' := [some (vl a), none, some (vl c), none, some (vi d), some (vl (gc a c)), none]) (st' := [vl a]) [.inl (.lload_n 0)] 31 _ _ (by decide +kernel) rfl ?_
    refine aw_goto (o := 4) (tgt := 36) (by decide +kernel) (by decide) ?_
    refine aw_blk (pc' := 38) (ls' := [some (vl a), none, some (vl c), none, some (vi d), some (vl (gc a c)), none]) (st' := [vl (gc a c), vl a]) [.inl (.lload 5)] 36 _ _ (by decide +kernel) rfl ?_
    refine aw_ldiv (by decide +kernel) (by omega) (by omega) (by omega) ?_
    exact aw_lret (by decide +kernel) rfl (by decide) (by decide) (hq _ _ (by rw [if_pos c2]) rfl)
  · refine aw_blk (pc' := 8) (ls' := [some (vl a), none, some (vl c), none, some (vi d), none, none]) (st' := [vi 1, vi d]) [.inl (.iload 4), .inl (.iconst 1)] 5 _ _ (by decide +kernel) rfl ?_
    refine aw_icmp_eq (o := 11) (tgt := 19) (by decide +kernel) (by decide) (by omega) (by omega) (fun _ => ?_) (fun c => absurd (by omega) c)
    refine aw_blk (pc' := 21) (ls' := [some (vl a), none, some (vl c), none, some (vi d), none, none]) (st' := [vl c, vl a]) [.inl (.lload_n 0), .inl (.lload_n 2)] 19 _ _ (by decide +kernel) rfl ?_
    refine aw_dS (cs' := 0) (sl' := 0) (pc' := 24) (st' := [vl (gc a c)]) (idx := 295) (as := [vl a, vl c]) (st := []) (m_B_commonDivisor ha hc) (by decide +kernel) (show sOK "ChanceBench" 295 M_B_commonDivisor 2 = true by decide +kernel) rfl (Nat.le_of_ble_eq_true rfl) (by decide) (by decide) (by decide) rfl rfl rfl rfl ?_
    have hg := gc_in ha hc
    refine aw_blk (pc' := 28) (ls' := [some (vl a), none, some (vl c), none, some (vi d), some (vl (gc a c)), none]) (st' := [vi d]) [.inl (.lstore 5), .inl (.iload 4)] 24 _ _ (by decide +kernel) rfl ?_
    refine aw_if_ne (o := 7) (tgt := 35) (by decide +kernel) (by decide) (by omega) (fun _ => ?_) (fun c => absurd c (by omega))
    refine aw_blk (pc' := 38) (ls' := [some (vl a), none, some (vl c), none, some (vi d), some (vl (gc a c)), none]) (st' := [vl (gc a c), vl c]) [.inl (.lload_n 2), .inl (.lload 5)] 35 _ _ (by decide +kernel) rfl ?_
    refine aw_ldiv (by decide +kernel) (by omega) (by omega) (by omega) ?_
    exact aw_lret (by decide +kernel) rfl (by decide) (by decide) (hq _ _ (by rw [if_neg c2]) rfl)

theorem m_B_part_t (hi : I32 d) (hd : d ≠ 0) (hd1 : d ≠ 1) : AThr G M_B_part [vl a, vl c, vi d] h := by
  refine am_thr (by decide +kernel) (Nat.le_of_ble_eq_true rfl) (fun Qr Qt hq => ?_)
  refine aw_blk (pc' := 2) (ls' := [some (vl a), none, some (vl c), none, some (vi d), none, none]) (st' := [vi d]) [.inl (.iload 4)] 0 _ _ (by decide +kernel) rfl ?_
  refine aw_if_eq (o := 17) (tgt := 19) (by decide +kernel) (by decide) (by omega) (fun c => absurd c (by omega)) (fun _ => ?_)
  refine aw_blk (pc' := 8) (ls' := [some (vl a), none, some (vl c), none, some (vi d), none, none]) (st' := [vi 1, vi d]) [.inl (.iload 4), .inl (.iconst 1)] 5 _ _ (by decide +kernel) rfl ?_
  refine aw_icmp_eq (o := 11) (tgt := 19) (by decide +kernel) (by decide) (by omega) (by omega) (fun c => absurd c (by omega)) (fun _ => ?_)
  exact aw_throw (ik := 146) (ic := 148) tOK_B (by decide +kernel) (by decide +kernel) (by decide +kernel) (by decide +kernel) (Nat.le_of_ble_eq_true rfl) (by decide) (by decide) (by decide) hq

end
