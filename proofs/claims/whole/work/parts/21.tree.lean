abbrev sgR (n W lv op : Int) (r d : Nat → Int) : SG := [some (ob 6 [vr 6 1, vr 6 2, vi n, vi W, vi lv, vi op]), some (ar 0 24 r), some (ar 0 24 d)]
def dg (W x : Int) : Int := if x < W then 0 else 1
def rsd (W x : Int) : Int := x - dg W x * W
def mp (f g : Nat → Int) (i : Nat) : Nat → Int := fun k => if k < i then f k else g k
theorem mp_0 (f g : Nat → Int) : mp f g 0 = g := by funext k; simp [mp]
theorem mp_s (f g : Nat → Int) (i : Nat) : va_up (mp f g i) i (f i) = mp f g (i + 1) := by
  funext j
  simp only [va_up, mp]
  by_cases h1 : j = i
  · subst h1; rw [if_pos rfl, if_pos (by omega)]
  · rw [if_neg h1]
    by_cases h2 : j < i
    · rw [if_pos h2, if_pos (by omega)]
    · rw [if_neg h2, if_neg (by omega)]
theorem mp_ge {f g : Nat → Int} {i k : Nat} (h : i ≤ k) : mp f g i k = g k := by simp only [mp]; rw [if_neg (by omega)]
theorem mp_lt {f g : Nat → Int} {i k : Nat} (h : k < i) : mp f g i k = f k := by simp only [mp]; rw [if_pos h]
theorem va_eq {α : Type} {f : Nat → α} {k : Nat} {v : α} : va_up f k v k = v := by simp [va_up]
abbrev spR (W c : Int) (r : Nat → Int) : Nat → Nat → Int := mp (fun k => rsd W (c * r k)) r
abbrev spD (W c : Int) (r d : Nat → Int) : Nat → Nat → Int := mp (fun k => dg W (c * r k)) d
abbrev spL (W c : Int) (r : Nat → Int) : Nat → Int := sumZ (fun k => dg W (c * r k))
def iol (d : Nat → Int) (u : Int) : Nat → Nat → Int → Int
  | 0, _, _ => -1
  | e + 1, k, l => if d k = 1 then (if l = u then (k : Int) else iol d u e (k + 1) (l + 1)) else iol d u e (k + 1) l
theorem dg_in (W x : Int) : 0 ≤ dg W x ∧ dg W x ≤ 1 := by unfold dg; split <;> omega
theorem spL_in (W c : Int) (r : Nat → Int) : ∀ n : Nat, 0 ≤ spL W c r n ∧ spL W c r n ≤ n
  | 0 => by simp [spL, sumZ]
  | n + 1 => by have := spL_in W c r n; have := dg_in W (c * r n); simp only [spL, sumZ] at *; omega
section
variable {G : GT} {h : HT} {b s t mk df jo tr di mo dy : SG} {a c d e l0 W0 lv op W : Int} {n k k1 k2 q m : Nat} {r dd at_ wt : Nat → Int}
theorem m_R_leaves : ADet G M_R_leaves [vr 6 0] (Hp b s t mk df jo (sgR (n : Int) W lv op r dd) di mo dy) (some (vi lv)) (Hp b s t mk df jo (sgR (n : Int) W lv op r dd) di mo dy) := by
  refine am_det (by decide +kernel) (Nat.le_of_ble_eq_true rfl) (fun Qr Qt hq => ?_)
  refine aw_blk (pc' := 4) (ls' := [some (vr 6 0)]) (st' := [vi lv]) [.inl (.aload_n 0), .inr (25, 6, 4)] 0 _ _ (by decide +kernel) rfl ?_
  exact aw_iret (by decide +kernel) rfl (by decide) (by decide) (hq _ _ rfl rfl)

theorem m_R_openPlaces : ADet G M_R_openPlaces [vr 6 0] (Hp b s t mk df jo (sgR (n : Int) W lv op r dd) di mo dy) (some (vi op)) (Hp b s t mk df jo (sgR (n : Int) W lv op r dd) di mo dy) := by
  refine am_det (by decide +kernel) (Nat.le_of_ble_eq_true rfl) (fun Qr Qt hq => ?_)
  refine aw_blk (pc' := 4) (ls' := [some (vr 6 0)]) (st' := [vi op]) [.inl (.aload_n 0), .inr (28, 6, 5)] 0 _ _ (by decide +kernel) rfl ?_
  exact aw_iret (by decide +kernel) rfl (by decide) (by decide) (hq _ _ rfl rfl)

theorem lsM5 {a0 a1 a2 a3 : AV} {x4 : Option AV} : ∀ (k : Nat) (v : AV), ([some a0, some a1, some a2, some a3, none] : LSt)[k]? = some (some v) → ([some a0, some a1, some a2, some a3, x4] : LSt)[k]? = some (some v) := by
  intro k v h
  match k, h with
  | 0, h => exact h
  | 1, h => exact h
  | 2, h => exact h
  | 3, h => exact h
  | k + 4, h => cases k <;> simp at h
theorem m_R_splitOff (hn : n ≤ 24) (hW : 1 ≤ W ∧ W ≤ 1048576) (hr : ∀ k, k < n → 0 ≤ r k ∧ r k ≤ 1048576) (hc : c = 1 ∨ c = 2) (ha : -1000000000 ≤ a ∧ a ≤ 1000000000) : ADet G M_R_splitOff [vr 6 0, vi a, vi c] (Hp b s t mk df jo (sgR (n : Int) W lv op r dd) di mo dy) none (Hp b s t mk df jo (sgR (n : Int) W (spL W c r n) (a - spL W c r n) (spR W c r n) (spD W c r dd n)) di mo dy) := by
  refine am_det (by decide +kernel) (Nat.le_of_ble_eq_true rfl) (fun Qr Qt hq => ?_)
  refine aw_blk (pc' := 2) (ls' := [some (vr 6 0), some (vi a), some (vi c), none, none]) (st' := [vi 0, vr 6 0]) [.inl (.aload_n 0), .inl (.iconst 0)] 0 _ _ (by decide +kernel) rfl ?_
  refine aw_put (idx := 25) (ci := 6) (k := 4) (h' := Hp b s t mk df jo [some (ob 6 [vr 6 1, vr 6 2, vi (n : Int), vi W, vi 0, vi op]), some (ar 0 24 r), some (ar 0 24 dd)] di mo dy) (by decide +kernel) (by decide +kernel) rfl (Nat.le_of_ble_eq_true rfl) (show I32 _ from by omega) rfl ?_
  refine aw_blk (pc' := 7) (ls' := [some (vr 6 0), some (vi a), some (vi c), some (vi 0), none]) (st' := []) [.inl (.iconst 0), .inl (.istore_n 3)] 5 _ _ (by decide +kernel) rfl ?_
  rw [show Hp b s t mk df jo [some (ob 6 [vr 6 1, vr 6 2, vi (n : Int), vi W, vi 0, vi op]), some (ar 0 24 r), some (ar 0 24 dd)] di mo dy = Hp b s t mk df jo (sgR (n : Int) W (spL W c r 0) op (spR W c r 0) (spD W c r dd 0)) di mo dy by simp only [spR, spD, spL, sumZ, mp_0]]
  have key : ∀ e i : Nat, i + e = n → ∀ x4 : Option AV, AW G M_R_splitOff Qr Qt 0 0 7 [some (vr 6 0), some (vi a), some (vi c), some (vi (i : Int)), x4] [] (Hp b s t mk df jo [some (ob 6 [vr 6 1, vr 6 2, vi (n : Int), vi W, vi (spL W c r i), vi op]), some (ar 0 24 (spR W c r i)), some (ar 0 24 (spD W c r dd i))] di mo dy) := by
    intro e
    induction e with
    | zero =>
      intro i hi x4
      have hi0 : i = n := by omega
      subst hi0
      have hsl := spL_in W c r i
      refine aw_ls (ls' := [some (vr 6 0), some (vi a), some (vi c), some (vi (i : Int)), none]) lsM5 ?_
      refine aw_blk (pc' := 12) (ls' := [some (vr 6 0), some (vi a), some (vi c), some (vi (i : Int)), none]) (st' := [vi (i : Int), vi (i : Int)]) [.inl (.iload_n 3), .inl (.aload_n 0), .inr (18, 6, 2)] 7 _ _ (by decide +kernel) rfl ?_
      refine aw_icmp_ge (o := 74) (tgt := 86) (by decide +kernel) (by decide) (by omega) (by omega) (fun _ => ?_) (fun c => absurd (by omega) c)
      refine aw_blk (pc' := 93) (ls' := [some (vr 6 0), some (vi a), some (vi c), some (vi (i : Int)), none]) (st' := [vi (a - (spL W c r i)), vr 6 0]) [.inl (.aload_n 0), .inl (.iload_n 1), .inl (.aload_n 0), .inr (25, 6, 4), .inl (.isub)] 86 _ _ (by decide +kernel) rfl ?_
      refine aw_put (idx := 28) (ci := 6) (k := 5) (h' := Hp b s t mk df jo [some (ob 6 [vr 6 1, vr 6 2, vi (i : Int), vi W, vi (spL W c r i), vi (a - (spL W c r i))]), some (ar 0 24 (spR W c r i)), some (ar 0 24 (spD W c r dd i))] di mo dy) (by decide +kernel) (by decide +kernel) rfl (Nat.le_of_ble_eq_true rfl) (show I32 _ from by omega) rfl ?_
      exact aw_vret (by decide +kernel) rfl (by decide) (by decide) (hq _ _ rfl rfl)
    | succ e ih =>
      intro i hi x4
      refine aw_ls (ls' := [some (vr 6 0), some (vi a), some (vi c), some (vi (i : Int)), none]) lsM5 ?_
      have hr1 := hr i (by omega)
      have hsl := spL_in W c r i
      have hcr : 0 ≤ c * r i ∧ c * r i ≤ 2097152 := by rcases hc with rfl | rfl <;> omega
      refine aw_blk (pc' := 12) (ls' := [some (vr 6 0), some (vi a), some (vi c), some (vi (i : Int)), none]) (st' := [vi (n : Int), vi (i : Int)]) [.inl (.iload_n 3), .inl (.aload_n 0), .inr (18, 6, 2)] 7 _ _ (by decide +kernel) rfl ?_
      refine aw_icmp_ge (o := 74) (tgt := 86) (by decide +kernel) (by decide) (by omega) (by omega) (fun c => absurd c (by omega)) (fun _ => ?_)
      refine aw_blk (pc' := 21) (ls' := [some (vr 6 0), some (vi a), some (vi c), some (vi (i : Int)), none]) (st' := [vi (i : Int), vr 6 1, vi c]) [.inl (.iload_n 2), .inl (.aload_n 0), .inr (9, 6, 0), .inl (.iload_n 3)] 15 _ _ (by decide +kernel) rfl ?_
      refine aw_iald (j := i) (by decide +kernel) rfl (by omega) (by omega) (fun r21 => ?_)
      rw [show spR W c r i i = r i from mp_ge (Nat.le_refl i)]
      refine aw_blk (pc' := 36) (ls' := [some (vr 6 0), some (vi a), some (vi c), some (vi (i : Int)), some (vi (c * (r i)))]) (st' := [vi W, vi (c * (r i)), vi (i : Int), vr 6 2]) [.inl (.imul), .inl (.istore 4), .inl (.aload_n 0), .inr (15, 6, 1), .inl (.iload_n 3), .inl (.iload 4), .inl (.aload_n 0), .inr (22, 6, 3)] 22 _ _ (by decide +kernel) rfl ?_
      refine aw_icmp_lt (o := 7) (tgt := 43) (by decide +kernel) (by decide) (by omega) (by omega) (fun c36 => ?_) (fun c36 => ?_)
      · refine aw_blk (pc' := 44) (ls' := [some (vr 6 0), some (vi a), some (vi c), some (vi (i : Int)), some (vi (c * (r i)))]) (st' := [vi 0, vi (i : Int), vr 6 2]) [.inl (.iconst 0)] 43 _ _ (by decide +kernel) rfl ?_
        refine aw_iast (j := i) (h' := Hp b s t mk df jo [some (ob 6 [vr 6 1, vr 6 2, vi (n : Int), vi W, vi (spL W c r i), vi op]), some (ar 0 24 (spR W c r i)), some (ar 0 24 (va_up (spD W c r dd i) i 0))] di mo dy) (by decide +kernel) rfl (by omega) (by omega) (by omega) rfl ?_
        refine aw_blk (pc' := 57) (ls' := [some (vr 6 0), some (vi a), some (vi c), some (vi (i : Int)), some (vi (c * (r i)))]) (st' := [vi (i : Int), vr 6 2, vi (c * (r i)), vi (i : Int), vr 6 1]) [.inl (.aload_n 0), .inr (9, 6, 0), .inl (.iload_n 3), .inl (.iload 4), .inl (.aload_n 0), .inr (15, 6, 1), .inl (.iload_n 3)] 45 _ _ (by decide +kernel) rfl ?_
        refine aw_iald (j := i) (by decide +kernel) rfl (by omega) (by omega) (fun r57 => ?_)
        rw [va_eq]
        refine aw_blk (pc' := 64) (ls' := [some (vr 6 0), some (vi a), some (vi c), some (vi (i : Int)), some (vi (c * (r i)))]) (st' := [vi ((c * (r i)) - (0 * W)), vi (i : Int), vr 6 1]) [.inl (.aload_n 0), .inr (22, 6, 3), .inl (.imul), .inl (.isub)] 58 _ _ (by decide +kernel) rfl ?_
        refine aw_iast (j := i) (h' := Hp b s t mk df jo [some (ob 6 [vr 6 1, vr 6 2, vi (n : Int), vi W, vi (spL W c r i), vi op]), some (ar 0 24 (va_up (spR W c r i) i ((c * (r i)) - (0 * W)))), some (ar 0 24 (va_up (spD W c r dd i) i 0))] di mo dy) (by decide +kernel) rfl (by omega) (by omega) (by omega) rfl ?_
        refine aw_blk (pc' := 75) (ls' := [some (vr 6 0), some (vi a), some (vi c), some (vi (i : Int)), some (vi (c * (r i)))]) (st' := [vi (i : Int), vr 6 2, vi (spL W c r i), vr 6 0]) [.inl (.aload_n 0), .inl (.dup), .inr (25, 6, 4), .inl (.aload_n 0), .inr (15, 6, 1), .inl (.iload_n 3)] 65 _ _ (by decide +kernel) rfl ?_
        refine aw_iald (j := i) (by decide +kernel) rfl (by omega) (by omega) (fun r75 => ?_)
        rw [va_eq]
        refine aw_blk (pc' := 77) (ls' := [some (vr 6 0), some (vi a), some (vi c), some (vi (i : Int)), some (vi (c * (r i)))]) (st' := [vi ((spL W c r i) + 0), vr 6 0]) [.inl (.iadd)] 76 _ _ (by decide +kernel) rfl ?_
        refine aw_put (idx := 25) (ci := 6) (k := 4) (h' := Hp b s t mk df jo [some (ob 6 [vr 6 1, vr 6 2, vi (n : Int), vi W, vi ((spL W c r i) + 0), vi op]), some (ar 0 24 (va_up (spR W c r i) i ((c * (r i)) - (0 * W)))), some (ar 0 24 (va_up (spD W c r dd i) i 0))] di mo dy) (by decide +kernel) (by decide +kernel) rfl (Nat.le_of_ble_eq_true rfl) (show I32 _ from by omega) rfl ?_
        refine aw_blk (pc' := 83) (ls' := [some (vr 6 0), some (vi a), some (vi c), some (vi ((i : Int) + 1)), some (vi (c * (r i)))]) (st' := []) [.inl (.iinc 3 1)] 80 _ _ (by decide +kernel) rfl ?_
        refine aw_goto (o := -76) (tgt := 7) (by decide +kernel) (by decide) ?_
        exact aw_eq rfl rfl (by rw [show spD W c r dd (i + 1) = va_up (spD W c r dd i) i 0 from by simp only [spD]; rw [← mp_s]; simp only [dg, if_pos c36], show spR W c r (i + 1) = va_up (spR W c r i) i (c * r i - 0 * W) from by simp only [spR]; rw [← mp_s]; simp only [rsd, dg, if_pos c36], show spL W c r (i + 1) = spL W c r i + 0 from by simp only [spL, sumZ, dg, if_pos c36]]) (ih (i + 1) (by omega) _)
      · refine aw_blk (pc' := 40) (ls' := [some (vr 6 0), some (vi a), some (vi c), some (vi (i : Int)), some (vi (c * (r i)))]) (st' := [vi 1, vi (i : Int), vr 6 2]) [.inl (.iconst 1)] 39 _ _ (by decide +kernel) rfl ?_
        refine aw_goto (o := 4) (tgt := 44) (by decide +kernel) (by decide) ?_
        refine aw_iast (j := i) (h' := Hp b s t mk df jo [some (ob 6 [vr 6 1, vr 6 2, vi (n : Int), vi W, vi (spL W c r i), vi op]), some (ar 0 24 (spR W c r i)), some (ar 0 24 (va_up (spD W c r dd i) i 1))] di mo dy) (by decide +kernel) rfl (by omega) (by omega) (by omega) rfl ?_
        refine aw_blk (pc' := 57) (ls' := [some (vr 6 0), some (vi a), some (vi c), some (vi (i : Int)), some (vi (c * (r i)))]) (st' := [vi (i : Int), vr 6 2, vi (c * (r i)), vi (i : Int), vr 6 1]) [.inl (.aload_n 0), .inr (9, 6, 0), .inl (.iload_n 3), .inl (.iload 4), .inl (.aload_n 0), .inr (15, 6, 1), .inl (.iload_n 3)] 45 _ _ (by decide +kernel) rfl ?_
        refine aw_iald (j := i) (by decide +kernel) rfl (by omega) (by omega) (fun r57 => ?_)
        rw [va_eq]
        refine aw_blk (pc' := 64) (ls' := [some (vr 6 0), some (vi a), some (vi c), some (vi (i : Int)), some (vi (c * (r i)))]) (st' := [vi ((c * (r i)) - (1 * W)), vi (i : Int), vr 6 1]) [.inl (.aload_n 0), .inr (22, 6, 3), .inl (.imul), .inl (.isub)] 58 _ _ (by decide +kernel) rfl ?_
        refine aw_iast (j := i) (h' := Hp b s t mk df jo [some (ob 6 [vr 6 1, vr 6 2, vi (n : Int), vi W, vi (spL W c r i), vi op]), some (ar 0 24 (va_up (spR W c r i) i ((c * (r i)) - (1 * W)))), some (ar 0 24 (va_up (spD W c r dd i) i 1))] di mo dy) (by decide +kernel) rfl (by omega) (by omega) (by omega) rfl ?_
        refine aw_blk (pc' := 75) (ls' := [some (vr 6 0), some (vi a), some (vi c), some (vi (i : Int)), some (vi (c * (r i)))]) (st' := [vi (i : Int), vr 6 2, vi (spL W c r i), vr 6 0]) [.inl (.aload_n 0), .inl (.dup), .inr (25, 6, 4), .inl (.aload_n 0), .inr (15, 6, 1), .inl (.iload_n 3)] 65 _ _ (by decide +kernel) rfl ?_
        refine aw_iald (j := i) (by decide +kernel) rfl (by omega) (by omega) (fun r75 => ?_)
        rw [va_eq]
        refine aw_blk (pc' := 77) (ls' := [some (vr 6 0), some (vi a), some (vi c), some (vi (i : Int)), some (vi (c * (r i)))]) (st' := [vi ((spL W c r i) + 1), vr 6 0]) [.inl (.iadd)] 76 _ _ (by decide +kernel) rfl ?_
        refine aw_put (idx := 25) (ci := 6) (k := 4) (h' := Hp b s t mk df jo [some (ob 6 [vr 6 1, vr 6 2, vi (n : Int), vi W, vi ((spL W c r i) + 1), vi op]), some (ar 0 24 (va_up (spR W c r i) i ((c * (r i)) - (1 * W)))), some (ar 0 24 (va_up (spD W c r dd i) i 1))] di mo dy) (by decide +kernel) (by decide +kernel) rfl (Nat.le_of_ble_eq_true rfl) (show I32 _ from by omega) rfl ?_
        refine aw_blk (pc' := 83) (ls' := [some (vr 6 0), some (vi a), some (vi c), some (vi ((i : Int) + 1)), some (vi (c * (r i)))]) (st' := []) [.inl (.iinc 3 1)] 80 _ _ (by decide +kernel) rfl ?_
        refine aw_goto (o := -76) (tgt := 7) (by decide +kernel) (by decide) ?_
        exact aw_eq rfl rfl (by rw [show spD W c r dd (i + 1) = va_up (spD W c r dd i) i 1 from by simp only [spD]; rw [← mp_s]; simp only [dg, if_neg c36], show spR W c r (i + 1) = va_up (spR W c r i) i (c * r i - 1 * W) from by simp only [spR]; rw [← mp_s]; simp only [rsd, dg, if_neg c36], show spL W c r (i + 1) = spL W c r i + 1 from by simp only [spL, sumZ, dg, if_neg c36]]) (ih (i + 1) (by omega) _)
  exact key n 0 (by omega) none

theorem m_R_grow (hn : n ≤ 24) (hW : 1 ≤ W ∧ W ≤ 1048576) (hr : ∀ k, k < n → 0 ≤ r k ∧ r k ≤ 1048576) (ho : -100000000 ≤ op ∧ op ≤ 100000000) : ADet G M_R_grow [vr 6 0] (Hp b s t mk df jo (sgR (n : Int) W lv op r dd) di mo dy) none (Hp b s t mk df jo (sgR (n : Int) W (spL W 2 r n) (2 * op - spL W 2 r n) (spR W 2 r n) (spD W 2 r dd n)) di mo dy) := by
  refine am_det (by decide +kernel) (Nat.le_of_ble_eq_true rfl) (fun Qr Qt hq => ?_)
  refine aw_blk (pc' := 8) (ls' := [some (vr 6 0)]) (st' := [vi 2, vi (2 * op), vr 6 0]) [.inl (.aload_n 0), .inl (.iconst 2), .inl (.aload_n 0), .inr (28, 6, 5), .inl (.imul), .inl (.iconst 2)] 0 _ _ (by decide +kernel) rfl ?_
  refine aw_dV (cs' := 0) (sl' := 0) (pc' := 11) (st' := []) (idx := 46) (as := [vi (2 * op), vi 2]) (st := []) (m_R_splitOff hn hW hr (Or.inr rfl) (by omega)) (by decide +kernel) (show vOK "ChanceBench$Tree" 46 M_R_splitOff 2 = true by decide +kernel) rfl rfl rfl (Nat.le_of_ble_eq_true rfl) (by decide) (by decide) (by decide) rfl rfl rfl rfl ?_
  exact aw_vret (by decide +kernel) rfl (by decide) (by decide) (hq _ _ rfl rfl)

theorem m_R_plant (hA : isD dy k k1 k2 n at_ wt W) (A : lwN n at_ wt W) : ADet G M_R_plant [vr 6 0, vr 9 k] (Hp b s t mk df jo (sgR l0 W0 lv op r dd) di mo dy) none (Hp b s t mk df jo (sgR (n : Int) W (spL W 1 (mp wt r n) n) (1 - spL W 1 (mp wt r n) n) (spR W 1 (mp wt r n) n) (spD W 1 (mp wt r n) dd n)) di mo dy) := by
  refine am_det (by decide +kernel) (Nat.le_of_ble_eq_true rfl) (fun Qr Qt hq => ?_)
  have hn := A.1
  have hW := A.2.2.2.1
  have hW2 := A.2.2.2.2.1
  refine aw_blk (pc' := 2) (ls' := [some (vr 6 0), some (vr 9 k), none]) (st' := [vr 9 k, vr 6 0]) [.inl (.aload_n 0), .inl (.aload_n 1)] 0 _ _ (by decide +kernel) rfl ?_
  refine aw_get (idx := 31) (ci := 9) (f := 0) (by decide +kernel) (by decide +kernel) hA.1 rfl ?_
  refine aw_alen (by decide +kernel) hA.2.1 (fun r5 => ?_)
  refine aw_blk (pc' := 8) (ls' := [some (vr 6 0), some (vr 9 k), none]) (st' := [vi 24, vi (n : Int), vr 6 0]) [.inl (.bipush 24)] 6 _ _ (by decide +kernel) rfl ?_
  refine aw_mmin (idx := 36) (by decide +kernel) (by decide +kernel) (Nat.le_of_ble_eq_true rfl) (by decide) (by decide) (by decide) (by omega) (by omega) ?_
  rw [if_neg (show ¬ (24 : Int) < (n : Int) by omega)]
  refine aw_put (idx := 18) (ci := 6) (k := 2) (h' := Hp b s t mk df jo [some (ob 6 [vr 6 1, vr 6 2, vi (n : Int), vi W0, vi lv, vi op]), some (ar 0 24 r), some (ar 0 24 dd)] di mo dy) (by decide +kernel) (by decide +kernel) rfl (Nat.le_of_ble_eq_true rfl) (show I32 _ from by omega) rfl ?_
  refine aw_blk (pc' := 16) (ls' := [some (vr 6 0), some (vr 9 k), none]) (st' := [vr 9 k, vr 6 0]) [.inl (.aload_n 0), .inl (.aload_n 1)] 14 _ _ (by decide +kernel) rfl ?_
  refine aw_get (idx := 42) (ci := 9) (f := 2) (by decide +kernel) (by decide +kernel) hA.1 rfl ?_
  refine aw_put (idx := 22) (ci := 6) (k := 3) (h' := Hp b s t mk df jo [some (ob 6 [vr 6 1, vr 6 2, vi (n : Int), vi W, vi lv, vi op]), some (ar 0 24 r), some (ar 0 24 dd)] di mo dy) (by decide +kernel) (by decide +kernel) rfl (Nat.le_of_ble_eq_true rfl) (show I32 _ from by omega) rfl ?_
  refine aw_blk (pc' := 24) (ls' := [some (vr 6 0), some (vr 9 k), some (vi 0)]) (st' := []) [.inl (.iconst 0), .inl (.istore_n 2)] 22 _ _ (by decide +kernel) rfl ?_
  rw [show Hp b s t mk df jo [some (ob 6 [vr 6 1, vr 6 2, vi (n : Int), vi W, vi lv, vi op]), some (ar 0 24 r), some (ar 0 24 dd)] di mo dy = Hp b s t mk df jo (sgR (n : Int) W lv op (mp wt r 0) dd) di mo dy by rw [mp_0]]
  refine up_to (W := fun i : Nat => AW G M_R_plant Qr Qt 0 0 24 [some (vr 6 0), some (vr 9 k), some (vi (i : Int))] [] (Hp b s t mk df jo [some (ob 6 [vr 6 1, vr 6 2, vi (n : Int), vi W, vi lv, vi op]), some (ar 0 24 (mp wt r i)), some (ar 0 24 dd)] di mo dy)) n ?_ (fun i hi ih => ?_) 0 (by omega)
  · refine aw_blk (pc' := 29) (ls' := [some (vr 6 0), some (vr 9 k), some (vi (n : Int))]) (st' := [vi (n : Int), vi (n : Int)]) [.inl (.iload_n 2), .inl (.aload_n 0), .inr (18, 6, 2)] 24 _ _ (by decide +kernel) rfl ?_
    refine aw_icmp_ge (o := 21) (tgt := 50) (by decide +kernel) (by decide) (by omega) (by omega) (fun _ => ?_) (fun c => absurd (by omega) c)
    refine aw_blk (pc' := 53) (ls' := [some (vr 6 0), some (vr 9 k), some (vi (n : Int))]) (st' := [vi 1, vi 1, vr 6 0]) [.inl (.aload_n 0), .inl (.iconst 1), .inl (.iconst 1)] 50 _ _ (by decide +kernel) rfl ?_
    refine aw_dV (cs' := 0) (sl' := 0) (pc' := 56) (st' := []) (idx := 46) (as := [vi 1, vi 1]) (st := []) (m_R_splitOff (r := mp wt r n) (by omega) (by omega) (fun k hk => by rw [mp_lt hk]; have := (A.2.2.1 k hk).2; omega) (Or.inl rfl) (by omega)) (by decide +kernel) (show vOK "ChanceBench$Tree" 46 M_R_splitOff 2 = true by decide +kernel) rfl rfl rfl (Nat.le_of_ble_eq_true rfl) (by decide) (by decide) (by decide) rfl rfl rfl rfl ?_
    exact aw_vret (by decide +kernel) rfl (by decide) (by decide) (hq _ _ rfl rfl)
  · refine aw_blk (pc' := 29) (ls' := [some (vr 6 0), some (vr 9 k), some (vi (i : Int))]) (st' := [vi (n : Int), vi (i : Int)]) [.inl (.iload_n 2), .inl (.aload_n 0), .inr (18, 6, 2)] 24 _ _ (by decide +kernel) rfl ?_
    refine aw_icmp_ge (o := 21) (tgt := 50) (by decide +kernel) (by decide) (by omega) (by omega) (fun c => absurd c (by omega)) (fun _ => ?_)
    refine aw_blk (pc' := 38) (ls' := [some (vr 6 0), some (vr 9 k), some (vi (i : Int))]) (st' := [vr 9 k, vi (i : Int), vr 6 1]) [.inl (.aload_n 0), .inr (9, 6, 0), .inl (.iload_n 2), .inl (.aload_n 1)] 32 _ _ (by decide +kernel) rfl ?_
    refine aw_get (idx := 43) (ci := 9) (f := 1) (by decide +kernel) (by decide +kernel) hA.1 rfl ?_
    refine aw_blk (pc' := 42) (ls' := [some (vr 6 0), some (vr 9 k), some (vi (i : Int))]) (st' := [vi (i : Int), vr 9 k2, vi (i : Int), vr 6 1]) [.inl (.iload_n 2)] 41 _ _ (by decide +kernel) rfl ?_
    refine aw_iald (j := i) (by decide +kernel) hA.2.2 (by omega) (by omega) (fun r42 => ?_)
    refine aw_iast (j := i) (h' := Hp b s t mk df jo [some (ob 6 [vr 6 1, vr 6 2, vi (n : Int), vi W, vi lv, vi op]), some (ar 0 24 (va_up (mp wt r i) i (wt i))), some (ar 0 24 dd)] di mo dy) (by decide +kernel) rfl (by omega) (by omega) (by omega) rfl ?_
    refine aw_blk (pc' := 47) (ls' := [some (vr 6 0), some (vr 9 k), some (vi ((i : Int) + 1))]) (st' := []) [.inl (.iinc 2 1)] 44 _ _ (by decide +kernel) rfl ?_
    refine aw_goto (o := -23) (tgt := 24) (by decide +kernel) (by decide) ?_
    exact aw_eq rfl rfl (by rw [← mp_s]) ih

theorem m_R_hasLeaf (hn : n ≤ 24) (ha : I32 a) : ADet G M_R_hasLeaf [vr 6 0, vi a] (Hp b s t mk df jo (sgR (n : Int) W lv op r dd) di mo dy) (some (vi (if (0 ≤ a ∧ a < (n : Int)) ∧ dd a.toNat = 1 then 1 else 0))) (Hp b s t mk df jo (sgR (n : Int) W lv op r dd) di mo dy) := by
  refine am_det (by decide +kernel) (Nat.le_of_ble_eq_true rfl) (fun Qr Qt hq => ?_)
  refine aw_blk (pc' := 1) (ls' := [some (vr 6 0), some (vi a)]) (st' := [vi a]) [.inl (.iload_n 1)] 0 _ _ (by decide +kernel) rfl ?_
  refine aw_if_lt (o := 25) (tgt := 26) (by decide +kernel) (by decide) (by omega) (fun c1 => ?_) (fun c1 => ?_)
  · refine aw_blk (pc' := 27) (ls' := [some (vr 6 0), some (vi a)]) (st' := [vi 0]) [.inl (.iconst 0)] 26 _ _ (by decide +kernel) rfl ?_
    exact aw_zret (by decide +kernel) rfl (by decide) (by decide) (by omega) (hq _ _ (by rw [if_neg (by omega)]) rfl)
  · refine aw_blk (pc' := 9) (ls' := [some (vr 6 0), some (vi a)]) (st' := [vi (n : Int), vi a]) [.inl (.iload_n 1), .inl (.aload_n 0), .inr (18, 6, 2)] 4 _ _ (by decide +kernel) rfl ?_
    refine aw_icmp_ge (o := 17) (tgt := 26) (by decide +kernel) (by decide) (by omega) (by omega) (fun c9 => ?_) (fun c9 => ?_)
    · refine aw_blk (pc' := 27) (ls' := [some (vr 6 0), some (vi a)]) (st' := [vi 0]) [.inl (.iconst 0)] 26 _ _ (by decide +kernel) rfl ?_
      exact aw_zret (by decide +kernel) rfl (by decide) (by decide) (by omega) (hq _ _ (by rw [if_neg (by omega)]) rfl)
    · refine aw_blk (pc' := 17) (ls' := [some (vr 6 0), some (vi a)]) (st' := [vi a, vr 6 2]) [.inl (.aload_n 0), .inr (15, 6, 1), .inl (.iload_n 1)] 12 _ _ (by decide +kernel) rfl ?_
      refine aw_iald (j := a.toNat) (by decide +kernel) rfl (by omega) (by omega) (fun r17 => ?_)
      refine aw_blk (pc' := 19) (ls' := [some (vr 6 0), some (vi a)]) (st' := [vi 1, vi (dd a.toNat)]) [.inl (.iconst 1)] 18 _ _ (by decide +kernel) rfl ?_
      refine aw_icmp_ne (o := 7) (tgt := 26) (by decide +kernel) (by decide) (by omega) (by omega) (fun c19 => ?_) (fun c19 => ?_)
      · refine aw_blk (pc' := 27) (ls' := [some (vr 6 0), some (vi a)]) (st' := [vi 0]) [.inl (.iconst 0)] 26 _ _ (by decide +kernel) rfl ?_
        exact aw_zret (by decide +kernel) rfl (by decide) (by decide) (by omega) (hq _ _ (by rw [if_neg (by omega)]) rfl)
      · refine aw_blk (pc' := 23) (ls' := [some (vr 6 0), some (vi a)]) (st' := [vi 1]) [.inl (.iconst 1)] 22 _ _ (by decide +kernel) rfl ?_
        refine aw_goto (o := 4) (tgt := 27) (by decide +kernel) (by decide) ?_
        exact aw_zret (by decide +kernel) rfl (by decide) (by decide) (by omega) (hq _ _ (by rw [if_pos (by omega)]) rfl)

theorem l_R_iol {Qr : Option AV → HT → Prop} {Qt : HT → Prop} (hn : n ≤ 24) (ha : I32 a) : ∀ (e k : Nat) (l : Int), k + e = n → (0 ≤ l ∧ l ≤ (k : Int)) → (∀ x g, x = some (vi (iol dd a e k l)) → g = Hp b s t mk df jo (sgR (n : Int) W lv op r dd) di mo dy → Qr x g) → AW G M_R_indexOfLeaf Qr Qt 0 0 4 [some (vr 6 0), some (vi a), some (vi l), some (vi (k : Int))] [] (Hp b s t mk df jo (sgR (n : Int) W lv op r dd) di mo dy) := by
  intro e
  induction e with
  | zero =>
    intro k l hk hl hq
    refine aw_blk (pc' := 9) (ls' := [some (vr 6 0), some (vi a), some (vi l), some (vi (k : Int))]) (st' := [vi (n : Int), vi (k : Int)]) [.inl (.iload_n 3), .inl (.aload_n 0), .inr (18, 6, 2)] 4 _ _ (by decide +kernel) rfl ?_
    refine aw_icmp_ge (o := 29) (tgt := 38) (by decide +kernel) (by decide) (by omega) (by omega) (fun _ => ?_) (fun c => absurd (by omega) c)
    refine aw_blk (pc' := 39) (ls' := [some (vr 6 0), some (vi a), some (vi l), some (vi (k : Int))]) (st' := [vi (-1)]) [.inl (.iconst (-1))] 38 _ _ (by decide +kernel) rfl ?_
    exact aw_iret (by decide +kernel) rfl (by decide) (by decide) (hq _ _ rfl rfl)
  | succ e ih =>
    intro k l hk hl hq
    refine aw_blk (pc' := 9) (ls' := [some (vr 6 0), some (vi a), some (vi l), some (vi (k : Int))]) (st' := [vi (n : Int), vi (k : Int)]) [.inl (.iload_n 3), .inl (.aload_n 0), .inr (18, 6, 2)] 4 _ _ (by decide +kernel) rfl ?_
    refine aw_icmp_ge (o := 29) (tgt := 38) (by decide +kernel) (by decide) (by omega) (by omega) (fun c => absurd c (by omega)) (fun _ => ?_)
    refine aw_blk (pc' := 17) (ls' := [some (vr 6 0), some (vi a), some (vi l), some (vi (k : Int))]) (st' := [vi (k : Int), vr 6 2]) [.inl (.aload_n 0), .inr (15, 6, 1), .inl (.iload_n 3)] 12 _ _ (by decide +kernel) rfl ?_
    refine aw_iald (j := k) (by decide +kernel) rfl (by omega) (by omega) (fun r17 => ?_)
    refine aw_blk (pc' := 19) (ls' := [some (vr 6 0), some (vi a), some (vi l), some (vi (k : Int))]) (st' := [vi 1, vi (dd k)]) [.inl (.iconst 1)] 18 _ _ (by decide +kernel) rfl ?_
    refine aw_icmp_ne (o := 13) (tgt := 32) (by decide +kernel) (by decide) (by omega) (by omega) (fun c19 => ?_) (fun c19 => ?_)
    · refine aw_blk (pc' := 35) (ls' := [some (vr 6 0), some (vi a), some (vi l), some (vi ((k : Int) + 1))]) (st' := []) [.inl (.iinc 3 1)] 32 _ _ (by decide +kernel) rfl ?_
      refine aw_goto (o := -31) (tgt := 4) (by decide +kernel) (by decide) ?_
      refine aw_eq rfl rfl rfl (ih (k + 1) l (by omega) (by omega) (fun x g e1 e2 => hq x g ?_ e2))
      rw [e1, iol, if_neg (by omega)]
    · refine aw_blk (pc' := 24) (ls' := [some (vr 6 0), some (vi a), some (vi l), some (vi (k : Int))]) (st' := [vi a, vi l]) [.inl (.iload_n 2), .inl (.iload_n 1)] 22 _ _ (by decide +kernel) rfl ?_
      refine aw_icmp_ne (o := 5) (tgt := 29) (by decide +kernel) (by decide) (by omega) (by omega) (fun c24 => ?_) (fun c24 => ?_)
      · refine aw_blk (pc' := 35) (ls' := [some (vr 6 0), some (vi a), some (vi (l + 1)), some (vi ((k : Int) + 1))]) (st' := []) [.inl (.iinc 2 1), .inl (.iinc 3 1)] 29 _ _ (by decide +kernel) rfl ?_
        refine aw_goto (o := -31) (tgt := 4) (by decide +kernel) (by decide) ?_
        refine aw_eq rfl rfl rfl (ih (k + 1) (l + 1) (by omega) (by omega) (fun x g e1 e2 => hq x g ?_ e2))
        rw [e1, iol, if_pos (by omega), if_neg (by omega)]
      · refine aw_blk (pc' := 28) (ls' := [some (vr 6 0), some (vi a), some (vi l), some (vi (k : Int))]) (st' := [vi (k : Int)]) [.inl (.iload_n 3)] 27 _ _ (by decide +kernel) rfl ?_
        exact aw_iret (by decide +kernel) rfl (by decide) (by decide) (hq _ _ (by rw [iol, if_pos (by omega), if_pos (by omega)]) rfl)
theorem m_R_indexOfLeaf (hn : n ≤ 24) (ha : I32 a) : ADet G M_R_indexOfLeaf [vr 6 0, vi a] (Hp b s t mk df jo (sgR (n : Int) W lv op r dd) di mo dy) (some (vi (iol dd a n 0 0))) (Hp b s t mk df jo (sgR (n : Int) W lv op r dd) di mo dy) := by
  refine am_det (by decide +kernel) (Nat.le_of_ble_eq_true rfl) (fun Qr Qt hq => ?_)
  refine aw_blk (pc' := 4) (ls' := [some (vr 6 0), some (vi a), some (vi 0), some (vi 0)]) (st' := []) [.inl (.iconst 0), .inl (.istore_n 2), .inl (.iconst 0), .inl (.istore_n 3)] 0 _ _ (by decide +kernel) rfl ?_
  exact l_R_iol hn ha n 0 0 (by omega) (by omega) hq

end
