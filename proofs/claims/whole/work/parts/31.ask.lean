def prt (a c d : Int) : Int := if d = 0 then Int.tdiv a (gc a c) else Int.tdiv c (gc a c)
abbrev Ed (n m : Nat) (at_ wt at2 wt2 : Nat → Int) (W W2 : Int) (u : Int) : Int := W2 * den at_ wt n u - W * den at2 wt2 m u
section
variable {at_ wt at2 wt2 D B : Nat → Int} {n m L k : Nat} {W W2 t c : Int} {F : Nat → Int}
theorem lw_sum (A : lwN n at_ wt W) {F : Nat → Int} {K : Int} (h : ∀ i, i < n → -(K * wt i) ≤ F i ∧ F i ≤ K * wt i) : -(K * W) ≤ sumZ F n ∧ sumZ F n ≤ K * W := by
  rw [A.2.2.2.2.2, ← sumZ_mul]
  have a := sumZ_mono (n := n) (fun i hi => (h i hi).2)
  have b := sumZ_mono (n := n) (f := fun i => -1 * F i) (g := fun i => K * wt i) (fun i hi => by have := (h i hi).1; omega)
  rw [sumZ_mul] at b
  omega
theorem lw_tot (A : lwN n at_ wt W) : sT (den at_ wt n) = W := by
  rw [A.2.2.2.2.2]
  exact tr_ (F := fun _ x => x) (fun _ _ => rfl) A.2.1 (fun i hi => (A.2.2.1 i hi).1)
theorem lw_nn (A : lwN n at_ wt W) (u : Int) : 0 ≤ den at_ wt n u := den_nn (fun i hi => by have := (A.2.2.1 i hi).2; omega)
theorem lw_cum (A : lwN n at_ wt W) (t : Int) : 0 ≤ cum (den at_ wt n) t ∧ cum (den at_ wt n) t ≤ W := by
  unfold cum
  constructor
  · have := sT_mono (F := fun _ => 0) (H := fun u => if u ≤ t then den at_ wt n u else 0) (fun u _ => by have := lw_nn A u; split <;> omega)
    rw [sT_0] at this; exact this
  · have e := lw_tot A
    have := sT_mono (F := fun u => if u ≤ t then den at_ wt n u else 0) (H := den at_ wt n) (fun u _ => by have := lw_nn A u; split <;> omega)
    omega
theorem Ed_cum (t : Int) : cum (Ed n m at_ wt at2 wt2 W W2) t = W2 * cum (den at_ wt n) t - W * cum (den at2 wt2 m) t := by
  unfold cum
  rw [← sT_mul, ← sT_mul, ← sT_sub]
  exact sT_ext (fun u _ => by
    by_cases h : u ≤ t
    · rw [if_pos h, if_pos h, if_pos h]
    · rw [if_neg h, if_neg h, if_neg h]; simp)
theorem Ed_tot (A : lwN n at_ wt W) (A2 : lwN m at2 wt2 W2) : sT (Ed n m at_ wt at2 wt2 W W2) = 0 := by
  unfold Ed
  rw [sT_sub, sT_mul, sT_mul, lw_tot A, lw_tot A2, Int.mul_comm]; omega
theorem Ed_in (A : lwN n at_ wt W) (A2 : lwN m at2 wt2 W2) (t : Int) : -1099511627776 ≤ cum (Ed n m at_ wt at2 wt2 W W2) t ∧ cum (Ed n m at_ wt at2 wt2 W W2) t ≤ 1099511627776 := by
  rw [Ed_cum]
  have a := lw_cum A t
  have b := lw_cum A2 t
  have a1 := A.2.2.2
  have b1 := A2.2.2.2
  have := mulB (x := W2) (y := cum (den at_ wt n) t) (by omega) (by omega) (by omega) (by omega)
  have := mulB (x := W) (y := cum (den at2 wt2 m) t) (by omega) (by omega) (by omega) (by omega)
  omega
theorem ab_nn (x : Int) : 0 ≤ ab x := by unfold ab; split <;> omega
theorem ab_le {x y : Int} (h : -y ≤ x ∧ x ≤ y) : ab x ≤ y := by unfold ab; split <;> omega
end
section
variable {at_ wt at2 wt2 D B : Nat → Int} {n m L k : Nat} {W W2 t c : Int}
theorem sT_in {F : Int → Int} {K : Int} (h : ∀ u, inR u → -K ≤ F u ∧ F u ≤ K) : -(2001 * K) ≤ sT F ∧ sT F ≤ 2001 * K := by
  have e : ∀ x : Int, sT (fun _ => x) = 2001 * x := fun x => by
    unfold sT
    have : ∀ N : Nat, sumZ (fun _ => x) N = (N : Int) * x := fun N => by
      induction N with
      | zero => simp [sumZ]
      | succ N ih => simp only [sumZ]; rw [ih, show ((N + 1 : Nat) : Int) = (N : Int) + 1 by omega, Int.add_mul]; omega
    exact this 2001
  have a := sT_mono (F := F) (H := fun _ => K) (fun u hu => (h u hu).2)
  have b := sT_mono (F := fun _ => -K) (H := F) (fun u hu => (h u hu).1)
  rw [e] at a b
  omega
theorem cum_in {F : Int → Int} {K : Int} (h : ∀ u, inR u → -K ≤ F u ∧ F u ≤ K) (hK : 0 ≤ K) : -(2001 * K) ≤ cum F t ∧ cum F t ≤ 2001 * K := by
  unfold cum
  exact sT_in (fun u hu => by have := h u hu; split <;> omega)
/-- what is known of a difference that was taken -/
def tkD (n m : Nat) (at_ wt at2 wt2 : Nat → Int) (W W2 : Int) (L : Nat) (D B : Nat → Int) : Prop :=
  L ≤ 48 ∧ inc D L ∧ (∀ i, i < L → inR (D i)) ∧ den D B L = Ed n m at_ wt at2 wt2 W W2 ∧ sumZ B L = 0 ∧ (∀ k, k ≤ L → -1099511627776 ≤ sumZ B k ∧ sumZ B k ≤ 1099511627776) ∧ ∀ k, k < L → -4611686018427387904 ≤ ovF D B k ∧ ovF D B k ≤ 4611686018427387904
theorem tk_D (A : lwN n at_ wt W) (A2 : lwN m at2 wt2 W2) (h : tkI n m at_ wt at2 wt2 W W2 n m L D B) : tkD n m at_ wt at2 wt2 W W2 L D B := by
  obtain ⟨h1, hs, hr, he, _, _⟩ := h
  have hn := A.1
  have hm := A2.1
  have e : den D B L = Ed n m at_ wt at2 wt2 W W2 := funext (fun u => he u)
  have hz : sumZ B L = 0 := by
    have := tr_ (F := fun _ x => x) (f := D) (g := B) (fun _ _ => rfl) hs hr
    rw [← this]
    show sT (den D B L) = 0
    rw [e, Ed_tot A A2]
  refine ⟨by omega, hs, hr, e, hz, fun k hk => ?_, fun k hk => ?_⟩
  · rcases Nat.eq_zero_or_pos k with z | z
    · subst z; simp [sumZ]
    · have := run_at (B := B) (k := k - 1) (t := D (k - 1)) hs hr (by omega) (Int.le_refl _) (fun q => by have := hs (k - 1) (k - 1 + 1) (by omega) q; exact this)
      rw [show k - 1 + 1 = k by omega, e] at this
      rw [← this]; exact Ed_in A A2 _
  · have := ar_cum (B := B) hs hr (fun x => x) rfl (ovF D B) rfl (fun k => rfl) k hk
    rw [← this, e]
    have := cum_in (F := fun s => cum (Ed n m at_ wt at2 wt2 W W2) s) (t := D k - 1) (fun u _ => Ed_in A A2 u) (by omega)
    omega
theorem tkD.size (K : tkD n m at_ wt at2 wt2 W W2 L D B) : sumZ (fun k => ab (B k)) L = sT (fun u => ab (Ed n m at_ wt at2 wt2 W W2 u)) := by
  rw [← K.2.2.2.1]; exact (tr_ (F := fun _ x => ab x) (fun _ _ => rfl) K.2.1 K.2.2.1).symm
theorem tkD.means (K : tkD n m at_ wt at2 wt2 W W2 L D B) : sumZ (fun k => B k * D k) L = sT (fun u => Ed n m at_ wt at2 wt2 W W2 u * u) := by
  rw [← K.2.2.2.1]; exact (tr_ (F := fun u x => x * u) (fun _ _ => by simp) K.2.1 K.2.2.1).symm
theorem tkD.area (K : tkD n m at_ wt at2 wt2 W W2 L D B) : arF D B (L - 1) = sT (fun s => ab (cum (Ed n m at_ wt at2 wt2 W W2) s)) := by
  rw [← K.2.2.2.1]; exact arF_T K.2.1 K.2.2.1 K.2.2.2.2.1
theorem tkD.lna (K : tkD n m at_ wt at2 wt2 W W2 L D B) : isF (fun t => 0 < cum (Ed n m at_ wt at2 wt2 W W2) (t - 1)) (lna D B L 0) := by
  rw [← K.2.2.2.1]; exact lna_F K.2.1 K.2.2.1 K.2.2.2.2.1 L 0 (by omega) (fun i hi => by omega)
theorem tkD.lms (K : tkD n m at_ wt at2 wt2 W W2 L D B) (A : lwN n at_ wt W) (A2 : lwN m at2 wt2 W2) (hm : sT (fun u => Ed n m at_ wt at2 wt2 W W2 u * u) = 0) : isF (fun t => 0 < Ov (Ed n m at_ wt at2 wt2 W W2) t) (lms D B (L - 1) 0) := by
  have ht := Ed_tot A A2
  have ov : ∀ u, inR u → Ov (Ed n m at_ wt at2 wt2 W W2) u = cum (fun s => cum (Ed n m at_ wt at2 wt2 W W2) s) (u - 1) := fun u hu => by
    have := Ov_cum ht hm (u + 1001).toNat
    rw [show ((u + 1001).toNat : Int) - 1001 = u by omega, show ((u + 1001).toNat : Int) - 1002 = u - 1 by omega] at this
    exact this
  have hc : cum (fun s => cum (den D B L) s) 1000 = 0 := by
    have := Ov_cum ht hm 2002
    rw [K.2.2.2.1]
    rw [show ((2002 : Nat) : Int) - 1002 = 1000 by omega] at this
    rw [← this]
    unfold Ov
    rw [sT_ext (H := fun _ => 0) (fun u hu => by rw [if_neg (by omega)]), sT_0]
  refine isF_ext (P := fun t => 0 < cum (fun s => cum (Ed n m at_ wt at2 wt2 W W2) s) (t - 1)) (fun u hu => by rw [ov u hu]) ?_
  rcases Nat.eq_zero_or_pos L with z | z
  · subst z
    refine Or.inl ⟨rfl, fun u hu q => ?_⟩
    have e : cum (fun s => cum (den D B 0) s) (u - 1) = 0 := ov_0 K.2.1 K.2.2.1 (fun z => by omega) (by omega)
    rw [K.2.2.2.1] at e
    change 0 < cum (fun s => cum (Ed n m at_ wt at2 wt2 W W2) s) (u - 1) at q
    omega
  · have := lms_F (D := D) (B := B) K.2.1 K.2.2.1 K.2.2.2.2.1 hc (L - 1) 0 (by omega) (Int.le_refl _) (fun u hu hl q => by
      rw [ov_0 K.2.1 K.2.2.1 (fun _ => hl) (by omega)] at q; omega)
    rw [K.2.2.2.1] at this
    exact this
end
section
variable {G : GT} {h : HT} {b s t mk df jo tr di mo dy : SG} {a c d e B bd tk : Int} {n m k k1 k2 q q1 q2 j nn len : Nat} {f g ff gg ft at_ wt at2 wt2 : Nat → Int} {rf rr W W2 : Int} {T : Int → Int} {by_ : Prop} {laws ahead made : Nat → Option (Nat × Nat)} {slot : Nat → Int} {od dn un : Nat}
theorem m_B_values (hI : I32 e) (hl1 : lawAt laws e = some (9, k)) (hA : isD dy k k1 k2 n at_ wt W) (A : lwN n at_ wt W) : ADet G M_B_values [vr 0 0, vi e] (Hp (sgB bd tk) (sgS laws slot ahead made (od : Int) (dn : Int) (un : Int)) t (sgK (nn : Int) rr ff gg) df jo tr di mo dy) (some (vi (n : Int))) (Hp (sgB bd tk) (sgS laws slot ahead made (od : Int) (dn : Int) (un : Int)) t (sgK (nn : Int) rr ff gg) df jo tr di mo dy) := by
  refine am_det (by decide +kernel) (Nat.le_of_ble_eq_true rfl) (fun Qr Qt hq => ?_)
  have hn := A.1
  refine aw_blk (pc' := 5) (ls' := [some (vr 0 0), some (vi e), none]) (st' := [vi e, vr 1 0]) [.inl (.aload_n 0), .inr (10, 0, 0), .inl (.iload_n 1)] 0 _ _ (by decide +kernel) rfl ?_
  refine aw_dV (cs' := 0) (sl' := 0) (pc' := 8) (st' := [vo (lawAt laws e)]) (idx := 117) (as := [vi e]) (st := []) (m_S_lawIn hI) (by decide +kernel) (show vOK "ChanceBench" 117 M_S_lawIn 1 = true by decide +kernel) rfl rfl rfl (Nat.le_of_ble_eq_true rfl) (by decide) (by decide) (by decide) rfl rfl rfl rfl ?_
  rw [hl1]
  refine aw_blk (pc' := 10) (ls' := [some (vr 0 0), some (vi e), some (vr 9 k)]) (st' := [vr 9 k]) [.inl (.astore_n 2), .inl (.aload_n 2)] 8 _ _ (by decide +kernel) rfl ?_
  refine aw_ifnonnull (o := 7) (tgt := 17) (by decide +kernel) (by decide) (fun _ _ => ?_) (fun z => nomatch z)
  refine aw_blk (pc' := 18) (ls' := [some (vr 0 0), some (vi e), some (vr 9 k)]) (st' := [vr 9 k]) [.inl (.aload_n 2)] 17 _ _ (by decide +kernel) rfl ?_
  refine aw_get (idx := 121) (ci := 9) (f := 0) (by decide +kernel) (by decide +kernel) hA.1 rfl ?_
  refine aw_alen (by decide +kernel) hA.2.1 (fun r21 => ?_)
  exact aw_iret (by decide +kernel) rfl (by decide) (by decide) (hq _ _ rfl rfl)

theorem m_B_values_0 (hI : I32 e) (hl1 : lawAt laws e = none) : ADet G M_B_values [vr 0 0, vi e] (Hp (sgB bd tk) (sgS laws slot ahead made (od : Int) (dn : Int) (un : Int)) t (sgK (nn : Int) rr ff gg) df jo tr di mo dy) (some (vi 0)) (Hp (sgB bd tk) (sgS laws slot ahead made (od : Int) (dn : Int) (un : Int)) t (sgK (nn : Int) rr ff gg) df jo tr di mo dy) := by
  refine am_det (by decide +kernel) (Nat.le_of_ble_eq_true rfl) (fun Qr Qt hq => ?_)
  refine aw_blk (pc' := 5) (ls' := [some (vr 0 0), some (vi e), none]) (st' := [vi e, vr 1 0]) [.inl (.aload_n 0), .inr (10, 0, 0), .inl (.iload_n 1)] 0 _ _ (by decide +kernel) rfl ?_
  refine aw_dV (cs' := 0) (sl' := 0) (pc' := 8) (st' := [vo (lawAt laws e)]) (idx := 117) (as := [vi e]) (st := []) (m_S_lawIn hI) (by decide +kernel) (show vOK "ChanceBench" 117 M_S_lawIn 1 = true by decide +kernel) rfl rfl rfl (Nat.le_of_ble_eq_true rfl) (by decide) (by decide) (by decide) rfl rfl rfl rfl ?_
  rw [hl1]
  refine aw_blk (pc' := 10) (ls' := [some (vr 0 0), some (vi e), some (vn)]) (st' := [vn]) [.inl (.astore_n 2), .inl (.aload_n 2)] 8 _ _ (by decide +kernel) rfl ?_
  refine aw_ifnonnull (o := 7) (tgt := 17) (by decide +kernel) (by decide) (fun _ z => nomatch z) (fun _ => ?_)
  refine aw_blk (pc' := 14) (ls' := [some (vr 0 0), some (vi e), some (vn)]) (st' := [vi 0]) [.inl (.iconst 0)] 13 _ _ (by decide +kernel) rfl ?_
  refine aw_goto (o := 8) (tgt := 22) (by decide +kernel) (by decide) ?_
  exact aw_iret (by decide +kernel) rfl (by decide) (by decide) (hq _ _ rfl rfl)

theorem m_B_chance_t (hI : I32 e) (hl1 : lawAt laws e = none) : AThr G M_B_chance [vr 0 0, vi e, vi c, vi d] (Hp (sgB bd tk) (sgS laws slot ahead made (od : Int) (dn : Int) (un : Int)) t (sgK (nn : Int) rr ff gg) df jo tr di mo dy) := by
  refine am_thr (by decide +kernel) (Nat.le_of_ble_eq_true rfl) (fun Qr Qt hq => ?_)
  refine aw_blk (pc' := 2) (ls' := [some (vr 0 0), some (vi e), some (vi c), some (vi d), none, none]) (st' := [vi e, vr 0 0]) [.inl (.aload_n 0), .inl (.iload_n 1)] 0 _ _ (by decide +kernel) rfl ?_
  exact aw_tV (idx := 143) (as := [vi e]) (st := []) (m_B_lawOf_t hI hl1) (by decide +kernel) (show vOK "ChanceBench" 143 M_B_lawOf 1 = true by decide +kernel) rfl rfl rfl (Nat.le_of_ble_eq_true rfl) (by decide) (by decide) (by decide) hq

theorem m_B_below_t (hI : I32 e) (hl1 : lawAt laws e = none) : AThr G M_B_below [vr 0 0, vi e, vi c, vi d] (Hp (sgB bd tk) (sgS laws slot ahead made (od : Int) (dn : Int) (un : Int)) t (sgK (nn : Int) rr ff gg) df jo tr di mo dy) := by
  refine am_thr (by decide +kernel) (Nat.le_of_ble_eq_true rfl) (fun Qr Qt hq => ?_)
  refine aw_blk (pc' := 2) (ls' := [some (vr 0 0), some (vi e), some (vi c), some (vi d), none]) (st' := [vi e, vr 0 0]) [.inl (.aload_n 0), .inl (.iload_n 1)] 0 _ _ (by decide +kernel) rfl ?_
  exact aw_tV (idx := 143) (as := [vi e]) (st := []) (m_B_lawOf_t hI hl1) (by decide +kernel) (show vOK "ChanceBench" 143 M_B_lawOf 1 = true by decide +kernel) rfl rfl rfl (Nat.le_of_ble_eq_true rfl) (by decide) (by decide) (by decide) hq

theorem m_B_mean_t (hI : I32 e) (hl1 : lawAt laws e = none) : AThr G M_B_mean [vr 0 0, vi e, vi d] (Hp (sgB bd tk) (sgS laws slot ahead made (od : Int) (dn : Int) (un : Int)) t (sgK (nn : Int) rr ff gg) df jo tr di mo dy) := by
  refine am_thr (by decide +kernel) (Nat.le_of_ble_eq_true rfl) (fun Qr Qt hq => ?_)
  refine aw_blk (pc' := 2) (ls' := [some (vr 0 0), some (vi e), some (vi d), none]) (st' := [vi e, vr 0 0]) [.inl (.aload_n 0), .inl (.iload_n 1)] 0 _ _ (by decide +kernel) rfl ?_
  exact aw_tV (idx := 143) (as := [vi e]) (st := []) (m_B_lawOf_t hI hl1) (by decide +kernel) (show vOK "ChanceBench" 143 M_B_lawOf 1 = true by decide +kernel) rfl rfl rfl (Nat.le_of_ble_eq_true rfl) (by decide) (by decide) (by decide) hq

theorem m_B_variance_t (hI : I32 e) (hl1 : lawAt laws e = none) : AThr G M_B_variance [vr 0 0, vi e, vi d] (Hp (sgB bd tk) (sgS laws slot ahead made (od : Int) (dn : Int) (un : Int)) t (sgK (nn : Int) rr ff gg) df jo tr di mo dy) := by
  refine am_thr (by decide +kernel) (Nat.le_of_ble_eq_true rfl) (fun Qr Qt hq => ?_)
  refine aw_blk (pc' := 2) (ls' := [some (vr 0 0), some (vi e), some (vi d), none, none, none, none, none]) (st' := [vi e, vr 0 0]) [.inl (.aload_n 0), .inl (.iload_n 1)] 0 _ _ (by decide +kernel) rfl ?_
  exact aw_tV (idx := 143) (as := [vi e]) (st := []) (m_B_lawOf_t hI hl1) (by decide +kernel) (show vOK "ChanceBench" 143 M_B_lawOf 1 = true by decide +kernel) rfl rfl rfl (Nat.le_of_ble_eq_true rfl) (by decide) (by decide) (by decide) hq

theorem m_B_value_t (hI : I32 e) (hl1 : lawAt laws e = none) : AThr G M_B_value [vr 0 0, vi e, vi d] (Hp (sgB bd tk) (sgS laws slot ahead made (od : Int) (dn : Int) (un : Int)) t (sgK (nn : Int) rr ff gg) df jo tr di mo dy) := by
  refine am_thr (by decide +kernel) (Nat.le_of_ble_eq_true rfl) (fun Qr Qt hq => ?_)
  refine aw_blk (pc' := 2) (ls' := [some (vr 0 0), some (vi e), some (vi d), none]) (st' := [vi e, vr 0 0]) [.inl (.aload_n 0), .inl (.iload_n 1)] 0 _ _ (by decide +kernel) rfl ?_
  exact aw_tV (idx := 143) (as := [vi e]) (st := []) (m_B_lawOf_t hI hl1) (by decide +kernel) (show vOK "ChanceBench" 143 M_B_lawOf 1 = true by decide +kernel) rfl rfl rfl (Nat.le_of_ble_eq_true rfl) (by decide) (by decide) (by decide) hq

theorem m_B_open_t (hI : I32 e) (hl1 : lawAt laws e = none) : AThr G M_B_open [vr 0 0, vi e, vi d] (Hp (sgB bd tk) (sgS laws slot ahead made (od : Int) (dn : Int) (un : Int)) t (sgK (nn : Int) rr ff gg) df jo tr di mo dy) := by
  refine am_thr (by decide +kernel) (Nat.le_of_ble_eq_true rfl) (fun Qr Qt hq => ?_)
  refine aw_blk (pc' := 2) (ls' := [some (vr 0 0), some (vi e), some (vi d), none]) (st' := [vi e, vr 0 0]) [.inl (.aload_n 0), .inl (.iload_n 1)] 0 _ _ (by decide +kernel) rfl ?_
  exact aw_tV (idx := 143) (as := [vi e]) (st := []) (m_B_lawOf_t hI hl1) (by decide +kernel) (show vOK "ChanceBench" 143 M_B_lawOf 1 = true by decide +kernel) rfl rfl rfl (Nat.le_of_ble_eq_true rfl) (by decide) (by decide) (by decide) hq

theorem m_B_leaf_t (hI : I32 e) (hl1 : lawAt laws e = none) : AThr G M_B_leaf [vr 0 0, vi e, vi c, vi d] (Hp (sgB bd tk) (sgS laws slot ahead made (od : Int) (dn : Int) (un : Int)) t (sgK (nn : Int) rr ff gg) df jo tr di mo dy) := by
  refine am_thr (by decide +kernel) (Nat.le_of_ble_eq_true rfl) (fun Qr Qt hq => ?_)
  refine aw_blk (pc' := 2) (ls' := [some (vr 0 0), some (vi e), some (vi c), some (vi d), none]) (st' := [vi e, vr 0 0]) [.inl (.aload_n 0), .inl (.iload_n 1)] 0 _ _ (by decide +kernel) rfl ?_
  exact aw_tV (idx := 143) (as := [vi e]) (st := []) (m_B_lawOf_t hI hl1) (by decide +kernel) (show vOK "ChanceBench" 143 M_B_lawOf 1 = true by decide +kernel) rfl rfl rfl (Nat.le_of_ble_eq_true rfl) (by decide) (by decide) (by decide) hq

theorem m_B_lots_t (hI : I32 e) (hl1 : lawAt laws e = none) : AThr G M_B_lots [vr 0 0, vi e, vi c, vi d] (Hp (sgB bd tk) (sgS laws slot ahead made (od : Int) (dn : Int) (un : Int)) t (sgK (nn : Int) rr ff gg) df jo tr di mo dy) := by
  refine am_thr (by decide +kernel) (Nat.le_of_ble_eq_true rfl) (fun Qr Qt hq => ?_)
  refine aw_blk (pc' := 2) (ls' := [some (vr 0 0), some (vi e), some (vi c), some (vi d), none, none, none, none, none, none]) (st' := [vi e, vr 0 0]) [.inl (.aload_n 0), .inl (.iload_n 1)] 0 _ _ (by decide +kernel) rfl ?_
  exact aw_tV (idx := 143) (as := [vi e]) (st := []) (m_B_lawOf_t hI hl1) (by decide +kernel) (show vOK "ChanceBench" 143 M_B_lawOf 1 = true by decide +kernel) rfl rfl rfl (Nat.le_of_ble_eq_true rfl) (by decide) (by decide) (by decide) hq

theorem m_B_draw_t (hI : I32 e) (hl1 : lawAt laws e = none) : AThr G M_B_draw [vr 0 0, vi e] (Hp (sgB bd tk) (sgS laws slot ahead made (od : Int) (dn : Int) (un : Int)) t (sgK (nn : Int) rr ff gg) df jo tr di mo dy) := by
  refine am_thr (by decide +kernel) (Nat.le_of_ble_eq_true rfl) (fun Qr Qt hq => ?_)
  refine aw_blk (pc' := 2) (ls' := [some (vr 0 0), some (vi e), none, none, none, none, none]) (st' := [vi e, vr 0 0]) [.inl (.aload_n 0), .inl (.iload_n 1)] 0 _ _ (by decide +kernel) rfl ?_
  exact aw_tV (idx := 143) (as := [vi e]) (st := []) (m_B_lawOf_t hI hl1) (by decide +kernel) (show vOK "ChanceBench" 143 M_B_lawOf 1 = true by decide +kernel) rfl rfl rfl (Nat.le_of_ble_eq_true rfl) (by decide) (by decide) (by decide) hq

theorem m_B_value (hI : I32 e) (hd0 : 0 ≤ d ∧ d < (n : Int)) (hl1 : lawAt laws e = some (9, k)) (hA : isD dy k k1 k2 n at_ wt W) (A : lwN n at_ wt W) : ADet G M_B_value [vr 0 0, vi e, vi d] (Hp (sgB bd tk) (sgS laws slot ahead made (od : Int) (dn : Int) (un : Int)) t (sgK (nn : Int) rr ff gg) df jo tr di mo dy) (some (vi (at_ d.toNat))) (Hp (sgB bd tk) (sgS laws slot ahead made (od : Int) (dn : Int) (un : Int)) t (sgK (nn : Int) rr ff gg) df jo tr di mo dy) := by
  refine am_det (by decide +kernel) (Nat.le_of_ble_eq_true rfl) (fun Qr Qt hq => ?_)
  have hn := A.1
  refine aw_blk (pc' := 2) (ls' := [some (vr 0 0), some (vi e), some (vi d), none]) (st' := [vi e, vr 0 0]) [.inl (.aload_n 0), .inl (.iload_n 1)] 0 _ _ (by decide +kernel) rfl ?_
  refine aw_dV (cs' := 1) (sl' := 6) (pc' := 5) (st' := [vr 9 k]) (idx := 143) (as := [vi e]) (st := []) (m_B_lawOf hI hl1) (by decide +kernel) (show vOK "ChanceBench" 143 M_B_lawOf 1 = true by decide +kernel) rfl rfl rfl (Nat.le_of_ble_eq_true rfl) (by decide) (by decide) (by decide) rfl rfl rfl rfl ?_
  refine aw_blk (pc' := 7) (ls' := [some (vr 0 0), some (vi e), some (vi d), some (vr 9 k)]) (st' := [vi d]) [.inl (.astore_n 3), .inl (.iload_n 2)] 5 _ _ (by decide +kernel) rfl ?_
  refine aw_if_lt (o := 12) (tgt := 19) (by decide +kernel) (by decide) (by omega) (fun c => absurd c (by omega)) (fun _ => ?_)
  refine aw_blk (pc' := 12) (ls' := [some (vr 0 0), some (vi e), some (vi d), some (vr 9 k)]) (st' := [vr 9 k, vi d]) [.inl (.iload_n 2), .inl (.aload_n 3)] 10 _ _ (by decide +kernel) rfl ?_
  refine aw_get (idx := 121) (ci := 9) (f := 0) (by decide +kernel) (by decide +kernel) hA.1 rfl ?_
  refine aw_alen (by decide +kernel) hA.2.1 (fun r15 => ?_)
  refine aw_icmp_lt (o := 11) (tgt := 27) (by decide +kernel) (by decide) (by omega) (by omega) (fun _ => ?_) (fun c => absurd (by omega) c)
  obtain ⟨D, rfl⟩ : ∃ D : Nat, d = (D : Int) := ⟨d.toNat, by omega⟩
  refine aw_blk (pc' := 28) (ls' := [some (vr 0 0), some (vi e), some (vi (D : Int)), some (vr 9 k)]) (st' := [vr 9 k]) [.inl (.aload_n 3)] 27 _ _ (by decide +kernel) rfl ?_
  refine aw_get (idx := 121) (ci := 9) (f := 0) (by decide +kernel) (by decide +kernel) hA.1 rfl ?_
  refine aw_blk (pc' := 32) (ls' := [some (vr 0 0), some (vi e), some (vi (D : Int)), some (vr 9 k)]) (st' := [vi (D : Int), vr 9 k1]) [.inl (.iload_n 2)] 31 _ _ (by decide +kernel) rfl ?_
  refine aw_iald (j := D) (by decide +kernel) hA.2.1 (by omega) (by omega) (fun r32 => ?_)
  exact aw_iret (by decide +kernel) rfl (by decide) (by decide) (hq _ _ rfl rfl)

theorem m_B_value_t2 (hI : I32 e) (hi : I32 d) (hd0 : ¬ (0 ≤ d ∧ d < (n : Int))) (hl1 : lawAt laws e = some (9, k)) (hA : isD dy k k1 k2 n at_ wt W) (A : lwN n at_ wt W) : AThr G M_B_value [vr 0 0, vi e, vi d] (Hp (sgB bd tk) (sgS laws slot ahead made (od : Int) (dn : Int) (un : Int)) t (sgK (nn : Int) rr ff gg) df jo tr di mo dy) := by
  refine am_thr (by decide +kernel) (Nat.le_of_ble_eq_true rfl) (fun Qr Qt hq => ?_)
  have hn := A.1
  refine aw_blk (pc' := 2) (ls' := [some (vr 0 0), some (vi e), some (vi d), none]) (st' := [vi e, vr 0 0]) [.inl (.aload_n 0), .inl (.iload_n 1)] 0 _ _ (by decide +kernel) rfl ?_
  refine aw_dV (cs' := 1) (sl' := 6) (pc' := 5) (st' := [vr 9 k]) (idx := 143) (as := [vi e]) (st := []) (m_B_lawOf hI hl1) (by decide +kernel) (show vOK "ChanceBench" 143 M_B_lawOf 1 = true by decide +kernel) rfl rfl rfl (Nat.le_of_ble_eq_true rfl) (by decide) (by decide) (by decide) rfl rfl rfl rfl ?_
  refine aw_blk (pc' := 7) (ls' := [some (vr 0 0), some (vi e), some (vi d), some (vr 9 k)]) (st' := [vi d]) [.inl (.astore_n 3), .inl (.iload_n 2)] 5 _ _ (by decide +kernel) rfl ?_
  refine aw_if_lt (o := 12) (tgt := 19) (by decide +kernel) (by decide) (by omega) (fun c7 => ?_) (fun c7 => ?_)
  · exact aw_throw (ik := 146) (ic := 148) tOK_B (by decide +kernel) (by decide +kernel) (by decide +kernel) (by decide +kernel) (Nat.le_of_ble_eq_true rfl) (by decide) (by decide) (by decide) hq
  · refine aw_blk (pc' := 12) (ls' := [some (vr 0 0), some (vi e), some (vi d), some (vr 9 k)]) (st' := [vr 9 k, vi d]) [.inl (.iload_n 2), .inl (.aload_n 3)] 10 _ _ (by decide +kernel) rfl ?_
    refine aw_get (idx := 121) (ci := 9) (f := 0) (by decide +kernel) (by decide +kernel) hA.1 rfl ?_
    refine aw_alen (by decide +kernel) hA.2.1 (fun r15 => ?_)
    refine aw_icmp_lt (o := 11) (tgt := 27) (by decide +kernel) (by decide) (by omega) (by omega) (fun c => absurd c (by omega)) (fun _ => ?_)
    exact aw_throw (ik := 146) (ic := 148) tOK_B (by decide +kernel) (by decide +kernel) (by decide +kernel) (by decide +kernel) (Nat.le_of_ble_eq_true rfl) (by decide) (by decide) (by decide) hq

theorem m_B_chance (hI : I32 e) (hc : I32 c) (hd1 : d = 0 ∨ d = 1) (hl1 : lawAt laws e = some (9, k)) (hA : isD dy k k1 k2 n at_ wt W) (A : lwN n at_ wt W) : ADet G M_B_chance [vr 0 0, vi e, vi c, vi d] (Hp (sgB bd tk) (sgS laws slot ahead made (od : Int) (dn : Int) (un : Int)) t (sgK (nn : Int) rr ff gg) df jo tr di mo dy) (some (vl (prt (den at_ wt n c) W d))) (Hp (sgB bd tk) (sgS laws slot ahead made (od : Int) (dn : Int) (un : Int)) t (sgK (nn : Int) rr ff gg) df jo tr di mo dy) := by
  refine am_det (by decide +kernel) (Nat.le_of_ble_eq_true rfl) (fun Qr Qt hq => ?_)
  have hn := A.1
  have hW := A.2.2.2.1
  have hW1 := A.2.2.2.2.1
  refine aw_blk (pc' := 2) (ls' := [some (vr 0 0), some (vi e), some (vi c), some (vi d), none, none]) (st' := [vi e, vr 0 0]) [.inl (.aload_n 0), .inl (.iload_n 1)] 0 _ _ (by decide +kernel) rfl ?_
  refine aw_dV (cs' := 1) (sl' := 6) (pc' := 5) (st' := [vr 9 k]) (idx := 143) (as := [vi e]) (st := []) (m_B_lawOf hI hl1) (by decide +kernel) (show vOK "ChanceBench" 143 M_B_lawOf 1 = true by decide +kernel) rfl rfl rfl (Nat.le_of_ble_eq_true rfl) (by decide) (by decide) (by decide) rfl rfl rfl rfl ?_
  refine aw_blk (pc' := 10) (ls' := [some (vr 0 0), some (vi e), some (vi c), some (vi d), some (vr 9 k), none]) (st' := [vi c, vr 9 k]) [.inl (.astore 4), .inl (.aload 4), .inl (.iload_n 2)] 5 _ _ (by decide +kernel) rfl ?_
  refine aw_dV (cs' := 1) (sl' := 6) (pc' := 13) (st' := [vi (ixO at_ n c)]) (idx := 149) (as := [vi c]) (st := []) (m_L_indexOf hA.L A.2.1 hc) (by decide +kernel) (show vOK "ChanceBench" 149 M_L_indexOf 1 = true by decide +kernel) hA.1 rfl rfl (Nat.le_of_ble_eq_true rfl) (by decide) (by decide) (by decide) rfl rfl rfl rfl ?_
  have hix : I32 (ixO at_ n c) := by unfold ixO; have := lb_le at_ c n; split <;> omega
  refine aw_blk (pc' := 18) (ls' := [some (vr 0 0), some (vi e), some (vi c), some (vi d), some (vr 9 k), some (vi (ixO at_ n c))]) (st' := [vi (-1), vi (ixO at_ n c)]) [.inl (.istore 5), .inl (.iload 5), .inl (.iconst (-1))] 13 _ _ (by decide +kernel) rfl ?_
  refine aw_icmp_ne (o := 7) (tgt := 25) (by decide +kernel) (by decide) (by omega) (by omega) (fun c18 => ?_) (fun c18 => ?_)
  · obtain ⟨D, hD, eD, vD⟩ := ixO_yes c18
    have hai := A.2.2.1 D hD
    rw [eD]
    rw [show prt (den at_ wt n c) W d = prt (wt D) W d by rw [← vD, den_at A.2.1 hD]] at hq
    refine aw_blk (pc' := 27) (ls' := [some (vr 0 0), some (vi e), some (vi c), some (vi d), some (vr 9 k), some (vi (D : Int))]) (st' := [vr 9 k]) [.inl (.aload 4)] 25 _ _ (by decide +kernel) rfl ?_
    refine aw_get (idx := 127) (ci := 9) (f := 1) (by decide +kernel) (by decide +kernel) hA.1 rfl ?_
    refine aw_blk (pc' := 32) (ls' := [some (vr 0 0), some (vi e), some (vi c), some (vi d), some (vr 9 k), some (vi (D : Int))]) (st' := [vi (D : Int), vr 9 k2]) [.inl (.iload 5)] 30 _ _ (by decide +kernel) rfl ?_
    refine aw_iald (j := D) (by decide +kernel) hA.2.2 (by omega) (by omega) (fun r32 => ?_)
    refine aw_i2l (by decide +kernel) (by omega) ?_
    refine aw_blk (pc' := 36) (ls' := [some (vr 0 0), some (vi e), some (vi c), some (vi d), some (vr 9 k), some (vi (D : Int))]) (st' := [vr 9 k, vl (wt D)]) [.inl (.aload 4)] 34 _ _ (by decide +kernel) rfl ?_
    refine aw_get (idx := 130) (ci := 9) (f := 2) (by decide +kernel) (by decide +kernel) hA.1 rfl ?_
    refine aw_i2l (by decide +kernel) (by omega) ?_
    refine aw_blk (pc' := 41) (ls' := [some (vr 0 0), some (vi e), some (vi c), some (vi d), some (vr 9 k), some (vi (D : Int))]) (st' := [vi d, vl W, vl (wt D)]) [.inl (.iload_n 3)] 40 _ _ (by decide +kernel) rfl ?_
    refine aw_dS (cs' := 2) (sl' := 12) (pc' := 44) (st' := [vl (prt (wt D) W d)]) (idx := 152) (as := [vl (wt D), vl W, vi d]) (st := []) (m_B_part (by constructor <;> omega) (by constructor <;> omega) hd1) (by decide +kernel) (show sOK "ChanceBench" 152 M_B_part 3 = true by decide +kernel) rfl (Nat.le_of_ble_eq_true rfl) (by decide) (by decide) (by decide) rfl rfl rfl rfl ?_
    exact aw_lret (by decide +kernel) rfl (by decide) (by decide) (hq _ _ rfl rfl)
  · rw [show prt (den at_ wt n c) W d = prt 0 W d by rw [den_0 (ixO_no A.2.1 c18)]] at hq
    refine aw_blk (pc' := 22) (ls' := [some (vr 0 0), some (vi e), some (vi c), some (vi d), some (vr 9 k), some (vi (ixO at_ n c))]) (st' := [vl 0]) [.inl (.lconst 0)] 21 _ _ (by decide +kernel) rfl ?_
    refine aw_goto (o := 12) (tgt := 34) (by decide +kernel) (by decide) ?_
    refine aw_blk (pc' := 36) (ls' := [some (vr 0 0), some (vi e), some (vi c), some (vi d), some (vr 9 k), some (vi (ixO at_ n c))]) (st' := [vr 9 k, vl 0]) [.inl (.aload 4)] 34 _ _ (by decide +kernel) rfl ?_
    refine aw_get (idx := 130) (ci := 9) (f := 2) (by decide +kernel) (by decide +kernel) hA.1 rfl ?_
    refine aw_i2l (by decide +kernel) (by omega) ?_
    refine aw_blk (pc' := 41) (ls' := [some (vr 0 0), some (vi e), some (vi c), some (vi d), some (vr 9 k), some (vi (ixO at_ n c))]) (st' := [vi d, vl W, vl 0]) [.inl (.iload_n 3)] 40 _ _ (by decide +kernel) rfl ?_
    refine aw_dS (cs' := 2) (sl' := 12) (pc' := 44) (st' := [vl (prt 0 W d)]) (idx := 152) (as := [vl 0, vl W, vi d]) (st := []) (m_B_part (by constructor <;> omega) (by constructor <;> omega) hd1) (by decide +kernel) (show sOK "ChanceBench" 152 M_B_part 3 = true by decide +kernel) rfl (Nat.le_of_ble_eq_true rfl) (by decide) (by decide) (by decide) rfl rfl rfl rfl ?_
    exact aw_lret (by decide +kernel) rfl (by decide) (by decide) (hq _ _ rfl rfl)

theorem m_B_chance_t2 (hI : I32 e) (hc : I32 c) (hi : I32 d) (hd1 : ¬ (d = 0 ∨ d = 1)) (hl1 : lawAt laws e = some (9, k)) (hA : isD dy k k1 k2 n at_ wt W) (A : lwN n at_ wt W) : AThr G M_B_chance [vr 0 0, vi e, vi c, vi d] (Hp (sgB bd tk) (sgS laws slot ahead made (od : Int) (dn : Int) (un : Int)) t (sgK (nn : Int) rr ff gg) df jo tr di mo dy) := by
  refine am_thr (by decide +kernel) (Nat.le_of_ble_eq_true rfl) (fun Qr Qt hq => ?_)
  have hn := A.1
  have hW := A.2.2.2.1
  have hW1 := A.2.2.2.2.1
  refine aw_blk (pc' := 2) (ls' := [some (vr 0 0), some (vi e), some (vi c), some (vi d), none, none]) (st' := [vi e, vr 0 0]) [.inl (.aload_n 0), .inl (.iload_n 1)] 0 _ _ (by decide +kernel) rfl ?_
  refine aw_dV (cs' := 1) (sl' := 6) (pc' := 5) (st' := [vr 9 k]) (idx := 143) (as := [vi e]) (st := []) (m_B_lawOf hI hl1) (by decide +kernel) (show vOK "ChanceBench" 143 M_B_lawOf 1 = true by decide +kernel) rfl rfl rfl (Nat.le_of_ble_eq_true rfl) (by decide) (by decide) (by decide) rfl rfl rfl rfl ?_
  refine aw_blk (pc' := 10) (ls' := [some (vr 0 0), some (vi e), some (vi c), some (vi d), some (vr 9 k), none]) (st' := [vi c, vr 9 k]) [.inl (.astore 4), .inl (.aload 4), .inl (.iload_n 2)] 5 _ _ (by decide +kernel) rfl ?_
  refine aw_dV (cs' := 1) (sl' := 6) (pc' := 13) (st' := [vi (ixO at_ n c)]) (idx := 149) (as := [vi c]) (st := []) (m_L_indexOf hA.L A.2.1 hc) (by decide +kernel) (show vOK "ChanceBench" 149 M_L_indexOf 1 = true by decide +kernel) hA.1 rfl rfl (Nat.le_of_ble_eq_true rfl) (by decide) (by decide) (by decide) rfl rfl rfl rfl ?_
  have hix : I32 (ixO at_ n c) := by unfold ixO; have := lb_le at_ c n; split <;> omega
  refine aw_blk (pc' := 18) (ls' := [some (vr 0 0), some (vi e), some (vi c), some (vi d), some (vr 9 k), some (vi (ixO at_ n c))]) (st' := [vi (-1), vi (ixO at_ n c)]) [.inl (.istore 5), .inl (.iload 5), .inl (.iconst (-1))] 13 _ _ (by decide +kernel) rfl ?_
  refine aw_icmp_ne (o := 7) (tgt := 25) (by decide +kernel) (by decide) (by omega) (by omega) (fun c18 => ?_) (fun c18 => ?_)
  · obtain ⟨D, hD, eD, vD⟩ := ixO_yes c18
    have hai := A.2.2.1 D hD
    rw [eD]
    refine aw_blk (pc' := 27) (ls' := [some (vr 0 0), some (vi e), some (vi c), some (vi d), some (vr 9 k), some (vi (D : Int))]) (st' := [vr 9 k]) [.inl (.aload 4)] 25 _ _ (by decide +kernel) rfl ?_
    refine aw_get (idx := 127) (ci := 9) (f := 1) (by decide +kernel) (by decide +kernel) hA.1 rfl ?_
    refine aw_blk (pc' := 32) (ls' := [some (vr 0 0), some (vi e), some (vi c), some (vi d), some (vr 9 k), some (vi (D : Int))]) (st' := [vi (D : Int), vr 9 k2]) [.inl (.iload 5)] 30 _ _ (by decide +kernel) rfl ?_
    refine aw_iald (j := D) (by decide +kernel) hA.2.2 (by omega) (by omega) (fun r32 => ?_)
    refine aw_i2l (by decide +kernel) (by omega) ?_
    refine aw_blk (pc' := 36) (ls' := [some (vr 0 0), some (vi e), some (vi c), some (vi d), some (vr 9 k), some (vi (D : Int))]) (st' := [vr 9 k, vl (wt D)]) [.inl (.aload 4)] 34 _ _ (by decide +kernel) rfl ?_
    refine aw_get (idx := 130) (ci := 9) (f := 2) (by decide +kernel) (by decide +kernel) hA.1 rfl ?_
    refine aw_i2l (by decide +kernel) (by omega) ?_
    refine aw_blk (pc' := 41) (ls' := [some (vr 0 0), some (vi e), some (vi c), some (vi d), some (vr 9 k), some (vi (D : Int))]) (st' := [vi d, vl W, vl (wt D)]) [.inl (.iload_n 3)] 40 _ _ (by decide +kernel) rfl ?_
    exact aw_tS (idx := 152) (as := [vl (wt D), vl W, vi d]) (st := []) (m_B_part_t hi (by omega) (by omega)) (by decide +kernel) (show sOK "ChanceBench" 152 M_B_part 3 = true by decide +kernel) rfl (Nat.le_of_ble_eq_true rfl) (by decide) (by decide) (by decide) hq
  · refine aw_blk (pc' := 22) (ls' := [some (vr 0 0), some (vi e), some (vi c), some (vi d), some (vr 9 k), some (vi (ixO at_ n c))]) (st' := [vl 0]) [.inl (.lconst 0)] 21 _ _ (by decide +kernel) rfl ?_
    refine aw_goto (o := 12) (tgt := 34) (by decide +kernel) (by decide) ?_
    refine aw_blk (pc' := 36) (ls' := [some (vr 0 0), some (vi e), some (vi c), some (vi d), some (vr 9 k), some (vi (ixO at_ n c))]) (st' := [vr 9 k, vl 0]) [.inl (.aload 4)] 34 _ _ (by decide +kernel) rfl ?_
    refine aw_get (idx := 130) (ci := 9) (f := 2) (by decide +kernel) (by decide +kernel) hA.1 rfl ?_
    refine aw_i2l (by decide +kernel) (by omega) ?_
    refine aw_blk (pc' := 41) (ls' := [some (vr 0 0), some (vi e), some (vi c), some (vi d), some (vr 9 k), some (vi (ixO at_ n c))]) (st' := [vi d, vl W, vl 0]) [.inl (.iload_n 3)] 40 _ _ (by decide +kernel) rfl ?_
    exact aw_tS (idx := 152) (as := [vl 0, vl W, vi d]) (st := []) (m_B_part_t hi (by omega) (by omega)) (by decide +kernel) (show sOK "ChanceBench" 152 M_B_part 3 = true by decide +kernel) rfl (Nat.le_of_ble_eq_true rfl) (by decide) (by decide) (by decide) hq

theorem upW_cum (A : lwN n at_ wt W) : upW at_ wt c n = cum (den at_ wt n) c := by
  unfold cum
  rw [tr_ (F := fun u x => if u ≤ c then x else 0) (fun u _ => by split <;> rfl) A.2.1 (fun i hi => (A.2.2.1 i hi).1)]
  have : ∀ m, upW at_ wt c m = sumZ (fun i => if at_ i ≤ c then wt i else 0) m := fun m => by
    induction m with
    | zero => rfl
    | succ m ih => simp only [upW, sumZ]; rw [ih]
  exact this n
theorem lw_t1 (A : lwN n at_ wt W) : sumZ (fun i => at_ i * wt i) n = sT (fun u => u * den at_ wt n u) :=
  (tr_ (F := fun u x => u * x) (fun _ _ => by simp) A.2.1 (fun i hi => (A.2.2.1 i hi).1)).symm
theorem lw_t2 (A : lwN n at_ wt W) : sumZ (fun i => at_ i * at_ i * wt i) n = sT (fun u => u * u * den at_ wt n u) :=
  (tr_ (F := fun u x => u * u * x) (fun _ _ => by simp) A.2.1 (fun i hi => (A.2.2.1 i hi).1)).symm
theorem lw_b1 (A : lwN n at_ wt W) : -(1000 * W) ≤ sT (fun u => u * den at_ wt n u) ∧ sT (fun u => u * den at_ wt n u) ≤ 1000 * W := by
  rw [← lw_t1 A]
  exact lw_sum A (fun i hi => by
    have h := A.2.2.1 i hi
    exact mul_in (x := 1000) (y := wt i) h.1 (by omega) (by omega) (by omega))
theorem lw_b2 (A : lwN n at_ wt W) : -(1000000 * W) ≤ sT (fun u => u * u * den at_ wt n u) ∧ sT (fun u => u * u * den at_ wt n u) ≤ 1000000 * W := by
  rw [← lw_t2 A]
  exact lw_sum A (fun i hi => by
    have h := A.2.2.1 i hi
    exact mul_in (x := 1000000) (y := wt i) (mul_in (x := 1000) (y := 1000) h.1 h.1 (by omega) (by omega)) (by omega) (by omega) (by omega))
theorem m_B_below (hI : I32 e) (hc : I32 c) (hd1 : d = 0 ∨ d = 1) (hl1 : lawAt laws e = some (9, k)) (hA : isD dy k k1 k2 n at_ wt W) (A : lwN n at_ wt W) : ADet G M_B_below [vr 0 0, vi e, vi c, vi d] (Hp (sgB bd tk) (sgS laws slot ahead made (od : Int) (dn : Int) (un : Int)) t (sgK (nn : Int) rr ff gg) df jo tr di mo dy) (some (vl (prt (cum (den at_ wt n) c) W d))) (Hp (sgB bd tk) (sgS laws slot ahead made (od : Int) (dn : Int) (un : Int)) t (sgK (nn : Int) rr ff gg) df jo tr di mo dy) := by
  refine am_det (by decide +kernel) (Nat.le_of_ble_eq_true rfl) (fun Qr Qt hq => ?_)
  have hW := A.2.2.2.1
  have hW1 := A.2.2.2.2.1
  have hcm := lw_cum A c
  refine aw_blk (pc' := 2) (ls' := [some (vr 0 0), some (vi e), some (vi c), some (vi d), none]) (st' := [vi e, vr 0 0]) [.inl (.aload_n 0), .inl (.iload_n 1)] 0 _ _ (by decide +kernel) rfl ?_
  refine aw_dV (cs' := 1) (sl' := 6) (pc' := 5) (st' := [vr 9 k]) (idx := 143) (as := [vi e]) (st := []) (m_B_lawOf hI hl1) (by decide +kernel) (show vOK "ChanceBench" 143 M_B_lawOf 1 = true by decide +kernel) rfl rfl rfl (Nat.le_of_ble_eq_true rfl) (by decide) (by decide) (by decide) rfl rfl rfl rfl ?_
  refine aw_blk (pc' := 10) (ls' := [some (vr 0 0), some (vi e), some (vi c), some (vi d), some (vr 9 k)]) (st' := [vi c, vr 9 k]) [.inl (.astore 4), .inl (.aload 4), .inl (.iload_n 2)] 5 _ _ (by decide +kernel) rfl ?_
  refine aw_dV (cs' := 1) (sl' := 6) (pc' := 13) (st' := [vl (upW at_ wt c n)]) (idx := 156) (as := [vi c]) (st := []) (m_L_weightUpTo hA.L hc A.2.1) (by decide +kernel) (show vOK "ChanceBench" 156 M_L_weightUpTo 1 = true by decide +kernel) hA.1 rfl rfl (Nat.le_of_ble_eq_true rfl) (by decide) (by decide) (by decide) rfl rfl rfl rfl ?_
  rw [upW_cum A]
  refine aw_blk (pc' := 15) (ls' := [some (vr 0 0), some (vi e), some (vi c), some (vi d), some (vr 9 k)]) (st' := [vr 9 k, vl (cum (den at_ wt n) c)]) [.inl (.aload 4)] 13 _ _ (by decide +kernel) rfl ?_
  refine aw_get (idx := 130) (ci := 9) (f := 2) (by decide +kernel) (by decide +kernel) hA.1 rfl ?_
  refine aw_i2l (by decide +kernel) (by omega) ?_
  refine aw_blk (pc' := 20) (ls' := [some (vr 0 0), some (vi e), some (vi c), some (vi d), some (vr 9 k)]) (st' := [vi d, vl W, vl (cum (den at_ wt n) c)]) [.inl (.iload_n 3)] 19 _ _ (by decide +kernel) rfl ?_
  refine aw_dS (cs' := 2) (sl' := 12) (pc' := 23) (st' := [vl (prt (cum (den at_ wt n) c) W d)]) (idx := 152) (as := [vl (cum (den at_ wt n) c), vl W, vi d]) (st := []) (m_B_part (by constructor <;> omega) (by constructor <;> omega) hd1) (by decide +kernel) (show sOK "ChanceBench" 152 M_B_part 3 = true by decide +kernel) rfl (Nat.le_of_ble_eq_true rfl) (by decide) (by decide) (by decide) rfl rfl rfl rfl ?_
  exact aw_lret (by decide +kernel) rfl (by decide) (by decide) (hq _ _ rfl rfl)

theorem m_B_below_t2 (hI : I32 e) (hc : I32 c) (hi : I32 d) (hd1 : ¬ (d = 0 ∨ d = 1)) (hl1 : lawAt laws e = some (9, k)) (hA : isD dy k k1 k2 n at_ wt W) (A : lwN n at_ wt W) : AThr G M_B_below [vr 0 0, vi e, vi c, vi d] (Hp (sgB bd tk) (sgS laws slot ahead made (od : Int) (dn : Int) (un : Int)) t (sgK (nn : Int) rr ff gg) df jo tr di mo dy) := by
  refine am_thr (by decide +kernel) (Nat.le_of_ble_eq_true rfl) (fun Qr Qt hq => ?_)
  have hW := A.2.2.2.1
  have hW1 := A.2.2.2.2.1
  have hcm := lw_cum A c
  refine aw_blk (pc' := 2) (ls' := [some (vr 0 0), some (vi e), some (vi c), some (vi d), none]) (st' := [vi e, vr 0 0]) [.inl (.aload_n 0), .inl (.iload_n 1)] 0 _ _ (by decide +kernel) rfl ?_
  refine aw_dV (cs' := 1) (sl' := 6) (pc' := 5) (st' := [vr 9 k]) (idx := 143) (as := [vi e]) (st := []) (m_B_lawOf hI hl1) (by decide +kernel) (show vOK "ChanceBench" 143 M_B_lawOf 1 = true by decide +kernel) rfl rfl rfl (Nat.le_of_ble_eq_true rfl) (by decide) (by decide) (by decide) rfl rfl rfl rfl ?_
  refine aw_blk (pc' := 10) (ls' := [some (vr 0 0), some (vi e), some (vi c), some (vi d), some (vr 9 k)]) (st' := [vi c, vr 9 k]) [.inl (.astore 4), .inl (.aload 4), .inl (.iload_n 2)] 5 _ _ (by decide +kernel) rfl ?_
  refine aw_dV (cs' := 1) (sl' := 6) (pc' := 13) (st' := [vl (upW at_ wt c n)]) (idx := 156) (as := [vi c]) (st := []) (m_L_weightUpTo hA.L hc A.2.1) (by decide +kernel) (show vOK "ChanceBench" 156 M_L_weightUpTo 1 = true by decide +kernel) hA.1 rfl rfl (Nat.le_of_ble_eq_true rfl) (by decide) (by decide) (by decide) rfl rfl rfl rfl ?_
  rw [upW_cum A]
  refine aw_blk (pc' := 15) (ls' := [some (vr 0 0), some (vi e), some (vi c), some (vi d), some (vr 9 k)]) (st' := [vr 9 k, vl (cum (den at_ wt n) c)]) [.inl (.aload 4)] 13 _ _ (by decide +kernel) rfl ?_
  refine aw_get (idx := 130) (ci := 9) (f := 2) (by decide +kernel) (by decide +kernel) hA.1 rfl ?_
  refine aw_i2l (by decide +kernel) (by omega) ?_
  refine aw_blk (pc' := 20) (ls' := [some (vr 0 0), some (vi e), some (vi c), some (vi d), some (vr 9 k)]) (st' := [vi d, vl W, vl (cum (den at_ wt n) c)]) [.inl (.iload_n 3)] 19 _ _ (by decide +kernel) rfl ?_
  exact aw_tS (idx := 152) (as := [vl (cum (den at_ wt n) c), vl W, vi d]) (st := []) (m_B_part_t hi (by omega) (by omega)) (by decide +kernel) (show sOK "ChanceBench" 152 M_B_part 3 = true by decide +kernel) rfl (Nat.le_of_ble_eq_true rfl) (by decide) (by decide) (by decide) hq

theorem m_B_mean (hI : I32 e) (hd1 : d = 0 ∨ d = 1) (hl1 : lawAt laws e = some (9, k)) (hA : isD dy k k1 k2 n at_ wt W) (A : lwN n at_ wt W) : ADet G M_B_mean [vr 0 0, vi e, vi d] (Hp (sgB bd tk) (sgS laws slot ahead made (od : Int) (dn : Int) (un : Int)) t (sgK (nn : Int) rr ff gg) df jo tr di mo dy) (some (vl (prt (sT (fun u => u * den at_ wt n u)) W d))) (Hp (sgB bd tk) (sgS laws slot ahead made (od : Int) (dn : Int) (un : Int)) t (sgK (nn : Int) rr ff gg) df jo tr di mo dy) := by
  refine am_det (by decide +kernel) (Nat.le_of_ble_eq_true rfl) (fun Qr Qt hq => ?_)
  have hW := A.2.2.2.1
  have hW1 := A.2.2.2.2.1
  have hb1 := lw_b1 A
  refine aw_blk (pc' := 2) (ls' := [some (vr 0 0), some (vi e), some (vi d), none]) (st' := [vi e, vr 0 0]) [.inl (.aload_n 0), .inl (.iload_n 1)] 0 _ _ (by decide +kernel) rfl ?_
  refine aw_dV (cs' := 1) (sl' := 6) (pc' := 5) (st' := [vr 9 k]) (idx := 143) (as := [vi e]) (st := []) (m_B_lawOf hI hl1) (by decide +kernel) (show vOK "ChanceBench" 143 M_B_lawOf 1 = true by decide +kernel) rfl rfl rfl (Nat.le_of_ble_eq_true rfl) (by decide) (by decide) (by decide) rfl rfl rfl rfl ?_
  refine aw_blk (pc' := 7) (ls' := [some (vr 0 0), some (vi e), some (vi d), some (vr 9 k)]) (st' := [vr 9 k]) [.inl (.astore_n 3), .inl (.aload_n 3)] 5 _ _ (by decide +kernel) rfl ?_
  refine aw_dV (cs' := 1) (sl' := 6) (pc' := 10) (st' := [vl (sumZ (fun i => at_ i * wt i) n)]) (idx := 160) (as := []) (st := []) (m_L_total hA.L) (by decide +kernel) (show vOK "ChanceBench" 160 M_L_total 0 = true by decide +kernel) hA.1 rfl rfl (Nat.le_of_ble_eq_true rfl) (by decide) (by decide) (by decide) rfl rfl rfl rfl ?_
  rw [lw_t1 A]
  refine aw_blk (pc' := 11) (ls' := [some (vr 0 0), some (vi e), some (vi d), some (vr 9 k)]) (st' := [vr 9 k, vl (sT (fun u => u * den at_ wt n u))]) [.inl (.aload_n 3)] 10 _ _ (by decide +kernel) rfl ?_
  refine aw_get (idx := 130) (ci := 9) (f := 2) (by decide +kernel) (by decide +kernel) hA.1 rfl ?_
  refine aw_i2l (by decide +kernel) (by omega) ?_
  refine aw_blk (pc' := 16) (ls' := [some (vr 0 0), some (vi e), some (vi d), some (vr 9 k)]) (st' := [vi d, vl W, vl (sT (fun u => u * den at_ wt n u))]) [.inl (.iload_n 2)] 15 _ _ (by decide +kernel) rfl ?_
  refine aw_dS (cs' := 2) (sl' := 12) (pc' := 19) (st' := [vl (prt (sT (fun u => u * den at_ wt n u)) W d)]) (idx := 152) (as := [vl (sT (fun u => u * den at_ wt n u)), vl W, vi d]) (st := []) (m_B_part (by constructor <;> omega) (by constructor <;> omega) hd1) (by decide +kernel) (show sOK "ChanceBench" 152 M_B_part 3 = true by decide +kernel) rfl (Nat.le_of_ble_eq_true rfl) (by decide) (by decide) (by decide) rfl rfl rfl rfl ?_
  exact aw_lret (by decide +kernel) rfl (by decide) (by decide) (hq _ _ rfl rfl)

theorem m_B_variance (hI : I32 e) (hd1 : d = 0 ∨ d = 1) (hl1 : lawAt laws e = some (9, k)) (hA : isD dy k k1 k2 n at_ wt W) (A : lwN n at_ wt W) : ADet G M_B_variance [vr 0 0, vi e, vi d] (Hp (sgB bd tk) (sgS laws slot ahead made (od : Int) (dn : Int) (un : Int)) t (sgK (nn : Int) rr ff gg) df jo tr di mo dy) (some (vl (prt (W * sT (fun u => u * u * den at_ wt n u) - sT (fun u => u * den at_ wt n u) * sT (fun u => u * den at_ wt n u)) (W * W) d))) (Hp (sgB bd tk) (sgS laws slot ahead made (od : Int) (dn : Int) (un : Int)) t (sgK (nn : Int) rr ff gg) df jo tr di mo dy) := by
  refine am_det (by decide +kernel) (Nat.le_of_ble_eq_true rfl) (fun Qr Qt hq => ?_)
  have hW := A.2.2.2.1
  have hW1 := A.2.2.2.2.1
  have hb1 := lw_b1 A
  have hb2 := lw_b2 A
  refine aw_blk (pc' := 2) (ls' := [some (vr 0 0), some (vi e), some (vi d), none, none, none, none, none]) (st' := [vi e, vr 0 0]) [.inl (.aload_n 0), .inl (.iload_n 1)] 0 _ _ (by decide +kernel) rfl ?_
  refine aw_dV (cs' := 1) (sl' := 6) (pc' := 5) (st' := [vr 9 k]) (idx := 143) (as := [vi e]) (st := []) (m_B_lawOf hI hl1) (by decide +kernel) (show vOK "ChanceBench" 143 M_B_lawOf 1 = true by decide +kernel) rfl rfl rfl (Nat.le_of_ble_eq_true rfl) (by decide) (by decide) (by decide) rfl rfl rfl rfl ?_
  refine aw_blk (pc' := 7) (ls' := [some (vr 0 0), some (vi e), some (vi d), some (vr 9 k), none, none, none, none]) (st' := [vr 9 k]) [.inl (.astore_n 3), .inl (.aload_n 3)] 5 _ _ (by decide +kernel) rfl ?_
  refine aw_dV (cs' := 1) (sl' := 6) (pc' := 10) (st' := [vl (sumZ (fun i => at_ i * wt i) n)]) (idx := 160) (as := []) (st := []) (m_L_total hA.L) (by decide +kernel) (show vOK "ChanceBench" 160 M_L_total 0 = true by decide +kernel) hA.1 rfl rfl (Nat.le_of_ble_eq_true rfl) (by decide) (by decide) (by decide) rfl rfl rfl rfl ?_
  rw [lw_t1 A]
  refine aw_blk (pc' := 13) (ls' := [some (vr 0 0), some (vi e), some (vi d), some (vr 9 k), some (vl (sT (fun u => u * den at_ wt n u))), none, none, none]) (st' := [vr 9 k]) [.inl (.lstore 4), .inl (.aload_n 3)] 10 _ _ (by decide +kernel) rfl ?_
  refine aw_get (idx := 130) (ci := 9) (f := 2) (by decide +kernel) (by decide +kernel) hA.1 rfl ?_
  refine aw_i2l (by decide +kernel) (by omega) ?_
  refine aw_blk (pc' := 22) (ls' := [some (vr 0 0), some (vi e), some (vi d), some (vr 9 k), some (vl (sT (fun u => u * den at_ wt n u))), none, some (vl W), none]) (st' := [vr 9 k, vl W]) [.inl (.lstore 6), .inl (.lload 6), .inl (.aload_n 3)] 17 _ _ (by decide +kernel) rfl ?_
  refine aw_dV (cs' := 1) (sl' := 6) (pc' := 25) (st' := [vl (sumZ (fun i => at_ i * at_ i * wt i) n), vl W]) (idx := 164) (as := []) (st := [vl W]) (m_L_totalOfSquares hA.L) (by decide +kernel) (show vOK "ChanceBench" 164 M_L_totalOfSquares 0 = true by decide +kernel) hA.1 rfl rfl (Nat.le_of_ble_eq_true rfl) (by decide) (by decide) (by decide) rfl rfl rfl rfl ?_
  rw [lw_t2 A]
  have q1 := mul_in (x := 1048576) (y := 1048576000000) (u := W) (v := sT (fun u => u * u * den at_ wt n u)) (by omega) (by omega) (by omega) (by omega)
  have q2 := mul_in (x := 1048576000) (y := 1048576000) (u := sT (fun u => u * den at_ wt n u)) (v := sT (fun u => u * den at_ wt n u)) (by omega) (by omega) (by omega) (by omega)
  have q3 := mulB (x := W) (y := W) (by omega) hW1 (by omega) hW1
  refine aw_blk (pc' := 38) (ls' := [some (vr 0 0), some (vi e), some (vi d), some (vr 9 k), some (vl (sT (fun u => u * den at_ wt n u))), none, some (vl W), none]) (st' := [vi d, vl (W * W), vl ((W * (sT (fun u => u * u * den at_ wt n u))) - ((sT (fun u => u * den at_ wt n u)) * (sT (fun u => u * den at_ wt n u))))]) [.inl (.lmul), .inl (.lload 4), .inl (.lload 4), .inl (.lmul), .inl (.lsub), .inl (.lload 6), .inl (.lload 6), .inl (.lmul), .inl (.iload_n 2)] 25 _ _ (by decide +kernel) rfl ?_
  refine aw_dS (cs' := 2) (sl' := 12) (pc' := 41) (st' := [vl (prt (W * sT (fun u => u * u * den at_ wt n u) - sT (fun u => u * den at_ wt n u) * sT (fun u => u * den at_ wt n u)) (W * W) d)]) (idx := 152) (as := [vl ((W * (sT (fun u => u * u * den at_ wt n u))) - ((sT (fun u => u * den at_ wt n u)) * (sT (fun u => u * den at_ wt n u)))), vl (W * W), vi d]) (st := []) (m_B_part (by constructor <;> omega) (by constructor <;> omega) hd1) (by decide +kernel) (show sOK "ChanceBench" 152 M_B_part 3 = true by decide +kernel) rfl (Nat.le_of_ble_eq_true rfl) (by decide) (by decide) (by decide) rfl rfl rfl rfl ?_
  exact aw_lret (by decide +kernel) rfl (by decide) (by decide) (hq _ _ rfl rfl)

theorem m_B_mean_t2 (hI : I32 e) (hi : I32 d) (hd1 : ¬ (d = 0 ∨ d = 1)) (hl1 : lawAt laws e = some (9, k)) (hA : isD dy k k1 k2 n at_ wt W) (A : lwN n at_ wt W) : AThr G M_B_mean [vr 0 0, vi e, vi d] (Hp (sgB bd tk) (sgS laws slot ahead made (od : Int) (dn : Int) (un : Int)) t (sgK (nn : Int) rr ff gg) df jo tr di mo dy) := by
  refine am_thr (by decide +kernel) (Nat.le_of_ble_eq_true rfl) (fun Qr Qt hq => ?_)
  have hW := A.2.2.2.1
  have hW1 := A.2.2.2.2.1
  have hb1 := lw_b1 A
  refine aw_blk (pc' := 2) (ls' := [some (vr 0 0), some (vi e), some (vi d), none]) (st' := [vi e, vr 0 0]) [.inl (.aload_n 0), .inl (.iload_n 1)] 0 _ _ (by decide +kernel) rfl ?_
  refine aw_dV (cs' := 1) (sl' := 6) (pc' := 5) (st' := [vr 9 k]) (idx := 143) (as := [vi e]) (st := []) (m_B_lawOf hI hl1) (by decide +kernel) (show vOK "ChanceBench" 143 M_B_lawOf 1 = true by decide +kernel) rfl rfl rfl (Nat.le_of_ble_eq_true rfl) (by decide) (by decide) (by decide) rfl rfl rfl rfl ?_
  refine aw_blk (pc' := 7) (ls' := [some (vr 0 0), some (vi e), some (vi d), some (vr 9 k)]) (st' := [vr 9 k]) [.inl (.astore_n 3), .inl (.aload_n 3)] 5 _ _ (by decide +kernel) rfl ?_
  refine aw_dV (cs' := 1) (sl' := 6) (pc' := 10) (st' := [vl (sumZ (fun i => at_ i * wt i) n)]) (idx := 160) (as := []) (st := []) (m_L_total hA.L) (by decide +kernel) (show vOK "ChanceBench" 160 M_L_total 0 = true by decide +kernel) hA.1 rfl rfl (Nat.le_of_ble_eq_true rfl) (by decide) (by decide) (by decide) rfl rfl rfl rfl ?_
  rw [lw_t1 A]
  refine aw_blk (pc' := 11) (ls' := [some (vr 0 0), some (vi e), some (vi d), some (vr 9 k)]) (st' := [vr 9 k, vl (sT (fun u => u * den at_ wt n u))]) [.inl (.aload_n 3)] 10 _ _ (by decide +kernel) rfl ?_
  refine aw_get (idx := 130) (ci := 9) (f := 2) (by decide +kernel) (by decide +kernel) hA.1 rfl ?_
  refine aw_i2l (by decide +kernel) (by omega) ?_
  refine aw_blk (pc' := 16) (ls' := [some (vr 0 0), some (vi e), some (vi d), some (vr 9 k)]) (st' := [vi d, vl W, vl (sT (fun u => u * den at_ wt n u))]) [.inl (.iload_n 2)] 15 _ _ (by decide +kernel) rfl ?_
  exact aw_tS (idx := 152) (as := [vl (sT (fun u => u * den at_ wt n u)), vl W, vi d]) (st := []) (m_B_part_t hi (by omega) (by omega)) (by decide +kernel) (show sOK "ChanceBench" 152 M_B_part 3 = true by decide +kernel) rfl (Nat.le_of_ble_eq_true rfl) (by decide) (by decide) (by decide) hq

theorem m_B_variance_t2 (hI : I32 e) (hi : I32 d) (hd1 : ¬ (d = 0 ∨ d = 1)) (hl1 : lawAt laws e = some (9, k)) (hA : isD dy k k1 k2 n at_ wt W) (A : lwN n at_ wt W) : AThr G M_B_variance [vr 0 0, vi e, vi d] (Hp (sgB bd tk) (sgS laws slot ahead made (od : Int) (dn : Int) (un : Int)) t (sgK (nn : Int) rr ff gg) df jo tr di mo dy) := by
  refine am_thr (by decide +kernel) (Nat.le_of_ble_eq_true rfl) (fun Qr Qt hq => ?_)
  have hW := A.2.2.2.1
  have hW1 := A.2.2.2.2.1
  have hb1 := lw_b1 A
  have hb2 := lw_b2 A
  refine aw_blk (pc' := 2) (ls' := [some (vr 0 0), some (vi e), some (vi d), none, none, none, none, none]) (st' := [vi e, vr 0 0]) [.inl (.aload_n 0), .inl (.iload_n 1)] 0 _ _ (by decide +kernel) rfl ?_
  refine aw_dV (cs' := 1) (sl' := 6) (pc' := 5) (st' := [vr 9 k]) (idx := 143) (as := [vi e]) (st := []) (m_B_lawOf hI hl1) (by decide +kernel) (show vOK "ChanceBench" 143 M_B_lawOf 1 = true by decide +kernel) rfl rfl rfl (Nat.le_of_ble_eq_true rfl) (by decide) (by decide) (by decide) rfl rfl rfl rfl ?_
  refine aw_blk (pc' := 7) (ls' := [some (vr 0 0), some (vi e), some (vi d), some (vr 9 k), none, none, none, none]) (st' := [vr 9 k]) [.inl (.astore_n 3), .inl (.aload_n 3)] 5 _ _ (by decide +kernel) rfl ?_
  refine aw_dV (cs' := 1) (sl' := 6) (pc' := 10) (st' := [vl (sumZ (fun i => at_ i * wt i) n)]) (idx := 160) (as := []) (st := []) (m_L_total hA.L) (by decide +kernel) (show vOK "ChanceBench" 160 M_L_total 0 = true by decide +kernel) hA.1 rfl rfl (Nat.le_of_ble_eq_true rfl) (by decide) (by decide) (by decide) rfl rfl rfl rfl ?_
  rw [lw_t1 A]
  refine aw_blk (pc' := 13) (ls' := [some (vr 0 0), some (vi e), some (vi d), some (vr 9 k), some (vl (sT (fun u => u * den at_ wt n u))), none, none, none]) (st' := [vr 9 k]) [.inl (.lstore 4), .inl (.aload_n 3)] 10 _ _ (by decide +kernel) rfl ?_
  refine aw_get (idx := 130) (ci := 9) (f := 2) (by decide +kernel) (by decide +kernel) hA.1 rfl ?_
  refine aw_i2l (by decide +kernel) (by omega) ?_
  refine aw_blk (pc' := 22) (ls' := [some (vr 0 0), some (vi e), some (vi d), some (vr 9 k), some (vl (sT (fun u => u * den at_ wt n u))), none, some (vl W), none]) (st' := [vr 9 k, vl W]) [.inl (.lstore 6), .inl (.lload 6), .inl (.aload_n 3)] 17 _ _ (by decide +kernel) rfl ?_
  refine aw_dV (cs' := 1) (sl' := 6) (pc' := 25) (st' := [vl (sumZ (fun i => at_ i * at_ i * wt i) n), vl W]) (idx := 164) (as := []) (st := [vl W]) (m_L_totalOfSquares hA.L) (by decide +kernel) (show vOK "ChanceBench" 164 M_L_totalOfSquares 0 = true by decide +kernel) hA.1 rfl rfl (Nat.le_of_ble_eq_true rfl) (by decide) (by decide) (by decide) rfl rfl rfl rfl ?_
  rw [lw_t2 A]
  have q1 := mul_in (x := 1048576) (y := 1048576000000) (u := W) (v := sT (fun u => u * u * den at_ wt n u)) (by omega) (by omega) (by omega) (by omega)
  have q2 := mul_in (x := 1048576000) (y := 1048576000) (u := sT (fun u => u * den at_ wt n u)) (v := sT (fun u => u * den at_ wt n u)) (by omega) (by omega) (by omega) (by omega)
  have q3 := mulB (x := W) (y := W) (by omega) hW1 (by omega) hW1
  refine aw_blk (pc' := 38) (ls' := [some (vr 0 0), some (vi e), some (vi d), some (vr 9 k), some (vl (sT (fun u => u * den at_ wt n u))), none, some (vl W), none]) (st' := [vi d, vl (W * W), vl ((W * (sT (fun u => u * u * den at_ wt n u))) - ((sT (fun u => u * den at_ wt n u)) * (sT (fun u => u * den at_ wt n u))))]) [.inl (.lmul), .inl (.lload 4), .inl (.lload 4), .inl (.lmul), .inl (.lsub), .inl (.lload 6), .inl (.lload 6), .inl (.lmul), .inl (.iload_n 2)] 25 _ _ (by decide +kernel) rfl ?_
  exact aw_tS (idx := 152) (as := [vl ((W * (sT (fun u => u * u * den at_ wt n u))) - ((sT (fun u => u * den at_ wt n u)) * (sT (fun u => u * den at_ wt n u)))), vl (W * W), vi d]) (st := []) (m_B_part_t hi (by omega) (by omega)) (by decide +kernel) (show sOK "ChanceBench" 152 M_B_part 3 = true by decide +kernel) rfl (Nat.le_of_ble_eq_true rfl) (by decide) (by decide) (by decide) hq

end
