/-! sums over a table up to a value -/
def cum (T : Int → Int) (t : Int) : Int := sT (fun u => if u ≤ t then T u else 0)
section
variable {T F H : Int → Int} {t v c : Int} {D B : Nat → Int} {L p k : Nat}
theorem sT_one (hv : inR v) (h : ∀ u, inR u → u ≠ v → F u = H u) : sT F = sT H + (F v - H v) := by
  have key := sumZ_one (F := fun k : Nat => F ((k : Int) - 1000)) (G := fun k : Nat => H ((k : Int) - 1000)) (p := (v + 1000).toNat) (N := 2001) (by omega) (fun k hk hp => h _ ⟨by omega, by omega⟩ (by omega))
  have ep : (((v + 1000).toNat : Int) - 1000) = v := by omega
  simp only [ep] at key
  exact key
theorem sT_0 : sT (fun _ => 0) = 0 := by unfold sT; exact sumZ_0 _
theorem sT_add : sT (fun u => F u + H u) = sT F + sT H := by unfold sT; exact sumZ_add _
theorem sT_sub : sT (fun u => F u - H u) = sT F - sT H := by unfold sT; exact sumZ_sub _
theorem sT_mul : sT (fun u => c * F u) = c * sT F := by unfold sT; exact sumZ_mul _
theorem sT_mono (h : ∀ u, inR u → F u ≤ H u) : sT F ≤ sT H := by unfold sT; exact sumZ_mono (fun i hi => h _ ⟨by omega, by omega⟩)
theorem cum_lo (h : t < -1000) : cum T t = 0 := by
  unfold cum
  rw [sT_ext (H := fun _ => 0) (fun u hu => by rw [if_neg (by omega)]), sT_0]
theorem cum_hi (h : 1000 ≤ t) : cum T t = sT T := by
  unfold cum
  exact sT_ext (fun u hu => by rw [if_pos (by omega)])
theorem cum_s (h : inR t) : cum T t = cum T (t - 1) + T t := by
  unfold cum
  rw [sT_one (F := fun u => if u ≤ t then T u else 0) (H := fun u => if u ≤ t - 1 then T u else 0) h (fun u hu hne => by
    show (if u ≤ t then T u else 0) = if u ≤ t - 1 then T u else 0
    by_cases h1 : u ≤ t - 1
    · rw [if_pos h1, if_pos (by omega)]
    · rw [if_neg h1, if_neg (by omega)])]
  simp only [if_pos (Int.le_refl t), if_neg (show ¬ t ≤ t - 1 by omega)]
  omega
/-- along values where the terms are alike -/
theorem cum_c : ∀ (d : Nat) (t : Int), -1001 ≤ t → t + (d : Int) ≤ 1000 → (∀ u, t < u → u ≤ t + (d : Int) → F u = c) → cum F (t + (d : Int)) = cum F t + c * (d : Int)
  | 0, t, _, _, _ => by simp
  | d + 1, t, h1, h2, h => by
    have e : t + ((d + 1 : Nat) : Int) - 1 = t + (d : Int) := by omega
    rw [cum_s ⟨by omega, h2⟩, e, cum_c d t h1 (by omega) (fun u a b => h u a (by omega)), h _ (by omega) (Int.le_refl _)]
    rw [show ((d + 1 : Nat) : Int) = (d : Int) + 1 by omega, Int.mul_add]; omega
theorem cum_ext (h : ∀ u, inR u → F u = H u) : cum F t = cum H t := by
  unfold cum; exact sT_ext (fun u hu => by rw [h u hu])
theorem sumZ_cut {F G : Nat → Int} : ∀ {N : Nat}, p ≤ N → (∀ i, i < p → F i = G i) → (∀ i, p ≤ i → i < N → F i = 0) → sumZ F N = sumZ G p
  | 0, h, _, _ => by
    have : p = 0 := by omega
    subst this; rfl
  | N + 1, h, e, z => by
    rcases Nat.lt_or_ge p (N + 1) with q | q
    · simp only [sumZ]
      rw [sumZ_cut (N := N) (by omega) e (fun i a b => z i a (by omega)), z N (by omega) (by omega)]; omega
    · have : p = N + 1 := by omega
      subst this; exact sumZ_ext e
/-- the running sum of a row is its table's sum up to a value -/
theorem run_cum (hs : inc D L) (hr : ∀ i, i < L → inR (D i)) (hp : p ≤ L) (h1 : ∀ i, i < p → D i ≤ t) (h2 : ∀ i, p ≤ i → i < L → t < D i) : cum (den D B L) t = sumZ B p := by
  unfold cum
  rw [tr_ (F := fun u x => if u ≤ t then x else 0) (fun u _ => by split <;> rfl) hs hr]
  exact sumZ_cut hp (fun i hi => by show (if D i ≤ t then B i else 0) = _; rw [if_pos (h1 i hi)]) (fun i a b => by
    show (if D i ≤ t then B i else 0) = _
    rw [if_neg (by have := h2 i a b; omega)])
/-- the area between -/
theorem ar_cum (hs : inc D L) (hr : ∀ i, i < L → inR (D i)) (K : Int → Int) (h0 : K 0 = 0) (ar : Nat → Int) (a0 : ar 0 = 0) (as : ∀ k, ar (k + 1) = ar k + K (sumZ B (k + 1)) * (D (k + 1) - D k)) : ∀ k, k < L → cum (fun s => K (cum (den D B L) s)) (D k - 1) = ar k
  | 0, h => by
    have hD := hr 0 h
    have e := cum_c (F := fun s => K (cum (den D B L) s)) (c := 0) (D 0 - 1 + 1001).toNat (-1001) (by omega) (by omega) (fun u a b => by
      show K (cum (den D B L) u) = 0
      rw [run_cum (p := 0) hs hr (by omega) (fun i hi => by omega) (fun i _ hi => by
        rcases Nat.eq_zero_or_pos i with z | z
        · subst z; omega
        · have := hs 0 i z hi; omega)]
      exact h0)
    rw [show (-1001 : Int) + ((D 0 - 1 + 1001).toNat : Int) = D 0 - 1 by omega, cum_lo (t := -1001) (by omega)] at e
    rw [e, a0]; simp
  | k + 1, h => by
    have hD := hr k (by omega)
    have hD1 := hr (k + 1) h
    have hlt := hs k (k + 1) (by omega) h
    have ih := ar_cum hs hr K h0 ar a0 as k (by omega)
    have e := cum_c (F := fun s => K (cum (den D B L) s)) (c := K (sumZ B (k + 1))) (D (k + 1) - D k).toNat (D k - 1) (by omega) (by omega) (fun u a b => by
      show K (cum (den D B L) u) = _
      rw [run_cum (p := k + 1) hs hr (by omega) (fun i hi => by
        rcases Nat.lt_or_ge i k with z | z
        · have := hs i k z (by omega); omega
        · have : i = k := by omega
          subst this; omega) (fun i a' hi => by
        rcases Nat.lt_or_ge (k + 1) i with z | z
        · have := hs (k + 1) i z hi; omega
        · have : i = k + 1 := by omega
          subst this; omega)])
    rw [show D k - 1 + ((D (k + 1) - D k).toNat : Int) = D (k + 1) - 1 by omega] at e
    rw [e, ih, as k, show ((D (k + 1) - D k).toNat : Int) = D (k + 1) - D k by omega]
theorem cum_last (hs : inc D L) (hr : ∀ i, i < L → inR (D i)) (hL : 1 ≤ L) (h : D (L - 1) ≤ t) : cum (den D B L) t = sumZ B L :=
  run_cum hs hr (Nat.le_refl L) (fun i hi => by
    rcases Nat.lt_or_ge i (L - 1) with z | z
    · have := hs i (L - 1) z (by omega); omega
    · have : i = L - 1 := by omega
      subst this; exact h) (fun i a b => by omega)
theorem arF_T (hs : inc D L) (hr : ∀ i, i < L → inR (D i)) (hz : sumZ B L = 0) : arF D B (L - 1) = sT (fun s => ab (cum (den D B L) s)) := by
  rcases Nat.eq_zero_or_pos L with z | z
  · subst z
    rw [sT_ext (H := fun _ => 0) (fun u _ => by
      rw [run_cum (p := 0) hs hr (by omega) (fun i hi => by omega) (fun i _ hi => by omega)]; rfl), sT_0]; rfl
  · have e := ar_cum (B := B) hs hr ab rfl (arF D B) rfl (fun k => rfl) (L - 1) (by omega)
    have hD := hr (L - 1) (by omega)
    have e2 := cum_c (F := fun s => ab (cum (den D B L) s)) (c := 0) (1000 - (D (L - 1) - 1)).toNat (D (L - 1) - 1) (by omega) (by omega) (fun u a b => by
      show ab (cum (den D B L) u) = 0
      rw [cum_last hs hr z (by omega), hz]; rfl)
    rw [show D (L - 1) - 1 + ((1000 - (D (L - 1) - 1)).toNat : Int) = 1000 by omega, cum_hi (by omega), e] at e2
    rw [e2]; simp
/-! the least value with a property, or 5000 -/
def isF (P : Int → Prop) (v : Int) : Prop := (v = 5000 ∧ ∀ u, inR u → ¬ P u) ∨ (inR v ∧ P v ∧ ∀ u, inR u → u < v → ¬ P u)
theorem isF_eq {P : Int → Prop} {v w : Int} (h1 : isF P v) (h2 : isF P w) : v = w := by
  rcases h1 with ⟨a, b⟩ | ⟨a, b, c⟩ <;> rcases h2 with ⟨a', b'⟩ | ⟨a', b', c'⟩
  · omega
  · exact absurd b' (b w a')
  · exact absurd b (b' v a)
  · rcases Int.lt_trichotomy v w with z | z | z
    · exact absurd b (c' v a z)
    · exact z
    · exact absurd b' (c w a' z)
theorem isF_ext {P Q : Int → Prop} {v : Int} (h : ∀ u, inR u → (P u ↔ Q u)) (h1 : isF P v) : isF Q v := by
  rcases h1 with ⟨a, b⟩ | ⟨a, b, c⟩
  · exact Or.inl ⟨a, fun u hu z => b u hu ((h u hu).mpr z)⟩
  · exact Or.inr ⟨a, (h v a).mp b, fun u hu l z => c u hu l ((h u hu).mpr z)⟩
theorem run_at (hs : inc D L) (hr : ∀ i, i < L → inR (D i)) (hk : k < L) (h1 : D k ≤ t) (h2 : k + 1 < L → t < D (k + 1)) : cum (den D B L) t = sumZ B (k + 1) :=
  run_cum hs hr (by omega) (fun i hi => by
    rcases Nat.lt_or_ge i k with z | z
    · have := hs i k z hk; omega
    · have : i = k := by omega
      subst this; exact h1) (fun i a hi => by
    have h3 := h2 (by omega)
    rcases Nat.lt_or_ge (k + 1) i with z | z
    · have := hs (k + 1) i z hi; omega
    · have : i = k + 1 := by omega
      subst this; exact h3)
theorem run_0 (hs : inc D L) (hr : ∀ i, i < L → inR (D i)) (h2 : 0 < L → t < D 0) : cum (den D B L) t = 0 :=
  run_cum (p := 0) hs hr (by omega) (fun i hi => by omega) (fun i _ hi => by
    have h3 := h2 (by omega)
    rcases Nat.eq_zero_or_pos i with z | z
    · subst z; exact h3
    · have := hs 0 i z hi; omega)
/-- the value's place among a row's -/
theorem place_of (hs : inc D L) (t : Int) : (∀ i, i < L → t < D i) ∨ ∃ k, k < L ∧ D k ≤ t ∧ (k + 1 < L → t < D (k + 1)) := by
  rcases Nat.eq_zero_or_pos (lb D (t + 1) L) with z | z
  · refine Or.inl (fun i hi => ?_)
    have := lb_ge (f := D) (v := t + 1) (n := L) (i := i) (by omega) hi
    omega
  · have hl := lb_le D (t + 1) L
    refine Or.inr ⟨lb D (t + 1) L - 1, by omega, ?_, fun h => ?_⟩
    · have := lb_lt (f := D) (v := t + 1) (i := lb D (t + 1) L - 1) hs (by omega); omega
    · have := lb_ge (f := D) (v := t + 1) (n := L) (i := lb D (t + 1) L - 1 + 1) (by omega) h; omega
theorem lna_F (hs : inc D L) (hr : ∀ i, i < L → inR (D i)) (hz : sumZ B L = 0) : ∀ (d k : Nat), k + d = L → (∀ i, i < k → sumZ B (i + 1) ≤ 0) → isF (fun t => 0 < cum (den D B L) (t - 1)) (lna D B d k)
  | 0, k, e, h => Or.inl ⟨rfl, fun u _ z => by
      change 0 < cum (den D B L) (u - 1) at z
      rcases place_of hs (u - 1) with q | ⟨i, hi, h1, h2⟩
      · rw [run_0 hs hr (fun z => q 0 z)] at z; omega
      · rw [run_at hs hr hi h1 h2] at z
        have := h i (by omega); omega⟩
  | d + 1, k, e, h => by
    unfold lna
    split
    · rename_i hp
      have hk : k < L := by omega
      have hDk := hr k hk
      have hkL : k + 1 < L := by
        rcases Nat.lt_or_ge (k + 1) L with z | z
        · exact z
        · have : k + 1 = L := by omega
          rw [this, hz] at hp; omega
      have hlt := hs k (k + 1) (by omega) hkL
      have hD1 := hr (k + 1) hkL
      refine Or.inr ⟨by omega, ?_, fun u hu hl z => ?_⟩
      · show 0 < cum (den D B L) (D k + 1 - 1)
        rw [run_at (k := k) hs hr hk (by omega) (fun _ => by omega)]; exact hp
      · change 0 < cum (den D B L) (u - 1) at z
        rcases place_of hs (u - 1) with q | ⟨i, hi, h1, h2⟩
        · rw [run_0 hs hr (fun z => q 0 z)] at z; omega
        · rw [run_at hs hr hi h1 h2] at z
          have hik : i < k := by
            rcases Nat.lt_or_ge i k with y | y
            · exact y
            · rcases Nat.lt_or_ge k i with x | x
              · have := hs k i x hi; omega
              · have : i = k := by omega
                subst this; omega
          have := h i hik; omega
    · rename_i hp
      exact lna_F hs hr hz d (k + 1) (by omega) (fun i hi => by
        rcases Nat.lt_or_ge i k with z | z
        · exact h i z
        · have : i = k := by omega
          subst this; omega)
/-- how much more lies over t -/
def Ov (E : Int → Int) (t : Int) : Int := sT (fun v => if t < v then (v - t) * E v else 0)
theorem Ov_cum {E : Int → Int} (h0 : sT E = 0) (h1 : sT (fun u => E u * u) = 0) : ∀ (d : Nat), Ov E ((d : Int) - 1001) = cum (fun s => cum E s) ((d : Int) - 1002)
  | 0 => by
    rw [cum_lo (by omega)]
    unfold Ov
    rw [sT_ext (H := fun v => E v * v + 1001 * E v) (fun u hu => by rw [if_pos (by omega), Int.mul_comm, Int.mul_sub, Int.mul_comm 1001]; omega), sT_add, sT_mul, h0, h1]; rfl
  | d + 1 => by
    have ih := Ov_cum h0 h1 d
    have e : Ov E (((d + 1 : Nat) : Int) - 1001) = Ov E ((d : Int) - 1001) - (sT E - cum E ((d : Int) - 1001)) := by
      unfold Ov cum
      rw [← sT_sub, ← sT_sub]
      refine sT_ext (fun u hu => ?_)
      by_cases a : u ≤ (d : Int) - 1001
      · rw [if_neg (by omega), if_neg (by omega), if_pos a]; omega
      · rw [if_pos (show (d : Int) - 1001 < u by omega), if_neg a]
        by_cases b : ((d + 1 : Nat) : Int) - 1001 < u
        · rw [if_pos b, show u - (((d + 1 : Nat) : Int) - 1001) = (u - ((d : Int) - 1001)) - 1 by omega, Int.sub_mul]; omega
        · rw [if_neg b, show u - ((d : Int) - 1001) = 1 by omega]; omega
    rw [e, ih, h0, show ((d + 1 : Nat) : Int) - 1002 = (d : Int) - 1001 by omega]
    rcases Classical.em (inR ((d : Int) - 1001)) with z | z
    · rw [cum_s (T := fun s => cum E s) z, show (d : Int) - 1001 - 1 = (d : Int) - 1002 by omega]; omega
    · rcases Int.lt_or_le ((d : Int) - 1001) (-1000) with q | q
      · rw [cum_lo (t := (d : Int) - 1002) (by omega), cum_lo (T := fun s => cum E s) q, cum_lo q]; rfl
      · rw [cum_hi (T := fun s => cum E s) (t := (d : Int) - 1002) (by omega), cum_hi (T := fun s => cum E s) (t := (d : Int) - 1001) (by omega), cum_hi (by omega), h0]; omega
theorem ov_seg (hs : inc D L) (hr : ∀ i, i < L → inR (D i)) (hk : k < L) (h1 : D k ≤ t) (h2 : k + 1 < L → t ≤ D (k + 1)) (h3 : t ≤ 1000) : cum (fun s => cum (den D B L) s) (t - 1) = ovF D B k + sumZ B (k + 1) * (t - D k) := by
  have hD := hr k hk
  have e := ar_cum (B := B) hs hr (fun x => x) rfl (ovF D B) rfl (fun k => rfl) k hk
  have e2 := cum_c (F := fun s => cum (den D B L) s) (c := sumZ B (k + 1)) (t - D k).toNat (D k - 1) (by omega) (by omega) (fun u a b => by
    show cum (den D B L) u = _
    exact run_at hs hr hk (by omega) (fun z => by have := h2 z; omega))
  rw [show D k - 1 + ((t - D k).toNat : Int) = t - 1 by omega, e, show ((t - D k).toNat : Int) = t - D k by omega] at e2
  exact e2
theorem ov_0 (hs : inc D L) (hr : ∀ i, i < L → inR (D i)) (h0 : 0 < L → t ≤ D 0) (h3 : t ≤ 1000) : cum (fun s => cum (den D B L) s) (t - 1) = 0 := by
  rcases Int.lt_or_le (t - 1) (-1000) with z | z
  · exact cum_lo z
  · have e2 := cum_c (F := fun s => cum (den D B L) s) (c := 0) (t - 1 + 1001).toNat (-1001) (by omega) (by omega) (fun u a b => by
      show cum (den D B L) u = _
      exact run_0 hs hr (fun z => by have := h0 z; omega))
    rw [show (-1001 : Int) + ((t - 1 + 1001).toNat : Int) = t - 1 by omega, cum_lo (t := -1001) (by omega)] at e2
    rw [e2]; simp
theorem lms_F (hs : inc D L) (hr : ∀ i, i < L → inR (D i)) (hz : sumZ B L = 0) (hm : cum (fun s => cum (den D B L) s) 1000 = 0) : ∀ (d k : Nat), k + 1 + d = L → ovF D B k ≤ 0 → (∀ u, inR u → u ≤ D k → ¬ 0 < cum (fun s => cum (den D B L) s) (u - 1)) → isF (fun t => 0 < cum (fun s => cum (den D B L) s) (t - 1)) (lms D B d k)
  | 0, k, e, ho, h => Or.inl ⟨rfl, fun u hu z => by
      rcases Int.lt_or_le (D k) u with q | q
      · have hk : k < L := by omega
        have e1 := ov_seg (B := B) (t := u) hs hr hk (by omega) (fun z => by omega) (by omega)
        rw [show k + 1 = L by omega, hz] at e1
        have z' : 0 < cum (fun s => cum (den D B L) s) (u - 1) := z
        rw [e1] at z'; omega
      · exact h u hu q z⟩
  | d + 1, k, e, ho, h => by
    have hk : k < L := by omega
    have hDk := hr k hk
    have hD1 := hr (k + 1) (by omega)
    have hlt := hs k (k + 1) (by omega) (by omega)
    have seg : ∀ t, D k ≤ t → t ≤ D (k + 1) → cum (fun s => cum (den D B L) s) (t - 1) = ovF D B k + sumZ B (k + 1) * (t - D k) := fun t a b => ov_seg hs hr hk a (fun _ => b) (by omega)
    have q0 : 0 < sumZ B (k + 1) → 0 ≤ -(ovF D B k) / sumZ B (k + 1) ∧ sumZ B (k + 1) * (-(ovF D B k) / sumZ B (k + 1)) ≤ -(ovF D B k) ∧ -(ovF D B k) < sumZ B (k + 1) * (-(ovF D B k) / sumZ B (k + 1) + 1) := fun hp => by
      refine ⟨Int.ediv_nonneg (by omega) (by omega), Int.mul_ediv_self_le (by omega), ?_⟩
      have := Int.lt_mul_ediv_self_add (x := -(ovF D B k)) hp
      rw [Int.mul_add]; omega
    unfold lms
    rw [Int.tdiv_eq_ediv_of_nonneg (by omega)]
    split
    · rename_i hp
      obtain ⟨q1, q2, q3⟩ := q0 hp.1
      refine Or.inr ⟨by omega, ?_, fun u hu hl z => ?_⟩
      · show 0 < cum (fun s => cum (den D B L) s) (D k + (-(ovF D B k) / sumZ B (k + 1) + 1) - 1)
        rw [seg _ (by omega) (by omega), show D k + (-(ovF D B k) / sumZ B (k + 1) + 1) - D k = -(ovF D B k) / sumZ B (k + 1) + 1 by omega]; omega
      · rcases Int.lt_or_le (D k) u with q | q
        · have z' : 0 < cum (fun s => cum (den D B L) s) (u - 1) := z
          rw [seg u (by omega) (by omega)] at z'
          have := Int.mul_le_mul_of_nonneg_left (show u - D k ≤ -(ovF D B k) / sumZ B (k + 1) by omega) (show 0 ≤ sumZ B (k + 1) by omega)
          omega
        · exact h u hu q z
    · rename_i hp
      have all : ∀ t, D k ≤ t → t ≤ D (k + 1) → cum (fun s => cum (den D B L) s) (t - 1) ≤ 0 := fun t a b => by
        rw [seg t a b]
        rcases Int.lt_or_le 0 (sumZ B (k + 1)) with q | q
        · obtain ⟨q1, q2, q3⟩ := q0 q
          have : t - D k ≤ -(ovF D B k) / sumZ B (k + 1) := by
            rcases Int.lt_or_le (-(ovF D B k) / sumZ B (k + 1)) (t - D k) with y | y
            · exact absurd ⟨q, by omega⟩ hp
            · exact y
          have := Int.mul_le_mul_of_nonneg_left this (show 0 ≤ sumZ B (k + 1) by omega)
          omega
        · have := Int.mul_nonneg (show 0 ≤ -(sumZ B (k + 1)) by omega) (show 0 ≤ t - D k by omega)
          rw [Int.neg_mul] at this; omega
      refine lms_F hs hr hz hm d (k + 1) (by omega) ?_ (fun u hu hl z => ?_)
      · have := all (D (k + 1)) (by omega) (Int.le_refl _)
        rw [seg _ (by omega) (Int.le_refl _)] at this
        exact this
      · rcases Int.lt_or_le (D k) u with q | q
        · have := all u (by omega) hl
          have z' : 0 < cum (fun s => cum (den D B L) s) (u - 1) := z
          omega
        · exact h u hu q z
end
