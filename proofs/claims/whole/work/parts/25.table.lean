/-! tables: a law as its weight at each value of -1000 to 1000 -/
abbrev inR (u : Int) : Prop := -1000 ≤ u ∧ u ≤ 1000
def sT (F : Int → Int) : Int := sumZ (fun k => F ((k : Int) - 1000)) 2001
section
variable {f g : Nat → Int} {n p : Nat} {v c u D : Int} {F H : Int → Int} {T : Int → Int}
theorem sumZ_one {F G : Nat → Int} {p : Nat} : ∀ {N : Nat}, p < N → (∀ k, k < N → k ≠ p → F k = G k) → sumZ F N = sumZ G N + (F p - G p)
  | 0, h, _ => by omega
  | N + 1, h, e => by
    simp only [sumZ]
    rcases Nat.lt_or_ge p N with z | z
    · rw [sumZ_one z (fun k hk => e k (by omega)), e N (by omega) (by omega)]; omega
    · have hp : p = N := by omega
      subst hp
      rw [sumZ_ext (g := G) (fun k hk => e k (by omega) (by omega))]; omega
theorem sumZ_add : ∀ n : Nat, sumZ (fun i => f i + g i) n = sumZ f n + sumZ g n
  | 0 => rfl
  | n + 1 => by simp only [sumZ]; rw [sumZ_add n]; omega
theorem sumZ_sub : ∀ n : Nat, sumZ (fun i => f i - g i) n = sumZ f n - sumZ g n
  | 0 => rfl
  | n + 1 => by simp only [sumZ]; rw [sumZ_sub n]; omega
theorem sumZ_mul : ∀ n : Nat, sumZ (fun i => c * f i) n = c * sumZ f n
  | 0 => by simp [sumZ]
  | n + 1 => by simp only [sumZ]; rw [sumZ_mul n, Int.mul_add]
theorem sumZ_0 : ∀ n : Nat, sumZ (fun _ => 0) n = 0
  | 0 => rfl
  | n + 1 => by simp only [sumZ]; rw [sumZ_0 n]; rfl
theorem sumZ_mono {f g : Nat → Int} : ∀ {n : Nat}, (∀ i, i < n → f i ≤ g i) → sumZ f n ≤ sumZ g n
  | 0, _ => Int.le_refl _
  | n + 1, h => by simp only [sumZ]; have := sumZ_mono (n := n) (fun i hi => h i (by omega)); have := h n (by omega); omega
theorem sT_ext (h : ∀ u, inR u → F u = H u) : sT F = sT H := sumZ_ext (fun i hi => h _ ⟨by omega, by omega⟩)
/-- a sum over the table is one over the law -/
theorem tr_ {F : Int → Int → Int} (h0 : ∀ u, inR u → F u 0 = 0) : ∀ {n : Nat}, inc f n → (∀ i, i < n → inR (f i)) → sT (fun u => F u (den f g n u)) = sumZ (fun i => F (f i) (g i)) n
  | 0, _, _ => by
    have : sT (fun u => F u (den f g 0 u)) = sT (fun _ => 0) := sT_ext (fun u hu => h0 u hu)
    rw [this]; unfold sT; exact sumZ_0 _
  | n + 1, hs, hr => by
    have hn := hr n (by omega)
    have e0 : den f g n (f n) = 0 := den_0 (fun k hk => by have := hs k n hk (by omega); omega)
    have ih := tr_ (F := F) h0 (n := n) (fun i j a b => hs i j a (by omega)) (fun i hi => hr i (by omega))
    have key := sumZ_one (F := fun k : Nat => F ((k : Int) - 1000) (den f g (n + 1) ((k : Int) - 1000))) (G := fun k : Nat => F ((k : Int) - 1000) (den f g n ((k : Int) - 1000))) (p := (f n + 1000).toNat) (N := 2001) (by omega) (fun k hk hp => by
      show F _ (den f g (n + 1) _) = F _ (den f g n _)
      rw [den_s, if_neg (by omega), Int.add_zero])
    have ep : (((f n + 1000).toNat : Int) - 1000) = f n := by omega
    simp only [ep] at key
    rw [den_s, e0, if_pos rfl, Int.zero_add, h0 _ hn] at key
    simp only [sumZ]
    rw [← ih]
    simp only [sT]
    rw [key]; omega
def cnt (T : Int → Int) : Int := sT (fun u => if 0 < T u then 1 else 0)
def gtn (T : Int → Int) : Nat → Nat
  | 0 => 0
  | k + 1 => Nat.gcd (T ((k : Int) - 1000)).natAbs (gtn T k)
abbrev gT (T : Int → Int) : Int := ((gtn T 2001 : Nat) : Int)
def allT (T : Int → Int) : Int := sT (fun u => Int.tdiv (T u) (gT T))
/-- what the maker has gathered becomes a law -/
def acc (T : Int → Int) (by_ : Prop) : Prop := ¬ by_ ∧ 1 ≤ cnt T ∧ cnt T ≤ 24 ∧ allT T ≤ 1048576
theorem gtn_dvd {d : Nat} : ∀ {N : Nat}, d ∣ gtn T N ↔ ∀ k, k < N → d ∣ (T ((k : Int) - 1000)).natAbs
  | 0 => ⟨fun _ k hk => by omega, fun _ => Nat.dvd_zero d⟩
  | N + 1 => by
    rw [gtn, Nat.dvd_gcd_iff, gtn_dvd (N := N)]
    constructor
    · intro h k hk
      rcases Nat.lt_or_ge k N with z | z
      · exact h.2 k z
      · have : k = N := by omega
        subst this; exact h.1
    · intro h
      exact ⟨h N (by omega), fun k hk => h k (by omega)⟩
theorem cnt_ext {T T' : Int → Int} (h : ∀ u, inR u → T u = T' u) : cnt T = cnt T' := by unfold cnt; exact sT_ext (fun u hu => by rw [h u hu])
theorem gtn_ext {T T' : Int → Int} (h : ∀ u, inR u → T u = T' u) : ∀ N, N ≤ 2001 → gtn T N = gtn T' N
  | 0, _ => rfl
  | N + 1, hN => by rw [gtn, gtn, gtn_ext h N (by omega), h _ ⟨by omega, by omega⟩]
theorem allT_ext {T T' : Int → Int} (h : ∀ u, inR u → T u = T' u) : allT T = allT T' := by
  unfold allT gT
  rw [gtn_ext h 2001 (Nat.le_refl _)]
  exact sT_ext (fun u hu => by rw [h u hu])
theorem cnt_den (hs : inc f n) (hr : ∀ i, i < n → inR (f i)) (hg : ∀ i, i < n → 1 ≤ g i) : cnt (den f g n) = (n : Int) := by
  unfold cnt
  rw [tr_ (F := fun _ x => if 0 < x then 1 else 0) (fun u _ => rfl) hs hr]
  have : ∀ m, m ≤ n → sumZ (fun i => if 0 < g i then 1 else 0) m = (m : Int) := by
    intro m
    induction m with
    | zero => intro _; rfl
    | succ m ih => intro h; simp only [sumZ]; rw [ih (by omega), if_pos (by have := hg m (by omega); omega)]; rfl
  exact this n (Nat.le_refl n)
theorem cnt_up (h : ∀ u, inR u → T u ≤ F u) : cnt T ≤ cnt F := by
  unfold cnt sT
  exact sumZ_mono (fun i hi => by
  have := h ((i : Int) - 1000) ⟨by omega, by omega⟩
  show (if 0 < T ((i : Int) - 1000) then (1 : Int) else 0) ≤ if 0 < F ((i : Int) - 1000) then 1 else 0
  split <;> split <;> omega)
theorem cnt_new (hv : inR v) (h0 : T v = 0) (hc : 1 ≤ c) : cnt (fun u => T u + (if v = u then c else 0)) = cnt T + 1 := by
  have key := sumZ_one (F := fun k : Nat => if 0 < T ((k : Int) - 1000) + (if v = (k : Int) - 1000 then c else 0) then (1 : Int) else 0) (G := fun k : Nat => if 0 < T ((k : Int) - 1000) then (1 : Int) else 0) (p := (v + 1000).toNat) (N := 2001) (by omega) (fun k hk hp => by
    show (if 0 < T _ + (if v = _ then c else 0) then (1 : Int) else 0) = _
    rw [if_neg (show ¬ v = (k : Int) - 1000 by omega), Int.add_zero])
  have ep : (((v + 1000).toNat : Int) - 1000) = v := by omega
  simp only [ep] at key
  rw [h0, if_pos trivial, if_pos (show 0 < 0 + c by omega), if_neg (show ¬ (0 : Int) < 0 by omega)] at key
  simp only [cnt, sT]
  rw [key]; omega
/-! a row with one number put in -/
theorem sumZ_ins : ∀ (m : Nat), m ≤ n + 1 → sumZ (ins f n p v) m = if p < m then sumZ f (m - 1) + v else sumZ f m
  | 0, _ => by rw [if_neg (by omega)]; rfl
  | m + 1, h => by
    simp only [sumZ]
    rw [sumZ_ins m (by omega)]
    unfold ins
    rcases Nat.lt_trichotomy p m with z | z | z
    · rw [if_pos z, if_neg (show ¬ m = p by omega), if_pos (show p < m ∧ m ≤ n from ⟨z, by omega⟩), if_pos (show p < m + 1 by omega)]
      obtain ⟨m', rfl⟩ : ∃ m', m = m' + 1 := ⟨m - 1, by omega⟩
      simp only [Nat.add_sub_cancel, sumZ]; omega
    · subst z
      rw [if_neg (show ¬ p < p by omega), if_pos rfl, if_pos (show p < p + 1 by omega)]; rfl
    · rw [if_neg (show ¬ p < m by omega), if_neg (show ¬ m = p by omega), if_neg (show ¬ (p < m ∧ m ≤ n) by omega), if_neg (show ¬ p < m + 1 by omega)]
theorem ins_fun (K : Int → Int → Int) (f g : Nat → Int) (n p : Nat) (v c : Int) : (fun i => K (ins f n p v i) (ins g n p c i)) = ins (fun i => K (f i) (g i)) n p (K v c) := by
  funext i
  unfold ins
  split
  · rfl
  · split <;> rfl
theorem sumZ_insA (hp : p ≤ n) : sumZ (ins f n p v) (n + 1) = sumZ f n + v := by
  rw [sumZ_ins (n + 1) (Nat.le_refl _), if_pos (by omega)]; rfl
theorem den_ins (hp : p ≤ n) : den (ins f n p v) (ins g n p c) (n + 1) u = den f g n u + (if v = u then c else 0) := by
  unfold den
  rw [ins_fun (fun x y => if x = u then y else 0) f g n p v c, sumZ_insA hp]
theorem ins_in {P : Int → Prop} (hp : p ≤ n) (h : ∀ i, i < n → P (f i)) (hv : P v) : ∀ i, i < n + 1 → P (ins f n p v i) := by
  intro i hi
  unfold ins
  split
  · exact hv
  · split
    · exact h _ (by omega)
    · exact h _ (by omega)
theorem inc_ins (hs : inc f n) (hne : ∀ k, k < n → f k ≠ v) : inc (ins f n (lb f v n) v) (n + 1) := by
  have hl := lb_le f v n
  intro i j hij hj
  unfold ins
  have A : ∀ k, k < lb f v n → f k < v := fun k hk => lb_lt hs hk
  have B : ∀ k, lb f v n ≤ k → k < n → v < f k := fun k h1 h2 => by have := lb_ge h1 h2; have := hne k h2; omega
  by_cases h1 : i = lb f v n
  · rw [if_pos h1, if_neg (by omega), if_pos (by omega)]
    exact B _ (by omega) (by omega)
  · rw [if_neg h1]
    by_cases h2 : j = lb f v n
    · rw [if_pos h2, if_neg (by omega)]
      exact A i (by omega)
    · rw [if_neg h2]
      by_cases h3 : lb f v n < i
      · rw [if_pos (by omega), if_pos (by omega)]
        exact hs _ _ (by omega) (by omega)
      · rw [if_neg (by omega)]
        by_cases h4 : lb f v n < j
        · rw [if_pos (by omega)]
          have := A i (by omega)
          have := B (j - 1) (by omega) (by omega)
          omega
        · rw [if_neg (by omega)]
          exact hs i j hij (by omega)
theorem lb_no (hs : inc f n) (h : ¬ (lb f v n < n ∧ f (lb f v n) = v)) : ∀ k, k < n → f k ≠ v :=
  ixO_no hs (by unfold ixO; rw [if_neg h])
/-! the common divisor -/
def dvn (g : Nat → Int) : Nat → Nat
  | 0 => 0
  | i + 1 => Nat.gcd (g i).natAbs (dvn g i)
theorem dvn_dvd {d : Nat} : ∀ {N : Nat}, d ∣ dvn g N ↔ ∀ k, k < N → d ∣ (g k).natAbs
  | 0 => ⟨fun _ k hk => by omega, fun _ => Nat.dvd_zero d⟩
  | N + 1 => by
    rw [dvn, Nat.dvd_gcd_iff, dvn_dvd (N := N)]
    constructor
    · intro h k hk
      rcases Nat.lt_or_ge k N with z | z
      · exact h.2 k z
      · have : k = N := by omega
        subst this; exact h.1
    · intro h
      exact ⟨h N (by omega), fun k hk => h k (by omega)⟩
theorem dv_nat (hg : ∀ i, i < n → 1 ≤ g i) : ∀ i, i ≤ n → dv g i = ((dvn g i : Nat) : Int)
  | 0, _ => rfl
  | i + 1, h => by
    rw [dv, dvn, dv_nat hg i (by omega), gc]
    have h1 : 0 < Nat.gcd (g i).natAbs (dvn g i) := Nat.gcd_pos_of_pos_left _ (by have := hg i (by omega); omega)
    rw [Int.natAbs_natCast]
    split <;> omega
theorem dv_gT (hs : inc f n) (hr : ∀ i, i < n → inR (f i)) (hg : ∀ i, i < n → 1 ≤ g i) : dv g n = gT (den f g n) := by
  rw [dv_nat hg n (Nat.le_refl n)]
  congr 1
  apply Nat.dvd_antisymm
  · rw [gtn_dvd]
    intro k hk
    rcases Classical.em (∃ i, i < n ∧ f i = (k : Int) - 1000) with ⟨i, hi, e⟩ | h
    · rw [← e, den_at hs hi]; exact dvn_dvd.mp (Nat.dvd_refl _) i hi
    · rw [den_0 (fun i hi e => h ⟨i, hi, e⟩)]; exact Nat.dvd_zero _
  · rw [dvn_dvd]
    intro i hi
    have := hr i hi
    have h1 := gtn_dvd.mp (Nat.dvd_refl (gtn (den f g n) 2001)) (f i + 1000).toNat (by omega)
    rw [show (((f i + 1000).toNat : Int) - 1000) = f i by omega, den_at hs hi] at h1
    exact h1
theorem tdiv_sum {g : Nat → Int} : ∀ {n : Nat}, 0 < D → (∀ i, i < n → 0 ≤ g i ∧ D ∣ g i) → sumZ (fun i => Int.tdiv (g i) D) n = Int.tdiv (sumZ g n) D
  | 0, _, _ => by simp [sumZ]
  | n + 1, hD, h => by
    simp only [sumZ]
    have h1 := h n (by omega)
    have h2 := sumZ_nn (n := n) (fun i hi => (h i (by omega)).1) n (Nat.le_refl n)
    rw [tdiv_sum hD (fun i hi => h i (by omega)), Int.tdiv_eq_ediv_of_nonneg h2, Int.tdiv_eq_ediv_of_nonneg h1.1, Int.tdiv_eq_ediv_of_nonneg (by omega), Int.add_ediv_of_dvd_right h1.2]
theorem dv_dvd (hg : ∀ i, i < n → 1 ≤ g i) : ∀ i, i < n → dv g n ∣ g i := by
  intro i hi
  rw [dv_nat hg n (Nat.le_refl n)]
  exact Int.ofNat_dvd_left.mpr (dvn_dvd.mp (Nat.dvd_refl _) i hi)
theorem allT_den (hs : inc f n) (hr : ∀ i, i < n → inR (f i)) (hg : ∀ i, i < n → 1 ≤ g i) (h1 : 1 ≤ n) (hD : 1 ≤ dv g n) : allT (den f g n) = Int.tdiv (sumZ g n) (dv g n) := by
  unfold allT
  rw [tr_ (F := fun _ x => Int.tdiv x (gT (den f g n))) (fun u _ => by simp) hs hr, ← dv_gT hs hr hg]
  exact tdiv_sum (by omega) (fun i hi => ⟨by have := hg i hi; omega, dv_dvd hg i hi⟩)
theorem den_ext {f' g' : Nat → Int} (h : ∀ i, i < n → f i = f' i ∧ g i = g' i) : den f g n u = den f' g' n u :=
  sumZ_ext (fun i hi => by rw [(h i hi).1, (h i hi).2])
theorem den_div (hD : 0 < D) (h : ∀ i, i < n → 0 ≤ g i ∧ D ∣ g i) : den f (fun j => Int.tdiv (g j) D) n u = Int.tdiv (den f g n u) D := by
  unfold den
  rw [← tdiv_sum hD (fun i hi => by
    split
    · exact h i hi
    · exact ⟨Int.le_refl _, ⟨0, by simp⟩⟩)]
  exact sumZ_ext (fun i hi => by
    show (if f i = u then Int.tdiv (g i) D else 0) = Int.tdiv (if f i = u then g i else 0) D
    split
    · rfl
    · simp)
theorem den_nn (hg : ∀ i, i < n → 0 ≤ g i) : 0 ≤ den f g n u := sumZ_nn (n := n) (fun i hi => by split; exact hg i hi; exact Int.le_refl _) n (Nat.le_refl n)
theorem den_le (hg : ∀ i, i < n → 0 ≤ g i) : den f g n u ≤ sumZ g n := sumZ_mono (fun i hi => by split; exact Int.le_refl _; exact hg i hi)
end
