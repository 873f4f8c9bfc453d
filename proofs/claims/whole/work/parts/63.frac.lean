theorem g_cross {a c a' c' : Nat} (h : a * c' = a' * c) : a * Nat.gcd a' c' = a' * Nat.gcd a c ∧ c * Nat.gcd a' c' = c' * Nat.gcd a c := by
  constructor
  · rw [← Nat.gcd_mul_left, ← Nat.gcd_mul_left, h, Nat.mul_comm a a']
  · rw [← Nat.gcd_mul_left, ← Nat.gcd_mul_left, Nat.mul_comm c a', ← h, Nat.mul_comm c c', Nat.mul_comm a c']
theorem d_cross {x x' g g' : Nat} (h : x * g' = x' * g) (hg : 0 < g) (hg' : 0 < g') (hd : g ∣ x) (hd' : g' ∣ x') : x / g = x' / g' := by
  obtain ⟨y, rfl⟩ := hd
  obtain ⟨y', rfl⟩ := hd'
  rw [Nat.mul_div_cancel_left y hg, Nat.mul_div_cancel_left y' hg']
  have h1 : g * g' * y = g * g' * y' := by
    rw [Nat.mul_right_comm, h, Nat.mul_comm (g' * y'), ← Nat.mul_assoc]
  exact Nat.eq_of_mul_eq_mul_left (Nat.mul_pos hg hg') h1
theorem prt_eq {a c a' c' d : Int} (h : a * c' = a' * c) (ha : 0 ≤ a) (ha' : 0 ≤ a') (hc : 1 ≤ c) (hc' : 1 ≤ c') : prt a c d = prt a' c' d := by
  unfold prt
  rw [gc_Z hc, gc_Z hc']
  obtain ⟨x, rfl⟩ : ∃ x : Nat, a = (x : Int) := ⟨a.toNat, by omega⟩
  obtain ⟨y, rfl⟩ : ∃ y : Nat, c = (y : Int) := ⟨c.toNat, by omega⟩
  obtain ⟨x', rfl⟩ : ∃ x : Nat, a' = (x : Int) := ⟨a'.toNat, by omega⟩
  obtain ⟨y', rfl⟩ : ∃ y : Nat, c' = (y : Int) := ⟨c'.toNat, by omega⟩
  have hN : x * y' = x' * y := by exact_mod_cast h
  have hy : 0 < y := by omega
  have hy' : 0 < y' := by omega
  obtain ⟨e1, e2⟩ := g_cross hN
  have g1 : 0 < Nat.gcd x y := Nat.gcd_pos_of_pos_right x hy
  have g2 : 0 < Nat.gcd x' y' := Nat.gcd_pos_of_pos_right x' hy'
  unfold gcZ
  simp only [Int.natAbs_natCast]
  rw [tdiv_nat, tdiv_nat, tdiv_nat, tdiv_nat, d_cross e1 g1 g2 (Nat.gcd_dvd_left _ _) (Nat.gcd_dvd_left _ _), d_cross e2 g1 g2 (Nat.gcd_dvd_right _ _) (Nat.gcd_dvd_right _ _)]
/-- ratios that are alike are less alike -/
theorem less_iff {u l u' l' X Y : Int} (h : u * l' = u' * l) (hl : 1 ≤ l) (hl' : 1 ≤ l') : X * l < u * Y ↔ X * l' < u' * Y := by
  have e1 : X * l * l' = X * l' * l := Int.mul_right_comm X l l'
  have e2 : u * Y * l' = u' * Y * l := by rw [Int.mul_right_comm, h, Int.mul_right_comm]
  constructor
  · intro z
    have := Int.mul_lt_mul_of_pos_right z (show 0 < l' by omega)
    rw [e1, e2] at this
    exact Int.lt_of_mul_lt_mul_right this (by omega)
  · intro z
    have := Int.mul_lt_mul_of_pos_right z (show 0 < l by omega)
    rw [← e1, ← e2] at this
    exact Int.lt_of_mul_lt_mul_right this (by omega)
theorem rg_rgm {X Y : Nat → Int} (hXY : ∀ k, 0 ≤ X k ∧ X k ≤ Y k ∧ 1 ≤ Y k) : ∀ i, (0 ≤ (rg X Y i).1 ∧ 1 ≤ (rg X Y i).2 ∧ 0 ≤ (rgm X Y i).1 ∧ 1 ≤ (rgm X Y i).2) ∧ (i = 0 ∨ (rg X Y i).1 * (rgm X Y i).2 = (rgm X Y i).1 * (rg X Y i).2)
  | 0 => ⟨by simp [rg, rgm], Or.inl rfl⟩
  | i + 1 => by
    obtain ⟨⟨a1, a2, a3, a4⟩, ih⟩ := rg_rgm hXY i
    obtain ⟨h1, h2, h3⟩ := hXY i
    rcases ih with rfl | ih
    · simp only [rg, rgm, Int.mul_one, Int.one_mul]
      rw [if_pos (show X 0 < 2 * Y 0 by omega)]
      split
      · exact ⟨⟨h1, h3, h1, h3⟩, Or.inr rfl⟩
      · exact ⟨⟨by decide, by decide, h1, h3⟩, Or.inr (by simp only; omega)⟩
    · rw [rg, rgm]
      by_cases c : X i * (rg X Y i).2 < (rg X Y i).1 * Y i
      · rw [if_pos c, if_pos ((less_iff ih a2 a4).mp c)]
        exact ⟨⟨h1, h3, h1, h3⟩, Or.inr rfl⟩
      · rw [if_neg c, if_neg (fun z => c ((less_iff ih a2 a4).mpr z))]
        exact ⟨⟨a1, a2, a3, a4⟩, Or.inr ih⟩
theorem rg_ext {X Y X' Y' : Nat → Int} : ∀ i, (∀ j, j < i → X j = X' j ∧ Y j = Y' j) → rg X Y i = rg X' Y' i
  | 0, _ => rfl
  | i + 1, h => by rw [rg, rg, rg_ext i (fun j hj => h j (by omega)), (h i (by omega)).1, (h i (by omega)).2]
theorem rgm_ext {X Y X' Y' : Nat → Int} : ∀ i, (∀ j, j < i → X j = X' j ∧ Y j = Y' j) → rgm X Y i = rgm X' Y' i
  | 0, _ => rfl
  | i + 1, h => by rw [rgm, rgm, rgm_ext i (fun j hj => h j (by omega)), (h i (by omega)).1, (h i (by omega)).2]
theorem rgA_eq {X Y : Nat → Int} {i : Nat} {d : Int} (hi : 1 ≤ i) (hXY : ∀ k, k < i → 0 ≤ X k ∧ X k ≤ Y k ∧ 1 ≤ Y k) : rgA (rg X Y i).1 (rg X Y i).2 d = rgA (rgm X Y i).1 (rgm X Y i).2 d := by
  have e1 := rg_ext (X := X) (Y := Y) (X' := fun k => if k < i then X k else 0) (Y' := fun k => if k < i then Y k else 1) i (fun j hj => by simp only [if_pos hj]; exact ⟨trivial, trivial⟩)
  have e2 := rgm_ext (X := X) (Y := Y) (X' := fun k => if k < i then X k else 0) (Y' := fun k => if k < i then Y k else 1) i (fun j hj => by simp only [if_pos hj]; exact ⟨trivial, trivial⟩)
  rw [e1, e2]
  obtain ⟨⟨a1, a2, a3, a4⟩, ih⟩ := rg_rgm (X := fun k => if k < i then X k else 0) (Y := fun k => if k < i then Y k else 1) (fun k => by
    by_cases z : k < i
    · simp only [if_pos z]; exact hXY k z
    · simp only [if_neg z]; omega) i
  rcases ih with z | ih
  · omega
  · unfold rgA
    by_cases hd : d = 2
    · rw [if_pos hd, if_pos hd]
      have := less_iff (X := 1) (Y := 2) ih a2 a4
      rw [Int.one_mul, Int.one_mul, Int.mul_comm _ 2, Int.mul_comm _ 2] at this
      by_cases c : (rg (fun k => if k < i then X k else 0) (fun k => if k < i then Y k else 1) i).2 < 2 * (rg (fun k => if k < i then X k else 0) (fun k => if k < i then Y k else 1) i).1
      · rw [if_pos c, if_pos (this.mp c)]
      · rw [if_neg c, if_neg (fun z => c (this.mpr z))]
    · rw [if_neg hd, if_neg hd]
      exact prt_eq ih a1 a3 a2 a4
/-! rows without their zeros -/
def nz (A : List (Int × Int)) : List (Int × Int) := A.filter (fun p => decide (p.2 ≠ 0))
def nnL (A : List (Int × Int)) : Prop := ∀ p ∈ A, 0 ≤ p.2
theorem nw_zR {w : Int} {B : List (Int × Int)} (hB : nnL B) : ∀ A : List (Int × Int), nnL A → nw A ((w, 0) :: B) = nw A B
  | [], _ => by rw [nw_0l, nw_0l]
  | (v, x) :: A, hA => by
    have hx := hA (v, x) List.mem_cons_self
    simp only at hx
    by_cases z : x = 0
    · subst z
      rw [nw_zl (by omega), nw_zR hB A (fun p hp => hA p (List.mem_cons_of_mem _ hp))]
      cases B with
      | nil => rw [nw_nil, nw_nil]
      | cons b B => obtain ⟨w2, y2⟩ := b; rw [nw_zl (hB (w2, y2) List.mem_cons_self)]
    · rw [nw_zr (by omega)]
theorem nz_cons0 {v : Int} {A : List (Int × Int)} : nz ((v, 0) :: A) = nz A := by simp [nz]
theorem nz_cons {v x : Int} {A : List (Int × Int)} (h : x ≠ 0) : nz ((v, x) :: A) = (v, x) :: nz A := by simp [nz, h]
theorem nnL_nz {A : List (Int × Int)} (h : nnL A) : nnL (nz A) := fun p hp => h p (List.mem_filter.mp hp).1
theorem nnL_c {v x : Int} {A : List (Int × Int)} (hx : 0 ≤ x) (h : nnL A) : nnL ((v, x) :: A) := fun p hp => by
  rcases List.mem_cons.mp hp with rfl | z
  · exact hx
  · exact h p z
theorem nnL_t {p : Int × Int} {A : List (Int × Int)} (h : nnL (p :: A)) : nnL A := fun q hq => h q (List.mem_cons_of_mem _ hq)
theorem nw_nz : ∀ (N : Nat) (A B : List (Int × Int)), A.length + B.length ≤ N → nnL A → nnL B → nw A B = nw (nz A) (nz B)
  | 0, A, B, h, hA, hB => by
    have e1 : A = [] := List.length_eq_zero_iff.mp (by omega)
    have e2 : B = [] := List.length_eq_zero_iff.mp (by omega)
    subst e1 e2; rfl
  | N + 1, [], B, h, hA, hB => by rw [nw_0l]; simp only [nz, List.filter_nil]; rw [nw_0l]
  | N + 1, p :: A, [], h, hA, hB => by rw [nw_nil]; simp only [nz, List.filter_nil]; rw [nw_nil]
  | N + 1, (v, x) :: A, (w, y) :: B, h, hA, hB => by
    have hx : 0 ≤ x := hA (v, x) List.mem_cons_self
    have hy : 0 ≤ y := hB (w, y) List.mem_cons_self
    have hA' := nnL_t hA
    have hB' := nnL_t hB
    simp only [List.length_cons] at h
    by_cases zx : x = 0
    · subst zx
      rw [nw_zl hy, nz_cons0]
      exact nw_nz N A ((w, y) :: B) (by simp only [List.length_cons]; omega) hA' hB
    · by_cases zy : y = 0
      · subst zy
        rw [nw_zr (by omega), nz_cons0 (v := w)]
        exact nw_nz N ((v, x) :: A) B (by simp only [List.length_cons]; omega) hA hB'
      · rw [nz_cons zx, nz_cons zy, nw, nw]
        by_cases c : x ≤ y
        · rw [if_pos c, if_pos c]
          congr 1
          rw [nw_nz N A ((w, y - x) :: B) (by simp only [List.length_cons]; omega) hA' (nnL_c (by omega) hB')]
          by_cases e : y - x = 0
          · rw [e, nz_cons0, nw_zR (nnL_nz hB') _ (nnL_nz hA')]
          · rw [nz_cons e]
        · rw [if_neg c, if_neg c]
          congr 1
          rw [nw_nz N ((v, x - y) :: A) B (by simp only [List.length_cons]; omega) (nnL_c (by omega) hA') hB', nz_cons (by omega)]
theorem nw_in {K : Int} : ∀ (N : Nat) (A B : List (Int × Int)), A.length + B.length ≤ N → nnL A → nnL B → (∀ p ∈ A, p.2 ≤ K) → ∀ x ∈ nw A B, 0 ≤ x.2.2 ∧ x.2.2 ≤ K
  | 0, A, B, h, hA, hB, hK, q, hq => by
    have e1 : A = [] := List.length_eq_zero_iff.mp (by omega)
    subst e1; rw [nw_0l] at hq; cases hq
  | N + 1, [], B, h, hA, hB, hK, q, hq => by rw [nw_0l] at hq; cases hq
  | N + 1, p :: A, [], h, hA, hB, hK, q, hq => by rw [nw_nil] at hq; cases hq
  | N + 1, (v, x) :: A, (w, y) :: B, h, hA, hB, hK, q, hq => by
    have hx : 0 ≤ x := hA (v, x) List.mem_cons_self
    have hy : 0 ≤ y := hB (w, y) List.mem_cons_self
    have hxK : x ≤ K := hK (v, x) List.mem_cons_self
    have hA' := nnL_t hA
    have hB' := nnL_t hB
    simp only [List.length_cons] at h
    rw [nw] at hq
    by_cases c : x ≤ y
    · rw [if_pos c] at hq
      rcases List.mem_append.mp hq with z | z
      · split at z
        · rw [List.mem_singleton.mp z]; simp only; omega
        · cases z
      · exact nw_in N A ((w, y - x) :: B) (by simp only [List.length_cons]; omega) hA' (nnL_c (by omega) hB') (fun p hp => hK p (List.mem_cons_of_mem _ hp)) q z
    · rw [if_neg c] at hq
      rcases List.mem_append.mp hq with z | z
      · split at z
        · rw [List.mem_singleton.mp z]; simp only; omega
        · cases z
      · exact nw_in N ((v, x - y) :: A) B (by simp only [List.length_cons]; omega) (nnL_c (by omega) hA') hB' (fun p hp => by
          rcases List.mem_cons.mp hp with rfl | z2
          · simp only; omega
          · exact hK p (List.mem_cons_of_mem _ z2)) q z
theorem tab_nn {f g : Nat → Int} : ∀ (d i : Nat), (∀ k, i ≤ k → k < i + d → 0 ≤ g k) → nnL (tab f g i d)
  | 0, _, _ => fun p hp => nomatch hp
  | d + 1, i, h => nnL_c (h i (Nat.le_refl i) (by omega)) (tab_nn d (i + 1) (fun k a b => h k (by omega) (by omega)))
theorem tab_le {f g : Nat → Int} {K : Int} : ∀ (d i : Nat), (∀ k, i ≤ k → k < i + d → g k ≤ K) → ∀ p ∈ tab f g i d, p.2 ≤ K
  | 0, _, _, p, hp => nomatch hp
  | d + 1, i, h, p, hp => by
    rcases List.mem_cons.mp hp with rfl | z
    · exact h i (Nat.le_refl i) (by omega)
    · exact tab_le d (i + 1) (fun k a b => h k (by omega) (by omega)) p z
section
variable {at_ wt at2 wt2 g : Nat → Int} {n m : Nat} {W W2 d : Int}
theorem lb_hit {k : Nat} (A : lwN n at_ wt W) {i : Nat} (hi : i < n) (e : at_ i = idv k) : lb at_ (idv k) n = i ∧ lb at_ (idv (k + 1)) n = i + 1 := by
  have hs := A.2.1
  constructor
  · exact lb_uniq hs (by omega) (fun j hj => by rw [← e]; exact hs j i hj hi) (fun j hj hj2 => by
      rcases Nat.lt_or_ge i j with z | z
      · have := hs i j z hj2; omega
      · rw [show j = i by omega]; omega)
  · exact lb_uniq hs (by omega) (fun j hj => by
      rcases Nat.lt_or_ge j i with z | z
      · have := hs j i z hi; unfold idv at e ⊢; omega
      · rw [show j = i by omega, e]; unfold idv; omega) (fun j hj hj2 => by have := hs i j (by omega) hj2; unfold idv at e ⊢; omega)
theorem lb_miss {k : Nat} (A : lwN n at_ wt W) (e : ∀ i, i < n → at_ i ≠ idv k) : lb at_ (idv (k + 1)) n = lb at_ (idv k) n := by
  have hs := A.2.1
  exact lb_uniq hs (lb_le _ _ _) (fun j hj => by have := lb_lt hs hj; unfold idv at this ⊢; omega) (fun j hj hj2 => by have h1 := lb_ge hj hj2; have h2 := e j hj2; unfold idv at h1 h2 ⊢; omega)
theorem lb_end (A : lwN n at_ wt W) : lb at_ (idv 2001) n = n := lb_uniq A.2.1 (Nat.le_refl n) (fun j hj => by have := lw_inR A j hj; show at_ j < ((2001 : Nat) : Int) - 1000; omega) (fun j h1 h2 => by omega)
theorem lb_beg (A : lwN n at_ wt W) : lb at_ (idv 0) n = 0 := lb_uniq A.2.1 (Nat.zero_le n) (fun j hj => by omega) (fun j h1 h2 => by have := lw_inR A j h2; show ((0 : Nat) : Int) - 1000 ≤ at_ j; omega)
theorem nz_tab (A : lwN n at_ wt W) : ∀ (e k : Nat), k + e = 2001 → nz (tab idv (fun k => den at_ g n (idv k)) k e) = nz (tab at_ g (lb at_ (idv k) n) (n - lb at_ (idv k) n)) := by
  intro e
  induction e with
  | zero =>
    intro k hk
    have : k = 2001 := by omega
    rw [this, lb_end A, Nat.sub_self]; rfl
  | succ e ih =>
    intro k hk
    have h1 := ih (k + 1) (by omega)
    rw [tab]
    by_cases hit : ∃ i, i < n ∧ at_ i = idv k
    · obtain ⟨i, hi, ei⟩ := hit
      obtain ⟨l1, l2⟩ := lb_hit A hi ei
      rw [l2] at h1
      rw [l1, show n - i = (n - (i + 1)) + 1 by omega, tab, ← ei, den_at A.2.1 hi]
      by_cases z : g i = 0
      · rw [z, nz_cons0, nz_cons0]; exact h1
      · rw [nz_cons z, nz_cons z, h1]
    · have hm : ∀ i, i < n → at_ i ≠ idv k := fun i hi ei => hit ⟨i, hi, ei⟩
      rw [den_0 hm, nz_cons0, h1, lb_miss A hm]
theorem nz_tab0 (A : lwN n at_ wt W) {F : Nat → Int} (hF : ∀ k, k < 2001 → F k = den at_ g n (idv k)) : nz (tab idv F 0 2001) = nz (tab at_ g 0 n) := by
  have h := nz_tab (g := g) A 2001 0 (by omega)
  rw [lb_beg A, Nat.sub_zero] at h
  rw [tab_ext (g' := fun k => den at_ g n (idv k)) (fun k _ hk => hF k (by omega))]
  exact h
theorem jBo_mn {T T2 : Int → Int} {v : Int} : jBo T T2 W W2 0 v = mn (T v * W2) (T2 v * W) := by
  unfold jBo mn
  rw [if_neg (by decide)]
  split <;> split <;> omega
theorem lk_eq (A : lwN n at_ wt W) (A2 : lwN m at2 wt2 W2) : ∀ k, k ≤ 2001 → lkM (den at_ wt n) (den at2 wt2 m) W W2 0 k = lkL at_ wt at2 wt2 m W W2 (lb at_ (idv k) n)
  | 0, _ => by rw [lb_beg A]; rfl
  | k + 1, hk => by
    have ih := lk_eq A A2 k (by omega)
    rw [lkM, ih, jBo_mn]
    have hW := A.2.2.2.1
    by_cases hit : ∃ i, i < n ∧ at_ i = idv k
    · obtain ⟨i, hi, ei⟩ := hit
      obtain ⟨l1, l2⟩ := lb_hit A hi ei
      rw [l1, l2, lkL, ← ei, den_at A.2.1 hi]
      congr 1
    · have hm : ∀ i, i < n → at_ i ≠ idv k := fun i hi ei => hit ⟨i, hi, ei⟩
      rw [lb_miss A hm, den_0 hm, Int.zero_mul]
      have h2 := Int.mul_nonneg (lw_nn A2 (idv k)) (show 0 ≤ W by omega)
      have : mn 0 (den at2 wt2 m (idv k) * W) = 0 := by unfold mn; rw [if_neg (by omega)]
      rw [this, if_neg (by omega), List.append_nil]
theorem jn_jM (A : lwN n at_ wt W) (A2 : lwN m at2 wt2 W2) (hd : d = 0 ∨ d = 1) : jn n m at_ wt at2 wt2 W W2 (decide (d = 0)) = jM (den at_ wt n) (den at2 wt2 m) W W2 d := by
  have hW := A.2.2.2.1
  have hW2 := A2.2.2.2.1
  have hp : ∀ i, i < n → 0 ≤ wt i * W2 := fun i hi => Int.mul_nonneg (by have := (A.2.2.1 i hi).2; omega) (by omega)
  have hp2 : ∀ i, i < m → 0 ≤ wt2 i * W := fun i hi => Int.mul_nonneg (by have := (A2.2.2.1 i hi).2; omega) (by omega)
  have hT : ∀ u, 0 ≤ den at_ wt n u * W2 := fun u => Int.mul_nonneg (lw_nn A u) (by omega)
  have hT2 : ∀ u, 0 ≤ den at2 wt2 m u * W := fun u => Int.mul_nonneg (lw_nn A2 u) (by omega)
  unfold jn jM
  rcases hd with rfl | rfl
  · rw [if_pos (by decide), lk_eq A A2 2001 (Nat.le_refl _), lb_end A]
    congr 1
    have j1 : ∀ k, k < 2001 → 0 ≤ jlA (den at_ wt n) (den at2 wt2 m) W W2 0 k := fun k hk => by unfold jlA; rw [jBo_mn]; have := mn_le (den at_ wt n (idv k) * W2) (den at2 wt2 m (idv k) * W); omega
    have j2 : ∀ k, k < 2001 → 0 ≤ jlB (den at_ wt n) (den at2 wt2 m) W W2 0 k := fun k hk => by unfold jlB; rw [jBo_mn]; have := mn_le (den at_ wt n (idv k) * W2) (den at2 wt2 m (idv k) * W); omega
    rw [nw_nz _ _ _ (Nat.le_refl _) (tab_nn n 0 (fun k _ hk => lfA_nn A A2 (by omega))) (tab_nn m 0 (fun k _ _ => lfB_nn)), nw_nz _ (tab idv _ 0 2001) _ (Nat.le_refl _) (tab_nn 2001 0 (fun k _ hk => j1 k (by omega))) (tab_nn 2001 0 (fun k _ hk => j2 k (by omega)))]
    rw [nz_tab0 (g := lfA at_ wt at2 wt2 m W W2 n) A (fun k hk => ?_), nz_tab0 (g := lfB at_ wt at2 wt2 W W2 n) A2 (fun k hk => ?_)]
    rotate_left
    · unfold jlA
      rw [jBo_mn]
      by_cases hit : ∃ i, i < n ∧ at_ i = idv k
      · obtain ⟨i, hi, ei⟩ := hit
        rw [← ei, den_at A.2.1 hi, den_at A.2.1 hi]
        unfold lfA
        rw [if_pos hi]
        rfl
      · have hm : ∀ i, i < n → at_ i ≠ idv k := fun i hi ei => hit ⟨i, hi, ei⟩
        rw [den_0 hm, den_0 hm, Int.zero_mul]
        have := hT2 (idv k)
        unfold mn; rw [if_neg (by omega)]; rfl
    · unfold jlB
      rw [jBo_mn]
      by_cases hit : ∃ i, i < m ∧ at2 i = idv k
      · obtain ⟨i, hi, ei⟩ := hit
        rw [← ei, den_at A2.2.1 hi, den_at A2.2.1 hi]
        rfl
      · have hm : ∀ i, i < m → at2 i ≠ idv k := fun i hi ei => hit ⟨i, hi, ei⟩
        rw [den_0 hm, den_0 hm, Int.zero_mul]
        have := hT (idv k)
        unfold mn
        split <;> omega
  · rw [if_neg (by decide)]
    have hb : ∀ v, jBo (den at_ wt n) (den at2 wt2 m) W W2 1 v = 0 := fun v => by unfold jBo; rw [if_pos rfl]
    have hl : ∀ k, lkM (den at_ wt n) (den at2 wt2 m) W W2 1 k = [] := fun k => by
      induction k with
      | zero => rfl
      | succ k ih => rw [lkM, ih, hb, if_neg (by omega)]; rfl
    rw [hl, List.nil_append]
    rw [nw_nz _ _ _ (Nat.le_refl _) (tab_nn n 0 (fun k _ hk => hp k (by omega))) (tab_nn m 0 (fun k _ hk => hp2 k (by omega))), nw_nz _ (tab idv _ 0 2001) _ (Nat.le_refl _) (tab_nn 2001 0 (fun k _ hk => by unfold jlA; rw [hb]; have := hT (idv k); omega)) (tab_nn 2001 0 (fun k _ hk => by unfold jlB; rw [hb]; have := hT2 (idv k); omega))]
    rw [nz_tab0 (g := fun k => wt k * W2) A (fun k hk => ?_), nz_tab0 (g := fun k => wt2 k * W) A2 (fun k hk => ?_)]
    rotate_left
    · unfold jlA
      rw [hb, Int.sub_zero]
      by_cases hit : ∃ i, i < n ∧ at_ i = idv k
      · obtain ⟨i, hi, ei⟩ := hit
        rw [← ei, den_at A.2.1 hi, den_at A.2.1 hi]
      · have hm : ∀ i, i < n → at_ i ≠ idv k := fun i hi ei => hit ⟨i, hi, ei⟩
        rw [den_0 hm, den_0 hm, Int.zero_mul]
    · unfold jlB
      rw [hb, Int.sub_zero]
      by_cases hit : ∃ i, i < m ∧ at2 i = idv k
      · obtain ⟨i, hi, ei⟩ := hit
        rw [← ei, den_at A2.2.1 hi, den_at A2.2.1 hi]
      · have hm : ∀ i, i < m → at2 i ≠ idv k := fun i hi ei => hit ⟨i, hi, ei⟩
        rw [den_0 hm, den_0 hm, Int.zero_mul]
theorem jn_ok (A : lwN n at_ wt W) (A2 : lwN m at2 wt2 W2) {lk : Bool} : jOK (jn n m at_ wt at2 wt2 W W2 lk) (W * W2) := by
  have hW := A.2.2.2
  have hW2 := A2.2.2.2
  have hww := mulB (x := W) (y := W2) (by omega) (by omega) (by omega) (by omega)
  have hw1 := Int.mul_le_mul hW.1 hW2.1 (by omega) (by omega)
  have hp : ∀ i, i < n → 0 ≤ wt i * W2 ∧ wt i * W2 ≤ W * W2 := fun i hi => by
    have := (A.2.2.1 i hi).2
    exact ⟨Int.mul_nonneg (by omega) (by omega), Int.mul_le_mul_of_nonneg_right this.2 (by omega)⟩
  have hp2 : ∀ i, i < m → 0 ≤ wt2 i * W := fun i hi => Int.mul_nonneg (by have := (A2.2.2.1 i hi).2; omega) (by omega)
  refine ⟨by omega, fun x hx => ?_⟩
  unfold jn at hx
  split at hx
  · rcases List.mem_append.mp hx with z | z
    · have hL : ∀ i, i ≤ n → ∀ x ∈ lkL at_ wt at2 wt2 m W W2 i, 0 ≤ x.2.2 ∧ x.2.2 ≤ W * W2 := fun i => by
        induction i with
        | zero => intro _ x hx; cases hx
        | succ i ih =>
          intro hi x hx
          rw [lkL] at hx
          rcases List.mem_append.mp hx with y | y
          · exact ih (by omega) x y
          · split at y
            · rw [List.mem_singleton.mp y]
              have h1 := mn_le (wt i * W2) (den at2 wt2 m (at_ i) * W)
              have h2 := hp i (by omega)
              rename_i h3
              simp only [zL] at h3 ⊢
              omega
            · cases y
      exact hL n (Nat.le_refl n) x z
    · refine nw_in _ _ _ (Nat.le_refl _) (tab_nn n 0 (fun k _ hk => lfA_nn A A2 (by omega))) (tab_nn m 0 (fun k _ _ => lfB_nn)) (tab_le n 0 (fun k _ hk => ?_)) x z
      have h1 := hp k (by omega)
      have h2 := lw_nn A2 (at_ k)
      have h3 := Int.mul_nonneg h2 (show 0 ≤ W by omega)
      unfold lfA zL mn
      split
      · split <;> omega
      · omega
  · exact nw_in _ _ _ (Nat.le_refl _) (tab_nn n 0 (fun k _ hk => (hp k (by omega)).1)) (tab_nn m 0 (fun k _ hk => hp2 k (by omega))) (tab_le n 0 (fun k _ hk => (hp k (by omega)).2)) x hx
end
