/-! dice: both sides find the same pairs, in the same order -/
section
variable {S : Int → Int} {A A2 B B2 : List Int} {u v w b0 : Int} {n m : Nat}
theorem cB_cat : ∀ (B B2 : List Int) (v : Int), cB (B ++ B2) v = cB B v + cB B2 v
  | [], _, _ => by simp [cB]
  | b :: B, B2, v => by simp only [List.cons_append, cB]; rw [cB_cat B B2 v]; omega
theorem sm_catA : ∀ (A A2 B : List Int) (u : Int), sm (A ++ A2) B u = sm A B u + sm A2 B u
  | [], _, _, _ => by simp [sm]
  | a :: A, A2, B, u => by simp only [List.cons_append, sm]; rw [sm_catA A A2 B u]; omega
theorem sm_catB : ∀ (A B B2 : List Int) (u : Int), sm A (B ++ B2) u = sm A B u + sm A B2 u
  | [], _, _, _ => by simp [sm]
  | a :: A, B, B2, u => by simp only [sm]; rw [sm_catB A B B2 u, cB_cat]; omega
theorem sm_pos : ∀ (A B : List Int) (u : Int), 0 < sm A B u ↔ ∃ a ∈ A, ∃ b ∈ B, a + b = u
  | [], B, u => by simp [sm]
  | a :: A, B, u => by
    have ih := sm_pos A B u
    have h1 := cB_nn B (u - a)
    have h2 := sm_nn A B u
    rw [sm]
    constructor
    · intro h
      by_cases c : 0 < cB B (u - a)
      · exact ⟨a, List.mem_cons_self, u - a, cB_mem c, by omega⟩
      · obtain ⟨x, hx, y, hy, e⟩ := ih.mp (by omega)
        exact ⟨x, List.mem_cons_of_mem _ hx, y, hy, e⟩
    · rintro ⟨x, hx, y, hy, e⟩
      rcases List.mem_cons.mp hx with rfl | hx
      · have := cB_pos hy; rw [show u - x = y by omega]; omega
      · have := ih.mpr ⟨x, hx, y, hy, e⟩; omega
theorem sT_cB {a : Int} : ∀ (B : List Int), (∀ b ∈ B, inR (a + b)) → sT (fun u => cB B (u - a)) = (B.length : Int)
  | [], _ => by simp only [cB]; exact sT_0
  | b :: B, h => by
    have ih := sT_cB B (fun x hx => h x (List.mem_cons_of_mem _ hx))
    have e1 : sT (fun u => cB (b :: B) (u - a)) = sT (fun u => if b = u - a then 1 else 0) + sT (fun u => cB B (u - a)) := by rw [← sT_add]; rfl
    have e2 := sT_one (F := fun u => if b = u - a then (1 : Int) else 0) (H := fun _ => 0) (v := a + b) (h b List.mem_cons_self) (fun x _ hx => by show (if b = x - a then (1:Int) else 0) = 0; rw [if_neg (by omega)])
    simp only [if_pos (show b = a + b - a by omega)] at e2
    rw [sT_0] at e2
    rw [e1, ih, e2, List.length_cons]
    omega
theorem sT_sm : ∀ (A B : List Int), (∀ a ∈ A, ∀ b ∈ B, inR (a + b)) → sT (sm A B) = (A.length : Int) * (B.length : Int)
  | [], B, _ => by
    have : sm [] B = fun _ => 0 := by funext u; rfl
    rw [this, sT_0]; simp
  | a :: A, B, h => by
    have ih := sT_sm A B (fun x hx => h x (List.mem_cons_of_mem _ hx))
    have e1 : sT (sm (a :: A) B) = sT (fun u => cB B (u - a)) + sT (sm A B) := by rw [← sT_add]; rfl
    rw [e1, ih, sT_cB B (h a List.mem_cons_self), List.length_cons, Int.natCast_add, Int.add_mul]
    omega
/-- what is known of the throws: their number -/
def tS (S : Int → Int) (n m : Nat) : Prop := (∀ u, 0 ≤ S u) ∧ (∀ u, ¬ inR u → S u = 0) ∧ sT S = (n : Int) * (m : Int)
theorem rem_full (hS : tS S n m) (ha : A.length = n) (hb : B.length = m) (h0 : ∀ u, 0 ≤ rem_ S A B u) : ∀ u, rem_ S A B u = 0 := by
  have hin : ∀ a ∈ A, ∀ b ∈ B, inR (a + b) := fun a ha b hb => Classical.byContradiction (fun z => by
    have h1 := h0 (a + b)
    have h2 := (sm_pos A B (a + b)).mpr ⟨a, ha, b, hb, rfl⟩
    have h3 := hS.2.1 _ z
    unfold rem_ at h1
    omega)
  have h1 := sT_sm A B hin
  have h2 : sT (rem_ S A B) = 0 := by
    have : sT (rem_ S A B) = sT S - sT (sm A B) := by rw [← sT_sub]; rfl
    rw [this, h1, hS.2.2, ha, hb]; omega
  intro u
  by_cases hu : inR u
  · have h3 := sT_le (T := rem_ S A B) (fun u _ => h0 u) hu
    have h4 := h0 u
    omega
  · have h3 := h0 u
    have h4 := sm_nn A B u
    have h5 := hS.2.1 u hu
    unfold rem_ at h3 ⊢
    omega
def eI (S : Int → Int) (n m : Nat) (b0 : Int) (A B : List Int) : Prop := A[0]? = some 0 ∧ B[0]? = some b0 ∧ A.length ≤ n ∧ B.length ≤ m ∧ A.Pairwise (· ≤ ·) ∧ B.Pairwise (· ≤ ·) ∧ (∀ u, 0 ≤ rem_ S A B u) ∧ ∀ u, 0 < rem_ S A B u → (∀ a ∈ A, a + b0 ≤ u) ∧ ∀ b ∈ B, b ≤ u
theorem ls_ne (h : lsU (rem_ S A B) ≠ 5000) : inR (lsU (rem_ S A B)) ∧ 0 < rem_ S A B (lsU (rem_ S A B)) ∧ ∀ u, inR u → u < lsU (rem_ S A B) → ¬ 0 < rem_ S A B u := by
  rcases lsU_F (rem_ S A B) with ⟨z, _⟩ | z
  · exact absurd z h
  · exact z
theorem pw_app {A : List Int} {v : Int} (h : A.Pairwise (· ≤ ·)) (hv : ∀ a ∈ A, a ≤ v) : (A ++ [v]).Pairwise (· ≤ ·) := by
  rw [List.pairwise_append]
  exact ⟨h, List.pairwise_singleton _ _, fun a ha b hb => by rw [List.mem_singleton.mp hb]; exact hv a ha⟩
theorem eI_A (hS : tS S n m) (h : eI S n m b0 A B) (hn : A.length < n) (hl : lsU (rem_ S A B) ≠ 5000) (ok : okA S A B (lsU (rem_ S A B) - b0) = true) : eI S n m b0 (A ++ [lsU (rem_ S A B) - b0]) B := by
  obtain ⟨h1, h2, h3, h4, h5, h6, h7, h8⟩ := h
  obtain ⟨l1, l2, l3⟩ := ls_ne hl
  have h9 := h8 _ l2
  have hr : ∀ u, rem_ S (A ++ [lsU (rem_ S A B) - b0]) B u ≤ rem_ S A B u := fun u => by rw [rem_A]; have := cB_nn B (u - (lsU (rem_ S A B) - b0)); omega
  refine ⟨app0 h1, h2, by rw [List.length_append, List.length_singleton]; omega, h4, pw_app h5 (fun a ha => by have := h9.1 a ha; omega), h6, fun u => ?_, fun u hu => ?_⟩
  · by_cases c : 0 < cB B (u - (lsU (rem_ S A B) - b0))
    · have := okA_iff.mp ok _ (cB_mem c)
      rw [show lsU (rem_ S A B) - b0 + (u - (lsU (rem_ S A B) - b0)) = u by omega] at this
      exact this
    · rw [rem_A]; have := h7 u; have := cB_nn B (u - (lsU (rem_ S A B) - b0)); omega
  · have hu2 : 0 < rem_ S A B u := by have := hr u; omega
    have h10 := h8 u hu2
    have hiu : inR u := Classical.byContradiction (fun z => by have a := hS.2.1 u z; have b := sm_nn A B u; unfold rem_ at hu2; omega)
    have h11 : ¬ u < lsU (rem_ S A B) := fun z => l3 u hiu z hu2
    refine ⟨fun a ha => ?_, h10.2⟩
    rcases List.mem_append.mp ha with z | z
    · exact h10.1 a z
    · rw [List.mem_singleton.mp z]; omega
theorem eI_B (hS : tS S n m) (h : eI S n m b0 A B) (hn : B.length < m) (hl : lsU (rem_ S A B) ≠ 5000) (ok : okB S A B (lsU (rem_ S A B)) = true) : eI S n m b0 A (B ++ [lsU (rem_ S A B)]) := by
  obtain ⟨h1, h2, h3, h4, h5, h6, h7, h8⟩ := h
  obtain ⟨l1, l2, l3⟩ := ls_ne hl
  have h9 := h8 _ l2
  have hr : ∀ u, rem_ S A (B ++ [lsU (rem_ S A B)]) u ≤ rem_ S A B u := fun u => by rw [rem_B]; have := cB_nn A (u - lsU (rem_ S A B)); omega
  refine ⟨h1, app0 h2, h3, by rw [List.length_append, List.length_singleton]; omega, h5, pw_app h6 (fun a ha => h9.2 a ha), fun u => ?_, fun u hu => ?_⟩
  · by_cases c : 0 < cB A (u - lsU (rem_ S A B))
    · have := okB_iff.mp ok _ (cB_mem c)
      rw [show lsU (rem_ S A B) + (u - lsU (rem_ S A B)) = u by omega] at this
      exact this
    · rw [rem_B]; have := h7 u; have := cB_nn A (u - lsU (rem_ S A B)); omega
  · have hu2 : 0 < rem_ S A B u := by have := hr u; omega
    have h10 := h8 u hu2
    have hiu : inR u := Classical.byContradiction (fun z => by have a := hS.2.1 u z; have b := sm_nn A B u; unfold rem_ at hu2; omega)
    have h11 : ¬ u < lsU (rem_ S A B) := fun z => l3 u hiu z hu2
    refine ⟨h10.1, fun a ha => ?_⟩
    rcases List.mem_append.mp ha with z | z
    · exact h10.2 a z
    · rw [List.mem_singleton.mp z]; omega
/-- a pair of dice of these throws -/
def VP (S : Int → Int) (n m : Nat) (b0 : Int) (x : List Int × List Int) : Prop := x.1.length = n ∧ x.2.length = m ∧ x.1[0]? = some 0 ∧ x.2[0]? = some b0 ∧ x.1.Pairwise (· ≤ ·) ∧ x.2.Pairwise (· ≤ ·) ∧ ∀ u, sm x.1 x.2 u = S u
theorem eI_VP (hS : tS S n m) (h : eI S n m b0 A B) (ha : n ≤ A.length) (hb : m ≤ B.length) : VP S n m b0 (A, B) := by
  obtain ⟨h1, h2, h3, h4, h5, h6, h7, h8⟩ := h
  have h9 := rem_full hS (A := A) (B := B) (by omega) (by omega) h7
  exact ⟨by simp only; omega, by simp only; omega, h1, h2, h5, h6, fun u => by have := h9 u; unfold rem_ at this; simp only; omega⟩
theorem ext_VP (hS : tS S n m) : ∀ (f : Nat) (A B : List Int) (bar : Int), eI S n m b0 A B → ∀ x ∈ ext S n m b0 f A B bar, VP S n m b0 x ∧ A <+: x.1 ∧ B <+: x.2
  | 0, A, B, bar, h, x, hx => by
    rw [ext] at hx
    split at hx
    · rename_i c
      rw [List.mem_singleton.mp hx]
      exact ⟨eI_VP hS h c.1 c.2, List.prefix_refl _, List.prefix_refl _⟩
    · cases hx
  | f + 1, A, B, bar, h, x, hx => by
    rw [ext] at hx
    split at hx
    · rename_i c
      rw [List.mem_singleton.mp hx]
      exact ⟨eI_VP hS h c.1 c.2, List.prefix_refl _, List.prefix_refl _⟩
    · split at hx
      · cases hx
      · rename_i hl
        rcases List.mem_append.mp hx with z | z
        · split at z
          · rename_i c
            obtain ⟨i1, i2, i3⟩ := ext_VP hS f _ _ _ (eI_A hS h c.1 hl c.2.2) x z
            exact ⟨i1, (List.prefix_append A _).trans i2, i3⟩
          · cases z
        · split at z
          · rename_i c
            obtain ⟨i1, i2, i3⟩ := ext_VP hS f _ _ _ (eI_B hS h c.1 hl c.2) x z
            exact ⟨i1, i2, (List.prefix_append B _).trans i3⟩
          · cases z
theorem wy_VP (hS : tS S n m) : ∀ (bs : List Bool) (A B : List Int) (x : List Int × List Int), eI S n m b0 A B → A.length + bs.length = n + cT bs → B.length + cT bs = m → wy S b0 bs A B = some x → VP S n m b0 x
  | [], A, B, x, h, h1, h2, hw => by
    rw [wy] at hw
    split at hw
    · cases hw
      simp only [List.length_nil, cT] at h1 h2
      exact eI_VP hS h (by omega) (by omega)
    · cases hw
  | true :: bs, A, B, x, h, h1, h2, hw => by
    rw [wy] at hw
    split at hw
    · rename_i c
      simp only [List.length_cons, cT] at h1 h2
      exact wy_VP hS bs _ _ x (eI_B hS h (by omega) c.1 c.2.2) (by omega) (by rw [List.length_append, List.length_singleton]; omega) hw
    · cases hw
  | false :: bs, A, B, x, h, h1, h2, hw => by
    rw [wy] at hw
    split at hw
    · rename_i c
      have h9 := cT_le bs
      simp only [List.length_cons, cT] at h1 h2
      exact wy_VP hS bs _ _ x (eI_A hS h (by omega) c.1 c.2.2) (by rw [List.length_append, List.length_singleton]; omega) (by omega) hw
    · cases hw
theorem pre_sm {x : List Int × List Int} (hA : A <+: x.1) (hB : B <+: x.2) (u : Int) : sm A B u ≤ sm x.1 x.2 u := by
  obtain ⟨A2, e1⟩ := hA
  obtain ⟨B2, e2⟩ := hB
  rw [← e1, ← e2, sm_catA, sm_catB]
  have := sm_nn A B2 u
  have := sm_nn A2 (B ++ B2) u
  omega
theorem hd_le {A : List Int} {a0 : Int} (h : A.Pairwise (· ≤ ·)) (h0 : A[0]? = some a0) : ∀ a ∈ A, a0 ≤ a := fun a ha => by
  cases A with
  | nil => cases ha
  | cons x A =>
    simp at h0
    subst h0
    rcases List.mem_cons.mp ha with rfl | z
    · exact Int.le_refl _
    · exact (List.pairwise_cons.mp h).1 a z
/-- one more face, by a pair that is to come -/
theorem vp_step (hS : tS S n m) {x : List Int × List Int} (hx : VP S n m b0 x) (hA : A <+: x.1) (hB : B <+: x.2) (ha : 1 ≤ A.length) (hb : 1 ≤ B.length) (hnf : ¬ (n ≤ A.length ∧ m ≤ B.length)) :
    lsU (rem_ S A B) ≠ 5000 ∧ ((A.length < n ∧ (A ++ [lsU (rem_ S A B) - b0]) <+: x.1 ∧ okA S A B (lsU (rem_ S A B) - b0) = true ∧ ¬ lsU (rem_ S A B) - b0 < lastI A) ∨
      (B.length < m ∧ (B ++ [lsU (rem_ S A B)]) <+: x.2 ∧ okB S A B (lsU (rem_ S A B)) = true ∧ ¬ lsU (rem_ S A B) < lastI B ∧ ∀ v, x.1[A.length]? = some v → lsU (rem_ S A B) < v + b0)) := by
  obtain ⟨v1, v2, v3, v4, v5, v6, v7⟩ := hx
  obtain ⟨A2, e1⟩ := hA
  obtain ⟨B2, e2⟩ := hB
  obtain ⟨X, Y⟩ := x
  simp only at v1 v2 v3 v4 v5 v6 v7 e1 e2 ⊢
  have hrem : ∀ u, rem_ S A B u = sm A B2 u + sm A2 Y u := fun u => by
    unfold rem_
    rw [← v7 u, ← e1, sm_catA, ← e2, sm_catB, sm_catB]; omega
  have hnn : ∀ u, 0 ≤ rem_ S A B u := fun u => by rw [hrem]; have := sm_nn A B2 u; have := sm_nn A2 Y u; omega
  have hin : ∀ u, 0 < rem_ S A B u → inR u := fun u hu => Classical.byContradiction (fun z => by have a := hS.2.1 u z; have b := sm_nn A B u; unfold rem_ at hu; omega)
  have l0 : ∀ a ∈ X, 0 ≤ a := hd_le v5 v3
  have lb : ∀ b ∈ Y, b0 ≤ b := hd_le v6 v4
  have m0 : (0 : Int) ∈ A := by
    have : A[0]? = some 0 := by rw [← e1, List.getElem?_append_left (by omega)] at v3; exact v3
    exact List.mem_of_getElem? this
  have mb : b0 ∈ B := by
    have : B[0]? = some b0 := by rw [← e2, List.getElem?_append_left (by omega)] at v4; exact v4
    exact List.mem_of_getElem? this
  have pA : A.Pairwise (· ≤ ·) ∧ A2.Pairwise (· ≤ ·) ∧ ∀ a ∈ A, ∀ b ∈ A2, a ≤ b := by rw [← e1, List.pairwise_append] at v5; exact v5
  have pB : B.Pairwise (· ≤ ·) ∧ B2.Pairwise (· ≤ ·) ∧ ∀ a ∈ B, ∀ b ∈ B2, a ≤ b := by rw [← e2, List.pairwise_append] at v6; exact v6
  have lA : lastI A ∈ A := by
    unfold lastI
    rw [List.getLastD_eq_getLast?]
    cases h9 : A.getLast? with
    | none => rw [List.getLast?_eq_none_iff.mp h9] at ha; simp at ha
    | some z => exact List.mem_of_getLast? h9
  have lB : lastI B ∈ B := by
    unfold lastI
    rw [List.getLastD_eq_getLast?]
    cases h9 : B.getLast? with
    | none => rw [List.getLast?_eq_none_iff.mp h9] at hb; simp at hb
    | some z => exact List.mem_of_getLast? h9
  have okok : ∀ (A' B' : List Int), A' <+: X → B' <+: Y → ∀ u, 0 ≤ rem_ S A' B' u := fun A' B' h1 h2 u => by
    have := pre_sm (x := (X, Y)) h1 h2 u
    unfold rem_
    rw [← v7 u]; simp only at this; omega
  have hmA : ∀ a ∈ A2, a ∈ X := fun a h => by rw [← e1]; exact List.mem_append_right _ h
  have hmB : ∀ a ∈ B2, a ∈ Y := fun a h => by rw [← e2]; exact List.mem_append_right _ h
  have lenA : A.length + A2.length = n := by rw [← v1, ← e1, List.length_append]
  have lenB : B.length + B2.length = m := by rw [← v2, ← e2, List.length_append]
  -- the least of what is left
  have key : ∀ t, 0 < rem_ S A B t → (∀ a ∈ A2, t ≤ a + b0) → (∀ b ∈ B2, t ≤ b) → lsU (rem_ S A B) = t := fun t ht h1 h2 => by
    refine isF_eq (lsU_F _) (Or.inr ⟨hin t ht, ht, fun u _ hu h3 => ?_⟩)
    have h3 : 0 < rem_ S A B u := h3
    rw [hrem] at h3
    have q1 := sm_nn A B2 u
    have q2 := sm_nn A2 Y u
    by_cases c : 0 < sm A B2 u
    · obtain ⟨a, ha9, b, hb9, e⟩ := (sm_pos A B2 u).mp c
      have := h2 b hb9
      have := l0 a (by rw [← e1]; exact List.mem_append_left _ ha9)
      omega
    · obtain ⟨a, ha9, b, hb9, e⟩ := (sm_pos A2 Y u).mp (by omega)
      have := h1 a ha9
      have := lb b hb9
      omega
  have stA : ∀ a A3, A2 = a :: A3 → (∀ b ∈ B2, a + b0 ≤ b) → lsU (rem_ S A B) ≠ 5000 ∧ A.length < n ∧ (A ++ [lsU (rem_ S A B) - b0]) <+: X ∧ okA S A B (lsU (rem_ S A B) - b0) = true ∧ ¬ lsU (rem_ S A B) - b0 < lastI A := fun a A3 ea hle => by
    have hp : 0 < rem_ S A B (a + b0) := by
      rw [hrem]
      have q1 := sm_nn A B2 (a + b0)
      have q2 := (sm_pos A2 Y (a + b0)).mpr ⟨a, by rw [ea]; exact List.mem_cons_self, b0, by rw [← e2]; exact List.mem_append_left _ mb, rfl⟩
      omega
    have hl := key (a + b0) hp (fun a' h' => by
      rw [ea] at h' pA
      rcases List.mem_cons.mp h' with rfl | z
      · omega
      · have := (List.pairwise_cons.mp pA.2.1).1 a' z; omega) hle
    have hi := hin _ hp
    rw [hl, show a + b0 - b0 = a by omega]
    have hpre : (A ++ [a]) <+: X := ⟨A3, by rw [← e1, ea, List.append_assoc]; rfl⟩
    refine ⟨by omega, by rw [← lenA, ea, List.length_cons]; omega, hpre, okA_iff.mpr (fun b _ => okok _ _ hpre ⟨B2, e2⟩ _), ?_⟩
    have := pA.2.2 _ lA a (by rw [ea]; exact List.mem_cons_self)
    omega
  have stB : ∀ b B3, B2 = b :: B3 → (∀ a ∈ A2, b ≤ a + b0) → lsU (rem_ S A B) ≠ 5000 ∧ B.length < m ∧ (B ++ [lsU (rem_ S A B)]) <+: Y ∧ okB S A B (lsU (rem_ S A B)) = true ∧ ¬ lsU (rem_ S A B) < lastI B ∧ lsU (rem_ S A B) = b := fun b B3 eb hle => by
    have hp : 0 < rem_ S A B b := by
      rw [hrem]
      have q2 := sm_nn A2 Y b
      have q1 := (sm_pos A B2 b).mpr ⟨0, m0, b, by rw [eb]; exact List.mem_cons_self, by omega⟩
      omega
    have hl := key b hp hle (fun b' h' => by
      rw [eb] at h' pB
      rcases List.mem_cons.mp h' with rfl | z
      · omega
      · exact (List.pairwise_cons.mp pB.2.1).1 b' z)
    have hi := hin _ hp
    rw [hl]
    have hpre : (B ++ [b]) <+: Y := ⟨B3, by rw [← e2, eb, List.append_assoc]; rfl⟩
    refine ⟨by omega, by rw [← lenB, eb, List.length_cons]; omega, hpre, okB_iff.mpr (fun a _ => okok _ _ ⟨A2, e1⟩ hpre _), ?_, rfl⟩
    have := pB.2.2 _ lB b (by rw [eb]; exact List.mem_cons_self)
    omega
  have nextA : ∀ v, X[A.length]? = some v → ∃ A3, A2 = v :: A3 := fun v hv => by
    rw [← e1, List.getElem?_append_right (Nat.le_refl _), Nat.sub_self] at hv
    cases A2 with
    | nil => cases hv
    | cons a A3 => simp at hv; subst hv; exact ⟨A3, rfl⟩
  cases hA2 : A2 with
  | nil =>
    cases hB2 : B2 with
    | nil => rw [hA2] at lenA; rw [hB2] at lenB; simp only [List.length_nil] at lenA lenB; exact absurd ⟨by omega, by omega⟩ hnf
    | cons b B3 =>
      obtain ⟨s1, s2, s3, s4, s5, s6⟩ := stB b B3 hB2 (fun a h => by rw [hA2] at h; cases h)
      exact ⟨s1, Or.inr ⟨s2, s3, s4, s5, fun v hv => by obtain ⟨A3, e⟩ := nextA v hv; rw [hA2] at e; cases e⟩⟩
  | cons a A3 =>
    have hA3 : ∀ a' ∈ A2, a ≤ a' := fun a' h' => by
      rw [hA2] at h' pA
      rcases List.mem_cons.mp h' with rfl | z
      · exact Int.le_refl _
      · exact (List.pairwise_cons.mp pA.2.1).1 a' z
    cases hB2 : B2 with
    | nil =>
      obtain ⟨s1, s2⟩ := stA a A3 hA2 (fun b h => by rw [hB2] at h; cases h)
      exact ⟨s1, Or.inl s2⟩
    | cons b B3 =>
      have hB3 : ∀ b' ∈ B2, b ≤ b' := fun b' h' => by
        rw [hB2] at h' pB
        rcases List.mem_cons.mp h' with rfl | z
        · exact Int.le_refl _
        · exact (List.pairwise_cons.mp pB.2.1).1 b' z
      by_cases c : a + b0 ≤ b
      · obtain ⟨s1, s2⟩ := stA a A3 hA2 (fun b' h => by have := hB3 b' h; omega)
        exact ⟨s1, Or.inl s2⟩
      · obtain ⟨s1, s2, s3, s4, s5, s6⟩ := stB b B3 hB2 (fun a' h => by have := hA3 a' h; omega)
        exact ⟨s1, Or.inr ⟨s2, s3, s4, s5, fun v hv => by obtain ⟨A4, e⟩ := nextA v hv; rw [hA2] at e; cases e; omega⟩⟩
theorem pre_eq {A X : List Int} (h : A <+: X) (hl : X.length ≤ A.length) : A = X := List.IsPrefix.eq_of_length h (Nat.le_antisymm h.length_le hl)
theorem VP_ext (hS : tS S n m) {x : List Int × List Int} (hx : VP S n m b0 x) : ∀ (f : Nat) (A B : List Int) (bar : Int), A <+: x.1 → B <+: x.2 → 1 ≤ A.length → 1 ≤ B.length → (n - A.length) + (m - B.length) ≤ f → (bar = 6000 ∨ ∀ v, x.1[A.length]? = some v → bar < v + b0) → x ∈ ext S n m b0 f A B bar
  | 0, A, B, bar, hA, hB, la, lb, hf, hb => by
    have e1 := pre_eq hA (by rw [hx.1]; omega)
    have e2 := pre_eq hB (by rw [hx.2.1]; omega)
    rw [ext, if_pos (by omega), e1, e2]
    exact List.mem_singleton.mpr rfl
  | f + 1, A, B, bar, hA, hB, la, lb, hf, hb => by
    rw [ext]
    by_cases c : n ≤ A.length ∧ m ≤ B.length
    · have e1 := pre_eq hA (by rw [hx.1]; omega)
      have e2 := pre_eq hB (by rw [hx.2.1]; omega)
      rw [if_pos c, e1, e2]
      exact List.mem_singleton.mpr rfl
    · obtain ⟨hl, hs⟩ := vp_step hS hx hA hB la lb c
      rw [if_neg c, if_neg hl]
      rcases hs with ⟨s1, s2, s3, s4⟩ | ⟨s1, s2, s3, s4, s5⟩
      · refine List.mem_append_left _ ?_
        have hne : lsU (rem_ S A B) ≠ bar := by
          rcases hb with z | z
          · have := (ls_ne hl).1; omega
          · obtain ⟨A2, e⟩ := s2
            have := z (lsU (rem_ S A B) - b0) (by rw [← e, List.append_assoc, List.getElem?_append_right (Nat.le_refl _), Nat.sub_self]; rfl)
            omega
        rw [if_pos ⟨s1, hne, s3⟩]
        exact VP_ext hS hx f _ _ _ s2 hB (by rw [List.length_append]; omega) lb (by rw [List.length_append, List.length_singleton]; omega) (Or.inl rfl)
      · refine List.mem_append_right _ ?_
        rw [if_pos ⟨s1, s3⟩]
        exact VP_ext hS hx f _ _ _ hA s2 la (by rw [List.length_append]; omega) (by rw [List.length_append, List.length_singleton]; omega) (Or.inr s5)
theorem VP_wy (hS : tS S n m) {x : List Int × List Int} (hx : VP S n m b0 x) : ∀ (f : Nat) (A B : List Int), A <+: x.1 → B <+: x.2 → 1 ≤ A.length → 1 ≤ B.length → (n - A.length) + (m - B.length) = f → ∃ bs : List Bool, bs.length = f ∧ cT bs = m - B.length ∧ wy S b0 bs A B = some x
  | 0, A, B, hA, hB, la, lb, hf => by
    have e1 := pre_eq hA (by rw [hx.1]; omega)
    have e2 := pre_eq hB (by rw [hx.2.1]; omega)
    refine ⟨[], rfl, by simp only [cT]; omega, ?_⟩
    have h0 : ∀ u, ¬ 0 < rem_ S A B u := fun u => by unfold rem_; rw [e1, e2, hx.2.2.2.2.2.2 u]; omega
    have hl : lsU (rem_ S A B) = 5000 := by
      rcases lsU_F (rem_ S A B) with ⟨z, _⟩ | ⟨_, z, _⟩
      · exact z
      · exact absurd z (h0 _)
    rw [wy, if_pos hl, e1, e2]
  | f + 1, A, B, hA, hB, la, lb, hf => by
    obtain ⟨hl, hs⟩ := vp_step hS hx hA hB la lb (by omega)
    rcases hs with ⟨s1, s2, s3, s4⟩ | ⟨s1, s2, s3, s4, s5⟩
    · obtain ⟨bs, b1, b2, b3⟩ := VP_wy hS hx f _ _ s2 hB (by rw [List.length_append]; omega) lb (by rw [List.length_append, List.length_singleton]; omega)
      exact ⟨false :: bs, by rw [List.length_cons, b1], by rw [cT, b2], by rw [wy, if_pos ⟨hl, s4, s3⟩]; exact b3⟩
    · obtain ⟨bs, b1, b2, b3⟩ := VP_wy hS hx f _ _ hA s2 la (by rw [List.length_append]; omega) (by rw [List.length_append, List.length_singleton]; omega)
      exact ⟨true :: bs, by rw [List.length_cons, b1], by rw [cT, b2, List.length_append, List.length_singleton]; omega, by rw [wy, if_pos ⟨hl, s4, s3⟩]; exact b3⟩
end
