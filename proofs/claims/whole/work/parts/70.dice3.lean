/-! dice: the order of the pairs -/
/-- which pair comes first -/
def LT9 (y x : List Int × List Int) : Prop := ∃ j, j < 12 ∧ padP y j < padP x j ∧ ∀ i, i < j → padP y i = padP x i
theorem cmpP_sp {f g : Nat → Int} : ∀ (d k : Nat), (cmpP f g d k = 0 ∧ ∀ j, k ≤ j → j < k + d → f j = g j) ∨ (cmpP f g d k = 1 ∧ ∃ j, k ≤ j ∧ j < k + d ∧ f j < g j ∧ ∀ i, k ≤ i → i < j → f i = g i) ∨ (cmpP f g d k = -1 ∧ ∃ j, k ≤ j ∧ j < k + d ∧ g j < f j ∧ ∀ i, k ≤ i → i < j → g i = f i)
  | 0, k => Or.inl ⟨rfl, fun j h1 h2 => by omega⟩
  | d + 1, k => by
    rw [cmpP]
    by_cases e : f k = g k
    · rw [if_pos e]
      rcases cmpP_sp d (k + 1) with ⟨a, b⟩ | ⟨a, j, b1, b2, b3, b4⟩ | ⟨a, j, b1, b2, b3, b4⟩
      · refine Or.inl ⟨a, fun j h1 h2 => ?_⟩
        by_cases ej : j = k
        · rw [ej]; exact e
        · exact b j (by omega) (by omega)
      · refine Or.inr (Or.inl ⟨a, j, by omega, by omega, b3, fun i h1 h2 => ?_⟩)
        by_cases ej : i = k
        · rw [ej]; exact e
        · exact b4 i (by omega) h2
      · refine Or.inr (Or.inr ⟨a, j, by omega, by omega, b3, fun i h1 h2 => ?_⟩)
        by_cases ej : i = k
        · rw [ej]; exact e.symm
        · exact b4 i (by omega) h2
    · rw [if_neg e]
      by_cases l : g k < f k
      · rw [if_pos l]
        exact Or.inr (Or.inr ⟨rfl, k, Nat.le_refl k, by omega, l, fun i h1 h2 => by omega⟩)
      · rw [if_neg l]
        exact Or.inr (Or.inl ⟨rfl, k, Nat.le_refl k, by omega, by omega, fun i h1 h2 => by omega⟩)
section
variable {x y z : List Int × List Int} {n m : Nat}
theorem LT9.irr (h : LT9 x x) : False := by obtain ⟨j, _, h, _⟩ := h; omega
theorem LT9.tr (h1 : LT9 x y) (h2 : LT9 y z) : LT9 x z := by
  obtain ⟨j, a1, a2, a3⟩ := h1
  obtain ⟨k, b1, b2, b3⟩ := h2
  rcases Nat.lt_trichotomy j k with c | c | c
  · exact ⟨j, a1, by rw [← b3 j c]; exact a2, fun i hi => by rw [a3 i hi]; exact b3 i (by omega)⟩
  · subst c
    exact ⟨j, a1, by omega, fun i hi => by rw [a3 i hi]; exact b3 i hi⟩
  · exact ⟨k, b1, by rw [a3 k c]; exact b2, fun i hi => by rw [a3 i (by omega)]; exact b3 i hi⟩
theorem cmp9 : (cmpP (padP y) (padP x) 12 0 = 0 ∧ ∀ j, j < 12 → padP y j = padP x j) ∨ (cmpP (padP y) (padP x) 12 0 = 1 ∧ LT9 y x) ∨ (cmpP (padP y) (padP x) 12 0 = -1 ∧ LT9 x y) := by
  rcases cmpP_sp (f := padP y) (g := padP x) 12 0 with ⟨a, b⟩ | ⟨a, j, b1, b2, b3, b4⟩ | ⟨a, j, b1, b2, b3, b4⟩
  · exact Or.inl ⟨a, fun j hj => b j (by omega) (by omega)⟩
  · exact Or.inr (Or.inl ⟨a, j, by omega, b3, fun i hi => b4 i (by omega) hi⟩)
  · exact Or.inr (Or.inr ⟨a, j, by omega, b3, fun i hi => b4 i (by omega) hi⟩)
/-- both dice have their faces -/
def len9 (n m : Nat) (x : List Int × List Int) : Prop := x.1.length = n ∧ x.2.length = m
theorem lst_eq {A B : List Int} (h : A.length = B.length) (he : ∀ j, j < A.length → A.getD j 0 = B.getD j 0) : A = B := by
  refine List.ext_getElem h (fun j h1 h2 => ?_)
  have := he j h1
  rw [List.getD_eq_getElem?_getD, List.getD_eq_getElem?_getD, List.getElem?_eq_getElem h1, List.getElem?_eq_getElem h2] at this
  exact this
theorem pad_inj (h6 : n ≤ 6 ∧ m ≤ 6) (hx : len9 n m x) (hy : len9 n m y) (h : ∀ j, j < 12 → padP y j = padP x j) : y = x := by
  obtain ⟨X, X2⟩ := x
  obtain ⟨Y, Y2⟩ := y
  obtain ⟨x1, x2⟩ := hx
  obtain ⟨y1, y2⟩ := hy
  simp only at x1 x2 y1 y2
  have e1 : Y = X := lst_eq (by omega) (fun j hj => by
    have := h j (by omega)
    unfold padP at this
    rw [if_pos (by omega), if_pos (by omega)] at this
    exact this)
  have e2 : Y2 = X2 := lst_eq (by omega) (fun j hj => by
    have := h (6 + j) (by omega)
    unfold padP at this
    rw [if_neg (by omega), if_neg (by omega), show 6 + j - 6 = j by omega] at this
    exact this)
  rw [e1, e2]
theorem ins_mem (h6 : n ≤ 6 ∧ m ≤ 6) (hx : len9 n m x) : ∀ (L : DL), (∀ y ∈ L, len9 n m y) → ∀ z, z ∈ insL x L ↔ z = x ∨ z ∈ L
  | [], _, z => by simp [insL]
  | y :: L, hL, z => by
    have ih := ins_mem h6 hx L (fun y hy => hL y (List.mem_cons_of_mem _ hy)) z
    rw [insL]
    rcases cmp9 (y := y) (x := x) with ⟨a, b⟩ | ⟨a, b⟩ | ⟨a, b⟩
    · rw [a, if_neg (by omega), if_pos rfl]
      have e := pad_inj h6 hx (hL y List.mem_cons_self) b
      rw [e, List.mem_cons]
      constructor
      · intro h; exact Or.inr h
      · rintro (h | h)
        · exact Or.inl h
        · exact h
    · rw [a, if_pos (by omega), List.mem_cons, List.mem_cons, ih]
      constructor
      · rintro (h | h | h)
        · exact Or.inr (Or.inl h)
        · exact Or.inl h
        · exact Or.inr (Or.inr h)
      · rintro (h | h | h)
        · exact Or.inr (Or.inl h)
        · exact Or.inl h
        · exact Or.inr (Or.inr h)
    · rw [a, if_neg (by omega), if_neg (by omega), List.mem_cons]
theorem ins_srt (h6 : n ≤ 6 ∧ m ≤ 6) (hx : len9 n m x) : ∀ (L : DL), (∀ y ∈ L, len9 n m y) → L.Pairwise LT9 → (insL x L).Pairwise LT9
  | [], _, _ => by simp [insL]
  | y :: L, hL, hp => by
    have hL2 : ∀ y ∈ L, len9 n m y := fun y hy => hL y (List.mem_cons_of_mem _ hy)
    have hp2 := List.pairwise_cons.mp hp
    have ih := ins_srt h6 hx L hL2 hp2.2
    rw [insL]
    rcases cmp9 (y := y) (x := x) with ⟨a, b⟩ | ⟨a, b⟩ | ⟨a, b⟩
    · rw [a, if_neg (by omega), if_pos rfl]; exact hp
    · rw [a, if_pos (by omega)]
      refine List.pairwise_cons.mpr ⟨fun z hz => ?_, ih⟩
      rcases (ins_mem h6 hx L hL2 z).mp hz with rfl | h
      · exact b
      · exact hp2.1 z h
    · rw [a, if_neg (by omega), if_neg (by omega)]
      refine List.pairwise_cons.mpr ⟨fun z hz => ?_, hp⟩
      rcases List.mem_cons.mp hz with rfl | h
      · exact b
      · exact b.tr (hp2.1 z h)
theorem srt_eq : ∀ (L M : DL), L.Pairwise LT9 → M.Pairwise LT9 → (∀ z, z ∈ L ↔ z ∈ M) → L = M
  | [], [], _, _, _ => rfl
  | [], y :: M, _, _, h => by have := (h y).mpr List.mem_cons_self; cases this
  | x :: L, [], _, _, h => by have := (h x).mp List.mem_cons_self; cases this
  | x :: L, y :: M, h1, h2, h => by
    have p1 := List.pairwise_cons.mp h1
    have p2 := List.pairwise_cons.mp h2
    have e : x = y := by
      rcases List.mem_cons.mp ((h x).mp List.mem_cons_self) with e | c1
      · exact e
      · rcases List.mem_cons.mp ((h y).mpr List.mem_cons_self) with e | c2
        · exact e.symm
        · exact ((p1.1 y c2).tr (p2.1 x c1)).irr.elim
    subst e
    rw [srt_eq L M p1.2 p2.2 (fun z => ?_)]
    constructor
    · intro hz
      rcases List.mem_cons.mp ((h z).mp (List.mem_cons_of_mem _ hz)) with e | c
      · subst e; exact (p1.1 z hz).irr.elim
      · exact c
    · intro hz
      rcases List.mem_cons.mp ((h z).mpr (List.mem_cons_of_mem _ hz)) with e | c
      · subst e; exact (p2.1 z hz).irr.elim
      · exact c
end
section
variable {S : Int → Int} {b0 : Int} {n m : Nat}
theorem mpL_mem (h6 : n ≤ 6 ∧ m ≤ 6) (N : Nat) (hP : ∀ b z, b < N → onN b 10 + 1 = m → wy S b0 (bl b 0 (n + m - 2)) [0] [b0] = some z → len9 n m z) : ∀ b, b ≤ N → (∀ z, z ∈ mpL S b0 n m b ↔ ∃ b', b' < b ∧ onN b' 10 + 1 = m ∧ wy S b0 (bl b' 0 (n + m - 2)) [0] [b0] = some z) ∧ (mpL S b0 n m b).Pairwise LT9
  | 0, _ => ⟨fun z => by rw [mpL]; exact ⟨(fun h => nomatch h), (fun ⟨b', h, _⟩ => by omega)⟩, by rw [mpL]; exact List.Pairwise.nil⟩
  | b + 1, hb => by
    obtain ⟨i1, i2⟩ := mpL_mem h6 N hP b (by omega)
    have hl : ∀ y ∈ mpL S b0 n m b, len9 n m y := fun y hy => by
      obtain ⟨b', c1, c2, c3⟩ := (i1 y).mp hy
      exact hP b' y (by omega) c2 c3
    have up : ∀ z, (∃ b', b' < b ∧ onN b' 10 + 1 = m ∧ wy S b0 (bl b' 0 (n + m - 2)) [0] [b0] = some z) → ∃ b', b' < b + 1 ∧ onN b' 10 + 1 = m ∧ wy S b0 (bl b' 0 (n + m - 2)) [0] [b0] = some z := fun z ⟨b', c1, c2, c3⟩ => ⟨b', by omega, c2, c3⟩
    rw [mpL]
    by_cases c : onN b 10 + 1 = m
    · rw [if_pos c]
      cases hw : wy S b0 (bl b 0 (n + m - 2)) [0] [b0] with
      | none =>
        simp only
        refine ⟨fun z => ⟨fun h => up z ((i1 z).mp h), fun ⟨b', c1, c2, c3⟩ => (i1 z).mpr ⟨b', ?_, c2, c3⟩⟩, i2⟩
        by_cases e : b' = b
        · subst e; rw [hw] at c3; cases c3
        · omega
      | some x =>
        simp only
        have hx := hP b x (by omega) c hw
        refine ⟨fun z => ?_, ins_srt h6 hx _ hl i2⟩
        rw [ins_mem h6 hx _ hl z]
        constructor
        · rintro (h | h)
          · subst h; exact ⟨b, by omega, c, hw⟩
          · exact up z ((i1 z).mp h)
        · rintro ⟨b', c1, c2, c3⟩
          by_cases e : b' = b
          · subst e; rw [hw] at c3; cases c3; exact Or.inl rfl
          · exact Or.inr ((i1 z).mpr ⟨b', by omega, c2, c3⟩)
    · rw [if_neg c]
      refine ⟨fun z => ⟨fun h => up z ((i1 z).mp h), fun ⟨b', c1, c2, c3⟩ => (i1 z).mpr ⟨b', ?_, c2, c3⟩⟩, i2⟩
      by_cases e : b' = b
      · subst e; exact absurd c2 c
      · omega
def bv : List Bool → Nat
  | [] => 0
  | x :: bs => (if x = true then 1 else 0) + 2 * bv bs
theorem bv_lt : ∀ bs : List Bool, bv bs < 2 ^ bs.length
  | [] => by simp [bv]
  | x :: bs => by
    have := bv_lt bs
    rw [bv, List.length_cons, Nat.pow_succ]
    split <;> omega
theorem bl_bv : ∀ (bs : List Bool) (k bits : Nat), bits / 2 ^ k = bv bs → bl bits k bs.length = bs
  | [], _, _, _ => rfl
  | x :: bs, k, bits, h => by
    have h2 : bits / 2 ^ (k + 1) = bv bs := by
      rw [Nat.pow_succ, ← Nat.div_div_eq_div_mul, h, bv]
      split <;> omega
    rw [List.length_cons, bl, bl_bv bs (k + 1) bits h2, h, bv]
    cases x
    · rw [if_neg (by decide), decide_eq_false (by omega)]
    · rw [if_pos rfl, decide_eq_true (by omega)]
theorem eI_1 (h1 : 1 ≤ n) (h2 : 1 ≤ m) (hr : ∀ u, 0 ≤ rem_ S [0] [b0] u) (hl : ∀ u, 0 < S u → b0 ≤ u) : eI S n m b0 [0] [b0] := by
  refine ⟨rfl, rfl, by simp; omega, by simp; omega, List.pairwise_singleton _ _, List.pairwise_singleton _ _, hr, fun u hu => ?_⟩
  have h3 := sm_nn [0] [b0] u
  have h4 := hl u (by unfold rem_ at hu; omega)
  exact ⟨fun a ha => by rw [List.mem_singleton.mp ha]; omega, fun b hb => by rw [List.mem_singleton.mp hb]; exact h4⟩
theorem mpL_VP (h1 : 1 ≤ n ∧ n ≤ 6) (h2 : 1 ≤ m ∧ m ≤ 6) (hS : tS S n m) (hE : eI S n m b0 [0] [b0]) : (∀ z, z ∈ mpL S b0 n m (2 ^ (n + m - 2)) ↔ VP S n m b0 z) ∧ (mpL S b0 n m (2 ^ (n + m - 2))).Pairwise LT9 := by
  have hV : ∀ b z, b < 2 ^ (n + m - 2) → onN b 10 + 1 = m → wy S b0 (bl b 0 (n + m - 2)) [0] [b0] = some z → VP S n m b0 z := fun b z hb hm hw => by
    have hc := ones_cT hb (by omega)
    exact wy_VP hS _ _ _ z hE (by rw [bl_len, hc]; simp only [List.length_singleton]; omega) (by rw [hc]; simp only [List.length_singleton]; omega) hw
  obtain ⟨a, b⟩ := mpL_mem (S := S) (b0 := b0) (n := n) (m := m) ⟨h1.2, h2.2⟩ (2 ^ (n + m - 2)) (fun b z x y w => ⟨(hV b z x y w).1, (hV b z x y w).2.1⟩) _ (Nat.le_refl _)
  refine ⟨fun z => ?_, b⟩
  rw [a z]
  constructor
  · rintro ⟨b', c1, c2, c3⟩; exact hV b' z c1 c2 c3
  · intro hz
    have q1 : [(0 : Int)] <+: z.1 := by
      have := hz.2.2.1
      cases hq : z.1 with
      | nil => rw [hq] at this; cases this
      | cons p P => rw [hq] at this; simp at this; subst this; exact ⟨P, rfl⟩
    have q2 : [b0] <+: z.2 := by
      have := hz.2.2.2.1
      cases hq : z.2 with
      | nil => rw [hq] at this; cases this
      | cons p P => rw [hq] at this; simp at this; subst this; exact ⟨P, rfl⟩
    obtain ⟨bs, e1, e2, e3⟩ := VP_wy hS hz (n + m - 2) [0] [b0] q1 q2 (by simp) (by simp) (by simp only [List.length_singleton]; omega)
    have hlt := bv_lt bs
    rw [e1] at hlt
    have hb := bl_bv bs 0 (bv bs) (by simp)
    rw [e1] at hb
    refine ⟨bv bs, hlt, ?_, by rw [hb]; exact e3⟩
    rw [← ones_cT hlt (by omega), hb, e2]
    simp only [List.length_singleton]; omega
theorem ext_bar (hS : tS S n m) : ∀ (f : Nat) (A B : List Int) (bar : Int), eI S n m b0 A B → (∀ u, 0 < rem_ S A B u → bar ≤ u) → A.length < n → ∀ y ∈ ext S n m b0 f A B bar, ∀ v, y.1[A.length]? = some v → bar < v + b0
  | 0, A, B, bar, h, hb, hA, y, hy, v, hv => by
    rw [ext, if_neg (by omega)] at hy; cases hy
  | f + 1, A, B, bar, h, hb, hA, y, hy, v, hv => by
    rw [ext, if_neg (by omega)] at hy
    split at hy
    · cases hy
    · rename_i hl
      obtain ⟨l1, l2, l3⟩ := ls_ne hl
      have h9 := hb _ l2
      rcases List.mem_append.mp hy with z | z
      · split at z
        · rename_i c
          obtain ⟨i1, ⟨P, i2⟩, i3⟩ := ext_VP hS f _ _ _ (eI_A hS h c.1 hl c.2.2) y z
          rw [← i2, List.append_assoc, List.getElem?_append_right (Nat.le_refl _), Nat.sub_self] at hv
          simp at hv
          have := c.2.1
          omega
        · cases z
      · split at z
        · rename_i c
          have := ext_bar hS f _ _ _ (eI_B hS h c.1 hl c.2) (fun u hu => by
            rw [rem_B] at hu
            have hu2 : 0 < rem_ S A B u := by have := cB_nn A (u - lsU (rem_ S A B)); omega
            have hi : inR u := Classical.byContradiction (fun z => by have a := hS.2.1 u z; have b := sm_nn A B u; unfold rem_ at hu2; omega)
            exact Int.not_lt.mp (fun z => l3 u hi z hu2)) hA y z v hv
          omega
        · cases z
theorem ext_srt (h6 : n ≤ 6) (hS : tS S n m) : ∀ (f : Nat) (A B : List Int) (bar : Int), eI S n m b0 A B → (ext S n m b0 f A B bar).Pairwise LT9
  | 0, A, B, bar, h => by
    rw [ext]
    split
    · exact List.pairwise_singleton _ _
    · exact List.Pairwise.nil
  | f + 1, A, B, bar, h => by
    rw [ext]
    split
    · exact List.pairwise_singleton _ _
    · split
      · exact List.Pairwise.nil
      · rename_i hl
        obtain ⟨l1, l2, l3⟩ := ls_ne hl
        rw [List.pairwise_append]
        refine ⟨?_, ?_, fun x hx y hy => ?_⟩
        · split
          · rename_i c; exact ext_srt h6 hS f _ _ _ (eI_A hS h c.1 hl c.2.2)
          · exact List.Pairwise.nil
        · split
          · rename_i c; exact ext_srt h6 hS f _ _ _ (eI_B hS h c.1 hl c.2)
          · exact List.Pairwise.nil
        · split at hx
          · rename_i c
            split at hy
            · rename_i d
              obtain ⟨i1, ⟨P, i2⟩, i3⟩ := ext_VP hS f _ _ _ (eI_A hS h c.1 hl c.2.2) x hx
              obtain ⟨j1, ⟨P2, j2⟩, j3⟩ := ext_VP hS f _ _ _ (eI_B hS h d.1 hl d.2) y hy
              have hin : A.length < y.1.length := by rw [j1.1]; exact c.1
              have hb := ext_bar hS f _ _ _ (eI_B hS h d.1 hl d.2) (fun u hu => by
                rw [rem_B] at hu
                have hu2 : 0 < rem_ S A B u := by have := cB_nn A (u - lsU (rem_ S A B)); omega
                have hi : inR u := Classical.byContradiction (fun z => by have a := hS.2.1 u z; have b := sm_nn A B u; unfold rem_ at hu2; omega)
                exact Int.not_lt.mp (fun z => l3 u hi z hu2)) c.1 y hy _ (List.getElem?_eq_getElem hin)
              refine ⟨A.length, by omega, ?_, fun i hi => ?_⟩
              · unfold padP
                rw [if_pos (by omega), if_pos (by omega), List.getD_eq_getElem?_getD, List.getD_eq_getElem?_getD, List.getElem?_eq_getElem hin, ← i2, List.append_assoc, List.getElem?_append_right (Nat.le_refl _), Nat.sub_self]
                simp only [List.cons_append, List.getElem?_cons_zero, Option.getD_some]
                omega
              · unfold padP
                rw [if_pos (by omega), if_pos (by omega), List.getD_eq_getElem?_getD, List.getD_eq_getElem?_getD, ← i2, ← j2, List.append_assoc, List.getElem?_append_left hi, List.getElem?_append_left hi]
            · cases hy
          · cases hx
theorem ext_mpL (h1 : 1 ≤ n ∧ n ≤ 6) (h2 : 1 ≤ m ∧ m ≤ 6) (hS : tS S n m) (hE : eI S n m b0 [0] [b0]) : ext S n m b0 10 [0] [b0] 6000 = mpL S b0 n m (2 ^ (n + m - 2)) := by
  obtain ⟨a, b⟩ := mpL_VP h1 h2 hS hE
  refine srt_eq _ _ (ext_srt h1.2 hS 10 _ _ _ hE) b (fun z => ?_)
  rw [a z]
  constructor
  · intro h; exact (ext_VP hS 10 _ _ _ hE z h).1
  · intro hz
    have q1 : [(0 : Int)] <+: z.1 := by
      have := hz.2.2.1
      cases hq : z.1 with
      | nil => rw [hq] at this; cases this
      | cons p P => rw [hq] at this; simp at this; subst this; exact ⟨P, rfl⟩
    have q2 : [b0] <+: z.2 := by
      have := hz.2.2.2.1
      cases hq : z.2 with
      | nil => rw [hq] at this; cases this
      | cons p P => rw [hq] at this; simp at this; subst this; exact ⟨P, rfl⟩
    exact VP_ext hS hz 10 [0] [b0] 6000 q1 q2 (by simp) (by simp) (by simp only [List.length_singleton]; omega) (Or.inl rfl)
end
section
variable {xwg : Nat → Int} {at_ wt : Nat → Int} {W : Int} {n nf mf q : Nat}
theorem mS_den (A : lwN n at_ wt W) (eT : Tm xwg q = den at_ wt n) (h1 : 1 ≤ nf ∧ nf ≤ 6) (h2 : 1 ≤ mf ∧ mf ≤ 6) (hd : Int.tmod ((nf : Int) * (mf : Int)) W = 0) : mS xwg q W nf mf = fun u => den at_ wt n u * Int.tdiv ((nf : Int) * (mf : Int)) W := by
  funext u
  obtain ⟨q1, q2, q3, q4, q5⟩ := src_S A h1 h2 hd
  have hW := A.2.2.2.1
  unfold mS
  rw [eT]
  generalize Int.tdiv ((nf : Int) * (mf : Int)) W = Q at q3 ⊢
  rw [Int.mul_assoc, ← q3, Int.mul_left_comm, Int.mul_tdiv_cancel_left _ (by omega)]
theorem dc_eq (A : lwN n at_ wt W) (eT : Tm xwg q = den at_ wt n) (h1 : 1 ≤ nf ∧ nf ≤ 6) (h2 : 1 ≤ mf ∧ mf ≤ 6) : (Int.tmod ((nf : Int) * (mf : Int)) W = 0 → lsU (mS xwg q W nf mf) = at_ 0 ∧ at_ 0 ≠ 5000) ∧ dcL at_ wt n W nf mf = dcM (Tm xwg q) (mS xwg q W nf mf) (at_ 0) W nf mf ∧ ∀ x ∈ dcL at_ wt n W nf mf, len9 nf mf x := by
  by_cases hd : Int.tmod ((nf : Int) * (mf : Int)) W = 0
  · have hn := A.1
    have hr := (A.2.2.1 0 (by omega)).1
    obtain ⟨q1, q2, q3, q4, q5⟩ := src_S A h1 h2 hd
    have e := mS_den A eT h1 h2 hd
    have p0 := src_0 A h1 h2 hd
    have pl : ∀ u, 0 < den at_ wt n u * Int.tdiv ((nf : Int) * (mf : Int)) W → at_ 0 ≤ u ∧ inR u := fun u hu => by
      rcases Classical.em (∃ i, i < n ∧ at_ i = u) with ⟨i, hi, e⟩ | h
      · subst e
        refine ⟨?_, (A.2.2.1 i hi).1⟩
        by_cases z : i = 0
        · rw [z]; exact Int.le_refl _
        · have := A.2.1 0 i (by omega) hi; omega
      · rw [den_0 (fun i hi e => h ⟨i, hi, e⟩)] at hu; omega
    have hS : tS (fun u => den at_ wt n u * Int.tdiv ((nf : Int) * (mf : Int)) W) nf mf := by
      have nn : ∀ u, 0 ≤ den at_ wt n u * Int.tdiv ((nf : Int) * (mf : Int)) W := fun u => Int.mul_nonneg (lw_nn A u) (by omega)
      refine ⟨nn, fun u hu => ?_, ?_⟩
      · have := nn u
        have := fun z => (pl u z).2
        exact Classical.byContradiction (fun z => hu (this (by simp only at z; omega)))
      · have := sT_mul (c := Int.tdiv ((nf : Int) * (mf : Int)) W) (F := den at_ wt n)
        rw [lw_tot A] at this
        have e9 : (fun u => den at_ wt n u * Int.tdiv ((nf : Int) * (mf : Int)) W) = fun u => Int.tdiv ((nf : Int) * (mf : Int)) W * den at_ wt n u := funext (fun u => Int.mul_comm _ _)
        rw [e9, this, Int.mul_comm]
        exact q3
    have hE := eI_1 (S := fun u => den at_ wt n u * Int.tdiv ((nf : Int) * (mf : Int)) W) h1.1 h2.1 (src_dP A h1 h2 hd).2.2.2.2.2.2 (fun u hu => (pl u hu).1)
    refine ⟨fun _ => ⟨?_, by omega⟩, ?_, fun x hx => ?_⟩
    · rw [e]
      exact isF_eq (lsU_F _) (Or.inr ⟨hr, by simp only; omega, fun u _ hu h3 => by have := (pl u h3).1; omega⟩)
    · rw [dcL, dcM, if_pos hd, if_pos hd, e]
      exact ext_mpL h1 h2 hS hE
    · rw [dcL, if_pos hd] at hx
      have := (ext_VP hS 10 _ _ _ hE x hx).1
      exact ⟨this.1, this.2.1⟩
  · refine ⟨fun z => absurd z hd, by rw [dcL, dcM, if_neg hd, if_neg hd], fun x hx => by rw [dcL, if_neg hd] at hx; cases hx⟩
theorem di_rows {kp dc : Nat → Int} {L : DL} (h1 : nf ≤ 6) (h2 : mf ≤ 6) (hl : L.length ≤ 252) (hL : ∀ x ∈ L, len9 nf mf x) (hk : rows kp 0 L) (hd : rowsM dc L) : diR (L.length : Int) (nf : Int) (mf : Int) kp dc := by
  refine ⟨⟨⟨by omega, by omega⟩, ⟨by omega, by omega⟩, by omega, by omega⟩, fun i d hi => ?_⟩
  have hi2 : i < L.length := by omega
  have hx := List.getElem?_eq_getElem hi2
  have hlx := hL _ (List.getElem_mem hi2)
  have a := hk i _ hx
  have b := hd i _ hx
  rw [Nat.zero_add] at a
  generalize L[i] = x at a b hlx
  refine ⟨fun h => ?_, fun h => ?_⟩
  · have hd2 : d < x.1.length := by rw [hlx.1]; omega
    rw [(a d _ (by omega)).1 (List.getElem?_eq_getElem hd2), b d (by omega)]
    unfold padP
    rw [if_pos (by omega), List.getD_eq_getElem?_getD, List.getElem?_eq_getElem hd2]; rfl
  · have hd2 : d < x.2.length := by rw [hlx.2]; omega
    rw [(a d _ (by omega)).2 (List.getElem?_eq_getElem hd2), Nat.add_assoc, b (6 + d) (by omega)]
    unfold padP
    rw [if_neg (by omega), List.getD_eq_getElem?_getD, show 6 + d - 6 = d by omega, List.getElem?_eq_getElem hd2]; rfl
end
