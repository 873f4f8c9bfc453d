/-! dice as lists of faces -/
def cB : List Int → Int → Int
  | [], _ => 0
  | b :: B, v => (if b = v then 1 else 0) + cB B v
def sm : List Int → List Int → Int → Int
  | [], _, _ => 0
  | a :: A, B, u => cB B (u - a) + sm A B u
def rem_ (S : Int → Int) (A B : List Int) (u : Int) : Int := S u - sm A B u
def fsN (R : Int → Int) : Nat → Nat → Int
  | 0, _ => 5000
  | d + 1, k => if 0 < R ((k : Int) - 1000) then (k : Int) - 1000 else fsN R d (k + 1)
/-- the least throw that is left, or 5000 -/
def lsU (R : Int → Int) : Int := fsN R 2001 0
def okA (S : Int → Int) (A B : List Int) (v : Int) : Bool := B.all (fun b => decide (0 ≤ rem_ S (A ++ [v]) B (v + b)))
def okB (S : Int → Int) (A B : List Int) (w : Int) : Bool := A.all (fun a => decide (0 ≤ rem_ S A (B ++ [w]) (w + a)))
theorem okA_iff {S : Int → Int} {A B : List Int} {v : Int} : okA S A B v = true ↔ ∀ b ∈ B, 0 ≤ rem_ S (A ++ [v]) B (v + b) := by unfold okA; simp
theorem okB_iff {S : Int → Int} {A B : List Int} {w : Int} : okB S A B w = true ↔ ∀ a ∈ A, 0 ≤ rem_ S A (B ++ [w]) (w + a) := by unfold okB; simp
abbrev DL : Type := List (List Int × List Int)
/-- all pairs that go on from these faces -/
def ext (S : Int → Int) (n m : Nat) (b0 : Int) : Nat → List Int → List Int → Int → DL
  | 0, A, B, _ => if n ≤ A.length ∧ m ≤ B.length then [(A, B)] else []
  | f + 1, A, B, bar => if n ≤ A.length ∧ m ≤ B.length then [(A, B)] else if lsU (rem_ S A B) = 5000 then [] else
      (if A.length < n ∧ lsU (rem_ S A B) ≠ bar ∧ okA S A B (lsU (rem_ S A B) - b0) then ext S n m b0 f (A ++ [lsU (rem_ S A B) - b0]) B 6000 else []) ++
      (if B.length < m ∧ okB S A B (lsU (rem_ S A B)) then ext S n m b0 f A (B ++ [lsU (rem_ S A B)]) (lsU (rem_ S A B)) else [])
def exA (S : Int → Int) (n m : Nat) (b0 : Int) (f : Nat) (A B : List Int) (bar : Int) : DL := if A.length < n ∧ lsU (rem_ S A B) ≠ bar ∧ okA S A B (lsU (rem_ S A B) - b0) then ext S n m b0 f (A ++ [lsU (rem_ S A B) - b0]) B 6000 else []
def exB (S : Int → Int) (n m : Nat) (b0 : Int) (f : Nat) (A B : List Int) : DL := if B.length < m ∧ okB S A B (lsU (rem_ S A B)) then ext S n m b0 f A (B ++ [lsU (rem_ S A B)]) (lsU (rem_ S A B)) else []
theorem ext_s (S : Int → Int) (n m : Nat) (b0 : Int) (f : Nat) (A B : List Int) (bar : Int) (hd : ¬ (n ≤ A.length ∧ m ≤ B.length)) (hl : lsU (rem_ S A B) ≠ 5000) : ext S n m b0 (f + 1) A B bar = exA S n m b0 f A B bar ++ exB S n m b0 f A B := by
  rw [ext, if_neg hd, if_neg hl]; rfl
/-- how many ways there are -/
def pb : Nat → Nat → Nat
  | 0, _ => 1
  | _ + 1, 0 => 1
  | p + 1, q + 1 => pb p (q + 1) + pb (p + 1) q
theorem pb_pos : ∀ p q : Nat, 1 ≤ pb p q
  | 0, _ => by simp [pb]
  | _ + 1, 0 => by simp [pb]
  | p + 1, q + 1 => by have := pb_pos p (q + 1); simp only [pb]; omega
theorem pb_0 : ∀ p : Nat, pb p 0 = 1
  | 0 => by simp [pb]
  | _ + 1 => by simp [pb]
theorem ext_len (S : Int → Int) (n m : Nat) (b0 : Int) : ∀ (f : Nat) (A B : List Int) (bar : Int), (ext S n m b0 f A B bar).length ≤ pb (n - A.length) (m - B.length)
  | 0, A, B, bar => by
    have := pb_pos (n - A.length) (m - B.length)
    rw [ext]; split <;> simp <;> omega
  | f + 1, A, B, bar => by
    have h0 := pb_pos (n - A.length) (m - B.length)
    rw [ext]
    split
    · simp; omega
    · split
      · simp
      · rw [List.length_append]
        have hA : ∀ v x, (ext S n m b0 f (A ++ [v]) B x).length ≤ pb (n - (A.length + 1)) (m - B.length) := fun v x => by
          have := ext_len S n m b0 f (A ++ [v]) B x
          rw [List.length_append] at this; exact this
        have hB : ∀ v x, (ext S n m b0 f A (B ++ [v]) x).length ≤ pb (n - A.length) (m - (B.length + 1)) := fun v x => by
          have := ext_len S n m b0 f A (B ++ [v]) x
          rw [List.length_append] at this; exact this
        by_cases h1 : A.length < n <;> by_cases h2 : B.length < m
        · obtain ⟨p, hp⟩ : ∃ p, n - A.length = p + 1 := ⟨n - A.length - 1, by omega⟩
          obtain ⟨q, hq⟩ : ∃ q, m - B.length = q + 1 := ⟨m - B.length - 1, by omega⟩
          have e1 : n - (A.length + 1) = p := by omega
          have e2 : m - (B.length + 1) = q := by omega
          rw [hp, hq, pb]
          rw [e1, hq] at hA
          rw [hp, e2] at hB
          refine Nat.add_le_add ?_ ?_
          · split
            · exact hA _ _
            · simp
          · split
            · exact hB _ _
            · simp
        · rw [if_neg (show ¬ (B.length < m ∧ _) from fun z => h2 z.1)]
          have e1 : m - B.length = 0 := by omega
          rw [e1, pb_0] at h0 ⊢
          rw [e1] at hA
          split
          · have := hA (lsU (rem_ S A B) - b0) 6000; rw [pb_0] at this; simp; omega
          · simp
        · rw [if_neg (show ¬ (A.length < n ∧ _) from fun z => h1 z.1)]
          have e1 : n - A.length = 0 := by omega
          rw [e1] at h0 hB ⊢
          split
          · have := hB (lsU (rem_ S A B)) (lsU (rem_ S A B)); simp only [pb] at this ⊢; simp; omega
          · simp
        · exfalso; omega
section
variable {S : Int → Int} {A B : List Int} {u v w : Int} {o : Nat → Int}
theorem cB_app : ∀ (B : List Int) (w v : Int), cB (B ++ [w]) v = cB B v + (if w = v then 1 else 0)
  | [], w, v => by simp [cB]
  | b :: B, w, v => by simp only [List.cons_append, cB]; rw [cB_app B w v]; omega
theorem cB_nn : ∀ (B : List Int) (v : Int), 0 ≤ cB B v
  | [], _ => by simp [cB]
  | b :: B, v => by have := cB_nn B v; simp only [cB]; split <;> omega
theorem cB_pos : ∀ {B : List Int} {v : Int}, v ∈ B → 1 ≤ cB B v
  | b :: B, v, h => by
    simp only [cB]
    have := cB_nn B v
    rcases List.mem_cons.mp h with z | z
    · rw [if_pos z.symm]; omega
    · have := cB_pos z; split <;> omega
theorem cB_mem : ∀ {B : List Int} {v : Int}, 0 < cB B v → v ∈ B
  | [], v, h => by simp [cB] at h
  | b :: B, v, h => by
    simp only [cB] at h
    by_cases z : b = v
    · exact List.mem_cons.mpr (Or.inl z.symm)
    · rw [if_neg z] at h; exact List.mem_cons.mpr (Or.inr (cB_mem (by omega)))
theorem sm_nn : ∀ (A B : List Int) (u : Int), 0 ≤ sm A B u
  | [], _, _ => by simp [sm]
  | a :: A, B, u => by have := sm_nn A B u; have := cB_nn B (u - a); simp only [sm]; omega
theorem sm_appA : ∀ (A B : List Int) (v u : Int), sm (A ++ [v]) B u = sm A B u + cB B (u - v)
  | [], B, v, u => by simp [sm]
  | a :: A, B, v, u => by simp only [List.cons_append, sm]; rw [sm_appA A B v u]; omega
theorem sm_appB : ∀ (A B : List Int) (w u : Int), sm A (B ++ [w]) u = sm A B u + cB A (u - w)
  | [], B, w, u => by simp [sm, cB]
  | a :: A, B, w, u => by
    simp only [sm, cB]; rw [sm_appB A B w u, cB_app]
    by_cases z : w = u - a
    · rw [if_pos z, if_pos (by omega)]; omega
    · rw [if_neg z, if_neg (by omega)]; omega
theorem rem_A : rem_ S (A ++ [v]) B u = rem_ S A B u - cB B (u - v) := by unfold rem_; rw [sm_appA]; omega
theorem rem_B : rem_ S A (B ++ [w]) u = rem_ S A B u - cB A (u - w) := by unfold rem_; rw [sm_appB]; omega
/-- an array whose first places hold a list -/
def pre (A : List Int) (f : Nat → Int) : Prop := ∀ (j : Nat) (v : Int), A[j]? = some v → f j = v
theorem pre_up {f : Nat → Int} (h : pre A f) : pre (A ++ [v]) (va_up f A.length v) := by
  intro j x hx
  simp only [va_up]
  rcases Nat.lt_trichotomy j A.length with z | z | z
  · rw [if_neg (by omega)]
    rw [List.getElem?_append_left z] at hx
    exact h j x hx
  · rw [if_pos z]
    subst z
    rw [List.getElem?_append_right (Nat.le_refl _), Nat.sub_self] at hx
    simpa using hx
  · rw [List.getElem?_eq_none (by simp; omega)] at hx
    simp at hx
theorem pre_ext {f g : Nat → Int} (h : pre A f) (e : ∀ i, i < A.length → g i = f i) : pre A g := fun j v hj => by
  rw [e j (by
    rcases Nat.lt_or_ge j A.length with z | z
    · exact z
    · rw [List.getElem?_eq_none z] at hj; simp at hj)]
  exact h j v hj
theorem pre_cons {a : Int} {f : Nat → Int} (h : pre (a :: A) f) : f 0 = a ∧ pre A (fun j => f (j + 1)) := ⟨h 0 a rfl, fun j v hj => h (j + 1) v hj⟩
theorem sumZ_shift {F : Nat → Int} : ∀ n : Nat, sumZ F (n + 1) = F 0 + sumZ (fun i => F (i + 1)) n
  | 0 => by simp [sumZ]
  | n + 1 => by rw [sumZ, sumZ_shift n]; simp only [sumZ]; omega
theorem hits_cB {a : Int} : ∀ (B : List Int) (o : Nat → Int), pre B o → hits a o u B.length = cB B (u - a)
  | [], _, _ => rfl
  | b :: B, o, h => by
    have hc := pre_cons h
    have := hits_cB (a := a) B (fun j => o (j + 1)) hc.2
    unfold hits at this ⊢
    rw [List.length_cons, sumZ_shift, this, hc.1]
    simp only [cB]
    by_cases z : b = u - a
    · rw [if_pos z, if_pos (by omega)]
    · rw [if_neg z, if_neg (by omega)]
/-- taking the throws of a new face: all of them are left -/
theorem tk_iff {tl ta : Nat → Int} {len : Nat} {R : Int → Int} {a : Int} (hs : inc ta len) (ht : ∀ i, i < len → tl i = R (ta i)) (h0 : ∀ u, 0 ≤ R u) (hta : ∀ u, 0 < R u → ∃ i, i < len ∧ ta i = u) (hp : pre B o) : tkOK tl ta len a o B.length ↔ ∀ b ∈ B, 0 ≤ R (a + b) - cB B b := by
  have hm : ∀ k u, hits a o u k ≤ hits a o u (k + 1) := fun k u => by rw [hits_s]; split <;> omega
  have hmono : ∀ k d u, hits a o u k ≤ hits a o u (k + d) := fun k d u => by
    induction d with
    | zero => exact Int.le_refl _
    | succ d ih => have := hm (k + d) u; rw [← Nat.add_assoc]; omega
  constructor
  · intro h b hb
    -- the last place that holds b
    have key : ∀ y, y ≤ B.length → hits a o (a + b) y ≤ R (a + b) := by
      intro y
      induction y with
      | zero => intro _; have := h0 (a + b); simp [hits, sumZ]; omega
      | succ y ih =>
        intro hy
        rw [hits_s]
        by_cases e : a + o y = a + b
        · rw [if_pos e]
          obtain ⟨i, hi, ei, hg⟩ := h y (by omega)
          unfold dcr at hg
          rw [if_pos hi, ht i hi, ei, e] at hg
          omega
        · rw [if_neg e]; have := ih (by omega); omega
    have := key B.length (Nat.le_refl _)
    rw [hits_cB B o hp, show a + b - a = b by omega] at this
    omega
  · intro h k hk
    have hb := h B[k] (List.getElem_mem hk)
    have ek : o k = B[k] := hp k _ (List.getElem?_eq_getElem hk)
    have h1 : hits a o (a + B[k]) (k + 1) ≤ cB B B[k] := by
      have := hmono (k + 1) (B.length - (k + 1)) (a + B[k])
      rw [show k + 1 + (B.length - (k + 1)) = B.length by omega, hits_cB B o hp, show a + B[k] - a = B[k] by omega] at this
      exact this
    rw [hits_s, if_pos (by rw [ek])] at h1
    have h2 := (hits_in (a := a) (o := o) (a + B[k]) k).1
    obtain ⟨i, hi, ei⟩ := hta (a + B[k]) (by omega)
    refine ⟨i, hi, by rw [ei, ek], ?_⟩
    unfold dcr
    rw [if_pos hi, ht i hi, ei]; omega
theorem fsN_F {R : Int → Int} : ∀ (d k : Nat), k + d = 2001 → (∀ j, j < k → ¬ 0 < R ((j : Int) - 1000)) → isF (fun u => 0 < R u) (fsN R d k)
  | 0, k, e, h => Or.inl ⟨rfl, fun u hu z => h (u + 1000).toNat (by omega) (by rw [show ((u + 1000).toNat : Int) - 1000 = u by omega]; exact z)⟩
  | d + 1, k, e, h => by
    unfold fsN
    split
    · rename_i hp
      exact Or.inr ⟨⟨by omega, by omega⟩, hp, fun u hu hl z => h (u + 1000).toNat (by omega) (by rw [show ((u + 1000).toNat : Int) - 1000 = u by omega]; exact z)⟩
    · rename_i hp
      exact fsN_F d (k + 1) (by omega) (fun j hj => by
        rcases Nat.lt_or_ge j k with z | z
        · exact h j z
        · rw [show j = k by omega]; exact hp)
theorem lsU_F (R : Int → Int) : isF (fun u => 0 < R u) (lsU R) := fsN_F 2001 0 (by omega) (fun j hj => by omega)
theorem lsI_r {tl : Nat → Int} {len : Nat} : ∀ (d k : Nat), k + d = len → (∀ j, j < k → ¬ 0 < tl j) → (lsI tl d k = -1 ∧ ∀ j, j < len → ¬ 0 < tl j) ∨ ∃ i : Nat, i < len ∧ lsI tl d k = (i : Int) ∧ 0 < tl i ∧ ∀ j, j < i → ¬ 0 < tl j
  | 0, k, e, h => Or.inl ⟨rfl, fun j hj => h j (by omega)⟩
  | d + 1, k, e, h => by
    unfold lsI
    split
    · rename_i hp
      exact Or.inr ⟨k, by omega, rfl, hp, h⟩
    · rename_i hp
      exact lsI_r d (k + 1) (by omega) (fun j hj => by
        rcases Nat.lt_or_ge j k with z | z
        · exact h j z
        · rw [show j = k by omega]; exact hp)
theorem ls_rel {tl ta : Nat → Int} {len : Nat} {R : Int → Int} (hs : inc ta len) (hr : ∀ i, i < len → inR (ta i)) (ht : ∀ i, i < len → tl i = R (ta i)) (hta : ∀ u, 0 < R u → ∃ i, i < len ∧ ta i = u) : (lsI tl len 0 = -1 ∧ lsU R = 5000) ∨ ∃ i : Nat, i < len ∧ lsI tl len 0 = (i : Int) ∧ lsU R = ta i := by
  rcases lsI_r (tl := tl) (len := len) len 0 (by omega) (fun j hj => by omega) with ⟨a, b⟩ | ⟨i, hi, a, b, c⟩
  · refine Or.inl ⟨a, isF_eq (lsU_F R) (Or.inl ⟨rfl, fun u hu z => ?_⟩)⟩
    obtain ⟨i, hi, ei⟩ := hta u z
    exact b i hi (by rw [ht i hi, ei]; exact z)
  · refine Or.inr ⟨i, hi, a, isF_eq (lsU_F R) (Or.inr ⟨hr i hi, (show 0 < R (ta i) by rw [← ht i hi]; exact b), fun u hu hl z => ?_⟩)⟩
    obtain ⟨j, hj, ej⟩ := hta u z
    have hji : j < i := by
      rcases Nat.lt_or_ge j i with y | y
      · exact y
      · rcases Nat.lt_or_ge i j with x | x
        · have := hs i j x hj; omega
        · have : j = i := by omega
          subst this; omega
    exact c j hji (by rw [ht j hj, ej]; exact z)
end
