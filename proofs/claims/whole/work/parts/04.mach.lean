/-! THE ABSTRACT MACHINE. Values: an int, a long (as whole numbers), a reference (segment, place) or null. Cells: an object (class number, fields), an array of numbers (kind 0 int, 1 long, 2 byte, 3 boolean; length; contents), an array of laws. A heap: its size, its segments. -/
abbrev AV : Type := Int ⊕ (Int ⊕ Option (Nat × Nat))
abbrev vi (z : Int) : AV := .inl z
abbrev vl (z : Int) : AV := .inr (.inl z)
abbrev vr (s k : Nat) : AV := .inr (.inr (some (s, k)))
abbrev vo (r : Option (Nat × Nat)) : AV := .inr (.inr r)
abbrev vn : AV := .inr (.inr none)
abbrev AC : Type := (Nat × List AV) ⊕ ((Nat × Nat × (Nat → Int)) ⊕ (Nat × (Nat → Option (Nat × Nat))))
abbrev ob (ci : Nat) (fs : List AV) : AC := .inl (ci, fs)
abbrev ar (ty n : Nat) (f : Nat → Int) : AC := .inr (.inl (ty, n, f))
abbrev rs (n : Nat) (g : Nat → Option (Nat × Nat)) : AC := .inr (.inr (n, g))
abbrev SG : Type := List (Option AC)
abbrev HT : Type := Nat × List SG
def off (s : Nat) : Nat := match s with
  | 0 => 0
  | 1 => 1
  | 2 => 6
  | 3 => 8
  | 4 => 11
  | 5 => 14
  | 6 => 20
  | 7 => 23
  | 8 => 29
  | _ => 49
def adr (base : Nat) (q : Nat × Nat) : Nat := base + off q.1 + q.2
def hgs : List SG → Nat → Nat → Option AC
  | [], _, _ => none
  | l :: _, 0, k => match l[k]? with
    | some c => c
    | none => none
  | _ :: r, s + 1, k => hgs r s k
def hss : List SG → Nat → Nat → AC → List SG
  | [], _, _, _ => []
  | l :: r, 0, k, c => l.set k (some c) :: r
  | l :: r, s + 1, k, c => l :: hss r s k c
def hps : List SG → Nat → Option AC → List SG
  | [], _, _ => []
  | l :: r, 0, c => (l ++ [c]) :: r
  | l :: r, s + 1, c => l :: hps r s c
def hln : List SG → Nat → Option Nat
  | [], _ => none
  | l :: _, 0 => some l.length
  | _ :: r, s + 1 => hln r s
def hget (h : HT) (s k : Nat) : Option AC := hgs h.2 s k
def hset (h : HT) (s k : Nat) (c : AC) : HT := (h.1, hss h.2 s k c)
theorem hgs_eq : ∀ (h : List SG) (s k : Nat) (c0 c : AC), hgs h s k = some c0 → hgs (hss h s k c) s k = some c
  | [], _, _, _, _, h => by simp [hgs] at h
  | l :: r, 0, k, c0, c, h => by
    have hk : k < l.length := by
      rcases Nat.lt_or_ge k l.length with q | q
      · exact q
      · simp [hgs, List.getElem?_eq_none q] at h
    simp [hgs, hss, hk]
  | l :: r, s + 1, k, c0, c, h => hgs_eq r s k c0 c h
theorem hgs_ne : ∀ (h : List SG) (s k s' k' : Nat) (c : AC), (s', k') ≠ (s, k) → hgs (hss h s k c) s' k' = hgs h s' k'
  | [], _, _, _, _, _, _ => rfl
  | l :: r, 0, k, 0, k', c, h => by
    have hk : k ≠ k' := fun e => h (by rw [e])
    simp [hgs, hss, List.getElem?_set_ne hk]
  | l :: r, 0, k, s' + 1, k', c, h => rfl
  | l :: r, s + 1, k, 0, k', c, h => rfl
  | l :: r, s + 1, k, s' + 1, k', c, h => hgs_ne r s k s' k' c (fun e => h (by simp only [Prod.mk.injEq] at e ⊢; exact ⟨by omega, e.2⟩))
theorem hgs_ps_ne : ∀ (h : List SG) (s s' k' n : Nat) (c : Option AC), hln h s = some n → (s', k') ≠ (s, n) → hgs (hps h s c) s' k' = hgs h s' k'
  | [], _, _, _, _, _, h, _ => by simp [hln] at h
  | l :: r, 0, 0, k', n, c, h, h2 => by
    simp only [hln, Option.some.injEq] at h
    have hk : k' ≠ l.length := fun e => h2 (by rw [e, h])
    rcases Nat.lt_or_ge k' l.length with q | q
    · simp [hgs, hps, List.getElem?_append_left q]
    · simp [hgs, hps, List.getElem?_eq_none q, List.getElem?_eq_none (show (l ++ [c]).length ≤ k' by simp; omega)]
  | l :: r, 0, s' + 1, k', n, c, h, h2 => rfl
  | l :: r, s + 1, 0, k', n, c, h, h2 => rfl
  | l :: r, s + 1, s' + 1, k', n, c, h, h2 => hgs_ps_ne r s s' k' n c h (fun e => h2 (by simp only [Prod.mk.injEq] at e ⊢; exact ⟨by omega, e.2⟩))
theorem hgs_ps_eq : ∀ (h : List SG) (s n : Nat) (c : Option AC), hln h s = some n → hgs (hps h s c) s n = c
  | [], _, _, _, h => by simp [hln] at h
  | l :: r, 0, n, c, h => by
    simp only [hln, Option.some.injEq] at h
    subst h
    simp [hgs, hps]
  | l :: r, s + 1, n, c, h => hgs_ps_eq r s n c h
/-- ranges -/
def inT (ty : Nat) (z : Int) : Prop := match ty with
  | 0 => -2147483648 ≤ z ∧ z ≤ 2147483647
  | 1 => -9223372036854775808 ≤ z ∧ z ≤ 9223372036854775807
  | 2 => -128 ≤ z ∧ z ≤ 127
  | _ => 0 ≤ z ∧ z ≤ 1
abbrev I32 (z : Int) : Prop := -2147483648 ≤ z ∧ z ≤ 2147483647
abbrev I64 (z : Int) : Prop := -9223372036854775808 ≤ z ∧ z ≤ 9223372036854775807
def okV (v : AV) : Prop := match v with
  | .inl z => I32 z
  | .inr (.inl z) => I64 z
  | .inr (.inr _) => True
def okC (c : AC) : Prop := match c with
  | .inl o => ∀ v ∈ o.2, okV v
  | .inr (.inl a) => a.1 ≤ 3 ∧ a.2.1 ≤ 2147483647 ∧ ∀ j, inT a.1 (a.2.2 j)
  | .inr (.inr a) => a.1 ≤ 2147483647
/-- launch, class numbers and slots, array classes, the first address -/
abbrev GT : Type := Launch × va_G × (Nat → ClassId) × Nat
def conc (base : Nat) (v : AV) : Value := match v with
  | .inl z => .int (Int32.ofInt z)
  | .inr (.inl z) => .long (Int64.ofInt z)
  | .inr (.inr r) => va_rf (r.map (adr base))
def conE (G : GT) (c : AC) : va_E := match c with
  | .inl o => .inr (o.1, o.2.map (conc G.2.2.2))
  | .inr (.inl a) => .inl (G.2.2.1 a.1, a.2.1, if a.1 = 1 then .inr (.inl (fun j => Int64.ofInt (a.2.2 j))) else .inl (fun j => Int32.ofInt (a.2.2 j)))
  | .inr (.inr a) => .inl (G.2.2.1 4, a.1, .inr (.inr (.inr (.inr (fun j => (a.2 j).map (adr G.2.2.2))))))
def tyG (G : GT) : List (ClassId × FieldType) := [(G.2.2.1 0, .int), (G.2.2.1 1, .long), (G.2.2.1 2, .byte), (G.2.2.1 3, .boolean), (G.2.2.1 4, .object "ChanceBench$Law")]
def okP (s k : Nat) : Prop := s ≤ 9 ∧ (s < 9 → k < off (s + 1) - off s)
def Rep (G : GT) (h : HT) (H : Heap) : Prop := H.size = G.2.2.2 + h.1 ∧ ∀ (s k : Nat) (c : AC), hget h s k = some c → okP s k ∧ okC c ∧ va_at G.2.1 cls (adr G.2.2.2 (s, k), conE G c) H
abbrev gA (G : GT) : Nat → Prop := fun q => G.2.2.2 ≤ q
theorem okP_inj {base s k s' k' : Nat} (h : okP s k) (h' : okP s' k') (e : adr base (s, k) = adr base (s', k')) : (s, k) = (s', k') := by
  have e2 : off s + k = off s' + k' := by simp only [adr] at e; omega
  clear e
  obtain ⟨a, b⟩ := h
  obtain ⟨a', b'⟩ := h'
  have c : ∀ s : Nat, s ≤ 9 → s = 0 ∨ s = 1 ∨ s = 2 ∨ s = 3 ∨ s = 4 ∨ s = 5 ∨ s = 6 ∨ s = 7 ∨ s = 8 ∨ s = 9 := fun s h => by omega
  rcases c s a with rfl | rfl | rfl | rfl | rfl | rfl | rfl | rfl | rfl | rfl <;> rcases c s' a' with rfl | rfl | rfl | rfl | rfl | rfl | rfl | rfl | rfl | rfl <;> simp only [off] at e2 b b' <;> first | (exfalso; omega) | (refine Prod.ext rfl ?_; show k = k'; omega)
theorem Rep.set {G : GT} {h : HT} {H H1 : Heap} {s k : Nat} {c0 c : AC} (R : Rep G h H) (hg : hget h s k = some c0) (hok : okC c) (he : va_at G.2.1 cls (adr G.2.2.2 (s, k), conE G c) H1) (hz : H1.size = H.size) (oq : ∀ q : Nat, q ≠ adr G.2.2.2 (s, k) → H1[q]? = H[q]?) : Rep G (hset h s k c) H1 := by
  refine ⟨by rw [hz]; exact R.1, fun s' k' c' h' => ?_⟩
  have p0 := (R.2 s k c0 hg).1
  by_cases e : (s', k') = (s, k)
  · obtain ⟨rfl, rfl⟩ := Prod.mk.injEq .. ▸ e
    have h2 : hget (hset h s' k' c) s' k' = some c := hgs_eq h.2 s' k' c0 c hg
    rw [h2] at h'
    cases h'
    exact ⟨p0, hok, he⟩
  · have h2 : hget (hset h s k c) s' k' = hget h s' k' := hgs_ne h.2 s k s' k' c e
    rw [h2] at h'
    obtain ⟨p1, p2, p3⟩ := R.2 s' k' c' h'
    exact ⟨p1, p2, p3.kept (oq _ (fun z => e (okP_inj p1 p0 z)))⟩
theorem Rep.push {G : GT} {h : HT} {H H1 : Heap} {s n : Nat} {c : AC} (R : Rep G h H) (hl : hln h.2 s = some n) (hp : okP s n) (hn : h.1 = off s + n) (hok : okC c) (he : va_at G.2.1 cls (adr G.2.2.2 (s, n), conE G c) H1) (hz : H1.size = H.size + 1) (oq : ∀ q : Nat, q < H.size → H1[q]? = H[q]?) : Rep G (h.1 + 1, hps h.2 s (some c)) H1 := by
  refine ⟨by rw [hz, R.1]; rfl, fun s' k' c' h' => ?_⟩
  by_cases e : (s', k') = (s, n)
  · obtain ⟨rfl, rfl⟩ := Prod.mk.injEq .. ▸ e
    have h2 : hget (h.1 + 1, hps h.2 s' (some c)) s' k' = some c := hgs_ps_eq h.2 s' k' (some c) hl
    rw [h2] at h'
    cases h'
    exact ⟨hp, hok, he⟩
  · have h2 : hget (h.1 + 1, hps h.2 s (some c)) s' k' = hget h s' k' := hgs_ps_ne h.2 s s' k' n (some c) hl e
    rw [h2] at h'
    obtain ⟨p1, p2, p3⟩ := R.2 s' k' c' h'
    exact ⟨p1, p2, p3.kept (oq _ (by
      rcases Nat.lt_or_ge (adr G.2.2.2 (s', k')) H.size with q | q
      · exact q
      · exact absurd p3.lt (by omega)))⟩
