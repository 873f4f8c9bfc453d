/-! the tables' words that are carried along: good ones, and links of nest mates, declarations, casts, the array class of laws -/
def okN (w : Cond) : Bool := match w with
  | .methodLinkNest .. => true
  | .declares .. => true
  | .castable .. => true
  | .arrayOver (.object _) => true
  | _ => false
def okW (w : Cond) : Bool := goodWord w || okN w
def tb : List Cond := lw_tbl.filter okW
theorem tb_mem {w : Cond} (h : w ∈ lw_tbl) (g : okW w = true) : w ∈ tb := List.mem_filter.mpr ⟨h, g⟩
theorem lay_ok (C : String) (T : u_T) (k : Nat) : okW (u_lay C T k) = true := by unfold u_lay; split <;> rfl
theorem ws_ok {C : String} {T : u_T} {N : Nat} (h : ∀ w ∈ u_ws C T N, w ∈ lw_tbl) : ∀ w ∈ u_ws C T N, w ∈ tb := by
  intro w hw
  refine tb_mem (h w hw) ?_
  obtain ⟨k, -, rfl⟩ := List.mem_map.mp hw
  exact lay_ok C T k
theorem cls_lt {ci : Nat} {r : vw_C} (h : cls[ci]? = some r) : ci < 10 := (List.getElem?_eq_some_iff.mp h).1
theorem cls_ws {ci : Nat} {r : vw_C} (h : cls[ci]? = some r) : ∀ w ∈ u_ws r.1 r.2.1 r.2.2, w ∈ tb := by
  have hl := cls_lt h
  rcases (show ci = 0 ∨ ci = 1 ∨ ci = 2 ∨ ci = 3 ∨ ci = 4 ∨ ci = 5 ∨ ci = 6 ∨ ci = 7 ∨ ci = 8 ∨ ci = 9 by omega) with rfl | rfl | rfl | rfl | rfl | rfl | rfl | rfl | rfl | rfl
  · cases h; exact ws_ok ci_0
  · cases h; exact ws_ok ci_1
  · cases h; exact ws_ok ci_2
  · cases h; exact ws_ok ci_3
  · cases h; exact ws_ok ci_4
  · cases h; exact ws_ok ci_5
  · cases h; exact ws_ok ci_6
  · cases h; exact ws_ok ci_7
  · cases h; exact ws_ok ci_8
  · cases h; exact ws_ok ci_9
theorem cls_nm {ci : Nat} {r : vw_C} (h : cls[ci]? = some r) : ∀ a, a < r.2.2 → ∀ b, b < r.2.2 → a ≠ b → (r.2.1 a).2.1 ≠ (r.2.1 b).2.1 := by
  have hl := cls_lt h
  rcases (show ci = 0 ∨ ci = 1 ∨ ci = 2 ∨ ci = 3 ∨ ci = 4 ∨ ci = 5 ∨ ci = 6 ∨ ci = 7 ∨ ci = 8 ∨ ci = 9 by omega) with rfl | rfl | rfl | rfl | rfl | rfl | rfl | rfl | rfl | rfl
  · cases h; exact cn_0
  · cases h; exact cn_1
  · cases h; exact cn_2
  · cases h; exact cn_3
  · cases h; exact cn_4
  · cases h; exact cn_5
  · cases h; exact cn_6
  · cases h; exact cn_7
  · cases h; exact cn_8
  · cases h; exact cn_9
def clY (ci : Nat) : Nat → FieldType := match ci with
  | 0 => cY0
  | 1 => cY1
  | 2 => cY2
  | 3 => cY3
  | 4 => cY4
  | 5 => cY5
  | 6 => cY6
  | 7 => cY7
  | 8 => cY8
  | _ => cY9
theorem cls_ty {ci : Nat} {r : vw_C} (h : cls[ci]? = some r) : ∀ k, k < r.2.2 → parseFieldDescriptor (r.2.1 k).2.2.1 = some (clY ci k) := by
  have hl := cls_lt h
  rcases (show ci = 0 ∨ ci = 1 ∨ ci = 2 ∨ ci = 3 ∨ ci = 4 ∨ ci = 5 ∨ ci = 6 ∨ ci = 7 ∨ ci = 8 ∨ ci = 9 by omega) with rfl | rfl | rfl | rfl | rfl | rfl | rfl | rfl | rfl | rfl
  · cases h; exact ct_0
  · cases h; exact ct_1
  · cases h; exact ct_2
  · cases h; exact ct_3
  · cases h; exact ct_4
  · cases h; exact ct_5
  · cases h; exact ct_6
  · cases h; exact ct_7
  · cases h; exact ct_8
  · cases h; exact ct_9
/-! a method's judgement over the abstract state -/
def nse : String := "java/util/NoSuchElementException"
abbrev rmM (M : MI) : Room := { frames := M.2.2.2.2.1, cells := M.2.2.2.2.2.1, slots := M.2.2.2.2.2.2, locals := 60 * M.2.2.2.2.1 }
def wsM (M : MI) : List Cond := .code M.1 M.2.1 M.2.2.1 M.2.2.2.1 :: lw_tbl.filter goodWord
abbrev zU (G : GT) (s : State) (H : Heap) : Prop := vx_Zq Bundle.tN "UNASSIGNED_STACK" Bundle.steD (gA G) s H ∧ vx_Zq Bundle.tN "SUPPRESSED_SENTINEL" Bundle.listD (gA G) s H
def nB (U : State) : Prop := ∀ w ∈ lw_tbl, okN w = true → w.before #[] U = true
/-- what stands fast while a method's body runs -/
def Cx (G : GT) (M : MI) (p : Program) (s : State) (m : MethodId) (args : Array Value) (meth : Method) (c : Code) : Prop :=
  p.tables.exec = Jvm.exec ∧ c.code = M.2.1 ∧ meth.sig.returnType = M.2.2.2.1 ∧ c.maxLocals = M.2.2.1 ∧ s.vm.findClass M.1.cls = some m.cls ∧ (∀ w ∈ tb, w.before args s = true) ∧ meth.locks = false ∧ va_K G.2.1 cls (tyG G) s ∧ zU G s s.heap ∧ (∀ x ∈ c.exceptionTable.toList, False) ∧ meth.name = M.1.name ∧ G.2.2.2 ≤ s.heap.size ∧ G.1.stackTraces = false ∧ nB s
def QcM (G : GT) (Qr : Option AV → HT → Prop) : Array Value → State → Outcome → State → Prop := fun _ st o t =>
  ∃ (r : Option AV) (h : HT), Qr r h ∧ o = .returned (r.map (conc G.2.2.2)) ∧ Rep G h t.heap ∧ va_F (gA G) st t
def XcM (G : GT) (Qt : HT → Prop) : String → State → State → Prop := fun E st t => E = nse ∧ ∃ h : HT, Qt h ∧ Rep G h t.heap ∧ va_F (gA G) st t
def lvP (base : Nat) : Nat → List (Option AV) → List (Nat × Value)
  | _, [] => []
  | i, some v :: r => (i, conc base v) :: lvP base (i + 1) r
  | i, none :: r => lvP base (i + 1) r
abbrev LSt : Type := List (Option AV)
def AW (G : GT) (M : MI) (Qr : Option AV → HT → Prop) (Qt : HT → Prop) (cs sl pc : Nat) (ls : LSt) (st : List AV) (h : HT) : Prop :=
  ∀ (p : Program) (e : Env) (s : State) (m : MethodId) (args : Array Value) (below : List Frame) (meth : Method) (c : Code) (H : Heap) (locs : List Loc) (lsR : Array Slot),
    Cx G M p s m args meth c → Rep G h H → va_S (gA G) s.heap H locs → lv_has lsR M.2.2.1 (lvP G.2.2.2 0 ls) →
    W p G.1 e (rmM M) s m args below meth c H locs cs sl (vx_MQ below (QcM G Qr) (XcM G Qt) args s M.2.2.2.2.2.1 M.2.2.2.2.2.2 (gA G)) (F0 m pc lsR (st.map (conc G.2.2.2)))
theorem lvP_mem {base : Nat} : ∀ (ls : LSt) (i k : Nat) (v : AV), ls[k]? = some (some v) → (i + k, conc base v) ∈ lvP base i ls
  | [], _, k, _, h => by simp at h
  | some w :: r, i, 0, v, h => by
    simp only [List.getElem?_cons_zero, Option.some.injEq] at h
    subst h
    exact List.mem_cons_self
  | none :: r, i, 0, v, h => by simp at h
  | some w :: r, i, k + 1, v, h => by
    have := lvP_mem (base := base) r (i + 1) k v (by simpa using h)
    rw [show i + (k + 1) = i + 1 + k by omega]
    exact List.mem_cons_of_mem _ this
  | none :: r, i, k + 1, v, h => by
    have := lvP_mem (base := base) r (i + 1) k v (by simpa using h)
    rw [show i + (k + 1) = i + 1 + k by omega]
    exact this
theorem lvP_of {base : Nat} : ∀ (ls : LSt) (i : Nat) (q : Nat × Value), q ∈ lvP base i ls → ∃ k v, ls[k]? = some (some v) ∧ q = (i + k, conc base v)
  | [], _, _, h => by cases h
  | some w :: r, i, q, h => by
    rcases List.mem_cons.mp h with h | h
    · exact ⟨0, w, rfl, h⟩
    · obtain ⟨k, v, h1, h2⟩ := lvP_of r (i + 1) q h
      exact ⟨k + 1, v, by simpa using h1, by rw [h2]; congr 1; omega⟩
  | none :: r, i, q, h => by
    obtain ⟨k, v, h1, h2⟩ := lvP_of r (i + 1) q h
    exact ⟨k + 1, v, by simpa using h1, by rw [h2]; congr 1; omega⟩
theorem lv_get {base nL : Nat} {ls : LSt} {lsR : Array Slot} {k : Nat} {v : AV} (h : lv_has lsR nL (lvP base 0 ls)) (hk : ls[k]? = some (some v)) : lsR[k]? = some (.val (conc base v)) := by
  have := h.2.2 _ (lvP_mem ls 0 k v hk)
  simpa using this
theorem lv_weak {base nL : Nat} {ls ls' : LSt} {lsR : Array Slot} (h : lv_has lsR nL (lvP base 0 ls)) (hs : ∀ (k : Nat) (v : AV), ls'[k]? = some (some v) → ls[k]? = some (some v)) : lv_has lsR nL (lvP base 0 ls') := by
  refine ⟨h.1, h.2.1, fun q hq => ?_⟩
  obtain ⟨k, v, h1, h2⟩ := lvP_of ls' 0 q hq
  have := lvP_mem (base := base) ls 0 k v (hs k v h1)
  rw [h2]
  exact h.2.2 _ this
/-- the entry below is the first half of a long: it is lost -/
def clr (ls : LSt) (i : Nat) : LSt := match i with
  | 0 => ls
  | j + 1 => match ls[j]? with
    | some (some (.inr (.inl _))) => ls.set j none
    | _ => ls
def st1 (ls : LSt) (i : Nat) (v : AV) : LSt := (clr ls i).set i (some v)
def st2 (ls : LSt) (i : Nat) (v : AV) : LSt := ((clr ls i).set i (some v)).set (i + 1) none
theorem clr_of {ls : LSt} {i k : Nat} {v : AV} (h : (clr ls i)[k]? = some (some v)) : ls[k]? = some (some v) ∧ ¬ (k + 1 = i ∧ ∃ z, v = .inr (.inl z)) := by
  cases i with
  | zero => exact ⟨h, fun q => by omega⟩
  | succ j =>
    simp only [clr] at h
    split at h
    · rename_i z hz
      by_cases hk : j = k
      · subst hk
        rw [List.getElem?_set] at h
        simp at h
      · rw [List.getElem?_set_ne hk] at h
        exact ⟨h, fun q => by omega⟩
    · rename_i hz
      refine ⟨h, fun q => ?_⟩
      obtain ⟨q1, z, q2⟩ := q
      have : k = j := by omega
      subst this
      exact hz z (by rw [h, q2])
theorem conc_cat2 {base : Nat} {v : AV} (h : (conc base v).category = 2) : ∃ z, v = .inr (.inl z) := by
  rcases v with z | z | r
  · simp [conc, Value.category] at h
  · exact ⟨z, rfl⟩
  · cases r <;> simp [conc, va_rf, Value.category] at h
theorem st1_in {base : Nat} {ls : LSt} {i : Nat} {v : AV} : ∀ q ∈ lvP base 0 (st1 ls i v), q ∈ ((i, conc base v) :: (lvP base 0 ls).filter (fun q => !(q.1 == i) && !(q.1 + 1 == i && q.2.category == 2)) : List (Nat × Value)) := by
  intro q hq
  obtain ⟨k, w, h1, h2⟩ := lvP_of _ 0 q hq
  rw [Nat.zero_add] at h2
  subst h2
  by_cases hk : i = k
  · subst hk
    rw [st1, List.getElem?_set] at h1
    simp at h1
    rw [h1.2]
    exact List.mem_cons_self
  · rw [st1, List.getElem?_set_ne hk] at h1
    obtain ⟨h3, h4⟩ := clr_of h1
    refine List.mem_cons_of_mem _ (List.mem_filter.mpr ⟨by have := lvP_mem (base := base) ls 0 k w h3; simpa using this, ?_⟩)
    have hki : ¬ k = i := fun e => hk e.symm
    have : ¬ (k + 1 = i ∧ (conc base w).category = 2) := fun q => h4 ⟨q.1, conc_cat2 q.2⟩
    simp [hki]
    omega
theorem st2_in {base : Nat} {ls : LSt} {i : Nat} {v : AV} : ∀ q ∈ lvP base 0 (st2 ls i v), q ∈ ((i, conc base v) :: (lvP base 0 ls).filter (fun q => !(q.1 == i) && (!(q.1 == i + 1) && !(q.1 + 1 == i && q.2.category == 2))) : List (Nat × Value)) := by
  intro q hq
  obtain ⟨k, w, h1, h2⟩ := lvP_of _ 0 q hq
  rw [Nat.zero_add] at h2
  subst h2
  by_cases hk1 : i + 1 = k
  · subst hk1
    rw [st2, List.getElem?_set] at h1
    simp at h1
  rw [st2, List.getElem?_set_ne hk1] at h1
  by_cases hk : i = k
  · subst hk
    rw [List.getElem?_set] at h1
    simp at h1
    rw [h1.2]
    exact List.mem_cons_self
  · rw [List.getElem?_set_ne hk] at h1
    obtain ⟨h3, h4⟩ := clr_of h1
    refine List.mem_cons_of_mem _ (List.mem_filter.mpr ⟨by have := lvP_mem (base := base) ls 0 k w h3; simpa using this, ?_⟩)
    have hki : ¬ k = i := fun e => hk e.symm
    have hki1 : ¬ k = i + 1 := fun e => hk1 e.symm
    have : ¬ (k + 1 = i ∧ (conc base w).category = 2) := fun q => h4 ⟨q.1, conc_cat2 q.2⟩
    simp [hki, hki1]
    omega
theorem lv_less {lsR : Array Slot} {nL : Nat} {l l' : List (Nat × Value)} (h : lv_has lsR nL l) (hs : ∀ q ∈ l', q ∈ l) : lv_has lsR nL l' := ⟨h.1, h.2.1, fun q hq => h.2.2 q (hs q hq)⟩
