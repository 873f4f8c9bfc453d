theorem vx_ofWH {l : Launch} {y : MethodName} {ws ws' : List Cond} {rm : Room} {Pc : Array Value → State → Prop} {Qc : Array Value → State → Outcome → State → Prop} {XC : String → State → State → Prop} {mc ms : Nat} {free : Addr → Prop} {cc : ByteArray} {maxL : Nat} {ret : Option FieldType} {hh : List (Nat × Nat × Nat × Nat)}
    (hy : plainName y.cls = true) (hw : ws = Cond.codeWith y cc maxL ret hh :: ws')
    (body : ∀ p e s m args below meth c s₁, BodyLoose p l y (headSpec ws rm) cc maxL ret e s m args below meth c s₁ → c.maxLocals = maxL → Pc args s →
      W p l e (headSpec ws rm).room s m args below meth c s.heap [] 0 0 (vx_MQ below Qc XC args s mc ms free) (entryFrame m args maxL)) : vx_Met l y ws rm Pc Qc XC mc ms free := by
  refine MetFree.of_bodyS (code := cc) (maxLocals := maxL) (ret := ret) hy ?_ ?_
  · intro args s m h hn
    obtain ⟨m9, meth, c, hn9, h1, h2, h3, h4, -, h5, h6, -⟩ := Cond.codeWith_spec (atoms_spec (ws := ws) h _ (by rw [hw]; exact List.mem_cons_self))
    cases hn.symm.trans hn9
    exact ⟨meth, c, h1, h2, h3, h4, h5, h6⟩
  · intro p e s m args below meth c s₁ B hml hP _
    have hh0 : s₁.heap = s.heap := by rw [B.state]; rfl
    obtain ⟨t, a1, o, b1, b2, b3⟩ := body p e s m args below meth c s₁ B hml hP s₁ hh0 (Stand.of_body B)
    exact ⟨t, o, a1, b1, b2, b3⟩
/-- as Cx, without a word on the table of handlers -/
def Cy (G : GT) (M : MI) (p : Program) (s : State) (m : MethodId) (args : Array Value) (meth : Method) (c : Code) : Prop :=
  p.tables.exec = Jvm.exec ∧ c.code = M.2.1 ∧ meth.sig.returnType = M.2.2.2.1 ∧ c.maxLocals = M.2.2.1 ∧ s.vm.findClass M.1.cls = some m.cls ∧ (∀ w ∈ tb, w.before args s = true) ∧ meth.locks = false ∧ va_K G.2.1 cls (tyG G) s ∧ zU G s s.heap ∧ True ∧ True ∧ G.2.2.2 ≤ s.heap.size ∧ G.1.stackTraces = false ∧ nB s
abbrev ZT : Type := State → Array Value → Code → Prop
abbrev QT : Type := List Frame → Array Value → State → State → Prop
def LW (G : GT) (M : MI) (Rm : Room) (Zc : ZT) (Qp : QT) (X : List (Nat × Value)) (cs sl pc : Nat) (ls : LSt) (st : List AV) (h : HT) : Prop :=
  ∀ (p : Program) (e : Env) (s : State) (m : MethodId) (args : Array Value) (below : List Frame) (meth : Method) (c : Code) (H : Heap) (locs : List Loc) (lsR : Array Slot),
    Cy G M p s m args meth c → Zc s args c → Rep G h H → va_S (gA G) s.heap H locs → lv_has lsR M.2.2.1 (X ++ lvP G.2.2.2 0 ls) →
    W p G.1 e Rm s m args below meth c H locs cs sl (Qp below args s) (F0 m pc lsR (st.map (conc G.2.2.2)))
theorem lvX {lsR : Array Slot} {nL : Nat} {X l : List (Nat × Value)} (h : lv_has lsR nL (X ++ l)) : lv_has lsR nL l := lv_less h (fun q hq => List.mem_append_right X hq)
def okX (X : List (Nat × Value)) : Prop := ∀ q ∈ X, q.1 = 0 ∧ q.2.category ≠ 2
theorem st1_inX {base : Nat} {ls : LSt} {i : Nat} {v : AV} {X : List (Nat × Value)} (hX : okX X) (hi : i ≠ 0) : ∀ q ∈ X ++ lvP base 0 (st1 ls i v), q ∈ ((i, conc base v) :: (X ++ lvP base 0 ls).filter (fun q => !(q.1 == i) && !(q.1 + 1 == i && q.2.category == 2)) : List (Nat × Value)) := by
  intro q hq
  rcases List.mem_append.mp hq with z | z
  · have h := hX q z
    refine List.mem_cons_of_mem _ (List.mem_filter.mpr ⟨List.mem_append_left _ z, ?_⟩)
    have h1 : ¬ q.1 = i := by omega
    simp [h1, h.2]
  · rcases List.mem_cons.mp (st1_in q z) with y | y
    · rw [y]; exact List.mem_cons_self
    · obtain ⟨y1, y2⟩ := List.mem_filter.mp y
      exact List.mem_cons_of_mem _ (List.mem_filter.mpr ⟨List.mem_append_right _ y1, y2⟩)
theorem st2_inX {base : Nat} {ls : LSt} {i : Nat} {v : AV} {X : List (Nat × Value)} (hX : okX X) (hi : i ≠ 0) : ∀ q ∈ X ++ lvP base 0 (st2 ls i v), q ∈ ((i, conc base v) :: (X ++ lvP base 0 ls).filter (fun q => !(q.1 == i) && (!(q.1 == i + 1) && !(q.1 + 1 == i && q.2.category == 2))) : List (Nat × Value)) := by
  intro q hq
  rcases List.mem_append.mp hq with z | z
  · have h := hX q z
    refine List.mem_cons_of_mem _ (List.mem_filter.mpr ⟨List.mem_append_left _ z, ?_⟩)
    have h1 : ¬ q.1 = i := by omega
    have h2 : ¬ q.1 = i + 1 := by omega
    simp [h1, h2, h.2]
  · rcases List.mem_cons.mp (st2_in q z) with y | y
    · rw [y]; exact List.mem_cons_self
    · obtain ⟨y1, y2⟩ := List.mem_filter.mp y
      exact List.mem_cons_of_mem _ (List.mem_filter.mpr ⟨List.mem_append_right _ y1, y2⟩)
/-- the first local is written -/
def st0 (i : Instr) : Bool := match i with
  | .istore_n k => (k : Nat) == 0
  | .istore k => k == 0
  | .lstore_n k => (k : Nat) == 0
  | .lstore k => k == 0
  | .astore_n k => (k : Nat) == 0
  | .astore k => k == 0
  | .iinc k _ => k == 0
  | _ => false
set_option maxHeartbeats 4000000 in
theorem lx_step1 {G : GT} {M : MI} {Rm : Room} {Zc : ZT} {Qp : QT} {X : List (Nat × Value)} {cs sl pc : Nat} {ls ls' : LSt} {st st' : List AV} {h : HT} {i : Instr} (hX : okX X) (hz0 : st0 i = false) (hd : decode M.2.1 pc = .ok (i, ilen i)) (hs : step1 i M.2.2.1 ls st = some (ls', st'))
    (k : LW G M Rm Zc Qp X cs sl (pc + ilen i) ls' st' h) : LW G M Rm Zc Qp X cs sl pc ls st h := by
  intro p e s m args below meth c H locs lsR C Z9 R S L
  have hx := C.1
  have hb := C.2.1
  have k0 := fun lsR L => k p e s m args below meth c H locs lsR C Z9 R S L
  clear k
  cases i <;> simp only [step1, ilen, st0] at hs hd k0 hz0 <;> (try (cases hs; done))
  case aconst_null =>
    cases hs
    exact lv_null hx hb hd (k0 lsR L)
  case aload i =>
    split at hs
    · rename_i r hr
      cases hs
      exact x_aload hx hb hd (lv_get (lvX L) (ldV_of hr)) (k0 lsR L)
    · cases hs
  case aload_n i =>
    split at hs
    · rename_i r hr
      cases hs
      exact x_aload_n hx hb hd (lv_get (lvX L) (ldV_of hr)) (k0 lsR L)
    · cases hs
  case astore i =>
    split at hs
    · split at hs
      · rename_i hn
        cases hs
        exact x_astore hx hb hd L hn (fun ls' L' => k0 ls' (lv_less L' (st1_inX hX (by simpa using hz0))))
      · cases hs
    · cases hs
  case astore_n i =>
    split at hs
    · split at hs
      · rename_i hn
        cases hs
        exact x_astore_n hx hb hd L hn (fun ls' L' => k0 ls' (lv_less L' (st1_inX hX (by simpa using hz0))))
      · cases hs
    · cases hs
  case bipush n =>
    split at hs
    · rename_i hn
      cases hs
      exact lv_bipush hx hb hd (i_b8 hn.1 hn.2) (k0 lsR L)
    · cases hs
  case sipush n =>
    split at hs
    · rename_i hn
      cases hs
      exact lv_sipush hx hb hd (i_b16 hn.1 hn.2) (k0 lsR L)
    · cases hs
  case iconst n =>
    cases hs
    exact lv_iconst hx hb hd rfl (k0 lsR L)
  case lconst n =>
    cases hs
    exact lv_lconst hx hb hd (l_nat _) (k0 lsR L)
  case iload i =>
    split at hs
    · rename_i r hr
      cases hs
      exact lv_iload hx hb hd (lv_get (lvX L) (ldV_of hr)) (k0 lsR L)
    · cases hs
  case iload_n i =>
    split at hs
    · rename_i r hr
      cases hs
      exact lv_iload_n hx hb hd rfl (lv_get (lvX L) (ldV_of hr)) (k0 lsR L)
    · cases hs
  case lload i =>
    split at hs
    · rename_i r hr
      cases hs
      exact lv_lload hx hb hd (lv_get (lvX L) (ldV_of hr)) (k0 lsR L)
    · cases hs
  case lload_n i =>
    split at hs
    · rename_i r hr
      cases hs
      exact lv_lload_n hx hb hd rfl (lv_get (lvX L) (ldV_of hr)) (k0 lsR L)
    · cases hs
  case istore i =>
    split at hs
    · split at hs
      · rename_i hn
        cases hs
        exact lv_istore hx hb hd L hn rfl (fun ls' L' => k0 ls' (lv_less L' (st1_inX hX (by simpa using hz0))))
      · cases hs
    · cases hs
  case istore_n i =>
    split at hs
    · split at hs
      · rename_i hn
        cases hs
        exact lv_istore_n hx hb hd rfl L hn rfl (fun ls' L' => k0 ls' (lv_less L' (st1_inX hX (by simpa using hz0))))
      · cases hs
    · cases hs
  case lstore i =>
    split at hs
    · split at hs
      · rename_i hn
        cases hs
        exact lv_lstore hx hb hd L hn rfl (fun ls' L' => k0 ls' (lv_less L' (st2_inX hX (by simpa using hz0))))
      · cases hs
    · cases hs
  case lstore_n i =>
    split at hs
    · split at hs
      · rename_i hn
        cases hs
        exact lv_lstore_n hx hb hd rfl L hn rfl (fun ls' L' => k0 ls' (lv_less L' (st2_inX hX (by simpa using hz0))))
      · cases hs
    · cases hs
  case iinc i n =>
    split at hs
    · rename_i z hz
      split at hs
      · rename_i hn
        cases hs
        have hm := lvP_mem (base := G.2.2.2) ls 0 i _ (ldV_of hz)
        obtain ⟨q, hq⟩ := List.getElem?_of_mem (List.mem_append_right X hm)
        exact lv_iinc (k := q) (x := Int32.ofInt z) (v := Int32.ofInt (z + n)) hx hb hd L (by rw [hq]; simp [conc]) (i_add z n).symm hn rfl (fun ls' L' => k0 ls' (lv_less L' (st1_inX hX (by simpa using hz0))))
      · cases hs
    · cases hs
  case iadd =>
    split at hs
    · cases hs
      simp only [List.map, conc, i_add] at k0
      exact lv_iadd hx hb hd (k0 lsR L)
    · cases hs
  case isub =>
    split at hs
    · cases hs
      simp only [List.map, conc, i_sub] at k0
      exact lv_isub hx hb hd (k0 lsR L)
    · cases hs
  case imul =>
    split at hs
    · cases hs
      simp only [List.map, conc, i_mul] at k0
      exact lv_imul hx hb hd (k0 lsR L)
    · cases hs
  case ineg =>
    split at hs
    · cases hs
      simp only [List.map, conc, i_neg] at k0
      exact lv_ineg hx hb hd (k0 lsR L)
    · cases hs
  case ladd =>
    split at hs
    · cases hs
      simp only [List.map, conc, l_add] at k0
      exact lv_ladd hx hb hd (k0 lsR L)
    · cases hs
  case lsub =>
    split at hs
    · cases hs
      simp only [List.map, conc, l_sub] at k0
      exact lv_lsub hx hb hd (k0 lsR L)
    · cases hs
  case lmul =>
    split at hs
    · cases hs
      simp only [List.map, conc, l_mul] at k0
      exact lv_lmul hx hb hd (k0 lsR L)
    · cases hs
  case lneg =>
    split at hs
    · cases hs
      simp only [List.map, conc, l_neg] at k0
      exact lv_lneg hx hb hd (k0 lsR L)
    · cases hs
  case l2i =>
    split at hs
    · cases hs
      exact lv_l2i hx hb hd (li_to _) (k0 lsR L)
    · cases hs
  case i2b =>
    split at hs
    · cases hs
      exact lv_i2b hx hb hd (i_byte _) (k0 lsR L)
    · cases hs
  case dup =>
    split at hs
    · cases hs
      exact lv_dup hx hb hd rfl (k0 lsR L)
    · cases hs
      exact lv_dup hx hb hd (rf_cat _) (k0 lsR L)
    · cases hs
  case pop =>
    split at hs
    · cases hs
      exact lv_pop hx hb hd rfl (k0 lsR L)
    · cases hs
      exact lv_pop hx hb hd (rf_cat _) (k0 lsR L)
    · cases hs
  case dup2 =>
    split at hs
    · cases hs
      exact lv_dup2_2 hx hb hd rfl (k0 lsR L)
    · cases hs
      exact lv_dup2_11 hx hb hd rfl (rf_cat _) (k0 lsR L)
    · cases hs
def runL : List Instr → Nat → LSt → List AV → Option (LSt × List AV)
  | [], _, ls, st => some (ls, st)
  | i :: r, nL, ls, st => match step1 i nL ls st with
    | some x => runL r nL x.1 x.2
    | none => none
def chkL (M : MI) : List Instr → Nat → Option Nat
  | [], pc => some pc
  | i :: r, pc => match decide (decode M.2.1 pc = .ok (i, ilen i)) && !st0 i with
    | true => chkL M r (pc + ilen i)
    | false => none
theorem lx_blk {G : GT} {M : MI} {Rm : Room} {Zc : ZT} {Qp : QT} {X : List (Nat × Value)} (hX : okX X) {cs sl : Nat} {ls' : LSt} {st' : List AV} {h : HT} {pc' : Nat} : ∀ (is : List Instr) (pc : Nat) (ls : LSt) (st : List AV), chkL M is pc = some pc' → runL is M.2.2.1 ls st = some (ls', st') → LW G M Rm Zc Qp X cs sl pc' ls' st' h → LW G M Rm Zc Qp X cs sl pc ls st h := by
  intro is
  induction is with
  | nil =>
    intro pc ls st h1 h2 k
    cases h1
    cases h2
    exact k
  | cons i r ih =>
    intro pc ls st h1 h2 k
    simp only [chkL] at h1
    simp only [runL] at h2
    split at h1
    · rename_i hd
      simp only [Bool.and_eq_true, decide_eq_true_eq, Bool.not_eq_true'] at hd
      split at h2
      · rename_i x hx
        exact lx_step1 hX hd.2 hd.1 hx (ih _ _ _ h1 h2 k)
      · cases h2
    · cases h1
section
variable {G : GT} {M M' : MI} {Rm : Room} {Zc : ZT} {Qp : QT} {X : List (Nat × Value)} {Qr' : Option AV → HT → Prop} {Qt' : HT → Prop} {cs sl pc : Nat} {ls : LSt} {st : List AV} {h h' : HT} {a b o : Int} {tgt s q n idx : Nat} {f : Nat → Int}
theorem lx_goto (hd : decode M.2.1 pc = .ok (.goto o, 3)) (ht : (pc : Int) + o = (tgt : Int)) (k : LW G M Rm Zc Qp X cs sl tgt ls st h) : LW G M Rm Zc Qp X cs sl pc ls st h := by
  intro p e s0 m args below meth c H locs lsR C Z9 R S L
  exact lv_goto C.1 C.2.1 hd ht (k p e s0 m args below meth c H locs lsR C Z9 R S L)
theorem lx_icmp_eq (hd : decode M.2.1 pc = .ok (.if_icmp .eq o, 3)) (ht : (pc : Int) + o = (tgt : Int)) (ha : I32 a) (hb : I32 b) (kt : a = b → LW G M Rm Zc Qp X cs sl tgt ls st h) (kf : ¬ a = b → LW G M Rm Zc Qp X cs sl (pc + 3) ls st h) : LW G M Rm Zc Qp X cs sl pc ls (vi b :: vi a :: st) h := by
  intro p e s0 m args below meth c H locs lsR C Z9 R S L
  exact lv_icmp_eq C.1 C.2.1 hd ht (fun q => kt ((i_eq ha hb).mp q) p e s0 m args below meth c H locs lsR C Z9 R S L) (fun q => kf (fun z => q ((i_eq ha hb).mpr z)) p e s0 m args below meth c H locs lsR C Z9 R S L)
theorem lx_icmp_ne (hd : decode M.2.1 pc = .ok (.if_icmp .ne o, 3)) (ht : (pc : Int) + o = (tgt : Int)) (ha : I32 a) (hb : I32 b) (kt : ¬ a = b → LW G M Rm Zc Qp X cs sl tgt ls st h) (kf : a = b → LW G M Rm Zc Qp X cs sl (pc + 3) ls st h) : LW G M Rm Zc Qp X cs sl pc ls (vi b :: vi a :: st) h := by
  intro p e s0 m args below meth c H locs lsR C Z9 R S L
  exact lv_icmp_ne C.1 C.2.1 hd ht (fun q => kt (fun z => q ((i_eq ha hb).mpr z)) p e s0 m args below meth c H locs lsR C Z9 R S L) (fun q => kf ((i_eq ha hb).mp q) p e s0 m args below meth c H locs lsR C Z9 R S L)
theorem lx_icmp_gt (hd : decode M.2.1 pc = .ok (.if_icmp .gt o, 3)) (ht : (pc : Int) + o = (tgt : Int)) (ha : I32 a) (hb : I32 b) (kt : b < a → LW G M Rm Zc Qp X cs sl tgt ls st h) (kf : ¬ b < a → LW G M Rm Zc Qp X cs sl (pc + 3) ls st h) : LW G M Rm Zc Qp X cs sl pc ls (vi b :: vi a :: st) h := by
  intro p e s0 m args below meth c H locs lsR C Z9 R S L
  exact lv_icmp_gt C.1 C.2.1 hd ht (fun q => kt ((i_lt hb ha).mp q) p e s0 m args below meth c H locs lsR C Z9 R S L) (fun q => kf (fun z => q ((i_lt hb ha).mpr z)) p e s0 m args below meth c H locs lsR C Z9 R S L)
theorem lx_icmp_ge (hd : decode M.2.1 pc = .ok (.if_icmp .ge o, 3)) (ht : (pc : Int) + o = (tgt : Int)) (ha : I32 a) (hb : I32 b) (kt : b ≤ a → LW G M Rm Zc Qp X cs sl tgt ls st h) (kf : ¬ b ≤ a → LW G M Rm Zc Qp X cs sl (pc + 3) ls st h) : LW G M Rm Zc Qp X cs sl pc ls (vi b :: vi a :: st) h := by
  intro p e s0 m args below meth c H locs lsR C Z9 R S L
  exact lv_icmp_ge C.1 C.2.1 hd ht (fun q => kt ((i_le hb ha).mp q) p e s0 m args below meth c H locs lsR C Z9 R S L) (fun q => kf (fun z => q ((i_le hb ha).mpr z)) p e s0 m args below meth c H locs lsR C Z9 R S L)
theorem lx_if_eq (hd : decode M.2.1 pc = .ok (.ifCond .eq o, 3)) (ht : (pc : Int) + o = (tgt : Int)) (ha : I32 a) (kt : a = 0 → LW G M Rm Zc Qp X cs sl tgt ls st h) (kf : ¬ a = 0 → LW G M Rm Zc Qp X cs sl (pc + 3) ls st h) : LW G M Rm Zc Qp X cs sl pc ls (vi a :: st) h := by
  intro p e s0 m args below meth c H locs lsR C Z9 R S L
  exact lv_if_eq C.1 C.2.1 hd ht (fun q => kt ((i_eq ha z32).mp q) p e s0 m args below meth c H locs lsR C Z9 R S L) (fun q => kf (fun z => q ((i_eq ha z32).mpr z)) p e s0 m args below meth c H locs lsR C Z9 R S L)
theorem lx_if_ne (hd : decode M.2.1 pc = .ok (.ifCond .ne o, 3)) (ht : (pc : Int) + o = (tgt : Int)) (ha : I32 a) (kt : ¬ a = 0 → LW G M Rm Zc Qp X cs sl tgt ls st h) (kf : a = 0 → LW G M Rm Zc Qp X cs sl (pc + 3) ls st h) : LW G M Rm Zc Qp X cs sl pc ls (vi a :: st) h := by
  intro p e s0 m args below meth c H locs lsR C Z9 R S L
  exact lv_if_ne C.1 C.2.1 hd ht (fun q => kt (fun z => q ((i_eq ha z32).mpr z)) p e s0 m args below meth c H locs lsR C Z9 R S L) (fun q => kf ((i_eq ha z32).mp q) p e s0 m args below meth c H locs lsR C Z9 R S L)
theorem lx_lcmp (hd : decode M.2.1 pc = .ok (.lcmp, 1)) (ha : I64 a) (hb : I64 b) (k : LW G M Rm Zc Qp X cs sl (pc + 1) ls (vi (cmpI a b) :: st) h) : LW G M Rm Zc Qp X cs sl pc ls (vl b :: vl a :: st) h := by
  intro p e s0 m args below meth c H locs lsR C Z9 R S L
  have k0 := k p e s0 m args below meth c H locs lsR C Z9 R S L
  refine W.lcmp C.1 C.2.1 hd ?_
  have : lg_cmp (Int64.ofInt a) (Int64.ofInt b) = Int32.ofInt (cmpI a b) := by
    unfold lg_cmp cmpI
    simp only [gt_iff_lt, l_lt hb ha, l_eq ha hb]
    by_cases h1 : b < a
    · rw [if_pos h1, if_neg (by omega), if_neg (by omega)]; rfl
    · rw [if_neg h1]
      by_cases h2 : a = b
      · rw [if_pos h2, if_neg (by omega), if_pos h2]; rfl
      · rw [if_neg h2, if_pos (by omega)]; rfl
  rw [this]
  exact k0
theorem lx_i2l (hd : decode M.2.1 pc = .ok (.i2l, 1)) (ha : I32 a) (k : LW G M Rm Zc Qp X cs sl (pc + 1) ls (vl a :: st) h) : LW G M Rm Zc Qp X cs sl pc ls (vi a :: st) h := by
  intro p e s0 m args below meth c H locs lsR C Z9 R S L
  exact lv_i2l C.1 C.2.1 hd (il_to ha) (k p e s0 m args below meth c H locs lsR C Z9 R S L)
theorem lx_lald {j : Nat} (hd : decode M.2.1 pc = .ok (.laload, 1)) (hg : hget h s q = some (ar 1 n f)) (hi : a = (j : Int)) (hj : j < n) (k : I64 (f j) → LW G M Rm Zc Qp X cs sl (pc + 1) ls (vl (f j) :: st) h) : LW G M Rm Zc Qp X cs sl pc ls (vi a :: vr s q :: st) h := by
  intro p e s0 m args below meth c H locs lsR C Z9 R S L
  subst hi
  obtain ⟨⟨-, hn, hf⟩, hc⟩ := rep_ar R hg
  have k0 := k (hf j) p e s0 m args below meth c H locs lsR C Z9 R S L
  have hcl : (Int32.ofInt (j : Int)).toNatClampNeg = j := by rw [i_clamp (by constructor <;> omega) (by omega)]; rfl
  have hP : va_P G.2.1 cls [(adr G.2.2.2 (s, q), .inl (G.2.2.1 1, n, .inr (.inl (fun j => Int64.ofInt (f j)))))] H := fun z x hx => by
    cases z with
    | zero => cases hx; exact hc
    | succ z => simp at hx
  refine va_lald C.1 C.2.1 C.2.2.2.2.2.2.2.1 hP 0 1 rfl rfl (i_vp (by constructor <;> omega) (by omega) (by omega)) hd ?_
  rw [hcl]
  exact k0
theorem lx_last {j : Nat} {x : Int} (hd : decode M.2.1 pc = .ok (.lastore, 1)) (hg : hget h s q = some (ar 1 n f)) (hi : a = (j : Int)) (hj : j < n) (hx : I64 x) (hh : hset h s q (ar 1 n (va_up f j x)) = h') (k : LW G M Rm Zc Qp X cs sl (pc + 1) ls st h') : LW G M Rm Zc Qp X cs sl pc ls (vl x :: vi a :: vr s q :: st) h := by
  intro p e s0 m args below meth c H locs lsR C Z9 R S L
  subst hi
  subst hh
  obtain ⟨ho, hc⟩ := rep_ar R hg
  have hcl : (Int32.ofInt (j : Int)).toNatClampNeg = j := by rw [i_clamp (by constructor <;> omega) (by omega)]; rfl
  have hin : vp_in (Int32.ofInt (j : Int)) n := i_vp (by constructor <;> omega) (by omega) (by omega)
  refine W.last C.1 C.2.1 hc ((C.2.2.2.2.2.2.2.1.2 1 _ rfl).1 n (fun j => .long (Int64.ofInt (f j)))) (fun q => by cases q) (by show ¬ (_ < 0 ∨ (arrV _ _ _).slots.size ≤ _); rw [arrV_size]; exact hin) rfl rfl hd fun H1 e1 z oq => ?_
  refine k p e s0 m args below meth c H1 _ lsR C Z9 (R.set hg (ok_up ho hx) ?_ z oq) (S.put z oq (adr_ge _ _)) L
  show H1[_]? = some (vp_cell _ _)
  rw [e1, hcl]
  simp only [conE, if_pos]
  rw [vp_cell_l, vp_cell_l, arrV_store]
  congr 2
  funext i
  simp only [updV, va_up]
  split <;> rfl
theorem lx_new {idx ci N : Nat} (hd : decode M.2.1 pc = .ok (.new idx, 3)) (hw : nOK M.1.cls idx ci = true) (hN : (cls[ci]?).map (fun r => r.2.2) = some N) (hl : hln h.2 s = some n) (hp : okP s n) (hn : h.1 = off s + n) (hc1 : cs + 1 ≤ Rm.cells) (hc2 : sl + N ≤ Rm.slots) (hh : (h.1 + 1, hps h.2 s (some (ob ci (dfs ci N)))) = h')
    (k : LW G M Rm Zc Qp X (cs + 1) (sl + N) (pc + 3) ls (vr s n :: st) h') : LW G M Rm Zc Qp X cs sl pc ls st h := by
  intro p e s0 m args below meth c H locs lsR C Z9 R S L
  subst hh
  obtain ⟨hx, hb, hr, hml, hown, hts, hlk, hK, -⟩ := id C
  unfold nOK at hw
  split at hw
  · rename_i r hc
    rw [hc] at hN
    cases hN
    simp only [Bool.and_eq_true, decide_eq_true_eq] at hw
    obtain ⟨⟨⟨w1, w2⟩, w3⟩, w4⟩ := hw
    have hKn := hK.1 ci _ hc
    refine W.newcK hx hb hown (hts _ (tb_mem w1 rfl)) (hts _ (tb_mem w2 rfl)) (hts _ (tb_mem w3 rfl)) rfl hd hc1 hc2 hKn.2.1 rfl fun H1 kC hkC e1 z1 o1 => ?_
    have hadr : adr G.2.2.2 (s, n) = H.size := by rw [R.1, hn]; simp only [adr]; omega
    have hfs : ∀ j, j < r.2.2 → defaultValue (clY ci j) = vp_V ((dfs ci r.2.2).map (conc G.2.2.2)) j := by
      intro j hj
      have ht := List.all_eq_true.mp w4 j (List.mem_range.mpr hj)
      simp only [vp_V, dfs, List.map_map]
      rw [List.getD_eq_getElem?_getD, List.getElem?_map, List.getElem?_range hj]
      simp only [Option.map_some, Option.getD_some, Function.comp]
      revert ht
      cases clY ci j <;> simp [tyOK, dflV, conc, va_rf] <;> rfl
    have k0 := k p e s0 m args below meth c H1 locs lsR C Z9 (R.push hl hp hn ?_ ?_ z1 o1) (S_push S z1 o1) L
    · simp only [List.map, conc, Option.map_some, va_rf, hadr] at k0
      exact k0
    · intro v hv
      simp only [dfs, List.mem_map] at hv
      obtain ⟨j, -, rfl⟩ := hv
      cases clY ci j <;> first | exact z32 | exact z64 | exact trivial
    · refine ⟨_, hc, (u_born (clY ci) hts (cls_ws hc) hKn hkC ?_ (cls_ty hc)).to hfs⟩
      rw [hadr]
      exact e1
  · cases hw
theorem lx_newa {t N : Nat} (hd : decode M.2.1 pc = .ok (.newarray (atT t), 2)) (ht : t ≤ 3) (hw : Cond.arrayClass (newarray.typeOf (atT t)) ∈ lw_tbl) (ha : a = (N : Int)) (hN : N ≤ 1000000) (hl : hln h.2 s = some n) (hp : okP s n) (hn : h.1 = off s + n) (hc1 : cs + 1 ≤ Rm.cells) (hc2 : sl + N ≤ Rm.slots) (hh : (h.1 + 1, hps h.2 s (some (ar t N (fun _ => 0)))) = h')
    (k : LW G M Rm Zc Qp X (cs + 1) (sl + N) (pc + 2) ls (vr s n :: st) h') : LW G M Rm Zc Qp X cs sl pc ls (vi a :: st) h := by
  intro p e s0 m args below meth c H locs lsR C Z9 R S L
  subst hh
  subst ha
  obtain ⟨hx, hb, hr, hml, hown, hts, hlk, hK, -⟩ := id C
  have hI : I32 (N : Int) := by constructor <;> omega
  have hadr : adr G.2.2.2 (s, n) = H.size := by rw [R.1, hn]; simp only [adr]; omega
  have hcb : componentBytes (newarray.typeOf (atT t)) ≤ 8 := by
    rcases (show t = 0 ∨ t = 1 ∨ t = 2 ∨ t = 3 by omega) with rfl | rfl | rfl | rfl <;> decide
  refine va_newaK hx hb (hts _ (tb_mem hw rfl)) rfl hd rfl (fun q => by have := (i_lt hI z32).mp q; omega) (N := N) (by rw [i_clamp hI (by omega)]; rfl) (Nat.le_trans (Nat.mul_le_mul hN hcb) (by decide)) hc1 hc2 rfl fun H1 cA e1 z1 o1 hAr hNm => ?_
  have k0 := k p e s0 m args below meth c H1 locs lsR C Z9 (R.push hl hp hn ?_ ?_ z1 o1) (S_push S z1 o1) L
  · simp only [List.map, conc, Option.map_some, va_rf, hadr] at k0
    exact k0
  · refine ⟨ht, (by show N ≤ 2147483647; omega), fun j => ?_⟩
    rcases (show t = 0 ∨ t = 1 ∨ t = 2 ∨ t = 3 by omega) with rfl | rfl | rfl | rfl <;> simp [inT]
  · show H1[adr G.2.2.2 (s, n)]? = some (vp_cell _ _)
    rw [hadr, e1]
    rcases (show t = 0 ∨ t = 1 ∨ t = 2 ∨ t = 3 by omega) with rfl | rfl | rfl | rfl
    · have := (hK.2 0 _ rfl).2
      cases Option.some.inj (hNm.symm.trans this)
      rfl
    · have := (hK.2 1 _ rfl).2
      cases Option.some.inj (hNm.symm.trans this)
      rfl
    · have := (hK.2 2 _ rfl).2
      cases Option.some.inj (hNm.symm.trans this)
      rfl
    · have := (hK.2 3 _ rfl).2
      cases Option.some.inj (hNm.symm.trans this)
      rfl
theorem lx_tabIn {dflt lo hi : Int} {offs : Array Int} {len : Nat} (hd : decode M.2.1 pc = .ok (.tableswitch dflt lo hi offs, len)) (ha : I32 a) (h1 : lo ≤ a) (h2 : a ≤ hi) (ho : offs[(a - lo).toNat]? = some o) (ht : (pc : Int) + o = (tgt : Int)) (k : LW G M Rm Zc Qp X cs sl tgt ls st h) : LW G M Rm Zc Qp X cs sl pc ls (vi a :: st) h := by
  intro p e s0 m args below meth c H locs lsR C Z9 R S L
  exact lv_tableIn C.1 C.2.1 hd (by rw [i_to ha]; omega) (by rw [i_to ha]; omega) (by rw [i_to ha]; exact ho) ht (k p e s0 m args below meth c H locs lsR C Z9 R S L)
theorem lx_tabOut {dflt lo hi : Int} {offs : Array Int} {len : Nat} (hd : decode M.2.1 pc = .ok (.tableswitch dflt lo hi offs, len)) (ha : I32 a) (hz : a < lo ∨ hi < a) (ht : (pc : Int) + dflt = (tgt : Int)) (k : LW G M Rm Zc Qp X cs sl tgt ls st h) : LW G M Rm Zc Qp X cs sl pc ls (vi a :: st) h := by
  intro p e s0 m args below meth c H locs lsR C Z9 R S L
  exact lv_tableOut C.1 C.2.1 hd (by rw [i_to ha]; exact hz) ht (k p e s0 m args below meth c H locs lsR C Z9 R S L)
theorem lx_and {z p9 : Int} (k : Nat) (hd : decode M.2.1 pc = .ok (.iand, 1)) (hk : k ≤ 30) (hz : (Int32.ofInt z).toBitVec.toNat = 2 ^ k - 1) (hp : ((2 ^ k : Nat) : Int) = p9) (kk : LW G M Rm Zc Qp X cs sl (pc + 1) ls (vi (a % p9) :: st) h) : LW G M Rm Zc Qp X cs sl pc ls (vi z :: vi a :: st) h := by
  intro p e s0 m args below meth c H locs lsR C Z9 R S L
  refine lv_iand C.1 C.2.1 hd ?_
  rw [i_mask k hk hz, hp]
  exact kk p e s0 m args below meth c H locs lsR C Z9 R S L
theorem lx_eq {ls' : LSt} {st' : List AV} (e1 : ls = ls') (e2 : st = st') (e3 : h = h') (k : LW G M Rm Zc Qp X cs sl pc ls' st' h') : LW G M Rm Zc Qp X cs sl pc ls st h := by subst e1 e2 e3; exact k
theorem pre_mY {s : State} {H : Heap} {as : List AV} {p : Program} {m : MethodId} {args : Array Value} {meth : Method} {c : Code} {locs : List Loc} (C : Cy G M p s m args meth c) (R : Rep G h H) (S : va_S (gA G) s.heap H locs) : ∀ U : State, U.heap = H → s.WarmedH U.vm → va_Pc (as.map (conc G.2.2.2)) (RepU G h) (as.map (conc G.2.2.2)).toArray U := by
  intro U hU hW
  obtain ⟨-, -, -, -, -, -, -, hK, hZ, -, -, hb, -, hN⟩ := C
  have hq : ∀ a : Nat, a < s.heap.size → ¬ gA G a → H[a]? = s.heap[a]? := S.2.1
  refine ⟨rfl, by rw [hU]; exact R, va_K.moved hW.alike hK, ⟨?_, ?_⟩, nB_warm hW hN⟩
  · rw [hU]; exact vx_Zq.moved hW.alike (vx_Zq.kept hZ.1 hq)
  · rw [hU]; exact vx_Zq.moved hW.alike (vx_Zq.kept hZ.2 hq)
theorem lx_widen {k n9 : Nat} (h1 : cs ≤ k) (h2 : sl ≤ n9) (kk : LW G M Rm Zc Qp X k n9 pc ls st h) : LW G M Rm Zc Qp X cs sl pc ls st h := by
  intro p e s0 m args below meth c H locs lsR C Z9 R S L
  exact W.widen h1 h2 (kk p e s0 m args below meth c H locs lsR C Z9 R S L)
/-- behind a call that returns -/
theorem lx_after {p : Program} {e : Env} {s : State} {m : MethodId} {args : Array Value} {below : List Frame} {meth : Method} {c : Code} {H : Heap} {locs : List Loc} {lsR : Array Slot} {stR : List Value} {a9 : Array Value} {mc ms : Nat}
    (hr : vx_Run p G.1 e Rm s m args below meth c H locs cs sl mc ms (F0 m pc lsR stR) (st.map (conc G.2.2.2)) (QcM G Qr' a9) (XcM G (fun _ => False)) (gA G)) (C : Cy G M p s m args meth c) (Z9 : Zc s args c) (S : va_S (gA G) s.heap H locs) (L : lv_has lsR M.2.2.1 (X ++ lvP G.2.2.2 0 ls))
    (k : ∀ r h', Qr' r h' → LW G M Rm Zc Qp X (cs + mc) (sl + ms) (pc + 3) ls (r.toList ++ st) h') :
    W p G.1 e Rm s m args below meth c H locs cs sl (Qp below args s) (F0 m pc lsR stR) := by
  intro T hT X9
  rcases hr T hT X9 with ⟨v, st₀, t, T', Lc, h0, X', hL, e1, e2, ⟨r, h', hq, hv, hR, hF⟩, st9⟩ | ⟨q, st₀, t, T', Lc, E, ce, h0, X', hL, e1, e2, ⟨hE, h', hq, hR, hF⟩, hce, hcv, hcl, st9⟩
  · obtain ⟨-, -, hS⟩ := vx_keep (A1 := gA G) h0 e1 S (fun q _ z => z) (fun q z => z) hL hF
    cases hv
    obtain ⟨t2, a1, b1⟩ := k r h' hq p e s m args below meth c T'.heap _ lsR C Z9 (by rw [e1]; exact hR) hS L T' rfl X'
    refine ⟨t2, st9 t2 ?_, b1⟩
    have e9 : (r.toList ++ st).map (conc G.2.2.2) = (r.map (conc G.2.2.2)).toList ++ st.map (conc G.2.2.2) := by cases r <;> simp
    rw [e9] at a1
    exact a1
  · exact hq.elim
theorem callB_mkR {s : State} {args : Array Value} {own : String} (hts : ∀ w ∈ tb, w.before args s = true) (hb : bOK M' n = true) (hl : Cond.methodLink own idx M'.1 ∈ lw_tbl) (hd1 : M'.2.2.2.2.1 + 1 ≤ Rm.frames) (hd2 : 60 * M'.2.2.2.2.1 + 60 ≤ Rm.locals) :
    CallB Rm s args own idx M'.1 M'.2.1 M'.2.2.1 M'.2.2.2.1 (wsM M') (rmM M') M'.2.2.2.2.2.1 M'.2.2.2.2.2.2 n := by
  simp only [bOK, Bool.and_eq_true, decide_eq_true_eq] at hb
  obtain ⟨⟨⟨⟨⟨b1, b2⟩, b3⟩, b4⟩, b5⟩, b6⟩ := hb
  exact callB_of (ws' := lw_tbl.filter goodWord) n hts (bOK_good b1) rfl rfl rfl (hts _ (tb_mem b2 rfl)) (hts _ (tb_mem hl rfl)) ⟨b3, b4, b5⟩ ⟨hd1, by show 8 + (M'.2.2.1 + 11) + 60 * M'.2.2.2.2.1 ≤ Rm.locals; omega⟩
theorem lx_callV {as : List AV} {ci : Nat} {fs : List AV} {stk : List AV} (hM : AMet G M' (vr s q :: as) h Qr' (fun _ => False)) (hd : decode M.2.1 pc = .ok (.invokevirtual idx, 3)) (hw : vOK M.1.cls idx M' as.length = true) (hg : hget h s q = some (ob ci fs)) (hci : (cls[ci]?).map (fun r => r.1) = some M'.1.cls) (hst : stk = as.reverse ++ vr s q :: st) (hcat : catS st ≤ 8) (hd1 : M'.2.2.2.2.1 + 1 ≤ Rm.frames) (hd2 : 60 * M'.2.2.2.2.1 + 60 ≤ Rm.locals) (hc : cs + M'.2.2.2.2.2.1 ≤ Rm.cells) (hs : sl + M'.2.2.2.2.2.2 ≤ Rm.slots)
    (k : ∀ r h', Qr' r h' → LW G M Rm Zc Qp X (cs + M'.2.2.2.2.2.1) (sl + M'.2.2.2.2.2.2) (pc + 3) ls (r.toList ++ st) h') : LW G M Rm Zc Qp X cs sl pc ls stk h := by
  intro p e s0 m args below meth c H locs lsR C Z9 R S L
  subst hst
  obtain ⟨hx, hb, hr, hml, hown, hts, hlk, hK, hZ, hex, hnm, hbs, hl, hN⟩ := id C
  simp only [vOK, Bool.and_eq_true, decide_eq_true_eq] at hw
  obtain ⟨⟨⟨w0, w1⟩, w2⟩, w3⟩ := hw
  have hrec : ∃ cellB : Cell, H[adr G.2.2.2 (s, q)]? = some cellB ∧ cellB.vm.isStatics = false ∧ s0.vm.findClass M'.1.cls = some cellB.cls := by
    cases hcc : cls[ci]? with
    | none => rw [hcc] at hci; cases hci
    | some r =>
      rw [hcc] at hci
      have e9 : r.1 = M'.1.cls := Option.some.inj hci
      rw [← e9]
      exact va_recv hK (rep_ob R hg) (ci := ci) (q0 := 0) hcc rfl
  refine lx_after (st := st) (vx_runV (As := as.map (conc G.2.2.2)) (rest := st.map (conc G.2.2.2)) (b := adr G.2.2.2 (s, q)) ⟨hx, hb, hml, hown, hts⟩ (hM hl) ⟨callB_mkR hts w0 w1 hd1 hd2, hts _ (tb_mem w2 rfl), hts _ (tb_mem w3 rfl)⟩ ⟨pc_blind, hrec, pre_mY (as := vr s q :: as) C R S⟩ rfl (by simp) L.1 ?_ ?_ hd ⟨hc, hs⟩) C Z9 S L k
  · simp [List.map_append, List.map_reverse, conc, va_rf]
  · exact lv_room (by rw [catS_eq]; exact hcat)
theorem lx_callI {as : List AV} {stk : List AV} (hM : AMet G M' (vr s q :: as) h Qr' (fun _ => False)) (hd : decode M.2.1 pc = .ok (.invokespecial idx, 3)) (hw : iOK M.1.cls idx M' as.length = true) (hst : stk = as.reverse ++ vr s q :: st) (hcat : catS st ≤ 8) (hd1 : M'.2.2.2.2.1 + 1 ≤ Rm.frames) (hd2 : 60 * M'.2.2.2.2.1 + 60 ≤ Rm.locals) (hc : cs + M'.2.2.2.2.2.1 ≤ Rm.cells) (hs : sl + M'.2.2.2.2.2.2 ≤ Rm.slots)
    (k : ∀ r h', Qr' r h' → LW G M Rm Zc Qp X (cs + M'.2.2.2.2.2.1) (sl + M'.2.2.2.2.2.2) (pc + 3) ls (r.toList ++ st) h') : LW G M Rm Zc Qp X cs sl pc ls stk h := by
  intro p e s0 m args below meth c H locs lsR C Z9 R S L
  subst hst
  obtain ⟨hx, hb, hr, hml, hown, hts, hlk, hK, hZ, hex, hnm, hbs, hl, hN⟩ := id C
  simp only [iOK, Bool.and_eq_true, decide_eq_true_eq] at hw
  obtain ⟨⟨⟨⟨w0, w1⟩, w2⟩, w3⟩, w4⟩ := hw
  have cb := callB_mkR (Rm := Rm) hts w0 w1 hd1 hd2
  rw [w4] at cb
  refine lx_after (st := st) (run_vx (va_runI (As := as.map (conc G.2.2.2)) (rest := st.map (conc G.2.2.2)) (b := adr G.2.2.2 (s, q)) ⟨hx, hb, hml, hown, hts⟩ (am_met hl hM) ⟨cb, w3, hts _ (tb_mem w2 rfl)⟩ ⟨pc_blind, pre_mY (as := vr s q :: as) C R S⟩ rfl (by simp) L.1 ?_ ?_ hd ⟨hc, hs⟩)) C Z9 S L k
  · simp [List.map_append, List.map_reverse, conc, va_rf]
  · exact lv_room (by rw [catS_eq]; exact hcat)
end
