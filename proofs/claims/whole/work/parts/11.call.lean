/-! entry, returns, calls, throws -/
theorem nB_args {w : Cond} {U : State} {A : Array Value} (hn : okN w = true) (h : w.before #[] U = true) : w.before A U = true := by
  cases w <;> simp only [okN] at hn <;> (try (cases hn; done))
  · exact va_Nw.use rfl h
  · exact va_Nw.use rfl h
  · exact va_Nw.use rfl h
  · exact h
theorem nB_same {u U : State} (e : u.vm = U.vm) (h : nB u) : nB U := by
  intro w hw hn
  have h1 := h w hw hn
  cases w <;> simp only [okN] at hn <;> (try (cases hn; done))
  · exact va_Nw.same rfl e h1
  · exact va_Nw.same rfl e h1
  · exact va_Nw.same rfl e h1
  · rename_i ty
    cases ty <;> simp only [okN] at hn <;> (try (cases hn; done))
    exact va_AO.moved (u := u) (U := U) (by rw [← e]; exact Vm.Alike.refl _) h1
theorem nB_warm {s U : State} (hW : s.WarmedH U.vm) (h : nB s) : nB U := by
  intro w hw hn
  have h1 := h w hw hn
  cases w <;> simp only [okN] at hn <;> (try (cases hn; done))
  · exact va_Nw.warmM hW h1
  · exact va_Nw.warmD hW h1
  · exact va_Nw.warmC hW h1
  · rename_i ty
    cases ty <;> simp only [okN] at hn <;> (try (cases hn; done))
    exact va_AO.moved hW.alike h1
def RepU (G : GT) (h : HT) (U : State) : Prop := Rep G h U.heap ∧ va_K G.2.1 cls (tyG G) U ∧ zU G U U.heap ∧ nB U
def AMet (G : GT) (M : MI) (as : List AV) (h : HT) (Qr : Option AV → HT → Prop) (Qt : HT → Prop) : Prop :=
  G.1.stackTraces = false → vx_Met G.1 M.1 (wsM M) (rmM M) (va_Pc (as.map (conc G.2.2.2)) (RepU G h)) (QcM G Qr) (XcM G Qt) M.2.2.2.2.2.1 M.2.2.2.2.2.2 (gA G)
theorem pc_blind {G : GT} {h : HT} {av : List Value} : FrameBlind (va_Pc av (RepU G h)) := by
  intro a U g mk q
  obtain ⟨q0, q1, q2, q3, q4⟩ := q
  exact ⟨q0, q1, va_K.moved (u := U) (U := U.calling g mk a) (Vm.Alike.refl U.vm) q2, ⟨vx_Zq.moved (u := U) (U := U.calling g mk a) (Vm.Alike.refl U.vm) q3.1, vx_Zq.moved (u := U) (U := U.calling g mk a) (Vm.Alike.refl U.vm) q3.2⟩, nB_same (u := U) (U := U.calling g mk a) rfl q4⟩
/-- the locals with which a method begins -/
def entL : List AV → LSt
  | [] => []
  | .inl z :: r => some (vi z) :: entL r
  | .inr (.inl z) :: r => some (vl z) :: none :: entL r
  | .inr (.inr q) :: r => some (vo q) :: entL r
def entN (as : List AV) (n : Nat) : LSt := entL as ++ List.replicate (n - (entL as).length) none
theorem lvP_app {base : Nat} : ∀ (a : LSt) (i k : Nat), lvP base i (a ++ List.replicate k none) = lvP base i a
  | [], i, k => by
    induction k generalizing i with
    | zero => rfl
    | succ k ih => simp only [List.replicate, List.nil_append, lvP]; exact ih (i + 1)
  | some v :: r, i, k => by simp only [List.cons_append, lvP]; rw [lvP_app r (i + 1) k]
  | none :: r, i, k => by simp only [List.cons_append, lvP]; rw [lvP_app r (i + 1) k]
theorem ent_args {base : Nat} : ∀ (as : List AV) (i : Nat), lvP base i (entL as) = lv_args i (as.map (conc base))
  | [], i => rfl
  | .inl z :: r, i => by
    simp only [entL, lvP, List.map, lv_args]
    rw [ent_args r (i + 1)]
    rfl
  | .inr (.inl z) :: r, i => by
    simp only [entL, lvP, List.map, lv_args]
    rw [ent_args r (i + 1 + 1)]
    rfl
  | .inr (.inr q) :: r, i => by
    simp only [entL, lvP, List.map, lv_args]
    rw [ent_args r (i + 1)]
    cases q <;> rfl
theorem lg_cons (v : Value) (vs : List Value) : (lg_sl (v :: vs)).length = (if v.category = 2 then 2 else 1) + (lg_sl vs).length := by
  unfold lg_sl
  rw [List.flatMap_cons, List.length_append]
  split <;> rfl
theorem ent_len {base : Nat} : ∀ (as : List AV), (lg_sl (as.map (conc base))).length = (entL as).length
  | [] => rfl
  | .inl z :: r => by
    have := ent_len (base := base) r
    rw [List.map_cons, lg_cons, this, if_neg (by simp [conc, Value.category])]
    simp only [entL, List.length_cons]; omega
  | .inr (.inl z) :: r => by
    have := ent_len (base := base) r
    rw [List.map_cons, lg_cons, this, if_pos (show (conc base (Sum.inr (Sum.inl z))).category = 2 from rfl)]
    simp only [entL, List.length_cons]; omega
  | .inr (.inr q) :: r => by
    have := ent_len (base := base) r
    rw [List.map_cons, lg_cons, this, if_neg (by cases q <;> simp [conc, va_rf, Value.category])]
    simp only [entL, List.length_cons]; omega
section
variable {G : GT} {M M' : MI} {Qr Qr' : Option AV → HT → Prop} {Qt Qt' : HT → Prop} {cs sl pc : Nat} {ls : LSt} {st : List AV} {h h' : HT} {a b o : Int} {tgt s q n idx : Nat}
theorem am_entry {as : List AV} (hy : plainName M.1.cls = true) (hn : (entL as).length ≤ M.2.2.1) (k : AW G M Qr Qt 0 0 0 (entN as M.2.2.1) [] h) : AMet G M as h Qr Qt := by
  intro hl
  refine vx_ofW (cc := M.2.1) (maxL := M.2.2.1) (ret := M.2.2.2.1) hy rfl ?_
  intro p e s m args below meth c s₁ B hml hex hv
  obtain ⟨rfl, hR, hK, hZ, hN⟩ := hv
  have hts0 := atoms_spec (ws := wsM M) B.pre
  have C : Cx G M p s m (as.map (conc G.2.2.2)).toArray meth c := ⟨B.exec, B.bytes, B.returns, hml, findClass_of_methodNamed B.named, fun w hw => by
    obtain ⟨h1, h2⟩ := List.mem_filter.mp hw
    unfold okW at h2
    rw [Bool.or_eq_true] at h2
    rcases h2 with h2 | h2
    · exact hts0 w (List.mem_cons_of_mem _ (List.mem_filter.mpr ⟨h1, h2⟩))
    · exact nB_args h2 (hN w h1 h2), B.notSynchronized, hK, hZ, hex, (name_of_methodNamed B.named B.method).1, by rw [hR.1]; omega, hl, hN⟩
  have L := lv_entry (as.map (conc G.2.2.2)) (n := M.2.2.1) (by rw [ent_len]; exact hn)
  rw [lg_entry_eq]
  refine k p e s m _ below meth c s.heap [] _ C hR va_S.rf ?_
  rw [entN, lvP_app, ent_args]
  exact L
theorem am_mono {as : List AV} (hM : AMet G M as h Qr Qt) (h1 : ∀ r h', Qr r h' → Qr' r h') (h2 : ∀ h', Qt h' → Qt' h') : AMet G M as h Qr' Qt' := by
  intro hl p e a1 a2 a3 s m args below f1 f2 f3 f4
  obtain ⟨n, o, g1, g2, g3, g4⟩ := hM hl p e a1 a2 a3 s m args below f1 f2 f3 f4
  refine ⟨n, o, g1, g2, g3, ?_⟩
  rcases g4 with ⟨⟨r, h', x1, x2⟩, x3⟩ | ⟨q, x1, E, ce, L, ⟨y1, h', y2, y3⟩, x2⟩
  · exact Or.inl ⟨⟨r, h', h1 r h' x1, x2⟩, x3⟩
  · exact Or.inr ⟨q, x1, E, ce, L, ⟨y1, h', h2 h' y2, y3⟩, x2⟩
theorem am_met {as : List AV} (hl : G.1.stackTraces = false) (hM : AMet G M as h Qr (fun _ => False)) : Met G.1 M.1 (wsM M) (rmM M) (va_Pc (as.map (conc G.2.2.2)) (RepU G h)) (QcM G Qr) M.2.2.2.2.2.1 M.2.2.2.2.2.2 (gA G) := by
  intro p e a1 a2 a3 s m args below f1 f2 f3 f4
  obtain ⟨n, o, g1, g2, g3, g4⟩ := hM hl p e a1 a2 a3 s m args below f1 f2 f3 f4
  refine ⟨n, o, g1, g2, g3, ?_⟩
  rcases g4 with g4 | ⟨q, x1, E, ce, L, ⟨y1, h', y2, y3⟩, x2⟩
  · exact g4
  · exact y2.elim
theorem aw_iret (hd : decode M.2.1 pc = .ok (.ireturn, 1)) (hr : M.2.2.2.1 = some .int) (hc : cs ≤ M.2.2.2.2.2.1) (hs : sl ≤ M.2.2.2.2.2.2) (hq : Qr (some (vi a)) h) : AW G M Qr Qt cs sl pc ls [vi a] h := by
  intro p e s0 m args below meth c H locs lsR C R S L
  refine W.widen hc hs (vx_ret ?_)
  exact W.iret (v := Int32.ofInt a) C.1 C.2.1 (C.2.2.1.trans hr) (fun t ht hW => ⟨some (vi a), h, hq, rfl, by rw [ht]; exact R, S.F ht⟩) S.2.2 hd C.2.2.2.2.2.2.1
theorem aw_zret (hd : decode M.2.1 pc = .ok (.ireturn, 1)) (hr : M.2.2.2.1 = some .boolean) (hc : cs ≤ M.2.2.2.2.2.1) (hs : sl ≤ M.2.2.2.2.2.2) (ha : 0 ≤ a ∧ a ≤ 1) (hq : Qr (some (vi a)) h) : AW G M Qr Qt cs sl pc ls [vi a] h := by
  intro p e s0 m args below meth c H locs lsR C R S L
  refine W.widen hc hs (vx_ret ?_)
  exact W.zret (v := Int32.ofInt a) C.1 C.2.1 (C.2.2.1.trans hr) (by rcases (show a = 0 ∨ a = 1 by omega) with rfl | rfl <;> rfl) (fun t ht hW => ⟨some (vi a), h, hq, rfl, by rw [ht]; exact R, S.F ht⟩) S.2.2 hd C.2.2.2.2.2.2.1
theorem aw_lret (hd : decode M.2.1 pc = .ok (.lreturn, 1)) (hr : M.2.2.2.1 = some .long) (hc : cs ≤ M.2.2.2.2.2.1) (hs : sl ≤ M.2.2.2.2.2.2) (hq : Qr (some (vl a)) h) : AW G M Qr Qt cs sl pc ls [vl a] h := by
  intro p e s0 m args below meth c H locs lsR C R S L
  refine W.widen hc hs (vx_ret ?_)
  exact W.lret (v := Int64.ofInt a) C.1 C.2.1 (C.2.2.1.trans hr) (fun t ht hW => ⟨some (vl a), h, hq, rfl, by rw [ht]; exact R, S.F ht⟩) S.2.2 hd C.2.2.2.2.2.2.1
theorem aw_aret {r : Option (Nat × Nat)} {C9 : String} (hd : decode M.2.1 pc = .ok (.areturn, 1)) (hr : M.2.2.2.1 = some (.object C9)) (hc : cs ≤ M.2.2.2.2.2.1) (hs : sl ≤ M.2.2.2.2.2.2) (hq : Qr (some (vo r)) h) : AW G M Qr Qt cs sl pc ls [vo r] h := by
  intro p e s0 m args below meth c H locs lsR C R S L
  refine W.widen hc hs (vx_ret ?_)
  refine W.aret (v := va_rf (r.map (adr G.2.2.2))) C.1 C.2.1 (C.2.2.1.trans hr) (Or.inl ⟨C9, rfl⟩) ?_ (fun t ht hW => ⟨some (vo r), h, hq, rfl, by rw [ht]; exact R, S.F ht⟩) S.2.2 hd C.2.2.2.2.2.2.1
  cases r with
  | none => exact Or.inl rfl
  | some x => exact Or.inr ⟨_, rfl⟩
theorem aw_vret (hd : decode M.2.1 pc = .ok (.return_, 1)) (hr : M.2.2.2.1 = none) (hc : cs ≤ M.2.2.2.2.2.1) (hs : sl ≤ M.2.2.2.2.2.2) (hq : Qr none h) : AW G M Qr Qt cs sl pc ls [] h := by
  intro p e s0 m args below meth c H locs lsR C R S L
  refine W.widen hc hs (vx_ret ?_)
  exact W.vret C.1 C.2.1 (C.2.2.1.trans hr) (fun t ht hW => ⟨none, h, hq, rfl, by rw [ht]; exact R, S.F ht⟩) S.2.2 hd C.2.2.2.2.2.2.1
/-- behind a call -/
theorem aw_after {p : Program} {e : Env} {s : State} {m : MethodId} {args : Array Value} {below : List Frame} {meth : Method} {c : Code} {H : Heap} {locs : List Loc} {lsR : Array Slot} {stR : List Value} {a9 : Array Value} {mc ms : Nat}
    (hr : vx_Run p G.1 e (rmM M) s m args below meth c H locs cs sl mc ms (F0 m pc lsR stR) (st.map (conc G.2.2.2)) (QcM G Qr' a9) (XcM G Qt') (gA G)) (C : Cx G M p s m args meth c) (S : va_S (gA G) s.heap H locs) (L : lv_has lsR M.2.2.1 (lvP G.2.2.2 0 ls))
    (hc : cs + mc ≤ M.2.2.2.2.2.1) (hs : sl + ms ≤ M.2.2.2.2.2.2) (kt : ∀ h', Qt' h' → Qt h') (k : ∀ r h', Qr' r h' → AW G M Qr Qt (cs + mc) (sl + ms) (pc + 3) ls (r.toList ++ st) h') :
    W p G.1 e (rmM M) s m args below meth c H locs cs sl (vx_MQ below (QcM G Qr) (XcM G Qt) args s M.2.2.2.2.2.1 M.2.2.2.2.2.2 (gA G)) (F0 m pc lsR stR) := by
  intro T hT X
  rcases hr T hT X with ⟨v, st₀, t, T', Lc, h0, X', hL, e1, e2, ⟨r, h', hq, hv, hR, hF⟩, st9⟩ | ⟨q, st₀, t, T', Lc, E, ce, h0, X', hL, e1, e2, ⟨hE, h', hq, hR, hF⟩, hce, hcv, hcl, st9⟩
  · obtain ⟨-, -, hS⟩ := vx_keep (A1 := gA G) h0 e1 S (fun q _ z => z) (fun q z => z) hL hF
    cases hv
    obtain ⟨t2, a1, b1⟩ := k r h' hq p e s m args below meth c T'.heap _ lsR C (by rw [e1]; exact hR) hS L T' rfl X'
    refine ⟨t2, st9 t2 ?_, b1⟩
    have e9 : (r.toList ++ st).map (conc G.2.2.2) = (r.map (conc G.2.2.2)).toList ++ st.map (conc G.2.2.2) := by cases r <;> simp
    rw [e9] at a1
    exact a1
  · obtain ⟨-, -, hS⟩ := vx_keep (A1 := gA G) h0 e1 S (fun q _ z => z) (fun q z => z) hL hF
    obtain ⟨t2, a1, b1⟩ := vx_out (Qc := QcM G Qr) (XC := XcM G Qt) (pc := pc) (ls := lsR) (rest := st.map (conc G.2.2.2)) (below := below) (free := gA G) (mc := M.2.2.2.2.2.1) (ms := M.2.2.2.2.2.2) (fun x hx => (C.2.2.2.2.2.2.2.2.2.1 x hx).elim) C.2.2.2.2.2.2.1 (by rw [e1]; exact hce) hcv hcl (fun t9 ht9 hA => ⟨hE, h', kt h' hq, by rw [ht9, e1]; exact hR, hS.F ht9⟩) hS.2.2 hc hs T' rfl X'
    exact ⟨t2, st9.trans a1, b1⟩
theorem run_vx {p : Program} {l : Launch} {e : Env} {R : Room} {s : State} {m : MethodId} {args : Array Value} {below : List Frame} {meth : Method} {c : Code} {H : Heap} {locs : List Loc} {mc ms : Nat} {g : JFrame} {rest : List Value} {Qa : State → Outcome → State → Prop} {XC : String → State → State → Prop} {free : Addr → Prop}
    (hr : va_Run p l e R s m args below meth c H locs cs sl mc ms g rest Qa free) : vx_Run p l e R s m args below meth c H locs cs sl mc ms g rest Qa XC free := fun T hT X => Or.inl (hr T hT X)
def cWd (M : MI) : Cond := .code M.1 M.2.1 M.2.2.1 M.2.2.2.1
def bOK (M : MI) (n : Nat) : Bool := decide (cWd M ∈ lw_tbl) && decide (Cond.initialized M.1.cls ∈ lw_tbl) && decide (M.1.cls ≠ "java/lang/invoke/MethodHandle") && decide (M.1.cls ≠ "java/lang/invoke/VarHandle") && decide ((parseMethodDescriptor M.1.desc).map (fun d => d.parameters.length) = some n) && decide (M.2.2.1 ≤ 41)
theorem bOK_good (h : cWd M ∈ lw_tbl) : GoodIn tb (wsM M) := by
  intro w hw
  rcases List.mem_cons.mp hw with hw | hw
  · subst hw
    exact ⟨tb_mem h rfl, good_of_word rfl⟩
  · obtain ⟨h1, h2⟩ := List.mem_filter.mp hw
    exact ⟨tb_mem h1 (by unfold okW; rw [h2]; rfl), good_of_word h2⟩
theorem callB_mk {s : State} {args : Array Value} {own : String} (hts : ∀ w ∈ tb, w.before args s = true) (hb : bOK M' n = true) (hl : Cond.methodLink own idx M'.1 ∈ lw_tbl) (hd1 : M'.2.2.2.2.1 + 1 ≤ M.2.2.2.2.1) :
    CallB (rmM M) s args own idx M'.1 M'.2.1 M'.2.2.1 M'.2.2.2.1 (wsM M') (rmM M') M'.2.2.2.2.2.1 M'.2.2.2.2.2.2 n := by
  simp only [bOK, Bool.and_eq_true, decide_eq_true_eq] at hb
  obtain ⟨⟨⟨⟨⟨b1, b2⟩, b3⟩, b4⟩, b5⟩, b6⟩ := hb
  exact callB_of (ws' := lw_tbl.filter goodWord) n hts (bOK_good b1) rfl rfl rfl (hts _ (tb_mem b2 rfl)) (hts _ (tb_mem hl rfl)) ⟨b3, b4, b5⟩ ⟨hd1, by show 8 + (M'.2.2.1 + 11) + 60 * M'.2.2.2.2.1 ≤ 60 * M.2.2.2.2.1; omega⟩
theorem pre_mk {s : State} {H : Heap} {as : List AV} {p : Program} {m : MethodId} {args : Array Value} {meth : Method} {c : Code} {locs : List Loc} (C : Cx G M p s m args meth c) (R : Rep G h H) (S : va_S (gA G) s.heap H locs) : ∀ U : State, U.heap = H → s.WarmedH U.vm → va_Pc (as.map (conc G.2.2.2)) (RepU G h) (as.map (conc G.2.2.2)).toArray U := by
  intro U hU hW
  obtain ⟨-, -, -, -, -, -, -, hK, hZ, -, -, hb, -, hN⟩ := C
  have hq : ∀ a : Nat, a < s.heap.size → ¬ gA G a → H[a]? = s.heap[a]? := S.2.1
  refine ⟨rfl, by rw [hU]; exact R, va_K.moved hW.alike hK, ⟨?_, ?_⟩, nB_warm hW hN⟩
  · rw [hU]; exact vx_Zq.moved hW.alike (vx_Zq.kept hZ.1 hq)
  · rw [hU]; exact vx_Zq.moved hW.alike (vx_Zq.kept hZ.2 hq)
def catS (st : List AV) : Nat := (st.map (fun v => match v with | .inr (.inl _) => 2 | _ => 1)).sum
theorem catS_eq {base : Nat} : ∀ st : List AV, ((st.map (conc base)).map fun v => v.category).sum = catS st
  | [] => rfl
  | .inl z :: r => by have := catS_eq (base := base) r; simp only [catS, List.map, List.sum_cons] at this ⊢; rw [this]; rfl
  | .inr (.inl z) :: r => by have := catS_eq (base := base) r; simp only [catS, List.map, List.sum_cons] at this ⊢; rw [this]; rfl
  | .inr (.inr q) :: r => by have := catS_eq (base := base) r; simp only [catS, List.map, List.sum_cons] at this ⊢; rw [this]; cases q <;> rfl
def vOK (own : String) (idx : Nat) (M : MI) (n : Nat) : Bool := bOK M n && decide (Cond.methodLink own idx M.1 ∈ lw_tbl) && decide (Cond.instanceMethod M.1 ∈ lw_tbl) && decide (Cond.selects M.1.cls M.1 M.1 ∈ lw_tbl)
theorem aw_callV {as : List AV} {ci : Nat} {fs : List AV} {stk : List AV} (hM : AMet G M' (vr s q :: as) h Qr' Qt') (hd : decode M.2.1 pc = .ok (.invokevirtual idx, 3)) (hw : vOK M.1.cls idx M' as.length = true) (hg : hget h s q = some (ob ci fs)) (hci : (cls[ci]?).map (fun r => r.1) = some M'.1.cls) (hst : stk = as.reverse ++ vr s q :: st) (hcat : catS st ≤ 8) (hd1 : M'.2.2.2.2.1 + 1 ≤ M.2.2.2.2.1) (hc : cs + M'.2.2.2.2.2.1 ≤ M.2.2.2.2.2.1) (hs : sl + M'.2.2.2.2.2.2 ≤ M.2.2.2.2.2.2)
    (kt : ∀ h', Qt' h' → Qt h') (k : ∀ r h', Qr' r h' → AW G M Qr Qt (cs + M'.2.2.2.2.2.1) (sl + M'.2.2.2.2.2.2) (pc + 3) ls (r.toList ++ st) h') : AW G M Qr Qt cs sl pc ls stk h := by
  intro p e s0 m args below meth c H locs lsR C R S L
  subst hst
  obtain ⟨hx, hb, hr, hml, hown, hts, hlk, hK, hZ, hex, hnm, hbs, hl, hN⟩ := id C
  simp only [vOK, Bool.and_eq_true, decide_eq_true_eq] at hw
  obtain ⟨⟨⟨w0, w1⟩, w2⟩, w3⟩ := hw
  have hrec : ∃ cellB : Cell, H[adr G.2.2.2 (s, q)]? = some cellB ∧ cellB.vm.isStatics = false ∧ s0.vm.findClass M'.1.cls = some cellB.cls := by
    cases hcc : cls[ci]? with
    | none => rw [hcc] at hci; cases hci
    | some r =>
      rw [hcc] at hci
      have e9 : r.1 = M'.1.cls := Option.some.inj hci
      rw [← e9]
      exact va_recv hK (rep_ob R hg) (ci := ci) (q0 := 0) hcc rfl
  refine aw_after (st := st) (vx_runV (As := as.map (conc G.2.2.2)) (rest := st.map (conc G.2.2.2)) (b := adr G.2.2.2 (s, q)) ⟨hx, hb, hml, hown, hts⟩ (hM hl) ⟨callB_mk hts w0 w1 hd1, hts _ (tb_mem w2 rfl), hts _ (tb_mem w3 rfl)⟩ ⟨pc_blind, hrec, pre_mk (as := vr s q :: as) C R S⟩ rfl (by simp) L.1 ?_ ?_ hd ⟨hc, hs⟩) C S L hc hs kt k
  · simp [List.map_append, List.map_reverse, conc, va_rf]
  · exact lv_room (by rw [catS_eq]; exact hcat)
def sOK (own : String) (idx : Nat) (M : MI) (n : Nat) : Bool := bOK M n && decide (Cond.methodLink own idx M.1 ∈ lw_tbl) && decide (Cond.static M.1 ∈ lw_tbl)
theorem aw_callS {as : List AV} {stk : List AV} (hM : AMet G M' as h Qr' Qt') (hd : decode M.2.1 pc = .ok (.invokestatic idx, 3)) (hw : sOK M.1.cls idx M' as.length = true) (hst : stk = as.reverse ++ st) (hcat : catS st ≤ 8) (hd1 : M'.2.2.2.2.1 + 1 ≤ M.2.2.2.2.1) (hc : cs + M'.2.2.2.2.2.1 ≤ M.2.2.2.2.2.1) (hs : sl + M'.2.2.2.2.2.2 ≤ M.2.2.2.2.2.2)
    (kt : ∀ h', Qt' h' → Qt h') (k : ∀ r h', Qr' r h' → AW G M Qr Qt (cs + M'.2.2.2.2.2.1) (sl + M'.2.2.2.2.2.2) (pc + 3) ls (r.toList ++ st) h') : AW G M Qr Qt cs sl pc ls stk h := by
  intro p e s0 m args below meth c H locs lsR C R S L
  subst hst
  obtain ⟨hx, hb, hr, hml, hown, hts, hlk, hK, hZ, hex, hnm, hbs, hl, hN⟩ := id C
  simp only [sOK, Bool.and_eq_true, decide_eq_true_eq] at hw
  obtain ⟨⟨w0, w1⟩, w2⟩ := hw
  refine aw_after (st := st) (vx_runS (As := as.map (conc G.2.2.2)) (rest := st.map (conc G.2.2.2)) ⟨hx, hb, hml, hown, hts⟩ (hM hl) ⟨callB_mk hts w0 w1 hd1, hts _ (tb_mem w2 rfl)⟩ ⟨pc_blind, pre_mk (as := as) C R S⟩ rfl (by simp) L.1 ?_ ?_ hd ⟨hc, hs⟩) C S L hc hs kt k
  · simp [List.map_append, List.map_reverse]
  · exact lv_room (by rw [catS_eq]; exact hcat)
def iOK (own : String) (idx : Nat) (M : MI) (n : Nat) : Bool := bOK M n && decide (Cond.methodLink own idx M.1 ∈ lw_tbl) && decide (Cond.instanceMethod M.1 ∈ lw_tbl) && decide (M.1.name = "<init>") && decide (M.2.2.2.1 = none)
theorem aw_callI {as : List AV} {stk : List AV} (hM : AMet G M' (vr s q :: as) h Qr' (fun _ => False)) (hd : decode M.2.1 pc = .ok (.invokespecial idx, 3)) (hw : iOK M.1.cls idx M' as.length = true) (hst : stk = as.reverse ++ vr s q :: st) (hcat : catS st ≤ 8) (hd1 : M'.2.2.2.2.1 + 1 ≤ M.2.2.2.2.1) (hc : cs + M'.2.2.2.2.2.1 ≤ M.2.2.2.2.2.1) (hs : sl + M'.2.2.2.2.2.2 ≤ M.2.2.2.2.2.2)
    (k : ∀ r h', Qr' r h' → AW G M Qr Qt (cs + M'.2.2.2.2.2.1) (sl + M'.2.2.2.2.2.2) (pc + 3) ls (r.toList ++ st) h') : AW G M Qr Qt cs sl pc ls stk h := by
  intro p e s0 m args below meth c H locs lsR C R S L
  subst hst
  obtain ⟨hx, hb, hr, hml, hown, hts, hlk, hK, hZ, hex, hnm, hbs, hl, hN⟩ := id C
  simp only [iOK, Bool.and_eq_true, decide_eq_true_eq] at hw
  obtain ⟨⟨⟨⟨w0, w1⟩, w2⟩, w3⟩, w4⟩ := hw
  have cb := callB_mk (M := M) hts w0 w1 hd1
  rw [w4] at cb
  refine aw_after (st := st) (Qt' := fun _ => False) (run_vx (va_runI (As := as.map (conc G.2.2.2)) (rest := st.map (conc G.2.2.2)) (b := adr G.2.2.2 (s, q)) ⟨hx, hb, hml, hown, hts⟩ (am_met hl hM) ⟨cb, w3, hts _ (tb_mem w2 rfl)⟩ ⟨pc_blind, pre_mk (as := vr s q :: as) C R S⟩ rfl (by simp) L.1 ?_ ?_ hd ⟨hc, hs⟩)) C S L hc hs (fun _ z => z.elim) k
  · simp [List.map_append, List.map_reverse, conc, va_rf]
  · exact lv_room (by rw [catS_eq]; exact hcat)
end
