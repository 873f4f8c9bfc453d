section
variable {G : GT} {M M' : MI} {Rm : Room} {Zc : ZT} {Qp : QT} {X : List (Nat × Value)} {Qr Qr' : Option AV → HT → Prop} {Qt' : HT → Prop} {cs sl pc : Nat} {ls : LSt} {st : List AV} {h h' : HT} {a b o : Int} {tgt s q n idx : Nat} {f : Nat → Int} {hh : List (Nat × Nat × Nat × Nat)}
theorem drop_in {base ka : Nat} {v : Value} (hX : okX X) (hka : ka ≠ 0) (hls : ls[ka]? = some none) (hls2 : ∀ z, ls[ka - 1]? ≠ some (some (vl z))) : ∀ q ∈ X ++ lvP base 0 ls, q ∈ ((ka, v) :: (X ++ lvP base 0 ls).filter (fun q => !(q.1 == ka) && !(q.1 + 1 == ka && q.2.category == 2)) : List (Nat × Value)) := by
  intro q hq
  refine List.mem_cons_of_mem _ (List.mem_filter.mpr ⟨hq, ?_⟩)
  rcases List.mem_append.mp hq with z | z
  · have h := hX q z
    have h1 : ¬ q.1 = ka := by omega
    simp [h1, h.2]
  · obtain ⟨k, w, h1, h2⟩ := lvP_of ls 0 q z
    rw [Nat.zero_add] at h2
    subst h2
    have e1 : ¬ k = ka := fun e => by rw [e, hls] at h1; cases h1
    have e2 : ¬ (k + 1 = ka ∧ (conc base w).category = 2) := fun ⟨e, e3⟩ => by
      obtain ⟨z9, rfl⟩ := conc_cat2 e3
      exact hls2 z9 (by rw [← e, Nat.add_sub_cancel]; exact h1)
    simp [e1]
    rcases Classical.em (k + 1 = ka) with e | e
    · exact Or.inr (fun e3 => e2 ⟨e, e3⟩)
    · exact Or.inl e
/-- a call whose exception is caught here -/
theorem lx_callC {as : List AV} {ci : Nat} {fs : List AV} {stk : List AV} {x : ExceptionTableEntry} {ka ln : Nat} {ia : Instr} (hM : AMet G M' (vr s q :: as) h Qr' Qt') (hd : decode M.2.1 pc = .ok (.invokevirtual idx, 3)) (hw : vOK M.1.cls idx M' as.length = true) (hg : hget h s q = some (ob ci fs)) (hci : (cls[ci]?).map (fun r => r.1) = some M'.1.cls) (hst : stk = as.reverse ++ vr s q :: st) (hcat : catS st ≤ 8) (hd1 : M'.2.2.2.2.1 + 1 ≤ Rm.frames) (hd2 : 60 * M'.2.2.2.2.1 + 60 ≤ Rm.locals) (hc : cs + M'.2.2.2.2.2.1 ≤ Rm.cells) (hs : sl + M'.2.2.2.2.2.2 ≤ Rm.slots)
    (hZ : ∀ s args c, Zc s args c → c.exceptionTable.toList = [x]) (hcov : covers x pc = true) (h0 : x.catchType ≠ 0) (hlk : Cond.classLink M.1.cls x.catchType nse ∈ lw_tbl) (hca : Cond.castable nse nse ∈ lw_tbl)
    (hda : decode M.2.1 x.handlerPc = .ok (ia, ln)) (hia : (ia = .astore ka ∧ ln = 2) ∨ (ln = 1 ∧ ∃ k4 : Fin 4, ia = .astore_n k4 ∧ (k4 : Nat) = ka)) (hX : okX X) (hka : ka ≠ 0) (hka2 : ka < M.2.2.1) (hls : ls[ka]? = some none) (hls2 : ∀ z, ls[ka - 1]? ≠ some (some (vl z)))
    (kx : ∀ h', Qt' h' → LW G M Rm Zc Qp X (cs + M'.2.2.2.2.2.1) (sl + M'.2.2.2.2.2.2) (x.handlerPc + ln) ls [] h')
    (k : ∀ r h', Qr' r h' → LW G M Rm Zc Qp X (cs + M'.2.2.2.2.2.1) (sl + M'.2.2.2.2.2.2) (pc + 3) ls (r.toList ++ st) h') : LW G M Rm Zc Qp X cs sl pc ls stk h := by
  intro p e s0 m args below meth c H locs lsR C Z9 R S L
  subst hst
  obtain ⟨hx, hb, hr, hml, hown, hts, hlk9, hK, hZ9, hex, hnm, hbs, hl, hN⟩ := id C
  simp only [vOK, Bool.and_eq_true, decide_eq_true_eq] at hw
  obtain ⟨⟨⟨w0, w1⟩, w2⟩, w3⟩ := hw
  have hrec : ∃ cellB : Cell, H[adr G.2.2.2 (s, q)]? = some cellB ∧ cellB.vm.isStatics = false ∧ s0.vm.findClass M'.1.cls = some cellB.cls := by
    cases hcc : cls[ci]? with
    | none => rw [hcc] at hci; cases hci
    | some r =>
      rw [hcc] at hci
      have e9 : r.1 = M'.1.cls := Option.some.inj hci
      rw [← e9]
      exact va_recv hK (rep_ob R hg) (ci := ci) (q0 := 0) hcc rfl
  have hrun := vx_runV (p := p) (e := e) (R := Rm) (below := below) (meth := meth) (H := H) (locs := locs) (cells := cs) (slots := sl) (g := F0 m pc lsR ((as.reverse ++ vr s q :: st).map (conc G.2.2.2))) (As := as.map (conc G.2.2.2)) (rest := st.map (conc G.2.2.2)) (b := adr G.2.2.2 (s, q)) ⟨hx, hb, hml, hown, hts⟩ (hM hl) ⟨callB_mkR hts w0 w1 hd1 hd2, hts _ (tb_mem w2 rfl), hts _ (tb_mem w3 rfl)⟩ ⟨pc_blind, hrec, pre_mY (as := vr s q :: as) C R S⟩ rfl (by simp) L.1 (by simp [List.map_append, List.map_reverse, conc, va_rf]) (lv_room (by rw [catS_eq]; exact hcat)) hd ⟨hc, hs⟩
  intro T hT X9
  rcases hrun T hT X9 with ⟨v, st₀, t, T', Lc, h0', X', hL, e1, e2, ⟨r, h', hq, hv, hR, hF⟩, st9⟩ | ⟨q9, st₀, t, T', Lc, E, ce, h0', X', hL, e1, e2, ⟨hE, h', hq, hR, hF⟩, hce, hcv, hcl, st9⟩
  · obtain ⟨-, -, hS⟩ := vx_keep (A1 := gA G) h0' e1 S (fun q _ z => z) (fun q z => z) hL hF
    cases hv
    obtain ⟨t2, a1, b1⟩ := k r h' hq p e s0 m args below meth c T'.heap _ lsR C Z9 (by rw [e1]; exact hR) hS L T' rfl X'
    refine ⟨t2, st9 t2 ?_, b1⟩
    have e9 : (r.toList ++ st).map (conc G.2.2.2) = (r.map (conc G.2.2.2)).toList ++ st.map (conc G.2.2.2) := by cases r <;> simp
    rw [e9] at a1
    exact a1
  · obtain ⟨-, -, hS⟩ := vx_keep (A1 := gA G) h0' e1 S (fun q _ z => z) (fun q z => z) hL hF
    subst hE
    have kk : W p G.1 e Rm s0 m args below meth c T'.heap (locs ++ Lc) (cs + M'.2.2.2.2.2.1) (sl + M'.2.2.2.2.2.2) (Qp below args s0) (F0 m x.handlerPc lsR [.ref q9]) := by
      have k9 := fun ls' L' => kx h' hq p e s0 m args below meth c T'.heap (locs ++ Lc) ls' C Z9 (by rw [e1]; exact hR) hS L'
      rcases hia with ⟨rfl, rfl⟩ | ⟨rfl, k4, rfl, hk4⟩
      · exact x_astore (r := some q9) hx hb hda L hka2 (fun ls' L' => k9 ls' (lv_less L' (drop_in hX hka hls hls2)))
      · subst hk4
        exact x_astore_n (r := some q9) hx hb hda L hka2 (fun ls' L' => k9 ls' (lv_less L' (drop_in hX hka hls hls2)))
    obtain ⟨t2, a1, b1⟩ := hc_catch (own := M.1.cls) (name := nse) (E := nse) (ce := ce) (q := q9) (rest := st.map (conc G.2.2.2)) (pc := pc) (ls := lsR) hown x [] (by rw [hZ _ _ _ Z9]) hcov h0 (hts _ (tb_mem hlk rfl)) (hts _ (tb_mem hca rfl)) (by rw [e1]; exact hce) hcv hcl kk T' rfl X'
    exact ⟨t2, st9.trans a1, b1⟩
/-- a helper of the law: it returns -/
def wsH (M : MI) (hh : List (Nat × Nat × Nat × Nat)) : List Cond := .codeWith M.1 M.2.1 M.2.2.1 M.2.2.2.1 hh :: lw_tbl.filter goodWord
def QH (G : GT) (M : MI) (Qr : Option AV → HT → Prop) : QT := fun below args s => vx_MQ below (QcM G Qr) (XcM G (fun _ => False)) args s M.2.2.2.2.2.1 M.2.2.2.2.2.2 (gA G)
abbrev ZH (hh : List (Nat × Nat × Nat × Nat)) : ZT := fun _ _ c => c.exceptionTable.toList = tableOf hh
def AHet (G : GT) (M : MI) (hh : List (Nat × Nat × Nat × Nat)) (as : List AV) (h : HT) (Qr : Option AV → HT → Prop) : Prop :=
  G.1.stackTraces = false → Met G.1 M.1 (wsH M hh) (rmM M) (va_Pc (as.map (conc G.2.2.2)) (RepU G h)) (QcM G Qr) M.2.2.2.2.2.1 M.2.2.2.2.2.2 (gA G)
theorem ah_entry {as : List AV} (hy : plainName M.1.cls = true) (hn : (entL as).length ≤ M.2.2.1) (k : LW G M (rmM M) (ZH hh) (QH G M Qr) [] 0 0 0 (entN as M.2.2.1) [] h) : AHet G M hh as h Qr := by
  intro hl
  have hM : vx_Met G.1 M.1 (wsH M hh) (rmM M) (va_Pc (as.map (conc G.2.2.2)) (RepU G h)) (QcM G Qr) (XcM G (fun _ => False)) M.2.2.2.2.2.1 M.2.2.2.2.2.2 (gA G) := by
    refine vx_ofWH (cc := M.2.1) (maxL := M.2.2.1) (ret := M.2.2.2.1) (hh := hh) hy rfl ?_
    intro p e s m args below meth c s₁ B hml hv
    obtain ⟨rfl, hR, hK, hZ, hN⟩ := hv
    have hts0 := atoms_spec (ws := wsH M hh) B.pre
    have C : Cy G M p s m (as.map (conc G.2.2.2)).toArray meth c := ⟨B.exec, B.bytes, B.returns, hml, findClass_of_methodNamed B.named, fun w hw => by
      obtain ⟨h1, h2⟩ := List.mem_filter.mp hw
      unfold okW at h2
      rw [Bool.or_eq_true] at h2
      rcases h2 with h2 | h2
      · exact hts0 w (List.mem_cons_of_mem _ (List.mem_filter.mpr ⟨h1, h2⟩))
      · exact nB_args h2 (hN w h1 h2), B.notSynchronized, hK, hZ, trivial, trivial, by rw [hR.1]; omega, hl, hN⟩
    have L := lv_entry (as.map (conc G.2.2.2)) (n := M.2.2.1) (by rw [ent_len]; exact hn)
    rw [lg_entry_eq]
    refine k p e s m _ below meth c s.heap [] _ C (vx_table (x := M.1) B (hts0 _ List.mem_cons_self)) hR va_S.rf ?_
    rw [List.nil_append, entN, lvP_app, ent_args]
    exact L
  intro p e a1 a2 a3 s m args below f1 f2 f3 f4
  obtain ⟨n, o, g1, g2, g3, g4⟩ := hM p e a1 a2 a3 s m args below f1 f2 f3 f4
  refine ⟨n, o, g1, g2, g3, ?_⟩
  rcases g4 with g4 | ⟨q, x1, E, ce, L, ⟨y1, h', y2, y3⟩, x2⟩
  · exact g4
  · exact y2.elim
theorem lx_iretH (hd : decode M.2.1 pc = .ok (.ireturn, 1)) (hr : M.2.2.2.1 = some .int) (hc : cs ≤ M.2.2.2.2.2.1) (hs : sl ≤ M.2.2.2.2.2.2) (hq : Qr (some (vi a)) h) : LW G M Rm Zc (QH G M Qr) X cs sl pc ls [vi a] h := by
  intro p e s0 m args below meth c H locs lsR C Z9 R S L
  refine W.widen hc hs (vx_ret ?_)
  exact W.iret (v := Int32.ofInt a) C.1 C.2.1 (C.2.2.1.trans hr) (fun t ht hW => ⟨some (vi a), h, hq, rfl, by rw [ht]; exact R, S.F ht⟩) S.2.2 hd C.2.2.2.2.2.2.1
def hOK (own : String) (idx : Nat) (M : MI) (hh : List (Nat × Nat × Nat × Nat)) (n : Nat) : Bool := decide (Cond.codeWith M.1 M.2.1 M.2.2.1 M.2.2.2.1 hh ∈ lw_tbl) && decide (Cond.initialized M.1.cls ∈ lw_tbl) && decide (M.1.cls ≠ "java/lang/invoke/MethodHandle") && decide (M.1.cls ≠ "java/lang/invoke/VarHandle") && decide ((parseMethodDescriptor M.1.desc).map (fun d => d.parameters.length) = some n) && decide (M.2.2.1 ≤ 41) && decide (Cond.methodLink own idx M.1 ∈ lw_tbl) && decide (Cond.static M.1 ∈ lw_tbl)
theorem lx_callH {as : List AV} {stk : List AV} (hM : AHet G M' hh as h Qr') (hd : decode M.2.1 pc = .ok (.invokestatic idx, 3)) (hw : hOK M.1.cls idx M' hh as.length = true) (hst : stk = as.reverse ++ st) (hcat : catS st ≤ 8) (hd1 : M'.2.2.2.2.1 + 1 ≤ Rm.frames) (hd2 : 60 * M'.2.2.2.2.1 + 60 ≤ Rm.locals) (hc : cs + M'.2.2.2.2.2.1 ≤ Rm.cells) (hs : sl + M'.2.2.2.2.2.2 ≤ Rm.slots)
    (k : ∀ r h', Qr' r h' → LW G M Rm Zc Qp X (cs + M'.2.2.2.2.2.1) (sl + M'.2.2.2.2.2.2) (pc + 3) ls (r.toList ++ st) h') : LW G M Rm Zc Qp X cs sl pc ls stk h := by
  intro p e s0 m args below meth c H locs lsR C Z9 R S L
  subst hst
  obtain ⟨hx, hb, hr, hml, hown, hts, hlk, hK, hZ, hex, hnm, hbs, hl, hN⟩ := id C
  simp only [hOK, Bool.and_eq_true, decide_eq_true_eq] at hw
  obtain ⟨⟨⟨⟨⟨⟨⟨b1, b2⟩, b3⟩, b4⟩, b5⟩, b6⟩, w1⟩, w2⟩ := hw
  have hG : GoodIn tb (va_wsS M.1.cls idx M'.1 (wsH M' hh)) := by
    intro w hw
    unfold va_wsS wsH at hw
    simp only [List.cons_append, List.nil_append, List.mem_cons] at hw
    rcases hw with rfl | rfl | rfl | rfl | hw
    · exact ⟨tb_mem w1 rfl, good_of_word rfl⟩
    · exact ⟨tb_mem w2 rfl, good_of_word rfl⟩
    · exact ⟨tb_mem b2 rfl, good_of_word rfl⟩
    · exact ⟨tb_mem b1 rfl, good_of_word rfl⟩
    · obtain ⟨h1, h2⟩ := List.mem_filter.mp hw
      exact ⟨tb_mem h1 (by unfold okW; rw [h2]; rfl), good_of_word h2⟩
  refine lx_after (st := st) (run_vx (vx_runSW (As := as.map (conc G.2.2.2)) (rest := st.map (conc G.2.2.2)) ⟨hx, hb, hml, hown, hts⟩ (hM hl) (vx_cwSW (ws' := lw_tbl.filter goodWord) as.length hts hG rfl rfl rfl ⟨b3, b4, b5⟩ ⟨hd1, by show 8 + (M'.2.2.1 + 11) + 60 * M'.2.2.2.2.1 ≤ Rm.locals; omega⟩) ⟨pc_blind, pre_mY (as := as) C R S⟩ rfl (by simp) L.1 ?_ ?_ hd ⟨hc, hs⟩)) C Z9 S L k
  · simp [List.map_append, List.map_reverse]
  · exact lv_room (by rw [catS_eq]; exact hcat)
/-- the law's script -/
abbrev ZL (G : GT) (b0 L0 : Nat) (xs : Nat → Int32) : ZT := fun s _ _ => va_X b0 L0 xs s s.heap ∧ b0 < G.2.2.2 ∧ b0 < s.heap.size
abbrev XL (b0 : Nat) : List (Nat × Value) := [(0, .ref b0)]
theorem okXL (b0 : Nat) : okX (XL b0) := fun q hq => by
  rw [List.mem_singleton.mp hq]; exact ⟨rfl, by simp [Value.category]⟩
theorem lx_sld {b0 L0 j : Nat} {xs : Nat → Int32} {i k9 : Int} (d0 : decode M.2.1 pc = .ok (.aload_n 0, 1)) (d1 : decode M.2.1 (pc + 1) = .ok (.iload 4, 2)) (d2 : decode M.2.1 (pc + 3) = .ok (.iconst k9, 1)) (d3 : decode M.2.1 (pc + 4) = .ok (.iadd, 1)) (d4 : decode M.2.1 (pc + 5) = .ok (.iaload, 1)) (hl : ls[4]? = some (some (vi i))) (hj : i + k9 = (j : Int)) (hjL : j < L0) (hL : L0 ≤ 2147483647)
    (k : LW G M Rm (ZL G b0 L0 xs) Qp (XL b0) cs sl (pc + 6) ls (vi (xs j).toInt :: st) h) : LW G M Rm (ZL G b0 L0 xs) Qp (XL b0) cs sl pc ls st h := by
  intro p e s0 m args below meth c H locs lsR C Z9 R S L
  have k0 := k p e s0 m args below meth c H locs lsR C Z9 R S L
  have h0 : lsR[0]? = some (.val (.ref b0)) := L.2.2 (0, .ref b0) (List.mem_append_left _ List.mem_cons_self)
  refine lv_aload_n C.1 C.2.1 d0 rfl h0 ?_
  refine lv_iload C.1 C.2.1 d1 (lv_get (lvX L) hl) ?_
  refine lv_iconst C.1 C.2.1 d2 rfl ?_
  refine lv_iadd C.1 C.2.1 d3 ?_
  have e1 : Int32.ofInt i + Int32.ofInt k9 = Int32.ofInt (j : Int) := by rw [← i_add, hj]
  rw [e1]
  have hcl : (Int32.ofInt (j : Int)).toNatClampNeg = j := by rw [i_clamp (by constructor <;> omega) (by omega)]; rfl
  refine va_sld C.1 C.2.1 Z9.1 Z9.2.2 (A := gA G) (fun z => by have := Z9.2.1; simp only [gA] at z; omega) S (i_vp (by constructor <;> omega) (by omega) (by omega)) d4 ?_
  rw [hcl]
  have e2 : Value.int (xs j) = conc G.2.2.2 (vi (xs j).toInt) := by simp only [conc, i_of]
  rw [e2]
  exact k0
theorem lx_sld0 {b0 L0 j : Nat} {xs : Nat → Int32} (d0 : decode M.2.1 pc = .ok (.aload_n 0, 1)) (d1 : decode M.2.1 (pc + 1) = .ok (.iload 4, 2)) (d4 : decode M.2.1 (pc + 3) = .ok (.iaload, 1)) (hl : ls[4]? = some (some (vi (j : Int)))) (hjL : j < L0) (hL : L0 ≤ 2147483647)
    (k : LW G M Rm (ZL G b0 L0 xs) Qp (XL b0) cs sl (pc + 4) ls (vi (xs j).toInt :: st) h) : LW G M Rm (ZL G b0 L0 xs) Qp (XL b0) cs sl pc ls st h := by
  intro p e s0 m args below meth c H locs lsR C Z9 R S L
  have k0 := k p e s0 m args below meth c H locs lsR C Z9 R S L
  have h0 : lsR[0]? = some (.val (.ref b0)) := L.2.2 (0, .ref b0) (List.mem_append_left _ List.mem_cons_self)
  refine lv_aload_n C.1 C.2.1 d0 rfl h0 ?_
  refine lv_iload C.1 C.2.1 d1 (lv_get (lvX L) hl) ?_
  have hcl : (Int32.ofInt (j : Int)).toNatClampNeg = j := by rw [i_clamp (by constructor <;> omega) (by omega)]; rfl
  refine va_sld C.1 C.2.1 Z9.1 Z9.2.2 (A := gA G) (fun z => by have := Z9.2.1; simp only [gA] at z; omega) S (i_vp (by constructor <;> omega) (by omega) (by omega)) d4 ?_
  rw [hcl]
  have e2 : Value.int (xs j) = conc G.2.2.2 (vi (xs j).toInt) := by simp only [conc, i_of]
  rw [e2]
  exact k0
theorem lx_slen {b0 L0 : Nat} {xs : Nat → Int32} (d0 : decode M.2.1 pc = .ok (.aload_n 0, 1)) (d1 : decode M.2.1 (pc + 1) = .ok (.arraylength, 1))
    (k : LW G M Rm (ZL G b0 L0 xs) Qp (XL b0) cs sl (pc + 2) ls (vi (L0 : Int) :: st) h) : LW G M Rm (ZL G b0 L0 xs) Qp (XL b0) cs sl pc ls st h := by
  intro p e s0 m args below meth c H locs lsR C Z9 R S L
  have k0 := k p e s0 m args below meth c H locs lsR C Z9 R S L
  have h0 : lsR[0]? = some (.val (.ref b0)) := L.2.2 (0, .ref b0) (List.mem_append_left _ List.mem_cons_self)
  refine lv_aload_n C.1 C.2.1 d0 rfl h0 ?_
  refine va_slen C.1 C.2.1 Z9.1 Z9.2.2 (A := gA G) (fun z => by have := Z9.2.1; simp only [gA] at z; omega) S d1 ?_
  have e2 : Value.int (Int32.ofNat L0) = conc G.2.2.2 (vi (L0 : Int)) := by simp only [conc]; rfl
  rw [e2]
  exact k0
end
abbrev M_Z_value : MI := (⟨"ChanceBenchLaw", "value", "(LChanceBench;II[J)I"⟩, method_3_code, 5, (some .int), 8, 2, 12)
abbrev M_Z_chance : MI := (⟨"ChanceBenchLaw", "chance", "(LChanceBench;III[J)I"⟩, method_4_code, 6, (some .int), 8, 2, 12)
abbrev M_Z_below : MI := (⟨"ChanceBenchLaw", "below", "(LChanceBench;III[J)I"⟩, method_5_code, 6, (some .int), 8, 2, 12)
abbrev M_Z_mean : MI := (⟨"ChanceBenchLaw", "mean", "(LChanceBench;II[J)I"⟩, method_6_code, 5, (some .int), 8, 2, 12)
abbrev M_Z_variance : MI := (⟨"ChanceBenchLaw", "variance", "(LChanceBench;II[J)I"⟩, method_7_code, 5, (some .int), 8, 2, 12)
abbrev M_Z_apart : MI := (⟨"ChanceBenchLaw", "apart", "(LChanceBench;III[J)I"⟩, method_8_code, 6, (some .int), 8, 3, 18)
abbrev M_Z_far : MI := (⟨"ChanceBenchLaw", "far", "(LChanceBench;III[J)I"⟩, method_9_code, 6, (some .int), 8, 3, 18)
abbrev M_Z_pair : MI := (⟨"ChanceBenchLaw", "pair", "(LChanceBench;III[J)I"⟩, method_10_code, 6, (some .int), 8, 1, 6)
abbrev M_Z_open : MI := (⟨"ChanceBenchLaw", "open", "(LChanceBench;II[J)I"⟩, method_11_code, 5, (some .int), 8, 2, 12)
abbrev M_Z_leaf : MI := (⟨"ChanceBenchLaw", "leaf", "(LChanceBench;III[J)I"⟩, method_12_code, 6, (some .int), 8, 2, 12)
abbrev M_Z_lots : MI := (⟨"ChanceBenchLaw", "lots", "(LChanceBench;III[J)I"⟩, method_13_code, 6, (some .int), 8, 3, 18)
abbrev M_Z_draw : MI := (⟨"ChanceBenchLaw", "draw", "(LChanceBench;I[J)I"⟩, method_14_code, 4, (some .int), 8, 1, 6)
abbrev M_Z_face : MI := (⟨"ChanceBenchLaw", "face", "(LChanceBench;III[J)I"⟩, method_15_code, 6, (some .int), 7, 1, 6)
abbrev M_Z_beats : MI := (⟨"ChanceBenchLaw", "beats", "(LChanceBench;III[J)I"⟩, method_16_code, 6, (some .int), 8, 3, 18)
abbrev M_Z_law : MI := (⟨"ChanceBenchLaw", "law", "([I)Z"⟩, code, 8, some .boolean, 0, 0, 0)
