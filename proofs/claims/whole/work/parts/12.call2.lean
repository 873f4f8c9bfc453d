section
variable {G : GT} {M M' : MI} {Qr Qr' : Option AV → HT → Prop} {Qt Qt' : HT → Prop} {cs sl pc : Nat} {ls : LSt} {st : List AV} {h h' : HT} {a b o : Int} {tgt s q n idx : Nat}
theorem aw_obj {r : Option (Nat × Nat)} (hd : decode M.2.1 pc = .ok (.invokespecial idx, 3)) (hr : r ≠ none) (hw : Cond.methodLink M.1.cls idx Lib.objectInit ∈ lw_tbl) (hw2 : Cond.instanceMethod Lib.objectInit ∈ lw_tbl) (hw3 : Cond.code Lib.objectInit ⟨#[0xb1]⟩ 1 none ∈ lw_tbl) (hd1 : 1 ≤ M.2.2.2.2.1) (hcat : catS st ≤ 8) (k : AW G M Qr Qt cs sl (pc + 3) ls st h) : AW G M Qr Qt cs sl pc ls (vo r :: st) h := by
  intro p e s0 m args below meth c H locs lsR C R S L
  obtain ⟨hx, hb, hr9, hml, hown, hts, hlk, -⟩ := id C
  cases r with
  | none => exact absurd rfl hr
  | some x =>
    refine W.objInit hx hb hown (hts _ (tb_mem hw rfl)) (hts _ (tb_mem hw2 rfl)) (hts _ (tb_mem hw3 rfl)) rfl (by rw [hml]; exact L.1) rfl hd hd1 ?_ (k p e s0 m args below meth c H locs lsR C R S L)
    have := lv_room (m := m) (pc := pc) (ls := lsR) (rest := st.map (conc G.2.2.2)) (st := st.map (conc G.2.2.2)) (by rw [catS_eq]; exact hcat)
    show _ + 12 ≤ 60 * M.2.2.2.2.1
    exact Nat.le_trans (Nat.add_le_add_right this 12) (by omega)
theorem callN_mk {s : State} {args : Array Value} {own host : String} (hts : ∀ w ∈ tb, w.before args s = true) (hN : nB s) (hb : bOK M' n = true) (hl : Cond.methodLinkNest own idx M'.1 host ∈ lw_tbl) (hd1 : M'.2.2.2.2.1 + 1 ≤ M.2.2.2.2.1) :
    va_CN (rmM M) s args own idx M'.1 host M'.2.1 M'.2.2.1 M'.2.2.2.1 (wsM M') (rmM M') M'.2.2.2.2.2.1 M'.2.2.2.2.2.2 n := by
  simp only [bOK, Bool.and_eq_true, decide_eq_true_eq] at hb
  obtain ⟨⟨⟨⟨⟨b1, b2⟩, b3⟩, b4⟩, b5⟩, b6⟩ := hb
  exact va_cnB (ws' := lw_tbl.filter goodWord) n hts (bOK_good b1) rfl rfl rfl (hN _ hl rfl) (hts _ (tb_mem b2 rfl)) ⟨b3, b4, b5⟩ ⟨hd1, by show 8 + (M'.2.2.1 + 11) + 60 * M'.2.2.2.2.1 ≤ 60 * M.2.2.2.2.1; omega⟩
def snOK (own : String) (idx : Nat) (M : MI) (n : Nat) : Bool := bOK M n && decide (Cond.methodLinkNest own idx M.1 "ChanceBench" ∈ lw_tbl) && decide (Cond.static M.1 ∈ lw_tbl)
theorem aw_callSN {as : List AV} {stk : List AV} (hM : AMet G M' as h Qr' (fun _ => False)) (hd : decode M.2.1 pc = .ok (.invokestatic idx, 3)) (hw : snOK M.1.cls idx M' as.length = true) (hst : stk = as.reverse ++ st) (hcat : catS st ≤ 8) (hd1 : M'.2.2.2.2.1 + 1 ≤ M.2.2.2.2.1) (hc : cs + M'.2.2.2.2.2.1 ≤ M.2.2.2.2.2.1) (hs : sl + M'.2.2.2.2.2.2 ≤ M.2.2.2.2.2.2)
    (k : ∀ r h', Qr' r h' → AW G M Qr Qt (cs + M'.2.2.2.2.2.1) (sl + M'.2.2.2.2.2.2) (pc + 3) ls (r.toList ++ st) h') : AW G M Qr Qt cs sl pc ls stk h := by
  intro p e s0 m args below meth c H locs lsR C R S L
  subst hst
  obtain ⟨hx, hb, hr, hml, hown, hts, hlk, hK, hZ, hex, hnm, hbs, hl, hN⟩ := id C
  simp only [snOK, Bool.and_eq_true, decide_eq_true_eq] at hw
  obtain ⟨⟨w0, w1⟩, w2⟩ := hw
  refine aw_after (st := st) (Qt' := fun _ => False) (run_vx (va_runSN (As := as.map (conc G.2.2.2)) (rest := st.map (conc G.2.2.2)) ⟨hx, hb, hml, hown, hts⟩ (am_met hl hM) ⟨callN_mk hts hN w0 w1 hd1, hts _ (tb_mem w2 rfl), trivial⟩ ⟨pc_blind, pre_mk (as := as) C R S⟩ rfl (by simp) L.1 ?_ ?_ hd ⟨hc, hs⟩)) C S L hc hs (fun _ z => z.elim) k
  · simp [List.map_append, List.map_reverse]
  · exact lv_room (by rw [catS_eq]; exact hcat)
def inOK (own : String) (idx : Nat) (M : MI) (n : Nat) : Bool := bOK M n && decide (Cond.methodLinkNest own idx M.1 "ChanceBench" ∈ lw_tbl) && decide (Cond.instanceMethod M.1 ∈ lw_tbl) && decide (M.1.name = "<init>") && decide (M.2.2.2.1 = none)
theorem aw_callIN {as : List AV} {stk : List AV} (hM : AMet G M' (vr s q :: as) h Qr' (fun _ => False)) (hd : decode M.2.1 pc = .ok (.invokespecial idx, 3)) (hw : inOK M.1.cls idx M' as.length = true) (hst : stk = as.reverse ++ vr s q :: st) (hcat : catS st ≤ 8) (hd1 : M'.2.2.2.2.1 + 1 ≤ M.2.2.2.2.1) (hc : cs + M'.2.2.2.2.2.1 ≤ M.2.2.2.2.2.1) (hs : sl + M'.2.2.2.2.2.2 ≤ M.2.2.2.2.2.2)
    (k : ∀ r h', Qr' r h' → AW G M Qr Qt (cs + M'.2.2.2.2.2.1) (sl + M'.2.2.2.2.2.2) (pc + 3) ls (r.toList ++ st) h') : AW G M Qr Qt cs sl pc ls stk h := by
  intro p e s0 m args below meth c H locs lsR C R S L
  subst hst
  obtain ⟨hx, hb, hr, hml, hown, hts, hlk, hK, hZ, hex, hnm, hbs, hl, hN⟩ := id C
  simp only [inOK, Bool.and_eq_true, decide_eq_true_eq] at hw
  obtain ⟨⟨⟨⟨w0, w1⟩, w2⟩, w3⟩, w4⟩ := hw
  have cb := callN_mk (M := M) (args := args) hts hN w0 w1 hd1
  rw [w4] at cb
  refine aw_after (st := st) (Qt' := fun _ => False) (run_vx (va_runIN (As := as.map (conc G.2.2.2)) (rest := st.map (conc G.2.2.2)) (b := adr G.2.2.2 (s, q)) ⟨hx, hb, hml, hown, hts⟩ (am_met hl hM) ⟨cb, w3, hts _ (tb_mem w2 rfl)⟩ ⟨pc_blind, pre_mk (as := vr s q :: as) C R S⟩ rfl (by simp) L.1 ?_ ?_ hd ⟨hc, hs⟩)) C S L hc hs (fun _ z => z.elim) k
  · simp [List.map_append, List.map_reverse, conc, va_rf]
  · exact lv_room (by rw [catS_eq]; exact hcat)
/-- behind a throw so many cells more lie in the heap, of which nothing is known -/
def junk : List SG → Nat → List SG
  | [], _ => []
  | [l], j => [l ++ List.replicate j none]
  | l :: l2 :: r, j => l :: junk (l2 :: r) j
theorem hgs_junk : ∀ (h : List SG) (j s k : Nat), hgs (junk h j) s k = hgs h s k
  | [], _, _, _ => rfl
  | [l], j, 0, k => by
    simp only [junk, hgs]
    rcases Nat.lt_or_ge k l.length with z | z
    · rw [List.getElem?_append_left z]
    · rw [List.getElem?_append_right z, List.getElem?_eq_none z]
      cases hq : (List.replicate j (none : Option AC))[k - l.length]? with
      | none => rfl
      | some x =>
        obtain ⟨z1, z2⟩ := List.getElem?_eq_some_iff.mp hq
        rw [List.getElem_replicate] at z2
        rw [← z2]
  | [l], j, s + 1, k => rfl
  | l :: l2 :: r, j, 0, k => rfl
  | l :: l2 :: r, j, s + 1, k => hgs_junk (l2 :: r) j s k
theorem rep_junk {H H1 : Heap} (R : Rep G h H) (hz : H.size ≤ H1.size) (oq : ∀ q : Nat, q < H.size → H1[q]? = H[q]?) : Rep G (h.1 + (H1.size - H.size), junk h.2 (H1.size - H.size)) H1 := by
  refine ⟨by have := R.1; show H1.size = G.2.2.2 + (h.1 + (H1.size - H.size)); omega, fun s k c hc => ?_⟩
  have hc2 : hget h s k = some c := by rw [← hc]; exact (hgs_junk h.2 _ s k).symm
  obtain ⟨p1, p2, p3⟩ := R.2 s k c hc2
  refine ⟨p1, p2, p3.kept (oq _ ?_)⟩
  rcases Nat.lt_or_ge (adr G.2.2.2 (s, k)) H.size with z | z
  · exact z
  · exact absurd p3.lt (by simp only; omega)
def tNames : List String := ["java/lang/RuntimeException", "java/lang/Exception"]
def tOK (own : String) (ik ic : Nat) : Bool := decide (Cond.classLink own ik nse ∈ lw_tbl) && decide (Cond.initialized nse ∈ lw_tbl) && (vx_at0 own ic nse tNames).all (fun w => decide (w ∈ lw_tbl) && okW w) && (Cond.classLink own ik nse :: Cond.initialized nse :: vx_at0 own ic nse tNames).all vx_ot
set_option maxHeartbeats 4000000 in
theorem aw_throw {ik ic : Nat} (hw : tOK M.1.cls ik ic = true) (d0 : decode M.2.1 pc = .ok (.new ik, 3)) (d3 : decode M.2.1 (pc + 3) = .ok (.dup, 1)) (d4 : decode M.2.1 (pc + 4) = .ok (.invokespecial ic, 3)) (d7 : decode M.2.1 (pc + 7) = .ok (.athrow, 1)) (hcat : catS st ≤ 8) (hd1 : 6 ≤ M.2.2.2.2.1) (hc : cs + 1 ≤ M.2.2.2.2.2.1) (hs : sl + 6 ≤ M.2.2.2.2.2.2)
    (k : ∀ j, Qt (h.1 + j, junk h.2 j)) : AW G M Qr Qt cs sl pc ls st h := by
  intro p e s0 m args below meth c H locs lsR C R S L
  obtain ⟨hx, hb, hr, hml, hown, hts, hlk, hK, hZ, hex, hnm, hbs, hl, hN⟩ := id C
  simp only [tOK, Bool.and_eq_true, decide_eq_true_eq] at hw
  obtain ⟨⟨⟨w1, w2⟩, w3⟩, w4⟩ := hw
  have hat : ∀ w ∈ vx_at0 M.1.cls ic nse tNames, w.before args s0 = true := fun w hw => by
    have := List.all_eq_true.mp w3 w hw
    simp only [Bool.and_eq_true, decide_eq_true_eq] at this
    exact hts _ (tb_mem this.1 this.2)
  refine vx_throw0 (cls := nse) (names := tNames) (A := gA G) hx hb hl hown (by decide) (by decide) (hts _ (tb_mem w1 rfl)) (hts _ (tb_mem w2 rfl)) hat (fun w hw => List.all_eq_true.mp w4 w hw) hZ.1 hZ.2 S (by rw [hml]; exact L.1) d0 d3 d4 d7 (fun x hx9 => (hex x hx9).elim) (by show 2 + 3 < M.2.2.2.2.1; omega) ?_ hc hs hlk ?_ S.2.2 hc hs
  · rw [catS_eq]
    show catS st + (13 * (2 + 1) + 42) ≤ 60 * M.2.2.2.2.1
    omega
  · intro t hA hz oq
    exact ⟨rfl, _, k _, rep_junk R hz oq, ⟨Nat.le_trans S.1 hz, fun q h1 h2 => (oq q (Nat.lt_of_lt_of_le h1 S.1)).trans (S.2.1 q h1 h2)⟩⟩
end
theorem tOK_B : tOK "ChanceBench" 146 148 = true := by decide +kernel
