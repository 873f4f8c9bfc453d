/-! reads of fields, stretches, branches -/
def fOK (own : String) (idx ci k : Nat) : Bool := match cls[ci]? with
  | some r => decide (k < r.2.2) && decide ((r.2.1 k).1 = r.1) && decide (Cond.fieldLink own idx r.1 (r.2.1 k).2.1 (r.2.1 k).2.2.1 ∈ lw_tbl)
  | none => false
theorem rep_ob {G : GT} {h : HT} {H : Heap} {s k ci : Nat} {fs : List AV} (R : Rep G h H) (hg : hget h s k = some (ob ci fs)) : va_P G.2.1 cls [(adr G.2.2.2 (s, k), .inr (ci, fs.map (conc G.2.2.2)))] H := by
  intro j q hq
  cases j with
  | zero => cases hq; exact (R.2 s k _ hg).2.2
  | succ j => simp at hq
theorem aw_get {G : GT} {M : MI} {Qr : Option AV → HT → Prop} {Qt : HT → Prop} {cs sl pc : Nat} {ls : LSt} {st : List AV} {h : HT} {idx ci f s q : Nat} {fs : List AV} {v : AV} (hd : decode M.2.1 pc = .ok (.getfield idx, 3)) (hf : fOK M.1.cls idx ci f = true) (hg : hget h s q = some (ob ci fs)) (hv : fs[f]? = some v)
    (k : AW G M Qr Qt cs sl (pc + 3) ls (v :: st) h) : AW G M Qr Qt cs sl pc ls (vr s q :: st) h := by
  intro p e s0 m args below meth c H locs lsR C R S L
  have k0 := k p e s0 m args below meth c H locs lsR C R S L
  obtain ⟨hx, hb, hr, hml, hown, hts, hlk, hK, -⟩ := C
  unfold fOK at hf
  split at hf
  · rename_i r hc
    simp only [Bool.and_eq_true, decide_eq_true_eq] at hf
    obtain ⟨⟨h1, h2⟩, h3⟩ := hf
    exact va_get (C := r.1) (T := r.2.1) (N := r.2.2) (D := G.2.1) (ci := ci) (ref := r.1) hx hb hts (cls_ws hc) hown hK (rep_ob R hg) 0 rfl hc f h1 (hts _ (tb_mem h3 rfl)) (fun x hx9 => by rw [h2] at hx9; exact hx9) (v := conc G.2.2.2 v) (by rw [List.getElem?_map, hv]; rfl) hd k0
  · cases hf
def runB : List PI → Nat → LSt → List AV → HT → Option (LSt × List AV)
  | [], _, ls, st, _ => some (ls, st)
  | .inl i :: r, nL, ls, st, h => match step1 i nL ls st with
    | some x => runB r nL x.1 x.2 h
    | none => none
  | .inr q :: r, nL, ls, st, h => match st with
    | .inr (.inr (some a)) :: st' => match hget h a.1 a.2 with
      | some (.inl o) => match decide (o.1 = q.2.1) with
        | true => match o.2[q.2.2]? with
          | some v => runB r nL ls (v :: st') h
          | none => none
        | false => none
      | _ => none
    | _ => none
def chkB (M : MI) : List PI → Nat → Option Nat
  | [], pc => some pc
  | .inl i :: r, pc => match decide (decode M.2.1 pc = .ok (i, ilen i)) with
    | true => chkB M r (pc + ilen i)
    | false => none
  | .inr q :: r, pc => match decide (decode M.2.1 pc = .ok (.getfield q.1, 3)) && fOK M.1.cls q.1 q.2.1 q.2.2 with
    | true => chkB M r (pc + 3)
    | false => none
theorem aw_blk {G : GT} {M : MI} {Qr : Option AV → HT → Prop} {Qt : HT → Prop} {cs sl : Nat} {ls' : LSt} {st' : List AV} {h : HT} {pc' : Nat} : ∀ (is : List PI) (pc : Nat) (ls : LSt) (st : List AV), chkB M is pc = some pc' → runB is M.2.2.1 ls st h = some (ls', st') → AW G M Qr Qt cs sl pc' ls' st' h → AW G M Qr Qt cs sl pc ls st h := by
  intro is
  induction is with
  | nil =>
    intro pc ls st h1 h2 k
    cases h1
    cases h2
    exact k
  | cons i r ih =>
    intro pc ls st h1 h2 k
    cases i with
    | inl i =>
      simp only [chkB] at h1
      simp only [runB] at h2
      split at h1
      · rename_i hd
        split at h2
        · rename_i x hx
          exact aw_step1 (of_decide_eq_true hd) hx (ih _ _ _ h1 h2 k)
        · cases h2
      · cases h1
    | inr q =>
      simp only [chkB] at h1
      simp only [runB] at h2
      split at h1
      · rename_i hd
        simp only [Bool.and_eq_true, decide_eq_true_eq] at hd
        split at h2
        · rename_i a st9
          split at h2
          · rename_i o ho
            split at h2
            · rename_i ho1
              split at h2
              · rename_i v hv
                have e := of_decide_eq_true ho1
                exact aw_get (s := a.1) (q := a.2) (fs := o.2) hd.1 hd.2 (by rw [ho, ← e]) hv (ih _ _ _ h1 h2 k)
              · cases h2
            · cases h2
          · cases h2
        · cases h2
      · cases h1
section
variable {G : GT} {M : MI} {Qr : Option AV → HT → Prop} {Qt : HT → Prop} {cs sl pc : Nat} {ls : LSt} {st : List AV} {h : HT} {a b o : Int} {tgt : Nat}
theorem aw_ls {ls' : LSt} (hs : ∀ (k : Nat) (v : AV), ls'[k]? = some (some v) → ls[k]? = some (some v)) (k : AW G M Qr Qt cs sl pc ls' st h) : AW G M Qr Qt cs sl pc ls st h := by
  intro p e s0 m args below meth c H locs lsR C R S L
  exact k p e s0 m args below meth c H locs lsR C R S (lv_weak L hs)
/-- what lies in the heap is in range -/
theorem aw_ok (k : (∀ (s q : Nat) (c : AC), hget h s q = some c → okC c) → AW G M Qr Qt cs sl pc ls st h) : AW G M Qr Qt cs sl pc ls st h := by
  intro p e s0 m args below meth c H locs lsR C R S L
  exact k (fun s q c hc => (R.2 s q c hc).2.1) p e s0 m args below meth c H locs lsR C R S L
theorem aw_goto (hd : decode M.2.1 pc = .ok (.goto o, 3)) (ht : (pc : Int) + o = (tgt : Int)) (k : AW G M Qr Qt cs sl tgt ls st h) : AW G M Qr Qt cs sl pc ls st h := by
  intro p e s0 m args below meth c H locs lsR C R S L
  exact lv_goto C.1 C.2.1 hd ht (k p e s0 m args below meth c H locs lsR C R S L)
theorem aw_icmp_eq (hd : decode M.2.1 pc = .ok (.if_icmp .eq o, 3)) (ht : (pc : Int) + o = (tgt : Int)) (ha : I32 a) (hb : I32 b) (kt : a = b → AW G M Qr Qt cs sl tgt ls st h) (kf : ¬ a = b → AW G M Qr Qt cs sl (pc + 3) ls st h) : AW G M Qr Qt cs sl pc ls (vi b :: vi a :: st) h := by
  intro p e s0 m args below meth c H locs lsR C R S L
  exact lv_icmp_eq C.1 C.2.1 hd ht (fun q => kt ((i_eq ha hb).mp q) p e s0 m args below meth c H locs lsR C R S L) (fun q => kf (fun z => q ((i_eq ha hb).mpr z)) p e s0 m args below meth c H locs lsR C R S L)
theorem aw_icmp_ne (hd : decode M.2.1 pc = .ok (.if_icmp .ne o, 3)) (ht : (pc : Int) + o = (tgt : Int)) (ha : I32 a) (hb : I32 b) (kt : ¬ a = b → AW G M Qr Qt cs sl tgt ls st h) (kf : a = b → AW G M Qr Qt cs sl (pc + 3) ls st h) : AW G M Qr Qt cs sl pc ls (vi b :: vi a :: st) h := by
  intro p e s0 m args below meth c H locs lsR C R S L
  exact lv_icmp_ne C.1 C.2.1 hd ht (fun q => kt (fun z => q ((i_eq ha hb).mpr z)) p e s0 m args below meth c H locs lsR C R S L) (fun q => kf ((i_eq ha hb).mp q) p e s0 m args below meth c H locs lsR C R S L)
theorem aw_icmp_lt (hd : decode M.2.1 pc = .ok (.if_icmp .lt o, 3)) (ht : (pc : Int) + o = (tgt : Int)) (ha : I32 a) (hb : I32 b) (kt : a < b → AW G M Qr Qt cs sl tgt ls st h) (kf : ¬ a < b → AW G M Qr Qt cs sl (pc + 3) ls st h) : AW G M Qr Qt cs sl pc ls (vi b :: vi a :: st) h := by
  intro p e s0 m args below meth c H locs lsR C R S L
  exact lv_icmp_lt C.1 C.2.1 hd ht (fun q => kt ((i_lt ha hb).mp q) p e s0 m args below meth c H locs lsR C R S L) (fun q => kf (fun z => q ((i_lt ha hb).mpr z)) p e s0 m args below meth c H locs lsR C R S L)
theorem aw_icmp_ge (hd : decode M.2.1 pc = .ok (.if_icmp .ge o, 3)) (ht : (pc : Int) + o = (tgt : Int)) (ha : I32 a) (hb : I32 b) (kt : b ≤ a → AW G M Qr Qt cs sl tgt ls st h) (kf : ¬ b ≤ a → AW G M Qr Qt cs sl (pc + 3) ls st h) : AW G M Qr Qt cs sl pc ls (vi b :: vi a :: st) h := by
  intro p e s0 m args below meth c H locs lsR C R S L
  exact lv_icmp_ge C.1 C.2.1 hd ht (fun q => kt ((i_le hb ha).mp q) p e s0 m args below meth c H locs lsR C R S L) (fun q => kf (fun z => q ((i_le hb ha).mpr z)) p e s0 m args below meth c H locs lsR C R S L)
theorem aw_icmp_gt (hd : decode M.2.1 pc = .ok (.if_icmp .gt o, 3)) (ht : (pc : Int) + o = (tgt : Int)) (ha : I32 a) (hb : I32 b) (kt : b < a → AW G M Qr Qt cs sl tgt ls st h) (kf : ¬ b < a → AW G M Qr Qt cs sl (pc + 3) ls st h) : AW G M Qr Qt cs sl pc ls (vi b :: vi a :: st) h := by
  intro p e s0 m args below meth c H locs lsR C R S L
  exact lv_icmp_gt C.1 C.2.1 hd ht (fun q => kt ((i_lt hb ha).mp q) p e s0 m args below meth c H locs lsR C R S L) (fun q => kf (fun z => q ((i_lt hb ha).mpr z)) p e s0 m args below meth c H locs lsR C R S L)
theorem aw_icmp_le (hd : decode M.2.1 pc = .ok (.if_icmp .le o, 3)) (ht : (pc : Int) + o = (tgt : Int)) (ha : I32 a) (hb : I32 b) (kt : a ≤ b → AW G M Qr Qt cs sl tgt ls st h) (kf : ¬ a ≤ b → AW G M Qr Qt cs sl (pc + 3) ls st h) : AW G M Qr Qt cs sl pc ls (vi b :: vi a :: st) h := by
  intro p e s0 m args below meth c H locs lsR C R S L
  exact lv_icmp_le C.1 C.2.1 hd ht (fun q => kt ((i_le ha hb).mp q) p e s0 m args below meth c H locs lsR C R S L) (fun q => kf (fun z => q ((i_le ha hb).mpr z)) p e s0 m args below meth c H locs lsR C R S L)
theorem i_0 : (0 : Int32) = Int32.ofInt 0 := rfl
theorem z32 : I32 0 := by constructor <;> decide
theorem aw_if_eq (hd : decode M.2.1 pc = .ok (.ifCond .eq o, 3)) (ht : (pc : Int) + o = (tgt : Int)) (ha : I32 a) (kt : a = 0 → AW G M Qr Qt cs sl tgt ls st h) (kf : ¬ a = 0 → AW G M Qr Qt cs sl (pc + 3) ls st h) : AW G M Qr Qt cs sl pc ls (vi a :: st) h := by
  intro p e s0 m args below meth c H locs lsR C R S L
  exact lv_if_eq C.1 C.2.1 hd ht (fun q => kt ((i_eq ha z32).mp q) p e s0 m args below meth c H locs lsR C R S L) (fun q => kf (fun z => q ((i_eq ha z32).mpr z)) p e s0 m args below meth c H locs lsR C R S L)
theorem aw_if_ne (hd : decode M.2.1 pc = .ok (.ifCond .ne o, 3)) (ht : (pc : Int) + o = (tgt : Int)) (ha : I32 a) (kt : ¬ a = 0 → AW G M Qr Qt cs sl tgt ls st h) (kf : a = 0 → AW G M Qr Qt cs sl (pc + 3) ls st h) : AW G M Qr Qt cs sl pc ls (vi a :: st) h := by
  intro p e s0 m args below meth c H locs lsR C R S L
  exact lv_if_ne C.1 C.2.1 hd ht (fun q => kt (fun z => q ((i_eq ha z32).mpr z)) p e s0 m args below meth c H locs lsR C R S L) (fun q => kf ((i_eq ha z32).mp q) p e s0 m args below meth c H locs lsR C R S L)
theorem aw_if_lt (hd : decode M.2.1 pc = .ok (.ifCond .lt o, 3)) (ht : (pc : Int) + o = (tgt : Int)) (ha : I32 a) (kt : a < 0 → AW G M Qr Qt cs sl tgt ls st h) (kf : ¬ a < 0 → AW G M Qr Qt cs sl (pc + 3) ls st h) : AW G M Qr Qt cs sl pc ls (vi a :: st) h := by
  intro p e s0 m args below meth c H locs lsR C R S L
  exact lv_if_lt C.1 C.2.1 hd ht (fun q => kt ((i_lt ha z32).mp q) p e s0 m args below meth c H locs lsR C R S L) (fun q => kf (fun z => q ((i_lt ha z32).mpr z)) p e s0 m args below meth c H locs lsR C R S L)
theorem aw_if_ge (hd : decode M.2.1 pc = .ok (.ifCond .ge o, 3)) (ht : (pc : Int) + o = (tgt : Int)) (ha : I32 a) (kt : 0 ≤ a → AW G M Qr Qt cs sl tgt ls st h) (kf : ¬ 0 ≤ a → AW G M Qr Qt cs sl (pc + 3) ls st h) : AW G M Qr Qt cs sl pc ls (vi a :: st) h := by
  intro p e s0 m args below meth c H locs lsR C R S L
  exact lv_if_ge C.1 C.2.1 hd ht (fun q => kt ((i_le z32 ha).mp q) p e s0 m args below meth c H locs lsR C R S L) (fun q => kf (fun z => q ((i_le z32 ha).mpr z)) p e s0 m args below meth c H locs lsR C R S L)
theorem aw_if_gt (hd : decode M.2.1 pc = .ok (.ifCond .gt o, 3)) (ht : (pc : Int) + o = (tgt : Int)) (ha : I32 a) (kt : 0 < a → AW G M Qr Qt cs sl tgt ls st h) (kf : ¬ 0 < a → AW G M Qr Qt cs sl (pc + 3) ls st h) : AW G M Qr Qt cs sl pc ls (vi a :: st) h := by
  intro p e s0 m args below meth c H locs lsR C R S L
  exact lv_if_gt C.1 C.2.1 hd ht (fun q => kt ((i_lt z32 ha).mp q) p e s0 m args below meth c H locs lsR C R S L) (fun q => kf (fun z => q ((i_lt z32 ha).mpr z)) p e s0 m args below meth c H locs lsR C R S L)
theorem aw_if_le (hd : decode M.2.1 pc = .ok (.ifCond .le o, 3)) (ht : (pc : Int) + o = (tgt : Int)) (ha : I32 a) (kt : a ≤ 0 → AW G M Qr Qt cs sl tgt ls st h) (kf : ¬ a ≤ 0 → AW G M Qr Qt cs sl (pc + 3) ls st h) : AW G M Qr Qt cs sl pc ls (vi a :: st) h := by
  intro p e s0 m args below meth c H locs lsR C R S L
  exact lv_if_le C.1 C.2.1 hd ht (fun q => kt ((i_le ha z32).mp q) p e s0 m args below meth c H locs lsR C R S L) (fun q => kf (fun z => q ((i_le ha z32).mpr z)) p e s0 m args below meth c H locs lsR C R S L)
theorem aw_ifnull {r : Option (Nat × Nat)} (hd : decode M.2.1 pc = .ok (.ifnull o, 3)) (ht : (pc : Int) + o = (tgt : Int)) (kt : r = none → AW G M Qr Qt cs sl tgt ls st h) (kf : ∀ q, r = some q → AW G M Qr Qt cs sl (pc + 3) ls st h) : AW G M Qr Qt cs sl pc ls (vo r :: st) h := by
  intro p e s0 m args below meth c H locs lsR C R S L
  cases r with
  | none => exact lv_ifnullN C.1 C.2.1 hd ht (kt rfl p e s0 m args below meth c H locs lsR C R S L)
  | some q => exact lv_ifnull C.1 C.2.1 hd (kf q rfl p e s0 m args below meth c H locs lsR C R S L)
theorem aw_ifnonnull {r : Option (Nat × Nat)} (hd : decode M.2.1 pc = .ok (.ifnonnull o, 3)) (ht : (pc : Int) + o = (tgt : Int)) (kt : ∀ q, r = some q → AW G M Qr Qt cs sl tgt ls st h) (kf : r = none → AW G M Qr Qt cs sl (pc + 3) ls st h) : AW G M Qr Qt cs sl pc ls (vo r :: st) h := by
  intro p e s0 m args below meth c H locs lsR C R S L
  cases r with
  | none => exact lv_ifnonnullN C.1 C.2.1 hd (kf rfl p e s0 m args below meth c H locs lsR C R S L)
  | some q => exact lv_ifnonnull C.1 C.2.1 hd ht (kt q rfl p e s0 m args below meth c H locs lsR C R S L)
/-- the sign of a comparison of longs -/
def cmpI (a b : Int) : Int := if a < b then -1 else if a = b then 0 else 1
theorem cmpI_in (a b : Int) : I32 (cmpI a b) := by unfold cmpI; split <;> (try split) <;> constructor <;> decide
theorem cmpI_lt (a b : Int) : cmpI a b < 0 ↔ a < b := by unfold cmpI; split <;> (try split) <;> omega
theorem cmpI_le (a b : Int) : cmpI a b ≤ 0 ↔ a ≤ b := by unfold cmpI; split <;> (try split) <;> omega
theorem cmpI_eq (a b : Int) : cmpI a b = 0 ↔ a = b := by unfold cmpI; split <;> (try split) <;> omega
theorem cmpI_gt (a b : Int) : 0 < cmpI a b ↔ b < a := by unfold cmpI; split <;> (try split) <;> omega
theorem cmpI_ge (a b : Int) : 0 ≤ cmpI a b ↔ b ≤ a := by unfold cmpI; split <;> (try split) <;> omega
end
