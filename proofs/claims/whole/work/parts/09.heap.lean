/-! arithmetic with conditions; the heap -/
section
variable {G : GT} {M : MI} {Qr : Option AV → HT → Prop} {Qt : HT → Prop} {cs sl pc : Nat} {ls : LSt} {st : List AV} {h h' : HT} {a b o : Int} {tgt s q n : Nat} {f : Nat → Int}
theorem aw_lcmp (hd : decode M.2.1 pc = .ok (.lcmp, 1)) (ha : I64 a) (hb : I64 b) (k : AW G M Qr Qt cs sl (pc + 1) ls (vi (cmpI a b) :: st) h) : AW G M Qr Qt cs sl pc ls (vl b :: vl a :: st) h := by
  intro p e s0 m args below meth c H locs lsR C R S L
  have k0 := k p e s0 m args below meth c H locs lsR C R S L
  refine W.lcmp C.1 C.2.1 hd ?_
  have : lg_cmp (Int64.ofInt a) (Int64.ofInt b) = Int32.ofInt (cmpI a b) := by
    unfold lg_cmp cmpI
    simp only [gt_iff_lt, l_lt hb ha, l_eq ha hb]
    by_cases h1 : b < a
    · rw [if_pos h1, if_neg (by omega), if_neg (by omega)]; rfl
    · rw [if_neg h1]
      by_cases h2 : a = b
      · rw [if_pos h2, if_neg (by omega), if_pos h2]; rfl
      · rw [if_neg h2, if_pos (by omega)]; rfl
  rw [this]
  exact k0
theorem aw_i2l (hd : decode M.2.1 pc = .ok (.i2l, 1)) (ha : I32 a) (k : AW G M Qr Qt cs sl (pc + 1) ls (vl a :: st) h) : AW G M Qr Qt cs sl pc ls (vi a :: st) h := by
  intro p e s0 m args below meth c H locs lsR C R S L
  exact lv_i2l C.1 C.2.1 hd (il_to ha) (k p e s0 m args below meth c H locs lsR C R S L)
theorem nz32 {b : Int} (hb : I32 b) (h : b ≠ 0) : ¬ Int32.ofInt b = 0 := fun e => h ((i_eq hb z32).mp e)
theorem z64 : I64 0 := by constructor <;> decide
theorem nz64 {b : Int} (hb : I64 b) (h : b ≠ 0) : ¬ Int64.ofInt b = 0 := fun e => h ((l_eq hb z64).mp e)
theorem aw_idiv (hd : decode M.2.1 pc = .ok (.idiv, 1)) (ha : I32 a) (hb : I32 b) (h0 : b ≠ 0) (k : AW G M Qr Qt cs sl (pc + 1) ls (vi (a.tdiv b) :: st) h) : AW G M Qr Qt cs sl pc ls (vi b :: vi a :: st) h := by
  intro p e s0 m args below meth c H locs lsR C R S L
  have k0 := k p e s0 m args below meth c H locs lsR C R S L
  exact lv_idiv C.1 C.2.1 hd (nz32 hb h0) (by rw [i_div ha hb]; exact k0)
theorem aw_irem (hd : decode M.2.1 pc = .ok (.irem, 1)) (ha : I32 a) (hb : I32 b) (h0 : b ≠ 0) (k : AW G M Qr Qt cs sl (pc + 1) ls (vi (a.tmod b) :: st) h) : AW G M Qr Qt cs sl pc ls (vi b :: vi a :: st) h := by
  intro p e s0 m args below meth c H locs lsR C R S L
  have k0 := k p e s0 m args below meth c H locs lsR C R S L
  exact lv_irem C.1 C.2.1 hd (nz32 hb h0) (by rw [i_rem ha hb]; exact k0)
theorem aw_ldiv (hd : decode M.2.1 pc = .ok (.ldiv, 1)) (ha : I64 a) (hb : I64 b) (h0 : b ≠ 0) (k : AW G M Qr Qt cs sl (pc + 1) ls (vl (a.tdiv b) :: st) h) : AW G M Qr Qt cs sl pc ls (vl b :: vl a :: st) h := by
  intro p e s0 m args below meth c H locs lsR C R S L
  have k0 := k p e s0 m args below meth c H locs lsR C R S L
  exact lv_ldiv C.1 C.2.1 hd (nz64 hb h0) (by rw [l_div ha hb]; exact k0)
theorem aw_lrem (hd : decode M.2.1 pc = .ok (.lrem, 1)) (ha : I64 a) (hb : I64 b) (h0 : b ≠ 0) (k : AW G M Qr Qt cs sl (pc + 1) ls (vl (a.tmod b) :: st) h) : AW G M Qr Qt cs sl pc ls (vl b :: vl a :: st) h := by
  intro p e s0 m args below meth c H locs lsR C R S L
  have k0 := k p e s0 m args below meth c H locs lsR C R S L
  exact lv_lrem C.1 C.2.1 hd (nz64 hb h0) (by rw [l_rem ha hb]; exact k0)
theorem aw_ldc {ix : Nat} {v : Int32} (hd : decode M.2.1 pc = .ok (.ldc ix, 2)) (hw : Cond.constant M.1.cls ix v ∈ lw_tbl) (hv : v.toInt = a) (k : AW G M Qr Qt cs sl (pc + 2) ls (vi a :: st) h) : AW G M Qr Qt cs sl pc ls st h := by
  intro p e s0 m args below meth c H locs lsR C R S L
  have k0 := k p e s0 m args below meth c H locs lsR C R S L
  exact lv_ldc C.1 C.2.1 C.2.2.2.2.1 (C.2.2.2.2.2.1 _ (tb_mem hw rfl)) hd (by rw [← i_of v, hv]; exact k0)
theorem aw_ldc2 {ix : Nat} {v : Int64} (hd : decode M.2.1 pc = .ok (.ldc2_w ix, 3)) (hw : Cond.constantLong M.1.cls ix v ∈ lw_tbl) (hv : v.toInt = a) (k : AW G M Qr Qt cs sl (pc + 3) ls (vl a :: st) h) : AW G M Qr Qt cs sl pc ls st h := by
  intro p e s0 m args below meth c H locs lsR C R S L
  have k0 := k p e s0 m args below meth c H locs lsR C R S L
  exact lv_ldc2 C.1 C.2.1 C.2.2.2.2.1 (C.2.2.2.2.2.1 _ (tb_mem hw rfl)) hd (by rw [← Int64.ofInt_toInt v, hv]; exact k0)
/-- any int by its 32 bits -/
theorem aw_wrap (k : AW G M Qr Qt cs sl pc ls (vi (w32 a) :: st) h) : AW G M Qr Qt cs sl pc ls (vi a :: st) h := by
  intro p e s0 m args below meth c H locs lsR C R S L
  have k0 := k p e s0 m args below meth c H locs lsR C R S L
  simp only [List.map, conc, i_wrap] at k0
  exact k0
def tyT (t : Nat) : FieldType := match t with
  | 0 => .int
  | 1 => .long
  | 2 => .byte
  | _ => .boolean
theorem rep_ar {H : Heap} {ty : Nat} (R : Rep G h H) (hg : hget h s q = some (ar ty n f)) : (ty ≤ 3 ∧ n ≤ 2147483647 ∧ ∀ j, inT ty (f j)) ∧ H[adr G.2.2.2 (s, q)]? = some (vp_cell (G.2.2.1 ty) (n, if ty = 1 then .inr (.inl (fun j => Int64.ofInt (f j))) else .inl (fun j => Int32.ofInt (f j)))) := ⟨(R.2 s q _ hg).2.1, (R.2 s q _ hg).2.2⟩
theorem adr_ge (base : Nat) (x : Nat × Nat) : base ≤ adr base x := by simp only [adr]; omega
theorem aw_iald {j : Nat} (hd : decode M.2.1 pc = .ok (.iaload, 1)) (hg : hget h s q = some (ar 0 n f)) (hi : a = (j : Int)) (hj : j < n) (k : I32 (f j) → AW G M Qr Qt cs sl (pc + 1) ls (vi (f j) :: st) h) : AW G M Qr Qt cs sl pc ls (vi a :: vr s q :: st) h := by
  intro p e s0 m args below meth c H locs lsR C R S L
  subst hi
  obtain ⟨⟨-, hn, hf⟩, hc⟩ := rep_ar R hg
  have k0 := k (hf j) p e s0 m args below meth c H locs lsR C R S L
  have hcl : (Int32.ofInt (j : Int)).toNatClampNeg = j := by rw [i_clamp (by constructor <;> omega) (by omega)]; rfl
  have hP : va_P G.2.1 cls [(adr G.2.2.2 (s, q), .inl (G.2.2.1 0, n, .inl (fun j => Int32.ofInt (f j))))] H := fun z x hx => by
    cases z with
    | zero => cases hx; exact hc
    | succ z => simp at hx
  refine va_iald C.1 C.2.1 C.2.2.2.2.2.2.2.1 hP 0 0 rfl rfl (i_vp (by constructor <;> omega) (by omega) (by omega)) hd ?_
  rw [hcl]
  exact k0
theorem aw_lald {j : Nat} (hd : decode M.2.1 pc = .ok (.laload, 1)) (hg : hget h s q = some (ar 1 n f)) (hi : a = (j : Int)) (hj : j < n) (k : I64 (f j) → AW G M Qr Qt cs sl (pc + 1) ls (vl (f j) :: st) h) : AW G M Qr Qt cs sl pc ls (vi a :: vr s q :: st) h := by
  intro p e s0 m args below meth c H locs lsR C R S L
  subst hi
  obtain ⟨⟨-, hn, hf⟩, hc⟩ := rep_ar R hg
  have k0 := k (hf j) p e s0 m args below meth c H locs lsR C R S L
  have hcl : (Int32.ofInt (j : Int)).toNatClampNeg = j := by rw [i_clamp (by constructor <;> omega) (by omega)]; rfl
  have hP : va_P G.2.1 cls [(adr G.2.2.2 (s, q), .inl (G.2.2.1 1, n, .inr (.inl (fun j => Int64.ofInt (f j)))))] H := fun z x hx => by
    cases z with
    | zero => cases hx; exact hc
    | succ z => simp at hx
  refine va_lald C.1 C.2.1 C.2.2.2.2.2.2.2.1 hP 0 1 rfl rfl (i_vp (by constructor <;> omega) (by omega) (by omega)) hd ?_
  rw [hcl]
  exact k0
theorem aw_bald {j : Nat} (hd : decode M.2.1 pc = .ok (.baload, 1)) (hg : hget h s q = some (ar 2 n f)) (hi : a = (j : Int)) (hj : j < n) (k : (-128 ≤ f j ∧ f j ≤ 127) → AW G M Qr Qt cs sl (pc + 1) ls (vi (f j) :: st) h) : AW G M Qr Qt cs sl pc ls (vi a :: vr s q :: st) h := by
  intro p e s0 m args below meth c H locs lsR C R S L
  subst hi
  obtain ⟨⟨-, hn, hf⟩, hc⟩ := rep_ar R hg
  have k0 := k (hf j) p e s0 m args below meth c H locs lsR C R S L
  have hcl : (Int32.ofInt (j : Int)).toNatClampNeg = j := by rw [i_clamp (by constructor <;> omega) (by omega)]; rfl
  have hP : va_P G.2.1 cls [(adr G.2.2.2 (s, q), .inl (G.2.2.1 2, n, .inl (fun j => Int32.ofInt (f j))))] H := fun z x hx => by
    cases z with
    | zero => cases hx; exact hc
    | succ z => simp at hx
  refine va_bald C.1 C.2.1 C.2.2.2.2.2.2.2.1 hP 0 2 rfl rfl (i_vp (by constructor <;> omega) (by omega) (by omega)) hd ?_
  rw [hcl]
  exact k0
theorem aw_zald {j : Nat} (hd : decode M.2.1 pc = .ok (.baload, 1)) (hg : hget h s q = some (ar 3 n f)) (hi : a = (j : Int)) (hj : j < n) (k : (0 ≤ f j ∧ f j ≤ 1) → AW G M Qr Qt cs sl (pc + 1) ls (vi (f j) :: st) h) : AW G M Qr Qt cs sl pc ls (vi a :: vr s q :: st) h := by
  intro p e s0 m args below meth c H locs lsR C R S L
  subst hi
  obtain ⟨⟨-, hn, hf⟩, hc⟩ := rep_ar R hg
  have k0 := k (hf j) p e s0 m args below meth c H locs lsR C R S L
  have hcl : (Int32.ofInt (j : Int)).toNatClampNeg = j := by rw [i_clamp (by constructor <;> omega) (by omega)]; rfl
  have hP : va_P G.2.1 cls [(adr G.2.2.2 (s, q), .inl (G.2.2.1 3, n, .inl (fun j => Int32.ofInt (f j))))] H := fun z x hx => by
    cases z with
    | zero => cases hx; exact hc
    | succ z => simp at hx
  refine va_zald C.1 C.2.1 C.2.2.2.2.2.2.2.1 hP 0 3 rfl rfl (i_vp (by constructor <;> omega) (by omega) (by omega)) hd ?_
  rw [hcl]
  exact k0
theorem ok_up {ty n : Nat} {f : Nat → Int} {j : Nat} {x : Int} (ho : ty ≤ 3 ∧ n ≤ 2147483647 ∧ ∀ j, inT ty (f j)) (hx : inT ty x) : okC (ar ty n (va_up f j x)) := by
  refine ⟨ho.1, ho.2.1, fun i => ?_⟩
  show inT ty (va_up f j x i)
  unfold va_up
  split
  · exact hx
  · exact ho.2.2 i
theorem aw_iast {j : Nat} {x : Int} (hd : decode M.2.1 pc = .ok (.iastore, 1)) (hg : hget h s q = some (ar 0 n f)) (hi : a = (j : Int)) (hj : j < n) (hx : I32 x) (hh : hset h s q (ar 0 n (va_up f j x)) = h') (k : AW G M Qr Qt cs sl (pc + 1) ls st h') : AW G M Qr Qt cs sl pc ls (vi x :: vi a :: vr s q :: st) h := by
  intro p e s0 m args below meth c H locs lsR C R S L
  subst hi
  subst hh
  obtain ⟨ho, hc⟩ := rep_ar R hg
  have hcl : (Int32.ofInt (j : Int)).toNatClampNeg = j := by rw [i_clamp (by constructor <;> omega) (by omega)]; rfl
  have hin : vp_in (Int32.ofInt (j : Int)) n := i_vp (by constructor <;> omega) (by omega) (by omega)
  refine W.iast C.1 C.2.1 hc ((C.2.2.2.2.2.2.2.1.2 0 _ rfl).1 n (fun j => .int (Int32.ofInt (f j)))) (fun q => by cases q) (by show ¬ (_ < 0 ∨ (arrV _ _ _).slots.size ≤ _); rw [arrV_size]; exact hin) rfl rfl hd fun H1 e1 z oq => ?_
  refine k p e s0 m args below meth c H1 _ lsR C (R.set hg (ok_up ho hx) ?_ z oq) (S.put z oq (adr_ge _ _)) L
  show H1[_]? = some (vp_cell _ _)
  rw [e1, hcl]
  simp only [conE, if_neg (show ¬ (0 : Nat) = 1 by decide)]
  rw [vp_cell_i, vp_cell_i, arrV_store]
  congr 2
  funext i
  simp only [updV, va_up]
  split <;> rfl
theorem aw_last {j : Nat} {x : Int} (hd : decode M.2.1 pc = .ok (.lastore, 1)) (hg : hget h s q = some (ar 1 n f)) (hi : a = (j : Int)) (hj : j < n) (hx : I64 x) (hh : hset h s q (ar 1 n (va_up f j x)) = h') (k : AW G M Qr Qt cs sl (pc + 1) ls st h') : AW G M Qr Qt cs sl pc ls (vl x :: vi a :: vr s q :: st) h := by
  intro p e s0 m args below meth c H locs lsR C R S L
  subst hi
  subst hh
  obtain ⟨ho, hc⟩ := rep_ar R hg
  have hcl : (Int32.ofInt (j : Int)).toNatClampNeg = j := by rw [i_clamp (by constructor <;> omega) (by omega)]; rfl
  have hin : vp_in (Int32.ofInt (j : Int)) n := i_vp (by constructor <;> omega) (by omega) (by omega)
  refine W.last C.1 C.2.1 hc ((C.2.2.2.2.2.2.2.1.2 1 _ rfl).1 n (fun j => .long (Int64.ofInt (f j)))) (fun q => by cases q) (by show ¬ (_ < 0 ∨ (arrV _ _ _).slots.size ≤ _); rw [arrV_size]; exact hin) rfl rfl hd fun H1 e1 z oq => ?_
  refine k p e s0 m args below meth c H1 _ lsR C (R.set hg (ok_up ho hx) ?_ z oq) (S.put z oq (adr_ge _ _)) L
  show H1[_]? = some (vp_cell _ _)
  rw [e1, hcl]
  simp only [conE, if_pos]
  rw [vp_cell_l, vp_cell_l, arrV_store]
  congr 2
  funext i
  simp only [updV, va_up]
  split <;> rfl
theorem aw_bast {j : Nat} {x : Int} (hd : decode M.2.1 pc = .ok (.bastore, 1)) (hg : hget h s q = some (ar 2 n f)) (hi : a = (j : Int)) (hj : j < n) (hx : -128 ≤ x ∧ x ≤ 127) (hh : hset h s q (ar 2 n (va_up f j x)) = h') (k : AW G M Qr Qt cs sl (pc + 1) ls st h') : AW G M Qr Qt cs sl pc ls (vi x :: vi a :: vr s q :: st) h := by
  intro p e s0 m args below meth c H locs lsR C R S L
  subst hi
  subst hh
  obtain ⟨ho, hc⟩ := rep_ar R hg
  have hcl : (Int32.ofInt (j : Int)).toNatClampNeg = j := by rw [i_clamp (by constructor <;> omega) (by omega)]; rfl
  have hin : vp_in (Int32.ofInt (j : Int)) n := i_vp (by constructor <;> omega) (by omega) (by omega)
  have hnar : narrow .byte (.int (Int32.ofInt x)) = .int (Int32.ofInt x) := by
    rw [← i_b8 hx.1 hx.2]
    have := pk_nb (Int8.ofInt x).toInt32
    simpa using this
  refine W.bast C.1 C.2.1 hc ((C.2.2.2.2.2.2.2.1.2 2 _ rfl).1 n (fun j => .int (Int32.ofInt (f j)))) (fun q => by cases q) (by show ¬ (_ < 0 ∨ (arrV _ _ _).slots.size ≤ _); rw [arrV_size]; exact hin) rfl rfl hd fun H1 e1 z oq => ?_
  refine k p e s0 m args below meth c H1 _ lsR C (R.set hg (ok_up ho hx) ?_ z oq) (S.put z oq (adr_ge _ _)) L
  show H1[_]? = some (vp_cell _ _)
  rw [e1, hcl, hnar]
  simp only [conE, if_neg (show ¬ (2 : Nat) = 1 by decide)]
  rw [vp_cell_i, vp_cell_i, arrV_store]
  congr 2
  funext i
  simp only [updV, va_up]
  split <;> rfl
theorem aw_zast {j : Nat} {x : Int} (hd : decode M.2.1 pc = .ok (.bastore, 1)) (hg : hget h s q = some (ar 3 n f)) (hi : a = (j : Int)) (hj : j < n) (hx : 0 ≤ x ∧ x ≤ 1) (hh : hset h s q (ar 3 n (va_up f j x)) = h') (k : AW G M Qr Qt cs sl (pc + 1) ls st h') : AW G M Qr Qt cs sl pc ls (vi x :: vi a :: vr s q :: st) h := by
  intro p e s0 m args below meth c H locs lsR C R S L
  subst hi
  subst hh
  obtain ⟨ho, hc⟩ := rep_ar R hg
  have hcl : (Int32.ofInt (j : Int)).toNatClampNeg = j := by rw [i_clamp (by constructor <;> omega) (by omega)]; rfl
  have hin : vp_in (Int32.ofInt (j : Int)) n := i_vp (by constructor <;> omega) (by omega) (by omega)
  have hnar : narrow .boolean (.int (Int32.ofInt x)) = .int (Int32.ofInt x) := by
    rcases (show x = 0 ∨ x = 1 by omega) with rfl | rfl <;> rfl
  refine W.zast C.1 C.2.1 hc ((C.2.2.2.2.2.2.2.1.2 3 _ rfl).1 n (fun j => .int (Int32.ofInt (f j)))) (fun q => by cases q) (by show ¬ (_ < 0 ∨ (arrV _ _ _).slots.size ≤ _); rw [arrV_size]; exact hin) rfl rfl hd fun H1 e1 z oq => ?_
  refine k p e s0 m args below meth c H1 _ lsR C (R.set hg (ok_up ho hx) ?_ z oq) (S.put z oq (adr_ge _ _)) L
  show H1[_]? = some (vp_cell _ _)
  rw [e1, hcl, hnar]
  simp only [conE, if_neg (show ¬ (3 : Nat) = 1 by decide)]
  rw [vp_cell_i, vp_cell_i, arrV_store]
  congr 2
  funext i
  simp only [updV, va_up]
  split <;> rfl
end
