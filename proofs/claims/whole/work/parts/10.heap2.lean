section
variable {G : GT} {M : MI} {Qr : Option AV → HT → Prop} {Qt : HT → Prop} {cs sl pc : Nat} {ls : LSt} {st : List AV} {h h' : HT} {a b o : Int} {tgt s q n : Nat} {f : Nat → Int} {g : Nat → Option (Nat × Nat)}
theorem aw_alen {ty : Nat} (hd : decode M.2.1 pc = .ok (.arraylength, 1)) (hg : hget h s q = some (ar ty n f)) (k : (n : Int) ≤ 2147483647 → AW G M Qr Qt cs sl (pc + 1) ls (vi n :: st) h) : AW G M Qr Qt cs sl pc ls (vr s q :: st) h := by
  intro p e s0 m args below meth c H locs lsR C R S L
  obtain ⟨⟨hty, hn, hf⟩, hc⟩ := rep_ar R hg
  have k0 := k (by omega) p e s0 m args below meth c H locs lsR C R S L
  have hP : va_P G.2.1 cls [(adr G.2.2.2 (s, q), .inl (G.2.2.1 ty, n, if ty = 1 then .inr (.inl (fun j => Int64.ofInt (f j))) else .inl (fun j => Int32.ofInt (f j))))] H := fun z x hx => by
    cases z with
    | zero => cases hx; exact hc
    | succ z => simp at hx
  have ht : ∃ t, (tyG G)[ty]? = some (G.2.2.1 ty, t) := by
    rcases (show ty = 0 ∨ ty = 1 ∨ ty = 2 ∨ ty = 3 by omega) with rfl | rfl | rfl | rfl <;> exact ⟨_, rfl⟩
  obtain ⟨t, ht⟩ := ht
  exact va_alen (v := Int32.ofInt n) C.1 C.2.1 C.2.2.2.2.2.2.2.1 hP 0 ty rfl ht rfl hd k0
theorem rep_rs {H : Heap} (R : Rep G h H) (hg : hget h s q = some (rs n g)) : n ≤ 2147483647 ∧ H[adr G.2.2.2 (s, q)]? = some (vp_cell (G.2.2.1 4) (n, .inr (.inr (.inr (.inr (fun j => (g j).map (adr G.2.2.2))))))) := ⟨(R.2 s q _ hg).2.1, (R.2 s q _ hg).2.2⟩
theorem aw_aald {j : Nat} (hd : decode M.2.1 pc = .ok (.aaload, 1)) (hg : hget h s q = some (rs n g)) (hi : a = (j : Int)) (hj : j < n) (k : AW G M Qr Qt cs sl (pc + 1) ls (vo (g j) :: st) h) : AW G M Qr Qt cs sl pc ls (vi a :: vr s q :: st) h := by
  intro p e s0 m args below meth c H locs lsR C R S L
  subst hi
  obtain ⟨hn, hc⟩ := rep_rs R hg
  have k0 := k p e s0 m args below meth c H locs lsR C R S L
  have hcl : (Int32.ofInt (j : Int)).toNatClampNeg = j := by rw [i_clamp (by constructor <;> omega) (by omega)]; rfl
  have hP : va_P G.2.1 cls [(adr G.2.2.2 (s, q), .inl (G.2.2.1 4, n, .inr (.inr (.inr (.inr (fun j => (g j).map (adr G.2.2.2)))))))] H := fun z x hx => by
    cases z with
    | zero => cases hx; exact hc
    | succ z => simp at hx
  refine va_aldq C.1 C.2.1 C.2.2.2.2.2.2.2.1 hP 0 4 rfl rfl (i_vp (by constructor <;> omega) (by omega) (by omega)) hd ?_
  rw [hcl]
  exact k0
/-- a law, or null, is put -/
theorem aw_aast {j : Nat} {r : Option (Nat × Nat)} (hd : decode M.2.1 pc = .ok (.aastore, 1)) (hg : hget h s q = some (rs n g)) (hi : a = (j : Int)) (hj : j < n) (hr : ∀ x, r = some x → ∃ fs, hget h x.1 x.2 = some (ob 9 fs)) (hh : hset h s q (rs n (va_up g j r)) = h') (k : AW G M Qr Qt cs sl (pc + 1) ls st h') : AW G M Qr Qt cs sl pc ls (vo r :: vi a :: vr s q :: st) h := by
  intro p e s0 m args below meth c H locs lsR C R S L
  subst hi
  subst hh
  obtain ⟨ho, hc⟩ := rep_rs R hg
  have hK := C.2.2.2.2.2.2.2.1
  have hcl : (Int32.ofInt (j : Int)).toNatClampNeg = j := by rw [i_clamp (by constructor <;> omega) (by omega)]; rfl
  have hin : vp_in (Int32.ofInt (j : Int)) n := i_vp (by constructor <;> omega) (by omega) (by omega)
  have hend : ∀ H1 : Heap, H1[adr G.2.2.2 (s, q)]? = some ((vp_cell (G.2.2.1 4) (n, .inr (.inr (.inr (.inr (fun j => (g j).map (adr G.2.2.2))))))).setSlot j (va_rf (r.map (adr G.2.2.2)))) → va_at G.2.1 cls (adr G.2.2.2 (s, q), conE G (rs n (va_up g j r))) H1 := by
    intro H1 e1
    show H1[_]? = some (vp_cell _ _)
    rw [e1]
    simp only [conE]
    rw [vp_cell_q, vp_cell_q, arrV_store]
    congr 2
    funext i
    simp only [updV, va_up]
    split <;> rfl
  cases r with
  | none =>
    refine va_WaastN (C := "ChanceBench$Law") C.1 C.2.1 hc ((hK.2 4 _ rfl).1 n (fun j => va_rf ((g j).map (adr G.2.2.2)))) (fun h => by cases h) (by show ¬ (_ < 0 ∨ (arrV _ _ _).slots.size ≤ _); rw [arrV_size]; exact hin) rfl rfl hd fun H1 e1 z oq => ?_
    rw [hcl] at e1
    exact k p e s0 m args below meth c H1 _ lsR C (R.set hg ho (hend H1 e1) z oq) (S.put z oq (adr_ge _ _)) L
  | some x =>
    obtain ⟨fs, hx⟩ := hr x rfl
    obtain ⟨r', hr', cellV, g1, g2, g3, -⟩ := (R.2 x.1 x.2 _ hx).2.2
    have hc9 : cls[9]? = some ("ChanceBench$Law", cT9, 3) := rfl
    have hcls := (hK.1 9 _ hc9).2
    obtain ⟨kA, comp, k1, k2, k3, -⟩ := (hK.2 4 _ rfl).2
    have hcomp : comp = G.2.1.1 9 := Option.some.inj (k3.symm.trans hcls.1)
    subst hcomp
    obtain ⟨kC, hkC, -⟩ := hcls.2
    refine W.aast C.1 C.2.1 hc (fun q h => by cases h) (fun h => by cases h) k1 k2 rfl hkC ⟨fun q => hin (Or.inl q), by show _ < (arrV _ _ _).slots.size; rw [arrV_size, hcl]; exact hj⟩ g1 (fun q h => by rw [g3] at h; cases h) (by rw [g2]; exact hkC) (by rw [g2]; exact va_assign hcls) rfl rfl hd fun H1 e1 z oq => ?_
    rw [hcl] at e1
    exact k p e s0 m args below meth c H1 _ lsR C (R.set hg ho (hend H1 e1) z oq) (S.put z oq (adr_ge _ _)) L
def fitV (ty : FieldType) (v : AV) : Prop := match ty, v with
  | .int, .inl z => I32 z
  | .boolean, .inl z => 0 ≤ z ∧ z ≤ 1
  | .long, .inr (.inl z) => I64 z
  | .object _, .inr (.inr _) => True
  | .array _, .inr (.inr _) => True
  | _, _ => False
theorem fitV_ok {base : Nat} {ty : FieldType} {v : AV} (h : fitV ty v) : narrow ty (conc base v) = conc base v ∧ fits ty (conc base v) = true ∧ okV v := by
  cases ty <;> rcases v with z | z | r <;> simp only [fitV] at h
  all_goals first
    | exact ⟨rfl, rfl, h⟩
    | (cases r <;> exact ⟨rfl, rfl, trivial⟩)
    | (rcases (show z = 0 ∨ z = 1 by omega) with rfl | rfl <;> exact ⟨rfl, rfl, by constructor <;> omega⟩)
def finOf (ci k : Nat) : Bool := match cls[ci]? with
  | some r => (r.2.1 k).2.2.2
  | none => false
theorem ok_set {ci : Nat} {fs : List AV} {k : Nat} {v : AV} (h : okC (ob ci fs)) (hv : okV v) : okC (ob ci (fs.set k v)) := by
  intro w hw
  rcases List.mem_or_eq_of_mem_set hw with h1 | h1
  · exact h w h1
  · rw [h1]; exact hv
theorem aw_put {idx ci k : Nat} {fs : List AV} {v : AV} (hd : decode M.2.1 pc = .ok (.putfield idx, 3)) (hf : (fOK M.1.cls idx ci k && !finOf ci k) = true) (hg : hget h s q = some (ob ci fs)) (hk : k < fs.length) (hv : fitV (clY ci k) v) (hh : hset h s q (ob ci (fs.set k v)) = h') (kk : AW G M Qr Qt cs sl (pc + 3) ls st h') : AW G M Qr Qt cs sl pc ls (v :: vr s q :: st) h := by
  intro p e s0 m args below meth c H locs lsR C R S L
  subst hh
  obtain ⟨hx, hb, hr, hml, hown, hts, hlk, hK, -⟩ := id C
  simp only [Bool.and_eq_true, Bool.not_eq_true'] at hf
  obtain ⟨hf, hfin⟩ := hf
  unfold fOK at hf
  unfold finOf at hfin
  split at hf
  · rename_i r hc
    rw [hc] at hfin
    dsimp only at hfin
    simp only [Bool.and_eq_true, decide_eq_true_eq] at hf
    obtain ⟨⟨h1, h2⟩, h3⟩ := hf
    obtain ⟨v1, v2, v3⟩ := fitV_ok (base := G.2.2.2) hv
    have hD : va_D (gA G) [(adr G.2.2.2 (s, q), (.inr (ci, fs.map (conc G.2.2.2)) : va_E))] := ⟨fun i j x y hx hy _ => by
      have a1 := (List.getElem?_eq_some_iff.mp hx).1
      have a2 := (List.getElem?_eq_some_iff.mp hy).1
      simp at a1 a2
      omega, fun i x hx => by
      cases i with
      | zero => cases hx; exact adr_ge _ _
      | succ i => simp at hx⟩
    have hap := va_apart (own := M.1.cls) hts (cls_ws hc) (clY ci) (cls_ty hc) (cls_nm hc) hK hc
    obtain ⟨r9, h9, cell, q1, q2, q3, q4⟩ := rep_ob R hg 0 _ rfl
    cases Option.some.inj (h9.symm.trans hc)
    obtain ⟨hS, hfc, kC, hkC, hkind⟩ := hK.1 ci _ hc
    obtain ⟨cf, kf, fi, fd, hi, hsl⟩ := hS k h1
    have hlay := hts _ (cls_ws hc _ (u_in_lay h1))
    unfold u_lay at hlay
    rw [if_neg (by rw [hfin]; decide)] at hlay
    have hst := (u_facts hfc hkC (u_lays hts (cls_ws hc) h1) hi).1
    have h6 := u_store hfc hkC hkind hlay hi (cls_ty hc k h1) v1 v2
    refine W.putK hx hb (f := fd) ⟨hown, hts _ (tb_mem h3 rfl), ⟨_, _, _, by rw [h2] at hi; exact hi⟩, hst⟩ (by rw [q2]; exact h6) q1 q3 (by rw [hsl]; exact k2_hasslot (q4 k h1)) rfl rfl hd fun H' e1 e2 e3 => ?_
    rw [hsl] at e1 ⊢
    refine kk p e s0 m args below meth c H' _ lsR C (R.set hg (ok_set (R.2 s q _ hg).2.1 v3) ?_ e2 e3) (S.put e2 e3 (adr_ge _ _)) L
    refine ⟨_, hc, t_OB.to (V := updV (vp_V (fs.map (conc G.2.2.2))) k (conc G.2.2.2 v)) ⟨_, e1, q2, q3, t_set q4 hap h1 _⟩ (fun j _ => ?_)⟩
    show _ = vp_V ((fs.set k v).map (conc G.2.2.2)) j
    rw [List.map_set]
    exact vp_updV_set (by simpa using hk) _ j
  · cases hf
theorem aw_putF {idx ci k : Nat} {fs : List AV} {v : AV} (hd : decode M.2.1 pc = .ok (.putfield idx, 3)) (hf : (fOK M.1.cls idx ci k && finOf ci k && decide (M.1.name = "<init>") && decide ((cls[ci]?).map (fun r => r.1) = some M.1.cls)) = true) (hg : hget h s q = some (ob ci fs)) (hk : k < fs.length) (hv : fitV (clY ci k) v) (hh : hset h s q (ob ci (fs.set k v)) = h') (kk : AW G M Qr Qt cs sl (pc + 3) ls st h') : AW G M Qr Qt cs sl pc ls (v :: vr s q :: st) h := by
  intro p e s0 m args below meth c H locs lsR C R S L
  subst hh
  obtain ⟨hx, hb, hr, hml, hown, hts, hlk, hK, hz, hex, hname, -⟩ := id C
  simp only [Bool.and_eq_true, decide_eq_true_eq] at hf
  obtain ⟨⟨⟨hf, hfin⟩, hinit⟩, hcl⟩ := hf
  unfold fOK at hf
  unfold finOf at hfin
  split at hf
  · rename_i r hc
    rw [hc] at hfin hcl
    dsimp only at hfin
    have hcl : r.1 = M.1.cls := Option.some.inj hcl
    simp only [Bool.and_eq_true, decide_eq_true_eq] at hf
    obtain ⟨⟨h1, h2⟩, h3⟩ := hf
    obtain ⟨v1, v2, v3⟩ := fitV_ok (base := G.2.2.2) hv
    have hap := va_apart (own := M.1.cls) hts (cls_ws hc) (clY ci) (cls_ty hc) (cls_nm hc) hK hc
    obtain ⟨r9, h9, cell, q1, q2, q3, q4⟩ := rep_ob R hg 0 _ rfl
    cases Option.some.inj (h9.symm.trans hc)
    obtain ⟨hS, hfc, kC, hkC, hkind⟩ := hK.1 ci _ hc
    obtain ⟨cf, kf, fi, fd, hi, hsl⟩ := hS k h1
    have hlay := hts _ (cls_ws hc _ (u_in_lay h1))
    unfold u_lay at hlay
    rw [if_pos hfin] at hlay
    have hst := (u_facts hfc hkC (u_lays hts (cls_ws hc) h1) hi).1
    have hcf : m.cls = cf := by
      obtain ⟨_, _, c', _, _, _, -, -, hf', -, -, -, hown2, -⟩ := Cond.laysFinal_spec hlay
      have e1 : c' = cf := by have := hi.symm.trans hf'; simp at this; exact this.1.symm
      rw [h2, hcl] at hown2
      rw [← e1]; exact Option.some.inj (hown.symm.trans hown2)
    have h6 := u_fits hfc hkC hkind (Or.inr hlay) hi (cls_ty hc k h1) v1 v2
    refine W.putFinK hx hb hown (hts _ (tb_mem h3 rfl)) (by rw [h2] at hi; exact hi) hst hcf (by rw [hname]; exact hinit) (by rw [q2]; exact h6) q1 q3 (by rw [hsl]; exact k2_hasslot (q4 k h1)) rfl rfl hd fun H' e1 e2 e3 => ?_
    rw [hsl] at e1 ⊢
    refine kk p e s0 m args below meth c H' _ lsR C (R.set hg (ok_set (R.2 s q _ hg).2.1 v3) ?_ e2 e3) (S.put e2 e3 (adr_ge _ _)) L
    refine ⟨_, hc, t_OB.to (V := updV (vp_V (fs.map (conc G.2.2.2))) k (conc G.2.2.2 v)) ⟨_, e1, q2, q3, t_set q4 hap h1 _⟩ (fun j _ => ?_)⟩
    show _ = vp_V ((fs.set k v).map (conc G.2.2.2)) j
    rw [List.map_set]
    exact vp_updV_set (by simpa using hk) _ j
  · cases hf
theorem S_push {A : Nat → Prop} {H0 H H1 : Heap} {locs : List Loc} (S : va_S A H0 H locs) (hz : H1.size = H.size + 1) (oq : ∀ q, q < H.size → H1[q]? = H[q]?) : va_S A H0 H1 locs :=
  ⟨Nat.le_trans S.1 (by omega), fun x h1 h2 => (oq x (Nat.lt_of_lt_of_le h1 S.1)).trans (S.2.1 x h1 h2), S.2.2⟩
def dflV (ty : FieldType) : AV := match ty with
  | .long => vl 0
  | .object _ => vn
  | .array _ => vn
  | _ => vi 0
def dfs (ci N : Nat) : List AV := (List.range N).map (fun k => dflV (clY ci k))
def tyOK (ty : FieldType) : Bool := match ty with
  | .int => true
  | .long => true
  | .boolean => true
  | .object _ => true
  | .array _ => true
  | _ => false
def nOK (own : String) (idx ci : Nat) : Bool := match cls[ci]? with
  | some r => decide (Cond.classLink own idx r.1 ∈ lw_tbl) && decide (Cond.instantiable r.1 r.2.2 ∈ lw_tbl) && decide (Cond.initialized r.1 ∈ lw_tbl) && (List.range r.2.2).all (fun k => tyOK (clY ci k))
  | none => false
theorem aw_new {idx ci N : Nat} (hd : decode M.2.1 pc = .ok (.new idx, 3)) (hw : nOK M.1.cls idx ci = true) (hN : (cls[ci]?).map (fun r => r.2.2) = some N) (hl : hln h.2 s = some n) (hp : okP s n) (hn : h.1 = off s + n) (hc1 : cs + 1 ≤ M.2.2.2.2.2.1) (hc2 : sl + N ≤ M.2.2.2.2.2.2) (hh : (h.1 + 1, hps h.2 s (some (ob ci (dfs ci N)))) = h')
    (k : AW G M Qr Qt (cs + 1) (sl + N) (pc + 3) ls (vr s n :: st) h') : AW G M Qr Qt cs sl pc ls st h := by
  intro p e s0 m args below meth c H locs lsR C R S L
  subst hh
  obtain ⟨hx, hb, hr, hml, hown, hts, hlk, hK, -⟩ := id C
  unfold nOK at hw
  split at hw
  · rename_i r hc
    rw [hc] at hN
    cases hN
    simp only [Bool.and_eq_true, decide_eq_true_eq] at hw
    obtain ⟨⟨⟨w1, w2⟩, w3⟩, w4⟩ := hw
    have hKn := hK.1 ci _ hc
    refine W.newcK hx hb hown (hts _ (tb_mem w1 rfl)) (hts _ (tb_mem w2 rfl)) (hts _ (tb_mem w3 rfl)) rfl hd hc1 hc2 hKn.2.1 rfl fun H1 kC hkC e1 z1 o1 => ?_
    have hadr : adr G.2.2.2 (s, n) = H.size := by rw [R.1, hn]; simp only [adr]; omega
    have hfs : ∀ j, j < r.2.2 → defaultValue (clY ci j) = vp_V ((dfs ci r.2.2).map (conc G.2.2.2)) j := by
      intro j hj
      have ht := List.all_eq_true.mp w4 j (List.mem_range.mpr hj)
      simp only [vp_V, dfs, List.map_map]
      rw [List.getD_eq_getElem?_getD, List.getElem?_map, List.getElem?_range hj]
      simp only [Option.map_some, Option.getD_some, Function.comp]
      revert ht
      cases clY ci j <;> simp [tyOK, dflV, conc, va_rf] <;> rfl
    have k0 := k p e s0 m args below meth c H1 locs lsR C (R.push hl hp hn ?_ ?_ z1 o1) (S_push S z1 o1) L
    · simp only [List.map, conc, Option.map_some, va_rf, hadr] at k0
      exact k0
    · intro v hv
      simp only [dfs, List.mem_map] at hv
      obtain ⟨j, -, rfl⟩ := hv
      cases clY ci j <;> first | exact z32 | exact z64 | exact trivial
    · refine ⟨_, hc, (u_born (clY ci) hts (cls_ws hc) hKn hkC ?_ (cls_ty hc)).to hfs⟩
      rw [hadr]
      exact e1
  · cases hw
def atT (t : Nat) : ArrayType := match t with
  | 0 => .int
  | 1 => .long
  | 2 => .byte
  | _ => .boolean
theorem aw_newa {t N : Nat} (hd : decode M.2.1 pc = .ok (.newarray (atT t), 2)) (ht : t ≤ 3) (hw : Cond.arrayClass (newarray.typeOf (atT t)) ∈ lw_tbl) (ha : a = (N : Int)) (hN : N ≤ 1000000) (hl : hln h.2 s = some n) (hp : okP s n) (hn : h.1 = off s + n) (hc1 : cs + 1 ≤ M.2.2.2.2.2.1) (hc2 : sl + N ≤ M.2.2.2.2.2.2) (hh : (h.1 + 1, hps h.2 s (some (ar t N (fun _ => 0)))) = h')
    (k : AW G M Qr Qt (cs + 1) (sl + N) (pc + 2) ls (vr s n :: st) h') : AW G M Qr Qt cs sl pc ls (vi a :: st) h := by
  intro p e s0 m args below meth c H locs lsR C R S L
  subst hh
  subst ha
  obtain ⟨hx, hb, hr, hml, hown, hts, hlk, hK, -⟩ := id C
  have hI : I32 (N : Int) := by constructor <;> omega
  have hadr : adr G.2.2.2 (s, n) = H.size := by rw [R.1, hn]; simp only [adr]; omega
  have hcb : componentBytes (newarray.typeOf (atT t)) ≤ 8 := by
    rcases (show t = 0 ∨ t = 1 ∨ t = 2 ∨ t = 3 by omega) with rfl | rfl | rfl | rfl <;> decide
  refine va_newaK hx hb (hts _ (tb_mem hw rfl)) rfl hd rfl (fun q => by have := (i_lt hI z32).mp q; omega) (N := N) (by rw [i_clamp hI (by omega)]; rfl) (Nat.le_trans (Nat.mul_le_mul hN hcb) (by decide)) hc1 hc2 rfl fun H1 cA e1 z1 o1 hAr hNm => ?_
  have k0 := k p e s0 m args below meth c H1 locs lsR C (R.push hl hp hn ?_ ?_ z1 o1) (S_push S z1 o1) L
  · simp only [List.map, conc, Option.map_some, va_rf, hadr] at k0
    exact k0
  · refine ⟨ht, (by show N ≤ 2147483647; omega), fun j => ?_⟩
    rcases (show t = 0 ∨ t = 1 ∨ t = 2 ∨ t = 3 by omega) with rfl | rfl | rfl | rfl <;> simp [inT]
  · show H1[adr G.2.2.2 (s, n)]? = some (vp_cell _ _)
    rw [hadr, e1]
    rcases (show t = 0 ∨ t = 1 ∨ t = 2 ∨ t = 3 by omega) with rfl | rfl | rfl | rfl
    · have := (hK.2 0 _ rfl).2
      cases Option.some.inj (hNm.symm.trans this)
      rfl
    · have := (hK.2 1 _ rfl).2
      cases Option.some.inj (hNm.symm.trans this)
      rfl
    · have := (hK.2 2 _ rfl).2
      cases Option.some.inj (hNm.symm.trans this)
      rfl
    · have := (hK.2 3 _ rfl).2
      cases Option.some.inj (hNm.symm.trans this)
      rfl
theorem aw_anew {idx N : Nat} (hd : decode M.2.1 pc = .ok (.anewarray idx, 3)) (hw : Cond.classLink M.1.cls idx "ChanceBench$Law" ∈ lw_tbl) (hw2 : Cond.arrayOver (.object "ChanceBench$Law") ∈ lw_tbl) (ha : a = (N : Int)) (hN : N ≤ 1000000) (hl : hln h.2 s = some n) (hp : okP s n) (hn : h.1 = off s + n) (hc1 : cs + 1 ≤ M.2.2.2.2.2.1) (hc2 : sl + N ≤ M.2.2.2.2.2.2) (hh : (h.1 + 1, hps h.2 s (some (rs N (fun _ => none)))) = h')
    (k : AW G M Qr Qt (cs + 1) (sl + N) (pc + 3) ls (vr s n :: st) h') : AW G M Qr Qt cs sl pc ls (vi a :: st) h := by
  intro p e s0 m args below meth c H locs lsR C R S L
  subst hh
  subst ha
  obtain ⟨hx, hb, hr, hml, hown, hts, hlk, hK, -⟩ := id C
  have hI : I32 (N : Int) := by constructor <;> omega
  have hadr : adr G.2.2.2 (s, n) = H.size := by rw [R.1, hn]; simp only [adr]; omega
  have hcl : (Int32.ofInt (N : Int)).toNatClampNeg = N := by rw [i_clamp hI (by omega)]; rfl
  refine W.anew hx hb hown (hts _ (tb_mem hw rfl)) (hts _ (tb_mem hw2 rfl)) rfl hd rfl (fun q => by have := (i_lt hI z32).mp q; omega) (by rw [hcl]; omega) hc1 (by rw [hcl]; exact hc2) fun cA kA comp f1 f2 f3 f4 => ?_
  rw [hcl]
  have k0 := k p e s0 m args below meth c (H.push { cls := cA, slots := Array.replicate N .null, vm := .none }) locs lsR C (R.push hl hp hn ?_ ?_ (by simp) (fun q hq => by rw [Array.getElem?_push, if_neg (Nat.ne_of_lt hq)])) (S_push S (by simp) (fun q hq => by rw [Array.getElem?_push, if_neg (Nat.ne_of_lt hq)])) L
  · simp only [List.map, conc, Option.map_some, va_rf, hadr] at k0
    exact k0
  · show N ≤ 2147483647
    omega
  · show (H.push _)[adr G.2.2.2 (s, n)]? = some (vp_cell _ _)
    rw [hadr]
    obtain ⟨kB, compB, b1, b2, b3, b4⟩ := (hK.2 4 _ rfl).2
    cases Option.some.inj (f1.symm.trans b4)
    rw [Array.getElem?_push_size]
    simp only [conE]
    rw [vp_cell_q, arrV_new]
    rfl
end
