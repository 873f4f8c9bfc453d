/-! the law's body: rows for its calls -/
abbrev LZ (G : GT) (Qp : QT) (b0 L0 : Nat) (xs : Nat → Int32) (cs sl pc : Nat) (ls : LSt) (st : List AV) (h : HT) : Prop := LW G M_Z_law room_1 (ZL G b0 L0 xs) Qp (XL b0) cs sl pc ls st h
abbrev lsZ (i : Nat) : LSt := [none, some (vr 0 0), some (vr 8 0), some (vr 9 0), some (vi (i : Int)), none, none, none]
abbrev lsW (i : Nat) (r : Int) (x6 x7 : Option AV) : LSt := [none, some (vr 0 0), some (vr 8 0), some (vr 9 0), some (vi (i : Int)), some (vi r), x6, x7]
def sx (xs : Nat → Int32) (i k : Nat) : Int := (xs (i + k)).toInt
theorem sx_I {xs : Nat → Int32} {i k : Nat} : I32 (sx xs i k) := i_in _
abbrev sxs (xs : Nat → Int32) (i : Nat) (ks : List Nat) : List AV := ks.map (fun k => vi (sx xs i k))
def dAt (pc : Nat) (i : Instr) (n : Nat) : Bool := decide (decode code pc = .ok (i, n))
theorem dAt_ {pc n : Nat} {i : Instr} (h : dAt pc i n = true) : decode M_Z_law.2.1 pc = .ok (i, n) := of_decide_eq_true h
def sldC (pc k : Nat) : Bool := dAt pc (.aload_n 0) 1 && dAt (pc + 1) (.iload 4) 2 && dAt (pc + 3) (.iconst (k : Int)) 1 && dAt (pc + 4) .iadd 1 && dAt (pc + 5) .iaload 1
def sldN (pc : Nat) : List Nat → Bool
  | [] => true
  | k :: ks => sldC pc k && sldN (pc + 6) ks
section
variable {G : GT} {Qp : QT} {b0 L0 : Nat} {xs : Nat → Int32} {cs sl pc i : Nat} {ls : LSt} {st : List AV} {h : HT} {o : Int}
theorem lx_ls {ls' : LSt} (hs : ∀ (k : Nat) (v : AV), ls'[k]? = some (some v) → ls[k]? = some (some v)) (k : LZ G Qp b0 L0 xs cs sl pc ls' st h) : LZ G Qp b0 L0 xs cs sl pc ls st h := by
  intro p e s0 m args below meth c H locs lsR C Z9 R S L
  refine k p e s0 m args below meth c H locs lsR C Z9 R S ⟨L.1, L.2.1, fun q hq => ?_⟩
  rcases List.mem_append.mp hq with z | z
  · exact L.2.2 q (List.mem_append_left _ z)
  · exact (lv_weak (lvX L) hs).2.2 q z
theorem lx_slds (hL : L0 ≤ 3072) (hl : ls[4]? = some (some (vi (i : Int)))) (ks : List Nat) : ∀ (pc : Nat) (st : List AV), sldN pc ks = true → (∀ k ∈ ks, i + k < L0) → LZ G Qp b0 L0 xs cs sl (pc + 6 * ks.length) ls ((sxs xs i ks).reverse ++ st) h → LZ G Qp b0 L0 xs cs sl pc ls st h := by
  induction ks with
  | nil =>
    intro pc st _ _ k
    simp only [sxs, List.length_nil, Nat.mul_zero, Nat.add_zero, List.map_nil, List.reverse_nil, List.nil_append] at k
    exact k
  | cons k9 ks ih =>
    intro pc st hc hk k
    simp only [sldN, sldC, Bool.and_eq_true] at hc
    obtain ⟨⟨⟨⟨⟨c1, c2⟩, c3⟩, c4⟩, c5⟩, c6⟩ := hc
    refine lx_sld (j := i + k9) (i := (i : Int)) (k9 := (k9 : Int)) (dAt_ c1) (dAt_ c2) (dAt_ c3) (dAt_ c4) (dAt_ c5) hl (by omega) (hk k9 List.mem_cons_self) (by omega) ?_
    refine ih (pc + 6) _ c6 (fun k hk9 => hk k (List.mem_cons_of_mem _ hk9)) ?_
    simp only [sxs, List.map_cons, List.reverse_cons, List.append_assoc, List.cons_append, List.nil_append, List.length_cons] at k
    rw [show pc + 6 + 6 * ks.length = pc + 6 * (ks.length + 1) by omega]
    exact k
theorem lx_one {i9 : Instr} {ls' : LSt} {st' : List AV} (hz0 : st0 i9 = false) (hd : dAt pc i9 (ilen i9) = true) (hs : step1 i9 8 ls st = some (ls', st')) (k : LZ G Qp b0 L0 xs cs sl (pc + ilen i9) ls' st' h) : LZ G Qp b0 L0 xs cs sl pc ls st h :=
  lx_step1 (okXL b0) hz0 (dAt_ hd) hs k
theorem Inv.g0 {th ov : Int} (hI : Inv th ov h) : ∃ fs, hget h 0 0 = some (ob 0 fs) := by
  obtain ⟨bd, tk, laws, slot, ahead, made, od, dn, un, len, nn, ft, rr, ff, gg, l0, D0, B0, js, wh, fa, fb, fw, fl, sl_, l9, W0, lv, op, r9, dd, l8, fd, f1, f2, kp, fi, se, ta, tl, by9, xtp, xwg, xwh, xmd, xsl, xhw, xhs, xhd, xha, xp1, xp2, xp3, xl1, xl2, xrt, xlf, xdc, xhn, xsu, fo9, dy, hT, hS, hJ, hD, hI, he, rfl⟩ := hI
  exact ⟨_, rfl⟩
theorem Inv.out {th ov : Int} (hI : Inv th ov h) : ∃ f, hget h 9 0 = some (ar 1 1 f) ∧ f 0 = ov := by
  obtain ⟨bd, tk, laws, slot, ahead, made, od, dn, un, len, nn, ft, rr, ff, gg, l0, D0, B0, js, wh, fa, fb, fw, fl, sl_, l9, W0, lv, op, r9, dd, l8, fd, f1, f2, kp, fi, se, ta, tl, by9, xtp, xwg, xwh, xmd, xsl, xhw, xhs, xhd, xha, xp1, xp2, xp3, xl1, xl2, xrt, xlf, xdc, xhn, xsu, fo9, dy, hT, hS, hJ, hD, hI, he, rfl⟩ := hI
  exact ⟨fo9, rfl, he⟩
theorem Inv.thr {th ov : Int} (hI : Inv th ov h) : AMr G M_M_thrown [] h (fun r g => r = some (vi th) ∧ g = h) := by
  obtain ⟨bd, tk, laws, slot, ahead, made, od, dn, un, len, nn, ft, rr, ff, gg, l0, D0, B0, js, wh, fa, fb, fw, fl, sl_, l9, W0, lv, op, r9, dd, l8, fd, f1, f2, kp, fi, se, ta, tl, by9, xtp, xwg, xwh, xmd, xsl, xhw, xhs, xhd, xha, xp1, xp2, xp3, xl1, xl2, xrt, xlf, xdc, xhn, xsu, fo9, dy, hT, hS, hJ, hD, hI, he, rfl⟩ := hI
  exact am_monoR m_M_thrown (fun r g z => z) (fun _ z => z)
def mOK (M : MI) (c : String) : Bool := decide (M.1.cls = c) && decide (M.2.2.2.2.1 + 1 ≤ 2048) && decide (60 * M.2.2.2.2.1 + 60 ≤ 84000)
def twoC (pc p1 p2 : Nat) (ks : List Nat) (ib im : Nat) (MB MM : MI) : Bool := dAt pc (.aload_n 1) 1 && sldN (pc + 1) ks && dAt p1 (.invokevirtual ib) 3 && vOK "ChanceBenchLaw" ib MB ks.length && dAt (p1 + 3) (.aload_n 2) 1 && sldN (p1 + 4) ks && dAt p2 (.invokevirtual im) 3 && vOK "ChanceBenchLaw" im MM ks.length && mOK MB "ChanceBench" && mOK MM "ChanceBenchModel" && decide (MB.2.2.2.2.2.1 + MM.2.2.2.2.2.1 ≤ 50) && decide (MB.2.2.2.2.2.2 + MM.2.2.2.2.2.2 ≤ 500)
theorem lc_two9 {MB MM : MI} {ks : List Nat} {th ov : Int} {ib im p1 p2 : Nat} {P : Option AV → Prop} {Q : Option AV → HT → Prop} (hL : L0 ≤ 3072) (hk : ∀ k ∈ ks, i + k < L0) (hI : Inv th ov h)
    (hT : AMet G MB (vr 0 0 :: sxs xs i ks) h (fun x g => P x ∧ AMr G MM (sxs xs i ks) g (fun y g2 => x = y ∧ ∃ ov, Inv 0 ov g2)) (fun _ => False)) (hcat : ∀ x, P x → catS x.toList ≤ 8)
    (h1 : pc + 1 + 6 * ks.length = p1) (h2 : p1 + 4 + 6 * ks.length = p2) (hck : twoC pc p1 p2 ks ib im MB MM = true) (hc : cs + 50 ≤ 601024) (hs : sl + 500 ≤ 7293034)
    (nx : ∀ x ov g2, P x → Inv 0 ov g2 → LZ G Qp b0 L0 xs (cs + 50) (sl + 500) (p2 + 3) (lsZ i) (x.toList ++ x.toList) g2) : LZ G Qp b0 L0 xs cs sl pc (lsZ i) [] h := by
  simp only [twoC, mOK, Bool.and_eq_true, decide_eq_true_eq] at hck
  obtain ⟨⟨⟨⟨⟨⟨⟨⟨⟨⟨⟨c1, c2⟩, c3⟩, c4⟩, c5⟩, c6⟩, c7⟩, c8⟩, ⟨c9, c10⟩, c11⟩, ⟨c12, c13⟩, c14⟩, c15⟩, c16⟩ := hck
  obtain ⟨fs0, hg0⟩ := hI.g0
  refine lx_one (i9 := .aload_n 1) (ls' := lsZ i) (st' := [vr 0 0]) rfl c1 rfl ?_
  refine lx_slds hL rfl ks _ _ c2 hk ?_
  rw [show pc + ilen (.aload_n 1) + 6 * ks.length = p1 from h1]
  refine lx_callV (as := sxs xs i ks) (st := []) (idx := ib) hT (dAt_ c3) (by rw [List.length_map]; exact c4) hg0 (by rw [c9]; rfl) rfl (Nat.le_of_ble_eq_true rfl) c10 c11 (show _ ≤ 601024 by omega) (show _ ≤ 7293034 by omega) (fun x g hx => ?_)
  obtain ⟨hP, ⟨fs, hg⟩, hM⟩ := hx
  rw [List.append_nil]
  refine lx_one (i9 := .aload_n 2) (ls' := lsZ i) (st' := vr 8 0 :: x.toList) rfl c5 rfl ?_
  refine lx_slds hL rfl ks _ _ c6 hk ?_
  rw [show p1 + 3 + ilen (.aload_n 2) + 6 * ks.length = p2 from h2]
  refine lx_callV (as := sxs xs i ks) (st := x.toList) (idx := im) hM (dAt_ c7) (by rw [List.length_map]; exact c8) hg (by rw [c12]; rfl) rfl (hcat x hP) c13 c14 (show _ ≤ 601024 by omega) (show _ ≤ 7293034 by omega) (fun y g2 hy => ?_)
  obtain ⟨rfl, ov2, hI2⟩ := hy
  exact lx_widen (by omega) (by omega) (nx x ov2 g2 hP hI2)
def NX (G : GT) (Qp : QT) (b0 L0 : Nat) (xs : Nat → Int32) (cs sl i : Nat) : Prop := ∀ th ov h, Inv th ov h → LZ G Qp b0 L0 xs cs sl 2185 (lsZ i) [] h
theorem lc_two {MB MM : MI} {ks : List Nat} {th ov : Int} {ib im p1 p2 : Nat} (hL : L0 ≤ 3072) (hk : ∀ k ∈ ks, i + k < L0) (hI : Inv th ov h) (hT : Two G MB MM (sxs xs i ks) h)
    (h1 : pc + 1 + 6 * ks.length = p1) (h2 : p1 + 4 + 6 * ks.length = p2) (hck : twoC pc p1 p2 ks ib im MB MM = true) (hd : dAt (p2 + 3) (.if_icmp .eq o) 3 = true) (ho : ((p2 + 3 : Nat) : Int) + o = ((2185 : Nat) : Int)) (hc : cs + 50 ≤ 601024) (hs : sl + 500 ≤ 7293034)
    (nx : NX G Qp b0 L0 xs (cs + 50) (sl + 500) i) : LZ G Qp b0 L0 xs cs sl pc (lsZ i) [] h := by
  refine lc_two9 (P := fun x => ∃ r, I32 r ∧ x = some (vi r)) (Q := fun _ _ => True) hL hk hI (am_mono hT (fun x g hx => ?_) (fun _ z => z)) (fun x hx => ?_) h1 h2 hck hc hs (fun x ov2 g2 hx hI2 => ?_)
  · obtain ⟨r, hr, rfl, hM⟩ := hx
    exact ⟨⟨r, hr, rfl⟩, hM.1, am_mono hM.2 (fun y g2 z => ⟨z.1.symm, z.2⟩) (fun _ z => z)⟩
  · obtain ⟨r, hr, rfl⟩ := hx
    exact Nat.le_of_ble_eq_true rfl
  · obtain ⟨r, hr, rfl⟩ := hx
    exact lx_icmp_eq (dAt_ hd) ho hr hr (fun _ => nx _ _ _ hI2) (fun z => absurd rfl z)
theorem cmpI_rf {v : Int} : cmpI v v = 0 := by unfold cmpI; rw [if_neg (by omega), if_pos rfl]
theorem lc_twoL {MB MM : MI} {ks : List Nat} {th ov : Int} {ib im p1 p2 : Nat} (hL : L0 ≤ 3072) (hk : ∀ k ∈ ks, i + k < L0) (hI : Inv th ov h) (hT : TwoL G MB MM (sxs xs i ks) h)
    (h1 : pc + 1 + 6 * ks.length = p1) (h2 : p1 + 4 + 6 * ks.length = p2) (hck : twoC pc p1 p2 ks ib im MB MM = true) (hd0 : dAt (p2 + 3) .lcmp 1 = true) (hd : dAt (p2 + 4) (.ifCond .eq o) 3 = true) (ho : ((p2 + 4 : Nat) : Int) + o = ((2185 : Nat) : Int)) (hc : cs + 50 ≤ 601024) (hs : sl + 500 ≤ 7293034)
    (nx : NX G Qp b0 L0 xs (cs + 50) (sl + 500) i) : LZ G Qp b0 L0 xs cs sl pc (lsZ i) [] h := by
  refine lc_two9 (P := fun x => ∃ r, I64 r ∧ x = some (vl r)) (Q := fun _ _ => True) hL hk hI (am_mono hT (fun x g hx => ?_) (fun _ z => z)) (fun x hx => ?_) h1 h2 hck hc hs (fun x ov2 g2 hx hI2 => ?_)
  · obtain ⟨r, hr, rfl, hM⟩ := hx
    exact ⟨⟨r, hr, rfl⟩, hM.1, am_mono hM.2 (fun y g2 z => ⟨z.1.symm, z.2⟩) (fun _ z => z)⟩
  · obtain ⟨r, hr, rfl⟩ := hx
    exact Nat.le_of_ble_eq_true rfl
  · obtain ⟨r, hr, rfl⟩ := hx
    refine lx_lcmp (dAt_ hd0) hr hr ?_
    rw [cmpI_rf]
    exact lx_if_eq (dAt_ hd) ho z32 (fun _ => nx _ _ _ hI2) (fun z => absurd rfl z)
end
