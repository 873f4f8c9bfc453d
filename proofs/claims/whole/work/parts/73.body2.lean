/-! the law's body: calls through a helper -/
section
variable {G : GT} {Qp : QT} {b0 L0 : Nat} {xs : Nat → Int32} {cs sl pc i : Nat} {ls : LSt} {st : List AV} {h : HT} {o : Int} {x6 x7 : Option AV} {r : Int}
theorem lsW_Z : ∀ (k : Nat) (v : AV), (lsZ i)[k]? = some (some v) → (lsW i r x6 x7)[k]? = some (some v) := fun k v h => by
  match k, h with
  | 1, h => exact h
  | 2, h => exact h
  | 3, h => exact h
  | 4, h => exact h
  | k + 8, h => simp at h
/-- to the next one -/
theorem lc_E {th ov : Int} (hI : Inv th ov h) (hd : dAt pc (.goto o) 3 = true) (ho : (pc : Int) + o = ((2185 : Nat) : Int)) {c2 s2 : Nat} (hc : cs ≤ c2) (hs : sl ≤ s2) (nx : NX G Qp b0 L0 xs c2 s2 i) : LZ G Qp b0 L0 xs cs sl pc (lsW i r x6 x7) [] h :=
  lx_goto (dAt_ hd) ho (lx_ls lsW_Z (lx_widen hc hs (nx _ _ _ hI)))
def thrC (pc : Nat) (o1 o2 : Int) : Bool := dAt pc (.aload_n 2) 1 && dAt (pc + 1) (.invokevirtual 131) 3 && dAt (pc + 4) (.iload 5) 2 && dAt (pc + 6) (.if_icmp .eq o1) 3 && dAt (pc + 11) (.iload 5) 2 && dAt (pc + 13) (.ifCond .ne o2) 3 && decide (o1 = 5)
theorem vOK_thr : vOK "ChanceBenchLaw" 131 M_M_thrown 0 = true := by decide +kernel
/-- did the reference throw as the bench did? -/
theorem lc_thr {ov o1 o2 : Int} {E : Nat} (hr : r = 0 ∨ r = 1) (hI : Inv r ov h) (hck : thrC pc o1 o2 = true) (hE : ((pc + 13 : Nat) : Int) + o2 = (E : Int)) (hc : cs ≤ 601024) (hs : sl ≤ 7293034)
    (k0 : r = 0 → LZ G Qp b0 L0 xs cs sl (pc + 16) (lsW i r x6 x7) [] h) (k1 : LZ G Qp b0 L0 xs cs sl E (lsW i r x6 x7) [] h) : LZ G Qp b0 L0 xs cs sl pc (lsW i r x6 x7) [] h := by
  simp only [thrC, Bool.and_eq_true, decide_eq_true_eq] at hck
  obtain ⟨⟨⟨⟨⟨⟨c1, c2⟩, c3⟩, c4⟩, c5⟩, c6⟩, rfl⟩ := hck
  have hi : I32 r := by constructor <;> omega
  obtain ⟨⟨fs, hg⟩, hM⟩ := hI.thr (G := G)
  refine lx_one (i9 := .aload_n 2) (ls' := lsW i r x6 x7) (st' := [vr 8 0]) rfl c1 rfl ?_
  refine lx_callV (as := []) (st := []) (idx := 131) hM (dAt_ c2) vOK_thr hg rfl rfl (Nat.le_of_ble_eq_true rfl) (by decide) (by decide) (show cs + 0 ≤ 601024 by omega) (show sl + 0 ≤ 7293034 by omega) (fun x g hx => ?_)
  obtain ⟨rfl, rfl⟩ := hx
  refine lx_one (i9 := .iload 5) (ls' := lsW i r x6 x7) (st' := [vi r, vi r]) rfl c3 rfl ?_
  refine lx_icmp_eq (tgt := pc + 11) (dAt_ c4) (by show ((pc + 6 : Nat) : Int) + 5 = _; omega) hi hi (fun _ => ?_) (fun z => absurd rfl z)
  refine lx_one (i9 := .iload 5) (ls' := lsW i r x6 x7) (st' := [vi r]) rfl c5 rfl ?_
  exact lx_if_ne (tgt := E) (dAt_ c6) hE hi (fun _ => k1) (fun z => k0 z)
def opC (pc p1 p2 : Nat) (ks : List Nat) (iz im : Nat) (MZ MM : MI) (hh : List (Nat × Nat × Nat × Nat)) : Bool := dAt pc (.aload_n 1) 1 && sldN (pc + 1) ks && dAt p1 (.aload_n 3) 1 && dAt (p1 + 1) (.invokestatic iz) 3 && hOK "ChanceBenchLaw" iz MZ hh (ks.length + 2) && dAt (p1 + 4) (.istore 5) 2 && dAt (p1 + 6) (.aload_n 2) 1 && sldN (p1 + 7) ks && dAt p2 (.invokevirtual im) 3 && vOK "ChanceBenchLaw" im MM ks.length && mOK MZ "ChanceBenchLaw" && mOK MM "ChanceBenchModel" && decide (MZ.2.2.2.2.2.1 + MM.2.2.2.2.2.1 ≤ 50) && decide (MZ.2.2.2.2.2.2 + MM.2.2.2.2.2.2 ≤ 500)
theorem lc_op9 {MZ MM : MI} {hh : List (Nat × Nat × Nat × Nat)} {rg : Int → Prop} {cv : Int → AV} {ks : List Nat} {iz im p1 p2 : Nat} (hL : L0 ≤ 3072) (hk : ∀ k ∈ ks, i + k < L0) (hT : Op G MZ hh MM rg cv (sxs xs i ks) h)
    (h1 : pc + 1 + 6 * ks.length = p1) (h2 : p1 + 7 + 6 * ks.length = p2) (hck : opC pc p1 p2 ks iz im MZ MM hh = true) (hc : cs + 50 ≤ 601024) (hs : sl + 500 ≤ 7293034)
    (k0 : ∀ v g, rg v → Inv 0 v g → LZ G Qp b0 L0 xs (cs + 50) (sl + 500) (p2 + 3) (lsW i 0 none none) [cv v] g) (k1 : ∀ v ov g, Inv 1 ov g → LZ G Qp b0 L0 xs (cs + 50) (sl + 500) (p2 + 3) (lsW i 1 none none) [cv v] g) : LZ G Qp b0 L0 xs cs sl pc (lsZ i) [] h := by
  simp only [opC, mOK, Bool.and_eq_true, decide_eq_true_eq] at hck
  obtain ⟨⟨⟨⟨⟨⟨⟨⟨⟨⟨⟨⟨⟨c1, c2⟩, c3⟩, c4⟩, c5⟩, c6⟩, c7⟩, c8⟩, c9⟩, c10⟩, ⟨c11, c12⟩, c13⟩, ⟨c14, c15⟩, c16⟩, c17⟩, c18⟩ := hck
  refine lx_one (i9 := .aload_n 1) (ls' := lsZ i) (st' := [vr 0 0]) rfl c1 rfl ?_
  refine lx_slds hL rfl ks _ _ c2 hk ?_
  rw [show pc + ilen (.aload_n 1) + 6 * ks.length = p1 from h1]
  refine lx_one (i9 := .aload_n 3) (ls' := lsZ i) (st' := vr 9 0 :: ((sxs xs i ks).reverse ++ [vr 0 0])) rfl c3 rfl ?_
  refine lx_callH (as := vr 0 0 :: sxs xs i ks ++ [vr 9 0]) (st := []) (idx := iz) hT (dAt_ c4) (by rw [show (vr 0 0 :: sxs xs i ks ++ [vr 9 0]).length = ks.length + 2 by simp [sxs]]; exact c5) (by simp) (Nat.le_of_ble_eq_true rfl) c12 c13 (show _ ≤ 601024 by omega) (show _ ≤ 7293034 by omega) (fun x g hx => ?_)
  have go : ∀ (r : Int) (Q : Option AV → HT → Prop), (∃ fs, hget g 8 0 = some (ob 8 fs)) → AMet G MM (vr 8 0 :: sxs xs i ks) g Q (fun _ => False) → (∀ y g2, Q y g2 → LZ G Qp b0 L0 xs (cs + 50) (sl + 500) (p2 + 3) (lsW i r none none) (y.toList ++ []) g2) → LZ G Qp b0 L0 xs (cs + MZ.2.2.2.2.2.1) (sl + MZ.2.2.2.2.2.2) (p1 + 4) (lsZ i) [vi r] g := fun r Q ⟨fs, hg⟩ hM kk => by
    refine lx_one (i9 := .istore 5) (ls' := lsW i r none none) (st' := []) rfl c6 rfl ?_
    refine lx_one (i9 := .aload_n 2) (ls' := lsW i r none none) (st' := [vr 8 0]) rfl c7 rfl ?_
    refine lx_slds hL rfl ks _ _ c8 hk ?_
    rw [show p1 + 4 + ilen (.istore 5) + ilen (.aload_n 2) + 6 * ks.length = p2 from h2]
    refine lx_callV (as := sxs xs i ks) (st := []) (idx := im) hM (dAt_ c9) (by rw [List.length_map]; exact c10) hg (by rw [c14]; rfl) rfl (Nat.le_of_ble_eq_true rfl) c15 c16 (show _ ≤ 601024 by omega) (show _ ≤ 7293034 by omega) (fun y g2 hy => ?_)
    exact lx_widen (by omega) (by omega) (kk y g2 hy)
  rcases hx with ⟨rfl, v, hv, hg, hM⟩ | ⟨rfl, hg, hM⟩
  · exact go 0 _ hg hM (fun y g2 hy => by obtain ⟨rfl, hI⟩ := hy; exact k0 v g2 hv hI)
  · exact go 1 _ hg hM (fun y g2 hy => by obtain ⟨⟨z, rfl⟩, ov, hI⟩ := hy; exact k1 z ov g2 hI)
/-- out[0] -/
theorem lc_out {ov : Int} (hI : Inv 0 ov h) (d1 : dAt pc (.aload_n 3) 1 = true) (d2 : dAt (pc + 1) (.iconst 0) 1 = true) (d3 : dAt (pc + 2) .laload 1 = true) (k : I64 ov → LZ G Qp b0 L0 xs cs sl (pc + 3) (lsW i 0 x6 x7) [vl ov] h) : LZ G Qp b0 L0 xs cs sl pc (lsW i 0 x6 x7) [] h := by
  obtain ⟨f, hg, rfl⟩ := hI.out
  refine lx_one (i9 := .aload_n 3) (ls' := lsW i 0 x6 x7) (st' := [vr 9 0]) rfl d1 rfl ?_
  refine lx_one (i9 := .iconst 0) (ls' := lsW i 0 x6 x7) (st' := [vi 0, vr 9 0]) rfl d2 rfl ?_
  exact lx_lald (j := 0) (dAt_ d3) hg rfl (by decide) k
def endL (p2 : Nat) (o1 o2 o3 o4 : Int) : Bool := dAt (p2 + 3) (.lstore 6) 2 && thrC (p2 + 5) o1 o2 && dAt (p2 + 21) (.aload_n 3) 1 && dAt (p2 + 22) (.iconst 0) 1 && dAt (p2 + 23) .laload 1 && dAt (p2 + 24) (.lload 6) 2 && dAt (p2 + 26) .lcmp 1 && dAt (p2 + 27) (.ifCond .eq o3) 3 && dAt (p2 + 32) (.goto o4) 3 && decide (o2 = 14) && decide (o3 = 5) && decide ((p2 : Int) + 32 + o4 = 2185)
theorem lc_opL {MZ MM : MI} {hh : List (Nat × Nat × Nat × Nat)} {ks : List Nat} {iz im p1 p2 : Nat} {o1 o2 o3 o4 : Int} (hL : L0 ≤ 3072) (hk : ∀ k ∈ ks, i + k < L0) (hT : Op G MZ hh MM I64 (fun z => vl z) (sxs xs i ks) h)
    (h1 : pc + 1 + 6 * ks.length = p1) (h2 : p1 + 7 + 6 * ks.length = p2) (hck : opC pc p1 p2 ks iz im MZ MM hh = true) (hce : endL p2 o1 o2 o3 o4 = true) (hc : cs + 50 ≤ 601024) (hs : sl + 500 ≤ 7293034)
    (nx : NX G Qp b0 L0 xs (cs + 50) (sl + 500) i) : LZ G Qp b0 L0 xs cs sl pc (lsZ i) [] h := by
  simp only [endL, Bool.and_eq_true, decide_eq_true_eq] at hce
  obtain ⟨⟨⟨⟨⟨⟨⟨⟨⟨⟨⟨d1, d2⟩, d3⟩, d4⟩, d5⟩, d6⟩, d7⟩, d8⟩, d9⟩, rfl⟩, rfl⟩, d10⟩ := hce
  have hE : ∀ th ov g r x6 x7, Inv th ov g → LZ G Qp b0 L0 xs (cs + 50) (sl + 500) (p2 + 32) (lsW i r x6 x7) [] g := fun th ov g r x6 x7 hI => lc_E hI d9 (by omega) (Nat.le_refl _) (Nat.le_refl _) nx
  refine lc_op9 hL hk hT h1 h2 hck hc hs (fun v g hv hI => ?_) (fun v ov g hI => ?_)
  · refine lx_one (i9 := .lstore 6) (ls' := lsW i 0 (some (vl v)) none) (st' := []) rfl d1 rfl ?_
    refine lc_thr (pc := p2 + 5) (E := p2 + 32) (Or.inl rfl) hI d2 (by omega) hc hs (fun _ => ?_) (hE _ _ _ _ _ _ hI)
    refine lc_out hI d3 d4 d5 (fun _ => ?_)
    refine lx_one (i9 := .lload 6) (ls' := lsW i 0 (some (vl v)) none) (st' := [vl v, vl v]) rfl d6 rfl ?_
    refine lx_lcmp (dAt_ d7) hv hv ?_
    rw [cmpI_rf]
    exact lx_if_eq (tgt := p2 + 32) (dAt_ d8) (by show ((p2 + 27 : Nat) : Int) + 5 = _; omega) z32 (fun _ => hE _ _ _ _ _ _ hI) (fun z => absurd rfl z)
  · refine lx_one (i9 := .lstore 6) (ls' := lsW i 1 (some (vl v)) none) (st' := []) rfl d1 rfl ?_
    exact lc_thr (pc := p2 + 5) (E := p2 + 32) (Or.inr rfl) hI d2 (by omega) hc hs (fun z => absurd z (by decide)) (hE _ _ _ _ _ _ hI)
def endI (p2 : Nat) (o1 o2 o3 o4 : Int) : Bool := dAt (p2 + 3) (.istore 6) 2 && thrC (p2 + 5) o1 o2 && dAt (p2 + 21) (.aload_n 3) 1 && dAt (p2 + 22) (.iconst 0) 1 && dAt (p2 + 23) .laload 1 && dAt (p2 + 24) (.iload 6) 2 && dAt (p2 + 26) .i2l 1 && dAt (p2 + 27) .lcmp 1 && dAt (p2 + 28) (.ifCond .eq o3) 3 && dAt (p2 + 33) (.goto o4) 3 && decide (o2 = 15) && decide (o3 = 5) && decide ((p2 : Int) + 33 + o4 = 2185)
theorem lc_opI {MZ MM : MI} {hh : List (Nat × Nat × Nat × Nat)} {ks : List Nat} {iz im p1 p2 : Nat} {o1 o2 o3 o4 : Int} (hL : L0 ≤ 3072) (hk : ∀ k ∈ ks, i + k < L0) (hT : Op G MZ hh MM I32 (fun z => vi z) (sxs xs i ks) h)
    (h1 : pc + 1 + 6 * ks.length = p1) (h2 : p1 + 7 + 6 * ks.length = p2) (hck : opC pc p1 p2 ks iz im MZ MM hh = true) (hce : endI p2 o1 o2 o3 o4 = true) (hc : cs + 50 ≤ 601024) (hs : sl + 500 ≤ 7293034)
    (nx : NX G Qp b0 L0 xs (cs + 50) (sl + 500) i) : LZ G Qp b0 L0 xs cs sl pc (lsZ i) [] h := by
  simp only [endI, Bool.and_eq_true, decide_eq_true_eq] at hce
  obtain ⟨⟨⟨⟨⟨⟨⟨⟨⟨⟨⟨⟨d1, d2⟩, d3⟩, d4⟩, d5⟩, d6⟩, d66⟩, d7⟩, d8⟩, d9⟩, rfl⟩, rfl⟩, d10⟩ := hce
  have hE : ∀ th ov g r x6 x7, Inv th ov g → LZ G Qp b0 L0 xs (cs + 50) (sl + 500) (p2 + 33) (lsW i r x6 x7) [] g := fun th ov g r x6 x7 hI => lc_E hI d9 (by omega) (Nat.le_refl _) (Nat.le_refl _) nx
  refine lc_op9 hL hk hT h1 h2 hck hc hs (fun v g hv hI => ?_) (fun v ov g hI => ?_)
  · have hv6 : I64 v := by constructor <;> omega
    refine lx_one (i9 := .istore 6) (ls' := lsW i 0 (some (vi v)) none) (st' := []) rfl d1 rfl ?_
    refine lc_thr (pc := p2 + 5) (E := p2 + 33) (Or.inl rfl) hI d2 (by omega) hc hs (fun _ => ?_) (hE _ _ _ _ _ _ hI)
    refine lc_out hI d3 d4 d5 (fun _ => ?_)
    refine lx_one (i9 := .iload 6) (ls' := lsW i 0 (some (vi v)) none) (st' := [vi v, vl v]) rfl d6 rfl ?_
    refine lx_i2l (dAt_ d66) hv ?_
    refine lx_lcmp (dAt_ d7) hv6 hv6 ?_
    rw [cmpI_rf]
    exact lx_if_eq (tgt := p2 + 33) (dAt_ d8) (by show ((p2 + 28 : Nat) : Int) + 5 = _; omega) z32 (fun _ => hE _ _ _ _ _ _ hI) (fun z => absurd rfl z)
  · refine lx_one (i9 := .istore 6) (ls' := lsW i 1 (some (vi v)) none) (st' := []) rfl d1 rfl ?_
    exact lc_thr (pc := p2 + 5) (E := p2 + 33) (Or.inr rfl) hI d2 (by omega) hc hs (fun z => absurd z (by decide)) (hE _ _ _ _ _ _ hI)
def endB (p2 : Nat) (o1 o2 o3 o4 o5 o6 : Int) : Bool := dAt (p2 + 3) (.istore 6) 2 && thrC (p2 + 5) o1 o2 && dAt (p2 + 21) (.aload_n 3) 1 && dAt (p2 + 22) (.iconst 0) 1 && dAt (p2 + 23) .laload 1 && dAt (p2 + 24) (.iload 6) 2 && dAt (p2 + 26) (.ifCond .eq o5) 3 && dAt (p2 + 29) (.lconst 1) 1 && dAt (p2 + 30) (.goto o6) 3 && dAt (p2 + 33) (.lconst 0) 1 && dAt (p2 + 34) .lcmp 1 && dAt (p2 + 35) (.ifCond .eq o3) 3 && dAt (p2 + 40) (.goto o4) 3 && decide (o2 = 22) && decide (o3 = 5) && decide (o5 = 7) && decide (o6 = 4) && decide ((p2 : Int) + 40 + o4 = 2185)
theorem lc_opB {MZ MM : MI} {hh : List (Nat × Nat × Nat × Nat)} {ks : List Nat} {iz im p1 p2 : Nat} {o1 o2 o3 o4 o5 o6 : Int} (hL : L0 ≤ 3072) (hk : ∀ k ∈ ks, i + k < L0) (hT : Op G MZ hh MM I01 (fun z => vi z) (sxs xs i ks) h)
    (h1 : pc + 1 + 6 * ks.length = p1) (h2 : p1 + 7 + 6 * ks.length = p2) (hck : opC pc p1 p2 ks iz im MZ MM hh = true) (hce : endB p2 o1 o2 o3 o4 o5 o6 = true) (hc : cs + 50 ≤ 601024) (hs : sl + 500 ≤ 7293034)
    (nx : NX G Qp b0 L0 xs (cs + 50) (sl + 500) i) : LZ G Qp b0 L0 xs cs sl pc (lsZ i) [] h := by
  simp only [endB, Bool.and_eq_true, decide_eq_true_eq] at hce
  obtain ⟨⟨⟨⟨⟨⟨⟨⟨⟨⟨⟨⟨⟨⟨⟨⟨⟨d1, d2⟩, d3⟩, d4⟩, d5⟩, d6⟩, d66⟩, d67⟩, d68⟩, d69⟩, d7⟩, d8⟩, d9⟩, rfl⟩, rfl⟩, rfl⟩, rfl⟩, d10⟩ := hce
  have hE : ∀ th ov g r x6 x7, Inv th ov g → LZ G Qp b0 L0 xs (cs + 50) (sl + 500) (p2 + 40) (lsW i r x6 x7) [] g := fun th ov g r x6 x7 hI => lc_E hI d9 (by omega) (Nat.le_refl _) (Nat.le_refl _) nx
  refine lc_op9 hL hk hT h1 h2 hck hc hs (fun v g hv hI => ?_) (fun v ov g hI => ?_)
  · have hv3 : I32 v := by constructor <;> omega
    have hv6 : I64 v := by constructor <;> omega
    have fin : LZ G Qp b0 L0 xs (cs + 50) (sl + 500) (p2 + 34) (lsW i 0 (some (vi v)) none) [vl v, vl v] g := by
      refine lx_lcmp (dAt_ d7) hv6 hv6 ?_
      rw [cmpI_rf]
      exact lx_if_eq (tgt := p2 + 40) (dAt_ d8) (by show ((p2 + 35 : Nat) : Int) + 5 = _; omega) z32 (fun _ => hE _ _ _ _ _ _ hI) (fun z => absurd rfl z)
    refine lx_one (i9 := .istore 6) (ls' := lsW i 0 (some (vi v)) none) (st' := []) rfl d1 rfl ?_
    refine lc_thr (pc := p2 + 5) (E := p2 + 40) (Or.inl rfl) hI d2 (by omega) hc hs (fun _ => ?_) (hE _ _ _ _ _ _ hI)
    refine lc_out hI d3 d4 d5 (fun _ => ?_)
    refine lx_one (i9 := .iload 6) (ls' := lsW i 0 (some (vi v)) none) (st' := [vi v, vl v]) rfl d6 rfl ?_
    refine lx_if_eq (tgt := p2 + 33) (dAt_ d66) (by show ((p2 + 26 : Nat) : Int) + 7 = _; omega) hv3 (fun z => ?_) (fun z => ?_)
    · subst z
      exact lx_one (i9 := .lconst 0) (ls' := lsW i 0 (some (vi 0)) none) (st' := [vl 0, vl 0]) rfl d69 rfl fin
    · obtain rfl : v = 1 := by omega
      refine lx_one (i9 := .lconst 1) (ls' := lsW i 0 (some (vi 1)) none) (st' := [vl 1, vl 1]) rfl d67 rfl ?_
      exact lx_goto (tgt := p2 + 34) (dAt_ d68) (by show ((p2 + 30 : Nat) : Int) + 4 = _; omega) fin
  · refine lx_one (i9 := .istore 6) (ls' := lsW i 1 (some (vi v)) none) (st' := []) rfl d1 rfl ?_
    exact lc_thr (pc := p2 + 5) (E := p2 + 40) (Or.inr rfl) hI d2 (by omega) hc hs (fun z => absurd z (by decide)) (hE _ _ _ _ _ _ hI)
end
