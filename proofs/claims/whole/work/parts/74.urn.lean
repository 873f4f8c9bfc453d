section
variable {G : GT} {Qp : QT} {b0 L0 : Nat} {xs : Nat → Int32} {cs sl pc i : Nat} {ls : LSt} {st : List AV} {h : HT} {th ov o : Int}
def bitC (pc : Nat) : Bool := dAt pc (.ifCond .eq 7) 3 && dAt (pc + 3) (.iconst 1) 1 && dAt (pc + 4) (.goto 4) 3 && dAt (pc + 7) (.iconst 0) 1
theorem lc_bit {a : Int} (ha : I32 a) (hck : bitC pc = true) (k : LZ G Qp b0 L0 xs cs sl (pc + 8) ls (vi (if a = 0 then 0 else 1) :: st) h) : LZ G Qp b0 L0 xs cs sl pc ls (vi a :: st) h := by
  simp only [bitC, Bool.and_eq_true] at hck
  obtain ⟨⟨⟨c1, c2⟩, c3⟩, c4⟩ := hck
  refine lx_if_eq (tgt := pc + 7) (dAt_ c1) (by omega) ha (fun z => ?_) (fun z => ?_)
  · rw [if_pos z] at k
    exact lx_one (i9 := .iconst 0) (ls' := ls) (st' := vi 0 :: st) rfl c4 rfl k
  · rw [if_neg z] at k
    refine lx_one (i9 := .iconst 1) (ls' := ls) (st' := vi 1 :: st) rfl c2 rfl ?_
    exact lx_goto (tgt := pc + 8) (dAt_ c3) (by show ((pc + 4 : Nat) : Int) + 4 = _; omega) k
def urnC (pc p1 p2 : Nat) (ib im : Nat) : Bool := dAt pc (.aload_n 1) 1 && sldN (pc + 1) [1, 2, 3, 4, 5] && bitC p1 && dAt (p1 + 8) (.invokevirtual ib) 3 && vOK "ChanceBenchLaw" ib M_B_urn 5 && dAt (p1 + 11) (.aload_n 2) 1 && sldN (p1 + 12) [1, 2, 3, 4, 5] && bitC p2 && dAt (p2 + 8) (.invokevirtual im) 3 && vOK "ChanceBenchLaw" im M_M_urn 5 && mOK M_B_urn "ChanceBench" && mOK M_M_urn "ChanceBenchModel" && decide (M_B_urn.2.2.2.2.2.1 + M_M_urn.2.2.2.2.2.1 ≤ 50) && decide (M_B_urn.2.2.2.2.2.2 + M_M_urn.2.2.2.2.2.2 ≤ 500)
theorem lc_urn {p1 p2 ib im : Nat} (hL : L0 ≤ 3072) (hk : i + 5 < L0) (hI : Inv th ov h) (h1 : pc + 31 = p1) (h2 : p1 + 42 = p2) (hck : urnC pc p1 p2 ib im = true) (hd : dAt (p2 + 11) (.if_icmp .eq o) 3 = true) (ho : ((p2 + 11 : Nat) : Int) + o = ((2185 : Nat) : Int)) (hc : cs + 50 ≤ 601024) (hs : sl + 500 ≤ 7293034)
    (nx : NX G Qp b0 L0 xs (cs + 50) (sl + 500) i) : LZ G Qp b0 L0 xs cs sl pc (lsZ i) [] h := by
  simp only [urnC, mOK, Bool.and_eq_true, decide_eq_true_eq] at hck
  obtain ⟨⟨⟨⟨⟨⟨⟨⟨⟨⟨⟨⟨⟨c1, c2⟩, b1⟩, c3⟩, c4⟩, c5⟩, c6⟩, b2⟩, c7⟩, c8⟩, ⟨c9, c10⟩, c11⟩, ⟨c12, c13⟩, c14⟩, c15⟩, c16⟩ := hck
  subst h1
  subst h2
  have e15 : M_B_urn.2.2.2.2.2.1 + M_M_urn.2.2.2.2.2.1 ≤ 50 := by decide
  have e16 : M_B_urn.2.2.2.2.2.2 + M_M_urn.2.2.2.2.2.2 ≤ 500 := by decide
  obtain ⟨fs0, hg0⟩ := hI.g0
  have hT : Two G M_B_urn M_M_urn [vi (sx xs i 1), vi (sx xs i 2), vi (sx xs i 3), vi (sx xs i 4), vi (if sx xs i 5 = 0 then 0 else 1)] h := by
    obtain ⟨bd, tk, laws, slot, ahead, made, od, dn, un, len, nn, ft, rr, ff, gg, l0, D0, B0, js, wh, fa, fb, fw, fl, sl_, l9, W0, lv, op, r9, dd, l8, fd, f1, f2, kp, fi, se, ta, tl, by9, xtp, xwg, xwh, xmd, xsl, xhw, xhs, xhd, xha, xp1, xp2, xp3, xl1, xl2, xrt, xlf, xdc, xhn, xsu, fo9, dy, hT, hS, hJ, hD, hI2, he, rfl⟩ := hI
    exact two_urn hT hS hJ hD hI2 sx_I sx_I sx_I sx_I (by split <;> omega)
  have hks : ∀ k ∈ [1, 2, 3, 4, 5], i + k < L0 := fun k hk9 => by simp at hk9; omega
  refine lx_one (i9 := .aload_n 1) (ls' := lsZ i) (st' := [vr 0 0]) rfl c1 rfl ?_
  refine lx_slds hL rfl [1, 2, 3, 4, 5] (pc + 1) _ c2 hks ?_
  refine lc_bit (pc := pc + 31) (a := sx xs i 5) (st := [vi (sx xs i 4), vi (sx xs i 3), vi (sx xs i 2), vi (sx xs i 1), vr 0 0]) sx_I b1 ?_
  refine lx_callV (as := [vi (sx xs i 1), vi (sx xs i 2), vi (sx xs i 3), vi (sx xs i 4), vi (if sx xs i 5 = 0 then 0 else 1)]) (st := []) (idx := ib) hT (dAt_ c3) c4 hg0 rfl rfl (Nat.le_of_ble_eq_true rfl) c10 c11 (show _ ≤ 601024 by omega) (show _ ≤ 7293034 by omega) (fun x g hx => ?_)
  obtain ⟨r, hr, rfl, ⟨fs, hg⟩, hM⟩ := hx
  refine lx_one (i9 := .aload_n 2) (ls' := lsZ i) (st' := [vr 8 0, vi r]) rfl c5 rfl ?_
  refine lx_slds hL rfl [1, 2, 3, 4, 5] (pc + 31 + 12) _ c6 hks ?_
  refine lc_bit (pc := pc + 31 + 42) (a := sx xs i 5) (st := [vi (sx xs i 4), vi (sx xs i 3), vi (sx xs i 2), vi (sx xs i 1), vr 8 0, vi r]) sx_I b2 ?_
  refine lx_callV (as := [vi (sx xs i 1), vi (sx xs i 2), vi (sx xs i 3), vi (sx xs i 4), vi (if sx xs i 5 = 0 then 0 else 1)]) (st := [vi r]) (idx := im) hM (dAt_ c7) c8 hg rfl rfl (Nat.le_of_ble_eq_true rfl) c13 c14 (show _ ≤ 601024 by omega) (show _ ≤ 7293034 by omega) (fun y g2 hy => ?_)
  obtain ⟨rfl, ov2, hI2⟩ := hy
  exact lx_icmp_eq (dAt_ hd) ho hr hr (fun _ => lx_widen (by omega) (by omega) (nx _ _ _ hI2)) (fun z => absurd rfl z)
end
