/-! the law's loop -/
section
variable {G : GT} {Qp : QT} {b0 L0 : Nat} {xs : Nat → Int32} {cs sl i : Nat} {h : HT} {th ov : Int}
def swO : Array Int := #[160, 233, 258, 307, 356, 445, 494, 543, 604, 665, 738, 799, 812, 825, 850, 918, 997, 1076, 1143, 1210, 1289, 1368, 1405, 1442, 1455, 1504, 1583, 1651, 1738, 1817, 1873, 1886, 1935, 2015, 2094, 2120]
theorem sw_d : dAt 40 (.tableswitch 2145 0 35 swO) 160 = true := by decide +kernel
theorem lc_sw {a : Int} (ha : 0 ≤ a ∧ a < 64) (hL : L0 ≤ 3072) (hk : i + 5 < L0) (hI : Inv th ov h) (hc : cs + 50 ≤ 601024) (hs : sl + 500 ≤ 7293034) (nx : NX G Qp b0 L0 xs (cs + 50) (sl + 500) i) : LZ G Qp b0 L0 xs cs sl 40 (lsZ i) [vi a] h := by
  have hi : I32 a := by constructor <;> omega
  by_cases hz : a ≤ 35
  · obtain ⟨n, rfl⟩ : ∃ n : Nat, a = (n : Int) := ⟨a.toNat, by omega⟩
    have hn : n = 0 ∨ n = 1 ∨ n = 2 ∨ n = 3 ∨ n = 4 ∨ n = 5 ∨ n = 6 ∨ n = 7 ∨ n = 8 ∨ n = 9 ∨ n = 10 ∨ n = 11 ∨ n = 12 ∨ n = 13 ∨ n = 14 ∨ n = 15 ∨ n = 16 ∨ n = 17 ∨ n = 18 ∨ n = 19 ∨ n = 20 ∨ n = 21 ∨ n = 22 ∨ n = 23 ∨ n = 24 ∨ n = 25 ∨ n = 26 ∨ n = 27 ∨ n = 28 ∨ n = 29 ∨ n = 30 ∨ n = 31 ∨ n = 32 ∨ n = 33 ∨ n = 34 ∨ n = 35 := by omega
    rcases hn with rfl | rfl | rfl | rfl | rfl | rfl | rfl | rfl | rfl | rfl | rfl | rfl | rfl | rfl | rfl | rfl | rfl | rfl | rfl | rfl | rfl | rfl | rfl | rfl | rfl | rfl | rfl | rfl | rfl | rfl | rfl | rfl | rfl | rfl | rfl | rfl
    · exact lx_tabIn (tgt := 200) (o := 160) (dAt_ sw_d) hi (by decide) (by decide) (by decide +kernel) (by decide) (k_0 hL hk hI hc hs nx)
    · exact lx_tabIn (tgt := 273) (o := 233) (dAt_ sw_d) hi (by decide) (by decide) (by decide +kernel) (by decide) (k_1 hL hk hI hc hs nx)
    · exact lx_tabIn (tgt := 298) (o := 258) (dAt_ sw_d) hi (by decide) (by decide) (by decide +kernel) (by decide) (k_2 hL hk hI hc hs nx)
    · exact lx_tabIn (tgt := 347) (o := 307) (dAt_ sw_d) hi (by decide) (by decide) (by decide +kernel) (by decide) (k_3 hL hk hI hc hs nx)
    · exact lx_tabIn (tgt := 396) (o := 356) (dAt_ sw_d) hi (by decide) (by decide) (by decide +kernel) (by decide) (k_4 hL hk hI hc hs nx)
    · exact lx_tabIn (tgt := 485) (o := 445) (dAt_ sw_d) hi (by decide) (by decide) (by decide +kernel) (by decide) (k_5 hL hk hI hc hs nx)
    · exact lx_tabIn (tgt := 534) (o := 494) (dAt_ sw_d) hi (by decide) (by decide) (by decide +kernel) (by decide) (k_6 hL hk hI hc hs nx)
    · exact lx_tabIn (tgt := 583) (o := 543) (dAt_ sw_d) hi (by decide) (by decide) (by decide +kernel) (by decide) (k_7 hL hk hI hc hs nx)
    · exact lx_tabIn (tgt := 644) (o := 604) (dAt_ sw_d) hi (by decide) (by decide) (by decide +kernel) (by decide) (k_8 hL hk hI hc hs nx)
    · exact lx_tabIn (tgt := 705) (o := 665) (dAt_ sw_d) hi (by decide) (by decide) (by decide +kernel) (by decide) (k_9 hL hk hI hc hs nx)
    · exact lx_tabIn (tgt := 778) (o := 738) (dAt_ sw_d) hi (by decide) (by decide) (by decide +kernel) (by decide) (k_10 hL hk hI hc hs nx)
    · exact lx_tabIn (tgt := 839) (o := 799) (dAt_ sw_d) hi (by decide) (by decide) (by decide +kernel) (by decide) (k_11 hL hk hI hc hs nx)
    · exact lx_tabIn (tgt := 852) (o := 812) (dAt_ sw_d) hi (by decide) (by decide) (by decide +kernel) (by decide) (k_12 hL hk hI hc hs nx)
    · exact lx_tabIn (tgt := 865) (o := 825) (dAt_ sw_d) hi (by decide) (by decide) (by decide +kernel) (by decide) (k_13 hL hk hI hc hs nx)
    · exact lx_tabIn (tgt := 890) (o := 850) (dAt_ sw_d) hi (by decide) (by decide) (by decide +kernel) (by decide) (k_14 hL hk hI hc hs nx)
    · exact lx_tabIn (tgt := 958) (o := 918) (dAt_ sw_d) hi (by decide) (by decide) (by decide +kernel) (by decide) (k_15 hL hk hI hc hs nx)
    · exact lx_tabIn (tgt := 1037) (o := 997) (dAt_ sw_d) hi (by decide) (by decide) (by decide +kernel) (by decide) (k_16 hL hk hI hc hs nx)
    · exact lx_tabIn (tgt := 1116) (o := 1076) (dAt_ sw_d) hi (by decide) (by decide) (by decide +kernel) (by decide) (k_17 hL hk hI hc hs nx)
    · exact lx_tabIn (tgt := 1183) (o := 1143) (dAt_ sw_d) hi (by decide) (by decide) (by decide +kernel) (by decide) (k_18 hL hk hI hc hs nx)
    · exact lx_tabIn (tgt := 1250) (o := 1210) (dAt_ sw_d) hi (by decide) (by decide) (by decide +kernel) (by decide) (k_19 hL hk hI hc hs nx)
    · exact lx_tabIn (tgt := 1329) (o := 1289) (dAt_ sw_d) hi (by decide) (by decide) (by decide +kernel) (by decide) (k_20 hL hk hI hc hs nx)
    · exact lx_tabIn (tgt := 1408) (o := 1368) (dAt_ sw_d) hi (by decide) (by decide) (by decide +kernel) (by decide) (k_21 hL hk hI hc hs nx)
    · exact lx_tabIn (tgt := 1445) (o := 1405) (dAt_ sw_d) hi (by decide) (by decide) (by decide +kernel) (by decide) (k_22 hL hk hI hc hs nx)
    · exact lx_tabIn (tgt := 1482) (o := 1442) (dAt_ sw_d) hi (by decide) (by decide) (by decide +kernel) (by decide) (k_23 hL hk hI hc hs nx)
    · exact lx_tabIn (tgt := 1495) (o := 1455) (dAt_ sw_d) hi (by decide) (by decide) (by decide +kernel) (by decide) (k_24 hL hk hI hc hs nx)
    · exact lx_tabIn (tgt := 1544) (o := 1504) (dAt_ sw_d) hi (by decide) (by decide) (by decide +kernel) (by decide) (k_25 hL hk hI hc hs nx)
    · exact lx_tabIn (tgt := 1623) (o := 1583) (dAt_ sw_d) hi (by decide) (by decide) (by decide +kernel) (by decide) (k_26 hL hk hI hc hs nx)
    · exact lx_tabIn (tgt := 1691) (o := 1651) (dAt_ sw_d) hi (by decide) (by decide) (by decide +kernel) (by decide) (k_27 hL hk hI hc hs nx)
    · exact lx_tabIn (tgt := 1778) (o := 1738) (dAt_ sw_d) hi (by decide) (by decide) (by decide +kernel) (by decide) (k_28 hL hk hI hc hs nx)
    · exact lx_tabIn (tgt := 1857) (o := 1817) (dAt_ sw_d) hi (by decide) (by decide) (by decide +kernel) (by decide) (k_29 hL hk hI hc hs nx)
    · exact lx_tabIn (tgt := 1913) (o := 1873) (dAt_ sw_d) hi (by decide) (by decide) (by decide +kernel) (by decide) (k_30 hL hk hI hc hs nx)
    · exact lx_tabIn (tgt := 1926) (o := 1886) (dAt_ sw_d) hi (by decide) (by decide) (by decide +kernel) (by decide) (k_31 hL hk hI hc hs nx)
    · exact lx_tabIn (tgt := 1975) (o := 1935) (dAt_ sw_d) hi (by decide) (by decide) (by decide +kernel) (by decide) (k_32 hL hk hI hc hs nx)
    · exact lx_tabIn (tgt := 2055) (o := 2015) (dAt_ sw_d) hi (by decide) (by decide) (by decide +kernel) (by decide) (k_33 hL hk hI hc hs nx)
    · exact lx_tabIn (tgt := 2134) (o := 2094) (dAt_ sw_d) hi (by decide) (by decide) (by decide +kernel) (by decide) (k_34 hL hk hI hc hs nx)
    · exact lx_tabIn (tgt := 2160) (o := 2120) (dAt_ sw_d) hi (by decide) (by decide) (by decide +kernel) (by decide) (k_35 hL hk hI hc hs nx)
  · exact lx_tabOut (tgt := 2185) (dAt_ sw_d) hi (Or.inr (by omega)) (by decide) (lx_widen (by omega) (by omega) (nx _ _ _ hI))
theorem lc_head (hL : L0 ≤ 3072) (hi : i ≤ 4000) (k1 : i + 6 ≤ L0 → LZ G Qp b0 L0 xs cs sl 33 (lsZ i) [] h) (k2 : LZ G Qp b0 L0 xs cs sl 2191 (lsZ i) [] h) : LZ G Qp b0 L0 xs cs sl 23 (lsZ i) [] h := by
  refine lx_one (i9 := .iload 4) (ls' := lsZ i) (st' := [vi (i : Int)]) rfl (by decide +kernel) rfl ?_
  show LZ G Qp b0 L0 xs cs sl 25 (lsZ i) [vi (i : Int)] h
  refine lx_slen (dAt_ (pc := 25) (by decide +kernel)) (dAt_ (pc := 26) (by decide +kernel)) ?_
  refine lx_one (i9 := .bipush 6) (ls' := lsZ i) (st' := [vi 6, vi (L0 : Int), vi (i : Int)]) rfl (by decide +kernel) rfl ?_
  refine lx_one (i9 := .isub) (ls' := lsZ i) (st' := [vi ((L0 : Int) - 6), vi (i : Int)]) rfl (by decide +kernel) rfl ?_
  show LZ G Qp b0 L0 xs cs sl 30 (lsZ i) [vi ((L0 : Int) - 6), vi (i : Int)] h
  exact lx_icmp_gt (pc := 30) (tgt := 2191) (o := 2161) (dAt_ (by decide +kernel)) (by decide) (by constructor <;> omega) (by constructor <;> omega) (fun _ => k2) (fun z => k1 (by omega))
theorem lc_load (hL : L0 ≤ 3072) (hk : i + 6 ≤ L0) (hI : Inv th ov h) (hc : cs + 50 ≤ 601024) (hs : sl + 500 ≤ 7293034) (nx : NX G Qp b0 L0 xs (cs + 50) (sl + 500) i) : LZ G Qp b0 L0 xs cs sl 33 (lsZ i) [] h := by
  refine lx_sld0 (j := i) (dAt_ (pc := 33) (by decide +kernel)) (dAt_ (pc := 34) (by decide +kernel)) (dAt_ (pc := 36) (by decide +kernel)) rfl (by omega) (by omega) ?_
  refine lx_one (i9 := .bipush 63) (ls' := lsZ i) (st' := [vi 63, vi (xs i).toInt]) rfl (by decide +kernel) rfl ?_
  show LZ G Qp b0 L0 xs cs sl 39 (lsZ i) [vi 63, vi (xs i).toInt] h
  refine lx_and (p9 := 64) 6 (dAt_ (pc := 39) (by decide +kernel)) (by decide) (by decide +kernel) (by decide) ?_
  exact lc_sw (by omega) hL (by omega) hI hc hs nx
theorem lc_loop (hL : L0 ≤ 3072) (kend : ∀ (i : Nat) (h : HT) (cs sl : Nat), cs ≤ 601024 → sl ≤ 7293034 → LZ G Qp b0 L0 xs cs sl 2191 (lsZ i) [] h) : ∀ (n i cs sl : Nat) (th ov : Int) (h : HT), L0 - i ≤ n → i ≤ 4000 → Inv th ov h → cs + 9 * (L0 - i) ≤ 601024 → sl + 90 * (L0 - i) ≤ 7293034 → LZ G Qp b0 L0 xs cs sl 23 (lsZ i) [] h := by
  intro n
  induction n with
  | zero =>
    intro i cs sl th ov h hn hi hI hc hs
    exact lc_head hL hi (fun z => absurd z (by omega)) (kend i h cs sl (by omega) (by omega))
  | succ n ih =>
    intro i cs sl th ov h hn hi hI hc hs
    refine lc_head hL hi (fun z => ?_) (kend i h cs sl (by omega) (by omega))
    refine lc_load hL z hI (by omega) (by omega) (fun th2 ov2 h2 hI2 => ?_)
    refine lx_one (i9 := .iinc 4 6) (ls' := [none, some (vr 0 0), some (vr 8 0), some (vr 9 0), some (vi ((i : Int) + 6)), none, none, none]) (st' := []) rfl (by decide +kernel) rfl ?_
    rw [show ((i : Int) + 6) = ((i + 6 : Nat) : Int) by omega]
    show LZ G Qp b0 L0 xs (cs + 50) (sl + 500) 2188 (lsZ (i + 6)) [] h2
    refine lx_goto (tgt := 23) (o := -2165) (dAt_ (by decide +kernel)) (by decide) ?_
    exact ih (i + 6) (cs + 50) (sl + 500) th2 ov2 h2 (by omega) (by omega) hI2 (by omega) (by omega)
end
