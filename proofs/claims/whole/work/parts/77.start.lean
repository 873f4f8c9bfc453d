/-! the law's entry -/
section
variable {G : GT} {Qp : QT} {b0 L0 : Nat} {xs : Nat → Int32}
abbrev h00 : HT := (0, [[], [], [], [], [], [], [], [], [], []])
abbrev f00 : Nat → Int := fun _ => 0
abbrev hZ0 : HT := Hp (sgB 5000 0) (sgS (fun _ => none) f00 (fun _ => none) (fun _ => none) ((0 : Nat) : Int) ((0 : Nat) : Int) ((0 : Nat) : Int)) (sgT ((0 : Nat) : Int) f00) (sgK ((0 : Nat) : Int) 0 f00 f00) (sgF 0 f00 f00) (sgJ ((([] : List T3).length : Nat) : Int) 1 f00 f00 f00 f00 f00) (sgR 0 1 0 0 f00 f00) (sgD ((0 : Nat) : Int) 0 0 0 f00 f00 f00 f00 f00) (sgM 0 ((0 : Nat) : Int) 0 ((0 : Nat) : Int) ((0 + 0 : Nat) : Int) 5000 ((([] : List T3).length : Nat) : Int) 1 0 0 0 0 f00 f00 f00 f00 f00 f00 f00 f00 f00 f00 f00 f00 f00 f00 f00 f00 f00 f00 f00) [some (ar 1 1 f00)]
theorem inv0 : Inv 0 0 hZ0 := by
  refine ⟨5000, 0, fun _ => none, f00, fun _ => none, fun _ => none, 0, 0, 0, 0, 0, f00, 0, f00, f00, 0, f00, f00, [], 1, f00, f00, f00, f00, f00, 0, 1, 0, 0, f00, f00, 0, 0, 0, 0, f00, f00, f00, f00, f00, 0, f00, f00, f00, f00, f00, f00, f00, f00, f00, f00, f00, f00, f00, f00, f00, f00, f00, f00, f00, f00, [], ?_, ?_, ?_, ?_, ?_, rfl, rfl⟩
  · exact ⟨by omega, fun j => ⟨⟨Int.le_refl 0, show (0 : Int) ≤ 255 by decide⟩, rfl⟩⟩
  · exact ⟨⟨by omega, by omega, fun i => ⟨Int.le_refl 0, show (0 : Int) < 16 by decide⟩, (fun i x hx => nomatch hx), (fun i x hx => nomatch hx), (fun i x hx => nomatch hx)⟩, fun a _ => rfl, fun i hi => absurd hi (by omega)⟩
  · exact ⟨Nat.zero_le _, (fun k x hx => nomatch hx), (fun k x hx => nomatch hx), ⟨⟨by decide, by decide⟩, fun x hx => nomatch hx⟩⟩
  · exact ⟨⟨⟨by decide, by decide⟩, ⟨by decide, by decide⟩, by decide, by decide⟩, fun i d hi => absurd hi (by omega)⟩
  · exact ⟨by constructor <;> decide, by constructor <;> decide⟩
theorem lc_start (hL : L0 ≤ 3072) (kend : ∀ (i : Nat) (h : HT) (cs sl : Nat), cs ≤ 601024 → sl ≤ 7293034 → LZ G Qp b0 L0 xs cs sl 2191 (lsZ i) [] h) : LZ G Qp b0 L0 xs 0 0 0 [none, none, none, none, none, none, none, none] [] h00 := by
  refine lx_new (s := 0) (n := 0) (ci := 0) (N := 9) (idx := 8) (dAt_ (by decide +kernel)) (by decide +kernel) rfl rfl ⟨by decide, by decide⟩ rfl (by decide) (by decide) (h' := (1, [[some (ob 0 [vn, vn, vn, vn, vn, vn, vn, vi 0, vi 0])], [], [], [], [], [], [], [], [], []])) rfl ?_
  refine lx_one (i9 := .dup) (ls' := [none, none, none, none, none, none, none, none]) (st' := [vr 0 0, vr 0 0]) rfl (by decide +kernel) rfl ?_
  refine lx_callI (as := []) (st := [vr 0 0]) (idx := 59) m_B_init (dAt_ (by decide +kernel)) (by decide +kernel) rfl (Nat.le_of_ble_eq_true rfl) (by decide) (by decide) (by decide) (by decide) (fun x g hx => ?_)
  obtain ⟨rfl, rfl⟩ := hx
  refine lx_one (i9 := .astore_n 1) (ls' := [none, some (vr 0 0), none, none, none, none, none, none]) (st' := []) rfl (by decide +kernel) rfl ?_
  refine lx_new (s := 8) (n := 0) (ci := 8) (N := 31) (idx := 60) (dAt_ (by decide +kernel)) (by decide +kernel) rfl rfl ⟨by decide, by decide⟩ rfl (by decide) (by decide) rfl ?_
  refine lx_one (i9 := .dup) (ls' := [none, some (vr 0 0), none, none, none, none, none, none]) (st' := [vr 8 0, vr 8 0]) rfl (by decide +kernel) rfl ?_
  refine lx_callI (as := []) (st := [vr 8 0]) (idx := 62) m_M_init (dAt_ (by decide +kernel)) (by decide +kernel) rfl (Nat.le_of_ble_eq_true rfl) (by decide) (by decide) (by decide) (by decide) (fun x g hx => ?_)
  obtain ⟨rfl, rfl⟩ := hx
  refine lx_one (i9 := .astore_n 2) (ls' := [none, some (vr 0 0), some (vr 8 0), none, none, none, none, none]) (st' := []) rfl (by decide +kernel) rfl ?_
  refine lx_one (i9 := .iconst 1) (ls' := [none, some (vr 0 0), some (vr 8 0), none, none, none, none, none]) (st' := [vi 1]) rfl (by decide +kernel) rfl ?_
  refine lx_newa (s := 9) (n := 0) (t := 1) (N := 1) (dAt_ (by decide +kernel)) (by decide) (by decide +kernel) rfl (by decide) rfl ⟨by decide, by decide⟩ rfl (by decide) (by decide) (h' := hZ0) rfl ?_
  refine lx_one (i9 := .astore_n 3) (ls' := [none, some (vr 0 0), some (vr 8 0), some (vr 9 0), none, none, none, none]) (st' := []) rfl (by decide +kernel) rfl ?_
  refine lx_one (i9 := .iconst 0) (ls' := [none, some (vr 0 0), some (vr 8 0), some (vr 9 0), none, none, none, none]) (st' := [vi 0]) rfl (by decide +kernel) rfl ?_
  refine lx_one (i9 := .istore 4) (ls' := lsZ 0) (st' := []) rfl (by decide +kernel) rfl ?_
  refine lx_widen (k := 500000) (n9 := 7000000) (by decide) (by decide) ?_
  exact lc_loop hL kend L0 0 500000 7000000 0 0 hZ0 (by omega) (by omega) inv0 (by omega) (by omega)
end
