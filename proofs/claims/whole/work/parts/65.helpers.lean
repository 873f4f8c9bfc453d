theorem okX0 : okX [] := fun q hq => absurd hq List.not_mem_nil
section
variable {G : GT} {h : HT} {a c d : Int} {P : Int → HT → Prop} {Qx : HT → Prop} {fs : List AV}
theorem h_value (h0 : hget h 0 0 = some (ob 0 fs)) (hB : AMet G M_B_value (vr 0 0 :: [vi a, vi c]) h (fun r g => ∃ v, r = some (vi v) ∧ I32 v ∧ ∃ b s t mk df jo tr di mo f dy, g = Hp b s t mk df jo tr di mo (some (ar 1 1 f) :: dy) ∧ P v (Hp b s t mk df jo tr di mo (some (ar 1 1 (va_up f 0 v)) :: dy))) Qx) : AHet G M_Z_value [(0, 10, 13, 13)] (vr 0 0 :: [vi a, vi c] ++ [vr 9 0]) h (fun x g => (x = some (vi 0) ∧ ∃ v, P v g) ∨ (x = some (vi 1) ∧ Qx g)) := by
  refine ah_entry (by decide +kernel) (Nat.le_of_ble_eq_true rfl) ?_
  refine lx_blk okX0 (pc' := 5) (ls' := [some (vr 0 0), some (vi a), some (vi c), some (vr 9 0), none]) (st' := [vi c, vi a, vr 0 0, vi 0, vr 9 0]) [.aload_n 3, .iconst 0, .aload_n 0, .iload_n 1, .iload_n 2] 0 _ _ (by decide +kernel) rfl ?_
  refine lx_callC (x := ⟨0, 10, 13, 13⟩) (ka := 4) (ln := 2) (ia := .astore 4) (idx := 7) (as := [vi a, vi c]) (st := [vi 0, vr 9 0]) hB (by decide +kernel) (show vOK "ChanceBenchLaw" 7 M_B_value 2 = true by decide +kernel) h0 rfl rfl (Nat.le_of_ble_eq_true rfl) (by decide) (by decide) (by decide) (by decide) (fun s args c z => z) (by decide) (by decide) (by decide +kernel) (by decide +kernel) (by decide +kernel) (Or.inl ⟨rfl, rfl⟩) okX0 (by decide) (by decide) rfl (fun z hz => by simp at hz) (fun g hg => ?_) (fun r g hg => ?_)
  · refine lx_blk okX0 (pc' := 16) (ls' := [some (vr 0 0), some (vi a), some (vi c), some (vr 9 0), none]) (st' := [vi 1]) [.iconst 1] 15 _ _ (by decide +kernel) rfl ?_
    exact lx_iretH (by decide +kernel) rfl (by decide) (by decide) (Or.inr ⟨rfl, hg⟩)
  · obtain ⟨v, rfl, hv, b, s, t, mk, df, jo, tr, di, mo, f, dy, rfl, hP⟩ := hg
    refine lx_i2l (by decide +kernel) hv ?_
    refine lx_last (j := 0) (h' := Hp b s t mk df jo tr di mo (some (ar 1 1 (va_up f 0 v)) :: dy)) (by decide +kernel) rfl rfl (by decide) (by constructor <;> omega) rfl ?_
    refine lx_goto (o := 7) (tgt := 17) (by decide +kernel) (by decide) ?_
    refine lx_blk okX0 (pc' := 18) (ls' := [some (vr 0 0), some (vi a), some (vi c), some (vr 9 0), none]) (st' := [vi 0]) [.iconst 0] 17 _ _ (by decide +kernel) rfl ?_
    exact lx_iretH (by decide +kernel) rfl (by decide) (by decide) (Or.inl ⟨rfl, v, hP⟩)
theorem h_chance (h0 : hget h 0 0 = some (ob 0 fs)) (hB : AMet G M_B_chance (vr 0 0 :: [vi a, vi c, vi d]) h (fun r g => ∃ v, r = some (vl v) ∧ I64 v ∧ ∃ b s t mk df jo tr di mo f dy, g = Hp b s t mk df jo tr di mo (some (ar 1 1 f) :: dy) ∧ P v (Hp b s t mk df jo tr di mo (some (ar 1 1 (va_up f 0 v)) :: dy))) Qx) : AHet G M_Z_chance [(0, 11, 14, 13)] (vr 0 0 :: [vi a, vi c, vi d] ++ [vr 9 0]) h (fun x g => (x = some (vi 0) ∧ ∃ v, P v g) ∨ (x = some (vi 1) ∧ Qx g)) := by
  refine ah_entry (by decide +kernel) (Nat.le_of_ble_eq_true rfl) ?_
  refine lx_blk okX0 (pc' := 7) (ls' := [some (vr 0 0), some (vi a), some (vi c), some (vi d), some (vr 9 0), none]) (st' := [vi d, vi c, vi a, vr 0 0, vi 0, vr 9 0]) [.aload 4, .iconst 0, .aload_n 0, .iload_n 1, .iload_n 2, .iload_n 3] 0 _ _ (by decide +kernel) rfl ?_
  refine lx_callC (x := ⟨0, 11, 14, 13⟩) (ka := 5) (ln := 2) (ia := .astore 5) (idx := 15) (as := [vi a, vi c, vi d]) (st := [vi 0, vr 9 0]) hB (by decide +kernel) (show vOK "ChanceBenchLaw" 15 M_B_chance 3 = true by decide +kernel) h0 rfl rfl (Nat.le_of_ble_eq_true rfl) (by decide) (by decide) (by decide) (by decide) (fun s args c z => z) (by decide) (by decide) (by decide +kernel) (by decide +kernel) (by decide +kernel) (Or.inl ⟨rfl, rfl⟩) okX0 (by decide) (by decide) rfl (fun z hz => by simp at hz) (fun g hg => ?_) (fun r g hg => ?_)
  · refine lx_blk okX0 (pc' := 17) (ls' := [some (vr 0 0), some (vi a), some (vi c), some (vi d), some (vr 9 0), none]) (st' := [vi 1]) [.iconst 1] 16 _ _ (by decide +kernel) rfl ?_
    exact lx_iretH (by decide +kernel) rfl (by decide) (by decide) (Or.inr ⟨rfl, hg⟩)
  · obtain ⟨v, rfl, hv, b, s, t, mk, df, jo, tr, di, mo, f, dy, rfl, hP⟩ := hg
    refine lx_last (j := 0) (h' := Hp b s t mk df jo tr di mo (some (ar 1 1 (va_up f 0 v)) :: dy)) (by decide +kernel) rfl rfl (by decide) hv rfl ?_
    refine lx_goto (o := 7) (tgt := 18) (by decide +kernel) (by decide) ?_
    refine lx_blk okX0 (pc' := 19) (ls' := [some (vr 0 0), some (vi a), some (vi c), some (vi d), some (vr 9 0), none]) (st' := [vi 0]) [.iconst 0] 18 _ _ (by decide +kernel) rfl ?_
    exact lx_iretH (by decide +kernel) rfl (by decide) (by decide) (Or.inl ⟨rfl, v, hP⟩)
theorem h_below (h0 : hget h 0 0 = some (ob 0 fs)) (hB : AMet G M_B_below (vr 0 0 :: [vi a, vi c, vi d]) h (fun r g => ∃ v, r = some (vl v) ∧ I64 v ∧ ∃ b s t mk df jo tr di mo f dy, g = Hp b s t mk df jo tr di mo (some (ar 1 1 f) :: dy) ∧ P v (Hp b s t mk df jo tr di mo (some (ar 1 1 (va_up f 0 v)) :: dy))) Qx) : AHet G M_Z_below [(0, 11, 14, 13)] (vr 0 0 :: [vi a, vi c, vi d] ++ [vr 9 0]) h (fun x g => (x = some (vi 0) ∧ ∃ v, P v g) ∨ (x = some (vi 1) ∧ Qx g)) := by
  refine ah_entry (by decide +kernel) (Nat.le_of_ble_eq_true rfl) ?_
  refine lx_blk okX0 (pc' := 7) (ls' := [some (vr 0 0), some (vi a), some (vi c), some (vi d), some (vr 9 0), none]) (st' := [vi d, vi c, vi a, vr 0 0, vi 0, vr 9 0]) [.aload 4, .iconst 0, .aload_n 0, .iload_n 1, .iload_n 2, .iload_n 3] 0 _ _ (by decide +kernel) rfl ?_
  refine lx_callC (x := ⟨0, 11, 14, 13⟩) (ka := 5) (ln := 2) (ia := .astore 5) (idx := 19) (as := [vi a, vi c, vi d]) (st := [vi 0, vr 9 0]) hB (by decide +kernel) (show vOK "ChanceBenchLaw" 19 M_B_below 3 = true by decide +kernel) h0 rfl rfl (Nat.le_of_ble_eq_true rfl) (by decide) (by decide) (by decide) (by decide) (fun s args c z => z) (by decide) (by decide) (by decide +kernel) (by decide +kernel) (by decide +kernel) (Or.inl ⟨rfl, rfl⟩) okX0 (by decide) (by decide) rfl (fun z hz => by simp at hz) (fun g hg => ?_) (fun r g hg => ?_)
  · refine lx_blk okX0 (pc' := 17) (ls' := [some (vr 0 0), some (vi a), some (vi c), some (vi d), some (vr 9 0), none]) (st' := [vi 1]) [.iconst 1] 16 _ _ (by decide +kernel) rfl ?_
    exact lx_iretH (by decide +kernel) rfl (by decide) (by decide) (Or.inr ⟨rfl, hg⟩)
  · obtain ⟨v, rfl, hv, b, s, t, mk, df, jo, tr, di, mo, f, dy, rfl, hP⟩ := hg
    refine lx_last (j := 0) (h' := Hp b s t mk df jo tr di mo (some (ar 1 1 (va_up f 0 v)) :: dy)) (by decide +kernel) rfl rfl (by decide) hv rfl ?_
    refine lx_goto (o := 7) (tgt := 18) (by decide +kernel) (by decide) ?_
    refine lx_blk okX0 (pc' := 19) (ls' := [some (vr 0 0), some (vi a), some (vi c), some (vi d), some (vr 9 0), none]) (st' := [vi 0]) [.iconst 0] 18 _ _ (by decide +kernel) rfl ?_
    exact lx_iretH (by decide +kernel) rfl (by decide) (by decide) (Or.inl ⟨rfl, v, hP⟩)
theorem h_mean (h0 : hget h 0 0 = some (ob 0 fs)) (hB : AMet G M_B_mean (vr 0 0 :: [vi a, vi c]) h (fun r g => ∃ v, r = some (vl v) ∧ I64 v ∧ ∃ b s t mk df jo tr di mo f dy, g = Hp b s t mk df jo tr di mo (some (ar 1 1 f) :: dy) ∧ P v (Hp b s t mk df jo tr di mo (some (ar 1 1 (va_up f 0 v)) :: dy))) Qx) : AHet G M_Z_mean [(0, 9, 12, 13)] (vr 0 0 :: [vi a, vi c] ++ [vr 9 0]) h (fun x g => (x = some (vi 0) ∧ ∃ v, P v g) ∨ (x = some (vi 1) ∧ Qx g)) := by
  refine ah_entry (by decide +kernel) (Nat.le_of_ble_eq_true rfl) ?_
  refine lx_blk okX0 (pc' := 5) (ls' := [some (vr 0 0), some (vi a), some (vi c), some (vr 9 0), none]) (st' := [vi c, vi a, vr 0 0, vi 0, vr 9 0]) [.aload_n 3, .iconst 0, .aload_n 0, .iload_n 1, .iload_n 2] 0 _ _ (by decide +kernel) rfl ?_
  refine lx_callC (x := ⟨0, 9, 12, 13⟩) (ka := 4) (ln := 2) (ia := .astore 4) (idx := 22) (as := [vi a, vi c]) (st := [vi 0, vr 9 0]) hB (by decide +kernel) (show vOK "ChanceBenchLaw" 22 M_B_mean 2 = true by decide +kernel) h0 rfl rfl (Nat.le_of_ble_eq_true rfl) (by decide) (by decide) (by decide) (by decide) (fun s args c z => z) (by decide) (by decide) (by decide +kernel) (by decide +kernel) (by decide +kernel) (Or.inl ⟨rfl, rfl⟩) okX0 (by decide) (by decide) rfl (fun z hz => by simp at hz) (fun g hg => ?_) (fun r g hg => ?_)
  · refine lx_blk okX0 (pc' := 15) (ls' := [some (vr 0 0), some (vi a), some (vi c), some (vr 9 0), none]) (st' := [vi 1]) [.iconst 1] 14 _ _ (by decide +kernel) rfl ?_
    exact lx_iretH (by decide +kernel) rfl (by decide) (by decide) (Or.inr ⟨rfl, hg⟩)
  · obtain ⟨v, rfl, hv, b, s, t, mk, df, jo, tr, di, mo, f, dy, rfl, hP⟩ := hg
    refine lx_last (j := 0) (h' := Hp b s t mk df jo tr di mo (some (ar 1 1 (va_up f 0 v)) :: dy)) (by decide +kernel) rfl rfl (by decide) hv rfl ?_
    refine lx_goto (o := 7) (tgt := 16) (by decide +kernel) (by decide) ?_
    refine lx_blk okX0 (pc' := 17) (ls' := [some (vr 0 0), some (vi a), some (vi c), some (vr 9 0), none]) (st' := [vi 0]) [.iconst 0] 16 _ _ (by decide +kernel) rfl ?_
    exact lx_iretH (by decide +kernel) rfl (by decide) (by decide) (Or.inl ⟨rfl, v, hP⟩)
theorem h_variance (h0 : hget h 0 0 = some (ob 0 fs)) (hB : AMet G M_B_variance (vr 0 0 :: [vi a, vi c]) h (fun r g => ∃ v, r = some (vl v) ∧ I64 v ∧ ∃ b s t mk df jo tr di mo f dy, g = Hp b s t mk df jo tr di mo (some (ar 1 1 f) :: dy) ∧ P v (Hp b s t mk df jo tr di mo (some (ar 1 1 (va_up f 0 v)) :: dy))) Qx) : AHet G M_Z_variance [(0, 9, 12, 13)] (vr 0 0 :: [vi a, vi c] ++ [vr 9 0]) h (fun x g => (x = some (vi 0) ∧ ∃ v, P v g) ∨ (x = some (vi 1) ∧ Qx g)) := by
  refine ah_entry (by decide +kernel) (Nat.le_of_ble_eq_true rfl) ?_
  refine lx_blk okX0 (pc' := 5) (ls' := [some (vr 0 0), some (vi a), some (vi c), some (vr 9 0), none]) (st' := [vi c, vi a, vr 0 0, vi 0, vr 9 0]) [.aload_n 3, .iconst 0, .aload_n 0, .iload_n 1, .iload_n 2] 0 _ _ (by decide +kernel) rfl ?_
  refine lx_callC (x := ⟨0, 9, 12, 13⟩) (ka := 4) (ln := 2) (ia := .astore 4) (idx := 26) (as := [vi a, vi c]) (st := [vi 0, vr 9 0]) hB (by decide +kernel) (show vOK "ChanceBenchLaw" 26 M_B_variance 2 = true by decide +kernel) h0 rfl rfl (Nat.le_of_ble_eq_true rfl) (by decide) (by decide) (by decide) (by decide) (fun s args c z => z) (by decide) (by decide) (by decide +kernel) (by decide +kernel) (by decide +kernel) (Or.inl ⟨rfl, rfl⟩) okX0 (by decide) (by decide) rfl (fun z hz => by simp at hz) (fun g hg => ?_) (fun r g hg => ?_)
  · refine lx_blk okX0 (pc' := 15) (ls' := [some (vr 0 0), some (vi a), some (vi c), some (vr 9 0), none]) (st' := [vi 1]) [.iconst 1] 14 _ _ (by decide +kernel) rfl ?_
    exact lx_iretH (by decide +kernel) rfl (by decide) (by decide) (Or.inr ⟨rfl, hg⟩)
  · obtain ⟨v, rfl, hv, b, s, t, mk, df, jo, tr, di, mo, f, dy, rfl, hP⟩ := hg
    refine lx_last (j := 0) (h' := Hp b s t mk df jo tr di mo (some (ar 1 1 (va_up f 0 v)) :: dy)) (by decide +kernel) rfl rfl (by decide) hv rfl ?_
    refine lx_goto (o := 7) (tgt := 16) (by decide +kernel) (by decide) ?_
    refine lx_blk okX0 (pc' := 17) (ls' := [some (vr 0 0), some (vi a), some (vi c), some (vr 9 0), none]) (st' := [vi 0]) [.iconst 0] 16 _ _ (by decide +kernel) rfl ?_
    exact lx_iretH (by decide +kernel) rfl (by decide) (by decide) (Or.inl ⟨rfl, v, hP⟩)
theorem h_apart (h0 : hget h 0 0 = some (ob 0 fs)) (hB : AMet G M_B_apart (vr 0 0 :: [vi a, vi c, vi d]) h (fun r g => ∃ v, r = some (vl v) ∧ I64 v ∧ ∃ b s t mk df jo tr di mo f dy, g = Hp b s t mk df jo tr di mo (some (ar 1 1 f) :: dy) ∧ P v (Hp b s t mk df jo tr di mo (some (ar 1 1 (va_up f 0 v)) :: dy))) Qx) : AHet G M_Z_apart [(0, 11, 14, 13)] (vr 0 0 :: [vi a, vi c, vi d] ++ [vr 9 0]) h (fun x g => (x = some (vi 0) ∧ ∃ v, P v g) ∨ (x = some (vi 1) ∧ Qx g)) := by
  refine ah_entry (by decide +kernel) (Nat.le_of_ble_eq_true rfl) ?_
  refine lx_blk okX0 (pc' := 7) (ls' := [some (vr 0 0), some (vi a), some (vi c), some (vi d), some (vr 9 0), none]) (st' := [vi d, vi c, vi a, vr 0 0, vi 0, vr 9 0]) [.aload 4, .iconst 0, .aload_n 0, .iload_n 1, .iload_n 2, .iload_n 3] 0 _ _ (by decide +kernel) rfl ?_
  refine lx_callC (x := ⟨0, 11, 14, 13⟩) (ka := 5) (ln := 2) (ia := .astore 5) (idx := 29) (as := [vi a, vi c, vi d]) (st := [vi 0, vr 9 0]) hB (by decide +kernel) (show vOK "ChanceBenchLaw" 29 M_B_apart 3 = true by decide +kernel) h0 rfl rfl (Nat.le_of_ble_eq_true rfl) (by decide) (by decide) (by decide) (by decide) (fun s args c z => z) (by decide) (by decide) (by decide +kernel) (by decide +kernel) (by decide +kernel) (Or.inl ⟨rfl, rfl⟩) okX0 (by decide) (by decide) rfl (fun z hz => by simp at hz) (fun g hg => ?_) (fun r g hg => ?_)
  · refine lx_blk okX0 (pc' := 17) (ls' := [some (vr 0 0), some (vi a), some (vi c), some (vi d), some (vr 9 0), none]) (st' := [vi 1]) [.iconst 1] 16 _ _ (by decide +kernel) rfl ?_
    exact lx_iretH (by decide +kernel) rfl (by decide) (by decide) (Or.inr ⟨rfl, hg⟩)
  · obtain ⟨v, rfl, hv, b, s, t, mk, df, jo, tr, di, mo, f, dy, rfl, hP⟩ := hg
    refine lx_last (j := 0) (h' := Hp b s t mk df jo tr di mo (some (ar 1 1 (va_up f 0 v)) :: dy)) (by decide +kernel) rfl rfl (by decide) hv rfl ?_
    refine lx_goto (o := 7) (tgt := 18) (by decide +kernel) (by decide) ?_
    refine lx_blk okX0 (pc' := 19) (ls' := [some (vr 0 0), some (vi a), some (vi c), some (vi d), some (vr 9 0), none]) (st' := [vi 0]) [.iconst 0] 18 _ _ (by decide +kernel) rfl ?_
    exact lx_iretH (by decide +kernel) rfl (by decide) (by decide) (Or.inl ⟨rfl, v, hP⟩)
theorem h_far (h0 : hget h 0 0 = some (ob 0 fs)) (hB : AMet G M_B_far (vr 0 0 :: [vi a, vi c, vi d]) h (fun r g => ∃ v, r = some (vl v) ∧ I64 v ∧ ∃ b s t mk df jo tr di mo f dy, g = Hp b s t mk df jo tr di mo (some (ar 1 1 f) :: dy) ∧ P v (Hp b s t mk df jo tr di mo (some (ar 1 1 (va_up f 0 v)) :: dy))) Qx) : AHet G M_Z_far [(0, 11, 14, 13)] (vr 0 0 :: [vi a, vi c, vi d] ++ [vr 9 0]) h (fun x g => (x = some (vi 0) ∧ ∃ v, P v g) ∨ (x = some (vi 1) ∧ Qx g)) := by
  refine ah_entry (by decide +kernel) (Nat.le_of_ble_eq_true rfl) ?_
  refine lx_blk okX0 (pc' := 7) (ls' := [some (vr 0 0), some (vi a), some (vi c), some (vi d), some (vr 9 0), none]) (st' := [vi d, vi c, vi a, vr 0 0, vi 0, vr 9 0]) [.aload 4, .iconst 0, .aload_n 0, .iload_n 1, .iload_n 2, .iload_n 3] 0 _ _ (by decide +kernel) rfl ?_
  refine lx_callC (x := ⟨0, 11, 14, 13⟩) (ka := 5) (ln := 2) (ia := .astore 5) (idx := 32) (as := [vi a, vi c, vi d]) (st := [vi 0, vr 9 0]) hB (by decide +kernel) (show vOK "ChanceBenchLaw" 32 M_B_far 3 = true by decide +kernel) h0 rfl rfl (Nat.le_of_ble_eq_true rfl) (by decide) (by decide) (by decide) (by decide) (fun s args c z => z) (by decide) (by decide) (by decide +kernel) (by decide +kernel) (by decide +kernel) (Or.inl ⟨rfl, rfl⟩) okX0 (by decide) (by decide) rfl (fun z hz => by simp at hz) (fun g hg => ?_) (fun r g hg => ?_)
  · refine lx_blk okX0 (pc' := 17) (ls' := [some (vr 0 0), some (vi a), some (vi c), some (vi d), some (vr 9 0), none]) (st' := [vi 1]) [.iconst 1] 16 _ _ (by decide +kernel) rfl ?_
    exact lx_iretH (by decide +kernel) rfl (by decide) (by decide) (Or.inr ⟨rfl, hg⟩)
  · obtain ⟨v, rfl, hv, b, s, t, mk, df, jo, tr, di, mo, f, dy, rfl, hP⟩ := hg
    refine lx_last (j := 0) (h' := Hp b s t mk df jo tr di mo (some (ar 1 1 (va_up f 0 v)) :: dy)) (by decide +kernel) rfl rfl (by decide) hv rfl ?_
    refine lx_goto (o := 7) (tgt := 18) (by decide +kernel) (by decide) ?_
    refine lx_blk okX0 (pc' := 19) (ls' := [some (vr 0 0), some (vi a), some (vi c), some (vi d), some (vr 9 0), none]) (st' := [vi 0]) [.iconst 0] 18 _ _ (by decide +kernel) rfl ?_
    exact lx_iretH (by decide +kernel) rfl (by decide) (by decide) (Or.inl ⟨rfl, v, hP⟩)
theorem h_pair (h0 : hget h 0 0 = some (ob 0 fs)) (hB : AMet G M_B_pair (vr 0 0 :: [vi a, vi c, vi d]) h (fun r g => ∃ v, r = some (vl v) ∧ I64 v ∧ ∃ b s t mk df jo tr di mo f dy, g = Hp b s t mk df jo tr di mo (some (ar 1 1 f) :: dy) ∧ P v (Hp b s t mk df jo tr di mo (some (ar 1 1 (va_up f 0 v)) :: dy))) Qx) : AHet G M_Z_pair [(0, 11, 14, 13)] (vr 0 0 :: [vi a, vi c, vi d] ++ [vr 9 0]) h (fun x g => (x = some (vi 0) ∧ ∃ v, P v g) ∨ (x = some (vi 1) ∧ Qx g)) := by
  refine ah_entry (by decide +kernel) (Nat.le_of_ble_eq_true rfl) ?_
  refine lx_blk okX0 (pc' := 7) (ls' := [some (vr 0 0), some (vi a), some (vi c), some (vi d), some (vr 9 0), none]) (st' := [vi d, vi c, vi a, vr 0 0, vi 0, vr 9 0]) [.aload 4, .iconst 0, .aload_n 0, .iload_n 1, .iload_n 2, .iload_n 3] 0 _ _ (by decide +kernel) rfl ?_
  refine lx_callC (x := ⟨0, 11, 14, 13⟩) (ka := 5) (ln := 2) (ia := .astore 5) (idx := 35) (as := [vi a, vi c, vi d]) (st := [vi 0, vr 9 0]) hB (by decide +kernel) (show vOK "ChanceBenchLaw" 35 M_B_pair 3 = true by decide +kernel) h0 rfl rfl (Nat.le_of_ble_eq_true rfl) (by decide) (by decide) (by decide) (by decide) (fun s args c z => z) (by decide) (by decide) (by decide +kernel) (by decide +kernel) (by decide +kernel) (Or.inl ⟨rfl, rfl⟩) okX0 (by decide) (by decide) rfl (fun z hz => by simp at hz) (fun g hg => ?_) (fun r g hg => ?_)
  · refine lx_blk okX0 (pc' := 17) (ls' := [some (vr 0 0), some (vi a), some (vi c), some (vi d), some (vr 9 0), none]) (st' := [vi 1]) [.iconst 1] 16 _ _ (by decide +kernel) rfl ?_
    exact lx_iretH (by decide +kernel) rfl (by decide) (by decide) (Or.inr ⟨rfl, hg⟩)
  · obtain ⟨v, rfl, hv, b, s, t, mk, df, jo, tr, di, mo, f, dy, rfl, hP⟩ := hg
    refine lx_last (j := 0) (h' := Hp b s t mk df jo tr di mo (some (ar 1 1 (va_up f 0 v)) :: dy)) (by decide +kernel) rfl rfl (by decide) hv rfl ?_
    refine lx_goto (o := 7) (tgt := 18) (by decide +kernel) (by decide) ?_
    refine lx_blk okX0 (pc' := 19) (ls' := [some (vr 0 0), some (vi a), some (vi c), some (vi d), some (vr 9 0), none]) (st' := [vi 0]) [.iconst 0] 18 _ _ (by decide +kernel) rfl ?_
    exact lx_iretH (by decide +kernel) rfl (by decide) (by decide) (Or.inl ⟨rfl, v, hP⟩)
theorem h_open (h0 : hget h 0 0 = some (ob 0 fs)) (hB : AMet G M_B_open (vr 0 0 :: [vi a, vi c]) h (fun r g => ∃ v, r = some (vi v) ∧ I32 v ∧ ∃ b s t mk df jo tr di mo f dy, g = Hp b s t mk df jo tr di mo (some (ar 1 1 f) :: dy) ∧ P v (Hp b s t mk df jo tr di mo (some (ar 1 1 (va_up f 0 v)) :: dy))) Qx) : AHet G M_Z_open [(0, 10, 13, 13)] (vr 0 0 :: [vi a, vi c] ++ [vr 9 0]) h (fun x g => (x = some (vi 0) ∧ ∃ v, P v g) ∨ (x = some (vi 1) ∧ Qx g)) := by
  refine ah_entry (by decide +kernel) (Nat.le_of_ble_eq_true rfl) ?_
  refine lx_blk okX0 (pc' := 5) (ls' := [some (vr 0 0), some (vi a), some (vi c), some (vr 9 0), none]) (st' := [vi c, vi a, vr 0 0, vi 0, vr 9 0]) [.aload_n 3, .iconst 0, .aload_n 0, .iload_n 1, .iload_n 2] 0 _ _ (by decide +kernel) rfl ?_
  refine lx_callC (x := ⟨0, 10, 13, 13⟩) (ka := 4) (ln := 2) (ia := .astore 4) (idx := 38) (as := [vi a, vi c]) (st := [vi 0, vr 9 0]) hB (by decide +kernel) (show vOK "ChanceBenchLaw" 38 M_B_open 2 = true by decide +kernel) h0 rfl rfl (Nat.le_of_ble_eq_true rfl) (by decide) (by decide) (by decide) (by decide) (fun s args c z => z) (by decide) (by decide) (by decide +kernel) (by decide +kernel) (by decide +kernel) (Or.inl ⟨rfl, rfl⟩) okX0 (by decide) (by decide) rfl (fun z hz => by simp at hz) (fun g hg => ?_) (fun r g hg => ?_)
  · refine lx_blk okX0 (pc' := 16) (ls' := [some (vr 0 0), some (vi a), some (vi c), some (vr 9 0), none]) (st' := [vi 1]) [.iconst 1] 15 _ _ (by decide +kernel) rfl ?_
    exact lx_iretH (by decide +kernel) rfl (by decide) (by decide) (Or.inr ⟨rfl, hg⟩)
  · obtain ⟨v, rfl, hv, b, s, t, mk, df, jo, tr, di, mo, f, dy, rfl, hP⟩ := hg
    refine lx_i2l (by decide +kernel) hv ?_
    refine lx_last (j := 0) (h' := Hp b s t mk df jo tr di mo (some (ar 1 1 (va_up f 0 v)) :: dy)) (by decide +kernel) rfl rfl (by decide) (by constructor <;> omega) rfl ?_
    refine lx_goto (o := 7) (tgt := 17) (by decide +kernel) (by decide) ?_
    refine lx_blk okX0 (pc' := 18) (ls' := [some (vr 0 0), some (vi a), some (vi c), some (vr 9 0), none]) (st' := [vi 0]) [.iconst 0] 17 _ _ (by decide +kernel) rfl ?_
    exact lx_iretH (by decide +kernel) rfl (by decide) (by decide) (Or.inl ⟨rfl, v, hP⟩)
theorem h_leaf (h0 : hget h 0 0 = some (ob 0 fs)) (hB : AMet G M_B_leaf (vr 0 0 :: [vi a, vi c, vi d]) h (fun r g => ∃ v, r = some (vi v) ∧ (0 ≤ v ∧ v ≤ 1) ∧ ∃ b s t mk df jo tr di mo f dy, g = Hp b s t mk df jo tr di mo (some (ar 1 1 f) :: dy) ∧ P v (Hp b s t mk df jo tr di mo (some (ar 1 1 (va_up f 0 v)) :: dy))) Qx) : AHet G M_Z_leaf [(0, 19, 22, 13)] (vr 0 0 :: [vi a, vi c, vi d] ++ [vr 9 0]) h (fun x g => (x = some (vi 0) ∧ ∃ v, P v g) ∨ (x = some (vi 1) ∧ Qx g)) := by
  refine ah_entry (by decide +kernel) (Nat.le_of_ble_eq_true rfl) ?_
  refine lx_blk okX0 (pc' := 7) (ls' := [some (vr 0 0), some (vi a), some (vi c), some (vi d), some (vr 9 0), none]) (st' := [vi d, vi c, vi a, vr 0 0, vi 0, vr 9 0]) [.aload 4, .iconst 0, .aload_n 0, .iload_n 1, .iload_n 2, .iload_n 3] 0 _ _ (by decide +kernel) rfl ?_
  refine lx_callC (x := ⟨0, 19, 22, 13⟩) (ka := 5) (ln := 2) (ia := .astore 5) (idx := 41) (as := [vi a, vi c, vi d]) (st := [vi 0, vr 9 0]) hB (by decide +kernel) (show vOK "ChanceBenchLaw" 41 M_B_leaf 3 = true by decide +kernel) h0 rfl rfl (Nat.le_of_ble_eq_true rfl) (by decide) (by decide) (by decide) (by decide) (fun s args c z => z) (by decide) (by decide) (by decide +kernel) (by decide +kernel) (by decide +kernel) (Or.inl ⟨rfl, rfl⟩) okX0 (by decide) (by decide) rfl (fun z hz => by simp at hz) (fun g hg => ?_) (fun r g hg => ?_)
  · refine lx_blk okX0 (pc' := 25) (ls' := [some (vr 0 0), some (vi a), some (vi c), some (vi d), some (vr 9 0), none]) (st' := [vi 1]) [.iconst 1] 24 _ _ (by decide +kernel) rfl ?_
    exact lx_iretH (by decide +kernel) rfl (by decide) (by decide) (Or.inr ⟨rfl, hg⟩)
  · obtain ⟨v, rfl, hv, b, s, t, mk, df, jo, tr, di, mo, f, dy, rfl, hP⟩ := hg
    refine lx_if_eq (o := 7) (tgt := 17) (by decide +kernel) (by decide) (by constructor <;> omega) (fun cv => ?_) (fun cv => ?_)
    · subst cv
      refine lx_blk okX0 (pc' := 18) (ls' := [some (vr 0 0), some (vi a), some (vi c), some (vi d), some (vr 9 0), none]) (st' := [vl 0, vi 0, vr 9 0]) [.lconst 0] 17 _ _ (by decide +kernel) rfl ?_
      refine lx_last (j := 0) (h' := Hp b s t mk df jo tr di mo (some (ar 1 1 (va_up f 0 0)) :: dy)) (by decide +kernel) rfl rfl (by decide) z64 rfl ?_
      refine lx_goto (o := 7) (tgt := 26) (by decide +kernel) (by decide) ?_
      refine lx_blk okX0 (pc' := 27) (ls' := [some (vr 0 0), some (vi a), some (vi c), some (vi d), some (vr 9 0), none]) (st' := [vi 0]) [.iconst 0] 26 _ _ (by decide +kernel) rfl ?_
      exact lx_iretH (by decide +kernel) rfl (by decide) (by decide) (Or.inl ⟨rfl, 0, hP⟩)
    · obtain rfl : v = 1 := by omega
      refine lx_blk okX0 (pc' := 14) (ls' := [some (vr 0 0), some (vi a), some (vi c), some (vi d), some (vr 9 0), none]) (st' := [vl 1, vi 0, vr 9 0]) [.lconst 1] 13 _ _ (by decide +kernel) rfl ?_
      refine lx_goto (o := 4) (tgt := 18) (by decide +kernel) (by decide) ?_
      refine lx_last (j := 0) (h' := Hp b s t mk df jo tr di mo (some (ar 1 1 (va_up f 0 1)) :: dy)) (by decide +kernel) rfl rfl (by decide) (by constructor <;> decide) rfl ?_
      refine lx_goto (o := 7) (tgt := 26) (by decide +kernel) (by decide) ?_
      refine lx_blk okX0 (pc' := 27) (ls' := [some (vr 0 0), some (vi a), some (vi c), some (vi d), some (vr 9 0), none]) (st' := [vi 0]) [.iconst 0] 26 _ _ (by decide +kernel) rfl ?_
      exact lx_iretH (by decide +kernel) rfl (by decide) (by decide) (Or.inl ⟨rfl, 1, hP⟩)
theorem h_lots (h0 : hget h 0 0 = some (ob 0 fs)) (hB : AMet G M_B_lots (vr 0 0 :: [vi a, vi c, vi d]) h (fun r g => ∃ v, r = some (vl v) ∧ I64 v ∧ ∃ b s t mk df jo tr di mo f dy, g = Hp b s t mk df jo tr di mo (some (ar 1 1 f) :: dy) ∧ P v (Hp b s t mk df jo tr di mo (some (ar 1 1 (va_up f 0 v)) :: dy))) Qx) : AHet G M_Z_lots [(0, 11, 14, 13)] (vr 0 0 :: [vi a, vi c, vi d] ++ [vr 9 0]) h (fun x g => (x = some (vi 0) ∧ ∃ v, P v g) ∨ (x = some (vi 1) ∧ Qx g)) := by
  refine ah_entry (by decide +kernel) (Nat.le_of_ble_eq_true rfl) ?_
  refine lx_blk okX0 (pc' := 7) (ls' := [some (vr 0 0), some (vi a), some (vi c), some (vi d), some (vr 9 0), none]) (st' := [vi d, vi c, vi a, vr 0 0, vi 0, vr 9 0]) [.aload 4, .iconst 0, .aload_n 0, .iload_n 1, .iload_n 2, .iload_n 3] 0 _ _ (by decide +kernel) rfl ?_
  refine lx_callC (x := ⟨0, 11, 14, 13⟩) (ka := 5) (ln := 2) (ia := .astore 5) (idx := 45) (as := [vi a, vi c, vi d]) (st := [vi 0, vr 9 0]) hB (by decide +kernel) (show vOK "ChanceBenchLaw" 45 M_B_lots 3 = true by decide +kernel) h0 rfl rfl (Nat.le_of_ble_eq_true rfl) (by decide) (by decide) (by decide) (by decide) (fun s args c z => z) (by decide) (by decide) (by decide +kernel) (by decide +kernel) (by decide +kernel) (Or.inl ⟨rfl, rfl⟩) okX0 (by decide) (by decide) rfl (fun z hz => by simp at hz) (fun g hg => ?_) (fun r g hg => ?_)
  · refine lx_blk okX0 (pc' := 17) (ls' := [some (vr 0 0), some (vi a), some (vi c), some (vi d), some (vr 9 0), none]) (st' := [vi 1]) [.iconst 1] 16 _ _ (by decide +kernel) rfl ?_
    exact lx_iretH (by decide +kernel) rfl (by decide) (by decide) (Or.inr ⟨rfl, hg⟩)
  · obtain ⟨v, rfl, hv, b, s, t, mk, df, jo, tr, di, mo, f, dy, rfl, hP⟩ := hg
    refine lx_last (j := 0) (h' := Hp b s t mk df jo tr di mo (some (ar 1 1 (va_up f 0 v)) :: dy)) (by decide +kernel) rfl rfl (by decide) hv rfl ?_
    refine lx_goto (o := 7) (tgt := 18) (by decide +kernel) (by decide) ?_
    refine lx_blk okX0 (pc' := 19) (ls' := [some (vr 0 0), some (vi a), some (vi c), some (vi d), some (vr 9 0), none]) (st' := [vi 0]) [.iconst 0] 18 _ _ (by decide +kernel) rfl ?_
    exact lx_iretH (by decide +kernel) rfl (by decide) (by decide) (Or.inl ⟨rfl, v, hP⟩)
theorem h_draw (h0 : hget h 0 0 = some (ob 0 fs)) (hB : AMet G M_B_draw (vr 0 0 :: [vi a]) h (fun r g => ∃ v, r = some (vi v) ∧ I32 v ∧ ∃ b s t mk df jo tr di mo f dy, g = Hp b s t mk df jo tr di mo (some (ar 1 1 f) :: dy) ∧ P v (Hp b s t mk df jo tr di mo (some (ar 1 1 (va_up f 0 v)) :: dy))) Qx) : AHet G M_Z_draw [(0, 9, 12, 13)] (vr 0 0 :: [vi a] ++ [vr 9 0]) h (fun x g => (x = some (vi 0) ∧ ∃ v, P v g) ∨ (x = some (vi 1) ∧ Qx g)) := by
  refine ah_entry (by decide +kernel) (Nat.le_of_ble_eq_true rfl) ?_
  refine lx_blk okX0 (pc' := 4) (ls' := [some (vr 0 0), some (vi a), some (vr 9 0), none]) (st' := [vi a, vr 0 0, vi 0, vr 9 0]) [.aload_n 2, .iconst 0, .aload_n 0, .iload_n 1] 0 _ _ (by decide +kernel) rfl ?_
  refine lx_callC (x := ⟨0, 9, 12, 13⟩) (ka := 3) (ln := 1) (ia := .astore_n 3) (idx := 48) (as := [vi a]) (st := [vi 0, vr 9 0]) hB (by decide +kernel) (show vOK "ChanceBenchLaw" 48 M_B_draw 1 = true by decide +kernel) h0 rfl rfl (Nat.le_of_ble_eq_true rfl) (by decide) (by decide) (by decide) (by decide) (fun s args c z => z) (by decide) (by decide) (by decide +kernel) (by decide +kernel) (by decide +kernel) (Or.inr ⟨rfl, 3, rfl, rfl⟩) okX0 (by decide) (by decide) rfl (fun z hz => by simp at hz) (fun g hg => ?_) (fun r g hg => ?_)
  · refine lx_blk okX0 (pc' := 14) (ls' := [some (vr 0 0), some (vi a), some (vr 9 0), none]) (st' := [vi 1]) [.iconst 1] 13 _ _ (by decide +kernel) rfl ?_
    exact lx_iretH (by decide +kernel) rfl (by decide) (by decide) (Or.inr ⟨rfl, hg⟩)
  · obtain ⟨v, rfl, hv, b, s, t, mk, df, jo, tr, di, mo, f, dy, rfl, hP⟩ := hg
    refine lx_i2l (by decide +kernel) hv ?_
    refine lx_last (j := 0) (h' := Hp b s t mk df jo tr di mo (some (ar 1 1 (va_up f 0 v)) :: dy)) (by decide +kernel) rfl rfl (by decide) (by constructor <;> omega) rfl ?_
    refine lx_goto (o := 6) (tgt := 15) (by decide +kernel) (by decide) ?_
    refine lx_blk okX0 (pc' := 16) (ls' := [some (vr 0 0), some (vi a), some (vr 9 0), none]) (st' := [vi 0]) [.iconst 0] 15 _ _ (by decide +kernel) rfl ?_
    exact lx_iretH (by decide +kernel) rfl (by decide) (by decide) (Or.inl ⟨rfl, v, hP⟩)
theorem h_face (h0 : hget h 0 0 = some (ob 0 fs)) (hB : AMet G M_B_face (vr 0 0 :: [vi a, vi c, vi d]) h (fun r g => ∃ v, r = some (vi v) ∧ I32 v ∧ ∃ b s t mk df jo tr di mo f dy, g = Hp b s t mk df jo tr di mo (some (ar 1 1 f) :: dy) ∧ P v (Hp b s t mk df jo tr di mo (some (ar 1 1 (va_up f 0 v)) :: dy))) Qx) : AHet G M_Z_face [(0, 12, 15, 13)] (vr 0 0 :: [vi a, vi c, vi d] ++ [vr 9 0]) h (fun x g => (x = some (vi 0) ∧ ∃ v, P v g) ∨ (x = some (vi 1) ∧ Qx g)) := by
  refine ah_entry (by decide +kernel) (Nat.le_of_ble_eq_true rfl) ?_
  refine lx_blk okX0 (pc' := 7) (ls' := [some (vr 0 0), some (vi a), some (vi c), some (vi d), some (vr 9 0), none]) (st' := [vi d, vi c, vi a, vr 0 0, vi 0, vr 9 0]) [.aload 4, .iconst 0, .aload_n 0, .iload_n 1, .iload_n 2, .iload_n 3] 0 _ _ (by decide +kernel) rfl ?_
  refine lx_callC (x := ⟨0, 12, 15, 13⟩) (ka := 5) (ln := 2) (ia := .astore 5) (idx := 52) (as := [vi a, vi c, vi d]) (st := [vi 0, vr 9 0]) hB (by decide +kernel) (show vOK "ChanceBenchLaw" 52 M_B_face 3 = true by decide +kernel) h0 rfl rfl (Nat.le_of_ble_eq_true rfl) (by decide) (by decide) (by decide) (by decide) (fun s args c z => z) (by decide) (by decide) (by decide +kernel) (by decide +kernel) (by decide +kernel) (Or.inl ⟨rfl, rfl⟩) okX0 (by decide) (by decide) rfl (fun z hz => by simp at hz) (fun g hg => ?_) (fun r g hg => ?_)
  · refine lx_blk okX0 (pc' := 18) (ls' := [some (vr 0 0), some (vi a), some (vi c), some (vi d), some (vr 9 0), none]) (st' := [vi 1]) [.iconst 1] 17 _ _ (by decide +kernel) rfl ?_
    exact lx_iretH (by decide +kernel) rfl (by decide) (by decide) (Or.inr ⟨rfl, hg⟩)
  · obtain ⟨v, rfl, hv, b, s, t, mk, df, jo, tr, di, mo, f, dy, rfl, hP⟩ := hg
    refine lx_i2l (by decide +kernel) hv ?_
    refine lx_last (j := 0) (h' := Hp b s t mk df jo tr di mo (some (ar 1 1 (va_up f 0 v)) :: dy)) (by decide +kernel) rfl rfl (by decide) (by constructor <;> omega) rfl ?_
    refine lx_goto (o := 7) (tgt := 19) (by decide +kernel) (by decide) ?_
    refine lx_blk okX0 (pc' := 20) (ls' := [some (vr 0 0), some (vi a), some (vi c), some (vi d), some (vr 9 0), none]) (st' := [vi 0]) [.iconst 0] 19 _ _ (by decide +kernel) rfl ?_
    exact lx_iretH (by decide +kernel) rfl (by decide) (by decide) (Or.inl ⟨rfl, v, hP⟩)
theorem h_beats (h0 : hget h 0 0 = some (ob 0 fs)) (hB : AMet G M_B_beats (vr 0 0 :: [vi a, vi c, vi d]) h (fun r g => ∃ v, r = some (vl v) ∧ I64 v ∧ ∃ b s t mk df jo tr di mo f dy, g = Hp b s t mk df jo tr di mo (some (ar 1 1 f) :: dy) ∧ P v (Hp b s t mk df jo tr di mo (some (ar 1 1 (va_up f 0 v)) :: dy))) Qx) : AHet G M_Z_beats [(0, 11, 14, 13)] (vr 0 0 :: [vi a, vi c, vi d] ++ [vr 9 0]) h (fun x g => (x = some (vi 0) ∧ ∃ v, P v g) ∨ (x = some (vi 1) ∧ Qx g)) := by
  refine ah_entry (by decide +kernel) (Nat.le_of_ble_eq_true rfl) ?_
  refine lx_blk okX0 (pc' := 7) (ls' := [some (vr 0 0), some (vi a), some (vi c), some (vi d), some (vr 9 0), none]) (st' := [vi d, vi c, vi a, vr 0 0, vi 0, vr 9 0]) [.aload 4, .iconst 0, .aload_n 0, .iload_n 1, .iload_n 2, .iload_n 3] 0 _ _ (by decide +kernel) rfl ?_
  refine lx_callC (x := ⟨0, 11, 14, 13⟩) (ka := 5) (ln := 2) (ia := .astore 5) (idx := 56) (as := [vi a, vi c, vi d]) (st := [vi 0, vr 9 0]) hB (by decide +kernel) (show vOK "ChanceBenchLaw" 56 M_B_beats 3 = true by decide +kernel) h0 rfl rfl (Nat.le_of_ble_eq_true rfl) (by decide) (by decide) (by decide) (by decide) (fun s args c z => z) (by decide) (by decide) (by decide +kernel) (by decide +kernel) (by decide +kernel) (Or.inl ⟨rfl, rfl⟩) okX0 (by decide) (by decide) rfl (fun z hz => by simp at hz) (fun g hg => ?_) (fun r g hg => ?_)
  · refine lx_blk okX0 (pc' := 17) (ls' := [some (vr 0 0), some (vi a), some (vi c), some (vi d), some (vr 9 0), none]) (st' := [vi 1]) [.iconst 1] 16 _ _ (by decide +kernel) rfl ?_
    exact lx_iretH (by decide +kernel) rfl (by decide) (by decide) (Or.inr ⟨rfl, hg⟩)
  · obtain ⟨v, rfl, hv, b, s, t, mk, df, jo, tr, di, mo, f, dy, rfl, hP⟩ := hg
    refine lx_last (j := 0) (h' := Hp b s t mk df jo tr di mo (some (ar 1 1 (va_up f 0 v)) :: dy)) (by decide +kernel) rfl rfl (by decide) hv rfl ?_
    refine lx_goto (o := 7) (tgt := 18) (by decide +kernel) (by decide) ?_
    refine lx_blk okX0 (pc' := 19) (ls' := [some (vr 0 0), some (vi a), some (vi c), some (vi d), some (vr 9 0), none]) (st' := [vi 0]) [.iconst 0] 18 _ _ (by decide +kernel) rfl ?_
    exact lx_iretH (by decide +kernel) rfl (by decide) (by decide) (Or.inl ⟨rfl, v, hP⟩)
end
