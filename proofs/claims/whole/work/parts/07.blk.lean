/-! straight stretches: an instruction, or a read of a field (pool number, class, field) -/
abbrev PI : Type := Instr ⊕ (Nat × Nat × Nat)
def ldV (ls : LSt) (i : Nat) : Option AV := match ls[i]? with
  | some (some v) => some v
  | _ => none
def step1 (i : Instr) (nL : Nat) (ls : LSt) (st : List AV) : Option (LSt × List AV) := match i with
  | .iconst n => some (ls, vi n :: st)
  | .bipush n => if -128 ≤ n ∧ n ≤ 127 then some (ls, vi n :: st) else none
  | .sipush n => if -32768 ≤ n ∧ n ≤ 32767 then some (ls, vi n :: st) else none
  | .lconst n => some (ls, vl (n : Nat) :: st)
  | .aconst_null => some (ls, vn :: st)
  | .iload_n k => match ldV ls k with
    | some (.inl z) => some (ls, vi z :: st)
    | _ => none
  | .iload k => match ldV ls k with
    | some (.inl z) => some (ls, vi z :: st)
    | _ => none
  | .lload_n k => match ldV ls k with
    | some (.inr (.inl z)) => some (ls, vl z :: st)
    | _ => none
  | .lload k => match ldV ls k with
    | some (.inr (.inl z)) => some (ls, vl z :: st)
    | _ => none
  | .aload_n k => match ldV ls k with
    | some (.inr (.inr r)) => some (ls, vo r :: st)
    | _ => none
  | .aload k => match ldV ls k with
    | some (.inr (.inr r)) => some (ls, vo r :: st)
    | _ => none
  | .istore_n k => match st with
    | .inl z :: r => if (k : Nat) < nL then some (st1 ls k (vi z), r) else none
    | _ => none
  | .istore k => match st with
    | .inl z :: r => if k < nL then some (st1 ls k (vi z), r) else none
    | _ => none
  | .lstore_n k => match st with
    | .inr (.inl z) :: r => if (k : Nat) + 1 < nL then some (st2 ls k (vl z), r) else none
    | _ => none
  | .lstore k => match st with
    | .inr (.inl z) :: r => if k + 1 < nL then some (st2 ls k (vl z), r) else none
    | _ => none
  | .astore_n k => match st with
    | .inr (.inr z) :: r => if (k : Nat) < nL then some (st1 ls k (vo z), r) else none
    | _ => none
  | .astore k => match st with
    | .inr (.inr z) :: r => if k < nL then some (st1 ls k (vo z), r) else none
    | _ => none
  | .iinc k n => match ldV ls k with
    | some (.inl z) => if k < nL then some (st1 ls k (vi (z + n)), st) else none
    | _ => none
  | .iadd => match st with
    | .inl b :: .inl a :: r => some (ls, vi (a + b) :: r)
    | _ => none
  | .isub => match st with
    | .inl b :: .inl a :: r => some (ls, vi (a - b) :: r)
    | _ => none
  | .imul => match st with
    | .inl b :: .inl a :: r => some (ls, vi (a * b) :: r)
    | _ => none
  | .ineg => match st with
    | .inl a :: r => some (ls, vi (-a) :: r)
    | _ => none
  | .ladd => match st with
    | .inr (.inl b) :: .inr (.inl a) :: r => some (ls, vl (a + b) :: r)
    | _ => none
  | .lsub => match st with
    | .inr (.inl b) :: .inr (.inl a) :: r => some (ls, vl (a - b) :: r)
    | _ => none
  | .lmul => match st with
    | .inr (.inl b) :: .inr (.inl a) :: r => some (ls, vl (a * b) :: r)
    | _ => none
  | .lneg => match st with
    | .inr (.inl a) :: r => some (ls, vl (-a) :: r)
    | _ => none
  | .l2i => match st with
    | .inr (.inl a) :: r => some (ls, vi a :: r)
    | _ => none
  | .i2b => match st with
    | .inl a :: r => some (ls, vi (w8 a) :: r)
    | _ => none
  | .dup => match st with
    | .inl a :: r => some (ls, vi a :: vi a :: r)
    | .inr (.inr a) :: r => some (ls, vo a :: vo a :: r)
    | _ => none
  | .pop => match st with
    | .inl _ :: r => some (ls, r)
    | .inr (.inr _) :: r => some (ls, r)
    | _ => none
  | .dup2 => match st with
    | .inr (.inl a) :: r => some (ls, vl a :: vl a :: r)
    | .inl a :: .inr (.inr b) :: r => some (ls, vi a :: vo b :: vi a :: vo b :: r)
    | _ => none
  | _ => none
def ilen (i : Instr) : Nat := match i with
  | .bipush _ => 2
  | .sipush _ => 3
  | .iload _ => 2
  | .lload _ => 2
  | .aload _ => 2
  | .istore _ => 2
  | .lstore _ => 2
  | .astore _ => 2
  | .iinc _ _ => 3
  | _ => 1
def cond0 (base : Nat) (r : Option (Nat × Nat)) : Value := va_rf (r.map (adr base))
section
variable {p : Program} {l : Launch} {e : Env} {R : Room} {s : State} {m : MethodId} {args : Array Value} {below : List Frame} {meth : Method} {c : Code} {H : Heap} {locs : List Loc} {cells slots : Nat} {Q : State → Prop} {cc : ByteArray} {pc : Nat} {lsR : Array Slot} {rest : List Value}
theorem x_aload_n (hexec : p.tables.exec = Jvm.exec) (hb : c.code = cc) {k : Fin 4} {r : Option Nat} (hdg : decode cc pc = .ok (.aload_n k, 1)) (hl : lsR[(k : Nat)]? = some (.val (va_rf r))) (kk : W p l e R s m args below meth c H locs cells slots Q (F0 m (pc + 1) lsR (va_rf r :: rest))) : W p l e R s m args below meth c H locs cells slots Q (F0 m pc lsR rest) := by
  cases r with
  | none => exact lv_aload_nN hexec hb hdg rfl hl kk
  | some a => exact lv_aload_n hexec hb hdg rfl hl kk
theorem x_aload (hexec : p.tables.exec = Jvm.exec) (hb : c.code = cc) {k : Nat} {r : Option Nat} (hdg : decode cc pc = .ok (.aload k, 2)) (hl : lsR[k]? = some (.val (va_rf r))) (kk : W p l e R s m args below meth c H locs cells slots Q (F0 m (pc + 2) lsR (va_rf r :: rest))) : W p l e R s m args below meth c H locs cells slots Q (F0 m pc lsR rest) := by
  cases r with
  | none => exact lv_aloadN hexec hb hdg hl kk
  | some a => exact lv_aload hexec hb hdg hl kk
theorem x_astore_n (hexec : p.tables.exec = Jvm.exec) (hb : c.code = cc) {k : Fin 4} {nL : Nat} {r : Option Nat} {lv : List (Nat × Value)} (hdg : decode cc pc = .ok (.astore_n k, 1)) (h : lv_has lsR nL lv) (hn : (k : Nat) < nL)
    (kk : ∀ ls' : Array Slot, lv_has ls' nL (((k : Nat), va_rf r) :: lv.filter (fun q => !(q.1 == (k : Nat)) && !(q.1 + 1 == (k : Nat) && q.2.category == 2))) → W p l e R s m args below meth c H locs cells slots Q (F0 m (pc + 1) ls' rest)) : W p l e R s m args below meth c H locs cells slots Q (F0 m pc lsR (va_rf r :: rest)) := by
  cases r with
  | none => exact lv_astore_nN hexec hb hdg rfl h hn rfl kk
  | some a => exact lv_astore_n hexec hb hdg rfl h hn rfl kk
theorem x_astore (hexec : p.tables.exec = Jvm.exec) (hb : c.code = cc) {k : Nat} {nL : Nat} {r : Option Nat} {lv : List (Nat × Value)} (hdg : decode cc pc = .ok (.astore k, 2)) (h : lv_has lsR nL lv) (hn : k < nL)
    (kk : ∀ ls' : Array Slot, lv_has ls' nL ((k, va_rf r) :: lv.filter (fun q => !(q.1 == k) && !(q.1 + 1 == k && q.2.category == 2))) → W p l e R s m args below meth c H locs cells slots Q (F0 m (pc + 2) ls' rest)) : W p l e R s m args below meth c H locs cells slots Q (F0 m pc lsR (va_rf r :: rest)) := by
  cases r with
  | none => exact lv_astoreN hexec hb hdg h hn rfl kk
  | some a => exact lv_astore hexec hb hdg h hn rfl kk
end
theorem ldV_of {ls : LSt} {i : Nat} {v : AV} (h : ldV ls i = some v) : ls[i]? = some (some v) := by
  unfold ldV at h
  split at h
  · rename_i w hw
    cases h
    exact hw
  · cases h
theorem rf_cat (r : Option Nat) : (va_rf r).category = 1 := by cases r <;> rfl
set_option maxHeartbeats 4000000 in
theorem aw_step1 {G : GT} {M : MI} {Qr : Option AV → HT → Prop} {Qt : HT → Prop} {cs sl pc : Nat} {ls ls' : LSt} {st st' : List AV} {h : HT} {i : Instr} (hd : decode M.2.1 pc = .ok (i, ilen i)) (hs : step1 i M.2.2.1 ls st = some (ls', st'))
    (k : AW G M Qr Qt cs sl (pc + ilen i) ls' st' h) : AW G M Qr Qt cs sl pc ls st h := by
  intro p e s m args below meth c H locs lsR C R S L
  have hx := C.1
  have hb := C.2.1
  have k0 := fun lsR L => k p e s m args below meth c H locs lsR C R S L
  clear k
  cases i <;> simp only [step1, ilen] at hs hd k0 <;> (try (cases hs; done))
  case aconst_null =>
    cases hs
    exact lv_null hx hb hd (k0 lsR L)
  case aload i =>
    split at hs
    · rename_i r hr
      cases hs
      exact x_aload hx hb hd (lv_get L (ldV_of hr)) (k0 lsR L)
    · cases hs
  case aload_n i =>
    split at hs
    · rename_i r hr
      cases hs
      exact x_aload_n hx hb hd (lv_get L (ldV_of hr)) (k0 lsR L)
    · cases hs
  case astore i =>
    split at hs
    · split at hs
      · rename_i hn
        cases hs
        exact x_astore hx hb hd L hn (fun ls' L' => k0 ls' (lv_less L' st1_in))
      · cases hs
    · cases hs
  case astore_n i =>
    split at hs
    · split at hs
      · rename_i hn
        cases hs
        exact x_astore_n hx hb hd L hn (fun ls' L' => k0 ls' (lv_less L' st1_in))
      · cases hs
    · cases hs
  case bipush n =>
    split at hs
    · rename_i hn
      cases hs
      exact lv_bipush hx hb hd (i_b8 hn.1 hn.2) (k0 lsR L)
    · cases hs
  case sipush n =>
    split at hs
    · rename_i hn
      cases hs
      exact lv_sipush hx hb hd (i_b16 hn.1 hn.2) (k0 lsR L)
    · cases hs
  case iconst n =>
    cases hs
    exact lv_iconst hx hb hd rfl (k0 lsR L)
  case lconst n =>
    cases hs
    exact lv_lconst hx hb hd (l_nat _) (k0 lsR L)
  case iload i =>
    split at hs
    · rename_i r hr
      cases hs
      exact lv_iload hx hb hd (lv_get L (ldV_of hr)) (k0 lsR L)
    · cases hs
  case iload_n i =>
    split at hs
    · rename_i r hr
      cases hs
      exact lv_iload_n hx hb hd rfl (lv_get L (ldV_of hr)) (k0 lsR L)
    · cases hs
  case lload i =>
    split at hs
    · rename_i r hr
      cases hs
      exact lv_lload hx hb hd (lv_get L (ldV_of hr)) (k0 lsR L)
    · cases hs
  case lload_n i =>
    split at hs
    · rename_i r hr
      cases hs
      exact lv_lload_n hx hb hd rfl (lv_get L (ldV_of hr)) (k0 lsR L)
    · cases hs
  case istore i =>
    split at hs
    · split at hs
      · rename_i hn
        cases hs
        exact lv_istore hx hb hd L hn rfl (fun ls' L' => k0 ls' (lv_less L' st1_in))
      · cases hs
    · cases hs
  case istore_n i =>
    split at hs
    · split at hs
      · rename_i hn
        cases hs
        exact lv_istore_n hx hb hd rfl L hn rfl (fun ls' L' => k0 ls' (lv_less L' st1_in))
      · cases hs
    · cases hs
  case lstore i =>
    split at hs
    · split at hs
      · rename_i hn
        cases hs
        exact lv_lstore hx hb hd L hn rfl (fun ls' L' => k0 ls' (lv_less L' st2_in))
      · cases hs
    · cases hs
  case lstore_n i =>
    split at hs
    · split at hs
      · rename_i hn
        cases hs
        exact lv_lstore_n hx hb hd rfl L hn rfl (fun ls' L' => k0 ls' (lv_less L' st2_in))
      · cases hs
    · cases hs
  case iinc i n =>
    split at hs
    · rename_i z hz
      split at hs
      · rename_i hn
        cases hs
        have hm := lvP_mem (base := G.2.2.2) ls 0 i _ (ldV_of hz)
        obtain ⟨q, hq⟩ := List.getElem?_of_mem hm
        exact lv_iinc (k := q) (x := Int32.ofInt z) (v := Int32.ofInt (z + n)) hx hb hd L (by rw [hq]; simp [conc]) (i_add z n).symm hn rfl (fun ls' L' => k0 ls' (lv_less L' st1_in))
      · cases hs
    · cases hs
  case iadd =>
    split at hs
    · cases hs
      simp only [List.map, conc, i_add] at k0
      exact lv_iadd hx hb hd (k0 lsR L)
    · cases hs
  case isub =>
    split at hs
    · cases hs
      simp only [List.map, conc, i_sub] at k0
      exact lv_isub hx hb hd (k0 lsR L)
    · cases hs
  case imul =>
    split at hs
    · cases hs
      simp only [List.map, conc, i_mul] at k0
      exact lv_imul hx hb hd (k0 lsR L)
    · cases hs
  case ineg =>
    split at hs
    · cases hs
      simp only [List.map, conc, i_neg] at k0
      exact lv_ineg hx hb hd (k0 lsR L)
    · cases hs
  case ladd =>
    split at hs
    · cases hs
      simp only [List.map, conc, l_add] at k0
      exact lv_ladd hx hb hd (k0 lsR L)
    · cases hs
  case lsub =>
    split at hs
    · cases hs
      simp only [List.map, conc, l_sub] at k0
      exact lv_lsub hx hb hd (k0 lsR L)
    · cases hs
  case lmul =>
    split at hs
    · cases hs
      simp only [List.map, conc, l_mul] at k0
      exact lv_lmul hx hb hd (k0 lsR L)
    · cases hs
  case lneg =>
    split at hs
    · cases hs
      simp only [List.map, conc, l_neg] at k0
      exact lv_lneg hx hb hd (k0 lsR L)
    · cases hs
  case l2i =>
    split at hs
    · cases hs
      exact lv_l2i hx hb hd (li_to _) (k0 lsR L)
    · cases hs
  case i2b =>
    split at hs
    · cases hs
      exact lv_i2b hx hb hd (i_byte _) (k0 lsR L)
    · cases hs
  case dup =>
    split at hs
    · cases hs
      exact lv_dup hx hb hd rfl (k0 lsR L)
    · cases hs
      exact lv_dup hx hb hd (rf_cat _) (k0 lsR L)
    · cases hs
  case pop =>
    split at hs
    · cases hs
      exact lv_pop hx hb hd rfl (k0 lsR L)
    · cases hs
      exact lv_pop hx hb hd (rf_cat _) (k0 lsR L)
    · cases hs
  case dup2 =>
    split at hs
    · cases hs
      exact lv_dup2_2 hx hb hd rfl (k0 lsR L)
    · cases hs
      exact lv_dup2_11 hx hb hd rfl (rf_cat _) (k0 lsR L)
    · cases hs
