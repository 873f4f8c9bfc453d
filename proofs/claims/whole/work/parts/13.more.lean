/-! calls with one outcome; switches; shifts and masks -/
abbrev ADet (G : GT) (M : MI) (as : List AV) (h : HT) (r : Option AV) (h' : HT) : Prop := AMet G M as h (fun x g => x = r ∧ g = h') (fun _ => False)
section
variable {G : GT} {M M' : MI} {Qr Qr' : Option AV → HT → Prop} {Qt Qt' : HT → Prop} {cs sl pc cs' sl' pc' : Nat} {ls : LSt} {st st' : List AV} {h h' : HT} {a b o : Int} {tgt s q n idx : Nat} {r : Option AV}
theorem aw_dV {as : List AV} {ci : Nat} {fs : List AV} {stk : List AV} (hM : ADet G M' (vr s q :: as) h r h') (hd : decode M.2.1 pc = .ok (.invokevirtual idx, 3)) (hw : vOK M.1.cls idx M' as.length = true) (hg : hget h s q = some (ob ci fs)) (hci : (cls[ci]?).map (fun r => r.1) = some M'.1.cls) (hst : stk = as.reverse ++ vr s q :: st) (hcat : catS st ≤ 8) (hd1 : M'.2.2.2.2.1 + 1 ≤ M.2.2.2.2.1) (hc : cs + M'.2.2.2.2.2.1 ≤ M.2.2.2.2.2.1) (hs : sl + M'.2.2.2.2.2.2 ≤ M.2.2.2.2.2.2)
    (e1 : cs + M'.2.2.2.2.2.1 = cs') (e2 : sl + M'.2.2.2.2.2.2 = sl') (e3 : pc + 3 = pc') (e4 : r.toList ++ st = st') (k : AW G M Qr Qt cs' sl' pc' ls st' h') : AW G M Qr Qt cs sl pc ls stk h := by
  subst e1 e2 e3 e4
  exact aw_callV hM hd hw hg hci hst hcat hd1 hc hs (fun _ z => z.elim) (fun r9 h9 z => by obtain ⟨rfl, rfl⟩ := z; exact k)
theorem aw_dS {as : List AV} {stk : List AV} (hM : ADet G M' as h r h') (hd : decode M.2.1 pc = .ok (.invokestatic idx, 3)) (hw : sOK M.1.cls idx M' as.length = true) (hst : stk = as.reverse ++ st) (hcat : catS st ≤ 8) (hd1 : M'.2.2.2.2.1 + 1 ≤ M.2.2.2.2.1) (hc : cs + M'.2.2.2.2.2.1 ≤ M.2.2.2.2.2.1) (hs : sl + M'.2.2.2.2.2.2 ≤ M.2.2.2.2.2.2)
    (e1 : cs + M'.2.2.2.2.2.1 = cs') (e2 : sl + M'.2.2.2.2.2.2 = sl') (e3 : pc + 3 = pc') (e4 : r.toList ++ st = st') (k : AW G M Qr Qt cs' sl' pc' ls st' h') : AW G M Qr Qt cs sl pc ls stk h := by
  subst e1 e2 e3 e4
  exact aw_callS hM hd hw hst hcat hd1 hc hs (fun _ z => z.elim) (fun r9 h9 z => by obtain ⟨rfl, rfl⟩ := z; exact k)
theorem aw_dSN {as : List AV} {stk : List AV} (hM : ADet G M' as h r h') (hd : decode M.2.1 pc = .ok (.invokestatic idx, 3)) (hw : snOK M.1.cls idx M' as.length = true) (hst : stk = as.reverse ++ st) (hcat : catS st ≤ 8) (hd1 : M'.2.2.2.2.1 + 1 ≤ M.2.2.2.2.1) (hc : cs + M'.2.2.2.2.2.1 ≤ M.2.2.2.2.2.1) (hs : sl + M'.2.2.2.2.2.2 ≤ M.2.2.2.2.2.2)
    (e1 : cs + M'.2.2.2.2.2.1 = cs') (e2 : sl + M'.2.2.2.2.2.2 = sl') (e3 : pc + 3 = pc') (e4 : r.toList ++ st = st') (k : AW G M Qr Qt cs' sl' pc' ls st' h') : AW G M Qr Qt cs sl pc ls stk h := by
  subst e1 e2 e3 e4
  exact aw_callSN hM hd hw hst hcat hd1 hc hs (fun r9 h9 z => by obtain ⟨rfl, rfl⟩ := z; exact k)
theorem aw_dI {as : List AV} {stk : List AV} (hM : ADet G M' (vr s q :: as) h r h') (hd : decode M.2.1 pc = .ok (.invokespecial idx, 3)) (hw : iOK M.1.cls idx M' as.length = true) (hst : stk = as.reverse ++ vr s q :: st) (hcat : catS st ≤ 8) (hd1 : M'.2.2.2.2.1 + 1 ≤ M.2.2.2.2.1) (hc : cs + M'.2.2.2.2.2.1 ≤ M.2.2.2.2.2.1) (hs : sl + M'.2.2.2.2.2.2 ≤ M.2.2.2.2.2.2)
    (e1 : cs + M'.2.2.2.2.2.1 = cs') (e2 : sl + M'.2.2.2.2.2.2 = sl') (e3 : pc + 3 = pc') (e4 : r.toList ++ st = st') (k : AW G M Qr Qt cs' sl' pc' ls st' h') : AW G M Qr Qt cs sl pc ls stk h := by
  subst e1 e2 e3 e4
  exact aw_callI hM hd hw hst hcat hd1 hc hs (fun r9 h9 z => by obtain ⟨rfl, rfl⟩ := z; exact k)
theorem aw_dIN {as : List AV} {stk : List AV} (hM : ADet G M' (vr s q :: as) h r h') (hd : decode M.2.1 pc = .ok (.invokespecial idx, 3)) (hw : inOK M.1.cls idx M' as.length = true) (hst : stk = as.reverse ++ vr s q :: st) (hcat : catS st ≤ 8) (hd1 : M'.2.2.2.2.1 + 1 ≤ M.2.2.2.2.1) (hc : cs + M'.2.2.2.2.2.1 ≤ M.2.2.2.2.2.1) (hs : sl + M'.2.2.2.2.2.2 ≤ M.2.2.2.2.2.2)
    (e1 : cs + M'.2.2.2.2.2.1 = cs') (e2 : sl + M'.2.2.2.2.2.2 = sl') (e3 : pc + 3 = pc') (e4 : r.toList ++ st = st') (k : AW G M Qr Qt cs' sl' pc' ls st' h') : AW G M Qr Qt cs sl pc ls stk h := by
  subst e1 e2 e3 e4
  exact aw_callIN hM hd hw hst hcat hd1 hc hs (fun r9 h9 z => by obtain ⟨rfl, rfl⟩ := z; exact k)
theorem aw_tabOut {dflt lo hi : Int} {offs : Array Int} {len : Nat} (hd : decode M.2.1 pc = .ok (.tableswitch dflt lo hi offs, len)) (ha : I32 a) (hz : a < lo ∨ hi < a) (ht : (pc : Int) + dflt = (tgt : Int)) (k : AW G M Qr Qt cs sl tgt ls st h) : AW G M Qr Qt cs sl pc ls (vi a :: st) h := by
  intro p e s0 m args below meth c H locs lsR C R S L
  exact lv_tableOut C.1 C.2.1 hd (by rw [i_to ha]; exact hz) ht (k p e s0 m args below meth c H locs lsR C R S L)
theorem aw_tabIn {dflt lo hi : Int} {offs : Array Int} {len : Nat} (hd : decode M.2.1 pc = .ok (.tableswitch dflt lo hi offs, len)) (ha : I32 a) (h1 : lo ≤ a) (h2 : a ≤ hi) (ho : offs[(a - lo).toNat]? = some o) (ht : (pc : Int) + o = (tgt : Int)) (k : AW G M Qr Qt cs sl tgt ls st h) : AW G M Qr Qt cs sl pc ls (vi a :: st) h := by
  intro p e s0 m args below meth c H locs lsR C R S L
  exact lv_tableIn C.1 C.2.1 hd (by rw [i_to ha]; omega) (by rw [i_to ha]; omega) (by rw [i_to ha]; exact ho) ht (k p e s0 m args below meth c H locs lsR C R S L)
theorem i_tn (a : Int) : ((Int32.ofInt a).toBitVec.toNat : Int) = a % 4294967296 := by
  rw [show (Int32.ofInt a).toBitVec = BitVec.ofInt 32 a from rfl, BitVec.toNat_ofInt]
  have : 0 ≤ a % ((2 ^ 32 : Nat) : Int) := Int.emod_nonneg a (by decide)
  omega
/-- a mask of low bits -/
theorem i_mask {a : Int} {m : Int32} (k : Nat) (hk : k ≤ 30) (hm : m.toBitVec.toNat = 2 ^ k - 1) : Int32.ofInt a &&& m = Int32.ofInt (a % ((2 ^ k : Nat) : Int)) := by
  rw [pk_and (Int32.ofInt a) k hm]
  have h1 := i_tn a
  have h2 : ((((Int32.ofInt a).toBitVec.toNat % 2 ^ k : Nat)) : Int) = a % ((2 ^ k : Nat) : Int) := by
    rw [Int.natCast_emod, h1]
    have : ((2 ^ k : Nat) : Int) ∣ 4294967296 := by
      refine ⟨((2 ^ (32 - k) : Nat) : Int), ?_⟩
      rw [← Int.natCast_mul, ← Nat.pow_add, show k + (32 - k) = 32 by omega]
      rfl
    exact Int.emod_emod_of_dvd a this
  rw [← h2]
  rfl
theorem aw_and {z p9 : Int} (k : Nat) (hd : decode M.2.1 pc = .ok (.iand, 1)) (hk : k ≤ 30) (hz : (Int32.ofInt z).toBitVec.toNat = 2 ^ k - 1) (hp : ((2 ^ k : Nat) : Int) = p9) (kk : AW G M Qr Qt cs sl (pc + 1) ls (vi (a % p9) :: st) h) : AW G M Qr Qt cs sl pc ls (vi z :: vi a :: st) h := by
  intro p e s0 m args below meth c H locs lsR C R S L
  refine lv_iand C.1 C.2.1 hd ?_
  rw [i_mask k hk hz, hp]
  exact kk p e s0 m args below meth c H locs lsR C R S L
theorem sh_k : ∀ k : Fin 32, ((Int32.ofInt (k.val : Int) &&& 31).toBitVec.smod 32).toNat = k.val := by decide +kernel
theorem sh_u : ∀ k : Fin 32, (((Int32.ofInt (k.val : Int)).toUInt32 &&& Int32.toUInt32 31).toBitVec % 32).toNat = k.val := by decide +kernel
theorem i_shr {a : Int} (ha : I32 a) (k : Nat) (hk : k < 32) : Int32.ofInt a >>> (Int32.ofInt (k : Int) &&& 31) = Int32.ofInt (a / ((2 ^ k : Nat) : Int)) := by
  have h1 := pk_shr (Int32.ofInt a) (Int32.ofInt (k : Int) &&& 31) k (sh_k ⟨k, hk⟩)
  rw [i_to ha, Int.shiftRight_eq_div_pow] at h1
  rw [← h1, i_of]
theorem aw_shr {z p9 : Int} (k : Nat) (hd : decode M.2.1 pc = .ok (.ishr, 1)) (ha : I32 a) (hz : z = (k : Int)) (hk : k < 32) (hp : ((2 ^ k : Nat) : Int) = p9) (kk : AW G M Qr Qt cs sl (pc + 1) ls (vi (a / p9) :: st) h) : AW G M Qr Qt cs sl pc ls (vi z :: vi a :: st) h := by
  intro p e s0 m args below meth c H locs lsR C R S L
  subst hz
  refine lv_ishr C.1 C.2.1 hd ?_
  rw [i_shr ha k hk, hp]
  exact kk p e s0 m args below meth c H locs lsR C R S L
theorem aw_ushr {z p9 : Int} (k : Nat) (hd : decode M.2.1 pc = .ok (.iushr, 1)) (hz : z = (k : Int)) (hk : k < 32) (hp : ((2 ^ k : Nat) : Int) = p9) (kk : AW G M Qr Qt cs sl (pc + 1) ls (vi ((a % 4294967296) / p9) :: st) h) : AW G M Qr Qt cs sl pc ls (vi z :: vi a :: st) h := by
  intro p e s0 m args below meth c H locs lsR C R S L
  subst hz
  refine lv_iushr C.1 C.2.1 hd (v := Int32.ofInt ((a % 4294967296) / p9)) ?_ (kk p e s0 m args below meth c H locs lsR C R S L)
  have h1 := pk_ushr (Int32.ofInt a) (Int32.ofInt (k : Int)) k (sh_u ⟨k, hk⟩)
  have h2 := i_tn a
  have h3 : ((a % 4294967296) / p9) = (((Int32.ofInt a).toBitVec.toNat / 2 ^ k : Nat) : Int) := by
    rw [Int.natCast_ediv, h2, hp]
  rw [h3, ← h1]
  apply Int32.toBitVec_inj.mp
  apply BitVec.eq_of_toNat_eq
  have h4 := i_tn ((((Int32.ofInt a).toUInt32 >>> ((Int32.ofInt (k : Int)).toUInt32 &&& Int32.toUInt32 31)).toInt32.toBitVec.toNat : Nat) : Int)
  have h5 := ((Int32.ofInt a).toUInt32 >>> ((Int32.ofInt (k : Int)).toUInt32 &&& Int32.toUInt32 31)).toInt32.toBitVec.isLt
  omega
theorem aw_ishl1 {z p9 : Int} (k : Nat) (hd : decode M.2.1 pc = .ok (.ishl, 1)) (hz : z = (k : Int)) (hk : k ≤ 30) (hp : ((2 ^ k : Nat) : Int) = p9) (kk : AW G M Qr Qt cs sl (pc + 1) ls (vi p9 :: st) h) : AW G M Qr Qt cs sl pc ls (vi z :: vi 1 :: st) h := by
  intro p e s0 m args below meth c H locs lsR C R S L
  subst hz
  refine lv_ishl C.1 C.2.1 hd ?_
  have : ∀ k : Fin 31, Int32.ofInt 1 <<< (Int32.ofInt (k.val : Int) &&& 31) = Int32.ofInt ((2 ^ k.val : Nat) : Int) := by decide +kernel
  rw [this ⟨k, by omega⟩]
  show W p G.1 e (rmM M) s0 m args below meth c H locs cs sl _ (F0 m (pc + 1) lsR (.int (Int32.ofInt ((2 ^ k : Nat) : Int)) :: st.map (conc G.2.2.2)))
  rw [hp]
  exact kk p e s0 m args below meth c H locs lsR C R S L
theorem aw_lshl {z p9 : Int} (k : Nat) (hd : decode M.2.1 pc = .ok (.lshl, 1)) (hz : z = (k : Int)) (hk : k < 64) (hp : ((2 ^ k : Nat) : Int) = p9) (kk : AW G M Qr Qt cs sl (pc + 1) ls (vl (a * p9) :: st) h) : AW G M Qr Qt cs sl pc ls (vi z :: vl a :: st) h := by
  intro p e s0 m args below meth c H locs lsR C R S L
  subst hz
  refine lv_lshl C.1 C.2.1 hd (v := Int64.ofInt (a * p9)) ?_ (kk p e s0 m args below meth c H locs lsR C R S L)
  have h1 : ∀ k : Fin 64, ((Int32.ofInt (k.val : Int)).toInt64 &&& 63).toBitVec.smod 64 = BitVec.ofNat 64 k.val := by decide +kernel
  apply Int64.toBitVec_inj.mp
  rw [Int64.toBitVec_shiftLeft, h1 ⟨k, hk⟩, ← hp]
  show BitVec.ofInt 64 a <<< (BitVec.ofNat 64 k) = BitVec.ofInt 64 (a * ((2 ^ k : Nat) : Int))
  rw [BitVec.ofInt_mul, BitVec.shiftLeft_eq', BitVec.toNat_ofNat, Nat.mod_eq_of_lt (by omega), BitVec.shiftLeft_eq_mul_twoPow]
  congr 1
  rw [BitVec.ofInt_natCast]
  apply BitVec.eq_of_toNat_eq
  rw [BitVec.toNat_twoPow, BitVec.toNat_ofNat]
end
section
variable {G : GT} {M : MI} {Qr : Option AV → HT → Prop} {Qt : HT → Prop} {cs sl pc : Nat} {ls : LSt} {st : List AV} {h : HT} {a b : Int} {idx : Nat}
theorem aw_room {p : Program} {e : Env} {s : State} {m : MethodId} {args : Array Value} {below : List Frame} {meth : Method} {c : Code} {H : Heap} {locs : List Loc} {Q : State → Prop} {g : JFrame} (hc : cs ≤ M.2.2.2.2.2.1) (hs : sl ≤ M.2.2.2.2.2.2) (k : cs ≤ (rmM M).cells → sl ≤ (rmM M).slots → W p G.1 e (rmM M) s m args below meth c H locs cs sl Q g) : W p G.1 e (rmM M) s m args below meth c H locs cs sl Q g := k hc hs
def mW (own : String) (idx : Nat) (x : MethodName) (code : ByteArray) (n : Nat) (ret : Option FieldType) : Bool := decide (Cond.methodLink own idx x ∈ lw_tbl) && decide (Cond.static x ∈ lw_tbl) && decide (Cond.initialized "java/lang/Math" ∈ lw_tbl) && decide (Cond.code x code n ret ∈ lw_tbl)
theorem aw_mmax (hd : decode M.2.1 pc = .ok (.invokestatic idx, 3)) (hw : mW M.1.cls idx Lib.Math.max.name Lib.Math.max.code 2 (some .int) = true) (hcat : catS st ≤ 8) (hd1 : 1 ≤ M.2.2.2.2.1) (hc : cs ≤ M.2.2.2.2.2.1) (hs : sl ≤ M.2.2.2.2.2.2) (ha : I32 a) (hb : I32 b) (k : AW G M Qr Qt cs sl (pc + 3) ls (vi (if a < b then b else a) :: st) h) : AW G M Qr Qt cs sl pc ls (vi b :: vi a :: st) h := by
  intro p e s0 m args below meth c H locs lsR C R S L
  simp only [mW, Bool.and_eq_true, decide_eq_true_eq] at hw
  obtain ⟨hx, hb9, hr9, hml, hown, hts, hlk, -⟩ := id C
  have k0 := k p e s0 m args below meth c H locs lsR C R S L
  refine va_mmax hx hb9 (by rw [hml]; exact L.1.symm) hown (hts _ (tb_mem hw.1.1.1 rfl)) (hts _ (tb_mem hw.1.1.2 rfl)) (hts _ (tb_mem hw.1.2 rfl)) (hts _ (tb_mem hw.2 rfl)) hd1 (by rw [catS_eq]; show _ ≤ 60 * M.2.2.2.2.1; omega) hc hs hd ?_
  have : (if Int32.ofInt a < Int32.ofInt b then Int32.ofInt b else Int32.ofInt a) = Int32.ofInt (if a < b then b else a) := by
    simp only [i_lt ha hb]; split <;> rfl
  rw [this]
  exact k0
theorem aw_mmin (hd : decode M.2.1 pc = .ok (.invokestatic idx, 3)) (hw : mW M.1.cls idx Lib.Math.min.name Lib.Math.min.code 2 (some .int) = true) (hcat : catS st ≤ 8) (hd1 : 1 ≤ M.2.2.2.2.1) (hc : cs ≤ M.2.2.2.2.2.1) (hs : sl ≤ M.2.2.2.2.2.2) (ha : I32 a) (hb : I32 b) (k : AW G M Qr Qt cs sl (pc + 3) ls (vi (if b < a then b else a) :: st) h) : AW G M Qr Qt cs sl pc ls (vi b :: vi a :: st) h := by
  intro p e s0 m args below meth c H locs lsR C R S L
  simp only [mW, Bool.and_eq_true, decide_eq_true_eq] at hw
  obtain ⟨hx, hb9, hr9, hml, hown, hts, hlk, -⟩ := id C
  have k0 := k p e s0 m args below meth c H locs lsR C R S L
  refine va_mmin hx hb9 (by rw [hml]; exact L.1.symm) hown (hts _ (tb_mem hw.1.1.1 rfl)) (hts _ (tb_mem hw.1.1.2 rfl)) (hts _ (tb_mem hw.1.2 rfl)) (hts _ (tb_mem hw.2 rfl)) hd1 (by rw [catS_eq]; show _ ≤ 60 * M.2.2.2.2.1; omega) hc hs hd ?_
  have : (if Int32.ofInt b < Int32.ofInt a then Int32.ofInt b else Int32.ofInt a) = Int32.ofInt (if b < a then b else a) := by
    simp only [i_lt hb ha]; split <;> rfl
  rw [this]
  exact k0
theorem aw_mmaxJ (hd : decode M.2.1 pc = .ok (.invokestatic idx, 3)) (hw : mW M.1.cls idx Lib.MathLoose.max_long.x Lib.MathLoose.max_long.code 4 (some .long) = true) (hcat : catS st ≤ 8) (hd1 : 1 ≤ M.2.2.2.2.1) (hc : cs ≤ M.2.2.2.2.2.1) (hs : sl ≤ M.2.2.2.2.2.2) (ha : I64 a) (hb : I64 b) (k : AW G M Qr Qt cs sl (pc + 3) ls (vl (if b < a then a else b) :: st) h) : AW G M Qr Qt cs sl pc ls (vl b :: vl a :: st) h := by
  intro p e s0 m args below meth c H locs lsR C R S L
  simp only [mW, Bool.and_eq_true, decide_eq_true_eq] at hw
  obtain ⟨hx, hb9, hr9, hml, hown, hts, hlk, -⟩ := id C
  have k0 := k p e s0 m args below meth c H locs lsR C R S L
  refine va_mmax_long hx hb9 (by rw [hml]; exact L.1.symm) hown (hts _ (tb_mem hw.1.1.1 rfl)) (hts _ (tb_mem hw.1.1.2 rfl)) (hts _ (tb_mem hw.1.2 rfl)) (hts _ (tb_mem hw.2 rfl)) hd1 (by rw [catS_eq]; show _ ≤ 60 * M.2.2.2.2.1; omega) hc hs hd ?_
  have : (if Int64.ofInt b < Int64.ofInt a then Int64.ofInt a else Int64.ofInt b) = Int64.ofInt (if b < a then a else b) := by
    simp only [l_lt hb ha]; split <;> rfl
  rw [this]
  exact k0
theorem aw_mminJ (hd : decode M.2.1 pc = .ok (.invokestatic idx, 3)) (hw : mW M.1.cls idx Lib.MathLoose.min_long.x Lib.MathLoose.min_long.code 4 (some .long) = true) (hcat : catS st ≤ 8) (hd1 : 1 ≤ M.2.2.2.2.1) (hc : cs ≤ M.2.2.2.2.2.1) (hs : sl ≤ M.2.2.2.2.2.2) (ha : I64 a) (hb : I64 b) (k : AW G M Qr Qt cs sl (pc + 3) ls (vl (if b < a then b else a) :: st) h) : AW G M Qr Qt cs sl pc ls (vl b :: vl a :: st) h := by
  intro p e s0 m args below meth c H locs lsR C R S L
  simp only [mW, Bool.and_eq_true, decide_eq_true_eq] at hw
  obtain ⟨hx, hb9, hr9, hml, hown, hts, hlk, -⟩ := id C
  have k0 := k p e s0 m args below meth c H locs lsR C R S L
  refine va_mmin_long hx hb9 (by rw [hml]; exact L.1.symm) hown (hts _ (tb_mem hw.1.1.1 rfl)) (hts _ (tb_mem hw.1.1.2 rfl)) (hts _ (tb_mem hw.1.2 rfl)) (hts _ (tb_mem hw.2 rfl)) hd1 (by rw [catS_eq]; show _ ≤ 60 * M.2.2.2.2.1; omega) hc hs hd ?_
  have : (if Int64.ofInt b < Int64.ofInt a then Int64.ofInt b else Int64.ofInt a) = Int64.ofInt (if b < a then b else a) := by
    simp only [l_lt hb ha]; split <;> rfl
  rw [this]
  exact k0
theorem aw_mabsJ (hd : decode M.2.1 pc = .ok (.invokestatic idx, 3)) (hw : mW M.1.cls idx Lib.MathLoose.abs_long.x Lib.MathLoose.abs_long.code 2 (some .long) = true) (hcat : catS st ≤ 8) (hd1 : 1 ≤ M.2.2.2.2.1) (hc : cs ≤ M.2.2.2.2.2.1) (hs : sl ≤ M.2.2.2.2.2.2) (ha : I64 a) (k : AW G M Qr Qt cs sl (pc + 3) ls (vl (if 0 < a then a else -a) :: st) h) : AW G M Qr Qt cs sl pc ls (vl a :: st) h := by
  intro p e s0 m args below meth c H locs lsR C R S L
  simp only [mW, Bool.and_eq_true, decide_eq_true_eq] at hw
  obtain ⟨hx, hb9, hr9, hml, hown, hts, hlk, -⟩ := id C
  have k0 := k p e s0 m args below meth c H locs lsR C R S L
  refine va_mabs_long hx hb9 (by rw [hml]; exact L.1.symm) hown (hts _ (tb_mem hw.1.1.1 rfl)) (hts _ (tb_mem hw.1.1.2 rfl)) (hts _ (tb_mem hw.1.2 rfl)) (hts _ (tb_mem hw.2 rfl)) hd1 (by rw [catS_eq]; show _ ≤ 60 * M.2.2.2.2.1; omega) hc hs hd ?_
  have : (if 0 < Int64.ofInt a then Int64.ofInt a else -Int64.ofInt a) = Int64.ofInt (if 0 < a then a else -a) := by
    rw [show (0 : Int64) = Int64.ofInt 0 from rfl]
    simp only [l_lt z64 ha]; split
    · rfl
    · exact (l_neg a).symm
  rw [this]
  exact k0
end
/-- the heap of the whole system: bench, shelf, tape, maker, difference, joint, tree, dice, the reference, what else was made -/
abbrev Hp (b s t mk df jo tr di mo dy : SG) : HT := (49 + dy.length, [b, s, t, mk, df, jo, tr, di, mo, dy])
section
variable {G : GT} {b s t mk df jo tr di mo dy : SG} {len : Int} {f : Nat → Int}
theorem m_T_length : ADet G M_T_length [vr 2 0] (Hp b s [some (ob 2 [vr 2 1, vi len]), some (ar 0 200 f)] mk df jo tr di mo dy) (some (vi len)) (Hp b s [some (ob 2 [vr 2 1, vi len]), some (ar 0 200 f)] mk df jo tr di mo dy) := by
  refine am_entry (by decide +kernel) (by decide +kernel) ?_
  refine aw_blk (pc' := 4) (ls' := [some (vr 2 0)]) (st' := [vi len]) [.inl (.aload_n 0), .inr (13, 2, 1)] 0 _ _ (by decide +kernel) rfl ?_
  exact aw_iret (by decide +kernel) rfl (by decide) (by decide) ⟨rfl, rfl⟩
end
