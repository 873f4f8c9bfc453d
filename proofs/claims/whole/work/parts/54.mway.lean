/-- a way by its bits -/
def lastI (A : List Int) : Int := A.getLastD 0
def wy (S : Int → Int) (b0 : Int) : List Bool → List Int → List Int → Option (List Int × List Int)
  | [], A, B => if lsU (rem_ S A B) = 5000 then some (A, B) else none
  | true :: bs, A, B => if lsU (rem_ S A B) ≠ 5000 ∧ ¬ lsU (rem_ S A B) < lastI B ∧ okB S A B (lsU (rem_ S A B)) = true then wy S b0 bs A (B ++ [lsU (rem_ S A B)]) else none
  | false :: bs, A, B => if lsU (rem_ S A B) ≠ 5000 ∧ ¬ lsU (rem_ S A B) - b0 < lastI A ∧ okA S A B (lsU (rem_ S A B) - b0) = true then wy S b0 bs (A ++ [lsU (rem_ S A B) - b0]) B else none
def bl (bits : Nat) : Nat → Nat → List Bool
  | _, 0 => []
  | k, c + 1 => decide (bits / 2 ^ k % 2 = 1) :: bl bits (k + 1) c
def cT : List Bool → Nat
  | [] => 0
  | true :: bs => cT bs + 1
  | false :: bs => cT bs
theorem cT_le : ∀ bs : List Bool, cT bs ≤ bs.length
  | [] => by simp [cT]
  | true :: bs => by have := cT_le bs; simp [cT]; omega
  | false :: bs => by have := cT_le bs; simp [cT]; omega
theorem bl_len (bits : Nat) : ∀ (c k : Nat), (bl bits k c).length = c
  | 0, _ => rfl
  | c + 1, k => by simp [bl, bl_len bits c (k + 1)]
theorem fsX_spec {su : Nat → Int} : ∀ (d k : Nat), k + d = 4005 → (fsX su d k = 2005 ∧ ∀ t, k ≤ t → t < 4005 → su t = 0) ∨ ∃ t, k ≤ t ∧ t < 4005 ∧ fsX su d k = (t : Int) - 2000 ∧ su t ≠ 0 ∧ ∀ t', k ≤ t' → t' < t → su t' = 0 := by
  intro d
  induction d with
  | zero => intro k e; exact Or.inl ⟨by simp only [fsX]; omega, fun t h1 h2 => by omega⟩
  | succ d ih =>
    intro k e
    rw [fsX]
    by_cases h : su k = 0
    · rw [if_pos h]
      rcases ih (k + 1) (by omega) with ⟨a, b⟩ | ⟨t, a1, a2, a3, a4, a5⟩
      · exact Or.inl ⟨a, fun t h1 h2 => by rcases Nat.lt_or_ge k t with z | z; exact b t z h2; rw [show t = k by omega]; exact h⟩
      · exact Or.inr ⟨t, by omega, a2, a3, a4, fun t' h1 h2 => by rcases Nat.lt_or_ge k t' with z | z; exact a5 t' z h2; rw [show t' = k by omega]; exact h⟩
    · rw [if_neg h]
      exact Or.inr ⟨k, Nat.le_refl k, by omega, rfl, h, fun t' h1 h2 => by omega⟩
theorem ls_X {su : Nat → Int} {R : Int → Int} (h : ∀ t, t < 4005 → su t = R (taM t)) (h0 : ∀ u, 0 ≤ R u) (hR : ∀ u, ¬ inR u → R u = 0) : (lsU R = 5000 ∧ fsX su 4005 0 = 2005) ∨ (lsU R ≠ 5000 ∧ inR (lsU R) ∧ fsX su 4005 0 = lsU R ∧ 0 < R (lsU R)) := by
  rcases lsU_F R with ⟨a, b⟩ | ⟨a, b, c⟩
  · refine Or.inl ⟨a, ?_⟩
    rcases fsX_spec (su := su) 4005 0 (by omega) with ⟨e, _⟩ | ⟨t, _, a2, a3, a4, _⟩
    · exact e
    · exfalso
      rw [h t a2] at a4
      by_cases hu : inR (taM t)
      · exact b _ hu (by have := h0 (taM t); omega)
      · exact a4 (hR _ hu)
  · refine Or.inr ⟨by omega, a, ?_, b⟩
    rcases fsX_spec (su := su) 4005 0 (by omega) with ⟨_, e⟩ | ⟨t, _, a2, a3, a4, a5⟩
    · exfalso
      have := e (lsU R + 2000).toNat (by omega) (by omega)
      rw [h _ (by omega), show taM (lsU R + 2000).toNat = lsU R by unfold taM; omega] at this
      omega
    · rw [a3]
      have h1 := h t a2
      have hu : inR (taM t) := by
        rcases Int.lt_or_le (taM t) (-1000) with z | z
        · exact absurd (by rw [h1]; exact hR _ (by omega)) a4
        · rcases Int.lt_or_le 1000 (taM t) with z2 | z2
          · exact absurd (by rw [h1]; exact hR _ (by omega)) a4
          · exact ⟨z, z2⟩
      have h2 : ¬ taM t < lsU R := fun z => c _ hu z (by have := h0 (taM t); rw [h1] at a4; omega)
      have h3 : ¬ lsU R < taM t := fun z => by
        have := a5 (lsU R + 2000).toNat (by omega) (by unfold taM at z; omega)
        rw [h _ (by omega), show taM (lsU R + 2000).toNat = lsU R by unfold taM; omega] at this
        omega
      unfold taM at h2 h3
      omega
def kpH (nf mf : Nat) (hn hn' : Nat → Int) : Prop := ∀ k, (nf ≤ k ∧ k < 6) ∨ 6 + mf ≤ k → hn' k = hn k
theorem kpH.up {nf mf k : Nat} {hn hn' : Nat → Int} {x : Int} (h : kpH nf mf hn hn') (hk : k < nf ∨ (6 ≤ k ∧ k < 6 + mf)) (h6 : nf ≤ 6) : kpH nf mf hn (va_up hn' k x) := fun j hj => by
  unfold va_up; rw [if_neg (by omega)]; exact h j hj
/-- what is known of the throws -/
def sOk (S : Int → Int) : Prop := (∀ u, 0 ≤ S u ∧ S u ≤ 40000000) ∧ ∀ u, ¬ inR u → S u = 0
def wI (S : Int → Int) (nf mf : Nat) (b0 : Int) (A B : List Int) (hn su : Nat → Int) : Prop := dP S nf mf b0 A B ∧ dV S taM 4005 A B hn (fun j => hn (6 + j)) su
section
variable {S : Int → Int} {nf mf : Nat} {b0 v : Int} {A B : List Int} {hn su : Nat → Int}
theorem wI.z (h : wI S nf mf b0 A B hn su) (hS : sOk S) : ∀ u, ¬ inR u → rem_ S A B u = 0 := fun u hu => by
  have a := h.1.2.2.2.2.2.2 u
  have b := hS.2 u hu
  have c := sm_nn A B u
  unfold rem_ at a ⊢
  omega
theorem wI.le (h : wI S nf mf b0 A B hn su) (hS : sOk S) (i : Nat) (hi : i < 4005) : 0 ≤ su i ∧ su i ≤ 40000000 := by
  rw [h.2.2.2 i hi]
  have a := h.1.2.2.2.2.2.2 (taM i)
  have b := (hS.1 (taM i)).2
  have c := sm_nn A B (taM i)
  unfold rem_ at a ⊢
  omega
theorem wI.ls (h : wI S nf mf b0 A B hn su) (hS : sOk S) : (lsU (rem_ S A B) = 5000 ∧ fsX su 4005 0 = 2005) ∨ (lsU (rem_ S A B) ≠ 5000 ∧ inR (lsU (rem_ S A B)) ∧ fsX su 4005 0 = lsU (rem_ S A B) ∧ 0 < rem_ S A B (lsU (rem_ S A B))) := ls_X h.2.2.2 h.1.2.2.2.2.2.2 (h.z hS)
theorem wI.hta (h : wI S nf mf b0 A B hn su) (hS : sOk S) : ∀ u, 0 < rem_ S A B u → ∃ i, i < 4005 ∧ taM i = u := fun u hu => by
  by_cases z : inR u
  · exact ⟨(u + 2000).toNat, by omega, by unfold taM; omega⟩
  · rw [h.z hS u z] at hu; omega
theorem pre_hn {k : Nat} {x : Int} (hp : pre B (fun j => hn (6 + j))) (hk : k < 6 ∨ 6 + B.length ≤ k) : pre B (fun j => va_up hn k x (6 + j)) := fun j w hj => by
  have hl : j < B.length := (List.getElem?_eq_some_iff.mp hj).1
  show va_up hn k x (6 + j) = w
  unfold va_up; rw [if_neg (by omega)]; exact hp j w hj
theorem pre_hA {k : Nat} {x : Int} (hp : pre A hn) (hk : A.length ≤ k) : pre A (va_up hn k x) := fun j w hj => by
  have hl : j < A.length := (List.getElem?_eq_some_iff.mp hj).1
  unfold va_up; rw [if_neg (by omega)]; exact hp j w hj
theorem lastI_eq (hp : pre A hn) (hl : 1 ≤ A.length) : hn (A.length - 1) = lastI A := by
  refine hp (A.length - 1) _ ?_
  unfold lastI
  rw [List.getLastD_eq_getLast?, List.getLast?_eq_getElem?, List.getElem?_eq_getElem (show A.length - 1 < A.length by omega)]
  rfl
theorem wI.tA (h : wI S nf mf b0 A B hn su) (hS : sOk S) (h6 : A.length < 6) : tkOK su taM 4005 v (fun j => va_up hn A.length v (6 + j)) B.length ↔ okA S A B v = true := by
  rw [tk_iff taM_inc h.2.2.2 h.1.2.2.2.2.2.2 (h.hta hS) (pre_hn h.2.2.1 (Or.inl h6)), okA_iff]
  constructor
  · intro g b hb; have := g b hb; rw [rem_A, show v + b - v = b by omega]; exact this
  · intro g b hb; have := g b hb; rw [rem_A, show v + b - v = b by omega] at this; exact this
theorem wI.tB (h : wI S nf mf b0 A B hn su) (hS : sOk S) (h6 : A.length ≤ 6) : tkOK su taM 4005 v (fun j => va_up hn (6 + B.length) v (0 + j)) A.length ↔ okB S A B v = true := by
  rw [tk_iff taM_inc h.2.2.2 h.1.2.2.2.2.2.2 (h.hta hS) (show pre A (fun j => va_up hn (6 + B.length) v (0 + j)) from fun j w hj => by show va_up hn (6 + B.length) v (0 + j) = w; rw [show 0 + j = j by omega]; exact pre_hA h.2.1 (by omega) j w hj), okB_iff]
  constructor
  · intro g b hb; have := g b hb; rw [rem_B, show v + b - v = b by omega]; exact this
  · intro g b hb; have := g b hb; rw [rem_B, show v + b - v = b by omega] at this; exact this
theorem wI.sA (h : wI S nf mf b0 A B hn su) (hn9 : A.length < nf) (h6 : A.length < 6) (hv : -2000 ≤ v ∧ v ≤ 2000) (ok : okA S A B v = true) : wI S nf mf b0 (A ++ [v]) B (va_up hn A.length v) (dcr su taM 4005 v (fun j => va_up hn A.length v (6 + j)) B.length) := by
  have hp := pre_hn (k := A.length) (x := v) h.2.2.1 (Or.inl h6)
  exact ⟨dP_A h.1 hn9 hv ok, pre_up h.2.1, hp, fun i hi => by unfold dcr; rw [if_pos hi, hits_cB B _ hp, h.2.2.2 i hi, rem_A]⟩
theorem wI.sB (h : wI S nf mf b0 A B hn su) (hn9 : B.length < mf) (h6 : A.length ≤ 6) (hv : -2000 ≤ v ∧ v ≤ 2000) (ok : okB S A B v = true) : wI S nf mf b0 A (B ++ [v]) (va_up hn (6 + B.length) v) (dcr su taM 4005 v (fun j => va_up hn (6 + B.length) v (0 + j)) A.length) := by
  have hp : pre A (fun j => va_up hn (6 + B.length) v (0 + j)) := fun j w hj => by show va_up hn (6 + B.length) v (0 + j) = w; rw [show 0 + j = j by omega]; exact pre_hA h.2.1 (by omega) j w hj
  refine ⟨dP_B h.1 hn9 hv ok, pre_hA h.2.1 (by omega), ?_, fun i hi => by unfold dcr; rw [if_pos hi, hits_cB A _ hp, h.2.2.2 i hi, rem_B]⟩
  have e : (fun j => va_up hn (6 + B.length) v (6 + j)) = va_up (fun j => hn (6 + j)) B.length v := by
    funext j
    unfold va_up
    by_cases z : j = B.length
    · rw [if_pos z, if_pos (by omega)]
    · rw [if_neg z, if_neg (by omega)]
  rw [e]
  exact pre_up h.2.2.1
theorem wI.fA (h : wI S nf mf b0 A B hn su) : ∀ j, j < A.length → -1000000 ≤ hn j ∧ hn j ≤ 1000000 := pre_fB h.2.1 h.1.2.2.2.2.1
theorem wI.fB (h : wI S nf mf b0 A B hn su) : ∀ j, j < B.length → -1000000 ≤ hn (6 + j) ∧ hn (6 + j) ≤ 1000000 := pre_fB h.2.2.1 h.1.2.2.2.2.2.1
end
def suF (S : Int → Int) (f : Nat → Int) (i : Nat) : Nat → Int := fun t => if 1000 ≤ t ∧ t < 1000 + i then S (taM t) else f t
theorem suF_0 {S : Int → Int} {f : Nat → Int} : suF S f 0 = f := by funext t; unfold suF; rw [if_neg (by omega)]
theorem suF_s {S : Int → Int} {f : Nat → Int} {i : Nat} : va_up (suF S f i) (1000 + i) (S (idv i)) = suF S f (i + 1) := by
  funext t
  unfold va_up suF
  by_cases h : t = 1000 + i
  · rw [if_pos h, if_pos (by omega), show taM t = idv i by unfold taM idv; omega]
  · rw [if_neg h]
    by_cases h2 : 1000 ≤ t ∧ t < 1000 + i
    · rw [if_pos h2, if_pos (by omega)]
    · rw [if_neg h2, if_neg (by omega)]
section
variable {G : GT} {h : HT} {b s t mk df jo tr di dy : SG} {a c d e B : Int} {n m k j i0 : Nat} {f g : Nat → Int} {th ln by9 dn ac bd pm pq tk fo f1 f2 : Int} {xtp xwg xwh xmd xsl xhw xhs xhd xha xp1 xp2 xp3 xl1 xl2 xrt xlf xdc xhn xsu : Nat → Int} {T : Int → Int} {p : Prop}
variable {q q2 K nf mf bits : Nat} {b0 : Int}
/-- the reference's throws -/
def mS (xwg : Nat → Int) (q : Nat) (W : Int) (nf mf : Nat) (u : Int) : Int := Int.tdiv (Tm xwg q u * (nf : Int) * (mf : Int)) W
theorem mS_ok (hTq : ∀ v, 0 ≤ Tm xwg q v ∧ Tm xwg q v ≤ 1048576) {W : Int} (hw : 1 ≤ W) (h1 : 1 ≤ nf ∧ nf ≤ 6) (h2 : 1 ≤ mf ∧ mf ≤ 6) : sOk (mS xwg q W nf mf) := by
  refine ⟨fun u => ?_, fun u hu => ?_⟩
  · have h := hTq u
    have a := Int.mul_le_mul h.2 (show (nf : Int) ≤ 6 by omega) (by omega) (by omega)
    have a0 := Int.mul_nonneg h.1 (show 0 ≤ (nf : Int) by omega)
    have c := Int.mul_le_mul a (show (mf : Int) ≤ 6 by omega) (by omega) (by omega)
    have c0 := Int.mul_nonneg a0 (show 0 ≤ (mf : Int) by omega)
    have := tdiv_nn (x := Tm xwg q u * (nf : Int) * (mf : Int)) (y := W) (B := 40000000) c0 (by omega) hw
    exact this
  · unfold mS
    rw [show Tm xwg q u = 0 by unfold Tm; rw [if_neg hu]]
    simp
theorem l_M_wy {Qr : Option AV → HT → Prop} {Qt : HT → Prop} {res : Option (List Int × List Int)} (h1 : 1 ≤ nf ∧ nf ≤ 6) (h2 : 1 ≤ mf ∧ mf ≤ 6) (hS : sOk (mS xwg q (xwh q) nf mf)) (hbR : inR b0) (hbt : bits < 1024) (hq : ∀ r h, (fun r h => (r = some (vi 1) ∧ ∃ A B hn su, res = some (A, B) ∧ dP (mS xwg q (xwh q) nf mf) nf mf b0 A B ∧ pre A hn ∧ pre B (fun j => hn (6 + j)) ∧ kpH nf mf xhn hn ∧ h = Hp b s t mk df jo tr di (sgM th ln by9 dn ac bd pm pq tk fo f1 f2 xtp xwg xwh xmd xsl xhw xhs xhd xha xp1 xp2 xp3 xl1 xl2 xrt xlf xdc hn su) dy) ∨ (r = some (vi 0) ∧ res = none ∧ ∃ hn su, kpH nf mf xhn hn ∧ h = Hp b s t mk df jo tr di (sgM th ln by9 dn ac bd pm pq tk fo f1 f2 xtp xwg xwh xmd xsl xhw xhs xhd xha xp1 xp2 xp3 xl1 xl2 xrt xlf xdc hn su) dy)) r h → Qr r h) : ∀ k, k ≤ nf + mf - 2 → ∀ (A Bl : List Int) (hn su : Nat → Int), wI (mS xwg q (xwh q) nf mf) nf mf b0 A Bl hn su → kpH nf mf xhn hn → cT (bl bits k (nf + mf - 2 - k)) + Bl.length = mf → (nf + mf - 2 - k) + A.length + Bl.length = nf + mf → wy (mS xwg q (xwh q) nf mf) b0 (bl bits k (nf + mf - 2 - k)) A Bl = res → AW G M_M_way Qr Qt 0 0 118 [some (vr 8 0), some (vi (q : Int)), some (vi (nf : Int)), some (vi (mf : Int)), some (vi (bits : Int)), some (vi (A.length : Int)), some (vi (Bl.length : Int)), some (vi (k : Int)), none] [] (Hp b s t mk df jo tr di [some (ob 8 [vi th, vr 8 1, vi ln, vr 8 2, vr 8 3, vr 8 4, vi by9, vr 8 5, vr 8 6, vr 8 7, vr 8 8, vr 8 9, vi dn, vi ac, vi bd, vr 8 10, vr 8 11, vr 8 12, vr 8 13, vr 8 14, vi pm, vl pq, vr 8 15, vr 8 16, vi tk, vr 8 17, vr 8 18, vr 8 19, vi fo, vi f1, vi f2]), some (ar 2 200 xtp), some (ar 0 32016 xwg), some (ar 0 16 xwh), some (ar 1 2001 xmd), some (ar 0 30 xsl), some (ar 0 30 xhw), some (ar 0 30 xhs), some (ar 0 60030 xhd), some (ar 0 60030 xha), some (ar 0 600 xp1), some (ar 0 600 xp2), some (ar 1 600 xp3), some (ar 1 2001 xl1), some (ar 1 2001 xl2), some (ar 1 2001 xrt), some (ar 3 2001 xlf), some (ar 0 3600 xdc), some (ar 0 12 hn), some (ar 0 4005 su)] dy) := by
  refine up_to (W := fun k : Nat => ∀ (A Bl : List Int) (hn su : Nat → Int), wI (mS xwg q (xwh q) nf mf) nf mf b0 A Bl hn su → kpH nf mf xhn hn → cT (bl bits k (nf + mf - 2 - k)) + Bl.length = mf → (nf + mf - 2 - k) + A.length + Bl.length = nf + mf → wy (mS xwg q (xwh q) nf mf) b0 (bl bits k (nf + mf - 2 - k)) A Bl = res → AW G M_M_way Qr Qt 0 0 118 [some (vr 8 0), some (vi (q : Int)), some (vi (nf : Int)), some (vi (mf : Int)), some (vi (bits : Int)), some (vi (A.length : Int)), some (vi (Bl.length : Int)), some (vi (k : Int)), none] [] (Hp b s t mk df jo tr di [some (ob 8 [vi th, vr 8 1, vi ln, vr 8 2, vr 8 3, vr 8 4, vi by9, vr 8 5, vr 8 6, vr 8 7, vr 8 8, vr 8 9, vi dn, vi ac, vi bd, vr 8 10, vr 8 11, vr 8 12, vr 8 13, vr 8 14, vi pm, vl pq, vr 8 15, vr 8 16, vi tk, vr 8 17, vr 8 18, vr 8 19, vi fo, vi f1, vi f2]), some (ar 2 200 xtp), some (ar 0 32016 xwg), some (ar 0 16 xwh), some (ar 1 2001 xmd), some (ar 0 30 xsl), some (ar 0 30 xhw), some (ar 0 30 xhs), some (ar 0 60030 xhd), some (ar 0 60030 xha), some (ar 0 600 xp1), some (ar 0 600 xp2), some (ar 1 600 xp3), some (ar 1 2001 xl1), some (ar 1 2001 xl2), some (ar 1 2001 xrt), some (ar 3 2001 xlf), some (ar 0 3600 xdc), some (ar 0 12 hn), some (ar 0 4005 su)] dy)) (nf + mf - 2) ?_ (fun k hk9 ih => ?_)
  · intro A Bl hn su hI hk hc hc2 hr
    have h6a := hI.1.2.2.1
    have h6b := hI.1.2.2.2.1
    have la : 1 ≤ A.length := pre_len hI.1.1
    have lb9 : 1 ≤ Bl.length := pre_len hI.1.2.1
    rw [Nat.sub_self, bl, wy] at hr
    refine aw_blk (pc' := 125) (ls' := [some (vr 8 0), some (vi (q : Int)), some (vi (nf : Int)), some (vi (mf : Int)), some (vi (bits : Int)), some (vi (A.length : Int)), some (vi (Bl.length : Int)), some (vi ((nf + mf - 2 : Nat) : Int)), none]) (st' := [vi (((nf : Int) + (mf : Int)) - 2), vi ((nf + mf - 2 : Nat) : Int)]) [.inl (.iload 7), .inl (.iload_n 2), .inl (.iload_n 3), .inl (.iadd), .inl (.iconst 2), .inl (.isub)] 118 _ _ (by decide +kernel) rfl ?_
    refine aw_icmp_ge (o := 156) (tgt := 281) (by decide +kernel) (by decide) (by omega) (by omega) (fun _ => ?_) (fun c => absurd (by omega) c)
    refine aw_blk (pc' := 282) (ls' := [some (vr 8 0), some (vi (q : Int)), some (vi (nf : Int)), some (vi (mf : Int)), some (vi (bits : Int)), some (vi (A.length : Int)), some (vi (Bl.length : Int)), some (vi ((nf + mf - 2 : Nat) : Int)), none]) (st' := [vr 8 0]) [.inl (.aload_n 0)] 281 _ _ (by decide +kernel) rfl ?_
    refine aw_dV (cs' := 0) (sl' := 0) (pc' := 285) (st' := [vi (fsX su 4005 0)]) (idx := 198) (as := []) (st := []) (m_M_least) (by decide +kernel) (show vOK "ChanceBenchModel" 198 M_M_least 0 = true by decide +kernel) rfl rfl rfl (Nat.le_of_ble_eq_true rfl) (by decide) (by decide) (by decide) rfl rfl rfl rfl ?_
    rcases hI.ls hS with ⟨z1, z2⟩ | ⟨z1, z2, z3, z4⟩
    · rw [z2]
      rw [if_pos z1] at hr
      refine aw_blk (pc' := 288) (ls' := [some (vr 8 0), some (vi (q : Int)), some (vi (nf : Int)), some (vi (mf : Int)), some (vi (bits : Int)), some (vi (A.length : Int)), some (vi (Bl.length : Int)), some (vi ((nf + mf - 2 : Nat) : Int)), none]) (st' := [vi 2000, vi 2005]) [.inl (.sipush 2000)] 285 _ _ (by decide +kernel) rfl ?_
      refine aw_icmp_le (o := 7) (tgt := 295) (by decide +kernel) (by decide) (by omega) (by omega) (fun c => absurd c (by omega)) (fun _ => ?_)
      refine aw_blk (pc' := 292) (ls' := [some (vr 8 0), some (vi (q : Int)), some (vi (nf : Int)), some (vi (mf : Int)), some (vi (bits : Int)), some (vi (A.length : Int)), some (vi (Bl.length : Int)), some (vi ((nf + mf - 2 : Nat) : Int)), none]) (st' := [vi 1]) [.inl (.iconst 1)] 291 _ _ (by decide +kernel) rfl ?_
      refine aw_goto (o := 4) (tgt := 296) (by decide +kernel) (by decide) ?_
      exact aw_zret (by decide +kernel) rfl (by decide) (by decide) (by omega) (hq _ _ (Or.inl ⟨rfl, A, Bl, hn, su, hr.symm, hI.1, hI.2.1, hI.2.2.1, hk, rfl⟩))
    · rw [z3]
      rw [if_neg z1] at hr
      refine aw_blk (pc' := 288) (ls' := [some (vr 8 0), some (vi (q : Int)), some (vi (nf : Int)), some (vi (mf : Int)), some (vi (bits : Int)), some (vi (A.length : Int)), some (vi (Bl.length : Int)), some (vi ((nf + mf - 2 : Nat) : Int)), none]) (st' := [vi 2000, vi (lsU (rem_ (mS xwg q (xwh q) nf mf) A Bl))]) [.inl (.sipush 2000)] 285 _ _ (by decide +kernel) rfl ?_
      refine aw_icmp_le (o := 7) (tgt := 295) (by decide +kernel) (by decide) (by omega) (by omega) (fun _ => ?_) (fun c => absurd (by omega) c)
      refine aw_blk (pc' := 296) (ls' := [some (vr 8 0), some (vi (q : Int)), some (vi (nf : Int)), some (vi (mf : Int)), some (vi (bits : Int)), some (vi (A.length : Int)), some (vi (Bl.length : Int)), some (vi ((nf + mf - 2 : Nat) : Int)), none]) (st' := [vi 0]) [.inl (.iconst 0)] 295 _ _ (by decide +kernel) rfl ?_
      exact aw_zret (by decide +kernel) rfl (by decide) (by decide) (by omega) (hq _ _ (Or.inr ⟨rfl, hr.symm, hn, su, hk, rfl⟩))
  · intro A Bl hn su hI hk hc hc2 hr
    have h6a := hI.1.2.2.1
    have h6b := hI.1.2.2.2.1
    have la : 1 ≤ A.length := pre_len hI.1.1
    have lb9 : 1 ≤ Bl.length := pre_len hI.1.2.1
    rw [show nf + mf - 2 - k = (nf + mf - 2 - (k + 1)) + 1 by omega, bl] at hr hc
    refine aw_blk (pc' := 125) (ls' := [some (vr 8 0), some (vi (q : Int)), some (vi (nf : Int)), some (vi (mf : Int)), some (vi (bits : Int)), some (vi (A.length : Int)), some (vi (Bl.length : Int)), some (vi (k : Int)), none]) (st' := [vi (((nf : Int) + (mf : Int)) - 2), vi (k : Int)]) [.inl (.iload 7), .inl (.iload_n 2), .inl (.iload_n 3), .inl (.iadd), .inl (.iconst 2), .inl (.isub)] 118 _ _ (by decide +kernel) rfl ?_
    refine aw_icmp_ge (o := 156) (tgt := 281) (by decide +kernel) (by decide) (by omega) (by omega) (fun c => absurd c (by omega)) (fun _ => ?_)
    refine aw_blk (pc' := 129) (ls' := [some (vr 8 0), some (vi (q : Int)), some (vi (nf : Int)), some (vi (mf : Int)), some (vi (bits : Int)), some (vi (A.length : Int)), some (vi (Bl.length : Int)), some (vi (k : Int)), none]) (st' := [vr 8 0]) [.inl (.aload_n 0)] 128 _ _ (by decide +kernel) rfl ?_
    refine aw_dV (cs' := 0) (sl' := 0) (pc' := 132) (st' := [vi (fsX su 4005 0)]) (idx := 198) (as := []) (st := []) (m_M_least) (by decide +kernel) (show vOK "ChanceBenchModel" 198 M_M_least 0 = true by decide +kernel) rfl rfl rfl (Nat.le_of_ble_eq_true rfl) (by decide) (by decide) (by decide) rfl rfl rfl rfl ?_
    have hr0 : lsU (rem_ (mS xwg q (xwh q) nf mf) A Bl) = 5000 → res = none := fun z => by rw [← hr]; cases decide (bits / 2 ^ k % 2 = 1) <;> rw [wy, if_neg (fun y => y.1 z)]
    rcases hI.ls hS with ⟨z1, z2⟩ | ⟨z1, z2, z3, z4⟩
    · rw [z2]
      refine aw_blk (pc' := 139) (ls' := [some (vr 8 0), some (vi (q : Int)), some (vi (nf : Int)), some (vi (mf : Int)), some (vi (bits : Int)), some (vi (A.length : Int)), some (vi (Bl.length : Int)), some (vi (k : Int)), some (vi 2005)]) (st' := [vi 2000, vi 2005]) [.inl (.istore 8), .inl (.iload 8), .inl (.sipush 2000)] 132 _ _ (by decide +kernel) rfl ?_
      refine aw_icmp_le (o := 5) (tgt := 144) (by decide +kernel) (by decide) (by omega) (by omega) (fun c => absurd c (by omega)) (fun _ => ?_)
      refine aw_blk (pc' := 143) (ls' := [some (vr 8 0), some (vi (q : Int)), some (vi (nf : Int)), some (vi (mf : Int)), some (vi (bits : Int)), some (vi (A.length : Int)), some (vi (Bl.length : Int)), some (vi (k : Int)), some (vi 2005)]) (st' := [vi 0]) [.inl (.iconst 0)] 142 _ _ (by decide +kernel) rfl ?_
      exact aw_zret (by decide +kernel) rfl (by decide) (by decide) (by omega) (hq _ _ (Or.inr ⟨rfl, hr0 z1, hn, su, hk, rfl⟩))
    · rw [z3]
      have hb0 := hI.1.2.1
      have hbm := hI.1.2.2.2.2.2.1 b0 (List.mem_of_getElem? hb0)
      have hnb : hn 6 = b0 := hI.2.2.1 0 b0 hb0
      have fA := hI.fA
      have fB9 := hI.fB
      refine aw_blk (pc' := 139) (ls' := [some (vr 8 0), some (vi (q : Int)), some (vi (nf : Int)), some (vi (mf : Int)), some (vi (bits : Int)), some (vi (A.length : Int)), some (vi (Bl.length : Int)), some (vi (k : Int)), some (vi (lsU (rem_ (mS xwg q (xwh q) nf mf) A Bl)))]) (st' := [vi 2000, vi (lsU (rem_ (mS xwg q (xwh q) nf mf) A Bl))]) [.inl (.istore 8), .inl (.iload 8), .inl (.sipush 2000)] 132 _ _ (by decide +kernel) rfl ?_
      refine aw_icmp_le (o := 5) (tgt := 144) (by decide +kernel) (by decide) (by omega) (by omega) (fun _ => ?_) (fun c => absurd (by omega) c)
      refine aw_blk (pc' := 148) (ls' := [some (vr 8 0), some (vi (q : Int)), some (vi (nf : Int)), some (vi (mf : Int)), some (vi (bits : Int)), some (vi (A.length : Int)), some (vi (Bl.length : Int)), some (vi (k : Int)), some (vi (lsU (rem_ (mS xwg q (xwh q) nf mf) A Bl)))]) (st' := [vi (k : Int), vi (bits : Int)]) [.inl (.iload 4), .inl (.iload 7)] 144 _ _ (by decide +kernel) rfl ?_
      refine aw_shr (p9 := ((2 ^ k : Nat) : Int)) (k) (by decide +kernel) (by omega) rfl (by omega) rfl ?_
      refine aw_blk (pc' := 150) (ls' := [some (vr 8 0), some (vi (q : Int)), some (vi (nf : Int)), some (vi (mf : Int)), some (vi (bits : Int)), some (vi (A.length : Int)), some (vi (Bl.length : Int)), some (vi (k : Int)), some (vi (lsU (rem_ (mS xwg q (xwh q) nf mf) A Bl)))]) (st' := [vi 1, vi ((bits : Int) / ((2 ^ k : Nat) : Int))]) [.inl (.iconst 1)] 149 _ _ (by decide +kernel) rfl ?_
      refine aw_and (p9 := 2) 1 (by decide +kernel) (by decide) (by decide) (by decide) ?_
      rw [show (bits : Int) / ((2 ^ k : Nat) : Int) % 2 = ((bits / 2 ^ k % 2 : Nat) : Int) by rfl]
      refine aw_if_ne (o := 65) (tgt := 216) (by decide +kernel) (by decide) (by omega) (fun cb => ?_) (fun cb => ?_)
      · have hbb : bits / 2 ^ k % 2 = 1 := by omega
        rw [decide_eq_true hbb] at hr hc
        simp only [cT] at hc
        rw [wy] at hr
        have hlt : Bl.length < mf := by omega
        refine aw_blk (pc' := 227) (ls' := [some (vr 8 0), some (vi (q : Int)), some (vi (nf : Int)), some (vi (mf : Int)), some (vi (bits : Int)), some (vi (A.length : Int)), some (vi (Bl.length : Int)), some (vi (k : Int)), some (vi (lsU (rem_ (mS xwg q (xwh q) nf mf) A Bl)))]) (st' := [vi (lsU (rem_ (mS xwg q (xwh q) nf mf) A Bl)), vi (6 + (Bl.length : Int)), vr 8 18]) [.inl (.aload_n 0), .inr (73, 8, 26), .inl (.bipush 6), .inl (.iload 6), .inl (.iadd), .inl (.iload 8)] 216 _ _ (by decide +kernel) rfl ?_
        refine aw_iast (j := 6 + Bl.length) (h' := Hp b s t mk df jo tr di [some (ob 8 [vi th, vr 8 1, vi ln, vr 8 2, vr 8 3, vr 8 4, vi by9, vr 8 5, vr 8 6, vr 8 7, vr 8 8, vr 8 9, vi dn, vi ac, vi bd, vr 8 10, vr 8 11, vr 8 12, vr 8 13, vr 8 14, vi pm, vl pq, vr 8 15, vr 8 16, vi tk, vr 8 17, vr 8 18, vr 8 19, vi fo, vi f1, vi f2]), some (ar 2 200 xtp), some (ar 0 32016 xwg), some (ar 0 16 xwh), some (ar 1 2001 xmd), some (ar 0 30 xsl), some (ar 0 30 xhw), some (ar 0 30 xhs), some (ar 0 60030 xhd), some (ar 0 60030 xha), some (ar 0 600 xp1), some (ar 0 600 xp2), some (ar 1 600 xp3), some (ar 1 2001 xl1), some (ar 1 2001 xl2), some (ar 1 2001 xrt), some (ar 3 2001 xlf), some (ar 0 3600 xdc), some (ar 0 12 (va_up hn (6 + Bl.length) (lsU (rem_ (mS xwg q (xwh q) nf mf) A Bl)))), some (ar 0 4005 su)] dy) (by decide +kernel) rfl (by omega) (by omega) (by omega) rfl ?_
        refine aw_blk (pc' := 237) (ls' := [some (vr 8 0), some (vi (q : Int)), some (vi (nf : Int)), some (vi (mf : Int)), some (vi (bits : Int)), some (vi (A.length : Int)), some (vi (Bl.length : Int)), some (vi (k : Int)), some (vi (lsU (rem_ (mS xwg q (xwh q) nf mf) A Bl)))]) (st' := [vi (6 + (Bl.length : Int)), vr 8 18]) [.inl (.aload_n 0), .inr (73, 8, 26), .inl (.bipush 6), .inl (.iload 6), .inl (.iadd)] 228 _ _ (by decide +kernel) rfl ?_
        refine aw_iald (j := 6 + Bl.length) (by decide +kernel) rfl (by omega) (by omega) (fun r237 => ?_)
        rw [va_eq]
        refine aw_blk (pc' := 246) (ls' := [some (vr 8 0), some (vi (q : Int)), some (vi (nf : Int)), some (vi (mf : Int)), some (vi (bits : Int)), some (vi (A.length : Int)), some (vi (Bl.length : Int)), some (vi (k : Int)), some (vi (lsU (rem_ (mS xwg q (xwh q) nf mf) A Bl)))]) (st' := [vi (5 + (Bl.length : Int)), vr 8 18, vi (lsU (rem_ (mS xwg q (xwh q) nf mf) A Bl))]) [.inl (.aload_n 0), .inr (73, 8, 26), .inl (.iconst 5), .inl (.iload 6), .inl (.iadd)] 238 _ _ (by decide +kernel) rfl ?_
        refine aw_iald (j := 6 + (Bl.length - 1)) (by decide +kernel) rfl (by omega) (by omega) (fun r246 => ?_)
        rw [show va_up hn (6 + Bl.length) (lsU (rem_ (mS xwg q (xwh q) nf mf) A Bl)) (6 + (Bl.length - 1)) = lastI Bl by unfold va_up; rw [if_neg (by omega)]; exact lastI_eq hI.2.2.1 lb9]
        have hla : I32 (lastI Bl) := by have h9 := fB9 (Bl.length - 1) (by omega); have e9 : hn (6 + (Bl.length - 1)) = lastI Bl := lastI_eq hI.2.2.1 lb9; omega
        refine aw_icmp_lt (o := 23) (tgt := 270) (by decide +kernel) (by decide) (by omega) (by omega) (fun cl => ?_) (fun cl => ?_)
        · rw [if_neg (fun y => y.2.1 cl)] at hr
          refine aw_blk (pc' := 271) (ls' := [some (vr 8 0), some (vi (q : Int)), some (vi (nf : Int)), some (vi (mf : Int)), some (vi (bits : Int)), some (vi (A.length : Int)), some (vi (Bl.length : Int)), some (vi (k : Int)), some (vi (lsU (rem_ (mS xwg q (xwh q) nf mf) A Bl)))]) (st' := [vi 0]) [.inl (.iconst 0)] 270 _ _ (by decide +kernel) rfl ?_
          exact aw_zret (by decide +kernel) rfl (by decide) (by decide) (by omega) (hq _ _ (Or.inr ⟨rfl, hr.symm, _, _, hk.up (Or.inr ⟨by omega, by omega⟩) h1.2, rfl⟩))
        · refine aw_blk (pc' := 260) (ls' := [some (vr 8 0), some (vi (q : Int)), some (vi (nf : Int)), some (vi (mf : Int)), some (vi (bits : Int)), some (vi (A.length : Int)), some (vi (Bl.length : Int)), some (vi (k : Int)), some (vi (lsU (rem_ (mS xwg q (xwh q) nf mf) A Bl)))]) (st' := [vi (6 + (Bl.length : Int)), vr 8 18, vr 8 0]) [.inl (.aload_n 0), .inl (.aload_n 0), .inr (73, 8, 26), .inl (.bipush 6), .inl (.iload 6), .inl (.iadd)] 250 _ _ (by decide +kernel) rfl ?_
          refine aw_iald (j := 6 + Bl.length) (by decide +kernel) rfl (by omega) (by omega) (fun r260 => ?_)
          rw [va_eq]
          refine aw_blk (pc' := 264) (ls' := [some (vr 8 0), some (vi (q : Int)), some (vi (nf : Int)), some (vi (mf : Int)), some (vi (bits : Int)), some (vi (A.length : Int)), some (vi (Bl.length : Int)), some (vi (k : Int)), some (vi (lsU (rem_ (mS xwg q (xwh q) nf mf) A Bl)))]) (st' := [vi (A.length : Int), vi 0, vi (lsU (rem_ (mS xwg q (xwh q) nf mf) A Bl)), vr 8 0]) [.inl (.iconst 0), .inl (.iload 5)] 261 _ _ (by decide +kernel) rfl ?_
          have hpr := hI.le hS
          refine aw_rV (cs' := 0) (sl' := 0) (pc' := 267) (idx := 201) (as := [vi (lsU (rem_ (mS xwg q (xwh q) nf mf) A Bl)), vi 0, vi (A.length : Int)]) (st := []) (m_M_strike (m := 0) (n := A.length) (by omega) (by omega) (fun j hj => by show -1000000 ≤ va_up hn (6 + Bl.length) (lsU (rem_ (mS xwg q (xwh q) nf mf) A Bl)) (0 + j) ∧ va_up hn (6 + Bl.length) (lsU (rem_ (mS xwg q (xwh q) nf mf) A Bl)) (0 + j) ≤ 1000000; unfold va_up; rw [if_neg (by omega), show 0 + j = j by omega]; exact fA j hj) (fun i hi => (hI.le hS i hi).1)) (by decide +kernel) (show vOK "ChanceBenchModel" 201 M_M_strike 3 = true by decide +kernel) rfl rfl rfl (Nat.le_of_ble_eq_true rfl) (by decide) (by decide) (by decide) rfl rfl rfl (fun r264 h264 z264 => ?_)
          rcases z264 with ⟨rfl, ht, rfl⟩ | ⟨rfl, ht, su9, rfl⟩
          · have ok := (hI.tB hS (by omega)).mp ht
            rw [if_pos ⟨z1, cl, ok⟩] at hr
            refine aw_if_ne (o := 5) (tgt := 272) (by decide +kernel) (by decide) (by omega) (fun _ => ?_) (fun c => absurd c (by omega))
            refine aw_blk (pc' := 278) (ls' := [some (vr 8 0), some (vi (q : Int)), some (vi (nf : Int)), some (vi (mf : Int)), some (vi (bits : Int)), some (vi (A.length : Int)), some (vi ((Bl.length : Int) + 1)), some (vi ((k : Int) + 1)), some (vi (lsU (rem_ (mS xwg q (xwh q) nf mf) A Bl)))]) (st' := []) [.inl (.iinc 6 1), .inl (.iinc 7 1)] 272 _ _ (by decide +kernel) rfl ?_
            refine aw_goto (o := -160) (tgt := 118) (by decide +kernel) (by decide) ?_
            refine aw_ls (ls' := [some (vr 8 0), some (vi (q : Int)), some (vi (nf : Int)), some (vi (mf : Int)), some (vi (bits : Int)), some (vi (A.length : Int)), some (vi ((Bl.length : Int) + 1)), some (vi ((k : Int) + 1)), none]) (lsk_s (lsk_s (lsk_s (lsk_s (lsk_s (lsk_s (lsk_s (lsk_s (lsk_n lsk_0))))))))) ?_
            have hw9 := hI.sB hlt (by omega) (by omega) ok
            exact aw_eq (by rw [List.length_append]; rfl) rfl rfl (ih A (Bl ++ [lsU (rem_ (mS xwg q (xwh q) nf mf) A Bl)]) _ _ hw9 (hk.up (Or.inr ⟨by omega, by omega⟩) h1.2) (by rw [List.length_append, List.length_singleton]; omega) (by rw [List.length_append, List.length_singleton]; omega) hr)
          · rw [if_neg (fun y => ht ((hI.tB hS (by omega)).mpr y.2.2))] at hr
            refine aw_if_ne (o := 5) (tgt := 272) (by decide +kernel) (by decide) (by omega) (fun c => absurd (by omega) c) (fun _ => ?_)
            refine aw_blk (pc' := 271) (ls' := [some (vr 8 0), some (vi (q : Int)), some (vi (nf : Int)), some (vi (mf : Int)), some (vi (bits : Int)), some (vi (A.length : Int)), some (vi (Bl.length : Int)), some (vi (k : Int)), some (vi (lsU (rem_ (mS xwg q (xwh q) nf mf) A Bl)))]) (st' := [vi 0]) [.inl (.iconst 0)] 270 _ _ (by decide +kernel) rfl ?_
            exact aw_zret (by decide +kernel) rfl (by decide) (by decide) (by omega) (hq _ _ (Or.inr ⟨rfl, hr.symm, _, _, hk.up (Or.inr ⟨by omega, by omega⟩) h1.2, rfl⟩))
      · have hbb : ¬ bits / 2 ^ k % 2 = 1 := by omega
        rw [decide_eq_false hbb] at hr hc
        simp only [cT] at hc
        rw [wy] at hr
        have hcl := cT_le (bl bits (k + 1) (nf + mf - 2 - (k + 1)))
        rw [bl_len] at hcl
        have hlt : A.length < nf := by omega
        refine aw_blk (pc' := 168) (ls' := [some (vr 8 0), some (vi (q : Int)), some (vi (nf : Int)), some (vi (mf : Int)), some (vi (bits : Int)), some (vi (A.length : Int)), some (vi (Bl.length : Int)), some (vi (k : Int)), some (vi (lsU (rem_ (mS xwg q (xwh q) nf mf) A Bl)))]) (st' := [vi 6, vr 8 18, vi (lsU (rem_ (mS xwg q (xwh q) nf mf) A Bl)), vi (A.length : Int), vr 8 18]) [.inl (.aload_n 0), .inr (73, 8, 26), .inl (.iload 5), .inl (.iload 8), .inl (.aload_n 0), .inr (73, 8, 26), .inl (.bipush 6)] 154 _ _ (by decide +kernel) rfl ?_
        refine aw_iald (j := 6) (by decide +kernel) rfl (by omega) (by omega) (fun r168 => ?_)
        refine aw_blk (pc' := 170) (ls' := [some (vr 8 0), some (vi (q : Int)), some (vi (nf : Int)), some (vi (mf : Int)), some (vi (bits : Int)), some (vi (A.length : Int)), some (vi (Bl.length : Int)), some (vi (k : Int)), some (vi (lsU (rem_ (mS xwg q (xwh q) nf mf) A Bl)))]) (st' := [vi ((lsU (rem_ (mS xwg q (xwh q) nf mf) A Bl)) - (hn 6)), vi (A.length : Int), vr 8 18]) [.inl (.isub)] 169 _ _ (by decide +kernel) rfl ?_
        rw [hnb]
        refine aw_iast (j := A.length) (h' := Hp b s t mk df jo tr di [some (ob 8 [vi th, vr 8 1, vi ln, vr 8 2, vr 8 3, vr 8 4, vi by9, vr 8 5, vr 8 6, vr 8 7, vr 8 8, vr 8 9, vi dn, vi ac, vi bd, vr 8 10, vr 8 11, vr 8 12, vr 8 13, vr 8 14, vi pm, vl pq, vr 8 15, vr 8 16, vi tk, vr 8 17, vr 8 18, vr 8 19, vi fo, vi f1, vi f2]), some (ar 2 200 xtp), some (ar 0 32016 xwg), some (ar 0 16 xwh), some (ar 1 2001 xmd), some (ar 0 30 xsl), some (ar 0 30 xhw), some (ar 0 30 xhs), some (ar 0 60030 xhd), some (ar 0 60030 xha), some (ar 0 600 xp1), some (ar 0 600 xp2), some (ar 1 600 xp3), some (ar 1 2001 xl1), some (ar 1 2001 xl2), some (ar 1 2001 xrt), some (ar 3 2001 xlf), some (ar 0 3600 xdc), some (ar 0 12 (va_up hn A.length (lsU (rem_ (mS xwg q (xwh q) nf mf) A Bl) - b0))), some (ar 0 4005 su)] dy) (by decide +kernel) rfl (by omega) (by omega) (by omega) rfl ?_
        refine aw_blk (pc' := 177) (ls' := [some (vr 8 0), some (vi (q : Int)), some (vi (nf : Int)), some (vi (mf : Int)), some (vi (bits : Int)), some (vi (A.length : Int)), some (vi (Bl.length : Int)), some (vi (k : Int)), some (vi (lsU (rem_ (mS xwg q (xwh q) nf mf) A Bl)))]) (st' := [vi (A.length : Int), vr 8 18]) [.inl (.aload_n 0), .inr (73, 8, 26), .inl (.iload 5)] 171 _ _ (by decide +kernel) rfl ?_
        refine aw_iald (j := A.length) (by decide +kernel) rfl (by omega) (by omega) (fun r177 => ?_)
        rw [va_eq]
        refine aw_blk (pc' := 186) (ls' := [some (vr 8 0), some (vi (q : Int)), some (vi (nf : Int)), some (vi (mf : Int)), some (vi (bits : Int)), some (vi (A.length : Int)), some (vi (Bl.length : Int)), some (vi (k : Int)), some (vi (lsU (rem_ (mS xwg q (xwh q) nf mf) A Bl)))]) (st' := [vi ((A.length : Int) - 1), vr 8 18, vi (lsU (rem_ (mS xwg q (xwh q) nf mf) A Bl) - b0)]) [.inl (.aload_n 0), .inr (73, 8, 26), .inl (.iload 5), .inl (.iconst 1), .inl (.isub)] 178 _ _ (by decide +kernel) rfl ?_
        refine aw_iald (j := A.length - 1) (by decide +kernel) rfl (by omega) (by omega) (fun r186 => ?_)
        rw [show va_up hn A.length (lsU (rem_ (mS xwg q (xwh q) nf mf) A Bl) - b0) (A.length - 1) = lastI A by unfold va_up; rw [if_neg (by omega)]; exact lastI_eq hI.2.1 la]
        have hla : I32 (lastI A) := by have := fA (A.length - 1) (by omega); rw [lastI_eq hI.2.1 la] at this; omega
        refine aw_icmp_lt (o := 21) (tgt := 208) (by decide +kernel) (by decide) (by omega) (by omega) (fun cl => ?_) (fun cl => ?_)
        · rw [if_neg (fun y => y.2.1 cl)] at hr
          refine aw_blk (pc' := 209) (ls' := [some (vr 8 0), some (vi (q : Int)), some (vi (nf : Int)), some (vi (mf : Int)), some (vi (bits : Int)), some (vi (A.length : Int)), some (vi (Bl.length : Int)), some (vi (k : Int)), some (vi (lsU (rem_ (mS xwg q (xwh q) nf mf) A Bl)))]) (st' := [vi 0]) [.inl (.iconst 0)] 208 _ _ (by decide +kernel) rfl ?_
          exact aw_zret (by decide +kernel) rfl (by decide) (by decide) (by omega) (hq _ _ (Or.inr ⟨rfl, hr.symm, _, _, hk.up (Or.inl hlt) h1.2, rfl⟩))
        · refine aw_blk (pc' := 197) (ls' := [some (vr 8 0), some (vi (q : Int)), some (vi (nf : Int)), some (vi (mf : Int)), some (vi (bits : Int)), some (vi (A.length : Int)), some (vi (Bl.length : Int)), some (vi (k : Int)), some (vi (lsU (rem_ (mS xwg q (xwh q) nf mf) A Bl)))]) (st' := [vi (A.length : Int), vr 8 18, vr 8 0]) [.inl (.aload_n 0), .inl (.aload_n 0), .inr (73, 8, 26), .inl (.iload 5)] 190 _ _ (by decide +kernel) rfl ?_
          refine aw_iald (j := A.length) (by decide +kernel) rfl (by omega) (by omega) (fun r197 => ?_)
          rw [va_eq]
          refine aw_blk (pc' := 202) (ls' := [some (vr 8 0), some (vi (q : Int)), some (vi (nf : Int)), some (vi (mf : Int)), some (vi (bits : Int)), some (vi (A.length : Int)), some (vi (Bl.length : Int)), some (vi (k : Int)), some (vi (lsU (rem_ (mS xwg q (xwh q) nf mf) A Bl)))]) (st' := [vi (Bl.length : Int), vi 6, vi (lsU (rem_ (mS xwg q (xwh q) nf mf) A Bl) - b0), vr 8 0]) [.inl (.bipush 6), .inl (.iload 6)] 198 _ _ (by decide +kernel) rfl ?_
          refine aw_rV (cs' := 0) (sl' := 0) (pc' := 205) (idx := 201) (as := [vi (lsU (rem_ (mS xwg q (xwh q) nf mf) A Bl) - b0), vi 6, vi (Bl.length : Int)]) (st := []) (m_M_strike (m := 6) (n := Bl.length) (by omega) (by omega) (fun j hj => by show -1000000 ≤ va_up hn A.length (lsU (rem_ (mS xwg q (xwh q) nf mf) A Bl) - b0) (6 + j) ∧ va_up hn A.length (lsU (rem_ (mS xwg q (xwh q) nf mf) A Bl) - b0) (6 + j) ≤ 1000000; unfold va_up; rw [if_neg (by omega)]; exact fB9 j hj) (fun i hi => (hI.le hS i hi).1)) (by decide +kernel) (show vOK "ChanceBenchModel" 201 M_M_strike 3 = true by decide +kernel) rfl rfl rfl (Nat.le_of_ble_eq_true rfl) (by decide) (by decide) (by decide) rfl rfl rfl (fun r202 h202 z202 => ?_)
          rcases z202 with ⟨rfl, ht, rfl⟩ | ⟨rfl, ht, su9, rfl⟩
          · have ok := (hI.tA hS (by omega)).mp ht
            rw [if_pos ⟨z1, cl, ok⟩] at hr
            refine aw_if_ne (o := 5) (tgt := 210) (by decide +kernel) (by decide) (by omega) (fun _ => ?_) (fun c => absurd c (by omega))
            refine aw_blk (pc' := 213) (ls' := [some (vr 8 0), some (vi (q : Int)), some (vi (nf : Int)), some (vi (mf : Int)), some (vi (bits : Int)), some (vi ((A.length : Int) + 1)), some (vi (Bl.length : Int)), some (vi (k : Int)), some (vi (lsU (rem_ (mS xwg q (xwh q) nf mf) A Bl)))]) (st' := []) [.inl (.iinc 5 1)] 210 _ _ (by decide +kernel) rfl ?_
            refine aw_goto (o := 62) (tgt := 275) (by decide +kernel) (by decide) ?_
            refine aw_blk (pc' := 278) (ls' := [some (vr 8 0), some (vi (q : Int)), some (vi (nf : Int)), some (vi (mf : Int)), some (vi (bits : Int)), some (vi ((A.length : Int) + 1)), some (vi (Bl.length : Int)), some (vi ((k : Int) + 1)), some (vi (lsU (rem_ (mS xwg q (xwh q) nf mf) A Bl)))]) (st' := []) [.inl (.iinc 7 1)] 275 _ _ (by decide +kernel) rfl ?_
            refine aw_goto (o := -160) (tgt := 118) (by decide +kernel) (by decide) ?_
            refine aw_ls (ls' := [some (vr 8 0), some (vi (q : Int)), some (vi (nf : Int)), some (vi (mf : Int)), some (vi (bits : Int)), some (vi ((A.length : Int) + 1)), some (vi (Bl.length : Int)), some (vi ((k : Int) + 1)), none]) (lsk_s (lsk_s (lsk_s (lsk_s (lsk_s (lsk_s (lsk_s (lsk_s (lsk_n lsk_0))))))))) ?_
            have hw9 := hI.sA hlt (by omega) (by omega) ok
            exact aw_eq (by rw [List.length_append]; rfl) rfl rfl (ih (A ++ [lsU (rem_ (mS xwg q (xwh q) nf mf) A Bl) - b0]) Bl _ _ hw9 (hk.up (Or.inl hlt) h1.2) (by omega) (by rw [List.length_append, List.length_singleton]; omega) hr)
          · rw [if_neg (fun y => ht ((hI.tA hS (by omega)).mpr y.2.2))] at hr
            refine aw_if_ne (o := 5) (tgt := 210) (by decide +kernel) (by decide) (by omega) (fun c => absurd (by omega) c) (fun _ => ?_)
            refine aw_blk (pc' := 209) (ls' := [some (vr 8 0), some (vi (q : Int)), some (vi (nf : Int)), some (vi (mf : Int)), some (vi (bits : Int)), some (vi (A.length : Int)), some (vi (Bl.length : Int)), some (vi (k : Int)), some (vi (lsU (rem_ (mS xwg q (xwh q) nf mf) A Bl)))]) (st' := [vi 0]) [.inl (.iconst 0)] 208 _ _ (by decide +kernel) rfl ?_
            exact aw_zret (by decide +kernel) rfl (by decide) (by decide) (by omega) (hq _ _ (Or.inr ⟨rfl, hr.symm, _, _, hk.up (Or.inl hlt) h1.2, rfl⟩))
theorem m_M_way (hl : isLw xwh (q : Int)) (hTq : ∀ v, 0 ≤ Tm xwg q v ∧ Tm xwg q v ≤ 1048576) (hw : 1 ≤ xwh q ∧ xwh q ≤ 1048576) (h1 : 1 ≤ nf ∧ nf ≤ 6) (h2 : 1 ≤ mf ∧ mf ≤ 6) (hbt : bits < 1024) (hc : cT (bl bits 0 (nf + mf - 2)) = mf - 1) (hb0 : lsU (mS xwg q (xwh q) nf mf) = b0) (hb1 : b0 ≠ 5000) : AMet G M_M_way [vr 8 0, vi (q : Int), vi (nf : Int), vi (mf : Int), vi (bits : Int)] (Hp b s t mk df jo tr di (sgM th ln by9 dn ac bd pm pq tk fo f1 f2 xtp xwg xwh xmd xsl xhw xhs xhd xha xp1 xp2 xp3 xl1 xl2 xrt xlf xdc xhn xsu) dy) (fun r h => (r = some (vi 1) ∧ ∃ A B hn su, (wy (mS xwg q (xwh q) nf mf) b0 (bl bits 0 (nf + mf - 2)) [0] [b0]) = some (A, B) ∧ dP (mS xwg q (xwh q) nf mf) nf mf b0 A B ∧ pre A hn ∧ pre B (fun j => hn (6 + j)) ∧ kpH nf mf xhn hn ∧ h = Hp b s t mk df jo tr di (sgM th ln by9 dn ac bd pm pq tk fo f1 f2 xtp xwg xwh xmd xsl xhw xhs xhd xha xp1 xp2 xp3 xl1 xl2 xrt xlf xdc hn su) dy) ∨ (r = some (vi 0) ∧ (wy (mS xwg q (xwh q) nf mf) b0 (bl bits 0 (nf + mf - 2)) [0] [b0]) = none ∧ ∃ hn su, kpH nf mf xhn hn ∧ h = Hp b s t mk df jo tr di (sgM th ln by9 dn ac bd pm pq tk fo f1 f2 xtp xwg xwh xmd xsl xhw xhs xhd xha xp1 xp2 xp3 xl1 xl2 xrt xlf xdc hn su) dy)) (fun _ => False) := by
  refine am_rel (by decide +kernel) (Nat.le_of_ble_eq_true rfl) (fun Qr Qt hq => ?_)
  have hj := hl.1
  have hS := mS_ok hTq hw.1 h1 h2
  refine aw_blk (pc' := 3) (ls' := [some (vr 8 0), some (vi (q : Int)), some (vi (nf : Int)), some (vi (mf : Int)), some (vi (bits : Int)), some (vi 0), none, none, none]) (st' := []) [.inl (.iconst 0), .inl (.istore 5)] 0 _ _ (by decide +kernel) rfl ?_
  refine aw_eq (h' := Hp b s t mk df jo tr di [some (ob 8 [vi th, vr 8 1, vi ln, vr 8 2, vr 8 3, vr 8 4, vi by9, vr 8 5, vr 8 6, vr 8 7, vr 8 8, vr 8 9, vi dn, vi ac, vi bd, vr 8 10, vr 8 11, vr 8 12, vr 8 13, vr 8 14, vi pm, vl pq, vr 8 15, vr 8 16, vi tk, vr 8 17, vr 8 18, vr 8 19, vi fo, vi f1, vi f2]), some (ar 2 200 xtp), some (ar 0 32016 xwg), some (ar 0 16 xwh), some (ar 1 2001 xmd), some (ar 0 30 xsl), some (ar 0 30 xhw), some (ar 0 30 xhs), some (ar 0 60030 xhd), some (ar 0 60030 xha), some (ar 0 600 xp1), some (ar 0 600 xp2), some (ar 1 600 xp3), some (ar 1 2001 xl1), some (ar 1 2001 xl2), some (ar 1 2001 xrt), some (ar 3 2001 xlf), some (ar 0 3600 xdc), some (ar 0 12 xhn), some (ar 0 4005 (mp (fun _ => 0) xsu 0))] dy) rfl rfl (by rw [mp_0]) ?_
  refine up_to (W := fun i : Nat => AW G M_M_way Qr Qt 0 0 3 [some (vr 8 0), some (vi (q : Int)), some (vi (nf : Int)), some (vi (mf : Int)), some (vi (bits : Int)), some (vi (i : Int)), none, none, none] [] (Hp b s t mk df jo tr di [some (ob 8 [vi th, vr 8 1, vi ln, vr 8 2, vr 8 3, vr 8 4, vi by9, vr 8 5, vr 8 6, vr 8 7, vr 8 8, vr 8 9, vi dn, vi ac, vi bd, vr 8 10, vr 8 11, vr 8 12, vr 8 13, vr 8 14, vi pm, vl pq, vr 8 15, vr 8 16, vi tk, vr 8 17, vr 8 18, vr 8 19, vi fo, vi f1, vi f2]), some (ar 2 200 xtp), some (ar 0 32016 xwg), some (ar 0 16 xwh), some (ar 1 2001 xmd), some (ar 0 30 xsl), some (ar 0 30 xhw), some (ar 0 30 xhs), some (ar 0 60030 xhd), some (ar 0 60030 xha), some (ar 0 600 xp1), some (ar 0 600 xp2), some (ar 1 600 xp3), some (ar 1 2001 xl1), some (ar 1 2001 xl2), some (ar 1 2001 xrt), some (ar 3 2001 xlf), some (ar 0 3600 xdc), some (ar 0 12 xhn), some (ar 0 4005 (mp (fun _ => 0) xsu i))] dy)) 4005 ?_ (fun i hi ih => ?_) 0 (by omega)
  · refine aw_blk (pc' := 8) (ls' := [some (vr 8 0), some (vi (q : Int)), some (vi (nf : Int)), some (vi (mf : Int)), some (vi (bits : Int)), some (vi ((4005 : Nat) : Int)), none, none, none]) (st' := [vi 4005, vi ((4005 : Nat) : Int)]) [.inl (.iload 5), .inl (.sipush 4005)] 3 _ _ (by decide +kernel) rfl ?_
    refine aw_icmp_ge (o := 17) (tgt := 25) (by decide +kernel) (by decide) (by omega) (by omega) (fun _ => ?_) (fun c => absurd (by omega) c)
    refine aw_blk (pc' := 30) (ls' := [some (vr 8 0), some (vi (q : Int)), some (vi (nf : Int)), some (vi (mf : Int)), some (vi (bits : Int)), some (vi (-1000)), none, none, none]) (st' := []) [.inl (.sipush (-1000)), .inl (.istore 5)] 25 _ _ (by decide +kernel) rfl ?_
    refine aw_eq (ls' := [some (vr 8 0), some (vi (q : Int)), some (vi (nf : Int)), some (vi (mf : Int)), some (vi (bits : Int)), some (vi (idv 0)), none, none, none]) (h' := Hp b s t mk df jo tr di [some (ob 8 [vi th, vr 8 1, vi ln, vr 8 2, vr 8 3, vr 8 4, vi by9, vr 8 5, vr 8 6, vr 8 7, vr 8 8, vr 8 9, vi dn, vi ac, vi bd, vr 8 10, vr 8 11, vr 8 12, vr 8 13, vr 8 14, vi pm, vl pq, vr 8 15, vr 8 16, vi tk, vr 8 17, vr 8 18, vr 8 19, vi fo, vi f1, vi f2]), some (ar 2 200 xtp), some (ar 0 32016 xwg), some (ar 0 16 xwh), some (ar 1 2001 xmd), some (ar 0 30 xsl), some (ar 0 30 xhw), some (ar 0 30 xhs), some (ar 0 60030 xhd), some (ar 0 60030 xha), some (ar 0 600 xp1), some (ar 0 600 xp2), some (ar 1 600 xp3), some (ar 1 2001 xl1), some (ar 1 2001 xl2), some (ar 1 2001 xrt), some (ar 3 2001 xlf), some (ar 0 3600 xdc), some (ar 0 12 xhn), some (ar 0 4005 (suF (mS xwg q (xwh q) nf mf) (mp (fun _ => 0) xsu 4005) 0))] dy) rfl rfl (by rw [suF_0]) ?_
    refine up_to (W := fun i : Nat => AW G M_M_way Qr Qt 0 0 30 [some (vr 8 0), some (vi (q : Int)), some (vi (nf : Int)), some (vi (mf : Int)), some (vi (bits : Int)), some (vi (idv i)), none, none, none] [] (Hp b s t mk df jo tr di [some (ob 8 [vi th, vr 8 1, vi ln, vr 8 2, vr 8 3, vr 8 4, vi by9, vr 8 5, vr 8 6, vr 8 7, vr 8 8, vr 8 9, vi dn, vi ac, vi bd, vr 8 10, vr 8 11, vr 8 12, vr 8 13, vr 8 14, vi pm, vl pq, vr 8 15, vr 8 16, vi tk, vr 8 17, vr 8 18, vr 8 19, vi fo, vi f1, vi f2]), some (ar 2 200 xtp), some (ar 0 32016 xwg), some (ar 0 16 xwh), some (ar 1 2001 xmd), some (ar 0 30 xsl), some (ar 0 30 xhw), some (ar 0 30 xhs), some (ar 0 60030 xhd), some (ar 0 60030 xha), some (ar 0 600 xp1), some (ar 0 600 xp2), some (ar 1 600 xp3), some (ar 1 2001 xl1), some (ar 1 2001 xl2), some (ar 1 2001 xrt), some (ar 3 2001 xlf), some (ar 0 3600 xdc), some (ar 0 12 xhn), some (ar 0 4005 (suF (mS xwg q (xwh q) nf mf) (mp (fun _ => 0) xsu 4005) i))] dy)) 2001 ?_ (fun i hi ih => ?_) 0 (by omega)
    · refine aw_blk (pc' := 35) (ls' := [some (vr 8 0), some (vi (q : Int)), some (vi (nf : Int)), some (vi (mf : Int)), some (vi (bits : Int)), some (vi (idv 2001)), none, none, none]) (st' := [vi 1000, vi (idv 2001)]) [.inl (.iload 5), .inl (.sipush 1000)] 30 _ _ (by decide +kernel) rfl ?_
      refine aw_icmp_gt (o := 43) (tgt := 78) (by decide +kernel) (by decide) (by show I32 (_ - _); omega) (by omega) (fun _ => ?_) (fun c => absurd (by show _ < (_ - _); omega) c)
      have hsu : ∀ t, t < 4005 → (suF (mS xwg q (xwh q) nf mf) (mp (fun _ => 0) xsu 4005) 2001) t = (mS xwg q (xwh q) nf mf) (taM t) := fun t ht => by unfold suF; split; rfl; rename_i h9; rw [mp_lt ht, hS.2 _ (by unfold taM; omega)]
      refine aw_blk (pc' := 90) (ls' := [some (vr 8 0), some (vi (q : Int)), some (vi (nf : Int)), some (vi (mf : Int)), some (vi (bits : Int)), some (vi 1), some (vi 1), none, none]) (st' := [vi 0, vi 0, vr 8 18]) [.inl (.iconst 1), .inl (.istore 5), .inl (.iconst 1), .inl (.istore 6), .inl (.aload_n 0), .inr (73, 8, 26), .inl (.iconst 0), .inl (.iconst 0)] 78 _ _ (by decide +kernel) rfl ?_
      refine aw_iast (j := 0) (h' := Hp b s t mk df jo tr di [some (ob 8 [vi th, vr 8 1, vi ln, vr 8 2, vr 8 3, vr 8 4, vi by9, vr 8 5, vr 8 6, vr 8 7, vr 8 8, vr 8 9, vi dn, vi ac, vi bd, vr 8 10, vr 8 11, vr 8 12, vr 8 13, vr 8 14, vi pm, vl pq, vr 8 15, vr 8 16, vi tk, vr 8 17, vr 8 18, vr 8 19, vi fo, vi f1, vi f2]), some (ar 2 200 xtp), some (ar 0 32016 xwg), some (ar 0 16 xwh), some (ar 1 2001 xmd), some (ar 0 30 xsl), some (ar 0 30 xhw), some (ar 0 30 xhs), some (ar 0 60030 xhd), some (ar 0 60030 xha), some (ar 0 600 xp1), some (ar 0 600 xp2), some (ar 1 600 xp3), some (ar 1 2001 xl1), some (ar 1 2001 xl2), some (ar 1 2001 xrt), some (ar 3 2001 xlf), some (ar 0 3600 xdc), some (ar 0 12 (va_up xhn 0 0)), some (ar 0 4005 (suF (mS xwg q (xwh q) nf mf) (mp (fun _ => 0) xsu 4005) 2001))] dy) (by decide +kernel) rfl (by omega) (by omega) (by omega) rfl ?_
      refine aw_blk (pc' := 98) (ls' := [some (vr 8 0), some (vi (q : Int)), some (vi (nf : Int)), some (vi (mf : Int)), some (vi (bits : Int)), some (vi 1), some (vi 1), none, none]) (st' := [vr 8 0, vi 6, vr 8 18]) [.inl (.aload_n 0), .inr (73, 8, 26), .inl (.bipush 6), .inl (.aload_n 0)] 91 _ _ (by decide +kernel) rfl ?_
      refine aw_dV (cs' := 0) (sl' := 0) (pc' := 101) (st' := [vi (fsX (suF (mS xwg q (xwh q) nf mf) (mp (fun _ => 0) xsu 4005) 2001) 4005 0), vi 6, vr 8 18]) (idx := 198) (as := []) (st := [vi 6, vr 8 18]) (m_M_least) (by decide +kernel) (show vOK "ChanceBenchModel" 198 M_M_least 0 = true by decide +kernel) rfl rfl rfl (Nat.le_of_ble_eq_true rfl) (by decide) (by decide) (by decide) rfl rfl rfl rfl ?_
      rcases ls_X hsu (fun u => (hS.1 u).1) hS.2 with ⟨z1, _⟩ | ⟨z1, z2, z3, z4⟩
      · rw [hb0] at z1
        omega
      · rw [hb0] at z1 z2 z3 z4
        rw [z3]
        refine aw_iast (j := 6) (h' := Hp b s t mk df jo tr di [some (ob 8 [vi th, vr 8 1, vi ln, vr 8 2, vr 8 3, vr 8 4, vi by9, vr 8 5, vr 8 6, vr 8 7, vr 8 8, vr 8 9, vi dn, vi ac, vi bd, vr 8 10, vr 8 11, vr 8 12, vr 8 13, vr 8 14, vi pm, vl pq, vr 8 15, vr 8 16, vi tk, vr 8 17, vr 8 18, vr 8 19, vi fo, vi f1, vi f2]), some (ar 2 200 xtp), some (ar 0 32016 xwg), some (ar 0 16 xwh), some (ar 1 2001 xmd), some (ar 0 30 xsl), some (ar 0 30 xhw), some (ar 0 30 xhs), some (ar 0 60030 xhd), some (ar 0 60030 xha), some (ar 0 600 xp1), some (ar 0 600 xp2), some (ar 1 600 xp3), some (ar 1 2001 xl1), some (ar 1 2001 xl2), some (ar 1 2001 xrt), some (ar 3 2001 xlf), some (ar 0 3600 xdc), some (ar 0 12 (va_up (va_up xhn 0 0) 6 b0)), some (ar 0 4005 (suF (mS xwg q (xwh q) nf mf) (mp (fun _ => 0) xsu 4005) 2001))] dy) (by decide +kernel) rfl (by omega) (by omega) (by omega) rfl ?_
        refine aw_blk (pc' := 107) (ls' := [some (vr 8 0), some (vi (q : Int)), some (vi (nf : Int)), some (vi (mf : Int)), some (vi (bits : Int)), some (vi 1), some (vi 1), none, none]) (st' := [vi 1, vi 6, vi 0, vr 8 0]) [.inl (.aload_n 0), .inl (.iconst 0), .inl (.bipush 6), .inl (.iconst 1)] 102 _ _ (by decide +kernel) rfl ?_
        refine aw_rV (cs' := 0) (sl' := 0) (pc' := 110) (idx := 201) (as := [vi 0, vi 6, vi 1]) (st := []) (m_M_strike (m := 6) (n := 1) (by omega) (by omega) (fun j hj9 => by rw [show j = 0 by omega]; show -1000000 ≤ (va_up (va_up xhn 0 0) 6 b0) 6 ∧ (va_up (va_up xhn 0 0) 6 b0) 6 ≤ 1000000; rw [va_eq]; omega) (fun i hi => by rw [hsu i hi]; exact (hS.1 _).1)) (by decide +kernel) (show vOK "ChanceBenchModel" 201 M_M_strike 3 = true by decide +kernel) rfl rfl rfl (Nat.le_of_ble_eq_true rfl) (by decide) (by decide) (by decide) rfl rfl rfl (fun r107 h107 z107 => ?_)
        have hp0 : pre [0] (va_up (va_up xhn 0 0) 6 b0) := fun j v hj9 => by cases j with | zero => (simp at hj9; subst hj9; simp [va_up]) | succ j => simp at hj9
        have hp6 : pre [b0] (fun j => (va_up (va_up xhn 0 0) 6 b0) (6 + j)) := fun j v hj9 => by cases j with | zero => (simp at hj9; subst hj9; simp [va_up]) | succ j => simp at hj9
        rcases z107 with ⟨rfl, ht, rfl⟩ | ⟨rfl, ht, su9, rfl⟩
        · have hw0 : wI (mS xwg q (xwh q) nf mf) nf mf b0 [0] [b0] (va_up (va_up xhn 0 0) 6 b0) (dcr (suF (mS xwg q (xwh q) nf mf) (mp (fun _ => 0) xsu 4005) 2001) taM 4005 0 (fun j => (va_up (va_up xhn 0 0) 6 b0) (6 + j)) 1) := by
            refine ⟨⟨rfl, rfl, by simp; omega, by simp; omega, fun v hv => by rw [List.mem_singleton.mp hv]; omega, fun v hv => by rw [List.mem_singleton.mp hv]; omega, fun u => ?_⟩, hp0, hp6, fun i hi => ?_⟩
            · unfold rem_
              simp only [sm, cB]
              have h9 := (hS.1 u).1
              by_cases e : b0 = u - 0
              · rw [if_pos e]; have e2 : u = b0 := by omega
                subst e2; omega
              · rw [if_neg e]; omega
            · have h9 := hits_cB (u := taM i) (a := 0) [b0] _ hp6
              unfold dcr
              rw [if_pos hi, hsu i hi]
              simp only [List.length_singleton] at h9
              rw [h9]
              unfold rem_
              simp only [sm]
              omega
          refine aw_if_ne (o := 5) (tgt := 115) (by decide +kernel) (by decide) (by omega) (fun _ => ?_) (fun c => absurd c (by omega))
          refine aw_blk (pc' := 118) (ls' := [some (vr 8 0), some (vi (q : Int)), some (vi (nf : Int)), some (vi (mf : Int)), some (vi (bits : Int)), some (vi 1), some (vi 1), some (vi 0), none]) (st' := []) [.inl (.iconst 0), .inl (.istore 7)] 115 _ _ (by decide +kernel) rfl ?_
          exact l_M_wy (res := wy (mS xwg q (xwh q) nf mf) b0 (bl bits 0 (nf + mf - 2)) [0] [b0]) h1 h2 hS z2 hbt (fun r h z => hq r h z) 0 (by omega) [0] [b0] _ _ hw0 (fun k hk => by unfold va_up; rw [if_neg (by omega), if_neg (by omega)]) (by simp only [List.length_singleton]; rw [show nf + mf - 2 - 0 = nf + mf - 2 by omega, hc]; omega) (by simp only [List.length_singleton]; omega) rfl
        · exfalso
          refine ht (fun k hk => ⟨(b0 + 2000).toNat, by omega, ?_, ?_⟩)
          · rw [show k = 0 by omega]; show taM _ = 0 + (va_up (va_up xhn 0 0) 6 b0) 6; rw [va_eq]; unfold taM; omega
          · rw [show k = 0 by omega, dcr_0, hsu _ (by omega), show taM (b0 + 2000).toNat = b0 by unfold taM; omega]; omega
    · have hiv : idv i = (i : Int) - 1000 := rfl
      have hnx : idv i + 1 = idv (i + 1) := by unfold idv; omega
      have htq := hTq (idv i)
      have a9 := Int.mul_le_mul htq.2 (show (nf : Int) ≤ 6 by omega) (by omega) (by omega)
      have a8 := Int.mul_nonneg htq.1 (show 0 ≤ (nf : Int) by omega)
      have a7 := Int.mul_le_mul a9 (show (mf : Int) ≤ 6 by omega) (by omega) (by omega)
      have a6 := Int.mul_nonneg a8 (show 0 ≤ (mf : Int) by omega)
      have hs9 := hS.1 (idv i)
      refine aw_blk (pc' := 35) (ls' := [some (vr 8 0), some (vi (q : Int)), some (vi (nf : Int)), some (vi (mf : Int)), some (vi (bits : Int)), some (vi (idv i)), none, none, none]) (st' := [vi 1000, vi (idv i)]) [.inl (.iload 5), .inl (.sipush 1000)] 30 _ _ (by decide +kernel) rfl ?_
      refine aw_icmp_gt (o := 43) (tgt := 78) (by decide +kernel) (by decide) (by omega) (by omega) (fun c => absurd c (by omega)) (fun _ => ?_)
      refine aw_blk (pc' := 52) (ls' := [some (vr 8 0), some (vi (q : Int)), some (vi (nf : Int)), some (vi (mf : Int)), some (vi (bits : Int)), some (vi (idv i)), none, none, none]) (st' := [vi (idv i), vi (q : Int), vr 8 0, vi ((idv i) + 2000), vr 8 19]) [.inl (.aload_n 0), .inr (76, 8, 27), .inl (.iload 5), .inl (.sipush 2000), .inl (.iadd), .inl (.aload_n 0), .inl (.iload_n 1), .inl (.iload 5)] 38 _ _ (by decide +kernel) rfl ?_
      refine aw_dV (cs' := 0) (sl' := 0) (pc' := 55) (st' := [vi (Tm xwg q (idv i)), vi ((idv i) + 2000), vr 8 19]) (idx := 136) (as := [vi (q : Int), vi (idv i)]) (st := [vi ((idv i) + 2000), vr 8 19]) (m_M_at (by omega) (by omega)) (by decide +kernel) (show vOK "ChanceBenchModel" 136 M_M_at 2 = true by decide +kernel) rfl rfl rfl (Nat.le_of_ble_eq_true rfl) (by decide) (by decide) (by decide) rfl rfl rfl rfl ?_
      refine aw_i2l (by decide +kernel) (by omega) ?_
      refine aw_blk (pc' := 57) (ls' := [some (vr 8 0), some (vi (q : Int)), some (vi (nf : Int)), some (vi (mf : Int)), some (vi (bits : Int)), some (vi (idv i)), none, none, none]) (st' := [vi (nf : Int), vl (Tm xwg q (idv i)), vi ((idv i) + 2000), vr 8 19]) [.inl (.iload_n 2)] 56 _ _ (by decide +kernel) rfl ?_
      refine aw_i2l (by decide +kernel) (by omega) ?_
      refine aw_blk (pc' := 60) (ls' := [some (vr 8 0), some (vi (q : Int)), some (vi (nf : Int)), some (vi (mf : Int)), some (vi (bits : Int)), some (vi (idv i)), none, none, none]) (st' := [vi (mf : Int), vl ((Tm xwg q (idv i)) * (nf : Int)), vi ((idv i) + 2000), vr 8 19]) [.inl (.lmul), .inl (.iload_n 3)] 58 _ _ (by decide +kernel) rfl ?_
      refine aw_i2l (by decide +kernel) (by omega) ?_
      refine aw_blk (pc' := 67) (ls' := [some (vr 8 0), some (vi (q : Int)), some (vi (nf : Int)), some (vi (mf : Int)), some (vi (bits : Int)), some (vi (idv i)), none, none, none]) (st' := [vi (q : Int), vr 8 3, vl (((Tm xwg q (idv i)) * (nf : Int)) * (mf : Int)), vi ((idv i) + 2000), vr 8 19]) [.inl (.lmul), .inl (.aload_n 0), .inr (17, 8, 4), .inl (.iload_n 1)] 61 _ _ (by decide +kernel) rfl ?_
      refine aw_iald (j := q) (by decide +kernel) rfl (by omega) (by omega) (fun r67 => ?_)
      refine aw_i2l (by decide +kernel) (by omega) ?_
      refine aw_ldiv (by decide +kernel) (by omega) (by omega) (by omega) ?_
      rw [show Int.tdiv (Tm xwg q (idv i) * (nf : Int) * (mf : Int)) (xwh q) = (mS xwg q (xwh q) nf mf) (idv i) from rfl]
      refine aw_blk (pc' := 71) (ls' := [some (vr 8 0), some (vi (q : Int)), some (vi (nf : Int)), some (vi (mf : Int)), some (vi (bits : Int)), some (vi (idv i)), none, none, none]) (st' := [vi ((mS xwg q (xwh q) nf mf) (idv i)), vi ((idv i) + 2000), vr 8 19]) [.inl (.l2i)] 70 _ _ (by decide +kernel) rfl ?_
      refine aw_iast (j := 1000 + i) (h' := Hp b s t mk df jo tr di [some (ob 8 [vi th, vr 8 1, vi ln, vr 8 2, vr 8 3, vr 8 4, vi by9, vr 8 5, vr 8 6, vr 8 7, vr 8 8, vr 8 9, vi dn, vi ac, vi bd, vr 8 10, vr 8 11, vr 8 12, vr 8 13, vr 8 14, vi pm, vl pq, vr 8 15, vr 8 16, vi tk, vr 8 17, vr 8 18, vr 8 19, vi fo, vi f1, vi f2]), some (ar 2 200 xtp), some (ar 0 32016 xwg), some (ar 0 16 xwh), some (ar 1 2001 xmd), some (ar 0 30 xsl), some (ar 0 30 xhw), some (ar 0 30 xhs), some (ar 0 60030 xhd), some (ar 0 60030 xha), some (ar 0 600 xp1), some (ar 0 600 xp2), some (ar 1 600 xp3), some (ar 1 2001 xl1), some (ar 1 2001 xl2), some (ar 1 2001 xrt), some (ar 3 2001 xlf), some (ar 0 3600 xdc), some (ar 0 12 xhn), some (ar 0 4005 (va_up (suF (mS xwg q (xwh q) nf mf) (mp (fun _ => 0) xsu 4005) i) (1000 + i) ((mS xwg q (xwh q) nf mf) (idv i))))] dy) (by decide +kernel) rfl (by omega) (by omega) (by omega) rfl ?_
      refine aw_blk (pc' := 75) (ls' := [some (vr 8 0), some (vi (q : Int)), some (vi (nf : Int)), some (vi (mf : Int)), some (vi (bits : Int)), some (vi ((idv i) + 1)), none, none, none]) (st' := []) [.inl (.iinc 5 1)] 72 _ _ (by decide +kernel) rfl ?_
      refine aw_goto (o := -45) (tgt := 30) (by decide +kernel) (by decide) ?_
      rw [hnx]
      exact aw_eq rfl rfl (by rw [← suF_s]) ih
  · refine aw_blk (pc' := 8) (ls' := [some (vr 8 0), some (vi (q : Int)), some (vi (nf : Int)), some (vi (mf : Int)), some (vi (bits : Int)), some (vi (i : Int)), none, none, none]) (st' := [vi 4005, vi (i : Int)]) [.inl (.iload 5), .inl (.sipush 4005)] 3 _ _ (by decide +kernel) rfl ?_
    refine aw_icmp_ge (o := 17) (tgt := 25) (by decide +kernel) (by decide) (by omega) (by omega) (fun c => absurd c (by omega)) (fun _ => ?_)
    refine aw_blk (pc' := 18) (ls' := [some (vr 8 0), some (vi (q : Int)), some (vi (nf : Int)), some (vi (mf : Int)), some (vi (bits : Int)), some (vi (i : Int)), none, none, none]) (st' := [vi 0, vi (i : Int), vr 8 19]) [.inl (.aload_n 0), .inr (76, 8, 27), .inl (.iload 5), .inl (.iconst 0)] 11 _ _ (by decide +kernel) rfl ?_
    refine aw_iast (j := i) (h' := Hp b s t mk df jo tr di [some (ob 8 [vi th, vr 8 1, vi ln, vr 8 2, vr 8 3, vr 8 4, vi by9, vr 8 5, vr 8 6, vr 8 7, vr 8 8, vr 8 9, vi dn, vi ac, vi bd, vr 8 10, vr 8 11, vr 8 12, vr 8 13, vr 8 14, vi pm, vl pq, vr 8 15, vr 8 16, vi tk, vr 8 17, vr 8 18, vr 8 19, vi fo, vi f1, vi f2]), some (ar 2 200 xtp), some (ar 0 32016 xwg), some (ar 0 16 xwh), some (ar 1 2001 xmd), some (ar 0 30 xsl), some (ar 0 30 xhw), some (ar 0 30 xhs), some (ar 0 60030 xhd), some (ar 0 60030 xha), some (ar 0 600 xp1), some (ar 0 600 xp2), some (ar 1 600 xp3), some (ar 1 2001 xl1), some (ar 1 2001 xl2), some (ar 1 2001 xrt), some (ar 3 2001 xlf), some (ar 0 3600 xdc), some (ar 0 12 xhn), some (ar 0 4005 (va_up (mp (fun _ => 0) xsu i) i 0))] dy) (by decide +kernel) rfl (by omega) (by omega) (by omega) rfl ?_
    refine aw_blk (pc' := 22) (ls' := [some (vr 8 0), some (vi (q : Int)), some (vi (nf : Int)), some (vi (mf : Int)), some (vi (bits : Int)), some (vi ((i : Int) + 1)), none, none, none]) (st' := []) [.inl (.iinc 5 1)] 19 _ _ (by decide +kernel) rfl ?_
    refine aw_goto (o := -19) (tgt := 3) (by decide +kernel) (by decide) ?_
    exact aw_eq rfl rfl (by rw [← mp_s]) ih

end
