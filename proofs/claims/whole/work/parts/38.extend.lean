/-- what is known of the throws, of the faces, of the arrays -/
def dS (S : Int → Int) (ta : Nat → Int) (len n m : Nat) (b0 : Int) : Prop := (len ≤ 24 ∧ inc ta len ∧ ∀ i, i < len → inR (ta i)) ∧ (∀ u, 0 ≤ S u ∧ S u ≤ 1000) ∧ (∀ u, 0 < S u → ∃ i, i < len ∧ ta i = u) ∧ (1 ≤ n ∧ n ≤ 6) ∧ (1 ≤ m ∧ m ≤ 6) ∧ inR b0
def fB (A : List Int) : Prop := ∀ v ∈ A, -2000 ≤ v ∧ v ≤ 2000
def dP (S : Int → Int) (n m : Nat) (b0 : Int) (A B : List Int) : Prop := A[0]? = some 0 ∧ B[0]? = some b0 ∧ A.length ≤ n ∧ B.length ≤ m ∧ fB A ∧ fB B ∧ ∀ u, 0 ≤ rem_ S A B u
def dV (S : Int → Int) (ta : Nat → Int) (len : Nat) (A B : List Int) (fi se tl : Nat → Int) : Prop := pre A fi ∧ pre B se ∧ ∀ i, i < len → tl i = rem_ S A B (ta i)
def bR (ta : Nat → Int) (len : Nat) (bi bar : Int) : Prop := (bi = -1 ∧ bar = 6000) ∨ ∃ i : Nat, i < len ∧ bi = (i : Int) ∧ bar = ta i
def rowI (kp : Nat → Int) (r : Nat) (x : List Int × List Int) : Prop := ∀ (j : Nat) (v : Int), j < 6 → (x.1[j]? = some v → kp (12 * r + j) = v) ∧ (x.2[j]? = some v → kp (12 * r + 6 + j) = v)
def rows (kp : Nat → Int) (F : Nat) (L : DL) : Prop := ∀ (i : Nat) (x : List Int × List Int), L[i]? = some x → rowI kp (F + i) x
def exR (x y F : Nat) (kp fi se : Nat → Int) (L : DL) (kp' fi' se' : Nat → Int) : Prop := (∀ i, i < x → fi' i = fi i) ∧ (∀ i, i < y → se' i = se i) ∧ (∀ k, k < 12 * F → kp' k = kp k) ∧ rows kp' F L
section
variable {S : Int → Int} {ta fi se tl kp kp' fi' se' kp2 fi2 se2 : Nat → Int} {len n m F x y : Nat} {b0 v w : Int} {A B : List Int} {L L2 : DL}
theorem rows_nil : rows kp F [] := fun i x h => by simp at h
theorem rows_app (h1 : rows kp F L) (h2 : rows kp (F + L.length) L2) : rows kp F (L ++ L2) := by
  intro i x hx
  rcases Nat.lt_or_ge i L.length with z | z
  · rw [List.getElem?_append_left z] at hx; exact h1 i x hx
  · rw [List.getElem?_append_right z] at hx
    have := h2 (i - L.length) x hx
    rw [show F + L.length + (i - L.length) = F + i by omega] at this
    exact this
theorem rows_ext (h : rows kp F L) (e : ∀ k, k < 12 * (F + L.length) → kp' k = kp k) : rows kp' F L := by
  intro i x hx j v hj
  have hi : i < L.length := by
    rcases Nat.lt_or_ge i L.length with z | z
    · exact z
    · rw [List.getElem?_eq_none z] at hx; simp at hx
  have := h i x hx j v hj
  exact ⟨fun q => by rw [e _ (by omega)]; exact this.1 q, fun q => by rw [e _ (by omega)]; exact this.2 q⟩
theorem exR_nil : exR x y F kp fi se [] kp fi se := ⟨fun _ _ => rfl, fun _ _ => rfl, fun _ _ => rfl, rows_nil⟩
theorem exR_app (h1 : exR x y F kp fi se L kp2 fi2 se2) (h2 : exR x y (F + L.length) kp2 fi2 se2 L2 kp' fi' se') : exR x y F kp fi se (L ++ L2) kp' fi' se' :=
  ⟨fun i hi => by rw [h2.1 i hi, h1.1 i hi], fun i hi => by rw [h2.2.1 i hi, h1.2.1 i hi], fun k hk => by rw [h2.2.2.1 k (by omega), h1.2.2.1 k hk], rows_app (rows_ext h1.2.2.2 (fun k hk => h2.2.2.1 k hk)) h2.2.2.2⟩
theorem pre_len (h : A[0]? = some v) : 1 ≤ A.length := by
  rcases Nat.eq_zero_or_pos A.length with z | z
  · rw [List.getElem?_eq_none (by omega)] at h; simp at h
  · exact z
theorem pre_fB (h : pre A fi) (hf : fB A) : ∀ j, j < A.length → -1000000 ≤ fi j ∧ fi j ≤ 1000000 := fun j hj => by
  have e := h j A[j] (List.getElem?_eq_getElem hj)
  have := hf A[j] (List.getElem_mem hj)
  omega
theorem hits_ext {a u : Int} {o o' : Nat → Int} {k : Nat} (h : ∀ j, j < k → o' j = o j) : hits a o' u k = hits a o u k := sumZ_ext (fun j hj => by rw [h j hj])
theorem icr_back {a : Int} {o o' : Nat → Int} {k : Nat} (h : ∀ j, j < k → o' j = o j) : icr (dcr tl ta len a o k) ta len a o' k = tl := by
  have : icr (dcr tl ta len a o k) ta len a o' k = icr (dcr tl ta len a o k) ta len a o k := by
    funext i; unfold icr; rw [hits_ext h]
  rw [this, icr_dcr]
theorem app0 {a : Int} (h : A[0]? = some a) : (A ++ [v])[0]? = some a := by
  rw [List.getElem?_append_left (by have := pre_len h; omega)]; exact h
theorem fB_app (h : fB A) (hv : -2000 ≤ v ∧ v ≤ 2000) : fB (A ++ [v]) := fun x hx => by
  rcases List.mem_append.mp hx with z | z
  · exact h x z
  · rw [List.mem_singleton.mp z]; exact hv
theorem dP_A (h : dP S n m b0 A B) (hn : A.length < n) (hv : -2000 ≤ v ∧ v ≤ 2000) (ok : okA S A B v = true) : dP S n m b0 (A ++ [v]) B := by
  obtain ⟨h1, h2, h3, h4, h5, h6, h7⟩ := h
  refine ⟨app0 h1, h2, by simp; omega, h4, fB_app h5 hv, h6, fun u => ?_⟩
  rcases Int.lt_or_le 0 (cB B (u - v)) with z | z
  · have := okA_iff.mp ok _ (cB_mem z)
    rw [show v + (u - v) = u by omega] at this; exact this
  · rw [rem_A]; have := h7 u; omega
theorem dP_B (h : dP S n m b0 A B) (hn : B.length < m) (hv : -2000 ≤ v ∧ v ≤ 2000) (ok : okB S A B v = true) : dP S n m b0 A (B ++ [v]) := by
  obtain ⟨h1, h2, h3, h4, h5, h6, h7⟩ := h
  refine ⟨h1, app0 h2, h3, by simp; omega, h5, fB_app h6 hv, fun u => ?_⟩
  rcases Int.lt_or_le 0 (cB A (u - v)) with z | z
  · have := okB_iff.mp ok _ (cB_mem z)
    rw [show v + (u - v) = u by omega] at this; exact this
  · rw [rem_B]; have := h7 u; omega
theorem hta_R (hS : dS S ta len n m b0) : ∀ u, 0 < rem_ S A B u → ∃ i, i < len ∧ ta i = u := fun u hu => hS.2.2.1 u (by unfold rem_ at hu; have := sm_nn A B u; omega)
theorem tkA (hS : dS S ta len n m b0) (hP : dP S n m b0 A B) (hV : dV S ta len A B fi se tl) : tkOK tl ta len v se B.length ↔ okA S A B v = true := by
  rw [tk_iff hS.1.2.1 hV.2.2 hP.2.2.2.2.2.2 (hta_R hS) hV.2.1, okA_iff]
  constructor
  · intro h b hb; have := h b hb; rw [rem_A, show v + b - v = b by omega]; exact this
  · intro h b hb; have := h b hb; rw [rem_A, show v + b - v = b by omega] at this; exact this
theorem tkB (hS : dS S ta len n m b0) (hP : dP S n m b0 A B) (hV : dV S ta len A B fi se tl) : tkOK tl ta len v fi A.length ↔ okB S A B v = true := by
  rw [tk_iff hS.1.2.1 hV.2.2 hP.2.2.2.2.2.2 (hta_R hS) hV.1, okB_iff]
  constructor
  · intro h b hb; have := h b hb; rw [rem_B, show v + b - v = b by omega]; exact this
  · intro h b hb; have := h b hb; rw [rem_B, show v + b - v = b by omega] at this; exact this
theorem dV_A (hV : dV S ta len A B fi se tl) : dV S ta len (A ++ [v]) B (va_up fi A.length v) se (dcr tl ta len v se B.length) :=
  ⟨pre_up hV.1, hV.2.1, fun i hi => by unfold dcr; rw [if_pos hi, hits_cB B se hV.2.1, hV.2.2 i hi, rem_A]⟩
theorem dV_B (hV : dV S ta len A B fi se tl) : dV S ta len A (B ++ [v]) fi (va_up se B.length v) (dcr tl ta len v fi A.length) :=
  ⟨hV.1, pre_up hV.2.1, fun i hi => by unfold dcr; rw [if_pos hi, hits_cB A fi hV.1, hV.2.2 i hi, rem_B]⟩
theorem tl_in (hS : dS S ta len n m b0) (hP : dP S n m b0 A B) (hV : dV S ta len A B fi se tl) : ∀ i, i < len → 0 ≤ tl i ∧ tl i ≤ 1000 := fun i hi => by
  rw [hV.2.2 i hi]
  have a := hP.2.2.2.2.2.2 (ta i)
  have b := hS.2.1 (ta i)
  have c := sm_nn A B (ta i)
  unfold rem_ at a ⊢; omega
theorem dcr_in {a : Int} {o : Nat → Int} {k : Nat} (h : ∀ i, i < len → 0 ≤ tl i ∧ tl i ≤ 1000) (hk : k ≤ 6) : ∀ i, i < len → -1000000 ≤ dcr tl ta len a o k i ∧ dcr tl ta len a o k i ≤ 1000000 := fun i hi => by
  have := h i hi
  have := hits_in (a := a) (o := o) (ta i) k
  unfold dcr; rw [if_pos hi]; omega
theorem exR_up (h1 : exR x (y + 1) F kp fi (va_up se y v) L kp' fi' se') : exR x y F kp fi se L kp' fi' se' :=
  ⟨h1.1, fun i hi => by rw [h1.2.1 i (by omega)]; simp only [va_up]; rw [if_neg (by omega)], h1.2.2⟩
theorem exR_upA (h1 : exR (x + 1) y F kp (va_up fi x v) se L kp' fi' se') : exR x y F kp fi se L kp' fi' se' :=
  ⟨fun i hi => by rw [h1.1 i (by omega)]; simp only [va_up]; rw [if_neg (by omega)], h1.2⟩
theorem kp_row (hA : pre A fi) (hB : pre B se) : rows (kpR kp fi se F 6) F [(A, B)] := by
  intro i z hz j v hj
  have : i = 0 := by
    rcases Nat.eq_zero_or_pos i with q | q
    · exact q
    · rw [List.getElem?_eq_none (by simp; omega)] at hz; simp at hz
  subst this
  simp only [List.getElem?_cons_zero, Option.some.injEq] at hz
  subst hz
  refine ⟨fun q => ?_, fun q => ?_⟩
  · unfold kpR; rw [if_pos (by omega), show 12 * (F + 0) + j - 12 * F = j by omega]; exact hA j v q
  · unfold kpR; rw [if_neg (by omega), if_pos (by omega), show 12 * (F + 0) + 6 + j - (12 * F + 6) = j by omega]; exact hB j v q
end
section
variable {G : GT} {h : HT} {b s t mk df jo tr di mo dy : SG} {a c d e B bd tk : Int} {n m k k1 k2 q q1 q2 j nn len : Nat} {f g ff gg ft at_ wt at2 wt2 : Nat → Int} {rf rr W W2 : Int} {T : Int → Int} {by_ : Prop} {laws ahead made : Nat → Option (Nat × Nat)} {slot : Nat → Int} {od dn un : Nat}
variable {kp fi se ta tl : Nat → Int} {S : Int → Int} {F x y : Nat} {b0 bar bi : Int} {A Bl : List Int}
theorem m_D_ext_0 (hS : dS S ta len n m b0) (hP : dP S n m b0 A Bl) (hV : dV S ta len A Bl fi se tl) (hx : A.length = x) (hy : Bl.length = y) (hf : (n - x) + (m - y) ≤ 0) (hb : bR ta len bi bar) (hF : F + pb (n - x) (m - y) ≤ 252) : AMet G (M_D_extend 0) [vr 7 0, vi (x : Int), vi (y : Int), vi bi] (Hp b s t mk df jo tr (sgD (len : Int) (F : Int) (n : Int) (m : Int) kp fi se ta tl) mo dy) (fun r h => r = none ∧ ∃ kp' fi' se', exR x y F kp fi se (ext S n m b0 0 A Bl bar) kp' fi' se' ∧ h = Hp b s t mk df jo tr (sgD (len : Int) ((F + (ext S n m b0 0 A Bl bar).length : Nat) : Int) (n : Int) (m : Int) kp' fi' se' ta tl) mo dy) (fun _ => False) := by
  refine am_rel (by decide +kernel) (Nat.le_of_ble_eq_true rfl) (fun Qr Qt hq => ?_)
  have hpb := pb_pos (n - x) (m - y)
  have s2 := hS.2.2.2
  have p3 := hP.2.2.1
  have p4 := hP.2.2.2.1
  refine aw_blk (pc' := 5) (ls' := [some (vr 7 0), some (vi (x : Int)), some (vi (y : Int)), some (vi bi), none]) (st' := [vi (n : Int), vi (x : Int)]) [.inl (.iload_n 1), .inl (.aload_n 0), .inr (34, 7, 7)] 0 _ _ (by decide +kernel) rfl ?_
  refine aw_icmp_lt (o := 16) (tgt := 21) (by decide +kernel) (by decide) (by omega) (by omega) (fun c5 => ?_) (fun c5 => ?_)
  · exact absurd hf (by omega)
  · refine aw_blk (pc' := 13) (ls' := [some (vr 7 0), some (vi (x : Int)), some (vi (y : Int)), some (vi bi), none]) (st' := [vi (m : Int), vi (y : Int)]) [.inl (.iload_n 2), .inl (.aload_n 0), .inr (37, 7, 8)] 8 _ _ (by decide +kernel) rfl ?_
    refine aw_icmp_lt (o := 8) (tgt := 21) (by decide +kernel) (by decide) (by omega) (by omega) (fun c13 => ?_) (fun c13 => ?_)
    · exact absurd hf (by omega)
    · refine aw_blk (pc' := 17) (ls' := [some (vr 7 0), some (vi (x : Int)), some (vi (y : Int)), some (vi bi), none]) (st' := [vr 7 0]) [.inl (.aload_n 0)] 16 _ _ (by decide +kernel) rfl ?_
      refine aw_dV (cs' := 0) (sl' := 0) (pc' := 20) (st' := []) (idx := 65) (as := []) (st := []) (m_D_keep (by omega)) (by decide +kernel) (show vOK "ChanceBench$Dice" 65 M_D_keep 0 = true by decide +kernel) rfl rfl rfl (Nat.le_of_ble_eq_true rfl) (by decide) (by decide) (by decide) rfl rfl rfl rfl ?_
      have eX : ext S n m b0 0 A Bl bar = [(A, Bl)] := by rw [ext, if_pos (by omega)]
      rw [eX] at hq
      exact aw_vret (by decide +kernel) rfl (by decide) (by decide) (hq _ _ ⟨rfl, kpR kp fi se F 6, fi, se, ⟨fun _ _ => rfl, fun _ _ => rfl, fun k hk => by unfold kpR; rw [if_neg (by omega), if_neg (by omega)], kp_row hV.1 hV.2.1⟩, rfl⟩)

theorem l_D_e110_1 {Qr : Option AV → HT → Prop} {Qt : HT → Prop} (hS : dS S ta len n m b0) (hP : dP S n m b0 A Bl) (hV : dV S ta len A Bl fi se tl) (hx : A.length = x) (hy : Bl.length = y) (hf : (n - x) + (m - y) ≤ 1) (hk : k < len) (ek : lsU (rem_ S A Bl) = ta k) (hF2 : y < m → F + pb (n - x) (m - y - 1) ≤ 252) (hq : ∀ kp' fi' se', exR x y F kp fi se (exB S n m b0 0 A Bl) kp' fi' se' → Qr none (Hp b s t mk df jo tr (sgD (len : Int) ((F + (exB S n m b0 0 A Bl).length : Nat) : Int) (n : Int) (m : Int) kp' fi' se' ta tl) mo dy)) : AW G (M_D_extend 1) Qr Qt 0 0 110 [some (vr 7 0), some (vi (x : Int)), some (vi (y : Int)), some (vi bi), some (vi (k : Int))] [] (Hp b s t mk df jo tr (sgD (len : Int) (F : Int) (n : Int) (m : Int) kp fi se ta tl) mo dy) := by
  have s1 := hS.1
  have s2 := hS.2.2.2
  have p3 := hP.2.2.1
  have p4 := hP.2.2.2.1
  have p5 := hP.2.2.2.2.1
  have p6 := hP.2.2.2.2.2.1
  have l1 := pre_len hP.1
  have l2 := pre_len hP.2.1
  have e0 : fi 0 = 0 := hV.1 0 0 hP.1
  have hrk := hS.1.2.2 k hk
  have htl := tl_in hS hP hV
  refine aw_blk (pc' := 115) (ls' := [some (vr 7 0), some (vi (x : Int)), some (vi (y : Int)), some (vi bi), some (vi (k : Int))]) (st' := [vi (m : Int), vi (y : Int)]) [.inl (.iload_n 2), .inl (.aload_n 0), .inr (37, 7, 8)] 110 _ _ (by decide +kernel) rfl ?_
  refine aw_icmp_ge (o := 66) (tgt := 181) (by decide +kernel) (by decide) (by omega) (by omega) (fun c115 => ?_) (fun c115 => ?_)
  · have eB : exB S n m b0 0 A Bl = [] := by unfold exB; rw [if_neg (by omega)]
    rw [eB] at hq
    exact aw_vret (by decide +kernel) rfl (by decide) (by decide) (hq kp fi se exR_nil)
  · refine aw_blk (pc' := 129) (ls' := [some (vr 7 0), some (vi (x : Int)), some (vi (y : Int)), some (vi bi), some (vi (k : Int))]) (st' := [vi (k : Int), vr 7 4, vi (y : Int), vr 7 3]) [.inl (.aload_n 0), .inr (18, 7, 2), .inl (.iload_n 2), .inl (.aload_n 0), .inr (21, 7, 3), .inl (.iload 4)] 118 _ _ (by decide +kernel) rfl ?_
    refine aw_iald (j := k) (by decide +kernel) rfl (by omega) (by omega) (fun r129 => ?_)
    refine aw_blk (pc' := 135) (ls' := [some (vr 7 0), some (vi (x : Int)), some (vi (y : Int)), some (vi bi), some (vi (k : Int))]) (st' := [vi 0, vr 7 2, vi (ta k), vi (y : Int), vr 7 3]) [.inl (.aload_n 0), .inr (15, 7, 1), .inl (.iconst 0)] 130 _ _ (by decide +kernel) rfl ?_
    refine aw_iald (j := 0) (by decide +kernel) rfl (by omega) (by omega) (fun r135 => ?_)
    refine aw_blk (pc' := 137) (ls' := [some (vr 7 0), some (vi (x : Int)), some (vi (y : Int)), some (vi bi), some (vi (k : Int))]) (st' := [vi ((ta k) - (fi 0)), vi (y : Int), vr 7 3]) [.inl (.isub)] 136 _ _ (by decide +kernel) rfl ?_
    rw [show ta k - fi 0 = ta k by omega]
    refine aw_iast (j := y) (h' := Hp b s t mk df jo tr [some (ob 7 [vr 7 1, vr 7 2, vr 7 3, vr 7 4, vr 7 5, vi (len : Int), vi (F : Int), vi (n : Int), vi (m : Int)]), some (ar 0 3024 kp), some (ar 0 6 fi), some (ar 0 6 (va_up se y (ta k))), some (ar 0 24 ta), some (ar 0 24 tl)] mo dy) (by decide +kernel) rfl rfl (by omega) (by omega) rfl ?_
    refine aw_blk (pc' := 144) (ls' := [some (vr 7 0), some (vi (x : Int)), some (vi (y : Int)), some (vi bi), some (vi (k : Int))]) (st' := [vi (y : Int), vr 7 3, vr 7 0]) [.inl (.aload_n 0), .inl (.aload_n 0), .inr (18, 7, 2), .inl (.iload_n 2)] 138 _ _ (by decide +kernel) rfl ?_
    refine aw_iald (j := y) (by decide +kernel) rfl (by omega) (by omega) (fun r144 => ?_)
    refine aw_blk (pc' := 150) (ls' := [some (vr 7 0), some (vi (x : Int)), some (vi (y : Int)), some (vi bi), some (vi (k : Int))]) (st' := [vi (x : Int), vr 7 2, vi ((va_up se y (ta k)) y), vr 7 0]) [.inl (.aload_n 0), .inr (15, 7, 1), .inl (.iload_n 1)] 145 _ _ (by decide +kernel) rfl ?_
    rw [va_eq]
    by_cases ok : okB S A Bl (ta k) = true
    · have eB : exB S n m b0 0 A Bl = ext S n m b0 0 A (Bl ++ [ta k]) (ta k) := by unfold exB; rw [ek, if_pos ⟨by omega, ok⟩]
      rw [eB] at hq
      have hlen : (Bl ++ [ta k]).length = y + 1 := by rw [List.length_append, hy]; rfl
      have hp := pre_fB hV.1 p5
      rw [hx] at hp
      refine aw_dV (cs' := 0) (sl' := 0) (pc' := 153) (st' := [vi 1]) (idx := 72) (as := [vi (ta k), vr 7 2, vi (x : Int)]) (st := []) (m_D_take_fi_1 (y := x) s1.1 s1.2.1 hp (by omega) (by omega) (fun i hi => by have := htl i hi; omega) (by rw [← hx]; exact (tkB hS hP hV).mpr ok)) (by decide +kernel) (show vOK "ChanceBench$Dice" 72 M_D_takeThrows 3 = true by decide +kernel) rfl rfl rfl (Nat.le_of_ble_eq_true rfl) (by decide) (by decide) (by decide) rfl rfl rfl rfl ?_
      refine aw_if_eq (o := 28) (tgt := 181) (by decide +kernel) (by decide) (by omega) (fun c => absurd c (by omega)) (fun _ => ?_)
      refine aw_blk (pc' := 163) (ls' := [some (vr 7 0), some (vi (x : Int)), some (vi (y : Int)), some (vi bi), some (vi (k : Int))]) (st' := [vi (k : Int), vi ((y : Int) + 1), vi (x : Int), vr 7 0]) [.inl (.aload_n 0), .inl (.iload_n 1), .inl (.iload_n 2), .inl (.iconst 1), .inl (.iadd), .inl (.iload 4)] 156 _ _ (by decide +kernel) rfl ?_
      have hV2 := dV_B (v := ta k) hV
      rw [hx, hy] at hV2
      refine aw_rV (cs' := 0) (sl' := 0) (pc' := 166) (idx := 61) (as := [vi (x : Int), vi ((y : Int) + 1), vi (k : Int)]) (st := []) (m_D_ext_0 (x := x) (y := y + 1) (F := F) (bar := ta k) hS (dP_B hP (by omega) (by omega) ok) hV2 hx hlen (by omega) (Or.inr ⟨k, hk, rfl, rfl⟩) (by have := hF2 (by omega); rw [show m - (y + 1) = m - y - 1 by omega]; exact this)) (by decide +kernel) (show vOK "ChanceBench$Dice" 61 (M_D_extend 0) 3 = true by decide +kernel) rfl rfl rfl (Nat.le_of_ble_eq_true rfl) (by decide) (by decide) (by decide) rfl rfl rfl (fun r163 h163 z163 => ?_)
      obtain ⟨rfl, kp2, fi2, se2, hR, rfl⟩ := z163
      have e2 : se2 y = ta k := by rw [hR.2.1 y (by omega), va_eq]
      have hag : ∀ j, j < x → fi2 j = fi j := hR.1
      refine aw_blk (pc' := 172) (ls' := [some (vr 7 0), some (vi (x : Int)), some (vi (y : Int)), some (vi bi), some (vi (k : Int))]) (st' := [vi (y : Int), vr 7 3, vr 7 0]) [.inl (.aload_n 0), .inl (.aload_n 0), .inr (18, 7, 2), .inl (.iload_n 2)] 166 _ _ (by decide +kernel) rfl ?_
      refine aw_iald (j := y) (by decide +kernel) rfl (by omega) (by omega) (fun r172 => ?_)
      refine aw_blk (pc' := 178) (ls' := [some (vr 7 0), some (vi (x : Int)), some (vi (y : Int)), some (vi bi), some (vi (k : Int))]) (st' := [vi (x : Int), vr 7 2, vi (se2 y), vr 7 0]) [.inl (.aload_n 0), .inr (15, 7, 1), .inl (.iload_n 1)] 173 _ _ (by decide +kernel) rfl ?_
      rw [e2]
      refine aw_dV (cs' := 0) (sl' := 0) (pc' := 181) (st' := []) (idx := 76) (as := [vi (ta k), vr 7 2, vi (x : Int)]) (st := []) (m_D_giveBack_fi (y := x) s1.1 s1.2.1 (fun j hj => by rw [hag j hj]; exact hp j hj) (by omega) (by omega) (dcr_in htl (by omega))) (by decide +kernel) (show vOK "ChanceBench$Dice" 76 M_D_giveBackThrows 3 = true by decide +kernel) rfl rfl rfl (Nat.le_of_ble_eq_true rfl) (by decide) (by decide) (by decide) rfl rfl rfl rfl ?_
      rw [icr_back hag]
      exact aw_vret (by decide +kernel) rfl (by decide) (by decide) (hq kp2 fi2 se2 (exR_up hR))
    · have eB : exB S n m b0 0 A Bl = [] := by unfold exB; rw [ek, if_neg (fun z => ok z.2)]
      rw [eB] at hq
      have hp := pre_fB hV.1 p5
      rw [hx] at hp
      refine aw_dV (cs' := 0) (sl' := 0) (pc' := 153) (st' := [vi 0]) (idx := 72) (as := [vi (ta k), vr 7 2, vi (x : Int)]) (st := []) (m_D_take_fi_0 (y := x) s1.1 s1.2.1 hp (by omega) (by omega) (fun i hi => by have := htl i hi; omega) (fun i hi => by have := htl i hi; omega) (by rw [← hx]; exact fun z => ok ((tkB hS hP hV).mp z))) (by decide +kernel) (show vOK "ChanceBench$Dice" 72 M_D_takeThrows 3 = true by decide +kernel) rfl rfl rfl (Nat.le_of_ble_eq_true rfl) (by decide) (by decide) (by decide) rfl rfl rfl rfl ?_
      refine aw_if_eq (o := 28) (tgt := 181) (by decide +kernel) (by decide) (by omega) (fun _ => ?_) (fun c => absurd (by omega) c)
      exact aw_vret (by decide +kernel) rfl (by decide) (by decide) (hq kp fi (va_up se y (ta k)) (exR_up ⟨fun _ _ => rfl, fun _ _ => rfl, fun _ _ => rfl, rows_nil⟩))
theorem pb_AB {p q : Nat} (hp : 1 ≤ p) (hq : 1 ≤ q) : pb p q = pb (p - 1) q + pb p (q - 1) := by
  obtain ⟨p, rfl⟩ : ∃ p', p = p' + 1 := ⟨p - 1, by omega⟩
  obtain ⟨q, rfl⟩ : ∃ q', q = q' + 1 := ⟨q - 1, by omega⟩
  rw [pb]; rfl
theorem pb_A {p q : Nat} (hp : 1 ≤ p) : pb (p - 1) q ≤ pb p q := by
  rcases Nat.eq_zero_or_pos q with z | z
  · subst z; rw [pb_0, pb_0]; omega
  · have := pb_AB hp z; omega
theorem pb_B {p q : Nat} (hq : 1 ≤ q) : pb p (q - 1) ≤ pb p q := by
  rcases Nat.eq_zero_or_pos p with z | z
  · subst z; simp [pb]
  · have := pb_AB z hq; omega
theorem l_D_e21_1 {Qr : Option AV → HT → Prop} {Qt : HT → Prop} (hS : dS S ta len n m b0) (hP : dP S n m b0 A Bl) (hV : dV S ta len A Bl fi se tl) (hx : A.length = x) (hy : Bl.length = y) (hb : bR ta len bi bar) (hnd : ¬ (n ≤ x ∧ m ≤ y)) (hf : (n - x) + (m - y) ≤ 1) (hF : F + pb (n - x) (m - y) ≤ 252) (hq : ∀ kp' fi' se', exR x y F kp fi se (ext S n m b0 1 A Bl bar) kp' fi' se' → Qr none (Hp b s t mk df jo tr (sgD (len : Int) ((F + (ext S n m b0 1 A Bl bar).length : Nat) : Int) (n : Int) (m : Int) kp' fi' se' ta tl) mo dy)) : AW G (M_D_extend 1) Qr Qt 0 0 21 [some (vr 7 0), some (vi (x : Int)), some (vi (y : Int)), some (vi bi), none] [] (Hp b s t mk df jo tr (sgD (len : Int) (F : Int) (n : Int) (m : Int) kp fi se ta tl) mo dy) := by
  have s1 := hS.1
  have s2 := hS.2.2.2
  have p3 := hP.2.2.1
  have p4 := hP.2.2.2.1
  have p5 := hP.2.2.2.2.1
  have p6 := hP.2.2.2.2.2.1
  have l1 := pre_len hP.1
  have l2 := pre_len hP.2.1
  have e0 : se 0 = b0 := hV.2.1 0 b0 hP.2.1
  have htl := tl_in hS hP hV
  have hbi : I32 bi := by rcases hb with ⟨z, _⟩ | ⟨i, z, q, _⟩ <;> omega
  refine aw_blk (pc' := 22) (ls' := [some (vr 7 0), some (vi (x : Int)), some (vi (y : Int)), some (vi bi), none]) (st' := [vr 7 0]) [.inl (.aload_n 0)] 21 _ _ (by decide +kernel) rfl ?_
  refine aw_dV (cs' := 0) (sl' := 0) (pc' := 25) (st' := [vi (lsI tl len 0)]) (idx := 68) (as := []) (st := []) (m_D_leastThrowLeft s1.1) (by decide +kernel) (show vOK "ChanceBench$Dice" 68 M_D_leastThrowLeft 0 = true by decide +kernel) rfl rfl rfl (Nat.le_of_ble_eq_true rfl) (by decide) (by decide) (by decide) rfl rfl rfl rfl ?_
  rcases ls_rel s1.2.1 s1.2.2 hV.2.2 (hta_R hS) with ⟨q1, q2⟩ | ⟨k, hk, q1, ek⟩
  · rw [q1]
    refine aw_blk (pc' := 30) (ls' := [some (vr 7 0), some (vi (x : Int)), some (vi (y : Int)), some (vi bi), some (vi (-1))]) (st' := [vi (-1), vi (-1)]) [.inl (.istore 4), .inl (.iload 4), .inl (.iconst (-1))] 25 _ _ (by decide +kernel) rfl ?_
    refine aw_icmp_ne (o := 4) (tgt := 34) (by decide +kernel) (by decide) (by omega) (by omega) (fun c => absurd (by omega) c) (fun _ => ?_)
    have eX : ext S n m b0 1 A Bl bar = [] := by rw [ext, if_neg (by omega), if_pos q2]
    rw [eX] at hq
    exact aw_vret (by decide +kernel) rfl (by decide) (by decide) (hq kp fi se exR_nil)
  · have hrk := hS.1.2.2 k hk
    rw [q1]
    have eX : ext S n m b0 1 A Bl bar = exA S n m b0 0 A Bl bar ++ exB S n m b0 0 A Bl := ext_s S n m b0 0 A Bl bar (by omega) (by omega)
    rw [eX] at hq
    refine aw_blk (pc' := 30) (ls' := [some (vr 7 0), some (vi (x : Int)), some (vi (y : Int)), some (vi bi), some (vi (k : Int))]) (st' := [vi (-1), vi (k : Int)]) [.inl (.istore 4), .inl (.iload 4), .inl (.iconst (-1))] 25 _ _ (by decide +kernel) rfl ?_
    refine aw_icmp_ne (o := 4) (tgt := 34) (by decide +kernel) (by decide) (by omega) (by omega) (fun _ => ?_) (fun c => absurd c (by omega))
    refine aw_blk (pc' := 39) (ls' := [some (vr 7 0), some (vi (x : Int)), some (vi (y : Int)), some (vi bi), some (vi (k : Int))]) (st' := [vi (n : Int), vi (x : Int)]) [.inl (.iload_n 1), .inl (.aload_n 0), .inr (34, 7, 7)] 34 _ _ (by decide +kernel) rfl ?_
    refine aw_icmp_ge (o := 71) (tgt := 110) (by decide +kernel) (by decide) (by omega) (by omega) (fun c39 => ?_) (fun c39 => ?_)
    · have eA : exA S n m b0 0 A Bl bar = [] := by unfold exA; rw [if_neg (by omega)]
      exact l_D_e110_1 hS hP hV hx hy hf hk ek (fun hlt => by have := pb_B (p := n - x) (q := m - y) (by omega); omega) (fun kp' fi' se' h9 => by rw [eA, List.nil_append] at hq; exact hq kp' fi' se' h9)
    · refine aw_blk (pc' := 45) (ls' := [some (vr 7 0), some (vi (x : Int)), some (vi (y : Int)), some (vi bi), some (vi (k : Int))]) (st' := [vi bi, vi (k : Int)]) [.inl (.iload 4), .inl (.iload_n 3)] 42 _ _ (by decide +kernel) rfl ?_
      refine aw_icmp_eq (o := 65) (tgt := 110) (by decide +kernel) (by decide) (by omega) (by omega) (fun c45 => ?_) (fun c45 => ?_)
      · have eA : exA S n m b0 0 A Bl bar = [] := by unfold exA; rw [ek, if_neg (fun z => z.2.1 (by rcases hb with ⟨z1, _⟩ | ⟨i, z1, z2, z3⟩; omega; rw [z3, show i = k by omega]))]
        exact l_D_e110_1 hS hP hV hx hy hf hk ek (fun hlt => by have := pb_B (p := n - x) (q := m - y) (by omega); omega) (fun kp' fi' se' h9 => by rw [eA, List.nil_append] at hq; exact hq kp' fi' se' h9)
      · have hne : ta k ≠ bar := fun e => by
          rcases hb with ⟨_, z2⟩ | ⟨i, z1, z2, z3⟩
          · omega
          · rw [z3] at e
            rcases Nat.lt_trichotomy k i with q | q | q
            · have := s1.2.1 k i q z1; omega
            · omega
            · have := s1.2.1 i k q hk; omega
        refine aw_blk (pc' := 59) (ls' := [some (vr 7 0), some (vi (x : Int)), some (vi (y : Int)), some (vi bi), some (vi (k : Int))]) (st' := [vi (k : Int), vr 7 4, vi (x : Int), vr 7 2]) [.inl (.aload_n 0), .inr (15, 7, 1), .inl (.iload_n 1), .inl (.aload_n 0), .inr (21, 7, 3), .inl (.iload 4)] 48 _ _ (by decide +kernel) rfl ?_
        refine aw_iald (j := k) (by decide +kernel) rfl (by omega) (by omega) (fun r59 => ?_)
        refine aw_blk (pc' := 65) (ls' := [some (vr 7 0), some (vi (x : Int)), some (vi (y : Int)), some (vi bi), some (vi (k : Int))]) (st' := [vi 0, vr 7 3, vi (ta k), vi (x : Int), vr 7 2]) [.inl (.aload_n 0), .inr (18, 7, 2), .inl (.iconst 0)] 60 _ _ (by decide +kernel) rfl ?_
        refine aw_iald (j := 0) (by decide +kernel) rfl (by omega) (by omega) (fun r65 => ?_)
        refine aw_blk (pc' := 67) (ls' := [some (vr 7 0), some (vi (x : Int)), some (vi (y : Int)), some (vi bi), some (vi (k : Int))]) (st' := [vi ((ta k) - (se 0)), vi (x : Int), vr 7 2]) [.inl (.isub)] 66 _ _ (by decide +kernel) rfl ?_
        rw [e0]
        refine aw_iast (j := x) (h' := Hp b s t mk df jo tr [some (ob 7 [vr 7 1, vr 7 2, vr 7 3, vr 7 4, vr 7 5, vi (len : Int), vi (F : Int), vi (n : Int), vi (m : Int)]), some (ar 0 3024 kp), some (ar 0 6 (va_up fi x (ta k - b0))), some (ar 0 6 se), some (ar 0 24 ta), some (ar 0 24 tl)] mo dy) (by decide +kernel) rfl rfl (by omega) (by omega) rfl ?_
        refine aw_blk (pc' := 74) (ls' := [some (vr 7 0), some (vi (x : Int)), some (vi (y : Int)), some (vi bi), some (vi (k : Int))]) (st' := [vi (x : Int), vr 7 2, vr 7 0]) [.inl (.aload_n 0), .inl (.aload_n 0), .inr (15, 7, 1), .inl (.iload_n 1)] 68 _ _ (by decide +kernel) rfl ?_
        refine aw_iald (j := x) (by decide +kernel) rfl (by omega) (by omega) (fun r74 => ?_)
        refine aw_blk (pc' := 80) (ls' := [some (vr 7 0), some (vi (x : Int)), some (vi (y : Int)), some (vi bi), some (vi (k : Int))]) (st' := [vi (y : Int), vr 7 3, vi ((va_up fi x (ta k - b0)) x), vr 7 0]) [.inl (.aload_n 0), .inr (18, 7, 2), .inl (.iload_n 2)] 75 _ _ (by decide +kernel) rfl ?_
        rw [va_eq]
        have hp := pre_fB hV.2.1 p6
        rw [hy] at hp
        by_cases ok : okA S A Bl (ta k - b0) = true
        · have eA : exA S n m b0 0 A Bl bar = ext S n m b0 0 (A ++ [ta k - b0]) Bl 6000 := by unfold exA; rw [ek, if_pos ⟨by omega, hne, ok⟩]
          rw [eA] at hq
          have hlen : (A ++ [ta k - b0]).length = x + 1 := by rw [List.length_append, hx]; rfl
          refine aw_dV (cs' := 0) (sl' := 0) (pc' := 83) (st' := [vi 1]) (idx := 72) (as := [vi (ta k - b0), vr 7 3, vi (y : Int)]) (st := []) (m_D_take_se_1 (y := y) s1.1 s1.2.1 hp (by omega) (by omega) (fun i hi => by have := htl i hi; omega) (by rw [← hy]; exact (tkA hS hP hV).mpr ok)) (by decide +kernel) (show vOK "ChanceBench$Dice" 72 M_D_takeThrows 3 = true by decide +kernel) rfl rfl rfl (Nat.le_of_ble_eq_true rfl) (by decide) (by decide) (by decide) rfl rfl rfl rfl ?_
          refine aw_if_eq (o := 27) (tgt := 110) (by decide +kernel) (by decide) (by omega) (fun c => absurd c (by omega)) (fun _ => ?_)
          refine aw_blk (pc' := 92) (ls' := [some (vr 7 0), some (vi (x : Int)), some (vi (y : Int)), some (vi bi), some (vi (k : Int))]) (st' := [vi (-1), vi (y : Int), vi ((x : Int) + 1), vr 7 0]) [.inl (.aload_n 0), .inl (.iload_n 1), .inl (.iconst 1), .inl (.iadd), .inl (.iload_n 2), .inl (.iconst (-1))] 86 _ _ (by decide +kernel) rfl ?_
          have hV2 := dV_A (v := ta k - b0) hV
          rw [hx, hy] at hV2
          refine aw_rV (cs' := 0) (sl' := 0) (pc' := 95) (idx := 61) (as := [vi ((x : Int) + 1), vi (y : Int), vi (-1)]) (st := []) (m_D_ext_0 (x := x + 1) (y := y) (F := F) (bar := 6000) hS (dP_A hP (by omega) (by omega) ok) hV2 hlen hy (by omega) (Or.inl ⟨rfl, rfl⟩) (by have := pb_A (p := n - x) (q := m - y) (by omega); rw [show n - (x + 1) = n - x - 1 by omega]; omega)) (by decide +kernel) (show vOK "ChanceBench$Dice" 61 (M_D_extend 0) 3 = true by decide +kernel) rfl rfl rfl (Nat.le_of_ble_eq_true rfl) (by decide) (by decide) (by decide) rfl rfl rfl (fun r92 h92 z92 => ?_)
          obtain ⟨rfl, kp2, fi2, se2, hR, rfl⟩ := z92
          have e2 : fi2 x = ta k - b0 := by rw [hR.1 x (by omega), va_eq]
          have hag : ∀ j, j < y → se2 j = se j := hR.2.1
          refine aw_blk (pc' := 101) (ls' := [some (vr 7 0), some (vi (x : Int)), some (vi (y : Int)), some (vi bi), some (vi (k : Int))]) (st' := [vi (x : Int), vr 7 2, vr 7 0]) [.inl (.aload_n 0), .inl (.aload_n 0), .inr (15, 7, 1), .inl (.iload_n 1)] 95 _ _ (by decide +kernel) rfl ?_
          refine aw_iald (j := x) (by decide +kernel) rfl (by omega) (by omega) (fun r101 => ?_)
          refine aw_blk (pc' := 107) (ls' := [some (vr 7 0), some (vi (x : Int)), some (vi (y : Int)), some (vi bi), some (vi (k : Int))]) (st' := [vi (y : Int), vr 7 3, vi (fi2 x), vr 7 0]) [.inl (.aload_n 0), .inr (18, 7, 2), .inl (.iload_n 2)] 102 _ _ (by decide +kernel) rfl ?_
          rw [e2]
          refine aw_dV (cs' := 0) (sl' := 0) (pc' := 110) (st' := []) (idx := 76) (as := [vi (ta k - b0), vr 7 3, vi (y : Int)]) (st := []) (m_D_giveBack_se (y := y) s1.1 s1.2.1 (fun j hj => by rw [hag j hj]; exact hp j hj) (by omega) (by omega) (dcr_in htl (by omega))) (by decide +kernel) (show vOK "ChanceBench$Dice" 76 M_D_giveBackThrows 3 = true by decide +kernel) rfl rfl rfl (Nat.le_of_ble_eq_true rfl) (by decide) (by decide) (by decide) rfl rfl rfl rfl ?_
          rw [icr_back hag]
          have hR1 := exR_upA hR
          have hV3 : dV S ta len A Bl fi2 se2 tl := ⟨pre_ext hV.1 (by rw [hx]; exact hR1.1), pre_ext hV.2.1 (by rw [hy]; exact hag), hV.2.2⟩
          have hln1 := ext_len S n m b0 0 (A ++ [ta k - b0]) Bl 6000
          rw [hlen, hy, show n - (x + 1) = n - x - 1 by omega] at hln1
          refine l_D_e110_1 (F := F + (ext S n m b0 0 (A ++ [ta k - b0]) Bl 6000).length) hS hP hV3 hx hy hf hk ek (fun hlt => by have := pb_AB (p := n - x) (q := m - y) (by omega) (by omega); omega) (fun kp' fi' se' h9 => ?_)
          have := hq kp' fi' se' (exR_app hR1 h9)
          rw [List.length_append, ← Nat.add_assoc] at this
          exact this
        · have eA : exA S n m b0 0 A Bl bar = [] := by unfold exA; rw [ek, if_neg (fun z => ok z.2.2)]
          refine aw_dV (cs' := 0) (sl' := 0) (pc' := 83) (st' := [vi 0]) (idx := 72) (as := [vi (ta k - b0), vr 7 3, vi (y : Int)]) (st := []) (m_D_take_se_0 (y := y) s1.1 s1.2.1 hp (by omega) (by omega) (fun i hi => by have := htl i hi; omega) (fun i hi => by have := htl i hi; omega) (by rw [← hy]; exact fun z => ok ((tkA hS hP hV).mp z))) (by decide +kernel) (show vOK "ChanceBench$Dice" 72 M_D_takeThrows 3 = true by decide +kernel) rfl rfl rfl (Nat.le_of_ble_eq_true rfl) (by decide) (by decide) (by decide) rfl rfl rfl rfl ?_
          refine aw_if_eq (o := 27) (tgt := 110) (by decide +kernel) (by decide) (by omega) (fun _ => ?_) (fun c => absurd (by omega) c)
          have hV3 : dV S ta len A Bl (va_up fi x (ta k - b0)) se tl := ⟨pre_ext hV.1 (fun i hi => by simp only [va_up]; rw [if_neg (by omega)]), hV.2.1, hV.2.2⟩
          refine l_D_e110_1 hS hP hV3 hx hy hf hk ek (fun hlt => by have := pb_B (p := n - x) (q := m - y) (by omega); omega) (fun kp' fi' se' h9 => ?_)
          rw [eA, List.nil_append] at hq
          exact hq kp' fi' se' ⟨fun i hi => by rw [h9.1 i hi]; simp only [va_up]; rw [if_neg (by omega)], h9.2⟩
theorem m_D_ext_1 (hS : dS S ta len n m b0) (hP : dP S n m b0 A Bl) (hV : dV S ta len A Bl fi se tl) (hx : A.length = x) (hy : Bl.length = y) (hf : (n - x) + (m - y) ≤ 1) (hb : bR ta len bi bar) (hF : F + pb (n - x) (m - y) ≤ 252) : AMet G (M_D_extend 1) [vr 7 0, vi (x : Int), vi (y : Int), vi bi] (Hp b s t mk df jo tr (sgD (len : Int) (F : Int) (n : Int) (m : Int) kp fi se ta tl) mo dy) (fun r h => r = none ∧ ∃ kp' fi' se', exR x y F kp fi se (ext S n m b0 1 A Bl bar) kp' fi' se' ∧ h = Hp b s t mk df jo tr (sgD (len : Int) ((F + (ext S n m b0 1 A Bl bar).length : Nat) : Int) (n : Int) (m : Int) kp' fi' se' ta tl) mo dy) (fun _ => False) := by
  refine am_rel (by decide +kernel) (Nat.le_of_ble_eq_true rfl) (fun Qr Qt hq => ?_)
  have hpb := pb_pos (n - x) (m - y)
  have s2 := hS.2.2.2
  have p3 := hP.2.2.1
  have p4 := hP.2.2.2.1
  refine aw_blk (pc' := 5) (ls' := [some (vr 7 0), some (vi (x : Int)), some (vi (y : Int)), some (vi bi), none]) (st' := [vi (n : Int), vi (x : Int)]) [.inl (.iload_n 1), .inl (.aload_n 0), .inr (34, 7, 7)] 0 _ _ (by decide +kernel) rfl ?_
  refine aw_icmp_lt (o := 16) (tgt := 21) (by decide +kernel) (by decide) (by omega) (by omega) (fun c5 => ?_) (fun c5 => ?_)
  · exact l_D_e21_1 hS hP hV hx hy hb (by omega) hf hF (fun kp' fi' se' h9 => hq _ _ ⟨rfl, kp', fi', se', h9, rfl⟩)
  · refine aw_blk (pc' := 13) (ls' := [some (vr 7 0), some (vi (x : Int)), some (vi (y : Int)), some (vi bi), none]) (st' := [vi (m : Int), vi (y : Int)]) [.inl (.iload_n 2), .inl (.aload_n 0), .inr (37, 7, 8)] 8 _ _ (by decide +kernel) rfl ?_
    refine aw_icmp_lt (o := 8) (tgt := 21) (by decide +kernel) (by decide) (by omega) (by omega) (fun c13 => ?_) (fun c13 => ?_)
    · exact l_D_e21_1 hS hP hV hx hy hb (by omega) hf hF (fun kp' fi' se' h9 => hq _ _ ⟨rfl, kp', fi', se', h9, rfl⟩)
    · refine aw_blk (pc' := 17) (ls' := [some (vr 7 0), some (vi (x : Int)), some (vi (y : Int)), some (vi bi), none]) (st' := [vr 7 0]) [.inl (.aload_n 0)] 16 _ _ (by decide +kernel) rfl ?_
      refine aw_dV (cs' := 0) (sl' := 0) (pc' := 20) (st' := []) (idx := 65) (as := []) (st := []) (m_D_keep (by omega)) (by decide +kernel) (show vOK "ChanceBench$Dice" 65 M_D_keep 0 = true by decide +kernel) rfl rfl rfl (Nat.le_of_ble_eq_true rfl) (by decide) (by decide) (by decide) rfl rfl rfl rfl ?_
      have eX : ext S n m b0 1 A Bl bar = [(A, Bl)] := by rw [ext, if_pos (by omega)]
      rw [eX] at hq
      exact aw_vret (by decide +kernel) rfl (by decide) (by decide) (hq _ _ ⟨rfl, kpR kp fi se F 6, fi, se, ⟨fun _ _ => rfl, fun _ _ => rfl, fun k hk => by unfold kpR; rw [if_neg (by omega), if_neg (by omega)], kp_row hV.1 hV.2.1⟩, rfl⟩)

theorem l_D_e110_2 {Qr : Option AV → HT → Prop} {Qt : HT → Prop} (hS : dS S ta len n m b0) (hP : dP S n m b0 A Bl) (hV : dV S ta len A Bl fi se tl) (hx : A.length = x) (hy : Bl.length = y) (hf : (n - x) + (m - y) ≤ 2) (hk : k < len) (ek : lsU (rem_ S A Bl) = ta k) (hF2 : y < m → F + pb (n - x) (m - y - 1) ≤ 252) (hq : ∀ kp' fi' se', exR x y F kp fi se (exB S n m b0 1 A Bl) kp' fi' se' → Qr none (Hp b s t mk df jo tr (sgD (len : Int) ((F + (exB S n m b0 1 A Bl).length : Nat) : Int) (n : Int) (m : Int) kp' fi' se' ta tl) mo dy)) : AW G (M_D_extend 2) Qr Qt 0 0 110 [some (vr 7 0), some (vi (x : Int)), some (vi (y : Int)), some (vi bi), some (vi (k : Int))] [] (Hp b s t mk df jo tr (sgD (len : Int) (F : Int) (n : Int) (m : Int) kp fi se ta tl) mo dy) := by
  have s1 := hS.1
  have s2 := hS.2.2.2
  have p3 := hP.2.2.1
  have p4 := hP.2.2.2.1
  have p5 := hP.2.2.2.2.1
  have p6 := hP.2.2.2.2.2.1
  have l1 := pre_len hP.1
  have l2 := pre_len hP.2.1
  have e0 : fi 0 = 0 := hV.1 0 0 hP.1
  have hrk := hS.1.2.2 k hk
  have htl := tl_in hS hP hV
  refine aw_blk (pc' := 115) (ls' := [some (vr 7 0), some (vi (x : Int)), some (vi (y : Int)), some (vi bi), some (vi (k : Int))]) (st' := [vi (m : Int), vi (y : Int)]) [.inl (.iload_n 2), .inl (.aload_n 0), .inr (37, 7, 8)] 110 _ _ (by decide +kernel) rfl ?_
  refine aw_icmp_ge (o := 66) (tgt := 181) (by decide +kernel) (by decide) (by omega) (by omega) (fun c115 => ?_) (fun c115 => ?_)
  · have eB : exB S n m b0 1 A Bl = [] := by unfold exB; rw [if_neg (by omega)]
    rw [eB] at hq
    exact aw_vret (by decide +kernel) rfl (by decide) (by decide) (hq kp fi se exR_nil)
  · refine aw_blk (pc' := 129) (ls' := [some (vr 7 0), some (vi (x : Int)), some (vi (y : Int)), some (vi bi), some (vi (k : Int))]) (st' := [vi (k : Int), vr 7 4, vi (y : Int), vr 7 3]) [.inl (.aload_n 0), .inr (18, 7, 2), .inl (.iload_n 2), .inl (.aload_n 0), .inr (21, 7, 3), .inl (.iload 4)] 118 _ _ (by decide +kernel) rfl ?_
    refine aw_iald (j := k) (by decide +kernel) rfl (by omega) (by omega) (fun r129 => ?_)
    refine aw_blk (pc' := 135) (ls' := [some (vr 7 0), some (vi (x : Int)), some (vi (y : Int)), some (vi bi), some (vi (k : Int))]) (st' := [vi 0, vr 7 2, vi (ta k), vi (y : Int), vr 7 3]) [.inl (.aload_n 0), .inr (15, 7, 1), .inl (.iconst 0)] 130 _ _ (by decide +kernel) rfl ?_
    refine aw_iald (j := 0) (by decide +kernel) rfl (by omega) (by omega) (fun r135 => ?_)
    refine aw_blk (pc' := 137) (ls' := [some (vr 7 0), some (vi (x : Int)), some (vi (y : Int)), some (vi bi), some (vi (k : Int))]) (st' := [vi ((ta k) - (fi 0)), vi (y : Int), vr 7 3]) [.inl (.isub)] 136 _ _ (by decide +kernel) rfl ?_
    rw [show ta k - fi 0 = ta k by omega]
    refine aw_iast (j := y) (h' := Hp b s t mk df jo tr [some (ob 7 [vr 7 1, vr 7 2, vr 7 3, vr 7 4, vr 7 5, vi (len : Int), vi (F : Int), vi (n : Int), vi (m : Int)]), some (ar 0 3024 kp), some (ar 0 6 fi), some (ar 0 6 (va_up se y (ta k))), some (ar 0 24 ta), some (ar 0 24 tl)] mo dy) (by decide +kernel) rfl rfl (by omega) (by omega) rfl ?_
    refine aw_blk (pc' := 144) (ls' := [some (vr 7 0), some (vi (x : Int)), some (vi (y : Int)), some (vi bi), some (vi (k : Int))]) (st' := [vi (y : Int), vr 7 3, vr 7 0]) [.inl (.aload_n 0), .inl (.aload_n 0), .inr (18, 7, 2), .inl (.iload_n 2)] 138 _ _ (by decide +kernel) rfl ?_
    refine aw_iald (j := y) (by decide +kernel) rfl (by omega) (by omega) (fun r144 => ?_)
    refine aw_blk (pc' := 150) (ls' := [some (vr 7 0), some (vi (x : Int)), some (vi (y : Int)), some (vi bi), some (vi (k : Int))]) (st' := [vi (x : Int), vr 7 2, vi ((va_up se y (ta k)) y), vr 7 0]) [.inl (.aload_n 0), .inr (15, 7, 1), .inl (.iload_n 1)] 145 _ _ (by decide +kernel) rfl ?_
    rw [va_eq]
    by_cases ok : okB S A Bl (ta k) = true
    · have eB : exB S n m b0 1 A Bl = ext S n m b0 1 A (Bl ++ [ta k]) (ta k) := by unfold exB; rw [ek, if_pos ⟨by omega, ok⟩]
      rw [eB] at hq
      have hlen : (Bl ++ [ta k]).length = y + 1 := by rw [List.length_append, hy]; rfl
      have hp := pre_fB hV.1 p5
      rw [hx] at hp
      refine aw_dV (cs' := 0) (sl' := 0) (pc' := 153) (st' := [vi 1]) (idx := 72) (as := [vi (ta k), vr 7 2, vi (x : Int)]) (st := []) (m_D_take_fi_1 (y := x) s1.1 s1.2.1 hp (by omega) (by omega) (fun i hi => by have := htl i hi; omega) (by rw [← hx]; exact (tkB hS hP hV).mpr ok)) (by decide +kernel) (show vOK "ChanceBench$Dice" 72 M_D_takeThrows 3 = true by decide +kernel) rfl rfl rfl (Nat.le_of_ble_eq_true rfl) (by decide) (by decide) (by decide) rfl rfl rfl rfl ?_
      refine aw_if_eq (o := 28) (tgt := 181) (by decide +kernel) (by decide) (by omega) (fun c => absurd c (by omega)) (fun _ => ?_)
      refine aw_blk (pc' := 163) (ls' := [some (vr 7 0), some (vi (x : Int)), some (vi (y : Int)), some (vi bi), some (vi (k : Int))]) (st' := [vi (k : Int), vi ((y : Int) + 1), vi (x : Int), vr 7 0]) [.inl (.aload_n 0), .inl (.iload_n 1), .inl (.iload_n 2), .inl (.iconst 1), .inl (.iadd), .inl (.iload 4)] 156 _ _ (by decide +kernel) rfl ?_
      have hV2 := dV_B (v := ta k) hV
      rw [hx, hy] at hV2
      refine aw_rV (cs' := 0) (sl' := 0) (pc' := 166) (idx := 61) (as := [vi (x : Int), vi ((y : Int) + 1), vi (k : Int)]) (st := []) (m_D_ext_1 (x := x) (y := y + 1) (F := F) (bar := ta k) hS (dP_B hP (by omega) (by omega) ok) hV2 hx hlen (by omega) (Or.inr ⟨k, hk, rfl, rfl⟩) (by have := hF2 (by omega); rw [show m - (y + 1) = m - y - 1 by omega]; exact this)) (by decide +kernel) (show vOK "ChanceBench$Dice" 61 (M_D_extend 1) 3 = true by decide +kernel) rfl rfl rfl (Nat.le_of_ble_eq_true rfl) (by decide) (by decide) (by decide) rfl rfl rfl (fun r163 h163 z163 => ?_)
      obtain ⟨rfl, kp2, fi2, se2, hR, rfl⟩ := z163
      have e2 : se2 y = ta k := by rw [hR.2.1 y (by omega), va_eq]
      have hag : ∀ j, j < x → fi2 j = fi j := hR.1
      refine aw_blk (pc' := 172) (ls' := [some (vr 7 0), some (vi (x : Int)), some (vi (y : Int)), some (vi bi), some (vi (k : Int))]) (st' := [vi (y : Int), vr 7 3, vr 7 0]) [.inl (.aload_n 0), .inl (.aload_n 0), .inr (18, 7, 2), .inl (.iload_n 2)] 166 _ _ (by decide +kernel) rfl ?_
      refine aw_iald (j := y) (by decide +kernel) rfl (by omega) (by omega) (fun r172 => ?_)
      refine aw_blk (pc' := 178) (ls' := [some (vr 7 0), some (vi (x : Int)), some (vi (y : Int)), some (vi bi), some (vi (k : Int))]) (st' := [vi (x : Int), vr 7 2, vi (se2 y), vr 7 0]) [.inl (.aload_n 0), .inr (15, 7, 1), .inl (.iload_n 1)] 173 _ _ (by decide +kernel) rfl ?_
      rw [e2]
      refine aw_dV (cs' := 0) (sl' := 0) (pc' := 181) (st' := []) (idx := 76) (as := [vi (ta k), vr 7 2, vi (x : Int)]) (st := []) (m_D_giveBack_fi (y := x) s1.1 s1.2.1 (fun j hj => by rw [hag j hj]; exact hp j hj) (by omega) (by omega) (dcr_in htl (by omega))) (by decide +kernel) (show vOK "ChanceBench$Dice" 76 M_D_giveBackThrows 3 = true by decide +kernel) rfl rfl rfl (Nat.le_of_ble_eq_true rfl) (by decide) (by decide) (by decide) rfl rfl rfl rfl ?_
      rw [icr_back hag]
      exact aw_vret (by decide +kernel) rfl (by decide) (by decide) (hq kp2 fi2 se2 (exR_up hR))
    · have eB : exB S n m b0 1 A Bl = [] := by unfold exB; rw [ek, if_neg (fun z => ok z.2)]
      rw [eB] at hq
      have hp := pre_fB hV.1 p5
      rw [hx] at hp
      refine aw_dV (cs' := 0) (sl' := 0) (pc' := 153) (st' := [vi 0]) (idx := 72) (as := [vi (ta k), vr 7 2, vi (x : Int)]) (st := []) (m_D_take_fi_0 (y := x) s1.1 s1.2.1 hp (by omega) (by omega) (fun i hi => by have := htl i hi; omega) (fun i hi => by have := htl i hi; omega) (by rw [← hx]; exact fun z => ok ((tkB hS hP hV).mp z))) (by decide +kernel) (show vOK "ChanceBench$Dice" 72 M_D_takeThrows 3 = true by decide +kernel) rfl rfl rfl (Nat.le_of_ble_eq_true rfl) (by decide) (by decide) (by decide) rfl rfl rfl rfl ?_
      refine aw_if_eq (o := 28) (tgt := 181) (by decide +kernel) (by decide) (by omega) (fun _ => ?_) (fun c => absurd (by omega) c)
      exact aw_vret (by decide +kernel) rfl (by decide) (by decide) (hq kp fi (va_up se y (ta k)) (exR_up ⟨fun _ _ => rfl, fun _ _ => rfl, fun _ _ => rfl, rows_nil⟩))
theorem l_D_e21_2 {Qr : Option AV → HT → Prop} {Qt : HT → Prop} (hS : dS S ta len n m b0) (hP : dP S n m b0 A Bl) (hV : dV S ta len A Bl fi se tl) (hx : A.length = x) (hy : Bl.length = y) (hb : bR ta len bi bar) (hnd : ¬ (n ≤ x ∧ m ≤ y)) (hf : (n - x) + (m - y) ≤ 2) (hF : F + pb (n - x) (m - y) ≤ 252) (hq : ∀ kp' fi' se', exR x y F kp fi se (ext S n m b0 2 A Bl bar) kp' fi' se' → Qr none (Hp b s t mk df jo tr (sgD (len : Int) ((F + (ext S n m b0 2 A Bl bar).length : Nat) : Int) (n : Int) (m : Int) kp' fi' se' ta tl) mo dy)) : AW G (M_D_extend 2) Qr Qt 0 0 21 [some (vr 7 0), some (vi (x : Int)), some (vi (y : Int)), some (vi bi), none] [] (Hp b s t mk df jo tr (sgD (len : Int) (F : Int) (n : Int) (m : Int) kp fi se ta tl) mo dy) := by
  have s1 := hS.1
  have s2 := hS.2.2.2
  have p3 := hP.2.2.1
  have p4 := hP.2.2.2.1
  have p5 := hP.2.2.2.2.1
  have p6 := hP.2.2.2.2.2.1
  have l1 := pre_len hP.1
  have l2 := pre_len hP.2.1
  have e0 : se 0 = b0 := hV.2.1 0 b0 hP.2.1
  have htl := tl_in hS hP hV
  have hbi : I32 bi := by rcases hb with ⟨z, _⟩ | ⟨i, z, q, _⟩ <;> omega
  refine aw_blk (pc' := 22) (ls' := [some (vr 7 0), some (vi (x : Int)), some (vi (y : Int)), some (vi bi), none]) (st' := [vr 7 0]) [.inl (.aload_n 0)] 21 _ _ (by decide +kernel) rfl ?_
  refine aw_dV (cs' := 0) (sl' := 0) (pc' := 25) (st' := [vi (lsI tl len 0)]) (idx := 68) (as := []) (st := []) (m_D_leastThrowLeft s1.1) (by decide +kernel) (show vOK "ChanceBench$Dice" 68 M_D_leastThrowLeft 0 = true by decide +kernel) rfl rfl rfl (Nat.le_of_ble_eq_true rfl) (by decide) (by decide) (by decide) rfl rfl rfl rfl ?_
  rcases ls_rel s1.2.1 s1.2.2 hV.2.2 (hta_R hS) with ⟨q1, q2⟩ | ⟨k, hk, q1, ek⟩
  · rw [q1]
    refine aw_blk (pc' := 30) (ls' := [some (vr 7 0), some (vi (x : Int)), some (vi (y : Int)), some (vi bi), some (vi (-1))]) (st' := [vi (-1), vi (-1)]) [.inl (.istore 4), .inl (.iload 4), .inl (.iconst (-1))] 25 _ _ (by decide +kernel) rfl ?_
    refine aw_icmp_ne (o := 4) (tgt := 34) (by decide +kernel) (by decide) (by omega) (by omega) (fun c => absurd (by omega) c) (fun _ => ?_)
    have eX : ext S n m b0 2 A Bl bar = [] := by rw [ext, if_neg (by omega), if_pos q2]
    rw [eX] at hq
    exact aw_vret (by decide +kernel) rfl (by decide) (by decide) (hq kp fi se exR_nil)
  · have hrk := hS.1.2.2 k hk
    rw [q1]
    have eX : ext S n m b0 2 A Bl bar = exA S n m b0 1 A Bl bar ++ exB S n m b0 1 A Bl := ext_s S n m b0 1 A Bl bar (by omega) (by omega)
    rw [eX] at hq
    refine aw_blk (pc' := 30) (ls' := [some (vr 7 0), some (vi (x : Int)), some (vi (y : Int)), some (vi bi), some (vi (k : Int))]) (st' := [vi (-1), vi (k : Int)]) [.inl (.istore 4), .inl (.iload 4), .inl (.iconst (-1))] 25 _ _ (by decide +kernel) rfl ?_
    refine aw_icmp_ne (o := 4) (tgt := 34) (by decide +kernel) (by decide) (by omega) (by omega) (fun _ => ?_) (fun c => absurd c (by omega))
    refine aw_blk (pc' := 39) (ls' := [some (vr 7 0), some (vi (x : Int)), some (vi (y : Int)), some (vi bi), some (vi (k : Int))]) (st' := [vi (n : Int), vi (x : Int)]) [.inl (.iload_n 1), .inl (.aload_n 0), .inr (34, 7, 7)] 34 _ _ (by decide +kernel) rfl ?_
    refine aw_icmp_ge (o := 71) (tgt := 110) (by decide +kernel) (by decide) (by omega) (by omega) (fun c39 => ?_) (fun c39 => ?_)
    · have eA : exA S n m b0 1 A Bl bar = [] := by unfold exA; rw [if_neg (by omega)]
      exact l_D_e110_2 hS hP hV hx hy hf hk ek (fun hlt => by have := pb_B (p := n - x) (q := m - y) (by omega); omega) (fun kp' fi' se' h9 => by rw [eA, List.nil_append] at hq; exact hq kp' fi' se' h9)
    · refine aw_blk (pc' := 45) (ls' := [some (vr 7 0), some (vi (x : Int)), some (vi (y : Int)), some (vi bi), some (vi (k : Int))]) (st' := [vi bi, vi (k : Int)]) [.inl (.iload 4), .inl (.iload_n 3)] 42 _ _ (by decide +kernel) rfl ?_
      refine aw_icmp_eq (o := 65) (tgt := 110) (by decide +kernel) (by decide) (by omega) (by omega) (fun c45 => ?_) (fun c45 => ?_)
      · have eA : exA S n m b0 1 A Bl bar = [] := by unfold exA; rw [ek, if_neg (fun z => z.2.1 (by rcases hb with ⟨z1, _⟩ | ⟨i, z1, z2, z3⟩; omega; rw [z3, show i = k by omega]))]
        exact l_D_e110_2 hS hP hV hx hy hf hk ek (fun hlt => by have := pb_B (p := n - x) (q := m - y) (by omega); omega) (fun kp' fi' se' h9 => by rw [eA, List.nil_append] at hq; exact hq kp' fi' se' h9)
      · have hne : ta k ≠ bar := fun e => by
          rcases hb with ⟨_, z2⟩ | ⟨i, z1, z2, z3⟩
          · omega
          · rw [z3] at e
            rcases Nat.lt_trichotomy k i with q | q | q
            · have := s1.2.1 k i q z1; omega
            · omega
            · have := s1.2.1 i k q hk; omega
        refine aw_blk (pc' := 59) (ls' := [some (vr 7 0), some (vi (x : Int)), some (vi (y : Int)), some (vi bi), some (vi (k : Int))]) (st' := [vi (k : Int), vr 7 4, vi (x : Int), vr 7 2]) [.inl (.aload_n 0), .inr (15, 7, 1), .inl (.iload_n 1), .inl (.aload_n 0), .inr (21, 7, 3), .inl (.iload 4)] 48 _ _ (by decide +kernel) rfl ?_
        refine aw_iald (j := k) (by decide +kernel) rfl (by omega) (by omega) (fun r59 => ?_)
        refine aw_blk (pc' := 65) (ls' := [some (vr 7 0), some (vi (x : Int)), some (vi (y : Int)), some (vi bi), some (vi (k : Int))]) (st' := [vi 0, vr 7 3, vi (ta k), vi (x : Int), vr 7 2]) [.inl (.aload_n 0), .inr (18, 7, 2), .inl (.iconst 0)] 60 _ _ (by decide +kernel) rfl ?_
        refine aw_iald (j := 0) (by decide +kernel) rfl (by omega) (by omega) (fun r65 => ?_)
        refine aw_blk (pc' := 67) (ls' := [some (vr 7 0), some (vi (x : Int)), some (vi (y : Int)), some (vi bi), some (vi (k : Int))]) (st' := [vi ((ta k) - (se 0)), vi (x : Int), vr 7 2]) [.inl (.isub)] 66 _ _ (by decide +kernel) rfl ?_
        rw [e0]
        refine aw_iast (j := x) (h' := Hp b s t mk df jo tr [some (ob 7 [vr 7 1, vr 7 2, vr 7 3, vr 7 4, vr 7 5, vi (len : Int), vi (F : Int), vi (n : Int), vi (m : Int)]), some (ar 0 3024 kp), some (ar 0 6 (va_up fi x (ta k - b0))), some (ar 0 6 se), some (ar 0 24 ta), some (ar 0 24 tl)] mo dy) (by decide +kernel) rfl rfl (by omega) (by omega) rfl ?_
        refine aw_blk (pc' := 74) (ls' := [some (vr 7 0), some (vi (x : Int)), some (vi (y : Int)), some (vi bi), some (vi (k : Int))]) (st' := [vi (x : Int), vr 7 2, vr 7 0]) [.inl (.aload_n 0), .inl (.aload_n 0), .inr (15, 7, 1), .inl (.iload_n 1)] 68 _ _ (by decide +kernel) rfl ?_
        refine aw_iald (j := x) (by decide +kernel) rfl (by omega) (by omega) (fun r74 => ?_)
        refine aw_blk (pc' := 80) (ls' := [some (vr 7 0), some (vi (x : Int)), some (vi (y : Int)), some (vi bi), some (vi (k : Int))]) (st' := [vi (y : Int), vr 7 3, vi ((va_up fi x (ta k - b0)) x), vr 7 0]) [.inl (.aload_n 0), .inr (18, 7, 2), .inl (.iload_n 2)] 75 _ _ (by decide +kernel) rfl ?_
        rw [va_eq]
        have hp := pre_fB hV.2.1 p6
        rw [hy] at hp
        by_cases ok : okA S A Bl (ta k - b0) = true
        · have eA : exA S n m b0 1 A Bl bar = ext S n m b0 1 (A ++ [ta k - b0]) Bl 6000 := by unfold exA; rw [ek, if_pos ⟨by omega, hne, ok⟩]
          rw [eA] at hq
          have hlen : (A ++ [ta k - b0]).length = x + 1 := by rw [List.length_append, hx]; rfl
          refine aw_dV (cs' := 0) (sl' := 0) (pc' := 83) (st' := [vi 1]) (idx := 72) (as := [vi (ta k - b0), vr 7 3, vi (y : Int)]) (st := []) (m_D_take_se_1 (y := y) s1.1 s1.2.1 hp (by omega) (by omega) (fun i hi => by have := htl i hi; omega) (by rw [← hy]; exact (tkA hS hP hV).mpr ok)) (by decide +kernel) (show vOK "ChanceBench$Dice" 72 M_D_takeThrows 3 = true by decide +kernel) rfl rfl rfl (Nat.le_of_ble_eq_true rfl) (by decide) (by decide) (by decide) rfl rfl rfl rfl ?_
          refine aw_if_eq (o := 27) (tgt := 110) (by decide +kernel) (by decide) (by omega) (fun c => absurd c (by omega)) (fun _ => ?_)
          refine aw_blk (pc' := 92) (ls' := [some (vr 7 0), some (vi (x : Int)), some (vi (y : Int)), some (vi bi), some (vi (k : Int))]) (st' := [vi (-1), vi (y : Int), vi ((x : Int) + 1), vr 7 0]) [.inl (.aload_n 0), .inl (.iload_n 1), .inl (.iconst 1), .inl (.iadd), .inl (.iload_n 2), .inl (.iconst (-1))] 86 _ _ (by decide +kernel) rfl ?_
          have hV2 := dV_A (v := ta k - b0) hV
          rw [hx, hy] at hV2
          refine aw_rV (cs' := 0) (sl' := 0) (pc' := 95) (idx := 61) (as := [vi ((x : Int) + 1), vi (y : Int), vi (-1)]) (st := []) (m_D_ext_1 (x := x + 1) (y := y) (F := F) (bar := 6000) hS (dP_A hP (by omega) (by omega) ok) hV2 hlen hy (by omega) (Or.inl ⟨rfl, rfl⟩) (by have := pb_A (p := n - x) (q := m - y) (by omega); rw [show n - (x + 1) = n - x - 1 by omega]; omega)) (by decide +kernel) (show vOK "ChanceBench$Dice" 61 (M_D_extend 1) 3 = true by decide +kernel) rfl rfl rfl (Nat.le_of_ble_eq_true rfl) (by decide) (by decide) (by decide) rfl rfl rfl (fun r92 h92 z92 => ?_)
          obtain ⟨rfl, kp2, fi2, se2, hR, rfl⟩ := z92
          have e2 : fi2 x = ta k - b0 := by rw [hR.1 x (by omega), va_eq]
          have hag : ∀ j, j < y → se2 j = se j := hR.2.1
          refine aw_blk (pc' := 101) (ls' := [some (vr 7 0), some (vi (x : Int)), some (vi (y : Int)), some (vi bi), some (vi (k : Int))]) (st' := [vi (x : Int), vr 7 2, vr 7 0]) [.inl (.aload_n 0), .inl (.aload_n 0), .inr (15, 7, 1), .inl (.iload_n 1)] 95 _ _ (by decide +kernel) rfl ?_
          refine aw_iald (j := x) (by decide +kernel) rfl (by omega) (by omega) (fun r101 => ?_)
          refine aw_blk (pc' := 107) (ls' := [some (vr 7 0), some (vi (x : Int)), some (vi (y : Int)), some (vi bi), some (vi (k : Int))]) (st' := [vi (y : Int), vr 7 3, vi (fi2 x), vr 7 0]) [.inl (.aload_n 0), .inr (18, 7, 2), .inl (.iload_n 2)] 102 _ _ (by decide +kernel) rfl ?_
          rw [e2]
          refine aw_dV (cs' := 0) (sl' := 0) (pc' := 110) (st' := []) (idx := 76) (as := [vi (ta k - b0), vr 7 3, vi (y : Int)]) (st := []) (m_D_giveBack_se (y := y) s1.1 s1.2.1 (fun j hj => by rw [hag j hj]; exact hp j hj) (by omega) (by omega) (dcr_in htl (by omega))) (by decide +kernel) (show vOK "ChanceBench$Dice" 76 M_D_giveBackThrows 3 = true by decide +kernel) rfl rfl rfl (Nat.le_of_ble_eq_true rfl) (by decide) (by decide) (by decide) rfl rfl rfl rfl ?_
          rw [icr_back hag]
          have hR1 := exR_upA hR
          have hV3 : dV S ta len A Bl fi2 se2 tl := ⟨pre_ext hV.1 (by rw [hx]; exact hR1.1), pre_ext hV.2.1 (by rw [hy]; exact hag), hV.2.2⟩
          have hln1 := ext_len S n m b0 1 (A ++ [ta k - b0]) Bl 6000
          rw [hlen, hy, show n - (x + 1) = n - x - 1 by omega] at hln1
          refine l_D_e110_2 (F := F + (ext S n m b0 1 (A ++ [ta k - b0]) Bl 6000).length) hS hP hV3 hx hy hf hk ek (fun hlt => by have := pb_AB (p := n - x) (q := m - y) (by omega) (by omega); omega) (fun kp' fi' se' h9 => ?_)
          have := hq kp' fi' se' (exR_app hR1 h9)
          rw [List.length_append, ← Nat.add_assoc] at this
          exact this
        · have eA : exA S n m b0 1 A Bl bar = [] := by unfold exA; rw [ek, if_neg (fun z => ok z.2.2)]
          refine aw_dV (cs' := 0) (sl' := 0) (pc' := 83) (st' := [vi 0]) (idx := 72) (as := [vi (ta k - b0), vr 7 3, vi (y : Int)]) (st := []) (m_D_take_se_0 (y := y) s1.1 s1.2.1 hp (by omega) (by omega) (fun i hi => by have := htl i hi; omega) (fun i hi => by have := htl i hi; omega) (by rw [← hy]; exact fun z => ok ((tkA hS hP hV).mp z))) (by decide +kernel) (show vOK "ChanceBench$Dice" 72 M_D_takeThrows 3 = true by decide +kernel) rfl rfl rfl (Nat.le_of_ble_eq_true rfl) (by decide) (by decide) (by decide) rfl rfl rfl rfl ?_
          refine aw_if_eq (o := 27) (tgt := 110) (by decide +kernel) (by decide) (by omega) (fun _ => ?_) (fun c => absurd (by omega) c)
          have hV3 : dV S ta len A Bl (va_up fi x (ta k - b0)) se tl := ⟨pre_ext hV.1 (fun i hi => by simp only [va_up]; rw [if_neg (by omega)]), hV.2.1, hV.2.2⟩
          refine l_D_e110_2 hS hP hV3 hx hy hf hk ek (fun hlt => by have := pb_B (p := n - x) (q := m - y) (by omega); omega) (fun kp' fi' se' h9 => ?_)
          rw [eA, List.nil_append] at hq
          exact hq kp' fi' se' ⟨fun i hi => by rw [h9.1 i hi]; simp only [va_up]; rw [if_neg (by omega)], h9.2⟩
theorem m_D_ext_2 (hS : dS S ta len n m b0) (hP : dP S n m b0 A Bl) (hV : dV S ta len A Bl fi se tl) (hx : A.length = x) (hy : Bl.length = y) (hf : (n - x) + (m - y) ≤ 2) (hb : bR ta len bi bar) (hF : F + pb (n - x) (m - y) ≤ 252) : AMet G (M_D_extend 2) [vr 7 0, vi (x : Int), vi (y : Int), vi bi] (Hp b s t mk df jo tr (sgD (len : Int) (F : Int) (n : Int) (m : Int) kp fi se ta tl) mo dy) (fun r h => r = none ∧ ∃ kp' fi' se', exR x y F kp fi se (ext S n m b0 2 A Bl bar) kp' fi' se' ∧ h = Hp b s t mk df jo tr (sgD (len : Int) ((F + (ext S n m b0 2 A Bl bar).length : Nat) : Int) (n : Int) (m : Int) kp' fi' se' ta tl) mo dy) (fun _ => False) := by
  refine am_rel (by decide +kernel) (Nat.le_of_ble_eq_true rfl) (fun Qr Qt hq => ?_)
  have hpb := pb_pos (n - x) (m - y)
  have s2 := hS.2.2.2
  have p3 := hP.2.2.1
  have p4 := hP.2.2.2.1
  refine aw_blk (pc' := 5) (ls' := [some (vr 7 0), some (vi (x : Int)), some (vi (y : Int)), some (vi bi), none]) (st' := [vi (n : Int), vi (x : Int)]) [.inl (.iload_n 1), .inl (.aload_n 0), .inr (34, 7, 7)] 0 _ _ (by decide +kernel) rfl ?_
  refine aw_icmp_lt (o := 16) (tgt := 21) (by decide +kernel) (by decide) (by omega) (by omega) (fun c5 => ?_) (fun c5 => ?_)
  · exact l_D_e21_2 hS hP hV hx hy hb (by omega) hf hF (fun kp' fi' se' h9 => hq _ _ ⟨rfl, kp', fi', se', h9, rfl⟩)
  · refine aw_blk (pc' := 13) (ls' := [some (vr 7 0), some (vi (x : Int)), some (vi (y : Int)), some (vi bi), none]) (st' := [vi (m : Int), vi (y : Int)]) [.inl (.iload_n 2), .inl (.aload_n 0), .inr (37, 7, 8)] 8 _ _ (by decide +kernel) rfl ?_
    refine aw_icmp_lt (o := 8) (tgt := 21) (by decide +kernel) (by decide) (by omega) (by omega) (fun c13 => ?_) (fun c13 => ?_)
    · exact l_D_e21_2 hS hP hV hx hy hb (by omega) hf hF (fun kp' fi' se' h9 => hq _ _ ⟨rfl, kp', fi', se', h9, rfl⟩)
    · refine aw_blk (pc' := 17) (ls' := [some (vr 7 0), some (vi (x : Int)), some (vi (y : Int)), some (vi bi), none]) (st' := [vr 7 0]) [.inl (.aload_n 0)] 16 _ _ (by decide +kernel) rfl ?_
      refine aw_dV (cs' := 0) (sl' := 0) (pc' := 20) (st' := []) (idx := 65) (as := []) (st := []) (m_D_keep (by omega)) (by decide +kernel) (show vOK "ChanceBench$Dice" 65 M_D_keep 0 = true by decide +kernel) rfl rfl rfl (Nat.le_of_ble_eq_true rfl) (by decide) (by decide) (by decide) rfl rfl rfl rfl ?_
      have eX : ext S n m b0 2 A Bl bar = [(A, Bl)] := by rw [ext, if_pos (by omega)]
      rw [eX] at hq
      exact aw_vret (by decide +kernel) rfl (by decide) (by decide) (hq _ _ ⟨rfl, kpR kp fi se F 6, fi, se, ⟨fun _ _ => rfl, fun _ _ => rfl, fun k hk => by unfold kpR; rw [if_neg (by omega), if_neg (by omega)], kp_row hV.1 hV.2.1⟩, rfl⟩)

theorem l_D_e110_3 {Qr : Option AV → HT → Prop} {Qt : HT → Prop} (hS : dS S ta len n m b0) (hP : dP S n m b0 A Bl) (hV : dV S ta len A Bl fi se tl) (hx : A.length = x) (hy : Bl.length = y) (hf : (n - x) + (m - y) ≤ 3) (hk : k < len) (ek : lsU (rem_ S A Bl) = ta k) (hF2 : y < m → F + pb (n - x) (m - y - 1) ≤ 252) (hq : ∀ kp' fi' se', exR x y F kp fi se (exB S n m b0 2 A Bl) kp' fi' se' → Qr none (Hp b s t mk df jo tr (sgD (len : Int) ((F + (exB S n m b0 2 A Bl).length : Nat) : Int) (n : Int) (m : Int) kp' fi' se' ta tl) mo dy)) : AW G (M_D_extend 3) Qr Qt 0 0 110 [some (vr 7 0), some (vi (x : Int)), some (vi (y : Int)), some (vi bi), some (vi (k : Int))] [] (Hp b s t mk df jo tr (sgD (len : Int) (F : Int) (n : Int) (m : Int) kp fi se ta tl) mo dy) := by
  have s1 := hS.1
  have s2 := hS.2.2.2
  have p3 := hP.2.2.1
  have p4 := hP.2.2.2.1
  have p5 := hP.2.2.2.2.1
  have p6 := hP.2.2.2.2.2.1
  have l1 := pre_len hP.1
  have l2 := pre_len hP.2.1
  have e0 : fi 0 = 0 := hV.1 0 0 hP.1
  have hrk := hS.1.2.2 k hk
  have htl := tl_in hS hP hV
  refine aw_blk (pc' := 115) (ls' := [some (vr 7 0), some (vi (x : Int)), some (vi (y : Int)), some (vi bi), some (vi (k : Int))]) (st' := [vi (m : Int), vi (y : Int)]) [.inl (.iload_n 2), .inl (.aload_n 0), .inr (37, 7, 8)] 110 _ _ (by decide +kernel) rfl ?_
  refine aw_icmp_ge (o := 66) (tgt := 181) (by decide +kernel) (by decide) (by omega) (by omega) (fun c115 => ?_) (fun c115 => ?_)
  · have eB : exB S n m b0 2 A Bl = [] := by unfold exB; rw [if_neg (by omega)]
    rw [eB] at hq
    exact aw_vret (by decide +kernel) rfl (by decide) (by decide) (hq kp fi se exR_nil)
  · refine aw_blk (pc' := 129) (ls' := [some (vr 7 0), some (vi (x : Int)), some (vi (y : Int)), some (vi bi), some (vi (k : Int))]) (st' := [vi (k : Int), vr 7 4, vi (y : Int), vr 7 3]) [.inl (.aload_n 0), .inr (18, 7, 2), .inl (.iload_n 2), .inl (.aload_n 0), .inr (21, 7, 3), .inl (.iload 4)] 118 _ _ (by decide +kernel) rfl ?_
    refine aw_iald (j := k) (by decide +kernel) rfl (by omega) (by omega) (fun r129 => ?_)
    refine aw_blk (pc' := 135) (ls' := [some (vr 7 0), some (vi (x : Int)), some (vi (y : Int)), some (vi bi), some (vi (k : Int))]) (st' := [vi 0, vr 7 2, vi (ta k), vi (y : Int), vr 7 3]) [.inl (.aload_n 0), .inr (15, 7, 1), .inl (.iconst 0)] 130 _ _ (by decide +kernel) rfl ?_
    refine aw_iald (j := 0) (by decide +kernel) rfl (by omega) (by omega) (fun r135 => ?_)
    refine aw_blk (pc' := 137) (ls' := [some (vr 7 0), some (vi (x : Int)), some (vi (y : Int)), some (vi bi), some (vi (k : Int))]) (st' := [vi ((ta k) - (fi 0)), vi (y : Int), vr 7 3]) [.inl (.isub)] 136 _ _ (by decide +kernel) rfl ?_
    rw [show ta k - fi 0 = ta k by omega]
    refine aw_iast (j := y) (h' := Hp b s t mk df jo tr [some (ob 7 [vr 7 1, vr 7 2, vr 7 3, vr 7 4, vr 7 5, vi (len : Int), vi (F : Int), vi (n : Int), vi (m : Int)]), some (ar 0 3024 kp), some (ar 0 6 fi), some (ar 0 6 (va_up se y (ta k))), some (ar 0 24 ta), some (ar 0 24 tl)] mo dy) (by decide +kernel) rfl rfl (by omega) (by omega) rfl ?_
    refine aw_blk (pc' := 144) (ls' := [some (vr 7 0), some (vi (x : Int)), some (vi (y : Int)), some (vi bi), some (vi (k : Int))]) (st' := [vi (y : Int), vr 7 3, vr 7 0]) [.inl (.aload_n 0), .inl (.aload_n 0), .inr (18, 7, 2), .inl (.iload_n 2)] 138 _ _ (by decide +kernel) rfl ?_
    refine aw_iald (j := y) (by decide +kernel) rfl (by omega) (by omega) (fun r144 => ?_)
    refine aw_blk (pc' := 150) (ls' := [some (vr 7 0), some (vi (x : Int)), some (vi (y : Int)), some (vi bi), some (vi (k : Int))]) (st' := [vi (x : Int), vr 7 2, vi ((va_up se y (ta k)) y), vr 7 0]) [.inl (.aload_n 0), .inr (15, 7, 1), .inl (.iload_n 1)] 145 _ _ (by decide +kernel) rfl ?_
    rw [va_eq]
    by_cases ok : okB S A Bl (ta k) = true
    · have eB : exB S n m b0 2 A Bl = ext S n m b0 2 A (Bl ++ [ta k]) (ta k) := by unfold exB; rw [ek, if_pos ⟨by omega, ok⟩]
      rw [eB] at hq
      have hlen : (Bl ++ [ta k]).length = y + 1 := by rw [List.length_append, hy]; rfl
      have hp := pre_fB hV.1 p5
      rw [hx] at hp
      refine aw_dV (cs' := 0) (sl' := 0) (pc' := 153) (st' := [vi 1]) (idx := 72) (as := [vi (ta k), vr 7 2, vi (x : Int)]) (st := []) (m_D_take_fi_1 (y := x) s1.1 s1.2.1 hp (by omega) (by omega) (fun i hi => by have := htl i hi; omega) (by rw [← hx]; exact (tkB hS hP hV).mpr ok)) (by decide +kernel) (show vOK "ChanceBench$Dice" 72 M_D_takeThrows 3 = true by decide +kernel) rfl rfl rfl (Nat.le_of_ble_eq_true rfl) (by decide) (by decide) (by decide) rfl rfl rfl rfl ?_
      refine aw_if_eq (o := 28) (tgt := 181) (by decide +kernel) (by decide) (by omega) (fun c => absurd c (by omega)) (fun _ => ?_)
      refine aw_blk (pc' := 163) (ls' := [some (vr 7 0), some (vi (x : Int)), some (vi (y : Int)), some (vi bi), some (vi (k : Int))]) (st' := [vi (k : Int), vi ((y : Int) + 1), vi (x : Int), vr 7 0]) [.inl (.aload_n 0), .inl (.iload_n 1), .inl (.iload_n 2), .inl (.iconst 1), .inl (.iadd), .inl (.iload 4)] 156 _ _ (by decide +kernel) rfl ?_
      have hV2 := dV_B (v := ta k) hV
      rw [hx, hy] at hV2
      refine aw_rV (cs' := 0) (sl' := 0) (pc' := 166) (idx := 61) (as := [vi (x : Int), vi ((y : Int) + 1), vi (k : Int)]) (st := []) (m_D_ext_2 (x := x) (y := y + 1) (F := F) (bar := ta k) hS (dP_B hP (by omega) (by omega) ok) hV2 hx hlen (by omega) (Or.inr ⟨k, hk, rfl, rfl⟩) (by have := hF2 (by omega); rw [show m - (y + 1) = m - y - 1 by omega]; exact this)) (by decide +kernel) (show vOK "ChanceBench$Dice" 61 (M_D_extend 2) 3 = true by decide +kernel) rfl rfl rfl (Nat.le_of_ble_eq_true rfl) (by decide) (by decide) (by decide) rfl rfl rfl (fun r163 h163 z163 => ?_)
      obtain ⟨rfl, kp2, fi2, se2, hR, rfl⟩ := z163
      have e2 : se2 y = ta k := by rw [hR.2.1 y (by omega), va_eq]
      have hag : ∀ j, j < x → fi2 j = fi j := hR.1
      refine aw_blk (pc' := 172) (ls' := [some (vr 7 0), some (vi (x : Int)), some (vi (y : Int)), some (vi bi), some (vi (k : Int))]) (st' := [vi (y : Int), vr 7 3, vr 7 0]) [.inl (.aload_n 0), .inl (.aload_n 0), .inr (18, 7, 2), .inl (.iload_n 2)] 166 _ _ (by decide +kernel) rfl ?_
      refine aw_iald (j := y) (by decide +kernel) rfl (by omega) (by omega) (fun r172 => ?_)
      refine aw_blk (pc' := 178) (ls' := [some (vr 7 0), some (vi (x : Int)), some (vi (y : Int)), some (vi bi), some (vi (k : Int))]) (st' := [vi (x : Int), vr 7 2, vi (se2 y), vr 7 0]) [.inl (.aload_n 0), .inr (15, 7, 1), .inl (.iload_n 1)] 173 _ _ (by decide +kernel) rfl ?_
      rw [e2]
      refine aw_dV (cs' := 0) (sl' := 0) (pc' := 181) (st' := []) (idx := 76) (as := [vi (ta k), vr 7 2, vi (x : Int)]) (st := []) (m_D_giveBack_fi (y := x) s1.1 s1.2.1 (fun j hj => by rw [hag j hj]; exact hp j hj) (by omega) (by omega) (dcr_in htl (by omega))) (by decide +kernel) (show vOK "ChanceBench$Dice" 76 M_D_giveBackThrows 3 = true by decide +kernel) rfl rfl rfl (Nat.le_of_ble_eq_true rfl) (by decide) (by decide) (by decide) rfl rfl rfl rfl ?_
      rw [icr_back hag]
      exact aw_vret (by decide +kernel) rfl (by decide) (by decide) (hq kp2 fi2 se2 (exR_up hR))
    · have eB : exB S n m b0 2 A Bl = [] := by unfold exB; rw [ek, if_neg (fun z => ok z.2)]
      rw [eB] at hq
      have hp := pre_fB hV.1 p5
      rw [hx] at hp
      refine aw_dV (cs' := 0) (sl' := 0) (pc' := 153) (st' := [vi 0]) (idx := 72) (as := [vi (ta k), vr 7 2, vi (x : Int)]) (st := []) (m_D_take_fi_0 (y := x) s1.1 s1.2.1 hp (by omega) (by omega) (fun i hi => by have := htl i hi; omega) (fun i hi => by have := htl i hi; omega) (by rw [← hx]; exact fun z => ok ((tkB hS hP hV).mp z))) (by decide +kernel) (show vOK "ChanceBench$Dice" 72 M_D_takeThrows 3 = true by decide +kernel) rfl rfl rfl (Nat.le_of_ble_eq_true rfl) (by decide) (by decide) (by decide) rfl rfl rfl rfl ?_
      refine aw_if_eq (o := 28) (tgt := 181) (by decide +kernel) (by decide) (by omega) (fun _ => ?_) (fun c => absurd (by omega) c)
      exact aw_vret (by decide +kernel) rfl (by decide) (by decide) (hq kp fi (va_up se y (ta k)) (exR_up ⟨fun _ _ => rfl, fun _ _ => rfl, fun _ _ => rfl, rows_nil⟩))
theorem l_D_e21_3 {Qr : Option AV → HT → Prop} {Qt : HT → Prop} (hS : dS S ta len n m b0) (hP : dP S n m b0 A Bl) (hV : dV S ta len A Bl fi se tl) (hx : A.length = x) (hy : Bl.length = y) (hb : bR ta len bi bar) (hnd : ¬ (n ≤ x ∧ m ≤ y)) (hf : (n - x) + (m - y) ≤ 3) (hF : F + pb (n - x) (m - y) ≤ 252) (hq : ∀ kp' fi' se', exR x y F kp fi se (ext S n m b0 3 A Bl bar) kp' fi' se' → Qr none (Hp b s t mk df jo tr (sgD (len : Int) ((F + (ext S n m b0 3 A Bl bar).length : Nat) : Int) (n : Int) (m : Int) kp' fi' se' ta tl) mo dy)) : AW G (M_D_extend 3) Qr Qt 0 0 21 [some (vr 7 0), some (vi (x : Int)), some (vi (y : Int)), some (vi bi), none] [] (Hp b s t mk df jo tr (sgD (len : Int) (F : Int) (n : Int) (m : Int) kp fi se ta tl) mo dy) := by
  have s1 := hS.1
  have s2 := hS.2.2.2
  have p3 := hP.2.2.1
  have p4 := hP.2.2.2.1
  have p5 := hP.2.2.2.2.1
  have p6 := hP.2.2.2.2.2.1
  have l1 := pre_len hP.1
  have l2 := pre_len hP.2.1
  have e0 : se 0 = b0 := hV.2.1 0 b0 hP.2.1
  have htl := tl_in hS hP hV
  have hbi : I32 bi := by rcases hb with ⟨z, _⟩ | ⟨i, z, q, _⟩ <;> omega
  refine aw_blk (pc' := 22) (ls' := [some (vr 7 0), some (vi (x : Int)), some (vi (y : Int)), some (vi bi), none]) (st' := [vr 7 0]) [.inl (.aload_n 0)] 21 _ _ (by decide +kernel) rfl ?_
  refine aw_dV (cs' := 0) (sl' := 0) (pc' := 25) (st' := [vi (lsI tl len 0)]) (idx := 68) (as := []) (st := []) (m_D_leastThrowLeft s1.1) (by decide +kernel) (show vOK "ChanceBench$Dice" 68 M_D_leastThrowLeft 0 = true by decide +kernel) rfl rfl rfl (Nat.le_of_ble_eq_true rfl) (by decide) (by decide) (by decide) rfl rfl rfl rfl ?_
  rcases ls_rel s1.2.1 s1.2.2 hV.2.2 (hta_R hS) with ⟨q1, q2⟩ | ⟨k, hk, q1, ek⟩
  · rw [q1]
    refine aw_blk (pc' := 30) (ls' := [some (vr 7 0), some (vi (x : Int)), some (vi (y : Int)), some (vi bi), some (vi (-1))]) (st' := [vi (-1), vi (-1)]) [.inl (.istore 4), .inl (.iload 4), .inl (.iconst (-1))] 25 _ _ (by decide +kernel) rfl ?_
    refine aw_icmp_ne (o := 4) (tgt := 34) (by decide +kernel) (by decide) (by omega) (by omega) (fun c => absurd (by omega) c) (fun _ => ?_)
    have eX : ext S n m b0 3 A Bl bar = [] := by rw [ext, if_neg (by omega), if_pos q2]
    rw [eX] at hq
    exact aw_vret (by decide +kernel) rfl (by decide) (by decide) (hq kp fi se exR_nil)
  · have hrk := hS.1.2.2 k hk
    rw [q1]
    have eX : ext S n m b0 3 A Bl bar = exA S n m b0 2 A Bl bar ++ exB S n m b0 2 A Bl := ext_s S n m b0 2 A Bl bar (by omega) (by omega)
    rw [eX] at hq
    refine aw_blk (pc' := 30) (ls' := [some (vr 7 0), some (vi (x : Int)), some (vi (y : Int)), some (vi bi), some (vi (k : Int))]) (st' := [vi (-1), vi (k : Int)]) [.inl (.istore 4), .inl (.iload 4), .inl (.iconst (-1))] 25 _ _ (by decide +kernel) rfl ?_
    refine aw_icmp_ne (o := 4) (tgt := 34) (by decide +kernel) (by decide) (by omega) (by omega) (fun _ => ?_) (fun c => absurd c (by omega))
    refine aw_blk (pc' := 39) (ls' := [some (vr 7 0), some (vi (x : Int)), some (vi (y : Int)), some (vi bi), some (vi (k : Int))]) (st' := [vi (n : Int), vi (x : Int)]) [.inl (.iload_n 1), .inl (.aload_n 0), .inr (34, 7, 7)] 34 _ _ (by decide +kernel) rfl ?_
    refine aw_icmp_ge (o := 71) (tgt := 110) (by decide +kernel) (by decide) (by omega) (by omega) (fun c39 => ?_) (fun c39 => ?_)
    · have eA : exA S n m b0 2 A Bl bar = [] := by unfold exA; rw [if_neg (by omega)]
      exact l_D_e110_3 hS hP hV hx hy hf hk ek (fun hlt => by have := pb_B (p := n - x) (q := m - y) (by omega); omega) (fun kp' fi' se' h9 => by rw [eA, List.nil_append] at hq; exact hq kp' fi' se' h9)
    · refine aw_blk (pc' := 45) (ls' := [some (vr 7 0), some (vi (x : Int)), some (vi (y : Int)), some (vi bi), some (vi (k : Int))]) (st' := [vi bi, vi (k : Int)]) [.inl (.iload 4), .inl (.iload_n 3)] 42 _ _ (by decide +kernel) rfl ?_
      refine aw_icmp_eq (o := 65) (tgt := 110) (by decide +kernel) (by decide) (by omega) (by omega) (fun c45 => ?_) (fun c45 => ?_)
      · have eA : exA S n m b0 2 A Bl bar = [] := by unfold exA; rw [ek, if_neg (fun z => z.2.1 (by rcases hb with ⟨z1, _⟩ | ⟨i, z1, z2, z3⟩; omega; rw [z3, show i = k by omega]))]
        exact l_D_e110_3 hS hP hV hx hy hf hk ek (fun hlt => by have := pb_B (p := n - x) (q := m - y) (by omega); omega) (fun kp' fi' se' h9 => by rw [eA, List.nil_append] at hq; exact hq kp' fi' se' h9)
      · have hne : ta k ≠ bar := fun e => by
          rcases hb with ⟨_, z2⟩ | ⟨i, z1, z2, z3⟩
          · omega
          · rw [z3] at e
            rcases Nat.lt_trichotomy k i with q | q | q
            · have := s1.2.1 k i q z1; omega
            · omega
            · have := s1.2.1 i k q hk; omega
        refine aw_blk (pc' := 59) (ls' := [some (vr 7 0), some (vi (x : Int)), some (vi (y : Int)), some (vi bi), some (vi (k : Int))]) (st' := [vi (k : Int), vr 7 4, vi (x : Int), vr 7 2]) [.inl (.aload_n 0), .inr (15, 7, 1), .inl (.iload_n 1), .inl (.aload_n 0), .inr (21, 7, 3), .inl (.iload 4)] 48 _ _ (by decide +kernel) rfl ?_
        refine aw_iald (j := k) (by decide +kernel) rfl (by omega) (by omega) (fun r59 => ?_)
        refine aw_blk (pc' := 65) (ls' := [some (vr 7 0), some (vi (x : Int)), some (vi (y : Int)), some (vi bi), some (vi (k : Int))]) (st' := [vi 0, vr 7 3, vi (ta k), vi (x : Int), vr 7 2]) [.inl (.aload_n 0), .inr (18, 7, 2), .inl (.iconst 0)] 60 _ _ (by decide +kernel) rfl ?_
        refine aw_iald (j := 0) (by decide +kernel) rfl (by omega) (by omega) (fun r65 => ?_)
        refine aw_blk (pc' := 67) (ls' := [some (vr 7 0), some (vi (x : Int)), some (vi (y : Int)), some (vi bi), some (vi (k : Int))]) (st' := [vi ((ta k) - (se 0)), vi (x : Int), vr 7 2]) [.inl (.isub)] 66 _ _ (by decide +kernel) rfl ?_
        rw [e0]
        refine aw_iast (j := x) (h' := Hp b s t mk df jo tr [some (ob 7 [vr 7 1, vr 7 2, vr 7 3, vr 7 4, vr 7 5, vi (len : Int), vi (F : Int), vi (n : Int), vi (m : Int)]), some (ar 0 3024 kp), some (ar 0 6 (va_up fi x (ta k - b0))), some (ar 0 6 se), some (ar 0 24 ta), some (ar 0 24 tl)] mo dy) (by decide +kernel) rfl rfl (by omega) (by omega) rfl ?_
        refine aw_blk (pc' := 74) (ls' := [some (vr 7 0), some (vi (x : Int)), some (vi (y : Int)), some (vi bi), some (vi (k : Int))]) (st' := [vi (x : Int), vr 7 2, vr 7 0]) [.inl (.aload_n 0), .inl (.aload_n 0), .inr (15, 7, 1), .inl (.iload_n 1)] 68 _ _ (by decide +kernel) rfl ?_
        refine aw_iald (j := x) (by decide +kernel) rfl (by omega) (by omega) (fun r74 => ?_)
        refine aw_blk (pc' := 80) (ls' := [some (vr 7 0), some (vi (x : Int)), some (vi (y : Int)), some (vi bi), some (vi (k : Int))]) (st' := [vi (y : Int), vr 7 3, vi ((va_up fi x (ta k - b0)) x), vr 7 0]) [.inl (.aload_n 0), .inr (18, 7, 2), .inl (.iload_n 2)] 75 _ _ (by decide +kernel) rfl ?_
        rw [va_eq]
        have hp := pre_fB hV.2.1 p6
        rw [hy] at hp
        by_cases ok : okA S A Bl (ta k - b0) = true
        · have eA : exA S n m b0 2 A Bl bar = ext S n m b0 2 (A ++ [ta k - b0]) Bl 6000 := by unfold exA; rw [ek, if_pos ⟨by omega, hne, ok⟩]
          rw [eA] at hq
          have hlen : (A ++ [ta k - b0]).length = x + 1 := by rw [List.length_append, hx]; rfl
          refine aw_dV (cs' := 0) (sl' := 0) (pc' := 83) (st' := [vi 1]) (idx := 72) (as := [vi (ta k - b0), vr 7 3, vi (y : Int)]) (st := []) (m_D_take_se_1 (y := y) s1.1 s1.2.1 hp (by omega) (by omega) (fun i hi => by have := htl i hi; omega) (by rw [← hy]; exact (tkA hS hP hV).mpr ok)) (by decide +kernel) (show vOK "ChanceBench$Dice" 72 M_D_takeThrows 3 = true by decide +kernel) rfl rfl rfl (Nat.le_of_ble_eq_true rfl) (by decide) (by decide) (by decide) rfl rfl rfl rfl ?_
          refine aw_if_eq (o := 27) (tgt := 110) (by decide +kernel) (by decide) (by omega) (fun c => absurd c (by omega)) (fun _ => ?_)
          refine aw_blk (pc' := 92) (ls' := [some (vr 7 0), some (vi (x : Int)), some (vi (y : Int)), some (vi bi), some (vi (k : Int))]) (st' := [vi (-1), vi (y : Int), vi ((x : Int) + 1), vr 7 0]) [.inl (.aload_n 0), .inl (.iload_n 1), .inl (.iconst 1), .inl (.iadd), .inl (.iload_n 2), .inl (.iconst (-1))] 86 _ _ (by decide +kernel) rfl ?_
          have hV2 := dV_A (v := ta k - b0) hV
          rw [hx, hy] at hV2
          refine aw_rV (cs' := 0) (sl' := 0) (pc' := 95) (idx := 61) (as := [vi ((x : Int) + 1), vi (y : Int), vi (-1)]) (st := []) (m_D_ext_2 (x := x + 1) (y := y) (F := F) (bar := 6000) hS (dP_A hP (by omega) (by omega) ok) hV2 hlen hy (by omega) (Or.inl ⟨rfl, rfl⟩) (by have := pb_A (p := n - x) (q := m - y) (by omega); rw [show n - (x + 1) = n - x - 1 by omega]; omega)) (by decide +kernel) (show vOK "ChanceBench$Dice" 61 (M_D_extend 2) 3 = true by decide +kernel) rfl rfl rfl (Nat.le_of_ble_eq_true rfl) (by decide) (by decide) (by decide) rfl rfl rfl (fun r92 h92 z92 => ?_)
          obtain ⟨rfl, kp2, fi2, se2, hR, rfl⟩ := z92
          have e2 : fi2 x = ta k - b0 := by rw [hR.1 x (by omega), va_eq]
          have hag : ∀ j, j < y → se2 j = se j := hR.2.1
          refine aw_blk (pc' := 101) (ls' := [some (vr 7 0), some (vi (x : Int)), some (vi (y : Int)), some (vi bi), some (vi (k : Int))]) (st' := [vi (x : Int), vr 7 2, vr 7 0]) [.inl (.aload_n 0), .inl (.aload_n 0), .inr (15, 7, 1), .inl (.iload_n 1)] 95 _ _ (by decide +kernel) rfl ?_
          refine aw_iald (j := x) (by decide +kernel) rfl (by omega) (by omega) (fun r101 => ?_)
          refine aw_blk (pc' := 107) (ls' := [some (vr 7 0), some (vi (x : Int)), some (vi (y : Int)), some (vi bi), some (vi (k : Int))]) (st' := [vi (y : Int), vr 7 3, vi (fi2 x), vr 7 0]) [.inl (.aload_n 0), .inr (18, 7, 2), .inl (.iload_n 2)] 102 _ _ (by decide +kernel) rfl ?_
          rw [e2]
          refine aw_dV (cs' := 0) (sl' := 0) (pc' := 110) (st' := []) (idx := 76) (as := [vi (ta k - b0), vr 7 3, vi (y : Int)]) (st := []) (m_D_giveBack_se (y := y) s1.1 s1.2.1 (fun j hj => by rw [hag j hj]; exact hp j hj) (by omega) (by omega) (dcr_in htl (by omega))) (by decide +kernel) (show vOK "ChanceBench$Dice" 76 M_D_giveBackThrows 3 = true by decide +kernel) rfl rfl rfl (Nat.le_of_ble_eq_true rfl) (by decide) (by decide) (by decide) rfl rfl rfl rfl ?_
          rw [icr_back hag]
          have hR1 := exR_upA hR
          have hV3 : dV S ta len A Bl fi2 se2 tl := ⟨pre_ext hV.1 (by rw [hx]; exact hR1.1), pre_ext hV.2.1 (by rw [hy]; exact hag), hV.2.2⟩
          have hln1 := ext_len S n m b0 2 (A ++ [ta k - b0]) Bl 6000
          rw [hlen, hy, show n - (x + 1) = n - x - 1 by omega] at hln1
          refine l_D_e110_3 (F := F + (ext S n m b0 2 (A ++ [ta k - b0]) Bl 6000).length) hS hP hV3 hx hy hf hk ek (fun hlt => by have := pb_AB (p := n - x) (q := m - y) (by omega) (by omega); omega) (fun kp' fi' se' h9 => ?_)
          have := hq kp' fi' se' (exR_app hR1 h9)
          rw [List.length_append, ← Nat.add_assoc] at this
          exact this
        · have eA : exA S n m b0 2 A Bl bar = [] := by unfold exA; rw [ek, if_neg (fun z => ok z.2.2)]
          refine aw_dV (cs' := 0) (sl' := 0) (pc' := 83) (st' := [vi 0]) (idx := 72) (as := [vi (ta k - b0), vr 7 3, vi (y : Int)]) (st := []) (m_D_take_se_0 (y := y) s1.1 s1.2.1 hp (by omega) (by omega) (fun i hi => by have := htl i hi; omega) (fun i hi => by have := htl i hi; omega) (by rw [← hy]; exact fun z => ok ((tkA hS hP hV).mp z))) (by decide +kernel) (show vOK "ChanceBench$Dice" 72 M_D_takeThrows 3 = true by decide +kernel) rfl rfl rfl (Nat.le_of_ble_eq_true rfl) (by decide) (by decide) (by decide) rfl rfl rfl rfl ?_
          refine aw_if_eq (o := 27) (tgt := 110) (by decide +kernel) (by decide) (by omega) (fun _ => ?_) (fun c => absurd (by omega) c)
          have hV3 : dV S ta len A Bl (va_up fi x (ta k - b0)) se tl := ⟨pre_ext hV.1 (fun i hi => by simp only [va_up]; rw [if_neg (by omega)]), hV.2.1, hV.2.2⟩
          refine l_D_e110_3 hS hP hV3 hx hy hf hk ek (fun hlt => by have := pb_B (p := n - x) (q := m - y) (by omega); omega) (fun kp' fi' se' h9 => ?_)
          rw [eA, List.nil_append] at hq
          exact hq kp' fi' se' ⟨fun i hi => by rw [h9.1 i hi]; simp only [va_up]; rw [if_neg (by omega)], h9.2⟩
theorem m_D_ext_3 (hS : dS S ta len n m b0) (hP : dP S n m b0 A Bl) (hV : dV S ta len A Bl fi se tl) (hx : A.length = x) (hy : Bl.length = y) (hf : (n - x) + (m - y) ≤ 3) (hb : bR ta len bi bar) (hF : F + pb (n - x) (m - y) ≤ 252) : AMet G (M_D_extend 3) [vr 7 0, vi (x : Int), vi (y : Int), vi bi] (Hp b s t mk df jo tr (sgD (len : Int) (F : Int) (n : Int) (m : Int) kp fi se ta tl) mo dy) (fun r h => r = none ∧ ∃ kp' fi' se', exR x y F kp fi se (ext S n m b0 3 A Bl bar) kp' fi' se' ∧ h = Hp b s t mk df jo tr (sgD (len : Int) ((F + (ext S n m b0 3 A Bl bar).length : Nat) : Int) (n : Int) (m : Int) kp' fi' se' ta tl) mo dy) (fun _ => False) := by
  refine am_rel (by decide +kernel) (Nat.le_of_ble_eq_true rfl) (fun Qr Qt hq => ?_)
  have hpb := pb_pos (n - x) (m - y)
  have s2 := hS.2.2.2
  have p3 := hP.2.2.1
  have p4 := hP.2.2.2.1
  refine aw_blk (pc' := 5) (ls' := [some (vr 7 0), some (vi (x : Int)), some (vi (y : Int)), some (vi bi), none]) (st' := [vi (n : Int), vi (x : Int)]) [.inl (.iload_n 1), .inl (.aload_n 0), .inr (34, 7, 7)] 0 _ _ (by decide +kernel) rfl ?_
  refine aw_icmp_lt (o := 16) (tgt := 21) (by decide +kernel) (by decide) (by omega) (by omega) (fun c5 => ?_) (fun c5 => ?_)
  · exact l_D_e21_3 hS hP hV hx hy hb (by omega) hf hF (fun kp' fi' se' h9 => hq _ _ ⟨rfl, kp', fi', se', h9, rfl⟩)
  · refine aw_blk (pc' := 13) (ls' := [some (vr 7 0), some (vi (x : Int)), some (vi (y : Int)), some (vi bi), none]) (st' := [vi (m : Int), vi (y : Int)]) [.inl (.iload_n 2), .inl (.aload_n 0), .inr (37, 7, 8)] 8 _ _ (by decide +kernel) rfl ?_
    refine aw_icmp_lt (o := 8) (tgt := 21) (by decide +kernel) (by decide) (by omega) (by omega) (fun c13 => ?_) (fun c13 => ?_)
    · exact l_D_e21_3 hS hP hV hx hy hb (by omega) hf hF (fun kp' fi' se' h9 => hq _ _ ⟨rfl, kp', fi', se', h9, rfl⟩)
    · refine aw_blk (pc' := 17) (ls' := [some (vr 7 0), some (vi (x : Int)), some (vi (y : Int)), some (vi bi), none]) (st' := [vr 7 0]) [.inl (.aload_n 0)] 16 _ _ (by decide +kernel) rfl ?_
      refine aw_dV (cs' := 0) (sl' := 0) (pc' := 20) (st' := []) (idx := 65) (as := []) (st := []) (m_D_keep (by omega)) (by decide +kernel) (show vOK "ChanceBench$Dice" 65 M_D_keep 0 = true by decide +kernel) rfl rfl rfl (Nat.le_of_ble_eq_true rfl) (by decide) (by decide) (by decide) rfl rfl rfl rfl ?_
      have eX : ext S n m b0 3 A Bl bar = [(A, Bl)] := by rw [ext, if_pos (by omega)]
      rw [eX] at hq
      exact aw_vret (by decide +kernel) rfl (by decide) (by decide) (hq _ _ ⟨rfl, kpR kp fi se F 6, fi, se, ⟨fun _ _ => rfl, fun _ _ => rfl, fun k hk => by unfold kpR; rw [if_neg (by omega), if_neg (by omega)], kp_row hV.1 hV.2.1⟩, rfl⟩)

theorem l_D_e110_4 {Qr : Option AV → HT → Prop} {Qt : HT → Prop} (hS : dS S ta len n m b0) (hP : dP S n m b0 A Bl) (hV : dV S ta len A Bl fi se tl) (hx : A.length = x) (hy : Bl.length = y) (hf : (n - x) + (m - y) ≤ 4) (hk : k < len) (ek : lsU (rem_ S A Bl) = ta k) (hF2 : y < m → F + pb (n - x) (m - y - 1) ≤ 252) (hq : ∀ kp' fi' se', exR x y F kp fi se (exB S n m b0 3 A Bl) kp' fi' se' → Qr none (Hp b s t mk df jo tr (sgD (len : Int) ((F + (exB S n m b0 3 A Bl).length : Nat) : Int) (n : Int) (m : Int) kp' fi' se' ta tl) mo dy)) : AW G (M_D_extend 4) Qr Qt 0 0 110 [some (vr 7 0), some (vi (x : Int)), some (vi (y : Int)), some (vi bi), some (vi (k : Int))] [] (Hp b s t mk df jo tr (sgD (len : Int) (F : Int) (n : Int) (m : Int) kp fi se ta tl) mo dy) := by
  have s1 := hS.1
  have s2 := hS.2.2.2
  have p3 := hP.2.2.1
  have p4 := hP.2.2.2.1
  have p5 := hP.2.2.2.2.1
  have p6 := hP.2.2.2.2.2.1
  have l1 := pre_len hP.1
  have l2 := pre_len hP.2.1
  have e0 : fi 0 = 0 := hV.1 0 0 hP.1
  have hrk := hS.1.2.2 k hk
  have htl := tl_in hS hP hV
  refine aw_blk (pc' := 115) (ls' := [some (vr 7 0), some (vi (x : Int)), some (vi (y : Int)), some (vi bi), some (vi (k : Int))]) (st' := [vi (m : Int), vi (y : Int)]) [.inl (.iload_n 2), .inl (.aload_n 0), .inr (37, 7, 8)] 110 _ _ (by decide +kernel) rfl ?_
  refine aw_icmp_ge (o := 66) (tgt := 181) (by decide +kernel) (by decide) (by omega) (by omega) (fun c115 => ?_) (fun c115 => ?_)
  · have eB : exB S n m b0 3 A Bl = [] := by unfold exB; rw [if_neg (by omega)]
    rw [eB] at hq
    exact aw_vret (by decide +kernel) rfl (by decide) (by decide) (hq kp fi se exR_nil)
  · refine aw_blk (pc' := 129) (ls' := [some (vr 7 0), some (vi (x : Int)), some (vi (y : Int)), some (vi bi), some (vi (k : Int))]) (st' := [vi (k : Int), vr 7 4, vi (y : Int), vr 7 3]) [.inl (.aload_n 0), .inr (18, 7, 2), .inl (.iload_n 2), .inl (.aload_n 0), .inr (21, 7, 3), .inl (.iload 4)] 118 _ _ (by decide +kernel) rfl ?_
    refine aw_iald (j := k) (by decide +kernel) rfl (by omega) (by omega) (fun r129 => ?_)
    refine aw_blk (pc' := 135) (ls' := [some (vr 7 0), some (vi (x : Int)), some (vi (y : Int)), some (vi bi), some (vi (k : Int))]) (st' := [vi 0, vr 7 2, vi (ta k), vi (y : Int), vr 7 3]) [.inl (.aload_n 0), .inr (15, 7, 1), .inl (.iconst 0)] 130 _ _ (by decide +kernel) rfl ?_
    refine aw_iald (j := 0) (by decide +kernel) rfl (by omega) (by omega) (fun r135 => ?_)
    refine aw_blk (pc' := 137) (ls' := [some (vr 7 0), some (vi (x : Int)), some (vi (y : Int)), some (vi bi), some (vi (k : Int))]) (st' := [vi ((ta k) - (fi 0)), vi (y : Int), vr 7 3]) [.inl (.isub)] 136 _ _ (by decide +kernel) rfl ?_
    rw [show ta k - fi 0 = ta k by omega]
    refine aw_iast (j := y) (h' := Hp b s t mk df jo tr [some (ob 7 [vr 7 1, vr 7 2, vr 7 3, vr 7 4, vr 7 5, vi (len : Int), vi (F : Int), vi (n : Int), vi (m : Int)]), some (ar 0 3024 kp), some (ar 0 6 fi), some (ar 0 6 (va_up se y (ta k))), some (ar 0 24 ta), some (ar 0 24 tl)] mo dy) (by decide +kernel) rfl rfl (by omega) (by omega) rfl ?_
    refine aw_blk (pc' := 144) (ls' := [some (vr 7 0), some (vi (x : Int)), some (vi (y : Int)), some (vi bi), some (vi (k : Int))]) (st' := [vi (y : Int), vr 7 3, vr 7 0]) [.inl (.aload_n 0), .inl (.aload_n 0), .inr (18, 7, 2), .inl (.iload_n 2)] 138 _ _ (by decide +kernel) rfl ?_
    refine aw_iald (j := y) (by decide +kernel) rfl (by omega) (by omega) (fun r144 => ?_)
    refine aw_blk (pc' := 150) (ls' := [some (vr 7 0), some (vi (x : Int)), some (vi (y : Int)), some (vi bi), some (vi (k : Int))]) (st' := [vi (x : Int), vr 7 2, vi ((va_up se y (ta k)) y), vr 7 0]) [.inl (.aload_n 0), .inr (15, 7, 1), .inl (.iload_n 1)] 145 _ _ (by decide +kernel) rfl ?_
    rw [va_eq]
    by_cases ok : okB S A Bl (ta k) = true
    · have eB : exB S n m b0 3 A Bl = ext S n m b0 3 A (Bl ++ [ta k]) (ta k) := by unfold exB; rw [ek, if_pos ⟨by omega, ok⟩]
      rw [eB] at hq
      have hlen : (Bl ++ [ta k]).length = y + 1 := by rw [List.length_append, hy]; rfl
      have hp := pre_fB hV.1 p5
      rw [hx] at hp
      refine aw_dV (cs' := 0) (sl' := 0) (pc' := 153) (st' := [vi 1]) (idx := 72) (as := [vi (ta k), vr 7 2, vi (x : Int)]) (st := []) (m_D_take_fi_1 (y := x) s1.1 s1.2.1 hp (by omega) (by omega) (fun i hi => by have := htl i hi; omega) (by rw [← hx]; exact (tkB hS hP hV).mpr ok)) (by decide +kernel) (show vOK "ChanceBench$Dice" 72 M_D_takeThrows 3 = true by decide +kernel) rfl rfl rfl (Nat.le_of_ble_eq_true rfl) (by decide) (by decide) (by decide) rfl rfl rfl rfl ?_
      refine aw_if_eq (o := 28) (tgt := 181) (by decide +kernel) (by decide) (by omega) (fun c => absurd c (by omega)) (fun _ => ?_)
      refine aw_blk (pc' := 163) (ls' := [some (vr 7 0), some (vi (x : Int)), some (vi (y : Int)), some (vi bi), some (vi (k : Int))]) (st' := [vi (k : Int), vi ((y : Int) + 1), vi (x : Int), vr 7 0]) [.inl (.aload_n 0), .inl (.iload_n 1), .inl (.iload_n 2), .inl (.iconst 1), .inl (.iadd), .inl (.iload 4)] 156 _ _ (by decide +kernel) rfl ?_
      have hV2 := dV_B (v := ta k) hV
      rw [hx, hy] at hV2
      refine aw_rV (cs' := 0) (sl' := 0) (pc' := 166) (idx := 61) (as := [vi (x : Int), vi ((y : Int) + 1), vi (k : Int)]) (st := []) (m_D_ext_3 (x := x) (y := y + 1) (F := F) (bar := ta k) hS (dP_B hP (by omega) (by omega) ok) hV2 hx hlen (by omega) (Or.inr ⟨k, hk, rfl, rfl⟩) (by have := hF2 (by omega); rw [show m - (y + 1) = m - y - 1 by omega]; exact this)) (by decide +kernel) (show vOK "ChanceBench$Dice" 61 (M_D_extend 3) 3 = true by decide +kernel) rfl rfl rfl (Nat.le_of_ble_eq_true rfl) (by decide) (by decide) (by decide) rfl rfl rfl (fun r163 h163 z163 => ?_)
      obtain ⟨rfl, kp2, fi2, se2, hR, rfl⟩ := z163
      have e2 : se2 y = ta k := by rw [hR.2.1 y (by omega), va_eq]
      have hag : ∀ j, j < x → fi2 j = fi j := hR.1
      refine aw_blk (pc' := 172) (ls' := [some (vr 7 0), some (vi (x : Int)), some (vi (y : Int)), some (vi bi), some (vi (k : Int))]) (st' := [vi (y : Int), vr 7 3, vr 7 0]) [.inl (.aload_n 0), .inl (.aload_n 0), .inr (18, 7, 2), .inl (.iload_n 2)] 166 _ _ (by decide +kernel) rfl ?_
      refine aw_iald (j := y) (by decide +kernel) rfl (by omega) (by omega) (fun r172 => ?_)
      refine aw_blk (pc' := 178) (ls' := [some (vr 7 0), some (vi (x : Int)), some (vi (y : Int)), some (vi bi), some (vi (k : Int))]) (st' := [vi (x : Int), vr 7 2, vi (se2 y), vr 7 0]) [.inl (.aload_n 0), .inr (15, 7, 1), .inl (.iload_n 1)] 173 _ _ (by decide +kernel) rfl ?_
      rw [e2]
      refine aw_dV (cs' := 0) (sl' := 0) (pc' := 181) (st' := []) (idx := 76) (as := [vi (ta k), vr 7 2, vi (x : Int)]) (st := []) (m_D_giveBack_fi (y := x) s1.1 s1.2.1 (fun j hj => by rw [hag j hj]; exact hp j hj) (by omega) (by omega) (dcr_in htl (by omega))) (by decide +kernel) (show vOK "ChanceBench$Dice" 76 M_D_giveBackThrows 3 = true by decide +kernel) rfl rfl rfl (Nat.le_of_ble_eq_true rfl) (by decide) (by decide) (by decide) rfl rfl rfl rfl ?_
      rw [icr_back hag]
      exact aw_vret (by decide +kernel) rfl (by decide) (by decide) (hq kp2 fi2 se2 (exR_up hR))
    · have eB : exB S n m b0 3 A Bl = [] := by unfold exB; rw [ek, if_neg (fun z => ok z.2)]
      rw [eB] at hq
      have hp := pre_fB hV.1 p5
      rw [hx] at hp
      refine aw_dV (cs' := 0) (sl' := 0) (pc' := 153) (st' := [vi 0]) (idx := 72) (as := [vi (ta k), vr 7 2, vi (x : Int)]) (st := []) (m_D_take_fi_0 (y := x) s1.1 s1.2.1 hp (by omega) (by omega) (fun i hi => by have := htl i hi; omega) (fun i hi => by have := htl i hi; omega) (by rw [← hx]; exact fun z => ok ((tkB hS hP hV).mp z))) (by decide +kernel) (show vOK "ChanceBench$Dice" 72 M_D_takeThrows 3 = true by decide +kernel) rfl rfl rfl (Nat.le_of_ble_eq_true rfl) (by decide) (by decide) (by decide) rfl rfl rfl rfl ?_
      refine aw_if_eq (o := 28) (tgt := 181) (by decide +kernel) (by decide) (by omega) (fun _ => ?_) (fun c => absurd (by omega) c)
      exact aw_vret (by decide +kernel) rfl (by decide) (by decide) (hq kp fi (va_up se y (ta k)) (exR_up ⟨fun _ _ => rfl, fun _ _ => rfl, fun _ _ => rfl, rows_nil⟩))
theorem l_D_e21_4 {Qr : Option AV → HT → Prop} {Qt : HT → Prop} (hS : dS S ta len n m b0) (hP : dP S n m b0 A Bl) (hV : dV S ta len A Bl fi se tl) (hx : A.length = x) (hy : Bl.length = y) (hb : bR ta len bi bar) (hnd : ¬ (n ≤ x ∧ m ≤ y)) (hf : (n - x) + (m - y) ≤ 4) (hF : F + pb (n - x) (m - y) ≤ 252) (hq : ∀ kp' fi' se', exR x y F kp fi se (ext S n m b0 4 A Bl bar) kp' fi' se' → Qr none (Hp b s t mk df jo tr (sgD (len : Int) ((F + (ext S n m b0 4 A Bl bar).length : Nat) : Int) (n : Int) (m : Int) kp' fi' se' ta tl) mo dy)) : AW G (M_D_extend 4) Qr Qt 0 0 21 [some (vr 7 0), some (vi (x : Int)), some (vi (y : Int)), some (vi bi), none] [] (Hp b s t mk df jo tr (sgD (len : Int) (F : Int) (n : Int) (m : Int) kp fi se ta tl) mo dy) := by
  have s1 := hS.1
  have s2 := hS.2.2.2
  have p3 := hP.2.2.1
  have p4 := hP.2.2.2.1
  have p5 := hP.2.2.2.2.1
  have p6 := hP.2.2.2.2.2.1
  have l1 := pre_len hP.1
  have l2 := pre_len hP.2.1
  have e0 : se 0 = b0 := hV.2.1 0 b0 hP.2.1
  have htl := tl_in hS hP hV
  have hbi : I32 bi := by rcases hb with ⟨z, _⟩ | ⟨i, z, q, _⟩ <;> omega
  refine aw_blk (pc' := 22) (ls' := [some (vr 7 0), some (vi (x : Int)), some (vi (y : Int)), some (vi bi), none]) (st' := [vr 7 0]) [.inl (.aload_n 0)] 21 _ _ (by decide +kernel) rfl ?_
  refine aw_dV (cs' := 0) (sl' := 0) (pc' := 25) (st' := [vi (lsI tl len 0)]) (idx := 68) (as := []) (st := []) (m_D_leastThrowLeft s1.1) (by decide +kernel) (show vOK "ChanceBench$Dice" 68 M_D_leastThrowLeft 0 = true by decide +kernel) rfl rfl rfl (Nat.le_of_ble_eq_true rfl) (by decide) (by decide) (by decide) rfl rfl rfl rfl ?_
  rcases ls_rel s1.2.1 s1.2.2 hV.2.2 (hta_R hS) with ⟨q1, q2⟩ | ⟨k, hk, q1, ek⟩
  · rw [q1]
    refine aw_blk (pc' := 30) (ls' := [some (vr 7 0), some (vi (x : Int)), some (vi (y : Int)), some (vi bi), some (vi (-1))]) (st' := [vi (-1), vi (-1)]) [.inl (.istore 4), .inl (.iload 4), .inl (.iconst (-1))] 25 _ _ (by decide +kernel) rfl ?_
    refine aw_icmp_ne (o := 4) (tgt := 34) (by decide +kernel) (by decide) (by omega) (by omega) (fun c => absurd (by omega) c) (fun _ => ?_)
    have eX : ext S n m b0 4 A Bl bar = [] := by rw [ext, if_neg (by omega), if_pos q2]
    rw [eX] at hq
    exact aw_vret (by decide +kernel) rfl (by decide) (by decide) (hq kp fi se exR_nil)
  · have hrk := hS.1.2.2 k hk
    rw [q1]
    have eX : ext S n m b0 4 A Bl bar = exA S n m b0 3 A Bl bar ++ exB S n m b0 3 A Bl := ext_s S n m b0 3 A Bl bar (by omega) (by omega)
    rw [eX] at hq
    refine aw_blk (pc' := 30) (ls' := [some (vr 7 0), some (vi (x : Int)), some (vi (y : Int)), some (vi bi), some (vi (k : Int))]) (st' := [vi (-1), vi (k : Int)]) [.inl (.istore 4), .inl (.iload 4), .inl (.iconst (-1))] 25 _ _ (by decide +kernel) rfl ?_
    refine aw_icmp_ne (o := 4) (tgt := 34) (by decide +kernel) (by decide) (by omega) (by omega) (fun _ => ?_) (fun c => absurd c (by omega))
    refine aw_blk (pc' := 39) (ls' := [some (vr 7 0), some (vi (x : Int)), some (vi (y : Int)), some (vi bi), some (vi (k : Int))]) (st' := [vi (n : Int), vi (x : Int)]) [.inl (.iload_n 1), .inl (.aload_n 0), .inr (34, 7, 7)] 34 _ _ (by decide +kernel) rfl ?_
    refine aw_icmp_ge (o := 71) (tgt := 110) (by decide +kernel) (by decide) (by omega) (by omega) (fun c39 => ?_) (fun c39 => ?_)
    · have eA : exA S n m b0 3 A Bl bar = [] := by unfold exA; rw [if_neg (by omega)]
      exact l_D_e110_4 hS hP hV hx hy hf hk ek (fun hlt => by have := pb_B (p := n - x) (q := m - y) (by omega); omega) (fun kp' fi' se' h9 => by rw [eA, List.nil_append] at hq; exact hq kp' fi' se' h9)
    · refine aw_blk (pc' := 45) (ls' := [some (vr 7 0), some (vi (x : Int)), some (vi (y : Int)), some (vi bi), some (vi (k : Int))]) (st' := [vi bi, vi (k : Int)]) [.inl (.iload 4), .inl (.iload_n 3)] 42 _ _ (by decide +kernel) rfl ?_
      refine aw_icmp_eq (o := 65) (tgt := 110) (by decide +kernel) (by decide) (by omega) (by omega) (fun c45 => ?_) (fun c45 => ?_)
      · have eA : exA S n m b0 3 A Bl bar = [] := by unfold exA; rw [ek, if_neg (fun z => z.2.1 (by rcases hb with ⟨z1, _⟩ | ⟨i, z1, z2, z3⟩; omega; rw [z3, show i = k by omega]))]
        exact l_D_e110_4 hS hP hV hx hy hf hk ek (fun hlt => by have := pb_B (p := n - x) (q := m - y) (by omega); omega) (fun kp' fi' se' h9 => by rw [eA, List.nil_append] at hq; exact hq kp' fi' se' h9)
      · have hne : ta k ≠ bar := fun e => by
          rcases hb with ⟨_, z2⟩ | ⟨i, z1, z2, z3⟩
          · omega
          · rw [z3] at e
            rcases Nat.lt_trichotomy k i with q | q | q
            · have := s1.2.1 k i q z1; omega
            · omega
            · have := s1.2.1 i k q hk; omega
        refine aw_blk (pc' := 59) (ls' := [some (vr 7 0), some (vi (x : Int)), some (vi (y : Int)), some (vi bi), some (vi (k : Int))]) (st' := [vi (k : Int), vr 7 4, vi (x : Int), vr 7 2]) [.inl (.aload_n 0), .inr (15, 7, 1), .inl (.iload_n 1), .inl (.aload_n 0), .inr (21, 7, 3), .inl (.iload 4)] 48 _ _ (by decide +kernel) rfl ?_
        refine aw_iald (j := k) (by decide +kernel) rfl (by omega) (by omega) (fun r59 => ?_)
        refine aw_blk (pc' := 65) (ls' := [some (vr 7 0), some (vi (x : Int)), some (vi (y : Int)), some (vi bi), some (vi (k : Int))]) (st' := [vi 0, vr 7 3, vi (ta k), vi (x : Int), vr 7 2]) [.inl (.aload_n 0), .inr (18, 7, 2), .inl (.iconst 0)] 60 _ _ (by decide +kernel) rfl ?_
        refine aw_iald (j := 0) (by decide +kernel) rfl (by omega) (by omega) (fun r65 => ?_)
        refine aw_blk (pc' := 67) (ls' := [some (vr 7 0), some (vi (x : Int)), some (vi (y : Int)), some (vi bi), some (vi (k : Int))]) (st' := [vi ((ta k) - (se 0)), vi (x : Int), vr 7 2]) [.inl (.isub)] 66 _ _ (by decide +kernel) rfl ?_
        rw [e0]
        refine aw_iast (j := x) (h' := Hp b s t mk df jo tr [some (ob 7 [vr 7 1, vr 7 2, vr 7 3, vr 7 4, vr 7 5, vi (len : Int), vi (F : Int), vi (n : Int), vi (m : Int)]), some (ar 0 3024 kp), some (ar 0 6 (va_up fi x (ta k - b0))), some (ar 0 6 se), some (ar 0 24 ta), some (ar 0 24 tl)] mo dy) (by decide +kernel) rfl rfl (by omega) (by omega) rfl ?_
        refine aw_blk (pc' := 74) (ls' := [some (vr 7 0), some (vi (x : Int)), some (vi (y : Int)), some (vi bi), some (vi (k : Int))]) (st' := [vi (x : Int), vr 7 2, vr 7 0]) [.inl (.aload_n 0), .inl (.aload_n 0), .inr (15, 7, 1), .inl (.iload_n 1)] 68 _ _ (by decide +kernel) rfl ?_
        refine aw_iald (j := x) (by decide +kernel) rfl (by omega) (by omega) (fun r74 => ?_)
        refine aw_blk (pc' := 80) (ls' := [some (vr 7 0), some (vi (x : Int)), some (vi (y : Int)), some (vi bi), some (vi (k : Int))]) (st' := [vi (y : Int), vr 7 3, vi ((va_up fi x (ta k - b0)) x), vr 7 0]) [.inl (.aload_n 0), .inr (18, 7, 2), .inl (.iload_n 2)] 75 _ _ (by decide +kernel) rfl ?_
        rw [va_eq]
        have hp := pre_fB hV.2.1 p6
        rw [hy] at hp
        by_cases ok : okA S A Bl (ta k - b0) = true
        · have eA : exA S n m b0 3 A Bl bar = ext S n m b0 3 (A ++ [ta k - b0]) Bl 6000 := by unfold exA; rw [ek, if_pos ⟨by omega, hne, ok⟩]
          rw [eA] at hq
          have hlen : (A ++ [ta k - b0]).length = x + 1 := by rw [List.length_append, hx]; rfl
          refine aw_dV (cs' := 0) (sl' := 0) (pc' := 83) (st' := [vi 1]) (idx := 72) (as := [vi (ta k - b0), vr 7 3, vi (y : Int)]) (st := []) (m_D_take_se_1 (y := y) s1.1 s1.2.1 hp (by omega) (by omega) (fun i hi => by have := htl i hi; omega) (by rw [← hy]; exact (tkA hS hP hV).mpr ok)) (by decide +kernel) (show vOK "ChanceBench$Dice" 72 M_D_takeThrows 3 = true by decide +kernel) rfl rfl rfl (Nat.le_of_ble_eq_true rfl) (by decide) (by decide) (by decide) rfl rfl rfl rfl ?_
          refine aw_if_eq (o := 27) (tgt := 110) (by decide +kernel) (by decide) (by omega) (fun c => absurd c (by omega)) (fun _ => ?_)
          refine aw_blk (pc' := 92) (ls' := [some (vr 7 0), some (vi (x : Int)), some (vi (y : Int)), some (vi bi), some (vi (k : Int))]) (st' := [vi (-1), vi (y : Int), vi ((x : Int) + 1), vr 7 0]) [.inl (.aload_n 0), .inl (.iload_n 1), .inl (.iconst 1), .inl (.iadd), .inl (.iload_n 2), .inl (.iconst (-1))] 86 _ _ (by decide +kernel) rfl ?_
          have hV2 := dV_A (v := ta k - b0) hV
          rw [hx, hy] at hV2
          refine aw_rV (cs' := 0) (sl' := 0) (pc' := 95) (idx := 61) (as := [vi ((x : Int) + 1), vi (y : Int), vi (-1)]) (st := []) (m_D_ext_3 (x := x + 1) (y := y) (F := F) (bar := 6000) hS (dP_A hP (by omega) (by omega) ok) hV2 hlen hy (by omega) (Or.inl ⟨rfl, rfl⟩) (by have := pb_A (p := n - x) (q := m - y) (by omega); rw [show n - (x + 1) = n - x - 1 by omega]; omega)) (by decide +kernel) (show vOK "ChanceBench$Dice" 61 (M_D_extend 3) 3 = true by decide +kernel) rfl rfl rfl (Nat.le_of_ble_eq_true rfl) (by decide) (by decide) (by decide) rfl rfl rfl (fun r92 h92 z92 => ?_)
          obtain ⟨rfl, kp2, fi2, se2, hR, rfl⟩ := z92
          have e2 : fi2 x = ta k - b0 := by rw [hR.1 x (by omega), va_eq]
          have hag : ∀ j, j < y → se2 j = se j := hR.2.1
          refine aw_blk (pc' := 101) (ls' := [some (vr 7 0), some (vi (x : Int)), some (vi (y : Int)), some (vi bi), some (vi (k : Int))]) (st' := [vi (x : Int), vr 7 2, vr 7 0]) [.inl (.aload_n 0), .inl (.aload_n 0), .inr (15, 7, 1), .inl (.iload_n 1)] 95 _ _ (by decide +kernel) rfl ?_
          refine aw_iald (j := x) (by decide +kernel) rfl (by omega) (by omega) (fun r101 => ?_)
          refine aw_blk (pc' := 107) (ls' := [some (vr 7 0), some (vi (x : Int)), some (vi (y : Int)), some (vi bi), some (vi (k : Int))]) (st' := [vi (y : Int), vr 7 3, vi (fi2 x), vr 7 0]) [.inl (.aload_n 0), .inr (18, 7, 2), .inl (.iload_n 2)] 102 _ _ (by decide +kernel) rfl ?_
          rw [e2]
          refine aw_dV (cs' := 0) (sl' := 0) (pc' := 110) (st' := []) (idx := 76) (as := [vi (ta k - b0), vr 7 3, vi (y : Int)]) (st := []) (m_D_giveBack_se (y := y) s1.1 s1.2.1 (fun j hj => by rw [hag j hj]; exact hp j hj) (by omega) (by omega) (dcr_in htl (by omega))) (by decide +kernel) (show vOK "ChanceBench$Dice" 76 M_D_giveBackThrows 3 = true by decide +kernel) rfl rfl rfl (Nat.le_of_ble_eq_true rfl) (by decide) (by decide) (by decide) rfl rfl rfl rfl ?_
          rw [icr_back hag]
          have hR1 := exR_upA hR
          have hV3 : dV S ta len A Bl fi2 se2 tl := ⟨pre_ext hV.1 (by rw [hx]; exact hR1.1), pre_ext hV.2.1 (by rw [hy]; exact hag), hV.2.2⟩
          have hln1 := ext_len S n m b0 3 (A ++ [ta k - b0]) Bl 6000
          rw [hlen, hy, show n - (x + 1) = n - x - 1 by omega] at hln1
          refine l_D_e110_4 (F := F + (ext S n m b0 3 (A ++ [ta k - b0]) Bl 6000).length) hS hP hV3 hx hy hf hk ek (fun hlt => by have := pb_AB (p := n - x) (q := m - y) (by omega) (by omega); omega) (fun kp' fi' se' h9 => ?_)
          have := hq kp' fi' se' (exR_app hR1 h9)
          rw [List.length_append, ← Nat.add_assoc] at this
          exact this
        · have eA : exA S n m b0 3 A Bl bar = [] := by unfold exA; rw [ek, if_neg (fun z => ok z.2.2)]
          refine aw_dV (cs' := 0) (sl' := 0) (pc' := 83) (st' := [vi 0]) (idx := 72) (as := [vi (ta k - b0), vr 7 3, vi (y : Int)]) (st := []) (m_D_take_se_0 (y := y) s1.1 s1.2.1 hp (by omega) (by omega) (fun i hi => by have := htl i hi; omega) (fun i hi => by have := htl i hi; omega) (by rw [← hy]; exact fun z => ok ((tkA hS hP hV).mp z))) (by decide +kernel) (show vOK "ChanceBench$Dice" 72 M_D_takeThrows 3 = true by decide +kernel) rfl rfl rfl (Nat.le_of_ble_eq_true rfl) (by decide) (by decide) (by decide) rfl rfl rfl rfl ?_
          refine aw_if_eq (o := 27) (tgt := 110) (by decide +kernel) (by decide) (by omega) (fun _ => ?_) (fun c => absurd (by omega) c)
          have hV3 : dV S ta len A Bl (va_up fi x (ta k - b0)) se tl := ⟨pre_ext hV.1 (fun i hi => by simp only [va_up]; rw [if_neg (by omega)]), hV.2.1, hV.2.2⟩
          refine l_D_e110_4 hS hP hV3 hx hy hf hk ek (fun hlt => by have := pb_B (p := n - x) (q := m - y) (by omega); omega) (fun kp' fi' se' h9 => ?_)
          rw [eA, List.nil_append] at hq
          exact hq kp' fi' se' ⟨fun i hi => by rw [h9.1 i hi]; simp only [va_up]; rw [if_neg (by omega)], h9.2⟩
theorem m_D_ext_4 (hS : dS S ta len n m b0) (hP : dP S n m b0 A Bl) (hV : dV S ta len A Bl fi se tl) (hx : A.length = x) (hy : Bl.length = y) (hf : (n - x) + (m - y) ≤ 4) (hb : bR ta len bi bar) (hF : F + pb (n - x) (m - y) ≤ 252) : AMet G (M_D_extend 4) [vr 7 0, vi (x : Int), vi (y : Int), vi bi] (Hp b s t mk df jo tr (sgD (len : Int) (F : Int) (n : Int) (m : Int) kp fi se ta tl) mo dy) (fun r h => r = none ∧ ∃ kp' fi' se', exR x y F kp fi se (ext S n m b0 4 A Bl bar) kp' fi' se' ∧ h = Hp b s t mk df jo tr (sgD (len : Int) ((F + (ext S n m b0 4 A Bl bar).length : Nat) : Int) (n : Int) (m : Int) kp' fi' se' ta tl) mo dy) (fun _ => False) := by
  refine am_rel (by decide +kernel) (Nat.le_of_ble_eq_true rfl) (fun Qr Qt hq => ?_)
  have hpb := pb_pos (n - x) (m - y)
  have s2 := hS.2.2.2
  have p3 := hP.2.2.1
  have p4 := hP.2.2.2.1
  refine aw_blk (pc' := 5) (ls' := [some (vr 7 0), some (vi (x : Int)), some (vi (y : Int)), some (vi bi), none]) (st' := [vi (n : Int), vi (x : Int)]) [.inl (.iload_n 1), .inl (.aload_n 0), .inr (34, 7, 7)] 0 _ _ (by decide +kernel) rfl ?_
  refine aw_icmp_lt (o := 16) (tgt := 21) (by decide +kernel) (by decide) (by omega) (by omega) (fun c5 => ?_) (fun c5 => ?_)
  · exact l_D_e21_4 hS hP hV hx hy hb (by omega) hf hF (fun kp' fi' se' h9 => hq _ _ ⟨rfl, kp', fi', se', h9, rfl⟩)
  · refine aw_blk (pc' := 13) (ls' := [some (vr 7 0), some (vi (x : Int)), some (vi (y : Int)), some (vi bi), none]) (st' := [vi (m : Int), vi (y : Int)]) [.inl (.iload_n 2), .inl (.aload_n 0), .inr (37, 7, 8)] 8 _ _ (by decide +kernel) rfl ?_
    refine aw_icmp_lt (o := 8) (tgt := 21) (by decide +kernel) (by decide) (by omega) (by omega) (fun c13 => ?_) (fun c13 => ?_)
    · exact l_D_e21_4 hS hP hV hx hy hb (by omega) hf hF (fun kp' fi' se' h9 => hq _ _ ⟨rfl, kp', fi', se', h9, rfl⟩)
    · refine aw_blk (pc' := 17) (ls' := [some (vr 7 0), some (vi (x : Int)), some (vi (y : Int)), some (vi bi), none]) (st' := [vr 7 0]) [.inl (.aload_n 0)] 16 _ _ (by decide +kernel) rfl ?_
      refine aw_dV (cs' := 0) (sl' := 0) (pc' := 20) (st' := []) (idx := 65) (as := []) (st := []) (m_D_keep (by omega)) (by decide +kernel) (show vOK "ChanceBench$Dice" 65 M_D_keep 0 = true by decide +kernel) rfl rfl rfl (Nat.le_of_ble_eq_true rfl) (by decide) (by decide) (by decide) rfl rfl rfl rfl ?_
      have eX : ext S n m b0 4 A Bl bar = [(A, Bl)] := by rw [ext, if_pos (by omega)]
      rw [eX] at hq
      exact aw_vret (by decide +kernel) rfl (by decide) (by decide) (hq _ _ ⟨rfl, kpR kp fi se F 6, fi, se, ⟨fun _ _ => rfl, fun _ _ => rfl, fun k hk => by unfold kpR; rw [if_neg (by omega), if_neg (by omega)], kp_row hV.1 hV.2.1⟩, rfl⟩)

theorem l_D_e110_5 {Qr : Option AV → HT → Prop} {Qt : HT → Prop} (hS : dS S ta len n m b0) (hP : dP S n m b0 A Bl) (hV : dV S ta len A Bl fi se tl) (hx : A.length = x) (hy : Bl.length = y) (hf : (n - x) + (m - y) ≤ 5) (hk : k < len) (ek : lsU (rem_ S A Bl) = ta k) (hF2 : y < m → F + pb (n - x) (m - y - 1) ≤ 252) (hq : ∀ kp' fi' se', exR x y F kp fi se (exB S n m b0 4 A Bl) kp' fi' se' → Qr none (Hp b s t mk df jo tr (sgD (len : Int) ((F + (exB S n m b0 4 A Bl).length : Nat) : Int) (n : Int) (m : Int) kp' fi' se' ta tl) mo dy)) : AW G (M_D_extend 5) Qr Qt 0 0 110 [some (vr 7 0), some (vi (x : Int)), some (vi (y : Int)), some (vi bi), some (vi (k : Int))] [] (Hp b s t mk df jo tr (sgD (len : Int) (F : Int) (n : Int) (m : Int) kp fi se ta tl) mo dy) := by
  have s1 := hS.1
  have s2 := hS.2.2.2
  have p3 := hP.2.2.1
  have p4 := hP.2.2.2.1
  have p5 := hP.2.2.2.2.1
  have p6 := hP.2.2.2.2.2.1
  have l1 := pre_len hP.1
  have l2 := pre_len hP.2.1
  have e0 : fi 0 = 0 := hV.1 0 0 hP.1
  have hrk := hS.1.2.2 k hk
  have htl := tl_in hS hP hV
  refine aw_blk (pc' := 115) (ls' := [some (vr 7 0), some (vi (x : Int)), some (vi (y : Int)), some (vi bi), some (vi (k : Int))]) (st' := [vi (m : Int), vi (y : Int)]) [.inl (.iload_n 2), .inl (.aload_n 0), .inr (37, 7, 8)] 110 _ _ (by decide +kernel) rfl ?_
  refine aw_icmp_ge (o := 66) (tgt := 181) (by decide +kernel) (by decide) (by omega) (by omega) (fun c115 => ?_) (fun c115 => ?_)
  · have eB : exB S n m b0 4 A Bl = [] := by unfold exB; rw [if_neg (by omega)]
    rw [eB] at hq
    exact aw_vret (by decide +kernel) rfl (by decide) (by decide) (hq kp fi se exR_nil)
  · refine aw_blk (pc' := 129) (ls' := [some (vr 7 0), some (vi (x : Int)), some (vi (y : Int)), some (vi bi), some (vi (k : Int))]) (st' := [vi (k : Int), vr 7 4, vi (y : Int), vr 7 3]) [.inl (.aload_n 0), .inr (18, 7, 2), .inl (.iload_n 2), .inl (.aload_n 0), .inr (21, 7, 3), .inl (.iload 4)] 118 _ _ (by decide +kernel) rfl ?_
    refine aw_iald (j := k) (by decide +kernel) rfl (by omega) (by omega) (fun r129 => ?_)
    refine aw_blk (pc' := 135) (ls' := [some (vr 7 0), some (vi (x : Int)), some (vi (y : Int)), some (vi bi), some (vi (k : Int))]) (st' := [vi 0, vr 7 2, vi (ta k), vi (y : Int), vr 7 3]) [.inl (.aload_n 0), .inr (15, 7, 1), .inl (.iconst 0)] 130 _ _ (by decide +kernel) rfl ?_
    refine aw_iald (j := 0) (by decide +kernel) rfl (by omega) (by omega) (fun r135 => ?_)
    refine aw_blk (pc' := 137) (ls' := [some (vr 7 0), some (vi (x : Int)), some (vi (y : Int)), some (vi bi), some (vi (k : Int))]) (st' := [vi ((ta k) - (fi 0)), vi (y : Int), vr 7 3]) [.inl (.isub)] 136 _ _ (by decide +kernel) rfl ?_
    rw [show ta k - fi 0 = ta k by omega]
    refine aw_iast (j := y) (h' := Hp b s t mk df jo tr [some (ob 7 [vr 7 1, vr 7 2, vr 7 3, vr 7 4, vr 7 5, vi (len : Int), vi (F : Int), vi (n : Int), vi (m : Int)]), some (ar 0 3024 kp), some (ar 0 6 fi), some (ar 0 6 (va_up se y (ta k))), some (ar 0 24 ta), some (ar 0 24 tl)] mo dy) (by decide +kernel) rfl rfl (by omega) (by omega) rfl ?_
    refine aw_blk (pc' := 144) (ls' := [some (vr 7 0), some (vi (x : Int)), some (vi (y : Int)), some (vi bi), some (vi (k : Int))]) (st' := [vi (y : Int), vr 7 3, vr 7 0]) [.inl (.aload_n 0), .inl (.aload_n 0), .inr (18, 7, 2), .inl (.iload_n 2)] 138 _ _ (by decide +kernel) rfl ?_
    refine aw_iald (j := y) (by decide +kernel) rfl (by omega) (by omega) (fun r144 => ?_)
    refine aw_blk (pc' := 150) (ls' := [some (vr 7 0), some (vi (x : Int)), some (vi (y : Int)), some (vi bi), some (vi (k : Int))]) (st' := [vi (x : Int), vr 7 2, vi ((va_up se y (ta k)) y), vr 7 0]) [.inl (.aload_n 0), .inr (15, 7, 1), .inl (.iload_n 1)] 145 _ _ (by decide +kernel) rfl ?_
    rw [va_eq]
    by_cases ok : okB S A Bl (ta k) = true
    · have eB : exB S n m b0 4 A Bl = ext S n m b0 4 A (Bl ++ [ta k]) (ta k) := by unfold exB; rw [ek, if_pos ⟨by omega, ok⟩]
      rw [eB] at hq
      have hlen : (Bl ++ [ta k]).length = y + 1 := by rw [List.length_append, hy]; rfl
      have hp := pre_fB hV.1 p5
      rw [hx] at hp
      refine aw_dV (cs' := 0) (sl' := 0) (pc' := 153) (st' := [vi 1]) (idx := 72) (as := [vi (ta k), vr 7 2, vi (x : Int)]) (st := []) (m_D_take_fi_1 (y := x) s1.1 s1.2.1 hp (by omega) (by omega) (fun i hi => by have := htl i hi; omega) (by rw [← hx]; exact (tkB hS hP hV).mpr ok)) (by decide +kernel) (show vOK "ChanceBench$Dice" 72 M_D_takeThrows 3 = true by decide +kernel) rfl rfl rfl (Nat.le_of_ble_eq_true rfl) (by decide) (by decide) (by decide) rfl rfl rfl rfl ?_
      refine aw_if_eq (o := 28) (tgt := 181) (by decide +kernel) (by decide) (by omega) (fun c => absurd c (by omega)) (fun _ => ?_)
      refine aw_blk (pc' := 163) (ls' := [some (vr 7 0), some (vi (x : Int)), some (vi (y : Int)), some (vi bi), some (vi (k : Int))]) (st' := [vi (k : Int), vi ((y : Int) + 1), vi (x : Int), vr 7 0]) [.inl (.aload_n 0), .inl (.iload_n 1), .inl (.iload_n 2), .inl (.iconst 1), .inl (.iadd), .inl (.iload 4)] 156 _ _ (by decide +kernel) rfl ?_
      have hV2 := dV_B (v := ta k) hV
      rw [hx, hy] at hV2
      refine aw_rV (cs' := 0) (sl' := 0) (pc' := 166) (idx := 61) (as := [vi (x : Int), vi ((y : Int) + 1), vi (k : Int)]) (st := []) (m_D_ext_4 (x := x) (y := y + 1) (F := F) (bar := ta k) hS (dP_B hP (by omega) (by omega) ok) hV2 hx hlen (by omega) (Or.inr ⟨k, hk, rfl, rfl⟩) (by have := hF2 (by omega); rw [show m - (y + 1) = m - y - 1 by omega]; exact this)) (by decide +kernel) (show vOK "ChanceBench$Dice" 61 (M_D_extend 4) 3 = true by decide +kernel) rfl rfl rfl (Nat.le_of_ble_eq_true rfl) (by decide) (by decide) (by decide) rfl rfl rfl (fun r163 h163 z163 => ?_)
      obtain ⟨rfl, kp2, fi2, se2, hR, rfl⟩ := z163
      have e2 : se2 y = ta k := by rw [hR.2.1 y (by omega), va_eq]
      have hag : ∀ j, j < x → fi2 j = fi j := hR.1
      refine aw_blk (pc' := 172) (ls' := [some (vr 7 0), some (vi (x : Int)), some (vi (y : Int)), some (vi bi), some (vi (k : Int))]) (st' := [vi (y : Int), vr 7 3, vr 7 0]) [.inl (.aload_n 0), .inl (.aload_n 0), .inr (18, 7, 2), .inl (.iload_n 2)] 166 _ _ (by decide +kernel) rfl ?_
      refine aw_iald (j := y) (by decide +kernel) rfl (by omega) (by omega) (fun r172 => ?_)
      refine aw_blk (pc' := 178) (ls' := [some (vr 7 0), some (vi (x : Int)), some (vi (y : Int)), some (vi bi), some (vi (k : Int))]) (st' := [vi (x : Int), vr 7 2, vi (se2 y), vr 7 0]) [.inl (.aload_n 0), .inr (15, 7, 1), .inl (.iload_n 1)] 173 _ _ (by decide +kernel) rfl ?_
      rw [e2]
      refine aw_dV (cs' := 0) (sl' := 0) (pc' := 181) (st' := []) (idx := 76) (as := [vi (ta k), vr 7 2, vi (x : Int)]) (st := []) (m_D_giveBack_fi (y := x) s1.1 s1.2.1 (fun j hj => by rw [hag j hj]; exact hp j hj) (by omega) (by omega) (dcr_in htl (by omega))) (by decide +kernel) (show vOK "ChanceBench$Dice" 76 M_D_giveBackThrows 3 = true by decide +kernel) rfl rfl rfl (Nat.le_of_ble_eq_true rfl) (by decide) (by decide) (by decide) rfl rfl rfl rfl ?_
      rw [icr_back hag]
      exact aw_vret (by decide +kernel) rfl (by decide) (by decide) (hq kp2 fi2 se2 (exR_up hR))
    · have eB : exB S n m b0 4 A Bl = [] := by unfold exB; rw [ek, if_neg (fun z => ok z.2)]
      rw [eB] at hq
      have hp := pre_fB hV.1 p5
      rw [hx] at hp
      refine aw_dV (cs' := 0) (sl' := 0) (pc' := 153) (st' := [vi 0]) (idx := 72) (as := [vi (ta k), vr 7 2, vi (x : Int)]) (st := []) (m_D_take_fi_0 (y := x) s1.1 s1.2.1 hp (by omega) (by omega) (fun i hi => by have := htl i hi; omega) (fun i hi => by have := htl i hi; omega) (by rw [← hx]; exact fun z => ok ((tkB hS hP hV).mp z))) (by decide +kernel) (show vOK "ChanceBench$Dice" 72 M_D_takeThrows 3 = true by decide +kernel) rfl rfl rfl (Nat.le_of_ble_eq_true rfl) (by decide) (by decide) (by decide) rfl rfl rfl rfl ?_
      refine aw_if_eq (o := 28) (tgt := 181) (by decide +kernel) (by decide) (by omega) (fun _ => ?_) (fun c => absurd (by omega) c)
      exact aw_vret (by decide +kernel) rfl (by decide) (by decide) (hq kp fi (va_up se y (ta k)) (exR_up ⟨fun _ _ => rfl, fun _ _ => rfl, fun _ _ => rfl, rows_nil⟩))
theorem l_D_e21_5 {Qr : Option AV → HT → Prop} {Qt : HT → Prop} (hS : dS S ta len n m b0) (hP : dP S n m b0 A Bl) (hV : dV S ta len A Bl fi se tl) (hx : A.length = x) (hy : Bl.length = y) (hb : bR ta len bi bar) (hnd : ¬ (n ≤ x ∧ m ≤ y)) (hf : (n - x) + (m - y) ≤ 5) (hF : F + pb (n - x) (m - y) ≤ 252) (hq : ∀ kp' fi' se', exR x y F kp fi se (ext S n m b0 5 A Bl bar) kp' fi' se' → Qr none (Hp b s t mk df jo tr (sgD (len : Int) ((F + (ext S n m b0 5 A Bl bar).length : Nat) : Int) (n : Int) (m : Int) kp' fi' se' ta tl) mo dy)) : AW G (M_D_extend 5) Qr Qt 0 0 21 [some (vr 7 0), some (vi (x : Int)), some (vi (y : Int)), some (vi bi), none] [] (Hp b s t mk df jo tr (sgD (len : Int) (F : Int) (n : Int) (m : Int) kp fi se ta tl) mo dy) := by
  have s1 := hS.1
  have s2 := hS.2.2.2
  have p3 := hP.2.2.1
  have p4 := hP.2.2.2.1
  have p5 := hP.2.2.2.2.1
  have p6 := hP.2.2.2.2.2.1
  have l1 := pre_len hP.1
  have l2 := pre_len hP.2.1
  have e0 : se 0 = b0 := hV.2.1 0 b0 hP.2.1
  have htl := tl_in hS hP hV
  have hbi : I32 bi := by rcases hb with ⟨z, _⟩ | ⟨i, z, q, _⟩ <;> omega
  refine aw_blk (pc' := 22) (ls' := [some (vr 7 0), some (vi (x : Int)), some (vi (y : Int)), some (vi bi), none]) (st' := [vr 7 0]) [.inl (.aload_n 0)] 21 _ _ (by decide +kernel) rfl ?_
  refine aw_dV (cs' := 0) (sl' := 0) (pc' := 25) (st' := [vi (lsI tl len 0)]) (idx := 68) (as := []) (st := []) (m_D_leastThrowLeft s1.1) (by decide +kernel) (show vOK "ChanceBench$Dice" 68 M_D_leastThrowLeft 0 = true by decide +kernel) rfl rfl rfl (Nat.le_of_ble_eq_true rfl) (by decide) (by decide) (by decide) rfl rfl rfl rfl ?_
  rcases ls_rel s1.2.1 s1.2.2 hV.2.2 (hta_R hS) with ⟨q1, q2⟩ | ⟨k, hk, q1, ek⟩
  · rw [q1]
    refine aw_blk (pc' := 30) (ls' := [some (vr 7 0), some (vi (x : Int)), some (vi (y : Int)), some (vi bi), some (vi (-1))]) (st' := [vi (-1), vi (-1)]) [.inl (.istore 4), .inl (.iload 4), .inl (.iconst (-1))] 25 _ _ (by decide +kernel) rfl ?_
    refine aw_icmp_ne (o := 4) (tgt := 34) (by decide +kernel) (by decide) (by omega) (by omega) (fun c => absurd (by omega) c) (fun _ => ?_)
    have eX : ext S n m b0 5 A Bl bar = [] := by rw [ext, if_neg (by omega), if_pos q2]
    rw [eX] at hq
    exact aw_vret (by decide +kernel) rfl (by decide) (by decide) (hq kp fi se exR_nil)
  · have hrk := hS.1.2.2 k hk
    rw [q1]
    have eX : ext S n m b0 5 A Bl bar = exA S n m b0 4 A Bl bar ++ exB S n m b0 4 A Bl := ext_s S n m b0 4 A Bl bar (by omega) (by omega)
    rw [eX] at hq
    refine aw_blk (pc' := 30) (ls' := [some (vr 7 0), some (vi (x : Int)), some (vi (y : Int)), some (vi bi), some (vi (k : Int))]) (st' := [vi (-1), vi (k : Int)]) [.inl (.istore 4), .inl (.iload 4), .inl (.iconst (-1))] 25 _ _ (by decide +kernel) rfl ?_
    refine aw_icmp_ne (o := 4) (tgt := 34) (by decide +kernel) (by decide) (by omega) (by omega) (fun _ => ?_) (fun c => absurd c (by omega))
    refine aw_blk (pc' := 39) (ls' := [some (vr 7 0), some (vi (x : Int)), some (vi (y : Int)), some (vi bi), some (vi (k : Int))]) (st' := [vi (n : Int), vi (x : Int)]) [.inl (.iload_n 1), .inl (.aload_n 0), .inr (34, 7, 7)] 34 _ _ (by decide +kernel) rfl ?_
    refine aw_icmp_ge (o := 71) (tgt := 110) (by decide +kernel) (by decide) (by omega) (by omega) (fun c39 => ?_) (fun c39 => ?_)
    · have eA : exA S n m b0 4 A Bl bar = [] := by unfold exA; rw [if_neg (by omega)]
      exact l_D_e110_5 hS hP hV hx hy hf hk ek (fun hlt => by have := pb_B (p := n - x) (q := m - y) (by omega); omega) (fun kp' fi' se' h9 => by rw [eA, List.nil_append] at hq; exact hq kp' fi' se' h9)
    · refine aw_blk (pc' := 45) (ls' := [some (vr 7 0), some (vi (x : Int)), some (vi (y : Int)), some (vi bi), some (vi (k : Int))]) (st' := [vi bi, vi (k : Int)]) [.inl (.iload 4), .inl (.iload_n 3)] 42 _ _ (by decide +kernel) rfl ?_
      refine aw_icmp_eq (o := 65) (tgt := 110) (by decide +kernel) (by decide) (by omega) (by omega) (fun c45 => ?_) (fun c45 => ?_)
      · have eA : exA S n m b0 4 A Bl bar = [] := by unfold exA; rw [ek, if_neg (fun z => z.2.1 (by rcases hb with ⟨z1, _⟩ | ⟨i, z1, z2, z3⟩; omega; rw [z3, show i = k by omega]))]
        exact l_D_e110_5 hS hP hV hx hy hf hk ek (fun hlt => by have := pb_B (p := n - x) (q := m - y) (by omega); omega) (fun kp' fi' se' h9 => by rw [eA, List.nil_append] at hq; exact hq kp' fi' se' h9)
      · have hne : ta k ≠ bar := fun e => by
          rcases hb with ⟨_, z2⟩ | ⟨i, z1, z2, z3⟩
          · omega
          · rw [z3] at e
            rcases Nat.lt_trichotomy k i with q | q | q
            · have := s1.2.1 k i q z1; omega
            · omega
            · have := s1.2.1 i k q hk; omega
        refine aw_blk (pc' := 59) (ls' := [some (vr 7 0), some (vi (x : Int)), some (vi (y : Int)), some (vi bi), some (vi (k : Int))]) (st' := [vi (k : Int), vr 7 4, vi (x : Int), vr 7 2]) [.inl (.aload_n 0), .inr (15, 7, 1), .inl (.iload_n 1), .inl (.aload_n 0), .inr (21, 7, 3), .inl (.iload 4)] 48 _ _ (by decide +kernel) rfl ?_
        refine aw_iald (j := k) (by decide +kernel) rfl (by omega) (by omega) (fun r59 => ?_)
        refine aw_blk (pc' := 65) (ls' := [some (vr 7 0), some (vi (x : Int)), some (vi (y : Int)), some (vi bi), some (vi (k : Int))]) (st' := [vi 0, vr 7 3, vi (ta k), vi (x : Int), vr 7 2]) [.inl (.aload_n 0), .inr (18, 7, 2), .inl (.iconst 0)] 60 _ _ (by decide +kernel) rfl ?_
        refine aw_iald (j := 0) (by decide +kernel) rfl (by omega) (by omega) (fun r65 => ?_)
        refine aw_blk (pc' := 67) (ls' := [some (vr 7 0), some (vi (x : Int)), some (vi (y : Int)), some (vi bi), some (vi (k : Int))]) (st' := [vi ((ta k) - (se 0)), vi (x : Int), vr 7 2]) [.inl (.isub)] 66 _ _ (by decide +kernel) rfl ?_
        rw [e0]
        refine aw_iast (j := x) (h' := Hp b s t mk df jo tr [some (ob 7 [vr 7 1, vr 7 2, vr 7 3, vr 7 4, vr 7 5, vi (len : Int), vi (F : Int), vi (n : Int), vi (m : Int)]), some (ar 0 3024 kp), some (ar 0 6 (va_up fi x (ta k - b0))), some (ar 0 6 se), some (ar 0 24 ta), some (ar 0 24 tl)] mo dy) (by decide +kernel) rfl rfl (by omega) (by omega) rfl ?_
        refine aw_blk (pc' := 74) (ls' := [some (vr 7 0), some (vi (x : Int)), some (vi (y : Int)), some (vi bi), some (vi (k : Int))]) (st' := [vi (x : Int), vr 7 2, vr 7 0]) [.inl (.aload_n 0), .inl (.aload_n 0), .inr (15, 7, 1), .inl (.iload_n 1)] 68 _ _ (by decide +kernel) rfl ?_
        refine aw_iald (j := x) (by decide +kernel) rfl (by omega) (by omega) (fun r74 => ?_)
        refine aw_blk (pc' := 80) (ls' := [some (vr 7 0), some (vi (x : Int)), some (vi (y : Int)), some (vi bi), some (vi (k : Int))]) (st' := [vi (y : Int), vr 7 3, vi ((va_up fi x (ta k - b0)) x), vr 7 0]) [.inl (.aload_n 0), .inr (18, 7, 2), .inl (.iload_n 2)] 75 _ _ (by decide +kernel) rfl ?_
        rw [va_eq]
        have hp := pre_fB hV.2.1 p6
        rw [hy] at hp
        by_cases ok : okA S A Bl (ta k - b0) = true
        · have eA : exA S n m b0 4 A Bl bar = ext S n m b0 4 (A ++ [ta k - b0]) Bl 6000 := by unfold exA; rw [ek, if_pos ⟨by omega, hne, ok⟩]
          rw [eA] at hq
          have hlen : (A ++ [ta k - b0]).length = x + 1 := by rw [List.length_append, hx]; rfl
          refine aw_dV (cs' := 0) (sl' := 0) (pc' := 83) (st' := [vi 1]) (idx := 72) (as := [vi (ta k - b0), vr 7 3, vi (y : Int)]) (st := []) (m_D_take_se_1 (y := y) s1.1 s1.2.1 hp (by omega) (by omega) (fun i hi => by have := htl i hi; omega) (by rw [← hy]; exact (tkA hS hP hV).mpr ok)) (by decide +kernel) (show vOK "ChanceBench$Dice" 72 M_D_takeThrows 3 = true by decide +kernel) rfl rfl rfl (Nat.le_of_ble_eq_true rfl) (by decide) (by decide) (by decide) rfl rfl rfl rfl ?_
          refine aw_if_eq (o := 27) (tgt := 110) (by decide +kernel) (by decide) (by omega) (fun c => absurd c (by omega)) (fun _ => ?_)
          refine aw_blk (pc' := 92) (ls' := [some (vr 7 0), some (vi (x : Int)), some (vi (y : Int)), some (vi bi), some (vi (k : Int))]) (st' := [vi (-1), vi (y : Int), vi ((x : Int) + 1), vr 7 0]) [.inl (.aload_n 0), .inl (.iload_n 1), .inl (.iconst 1), .inl (.iadd), .inl (.iload_n 2), .inl (.iconst (-1))] 86 _ _ (by decide +kernel) rfl ?_
          have hV2 := dV_A (v := ta k - b0) hV
          rw [hx, hy] at hV2
          refine aw_rV (cs' := 0) (sl' := 0) (pc' := 95) (idx := 61) (as := [vi ((x : Int) + 1), vi (y : Int), vi (-1)]) (st := []) (m_D_ext_4 (x := x + 1) (y := y) (F := F) (bar := 6000) hS (dP_A hP (by omega) (by omega) ok) hV2 hlen hy (by omega) (Or.inl ⟨rfl, rfl⟩) (by have := pb_A (p := n - x) (q := m - y) (by omega); rw [show n - (x + 1) = n - x - 1 by omega]; omega)) (by decide +kernel) (show vOK "ChanceBench$Dice" 61 (M_D_extend 4) 3 = true by decide +kernel) rfl rfl rfl (Nat.le_of_ble_eq_true rfl) (by decide) (by decide) (by decide) rfl rfl rfl (fun r92 h92 z92 => ?_)
          obtain ⟨rfl, kp2, fi2, se2, hR, rfl⟩ := z92
          have e2 : fi2 x = ta k - b0 := by rw [hR.1 x (by omega), va_eq]
          have hag : ∀ j, j < y → se2 j = se j := hR.2.1
          refine aw_blk (pc' := 101) (ls' := [some (vr 7 0), some (vi (x : Int)), some (vi (y : Int)), some (vi bi), some (vi (k : Int))]) (st' := [vi (x : Int), vr 7 2, vr 7 0]) [.inl (.aload_n 0), .inl (.aload_n 0), .inr (15, 7, 1), .inl (.iload_n 1)] 95 _ _ (by decide +kernel) rfl ?_
          refine aw_iald (j := x) (by decide +kernel) rfl (by omega) (by omega) (fun r101 => ?_)
          refine aw_blk (pc' := 107) (ls' := [some (vr 7 0), some (vi (x : Int)), some (vi (y : Int)), some (vi bi), some (vi (k : Int))]) (st' := [vi (y : Int), vr 7 3, vi (fi2 x), vr 7 0]) [.inl (.aload_n 0), .inr (18, 7, 2), .inl (.iload_n 2)] 102 _ _ (by decide +kernel) rfl ?_
          rw [e2]
          refine aw_dV (cs' := 0) (sl' := 0) (pc' := 110) (st' := []) (idx := 76) (as := [vi (ta k - b0), vr 7 3, vi (y : Int)]) (st := []) (m_D_giveBack_se (y := y) s1.1 s1.2.1 (fun j hj => by rw [hag j hj]; exact hp j hj) (by omega) (by omega) (dcr_in htl (by omega))) (by decide +kernel) (show vOK "ChanceBench$Dice" 76 M_D_giveBackThrows 3 = true by decide +kernel) rfl rfl rfl (Nat.le_of_ble_eq_true rfl) (by decide) (by decide) (by decide) rfl rfl rfl rfl ?_
          rw [icr_back hag]
          have hR1 := exR_upA hR
          have hV3 : dV S ta len A Bl fi2 se2 tl := ⟨pre_ext hV.1 (by rw [hx]; exact hR1.1), pre_ext hV.2.1 (by rw [hy]; exact hag), hV.2.2⟩
          have hln1 := ext_len S n m b0 4 (A ++ [ta k - b0]) Bl 6000
          rw [hlen, hy, show n - (x + 1) = n - x - 1 by omega] at hln1
          refine l_D_e110_5 (F := F + (ext S n m b0 4 (A ++ [ta k - b0]) Bl 6000).length) hS hP hV3 hx hy hf hk ek (fun hlt => by have := pb_AB (p := n - x) (q := m - y) (by omega) (by omega); omega) (fun kp' fi' se' h9 => ?_)
          have := hq kp' fi' se' (exR_app hR1 h9)
          rw [List.length_append, ← Nat.add_assoc] at this
          exact this
        · have eA : exA S n m b0 4 A Bl bar = [] := by unfold exA; rw [ek, if_neg (fun z => ok z.2.2)]
          refine aw_dV (cs' := 0) (sl' := 0) (pc' := 83) (st' := [vi 0]) (idx := 72) (as := [vi (ta k - b0), vr 7 3, vi (y : Int)]) (st := []) (m_D_take_se_0 (y := y) s1.1 s1.2.1 hp (by omega) (by omega) (fun i hi => by have := htl i hi; omega) (fun i hi => by have := htl i hi; omega) (by rw [← hy]; exact fun z => ok ((tkA hS hP hV).mp z))) (by decide +kernel) (show vOK "ChanceBench$Dice" 72 M_D_takeThrows 3 = true by decide +kernel) rfl rfl rfl (Nat.le_of_ble_eq_true rfl) (by decide) (by decide) (by decide) rfl rfl rfl rfl ?_
          refine aw_if_eq (o := 27) (tgt := 110) (by decide +kernel) (by decide) (by omega) (fun _ => ?_) (fun c => absurd (by omega) c)
          have hV3 : dV S ta len A Bl (va_up fi x (ta k - b0)) se tl := ⟨pre_ext hV.1 (fun i hi => by simp only [va_up]; rw [if_neg (by omega)]), hV.2.1, hV.2.2⟩
          refine l_D_e110_5 hS hP hV3 hx hy hf hk ek (fun hlt => by have := pb_B (p := n - x) (q := m - y) (by omega); omega) (fun kp' fi' se' h9 => ?_)
          rw [eA, List.nil_append] at hq
          exact hq kp' fi' se' ⟨fun i hi => by rw [h9.1 i hi]; simp only [va_up]; rw [if_neg (by omega)], h9.2⟩
theorem m_D_ext_5 (hS : dS S ta len n m b0) (hP : dP S n m b0 A Bl) (hV : dV S ta len A Bl fi se tl) (hx : A.length = x) (hy : Bl.length = y) (hf : (n - x) + (m - y) ≤ 5) (hb : bR ta len bi bar) (hF : F + pb (n - x) (m - y) ≤ 252) : AMet G (M_D_extend 5) [vr 7 0, vi (x : Int), vi (y : Int), vi bi] (Hp b s t mk df jo tr (sgD (len : Int) (F : Int) (n : Int) (m : Int) kp fi se ta tl) mo dy) (fun r h => r = none ∧ ∃ kp' fi' se', exR x y F kp fi se (ext S n m b0 5 A Bl bar) kp' fi' se' ∧ h = Hp b s t mk df jo tr (sgD (len : Int) ((F + (ext S n m b0 5 A Bl bar).length : Nat) : Int) (n : Int) (m : Int) kp' fi' se' ta tl) mo dy) (fun _ => False) := by
  refine am_rel (by decide +kernel) (Nat.le_of_ble_eq_true rfl) (fun Qr Qt hq => ?_)
  have hpb := pb_pos (n - x) (m - y)
  have s2 := hS.2.2.2
  have p3 := hP.2.2.1
  have p4 := hP.2.2.2.1
  refine aw_blk (pc' := 5) (ls' := [some (vr 7 0), some (vi (x : Int)), some (vi (y : Int)), some (vi bi), none]) (st' := [vi (n : Int), vi (x : Int)]) [.inl (.iload_n 1), .inl (.aload_n 0), .inr (34, 7, 7)] 0 _ _ (by decide +kernel) rfl ?_
  refine aw_icmp_lt (o := 16) (tgt := 21) (by decide +kernel) (by decide) (by omega) (by omega) (fun c5 => ?_) (fun c5 => ?_)
  · exact l_D_e21_5 hS hP hV hx hy hb (by omega) hf hF (fun kp' fi' se' h9 => hq _ _ ⟨rfl, kp', fi', se', h9, rfl⟩)
  · refine aw_blk (pc' := 13) (ls' := [some (vr 7 0), some (vi (x : Int)), some (vi (y : Int)), some (vi bi), none]) (st' := [vi (m : Int), vi (y : Int)]) [.inl (.iload_n 2), .inl (.aload_n 0), .inr (37, 7, 8)] 8 _ _ (by decide +kernel) rfl ?_
    refine aw_icmp_lt (o := 8) (tgt := 21) (by decide +kernel) (by decide) (by omega) (by omega) (fun c13 => ?_) (fun c13 => ?_)
    · exact l_D_e21_5 hS hP hV hx hy hb (by omega) hf hF (fun kp' fi' se' h9 => hq _ _ ⟨rfl, kp', fi', se', h9, rfl⟩)
    · refine aw_blk (pc' := 17) (ls' := [some (vr 7 0), some (vi (x : Int)), some (vi (y : Int)), some (vi bi), none]) (st' := [vr 7 0]) [.inl (.aload_n 0)] 16 _ _ (by decide +kernel) rfl ?_
      refine aw_dV (cs' := 0) (sl' := 0) (pc' := 20) (st' := []) (idx := 65) (as := []) (st := []) (m_D_keep (by omega)) (by decide +kernel) (show vOK "ChanceBench$Dice" 65 M_D_keep 0 = true by decide +kernel) rfl rfl rfl (Nat.le_of_ble_eq_true rfl) (by decide) (by decide) (by decide) rfl rfl rfl rfl ?_
      have eX : ext S n m b0 5 A Bl bar = [(A, Bl)] := by rw [ext, if_pos (by omega)]
      rw [eX] at hq
      exact aw_vret (by decide +kernel) rfl (by decide) (by decide) (hq _ _ ⟨rfl, kpR kp fi se F 6, fi, se, ⟨fun _ _ => rfl, fun _ _ => rfl, fun k hk => by unfold kpR; rw [if_neg (by omega), if_neg (by omega)], kp_row hV.1 hV.2.1⟩, rfl⟩)

theorem l_D_e110_6 {Qr : Option AV → HT → Prop} {Qt : HT → Prop} (hS : dS S ta len n m b0) (hP : dP S n m b0 A Bl) (hV : dV S ta len A Bl fi se tl) (hx : A.length = x) (hy : Bl.length = y) (hf : (n - x) + (m - y) ≤ 6) (hk : k < len) (ek : lsU (rem_ S A Bl) = ta k) (hF2 : y < m → F + pb (n - x) (m - y - 1) ≤ 252) (hq : ∀ kp' fi' se', exR x y F kp fi se (exB S n m b0 5 A Bl) kp' fi' se' → Qr none (Hp b s t mk df jo tr (sgD (len : Int) ((F + (exB S n m b0 5 A Bl).length : Nat) : Int) (n : Int) (m : Int) kp' fi' se' ta tl) mo dy)) : AW G (M_D_extend 6) Qr Qt 0 0 110 [some (vr 7 0), some (vi (x : Int)), some (vi (y : Int)), some (vi bi), some (vi (k : Int))] [] (Hp b s t mk df jo tr (sgD (len : Int) (F : Int) (n : Int) (m : Int) kp fi se ta tl) mo dy) := by
  have s1 := hS.1
  have s2 := hS.2.2.2
  have p3 := hP.2.2.1
  have p4 := hP.2.2.2.1
  have p5 := hP.2.2.2.2.1
  have p6 := hP.2.2.2.2.2.1
  have l1 := pre_len hP.1
  have l2 := pre_len hP.2.1
  have e0 : fi 0 = 0 := hV.1 0 0 hP.1
  have hrk := hS.1.2.2 k hk
  have htl := tl_in hS hP hV
  refine aw_blk (pc' := 115) (ls' := [some (vr 7 0), some (vi (x : Int)), some (vi (y : Int)), some (vi bi), some (vi (k : Int))]) (st' := [vi (m : Int), vi (y : Int)]) [.inl (.iload_n 2), .inl (.aload_n 0), .inr (37, 7, 8)] 110 _ _ (by decide +kernel) rfl ?_
  refine aw_icmp_ge (o := 66) (tgt := 181) (by decide +kernel) (by decide) (by omega) (by omega) (fun c115 => ?_) (fun c115 => ?_)
  · have eB : exB S n m b0 5 A Bl = [] := by unfold exB; rw [if_neg (by omega)]
    rw [eB] at hq
    exact aw_vret (by decide +kernel) rfl (by decide) (by decide) (hq kp fi se exR_nil)
  · refine aw_blk (pc' := 129) (ls' := [some (vr 7 0), some (vi (x : Int)), some (vi (y : Int)), some (vi bi), some (vi (k : Int))]) (st' := [vi (k : Int), vr 7 4, vi (y : Int), vr 7 3]) [.inl (.aload_n 0), .inr (18, 7, 2), .inl (.iload_n 2), .inl (.aload_n 0), .inr (21, 7, 3), .inl (.iload 4)] 118 _ _ (by decide +kernel) rfl ?_
    refine aw_iald (j := k) (by decide +kernel) rfl (by omega) (by omega) (fun r129 => ?_)
    refine aw_blk (pc' := 135) (ls' := [some (vr 7 0), some (vi (x : Int)), some (vi (y : Int)), some (vi bi), some (vi (k : Int))]) (st' := [vi 0, vr 7 2, vi (ta k), vi (y : Int), vr 7 3]) [.inl (.aload_n 0), .inr (15, 7, 1), .inl (.iconst 0)] 130 _ _ (by decide +kernel) rfl ?_
    refine aw_iald (j := 0) (by decide +kernel) rfl (by omega) (by omega) (fun r135 => ?_)
    refine aw_blk (pc' := 137) (ls' := [some (vr 7 0), some (vi (x : Int)), some (vi (y : Int)), some (vi bi), some (vi (k : Int))]) (st' := [vi ((ta k) - (fi 0)), vi (y : Int), vr 7 3]) [.inl (.isub)] 136 _ _ (by decide +kernel) rfl ?_
    rw [show ta k - fi 0 = ta k by omega]
    refine aw_iast (j := y) (h' := Hp b s t mk df jo tr [some (ob 7 [vr 7 1, vr 7 2, vr 7 3, vr 7 4, vr 7 5, vi (len : Int), vi (F : Int), vi (n : Int), vi (m : Int)]), some (ar 0 3024 kp), some (ar 0 6 fi), some (ar 0 6 (va_up se y (ta k))), some (ar 0 24 ta), some (ar 0 24 tl)] mo dy) (by decide +kernel) rfl rfl (by omega) (by omega) rfl ?_
    refine aw_blk (pc' := 144) (ls' := [some (vr 7 0), some (vi (x : Int)), some (vi (y : Int)), some (vi bi), some (vi (k : Int))]) (st' := [vi (y : Int), vr 7 3, vr 7 0]) [.inl (.aload_n 0), .inl (.aload_n 0), .inr (18, 7, 2), .inl (.iload_n 2)] 138 _ _ (by decide +kernel) rfl ?_
    refine aw_iald (j := y) (by decide +kernel) rfl (by omega) (by omega) (fun r144 => ?_)
    refine aw_blk (pc' := 150) (ls' := [some (vr 7 0), some (vi (x : Int)), some (vi (y : Int)), some (vi bi), some (vi (k : Int))]) (st' := [vi (x : Int), vr 7 2, vi ((va_up se y (ta k)) y), vr 7 0]) [.inl (.aload_n 0), .inr (15, 7, 1), .inl (.iload_n 1)] 145 _ _ (by decide +kernel) rfl ?_
    rw [va_eq]
    by_cases ok : okB S A Bl (ta k) = true
    · have eB : exB S n m b0 5 A Bl = ext S n m b0 5 A (Bl ++ [ta k]) (ta k) := by unfold exB; rw [ek, if_pos ⟨by omega, ok⟩]
      rw [eB] at hq
      have hlen : (Bl ++ [ta k]).length = y + 1 := by rw [List.length_append, hy]; rfl
      have hp := pre_fB hV.1 p5
      rw [hx] at hp
      refine aw_dV (cs' := 0) (sl' := 0) (pc' := 153) (st' := [vi 1]) (idx := 72) (as := [vi (ta k), vr 7 2, vi (x : Int)]) (st := []) (m_D_take_fi_1 (y := x) s1.1 s1.2.1 hp (by omega) (by omega) (fun i hi => by have := htl i hi; omega) (by rw [← hx]; exact (tkB hS hP hV).mpr ok)) (by decide +kernel) (show vOK "ChanceBench$Dice" 72 M_D_takeThrows 3 = true by decide +kernel) rfl rfl rfl (Nat.le_of_ble_eq_true rfl) (by decide) (by decide) (by decide) rfl rfl rfl rfl ?_
      refine aw_if_eq (o := 28) (tgt := 181) (by decide +kernel) (by decide) (by omega) (fun c => absurd c (by omega)) (fun _ => ?_)
      refine aw_blk (pc' := 163) (ls' := [some (vr 7 0), some (vi (x : Int)), some (vi (y : Int)), some (vi bi), some (vi (k : Int))]) (st' := [vi (k : Int), vi ((y : Int) + 1), vi (x : Int), vr 7 0]) [.inl (.aload_n 0), .inl (.iload_n 1), .inl (.iload_n 2), .inl (.iconst 1), .inl (.iadd), .inl (.iload 4)] 156 _ _ (by decide +kernel) rfl ?_
      have hV2 := dV_B (v := ta k) hV
      rw [hx, hy] at hV2
      refine aw_rV (cs' := 0) (sl' := 0) (pc' := 166) (idx := 61) (as := [vi (x : Int), vi ((y : Int) + 1), vi (k : Int)]) (st := []) (m_D_ext_5 (x := x) (y := y + 1) (F := F) (bar := ta k) hS (dP_B hP (by omega) (by omega) ok) hV2 hx hlen (by omega) (Or.inr ⟨k, hk, rfl, rfl⟩) (by have := hF2 (by omega); rw [show m - (y + 1) = m - y - 1 by omega]; exact this)) (by decide +kernel) (show vOK "ChanceBench$Dice" 61 (M_D_extend 5) 3 = true by decide +kernel) rfl rfl rfl (Nat.le_of_ble_eq_true rfl) (by decide) (by decide) (by decide) rfl rfl rfl (fun r163 h163 z163 => ?_)
      obtain ⟨rfl, kp2, fi2, se2, hR, rfl⟩ := z163
      have e2 : se2 y = ta k := by rw [hR.2.1 y (by omega), va_eq]
      have hag : ∀ j, j < x → fi2 j = fi j := hR.1
      refine aw_blk (pc' := 172) (ls' := [some (vr 7 0), some (vi (x : Int)), some (vi (y : Int)), some (vi bi), some (vi (k : Int))]) (st' := [vi (y : Int), vr 7 3, vr 7 0]) [.inl (.aload_n 0), .inl (.aload_n 0), .inr (18, 7, 2), .inl (.iload_n 2)] 166 _ _ (by decide +kernel) rfl ?_
      refine aw_iald (j := y) (by decide +kernel) rfl (by omega) (by omega) (fun r172 => ?_)
      refine aw_blk (pc' := 178) (ls' := [some (vr 7 0), some (vi (x : Int)), some (vi (y : Int)), some (vi bi), some (vi (k : Int))]) (st' := [vi (x : Int), vr 7 2, vi (se2 y), vr 7 0]) [.inl (.aload_n 0), .inr (15, 7, 1), .inl (.iload_n 1)] 173 _ _ (by decide +kernel) rfl ?_
      rw [e2]
      refine aw_dV (cs' := 0) (sl' := 0) (pc' := 181) (st' := []) (idx := 76) (as := [vi (ta k), vr 7 2, vi (x : Int)]) (st := []) (m_D_giveBack_fi (y := x) s1.1 s1.2.1 (fun j hj => by rw [hag j hj]; exact hp j hj) (by omega) (by omega) (dcr_in htl (by omega))) (by decide +kernel) (show vOK "ChanceBench$Dice" 76 M_D_giveBackThrows 3 = true by decide +kernel) rfl rfl rfl (Nat.le_of_ble_eq_true rfl) (by decide) (by decide) (by decide) rfl rfl rfl rfl ?_
      rw [icr_back hag]
      exact aw_vret (by decide +kernel) rfl (by decide) (by decide) (hq kp2 fi2 se2 (exR_up hR))
    · have eB : exB S n m b0 5 A Bl = [] := by unfold exB; rw [ek, if_neg (fun z => ok z.2)]
      rw [eB] at hq
      have hp := pre_fB hV.1 p5
      rw [hx] at hp
      refine aw_dV (cs' := 0) (sl' := 0) (pc' := 153) (st' := [vi 0]) (idx := 72) (as := [vi (ta k), vr 7 2, vi (x : Int)]) (st := []) (m_D_take_fi_0 (y := x) s1.1 s1.2.1 hp (by omega) (by omega) (fun i hi => by have := htl i hi; omega) (fun i hi => by have := htl i hi; omega) (by rw [← hx]; exact fun z => ok ((tkB hS hP hV).mp z))) (by decide +kernel) (show vOK "ChanceBench$Dice" 72 M_D_takeThrows 3 = true by decide +kernel) rfl rfl rfl (Nat.le_of_ble_eq_true rfl) (by decide) (by decide) (by decide) rfl rfl rfl rfl ?_
      refine aw_if_eq (o := 28) (tgt := 181) (by decide +kernel) (by decide) (by omega) (fun _ => ?_) (fun c => absurd (by omega) c)
      exact aw_vret (by decide +kernel) rfl (by decide) (by decide) (hq kp fi (va_up se y (ta k)) (exR_up ⟨fun _ _ => rfl, fun _ _ => rfl, fun _ _ => rfl, rows_nil⟩))
theorem l_D_e21_6 {Qr : Option AV → HT → Prop} {Qt : HT → Prop} (hS : dS S ta len n m b0) (hP : dP S n m b0 A Bl) (hV : dV S ta len A Bl fi se tl) (hx : A.length = x) (hy : Bl.length = y) (hb : bR ta len bi bar) (hnd : ¬ (n ≤ x ∧ m ≤ y)) (hf : (n - x) + (m - y) ≤ 6) (hF : F + pb (n - x) (m - y) ≤ 252) (hq : ∀ kp' fi' se', exR x y F kp fi se (ext S n m b0 6 A Bl bar) kp' fi' se' → Qr none (Hp b s t mk df jo tr (sgD (len : Int) ((F + (ext S n m b0 6 A Bl bar).length : Nat) : Int) (n : Int) (m : Int) kp' fi' se' ta tl) mo dy)) : AW G (M_D_extend 6) Qr Qt 0 0 21 [some (vr 7 0), some (vi (x : Int)), some (vi (y : Int)), some (vi bi), none] [] (Hp b s t mk df jo tr (sgD (len : Int) (F : Int) (n : Int) (m : Int) kp fi se ta tl) mo dy) := by
  have s1 := hS.1
  have s2 := hS.2.2.2
  have p3 := hP.2.2.1
  have p4 := hP.2.2.2.1
  have p5 := hP.2.2.2.2.1
  have p6 := hP.2.2.2.2.2.1
  have l1 := pre_len hP.1
  have l2 := pre_len hP.2.1
  have e0 : se 0 = b0 := hV.2.1 0 b0 hP.2.1
  have htl := tl_in hS hP hV
  have hbi : I32 bi := by rcases hb with ⟨z, _⟩ | ⟨i, z, q, _⟩ <;> omega
  refine aw_blk (pc' := 22) (ls' := [some (vr 7 0), some (vi (x : Int)), some (vi (y : Int)), some (vi bi), none]) (st' := [vr 7 0]) [.inl (.aload_n 0)] 21 _ _ (by decide +kernel) rfl ?_
  refine aw_dV (cs' := 0) (sl' := 0) (pc' := 25) (st' := [vi (lsI tl len 0)]) (idx := 68) (as := []) (st := []) (m_D_leastThrowLeft s1.1) (by decide +kernel) (show vOK "ChanceBench$Dice" 68 M_D_leastThrowLeft 0 = true by decide +kernel) rfl rfl rfl (Nat.le_of_ble_eq_true rfl) (by decide) (by decide) (by decide) rfl rfl rfl rfl ?_
  rcases ls_rel s1.2.1 s1.2.2 hV.2.2 (hta_R hS) with ⟨q1, q2⟩ | ⟨k, hk, q1, ek⟩
  · rw [q1]
    refine aw_blk (pc' := 30) (ls' := [some (vr 7 0), some (vi (x : Int)), some (vi (y : Int)), some (vi bi), some (vi (-1))]) (st' := [vi (-1), vi (-1)]) [.inl (.istore 4), .inl (.iload 4), .inl (.iconst (-1))] 25 _ _ (by decide +kernel) rfl ?_
    refine aw_icmp_ne (o := 4) (tgt := 34) (by decide +kernel) (by decide) (by omega) (by omega) (fun c => absurd (by omega) c) (fun _ => ?_)
    have eX : ext S n m b0 6 A Bl bar = [] := by rw [ext, if_neg (by omega), if_pos q2]
    rw [eX] at hq
    exact aw_vret (by decide +kernel) rfl (by decide) (by decide) (hq kp fi se exR_nil)
  · have hrk := hS.1.2.2 k hk
    rw [q1]
    have eX : ext S n m b0 6 A Bl bar = exA S n m b0 5 A Bl bar ++ exB S n m b0 5 A Bl := ext_s S n m b0 5 A Bl bar (by omega) (by omega)
    rw [eX] at hq
    refine aw_blk (pc' := 30) (ls' := [some (vr 7 0), some (vi (x : Int)), some (vi (y : Int)), some (vi bi), some (vi (k : Int))]) (st' := [vi (-1), vi (k : Int)]) [.inl (.istore 4), .inl (.iload 4), .inl (.iconst (-1))] 25 _ _ (by decide +kernel) rfl ?_
    refine aw_icmp_ne (o := 4) (tgt := 34) (by decide +kernel) (by decide) (by omega) (by omega) (fun _ => ?_) (fun c => absurd c (by omega))
    refine aw_blk (pc' := 39) (ls' := [some (vr 7 0), some (vi (x : Int)), some (vi (y : Int)), some (vi bi), some (vi (k : Int))]) (st' := [vi (n : Int), vi (x : Int)]) [.inl (.iload_n 1), .inl (.aload_n 0), .inr (34, 7, 7)] 34 _ _ (by decide +kernel) rfl ?_
    refine aw_icmp_ge (o := 71) (tgt := 110) (by decide +kernel) (by decide) (by omega) (by omega) (fun c39 => ?_) (fun c39 => ?_)
    · have eA : exA S n m b0 5 A Bl bar = [] := by unfold exA; rw [if_neg (by omega)]
      exact l_D_e110_6 hS hP hV hx hy hf hk ek (fun hlt => by have := pb_B (p := n - x) (q := m - y) (by omega); omega) (fun kp' fi' se' h9 => by rw [eA, List.nil_append] at hq; exact hq kp' fi' se' h9)
    · refine aw_blk (pc' := 45) (ls' := [some (vr 7 0), some (vi (x : Int)), some (vi (y : Int)), some (vi bi), some (vi (k : Int))]) (st' := [vi bi, vi (k : Int)]) [.inl (.iload 4), .inl (.iload_n 3)] 42 _ _ (by decide +kernel) rfl ?_
      refine aw_icmp_eq (o := 65) (tgt := 110) (by decide +kernel) (by decide) (by omega) (by omega) (fun c45 => ?_) (fun c45 => ?_)
      · have eA : exA S n m b0 5 A Bl bar = [] := by unfold exA; rw [ek, if_neg (fun z => z.2.1 (by rcases hb with ⟨z1, _⟩ | ⟨i, z1, z2, z3⟩; omega; rw [z3, show i = k by omega]))]
        exact l_D_e110_6 hS hP hV hx hy hf hk ek (fun hlt => by have := pb_B (p := n - x) (q := m - y) (by omega); omega) (fun kp' fi' se' h9 => by rw [eA, List.nil_append] at hq; exact hq kp' fi' se' h9)
      · have hne : ta k ≠ bar := fun e => by
          rcases hb with ⟨_, z2⟩ | ⟨i, z1, z2, z3⟩
          · omega
          · rw [z3] at e
            rcases Nat.lt_trichotomy k i with q | q | q
            · have := s1.2.1 k i q z1; omega
            · omega
            · have := s1.2.1 i k q hk; omega
        refine aw_blk (pc' := 59) (ls' := [some (vr 7 0), some (vi (x : Int)), some (vi (y : Int)), some (vi bi), some (vi (k : Int))]) (st' := [vi (k : Int), vr 7 4, vi (x : Int), vr 7 2]) [.inl (.aload_n 0), .inr (15, 7, 1), .inl (.iload_n 1), .inl (.aload_n 0), .inr (21, 7, 3), .inl (.iload 4)] 48 _ _ (by decide +kernel) rfl ?_
        refine aw_iald (j := k) (by decide +kernel) rfl (by omega) (by omega) (fun r59 => ?_)
        refine aw_blk (pc' := 65) (ls' := [some (vr 7 0), some (vi (x : Int)), some (vi (y : Int)), some (vi bi), some (vi (k : Int))]) (st' := [vi 0, vr 7 3, vi (ta k), vi (x : Int), vr 7 2]) [.inl (.aload_n 0), .inr (18, 7, 2), .inl (.iconst 0)] 60 _ _ (by decide +kernel) rfl ?_
        refine aw_iald (j := 0) (by decide +kernel) rfl (by omega) (by omega) (fun r65 => ?_)
        refine aw_blk (pc' := 67) (ls' := [some (vr 7 0), some (vi (x : Int)), some (vi (y : Int)), some (vi bi), some (vi (k : Int))]) (st' := [vi ((ta k) - (se 0)), vi (x : Int), vr 7 2]) [.inl (.isub)] 66 _ _ (by decide +kernel) rfl ?_
        rw [e0]
        refine aw_iast (j := x) (h' := Hp b s t mk df jo tr [some (ob 7 [vr 7 1, vr 7 2, vr 7 3, vr 7 4, vr 7 5, vi (len : Int), vi (F : Int), vi (n : Int), vi (m : Int)]), some (ar 0 3024 kp), some (ar 0 6 (va_up fi x (ta k - b0))), some (ar 0 6 se), some (ar 0 24 ta), some (ar 0 24 tl)] mo dy) (by decide +kernel) rfl rfl (by omega) (by omega) rfl ?_
        refine aw_blk (pc' := 74) (ls' := [some (vr 7 0), some (vi (x : Int)), some (vi (y : Int)), some (vi bi), some (vi (k : Int))]) (st' := [vi (x : Int), vr 7 2, vr 7 0]) [.inl (.aload_n 0), .inl (.aload_n 0), .inr (15, 7, 1), .inl (.iload_n 1)] 68 _ _ (by decide +kernel) rfl ?_
        refine aw_iald (j := x) (by decide +kernel) rfl (by omega) (by omega) (fun r74 => ?_)
        refine aw_blk (pc' := 80) (ls' := [some (vr 7 0), some (vi (x : Int)), some (vi (y : Int)), some (vi bi), some (vi (k : Int))]) (st' := [vi (y : Int), vr 7 3, vi ((va_up fi x (ta k - b0)) x), vr 7 0]) [.inl (.aload_n 0), .inr (18, 7, 2), .inl (.iload_n 2)] 75 _ _ (by decide +kernel) rfl ?_
        rw [va_eq]
        have hp := pre_fB hV.2.1 p6
        rw [hy] at hp
        by_cases ok : okA S A Bl (ta k - b0) = true
        · have eA : exA S n m b0 5 A Bl bar = ext S n m b0 5 (A ++ [ta k - b0]) Bl 6000 := by unfold exA; rw [ek, if_pos ⟨by omega, hne, ok⟩]
          rw [eA] at hq
          have hlen : (A ++ [ta k - b0]).length = x + 1 := by rw [List.length_append, hx]; rfl
          refine aw_dV (cs' := 0) (sl' := 0) (pc' := 83) (st' := [vi 1]) (idx := 72) (as := [vi (ta k - b0), vr 7 3, vi (y : Int)]) (st := []) (m_D_take_se_1 (y := y) s1.1 s1.2.1 hp (by omega) (by omega) (fun i hi => by have := htl i hi; omega) (by rw [← hy]; exact (tkA hS hP hV).mpr ok)) (by decide +kernel) (show vOK "ChanceBench$Dice" 72 M_D_takeThrows 3 = true by decide +kernel) rfl rfl rfl (Nat.le_of_ble_eq_true rfl) (by decide) (by decide) (by decide) rfl rfl rfl rfl ?_
          refine aw_if_eq (o := 27) (tgt := 110) (by decide +kernel) (by decide) (by omega) (fun c => absurd c (by omega)) (fun _ => ?_)
          refine aw_blk (pc' := 92) (ls' := [some (vr 7 0), some (vi (x : Int)), some (vi (y : Int)), some (vi bi), some (vi (k : Int))]) (st' := [vi (-1), vi (y : Int), vi ((x : Int) + 1), vr 7 0]) [.inl (.aload_n 0), .inl (.iload_n 1), .inl (.iconst 1), .inl (.iadd), .inl (.iload_n 2), .inl (.iconst (-1))] 86 _ _ (by decide +kernel) rfl ?_
          have hV2 := dV_A (v := ta k - b0) hV
          rw [hx, hy] at hV2
          refine aw_rV (cs' := 0) (sl' := 0) (pc' := 95) (idx := 61) (as := [vi ((x : Int) + 1), vi (y : Int), vi (-1)]) (st := []) (m_D_ext_5 (x := x + 1) (y := y) (F := F) (bar := 6000) hS (dP_A hP (by omega) (by omega) ok) hV2 hlen hy (by omega) (Or.inl ⟨rfl, rfl⟩) (by have := pb_A (p := n - x) (q := m - y) (by omega); rw [show n - (x + 1) = n - x - 1 by omega]; omega)) (by decide +kernel) (show vOK "ChanceBench$Dice" 61 (M_D_extend 5) 3 = true by decide +kernel) rfl rfl rfl (Nat.le_of_ble_eq_true rfl) (by decide) (by decide) (by decide) rfl rfl rfl (fun r92 h92 z92 => ?_)
          obtain ⟨rfl, kp2, fi2, se2, hR, rfl⟩ := z92
          have e2 : fi2 x = ta k - b0 := by rw [hR.1 x (by omega), va_eq]
          have hag : ∀ j, j < y → se2 j = se j := hR.2.1
          refine aw_blk (pc' := 101) (ls' := [some (vr 7 0), some (vi (x : Int)), some (vi (y : Int)), some (vi bi), some (vi (k : Int))]) (st' := [vi (x : Int), vr 7 2, vr 7 0]) [.inl (.aload_n 0), .inl (.aload_n 0), .inr (15, 7, 1), .inl (.iload_n 1)] 95 _ _ (by decide +kernel) rfl ?_
          refine aw_iald (j := x) (by decide +kernel) rfl (by omega) (by omega) (fun r101 => ?_)
          refine aw_blk (pc' := 107) (ls' := [some (vr 7 0), some (vi (x : Int)), some (vi (y : Int)), some (vi bi), some (vi (k : Int))]) (st' := [vi (y : Int), vr 7 3, vi (fi2 x), vr 7 0]) [.inl (.aload_n 0), .inr (18, 7, 2), .inl (.iload_n 2)] 102 _ _ (by decide +kernel) rfl ?_
          rw [e2]
          refine aw_dV (cs' := 0) (sl' := 0) (pc' := 110) (st' := []) (idx := 76) (as := [vi (ta k - b0), vr 7 3, vi (y : Int)]) (st := []) (m_D_giveBack_se (y := y) s1.1 s1.2.1 (fun j hj => by rw [hag j hj]; exact hp j hj) (by omega) (by omega) (dcr_in htl (by omega))) (by decide +kernel) (show vOK "ChanceBench$Dice" 76 M_D_giveBackThrows 3 = true by decide +kernel) rfl rfl rfl (Nat.le_of_ble_eq_true rfl) (by decide) (by decide) (by decide) rfl rfl rfl rfl ?_
          rw [icr_back hag]
          have hR1 := exR_upA hR
          have hV3 : dV S ta len A Bl fi2 se2 tl := ⟨pre_ext hV.1 (by rw [hx]; exact hR1.1), pre_ext hV.2.1 (by rw [hy]; exact hag), hV.2.2⟩
          have hln1 := ext_len S n m b0 5 (A ++ [ta k - b0]) Bl 6000
          rw [hlen, hy, show n - (x + 1) = n - x - 1 by omega] at hln1
          refine l_D_e110_6 (F := F + (ext S n m b0 5 (A ++ [ta k - b0]) Bl 6000).length) hS hP hV3 hx hy hf hk ek (fun hlt => by have := pb_AB (p := n - x) (q := m - y) (by omega) (by omega); omega) (fun kp' fi' se' h9 => ?_)
          have := hq kp' fi' se' (exR_app hR1 h9)
          rw [List.length_append, ← Nat.add_assoc] at this
          exact this
        · have eA : exA S n m b0 5 A Bl bar = [] := by unfold exA; rw [ek, if_neg (fun z => ok z.2.2)]
          refine aw_dV (cs' := 0) (sl' := 0) (pc' := 83) (st' := [vi 0]) (idx := 72) (as := [vi (ta k - b0), vr 7 3, vi (y : Int)]) (st := []) (m_D_take_se_0 (y := y) s1.1 s1.2.1 hp (by omega) (by omega) (fun i hi => by have := htl i hi; omega) (fun i hi => by have := htl i hi; omega) (by rw [← hy]; exact fun z => ok ((tkA hS hP hV).mp z))) (by decide +kernel) (show vOK "ChanceBench$Dice" 72 M_D_takeThrows 3 = true by decide +kernel) rfl rfl rfl (Nat.le_of_ble_eq_true rfl) (by decide) (by decide) (by decide) rfl rfl rfl rfl ?_
          refine aw_if_eq (o := 27) (tgt := 110) (by decide +kernel) (by decide) (by omega) (fun _ => ?_) (fun c => absurd (by omega) c)
          have hV3 : dV S ta len A Bl (va_up fi x (ta k - b0)) se tl := ⟨pre_ext hV.1 (fun i hi => by simp only [va_up]; rw [if_neg (by omega)]), hV.2.1, hV.2.2⟩
          refine l_D_e110_6 hS hP hV3 hx hy hf hk ek (fun hlt => by have := pb_B (p := n - x) (q := m - y) (by omega); omega) (fun kp' fi' se' h9 => ?_)
          rw [eA, List.nil_append] at hq
          exact hq kp' fi' se' ⟨fun i hi => by rw [h9.1 i hi]; simp only [va_up]; rw [if_neg (by omega)], h9.2⟩
theorem m_D_ext_6 (hS : dS S ta len n m b0) (hP : dP S n m b0 A Bl) (hV : dV S ta len A Bl fi se tl) (hx : A.length = x) (hy : Bl.length = y) (hf : (n - x) + (m - y) ≤ 6) (hb : bR ta len bi bar) (hF : F + pb (n - x) (m - y) ≤ 252) : AMet G (M_D_extend 6) [vr 7 0, vi (x : Int), vi (y : Int), vi bi] (Hp b s t mk df jo tr (sgD (len : Int) (F : Int) (n : Int) (m : Int) kp fi se ta tl) mo dy) (fun r h => r = none ∧ ∃ kp' fi' se', exR x y F kp fi se (ext S n m b0 6 A Bl bar) kp' fi' se' ∧ h = Hp b s t mk df jo tr (sgD (len : Int) ((F + (ext S n m b0 6 A Bl bar).length : Nat) : Int) (n : Int) (m : Int) kp' fi' se' ta tl) mo dy) (fun _ => False) := by
  refine am_rel (by decide +kernel) (Nat.le_of_ble_eq_true rfl) (fun Qr Qt hq => ?_)
  have hpb := pb_pos (n - x) (m - y)
  have s2 := hS.2.2.2
  have p3 := hP.2.2.1
  have p4 := hP.2.2.2.1
  refine aw_blk (pc' := 5) (ls' := [some (vr 7 0), some (vi (x : Int)), some (vi (y : Int)), some (vi bi), none]) (st' := [vi (n : Int), vi (x : Int)]) [.inl (.iload_n 1), .inl (.aload_n 0), .inr (34, 7, 7)] 0 _ _ (by decide +kernel) rfl ?_
  refine aw_icmp_lt (o := 16) (tgt := 21) (by decide +kernel) (by decide) (by omega) (by omega) (fun c5 => ?_) (fun c5 => ?_)
  · exact l_D_e21_6 hS hP hV hx hy hb (by omega) hf hF (fun kp' fi' se' h9 => hq _ _ ⟨rfl, kp', fi', se', h9, rfl⟩)
  · refine aw_blk (pc' := 13) (ls' := [some (vr 7 0), some (vi (x : Int)), some (vi (y : Int)), some (vi bi), none]) (st' := [vi (m : Int), vi (y : Int)]) [.inl (.iload_n 2), .inl (.aload_n 0), .inr (37, 7, 8)] 8 _ _ (by decide +kernel) rfl ?_
    refine aw_icmp_lt (o := 8) (tgt := 21) (by decide +kernel) (by decide) (by omega) (by omega) (fun c13 => ?_) (fun c13 => ?_)
    · exact l_D_e21_6 hS hP hV hx hy hb (by omega) hf hF (fun kp' fi' se' h9 => hq _ _ ⟨rfl, kp', fi', se', h9, rfl⟩)
    · refine aw_blk (pc' := 17) (ls' := [some (vr 7 0), some (vi (x : Int)), some (vi (y : Int)), some (vi bi), none]) (st' := [vr 7 0]) [.inl (.aload_n 0)] 16 _ _ (by decide +kernel) rfl ?_
      refine aw_dV (cs' := 0) (sl' := 0) (pc' := 20) (st' := []) (idx := 65) (as := []) (st := []) (m_D_keep (by omega)) (by decide +kernel) (show vOK "ChanceBench$Dice" 65 M_D_keep 0 = true by decide +kernel) rfl rfl rfl (Nat.le_of_ble_eq_true rfl) (by decide) (by decide) (by decide) rfl rfl rfl rfl ?_
      have eX : ext S n m b0 6 A Bl bar = [(A, Bl)] := by rw [ext, if_pos (by omega)]
      rw [eX] at hq
      exact aw_vret (by decide +kernel) rfl (by decide) (by decide) (hq _ _ ⟨rfl, kpR kp fi se F 6, fi, se, ⟨fun _ _ => rfl, fun _ _ => rfl, fun k hk => by unfold kpR; rw [if_neg (by omega), if_neg (by omega)], kp_row hV.1 hV.2.1⟩, rfl⟩)

theorem l_D_e110_7 {Qr : Option AV → HT → Prop} {Qt : HT → Prop} (hS : dS S ta len n m b0) (hP : dP S n m b0 A Bl) (hV : dV S ta len A Bl fi se tl) (hx : A.length = x) (hy : Bl.length = y) (hf : (n - x) + (m - y) ≤ 7) (hk : k < len) (ek : lsU (rem_ S A Bl) = ta k) (hF2 : y < m → F + pb (n - x) (m - y - 1) ≤ 252) (hq : ∀ kp' fi' se', exR x y F kp fi se (exB S n m b0 6 A Bl) kp' fi' se' → Qr none (Hp b s t mk df jo tr (sgD (len : Int) ((F + (exB S n m b0 6 A Bl).length : Nat) : Int) (n : Int) (m : Int) kp' fi' se' ta tl) mo dy)) : AW G (M_D_extend 7) Qr Qt 0 0 110 [some (vr 7 0), some (vi (x : Int)), some (vi (y : Int)), some (vi bi), some (vi (k : Int))] [] (Hp b s t mk df jo tr (sgD (len : Int) (F : Int) (n : Int) (m : Int) kp fi se ta tl) mo dy) := by
  have s1 := hS.1
  have s2 := hS.2.2.2
  have p3 := hP.2.2.1
  have p4 := hP.2.2.2.1
  have p5 := hP.2.2.2.2.1
  have p6 := hP.2.2.2.2.2.1
  have l1 := pre_len hP.1
  have l2 := pre_len hP.2.1
  have e0 : fi 0 = 0 := hV.1 0 0 hP.1
  have hrk := hS.1.2.2 k hk
  have htl := tl_in hS hP hV
  refine aw_blk (pc' := 115) (ls' := [some (vr 7 0), some (vi (x : Int)), some (vi (y : Int)), some (vi bi), some (vi (k : Int))]) (st' := [vi (m : Int), vi (y : Int)]) [.inl (.iload_n 2), .inl (.aload_n 0), .inr (37, 7, 8)] 110 _ _ (by decide +kernel) rfl ?_
  refine aw_icmp_ge (o := 66) (tgt := 181) (by decide +kernel) (by decide) (by omega) (by omega) (fun c115 => ?_) (fun c115 => ?_)
  · have eB : exB S n m b0 6 A Bl = [] := by unfold exB; rw [if_neg (by omega)]
    rw [eB] at hq
    exact aw_vret (by decide +kernel) rfl (by decide) (by decide) (hq kp fi se exR_nil)
  · refine aw_blk (pc' := 129) (ls' := [some (vr 7 0), some (vi (x : Int)), some (vi (y : Int)), some (vi bi), some (vi (k : Int))]) (st' := [vi (k : Int), vr 7 4, vi (y : Int), vr 7 3]) [.inl (.aload_n 0), .inr (18, 7, 2), .inl (.iload_n 2), .inl (.aload_n 0), .inr (21, 7, 3), .inl (.iload 4)] 118 _ _ (by decide +kernel) rfl ?_
    refine aw_iald (j := k) (by decide +kernel) rfl (by omega) (by omega) (fun r129 => ?_)
    refine aw_blk (pc' := 135) (ls' := [some (vr 7 0), some (vi (x : Int)), some (vi (y : Int)), some (vi bi), some (vi (k : Int))]) (st' := [vi 0, vr 7 2, vi (ta k), vi (y : Int), vr 7 3]) [.inl (.aload_n 0), .inr (15, 7, 1), .inl (.iconst 0)] 130 _ _ (by decide +kernel) rfl ?_
    refine aw_iald (j := 0) (by decide +kernel) rfl (by omega) (by omega) (fun r135 => ?_)
    refine aw_blk (pc' := 137) (ls' := [some (vr 7 0), some (vi (x : Int)), some (vi (y : Int)), some (vi bi), some (vi (k : Int))]) (st' := [vi ((ta k) - (fi 0)), vi (y : Int), vr 7 3]) [.inl (.isub)] 136 _ _ (by decide +kernel) rfl ?_
    rw [show ta k - fi 0 = ta k by omega]
    refine aw_iast (j := y) (h' := Hp b s t mk df jo tr [some (ob 7 [vr 7 1, vr 7 2, vr 7 3, vr 7 4, vr 7 5, vi (len : Int), vi (F : Int), vi (n : Int), vi (m : Int)]), some (ar 0 3024 kp), some (ar 0 6 fi), some (ar 0 6 (va_up se y (ta k))), some (ar 0 24 ta), some (ar 0 24 tl)] mo dy) (by decide +kernel) rfl rfl (by omega) (by omega) rfl ?_
    refine aw_blk (pc' := 144) (ls' := [some (vr 7 0), some (vi (x : Int)), some (vi (y : Int)), some (vi bi), some (vi (k : Int))]) (st' := [vi (y : Int), vr 7 3, vr 7 0]) [.inl (.aload_n 0), .inl (.aload_n 0), .inr (18, 7, 2), .inl (.iload_n 2)] 138 _ _ (by decide +kernel) rfl ?_
    refine aw_iald (j := y) (by decide +kernel) rfl (by omega) (by omega) (fun r144 => ?_)
    refine aw_blk (pc' := 150) (ls' := [some (vr 7 0), some (vi (x : Int)), some (vi (y : Int)), some (vi bi), some (vi (k : Int))]) (st' := [vi (x : Int), vr 7 2, vi ((va_up se y (ta k)) y), vr 7 0]) [.inl (.aload_n 0), .inr (15, 7, 1), .inl (.iload_n 1)] 145 _ _ (by decide +kernel) rfl ?_
    rw [va_eq]
    by_cases ok : okB S A Bl (ta k) = true
    · have eB : exB S n m b0 6 A Bl = ext S n m b0 6 A (Bl ++ [ta k]) (ta k) := by unfold exB; rw [ek, if_pos ⟨by omega, ok⟩]
      rw [eB] at hq
      have hlen : (Bl ++ [ta k]).length = y + 1 := by rw [List.length_append, hy]; rfl
      have hp := pre_fB hV.1 p5
      rw [hx] at hp
      refine aw_dV (cs' := 0) (sl' := 0) (pc' := 153) (st' := [vi 1]) (idx := 72) (as := [vi (ta k), vr 7 2, vi (x : Int)]) (st := []) (m_D_take_fi_1 (y := x) s1.1 s1.2.1 hp (by omega) (by omega) (fun i hi => by have := htl i hi; omega) (by rw [← hx]; exact (tkB hS hP hV).mpr ok)) (by decide +kernel) (show vOK "ChanceBench$Dice" 72 M_D_takeThrows 3 = true by decide +kernel) rfl rfl rfl (Nat.le_of_ble_eq_true rfl) (by decide) (by decide) (by decide) rfl rfl rfl rfl ?_
      refine aw_if_eq (o := 28) (tgt := 181) (by decide +kernel) (by decide) (by omega) (fun c => absurd c (by omega)) (fun _ => ?_)
      refine aw_blk (pc' := 163) (ls' := [some (vr 7 0), some (vi (x : Int)), some (vi (y : Int)), some (vi bi), some (vi (k : Int))]) (st' := [vi (k : Int), vi ((y : Int) + 1), vi (x : Int), vr 7 0]) [.inl (.aload_n 0), .inl (.iload_n 1), .inl (.iload_n 2), .inl (.iconst 1), .inl (.iadd), .inl (.iload 4)] 156 _ _ (by decide +kernel) rfl ?_
      have hV2 := dV_B (v := ta k) hV
      rw [hx, hy] at hV2
      refine aw_rV (cs' := 0) (sl' := 0) (pc' := 166) (idx := 61) (as := [vi (x : Int), vi ((y : Int) + 1), vi (k : Int)]) (st := []) (m_D_ext_6 (x := x) (y := y + 1) (F := F) (bar := ta k) hS (dP_B hP (by omega) (by omega) ok) hV2 hx hlen (by omega) (Or.inr ⟨k, hk, rfl, rfl⟩) (by have := hF2 (by omega); rw [show m - (y + 1) = m - y - 1 by omega]; exact this)) (by decide +kernel) (show vOK "ChanceBench$Dice" 61 (M_D_extend 6) 3 = true by decide +kernel) rfl rfl rfl (Nat.le_of_ble_eq_true rfl) (by decide) (by decide) (by decide) rfl rfl rfl (fun r163 h163 z163 => ?_)
      obtain ⟨rfl, kp2, fi2, se2, hR, rfl⟩ := z163
      have e2 : se2 y = ta k := by rw [hR.2.1 y (by omega), va_eq]
      have hag : ∀ j, j < x → fi2 j = fi j := hR.1
      refine aw_blk (pc' := 172) (ls' := [some (vr 7 0), some (vi (x : Int)), some (vi (y : Int)), some (vi bi), some (vi (k : Int))]) (st' := [vi (y : Int), vr 7 3, vr 7 0]) [.inl (.aload_n 0), .inl (.aload_n 0), .inr (18, 7, 2), .inl (.iload_n 2)] 166 _ _ (by decide +kernel) rfl ?_
      refine aw_iald (j := y) (by decide +kernel) rfl (by omega) (by omega) (fun r172 => ?_)
      refine aw_blk (pc' := 178) (ls' := [some (vr 7 0), some (vi (x : Int)), some (vi (y : Int)), some (vi bi), some (vi (k : Int))]) (st' := [vi (x : Int), vr 7 2, vi (se2 y), vr 7 0]) [.inl (.aload_n 0), .inr (15, 7, 1), .inl (.iload_n 1)] 173 _ _ (by decide +kernel) rfl ?_
      rw [e2]
      refine aw_dV (cs' := 0) (sl' := 0) (pc' := 181) (st' := []) (idx := 76) (as := [vi (ta k), vr 7 2, vi (x : Int)]) (st := []) (m_D_giveBack_fi (y := x) s1.1 s1.2.1 (fun j hj => by rw [hag j hj]; exact hp j hj) (by omega) (by omega) (dcr_in htl (by omega))) (by decide +kernel) (show vOK "ChanceBench$Dice" 76 M_D_giveBackThrows 3 = true by decide +kernel) rfl rfl rfl (Nat.le_of_ble_eq_true rfl) (by decide) (by decide) (by decide) rfl rfl rfl rfl ?_
      rw [icr_back hag]
      exact aw_vret (by decide +kernel) rfl (by decide) (by decide) (hq kp2 fi2 se2 (exR_up hR))
    · have eB : exB S n m b0 6 A Bl = [] := by unfold exB; rw [ek, if_neg (fun z => ok z.2)]
      rw [eB] at hq
      have hp := pre_fB hV.1 p5
      rw [hx] at hp
      refine aw_dV (cs' := 0) (sl' := 0) (pc' := 153) (st' := [vi 0]) (idx := 72) (as := [vi (ta k), vr 7 2, vi (x : Int)]) (st := []) (m_D_take_fi_0 (y := x) s1.1 s1.2.1 hp (by omega) (by omega) (fun i hi => by have := htl i hi; omega) (fun i hi => by have := htl i hi; omega) (by rw [← hx]; exact fun z => ok ((tkB hS hP hV).mp z))) (by decide +kernel) (show vOK "ChanceBench$Dice" 72 M_D_takeThrows 3 = true by decide +kernel) rfl rfl rfl (Nat.le_of_ble_eq_true rfl) (by decide) (by decide) (by decide) rfl rfl rfl rfl ?_
      refine aw_if_eq (o := 28) (tgt := 181) (by decide +kernel) (by decide) (by omega) (fun _ => ?_) (fun c => absurd (by omega) c)
      exact aw_vret (by decide +kernel) rfl (by decide) (by decide) (hq kp fi (va_up se y (ta k)) (exR_up ⟨fun _ _ => rfl, fun _ _ => rfl, fun _ _ => rfl, rows_nil⟩))
theorem l_D_e21_7 {Qr : Option AV → HT → Prop} {Qt : HT → Prop} (hS : dS S ta len n m b0) (hP : dP S n m b0 A Bl) (hV : dV S ta len A Bl fi se tl) (hx : A.length = x) (hy : Bl.length = y) (hb : bR ta len bi bar) (hnd : ¬ (n ≤ x ∧ m ≤ y)) (hf : (n - x) + (m - y) ≤ 7) (hF : F + pb (n - x) (m - y) ≤ 252) (hq : ∀ kp' fi' se', exR x y F kp fi se (ext S n m b0 7 A Bl bar) kp' fi' se' → Qr none (Hp b s t mk df jo tr (sgD (len : Int) ((F + (ext S n m b0 7 A Bl bar).length : Nat) : Int) (n : Int) (m : Int) kp' fi' se' ta tl) mo dy)) : AW G (M_D_extend 7) Qr Qt 0 0 21 [some (vr 7 0), some (vi (x : Int)), some (vi (y : Int)), some (vi bi), none] [] (Hp b s t mk df jo tr (sgD (len : Int) (F : Int) (n : Int) (m : Int) kp fi se ta tl) mo dy) := by
  have s1 := hS.1
  have s2 := hS.2.2.2
  have p3 := hP.2.2.1
  have p4 := hP.2.2.2.1
  have p5 := hP.2.2.2.2.1
  have p6 := hP.2.2.2.2.2.1
  have l1 := pre_len hP.1
  have l2 := pre_len hP.2.1
  have e0 : se 0 = b0 := hV.2.1 0 b0 hP.2.1
  have htl := tl_in hS hP hV
  have hbi : I32 bi := by rcases hb with ⟨z, _⟩ | ⟨i, z, q, _⟩ <;> omega
  refine aw_blk (pc' := 22) (ls' := [some (vr 7 0), some (vi (x : Int)), some (vi (y : Int)), some (vi bi), none]) (st' := [vr 7 0]) [.inl (.aload_n 0)] 21 _ _ (by decide +kernel) rfl ?_
  refine aw_dV (cs' := 0) (sl' := 0) (pc' := 25) (st' := [vi (lsI tl len 0)]) (idx := 68) (as := []) (st := []) (m_D_leastThrowLeft s1.1) (by decide +kernel) (show vOK "ChanceBench$Dice" 68 M_D_leastThrowLeft 0 = true by decide +kernel) rfl rfl rfl (Nat.le_of_ble_eq_true rfl) (by decide) (by decide) (by decide) rfl rfl rfl rfl ?_
  rcases ls_rel s1.2.1 s1.2.2 hV.2.2 (hta_R hS) with ⟨q1, q2⟩ | ⟨k, hk, q1, ek⟩
  · rw [q1]
    refine aw_blk (pc' := 30) (ls' := [some (vr 7 0), some (vi (x : Int)), some (vi (y : Int)), some (vi bi), some (vi (-1))]) (st' := [vi (-1), vi (-1)]) [.inl (.istore 4), .inl (.iload 4), .inl (.iconst (-1))] 25 _ _ (by decide +kernel) rfl ?_
    refine aw_icmp_ne (o := 4) (tgt := 34) (by decide +kernel) (by decide) (by omega) (by omega) (fun c => absurd (by omega) c) (fun _ => ?_)
    have eX : ext S n m b0 7 A Bl bar = [] := by rw [ext, if_neg (by omega), if_pos q2]
    rw [eX] at hq
    exact aw_vret (by decide +kernel) rfl (by decide) (by decide) (hq kp fi se exR_nil)
  · have hrk := hS.1.2.2 k hk
    rw [q1]
    have eX : ext S n m b0 7 A Bl bar = exA S n m b0 6 A Bl bar ++ exB S n m b0 6 A Bl := ext_s S n m b0 6 A Bl bar (by omega) (by omega)
    rw [eX] at hq
    refine aw_blk (pc' := 30) (ls' := [some (vr 7 0), some (vi (x : Int)), some (vi (y : Int)), some (vi bi), some (vi (k : Int))]) (st' := [vi (-1), vi (k : Int)]) [.inl (.istore 4), .inl (.iload 4), .inl (.iconst (-1))] 25 _ _ (by decide +kernel) rfl ?_
    refine aw_icmp_ne (o := 4) (tgt := 34) (by decide +kernel) (by decide) (by omega) (by omega) (fun _ => ?_) (fun c => absurd c (by omega))
    refine aw_blk (pc' := 39) (ls' := [some (vr 7 0), some (vi (x : Int)), some (vi (y : Int)), some (vi bi), some (vi (k : Int))]) (st' := [vi (n : Int), vi (x : Int)]) [.inl (.iload_n 1), .inl (.aload_n 0), .inr (34, 7, 7)] 34 _ _ (by decide +kernel) rfl ?_
    refine aw_icmp_ge (o := 71) (tgt := 110) (by decide +kernel) (by decide) (by omega) (by omega) (fun c39 => ?_) (fun c39 => ?_)
    · have eA : exA S n m b0 6 A Bl bar = [] := by unfold exA; rw [if_neg (by omega)]
      exact l_D_e110_7 hS hP hV hx hy hf hk ek (fun hlt => by have := pb_B (p := n - x) (q := m - y) (by omega); omega) (fun kp' fi' se' h9 => by rw [eA, List.nil_append] at hq; exact hq kp' fi' se' h9)
    · refine aw_blk (pc' := 45) (ls' := [some (vr 7 0), some (vi (x : Int)), some (vi (y : Int)), some (vi bi), some (vi (k : Int))]) (st' := [vi bi, vi (k : Int)]) [.inl (.iload 4), .inl (.iload_n 3)] 42 _ _ (by decide +kernel) rfl ?_
      refine aw_icmp_eq (o := 65) (tgt := 110) (by decide +kernel) (by decide) (by omega) (by omega) (fun c45 => ?_) (fun c45 => ?_)
      · have eA : exA S n m b0 6 A Bl bar = [] := by unfold exA; rw [ek, if_neg (fun z => z.2.1 (by rcases hb with ⟨z1, _⟩ | ⟨i, z1, z2, z3⟩; omega; rw [z3, show i = k by omega]))]
        exact l_D_e110_7 hS hP hV hx hy hf hk ek (fun hlt => by have := pb_B (p := n - x) (q := m - y) (by omega); omega) (fun kp' fi' se' h9 => by rw [eA, List.nil_append] at hq; exact hq kp' fi' se' h9)
      · have hne : ta k ≠ bar := fun e => by
          rcases hb with ⟨_, z2⟩ | ⟨i, z1, z2, z3⟩
          · omega
          · rw [z3] at e
            rcases Nat.lt_trichotomy k i with q | q | q
            · have := s1.2.1 k i q z1; omega
            · omega
            · have := s1.2.1 i k q hk; omega
        refine aw_blk (pc' := 59) (ls' := [some (vr 7 0), some (vi (x : Int)), some (vi (y : Int)), some (vi bi), some (vi (k : Int))]) (st' := [vi (k : Int), vr 7 4, vi (x : Int), vr 7 2]) [.inl (.aload_n 0), .inr (15, 7, 1), .inl (.iload_n 1), .inl (.aload_n 0), .inr (21, 7, 3), .inl (.iload 4)] 48 _ _ (by decide +kernel) rfl ?_
        refine aw_iald (j := k) (by decide +kernel) rfl (by omega) (by omega) (fun r59 => ?_)
        refine aw_blk (pc' := 65) (ls' := [some (vr 7 0), some (vi (x : Int)), some (vi (y : Int)), some (vi bi), some (vi (k : Int))]) (st' := [vi 0, vr 7 3, vi (ta k), vi (x : Int), vr 7 2]) [.inl (.aload_n 0), .inr (18, 7, 2), .inl (.iconst 0)] 60 _ _ (by decide +kernel) rfl ?_
        refine aw_iald (j := 0) (by decide +kernel) rfl (by omega) (by omega) (fun r65 => ?_)
        refine aw_blk (pc' := 67) (ls' := [some (vr 7 0), some (vi (x : Int)), some (vi (y : Int)), some (vi bi), some (vi (k : Int))]) (st' := [vi ((ta k) - (se 0)), vi (x : Int), vr 7 2]) [.inl (.isub)] 66 _ _ (by decide +kernel) rfl ?_
        rw [e0]
        refine aw_iast (j := x) (h' := Hp b s t mk df jo tr [some (ob 7 [vr 7 1, vr 7 2, vr 7 3, vr 7 4, vr 7 5, vi (len : Int), vi (F : Int), vi (n : Int), vi (m : Int)]), some (ar 0 3024 kp), some (ar 0 6 (va_up fi x (ta k - b0))), some (ar 0 6 se), some (ar 0 24 ta), some (ar 0 24 tl)] mo dy) (by decide +kernel) rfl rfl (by omega) (by omega) rfl ?_
        refine aw_blk (pc' := 74) (ls' := [some (vr 7 0), some (vi (x : Int)), some (vi (y : Int)), some (vi bi), some (vi (k : Int))]) (st' := [vi (x : Int), vr 7 2, vr 7 0]) [.inl (.aload_n 0), .inl (.aload_n 0), .inr (15, 7, 1), .inl (.iload_n 1)] 68 _ _ (by decide +kernel) rfl ?_
        refine aw_iald (j := x) (by decide +kernel) rfl (by omega) (by omega) (fun r74 => ?_)
        refine aw_blk (pc' := 80) (ls' := [some (vr 7 0), some (vi (x : Int)), some (vi (y : Int)), some (vi bi), some (vi (k : Int))]) (st' := [vi (y : Int), vr 7 3, vi ((va_up fi x (ta k - b0)) x), vr 7 0]) [.inl (.aload_n 0), .inr (18, 7, 2), .inl (.iload_n 2)] 75 _ _ (by decide +kernel) rfl ?_
        rw [va_eq]
        have hp := pre_fB hV.2.1 p6
        rw [hy] at hp
        by_cases ok : okA S A Bl (ta k - b0) = true
        · have eA : exA S n m b0 6 A Bl bar = ext S n m b0 6 (A ++ [ta k - b0]) Bl 6000 := by unfold exA; rw [ek, if_pos ⟨by omega, hne, ok⟩]
          rw [eA] at hq
          have hlen : (A ++ [ta k - b0]).length = x + 1 := by rw [List.length_append, hx]; rfl
          refine aw_dV (cs' := 0) (sl' := 0) (pc' := 83) (st' := [vi 1]) (idx := 72) (as := [vi (ta k - b0), vr 7 3, vi (y : Int)]) (st := []) (m_D_take_se_1 (y := y) s1.1 s1.2.1 hp (by omega) (by omega) (fun i hi => by have := htl i hi; omega) (by rw [← hy]; exact (tkA hS hP hV).mpr ok)) (by decide +kernel) (show vOK "ChanceBench$Dice" 72 M_D_takeThrows 3 = true by decide +kernel) rfl rfl rfl (Nat.le_of_ble_eq_true rfl) (by decide) (by decide) (by decide) rfl rfl rfl rfl ?_
          refine aw_if_eq (o := 27) (tgt := 110) (by decide +kernel) (by decide) (by omega) (fun c => absurd c (by omega)) (fun _ => ?_)
          refine aw_blk (pc' := 92) (ls' := [some (vr 7 0), some (vi (x : Int)), some (vi (y : Int)), some (vi bi), some (vi (k : Int))]) (st' := [vi (-1), vi (y : Int), vi ((x : Int) + 1), vr 7 0]) [.inl (.aload_n 0), .inl (.iload_n 1), .inl (.iconst 1), .inl (.iadd), .inl (.iload_n 2), .inl (.iconst (-1))] 86 _ _ (by decide +kernel) rfl ?_
          have hV2 := dV_A (v := ta k - b0) hV
          rw [hx, hy] at hV2
          refine aw_rV (cs' := 0) (sl' := 0) (pc' := 95) (idx := 61) (as := [vi ((x : Int) + 1), vi (y : Int), vi (-1)]) (st := []) (m_D_ext_6 (x := x + 1) (y := y) (F := F) (bar := 6000) hS (dP_A hP (by omega) (by omega) ok) hV2 hlen hy (by omega) (Or.inl ⟨rfl, rfl⟩) (by have := pb_A (p := n - x) (q := m - y) (by omega); rw [show n - (x + 1) = n - x - 1 by omega]; omega)) (by decide +kernel) (show vOK "ChanceBench$Dice" 61 (M_D_extend 6) 3 = true by decide +kernel) rfl rfl rfl (Nat.le_of_ble_eq_true rfl) (by decide) (by decide) (by decide) rfl rfl rfl (fun r92 h92 z92 => ?_)
          obtain ⟨rfl, kp2, fi2, se2, hR, rfl⟩ := z92
          have e2 : fi2 x = ta k - b0 := by rw [hR.1 x (by omega), va_eq]
          have hag : ∀ j, j < y → se2 j = se j := hR.2.1
          refine aw_blk (pc' := 101) (ls' := [some (vr 7 0), some (vi (x : Int)), some (vi (y : Int)), some (vi bi), some (vi (k : Int))]) (st' := [vi (x : Int), vr 7 2, vr 7 0]) [.inl (.aload_n 0), .inl (.aload_n 0), .inr (15, 7, 1), .inl (.iload_n 1)] 95 _ _ (by decide +kernel) rfl ?_
          refine aw_iald (j := x) (by decide +kernel) rfl (by omega) (by omega) (fun r101 => ?_)
          refine aw_blk (pc' := 107) (ls' := [some (vr 7 0), some (vi (x : Int)), some (vi (y : Int)), some (vi bi), some (vi (k : Int))]) (st' := [vi (y : Int), vr 7 3, vi (fi2 x), vr 7 0]) [.inl (.aload_n 0), .inr (18, 7, 2), .inl (.iload_n 2)] 102 _ _ (by decide +kernel) rfl ?_
          rw [e2]
          refine aw_dV (cs' := 0) (sl' := 0) (pc' := 110) (st' := []) (idx := 76) (as := [vi (ta k - b0), vr 7 3, vi (y : Int)]) (st := []) (m_D_giveBack_se (y := y) s1.1 s1.2.1 (fun j hj => by rw [hag j hj]; exact hp j hj) (by omega) (by omega) (dcr_in htl (by omega))) (by decide +kernel) (show vOK "ChanceBench$Dice" 76 M_D_giveBackThrows 3 = true by decide +kernel) rfl rfl rfl (Nat.le_of_ble_eq_true rfl) (by decide) (by decide) (by decide) rfl rfl rfl rfl ?_
          rw [icr_back hag]
          have hR1 := exR_upA hR
          have hV3 : dV S ta len A Bl fi2 se2 tl := ⟨pre_ext hV.1 (by rw [hx]; exact hR1.1), pre_ext hV.2.1 (by rw [hy]; exact hag), hV.2.2⟩
          have hln1 := ext_len S n m b0 6 (A ++ [ta k - b0]) Bl 6000
          rw [hlen, hy, show n - (x + 1) = n - x - 1 by omega] at hln1
          refine l_D_e110_7 (F := F + (ext S n m b0 6 (A ++ [ta k - b0]) Bl 6000).length) hS hP hV3 hx hy hf hk ek (fun hlt => by have := pb_AB (p := n - x) (q := m - y) (by omega) (by omega); omega) (fun kp' fi' se' h9 => ?_)
          have := hq kp' fi' se' (exR_app hR1 h9)
          rw [List.length_append, ← Nat.add_assoc] at this
          exact this
        · have eA : exA S n m b0 6 A Bl bar = [] := by unfold exA; rw [ek, if_neg (fun z => ok z.2.2)]
          refine aw_dV (cs' := 0) (sl' := 0) (pc' := 83) (st' := [vi 0]) (idx := 72) (as := [vi (ta k - b0), vr 7 3, vi (y : Int)]) (st := []) (m_D_take_se_0 (y := y) s1.1 s1.2.1 hp (by omega) (by omega) (fun i hi => by have := htl i hi; omega) (fun i hi => by have := htl i hi; omega) (by rw [← hy]; exact fun z => ok ((tkA hS hP hV).mp z))) (by decide +kernel) (show vOK "ChanceBench$Dice" 72 M_D_takeThrows 3 = true by decide +kernel) rfl rfl rfl (Nat.le_of_ble_eq_true rfl) (by decide) (by decide) (by decide) rfl rfl rfl rfl ?_
          refine aw_if_eq (o := 27) (tgt := 110) (by decide +kernel) (by decide) (by omega) (fun _ => ?_) (fun c => absurd (by omega) c)
          have hV3 : dV S ta len A Bl (va_up fi x (ta k - b0)) se tl := ⟨pre_ext hV.1 (fun i hi => by simp only [va_up]; rw [if_neg (by omega)]), hV.2.1, hV.2.2⟩
          refine l_D_e110_7 hS hP hV3 hx hy hf hk ek (fun hlt => by have := pb_B (p := n - x) (q := m - y) (by omega); omega) (fun kp' fi' se' h9 => ?_)
          rw [eA, List.nil_append] at hq
          exact hq kp' fi' se' ⟨fun i hi => by rw [h9.1 i hi]; simp only [va_up]; rw [if_neg (by omega)], h9.2⟩
theorem m_D_ext_7 (hS : dS S ta len n m b0) (hP : dP S n m b0 A Bl) (hV : dV S ta len A Bl fi se tl) (hx : A.length = x) (hy : Bl.length = y) (hf : (n - x) + (m - y) ≤ 7) (hb : bR ta len bi bar) (hF : F + pb (n - x) (m - y) ≤ 252) : AMet G (M_D_extend 7) [vr 7 0, vi (x : Int), vi (y : Int), vi bi] (Hp b s t mk df jo tr (sgD (len : Int) (F : Int) (n : Int) (m : Int) kp fi se ta tl) mo dy) (fun r h => r = none ∧ ∃ kp' fi' se', exR x y F kp fi se (ext S n m b0 7 A Bl bar) kp' fi' se' ∧ h = Hp b s t mk df jo tr (sgD (len : Int) ((F + (ext S n m b0 7 A Bl bar).length : Nat) : Int) (n : Int) (m : Int) kp' fi' se' ta tl) mo dy) (fun _ => False) := by
  refine am_rel (by decide +kernel) (Nat.le_of_ble_eq_true rfl) (fun Qr Qt hq => ?_)
  have hpb := pb_pos (n - x) (m - y)
  have s2 := hS.2.2.2
  have p3 := hP.2.2.1
  have p4 := hP.2.2.2.1
  refine aw_blk (pc' := 5) (ls' := [some (vr 7 0), some (vi (x : Int)), some (vi (y : Int)), some (vi bi), none]) (st' := [vi (n : Int), vi (x : Int)]) [.inl (.iload_n 1), .inl (.aload_n 0), .inr (34, 7, 7)] 0 _ _ (by decide +kernel) rfl ?_
  refine aw_icmp_lt (o := 16) (tgt := 21) (by decide +kernel) (by decide) (by omega) (by omega) (fun c5 => ?_) (fun c5 => ?_)
  · exact l_D_e21_7 hS hP hV hx hy hb (by omega) hf hF (fun kp' fi' se' h9 => hq _ _ ⟨rfl, kp', fi', se', h9, rfl⟩)
  · refine aw_blk (pc' := 13) (ls' := [some (vr 7 0), some (vi (x : Int)), some (vi (y : Int)), some (vi bi), none]) (st' := [vi (m : Int), vi (y : Int)]) [.inl (.iload_n 2), .inl (.aload_n 0), .inr (37, 7, 8)] 8 _ _ (by decide +kernel) rfl ?_
    refine aw_icmp_lt (o := 8) (tgt := 21) (by decide +kernel) (by decide) (by omega) (by omega) (fun c13 => ?_) (fun c13 => ?_)
    · exact l_D_e21_7 hS hP hV hx hy hb (by omega) hf hF (fun kp' fi' se' h9 => hq _ _ ⟨rfl, kp', fi', se', h9, rfl⟩)
    · refine aw_blk (pc' := 17) (ls' := [some (vr 7 0), some (vi (x : Int)), some (vi (y : Int)), some (vi bi), none]) (st' := [vr 7 0]) [.inl (.aload_n 0)] 16 _ _ (by decide +kernel) rfl ?_
      refine aw_dV (cs' := 0) (sl' := 0) (pc' := 20) (st' := []) (idx := 65) (as := []) (st := []) (m_D_keep (by omega)) (by decide +kernel) (show vOK "ChanceBench$Dice" 65 M_D_keep 0 = true by decide +kernel) rfl rfl rfl (Nat.le_of_ble_eq_true rfl) (by decide) (by decide) (by decide) rfl rfl rfl rfl ?_
      have eX : ext S n m b0 7 A Bl bar = [(A, Bl)] := by rw [ext, if_pos (by omega)]
      rw [eX] at hq
      exact aw_vret (by decide +kernel) rfl (by decide) (by decide) (hq _ _ ⟨rfl, kpR kp fi se F 6, fi, se, ⟨fun _ _ => rfl, fun _ _ => rfl, fun k hk => by unfold kpR; rw [if_neg (by omega), if_neg (by omega)], kp_row hV.1 hV.2.1⟩, rfl⟩)

theorem l_D_e110_8 {Qr : Option AV → HT → Prop} {Qt : HT → Prop} (hS : dS S ta len n m b0) (hP : dP S n m b0 A Bl) (hV : dV S ta len A Bl fi se tl) (hx : A.length = x) (hy : Bl.length = y) (hf : (n - x) + (m - y) ≤ 8) (hk : k < len) (ek : lsU (rem_ S A Bl) = ta k) (hF2 : y < m → F + pb (n - x) (m - y - 1) ≤ 252) (hq : ∀ kp' fi' se', exR x y F kp fi se (exB S n m b0 7 A Bl) kp' fi' se' → Qr none (Hp b s t mk df jo tr (sgD (len : Int) ((F + (exB S n m b0 7 A Bl).length : Nat) : Int) (n : Int) (m : Int) kp' fi' se' ta tl) mo dy)) : AW G (M_D_extend 8) Qr Qt 0 0 110 [some (vr 7 0), some (vi (x : Int)), some (vi (y : Int)), some (vi bi), some (vi (k : Int))] [] (Hp b s t mk df jo tr (sgD (len : Int) (F : Int) (n : Int) (m : Int) kp fi se ta tl) mo dy) := by
  have s1 := hS.1
  have s2 := hS.2.2.2
  have p3 := hP.2.2.1
  have p4 := hP.2.2.2.1
  have p5 := hP.2.2.2.2.1
  have p6 := hP.2.2.2.2.2.1
  have l1 := pre_len hP.1
  have l2 := pre_len hP.2.1
  have e0 : fi 0 = 0 := hV.1 0 0 hP.1
  have hrk := hS.1.2.2 k hk
  have htl := tl_in hS hP hV
  refine aw_blk (pc' := 115) (ls' := [some (vr 7 0), some (vi (x : Int)), some (vi (y : Int)), some (vi bi), some (vi (k : Int))]) (st' := [vi (m : Int), vi (y : Int)]) [.inl (.iload_n 2), .inl (.aload_n 0), .inr (37, 7, 8)] 110 _ _ (by decide +kernel) rfl ?_
  refine aw_icmp_ge (o := 66) (tgt := 181) (by decide +kernel) (by decide) (by omega) (by omega) (fun c115 => ?_) (fun c115 => ?_)
  · have eB : exB S n m b0 7 A Bl = [] := by unfold exB; rw [if_neg (by omega)]
    rw [eB] at hq
    exact aw_vret (by decide +kernel) rfl (by decide) (by decide) (hq kp fi se exR_nil)
  · refine aw_blk (pc' := 129) (ls' := [some (vr 7 0), some (vi (x : Int)), some (vi (y : Int)), some (vi bi), some (vi (k : Int))]) (st' := [vi (k : Int), vr 7 4, vi (y : Int), vr 7 3]) [.inl (.aload_n 0), .inr (18, 7, 2), .inl (.iload_n 2), .inl (.aload_n 0), .inr (21, 7, 3), .inl (.iload 4)] 118 _ _ (by decide +kernel) rfl ?_
    refine aw_iald (j := k) (by decide +kernel) rfl (by omega) (by omega) (fun r129 => ?_)
    refine aw_blk (pc' := 135) (ls' := [some (vr 7 0), some (vi (x : Int)), some (vi (y : Int)), some (vi bi), some (vi (k : Int))]) (st' := [vi 0, vr 7 2, vi (ta k), vi (y : Int), vr 7 3]) [.inl (.aload_n 0), .inr (15, 7, 1), .inl (.iconst 0)] 130 _ _ (by decide +kernel) rfl ?_
    refine aw_iald (j := 0) (by decide +kernel) rfl (by omega) (by omega) (fun r135 => ?_)
    refine aw_blk (pc' := 137) (ls' := [some (vr 7 0), some (vi (x : Int)), some (vi (y : Int)), some (vi bi), some (vi (k : Int))]) (st' := [vi ((ta k) - (fi 0)), vi (y : Int), vr 7 3]) [.inl (.isub)] 136 _ _ (by decide +kernel) rfl ?_
    rw [show ta k - fi 0 = ta k by omega]
    refine aw_iast (j := y) (h' := Hp b s t mk df jo tr [some (ob 7 [vr 7 1, vr 7 2, vr 7 3, vr 7 4, vr 7 5, vi (len : Int), vi (F : Int), vi (n : Int), vi (m : Int)]), some (ar 0 3024 kp), some (ar 0 6 fi), some (ar 0 6 (va_up se y (ta k))), some (ar 0 24 ta), some (ar 0 24 tl)] mo dy) (by decide +kernel) rfl rfl (by omega) (by omega) rfl ?_
    refine aw_blk (pc' := 144) (ls' := [some (vr 7 0), some (vi (x : Int)), some (vi (y : Int)), some (vi bi), some (vi (k : Int))]) (st' := [vi (y : Int), vr 7 3, vr 7 0]) [.inl (.aload_n 0), .inl (.aload_n 0), .inr (18, 7, 2), .inl (.iload_n 2)] 138 _ _ (by decide +kernel) rfl ?_
    refine aw_iald (j := y) (by decide +kernel) rfl (by omega) (by omega) (fun r144 => ?_)
    refine aw_blk (pc' := 150) (ls' := [some (vr 7 0), some (vi (x : Int)), some (vi (y : Int)), some (vi bi), some (vi (k : Int))]) (st' := [vi (x : Int), vr 7 2, vi ((va_up se y (ta k)) y), vr 7 0]) [.inl (.aload_n 0), .inr (15, 7, 1), .inl (.iload_n 1)] 145 _ _ (by decide +kernel) rfl ?_
    rw [va_eq]
    by_cases ok : okB S A Bl (ta k) = true
    · have eB : exB S n m b0 7 A Bl = ext S n m b0 7 A (Bl ++ [ta k]) (ta k) := by unfold exB; rw [ek, if_pos ⟨by omega, ok⟩]
      rw [eB] at hq
      have hlen : (Bl ++ [ta k]).length = y + 1 := by rw [List.length_append, hy]; rfl
      have hp := pre_fB hV.1 p5
      rw [hx] at hp
      refine aw_dV (cs' := 0) (sl' := 0) (pc' := 153) (st' := [vi 1]) (idx := 72) (as := [vi (ta k), vr 7 2, vi (x : Int)]) (st := []) (m_D_take_fi_1 (y := x) s1.1 s1.2.1 hp (by omega) (by omega) (fun i hi => by have := htl i hi; omega) (by rw [← hx]; exact (tkB hS hP hV).mpr ok)) (by decide +kernel) (show vOK "ChanceBench$Dice" 72 M_D_takeThrows 3 = true by decide +kernel) rfl rfl rfl (Nat.le_of_ble_eq_true rfl) (by decide) (by decide) (by decide) rfl rfl rfl rfl ?_
      refine aw_if_eq (o := 28) (tgt := 181) (by decide +kernel) (by decide) (by omega) (fun c => absurd c (by omega)) (fun _ => ?_)
      refine aw_blk (pc' := 163) (ls' := [some (vr 7 0), some (vi (x : Int)), some (vi (y : Int)), some (vi bi), some (vi (k : Int))]) (st' := [vi (k : Int), vi ((y : Int) + 1), vi (x : Int), vr 7 0]) [.inl (.aload_n 0), .inl (.iload_n 1), .inl (.iload_n 2), .inl (.iconst 1), .inl (.iadd), .inl (.iload 4)] 156 _ _ (by decide +kernel) rfl ?_
      have hV2 := dV_B (v := ta k) hV
      rw [hx, hy] at hV2
      refine aw_rV (cs' := 0) (sl' := 0) (pc' := 166) (idx := 61) (as := [vi (x : Int), vi ((y : Int) + 1), vi (k : Int)]) (st := []) (m_D_ext_7 (x := x) (y := y + 1) (F := F) (bar := ta k) hS (dP_B hP (by omega) (by omega) ok) hV2 hx hlen (by omega) (Or.inr ⟨k, hk, rfl, rfl⟩) (by have := hF2 (by omega); rw [show m - (y + 1) = m - y - 1 by omega]; exact this)) (by decide +kernel) (show vOK "ChanceBench$Dice" 61 (M_D_extend 7) 3 = true by decide +kernel) rfl rfl rfl (Nat.le_of_ble_eq_true rfl) (by decide) (by decide) (by decide) rfl rfl rfl (fun r163 h163 z163 => ?_)
      obtain ⟨rfl, kp2, fi2, se2, hR, rfl⟩ := z163
      have e2 : se2 y = ta k := by rw [hR.2.1 y (by omega), va_eq]
      have hag : ∀ j, j < x → fi2 j = fi j := hR.1
      refine aw_blk (pc' := 172) (ls' := [some (vr 7 0), some (vi (x : Int)), some (vi (y : Int)), some (vi bi), some (vi (k : Int))]) (st' := [vi (y : Int), vr 7 3, vr 7 0]) [.inl (.aload_n 0), .inl (.aload_n 0), .inr (18, 7, 2), .inl (.iload_n 2)] 166 _ _ (by decide +kernel) rfl ?_
      refine aw_iald (j := y) (by decide +kernel) rfl (by omega) (by omega) (fun r172 => ?_)
      refine aw_blk (pc' := 178) (ls' := [some (vr 7 0), some (vi (x : Int)), some (vi (y : Int)), some (vi bi), some (vi (k : Int))]) (st' := [vi (x : Int), vr 7 2, vi (se2 y), vr 7 0]) [.inl (.aload_n 0), .inr (15, 7, 1), .inl (.iload_n 1)] 173 _ _ (by decide +kernel) rfl ?_
      rw [e2]
      refine aw_dV (cs' := 0) (sl' := 0) (pc' := 181) (st' := []) (idx := 76) (as := [vi (ta k), vr 7 2, vi (x : Int)]) (st := []) (m_D_giveBack_fi (y := x) s1.1 s1.2.1 (fun j hj => by rw [hag j hj]; exact hp j hj) (by omega) (by omega) (dcr_in htl (by omega))) (by decide +kernel) (show vOK "ChanceBench$Dice" 76 M_D_giveBackThrows 3 = true by decide +kernel) rfl rfl rfl (Nat.le_of_ble_eq_true rfl) (by decide) (by decide) (by decide) rfl rfl rfl rfl ?_
      rw [icr_back hag]
      exact aw_vret (by decide +kernel) rfl (by decide) (by decide) (hq kp2 fi2 se2 (exR_up hR))
    · have eB : exB S n m b0 7 A Bl = [] := by unfold exB; rw [ek, if_neg (fun z => ok z.2)]
      rw [eB] at hq
      have hp := pre_fB hV.1 p5
      rw [hx] at hp
      refine aw_dV (cs' := 0) (sl' := 0) (pc' := 153) (st' := [vi 0]) (idx := 72) (as := [vi (ta k), vr 7 2, vi (x : Int)]) (st := []) (m_D_take_fi_0 (y := x) s1.1 s1.2.1 hp (by omega) (by omega) (fun i hi => by have := htl i hi; omega) (fun i hi => by have := htl i hi; omega) (by rw [← hx]; exact fun z => ok ((tkB hS hP hV).mp z))) (by decide +kernel) (show vOK "ChanceBench$Dice" 72 M_D_takeThrows 3 = true by decide +kernel) rfl rfl rfl (Nat.le_of_ble_eq_true rfl) (by decide) (by decide) (by decide) rfl rfl rfl rfl ?_
      refine aw_if_eq (o := 28) (tgt := 181) (by decide +kernel) (by decide) (by omega) (fun _ => ?_) (fun c => absurd (by omega) c)
      exact aw_vret (by decide +kernel) rfl (by decide) (by decide) (hq kp fi (va_up se y (ta k)) (exR_up ⟨fun _ _ => rfl, fun _ _ => rfl, fun _ _ => rfl, rows_nil⟩))
theorem l_D_e21_8 {Qr : Option AV → HT → Prop} {Qt : HT → Prop} (hS : dS S ta len n m b0) (hP : dP S n m b0 A Bl) (hV : dV S ta len A Bl fi se tl) (hx : A.length = x) (hy : Bl.length = y) (hb : bR ta len bi bar) (hnd : ¬ (n ≤ x ∧ m ≤ y)) (hf : (n - x) + (m - y) ≤ 8) (hF : F + pb (n - x) (m - y) ≤ 252) (hq : ∀ kp' fi' se', exR x y F kp fi se (ext S n m b0 8 A Bl bar) kp' fi' se' → Qr none (Hp b s t mk df jo tr (sgD (len : Int) ((F + (ext S n m b0 8 A Bl bar).length : Nat) : Int) (n : Int) (m : Int) kp' fi' se' ta tl) mo dy)) : AW G (M_D_extend 8) Qr Qt 0 0 21 [some (vr 7 0), some (vi (x : Int)), some (vi (y : Int)), some (vi bi), none] [] (Hp b s t mk df jo tr (sgD (len : Int) (F : Int) (n : Int) (m : Int) kp fi se ta tl) mo dy) := by
  have s1 := hS.1
  have s2 := hS.2.2.2
  have p3 := hP.2.2.1
  have p4 := hP.2.2.2.1
  have p5 := hP.2.2.2.2.1
  have p6 := hP.2.2.2.2.2.1
  have l1 := pre_len hP.1
  have l2 := pre_len hP.2.1
  have e0 : se 0 = b0 := hV.2.1 0 b0 hP.2.1
  have htl := tl_in hS hP hV
  have hbi : I32 bi := by rcases hb with ⟨z, _⟩ | ⟨i, z, q, _⟩ <;> omega
  refine aw_blk (pc' := 22) (ls' := [some (vr 7 0), some (vi (x : Int)), some (vi (y : Int)), some (vi bi), none]) (st' := [vr 7 0]) [.inl (.aload_n 0)] 21 _ _ (by decide +kernel) rfl ?_
  refine aw_dV (cs' := 0) (sl' := 0) (pc' := 25) (st' := [vi (lsI tl len 0)]) (idx := 68) (as := []) (st := []) (m_D_leastThrowLeft s1.1) (by decide +kernel) (show vOK "ChanceBench$Dice" 68 M_D_leastThrowLeft 0 = true by decide +kernel) rfl rfl rfl (Nat.le_of_ble_eq_true rfl) (by decide) (by decide) (by decide) rfl rfl rfl rfl ?_
  rcases ls_rel s1.2.1 s1.2.2 hV.2.2 (hta_R hS) with ⟨q1, q2⟩ | ⟨k, hk, q1, ek⟩
  · rw [q1]
    refine aw_blk (pc' := 30) (ls' := [some (vr 7 0), some (vi (x : Int)), some (vi (y : Int)), some (vi bi), some (vi (-1))]) (st' := [vi (-1), vi (-1)]) [.inl (.istore 4), .inl (.iload 4), .inl (.iconst (-1))] 25 _ _ (by decide +kernel) rfl ?_
    refine aw_icmp_ne (o := 4) (tgt := 34) (by decide +kernel) (by decide) (by omega) (by omega) (fun c => absurd (by omega) c) (fun _ => ?_)
    have eX : ext S n m b0 8 A Bl bar = [] := by rw [ext, if_neg (by omega), if_pos q2]
    rw [eX] at hq
    exact aw_vret (by decide +kernel) rfl (by decide) (by decide) (hq kp fi se exR_nil)
  · have hrk := hS.1.2.2 k hk
    rw [q1]
    have eX : ext S n m b0 8 A Bl bar = exA S n m b0 7 A Bl bar ++ exB S n m b0 7 A Bl := ext_s S n m b0 7 A Bl bar (by omega) (by omega)
    rw [eX] at hq
    refine aw_blk (pc' := 30) (ls' := [some (vr 7 0), some (vi (x : Int)), some (vi (y : Int)), some (vi bi), some (vi (k : Int))]) (st' := [vi (-1), vi (k : Int)]) [.inl (.istore 4), .inl (.iload 4), .inl (.iconst (-1))] 25 _ _ (by decide +kernel) rfl ?_
    refine aw_icmp_ne (o := 4) (tgt := 34) (by decide +kernel) (by decide) (by omega) (by omega) (fun _ => ?_) (fun c => absurd c (by omega))
    refine aw_blk (pc' := 39) (ls' := [some (vr 7 0), some (vi (x : Int)), some (vi (y : Int)), some (vi bi), some (vi (k : Int))]) (st' := [vi (n : Int), vi (x : Int)]) [.inl (.iload_n 1), .inl (.aload_n 0), .inr (34, 7, 7)] 34 _ _ (by decide +kernel) rfl ?_
    refine aw_icmp_ge (o := 71) (tgt := 110) (by decide +kernel) (by decide) (by omega) (by omega) (fun c39 => ?_) (fun c39 => ?_)
    · have eA : exA S n m b0 7 A Bl bar = [] := by unfold exA; rw [if_neg (by omega)]
      exact l_D_e110_8 hS hP hV hx hy hf hk ek (fun hlt => by have := pb_B (p := n - x) (q := m - y) (by omega); omega) (fun kp' fi' se' h9 => by rw [eA, List.nil_append] at hq; exact hq kp' fi' se' h9)
    · refine aw_blk (pc' := 45) (ls' := [some (vr 7 0), some (vi (x : Int)), some (vi (y : Int)), some (vi bi), some (vi (k : Int))]) (st' := [vi bi, vi (k : Int)]) [.inl (.iload 4), .inl (.iload_n 3)] 42 _ _ (by decide +kernel) rfl ?_
      refine aw_icmp_eq (o := 65) (tgt := 110) (by decide +kernel) (by decide) (by omega) (by omega) (fun c45 => ?_) (fun c45 => ?_)
      · have eA : exA S n m b0 7 A Bl bar = [] := by unfold exA; rw [ek, if_neg (fun z => z.2.1 (by rcases hb with ⟨z1, _⟩ | ⟨i, z1, z2, z3⟩; omega; rw [z3, show i = k by omega]))]
        exact l_D_e110_8 hS hP hV hx hy hf hk ek (fun hlt => by have := pb_B (p := n - x) (q := m - y) (by omega); omega) (fun kp' fi' se' h9 => by rw [eA, List.nil_append] at hq; exact hq kp' fi' se' h9)
      · have hne : ta k ≠ bar := fun e => by
          rcases hb with ⟨_, z2⟩ | ⟨i, z1, z2, z3⟩
          · omega
          · rw [z3] at e
            rcases Nat.lt_trichotomy k i with q | q | q
            · have := s1.2.1 k i q z1; omega
            · omega
            · have := s1.2.1 i k q hk; omega
        refine aw_blk (pc' := 59) (ls' := [some (vr 7 0), some (vi (x : Int)), some (vi (y : Int)), some (vi bi), some (vi (k : Int))]) (st' := [vi (k : Int), vr 7 4, vi (x : Int), vr 7 2]) [.inl (.aload_n 0), .inr (15, 7, 1), .inl (.iload_n 1), .inl (.aload_n 0), .inr (21, 7, 3), .inl (.iload 4)] 48 _ _ (by decide +kernel) rfl ?_
        refine aw_iald (j := k) (by decide +kernel) rfl (by omega) (by omega) (fun r59 => ?_)
        refine aw_blk (pc' := 65) (ls' := [some (vr 7 0), some (vi (x : Int)), some (vi (y : Int)), some (vi bi), some (vi (k : Int))]) (st' := [vi 0, vr 7 3, vi (ta k), vi (x : Int), vr 7 2]) [.inl (.aload_n 0), .inr (18, 7, 2), .inl (.iconst 0)] 60 _ _ (by decide +kernel) rfl ?_
        refine aw_iald (j := 0) (by decide +kernel) rfl (by omega) (by omega) (fun r65 => ?_)
        refine aw_blk (pc' := 67) (ls' := [some (vr 7 0), some (vi (x : Int)), some (vi (y : Int)), some (vi bi), some (vi (k : Int))]) (st' := [vi ((ta k) - (se 0)), vi (x : Int), vr 7 2]) [.inl (.isub)] 66 _ _ (by decide +kernel) rfl ?_
        rw [e0]
        refine aw_iast (j := x) (h' := Hp b s t mk df jo tr [some (ob 7 [vr 7 1, vr 7 2, vr 7 3, vr 7 4, vr 7 5, vi (len : Int), vi (F : Int), vi (n : Int), vi (m : Int)]), some (ar 0 3024 kp), some (ar 0 6 (va_up fi x (ta k - b0))), some (ar 0 6 se), some (ar 0 24 ta), some (ar 0 24 tl)] mo dy) (by decide +kernel) rfl rfl (by omega) (by omega) rfl ?_
        refine aw_blk (pc' := 74) (ls' := [some (vr 7 0), some (vi (x : Int)), some (vi (y : Int)), some (vi bi), some (vi (k : Int))]) (st' := [vi (x : Int), vr 7 2, vr 7 0]) [.inl (.aload_n 0), .inl (.aload_n 0), .inr (15, 7, 1), .inl (.iload_n 1)] 68 _ _ (by decide +kernel) rfl ?_
        refine aw_iald (j := x) (by decide +kernel) rfl (by omega) (by omega) (fun r74 => ?_)
        refine aw_blk (pc' := 80) (ls' := [some (vr 7 0), some (vi (x : Int)), some (vi (y : Int)), some (vi bi), some (vi (k : Int))]) (st' := [vi (y : Int), vr 7 3, vi ((va_up fi x (ta k - b0)) x), vr 7 0]) [.inl (.aload_n 0), .inr (18, 7, 2), .inl (.iload_n 2)] 75 _ _ (by decide +kernel) rfl ?_
        rw [va_eq]
        have hp := pre_fB hV.2.1 p6
        rw [hy] at hp
        by_cases ok : okA S A Bl (ta k - b0) = true
        · have eA : exA S n m b0 7 A Bl bar = ext S n m b0 7 (A ++ [ta k - b0]) Bl 6000 := by unfold exA; rw [ek, if_pos ⟨by omega, hne, ok⟩]
          rw [eA] at hq
          have hlen : (A ++ [ta k - b0]).length = x + 1 := by rw [List.length_append, hx]; rfl
          refine aw_dV (cs' := 0) (sl' := 0) (pc' := 83) (st' := [vi 1]) (idx := 72) (as := [vi (ta k - b0), vr 7 3, vi (y : Int)]) (st := []) (m_D_take_se_1 (y := y) s1.1 s1.2.1 hp (by omega) (by omega) (fun i hi => by have := htl i hi; omega) (by rw [← hy]; exact (tkA hS hP hV).mpr ok)) (by decide +kernel) (show vOK "ChanceBench$Dice" 72 M_D_takeThrows 3 = true by decide +kernel) rfl rfl rfl (Nat.le_of_ble_eq_true rfl) (by decide) (by decide) (by decide) rfl rfl rfl rfl ?_
          refine aw_if_eq (o := 27) (tgt := 110) (by decide +kernel) (by decide) (by omega) (fun c => absurd c (by omega)) (fun _ => ?_)
          refine aw_blk (pc' := 92) (ls' := [some (vr 7 0), some (vi (x : Int)), some (vi (y : Int)), some (vi bi), some (vi (k : Int))]) (st' := [vi (-1), vi (y : Int), vi ((x : Int) + 1), vr 7 0]) [.inl (.aload_n 0), .inl (.iload_n 1), .inl (.iconst 1), .inl (.iadd), .inl (.iload_n 2), .inl (.iconst (-1))] 86 _ _ (by decide +kernel) rfl ?_
          have hV2 := dV_A (v := ta k - b0) hV
          rw [hx, hy] at hV2
          refine aw_rV (cs' := 0) (sl' := 0) (pc' := 95) (idx := 61) (as := [vi ((x : Int) + 1), vi (y : Int), vi (-1)]) (st := []) (m_D_ext_7 (x := x + 1) (y := y) (F := F) (bar := 6000) hS (dP_A hP (by omega) (by omega) ok) hV2 hlen hy (by omega) (Or.inl ⟨rfl, rfl⟩) (by have := pb_A (p := n - x) (q := m - y) (by omega); rw [show n - (x + 1) = n - x - 1 by omega]; omega)) (by decide +kernel) (show vOK "ChanceBench$Dice" 61 (M_D_extend 7) 3 = true by decide +kernel) rfl rfl rfl (Nat.le_of_ble_eq_true rfl) (by decide) (by decide) (by decide) rfl rfl rfl (fun r92 h92 z92 => ?_)
          obtain ⟨rfl, kp2, fi2, se2, hR, rfl⟩ := z92
          have e2 : fi2 x = ta k - b0 := by rw [hR.1 x (by omega), va_eq]
          have hag : ∀ j, j < y → se2 j = se j := hR.2.1
          refine aw_blk (pc' := 101) (ls' := [some (vr 7 0), some (vi (x : Int)), some (vi (y : Int)), some (vi bi), some (vi (k : Int))]) (st' := [vi (x : Int), vr 7 2, vr 7 0]) [.inl (.aload_n 0), .inl (.aload_n 0), .inr (15, 7, 1), .inl (.iload_n 1)] 95 _ _ (by decide +kernel) rfl ?_
          refine aw_iald (j := x) (by decide +kernel) rfl (by omega) (by omega) (fun r101 => ?_)
          refine aw_blk (pc' := 107) (ls' := [some (vr 7 0), some (vi (x : Int)), some (vi (y : Int)), some (vi bi), some (vi (k : Int))]) (st' := [vi (y : Int), vr 7 3, vi (fi2 x), vr 7 0]) [.inl (.aload_n 0), .inr (18, 7, 2), .inl (.iload_n 2)] 102 _ _ (by decide +kernel) rfl ?_
          rw [e2]
          refine aw_dV (cs' := 0) (sl' := 0) (pc' := 110) (st' := []) (idx := 76) (as := [vi (ta k - b0), vr 7 3, vi (y : Int)]) (st := []) (m_D_giveBack_se (y := y) s1.1 s1.2.1 (fun j hj => by rw [hag j hj]; exact hp j hj) (by omega) (by omega) (dcr_in htl (by omega))) (by decide +kernel) (show vOK "ChanceBench$Dice" 76 M_D_giveBackThrows 3 = true by decide +kernel) rfl rfl rfl (Nat.le_of_ble_eq_true rfl) (by decide) (by decide) (by decide) rfl rfl rfl rfl ?_
          rw [icr_back hag]
          have hR1 := exR_upA hR
          have hV3 : dV S ta len A Bl fi2 se2 tl := ⟨pre_ext hV.1 (by rw [hx]; exact hR1.1), pre_ext hV.2.1 (by rw [hy]; exact hag), hV.2.2⟩
          have hln1 := ext_len S n m b0 7 (A ++ [ta k - b0]) Bl 6000
          rw [hlen, hy, show n - (x + 1) = n - x - 1 by omega] at hln1
          refine l_D_e110_8 (F := F + (ext S n m b0 7 (A ++ [ta k - b0]) Bl 6000).length) hS hP hV3 hx hy hf hk ek (fun hlt => by have := pb_AB (p := n - x) (q := m - y) (by omega) (by omega); omega) (fun kp' fi' se' h9 => ?_)
          have := hq kp' fi' se' (exR_app hR1 h9)
          rw [List.length_append, ← Nat.add_assoc] at this
          exact this
        · have eA : exA S n m b0 7 A Bl bar = [] := by unfold exA; rw [ek, if_neg (fun z => ok z.2.2)]
          refine aw_dV (cs' := 0) (sl' := 0) (pc' := 83) (st' := [vi 0]) (idx := 72) (as := [vi (ta k - b0), vr 7 3, vi (y : Int)]) (st := []) (m_D_take_se_0 (y := y) s1.1 s1.2.1 hp (by omega) (by omega) (fun i hi => by have := htl i hi; omega) (fun i hi => by have := htl i hi; omega) (by rw [← hy]; exact fun z => ok ((tkA hS hP hV).mp z))) (by decide +kernel) (show vOK "ChanceBench$Dice" 72 M_D_takeThrows 3 = true by decide +kernel) rfl rfl rfl (Nat.le_of_ble_eq_true rfl) (by decide) (by decide) (by decide) rfl rfl rfl rfl ?_
          refine aw_if_eq (o := 27) (tgt := 110) (by decide +kernel) (by decide) (by omega) (fun _ => ?_) (fun c => absurd (by omega) c)
          have hV3 : dV S ta len A Bl (va_up fi x (ta k - b0)) se tl := ⟨pre_ext hV.1 (fun i hi => by simp only [va_up]; rw [if_neg (by omega)]), hV.2.1, hV.2.2⟩
          refine l_D_e110_8 hS hP hV3 hx hy hf hk ek (fun hlt => by have := pb_B (p := n - x) (q := m - y) (by omega); omega) (fun kp' fi' se' h9 => ?_)
          rw [eA, List.nil_append] at hq
          exact hq kp' fi' se' ⟨fun i hi => by rw [h9.1 i hi]; simp only [va_up]; rw [if_neg (by omega)], h9.2⟩
theorem m_D_ext_8 (hS : dS S ta len n m b0) (hP : dP S n m b0 A Bl) (hV : dV S ta len A Bl fi se tl) (hx : A.length = x) (hy : Bl.length = y) (hf : (n - x) + (m - y) ≤ 8) (hb : bR ta len bi bar) (hF : F + pb (n - x) (m - y) ≤ 252) : AMet G (M_D_extend 8) [vr 7 0, vi (x : Int), vi (y : Int), vi bi] (Hp b s t mk df jo tr (sgD (len : Int) (F : Int) (n : Int) (m : Int) kp fi se ta tl) mo dy) (fun r h => r = none ∧ ∃ kp' fi' se', exR x y F kp fi se (ext S n m b0 8 A Bl bar) kp' fi' se' ∧ h = Hp b s t mk df jo tr (sgD (len : Int) ((F + (ext S n m b0 8 A Bl bar).length : Nat) : Int) (n : Int) (m : Int) kp' fi' se' ta tl) mo dy) (fun _ => False) := by
  refine am_rel (by decide +kernel) (Nat.le_of_ble_eq_true rfl) (fun Qr Qt hq => ?_)
  have hpb := pb_pos (n - x) (m - y)
  have s2 := hS.2.2.2
  have p3 := hP.2.2.1
  have p4 := hP.2.2.2.1
  refine aw_blk (pc' := 5) (ls' := [some (vr 7 0), some (vi (x : Int)), some (vi (y : Int)), some (vi bi), none]) (st' := [vi (n : Int), vi (x : Int)]) [.inl (.iload_n 1), .inl (.aload_n 0), .inr (34, 7, 7)] 0 _ _ (by decide +kernel) rfl ?_
  refine aw_icmp_lt (o := 16) (tgt := 21) (by decide +kernel) (by decide) (by omega) (by omega) (fun c5 => ?_) (fun c5 => ?_)
  · exact l_D_e21_8 hS hP hV hx hy hb (by omega) hf hF (fun kp' fi' se' h9 => hq _ _ ⟨rfl, kp', fi', se', h9, rfl⟩)
  · refine aw_blk (pc' := 13) (ls' := [some (vr 7 0), some (vi (x : Int)), some (vi (y : Int)), some (vi bi), none]) (st' := [vi (m : Int), vi (y : Int)]) [.inl (.iload_n 2), .inl (.aload_n 0), .inr (37, 7, 8)] 8 _ _ (by decide +kernel) rfl ?_
    refine aw_icmp_lt (o := 8) (tgt := 21) (by decide +kernel) (by decide) (by omega) (by omega) (fun c13 => ?_) (fun c13 => ?_)
    · exact l_D_e21_8 hS hP hV hx hy hb (by omega) hf hF (fun kp' fi' se' h9 => hq _ _ ⟨rfl, kp', fi', se', h9, rfl⟩)
    · refine aw_blk (pc' := 17) (ls' := [some (vr 7 0), some (vi (x : Int)), some (vi (y : Int)), some (vi bi), none]) (st' := [vr 7 0]) [.inl (.aload_n 0)] 16 _ _ (by decide +kernel) rfl ?_
      refine aw_dV (cs' := 0) (sl' := 0) (pc' := 20) (st' := []) (idx := 65) (as := []) (st := []) (m_D_keep (by omega)) (by decide +kernel) (show vOK "ChanceBench$Dice" 65 M_D_keep 0 = true by decide +kernel) rfl rfl rfl (Nat.le_of_ble_eq_true rfl) (by decide) (by decide) (by decide) rfl rfl rfl rfl ?_
      have eX : ext S n m b0 8 A Bl bar = [(A, Bl)] := by rw [ext, if_pos (by omega)]
      rw [eX] at hq
      exact aw_vret (by decide +kernel) rfl (by decide) (by decide) (hq _ _ ⟨rfl, kpR kp fi se F 6, fi, se, ⟨fun _ _ => rfl, fun _ _ => rfl, fun k hk => by unfold kpR; rw [if_neg (by omega), if_neg (by omega)], kp_row hV.1 hV.2.1⟩, rfl⟩)

theorem l_D_e110_9 {Qr : Option AV → HT → Prop} {Qt : HT → Prop} (hS : dS S ta len n m b0) (hP : dP S n m b0 A Bl) (hV : dV S ta len A Bl fi se tl) (hx : A.length = x) (hy : Bl.length = y) (hf : (n - x) + (m - y) ≤ 9) (hk : k < len) (ek : lsU (rem_ S A Bl) = ta k) (hF2 : y < m → F + pb (n - x) (m - y - 1) ≤ 252) (hq : ∀ kp' fi' se', exR x y F kp fi se (exB S n m b0 8 A Bl) kp' fi' se' → Qr none (Hp b s t mk df jo tr (sgD (len : Int) ((F + (exB S n m b0 8 A Bl).length : Nat) : Int) (n : Int) (m : Int) kp' fi' se' ta tl) mo dy)) : AW G (M_D_extend 9) Qr Qt 0 0 110 [some (vr 7 0), some (vi (x : Int)), some (vi (y : Int)), some (vi bi), some (vi (k : Int))] [] (Hp b s t mk df jo tr (sgD (len : Int) (F : Int) (n : Int) (m : Int) kp fi se ta tl) mo dy) := by
  have s1 := hS.1
  have s2 := hS.2.2.2
  have p3 := hP.2.2.1
  have p4 := hP.2.2.2.1
  have p5 := hP.2.2.2.2.1
  have p6 := hP.2.2.2.2.2.1
  have l1 := pre_len hP.1
  have l2 := pre_len hP.2.1
  have e0 : fi 0 = 0 := hV.1 0 0 hP.1
  have hrk := hS.1.2.2 k hk
  have htl := tl_in hS hP hV
  refine aw_blk (pc' := 115) (ls' := [some (vr 7 0), some (vi (x : Int)), some (vi (y : Int)), some (vi bi), some (vi (k : Int))]) (st' := [vi (m : Int), vi (y : Int)]) [.inl (.iload_n 2), .inl (.aload_n 0), .inr (37, 7, 8)] 110 _ _ (by decide +kernel) rfl ?_
  refine aw_icmp_ge (o := 66) (tgt := 181) (by decide +kernel) (by decide) (by omega) (by omega) (fun c115 => ?_) (fun c115 => ?_)
  · have eB : exB S n m b0 8 A Bl = [] := by unfold exB; rw [if_neg (by omega)]
    rw [eB] at hq
    exact aw_vret (by decide +kernel) rfl (by decide) (by decide) (hq kp fi se exR_nil)
  · refine aw_blk (pc' := 129) (ls' := [some (vr 7 0), some (vi (x : Int)), some (vi (y : Int)), some (vi bi), some (vi (k : Int))]) (st' := [vi (k : Int), vr 7 4, vi (y : Int), vr 7 3]) [.inl (.aload_n 0), .inr (18, 7, 2), .inl (.iload_n 2), .inl (.aload_n 0), .inr (21, 7, 3), .inl (.iload 4)] 118 _ _ (by decide +kernel) rfl ?_
    refine aw_iald (j := k) (by decide +kernel) rfl (by omega) (by omega) (fun r129 => ?_)
    refine aw_blk (pc' := 135) (ls' := [some (vr 7 0), some (vi (x : Int)), some (vi (y : Int)), some (vi bi), some (vi (k : Int))]) (st' := [vi 0, vr 7 2, vi (ta k), vi (y : Int), vr 7 3]) [.inl (.aload_n 0), .inr (15, 7, 1), .inl (.iconst 0)] 130 _ _ (by decide +kernel) rfl ?_
    refine aw_iald (j := 0) (by decide +kernel) rfl (by omega) (by omega) (fun r135 => ?_)
    refine aw_blk (pc' := 137) (ls' := [some (vr 7 0), some (vi (x : Int)), some (vi (y : Int)), some (vi bi), some (vi (k : Int))]) (st' := [vi ((ta k) - (fi 0)), vi (y : Int), vr 7 3]) [.inl (.isub)] 136 _ _ (by decide +kernel) rfl ?_
    rw [show ta k - fi 0 = ta k by omega]
    refine aw_iast (j := y) (h' := Hp b s t mk df jo tr [some (ob 7 [vr 7 1, vr 7 2, vr 7 3, vr 7 4, vr 7 5, vi (len : Int), vi (F : Int), vi (n : Int), vi (m : Int)]), some (ar 0 3024 kp), some (ar 0 6 fi), some (ar 0 6 (va_up se y (ta k))), some (ar 0 24 ta), some (ar 0 24 tl)] mo dy) (by decide +kernel) rfl rfl (by omega) (by omega) rfl ?_
    refine aw_blk (pc' := 144) (ls' := [some (vr 7 0), some (vi (x : Int)), some (vi (y : Int)), some (vi bi), some (vi (k : Int))]) (st' := [vi (y : Int), vr 7 3, vr 7 0]) [.inl (.aload_n 0), .inl (.aload_n 0), .inr (18, 7, 2), .inl (.iload_n 2)] 138 _ _ (by decide +kernel) rfl ?_
    refine aw_iald (j := y) (by decide +kernel) rfl (by omega) (by omega) (fun r144 => ?_)
    refine aw_blk (pc' := 150) (ls' := [some (vr 7 0), some (vi (x : Int)), some (vi (y : Int)), some (vi bi), some (vi (k : Int))]) (st' := [vi (x : Int), vr 7 2, vi ((va_up se y (ta k)) y), vr 7 0]) [.inl (.aload_n 0), .inr (15, 7, 1), .inl (.iload_n 1)] 145 _ _ (by decide +kernel) rfl ?_
    rw [va_eq]
    by_cases ok : okB S A Bl (ta k) = true
    · have eB : exB S n m b0 8 A Bl = ext S n m b0 8 A (Bl ++ [ta k]) (ta k) := by unfold exB; rw [ek, if_pos ⟨by omega, ok⟩]
      rw [eB] at hq
      have hlen : (Bl ++ [ta k]).length = y + 1 := by rw [List.length_append, hy]; rfl
      have hp := pre_fB hV.1 p5
      rw [hx] at hp
      refine aw_dV (cs' := 0) (sl' := 0) (pc' := 153) (st' := [vi 1]) (idx := 72) (as := [vi (ta k), vr 7 2, vi (x : Int)]) (st := []) (m_D_take_fi_1 (y := x) s1.1 s1.2.1 hp (by omega) (by omega) (fun i hi => by have := htl i hi; omega) (by rw [← hx]; exact (tkB hS hP hV).mpr ok)) (by decide +kernel) (show vOK "ChanceBench$Dice" 72 M_D_takeThrows 3 = true by decide +kernel) rfl rfl rfl (Nat.le_of_ble_eq_true rfl) (by decide) (by decide) (by decide) rfl rfl rfl rfl ?_
      refine aw_if_eq (o := 28) (tgt := 181) (by decide +kernel) (by decide) (by omega) (fun c => absurd c (by omega)) (fun _ => ?_)
      refine aw_blk (pc' := 163) (ls' := [some (vr 7 0), some (vi (x : Int)), some (vi (y : Int)), some (vi bi), some (vi (k : Int))]) (st' := [vi (k : Int), vi ((y : Int) + 1), vi (x : Int), vr 7 0]) [.inl (.aload_n 0), .inl (.iload_n 1), .inl (.iload_n 2), .inl (.iconst 1), .inl (.iadd), .inl (.iload 4)] 156 _ _ (by decide +kernel) rfl ?_
      have hV2 := dV_B (v := ta k) hV
      rw [hx, hy] at hV2
      refine aw_rV (cs' := 0) (sl' := 0) (pc' := 166) (idx := 61) (as := [vi (x : Int), vi ((y : Int) + 1), vi (k : Int)]) (st := []) (m_D_ext_8 (x := x) (y := y + 1) (F := F) (bar := ta k) hS (dP_B hP (by omega) (by omega) ok) hV2 hx hlen (by omega) (Or.inr ⟨k, hk, rfl, rfl⟩) (by have := hF2 (by omega); rw [show m - (y + 1) = m - y - 1 by omega]; exact this)) (by decide +kernel) (show vOK "ChanceBench$Dice" 61 (M_D_extend 8) 3 = true by decide +kernel) rfl rfl rfl (Nat.le_of_ble_eq_true rfl) (by decide) (by decide) (by decide) rfl rfl rfl (fun r163 h163 z163 => ?_)
      obtain ⟨rfl, kp2, fi2, se2, hR, rfl⟩ := z163
      have e2 : se2 y = ta k := by rw [hR.2.1 y (by omega), va_eq]
      have hag : ∀ j, j < x → fi2 j = fi j := hR.1
      refine aw_blk (pc' := 172) (ls' := [some (vr 7 0), some (vi (x : Int)), some (vi (y : Int)), some (vi bi), some (vi (k : Int))]) (st' := [vi (y : Int), vr 7 3, vr 7 0]) [.inl (.aload_n 0), .inl (.aload_n 0), .inr (18, 7, 2), .inl (.iload_n 2)] 166 _ _ (by decide +kernel) rfl ?_
      refine aw_iald (j := y) (by decide +kernel) rfl (by omega) (by omega) (fun r172 => ?_)
      refine aw_blk (pc' := 178) (ls' := [some (vr 7 0), some (vi (x : Int)), some (vi (y : Int)), some (vi bi), some (vi (k : Int))]) (st' := [vi (x : Int), vr 7 2, vi (se2 y), vr 7 0]) [.inl (.aload_n 0), .inr (15, 7, 1), .inl (.iload_n 1)] 173 _ _ (by decide +kernel) rfl ?_
      rw [e2]
      refine aw_dV (cs' := 0) (sl' := 0) (pc' := 181) (st' := []) (idx := 76) (as := [vi (ta k), vr 7 2, vi (x : Int)]) (st := []) (m_D_giveBack_fi (y := x) s1.1 s1.2.1 (fun j hj => by rw [hag j hj]; exact hp j hj) (by omega) (by omega) (dcr_in htl (by omega))) (by decide +kernel) (show vOK "ChanceBench$Dice" 76 M_D_giveBackThrows 3 = true by decide +kernel) rfl rfl rfl (Nat.le_of_ble_eq_true rfl) (by decide) (by decide) (by decide) rfl rfl rfl rfl ?_
      rw [icr_back hag]
      exact aw_vret (by decide +kernel) rfl (by decide) (by decide) (hq kp2 fi2 se2 (exR_up hR))
    · have eB : exB S n m b0 8 A Bl = [] := by unfold exB; rw [ek, if_neg (fun z => ok z.2)]
      rw [eB] at hq
      have hp := pre_fB hV.1 p5
      rw [hx] at hp
      refine aw_dV (cs' := 0) (sl' := 0) (pc' := 153) (st' := [vi 0]) (idx := 72) (as := [vi (ta k), vr 7 2, vi (x : Int)]) (st := []) (m_D_take_fi_0 (y := x) s1.1 s1.2.1 hp (by omega) (by omega) (fun i hi => by have := htl i hi; omega) (fun i hi => by have := htl i hi; omega) (by rw [← hx]; exact fun z => ok ((tkB hS hP hV).mp z))) (by decide +kernel) (show vOK "ChanceBench$Dice" 72 M_D_takeThrows 3 = true by decide +kernel) rfl rfl rfl (Nat.le_of_ble_eq_true rfl) (by decide) (by decide) (by decide) rfl rfl rfl rfl ?_
      refine aw_if_eq (o := 28) (tgt := 181) (by decide +kernel) (by decide) (by omega) (fun _ => ?_) (fun c => absurd (by omega) c)
      exact aw_vret (by decide +kernel) rfl (by decide) (by decide) (hq kp fi (va_up se y (ta k)) (exR_up ⟨fun _ _ => rfl, fun _ _ => rfl, fun _ _ => rfl, rows_nil⟩))
theorem l_D_e21_9 {Qr : Option AV → HT → Prop} {Qt : HT → Prop} (hS : dS S ta len n m b0) (hP : dP S n m b0 A Bl) (hV : dV S ta len A Bl fi se tl) (hx : A.length = x) (hy : Bl.length = y) (hb : bR ta len bi bar) (hnd : ¬ (n ≤ x ∧ m ≤ y)) (hf : (n - x) + (m - y) ≤ 9) (hF : F + pb (n - x) (m - y) ≤ 252) (hq : ∀ kp' fi' se', exR x y F kp fi se (ext S n m b0 9 A Bl bar) kp' fi' se' → Qr none (Hp b s t mk df jo tr (sgD (len : Int) ((F + (ext S n m b0 9 A Bl bar).length : Nat) : Int) (n : Int) (m : Int) kp' fi' se' ta tl) mo dy)) : AW G (M_D_extend 9) Qr Qt 0 0 21 [some (vr 7 0), some (vi (x : Int)), some (vi (y : Int)), some (vi bi), none] [] (Hp b s t mk df jo tr (sgD (len : Int) (F : Int) (n : Int) (m : Int) kp fi se ta tl) mo dy) := by
  have s1 := hS.1
  have s2 := hS.2.2.2
  have p3 := hP.2.2.1
  have p4 := hP.2.2.2.1
  have p5 := hP.2.2.2.2.1
  have p6 := hP.2.2.2.2.2.1
  have l1 := pre_len hP.1
  have l2 := pre_len hP.2.1
  have e0 : se 0 = b0 := hV.2.1 0 b0 hP.2.1
  have htl := tl_in hS hP hV
  have hbi : I32 bi := by rcases hb with ⟨z, _⟩ | ⟨i, z, q, _⟩ <;> omega
  refine aw_blk (pc' := 22) (ls' := [some (vr 7 0), some (vi (x : Int)), some (vi (y : Int)), some (vi bi), none]) (st' := [vr 7 0]) [.inl (.aload_n 0)] 21 _ _ (by decide +kernel) rfl ?_
  refine aw_dV (cs' := 0) (sl' := 0) (pc' := 25) (st' := [vi (lsI tl len 0)]) (idx := 68) (as := []) (st := []) (m_D_leastThrowLeft s1.1) (by decide +kernel) (show vOK "ChanceBench$Dice" 68 M_D_leastThrowLeft 0 = true by decide +kernel) rfl rfl rfl (Nat.le_of_ble_eq_true rfl) (by decide) (by decide) (by decide) rfl rfl rfl rfl ?_
  rcases ls_rel s1.2.1 s1.2.2 hV.2.2 (hta_R hS) with ⟨q1, q2⟩ | ⟨k, hk, q1, ek⟩
  · rw [q1]
    refine aw_blk (pc' := 30) (ls' := [some (vr 7 0), some (vi (x : Int)), some (vi (y : Int)), some (vi bi), some (vi (-1))]) (st' := [vi (-1), vi (-1)]) [.inl (.istore 4), .inl (.iload 4), .inl (.iconst (-1))] 25 _ _ (by decide +kernel) rfl ?_
    refine aw_icmp_ne (o := 4) (tgt := 34) (by decide +kernel) (by decide) (by omega) (by omega) (fun c => absurd (by omega) c) (fun _ => ?_)
    have eX : ext S n m b0 9 A Bl bar = [] := by rw [ext, if_neg (by omega), if_pos q2]
    rw [eX] at hq
    exact aw_vret (by decide +kernel) rfl (by decide) (by decide) (hq kp fi se exR_nil)
  · have hrk := hS.1.2.2 k hk
    rw [q1]
    have eX : ext S n m b0 9 A Bl bar = exA S n m b0 8 A Bl bar ++ exB S n m b0 8 A Bl := ext_s S n m b0 8 A Bl bar (by omega) (by omega)
    rw [eX] at hq
    refine aw_blk (pc' := 30) (ls' := [some (vr 7 0), some (vi (x : Int)), some (vi (y : Int)), some (vi bi), some (vi (k : Int))]) (st' := [vi (-1), vi (k : Int)]) [.inl (.istore 4), .inl (.iload 4), .inl (.iconst (-1))] 25 _ _ (by decide +kernel) rfl ?_
    refine aw_icmp_ne (o := 4) (tgt := 34) (by decide +kernel) (by decide) (by omega) (by omega) (fun _ => ?_) (fun c => absurd c (by omega))
    refine aw_blk (pc' := 39) (ls' := [some (vr 7 0), some (vi (x : Int)), some (vi (y : Int)), some (vi bi), some (vi (k : Int))]) (st' := [vi (n : Int), vi (x : Int)]) [.inl (.iload_n 1), .inl (.aload_n 0), .inr (34, 7, 7)] 34 _ _ (by decide +kernel) rfl ?_
    refine aw_icmp_ge (o := 71) (tgt := 110) (by decide +kernel) (by decide) (by omega) (by omega) (fun c39 => ?_) (fun c39 => ?_)
    · have eA : exA S n m b0 8 A Bl bar = [] := by unfold exA; rw [if_neg (by omega)]
      exact l_D_e110_9 hS hP hV hx hy hf hk ek (fun hlt => by have := pb_B (p := n - x) (q := m - y) (by omega); omega) (fun kp' fi' se' h9 => by rw [eA, List.nil_append] at hq; exact hq kp' fi' se' h9)
    · refine aw_blk (pc' := 45) (ls' := [some (vr 7 0), some (vi (x : Int)), some (vi (y : Int)), some (vi bi), some (vi (k : Int))]) (st' := [vi bi, vi (k : Int)]) [.inl (.iload 4), .inl (.iload_n 3)] 42 _ _ (by decide +kernel) rfl ?_
      refine aw_icmp_eq (o := 65) (tgt := 110) (by decide +kernel) (by decide) (by omega) (by omega) (fun c45 => ?_) (fun c45 => ?_)
      · have eA : exA S n m b0 8 A Bl bar = [] := by unfold exA; rw [ek, if_neg (fun z => z.2.1 (by rcases hb with ⟨z1, _⟩ | ⟨i, z1, z2, z3⟩; omega; rw [z3, show i = k by omega]))]
        exact l_D_e110_9 hS hP hV hx hy hf hk ek (fun hlt => by have := pb_B (p := n - x) (q := m - y) (by omega); omega) (fun kp' fi' se' h9 => by rw [eA, List.nil_append] at hq; exact hq kp' fi' se' h9)
      · have hne : ta k ≠ bar := fun e => by
          rcases hb with ⟨_, z2⟩ | ⟨i, z1, z2, z3⟩
          · omega
          · rw [z3] at e
            rcases Nat.lt_trichotomy k i with q | q | q
            · have := s1.2.1 k i q z1; omega
            · omega
            · have := s1.2.1 i k q hk; omega
        refine aw_blk (pc' := 59) (ls' := [some (vr 7 0), some (vi (x : Int)), some (vi (y : Int)), some (vi bi), some (vi (k : Int))]) (st' := [vi (k : Int), vr 7 4, vi (x : Int), vr 7 2]) [.inl (.aload_n 0), .inr (15, 7, 1), .inl (.iload_n 1), .inl (.aload_n 0), .inr (21, 7, 3), .inl (.iload 4)] 48 _ _ (by decide +kernel) rfl ?_
        refine aw_iald (j := k) (by decide +kernel) rfl (by omega) (by omega) (fun r59 => ?_)
        refine aw_blk (pc' := 65) (ls' := [some (vr 7 0), some (vi (x : Int)), some (vi (y : Int)), some (vi bi), some (vi (k : Int))]) (st' := [vi 0, vr 7 3, vi (ta k), vi (x : Int), vr 7 2]) [.inl (.aload_n 0), .inr (18, 7, 2), .inl (.iconst 0)] 60 _ _ (by decide +kernel) rfl ?_
        refine aw_iald (j := 0) (by decide +kernel) rfl (by omega) (by omega) (fun r65 => ?_)
        refine aw_blk (pc' := 67) (ls' := [some (vr 7 0), some (vi (x : Int)), some (vi (y : Int)), some (vi bi), some (vi (k : Int))]) (st' := [vi ((ta k) - (se 0)), vi (x : Int), vr 7 2]) [.inl (.isub)] 66 _ _ (by decide +kernel) rfl ?_
        rw [e0]
        refine aw_iast (j := x) (h' := Hp b s t mk df jo tr [some (ob 7 [vr 7 1, vr 7 2, vr 7 3, vr 7 4, vr 7 5, vi (len : Int), vi (F : Int), vi (n : Int), vi (m : Int)]), some (ar 0 3024 kp), some (ar 0 6 (va_up fi x (ta k - b0))), some (ar 0 6 se), some (ar 0 24 ta), some (ar 0 24 tl)] mo dy) (by decide +kernel) rfl rfl (by omega) (by omega) rfl ?_
        refine aw_blk (pc' := 74) (ls' := [some (vr 7 0), some (vi (x : Int)), some (vi (y : Int)), some (vi bi), some (vi (k : Int))]) (st' := [vi (x : Int), vr 7 2, vr 7 0]) [.inl (.aload_n 0), .inl (.aload_n 0), .inr (15, 7, 1), .inl (.iload_n 1)] 68 _ _ (by decide +kernel) rfl ?_
        refine aw_iald (j := x) (by decide +kernel) rfl (by omega) (by omega) (fun r74 => ?_)
        refine aw_blk (pc' := 80) (ls' := [some (vr 7 0), some (vi (x : Int)), some (vi (y : Int)), some (vi bi), some (vi (k : Int))]) (st' := [vi (y : Int), vr 7 3, vi ((va_up fi x (ta k - b0)) x), vr 7 0]) [.inl (.aload_n 0), .inr (18, 7, 2), .inl (.iload_n 2)] 75 _ _ (by decide +kernel) rfl ?_
        rw [va_eq]
        have hp := pre_fB hV.2.1 p6
        rw [hy] at hp
        by_cases ok : okA S A Bl (ta k - b0) = true
        · have eA : exA S n m b0 8 A Bl bar = ext S n m b0 8 (A ++ [ta k - b0]) Bl 6000 := by unfold exA; rw [ek, if_pos ⟨by omega, hne, ok⟩]
          rw [eA] at hq
          have hlen : (A ++ [ta k - b0]).length = x + 1 := by rw [List.length_append, hx]; rfl
          refine aw_dV (cs' := 0) (sl' := 0) (pc' := 83) (st' := [vi 1]) (idx := 72) (as := [vi (ta k - b0), vr 7 3, vi (y : Int)]) (st := []) (m_D_take_se_1 (y := y) s1.1 s1.2.1 hp (by omega) (by omega) (fun i hi => by have := htl i hi; omega) (by rw [← hy]; exact (tkA hS hP hV).mpr ok)) (by decide +kernel) (show vOK "ChanceBench$Dice" 72 M_D_takeThrows 3 = true by decide +kernel) rfl rfl rfl (Nat.le_of_ble_eq_true rfl) (by decide) (by decide) (by decide) rfl rfl rfl rfl ?_
          refine aw_if_eq (o := 27) (tgt := 110) (by decide +kernel) (by decide) (by omega) (fun c => absurd c (by omega)) (fun _ => ?_)
          refine aw_blk (pc' := 92) (ls' := [some (vr 7 0), some (vi (x : Int)), some (vi (y : Int)), some (vi bi), some (vi (k : Int))]) (st' := [vi (-1), vi (y : Int), vi ((x : Int) + 1), vr 7 0]) [.inl (.aload_n 0), .inl (.iload_n 1), .inl (.iconst 1), .inl (.iadd), .inl (.iload_n 2), .inl (.iconst (-1))] 86 _ _ (by decide +kernel) rfl ?_
          have hV2 := dV_A (v := ta k - b0) hV
          rw [hx, hy] at hV2
          refine aw_rV (cs' := 0) (sl' := 0) (pc' := 95) (idx := 61) (as := [vi ((x : Int) + 1), vi (y : Int), vi (-1)]) (st := []) (m_D_ext_8 (x := x + 1) (y := y) (F := F) (bar := 6000) hS (dP_A hP (by omega) (by omega) ok) hV2 hlen hy (by omega) (Or.inl ⟨rfl, rfl⟩) (by have := pb_A (p := n - x) (q := m - y) (by omega); rw [show n - (x + 1) = n - x - 1 by omega]; omega)) (by decide +kernel) (show vOK "ChanceBench$Dice" 61 (M_D_extend 8) 3 = true by decide +kernel) rfl rfl rfl (Nat.le_of_ble_eq_true rfl) (by decide) (by decide) (by decide) rfl rfl rfl (fun r92 h92 z92 => ?_)
          obtain ⟨rfl, kp2, fi2, se2, hR, rfl⟩ := z92
          have e2 : fi2 x = ta k - b0 := by rw [hR.1 x (by omega), va_eq]
          have hag : ∀ j, j < y → se2 j = se j := hR.2.1
          refine aw_blk (pc' := 101) (ls' := [some (vr 7 0), some (vi (x : Int)), some (vi (y : Int)), some (vi bi), some (vi (k : Int))]) (st' := [vi (x : Int), vr 7 2, vr 7 0]) [.inl (.aload_n 0), .inl (.aload_n 0), .inr (15, 7, 1), .inl (.iload_n 1)] 95 _ _ (by decide +kernel) rfl ?_
          refine aw_iald (j := x) (by decide +kernel) rfl (by omega) (by omega) (fun r101 => ?_)
          refine aw_blk (pc' := 107) (ls' := [some (vr 7 0), some (vi (x : Int)), some (vi (y : Int)), some (vi bi), some (vi (k : Int))]) (st' := [vi (y : Int), vr 7 3, vi (fi2 x), vr 7 0]) [.inl (.aload_n 0), .inr (18, 7, 2), .inl (.iload_n 2)] 102 _ _ (by decide +kernel) rfl ?_
          rw [e2]
          refine aw_dV (cs' := 0) (sl' := 0) (pc' := 110) (st' := []) (idx := 76) (as := [vi (ta k - b0), vr 7 3, vi (y : Int)]) (st := []) (m_D_giveBack_se (y := y) s1.1 s1.2.1 (fun j hj => by rw [hag j hj]; exact hp j hj) (by omega) (by omega) (dcr_in htl (by omega))) (by decide +kernel) (show vOK "ChanceBench$Dice" 76 M_D_giveBackThrows 3 = true by decide +kernel) rfl rfl rfl (Nat.le_of_ble_eq_true rfl) (by decide) (by decide) (by decide) rfl rfl rfl rfl ?_
          rw [icr_back hag]
          have hR1 := exR_upA hR
          have hV3 : dV S ta len A Bl fi2 se2 tl := ⟨pre_ext hV.1 (by rw [hx]; exact hR1.1), pre_ext hV.2.1 (by rw [hy]; exact hag), hV.2.2⟩
          have hln1 := ext_len S n m b0 8 (A ++ [ta k - b0]) Bl 6000
          rw [hlen, hy, show n - (x + 1) = n - x - 1 by omega] at hln1
          refine l_D_e110_9 (F := F + (ext S n m b0 8 (A ++ [ta k - b0]) Bl 6000).length) hS hP hV3 hx hy hf hk ek (fun hlt => by have := pb_AB (p := n - x) (q := m - y) (by omega) (by omega); omega) (fun kp' fi' se' h9 => ?_)
          have := hq kp' fi' se' (exR_app hR1 h9)
          rw [List.length_append, ← Nat.add_assoc] at this
          exact this
        · have eA : exA S n m b0 8 A Bl bar = [] := by unfold exA; rw [ek, if_neg (fun z => ok z.2.2)]
          refine aw_dV (cs' := 0) (sl' := 0) (pc' := 83) (st' := [vi 0]) (idx := 72) (as := [vi (ta k - b0), vr 7 3, vi (y : Int)]) (st := []) (m_D_take_se_0 (y := y) s1.1 s1.2.1 hp (by omega) (by omega) (fun i hi => by have := htl i hi; omega) (fun i hi => by have := htl i hi; omega) (by rw [← hy]; exact fun z => ok ((tkA hS hP hV).mp z))) (by decide +kernel) (show vOK "ChanceBench$Dice" 72 M_D_takeThrows 3 = true by decide +kernel) rfl rfl rfl (Nat.le_of_ble_eq_true rfl) (by decide) (by decide) (by decide) rfl rfl rfl rfl ?_
          refine aw_if_eq (o := 27) (tgt := 110) (by decide +kernel) (by decide) (by omega) (fun _ => ?_) (fun c => absurd (by omega) c)
          have hV3 : dV S ta len A Bl (va_up fi x (ta k - b0)) se tl := ⟨pre_ext hV.1 (fun i hi => by simp only [va_up]; rw [if_neg (by omega)]), hV.2.1, hV.2.2⟩
          refine l_D_e110_9 hS hP hV3 hx hy hf hk ek (fun hlt => by have := pb_B (p := n - x) (q := m - y) (by omega); omega) (fun kp' fi' se' h9 => ?_)
          rw [eA, List.nil_append] at hq
          exact hq kp' fi' se' ⟨fun i hi => by rw [h9.1 i hi]; simp only [va_up]; rw [if_neg (by omega)], h9.2⟩
theorem m_D_ext_9 (hS : dS S ta len n m b0) (hP : dP S n m b0 A Bl) (hV : dV S ta len A Bl fi se tl) (hx : A.length = x) (hy : Bl.length = y) (hf : (n - x) + (m - y) ≤ 9) (hb : bR ta len bi bar) (hF : F + pb (n - x) (m - y) ≤ 252) : AMet G (M_D_extend 9) [vr 7 0, vi (x : Int), vi (y : Int), vi bi] (Hp b s t mk df jo tr (sgD (len : Int) (F : Int) (n : Int) (m : Int) kp fi se ta tl) mo dy) (fun r h => r = none ∧ ∃ kp' fi' se', exR x y F kp fi se (ext S n m b0 9 A Bl bar) kp' fi' se' ∧ h = Hp b s t mk df jo tr (sgD (len : Int) ((F + (ext S n m b0 9 A Bl bar).length : Nat) : Int) (n : Int) (m : Int) kp' fi' se' ta tl) mo dy) (fun _ => False) := by
  refine am_rel (by decide +kernel) (Nat.le_of_ble_eq_true rfl) (fun Qr Qt hq => ?_)
  have hpb := pb_pos (n - x) (m - y)
  have s2 := hS.2.2.2
  have p3 := hP.2.2.1
  have p4 := hP.2.2.2.1
  refine aw_blk (pc' := 5) (ls' := [some (vr 7 0), some (vi (x : Int)), some (vi (y : Int)), some (vi bi), none]) (st' := [vi (n : Int), vi (x : Int)]) [.inl (.iload_n 1), .inl (.aload_n 0), .inr (34, 7, 7)] 0 _ _ (by decide +kernel) rfl ?_
  refine aw_icmp_lt (o := 16) (tgt := 21) (by decide +kernel) (by decide) (by omega) (by omega) (fun c5 => ?_) (fun c5 => ?_)
  · exact l_D_e21_9 hS hP hV hx hy hb (by omega) hf hF (fun kp' fi' se' h9 => hq _ _ ⟨rfl, kp', fi', se', h9, rfl⟩)
  · refine aw_blk (pc' := 13) (ls' := [some (vr 7 0), some (vi (x : Int)), some (vi (y : Int)), some (vi bi), none]) (st' := [vi (m : Int), vi (y : Int)]) [.inl (.iload_n 2), .inl (.aload_n 0), .inr (37, 7, 8)] 8 _ _ (by decide +kernel) rfl ?_
    refine aw_icmp_lt (o := 8) (tgt := 21) (by decide +kernel) (by decide) (by omega) (by omega) (fun c13 => ?_) (fun c13 => ?_)
    · exact l_D_e21_9 hS hP hV hx hy hb (by omega) hf hF (fun kp' fi' se' h9 => hq _ _ ⟨rfl, kp', fi', se', h9, rfl⟩)
    · refine aw_blk (pc' := 17) (ls' := [some (vr 7 0), some (vi (x : Int)), some (vi (y : Int)), some (vi bi), none]) (st' := [vr 7 0]) [.inl (.aload_n 0)] 16 _ _ (by decide +kernel) rfl ?_
      refine aw_dV (cs' := 0) (sl' := 0) (pc' := 20) (st' := []) (idx := 65) (as := []) (st := []) (m_D_keep (by omega)) (by decide +kernel) (show vOK "ChanceBench$Dice" 65 M_D_keep 0 = true by decide +kernel) rfl rfl rfl (Nat.le_of_ble_eq_true rfl) (by decide) (by decide) (by decide) rfl rfl rfl rfl ?_
      have eX : ext S n m b0 9 A Bl bar = [(A, Bl)] := by rw [ext, if_pos (by omega)]
      rw [eX] at hq
      exact aw_vret (by decide +kernel) rfl (by decide) (by decide) (hq _ _ ⟨rfl, kpR kp fi se F 6, fi, se, ⟨fun _ _ => rfl, fun _ _ => rfl, fun k hk => by unfold kpR; rw [if_neg (by omega), if_neg (by omega)], kp_row hV.1 hV.2.1⟩, rfl⟩)

theorem l_D_e110_10 {Qr : Option AV → HT → Prop} {Qt : HT → Prop} (hS : dS S ta len n m b0) (hP : dP S n m b0 A Bl) (hV : dV S ta len A Bl fi se tl) (hx : A.length = x) (hy : Bl.length = y) (hf : (n - x) + (m - y) ≤ 10) (hk : k < len) (ek : lsU (rem_ S A Bl) = ta k) (hF2 : y < m → F + pb (n - x) (m - y - 1) ≤ 252) (hq : ∀ kp' fi' se', exR x y F kp fi se (exB S n m b0 9 A Bl) kp' fi' se' → Qr none (Hp b s t mk df jo tr (sgD (len : Int) ((F + (exB S n m b0 9 A Bl).length : Nat) : Int) (n : Int) (m : Int) kp' fi' se' ta tl) mo dy)) : AW G (M_D_extend 10) Qr Qt 0 0 110 [some (vr 7 0), some (vi (x : Int)), some (vi (y : Int)), some (vi bi), some (vi (k : Int))] [] (Hp b s t mk df jo tr (sgD (len : Int) (F : Int) (n : Int) (m : Int) kp fi se ta tl) mo dy) := by
  have s1 := hS.1
  have s2 := hS.2.2.2
  have p3 := hP.2.2.1
  have p4 := hP.2.2.2.1
  have p5 := hP.2.2.2.2.1
  have p6 := hP.2.2.2.2.2.1
  have l1 := pre_len hP.1
  have l2 := pre_len hP.2.1
  have e0 : fi 0 = 0 := hV.1 0 0 hP.1
  have hrk := hS.1.2.2 k hk
  have htl := tl_in hS hP hV
  refine aw_blk (pc' := 115) (ls' := [some (vr 7 0), some (vi (x : Int)), some (vi (y : Int)), some (vi bi), some (vi (k : Int))]) (st' := [vi (m : Int), vi (y : Int)]) [.inl (.iload_n 2), .inl (.aload_n 0), .inr (37, 7, 8)] 110 _ _ (by decide +kernel) rfl ?_
  refine aw_icmp_ge (o := 66) (tgt := 181) (by decide +kernel) (by decide) (by omega) (by omega) (fun c115 => ?_) (fun c115 => ?_)
  · have eB : exB S n m b0 9 A Bl = [] := by unfold exB; rw [if_neg (by omega)]
    rw [eB] at hq
    exact aw_vret (by decide +kernel) rfl (by decide) (by decide) (hq kp fi se exR_nil)
  · refine aw_blk (pc' := 129) (ls' := [some (vr 7 0), some (vi (x : Int)), some (vi (y : Int)), some (vi bi), some (vi (k : Int))]) (st' := [vi (k : Int), vr 7 4, vi (y : Int), vr 7 3]) [.inl (.aload_n 0), .inr (18, 7, 2), .inl (.iload_n 2), .inl (.aload_n 0), .inr (21, 7, 3), .inl (.iload 4)] 118 _ _ (by decide +kernel) rfl ?_
    refine aw_iald (j := k) (by decide +kernel) rfl (by omega) (by omega) (fun r129 => ?_)
    refine aw_blk (pc' := 135) (ls' := [some (vr 7 0), some (vi (x : Int)), some (vi (y : Int)), some (vi bi), some (vi (k : Int))]) (st' := [vi 0, vr 7 2, vi (ta k), vi (y : Int), vr 7 3]) [.inl (.aload_n 0), .inr (15, 7, 1), .inl (.iconst 0)] 130 _ _ (by decide +kernel) rfl ?_
    refine aw_iald (j := 0) (by decide +kernel) rfl (by omega) (by omega) (fun r135 => ?_)
    refine aw_blk (pc' := 137) (ls' := [some (vr 7 0), some (vi (x : Int)), some (vi (y : Int)), some (vi bi), some (vi (k : Int))]) (st' := [vi ((ta k) - (fi 0)), vi (y : Int), vr 7 3]) [.inl (.isub)] 136 _ _ (by decide +kernel) rfl ?_
    rw [show ta k - fi 0 = ta k by omega]
    refine aw_iast (j := y) (h' := Hp b s t mk df jo tr [some (ob 7 [vr 7 1, vr 7 2, vr 7 3, vr 7 4, vr 7 5, vi (len : Int), vi (F : Int), vi (n : Int), vi (m : Int)]), some (ar 0 3024 kp), some (ar 0 6 fi), some (ar 0 6 (va_up se y (ta k))), some (ar 0 24 ta), some (ar 0 24 tl)] mo dy) (by decide +kernel) rfl rfl (by omega) (by omega) rfl ?_
    refine aw_blk (pc' := 144) (ls' := [some (vr 7 0), some (vi (x : Int)), some (vi (y : Int)), some (vi bi), some (vi (k : Int))]) (st' := [vi (y : Int), vr 7 3, vr 7 0]) [.inl (.aload_n 0), .inl (.aload_n 0), .inr (18, 7, 2), .inl (.iload_n 2)] 138 _ _ (by decide +kernel) rfl ?_
    refine aw_iald (j := y) (by decide +kernel) rfl (by omega) (by omega) (fun r144 => ?_)
    refine aw_blk (pc' := 150) (ls' := [some (vr 7 0), some (vi (x : Int)), some (vi (y : Int)), some (vi bi), some (vi (k : Int))]) (st' := [vi (x : Int), vr 7 2, vi ((va_up se y (ta k)) y), vr 7 0]) [.inl (.aload_n 0), .inr (15, 7, 1), .inl (.iload_n 1)] 145 _ _ (by decide +kernel) rfl ?_
    rw [va_eq]
    by_cases ok : okB S A Bl (ta k) = true
    · have eB : exB S n m b0 9 A Bl = ext S n m b0 9 A (Bl ++ [ta k]) (ta k) := by unfold exB; rw [ek, if_pos ⟨by omega, ok⟩]
      rw [eB] at hq
      have hlen : (Bl ++ [ta k]).length = y + 1 := by rw [List.length_append, hy]; rfl
      have hp := pre_fB hV.1 p5
      rw [hx] at hp
      refine aw_dV (cs' := 0) (sl' := 0) (pc' := 153) (st' := [vi 1]) (idx := 72) (as := [vi (ta k), vr 7 2, vi (x : Int)]) (st := []) (m_D_take_fi_1 (y := x) s1.1 s1.2.1 hp (by omega) (by omega) (fun i hi => by have := htl i hi; omega) (by rw [← hx]; exact (tkB hS hP hV).mpr ok)) (by decide +kernel) (show vOK "ChanceBench$Dice" 72 M_D_takeThrows 3 = true by decide +kernel) rfl rfl rfl (Nat.le_of_ble_eq_true rfl) (by decide) (by decide) (by decide) rfl rfl rfl rfl ?_
      refine aw_if_eq (o := 28) (tgt := 181) (by decide +kernel) (by decide) (by omega) (fun c => absurd c (by omega)) (fun _ => ?_)
      refine aw_blk (pc' := 163) (ls' := [some (vr 7 0), some (vi (x : Int)), some (vi (y : Int)), some (vi bi), some (vi (k : Int))]) (st' := [vi (k : Int), vi ((y : Int) + 1), vi (x : Int), vr 7 0]) [.inl (.aload_n 0), .inl (.iload_n 1), .inl (.iload_n 2), .inl (.iconst 1), .inl (.iadd), .inl (.iload 4)] 156 _ _ (by decide +kernel) rfl ?_
      have hV2 := dV_B (v := ta k) hV
      rw [hx, hy] at hV2
      refine aw_rV (cs' := 0) (sl' := 0) (pc' := 166) (idx := 61) (as := [vi (x : Int), vi ((y : Int) + 1), vi (k : Int)]) (st := []) (m_D_ext_9 (x := x) (y := y + 1) (F := F) (bar := ta k) hS (dP_B hP (by omega) (by omega) ok) hV2 hx hlen (by omega) (Or.inr ⟨k, hk, rfl, rfl⟩) (by have := hF2 (by omega); rw [show m - (y + 1) = m - y - 1 by omega]; exact this)) (by decide +kernel) (show vOK "ChanceBench$Dice" 61 (M_D_extend 9) 3 = true by decide +kernel) rfl rfl rfl (Nat.le_of_ble_eq_true rfl) (by decide) (by decide) (by decide) rfl rfl rfl (fun r163 h163 z163 => ?_)
      obtain ⟨rfl, kp2, fi2, se2, hR, rfl⟩ := z163
      have e2 : se2 y = ta k := by rw [hR.2.1 y (by omega), va_eq]
      have hag : ∀ j, j < x → fi2 j = fi j := hR.1
      refine aw_blk (pc' := 172) (ls' := [some (vr 7 0), some (vi (x : Int)), some (vi (y : Int)), some (vi bi), some (vi (k : Int))]) (st' := [vi (y : Int), vr 7 3, vr 7 0]) [.inl (.aload_n 0), .inl (.aload_n 0), .inr (18, 7, 2), .inl (.iload_n 2)] 166 _ _ (by decide +kernel) rfl ?_
      refine aw_iald (j := y) (by decide +kernel) rfl (by omega) (by omega) (fun r172 => ?_)
      refine aw_blk (pc' := 178) (ls' := [some (vr 7 0), some (vi (x : Int)), some (vi (y : Int)), some (vi bi), some (vi (k : Int))]) (st' := [vi (x : Int), vr 7 2, vi (se2 y), vr 7 0]) [.inl (.aload_n 0), .inr (15, 7, 1), .inl (.iload_n 1)] 173 _ _ (by decide +kernel) rfl ?_
      rw [e2]
      refine aw_dV (cs' := 0) (sl' := 0) (pc' := 181) (st' := []) (idx := 76) (as := [vi (ta k), vr 7 2, vi (x : Int)]) (st := []) (m_D_giveBack_fi (y := x) s1.1 s1.2.1 (fun j hj => by rw [hag j hj]; exact hp j hj) (by omega) (by omega) (dcr_in htl (by omega))) (by decide +kernel) (show vOK "ChanceBench$Dice" 76 M_D_giveBackThrows 3 = true by decide +kernel) rfl rfl rfl (Nat.le_of_ble_eq_true rfl) (by decide) (by decide) (by decide) rfl rfl rfl rfl ?_
      rw [icr_back hag]
      exact aw_vret (by decide +kernel) rfl (by decide) (by decide) (hq kp2 fi2 se2 (exR_up hR))
    · have eB : exB S n m b0 9 A Bl = [] := by unfold exB; rw [ek, if_neg (fun z => ok z.2)]
      rw [eB] at hq
      have hp := pre_fB hV.1 p5
      rw [hx] at hp
      refine aw_dV (cs' := 0) (sl' := 0) (pc' := 153) (st' := [vi 0]) (idx := 72) (as := [vi (ta k), vr 7 2, vi (x : Int)]) (st := []) (m_D_take_fi_0 (y := x) s1.1 s1.2.1 hp (by omega) (by omega) (fun i hi => by have := htl i hi; omega) (fun i hi => by have := htl i hi; omega) (by rw [← hx]; exact fun z => ok ((tkB hS hP hV).mp z))) (by decide +kernel) (show vOK "ChanceBench$Dice" 72 M_D_takeThrows 3 = true by decide +kernel) rfl rfl rfl (Nat.le_of_ble_eq_true rfl) (by decide) (by decide) (by decide) rfl rfl rfl rfl ?_
      refine aw_if_eq (o := 28) (tgt := 181) (by decide +kernel) (by decide) (by omega) (fun _ => ?_) (fun c => absurd (by omega) c)
      exact aw_vret (by decide +kernel) rfl (by decide) (by decide) (hq kp fi (va_up se y (ta k)) (exR_up ⟨fun _ _ => rfl, fun _ _ => rfl, fun _ _ => rfl, rows_nil⟩))
theorem l_D_e21_10 {Qr : Option AV → HT → Prop} {Qt : HT → Prop} (hS : dS S ta len n m b0) (hP : dP S n m b0 A Bl) (hV : dV S ta len A Bl fi se tl) (hx : A.length = x) (hy : Bl.length = y) (hb : bR ta len bi bar) (hnd : ¬ (n ≤ x ∧ m ≤ y)) (hf : (n - x) + (m - y) ≤ 10) (hF : F + pb (n - x) (m - y) ≤ 252) (hq : ∀ kp' fi' se', exR x y F kp fi se (ext S n m b0 10 A Bl bar) kp' fi' se' → Qr none (Hp b s t mk df jo tr (sgD (len : Int) ((F + (ext S n m b0 10 A Bl bar).length : Nat) : Int) (n : Int) (m : Int) kp' fi' se' ta tl) mo dy)) : AW G (M_D_extend 10) Qr Qt 0 0 21 [some (vr 7 0), some (vi (x : Int)), some (vi (y : Int)), some (vi bi), none] [] (Hp b s t mk df jo tr (sgD (len : Int) (F : Int) (n : Int) (m : Int) kp fi se ta tl) mo dy) := by
  have s1 := hS.1
  have s2 := hS.2.2.2
  have p3 := hP.2.2.1
  have p4 := hP.2.2.2.1
  have p5 := hP.2.2.2.2.1
  have p6 := hP.2.2.2.2.2.1
  have l1 := pre_len hP.1
  have l2 := pre_len hP.2.1
  have e0 : se 0 = b0 := hV.2.1 0 b0 hP.2.1
  have htl := tl_in hS hP hV
  have hbi : I32 bi := by rcases hb with ⟨z, _⟩ | ⟨i, z, q, _⟩ <;> omega
  refine aw_blk (pc' := 22) (ls' := [some (vr 7 0), some (vi (x : Int)), some (vi (y : Int)), some (vi bi), none]) (st' := [vr 7 0]) [.inl (.aload_n 0)] 21 _ _ (by decide +kernel) rfl ?_
  refine aw_dV (cs' := 0) (sl' := 0) (pc' := 25) (st' := [vi (lsI tl len 0)]) (idx := 68) (as := []) (st := []) (m_D_leastThrowLeft s1.1) (by decide +kernel) (show vOK "ChanceBench$Dice" 68 M_D_leastThrowLeft 0 = true by decide +kernel) rfl rfl rfl (Nat.le_of_ble_eq_true rfl) (by decide) (by decide) (by decide) rfl rfl rfl rfl ?_
  rcases ls_rel s1.2.1 s1.2.2 hV.2.2 (hta_R hS) with ⟨q1, q2⟩ | ⟨k, hk, q1, ek⟩
  · rw [q1]
    refine aw_blk (pc' := 30) (ls' := [some (vr 7 0), some (vi (x : Int)), some (vi (y : Int)), some (vi bi), some (vi (-1))]) (st' := [vi (-1), vi (-1)]) [.inl (.istore 4), .inl (.iload 4), .inl (.iconst (-1))] 25 _ _ (by decide +kernel) rfl ?_
    refine aw_icmp_ne (o := 4) (tgt := 34) (by decide +kernel) (by decide) (by omega) (by omega) (fun c => absurd (by omega) c) (fun _ => ?_)
    have eX : ext S n m b0 10 A Bl bar = [] := by rw [ext, if_neg (by omega), if_pos q2]
    rw [eX] at hq
    exact aw_vret (by decide +kernel) rfl (by decide) (by decide) (hq kp fi se exR_nil)
  · have hrk := hS.1.2.2 k hk
    rw [q1]
    have eX : ext S n m b0 10 A Bl bar = exA S n m b0 9 A Bl bar ++ exB S n m b0 9 A Bl := ext_s S n m b0 9 A Bl bar (by omega) (by omega)
    rw [eX] at hq
    refine aw_blk (pc' := 30) (ls' := [some (vr 7 0), some (vi (x : Int)), some (vi (y : Int)), some (vi bi), some (vi (k : Int))]) (st' := [vi (-1), vi (k : Int)]) [.inl (.istore 4), .inl (.iload 4), .inl (.iconst (-1))] 25 _ _ (by decide +kernel) rfl ?_
    refine aw_icmp_ne (o := 4) (tgt := 34) (by decide +kernel) (by decide) (by omega) (by omega) (fun _ => ?_) (fun c => absurd c (by omega))
    refine aw_blk (pc' := 39) (ls' := [some (vr 7 0), some (vi (x : Int)), some (vi (y : Int)), some (vi bi), some (vi (k : Int))]) (st' := [vi (n : Int), vi (x : Int)]) [.inl (.iload_n 1), .inl (.aload_n 0), .inr (34, 7, 7)] 34 _ _ (by decide +kernel) rfl ?_
    refine aw_icmp_ge (o := 71) (tgt := 110) (by decide +kernel) (by decide) (by omega) (by omega) (fun c39 => ?_) (fun c39 => ?_)
    · have eA : exA S n m b0 9 A Bl bar = [] := by unfold exA; rw [if_neg (by omega)]
      exact l_D_e110_10 hS hP hV hx hy hf hk ek (fun hlt => by have := pb_B (p := n - x) (q := m - y) (by omega); omega) (fun kp' fi' se' h9 => by rw [eA, List.nil_append] at hq; exact hq kp' fi' se' h9)
    · refine aw_blk (pc' := 45) (ls' := [some (vr 7 0), some (vi (x : Int)), some (vi (y : Int)), some (vi bi), some (vi (k : Int))]) (st' := [vi bi, vi (k : Int)]) [.inl (.iload 4), .inl (.iload_n 3)] 42 _ _ (by decide +kernel) rfl ?_
      refine aw_icmp_eq (o := 65) (tgt := 110) (by decide +kernel) (by decide) (by omega) (by omega) (fun c45 => ?_) (fun c45 => ?_)
      · have eA : exA S n m b0 9 A Bl bar = [] := by unfold exA; rw [ek, if_neg (fun z => z.2.1 (by rcases hb with ⟨z1, _⟩ | ⟨i, z1, z2, z3⟩; omega; rw [z3, show i = k by omega]))]
        exact l_D_e110_10 hS hP hV hx hy hf hk ek (fun hlt => by have := pb_B (p := n - x) (q := m - y) (by omega); omega) (fun kp' fi' se' h9 => by rw [eA, List.nil_append] at hq; exact hq kp' fi' se' h9)
      · have hne : ta k ≠ bar := fun e => by
          rcases hb with ⟨_, z2⟩ | ⟨i, z1, z2, z3⟩
          · omega
          · rw [z3] at e
            rcases Nat.lt_trichotomy k i with q | q | q
            · have := s1.2.1 k i q z1; omega
            · omega
            · have := s1.2.1 i k q hk; omega
        refine aw_blk (pc' := 59) (ls' := [some (vr 7 0), some (vi (x : Int)), some (vi (y : Int)), some (vi bi), some (vi (k : Int))]) (st' := [vi (k : Int), vr 7 4, vi (x : Int), vr 7 2]) [.inl (.aload_n 0), .inr (15, 7, 1), .inl (.iload_n 1), .inl (.aload_n 0), .inr (21, 7, 3), .inl (.iload 4)] 48 _ _ (by decide +kernel) rfl ?_
        refine aw_iald (j := k) (by decide +kernel) rfl (by omega) (by omega) (fun r59 => ?_)
        refine aw_blk (pc' := 65) (ls' := [some (vr 7 0), some (vi (x : Int)), some (vi (y : Int)), some (vi bi), some (vi (k : Int))]) (st' := [vi 0, vr 7 3, vi (ta k), vi (x : Int), vr 7 2]) [.inl (.aload_n 0), .inr (18, 7, 2), .inl (.iconst 0)] 60 _ _ (by decide +kernel) rfl ?_
        refine aw_iald (j := 0) (by decide +kernel) rfl (by omega) (by omega) (fun r65 => ?_)
        refine aw_blk (pc' := 67) (ls' := [some (vr 7 0), some (vi (x : Int)), some (vi (y : Int)), some (vi bi), some (vi (k : Int))]) (st' := [vi ((ta k) - (se 0)), vi (x : Int), vr 7 2]) [.inl (.isub)] 66 _ _ (by decide +kernel) rfl ?_
        rw [e0]
        refine aw_iast (j := x) (h' := Hp b s t mk df jo tr [some (ob 7 [vr 7 1, vr 7 2, vr 7 3, vr 7 4, vr 7 5, vi (len : Int), vi (F : Int), vi (n : Int), vi (m : Int)]), some (ar 0 3024 kp), some (ar 0 6 (va_up fi x (ta k - b0))), some (ar 0 6 se), some (ar 0 24 ta), some (ar 0 24 tl)] mo dy) (by decide +kernel) rfl rfl (by omega) (by omega) rfl ?_
        refine aw_blk (pc' := 74) (ls' := [some (vr 7 0), some (vi (x : Int)), some (vi (y : Int)), some (vi bi), some (vi (k : Int))]) (st' := [vi (x : Int), vr 7 2, vr 7 0]) [.inl (.aload_n 0), .inl (.aload_n 0), .inr (15, 7, 1), .inl (.iload_n 1)] 68 _ _ (by decide +kernel) rfl ?_
        refine aw_iald (j := x) (by decide +kernel) rfl (by omega) (by omega) (fun r74 => ?_)
        refine aw_blk (pc' := 80) (ls' := [some (vr 7 0), some (vi (x : Int)), some (vi (y : Int)), some (vi bi), some (vi (k : Int))]) (st' := [vi (y : Int), vr 7 3, vi ((va_up fi x (ta k - b0)) x), vr 7 0]) [.inl (.aload_n 0), .inr (18, 7, 2), .inl (.iload_n 2)] 75 _ _ (by decide +kernel) rfl ?_
        rw [va_eq]
        have hp := pre_fB hV.2.1 p6
        rw [hy] at hp
        by_cases ok : okA S A Bl (ta k - b0) = true
        · have eA : exA S n m b0 9 A Bl bar = ext S n m b0 9 (A ++ [ta k - b0]) Bl 6000 := by unfold exA; rw [ek, if_pos ⟨by omega, hne, ok⟩]
          rw [eA] at hq
          have hlen : (A ++ [ta k - b0]).length = x + 1 := by rw [List.length_append, hx]; rfl
          refine aw_dV (cs' := 0) (sl' := 0) (pc' := 83) (st' := [vi 1]) (idx := 72) (as := [vi (ta k - b0), vr 7 3, vi (y : Int)]) (st := []) (m_D_take_se_1 (y := y) s1.1 s1.2.1 hp (by omega) (by omega) (fun i hi => by have := htl i hi; omega) (by rw [← hy]; exact (tkA hS hP hV).mpr ok)) (by decide +kernel) (show vOK "ChanceBench$Dice" 72 M_D_takeThrows 3 = true by decide +kernel) rfl rfl rfl (Nat.le_of_ble_eq_true rfl) (by decide) (by decide) (by decide) rfl rfl rfl rfl ?_
          refine aw_if_eq (o := 27) (tgt := 110) (by decide +kernel) (by decide) (by omega) (fun c => absurd c (by omega)) (fun _ => ?_)
          refine aw_blk (pc' := 92) (ls' := [some (vr 7 0), some (vi (x : Int)), some (vi (y : Int)), some (vi bi), some (vi (k : Int))]) (st' := [vi (-1), vi (y : Int), vi ((x : Int) + 1), vr 7 0]) [.inl (.aload_n 0), .inl (.iload_n 1), .inl (.iconst 1), .inl (.iadd), .inl (.iload_n 2), .inl (.iconst (-1))] 86 _ _ (by decide +kernel) rfl ?_
          have hV2 := dV_A (v := ta k - b0) hV
          rw [hx, hy] at hV2
          refine aw_rV (cs' := 0) (sl' := 0) (pc' := 95) (idx := 61) (as := [vi ((x : Int) + 1), vi (y : Int), vi (-1)]) (st := []) (m_D_ext_9 (x := x + 1) (y := y) (F := F) (bar := 6000) hS (dP_A hP (by omega) (by omega) ok) hV2 hlen hy (by omega) (Or.inl ⟨rfl, rfl⟩) (by have := pb_A (p := n - x) (q := m - y) (by omega); rw [show n - (x + 1) = n - x - 1 by omega]; omega)) (by decide +kernel) (show vOK "ChanceBench$Dice" 61 (M_D_extend 9) 3 = true by decide +kernel) rfl rfl rfl (Nat.le_of_ble_eq_true rfl) (by decide) (by decide) (by decide) rfl rfl rfl (fun r92 h92 z92 => ?_)
          obtain ⟨rfl, kp2, fi2, se2, hR, rfl⟩ := z92
          have e2 : fi2 x = ta k - b0 := by rw [hR.1 x (by omega), va_eq]
          have hag : ∀ j, j < y → se2 j = se j := hR.2.1
          refine aw_blk (pc' := 101) (ls' := [some (vr 7 0), some (vi (x : Int)), some (vi (y : Int)), some (vi bi), some (vi (k : Int))]) (st' := [vi (x : Int), vr 7 2, vr 7 0]) [.inl (.aload_n 0), .inl (.aload_n 0), .inr (15, 7, 1), .inl (.iload_n 1)] 95 _ _ (by decide +kernel) rfl ?_
          refine aw_iald (j := x) (by decide +kernel) rfl (by omega) (by omega) (fun r101 => ?_)
          refine aw_blk (pc' := 107) (ls' := [some (vr 7 0), some (vi (x : Int)), some (vi (y : Int)), some (vi bi), some (vi (k : Int))]) (st' := [vi (y : Int), vr 7 3, vi (fi2 x), vr 7 0]) [.inl (.aload_n 0), .inr (18, 7, 2), .inl (.iload_n 2)] 102 _ _ (by decide +kernel) rfl ?_
          rw [e2]
          refine aw_dV (cs' := 0) (sl' := 0) (pc' := 110) (st' := []) (idx := 76) (as := [vi (ta k - b0), vr 7 3, vi (y : Int)]) (st := []) (m_D_giveBack_se (y := y) s1.1 s1.2.1 (fun j hj => by rw [hag j hj]; exact hp j hj) (by omega) (by omega) (dcr_in htl (by omega))) (by decide +kernel) (show vOK "ChanceBench$Dice" 76 M_D_giveBackThrows 3 = true by decide +kernel) rfl rfl rfl (Nat.le_of_ble_eq_true rfl) (by decide) (by decide) (by decide) rfl rfl rfl rfl ?_
          rw [icr_back hag]
          have hR1 := exR_upA hR
          have hV3 : dV S ta len A Bl fi2 se2 tl := ⟨pre_ext hV.1 (by rw [hx]; exact hR1.1), pre_ext hV.2.1 (by rw [hy]; exact hag), hV.2.2⟩
          have hln1 := ext_len S n m b0 9 (A ++ [ta k - b0]) Bl 6000
          rw [hlen, hy, show n - (x + 1) = n - x - 1 by omega] at hln1
          refine l_D_e110_10 (F := F + (ext S n m b0 9 (A ++ [ta k - b0]) Bl 6000).length) hS hP hV3 hx hy hf hk ek (fun hlt => by have := pb_AB (p := n - x) (q := m - y) (by omega) (by omega); omega) (fun kp' fi' se' h9 => ?_)
          have := hq kp' fi' se' (exR_app hR1 h9)
          rw [List.length_append, ← Nat.add_assoc] at this
          exact this
        · have eA : exA S n m b0 9 A Bl bar = [] := by unfold exA; rw [ek, if_neg (fun z => ok z.2.2)]
          refine aw_dV (cs' := 0) (sl' := 0) (pc' := 83) (st' := [vi 0]) (idx := 72) (as := [vi (ta k - b0), vr 7 3, vi (y : Int)]) (st := []) (m_D_take_se_0 (y := y) s1.1 s1.2.1 hp (by omega) (by omega) (fun i hi => by have := htl i hi; omega) (fun i hi => by have := htl i hi; omega) (by rw [← hy]; exact fun z => ok ((tkA hS hP hV).mp z))) (by decide +kernel) (show vOK "ChanceBench$Dice" 72 M_D_takeThrows 3 = true by decide +kernel) rfl rfl rfl (Nat.le_of_ble_eq_true rfl) (by decide) (by decide) (by decide) rfl rfl rfl rfl ?_
          refine aw_if_eq (o := 27) (tgt := 110) (by decide +kernel) (by decide) (by omega) (fun _ => ?_) (fun c => absurd (by omega) c)
          have hV3 : dV S ta len A Bl (va_up fi x (ta k - b0)) se tl := ⟨pre_ext hV.1 (fun i hi => by simp only [va_up]; rw [if_neg (by omega)]), hV.2.1, hV.2.2⟩
          refine l_D_e110_10 hS hP hV3 hx hy hf hk ek (fun hlt => by have := pb_B (p := n - x) (q := m - y) (by omega); omega) (fun kp' fi' se' h9 => ?_)
          rw [eA, List.nil_append] at hq
          exact hq kp' fi' se' ⟨fun i hi => by rw [h9.1 i hi]; simp only [va_up]; rw [if_neg (by omega)], h9.2⟩
theorem m_D_ext_10 (hS : dS S ta len n m b0) (hP : dP S n m b0 A Bl) (hV : dV S ta len A Bl fi se tl) (hx : A.length = x) (hy : Bl.length = y) (hf : (n - x) + (m - y) ≤ 10) (hb : bR ta len bi bar) (hF : F + pb (n - x) (m - y) ≤ 252) : AMet G (M_D_extend 10) [vr 7 0, vi (x : Int), vi (y : Int), vi bi] (Hp b s t mk df jo tr (sgD (len : Int) (F : Int) (n : Int) (m : Int) kp fi se ta tl) mo dy) (fun r h => r = none ∧ ∃ kp' fi' se', exR x y F kp fi se (ext S n m b0 10 A Bl bar) kp' fi' se' ∧ h = Hp b s t mk df jo tr (sgD (len : Int) ((F + (ext S n m b0 10 A Bl bar).length : Nat) : Int) (n : Int) (m : Int) kp' fi' se' ta tl) mo dy) (fun _ => False) := by
  refine am_rel (by decide +kernel) (Nat.le_of_ble_eq_true rfl) (fun Qr Qt hq => ?_)
  have hpb := pb_pos (n - x) (m - y)
  have s2 := hS.2.2.2
  have p3 := hP.2.2.1
  have p4 := hP.2.2.2.1
  refine aw_blk (pc' := 5) (ls' := [some (vr 7 0), some (vi (x : Int)), some (vi (y : Int)), some (vi bi), none]) (st' := [vi (n : Int), vi (x : Int)]) [.inl (.iload_n 1), .inl (.aload_n 0), .inr (34, 7, 7)] 0 _ _ (by decide +kernel) rfl ?_
  refine aw_icmp_lt (o := 16) (tgt := 21) (by decide +kernel) (by decide) (by omega) (by omega) (fun c5 => ?_) (fun c5 => ?_)
  · exact l_D_e21_10 hS hP hV hx hy hb (by omega) hf hF (fun kp' fi' se' h9 => hq _ _ ⟨rfl, kp', fi', se', h9, rfl⟩)
  · refine aw_blk (pc' := 13) (ls' := [some (vr 7 0), some (vi (x : Int)), some (vi (y : Int)), some (vi bi), none]) (st' := [vi (m : Int), vi (y : Int)]) [.inl (.iload_n 2), .inl (.aload_n 0), .inr (37, 7, 8)] 8 _ _ (by decide +kernel) rfl ?_
    refine aw_icmp_lt (o := 8) (tgt := 21) (by decide +kernel) (by decide) (by omega) (by omega) (fun c13 => ?_) (fun c13 => ?_)
    · exact l_D_e21_10 hS hP hV hx hy hb (by omega) hf hF (fun kp' fi' se' h9 => hq _ _ ⟨rfl, kp', fi', se', h9, rfl⟩)
    · refine aw_blk (pc' := 17) (ls' := [some (vr 7 0), some (vi (x : Int)), some (vi (y : Int)), some (vi bi), none]) (st' := [vr 7 0]) [.inl (.aload_n 0)] 16 _ _ (by decide +kernel) rfl ?_
      refine aw_dV (cs' := 0) (sl' := 0) (pc' := 20) (st' := []) (idx := 65) (as := []) (st := []) (m_D_keep (by omega)) (by decide +kernel) (show vOK "ChanceBench$Dice" 65 M_D_keep 0 = true by decide +kernel) rfl rfl rfl (Nat.le_of_ble_eq_true rfl) (by decide) (by decide) (by decide) rfl rfl rfl rfl ?_
      have eX : ext S n m b0 10 A Bl bar = [(A, Bl)] := by rw [ext, if_pos (by omega)]
      rw [eX] at hq
      exact aw_vret (by decide +kernel) rfl (by decide) (by decide) (hq _ _ ⟨rfl, kpR kp fi se F 6, fi, se, ⟨fun _ _ => rfl, fun _ _ => rfl, fun k hk => by unfold kpR; rw [if_neg (by omega), if_neg (by omega)], kp_row hV.1 hV.2.1⟩, rfl⟩)

end
