def mdQ (B : Int) (T : Int → Int) (md : Nat → Int) : Prop := mdR T md ∧ (∀ u, inR u → 0 ≤ T u) ∧ sT T ≤ B
theorem mdQ_0 {md : Nat → Int} (h : mdR (fun _ => 0) md) : mdQ 0 (fun _ => 0) md := ⟨h, fun _ _ => Int.le_refl _, by rw [sT_0]; exact Int.le_refl _⟩
theorem mdQ.eq {B B' : Int} {T T' : Int → Int} {md : Nat → Int} (R : mdQ B T md) (hB : B ≤ B') (h : ∀ u, inR u → T u = T' u) : mdQ B' T' md :=
  ⟨fun k hk => by rw [R.1 k hk]; exact h _ ⟨by omega, by omega⟩, fun u hu => by rw [← h u hu]; exact R.2.1 u hu, by rw [← sT_ext h]; have := R.2.2; omega⟩
theorem byR.eq {p q : Prop} {b : Int} (h : byR p b) (e : p ↔ q) : byR q b := h.elim (fun z => Or.inl ⟨z.1, fun x => z.2 (e.mpr x)⟩) (fun z => Or.inr ⟨z.1, e.mp z.2⟩)
theorem sT_put {T : Int → Int} {a c : Int} (hc : 0 ≤ c) : sT (fun u => T u + (if a = u then c else 0)) ≤ sT T + c := by
  rw [sT_add]
  rcases Classical.em (inR a) with z | z
  · rw [sT_one (F := fun u => if a = u then c else 0) (H := fun _ => 0) z (fun u _ h => by show (if a = u then c else 0) = 0; rw [if_neg (fun e => h e.symm)]), sT_0, if_pos rfl]; omega
  · rw [sT_ext (F := fun u => if a = u then c else 0) (H := fun _ => 0) (fun u hu => by show (if a = u then c else 0) = 0; rw [if_neg (fun e : a = u => z (by rw [e]; exact hu))]), sT_0]; omega
theorem mdQ.s {B B' : Int} {V C : Nat → Int} {T0 : Int → Int} {i : Nat} {md : Nat → Int} (R : mdQ (B + C i) (fun u => (T0 u + den V C i u) + (if V i = u then C i else 0)) md) (hB : B + C i ≤ B') : mdQ B' (fun u => T0 u + den V C (i + 1) u) md :=
  R.eq hB (fun u _ => by rw [den_s]; omega)
theorem byR.s {V C : Nat → Int} {p : Prop} {i : Nat} {b : Int} (h : byR ((p ∨ byd V C i) ∨ (1 ≤ C i ∧ ¬ inR (V i))) b) : byR (p ∨ byd V C (i + 1)) b := h.eq (by rw [byd_s, or_assoc])
theorem mdQ.z {B : Int} {V C : Nat → Int} {T0 : Int → Int} {md : Nat → Int} (R : mdQ B T0 md) : mdQ B (fun u => T0 u + den V C 0 u) md := R.eq (Int.le_refl _) (fun u _ => by rw [show den V C 0 u = 0 from rfl, Int.add_zero])
theorem byR.z {V C : Nat → Int} {p : Prop} {b : Int} (h : byR p b) : byR (p ∨ byd V C 0) b := h.eq ⟨Or.inl, fun z => z.elim id (fun z => absurd z byd_0)⟩
theorem byR_0 : byR False 0 := Or.inl ⟨rfl, fun z => z⟩
theorem mdQ.e {B : Int} {V C : Nat → Int} {N : Nat} {md : Nat → Int} (R : mdQ B (fun u => 0 + den V C N u) md) : mdQ B (den V C N) md := R.eq (Int.le_refl _) (fun u _ => by rw [Int.zero_add])
theorem byR.e {V C : Nat → Int} {N : Nat} {b : Int} {q : Prop} (hq : ¬ q) (h : byR (False ∨ byd V C N) b) : byR (q ∨ byd V C N) b := h.eq ⟨fun z => z.elim False.elim Or.inr, fun z => z.elim (fun z => absurd z hq) Or.inr⟩
abbrev idv (i : Nat) : Int := (i : Int) - 1000
/-- what an act comes to -/
def puM (b s t mk df jo tr di dy : SG) (j : Nat) (th ln by9 ac bd pm pq tk fo f1 f2 : Int) (xtp xwg xwh xmd xsl xhw xhs xhd xha xp1 xp2 xp3 xl1 xl2 xrt xlf xdc xhn xsu : Nat → Int) (a : Int) (T : Int → Int) (p : Prop) (r : Option AV) (h : HT) : Prop := (r = some (vi 0) ∧ ¬ ((0 ≤ a ∧ a < 16) ∧ acc T p) ∧ h = Hp b s t mk df jo tr di (sgM th ln by9 (j : Int) ac bd pm pq tk fo f1 f2 xtp xwg xwh xmd xsl xhw xhs xhd xha xp1 xp2 xp3 xl1 xl2 xrt xlf xdc xhn xsu) dy) ∨ (r = some (vi 1) ∧ (0 ≤ a ∧ a < 16) ∧ acc T p ∧ ∃ s1 : Nat, a = (s1 : Int) ∧ h = if j = 30 then Hp b s t mk df jo tr di (sgM th ln by9 (((29 : Nat) : Int) + 1) (((29 : Nat) : Int) + 1) bd pm pq tk fo f1 f2 xtp (rowW xwg s1 (RT T) 2001) (va_up xwh s1 (allT T)) xmd (va_up (sfd xsl 1 30) 29 (s1 : Int)) (va_up (sfd xhw 1 30) 29 (xwh s1)) (va_up (sfd xhs 1 30) 29 (allT T)) (rowW (sfd xhd 2001 60030) 29 (fun k => xwg (2001 * s1 + k)) 2001) (rowW (sfd xha 2001 60030) 29 (RT T) 2001) xp1 xp2 xp3 xl1 xl2 xrt xlf xdc xhn xsu) dy else Hp b s t mk df jo tr di (sgM th ln by9 ((j : Int) + 1) ((j : Int) + 1) bd pm pq tk fo f1 f2 xtp (rowW xwg s1 (RT T) 2001) (va_up xwh s1 (allT T)) xmd (va_up xsl j (s1 : Int)) (va_up xhw j (xwh s1)) (va_up xhs j (allT T)) (rowW xhd j (fun k => xwg (2001 * s1 + k)) 2001) (rowW xha j (RT T) 2001) xp1 xp2 xp3 xl1 xl2 xrt xlf xdc xhn xsu) dy)
section
variable {G : GT} {h : HT} {b s t mk df jo tr di dy : SG} {a c d e B : Int} {n m k j i0 : Nat} {f g : Nat → Int} {th ln by9 dn ac bd pm pq tk fo f1 f2 : Int} {xtp xwg xwh xmd xsl xhw xhs xhd xha xp1 xp2 xp3 xl1 xl2 xrt xlf xdc xhn xsu : Nat → Int} {T : Int → Int} {p : Prop}
theorem m_M_addQ (hR : mdQ B T xmd) (hb : byR p by9) (ha : I64 a) (hc : 0 ≤ c) (hB : B + c ≤ 4611686018427387904) : AMet G M_M_add [vr 8 0, vl a, vl c] (Hp b s t mk df jo tr di (sgM th ln by9 dn ac bd pm pq tk fo f1 f2 xtp xwg xwh xmd xsl xhw xhs xhd xha xp1 xp2 xp3 xl1 xl2 xrt xlf xdc xhn xsu) dy) (fun r h => r = none ∧ ∃ md' by', mdQ (B + c) (fun u => T u + (if a = u then c else 0)) md' ∧ byR (p ∨ (1 ≤ c ∧ ¬ inR a)) by' ∧ h = Hp b s t mk df jo tr di (sgM th ln by' dn ac bd pm pq tk fo f1 f2 xtp xwg xwh md' xsl xhw xhs xhd xha xp1 xp2 xp3 xl1 xl2 xrt xlf xdc xhn xsu) dy) (fun _ => False) := by
  have h0 : 0 ≤ sT T := by have := sT_mono (F := fun _ => 0) (H := T) hR.2.1; rw [sT_0] at this; exact this
  have h1 := hR.2.2
  refine am_mono (m_M_add hR.1 hb ha ⟨hc, by omega⟩ (fun hr => ⟨hR.2.1 a hr, by have := sT_le hR.2.1 hr; omega⟩)) (fun r h z => ?_) (fun _ z => z)
  obtain ⟨z1, md', by', z2, z3, z4⟩ := z
  exact ⟨z1, md', by', ⟨z2, fun u hu => by have := hR.2.1 u hu; show 0 ≤ T u + _; split <;> omega, by have := sT_put (T := T) (a := a) hc; omega⟩, z3, z4⟩
theorem m_M_wheel (hj : j ≤ 30) (ha : I32 a) (hI : I32 c ∧ I32 d) : AMet G M_M_wheel [vr 8 0, vi a, vi d, vi c] (Hp b s t mk df jo tr di (sgM th ln by9 (j : Int) ac bd pm pq tk fo f1 f2 xtp xwg xwh xmd xsl xhw xhs xhd xha xp1 xp2 xp3 xl1 xl2 xrt xlf xdc xhn xsu) dy) (fun r h => ∃ (md' : Nat → Int) (by' : Int), puM b s t mk df jo tr di dy j 0 ln by' ac bd pm pq tk fo f1 f2 xtp xwg xwh md' xsl xhw xhs xhd xha xp1 xp2 xp3 xl1 xl2 xrt xlf xdc xhn xsu a (den (fun k => c + (k : Int)) (fun _ => 1) d.toNat) (¬ (1 ≤ d ∧ d ≤ 24) ∨ byd (fun k => c + (k : Int)) (fun _ => 1) d.toNat) r h) (fun _ => False) := by
  refine am_rel (by decide +kernel) (Nat.le_of_ble_eq_true rfl) (fun Qr Qt hq => ?_)
  refine aw_blk (pc' := 1) (ls' := [some (vr 8 0), some (vi a), some (vi d), some (vi c), none]) (st' := [vr 8 0]) [.inl (.aload_n 0)] 0 _ _ (by decide +kernel) rfl ?_
  refine aw_rV (cs' := 0) (sl' := 0) (pc' := 4) (idx := 113) (as := []) (st := []) (m_M_begin) (by decide +kernel) (show vOK "ChanceBenchModel" 113 M_M_begin 0 = true by decide +kernel) rfl rfl rfl (Nat.le_of_ble_eq_true rfl) (by decide) (by decide) (by decide) rfl rfl rfl (fun r1 h1 z1 => ?_)
  obtain ⟨rfl, md0, hmd, rfl⟩ := z1
  have hQ0 := mdQ_0 hmd
  refine aw_blk (pc' := 6) (ls' := [some (vr 8 0), some (vi a), some (vi d), some (vi c), none]) (st' := [vi 1, vi d]) [.inl (.iload_n 2), .inl (.iconst 1)] 4 _ _ (by decide +kernel) rfl ?_
  refine aw_icmp_lt (o := 9) (tgt := 15) (by decide +kernel) (by decide) (by omega) (by omega) (fun c6 => ?_) (fun c6 => ?_)
  · refine aw_blk (pc' := 16) (ls' := [some (vr 8 0), some (vi a), some (vi d), some (vi c), none]) (st' := [vi 0]) [.inl (.iconst 0)] 15 _ _ (by decide +kernel) rfl ?_
    exact aw_zret (by decide +kernel) rfl (by decide) (by decide) (by omega) (hq _ _ ⟨md0, 0, Or.inl ⟨rfl, fun z => z.2.1 (Or.inl (by omega)), rfl⟩⟩)
  · refine aw_blk (pc' := 12) (ls' := [some (vr 8 0), some (vi a), some (vi d), some (vi c), none]) (st' := [vi 24, vi d]) [.inl (.iload_n 2), .inl (.bipush 24)] 9 _ _ (by decide +kernel) rfl ?_
    refine aw_icmp_le (o := 5) (tgt := 17) (by decide +kernel) (by decide) (by omega) (by omega) (fun c12 => ?_) (fun c12 => ?_)
    · obtain ⟨N, rfl⟩ : ∃ N : Nat, d = (N : Int) := ⟨d.toNat, by omega⟩
      refine aw_blk (pc' := 20) (ls' := [some (vr 8 0), some (vi a), some (vi (N : Int)), some (vi c), some (vi 0)]) (st' := []) [.inl (.iconst 0), .inl (.istore 4)] 17 _ _ (by decide +kernel) rfl ?_
      refine up_to (W := fun i : Nat => ∀ (md1 : Nat → Int) (by1 : Int), mdQ ((i : Int) * 1) (fun u => 0 + den (fun k => c + (k : Int)) (fun _ => 1) i u) md1 → byR (False ∨ byd (fun k => c + (k : Int)) (fun _ => 1) i) by1 → AW G M_M_wheel Qr Qt 0 0 20 [some (vr 8 0), some (vi a), some (vi (N : Int)), some (vi c), some (vi (i : Int))] [] (Hp b s t mk df jo tr di [some (ob 8 [vi 0, vr 8 1, vi ln, vr 8 2, vr 8 3, vr 8 4, vi by1, vr 8 5, vr 8 6, vr 8 7, vr 8 8, vr 8 9, vi (j : Int), vi ac, vi bd, vr 8 10, vr 8 11, vr 8 12, vr 8 13, vr 8 14, vi pm, vl pq, vr 8 15, vr 8 16, vi tk, vr 8 17, vr 8 18, vr 8 19, vi fo, vi f1, vi f2]), some (ar 2 200 xtp), some (ar 0 32016 xwg), some (ar 0 16 xwh), some (ar 1 2001 md1), some (ar 0 30 xsl), some (ar 0 30 xhw), some (ar 0 30 xhs), some (ar 0 60030 xhd), some (ar 0 60030 xha), some (ar 0 600 xp1), some (ar 0 600 xp2), some (ar 1 600 xp3), some (ar 1 2001 xl1), some (ar 1 2001 xl2), some (ar 1 2001 xrt), some (ar 3 2001 xlf), some (ar 0 3600 xdc), some (ar 0 12 xhn), some (ar 0 4005 xsu)] dy)) N ?_ (fun i hi ih => ?_) 0 (by omega) _ _ hQ0.z byR_0.z
      · intro md1 by1 hQ hb
        refine aw_blk (pc' := 23) (ls' := [some (vr 8 0), some (vi a), some (vi (N : Int)), some (vi c), some (vi (N : Int))]) (st' := [vi (N : Int), vi (N : Int)]) [.inl (.iload 4), .inl (.iload_n 2)] 20 _ _ (by decide +kernel) rfl ?_
        refine aw_icmp_ge (o := 20) (tgt := 43) (by decide +kernel) (by decide) (by omega) (by omega) (fun _ => ?_) (fun c => absurd (by omega) c)
        have hQ9 := hQ.e
        have hb9 := hb.e (q := ¬ (1 ≤ (N : Int) ∧ (N : Int) ≤ 24)) (by omega)
        refine aw_blk (pc' := 45) (ls' := [some (vr 8 0), some (vi a), some (vi (N : Int)), some (vi c), some (vi (N : Int))]) (st' := [vi a, vr 8 0]) [.inl (.aload_n 0), .inl (.iload_n 1)] 43 _ _ (by decide +kernel) rfl ?_
        refine aw_rV (cs' := 0) (sl' := 0) (pc' := 48) (idx := 124) (as := [vi a]) (st := []) (m_M_put hj ha hQ9.1 hQ9.2.1 (by have := hQ9.2.2; omega) hb9) (by decide +kernel) (show vOK "ChanceBenchModel" 124 M_M_put 1 = true by decide +kernel) rfl rfl rfl (Nat.le_of_ble_eq_true rfl) (by decide) (by decide) (by decide) rfl rfl rfl (fun r45 h45 z45 => ?_)
        rcases z45 with ⟨rfl, h1, rfl⟩ | ⟨rfl, h1, h2, s1, rfl, rfl⟩
        · exact aw_zret (by decide +kernel) rfl (by decide) (by decide) (by omega) (hq _ _ ⟨md1, by1, Or.inl ⟨rfl, h1, rfl⟩⟩)
        · exact aw_zret (by decide +kernel) rfl (by decide) (by decide) (by omega) (hq _ _ ⟨md1, by1, Or.inr ⟨rfl, h1, h2, s1, rfl, rfl⟩⟩)
      · intro md1 by1 hQ hb
        refine aw_blk (pc' := 23) (ls' := [some (vr 8 0), some (vi a), some (vi (N : Int)), some (vi c), some (vi (i : Int))]) (st' := [vi (N : Int), vi (i : Int)]) [.inl (.iload 4), .inl (.iload_n 2)] 20 _ _ (by decide +kernel) rfl ?_
        refine aw_icmp_ge (o := 20) (tgt := 43) (by decide +kernel) (by decide) (by omega) (by omega) (fun c => absurd c (by omega)) (fun _ => ?_)
        refine aw_blk (pc' := 28) (ls' := [some (vr 8 0), some (vi a), some (vi (N : Int)), some (vi c), some (vi (i : Int))]) (st' := [vi c, vr 8 0]) [.inl (.aload_n 0), .inl (.iload_n 3)] 26 _ _ (by decide +kernel) rfl ?_
        refine aw_i2l (by decide +kernel) (by omega) ?_
        refine aw_blk (pc' := 31) (ls' := [some (vr 8 0), some (vi a), some (vi (N : Int)), some (vi c), some (vi (i : Int))]) (st' := [vi (i : Int), vl c, vr 8 0]) [.inl (.iload 4)] 29 _ _ (by decide +kernel) rfl ?_
        refine aw_i2l (by decide +kernel) (by omega) ?_
        refine aw_blk (pc' := 34) (ls' := [some (vr 8 0), some (vi a), some (vi (N : Int)), some (vi c), some (vi (i : Int))]) (st' := [vl 1, vl (c + (i : Int)), vr 8 0]) [.inl (.ladd), .inl (.lconst 1)] 32 _ _ (by decide +kernel) rfl ?_
        refine aw_rV (cs' := 0) (sl' := 0) (pc' := 37) (idx := 120) (as := [vl (c + (i : Int)), vl 1]) (st := []) (m_M_addQ hQ hb (by omega) (by omega) (by omega)) (by decide +kernel) (show vOK "ChanceBenchModel" 120 M_M_add 2 = true by decide +kernel) rfl rfl rfl (Nat.le_of_ble_eq_true rfl) (by decide) (by decide) (by decide) rfl rfl rfl (fun r34 h34 z34 => ?_)
        obtain ⟨rfl, md2, by2, hQ2, hb2, rfl⟩ := z34
        refine aw_blk (pc' := 40) (ls' := [some (vr 8 0), some (vi a), some (vi (N : Int)), some (vi c), some (vi ((i : Int) + 1))]) (st' := []) [.inl (.iinc 4 1)] 37 _ _ (by decide +kernel) rfl ?_
        refine aw_goto (o := -20) (tgt := 20) (by decide +kernel) (by decide) ?_
        exact ih _ _ (hQ2.s (V := fun k => c + (k : Int)) (C := fun _ => 1) (by omega)) hb2.s
    · refine aw_blk (pc' := 16) (ls' := [some (vr 8 0), some (vi a), some (vi d), some (vi c), none]) (st' := [vi 0]) [.inl (.iconst 0)] 15 _ _ (by decide +kernel) rfl ?_
      exact aw_zret (by decide +kernel) rfl (by decide) (by decide) (by omega) (hq _ _ ⟨md0, 0, Or.inl ⟨rfl, fun z => z.2.1 (Or.inl (by omega)), rfl⟩⟩)

theorem m_M_coin (hj : j ≤ 30) (ha : I32 a) (hI : I32 c ∧ I32 d) : AMet G M_M_coin [vr 8 0, vi a, vi c, vi d] (Hp b s t mk df jo tr di (sgM th ln by9 (j : Int) ac bd pm pq tk fo f1 f2 xtp xwg xwh xmd xsl xhw xhs xhd xha xp1 xp2 xp3 xl1 xl2 xrt xlf xdc xhn xsu) dy) (fun r h => ∃ (md' : Nat → Int) (by' : Int), puM b s t mk df jo tr di dy j 0 ln by' ac bd pm pq tk fo f1 f2 xtp xwg xwh md' xsl xhw xhs xhd xha xp1 xp2 xp3 xl1 xl2 xrt xlf xdc xhn xsu a (den (fun k => (k : Int)) (fun k => if k = 0 then d - c else c) 2) (¬ ((1 ≤ d ∧ d ≤ 1048576) ∧ (0 ≤ c ∧ c ≤ d)) ∨ byd (fun k => (k : Int)) (fun k => if k = 0 then d - c else c) 2) r h) (fun _ => False) := by
  refine am_rel (by decide +kernel) (Nat.le_of_ble_eq_true rfl) (fun Qr Qt hq => ?_)
  refine aw_blk (pc' := 1) (ls' := [some (vr 8 0), some (vi a), some (vi c), some (vi d)]) (st' := [vr 8 0]) [.inl (.aload_n 0)] 0 _ _ (by decide +kernel) rfl ?_
  refine aw_rV (cs' := 0) (sl' := 0) (pc' := 4) (idx := 113) (as := []) (st := []) (m_M_begin) (by decide +kernel) (show vOK "ChanceBenchModel" 113 M_M_begin 0 = true by decide +kernel) rfl rfl rfl (Nat.le_of_ble_eq_true rfl) (by decide) (by decide) (by decide) rfl rfl rfl (fun r1 h1 z1 => ?_)
  obtain ⟨rfl, md0, hmd, rfl⟩ := z1
  have hQ0 := mdQ_0 hmd
  refine aw_blk (pc' := 6) (ls' := [some (vr 8 0), some (vi a), some (vi c), some (vi d)]) (st' := [vi 1, vi d]) [.inl (.iload_n 3), .inl (.iconst 1)] 4 _ _ (by decide +kernel) rfl ?_
  refine aw_icmp_lt (o := 18) (tgt := 24) (by decide +kernel) (by decide) (by omega) (by omega) (fun c6 => ?_) (fun c6 => ?_)
  · refine aw_blk (pc' := 25) (ls' := [some (vr 8 0), some (vi a), some (vi c), some (vi d)]) (st' := [vi 0]) [.inl (.iconst 0)] 24 _ _ (by decide +kernel) rfl ?_
    exact aw_zret (by decide +kernel) rfl (by decide) (by decide) (by omega) (hq _ _ ⟨md0, 0, Or.inl ⟨rfl, fun z => z.2.1 (Or.inl (by omega)), rfl⟩⟩)
  · refine aw_blk (pc' := 10) (ls' := [some (vr 8 0), some (vi a), some (vi c), some (vi d)]) (st' := [vi d]) [.inl (.iload_n 3)] 9 _ _ (by decide +kernel) rfl ?_
    refine aw_ldc (a := 1048576) (ix := 132) (v := 1048576) (by decide +kernel) (by decide +kernel) (by decide) ?_
    refine aw_icmp_gt (o := 12) (tgt := 24) (by decide +kernel) (by decide) (by omega) (by omega) (fun c12 => ?_) (fun c12 => ?_)
    · refine aw_blk (pc' := 25) (ls' := [some (vr 8 0), some (vi a), some (vi c), some (vi d)]) (st' := [vi 0]) [.inl (.iconst 0)] 24 _ _ (by decide +kernel) rfl ?_
      exact aw_zret (by decide +kernel) rfl (by decide) (by decide) (by omega) (hq _ _ ⟨md0, 0, Or.inl ⟨rfl, fun z => z.2.1 (Or.inl (by omega)), rfl⟩⟩)
    · refine aw_blk (pc' := 16) (ls' := [some (vr 8 0), some (vi a), some (vi c), some (vi d)]) (st' := [vi c]) [.inl (.iload_n 2)] 15 _ _ (by decide +kernel) rfl ?_
      refine aw_if_lt (o := 8) (tgt := 24) (by decide +kernel) (by decide) (by omega) (fun c16 => ?_) (fun c16 => ?_)
      · refine aw_blk (pc' := 25) (ls' := [some (vr 8 0), some (vi a), some (vi c), some (vi d)]) (st' := [vi 0]) [.inl (.iconst 0)] 24 _ _ (by decide +kernel) rfl ?_
        exact aw_zret (by decide +kernel) rfl (by decide) (by decide) (by omega) (hq _ _ ⟨md0, 0, Or.inl ⟨rfl, fun z => z.2.1 (Or.inl (by omega)), rfl⟩⟩)
      · refine aw_blk (pc' := 21) (ls' := [some (vr 8 0), some (vi a), some (vi c), some (vi d)]) (st' := [vi d, vi c]) [.inl (.iload_n 2), .inl (.iload_n 3)] 19 _ _ (by decide +kernel) rfl ?_
        refine aw_icmp_le (o := 5) (tgt := 26) (by decide +kernel) (by decide) (by omega) (by omega) (fun c21 => ?_) (fun c21 => ?_)
        · refine aw_blk (pc' := 29) (ls' := [some (vr 8 0), some (vi a), some (vi c), some (vi d)]) (st' := [vi c, vl 1, vr 8 0]) [.inl (.aload_n 0), .inl (.lconst 1), .inl (.iload_n 2)] 26 _ _ (by decide +kernel) rfl ?_
          refine aw_i2l (by decide +kernel) (by omega) ?_
          refine aw_rV (cs' := 0) (sl' := 0) (pc' := 33) (idx := 120) (as := [vl 1, vl c]) (st := []) (m_M_addQ hQ0 byR_0 (by omega) (by omega) (by omega)) (by decide +kernel) (show vOK "ChanceBenchModel" 120 M_M_add 2 = true by decide +kernel) rfl rfl rfl (Nat.le_of_ble_eq_true rfl) (by decide) (by decide) (by decide) rfl rfl rfl (fun r30 h30 z30 => ?_)
          obtain ⟨rfl, md2, by2, hQ2, hb2, rfl⟩ := z30
          refine aw_blk (pc' := 38) (ls' := [some (vr 8 0), some (vi a), some (vi c), some (vi d)]) (st' := [vi (d - c), vl 0, vr 8 0]) [.inl (.aload_n 0), .inl (.lconst 0), .inl (.iload_n 3), .inl (.iload_n 2), .inl (.isub)] 33 _ _ (by decide +kernel) rfl ?_
          refine aw_i2l (by decide +kernel) (by omega) ?_
          refine aw_rV (cs' := 0) (sl' := 0) (pc' := 42) (idx := 120) (as := [vl 0, vl (d - c)]) (st := []) (m_M_addQ hQ2 hb2 (by omega) (by omega) (by omega)) (by decide +kernel) (show vOK "ChanceBenchModel" 120 M_M_add 2 = true by decide +kernel) rfl rfl rfl (Nat.le_of_ble_eq_true rfl) (by decide) (by decide) (by decide) rfl rfl rfl (fun r39 h39 z39 => ?_)
          obtain ⟨rfl, md3, by3, hQ3, hb3, rfl⟩ := z39
          have hQ9 := hQ3.eq (T' := den (fun k => (k : Int)) (fun k => if k = 0 then d - c else c) 2) (Int.le_refl _) (fun u _ => by simp only [den, sumZ]; rw [if_pos trivial, if_neg (show ¬ (1 : Nat) = 0 by omega), show ((0 : Nat) : Int) = 0 from rfl, show ((1 : Nat) : Int) = 1 from rfl]; split <;> split <;> omega)
          have hb9 := hb3.eq (q := ¬ ((1 ≤ d ∧ d ≤ 1048576) ∧ (0 ≤ c ∧ c ≤ d)) ∨ byd (fun k => (k : Int)) (fun k => if k = 0 then d - c else c) 2) ⟨fun z => z.elim (fun z => z.elim False.elim (fun z => by omega)) (fun z => by omega), fun z => z.elim (fun z => absurd (by omega) z) (fun ⟨k, z1, _, z3⟩ => by change ¬ inR (k : Int) at z3; omega)⟩
          refine aw_blk (pc' := 44) (ls' := [some (vr 8 0), some (vi a), some (vi c), some (vi d)]) (st' := [vi a, vr 8 0]) [.inl (.aload_n 0), .inl (.iload_n 1)] 42 _ _ (by decide +kernel) rfl ?_
          refine aw_rV (cs' := 0) (sl' := 0) (pc' := 47) (idx := 124) (as := [vi a]) (st := []) (m_M_put hj ha hQ9.1 hQ9.2.1 (by have := hQ9.2.2; omega) hb9) (by decide +kernel) (show vOK "ChanceBenchModel" 124 M_M_put 1 = true by decide +kernel) rfl rfl rfl (Nat.le_of_ble_eq_true rfl) (by decide) (by decide) (by decide) rfl rfl rfl (fun r44 h44 z44 => ?_)
          rcases z44 with ⟨rfl, h1, rfl⟩ | ⟨rfl, h1, h2, s1, rfl, rfl⟩
          · exact aw_zret (by decide +kernel) rfl (by decide) (by decide) (by omega) (hq _ _ ⟨md3, by3, Or.inl ⟨rfl, h1, rfl⟩⟩)
          · exact aw_zret (by decide +kernel) rfl (by decide) (by decide) (by omega) (hq _ _ ⟨md3, by3, Or.inr ⟨rfl, h1, h2, s1, rfl, rfl⟩⟩)
        · refine aw_blk (pc' := 25) (ls' := [some (vr 8 0), some (vi a), some (vi c), some (vi d)]) (st' := [vi 0]) [.inl (.iconst 0)] 24 _ _ (by decide +kernel) rfl ?_
          exact aw_zret (by decide +kernel) rfl (by decide) (by decide) (by omega) (hq _ _ ⟨md0, 0, Or.inl ⟨rfl, fun z => z.2.1 (Or.inl (by omega)), rfl⟩⟩)

theorem m_M_sheet (hj : j ≤ 30) (ha : I32 a) (hI : I32 c ∧ I32 d) (hn : n ≤ 200) : AMet G M_M_sheet [vr 8 0, vi a, vi c, vi d] (Hp b s t mk df jo tr di (sgM th (n : Int) by9 (j : Int) ac bd pm pq tk fo f1 f2 xtp xwg xwh xmd xsl xhw xhs xhd xha xp1 xp2 xp3 xl1 xl2 xrt xlf xdc xhn xsu) dy) (fun r h => ∃ (md' : Nat → Int) (by' : Int), puM b s t mk df jo tr di dy j 0 0 by' ac bd pm pq tk fo f1 f2 xtp xwg xwh md' xsl xhw xhs xhd xha xp1 xp2 xp3 xl1 xl2 xrt xlf xdc xhn xsu a (den (fun k => c + d * (k : Int)) (fun k => xtp k % 256) n) (¬ (1 ≤ d ∧ d ≤ 100) ∨ byd (fun k => c + d * (k : Int)) (fun k => xtp k % 256) n) r h) (fun _ => False) := by
  refine am_rel (by decide +kernel) (Nat.le_of_ble_eq_true rfl) (fun Qr Qt hq => ?_)
  refine aw_blk (pc' := 1) (ls' := [some (vr 8 0), some (vi a), some (vi c), some (vi d), none, none]) (st' := [vr 8 0]) [.inl (.aload_n 0)] 0 _ _ (by decide +kernel) rfl ?_
  refine aw_rV (cs' := 0) (sl' := 0) (pc' := 4) (idx := 113) (as := []) (st := []) (m_M_begin) (by decide +kernel) (show vOK "ChanceBenchModel" 113 M_M_begin 0 = true by decide +kernel) rfl rfl rfl (Nat.le_of_ble_eq_true rfl) (by decide) (by decide) (by decide) rfl rfl rfl (fun r1 h1 z1 => ?_)
  obtain ⟨rfl, md0, hmd, rfl⟩ := z1
  have hQ0 := mdQ_0 hmd
  refine aw_blk (pc' := 5) (ls' := [some (vr 8 0), some (vi a), some (vi c), some (vi d), none, none]) (st' := [vr 8 0]) [.inl (.aload_n 0)] 4 _ _ (by decide +kernel) rfl ?_
  refine aw_dV (cs' := 0) (sl' := 0) (pc' := 8) (st' := [vi (n : Int)]) (idx := 116) (as := []) (st := []) (m_M_used) (by decide +kernel) (show vOK "ChanceBenchModel" 116 M_M_used 0 = true by decide +kernel) rfl rfl rfl (Nat.le_of_ble_eq_true rfl) (by decide) (by decide) (by decide) rfl rfl rfl rfl ?_
  refine aw_blk (pc' := 12) (ls' := [some (vr 8 0), some (vi a), some (vi c), some (vi d), some (vi (n : Int)), none]) (st' := [vi 1, vi d]) [.inl (.istore 4), .inl (.iload_n 3), .inl (.iconst 1)] 8 _ _ (by decide +kernel) rfl ?_
  refine aw_icmp_lt (o := 9) (tgt := 21) (by decide +kernel) (by decide) (by omega) (by omega) (fun c12 => ?_) (fun c12 => ?_)
  · refine aw_blk (pc' := 22) (ls' := [some (vr 8 0), some (vi a), some (vi c), some (vi d), some (vi (n : Int)), none]) (st' := [vi 0]) [.inl (.iconst 0)] 21 _ _ (by decide +kernel) rfl ?_
    exact aw_zret (by decide +kernel) rfl (by decide) (by decide) (by omega) (hq _ _ ⟨md0, 0, Or.inl ⟨rfl, fun z => z.2.1 (Or.inl (by omega)), rfl⟩⟩)
  · refine aw_blk (pc' := 18) (ls' := [some (vr 8 0), some (vi a), some (vi c), some (vi d), some (vi (n : Int)), none]) (st' := [vi 100, vi d]) [.inl (.iload_n 3), .inl (.bipush 100)] 15 _ _ (by decide +kernel) rfl ?_
    refine aw_icmp_le (o := 5) (tgt := 23) (by decide +kernel) (by decide) (by omega) (by omega) (fun c18 => ?_) (fun c18 => ?_)
    · refine aw_blk (pc' := 26) (ls' := [some (vr 8 0), some (vi a), some (vi c), some (vi d), some (vi (n : Int)), some (vi 0)]) (st' := []) [.inl (.iconst 0), .inl (.istore 5)] 23 _ _ (by decide +kernel) rfl ?_
      refine up_to (W := fun i : Nat => ∀ (md1 : Nat → Int) (by1 : Int), mdQ ((i : Int) * 255) (fun u => 0 + den (fun k => c + d * (k : Int)) (fun k => xtp k % 256) i u) md1 → byR (False ∨ byd (fun k => c + d * (k : Int)) (fun k => xtp k % 256) i) by1 → AW G M_M_sheet Qr Qt 0 0 26 [some (vr 8 0), some (vi a), some (vi c), some (vi d), some (vi (n : Int)), some (vi (i : Int))] [] (Hp b s t mk df jo tr di [some (ob 8 [vi 0, vr 8 1, vi 0, vr 8 2, vr 8 3, vr 8 4, vi by1, vr 8 5, vr 8 6, vr 8 7, vr 8 8, vr 8 9, vi (j : Int), vi ac, vi bd, vr 8 10, vr 8 11, vr 8 12, vr 8 13, vr 8 14, vi pm, vl pq, vr 8 15, vr 8 16, vi tk, vr 8 17, vr 8 18, vr 8 19, vi fo, vi f1, vi f2]), some (ar 2 200 xtp), some (ar 0 32016 xwg), some (ar 0 16 xwh), some (ar 1 2001 md1), some (ar 0 30 xsl), some (ar 0 30 xhw), some (ar 0 30 xhs), some (ar 0 60030 xhd), some (ar 0 60030 xha), some (ar 0 600 xp1), some (ar 0 600 xp2), some (ar 1 600 xp3), some (ar 1 2001 xl1), some (ar 1 2001 xl2), some (ar 1 2001 xrt), some (ar 3 2001 xlf), some (ar 0 3600 xdc), some (ar 0 12 xhn), some (ar 0 4005 xsu)] dy)) n ?_ (fun i hi ih => ?_) 0 (by omega) _ _ hQ0.z byR_0.z
      · intro md1 by1 hQ hb
        refine aw_blk (pc' := 30) (ls' := [some (vr 8 0), some (vi a), some (vi c), some (vi d), some (vi (n : Int)), some (vi (n : Int))]) (st' := [vi (n : Int), vi (n : Int)]) [.inl (.iload 5), .inl (.iload 4)] 26 _ _ (by decide +kernel) rfl ?_
        refine aw_icmp_ge (o := 34) (tgt := 64) (by decide +kernel) (by decide) (by omega) (by omega) (fun _ => ?_) (fun c => absurd (by omega) c)
        have hQ9 := hQ.e
        have hb9 := hb.e (q := ¬ (1 ≤ d ∧ d ≤ 100)) (by omega)
        refine aw_blk (pc' := 66) (ls' := [some (vr 8 0), some (vi a), some (vi c), some (vi d), some (vi (n : Int)), some (vi (n : Int))]) (st' := [vi a, vr 8 0]) [.inl (.aload_n 0), .inl (.iload_n 1)] 64 _ _ (by decide +kernel) rfl ?_
        refine aw_rV (cs' := 0) (sl' := 0) (pc' := 69) (idx := 124) (as := [vi a]) (st := []) (m_M_put hj ha hQ9.1 hQ9.2.1 (by have := hQ9.2.2; omega) hb9) (by decide +kernel) (show vOK "ChanceBenchModel" 124 M_M_put 1 = true by decide +kernel) rfl rfl rfl (Nat.le_of_ble_eq_true rfl) (by decide) (by decide) (by decide) rfl rfl rfl (fun r66 h66 z66 => ?_)
        rcases z66 with ⟨rfl, h1, rfl⟩ | ⟨rfl, h1, h2, s1, rfl, rfl⟩
        · exact aw_zret (by decide +kernel) rfl (by decide) (by decide) (by omega) (hq _ _ ⟨md1, by1, Or.inl ⟨rfl, h1, rfl⟩⟩)
        · exact aw_zret (by decide +kernel) rfl (by decide) (by decide) (by omega) (hq _ _ ⟨md1, by1, Or.inr ⟨rfl, h1, h2, s1, rfl, rfl⟩⟩)
      · intro md1 by1 hQ hb
        have hm : 0 ≤ d * (i : Int) ∧ d * (i : Int) ≤ 20000 := ⟨Int.mul_nonneg (by omega) (by omega), by have := Int.mul_le_mul (show d ≤ 100 by omega) (show (i : Int) ≤ 200 by omega) (by omega) (by omega); omega⟩
        refine aw_blk (pc' := 30) (ls' := [some (vr 8 0), some (vi a), some (vi c), some (vi d), some (vi (n : Int)), some (vi (i : Int))]) (st' := [vi (n : Int), vi (i : Int)]) [.inl (.iload 5), .inl (.iload 4)] 26 _ _ (by decide +kernel) rfl ?_
        refine aw_icmp_ge (o := 34) (tgt := 64) (by decide +kernel) (by decide) (by omega) (by omega) (fun c => absurd c (by omega)) (fun _ => ?_)
        refine aw_blk (pc' := 35) (ls' := [some (vr 8 0), some (vi a), some (vi c), some (vi d), some (vi (n : Int)), some (vi (i : Int))]) (st' := [vi c, vr 8 0]) [.inl (.aload_n 0), .inl (.iload_n 2)] 33 _ _ (by decide +kernel) rfl ?_
        refine aw_i2l (by decide +kernel) (by omega) ?_
        refine aw_blk (pc' := 37) (ls' := [some (vr 8 0), some (vi a), some (vi c), some (vi d), some (vi (n : Int)), some (vi (i : Int))]) (st' := [vi d, vl c, vr 8 0]) [.inl (.iload_n 3)] 36 _ _ (by decide +kernel) rfl ?_
        refine aw_i2l (by decide +kernel) (by omega) ?_
        refine aw_blk (pc' := 40) (ls' := [some (vr 8 0), some (vi a), some (vi c), some (vi d), some (vi (n : Int)), some (vi (i : Int))]) (st' := [vi (i : Int), vl d, vl c, vr 8 0]) [.inl (.iload 5)] 38 _ _ (by decide +kernel) rfl ?_
        refine aw_i2l (by decide +kernel) (by omega) ?_
        refine aw_blk (pc' := 49) (ls' := [some (vr 8 0), some (vi a), some (vi c), some (vi d), some (vi (n : Int)), some (vi (i : Int))]) (st' := [vi (i : Int), vr 8 1, vl (c + (d * (i : Int))), vr 8 0]) [.inl (.lmul), .inl (.ladd), .inl (.aload_n 0), .inr (7, 8, 1), .inl (.iload 5)] 41 _ _ (by decide +kernel) rfl ?_
        refine aw_bald (j := i) (by decide +kernel) rfl (by omega) (by omega) (fun r49 => ?_)
        refine aw_blk (pc' := 53) (ls' := [some (vr 8 0), some (vi a), some (vi c), some (vi d), some (vi (n : Int)), some (vi (i : Int))]) (st' := [vi 255, vi (xtp i), vl (c + (d * (i : Int))), vr 8 0]) [.inl (.sipush 255)] 50 _ _ (by decide +kernel) rfl ?_
        refine aw_and (p9 := 256) 8 (by decide +kernel) (by decide) (by decide) (by decide) ?_
        refine aw_i2l (by decide +kernel) (by omega) ?_
        refine aw_rV (cs' := 0) (sl' := 0) (pc' := 58) (idx := 120) (as := [vl (c + (d * (i : Int))), vl ((xtp i) % 256)]) (st := []) (m_M_addQ hQ hb (by omega) (by omega) (by omega)) (by decide +kernel) (show vOK "ChanceBenchModel" 120 M_M_add 2 = true by decide +kernel) rfl rfl rfl (Nat.le_of_ble_eq_true rfl) (by decide) (by decide) (by decide) rfl rfl rfl (fun r55 h55 z55 => ?_)
        obtain ⟨rfl, md2, by2, hQ2, hb2, rfl⟩ := z55
        refine aw_blk (pc' := 61) (ls' := [some (vr 8 0), some (vi a), some (vi c), some (vi d), some (vi (n : Int)), some (vi ((i : Int) + 1))]) (st' := []) [.inl (.iinc 5 1)] 58 _ _ (by decide +kernel) rfl ?_
        refine aw_goto (o := -35) (tgt := 26) (by decide +kernel) (by decide) ?_
        exact ih _ _ (hQ2.s (V := fun k => c + d * (k : Int)) (C := fun k => xtp k % 256) (by omega)) hb2.s
    · refine aw_blk (pc' := 22) (ls' := [some (vr 8 0), some (vi a), some (vi c), some (vi d), some (vi (n : Int)), none]) (st' := [vi 0]) [.inl (.iconst 0)] 21 _ _ (by decide +kernel) rfl ?_
      exact aw_zret (by decide +kernel) rfl (by decide) (by decide) (by omega) (hq _ _ ⟨md0, 0, Or.inl ⟨rfl, fun z => z.2.1 (Or.inl (by omega)), rfl⟩⟩)

variable {q q2 : Nat}
theorem m_M_times (hj : j ≤ 30) (ha : I32 a) (hI : I32 c ∧ I32 d) (hl : isLw xwh (q : Int)) (hTq : ∀ v, 0 ≤ Tm xwg q v ∧ Tm xwg q v ≤ 1048576) : AMet G M_M_times [vr 8 0, vi a, vi (q : Int), vi c, vi d] (Hp b s t mk df jo tr di (sgM th ln by9 (j : Int) ac bd pm pq tk fo f1 f2 xtp xwg xwh xmd xsl xhw xhs xhd xha xp1 xp2 xp3 xl1 xl2 xrt xlf xdc xhn xsu) dy) (fun r h => ∃ (md' : Nat → Int) (by' : Int), puM b s t mk df jo tr di dy j 0 ln by' ac bd pm pq tk fo f1 f2 xtp xwg xwh md' xsl xhw xhs xhd xha xp1 xp2 xp3 xl1 xl2 xrt xlf xdc xhn xsu a (den (fun i => c * idv i + d) (fun i => Tm xwg q (idv i)) 2001) (¬ ((-1000 ≤ c ∧ c ≤ 1000) ∧ (-2000 ≤ d ∧ d ≤ 2000)) ∨ byd (fun i => c * idv i + d) (fun i => Tm xwg q (idv i)) 2001) r h) (fun _ => False) := by
  refine am_rel (by decide +kernel) (Nat.le_of_ble_eq_true rfl) (fun Qr Qt hq => ?_)
  have hq16 := hl.1
  refine aw_blk (pc' := 1) (ls' := [some (vr 8 0), some (vi a), some (vi (q : Int)), some (vi c), some (vi d), none]) (st' := [vr 8 0]) [.inl (.aload_n 0)] 0 _ _ (by decide +kernel) rfl ?_
  refine aw_rV (cs' := 0) (sl' := 0) (pc' := 4) (idx := 113) (as := []) (st := []) (m_M_begin) (by decide +kernel) (show vOK "ChanceBenchModel" 113 M_M_begin 0 = true by decide +kernel) rfl rfl rfl (Nat.le_of_ble_eq_true rfl) (by decide) (by decide) (by decide) rfl rfl rfl (fun r1 h1 z1 => ?_)
  obtain ⟨rfl, md0, hmd, rfl⟩ := z1
  have hQ0 := mdQ_0 hmd
  refine aw_blk (pc' := 6) (ls' := [some (vr 8 0), some (vi a), some (vi (q : Int)), some (vi c), some (vi d), none]) (st' := [vi (q : Int), vr 8 0]) [.inl (.aload_n 0), .inl (.iload_n 2)] 4 _ _ (by decide +kernel) rfl ?_
  refine aw_dV (cs' := 0) (sl' := 0) (pc' := 9) (st' := [vi 1]) (idx := 133) (as := [vi (q : Int)]) (st := []) (m_M_isLaw_1 hl) (by decide +kernel) (show vOK "ChanceBenchModel" 133 M_M_isLaw 1 = true by decide +kernel) rfl rfl rfl (Nat.le_of_ble_eq_true rfl) (by decide) (by decide) (by decide) rfl rfl rfl rfl ?_
  refine aw_if_eq (o := 33) (tgt := 42) (by decide +kernel) (by decide) (by omega) (fun c => absurd c (by omega)) (fun _ => ?_)
  refine aw_blk (pc' := 16) (ls' := [some (vr 8 0), some (vi a), some (vi (q : Int)), some (vi c), some (vi d), none]) (st' := [vi (-1000), vi c]) [.inl (.iload_n 3), .inl (.sipush (-1000))] 12 _ _ (by decide +kernel) rfl ?_
  refine aw_icmp_lt (o := 26) (tgt := 42) (by decide +kernel) (by decide) (by omega) (by omega) (fun c16 => ?_) (fun c16 => ?_)
  · refine aw_blk (pc' := 43) (ls' := [some (vr 8 0), some (vi a), some (vi (q : Int)), some (vi c), some (vi d), none]) (st' := [vi 0]) [.inl (.iconst 0)] 42 _ _ (by decide +kernel) rfl ?_
    exact aw_zret (by decide +kernel) rfl (by decide) (by decide) (by omega) (hq _ _ ⟨md0, 0, Or.inl ⟨rfl, fun z => z.2.1 (Or.inl (by omega)), rfl⟩⟩)
  · refine aw_blk (pc' := 23) (ls' := [some (vr 8 0), some (vi a), some (vi (q : Int)), some (vi c), some (vi d), none]) (st' := [vi 1000, vi c]) [.inl (.iload_n 3), .inl (.sipush 1000)] 19 _ _ (by decide +kernel) rfl ?_
    refine aw_icmp_gt (o := 19) (tgt := 42) (by decide +kernel) (by decide) (by omega) (by omega) (fun c23 => ?_) (fun c23 => ?_)
    · refine aw_blk (pc' := 43) (ls' := [some (vr 8 0), some (vi a), some (vi (q : Int)), some (vi c), some (vi d), none]) (st' := [vi 0]) [.inl (.iconst 0)] 42 _ _ (by decide +kernel) rfl ?_
      exact aw_zret (by decide +kernel) rfl (by decide) (by decide) (by omega) (hq _ _ ⟨md0, 0, Or.inl ⟨rfl, fun z => z.2.1 (Or.inl (by omega)), rfl⟩⟩)
    · refine aw_blk (pc' := 31) (ls' := [some (vr 8 0), some (vi a), some (vi (q : Int)), some (vi c), some (vi d), none]) (st' := [vi (-2000), vi d]) [.inl (.iload 4), .inl (.sipush (-2000))] 26 _ _ (by decide +kernel) rfl ?_
      refine aw_icmp_lt (o := 11) (tgt := 42) (by decide +kernel) (by decide) (by omega) (by omega) (fun c31 => ?_) (fun c31 => ?_)
      · refine aw_blk (pc' := 43) (ls' := [some (vr 8 0), some (vi a), some (vi (q : Int)), some (vi c), some (vi d), none]) (st' := [vi 0]) [.inl (.iconst 0)] 42 _ _ (by decide +kernel) rfl ?_
        exact aw_zret (by decide +kernel) rfl (by decide) (by decide) (by omega) (hq _ _ ⟨md0, 0, Or.inl ⟨rfl, fun z => z.2.1 (Or.inl (by omega)), rfl⟩⟩)
      · refine aw_blk (pc' := 39) (ls' := [some (vr 8 0), some (vi a), some (vi (q : Int)), some (vi c), some (vi d), none]) (st' := [vi 2000, vi d]) [.inl (.iload 4), .inl (.sipush 2000)] 34 _ _ (by decide +kernel) rfl ?_
        refine aw_icmp_le (o := 5) (tgt := 44) (by decide +kernel) (by decide) (by omega) (by omega) (fun c39 => ?_) (fun c39 => ?_)
        · refine aw_blk (pc' := 49) (ls' := [some (vr 8 0), some (vi a), some (vi (q : Int)), some (vi c), some (vi d), some (vi (-1000))]) (st' := []) [.inl (.sipush (-1000)), .inl (.istore 5)] 44 _ _ (by decide +kernel) rfl ?_
          refine up_to (W := fun i : Nat => ∀ (md1 : Nat → Int) (by1 : Int), mdQ ((i : Int) * 1048576) (fun u => 0 + den (fun i => c * idv i + d) (fun i => Tm xwg q (idv i)) i u) md1 → byR (False ∨ byd (fun i => c * idv i + d) (fun i => Tm xwg q (idv i)) i) by1 → AW G M_M_times Qr Qt 0 0 49 [some (vr 8 0), some (vi a), some (vi (q : Int)), some (vi c), some (vi d), some (vi (idv i))] [] (Hp b s t mk df jo tr di [some (ob 8 [vi 0, vr 8 1, vi ln, vr 8 2, vr 8 3, vr 8 4, vi by1, vr 8 5, vr 8 6, vr 8 7, vr 8 8, vr 8 9, vi (j : Int), vi ac, vi bd, vr 8 10, vr 8 11, vr 8 12, vr 8 13, vr 8 14, vi pm, vl pq, vr 8 15, vr 8 16, vi tk, vr 8 17, vr 8 18, vr 8 19, vi fo, vi f1, vi f2]), some (ar 2 200 xtp), some (ar 0 32016 xwg), some (ar 0 16 xwh), some (ar 1 2001 md1), some (ar 0 30 xsl), some (ar 0 30 xhw), some (ar 0 30 xhs), some (ar 0 60030 xhd), some (ar 0 60030 xha), some (ar 0 600 xp1), some (ar 0 600 xp2), some (ar 1 600 xp3), some (ar 1 2001 xl1), some (ar 1 2001 xl2), some (ar 1 2001 xrt), some (ar 3 2001 xlf), some (ar 0 3600 xdc), some (ar 0 12 xhn), some (ar 0 4005 xsu)] dy)) 2001 ?_ (fun i hi ih => ?_) 0 (by omega) _ _ hQ0.z byR_0.z
          · intro md1 by1 hQ hb
            refine aw_blk (pc' := 54) (ls' := [some (vr 8 0), some (vi a), some (vi (q : Int)), some (vi c), some (vi d), some (vi (idv 2001))]) (st' := [vi 1000, vi (idv 2001)]) [.inl (.iload 5), .inl (.sipush 1000)] 49 _ _ (by decide +kernel) rfl ?_
            refine aw_icmp_gt (o := 31) (tgt := 85) (by decide +kernel) (by decide) (by show I32 (_ - _); omega) (by omega) (fun _ => ?_) (fun c => absurd (by show _ < (_ - _); omega) c)
            have hQ9 := hQ.e
            have hb9 := hb.e (q := ¬ ((-1000 ≤ c ∧ c ≤ 1000) ∧ (-2000 ≤ d ∧ d ≤ 2000))) (by omega)
            refine aw_blk (pc' := 87) (ls' := [some (vr 8 0), some (vi a), some (vi (q : Int)), some (vi c), some (vi d), some (vi (idv 2001))]) (st' := [vi a, vr 8 0]) [.inl (.aload_n 0), .inl (.iload_n 1)] 85 _ _ (by decide +kernel) rfl ?_
            refine aw_rV (cs' := 0) (sl' := 0) (pc' := 90) (idx := 124) (as := [vi a]) (st := []) (m_M_put hj ha hQ9.1 hQ9.2.1 (by have := hQ9.2.2; omega) hb9) (by decide +kernel) (show vOK "ChanceBenchModel" 124 M_M_put 1 = true by decide +kernel) rfl rfl rfl (Nat.le_of_ble_eq_true rfl) (by decide) (by decide) (by decide) rfl rfl rfl (fun r87 h87 z87 => ?_)
            rcases z87 with ⟨rfl, h1, rfl⟩ | ⟨rfl, h1, h2, s1, rfl, rfl⟩
            · exact aw_zret (by decide +kernel) rfl (by decide) (by decide) (by omega) (hq _ _ ⟨md1, by1, Or.inl ⟨rfl, h1, rfl⟩⟩)
            · exact aw_zret (by decide +kernel) rfl (by decide) (by decide) (by omega) (hq _ _ ⟨md1, by1, Or.inr ⟨rfl, h1, h2, s1, rfl, rfl⟩⟩)
          · intro md1 by1 hQ hb
            have hiv : idv i = (i : Int) - 1000 := rfl
            have htq := hTq (idv i)
            have hm : -1000000 ≤ c * idv i ∧ c * idv i ≤ 1000000 := mul_in (x := 1000) (y := 1000) (by omega) (by omega) (by omega) (by omega)
            refine aw_blk (pc' := 54) (ls' := [some (vr 8 0), some (vi a), some (vi (q : Int)), some (vi c), some (vi d), some (vi (idv i))]) (st' := [vi 1000, vi (idv i)]) [.inl (.iload 5), .inl (.sipush 1000)] 49 _ _ (by decide +kernel) rfl ?_
            refine aw_icmp_gt (o := 31) (tgt := 85) (by decide +kernel) (by decide) (by omega) (by omega) (fun c => absurd c (by omega)) (fun _ => ?_)
            refine aw_blk (pc' := 59) (ls' := [some (vr 8 0), some (vi a), some (vi (q : Int)), some (vi c), some (vi d), some (vi (idv i))]) (st' := [vi c, vr 8 0]) [.inl (.aload_n 0), .inl (.iload_n 3)] 57 _ _ (by decide +kernel) rfl ?_
            refine aw_i2l (by decide +kernel) (by omega) ?_
            refine aw_blk (pc' := 62) (ls' := [some (vr 8 0), some (vi a), some (vi (q : Int)), some (vi c), some (vi d), some (vi (idv i))]) (st' := [vi (idv i), vl c, vr 8 0]) [.inl (.iload 5)] 60 _ _ (by decide +kernel) rfl ?_
            refine aw_i2l (by decide +kernel) (by omega) ?_
            refine aw_blk (pc' := 66) (ls' := [some (vr 8 0), some (vi a), some (vi (q : Int)), some (vi c), some (vi d), some (vi (idv i))]) (st' := [vi d, vl (c * (idv i)), vr 8 0]) [.inl (.lmul), .inl (.iload 4)] 63 _ _ (by decide +kernel) rfl ?_
            refine aw_i2l (by decide +kernel) (by omega) ?_
            refine aw_blk (pc' := 72) (ls' := [some (vr 8 0), some (vi a), some (vi (q : Int)), some (vi c), some (vi d), some (vi (idv i))]) (st' := [vi (idv i), vi (q : Int), vr 8 0, vl ((c * (idv i)) + d), vr 8 0]) [.inl (.ladd), .inl (.aload_n 0), .inl (.iload_n 2), .inl (.iload 5)] 67 _ _ (by decide +kernel) rfl ?_
            refine aw_dV (cs' := 0) (sl' := 0) (pc' := 75) (st' := [vi (Tm xwg q (idv i)), vl ((c * (idv i)) + d), vr 8 0]) (idx := 136) (as := [vi (q : Int), vi (idv i)]) (st := [vl ((c * (idv i)) + d), vr 8 0]) (m_M_at (by omega) (by omega)) (by decide +kernel) (show vOK "ChanceBenchModel" 136 M_M_at 2 = true by decide +kernel) rfl rfl rfl (Nat.le_of_ble_eq_true rfl) (by decide) (by decide) (by decide) rfl rfl rfl rfl ?_
            refine aw_i2l (by decide +kernel) (by omega) ?_
            refine aw_rV (cs' := 0) (sl' := 0) (pc' := 79) (idx := 120) (as := [vl ((c * (idv i)) + d), vl (Tm xwg q (idv i))]) (st := []) (m_M_addQ hQ hb (by omega) (by omega) (by omega)) (by decide +kernel) (show vOK "ChanceBenchModel" 120 M_M_add 2 = true by decide +kernel) rfl rfl rfl (Nat.le_of_ble_eq_true rfl) (by decide) (by decide) (by decide) rfl rfl rfl (fun r76 h76 z76 => ?_)
            obtain ⟨rfl, md2, by2, hQ2, hb2, rfl⟩ := z76
            refine aw_blk (pc' := 82) (ls' := [some (vr 8 0), some (vi a), some (vi (q : Int)), some (vi c), some (vi d), some (vi ((idv i) + 1))]) (st' := []) [.inl (.iinc 5 1)] 79 _ _ (by decide +kernel) rfl ?_
            refine aw_goto (o := -33) (tgt := 49) (by decide +kernel) (by decide) ?_
            have hnx : idv i + 1 = idv (i + 1) := by unfold idv; omega
            rw [hnx]
            exact ih _ _ (hQ2.s (V := fun i => c * idv i + d) (C := fun i => Tm xwg q (idv i)) (by omega)) hb2.s
        · refine aw_blk (pc' := 43) (ls' := [some (vr 8 0), some (vi a), some (vi (q : Int)), some (vi c), some (vi d), none]) (st' := [vi 0]) [.inl (.iconst 0)] 42 _ _ (by decide +kernel) rfl ?_
          exact aw_zret (by decide +kernel) rfl (by decide) (by decide) (by omega) (hq _ _ ⟨md0, 0, Or.inl ⟨rfl, fun z => z.2.1 (Or.inl (by omega)), rfl⟩⟩)

theorem m_M_given (hj : j ≤ 30) (ha : I32 a) (hI : I32 c ∧ I32 d) (hl : isLw xwh (q : Int)) (hTq : ∀ v, 0 ≤ Tm xwg q v ∧ Tm xwg q v ≤ 1048576) : AMet G M_M_given [vr 8 0, vi a, vi (q : Int), vi c, vi d] (Hp b s t mk df jo tr di (sgM th ln by9 (j : Int) ac bd pm pq tk fo f1 f2 xtp xwg xwh xmd xsl xhw xhs xhd xha xp1 xp2 xp3 xl1 xl2 xrt xlf xdc xhn xsu) dy) (fun r h => ∃ (md' : Nat → Int) (by' : Int), puM b s t mk df jo tr di dy j 0 ln by' ac bd pm pq tk fo f1 f2 xtp xwg xwh md' xsl xhw xhs xhd xha xp1 xp2 xp3 xl1 xl2 xrt xlf xdc xhn xsu a (den (idv) (fun i => if c ≤ idv i ∧ idv i ≤ d then Tm xwg q (idv i) else 0) 2001) (byd (idv) (fun i => if c ≤ idv i ∧ idv i ≤ d then Tm xwg q (idv i) else 0) 2001) r h) (fun _ => False) := by
  refine am_rel (by decide +kernel) (Nat.le_of_ble_eq_true rfl) (fun Qr Qt hq => ?_)
  have hq16 := hl.1
  refine aw_blk (pc' := 1) (ls' := [some (vr 8 0), some (vi a), some (vi (q : Int)), some (vi c), some (vi d), none]) (st' := [vr 8 0]) [.inl (.aload_n 0)] 0 _ _ (by decide +kernel) rfl ?_
  refine aw_rV (cs' := 0) (sl' := 0) (pc' := 4) (idx := 113) (as := []) (st := []) (m_M_begin) (by decide +kernel) (show vOK "ChanceBenchModel" 113 M_M_begin 0 = true by decide +kernel) rfl rfl rfl (Nat.le_of_ble_eq_true rfl) (by decide) (by decide) (by decide) rfl rfl rfl (fun r1 h1 z1 => ?_)
  obtain ⟨rfl, md0, hmd, rfl⟩ := z1
  have hQ0 := mdQ_0 hmd
  refine aw_blk (pc' := 6) (ls' := [some (vr 8 0), some (vi a), some (vi (q : Int)), some (vi c), some (vi d), none]) (st' := [vi (q : Int), vr 8 0]) [.inl (.aload_n 0), .inl (.iload_n 2)] 4 _ _ (by decide +kernel) rfl ?_
  refine aw_dV (cs' := 0) (sl' := 0) (pc' := 9) (st' := [vi 1]) (idx := 133) (as := [vi (q : Int)]) (st := []) (m_M_isLaw_1 hl) (by decide +kernel) (show vOK "ChanceBenchModel" 133 M_M_isLaw 1 = true by decide +kernel) rfl rfl rfl (Nat.le_of_ble_eq_true rfl) (by decide) (by decide) (by decide) rfl rfl rfl rfl ?_
  refine aw_if_ne (o := 5) (tgt := 14) (by decide +kernel) (by decide) (by omega) (fun _ => ?_) (fun c => absurd c (by omega))
  refine aw_blk (pc' := 19) (ls' := [some (vr 8 0), some (vi a), some (vi (q : Int)), some (vi c), some (vi d), some (vi (-1000))]) (st' := []) [.inl (.sipush (-1000)), .inl (.istore 5)] 14 _ _ (by decide +kernel) rfl ?_
  refine up_to (W := fun i : Nat => ∀ (md1 : Nat → Int) (by1 : Int), mdQ ((i : Int) * 1048576) (fun u => 0 + den (idv) (fun i => if c ≤ idv i ∧ idv i ≤ d then Tm xwg q (idv i) else 0) i u) md1 → byR (False ∨ byd (idv) (fun i => if c ≤ idv i ∧ idv i ≤ d then Tm xwg q (idv i) else 0) i) by1 → AW G M_M_given Qr Qt 0 0 19 [some (vr 8 0), some (vi a), some (vi (q : Int)), some (vi c), some (vi d), some (vi (idv i))] [] (Hp b s t mk df jo tr di [some (ob 8 [vi 0, vr 8 1, vi ln, vr 8 2, vr 8 3, vr 8 4, vi by1, vr 8 5, vr 8 6, vr 8 7, vr 8 8, vr 8 9, vi (j : Int), vi ac, vi bd, vr 8 10, vr 8 11, vr 8 12, vr 8 13, vr 8 14, vi pm, vl pq, vr 8 15, vr 8 16, vi tk, vr 8 17, vr 8 18, vr 8 19, vi fo, vi f1, vi f2]), some (ar 2 200 xtp), some (ar 0 32016 xwg), some (ar 0 16 xwh), some (ar 1 2001 md1), some (ar 0 30 xsl), some (ar 0 30 xhw), some (ar 0 30 xhs), some (ar 0 60030 xhd), some (ar 0 60030 xha), some (ar 0 600 xp1), some (ar 0 600 xp2), some (ar 1 600 xp3), some (ar 1 2001 xl1), some (ar 1 2001 xl2), some (ar 1 2001 xrt), some (ar 3 2001 xlf), some (ar 0 3600 xdc), some (ar 0 12 xhn), some (ar 0 4005 xsu)] dy)) 2001 ?_ (fun i hi ih => ?_) 0 (by omega) _ _ hQ0.z byR_0.z
  · intro md1 by1 hQ hb
    refine aw_blk (pc' := 24) (ls' := [some (vr 8 0), some (vi a), some (vi (q : Int)), some (vi c), some (vi d), some (vi (idv 2001))]) (st' := [vi 1000, vi (idv 2001)]) [.inl (.iload 5), .inl (.sipush 1000)] 19 _ _ (by decide +kernel) rfl ?_
    refine aw_icmp_gt (o := 37) (tgt := 61) (by decide +kernel) (by decide) (by show I32 (_ - _); omega) (by omega) (fun _ => ?_) (fun c => absurd (by show _ < (_ - _); omega) c)
    have hQ9 := hQ.e
    have hb9 := hb.eq (q := byd (idv) (fun i => if c ≤ idv i ∧ idv i ≤ d then Tm xwg q (idv i) else 0) 2001) ⟨fun z => z.elim False.elim id, Or.inr⟩
    refine aw_blk (pc' := 63) (ls' := [some (vr 8 0), some (vi a), some (vi (q : Int)), some (vi c), some (vi d), some (vi (idv 2001))]) (st' := [vi a, vr 8 0]) [.inl (.aload_n 0), .inl (.iload_n 1)] 61 _ _ (by decide +kernel) rfl ?_
    refine aw_rV (cs' := 0) (sl' := 0) (pc' := 66) (idx := 124) (as := [vi a]) (st := []) (m_M_put hj ha hQ9.1 hQ9.2.1 (by have := hQ9.2.2; omega) hb9) (by decide +kernel) (show vOK "ChanceBenchModel" 124 M_M_put 1 = true by decide +kernel) rfl rfl rfl (Nat.le_of_ble_eq_true rfl) (by decide) (by decide) (by decide) rfl rfl rfl (fun r63 h63 z63 => ?_)
    rcases z63 with ⟨rfl, h1, rfl⟩ | ⟨rfl, h1, h2, s1, rfl, rfl⟩
    · exact aw_zret (by decide +kernel) rfl (by decide) (by decide) (by omega) (hq _ _ ⟨md1, by1, Or.inl ⟨rfl, h1, rfl⟩⟩)
    · exact aw_zret (by decide +kernel) rfl (by decide) (by decide) (by omega) (hq _ _ ⟨md1, by1, Or.inr ⟨rfl, h1, h2, s1, rfl, rfl⟩⟩)
  · intro md1 by1 hQ hb
    have hiv : idv i = (i : Int) - 1000 := rfl
    have htq := hTq (idv i)
    have hnx : idv i + 1 = idv (i + 1) := by unfold idv; omega
    refine aw_blk (pc' := 24) (ls' := [some (vr 8 0), some (vi a), some (vi (q : Int)), some (vi c), some (vi d), some (vi (idv i))]) (st' := [vi 1000, vi (idv i)]) [.inl (.iload 5), .inl (.sipush 1000)] 19 _ _ (by decide +kernel) rfl ?_
    refine aw_icmp_gt (o := 37) (tgt := 61) (by decide +kernel) (by decide) (by omega) (by omega) (fun c => absurd c (by omega)) (fun _ => ?_)
    refine aw_blk (pc' := 30) (ls' := [some (vr 8 0), some (vi a), some (vi (q : Int)), some (vi c), some (vi d), some (vi (idv i))]) (st' := [vi c, vi (idv i)]) [.inl (.iload 5), .inl (.iload_n 3)] 27 _ _ (by decide +kernel) rfl ?_
    refine aw_icmp_lt (o := 25) (tgt := 55) (by decide +kernel) (by decide) (by omega) (by omega) (fun c30 => ?_) (fun c30 => ?_)
    · have h9 : ¬ (c ≤ idv i ∧ idv i ≤ d) := by omega
      refine aw_blk (pc' := 58) (ls' := [some (vr 8 0), some (vi a), some (vi (q : Int)), some (vi c), some (vi d), some (vi ((idv i) + 1))]) (st' := []) [.inl (.iinc 5 1)] 55 _ _ (by decide +kernel) rfl ?_
      refine aw_goto (o := -39) (tgt := 19) (by decide +kernel) (by decide) ?_
      rw [hnx]
      exact ih _ _ (mdQ.s (V := idv) (C := fun i => if c ≤ idv i ∧ idv i ≤ d then Tm xwg q (idv i) else 0) (i := i) (B := (i : Int) * 1048576) (hQ.eq (by simp only [if_neg h9]; omega) (fun u _ => by simp only [if_neg h9]; split <;> omega)) (by simp only [if_neg h9]; omega)) (byR.s (V := idv) (C := fun i => if c ≤ idv i ∧ idv i ≤ d then Tm xwg q (idv i) else 0) (i := i) (hb.eq ⟨Or.inl, fun z => z.elim id (fun z => by simp only [if_neg h9] at z; omega)⟩))
    · refine aw_blk (pc' := 37) (ls' := [some (vr 8 0), some (vi a), some (vi (q : Int)), some (vi c), some (vi d), some (vi (idv i))]) (st' := [vi d, vi (idv i)]) [.inl (.iload 5), .inl (.iload 4)] 33 _ _ (by decide +kernel) rfl ?_
      refine aw_icmp_gt (o := 18) (tgt := 55) (by decide +kernel) (by decide) (by omega) (by omega) (fun c37 => ?_) (fun c37 => ?_)
      · have h9 : ¬ (c ≤ idv i ∧ idv i ≤ d) := by omega
        refine aw_blk (pc' := 58) (ls' := [some (vr 8 0), some (vi a), some (vi (q : Int)), some (vi c), some (vi d), some (vi ((idv i) + 1))]) (st' := []) [.inl (.iinc 5 1)] 55 _ _ (by decide +kernel) rfl ?_
        refine aw_goto (o := -39) (tgt := 19) (by decide +kernel) (by decide) ?_
        rw [hnx]
        exact ih _ _ (mdQ.s (V := idv) (C := fun i => if c ≤ idv i ∧ idv i ≤ d then Tm xwg q (idv i) else 0) (i := i) (B := (i : Int) * 1048576) (hQ.eq (by simp only [if_neg h9]; omega) (fun u _ => by simp only [if_neg h9]; split <;> omega)) (by simp only [if_neg h9]; omega)) (byR.s (V := idv) (C := fun i => if c ≤ idv i ∧ idv i ≤ d then Tm xwg q (idv i) else 0) (i := i) (hb.eq ⟨Or.inl, fun z => z.elim id (fun z => by simp only [if_neg h9] at z; omega)⟩))
      · have h9 : c ≤ idv i ∧ idv i ≤ d := by omega
        refine aw_blk (pc' := 43) (ls' := [some (vr 8 0), some (vi a), some (vi (q : Int)), some (vi c), some (vi d), some (vi (idv i))]) (st' := [vi (idv i), vr 8 0]) [.inl (.aload_n 0), .inl (.iload 5)] 40 _ _ (by decide +kernel) rfl ?_
        refine aw_i2l (by decide +kernel) (by omega) ?_
        refine aw_blk (pc' := 48) (ls' := [some (vr 8 0), some (vi a), some (vi (q : Int)), some (vi c), some (vi d), some (vi (idv i))]) (st' := [vi (idv i), vi (q : Int), vr 8 0, vl (idv i), vr 8 0]) [.inl (.aload_n 0), .inl (.iload_n 2), .inl (.iload 5)] 44 _ _ (by decide +kernel) rfl ?_
        refine aw_dV (cs' := 0) (sl' := 0) (pc' := 51) (st' := [vi (Tm xwg q (idv i)), vl (idv i), vr 8 0]) (idx := 136) (as := [vi (q : Int), vi (idv i)]) (st := [vl (idv i), vr 8 0]) (m_M_at (by omega) (by omega)) (by decide +kernel) (show vOK "ChanceBenchModel" 136 M_M_at 2 = true by decide +kernel) rfl rfl rfl (Nat.le_of_ble_eq_true rfl) (by decide) (by decide) (by decide) rfl rfl rfl rfl ?_
        refine aw_i2l (by decide +kernel) (by omega) ?_
        refine aw_rV (cs' := 0) (sl' := 0) (pc' := 55) (idx := 120) (as := [vl (idv i), vl (Tm xwg q (idv i))]) (st := []) (m_M_addQ hQ hb (by omega) (by omega) (by omega)) (by decide +kernel) (show vOK "ChanceBenchModel" 120 M_M_add 2 = true by decide +kernel) rfl rfl rfl (Nat.le_of_ble_eq_true rfl) (by decide) (by decide) (by decide) rfl rfl rfl (fun r52 h52 z52 => ?_)
        obtain ⟨rfl, md2, by2, hQ2, hb2, rfl⟩ := z52
        refine aw_blk (pc' := 58) (ls' := [some (vr 8 0), some (vi a), some (vi (q : Int)), some (vi c), some (vi d), some (vi ((idv i) + 1))]) (st' := []) [.inl (.iinc 5 1)] 55 _ _ (by decide +kernel) rfl ?_
        refine aw_goto (o := -39) (tgt := 19) (by decide +kernel) (by decide) ?_
        rw [hnx]
        exact ih _ _ (mdQ.s (V := idv) (C := fun i => if c ≤ idv i ∧ idv i ≤ d then Tm xwg q (idv i) else 0) (i := i) (B := (i : Int) * 1048576) (hQ2.eq (by simp only [if_pos h9]; omega) (fun u _ => by simp only [if_pos h9])) (by simp only [if_pos h9]; omega)) (byR.s (V := idv) (C := fun i => if c ≤ idv i ∧ idv i ≤ d then Tm xwg q (idv i) else 0) (i := i) (hb2.eq (by simp only [if_pos h9])))

theorem m_M_times_0 (hi : I32 e) (hl : ¬ isLw xwh e) : AMet G M_M_times [vr 8 0, vi a, vi e, vi c, vi d] (Hp b s t mk df jo tr di (sgM th ln by9 (j : Int) ac bd pm pq tk fo f1 f2 xtp xwg xwh xmd xsl xhw xhs xhd xha xp1 xp2 xp3 xl1 xl2 xrt xlf xdc xhn xsu) dy) (fun r h => r = some (vi 0) ∧ ∃ md' : Nat → Int, h = Hp b s t mk df jo tr di (sgM 0 ln 0 (j : Int) ac bd pm pq tk fo f1 f2 xtp xwg xwh md' xsl xhw xhs xhd xha xp1 xp2 xp3 xl1 xl2 xrt xlf xdc xhn xsu) dy) (fun _ => False) := by
  refine am_rel (by decide +kernel) (Nat.le_of_ble_eq_true rfl) (fun Qr Qt hq => ?_)
  refine aw_blk (pc' := 1) (ls' := [some (vr 8 0), some (vi a), some (vi e), some (vi c), some (vi d), none]) (st' := [vr 8 0]) [.inl (.aload_n 0)] 0 _ _ (by decide +kernel) rfl ?_
  refine aw_rV (cs' := 0) (sl' := 0) (pc' := 4) (idx := 113) (as := []) (st := []) (m_M_begin) (by decide +kernel) (show vOK "ChanceBenchModel" 113 M_M_begin 0 = true by decide +kernel) rfl rfl rfl (Nat.le_of_ble_eq_true rfl) (by decide) (by decide) (by decide) rfl rfl rfl (fun r1 h1 z1 => ?_)
  obtain ⟨rfl, md0, hmd, rfl⟩ := z1
  have hQ0 := mdQ_0 hmd
  refine aw_blk (pc' := 6) (ls' := [some (vr 8 0), some (vi a), some (vi e), some (vi c), some (vi d), none]) (st' := [vi e, vr 8 0]) [.inl (.aload_n 0), .inl (.iload_n 2)] 4 _ _ (by decide +kernel) rfl ?_
  refine aw_dV (cs' := 0) (sl' := 0) (pc' := 9) (st' := [vi 0]) (idx := 133) (as := [vi e]) (st := []) (m_M_isLaw_0 hi hl) (by decide +kernel) (show vOK "ChanceBenchModel" 133 M_M_isLaw 1 = true by decide +kernel) rfl rfl rfl (Nat.le_of_ble_eq_true rfl) (by decide) (by decide) (by decide) rfl rfl rfl rfl ?_
  refine aw_if_eq (o := 33) (tgt := 42) (by decide +kernel) (by decide) (by omega) (fun _ => ?_) (fun c => absurd (by omega) c)
  refine aw_blk (pc' := 43) (ls' := [some (vr 8 0), some (vi a), some (vi e), some (vi c), some (vi d), none]) (st' := [vi 0]) [.inl (.iconst 0)] 42 _ _ (by decide +kernel) rfl ?_
  exact aw_zret (by decide +kernel) rfl (by decide) (by decide) (by omega) (hq _ _ ⟨rfl, md0, rfl⟩)

theorem m_M_given_0 (hi : I32 e) (hl : ¬ isLw xwh e) : AMet G M_M_given [vr 8 0, vi a, vi e, vi c, vi d] (Hp b s t mk df jo tr di (sgM th ln by9 (j : Int) ac bd pm pq tk fo f1 f2 xtp xwg xwh xmd xsl xhw xhs xhd xha xp1 xp2 xp3 xl1 xl2 xrt xlf xdc xhn xsu) dy) (fun r h => r = some (vi 0) ∧ ∃ md' : Nat → Int, h = Hp b s t mk df jo tr di (sgM 0 ln 0 (j : Int) ac bd pm pq tk fo f1 f2 xtp xwg xwh md' xsl xhw xhs xhd xha xp1 xp2 xp3 xl1 xl2 xrt xlf xdc xhn xsu) dy) (fun _ => False) := by
  refine am_rel (by decide +kernel) (Nat.le_of_ble_eq_true rfl) (fun Qr Qt hq => ?_)
  refine aw_blk (pc' := 1) (ls' := [some (vr 8 0), some (vi a), some (vi e), some (vi c), some (vi d), none]) (st' := [vr 8 0]) [.inl (.aload_n 0)] 0 _ _ (by decide +kernel) rfl ?_
  refine aw_rV (cs' := 0) (sl' := 0) (pc' := 4) (idx := 113) (as := []) (st := []) (m_M_begin) (by decide +kernel) (show vOK "ChanceBenchModel" 113 M_M_begin 0 = true by decide +kernel) rfl rfl rfl (Nat.le_of_ble_eq_true rfl) (by decide) (by decide) (by decide) rfl rfl rfl (fun r1 h1 z1 => ?_)
  obtain ⟨rfl, md0, hmd, rfl⟩ := z1
  have hQ0 := mdQ_0 hmd
  refine aw_blk (pc' := 6) (ls' := [some (vr 8 0), some (vi a), some (vi e), some (vi c), some (vi d), none]) (st' := [vi e, vr 8 0]) [.inl (.aload_n 0), .inl (.iload_n 2)] 4 _ _ (by decide +kernel) rfl ?_
  refine aw_dV (cs' := 0) (sl' := 0) (pc' := 9) (st' := [vi 0]) (idx := 133) (as := [vi e]) (st := []) (m_M_isLaw_0 hi hl) (by decide +kernel) (show vOK "ChanceBenchModel" 133 M_M_isLaw 1 = true by decide +kernel) rfl rfl rfl (Nat.le_of_ble_eq_true rfl) (by decide) (by decide) (by decide) rfl rfl rfl rfl ?_
  refine aw_if_ne (o := 5) (tgt := 14) (by decide +kernel) (by decide) (by omega) (fun c => absurd (by omega) c) (fun _ => ?_)
  refine aw_blk (pc' := 13) (ls' := [some (vr 8 0), some (vi a), some (vi e), some (vi c), some (vi d), none]) (st' := [vi 0]) [.inl (.iconst 0)] 12 _ _ (by decide +kernel) rfl ?_
  exact aw_zret (by decide +kernel) rfl (by decide) (by decide) (by omega) (hq _ _ ⟨rfl, md0, rfl⟩)

theorem m_M_sum_0 (hi : I32 e ∧ I32 B) (hl : ¬ (isLw xwh e ∧ isLw xwh B)) : AMet G M_M_sum [vr 8 0, vi a, vi e, vi B] (Hp b s t mk df jo tr di (sgM th ln by9 (j : Int) ac bd pm pq tk fo f1 f2 xtp xwg xwh xmd xsl xhw xhs xhd xha xp1 xp2 xp3 xl1 xl2 xrt xlf xdc xhn xsu) dy) (fun r h => r = some (vi 0) ∧ ∃ md' : Nat → Int, h = Hp b s t mk df jo tr di (sgM 0 ln 0 (j : Int) ac bd pm pq tk fo f1 f2 xtp xwg xwh md' xsl xhw xhs xhd xha xp1 xp2 xp3 xl1 xl2 xrt xlf xdc xhn xsu) dy) (fun _ => False) := by
  refine am_rel (by decide +kernel) (Nat.le_of_ble_eq_true rfl) (fun Qr Qt hq => ?_)
  refine aw_blk (pc' := 1) (ls' := [some (vr 8 0), some (vi a), some (vi e), some (vi B), none, none]) (st' := [vr 8 0]) [.inl (.aload_n 0)] 0 _ _ (by decide +kernel) rfl ?_
  refine aw_rV (cs' := 0) (sl' := 0) (pc' := 4) (idx := 113) (as := []) (st := []) (m_M_begin) (by decide +kernel) (show vOK "ChanceBenchModel" 113 M_M_begin 0 = true by decide +kernel) rfl rfl rfl (Nat.le_of_ble_eq_true rfl) (by decide) (by decide) (by decide) rfl rfl rfl (fun r1 h1 z1 => ?_)
  obtain ⟨rfl, md0, hmd, rfl⟩ := z1
  have hQ0 := mdQ_0 hmd
  refine aw_blk (pc' := 6) (ls' := [some (vr 8 0), some (vi a), some (vi e), some (vi B), none, none]) (st' := [vi e, vr 8 0]) [.inl (.aload_n 0), .inl (.iload_n 2)] 4 _ _ (by decide +kernel) rfl ?_
  by_cases hl1 : isLw xwh e
  · refine aw_dV (cs' := 0) (sl' := 0) (pc' := 9) (st' := [vi 1]) (idx := 133) (as := [vi e]) (st := []) (m_M_isLaw_1 hl1) (by decide +kernel) (show vOK "ChanceBenchModel" 133 M_M_isLaw 1 = true by decide +kernel) rfl rfl rfl (Nat.le_of_ble_eq_true rfl) (by decide) (by decide) (by decide) rfl rfl rfl rfl ?_
    refine aw_if_eq (o := 11) (tgt := 20) (by decide +kernel) (by decide) (by omega) (fun c => absurd c (by omega)) (fun _ => ?_)
    refine aw_blk (pc' := 14) (ls' := [some (vr 8 0), some (vi a), some (vi e), some (vi B), none, none]) (st' := [vi B, vr 8 0]) [.inl (.aload_n 0), .inl (.iload_n 3)] 12 _ _ (by decide +kernel) rfl ?_
    refine aw_dV (cs' := 0) (sl' := 0) (pc' := 17) (st' := [vi 0]) (idx := 133) (as := [vi B]) (st := []) (m_M_isLaw_0 hi.2 (fun z => hl ⟨hl1, z⟩)) (by decide +kernel) (show vOK "ChanceBenchModel" 133 M_M_isLaw 1 = true by decide +kernel) rfl rfl rfl (Nat.le_of_ble_eq_true rfl) (by decide) (by decide) (by decide) rfl rfl rfl rfl ?_
    refine aw_if_ne (o := 5) (tgt := 22) (by decide +kernel) (by decide) (by omega) (fun c => absurd (by omega) c) (fun _ => ?_)
    refine aw_blk (pc' := 21) (ls' := [some (vr 8 0), some (vi a), some (vi e), some (vi B), none, none]) (st' := [vi 0]) [.inl (.iconst 0)] 20 _ _ (by decide +kernel) rfl ?_
    exact aw_zret (by decide +kernel) rfl (by decide) (by decide) (by omega) (hq _ _ ⟨rfl, md0, rfl⟩)
  · refine aw_dV (cs' := 0) (sl' := 0) (pc' := 9) (st' := [vi 0]) (idx := 133) (as := [vi e]) (st := []) (m_M_isLaw_0 hi.1 hl1) (by decide +kernel) (show vOK "ChanceBenchModel" 133 M_M_isLaw 1 = true by decide +kernel) rfl rfl rfl (Nat.le_of_ble_eq_true rfl) (by decide) (by decide) (by decide) rfl rfl rfl rfl ?_
    refine aw_if_eq (o := 11) (tgt := 20) (by decide +kernel) (by decide) (by omega) (fun _ => ?_) (fun c => absurd (by omega) c)
    refine aw_blk (pc' := 21) (ls' := [some (vr 8 0), some (vi a), some (vi e), some (vi B), none, none]) (st' := [vi 0]) [.inl (.iconst 0)] 20 _ _ (by decide +kernel) rfl ?_
    exact aw_zret (by decide +kernel) rfl (by decide) (by decide) (by omega) (hq _ _ ⟨rfl, md0, rfl⟩)

theorem m_M_of_0 (hi : I32 e ∧ I32 B) (hl : ¬ (isLw xwh e ∧ isLw xwh B)) : AMet G M_M_of [vr 8 0, vi a, vi e, vi B, vi d] (Hp b s t mk df jo tr di (sgM th ln by9 (j : Int) ac bd pm pq tk fo f1 f2 xtp xwg xwh xmd xsl xhw xhs xhd xha xp1 xp2 xp3 xl1 xl2 xrt xlf xdc xhn xsu) dy) (fun r h => r = some (vi 0) ∧ ∃ md' : Nat → Int, h = Hp b s t mk df jo tr di (sgM 0 ln 0 (j : Int) ac bd pm pq tk fo f1 f2 xtp xwg xwh md' xsl xhw xhs xhd xha xp1 xp2 xp3 xl1 xl2 xrt xlf xdc xhn xsu) dy) (fun _ => False) := by
  refine am_rel (by decide +kernel) (Nat.le_of_ble_eq_true rfl) (fun Qr Qt hq => ?_)
  refine aw_blk (pc' := 1) (ls' := [some (vr 8 0), some (vi a), some (vi e), some (vi B), some (vi d), none, none]) (st' := [vr 8 0]) [.inl (.aload_n 0)] 0 _ _ (by decide +kernel) rfl ?_
  refine aw_rV (cs' := 0) (sl' := 0) (pc' := 4) (idx := 113) (as := []) (st := []) (m_M_begin) (by decide +kernel) (show vOK "ChanceBenchModel" 113 M_M_begin 0 = true by decide +kernel) rfl rfl rfl (Nat.le_of_ble_eq_true rfl) (by decide) (by decide) (by decide) rfl rfl rfl (fun r1 h1 z1 => ?_)
  obtain ⟨rfl, md0, hmd, rfl⟩ := z1
  have hQ0 := mdQ_0 hmd
  refine aw_blk (pc' := 6) (ls' := [some (vr 8 0), some (vi a), some (vi e), some (vi B), some (vi d), none, none]) (st' := [vi e, vr 8 0]) [.inl (.aload_n 0), .inl (.iload_n 2)] 4 _ _ (by decide +kernel) rfl ?_
  by_cases hl1 : isLw xwh e
  · refine aw_dV (cs' := 0) (sl' := 0) (pc' := 9) (st' := [vi 1]) (idx := 133) (as := [vi e]) (st := []) (m_M_isLaw_1 hl1) (by decide +kernel) (show vOK "ChanceBenchModel" 133 M_M_isLaw 1 = true by decide +kernel) rfl rfl rfl (Nat.le_of_ble_eq_true rfl) (by decide) (by decide) (by decide) rfl rfl rfl rfl ?_
    refine aw_if_eq (o := 22) (tgt := 31) (by decide +kernel) (by decide) (by omega) (fun c => absurd c (by omega)) (fun _ => ?_)
    refine aw_blk (pc' := 14) (ls' := [some (vr 8 0), some (vi a), some (vi e), some (vi B), some (vi d), none, none]) (st' := [vi B, vr 8 0]) [.inl (.aload_n 0), .inl (.iload_n 3)] 12 _ _ (by decide +kernel) rfl ?_
    refine aw_dV (cs' := 0) (sl' := 0) (pc' := 17) (st' := [vi 0]) (idx := 133) (as := [vi B]) (st := []) (m_M_isLaw_0 hi.2 (fun z => hl ⟨hl1, z⟩)) (by decide +kernel) (show vOK "ChanceBenchModel" 133 M_M_isLaw 1 = true by decide +kernel) rfl rfl rfl (Nat.le_of_ble_eq_true rfl) (by decide) (by decide) (by decide) rfl rfl rfl rfl ?_
    refine aw_if_eq (o := 14) (tgt := 31) (by decide +kernel) (by decide) (by omega) (fun _ => ?_) (fun c => absurd (by omega) c)
    refine aw_blk (pc' := 32) (ls' := [some (vr 8 0), some (vi a), some (vi e), some (vi B), some (vi d), none, none]) (st' := [vi 0]) [.inl (.iconst 0)] 31 _ _ (by decide +kernel) rfl ?_
    exact aw_zret (by decide +kernel) rfl (by decide) (by decide) (by omega) (hq _ _ ⟨rfl, md0, rfl⟩)
  · refine aw_dV (cs' := 0) (sl' := 0) (pc' := 9) (st' := [vi 0]) (idx := 133) (as := [vi e]) (st := []) (m_M_isLaw_0 hi.1 hl1) (by decide +kernel) (show vOK "ChanceBenchModel" 133 M_M_isLaw 1 = true by decide +kernel) rfl rfl rfl (Nat.le_of_ble_eq_true rfl) (by decide) (by decide) (by decide) rfl rfl rfl rfl ?_
    refine aw_if_eq (o := 22) (tgt := 31) (by decide +kernel) (by decide) (by omega) (fun _ => ?_) (fun c => absurd (by omega) c)
    refine aw_blk (pc' := 32) (ls' := [some (vr 8 0), some (vi a), some (vi e), some (vi B), some (vi d), none, none]) (st' := [vi 0]) [.inl (.iconst 0)] 31 _ _ (by decide +kernel) rfl ?_
    exact aw_zret (by decide +kernel) rfl (by decide) (by decide) (by omega) (hq _ _ ⟨rfl, md0, rfl⟩)

theorem m_M_mix_0 (hi : I32 e ∧ I32 B) (hl : ¬ (isLw xwh e ∧ isLw xwh B)) : AMet G M_M_mix [vr 8 0, vi a, vi e, vi B, vi c, vi d] (Hp b s t mk df jo tr di (sgM th ln by9 (j : Int) ac bd pm pq tk fo f1 f2 xtp xwg xwh xmd xsl xhw xhs xhd xha xp1 xp2 xp3 xl1 xl2 xrt xlf xdc xhn xsu) dy) (fun r h => r = some (vi 0) ∧ ∃ md' : Nat → Int, h = Hp b s t mk df jo tr di (sgM 0 ln 0 (j : Int) ac bd pm pq tk fo f1 f2 xtp xwg xwh md' xsl xhw xhs xhd xha xp1 xp2 xp3 xl1 xl2 xrt xlf xdc xhn xsu) dy) (fun _ => False) := by
  refine am_rel (by decide +kernel) (Nat.le_of_ble_eq_true rfl) (fun Qr Qt hq => ?_)
  refine aw_blk (pc' := 1) (ls' := [some (vr 8 0), some (vi a), some (vi e), some (vi B), some (vi c), some (vi d), none]) (st' := [vr 8 0]) [.inl (.aload_n 0)] 0 _ _ (by decide +kernel) rfl ?_
  refine aw_rV (cs' := 0) (sl' := 0) (pc' := 4) (idx := 113) (as := []) (st := []) (m_M_begin) (by decide +kernel) (show vOK "ChanceBenchModel" 113 M_M_begin 0 = true by decide +kernel) rfl rfl rfl (Nat.le_of_ble_eq_true rfl) (by decide) (by decide) (by decide) rfl rfl rfl (fun r1 h1 z1 => ?_)
  obtain ⟨rfl, md0, hmd, rfl⟩ := z1
  have hQ0 := mdQ_0 hmd
  refine aw_blk (pc' := 6) (ls' := [some (vr 8 0), some (vi a), some (vi e), some (vi B), some (vi c), some (vi d), none]) (st' := [vi e, vr 8 0]) [.inl (.aload_n 0), .inl (.iload_n 2)] 4 _ _ (by decide +kernel) rfl ?_
  by_cases hl1 : isLw xwh e
  · refine aw_dV (cs' := 0) (sl' := 0) (pc' := 9) (st' := [vi 1]) (idx := 133) (as := [vi e]) (st := []) (m_M_isLaw_1 hl1) (by decide +kernel) (show vOK "ChanceBenchModel" 133 M_M_isLaw 1 = true by decide +kernel) rfl rfl rfl (Nat.le_of_ble_eq_true rfl) (by decide) (by decide) (by decide) rfl rfl rfl rfl ?_
    refine aw_if_eq (o := 37) (tgt := 46) (by decide +kernel) (by decide) (by omega) (fun c => absurd c (by omega)) (fun _ => ?_)
    refine aw_blk (pc' := 14) (ls' := [some (vr 8 0), some (vi a), some (vi e), some (vi B), some (vi c), some (vi d), none]) (st' := [vi B, vr 8 0]) [.inl (.aload_n 0), .inl (.iload_n 3)] 12 _ _ (by decide +kernel) rfl ?_
    refine aw_dV (cs' := 0) (sl' := 0) (pc' := 17) (st' := [vi 0]) (idx := 133) (as := [vi B]) (st := []) (m_M_isLaw_0 hi.2 (fun z => hl ⟨hl1, z⟩)) (by decide +kernel) (show vOK "ChanceBenchModel" 133 M_M_isLaw 1 = true by decide +kernel) rfl rfl rfl (Nat.le_of_ble_eq_true rfl) (by decide) (by decide) (by decide) rfl rfl rfl rfl ?_
    refine aw_if_eq (o := 29) (tgt := 46) (by decide +kernel) (by decide) (by omega) (fun _ => ?_) (fun c => absurd (by omega) c)
    refine aw_blk (pc' := 47) (ls' := [some (vr 8 0), some (vi a), some (vi e), some (vi B), some (vi c), some (vi d), none]) (st' := [vi 0]) [.inl (.iconst 0)] 46 _ _ (by decide +kernel) rfl ?_
    exact aw_zret (by decide +kernel) rfl (by decide) (by decide) (by omega) (hq _ _ ⟨rfl, md0, rfl⟩)
  · refine aw_dV (cs' := 0) (sl' := 0) (pc' := 9) (st' := [vi 0]) (idx := 133) (as := [vi e]) (st := []) (m_M_isLaw_0 hi.1 hl1) (by decide +kernel) (show vOK "ChanceBenchModel" 133 M_M_isLaw 1 = true by decide +kernel) rfl rfl rfl (Nat.le_of_ble_eq_true rfl) (by decide) (by decide) (by decide) rfl rfl rfl rfl ?_
    refine aw_if_eq (o := 37) (tgt := 46) (by decide +kernel) (by decide) (by omega) (fun _ => ?_) (fun c => absurd (by omega) c)
    refine aw_blk (pc' := 47) (ls' := [some (vr 8 0), some (vi a), some (vi e), some (vi B), some (vi c), some (vi d), none]) (st' := [vi 0]) [.inl (.iconst 0)] 46 _ _ (by decide +kernel) rfl ?_
    exact aw_zret (by decide +kernel) rfl (by decide) (by decide) (by omega) (hq _ _ ⟨rfl, md0, rfl⟩)

theorem m_M_of_2 (hi : I32 d) (hd : ¬ (0 ≤ d ∧ d ≤ 2)) (hl : isLw xwh e ∧ isLw xwh B) : AMet G M_M_of [vr 8 0, vi a, vi e, vi B, vi d] (Hp b s t mk df jo tr di (sgM th ln by9 (j : Int) ac bd pm pq tk fo f1 f2 xtp xwg xwh xmd xsl xhw xhs xhd xha xp1 xp2 xp3 xl1 xl2 xrt xlf xdc xhn xsu) dy) (fun r h => r = some (vi 0) ∧ ∃ md' : Nat → Int, h = Hp b s t mk df jo tr di (sgM 0 ln 0 (j : Int) ac bd pm pq tk fo f1 f2 xtp xwg xwh md' xsl xhw xhs xhd xha xp1 xp2 xp3 xl1 xl2 xrt xlf xdc xhn xsu) dy) (fun _ => False) := by
  refine am_rel (by decide +kernel) (Nat.le_of_ble_eq_true rfl) (fun Qr Qt hq => ?_)
  refine aw_blk (pc' := 1) (ls' := [some (vr 8 0), some (vi a), some (vi e), some (vi B), some (vi d), none, none]) (st' := [vr 8 0]) [.inl (.aload_n 0)] 0 _ _ (by decide +kernel) rfl ?_
  refine aw_rV (cs' := 0) (sl' := 0) (pc' := 4) (idx := 113) (as := []) (st := []) (m_M_begin) (by decide +kernel) (show vOK "ChanceBenchModel" 113 M_M_begin 0 = true by decide +kernel) rfl rfl rfl (Nat.le_of_ble_eq_true rfl) (by decide) (by decide) (by decide) rfl rfl rfl (fun r1 h1 z1 => ?_)
  obtain ⟨rfl, md0, hmd, rfl⟩ := z1
  have hQ0 := mdQ_0 hmd
  refine aw_blk (pc' := 6) (ls' := [some (vr 8 0), some (vi a), some (vi e), some (vi B), some (vi d), none, none]) (st' := [vi e, vr 8 0]) [.inl (.aload_n 0), .inl (.iload_n 2)] 4 _ _ (by decide +kernel) rfl ?_
  refine aw_dV (cs' := 0) (sl' := 0) (pc' := 9) (st' := [vi 1]) (idx := 133) (as := [vi e]) (st := []) (m_M_isLaw_1 hl.1) (by decide +kernel) (show vOK "ChanceBenchModel" 133 M_M_isLaw 1 = true by decide +kernel) rfl rfl rfl (Nat.le_of_ble_eq_true rfl) (by decide) (by decide) (by decide) rfl rfl rfl rfl ?_
  refine aw_if_eq (o := 22) (tgt := 31) (by decide +kernel) (by decide) (by omega) (fun c => absurd c (by omega)) (fun _ => ?_)
  refine aw_blk (pc' := 14) (ls' := [some (vr 8 0), some (vi a), some (vi e), some (vi B), some (vi d), none, none]) (st' := [vi B, vr 8 0]) [.inl (.aload_n 0), .inl (.iload_n 3)] 12 _ _ (by decide +kernel) rfl ?_
  refine aw_dV (cs' := 0) (sl' := 0) (pc' := 17) (st' := [vi 1]) (idx := 133) (as := [vi B]) (st := []) (m_M_isLaw_1 hl.2) (by decide +kernel) (show vOK "ChanceBenchModel" 133 M_M_isLaw 1 = true by decide +kernel) rfl rfl rfl (Nat.le_of_ble_eq_true rfl) (by decide) (by decide) (by decide) rfl rfl rfl rfl ?_
  refine aw_if_eq (o := 14) (tgt := 31) (by decide +kernel) (by decide) (by omega) (fun c => absurd c (by omega)) (fun _ => ?_)
  refine aw_blk (pc' := 22) (ls' := [some (vr 8 0), some (vi a), some (vi e), some (vi B), some (vi d), none, none]) (st' := [vi d]) [.inl (.iload 4)] 20 _ _ (by decide +kernel) rfl ?_
  refine aw_if_lt (o := 9) (tgt := 31) (by decide +kernel) (by decide) (by omega) (fun c22 => ?_) (fun c22 => ?_)
  · refine aw_blk (pc' := 32) (ls' := [some (vr 8 0), some (vi a), some (vi e), some (vi B), some (vi d), none, none]) (st' := [vi 0]) [.inl (.iconst 0)] 31 _ _ (by decide +kernel) rfl ?_
    exact aw_zret (by decide +kernel) rfl (by decide) (by decide) (by omega) (hq _ _ ⟨rfl, md0, rfl⟩)
  · refine aw_blk (pc' := 28) (ls' := [some (vr 8 0), some (vi a), some (vi e), some (vi B), some (vi d), none, none]) (st' := [vi 2, vi d]) [.inl (.iload 4), .inl (.iconst 2)] 25 _ _ (by decide +kernel) rfl ?_
    refine aw_icmp_le (o := 5) (tgt := 33) (by decide +kernel) (by decide) (by omega) (by omega) (fun c => absurd c (by omega)) (fun _ => ?_)
    refine aw_blk (pc' := 32) (ls' := [some (vr 8 0), some (vi a), some (vi e), some (vi B), some (vi d), none, none]) (st' := [vi 0]) [.inl (.iconst 0)] 31 _ _ (by decide +kernel) rfl ?_
    exact aw_zret (by decide +kernel) rfl (by decide) (by decide) (by omega) (hq _ _ ⟨rfl, md0, rfl⟩)

end
