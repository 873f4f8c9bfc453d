section
variable {G : GT} {M M' : MI} {Qr Qr' : Option AV → HT → Prop} {Qt : HT → Prop} {cs sl pc cs' sl' pc' : Nat} {ls : LSt} {st : List AV} {h : HT} {s q n idx : Nat}
theorem aw_rV {as : List AV} {ci : Nat} {fs : List AV} {stk : List AV} (hM : AMet G M' (vr s q :: as) h Qr' (fun _ => False)) (hd : decode M.2.1 pc = .ok (.invokevirtual idx, 3)) (hw : vOK M.1.cls idx M' as.length = true) (hg : hget h s q = some (ob ci fs)) (hci : (cls[ci]?).map (fun r => r.1) = some M'.1.cls) (hst : stk = as.reverse ++ vr s q :: st) (hcat : catS st ≤ 8) (hd1 : M'.2.2.2.2.1 + 1 ≤ M.2.2.2.2.1) (hc : cs + M'.2.2.2.2.2.1 ≤ M.2.2.2.2.2.1) (hs : sl + M'.2.2.2.2.2.2 ≤ M.2.2.2.2.2.2)
    (e1 : cs + M'.2.2.2.2.2.1 = cs') (e2 : sl + M'.2.2.2.2.2.2 = sl') (e3 : pc + 3 = pc') (k : ∀ r h', Qr' r h' → AW G M Qr Qt cs' sl' pc' ls (r.toList ++ st) h') : AW G M Qr Qt cs sl pc ls stk h := by
  subst e1 e2 e3
  exact aw_callV hM hd hw hg hci hst hcat hd1 hc hs (fun _ z => z.elim) k
theorem aw_rS {as : List AV} {stk : List AV} (hM : AMet G M' as h Qr' (fun _ => False)) (hd : decode M.2.1 pc = .ok (.invokestatic idx, 3)) (hw : sOK M.1.cls idx M' as.length = true) (hst : stk = as.reverse ++ st) (hcat : catS st ≤ 8) (hd1 : M'.2.2.2.2.1 + 1 ≤ M.2.2.2.2.1) (hc : cs + M'.2.2.2.2.2.1 ≤ M.2.2.2.2.2.1) (hs : sl + M'.2.2.2.2.2.2 ≤ M.2.2.2.2.2.2)
    (e1 : cs + M'.2.2.2.2.2.1 = cs') (e2 : sl + M'.2.2.2.2.2.2 = sl') (e3 : pc + 3 = pc') (k : ∀ r h', Qr' r h' → AW G M Qr Qt cs' sl' pc' ls (r.toList ++ st) h') : AW G M Qr Qt cs sl pc ls stk h := by
  subst e1 e2 e3
  exact aw_callS hM hd hw hst hcat hd1 hc hs (fun _ z => z.elim) k
end
/-- what the maker holds, as a table: its sum is at most B; by_: something beyond the values came in -/
def mkR (B : Int) (T : Int → Int) (by_ : Prop) (n : Nat) (rf : Int) (f g : Nat → Int) : Prop :=
  (n ≤ 24 ∧ inc f n ∧ (∀ i, i < n → inR (f i) ∧ 1 ≤ g i) ∧ sumZ g n ≤ B) ∧ ((rf = 0 ∧ ¬ by_ ∧ ∀ u, inR u → T u = den f g n u) ∨ (rf = 1 ∧ (by_ ∨ 24 < cnt T)))
theorem mkR_0 {f g : Nat → Int} : mkR 0 (fun _ => 0) False 0 0 f g :=
  ⟨⟨by omega, fun i j _ h => by omega, fun i h => by omega, Int.le_refl _⟩, Or.inl ⟨rfl, fun h => h, fun u _ => rfl⟩⟩
theorem mkR.eq {B B' : Int} {T T' : Int → Int} {by_ by' : Prop} {n : Nat} {rf : Int} {f g : Nat → Int} (R : mkR B T by_ n rf f g) (hB : B ≤ B') (hT : ∀ u, inR u → T u = T' u) (hb : by_ ↔ by') : mkR B' T' by' n rf f g := by
  obtain ⟨⟨r1, r2, r3, r4⟩, r5⟩ := R
  refine ⟨⟨r1, r2, r3, by omega⟩, ?_⟩
  rcases r5 with ⟨a, b, c⟩ | ⟨a, b⟩
  · exact Or.inl ⟨a, fun z => b (hb.mpr z), fun u hu => by rw [← hT u hu, c u hu]⟩
  · exact Or.inr ⟨a, b.elim (fun z => Or.inl (hb.mp z)) (fun z => Or.inr (by rw [← cnt_ext hT]; exact z))⟩
section
variable {G : GT} {h : HT} {b s t mk df jo tr di mo dy : SG} {a c d B : Int} {n k j : Nat} {f g : Nat → Int} {rf : Int} {T : Int → Int} {by_ : Prop}
theorem m_K_addR (R : mkR B T by_ n rf f g) (ha : I64 a) (hc : 0 ≤ c) (hB : B + c ≤ 4611686018427387904) : AMet G M_K_add [vr 3 0, vl a, vl c] (Hp b s t (sgK (n : Int) rf f g) df jo tr di mo dy) (fun r h => r = none ∧ ∃ (n' : Nat) (rf' : Int) (f' g' : Nat → Int), mkR (B + c) (fun u => T u + (if a = u then c else 0)) (by_ ∨ (1 ≤ c ∧ ¬ inR a)) n' rf' f' g' ∧ h = Hp b s t (sgK (n' : Int) rf' f' g') df jo tr di mo dy) (fun _ => False) := by
  have R0 := R
  obtain ⟨⟨hn, hs, hg, hS⟩, hR⟩ := R
  have hnn : ∀ i, i < n → 0 ≤ g i := fun i hi => by have := (hg i hi).2; omega
  have hS0 := sumZ_nn hnn n (Nat.le_refl n)
  have up : cnt T ≤ cnt (fun u => T u + (if a = u then c else 0)) := cnt_up (fun u _ => by split <;> omega)
  rcases hR with ⟨rfl, hb, hT⟩ | ⟨rfl, hb⟩
  · rcases Int.lt_or_le c 1 with c1 | c1
    · refine am_mono (m_K_add_z (by omega) c1) (fun r h z => ⟨z.1, n, 0, f, g, ?_, z.2⟩) (fun _ z => z)
      have : c = 0 := by omega
      subst this
      exact R0.eq (by omega) (fun u _ => by split <;> omega) ⟨Or.inl, fun z => z.elim id (fun z => by omega)⟩
    · rcases Classical.em (inR a) with ra | ra
      · rcases Classical.em (lb f a n < n ∧ f (lb f a n) = a) with e | e
        · have h1 := sumZ_le hnn (Nat.le_refl n) e.1
          have h2 := (hg _ e.1).2
          refine am_mono (m_K_add_h hn hs ra c1 (by omega) e.1 e.2 (by omega)) (fun r h z => ⟨z.1, n, 0, f, _, ⟨⟨hn, hs, fun i hi => ⟨(hg i hi).1, ?_⟩, ?_⟩, Or.inl ⟨rfl, ?_, fun u hu => ?_⟩⟩, z.2⟩) (fun _ z => z)
          · simp only [va_up]; split
            · omega
            · exact (hg i hi).2
          · have := sumZ_one (F := va_up g (lb f a n) (g (lb f a n) + c)) (G := g) (p := lb f a n) e.1 (fun k hk hp => by simp [va_up, hp])
            rw [this, va_eq]; omega
          · exact fun z => z.elim hb (fun z => z.2 ra)
          · show T u + _ = _
            rw [hT u hu]
            unfold den
            have := sumZ_one (F := fun i => if f i = u then va_up g (lb f a n) (g (lb f a n) + c) i else 0) (G := fun i => if f i = u then g i else 0) (p := lb f a n) e.1 (fun k hk hp => by simp [va_up, hp])
            rw [this]
            simp only [va_eq, e.2]
            split <;> omega
        · have hno := lb_no hs e
          have hl := lb_le f a n
          have hTa : T a = 0 := by rw [hT a ra]; exact den_0 hno
          rcases Nat.lt_or_ge n 24 with q | q
          · refine am_mono (m_K_add_n q hs ra c1 (by omega) e) (fun r h z => ⟨z.1, n + 1, 0, _, _, ⟨⟨by omega, inc_ins hs hno, fun i hi => ⟨ins_in (P := inR) hl (fun i hi => (hg i hi).1) ra i hi, ins_in (P := fun x => 1 ≤ x) hl (fun i hi => (hg i hi).2) c1 i hi⟩, ?_⟩, Or.inl ⟨rfl, ?_, fun u hu => ?_⟩⟩, z.2⟩) (fun _ z => z)
            · rw [sumZ_insA hl]; omega
            · exact fun z => z.elim hb (fun z => z.2 ra)
            · show T u + _ = _
              rw [den_ins hl, hT u hu]
          · refine am_mono (m_K_add_f (by omega) hs ra c1 (by omega) e) (fun r h z => ⟨z.1, n, 1, f, g, ⟨⟨hn, hs, hg, by omega⟩, Or.inr ⟨rfl, Or.inr ?_⟩⟩, z.2⟩) (fun _ z => z)
            rw [cnt_new ra hTa c1, cnt_ext hT, cnt_den hs (fun i hi => (hg i hi).1) (fun i hi => (hg i hi).2)]; omega
      · refine am_mono (m_K_add_b ha (by omega) c1 (by omega)) (fun r h z => ⟨z.1, n, 1, f, g, ⟨⟨hn, hs, hg, by omega⟩, Or.inr ⟨rfl, Or.inl (Or.inr ⟨c1, ra⟩)⟩⟩, z.2⟩) (fun _ z => z)
  · exact am_mono m_K_add_r (fun r h z => ⟨z.1, n, 1, f, g, ⟨⟨hn, hs, hg, by omega⟩, Or.inr ⟨rfl, hb.elim (fun z => Or.inl (Or.inl z)) (fun z => Or.inr (by omega))⟩⟩, z.2⟩) (fun _ z => z)
/-- a law behind the cells, out of a table -/
def lwT (n : Nat) (at_ wt : Nat → Int) (W : Int) (T : Int → Int) : Prop := lwN n at_ wt W ∧ (∀ u, inR u → den at_ wt n u = Int.tdiv (T u) (gT T)) ∧ W = allT T
theorem m_K_madeR (R : mkR B T by_ n rf f g) (hB : B ≤ 4611686018427387904) : AMet G M_K_made [vr 3 0] (Hp b s t (sgK (n : Int) rf f g) df jo tr di mo dy) (fun r h => (r = some vn ∧ ¬ acc T by_ ∧ h = Hp b s t (sgK (n : Int) rf f g) df jo tr di mo dy) ∨ (r = some (vr 9 (dy.length + 2)) ∧ acc T by_ ∧ ∃ (m : Nat) (at_ wt : Nat → Int) (W : Int), lwT m at_ wt W T ∧ h = Hp b s t (sgK (n : Int) rf f g) df jo tr di mo (dy ++ [some (ar 0 m at_), some (ar 0 m wt), some (ob 9 [vr 9 dy.length, vr 9 (dy.length + 1), vi W])]))) (fun _ => False) := by
  obtain ⟨⟨hn, hs, hg, hS⟩, hR⟩ := R
  have hnn : ∀ i, i < n → 0 ≤ g i := fun i hi => by have := (hg i hi).2; omega
  have hS0 := sumZ_nn hnn n (Nat.le_refl n)
  have hr : ∀ i, i < n → inR (f i) := fun i hi => (hg i hi).1
  have h1 : ∀ i, i < n → 1 ≤ g i := fun i hi => (hg i hi).2
  have h64 : ∀ i, i < n → 1 ≤ g i ∧ I64 (g i) := fun i hi => ⟨h1 i hi, by have := h1 i hi; have := sumZ_le hnn (Nat.le_refl n) hi; omega⟩
  rcases hR with ⟨rfl, hb, hT⟩ | ⟨rfl, hb⟩
  · have hcnt : cnt T = (n : Int) := by rw [cnt_ext hT, cnt_den hs hr h1]
    rcases Nat.eq_zero_or_pos n with z0 | z0
    · subst z0
      exact am_mono m_K_made_0 (fun r h z => Or.inl ⟨z.1, fun A => by have := A.2.1; omega, z.2⟩) (fun _ z => z)
    · have hD := (dv_in (n := n) (g := g) (fun i hi => by have := h64 i hi; constructor <;> omega) n (Nat.le_refl n)).2.2 z0
      have hal : allT T = Int.tdiv (sumZ g n) (dv g n) := by rw [allT_ext hT, allT_den hs hr h1 z0 hD]
      have hgt : gT T = dv g n := by rw [dv_gT hs hr h1]; unfold gT; rw [gtn_ext hT 2001 (Nat.le_refl _)]
      rcases Int.lt_or_le 1048576 (Int.tdiv (sumZ g n) (dv g n)) with q | q
      · exact am_mono (m_K_made_b ⟨z0, hn⟩ h64 (by omega) q) (fun r h z => Or.inl ⟨z.1, fun A => by have := A.2.2.2; omega, z.2⟩) (fun _ z => z)
      · refine am_mono (m_K_made_k ⟨z0, hn⟩ h64 (by omega) q) (fun r h z => Or.inr ⟨z.1, ⟨hb, by omega, by omega, by omega⟩, n, _, _, _, ⟨?_, fun u hu => ?_, hal.symm⟩, z.2⟩) (fun _ z => z)
        · have hdd : ∀ i, i < n → 0 ≤ g i ∧ dv g n ∣ g i := fun i hi => ⟨hnn i hi, dv_dvd h1 i hi⟩
          have hsum : Int.tdiv (sumZ g n) (dv g n) = sumZ (cp (fun j => Int.tdiv (g j) (dv g n)) n) n := by
            rw [← tdiv_sum (by omega) hdd]; exact sumZ_ext (fun i hi => by simp [cp, hi])
          have hpos : ∀ i, i < n → 1 ≤ cp (fun j => Int.tdiv (g j) (dv g n)) n i := fun i hi => by
            simp only [cp, if_pos hi]
            rw [Int.tdiv_eq_ediv_of_nonneg (hnn i hi)]
            have := h1 i hi
            have := Int.le_of_dvd (by omega) (hdd i hi).2
            have := Int.ediv_le_ediv (show 0 < dv g n by omega) this
            rw [Int.ediv_self (by omega)] at this
            exact this
          refine ⟨⟨z0, hn⟩, fun i j a b => ?_, fun i hi => ⟨?_, hpos i hi, ?_⟩, ?_, q, hsum⟩
          · simp only [cp, if_pos b, if_pos (show i < n by omega)]; exact hs i j a b
          · simp only [cp, if_pos hi]; exact hr i hi
          · rw [hsum]; exact sumZ_le (n := n) (fun i hi => by have := hpos i hi; omega) (Nat.le_refl n) hi
          · rw [hsum]; have := sumZ_le (n := n) (g := cp (fun j => Int.tdiv (g j) (dv g n)) n) (fun i hi => by have := hpos i hi; omega) (Nat.le_refl n) z0; have := hpos 0 z0; omega
        · rw [hgt, hT u hu, ← den_div (by omega) (fun i hi => ⟨hnn i hi, dv_dvd h1 i hi⟩)]
          exact den_ext (fun i hi => by simp [cp, hi])
  · refine am_mono m_K_made_r (fun r h z => Or.inl ⟨z.1, fun A => ?_, z.2⟩) (fun _ z => z)
    rcases hb with hb | hb
    · exact A.1 hb
    · have := A.2.2.1; omega
end
theorem dyg_app {dy xs : SG} {k : Nat} {c : AC} (h : dyg dy k = some c) : dyg (dy ++ xs) k = some c := by
  unfold dyg at h ⊢
  simp only [hgs] at h ⊢
  have hk : k < dy.length := by
    rcases Nat.lt_or_ge k dy.length with z | z
    · exact z
    · rw [List.getElem?_eq_none z] at h; simp at h
  rw [List.getElem?_append_left hk]; exact h
theorem lwOK.app {dy xs : SG} {g : Nat → Option (Nat × Nat)} (h : lwOK dy g) : lwOK (dy ++ xs) g := fun i x hx => by
  obtain ⟨h1, fs, h2⟩ := h i x hx
  exact ⟨h1, fs, dyg_app h2⟩
theorem dyg_3 {dy : SG} {x y z : AC} : dyg (dy ++ [some x, some y, some z]) (dy.length + 2) = some z ∧ dyg (dy ++ [some x, some y, some z]) (dy.length + 1) = some y ∧ dyg (dy ++ [some x, some y, some z]) dy.length = some x := by
  unfold dyg; simp only [hgs]; refine ⟨?_, ?_, ?_⟩ <;> simp
theorem isD.app {dy xs : SG} {k k1 k2 n : Nat} {at_ wt : Nat → Int} {W : Int} (h : isD dy k k1 k2 n at_ wt W) : isD (dy ++ xs) k k1 k2 n at_ wt W := ⟨dyg_app h.1, dyg_app h.2.1, dyg_app h.2.2⟩
def odP (od dn : Nat) : Nat := if dn < 30 then od else (od + 1) % 30
def dnP (dn : Nat) : Nat := if dn < 30 then dn + 1 else 30
def plP (od dn : Nat) : Nat := (odP od dn + (dnP dn - 1)) % 30
section
variable {G : GT} {h : HT} {b s t mk df jo tr di mo dy : SG} {a c d B bd tk : Int} {n k j : Nat} {f g : Nat → Int} {rf : Int} {T : Int → Int} {by_ : Prop} {laws ahead made : Nat → Option (Nat × Nat)} {slot : Nat → Int} {od dn un : Nat}
abbrev putS (laws : Nat → Option (Nat × Nat)) (slot : Nat → Int) (ahead made : Nat → Option (Nat × Nat)) (od dn j k : Nat) : SG := sgS (va_up laws j (some (9, k))) (va_up slot (plP od dn) (j : Int)) (va_up ahead (plP od dn) (laws j)) (va_up made (plP od dn) (some (9, k))) (odP od dn : Int) (dnP dn : Int) ((0 : Nat) : Int)
theorem m_S_putR {fs : List AV} (ho : od < 30) (hj : j < 16) (hd : dn ≤ 30) (hk : dyg dy k = some (ob 9 fs)) (hl : lwOK dy laws) : ADet G M_S_put [vr 1 0, vi (j : Int), vr 9 k] (Hp b (sgS laws slot ahead made (od : Int) (dn : Int) (un : Int)) t mk df jo tr di mo dy) none (Hp b (putS laws slot ahead made od dn j k) t mk df jo tr di mo dy) := by
  rcases Nat.lt_or_ge dn 30 with z | z
  · have := m_S_put_a (G := G) (b := b) (t := t) (mk := mk) (df := df) (jo := jo) (tr := tr) (di := di) (mo := mo) (un := un) (slot := slot) (ahead := ahead) (made := made) ho hj z hk hl
    unfold putS plP odP dnP
    rw [if_pos z, if_pos z]
    exact this
  · have e : dn = 30 := by omega
    subst e
    exact m_S_put_b (G := G) (b := b) (t := t) (mk := mk) (df := df) (jo := jo) (tr := tr) (di := di) (mo := mo) (un := un) (slot := slot) (ahead := ahead) (made := made) ho hj hk hl

/-- what settle does -/
def stl (laws : Nat → Option (Nat × Nat)) (slot : Nat → Int) (ahead made : Nat → Option (Nat × Nat)) (od dn un : Nat) (bd tk : Int) (t mk df jo tr di mo dy : SG) (a : Int) (T : Int → Int) (by_ : Prop) (r : Option AV) (h : HT) : Prop := (r = some (vi 0) ∧ ¬ ((0 ≤ a ∧ a < 16) ∧ acc T by_) ∧ h = Hp (sgB bd tk) (sgS laws slot ahead made (od : Int) (dn : Int) (un : Int)) t mk df jo tr di mo dy) ∨ (r = some (vi 1) ∧ (0 ≤ a ∧ a < 16) ∧ acc T by_ ∧ ∃ (m : Nat) (at_ wt : Nat → Int) (W : Int), lwT m at_ wt W T ∧ h = Hp (sgB bd tk) (putS laws slot ahead made od dn a.toNat (dy.length + 2)) t mk df jo tr di mo (dy ++ [some (ar 0 m at_), some (ar 0 m wt), some (ob 9 [vr 9 dy.length, vr 9 (dy.length + 1), vi W])]))
theorem m_B_settle (ha : I32 a) (R : mkR B T by_ n rf f g) (hB : B ≤ 4611686018427387904) (ho : od < 30) (hd : dn ≤ 30) (hl : lwOK dy laws) : AMet G M_B_settle [vr 0 0, vi a] (Hp (sgB bd tk) (sgS laws slot ahead made (od : Int) (dn : Int) (un : Int)) t (sgK (n : Int) rf f g) df jo tr di mo dy) (stl laws slot ahead made od dn un bd tk t (sgK (n : Int) rf f g) df jo tr di mo dy a T by_) (fun _ => False) := by
  refine am_entry (by decide +kernel) (Nat.le_of_ble_eq_true rfl) ?_
  refine aw_blk (pc' := 5) (ls' := [some (vr 0 0), some (vi a), none]) (st' := [vi a, vr 1 0]) [.inl (.aload_n 0), .inr (10, 0, 0), .inl (.iload_n 1)] 0 _ _ (by decide +kernel) rfl ?_
  refine aw_dV (cs' := 0) (sl' := 0) (pc' := 8) (st' := [vi (if 0 ≤ a ∧ a < 16 then 1 else 0)]) (idx := 261) (as := [vi a]) (st := []) (m_S_hasSlot ha) (by decide +kernel) (show vOK "ChanceBench" 261 M_S_hasSlot 1 = true by decide +kernel) rfl rfl rfl (Nat.le_of_ble_eq_true rfl) (by decide) (by decide) (by decide) rfl rfl rfl rfl ?_
  by_cases hs : 0 ≤ a ∧ a < 16
  · rw [if_pos hs]
    refine aw_if_ne (o := 5) (tgt := 13) (by decide +kernel) (by decide) (by omega) (fun _ => ?_) (fun c => absurd c (by omega))
    refine aw_blk (pc' := 17) (ls' := [some (vr 0 0), some (vi a), none]) (st' := [vr 3 0]) [.inl (.aload_n 0), .inr (26, 0, 2)] 13 _ _ (by decide +kernel) rfl ?_
    refine aw_rV (cs' := 3) (sl' := 51) (pc' := 20) (idx := 264) (as := []) (st := []) (m_K_madeR R hB) (by decide +kernel) (show vOK "ChanceBench" 264 M_K_made 0 = true by decide +kernel) rfl rfl rfl (Nat.le_of_ble_eq_true rfl) (by decide) (by decide) (by decide) rfl rfl rfl (fun r17 h17 z17 => ?_)
    rcases z17 with ⟨rfl, na, rfl⟩ | ⟨rfl, ac, m, at_, wt, W, hW, rfl⟩
    · refine aw_blk (pc' := 22) (ls' := [some (vr 0 0), some (vi a), some (vn)]) (st' := [vn]) [.inl (.astore_n 2), .inl (.aload_n 2)] 20 _ _ (by decide +kernel) rfl ?_
      refine aw_ifnonnull (o := 5) (tgt := 27) (by decide +kernel) (by decide) (fun _ z => nomatch z) (fun _ => ?_)
      refine aw_blk (pc' := 26) (ls' := [some (vr 0 0), some (vi a), some (vn)]) (st' := [vi 0]) [.inl (.iconst 0)] 25 _ _ (by decide +kernel) rfl ?_
      exact aw_zret (by decide +kernel) rfl (by decide) (by decide) (by omega) (Or.inl ⟨rfl, fun z => na z.2, rfl⟩)
    · refine aw_blk (pc' := 22) (ls' := [some (vr 0 0), some (vi a), some (vr 9 (dy.length + 2))]) (st' := [vr 9 (dy.length + 2)]) [.inl (.astore_n 2), .inl (.aload_n 2)] 20 _ _ (by decide +kernel) rfl ?_
      refine aw_ifnonnull (o := 5) (tgt := 27) (by decide +kernel) (by decide) (fun _ _ => ?_) (fun z => nomatch z)
      obtain ⟨j, rfl⟩ : ∃ j : Nat, a = (j : Int) := ⟨a.toNat, by omega⟩
      refine aw_blk (pc' := 33) (ls' := [some (vr 0 0), some (vi (j : Int)), some (vr 9 (dy.length + 2))]) (st' := [vr 9 (dy.length + 2), vi (j : Int), vr 1 0]) [.inl (.aload_n 0), .inr (10, 0, 0), .inl (.iload_n 1), .inl (.aload_n 2)] 27 _ _ (by decide +kernel) rfl ?_
      refine aw_dV (cs' := 3) (sl' := 51) (pc' := 36) (st' := []) (idx := 268) (as := [vi (j : Int), vr 9 (dy.length + 2)]) (st := []) (m_S_putR ho (by omega) hd dyg_3.1 hl.app) (by decide +kernel) (show vOK "ChanceBench" 268 M_S_put 2 = true by decide +kernel) rfl rfl rfl (Nat.le_of_ble_eq_true rfl) (by decide) (by decide) (by decide) rfl rfl rfl rfl ?_
      refine aw_blk (pc' := 37) (ls' := [some (vr 0 0), some (vi (j : Int)), some (vr 9 (dy.length + 2))]) (st' := [vi 1]) [.inl (.iconst 1)] 36 _ _ (by decide +kernel) rfl ?_
      exact aw_zret (by decide +kernel) rfl (by decide) (by decide) (by omega) (Or.inr ⟨rfl, hs, ac, m, at_, wt, W, hW, rfl⟩)
  · rw [if_neg hs]
    refine aw_if_ne (o := 5) (tgt := 13) (by decide +kernel) (by decide) (by omega) (fun c => absurd (by omega) c) (fun _ => ?_)
    refine aw_blk (pc' := 12) (ls' := [some (vr 0 0), some (vi a), none]) (st' := [vi 0]) [.inl (.iconst 0)] 11 _ _ (by decide +kernel) rfl ?_
    exact aw_zret (by decide +kernel) rfl (by decide) (by decide) (by omega) (Or.inl ⟨rfl, fun z => hs z.1, rfl⟩)

end
