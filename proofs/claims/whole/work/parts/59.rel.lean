/-! the relation between the bench and the reference -/
section
variable {dy xs : SG} {x : Option (Nat × Nat)} {T : Int → Int} {W : Int} {laws : Nat → Option (Nat × Nat)}
theorem junk_Hp {b s t mk df jo tr di mo : SG} {j : Nat} : ((Hp b s t mk df jo tr di mo dy).1 + j, junk (Hp b s t mk df jo tr di mo dy).2 j) = Hp b s t mk df jo tr di mo (dy ++ List.replicate j none) := by
  simp only [Hp, junk, List.length_append, List.length_replicate]
  congr 1
  omega
theorem lawR.app (h : lawR dy x T W) : lawR (dy ++ xs) x T W := by
  match x, h with
  | none, h => exact h
  | some y, ⟨k, k1, k2, n, at_, wt, e, hD, A, eT⟩ => exact ⟨k, k1, k2, n, at_, wt, e, hD.app, A, eT⟩
theorem dyg_0 {c c' : AC} {k : Nat} {y : AC} (h : dyg (some c :: dy) k = some y) (hy : y ≠ c) : dyg (some c' :: dy) k = some y := by
  cases k with
  | zero => simp [dyg, hgs] at h; exact absurd h.symm hy
  | succ k => exact h
theorem lawR.out {f f' : Nat → Int} (h : lawR (some (ar 1 1 f) :: dy) x T W) : lawR (some (ar 1 1 f') :: dy) x T W := by
  match x, h with
  | none, h => exact h
  | some y, ⟨k, k1, k2, n, at_, wt, e, hD, A, eT⟩ =>
    exact ⟨k, k1, k2, n, at_, wt, e, ⟨dyg_0 hD.1 (by simp), dyg_0 hD.2.1 (by simp), dyg_0 hD.2.2 (by simp)⟩, A, eT⟩
theorem lwOK.out {f f' : Nat → Int} {g : Nat → Option (Nat × Nat)} (h : lwOK (some (ar 1 1 f) :: dy) g) : lwOK (some (ar 1 1 f') :: dy) g := fun i x hx => by
  obtain ⟨h1, fs, h2⟩ := h i x hx
  exact ⟨h1, fs, dyg_0 h2 (by simp)⟩
end
/-- the tape -/
def tpR (len : Nat) (ft xtp : Nat → Int) : Prop := len ≤ 200 ∧ ∀ j, (0 ≤ ft j ∧ ft j ≤ 255) ∧ ft j = xtp j % 256
/-- the shelf and the acts -/
def shR (dy : SG) (laws : Nat → Option (Nat × Nat)) (slot : Nat → Int) (ahead made : Nat → Option (Nat × Nat)) (od dn un : Nat) (xwg xwh xsl xhw xhs xhd xha : Nat → Int) : Prop :=
  (od < 30 ∧ dn + un ≤ 30 ∧ (∀ i, 0 ≤ slot i ∧ slot i < 16) ∧ lwOK dy laws ∧ lwOK dy ahead ∧ lwOK dy made) ∧ (∀ a, a < 16 → lawR dy (laws a) (Tm xwg a) (xwh a)) ∧
  ∀ i, i < dn + un → slot ((od + i) % 30) = xsl i ∧ lawR dy (ahead ((od + i) % 30)) (Tm xhd i) (xhw i) ∧ lawR dy (made ((od + i) % 30)) (Tm xha i) (xhs i)
/-- the joint law -/
def joR (js : List T3) (wh : Int) (fa fb fw xp1 xp2 xp3 : Nat → Int) : Prop := js.length ≤ 72 ∧ jr fa fb fw js ∧ jr xp1 xp2 xp3 js ∧ jOK js wh
/-- the dice -/
def diR (fd f1 f2 : Int) (kp xdc : Nat → Int) : Prop := ((0 ≤ fd ∧ fd ≤ 252) ∧ (0 ≤ f1 ∧ f1 ≤ 6) ∧ 0 ≤ f2 ∧ f2 ≤ 6) ∧ ∀ i d : Nat, (i : Int) < fd → ((d : Int) < f1 → kp (12 * i + d) = xdc (12 * i + d)) ∧ ((d : Int) < f2 → kp (12 * i + 6 + d) = xdc (12 * i + 6 + d))
section
variable {dy xs : SG} {laws ahead made : Nat → Option (Nat × Nat)} {slot : Nat → Int} {od dn un : Nat} {xwg xwh xsl xhw xhs xhd xha : Nat → Int} {f f' : Nat → Int}
theorem shR.app (h : shR dy laws slot ahead made od dn un xwg xwh xsl xhw xhs xhd xha) : shR (dy ++ xs) laws slot ahead made od dn un xwg xwh xsl xhw xhs xhd xha :=
  ⟨⟨h.1.1, h.1.2.1, h.1.2.2.1, h.1.2.2.2.1.app, h.1.2.2.2.2.1.app, h.1.2.2.2.2.2.app⟩, fun a ha => (h.2.1 a ha).app, fun i hi => ⟨(h.2.2 i hi).1, (h.2.2 i hi).2.1.app, (h.2.2 i hi).2.2.app⟩⟩
theorem shR.out (h : shR (some (ar 1 1 f) :: dy) laws slot ahead made od dn un xwg xwh xsl xhw xhs xhd xha) : shR (some (ar 1 1 f') :: dy) laws slot ahead made od dn un xwg xwh xsl xhw xhs xhd xha :=
  ⟨⟨h.1.1, h.1.2.1, h.1.2.2.1, h.1.2.2.2.1.out, h.1.2.2.2.2.1.out, h.1.2.2.2.2.2.out⟩, fun a ha => (h.2.1 a ha).out, fun i hi => ⟨(h.2.2 i hi).1, (h.2.2 i hi).2.1.out, (h.2.2 i hi).2.2.out⟩⟩
/-- a slot's law for any number -/
theorem shR.at (h : shR dy laws slot ahead made od dn un xwg xwh xsl xhw xhs xhd xha) (a : Int) : (lawAt laws a = none ∧ ¬ isLw xwh a) ∨ ∃ (q k k1 k2 n : Nat) (at_ wt : Nat → Int), a = (q : Int) ∧ q < 16 ∧ lawAt laws a = some (9, k) ∧ isLw xwh (q : Int) ∧ isD dy k k1 k2 n at_ wt (xwh q) ∧ lwN n at_ wt (xwh q) ∧ Tm xwg q = den at_ wt n := by
  by_cases ha : 0 ≤ a ∧ a < 16
  · obtain ⟨q, rfl⟩ : ∃ q : Nat, a = (q : Int) := ⟨a.toNat, by omega⟩
    have h1 := h.2.1 q (by omega)
    have e : lawAt laws (q : Int) = laws q := by unfold lawAt; rw [if_pos ha]; rfl
    rw [e]
    cases hl : laws q with
    | none =>
      rw [hl] at h1
      refine Or.inl ⟨rfl, fun z => ?_⟩
      have z2 := z.2
      have h2 : xwh q = 0 := h1
      rw [show ((q : Int)).toNat = q from rfl] at z2
      omega
    | some y =>
      rw [hl] at h1
      obtain ⟨k, k1, k2, n, at_, wt, ey, hD, A, eT⟩ := h1
      refine Or.inr ⟨q, k, k1, k2, n, at_, wt, rfl, by omega, by rw [ey], ⟨ha, ?_⟩, hD, A, eT⟩
      have := A.2.2.2.1
      show 0 < xwh q
      omega
  · refine Or.inl ⟨by unfold lawAt; rw [if_neg ha], fun z => ha z.1⟩
theorem Tm_rowW {f r : Nat → Int} {s a : Nat} {v : Int} : Tm (rowW f s r 2001) a v = if a = s then (if inR v then r (v + 1000).toNat else 0) else Tm f a v := by
  unfold Tm
  by_cases hv : inR v
  · simp only [if_pos hv]
    unfold rowW
    by_cases e : a = s
    · rw [if_pos e, if_pos (by omega), e, Nat.add_sub_cancel_left]
    · rw [if_neg e, if_neg (by omega)]
  · simp only [if_neg hv]; split <;> rfl
theorem Tm_rowS {f r : Nat → Int} {s : Nat} : Tm (rowW f s r 2001) s = fun v => if inR v then r (v + 1000).toNat else 0 := by funext v; rw [Tm_rowW, if_pos rfl]
theorem Tm_rowN {f r : Nat → Int} {s a : Nat} (h : a ≠ s) : Tm (rowW f s r 2001) a = Tm f a := by funext v; rw [Tm_rowW, if_neg h]
theorem Tm_row {f g : Nat → Int} {s a : Nat} : Tm (rowW f s (fun k => g (2001 * a + k)) 2001) s = Tm g a := by
  rw [Tm_rowS]; funext v; unfold Tm; split <;> rfl
theorem Tm_sfd {f : Nat → Int} {i : Nat} (h : i < 29) : Tm (sfd f 2001 60030) i = Tm f (i + 1) := by
  funext v
  unfold Tm
  by_cases hv : inR v
  · rw [if_pos hv, if_pos hv]
    unfold sfd
    rw [if_pos (by omega)]
    congr 1
    omega
  · rw [if_neg hv, if_neg hv]
theorem va_if {α : Type} {f : Nat → α} {i j : Nat} {x : α} : va_up f i x j = if j = i then x else f j := rfl
theorem lwOK_up {g : Nat → Option (Nat × Nat)} {j : Nat} {x : Option (Nat × Nat)} (h : lwOK dy g) (hx : ∀ y, x = some y → y.1 = 9 ∧ ∃ fs, dyg dy y.2 = some (ob 9 fs)) : lwOK dy (va_up g j x) := fun i y hy => by
  rw [va_if] at hy
  split at hy
  · exact hx y hy
  · exact h i y hy
theorem slot_up {j s1 : Nat} (h : ∀ i, 0 ≤ slot i ∧ slot i < 16) (hs : s1 < 16) : ∀ i, 0 ≤ va_up slot j (s1 : Int) i ∧ va_up slot j (s1 : Int) i < 16 := fun i => by
  rw [va_if]; split
  · omega
  · exact h i
/-- an act is put -/
theorem shR.put {T T' : Int → Int} {s1 m : Nat} {at_ wt : Nat → Int} {W : Int} (h : shR dy laws slot ahead made od dn un xwg xwh xsl xhw xhs xhd xha) (hs : s1 < 16) (hT : ∀ u, inR u → T u = T' u) (L : lwT m at_ wt W T) :
    shR (dy ++ [some (ar 0 m at_), some (ar 0 m wt), some (ob 9 [vr 9 dy.length, vr 9 (dy.length + 1), vi W])]) (va_up laws s1 (some (9, dy.length + 2))) (va_up slot (plP od dn) (s1 : Int)) (va_up ahead (plP od dn) (laws s1)) (va_up made (plP od dn) (some (9, dy.length + 2))) (odP od dn) (dnP dn) 0
      (rowW xwg s1 (RT T') 2001) (va_up xwh s1 (allT T'))
      (if dn = 30 then va_up (sfd xsl 1 30) 29 (s1 : Int) else va_up xsl dn (s1 : Int)) (if dn = 30 then va_up (sfd xhw 1 30) 29 (xwh s1) else va_up xhw dn (xwh s1)) (if dn = 30 then va_up (sfd xhs 1 30) 29 (allT T') else va_up xhs dn (allT T'))
      (if dn = 30 then rowW (sfd xhd 2001 60030) 29 (fun k => xwg (2001 * s1 + k)) 2001 else rowW xhd dn (fun k => xwg (2001 * s1 + k)) 2001) (if dn = 30 then rowW (sfd xha 2001 60030) 29 (RT T') 2001 else rowW xha dn (RT T') 2001) := by
  obtain ⟨⟨h1, h2, h3, h4, h5, h6⟩, h7, h8⟩ := h
  obtain ⟨g1, g2, g3⟩ := dyg_3 (dy := dy) (x := ar 0 m at_) (y := ar 0 m wt) (z := ob 9 [vr 9 dy.length, vr 9 (dy.length + 1), vi W])
  generalize hdy : dy ++ [some (ar 0 m at_), some (ar 0 m wt), some (ob 9 [vr 9 dy.length, vr 9 (dy.length + 1), vi W])] = dy2 at g1 g2 g3 ⊢
  have hgT : gtn T 2001 = gtn T' 2001 := gtn_ext hT 2001 (Nat.le_refl _)
  have hal : allT T = allT T' := allT_ext hT
  have eT : (fun v => if inR v then RT T' (v + 1000).toNat else 0) = den at_ wt m := by
    funext v
    by_cases hv : inR v
    · rw [if_pos hv, L.2.1 v hv, hT v hv]
      unfold RT gT
      rw [hgT, show (((v + 1000).toNat : Nat) : Int) - 1000 = v by omega]
    · rw [if_neg hv]
      exact (den_0 (fun k hk e => hv (by have := (L.1.2.2.1 k hk).1; rw [← e]; exact this))).symm
  have hnew : ∀ (r : Nat → Int) (s : Nat), lawR dy2 (some (9, dy.length + 2)) (Tm (rowW r s (RT T') 2001) s) (allT T') := fun r s => by
    refine ⟨dy.length + 2, dy.length, dy.length + 1, m, at_, wt, rfl, ⟨by rw [g1, ← hal, ← L.2.2], g3, g2⟩, by rw [← hal, ← L.2.2]; exact L.1, by rw [Tm_rowS, eT]⟩
  have a1 : ∀ g, lwOK dy g → lwOK dy2 g := fun g hg => by rw [← hdy]; exact hg.app
  have a2 : ∀ x T W, lawR dy x T W → lawR dy2 x T W := fun x T W hg => by rw [← hdy]; exact hg.app
  have hob : ∀ y, some (9, dy.length + 2) = some y → y.1 = 9 ∧ ∃ fs, dyg dy2 y.2 = some (ob 9 fs) := fun y hy => by cases hy; exact ⟨rfl, _, g1⟩
  have hpl : plP od dn < 30 := Nat.mod_lt _ (by omega)
  refine ⟨⟨?_, ?_, slot_up h3 hs, lwOK_up (a1 _ h4) hob, lwOK_up (a1 _ h5) (fun y hy => a1 _ h4 s1 y hy), lwOK_up (a1 _ h6) hob⟩, fun a ha => ?_, fun i hi => ?_⟩
  · unfold odP; split <;> omega
  · unfold dnP; split <;> omega
  · rw [va_if, va_if]
    by_cases e : a = s1
    · subst e
      rw [if_pos rfl, if_pos rfl]
      exact hnew _ _
    · rw [if_neg e, if_neg e, Tm_rowN e]
      exact a2 _ _ _ (h7 a ha)
  · by_cases hd : dn = 30
    · rw [if_pos hd, if_pos hd, if_pos hd, if_pos hd, if_pos hd]
      have ed : dnP dn = 30 := by unfold dnP; rw [if_neg (by omega)]
      have eo : odP od dn = (od + 1) % 30 := by unfold odP; rw [if_neg (by omega)]
      have ep : plP od dn = (odP od dn + 29) % 30 := by unfold plP; rw [ed]
      rw [ed] at hi
      rcases Nat.lt_or_ge i 29 with z | z
      · have hne : (odP od dn + i) % 30 ≠ plP od dn := by rw [ep]; omega
        have hx := h8 (i + 1) (by omega)
        have em : (odP od dn + i) % 30 = (od + (i + 1)) % 30 := by rw [eo]; omega
        simp only [va_if]
        rw [if_neg hne, if_neg hne, if_neg hne, if_neg (by omega), if_neg (by omega), if_neg (by omega), em, Tm_rowN (by omega), Tm_rowN (by omega), Tm_sfd z, Tm_sfd z]
        unfold sfd
        rw [if_pos (by omega), if_pos (by omega), if_pos (by omega)]
        exact ⟨hx.1, a2 _ _ _ hx.2.1, a2 _ _ _ hx.2.2⟩
      · have ei : i = 29 := by omega
        subst ei
        simp only [va_if]
        rw [if_pos ep.symm, if_pos ep.symm, if_pos ep.symm, Tm_row]
        simp only [if_true]
        exact ⟨trivial, a2 _ _ _ (h7 s1 hs), hnew _ _⟩
    · rw [if_neg hd, if_neg hd, if_neg hd, if_neg hd, if_neg hd]
      have ed : dnP dn = dn + 1 := by unfold dnP; rw [if_pos (by omega)]
      have eo : odP od dn = od := by unfold odP; rw [if_pos (by omega)]
      have ep : plP od dn = (od + dn) % 30 := by unfold plP; rw [ed, eo, Nat.add_sub_cancel]
      rw [ed] at hi
      rw [eo]
      rcases Nat.lt_or_ge i dn with z | z
      · have hne : (od + i) % 30 ≠ plP od dn := by rw [ep]; omega
        have hx := h8 i (by omega)
        simp only [va_if]
        rw [if_neg hne, if_neg hne, if_neg hne, if_neg (by omega), if_neg (by omega), if_neg (by omega), Tm_rowN (by omega), Tm_rowN (by omega)]
        exact ⟨hx.1, a2 _ _ _ hx.2.1, a2 _ _ _ hx.2.2⟩
      · have ei : i = dn := by omega
        subst ei
        simp only [va_if]
        rw [if_pos ep.symm, if_pos ep.symm, if_pos ep.symm, Tm_row]
        simp only [if_true]
        exact ⟨trivial, a2 _ _ _ (h7 s1 hs), hnew _ _⟩
theorem shR.back (h : shR dy laws slot ahead made od dn un xwg xwh xsl xhw xhs xhd xha) {i : Nat} (hi : i < dn + un) {x : Option (Nat × Nat)} {r w : Nat → Int} (hx : lawR dy x (Tm r i) (w i)) (ho : ∀ y, x = some y → y.1 = 9 ∧ ∃ fs, dyg dy y.2 = some (ob 9 fs)) {dn' un' : Nat} (hd : dn' + un' = dn + un) :
    shR dy (va_up laws (slot ((od + i) % 30)).toNat x) slot ahead made od dn' un' (rowW xwg (xsl i).toNat (fun k => r (2001 * i + k)) 2001) (va_up xwh (xsl i).toNat (w i)) xsl xhw xhs xhd xha := by
  obtain ⟨⟨h1, h2, h3, h4, h5, h6⟩, h7, h8⟩ := h
  have e := (h8 i hi).1
  have hr := h3 ((od + i) % 30)
  rw [← e]
  refine ⟨⟨h1, by omega, h3, lwOK_up h4 ho, h5, h6⟩, fun a ha => ?_, fun j hj => h8 j (by omega)⟩
  rw [va_if, va_if]
  by_cases z : a = (slot ((od + i) % 30)).toNat
  · rw [if_pos z, if_pos z, z, Tm_row]
    exact hx
  · rw [if_neg z, if_neg z, Tm_rowN z]
    exact h7 a ha
end
