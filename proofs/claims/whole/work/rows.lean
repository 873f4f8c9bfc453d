section
/-! ===== BEGIN words of one list among another's, by their places ===== -/
theorem goodIn_r {big : List Cond} (ws : List Cond) (ps : List Nat) (hp : ws = ps.filterMap (fun i => big[i]?)) (h : ws.all goodWord = true) : GoodIn big ws := by
  intro w hw
  have h1 := List.all_eq_true.mp h w hw
  rw [hp] at hw
  obtain ⟨i, -, hi⟩ := List.mem_filterMap.mp hw
  have hm : w ∈ big := by first | exact List.mem_of_getElem? hi | exact List.getElem?_mem hi
  exact ⟨hm, good_of_word h1⟩
theorem goodIn_app {big a b : List Cond} (ha : GoodIn big a) (hb : GoodIn big b) : GoodIn big (a ++ b) := fun w h => (List.mem_append.mp h).elim (ha w) (hb w)
theorem goodIn_ca {big a b : List Cond} {c : Cond} (ha : GoodIn big (c :: a)) (hb : GoodIn big b) : GoodIn big (c :: (a ++ b)) := fun w h => (List.mem_cons.mp h).elim (fun e => ha w (List.mem_cons.mpr (Or.inl e))) (fun h => (List.mem_append.mp h).elim (fun h => ha w (List.mem_cons.mpr (Or.inr h))) (hb w))
theorem goodIn_sub {big ws : List Cond} (hm : ∀ w ∈ ws, w ∈ big) (h : ws.all goodWord = true) : GoodIn big ws := fun w hw => ⟨hm w hw, good_of_word (List.all_eq_true.mp h w hw)⟩
/-! ===== END ===== -/

/-! ===== BEGIN exceptions that leave a method, and their catching by the caller (launches without stack traces) ===== -/
section VXA
/-! The laws vx_back, vx_callV, vx_callS, vx_callSW, vx_throw0, vx_throwS follow proofs of the library, with one case more: JvmDerived/Free/Laws.lean (Back.of_free), Shelf42/LK1.lean (callV, callS), Shelf/KitTraced.lean (throwNew0V, throwNewS). -/
/-- where a method has thrown q: the class by its name, the cell, what was written, the world -/
def vx_T (XC : String → State → State → Prop) (st : State) (q : Addr) (t : State) (mc ms : Nat) (free : Addr → Prop) : Prop :=
  ∃ (E : String) (ce : Cell) (L : List Loc), XC E st t ∧ t.heap[q]? = some ce ∧ ce.vm = .none ∧ st.vm.findClass E = some ce.cls ∧ st.WarmedH t.vm ∧ st.sameButNew ({ t with vm := st.vm } : State) L mc ms ∧ ∀ z ∈ L, free z.base
def vx_Q (Qc : Array Value → State → Outcome → State → Prop) (XC : String → State → State → Prop) (mc ms : Nat) (free : Addr → Prop) : Array Value → State → Outcome → State → Prop := fun a st o t =>
  (Qc a st o t ∧ ∃ L, FrameEnd st o t L mc ms ∧ ∀ q ∈ L, free q.base) ∨ ∃ q, o = .threw q ∧ vx_T XC st q t mc ms free
/-- a callee that returns or throws -/
def vx_Met (l : Launch) (y : MethodName) (ws : List Cond) (rm : Room) (Pc : Array Value → State → Prop) (Qc : Array Value → State → Outcome → State → Prop) (XC : String → State → State → Prop) (mc ms : Nat) (free : Addr → Prop) : Prop :=
  MetFree l y (headSpec ws rm) Pc (fun _ _ _ _ _ => True) (vx_Q Qc XC mc ms free)
def vx_Post (XC : String → State → State → Prop) (mc ms : Nat) (free : Addr → Prop) : Pt → Array Value → Addr → Pt → Prop := fun A a q B =>
  ∃ (g : JFrame) (mk : MethodId) (t : State) (L : List Loc) (E : String) (ce : Cell), B.U.heap = t.heap ∧ B.U.vm = t.vm ∧ XC E (A.U.calling g mk a) t ∧ t.heap[q]? = some ce ∧ ce.vm = .none ∧ A.U.vm.findClass E = some ce.cls ∧ B.locs = A.locs ++ L ∧ (∀ z ∈ L, free z.base) ∧ B.cells = A.cells + mc ∧ B.slots = A.slots + ms
def vx_Back (l : Launch) (R : Room) (p : Program) (e : Env) (below : List Frame) (s : State) (sargs : Array Value) (y : MethodName) (len W9 : Nat)
    (Pre : Pt → Array Value → Prop) (Post : Pt → Array Value → Option Value → Pt → Prop) (PostX : Pt → Array Value → Addr → Pt → Prop) : Prop :=
  ∀ (m : MethodId) (meth : Method) (c : Code) (A : Pt) (g : JFrame) (ig : Instr) (mk : MethodId) (a : Array Value),
    Stand p l e R s m sargs below meth c A.U A.locs A.cells A.slots → g.method = m → g.locals.size = c.maxLocals → decode c.code g.pc = .ok (ig, len) →
    2 * g.monitorRoom + (g.stack.map fun v => v.category).sum ≤ W9 → A.U.methodNamed? y = some mk → Pre A a →
    (∃ (v : Option Value) (B : Pt), Stand p l e R s m sargs below meth c B.U B.locs B.cells B.slots ∧ Post A a v B ∧
      Steps p.tables e below (doInvoke e (A.U.setTop g) [] mk a).1 (B.U.setTop { g with pc := g.pc + len, stack := v.toList ++ g.stack })) ∨
    (∃ (q : Addr) (B : Pt), Stand p l e R s m sargs below meth c B.U B.locs B.cells B.slots ∧ PostX A a q B ∧
      Steps p.tables e below (doInvoke e (A.U.setTop g) [] mk a).1 ((B.U.setTop g).pushFrame (.throwing q)))
section Payer
variable {l : Launch} {R : Room} {p : Program} {e : Env} {below : List Frame} {s : State} {sargs : Array Value} {y : MethodName} {len W9 : Nat}
theorem vx_back {ws : List Cond} {rm : Room} {Pc : Array Value → State → Prop} {Qc : Array Value → State → Outcome → State → Prop} {XC : String → State → State → Prop} {mc ms : Nat} {free : Addr → Prop} {bytes : ByteArray} {maxL : Nat} {ret : Option FieldType}
    (hM : vx_Met l y ws rm Pc Qc XC mc ms free) (hblind : FrameBlind Pc) (hrc : rm.cells = mc) (hrs : rm.slots = ms)
    (hframes : rm.frames + 1 ≤ R.frames) (hlocals : W9 + (maxL + 11) + rm.locals ≤ R.locals)
    (hws : ∀ w ∈ ws, ∀ a' U, s.WarmedH U.vm → w.before a' U = true) (hcode : Cond.code y bytes maxL ret ∈ ws) (hinit : ∀ a' U, s.WarmedH U.vm → (Cond.initialized y.cls).before a' U = true) :
    vx_Back l R p e below s sargs y len W9 (PreOf R mc ms Pc) (PostOf Qc mc ms free) (vx_Post XC mc ms free) := by
  intro m meth c A g ig mk a X hg hsize hdg hW hn hp
  have h1 : (headSpec ws rm).pre.before a A.U = true := atoms_intro fun w hw => hws w hw _ _ X.warmed
  have h2 : (Cond.code y bytes maxL ret).before a A.U = true := hws _ hcode _ _ X.warmed
  have h3 : (Cond.initialized y.cls).before a A.U = true := hinit _ _ X.warmed
  have h4 : A.cells + (headSpec ws rm).room.cells ≤ R.cells := by rw [show (headSpec ws rm).room.cells = mc from hrc]; exact hp.1
  have h5 : A.slots + (headSpec ws rm).room.slots ≤ R.slots := by rw [show (headSpec ws rm).room.slots = ms from hrs]; exact hp.2.1
  have hPc : Pc a (A.U.calling g mk a) := hblind _ _ _ _ hp.2.2
  obtain ⟨U, Ls, c0, s0⟩ := A
  dsimp only [Pt.U, Pt.locs, Pt.cells, Pt.slots] at h1 h2 h3 h4 h5 X hn hPc ⊢
  obtain ⟨methY, cY, hmY, hcY, -, hlY, -, -, -, -⟩ := Cond.code_spec hn h2
  obtain ⟨kY, hkY, -⟩ := className_of_methodNamed hn
  have hinitY : kY.init = .initialized := Cond.initialized_spec (findClass_of_methodNamed hn) hkY h3
  have h : At U g.method c below := by rw [hg]; exact X.here
  have hlocals9 : W9 + (maxL + 11) + (headSpec ws rm).room.locals ≤ R.locals := hlocals
  have happ : (headSpec ws rm).appliesLoose y e.platform (U.calling g mk a) = true :=
    Spec.appliesLoose_calling (g := g) h hdg hn hkY hinitY
      (X.room_calling (g := g) (R' := (headSpec ws rm).room) hsize hmY hcY hframes (by rw [hlY]; omega) h4 h5) h1
  obtain ⟨mid, hmid⟩ := h.above
  have hfr : (U.setTop g).frames = (.java g :: mid) ++ below := by rw [State.frames_setTop' g h.top, hmid]; rfl
  obtain ⟨o, s₂, hsteps, -, hend, hq⟩ := Steps.callFree hM p X.admits X.cas X.clock (acts := []) hfr happ hPc trivial
  have hq' : vx_Q Qc XC mc ms free a (U.calling g mk a) o s₂ := hq
  rw [State.frames_setTop' g h.top] at hend
  obtain ⟨g₀, hg0⟩ := Option.isSome_iff_exists.mp h.top
  obtain ⟨r, hr⟩ := State.topJava?_eq_some.mp hg0
  have hr' : (({ U with heap := s₂.heap, slotsUsed := s₂.slotsUsed } : State).setVm s₂.vm).frames = .java g₀ :: r := hr
  rcases hq' with ⟨hqc, L, hfe, hL⟩ | ⟨q, rfl, E, ce, L, hx, hce, hcv, hcl, hW₂, hsm, hL⟩
  · obtain ⟨⟨v, rfl⟩, hW₂, e2, q2, q3, q4, q5, q6⟩ := id hfe
    have e3 : s₂ = ({ (U.calling g mk a).setFrames s₂.frames with heap := s₂.heap, slotsUsed := s₂.slotsUsed } : State).setVm s₂.vm := by
      have : s₂ = ({ s₂ with vm := (U.calling g mk a).vm } : State).setVm s₂.vm := rfl
      rw [e2] at this
      exact this
    obtain ⟨c₂, i₂, len₂, hc₂, hd₂, hf₂⟩ := hend
    have hW' : U.WarmedH s₂.vm := hW₂
    have hcc : c₂ = c := by
      have h1 : s₂.code? g.method = U.code? g.method := by
        rw [State.code?_eq, State.code?_eq, hW'.alike.method?]
      exact Option.some.inj (hc₂.symm.trans (h1.trans h.code))
    subst hcc
    have hlen : len₂ = len := by rw [hdg] at hd₂; cases hd₂; rfl
    subst hlen
    have hs₂ : s₂ = (({ U with heap := s₂.heap, slotsUsed := s₂.slotsUsed } : State).setVm s₂.vm).setTop { g with pc := g.pc + len₂, stack := v.toList ++ g.stack } := by
      refine e3.trans ?_
      rw [hf₂, State.calling_eq h.top, State.setFrames_setFrames, State.setTop_of_frames _ hr', hr]
      rfl
    have hsame : U.sameButNew ({ U with heap := s₂.heap, slotsUsed := s₂.slotsUsed } : State) L mc ms := by
      refine ⟨?_, q2, q3, q4, q5, q6⟩
      obtain ⟨t, ht, -⟩ := State.frames_cons hr
      show ({ U with heap := s₂.heap, slotsUsed := s₂.slotsUsed } : State) = { U.setFrames U.frames with heap := s₂.heap, slotsUsed := s₂.slotsUsed }
      rw [State.setFrames_self ht]
    subst hg
    refine Or.inl ⟨v, ⟨(({ U with heap := s₂.heap, slotsUsed := s₂.slotsUsed } : State).setVm s₂.vm), Ls ++ L, c0 + mc, s0 + ms⟩,
      ⟨X.admits, X.cas, X.clock, X.frames, X.room, X.hears, X.method, X.code, (X.here.setHeapUsed s₂.heap s₂.slotsUsed).setVm hW'.alike, X.tail, State.WarmedH.trans X.warmed hW', X.limits, X.bytes, X.same.trans (hsame.setVm s.vm)⟩,
      ⟨g, mk, s₂, L, rfl, rfl, hqc, rfl, hL, rfl, rfl⟩, ?_⟩
    show Steps p.tables e below _ ((({ U with heap := s₂.heap, slotsUsed := s₂.slotsUsed } : State).setVm s₂.vm).setTop { g with pc := g.pc + len₂, stack := v.toList ++ g.stack })
    rw [← hs₂]
    exact hsteps
  · obtain ⟨e2, q2, q3, q4, q5, q6⟩ := id hsm
    have e3 : s₂ = ({ (U.calling g mk a).setFrames s₂.frames with heap := s₂.heap, slotsUsed := s₂.slotsUsed } : State).setVm s₂.vm := by
      have : s₂ = ({ s₂ with vm := (U.calling g mk a).vm } : State).setVm s₂.vm := rfl
      rw [e2] at this
      exact this
    have hf₂ : s₂.frames = .throwing q :: .java g :: U.frames.tail := hend
    have hW' : U.WarmedH s₂.vm := hW₂
    have hs₂ : s₂ = ((({ U with heap := s₂.heap, slotsUsed := s₂.slotsUsed } : State).setVm s₂.vm).setTop g).pushFrame (.throwing q) := by
      refine e3.trans ?_
      rw [hf₂, State.calling_eq h.top, State.setFrames_setFrames, State.pushFrame, State.frames_setTop _ hr', State.setTop_of_frames _ hr', State.setFrames_setFrames, hr]
      rfl
    have hsame : U.sameButNew ({ U with heap := s₂.heap, slotsUsed := s₂.slotsUsed } : State) L mc ms := by
      refine ⟨?_, q2, q3, q4, q5, q6⟩
      obtain ⟨t, ht, -⟩ := State.frames_cons hr
      show ({ U with heap := s₂.heap, slotsUsed := s₂.slotsUsed } : State) = { U.setFrames U.frames with heap := s₂.heap, slotsUsed := s₂.slotsUsed }
      rw [State.setFrames_self ht]
    subst hg
    refine Or.inr ⟨q, ⟨(({ U with heap := s₂.heap, slotsUsed := s₂.slotsUsed } : State).setVm s₂.vm), Ls ++ L, c0 + mc, s0 + ms⟩,
      ⟨X.admits, X.cas, X.clock, X.frames, X.room, X.hears, X.method, X.code, (X.here.setHeapUsed s₂.heap s₂.slotsUsed).setVm hW'.alike, X.tail, State.WarmedH.trans X.warmed hW', X.limits, X.bytes, X.same.trans (hsame.setVm s.vm)⟩,
      ⟨g, mk, s₂, L, E, ce, rfl, rfl, hx, hce, hcv, hcl, rfl, hL, rfl, rfl⟩, ?_⟩
    show Steps p.tables e below _ (((({ U with heap := s₂.heap, slotsUsed := s₂.slotsUsed } : State).setVm s₂.vm).setTop g).pushFrame (.throwing q))
    rw [← hs₂]
    exact hsteps
end Payer
section Calls
variable {p : Program} {l : Launch} {e : Env} {R : Room} {s : State} {m : MethodId} {args : Array Value} {below : List Frame} {meth : Method} {c : Code} {T : State} {locs : List Loc} {cells slots : Nat}
theorem vx_callV (X : Stand p l e R s m args below meth c T locs cells slots) (hexec : p.tables.exec = Jvm.exec) {own C : String} {index : Nat} {y : MethodName} {bytes : ByteArray} {maxL : Nat} {ret : Option FieldType}
    (hown : s.vm.findClass own = some m.cls) (hlink : (Cond.methodLink own index y).before args s = true) (hinst : (Cond.instanceMethod y).before args s = true) (hsel : (Cond.selects C y y).before args s = true)
    (hcode : (Cond.code y bytes maxL ret).before args s = true) (hy : y.cls ≠ "java/lang/invoke/MethodHandle" ∧ y.cls ≠ "java/lang/invoke/VarHandle")
    {W9 : Nat} {Pre : Pt → Array Value → Prop} {Post : Pt → Array Value → Option Value → Pt → Prop} {PostX : Pt → Array Value → Addr → Pt → Prop} (hK : vx_Back l R p e below s args y 3 W9 Pre Post PostX)
    {b : Addr} {cellB : Cell} (hcell : T.heap[b]? = some cellB) (hobj : cellB.vm.isStatics = false) (hcls : s.vm.findClass C = some cellB.cls)
    {g : JFrame} (hg : g.method = m) (hsize : g.locals.size = c.maxLocals) {argsL rest : List Value} (hlen : ∀ sig, parseMethodDescriptor y.desc = some sig → argsL.length = sig.parameters.length)
    (hstack : g.stack = argsL.reverse ++ .ref b :: rest) (hW : 2 * g.monitorRoom + (rest.map fun v => v.category).sum ≤ W9) (hdg : decode c.code g.pc = .ok (.invokevirtual index, 3))
    (hpre : ∀ vm₁, s.WarmedH vm₁ → Pre ⟨T.setVm vm₁, locs, cells, slots⟩ (Value.ref b :: argsL).toArray) :
    (∃ (v : Option Value) (vm₁ : Vm) (B : Pt), s.WarmedH vm₁ ∧ Stand p l e R s m args below meth c B.U B.locs B.cells B.slots ∧ Post ⟨T.setVm vm₁, locs, cells, slots⟩ (Value.ref b :: argsL).toArray v B ∧
      ∀ target, Steps p.tables e below (B.U.setTop { g with pc := g.pc + 3, stack := v.toList ++ rest }) target → Steps p.tables e below (T.setTop g) target) ∨
    (∃ (q : Addr) (vm₁ : Vm) (B : Pt), s.WarmedH vm₁ ∧ Stand p l e R s m args below meth c B.U B.locs B.cells B.slots ∧ PostX ⟨T.setVm vm₁, locs, cells, slots⟩ (Value.ref b :: argsL).toArray q B ∧
      Steps p.tables e below (T.setTop g) ((B.U.setTop { g with stack := rest }).pushFrame (.throwing q))) := by
  obtain ⟨mk, methM, hnamed, hmethM, hstM, habM⟩ := Cond.instanceMethod_spec hinst
  obtain ⟨methM', cM, hmethM', -, -, -, -, -, -, hsigM⟩ := Cond.code_spec hnamed hcode
  cases hmethM.symm.trans hmethM'
  obtain ⟨c2, r2, m2, q1, q2, q3, q4, kP, hkP, hkPi⟩ := Cond.selects_spec hsel
  cases hcls.symm.trans q1
  cases (State.methodFound?_of_named hnamed hy).symm.trans q2
  cases hnamed.symm.trans q3
  have hselP : selectMethod e.platform s.vm cellB.cls mk = .method mk := by rw [Launch.admits_selectMethod X.admits]; exact q4
  obtain ⟨vm₁, X₁, hstep₁⟩ := X.invokevirtual hexec hown hlink hnamed hmethM hstM hkP hkPi hy (a := b) (cell := cellB) hcell
    (fun z h => by rw [h] at hobj; cases hobj) hselP hmethM habM hkP hkPi (g := g) hg (argsL := argsL) (rest := rest) (hlen _ hsigM) hstack hdg
  rcases hK m meth c ⟨T.setVm vm₁, locs, cells, slots⟩ { g with stack := rest } (.invokevirtual index) mk (Value.ref b :: argsL).toArray X₁ hg hsize hdg hW (X₁.named hnamed) (hpre vm₁ X₁.warmed) with ⟨v, B, X', hpost, hsteps⟩ | ⟨q, B, X', hpost, hsteps⟩
  · exact Or.inl ⟨v, vm₁, B, X₁.warmed, X', hpost, fun target h => hstep₁ _ fun acts => by rw [doInvoke_state]; exact hsteps.trans h⟩
  · exact Or.inr ⟨q, vm₁, B, X₁.warmed, X', hpost, hstep₁ _ fun acts => by rw [doInvoke_state]; exact hsteps⟩
theorem vx_callS (X : Stand p l e R s m args below meth c T locs cells slots) (hexec : p.tables.exec = Jvm.exec) {own : String} {index : Nat} {y : MethodName} {bytes : ByteArray} {maxL : Nat} {ret : Option FieldType}
    (hown : s.vm.findClass own = some m.cls) (hlink : (Cond.methodLink own index y).before args s = true) (hstat : (Cond.static y).before args s = true) (hinit : (Cond.initialized y.cls).before args s = true)
    (hcode : (Cond.code y bytes maxL ret).before args s = true) (hy : y.cls ≠ "java/lang/invoke/MethodHandle" ∧ y.cls ≠ "java/lang/invoke/VarHandle")
    {W9 : Nat} {Pre : Pt → Array Value → Prop} {Post : Pt → Array Value → Option Value → Pt → Prop} {PostX : Pt → Array Value → Addr → Pt → Prop} (hK : vx_Back l R p e below s args y 3 W9 Pre Post PostX)
    {g : JFrame} (hg : g.method = m) (hsize : g.locals.size = c.maxLocals) {argsL rest : List Value} (hlen : ∀ sig, parseMethodDescriptor y.desc = some sig → argsL.length = sig.parameters.length)
    (hstack : g.stack = argsL.reverse ++ rest) (hW : 2 * g.monitorRoom + (rest.map fun v => v.category).sum ≤ W9) (hdg : decode c.code g.pc = .ok (.invokestatic index, 3))
    (hpre : ∀ vm₁, s.WarmedH vm₁ → Pre ⟨T.setVm vm₁, locs, cells, slots⟩ argsL.toArray) :
    (∃ (v : Option Value) (vm₁ : Vm) (B : Pt), s.WarmedH vm₁ ∧ Stand p l e R s m args below meth c B.U B.locs B.cells B.slots ∧ Post ⟨T.setVm vm₁, locs, cells, slots⟩ argsL.toArray v B ∧
      ∀ target, Steps p.tables e below (B.U.setTop { g with pc := g.pc + 3, stack := v.toList ++ rest }) target → Steps p.tables e below (T.setTop g) target) ∨
    (∃ (q : Addr) (vm₁ : Vm) (B : Pt), s.WarmedH vm₁ ∧ Stand p l e R s m args below meth c B.U B.locs B.cells B.slots ∧ PostX ⟨T.setVm vm₁, locs, cells, slots⟩ argsL.toArray q B ∧
      Steps p.tables e below (T.setTop g) ((B.U.setTop { g with stack := rest }).pushFrame (.throwing q))) := by
  obtain ⟨mk, hnamed⟩ := Cond.code_named hcode
  obtain ⟨methM, cM, hmethM, -, -, -, -, -, -, hsigM⟩ := Cond.code_spec hnamed hcode
  have hstatic : methM.isStatic = true := Cond.static_spec hnamed hmethM hstat
  obtain ⟨kP, hkP, -⟩ := className_of_methodNamed hnamed
  have hinitP : kP.init = .initialized := Cond.initialized_spec (findClass_of_methodNamed hnamed) hkP hinit
  obtain ⟨vm₁, X₁, hstep₁⟩ := X.invokestatic hexec hown hlink hnamed hmethM hstatic hkP hinitP hy (g := g) hg (argsL := argsL) (rest := rest) (hlen _ hsigM) hstack hdg
  rcases hK m meth c ⟨T.setVm vm₁, locs, cells, slots⟩ { g with stack := rest } (.invokestatic index) mk argsL.toArray X₁ hg hsize hdg hW (X₁.named hnamed) (hpre vm₁ X₁.warmed) with ⟨v, B, X', hpost, hsteps⟩ | ⟨q, B, X', hpost, hsteps⟩
  · exact Or.inl ⟨v, vm₁, B, X₁.warmed, X', hpost, fun target h => hstep₁ _ fun acts => by rw [doInvoke_state]; exact hsteps.trans h⟩
  · exact Or.inr ⟨q, vm₁, B, X₁.warmed, X', hpost, hstep₁ _ fun acts => by rw [doInvoke_state]; exact hsteps⟩
end Calls
theorem vx_cls {s : State} {T : State} {vm₁ : Vm} {E : String} {k : ClassId} (hW : s.WarmedH vm₁) (h : (T.setVm vm₁).vm.findClass E = some k) : s.vm.findClass E = some k := by
  have h1 : vm₁.findClass E = some k := h
  rw [hW.alike.findClass] at h1
  exact h1
/-- the method's frame g, with q thrown over it -/
def vx_W (p : Program) (l : Launch) (e : Env) (R : Room) (s : State) (m : MethodId) (args : Array Value) (below : List Frame) (meth : Method) (c : Code) (H : Heap) (locs : List Loc) (cells slots : Nat) (Q : State → Prop) (g : JFrame) (q : Addr) : Prop :=
  ∀ T : State, T.heap = H → Stand p l e R s m args below meth c T locs cells slots → ∃ t, Steps p.tables e below ((T.setTop g).pushFrame (.throwing q)) t ∧ Q t
def vx_Run (p : Program) (l : Launch) (e : Env) (R : Room) (s : State) (m : MethodId) (args : Array Value) (below : List Frame) (meth : Method) (c : Code) (H : Heap) (locs : List Loc) (cells slots mc ms : Nat) (g : JFrame) (rest : List Value) (Qa : State → Outcome → State → Prop) (XC : String → State → State → Prop) (free : Addr → Prop) : Prop :=
  ∀ T : State, T.heap = H → Stand p l e R s m args below meth c T locs cells slots →
    (∃ (v : Option Value) (st₀ t T' : State) (L : List Loc), st₀.heap = H ∧ Stand p l e R s m args below meth c T' (locs ++ L) (cells + mc) (slots + ms) ∧ (∀ q ∈ L, free q.base) ∧ T'.heap = t.heap ∧ T'.vm = t.vm ∧ Qa st₀ (.returned v) t ∧
      Goes p e below T g T' { g with pc := g.pc + 3, stack := v.toList ++ rest }) ∨
    (∃ (q : Addr) (st₀ t T' : State) (L : List Loc) (E : String) (ce : Cell), st₀.heap = H ∧ Stand p l e R s m args below meth c T' (locs ++ L) (cells + mc) (slots + ms) ∧ (∀ z ∈ L, free z.base) ∧ T'.heap = t.heap ∧ T'.vm = t.vm ∧ XC E st₀ t ∧ t.heap[q]? = some ce ∧ ce.vm = .none ∧ s.vm.findClass E = some ce.cls ∧
      Steps p.tables e below (T.setTop g) ((T'.setTop { g with stack := rest }).pushFrame (.throwing q)))
def vx_X {S : Type} (px : S → Prop) (B : String → S → State → Prop) (A : Nat → Prop) : String → State → State → Prop := fun E st t => ∃ u : S, px u ∧ B E u t ∧ va_F A st t
section Runs
variable {p : Program} {l : Launch} {e : Env} {R : Room} {s : State} {m : MethodId} {args : Array Value} {below : List Frame} {meth : Method} {c : Code} {H : Heap} {locs : List Loc} {cells slots : Nat}
variable {y : MethodName} {bytes cc : ByteArray} {maxL nL mc ms n index : Nat} {ret : Option FieldType} {ws : List Cond} {rm : Room} {Pc : Array Value → State → Prop} {Qc : Array Value → State → Outcome → State → Prop} {XC : String → State → State → Prop} {free : Addr → Prop} {Ts : List Cond} {own C : String} {b : Addr} {As rest : List Value} {g : JFrame}
theorem vx_callBack (cb : CallB R s args own index y bytes maxL ret ws rm mc ms n) (hM : vx_Met l y ws rm Pc Qc XC mc ms free) (hbl : FrameBlind Pc) : vx_Back l R p e below s args y 3 8 (PreOf R mc ms Pc) (PostOf Qc mc ms free) (vx_Post XC mc ms free) := by
  obtain ⟨hrc, hrs, hfr, hlo, hws, hcw, -, hini, -⟩ := cb
  exact vx_back (bytes := bytes) (maxL := maxL) (ret := ret) hM hbl hrc hrs hfr hlo hws hcw (fun a' U hW => word_at hW (Or.inl (by first | rfl | simp [Cond.onTables, Cond.keeps, Cond.steady])) hini)
theorem vx_runV (S : CallFix p m c cc nL s args Ts own) (hM : vx_Met l y ws rm Pc Qc XC mc ms free) (cw : CallW R s args own C index y bytes maxL ret ws rm mc ms n) (hp : PreV s H C b Pc As)
    (hg : g.method = m) (hn : As.length = n) (hsize : g.locals.size = nL) (hstack : g.stack = As.reverse ++ .ref b :: rest) (hW : 2 * g.monitorRoom + (rest.map fun v => v.category).sum ≤ 8) (hdg : decode cc g.pc = .ok (.invokevirtual index, 3)) (hf : cells + mc ≤ R.cells ∧ slots + ms ≤ R.slots) :
    vx_Run p l e R s m args below meth c H locs cells slots mc ms g rest (Qc (Value.ref b :: As).toArray) XC free := by
  have hK : vx_Back l R p e below s args y 3 8 (PreOf R mc ms Pc) (PostOf Qc mc ms free) (vx_Post XC mc ms free) := vx_callBack cw.1 hM hp.1
  obtain ⟨⟨-, -, -, -, -, -, hcode, -, hy, hlen, hl⟩, hin, hse⟩ := cw
  obtain ⟨hx, hb, hml, ho, -⟩ := S
  obtain ⟨-, ⟨cellB, hcB, hoB, hclB⟩, hPc⟩ := hp
  intro T hT X
  rcases vx_callV X hx (C := C) (bytes := bytes) (maxL := maxL) (ret := ret) ho hl hin hse hcode hy hK (by rw [hT]; exact hcB) hoB hclB hg (hsize.trans hml.symm) (argsL := As) (rest := rest) (fun sig h => hn.trans (hlen sig h)) hstack hW (by rw [hb]; exact hdg)
    (fun vm₁ hW₁ => ⟨hf.1, hf.2, hPc (T.setVm vm₁) hT hW₁⟩) with ⟨v, vm₁, ⟨U', l2, c2, s2⟩, hW₁, X', ⟨g', mk, t, L, e1, e2, hq, h1, hL, h2, h3⟩, st⟩ | ⟨q, vm₁, ⟨U', l2, c2, s2⟩, hW₁, X', ⟨g', mk, t, L, E, ce, e1, e2, hq, hce, hcv, hcl, h1, hL, h2, h3⟩, st⟩
  · dsimp only [Pt.U, Pt.locs, Pt.cells, Pt.slots] at X' e1 e2 h1 h2 h3 st
    subst h1; subst h2; subst h3
    exact Or.inl ⟨v, (T.setVm vm₁).calling g' mk (Value.ref b :: As).toArray, t, U', L, hT, X', hL, e1, e2, hq, st⟩
  · dsimp only [Pt.U, Pt.locs, Pt.cells, Pt.slots] at X' e1 e2 h1 h2 h3 st hcl
    subst h1; subst h2; subst h3
    exact Or.inr ⟨q, (T.setVm vm₁).calling g' mk (Value.ref b :: As).toArray, t, U', L, E, ce, hT, X', hL, e1, e2, hq, hce, hcv, vx_cls hW₁ hcl, st⟩
theorem vx_runS (S : CallFix p m c cc nL s args Ts own) (hM : vx_Met l y ws rm Pc Qc XC mc ms free) (cw : CallB R s args own index y bytes maxL ret ws rm mc ms n ∧ (Cond.static y).before args s = true) (hp : PreS s H Pc As)
    (hg : g.method = m) (hn : As.length = n) (hsize : g.locals.size = nL) (hstack : g.stack = As.reverse ++ rest) (hW : 2 * g.monitorRoom + (rest.map fun v => v.category).sum ≤ 8) (hdg : decode cc g.pc = .ok (.invokestatic index, 3)) (hf : cells + mc ≤ R.cells ∧ slots + ms ≤ R.slots) :
    vx_Run p l e R s m args below meth c H locs cells slots mc ms g rest (Qc As.toArray) XC free := by
  have hK : vx_Back l R p e below s args y 3 8 (PreOf R mc ms Pc) (PostOf Qc mc ms free) (vx_Post XC mc ms free) := vx_callBack cw.1 hM hp.1
  obtain ⟨⟨-, -, -, -, -, -, hcode, hini, hy, hlen, hl⟩, hstt⟩ := cw
  obtain ⟨hx, hb, hml, ho, -⟩ := S
  intro T hT X
  rcases vx_callS X hx (bytes := bytes) (maxL := maxL) (ret := ret) ho hl hstt hini hcode hy hK hg (hsize.trans hml.symm) (argsL := As) (rest := rest) (fun sig h => hn.trans (hlen sig h)) hstack hW (by rw [hb]; exact hdg)
    (fun vm₁ hW₁ => ⟨hf.1, hf.2, hp.2 (T.setVm vm₁) hT hW₁⟩) with ⟨v, vm₁, ⟨U', l2, c2, s2⟩, hW₁, X', ⟨g', mk, t, L, e1, e2, hq, h1, hL, h2, h3⟩, st⟩ | ⟨q, vm₁, ⟨U', l2, c2, s2⟩, hW₁, X', ⟨g', mk, t, L, E, ce, e1, e2, hq, hce, hcv, hcl, h1, hL, h2, h3⟩, st⟩
  · dsimp only [Pt.U, Pt.locs, Pt.cells, Pt.slots] at X' e1 e2 h1 h2 h3 st
    subst h1; subst h2; subst h3
    exact Or.inl ⟨v, (T.setVm vm₁).calling g' mk As.toArray, t, U', L, hT, X', hL, e1, e2, hq, st⟩
  · dsimp only [Pt.U, Pt.locs, Pt.cells, Pt.slots] at X' e1 e2 h1 h2 h3 st hcl
    subst h1; subst h2; subst h3
    exact Or.inr ⟨q, (T.setVm vm₁).calling g' mk As.toArray, t, U', L, E, ce, hT, X', hL, e1, e2, hq, hce, hcv, vx_cls hW₁ hcl, st⟩
end Runs
section Rows
variable {p : Program} {l : Launch} {e : Env} {R : Room} {s : State} {m : MethodId} {args : Array Value} {below : List Frame} {meth : Method} {c : Code} {H : Heap} {locs : List Loc} {cells slots : Nat} {Q : State → Prop}
variable {mc ms : Nat} {free : Addr → Prop} {A0 A1 : Nat → Prop} {H0 : Heap} {a : Array Value} {pc : Nat} {ls : Array Slot} {st0 rest : List Value}
theorem vx_keep {st₀ t T' : State} {L : List Loc} (h0 : st₀.heap = H) (e1 : T'.heap = t.heap) (hS : va_S A0 H0 H locs) (hA : ∀ q, q < H.size → A1 q → A0 q) (hf : ∀ q, free q → A0 q) (hL : ∀ q ∈ L, free q.base) (hF : va_F A1 st₀ t) :
    H.size ≤ T'.heap.size ∧ (∀ q : Nat, q < H.size → ¬ A1 q → T'.heap[q]? = H[q]?) ∧ va_S A0 H0 T'.heap (locs ++ L) := by
  obtain ⟨hz, hk⟩ := hF
  rw [h0] at hz hk
  exact ⟨by rw [e1]; exact hz, fun q h1 h2 => by rw [e1]; exact hk q h1 h2,
    ⟨Nat.le_trans hS.1 (by rw [e1]; exact hz), fun q h1 h2 => by rw [e1, hk q (Nat.lt_of_lt_of_le h1 hS.1) (fun z => h2 (hA q (Nat.lt_of_lt_of_le h1 hS.1) z))]; exact hS.2.1 q h1 h2, fun q hq => by
      rcases List.mem_append.mp hq with h | h
      · exact hS.2.2 q h
      · exact hf _ (hL q h)⟩⟩
end Rows
section Ends
variable {p : Program} {l : Launch} {e : Env} {R : Room} {s : State} {m : MethodId} {args : Array Value} {below : List Frame} {meth : Method} {c : Code} {H : Heap} {locs : List Loc} {cells slots : Nat} {Q : State → Prop}
variable {mc ms : Nat} {free : Addr → Prop} {A0 A1 : Nat → Prop} {H0 : Heap} {a : Array Value} {ls : Array Slot} {st0 rest : List Value}
variable {Qc : Array Value → State → Outcome → State → Prop} {XC : String → State → State → Prop}
/-- what a body that may throw owes at its end -/
def vx_MQ (below : List Frame) (Qc : Array Value → State → Outcome → State → Prop) (XC : String → State → State → Prop) (a : Array Value) (s : State) (mc ms : Nat) (free : Addr → Prop) : State → Prop := fun t =>
  ∃ o, t.status = .running ∧ Ended t below o ∧ vx_Q Qc XC mc ms free a s o t
theorem vx_ret {g : JFrame} {mc ms : Nat} (k : W p l e R s m args below meth c H locs cells slots (MQ below Qc args s mc ms free) g) : W p l e R s m args below meth c H locs cells slots (vx_MQ below Qc XC args s mc ms free) g := by
  intro T hT X
  obtain ⟨t, a1, o, b1, b2, b3, b4⟩ := k T hT X
  exact ⟨t, a1, o, b1, b2, Or.inl ⟨b3, b4⟩⟩
/-- not caught here: it goes on to the caller -/
theorem vx_widen {g : JFrame} {q : Addr} {k n : Nat} (h1 : cells ≤ k) (h2 : slots ≤ n) (kk : vx_W p l e R s m args below meth c H locs k n Q g q) : vx_W p l e R s m args below meth c H locs cells slots Q g q := fun T hT X => kk T hT (stand_widen X h1 h2)
theorem vx_out {pc : Nat} {E : String} {ce : Cell} {q : Addr} {mc ms : Nat} (hout : ∀ x ∈ c.exceptionTable.toList, covers x pc = false) (hlocks : meth.locks = false) (hcell : H[q]? = some ce) (hv : ce.vm = .none) (hcl : s.vm.findClass E = some ce.cls)
    (hx : ∀ t : State, t.heap = H → s.vm.Alike t.vm → XC E s t) (hf : ∀ z ∈ locs, free z.base) (hc : cells ≤ mc) (hs : slots ≤ ms) :
    vx_W p l e R s m args below meth c H locs cells slots (vx_MQ below Qc XC args s mc ms free) (F0 m pc ls rest) q := by
  intro T hT X
  obtain ⟨st1, hrun, hend, hW, hsm⟩ := X.leaveThrown q (g := F0 m pc ls rest) rfl rfl rfl hout hlocks
  have hcell9 : (T.setFrames (.throwing q :: below)).heap[q]? = some ce := by
    show T.heap[q]? = some ce
    rw [hT]; exact hcell
  exact ⟨_, st1, .threw q, hrun, hend, Or.inr ⟨q, rfl, E, ce, locs, hx _ hT hW.alike, hcell9, hv, hcl, hW, hsm.mono hc hs, hf⟩⟩
theorem vx_frame {U : State} {k n : Nat} (h : s.sameButNew ({ U with vm := s.vm } : State) locs k n) : s.heap.size ≤ U.heap.size ∧ ∀ q : Nat, q < s.heap.size → (∀ z ∈ locs, z.base ≠ q) → U.heap[q]? = s.heap[q]? := by
  obtain ⟨-, h2, -, -, -, h6⟩ := h
  refine ⟨h2, fun q hq hz => ?_⟩
  obtain ⟨c9, e1, e2, e3, e4⟩ := h6 q _ (Array.getElem?_eq_getElem hq)
  have hs : c9.slots = (s.heap[q]).slots := Array.ext_getElem? fun i => e4 i fun hm => hz _ hm rfl
  have h9 : c9 = s.heap[q] := by
    rw [hs] at e2
    exact e2
  have e5 : U.heap[q]? = some c9 := e1
  rw [e5, h9, Array.getElem?_eq_getElem hq]
/-- the words of a throw but the four that speak of the heap -/
def vx_no (w : Cond) : Bool := decide (w ≠ .isRef (.static Bundle.tN "UNASSIGNED_STACK" Bundle.steD)) && decide (w ≠ .isRef (.static Bundle.tN "SUPPRESSED_SENTINEL" Bundle.listD)) && decide (w ≠ .laysStatic Bundle.tN "UNASSIGNED_STACK" Bundle.steD) && decide (w ≠ .laysStatic Bundle.tN "SUPPRESSED_SENTINEL" Bundle.listD)
def vx_at0 (own : String) (ic : Nat) (X : String) (names : List String) : List Cond := (Bundle.ownAtoms0 own ic X names).filter vx_no
def vx_atS (own : String) (ic : Nat) (X : String) (names : List String) : List Cond := (Bundle.ownAtoms own ic X names).filter vx_no
/-- a word that the tables alone decide, or a good one -/
def vx_ot (w : Cond) : Bool := w.onTables || goodWord w
theorem vx_ot_at {args a' : Array Value} {s U : State} {w : Cond} (hW : s.WarmedH U.vm) (hvm : s.vm = U.vm) (hg : vx_ot w = true) (h : w.before args s = true) : w.before a' U = true := by
  simp only [vx_ot, Bool.or_eq_true] at hg
  rcases hg with hg | hg
  · exact va_tabs hg hvm h
  · exact word_at hW (good_of_word hg) h
/-- a list's words: the good ones out of the method's own list, the others by premises of their own -/
theorem vx_hat {args : Array Value} {s : State} {L B : List Cond} (h1 : ∀ w ∈ L.filter goodWord, w.before args s = true) (h2 : ∀ w ∈ L.filter (fun w => !goodWord w), w ∈ B) (h3 : ∀ w ∈ B, w.before args s = true) : ∀ w ∈ L, w.before args s = true := by
  intro w hw
  by_cases g : goodWord w = true
  · exact h1 w (List.mem_filter.mpr ⟨hw, g⟩)
  · refine h3 w (h2 w (List.mem_filter.mpr ⟨hw, ?_⟩))
    show (!goodWord w) = true
    cases hgw : goodWord w
    · rfl
    · exact absurd hgw g
theorem vx_c {args : Array Value} {s : State} {w : Cond} {B : List Cond} (h : w.before args s = true) (t : ∀ w ∈ B, w.before args s = true) : ∀ w' ∈ w :: B, w'.before args s = true := fun w' h' => (List.mem_cons.mp h').elim (fun e => by rw [e]; exact h) (t w')
theorem vx_n {args : Array Value} {s : State} : ∀ w ∈ ([] : List Cond), w.before args s = true := fun _ h => nomatch h
theorem vx_own {args : Array Value} {s : State} {L : List Cond} (h1 : ∀ w ∈ L.filter vx_no, w.before args s = true)
    (hU : (Cond.isRef (.static Bundle.tN "UNASSIGNED_STACK" Bundle.steD)).before args s = true) (hN : (Cond.isRef (.static Bundle.tN "SUPPRESSED_SENTINEL" Bundle.listD)).before args s = true)
    (lU : (Cond.laysStatic Bundle.tN "UNASSIGNED_STACK" Bundle.steD).before args s = true) (lN : (Cond.laysStatic Bundle.tN "SUPPRESSED_SENTINEL" Bundle.listD).before args s = true) : ∀ w ∈ L, w.before args s = true := by
  intro w hw
  by_cases e1 : w = .isRef (.static Bundle.tN "UNASSIGNED_STACK" Bundle.steD)
  · rw [e1]; exact hU
  · by_cases e2 : w = .isRef (.static Bundle.tN "SUPPRESSED_SENTINEL" Bundle.listD)
    · rw [e2]; exact hN
    · by_cases e3 : w = .laysStatic Bundle.tN "UNASSIGNED_STACK" Bundle.steD
      · rw [e3]; exact lU
      · by_cases e4 : w = .laysStatic Bundle.tN "SUPPRESSED_SENTINEL" Bundle.listD
        · rw [e4]; exact lN
        · exact h1 w (List.mem_filter.mpr ⟨hw, by unfold vx_no; rw [decide_eq_true e1, decide_eq_true e2, decide_eq_true e3, decide_eq_true e4]; rfl⟩)
/-- where a static field lies, its class's statics cell in H -/
def vx_L (C n d : String) (A : Nat → Prop) (U : State) (H : Heap) : Prop := ∃ (c : ClassId) (k : Class) (i : Nat) (f : Field) (a : Nat) (cell : Cell), U.vm.findClass C = some c ∧ U.fieldFound? C n d = some (c, k, i, f) ∧ f.isStatic = true ∧ k.statics = some a ∧ H[a]? = some cell ∧ cell.vm.isStatics = true ∧ cell.cls = c ∧ f.slot < cell.slots.size ∧ k.staticTypes[f.slot]? = some f.type ∧ ¬ A a
theorem vx_L.moved {C n d : String} {A : Nat → Prop} {u U : State} {H : Heap} (hvm : u.vm.Alike U.vm) (h : vx_L C n d A u H) : vx_L C n d A U H := by
  obtain ⟨c, k, i, f, a, cell, h1, h2, h3, h4, h5, h6, h7, h8, h9, h10⟩ := h
  obtain ⟨k', hi', he⟩ := State.fieldFound?_setVm hvm h2
  exact ⟨c, k', i, f, a, cell, by rw [hvm.findClass]; exact h1, hi', h3, by rw [he]; exact h4, h5, h6, h7, h8, by rw [he]; exact h9, h10⟩
theorem vx_L.kept {C n d : String} {A : Nat → Prop} {U : State} {H H1 : Heap} (h : vx_L C n d A U H) (hq : ∀ a : Nat, a < H.size → ¬ A a → H1[a]? = H[a]?) : vx_L C n d A U H1 := by
  obtain ⟨c, k, i, f, a, cell, h1, h2, h3, h4, h5, h6, h7, h8, h9, h10⟩ := h
  exact ⟨c, k, i, f, a, cell, h1, h2, h3, h4, by rw [hq a (Array.getElem?_eq_some_iff.mp h5).1 h10]; exact h5, h6, h7, h8, h9, h10⟩
theorem vx_L.narrow {C n d : String} {A B : Nat → Prop} {U : State} {H : Heap} (h : vx_L C n d A U H) (hAB : ∀ q, B q → A q) : vx_L C n d B U H := by
  obtain ⟨c, k, i, f, a, cell, h1, h2, h3, h4, h5, h6, h7, h8, h9, h10⟩ := h
  exact ⟨c, k, i, f, a, cell, h1, h2, h3, h4, h5, h6, h7, h8, h9, fun z => h10 (hAB _ z)⟩
theorem vx_L.word {C n d : String} {A : Nat → Prop} {s : State} {args : Array Value} (h : vx_L C n d A s s.heap) : (Cond.laysStatic C n d).before args s = true := by
  obtain ⟨c, k, i, f, a, cell, h1, h2, h3, h4, h5, h6, h7, h8, h9, -⟩ := h
  show (Cond.laysStatic C n d).holds args s none s [] = true
  exact Cond.laysStatic_of h1 h2 h3 h4 h5 h6 h7 h8 h9
/-- .. and what it holds: null or some reference -/
def vx_Zq (C n d : String) (A : Nat → Prop) (U : State) (H : Heap) : Prop := va_Zq C n d A U H ∧ vx_L C n d A U H
theorem vx_Zq.moved {C n d : String} {A : Nat → Prop} {u U : State} {H : Heap} (hvm : u.vm.Alike U.vm) (h : vx_Zq C n d A u H) : vx_Zq C n d A U H := ⟨va_Zq.moved hvm h.1, vx_L.moved hvm h.2⟩
theorem vx_Zq.kept {C n d : String} {A : Nat → Prop} {U : State} {H H1 : Heap} (h : vx_Zq C n d A U H) (hq : ∀ a : Nat, a < H.size → ¬ A a → H1[a]? = H[a]?) : vx_Zq C n d A U H1 := ⟨va_Zq.kept h.1 hq, vx_L.kept h.2 hq⟩
theorem vx_Zq.narrow {C n d : String} {A B : Nat → Prop} {U : State} {H : Heap} (h : vx_Zq C n d A U H) (hAB : ∀ q, B q → A q) : vx_Zq C n d B U H := ⟨va_Zq.narrow h.1 hAB, vx_L.narrow h.2 hAB⟩
theorem vx_Zqof {args : Array Value} {s : State} {C n d : String} {A : Nat → Prop} (hl : (Cond.laysStatic C n d).before args s = true) (hini : (Cond.initialized C).before args s = true) (h : (Cond.isRef (.static C n d)).before args s = true) (hA : ∀ a : Nat, a < s.heap.size → ¬ A a) : vx_Zq C n d A s s.heap := by
  refine ⟨va_Zqof hl hini h hA, ?_⟩
  obtain ⟨c, k, i, f, a, cell, h1, h2, h3, h4, h5, h6, h7, h8, h9⟩ := Cond.laysStatic_spec hl
  exact ⟨c, k, i, f, a, cell, h1, h2, h3, h4, h5, h6, h7, h8, h9, hA a (Array.getElem?_eq_some_iff.mp h5).1⟩
theorem vx_isRef {C n d : String} {v : Value} {A : Nat → Prop} {s : State} {args : Array Value} (h : va_Z C n d v A s s.heap) (hv : v.isRef = true) : (Cond.isRef (.static C n d)).before args s = true := by
  obtain ⟨cf, kf, fi, f, a, cell, h1, h2, h3, h4, h5, h6, h7, -⟩ := h
  have he : (Term.static C n d).eval args s none [] s = some v := by
    simp [Term.eval, State.fieldNamed?, h1, h2, h4, h5, h6, h7]
  simp only [Cond.before, Cond.holds, Cond.value, he]
  cases v <;> simp_all [Value.isRef]
theorem vx_isRefq {C n d : String} {A : Nat → Prop} {s : State} {args : Array Value} (h : va_Zq C n d A s s.heap) : (Cond.isRef (.static C n d)).before args s = true := by
  rcases h with h | ⟨t, h⟩
  · exact vx_isRef h rfl
  · exact vx_isRef h rfl
/-- the same frame, seen from here: as if the method were called anew in this heap -/
theorem vx_rebase {T : State} (X : Stand p l e R s m args below meth c T locs cells slots) {R' : Room} (hf : R'.frames ≤ R.frames) (hl : R'.locals ≤ R.locals) (hc : cells + R'.cells ≤ R.cells) (hs : slots + R'.slots ≤ R.slots) :
    Stand p l e R' ((T.setVm s.vm).setFrames (.invoking m args :: below)) m args below meth c T [] 0 0 := by
  have htop : (T.setVm s.vm).topJava?.isSome := X.here.top
  have hF : ((T.setVm s.vm).setFrames (.invoking m args :: below)).frames = .invoking m args :: below := State.frames_setFrames _ (State.cur_lt_of_top htop)
  obtain ⟨g₀, hg0⟩ := Option.isSome_iff_exists.mp htop
  obtain ⟨r, hr⟩ := State.topJava?_eq_some.mp hg0
  have hl9 : e.platform.stackLimits (T.setVm s.vm).me = e.platform.stackLimits s.me := X.limits
  have hb9 : (T.setVm s.vm).me.stackBytes = s.me.stackBytes := X.bytes
  refine ⟨X.admits, X.cas, X.clock, hF, ?_, X.hears, X.method, X.code, X.here, X.tail, X.warmed, ?_, ?_, ?_⟩
  · have h := X.room
    have hU : ((T.setVm s.vm).setFrames (.invoking m args :: below)).localsInUse = s.localsInUse := by
      rw [State.localsInUse_invoking hF (meth := meth) (c := c) X.method X.code, State.localsInUse_invoking X.frames X.method X.code]
    simp only [State.hasRoom, Bool.and_eq_true, decide_eq_true_eq] at h ⊢
    obtain ⟨⟨⟨⟨h1, h2, h3, h4, h5, h6⟩, h7⟩, h8⟩, h9⟩ := h
    rw [X.frames, List.length_cons] at h2 h3
    have q1 := X.heapSize
    have q2 := X.used
    simp only [hF, hU, List.length_cons, State.stackLimits_setFrames, State.stackBytes_setFrames, hl9, hb9]
    refine ⟨⟨⟨⟨by omega, by omega, by omega, by omega, by omega, h6⟩, ?_⟩, ?_⟩, X.book⟩
    · show T.heap.size + R'.cells ≤ e.platform.maxCells
      omega
    · show T.slotsUsed + R'.slots ≤ e.platform.maxSlots
      omega
  · rw [State.stackLimits_setFrames]; rfl
  · rw [State.stackBytes_setFrames]; rfl
  · refine ⟨?_, Nat.le_refl _, Nat.le_refl _, ?_, ?_, fun a c9 h9 => ⟨c9, h9, rfl, rfl, fun _ _ => rfl⟩⟩
    · obtain ⟨t, ht, -⟩ := State.frames_cons hr
      show T.setVm s.vm = { ((T.setVm s.vm).setFrames (.invoking m args :: below)).setFrames (T.setVm s.vm).frames with heap := T.heap, slotsUsed := T.slotsUsed }
      rw [State.setFrames_setFrames, State.setFrames_self ht]
      rfl
    · show T.slotsUsed = T.slotsUsed + ((T.heap.toList.drop T.heap.size).map (·.slots.size)).sum
      rw [List.drop_eq_nil_of_le (Nat.le_of_eq Array.length_toList)]
      rfl
    · show ((T.heap.toList.drop T.heap.size).map (·.slots.size)).sum ≤ 0
      rw [List.drop_eq_nil_of_le (Nat.le_of_eq Array.length_toList)]
      exact Nat.le_refl _
/-- 'throw new E()': new; dup; invokespecial; athrow -/
theorem vx_throw0 {cc : ByteArray} {pc : Nat} (hexec : p.tables.exec = Jvm.exec) (hb : c.code = cc) (hl : l.stackTraces = false) {own cls : String} {names : List String} {ik ic mc ms : Nat} {A : Nat → Prop}
    (hown : s.vm.findClass own = some m.cls) (hcls : Bundle.fit cls = true) (hnames : ∀ n ∈ names, Bundle.fit n = true)
    (hk : (Cond.classLink own ik cls).before args s = true) (hini : (Cond.initialized cls).before args s = true) (hat : ∀ w ∈ vx_at0 own ic cls names, w.before args s = true)
    (hgood : ∀ w ∈ Cond.classLink own ik cls :: Cond.initialized cls :: vx_at0 own ic cls names, vx_ot w = true)
    (hU : vx_Zq Bundle.tN "UNASSIGNED_STACK" Bundle.steD A s s.heap) (hN : vx_Zq Bundle.tN "SUPPRESSED_SENTINEL" Bundle.listD A s s.heap) (hS : va_S A s.heap H locs) (hsize : ls.size = c.maxLocals)
    (d0 : decode cc pc = .ok (.new ik, 3)) (d3 : decode cc (pc + 3) = .ok (.dup, 1)) (d4 : decode cc (pc + 4) = .ok (.invokespecial ic, 3)) (d7 : decode cc (pc + 7) = .ok (.athrow, 1))
    (hout : ∀ x ∈ c.exceptionTable.toList, covers x (pc + 7) = false)
    (hRframes : names.length + 3 < R.frames) (hRlocals : (rest.map fun v => v.category).sum + (13 * (names.length + 1) + 42) ≤ R.locals) (hRcells : cells + 1 ≤ R.cells) (hRslots : slots + 6 ≤ R.slots) (hlocks : meth.locks = false)
    (hx : ∀ t : State, s.vm.Alike t.vm → H.size ≤ t.heap.size → (∀ q : Nat, q < H.size → t.heap[q]? = H[q]?) → XC cls s t)
    (hf : ∀ z ∈ locs, free z.base) (hc : cells + 1 ≤ mc) (hs : slots + 6 ≤ ms) :
    W p l e R s m args below meth c H locs cells slots (vx_MQ below Qc XC args s mc ms free) (F0 m pc ls rest) := by
  intro T hT X
  have htr : e.platform.stackTraces = false := (show e.platform.stackTraces = l.stackTraces by rw [X.admits.platform]).trans hl
  have Y := vx_rebase X (R' := { frames := R.frames, locals := R.locals, cells := 1, slots := 6 }) (Nat.le_refl _) (Nat.le_refl _) hRcells hRslots
  obtain ⟨s', hA⟩ : ∃ z, z = (T.setVm s.vm).setFrames (.invoking m args :: below) := ⟨_, rfl⟩
  rw [← hA] at Y
  have hvm : s'.vm = s.vm := by rw [hA]; rfl
  have hhp : s'.heap = H := by rw [hA]; exact hT
  have hW0 : s.WarmedH s'.vm := by rw [hvm]; exact State.WarmedH.refl s
  have hat' : ∀ w ∈ vx_at0 own ic cls names, w.before args s' = true := fun w hw => vx_ot_at hW0 hvm.symm (hgood w (List.mem_cons_of_mem _ (List.mem_cons_of_mem _ hw))) (hat w hw)
  have hk' : (Cond.classLink own ik cls).before args s' = true := vx_ot_at hW0 hvm.symm (hgood _ List.mem_cons_self) hk
  have hini' : (Cond.initialized cls).before args s' = true := vx_ot_at hW0 hvm.symm (hgood _ (List.mem_cons_of_mem _ List.mem_cons_self)) hini
  have hU' : vx_Zq Bundle.tN "UNASSIGNED_STACK" Bundle.steD A s' s'.heap := by rw [hhp]; exact vx_Zq.moved hW0.alike (hU.kept hS.2.1)
  have hN' : vx_Zq Bundle.tN "SUPPRESSED_SENTINEL" Bundle.listD A s' s'.heap := by rw [hhp]; exact vx_Zq.moved hW0.alike (hN.kept hS.2.1)
  have h : ∀ w ∈ Bundle.ownAtoms0 own ic cls names, w.before args s' = true := vx_own hat' (vx_isRefq hU'.1) (vx_isRefq hN'.1) hU'.2.word hN'.2.word
  have hown' : s'.vm.findClass own = some m.cls := by rw [hvm]; exact hown
  have hins : (Cond.instantiable cls 6).before args s' = true := h _ (by simp [Bundle.ownAtoms0])
  obtain ⟨vm₁, cX, kX, hfX, hkX, -, -, X₁, st1⟩ := Y.newCold hexec (own := own) (C := cls) (index := ik) (n := 6) hown' hk' hins hini'
    (g := F0 m pc ls rest) rfl (by rw [hb]; exact d0) (Nat.le_refl _) (Nat.le_refl _)
  generalize hT1 : (T.setVm vm₁).pushCell { cls := cX, slots := kX.instanceTypes.map defaultValue, vm := .none } = T1 at X₁ st1
  have hcat : (Value.ref T.heap.size).category = 1 := rfl
  have hcellA : T1.heap[T.heap.size]? = some (freshCell cX kX) := by rw [← hT1]; exact State.heap_pushCell_size _ _
  have d3' : decode c.code (pc + 3) = .ok (.dup, 1) := by rw [hb]; exact d3
  obtain ⟨U, hsteps, hrun, hend, hW, hsame, ce, hce, hO⟩ := X₁.ctorThrow0 hexec htr (own := own) (cls := cls) (names := names) (ic := ic) hown' hcls hnames h (fun x hx => nomatch hx) hfX hkX hcellA (by rw [hhp, hT]; exact Nat.le_refl _)
    (g := { method := m, pc := pc + 4, locals := ls, stack := .ref T.heap.size :: .ref T.heap.size :: rest, locked := none }) rfl hsize rfl rfl (rest := rest) rfl
    (by rw [hb]; exact d4) (by rw [hb]; exact d7) hout hRframes (by simp only [List.map_cons, List.sum_cons, hcat]; omega) hlocks
  obtain ⟨f1, f2⟩ := vx_frame hsame
  rw [hhp] at f1 f2
  have hWs : s.WarmedH U.vm := State.WarmedH.trans hW0 hW
  have hcl : s.vm.findClass cls = some ce.cls := by
    have h9 := hO.cls
    rw [hvm] at h9
    exact h9
  have hall : s.sameButNew ({ U with vm := s.vm } : State) locs mc ms := by
    subst hA
    obtain ⟨e1, e2⟩ := hsame
    rw [State.setFrames_setFrames] at e1
    have h2 : (T.setVm s.vm).sameButNew ({ U with vm := s.vm } : State) [] (0 + 1) (0 + 6) := ⟨e1, e2⟩
    have h3 := X.same.trans h2
    rw [List.append_nil] at h3
    exact h3.mono hc hs
  refine ⟨U, ?_, .threw T.heap.size, hrun, hend, Or.inr ⟨T.heap.size, rfl, cls, ce, locs, hx U hWs.alike f1 (fun q hq => f2 q hq (fun z hz => nomatch hz)), hce, hO.vm, hcl, hWs, hall, hf⟩⟩
  refine st1 _ ?_
  show Steps p.tables e below (T1.setTop { method := m, pc := pc + 3, locals := ls, stack := .ref T.heap.size :: rest, locked := none }) _
  jvm_step X₁.here [X₁.here.top, hexec, d3', Value.category]
  exact hsteps
end Ends
section Bodies
variable {l : Launch}
theorem vx_ofW {y : MethodName} {ws ws' : List Cond} {rm : Room} {Pc : Array Value → State → Prop} {Qc : Array Value → State → Outcome → State → Prop} {XC : String → State → State → Prop} {mc ms : Nat} {free : Addr → Prop} {cc : ByteArray} {maxL : Nat} {ret : Option FieldType}
    (hy : plainName y.cls = true) (hw : ws = Cond.code y cc maxL ret :: ws')
    (body : ∀ p e s m args below meth c s₁, BodyLoose p l y (headSpec ws rm) cc maxL ret e s m args below meth c s₁ → c.maxLocals = maxL → (∀ x ∈ c.exceptionTable.toList, False) → Pc args s →
      W p l e (headSpec ws rm).room s m args below meth c s.heap [] 0 0 (vx_MQ below Qc XC args s mc ms free) (entryFrame m args maxL)) : vx_Met l y ws rm Pc Qc XC mc ms free := by
  refine MetFree.of_bodyS (code := cc) (maxLocals := maxL) (ret := ret) hy ?_ ?_
  · intro args s m h hn
    obtain ⟨meth, c, h1, h2, h3, h4, h5, h6, -, -⟩ := Cond.code_spec hn (atoms_spec (ws := ws) h _ (by rw [hw]; exact List.mem_cons_self))
    exact ⟨meth, c, h1, h2, h3, h4, h5, h6⟩
  · intro p e s m args below meth c s₁ B hml hP _
    have hh0 : s₁.heap = s.heap := by rw [B.state]; rfl
    have ht : ∀ x ∈ c.exceptionTable.toList, False := by
      obtain ⟨meth9, c9, h1, h2, -, -, -, -, h7, -⟩ := Cond.code_spec B.named (atoms_spec (ws := ws) B.pre _ (by rw [hw]; exact List.mem_cons_self))
      cases Option.some.inj (h1.symm.trans B.method)
      cases Option.some.inj (h2.symm.trans (Stand.of_body B).code)
      intro x hx
      rw [Array.isEmpty_iff.mp h7] at hx
      cases hx
    obtain ⟨t, a1, o, b1, b2, b3⟩ := body p e s m args below meth c s₁ B hml ht hP s₁ hh0 (Stand.of_body B)
    exact ⟨t, o, a1, b1, b2, b3⟩
/-- the table of a body with handlers -/
theorem vx_table {p : Program} {x y : MethodName} {S : Spec} {cc bytes : ByteArray} {maxL maxL' : Nat} {ret ret' : Option FieldType} {e : Env} {s s₁ : State} {m : MethodId} {args : Array Value} {below : List Frame} {meth : Method} {c : Code} {hh : List (Nat × Nat × Nat × Nat)}
    (B : BodyLoose p l y S cc maxL ret e s m args below meth c s₁) (h : (Cond.codeWith y bytes maxL' ret' hh).before args s = true) : c.exceptionTable.toList = tableOf hh := by
  obtain ⟨m9, meth9, c9, hn9, h1, h2, -, -, h6, -⟩ := Cond.codeWith_spec h
  cases Option.some.inj (hn9.symm.trans B.named)
  cases Option.some.inj (h1.symm.trans B.method)
  cases Option.some.inj (h2.symm.trans (Stand.of_body B).code)
  rw [← h6, table_eq]
end Bodies
end VXA
/-! ===== END ===== -/
/-! ===== BEGIN a static call of a method with an exception table ===== -/
section VXS
variable {p : Program} {l : Launch} {e : Env} {R : Room} {s : State} {m : MethodId} {args : Array Value} {below : List Frame} {meth : Method} {c : Code} {T : State} {H : Heap} {locs : List Loc} {cells slots : Nat}
abbrev vx_CSW (R : Room) (s : State) (args : Array Value) (own : String) (index : Nat) (y : MethodName) (bytes : ByteArray) (maxL : Nat) (ret : Option FieldType) (hh : List (Nat × Nat × Nat × Nat)) (ws : List Cond) (rm : Room) (mc ms n : Nat) : Prop :=
  (rm.cells = mc ∧ rm.slots = ms ∧ rm.frames + 1 ≤ R.frames ∧ 8 + (maxL + 11) + rm.locals ≤ R.locals ∧ (∀ w ∈ ws, ∀ (a' : Array Value) (U : State), s.WarmedH U.vm → w.before a' U = true) ∧ Cond.codeWith y bytes maxL ret hh ∈ ws) ∧
  (Cond.codeWith y bytes maxL ret hh).before args s = true ∧ (Cond.initialized y.cls).before args s = true ∧ (y.cls ≠ "java/lang/invoke/MethodHandle" ∧ y.cls ≠ "java/lang/invoke/VarHandle") ∧
  (∀ sig, parseMethodDescriptor y.desc = some sig → n = sig.parameters.length) ∧ (Cond.methodLink own index y).before args s = true ∧ (Cond.static y).before args s = true
theorem vx_cwSW {own : String} {index maxL mc ms : Nat} {y : MethodName} {bytes : ByteArray} {ret : Option FieldType} {hh : List (Nat × Nat × Nat × Nat)} {Ts ws ws' : List Cond} {rm : Room} (n : Nat) (ht : ∀ w ∈ Ts, w.before args s = true) (hT : GoodIn Ts (va_wsS own index y ws)) (hw : ws = Cond.codeWith y bytes maxL ret hh :: ws') (hrc : rm.cells = mc) (hrs : rm.slots = ms)
    (hd : y.cls ≠ "java/lang/invoke/MethodHandle" ∧ y.cls ≠ "java/lang/invoke/VarHandle" ∧ (parseMethodDescriptor y.desc).map (fun d => d.parameters.length) = some n) (hR : rm.frames + 1 ≤ R.frames ∧ 8 + (maxL + 11) + rm.locals ≤ R.locals) :
    vx_CSW R s args own index y bytes maxL ret hh ws rm mc ms n := by
  have ok : ∀ w ∈ va_wsS own index y ws, w.before args s = true := fun w h => ht w (hT w h).1
  have hG : GoodIn Ts ws := fun w h => hT w (by unfold va_wsS; exact List.mem_append_right _ h)
  have hc : Cond.codeWith y bytes maxL ret hh ∈ ws := by rw [hw]; exact List.mem_cons_self
  refine ⟨⟨hrc, hrs, hR.1, hR.2, pay_in ht hG, hc⟩, ht _ (hG _ hc).1, ok _ (by simp [va_wsS]), ⟨hd.1, hd.2.1⟩, fun sig h => ?_, ok _ (by simp [va_wsS]), ok _ (by simp [va_wsS])⟩
  have h2 := hd.2.2
  rw [h] at h2
  exact (Option.some.inj h2).symm
theorem vx_callSW (X : Stand p l e R s m args below meth c T locs cells slots) (hexec : p.tables.exec = Jvm.exec) {own : String} {index : Nat} {y : MethodName} {bytes : ByteArray} {maxL : Nat} {ret : Option FieldType} {hh : List (Nat × Nat × Nat × Nat)}
    (hown : s.vm.findClass own = some m.cls) (hlink : (Cond.methodLink own index y).before args s = true) (hstat : (Cond.static y).before args s = true) (hinit : (Cond.initialized y.cls).before args s = true)
    (hcode : (Cond.codeWith y bytes maxL ret hh).before args s = true) (hy : y.cls ≠ "java/lang/invoke/MethodHandle" ∧ y.cls ≠ "java/lang/invoke/VarHandle")
    {W9 : Nat} {Pre : Pt → Array Value → Prop} {Post : Pt → Array Value → Option Value → Pt → Prop} (hK : Back l R p e below s args y 3 W9 Pre Post)
    {g : JFrame} (hg : g.method = m) (hsize : g.locals.size = c.maxLocals) {argsL rest : List Value} (hlen : ∀ sig, parseMethodDescriptor y.desc = some sig → argsL.length = sig.parameters.length)
    (hstack : g.stack = argsL.reverse ++ rest) (hW : 2 * g.monitorRoom + (rest.map fun v => v.category).sum ≤ W9) (hdg : decode c.code g.pc = .ok (.invokestatic index, 3))
    (hpre : ∀ vm₁, s.WarmedH vm₁ → Pre ⟨T.setVm vm₁, locs, cells, slots⟩ argsL.toArray) :
    ∃ (v : Option Value) (vm₁ : Vm) (B : Pt), s.WarmedH vm₁ ∧ Stand p l e R s m args below meth c B.U B.locs B.cells B.slots ∧ Post ⟨T.setVm vm₁, locs, cells, slots⟩ argsL.toArray v B ∧
      ∀ target, Steps p.tables e below (B.U.setTop { g with pc := g.pc + 3, stack := v.toList ++ rest }) target → Steps p.tables e below (T.setTop g) target := by
  obtain ⟨mk, methM, cM, hnamed, hmethM, -, -, -, -, -, -, hsigM⟩ := Cond.codeWith_spec hcode
  have hstatic : methM.isStatic = true := Cond.static_spec hnamed hmethM hstat
  obtain ⟨kP, hkP, -⟩ := className_of_methodNamed hnamed
  have hinitP : kP.init = .initialized := Cond.initialized_spec (findClass_of_methodNamed hnamed) hkP hinit
  obtain ⟨vm₁, X₁, hstep₁⟩ := X.invokestatic hexec hown hlink hnamed hmethM hstatic hkP hinitP hy (g := g) hg (argsL := argsL) (rest := rest) (hlen _ hsigM) hstack hdg
  obtain ⟨v, B, X', hpost, hsteps⟩ := hK m meth c ⟨T.setVm vm₁, locs, cells, slots⟩ { g with stack := rest } (.invokestatic index) mk argsL.toArray X₁ hg hsize hdg hW (X₁.named hnamed) (hpre vm₁ X₁.warmed)
  exact ⟨v, vm₁, B, X₁.warmed, X', hpost, fun target h => hstep₁ _ fun acts => by rw [doInvoke_state]; exact hsteps.trans h⟩
theorem vx_runSW {y : MethodName} {bytes cc : ByteArray} {maxL nL mc ms n index : Nat} {ret : Option FieldType} {hh : List (Nat × Nat × Nat × Nat)} {ws : List Cond} {rm : Room} {Pc : Array Value → State → Prop} {Qc : Array Value → State → Outcome → State → Prop} {free : Addr → Prop} {Ts : List Cond} {own : String} {As rest : List Value} {g : JFrame}
    (S : CallFix p m c cc nL s args Ts own) (hM : Met l y ws rm Pc Qc mc ms free) (cw : vx_CSW R s args own index y bytes maxL ret hh ws rm mc ms n) (hp : PreS s H Pc As)
    (hg : g.method = m) (hn : As.length = n) (hsize : g.locals.size = nL) (hstack : g.stack = As.reverse ++ rest) (hW : 2 * g.monitorRoom + (rest.map fun v => v.category).sum ≤ 8) (hdg : decode cc g.pc = .ok (.invokestatic index, 3)) (hf : cells + mc ≤ R.cells ∧ slots + ms ≤ R.slots) :
    va_Run p l e R s m args below meth c H locs cells slots mc ms g rest (Qc As.toArray) (free) := by
  obtain ⟨⟨hrc, hrs, hfr, hlo, hws, hcw⟩, hcode, hini, hy, hlen, hl, hstt⟩ := cw
  have hK : Back l R p e below s args y 3 8 (PreOf R mc ms Pc) (PostOf Qc mc ms free) := va_backW (hh := hh) (bytes := bytes) (maxL := maxL) (ret := ret) hM hp.1 hrc hrs hfr hlo hws hcw (fun a' U hW => word_at hW (Or.inl (by first | rfl | simp [Cond.onTables, Cond.keeps, Cond.steady])) hini)
  obtain ⟨hx, hb, hml, ho, -⟩ := S
  intro T hT X
  obtain ⟨v, vm₁, ⟨U', l2, c2, s2⟩, hW₁, X', ⟨g', mk, t, L, e1, e2, hq, h1, hL, h2, h3⟩, st⟩ := vx_callSW X hx (hh := hh) (bytes := bytes) (maxL := maxL) (ret := ret) ho hl hstt hini hcode hy hK hg (hsize.trans hml.symm) (argsL := As) (rest := rest) (fun sig h => hn.trans (hlen sig h)) hstack hW (by rw [hb]; exact hdg)
    (fun vm₁ hW₁ => ⟨hf.1, hf.2, hp.2 (T.setVm vm₁) hT hW₁⟩)
  dsimp only [Pt.U, Pt.locs, Pt.cells, Pt.slots] at X' e1 e2 h1 h2 h3 st
  subst h1; subst h2; subst h3
  exact ⟨v, (T.setVm vm₁).calling g' mk As.toArray, t, U', L, hT, X', hL, e1, e2, hq, st⟩
/-- a thing of a world lies in the heap -/
theorem vx_lt {D : va_G} {cl : List vw_C} {ws : va_W} {H1 : Heap} (h : va_P D cl ws H1) {k : Nat} {q : Nat × va_E} (hk : ws[k]? = some q) : q.1 < H1.size := (h k q hk).lt
end VXS
/-! ===== END ===== -/
end
section
-- ===== PART A: goes FIRST, ahead of the names: the tables' words, and 'selects' of the private methods out of them =====
/-- a private method of a class that the tables say can be made, by its rows of tables_1 -/
def lw_okq (q : MethodName × Nat) : Prop := (q.1.cls ≠ "java/lang/invoke/MethodHandle" ∧ q.1.cls ≠ "java/lang/invoke/VarHandle") ∧ Cond.instantiable q.1.cls q.2 ∈ tables_1 ∧ Cond.privateMethod q.1 ∈ tables_1 ∧ Cond.instanceMethod q.1 ∈ tables_1
theorem lw_p0 : lw_okq (⟨"ChanceBench$Maker", "insert", "(IIJ)V"⟩, 4) := ⟨⟨by decide +kernel, by decide +kernel⟩, List.mem_of_getElem? (i := 70) (by decide +kernel), List.mem_of_getElem? (i := 266) (by decide +kernel), List.mem_of_getElem? (i := 267) (by decide +kernel)⟩
theorem lw_p1 : lw_okq (⟨"ChanceBench", "settle", "(I)Z"⟩, 9) := ⟨⟨by decide +kernel, by decide +kernel⟩, List.mem_of_getElem? (i := 18) (by decide +kernel), List.mem_of_getElem? (i := 274) (by decide +kernel), List.mem_of_getElem? (i := 275) (by decide +kernel)⟩
theorem lw_p2 : lw_okq (⟨"ChanceBench$Shelf", "placeOfAct", "(I)I"⟩, 7) := ⟨⟨by decide +kernel, by decide +kernel⟩, List.mem_of_getElem? (i := 26) (by decide +kernel), List.mem_of_getElem? (i := 332) (by decide +kernel), List.mem_of_getElem? (i := 333) (by decide +kernel)⟩
theorem lw_p3 : lw_okq (⟨"ChanceBench", "settleOfBoth", "(IIII)Z"⟩, 9) := ⟨⟨by decide +kernel, by decide +kernel⟩, List.mem_of_getElem? (i := 18) (by decide +kernel), List.mem_of_getElem? (i := 365) (by decide +kernel), List.mem_of_getElem? (i := 366) (by decide +kernel)⟩
theorem lw_p4 : lw_okq (⟨"ChanceBench", "addAll", "(LChanceBench$Law;J)V"⟩, 9) := ⟨⟨by decide +kernel, by decide +kernel⟩, List.mem_of_getElem? (i := 18) (by decide +kernel), List.mem_of_getElem? (i := 397) (by decide +kernel), List.mem_of_getElem? (i := 398) (by decide +kernel)⟩
theorem lw_p5 : lw_okq (⟨"ChanceBench$Difference", "note", "(IJ)V"⟩, 3) := ⟨⟨by decide +kernel, by decide +kernel⟩, List.mem_of_getElem? (i := 90) (by decide +kernel), List.mem_of_getElem? (i := 433) (by decide +kernel), List.mem_of_getElem? (i := 434) (by decide +kernel)⟩
theorem lw_p6 : lw_okq (⟨"ChanceBench", "heldUnless", "(I)I"⟩, 9) := ⟨⟨by decide +kernel, by decide +kernel⟩, List.mem_of_getElem? (i := 18) (by decide +kernel), List.mem_of_getElem? (i := 441) (by decide +kernel), List.mem_of_getElem? (i := 442) (by decide +kernel)⟩
theorem lw_p7 : lw_okq (⟨"ChanceBench$Joint", "pairLikes", "(LChanceBench$Law;LChanceBench$Law;)V"⟩, 7) := ⟨⟨by decide +kernel, by decide +kernel⟩, List.mem_of_getElem? (i := 106) (by decide +kernel), List.mem_of_getElem? (i := 475) (by decide +kernel), List.mem_of_getElem? (i := 476) (by decide +kernel)⟩
theorem lw_p8 : lw_okq (⟨"ChanceBench$Joint", "pairUp", "(LChanceBench$Law;ILChanceBench$Law;I)V"⟩, 7) := ⟨⟨by decide +kernel, by decide +kernel⟩, List.mem_of_getElem? (i := 106) (by decide +kernel), List.mem_of_getElem? (i := 484) (by decide +kernel), List.mem_of_getElem? (i := 485) (by decide +kernel)⟩
theorem lw_p9 : lw_okq (⟨"ChanceBench$Joint", "pairNorthwest", "(LChanceBench$Law;LChanceBench$Law;)V"⟩, 7) := ⟨⟨by decide +kernel, by decide +kernel⟩, List.mem_of_getElem? (i := 106) (by decide +kernel), List.mem_of_getElem? (i := 491) (by decide +kernel), List.mem_of_getElem? (i := 492) (by decide +kernel)⟩
theorem lw_p10 : lw_okq (⟨"ChanceBench$Dice", "extend", "(III)V"⟩, 9) := ⟨⟨by decide +kernel, by decide +kernel⟩, List.mem_of_getElem? (i := 159) (by decide +kernel), List.mem_of_getElem? (i := 512) (by decide +kernel), List.mem_of_getElem? (i := 513) (by decide +kernel)⟩
theorem lw_p11 : lw_okq (⟨"ChanceBench$Dice", "keep", "()V"⟩, 9) := ⟨⟨by decide +kernel, by decide +kernel⟩, List.mem_of_getElem? (i := 159) (by decide +kernel), List.mem_of_getElem? (i := 516) (by decide +kernel), List.mem_of_getElem? (i := 517) (by decide +kernel)⟩
theorem lw_p12 : lw_okq (⟨"ChanceBench$Dice", "leastThrowLeft", "()I"⟩, 9) := ⟨⟨by decide +kernel, by decide +kernel⟩, List.mem_of_getElem? (i := 159) (by decide +kernel), List.mem_of_getElem? (i := 520) (by decide +kernel), List.mem_of_getElem? (i := 521) (by decide +kernel)⟩
theorem lw_p13 : lw_okq (⟨"ChanceBench$Dice", "takeThrows", "(I[II)Z"⟩, 9) := ⟨⟨by decide +kernel, by decide +kernel⟩, List.mem_of_getElem? (i := 159) (by decide +kernel), List.mem_of_getElem? (i := 524) (by decide +kernel), List.mem_of_getElem? (i := 525) (by decide +kernel)⟩
theorem lw_p14 : lw_okq (⟨"ChanceBench$Dice", "indexOfThrow", "(I)I"⟩, 9) := ⟨⟨by decide +kernel, by decide +kernel⟩, List.mem_of_getElem? (i := 159) (by decide +kernel), List.mem_of_getElem? (i := 528) (by decide +kernel), List.mem_of_getElem? (i := 529) (by decide +kernel)⟩
theorem lw_p15 : lw_okq (⟨"ChanceBench$Dice", "giveBackThrows", "(I[II)V"⟩, 9) := ⟨⟨by decide +kernel, by decide +kernel⟩, List.mem_of_getElem? (i := 159) (by decide +kernel), List.mem_of_getElem? (i := 533) (by decide +kernel), List.mem_of_getElem? (i := 534) (by decide +kernel)⟩
def lw_privs_1 : List (MethodName × Nat) := [(⟨"ChanceBench$Maker", "insert", "(IIJ)V"⟩, 4), (⟨"ChanceBench", "settle", "(I)Z"⟩, 9), (⟨"ChanceBench$Shelf", "placeOfAct", "(I)I"⟩, 7), (⟨"ChanceBench", "settleOfBoth", "(IIII)Z"⟩, 9), (⟨"ChanceBench", "addAll", "(LChanceBench$Law;J)V"⟩, 9), (⟨"ChanceBench$Difference", "note", "(IJ)V"⟩, 3), (⟨"ChanceBench", "heldUnless", "(I)I"⟩, 9), (⟨"ChanceBench$Joint", "pairLikes", "(LChanceBench$Law;LChanceBench$Law;)V"⟩, 7), (⟨"ChanceBench$Joint", "pairUp", "(LChanceBench$Law;ILChanceBench$Law;I)V"⟩, 7), (⟨"ChanceBench$Joint", "pairNorthwest", "(LChanceBench$Law;LChanceBench$Law;)V"⟩, 7), (⟨"ChanceBench$Dice", "extend", "(III)V"⟩, 9), (⟨"ChanceBench$Dice", "keep", "()V"⟩, 9), (⟨"ChanceBench$Dice", "leastThrowLeft", "()I"⟩, 9), (⟨"ChanceBench$Dice", "takeThrows", "(I[II)Z"⟩, 9), (⟨"ChanceBench$Dice", "indexOfThrow", "(I)I"⟩, 9), (⟨"ChanceBench$Dice", "giveBackThrows", "(I[II)V"⟩, 9)]
theorem lw_r1 : ∀ q ∈ lw_privs_1, lw_okq q := List.forall_mem_cons.mpr ⟨lw_p0, List.forall_mem_cons.mpr ⟨lw_p1, List.forall_mem_cons.mpr ⟨lw_p2, List.forall_mem_cons.mpr ⟨lw_p3, List.forall_mem_cons.mpr ⟨lw_p4, List.forall_mem_cons.mpr ⟨lw_p5, List.forall_mem_cons.mpr ⟨lw_p6, List.forall_mem_cons.mpr ⟨lw_p7, List.forall_mem_cons.mpr ⟨lw_p8, List.forall_mem_cons.mpr ⟨lw_p9, List.forall_mem_cons.mpr ⟨lw_p10, List.forall_mem_cons.mpr ⟨lw_p11, List.forall_mem_cons.mpr ⟨lw_p12, List.forall_mem_cons.mpr ⟨lw_p13, List.forall_mem_cons.mpr ⟨lw_p14, List.forall_mem_cons.mpr ⟨lw_p15, fun _ h => absurd h List.not_mem_nil⟩⟩⟩⟩⟩⟩⟩⟩⟩⟩⟩⟩⟩⟩⟩⟩
theorem lw_p16 : lw_okq (⟨"ChanceBench", "judgedRing", "(I)J"⟩, 9) := ⟨⟨by decide +kernel, by decide +kernel⟩, List.mem_of_getElem? (i := 18) (by decide +kernel), List.mem_of_getElem? (i := 545) (by decide +kernel), List.mem_of_getElem? (i := 546) (by decide +kernel)⟩
theorem lw_p17 : lw_okq (⟨"java/lang/Throwable", "fillInStackTrace", "(I)Ljava/lang/Throwable;"⟩, 6) := ⟨⟨by decide +kernel, by decide +kernel⟩, List.mem_of_getElem? (i := 597) (by decide +kernel), List.mem_of_getElem? (i := 595) (by decide +kernel), List.mem_of_getElem? (i := 596) (by decide +kernel)⟩
theorem lw_p18 : lw_okq (⟨"ChanceBench", "lawOf", "(I)LChanceBench$Law;"⟩, 9) := ⟨⟨by decide +kernel, by decide +kernel⟩, List.mem_of_getElem? (i := 18) (by decide +kernel), List.mem_of_getElem? (i := 647) (by decide +kernel), List.mem_of_getElem? (i := 648) (by decide +kernel)⟩
theorem lw_p19 : lw_okq (⟨"ChanceBench", "growTo", "(LChanceBench$Law;I)V"⟩, 9) := ⟨⟨by decide +kernel, by decide +kernel⟩, List.mem_of_getElem? (i := 18) (by decide +kernel), List.mem_of_getElem? (i := 737) (by decide +kernel), List.mem_of_getElem? (i := 738) (by decide +kernel)⟩
theorem lw_p20 : lw_okq (⟨"ChanceBench$Tree", "splitOff", "(II)V"⟩, 6) := ⟨⟨by decide +kernel, by decide +kernel⟩, List.mem_of_getElem? (i := 134) (by decide +kernel), List.mem_of_getElem? (i := 746) (by decide +kernel), List.mem_of_getElem? (i := 747) (by decide +kernel)⟩
theorem lw_p21 : lw_okq (⟨"ChanceBenchModel", "four", "(I)V"⟩, 31) := ⟨⟨by decide +kernel, by decide +kernel⟩, List.mem_of_getElem? (i := 819) (by decide +kernel), List.mem_of_getElem? (i := 930) (by decide +kernel), List.mem_of_getElem? (i := 931) (by decide +kernel)⟩
theorem lw_p22 : lw_okq (⟨"ChanceBenchModel", "back", "(I[I[I)V"⟩, 31) := ⟨⟨by decide +kernel, by decide +kernel⟩, List.mem_of_getElem? (i := 819) (by decide +kernel), List.mem_of_getElem? (i := 942) (by decide +kernel), List.mem_of_getElem? (i := 943) (by decide +kernel)⟩
theorem lw_p23 : lw_okq (⟨"ChanceBenchModel", "begin", "()V"⟩, 31) := ⟨⟨by decide +kernel, by decide +kernel⟩, List.mem_of_getElem? (i := 819) (by decide +kernel), List.mem_of_getElem? (i := 954) (by decide +kernel), List.mem_of_getElem? (i := 955) (by decide +kernel)⟩
theorem lw_p24 : lw_okq (⟨"ChanceBenchModel", "used", "()I"⟩, 31) := ⟨⟨by decide +kernel, by decide +kernel⟩, List.mem_of_getElem? (i := 819) (by decide +kernel), List.mem_of_getElem? (i := 958) (by decide +kernel), List.mem_of_getElem? (i := 959) (by decide +kernel)⟩
theorem lw_p25 : lw_okq (⟨"ChanceBenchModel", "add", "(JJ)V"⟩, 31) := ⟨⟨by decide +kernel, by decide +kernel⟩, List.mem_of_getElem? (i := 819) (by decide +kernel), List.mem_of_getElem? (i := 962) (by decide +kernel), List.mem_of_getElem? (i := 963) (by decide +kernel)⟩
theorem lw_p26 : lw_okq (⟨"ChanceBenchModel", "put", "(I)Z"⟩, 31) := ⟨⟨by decide +kernel, by decide +kernel⟩, List.mem_of_getElem? (i := 819) (by decide +kernel), List.mem_of_getElem? (i := 968) (by decide +kernel), List.mem_of_getElem? (i := 969) (by decide +kernel)⟩
theorem lw_p27 : lw_okq (⟨"ChanceBenchModel", "isLaw", "(I)Z"⟩, 31) := ⟨⟨by decide +kernel, by decide +kernel⟩, List.mem_of_getElem? (i := 819) (by decide +kernel), List.mem_of_getElem? (i := 996) (by decide +kernel), List.mem_of_getElem? (i := 997) (by decide +kernel)⟩
theorem lw_p28 : lw_okq (⟨"ChanceBenchModel", "at", "(II)I"⟩, 31) := ⟨⟨by decide +kernel, by decide +kernel⟩, List.mem_of_getElem? (i := 819) (by decide +kernel), List.mem_of_getElem? (i := 1000) (by decide +kernel), List.mem_of_getElem? (i := 1001) (by decide +kernel)⟩
theorem lw_p29 : lw_okq (⟨"ChanceBenchModel", "no", "(II)Z"⟩, 31) := ⟨⟨by decide +kernel, by decide +kernel⟩, List.mem_of_getElem? (i := 819) (by decide +kernel), List.mem_of_getElem? (i := 1032) (by decide +kernel), List.mem_of_getElem? (i := 1033) (by decide +kernel)⟩
theorem lw_p30 : lw_okq (⟨"ChanceBenchModel", "throwsIf", "(Z)Z"⟩, 31) := ⟨⟨by decide +kernel, by decide +kernel⟩, List.mem_of_getElem? (i := 819) (by decide +kernel), List.mem_of_getElem? (i := 1036) (by decide +kernel), List.mem_of_getElem? (i := 1037) (by decide +kernel)⟩
theorem lw_p31 : lw_okq (⟨"ChanceBenchModel", "upTo", "(II)J"⟩, 31) := ⟨⟨by decide +kernel, by decide +kernel⟩, List.mem_of_getElem? (i := 819) (by decide +kernel), List.mem_of_getElem? (i := 1047) (by decide +kernel), List.mem_of_getElem? (i := 1048) (by decide +kernel)⟩
def lw_privs_2 : List (MethodName × Nat) := [(⟨"ChanceBench", "judgedRing", "(I)J"⟩, 9), (⟨"java/lang/Throwable", "fillInStackTrace", "(I)Ljava/lang/Throwable;"⟩, 6), (⟨"ChanceBench", "lawOf", "(I)LChanceBench$Law;"⟩, 9), (⟨"ChanceBench", "growTo", "(LChanceBench$Law;I)V"⟩, 9), (⟨"ChanceBench$Tree", "splitOff", "(II)V"⟩, 6), (⟨"ChanceBenchModel", "four", "(I)V"⟩, 31), (⟨"ChanceBenchModel", "back", "(I[I[I)V"⟩, 31), (⟨"ChanceBenchModel", "begin", "()V"⟩, 31), (⟨"ChanceBenchModel", "used", "()I"⟩, 31), (⟨"ChanceBenchModel", "add", "(JJ)V"⟩, 31), (⟨"ChanceBenchModel", "put", "(I)Z"⟩, 31), (⟨"ChanceBenchModel", "isLaw", "(I)Z"⟩, 31), (⟨"ChanceBenchModel", "at", "(II)I"⟩, 31), (⟨"ChanceBenchModel", "no", "(II)Z"⟩, 31), (⟨"ChanceBenchModel", "throwsIf", "(Z)Z"⟩, 31), (⟨"ChanceBenchModel", "upTo", "(II)J"⟩, 31)]
theorem lw_r2 : ∀ q ∈ lw_privs_2, lw_okq q := List.forall_mem_cons.mpr ⟨lw_p16, List.forall_mem_cons.mpr ⟨lw_p17, List.forall_mem_cons.mpr ⟨lw_p18, List.forall_mem_cons.mpr ⟨lw_p19, List.forall_mem_cons.mpr ⟨lw_p20, List.forall_mem_cons.mpr ⟨lw_p21, List.forall_mem_cons.mpr ⟨lw_p22, List.forall_mem_cons.mpr ⟨lw_p23, List.forall_mem_cons.mpr ⟨lw_p24, List.forall_mem_cons.mpr ⟨lw_p25, List.forall_mem_cons.mpr ⟨lw_p26, List.forall_mem_cons.mpr ⟨lw_p27, List.forall_mem_cons.mpr ⟨lw_p28, List.forall_mem_cons.mpr ⟨lw_p29, List.forall_mem_cons.mpr ⟨lw_p30, List.forall_mem_cons.mpr ⟨lw_p31, fun _ h => absurd h List.not_mem_nil⟩⟩⟩⟩⟩⟩⟩⟩⟩⟩⟩⟩⟩⟩⟩⟩
theorem lw_p32 : lw_okq (⟨"ChanceBenchModel", "first", "(I)J"⟩, 31) := ⟨⟨by decide +kernel, by decide +kernel⟩, List.mem_of_getElem? (i := 819) (by decide +kernel), List.mem_of_getElem? (i := 1055) (by decide +kernel), List.mem_of_getElem? (i := 1056) (by decide +kernel)⟩
theorem lw_p33 : lw_okq (⟨"ChanceBenchModel", "noTwo", "(III)Z"⟩, 31) := ⟨⟨by decide +kernel, by decide +kernel⟩, List.mem_of_getElem? (i := 819) (by decide +kernel), List.mem_of_getElem? (i := 1067) (by decide +kernel), List.mem_of_getElem? (i := 1068) (by decide +kernel)⟩
theorem lw_p34 : lw_okq (⟨"ChanceBenchModel", "over", "(II)J"⟩, 31) := ⟨⟨by decide +kernel, by decide +kernel⟩, List.mem_of_getElem? (i := 819) (by decide +kernel), List.mem_of_getElem? (i := 1087) (by decide +kernel), List.mem_of_getElem? (i := 1088) (by decide +kernel)⟩
theorem lw_p35 : lw_okq (⟨"ChanceBenchModel", "pairs0", "(IIJ)V"⟩, 31) := ⟨⟨by decide +kernel, by decide +kernel⟩, List.mem_of_getElem? (i := 819) (by decide +kernel), List.mem_of_getElem? (i := 1099) (by decide +kernel), List.mem_of_getElem? (i := 1100) (by decide +kernel)⟩
theorem lw_p36 : lw_okq (⟨"ChanceBenchModel", "openAt", "(II)I"⟩, 31) := ⟨⟨by decide +kernel, by decide +kernel⟩, List.mem_of_getElem? (i := 819) (by decide +kernel), List.mem_of_getElem? (i := 1111) (by decide +kernel), List.mem_of_getElem? (i := 1112) (by decide +kernel)⟩
theorem lw_p37 : lw_okq (⟨"ChanceBenchModel", "isAlone", "(I)Z"⟩, 31) := ⟨⟨by decide +kernel, by decide +kernel⟩, List.mem_of_getElem? (i := 819) (by decide +kernel), List.mem_of_getElem? (i := 1115) (by decide +kernel), List.mem_of_getElem? (i := 1116) (by decide +kernel)⟩
theorem lw_p38 : lw_okq (⟨"ChanceBenchModel", "plant", "(I)V"⟩, 31) := ⟨⟨by decide +kernel, by decide +kernel⟩, List.mem_of_getElem? (i := 819) (by decide +kernel), List.mem_of_getElem? (i := 1119) (by decide +kernel), List.mem_of_getElem? (i := 1120) (by decide +kernel)⟩
theorem lw_p39 : lw_okq (⟨"ChanceBenchModel", "digits", "(I)I"⟩, 31) := ⟨⟨by decide +kernel, by decide +kernel⟩, List.mem_of_getElem? (i := 819) (by decide +kernel), List.mem_of_getElem? (i := 1123) (by decide +kernel), List.mem_of_getElem? (i := 1124) (by decide +kernel)⟩
theorem lw_p40 : lw_okq (⟨"ChanceBenchModel", "way", "(IIII)Z"⟩, 31) := ⟨⟨by decide +kernel, by decide +kernel⟩, List.mem_of_getElem? (i := 819) (by decide +kernel), List.mem_of_getElem? (i := 1148) (by decide +kernel), List.mem_of_getElem? (i := 1149) (by decide +kernel)⟩
theorem lw_p41 : lw_okq (⟨"ChanceBenchModel", "least", "()I"⟩, 31) := ⟨⟨by decide +kernel, by decide +kernel⟩, List.mem_of_getElem? (i := 819) (by decide +kernel), List.mem_of_getElem? (i := 1152) (by decide +kernel), List.mem_of_getElem? (i := 1153) (by decide +kernel)⟩
theorem lw_p42 : lw_okq (⟨"ChanceBenchModel", "strike", "(III)Z"⟩, 31) := ⟨⟨by decide +kernel, by decide +kernel⟩, List.mem_of_getElem? (i := 819) (by decide +kernel), List.mem_of_getElem? (i := 1156) (by decide +kernel), List.mem_of_getElem? (i := 1157) (by decide +kernel)⟩
theorem lw_p43 : lw_okq (⟨"ChanceBenchModel", "order", "(I)I"⟩, 31) := ⟨⟨by decide +kernel, by decide +kernel⟩, List.mem_of_getElem? (i := 819) (by decide +kernel), List.mem_of_getElem? (i := 1160) (by decide +kernel), List.mem_of_getElem? (i := 1161) (by decide +kernel)⟩
theorem lw_p44 : lw_okq (⟨"ChanceBenchModel", "wins", "(II)J"⟩, 31) := ⟨⟨by decide +kernel, by decide +kernel⟩, List.mem_of_getElem? (i := 819) (by decide +kernel), List.mem_of_getElem? (i := 1172) (by decide +kernel), List.mem_of_getElem? (i := 1173) (by decide +kernel)⟩
def lw_privs_3 : List (MethodName × Nat) := [(⟨"ChanceBenchModel", "first", "(I)J"⟩, 31), (⟨"ChanceBenchModel", "noTwo", "(III)Z"⟩, 31), (⟨"ChanceBenchModel", "over", "(II)J"⟩, 31), (⟨"ChanceBenchModel", "pairs0", "(IIJ)V"⟩, 31), (⟨"ChanceBenchModel", "openAt", "(II)I"⟩, 31), (⟨"ChanceBenchModel", "isAlone", "(I)Z"⟩, 31), (⟨"ChanceBenchModel", "plant", "(I)V"⟩, 31), (⟨"ChanceBenchModel", "digits", "(I)I"⟩, 31), (⟨"ChanceBenchModel", "way", "(IIII)Z"⟩, 31), (⟨"ChanceBenchModel", "least", "()I"⟩, 31), (⟨"ChanceBenchModel", "strike", "(III)Z"⟩, 31), (⟨"ChanceBenchModel", "order", "(I)I"⟩, 31), (⟨"ChanceBenchModel", "wins", "(II)J"⟩, 31)]
theorem lw_r3 : ∀ q ∈ lw_privs_3, lw_okq q := List.forall_mem_cons.mpr ⟨lw_p32, List.forall_mem_cons.mpr ⟨lw_p33, List.forall_mem_cons.mpr ⟨lw_p34, List.forall_mem_cons.mpr ⟨lw_p35, List.forall_mem_cons.mpr ⟨lw_p36, List.forall_mem_cons.mpr ⟨lw_p37, List.forall_mem_cons.mpr ⟨lw_p38, List.forall_mem_cons.mpr ⟨lw_p39, List.forall_mem_cons.mpr ⟨lw_p40, List.forall_mem_cons.mpr ⟨lw_p41, List.forall_mem_cons.mpr ⟨lw_p42, List.forall_mem_cons.mpr ⟨lw_p43, List.forall_mem_cons.mpr ⟨lw_p44, fun _ h => absurd h List.not_mem_nil⟩⟩⟩⟩⟩⟩⟩⟩⟩⟩⟩⟩⟩
def lw_privs : List (MethodName × Nat) := lw_privs_1 ++ (lw_privs_2 ++ (lw_privs_3))
def lw_tbl : List Cond := k2_sels lw_privs ++ tables_1
theorem lw_privs_ok : ∀ q ∈ lw_privs, lw_okq q := by
  show ∀ q ∈ lw_privs_1 ++ (lw_privs_2 ++ (lw_privs_3)), lw_okq q
  exact List.forall_mem_append.mpr ⟨lw_r1, List.forall_mem_append.mpr ⟨lw_r2, lw_r3⟩⟩
-- ===== end of PART A; then your names; then what follows =====
end
section
/-! classes by number: their field tables; methods: name, code, locals, return type, depth of calls, cells and slots that are made -/
def cT0 : u_T := fun k => match k with
  | 0 => ("ChanceBench", "shelf", "LChanceBench$Shelf;", true)
  | 1 => ("ChanceBench", "tape", "LChanceBench$Tape;", true)
  | 2 => ("ChanceBench", "maker", "LChanceBench$Maker;", true)
  | 3 => ("ChanceBench", "difference", "LChanceBench$Difference;", true)
  | 4 => ("ChanceBench", "jointLaw", "LChanceBench$Joint;", true)
  | 5 => ("ChanceBench", "tree", "LChanceBench$Tree;", true)
  | 6 => ("ChanceBench", "dice", "LChanceBench$Dice;", true)
  | 7 => ("ChanceBench", "latestBound", "I", false)
  | _ => ("ChanceBench", "latestTaken", "I", false)
def cY0 : Nat → FieldType := fun k => match k with
  | 0 => .object "ChanceBench$Shelf"
  | 1 => .object "ChanceBench$Tape"
  | 2 => .object "ChanceBench$Maker"
  | 3 => .object "ChanceBench$Difference"
  | 4 => .object "ChanceBench$Joint"
  | 5 => .object "ChanceBench$Tree"
  | 6 => .object "ChanceBench$Dice"
  | 7 => .int
  | _ => .int
def cT1 : u_T := fun k => match k with
  | 0 => ("ChanceBench$Shelf", "laws", "[LChanceBench$Law;", true)
  | 1 => ("ChanceBench$Shelf", "actSlot", "[I", true)
  | 2 => ("ChanceBench$Shelf", "actAhead", "[LChanceBench$Law;", true)
  | 3 => ("ChanceBench$Shelf", "actMade", "[LChanceBench$Law;", true)
  | 4 => ("ChanceBench$Shelf", "oldest", "I", false)
  | 5 => ("ChanceBench$Shelf", "done", "I", false)
  | _ => ("ChanceBench$Shelf", "undone", "I", false)
def cY1 : Nat → FieldType := fun k => match k with
  | 0 => .array (.object "ChanceBench$Law")
  | 1 => .array .int
  | 2 => .array (.object "ChanceBench$Law")
  | 3 => .array (.object "ChanceBench$Law")
  | 4 => .int
  | 5 => .int
  | _ => .int
def cT2 : u_T := fun k => match k with
  | 0 => ("ChanceBench$Tape", "bytes", "[I", true)
  | _ => ("ChanceBench$Tape", "length", "I", false)
def cY2 : Nat → FieldType := fun k => match k with
  | 0 => .array .int
  | _ => .int
def cT3 : u_T := fun k => match k with
  | 0 => ("ChanceBench$Maker", "at", "[I", true)
  | 1 => ("ChanceBench$Maker", "weight", "[J", true)
  | 2 => ("ChanceBench$Maker", "size", "I", false)
  | _ => ("ChanceBench$Maker", "refused", "Z", false)
def cY3 : Nat → FieldType := fun k => match k with
  | 0 => .array .int
  | 1 => .array .long
  | 2 => .int
  | _ => .boolean
def cT4 : u_T := fun k => match k with
  | 0 => ("ChanceBench$Difference", "at", "[I", true)
  | 1 => ("ChanceBench$Difference", "by", "[J", true)
  | _ => ("ChanceBench$Difference", "length", "I", false)
def cY4 : Nat → FieldType := fun k => match k with
  | 0 => .array .int
  | 1 => .array .long
  | _ => .int
def cT5 : u_T := fun k => match k with
  | 0 => ("ChanceBench$Joint", "firstAt", "[I", true)
  | 1 => ("ChanceBench$Joint", "secondAt", "[I", true)
  | 2 => ("ChanceBench$Joint", "weight", "[J", true)
  | 3 => ("ChanceBench$Joint", "firstLeft", "[J", true)
  | 4 => ("ChanceBench$Joint", "secondLeft", "[J", true)
  | 5 => ("ChanceBench$Joint", "size", "I", false)
  | _ => ("ChanceBench$Joint", "whole", "J", false)
def cY5 : Nat → FieldType := fun k => match k with
  | 0 => .array .int
  | 1 => .array .int
  | 2 => .array .long
  | 3 => .array .long
  | 4 => .array .long
  | 5 => .int
  | _ => .long
def cT6 : u_T := fun k => match k with
  | 0 => ("ChanceBench$Tree", "rest", "[I", true)
  | 1 => ("ChanceBench$Tree", "digit", "[I", true)
  | 2 => ("ChanceBench$Tree", "length", "I", false)
  | 3 => ("ChanceBench$Tree", "whole", "I", false)
  | 4 => ("ChanceBench$Tree", "leaves", "I", false)
  | _ => ("ChanceBench$Tree", "openPlaces", "I", false)
def cY6 : Nat → FieldType := fun k => match k with
  | 0 => .array .int
  | 1 => .array .int
  | 2 => .int
  | 3 => .int
  | 4 => .int
  | _ => .int
def cT7 : u_T := fun k => match k with
  | 0 => ("ChanceBench$Dice", "kept", "[I", true)
  | 1 => ("ChanceBench$Dice", "first", "[I", true)
  | 2 => ("ChanceBench$Dice", "second", "[I", true)
  | 3 => ("ChanceBench$Dice", "throwsAt", "[I", true)
  | 4 => ("ChanceBench$Dice", "throwsLeft", "[I", true)
  | 5 => ("ChanceBench$Dice", "length", "I", false)
  | 6 => ("ChanceBench$Dice", "found", "I", false)
  | 7 => ("ChanceBench$Dice", "firstFaces", "I", false)
  | _ => ("ChanceBench$Dice", "secondFaces", "I", false)
def cY7 : Nat → FieldType := fun k => match k with
  | 0 => .array .int
  | 1 => .array .int
  | 2 => .array .int
  | 3 => .array .int
  | 4 => .array .int
  | 5 => .int
  | 6 => .int
  | 7 => .int
  | _ => .int
def cT8 : u_T := fun k => match k with
  | 0 => ("ChanceBenchModel", "thrown", "I", false)
  | 1 => ("ChanceBenchModel", "tape", "[B", true)
  | 2 => ("ChanceBenchModel", "length", "I", false)
  | 3 => ("ChanceBenchModel", "weight", "[I", true)
  | 4 => ("ChanceBenchModel", "whole", "[I", true)
  | 5 => ("ChanceBenchModel", "made", "[J", true)
  | 6 => ("ChanceBenchModel", "beyond", "Z", false)
  | 7 => ("ChanceBenchModel", "actSlot", "[I", true)
  | 8 => ("ChanceBenchModel", "hadWhole", "[I", true)
  | 9 => ("ChanceBenchModel", "hasWhole", "[I", true)
  | 10 => ("ChanceBenchModel", "had", "[I", true)
  | 11 => ("ChanceBenchModel", "has", "[I", true)
  | 12 => ("ChanceBenchModel", "done", "I", false)
  | 13 => ("ChanceBenchModel", "acts", "I", false)
  | 14 => ("ChanceBenchModel", "bound", "I", false)
  | 15 => ("ChanceBenchModel", "pairOne", "[I", true)
  | 16 => ("ChanceBenchModel", "pairTwo", "[I", true)
  | 17 => ("ChanceBenchModel", "pairWeight", "[J", true)
  | 18 => ("ChanceBenchModel", "leftOne", "[J", true)
  | 19 => ("ChanceBenchModel", "leftTwo", "[J", true)
  | 20 => ("ChanceBenchModel", "pairMany", "I", false)
  | 21 => ("ChanceBenchModel", "pairWhole", "J", false)
  | 22 => ("ChanceBenchModel", "rest", "[J", true)
  | 23 => ("ChanceBenchModel", "isLeaf", "[Z", true)
  | 24 => ("ChanceBenchModel", "taken", "I", false)
  | 25 => ("ChanceBenchModel", "dice", "[I", true)
  | 26 => ("ChanceBenchModel", "hand", "[I", true)
  | 27 => ("ChanceBenchModel", "sums", "[I", true)
  | 28 => ("ChanceBenchModel", "found", "I", false)
  | 29 => ("ChanceBenchModel", "facesOne", "I", false)
  | _ => ("ChanceBenchModel", "facesTwo", "I", false)
def cY8 : Nat → FieldType := fun k => match k with
  | 0 => .int
  | 1 => .array .byte
  | 2 => .int
  | 3 => .array .int
  | 4 => .array .int
  | 5 => .array .long
  | 6 => .boolean
  | 7 => .array .int
  | 8 => .array .int
  | 9 => .array .int
  | 10 => .array .int
  | 11 => .array .int
  | 12 => .int
  | 13 => .int
  | 14 => .int
  | 15 => .array .int
  | 16 => .array .int
  | 17 => .array .long
  | 18 => .array .long
  | 19 => .array .long
  | 20 => .int
  | 21 => .long
  | 22 => .array .long
  | 23 => .array .boolean
  | 24 => .int
  | 25 => .array .int
  | 26 => .array .int
  | 27 => .array .int
  | 28 => .int
  | 29 => .int
  | _ => .int
def cT9 : u_T := fun k => match k with
  | 0 => ("ChanceBench$Law", "at", "[I", true)
  | 1 => ("ChanceBench$Law", "weight", "[I", true)
  | _ => ("ChanceBench$Law", "whole", "I", true)
def cY9 : Nat → FieldType := fun k => match k with
  | 0 => .array .int
  | 1 => .array .int
  | _ => .int
abbrev cls : List vw_C := [("ChanceBench", cT0, 9), ("ChanceBench$Shelf", cT1, 7), ("ChanceBench$Tape", cT2, 2), ("ChanceBench$Maker", cT3, 4), ("ChanceBench$Difference", cT4, 3), ("ChanceBench$Joint", cT5, 7), ("ChanceBench$Tree", cT6, 6), ("ChanceBench$Dice", cT7, 9), ("ChanceBenchModel", cT8, 31), ("ChanceBench$Law", cT9, 3)]
theorem cn_0 : ∀ a, a < 9 → ∀ b, b < 9 → a ≠ b → (cT0 a).2.1 ≠ (cT0 b).2.1 := by decide +kernel
theorem ct_0 : ∀ k, k < 9 → parseFieldDescriptor (cT0 k).2.2.1 = some (cY0 k) := by decide +kernel
theorem ci_0 : ∀ w ∈ u_ws "ChanceBench" cT0 9, w ∈ lw_tbl := by decide +kernel
theorem cn_1 : ∀ a, a < 7 → ∀ b, b < 7 → a ≠ b → (cT1 a).2.1 ≠ (cT1 b).2.1 := by decide +kernel
theorem ct_1 : ∀ k, k < 7 → parseFieldDescriptor (cT1 k).2.2.1 = some (cY1 k) := by decide +kernel
theorem ci_1 : ∀ w ∈ u_ws "ChanceBench$Shelf" cT1 7, w ∈ lw_tbl := by decide +kernel
theorem cn_2 : ∀ a, a < 2 → ∀ b, b < 2 → a ≠ b → (cT2 a).2.1 ≠ (cT2 b).2.1 := by decide +kernel
theorem ct_2 : ∀ k, k < 2 → parseFieldDescriptor (cT2 k).2.2.1 = some (cY2 k) := by decide +kernel
theorem ci_2 : ∀ w ∈ u_ws "ChanceBench$Tape" cT2 2, w ∈ lw_tbl := by decide +kernel
theorem cn_3 : ∀ a, a < 4 → ∀ b, b < 4 → a ≠ b → (cT3 a).2.1 ≠ (cT3 b).2.1 := by decide +kernel
theorem ct_3 : ∀ k, k < 4 → parseFieldDescriptor (cT3 k).2.2.1 = some (cY3 k) := by decide +kernel
theorem ci_3 : ∀ w ∈ u_ws "ChanceBench$Maker" cT3 4, w ∈ lw_tbl := by decide +kernel
theorem cn_4 : ∀ a, a < 3 → ∀ b, b < 3 → a ≠ b → (cT4 a).2.1 ≠ (cT4 b).2.1 := by decide +kernel
theorem ct_4 : ∀ k, k < 3 → parseFieldDescriptor (cT4 k).2.2.1 = some (cY4 k) := by decide +kernel
theorem ci_4 : ∀ w ∈ u_ws "ChanceBench$Difference" cT4 3, w ∈ lw_tbl := by decide +kernel
theorem cn_5 : ∀ a, a < 7 → ∀ b, b < 7 → a ≠ b → (cT5 a).2.1 ≠ (cT5 b).2.1 := by decide +kernel
theorem ct_5 : ∀ k, k < 7 → parseFieldDescriptor (cT5 k).2.2.1 = some (cY5 k) := by decide +kernel
theorem ci_5 : ∀ w ∈ u_ws "ChanceBench$Joint" cT5 7, w ∈ lw_tbl := by decide +kernel
theorem cn_6 : ∀ a, a < 6 → ∀ b, b < 6 → a ≠ b → (cT6 a).2.1 ≠ (cT6 b).2.1 := by decide +kernel
theorem ct_6 : ∀ k, k < 6 → parseFieldDescriptor (cT6 k).2.2.1 = some (cY6 k) := by decide +kernel
theorem ci_6 : ∀ w ∈ u_ws "ChanceBench$Tree" cT6 6, w ∈ lw_tbl := by decide +kernel
theorem cn_7 : ∀ a, a < 9 → ∀ b, b < 9 → a ≠ b → (cT7 a).2.1 ≠ (cT7 b).2.1 := by decide +kernel
theorem ct_7 : ∀ k, k < 9 → parseFieldDescriptor (cT7 k).2.2.1 = some (cY7 k) := by decide +kernel
theorem ci_7 : ∀ w ∈ u_ws "ChanceBench$Dice" cT7 9, w ∈ lw_tbl := by decide +kernel
theorem cn_8 : ∀ a, a < 31 → ∀ b, b < 31 → a ≠ b → (cT8 a).2.1 ≠ (cT8 b).2.1 := by decide +kernel
theorem ct_8 : ∀ k, k < 31 → parseFieldDescriptor (cT8 k).2.2.1 = some (cY8 k) := by decide +kernel
theorem ci_8 : ∀ w ∈ u_ws "ChanceBenchModel" cT8 31, w ∈ lw_tbl := by decide +kernel
theorem cn_9 : ∀ a, a < 3 → ∀ b, b < 3 → a ≠ b → (cT9 a).2.1 ≠ (cT9 b).2.1 := by decide +kernel
theorem ct_9 : ∀ k, k < 3 → parseFieldDescriptor (cT9 k).2.2.1 = some (cY9 k) := by decide +kernel
theorem ci_9 : ∀ w ∈ u_ws "ChanceBench$Law" cT9 3, w ∈ lw_tbl := by decide +kernel
abbrev MI : Type := MethodName × ByteArray × Nat × Option FieldType × Nat × Nat × Nat
abbrev M_B_init : MI := (⟨"ChanceBench", "<init>", "()V"⟩, prog_1_method_1_code, 1, none, 2, 28, 3884)
abbrev M_S_init : MI := (⟨"ChanceBench$Shelf", "<init>", "()V"⟩, prog_7_method_1_code, 1, none, 1, 4, 106)
abbrev M_T_init : MI := (⟨"ChanceBench$Tape", "<init>", "()V"⟩, prog_8_method_1_code, 1, none, 1, 1, 200)
abbrev M_K_init : MI := (⟨"ChanceBench$Maker", "<init>", "()V"⟩, prog_6_method_1_code, 1, none, 1, 2, 48)
abbrev M_F_init : MI := (⟨"ChanceBench$Difference", "<init>", "()V"⟩, prog_3_method_1_code, 1, none, 1, 2, 96)
abbrev M_J_init : MI := (⟨"ChanceBench$Joint", "<init>", "()V"⟩, prog_4_method_1_code, 1, none, 1, 5, 264)
abbrev M_R_init : MI := (⟨"ChanceBench$Tree", "<init>", "()V"⟩, prog_9_method_1_code, 1, none, 1, 2, 48)
abbrev M_D_init : MI := (⟨"ChanceBench$Dice", "<init>", "()V"⟩, prog_2_method_1_code, 1, none, 1, 5, 3084)
abbrev M_B_feed : MI := (⟨"ChanceBench", "feed", "(IIIII)I"⟩, prog_1_method_2_code, 6, (some .int), 1, 0, 0)
abbrev M_T_hasRoom : MI := (⟨"ChanceBench$Tape", "hasRoom", "()Z"⟩, prog_8_method_3_code, 1, (some .boolean), 0, 0, 0)
abbrev M_T_write : MI := (⟨"ChanceBench$Tape", "write", "(I)V"⟩, prog_8_method_4_code, 3, none, 0, 0, 0)
abbrev M_T_length : MI := (⟨"ChanceBench$Tape", "length", "()I"⟩, prog_8_method_2_code, 1, (some .int), 0, 0, 0)
abbrev M_B_end : MI := (⟨"ChanceBench", "end", "(I)Z"⟩, prog_1_method_3_code, 2, (some .boolean), 1, 0, 0)
abbrev M_T_cut : MI := (⟨"ChanceBench$Tape", "cut", "(I)Z"⟩, prog_8_method_5_code, 2, (some .boolean), 0, 0, 0)
abbrev M_B_sheet : MI := (⟨"ChanceBench", "sheet", "(III)Z"⟩, prog_1_method_4_code, 5, (some .boolean), 4, 3, 51)
abbrev M_K_clear : MI := (⟨"ChanceBench$Maker", "clear", "()V"⟩, prog_6_method_2_code, 1, none, 0, 0, 0)
abbrev M_T_byteAt : MI := (⟨"ChanceBench$Tape", "byteAt", "(I)I"⟩, prog_8_method_7_code, 2, (some .int), 0, 0, 0)
abbrev M_K_add : MI := (⟨"ChanceBench$Maker", "add", "(JJ)V"⟩, prog_6_method_3_code, 6, none, 1, 0, 0)
abbrev M_B_placeIn : MI := (⟨"ChanceBench", "placeIn", "([III)I"⟩, prog_1_method_55_code, 6, (some .int), 0, 0, 0)
abbrev M_K_insert : MI := (⟨"ChanceBench$Maker", "insert", "(IIJ)V"⟩, prog_6_method_4_code, 6, none, 0, 0, 0)
abbrev M_T_empty : MI := (⟨"ChanceBench$Tape", "empty", "()V"⟩, prog_8_method_6_code, 1, none, 0, 0, 0)
abbrev M_B_settle : MI := (⟨"ChanceBench", "settle", "(I)Z"⟩, prog_1_method_38_code, 3, (some .boolean), 3, 3, 51)
abbrev M_S_hasSlot : MI := (⟨"ChanceBench$Shelf", "hasSlot", "(I)Z"⟩, prog_7_method_2_code, 2, (some .boolean), 0, 0, 0)
abbrev M_K_made : MI := (⟨"ChanceBench$Maker", "made", "()LChanceBench$Law;"⟩, prog_6_method_5_code, 8, (some (.object "ChanceBench$Law")), 2, 3, 51)
abbrev M_B_commonDivisor : MI := (⟨"ChanceBench", "commonDivisor", "(JJ)J"⟩, prog_1_method_49_code, 11, (some .long), 1, 0, 0)
abbrev M_Math_absJ : MI := (⟨"java/lang/Math", "abs", "(J)J"⟩, prog_14_method_61_code, 2, (some .long), 0, 0, 0)
abbrev M_Math_maxJ : MI := (⟨"java/lang/Math", "max", "(JJ)J"⟩, prog_14_method_66_code, 4, (some .long), 0, 0, 0)
abbrev M_L_init : MI := (⟨"ChanceBench$Law", "<init>", "([I[II)V"⟩, prog_5_method_1_code, 4, none, 1, 0, 0)
abbrev M_S_put : MI := (⟨"ChanceBench$Shelf", "put", "(ILChanceBench$Law;)V"⟩, prog_7_method_7_code, 4, none, 1, 0, 0)
abbrev M_S_placeOfAct : MI := (⟨"ChanceBench$Shelf", "placeOfAct", "(I)I"⟩, prog_7_method_10_code, 2, (some .int), 0, 0, 0)
abbrev M_B_wheel : MI := (⟨"ChanceBench", "wheel", "(III)Z"⟩, prog_1_method_5_code, 5, (some .boolean), 4, 3, 51)
abbrev M_B_urn : MI := (⟨"ChanceBench", "urn", "(IIIIZ)Z"⟩, prog_1_method_6_code, 10, (some .boolean), 4, 3, 51)
abbrev M_B_isWithin : MI := (⟨"ChanceBench", "isWithin", "(III)Z"⟩, prog_1_method_51_code, 3, (some .boolean), 0, 0, 0)
abbrev M_B_choices : MI := (⟨"ChanceBench", "choices", "(II)J"⟩, prog_1_method_53_code, 5, (some .long), 0, 0, 0)
abbrev M_B_power : MI := (⟨"ChanceBench", "power", "(II)J"⟩, prog_1_method_54_code, 5, (some .long), 0, 0, 0)
abbrev M_B_coin : MI := (⟨"ChanceBench", "coin", "(III)Z"⟩, prog_1_method_7_code, 4, (some .boolean), 4, 3, 51)
abbrev M_B_isShare : MI := (⟨"ChanceBench", "isShare", "(III)Z"⟩, prog_1_method_52_code, 3, (some .boolean), 1, 0, 0)
abbrev M_B_sum : MI := (⟨"ChanceBench", "sum", "(III)Z"⟩, prog_1_method_8_code, 4, (some .boolean), 5, 3, 51)
abbrev M_B_settleOfBoth : MI := (⟨"ChanceBench", "settleOfBoth", "(IIII)Z"⟩, prog_1_method_39_code, 9, (some .boolean), 4, 3, 51)
abbrev M_S_lawIn : MI := (⟨"ChanceBench$Shelf", "lawIn", "(I)LChanceBench$Law;"⟩, prog_7_method_3_code, 2, (some (.object "ChanceBench$Law")), 1, 0, 0)
abbrev M_B_joined : MI := (⟨"ChanceBench", "joined", "(III)I"⟩, prog_1_method_40_code, 3, (some .int), 1, 0, 0)
abbrev M_Math_min : MI := (⟨"java/lang/Math", "min", "(II)I"⟩, prog_14_method_69_code, 2, (some .int), 0, 0, 0)
abbrev M_Math_max : MI := (⟨"java/lang/Math", "max", "(II)I"⟩, prog_14_method_65_code, 2, (some .int), 0, 0, 0)
abbrev M_Int_signum : MI := (⟨"java/lang/Integer", "signum", "(I)I"⟩, prog_13_method_56_code, 1, (some .int), 0, 0, 0)
abbrev M_B_times : MI := (⟨"ChanceBench", "times", "(IIII)Z"⟩, prog_1_method_9_code, 7, (some .boolean), 4, 3, 51)
abbrev M_B_of : MI := (⟨"ChanceBench", "of", "(IIII)Z"⟩, prog_1_method_10_code, 5, (some .boolean), 5, 3, 51)
abbrev M_B_mix : MI := (⟨"ChanceBench", "mix", "(IIIII)Z"⟩, prog_1_method_11_code, 8, (some .boolean), 4, 3, 51)
abbrev M_B_addAll : MI := (⟨"ChanceBench", "addAll", "(LChanceBench$Law;J)V"⟩, prog_1_method_41_code, 5, none, 2, 0, 0)
abbrev M_B_given : MI := (⟨"ChanceBench", "given", "(IIII)Z"⟩, prog_1_method_12_code, 7, (some .boolean), 4, 3, 51)
abbrev M_B_undo : MI := (⟨"ChanceBench", "undo", "()Z"⟩, prog_1_method_13_code, 1, (some .boolean), 2, 0, 0)
abbrev M_S_takeBack : MI := (⟨"ChanceBench$Shelf", "takeBack", "()Z"⟩, prog_7_method_8_code, 2, (some .boolean), 1, 0, 0)
abbrev M_B_redo : MI := (⟨"ChanceBench", "redo", "()Z"⟩, prog_1_method_14_code, 1, (some .boolean), 2, 0, 0)
abbrev M_S_doAgain : MI := (⟨"ChanceBench$Shelf", "doAgain", "()Z"⟩, prog_7_method_9_code, 2, (some .boolean), 1, 0, 0)
abbrev M_B_values : MI := (⟨"ChanceBench", "values", "(I)I"⟩, prog_1_method_15_code, 3, (some .int), 2, 0, 0)
abbrev M_B_above : MI := (⟨"ChanceBench", "above", "(II)I"⟩, prog_1_method_23_code, 5, (some .int), 2, 0, 0)
abbrev M_F_take : MI := (⟨"ChanceBench$Difference", "take", "(LChanceBench$Law;LChanceBench$Law;)V"⟩, prog_3_method_2_code, 6, none, 1, 0, 0)
abbrev M_F_note : MI := (⟨"ChanceBench$Difference", "note", "(IJ)V"⟩, prog_3_method_3_code, 4, none, 0, 0, 0)
abbrev M_F_leastNotAbove : MI := (⟨"ChanceBench$Difference", "leastNotAbove", "()I"⟩, prog_3_method_7_code, 4, (some .int), 0, 0, 0)
abbrev M_B_heldUnless : MI := (⟨"ChanceBench", "heldUnless", "(I)I"⟩, prog_1_method_44_code, 2, (some .int), 0, 0, 0)
abbrev M_B_spread : MI := (⟨"ChanceBench", "spread", "(II)I"⟩, prog_1_method_24_code, 5, (some .int), 2, 0, 0)
abbrev M_F_ofMeans : MI := (⟨"ChanceBench$Difference", "ofMeans", "()J"⟩, prog_3_method_6_code, 4, (some .long), 0, 0, 0)
abbrev M_F_leastMoreSpread : MI := (⟨"ChanceBench$Difference", "leastMoreSpread", "()I"⟩, prog_3_method_8_code, 9, (some .int), 0, 0, 0)
abbrev M_B_bound : MI := (⟨"ChanceBench", "bound", "()I"⟩, prog_1_method_25_code, 1, (some .int), 0, 0, 0)
abbrev M_B_joint : MI := (⟨"ChanceBench", "joint", "(III)I"⟩, prog_1_method_26_code, 6, (some .int), 4, 0, 0)
abbrev M_J_make : MI := (⟨"ChanceBench$Joint", "make", "(LChanceBench$Law;LChanceBench$Law;Z)V"⟩, prog_4_method_4_code, 4, none, 3, 0, 0)
abbrev M_B_product : MI := (⟨"ChanceBench", "product", "(LChanceBench$Law;LChanceBench$Law;)J"⟩, prog_1_method_47_code, 2, (some .long), 0, 0, 0)
abbrev M_J_fill : MI := (⟨"ChanceBench$Joint", "fill", "([JLChanceBench$Law;I)V"⟩, prog_4_method_5_code, 4, none, 0, 0, 0)
abbrev M_J_pairLikes : MI := (⟨"ChanceBench$Joint", "pairLikes", "(LChanceBench$Law;LChanceBench$Law;)V"⟩, prog_4_method_6_code, 5, none, 2, 0, 0)
abbrev M_L_indexOf : MI := (⟨"ChanceBench$Law", "indexOf", "(I)I"⟩, prog_5_method_2_code, 3, (some .int), 1, 0, 0)
abbrev M_J_pairUp : MI := (⟨"ChanceBench$Joint", "pairUp", "(LChanceBench$Law;ILChanceBench$Law;I)V"⟩, prog_4_method_8_code, 7, none, 1, 0, 0)
abbrev M_Math_minJ : MI := (⟨"java/lang/Math", "min", "(JJ)J"⟩, prog_14_method_70_code, 4, (some .long), 0, 0, 0)
abbrev M_J_pairNorthwest : MI := (⟨"ChanceBench$Joint", "pairNorthwest", "(LChanceBench$Law;LChanceBench$Law;)V"⟩, prog_4_method_7_code, 5, none, 2, 0, 0)
abbrev M_J_size : MI := (⟨"ChanceBench$Joint", "size", "()I"⟩, prog_4_method_2_code, 1, (some .int), 0, 0, 0)
abbrev M_B_taken : MI := (⟨"ChanceBench", "taken", "()I"⟩, prog_1_method_32_code, 1, (some .int), 0, 0, 0)
abbrev M_B_pairs : MI := (⟨"ChanceBench", "pairs", "(III)I"⟩, prog_1_method_33_code, 5, (some .int), 16, 0, 0)
abbrev M_D_search : MI := (⟨"ChanceBench$Dice", "search", "(LChanceBench$Law;II)V"⟩, prog_2_method_5_code, 6, none, 15, 0, 0)
abbrev M_D_keep : MI := (⟨"ChanceBench$Dice", "keep", "()V"⟩, prog_2_method_11_code, 3, none, 0, 0, 0)
abbrev M_D_leastThrowLeft : MI := (⟨"ChanceBench$Dice", "leastThrowLeft", "()I"⟩, prog_2_method_7_code, 2, (some .int), 0, 0, 0)
abbrev M_D_takeThrows : MI := (⟨"ChanceBench$Dice", "takeThrows", "(I[II)Z"⟩, prog_2_method_8_code, 6, (some .boolean), 3, 0, 0)
abbrev M_D_indexOfThrow : MI := (⟨"ChanceBench$Dice", "indexOfThrow", "(I)I"⟩, prog_2_method_10_code, 3, (some .int), 1, 0, 0)
abbrev M_D_giveBackThrows : MI := (⟨"ChanceBench$Dice", "giveBackThrows", "(I[II)V"⟩, prog_2_method_9_code, 6, none, 2, 0, 0)
abbrev M_D_found : MI := (⟨"ChanceBench$Dice", "found", "()I"⟩, prog_2_method_2_code, 1, (some .int), 0, 0, 0)
abbrev M_B_ring : MI := (⟨"ChanceBench", "ring", "(I)J"⟩, prog_1_method_36_code, 4, (some .long), 8, 1, 6)
abbrev M_B_judgedRing : MI := (⟨"ChanceBench", "judgedRing", "(I)J"⟩, prog_1_method_45_code, 14, (some .long), 7, 1, 6)
abbrev M_B_winsOf : MI := (⟨"ChanceBench", "winsOf", "(LChanceBench$Law;LChanceBench$Law;)J"⟩, prog_1_method_46_code, 8, (some .long), 0, 0, 0)
abbrev M_B_isLess : MI := (⟨"ChanceBench", "isLess", "(JJJJ)Z"⟩, prog_1_method_50_code, 17, (some .boolean), 0, 0, 0)
abbrev M_B_part : MI := (⟨"ChanceBench", "part", "(JJI)J"⟩, prog_1_method_48_code, 7, (some .long), 6, 1, 6)
abbrev M_B_count : MI := (⟨"ChanceBench", "count", "(I)I"⟩, prog_1_method_37_code, 2, (some .int), 1, 0, 0)
abbrev M_S_laws : MI := (⟨"ChanceBench$Shelf", "laws", "()I"⟩, prog_7_method_4_code, 3, (some .int), 0, 0, 0)
abbrev M_S_done : MI := (⟨"ChanceBench$Shelf", "done", "()I"⟩, prog_7_method_5_code, 1, (some .int), 0, 0, 0)
abbrev M_S_undone : MI := (⟨"ChanceBench$Shelf", "undone", "()I"⟩, prog_7_method_6_code, 1, (some .int), 0, 0, 0)
abbrev M_B_value : MI := (⟨"ChanceBench", "value", "(II)I"⟩, prog_1_method_16_code, 4, (some .int), 7, 2, 12)
abbrev M_B_lawOf : MI := (⟨"ChanceBench", "lawOf", "(I)LChanceBench$Law;"⟩, prog_1_method_42_code, 3, (some (.object "ChanceBench$Law")), 6, 1, 6)
abbrev M_B_chance : MI := (⟨"ChanceBench", "chance", "(III)J"⟩, prog_1_method_17_code, 6, (some .long), 7, 2, 12)
abbrev M_B_below : MI := (⟨"ChanceBench", "below", "(III)J"⟩, prog_1_method_18_code, 5, (some .long), 7, 2, 12)
abbrev M_L_weightUpTo : MI := (⟨"ChanceBench$Law", "weightUpTo", "(I)J"⟩, prog_5_method_3_code, 5, (some .long), 0, 0, 0)
abbrev M_B_mean : MI := (⟨"ChanceBench", "mean", "(II)J"⟩, prog_1_method_19_code, 4, (some .long), 7, 2, 12)
abbrev M_L_total : MI := (⟨"ChanceBench$Law", "total", "()J"⟩, prog_5_method_4_code, 4, (some .long), 0, 0, 0)
abbrev M_B_variance : MI := (⟨"ChanceBench", "variance", "(II)J"⟩, prog_1_method_20_code, 8, (some .long), 7, 2, 12)
abbrev M_L_totalOfSquares : MI := (⟨"ChanceBench$Law", "totalOfSquares", "()J"⟩, prog_5_method_5_code, 4, (some .long), 0, 0, 0)
abbrev M_B_apart : MI := (⟨"ChanceBench", "apart", "(III)J"⟩, prog_1_method_21_code, 6, (some .long), 7, 3, 18)
abbrev M_F_size : MI := (⟨"ChanceBench$Difference", "size", "()J"⟩, prog_3_method_4_code, 4, (some .long), 1, 0, 0)
abbrev M_B_far : MI := (⟨"ChanceBench", "far", "(III)J"⟩, prog_1_method_22_code, 6, (some .long), 7, 3, 18)
abbrev M_F_area : MI := (⟨"ChanceBench$Difference", "area", "()J"⟩, prog_3_method_5_code, 6, (some .long), 1, 0, 0)
abbrev M_B_pair : MI := (⟨"ChanceBench", "pair", "(III)J"⟩, prog_1_method_27_code, 4, (some .long), 7, 1, 6)
abbrev M_J_weightOf : MI := (⟨"ChanceBench$Joint", "weightOf", "(II)J"⟩, prog_4_method_9_code, 4, (some .long), 0, 0, 0)
abbrev M_J_whole : MI := (⟨"ChanceBench$Joint", "whole", "()J"⟩, prog_4_method_3_code, 1, (some .long), 0, 0, 0)
abbrev M_B_open : MI := (⟨"ChanceBench", "open", "(II)I"⟩, prog_1_method_28_code, 4, (some .int), 7, 2, 12)
abbrev M_B_growTo : MI := (⟨"ChanceBench", "growTo", "(LChanceBench$Law;I)V"⟩, prog_1_method_43_code, 4, none, 6, 1, 6)
abbrev M_R_plant : MI := (⟨"ChanceBench$Tree", "plant", "(LChanceBench$Law;)V"⟩, prog_9_method_4_code, 3, none, 1, 0, 0)
abbrev M_R_splitOff : MI := (⟨"ChanceBench$Tree", "splitOff", "(II)V"⟩, prog_9_method_6_code, 5, none, 0, 0, 0)
abbrev M_R_grow : MI := (⟨"ChanceBench$Tree", "grow", "()V"⟩, prog_9_method_5_code, 1, none, 1, 0, 0)
abbrev M_R_openPlaces : MI := (⟨"ChanceBench$Tree", "openPlaces", "()I"⟩, prog_9_method_3_code, 1, (some .int), 0, 0, 0)
abbrev M_B_leaf : MI := (⟨"ChanceBench", "leaf", "(III)Z"⟩, prog_1_method_29_code, 5, (some .boolean), 7, 2, 12)
abbrev M_R_hasLeaf : MI := (⟨"ChanceBench$Tree", "hasLeaf", "(I)Z"⟩, prog_9_method_7_code, 2, (some .boolean), 0, 0, 0)
abbrev M_B_lots : MI := (⟨"ChanceBench", "lots", "(III)J"⟩, prog_1_method_30_code, 10, (some .long), 7, 3, 18)
abbrev M_B_draw : MI := (⟨"ChanceBench", "draw", "(I)I"⟩, prog_1_method_31_code, 7, (some .int), 7, 1, 6)
abbrev M_R_leaves : MI := (⟨"ChanceBench$Tree", "leaves", "()I"⟩, prog_9_method_2_code, 1, (some .int), 0, 0, 0)
abbrev M_T_bitAt : MI := (⟨"ChanceBench$Tape", "bitAt", "(I)I"⟩, prog_8_method_8_code, 2, (some .int), 1, 0, 0)
abbrev M_R_indexOfLeaf : MI := (⟨"ChanceBench$Tree", "indexOfLeaf", "(I)I"⟩, prog_9_method_8_code, 4, (some .int), 0, 0, 0)
abbrev M_B_face : MI := (⟨"ChanceBench", "face", "(III)I"⟩, prog_1_method_34_code, 4, (some .int), 6, 1, 6)
abbrev M_D_hasFace : MI := (⟨"ChanceBench$Dice", "hasFace", "(III)Z"⟩, prog_2_method_3_code, 4, (some .boolean), 0, 0, 0)
abbrev M_D_faceOf : MI := (⟨"ChanceBench$Dice", "faceOf", "(III)I"⟩, prog_2_method_4_code, 4, (some .int), 1, 0, 0)
abbrev M_B_beats : MI := (⟨"ChanceBench", "beats", "(III)J"⟩, prog_1_method_35_code, 6, (some .long), 7, 3, 18)
abbrev M_M_init : MI := (⟨"ChanceBenchModel", "<init>", "()V"⟩, prog_11_method_1_code, 1, none, 1, 19, 171804)
abbrev M_M_thrown : MI := (⟨"ChanceBenchModel", "thrown", "()I"⟩, prog_11_method_2_code, 1, (some .int), 0, 0, 0)
abbrev M_M_feed : MI := (⟨"ChanceBenchModel", "feed", "(IIIII)I"⟩, prog_11_method_4_code, 6, (some .int), 1, 0, 0)
abbrev M_M_four : MI := (⟨"ChanceBenchModel", "four", "(I)V"⟩, prog_11_method_5_code, 3, none, 0, 0, 0)
abbrev M_M_end : MI := (⟨"ChanceBenchModel", "end", "(I)Z"⟩, prog_11_method_6_code, 2, (some .boolean), 0, 0, 0)
abbrev M_M_undo : MI := (⟨"ChanceBenchModel", "undo", "()Z"⟩, prog_11_method_15_code, 1, (some .boolean), 1, 0, 0)
abbrev M_M_back : MI := (⟨"ChanceBenchModel", "back", "(I[I[I)V"⟩, prog_11_method_14_code, 6, none, 0, 0, 0)
abbrev M_M_redo : MI := (⟨"ChanceBenchModel", "redo", "()Z"⟩, prog_11_method_16_code, 1, (some .boolean), 1, 0, 0)
abbrev M_M_sheet : MI := (⟨"ChanceBenchModel", "sheet", "(III)Z"⟩, prog_11_method_17_code, 6, (some .boolean), 2, 0, 0)
abbrev M_M_begin : MI := (⟨"ChanceBenchModel", "begin", "()V"⟩, prog_11_method_8_code, 2, none, 0, 0, 0)
abbrev M_M_used : MI := (⟨"ChanceBenchModel", "used", "()I"⟩, prog_11_method_7_code, 2, (some .int), 0, 0, 0)
abbrev M_M_add : MI := (⟨"ChanceBenchModel", "add", "(JJ)V"⟩, prog_11_method_9_code, 5, none, 0, 0, 0)
abbrev M_M_put : MI := (⟨"ChanceBenchModel", "put", "(I)Z"⟩, prog_11_method_13_code, 8, (some .boolean), 1, 0, 0)
abbrev M_M_common : MI := (⟨"ChanceBenchModel", "common", "(JJ)J"⟩, prog_11_method_10_code, 10, (some .long), 0, 0, 0)
abbrev M_M_wheel : MI := (⟨"ChanceBenchModel", "wheel", "(III)Z"⟩, prog_11_method_18_code, 5, (some .boolean), 2, 0, 0)
abbrev M_M_urn : MI := (⟨"ChanceBenchModel", "urn", "(IIIIZ)Z"⟩, prog_11_method_20_code, 10, (some .boolean), 2, 0, 0)
abbrev M_M_choose : MI := (⟨"ChanceBenchModel", "choose", "(II)J"⟩, prog_11_method_19_code, 5, (some .long), 0, 0, 0)
abbrev M_M_coin : MI := (⟨"ChanceBenchModel", "coin", "(III)Z"⟩, prog_11_method_21_code, 4, (some .boolean), 2, 0, 0)
abbrev M_M_sum : MI := (⟨"ChanceBenchModel", "sum", "(III)Z"⟩, prog_11_method_22_code, 6, (some .boolean), 2, 0, 0)
abbrev M_M_isLaw : MI := (⟨"ChanceBenchModel", "isLaw", "(I)Z"⟩, prog_11_method_11_code, 2, (some .boolean), 0, 0, 0)
abbrev M_M_at : MI := (⟨"ChanceBenchModel", "at", "(II)I"⟩, prog_11_method_12_code, 3, (some .int), 0, 0, 0)
abbrev M_M_times : MI := (⟨"ChanceBenchModel", "times", "(IIII)Z"⟩, prog_11_method_23_code, 6, (some .boolean), 2, 0, 0)
abbrev M_M_of : MI := (⟨"ChanceBenchModel", "of", "(IIII)Z"⟩, prog_11_method_24_code, 7, (some .boolean), 2, 0, 0)
abbrev M_M_mix : MI := (⟨"ChanceBenchModel", "mix", "(IIIII)Z"⟩, prog_11_method_25_code, 7, (some .boolean), 2, 0, 0)
abbrev M_M_given : MI := (⟨"ChanceBenchModel", "given", "(IIII)Z"⟩, prog_11_method_26_code, 6, (some .boolean), 2, 0, 0)
abbrev M_M_values : MI := (⟨"ChanceBenchModel", "values", "(I)I"⟩, prog_11_method_27_code, 4, (some .int), 1, 0, 0)
abbrev M_M_value : MI := (⟨"ChanceBenchModel", "value", "(II)I"⟩, prog_11_method_28_code, 5, (some .int), 1, 0, 0)
abbrev M_M_chance : MI := (⟨"ChanceBenchModel", "chance", "(III)J"⟩, prog_11_method_31_code, 4, (some .long), 2, 0, 0)
abbrev M_M_no : MI := (⟨"ChanceBenchModel", "no", "(II)Z"⟩, prog_11_method_30_code, 3, (some .boolean), 1, 0, 0)
abbrev M_M_throwsIf : MI := (⟨"ChanceBenchModel", "throwsIf", "(Z)Z"⟩, prog_11_method_3_code, 2, (some .boolean), 0, 0, 0)
abbrev M_M_part : MI := (⟨"ChanceBenchModel", "part", "(JJI)J"⟩, prog_11_method_29_code, 7, (some .long), 1, 0, 0)
abbrev M_M_below : MI := (⟨"ChanceBenchModel", "below", "(III)J"⟩, prog_11_method_33_code, 4, (some .long), 2, 0, 0)
abbrev M_M_upTo : MI := (⟨"ChanceBenchModel", "upTo", "(II)J"⟩, prog_11_method_32_code, 6, (some .long), 1, 0, 0)
abbrev M_M_mean : MI := (⟨"ChanceBenchModel", "mean", "(II)J"⟩, prog_11_method_35_code, 3, (some .long), 2, 0, 0)
abbrev M_M_first : MI := (⟨"ChanceBenchModel", "first", "(I)J"⟩, prog_11_method_34_code, 5, (some .long), 1, 0, 0)
abbrev M_M_variance : MI := (⟨"ChanceBenchModel", "variance", "(II)J"⟩, prog_11_method_36_code, 7, (some .long), 2, 0, 0)
abbrev M_M_apart : MI := (⟨"ChanceBenchModel", "apart", "(III)J"⟩, prog_11_method_39_code, 7, (some .long), 2, 0, 0)
abbrev M_M_noTwo : MI := (⟨"ChanceBenchModel", "noTwo", "(III)Z"⟩, prog_11_method_37_code, 4, (some .boolean), 1, 0, 0)
abbrev M_M_size : MI := (⟨"ChanceBenchModel", "size", "(J)J"⟩, prog_11_method_38_code, 2, (some .long), 0, 0, 0)
abbrev M_M_far : MI := (⟨"ChanceBenchModel", "far", "(III)J"⟩, prog_11_method_40_code, 11, (some .long), 2, 0, 0)
abbrev M_M_above : MI := (⟨"ChanceBenchModel", "above", "(II)I"⟩, prog_11_method_41_code, 8, (some .int), 1, 0, 0)
abbrev M_M_spread : MI := (⟨"ChanceBenchModel", "spread", "(II)I"⟩, prog_11_method_43_code, 4, (some .int), 2, 0, 0)
abbrev M_M_over : MI := (⟨"ChanceBenchModel", "over", "(II)J"⟩, prog_11_method_42_code, 6, (some .long), 1, 0, 0)
abbrev M_M_bound : MI := (⟨"ChanceBenchModel", "bound", "()I"⟩, prog_11_method_44_code, 1, (some .int), 0, 0, 0)
abbrev M_M_joint : MI := (⟨"ChanceBenchModel", "joint", "(III)I"⟩, prog_11_method_46_code, 11, (some .int), 1, 0, 0)
abbrev M_M_pairs0 : MI := (⟨"ChanceBenchModel", "pairs0", "(IIJ)V"⟩, prog_11_method_45_code, 5, none, 0, 0, 0)
abbrev M_M_pair : MI := (⟨"ChanceBenchModel", "pair", "(III)J"⟩, prog_11_method_47_code, 5, (some .long), 2, 0, 0)
abbrev M_M_open : MI := (⟨"ChanceBenchModel", "open", "(II)I"⟩, prog_11_method_52_code, 3, (some .int), 3, 0, 0)
abbrev M_M_openAt : MI := (⟨"ChanceBenchModel", "openAt", "(II)I"⟩, prog_11_method_51_code, 5, (some .int), 2, 0, 0)
abbrev M_M_isAlone : MI := (⟨"ChanceBenchModel", "isAlone", "(I)Z"⟩, prog_11_method_49_code, 3, (some .boolean), 1, 0, 0)
abbrev M_M_plant : MI := (⟨"ChanceBenchModel", "plant", "(I)V"⟩, prog_11_method_48_code, 3, none, 1, 0, 0)
abbrev M_M_digits : MI := (⟨"ChanceBenchModel", "digits", "(I)I"⟩, prog_11_method_50_code, 4, (some .int), 0, 0, 0)
abbrev M_M_leaf : MI := (⟨"ChanceBenchModel", "leaf", "(III)Z"⟩, prog_11_method_53_code, 5, (some .boolean), 2, 0, 0)
abbrev M_M_lots : MI := (⟨"ChanceBenchModel", "lots", "(III)J"⟩, prog_11_method_54_code, 7, (some .long), 3, 0, 0)
abbrev M_M_draw : MI := (⟨"ChanceBenchModel", "draw", "(I)I"⟩, prog_11_method_55_code, 8, (some .int), 2, 0, 0)
abbrev M_M_taken : MI := (⟨"ChanceBenchModel", "taken", "()I"⟩, prog_11_method_56_code, 1, (some .int), 0, 0, 0)
abbrev M_M_pairs : MI := (⟨"ChanceBenchModel", "pairs", "(III)I"⟩, prog_11_method_61_code, 8, (some .int), 2, 0, 0)
abbrev M_M_way : MI := (⟨"ChanceBenchModel", "way", "(IIII)Z"⟩, prog_11_method_59_code, 9, (some .boolean), 1, 0, 0)
abbrev M_M_least : MI := (⟨"ChanceBenchModel", "least", "()I"⟩, prog_11_method_58_code, 2, (some .int), 0, 0, 0)
abbrev M_M_strike : MI := (⟨"ChanceBenchModel", "strike", "(III)Z"⟩, prog_11_method_57_code, 7, (some .boolean), 0, 0, 0)
abbrev M_M_order : MI := (⟨"ChanceBenchModel", "order", "(I)I"⟩, prog_11_method_60_code, 3, (some .int), 0, 0, 0)
abbrev M_M_face : MI := (⟨"ChanceBenchModel", "face", "(III)I"⟩, prog_11_method_62_code, 4, (some .int), 1, 0, 0)
abbrev M_M_beats : MI := (⟨"ChanceBenchModel", "beats", "(III)J"⟩, prog_11_method_64_code, 4, (some .long), 2, 0, 0)
abbrev M_M_wins : MI := (⟨"ChanceBenchModel", "wins", "(II)J"⟩, prog_11_method_63_code, 8, (some .long), 1, 0, 0)
abbrev M_M_ring : MI := (⟨"ChanceBenchModel", "ring", "(I)J"⟩, prog_11_method_66_code, 14, (some .long), 2, 0, 0)
abbrev M_M_isLess : MI := (⟨"ChanceBenchModel", "isLess", "(JJJJ)Z"⟩, prog_11_method_65_code, 23, (some .boolean), 0, 0, 0)
abbrev M_M_count : MI := (⟨"ChanceBenchModel", "count", "(I)I"⟩, prog_11_method_67_code, 4, (some .int), 0, 0, 0)
abbrev M_D_extend (j : Nat) : MI := (⟨"ChanceBench$Dice", "extend", "(III)V"⟩, prog_2_method_6_code, 5, none, j + 4, 0, 0)
end
section
/-! THE ABSTRACT MACHINE. Values: an int, a long (as whole numbers), a reference (segment, place) or null. Cells: an object (class number, fields), an array of numbers (kind 0 int, 1 long, 2 byte, 3 boolean; length; contents), an array of laws. A heap: its size, its segments. -/
abbrev AV : Type := Int ⊕ (Int ⊕ Option (Nat × Nat))
abbrev vi (z : Int) : AV := .inl z
abbrev vl (z : Int) : AV := .inr (.inl z)
abbrev vr (s k : Nat) : AV := .inr (.inr (some (s, k)))
abbrev vo (r : Option (Nat × Nat)) : AV := .inr (.inr r)
abbrev vn : AV := .inr (.inr none)
abbrev AC : Type := (Nat × List AV) ⊕ ((Nat × Nat × (Nat → Int)) ⊕ (Nat × (Nat → Option (Nat × Nat))))
abbrev ob (ci : Nat) (fs : List AV) : AC := .inl (ci, fs)
abbrev ar (ty n : Nat) (f : Nat → Int) : AC := .inr (.inl (ty, n, f))
abbrev rs (n : Nat) (g : Nat → Option (Nat × Nat)) : AC := .inr (.inr (n, g))
abbrev SG : Type := List (Option AC)
abbrev HT : Type := Nat × List SG
def off (s : Nat) : Nat := match s with
  | 0 => 0
  | 1 => 1
  | 2 => 6
  | 3 => 8
  | 4 => 11
  | 5 => 14
  | 6 => 20
  | 7 => 23
  | 8 => 29
  | _ => 49
def adr (base : Nat) (q : Nat × Nat) : Nat := base + off q.1 + q.2
def hgs : List SG → Nat → Nat → Option AC
  | [], _, _ => none
  | l :: _, 0, k => match l[k]? with
    | some c => c
    | none => none
  | _ :: r, s + 1, k => hgs r s k
def hss : List SG → Nat → Nat → AC → List SG
  | [], _, _, _ => []
  | l :: r, 0, k, c => l.set k (some c) :: r
  | l :: r, s + 1, k, c => l :: hss r s k c
def hps : List SG → Nat → Option AC → List SG
  | [], _, _ => []
  | l :: r, 0, c => (l ++ [c]) :: r
  | l :: r, s + 1, c => l :: hps r s c
def hln : List SG → Nat → Option Nat
  | [], _ => none
  | l :: _, 0 => some l.length
  | _ :: r, s + 1 => hln r s
def hget (h : HT) (s k : Nat) : Option AC := hgs h.2 s k
def hset (h : HT) (s k : Nat) (c : AC) : HT := (h.1, hss h.2 s k c)
theorem hgs_eq : ∀ (h : List SG) (s k : Nat) (c0 c : AC), hgs h s k = some c0 → hgs (hss h s k c) s k = some c
  | [], _, _, _, _, h => by simp [hgs] at h
  | l :: r, 0, k, c0, c, h => by
    have hk : k < l.length := by
      rcases Nat.lt_or_ge k l.length with q | q
      · exact q
      · simp [hgs, List.getElem?_eq_none q] at h
    simp [hgs, hss, hk]
  | l :: r, s + 1, k, c0, c, h => hgs_eq r s k c0 c h
theorem hgs_ne : ∀ (h : List SG) (s k s' k' : Nat) (c : AC), (s', k') ≠ (s, k) → hgs (hss h s k c) s' k' = hgs h s' k'
  | [], _, _, _, _, _, _ => rfl
  | l :: r, 0, k, 0, k', c, h => by
    have hk : k ≠ k' := fun e => h (by rw [e])
    simp [hgs, hss, List.getElem?_set_ne hk]
  | l :: r, 0, k, s' + 1, k', c, h => rfl
  | l :: r, s + 1, k, 0, k', c, h => rfl
  | l :: r, s + 1, k, s' + 1, k', c, h => hgs_ne r s k s' k' c (fun e => h (by simp only [Prod.mk.injEq] at e ⊢; exact ⟨by omega, e.2⟩))
theorem hgs_ps_ne : ∀ (h : List SG) (s s' k' n : Nat) (c : Option AC), hln h s = some n → (s', k') ≠ (s, n) → hgs (hps h s c) s' k' = hgs h s' k'
  | [], _, _, _, _, _, h, _ => by simp [hln] at h
  | l :: r, 0, 0, k', n, c, h, h2 => by
    simp only [hln, Option.some.injEq] at h
    have hk : k' ≠ l.length := fun e => h2 (by rw [e, h])
    rcases Nat.lt_or_ge k' l.length with q | q
    · simp [hgs, hps, List.getElem?_append_left q]
    · simp [hgs, hps, List.getElem?_eq_none q, List.getElem?_eq_none (show (l ++ [c]).length ≤ k' by simp; omega)]
  | l :: r, 0, s' + 1, k', n, c, h, h2 => rfl
  | l :: r, s + 1, 0, k', n, c, h, h2 => rfl
  | l :: r, s + 1, s' + 1, k', n, c, h, h2 => hgs_ps_ne r s s' k' n c h (fun e => h2 (by simp only [Prod.mk.injEq] at e ⊢; exact ⟨by omega, e.2⟩))
theorem hgs_ps_eq : ∀ (h : List SG) (s n : Nat) (c : Option AC), hln h s = some n → hgs (hps h s c) s n = c
  | [], _, _, _, h => by simp [hln] at h
  | l :: r, 0, n, c, h => by
    simp only [hln, Option.some.injEq] at h
    subst h
    simp [hgs, hps]
  | l :: r, s + 1, n, c, h => hgs_ps_eq r s n c h
/-- ranges -/
def inT (ty : Nat) (z : Int) : Prop := match ty with
  | 0 => -2147483648 ≤ z ∧ z ≤ 2147483647
  | 1 => -9223372036854775808 ≤ z ∧ z ≤ 9223372036854775807
  | 2 => -128 ≤ z ∧ z ≤ 127
  | _ => 0 ≤ z ∧ z ≤ 1
abbrev I32 (z : Int) : Prop := -2147483648 ≤ z ∧ z ≤ 2147483647
abbrev I64 (z : Int) : Prop := -9223372036854775808 ≤ z ∧ z ≤ 9223372036854775807
def okV (v : AV) : Prop := match v with
  | .inl z => I32 z
  | .inr (.inl z) => I64 z
  | .inr (.inr _) => True
def okC (c : AC) : Prop := match c with
  | .inl o => ∀ v ∈ o.2, okV v
  | .inr (.inl a) => a.1 ≤ 3 ∧ a.2.1 ≤ 2147483647 ∧ ∀ j, inT a.1 (a.2.2 j)
  | .inr (.inr a) => a.1 ≤ 2147483647
/-- launch, class numbers and slots, array classes, the first address -/
abbrev GT : Type := Launch × va_G × (Nat → ClassId) × Nat
def conc (base : Nat) (v : AV) : Value := match v with
  | .inl z => .int (Int32.ofInt z)
  | .inr (.inl z) => .long (Int64.ofInt z)
  | .inr (.inr r) => va_rf (r.map (adr base))
def conE (G : GT) (c : AC) : va_E := match c with
  | .inl o => .inr (o.1, o.2.map (conc G.2.2.2))
  | .inr (.inl a) => .inl (G.2.2.1 a.1, a.2.1, if a.1 = 1 then .inr (.inl (fun j => Int64.ofInt (a.2.2 j))) else .inl (fun j => Int32.ofInt (a.2.2 j)))
  | .inr (.inr a) => .inl (G.2.2.1 4, a.1, .inr (.inr (.inr (.inr (fun j => (a.2 j).map (adr G.2.2.2))))))
def tyG (G : GT) : List (ClassId × FieldType) := [(G.2.2.1 0, .int), (G.2.2.1 1, .long), (G.2.2.1 2, .byte), (G.2.2.1 3, .boolean), (G.2.2.1 4, .object "ChanceBench$Law")]
def okP (s k : Nat) : Prop := s ≤ 9 ∧ (s < 9 → k < off (s + 1) - off s)
def Rep (G : GT) (h : HT) (H : Heap) : Prop := H.size = G.2.2.2 + h.1 ∧ ∀ (s k : Nat) (c : AC), hget h s k = some c → okP s k ∧ okC c ∧ va_at G.2.1 cls (adr G.2.2.2 (s, k), conE G c) H
abbrev gA (G : GT) : Nat → Prop := fun q => G.2.2.2 ≤ q
theorem okP_inj {base s k s' k' : Nat} (h : okP s k) (h' : okP s' k') (e : adr base (s, k) = adr base (s', k')) : (s, k) = (s', k') := by
  have e2 : off s + k = off s' + k' := by simp only [adr] at e; omega
  clear e
  obtain ⟨a, b⟩ := h
  obtain ⟨a', b'⟩ := h'
  have c : ∀ s : Nat, s ≤ 9 → s = 0 ∨ s = 1 ∨ s = 2 ∨ s = 3 ∨ s = 4 ∨ s = 5 ∨ s = 6 ∨ s = 7 ∨ s = 8 ∨ s = 9 := fun s h => by omega
  rcases c s a with rfl | rfl | rfl | rfl | rfl | rfl | rfl | rfl | rfl | rfl <;> rcases c s' a' with rfl | rfl | rfl | rfl | rfl | rfl | rfl | rfl | rfl | rfl <;> simp only [off] at e2 b b' <;> first | (exfalso; omega) | (refine Prod.ext rfl ?_; show k = k'; omega)
theorem Rep.set {G : GT} {h : HT} {H H1 : Heap} {s k : Nat} {c0 c : AC} (R : Rep G h H) (hg : hget h s k = some c0) (hok : okC c) (he : va_at G.2.1 cls (adr G.2.2.2 (s, k), conE G c) H1) (hz : H1.size = H.size) (oq : ∀ q : Nat, q ≠ adr G.2.2.2 (s, k) → H1[q]? = H[q]?) : Rep G (hset h s k c) H1 := by
  refine ⟨by rw [hz]; exact R.1, fun s' k' c' h' => ?_⟩
  have p0 := (R.2 s k c0 hg).1
  by_cases e : (s', k') = (s, k)
  · obtain ⟨rfl, rfl⟩ := Prod.mk.injEq .. ▸ e
    have h2 : hget (hset h s' k' c) s' k' = some c := hgs_eq h.2 s' k' c0 c hg
    rw [h2] at h'
    cases h'
    exact ⟨p0, hok, he⟩
  · have h2 : hget (hset h s k c) s' k' = hget h s' k' := hgs_ne h.2 s k s' k' c e
    rw [h2] at h'
    obtain ⟨p1, p2, p3⟩ := R.2 s' k' c' h'
    exact ⟨p1, p2, p3.kept (oq _ (fun z => e (okP_inj p1 p0 z)))⟩
theorem Rep.push {G : GT} {h : HT} {H H1 : Heap} {s n : Nat} {c : AC} (R : Rep G h H) (hl : hln h.2 s = some n) (hp : okP s n) (hn : h.1 = off s + n) (hok : okC c) (he : va_at G.2.1 cls (adr G.2.2.2 (s, n), conE G c) H1) (hz : H1.size = H.size + 1) (oq : ∀ q : Nat, q < H.size → H1[q]? = H[q]?) : Rep G (h.1 + 1, hps h.2 s (some c)) H1 := by
  refine ⟨by rw [hz, R.1]; rfl, fun s' k' c' h' => ?_⟩
  by_cases e : (s', k') = (s, n)
  · obtain ⟨rfl, rfl⟩ := Prod.mk.injEq .. ▸ e
    have h2 : hget (h.1 + 1, hps h.2 s' (some c)) s' k' = some c := hgs_ps_eq h.2 s' k' (some c) hl
    rw [h2] at h'
    cases h'
    exact ⟨hp, hok, he⟩
  · have h2 : hget (h.1 + 1, hps h.2 s (some c)) s' k' = hget h s' k' := hgs_ps_ne h.2 s s' k' n (some c) hl e
    rw [h2] at h'
    obtain ⟨p1, p2, p3⟩ := R.2 s' k' c' h'
    exact ⟨p1, p2, p3.kept (oq _ (by
      rcases Nat.lt_or_ge (adr G.2.2.2 (s', k')) H.size with q | q
      · exact q
      · exact absurd p3.lt (by omega)))⟩
end
section
/-! numbers: ints and longs as whole numbers -/
theorem i_add (a b : Int) : Int32.ofInt (a + b) = Int32.ofInt a + Int32.ofInt b := Int32.ofInt_add a b
theorem i_sub (a b : Int) : Int32.ofInt (a - b) = Int32.ofInt a - Int32.ofInt b := Int32.ofInt_sub a b
theorem i_mul (a b : Int) : Int32.ofInt (a * b) = Int32.ofInt a * Int32.ofInt b := Int32.ofInt_mul a b
theorem i_neg (a : Int) : Int32.ofInt (-a) = -Int32.ofInt a := Int32.ofInt_neg a
theorem l_add (a b : Int) : Int64.ofInt (a + b) = Int64.ofInt a + Int64.ofInt b := Int64.ofInt_add a b
theorem l_sub (a b : Int) : Int64.ofInt (a - b) = Int64.ofInt a - Int64.ofInt b := Int64.ofInt_sub a b
theorem l_mul (a b : Int) : Int64.ofInt (a * b) = Int64.ofInt a * Int64.ofInt b := Int64.ofInt_mul a b
theorem l_neg (a : Int) : Int64.ofInt (-a) = -Int64.ofInt a := Int64.ofInt_neg a
theorem i_to {a : Int} (h : I32 a) : (Int32.ofInt a).toInt = a := Int32.toInt_ofInt_of_le (by omega) (by omega)
theorem l_to {a : Int} (h : I64 a) : (Int64.ofInt a).toInt = a := Int64.toInt_ofInt_of_le (by omega) (by omega)
theorem i_of (x : Int32) : Int32.ofInt x.toInt = x := Int32.ofInt_toInt x
theorem i_in (x : Int32) : I32 x.toInt := ⟨by have := x.le_toInt; simp at this; exact this, by have := x.toInt_lt; omega⟩
theorem i_lt {a b : Int} (h : I32 a) (g : I32 b) : Int32.ofInt a < Int32.ofInt b ↔ a < b := by rw [Int32.lt_iff_toInt_lt, i_to h, i_to g]
theorem i_le {a b : Int} (h : I32 a) (g : I32 b) : Int32.ofInt a ≤ Int32.ofInt b ↔ a ≤ b := by rw [Int32.le_iff_toInt_le, i_to h, i_to g]
theorem i_eq {a b : Int} (h : I32 a) (g : I32 b) : Int32.ofInt a = Int32.ofInt b ↔ a = b := by rw [← Int32.toInt_inj, i_to h, i_to g]
theorem l_lt {a b : Int} (h : I64 a) (g : I64 b) : Int64.ofInt a < Int64.ofInt b ↔ a < b := by rw [Int64.lt_iff_toInt_lt, l_to h, l_to g]
theorem l_le {a b : Int} (h : I64 a) (g : I64 b) : Int64.ofInt a ≤ Int64.ofInt b ↔ a ≤ b := by rw [Int64.le_iff_toInt_le, l_to h, l_to g]
theorem l_eq {a b : Int} (h : I64 a) (g : I64 b) : Int64.ofInt a = Int64.ofInt b ↔ a = b := by rw [← Int64.toInt_inj, l_to h, l_to g]
theorem il_to {a : Int} (h : I32 a) : (Int32.ofInt a).toInt64 = Int64.ofInt a := by
  rw [← Int64.toInt_inj, l_to (by constructor <;> omega), Int32.toInt_toInt64, i_to h]
theorem li_to (a : Int) : (Int64.ofInt a).toInt32 = Int32.ofInt a := Int64.toInt32_ofInt
theorem i_div {a b : Int} (h : I32 a) (g : I32 b) : Int32.ofInt a / Int32.ofInt b = Int32.ofInt (a.tdiv b) := by
  have e : Int32.maxValue.toInt = 2147483647 := by decide
  have e' : Int32.minValue.toInt = -2147483648 := by decide
  exact (Int32.ofInt_tdiv (by omega) (by omega) (by omega) (by omega)).symm
theorem l_div {a b : Int} (h : I64 a) (g : I64 b) : Int64.ofInt a / Int64.ofInt b = Int64.ofInt (a.tdiv b) := by
  have e : Int64.maxValue.toInt = 9223372036854775807 := by decide
  have e' : Int64.minValue.toInt = -9223372036854775808 := by decide
  exact (Int64.ofInt_tdiv (by omega) (by omega) (by omega) (by omega)).symm
theorem i_rem {a b : Int} (h : I32 a) (g : I32 b) : Int32.ofInt a - Int32.ofInt a / Int32.ofInt b * Int32.ofInt b = Int32.ofInt (a.tmod b) := by
  rw [i_div h g, ← i_mul, ← i_sub, Int.tmod_def, Int.mul_comm b]
theorem l_rem {a b : Int} (h : I64 a) (g : I64 b) : Int64.ofInt a - Int64.ofInt a / Int64.ofInt b * Int64.ofInt b = Int64.ofInt (a.tmod b) := by
  rw [l_div h g, ← l_mul, ← l_sub, Int.tmod_def, Int.mul_comm b]
theorem i_clamp {a : Int} (h : I32 a) (h0 : 0 ≤ a) : (Int32.ofInt a).toNatClampNeg = a.toNat := by
  show (Int32.ofInt a).toInt.toNat = a.toNat
  rw [i_to h]
theorem i_vp {a : Int} {n : Nat} (h : I32 a) (h0 : 0 ≤ a) (h1 : a < n) : vp_in (Int32.ofInt a) n := by
  rw [vp_in_iff, i_to h]
  exact ⟨h0, h1⟩
theorem i_b8 {a : Int} (h : -128 ≤ a) (g : a ≤ 127) : (Int8.ofInt a).toInt32 = Int32.ofInt a := by
  rw [← Int32.toInt_inj, i_to (by constructor <;> omega), Int8.toInt_toInt32, Int8.toInt_ofInt_of_le (by omega) (by omega)]
theorem i_b16 {a : Int} (h : -32768 ≤ a) (g : a ≤ 32767) : (Int16.ofInt a).toInt32 = Int32.ofInt a := by
  rw [← Int32.toInt_inj, i_to (by constructor <;> omega), Int16.toInt_toInt32, Int16.toInt_ofInt_of_le (by omega) (by omega)]
/-- what a byte keeps -/
def w8 (a : Int) : Int := Int.bmod a 256
theorem i_byte (a : Int) : (Int32.ofInt a).toInt8.toInt32 = Int32.ofInt (w8 a) := by
  rw [show (Int32.ofInt a).toInt8 = Int8.ofInt a from Int32.toInt8_ofInt]
  rw [← Int32.toInt_inj, Int8.toInt_toInt32, Int8.toInt_ofInt]
  have h1 := Int.bmod_lt (x := a) (m := 256) (by decide)
  have h2 := Int.le_bmod (x := a) (m := 256) (by decide)
  rw [i_to (by unfold w8; constructor <;> omega)]
  rfl
/-- the word that an int is, as its 32 bits -/
def w32 (a : Int) : Int := Int.bmod a 4294967296
theorem i_wrap (a : Int) : Int32.ofInt (w32 a) = Int32.ofInt a := by
  rw [← Int32.toInt_inj, Int32.toInt_ofInt, Int32.toInt_ofInt]
  simp [w32]
theorem w32_in (a : Int) : I32 (w32 a) := by
  have h1 := Int.bmod_lt (x := a) (m := 4294967296) (by decide)
  have h2 := Int.le_bmod (x := a) (m := 4294967296) (by decide)
  unfold w32
  constructor <;> omega
theorem l_nat (n : Nat) : Int64.ofNat n = Int64.ofInt (n : Int) := by
  rw [Int64.ofInt_eq_ofNat]
end
section
/-! the tables' words that are carried along: good ones, and links of nest mates, declarations, casts, the array class of laws -/
def okN (w : Cond) : Bool := match w with
  | .methodLinkNest .. => true
  | .declares .. => true
  | .castable .. => true
  | .arrayOver (.object _) => true
  | _ => false
def okW (w : Cond) : Bool := goodWord w || okN w
def tb : List Cond := lw_tbl.filter okW
theorem tb_mem {w : Cond} (h : w ∈ lw_tbl) (g : okW w = true) : w ∈ tb := List.mem_filter.mpr ⟨h, g⟩
theorem lay_ok (C : String) (T : u_T) (k : Nat) : okW (u_lay C T k) = true := by unfold u_lay; split <;> rfl
theorem ws_ok {C : String} {T : u_T} {N : Nat} (h : ∀ w ∈ u_ws C T N, w ∈ lw_tbl) : ∀ w ∈ u_ws C T N, w ∈ tb := by
  intro w hw
  refine tb_mem (h w hw) ?_
  obtain ⟨k, -, rfl⟩ := List.mem_map.mp hw
  exact lay_ok C T k
theorem cls_lt {ci : Nat} {r : vw_C} (h : cls[ci]? = some r) : ci < 10 := (List.getElem?_eq_some_iff.mp h).1
theorem cls_ws {ci : Nat} {r : vw_C} (h : cls[ci]? = some r) : ∀ w ∈ u_ws r.1 r.2.1 r.2.2, w ∈ tb := by
  have hl := cls_lt h
  rcases (show ci = 0 ∨ ci = 1 ∨ ci = 2 ∨ ci = 3 ∨ ci = 4 ∨ ci = 5 ∨ ci = 6 ∨ ci = 7 ∨ ci = 8 ∨ ci = 9 by omega) with rfl | rfl | rfl | rfl | rfl | rfl | rfl | rfl | rfl | rfl
  · cases h; exact ws_ok ci_0
  · cases h; exact ws_ok ci_1
  · cases h; exact ws_ok ci_2
  · cases h; exact ws_ok ci_3
  · cases h; exact ws_ok ci_4
  · cases h; exact ws_ok ci_5
  · cases h; exact ws_ok ci_6
  · cases h; exact ws_ok ci_7
  · cases h; exact ws_ok ci_8
  · cases h; exact ws_ok ci_9
theorem cls_nm {ci : Nat} {r : vw_C} (h : cls[ci]? = some r) : ∀ a, a < r.2.2 → ∀ b, b < r.2.2 → a ≠ b → (r.2.1 a).2.1 ≠ (r.2.1 b).2.1 := by
  have hl := cls_lt h
  rcases (show ci = 0 ∨ ci = 1 ∨ ci = 2 ∨ ci = 3 ∨ ci = 4 ∨ ci = 5 ∨ ci = 6 ∨ ci = 7 ∨ ci = 8 ∨ ci = 9 by omega) with rfl | rfl | rfl | rfl | rfl | rfl | rfl | rfl | rfl | rfl
  · cases h; exact cn_0
  · cases h; exact cn_1
  · cases h; exact cn_2
  · cases h; exact cn_3
  · cases h; exact cn_4
  · cases h; exact cn_5
  · cases h; exact cn_6
  · cases h; exact cn_7
  · cases h; exact cn_8
  · cases h; exact cn_9
def clY (ci : Nat) : Nat → FieldType := match ci with
  | 0 => cY0
  | 1 => cY1
  | 2 => cY2
  | 3 => cY3
  | 4 => cY4
  | 5 => cY5
  | 6 => cY6
  | 7 => cY7
  | 8 => cY8
  | _ => cY9
theorem cls_ty {ci : Nat} {r : vw_C} (h : cls[ci]? = some r) : ∀ k, k < r.2.2 → parseFieldDescriptor (r.2.1 k).2.2.1 = some (clY ci k) := by
  have hl := cls_lt h
  rcases (show ci = 0 ∨ ci = 1 ∨ ci = 2 ∨ ci = 3 ∨ ci = 4 ∨ ci = 5 ∨ ci = 6 ∨ ci = 7 ∨ ci = 8 ∨ ci = 9 by omega) with rfl | rfl | rfl | rfl | rfl | rfl | rfl | rfl | rfl | rfl
  · cases h; exact ct_0
  · cases h; exact ct_1
  · cases h; exact ct_2
  · cases h; exact ct_3
  · cases h; exact ct_4
  · cases h; exact ct_5
  · cases h; exact ct_6
  · cases h; exact ct_7
  · cases h; exact ct_8
  · cases h; exact ct_9
/-! a method's judgement over the abstract state -/
def nse : String := "java/util/NoSuchElementException"
abbrev rmM (M : MI) : Room := { frames := M.2.2.2.2.1, cells := M.2.2.2.2.2.1, slots := M.2.2.2.2.2.2, locals := 60 * M.2.2.2.2.1 }
def wsM (M : MI) : List Cond := .code M.1 M.2.1 M.2.2.1 M.2.2.2.1 :: lw_tbl.filter goodWord
abbrev zU (G : GT) (s : State) (H : Heap) : Prop := vx_Zq Bundle.tN "UNASSIGNED_STACK" Bundle.steD (gA G) s H ∧ vx_Zq Bundle.tN "SUPPRESSED_SENTINEL" Bundle.listD (gA G) s H
def nB (U : State) : Prop := ∀ w ∈ lw_tbl, okN w = true → w.before #[] U = true
/-- what stands fast while a method's body runs -/
def Cx (G : GT) (M : MI) (p : Program) (s : State) (m : MethodId) (args : Array Value) (meth : Method) (c : Code) : Prop :=
  p.tables.exec = Jvm.exec ∧ c.code = M.2.1 ∧ meth.sig.returnType = M.2.2.2.1 ∧ c.maxLocals = M.2.2.1 ∧ s.vm.findClass M.1.cls = some m.cls ∧ (∀ w ∈ tb, w.before args s = true) ∧ meth.locks = false ∧ va_K G.2.1 cls (tyG G) s ∧ zU G s s.heap ∧ (∀ x ∈ c.exceptionTable.toList, False) ∧ meth.name = M.1.name ∧ G.2.2.2 ≤ s.heap.size ∧ G.1.stackTraces = false ∧ nB s
def QcM (G : GT) (Qr : Option AV → HT → Prop) : Array Value → State → Outcome → State → Prop := fun _ st o t =>
  ∃ (r : Option AV) (h : HT), Qr r h ∧ o = .returned (r.map (conc G.2.2.2)) ∧ Rep G h t.heap ∧ va_F (gA G) st t
def XcM (G : GT) (Qt : HT → Prop) : String → State → State → Prop := fun E st t => E = nse ∧ ∃ h : HT, Qt h ∧ Rep G h t.heap ∧ va_F (gA G) st t
def lvP (base : Nat) : Nat → List (Option AV) → List (Nat × Value)
  | _, [] => []
  | i, some v :: r => (i, conc base v) :: lvP base (i + 1) r
  | i, none :: r => lvP base (i + 1) r
abbrev LSt : Type := List (Option AV)
def AW (G : GT) (M : MI) (Qr : Option AV → HT → Prop) (Qt : HT → Prop) (cs sl pc : Nat) (ls : LSt) (st : List AV) (h : HT) : Prop :=
  ∀ (p : Program) (e : Env) (s : State) (m : MethodId) (args : Array Value) (below : List Frame) (meth : Method) (c : Code) (H : Heap) (locs : List Loc) (lsR : Array Slot),
    Cx G M p s m args meth c → Rep G h H → va_S (gA G) s.heap H locs → lv_has lsR M.2.2.1 (lvP G.2.2.2 0 ls) →
    W p G.1 e (rmM M) s m args below meth c H locs cs sl (vx_MQ below (QcM G Qr) (XcM G Qt) args s M.2.2.2.2.2.1 M.2.2.2.2.2.2 (gA G)) (F0 m pc lsR (st.map (conc G.2.2.2)))
theorem lvP_mem {base : Nat} : ∀ (ls : LSt) (i k : Nat) (v : AV), ls[k]? = some (some v) → (i + k, conc base v) ∈ lvP base i ls
  | [], _, k, _, h => by simp at h
  | some w :: r, i, 0, v, h => by
    simp only [List.getElem?_cons_zero, Option.some.injEq] at h
    subst h
    exact List.mem_cons_self
  | none :: r, i, 0, v, h => by simp at h
  | some w :: r, i, k + 1, v, h => by
    have := lvP_mem (base := base) r (i + 1) k v (by simpa using h)
    rw [show i + (k + 1) = i + 1 + k by omega]
    exact List.mem_cons_of_mem _ this
  | none :: r, i, k + 1, v, h => by
    have := lvP_mem (base := base) r (i + 1) k v (by simpa using h)
    rw [show i + (k + 1) = i + 1 + k by omega]
    exact this
theorem lvP_of {base : Nat} : ∀ (ls : LSt) (i : Nat) (q : Nat × Value), q ∈ lvP base i ls → ∃ k v, ls[k]? = some (some v) ∧ q = (i + k, conc base v)
  | [], _, _, h => by cases h
  | some w :: r, i, q, h => by
    rcases List.mem_cons.mp h with h | h
    · exact ⟨0, w, rfl, h⟩
    · obtain ⟨k, v, h1, h2⟩ := lvP_of r (i + 1) q h
      exact ⟨k + 1, v, by simpa using h1, by rw [h2]; congr 1; omega⟩
  | none :: r, i, q, h => by
    obtain ⟨k, v, h1, h2⟩ := lvP_of r (i + 1) q h
    exact ⟨k + 1, v, by simpa using h1, by rw [h2]; congr 1; omega⟩
theorem lv_get {base nL : Nat} {ls : LSt} {lsR : Array Slot} {k : Nat} {v : AV} (h : lv_has lsR nL (lvP base 0 ls)) (hk : ls[k]? = some (some v)) : lsR[k]? = some (.val (conc base v)) := by
  have := h.2.2 _ (lvP_mem ls 0 k v hk)
  simpa using this
theorem lv_weak {base nL : Nat} {ls ls' : LSt} {lsR : Array Slot} (h : lv_has lsR nL (lvP base 0 ls)) (hs : ∀ (k : Nat) (v : AV), ls'[k]? = some (some v) → ls[k]? = some (some v)) : lv_has lsR nL (lvP base 0 ls') := by
  refine ⟨h.1, h.2.1, fun q hq => ?_⟩
  obtain ⟨k, v, h1, h2⟩ := lvP_of ls' 0 q hq
  have := lvP_mem (base := base) ls 0 k v (hs k v h1)
  rw [h2]
  exact h.2.2 _ this
/-- the entry below is the first half of a long: it is lost -/
def clr (ls : LSt) (i : Nat) : LSt := match i with
  | 0 => ls
  | j + 1 => match ls[j]? with
    | some (some (.inr (.inl _))) => ls.set j none
    | _ => ls
def st1 (ls : LSt) (i : Nat) (v : AV) : LSt := (clr ls i).set i (some v)
def st2 (ls : LSt) (i : Nat) (v : AV) : LSt := ((clr ls i).set i (some v)).set (i + 1) none
theorem clr_of {ls : LSt} {i k : Nat} {v : AV} (h : (clr ls i)[k]? = some (some v)) : ls[k]? = some (some v) ∧ ¬ (k + 1 = i ∧ ∃ z, v = .inr (.inl z)) := by
  cases i with
  | zero => exact ⟨h, fun q => by omega⟩
  | succ j =>
    simp only [clr] at h
    split at h
    · rename_i z hz
      by_cases hk : j = k
      · subst hk
        rw [List.getElem?_set] at h
        simp at h
      · rw [List.getElem?_set_ne hk] at h
        exact ⟨h, fun q => by omega⟩
    · rename_i hz
      refine ⟨h, fun q => ?_⟩
      obtain ⟨q1, z, q2⟩ := q
      have : k = j := by omega
      subst this
      exact hz z (by rw [h, q2])
theorem conc_cat2 {base : Nat} {v : AV} (h : (conc base v).category = 2) : ∃ z, v = .inr (.inl z) := by
  rcases v with z | z | r
  · simp [conc, Value.category] at h
  · exact ⟨z, rfl⟩
  · cases r <;> simp [conc, va_rf, Value.category] at h
theorem st1_in {base : Nat} {ls : LSt} {i : Nat} {v : AV} : ∀ q ∈ lvP base 0 (st1 ls i v), q ∈ ((i, conc base v) :: (lvP base 0 ls).filter (fun q => !(q.1 == i) && !(q.1 + 1 == i && q.2.category == 2)) : List (Nat × Value)) := by
  intro q hq
  obtain ⟨k, w, h1, h2⟩ := lvP_of _ 0 q hq
  rw [Nat.zero_add] at h2
  subst h2
  by_cases hk : i = k
  · subst hk
    rw [st1, List.getElem?_set] at h1
    simp at h1
    rw [h1.2]
    exact List.mem_cons_self
  · rw [st1, List.getElem?_set_ne hk] at h1
    obtain ⟨h3, h4⟩ := clr_of h1
    refine List.mem_cons_of_mem _ (List.mem_filter.mpr ⟨by have := lvP_mem (base := base) ls 0 k w h3; simpa using this, ?_⟩)
    have hki : ¬ k = i := fun e => hk e.symm
    have : ¬ (k + 1 = i ∧ (conc base w).category = 2) := fun q => h4 ⟨q.1, conc_cat2 q.2⟩
    simp [hki]
    omega
theorem st2_in {base : Nat} {ls : LSt} {i : Nat} {v : AV} : ∀ q ∈ lvP base 0 (st2 ls i v), q ∈ ((i, conc base v) :: (lvP base 0 ls).filter (fun q => !(q.1 == i) && (!(q.1 == i + 1) && !(q.1 + 1 == i && q.2.category == 2))) : List (Nat × Value)) := by
  intro q hq
  obtain ⟨k, w, h1, h2⟩ := lvP_of _ 0 q hq
  rw [Nat.zero_add] at h2
  subst h2
  by_cases hk1 : i + 1 = k
  · subst hk1
    rw [st2, List.getElem?_set] at h1
    simp at h1
  rw [st2, List.getElem?_set_ne hk1] at h1
  by_cases hk : i = k
  · subst hk
    rw [List.getElem?_set] at h1
    simp at h1
    rw [h1.2]
    exact List.mem_cons_self
  · rw [List.getElem?_set_ne hk] at h1
    obtain ⟨h3, h4⟩ := clr_of h1
    refine List.mem_cons_of_mem _ (List.mem_filter.mpr ⟨by have := lvP_mem (base := base) ls 0 k w h3; simpa using this, ?_⟩)
    have hki : ¬ k = i := fun e => hk e.symm
    have hki1 : ¬ k = i + 1 := fun e => hk1 e.symm
    have : ¬ (k + 1 = i ∧ (conc base w).category = 2) := fun q => h4 ⟨q.1, conc_cat2 q.2⟩
    simp [hki, hki1]
    omega
theorem lv_less {lsR : Array Slot} {nL : Nat} {l l' : List (Nat × Value)} (h : lv_has lsR nL l) (hs : ∀ q ∈ l', q ∈ l) : lv_has lsR nL l' := ⟨h.1, h.2.1, fun q hq => h.2.2 q (hs q hq)⟩
end
section
/-! straight stretches: an instruction, or a read of a field (pool number, class, field) -/
abbrev PI : Type := Instr ⊕ (Nat × Nat × Nat)
def ldV (ls : LSt) (i : Nat) : Option AV := match ls[i]? with
  | some (some v) => some v
  | _ => none
def step1 (i : Instr) (nL : Nat) (ls : LSt) (st : List AV) : Option (LSt × List AV) := match i with
  | .iconst n => some (ls, vi n :: st)
  | .bipush n => if -128 ≤ n ∧ n ≤ 127 then some (ls, vi n :: st) else none
  | .sipush n => if -32768 ≤ n ∧ n ≤ 32767 then some (ls, vi n :: st) else none
  | .lconst n => some (ls, vl (n : Nat) :: st)
  | .aconst_null => some (ls, vn :: st)
  | .iload_n k => match ldV ls k with
    | some (.inl z) => some (ls, vi z :: st)
    | _ => none
  | .iload k => match ldV ls k with
    | some (.inl z) => some (ls, vi z :: st)
    | _ => none
  | .lload_n k => match ldV ls k with
    | some (.inr (.inl z)) => some (ls, vl z :: st)
    | _ => none
  | .lload k => match ldV ls k with
    | some (.inr (.inl z)) => some (ls, vl z :: st)
    | _ => none
  | .aload_n k => match ldV ls k with
    | some (.inr (.inr r)) => some (ls, vo r :: st)
    | _ => none
  | .aload k => match ldV ls k with
    | some (.inr (.inr r)) => some (ls, vo r :: st)
    | _ => none
  | .istore_n k => match st with
    | .inl z :: r => if (k : Nat) < nL then some (st1 ls k (vi z), r) else none
    | _ => none
  | .istore k => match st with
    | .inl z :: r => if k < nL then some (st1 ls k (vi z), r) else none
    | _ => none
  | .lstore_n k => match st with
    | .inr (.inl z) :: r => if (k : Nat) + 1 < nL then some (st2 ls k (vl z), r) else none
    | _ => none
  | .lstore k => match st with
    | .inr (.inl z) :: r => if k + 1 < nL then some (st2 ls k (vl z), r) else none
    | _ => none
  | .astore_n k => match st with
    | .inr (.inr z) :: r => if (k : Nat) < nL then some (st1 ls k (vo z), r) else none
    | _ => none
  | .astore k => match st with
    | .inr (.inr z) :: r => if k < nL then some (st1 ls k (vo z), r) else none
    | _ => none
  | .iinc k n => match ldV ls k with
    | some (.inl z) => if k < nL then some (st1 ls k (vi (z + n)), st) else none
    | _ => none
  | .iadd => match st with
    | .inl b :: .inl a :: r => some (ls, vi (a + b) :: r)
    | _ => none
  | .isub => match st with
    | .inl b :: .inl a :: r => some (ls, vi (a - b) :: r)
    | _ => none
  | .imul => match st with
    | .inl b :: .inl a :: r => some (ls, vi (a * b) :: r)
    | _ => none
  | .ineg => match st with
    | .inl a :: r => some (ls, vi (-a) :: r)
    | _ => none
  | .ladd => match st with
    | .inr (.inl b) :: .inr (.inl a) :: r => some (ls, vl (a + b) :: r)
    | _ => none
  | .lsub => match st with
    | .inr (.inl b) :: .inr (.inl a) :: r => some (ls, vl (a - b) :: r)
    | _ => none
  | .lmul => match st with
    | .inr (.inl b) :: .inr (.inl a) :: r => some (ls, vl (a * b) :: r)
    | _ => none
  | .lneg => match st with
    | .inr (.inl a) :: r => some (ls, vl (-a) :: r)
    | _ => none
  | .l2i => match st with
    | .inr (.inl a) :: r => some (ls, vi a :: r)
    | _ => none
  | .i2b => match st with
    | .inl a :: r => some (ls, vi (w8 a) :: r)
    | _ => none
  | .dup => match st with
    | .inl a :: r => some (ls, vi a :: vi a :: r)
    | .inr (.inr a) :: r => some (ls, vo a :: vo a :: r)
    | _ => none
  | .pop => match st with
    | .inl _ :: r => some (ls, r)
    | .inr (.inr _) :: r => some (ls, r)
    | _ => none
  | .dup2 => match st with
    | .inr (.inl a) :: r => some (ls, vl a :: vl a :: r)
    | .inl a :: .inr (.inr b) :: r => some (ls, vi a :: vo b :: vi a :: vo b :: r)
    | _ => none
  | _ => none
def ilen (i : Instr) : Nat := match i with
  | .bipush _ => 2
  | .sipush _ => 3
  | .iload _ => 2
  | .lload _ => 2
  | .aload _ => 2
  | .istore _ => 2
  | .lstore _ => 2
  | .astore _ => 2
  | .iinc _ _ => 3
  | _ => 1
def cond0 (base : Nat) (r : Option (Nat × Nat)) : Value := va_rf (r.map (adr base))
section
variable {p : Program} {l : Launch} {e : Env} {R : Room} {s : State} {m : MethodId} {args : Array Value} {below : List Frame} {meth : Method} {c : Code} {H : Heap} {locs : List Loc} {cells slots : Nat} {Q : State → Prop} {cc : ByteArray} {pc : Nat} {lsR : Array Slot} {rest : List Value}
theorem x_aload_n (hexec : p.tables.exec = Jvm.exec) (hb : c.code = cc) {k : Fin 4} {r : Option Nat} (hdg : decode cc pc = .ok (.aload_n k, 1)) (hl : lsR[(k : Nat)]? = some (.val (va_rf r))) (kk : W p l e R s m args below meth c H locs cells slots Q (F0 m (pc + 1) lsR (va_rf r :: rest))) : W p l e R s m args below meth c H locs cells slots Q (F0 m pc lsR rest) := by
  cases r with
  | none => exact lv_aload_nN hexec hb hdg rfl hl kk
  | some a => exact lv_aload_n hexec hb hdg rfl hl kk
theorem x_aload (hexec : p.tables.exec = Jvm.exec) (hb : c.code = cc) {k : Nat} {r : Option Nat} (hdg : decode cc pc = .ok (.aload k, 2)) (hl : lsR[k]? = some (.val (va_rf r))) (kk : W p l e R s m args below meth c H locs cells slots Q (F0 m (pc + 2) lsR (va_rf r :: rest))) : W p l e R s m args below meth c H locs cells slots Q (F0 m pc lsR rest) := by
  cases r with
  | none => exact lv_aloadN hexec hb hdg hl kk
  | some a => exact lv_aload hexec hb hdg hl kk
theorem x_astore_n (hexec : p.tables.exec = Jvm.exec) (hb : c.code = cc) {k : Fin 4} {nL : Nat} {r : Option Nat} {lv : List (Nat × Value)} (hdg : decode cc pc = .ok (.astore_n k, 1)) (h : lv_has lsR nL lv) (hn : (k : Nat) < nL)
    (kk : ∀ ls' : Array Slot, lv_has ls' nL (((k : Nat), va_rf r) :: lv.filter (fun q => !(q.1 == (k : Nat)) && !(q.1 + 1 == (k : Nat) && q.2.category == 2))) → W p l e R s m args below meth c H locs cells slots Q (F0 m (pc + 1) ls' rest)) : W p l e R s m args below meth c H locs cells slots Q (F0 m pc lsR (va_rf r :: rest)) := by
  cases r with
  | none => exact lv_astore_nN hexec hb hdg rfl h hn rfl kk
  | some a => exact lv_astore_n hexec hb hdg rfl h hn rfl kk
theorem x_astore (hexec : p.tables.exec = Jvm.exec) (hb : c.code = cc) {k : Nat} {nL : Nat} {r : Option Nat} {lv : List (Nat × Value)} (hdg : decode cc pc = .ok (.astore k, 2)) (h : lv_has lsR nL lv) (hn : k < nL)
    (kk : ∀ ls' : Array Slot, lv_has ls' nL ((k, va_rf r) :: lv.filter (fun q => !(q.1 == k) && !(q.1 + 1 == k && q.2.category == 2))) → W p l e R s m args below meth c H locs cells slots Q (F0 m (pc + 2) ls' rest)) : W p l e R s m args below meth c H locs cells slots Q (F0 m pc lsR (va_rf r :: rest)) := by
  cases r with
  | none => exact lv_astoreN hexec hb hdg h hn rfl kk
  | some a => exact lv_astore hexec hb hdg h hn rfl kk
end
theorem ldV_of {ls : LSt} {i : Nat} {v : AV} (h : ldV ls i = some v) : ls[i]? = some (some v) := by
  unfold ldV at h
  split at h
  · rename_i w hw
    cases h
    exact hw
  · cases h
theorem rf_cat (r : Option Nat) : (va_rf r).category = 1 := by cases r <;> rfl
set_option maxHeartbeats 4000000 in
theorem aw_step1 {G : GT} {M : MI} {Qr : Option AV → HT → Prop} {Qt : HT → Prop} {cs sl pc : Nat} {ls ls' : LSt} {st st' : List AV} {h : HT} {i : Instr} (hd : decode M.2.1 pc = .ok (i, ilen i)) (hs : step1 i M.2.2.1 ls st = some (ls', st'))
    (k : AW G M Qr Qt cs sl (pc + ilen i) ls' st' h) : AW G M Qr Qt cs sl pc ls st h := by
  intro p e s m args below meth c H locs lsR C R S L
  have hx := C.1
  have hb := C.2.1
  have k0 := fun lsR L => k p e s m args below meth c H locs lsR C R S L
  clear k
  cases i <;> simp only [step1, ilen] at hs hd k0 <;> (try (cases hs; done))
  case aconst_null =>
    cases hs
    exact lv_null hx hb hd (k0 lsR L)
  case aload i =>
    split at hs
    · rename_i r hr
      cases hs
      exact x_aload hx hb hd (lv_get L (ldV_of hr)) (k0 lsR L)
    · cases hs
  case aload_n i =>
    split at hs
    · rename_i r hr
      cases hs
      exact x_aload_n hx hb hd (lv_get L (ldV_of hr)) (k0 lsR L)
    · cases hs
  case astore i =>
    split at hs
    · split at hs
      · rename_i hn
        cases hs
        exact x_astore hx hb hd L hn (fun ls' L' => k0 ls' (lv_less L' st1_in))
      · cases hs
    · cases hs
  case astore_n i =>
    split at hs
    · split at hs
      · rename_i hn
        cases hs
        exact x_astore_n hx hb hd L hn (fun ls' L' => k0 ls' (lv_less L' st1_in))
      · cases hs
    · cases hs
  case bipush n =>
    split at hs
    · rename_i hn
      cases hs
      exact lv_bipush hx hb hd (i_b8 hn.1 hn.2) (k0 lsR L)
    · cases hs
  case sipush n =>
    split at hs
    · rename_i hn
      cases hs
      exact lv_sipush hx hb hd (i_b16 hn.1 hn.2) (k0 lsR L)
    · cases hs
  case iconst n =>
    cases hs
    exact lv_iconst hx hb hd rfl (k0 lsR L)
  case lconst n =>
    cases hs
    exact lv_lconst hx hb hd (l_nat _) (k0 lsR L)
  case iload i =>
    split at hs
    · rename_i r hr
      cases hs
      exact lv_iload hx hb hd (lv_get L (ldV_of hr)) (k0 lsR L)
    · cases hs
  case iload_n i =>
    split at hs
    · rename_i r hr
      cases hs
      exact lv_iload_n hx hb hd rfl (lv_get L (ldV_of hr)) (k0 lsR L)
    · cases hs
  case lload i =>
    split at hs
    · rename_i r hr
      cases hs
      exact lv_lload hx hb hd (lv_get L (ldV_of hr)) (k0 lsR L)
    · cases hs
  case lload_n i =>
    split at hs
    · rename_i r hr
      cases hs
      exact lv_lload_n hx hb hd rfl (lv_get L (ldV_of hr)) (k0 lsR L)
    · cases hs
  case istore i =>
    split at hs
    · split at hs
      · rename_i hn
        cases hs
        exact lv_istore hx hb hd L hn rfl (fun ls' L' => k0 ls' (lv_less L' st1_in))
      · cases hs
    · cases hs
  case istore_n i =>
    split at hs
    · split at hs
      · rename_i hn
        cases hs
        exact lv_istore_n hx hb hd rfl L hn rfl (fun ls' L' => k0 ls' (lv_less L' st1_in))
      · cases hs
    · cases hs
  case lstore i =>
    split at hs
    · split at hs
      · rename_i hn
        cases hs
        exact lv_lstore hx hb hd L hn rfl (fun ls' L' => k0 ls' (lv_less L' st2_in))
      · cases hs
    · cases hs
  case lstore_n i =>
    split at hs
    · split at hs
      · rename_i hn
        cases hs
        exact lv_lstore_n hx hb hd rfl L hn rfl (fun ls' L' => k0 ls' (lv_less L' st2_in))
      · cases hs
    · cases hs
  case iinc i n =>
    split at hs
    · rename_i z hz
      split at hs
      · rename_i hn
        cases hs
        have hm := lvP_mem (base := G.2.2.2) ls 0 i _ (ldV_of hz)
        obtain ⟨q, hq⟩ := List.getElem?_of_mem hm
        exact lv_iinc (k := q) (x := Int32.ofInt z) (v := Int32.ofInt (z + n)) hx hb hd L (by rw [hq]; simp [conc]) (i_add z n).symm hn rfl (fun ls' L' => k0 ls' (lv_less L' st1_in))
      · cases hs
    · cases hs
  case iadd =>
    split at hs
    · cases hs
      simp only [List.map, conc, i_add] at k0
      exact lv_iadd hx hb hd (k0 lsR L)
    · cases hs
  case isub =>
    split at hs
    · cases hs
      simp only [List.map, conc, i_sub] at k0
      exact lv_isub hx hb hd (k0 lsR L)
    · cases hs
  case imul =>
    split at hs
    · cases hs
      simp only [List.map, conc, i_mul] at k0
      exact lv_imul hx hb hd (k0 lsR L)
    · cases hs
  case ineg =>
    split at hs
    · cases hs
      simp only [List.map, conc, i_neg] at k0
      exact lv_ineg hx hb hd (k0 lsR L)
    · cases hs
  case ladd =>
    split at hs
    · cases hs
      simp only [List.map, conc, l_add] at k0
      exact lv_ladd hx hb hd (k0 lsR L)
    · cases hs
  case lsub =>
    split at hs
    · cases hs
      simp only [List.map, conc, l_sub] at k0
      exact lv_lsub hx hb hd (k0 lsR L)
    · cases hs
  case lmul =>
    split at hs
    · cases hs
      simp only [List.map, conc, l_mul] at k0
      exact lv_lmul hx hb hd (k0 lsR L)
    · cases hs
  case lneg =>
    split at hs
    · cases hs
      simp only [List.map, conc, l_neg] at k0
      exact lv_lneg hx hb hd (k0 lsR L)
    · cases hs
  case l2i =>
    split at hs
    · cases hs
      exact lv_l2i hx hb hd (li_to _) (k0 lsR L)
    · cases hs
  case i2b =>
    split at hs
    · cases hs
      exact lv_i2b hx hb hd (i_byte _) (k0 lsR L)
    · cases hs
  case dup =>
    split at hs
    · cases hs
      exact lv_dup hx hb hd rfl (k0 lsR L)
    · cases hs
      exact lv_dup hx hb hd (rf_cat _) (k0 lsR L)
    · cases hs
  case pop =>
    split at hs
    · cases hs
      exact lv_pop hx hb hd rfl (k0 lsR L)
    · cases hs
      exact lv_pop hx hb hd (rf_cat _) (k0 lsR L)
    · cases hs
  case dup2 =>
    split at hs
    · cases hs
      exact lv_dup2_2 hx hb hd rfl (k0 lsR L)
    · cases hs
      exact lv_dup2_11 hx hb hd rfl (rf_cat _) (k0 lsR L)
    · cases hs
end
section
/-! reads of fields, stretches, branches -/
def fOK (own : String) (idx ci k : Nat) : Bool := match cls[ci]? with
  | some r => decide (k < r.2.2) && decide ((r.2.1 k).1 = r.1) && decide (Cond.fieldLink own idx r.1 (r.2.1 k).2.1 (r.2.1 k).2.2.1 ∈ lw_tbl)
  | none => false
theorem rep_ob {G : GT} {h : HT} {H : Heap} {s k ci : Nat} {fs : List AV} (R : Rep G h H) (hg : hget h s k = some (ob ci fs)) : va_P G.2.1 cls [(adr G.2.2.2 (s, k), .inr (ci, fs.map (conc G.2.2.2)))] H := by
  intro j q hq
  cases j with
  | zero => cases hq; exact (R.2 s k _ hg).2.2
  | succ j => simp at hq
theorem aw_get {G : GT} {M : MI} {Qr : Option AV → HT → Prop} {Qt : HT → Prop} {cs sl pc : Nat} {ls : LSt} {st : List AV} {h : HT} {idx ci f s q : Nat} {fs : List AV} {v : AV} (hd : decode M.2.1 pc = .ok (.getfield idx, 3)) (hf : fOK M.1.cls idx ci f = true) (hg : hget h s q = some (ob ci fs)) (hv : fs[f]? = some v)
    (k : AW G M Qr Qt cs sl (pc + 3) ls (v :: st) h) : AW G M Qr Qt cs sl pc ls (vr s q :: st) h := by
  intro p e s0 m args below meth c H locs lsR C R S L
  have k0 := k p e s0 m args below meth c H locs lsR C R S L
  obtain ⟨hx, hb, hr, hml, hown, hts, hlk, hK, -⟩ := C
  unfold fOK at hf
  split at hf
  · rename_i r hc
    simp only [Bool.and_eq_true, decide_eq_true_eq] at hf
    obtain ⟨⟨h1, h2⟩, h3⟩ := hf
    exact va_get (C := r.1) (T := r.2.1) (N := r.2.2) (D := G.2.1) (ci := ci) (ref := r.1) hx hb hts (cls_ws hc) hown hK (rep_ob R hg) 0 rfl hc f h1 (hts _ (tb_mem h3 rfl)) (fun x hx9 => by rw [h2] at hx9; exact hx9) (v := conc G.2.2.2 v) (by rw [List.getElem?_map, hv]; rfl) hd k0
  · cases hf
def runB : List PI → Nat → LSt → List AV → HT → Option (LSt × List AV)
  | [], _, ls, st, _ => some (ls, st)
  | .inl i :: r, nL, ls, st, h => match step1 i nL ls st with
    | some x => runB r nL x.1 x.2 h
    | none => none
  | .inr q :: r, nL, ls, st, h => match st with
    | .inr (.inr (some a)) :: st' => match hget h a.1 a.2 with
      | some (.inl o) => match decide (o.1 = q.2.1) with
        | true => match o.2[q.2.2]? with
          | some v => runB r nL ls (v :: st') h
          | none => none
        | false => none
      | _ => none
    | _ => none
def chkB (M : MI) : List PI → Nat → Option Nat
  | [], pc => some pc
  | .inl i :: r, pc => match decide (decode M.2.1 pc = .ok (i, ilen i)) with
    | true => chkB M r (pc + ilen i)
    | false => none
  | .inr q :: r, pc => match decide (decode M.2.1 pc = .ok (.getfield q.1, 3)) && fOK M.1.cls q.1 q.2.1 q.2.2 with
    | true => chkB M r (pc + 3)
    | false => none
theorem aw_blk {G : GT} {M : MI} {Qr : Option AV → HT → Prop} {Qt : HT → Prop} {cs sl : Nat} {ls' : LSt} {st' : List AV} {h : HT} {pc' : Nat} : ∀ (is : List PI) (pc : Nat) (ls : LSt) (st : List AV), chkB M is pc = some pc' → runB is M.2.2.1 ls st h = some (ls', st') → AW G M Qr Qt cs sl pc' ls' st' h → AW G M Qr Qt cs sl pc ls st h := by
  intro is
  induction is with
  | nil =>
    intro pc ls st h1 h2 k
    cases h1
    cases h2
    exact k
  | cons i r ih =>
    intro pc ls st h1 h2 k
    cases i with
    | inl i =>
      simp only [chkB] at h1
      simp only [runB] at h2
      split at h1
      · rename_i hd
        split at h2
        · rename_i x hx
          exact aw_step1 (of_decide_eq_true hd) hx (ih _ _ _ h1 h2 k)
        · cases h2
      · cases h1
    | inr q =>
      simp only [chkB] at h1
      simp only [runB] at h2
      split at h1
      · rename_i hd
        simp only [Bool.and_eq_true, decide_eq_true_eq] at hd
        split at h2
        · rename_i a st9
          split at h2
          · rename_i o ho
            split at h2
            · rename_i ho1
              split at h2
              · rename_i v hv
                have e := of_decide_eq_true ho1
                exact aw_get (s := a.1) (q := a.2) (fs := o.2) hd.1 hd.2 (by rw [ho, ← e]) hv (ih _ _ _ h1 h2 k)
              · cases h2
            · cases h2
          · cases h2
        · cases h2
      · cases h1
section
variable {G : GT} {M : MI} {Qr : Option AV → HT → Prop} {Qt : HT → Prop} {cs sl pc : Nat} {ls : LSt} {st : List AV} {h : HT} {a b o : Int} {tgt : Nat}
theorem aw_ls {ls' : LSt} (hs : ∀ (k : Nat) (v : AV), ls'[k]? = some (some v) → ls[k]? = some (some v)) (k : AW G M Qr Qt cs sl pc ls' st h) : AW G M Qr Qt cs sl pc ls st h := by
  intro p e s0 m args below meth c H locs lsR C R S L
  exact k p e s0 m args below meth c H locs lsR C R S (lv_weak L hs)
/-- what lies in the heap is in range -/
theorem aw_ok (k : (∀ (s q : Nat) (c : AC), hget h s q = some c → okC c) → AW G M Qr Qt cs sl pc ls st h) : AW G M Qr Qt cs sl pc ls st h := by
  intro p e s0 m args below meth c H locs lsR C R S L
  exact k (fun s q c hc => (R.2 s q c hc).2.1) p e s0 m args below meth c H locs lsR C R S L
theorem aw_goto (hd : decode M.2.1 pc = .ok (.goto o, 3)) (ht : (pc : Int) + o = (tgt : Int)) (k : AW G M Qr Qt cs sl tgt ls st h) : AW G M Qr Qt cs sl pc ls st h := by
  intro p e s0 m args below meth c H locs lsR C R S L
  exact lv_goto C.1 C.2.1 hd ht (k p e s0 m args below meth c H locs lsR C R S L)
theorem aw_icmp_eq (hd : decode M.2.1 pc = .ok (.if_icmp .eq o, 3)) (ht : (pc : Int) + o = (tgt : Int)) (ha : I32 a) (hb : I32 b) (kt : a = b → AW G M Qr Qt cs sl tgt ls st h) (kf : ¬ a = b → AW G M Qr Qt cs sl (pc + 3) ls st h) : AW G M Qr Qt cs sl pc ls (vi b :: vi a :: st) h := by
  intro p e s0 m args below meth c H locs lsR C R S L
  exact lv_icmp_eq C.1 C.2.1 hd ht (fun q => kt ((i_eq ha hb).mp q) p e s0 m args below meth c H locs lsR C R S L) (fun q => kf (fun z => q ((i_eq ha hb).mpr z)) p e s0 m args below meth c H locs lsR C R S L)
theorem aw_icmp_ne (hd : decode M.2.1 pc = .ok (.if_icmp .ne o, 3)) (ht : (pc : Int) + o = (tgt : Int)) (ha : I32 a) (hb : I32 b) (kt : ¬ a = b → AW G M Qr Qt cs sl tgt ls st h) (kf : a = b → AW G M Qr Qt cs sl (pc + 3) ls st h) : AW G M Qr Qt cs sl pc ls (vi b :: vi a :: st) h := by
  intro p e s0 m args below meth c H locs lsR C R S L
  exact lv_icmp_ne C.1 C.2.1 hd ht (fun q => kt (fun z => q ((i_eq ha hb).mpr z)) p e s0 m args below meth c H locs lsR C R S L) (fun q => kf ((i_eq ha hb).mp q) p e s0 m args below meth c H locs lsR C R S L)
theorem aw_icmp_lt (hd : decode M.2.1 pc = .ok (.if_icmp .lt o, 3)) (ht : (pc : Int) + o = (tgt : Int)) (ha : I32 a) (hb : I32 b) (kt : a < b → AW G M Qr Qt cs sl tgt ls st h) (kf : ¬ a < b → AW G M Qr Qt cs sl (pc + 3) ls st h) : AW G M Qr Qt cs sl pc ls (vi b :: vi a :: st) h := by
  intro p e s0 m args below meth c H locs lsR C R S L
  exact lv_icmp_lt C.1 C.2.1 hd ht (fun q => kt ((i_lt ha hb).mp q) p e s0 m args below meth c H locs lsR C R S L) (fun q => kf (fun z => q ((i_lt ha hb).mpr z)) p e s0 m args below meth c H locs lsR C R S L)
theorem aw_icmp_ge (hd : decode M.2.1 pc = .ok (.if_icmp .ge o, 3)) (ht : (pc : Int) + o = (tgt : Int)) (ha : I32 a) (hb : I32 b) (kt : b ≤ a → AW G M Qr Qt cs sl tgt ls st h) (kf : ¬ b ≤ a → AW G M Qr Qt cs sl (pc + 3) ls st h) : AW G M Qr Qt cs sl pc ls (vi b :: vi a :: st) h := by
  intro p e s0 m args below meth c H locs lsR C R S L
  exact lv_icmp_ge C.1 C.2.1 hd ht (fun q => kt ((i_le hb ha).mp q) p e s0 m args below meth c H locs lsR C R S L) (fun q => kf (fun z => q ((i_le hb ha).mpr z)) p e s0 m args below meth c H locs lsR C R S L)
theorem aw_icmp_gt (hd : decode M.2.1 pc = .ok (.if_icmp .gt o, 3)) (ht : (pc : Int) + o = (tgt : Int)) (ha : I32 a) (hb : I32 b) (kt : b < a → AW G M Qr Qt cs sl tgt ls st h) (kf : ¬ b < a → AW G M Qr Qt cs sl (pc + 3) ls st h) : AW G M Qr Qt cs sl pc ls (vi b :: vi a :: st) h := by
  intro p e s0 m args below meth c H locs lsR C R S L
  exact lv_icmp_gt C.1 C.2.1 hd ht (fun q => kt ((i_lt hb ha).mp q) p e s0 m args below meth c H locs lsR C R S L) (fun q => kf (fun z => q ((i_lt hb ha).mpr z)) p e s0 m args below meth c H locs lsR C R S L)
theorem aw_icmp_le (hd : decode M.2.1 pc = .ok (.if_icmp .le o, 3)) (ht : (pc : Int) + o = (tgt : Int)) (ha : I32 a) (hb : I32 b) (kt : a ≤ b → AW G M Qr Qt cs sl tgt ls st h) (kf : ¬ a ≤ b → AW G M Qr Qt cs sl (pc + 3) ls st h) : AW G M Qr Qt cs sl pc ls (vi b :: vi a :: st) h := by
  intro p e s0 m args below meth c H locs lsR C R S L
  exact lv_icmp_le C.1 C.2.1 hd ht (fun q => kt ((i_le ha hb).mp q) p e s0 m args below meth c H locs lsR C R S L) (fun q => kf (fun z => q ((i_le ha hb).mpr z)) p e s0 m args below meth c H locs lsR C R S L)
theorem i_0 : (0 : Int32) = Int32.ofInt 0 := rfl
theorem z32 : I32 0 := by constructor <;> decide
theorem aw_if_eq (hd : decode M.2.1 pc = .ok (.ifCond .eq o, 3)) (ht : (pc : Int) + o = (tgt : Int)) (ha : I32 a) (kt : a = 0 → AW G M Qr Qt cs sl tgt ls st h) (kf : ¬ a = 0 → AW G M Qr Qt cs sl (pc + 3) ls st h) : AW G M Qr Qt cs sl pc ls (vi a :: st) h := by
  intro p e s0 m args below meth c H locs lsR C R S L
  exact lv_if_eq C.1 C.2.1 hd ht (fun q => kt ((i_eq ha z32).mp q) p e s0 m args below meth c H locs lsR C R S L) (fun q => kf (fun z => q ((i_eq ha z32).mpr z)) p e s0 m args below meth c H locs lsR C R S L)
theorem aw_if_ne (hd : decode M.2.1 pc = .ok (.ifCond .ne o, 3)) (ht : (pc : Int) + o = (tgt : Int)) (ha : I32 a) (kt : ¬ a = 0 → AW G M Qr Qt cs sl tgt ls st h) (kf : a = 0 → AW G M Qr Qt cs sl (pc + 3) ls st h) : AW G M Qr Qt cs sl pc ls (vi a :: st) h := by
  intro p e s0 m args below meth c H locs lsR C R S L
  exact lv_if_ne C.1 C.2.1 hd ht (fun q => kt (fun z => q ((i_eq ha z32).mpr z)) p e s0 m args below meth c H locs lsR C R S L) (fun q => kf ((i_eq ha z32).mp q) p e s0 m args below meth c H locs lsR C R S L)
theorem aw_if_lt (hd : decode M.2.1 pc = .ok (.ifCond .lt o, 3)) (ht : (pc : Int) + o = (tgt : Int)) (ha : I32 a) (kt : a < 0 → AW G M Qr Qt cs sl tgt ls st h) (kf : ¬ a < 0 → AW G M Qr Qt cs sl (pc + 3) ls st h) : AW G M Qr Qt cs sl pc ls (vi a :: st) h := by
  intro p e s0 m args below meth c H locs lsR C R S L
  exact lv_if_lt C.1 C.2.1 hd ht (fun q => kt ((i_lt ha z32).mp q) p e s0 m args below meth c H locs lsR C R S L) (fun q => kf (fun z => q ((i_lt ha z32).mpr z)) p e s0 m args below meth c H locs lsR C R S L)
theorem aw_if_ge (hd : decode M.2.1 pc = .ok (.ifCond .ge o, 3)) (ht : (pc : Int) + o = (tgt : Int)) (ha : I32 a) (kt : 0 ≤ a → AW G M Qr Qt cs sl tgt ls st h) (kf : ¬ 0 ≤ a → AW G M Qr Qt cs sl (pc + 3) ls st h) : AW G M Qr Qt cs sl pc ls (vi a :: st) h := by
  intro p e s0 m args below meth c H locs lsR C R S L
  exact lv_if_ge C.1 C.2.1 hd ht (fun q => kt ((i_le z32 ha).mp q) p e s0 m args below meth c H locs lsR C R S L) (fun q => kf (fun z => q ((i_le z32 ha).mpr z)) p e s0 m args below meth c H locs lsR C R S L)
theorem aw_if_gt (hd : decode M.2.1 pc = .ok (.ifCond .gt o, 3)) (ht : (pc : Int) + o = (tgt : Int)) (ha : I32 a) (kt : 0 < a → AW G M Qr Qt cs sl tgt ls st h) (kf : ¬ 0 < a → AW G M Qr Qt cs sl (pc + 3) ls st h) : AW G M Qr Qt cs sl pc ls (vi a :: st) h := by
  intro p e s0 m args below meth c H locs lsR C R S L
  exact lv_if_gt C.1 C.2.1 hd ht (fun q => kt ((i_lt z32 ha).mp q) p e s0 m args below meth c H locs lsR C R S L) (fun q => kf (fun z => q ((i_lt z32 ha).mpr z)) p e s0 m args below meth c H locs lsR C R S L)
theorem aw_if_le (hd : decode M.2.1 pc = .ok (.ifCond .le o, 3)) (ht : (pc : Int) + o = (tgt : Int)) (ha : I32 a) (kt : a ≤ 0 → AW G M Qr Qt cs sl tgt ls st h) (kf : ¬ a ≤ 0 → AW G M Qr Qt cs sl (pc + 3) ls st h) : AW G M Qr Qt cs sl pc ls (vi a :: st) h := by
  intro p e s0 m args below meth c H locs lsR C R S L
  exact lv_if_le C.1 C.2.1 hd ht (fun q => kt ((i_le ha z32).mp q) p e s0 m args below meth c H locs lsR C R S L) (fun q => kf (fun z => q ((i_le ha z32).mpr z)) p e s0 m args below meth c H locs lsR C R S L)
theorem aw_ifnull {r : Option (Nat × Nat)} (hd : decode M.2.1 pc = .ok (.ifnull o, 3)) (ht : (pc : Int) + o = (tgt : Int)) (kt : r = none → AW G M Qr Qt cs sl tgt ls st h) (kf : ∀ q, r = some q → AW G M Qr Qt cs sl (pc + 3) ls st h) : AW G M Qr Qt cs sl pc ls (vo r :: st) h := by
  intro p e s0 m args below meth c H locs lsR C R S L
  cases r with
  | none => exact lv_ifnullN C.1 C.2.1 hd ht (kt rfl p e s0 m args below meth c H locs lsR C R S L)
  | some q => exact lv_ifnull C.1 C.2.1 hd (kf q rfl p e s0 m args below meth c H locs lsR C R S L)
theorem aw_ifnonnull {r : Option (Nat × Nat)} (hd : decode M.2.1 pc = .ok (.ifnonnull o, 3)) (ht : (pc : Int) + o = (tgt : Int)) (kt : ∀ q, r = some q → AW G M Qr Qt cs sl tgt ls st h) (kf : r = none → AW G M Qr Qt cs sl (pc + 3) ls st h) : AW G M Qr Qt cs sl pc ls (vo r :: st) h := by
  intro p e s0 m args below meth c H locs lsR C R S L
  cases r with
  | none => exact lv_ifnonnullN C.1 C.2.1 hd (kf rfl p e s0 m args below meth c H locs lsR C R S L)
  | some q => exact lv_ifnonnull C.1 C.2.1 hd ht (kt q rfl p e s0 m args below meth c H locs lsR C R S L)
/-- the sign of a comparison of longs -/
def cmpI (a b : Int) : Int := if a < b then -1 else if a = b then 0 else 1
theorem cmpI_in (a b : Int) : I32 (cmpI a b) := by unfold cmpI; split <;> (try split) <;> constructor <;> decide
theorem cmpI_lt (a b : Int) : cmpI a b < 0 ↔ a < b := by unfold cmpI; split <;> (try split) <;> omega
theorem cmpI_le (a b : Int) : cmpI a b ≤ 0 ↔ a ≤ b := by unfold cmpI; split <;> (try split) <;> omega
theorem cmpI_eq (a b : Int) : cmpI a b = 0 ↔ a = b := by unfold cmpI; split <;> (try split) <;> omega
theorem cmpI_gt (a b : Int) : 0 < cmpI a b ↔ b < a := by unfold cmpI; split <;> (try split) <;> omega
theorem cmpI_ge (a b : Int) : 0 ≤ cmpI a b ↔ b ≤ a := by unfold cmpI; split <;> (try split) <;> omega
end
end
section
/-! arithmetic with conditions; the heap -/
section
variable {G : GT} {M : MI} {Qr : Option AV → HT → Prop} {Qt : HT → Prop} {cs sl pc : Nat} {ls : LSt} {st : List AV} {h h' : HT} {a b o : Int} {tgt s q n : Nat} {f : Nat → Int}
theorem aw_lcmp (hd : decode M.2.1 pc = .ok (.lcmp, 1)) (ha : I64 a) (hb : I64 b) (k : AW G M Qr Qt cs sl (pc + 1) ls (vi (cmpI a b) :: st) h) : AW G M Qr Qt cs sl pc ls (vl b :: vl a :: st) h := by
  intro p e s0 m args below meth c H locs lsR C R S L
  have k0 := k p e s0 m args below meth c H locs lsR C R S L
  refine W.lcmp C.1 C.2.1 hd ?_
  have : lg_cmp (Int64.ofInt a) (Int64.ofInt b) = Int32.ofInt (cmpI a b) := by
    unfold lg_cmp cmpI
    simp only [gt_iff_lt, l_lt hb ha, l_eq ha hb]
    by_cases h1 : b < a
    · rw [if_pos h1, if_neg (by omega), if_neg (by omega)]; rfl
    · rw [if_neg h1]
      by_cases h2 : a = b
      · rw [if_pos h2, if_neg (by omega), if_pos h2]; rfl
      · rw [if_neg h2, if_pos (by omega)]; rfl
  rw [this]
  exact k0
theorem aw_i2l (hd : decode M.2.1 pc = .ok (.i2l, 1)) (ha : I32 a) (k : AW G M Qr Qt cs sl (pc + 1) ls (vl a :: st) h) : AW G M Qr Qt cs sl pc ls (vi a :: st) h := by
  intro p e s0 m args below meth c H locs lsR C R S L
  exact lv_i2l C.1 C.2.1 hd (il_to ha) (k p e s0 m args below meth c H locs lsR C R S L)
theorem nz32 {b : Int} (hb : I32 b) (h : b ≠ 0) : ¬ Int32.ofInt b = 0 := fun e => h ((i_eq hb z32).mp e)
theorem z64 : I64 0 := by constructor <;> decide
theorem nz64 {b : Int} (hb : I64 b) (h : b ≠ 0) : ¬ Int64.ofInt b = 0 := fun e => h ((l_eq hb z64).mp e)
theorem aw_idiv (hd : decode M.2.1 pc = .ok (.idiv, 1)) (ha : I32 a) (hb : I32 b) (h0 : b ≠ 0) (k : AW G M Qr Qt cs sl (pc + 1) ls (vi (a.tdiv b) :: st) h) : AW G M Qr Qt cs sl pc ls (vi b :: vi a :: st) h := by
  intro p e s0 m args below meth c H locs lsR C R S L
  have k0 := k p e s0 m args below meth c H locs lsR C R S L
  exact lv_idiv C.1 C.2.1 hd (nz32 hb h0) (by rw [i_div ha hb]; exact k0)
theorem aw_irem (hd : decode M.2.1 pc = .ok (.irem, 1)) (ha : I32 a) (hb : I32 b) (h0 : b ≠ 0) (k : AW G M Qr Qt cs sl (pc + 1) ls (vi (a.tmod b) :: st) h) : AW G M Qr Qt cs sl pc ls (vi b :: vi a :: st) h := by
  intro p e s0 m args below meth c H locs lsR C R S L
  have k0 := k p e s0 m args below meth c H locs lsR C R S L
  exact lv_irem C.1 C.2.1 hd (nz32 hb h0) (by rw [i_rem ha hb]; exact k0)
theorem aw_ldiv (hd : decode M.2.1 pc = .ok (.ldiv, 1)) (ha : I64 a) (hb : I64 b) (h0 : b ≠ 0) (k : AW G M Qr Qt cs sl (pc + 1) ls (vl (a.tdiv b) :: st) h) : AW G M Qr Qt cs sl pc ls (vl b :: vl a :: st) h := by
  intro p e s0 m args below meth c H locs lsR C R S L
  have k0 := k p e s0 m args below meth c H locs lsR C R S L
  exact lv_ldiv C.1 C.2.1 hd (nz64 hb h0) (by rw [l_div ha hb]; exact k0)
theorem aw_lrem (hd : decode M.2.1 pc = .ok (.lrem, 1)) (ha : I64 a) (hb : I64 b) (h0 : b ≠ 0) (k : AW G M Qr Qt cs sl (pc + 1) ls (vl (a.tmod b) :: st) h) : AW G M Qr Qt cs sl pc ls (vl b :: vl a :: st) h := by
  intro p e s0 m args below meth c H locs lsR C R S L
  have k0 := k p e s0 m args below meth c H locs lsR C R S L
  exact lv_lrem C.1 C.2.1 hd (nz64 hb h0) (by rw [l_rem ha hb]; exact k0)
theorem aw_ldc {ix : Nat} {v : Int32} (hd : decode M.2.1 pc = .ok (.ldc ix, 2)) (hw : Cond.constant M.1.cls ix v ∈ lw_tbl) (hv : v.toInt = a) (k : AW G M Qr Qt cs sl (pc + 2) ls (vi a :: st) h) : AW G M Qr Qt cs sl pc ls st h := by
  intro p e s0 m args below meth c H locs lsR C R S L
  have k0 := k p e s0 m args below meth c H locs lsR C R S L
  exact lv_ldc C.1 C.2.1 C.2.2.2.2.1 (C.2.2.2.2.2.1 _ (tb_mem hw rfl)) hd (by rw [← i_of v, hv]; exact k0)
theorem aw_ldc2 {ix : Nat} {v : Int64} (hd : decode M.2.1 pc = .ok (.ldc2_w ix, 3)) (hw : Cond.constantLong M.1.cls ix v ∈ lw_tbl) (hv : v.toInt = a) (k : AW G M Qr Qt cs sl (pc + 3) ls (vl a :: st) h) : AW G M Qr Qt cs sl pc ls st h := by
  intro p e s0 m args below meth c H locs lsR C R S L
  have k0 := k p e s0 m args below meth c H locs lsR C R S L
  exact lv_ldc2 C.1 C.2.1 C.2.2.2.2.1 (C.2.2.2.2.2.1 _ (tb_mem hw rfl)) hd (by rw [← Int64.ofInt_toInt v, hv]; exact k0)
/-- any int by its 32 bits -/
theorem aw_wrap (k : AW G M Qr Qt cs sl pc ls (vi (w32 a) :: st) h) : AW G M Qr Qt cs sl pc ls (vi a :: st) h := by
  intro p e s0 m args below meth c H locs lsR C R S L
  have k0 := k p e s0 m args below meth c H locs lsR C R S L
  simp only [List.map, conc, i_wrap] at k0
  exact k0
def tyT (t : Nat) : FieldType := match t with
  | 0 => .int
  | 1 => .long
  | 2 => .byte
  | _ => .boolean
theorem rep_ar {H : Heap} {ty : Nat} (R : Rep G h H) (hg : hget h s q = some (ar ty n f)) : (ty ≤ 3 ∧ n ≤ 2147483647 ∧ ∀ j, inT ty (f j)) ∧ H[adr G.2.2.2 (s, q)]? = some (vp_cell (G.2.2.1 ty) (n, if ty = 1 then .inr (.inl (fun j => Int64.ofInt (f j))) else .inl (fun j => Int32.ofInt (f j)))) := ⟨(R.2 s q _ hg).2.1, (R.2 s q _ hg).2.2⟩
theorem adr_ge (base : Nat) (x : Nat × Nat) : base ≤ adr base x := by simp only [adr]; omega
theorem aw_iald {j : Nat} (hd : decode M.2.1 pc = .ok (.iaload, 1)) (hg : hget h s q = some (ar 0 n f)) (hi : a = (j : Int)) (hj : j < n) (k : I32 (f j) → AW G M Qr Qt cs sl (pc + 1) ls (vi (f j) :: st) h) : AW G M Qr Qt cs sl pc ls (vi a :: vr s q :: st) h := by
  intro p e s0 m args below meth c H locs lsR C R S L
  subst hi
  obtain ⟨⟨-, hn, hf⟩, hc⟩ := rep_ar R hg
  have k0 := k (hf j) p e s0 m args below meth c H locs lsR C R S L
  have hcl : (Int32.ofInt (j : Int)).toNatClampNeg = j := by rw [i_clamp (by constructor <;> omega) (by omega)]; rfl
  have hP : va_P G.2.1 cls [(adr G.2.2.2 (s, q), .inl (G.2.2.1 0, n, .inl (fun j => Int32.ofInt (f j))))] H := fun z x hx => by
    cases z with
    | zero => cases hx; exact hc
    | succ z => simp at hx
  refine va_iald C.1 C.2.1 C.2.2.2.2.2.2.2.1 hP 0 0 rfl rfl (i_vp (by constructor <;> omega) (by omega) (by omega)) hd ?_
  rw [hcl]
  exact k0
theorem aw_lald {j : Nat} (hd : decode M.2.1 pc = .ok (.laload, 1)) (hg : hget h s q = some (ar 1 n f)) (hi : a = (j : Int)) (hj : j < n) (k : I64 (f j) → AW G M Qr Qt cs sl (pc + 1) ls (vl (f j) :: st) h) : AW G M Qr Qt cs sl pc ls (vi a :: vr s q :: st) h := by
  intro p e s0 m args below meth c H locs lsR C R S L
  subst hi
  obtain ⟨⟨-, hn, hf⟩, hc⟩ := rep_ar R hg
  have k0 := k (hf j) p e s0 m args below meth c H locs lsR C R S L
  have hcl : (Int32.ofInt (j : Int)).toNatClampNeg = j := by rw [i_clamp (by constructor <;> omega) (by omega)]; rfl
  have hP : va_P G.2.1 cls [(adr G.2.2.2 (s, q), .inl (G.2.2.1 1, n, .inr (.inl (fun j => Int64.ofInt (f j)))))] H := fun z x hx => by
    cases z with
    | zero => cases hx; exact hc
    | succ z => simp at hx
  refine va_lald C.1 C.2.1 C.2.2.2.2.2.2.2.1 hP 0 1 rfl rfl (i_vp (by constructor <;> omega) (by omega) (by omega)) hd ?_
  rw [hcl]
  exact k0
theorem aw_bald {j : Nat} (hd : decode M.2.1 pc = .ok (.baload, 1)) (hg : hget h s q = some (ar 2 n f)) (hi : a = (j : Int)) (hj : j < n) (k : (-128 ≤ f j ∧ f j ≤ 127) → AW G M Qr Qt cs sl (pc + 1) ls (vi (f j) :: st) h) : AW G M Qr Qt cs sl pc ls (vi a :: vr s q :: st) h := by
  intro p e s0 m args below meth c H locs lsR C R S L
  subst hi
  obtain ⟨⟨-, hn, hf⟩, hc⟩ := rep_ar R hg
  have k0 := k (hf j) p e s0 m args below meth c H locs lsR C R S L
  have hcl : (Int32.ofInt (j : Int)).toNatClampNeg = j := by rw [i_clamp (by constructor <;> omega) (by omega)]; rfl
  have hP : va_P G.2.1 cls [(adr G.2.2.2 (s, q), .inl (G.2.2.1 2, n, .inl (fun j => Int32.ofInt (f j))))] H := fun z x hx => by
    cases z with
    | zero => cases hx; exact hc
    | succ z => simp at hx
  refine va_bald C.1 C.2.1 C.2.2.2.2.2.2.2.1 hP 0 2 rfl rfl (i_vp (by constructor <;> omega) (by omega) (by omega)) hd ?_
  rw [hcl]
  exact k0
theorem aw_zald {j : Nat} (hd : decode M.2.1 pc = .ok (.baload, 1)) (hg : hget h s q = some (ar 3 n f)) (hi : a = (j : Int)) (hj : j < n) (k : (0 ≤ f j ∧ f j ≤ 1) → AW G M Qr Qt cs sl (pc + 1) ls (vi (f j) :: st) h) : AW G M Qr Qt cs sl pc ls (vi a :: vr s q :: st) h := by
  intro p e s0 m args below meth c H locs lsR C R S L
  subst hi
  obtain ⟨⟨-, hn, hf⟩, hc⟩ := rep_ar R hg
  have k0 := k (hf j) p e s0 m args below meth c H locs lsR C R S L
  have hcl : (Int32.ofInt (j : Int)).toNatClampNeg = j := by rw [i_clamp (by constructor <;> omega) (by omega)]; rfl
  have hP : va_P G.2.1 cls [(adr G.2.2.2 (s, q), .inl (G.2.2.1 3, n, .inl (fun j => Int32.ofInt (f j))))] H := fun z x hx => by
    cases z with
    | zero => cases hx; exact hc
    | succ z => simp at hx
  refine va_zald C.1 C.2.1 C.2.2.2.2.2.2.2.1 hP 0 3 rfl rfl (i_vp (by constructor <;> omega) (by omega) (by omega)) hd ?_
  rw [hcl]
  exact k0
theorem ok_up {ty n : Nat} {f : Nat → Int} {j : Nat} {x : Int} (ho : ty ≤ 3 ∧ n ≤ 2147483647 ∧ ∀ j, inT ty (f j)) (hx : inT ty x) : okC (ar ty n (va_up f j x)) := by
  refine ⟨ho.1, ho.2.1, fun i => ?_⟩
  show inT ty (va_up f j x i)
  unfold va_up
  split
  · exact hx
  · exact ho.2.2 i
theorem aw_iast {j : Nat} {x : Int} (hd : decode M.2.1 pc = .ok (.iastore, 1)) (hg : hget h s q = some (ar 0 n f)) (hi : a = (j : Int)) (hj : j < n) (hx : I32 x) (hh : hset h s q (ar 0 n (va_up f j x)) = h') (k : AW G M Qr Qt cs sl (pc + 1) ls st h') : AW G M Qr Qt cs sl pc ls (vi x :: vi a :: vr s q :: st) h := by
  intro p e s0 m args below meth c H locs lsR C R S L
  subst hi
  subst hh
  obtain ⟨ho, hc⟩ := rep_ar R hg
  have hcl : (Int32.ofInt (j : Int)).toNatClampNeg = j := by rw [i_clamp (by constructor <;> omega) (by omega)]; rfl
  have hin : vp_in (Int32.ofInt (j : Int)) n := i_vp (by constructor <;> omega) (by omega) (by omega)
  refine W.iast C.1 C.2.1 hc ((C.2.2.2.2.2.2.2.1.2 0 _ rfl).1 n (fun j => .int (Int32.ofInt (f j)))) (fun q => by cases q) (by show ¬ (_ < 0 ∨ (arrV _ _ _).slots.size ≤ _); rw [arrV_size]; exact hin) rfl rfl hd fun H1 e1 z oq => ?_
  refine k p e s0 m args below meth c H1 _ lsR C (R.set hg (ok_up ho hx) ?_ z oq) (S.put z oq (adr_ge _ _)) L
  show H1[_]? = some (vp_cell _ _)
  rw [e1, hcl]
  simp only [conE, if_neg (show ¬ (0 : Nat) = 1 by decide)]
  rw [vp_cell_i, vp_cell_i, arrV_store]
  congr 2
  funext i
  simp only [updV, va_up]
  split <;> rfl
theorem aw_last {j : Nat} {x : Int} (hd : decode M.2.1 pc = .ok (.lastore, 1)) (hg : hget h s q = some (ar 1 n f)) (hi : a = (j : Int)) (hj : j < n) (hx : I64 x) (hh : hset h s q (ar 1 n (va_up f j x)) = h') (k : AW G M Qr Qt cs sl (pc + 1) ls st h') : AW G M Qr Qt cs sl pc ls (vl x :: vi a :: vr s q :: st) h := by
  intro p e s0 m args below meth c H locs lsR C R S L
  subst hi
  subst hh
  obtain ⟨ho, hc⟩ := rep_ar R hg
  have hcl : (Int32.ofInt (j : Int)).toNatClampNeg = j := by rw [i_clamp (by constructor <;> omega) (by omega)]; rfl
  have hin : vp_in (Int32.ofInt (j : Int)) n := i_vp (by constructor <;> omega) (by omega) (by omega)
  refine W.last C.1 C.2.1 hc ((C.2.2.2.2.2.2.2.1.2 1 _ rfl).1 n (fun j => .long (Int64.ofInt (f j)))) (fun q => by cases q) (by show ¬ (_ < 0 ∨ (arrV _ _ _).slots.size ≤ _); rw [arrV_size]; exact hin) rfl rfl hd fun H1 e1 z oq => ?_
  refine k p e s0 m args below meth c H1 _ lsR C (R.set hg (ok_up ho hx) ?_ z oq) (S.put z oq (adr_ge _ _)) L
  show H1[_]? = some (vp_cell _ _)
  rw [e1, hcl]
  simp only [conE, if_pos]
  rw [vp_cell_l, vp_cell_l, arrV_store]
  congr 2
  funext i
  simp only [updV, va_up]
  split <;> rfl
theorem aw_bast {j : Nat} {x : Int} (hd : decode M.2.1 pc = .ok (.bastore, 1)) (hg : hget h s q = some (ar 2 n f)) (hi : a = (j : Int)) (hj : j < n) (hx : -128 ≤ x ∧ x ≤ 127) (hh : hset h s q (ar 2 n (va_up f j x)) = h') (k : AW G M Qr Qt cs sl (pc + 1) ls st h') : AW G M Qr Qt cs sl pc ls (vi x :: vi a :: vr s q :: st) h := by
  intro p e s0 m args below meth c H locs lsR C R S L
  subst hi
  subst hh
  obtain ⟨ho, hc⟩ := rep_ar R hg
  have hcl : (Int32.ofInt (j : Int)).toNatClampNeg = j := by rw [i_clamp (by constructor <;> omega) (by omega)]; rfl
  have hin : vp_in (Int32.ofInt (j : Int)) n := i_vp (by constructor <;> omega) (by omega) (by omega)
  have hnar : narrow .byte (.int (Int32.ofInt x)) = .int (Int32.ofInt x) := by
    rw [← i_b8 hx.1 hx.2]
    have := pk_nb (Int8.ofInt x).toInt32
    simpa using this
  refine W.bast C.1 C.2.1 hc ((C.2.2.2.2.2.2.2.1.2 2 _ rfl).1 n (fun j => .int (Int32.ofInt (f j)))) (fun q => by cases q) (by show ¬ (_ < 0 ∨ (arrV _ _ _).slots.size ≤ _); rw [arrV_size]; exact hin) rfl rfl hd fun H1 e1 z oq => ?_
  refine k p e s0 m args below meth c H1 _ lsR C (R.set hg (ok_up ho hx) ?_ z oq) (S.put z oq (adr_ge _ _)) L
  show H1[_]? = some (vp_cell _ _)
  rw [e1, hcl, hnar]
  simp only [conE, if_neg (show ¬ (2 : Nat) = 1 by decide)]
  rw [vp_cell_i, vp_cell_i, arrV_store]
  congr 2
  funext i
  simp only [updV, va_up]
  split <;> rfl
theorem aw_zast {j : Nat} {x : Int} (hd : decode M.2.1 pc = .ok (.bastore, 1)) (hg : hget h s q = some (ar 3 n f)) (hi : a = (j : Int)) (hj : j < n) (hx : 0 ≤ x ∧ x ≤ 1) (hh : hset h s q (ar 3 n (va_up f j x)) = h') (k : AW G M Qr Qt cs sl (pc + 1) ls st h') : AW G M Qr Qt cs sl pc ls (vi x :: vi a :: vr s q :: st) h := by
  intro p e s0 m args below meth c H locs lsR C R S L
  subst hi
  subst hh
  obtain ⟨ho, hc⟩ := rep_ar R hg
  have hcl : (Int32.ofInt (j : Int)).toNatClampNeg = j := by rw [i_clamp (by constructor <;> omega) (by omega)]; rfl
  have hin : vp_in (Int32.ofInt (j : Int)) n := i_vp (by constructor <;> omega) (by omega) (by omega)
  have hnar : narrow .boolean (.int (Int32.ofInt x)) = .int (Int32.ofInt x) := by
    rcases (show x = 0 ∨ x = 1 by omega) with rfl | rfl <;> rfl
  refine W.zast C.1 C.2.1 hc ((C.2.2.2.2.2.2.2.1.2 3 _ rfl).1 n (fun j => .int (Int32.ofInt (f j)))) (fun q => by cases q) (by show ¬ (_ < 0 ∨ (arrV _ _ _).slots.size ≤ _); rw [arrV_size]; exact hin) rfl rfl hd fun H1 e1 z oq => ?_
  refine k p e s0 m args below meth c H1 _ lsR C (R.set hg (ok_up ho hx) ?_ z oq) (S.put z oq (adr_ge _ _)) L
  show H1[_]? = some (vp_cell _ _)
  rw [e1, hcl, hnar]
  simp only [conE, if_neg (show ¬ (3 : Nat) = 1 by decide)]
  rw [vp_cell_i, vp_cell_i, arrV_store]
  congr 2
  funext i
  simp only [updV, va_up]
  split <;> rfl
end
end
section
section
variable {G : GT} {M : MI} {Qr : Option AV → HT → Prop} {Qt : HT → Prop} {cs sl pc : Nat} {ls : LSt} {st : List AV} {h h' : HT} {a b o : Int} {tgt s q n : Nat} {f : Nat → Int} {g : Nat → Option (Nat × Nat)}
theorem aw_alen {ty : Nat} (hd : decode M.2.1 pc = .ok (.arraylength, 1)) (hg : hget h s q = some (ar ty n f)) (k : (n : Int) ≤ 2147483647 → AW G M Qr Qt cs sl (pc + 1) ls (vi n :: st) h) : AW G M Qr Qt cs sl pc ls (vr s q :: st) h := by
  intro p e s0 m args below meth c H locs lsR C R S L
  obtain ⟨⟨hty, hn, hf⟩, hc⟩ := rep_ar R hg
  have k0 := k (by omega) p e s0 m args below meth c H locs lsR C R S L
  have hP : va_P G.2.1 cls [(adr G.2.2.2 (s, q), .inl (G.2.2.1 ty, n, if ty = 1 then .inr (.inl (fun j => Int64.ofInt (f j))) else .inl (fun j => Int32.ofInt (f j))))] H := fun z x hx => by
    cases z with
    | zero => cases hx; exact hc
    | succ z => simp at hx
  have ht : ∃ t, (tyG G)[ty]? = some (G.2.2.1 ty, t) := by
    rcases (show ty = 0 ∨ ty = 1 ∨ ty = 2 ∨ ty = 3 by omega) with rfl | rfl | rfl | rfl <;> exact ⟨_, rfl⟩
  obtain ⟨t, ht⟩ := ht
  exact va_alen (v := Int32.ofInt n) C.1 C.2.1 C.2.2.2.2.2.2.2.1 hP 0 ty rfl ht rfl hd k0
theorem rep_rs {H : Heap} (R : Rep G h H) (hg : hget h s q = some (rs n g)) : n ≤ 2147483647 ∧ H[adr G.2.2.2 (s, q)]? = some (vp_cell (G.2.2.1 4) (n, .inr (.inr (.inr (.inr (fun j => (g j).map (adr G.2.2.2))))))) := ⟨(R.2 s q _ hg).2.1, (R.2 s q _ hg).2.2⟩
theorem aw_aald {j : Nat} (hd : decode M.2.1 pc = .ok (.aaload, 1)) (hg : hget h s q = some (rs n g)) (hi : a = (j : Int)) (hj : j < n) (k : AW G M Qr Qt cs sl (pc + 1) ls (vo (g j) :: st) h) : AW G M Qr Qt cs sl pc ls (vi a :: vr s q :: st) h := by
  intro p e s0 m args below meth c H locs lsR C R S L
  subst hi
  obtain ⟨hn, hc⟩ := rep_rs R hg
  have k0 := k p e s0 m args below meth c H locs lsR C R S L
  have hcl : (Int32.ofInt (j : Int)).toNatClampNeg = j := by rw [i_clamp (by constructor <;> omega) (by omega)]; rfl
  have hP : va_P G.2.1 cls [(adr G.2.2.2 (s, q), .inl (G.2.2.1 4, n, .inr (.inr (.inr (.inr (fun j => (g j).map (adr G.2.2.2)))))))] H := fun z x hx => by
    cases z with
    | zero => cases hx; exact hc
    | succ z => simp at hx
  refine va_aldq C.1 C.2.1 C.2.2.2.2.2.2.2.1 hP 0 4 rfl rfl (i_vp (by constructor <;> omega) (by omega) (by omega)) hd ?_
  rw [hcl]
  exact k0
/-- a law, or null, is put -/
theorem aw_aast {j : Nat} {r : Option (Nat × Nat)} (hd : decode M.2.1 pc = .ok (.aastore, 1)) (hg : hget h s q = some (rs n g)) (hi : a = (j : Int)) (hj : j < n) (hr : ∀ x, r = some x → ∃ fs, hget h x.1 x.2 = some (ob 9 fs)) (hh : hset h s q (rs n (va_up g j r)) = h') (k : AW G M Qr Qt cs sl (pc + 1) ls st h') : AW G M Qr Qt cs sl pc ls (vo r :: vi a :: vr s q :: st) h := by
  intro p e s0 m args below meth c H locs lsR C R S L
  subst hi
  subst hh
  obtain ⟨ho, hc⟩ := rep_rs R hg
  have hK := C.2.2.2.2.2.2.2.1
  have hcl : (Int32.ofInt (j : Int)).toNatClampNeg = j := by rw [i_clamp (by constructor <;> omega) (by omega)]; rfl
  have hin : vp_in (Int32.ofInt (j : Int)) n := i_vp (by constructor <;> omega) (by omega) (by omega)
  have hend : ∀ H1 : Heap, H1[adr G.2.2.2 (s, q)]? = some ((vp_cell (G.2.2.1 4) (n, .inr (.inr (.inr (.inr (fun j => (g j).map (adr G.2.2.2))))))).setSlot j (va_rf (r.map (adr G.2.2.2)))) → va_at G.2.1 cls (adr G.2.2.2 (s, q), conE G (rs n (va_up g j r))) H1 := by
    intro H1 e1
    show H1[_]? = some (vp_cell _ _)
    rw [e1]
    simp only [conE]
    rw [vp_cell_q, vp_cell_q, arrV_store]
    congr 2
    funext i
    simp only [updV, va_up]
    split <;> rfl
  cases r with
  | none =>
    refine va_WaastN (C := "ChanceBench$Law") C.1 C.2.1 hc ((hK.2 4 _ rfl).1 n (fun j => va_rf ((g j).map (adr G.2.2.2)))) (fun h => by cases h) (by show ¬ (_ < 0 ∨ (arrV _ _ _).slots.size ≤ _); rw [arrV_size]; exact hin) rfl rfl hd fun H1 e1 z oq => ?_
    rw [hcl] at e1
    exact k p e s0 m args below meth c H1 _ lsR C (R.set hg ho (hend H1 e1) z oq) (S.put z oq (adr_ge _ _)) L
  | some x =>
    obtain ⟨fs, hx⟩ := hr x rfl
    obtain ⟨r', hr', cellV, g1, g2, g3, -⟩ := (R.2 x.1 x.2 _ hx).2.2
    have hc9 : cls[9]? = some ("ChanceBench$Law", cT9, 3) := rfl
    have hcls := (hK.1 9 _ hc9).2
    obtain ⟨kA, comp, k1, k2, k3, -⟩ := (hK.2 4 _ rfl).2
    have hcomp : comp = G.2.1.1 9 := Option.some.inj (k3.symm.trans hcls.1)
    subst hcomp
    obtain ⟨kC, hkC, -⟩ := hcls.2
    refine W.aast C.1 C.2.1 hc (fun q h => by cases h) (fun h => by cases h) k1 k2 rfl hkC ⟨fun q => hin (Or.inl q), by show _ < (arrV _ _ _).slots.size; rw [arrV_size, hcl]; exact hj⟩ g1 (fun q h => by rw [g3] at h; cases h) (by rw [g2]; exact hkC) (by rw [g2]; exact va_assign hcls) rfl rfl hd fun H1 e1 z oq => ?_
    rw [hcl] at e1
    exact k p e s0 m args below meth c H1 _ lsR C (R.set hg ho (hend H1 e1) z oq) (S.put z oq (adr_ge _ _)) L
def fitV (ty : FieldType) (v : AV) : Prop := match ty, v with
  | .int, .inl z => I32 z
  | .boolean, .inl z => 0 ≤ z ∧ z ≤ 1
  | .long, .inr (.inl z) => I64 z
  | .object _, .inr (.inr _) => True
  | .array _, .inr (.inr _) => True
  | _, _ => False
theorem fitV_ok {base : Nat} {ty : FieldType} {v : AV} (h : fitV ty v) : narrow ty (conc base v) = conc base v ∧ fits ty (conc base v) = true ∧ okV v := by
  cases ty <;> rcases v with z | z | r <;> simp only [fitV] at h
  all_goals first
    | exact ⟨rfl, rfl, h⟩
    | (cases r <;> exact ⟨rfl, rfl, trivial⟩)
    | (rcases (show z = 0 ∨ z = 1 by omega) with rfl | rfl <;> exact ⟨rfl, rfl, by constructor <;> omega⟩)
def finOf (ci k : Nat) : Bool := match cls[ci]? with
  | some r => (r.2.1 k).2.2.2
  | none => false
theorem ok_set {ci : Nat} {fs : List AV} {k : Nat} {v : AV} (h : okC (ob ci fs)) (hv : okV v) : okC (ob ci (fs.set k v)) := by
  intro w hw
  rcases List.mem_or_eq_of_mem_set hw with h1 | h1
  · exact h w h1
  · rw [h1]; exact hv
theorem aw_put {idx ci k : Nat} {fs : List AV} {v : AV} (hd : decode M.2.1 pc = .ok (.putfield idx, 3)) (hf : (fOK M.1.cls idx ci k && !finOf ci k) = true) (hg : hget h s q = some (ob ci fs)) (hk : k < fs.length) (hv : fitV (clY ci k) v) (hh : hset h s q (ob ci (fs.set k v)) = h') (kk : AW G M Qr Qt cs sl (pc + 3) ls st h') : AW G M Qr Qt cs sl pc ls (v :: vr s q :: st) h := by
  intro p e s0 m args below meth c H locs lsR C R S L
  subst hh
  obtain ⟨hx, hb, hr, hml, hown, hts, hlk, hK, -⟩ := id C
  simp only [Bool.and_eq_true, Bool.not_eq_true'] at hf
  obtain ⟨hf, hfin⟩ := hf
  unfold fOK at hf
  unfold finOf at hfin
  split at hf
  · rename_i r hc
    rw [hc] at hfin
    dsimp only at hfin
    simp only [Bool.and_eq_true, decide_eq_true_eq] at hf
    obtain ⟨⟨h1, h2⟩, h3⟩ := hf
    obtain ⟨v1, v2, v3⟩ := fitV_ok (base := G.2.2.2) hv
    have hD : va_D (gA G) [(adr G.2.2.2 (s, q), (.inr (ci, fs.map (conc G.2.2.2)) : va_E))] := ⟨fun i j x y hx hy _ => by
      have a1 := (List.getElem?_eq_some_iff.mp hx).1
      have a2 := (List.getElem?_eq_some_iff.mp hy).1
      simp at a1 a2
      omega, fun i x hx => by
      cases i with
      | zero => cases hx; exact adr_ge _ _
      | succ i => simp at hx⟩
    have hap := va_apart (own := M.1.cls) hts (cls_ws hc) (clY ci) (cls_ty hc) (cls_nm hc) hK hc
    obtain ⟨r9, h9, cell, q1, q2, q3, q4⟩ := rep_ob R hg 0 _ rfl
    cases Option.some.inj (h9.symm.trans hc)
    obtain ⟨hS, hfc, kC, hkC, hkind⟩ := hK.1 ci _ hc
    obtain ⟨cf, kf, fi, fd, hi, hsl⟩ := hS k h1
    have hlay := hts _ (cls_ws hc _ (u_in_lay h1))
    unfold u_lay at hlay
    rw [if_neg (by rw [hfin]; decide)] at hlay
    have hst := (u_facts hfc hkC (u_lays hts (cls_ws hc) h1) hi).1
    have h6 := u_store hfc hkC hkind hlay hi (cls_ty hc k h1) v1 v2
    refine W.putK hx hb (f := fd) ⟨hown, hts _ (tb_mem h3 rfl), ⟨_, _, _, by rw [h2] at hi; exact hi⟩, hst⟩ (by rw [q2]; exact h6) q1 q3 (by rw [hsl]; exact k2_hasslot (q4 k h1)) rfl rfl hd fun H' e1 e2 e3 => ?_
    rw [hsl] at e1 ⊢
    refine kk p e s0 m args below meth c H' _ lsR C (R.set hg (ok_set (R.2 s q _ hg).2.1 v3) ?_ e2 e3) (S.put e2 e3 (adr_ge _ _)) L
    refine ⟨_, hc, t_OB.to (V := updV (vp_V (fs.map (conc G.2.2.2))) k (conc G.2.2.2 v)) ⟨_, e1, q2, q3, t_set q4 hap h1 _⟩ (fun j _ => ?_)⟩
    show _ = vp_V ((fs.set k v).map (conc G.2.2.2)) j
    rw [List.map_set]
    exact vp_updV_set (by simpa using hk) _ j
  · cases hf
theorem aw_putF {idx ci k : Nat} {fs : List AV} {v : AV} (hd : decode M.2.1 pc = .ok (.putfield idx, 3)) (hf : (fOK M.1.cls idx ci k && finOf ci k && decide (M.1.name = "<init>") && decide ((cls[ci]?).map (fun r => r.1) = some M.1.cls)) = true) (hg : hget h s q = some (ob ci fs)) (hk : k < fs.length) (hv : fitV (clY ci k) v) (hh : hset h s q (ob ci (fs.set k v)) = h') (kk : AW G M Qr Qt cs sl (pc + 3) ls st h') : AW G M Qr Qt cs sl pc ls (v :: vr s q :: st) h := by
  intro p e s0 m args below meth c H locs lsR C R S L
  subst hh
  obtain ⟨hx, hb, hr, hml, hown, hts, hlk, hK, hz, hex, hname, -⟩ := id C
  simp only [Bool.and_eq_true, decide_eq_true_eq] at hf
  obtain ⟨⟨⟨hf, hfin⟩, hinit⟩, hcl⟩ := hf
  unfold fOK at hf
  unfold finOf at hfin
  split at hf
  · rename_i r hc
    rw [hc] at hfin hcl
    dsimp only at hfin
    have hcl : r.1 = M.1.cls := Option.some.inj hcl
    simp only [Bool.and_eq_true, decide_eq_true_eq] at hf
    obtain ⟨⟨h1, h2⟩, h3⟩ := hf
    obtain ⟨v1, v2, v3⟩ := fitV_ok (base := G.2.2.2) hv
    have hap := va_apart (own := M.1.cls) hts (cls_ws hc) (clY ci) (cls_ty hc) (cls_nm hc) hK hc
    obtain ⟨r9, h9, cell, q1, q2, q3, q4⟩ := rep_ob R hg 0 _ rfl
    cases Option.some.inj (h9.symm.trans hc)
    obtain ⟨hS, hfc, kC, hkC, hkind⟩ := hK.1 ci _ hc
    obtain ⟨cf, kf, fi, fd, hi, hsl⟩ := hS k h1
    have hlay := hts _ (cls_ws hc _ (u_in_lay h1))
    unfold u_lay at hlay
    rw [if_pos hfin] at hlay
    have hst := (u_facts hfc hkC (u_lays hts (cls_ws hc) h1) hi).1
    have hcf : m.cls = cf := by
      obtain ⟨_, _, c', _, _, _, -, -, hf', -, -, -, hown2, -⟩ := Cond.laysFinal_spec hlay
      have e1 : c' = cf := by have := hi.symm.trans hf'; simp at this; exact this.1.symm
      rw [h2, hcl] at hown2
      rw [← e1]; exact Option.some.inj (hown.symm.trans hown2)
    have h6 := u_fits hfc hkC hkind (Or.inr hlay) hi (cls_ty hc k h1) v1 v2
    refine W.putFinK hx hb hown (hts _ (tb_mem h3 rfl)) (by rw [h2] at hi; exact hi) hst hcf (by rw [hname]; exact hinit) (by rw [q2]; exact h6) q1 q3 (by rw [hsl]; exact k2_hasslot (q4 k h1)) rfl rfl hd fun H' e1 e2 e3 => ?_
    rw [hsl] at e1 ⊢
    refine kk p e s0 m args below meth c H' _ lsR C (R.set hg (ok_set (R.2 s q _ hg).2.1 v3) ?_ e2 e3) (S.put e2 e3 (adr_ge _ _)) L
    refine ⟨_, hc, t_OB.to (V := updV (vp_V (fs.map (conc G.2.2.2))) k (conc G.2.2.2 v)) ⟨_, e1, q2, q3, t_set q4 hap h1 _⟩ (fun j _ => ?_)⟩
    show _ = vp_V ((fs.set k v).map (conc G.2.2.2)) j
    rw [List.map_set]
    exact vp_updV_set (by simpa using hk) _ j
  · cases hf
theorem S_push {A : Nat → Prop} {H0 H H1 : Heap} {locs : List Loc} (S : va_S A H0 H locs) (hz : H1.size = H.size + 1) (oq : ∀ q, q < H.size → H1[q]? = H[q]?) : va_S A H0 H1 locs :=
  ⟨Nat.le_trans S.1 (by omega), fun x h1 h2 => (oq x (Nat.lt_of_lt_of_le h1 S.1)).trans (S.2.1 x h1 h2), S.2.2⟩
def dflV (ty : FieldType) : AV := match ty with
  | .long => vl 0
  | .object _ => vn
  | .array _ => vn
  | _ => vi 0
def dfs (ci N : Nat) : List AV := (List.range N).map (fun k => dflV (clY ci k))
def tyOK (ty : FieldType) : Bool := match ty with
  | .int => true
  | .long => true
  | .boolean => true
  | .object _ => true
  | .array _ => true
  | _ => false
def nOK (own : String) (idx ci : Nat) : Bool := match cls[ci]? with
  | some r => decide (Cond.classLink own idx r.1 ∈ lw_tbl) && decide (Cond.instantiable r.1 r.2.2 ∈ lw_tbl) && decide (Cond.initialized r.1 ∈ lw_tbl) && (List.range r.2.2).all (fun k => tyOK (clY ci k))
  | none => false
theorem aw_new {idx ci N : Nat} (hd : decode M.2.1 pc = .ok (.new idx, 3)) (hw : nOK M.1.cls idx ci = true) (hN : (cls[ci]?).map (fun r => r.2.2) = some N) (hl : hln h.2 s = some n) (hp : okP s n) (hn : h.1 = off s + n) (hc1 : cs + 1 ≤ M.2.2.2.2.2.1) (hc2 : sl + N ≤ M.2.2.2.2.2.2) (hh : (h.1 + 1, hps h.2 s (some (ob ci (dfs ci N)))) = h')
    (k : AW G M Qr Qt (cs + 1) (sl + N) (pc + 3) ls (vr s n :: st) h') : AW G M Qr Qt cs sl pc ls st h := by
  intro p e s0 m args below meth c H locs lsR C R S L
  subst hh
  obtain ⟨hx, hb, hr, hml, hown, hts, hlk, hK, -⟩ := id C
  unfold nOK at hw
  split at hw
  · rename_i r hc
    rw [hc] at hN
    cases hN
    simp only [Bool.and_eq_true, decide_eq_true_eq] at hw
    obtain ⟨⟨⟨w1, w2⟩, w3⟩, w4⟩ := hw
    have hKn := hK.1 ci _ hc
    refine W.newcK hx hb hown (hts _ (tb_mem w1 rfl)) (hts _ (tb_mem w2 rfl)) (hts _ (tb_mem w3 rfl)) rfl hd hc1 hc2 hKn.2.1 rfl fun H1 kC hkC e1 z1 o1 => ?_
    have hadr : adr G.2.2.2 (s, n) = H.size := by rw [R.1, hn]; simp only [adr]; omega
    have hfs : ∀ j, j < r.2.2 → defaultValue (clY ci j) = vp_V ((dfs ci r.2.2).map (conc G.2.2.2)) j := by
      intro j hj
      have ht := List.all_eq_true.mp w4 j (List.mem_range.mpr hj)
      simp only [vp_V, dfs, List.map_map]
      rw [List.getD_eq_getElem?_getD, List.getElem?_map, List.getElem?_range hj]
      simp only [Option.map_some, Option.getD_some, Function.comp]
      revert ht
      cases clY ci j <;> simp [tyOK, dflV, conc, va_rf] <;> rfl
    have k0 := k p e s0 m args below meth c H1 locs lsR C (R.push hl hp hn ?_ ?_ z1 o1) (S_push S z1 o1) L
    · simp only [List.map, conc, Option.map_some, va_rf, hadr] at k0
      exact k0
    · intro v hv
      simp only [dfs, List.mem_map] at hv
      obtain ⟨j, -, rfl⟩ := hv
      cases clY ci j <;> first | exact z32 | exact z64 | exact trivial
    · refine ⟨_, hc, (u_born (clY ci) hts (cls_ws hc) hKn hkC ?_ (cls_ty hc)).to hfs⟩
      rw [hadr]
      exact e1
  · cases hw
def atT (t : Nat) : ArrayType := match t with
  | 0 => .int
  | 1 => .long
  | 2 => .byte
  | _ => .boolean
theorem aw_newa {t N : Nat} (hd : decode M.2.1 pc = .ok (.newarray (atT t), 2)) (ht : t ≤ 3) (hw : Cond.arrayClass (newarray.typeOf (atT t)) ∈ lw_tbl) (ha : a = (N : Int)) (hN : N ≤ 1000000) (hl : hln h.2 s = some n) (hp : okP s n) (hn : h.1 = off s + n) (hc1 : cs + 1 ≤ M.2.2.2.2.2.1) (hc2 : sl + N ≤ M.2.2.2.2.2.2) (hh : (h.1 + 1, hps h.2 s (some (ar t N (fun _ => 0)))) = h')
    (k : AW G M Qr Qt (cs + 1) (sl + N) (pc + 2) ls (vr s n :: st) h') : AW G M Qr Qt cs sl pc ls (vi a :: st) h := by
  intro p e s0 m args below meth c H locs lsR C R S L
  subst hh
  subst ha
  obtain ⟨hx, hb, hr, hml, hown, hts, hlk, hK, -⟩ := id C
  have hI : I32 (N : Int) := by constructor <;> omega
  have hadr : adr G.2.2.2 (s, n) = H.size := by rw [R.1, hn]; simp only [adr]; omega
  have hcb : componentBytes (newarray.typeOf (atT t)) ≤ 8 := by
    rcases (show t = 0 ∨ t = 1 ∨ t = 2 ∨ t = 3 by omega) with rfl | rfl | rfl | rfl <;> decide
  refine va_newaK hx hb (hts _ (tb_mem hw rfl)) rfl hd rfl (fun q => by have := (i_lt hI z32).mp q; omega) (N := N) (by rw [i_clamp hI (by omega)]; rfl) (Nat.le_trans (Nat.mul_le_mul hN hcb) (by decide)) hc1 hc2 rfl fun H1 cA e1 z1 o1 hAr hNm => ?_
  have k0 := k p e s0 m args below meth c H1 locs lsR C (R.push hl hp hn ?_ ?_ z1 o1) (S_push S z1 o1) L
  · simp only [List.map, conc, Option.map_some, va_rf, hadr] at k0
    exact k0
  · refine ⟨ht, (by show N ≤ 2147483647; omega), fun j => ?_⟩
    rcases (show t = 0 ∨ t = 1 ∨ t = 2 ∨ t = 3 by omega) with rfl | rfl | rfl | rfl <;> simp [inT]
  · show H1[adr G.2.2.2 (s, n)]? = some (vp_cell _ _)
    rw [hadr, e1]
    rcases (show t = 0 ∨ t = 1 ∨ t = 2 ∨ t = 3 by omega) with rfl | rfl | rfl | rfl
    · have := (hK.2 0 _ rfl).2
      cases Option.some.inj (hNm.symm.trans this)
      rfl
    · have := (hK.2 1 _ rfl).2
      cases Option.some.inj (hNm.symm.trans this)
      rfl
    · have := (hK.2 2 _ rfl).2
      cases Option.some.inj (hNm.symm.trans this)
      rfl
    · have := (hK.2 3 _ rfl).2
      cases Option.some.inj (hNm.symm.trans this)
      rfl
theorem aw_anew {idx N : Nat} (hd : decode M.2.1 pc = .ok (.anewarray idx, 3)) (hw : Cond.classLink M.1.cls idx "ChanceBench$Law" ∈ lw_tbl) (hw2 : Cond.arrayOver (.object "ChanceBench$Law") ∈ lw_tbl) (ha : a = (N : Int)) (hN : N ≤ 1000000) (hl : hln h.2 s = some n) (hp : okP s n) (hn : h.1 = off s + n) (hc1 : cs + 1 ≤ M.2.2.2.2.2.1) (hc2 : sl + N ≤ M.2.2.2.2.2.2) (hh : (h.1 + 1, hps h.2 s (some (rs N (fun _ => none)))) = h')
    (k : AW G M Qr Qt (cs + 1) (sl + N) (pc + 3) ls (vr s n :: st) h') : AW G M Qr Qt cs sl pc ls (vi a :: st) h := by
  intro p e s0 m args below meth c H locs lsR C R S L
  subst hh
  subst ha
  obtain ⟨hx, hb, hr, hml, hown, hts, hlk, hK, -⟩ := id C
  have hI : I32 (N : Int) := by constructor <;> omega
  have hadr : adr G.2.2.2 (s, n) = H.size := by rw [R.1, hn]; simp only [adr]; omega
  have hcl : (Int32.ofInt (N : Int)).toNatClampNeg = N := by rw [i_clamp hI (by omega)]; rfl
  refine W.anew hx hb hown (hts _ (tb_mem hw rfl)) (hts _ (tb_mem hw2 rfl)) rfl hd rfl (fun q => by have := (i_lt hI z32).mp q; omega) (by rw [hcl]; omega) hc1 (by rw [hcl]; exact hc2) fun cA kA comp f1 f2 f3 f4 => ?_
  rw [hcl]
  have k0 := k p e s0 m args below meth c (H.push { cls := cA, slots := Array.replicate N .null, vm := .none }) locs lsR C (R.push hl hp hn ?_ ?_ (by simp) (fun q hq => by rw [Array.getElem?_push, if_neg (Nat.ne_of_lt hq)])) (S_push S (by simp) (fun q hq => by rw [Array.getElem?_push, if_neg (Nat.ne_of_lt hq)])) L
  · simp only [List.map, conc, Option.map_some, va_rf, hadr] at k0
    exact k0
  · show N ≤ 2147483647
    omega
  · show (H.push _)[adr G.2.2.2 (s, n)]? = some (vp_cell _ _)
    rw [hadr]
    obtain ⟨kB, compB, b1, b2, b3, b4⟩ := (hK.2 4 _ rfl).2
    cases Option.some.inj (f1.symm.trans b4)
    rw [Array.getElem?_push_size]
    simp only [conE]
    rw [vp_cell_q, arrV_new]
    rfl
end
end
section
/-! entry, returns, calls, throws -/
theorem nB_args {w : Cond} {U : State} {A : Array Value} (hn : okN w = true) (h : w.before #[] U = true) : w.before A U = true := by
  cases w <;> simp only [okN] at hn <;> (try (cases hn; done))
  · exact va_Nw.use rfl h
  · exact va_Nw.use rfl h
  · exact va_Nw.use rfl h
  · exact h
theorem nB_same {u U : State} (e : u.vm = U.vm) (h : nB u) : nB U := by
  intro w hw hn
  have h1 := h w hw hn
  cases w <;> simp only [okN] at hn <;> (try (cases hn; done))
  · exact va_Nw.same rfl e h1
  · exact va_Nw.same rfl e h1
  · exact va_Nw.same rfl e h1
  · rename_i ty
    cases ty <;> simp only [okN] at hn <;> (try (cases hn; done))
    exact va_AO.moved (u := u) (U := U) (by rw [← e]; exact Vm.Alike.refl _) h1
theorem nB_warm {s U : State} (hW : s.WarmedH U.vm) (h : nB s) : nB U := by
  intro w hw hn
  have h1 := h w hw hn
  cases w <;> simp only [okN] at hn <;> (try (cases hn; done))
  · exact va_Nw.warmM hW h1
  · exact va_Nw.warmD hW h1
  · exact va_Nw.warmC hW h1
  · rename_i ty
    cases ty <;> simp only [okN] at hn <;> (try (cases hn; done))
    exact va_AO.moved hW.alike h1
def RepU (G : GT) (h : HT) (U : State) : Prop := Rep G h U.heap ∧ va_K G.2.1 cls (tyG G) U ∧ zU G U U.heap ∧ nB U
def AMet (G : GT) (M : MI) (as : List AV) (h : HT) (Qr : Option AV → HT → Prop) (Qt : HT → Prop) : Prop :=
  G.1.stackTraces = false → vx_Met G.1 M.1 (wsM M) (rmM M) (va_Pc (as.map (conc G.2.2.2)) (RepU G h)) (QcM G Qr) (XcM G Qt) M.2.2.2.2.2.1 M.2.2.2.2.2.2 (gA G)
theorem pc_blind {G : GT} {h : HT} {av : List Value} : FrameBlind (va_Pc av (RepU G h)) := by
  intro a U g mk q
  obtain ⟨q0, q1, q2, q3, q4⟩ := q
  exact ⟨q0, q1, va_K.moved (u := U) (U := U.calling g mk a) (Vm.Alike.refl U.vm) q2, ⟨vx_Zq.moved (u := U) (U := U.calling g mk a) (Vm.Alike.refl U.vm) q3.1, vx_Zq.moved (u := U) (U := U.calling g mk a) (Vm.Alike.refl U.vm) q3.2⟩, nB_same (u := U) (U := U.calling g mk a) rfl q4⟩
/-- the locals with which a method begins -/
def entL : List AV → LSt
  | [] => []
  | .inl z :: r => some (vi z) :: entL r
  | .inr (.inl z) :: r => some (vl z) :: none :: entL r
  | .inr (.inr q) :: r => some (vo q) :: entL r
def entN (as : List AV) (n : Nat) : LSt := entL as ++ List.replicate (n - (entL as).length) none
theorem lvP_app {base : Nat} : ∀ (a : LSt) (i k : Nat), lvP base i (a ++ List.replicate k none) = lvP base i a
  | [], i, k => by
    induction k generalizing i with
    | zero => rfl
    | succ k ih => simp only [List.replicate, List.nil_append, lvP]; exact ih (i + 1)
  | some v :: r, i, k => by simp only [List.cons_append, lvP]; rw [lvP_app r (i + 1) k]
  | none :: r, i, k => by simp only [List.cons_append, lvP]; rw [lvP_app r (i + 1) k]
theorem ent_args {base : Nat} : ∀ (as : List AV) (i : Nat), lvP base i (entL as) = lv_args i (as.map (conc base))
  | [], i => rfl
  | .inl z :: r, i => by
    simp only [entL, lvP, List.map, lv_args]
    rw [ent_args r (i + 1)]
    rfl
  | .inr (.inl z) :: r, i => by
    simp only [entL, lvP, List.map, lv_args]
    rw [ent_args r (i + 1 + 1)]
    rfl
  | .inr (.inr q) :: r, i => by
    simp only [entL, lvP, List.map, lv_args]
    rw [ent_args r (i + 1)]
    cases q <;> rfl
theorem lg_cons (v : Value) (vs : List Value) : (lg_sl (v :: vs)).length = (if v.category = 2 then 2 else 1) + (lg_sl vs).length := by
  unfold lg_sl
  rw [List.flatMap_cons, List.length_append]
  split <;> rfl
theorem ent_len {base : Nat} : ∀ (as : List AV), (lg_sl (as.map (conc base))).length = (entL as).length
  | [] => rfl
  | .inl z :: r => by
    have := ent_len (base := base) r
    rw [List.map_cons, lg_cons, this, if_neg (by simp [conc, Value.category])]
    simp only [entL, List.length_cons]; omega
  | .inr (.inl z) :: r => by
    have := ent_len (base := base) r
    rw [List.map_cons, lg_cons, this, if_pos (show (conc base (Sum.inr (Sum.inl z))).category = 2 from rfl)]
    simp only [entL, List.length_cons]; omega
  | .inr (.inr q) :: r => by
    have := ent_len (base := base) r
    rw [List.map_cons, lg_cons, this, if_neg (by cases q <;> simp [conc, va_rf, Value.category])]
    simp only [entL, List.length_cons]; omega
section
variable {G : GT} {M M' : MI} {Qr Qr' : Option AV → HT → Prop} {Qt Qt' : HT → Prop} {cs sl pc : Nat} {ls : LSt} {st : List AV} {h h' : HT} {a b o : Int} {tgt s q n idx : Nat}
theorem am_entry {as : List AV} (hy : plainName M.1.cls = true) (hn : (entL as).length ≤ M.2.2.1) (k : AW G M Qr Qt 0 0 0 (entN as M.2.2.1) [] h) : AMet G M as h Qr Qt := by
  intro hl
  refine vx_ofW (cc := M.2.1) (maxL := M.2.2.1) (ret := M.2.2.2.1) hy rfl ?_
  intro p e s m args below meth c s₁ B hml hex hv
  obtain ⟨rfl, hR, hK, hZ, hN⟩ := hv
  have hts0 := atoms_spec (ws := wsM M) B.pre
  have C : Cx G M p s m (as.map (conc G.2.2.2)).toArray meth c := ⟨B.exec, B.bytes, B.returns, hml, findClass_of_methodNamed B.named, fun w hw => by
    obtain ⟨h1, h2⟩ := List.mem_filter.mp hw
    unfold okW at h2
    rw [Bool.or_eq_true] at h2
    rcases h2 with h2 | h2
    · exact hts0 w (List.mem_cons_of_mem _ (List.mem_filter.mpr ⟨h1, h2⟩))
    · exact nB_args h2 (hN w h1 h2), B.notSynchronized, hK, hZ, hex, (name_of_methodNamed B.named B.method).1, by rw [hR.1]; omega, hl, hN⟩
  have L := lv_entry (as.map (conc G.2.2.2)) (n := M.2.2.1) (by rw [ent_len]; exact hn)
  rw [lg_entry_eq]
  refine k p e s m _ below meth c s.heap [] _ C hR va_S.rf ?_
  rw [entN, lvP_app, ent_args]
  exact L
theorem am_mono {as : List AV} (hM : AMet G M as h Qr Qt) (h1 : ∀ r h', Qr r h' → Qr' r h') (h2 : ∀ h', Qt h' → Qt' h') : AMet G M as h Qr' Qt' := by
  intro hl p e a1 a2 a3 s m args below f1 f2 f3 f4
  obtain ⟨n, o, g1, g2, g3, g4⟩ := hM hl p e a1 a2 a3 s m args below f1 f2 f3 f4
  refine ⟨n, o, g1, g2, g3, ?_⟩
  rcases g4 with ⟨⟨r, h', x1, x2⟩, x3⟩ | ⟨q, x1, E, ce, L, ⟨y1, h', y2, y3⟩, x2⟩
  · exact Or.inl ⟨⟨r, h', h1 r h' x1, x2⟩, x3⟩
  · exact Or.inr ⟨q, x1, E, ce, L, ⟨y1, h', h2 h' y2, y3⟩, x2⟩
theorem am_met {as : List AV} (hl : G.1.stackTraces = false) (hM : AMet G M as h Qr (fun _ => False)) : Met G.1 M.1 (wsM M) (rmM M) (va_Pc (as.map (conc G.2.2.2)) (RepU G h)) (QcM G Qr) M.2.2.2.2.2.1 M.2.2.2.2.2.2 (gA G) := by
  intro p e a1 a2 a3 s m args below f1 f2 f3 f4
  obtain ⟨n, o, g1, g2, g3, g4⟩ := hM hl p e a1 a2 a3 s m args below f1 f2 f3 f4
  refine ⟨n, o, g1, g2, g3, ?_⟩
  rcases g4 with g4 | ⟨q, x1, E, ce, L, ⟨y1, h', y2, y3⟩, x2⟩
  · exact g4
  · exact y2.elim
theorem aw_iret (hd : decode M.2.1 pc = .ok (.ireturn, 1)) (hr : M.2.2.2.1 = some .int) (hc : cs ≤ M.2.2.2.2.2.1) (hs : sl ≤ M.2.2.2.2.2.2) (hq : Qr (some (vi a)) h) : AW G M Qr Qt cs sl pc ls [vi a] h := by
  intro p e s0 m args below meth c H locs lsR C R S L
  refine W.widen hc hs (vx_ret ?_)
  exact W.iret (v := Int32.ofInt a) C.1 C.2.1 (C.2.2.1.trans hr) (fun t ht hW => ⟨some (vi a), h, hq, rfl, by rw [ht]; exact R, S.F ht⟩) S.2.2 hd C.2.2.2.2.2.2.1
theorem aw_zret (hd : decode M.2.1 pc = .ok (.ireturn, 1)) (hr : M.2.2.2.1 = some .boolean) (hc : cs ≤ M.2.2.2.2.2.1) (hs : sl ≤ M.2.2.2.2.2.2) (ha : 0 ≤ a ∧ a ≤ 1) (hq : Qr (some (vi a)) h) : AW G M Qr Qt cs sl pc ls [vi a] h := by
  intro p e s0 m args below meth c H locs lsR C R S L
  refine W.widen hc hs (vx_ret ?_)
  exact W.zret (v := Int32.ofInt a) C.1 C.2.1 (C.2.2.1.trans hr) (by rcases (show a = 0 ∨ a = 1 by omega) with rfl | rfl <;> rfl) (fun t ht hW => ⟨some (vi a), h, hq, rfl, by rw [ht]; exact R, S.F ht⟩) S.2.2 hd C.2.2.2.2.2.2.1
theorem aw_lret (hd : decode M.2.1 pc = .ok (.lreturn, 1)) (hr : M.2.2.2.1 = some .long) (hc : cs ≤ M.2.2.2.2.2.1) (hs : sl ≤ M.2.2.2.2.2.2) (hq : Qr (some (vl a)) h) : AW G M Qr Qt cs sl pc ls [vl a] h := by
  intro p e s0 m args below meth c H locs lsR C R S L
  refine W.widen hc hs (vx_ret ?_)
  exact W.lret (v := Int64.ofInt a) C.1 C.2.1 (C.2.2.1.trans hr) (fun t ht hW => ⟨some (vl a), h, hq, rfl, by rw [ht]; exact R, S.F ht⟩) S.2.2 hd C.2.2.2.2.2.2.1
theorem aw_aret {r : Option (Nat × Nat)} {C9 : String} (hd : decode M.2.1 pc = .ok (.areturn, 1)) (hr : M.2.2.2.1 = some (.object C9)) (hc : cs ≤ M.2.2.2.2.2.1) (hs : sl ≤ M.2.2.2.2.2.2) (hq : Qr (some (vo r)) h) : AW G M Qr Qt cs sl pc ls [vo r] h := by
  intro p e s0 m args below meth c H locs lsR C R S L
  refine W.widen hc hs (vx_ret ?_)
  refine W.aret (v := va_rf (r.map (adr G.2.2.2))) C.1 C.2.1 (C.2.2.1.trans hr) (Or.inl ⟨C9, rfl⟩) ?_ (fun t ht hW => ⟨some (vo r), h, hq, rfl, by rw [ht]; exact R, S.F ht⟩) S.2.2 hd C.2.2.2.2.2.2.1
  cases r with
  | none => exact Or.inl rfl
  | some x => exact Or.inr ⟨_, rfl⟩
theorem aw_vret (hd : decode M.2.1 pc = .ok (.return_, 1)) (hr : M.2.2.2.1 = none) (hc : cs ≤ M.2.2.2.2.2.1) (hs : sl ≤ M.2.2.2.2.2.2) (hq : Qr none h) : AW G M Qr Qt cs sl pc ls [] h := by
  intro p e s0 m args below meth c H locs lsR C R S L
  refine W.widen hc hs (vx_ret ?_)
  exact W.vret C.1 C.2.1 (C.2.2.1.trans hr) (fun t ht hW => ⟨none, h, hq, rfl, by rw [ht]; exact R, S.F ht⟩) S.2.2 hd C.2.2.2.2.2.2.1
/-- behind a call -/
theorem aw_after {p : Program} {e : Env} {s : State} {m : MethodId} {args : Array Value} {below : List Frame} {meth : Method} {c : Code} {H : Heap} {locs : List Loc} {lsR : Array Slot} {stR : List Value} {a9 : Array Value} {mc ms : Nat}
    (hr : vx_Run p G.1 e (rmM M) s m args below meth c H locs cs sl mc ms (F0 m pc lsR stR) (st.map (conc G.2.2.2)) (QcM G Qr' a9) (XcM G Qt') (gA G)) (C : Cx G M p s m args meth c) (S : va_S (gA G) s.heap H locs) (L : lv_has lsR M.2.2.1 (lvP G.2.2.2 0 ls))
    (hc : cs + mc ≤ M.2.2.2.2.2.1) (hs : sl + ms ≤ M.2.2.2.2.2.2) (kt : ∀ h', Qt' h' → Qt h') (k : ∀ r h', Qr' r h' → AW G M Qr Qt (cs + mc) (sl + ms) (pc + 3) ls (r.toList ++ st) h') :
    W p G.1 e (rmM M) s m args below meth c H locs cs sl (vx_MQ below (QcM G Qr) (XcM G Qt) args s M.2.2.2.2.2.1 M.2.2.2.2.2.2 (gA G)) (F0 m pc lsR stR) := by
  intro T hT X
  rcases hr T hT X with ⟨v, st₀, t, T', Lc, h0, X', hL, e1, e2, ⟨r, h', hq, hv, hR, hF⟩, st9⟩ | ⟨q, st₀, t, T', Lc, E, ce, h0, X', hL, e1, e2, ⟨hE, h', hq, hR, hF⟩, hce, hcv, hcl, st9⟩
  · obtain ⟨-, -, hS⟩ := vx_keep (A1 := gA G) h0 e1 S (fun q _ z => z) (fun q z => z) hL hF
    cases hv
    obtain ⟨t2, a1, b1⟩ := k r h' hq p e s m args below meth c T'.heap _ lsR C (by rw [e1]; exact hR) hS L T' rfl X'
    refine ⟨t2, st9 t2 ?_, b1⟩
    have e9 : (r.toList ++ st).map (conc G.2.2.2) = (r.map (conc G.2.2.2)).toList ++ st.map (conc G.2.2.2) := by cases r <;> simp
    rw [e9] at a1
    exact a1
  · obtain ⟨-, -, hS⟩ := vx_keep (A1 := gA G) h0 e1 S (fun q _ z => z) (fun q z => z) hL hF
    obtain ⟨t2, a1, b1⟩ := vx_out (Qc := QcM G Qr) (XC := XcM G Qt) (pc := pc) (ls := lsR) (rest := st.map (conc G.2.2.2)) (below := below) (free := gA G) (mc := M.2.2.2.2.2.1) (ms := M.2.2.2.2.2.2) (fun x hx => (C.2.2.2.2.2.2.2.2.2.1 x hx).elim) C.2.2.2.2.2.2.1 (by rw [e1]; exact hce) hcv hcl (fun t9 ht9 hA => ⟨hE, h', kt h' hq, by rw [ht9, e1]; exact hR, hS.F ht9⟩) hS.2.2 hc hs T' rfl X'
    exact ⟨t2, st9.trans a1, b1⟩
theorem run_vx {p : Program} {l : Launch} {e : Env} {R : Room} {s : State} {m : MethodId} {args : Array Value} {below : List Frame} {meth : Method} {c : Code} {H : Heap} {locs : List Loc} {mc ms : Nat} {g : JFrame} {rest : List Value} {Qa : State → Outcome → State → Prop} {XC : String → State → State → Prop} {free : Addr → Prop}
    (hr : va_Run p l e R s m args below meth c H locs cs sl mc ms g rest Qa free) : vx_Run p l e R s m args below meth c H locs cs sl mc ms g rest Qa XC free := fun T hT X => Or.inl (hr T hT X)
def cWd (M : MI) : Cond := .code M.1 M.2.1 M.2.2.1 M.2.2.2.1
def bOK (M : MI) (n : Nat) : Bool := decide (cWd M ∈ lw_tbl) && decide (Cond.initialized M.1.cls ∈ lw_tbl) && decide (M.1.cls ≠ "java/lang/invoke/MethodHandle") && decide (M.1.cls ≠ "java/lang/invoke/VarHandle") && decide ((parseMethodDescriptor M.1.desc).map (fun d => d.parameters.length) = some n) && decide (M.2.2.1 ≤ 41)
theorem bOK_good (h : cWd M ∈ lw_tbl) : GoodIn tb (wsM M) := by
  intro w hw
  rcases List.mem_cons.mp hw with hw | hw
  · subst hw
    exact ⟨tb_mem h rfl, good_of_word rfl⟩
  · obtain ⟨h1, h2⟩ := List.mem_filter.mp hw
    exact ⟨tb_mem h1 (by unfold okW; rw [h2]; rfl), good_of_word h2⟩
theorem callB_mk {s : State} {args : Array Value} {own : String} (hts : ∀ w ∈ tb, w.before args s = true) (hb : bOK M' n = true) (hl : Cond.methodLink own idx M'.1 ∈ lw_tbl) (hd1 : M'.2.2.2.2.1 + 1 ≤ M.2.2.2.2.1) :
    CallB (rmM M) s args own idx M'.1 M'.2.1 M'.2.2.1 M'.2.2.2.1 (wsM M') (rmM M') M'.2.2.2.2.2.1 M'.2.2.2.2.2.2 n := by
  simp only [bOK, Bool.and_eq_true, decide_eq_true_eq] at hb
  obtain ⟨⟨⟨⟨⟨b1, b2⟩, b3⟩, b4⟩, b5⟩, b6⟩ := hb
  exact callB_of (ws' := lw_tbl.filter goodWord) n hts (bOK_good b1) rfl rfl rfl (hts _ (tb_mem b2 rfl)) (hts _ (tb_mem hl rfl)) ⟨b3, b4, b5⟩ ⟨hd1, by show 8 + (M'.2.2.1 + 11) + 60 * M'.2.2.2.2.1 ≤ 60 * M.2.2.2.2.1; omega⟩
theorem pre_mk {s : State} {H : Heap} {as : List AV} {p : Program} {m : MethodId} {args : Array Value} {meth : Method} {c : Code} {locs : List Loc} (C : Cx G M p s m args meth c) (R : Rep G h H) (S : va_S (gA G) s.heap H locs) : ∀ U : State, U.heap = H → s.WarmedH U.vm → va_Pc (as.map (conc G.2.2.2)) (RepU G h) (as.map (conc G.2.2.2)).toArray U := by
  intro U hU hW
  obtain ⟨-, -, -, -, -, -, -, hK, hZ, -, -, hb, -, hN⟩ := C
  have hq : ∀ a : Nat, a < s.heap.size → ¬ gA G a → H[a]? = s.heap[a]? := S.2.1
  refine ⟨rfl, by rw [hU]; exact R, va_K.moved hW.alike hK, ⟨?_, ?_⟩, nB_warm hW hN⟩
  · rw [hU]; exact vx_Zq.moved hW.alike (vx_Zq.kept hZ.1 hq)
  · rw [hU]; exact vx_Zq.moved hW.alike (vx_Zq.kept hZ.2 hq)
def catS (st : List AV) : Nat := (st.map (fun v => match v with | .inr (.inl _) => 2 | _ => 1)).sum
theorem catS_eq {base : Nat} : ∀ st : List AV, ((st.map (conc base)).map fun v => v.category).sum = catS st
  | [] => rfl
  | .inl z :: r => by have := catS_eq (base := base) r; simp only [catS, List.map, List.sum_cons] at this ⊢; rw [this]; rfl
  | .inr (.inl z) :: r => by have := catS_eq (base := base) r; simp only [catS, List.map, List.sum_cons] at this ⊢; rw [this]; rfl
  | .inr (.inr q) :: r => by have := catS_eq (base := base) r; simp only [catS, List.map, List.sum_cons] at this ⊢; rw [this]; cases q <;> rfl
def vOK (own : String) (idx : Nat) (M : MI) (n : Nat) : Bool := bOK M n && decide (Cond.methodLink own idx M.1 ∈ lw_tbl) && decide (Cond.instanceMethod M.1 ∈ lw_tbl) && decide (Cond.selects M.1.cls M.1 M.1 ∈ lw_tbl)
theorem aw_callV {as : List AV} {ci : Nat} {fs : List AV} {stk : List AV} (hM : AMet G M' (vr s q :: as) h Qr' Qt') (hd : decode M.2.1 pc = .ok (.invokevirtual idx, 3)) (hw : vOK M.1.cls idx M' as.length = true) (hg : hget h s q = some (ob ci fs)) (hci : (cls[ci]?).map (fun r => r.1) = some M'.1.cls) (hst : stk = as.reverse ++ vr s q :: st) (hcat : catS st ≤ 8) (hd1 : M'.2.2.2.2.1 + 1 ≤ M.2.2.2.2.1) (hc : cs + M'.2.2.2.2.2.1 ≤ M.2.2.2.2.2.1) (hs : sl + M'.2.2.2.2.2.2 ≤ M.2.2.2.2.2.2)
    (kt : ∀ h', Qt' h' → Qt h') (k : ∀ r h', Qr' r h' → AW G M Qr Qt (cs + M'.2.2.2.2.2.1) (sl + M'.2.2.2.2.2.2) (pc + 3) ls (r.toList ++ st) h') : AW G M Qr Qt cs sl pc ls stk h := by
  intro p e s0 m args below meth c H locs lsR C R S L
  subst hst
  obtain ⟨hx, hb, hr, hml, hown, hts, hlk, hK, hZ, hex, hnm, hbs, hl, hN⟩ := id C
  simp only [vOK, Bool.and_eq_true, decide_eq_true_eq] at hw
  obtain ⟨⟨⟨w0, w1⟩, w2⟩, w3⟩ := hw
  have hrec : ∃ cellB : Cell, H[adr G.2.2.2 (s, q)]? = some cellB ∧ cellB.vm.isStatics = false ∧ s0.vm.findClass M'.1.cls = some cellB.cls := by
    cases hcc : cls[ci]? with
    | none => rw [hcc] at hci; cases hci
    | some r =>
      rw [hcc] at hci
      have e9 : r.1 = M'.1.cls := Option.some.inj hci
      rw [← e9]
      exact va_recv hK (rep_ob R hg) (ci := ci) (q0 := 0) hcc rfl
  refine aw_after (st := st) (vx_runV (As := as.map (conc G.2.2.2)) (rest := st.map (conc G.2.2.2)) (b := adr G.2.2.2 (s, q)) ⟨hx, hb, hml, hown, hts⟩ (hM hl) ⟨callB_mk hts w0 w1 hd1, hts _ (tb_mem w2 rfl), hts _ (tb_mem w3 rfl)⟩ ⟨pc_blind, hrec, pre_mk (as := vr s q :: as) C R S⟩ rfl (by simp) L.1 ?_ ?_ hd ⟨hc, hs⟩) C S L hc hs kt k
  · simp [List.map_append, List.map_reverse, conc, va_rf]
  · exact lv_room (by rw [catS_eq]; exact hcat)
def sOK (own : String) (idx : Nat) (M : MI) (n : Nat) : Bool := bOK M n && decide (Cond.methodLink own idx M.1 ∈ lw_tbl) && decide (Cond.static M.1 ∈ lw_tbl)
theorem aw_callS {as : List AV} {stk : List AV} (hM : AMet G M' as h Qr' Qt') (hd : decode M.2.1 pc = .ok (.invokestatic idx, 3)) (hw : sOK M.1.cls idx M' as.length = true) (hst : stk = as.reverse ++ st) (hcat : catS st ≤ 8) (hd1 : M'.2.2.2.2.1 + 1 ≤ M.2.2.2.2.1) (hc : cs + M'.2.2.2.2.2.1 ≤ M.2.2.2.2.2.1) (hs : sl + M'.2.2.2.2.2.2 ≤ M.2.2.2.2.2.2)
    (kt : ∀ h', Qt' h' → Qt h') (k : ∀ r h', Qr' r h' → AW G M Qr Qt (cs + M'.2.2.2.2.2.1) (sl + M'.2.2.2.2.2.2) (pc + 3) ls (r.toList ++ st) h') : AW G M Qr Qt cs sl pc ls stk h := by
  intro p e s0 m args below meth c H locs lsR C R S L
  subst hst
  obtain ⟨hx, hb, hr, hml, hown, hts, hlk, hK, hZ, hex, hnm, hbs, hl, hN⟩ := id C
  simp only [sOK, Bool.and_eq_true, decide_eq_true_eq] at hw
  obtain ⟨⟨w0, w1⟩, w2⟩ := hw
  refine aw_after (st := st) (vx_runS (As := as.map (conc G.2.2.2)) (rest := st.map (conc G.2.2.2)) ⟨hx, hb, hml, hown, hts⟩ (hM hl) ⟨callB_mk hts w0 w1 hd1, hts _ (tb_mem w2 rfl)⟩ ⟨pc_blind, pre_mk (as := as) C R S⟩ rfl (by simp) L.1 ?_ ?_ hd ⟨hc, hs⟩) C S L hc hs kt k
  · simp [List.map_append, List.map_reverse]
  · exact lv_room (by rw [catS_eq]; exact hcat)
def iOK (own : String) (idx : Nat) (M : MI) (n : Nat) : Bool := bOK M n && decide (Cond.methodLink own idx M.1 ∈ lw_tbl) && decide (Cond.instanceMethod M.1 ∈ lw_tbl) && decide (M.1.name = "<init>") && decide (M.2.2.2.1 = none)
theorem aw_callI {as : List AV} {stk : List AV} (hM : AMet G M' (vr s q :: as) h Qr' (fun _ => False)) (hd : decode M.2.1 pc = .ok (.invokespecial idx, 3)) (hw : iOK M.1.cls idx M' as.length = true) (hst : stk = as.reverse ++ vr s q :: st) (hcat : catS st ≤ 8) (hd1 : M'.2.2.2.2.1 + 1 ≤ M.2.2.2.2.1) (hc : cs + M'.2.2.2.2.2.1 ≤ M.2.2.2.2.2.1) (hs : sl + M'.2.2.2.2.2.2 ≤ M.2.2.2.2.2.2)
    (k : ∀ r h', Qr' r h' → AW G M Qr Qt (cs + M'.2.2.2.2.2.1) (sl + M'.2.2.2.2.2.2) (pc + 3) ls (r.toList ++ st) h') : AW G M Qr Qt cs sl pc ls stk h := by
  intro p e s0 m args below meth c H locs lsR C R S L
  subst hst
  obtain ⟨hx, hb, hr, hml, hown, hts, hlk, hK, hZ, hex, hnm, hbs, hl, hN⟩ := id C
  simp only [iOK, Bool.and_eq_true, decide_eq_true_eq] at hw
  obtain ⟨⟨⟨⟨w0, w1⟩, w2⟩, w3⟩, w4⟩ := hw
  have cb := callB_mk (M := M) hts w0 w1 hd1
  rw [w4] at cb
  refine aw_after (st := st) (Qt' := fun _ => False) (run_vx (va_runI (As := as.map (conc G.2.2.2)) (rest := st.map (conc G.2.2.2)) (b := adr G.2.2.2 (s, q)) ⟨hx, hb, hml, hown, hts⟩ (am_met hl hM) ⟨cb, w3, hts _ (tb_mem w2 rfl)⟩ ⟨pc_blind, pre_mk (as := vr s q :: as) C R S⟩ rfl (by simp) L.1 ?_ ?_ hd ⟨hc, hs⟩)) C S L hc hs (fun _ z => z.elim) k
  · simp [List.map_append, List.map_reverse, conc, va_rf]
  · exact lv_room (by rw [catS_eq]; exact hcat)
end
end
section
section
variable {G : GT} {M M' : MI} {Qr Qr' : Option AV → HT → Prop} {Qt Qt' : HT → Prop} {cs sl pc : Nat} {ls : LSt} {st : List AV} {h h' : HT} {a b o : Int} {tgt s q n idx : Nat}
theorem aw_obj {r : Option (Nat × Nat)} (hd : decode M.2.1 pc = .ok (.invokespecial idx, 3)) (hr : r ≠ none) (hw : Cond.methodLink M.1.cls idx Lib.objectInit ∈ lw_tbl) (hw2 : Cond.instanceMethod Lib.objectInit ∈ lw_tbl) (hw3 : Cond.code Lib.objectInit ⟨#[0xb1]⟩ 1 none ∈ lw_tbl) (hd1 : 1 ≤ M.2.2.2.2.1) (hcat : catS st ≤ 8) (k : AW G M Qr Qt cs sl (pc + 3) ls st h) : AW G M Qr Qt cs sl pc ls (vo r :: st) h := by
  intro p e s0 m args below meth c H locs lsR C R S L
  obtain ⟨hx, hb, hr9, hml, hown, hts, hlk, -⟩ := id C
  cases r with
  | none => exact absurd rfl hr
  | some x =>
    refine W.objInit hx hb hown (hts _ (tb_mem hw rfl)) (hts _ (tb_mem hw2 rfl)) (hts _ (tb_mem hw3 rfl)) rfl (by rw [hml]; exact L.1) rfl hd hd1 ?_ (k p e s0 m args below meth c H locs lsR C R S L)
    have := lv_room (m := m) (pc := pc) (ls := lsR) (rest := st.map (conc G.2.2.2)) (st := st.map (conc G.2.2.2)) (by rw [catS_eq]; exact hcat)
    show _ + 12 ≤ 60 * M.2.2.2.2.1
    exact Nat.le_trans (Nat.add_le_add_right this 12) (by omega)
theorem callN_mk {s : State} {args : Array Value} {own host : String} (hts : ∀ w ∈ tb, w.before args s = true) (hN : nB s) (hb : bOK M' n = true) (hl : Cond.methodLinkNest own idx M'.1 host ∈ lw_tbl) (hd1 : M'.2.2.2.2.1 + 1 ≤ M.2.2.2.2.1) :
    va_CN (rmM M) s args own idx M'.1 host M'.2.1 M'.2.2.1 M'.2.2.2.1 (wsM M') (rmM M') M'.2.2.2.2.2.1 M'.2.2.2.2.2.2 n := by
  simp only [bOK, Bool.and_eq_true, decide_eq_true_eq] at hb
  obtain ⟨⟨⟨⟨⟨b1, b2⟩, b3⟩, b4⟩, b5⟩, b6⟩ := hb
  exact va_cnB (ws' := lw_tbl.filter goodWord) n hts (bOK_good b1) rfl rfl rfl (hN _ hl rfl) (hts _ (tb_mem b2 rfl)) ⟨b3, b4, b5⟩ ⟨hd1, by show 8 + (M'.2.2.1 + 11) + 60 * M'.2.2.2.2.1 ≤ 60 * M.2.2.2.2.1; omega⟩
def snOK (own : String) (idx : Nat) (M : MI) (n : Nat) : Bool := bOK M n && decide (Cond.methodLinkNest own idx M.1 "ChanceBench" ∈ lw_tbl) && decide (Cond.static M.1 ∈ lw_tbl)
theorem aw_callSN {as : List AV} {stk : List AV} (hM : AMet G M' as h Qr' (fun _ => False)) (hd : decode M.2.1 pc = .ok (.invokestatic idx, 3)) (hw : snOK M.1.cls idx M' as.length = true) (hst : stk = as.reverse ++ st) (hcat : catS st ≤ 8) (hd1 : M'.2.2.2.2.1 + 1 ≤ M.2.2.2.2.1) (hc : cs + M'.2.2.2.2.2.1 ≤ M.2.2.2.2.2.1) (hs : sl + M'.2.2.2.2.2.2 ≤ M.2.2.2.2.2.2)
    (k : ∀ r h', Qr' r h' → AW G M Qr Qt (cs + M'.2.2.2.2.2.1) (sl + M'.2.2.2.2.2.2) (pc + 3) ls (r.toList ++ st) h') : AW G M Qr Qt cs sl pc ls stk h := by
  intro p e s0 m args below meth c H locs lsR C R S L
  subst hst
  obtain ⟨hx, hb, hr, hml, hown, hts, hlk, hK, hZ, hex, hnm, hbs, hl, hN⟩ := id C
  simp only [snOK, Bool.and_eq_true, decide_eq_true_eq] at hw
  obtain ⟨⟨w0, w1⟩, w2⟩ := hw
  refine aw_after (st := st) (Qt' := fun _ => False) (run_vx (va_runSN (As := as.map (conc G.2.2.2)) (rest := st.map (conc G.2.2.2)) ⟨hx, hb, hml, hown, hts⟩ (am_met hl hM) ⟨callN_mk hts hN w0 w1 hd1, hts _ (tb_mem w2 rfl), trivial⟩ ⟨pc_blind, pre_mk (as := as) C R S⟩ rfl (by simp) L.1 ?_ ?_ hd ⟨hc, hs⟩)) C S L hc hs (fun _ z => z.elim) k
  · simp [List.map_append, List.map_reverse]
  · exact lv_room (by rw [catS_eq]; exact hcat)
def inOK (own : String) (idx : Nat) (M : MI) (n : Nat) : Bool := bOK M n && decide (Cond.methodLinkNest own idx M.1 "ChanceBench" ∈ lw_tbl) && decide (Cond.instanceMethod M.1 ∈ lw_tbl) && decide (M.1.name = "<init>") && decide (M.2.2.2.1 = none)
theorem aw_callIN {as : List AV} {stk : List AV} (hM : AMet G M' (vr s q :: as) h Qr' (fun _ => False)) (hd : decode M.2.1 pc = .ok (.invokespecial idx, 3)) (hw : inOK M.1.cls idx M' as.length = true) (hst : stk = as.reverse ++ vr s q :: st) (hcat : catS st ≤ 8) (hd1 : M'.2.2.2.2.1 + 1 ≤ M.2.2.2.2.1) (hc : cs + M'.2.2.2.2.2.1 ≤ M.2.2.2.2.2.1) (hs : sl + M'.2.2.2.2.2.2 ≤ M.2.2.2.2.2.2)
    (k : ∀ r h', Qr' r h' → AW G M Qr Qt (cs + M'.2.2.2.2.2.1) (sl + M'.2.2.2.2.2.2) (pc + 3) ls (r.toList ++ st) h') : AW G M Qr Qt cs sl pc ls stk h := by
  intro p e s0 m args below meth c H locs lsR C R S L
  subst hst
  obtain ⟨hx, hb, hr, hml, hown, hts, hlk, hK, hZ, hex, hnm, hbs, hl, hN⟩ := id C
  simp only [inOK, Bool.and_eq_true, decide_eq_true_eq] at hw
  obtain ⟨⟨⟨⟨w0, w1⟩, w2⟩, w3⟩, w4⟩ := hw
  have cb := callN_mk (M := M) (args := args) hts hN w0 w1 hd1
  rw [w4] at cb
  refine aw_after (st := st) (Qt' := fun _ => False) (run_vx (va_runIN (As := as.map (conc G.2.2.2)) (rest := st.map (conc G.2.2.2)) (b := adr G.2.2.2 (s, q)) ⟨hx, hb, hml, hown, hts⟩ (am_met hl hM) ⟨cb, w3, hts _ (tb_mem w2 rfl)⟩ ⟨pc_blind, pre_mk (as := vr s q :: as) C R S⟩ rfl (by simp) L.1 ?_ ?_ hd ⟨hc, hs⟩)) C S L hc hs (fun _ z => z.elim) k
  · simp [List.map_append, List.map_reverse, conc, va_rf]
  · exact lv_room (by rw [catS_eq]; exact hcat)
/-- behind a throw so many cells more lie in the heap, of which nothing is known -/
def junk : List SG → Nat → List SG
  | [], _ => []
  | [l], j => [l ++ List.replicate j none]
  | l :: l2 :: r, j => l :: junk (l2 :: r) j
theorem hgs_junk : ∀ (h : List SG) (j s k : Nat), hgs (junk h j) s k = hgs h s k
  | [], _, _, _ => rfl
  | [l], j, 0, k => by
    simp only [junk, hgs]
    rcases Nat.lt_or_ge k l.length with z | z
    · rw [List.getElem?_append_left z]
    · rw [List.getElem?_append_right z, List.getElem?_eq_none z]
      cases hq : (List.replicate j (none : Option AC))[k - l.length]? with
      | none => rfl
      | some x =>
        obtain ⟨z1, z2⟩ := List.getElem?_eq_some_iff.mp hq
        rw [List.getElem_replicate] at z2
        rw [← z2]
  | [l], j, s + 1, k => rfl
  | l :: l2 :: r, j, 0, k => rfl
  | l :: l2 :: r, j, s + 1, k => hgs_junk (l2 :: r) j s k
theorem rep_junk {H H1 : Heap} (R : Rep G h H) (hz : H.size ≤ H1.size) (oq : ∀ q : Nat, q < H.size → H1[q]? = H[q]?) : Rep G (h.1 + (H1.size - H.size), junk h.2 (H1.size - H.size)) H1 := by
  refine ⟨by have := R.1; show H1.size = G.2.2.2 + (h.1 + (H1.size - H.size)); omega, fun s k c hc => ?_⟩
  have hc2 : hget h s k = some c := by rw [← hc]; exact (hgs_junk h.2 _ s k).symm
  obtain ⟨p1, p2, p3⟩ := R.2 s k c hc2
  refine ⟨p1, p2, p3.kept (oq _ ?_)⟩
  rcases Nat.lt_or_ge (adr G.2.2.2 (s, k)) H.size with z | z
  · exact z
  · exact absurd p3.lt (by simp only; omega)
def tNames : List String := ["java/lang/RuntimeException", "java/lang/Exception"]
def tOK (own : String) (ik ic : Nat) : Bool := decide (Cond.classLink own ik nse ∈ lw_tbl) && decide (Cond.initialized nse ∈ lw_tbl) && (vx_at0 own ic nse tNames).all (fun w => decide (w ∈ lw_tbl) && okW w) && (Cond.classLink own ik nse :: Cond.initialized nse :: vx_at0 own ic nse tNames).all vx_ot
set_option maxHeartbeats 4000000 in
theorem aw_throw {ik ic : Nat} (hw : tOK M.1.cls ik ic = true) (d0 : decode M.2.1 pc = .ok (.new ik, 3)) (d3 : decode M.2.1 (pc + 3) = .ok (.dup, 1)) (d4 : decode M.2.1 (pc + 4) = .ok (.invokespecial ic, 3)) (d7 : decode M.2.1 (pc + 7) = .ok (.athrow, 1)) (hcat : catS st ≤ 8) (hd1 : 6 ≤ M.2.2.2.2.1) (hc : cs + 1 ≤ M.2.2.2.2.2.1) (hs : sl + 6 ≤ M.2.2.2.2.2.2)
    (k : ∀ j, Qt (h.1 + j, junk h.2 j)) : AW G M Qr Qt cs sl pc ls st h := by
  intro p e s0 m args below meth c H locs lsR C R S L
  obtain ⟨hx, hb, hr, hml, hown, hts, hlk, hK, hZ, hex, hnm, hbs, hl, hN⟩ := id C
  simp only [tOK, Bool.and_eq_true, decide_eq_true_eq] at hw
  obtain ⟨⟨⟨w1, w2⟩, w3⟩, w4⟩ := hw
  have hat : ∀ w ∈ vx_at0 M.1.cls ic nse tNames, w.before args s0 = true := fun w hw => by
    have := List.all_eq_true.mp w3 w hw
    simp only [Bool.and_eq_true, decide_eq_true_eq] at this
    exact hts _ (tb_mem this.1 this.2)
  refine vx_throw0 (cls := nse) (names := tNames) (A := gA G) hx hb hl hown (by decide) (by decide) (hts _ (tb_mem w1 rfl)) (hts _ (tb_mem w2 rfl)) hat (fun w hw => List.all_eq_true.mp w4 w hw) hZ.1 hZ.2 S (by rw [hml]; exact L.1) d0 d3 d4 d7 (fun x hx9 => (hex x hx9).elim) (by show 2 + 3 < M.2.2.2.2.1; omega) ?_ hc hs hlk ?_ S.2.2 hc hs
  · rw [catS_eq]
    show catS st + (13 * (2 + 1) + 42) ≤ 60 * M.2.2.2.2.1
    omega
  · intro t hA hz oq
    exact ⟨rfl, _, k _, rep_junk R hz oq, ⟨Nat.le_trans S.1 hz, fun q h1 h2 => (oq q (Nat.lt_of_lt_of_le h1 S.1)).trans (S.2.1 q h1 h2)⟩⟩
end
theorem tOK_B : tOK "ChanceBench" 146 148 = true := by decide +kernel
end
section
/-! calls with one outcome; switches; shifts and masks -/
abbrev ADet (G : GT) (M : MI) (as : List AV) (h : HT) (r : Option AV) (h' : HT) : Prop := AMet G M as h (fun x g => x = r ∧ g = h') (fun _ => False)
section
variable {G : GT} {M M' : MI} {Qr Qr' : Option AV → HT → Prop} {Qt Qt' : HT → Prop} {cs sl pc cs' sl' pc' : Nat} {ls : LSt} {st st' : List AV} {h h' : HT} {a b o : Int} {tgt s q n idx : Nat} {r : Option AV}
theorem aw_dV {as : List AV} {ci : Nat} {fs : List AV} {stk : List AV} (hM : ADet G M' (vr s q :: as) h r h') (hd : decode M.2.1 pc = .ok (.invokevirtual idx, 3)) (hw : vOK M.1.cls idx M' as.length = true) (hg : hget h s q = some (ob ci fs)) (hci : (cls[ci]?).map (fun r => r.1) = some M'.1.cls) (hst : stk = as.reverse ++ vr s q :: st) (hcat : catS st ≤ 8) (hd1 : M'.2.2.2.2.1 + 1 ≤ M.2.2.2.2.1) (hc : cs + M'.2.2.2.2.2.1 ≤ M.2.2.2.2.2.1) (hs : sl + M'.2.2.2.2.2.2 ≤ M.2.2.2.2.2.2)
    (e1 : cs + M'.2.2.2.2.2.1 = cs') (e2 : sl + M'.2.2.2.2.2.2 = sl') (e3 : pc + 3 = pc') (e4 : r.toList ++ st = st') (k : AW G M Qr Qt cs' sl' pc' ls st' h') : AW G M Qr Qt cs sl pc ls stk h := by
  subst e1 e2 e3 e4
  exact aw_callV hM hd hw hg hci hst hcat hd1 hc hs (fun _ z => z.elim) (fun r9 h9 z => by obtain ⟨rfl, rfl⟩ := z; exact k)
theorem aw_dS {as : List AV} {stk : List AV} (hM : ADet G M' as h r h') (hd : decode M.2.1 pc = .ok (.invokestatic idx, 3)) (hw : sOK M.1.cls idx M' as.length = true) (hst : stk = as.reverse ++ st) (hcat : catS st ≤ 8) (hd1 : M'.2.2.2.2.1 + 1 ≤ M.2.2.2.2.1) (hc : cs + M'.2.2.2.2.2.1 ≤ M.2.2.2.2.2.1) (hs : sl + M'.2.2.2.2.2.2 ≤ M.2.2.2.2.2.2)
    (e1 : cs + M'.2.2.2.2.2.1 = cs') (e2 : sl + M'.2.2.2.2.2.2 = sl') (e3 : pc + 3 = pc') (e4 : r.toList ++ st = st') (k : AW G M Qr Qt cs' sl' pc' ls st' h') : AW G M Qr Qt cs sl pc ls stk h := by
  subst e1 e2 e3 e4
  exact aw_callS hM hd hw hst hcat hd1 hc hs (fun _ z => z.elim) (fun r9 h9 z => by obtain ⟨rfl, rfl⟩ := z; exact k)
theorem aw_dSN {as : List AV} {stk : List AV} (hM : ADet G M' as h r h') (hd : decode M.2.1 pc = .ok (.invokestatic idx, 3)) (hw : snOK M.1.cls idx M' as.length = true) (hst : stk = as.reverse ++ st) (hcat : catS st ≤ 8) (hd1 : M'.2.2.2.2.1 + 1 ≤ M.2.2.2.2.1) (hc : cs + M'.2.2.2.2.2.1 ≤ M.2.2.2.2.2.1) (hs : sl + M'.2.2.2.2.2.2 ≤ M.2.2.2.2.2.2)
    (e1 : cs + M'.2.2.2.2.2.1 = cs') (e2 : sl + M'.2.2.2.2.2.2 = sl') (e3 : pc + 3 = pc') (e4 : r.toList ++ st = st') (k : AW G M Qr Qt cs' sl' pc' ls st' h') : AW G M Qr Qt cs sl pc ls stk h := by
  subst e1 e2 e3 e4
  exact aw_callSN hM hd hw hst hcat hd1 hc hs (fun r9 h9 z => by obtain ⟨rfl, rfl⟩ := z; exact k)
theorem aw_dI {as : List AV} {stk : List AV} (hM : ADet G M' (vr s q :: as) h r h') (hd : decode M.2.1 pc = .ok (.invokespecial idx, 3)) (hw : iOK M.1.cls idx M' as.length = true) (hst : stk = as.reverse ++ vr s q :: st) (hcat : catS st ≤ 8) (hd1 : M'.2.2.2.2.1 + 1 ≤ M.2.2.2.2.1) (hc : cs + M'.2.2.2.2.2.1 ≤ M.2.2.2.2.2.1) (hs : sl + M'.2.2.2.2.2.2 ≤ M.2.2.2.2.2.2)
    (e1 : cs + M'.2.2.2.2.2.1 = cs') (e2 : sl + M'.2.2.2.2.2.2 = sl') (e3 : pc + 3 = pc') (e4 : r.toList ++ st = st') (k : AW G M Qr Qt cs' sl' pc' ls st' h') : AW G M Qr Qt cs sl pc ls stk h := by
  subst e1 e2 e3 e4
  exact aw_callI hM hd hw hst hcat hd1 hc hs (fun r9 h9 z => by obtain ⟨rfl, rfl⟩ := z; exact k)
theorem aw_dIN {as : List AV} {stk : List AV} (hM : ADet G M' (vr s q :: as) h r h') (hd : decode M.2.1 pc = .ok (.invokespecial idx, 3)) (hw : inOK M.1.cls idx M' as.length = true) (hst : stk = as.reverse ++ vr s q :: st) (hcat : catS st ≤ 8) (hd1 : M'.2.2.2.2.1 + 1 ≤ M.2.2.2.2.1) (hc : cs + M'.2.2.2.2.2.1 ≤ M.2.2.2.2.2.1) (hs : sl + M'.2.2.2.2.2.2 ≤ M.2.2.2.2.2.2)
    (e1 : cs + M'.2.2.2.2.2.1 = cs') (e2 : sl + M'.2.2.2.2.2.2 = sl') (e3 : pc + 3 = pc') (e4 : r.toList ++ st = st') (k : AW G M Qr Qt cs' sl' pc' ls st' h') : AW G M Qr Qt cs sl pc ls stk h := by
  subst e1 e2 e3 e4
  exact aw_callIN hM hd hw hst hcat hd1 hc hs (fun r9 h9 z => by obtain ⟨rfl, rfl⟩ := z; exact k)
theorem aw_tabOut {dflt lo hi : Int} {offs : Array Int} {len : Nat} (hd : decode M.2.1 pc = .ok (.tableswitch dflt lo hi offs, len)) (ha : I32 a) (hz : a < lo ∨ hi < a) (ht : (pc : Int) + dflt = (tgt : Int)) (k : AW G M Qr Qt cs sl tgt ls st h) : AW G M Qr Qt cs sl pc ls (vi a :: st) h := by
  intro p e s0 m args below meth c H locs lsR C R S L
  exact lv_tableOut C.1 C.2.1 hd (by rw [i_to ha]; exact hz) ht (k p e s0 m args below meth c H locs lsR C R S L)
theorem aw_tabIn {dflt lo hi : Int} {offs : Array Int} {len : Nat} (hd : decode M.2.1 pc = .ok (.tableswitch dflt lo hi offs, len)) (ha : I32 a) (h1 : lo ≤ a) (h2 : a ≤ hi) (ho : offs[(a - lo).toNat]? = some o) (ht : (pc : Int) + o = (tgt : Int)) (k : AW G M Qr Qt cs sl tgt ls st h) : AW G M Qr Qt cs sl pc ls (vi a :: st) h := by
  intro p e s0 m args below meth c H locs lsR C R S L
  exact lv_tableIn C.1 C.2.1 hd (by rw [i_to ha]; omega) (by rw [i_to ha]; omega) (by rw [i_to ha]; exact ho) ht (k p e s0 m args below meth c H locs lsR C R S L)
theorem i_tn (a : Int) : ((Int32.ofInt a).toBitVec.toNat : Int) = a % 4294967296 := by
  rw [show (Int32.ofInt a).toBitVec = BitVec.ofInt 32 a from rfl, BitVec.toNat_ofInt]
  have : 0 ≤ a % ((2 ^ 32 : Nat) : Int) := Int.emod_nonneg a (by decide)
  omega
/-- a mask of low bits -/
theorem i_mask {a : Int} {m : Int32} (k : Nat) (hk : k ≤ 30) (hm : m.toBitVec.toNat = 2 ^ k - 1) : Int32.ofInt a &&& m = Int32.ofInt (a % ((2 ^ k : Nat) : Int)) := by
  rw [pk_and (Int32.ofInt a) k hm]
  have h1 := i_tn a
  have h2 : ((((Int32.ofInt a).toBitVec.toNat % 2 ^ k : Nat)) : Int) = a % ((2 ^ k : Nat) : Int) := by
    rw [Int.natCast_emod, h1]
    have : ((2 ^ k : Nat) : Int) ∣ 4294967296 := by
      refine ⟨((2 ^ (32 - k) : Nat) : Int), ?_⟩
      rw [← Int.natCast_mul, ← Nat.pow_add, show k + (32 - k) = 32 by omega]
      rfl
    exact Int.emod_emod_of_dvd a this
  rw [← h2]
  rfl
theorem aw_and {z p9 : Int} (k : Nat) (hd : decode M.2.1 pc = .ok (.iand, 1)) (hk : k ≤ 30) (hz : (Int32.ofInt z).toBitVec.toNat = 2 ^ k - 1) (hp : ((2 ^ k : Nat) : Int) = p9) (kk : AW G M Qr Qt cs sl (pc + 1) ls (vi (a % p9) :: st) h) : AW G M Qr Qt cs sl pc ls (vi z :: vi a :: st) h := by
  intro p e s0 m args below meth c H locs lsR C R S L
  refine lv_iand C.1 C.2.1 hd ?_
  rw [i_mask k hk hz, hp]
  exact kk p e s0 m args below meth c H locs lsR C R S L
theorem sh_k : ∀ k : Fin 32, ((Int32.ofInt (k.val : Int) &&& 31).toBitVec.smod 32).toNat = k.val := by decide +kernel
theorem sh_u : ∀ k : Fin 32, (((Int32.ofInt (k.val : Int)).toUInt32 &&& Int32.toUInt32 31).toBitVec % 32).toNat = k.val := by decide +kernel
theorem i_shr {a : Int} (ha : I32 a) (k : Nat) (hk : k < 32) : Int32.ofInt a >>> (Int32.ofInt (k : Int) &&& 31) = Int32.ofInt (a / ((2 ^ k : Nat) : Int)) := by
  have h1 := pk_shr (Int32.ofInt a) (Int32.ofInt (k : Int) &&& 31) k (sh_k ⟨k, hk⟩)
  rw [i_to ha, Int.shiftRight_eq_div_pow] at h1
  rw [← h1, i_of]
theorem aw_shr {z p9 : Int} (k : Nat) (hd : decode M.2.1 pc = .ok (.ishr, 1)) (ha : I32 a) (hz : z = (k : Int)) (hk : k < 32) (hp : ((2 ^ k : Nat) : Int) = p9) (kk : AW G M Qr Qt cs sl (pc + 1) ls (vi (a / p9) :: st) h) : AW G M Qr Qt cs sl pc ls (vi z :: vi a :: st) h := by
  intro p e s0 m args below meth c H locs lsR C R S L
  subst hz
  refine lv_ishr C.1 C.2.1 hd ?_
  rw [i_shr ha k hk, hp]
  exact kk p e s0 m args below meth c H locs lsR C R S L
theorem aw_ushr {z p9 : Int} (k : Nat) (hd : decode M.2.1 pc = .ok (.iushr, 1)) (hz : z = (k : Int)) (hk : k < 32) (hp : ((2 ^ k : Nat) : Int) = p9) (kk : AW G M Qr Qt cs sl (pc + 1) ls (vi ((a % 4294967296) / p9) :: st) h) : AW G M Qr Qt cs sl pc ls (vi z :: vi a :: st) h := by
  intro p e s0 m args below meth c H locs lsR C R S L
  subst hz
  refine lv_iushr C.1 C.2.1 hd (v := Int32.ofInt ((a % 4294967296) / p9)) ?_ (kk p e s0 m args below meth c H locs lsR C R S L)
  have h1 := pk_ushr (Int32.ofInt a) (Int32.ofInt (k : Int)) k (sh_u ⟨k, hk⟩)
  have h2 := i_tn a
  have h3 : ((a % 4294967296) / p9) = (((Int32.ofInt a).toBitVec.toNat / 2 ^ k : Nat) : Int) := by
    rw [Int.natCast_ediv, h2, hp]
  rw [h3, ← h1]
  apply Int32.toBitVec_inj.mp
  apply BitVec.eq_of_toNat_eq
  have h4 := i_tn ((((Int32.ofInt a).toUInt32 >>> ((Int32.ofInt (k : Int)).toUInt32 &&& Int32.toUInt32 31)).toInt32.toBitVec.toNat : Nat) : Int)
  have h5 := ((Int32.ofInt a).toUInt32 >>> ((Int32.ofInt (k : Int)).toUInt32 &&& Int32.toUInt32 31)).toInt32.toBitVec.isLt
  omega
theorem aw_ishl1 {z p9 : Int} (k : Nat) (hd : decode M.2.1 pc = .ok (.ishl, 1)) (hz : z = (k : Int)) (hk : k ≤ 30) (hp : ((2 ^ k : Nat) : Int) = p9) (kk : AW G M Qr Qt cs sl (pc + 1) ls (vi p9 :: st) h) : AW G M Qr Qt cs sl pc ls (vi z :: vi 1 :: st) h := by
  intro p e s0 m args below meth c H locs lsR C R S L
  subst hz
  refine lv_ishl C.1 C.2.1 hd ?_
  have : ∀ k : Fin 31, Int32.ofInt 1 <<< (Int32.ofInt (k.val : Int) &&& 31) = Int32.ofInt ((2 ^ k.val : Nat) : Int) := by decide +kernel
  rw [this ⟨k, by omega⟩]
  show W p G.1 e (rmM M) s0 m args below meth c H locs cs sl _ (F0 m (pc + 1) lsR (.int (Int32.ofInt ((2 ^ k : Nat) : Int)) :: st.map (conc G.2.2.2)))
  rw [hp]
  exact kk p e s0 m args below meth c H locs lsR C R S L
theorem aw_lshl {z p9 : Int} (k : Nat) (hd : decode M.2.1 pc = .ok (.lshl, 1)) (hz : z = (k : Int)) (hk : k < 64) (hp : ((2 ^ k : Nat) : Int) = p9) (kk : AW G M Qr Qt cs sl (pc + 1) ls (vl (a * p9) :: st) h) : AW G M Qr Qt cs sl pc ls (vi z :: vl a :: st) h := by
  intro p e s0 m args below meth c H locs lsR C R S L
  subst hz
  refine lv_lshl C.1 C.2.1 hd (v := Int64.ofInt (a * p9)) ?_ (kk p e s0 m args below meth c H locs lsR C R S L)
  have h1 : ∀ k : Fin 64, ((Int32.ofInt (k.val : Int)).toInt64 &&& 63).toBitVec.smod 64 = BitVec.ofNat 64 k.val := by decide +kernel
  apply Int64.toBitVec_inj.mp
  rw [Int64.toBitVec_shiftLeft, h1 ⟨k, hk⟩, ← hp]
  show BitVec.ofInt 64 a <<< (BitVec.ofNat 64 k) = BitVec.ofInt 64 (a * ((2 ^ k : Nat) : Int))
  rw [BitVec.ofInt_mul, BitVec.shiftLeft_eq', BitVec.toNat_ofNat, Nat.mod_eq_of_lt (by omega), BitVec.shiftLeft_eq_mul_twoPow]
  congr 1
  rw [BitVec.ofInt_natCast]
  apply BitVec.eq_of_toNat_eq
  rw [BitVec.toNat_twoPow, BitVec.toNat_ofNat]
end
section
variable {G : GT} {M : MI} {Qr : Option AV → HT → Prop} {Qt : HT → Prop} {cs sl pc : Nat} {ls : LSt} {st : List AV} {h : HT} {a b : Int} {idx : Nat}
theorem aw_room {p : Program} {e : Env} {s : State} {m : MethodId} {args : Array Value} {below : List Frame} {meth : Method} {c : Code} {H : Heap} {locs : List Loc} {Q : State → Prop} {g : JFrame} (hc : cs ≤ M.2.2.2.2.2.1) (hs : sl ≤ M.2.2.2.2.2.2) (k : cs ≤ (rmM M).cells → sl ≤ (rmM M).slots → W p G.1 e (rmM M) s m args below meth c H locs cs sl Q g) : W p G.1 e (rmM M) s m args below meth c H locs cs sl Q g := k hc hs
def mW (own : String) (idx : Nat) (x : MethodName) (code : ByteArray) (n : Nat) (ret : Option FieldType) : Bool := decide (Cond.methodLink own idx x ∈ lw_tbl) && decide (Cond.static x ∈ lw_tbl) && decide (Cond.initialized "java/lang/Math" ∈ lw_tbl) && decide (Cond.code x code n ret ∈ lw_tbl)
theorem aw_mmax (hd : decode M.2.1 pc = .ok (.invokestatic idx, 3)) (hw : mW M.1.cls idx Lib.Math.max.name Lib.Math.max.code 2 (some .int) = true) (hcat : catS st ≤ 8) (hd1 : 1 ≤ M.2.2.2.2.1) (hc : cs ≤ M.2.2.2.2.2.1) (hs : sl ≤ M.2.2.2.2.2.2) (ha : I32 a) (hb : I32 b) (k : AW G M Qr Qt cs sl (pc + 3) ls (vi (if a < b then b else a) :: st) h) : AW G M Qr Qt cs sl pc ls (vi b :: vi a :: st) h := by
  intro p e s0 m args below meth c H locs lsR C R S L
  simp only [mW, Bool.and_eq_true, decide_eq_true_eq] at hw
  obtain ⟨hx, hb9, hr9, hml, hown, hts, hlk, -⟩ := id C
  have k0 := k p e s0 m args below meth c H locs lsR C R S L
  refine va_mmax hx hb9 (by rw [hml]; exact L.1.symm) hown (hts _ (tb_mem hw.1.1.1 rfl)) (hts _ (tb_mem hw.1.1.2 rfl)) (hts _ (tb_mem hw.1.2 rfl)) (hts _ (tb_mem hw.2 rfl)) hd1 (by rw [catS_eq]; show _ ≤ 60 * M.2.2.2.2.1; omega) hc hs hd ?_
  have : (if Int32.ofInt a < Int32.ofInt b then Int32.ofInt b else Int32.ofInt a) = Int32.ofInt (if a < b then b else a) := by
    simp only [i_lt ha hb]; split <;> rfl
  rw [this]
  exact k0
theorem aw_mmin (hd : decode M.2.1 pc = .ok (.invokestatic idx, 3)) (hw : mW M.1.cls idx Lib.Math.min.name Lib.Math.min.code 2 (some .int) = true) (hcat : catS st ≤ 8) (hd1 : 1 ≤ M.2.2.2.2.1) (hc : cs ≤ M.2.2.2.2.2.1) (hs : sl ≤ M.2.2.2.2.2.2) (ha : I32 a) (hb : I32 b) (k : AW G M Qr Qt cs sl (pc + 3) ls (vi (if b < a then b else a) :: st) h) : AW G M Qr Qt cs sl pc ls (vi b :: vi a :: st) h := by
  intro p e s0 m args below meth c H locs lsR C R S L
  simp only [mW, Bool.and_eq_true, decide_eq_true_eq] at hw
  obtain ⟨hx, hb9, hr9, hml, hown, hts, hlk, -⟩ := id C
  have k0 := k p e s0 m args below meth c H locs lsR C R S L
  refine va_mmin hx hb9 (by rw [hml]; exact L.1.symm) hown (hts _ (tb_mem hw.1.1.1 rfl)) (hts _ (tb_mem hw.1.1.2 rfl)) (hts _ (tb_mem hw.1.2 rfl)) (hts _ (tb_mem hw.2 rfl)) hd1 (by rw [catS_eq]; show _ ≤ 60 * M.2.2.2.2.1; omega) hc hs hd ?_
  have : (if Int32.ofInt b < Int32.ofInt a then Int32.ofInt b else Int32.ofInt a) = Int32.ofInt (if b < a then b else a) := by
    simp only [i_lt hb ha]; split <;> rfl
  rw [this]
  exact k0
theorem aw_mmaxJ (hd : decode M.2.1 pc = .ok (.invokestatic idx, 3)) (hw : mW M.1.cls idx Lib.MathLoose.max_long.x Lib.MathLoose.max_long.code 4 (some .long) = true) (hcat : catS st ≤ 8) (hd1 : 1 ≤ M.2.2.2.2.1) (hc : cs ≤ M.2.2.2.2.2.1) (hs : sl ≤ M.2.2.2.2.2.2) (ha : I64 a) (hb : I64 b) (k : AW G M Qr Qt cs sl (pc + 3) ls (vl (if b < a then a else b) :: st) h) : AW G M Qr Qt cs sl pc ls (vl b :: vl a :: st) h := by
  intro p e s0 m args below meth c H locs lsR C R S L
  simp only [mW, Bool.and_eq_true, decide_eq_true_eq] at hw
  obtain ⟨hx, hb9, hr9, hml, hown, hts, hlk, -⟩ := id C
  have k0 := k p e s0 m args below meth c H locs lsR C R S L
  refine va_mmax_long hx hb9 (by rw [hml]; exact L.1.symm) hown (hts _ (tb_mem hw.1.1.1 rfl)) (hts _ (tb_mem hw.1.1.2 rfl)) (hts _ (tb_mem hw.1.2 rfl)) (hts _ (tb_mem hw.2 rfl)) hd1 (by rw [catS_eq]; show _ ≤ 60 * M.2.2.2.2.1; omega) hc hs hd ?_
  have : (if Int64.ofInt b < Int64.ofInt a then Int64.ofInt a else Int64.ofInt b) = Int64.ofInt (if b < a then a else b) := by
    simp only [l_lt hb ha]; split <;> rfl
  rw [this]
  exact k0
theorem aw_mminJ (hd : decode M.2.1 pc = .ok (.invokestatic idx, 3)) (hw : mW M.1.cls idx Lib.MathLoose.min_long.x Lib.MathLoose.min_long.code 4 (some .long) = true) (hcat : catS st ≤ 8) (hd1 : 1 ≤ M.2.2.2.2.1) (hc : cs ≤ M.2.2.2.2.2.1) (hs : sl ≤ M.2.2.2.2.2.2) (ha : I64 a) (hb : I64 b) (k : AW G M Qr Qt cs sl (pc + 3) ls (vl (if b < a then b else a) :: st) h) : AW G M Qr Qt cs sl pc ls (vl b :: vl a :: st) h := by
  intro p e s0 m args below meth c H locs lsR C R S L
  simp only [mW, Bool.and_eq_true, decide_eq_true_eq] at hw
  obtain ⟨hx, hb9, hr9, hml, hown, hts, hlk, -⟩ := id C
  have k0 := k p e s0 m args below meth c H locs lsR C R S L
  refine va_mmin_long hx hb9 (by rw [hml]; exact L.1.symm) hown (hts _ (tb_mem hw.1.1.1 rfl)) (hts _ (tb_mem hw.1.1.2 rfl)) (hts _ (tb_mem hw.1.2 rfl)) (hts _ (tb_mem hw.2 rfl)) hd1 (by rw [catS_eq]; show _ ≤ 60 * M.2.2.2.2.1; omega) hc hs hd ?_
  have : (if Int64.ofInt b < Int64.ofInt a then Int64.ofInt b else Int64.ofInt a) = Int64.ofInt (if b < a then b else a) := by
    simp only [l_lt hb ha]; split <;> rfl
  rw [this]
  exact k0
theorem aw_mabsJ (hd : decode M.2.1 pc = .ok (.invokestatic idx, 3)) (hw : mW M.1.cls idx Lib.MathLoose.abs_long.x Lib.MathLoose.abs_long.code 2 (some .long) = true) (hcat : catS st ≤ 8) (hd1 : 1 ≤ M.2.2.2.2.1) (hc : cs ≤ M.2.2.2.2.2.1) (hs : sl ≤ M.2.2.2.2.2.2) (ha : I64 a) (k : AW G M Qr Qt cs sl (pc + 3) ls (vl (if 0 < a then a else -a) :: st) h) : AW G M Qr Qt cs sl pc ls (vl a :: st) h := by
  intro p e s0 m args below meth c H locs lsR C R S L
  simp only [mW, Bool.and_eq_true, decide_eq_true_eq] at hw
  obtain ⟨hx, hb9, hr9, hml, hown, hts, hlk, -⟩ := id C
  have k0 := k p e s0 m args below meth c H locs lsR C R S L
  refine va_mabs_long hx hb9 (by rw [hml]; exact L.1.symm) hown (hts _ (tb_mem hw.1.1.1 rfl)) (hts _ (tb_mem hw.1.1.2 rfl)) (hts _ (tb_mem hw.1.2 rfl)) (hts _ (tb_mem hw.2 rfl)) hd1 (by rw [catS_eq]; show _ ≤ 60 * M.2.2.2.2.1; omega) hc hs hd ?_
  have : (if 0 < Int64.ofInt a then Int64.ofInt a else -Int64.ofInt a) = Int64.ofInt (if 0 < a then a else -a) := by
    rw [show (0 : Int64) = Int64.ofInt 0 from rfl]
    simp only [l_lt z64 ha]; split
    · rfl
    · exact (l_neg a).symm
  rw [this]
  exact k0
end
/-- the heap of the whole system: bench, shelf, tape, maker, difference, joint, tree, dice, the reference, what else was made -/
abbrev Hp (b s t mk df jo tr di mo dy : SG) : HT := (49 + dy.length, [b, s, t, mk, df, jo, tr, di, mo, dy])
section
variable {G : GT} {b s t mk df jo tr di mo dy : SG} {len : Int} {f : Nat → Int}
theorem m_T_length : ADet G M_T_length [vr 2 0] (Hp b s [some (ob 2 [vr 2 1, vi len]), some (ar 0 200 f)] mk df jo tr di mo dy) (some (vi len)) (Hp b s [some (ob 2 [vr 2 1, vi len]), some (ar 0 200 f)] mk df jo tr di mo dy) := by
  refine am_entry (by decide +kernel) (by decide +kernel) ?_
  refine aw_blk (pc' := 4) (ls' := [some (vr 2 0)]) (st' := [vi len]) [.inl (.aload_n 0), .inr (13, 2, 1)] 0 _ _ (by decide +kernel) rfl ?_
  exact aw_iret (by decide +kernel) rfl (by decide) (by decide) ⟨rfl, rfl⟩
end
end
section
section
variable {G : GT} {h : HT} {b s t mk df jo tr di mo dy : SG} {a c : Int} {len : Int} {f : Nat → Int}
theorem m_B_isWithin {d : Int} (ha : I32 a) (hc : I32 c) (hd : I32 d) : ADet G M_B_isWithin [vi a, vi c, vi d] h (some (vi (if c ≤ a ∧ a ≤ d then 1 else 0))) h := by
  refine am_entry (by decide +kernel) (Nat.le_of_ble_eq_true rfl) ?_
  refine aw_blk (pc' := 2) (ls' := [some (vi a), some (vi c), some (vi d)]) (st' := [vi c, vi a]) [.inl (.iload_n 0), .inl (.iload_n 1)] 0 _ _ (by decide +kernel) rfl ?_
  refine aw_icmp_lt (o := 12) (tgt := 14) (by decide +kernel) (by decide) (by omega) (by omega) (fun c2 => ?_) (fun c2 => ?_)
  · refine aw_blk (pc' := 15) (ls' := [some (vi a), some (vi c), some (vi d)]) (st' := [vi 0]) [.inl (.iconst 0)] 14 _ _ (by decide +kernel) rfl ?_
    exact aw_zret (by decide +kernel) rfl (by decide) (by decide) (by omega) ⟨by rw [if_neg (by omega)], rfl⟩
  · refine aw_blk (pc' := 7) (ls' := [some (vi a), some (vi c), some (vi d)]) (st' := [vi d, vi a]) [.inl (.iload_n 0), .inl (.iload_n 2)] 5 _ _ (by decide +kernel) rfl ?_
    refine aw_icmp_gt (o := 7) (tgt := 14) (by decide +kernel) (by decide) (by omega) (by omega) (fun c7 => ?_) (fun c7 => ?_)
    · refine aw_blk (pc' := 15) (ls' := [some (vi a), some (vi c), some (vi d)]) (st' := [vi 0]) [.inl (.iconst 0)] 14 _ _ (by decide +kernel) rfl ?_
      exact aw_zret (by decide +kernel) rfl (by decide) (by decide) (by omega) ⟨by rw [if_neg (by omega)], rfl⟩
    · refine aw_blk (pc' := 11) (ls' := [some (vi a), some (vi c), some (vi d)]) (st' := [vi 1]) [.inl (.iconst 1)] 10 _ _ (by decide +kernel) rfl ?_
      refine aw_goto (o := 4) (tgt := 15) (by decide +kernel) (by decide) ?_
      exact aw_zret (by decide +kernel) rfl (by decide) (by decide) (by omega) ⟨by rw [if_pos (by omega)], rfl⟩

abbrev sgT (len : Int) (f : Nat → Int) : SG := [some (ob 2 [vr 2 1, vi len]), some (ar 0 200 f)]
theorem m_T_hasRoom (h0 : 0 ≤ len) (h1 : len ≤ 200) : ADet G M_T_hasRoom [vr 2 0] (Hp b s (sgT len f) mk df jo tr di mo dy) (some (vi (if len + 20 ≤ 200 then 1 else 0))) (Hp b s (sgT len f) mk df jo tr di mo dy) := by
  refine am_entry (by decide +kernel) (Nat.le_of_ble_eq_true rfl) ?_
  refine aw_blk (pc' := 10) (ls' := [some (vr 2 0)]) (st' := [vi 200, vi (len + 20)]) [.inl (.aload_n 0), .inr (13, 2, 1), .inl (.bipush 20), .inl (.iadd), .inl (.sipush 200)] 0 _ _ (by decide +kernel) rfl ?_
  refine aw_icmp_gt (o := 7) (tgt := 17) (by decide +kernel) (by decide) (by omega) (by omega) (fun c10 => ?_) (fun c10 => ?_)
  · refine aw_blk (pc' := 18) (ls' := [some (vr 2 0)]) (st' := [vi 0]) [.inl (.iconst 0)] 17 _ _ (by decide +kernel) rfl ?_
    exact aw_zret (by decide +kernel) rfl (by decide) (by decide) (by omega) ⟨by rw [if_neg (by omega)], rfl⟩
  · refine aw_blk (pc' := 14) (ls' := [some (vr 2 0)]) (st' := [vi 1]) [.inl (.iconst 1)] 13 _ _ (by decide +kernel) rfl ?_
    refine aw_goto (o := 4) (tgt := 18) (by decide +kernel) (by decide) ?_
    exact aw_zret (by decide +kernel) rfl (by decide) (by decide) (by omega) ⟨by rw [if_pos (by omega)], rfl⟩

theorem m_T_empty : ADet G M_T_empty [vr 2 0] (Hp b s (sgT len f) mk df jo tr di mo dy) none (Hp b s (sgT 0 f) mk df jo tr di mo dy) := by
  refine am_entry (by decide +kernel) (Nat.le_of_ble_eq_true rfl) ?_
  refine aw_blk (pc' := 2) (ls' := [some (vr 2 0)]) (st' := [vi 0, vr 2 0]) [.inl (.aload_n 0), .inl (.iconst 0)] 0 _ _ (by decide +kernel) rfl ?_
  refine aw_put (idx := 13) (ci := 2) (k := 1) (h' := Hp b s [some (ob 2 [vr 2 1, vi 0]), some (ar 0 200 f)] mk df jo tr di mo dy) (by decide +kernel) (by decide +kernel) rfl (Nat.le_of_ble_eq_true rfl) (show I32 _ from by omega) rfl ?_
  exact aw_vret (by decide +kernel) rfl (by decide) (by decide) ⟨rfl, rfl⟩

theorem m_T_cut (ha : I32 a) (h0 : 0 ≤ len) (h1 : len ≤ 200) : ADet G M_T_cut [vr 2 0, vi a] (Hp b s (sgT len f) mk df jo tr di mo dy) (some (vi (if 0 ≤ a ∧ a ≤ len then 1 else 0))) (Hp b s (sgT (if 0 ≤ a ∧ a ≤ len then a else len) f) mk df jo tr di mo dy) := by
  refine am_entry (by decide +kernel) (Nat.le_of_ble_eq_true rfl) ?_
  refine aw_blk (pc' := 1) (ls' := [some (vr 2 0), some (vi a)]) (st' := [vi a]) [.inl (.iload_n 1)] 0 _ _ (by decide +kernel) rfl ?_
  refine aw_if_lt (o := 11) (tgt := 12) (by decide +kernel) (by decide) (by omega) (fun c1 => ?_) (fun c1 => ?_)
  · refine aw_blk (pc' := 13) (ls' := [some (vr 2 0), some (vi a)]) (st' := [vi 0]) [.inl (.iconst 0)] 12 _ _ (by decide +kernel) rfl ?_
    exact aw_zret (by decide +kernel) rfl (by decide) (by decide) (by omega) ⟨by rw [if_neg (by omega)], by rw [if_neg (by omega)]⟩
  · refine aw_blk (pc' := 9) (ls' := [some (vr 2 0), some (vi a)]) (st' := [vi len, vi a]) [.inl (.iload_n 1), .inl (.aload_n 0), .inr (13, 2, 1)] 4 _ _ (by decide +kernel) rfl ?_
    refine aw_icmp_le (o := 5) (tgt := 14) (by decide +kernel) (by decide) (by omega) (by omega) (fun c9 => ?_) (fun c9 => ?_)
    · refine aw_blk (pc' := 16) (ls' := [some (vr 2 0), some (vi a)]) (st' := [vi a, vr 2 0]) [.inl (.aload_n 0), .inl (.iload_n 1)] 14 _ _ (by decide +kernel) rfl ?_
      refine aw_put (idx := 13) (ci := 2) (k := 1) (h' := Hp b s [some (ob 2 [vr 2 1, vi a]), some (ar 0 200 f)] mk df jo tr di mo dy) (by decide +kernel) (by decide +kernel) rfl (Nat.le_of_ble_eq_true rfl) (show I32 _ from by omega) rfl ?_
      refine aw_blk (pc' := 20) (ls' := [some (vr 2 0), some (vi a)]) (st' := [vi 1]) [.inl (.iconst 1)] 19 _ _ (by decide +kernel) rfl ?_
      exact aw_zret (by decide +kernel) rfl (by decide) (by decide) (by omega) ⟨by rw [if_pos (by omega)], by rw [if_pos (by omega)]⟩
    · refine aw_blk (pc' := 13) (ls' := [some (vr 2 0), some (vi a)]) (st' := [vi 0]) [.inl (.iconst 0)] 12 _ _ (by decide +kernel) rfl ?_
      exact aw_zret (by decide +kernel) rfl (by decide) (by decide) (by omega) ⟨by rw [if_neg (by omega)], by rw [if_neg (by omega)]⟩

theorem m_T_byteAt (ha : I32 a) (h0 : 0 ≤ len) (h1 : len ≤ 200) : ADet G M_T_byteAt [vr 2 0, vi a] (Hp b s (sgT len f) mk df jo tr di mo dy) (some (vi (if 0 ≤ a ∧ a < len then f a.toNat else 0))) (Hp b s (sgT len f) mk df jo tr di mo dy) := by
  refine am_entry (by decide +kernel) (Nat.le_of_ble_eq_true rfl) ?_
  refine aw_blk (pc' := 1) (ls' := [some (vr 2 0), some (vi a)]) (st' := [vi a]) [.inl (.iload_n 1)] 0 _ _ (by decide +kernel) rfl ?_
  refine aw_if_lt (o := 20) (tgt := 21) (by decide +kernel) (by decide) (by omega) (fun c1 => ?_) (fun c1 => ?_)
  · refine aw_blk (pc' := 22) (ls' := [some (vr 2 0), some (vi a)]) (st' := [vi 0]) [.inl (.iconst 0)] 21 _ _ (by decide +kernel) rfl ?_
    exact aw_iret (by decide +kernel) rfl (by decide) (by decide) ⟨by rw [if_neg (by omega)], rfl⟩
  · refine aw_blk (pc' := 9) (ls' := [some (vr 2 0), some (vi a)]) (st' := [vi len, vi a]) [.inl (.iload_n 1), .inl (.aload_n 0), .inr (13, 2, 1)] 4 _ _ (by decide +kernel) rfl ?_
    refine aw_icmp_ge (o := 12) (tgt := 21) (by decide +kernel) (by decide) (by omega) (by omega) (fun c9 => ?_) (fun c9 => ?_)
    · refine aw_blk (pc' := 22) (ls' := [some (vr 2 0), some (vi a)]) (st' := [vi 0]) [.inl (.iconst 0)] 21 _ _ (by decide +kernel) rfl ?_
      exact aw_iret (by decide +kernel) rfl (by decide) (by decide) ⟨by rw [if_neg (by omega)], rfl⟩
    · refine aw_blk (pc' := 17) (ls' := [some (vr 2 0), some (vi a)]) (st' := [vi a, vr 2 1]) [.inl (.aload_n 0), .inr (9, 2, 0), .inl (.iload_n 1)] 12 _ _ (by decide +kernel) rfl ?_
      refine aw_iald (j := a.toNat) (by decide +kernel) rfl (by omega) (by omega) (fun r17 => ?_)
      refine aw_goto (o := 4) (tgt := 22) (by decide +kernel) (by decide) ?_
      exact aw_iret (by decide +kernel) rfl (by decide) (by decide) ⟨by rw [if_pos (by omega)], rfl⟩

end
end
section
section
variable {G : GT} {h : HT} {b s t mk df jo tr di mo dy : SG} {a c : Int} {n : Nat} {f : Nat → Int}
def byt (a : Int) (k : Nat) : Int := match k with
  | 0 => a % 4294967296 / 16777216 % 256
  | 1 => a % 4294967296 / 65536 % 256
  | 2 => a % 4294967296 / 256 % 256
  | _ => a % 4294967296 / 1 % 256
def wr4 (f : Nat → Int) (n : Nat) (a : Int) : Nat → Int := va_up (va_up (va_up (va_up f n (byt a 0)) (n + 1) (byt a 1)) (n + 2) (byt a 2)) (n + 3) (byt a 3)
theorem m_T_write (hn : n + 4 ≤ 200) : ADet G M_T_write [vr 2 0, vi a] (Hp b s (sgT (n : Int) f) mk df jo tr di mo dy) none (Hp b s (sgT ((n : Int) + 1 + 1 + 1 + 1) (wr4 f n a)) mk df jo tr di mo dy) := by
  refine am_entry (by decide +kernel) (Nat.le_of_ble_eq_true rfl) ?_
  refine aw_blk (pc' := 4) (ls' := [some (vr 2 0), some (vi a), some (vi 24)]) (st' := [vi 24]) [.inl (.bipush 24), .inl (.istore_n 2), .inl (.iload_n 2)] 0 _ _ (by decide +kernel) rfl ?_
  refine aw_if_lt (o := 45) (tgt := 49) (by decide +kernel) (by decide) (by omega) (fun c => absurd c (by omega)) (fun _ => ?_)
  refine aw_blk (pc' := 14) (ls' := [some (vr 2 0), some (vi a), some (vi 24)]) (st' := [vi 200, vi (n : Int)]) [.inl (.aload_n 0), .inr (13, 2, 1), .inl (.sipush 200)] 7 _ _ (by decide +kernel) rfl ?_
  refine aw_icmp_ge (o := 35) (tgt := 49) (by decide +kernel) (by decide) (by omega) (by omega) (fun c => absurd c (by omega)) (fun _ => ?_)
  refine aw_blk (pc' := 27) (ls' := [some (vr 2 0), some (vi a), some (vi 24)]) (st' := [vi 24, vi a, vi (n : Int), vr 2 1]) [.inl (.aload_n 0), .inr (9, 2, 0), .inl (.aload_n 0), .inr (13, 2, 1), .inl (.iload_n 1), .inl (.iload_n 2)] 17 _ _ (by decide +kernel) rfl ?_
  refine aw_ushr (p9 := 16777216) 24 (by decide +kernel) rfl (by decide) (by decide) ?_
  refine aw_blk (pc' := 31) (ls' := [some (vr 2 0), some (vi a), some (vi 24)]) (st' := [vi 255, vi (a % 4294967296 / 16777216), vi (n : Int), vr 2 1]) [.inl (.sipush 255)] 28 _ _ (by decide +kernel) rfl ?_
  refine aw_and (p9 := 256) 8 (by decide +kernel) (by decide) (by decide) (by decide) ?_
  refine aw_iast (j := n) (h' := Hp b s [some (ob 2 [vr 2 1, vi (n : Int)]), some (ar 0 200 (va_up f n ((a % 4294967296 / 16777216) % 256)))] mk df jo tr di mo dy) (by decide +kernel) rfl (by omega) (by omega) (by omega) rfl ?_
  refine aw_blk (pc' := 40) (ls' := [some (vr 2 0), some (vi a), some (vi 24)]) (st' := [vi ((n : Int) + 1), vr 2 0]) [.inl (.aload_n 0), .inl (.dup), .inr (13, 2, 1), .inl (.iconst 1), .inl (.iadd)] 33 _ _ (by decide +kernel) rfl ?_
  refine aw_put (idx := 13) (ci := 2) (k := 1) (h' := Hp b s [some (ob 2 [vr 2 1, vi ((n : Int) + 1)]), some (ar 0 200 (va_up f n ((a % 4294967296 / 16777216) % 256)))] mk df jo tr di mo dy) (by decide +kernel) (by decide +kernel) rfl (Nat.le_of_ble_eq_true rfl) (show I32 _ from by omega) rfl ?_
  refine aw_blk (pc' := 46) (ls' := [some (vr 2 0), some (vi a), some (vi (24 + (-8)))]) (st' := []) [.inl (.iinc 2 (-8))] 43 _ _ (by decide +kernel) rfl ?_
  refine aw_goto (o := -43) (tgt := 3) (by decide +kernel) (by decide) ?_
  refine aw_blk (pc' := 4) (ls' := [some (vr 2 0), some (vi a), some (vi (24 + (-8)))]) (st' := [vi (24 + (-8))]) [.inl (.iload_n 2)] 3 _ _ (by decide +kernel) rfl ?_
  refine aw_if_lt (o := 45) (tgt := 49) (by decide +kernel) (by decide) (by omega) (fun c => absurd c (by omega)) (fun _ => ?_)
  refine aw_blk (pc' := 14) (ls' := [some (vr 2 0), some (vi a), some (vi (24 + (-8)))]) (st' := [vi 200, vi ((n : Int) + 1)]) [.inl (.aload_n 0), .inr (13, 2, 1), .inl (.sipush 200)] 7 _ _ (by decide +kernel) rfl ?_
  refine aw_icmp_ge (o := 35) (tgt := 49) (by decide +kernel) (by decide) (by omega) (by omega) (fun c => absurd c (by omega)) (fun _ => ?_)
  refine aw_blk (pc' := 27) (ls' := [some (vr 2 0), some (vi a), some (vi (24 + (-8)))]) (st' := [vi (24 + (-8)), vi a, vi ((n : Int) + 1), vr 2 1]) [.inl (.aload_n 0), .inr (9, 2, 0), .inl (.aload_n 0), .inr (13, 2, 1), .inl (.iload_n 1), .inl (.iload_n 2)] 17 _ _ (by decide +kernel) rfl ?_
  refine aw_ushr (p9 := 65536) 16 (by decide +kernel) rfl (by decide) (by decide) ?_
  refine aw_blk (pc' := 31) (ls' := [some (vr 2 0), some (vi a), some (vi (24 + (-8)))]) (st' := [vi 255, vi (a % 4294967296 / 65536), vi ((n : Int) + 1), vr 2 1]) [.inl (.sipush 255)] 28 _ _ (by decide +kernel) rfl ?_
  refine aw_and (p9 := 256) 8 (by decide +kernel) (by decide) (by decide) (by decide) ?_
  refine aw_iast (j := n + 1) (h' := Hp b s [some (ob 2 [vr 2 1, vi ((n : Int) + 1)]), some (ar 0 200 (va_up (va_up f n ((a % 4294967296 / 16777216) % 256)) (n + 1) ((a % 4294967296 / 65536) % 256)))] mk df jo tr di mo dy) (by decide +kernel) rfl (by omega) (by omega) (by omega) rfl ?_
  refine aw_blk (pc' := 40) (ls' := [some (vr 2 0), some (vi a), some (vi (24 + (-8)))]) (st' := [vi (((n : Int) + 1) + 1), vr 2 0]) [.inl (.aload_n 0), .inl (.dup), .inr (13, 2, 1), .inl (.iconst 1), .inl (.iadd)] 33 _ _ (by decide +kernel) rfl ?_
  refine aw_put (idx := 13) (ci := 2) (k := 1) (h' := Hp b s [some (ob 2 [vr 2 1, vi (((n : Int) + 1) + 1)]), some (ar 0 200 (va_up (va_up f n ((a % 4294967296 / 16777216) % 256)) (n + 1) ((a % 4294967296 / 65536) % 256)))] mk df jo tr di mo dy) (by decide +kernel) (by decide +kernel) rfl (Nat.le_of_ble_eq_true rfl) (show I32 _ from by omega) rfl ?_
  refine aw_blk (pc' := 46) (ls' := [some (vr 2 0), some (vi a), some (vi ((24 + (-8)) + (-8)))]) (st' := []) [.inl (.iinc 2 (-8))] 43 _ _ (by decide +kernel) rfl ?_
  refine aw_goto (o := -43) (tgt := 3) (by decide +kernel) (by decide) ?_
  refine aw_blk (pc' := 4) (ls' := [some (vr 2 0), some (vi a), some (vi ((24 + (-8)) + (-8)))]) (st' := [vi ((24 + (-8)) + (-8))]) [.inl (.iload_n 2)] 3 _ _ (by decide +kernel) rfl ?_
  refine aw_if_lt (o := 45) (tgt := 49) (by decide +kernel) (by decide) (by omega) (fun c => absurd c (by omega)) (fun _ => ?_)
  refine aw_blk (pc' := 14) (ls' := [some (vr 2 0), some (vi a), some (vi ((24 + (-8)) + (-8)))]) (st' := [vi 200, vi (((n : Int) + 1) + 1)]) [.inl (.aload_n 0), .inr (13, 2, 1), .inl (.sipush 200)] 7 _ _ (by decide +kernel) rfl ?_
  refine aw_icmp_ge (o := 35) (tgt := 49) (by decide +kernel) (by decide) (by omega) (by omega) (fun c => absurd c (by omega)) (fun _ => ?_)
  refine aw_blk (pc' := 27) (ls' := [some (vr 2 0), some (vi a), some (vi ((24 + (-8)) + (-8)))]) (st' := [vi ((24 + (-8)) + (-8)), vi a, vi (((n : Int) + 1) + 1), vr 2 1]) [.inl (.aload_n 0), .inr (9, 2, 0), .inl (.aload_n 0), .inr (13, 2, 1), .inl (.iload_n 1), .inl (.iload_n 2)] 17 _ _ (by decide +kernel) rfl ?_
  refine aw_ushr (p9 := 256) 8 (by decide +kernel) rfl (by decide) (by decide) ?_
  refine aw_blk (pc' := 31) (ls' := [some (vr 2 0), some (vi a), some (vi ((24 + (-8)) + (-8)))]) (st' := [vi 255, vi (a % 4294967296 / 256), vi (((n : Int) + 1) + 1), vr 2 1]) [.inl (.sipush 255)] 28 _ _ (by decide +kernel) rfl ?_
  refine aw_and (p9 := 256) 8 (by decide +kernel) (by decide) (by decide) (by decide) ?_
  refine aw_iast (j := n + 2) (h' := Hp b s [some (ob 2 [vr 2 1, vi (((n : Int) + 1) + 1)]), some (ar 0 200 (va_up (va_up (va_up f n ((a % 4294967296 / 16777216) % 256)) (n + 1) ((a % 4294967296 / 65536) % 256)) (n + 2) ((a % 4294967296 / 256) % 256)))] mk df jo tr di mo dy) (by decide +kernel) rfl (by omega) (by omega) (by omega) rfl ?_
  refine aw_blk (pc' := 40) (ls' := [some (vr 2 0), some (vi a), some (vi ((24 + (-8)) + (-8)))]) (st' := [vi ((((n : Int) + 1) + 1) + 1), vr 2 0]) [.inl (.aload_n 0), .inl (.dup), .inr (13, 2, 1), .inl (.iconst 1), .inl (.iadd)] 33 _ _ (by decide +kernel) rfl ?_
  refine aw_put (idx := 13) (ci := 2) (k := 1) (h' := Hp b s [some (ob 2 [vr 2 1, vi ((((n : Int) + 1) + 1) + 1)]), some (ar 0 200 (va_up (va_up (va_up f n ((a % 4294967296 / 16777216) % 256)) (n + 1) ((a % 4294967296 / 65536) % 256)) (n + 2) ((a % 4294967296 / 256) % 256)))] mk df jo tr di mo dy) (by decide +kernel) (by decide +kernel) rfl (Nat.le_of_ble_eq_true rfl) (show I32 _ from by omega) rfl ?_
  refine aw_blk (pc' := 46) (ls' := [some (vr 2 0), some (vi a), some (vi (((24 + (-8)) + (-8)) + (-8)))]) (st' := []) [.inl (.iinc 2 (-8))] 43 _ _ (by decide +kernel) rfl ?_
  refine aw_goto (o := -43) (tgt := 3) (by decide +kernel) (by decide) ?_
  refine aw_blk (pc' := 4) (ls' := [some (vr 2 0), some (vi a), some (vi (((24 + (-8)) + (-8)) + (-8)))]) (st' := [vi (((24 + (-8)) + (-8)) + (-8))]) [.inl (.iload_n 2)] 3 _ _ (by decide +kernel) rfl ?_
  refine aw_if_lt (o := 45) (tgt := 49) (by decide +kernel) (by decide) (by omega) (fun c => absurd c (by omega)) (fun _ => ?_)
  refine aw_blk (pc' := 14) (ls' := [some (vr 2 0), some (vi a), some (vi (((24 + (-8)) + (-8)) + (-8)))]) (st' := [vi 200, vi ((((n : Int) + 1) + 1) + 1)]) [.inl (.aload_n 0), .inr (13, 2, 1), .inl (.sipush 200)] 7 _ _ (by decide +kernel) rfl ?_
  refine aw_icmp_ge (o := 35) (tgt := 49) (by decide +kernel) (by decide) (by omega) (by omega) (fun c => absurd c (by omega)) (fun _ => ?_)
  refine aw_blk (pc' := 27) (ls' := [some (vr 2 0), some (vi a), some (vi (((24 + (-8)) + (-8)) + (-8)))]) (st' := [vi (((24 + (-8)) + (-8)) + (-8)), vi a, vi ((((n : Int) + 1) + 1) + 1), vr 2 1]) [.inl (.aload_n 0), .inr (9, 2, 0), .inl (.aload_n 0), .inr (13, 2, 1), .inl (.iload_n 1), .inl (.iload_n 2)] 17 _ _ (by decide +kernel) rfl ?_
  refine aw_ushr (p9 := 1) 0 (by decide +kernel) rfl (by decide) (by decide) ?_
  refine aw_blk (pc' := 31) (ls' := [some (vr 2 0), some (vi a), some (vi (((24 + (-8)) + (-8)) + (-8)))]) (st' := [vi 255, vi (a % 4294967296 / 1), vi ((((n : Int) + 1) + 1) + 1), vr 2 1]) [.inl (.sipush 255)] 28 _ _ (by decide +kernel) rfl ?_
  refine aw_and (p9 := 256) 8 (by decide +kernel) (by decide) (by decide) (by decide) ?_
  refine aw_iast (j := n + 3) (h' := Hp b s [some (ob 2 [vr 2 1, vi ((((n : Int) + 1) + 1) + 1)]), some (ar 0 200 (va_up (va_up (va_up (va_up f n ((a % 4294967296 / 16777216) % 256)) (n + 1) ((a % 4294967296 / 65536) % 256)) (n + 2) ((a % 4294967296 / 256) % 256)) (n + 3) ((a % 4294967296 / 1) % 256)))] mk df jo tr di mo dy) (by decide +kernel) rfl (by omega) (by omega) (by omega) rfl ?_
  refine aw_blk (pc' := 40) (ls' := [some (vr 2 0), some (vi a), some (vi (((24 + (-8)) + (-8)) + (-8)))]) (st' := [vi (((((n : Int) + 1) + 1) + 1) + 1), vr 2 0]) [.inl (.aload_n 0), .inl (.dup), .inr (13, 2, 1), .inl (.iconst 1), .inl (.iadd)] 33 _ _ (by decide +kernel) rfl ?_
  refine aw_put (idx := 13) (ci := 2) (k := 1) (h' := Hp b s [some (ob 2 [vr 2 1, vi (((((n : Int) + 1) + 1) + 1) + 1)]), some (ar 0 200 (va_up (va_up (va_up (va_up f n ((a % 4294967296 / 16777216) % 256)) (n + 1) ((a % 4294967296 / 65536) % 256)) (n + 2) ((a % 4294967296 / 256) % 256)) (n + 3) ((a % 4294967296 / 1) % 256)))] mk df jo tr di mo dy) (by decide +kernel) (by decide +kernel) rfl (Nat.le_of_ble_eq_true rfl) (show I32 _ from by omega) rfl ?_
  refine aw_blk (pc' := 46) (ls' := [some (vr 2 0), some (vi a), some (vi ((((24 + (-8)) + (-8)) + (-8)) + (-8)))]) (st' := []) [.inl (.iinc 2 (-8))] 43 _ _ (by decide +kernel) rfl ?_
  refine aw_goto (o := -43) (tgt := 3) (by decide +kernel) (by decide) ?_
  refine aw_blk (pc' := 4) (ls' := [some (vr 2 0), some (vi a), some (vi ((((24 + (-8)) + (-8)) + (-8)) + (-8)))]) (st' := [vi ((((24 + (-8)) + (-8)) + (-8)) + (-8))]) [.inl (.iload_n 2)] 3 _ _ (by decide +kernel) rfl ?_
  refine aw_if_lt (o := 45) (tgt := 49) (by decide +kernel) (by decide) (by omega) (fun _ => ?_) (fun c => absurd (by omega) c)
  exact aw_vret (by decide +kernel) rfl (by decide) (by decide) ⟨rfl, rfl⟩

theorem m_T_byteIn (ha : 0 ≤ a ∧ a < (n : Int)) (hn : n ≤ 200) : ADet G M_T_byteAt [vr 2 0, vi a] (Hp b s (sgT (n : Int) f) mk df jo tr di mo dy) (some (vi (f a.toNat))) (Hp b s (sgT (n : Int) f) mk df jo tr di mo dy) := by
  have z := m_T_byteAt (G := G) (b := b) (s := s) (mk := mk) (df := df) (jo := jo) (tr := tr) (di := di) (mo := mo) (dy := dy) (a := a) (len := (n : Int)) (f := f) (by omega) (by omega) (by omega)
  rw [if_pos (by omega)] at z
  exact z
theorem m_T_bitAt (ha : 0 ≤ a ∧ a < 8 * (n : Int)) (hn : n ≤ 200) (hf : ∀ j, I32 (f j)) : ADet G M_T_bitAt [vr 2 0, vi a] (Hp b s (sgT (n : Int) f) mk df jo tr di mo dy) (some (vi (f (a / 8).toNat / ((2 ^ (7 - a % 8).toNat : Nat) : Int) % 2))) (Hp b s (sgT (n : Int) f) mk df jo tr di mo dy) := by
  refine am_entry (by decide +kernel) (Nat.le_of_ble_eq_true rfl) ?_
  refine aw_blk (pc' := 3) (ls' := [some (vr 2 0), some (vi a)]) (st' := [vi 3, vi a, vr 2 0]) [.inl (.aload_n 0), .inl (.iload_n 1), .inl (.iconst 3)] 0 _ _ (by decide +kernel) rfl ?_
  refine aw_shr (p9 := 8) 3 (by decide +kernel) (by omega) rfl (by decide) (by decide) ?_
  refine aw_dV (cs' := 0) (sl' := 0) (pc' := 7) (st' := [vi (f (a / 8).toNat)]) (idx := 17) (as := [vi (a / 8)]) (st := []) (m_T_byteIn (by omega) hn) (by decide +kernel) (show vOK "ChanceBench$Tape" 17 M_T_byteAt 1 = true by decide +kernel) rfl rfl rfl (Nat.le_of_ble_eq_true rfl) (by decide) (by decide) (by decide) rfl rfl rfl rfl ?_
  refine aw_blk (pc' := 12) (ls' := [some (vr 2 0), some (vi a)]) (st' := [vi 7, vi a, vi 7, vi (f (a / 8).toNat)]) [.inl (.bipush 7), .inl (.iload_n 1), .inl (.bipush 7)] 7 _ _ (by decide +kernel) rfl ?_
  refine aw_and (p9 := 8) 3 (by decide +kernel) (by decide) (by decide) (by decide) ?_
  refine aw_blk (pc' := 14) (ls' := [some (vr 2 0), some (vi a)]) (st' := [vi (7 - (a % 8)), vi (f (a / 8).toNat)]) [.inl (.isub)] 13 _ _ (by decide +kernel) rfl ?_
  refine aw_shr (p9 := ((2 ^ (7 - a % 8).toNat : Nat) : Int)) ((7 - a % 8).toNat) (by decide +kernel) (hf _) (by omega) (by omega) rfl ?_
  refine aw_blk (pc' := 16) (ls' := [some (vr 2 0), some (vi a)]) (st' := [vi 1, vi ((f (a / 8).toNat) / ((2 ^ (7 - a % 8).toNat : Nat) : Int))]) [.inl (.iconst 1)] 15 _ _ (by decide +kernel) rfl ?_
  refine aw_and (p9 := 2) 1 (by decide +kernel) (by decide) (by decide) (by decide) ?_
  exact aw_iret (by decide +kernel) rfl (by decide) (by decide) ⟨rfl, rfl⟩

abbrev sgS (laws : Nat → Option (Nat × Nat)) (slot : Nat → Int) (ahead made : Nat → Option (Nat × Nat)) (od dn un : Int) : SG := [some (ob 1 [vr 1 1, vr 1 2, vr 1 3, vr 1 4, vi od, vi dn, vi un]), some (rs 16 laws), some (ar 0 30 slot), some (rs 30 ahead), some (rs 30 made)]
variable {laws ahead made : Nat → Option (Nat × Nat)} {slot : Nat → Int} {od dn un : Nat}
theorem m_S_hasSlot (ha : I32 a) : ADet G M_S_hasSlot [vr 1 0, vi a] (Hp b (sgS laws slot ahead made (od : Int) (dn : Int) (un : Int)) t mk df jo tr di mo dy) (some (vi (if 0 ≤ a ∧ a < 16 then 1 else 0))) (Hp b (sgS laws slot ahead made (od : Int) (dn : Int) (un : Int)) t mk df jo tr di mo dy) := by
  refine am_entry (by decide +kernel) (Nat.le_of_ble_eq_true rfl) ?_
  refine aw_blk (pc' := 1) (ls' := [some (vr 1 0), some (vi a)]) (st' := [vi a]) [.inl (.iload_n 1)] 0 _ _ (by decide +kernel) rfl ?_
  refine aw_if_lt (o := 13) (tgt := 14) (by decide +kernel) (by decide) (by omega) (fun c1 => ?_) (fun c1 => ?_)
  · refine aw_blk (pc' := 15) (ls' := [some (vr 1 0), some (vi a)]) (st' := [vi 0]) [.inl (.iconst 0)] 14 _ _ (by decide +kernel) rfl ?_
    exact aw_zret (by decide +kernel) rfl (by decide) (by decide) (by omega) ⟨by rw [if_neg (by omega)], rfl⟩
  · refine aw_blk (pc' := 7) (ls' := [some (vr 1 0), some (vi a)]) (st' := [vi 16, vi a]) [.inl (.iload_n 1), .inl (.bipush 16)] 4 _ _ (by decide +kernel) rfl ?_
    refine aw_icmp_ge (o := 7) (tgt := 14) (by decide +kernel) (by decide) (by omega) (by omega) (fun c7 => ?_) (fun c7 => ?_)
    · refine aw_blk (pc' := 15) (ls' := [some (vr 1 0), some (vi a)]) (st' := [vi 0]) [.inl (.iconst 0)] 14 _ _ (by decide +kernel) rfl ?_
      exact aw_zret (by decide +kernel) rfl (by decide) (by decide) (by omega) ⟨by rw [if_neg (by omega)], rfl⟩
    · refine aw_blk (pc' := 11) (ls' := [some (vr 1 0), some (vi a)]) (st' := [vi 1]) [.inl (.iconst 1)] 10 _ _ (by decide +kernel) rfl ?_
      refine aw_goto (o := 4) (tgt := 15) (by decide +kernel) (by decide) ?_
      exact aw_zret (by decide +kernel) rfl (by decide) (by decide) (by omega) ⟨by rw [if_pos (by omega)], rfl⟩

def lawAt (laws : Nat → Option (Nat × Nat)) (a : Int) : Option (Nat × Nat) := if 0 ≤ a ∧ a < 16 then laws a.toNat else none
theorem m_S_lawIn (ha : I32 a) : ADet G M_S_lawIn [vr 1 0, vi a] (Hp b (sgS laws slot ahead made (od : Int) (dn : Int) (un : Int)) t mk df jo tr di mo dy) (some (vo (lawAt laws a))) (Hp b (sgS laws slot ahead made (od : Int) (dn : Int) (un : Int)) t mk df jo tr di mo dy) := by
  refine am_entry (by decide +kernel) (Nat.le_of_ble_eq_true rfl) ?_
  refine aw_blk (pc' := 2) (ls' := [some (vr 1 0), some (vi a)]) (st' := [vi a, vr 1 0]) [.inl (.aload_n 0), .inl (.iload_n 1)] 0 _ _ (by decide +kernel) rfl ?_
  refine aw_dV (cs' := 0) (sl' := 0) (pc' := 5) (st' := [vi (if 0 ≤ a ∧ a < 16 then 1 else 0)]) (idx := 37) (as := [vi a]) (st := []) (m_S_hasSlot ha) (by decide +kernel) (show vOK "ChanceBench$Shelf" 37 M_S_hasSlot 1 = true by decide +kernel) rfl rfl rfl (Nat.le_of_ble_eq_true rfl) (by decide) (by decide) (by decide) rfl rfl rfl rfl ?_
  refine aw_if_eq (o := 12) (tgt := 17) (by decide +kernel) (by decide) (by split <;> omega) (fun c5 => ?_) (fun c5 => ?_)
  · have c5 : ¬ (0 ≤ a ∧ a < 16) := fun z => by rw [if_pos z] at c5; cases c5
    refine aw_blk (pc' := 18) (ls' := [some (vr 1 0), some (vi a)]) (st' := [vn]) [.inl (.aconst_null)] 17 _ _ (by decide +kernel) rfl ?_
    exact aw_aret (by decide +kernel) rfl (by decide) (by decide) ⟨by rw [lawAt, if_neg c5], rfl⟩
  · have c5 : 0 ≤ a ∧ a < 16 := by rcases Decidable.em (0 ≤ a ∧ a < 16) with z | z; exact z; rw [if_neg z] at c5; exact absurd rfl c5
    refine aw_blk (pc' := 13) (ls' := [some (vr 1 0), some (vi a)]) (st' := [vi a, vr 1 1]) [.inl (.aload_n 0), .inr (11, 1, 0), .inl (.iload_n 1)] 8 _ _ (by decide +kernel) rfl ?_
    refine aw_aald (j := a.toNat) (by decide +kernel) rfl (by omega) (by omega) ?_
    refine aw_goto (o := 4) (tgt := 18) (by decide +kernel) (by decide) ?_
    exact aw_aret (by decide +kernel) rfl (by decide) (by decide) ⟨by rw [lawAt, if_pos c5], rfl⟩

theorem m_S_done : ADet G M_S_done [vr 1 0] (Hp b (sgS laws slot ahead made (od : Int) (dn : Int) (un : Int)) t mk df jo tr di mo dy) (some (vi dn)) (Hp b (sgS laws slot ahead made (od : Int) (dn : Int) (un : Int)) t mk df jo tr di mo dy) := by
  refine am_entry (by decide +kernel) (Nat.le_of_ble_eq_true rfl) ?_
  refine aw_blk (pc' := 4) (ls' := [some (vr 1 0)]) (st' := [vi (dn : Int)]) [.inl (.aload_n 0), .inr (31, 1, 5)] 0 _ _ (by decide +kernel) rfl ?_
  exact aw_iret (by decide +kernel) rfl (by decide) (by decide) ⟨rfl, rfl⟩

theorem m_S_undone : ADet G M_S_undone [vr 1 0] (Hp b (sgS laws slot ahead made (od : Int) (dn : Int) (un : Int)) t mk df jo tr di mo dy) (some (vi un)) (Hp b (sgS laws slot ahead made (od : Int) (dn : Int) (un : Int)) t mk df jo tr di mo dy) := by
  refine am_entry (by decide +kernel) (Nat.le_of_ble_eq_true rfl) ?_
  refine aw_blk (pc' := 4) (ls' := [some (vr 1 0)]) (st' := [vi (un : Int)]) [.inl (.aload_n 0), .inr (34, 1, 6)] 0 _ _ (by decide +kernel) rfl ?_
  exact aw_iret (by decide +kernel) rfl (by decide) (by decide) ⟨rfl, rfl⟩

theorem tmod_nat (m k : Nat) : Int.tmod (m : Int) (k : Int) = ((m % k : Nat) : Int) := rfl
theorem tdiv_nat (m k : Nat) : Int.tdiv (m : Int) (k : Int) = ((m / k : Nat) : Int) := rfl
theorem m_S_placeOfAct (ho : od < 30) (hn : n ≤ 30) : ADet G M_S_placeOfAct [vr 1 0, vi (n : Int)] (Hp b (sgS laws slot ahead made (od : Int) (dn : Int) (un : Int)) t mk df jo tr di mo dy) (some (vi (((od + n) % 30 : Nat) : Int))) (Hp b (sgS laws slot ahead made (od : Int) (dn : Int) (un : Int)) t mk df jo tr di mo dy) := by
  refine am_entry (by decide +kernel) (Nat.le_of_ble_eq_true rfl) ?_
  refine aw_blk (pc' := 8) (ls' := [some (vr 1 0), some (vi (n : Int))]) (st' := [vi 30, vi ((od : Int) + (n : Int))]) [.inl (.aload_n 0), .inr (27, 1, 4), .inl (.iload_n 1), .inl (.iadd), .inl (.bipush 30)] 0 _ _ (by decide +kernel) rfl ?_
  refine aw_irem (by decide +kernel) (by omega) (by omega) (by omega) ?_
  exact aw_iret (by decide +kernel) rfl (by decide) (by decide) ⟨by rw [← Int.natCast_add]; rfl, rfl⟩

abbrev dyg (dy : SG) (k : Nat) : Option AC := hgs [dy] 0 k
def lwOK (dy : SG) (g : Nat → Option (Nat × Nat)) : Prop := ∀ (i : Nat) (x : Nat × Nat), g i = some x → x.1 = 9 ∧ ∃ fs, dyg dy x.2 = some (ob 9 fs)
theorem lwOK.at {g : Nat → Option (Nat × Nat)} {h : HT} {i : Nat} {x : Nat × Nat} (hl : lwOK dy g) (hx : g i = some x) (hh : h = Hp b s t mk df jo tr di mo dy := by rfl) : ∃ fs, hget h x.1 x.2 = some (ob 9 fs) := by
  obtain ⟨e, fs, z⟩ := hl i x hx
  subst hh
  obtain ⟨x1, x2⟩ := x
  cases e
  exact ⟨fs, z⟩
variable {k j : Nat}
theorem m_S_put_a {fs : List AV} (ho : od < 30) (hj : j < 16) (hd : dn < 30) (hk : dyg dy k = some (ob 9 fs)) (hl : lwOK dy laws) : ADet G M_S_put [vr 1 0, vi (j : Int), vr 9 k] (Hp b (sgS laws slot ahead made (od : Int) (dn : Int) (un : Int)) t mk df jo tr di mo dy) none (Hp b (sgS (va_up laws j (some (9, k))) (va_up slot ((od + dn) % 30) (j : Int)) (va_up ahead ((od + dn) % 30) (laws j)) (va_up made ((od + dn) % 30) (some (9, k))) (od : Int) ((dn : Int) + 1) 0) t mk df jo tr di mo dy) := by
  refine am_entry (by decide +kernel) (Nat.le_of_ble_eq_true rfl) ?_
  refine aw_blk (pc' := 2) (ls' := [some (vr 1 0), some (vi (j : Int)), some (vr 9 k), none]) (st' := [vi (j : Int), vr 1 0]) [.inl (.aload_n 0), .inl (.iload_n 1)] 0 _ _ (by decide +kernel) rfl ?_
  refine aw_dV (cs' := 0) (sl' := 0) (pc' := 5) (st' := [vi (if 0 ≤ (j : Int) ∧ (j : Int) < 16 then 1 else 0)]) (idx := 37) (as := [vi (j : Int)]) (st := []) (m_S_hasSlot (by omega)) (by decide +kernel) (show vOK "ChanceBench$Shelf" 37 M_S_hasSlot 1 = true by decide +kernel) rfl rfl rfl (Nat.le_of_ble_eq_true rfl) (by decide) (by decide) (by decide) rfl rfl rfl rfl ?_
  rw [if_pos (show 0 ≤ (j : Int) ∧ (j : Int) < 16 by omega)]
  refine aw_if_ne (o := 4) (tgt := 9) (by decide +kernel) (by decide) (by omega) (fun _ => ?_) (fun c => absurd c (by omega))
  refine aw_blk (pc' := 15) (ls' := [some (vr 1 0), some (vi (j : Int)), some (vr 9 k), none]) (st' := [vi 30, vi (dn : Int)]) [.inl (.aload_n 0), .inr (31, 1, 5), .inl (.bipush 30)] 9 _ _ (by decide +kernel) rfl ?_
  refine aw_icmp_ne (o := 26) (tgt := 41) (by decide +kernel) (by decide) (by omega) (by omega) (fun _ => ?_) (fun c => absurd c (by omega))
  refine aw_blk (pc' := 46) (ls' := [some (vr 1 0), some (vi (j : Int)), some (vr 9 k), none]) (st' := [vi (dn : Int), vr 1 0]) [.inl (.aload_n 0), .inl (.aload_n 0), .inr (31, 1, 5)] 41 _ _ (by decide +kernel) rfl ?_
  refine aw_dV (cs' := 0) (sl' := 0) (pc' := 49) (st' := [vi ((od + dn) % 30 : Nat)]) (idx := 41) (as := [vi (dn : Int)]) (st := []) (m_S_placeOfAct ho (by omega)) (by decide +kernel) (show vOK "ChanceBench$Shelf" 41 M_S_placeOfAct 1 = true by decide +kernel) rfl rfl rfl (Nat.le_of_ble_eq_true rfl) (by decide) (by decide) (by decide) rfl rfl rfl rfl ?_
  refine aw_blk (pc' := 56) (ls' := [some (vr 1 0), some (vi (j : Int)), some (vr 9 k), some (vi (((od + dn) % 30 : Nat) : Int))]) (st' := [vi (j : Int), vi (((od + dn) % 30 : Nat) : Int), vr 1 2]) [.inl (.istore_n 3), .inl (.aload_n 0), .inr (17, 1, 1), .inl (.iload_n 3), .inl (.iload_n 1)] 49 _ _ (by decide +kernel) rfl ?_
  refine aw_iast (j := (od + dn) % 30) (h' := Hp b [some (ob 1 [vr 1 1, vr 1 2, vr 1 3, vr 1 4, vi (od : Int), vi (dn : Int), vi (un : Int)]), some (rs 16 laws), some (ar 0 30 (va_up slot ((od + dn) % 30) (j : Int))), some (rs 30 ahead), some (rs 30 made)] t mk df jo tr di mo dy) (by decide +kernel) rfl rfl (by omega) (by omega) rfl ?_
  refine aw_blk (pc' := 67) (ls' := [some (vr 1 0), some (vi (j : Int)), some (vr 9 k), some (vi (((od + dn) % 30 : Nat) : Int))]) (st' := [vi (j : Int), vr 1 1, vi (((od + dn) % 30 : Nat) : Int), vr 1 3]) [.inl (.aload_n 0), .inr (21, 1, 2), .inl (.iload_n 3), .inl (.aload_n 0), .inr (11, 1, 0), .inl (.iload_n 1)] 57 _ _ (by decide +kernel) rfl ?_
  refine aw_aald (j := j) (by decide +kernel) rfl rfl (by omega) ?_
  refine aw_aast (j := (od + dn) % 30) (h' := Hp b [some (ob 1 [vr 1 1, vr 1 2, vr 1 3, vr 1 4, vi (od : Int), vi (dn : Int), vi (un : Int)]), some (rs 16 laws), some (ar 0 30 (va_up slot ((od + dn) % 30) (j : Int))), some (rs 30 (va_up ahead ((od + dn) % 30) (laws j))), some (rs 30 made)] t mk df jo tr di mo dy) (by decide +kernel) rfl rfl (by omega) (fun x hx => hl.at hx) rfl ?_
  refine aw_blk (pc' := 75) (ls' := [some (vr 1 0), some (vi (j : Int)), some (vr 9 k), some (vi (((od + dn) % 30 : Nat) : Int))]) (st' := [vr 9 k, vi (((od + dn) % 30 : Nat) : Int), vr 1 4]) [.inl (.aload_n 0), .inr (24, 1, 3), .inl (.iload_n 3), .inl (.aload_n 2)] 69 _ _ (by decide +kernel) rfl ?_
  refine aw_aast (j := (od + dn) % 30) (h' := Hp b [some (ob 1 [vr 1 1, vr 1 2, vr 1 3, vr 1 4, vi (od : Int), vi (dn : Int), vi (un : Int)]), some (rs 16 laws), some (ar 0 30 (va_up slot ((od + dn) % 30) (j : Int))), some (rs 30 (va_up ahead ((od + dn) % 30) (laws j))), some (rs 30 (va_up made ((od + dn) % 30) (some (9, k))))] t mk df jo tr di mo dy) (by decide +kernel) rfl rfl (by omega) (fun x hx => by cases hx; exact ⟨_, hk⟩) rfl ?_
  refine aw_blk (pc' := 82) (ls' := [some (vr 1 0), some (vi (j : Int)), some (vr 9 k), some (vi (((od + dn) % 30 : Nat) : Int))]) (st' := [vr 9 k, vi (j : Int), vr 1 1]) [.inl (.aload_n 0), .inr (11, 1, 0), .inl (.iload_n 1), .inl (.aload_n 2)] 76 _ _ (by decide +kernel) rfl ?_
  refine aw_aast (j := j) (h' := Hp b [some (ob 1 [vr 1 1, vr 1 2, vr 1 3, vr 1 4, vi (od : Int), vi (dn : Int), vi (un : Int)]), some (rs 16 (va_up laws j (some (9, k)))), some (ar 0 30 (va_up slot ((od + dn) % 30) (j : Int))), some (rs 30 (va_up ahead ((od + dn) % 30) (laws j))), some (rs 30 (va_up made ((od + dn) % 30) (some (9, k))))] t mk df jo tr di mo dy) (by decide +kernel) rfl rfl (by omega) (fun x hx => by cases hx; exact ⟨_, hk⟩) rfl ?_
  refine aw_blk (pc' := 90) (ls' := [some (vr 1 0), some (vi (j : Int)), some (vr 9 k), some (vi (((od + dn) % 30 : Nat) : Int))]) (st' := [vi ((dn : Int) + 1), vr 1 0]) [.inl (.aload_n 0), .inl (.dup), .inr (31, 1, 5), .inl (.iconst 1), .inl (.iadd)] 83 _ _ (by decide +kernel) rfl ?_
  refine aw_put (idx := 31) (ci := 1) (k := 5) (h' := Hp b [some (ob 1 [vr 1 1, vr 1 2, vr 1 3, vr 1 4, vi (od : Int), vi ((dn : Int) + 1), vi (un : Int)]), some (rs 16 (va_up laws j (some (9, k)))), some (ar 0 30 (va_up slot ((od + dn) % 30) (j : Int))), some (rs 30 (va_up ahead ((od + dn) % 30) (laws j))), some (rs 30 (va_up made ((od + dn) % 30) (some (9, k))))] t mk df jo tr di mo dy) (by decide +kernel) (by decide +kernel) rfl (Nat.le_of_ble_eq_true rfl) (show I32 _ from by omega) rfl ?_
  refine aw_blk (pc' := 95) (ls' := [some (vr 1 0), some (vi (j : Int)), some (vr 9 k), some (vi (((od + dn) % 30 : Nat) : Int))]) (st' := [vi 0, vr 1 0]) [.inl (.aload_n 0), .inl (.iconst 0)] 93 _ _ (by decide +kernel) rfl ?_
  refine aw_put (idx := 34) (ci := 1) (k := 6) (h' := Hp b [some (ob 1 [vr 1 1, vr 1 2, vr 1 3, vr 1 4, vi (od : Int), vi ((dn : Int) + 1), vi 0]), some (rs 16 (va_up laws j (some (9, k)))), some (ar 0 30 (va_up slot ((od + dn) % 30) (j : Int))), some (rs 30 (va_up ahead ((od + dn) % 30) (laws j))), some (rs 30 (va_up made ((od + dn) % 30) (some (9, k))))] t mk df jo tr di mo dy) (by decide +kernel) (by decide +kernel) rfl (Nat.le_of_ble_eq_true rfl) (show I32 _ from by omega) rfl ?_
  exact aw_vret (by decide +kernel) rfl (by decide) (by decide) ⟨rfl, rfl⟩

theorem m_S_put_b {fs : List AV} (ho : od < 30) (hj : j < 16) (hk : dyg dy k = some (ob 9 fs)) (hl : lwOK dy laws) : ADet G M_S_put [vr 1 0, vi (j : Int), vr 9 k] (Hp b (sgS laws slot ahead made (od : Int) 30 (un : Int)) t mk df jo tr di mo dy) none (Hp b (sgS (va_up laws j (some (9, k))) (va_up slot (((od + 1) % 30 + 29) % 30) (j : Int)) (va_up ahead (((od + 1) % 30 + 29) % 30) (laws j)) (va_up made (((od + 1) % 30 + 29) % 30) (some (9, k))) (((od + 1) % 30 : Nat) : Int) (30 - 1 + 1) 0) t mk df jo tr di mo dy) := by
  refine am_entry (by decide +kernel) (Nat.le_of_ble_eq_true rfl) ?_
  refine aw_blk (pc' := 2) (ls' := [some (vr 1 0), some (vi (j : Int)), some (vr 9 k), none]) (st' := [vi (j : Int), vr 1 0]) [.inl (.aload_n 0), .inl (.iload_n 1)] 0 _ _ (by decide +kernel) rfl ?_
  refine aw_dV (cs' := 0) (sl' := 0) (pc' := 5) (st' := [vi (if 0 ≤ (j : Int) ∧ (j : Int) < 16 then 1 else 0)]) (idx := 37) (as := [vi (j : Int)]) (st := []) (m_S_hasSlot (dn := 30) (by omega)) (by decide +kernel) (show vOK "ChanceBench$Shelf" 37 M_S_hasSlot 1 = true by decide +kernel) rfl rfl rfl (Nat.le_of_ble_eq_true rfl) (by decide) (by decide) (by decide) rfl rfl rfl rfl ?_
  rw [if_pos (show 0 ≤ (j : Int) ∧ (j : Int) < 16 by omega)]
  refine aw_if_ne (o := 4) (tgt := 9) (by decide +kernel) (by decide) (by omega) (fun _ => ?_) (fun c => absurd c (by omega))
  refine aw_blk (pc' := 15) (ls' := [some (vr 1 0), some (vi (j : Int)), some (vr 9 k), none]) (st' := [vi 30, vi 30]) [.inl (.aload_n 0), .inr (31, 1, 5), .inl (.bipush 30)] 9 _ _ (by decide +kernel) rfl ?_
  refine aw_icmp_ne (o := 26) (tgt := 41) (by decide +kernel) (by decide) (by omega) (by omega) (fun c => absurd (by omega) c) (fun _ => ?_)
  refine aw_blk (pc' := 27) (ls' := [some (vr 1 0), some (vi (j : Int)), some (vr 9 k), none]) (st' := [vi 30, vi ((od : Int) + 1), vr 1 0]) [.inl (.aload_n 0), .inl (.aload_n 0), .inr (27, 1, 4), .inl (.iconst 1), .inl (.iadd), .inl (.bipush 30)] 18 _ _ (by decide +kernel) rfl ?_
  refine aw_irem (by decide +kernel) (by omega) (by omega) (by omega) ?_
  rw [show Int.tmod ((od : Int) + 1) 30 = (((od + 1) % 30 : Nat) : Int) from by rw [← Int.natCast_one, ← Int.natCast_add]; rfl]
  refine aw_put (idx := 27) (ci := 1) (k := 4) (h' := Hp b [some (ob 1 [vr 1 1, vr 1 2, vr 1 3, vr 1 4, vi (((od + 1) % 30 : Nat) : Int), vi 30, vi (un : Int)]), some (rs 16 laws), some (ar 0 30 slot), some (rs 30 ahead), some (rs 30 made)] t mk df jo tr di mo dy) (by decide +kernel) (by decide +kernel) rfl (Nat.le_of_ble_eq_true rfl) (show I32 _ from by omega) rfl ?_
  refine aw_blk (pc' := 38) (ls' := [some (vr 1 0), some (vi (j : Int)), some (vr 9 k), none]) (st' := [vi (30 - 1), vr 1 0]) [.inl (.aload_n 0), .inl (.dup), .inr (31, 1, 5), .inl (.iconst 1), .inl (.isub)] 31 _ _ (by decide +kernel) rfl ?_
  refine aw_put (idx := 31) (ci := 1) (k := 5) (h' := Hp b [some (ob 1 [vr 1 1, vr 1 2, vr 1 3, vr 1 4, vi (((od + 1) % 30 : Nat) : Int), vi (30 - 1), vi (un : Int)]), some (rs 16 laws), some (ar 0 30 slot), some (rs 30 ahead), some (rs 30 made)] t mk df jo tr di mo dy) (by decide +kernel) (by decide +kernel) rfl (Nat.le_of_ble_eq_true rfl) (show I32 _ from by omega) rfl ?_
  refine aw_blk (pc' := 46) (ls' := [some (vr 1 0), some (vi (j : Int)), some (vr 9 k), none]) (st' := [vi (30 - 1), vr 1 0]) [.inl (.aload_n 0), .inl (.aload_n 0), .inr (31, 1, 5)] 41 _ _ (by decide +kernel) rfl ?_
  refine aw_dV (cs' := 0) (sl' := 0) (pc' := 49) (st' := [vi (((od + 1) % 30 + 29) % 30 : Nat)]) (idx := 41) (as := [vi (30 - 1)]) (st := []) (m_S_placeOfAct (od := (od + 1) % 30) (dn := 29) (n := 29) (by omega) (by omega)) (by decide +kernel) (show vOK "ChanceBench$Shelf" 41 M_S_placeOfAct 1 = true by decide +kernel) rfl rfl rfl (Nat.le_of_ble_eq_true rfl) (by decide) (by decide) (by decide) rfl rfl rfl rfl ?_
  refine aw_blk (pc' := 56) (ls' := [some (vr 1 0), some (vi (j : Int)), some (vr 9 k), some (vi ((((od + 1) % 30 + 29) % 30 : Nat) : Int))]) (st' := [vi (j : Int), vi ((((od + 1) % 30 + 29) % 30 : Nat) : Int), vr 1 2]) [.inl (.istore_n 3), .inl (.aload_n 0), .inr (17, 1, 1), .inl (.iload_n 3), .inl (.iload_n 1)] 49 _ _ (by decide +kernel) rfl ?_
  refine aw_iast (j := ((od + 1) % 30 + 29) % 30) (h' := Hp b [some (ob 1 [vr 1 1, vr 1 2, vr 1 3, vr 1 4, vi (((od + 1) % 30 : Nat) : Int), vi (30 - 1), vi (un : Int)]), some (rs 16 laws), some (ar 0 30 (va_up slot (((od + 1) % 30 + 29) % 30) (j : Int))), some (rs 30 ahead), some (rs 30 made)] t mk df jo tr di mo dy) (by decide +kernel) rfl rfl (by omega) (by omega) rfl ?_
  refine aw_blk (pc' := 67) (ls' := [some (vr 1 0), some (vi (j : Int)), some (vr 9 k), some (vi ((((od + 1) % 30 + 29) % 30 : Nat) : Int))]) (st' := [vi (j : Int), vr 1 1, vi ((((od + 1) % 30 + 29) % 30 : Nat) : Int), vr 1 3]) [.inl (.aload_n 0), .inr (21, 1, 2), .inl (.iload_n 3), .inl (.aload_n 0), .inr (11, 1, 0), .inl (.iload_n 1)] 57 _ _ (by decide +kernel) rfl ?_
  refine aw_aald (j := j) (by decide +kernel) rfl rfl (by omega) ?_
  refine aw_aast (j := ((od + 1) % 30 + 29) % 30) (h' := Hp b [some (ob 1 [vr 1 1, vr 1 2, vr 1 3, vr 1 4, vi (((od + 1) % 30 : Nat) : Int), vi (30 - 1), vi (un : Int)]), some (rs 16 laws), some (ar 0 30 (va_up slot (((od + 1) % 30 + 29) % 30) (j : Int))), some (rs 30 (va_up ahead (((od + 1) % 30 + 29) % 30) (laws j))), some (rs 30 made)] t mk df jo tr di mo dy) (by decide +kernel) rfl rfl (by omega) (fun x hx => hl.at hx) rfl ?_
  refine aw_blk (pc' := 75) (ls' := [some (vr 1 0), some (vi (j : Int)), some (vr 9 k), some (vi ((((od + 1) % 30 + 29) % 30 : Nat) : Int))]) (st' := [vr 9 k, vi ((((od + 1) % 30 + 29) % 30 : Nat) : Int), vr 1 4]) [.inl (.aload_n 0), .inr (24, 1, 3), .inl (.iload_n 3), .inl (.aload_n 2)] 69 _ _ (by decide +kernel) rfl ?_
  refine aw_aast (j := ((od + 1) % 30 + 29) % 30) (h' := Hp b [some (ob 1 [vr 1 1, vr 1 2, vr 1 3, vr 1 4, vi (((od + 1) % 30 : Nat) : Int), vi (30 - 1), vi (un : Int)]), some (rs 16 laws), some (ar 0 30 (va_up slot (((od + 1) % 30 + 29) % 30) (j : Int))), some (rs 30 (va_up ahead (((od + 1) % 30 + 29) % 30) (laws j))), some (rs 30 (va_up made (((od + 1) % 30 + 29) % 30) (some (9, k))))] t mk df jo tr di mo dy) (by decide +kernel) rfl rfl (by omega) (fun x hx => by cases hx; exact ⟨_, hk⟩) rfl ?_
  refine aw_blk (pc' := 82) (ls' := [some (vr 1 0), some (vi (j : Int)), some (vr 9 k), some (vi ((((od + 1) % 30 + 29) % 30 : Nat) : Int))]) (st' := [vr 9 k, vi (j : Int), vr 1 1]) [.inl (.aload_n 0), .inr (11, 1, 0), .inl (.iload_n 1), .inl (.aload_n 2)] 76 _ _ (by decide +kernel) rfl ?_
  refine aw_aast (j := j) (h' := Hp b [some (ob 1 [vr 1 1, vr 1 2, vr 1 3, vr 1 4, vi (((od + 1) % 30 : Nat) : Int), vi (30 - 1), vi (un : Int)]), some (rs 16 (va_up laws j (some (9, k)))), some (ar 0 30 (va_up slot (((od + 1) % 30 + 29) % 30) (j : Int))), some (rs 30 (va_up ahead (((od + 1) % 30 + 29) % 30) (laws j))), some (rs 30 (va_up made (((od + 1) % 30 + 29) % 30) (some (9, k))))] t mk df jo tr di mo dy) (by decide +kernel) rfl rfl (by omega) (fun x hx => by cases hx; exact ⟨_, hk⟩) rfl ?_
  refine aw_blk (pc' := 90) (ls' := [some (vr 1 0), some (vi (j : Int)), some (vr 9 k), some (vi ((((od + 1) % 30 + 29) % 30 : Nat) : Int))]) (st' := [vi ((30 - 1) + 1), vr 1 0]) [.inl (.aload_n 0), .inl (.dup), .inr (31, 1, 5), .inl (.iconst 1), .inl (.iadd)] 83 _ _ (by decide +kernel) rfl ?_
  refine aw_put (idx := 31) (ci := 1) (k := 5) (h' := Hp b [some (ob 1 [vr 1 1, vr 1 2, vr 1 3, vr 1 4, vi (((od + 1) % 30 : Nat) : Int), vi ((30 - 1) + 1), vi (un : Int)]), some (rs 16 (va_up laws j (some (9, k)))), some (ar 0 30 (va_up slot (((od + 1) % 30 + 29) % 30) (j : Int))), some (rs 30 (va_up ahead (((od + 1) % 30 + 29) % 30) (laws j))), some (rs 30 (va_up made (((od + 1) % 30 + 29) % 30) (some (9, k))))] t mk df jo tr di mo dy) (by decide +kernel) (by decide +kernel) rfl (Nat.le_of_ble_eq_true rfl) (show I32 _ from by omega) rfl ?_
  refine aw_blk (pc' := 95) (ls' := [some (vr 1 0), some (vi (j : Int)), some (vr 9 k), some (vi ((((od + 1) % 30 + 29) % 30 : Nat) : Int))]) (st' := [vi 0, vr 1 0]) [.inl (.aload_n 0), .inl (.iconst 0)] 93 _ _ (by decide +kernel) rfl ?_
  refine aw_put (idx := 34) (ci := 1) (k := 6) (h' := Hp b [some (ob 1 [vr 1 1, vr 1 2, vr 1 3, vr 1 4, vi (((od + 1) % 30 : Nat) : Int), vi ((30 - 1) + 1), vi 0]), some (rs 16 (va_up laws j (some (9, k)))), some (ar 0 30 (va_up slot (((od + 1) % 30 + 29) % 30) (j : Int))), some (rs 30 (va_up ahead (((od + 1) % 30 + 29) % 30) (laws j))), some (rs 30 (va_up made (((od + 1) % 30 + 29) % 30) (some (9, k))))] t mk df jo tr di mo dy) (by decide +kernel) (by decide +kernel) rfl (Nat.le_of_ble_eq_true rfl) (show I32 _ from by omega) rfl ?_
  exact aw_vret (by decide +kernel) rfl (by decide) (by decide) ⟨rfl, rfl⟩

theorem m_S_takeBack_0 (h0 : dn < 1) (hd : dn ≤ 30) (hu : un ≤ 30) : ADet G M_S_takeBack [vr 1 0] (Hp b (sgS laws slot ahead made (od : Int) (dn : Int) (un : Int)) t mk df jo tr di mo dy) (some (vi 0)) (Hp b (sgS laws slot ahead made (od : Int) (dn : Int) (un : Int)) t mk df jo tr di mo dy) := by
  refine am_entry (by decide +kernel) (Nat.le_of_ble_eq_true rfl) ?_
  refine aw_blk (pc' := 5) (ls' := [some (vr 1 0), none]) (st' := [vi 1, vi (dn : Int)]) [.inl (.aload_n 0), .inr (31, 1, 5), .inl (.iconst 1)] 0 _ _ (by decide +kernel) rfl ?_
  refine aw_icmp_ge (o := 5) (tgt := 10) (by decide +kernel) (by decide) (by omega) (by omega) (fun c => absurd c (by omega)) (fun _ => ?_)
  refine aw_blk (pc' := 9) (ls' := [some (vr 1 0), none]) (st' := [vi 0]) [.inl (.iconst 0)] 8 _ _ (by decide +kernel) rfl ?_
  exact aw_zret (by decide +kernel) rfl (by decide) (by decide) (by omega) ⟨rfl, rfl⟩

theorem m_S_takeBack_1 (h0 : 1 ≤ dn) (ho : od < 30) (hd : dn ≤ 30) (hu : un ≤ 30) (hs : ∀ i, 0 ≤ slot i ∧ slot i < 16) (ha : lwOK dy ahead) : ADet G M_S_takeBack [vr 1 0] (Hp b (sgS laws slot ahead made (od : Int) (dn : Int) (un : Int)) t mk df jo tr di mo dy) (some (vi 1)) (Hp b (sgS (va_up laws (slot ((od + (dn - 1)) % 30)).toNat (ahead ((od + (dn - 1)) % 30))) slot ahead made (od : Int) ((dn - 1 : Nat) : Int) ((un : Int) + 1)) t mk df jo tr di mo dy) := by
  refine am_entry (by decide +kernel) (Nat.le_of_ble_eq_true rfl) ?_
  refine aw_blk (pc' := 5) (ls' := [some (vr 1 0), none]) (st' := [vi 1, vi (dn : Int)]) [.inl (.aload_n 0), .inr (31, 1, 5), .inl (.iconst 1)] 0 _ _ (by decide +kernel) rfl ?_
  refine aw_icmp_ge (o := 5) (tgt := 10) (by decide +kernel) (by decide) (by omega) (by omega) (fun _ => ?_) (fun c => absurd (by omega) c)
  refine aw_blk (pc' := 17) (ls' := [some (vr 1 0), none]) (st' := [vi ((dn : Int) - 1), vr 1 0]) [.inl (.aload_n 0), .inl (.dup), .inr (31, 1, 5), .inl (.iconst 1), .inl (.isub)] 10 _ _ (by decide +kernel) rfl ?_
  refine aw_put (idx := 31) (ci := 1) (k := 5) (h' := Hp b [some (ob 1 [vr 1 1, vr 1 2, vr 1 3, vr 1 4, vi (od : Int), vi ((dn : Int) - 1), vi (un : Int)]), some (rs 16 laws), some (ar 0 30 slot), some (rs 30 ahead), some (rs 30 made)] t mk df jo tr di mo dy) (by decide +kernel) (by decide +kernel) rfl (Nat.le_of_ble_eq_true rfl) (show I32 _ from by omega) rfl ?_
  refine aw_blk (pc' := 27) (ls' := [some (vr 1 0), none]) (st' := [vi ((un : Int) + 1), vr 1 0]) [.inl (.aload_n 0), .inl (.dup), .inr (34, 1, 6), .inl (.iconst 1), .inl (.iadd)] 20 _ _ (by decide +kernel) rfl ?_
  refine aw_put (idx := 34) (ci := 1) (k := 6) (h' := Hp b [some (ob 1 [vr 1 1, vr 1 2, vr 1 3, vr 1 4, vi (od : Int), vi ((dn : Int) - 1), vi ((un : Int) + 1)]), some (rs 16 laws), some (ar 0 30 slot), some (rs 30 ahead), some (rs 30 made)] t mk df jo tr di mo dy) (by decide +kernel) (by decide +kernel) rfl (Nat.le_of_ble_eq_true rfl) (show I32 _ from by omega) rfl ?_
  refine aw_blk (pc' := 35) (ls' := [some (vr 1 0), none]) (st' := [vi ((dn : Int) - 1), vr 1 0]) [.inl (.aload_n 0), .inl (.aload_n 0), .inr (31, 1, 5)] 30 _ _ (by decide +kernel) rfl ?_
  rw [show (dn : Int) - 1 = ((dn - 1 : Nat) : Int) by omega]
  refine aw_dV (cs' := 0) (sl' := 0) (pc' := 38) (st' := [vi (((od + (dn - 1)) % 30 : Nat) : Int)]) (idx := 41) (as := [vi ((dn - 1 : Nat) : Int)]) (st := []) (m_S_placeOfAct (un := un + 1) (dn := dn - 1) (n := dn - 1) ho (by omega)) (by decide +kernel) (show vOK "ChanceBench$Shelf" 41 M_S_placeOfAct 1 = true by decide +kernel) rfl rfl rfl (Nat.le_of_ble_eq_true rfl) (by decide) (by decide) (by decide) rfl rfl rfl rfl ?_
  refine aw_blk (pc' := 48) (ls' := [some (vr 1 0), some (vi (((od + (dn - 1)) % 30 : Nat) : Int))]) (st' := [vi (((od + (dn - 1)) % 30 : Nat) : Int), vr 1 2, vr 1 1]) [.inl (.istore_n 1), .inl (.aload_n 0), .inr (11, 1, 0), .inl (.aload_n 0), .inr (17, 1, 1), .inl (.iload_n 1)] 38 _ _ (by decide +kernel) rfl ?_
  refine aw_iald (j := (od + (dn - 1)) % 30) (by decide +kernel) rfl rfl (by omega) (fun r48 => ?_)
  refine aw_blk (pc' := 54) (ls' := [some (vr 1 0), some (vi (((od + (dn - 1)) % 30 : Nat) : Int))]) (st' := [vi (((od + (dn - 1)) % 30 : Nat) : Int), vr 1 3, vi (slot ((od + (dn - 1)) % 30)), vr 1 1]) [.inl (.aload_n 0), .inr (21, 1, 2), .inl (.iload_n 1)] 49 _ _ (by decide +kernel) rfl ?_
  refine aw_aald (j := (od + (dn - 1)) % 30) (by decide +kernel) rfl rfl (by omega) ?_
  refine aw_aast (j := (slot ((od + (dn - 1)) % 30)).toNat) (h' := Hp b [some (ob 1 [vr 1 1, vr 1 2, vr 1 3, vr 1 4, vi (od : Int), vi ((dn - 1 : Nat) : Int), vi ((un : Int) + 1)]), some (rs 16 (va_up laws ((slot ((od + (dn - 1)) % 30)).toNat) (ahead ((od + (dn - 1)) % 30)))), some (ar 0 30 slot), some (rs 30 ahead), some (rs 30 made)] t mk df jo tr di mo dy) (by decide +kernel) rfl (by have := hs ((od + (dn - 1)) % 30); omega) (by have := hs ((od + (dn - 1)) % 30); omega) (fun x hx => ha.at hx) rfl ?_
  refine aw_blk (pc' := 57) (ls' := [some (vr 1 0), some (vi (((od + (dn - 1)) % 30 : Nat) : Int))]) (st' := [vi 1]) [.inl (.iconst 1)] 56 _ _ (by decide +kernel) rfl ?_
  exact aw_zret (by decide +kernel) rfl (by decide) (by decide) (by omega) ⟨rfl, rfl⟩

theorem m_S_doAgain_0 (h0 : un < 1) (hd : dn ≤ 30) (hu : un ≤ 30) : ADet G M_S_doAgain [vr 1 0] (Hp b (sgS laws slot ahead made (od : Int) (dn : Int) (un : Int)) t mk df jo tr di mo dy) (some (vi 0)) (Hp b (sgS laws slot ahead made (od : Int) (dn : Int) (un : Int)) t mk df jo tr di mo dy) := by
  refine am_entry (by decide +kernel) (Nat.le_of_ble_eq_true rfl) ?_
  refine aw_blk (pc' := 5) (ls' := [some (vr 1 0), none]) (st' := [vi 1, vi (un : Int)]) [.inl (.aload_n 0), .inr (34, 1, 6), .inl (.iconst 1)] 0 _ _ (by decide +kernel) rfl ?_
  refine aw_icmp_ge (o := 5) (tgt := 10) (by decide +kernel) (by decide) (by omega) (by omega) (fun c => absurd c (by omega)) (fun _ => ?_)
  refine aw_blk (pc' := 9) (ls' := [some (vr 1 0), none]) (st' := [vi 0]) [.inl (.iconst 0)] 8 _ _ (by decide +kernel) rfl ?_
  exact aw_zret (by decide +kernel) rfl (by decide) (by decide) (by omega) ⟨rfl, rfl⟩

theorem m_S_doAgain_1 (h0 : 1 ≤ un) (ho : od < 30) (hd : dn ≤ 30) (hu : un ≤ 30) (hs : ∀ i, 0 ≤ slot i ∧ slot i < 16) (hm : lwOK dy made) : ADet G M_S_doAgain [vr 1 0] (Hp b (sgS laws slot ahead made (od : Int) (dn : Int) (un : Int)) t mk df jo tr di mo dy) (some (vi 1)) (Hp b (sgS (va_up laws (slot ((od + dn) % 30)).toNat (made ((od + dn) % 30))) slot ahead made (od : Int) ((dn : Int) + 1) ((un : Int) - 1)) t mk df jo tr di mo dy) := by
  refine am_entry (by decide +kernel) (Nat.le_of_ble_eq_true rfl) ?_
  refine aw_blk (pc' := 5) (ls' := [some (vr 1 0), none]) (st' := [vi 1, vi (un : Int)]) [.inl (.aload_n 0), .inr (34, 1, 6), .inl (.iconst 1)] 0 _ _ (by decide +kernel) rfl ?_
  refine aw_icmp_ge (o := 5) (tgt := 10) (by decide +kernel) (by decide) (by omega) (by omega) (fun _ => ?_) (fun c => absurd (by omega) c)
  refine aw_blk (pc' := 15) (ls' := [some (vr 1 0), none]) (st' := [vi (dn : Int), vr 1 0]) [.inl (.aload_n 0), .inl (.aload_n 0), .inr (31, 1, 5)] 10 _ _ (by decide +kernel) rfl ?_
  refine aw_dV (cs' := 0) (sl' := 0) (pc' := 18) (st' := [vi (((od + dn) % 30 : Nat) : Int)]) (idx := 41) (as := [vi (dn : Int)]) (st := []) (m_S_placeOfAct ho (by omega)) (by decide +kernel) (show vOK "ChanceBench$Shelf" 41 M_S_placeOfAct 1 = true by decide +kernel) rfl rfl rfl (Nat.le_of_ble_eq_true rfl) (by decide) (by decide) (by decide) rfl rfl rfl rfl ?_
  refine aw_blk (pc' := 28) (ls' := [some (vr 1 0), some (vi (((od + dn) % 30 : Nat) : Int))]) (st' := [vi (((od + dn) % 30 : Nat) : Int), vr 1 2, vr 1 1]) [.inl (.istore_n 1), .inl (.aload_n 0), .inr (11, 1, 0), .inl (.aload_n 0), .inr (17, 1, 1), .inl (.iload_n 1)] 18 _ _ (by decide +kernel) rfl ?_
  refine aw_iald (j := (od + dn) % 30) (by decide +kernel) rfl rfl (by omega) (fun r28 => ?_)
  refine aw_blk (pc' := 34) (ls' := [some (vr 1 0), some (vi (((od + dn) % 30 : Nat) : Int))]) (st' := [vi (((od + dn) % 30 : Nat) : Int), vr 1 4, vi (slot ((od + dn) % 30)), vr 1 1]) [.inl (.aload_n 0), .inr (24, 1, 3), .inl (.iload_n 1)] 29 _ _ (by decide +kernel) rfl ?_
  refine aw_aald (j := (od + dn) % 30) (by decide +kernel) rfl rfl (by omega) ?_
  refine aw_aast (j := (slot ((od + dn) % 30)).toNat) (h' := Hp b [some (ob 1 [vr 1 1, vr 1 2, vr 1 3, vr 1 4, vi (od : Int), vi (dn : Int), vi (un : Int)]), some (rs 16 (va_up laws ((slot ((od + dn) % 30)).toNat) (made ((od + dn) % 30)))), some (ar 0 30 slot), some (rs 30 ahead), some (rs 30 made)] t mk df jo tr di mo dy) (by decide +kernel) rfl (by have := hs ((od + dn) % 30); omega) (by have := hs ((od + dn) % 30); omega) (fun x hx => hm.at hx) rfl ?_
  refine aw_blk (pc' := 43) (ls' := [some (vr 1 0), some (vi (((od + dn) % 30 : Nat) : Int))]) (st' := [vi ((dn : Int) + 1), vr 1 0]) [.inl (.aload_n 0), .inl (.dup), .inr (31, 1, 5), .inl (.iconst 1), .inl (.iadd)] 36 _ _ (by decide +kernel) rfl ?_
  refine aw_put (idx := 31) (ci := 1) (k := 5) (h' := Hp b [some (ob 1 [vr 1 1, vr 1 2, vr 1 3, vr 1 4, vi (od : Int), vi ((dn : Int) + 1), vi (un : Int)]), some (rs 16 (va_up laws ((slot ((od + dn) % 30)).toNat) (made ((od + dn) % 30)))), some (ar 0 30 slot), some (rs 30 ahead), some (rs 30 made)] t mk df jo tr di mo dy) (by decide +kernel) (by decide +kernel) rfl (Nat.le_of_ble_eq_true rfl) (show I32 _ from by omega) rfl ?_
  refine aw_blk (pc' := 53) (ls' := [some (vr 1 0), some (vi (((od + dn) % 30 : Nat) : Int))]) (st' := [vi ((un : Int) - 1), vr 1 0]) [.inl (.aload_n 0), .inl (.dup), .inr (34, 1, 6), .inl (.iconst 1), .inl (.isub)] 46 _ _ (by decide +kernel) rfl ?_
  refine aw_put (idx := 34) (ci := 1) (k := 6) (h' := Hp b [some (ob 1 [vr 1 1, vr 1 2, vr 1 3, vr 1 4, vi (od : Int), vi ((dn : Int) + 1), vi ((un : Int) - 1)]), some (rs 16 (va_up laws ((slot ((od + dn) % 30)).toNat) (made ((od + dn) % 30)))), some (ar 0 30 slot), some (rs 30 ahead), some (rs 30 made)] t mk df jo tr di mo dy) (by decide +kernel) (by decide +kernel) rfl (Nat.le_of_ble_eq_true rfl) (show I32 _ from by omega) rfl ?_
  refine aw_blk (pc' := 57) (ls' := [some (vr 1 0), some (vi (((od + dn) % 30 : Nat) : Int))]) (st' := [vi 1]) [.inl (.iconst 1)] 56 _ _ (by decide +kernel) rfl ?_
  exact aw_zret (by decide +kernel) rfl (by decide) (by decide) (by omega) ⟨rfl, rfl⟩

end
end
section
theorem up_to {W : Nat → Prop} (N : Nat) (h1 : W N) (h2 : ∀ i, i < N → W (i + 1) → W i) : ∀ i, i ≤ N → W i := by
  intro i hi
  obtain ⟨d, rfl⟩ : ∃ d, N = i + d := ⟨N - i, by omega⟩
  clear hi
  induction d generalizing i with
  | zero => exact h1
  | succ d ih => exact h2 i (by omega) (ih (i + 1) (by rw [show i + 1 + d = i + (d + 1) by omega]; exact h1) (fun j hj => h2 j (by omega)))
section
variable {G : GT} {M : MI} {Qr : Option AV → HT → Prop} {Qt : HT → Prop} {cs sl pc : Nat} {ls ls' : LSt} {st st' : List AV} {h h' : HT}
theorem aw_eq (e1 : ls = ls') (e2 : st = st') (e3 : h = h') (k : AW G M Qr Qt cs sl pc ls' st' h') : AW G M Qr Qt cs sl pc ls st h := by subst e1 e2 e3; exact k
theorem am_det {as : List AV} {r : Option AV} (hy : plainName M.1.cls = true) (hn : (entL as).length ≤ M.2.2.1) (k : ∀ Qr Qt, (∀ x g, x = r → g = h' → Qr x g) → AW G M Qr Qt 0 0 0 (entN as M.2.2.1) [] h) : ADet G M as h r h' :=
  am_entry hy hn (k _ _ (fun x g a b => ⟨a, b⟩))
end
def sumZ (f : Nat → Int) : Nat → Int
  | 0 => 0
  | n + 1 => sumZ f n + f n
def isL (h : HT) (k k1 k2 n : Nat) (at_ wt : Nat → Int) (W : Int) : Prop := hget h 9 k = some (ob 9 [vr 9 k1, vr 9 k2, vi W]) ∧ hget h 9 k1 = some (ar 0 n at_) ∧ hget h 9 k2 = some (ar 0 n wt)
section
variable {G : GT} {h : HT} {b s t mk df jo tr di mo dy : SG} {a c : Int} {n k k1 k2 j j1 j2 m : Nat} {f at_ wt at2 wt2 : Nat → Int} {W W2 : Int} {laws ahead made : Nat → Option (Nat × Nat)} {slot : Nat → Int} {od dn un : Int}
def cntL (laws : Nat → Option (Nat × Nat)) : Nat → Int
  | 0 => 0
  | k + 1 => cntL laws k + (if laws k = none then 0 else 1)
theorem m_S_laws : ADet G M_S_laws [vr 1 0] (Hp b (sgS laws slot ahead made od dn un) t mk df jo tr di mo dy) (some (vi (cntL laws 16))) (Hp b (sgS laws slot ahead made od dn un) t mk df jo tr di mo dy) := by
  refine am_det (by decide +kernel) (Nat.le_of_ble_eq_true rfl) (fun Qr Qt hq => ?_)
  refine aw_blk (pc' := 4) (ls' := [some (vr 1 0), some (vi 0), some (vi 0)]) (st' := []) [.inl (.iconst 0), .inl (.istore_n 1), .inl (.iconst 0), .inl (.istore_n 2)] 0 _ _ (by decide +kernel) rfl ?_
  refine up_to (W := fun i : Nat => AW G M_S_laws Qr Qt 0 0 4 [some (vr 1 0), some (vi (cntL laws i)), some (vi (i : Int))] [] (Hp b [some (ob 1 [vr 1 1, vr 1 2, vr 1 3, vr 1 4, vi od, vi dn, vi un]), some (rs 16 laws), some (ar 0 30 slot), some (rs 30 ahead), some (rs 30 made)] t mk df jo tr di mo dy)) 16 ?_ (fun i hi ih => ?_) 0 (by omega)
  · refine aw_blk (pc' := 7) (ls' := [some (vr 1 0), some (vi (cntL laws 16)), some (vi (16 : Int))]) (st' := [vi 16, vi (16 : Int)]) [.inl (.iload_n 2), .inl (.bipush 16)] 4 _ _ (by decide +kernel) rfl ?_
    refine aw_icmp_ge (o := 21) (tgt := 28) (by decide +kernel) (by decide) (by omega) (by omega) (fun _ => ?_) (fun c => absurd (by omega) c)
    refine aw_blk (pc' := 29) (ls' := [some (vr 1 0), some (vi (cntL laws 16)), some (vi (16 : Int))]) (st' := [vi (cntL laws 16)]) [.inl (.iload_n 1)] 28 _ _ (by decide +kernel) rfl ?_
    exact aw_iret (by decide +kernel) rfl (by decide) (by decide) (hq _ _ rfl rfl)
  · refine aw_blk (pc' := 7) (ls' := [some (vr 1 0), some (vi (cntL laws i)), some (vi (i : Int))]) (st' := [vi 16, vi (i : Int)]) [.inl (.iload_n 2), .inl (.bipush 16)] 4 _ _ (by decide +kernel) rfl ?_
    refine aw_icmp_ge (o := 21) (tgt := 28) (by decide +kernel) (by decide) (by omega) (by omega) (fun c => absurd c (by omega)) (fun _ => ?_)
    refine aw_blk (pc' := 15) (ls' := [some (vr 1 0), some (vi (cntL laws i)), some (vi (i : Int))]) (st' := [vi (i : Int), vr 1 1]) [.inl (.aload_n 0), .inr (11, 1, 0), .inl (.iload_n 2)] 10 _ _ (by decide +kernel) rfl ?_
    refine aw_aald (j := i) (by decide +kernel) rfl rfl (by omega) ?_
    refine aw_ifnull (o := 6) (tgt := 22) (by decide +kernel) (by decide) (fun c16 => ?_) (fun q16 c16 => ?_)
    · refine aw_blk (pc' := 25) (ls' := [some (vr 1 0), some (vi (cntL laws i)), some (vi ((i : Int) + 1))]) (st' := []) [.inl (.iinc 2 1)] 22 _ _ (by decide +kernel) rfl ?_
      refine aw_goto (o := -21) (tgt := 4) (by decide +kernel) (by decide) ?_
      exact aw_eq (by rw [cntL, if_pos c16, Int.add_zero]; rfl) rfl rfl ih
    · refine aw_blk (pc' := 25) (ls' := [some (vr 1 0), some (vi ((cntL laws i) + 1)), some (vi ((i : Int) + 1))]) (st' := []) [.inl (.iinc 1 1), .inl (.iinc 2 1)] 19 _ _ (by decide +kernel) rfl ?_
      refine aw_goto (o := -21) (tgt := 4) (by decide +kernel) (by decide) ?_
      exact aw_eq (by rw [cntL, if_neg (by rw [c16]; exact fun z => nomatch z)]; rfl) rfl rfl ih

theorem m_L_total (hL : isL h k k1 k2 n at_ wt W) : ADet G M_L_total [vr 9 k] h (some (vl (sumZ (fun i => at_ i * wt i) n))) h := by
  refine am_det (by decide +kernel) (Nat.le_of_ble_eq_true rfl) (fun Qr Qt hq => ?_)
  refine aw_blk (pc' := 4) (ls' := [some (vr 9 k), some (vl 0), none, some (vi 0)]) (st' := []) [.inl (.lconst 0), .inl (.lstore_n 1), .inl (.iconst 0), .inl (.istore_n 3)] 0 _ _ (by decide +kernel) rfl ?_
  refine up_to (W := fun i : Nat => AW G M_L_total Qr Qt 0 0 4 [some (vr 9 k), some (vl (sumZ (fun i => at_ i * wt i) i)), none, some (vi (i : Int))] [] (h)) n ?_ (fun i hi ih => ?_) 0 (by omega)
  · refine aw_blk (pc' := 6) (ls' := [some (vr 9 k), some (vl (sumZ (fun i => at_ i * wt i) n)), none, some (vi (n : Int))]) (st' := [vr 9 k, vi (n : Int)]) [.inl (.iload_n 3), .inl (.aload_n 0)] 4 _ _ (by decide +kernel) rfl ?_
    refine aw_get (idx := 9) (ci := 9) (f := 0) (by decide +kernel) (by decide +kernel) hL.1 rfl ?_
    refine aw_alen (by decide +kernel) hL.2.1 (fun r9 => ?_)
    refine aw_icmp_ge (o := 27) (tgt := 37) (by decide +kernel) (by decide) (by omega) (by omega) (fun _ => ?_) (fun c => absurd (by omega) c)
    refine aw_blk (pc' := 38) (ls' := [some (vr 9 k), some (vl (sumZ (fun i => at_ i * wt i) n)), none, some (vi (n : Int))]) (st' := [vl (sumZ (fun i => at_ i * wt i) n)]) [.inl (.lload_n 1)] 37 _ _ (by decide +kernel) rfl ?_
    exact aw_lret (by decide +kernel) rfl (by decide) (by decide) (hq _ _ rfl rfl)
  · refine aw_blk (pc' := 6) (ls' := [some (vr 9 k), some (vl (sumZ (fun i => at_ i * wt i) i)), none, some (vi (i : Int))]) (st' := [vr 9 k, vi (i : Int)]) [.inl (.iload_n 3), .inl (.aload_n 0)] 4 _ _ (by decide +kernel) rfl ?_
    refine aw_get (idx := 9) (ci := 9) (f := 0) (by decide +kernel) (by decide +kernel) hL.1 rfl ?_
    refine aw_alen (by decide +kernel) hL.2.1 (fun r9 => ?_)
    refine aw_icmp_ge (o := 27) (tgt := 37) (by decide +kernel) (by decide) (by omega) (by omega) (fun c => absurd c (by omega)) (fun _ => ?_)
    refine aw_blk (pc' := 15) (ls' := [some (vr 9 k), some (vl (sumZ (fun i => at_ i * wt i) i)), none, some (vi (i : Int))]) (st' := [vr 9 k, vl (sumZ (fun i => at_ i * wt i) i)]) [.inl (.lload_n 1), .inl (.aload_n 0)] 13 _ _ (by decide +kernel) rfl ?_
    refine aw_get (idx := 9) (ci := 9) (f := 0) (by decide +kernel) (by decide +kernel) hL.1 rfl ?_
    refine aw_blk (pc' := 19) (ls' := [some (vr 9 k), some (vl (sumZ (fun i => at_ i * wt i) i)), none, some (vi (i : Int))]) (st' := [vi (i : Int), vr 9 k1, vl (sumZ (fun i => at_ i * wt i) i)]) [.inl (.iload_n 3)] 18 _ _ (by decide +kernel) rfl ?_
    refine aw_iald (j := i) (by decide +kernel) hL.2.1 (by omega) (by omega) (fun r19 => ?_)
    refine aw_i2l (by decide +kernel) (by omega) ?_
    refine aw_blk (pc' := 22) (ls' := [some (vr 9 k), some (vl (sumZ (fun i => at_ i * wt i) i)), none, some (vi (i : Int))]) (st' := [vr 9 k, vl (at_ i), vl (sumZ (fun i => at_ i * wt i) i)]) [.inl (.aload_n 0)] 21 _ _ (by decide +kernel) rfl ?_
    refine aw_get (idx := 15) (ci := 9) (f := 1) (by decide +kernel) (by decide +kernel) hL.1 rfl ?_
    refine aw_blk (pc' := 26) (ls' := [some (vr 9 k), some (vl (sumZ (fun i => at_ i * wt i) i)), none, some (vi (i : Int))]) (st' := [vi (i : Int), vr 9 k2, vl (at_ i), vl (sumZ (fun i => at_ i * wt i) i)]) [.inl (.iload_n 3)] 25 _ _ (by decide +kernel) rfl ?_
    refine aw_iald (j := i) (by decide +kernel) hL.2.2 (by omega) (by omega) (fun r26 => ?_)
    refine aw_i2l (by decide +kernel) (by omega) ?_
    refine aw_blk (pc' := 34) (ls' := [some (vr 9 k), some (vl ((sumZ (fun i => at_ i * wt i) i) + ((at_ i) * (wt i)))), none, some (vi ((i : Int) + 1))]) (st' := []) [.inl (.lmul), .inl (.ladd), .inl (.lstore_n 1), .inl (.iinc 3 1)] 28 _ _ (by decide +kernel) rfl ?_
    refine aw_goto (o := -30) (tgt := 4) (by decide +kernel) (by decide) ?_
    exact aw_eq rfl rfl rfl ih

theorem m_L_totalOfSquares (hL : isL h k k1 k2 n at_ wt W) : ADet G M_L_totalOfSquares [vr 9 k] h (some (vl (sumZ (fun i => at_ i * at_ i * wt i) n))) h := by
  refine am_det (by decide +kernel) (Nat.le_of_ble_eq_true rfl) (fun Qr Qt hq => ?_)
  refine aw_blk (pc' := 4) (ls' := [some (vr 9 k), some (vl 0), none, some (vi 0)]) (st' := []) [.inl (.lconst 0), .inl (.lstore_n 1), .inl (.iconst 0), .inl (.istore_n 3)] 0 _ _ (by decide +kernel) rfl ?_
  refine up_to (W := fun i : Nat => AW G M_L_totalOfSquares Qr Qt 0 0 4 [some (vr 9 k), some (vl (sumZ (fun i => at_ i * at_ i * wt i) i)), none, some (vi (i : Int))] [] (h)) n ?_ (fun i hi ih => ?_) 0 (by omega)
  · refine aw_blk (pc' := 6) (ls' := [some (vr 9 k), some (vl (sumZ (fun i => at_ i * at_ i * wt i) n)), none, some (vi (n : Int))]) (st' := [vr 9 k, vi (n : Int)]) [.inl (.iload_n 3), .inl (.aload_n 0)] 4 _ _ (by decide +kernel) rfl ?_
    refine aw_get (idx := 9) (ci := 9) (f := 0) (by decide +kernel) (by decide +kernel) hL.1 rfl ?_
    refine aw_alen (by decide +kernel) hL.2.1 (fun r9 => ?_)
    refine aw_icmp_ge (o := 35) (tgt := 45) (by decide +kernel) (by decide) (by omega) (by omega) (fun _ => ?_) (fun c => absurd (by omega) c)
    refine aw_blk (pc' := 46) (ls' := [some (vr 9 k), some (vl (sumZ (fun i => at_ i * at_ i * wt i) n)), none, some (vi (n : Int))]) (st' := [vl (sumZ (fun i => at_ i * at_ i * wt i) n)]) [.inl (.lload_n 1)] 45 _ _ (by decide +kernel) rfl ?_
    exact aw_lret (by decide +kernel) rfl (by decide) (by decide) (hq _ _ rfl rfl)
  · refine aw_blk (pc' := 6) (ls' := [some (vr 9 k), some (vl (sumZ (fun i => at_ i * at_ i * wt i) i)), none, some (vi (i : Int))]) (st' := [vr 9 k, vi (i : Int)]) [.inl (.iload_n 3), .inl (.aload_n 0)] 4 _ _ (by decide +kernel) rfl ?_
    refine aw_get (idx := 9) (ci := 9) (f := 0) (by decide +kernel) (by decide +kernel) hL.1 rfl ?_
    refine aw_alen (by decide +kernel) hL.2.1 (fun r9 => ?_)
    refine aw_icmp_ge (o := 35) (tgt := 45) (by decide +kernel) (by decide) (by omega) (by omega) (fun c => absurd c (by omega)) (fun _ => ?_)
    refine aw_blk (pc' := 15) (ls' := [some (vr 9 k), some (vl (sumZ (fun i => at_ i * at_ i * wt i) i)), none, some (vi (i : Int))]) (st' := [vr 9 k, vl (sumZ (fun i => at_ i * at_ i * wt i) i)]) [.inl (.lload_n 1), .inl (.aload_n 0)] 13 _ _ (by decide +kernel) rfl ?_
    refine aw_get (idx := 9) (ci := 9) (f := 0) (by decide +kernel) (by decide +kernel) hL.1 rfl ?_
    refine aw_blk (pc' := 19) (ls' := [some (vr 9 k), some (vl (sumZ (fun i => at_ i * at_ i * wt i) i)), none, some (vi (i : Int))]) (st' := [vi (i : Int), vr 9 k1, vl (sumZ (fun i => at_ i * at_ i * wt i) i)]) [.inl (.iload_n 3)] 18 _ _ (by decide +kernel) rfl ?_
    refine aw_iald (j := i) (by decide +kernel) hL.2.1 (by omega) (by omega) (fun r19 => ?_)
    refine aw_i2l (by decide +kernel) (by omega) ?_
    refine aw_blk (pc' := 22) (ls' := [some (vr 9 k), some (vl (sumZ (fun i => at_ i * at_ i * wt i) i)), none, some (vi (i : Int))]) (st' := [vr 9 k, vl (at_ i), vl (sumZ (fun i => at_ i * at_ i * wt i) i)]) [.inl (.aload_n 0)] 21 _ _ (by decide +kernel) rfl ?_
    refine aw_get (idx := 9) (ci := 9) (f := 0) (by decide +kernel) (by decide +kernel) hL.1 rfl ?_
    refine aw_blk (pc' := 26) (ls' := [some (vr 9 k), some (vl (sumZ (fun i => at_ i * at_ i * wt i) i)), none, some (vi (i : Int))]) (st' := [vi (i : Int), vr 9 k1, vl (at_ i), vl (sumZ (fun i => at_ i * at_ i * wt i) i)]) [.inl (.iload_n 3)] 25 _ _ (by decide +kernel) rfl ?_
    refine aw_iald (j := i) (by decide +kernel) hL.2.1 (by omega) (by omega) (fun r26 => ?_)
    refine aw_i2l (by decide +kernel) (by omega) ?_
    refine aw_blk (pc' := 30) (ls' := [some (vr 9 k), some (vl (sumZ (fun i => at_ i * at_ i * wt i) i)), none, some (vi (i : Int))]) (st' := [vr 9 k, vl ((at_ i) * (at_ i)), vl (sumZ (fun i => at_ i * at_ i * wt i) i)]) [.inl (.lmul), .inl (.aload_n 0)] 28 _ _ (by decide +kernel) rfl ?_
    refine aw_get (idx := 15) (ci := 9) (f := 1) (by decide +kernel) (by decide +kernel) hL.1 rfl ?_
    refine aw_blk (pc' := 34) (ls' := [some (vr 9 k), some (vl (sumZ (fun i => at_ i * at_ i * wt i) i)), none, some (vi (i : Int))]) (st' := [vi (i : Int), vr 9 k2, vl ((at_ i) * (at_ i)), vl (sumZ (fun i => at_ i * at_ i * wt i) i)]) [.inl (.iload_n 3)] 33 _ _ (by decide +kernel) rfl ?_
    refine aw_iald (j := i) (by decide +kernel) hL.2.2 (by omega) (by omega) (fun r34 => ?_)
    refine aw_i2l (by decide +kernel) (by omega) ?_
    refine aw_blk (pc' := 42) (ls' := [some (vr 9 k), some (vl ((sumZ (fun i => at_ i * at_ i * wt i) i) + (((at_ i) * (at_ i)) * (wt i)))), none, some (vi ((i : Int) + 1))]) (st' := []) [.inl (.lmul), .inl (.ladd), .inl (.lstore_n 1), .inl (.iinc 3 1)] 36 _ _ (by decide +kernel) rfl ?_
    refine aw_goto (o := -38) (tgt := 4) (by decide +kernel) (by decide) ?_
    exact aw_eq rfl rfl rfl ih

def upW (at_ wt : Nat → Int) (t : Int) : Nat → Int
  | 0 => 0
  | n + 1 => upW at_ wt t n + (if at_ n ≤ t then wt n else 0)
def inc (at_ : Nat → Int) (n : Nat) : Prop := ∀ i j, i < j → j < n → at_ i < at_ j
theorem upW_stop {t : Int} (hs : inc at_ n) {i : Nat} (hi : i < n) (hc : t < at_ i) : upW at_ wt t n = upW at_ wt t i := by
  obtain ⟨d, rfl⟩ : ∃ d, n = i + d := ⟨n - i, by omega⟩
  have : ∀ e, e ≤ d → upW at_ wt t (i + e) = upW at_ wt t i := by
    intro e
    induction e with
    | zero => intro _; rfl
    | succ e ih =>
      intro he
      rw [← Nat.add_assoc, upW, ih (by omega), if_neg, Int.add_zero]
      rcases Nat.eq_zero_or_pos e with z | z
      · subst z; simp only [Nat.add_zero]; omega
      · have := hs i (i + e) (by omega) (by omega); omega
  exact this d (Nat.le_refl d)
theorem m_L_weightUpTo (hL : isL h k k1 k2 n at_ wt W) (ha : I32 a) (hs : inc at_ n) : ADet G M_L_weightUpTo [vr 9 k, vi a] h (some (vl (upW at_ wt a n))) h := by
  refine am_det (by decide +kernel) (Nat.le_of_ble_eq_true rfl) (fun Qr Qt hq => ?_)
  refine aw_blk (pc' := 5) (ls' := [some (vr 9 k), some (vi a), some (vl 0), none, some (vi 0)]) (st' := []) [.inl (.lconst 0), .inl (.lstore_n 2), .inl (.iconst 0), .inl (.istore 4)] 0 _ _ (by decide +kernel) rfl ?_
  refine up_to (W := fun i : Nat => AW G M_L_weightUpTo Qr Qt 0 0 5 [some (vr 9 k), some (vi a), some (vl (upW at_ wt a i)), none, some (vi (i : Int))] [] (h)) n ?_ (fun i hi ih => ?_) 0 (by omega)
  · refine aw_blk (pc' := 8) (ls' := [some (vr 9 k), some (vi a), some (vl (upW at_ wt a n)), none, some (vi (n : Int))]) (st' := [vr 9 k, vi (n : Int)]) [.inl (.iload 4), .inl (.aload_n 0)] 5 _ _ (by decide +kernel) rfl ?_
    refine aw_get (idx := 9) (ci := 9) (f := 0) (by decide +kernel) (by decide +kernel) hL.1 rfl ?_
    refine aw_alen (by decide +kernel) hL.2.1 (fun r11 => ?_)
    refine aw_icmp_ge (o := 31) (tgt := 43) (by decide +kernel) (by decide) (by omega) (by omega) (fun _ => ?_) (fun c => absurd (by omega) c)
    refine aw_blk (pc' := 44) (ls' := [some (vr 9 k), some (vi a), some (vl (upW at_ wt a n)), none, some (vi (n : Int))]) (st' := [vl (upW at_ wt a n)]) [.inl (.lload_n 2)] 43 _ _ (by decide +kernel) rfl ?_
    exact aw_lret (by decide +kernel) rfl (by decide) (by decide) (hq _ _ rfl rfl)
  · refine aw_blk (pc' := 8) (ls' := [some (vr 9 k), some (vi a), some (vl (upW at_ wt a i)), none, some (vi (i : Int))]) (st' := [vr 9 k, vi (i : Int)]) [.inl (.iload 4), .inl (.aload_n 0)] 5 _ _ (by decide +kernel) rfl ?_
    refine aw_get (idx := 9) (ci := 9) (f := 0) (by decide +kernel) (by decide +kernel) hL.1 rfl ?_
    refine aw_alen (by decide +kernel) hL.2.1 (fun r11 => ?_)
    refine aw_icmp_ge (o := 31) (tgt := 43) (by decide +kernel) (by decide) (by omega) (by omega) (fun c => absurd c (by omega)) (fun _ => ?_)
    refine aw_blk (pc' := 16) (ls' := [some (vr 9 k), some (vi a), some (vl (upW at_ wt a i)), none, some (vi (i : Int))]) (st' := [vr 9 k]) [.inl (.aload_n 0)] 15 _ _ (by decide +kernel) rfl ?_
    refine aw_get (idx := 9) (ci := 9) (f := 0) (by decide +kernel) (by decide +kernel) hL.1 rfl ?_
    refine aw_blk (pc' := 21) (ls' := [some (vr 9 k), some (vi a), some (vl (upW at_ wt a i)), none, some (vi (i : Int))]) (st' := [vi (i : Int), vr 9 k1]) [.inl (.iload 4)] 19 _ _ (by decide +kernel) rfl ?_
    refine aw_iald (j := i) (by decide +kernel) hL.2.1 (by omega) (by omega) (fun r21 => ?_)
    refine aw_blk (pc' := 23) (ls' := [some (vr 9 k), some (vi a), some (vl (upW at_ wt a i)), none, some (vi (i : Int))]) (st' := [vi a, vi (at_ i)]) [.inl (.iload_n 1)] 22 _ _ (by decide +kernel) rfl ?_
    refine aw_icmp_gt (o := 20) (tgt := 43) (by decide +kernel) (by decide) (by omega) (by omega) (fun c23 => ?_) (fun c23 => ?_)
    · refine aw_blk (pc' := 44) (ls' := [some (vr 9 k), some (vi a), some (vl (upW at_ wt a i)), none, some (vi (i : Int))]) (st' := [vl (upW at_ wt a i)]) [.inl (.lload_n 2)] 43 _ _ (by decide +kernel) rfl ?_
      exact aw_lret (by decide +kernel) rfl (by decide) (by decide) (hq _ _ (by rw [upW_stop hs hi c23]) rfl)
    · refine aw_blk (pc' := 28) (ls' := [some (vr 9 k), some (vi a), some (vl (upW at_ wt a i)), none, some (vi (i : Int))]) (st' := [vr 9 k, vl (upW at_ wt a i)]) [.inl (.lload_n 2), .inl (.aload_n 0)] 26 _ _ (by decide +kernel) rfl ?_
      refine aw_get (idx := 15) (ci := 9) (f := 1) (by decide +kernel) (by decide +kernel) hL.1 rfl ?_
      refine aw_blk (pc' := 33) (ls' := [some (vr 9 k), some (vi a), some (vl (upW at_ wt a i)), none, some (vi (i : Int))]) (st' := [vi (i : Int), vr 9 k2, vl (upW at_ wt a i)]) [.inl (.iload 4)] 31 _ _ (by decide +kernel) rfl ?_
      refine aw_iald (j := i) (by decide +kernel) hL.2.2 (by omega) (by omega) (fun r33 => ?_)
      refine aw_i2l (by decide +kernel) (by omega) ?_
      refine aw_blk (pc' := 40) (ls' := [some (vr 9 k), some (vi a), some (vl ((upW at_ wt a i) + (wt i))), none, some (vi ((i : Int) + 1))]) (st' := []) [.inl (.ladd), .inl (.lstore_n 2), .inl (.iinc 4 1)] 35 _ _ (by decide +kernel) rfl ?_
      refine aw_goto (o := -35) (tgt := 5) (by decide +kernel) (by decide) ?_
      exact aw_eq (by rw [upW, if_pos (by omega)]; rfl) rfl rfl ih

/-- how many of the first n numbers of a rising row are below v -/
def lb (f : Nat → Int) (v : Int) : Nat → Nat
  | 0 => 0
  | n + 1 => if f n < v then n + 1 else lb f v n
theorem lb_le (f : Nat → Int) (v : Int) : ∀ n, lb f v n ≤ n
  | 0 => Nat.le_refl 0
  | n + 1 => by rw [lb]; split; exact Nat.le_refl _; have := lb_le f v n; omega
theorem lb_ge {v : Int} : ∀ {n i : Nat}, lb f v n ≤ i → i < n → v ≤ f i
  | 0, i, _, h => by omega
  | n + 1, i, h1, h2 => by
    rw [lb] at h1
    split at h1
    · omega
    · rcases Nat.lt_or_ge i n with z | z
      · exact lb_ge h1 z
      · have : i = n := by omega
        subst this; omega
theorem lb_lt {v : Int} : ∀ {n i : Nat}, inc f n → i < lb f v n → f i < v
  | 0, i, _, h => by simp [lb] at h
  | n + 1, i, hs, h => by
    rw [lb] at h
    split at h
    · rename_i hc
      rcases Nat.lt_or_ge i n with z | z
      · have := hs i n z (by omega); omega
      · have : i = n := by omega
        subst this; exact hc
    · exact lb_lt (fun i j a b => hs i j a (by omega)) h
theorem lb_uniq {v : Int} {n p : Nat} (hs : inc f n) (hp : p ≤ n) (h1 : ∀ i, i < p → f i < v) (h2 : ∀ i, p ≤ i → i < n → v ≤ f i) : lb f v n = p := by
  rcases Nat.lt_trichotomy (lb f v n) p with z | z | z
  · have a := h1 _ z
    have b := lb_ge (f := f) (v := v) (n := n) (i := lb f v n) (Nat.le_refl _) (by omega)
    omega
  · exact z
  · have a := lb_lt hs z
    have b := h2 p (Nat.le_refl p) (by have := lb_le f v n; omega)
    omega
theorem inc_ge {v : Int} {i j : Nat} (hs : inc f n) (h1 : j ≤ i) (h2 : i < n) (h3 : v ≤ f j) : v ≤ f i := by
  rcases Nat.lt_or_ge j i with z | z
  · have := hs j i z h2; omega
  · have : i = j := by omega
    subst this; exact h3
theorem inc_lt {v : Int} {i j : Nat} (hs : inc f n) (h1 : i ≤ j) (h2 : j < n) (h3 : f j < v) : f i < v := by
  rcases Nat.lt_or_ge i j with z | z
  · have := hs i j z h2; omega
  · have : i = j := by omega
    subst this; exact h3
theorem lsN5 {v0 v1 v2 v3 v4 : AV} {v5 : Option AV} : ∀ (k : Nat) (v : AV), ([some v0, some v1, some v2, some v3, some v4, none] : LSt)[k]? = some (some v) → ([some v0, some v1, some v2, some v3, some v4, v5] : LSt)[k]? = some (some v) := by
  intro k v h
  match k, h with
  | 0, h => exact h
  | 1, h => exact h
  | 2, h => exact h
  | 3, h => exact h
  | 4, h => exact h
  | k + 5, h => cases k <;> simp at h
theorem l_B_placeIn {Qr : Option AV → HT → Prop} {Qt : HT → Prop} (hq : ∀ x g, x = some (vi ((lb f a m : Nat) : Int)) → g = h → Qr x g) (hg : hget h k1 k2 = some (ar 0 n f)) (hn : (n : Int) ≤ 2147483647) (hm : m ≤ n) (hs : inc f m) (ha : I32 a) : ∀ (d p q : Nat) (x5 : Option AV), q - p ≤ d → p ≤ q → q ≤ m → (∀ i, i < p → f i < a) → (∀ i, q ≤ i → i < m → a ≤ f i) → AW G M_B_placeIn Qr Qt 0 0 16 [some (vr k1 k2), some (vi (m : Int)), some (vi a), some (vi (p : Int)), some (vi (q : Int)), x5] [] h := by
  intro d
  induction d with
  | zero =>
    intro p q x5 hd h1 h2 h3 h4
    have : p = q := by omega
    subst this
    refine aw_ls (ls' := [some (vr k1 k2), some (vi (m : Int)), some (vi a), some (vi (p : Int)), some (vi (p : Int)), none]) (lsN5) ?_
    refine aw_blk (pc' := 19) (ls' := [some (vr k1 k2), some (vi (m : Int)), some (vi a), some (vi (p : Int)), some (vi (p : Int)), none]) (st' := [vi (p : Int), vi (p : Int)]) [.inl (.iload_n 3), .inl (.iload 4)] 16 _ _ (by decide +kernel) rfl ?_
    refine aw_icmp_ge (o := 34) (tgt := 53) (by decide +kernel) (by decide) (by omega) (by omega) (fun _ => ?_) (fun c => absurd (by omega) c)
    refine aw_blk (pc' := 54) (ls' := [some (vr k1 k2), some (vi (m : Int)), some (vi a), some (vi (p : Int)), some (vi (p : Int)), none]) (st' := [vi (p : Int)]) [.inl (.iload_n 3)] 53 _ _ (by decide +kernel) rfl ?_
    exact aw_iret (by decide +kernel) rfl (by decide) (by decide) (hq _ _ (by rw [lb_uniq hs (by omega) h3 h4]) rfl)
  | succ d ih =>
    intro p q x5 hd h1 h2 h3 h4
    refine aw_ls (ls' := [some (vr k1 k2), some (vi (m : Int)), some (vi a), some (vi (p : Int)), some (vi (q : Int)), none]) (lsN5) ?_
    refine aw_blk (pc' := 19) (ls' := [some (vr k1 k2), some (vi (m : Int)), some (vi a), some (vi (p : Int)), some (vi (q : Int)), none]) (st' := [vi (q : Int), vi (p : Int)]) [.inl (.iload_n 3), .inl (.iload 4)] 16 _ _ (by decide +kernel) rfl ?_
    refine aw_icmp_ge (o := 34) (tgt := 53) (by decide +kernel) (by decide) (by omega) (by omega) (fun c19 => ?_) (fun c19 => ?_)
    · have : p = q := by omega
      subst this
      refine aw_blk (pc' := 54) (ls' := [some (vr k1 k2), some (vi (m : Int)), some (vi a), some (vi (p : Int)), some (vi (p : Int)), none]) (st' := [vi (p : Int)]) [.inl (.iload_n 3)] 53 _ _ (by decide +kernel) rfl ?_
      exact aw_iret (by decide +kernel) rfl (by decide) (by decide) (hq _ _ (by rw [lb_uniq hs (by omega) h3 h4]) rfl)
    · refine aw_blk (pc' := 27) (ls' := [some (vr k1 k2), some (vi (m : Int)), some (vi a), some (vi (p : Int)), some (vi (q : Int)), none]) (st' := [vi 1, vi ((p : Int) + (q : Int))]) [.inl (.iload_n 3), .inl (.iload 4), .inl (.iadd), .inl (.iconst 1)] 22 _ _ (by decide +kernel) rfl ?_
      refine aw_ushr (p9 := 2) 1 (by decide +kernel) rfl (by decide) (by decide) ?_
      rw [show ((p : Int) + (q : Int)) % 4294967296 / 2 = (((p + q) / 2 : Nat) : Int) by omega]
      refine aw_blk (pc' := 33) (ls' := [some (vr k1 k2), some (vi (m : Int)), some (vi a), some (vi (p : Int)), some (vi (q : Int)), some (vi (((p + q) / 2 : Nat) : Int))]) (st' := [vi (((p + q) / 2 : Nat) : Int), vr k1 k2]) [.inl (.istore 5), .inl (.aload_n 0), .inl (.iload 5)] 28 _ _ (by decide +kernel) rfl ?_
      refine aw_iald (j := (p + q) / 2) (by decide +kernel) hg rfl (by omega) (fun r33 => ?_)
      refine aw_blk (pc' := 35) (ls' := [some (vr k1 k2), some (vi (m : Int)), some (vi a), some (vi (p : Int)), some (vi (q : Int)), some (vi (((p + q) / 2 : Nat) : Int))]) (st' := [vi a, vi (f ((p + q) / 2))]) [.inl (.iload_n 2)] 34 _ _ (by decide +kernel) rfl ?_
      refine aw_icmp_ge (o := 11) (tgt := 46) (by decide +kernel) (by decide) (by omega) (by omega) (fun c35 => ?_) (fun c35 => ?_)
      · refine aw_blk (pc' := 50) (ls' := [some (vr k1 k2), some (vi (m : Int)), some (vi a), some (vi (p : Int)), some (vi (((p + q) / 2 : Nat) : Int)), some (vi (((p + q) / 2 : Nat) : Int))]) (st' := []) [.inl (.iload 5), .inl (.istore 4)] 46 _ _ (by decide +kernel) rfl ?_
        refine aw_goto (o := -34) (tgt := 16) (by decide +kernel) (by decide) ?_
        exact ih p ((p + q) / 2) _ (by omega) (by omega) (by omega) h3 (fun i hi hj => by rcases Nat.lt_or_ge i q with z | z; exact inc_ge hs (by omega) (by omega) c35; exact h4 i z hj)
      · refine aw_blk (pc' := 43) (ls' := [some (vr k1 k2), some (vi (m : Int)), some (vi a), some (vi ((((p + q) / 2 : Nat) : Int) + 1)), some (vi (q : Int)), some (vi (((p + q) / 2 : Nat) : Int))]) (st' := []) [.inl (.iload 5), .inl (.iconst 1), .inl (.iadd), .inl (.istore_n 3)] 38 _ _ (by decide +kernel) rfl ?_
        refine aw_goto (o := 7) (tgt := 50) (by decide +kernel) (by decide) ?_
        refine aw_goto (o := -34) (tgt := 16) (by decide +kernel) (by decide) ?_
        exact aw_eq (by rw [show ((((p + q) / 2 : Nat) : Int) + 1) = (((p + q) / 2 + 1 : Nat) : Int) from rfl]) rfl rfl (ih ((p + q) / 2 + 1) q _ (by omega) (by omega) (by omega) (fun i hi => inc_lt (j := (p + q) / 2) hs (by omega) (by omega) (by omega)) h4)
theorem m_B_placeIn (hg : hget h k1 k2 = some (ar 0 n f)) (hm : m ≤ n) (hn : n ≤ 2147483647) (hs : inc f m) (ha : I32 a) : ADet G M_B_placeIn [vr k1 k2, vi (m : Int), vi a] h (some (vi ((lb f a m : Nat) : Int))) h := by
  refine am_det (by decide +kernel) (Nat.le_of_ble_eq_true rfl) (fun Qr Qt hq => ?_)
  refine aw_blk (pc' := 4) (ls' := [some (vr k1 k2), some (vi (m : Int)), some (vi a), some (vi 0), none, none]) (st' := [vr k1 k2, vi (m : Int)]) [.inl (.iconst 0), .inl (.istore_n 3), .inl (.iload_n 1), .inl (.aload_n 0)] 0 _ _ (by decide +kernel) rfl ?_
  refine aw_alen (by decide +kernel) hg (fun r4 => ?_)
  refine aw_icmp_ge (o := 7) (tgt := 12) (by decide +kernel) (by decide) (by omega) (by omega) (fun c5 => ?_) (fun c5 => ?_)
  · have hmn : m = n := by omega
    refine aw_blk (pc' := 13) (ls' := [some (vr k1 k2), some (vi (m : Int)), some (vi a), some (vi 0), none, none]) (st' := [vr k1 k2]) [.inl (.aload_n 0)] 12 _ _ (by decide +kernel) rfl ?_
    refine aw_alen (by decide +kernel) hg (fun r13 => ?_)
    refine aw_blk (pc' := 16) (ls' := [some (vr k1 k2), some (vi (m : Int)), some (vi a), some (vi 0), some (vi (n : Int)), none]) (st' := []) [.inl (.istore 4)] 14 _ _ (by decide +kernel) rfl ?_
    exact aw_eq (by rw [hmn]; rfl) rfl rfl (l_B_placeIn hq hg r4 hm hs ha m 0 m none (by omega) (by omega) (by omega) (fun i hi => by omega) (fun i hi hj => by omega))
  · refine aw_blk (pc' := 9) (ls' := [some (vr k1 k2), some (vi (m : Int)), some (vi a), some (vi 0), none, none]) (st' := [vi (m : Int)]) [.inl (.iload_n 1)] 8 _ _ (by decide +kernel) rfl ?_
    refine aw_goto (o := 5) (tgt := 14) (by decide +kernel) (by decide) ?_
    refine aw_blk (pc' := 16) (ls' := [some (vr k1 k2), some (vi (m : Int)), some (vi a), some (vi 0), some (vi (m : Int)), none]) (st' := []) [.inl (.istore 4)] 14 _ _ (by decide +kernel) rfl ?_
    exact l_B_placeIn hq hg r4 hm hs ha m 0 m none (by omega) (by omega) (by omega) (fun i hi => by omega) (fun i hi hj => by omega)

end
end
section
section
variable {G : GT} {M : MI} {h : HT}
/-- a method that throws, and has changed nothing -/
abbrev AThr (G : GT) (M : MI) (as : List AV) (h : HT) : Prop := AMet G M as h (fun _ _ => False) (fun h' => ∃ j, h' = (h.1 + j, junk h.2 j))
theorem am_thr {as : List AV} (hy : plainName M.1.cls = true) (hn : (entL as).length ≤ M.2.2.1) (k : ∀ Qr Qt, (∀ j, Qt (h.1 + j, junk h.2 j)) → AW G M Qr Qt 0 0 0 (entN as M.2.2.1) [] h) : AThr G M as h :=
  am_entry hy hn (k _ _ (fun j => ⟨j, rfl⟩))
variable {M' : MI} {Qr : Option AV → HT → Prop} {Qt : HT → Prop} {cs sl pc : Nat} {ls : LSt} {st : List AV} {s q n idx : Nat}
theorem aw_tV {as : List AV} {ci : Nat} {fs : List AV} {stk : List AV} (hM : AThr G M' (vr s q :: as) h) (hd : decode M.2.1 pc = .ok (.invokevirtual idx, 3)) (hw : vOK M.1.cls idx M' as.length = true) (hg : hget h s q = some (ob ci fs)) (hci : (cls[ci]?).map (fun r => r.1) = some M'.1.cls) (hst : stk = as.reverse ++ vr s q :: st) (hcat : catS st ≤ 8) (hd1 : M'.2.2.2.2.1 + 1 ≤ M.2.2.2.2.1) (hc : cs + M'.2.2.2.2.2.1 ≤ M.2.2.2.2.2.1) (hs : sl + M'.2.2.2.2.2.2 ≤ M.2.2.2.2.2.2)
    (k : ∀ j, Qt (h.1 + j, junk h.2 j)) : AW G M Qr Qt cs sl pc ls stk h :=
  aw_callV hM hd hw hg hci hst hcat hd1 hc hs (fun h' z => by obtain ⟨j, rfl⟩ := z; exact k j) (fun _ _ z => z.elim)
theorem aw_tS {as : List AV} {stk : List AV} (hM : AThr G M' as h) (hd : decode M.2.1 pc = .ok (.invokestatic idx, 3)) (hw : sOK M.1.cls idx M' as.length = true) (hst : stk = as.reverse ++ st) (hcat : catS st ≤ 8) (hd1 : M'.2.2.2.2.1 + 1 ≤ M.2.2.2.2.1) (hc : cs + M'.2.2.2.2.2.1 ≤ M.2.2.2.2.2.1) (hs : sl + M'.2.2.2.2.2.2 ≤ M.2.2.2.2.2.2)
    (k : ∀ j, Qt (h.1 + j, junk h.2 j)) : AW G M Qr Qt cs sl pc ls stk h :=
  aw_callS hM hd hw hst hcat hd1 hc hs (fun h' z => by obtain ⟨j, rfl⟩ := z; exact k j) (fun _ _ z => z.elim)
end
/-! Euclid: how many steps it takes -/
def eu : Nat → Nat → Nat → Prop
  | 0, _, y => y = 0
  | n + 1, x, y => y = 0 ∨ eu n y (x % y)
def fb : Nat → Nat
  | 0 => 0
  | 1 => 1
  | n + 2 => fb (n + 1) + fb n
theorem eu_fb : ∀ (n x y : Nat), y ≤ x → ¬ eu n x y → fb (n + 1) ≤ y ∧ fb (n + 2) ≤ x
  | 0, x, y, h, e => by
    have : y ≠ 0 := e
    exact ⟨by show 1 ≤ y; omega, by show 1 + 0 ≤ x; omega⟩
  | n + 1, x, y, h, e => by
    have e1 : y ≠ 0 := fun z => e (Or.inl z)
    have e2 : ¬ eu n y (x % y) := fun z => e (Or.inr z)
    have hl : x % y < y := Nat.mod_lt x (by omega)
    obtain ⟨a1, a2⟩ := eu_fb n y (x % y) (by omega) e2
    refine ⟨a2, ?_⟩
    show fb (n + 2) + fb (n + 1) ≤ x
    have h3 := Nat.div_add_mod x y
    have h4 : 1 ≤ x / y := (Nat.one_le_div_iff (by omega)).mpr h
    have h5 : y * 1 ≤ y * (x / y) := Nat.mul_le_mul_left y h4
    omega
theorem fb_93 : 9223372036854775808 < fb 93 := by decide +kernel
theorem eu_mono : ∀ (n x y : Nat), eu n x y → eu (n + 1) x y
  | 0, x, y, h => Or.inl h
  | n + 1, x, y, h => h.elim Or.inl (fun z => Or.inr (eu_mono n y (x % y) z))
theorem eu_le {n m x y : Nat} (h : n ≤ m) (e : eu n x y) : eu m x y := by
  obtain ⟨d, rfl⟩ : ∃ d, m = n + d := ⟨m - n, by omega⟩
  clear h
  induction d with
  | zero => exact e
  | succ d ih => exact eu_mono _ _ _ ih
theorem eu_100 {x y : Nat} (hx : x ≤ 9223372036854775807) (hy : y ≤ 9223372036854775807) : eu 100 x y := by
  have key : ∀ x y : Nat, y ≤ x → y ≤ 9223372036854775807 → eu 92 x y := fun x y h h2 => by
    rcases Classical.em (eu 92 x y) with z | z
    · exact z
    · have := (eu_fb 92 x y h z).1
      have := fb_93
      exfalso
      have e : fb (92 + 1) = fb 93 := rfl
      omega
  rcases Nat.lt_or_ge x y with z | z
  · refine eu_le (n := 93) (by decide) (Or.inr ?_)
    rw [Nat.mod_eq_of_lt z]
    exact key y x (by omega) hx
  · exact eu_le (n := 92) (by decide) (key x y z hy)
def gc (a c : Int) : Int := if 1 < ((Nat.gcd a.natAbs c.natAbs : Nat) : Int) then ((Nat.gcd a.natAbs c.natAbs : Nat) : Int) else 1
abbrev J64 (z : Int) : Prop := -9223372036854775807 ≤ z ∧ z ≤ 9223372036854775807
section
variable {G : GT} {h : HT} {b s t mk df jo tr di mo dy : SG} {a c d : Int} {n k k1 k2 j j1 j2 m : Nat} {f at_ wt at2 wt2 : Nat → Int} {W W2 : Int}
theorem lsN11 {a0 a2 a4 a6 a8 : AV} {x9 : Option AV} : ∀ (k : Nat) (v : AV), ([some a0, none, some a2, none, some a4, none, some a6, none, some a8, none, none] : LSt)[k]? = some (some v) → ([some a0, none, some a2, none, some a4, none, some a6, none, some a8, x9, none] : LSt)[k]? = some (some v) := by
  intro k v h
  match k, h with
  | 0, h => exact h
  | 1, h => exact h
  | 2, h => exact h
  | 3, h => exact h
  | 4, h => exact h
  | 5, h => exact h
  | 6, h => exact h
  | 7, h => exact h
  | 8, h => exact h
  | 9, h => simp at h
  | k + 10, h => exact h
theorem l_B_cd {Qr : Option AV → HT → Prop} {Qt : HT → Prop} (ha : J64 a) (hc : J64 c) (hq : ∀ x g, x = some (vl (gc a c)) → g = h → Qr x g) : ∀ (n x y t : Nat) (x9 : Option AV), t + n = 100 → eu n x y → Nat.gcd x y = Nat.gcd a.natAbs c.natAbs → x ≤ 9223372036854775807 → y ≤ 9223372036854775807 → AW G M_B_commonDivisor Qr Qt 0 0 15 [some (vl a), none, some (vl c), none, some (vl (x : Int)), none, some (vl (y : Int)), none, some (vi (t : Int)), x9, none] [] h := by
  intro n
  induction n with
  | zero =>
    intro x y t x9 ht he hg hx hy
    have hy0 : y = 0 := he
    subst hy0
    have ht1 : t = 100 := by omega
    subst ht1
    refine aw_ls (ls' := [some (vl a), none, some (vl c), none, some (vl (x : Int)), none, some (vl ((0 : Nat) : Int)), none, some (vi ((100 : Nat) : Int)), none, none]) (lsN11) ?_
    refine aw_blk (pc' := 19) (ls' := [some (vl a), none, some (vl c), none, some (vl (x : Int)), none, some (vl ((0 : Nat) : Int)), none, some (vi ((100 : Nat) : Int)), none, none]) (st' := [vi 100, vi ((100 : Nat) : Int)]) [.inl (.iload 8), .inl (.bipush 100)] 15 _ _ (by decide +kernel) rfl ?_
    refine aw_icmp_ge (o := 31) (tgt := 50) (by decide +kernel) (by decide) (by omega) (by omega) (fun _ => ?_) (fun c => absurd (by omega) c)
    refine aw_blk (pc' := 53) (ls' := [some (vl a), none, some (vl c), none, some (vl (x : Int)), none, some (vl ((0 : Nat) : Int)), none, some (vi ((100 : Nat) : Int)), none, none]) (st' := [vl 1, vl (x : Int)]) [.inl (.lload 4), .inl (.lconst 1)] 50 _ _ (by decide +kernel) rfl ?_
    refine aw_mmaxJ (idx := 303) (by decide +kernel) (by decide +kernel) (Nat.le_of_ble_eq_true rfl) (by decide) (by decide) (by decide) (by omega) (by omega) ?_
    exact aw_lret (by decide +kernel) rfl (by decide) (by decide) (hq _ _ (by rw [gc, ← hg, Nat.gcd_zero_right]) rfl)
  | succ n ih =>
    intro x y t x9 ht he hg hx hy
    refine aw_ls (ls' := [some (vl a), none, some (vl c), none, some (vl (x : Int)), none, some (vl (y : Int)), none, some (vi (t : Int)), none, none]) (lsN11) ?_
    refine aw_blk (pc' := 19) (ls' := [some (vl a), none, some (vl c), none, some (vl (x : Int)), none, some (vl (y : Int)), none, some (vi (t : Int)), none, none]) (st' := [vi 100, vi (t : Int)]) [.inl (.iload 8), .inl (.bipush 100)] 15 _ _ (by decide +kernel) rfl ?_
    refine aw_icmp_ge (o := 31) (tgt := 50) (by decide +kernel) (by decide) (by omega) (by omega) (fun c => absurd c (by omega)) (fun _ => ?_)
    refine aw_blk (pc' := 25) (ls' := [some (vl a), none, some (vl c), none, some (vl (x : Int)), none, some (vl (y : Int)), none, some (vi (t : Int)), none, none]) (st' := [vl 0, vl (y : Int)]) [.inl (.lload 6), .inl (.lconst 0)] 22 _ _ (by decide +kernel) rfl ?_
    refine aw_lcmp (by decide +kernel) (by omega) (by omega) ?_
    refine aw_if_le (o := 24) (tgt := 50) (by decide +kernel) (by decide) (cmpI_in _ _) (fun c25 => ?_) (fun c25 => ?_)
    · rw [cmpI_le] at c25
      have hy0 : y = 0 := by omega
      subst hy0
      refine aw_blk (pc' := 53) (ls' := [some (vl a), none, some (vl c), none, some (vl (x : Int)), none, some (vl ((0 : Nat) : Int)), none, some (vi (t : Int)), none, none]) (st' := [vl 1, vl (x : Int)]) [.inl (.lload 4), .inl (.lconst 1)] 50 _ _ (by decide +kernel) rfl ?_
      refine aw_mmaxJ (idx := 303) (by decide +kernel) (by decide +kernel) (Nat.le_of_ble_eq_true rfl) (by decide) (by decide) (by decide) (by omega) (by omega) ?_
      exact aw_lret (by decide +kernel) rfl (by decide) (by decide) (hq _ _ (by rw [gc, ← hg, Nat.gcd_zero_right]) rfl)
    · rw [cmpI_le] at c25
      refine aw_blk (pc' := 33) (ls' := [some (vl a), none, some (vl c), none, some (vl (x : Int)), none, some (vl (y : Int)), none, some (vi (t : Int)), none, none]) (st' := [vl (y : Int), vl (x : Int)]) [.inl (.lload 4), .inl (.lload 6)] 29 _ _ (by decide +kernel) rfl ?_
      refine aw_lrem (by decide +kernel) (by omega) (by omega) (by omega) ?_
      rw [tmod_nat]
      refine aw_blk (pc' := 47) (ls' := [some (vl a), none, some (vl c), none, some (vl (y : Int)), none, some (vl ((x % y : Nat) : Int)), none, some (vi ((t : Int) + 1)), some (vl ((x % y : Nat) : Int)), none]) (st' := []) [.inl (.lstore 9), .inl (.lload 6), .inl (.lstore 4), .inl (.lload 9), .inl (.lstore 6), .inl (.iinc 8 1)] 34 _ _ (by decide +kernel) rfl ?_
      refine aw_goto (o := -32) (tgt := 15) (by decide +kernel) (by decide) ?_
      exact ih y (x % y) (t + 1) _ (by omega) (he.resolve_left (by omega)) (by rw [← hg, Nat.gcd_comm x y, Nat.gcd_rec y x, Nat.gcd_comm]) (by omega) (Nat.le_trans (Nat.mod_le x y) hx)
theorem m_B_commonDivisor (ha : J64 a) (hc : J64 c) : ADet G M_B_commonDivisor [vl a, vl c] h (some (vl (gc a c))) h := by
  refine am_det (by decide +kernel) (Nat.le_of_ble_eq_true rfl) (fun Qr Qt hq => ?_)
  refine aw_blk (pc' := 1) (ls' := [some (vl a), none, some (vl c), none, none, none, none, none, none, none, none]) (st' := [vl a]) [.inl (.lload_n 0)] 0 _ _ (by decide +kernel) rfl ?_
  refine aw_mabsJ (idx := 299) (by decide +kernel) (by decide +kernel) (Nat.le_of_ble_eq_true rfl) (by decide) (by decide) (by decide) (by omega) ?_
  refine aw_blk (pc' := 7) (ls' := [some (vl a), none, some (vl c), none, some (vl (if 0 < a then a else -a)), none, none, none, none, none, none]) (st' := [vl c]) [.inl (.lstore 4), .inl (.lload_n 2)] 4 _ _ (by decide +kernel) rfl ?_
  refine aw_mabsJ (idx := 299) (by decide +kernel) (by decide +kernel) (Nat.le_of_ble_eq_true rfl) (by decide) (by decide) (by decide) (by omega) ?_
  refine aw_blk (pc' := 15) (ls' := [some (vl a), none, some (vl c), none, some (vl (if 0 < a then a else -a)), none, some (vl (if 0 < c then c else -c)), none, some (vi 0), none, none]) (st' := []) [.inl (.lstore 6), .inl (.iconst 0), .inl (.istore 8)] 10 _ _ (by decide +kernel) rfl ?_
  rw [show (if 0 < a then a else -a) = (a.natAbs : Int) by omega, show (if 0 < c then c else -c) = (c.natAbs : Int) by omega]
  exact l_B_cd ha hc hq 100 a.natAbs c.natAbs 0 none (by omega) (eu_100 (by omega) (by omega)) rfl (by omega) (by omega)

def pw (a : Int) : Nat → Int
  | 0 => 1
  | n + 1 => pw a n * a
theorem m_B_power (ha : I32 a) (hn : n ≤ 1000) : ADet G M_B_power [vi a, vi (n : Int)] h (some (vl (pw a n))) h := by
  refine am_det (by decide +kernel) (Nat.le_of_ble_eq_true rfl) (fun Qr Qt hq => ?_)
  refine aw_blk (pc' := 5) (ls' := [some (vi a), some (vi (n : Int)), some (vl 1), none, some (vi 0)]) (st' := []) [.inl (.lconst 1), .inl (.lstore_n 2), .inl (.iconst 0), .inl (.istore 4)] 0 _ _ (by decide +kernel) rfl ?_
  refine up_to (W := fun i : Nat => AW G M_B_power Qr Qt 0 0 5 [some (vi a), some (vi (n : Int)), some (vl (pw a i)), none, some (vi (i : Int))] [] (h)) n ?_ (fun i hi ih => ?_) 0 (by omega)
  · refine aw_blk (pc' := 8) (ls' := [some (vi a), some (vi (n : Int)), some (vl (pw a n)), none, some (vi (n : Int))]) (st' := [vi (n : Int), vi (n : Int)]) [.inl (.iload 4), .inl (.iload_n 1)] 5 _ _ (by decide +kernel) rfl ?_
    refine aw_icmp_ge (o := 14) (tgt := 22) (by decide +kernel) (by decide) (by omega) (by omega) (fun _ => ?_) (fun c => absurd (by omega) c)
    refine aw_blk (pc' := 23) (ls' := [some (vi a), some (vi (n : Int)), some (vl (pw a n)), none, some (vi (n : Int))]) (st' := [vl (pw a n)]) [.inl (.lload_n 2)] 22 _ _ (by decide +kernel) rfl ?_
    exact aw_lret (by decide +kernel) rfl (by decide) (by decide) (hq _ _ rfl rfl)
  · refine aw_blk (pc' := 8) (ls' := [some (vi a), some (vi (n : Int)), some (vl (pw a i)), none, some (vi (i : Int))]) (st' := [vi (n : Int), vi (i : Int)]) [.inl (.iload 4), .inl (.iload_n 1)] 5 _ _ (by decide +kernel) rfl ?_
    refine aw_icmp_ge (o := 14) (tgt := 22) (by decide +kernel) (by decide) (by omega) (by omega) (fun c => absurd c (by omega)) (fun _ => ?_)
    refine aw_blk (pc' := 13) (ls' := [some (vi a), some (vi (n : Int)), some (vl (pw a i)), none, some (vi (i : Int))]) (st' := [vi a, vl (pw a i)]) [.inl (.lload_n 2), .inl (.iload_n 0)] 11 _ _ (by decide +kernel) rfl ?_
    refine aw_i2l (by decide +kernel) (by omega) ?_
    refine aw_blk (pc' := 19) (ls' := [some (vi a), some (vi (n : Int)), some (vl ((pw a i) * a)), none, some (vi ((i : Int) + 1))]) (st' := []) [.inl (.lmul), .inl (.lstore_n 2), .inl (.iinc 4 1)] 14 _ _ (by decide +kernel) rfl ?_
    refine aw_goto (o := -14) (tgt := 5) (by decide +kernel) (by decide) ?_
    exact aw_eq rfl rfl rfl ih

def chW (n k : Nat) : Nat → Int
  | 0 => 1
  | i + 1 => Int.tdiv (chW n k i * ((n : Int) - (k : Int) + ((i : Int) + 1))) ((i : Int) + 1)
def chs (n : Nat) (c : Int) : Int := if 0 ≤ c ∧ c ≤ (n : Int) then chW n c.toNat c.toNat else 0
theorem chW_in : ∀ (n : Fin 21) (k : Fin 21), k.val ≤ n.val → ∀ i : Fin 21, i.val ≤ k.val → 0 ≤ chW n.val k.val i.val ∧ chW n.val k.val i.val ≤ 184756 := by decide +kernel
theorem m_B_choices (hn : n ≤ 20) (hc : I32 c) : ADet G M_B_choices [vi (n : Int), vi c] h (some (vl (chs n c))) h := by
  refine am_det (by decide +kernel) (Nat.le_of_ble_eq_true rfl) (fun Qr Qt hq => ?_)
  refine aw_blk (pc' := 1) (ls' := [some (vi (n : Int)), some (vi c), none, none, none]) (st' := [vi c]) [.inl (.iload_n 1)] 0 _ _ (by decide +kernel) rfl ?_
  refine aw_if_lt (o := 8) (tgt := 9) (by decide +kernel) (by decide) (by omega) (fun c1 => ?_) (fun c1 => ?_)
  · refine aw_blk (pc' := 10) (ls' := [some (vi (n : Int)), some (vi c), none, none, none]) (st' := [vl 0]) [.inl (.lconst 0)] 9 _ _ (by decide +kernel) rfl ?_
    exact aw_lret (by decide +kernel) rfl (by decide) (by decide) (hq _ _ (by rw [chs, if_neg (by omega)]) rfl)
  · refine aw_blk (pc' := 6) (ls' := [some (vi (n : Int)), some (vi c), none, none, none]) (st' := [vi (n : Int), vi c]) [.inl (.iload_n 1), .inl (.iload_n 0)] 4 _ _ (by decide +kernel) rfl ?_
    refine aw_icmp_le (o := 5) (tgt := 11) (by decide +kernel) (by decide) (by omega) (by omega) (fun c6 => ?_) (fun c6 => ?_)
    · refine aw_blk (pc' := 16) (ls' := [some (vi (n : Int)), some (vi c), some (vl 1), none, some (vi 1)]) (st' := []) [.inl (.lconst 1), .inl (.lstore_n 2), .inl (.iconst 1), .inl (.istore 4)] 11 _ _ (by decide +kernel) rfl ?_
      obtain ⟨k, rfl⟩ : ∃ k : Nat, c = (k : Int) := ⟨c.toNat, by omega⟩
      refine up_to (W := fun i : Nat => AW G M_B_choices Qr Qt 0 0 16 [some (vi (n : Int)), some (vi (k : Int)), some (vl (chW n k i)), none, some (vi ((i : Int) + 1))] [] (h)) k ?_ (fun i hi ih => ?_) 0 (by omega)
      · refine aw_blk (pc' := 19) (ls' := [some (vi (n : Int)), some (vi (k : Int)), some (vl (chW n k k)), none, some (vi ((k : Int) + 1))]) (st' := [vi (k : Int), vi ((k : Int) + 1)]) [.inl (.iload 4), .inl (.iload_n 1)] 16 _ _ (by decide +kernel) rfl ?_
        refine aw_icmp_gt (o := 23) (tgt := 42) (by decide +kernel) (by decide) (by omega) (by omega) (fun _ => ?_) (fun c => absurd (by omega) c)
        refine aw_blk (pc' := 43) (ls' := [some (vi (n : Int)), some (vi (k : Int)), some (vl (chW n k k)), none, some (vi ((k : Int) + 1))]) (st' := [vl (chW n k k)]) [.inl (.lload_n 2)] 42 _ _ (by decide +kernel) rfl ?_
        exact aw_lret (by decide +kernel) rfl (by decide) (by decide) (hq _ _ (by rw [chs, if_pos (by omega)]; rfl) rfl)
      · have hb := chW_in ⟨n, by omega⟩ ⟨k, by omega⟩ (by show k ≤ n; omega) ⟨i, by omega⟩ (by show i ≤ k; omega)
        have hb1 : 0 ≤ chW n k i := hb.1
        have hb2 : chW n k i ≤ 184756 := hb.2
        refine aw_blk (pc' := 19) (ls' := [some (vi (n : Int)), some (vi (k : Int)), some (vl (chW n k i)), none, some (vi ((i : Int) + 1))]) (st' := [vi (k : Int), vi ((i : Int) + 1)]) [.inl (.iload 4), .inl (.iload_n 1)] 16 _ _ (by decide +kernel) rfl ?_
        refine aw_icmp_gt (o := 23) (tgt := 42) (by decide +kernel) (by decide) (by omega) (by omega) (fun c => absurd c (by omega)) (fun _ => ?_)
        refine aw_blk (pc' := 29) (ls' := [some (vi (n : Int)), some (vi (k : Int)), some (vl (chW n k i)), none, some (vi ((i : Int) + 1))]) (st' := [vi (((n : Int) - (k : Int)) + ((i : Int) + 1)), vl (chW n k i)]) [.inl (.lload_n 2), .inl (.iload_n 0), .inl (.iload_n 1), .inl (.isub), .inl (.iload 4), .inl (.iadd)] 22 _ _ (by decide +kernel) rfl ?_
        refine aw_i2l (by decide +kernel) (by omega) ?_
        refine aw_blk (pc' := 33) (ls' := [some (vi (n : Int)), some (vi (k : Int)), some (vl (chW n k i)), none, some (vi ((i : Int) + 1))]) (st' := [vi ((i : Int) + 1), vl ((chW n k i) * (((n : Int) - (k : Int)) + ((i : Int) + 1)))]) [.inl (.lmul), .inl (.iload 4)] 30 _ _ (by decide +kernel) rfl ?_
        refine aw_i2l (by decide +kernel) (by omega) ?_
        have hm : 0 ≤ chW n k i * ((n : Int) - (k : Int) + ((i : Int) + 1)) ∧ chW n k i * ((n : Int) - (k : Int) + ((i : Int) + 1)) ≤ 184756 * 21 := ⟨Int.mul_nonneg hb1 (by omega), Int.mul_le_mul hb2 (by omega) (by omega) (by omega)⟩
        refine aw_ldiv (by decide +kernel) (by omega) (by omega) (by omega) ?_
        refine aw_blk (pc' := 39) (ls' := [some (vi (n : Int)), some (vi (k : Int)), some (vl (Int.tdiv ((chW n k i) * (((n : Int) - (k : Int)) + ((i : Int) + 1))) ((i : Int) + 1))), none, some (vi (((i : Int) + 1) + 1))]) (st' := []) [.inl (.lstore_n 2), .inl (.iinc 4 1)] 35 _ _ (by decide +kernel) rfl ?_
        refine aw_goto (o := -23) (tgt := 16) (by decide +kernel) (by decide) ?_
        exact aw_eq rfl rfl rfl ih
    · refine aw_blk (pc' := 10) (ls' := [some (vi (n : Int)), some (vi c), none, none, none]) (st' := [vl 0]) [.inl (.lconst 0)] 9 _ _ (by decide +kernel) rfl ?_
      exact aw_lret (by decide +kernel) rfl (by decide) (by decide) (hq _ _ (by rw [chs, if_neg (by omega)]) rfl)

theorem m_B_isShare (ha : I32 a) (hc : I32 c) (hd : I32 d) : ADet G M_B_isShare [vi a, vi c, vi d] h (some (vi (if (1 ≤ c ∧ c ≤ d) ∧ (0 ≤ a ∧ a ≤ c) then 1 else 0))) h := by
  refine am_det (by decide +kernel) (Nat.le_of_ble_eq_true rfl) (fun Qr Qt hq => ?_)
  refine aw_blk (pc' := 3) (ls' := [some (vi a), some (vi c), some (vi d)]) (st' := [vi d, vi 1, vi c]) [.inl (.iload_n 1), .inl (.iconst 1), .inl (.iload_n 2)] 0 _ _ (by decide +kernel) rfl ?_
  refine aw_dS (cs' := 0) (sl' := 0) (pc' := 6) (st' := [vi (if 1 ≤ c ∧ c ≤ d then 1 else 0)]) (idx := 98) (as := [vi c, vi 1, vi d]) (st := []) (m_B_isWithin hc (by omega) hd) (by decide +kernel) (show sOK "ChanceBench" 98 M_B_isWithin 3 = true by decide +kernel) rfl (Nat.le_of_ble_eq_true rfl) (by decide) (by decide) (by decide) rfl rfl rfl rfl ?_
  refine aw_if_eq (o := 16) (tgt := 22) (by decide +kernel) (by decide) (by split <;> omega) (fun c6 => ?_) (fun c6 => ?_)
  · have c6 : ¬ (1 ≤ c ∧ c ≤ d) := fun z => by rw [if_pos z] at c6; cases c6
    refine aw_blk (pc' := 23) (ls' := [some (vi a), some (vi c), some (vi d)]) (st' := [vi 0]) [.inl (.iconst 0)] 22 _ _ (by decide +kernel) rfl ?_
    exact aw_zret (by decide +kernel) rfl (by decide) (by decide) (by omega) (hq _ _ (by rw [if_neg (fun z => c6 z.1)]) rfl)
  · have c6 : 1 ≤ c ∧ c ≤ d := by rcases Decidable.em (1 ≤ c ∧ c ≤ d) with z | z; exact z; rw [if_neg z] at c6; exact absurd rfl c6
    refine aw_blk (pc' := 12) (ls' := [some (vi a), some (vi c), some (vi d)]) (st' := [vi c, vi 0, vi a]) [.inl (.iload_n 0), .inl (.iconst 0), .inl (.iload_n 1)] 9 _ _ (by decide +kernel) rfl ?_
    refine aw_dS (cs' := 0) (sl' := 0) (pc' := 15) (st' := [vi (if 0 ≤ a ∧ a ≤ c then 1 else 0)]) (idx := 98) (as := [vi a, vi 0, vi c]) (st := []) (m_B_isWithin ha (by omega) hc) (by decide +kernel) (show sOK "ChanceBench" 98 M_B_isWithin 3 = true by decide +kernel) rfl (Nat.le_of_ble_eq_true rfl) (by decide) (by decide) (by decide) rfl rfl rfl rfl ?_
    refine aw_if_eq (o := 7) (tgt := 22) (by decide +kernel) (by decide) (by split <;> omega) (fun c15 => ?_) (fun c15 => ?_)
    · have c15 : ¬ (0 ≤ a ∧ a ≤ c) := fun z => by rw [if_pos z] at c15; cases c15
      refine aw_blk (pc' := 23) (ls' := [some (vi a), some (vi c), some (vi d)]) (st' := [vi 0]) [.inl (.iconst 0)] 22 _ _ (by decide +kernel) rfl ?_
      exact aw_zret (by decide +kernel) rfl (by decide) (by decide) (by omega) (hq _ _ (by rw [if_neg (fun z => c15 z.2)]) rfl)
    · have c15 : 0 ≤ a ∧ a ≤ c := by rcases Decidable.em (0 ≤ a ∧ a ≤ c) with z | z; exact z; rw [if_neg z] at c15; exact absurd rfl c15
      refine aw_blk (pc' := 19) (ls' := [some (vi a), some (vi c), some (vi d)]) (st' := [vi 1]) [.inl (.iconst 1)] 18 _ _ (by decide +kernel) rfl ?_
      refine aw_goto (o := 4) (tgt := 23) (by decide +kernel) (by decide) ?_
      exact aw_zret (by decide +kernel) rfl (by decide) (by decide) (by omega) (hq _ _ (by rw [if_pos ⟨c6, c15⟩]) rfl)

theorem m_B_product (hL : isL h k k1 k2 n at_ wt W) (hL2 : isL h j j1 j2 m at2 wt2 W2) : ADet G M_B_product [vr 9 k, vr 9 j] h (some (vl (W * W2))) h := by
  refine am_det (by decide +kernel) (Nat.le_of_ble_eq_true rfl) (fun Qr Qt hq => ?_)
  refine aw_ok (fun ok => ?_)
  have hW : I32 W := ok _ _ _ hL.1 (vi W) (by simp)
  have hW2 : I32 W2 := ok _ _ _ hL2.1 (vi W2) (by simp)
  refine aw_blk (pc' := 1) (ls' := [some (vr 9 k), some (vr 9 j)]) (st' := [vr 9 k]) [.inl (.aload_n 0)] 0 _ _ (by decide +kernel) rfl ?_
  refine aw_get (idx := 130) (ci := 9) (f := 2) (by decide +kernel) (by decide +kernel) hL.1 rfl ?_
  refine aw_i2l (by decide +kernel) (by omega) ?_
  refine aw_blk (pc' := 6) (ls' := [some (vr 9 k), some (vr 9 j)]) (st' := [vr 9 j, vl W]) [.inl (.aload_n 1)] 5 _ _ (by decide +kernel) rfl ?_
  refine aw_get (idx := 130) (ci := 9) (f := 2) (by decide +kernel) (by decide +kernel) hL2.1 rfl ?_
  refine aw_i2l (by decide +kernel) (by omega) ?_
  refine aw_blk (pc' := 11) (ls' := [some (vr 9 k), some (vr 9 j)]) (st' := [vl (W * W2)]) [.inl (.lmul)] 10 _ _ (by decide +kernel) rfl ?_
  exact aw_lret (by decide +kernel) rfl (by decide) (by decide) (hq _ _ rfl rfl)

def ixO (at_ : Nat → Int) (n : Nat) (v : Int) : Int := if lb at_ v n < n ∧ at_ (lb at_ v n) = v then ((lb at_ v n : Nat) : Int) else -1
theorem m_L_indexOf (hL : isL h k k1 k2 n at_ wt W) (hs : inc at_ n) (ha : I32 a) : ADet G M_L_indexOf [vr 9 k, vi a] h (some (vi (ixO at_ n a))) h := by
  refine am_det (by decide +kernel) (Nat.le_of_ble_eq_true rfl) (fun Qr Qt hq => ?_)
  refine aw_blk (pc' := 1) (ls' := [some (vr 9 k), some (vi a), none]) (st' := [vr 9 k]) [.inl (.aload_n 0)] 0 _ _ (by decide +kernel) rfl ?_
  refine aw_get (idx := 9) (ci := 9) (f := 0) (by decide +kernel) (by decide +kernel) hL.1 rfl ?_
  refine aw_blk (pc' := 5) (ls' := [some (vr 9 k), some (vi a), none]) (st' := [vr 9 k, vr 9 k1]) [.inl (.aload_n 0)] 4 _ _ (by decide +kernel) rfl ?_
  refine aw_get (idx := 9) (ci := 9) (f := 0) (by decide +kernel) (by decide +kernel) hL.1 rfl ?_
  refine aw_alen (by decide +kernel) hL.2.1 (fun r8 => ?_)
  refine aw_blk (pc' := 10) (ls' := [some (vr 9 k), some (vi a), none]) (st' := [vi a, vi (n : Int), vr 9 k1]) [.inl (.iload_n 1)] 9 _ _ (by decide +kernel) rfl ?_
  refine aw_dSN (cs' := 0) (sl' := 0) (pc' := 13) (st' := [vi ((lb at_ a n : Nat) : Int)]) (idx := 22) (as := [vr 9 k1, vi (n : Int), vi a]) (st := []) (m_B_placeIn hL.2.1 (Nat.le_refl n) (by omega) hs ha) (by decide +kernel) (show snOK "ChanceBench$Law" 22 M_B_placeIn 3 = true by decide +kernel) rfl (Nat.le_of_ble_eq_true rfl) (by decide) (by decide) (by decide) rfl rfl rfl rfl ?_
  have hb := lb_le at_ a n
  refine aw_blk (pc' := 16) (ls' := [some (vr 9 k), some (vi a), some (vi ((lb at_ a n : Nat) : Int))]) (st' := [vr 9 k, vi ((lb at_ a n : Nat) : Int)]) [.inl (.istore_n 2), .inl (.iload_n 2), .inl (.aload_n 0)] 13 _ _ (by decide +kernel) rfl ?_
  refine aw_get (idx := 9) (ci := 9) (f := 0) (by decide +kernel) (by decide +kernel) hL.1 rfl ?_
  refine aw_alen (by decide +kernel) hL.2.1 (fun r19 => ?_)
  refine aw_icmp_ge (o := 17) (tgt := 37) (by decide +kernel) (by decide) (by omega) (by omega) (fun c20 => ?_) (fun c20 => ?_)
  · refine aw_blk (pc' := 38) (ls' := [some (vr 9 k), some (vi a), some (vi ((lb at_ a n : Nat) : Int))]) (st' := [vi (-1)]) [.inl (.iconst (-1))] 37 _ _ (by decide +kernel) rfl ?_
    exact aw_iret (by decide +kernel) rfl (by decide) (by decide) (hq _ _ (by rw [ixO, if_neg (by omega)]) rfl)
  · refine aw_blk (pc' := 24) (ls' := [some (vr 9 k), some (vi a), some (vi ((lb at_ a n : Nat) : Int))]) (st' := [vr 9 k]) [.inl (.aload_n 0)] 23 _ _ (by decide +kernel) rfl ?_
    refine aw_get (idx := 9) (ci := 9) (f := 0) (by decide +kernel) (by decide +kernel) hL.1 rfl ?_
    refine aw_blk (pc' := 28) (ls' := [some (vr 9 k), some (vi a), some (vi ((lb at_ a n : Nat) : Int))]) (st' := [vi ((lb at_ a n : Nat) : Int), vr 9 k1]) [.inl (.iload_n 2)] 27 _ _ (by decide +kernel) rfl ?_
    refine aw_iald (j := lb at_ a n) (by decide +kernel) hL.2.1 rfl (by omega) (fun r28 => ?_)
    refine aw_blk (pc' := 30) (ls' := [some (vr 9 k), some (vi a), some (vi ((lb at_ a n : Nat) : Int))]) (st' := [vi a, vi (at_ (lb at_ a n))]) [.inl (.iload_n 1)] 29 _ _ (by decide +kernel) rfl ?_
    refine aw_icmp_ne (o := 7) (tgt := 37) (by decide +kernel) (by decide) (by omega) (by omega) (fun c30 => ?_) (fun c30 => ?_)
    · refine aw_blk (pc' := 38) (ls' := [some (vr 9 k), some (vi a), some (vi ((lb at_ a n : Nat) : Int))]) (st' := [vi (-1)]) [.inl (.iconst (-1))] 37 _ _ (by decide +kernel) rfl ?_
      exact aw_iret (by decide +kernel) rfl (by decide) (by decide) (hq _ _ (by rw [ixO, if_neg (by omega)]) rfl)
    · refine aw_blk (pc' := 34) (ls' := [some (vr 9 k), some (vi a), some (vi ((lb at_ a n : Nat) : Int))]) (st' := [vi ((lb at_ a n : Nat) : Int)]) [.inl (.iload_n 2)] 33 _ _ (by decide +kernel) rfl ?_
      refine aw_goto (o := 4) (tgt := 38) (by decide +kernel) (by decide) ?_
      exact aw_iret (by decide +kernel) rfl (by decide) (by decide) (hq _ _ (by rw [ixO, if_pos (by omega)]) rfl)

theorem gc_in (ha : J64 a) (hc : J64 c) : 1 ≤ gc a c ∧ gc a c ≤ 9223372036854775807 := by
  unfold gc
  split
  · rename_i hz
    refine ⟨by omega, ?_⟩
    rcases Nat.eq_zero_or_pos a.natAbs with z | z
    · rw [z, Nat.gcd_zero_left]; omega
    · have := Nat.gcd_le_left c.natAbs z; omega
  · omega
theorem m_B_part (ha : J64 a) (hc : J64 c) (hd : d = 0 ∨ d = 1) : ADet G M_B_part [vl a, vl c, vi d] h (some (vl (if d = 0 then Int.tdiv a (gc a c) else Int.tdiv c (gc a c)))) h := by
  refine am_det (by decide +kernel) (Nat.le_of_ble_eq_true rfl) (fun Qr Qt hq => ?_)
  refine aw_blk (pc' := 2) (ls' := [some (vl a), none, some (vl c), none, some (vi d), none, none]) (st' := [vi d]) [.inl (.iload 4)] 0 _ _ (by decide +kernel) rfl ?_
  refine aw_if_eq (o := 17) (tgt := 19) (by decide +kernel) (by decide) (by omega) (fun c2 => ?_) (fun c2 => ?_)
  · refine aw_blk (pc' := 21) (ls' := [some (vl a), none, some (vl c), none, some (vi d), none, none]) (st' := [vl c, vl a]) [.inl (.lload_n 0), .inl (.lload_n 2)] 19 _ _ (by decide +kernel) rfl ?_
    refine aw_dS (cs' := 0) (sl' := 0) (pc' := 24) (st' := [vl (gc a c)]) (idx := 295) (as := [vl a, vl c]) (st := []) (m_B_commonDivisor ha hc) (by decide +kernel) (show sOK "ChanceBench" 295 M_B_commonDivisor 2 = true by decide +kernel) rfl (Nat.le_of_ble_eq_true rfl) (by decide) (by decide) (by decide) rfl rfl rfl rfl ?_
    have hg := gc_in ha hc
    refine aw_blk (pc' := 28) (ls' := [some (vl a), none, some (vl c), none, some (vi d), some (vl (gc a c)), none]) (st' := [vi d]) [.inl (.lstore 5), .inl (.iload 4)] 24 _ _ (by decide +kernel) rfl ?_
    refine aw_if_ne (o := 7) (tgt := 35) (by decide +kernel) (by decide) (by omega) (fun c => absurd (by omega) c) (fun _ => ?_)
    refine aw_blk (pc' := 32) (ls' := [some (vl a), none, some (vl c), none, some (vi d), some (vl (gc a c)), none]) (st' := [vl a]) [.inl (.lload_n 0)] 31 _ _ (by decide +kernel) rfl ?_
    refine aw_goto (o := 4) (tgt := 36) (by decide +kernel) (by decide) ?_
    refine aw_blk (pc' := 38) (ls' := [some (vl a), none, some (vl c), none, some (vi d), some (vl (gc a c)), none]) (st' := [vl (gc a c), vl a]) [.inl (.lload 5)] 36 _ _ (by decide +kernel) rfl ?_
    refine aw_ldiv (by decide +kernel) (by omega) (by omega) (by omega) ?_
    exact aw_lret (by decide +kernel) rfl (by decide) (by decide) (hq _ _ (by rw [if_pos c2]) rfl)
  · refine aw_blk (pc' := 8) (ls' := [some (vl a), none, some (vl c), none, some (vi d), none, none]) (st' := [vi 1, vi d]) [.inl (.iload 4), .inl (.iconst 1)] 5 _ _ (by decide +kernel) rfl ?_
    refine aw_icmp_eq (o := 11) (tgt := 19) (by decide +kernel) (by decide) (by omega) (by omega) (fun _ => ?_) (fun c => absurd (by omega) c)
    refine aw_blk (pc' := 21) (ls' := [some (vl a), none, some (vl c), none, some (vi d), none, none]) (st' := [vl c, vl a]) [.inl (.lload_n 0), .inl (.lload_n 2)] 19 _ _ (by decide +kernel) rfl ?_
    refine aw_dS (cs' := 0) (sl' := 0) (pc' := 24) (st' := [vl (gc a c)]) (idx := 295) (as := [vl a, vl c]) (st := []) (m_B_commonDivisor ha hc) (by decide +kernel) (show sOK "ChanceBench" 295 M_B_commonDivisor 2 = true by decide +kernel) rfl (Nat.le_of_ble_eq_true rfl) (by decide) (by decide) (by decide) rfl rfl rfl rfl ?_
    have hg := gc_in ha hc
    refine aw_blk (pc' := 28) (ls' := [some (vl a), none, some (vl c), none, some (vi d), some (vl (gc a c)), none]) (st' := [vi d]) [.inl (.lstore 5), .inl (.iload 4)] 24 _ _ (by decide +kernel) rfl ?_
    refine aw_if_ne (o := 7) (tgt := 35) (by decide +kernel) (by decide) (by omega) (fun _ => ?_) (fun c => absurd c (by omega))
    refine aw_blk (pc' := 38) (ls' := [some (vl a), none, some (vl c), none, some (vi d), some (vl (gc a c)), none]) (st' := [vl (gc a c), vl c]) [.inl (.lload_n 2), .inl (.lload 5)] 35 _ _ (by decide +kernel) rfl ?_
    refine aw_ldiv (by decide +kernel) (by omega) (by omega) (by omega) ?_
    exact aw_lret (by decide +kernel) rfl (by decide) (by decide) (hq _ _ (by rw [if_neg c2]) rfl)

theorem m_B_part_t (hi : I32 d) (hd : d ≠ 0) (hd1 : d ≠ 1) : AThr G M_B_part [vl a, vl c, vi d] h := by
  refine am_thr (by decide +kernel) (Nat.le_of_ble_eq_true rfl) (fun Qr Qt hq => ?_)
  refine aw_blk (pc' := 2) (ls' := [some (vl a), none, some (vl c), none, some (vi d), none, none]) (st' := [vi d]) [.inl (.iload 4)] 0 _ _ (by decide +kernel) rfl ?_
  refine aw_if_eq (o := 17) (tgt := 19) (by decide +kernel) (by decide) (by omega) (fun c => absurd c (by omega)) (fun _ => ?_)
  refine aw_blk (pc' := 8) (ls' := [some (vl a), none, some (vl c), none, some (vi d), none, none]) (st' := [vi 1, vi d]) [.inl (.iload 4), .inl (.iconst 1)] 5 _ _ (by decide +kernel) rfl ?_
  refine aw_icmp_eq (o := 11) (tgt := 19) (by decide +kernel) (by decide) (by omega) (by omega) (fun c => absurd c (by omega)) (fun _ => ?_)
  exact aw_throw (ik := 146) (ic := 148) tOK_B (by decide +kernel) (by decide +kernel) (by decide +kernel) (by decide +kernel) (Nat.le_of_ble_eq_true rfl) (by decide) (by decide) (by decide) hq

end
end
section
section
variable {b s t mk df jo tr di mo dy : SG} {x y z x' : AC}
theorem d1_get0 : hget (Hp b s t mk df jo tr di mo (dy ++ [some x])) 9 dy.length = some x := by simp [hget, hgs]
theorem d2_get0 : hget (Hp b s t mk df jo tr di mo (dy ++ [some x, some y])) 9 dy.length = some x := by simp [hget, hgs]
theorem d2_get1 : hget (Hp b s t mk df jo tr di mo (dy ++ [some x, some y])) 9 (dy.length + 1) = some y := by simp [hget, hgs]
theorem d3_get0 : hget (Hp b s t mk df jo tr di mo (dy ++ [some x, some y, some z])) 9 dy.length = some x := by simp [hget, hgs]
theorem d3_get1 : hget (Hp b s t mk df jo tr di mo (dy ++ [some x, some y, some z])) 9 (dy.length + 1) = some y := by simp [hget, hgs]
theorem d3_get2 : hget (Hp b s t mk df jo tr di mo (dy ++ [some x, some y, some z])) 9 (dy.length + 2) = some z := by simp [hget, hgs]
theorem d2_set0 : hset (Hp b s t mk df jo tr di mo (dy ++ [some x, some y])) 9 dy.length x' = Hp b s t mk df jo tr di mo (dy ++ [some x', some y]) := by simp [hset, hss]
theorem d2_set1 : hset (Hp b s t mk df jo tr di mo (dy ++ [some x, some y])) 9 (dy.length + 1) x' = Hp b s t mk df jo tr di mo (dy ++ [some x, some x']) := by simp [hset, hss, List.set_append_right]
theorem d3_set2 : hset (Hp b s t mk df jo tr di mo (dy ++ [some x, some y, some z])) 9 (dy.length + 2) x' = Hp b s t mk df jo tr di mo (dy ++ [some x, some y, some x']) := by simp [hset, hss, List.set_append_right]
theorem dp_1 {c : Option AC} : ((Hp b s t mk df jo tr di mo dy).1 + 1, hps (Hp b s t mk df jo tr di mo dy).2 9 c) = Hp b s t mk df jo tr di mo (dy ++ [c]) := by simp [hps]; omega
theorem dp_2 {c : Option AC} : ((Hp b s t mk df jo tr di mo (dy ++ [some x])).1 + 1, hps (Hp b s t mk df jo tr di mo (dy ++ [some x])).2 9 c) = Hp b s t mk df jo tr di mo (dy ++ [some x, c]) := by simp [hps]; omega
theorem dp_3 {c : Option AC} : ((Hp b s t mk df jo tr di mo (dy ++ [some x, some y])).1 + 1, hps (Hp b s t mk df jo tr di mo (dy ++ [some x, some y])).2 9 c) = Hp b s t mk df jo tr di mo (dy ++ [some x, some y, c]) := by simp [hps]; omega
theorem okP9 {n : Nat} : okP 9 n := ⟨Nat.le_refl 9, fun h => absurd h (by decide)⟩
end
abbrev sgK (n rf : Int) (f g : Nat → Int) : SG := [some (ob 3 [vr 3 1, vr 3 2, vi n, vi rf]), some (ar 0 24 f), some (ar 1 24 g)]
/-- the row with v put in at place p -/
def ins (f : Nat → Int) (n p : Nat) (v : Int) : Nat → Int := fun i => if i = p then v else if p < i ∧ i ≤ n then f (i - 1) else f i
def shf (f : Nat → Int) (n k : Nat) : Nat → Int := fun i => if k < i ∧ i ≤ n then f (i - 1) else f i
theorem shf_n (f : Nat → Int) (n : Nat) : shf f n n = f := by funext i; simp only [shf]; rw [if_neg (by omega)]
theorem shf_s (f : Nat → Int) (n k : Nat) (h : k < n) : va_up (shf f n (k + 1)) (k + 1) (shf f n (k + 1) k) = shf f n k := by
  funext i
  simp only [va_up, shf]
  by_cases h1 : i = k + 1
  · subst h1; rw [if_pos rfl, if_neg (by omega), if_pos (by omega)]; rfl
  · rw [if_neg h1]
    by_cases h2 : k < i ∧ i ≤ n
    · rw [if_pos h2, if_pos (by omega)]
    · rw [if_neg h2, if_neg (by omega)]
theorem shf_ins (f : Nat → Int) (n p : Nat) (v : Int) : va_up (shf f n p) p v = ins f n p v := by
  funext i
  simp only [va_up, shf, ins]
section
variable {G : GT} {h : HT} {b s t mk df jo tr di mo dy : SG} {a c d : Int} {n p k k1 k2 j j1 j2 m : Nat} {f g : Nat → Int} {rf : Int}
theorem m_K_clear : ADet G M_K_clear [vr 3 0] (Hp b s t (sgK (n : Int) rf f g) df jo tr di mo dy) none (Hp b s t (sgK 0 0 f g) df jo tr di mo dy) := by
  refine am_det (by decide +kernel) (Nat.le_of_ble_eq_true rfl) (fun Qr Qt hq => ?_)
  refine aw_blk (pc' := 2) (ls' := [some (vr 3 0)]) (st' := [vi 0, vr 3 0]) [.inl (.aload_n 0), .inl (.iconst 0)] 0 _ _ (by decide +kernel) rfl ?_
  refine aw_put (idx := 19) (ci := 3) (k := 2) (h' := Hp b s t [some (ob 3 [vr 3 1, vr 3 2, vi 0, vi rf]), some (ar 0 24 f), some (ar 1 24 g)] df jo tr di mo dy) (by decide +kernel) (by decide +kernel) rfl (Nat.le_of_ble_eq_true rfl) (show I32 _ from by omega) rfl ?_
  refine aw_blk (pc' := 7) (ls' := [some (vr 3 0)]) (st' := [vi 0, vr 3 0]) [.inl (.aload_n 0), .inl (.iconst 0)] 5 _ _ (by decide +kernel) rfl ?_
  refine aw_put (idx := 23) (ci := 3) (k := 3) (h' := Hp b s t [some (ob 3 [vr 3 1, vr 3 2, vi 0, vi 0]), some (ar 0 24 f), some (ar 1 24 g)] df jo tr di mo dy) (by decide +kernel) (by decide +kernel) rfl (Nat.le_of_ble_eq_true rfl) (show 0 ≤ _ ∧ _ ≤ _ from by omega) rfl ?_
  exact aw_vret (by decide +kernel) rfl (by decide) (by decide) (hq _ _ rfl rfl)

theorem m_K_insert (hp : p ≤ n) (hn : n < 24) (ha : I32 a) (hc : I64 c) : ADet G M_K_insert [vr 3 0, vi (p : Int), vi a, vl c] (Hp b s t (sgK (n : Int) rf f g) df jo tr di mo dy) none (Hp b s t (sgK ((n : Int) + 1) rf (ins f n p a) (ins g n p c)) df jo tr di mo dy) := by
  refine am_det (by decide +kernel) (Nat.le_of_ble_eq_true rfl) (fun Qr Qt hq => ?_)
  refine aw_blk (pc' := 6) (ls' := [some (vr 3 0), some (vi (p : Int)), some (vi a), some (vl c), none, some (vi (n : Int))]) (st' := []) [.inl (.aload_n 0), .inr (19, 3, 2), .inl (.istore 5)] 0 _ _ (by decide +kernel) rfl ?_
  rw [show Hp b s t [some (ob 3 [vr 3 1, vr 3 2, vi (n : Int), vi rf]), some (ar 0 24 f), some (ar 1 24 g)] df jo tr di mo dy = Hp b s t (sgK (n : Int) rf (shf f n n) (shf g n n)) df jo tr di mo dy by rw [shf_n, shf_n]]
  have key : ∀ e : Nat, p + e ≤ n → AW G M_K_insert Qr Qt 0 0 6 [some (vr 3 0), some (vi (p : Int)), some (vi a), some (vl c), none, some (vi ((p + e : Nat) : Int))] [] (Hp b s t [some (ob 3 [vr 3 1, vr 3 2, vi (n : Int), vi rf]), some (ar 0 24 (shf f n (p + e))), some (ar 1 24 (shf g n (p + e)))] df jo tr di mo dy) := by
    intro e
    induction e with
    | zero =>
      intro he
      refine aw_blk (pc' := 9) (ls' := [some (vr 3 0), some (vi (p : Int)), some (vi a), some (vl c), none, some (vi ((p + 0 : Nat) : Int))]) (st' := [vi (p : Int), vi ((p + 0 : Nat) : Int)]) [.inl (.iload 5), .inl (.iload_n 1)] 6 _ _ (by decide +kernel) rfl ?_
      refine aw_icmp_le (o := 41) (tgt := 50) (by decide +kernel) (by decide) (by omega) (by omega) (fun _ => ?_) (fun c => absurd (by omega) c)
      refine aw_blk (pc' := 56) (ls' := [some (vr 3 0), some (vi (p : Int)), some (vi a), some (vl c), none, some (vi ((p + 0 : Nat) : Int))]) (st' := [vi a, vi (p : Int), vr 3 1]) [.inl (.aload_n 0), .inr (9, 3, 0), .inl (.iload_n 1), .inl (.iload_n 2)] 50 _ _ (by decide +kernel) rfl ?_
      refine aw_iast (j := p) (h' := Hp b s t [some (ob 3 [vr 3 1, vr 3 2, vi (n : Int), vi rf]), some (ar 0 24 (va_up (shf f n (p + 0)) p a)), some (ar 1 24 (shf g n (p + 0)))] df jo tr di mo dy) (by decide +kernel) rfl (by omega) (by omega) (by omega) rfl ?_
      refine aw_blk (pc' := 63) (ls' := [some (vr 3 0), some (vi (p : Int)), some (vi a), some (vl c), none, some (vi ((p + 0 : Nat) : Int))]) (st' := [vl c, vi (p : Int), vr 3 2]) [.inl (.aload_n 0), .inr (15, 3, 1), .inl (.iload_n 1), .inl (.lload_n 3)] 57 _ _ (by decide +kernel) rfl ?_
      refine aw_last (j := p) (h' := Hp b s t [some (ob 3 [vr 3 1, vr 3 2, vi (n : Int), vi rf]), some (ar 0 24 (va_up (shf f n (p + 0)) p a)), some (ar 1 24 (va_up (shf g n (p + 0)) p c))] df jo tr di mo dy) (by decide +kernel) rfl (by omega) (by omega) (by omega) rfl ?_
      refine aw_blk (pc' := 71) (ls' := [some (vr 3 0), some (vi (p : Int)), some (vi a), some (vl c), none, some (vi ((p + 0 : Nat) : Int))]) (st' := [vi ((n : Int) + 1), vr 3 0]) [.inl (.aload_n 0), .inl (.dup), .inr (19, 3, 2), .inl (.iconst 1), .inl (.iadd)] 64 _ _ (by decide +kernel) rfl ?_
      refine aw_put (idx := 19) (ci := 3) (k := 2) (h' := Hp b s t [some (ob 3 [vr 3 1, vr 3 2, vi ((n : Int) + 1), vi rf]), some (ar 0 24 (va_up (shf f n (p + 0)) p a)), some (ar 1 24 (va_up (shf g n (p + 0)) p c))] df jo tr di mo dy) (by decide +kernel) (by decide +kernel) rfl (Nat.le_of_ble_eq_true rfl) (show I32 _ from by omega) rfl ?_
      exact aw_vret (by decide +kernel) rfl (by decide) (by decide) (hq _ _ rfl (by rw [Nat.add_zero, shf_ins, shf_ins]))
    | succ e ih =>
      intro he
      refine aw_blk (pc' := 9) (ls' := [some (vr 3 0), some (vi (p : Int)), some (vi a), some (vl c), none, some (vi ((p + (e + 1) : Nat) : Int))]) (st' := [vi (p : Int), vi ((p + (e + 1) : Nat) : Int)]) [.inl (.iload 5), .inl (.iload_n 1)] 6 _ _ (by decide +kernel) rfl ?_
      refine aw_icmp_le (o := 41) (tgt := 50) (by decide +kernel) (by decide) (by omega) (by omega) (fun c => absurd c (by omega)) (fun _ => ?_)
      refine aw_blk (pc' := 26) (ls' := [some (vr 3 0), some (vi (p : Int)), some (vi a), some (vl c), none, some (vi ((p + (e + 1) : Nat) : Int))]) (st' := [vi (((p + (e + 1) : Nat) : Int) - 1), vr 3 1, vi ((p + (e + 1) : Nat) : Int), vr 3 1]) [.inl (.aload_n 0), .inr (9, 3, 0), .inl (.iload 5), .inl (.aload_n 0), .inr (9, 3, 0), .inl (.iload 5), .inl (.iconst 1), .inl (.isub)] 12 _ _ (by decide +kernel) rfl ?_
      refine aw_iald (j := p + e) (by decide +kernel) rfl (by omega) (by omega) (fun r26 => ?_)
      refine aw_iast (j := p + (e + 1)) (h' := Hp b s t [some (ob 3 [vr 3 1, vr 3 2, vi (n : Int), vi rf]), some (ar 0 24 (va_up (shf f n (p + (e + 1))) (p + (e + 1)) ((shf f n (p + (e + 1))) (p + e)))), some (ar 1 24 (shf g n (p + (e + 1))))] df jo tr di mo dy) (by decide +kernel) rfl rfl (by omega) (by omega) rfl ?_
      refine aw_blk (pc' := 42) (ls' := [some (vr 3 0), some (vi (p : Int)), some (vi a), some (vl c), none, some (vi ((p + (e + 1) : Nat) : Int))]) (st' := [vi (((p + (e + 1) : Nat) : Int) - 1), vr 3 2, vi ((p + (e + 1) : Nat) : Int), vr 3 2]) [.inl (.aload_n 0), .inr (15, 3, 1), .inl (.iload 5), .inl (.aload_n 0), .inr (15, 3, 1), .inl (.iload 5), .inl (.iconst 1), .inl (.isub)] 28 _ _ (by decide +kernel) rfl ?_
      refine aw_lald (j := p + e) (by decide +kernel) rfl (by omega) (by omega) (fun r42 => ?_)
      refine aw_last (j := p + (e + 1)) (h' := Hp b s t [some (ob 3 [vr 3 1, vr 3 2, vi (n : Int), vi rf]), some (ar 0 24 (va_up (shf f n (p + (e + 1))) (p + (e + 1)) ((shf f n (p + (e + 1))) (p + e)))), some (ar 1 24 (va_up (shf g n (p + (e + 1))) (p + (e + 1)) ((shf g n (p + (e + 1))) (p + e))))] df jo tr di mo dy) (by decide +kernel) rfl rfl (by omega) (by omega) rfl ?_
      refine aw_blk (pc' := 47) (ls' := [some (vr 3 0), some (vi (p : Int)), some (vi a), some (vl c), none, some (vi (((p + (e + 1) : Nat) : Int) + (-1)))]) (st' := []) [.inl (.iinc 5 (-1))] 44 _ _ (by decide +kernel) rfl ?_
      refine aw_goto (o := -41) (tgt := 6) (by decide +kernel) (by decide) ?_
      exact aw_eq (by rw [show ((p + (e + 1) : Nat) : Int) + (-1) = ((p + e : Nat) : Int) by omega]) rfl (by rw [← Nat.add_assoc, shf_s f n (p + e) (by omega), shf_s g n (p + e) (by omega)]) (ih (by omega))
  have := key (n - p) (by omega)
  rw [show p + (n - p) = n by omega] at this
  exact this

theorem m_K_add_r : ADet G M_K_add [vr 3 0, vl a, vl c] (Hp b s t (sgK (n : Int) 1 f g) df jo tr di mo dy) none (Hp b s t (sgK (n : Int) 1 f g) df jo tr di mo dy) := by
  refine am_det (by decide +kernel) (Nat.le_of_ble_eq_true rfl) (fun Qr Qt hq => ?_)
  refine aw_blk (pc' := 4) (ls' := [some (vr 3 0), some (vl a), none, some (vl c), none, none]) (st' := [vi 1]) [.inl (.aload_n 0), .inr (23, 3, 3)] 0 _ _ (by decide +kernel) rfl ?_
  refine aw_if_ne (o := 9) (tgt := 13) (by decide +kernel) (by decide) (by omega) (fun _ => ?_) (fun c => absurd c (by omega))
  exact aw_vret (by decide +kernel) rfl (by decide) (by decide) (hq _ _ rfl rfl)

theorem m_K_add_z (hc : I64 c) (h0 : c < 1) : ADet G M_K_add [vr 3 0, vl a, vl c] (Hp b s t (sgK (n : Int) 0 f g) df jo tr di mo dy) none (Hp b s t (sgK (n : Int) 0 f g) df jo tr di mo dy) := by
  refine am_det (by decide +kernel) (Nat.le_of_ble_eq_true rfl) (fun Qr Qt hq => ?_)
  refine aw_blk (pc' := 4) (ls' := [some (vr 3 0), some (vl a), none, some (vl c), none, none]) (st' := [vi 0]) [.inl (.aload_n 0), .inr (23, 3, 3)] 0 _ _ (by decide +kernel) rfl ?_
  refine aw_if_ne (o := 9) (tgt := 13) (by decide +kernel) (by decide) (by omega) (fun c => absurd (by omega) c) (fun _ => ?_)
  refine aw_blk (pc' := 9) (ls' := [some (vr 3 0), some (vl a), none, some (vl c), none, none]) (st' := [vl 1, vl c]) [.inl (.lload_n 3), .inl (.lconst 1)] 7 _ _ (by decide +kernel) rfl ?_
  refine aw_lcmp (by decide +kernel) (by omega) (by omega) ?_
  refine aw_if_ge (o := 4) (tgt := 14) (by decide +kernel) (by decide) (cmpI_in _ _) (fun c => absurd ((cmpI_ge _ _).mp c) (by omega)) (fun _ => ?_)
  exact aw_vret (by decide +kernel) rfl (by decide) (by decide) (hq _ _ rfl rfl)

theorem m_K_add_b (ha : I64 a) (hc : I64 c) (h0 : 1 ≤ c) (h1 : a < -1000 ∨ 1000 < a) : ADet G M_K_add [vr 3 0, vl a, vl c] (Hp b s t (sgK (n : Int) 0 f g) df jo tr di mo dy) none (Hp b s t (sgK (n : Int) 1 f g) df jo tr di mo dy) := by
  refine am_det (by decide +kernel) (Nat.le_of_ble_eq_true rfl) (fun Qr Qt hq => ?_)
  refine aw_blk (pc' := 4) (ls' := [some (vr 3 0), some (vl a), none, some (vl c), none, none]) (st' := [vi 0]) [.inl (.aload_n 0), .inr (23, 3, 3)] 0 _ _ (by decide +kernel) rfl ?_
  refine aw_if_ne (o := 9) (tgt := 13) (by decide +kernel) (by decide) (by omega) (fun c => absurd (by omega) c) (fun _ => ?_)
  refine aw_blk (pc' := 9) (ls' := [some (vr 3 0), some (vl a), none, some (vl c), none, none]) (st' := [vl 1, vl c]) [.inl (.lload_n 3), .inl (.lconst 1)] 7 _ _ (by decide +kernel) rfl ?_
  refine aw_lcmp (by decide +kernel) (by omega) (by omega) ?_
  refine aw_if_ge (o := 4) (tgt := 14) (by decide +kernel) (by decide) (cmpI_in _ _) (fun _ => ?_) (fun c => absurd ((cmpI_ge _ _).mpr (by omega)) c)
  refine aw_blk (pc' := 15) (ls' := [some (vr 3 0), some (vl a), none, some (vl c), none, none]) (st' := [vl a]) [.inl (.lload_n 1)] 14 _ _ (by decide +kernel) rfl ?_
  refine aw_ldc2 (a := (-1000)) (ix := 27) (v := (-1000)) (by decide +kernel) (by decide +kernel) (by decide) ?_
  refine aw_lcmp (by decide +kernel) (by omega) (by omega) ?_
  refine aw_if_lt (o := 11) (tgt := 30) (by decide +kernel) (by decide) (cmpI_in _ _) (fun c18 => ?_) (fun c18 => ?_)
  · rw [cmpI_lt] at c18
    refine aw_blk (pc' := 32) (ls' := [some (vr 3 0), some (vl a), none, some (vl c), none, none]) (st' := [vi 1, vr 3 0]) [.inl (.aload_n 0), .inl (.iconst 1)] 30 _ _ (by decide +kernel) rfl ?_
    refine aw_put (idx := 23) (ci := 3) (k := 3) (h' := Hp b s t [some (ob 3 [vr 3 1, vr 3 2, vi (n : Int), vi 1]), some (ar 0 24 f), some (ar 1 24 g)] df jo tr di mo dy) (by decide +kernel) (by decide +kernel) rfl (Nat.le_of_ble_eq_true rfl) (show 0 ≤ _ ∧ _ ≤ _ from by omega) rfl ?_
    exact aw_vret (by decide +kernel) rfl (by decide) (by decide) (hq _ _ rfl rfl)
  · rw [cmpI_lt] at c18
    refine aw_blk (pc' := 23) (ls' := [some (vr 3 0), some (vl a), none, some (vl c), none, none]) (st' := [vl a]) [.inl (.lload_n 1)] 22 _ _ (by decide +kernel) rfl ?_
    refine aw_ldc2 (a := 1000) (ix := 29) (v := 1000) (by decide +kernel) (by decide +kernel) (by decide) ?_
    refine aw_lcmp (by decide +kernel) (by omega) (by omega) ?_
    refine aw_if_le (o := 9) (tgt := 36) (by decide +kernel) (by decide) (cmpI_in _ _) (fun c => absurd ((cmpI_le _ _).mp c) (by omega)) (fun _ => ?_)
    refine aw_blk (pc' := 32) (ls' := [some (vr 3 0), some (vl a), none, some (vl c), none, none]) (st' := [vi 1, vr 3 0]) [.inl (.aload_n 0), .inl (.iconst 1)] 30 _ _ (by decide +kernel) rfl ?_
    refine aw_put (idx := 23) (ci := 3) (k := 3) (h' := Hp b s t [some (ob 3 [vr 3 1, vr 3 2, vi (n : Int), vi 1]), some (ar 0 24 f), some (ar 1 24 g)] df jo tr di mo dy) (by decide +kernel) (by decide +kernel) rfl (Nat.le_of_ble_eq_true rfl) (show 0 ≤ _ ∧ _ ≤ _ from by omega) rfl ?_
    exact aw_vret (by decide +kernel) rfl (by decide) (by decide) (hq _ _ rfl rfl)

theorem m_K_add_h (hn : n ≤ 24) (hs : inc f n) (ha : -1000 ≤ a ∧ a ≤ 1000) (h0 : 1 ≤ c) (hc : I64 c) (hl : lb f a n < n) (he : f (lb f a n) = a) (hi : I64 (g (lb f a n) + c)) : ADet G M_K_add [vr 3 0, vl a, vl c] (Hp b s t (sgK (n : Int) 0 f g) df jo tr di mo dy) none (Hp b s t (sgK (n : Int) 0 f (va_up g (lb f a n) (g (lb f a n) + c))) df jo tr di mo dy) := by
  refine am_det (by decide +kernel) (Nat.le_of_ble_eq_true rfl) (fun Qr Qt hq => ?_)
  refine aw_blk (pc' := 4) (ls' := [some (vr 3 0), some (vl a), none, some (vl c), none, none]) (st' := [vi 0]) [.inl (.aload_n 0), .inr (23, 3, 3)] 0 _ _ (by decide +kernel) rfl ?_
  refine aw_if_ne (o := 9) (tgt := 13) (by decide +kernel) (by decide) (by omega) (fun c => absurd (by omega) c) (fun _ => ?_)
  refine aw_blk (pc' := 9) (ls' := [some (vr 3 0), some (vl a), none, some (vl c), none, none]) (st' := [vl 1, vl c]) [.inl (.lload_n 3), .inl (.lconst 1)] 7 _ _ (by decide +kernel) rfl ?_
  refine aw_lcmp (by decide +kernel) (by omega) (by omega) ?_
  refine aw_if_ge (o := 4) (tgt := 14) (by decide +kernel) (by decide) (cmpI_in _ _) (fun _ => ?_) (fun c => absurd ((cmpI_ge _ _).mpr (by omega)) c)
  refine aw_blk (pc' := 15) (ls' := [some (vr 3 0), some (vl a), none, some (vl c), none, none]) (st' := [vl a]) [.inl (.lload_n 1)] 14 _ _ (by decide +kernel) rfl ?_
  refine aw_ldc2 (a := (-1000)) (ix := 27) (v := (-1000)) (by decide +kernel) (by decide +kernel) (by decide) ?_
  refine aw_lcmp (by decide +kernel) (by omega) (by omega) ?_
  refine aw_if_lt (o := 11) (tgt := 30) (by decide +kernel) (by decide) (cmpI_in _ _) (fun c => absurd ((cmpI_lt _ _).mp c) (by omega)) (fun _ => ?_)
  refine aw_blk (pc' := 23) (ls' := [some (vr 3 0), some (vl a), none, some (vl c), none, none]) (st' := [vl a]) [.inl (.lload_n 1)] 22 _ _ (by decide +kernel) rfl ?_
  refine aw_ldc2 (a := 1000) (ix := 29) (v := 1000) (by decide +kernel) (by decide +kernel) (by decide) ?_
  refine aw_lcmp (by decide +kernel) (by omega) (by omega) ?_
  refine aw_if_le (o := 9) (tgt := 36) (by decide +kernel) (by decide) (cmpI_in _ _) (fun _ => ?_) (fun c => absurd ((cmpI_le _ _).mpr (by omega)) c)
  refine aw_blk (pc' := 46) (ls' := [some (vr 3 0), some (vl a), none, some (vl c), none, none]) (st' := [vi a, vi (n : Int), vr 3 1]) [.inl (.aload_n 0), .inr (9, 3, 0), .inl (.aload_n 0), .inr (19, 3, 2), .inl (.lload_n 1), .inl (.l2i)] 36 _ _ (by decide +kernel) rfl ?_
  refine aw_dSN (cs' := 0) (sl' := 0) (pc' := 49) (st' := [vi ((lb f a n : Nat) : Int)]) (idx := 31) (as := [vr 3 1, vi (n : Int), vi a]) (st := []) (m_B_placeIn (h := Hp b s t (sgK (n : Int) 0 f g) df jo tr di mo dy) rfl (by omega) (by omega) hs (by omega)) (by decide +kernel) (show snOK "ChanceBench$Maker" 31 M_B_placeIn 3 = true by decide +kernel) rfl (Nat.le_of_ble_eq_true rfl) (by decide) (by decide) (by decide) rfl rfl rfl rfl ?_
  have hb := lb_le f a n
  refine aw_blk (pc' := 57) (ls' := [some (vr 3 0), some (vl a), none, some (vl c), none, some (vi ((lb f a n : Nat) : Int))]) (st' := [vi (n : Int), vi ((lb f a n : Nat) : Int)]) [.inl (.istore 5), .inl (.iload 5), .inl (.aload_n 0), .inr (19, 3, 2)] 49 _ _ (by decide +kernel) rfl ?_
  refine aw_icmp_ge (o := 30) (tgt := 87) (by decide +kernel) (by decide) (by omega) (by omega) (fun c => absurd c (by omega)) (fun _ => ?_)
  refine aw_blk (pc' := 66) (ls' := [some (vr 3 0), some (vl a), none, some (vl c), none, some (vi ((lb f a n : Nat) : Int))]) (st' := [vi ((lb f a n : Nat) : Int), vr 3 1]) [.inl (.aload_n 0), .inr (9, 3, 0), .inl (.iload 5)] 60 _ _ (by decide +kernel) rfl ?_
  refine aw_iald (j := lb f a n) (by decide +kernel) rfl rfl (by omega) (fun r66 => ?_)
  refine aw_i2l (by decide +kernel) (by omega) ?_
  refine aw_blk (pc' := 69) (ls' := [some (vr 3 0), some (vl a), none, some (vl c), none, some (vi ((lb f a n : Nat) : Int))]) (st' := [vl a, vl (f (lb f a n))]) [.inl (.lload_n 1)] 68 _ _ (by decide +kernel) rfl ?_
  refine aw_lcmp (by decide +kernel) (by omega) (by omega) ?_
  refine aw_if_ne (o := 17) (tgt := 87) (by decide +kernel) (by decide) (cmpI_in _ _) (fun c => absurd ((cmpI_eq _ _).mpr (by omega)) c) (fun _ => ?_)
  refine aw_blk (pc' := 80) (ls' := [some (vr 3 0), some (vl a), none, some (vl c), none, some (vi ((lb f a n : Nat) : Int))]) (st' := [vi ((lb f a n : Nat) : Int), vr 3 2, vi ((lb f a n : Nat) : Int), vr 3 2]) [.inl (.aload_n 0), .inr (15, 3, 1), .inl (.iload 5), .inl (.dup2)] 73 _ _ (by decide +kernel) rfl ?_
  refine aw_lald (j := lb f a n) (by decide +kernel) rfl rfl (by omega) (fun r80 => ?_)
  refine aw_blk (pc' := 83) (ls' := [some (vr 3 0), some (vl a), none, some (vl c), none, some (vi ((lb f a n : Nat) : Int))]) (st' := [vl ((g (lb f a n)) + c), vi ((lb f a n : Nat) : Int), vr 3 2]) [.inl (.lload_n 3), .inl (.ladd)] 81 _ _ (by decide +kernel) rfl ?_
  refine aw_last (j := lb f a n) (h' := Hp b s t [some (ob 3 [vr 3 1, vr 3 2, vi (n : Int), vi 0]), some (ar 0 24 f), some (ar 1 24 (va_up g (lb f a n) ((g (lb f a n)) + c)))] df jo tr di mo dy) (by decide +kernel) rfl rfl (by omega) (by omega) rfl ?_
  refine aw_goto (o := 29) (tgt := 113) (by decide +kernel) (by decide) ?_
  exact aw_vret (by decide +kernel) rfl (by decide) (by decide) (hq _ _ rfl rfl)

theorem m_K_add_n (hn : n < 24) (hs : inc f n) (ha : -1000 ≤ a ∧ a ≤ 1000) (h0 : 1 ≤ c) (hc : I64 c) (he : ¬ (lb f a n < n ∧ f (lb f a n) = a)) : ADet G M_K_add [vr 3 0, vl a, vl c] (Hp b s t (sgK (n : Int) 0 f g) df jo tr di mo dy) none (Hp b s t (sgK ((n : Int) + 1) 0 (ins f n (lb f a n) a) (ins g n (lb f a n) c)) df jo tr di mo dy) := by
  refine am_det (by decide +kernel) (Nat.le_of_ble_eq_true rfl) (fun Qr Qt hq => ?_)
  refine aw_blk (pc' := 4) (ls' := [some (vr 3 0), some (vl a), none, some (vl c), none, none]) (st' := [vi 0]) [.inl (.aload_n 0), .inr (23, 3, 3)] 0 _ _ (by decide +kernel) rfl ?_
  refine aw_if_ne (o := 9) (tgt := 13) (by decide +kernel) (by decide) (by omega) (fun c => absurd (by omega) c) (fun _ => ?_)
  refine aw_blk (pc' := 9) (ls' := [some (vr 3 0), some (vl a), none, some (vl c), none, none]) (st' := [vl 1, vl c]) [.inl (.lload_n 3), .inl (.lconst 1)] 7 _ _ (by decide +kernel) rfl ?_
  refine aw_lcmp (by decide +kernel) (by omega) (by omega) ?_
  refine aw_if_ge (o := 4) (tgt := 14) (by decide +kernel) (by decide) (cmpI_in _ _) (fun _ => ?_) (fun c => absurd ((cmpI_ge _ _).mpr (by omega)) c)
  refine aw_blk (pc' := 15) (ls' := [some (vr 3 0), some (vl a), none, some (vl c), none, none]) (st' := [vl a]) [.inl (.lload_n 1)] 14 _ _ (by decide +kernel) rfl ?_
  refine aw_ldc2 (a := (-1000)) (ix := 27) (v := (-1000)) (by decide +kernel) (by decide +kernel) (by decide) ?_
  refine aw_lcmp (by decide +kernel) (by omega) (by omega) ?_
  refine aw_if_lt (o := 11) (tgt := 30) (by decide +kernel) (by decide) (cmpI_in _ _) (fun c => absurd ((cmpI_lt _ _).mp c) (by omega)) (fun _ => ?_)
  refine aw_blk (pc' := 23) (ls' := [some (vr 3 0), some (vl a), none, some (vl c), none, none]) (st' := [vl a]) [.inl (.lload_n 1)] 22 _ _ (by decide +kernel) rfl ?_
  refine aw_ldc2 (a := 1000) (ix := 29) (v := 1000) (by decide +kernel) (by decide +kernel) (by decide) ?_
  refine aw_lcmp (by decide +kernel) (by omega) (by omega) ?_
  refine aw_if_le (o := 9) (tgt := 36) (by decide +kernel) (by decide) (cmpI_in _ _) (fun _ => ?_) (fun c => absurd ((cmpI_le _ _).mpr (by omega)) c)
  refine aw_blk (pc' := 46) (ls' := [some (vr 3 0), some (vl a), none, some (vl c), none, none]) (st' := [vi a, vi (n : Int), vr 3 1]) [.inl (.aload_n 0), .inr (9, 3, 0), .inl (.aload_n 0), .inr (19, 3, 2), .inl (.lload_n 1), .inl (.l2i)] 36 _ _ (by decide +kernel) rfl ?_
  refine aw_dSN (cs' := 0) (sl' := 0) (pc' := 49) (st' := [vi ((lb f a n : Nat) : Int)]) (idx := 31) (as := [vr 3 1, vi (n : Int), vi a]) (st := []) (m_B_placeIn (h := Hp b s t (sgK (n : Int) 0 f g) df jo tr di mo dy) rfl (by omega) (by omega) hs (by omega)) (by decide +kernel) (show snOK "ChanceBench$Maker" 31 M_B_placeIn 3 = true by decide +kernel) rfl (Nat.le_of_ble_eq_true rfl) (by decide) (by decide) (by decide) rfl rfl rfl rfl ?_
  have hb := lb_le f a n
  refine aw_blk (pc' := 57) (ls' := [some (vr 3 0), some (vl a), none, some (vl c), none, some (vi ((lb f a n : Nat) : Int))]) (st' := [vi (n : Int), vi ((lb f a n : Nat) : Int)]) [.inl (.istore 5), .inl (.iload 5), .inl (.aload_n 0), .inr (19, 3, 2)] 49 _ _ (by decide +kernel) rfl ?_
  refine aw_icmp_ge (o := 30) (tgt := 87) (by decide +kernel) (by decide) (by omega) (by omega) (fun c57 => ?_) (fun c57 => ?_)
  · refine aw_blk (pc' := 93) (ls' := [some (vr 3 0), some (vl a), none, some (vl c), none, some (vi ((lb f a n : Nat) : Int))]) (st' := [vi 24, vi (n : Int)]) [.inl (.aload_n 0), .inr (19, 3, 2), .inl (.bipush 24)] 87 _ _ (by decide +kernel) rfl ?_
    refine aw_icmp_ge (o := 15) (tgt := 108) (by decide +kernel) (by decide) (by omega) (by omega) (fun c => absurd c (by omega)) (fun _ => ?_)
    refine aw_blk (pc' := 102) (ls' := [some (vr 3 0), some (vl a), none, some (vl c), none, some (vi ((lb f a n : Nat) : Int))]) (st' := [vl c, vi a, vi ((lb f a n : Nat) : Int), vr 3 0]) [.inl (.aload_n 0), .inl (.iload 5), .inl (.lload_n 1), .inl (.l2i), .inl (.lload_n 3)] 96 _ _ (by decide +kernel) rfl ?_
    refine aw_dV (cs' := 0) (sl' := 0) (pc' := 105) (st' := []) (idx := 35) (as := [vi ((lb f a n : Nat) : Int), vi a, vl c]) (st := []) (m_K_insert hb hn (by omega) hc) (by decide +kernel) (show vOK "ChanceBench$Maker" 35 M_K_insert 3 = true by decide +kernel) rfl rfl rfl (Nat.le_of_ble_eq_true rfl) (by decide) (by decide) (by decide) rfl rfl rfl rfl ?_
    refine aw_goto (o := 8) (tgt := 113) (by decide +kernel) (by decide) ?_
    exact aw_vret (by decide +kernel) rfl (by decide) (by decide) (hq _ _ rfl rfl)
  · refine aw_blk (pc' := 66) (ls' := [some (vr 3 0), some (vl a), none, some (vl c), none, some (vi ((lb f a n : Nat) : Int))]) (st' := [vi ((lb f a n : Nat) : Int), vr 3 1]) [.inl (.aload_n 0), .inr (9, 3, 0), .inl (.iload 5)] 60 _ _ (by decide +kernel) rfl ?_
    refine aw_iald (j := lb f a n) (by decide +kernel) rfl rfl (by omega) (fun r66 => ?_)
    refine aw_i2l (by decide +kernel) (by omega) ?_
    refine aw_blk (pc' := 69) (ls' := [some (vr 3 0), some (vl a), none, some (vl c), none, some (vi ((lb f a n : Nat) : Int))]) (st' := [vl a, vl (f (lb f a n))]) [.inl (.lload_n 1)] 68 _ _ (by decide +kernel) rfl ?_
    refine aw_lcmp (by decide +kernel) (by omega) (by omega) ?_
    refine aw_if_ne (o := 17) (tgt := 87) (by decide +kernel) (by decide) (cmpI_in _ _) (fun _ => ?_) (fun c => absurd ((cmpI_eq _ _).mp c) (by omega))
    refine aw_blk (pc' := 93) (ls' := [some (vr 3 0), some (vl a), none, some (vl c), none, some (vi ((lb f a n : Nat) : Int))]) (st' := [vi 24, vi (n : Int)]) [.inl (.aload_n 0), .inr (19, 3, 2), .inl (.bipush 24)] 87 _ _ (by decide +kernel) rfl ?_
    refine aw_icmp_ge (o := 15) (tgt := 108) (by decide +kernel) (by decide) (by omega) (by omega) (fun c => absurd c (by omega)) (fun _ => ?_)
    refine aw_blk (pc' := 102) (ls' := [some (vr 3 0), some (vl a), none, some (vl c), none, some (vi ((lb f a n : Nat) : Int))]) (st' := [vl c, vi a, vi ((lb f a n : Nat) : Int), vr 3 0]) [.inl (.aload_n 0), .inl (.iload 5), .inl (.lload_n 1), .inl (.l2i), .inl (.lload_n 3)] 96 _ _ (by decide +kernel) rfl ?_
    refine aw_dV (cs' := 0) (sl' := 0) (pc' := 105) (st' := []) (idx := 35) (as := [vi ((lb f a n : Nat) : Int), vi a, vl c]) (st := []) (m_K_insert hb hn (by omega) hc) (by decide +kernel) (show vOK "ChanceBench$Maker" 35 M_K_insert 3 = true by decide +kernel) rfl rfl rfl (Nat.le_of_ble_eq_true rfl) (by decide) (by decide) (by decide) rfl rfl rfl rfl ?_
    refine aw_goto (o := 8) (tgt := 113) (by decide +kernel) (by decide) ?_
    exact aw_vret (by decide +kernel) rfl (by decide) (by decide) (hq _ _ rfl rfl)

theorem m_K_add_f (hn : n = 24) (hs : inc f n) (ha : -1000 ≤ a ∧ a ≤ 1000) (h0 : 1 ≤ c) (hc : I64 c) (he : ¬ (lb f a n < n ∧ f (lb f a n) = a)) : ADet G M_K_add [vr 3 0, vl a, vl c] (Hp b s t (sgK (n : Int) 0 f g) df jo tr di mo dy) none (Hp b s t (sgK (n : Int) 1 f g) df jo tr di mo dy) := by
  refine am_det (by decide +kernel) (Nat.le_of_ble_eq_true rfl) (fun Qr Qt hq => ?_)
  refine aw_blk (pc' := 4) (ls' := [some (vr 3 0), some (vl a), none, some (vl c), none, none]) (st' := [vi 0]) [.inl (.aload_n 0), .inr (23, 3, 3)] 0 _ _ (by decide +kernel) rfl ?_
  refine aw_if_ne (o := 9) (tgt := 13) (by decide +kernel) (by decide) (by omega) (fun c => absurd (by omega) c) (fun _ => ?_)
  refine aw_blk (pc' := 9) (ls' := [some (vr 3 0), some (vl a), none, some (vl c), none, none]) (st' := [vl 1, vl c]) [.inl (.lload_n 3), .inl (.lconst 1)] 7 _ _ (by decide +kernel) rfl ?_
  refine aw_lcmp (by decide +kernel) (by omega) (by omega) ?_
  refine aw_if_ge (o := 4) (tgt := 14) (by decide +kernel) (by decide) (cmpI_in _ _) (fun _ => ?_) (fun c => absurd ((cmpI_ge _ _).mpr (by omega)) c)
  refine aw_blk (pc' := 15) (ls' := [some (vr 3 0), some (vl a), none, some (vl c), none, none]) (st' := [vl a]) [.inl (.lload_n 1)] 14 _ _ (by decide +kernel) rfl ?_
  refine aw_ldc2 (a := (-1000)) (ix := 27) (v := (-1000)) (by decide +kernel) (by decide +kernel) (by decide) ?_
  refine aw_lcmp (by decide +kernel) (by omega) (by omega) ?_
  refine aw_if_lt (o := 11) (tgt := 30) (by decide +kernel) (by decide) (cmpI_in _ _) (fun c => absurd ((cmpI_lt _ _).mp c) (by omega)) (fun _ => ?_)
  refine aw_blk (pc' := 23) (ls' := [some (vr 3 0), some (vl a), none, some (vl c), none, none]) (st' := [vl a]) [.inl (.lload_n 1)] 22 _ _ (by decide +kernel) rfl ?_
  refine aw_ldc2 (a := 1000) (ix := 29) (v := 1000) (by decide +kernel) (by decide +kernel) (by decide) ?_
  refine aw_lcmp (by decide +kernel) (by omega) (by omega) ?_
  refine aw_if_le (o := 9) (tgt := 36) (by decide +kernel) (by decide) (cmpI_in _ _) (fun _ => ?_) (fun c => absurd ((cmpI_le _ _).mpr (by omega)) c)
  refine aw_blk (pc' := 46) (ls' := [some (vr 3 0), some (vl a), none, some (vl c), none, none]) (st' := [vi a, vi (n : Int), vr 3 1]) [.inl (.aload_n 0), .inr (9, 3, 0), .inl (.aload_n 0), .inr (19, 3, 2), .inl (.lload_n 1), .inl (.l2i)] 36 _ _ (by decide +kernel) rfl ?_
  refine aw_dSN (cs' := 0) (sl' := 0) (pc' := 49) (st' := [vi ((lb f a n : Nat) : Int)]) (idx := 31) (as := [vr 3 1, vi (n : Int), vi a]) (st := []) (m_B_placeIn (h := Hp b s t (sgK (n : Int) 0 f g) df jo tr di mo dy) rfl (by omega) (by omega) hs (by omega)) (by decide +kernel) (show snOK "ChanceBench$Maker" 31 M_B_placeIn 3 = true by decide +kernel) rfl (Nat.le_of_ble_eq_true rfl) (by decide) (by decide) (by decide) rfl rfl rfl rfl ?_
  have hb := lb_le f a n
  refine aw_blk (pc' := 57) (ls' := [some (vr 3 0), some (vl a), none, some (vl c), none, some (vi ((lb f a n : Nat) : Int))]) (st' := [vi (n : Int), vi ((lb f a n : Nat) : Int)]) [.inl (.istore 5), .inl (.iload 5), .inl (.aload_n 0), .inr (19, 3, 2)] 49 _ _ (by decide +kernel) rfl ?_
  refine aw_icmp_ge (o := 30) (tgt := 87) (by decide +kernel) (by decide) (by omega) (by omega) (fun c57 => ?_) (fun c57 => ?_)
  · refine aw_blk (pc' := 93) (ls' := [some (vr 3 0), some (vl a), none, some (vl c), none, some (vi ((lb f a n : Nat) : Int))]) (st' := [vi 24, vi (n : Int)]) [.inl (.aload_n 0), .inr (19, 3, 2), .inl (.bipush 24)] 87 _ _ (by decide +kernel) rfl ?_
    refine aw_icmp_ge (o := 15) (tgt := 108) (by decide +kernel) (by decide) (by omega) (by omega) (fun _ => ?_) (fun c => absurd (by omega) c)
    refine aw_blk (pc' := 110) (ls' := [some (vr 3 0), some (vl a), none, some (vl c), none, some (vi ((lb f a n : Nat) : Int))]) (st' := [vi 1, vr 3 0]) [.inl (.aload_n 0), .inl (.iconst 1)] 108 _ _ (by decide +kernel) rfl ?_
    refine aw_put (idx := 23) (ci := 3) (k := 3) (h' := Hp b s t [some (ob 3 [vr 3 1, vr 3 2, vi (n : Int), vi 1]), some (ar 0 24 f), some (ar 1 24 g)] df jo tr di mo dy) (by decide +kernel) (by decide +kernel) rfl (Nat.le_of_ble_eq_true rfl) (show 0 ≤ _ ∧ _ ≤ _ from by omega) rfl ?_
    exact aw_vret (by decide +kernel) rfl (by decide) (by decide) (hq _ _ rfl rfl)
  · refine aw_blk (pc' := 66) (ls' := [some (vr 3 0), some (vl a), none, some (vl c), none, some (vi ((lb f a n : Nat) : Int))]) (st' := [vi ((lb f a n : Nat) : Int), vr 3 1]) [.inl (.aload_n 0), .inr (9, 3, 0), .inl (.iload 5)] 60 _ _ (by decide +kernel) rfl ?_
    refine aw_iald (j := lb f a n) (by decide +kernel) rfl rfl (by omega) (fun r66 => ?_)
    refine aw_i2l (by decide +kernel) (by omega) ?_
    refine aw_blk (pc' := 69) (ls' := [some (vr 3 0), some (vl a), none, some (vl c), none, some (vi ((lb f a n : Nat) : Int))]) (st' := [vl a, vl (f (lb f a n))]) [.inl (.lload_n 1)] 68 _ _ (by decide +kernel) rfl ?_
    refine aw_lcmp (by decide +kernel) (by omega) (by omega) ?_
    refine aw_if_ne (o := 17) (tgt := 87) (by decide +kernel) (by decide) (cmpI_in _ _) (fun _ => ?_) (fun c => absurd ((cmpI_eq _ _).mp c) (by omega))
    refine aw_blk (pc' := 93) (ls' := [some (vr 3 0), some (vl a), none, some (vl c), none, some (vi ((lb f a n : Nat) : Int))]) (st' := [vi 24, vi (n : Int)]) [.inl (.aload_n 0), .inr (19, 3, 2), .inl (.bipush 24)] 87 _ _ (by decide +kernel) rfl ?_
    refine aw_icmp_ge (o := 15) (tgt := 108) (by decide +kernel) (by decide) (by omega) (by omega) (fun _ => ?_) (fun c => absurd (by omega) c)
    refine aw_blk (pc' := 110) (ls' := [some (vr 3 0), some (vl a), none, some (vl c), none, some (vi ((lb f a n : Nat) : Int))]) (st' := [vi 1, vr 3 0]) [.inl (.aload_n 0), .inl (.iconst 1)] 108 _ _ (by decide +kernel) rfl ?_
    refine aw_put (idx := 23) (ci := 3) (k := 3) (h' := Hp b s t [some (ob 3 [vr 3 1, vr 3 2, vi (n : Int), vi 1]), some (ar 0 24 f), some (ar 1 24 g)] df jo tr di mo dy) (by decide +kernel) (by decide +kernel) rfl (Nat.le_of_ble_eq_true rfl) (show 0 ≤ _ ∧ _ ≤ _ from by omega) rfl ?_
    exact aw_vret (by decide +kernel) rfl (by decide) (by decide) (hq _ _ rfl rfl)

theorem m_L_init {x y : AC} (ha : I32 a) : ADet G M_L_init [vr 9 (dy.length + 2), vr 9 k1, vr 9 k2, vi a] (Hp b s t mk df jo tr di mo (dy ++ [some x, some y, some (ob 9 [vn, vn, vi 0])])) none (Hp b s t mk df jo tr di mo (dy ++ [some x, some y, some (ob 9 [vr 9 k1, vr 9 k2, vi a])])) := by
  refine am_det (by decide +kernel) (Nat.le_of_ble_eq_true rfl) (fun Qr Qt hq => ?_)
  refine aw_blk (pc' := 1) (ls' := [some (vr 9 (dy.length + 2)), some (vr 9 k1), some (vr 9 k2), some (vi a)]) (st' := [vr 9 (dy.length + 2)]) [.inl (.aload_n 0)] 0 _ _ (by decide +kernel) rfl ?_
  refine aw_obj (idx := 3) (by decide +kernel) (fun z => nomatch z) (by decide +kernel) (by decide +kernel) (by decide +kernel) (by decide) (Nat.le_of_ble_eq_true rfl) ?_
  refine aw_blk (pc' := 6) (ls' := [some (vr 9 (dy.length + 2)), some (vr 9 k1), some (vr 9 k2), some (vi a)]) (st' := [vr 9 k1, vr 9 (dy.length + 2)]) [.inl (.aload_n 0), .inl (.aload_n 1)] 4 _ _ (by decide +kernel) rfl ?_
  refine aw_putF (idx := 9) (ci := 9) (k := 0) (h' := Hp b s t mk df jo tr di mo (dy ++ [some (x), some (y), some (ob 9 [vr 9 k1, vn, vi 0])])) (by decide +kernel) (by decide +kernel) d3_get2 (Nat.le_of_ble_eq_true rfl) trivial d3_set2 ?_
  refine aw_blk (pc' := 11) (ls' := [some (vr 9 (dy.length + 2)), some (vr 9 k1), some (vr 9 k2), some (vi a)]) (st' := [vr 9 k2, vr 9 (dy.length + 2)]) [.inl (.aload_n 0), .inl (.aload_n 2)] 9 _ _ (by decide +kernel) rfl ?_
  refine aw_putF (idx := 15) (ci := 9) (k := 1) (h' := Hp b s t mk df jo tr di mo (dy ++ [some (x), some (y), some (ob 9 [vr 9 k1, vr 9 k2, vi 0])])) (by decide +kernel) (by decide +kernel) d3_get2 (Nat.le_of_ble_eq_true rfl) trivial d3_set2 ?_
  refine aw_blk (pc' := 16) (ls' := [some (vr 9 (dy.length + 2)), some (vr 9 k1), some (vr 9 k2), some (vi a)]) (st' := [vi a, vr 9 (dy.length + 2)]) [.inl (.aload_n 0), .inl (.iload_n 3)] 14 _ _ (by decide +kernel) rfl ?_
  refine aw_putF (idx := 18) (ci := 9) (k := 2) (h' := Hp b s t mk df jo tr di mo (dy ++ [some (x), some (y), some (ob 9 [vr 9 k1, vr 9 k2, vi a])])) (by decide +kernel) (by decide +kernel) d3_get2 (Nat.le_of_ble_eq_true rfl) (show I32 _ from by omega) d3_set2 ?_
  exact aw_vret (by decide +kernel) rfl (by decide) (by decide) (hq _ _ rfl rfl)

def dv (g : Nat → Int) : Nat → Int
  | 0 => 0
  | i + 1 => gc (g i) (dv g i)
theorem dv_in (hg : ∀ i, i < n → J64 (g i)) : ∀ i, i ≤ n → 0 ≤ dv g i ∧ dv g i ≤ 9223372036854775807 ∧ (1 ≤ i → 1 ≤ dv g i)
  | 0, _ => ⟨by simp [dv], by simp [dv], by omega⟩
  | i + 1, h => by
    have ih := dv_in hg i (by omega)
    have := gc_in (hg i (by omega)) (show J64 (dv g i) by omega)
    exact ⟨by simp only [dv]; omega, by simp only [dv]; omega, fun _ => by simp only [dv]; omega⟩
def cp (f : Nat → Int) (i : Nat) : Nat → Int := fun j => if j < i then f j else 0
theorem cp_0 (f : Nat → Int) : cp f 0 = fun _ => 0 := by funext j; simp [cp]
theorem cp_s (f : Nat → Int) (i : Nat) : va_up (cp f i) i (f i) = cp f (i + 1) := by
  funext j
  simp only [va_up, cp]
  by_cases h1 : j = i
  · subst h1; rw [if_pos rfl, if_pos (by omega)]
  · rw [if_neg h1]
    by_cases h2 : j < i
    · rw [if_pos h2, if_pos (by omega)]
    · rw [if_neg h2, if_neg (by omega)]
theorem sumZ_nn (hg : ∀ i, i < n → 0 ≤ g i) : ∀ m, m ≤ n → 0 ≤ sumZ g m
  | 0, _ => by simp [sumZ]
  | m + 1, h => by have := sumZ_nn hg m (by omega); have := hg m (by omega); simp only [sumZ]; omega
theorem sumZ_le (hg : ∀ i, i < n → 0 ≤ g i) : ∀ {m i : Nat}, m ≤ n → i < m → g i ≤ sumZ g m
  | 0, i, _, h => by omega
  | m + 1, i, h1, h2 => by
    simp only [sumZ]
    rcases Nat.lt_or_ge i m with z | z
    · have := sumZ_le hg (m := m) (i := i) (by omega) z; have := hg m (by omega); omega
    · have : i = m := by omega
      subst this; have := sumZ_nn hg i (by omega); omega
theorem tdiv_le {x y D : Int} (h0 : 0 ≤ x) (h : x ≤ y) (hD : 0 < D) : 0 ≤ Int.tdiv x D ∧ Int.tdiv x D ≤ Int.tdiv y D := by
  rw [Int.tdiv_eq_ediv_of_nonneg h0, Int.tdiv_eq_ediv_of_nonneg (by omega)]
  exact ⟨Int.ediv_nonneg h0 (by omega), Int.ediv_le_ediv hD h⟩
theorem m_K_made_r : ADet G M_K_made [vr 3 0] (Hp b s t (sgK (n : Int) 1 f g) df jo tr di mo dy) (some vn) (Hp b s t (sgK (n : Int) 1 f g) df jo tr di mo dy) := by
  refine am_det (by decide +kernel) (Nat.le_of_ble_eq_true rfl) (fun Qr Qt hq => ?_)
  refine aw_blk (pc' := 4) (ls' := [some (vr 3 0), none, none, none, none, none, none, none]) (st' := [vi 1]) [.inl (.aload_n 0), .inr (23, 3, 3)] 0 _ _ (by decide +kernel) rfl ?_
  refine aw_if_ne (o := 11) (tgt := 15) (by decide +kernel) (by decide) (by omega) (fun _ => ?_) (fun c => absurd c (by omega))
  refine aw_blk (pc' := 16) (ls' := [some (vr 3 0), none, none, none, none, none, none, none]) (st' := [vn]) [.inl (.aconst_null)] 15 _ _ (by decide +kernel) rfl ?_
  exact aw_aret (by decide +kernel) rfl (by decide) (by decide) (hq _ _ rfl rfl)

theorem m_K_made_0 : ADet G M_K_made [vr 3 0] (Hp b s t (sgK 0 0 f g) df jo tr di mo dy) (some vn) (Hp b s t (sgK 0 0 f g) df jo tr di mo dy) := by
  refine am_det (by decide +kernel) (Nat.le_of_ble_eq_true rfl) (fun Qr Qt hq => ?_)
  refine aw_blk (pc' := 4) (ls' := [some (vr 3 0), none, none, none, none, none, none, none]) (st' := [vi 0]) [.inl (.aload_n 0), .inr (23, 3, 3)] 0 _ _ (by decide +kernel) rfl ?_
  refine aw_if_ne (o := 11) (tgt := 15) (by decide +kernel) (by decide) (by omega) (fun c => absurd (by omega) c) (fun _ => ?_)
  refine aw_blk (pc' := 12) (ls' := [some (vr 3 0), none, none, none, none, none, none, none]) (st' := [vi 1, vi 0]) [.inl (.aload_n 0), .inr (19, 3, 2), .inl (.iconst 1)] 7 _ _ (by decide +kernel) rfl ?_
  refine aw_icmp_ge (o := 5) (tgt := 17) (by decide +kernel) (by decide) (by omega) (by omega) (fun c => absurd c (by omega)) (fun _ => ?_)
  refine aw_blk (pc' := 16) (ls' := [some (vr 3 0), none, none, none, none, none, none, none]) (st' := [vn]) [.inl (.aconst_null)] 15 _ _ (by decide +kernel) rfl ?_
  exact aw_aret (by decide +kernel) rfl (by decide) (by decide) (hq _ _ rfl rfl)

theorem m_K_made_b (hn : 1 ≤ n ∧ n ≤ 24) (hg : ∀ i, i < n → 1 ≤ g i ∧ I64 (g i)) (hS : sumZ g n ≤ 4611686018427387904) (hb : 1048576 < Int.tdiv (sumZ g n) (dv g n)) : ADet G M_K_made [vr 3 0] (Hp b s t (sgK (n : Int) 0 f g) df jo tr di mo dy) (some vn) (Hp b s t (sgK (n : Int) 0 f g) df jo tr di mo dy) := by
  refine am_det (by decide +kernel) (Nat.le_of_ble_eq_true rfl) (fun Qr Qt hq => ?_)
  have hnn : ∀ i, i < n → 0 ≤ g i := fun i hi => by have := (hg i hi).1; omega
  have hgj : ∀ i, i < n → J64 (g i) := fun i hi => by have := (hg i hi).1; have := sumZ_le hnn (Nat.le_refl n) hi; constructor <;> omega
  have hdv := dv_in hgj
  have hS0 := sumZ_nn hnn n (Nat.le_refl n)
  refine aw_blk (pc' := 4) (ls' := [some (vr 3 0), none, none, none, none, none, none, none]) (st' := [vi 0]) [.inl (.aload_n 0), .inr (23, 3, 3)] 0 _ _ (by decide +kernel) rfl ?_
  refine aw_if_ne (o := 11) (tgt := 15) (by decide +kernel) (by decide) (by omega) (fun c => absurd (by omega) c) (fun _ => ?_)
  refine aw_blk (pc' := 12) (ls' := [some (vr 3 0), none, none, none, none, none, none, none]) (st' := [vi 1, vi (n : Int)]) [.inl (.aload_n 0), .inr (19, 3, 2), .inl (.iconst 1)] 7 _ _ (by decide +kernel) rfl ?_
  refine aw_icmp_ge (o := 5) (tgt := 17) (by decide +kernel) (by decide) (by omega) (by omega) (fun _ => ?_) (fun c => absurd (by omega) c)
  refine aw_blk (pc' := 24) (ls' := [some (vr 3 0), some (vl 0), none, some (vl 0), none, some (vi 0), none, none]) (st' := []) [.inl (.lconst 0), .inl (.lstore_n 1), .inl (.lconst 0), .inl (.lstore_n 3), .inl (.iconst 0), .inl (.istore 5)] 17 _ _ (by decide +kernel) rfl ?_
  refine up_to (W := fun i : Nat => AW G M_K_made Qr Qt 0 0 24 [some (vr 3 0), some (vl (dv g i)), none, some (vl (sumZ g i)), none, some (vi (i : Int)), none, none] [] (Hp b s t [some (ob 3 [vr 3 1, vr 3 2, vi (n : Int), vi 0]), some (ar 0 24 f), some (ar 1 24 g)] df jo tr di mo dy)) n ?_ (fun i hi ih => ?_) 0 (by omega)
  · have hd1 := hdv n (Nat.le_refl n)
    have hq1 := tdiv_le (D := dv g n) hS0 (Int.le_refl (sumZ g n)) (by omega)
    have hq2 : Int.tdiv (sumZ g n) (dv g n) ≤ sumZ g n := by rw [Int.tdiv_eq_ediv_of_nonneg hS0]; exact Int.ediv_le_self _ hS0
    refine aw_blk (pc' := 30) (ls' := [some (vr 3 0), some (vl (dv g n)), none, some (vl (sumZ g n)), none, some (vi (n : Int)), none, none]) (st' := [vi (n : Int), vi (n : Int)]) [.inl (.iload 5), .inl (.aload_n 0), .inr (19, 3, 2)] 24 _ _ (by decide +kernel) rfl ?_
    refine aw_icmp_ge (o := 31) (tgt := 61) (by decide +kernel) (by decide) (by omega) (by omega) (fun _ => ?_) (fun c => absurd (by omega) c)
    refine aw_blk (pc' := 63) (ls' := [some (vr 3 0), some (vl (dv g n)), none, some (vl (sumZ g n)), none, some (vi (n : Int)), none, none]) (st' := [vl 1, vl (dv g n)]) [.inl (.lload_n 1), .inl (.lconst 1)] 61 _ _ (by decide +kernel) rfl ?_
    refine aw_lcmp (by decide +kernel) (by omega) (by omega) ?_
    refine aw_if_lt (o := 13) (tgt := 77) (by decide +kernel) (by decide) (cmpI_in _ _) (fun c => absurd ((cmpI_lt _ _).mp c) (by omega)) (fun _ => ?_)
    refine aw_blk (pc' := 69) (ls' := [some (vr 3 0), some (vl (dv g n)), none, some (vl (sumZ g n)), none, some (vi (n : Int)), none, none]) (st' := [vl (dv g n), vl (sumZ g n)]) [.inl (.lload_n 3), .inl (.lload_n 1)] 67 _ _ (by decide +kernel) rfl ?_
    refine aw_ldiv (by decide +kernel) (by omega) (by omega) (by omega) ?_
    refine aw_ldc2 (a := 1048576) (ix := 43) (v := 1048576) (by decide +kernel) (by decide +kernel) (by decide) ?_
    refine aw_lcmp (by decide +kernel) (by omega) (by omega) ?_
    refine aw_if_le (o := 5) (tgt := 79) (by decide +kernel) (by decide) (cmpI_in _ _) (fun c => absurd ((cmpI_le _ _).mp c) (by omega)) (fun _ => ?_)
    refine aw_blk (pc' := 78) (ls' := [some (vr 3 0), some (vl (dv g n)), none, some (vl (sumZ g n)), none, some (vi (n : Int)), none, none]) (st' := [vn]) [.inl (.aconst_null)] 77 _ _ (by decide +kernel) rfl ?_
    exact aw_aret (by decide +kernel) rfl (by decide) (by decide) (hq _ _ rfl rfl)
  · refine aw_blk (pc' := 30) (ls' := [some (vr 3 0), some (vl (dv g i)), none, some (vl (sumZ g i)), none, some (vi (i : Int)), none, none]) (st' := [vi (n : Int), vi (i : Int)]) [.inl (.iload 5), .inl (.aload_n 0), .inr (19, 3, 2)] 24 _ _ (by decide +kernel) rfl ?_
    refine aw_icmp_ge (o := 31) (tgt := 61) (by decide +kernel) (by decide) (by omega) (by omega) (fun c => absurd c (by omega)) (fun _ => ?_)
    refine aw_blk (pc' := 39) (ls' := [some (vr 3 0), some (vl (dv g i)), none, some (vl (sumZ g i)), none, some (vi (i : Int)), none, none]) (st' := [vi (i : Int), vr 3 2]) [.inl (.aload_n 0), .inr (15, 3, 1), .inl (.iload 5)] 33 _ _ (by decide +kernel) rfl ?_
    refine aw_lald (j := i) (by decide +kernel) rfl (by omega) (by omega) (fun r39 => ?_)
    refine aw_blk (pc' := 41) (ls' := [some (vr 3 0), some (vl (dv g i)), none, some (vl (sumZ g i)), none, some (vi (i : Int)), none, none]) (st' := [vl (dv g i), vl (g i)]) [.inl (.lload_n 1)] 40 _ _ (by decide +kernel) rfl ?_
    have hd1 := hdv i (by omega)
    have hg1 := hgj i hi
    refine aw_dSN (cs' := 0) (sl' := 0) (pc' := 44) (st' := [vl (gc (g i) (dv g i))]) (idx := 39) (as := [vl (g i), vl (dv g i)]) (st := []) (m_B_commonDivisor hg1 (by omega)) (by decide +kernel) (show snOK "ChanceBench$Maker" 39 M_B_commonDivisor 2 = true by decide +kernel) rfl (Nat.le_of_ble_eq_true rfl) (by decide) (by decide) (by decide) rfl rfl rfl rfl ?_
    refine aw_blk (pc' := 52) (ls' := [some (vr 3 0), some (vl (gc (g i) (dv g i))), none, some (vl (sumZ g i)), none, some (vi (i : Int)), none, none]) (st' := [vi (i : Int), vr 3 2, vl (sumZ g i)]) [.inl (.lstore_n 1), .inl (.lload_n 3), .inl (.aload_n 0), .inr (15, 3, 1), .inl (.iload 5)] 44 _ _ (by decide +kernel) rfl ?_
    refine aw_lald (j := i) (by decide +kernel) rfl (by omega) (by omega) (fun r52 => ?_)
    refine aw_blk (pc' := 58) (ls' := [some (vr 3 0), some (vl (gc (g i) (dv g i))), none, some (vl ((sumZ g i) + (g i))), none, some (vi ((i : Int) + 1)), none, none]) (st' := []) [.inl (.ladd), .inl (.lstore_n 3), .inl (.iinc 5 1)] 53 _ _ (by decide +kernel) rfl ?_
    refine aw_goto (o := -34) (tgt := 24) (by decide +kernel) (by decide) ?_
    exact aw_eq rfl rfl rfl ih

theorem m_K_made_k (hn : 1 ≤ n ∧ n ≤ 24) (hg : ∀ i, i < n → 1 ≤ g i ∧ I64 (g i)) (hS : sumZ g n ≤ 4611686018427387904) (hb : Int.tdiv (sumZ g n) (dv g n) ≤ 1048576) : ADet G M_K_made [vr 3 0] (Hp b s t (sgK (n : Int) 0 f g) df jo tr di mo dy) (some (vr 9 (dy.length + 2))) (Hp b s t (sgK (n : Int) 0 f g) df jo tr di mo (dy ++ [some (ar 0 n (cp f n)), some (ar 0 n (cp (fun j => Int.tdiv (g j) (dv g n)) n)), some (ob 9 [vr 9 dy.length, vr 9 (dy.length + 1), vi (Int.tdiv (sumZ g n) (dv g n))])])) := by
  refine am_det (by decide +kernel) (Nat.le_of_ble_eq_true rfl) (fun Qr Qt hq => ?_)
  have hnn : ∀ i, i < n → 0 ≤ g i := fun i hi => by have := (hg i hi).1; omega
  have hgj : ∀ i, i < n → J64 (g i) := fun i hi => by have := (hg i hi).1; have := sumZ_le hnn (Nat.le_refl n) hi; constructor <;> omega
  have hdv := dv_in hgj
  have hS0 := sumZ_nn hnn n (Nat.le_refl n)
  refine aw_blk (pc' := 4) (ls' := [some (vr 3 0), none, none, none, none, none, none, none]) (st' := [vi 0]) [.inl (.aload_n 0), .inr (23, 3, 3)] 0 _ _ (by decide +kernel) rfl ?_
  refine aw_if_ne (o := 11) (tgt := 15) (by decide +kernel) (by decide) (by omega) (fun c => absurd (by omega) c) (fun _ => ?_)
  refine aw_blk (pc' := 12) (ls' := [some (vr 3 0), none, none, none, none, none, none, none]) (st' := [vi 1, vi (n : Int)]) [.inl (.aload_n 0), .inr (19, 3, 2), .inl (.iconst 1)] 7 _ _ (by decide +kernel) rfl ?_
  refine aw_icmp_ge (o := 5) (tgt := 17) (by decide +kernel) (by decide) (by omega) (by omega) (fun _ => ?_) (fun c => absurd (by omega) c)
  refine aw_blk (pc' := 24) (ls' := [some (vr 3 0), some (vl 0), none, some (vl 0), none, some (vi 0), none, none]) (st' := []) [.inl (.lconst 0), .inl (.lstore_n 1), .inl (.lconst 0), .inl (.lstore_n 3), .inl (.iconst 0), .inl (.istore 5)] 17 _ _ (by decide +kernel) rfl ?_
  refine up_to (W := fun i : Nat => AW G M_K_made Qr Qt 0 0 24 [some (vr 3 0), some (vl (dv g i)), none, some (vl (sumZ g i)), none, some (vi (i : Int)), none, none] [] (Hp b s t [some (ob 3 [vr 3 1, vr 3 2, vi (n : Int), vi 0]), some (ar 0 24 f), some (ar 1 24 g)] df jo tr di mo dy)) n ?_ (fun i hi ih => ?_) 0 (by omega)
  · have hd1 := hdv n (Nat.le_refl n)
    have hq1 := tdiv_le (D := dv g n) hS0 (Int.le_refl (sumZ g n)) (by omega)
    have hq2 : Int.tdiv (sumZ g n) (dv g n) ≤ sumZ g n := by rw [Int.tdiv_eq_ediv_of_nonneg hS0]; exact Int.ediv_le_self _ hS0
    refine aw_blk (pc' := 30) (ls' := [some (vr 3 0), some (vl (dv g n)), none, some (vl (sumZ g n)), none, some (vi (n : Int)), none, none]) (st' := [vi (n : Int), vi (n : Int)]) [.inl (.iload 5), .inl (.aload_n 0), .inr (19, 3, 2)] 24 _ _ (by decide +kernel) rfl ?_
    refine aw_icmp_ge (o := 31) (tgt := 61) (by decide +kernel) (by decide) (by omega) (by omega) (fun _ => ?_) (fun c => absurd (by omega) c)
    refine aw_blk (pc' := 63) (ls' := [some (vr 3 0), some (vl (dv g n)), none, some (vl (sumZ g n)), none, some (vi (n : Int)), none, none]) (st' := [vl 1, vl (dv g n)]) [.inl (.lload_n 1), .inl (.lconst 1)] 61 _ _ (by decide +kernel) rfl ?_
    refine aw_lcmp (by decide +kernel) (by omega) (by omega) ?_
    refine aw_if_lt (o := 13) (tgt := 77) (by decide +kernel) (by decide) (cmpI_in _ _) (fun c => absurd ((cmpI_lt _ _).mp c) (by omega)) (fun _ => ?_)
    refine aw_blk (pc' := 69) (ls' := [some (vr 3 0), some (vl (dv g n)), none, some (vl (sumZ g n)), none, some (vi (n : Int)), none, none]) (st' := [vl (dv g n), vl (sumZ g n)]) [.inl (.lload_n 3), .inl (.lload_n 1)] 67 _ _ (by decide +kernel) rfl ?_
    refine aw_ldiv (by decide +kernel) (by omega) (by omega) (by omega) ?_
    refine aw_ldc2 (a := 1048576) (ix := 43) (v := 1048576) (by decide +kernel) (by decide +kernel) (by decide) ?_
    refine aw_lcmp (by decide +kernel) (by omega) (by omega) ?_
    refine aw_if_le (o := 5) (tgt := 79) (by decide +kernel) (by decide) (cmpI_in _ _) (fun _ => ?_) (fun c => absurd ((cmpI_le _ _).mpr (by omega)) c)
    refine aw_blk (pc' := 83) (ls' := [some (vr 3 0), some (vl (dv g n)), none, some (vl (sumZ g n)), none, some (vi (n : Int)), none, none]) (st' := [vi (n : Int)]) [.inl (.aload_n 0), .inr (19, 3, 2)] 79 _ _ (by decide +kernel) rfl ?_
    refine aw_newa (t := 0) (N := n) (s := 9) (n := dy.length) (h' := Hp b s t [some (ob 3 [vr 3 1, vr 3 2, vi (n : Int), vi 0]), some (ar 0 24 f), some (ar 1 24 g)] df jo tr di mo (dy ++ [some (ar 0 n (fun _ => 0))])) (by decide +kernel) (by decide) (by decide +kernel) rfl (by omega) rfl okP9 rfl (by decide) (by show _ ≤ 51; omega) dp_1 ?_
    refine aw_blk (pc' := 91) (ls' := [some (vr 3 0), some (vl (dv g n)), none, some (vl (sumZ g n)), none, some (vr 9 dy.length), none, none]) (st' := [vi (n : Int)]) [.inl (.astore 5), .inl (.aload_n 0), .inr (19, 3, 2)] 85 _ _ (by decide +kernel) rfl ?_
    refine aw_newa (t := 0) (N := n) (s := 9) (n := dy.length + 1) (h' := Hp b s t [some (ob 3 [vr 3 1, vr 3 2, vi (n : Int), vi 0]), some (ar 0 24 f), some (ar 1 24 g)] df jo tr di mo (dy ++ [some (ar 0 n (fun _ => 0)), some (ar 0 n (fun _ => 0))])) (by decide +kernel) (by decide) (by decide +kernel) rfl (by omega) (by simp [hln]) okP9 (by simp [off]) (by decide) (by show _ ≤ 51; omega) dp_2 ?_
    refine aw_blk (pc' := 98) (ls' := [some (vr 3 0), some (vl (dv g n)), none, some (vl (sumZ g n)), none, some (vr 9 dy.length), some (vr 9 (dy.length + 1)), some (vi 0)]) (st' := []) [.inl (.astore 6), .inl (.iconst 0), .inl (.istore 7)] 93 _ _ (by decide +kernel) rfl ?_
    rw [show Hp b s t (sgK (n : Int) 0 f g) df jo tr di mo (dy ++ [some (ar 0 n (fun _ => 0)), some (ar 0 n (fun _ => 0))]) = Hp b s t (sgK (n : Int) 0 f g) df jo tr di mo (dy ++ [some (ar 0 n (cp f 0)), some (ar 0 n (cp (fun j => Int.tdiv (g j) (dv g n)) 0))]) by rw [cp_0, cp_0]]
    refine up_to (W := fun i : Nat => AW G M_K_made Qr Qt 2 (0 + n + n) 98 [some (vr 3 0), some (vl (dv g n)), none, some (vl (sumZ g n)), none, some (vr 9 dy.length), some (vr 9 (dy.length + 1)), some (vi (i : Int))] [] (Hp b s t [some (ob 3 [vr 3 1, vr 3 2, vi (n : Int), vi 0]), some (ar 0 24 f), some (ar 1 24 g)] df jo tr di mo (dy ++ [some (ar 0 n (cp f i)), some (ar 0 n (cp (fun j => Int.tdiv (g j) (dv g n)) i))]))) n ?_ (fun i hi ih => ?_) 0 (by omega)
    · refine aw_blk (pc' := 104) (ls' := [some (vr 3 0), some (vl (dv g n)), none, some (vl (sumZ g n)), none, some (vr 9 dy.length), some (vr 9 (dy.length + 1)), some (vi (n : Int))]) (st' := [vi (n : Int), vi (n : Int)]) [.inl (.iload 7), .inl (.aload_n 0), .inr (19, 3, 2)] 98 _ _ (by decide +kernel) rfl ?_
      refine aw_icmp_ge (o := 36) (tgt := 140) (by decide +kernel) (by decide) (by omega) (by omega) (fun _ => ?_) (fun c => absurd (by omega) c)
      refine aw_new (idx := 45) (ci := 9) (N := 3) (s := 9) (n := dy.length + 2) (h' := Hp b s t [some (ob 3 [vr 3 1, vr 3 2, vi (n : Int), vi 0]), some (ar 0 24 f), some (ar 1 24 g)] df jo tr di mo (dy ++ [some (ar 0 n (cp f n)), some (ar 0 n (cp (fun j => Int.tdiv (g j) (dv g n)) n)), some (ob 9 [vn, vn, vi 0])])) (by decide +kernel) (by decide +kernel) rfl (by simp [hln]) okP9 (by simp [off]) (by decide) (by show _ ≤ 51; omega) dp_3 ?_
      refine aw_blk (pc' := 150) (ls' := [some (vr 3 0), some (vl (dv g n)), none, some (vl (sumZ g n)), none, some (vr 9 dy.length), some (vr 9 (dy.length + 1)), some (vi (n : Int))]) (st' := [vl (dv g n), vl (sumZ g n), vr 9 (dy.length + 1), vr 9 dy.length, vr 9 (dy.length + 2), vr 9 (dy.length + 2)]) [.inl (.dup), .inl (.aload 5), .inl (.aload 6), .inl (.lload_n 3), .inl (.lload_n 1)] 143 _ _ (by decide +kernel) rfl ?_
      refine aw_ldiv (by decide +kernel) (by omega) (by omega) (by omega) ?_
      refine aw_blk (pc' := 152) (ls' := [some (vr 3 0), some (vl (dv g n)), none, some (vl (sumZ g n)), none, some (vr 9 dy.length), some (vr 9 (dy.length + 1)), some (vi (n : Int))]) (st' := [vi (Int.tdiv (sumZ g n) (dv g n)), vr 9 (dy.length + 1), vr 9 dy.length, vr 9 (dy.length + 2), vr 9 (dy.length + 2)]) [.inl (.l2i)] 151 _ _ (by decide +kernel) rfl ?_
      refine aw_dI (cs' := 3) (sl' := 0 + n + n + 3) (pc' := 155) (st' := [vr 9 (dy.length + 2)]) (idx := 47) (as := [vr 9 dy.length, vr 9 (dy.length + 1), vi (Int.tdiv (sumZ g n) (dv g n))]) (st := [vr 9 (dy.length + 2)]) (m_L_init (by omega)) (by decide +kernel) (show iOK "ChanceBench$Maker" 47 M_L_init 3 = true by decide +kernel) rfl (Nat.le_of_ble_eq_true rfl) (by decide) (by decide) (by show 0 + n + n + 3 + 0 ≤ 51; omega) rfl rfl rfl rfl ?_
      exact aw_aret (by decide +kernel) rfl (by decide) (by show 0 + n + n + 3 ≤ 51; omega) (hq _ _ rfl rfl)
    · refine aw_blk (pc' := 104) (ls' := [some (vr 3 0), some (vl (dv g n)), none, some (vl (sumZ g n)), none, some (vr 9 dy.length), some (vr 9 (dy.length + 1)), some (vi (i : Int))]) (st' := [vi (n : Int), vi (i : Int)]) [.inl (.iload 7), .inl (.aload_n 0), .inr (19, 3, 2)] 98 _ _ (by decide +kernel) rfl ?_
      refine aw_icmp_ge (o := 36) (tgt := 140) (by decide +kernel) (by decide) (by omega) (by omega) (fun c => absurd c (by omega)) (fun _ => ?_)
      refine aw_blk (pc' := 117) (ls' := [some (vr 3 0), some (vl (dv g n)), none, some (vl (sumZ g n)), none, some (vr 9 dy.length), some (vr 9 (dy.length + 1)), some (vi (i : Int))]) (st' := [vi (i : Int), vr 3 1, vi (i : Int), vr 9 dy.length]) [.inl (.aload 5), .inl (.iload 7), .inl (.aload_n 0), .inr (9, 3, 0), .inl (.iload 7)] 107 _ _ (by decide +kernel) rfl ?_
      refine aw_iald (j := i) (by decide +kernel) rfl (by omega) (by omega) (fun r117 => ?_)
      refine aw_iast (j := i) (h' := Hp b s t [some (ob 3 [vr 3 1, vr 3 2, vi (n : Int), vi 0]), some (ar 0 24 f), some (ar 1 24 g)] df jo tr di mo (dy ++ [some (ar 0 n (va_up (cp f i) i (f i))), some (ar 0 n (cp (fun j => Int.tdiv (g j) (dv g n)) i))])) (by decide +kernel) d2_get0 (by omega) (by omega) (by omega) d2_set0 ?_
      refine aw_blk (pc' := 129) (ls' := [some (vr 3 0), some (vl (dv g n)), none, some (vl (sumZ g n)), none, some (vr 9 dy.length), some (vr 9 (dy.length + 1)), some (vi (i : Int))]) (st' := [vi (i : Int), vr 3 2, vi (i : Int), vr 9 (dy.length + 1)]) [.inl (.aload 6), .inl (.iload 7), .inl (.aload_n 0), .inr (15, 3, 1), .inl (.iload 7)] 119 _ _ (by decide +kernel) rfl ?_
      refine aw_lald (j := i) (by decide +kernel) rfl (by omega) (by omega) (fun r129 => ?_)
      refine aw_blk (pc' := 131) (ls' := [some (vr 3 0), some (vl (dv g n)), none, some (vl (sumZ g n)), none, some (vr 9 dy.length), some (vr 9 (dy.length + 1)), some (vi (i : Int))]) (st' := [vl (dv g n), vl (g i), vi (i : Int), vr 9 (dy.length + 1)]) [.inl (.lload_n 1)] 130 _ _ (by decide +kernel) rfl ?_
      have hg1 := sumZ_le hnn (Nat.le_refl n) hi
      have hq3 := tdiv_le (D := dv g n) (hnn i hi) hg1 (by omega)
      refine aw_ldiv (by decide +kernel) (by omega) (by omega) (by omega) ?_
      refine aw_blk (pc' := 133) (ls' := [some (vr 3 0), some (vl (dv g n)), none, some (vl (sumZ g n)), none, some (vr 9 dy.length), some (vr 9 (dy.length + 1)), some (vi (i : Int))]) (st' := [vi (Int.tdiv (g i) (dv g n)), vi (i : Int), vr 9 (dy.length + 1)]) [.inl (.l2i)] 132 _ _ (by decide +kernel) rfl ?_
      refine aw_iast (j := i) (h' := Hp b s t [some (ob 3 [vr 3 1, vr 3 2, vi (n : Int), vi 0]), some (ar 0 24 f), some (ar 1 24 g)] df jo tr di mo (dy ++ [some (ar 0 n (va_up (cp f i) i (f i))), some (ar 0 n (va_up (cp (fun j => Int.tdiv (g j) (dv g n)) i) i (Int.tdiv (g i) (dv g n))))])) (by decide +kernel) d2_get1 (by omega) (by omega) (by omega) d2_set1 ?_
      refine aw_blk (pc' := 137) (ls' := [some (vr 3 0), some (vl (dv g n)), none, some (vl (sumZ g n)), none, some (vr 9 dy.length), some (vr 9 (dy.length + 1)), some (vi ((i : Int) + 1))]) (st' := []) [.inl (.iinc 7 1)] 134 _ _ (by decide +kernel) rfl ?_
      refine aw_goto (o := -39) (tgt := 98) (by decide +kernel) (by decide) ?_
      exact aw_eq rfl rfl (by rw [← cp_s f i, ← cp_s (fun j => Int.tdiv (g j) (dv g n)) i]) ih
  · refine aw_blk (pc' := 30) (ls' := [some (vr 3 0), some (vl (dv g i)), none, some (vl (sumZ g i)), none, some (vi (i : Int)), none, none]) (st' := [vi (n : Int), vi (i : Int)]) [.inl (.iload 5), .inl (.aload_n 0), .inr (19, 3, 2)] 24 _ _ (by decide +kernel) rfl ?_
    refine aw_icmp_ge (o := 31) (tgt := 61) (by decide +kernel) (by decide) (by omega) (by omega) (fun c => absurd c (by omega)) (fun _ => ?_)
    refine aw_blk (pc' := 39) (ls' := [some (vr 3 0), some (vl (dv g i)), none, some (vl (sumZ g i)), none, some (vi (i : Int)), none, none]) (st' := [vi (i : Int), vr 3 2]) [.inl (.aload_n 0), .inr (15, 3, 1), .inl (.iload 5)] 33 _ _ (by decide +kernel) rfl ?_
    refine aw_lald (j := i) (by decide +kernel) rfl (by omega) (by omega) (fun r39 => ?_)
    refine aw_blk (pc' := 41) (ls' := [some (vr 3 0), some (vl (dv g i)), none, some (vl (sumZ g i)), none, some (vi (i : Int)), none, none]) (st' := [vl (dv g i), vl (g i)]) [.inl (.lload_n 1)] 40 _ _ (by decide +kernel) rfl ?_
    have hd1 := hdv i (by omega)
    have hg1 := hgj i hi
    refine aw_dSN (cs' := 0) (sl' := 0) (pc' := 44) (st' := [vl (gc (g i) (dv g i))]) (idx := 39) (as := [vl (g i), vl (dv g i)]) (st := []) (m_B_commonDivisor hg1 (by omega)) (by decide +kernel) (show snOK "ChanceBench$Maker" 39 M_B_commonDivisor 2 = true by decide +kernel) rfl (Nat.le_of_ble_eq_true rfl) (by decide) (by decide) (by decide) rfl rfl rfl rfl ?_
    refine aw_blk (pc' := 52) (ls' := [some (vr 3 0), some (vl (gc (g i) (dv g i))), none, some (vl (sumZ g i)), none, some (vi (i : Int)), none, none]) (st' := [vi (i : Int), vr 3 2, vl (sumZ g i)]) [.inl (.lstore_n 1), .inl (.lload_n 3), .inl (.aload_n 0), .inr (15, 3, 1), .inl (.iload 5)] 44 _ _ (by decide +kernel) rfl ?_
    refine aw_lald (j := i) (by decide +kernel) rfl (by omega) (by omega) (fun r52 => ?_)
    refine aw_blk (pc' := 58) (ls' := [some (vr 3 0), some (vl (gc (g i) (dv g i))), none, some (vl ((sumZ g i) + (g i))), none, some (vi ((i : Int) + 1)), none, none]) (st' := []) [.inl (.ladd), .inl (.lstore_n 3), .inl (.iinc 5 1)] 53 _ _ (by decide +kernel) rfl ?_
    refine aw_goto (o := -34) (tgt := 24) (by decide +kernel) (by decide) ?_
    exact aw_eq rfl rfl rfl ih

end
end
section
abbrev sgF (n : Int) (D B : Nat → Int) : SG := [some (ob 4 [vr 4 1, vr 4 2, vi n]), some (ar 0 48 D), some (ar 1 48 B)]
def ab (x : Int) : Int := if 0 < x then x else -x
/-- the weight that stands at v -/
def den (f g : Nat → Int) (n : Nat) (v : Int) : Int := sumZ (fun i => if f i = v then g i else 0) n
def arF (D B : Nat → Int) : Nat → Int
  | 0 => 0
  | k + 1 => arF D B k + ab (sumZ B (k + 1)) * (D (k + 1) - D k)
def ovF (D B : Nat → Int) : Nat → Int
  | 0 => 0
  | k + 1 => ovF D B k + sumZ B (k + 1) * (D (k + 1) - D k)
def lna (D B : Nat → Int) : Nat → Nat → Int
  | 0, _ => 5000
  | d + 1, k => if 0 < sumZ B (k + 1) then D k + 1 else lna D B d (k + 1)
def lms (D B : Nat → Int) : Nat → Nat → Int
  | 0, _ => 5000
  | d + 1, k => if 0 < sumZ B (k + 1) ∧ Int.tdiv (-(ovF D B k)) (sumZ B (k + 1)) + 1 ≤ D (k + 1) - D k then D k + (Int.tdiv (-(ovF D B k)) (sumZ B (k + 1)) + 1) else lms D B d (k + 1)
section
variable {G : GT} {h : HT} {b s t mk df jo tr di mo dy : SG} {a c d : Int} {n p k k1 k2 j j1 j2 m L : Nat} {f g D B at_ wt at2 wt2 : Nat → Int} {W W2 : Int}
theorem m_F_note_h (hL : 0 < L ∧ L ≤ 48) (ha : I32 a) (he : D (L - 1) = a) (hi : I64 (B (L - 1) + c)) : ADet G M_F_note [vr 4 0, vi a, vl c] (Hp b s t mk (sgF (L : Int) D B) jo tr di mo dy) none (Hp b s t mk (sgF (L : Int) D (va_up B (L - 1) (B (L - 1) + c))) jo tr di mo dy) := by
  refine am_det (by decide +kernel) (Nat.le_of_ble_eq_true rfl) (fun Qr Qt hq => ?_)
  refine aw_blk (pc' := 4) (ls' := [some (vr 4 0), some (vi a), some (vl c), none]) (st' := [vi (L : Int)]) [.inl (.aload_n 0), .inr (19, 4, 2)] 0 _ _ (by decide +kernel) rfl ?_
  refine aw_if_le (o := 36) (tgt := 40) (by decide +kernel) (by decide) (by omega) (fun c => absurd c (by omega)) (fun _ => ?_)
  refine aw_blk (pc' := 17) (ls' := [some (vr 4 0), some (vi a), some (vl c), none]) (st' := [vi ((L : Int) - 1), vr 4 1]) [.inl (.aload_n 0), .inr (9, 4, 0), .inl (.aload_n 0), .inr (19, 4, 2), .inl (.iconst 1), .inl (.isub)] 7 _ _ (by decide +kernel) rfl ?_
  refine aw_iald (j := L - 1) (by decide +kernel) rfl (by omega) (by omega) (fun r17 => ?_)
  refine aw_blk (pc' := 19) (ls' := [some (vr 4 0), some (vi a), some (vl c), none]) (st' := [vi a, vi (D (L - 1))]) [.inl (.iload_n 1)] 18 _ _ (by decide +kernel) rfl ?_
  refine aw_icmp_ne (o := 21) (tgt := 40) (by decide +kernel) (by decide) (by omega) (by omega) (fun c => absurd (by omega) c) (fun _ => ?_)
  refine aw_blk (pc' := 33) (ls' := [some (vr 4 0), some (vi a), some (vl c), none]) (st' := [vi ((L : Int) - 1), vr 4 2, vi ((L : Int) - 1), vr 4 2]) [.inl (.aload_n 0), .inr (15, 4, 1), .inl (.aload_n 0), .inr (19, 4, 2), .inl (.iconst 1), .inl (.isub), .inl (.dup2)] 22 _ _ (by decide +kernel) rfl ?_
  refine aw_lald (j := L - 1) (by decide +kernel) rfl (by omega) (by omega) (fun r33 => ?_)
  refine aw_blk (pc' := 36) (ls' := [some (vr 4 0), some (vi a), some (vl c), none]) (st' := [vl ((B (L - 1)) + c), vi ((L : Int) - 1), vr 4 2]) [.inl (.lload_n 2), .inl (.ladd)] 34 _ _ (by decide +kernel) rfl ?_
  refine aw_last (j := L - 1) (h' := Hp b s t mk [some (ob 4 [vr 4 1, vr 4 2, vi (L : Int)]), some (ar 0 48 D), some (ar 1 48 (va_up B (L - 1) ((B (L - 1)) + c)))] jo tr di mo dy) (by decide +kernel) rfl (by omega) (by omega) (by omega) rfl ?_
  refine aw_goto (o := 45) (tgt := 82) (by decide +kernel) (by decide) ?_
  exact aw_vret (by decide +kernel) rfl (by decide) (by decide) (hq _ _ rfl rfl)

theorem m_F_note_n (hL : L < 48) (ha : I32 a) (hc : I64 c) (he : 0 < L → D (L - 1) ≠ a) : ADet G M_F_note [vr 4 0, vi a, vl c] (Hp b s t mk (sgF (L : Int) D B) jo tr di mo dy) none (Hp b s t mk (sgF ((L : Int) + 1) (va_up D L a) (va_up B L c)) jo tr di mo dy) := by
  refine am_det (by decide +kernel) (Nat.le_of_ble_eq_true rfl) (fun Qr Qt hq => ?_)
  refine aw_blk (pc' := 4) (ls' := [some (vr 4 0), some (vi a), some (vl c), none]) (st' := [vi (L : Int)]) [.inl (.aload_n 0), .inr (19, 4, 2)] 0 _ _ (by decide +kernel) rfl ?_
  refine aw_if_le (o := 36) (tgt := 40) (by decide +kernel) (by decide) (by omega) (fun c4 => ?_) (fun c4 => ?_)
  · refine aw_blk (pc' := 48) (ls' := [some (vr 4 0), some (vi a), some (vl c), none]) (st' := [vr 4 1, vi (L : Int)]) [.inl (.aload_n 0), .inr (19, 4, 2), .inl (.aload_n 0), .inr (9, 4, 0)] 40 _ _ (by decide +kernel) rfl ?_
    refine aw_alen (by decide +kernel) rfl (fun r48 => ?_)
    refine aw_icmp_ge (o := 33) (tgt := 82) (by decide +kernel) (by decide) (by omega) (by omega) (fun c => absurd c (by omega)) (fun _ => ?_)
    refine aw_blk (pc' := 61) (ls' := [some (vr 4 0), some (vi a), some (vl c), none]) (st' := [vi a, vi (L : Int), vr 4 1]) [.inl (.aload_n 0), .inr (9, 4, 0), .inl (.aload_n 0), .inr (19, 4, 2), .inl (.iload_n 1)] 52 _ _ (by decide +kernel) rfl ?_
    refine aw_iast (j := L) (h' := Hp b s t mk [some (ob 4 [vr 4 1, vr 4 2, vi (L : Int)]), some (ar 0 48 (va_up D L a)), some (ar 1 48 B)] jo tr di mo dy) (by decide +kernel) rfl (by omega) (by omega) (by omega) rfl ?_
    refine aw_blk (pc' := 71) (ls' := [some (vr 4 0), some (vi a), some (vl c), none]) (st' := [vl c, vi (L : Int), vr 4 2]) [.inl (.aload_n 0), .inr (15, 4, 1), .inl (.aload_n 0), .inr (19, 4, 2), .inl (.lload_n 2)] 62 _ _ (by decide +kernel) rfl ?_
    refine aw_last (j := L) (h' := Hp b s t mk [some (ob 4 [vr 4 1, vr 4 2, vi (L : Int)]), some (ar 0 48 (va_up D L a)), some (ar 1 48 (va_up B L c))] jo tr di mo dy) (by decide +kernel) rfl (by omega) (by omega) (by omega) rfl ?_
    refine aw_blk (pc' := 79) (ls' := [some (vr 4 0), some (vi a), some (vl c), none]) (st' := [vi ((L : Int) + 1), vr 4 0]) [.inl (.aload_n 0), .inl (.dup), .inr (19, 4, 2), .inl (.iconst 1), .inl (.iadd)] 72 _ _ (by decide +kernel) rfl ?_
    refine aw_put (idx := 19) (ci := 4) (k := 2) (h' := Hp b s t mk [some (ob 4 [vr 4 1, vr 4 2, vi ((L : Int) + 1)]), some (ar 0 48 (va_up D L a)), some (ar 1 48 (va_up B L c))] jo tr di mo dy) (by decide +kernel) (by decide +kernel) rfl (Nat.le_of_ble_eq_true rfl) (show I32 _ from by omega) rfl ?_
    exact aw_vret (by decide +kernel) rfl (by decide) (by decide) (hq _ _ rfl rfl)
  · refine aw_blk (pc' := 17) (ls' := [some (vr 4 0), some (vi a), some (vl c), none]) (st' := [vi ((L : Int) - 1), vr 4 1]) [.inl (.aload_n 0), .inr (9, 4, 0), .inl (.aload_n 0), .inr (19, 4, 2), .inl (.iconst 1), .inl (.isub)] 7 _ _ (by decide +kernel) rfl ?_
    refine aw_iald (j := L - 1) (by decide +kernel) rfl (by omega) (by omega) (fun r17 => ?_)
    refine aw_blk (pc' := 19) (ls' := [some (vr 4 0), some (vi a), some (vl c), none]) (st' := [vi a, vi (D (L - 1))]) [.inl (.iload_n 1)] 18 _ _ (by decide +kernel) rfl ?_
    refine aw_icmp_ne (o := 21) (tgt := 40) (by decide +kernel) (by decide) (by omega) (by omega) (fun _ => ?_) (fun c => absurd c (by omega))
    refine aw_blk (pc' := 48) (ls' := [some (vr 4 0), some (vi a), some (vl c), none]) (st' := [vr 4 1, vi (L : Int)]) [.inl (.aload_n 0), .inr (19, 4, 2), .inl (.aload_n 0), .inr (9, 4, 0)] 40 _ _ (by decide +kernel) rfl ?_
    refine aw_alen (by decide +kernel) rfl (fun r48 => ?_)
    refine aw_icmp_ge (o := 33) (tgt := 82) (by decide +kernel) (by decide) (by omega) (by omega) (fun c => absurd c (by omega)) (fun _ => ?_)
    refine aw_blk (pc' := 61) (ls' := [some (vr 4 0), some (vi a), some (vl c), none]) (st' := [vi a, vi (L : Int), vr 4 1]) [.inl (.aload_n 0), .inr (9, 4, 0), .inl (.aload_n 0), .inr (19, 4, 2), .inl (.iload_n 1)] 52 _ _ (by decide +kernel) rfl ?_
    refine aw_iast (j := L) (h' := Hp b s t mk [some (ob 4 [vr 4 1, vr 4 2, vi (L : Int)]), some (ar 0 48 (va_up D L a)), some (ar 1 48 B)] jo tr di mo dy) (by decide +kernel) rfl (by omega) (by omega) (by omega) rfl ?_
    refine aw_blk (pc' := 71) (ls' := [some (vr 4 0), some (vi a), some (vl c), none]) (st' := [vl c, vi (L : Int), vr 4 2]) [.inl (.aload_n 0), .inr (15, 4, 1), .inl (.aload_n 0), .inr (19, 4, 2), .inl (.lload_n 2)] 62 _ _ (by decide +kernel) rfl ?_
    refine aw_last (j := L) (h' := Hp b s t mk [some (ob 4 [vr 4 1, vr 4 2, vi (L : Int)]), some (ar 0 48 (va_up D L a)), some (ar 1 48 (va_up B L c))] jo tr di mo dy) (by decide +kernel) rfl (by omega) (by omega) (by omega) rfl ?_
    refine aw_blk (pc' := 79) (ls' := [some (vr 4 0), some (vi a), some (vl c), none]) (st' := [vi ((L : Int) + 1), vr 4 0]) [.inl (.aload_n 0), .inl (.dup), .inr (19, 4, 2), .inl (.iconst 1), .inl (.iadd)] 72 _ _ (by decide +kernel) rfl ?_
    refine aw_put (idx := 19) (ci := 4) (k := 2) (h' := Hp b s t mk [some (ob 4 [vr 4 1, vr 4 2, vi ((L : Int) + 1)]), some (ar 0 48 (va_up D L a)), some (ar 1 48 (va_up B L c))] jo tr di mo dy) (by decide +kernel) (by decide +kernel) rfl (Nat.le_of_ble_eq_true rfl) (show I32 _ from by omega) rfl ?_
    exact aw_vret (by decide +kernel) rfl (by decide) (by decide) (hq _ _ rfl rfl)

theorem m_F_size (hL : L ≤ 48) : ADet G M_F_size [vr 4 0] (Hp b s t mk (sgF (L : Int) D B) jo tr di mo dy) (some (vl (sumZ (fun k => ab (B k)) L))) (Hp b s t mk (sgF (L : Int) D B) jo tr di mo dy) := by
  refine am_det (by decide +kernel) (Nat.le_of_ble_eq_true rfl) (fun Qr Qt hq => ?_)
  refine aw_blk (pc' := 4) (ls' := [some (vr 4 0), some (vl 0), none, some (vi 0)]) (st' := []) [.inl (.lconst 0), .inl (.lstore_n 1), .inl (.iconst 0), .inl (.istore_n 3)] 0 _ _ (by decide +kernel) rfl ?_
  refine up_to (W := fun i : Nat => AW G M_F_size Qr Qt 0 0 4 [some (vr 4 0), some (vl (sumZ (fun k => ab (B k)) i)), none, some (vi (i : Int))] [] (Hp b s t mk [some (ob 4 [vr 4 1, vr 4 2, vi (L : Int)]), some (ar 0 48 D), some (ar 1 48 B)] jo tr di mo dy)) L ?_ (fun i hi ih => ?_) 0 (by omega)
  · refine aw_blk (pc' := 9) (ls' := [some (vr 4 0), some (vl (sumZ (fun k => ab (B k)) L)), none, some (vi (L : Int))]) (st' := [vi (L : Int), vi (L : Int)]) [.inl (.iload_n 3), .inl (.aload_n 0), .inr (19, 4, 2)] 4 _ _ (by decide +kernel) rfl ?_
    refine aw_icmp_ge (o := 21) (tgt := 30) (by decide +kernel) (by decide) (by omega) (by omega) (fun _ => ?_) (fun c => absurd (by omega) c)
    refine aw_blk (pc' := 31) (ls' := [some (vr 4 0), some (vl (sumZ (fun k => ab (B k)) L)), none, some (vi (L : Int))]) (st' := [vl (sumZ (fun k => ab (B k)) L)]) [.inl (.lload_n 1)] 30 _ _ (by decide +kernel) rfl ?_
    exact aw_lret (by decide +kernel) rfl (by decide) (by decide) (hq _ _ rfl rfl)
  · refine aw_blk (pc' := 9) (ls' := [some (vr 4 0), some (vl (sumZ (fun k => ab (B k)) i)), none, some (vi (i : Int))]) (st' := [vi (L : Int), vi (i : Int)]) [.inl (.iload_n 3), .inl (.aload_n 0), .inr (19, 4, 2)] 4 _ _ (by decide +kernel) rfl ?_
    refine aw_icmp_ge (o := 21) (tgt := 30) (by decide +kernel) (by decide) (by omega) (by omega) (fun c => absurd c (by omega)) (fun _ => ?_)
    refine aw_blk (pc' := 18) (ls' := [some (vr 4 0), some (vl (sumZ (fun k => ab (B k)) i)), none, some (vi (i : Int))]) (st' := [vi (i : Int), vr 4 2, vl (sumZ (fun k => ab (B k)) i)]) [.inl (.lload_n 1), .inl (.aload_n 0), .inr (15, 4, 1), .inl (.iload_n 3)] 12 _ _ (by decide +kernel) rfl ?_
    refine aw_lald (j := i) (by decide +kernel) rfl (by omega) (by omega) (fun r18 => ?_)
    refine aw_mabsJ (idx := 36) (by decide +kernel) (by decide +kernel) (Nat.le_of_ble_eq_true rfl) (by decide) (by decide) (by decide) (by omega) ?_
    refine aw_blk (pc' := 27) (ls' := [some (vr 4 0), some (vl ((sumZ (fun k => ab (B k)) i) + (if 0 < (B i) then B i else -(B i)))), none, some (vi ((i : Int) + 1))]) (st' := []) [.inl (.ladd), .inl (.lstore_n 1), .inl (.iinc 3 1)] 22 _ _ (by decide +kernel) rfl ?_
    refine aw_goto (o := -23) (tgt := 4) (by decide +kernel) (by decide) ?_
    exact aw_eq rfl rfl rfl ih

theorem m_F_ofMeans (hL : L ≤ 48) : ADet G M_F_ofMeans [vr 4 0] (Hp b s t mk (sgF (L : Int) D B) jo tr di mo dy) (some (vl (sumZ (fun k => B k * D k) L))) (Hp b s t mk (sgF (L : Int) D B) jo tr di mo dy) := by
  refine am_det (by decide +kernel) (Nat.le_of_ble_eq_true rfl) (fun Qr Qt hq => ?_)
  refine aw_blk (pc' := 4) (ls' := [some (vr 4 0), some (vl 0), none, some (vi 0)]) (st' := []) [.inl (.lconst 0), .inl (.lstore_n 1), .inl (.iconst 0), .inl (.istore_n 3)] 0 _ _ (by decide +kernel) rfl ?_
  refine up_to (W := fun i : Nat => AW G M_F_ofMeans Qr Qt 0 0 4 [some (vr 4 0), some (vl (sumZ (fun k => B k * D k) i)), none, some (vi (i : Int))] [] (Hp b s t mk [some (ob 4 [vr 4 1, vr 4 2, vi (L : Int)]), some (ar 0 48 D), some (ar 1 48 B)] jo tr di mo dy)) L ?_ (fun i hi ih => ?_) 0 (by omega)
  · refine aw_blk (pc' := 9) (ls' := [some (vr 4 0), some (vl (sumZ (fun k => B k * D k) L)), none, some (vi (L : Int))]) (st' := [vi (L : Int), vi (L : Int)]) [.inl (.iload_n 3), .inl (.aload_n 0), .inr (19, 4, 2)] 4 _ _ (by decide +kernel) rfl ?_
    refine aw_icmp_ge (o := 26) (tgt := 35) (by decide +kernel) (by decide) (by omega) (by omega) (fun _ => ?_) (fun c => absurd (by omega) c)
    refine aw_blk (pc' := 36) (ls' := [some (vr 4 0), some (vl (sumZ (fun k => B k * D k) L)), none, some (vi (L : Int))]) (st' := [vl (sumZ (fun k => B k * D k) L)]) [.inl (.lload_n 1)] 35 _ _ (by decide +kernel) rfl ?_
    exact aw_lret (by decide +kernel) rfl (by decide) (by decide) (hq _ _ rfl rfl)
  · refine aw_blk (pc' := 9) (ls' := [some (vr 4 0), some (vl (sumZ (fun k => B k * D k) i)), none, some (vi (i : Int))]) (st' := [vi (L : Int), vi (i : Int)]) [.inl (.iload_n 3), .inl (.aload_n 0), .inr (19, 4, 2)] 4 _ _ (by decide +kernel) rfl ?_
    refine aw_icmp_ge (o := 26) (tgt := 35) (by decide +kernel) (by decide) (by omega) (by omega) (fun c => absurd c (by omega)) (fun _ => ?_)
    refine aw_blk (pc' := 18) (ls' := [some (vr 4 0), some (vl (sumZ (fun k => B k * D k) i)), none, some (vi (i : Int))]) (st' := [vi (i : Int), vr 4 2, vl (sumZ (fun k => B k * D k) i)]) [.inl (.lload_n 1), .inl (.aload_n 0), .inr (15, 4, 1), .inl (.iload_n 3)] 12 _ _ (by decide +kernel) rfl ?_
    refine aw_lald (j := i) (by decide +kernel) rfl (by omega) (by omega) (fun r18 => ?_)
    refine aw_blk (pc' := 24) (ls' := [some (vr 4 0), some (vl (sumZ (fun k => B k * D k) i)), none, some (vi (i : Int))]) (st' := [vi (i : Int), vr 4 1, vl (B i), vl (sumZ (fun k => B k * D k) i)]) [.inl (.aload_n 0), .inr (9, 4, 0), .inl (.iload_n 3)] 19 _ _ (by decide +kernel) rfl ?_
    refine aw_iald (j := i) (by decide +kernel) rfl (by omega) (by omega) (fun r24 => ?_)
    refine aw_i2l (by decide +kernel) (by omega) ?_
    refine aw_blk (pc' := 32) (ls' := [some (vr 4 0), some (vl ((sumZ (fun k => B k * D k) i) + ((B i) * (D i)))), none, some (vi ((i : Int) + 1))]) (st' := []) [.inl (.lmul), .inl (.ladd), .inl (.lstore_n 1), .inl (.iinc 3 1)] 26 _ _ (by decide +kernel) rfl ?_
    refine aw_goto (o := -28) (tgt := 4) (by decide +kernel) (by decide) ?_
    exact aw_eq rfl rfl rfl ih

theorem m_F_area (hL : 1 ≤ L ∧ L ≤ 48) (hR : ∀ k, k ≤ L → I64 (sumZ B k)) (hD : ∀ k, k < L → -1000 ≤ D k ∧ D k ≤ 1000) : ADet G M_F_area [vr 4 0] (Hp b s t mk (sgF (L : Int) D B) jo tr di mo dy) (some (vl (arF D B (L - 1)))) (Hp b s t mk (sgF (L : Int) D B) jo tr di mo dy) := by
  refine am_det (by decide +kernel) (Nat.le_of_ble_eq_true rfl) (fun Qr Qt hq => ?_)
  refine aw_blk (pc' := 7) (ls' := [some (vr 4 0), some (vl 0), none, some (vl 0), none, some (vi 0)]) (st' := []) [.inl (.lconst 0), .inl (.lstore_n 1), .inl (.lconst 0), .inl (.lstore_n 3), .inl (.iconst 0), .inl (.istore 5)] 0 _ _ (by decide +kernel) rfl ?_
  refine up_to (W := fun i : Nat => AW G M_F_area Qr Qt 0 0 7 [some (vr 4 0), some (vl (arF D B i)), none, some (vl (sumZ B i)), none, some (vi (i : Int))] [] (Hp b s t mk [some (ob 4 [vr 4 1, vr 4 2, vi (L : Int)]), some (ar 0 48 D), some (ar 1 48 B)] jo tr di mo dy)) (L - 1) ?_ (fun i hi ih => ?_) 0 (by omega)
  · refine aw_blk (pc' := 15) (ls' := [some (vr 4 0), some (vl (arF D B (L - 1))), none, some (vl (sumZ B (L - 1))), none, some (vi ((L - 1 : Nat) : Int))]) (st' := [vi (L : Int), vi (((L - 1 : Nat) : Int) + 1)]) [.inl (.iload 5), .inl (.iconst 1), .inl (.iadd), .inl (.aload_n 0), .inr (19, 4, 2)] 7 _ _ (by decide +kernel) rfl ?_
    refine aw_icmp_ge (o := 45) (tgt := 60) (by decide +kernel) (by decide) (by omega) (by omega) (fun _ => ?_) (fun c => absurd (by omega) c)
    refine aw_blk (pc' := 61) (ls' := [some (vr 4 0), some (vl (arF D B (L - 1))), none, some (vl (sumZ B (L - 1))), none, some (vi ((L - 1 : Nat) : Int))]) (st' := [vl (arF D B (L - 1))]) [.inl (.lload_n 1)] 60 _ _ (by decide +kernel) rfl ?_
    exact aw_lret (by decide +kernel) rfl (by decide) (by decide) (hq _ _ rfl rfl)
  · have hR1 := hR (i + 1) (by omega)
    have hD1 := hD i (by omega)
    have hD2 := hD (i + 1) (by omega)
    refine aw_blk (pc' := 15) (ls' := [some (vr 4 0), some (vl (arF D B i)), none, some (vl (sumZ B i)), none, some (vi (i : Int))]) (st' := [vi (L : Int), vi ((i : Int) + 1)]) [.inl (.iload 5), .inl (.iconst 1), .inl (.iadd), .inl (.aload_n 0), .inr (19, 4, 2)] 7 _ _ (by decide +kernel) rfl ?_
    refine aw_icmp_ge (o := 45) (tgt := 60) (by decide +kernel) (by decide) (by omega) (by omega) (fun c => absurd c (by omega)) (fun _ => ?_)
    refine aw_blk (pc' := 25) (ls' := [some (vr 4 0), some (vl (arF D B i)), none, some (vl (sumZ B i)), none, some (vi (i : Int))]) (st' := [vi (i : Int), vr 4 2, vl (sumZ B i)]) [.inl (.lload_n 3), .inl (.aload_n 0), .inr (15, 4, 1), .inl (.iload 5)] 18 _ _ (by decide +kernel) rfl ?_
    refine aw_lald (j := i) (by decide +kernel) rfl (by omega) (by omega) (fun r25 => ?_)
    refine aw_blk (pc' := 30) (ls' := [some (vr 4 0), some (vl (arF D B i)), none, some (vl ((sumZ B i) + (B i))), none, some (vi (i : Int))]) (st' := [vl ((sumZ B i) + (B i)), vl (arF D B i)]) [.inl (.ladd), .inl (.lstore_n 3), .inl (.lload_n 1), .inl (.lload_n 3)] 26 _ _ (by decide +kernel) rfl ?_
    refine aw_mabsJ (idx := 36) (by decide +kernel) (by decide +kernel) (Nat.le_of_ble_eq_true rfl) (by decide) (by decide) (by decide) hR1 ?_
    refine aw_blk (pc' := 41) (ls' := [some (vr 4 0), some (vl (arF D B i)), none, some (vl ((sumZ B i) + (B i))), none, some (vi (i : Int))]) (st' := [vi ((i : Int) + 1), vr 4 1, vl (if 0 < ((sumZ B i) + (B i)) then (sumZ B i) + (B i) else -((sumZ B i) + (B i))), vl (arF D B i)]) [.inl (.aload_n 0), .inr (9, 4, 0), .inl (.iload 5), .inl (.iconst 1), .inl (.iadd)] 33 _ _ (by decide +kernel) rfl ?_
    refine aw_iald (j := i + 1) (by decide +kernel) rfl (by omega) (by omega) (fun r41 => ?_)
    refine aw_blk (pc' := 48) (ls' := [some (vr 4 0), some (vl (arF D B i)), none, some (vl ((sumZ B i) + (B i))), none, some (vi (i : Int))]) (st' := [vi (i : Int), vr 4 1, vi (D (i + 1)), vl (if 0 < ((sumZ B i) + (B i)) then (sumZ B i) + (B i) else -((sumZ B i) + (B i))), vl (arF D B i)]) [.inl (.aload_n 0), .inr (9, 4, 0), .inl (.iload 5)] 42 _ _ (by decide +kernel) rfl ?_
    refine aw_iald (j := i) (by decide +kernel) rfl (by omega) (by omega) (fun r48 => ?_)
    refine aw_blk (pc' := 50) (ls' := [some (vr 4 0), some (vl (arF D B i)), none, some (vl ((sumZ B i) + (B i))), none, some (vi (i : Int))]) (st' := [vi ((D (i + 1)) - (D i)), vl (if 0 < ((sumZ B i) + (B i)) then (sumZ B i) + (B i) else -((sumZ B i) + (B i))), vl (arF D B i)]) [.inl (.isub)] 49 _ _ (by decide +kernel) rfl ?_
    refine aw_i2l (by decide +kernel) (by omega) ?_
    refine aw_blk (pc' := 57) (ls' := [some (vr 4 0), some (vl ((arF D B i) + ((if 0 < ((sumZ B i) + (B i)) then (sumZ B i) + (B i) else -((sumZ B i) + (B i))) * ((D (i + 1)) - (D i))))), none, some (vl ((sumZ B i) + (B i))), none, some (vi ((i : Int) + 1))]) (st' := []) [.inl (.lmul), .inl (.ladd), .inl (.lstore_n 1), .inl (.iinc 5 1)] 51 _ _ (by decide +kernel) rfl ?_
    refine aw_goto (o := -50) (tgt := 7) (by decide +kernel) (by decide) ?_
    exact aw_eq rfl rfl rfl ih

theorem l_F_lna {Qr : Option AV → HT → Prop} {Qt : HT → Prop} (hL : L ≤ 48) (hR : ∀ k, k ≤ L → I64 (sumZ B k)) (hD : ∀ k, k < L → -1000 ≤ D k ∧ D k ≤ 1000) : ∀ (d k : Nat), k + d = L → (∀ x g, x = some (vi (lna D B d k)) → g = Hp b s t mk (sgF (L : Int) D B) jo tr di mo dy → Qr x g) → AW G M_F_leastNotAbove Qr Qt 0 0 4 [some (vr 4 0), some (vl (sumZ B k)), none, some (vi (k : Int))] [] (Hp b s t mk (sgF (L : Int) D B) jo tr di mo dy) := by
  intro d
  induction d with
  | zero =>
    intro k hk hq
    refine aw_blk (pc' := 9) (ls' := [some (vr 4 0), some (vl (sumZ B k)), none, some (vi (k : Int))]) (st' := [vi (L : Int), vi (k : Int)]) [.inl (.iload_n 3), .inl (.aload_n 0), .inr (19, 4, 2)] 4 _ _ (by decide +kernel) rfl ?_
    refine aw_icmp_ge (o := 33) (tgt := 42) (by decide +kernel) (by decide) (by omega) (by omega) (fun _ => ?_) (fun c => absurd (by omega) c)
    refine aw_blk (pc' := 45) (ls' := [some (vr 4 0), some (vl (sumZ B k)), none, some (vi (k : Int))]) (st' := [vi 5000]) [.inl (.sipush 5000)] 42 _ _ (by decide +kernel) rfl ?_
    exact aw_iret (by decide +kernel) rfl (by decide) (by decide) (hq _ _ rfl rfl)
  | succ d ih =>
    intro k hk hq
    have hR1 := hR (k + 1) (by omega)
    simp only [sumZ] at hR1
    have hD1 := hD k (by omega)
    refine aw_blk (pc' := 9) (ls' := [some (vr 4 0), some (vl (sumZ B k)), none, some (vi (k : Int))]) (st' := [vi (L : Int), vi (k : Int)]) [.inl (.iload_n 3), .inl (.aload_n 0), .inr (19, 4, 2)] 4 _ _ (by decide +kernel) rfl ?_
    refine aw_icmp_ge (o := 33) (tgt := 42) (by decide +kernel) (by decide) (by omega) (by omega) (fun c => absurd c (by omega)) (fun _ => ?_)
    refine aw_blk (pc' := 18) (ls' := [some (vr 4 0), some (vl (sumZ B k)), none, some (vi (k : Int))]) (st' := [vi (k : Int), vr 4 2, vl (sumZ B k)]) [.inl (.lload_n 1), .inl (.aload_n 0), .inr (15, 4, 1), .inl (.iload_n 3)] 12 _ _ (by decide +kernel) rfl ?_
    refine aw_lald (j := k) (by decide +kernel) rfl (by omega) (by omega) (fun r18 => ?_)
    refine aw_blk (pc' := 23) (ls' := [some (vr 4 0), some (vl ((sumZ B k) + (B k))), none, some (vi (k : Int))]) (st' := [vl 0, vl ((sumZ B k) + (B k))]) [.inl (.ladd), .inl (.lstore_n 1), .inl (.lload_n 1), .inl (.lconst 0)] 19 _ _ (by decide +kernel) rfl ?_
    refine aw_lcmp (by decide +kernel) (by omega) (by omega) ?_
    refine aw_if_le (o := 12) (tgt := 36) (by decide +kernel) (by decide) (cmpI_in _ _) (fun c23 => ?_) (fun c23 => ?_)
    · rw [cmpI_le] at c23
      refine aw_blk (pc' := 39) (ls' := [some (vr 4 0), some (vl ((sumZ B k) + (B k))), none, some (vi ((k : Int) + 1))]) (st' := []) [.inl (.iinc 3 1)] 36 _ _ (by decide +kernel) rfl ?_
      refine aw_goto (o := -35) (tgt := 4) (by decide +kernel) (by decide) ?_
      refine aw_eq rfl rfl rfl (ih (k + 1) (by omega) (fun x g e1 e2 => hq x g ?_ e2))
      rw [e1, lna, if_neg (by simp only [sumZ]; omega)]
    · rw [cmpI_le] at c23
      refine aw_blk (pc' := 32) (ls' := [some (vr 4 0), some (vl ((sumZ B k) + (B k))), none, some (vi (k : Int))]) (st' := [vi (k : Int), vr 4 1]) [.inl (.aload_n 0), .inr (9, 4, 0), .inl (.iload_n 3)] 27 _ _ (by decide +kernel) rfl ?_
      refine aw_iald (j := k) (by decide +kernel) rfl (by omega) (by omega) (fun r32 => ?_)
      refine aw_blk (pc' := 35) (ls' := [some (vr 4 0), some (vl ((sumZ B k) + (B k))), none, some (vi (k : Int))]) (st' := [vi ((D k) + 1)]) [.inl (.iconst 1), .inl (.iadd)] 33 _ _ (by decide +kernel) rfl ?_
      exact aw_iret (by decide +kernel) rfl (by decide) (by decide) (hq _ _ (by rw [lna, if_pos (by simp only [sumZ]; omega)]) rfl)
theorem m_F_leastNotAbove (hL : L ≤ 48) (hR : ∀ k, k ≤ L → I64 (sumZ B k)) (hD : ∀ k, k < L → -1000 ≤ D k ∧ D k ≤ 1000) : ADet G M_F_leastNotAbove [vr 4 0] (Hp b s t mk (sgF (L : Int) D B) jo tr di mo dy) (some (vi (lna D B L 0))) (Hp b s t mk (sgF (L : Int) D B) jo tr di mo dy) := by
  refine am_det (by decide +kernel) (Nat.le_of_ble_eq_true rfl) (fun Qr Qt hq => ?_)
  refine aw_blk (pc' := 4) (ls' := [some (vr 4 0), some (vl 0), none, some (vi 0)]) (st' := []) [.inl (.lconst 0), .inl (.lstore_n 1), .inl (.iconst 0), .inl (.istore_n 3)] 0 _ _ (by decide +kernel) rfl ?_
  exact l_F_lna hL hR hD L 0 (by omega) hq

theorem lsN9 {a0 a1 a3 a5 : AV} {x6 x7 : Option AV} : ∀ (k : Nat) (v : AV), ([some a0, some a1, none, some a3, none, some a5, none, none, none] : LSt)[k]? = some (some v) → ([some a0, some a1, none, some a3, none, some a5, x6, x7, none] : LSt)[k]? = some (some v) := by
  intro k v h
  match k, h with
  | 0, h => exact h
  | 1, h => exact h
  | 2, h => exact h
  | 3, h => exact h
  | 4, h => exact h
  | 5, h => exact h
  | 6, h => simp at h
  | 7, h => simp at h
  | k + 8, h => exact h
theorem tdiv_in {x y : Int} (hx : -4611686018427387904 ≤ x ∧ x ≤ 4611686018427387904) (hy : 0 < y) : -4611686018427387904 ≤ Int.tdiv (-x) y ∧ Int.tdiv (-x) y ≤ 4611686018427387904 := by
  have h1 := Int.natAbs_tdiv (-x) y
  have h2 : (-x).natAbs / y.natAbs ≤ (-x).natAbs := Nat.div_le_self _ _
  have h3 : (Int.tdiv (-x) y).natAbs ≤ (-x).natAbs := by rw [h1]; exact h2
  omega
theorem l_F_lms {Qr : Option AV → HT → Prop} {Qt : HT → Prop} (hL : 1 ≤ L ∧ L ≤ 48) (hR : ∀ k, k ≤ L → -4611686018427387904 ≤ sumZ B k ∧ sumZ B k ≤ 4611686018427387904) (hO : ∀ k, k < L → -4611686018427387904 ≤ ovF D B k ∧ ovF D B k ≤ 4611686018427387904) (hD : ∀ k, k < L → -1000 ≤ D k ∧ D k ≤ 1000) : ∀ (d k : Nat) (x6 x7 : Option AV), k + 1 + d = L → (∀ x g, x = some (vi (lms D B d k)) → g = Hp b s t mk (sgF (L : Int) D B) jo tr di mo dy → Qr x g) → AW G M_F_leastMoreSpread Qr Qt 0 0 7 [some (vr 4 0), some (vl (sumZ B k)), none, some (vl (ovF D B k)), none, some (vi (k : Int)), x6, x7, none] [] (Hp b s t mk (sgF (L : Int) D B) jo tr di mo dy) := by
  intro d
  induction d with
  | zero =>
    intro k x6 x7 hk hq
    refine aw_ls (ls' := [some (vr 4 0), some (vl (sumZ B k)), none, some (vl (ovF D B k)), none, some (vi (k : Int)), none, none, none]) lsN9 ?_
    refine aw_blk (pc' := 15) (ls' := [some (vr 4 0), some (vl (sumZ B k)), none, some (vl (ovF D B k)), none, some (vi (k : Int)), none, none, none]) (st' := [vi (L : Int), vi ((k : Int) + 1)]) [.inl (.iload 5), .inl (.iconst 1), .inl (.iadd), .inl (.aload_n 0), .inr (19, 4, 2)] 7 _ _ (by decide +kernel) rfl ?_
    refine aw_icmp_ge (o := 81) (tgt := 96) (by decide +kernel) (by decide) (by omega) (by omega) (fun _ => ?_) (fun c => absurd (by omega) c)
    refine aw_blk (pc' := 99) (ls' := [some (vr 4 0), some (vl (sumZ B k)), none, some (vl (ovF D B k)), none, some (vi (k : Int)), none, none, none]) (st' := [vi 5000]) [.inl (.sipush 5000)] 96 _ _ (by decide +kernel) rfl ?_
    exact aw_iret (by decide +kernel) rfl (by decide) (by decide) (hq _ _ rfl rfl)
  | succ d ih =>
    intro k x6 x7 hk hq
    refine aw_ls (ls' := [some (vr 4 0), some (vl (sumZ B k)), none, some (vl (ovF D B k)), none, some (vi (k : Int)), none, none, none]) lsN9 ?_
    have hR1 := hR (k + 1) (by omega)
    have e1 : sumZ B (k + 1) = sumZ B k + B k := rfl
    have hO1 := hO k (by omega)
    have hD1 := hD k (by omega)
    have hD2 := hD (k + 1) (by omega)
    refine aw_blk (pc' := 15) (ls' := [some (vr 4 0), some (vl (sumZ B k)), none, some (vl (ovF D B k)), none, some (vi (k : Int)), none, none, none]) (st' := [vi (L : Int), vi ((k : Int) + 1)]) [.inl (.iload 5), .inl (.iconst 1), .inl (.iadd), .inl (.aload_n 0), .inr (19, 4, 2)] 7 _ _ (by decide +kernel) rfl ?_
    refine aw_icmp_ge (o := 81) (tgt := 96) (by decide +kernel) (by decide) (by omega) (by omega) (fun c => absurd c (by omega)) (fun _ => ?_)
    refine aw_blk (pc' := 25) (ls' := [some (vr 4 0), some (vl (sumZ B k)), none, some (vl (ovF D B k)), none, some (vi (k : Int)), none, none, none]) (st' := [vi (k : Int), vr 4 2, vl (sumZ B k)]) [.inl (.lload_n 1), .inl (.aload_n 0), .inr (15, 4, 1), .inl (.iload 5)] 18 _ _ (by decide +kernel) rfl ?_
    refine aw_lald (j := k) (by decide +kernel) rfl (by omega) (by omega) (fun r25 => ?_)
    refine aw_blk (pc' := 36) (ls' := [some (vr 4 0), some (vl ((sumZ B k) + (B k))), none, some (vl (ovF D B k)), none, some (vi (k : Int)), none, none, none]) (st' := [vi ((k : Int) + 1), vr 4 1]) [.inl (.ladd), .inl (.lstore_n 1), .inl (.aload_n 0), .inr (9, 4, 0), .inl (.iload 5), .inl (.iconst 1), .inl (.iadd)] 26 _ _ (by decide +kernel) rfl ?_
    refine aw_iald (j := k + 1) (by decide +kernel) rfl (by omega) (by omega) (fun r36 => ?_)
    refine aw_blk (pc' := 43) (ls' := [some (vr 4 0), some (vl ((sumZ B k) + (B k))), none, some (vl (ovF D B k)), none, some (vi (k : Int)), none, none, none]) (st' := [vi (k : Int), vr 4 1, vi (D (k + 1))]) [.inl (.aload_n 0), .inr (9, 4, 0), .inl (.iload 5)] 37 _ _ (by decide +kernel) rfl ?_
    refine aw_iald (j := k) (by decide +kernel) rfl (by omega) (by omega) (fun r43 => ?_)
    refine aw_blk (pc' := 49) (ls' := [some (vr 4 0), some (vl ((sumZ B k) + (B k))), none, some (vl (ovF D B k)), none, some (vi (k : Int)), some (vi ((D (k + 1)) - (D k))), none, none]) (st' := [vl 0, vl ((sumZ B k) + (B k))]) [.inl (.isub), .inl (.istore 6), .inl (.lload_n 1), .inl (.lconst 0)] 44 _ _ (by decide +kernel) rfl ?_
    refine aw_lcmp (by decide +kernel) (by omega) (by omega) ?_
    refine aw_if_le (o := 32) (tgt := 82) (by decide +kernel) (by decide) (cmpI_in _ _) (fun c49 => ?_) (fun c49 => ?_)
    · rw [cmpI_le] at c49
      refine aw_blk (pc' := 86) (ls' := [some (vr 4 0), some (vl ((sumZ B k) + (B k))), none, some (vl (ovF D B k)), none, some (vi (k : Int)), some (vi ((D (k + 1)) - (D k))), none, none]) (st' := [vi ((D (k + 1)) - (D k)), vl ((sumZ B k) + (B k)), vl (ovF D B k)]) [.inl (.lload_n 3), .inl (.lload_n 1), .inl (.iload 6)] 82 _ _ (by decide +kernel) rfl ?_
      refine aw_i2l (by decide +kernel) (by omega) ?_
      refine aw_blk (pc' := 93) (ls' := [some (vr 4 0), some (vl ((sumZ B k) + (B k))), none, some (vl ((ovF D B k) + (((sumZ B k) + (B k)) * ((D (k + 1)) - (D k))))), none, some (vi ((k : Int) + 1)), some (vi ((D (k + 1)) - (D k))), none, none]) (st' := []) [.inl (.lmul), .inl (.ladd), .inl (.lstore_n 3), .inl (.iinc 5 1)] 87 _ _ (by decide +kernel) rfl ?_
      refine aw_goto (o := -86) (tgt := 7) (by decide +kernel) (by decide) ?_
      refine aw_eq rfl rfl rfl (ih (k + 1) _ _ (by omega) (fun x g e2 e3 => hq x g ?_ e3))
      rw [e2, lms, if_neg (by omega)]
    · rw [cmpI_le] at c49
      refine aw_blk (pc' := 56) (ls' := [some (vr 4 0), some (vl ((sumZ B k) + (B k))), none, some (vl (ovF D B k)), none, some (vi (k : Int)), some (vi ((D (k + 1)) - (D k))), none, none]) (st' := [vl ((sumZ B k) + (B k)), vl (-(ovF D B k))]) [.inl (.lload_n 3), .inl (.lneg), .inl (.lload_n 1)] 53 _ _ (by decide +kernel) rfl ?_
      refine aw_ldiv (by decide +kernel) (by omega) (by omega) (by omega) ?_
      refine aw_blk (pc' := 65) (ls' := [some (vr 4 0), some (vl ((sumZ B k) + (B k))), none, some (vl (ovF D B k)), none, some (vi (k : Int)), some (vi ((D (k + 1)) - (D k))), some (vl ((Int.tdiv (-(ovF D B k)) ((sumZ B k) + (B k))) + 1)), none]) (st' := [vi ((D (k + 1)) - (D k)), vl ((Int.tdiv (-(ovF D B k)) ((sumZ B k) + (B k))) + 1)]) [.inl (.lconst 1), .inl (.ladd), .inl (.lstore 7), .inl (.lload 7), .inl (.iload 6)] 57 _ _ (by decide +kernel) rfl ?_
      refine aw_i2l (by decide +kernel) (by omega) ?_
      have hq1 := tdiv_in (x := ovF D B k) (y := sumZ B k + B k) (by omega) (by omega)
      refine aw_lcmp (by decide +kernel) (by omega) (by omega) ?_
      refine aw_if_gt (o := 15) (tgt := 82) (by decide +kernel) (by decide) (cmpI_in _ _) (fun c66 => ?_) (fun c66 => ?_)
      · rw [cmpI_gt] at c66
        refine aw_blk (pc' := 86) (ls' := [some (vr 4 0), some (vl ((sumZ B k) + (B k))), none, some (vl (ovF D B k)), none, some (vi (k : Int)), some (vi ((D (k + 1)) - (D k))), some (vl ((Int.tdiv (-(ovF D B k)) ((sumZ B k) + (B k))) + 1)), none]) (st' := [vi ((D (k + 1)) - (D k)), vl ((sumZ B k) + (B k)), vl (ovF D B k)]) [.inl (.lload_n 3), .inl (.lload_n 1), .inl (.iload 6)] 82 _ _ (by decide +kernel) rfl ?_
        refine aw_i2l (by decide +kernel) (by omega) ?_
        refine aw_blk (pc' := 93) (ls' := [some (vr 4 0), some (vl ((sumZ B k) + (B k))), none, some (vl ((ovF D B k) + (((sumZ B k) + (B k)) * ((D (k + 1)) - (D k))))), none, some (vi ((k : Int) + 1)), some (vi ((D (k + 1)) - (D k))), some (vl ((Int.tdiv (-(ovF D B k)) ((sumZ B k) + (B k))) + 1)), none]) (st' := []) [.inl (.lmul), .inl (.ladd), .inl (.lstore_n 3), .inl (.iinc 5 1)] 87 _ _ (by decide +kernel) rfl ?_
        refine aw_goto (o := -86) (tgt := 7) (by decide +kernel) (by decide) ?_
        refine aw_eq rfl rfl rfl (ih (k + 1) _ _ (by omega) (fun x g e2 e3 => hq x g ?_ e3))
        rw [e2, lms, if_neg (by rw [e1]; omega)]
      · rw [cmpI_gt] at c66
        refine aw_blk (pc' := 76) (ls' := [some (vr 4 0), some (vl ((sumZ B k) + (B k))), none, some (vl (ovF D B k)), none, some (vi (k : Int)), some (vi ((D (k + 1)) - (D k))), some (vl ((Int.tdiv (-(ovF D B k)) ((sumZ B k) + (B k))) + 1)), none]) (st' := [vi (k : Int), vr 4 1]) [.inl (.aload_n 0), .inr (9, 4, 0), .inl (.iload 5)] 70 _ _ (by decide +kernel) rfl ?_
        refine aw_iald (j := k) (by decide +kernel) rfl (by omega) (by omega) (fun r76 => ?_)
        refine aw_blk (pc' := 81) (ls' := [some (vr 4 0), some (vl ((sumZ B k) + (B k))), none, some (vl (ovF D B k)), none, some (vi (k : Int)), some (vi ((D (k + 1)) - (D k))), some (vl ((Int.tdiv (-(ovF D B k)) ((sumZ B k) + (B k))) + 1)), none]) (st' := [vi ((D k) + ((Int.tdiv (-(ovF D B k)) ((sumZ B k) + (B k))) + 1))]) [.inl (.lload 7), .inl (.l2i), .inl (.iadd)] 77 _ _ (by decide +kernel) rfl ?_
        exact aw_iret (by decide +kernel) rfl (by decide) (by decide) (hq _ _ (by rw [lms, if_pos (by rw [e1]; omega)]; rfl) rfl)
theorem m_F_leastMoreSpread (hL : 1 ≤ L ∧ L ≤ 48) (hR : ∀ k, k ≤ L → -4611686018427387904 ≤ sumZ B k ∧ sumZ B k ≤ 4611686018427387904) (hO : ∀ k, k < L → -4611686018427387904 ≤ ovF D B k ∧ ovF D B k ≤ 4611686018427387904) (hD : ∀ k, k < L → -1000 ≤ D k ∧ D k ≤ 1000) : ADet G M_F_leastMoreSpread [vr 4 0] (Hp b s t mk (sgF (L : Int) D B) jo tr di mo dy) (some (vi (lms D B (L - 1) 0))) (Hp b s t mk (sgF (L : Int) D B) jo tr di mo dy) := by
  refine am_det (by decide +kernel) (Nat.le_of_ble_eq_true rfl) (fun Qr Qt hq => ?_)
  refine aw_blk (pc' := 7) (ls' := [some (vr 4 0), some (vl 0), none, some (vl 0), none, some (vi 0), none, none, none]) (st' := []) [.inl (.lconst 0), .inl (.lstore_n 1), .inl (.lconst 0), .inl (.lstore_n 3), .inl (.iconst 0), .inl (.istore 5)] 0 _ _ (by decide +kernel) rfl ?_
  exact l_F_lms hL hR hO hD (L - 1) 0 none none (by omega) hq

end
end
section
/-- a law's object in the dynamic segment; a law's numbers -/
abbrev isD (dy : SG) (k k1 k2 n : Nat) (at_ wt : Nat → Int) (W : Int) : Prop := dyg dy k = some (ob 9 [vr 9 k1, vr 9 k2, vi W]) ∧ dyg dy k1 = some (ar 0 n at_) ∧ dyg dy k2 = some (ar 0 n wt)
def lwN (n : Nat) (at_ wt : Nat → Int) (W : Int) : Prop := (1 ≤ n ∧ n ≤ 24) ∧ inc at_ n ∧ (∀ i, i < n → (-1000 ≤ at_ i ∧ at_ i ≤ 1000) ∧ 1 ≤ wt i ∧ wt i ≤ W) ∧ 1 ≤ W ∧ W ≤ 1048576 ∧ W = sumZ wt n
theorem isD.L {b s t mk df jo tr di mo dy : SG} {k k1 k2 n : Nat} {at_ wt : Nat → Int} {W : Int} (h : isD dy k k1 k2 n at_ wt W) : isL (Hp b s t mk df jo tr di mo dy) k k1 k2 n at_ wt W := h
theorem sumZ_ext {f g : Nat → Int} : ∀ {n : Nat}, (∀ i, i < n → f i = g i) → sumZ f n = sumZ g n
  | 0, _ => rfl
  | n + 1, h => by simp only [sumZ]; rw [sumZ_ext (fun i hi => h i (by omega)), h n (by omega)]
section
variable {D B at_ wt at2 wt2 : Nat → Int} {L n m i j : Nat} {v c u W W2 : Int}
theorem den_n : den (va_up D L v) (va_up B L c) (L + 1) u = den D B L u + (if v = u then c else 0) := by
  unfold den
  simp only [sumZ]
  congr 1
  · refine sumZ_ext (fun i hi => ?_)
    have : i ≠ L := by omega
    simp only [va_up, if_neg this]
  · simp only [va_up, if_true]
theorem den_h (hL : 0 < L) (he : D (L - 1) = v) : den D (va_up B (L - 1) (B (L - 1) + c)) L u = den D B L u + (if v = u then c else 0) := by
  obtain ⟨l, rfl⟩ : ∃ l, L = l + 1 := ⟨L - 1, by omega⟩
  rw [Nat.add_sub_cancel] at he ⊢
  unfold den
  simp only [sumZ]
  rw [show sumZ (fun i => if D i = u then va_up B l (B l + c) i else 0) l = sumZ (fun i => if D i = u then B i else 0) l from sumZ_ext (fun i hi => by
    have : i ≠ l := by omega
    simp only [va_up, if_neg this])]
  simp only [va_up, if_true, he]
  split <;> omega
theorem den_s (f g : Nat → Int) (i : Nat) (u : Int) : den f g (i + 1) u = den f g i u + (if f i = u then g i else 0) := rfl
def tkI (n m : Nat) (at_ wt at2 wt2 : Nat → Int) (W W2 : Int) (i j L : Nat) (D B : Nat → Int) : Prop :=
  L ≤ i + j ∧ inc D L ∧ (∀ k, k < L → -1000 ≤ D k ∧ D k ≤ 1000) ∧ (∀ u, den D B L u = W2 * den at_ wt i u - W * den at2 wt2 j u) ∧ (0 < L → (i < n → D (L - 1) ≤ at_ i) ∧ (j < m → D (L - 1) ≤ at2 j)) ∧ ∀ k, k < L → -(((i + j : Nat) : Int) * 1099511627776) ≤ B k ∧ B k ≤ ((i + j : Nat) : Int) * 1099511627776
theorem inc_up (h : inc D L) (hv : 0 < L → D (L - 1) < v) : inc (va_up D L v) (L + 1) := by
  intro i j hij hj
  simp only [va_up]
  by_cases h1 : j = L
  · subst h1
    rw [if_neg (by omega), if_pos rfl]
    rcases Nat.lt_or_ge i (j - 1) with z | z
    · have := h i (j - 1) z (by omega); have := hv (by omega); omega
    · have e : i = j - 1 := by omega
      subst e; exact hv (by omega)
  · rw [if_neg h1, if_neg (by omega)]
    exact h i j hij (by omega)
theorem up_in {P : Int → Prop} {F : Nat → Int} {k : Nat} {x : Int} (h : ∀ i, i < L → P (F i)) (hx : P x) : ∀ i, i < L + 1 → P (va_up F L x i) := by
  intro i hi
  simp only [va_up]
  split
  · exact hx
  · exact h i (by omega)
theorem up_in2 {P : Int → Prop} {F : Nat → Int} {k : Nat} {x : Int} (h : ∀ i, i < L → P (F i)) (hx : P x) : ∀ i, i < L → P (va_up F k x i) := by
  intro i hi
  simp only [va_up]
  split
  · exact hx
  · exact h i hi
end
section
variable {D B at_ wt at2 wt2 : Nat → Int} {L n m i j : Nat} {W W2 : Int}
theorem mulB {x y : Int} (h1 : 0 ≤ x) (h2 : x ≤ 1048576) (h3 : 0 ≤ y) (h4 : y ≤ 1048576) : 0 ≤ x * y ∧ x * y ≤ 1099511627776 :=
  ⟨Int.mul_nonneg h1 h3, by have := Int.mul_le_mul h2 h4 h3 (by omega); omega⟩
/-- the next value is the first law's -/
theorem tk_1h (A : lwN n at_ wt W) (A2 : lwN m at2 wt2 W2) (I : tkI n m at_ wt at2 wt2 W W2 i j L D B) (hi : i < n) (hj : j < m → at_ i ≤ at2 j) (hL : 0 < L) (he : D (L - 1) = at_ i) : tkI n m at_ wt at2 wt2 W W2 (i + 1) j L D (va_up B (L - 1) (B (L - 1) + wt i * W2)) := by
  obtain ⟨I1, I2, I3, I4, I5, I6⟩ := I
  have hw := (A.2.2.1 i hi).2
  have hm := mulB (x := wt i) (y := W2) (by omega) (by have := A.2.2.2.2.1; omega) (by have := A2.2.2.2.1; omega) A2.2.2.2.2.1
  refine ⟨by omega, I2, I3, fun u => ?_, fun _ => ⟨fun h => ?_, fun h => ?_⟩, ?_⟩
  · rw [den_h hL he, I4, den_s]; split <;> rw [Int.mul_add] <;> (try rw [Int.mul_comm W2 (wt i)]) <;> omega
  · rw [he]; exact Int.le_of_lt (A.2.1 i (i + 1) (by omega) h)
  · rw [he]; exact hj h
  · refine up_in2 (P := fun z => -(((i + 1 + j : Nat) : Int) * 1099511627776) ≤ z ∧ z ≤ ((i + 1 + j : Nat) : Int) * 1099511627776) (fun k hk => ?_) ?_
    · have := I6 k hk; omega
    · have := I6 (L - 1) (by omega); omega
theorem tk_1n (A : lwN n at_ wt W) (A2 : lwN m at2 wt2 W2) (I : tkI n m at_ wt at2 wt2 W W2 i j L D B) (hi : i < n) (hj : j < m → at_ i ≤ at2 j) (he : ¬ (0 < L ∧ D (L - 1) = at_ i)) : tkI n m at_ wt at2 wt2 W W2 (i + 1) j (L + 1) (va_up D L (at_ i)) (va_up B L (wt i * W2)) := by
  obtain ⟨I1, I2, I3, I4, I5, I6⟩ := I
  have hw := (A.2.2.1 i hi)
  have hm := mulB (x := wt i) (y := W2) (by omega) (by have := A.2.2.2.2.1; omega) (by have := A2.2.2.2.1; omega) A2.2.2.2.2.1
  refine ⟨by omega, inc_up I2 (fun h => ?_), up_in (P := fun z => -1000 ≤ z ∧ z ≤ 1000) (k := 0) I3 hw.1, fun u => ?_, fun _ => ⟨fun h => ?_, fun h => ?_⟩, ?_⟩
  · have := (I5 h).1 hi; omega
  · rw [den_n, I4, den_s]; split <;> rw [Int.mul_add] <;> (try rw [Int.mul_comm W2 (wt i)]) <;> omega
  · simp only [Nat.add_sub_cancel, va_up, if_true]; exact Int.le_of_lt (A.2.1 i (i + 1) (by omega) h)
  · simp only [Nat.add_sub_cancel, va_up, if_true]; exact hj h
  · refine up_in (P := fun z => -(((i + 1 + j : Nat) : Int) * 1099511627776) ≤ z ∧ z ≤ ((i + 1 + j : Nat) : Int) * 1099511627776) (k := 0) (fun k hk => ?_) ?_
    · have := I6 k hk; omega
    · omega
theorem tk_2h (A : lwN n at_ wt W) (A2 : lwN m at2 wt2 W2) (I : tkI n m at_ wt at2 wt2 W W2 i j L D B) (hj : j < m) (hi : i < n → at2 j ≤ at_ i) (hL : 0 < L) (he : D (L - 1) = at2 j) : tkI n m at_ wt at2 wt2 W W2 i (j + 1) L D (va_up B (L - 1) (B (L - 1) + -wt2 j * W)) := by
  obtain ⟨I1, I2, I3, I4, I5, I6⟩ := I
  have hw := (A2.2.2.1 j hj).2
  have hm := mulB (x := wt2 j) (y := W) (by omega) (by have := A2.2.2.2.2.1; omega) (by have := A.2.2.2.1; omega) A.2.2.2.2.1
  rw [Int.neg_mul]
  refine ⟨by omega, I2, I3, fun u => ?_, fun _ => ⟨fun h => ?_, fun h => ?_⟩, ?_⟩
  · rw [den_h hL he, I4, den_s]; split <;> rw [Int.mul_add] <;> (try rw [Int.mul_comm W (wt2 j)]) <;> omega
  · rw [he]; exact hi h
  · rw [he]; exact Int.le_of_lt (A2.2.1 j (j + 1) (by omega) h)
  · refine up_in2 (P := fun z => -(((i + (j + 1) : Nat) : Int) * 1099511627776) ≤ z ∧ z ≤ ((i + (j + 1) : Nat) : Int) * 1099511627776) (fun k hk => ?_) ?_
    · have := I6 k hk; omega
    · have := I6 (L - 1) (by omega); omega
theorem tk_2n (A : lwN n at_ wt W) (A2 : lwN m at2 wt2 W2) (I : tkI n m at_ wt at2 wt2 W W2 i j L D B) (hj : j < m) (hi : i < n → at2 j ≤ at_ i) (he : ¬ (0 < L ∧ D (L - 1) = at2 j)) : tkI n m at_ wt at2 wt2 W W2 i (j + 1) (L + 1) (va_up D L (at2 j)) (va_up B L (-wt2 j * W)) := by
  obtain ⟨I1, I2, I3, I4, I5, I6⟩ := I
  have hw := (A2.2.2.1 j hj)
  have hm := mulB (x := wt2 j) (y := W) (by omega) (by have := A2.2.2.2.2.1; omega) (by have := A.2.2.2.1; omega) A.2.2.2.2.1
  rw [Int.neg_mul]
  refine ⟨by omega, inc_up I2 (fun h => ?_), up_in (P := fun z => -1000 ≤ z ∧ z ≤ 1000) (k := 0) I3 hw.1, fun u => ?_, fun _ => ⟨fun h => ?_, fun h => ?_⟩, ?_⟩
  · have := (I5 h).2 hj; omega
  · rw [den_n, I4, den_s]; split <;> rw [Int.mul_add] <;> (try rw [Int.mul_comm W (wt2 j)]) <;> omega
  · simp only [Nat.add_sub_cancel, va_up, if_true]; exact hi h
  · simp only [Nat.add_sub_cancel, va_up, if_true]; exact Int.le_of_lt (A2.2.1 j (j + 1) (by omega) h)
  · refine up_in (P := fun z => -(((i + (j + 1) : Nat) : Int) * 1099511627776) ≤ z ∧ z ≤ ((i + (j + 1) : Nat) : Int) * 1099511627776) (k := 0) (fun k hk => ?_) ?_
    · have := I6 k hk; omega
    · omega
end
section
variable {G : GT} {h : HT} {b s t mk df jo tr di mo dy : SG} {a c d : Int} {n k k1 k2 q q1 q2 m : Nat} {at_ wt at2 wt2 : Nat → Int} {W W2 : Int}
theorem l_F_take {Qr : Option AV → HT → Prop} {Qt : HT → Prop} (hA : isD dy k k1 k2 n at_ wt W) (hA2 : isD dy q q1 q2 m at2 wt2 W2) (A : lwN n at_ wt W) (A2 : lwN m at2 wt2 W2) : ∀ (e i j L : Nat) (D B : Nat → Int) (x5 : Option AV), (n - i) + (m - j) < e → i ≤ n → j ≤ m → tkI n m at_ wt at2 wt2 W W2 i j L D B → (∀ L D B, tkI n m at_ wt at2 wt2 W W2 n m L D B → Qr none (Hp b s t mk (sgF (L : Int) D B) jo tr di mo dy)) → AW G M_F_take Qr Qt 0 0 10 [some (vr 4 0), some (vr 9 k), some (vr 9 q), some (vi (i : Int)), some (vi (j : Int)), x5] [] (Hp b s t mk (sgF (L : Int) D B) jo tr di mo dy) := by
  intro e
  induction e with
  | zero =>
    intro i j L D B x5 he hi hj I hq
    exact absurd he (by omega)
  | succ e ih =>
    intro i j L D B x5 he hi hj I hq
    refine aw_ls (ls' := [some (vr 4 0), some (vr 9 k), some (vr 9 q), some (vi (i : Int)), some (vi (j : Int)), none]) lsN5 ?_
    have hn1 := A.1
    have hn2 := A2.1
    have hW1 := A.2.2.2.1
    have hW2 := A2.2.2.2.1
    have hW3 := A.2.2.2.2.1
    have hW4 := A2.2.2.2.2.1
    have I1 := I.1
    refine aw_blk (pc' := 12) (ls' := [some (vr 4 0), some (vr 9 k), some (vr 9 q), some (vi (i : Int)), some (vi (j : Int)), none]) (st' := [vr 9 k, vi (i : Int)]) [.inl (.iload_n 3), .inl (.aload_n 1)] 10 _ _ (by decide +kernel) rfl ?_
    refine aw_get (idx := 23) (ci := 9) (f := 0) (by decide +kernel) (by decide +kernel) hA.1 rfl ?_
    refine aw_alen (by decide +kernel) hA.2.1 (fun r15 => ?_)
    refine aw_icmp_lt (o := 13) (tgt := 29) (by decide +kernel) (by decide) (by omega) (by omega) (fun c16 => ?_) (fun c16 => ?_)
    · refine aw_blk (pc' := 32) (ls' := [some (vr 4 0), some (vr 9 k), some (vr 9 q), some (vi (i : Int)), some (vi (j : Int)), none]) (st' := [vr 9 q, vi (j : Int)]) [.inl (.iload 4), .inl (.aload_n 2)] 29 _ _ (by decide +kernel) rfl ?_
      refine aw_get (idx := 23) (ci := 9) (f := 0) (by decide +kernel) (by decide +kernel) hA2.1 rfl ?_
      refine aw_alen (by decide +kernel) hA2.2.1 (fun r35 => ?_)
      refine aw_icmp_ge (o := 28) (tgt := 64) (by decide +kernel) (by decide) (by omega) (by omega) (fun c36 => ?_) (fun c36 => ?_)
      · refine aw_blk (pc' := 65) (ls' := [some (vr 4 0), some (vr 9 k), some (vr 9 q), some (vi (i : Int)), some (vi (j : Int)), none]) (st' := [vi 1]) [.inl (.iconst 1)] 64 _ _ (by decide +kernel) rfl ?_
        refine aw_goto (o := 4) (tgt := 69) (by decide +kernel) (by decide) ?_
        refine aw_blk (pc' := 73) (ls' := [some (vr 4 0), some (vr 9 k), some (vr 9 q), some (vi (i : Int)), some (vi (j : Int)), some (vi 1)]) (st' := [vi 1]) [.inl (.istore 5), .inl (.iload 5)] 69 _ _ (by decide +kernel) rfl ?_
        refine aw_if_eq (o := 32) (tgt := 105) (by decide +kernel) (by decide) (by omega) (fun c => absurd c (by omega)) (fun _ => ?_)
        refine aw_blk (pc' := 78) (ls' := [some (vr 4 0), some (vr 9 k), some (vr 9 q), some (vi (i : Int)), some (vi (j : Int)), some (vi 1)]) (st' := [vr 9 k, vr 4 0]) [.inl (.aload_n 0), .inl (.aload_n 1)] 76 _ _ (by decide +kernel) rfl ?_
        refine aw_get (idx := 23) (ci := 9) (f := 0) (by decide +kernel) (by decide +kernel) hA.1 rfl ?_
        refine aw_blk (pc' := 82) (ls' := [some (vr 4 0), some (vr 9 k), some (vr 9 q), some (vi (i : Int)), some (vi (j : Int)), some (vi 1)]) (st' := [vi (i : Int), vr 9 k1, vr 4 0]) [.inl (.iload_n 3)] 81 _ _ (by decide +kernel) rfl ?_
        refine aw_iald (j := i) (by decide +kernel) hA.2.1 (by omega) (by omega) (fun r82 => ?_)
        refine aw_blk (pc' := 84) (ls' := [some (vr 4 0), some (vr 9 k), some (vr 9 q), some (vi (i : Int)), some (vi (j : Int)), some (vi 1)]) (st' := [vr 9 k, vi (at_ i), vr 4 0]) [.inl (.aload_n 1)] 83 _ _ (by decide +kernel) rfl ?_
        refine aw_get (idx := 26) (ci := 9) (f := 1) (by decide +kernel) (by decide +kernel) hA.1 rfl ?_
        refine aw_blk (pc' := 88) (ls' := [some (vr 4 0), some (vr 9 k), some (vr 9 q), some (vi (i : Int)), some (vi (j : Int)), some (vi 1)]) (st' := [vi (i : Int), vr 9 k2, vi (at_ i), vr 4 0]) [.inl (.iload_n 3)] 87 _ _ (by decide +kernel) rfl ?_
        refine aw_iald (j := i) (by decide +kernel) hA.2.2 (by omega) (by omega) (fun r88 => ?_)
        refine aw_i2l (by decide +kernel) (by omega) ?_
        refine aw_blk (pc' := 91) (ls' := [some (vr 4 0), some (vr 9 k), some (vr 9 q), some (vi (i : Int)), some (vi (j : Int)), some (vi 1)]) (st' := [vr 9 q, vl (wt i), vi (at_ i), vr 4 0]) [.inl (.aload_n 2)] 90 _ _ (by decide +kernel) rfl ?_
        refine aw_get (idx := 29) (ci := 9) (f := 2) (by decide +kernel) (by decide +kernel) hA2.1 rfl ?_
        refine aw_i2l (by decide +kernel) (by omega) ?_
        refine aw_blk (pc' := 96) (ls' := [some (vr 4 0), some (vr 9 k), some (vr 9 q), some (vi (i : Int)), some (vi (j : Int)), some (vi 1)]) (st' := [vl ((wt i) * W2), vi (at_ i), vr 4 0]) [.inl (.lmul)] 95 _ _ (by decide +kernel) rfl ?_
        have hw := (A.2.2.1 i (by omega))
        have hm := mulB (x := wt i) (y := W2) (by omega) (by omega) (by omega) (by omega)
        rcases Decidable.em (0 < L ∧ D (L - 1) = at_ i) with c9 | c9
        · have hb := I.2.2.2.2.2 (L - 1) (by omega)
          refine aw_dV (cs' := 0) (sl' := 0) (pc' := 99) (st' := []) (idx := 32) (as := [vi (at_ i), vl ((wt i) * W2)]) (st := []) (m_F_note_h (by omega) (by omega) c9.2 (by omega)) (by decide +kernel) (show vOK "ChanceBench$Difference" 32 M_F_note 2 = true by decide +kernel) rfl rfl rfl (Nat.le_of_ble_eq_true rfl) (by decide) (by decide) (by decide) rfl rfl rfl rfl ?_
          refine aw_blk (pc' := 102) (ls' := [some (vr 4 0), some (vr 9 k), some (vr 9 q), some (vi ((i : Int) + 1)), some (vi (j : Int)), some (vi 1)]) (st' := []) [.inl (.iinc 3 1)] 99 _ _ (by decide +kernel) rfl ?_
          refine aw_goto (o := 32) (tgt := 134) (by decide +kernel) (by decide) ?_
          refine aw_goto (o := -124) (tgt := 10) (by decide +kernel) (by decide) ?_
          exact ih (i + 1) (j) _ _ _ _ (by omega) (by omega) (by omega) (tk_1h A A2 I (by omega) (fun h => by omega) c9.1 c9.2) hq
        · refine aw_dV (cs' := 0) (sl' := 0) (pc' := 99) (st' := []) (idx := 32) (as := [vi (at_ i), vl ((wt i) * W2)]) (st := []) (m_F_note_n (by omega) (by omega) (by omega) (fun h1 h2 => c9 ⟨h1, h2⟩)) (by decide +kernel) (show vOK "ChanceBench$Difference" 32 M_F_note 2 = true by decide +kernel) rfl rfl rfl (Nat.le_of_ble_eq_true rfl) (by decide) (by decide) (by decide) rfl rfl rfl rfl ?_
          refine aw_blk (pc' := 102) (ls' := [some (vr 4 0), some (vr 9 k), some (vr 9 q), some (vi ((i : Int) + 1)), some (vi (j : Int)), some (vi 1)]) (st' := []) [.inl (.iinc 3 1)] 99 _ _ (by decide +kernel) rfl ?_
          refine aw_goto (o := 32) (tgt := 134) (by decide +kernel) (by decide) ?_
          refine aw_goto (o := -124) (tgt := 10) (by decide +kernel) (by decide) ?_
          exact ih (i + 1) (j) (L + 1) _ _ _ (by omega) (by omega) (by omega) (tk_1n A A2 I (by omega) (fun h => by omega) c9) hq
      · refine aw_blk (pc' := 41) (ls' := [some (vr 4 0), some (vr 9 k), some (vr 9 q), some (vi (i : Int)), some (vi (j : Int)), none]) (st' := [vr 9 k, vi (i : Int)]) [.inl (.iload_n 3), .inl (.aload_n 1)] 39 _ _ (by decide +kernel) rfl ?_
        refine aw_get (idx := 23) (ci := 9) (f := 0) (by decide +kernel) (by decide +kernel) hA.1 rfl ?_
        refine aw_alen (by decide +kernel) hA.2.1 (fun r44 => ?_)
        refine aw_icmp_ge (o := 23) (tgt := 68) (by decide +kernel) (by decide) (by omega) (by omega) (fun c45 => ?_) (fun c45 => ?_)
        · refine aw_blk (pc' := 69) (ls' := [some (vr 4 0), some (vr 9 k), some (vr 9 q), some (vi (i : Int)), some (vi (j : Int)), none]) (st' := [vi 0]) [.inl (.iconst 0)] 68 _ _ (by decide +kernel) rfl ?_
          refine aw_blk (pc' := 73) (ls' := [some (vr 4 0), some (vr 9 k), some (vr 9 q), some (vi (i : Int)), some (vi (j : Int)), some (vi 0)]) (st' := [vi 0]) [.inl (.istore 5), .inl (.iload 5)] 69 _ _ (by decide +kernel) rfl ?_
          refine aw_if_eq (o := 32) (tgt := 105) (by decide +kernel) (by decide) (by omega) (fun _ => ?_) (fun c => absurd (by omega) c)
          refine aw_blk (pc' := 107) (ls' := [some (vr 4 0), some (vr 9 k), some (vr 9 q), some (vi (i : Int)), some (vi (j : Int)), some (vi 0)]) (st' := [vr 9 q, vr 4 0]) [.inl (.aload_n 0), .inl (.aload_n 2)] 105 _ _ (by decide +kernel) rfl ?_
          refine aw_get (idx := 23) (ci := 9) (f := 0) (by decide +kernel) (by decide +kernel) hA2.1 rfl ?_
          refine aw_blk (pc' := 112) (ls' := [some (vr 4 0), some (vr 9 k), some (vr 9 q), some (vi (i : Int)), some (vi (j : Int)), some (vi 0)]) (st' := [vi (j : Int), vr 9 q1, vr 4 0]) [.inl (.iload 4)] 110 _ _ (by decide +kernel) rfl ?_
          refine aw_iald (j := j) (by decide +kernel) hA2.2.1 (by omega) (by omega) (fun r112 => ?_)
          refine aw_blk (pc' := 114) (ls' := [some (vr 4 0), some (vr 9 k), some (vr 9 q), some (vi (i : Int)), some (vi (j : Int)), some (vi 0)]) (st' := [vr 9 q, vi (at2 j), vr 4 0]) [.inl (.aload_n 2)] 113 _ _ (by decide +kernel) rfl ?_
          refine aw_get (idx := 26) (ci := 9) (f := 1) (by decide +kernel) (by decide +kernel) hA2.1 rfl ?_
          refine aw_blk (pc' := 119) (ls' := [some (vr 4 0), some (vr 9 k), some (vr 9 q), some (vi (i : Int)), some (vi (j : Int)), some (vi 0)]) (st' := [vi (j : Int), vr 9 q2, vi (at2 j), vr 4 0]) [.inl (.iload 4)] 117 _ _ (by decide +kernel) rfl ?_
          refine aw_iald (j := j) (by decide +kernel) hA2.2.2 (by omega) (by omega) (fun r119 => ?_)
          refine aw_i2l (by decide +kernel) (by omega) ?_
          refine aw_blk (pc' := 123) (ls' := [some (vr 4 0), some (vr 9 k), some (vr 9 q), some (vi (i : Int)), some (vi (j : Int)), some (vi 0)]) (st' := [vr 9 k, vl (-(wt2 j)), vi (at2 j), vr 4 0]) [.inl (.lneg), .inl (.aload_n 1)] 121 _ _ (by decide +kernel) rfl ?_
          refine aw_get (idx := 29) (ci := 9) (f := 2) (by decide +kernel) (by decide +kernel) hA.1 rfl ?_
          refine aw_i2l (by decide +kernel) (by omega) ?_
          refine aw_blk (pc' := 128) (ls' := [some (vr 4 0), some (vr 9 k), some (vr 9 q), some (vi (i : Int)), some (vi (j : Int)), some (vi 0)]) (st' := [vl ((-(wt2 j)) * W), vi (at2 j), vr 4 0]) [.inl (.lmul)] 127 _ _ (by decide +kernel) rfl ?_
          have hw := (A2.2.2.1 j (by omega))
          have hm := mulB (x := wt2 j) (y := W) (by omega) (by omega) (by omega) (by omega)
          have hmn : -wt2 j * W = -(wt2 j * W) := Int.neg_mul _ _
          rcases Decidable.em (0 < L ∧ D (L - 1) = at2 j) with c9 | c9
          · have hb := I.2.2.2.2.2 (L - 1) (by omega)
            refine aw_dV (cs' := 0) (sl' := 0) (pc' := 131) (st' := []) (idx := 32) (as := [vi (at2 j), vl ((-(wt2 j)) * W)]) (st := []) (m_F_note_h (by omega) (by omega) c9.2 (by omega)) (by decide +kernel) (show vOK "ChanceBench$Difference" 32 M_F_note 2 = true by decide +kernel) rfl rfl rfl (Nat.le_of_ble_eq_true rfl) (by decide) (by decide) (by decide) rfl rfl rfl rfl ?_
            refine aw_blk (pc' := 134) (ls' := [some (vr 4 0), some (vr 9 k), some (vr 9 q), some (vi (i : Int)), some (vi ((j : Int) + 1)), some (vi 0)]) (st' := []) [.inl (.iinc 4 1)] 131 _ _ (by decide +kernel) rfl ?_
            refine aw_goto (o := -124) (tgt := 10) (by decide +kernel) (by decide) ?_
            exact ih (i) (j + 1) _ _ _ _ (by omega) (by omega) (by omega) (tk_2h A A2 I (by omega) (fun h => by omega) c9.1 c9.2) hq
          · refine aw_dV (cs' := 0) (sl' := 0) (pc' := 131) (st' := []) (idx := 32) (as := [vi (at2 j), vl ((-(wt2 j)) * W)]) (st := []) (m_F_note_n (by omega) (by omega) (by omega) (fun h1 h2 => c9 ⟨h1, h2⟩)) (by decide +kernel) (show vOK "ChanceBench$Difference" 32 M_F_note 2 = true by decide +kernel) rfl rfl rfl (Nat.le_of_ble_eq_true rfl) (by decide) (by decide) (by decide) rfl rfl rfl rfl ?_
            refine aw_blk (pc' := 134) (ls' := [some (vr 4 0), some (vr 9 k), some (vr 9 q), some (vi (i : Int)), some (vi ((j : Int) + 1)), some (vi 0)]) (st' := []) [.inl (.iinc 4 1)] 131 _ _ (by decide +kernel) rfl ?_
            refine aw_goto (o := -124) (tgt := 10) (by decide +kernel) (by decide) ?_
            exact ih (i) (j + 1) (L + 1) _ _ _ (by omega) (by omega) (by omega) (tk_2n A A2 I (by omega) (fun h => by omega) c9) hq
        · refine aw_blk (pc' := 49) (ls' := [some (vr 4 0), some (vr 9 k), some (vr 9 q), some (vi (i : Int)), some (vi (j : Int)), none]) (st' := [vr 9 k]) [.inl (.aload_n 1)] 48 _ _ (by decide +kernel) rfl ?_
          refine aw_get (idx := 23) (ci := 9) (f := 0) (by decide +kernel) (by decide +kernel) hA.1 rfl ?_
          refine aw_blk (pc' := 53) (ls' := [some (vr 4 0), some (vr 9 k), some (vr 9 q), some (vi (i : Int)), some (vi (j : Int)), none]) (st' := [vi (i : Int), vr 9 k1]) [.inl (.iload_n 3)] 52 _ _ (by decide +kernel) rfl ?_
          refine aw_iald (j := i) (by decide +kernel) hA.2.1 (by omega) (by omega) (fun r53 => ?_)
          refine aw_blk (pc' := 55) (ls' := [some (vr 4 0), some (vr 9 k), some (vr 9 q), some (vi (i : Int)), some (vi (j : Int)), none]) (st' := [vr 9 q, vi (at_ i)]) [.inl (.aload_n 2)] 54 _ _ (by decide +kernel) rfl ?_
          refine aw_get (idx := 23) (ci := 9) (f := 0) (by decide +kernel) (by decide +kernel) hA2.1 rfl ?_
          refine aw_blk (pc' := 60) (ls' := [some (vr 4 0), some (vr 9 k), some (vr 9 q), some (vi (i : Int)), some (vi (j : Int)), none]) (st' := [vi (j : Int), vr 9 q1, vi (at_ i)]) [.inl (.iload 4)] 58 _ _ (by decide +kernel) rfl ?_
          refine aw_iald (j := j) (by decide +kernel) hA2.2.1 (by omega) (by omega) (fun r60 => ?_)
          refine aw_icmp_gt (o := 7) (tgt := 68) (by decide +kernel) (by decide) (by omega) (by omega) (fun c61 => ?_) (fun c61 => ?_)
          · refine aw_blk (pc' := 69) (ls' := [some (vr 4 0), some (vr 9 k), some (vr 9 q), some (vi (i : Int)), some (vi (j : Int)), none]) (st' := [vi 0]) [.inl (.iconst 0)] 68 _ _ (by decide +kernel) rfl ?_
            refine aw_blk (pc' := 73) (ls' := [some (vr 4 0), some (vr 9 k), some (vr 9 q), some (vi (i : Int)), some (vi (j : Int)), some (vi 0)]) (st' := [vi 0]) [.inl (.istore 5), .inl (.iload 5)] 69 _ _ (by decide +kernel) rfl ?_
            refine aw_if_eq (o := 32) (tgt := 105) (by decide +kernel) (by decide) (by omega) (fun _ => ?_) (fun c => absurd (by omega) c)
            refine aw_blk (pc' := 107) (ls' := [some (vr 4 0), some (vr 9 k), some (vr 9 q), some (vi (i : Int)), some (vi (j : Int)), some (vi 0)]) (st' := [vr 9 q, vr 4 0]) [.inl (.aload_n 0), .inl (.aload_n 2)] 105 _ _ (by decide +kernel) rfl ?_
            refine aw_get (idx := 23) (ci := 9) (f := 0) (by decide +kernel) (by decide +kernel) hA2.1 rfl ?_
            refine aw_blk (pc' := 112) (ls' := [some (vr 4 0), some (vr 9 k), some (vr 9 q), some (vi (i : Int)), some (vi (j : Int)), some (vi 0)]) (st' := [vi (j : Int), vr 9 q1, vr 4 0]) [.inl (.iload 4)] 110 _ _ (by decide +kernel) rfl ?_
            refine aw_iald (j := j) (by decide +kernel) hA2.2.1 (by omega) (by omega) (fun r112 => ?_)
            refine aw_blk (pc' := 114) (ls' := [some (vr 4 0), some (vr 9 k), some (vr 9 q), some (vi (i : Int)), some (vi (j : Int)), some (vi 0)]) (st' := [vr 9 q, vi (at2 j), vr 4 0]) [.inl (.aload_n 2)] 113 _ _ (by decide +kernel) rfl ?_
            refine aw_get (idx := 26) (ci := 9) (f := 1) (by decide +kernel) (by decide +kernel) hA2.1 rfl ?_
            refine aw_blk (pc' := 119) (ls' := [some (vr 4 0), some (vr 9 k), some (vr 9 q), some (vi (i : Int)), some (vi (j : Int)), some (vi 0)]) (st' := [vi (j : Int), vr 9 q2, vi (at2 j), vr 4 0]) [.inl (.iload 4)] 117 _ _ (by decide +kernel) rfl ?_
            refine aw_iald (j := j) (by decide +kernel) hA2.2.2 (by omega) (by omega) (fun r119 => ?_)
            refine aw_i2l (by decide +kernel) (by omega) ?_
            refine aw_blk (pc' := 123) (ls' := [some (vr 4 0), some (vr 9 k), some (vr 9 q), some (vi (i : Int)), some (vi (j : Int)), some (vi 0)]) (st' := [vr 9 k, vl (-(wt2 j)), vi (at2 j), vr 4 0]) [.inl (.lneg), .inl (.aload_n 1)] 121 _ _ (by decide +kernel) rfl ?_
            refine aw_get (idx := 29) (ci := 9) (f := 2) (by decide +kernel) (by decide +kernel) hA.1 rfl ?_
            refine aw_i2l (by decide +kernel) (by omega) ?_
            refine aw_blk (pc' := 128) (ls' := [some (vr 4 0), some (vr 9 k), some (vr 9 q), some (vi (i : Int)), some (vi (j : Int)), some (vi 0)]) (st' := [vl ((-(wt2 j)) * W), vi (at2 j), vr 4 0]) [.inl (.lmul)] 127 _ _ (by decide +kernel) rfl ?_
            have hw := (A2.2.2.1 j (by omega))
            have hm := mulB (x := wt2 j) (y := W) (by omega) (by omega) (by omega) (by omega)
            have hmn : -wt2 j * W = -(wt2 j * W) := Int.neg_mul _ _
            rcases Decidable.em (0 < L ∧ D (L - 1) = at2 j) with c9 | c9
            · have hb := I.2.2.2.2.2 (L - 1) (by omega)
              refine aw_dV (cs' := 0) (sl' := 0) (pc' := 131) (st' := []) (idx := 32) (as := [vi (at2 j), vl ((-(wt2 j)) * W)]) (st := []) (m_F_note_h (by omega) (by omega) c9.2 (by omega)) (by decide +kernel) (show vOK "ChanceBench$Difference" 32 M_F_note 2 = true by decide +kernel) rfl rfl rfl (Nat.le_of_ble_eq_true rfl) (by decide) (by decide) (by decide) rfl rfl rfl rfl ?_
              refine aw_blk (pc' := 134) (ls' := [some (vr 4 0), some (vr 9 k), some (vr 9 q), some (vi (i : Int)), some (vi ((j : Int) + 1)), some (vi 0)]) (st' := []) [.inl (.iinc 4 1)] 131 _ _ (by decide +kernel) rfl ?_
              refine aw_goto (o := -124) (tgt := 10) (by decide +kernel) (by decide) ?_
              exact ih (i) (j + 1) _ _ _ _ (by omega) (by omega) (by omega) (tk_2h A A2 I (by omega) (fun h => by omega) c9.1 c9.2) hq
            · refine aw_dV (cs' := 0) (sl' := 0) (pc' := 131) (st' := []) (idx := 32) (as := [vi (at2 j), vl ((-(wt2 j)) * W)]) (st := []) (m_F_note_n (by omega) (by omega) (by omega) (fun h1 h2 => c9 ⟨h1, h2⟩)) (by decide +kernel) (show vOK "ChanceBench$Difference" 32 M_F_note 2 = true by decide +kernel) rfl rfl rfl (Nat.le_of_ble_eq_true rfl) (by decide) (by decide) (by decide) rfl rfl rfl rfl ?_
              refine aw_blk (pc' := 134) (ls' := [some (vr 4 0), some (vr 9 k), some (vr 9 q), some (vi (i : Int)), some (vi ((j : Int) + 1)), some (vi 0)]) (st' := []) [.inl (.iinc 4 1)] 131 _ _ (by decide +kernel) rfl ?_
              refine aw_goto (o := -124) (tgt := 10) (by decide +kernel) (by decide) ?_
              exact ih (i) (j + 1) (L + 1) _ _ _ (by omega) (by omega) (by omega) (tk_2n A A2 I (by omega) (fun h => by omega) c9) hq
          · refine aw_blk (pc' := 65) (ls' := [some (vr 4 0), some (vr 9 k), some (vr 9 q), some (vi (i : Int)), some (vi (j : Int)), none]) (st' := [vi 1]) [.inl (.iconst 1)] 64 _ _ (by decide +kernel) rfl ?_
            refine aw_goto (o := 4) (tgt := 69) (by decide +kernel) (by decide) ?_
            refine aw_blk (pc' := 73) (ls' := [some (vr 4 0), some (vr 9 k), some (vr 9 q), some (vi (i : Int)), some (vi (j : Int)), some (vi 1)]) (st' := [vi 1]) [.inl (.istore 5), .inl (.iload 5)] 69 _ _ (by decide +kernel) rfl ?_
            refine aw_if_eq (o := 32) (tgt := 105) (by decide +kernel) (by decide) (by omega) (fun c => absurd c (by omega)) (fun _ => ?_)
            refine aw_blk (pc' := 78) (ls' := [some (vr 4 0), some (vr 9 k), some (vr 9 q), some (vi (i : Int)), some (vi (j : Int)), some (vi 1)]) (st' := [vr 9 k, vr 4 0]) [.inl (.aload_n 0), .inl (.aload_n 1)] 76 _ _ (by decide +kernel) rfl ?_
            refine aw_get (idx := 23) (ci := 9) (f := 0) (by decide +kernel) (by decide +kernel) hA.1 rfl ?_
            refine aw_blk (pc' := 82) (ls' := [some (vr 4 0), some (vr 9 k), some (vr 9 q), some (vi (i : Int)), some (vi (j : Int)), some (vi 1)]) (st' := [vi (i : Int), vr 9 k1, vr 4 0]) [.inl (.iload_n 3)] 81 _ _ (by decide +kernel) rfl ?_
            refine aw_iald (j := i) (by decide +kernel) hA.2.1 (by omega) (by omega) (fun r82 => ?_)
            refine aw_blk (pc' := 84) (ls' := [some (vr 4 0), some (vr 9 k), some (vr 9 q), some (vi (i : Int)), some (vi (j : Int)), some (vi 1)]) (st' := [vr 9 k, vi (at_ i), vr 4 0]) [.inl (.aload_n 1)] 83 _ _ (by decide +kernel) rfl ?_
            refine aw_get (idx := 26) (ci := 9) (f := 1) (by decide +kernel) (by decide +kernel) hA.1 rfl ?_
            refine aw_blk (pc' := 88) (ls' := [some (vr 4 0), some (vr 9 k), some (vr 9 q), some (vi (i : Int)), some (vi (j : Int)), some (vi 1)]) (st' := [vi (i : Int), vr 9 k2, vi (at_ i), vr 4 0]) [.inl (.iload_n 3)] 87 _ _ (by decide +kernel) rfl ?_
            refine aw_iald (j := i) (by decide +kernel) hA.2.2 (by omega) (by omega) (fun r88 => ?_)
            refine aw_i2l (by decide +kernel) (by omega) ?_
            refine aw_blk (pc' := 91) (ls' := [some (vr 4 0), some (vr 9 k), some (vr 9 q), some (vi (i : Int)), some (vi (j : Int)), some (vi 1)]) (st' := [vr 9 q, vl (wt i), vi (at_ i), vr 4 0]) [.inl (.aload_n 2)] 90 _ _ (by decide +kernel) rfl ?_
            refine aw_get (idx := 29) (ci := 9) (f := 2) (by decide +kernel) (by decide +kernel) hA2.1 rfl ?_
            refine aw_i2l (by decide +kernel) (by omega) ?_
            refine aw_blk (pc' := 96) (ls' := [some (vr 4 0), some (vr 9 k), some (vr 9 q), some (vi (i : Int)), some (vi (j : Int)), some (vi 1)]) (st' := [vl ((wt i) * W2), vi (at_ i), vr 4 0]) [.inl (.lmul)] 95 _ _ (by decide +kernel) rfl ?_
            have hw := (A.2.2.1 i (by omega))
            have hm := mulB (x := wt i) (y := W2) (by omega) (by omega) (by omega) (by omega)
            rcases Decidable.em (0 < L ∧ D (L - 1) = at_ i) with c9 | c9
            · have hb := I.2.2.2.2.2 (L - 1) (by omega)
              refine aw_dV (cs' := 0) (sl' := 0) (pc' := 99) (st' := []) (idx := 32) (as := [vi (at_ i), vl ((wt i) * W2)]) (st := []) (m_F_note_h (by omega) (by omega) c9.2 (by omega)) (by decide +kernel) (show vOK "ChanceBench$Difference" 32 M_F_note 2 = true by decide +kernel) rfl rfl rfl (Nat.le_of_ble_eq_true rfl) (by decide) (by decide) (by decide) rfl rfl rfl rfl ?_
              refine aw_blk (pc' := 102) (ls' := [some (vr 4 0), some (vr 9 k), some (vr 9 q), some (vi ((i : Int) + 1)), some (vi (j : Int)), some (vi 1)]) (st' := []) [.inl (.iinc 3 1)] 99 _ _ (by decide +kernel) rfl ?_
              refine aw_goto (o := 32) (tgt := 134) (by decide +kernel) (by decide) ?_
              refine aw_goto (o := -124) (tgt := 10) (by decide +kernel) (by decide) ?_
              exact ih (i + 1) (j) _ _ _ _ (by omega) (by omega) (by omega) (tk_1h A A2 I (by omega) (fun h => by omega) c9.1 c9.2) hq
            · refine aw_dV (cs' := 0) (sl' := 0) (pc' := 99) (st' := []) (idx := 32) (as := [vi (at_ i), vl ((wt i) * W2)]) (st := []) (m_F_note_n (by omega) (by omega) (by omega) (fun h1 h2 => c9 ⟨h1, h2⟩)) (by decide +kernel) (show vOK "ChanceBench$Difference" 32 M_F_note 2 = true by decide +kernel) rfl rfl rfl (Nat.le_of_ble_eq_true rfl) (by decide) (by decide) (by decide) rfl rfl rfl rfl ?_
              refine aw_blk (pc' := 102) (ls' := [some (vr 4 0), some (vr 9 k), some (vr 9 q), some (vi ((i : Int) + 1)), some (vi (j : Int)), some (vi 1)]) (st' := []) [.inl (.iinc 3 1)] 99 _ _ (by decide +kernel) rfl ?_
              refine aw_goto (o := 32) (tgt := 134) (by decide +kernel) (by decide) ?_
              refine aw_goto (o := -124) (tgt := 10) (by decide +kernel) (by decide) ?_
              exact ih (i + 1) (j) (L + 1) _ _ _ (by omega) (by omega) (by omega) (tk_1n A A2 I (by omega) (fun h => by omega) c9) hq
    · refine aw_blk (pc' := 22) (ls' := [some (vr 4 0), some (vr 9 k), some (vr 9 q), some (vi (i : Int)), some (vi (j : Int)), none]) (st' := [vr 9 q, vi (j : Int)]) [.inl (.iload 4), .inl (.aload_n 2)] 19 _ _ (by decide +kernel) rfl ?_
      refine aw_get (idx := 23) (ci := 9) (f := 0) (by decide +kernel) (by decide +kernel) hA2.1 rfl ?_
      refine aw_alen (by decide +kernel) hA2.2.1 (fun r25 => ?_)
      refine aw_icmp_ge (o := 111) (tgt := 137) (by decide +kernel) (by decide) (by omega) (by omega) (fun c26 => ?_) (fun c26 => ?_)
      · have e1 : i = n := by omega
        have e2 : j = m := by omega
        subst e1 e2
        exact aw_vret (by decide +kernel) rfl (by decide) (by decide) (hq L D B I)
      · refine aw_blk (pc' := 32) (ls' := [some (vr 4 0), some (vr 9 k), some (vr 9 q), some (vi (i : Int)), some (vi (j : Int)), none]) (st' := [vr 9 q, vi (j : Int)]) [.inl (.iload 4), .inl (.aload_n 2)] 29 _ _ (by decide +kernel) rfl ?_
        refine aw_get (idx := 23) (ci := 9) (f := 0) (by decide +kernel) (by decide +kernel) hA2.1 rfl ?_
        refine aw_alen (by decide +kernel) hA2.2.1 (fun r35 => ?_)
        refine aw_icmp_ge (o := 28) (tgt := 64) (by decide +kernel) (by decide) (by omega) (by omega) (fun c36 => ?_) (fun c36 => ?_)
        · refine aw_blk (pc' := 65) (ls' := [some (vr 4 0), some (vr 9 k), some (vr 9 q), some (vi (i : Int)), some (vi (j : Int)), none]) (st' := [vi 1]) [.inl (.iconst 1)] 64 _ _ (by decide +kernel) rfl ?_
          refine aw_goto (o := 4) (tgt := 69) (by decide +kernel) (by decide) ?_
          refine aw_blk (pc' := 73) (ls' := [some (vr 4 0), some (vr 9 k), some (vr 9 q), some (vi (i : Int)), some (vi (j : Int)), some (vi 1)]) (st' := [vi 1]) [.inl (.istore 5), .inl (.iload 5)] 69 _ _ (by decide +kernel) rfl ?_
          refine aw_if_eq (o := 32) (tgt := 105) (by decide +kernel) (by decide) (by omega) (fun c => absurd c (by omega)) (fun _ => ?_)
          refine aw_blk (pc' := 78) (ls' := [some (vr 4 0), some (vr 9 k), some (vr 9 q), some (vi (i : Int)), some (vi (j : Int)), some (vi 1)]) (st' := [vr 9 k, vr 4 0]) [.inl (.aload_n 0), .inl (.aload_n 1)] 76 _ _ (by decide +kernel) rfl ?_
          refine aw_get (idx := 23) (ci := 9) (f := 0) (by decide +kernel) (by decide +kernel) hA.1 rfl ?_
          refine aw_blk (pc' := 82) (ls' := [some (vr 4 0), some (vr 9 k), some (vr 9 q), some (vi (i : Int)), some (vi (j : Int)), some (vi 1)]) (st' := [vi (i : Int), vr 9 k1, vr 4 0]) [.inl (.iload_n 3)] 81 _ _ (by decide +kernel) rfl ?_
          refine aw_iald (j := i) (by decide +kernel) hA.2.1 (by omega) (by omega) (fun r82 => ?_)
          refine aw_blk (pc' := 84) (ls' := [some (vr 4 0), some (vr 9 k), some (vr 9 q), some (vi (i : Int)), some (vi (j : Int)), some (vi 1)]) (st' := [vr 9 k, vi (at_ i), vr 4 0]) [.inl (.aload_n 1)] 83 _ _ (by decide +kernel) rfl ?_
          refine aw_get (idx := 26) (ci := 9) (f := 1) (by decide +kernel) (by decide +kernel) hA.1 rfl ?_
          refine aw_blk (pc' := 88) (ls' := [some (vr 4 0), some (vr 9 k), some (vr 9 q), some (vi (i : Int)), some (vi (j : Int)), some (vi 1)]) (st' := [vi (i : Int), vr 9 k2, vi (at_ i), vr 4 0]) [.inl (.iload_n 3)] 87 _ _ (by decide +kernel) rfl ?_
          refine aw_iald (j := i) (by decide +kernel) hA.2.2 (by omega) (by omega) (fun r88 => ?_)
          refine aw_i2l (by decide +kernel) (by omega) ?_
          refine aw_blk (pc' := 91) (ls' := [some (vr 4 0), some (vr 9 k), some (vr 9 q), some (vi (i : Int)), some (vi (j : Int)), some (vi 1)]) (st' := [vr 9 q, vl (wt i), vi (at_ i), vr 4 0]) [.inl (.aload_n 2)] 90 _ _ (by decide +kernel) rfl ?_
          refine aw_get (idx := 29) (ci := 9) (f := 2) (by decide +kernel) (by decide +kernel) hA2.1 rfl ?_
          refine aw_i2l (by decide +kernel) (by omega) ?_
          refine aw_blk (pc' := 96) (ls' := [some (vr 4 0), some (vr 9 k), some (vr 9 q), some (vi (i : Int)), some (vi (j : Int)), some (vi 1)]) (st' := [vl ((wt i) * W2), vi (at_ i), vr 4 0]) [.inl (.lmul)] 95 _ _ (by decide +kernel) rfl ?_
          have hw := (A.2.2.1 i (by omega))
          have hm := mulB (x := wt i) (y := W2) (by omega) (by omega) (by omega) (by omega)
          rcases Decidable.em (0 < L ∧ D (L - 1) = at_ i) with c9 | c9
          · have hb := I.2.2.2.2.2 (L - 1) (by omega)
            refine aw_dV (cs' := 0) (sl' := 0) (pc' := 99) (st' := []) (idx := 32) (as := [vi (at_ i), vl ((wt i) * W2)]) (st := []) (m_F_note_h (by omega) (by omega) c9.2 (by omega)) (by decide +kernel) (show vOK "ChanceBench$Difference" 32 M_F_note 2 = true by decide +kernel) rfl rfl rfl (Nat.le_of_ble_eq_true rfl) (by decide) (by decide) (by decide) rfl rfl rfl rfl ?_
            refine aw_blk (pc' := 102) (ls' := [some (vr 4 0), some (vr 9 k), some (vr 9 q), some (vi ((i : Int) + 1)), some (vi (j : Int)), some (vi 1)]) (st' := []) [.inl (.iinc 3 1)] 99 _ _ (by decide +kernel) rfl ?_
            refine aw_goto (o := 32) (tgt := 134) (by decide +kernel) (by decide) ?_
            refine aw_goto (o := -124) (tgt := 10) (by decide +kernel) (by decide) ?_
            exact ih (i + 1) (j) _ _ _ _ (by omega) (by omega) (by omega) (tk_1h A A2 I (by omega) (fun h => by omega) c9.1 c9.2) hq
          · refine aw_dV (cs' := 0) (sl' := 0) (pc' := 99) (st' := []) (idx := 32) (as := [vi (at_ i), vl ((wt i) * W2)]) (st := []) (m_F_note_n (by omega) (by omega) (by omega) (fun h1 h2 => c9 ⟨h1, h2⟩)) (by decide +kernel) (show vOK "ChanceBench$Difference" 32 M_F_note 2 = true by decide +kernel) rfl rfl rfl (Nat.le_of_ble_eq_true rfl) (by decide) (by decide) (by decide) rfl rfl rfl rfl ?_
            refine aw_blk (pc' := 102) (ls' := [some (vr 4 0), some (vr 9 k), some (vr 9 q), some (vi ((i : Int) + 1)), some (vi (j : Int)), some (vi 1)]) (st' := []) [.inl (.iinc 3 1)] 99 _ _ (by decide +kernel) rfl ?_
            refine aw_goto (o := 32) (tgt := 134) (by decide +kernel) (by decide) ?_
            refine aw_goto (o := -124) (tgt := 10) (by decide +kernel) (by decide) ?_
            exact ih (i + 1) (j) (L + 1) _ _ _ (by omega) (by omega) (by omega) (tk_1n A A2 I (by omega) (fun h => by omega) c9) hq
        · refine aw_blk (pc' := 41) (ls' := [some (vr 4 0), some (vr 9 k), some (vr 9 q), some (vi (i : Int)), some (vi (j : Int)), none]) (st' := [vr 9 k, vi (i : Int)]) [.inl (.iload_n 3), .inl (.aload_n 1)] 39 _ _ (by decide +kernel) rfl ?_
          refine aw_get (idx := 23) (ci := 9) (f := 0) (by decide +kernel) (by decide +kernel) hA.1 rfl ?_
          refine aw_alen (by decide +kernel) hA.2.1 (fun r44 => ?_)
          refine aw_icmp_ge (o := 23) (tgt := 68) (by decide +kernel) (by decide) (by omega) (by omega) (fun c45 => ?_) (fun c45 => ?_)
          · refine aw_blk (pc' := 69) (ls' := [some (vr 4 0), some (vr 9 k), some (vr 9 q), some (vi (i : Int)), some (vi (j : Int)), none]) (st' := [vi 0]) [.inl (.iconst 0)] 68 _ _ (by decide +kernel) rfl ?_
            refine aw_blk (pc' := 73) (ls' := [some (vr 4 0), some (vr 9 k), some (vr 9 q), some (vi (i : Int)), some (vi (j : Int)), some (vi 0)]) (st' := [vi 0]) [.inl (.istore 5), .inl (.iload 5)] 69 _ _ (by decide +kernel) rfl ?_
            refine aw_if_eq (o := 32) (tgt := 105) (by decide +kernel) (by decide) (by omega) (fun _ => ?_) (fun c => absurd (by omega) c)
            refine aw_blk (pc' := 107) (ls' := [some (vr 4 0), some (vr 9 k), some (vr 9 q), some (vi (i : Int)), some (vi (j : Int)), some (vi 0)]) (st' := [vr 9 q, vr 4 0]) [.inl (.aload_n 0), .inl (.aload_n 2)] 105 _ _ (by decide +kernel) rfl ?_
            refine aw_get (idx := 23) (ci := 9) (f := 0) (by decide +kernel) (by decide +kernel) hA2.1 rfl ?_
            refine aw_blk (pc' := 112) (ls' := [some (vr 4 0), some (vr 9 k), some (vr 9 q), some (vi (i : Int)), some (vi (j : Int)), some (vi 0)]) (st' := [vi (j : Int), vr 9 q1, vr 4 0]) [.inl (.iload 4)] 110 _ _ (by decide +kernel) rfl ?_
            refine aw_iald (j := j) (by decide +kernel) hA2.2.1 (by omega) (by omega) (fun r112 => ?_)
            refine aw_blk (pc' := 114) (ls' := [some (vr 4 0), some (vr 9 k), some (vr 9 q), some (vi (i : Int)), some (vi (j : Int)), some (vi 0)]) (st' := [vr 9 q, vi (at2 j), vr 4 0]) [.inl (.aload_n 2)] 113 _ _ (by decide +kernel) rfl ?_
            refine aw_get (idx := 26) (ci := 9) (f := 1) (by decide +kernel) (by decide +kernel) hA2.1 rfl ?_
            refine aw_blk (pc' := 119) (ls' := [some (vr 4 0), some (vr 9 k), some (vr 9 q), some (vi (i : Int)), some (vi (j : Int)), some (vi 0)]) (st' := [vi (j : Int), vr 9 q2, vi (at2 j), vr 4 0]) [.inl (.iload 4)] 117 _ _ (by decide +kernel) rfl ?_
            refine aw_iald (j := j) (by decide +kernel) hA2.2.2 (by omega) (by omega) (fun r119 => ?_)
            refine aw_i2l (by decide +kernel) (by omega) ?_
            refine aw_blk (pc' := 123) (ls' := [some (vr 4 0), some (vr 9 k), some (vr 9 q), some (vi (i : Int)), some (vi (j : Int)), some (vi 0)]) (st' := [vr 9 k, vl (-(wt2 j)), vi (at2 j), vr 4 0]) [.inl (.lneg), .inl (.aload_n 1)] 121 _ _ (by decide +kernel) rfl ?_
            refine aw_get (idx := 29) (ci := 9) (f := 2) (by decide +kernel) (by decide +kernel) hA.1 rfl ?_
            refine aw_i2l (by decide +kernel) (by omega) ?_
            refine aw_blk (pc' := 128) (ls' := [some (vr 4 0), some (vr 9 k), some (vr 9 q), some (vi (i : Int)), some (vi (j : Int)), some (vi 0)]) (st' := [vl ((-(wt2 j)) * W), vi (at2 j), vr 4 0]) [.inl (.lmul)] 127 _ _ (by decide +kernel) rfl ?_
            have hw := (A2.2.2.1 j (by omega))
            have hm := mulB (x := wt2 j) (y := W) (by omega) (by omega) (by omega) (by omega)
            have hmn : -wt2 j * W = -(wt2 j * W) := Int.neg_mul _ _
            rcases Decidable.em (0 < L ∧ D (L - 1) = at2 j) with c9 | c9
            · have hb := I.2.2.2.2.2 (L - 1) (by omega)
              refine aw_dV (cs' := 0) (sl' := 0) (pc' := 131) (st' := []) (idx := 32) (as := [vi (at2 j), vl ((-(wt2 j)) * W)]) (st := []) (m_F_note_h (by omega) (by omega) c9.2 (by omega)) (by decide +kernel) (show vOK "ChanceBench$Difference" 32 M_F_note 2 = true by decide +kernel) rfl rfl rfl (Nat.le_of_ble_eq_true rfl) (by decide) (by decide) (by decide) rfl rfl rfl rfl ?_
              refine aw_blk (pc' := 134) (ls' := [some (vr 4 0), some (vr 9 k), some (vr 9 q), some (vi (i : Int)), some (vi ((j : Int) + 1)), some (vi 0)]) (st' := []) [.inl (.iinc 4 1)] 131 _ _ (by decide +kernel) rfl ?_
              refine aw_goto (o := -124) (tgt := 10) (by decide +kernel) (by decide) ?_
              exact ih (i) (j + 1) _ _ _ _ (by omega) (by omega) (by omega) (tk_2h A A2 I (by omega) (fun h => by omega) c9.1 c9.2) hq
            · refine aw_dV (cs' := 0) (sl' := 0) (pc' := 131) (st' := []) (idx := 32) (as := [vi (at2 j), vl ((-(wt2 j)) * W)]) (st := []) (m_F_note_n (by omega) (by omega) (by omega) (fun h1 h2 => c9 ⟨h1, h2⟩)) (by decide +kernel) (show vOK "ChanceBench$Difference" 32 M_F_note 2 = true by decide +kernel) rfl rfl rfl (Nat.le_of_ble_eq_true rfl) (by decide) (by decide) (by decide) rfl rfl rfl rfl ?_
              refine aw_blk (pc' := 134) (ls' := [some (vr 4 0), some (vr 9 k), some (vr 9 q), some (vi (i : Int)), some (vi ((j : Int) + 1)), some (vi 0)]) (st' := []) [.inl (.iinc 4 1)] 131 _ _ (by decide +kernel) rfl ?_
              refine aw_goto (o := -124) (tgt := 10) (by decide +kernel) (by decide) ?_
              exact ih (i) (j + 1) (L + 1) _ _ _ (by omega) (by omega) (by omega) (tk_2n A A2 I (by omega) (fun h => by omega) c9) hq
          · refine aw_blk (pc' := 49) (ls' := [some (vr 4 0), some (vr 9 k), some (vr 9 q), some (vi (i : Int)), some (vi (j : Int)), none]) (st' := [vr 9 k]) [.inl (.aload_n 1)] 48 _ _ (by decide +kernel) rfl ?_
            refine aw_get (idx := 23) (ci := 9) (f := 0) (by decide +kernel) (by decide +kernel) hA.1 rfl ?_
            refine aw_blk (pc' := 53) (ls' := [some (vr 4 0), some (vr 9 k), some (vr 9 q), some (vi (i : Int)), some (vi (j : Int)), none]) (st' := [vi (i : Int), vr 9 k1]) [.inl (.iload_n 3)] 52 _ _ (by decide +kernel) rfl ?_
            refine aw_iald (j := i) (by decide +kernel) hA.2.1 (by omega) (by omega) (fun r53 => ?_)
            refine aw_blk (pc' := 55) (ls' := [some (vr 4 0), some (vr 9 k), some (vr 9 q), some (vi (i : Int)), some (vi (j : Int)), none]) (st' := [vr 9 q, vi (at_ i)]) [.inl (.aload_n 2)] 54 _ _ (by decide +kernel) rfl ?_
            refine aw_get (idx := 23) (ci := 9) (f := 0) (by decide +kernel) (by decide +kernel) hA2.1 rfl ?_
            refine aw_blk (pc' := 60) (ls' := [some (vr 4 0), some (vr 9 k), some (vr 9 q), some (vi (i : Int)), some (vi (j : Int)), none]) (st' := [vi (j : Int), vr 9 q1, vi (at_ i)]) [.inl (.iload 4)] 58 _ _ (by decide +kernel) rfl ?_
            refine aw_iald (j := j) (by decide +kernel) hA2.2.1 (by omega) (by omega) (fun r60 => ?_)
            refine aw_icmp_gt (o := 7) (tgt := 68) (by decide +kernel) (by decide) (by omega) (by omega) (fun c61 => ?_) (fun c61 => ?_)
            · refine aw_blk (pc' := 69) (ls' := [some (vr 4 0), some (vr 9 k), some (vr 9 q), some (vi (i : Int)), some (vi (j : Int)), none]) (st' := [vi 0]) [.inl (.iconst 0)] 68 _ _ (by decide +kernel) rfl ?_
              refine aw_blk (pc' := 73) (ls' := [some (vr 4 0), some (vr 9 k), some (vr 9 q), some (vi (i : Int)), some (vi (j : Int)), some (vi 0)]) (st' := [vi 0]) [.inl (.istore 5), .inl (.iload 5)] 69 _ _ (by decide +kernel) rfl ?_
              refine aw_if_eq (o := 32) (tgt := 105) (by decide +kernel) (by decide) (by omega) (fun _ => ?_) (fun c => absurd (by omega) c)
              refine aw_blk (pc' := 107) (ls' := [some (vr 4 0), some (vr 9 k), some (vr 9 q), some (vi (i : Int)), some (vi (j : Int)), some (vi 0)]) (st' := [vr 9 q, vr 4 0]) [.inl (.aload_n 0), .inl (.aload_n 2)] 105 _ _ (by decide +kernel) rfl ?_
              refine aw_get (idx := 23) (ci := 9) (f := 0) (by decide +kernel) (by decide +kernel) hA2.1 rfl ?_
              refine aw_blk (pc' := 112) (ls' := [some (vr 4 0), some (vr 9 k), some (vr 9 q), some (vi (i : Int)), some (vi (j : Int)), some (vi 0)]) (st' := [vi (j : Int), vr 9 q1, vr 4 0]) [.inl (.iload 4)] 110 _ _ (by decide +kernel) rfl ?_
              refine aw_iald (j := j) (by decide +kernel) hA2.2.1 (by omega) (by omega) (fun r112 => ?_)
              refine aw_blk (pc' := 114) (ls' := [some (vr 4 0), some (vr 9 k), some (vr 9 q), some (vi (i : Int)), some (vi (j : Int)), some (vi 0)]) (st' := [vr 9 q, vi (at2 j), vr 4 0]) [.inl (.aload_n 2)] 113 _ _ (by decide +kernel) rfl ?_
              refine aw_get (idx := 26) (ci := 9) (f := 1) (by decide +kernel) (by decide +kernel) hA2.1 rfl ?_
              refine aw_blk (pc' := 119) (ls' := [some (vr 4 0), some (vr 9 k), some (vr 9 q), some (vi (i : Int)), some (vi (j : Int)), some (vi 0)]) (st' := [vi (j : Int), vr 9 q2, vi (at2 j), vr 4 0]) [.inl (.iload 4)] 117 _ _ (by decide +kernel) rfl ?_
              refine aw_iald (j := j) (by decide +kernel) hA2.2.2 (by omega) (by omega) (fun r119 => ?_)
              refine aw_i2l (by decide +kernel) (by omega) ?_
              refine aw_blk (pc' := 123) (ls' := [some (vr 4 0), some (vr 9 k), some (vr 9 q), some (vi (i : Int)), some (vi (j : Int)), some (vi 0)]) (st' := [vr 9 k, vl (-(wt2 j)), vi (at2 j), vr 4 0]) [.inl (.lneg), .inl (.aload_n 1)] 121 _ _ (by decide +kernel) rfl ?_
              refine aw_get (idx := 29) (ci := 9) (f := 2) (by decide +kernel) (by decide +kernel) hA.1 rfl ?_
              refine aw_i2l (by decide +kernel) (by omega) ?_
              refine aw_blk (pc' := 128) (ls' := [some (vr 4 0), some (vr 9 k), some (vr 9 q), some (vi (i : Int)), some (vi (j : Int)), some (vi 0)]) (st' := [vl ((-(wt2 j)) * W), vi (at2 j), vr 4 0]) [.inl (.lmul)] 127 _ _ (by decide +kernel) rfl ?_
              have hw := (A2.2.2.1 j (by omega))
              have hm := mulB (x := wt2 j) (y := W) (by omega) (by omega) (by omega) (by omega)
              have hmn : -wt2 j * W = -(wt2 j * W) := Int.neg_mul _ _
              rcases Decidable.em (0 < L ∧ D (L - 1) = at2 j) with c9 | c9
              · have hb := I.2.2.2.2.2 (L - 1) (by omega)
                refine aw_dV (cs' := 0) (sl' := 0) (pc' := 131) (st' := []) (idx := 32) (as := [vi (at2 j), vl ((-(wt2 j)) * W)]) (st := []) (m_F_note_h (by omega) (by omega) c9.2 (by omega)) (by decide +kernel) (show vOK "ChanceBench$Difference" 32 M_F_note 2 = true by decide +kernel) rfl rfl rfl (Nat.le_of_ble_eq_true rfl) (by decide) (by decide) (by decide) rfl rfl rfl rfl ?_
                refine aw_blk (pc' := 134) (ls' := [some (vr 4 0), some (vr 9 k), some (vr 9 q), some (vi (i : Int)), some (vi ((j : Int) + 1)), some (vi 0)]) (st' := []) [.inl (.iinc 4 1)] 131 _ _ (by decide +kernel) rfl ?_
                refine aw_goto (o := -124) (tgt := 10) (by decide +kernel) (by decide) ?_
                exact ih (i) (j + 1) _ _ _ _ (by omega) (by omega) (by omega) (tk_2h A A2 I (by omega) (fun h => by omega) c9.1 c9.2) hq
              · refine aw_dV (cs' := 0) (sl' := 0) (pc' := 131) (st' := []) (idx := 32) (as := [vi (at2 j), vl ((-(wt2 j)) * W)]) (st := []) (m_F_note_n (by omega) (by omega) (by omega) (fun h1 h2 => c9 ⟨h1, h2⟩)) (by decide +kernel) (show vOK "ChanceBench$Difference" 32 M_F_note 2 = true by decide +kernel) rfl rfl rfl (Nat.le_of_ble_eq_true rfl) (by decide) (by decide) (by decide) rfl rfl rfl rfl ?_
                refine aw_blk (pc' := 134) (ls' := [some (vr 4 0), some (vr 9 k), some (vr 9 q), some (vi (i : Int)), some (vi ((j : Int) + 1)), some (vi 0)]) (st' := []) [.inl (.iinc 4 1)] 131 _ _ (by decide +kernel) rfl ?_
                refine aw_goto (o := -124) (tgt := 10) (by decide +kernel) (by decide) ?_
                exact ih (i) (j + 1) (L + 1) _ _ _ (by omega) (by omega) (by omega) (tk_2n A A2 I (by omega) (fun h => by omega) c9) hq
            · refine aw_blk (pc' := 65) (ls' := [some (vr 4 0), some (vr 9 k), some (vr 9 q), some (vi (i : Int)), some (vi (j : Int)), none]) (st' := [vi 1]) [.inl (.iconst 1)] 64 _ _ (by decide +kernel) rfl ?_
              refine aw_goto (o := 4) (tgt := 69) (by decide +kernel) (by decide) ?_
              refine aw_blk (pc' := 73) (ls' := [some (vr 4 0), some (vr 9 k), some (vr 9 q), some (vi (i : Int)), some (vi (j : Int)), some (vi 1)]) (st' := [vi 1]) [.inl (.istore 5), .inl (.iload 5)] 69 _ _ (by decide +kernel) rfl ?_
              refine aw_if_eq (o := 32) (tgt := 105) (by decide +kernel) (by decide) (by omega) (fun c => absurd c (by omega)) (fun _ => ?_)
              refine aw_blk (pc' := 78) (ls' := [some (vr 4 0), some (vr 9 k), some (vr 9 q), some (vi (i : Int)), some (vi (j : Int)), some (vi 1)]) (st' := [vr 9 k, vr 4 0]) [.inl (.aload_n 0), .inl (.aload_n 1)] 76 _ _ (by decide +kernel) rfl ?_
              refine aw_get (idx := 23) (ci := 9) (f := 0) (by decide +kernel) (by decide +kernel) hA.1 rfl ?_
              refine aw_blk (pc' := 82) (ls' := [some (vr 4 0), some (vr 9 k), some (vr 9 q), some (vi (i : Int)), some (vi (j : Int)), some (vi 1)]) (st' := [vi (i : Int), vr 9 k1, vr 4 0]) [.inl (.iload_n 3)] 81 _ _ (by decide +kernel) rfl ?_
              refine aw_iald (j := i) (by decide +kernel) hA.2.1 (by omega) (by omega) (fun r82 => ?_)
              refine aw_blk (pc' := 84) (ls' := [some (vr 4 0), some (vr 9 k), some (vr 9 q), some (vi (i : Int)), some (vi (j : Int)), some (vi 1)]) (st' := [vr 9 k, vi (at_ i), vr 4 0]) [.inl (.aload_n 1)] 83 _ _ (by decide +kernel) rfl ?_
              refine aw_get (idx := 26) (ci := 9) (f := 1) (by decide +kernel) (by decide +kernel) hA.1 rfl ?_
              refine aw_blk (pc' := 88) (ls' := [some (vr 4 0), some (vr 9 k), some (vr 9 q), some (vi (i : Int)), some (vi (j : Int)), some (vi 1)]) (st' := [vi (i : Int), vr 9 k2, vi (at_ i), vr 4 0]) [.inl (.iload_n 3)] 87 _ _ (by decide +kernel) rfl ?_
              refine aw_iald (j := i) (by decide +kernel) hA.2.2 (by omega) (by omega) (fun r88 => ?_)
              refine aw_i2l (by decide +kernel) (by omega) ?_
              refine aw_blk (pc' := 91) (ls' := [some (vr 4 0), some (vr 9 k), some (vr 9 q), some (vi (i : Int)), some (vi (j : Int)), some (vi 1)]) (st' := [vr 9 q, vl (wt i), vi (at_ i), vr 4 0]) [.inl (.aload_n 2)] 90 _ _ (by decide +kernel) rfl ?_
              refine aw_get (idx := 29) (ci := 9) (f := 2) (by decide +kernel) (by decide +kernel) hA2.1 rfl ?_
              refine aw_i2l (by decide +kernel) (by omega) ?_
              refine aw_blk (pc' := 96) (ls' := [some (vr 4 0), some (vr 9 k), some (vr 9 q), some (vi (i : Int)), some (vi (j : Int)), some (vi 1)]) (st' := [vl ((wt i) * W2), vi (at_ i), vr 4 0]) [.inl (.lmul)] 95 _ _ (by decide +kernel) rfl ?_
              have hw := (A.2.2.1 i (by omega))
              have hm := mulB (x := wt i) (y := W2) (by omega) (by omega) (by omega) (by omega)
              rcases Decidable.em (0 < L ∧ D (L - 1) = at_ i) with c9 | c9
              · have hb := I.2.2.2.2.2 (L - 1) (by omega)
                refine aw_dV (cs' := 0) (sl' := 0) (pc' := 99) (st' := []) (idx := 32) (as := [vi (at_ i), vl ((wt i) * W2)]) (st := []) (m_F_note_h (by omega) (by omega) c9.2 (by omega)) (by decide +kernel) (show vOK "ChanceBench$Difference" 32 M_F_note 2 = true by decide +kernel) rfl rfl rfl (Nat.le_of_ble_eq_true rfl) (by decide) (by decide) (by decide) rfl rfl rfl rfl ?_
                refine aw_blk (pc' := 102) (ls' := [some (vr 4 0), some (vr 9 k), some (vr 9 q), some (vi ((i : Int) + 1)), some (vi (j : Int)), some (vi 1)]) (st' := []) [.inl (.iinc 3 1)] 99 _ _ (by decide +kernel) rfl ?_
                refine aw_goto (o := 32) (tgt := 134) (by decide +kernel) (by decide) ?_
                refine aw_goto (o := -124) (tgt := 10) (by decide +kernel) (by decide) ?_
                exact ih (i + 1) (j) _ _ _ _ (by omega) (by omega) (by omega) (tk_1h A A2 I (by omega) (fun h => by omega) c9.1 c9.2) hq
              · refine aw_dV (cs' := 0) (sl' := 0) (pc' := 99) (st' := []) (idx := 32) (as := [vi (at_ i), vl ((wt i) * W2)]) (st := []) (m_F_note_n (by omega) (by omega) (by omega) (fun h1 h2 => c9 ⟨h1, h2⟩)) (by decide +kernel) (show vOK "ChanceBench$Difference" 32 M_F_note 2 = true by decide +kernel) rfl rfl rfl (Nat.le_of_ble_eq_true rfl) (by decide) (by decide) (by decide) rfl rfl rfl rfl ?_
                refine aw_blk (pc' := 102) (ls' := [some (vr 4 0), some (vr 9 k), some (vr 9 q), some (vi ((i : Int) + 1)), some (vi (j : Int)), some (vi 1)]) (st' := []) [.inl (.iinc 3 1)] 99 _ _ (by decide +kernel) rfl ?_
                refine aw_goto (o := 32) (tgt := 134) (by decide +kernel) (by decide) ?_
                refine aw_goto (o := -124) (tgt := 10) (by decide +kernel) (by decide) ?_
                exact ih (i + 1) (j) (L + 1) _ _ _ (by omega) (by omega) (by omega) (tk_1n A A2 I (by omega) (fun h => by omega) c9) hq
theorem m_F_take {l0 : Int} {D B : Nat → Int} (hA : isD dy k k1 k2 n at_ wt W) (hA2 : isD dy q q1 q2 m at2 wt2 W2) (A : lwN n at_ wt W) (A2 : lwN m at2 wt2 W2) : AMet G M_F_take [vr 4 0, vr 9 k, vr 9 q] (Hp b s t mk (sgF l0 D B) jo tr di mo dy) (fun r h => r = none ∧ ∃ L D B, tkI n m at_ wt at2 wt2 W W2 n m L D B ∧ h = Hp b s t mk (sgF (L : Int) D B) jo tr di mo dy) (fun _ => False) := by
  refine am_entry (by decide +kernel) (Nat.le_of_ble_eq_true rfl) ?_
  refine aw_blk (pc' := 2) (ls' := [some (vr 4 0), some (vr 9 k), some (vr 9 q), none, none, none]) (st' := [vi 0, vr 4 0]) [.inl (.aload_n 0), .inl (.iconst 0)] 0 _ _ (by decide +kernel) rfl ?_
  refine aw_put (idx := 19) (ci := 4) (k := 2) (h' := Hp b s t mk [some (ob 4 [vr 4 1, vr 4 2, vi 0]), some (ar 0 48 D), some (ar 1 48 B)] jo tr di mo dy) (by decide +kernel) (by decide +kernel) rfl (Nat.le_of_ble_eq_true rfl) (show I32 _ from by omega) rfl ?_
  refine aw_blk (pc' := 10) (ls' := [some (vr 4 0), some (vr 9 k), some (vr 9 q), some (vi 0), some (vi 0), none]) (st' := []) [.inl (.iconst 0), .inl (.istore_n 3), .inl (.iconst 0), .inl (.istore 4)] 5 _ _ (by decide +kernel) rfl ?_
  exact l_F_take hA hA2 A A2 (n + m + 1) 0 0 0 D B none (by omega) (by omega) (by omega) ⟨by omega, fun i j h1 h2 => by omega, fun k h => by omega, fun u => by simp [den, sumZ], fun h => by omega, fun k h => by omega⟩ (fun L D B I => ⟨rfl, L, D, B, I, rfl⟩)

end
end
section
abbrev sgR (n W lv op : Int) (r d : Nat → Int) : SG := [some (ob 6 [vr 6 1, vr 6 2, vi n, vi W, vi lv, vi op]), some (ar 0 24 r), some (ar 0 24 d)]
def dg (W x : Int) : Int := if x < W then 0 else 1
def rsd (W x : Int) : Int := x - dg W x * W
def mp (f g : Nat → Int) (i : Nat) : Nat → Int := fun k => if k < i then f k else g k
theorem mp_0 (f g : Nat → Int) : mp f g 0 = g := by funext k; simp [mp]
theorem mp_s (f g : Nat → Int) (i : Nat) : va_up (mp f g i) i (f i) = mp f g (i + 1) := by
  funext j
  simp only [va_up, mp]
  by_cases h1 : j = i
  · subst h1; rw [if_pos rfl, if_pos (by omega)]
  · rw [if_neg h1]
    by_cases h2 : j < i
    · rw [if_pos h2, if_pos (by omega)]
    · rw [if_neg h2, if_neg (by omega)]
theorem mp_ge {f g : Nat → Int} {i k : Nat} (h : i ≤ k) : mp f g i k = g k := by simp only [mp]; rw [if_neg (by omega)]
theorem mp_lt {f g : Nat → Int} {i k : Nat} (h : k < i) : mp f g i k = f k := by simp only [mp]; rw [if_pos h]
theorem va_eq {α : Type} {f : Nat → α} {k : Nat} {v : α} : va_up f k v k = v := by simp [va_up]
abbrev spR (W c : Int) (r : Nat → Int) : Nat → Nat → Int := mp (fun k => rsd W (c * r k)) r
abbrev spD (W c : Int) (r d : Nat → Int) : Nat → Nat → Int := mp (fun k => dg W (c * r k)) d
abbrev spL (W c : Int) (r : Nat → Int) : Nat → Int := sumZ (fun k => dg W (c * r k))
def iol (d : Nat → Int) (u : Int) : Nat → Nat → Int → Int
  | 0, _, _ => -1
  | e + 1, k, l => if d k = 1 then (if l = u then (k : Int) else iol d u e (k + 1) (l + 1)) else iol d u e (k + 1) l
theorem dg_in (W x : Int) : 0 ≤ dg W x ∧ dg W x ≤ 1 := by unfold dg; split <;> omega
theorem spL_in (W c : Int) (r : Nat → Int) : ∀ n : Nat, 0 ≤ spL W c r n ∧ spL W c r n ≤ n
  | 0 => by simp [spL, sumZ]
  | n + 1 => by have := spL_in W c r n; have := dg_in W (c * r n); simp only [spL, sumZ] at *; omega
section
variable {G : GT} {h : HT} {b s t mk df jo tr di mo dy : SG} {a c d e l0 W0 lv op W : Int} {n k k1 k2 q m : Nat} {r dd at_ wt : Nat → Int}
theorem m_R_leaves : ADet G M_R_leaves [vr 6 0] (Hp b s t mk df jo (sgR (n : Int) W lv op r dd) di mo dy) (some (vi lv)) (Hp b s t mk df jo (sgR (n : Int) W lv op r dd) di mo dy) := by
  refine am_det (by decide +kernel) (Nat.le_of_ble_eq_true rfl) (fun Qr Qt hq => ?_)
  refine aw_blk (pc' := 4) (ls' := [some (vr 6 0)]) (st' := [vi lv]) [.inl (.aload_n 0), .inr (25, 6, 4)] 0 _ _ (by decide +kernel) rfl ?_
  exact aw_iret (by decide +kernel) rfl (by decide) (by decide) (hq _ _ rfl rfl)

theorem m_R_openPlaces : ADet G M_R_openPlaces [vr 6 0] (Hp b s t mk df jo (sgR (n : Int) W lv op r dd) di mo dy) (some (vi op)) (Hp b s t mk df jo (sgR (n : Int) W lv op r dd) di mo dy) := by
  refine am_det (by decide +kernel) (Nat.le_of_ble_eq_true rfl) (fun Qr Qt hq => ?_)
  refine aw_blk (pc' := 4) (ls' := [some (vr 6 0)]) (st' := [vi op]) [.inl (.aload_n 0), .inr (28, 6, 5)] 0 _ _ (by decide +kernel) rfl ?_
  exact aw_iret (by decide +kernel) rfl (by decide) (by decide) (hq _ _ rfl rfl)

theorem lsM5 {a0 a1 a2 a3 : AV} {x4 : Option AV} : ∀ (k : Nat) (v : AV), ([some a0, some a1, some a2, some a3, none] : LSt)[k]? = some (some v) → ([some a0, some a1, some a2, some a3, x4] : LSt)[k]? = some (some v) := by
  intro k v h
  match k, h with
  | 0, h => exact h
  | 1, h => exact h
  | 2, h => exact h
  | 3, h => exact h
  | k + 4, h => cases k <;> simp at h
theorem m_R_splitOff (hn : n ≤ 24) (hW : 1 ≤ W ∧ W ≤ 1048576) (hr : ∀ k, k < n → 0 ≤ r k ∧ r k ≤ 1048576) (hc : c = 1 ∨ c = 2) (ha : -1000000000 ≤ a ∧ a ≤ 1000000000) : ADet G M_R_splitOff [vr 6 0, vi a, vi c] (Hp b s t mk df jo (sgR (n : Int) W lv op r dd) di mo dy) none (Hp b s t mk df jo (sgR (n : Int) W (spL W c r n) (a - spL W c r n) (spR W c r n) (spD W c r dd n)) di mo dy) := by
  refine am_det (by decide +kernel) (Nat.le_of_ble_eq_true rfl) (fun Qr Qt hq => ?_)
  refine aw_blk (pc' := 2) (ls' := [some (vr 6 0), some (vi a), some (vi c), none, none]) (st' := [vi 0, vr 6 0]) [.inl (.aload_n 0), .inl (.iconst 0)] 0 _ _ (by decide +kernel) rfl ?_
  refine aw_put (idx := 25) (ci := 6) (k := 4) (h' := Hp b s t mk df jo [some (ob 6 [vr 6 1, vr 6 2, vi (n : Int), vi W, vi 0, vi op]), some (ar 0 24 r), some (ar 0 24 dd)] di mo dy) (by decide +kernel) (by decide +kernel) rfl (Nat.le_of_ble_eq_true rfl) (show I32 _ from by omega) rfl ?_
  refine aw_blk (pc' := 7) (ls' := [some (vr 6 0), some (vi a), some (vi c), some (vi 0), none]) (st' := []) [.inl (.iconst 0), .inl (.istore_n 3)] 5 _ _ (by decide +kernel) rfl ?_
  rw [show Hp b s t mk df jo [some (ob 6 [vr 6 1, vr 6 2, vi (n : Int), vi W, vi 0, vi op]), some (ar 0 24 r), some (ar 0 24 dd)] di mo dy = Hp b s t mk df jo (sgR (n : Int) W (spL W c r 0) op (spR W c r 0) (spD W c r dd 0)) di mo dy by simp only [spR, spD, spL, sumZ, mp_0]]
  have key : ∀ e i : Nat, i + e = n → ∀ x4 : Option AV, AW G M_R_splitOff Qr Qt 0 0 7 [some (vr 6 0), some (vi a), some (vi c), some (vi (i : Int)), x4] [] (Hp b s t mk df jo [some (ob 6 [vr 6 1, vr 6 2, vi (n : Int), vi W, vi (spL W c r i), vi op]), some (ar 0 24 (spR W c r i)), some (ar 0 24 (spD W c r dd i))] di mo dy) := by
    intro e
    induction e with
    | zero =>
      intro i hi x4
      have hi0 : i = n := by omega
      subst hi0
      have hsl := spL_in W c r i
      refine aw_ls (ls' := [some (vr 6 0), some (vi a), some (vi c), some (vi (i : Int)), none]) lsM5 ?_
      refine aw_blk (pc' := 12) (ls' := [some (vr 6 0), some (vi a), some (vi c), some (vi (i : Int)), none]) (st' := [vi (i : Int), vi (i : Int)]) [.inl (.iload_n 3), .inl (.aload_n 0), .inr (18, 6, 2)] 7 _ _ (by decide +kernel) rfl ?_
      refine aw_icmp_ge (o := 74) (tgt := 86) (by decide +kernel) (by decide) (by omega) (by omega) (fun _ => ?_) (fun c => absurd (by omega) c)
      refine aw_blk (pc' := 93) (ls' := [some (vr 6 0), some (vi a), some (vi c), some (vi (i : Int)), none]) (st' := [vi (a - (spL W c r i)), vr 6 0]) [.inl (.aload_n 0), .inl (.iload_n 1), .inl (.aload_n 0), .inr (25, 6, 4), .inl (.isub)] 86 _ _ (by decide +kernel) rfl ?_
      refine aw_put (idx := 28) (ci := 6) (k := 5) (h' := Hp b s t mk df jo [some (ob 6 [vr 6 1, vr 6 2, vi (i : Int), vi W, vi (spL W c r i), vi (a - (spL W c r i))]), some (ar 0 24 (spR W c r i)), some (ar 0 24 (spD W c r dd i))] di mo dy) (by decide +kernel) (by decide +kernel) rfl (Nat.le_of_ble_eq_true rfl) (show I32 _ from by omega) rfl ?_
      exact aw_vret (by decide +kernel) rfl (by decide) (by decide) (hq _ _ rfl rfl)
    | succ e ih =>
      intro i hi x4
      refine aw_ls (ls' := [some (vr 6 0), some (vi a), some (vi c), some (vi (i : Int)), none]) lsM5 ?_
      have hr1 := hr i (by omega)
      have hsl := spL_in W c r i
      have hcr : 0 ≤ c * r i ∧ c * r i ≤ 2097152 := by rcases hc with rfl | rfl <;> omega
      refine aw_blk (pc' := 12) (ls' := [some (vr 6 0), some (vi a), some (vi c), some (vi (i : Int)), none]) (st' := [vi (n : Int), vi (i : Int)]) [.inl (.iload_n 3), .inl (.aload_n 0), .inr (18, 6, 2)] 7 _ _ (by decide +kernel) rfl ?_
      refine aw_icmp_ge (o := 74) (tgt := 86) (by decide +kernel) (by decide) (by omega) (by omega) (fun c => absurd c (by omega)) (fun _ => ?_)
      refine aw_blk (pc' := 21) (ls' := [some (vr 6 0), some (vi a), some (vi c), some (vi (i : Int)), none]) (st' := [vi (i : Int), vr 6 1, vi c]) [.inl (.iload_n 2), .inl (.aload_n 0), .inr (9, 6, 0), .inl (.iload_n 3)] 15 _ _ (by decide +kernel) rfl ?_
      refine aw_iald (j := i) (by decide +kernel) rfl (by omega) (by omega) (fun r21 => ?_)
      rw [show spR W c r i i = r i from mp_ge (Nat.le_refl i)]
      refine aw_blk (pc' := 36) (ls' := [some (vr 6 0), some (vi a), some (vi c), some (vi (i : Int)), some (vi (c * (r i)))]) (st' := [vi W, vi (c * (r i)), vi (i : Int), vr 6 2]) [.inl (.imul), .inl (.istore 4), .inl (.aload_n 0), .inr (15, 6, 1), .inl (.iload_n 3), .inl (.iload 4), .inl (.aload_n 0), .inr (22, 6, 3)] 22 _ _ (by decide +kernel) rfl ?_
      refine aw_icmp_lt (o := 7) (tgt := 43) (by decide +kernel) (by decide) (by omega) (by omega) (fun c36 => ?_) (fun c36 => ?_)
      · refine aw_blk (pc' := 44) (ls' := [some (vr 6 0), some (vi a), some (vi c), some (vi (i : Int)), some (vi (c * (r i)))]) (st' := [vi 0, vi (i : Int), vr 6 2]) [.inl (.iconst 0)] 43 _ _ (by decide +kernel) rfl ?_
        refine aw_iast (j := i) (h' := Hp b s t mk df jo [some (ob 6 [vr 6 1, vr 6 2, vi (n : Int), vi W, vi (spL W c r i), vi op]), some (ar 0 24 (spR W c r i)), some (ar 0 24 (va_up (spD W c r dd i) i 0))] di mo dy) (by decide +kernel) rfl (by omega) (by omega) (by omega) rfl ?_
        refine aw_blk (pc' := 57) (ls' := [some (vr 6 0), some (vi a), some (vi c), some (vi (i : Int)), some (vi (c * (r i)))]) (st' := [vi (i : Int), vr 6 2, vi (c * (r i)), vi (i : Int), vr 6 1]) [.inl (.aload_n 0), .inr (9, 6, 0), .inl (.iload_n 3), .inl (.iload 4), .inl (.aload_n 0), .inr (15, 6, 1), .inl (.iload_n 3)] 45 _ _ (by decide +kernel) rfl ?_
        refine aw_iald (j := i) (by decide +kernel) rfl (by omega) (by omega) (fun r57 => ?_)
        rw [va_eq]
        refine aw_blk (pc' := 64) (ls' := [some (vr 6 0), some (vi a), some (vi c), some (vi (i : Int)), some (vi (c * (r i)))]) (st' := [vi ((c * (r i)) - (0 * W)), vi (i : Int), vr 6 1]) [.inl (.aload_n 0), .inr (22, 6, 3), .inl (.imul), .inl (.isub)] 58 _ _ (by decide +kernel) rfl ?_
        refine aw_iast (j := i) (h' := Hp b s t mk df jo [some (ob 6 [vr 6 1, vr 6 2, vi (n : Int), vi W, vi (spL W c r i), vi op]), some (ar 0 24 (va_up (spR W c r i) i ((c * (r i)) - (0 * W)))), some (ar 0 24 (va_up (spD W c r dd i) i 0))] di mo dy) (by decide +kernel) rfl (by omega) (by omega) (by omega) rfl ?_
        refine aw_blk (pc' := 75) (ls' := [some (vr 6 0), some (vi a), some (vi c), some (vi (i : Int)), some (vi (c * (r i)))]) (st' := [vi (i : Int), vr 6 2, vi (spL W c r i), vr 6 0]) [.inl (.aload_n 0), .inl (.dup), .inr (25, 6, 4), .inl (.aload_n 0), .inr (15, 6, 1), .inl (.iload_n 3)] 65 _ _ (by decide +kernel) rfl ?_
        refine aw_iald (j := i) (by decide +kernel) rfl (by omega) (by omega) (fun r75 => ?_)
        rw [va_eq]
        refine aw_blk (pc' := 77) (ls' := [some (vr 6 0), some (vi a), some (vi c), some (vi (i : Int)), some (vi (c * (r i)))]) (st' := [vi ((spL W c r i) + 0), vr 6 0]) [.inl (.iadd)] 76 _ _ (by decide +kernel) rfl ?_
        refine aw_put (idx := 25) (ci := 6) (k := 4) (h' := Hp b s t mk df jo [some (ob 6 [vr 6 1, vr 6 2, vi (n : Int), vi W, vi ((spL W c r i) + 0), vi op]), some (ar 0 24 (va_up (spR W c r i) i ((c * (r i)) - (0 * W)))), some (ar 0 24 (va_up (spD W c r dd i) i 0))] di mo dy) (by decide +kernel) (by decide +kernel) rfl (Nat.le_of_ble_eq_true rfl) (show I32 _ from by omega) rfl ?_
        refine aw_blk (pc' := 83) (ls' := [some (vr 6 0), some (vi a), some (vi c), some (vi ((i : Int) + 1)), some (vi (c * (r i)))]) (st' := []) [.inl (.iinc 3 1)] 80 _ _ (by decide +kernel) rfl ?_
        refine aw_goto (o := -76) (tgt := 7) (by decide +kernel) (by decide) ?_
        exact aw_eq rfl rfl (by rw [show spD W c r dd (i + 1) = va_up (spD W c r dd i) i 0 from by simp only [spD]; rw [← mp_s]; simp only [dg, if_pos c36], show spR W c r (i + 1) = va_up (spR W c r i) i (c * r i - 0 * W) from by simp only [spR]; rw [← mp_s]; simp only [rsd, dg, if_pos c36], show spL W c r (i + 1) = spL W c r i + 0 from by simp only [spL, sumZ, dg, if_pos c36]]) (ih (i + 1) (by omega) _)
      · refine aw_blk (pc' := 40) (ls' := [some (vr 6 0), some (vi a), some (vi c), some (vi (i : Int)), some (vi (c * (r i)))]) (st' := [vi 1, vi (i : Int), vr 6 2]) [.inl (.iconst 1)] 39 _ _ (by decide +kernel) rfl ?_
        refine aw_goto (o := 4) (tgt := 44) (by decide +kernel) (by decide) ?_
        refine aw_iast (j := i) (h' := Hp b s t mk df jo [some (ob 6 [vr 6 1, vr 6 2, vi (n : Int), vi W, vi (spL W c r i), vi op]), some (ar 0 24 (spR W c r i)), some (ar 0 24 (va_up (spD W c r dd i) i 1))] di mo dy) (by decide +kernel) rfl (by omega) (by omega) (by omega) rfl ?_
        refine aw_blk (pc' := 57) (ls' := [some (vr 6 0), some (vi a), some (vi c), some (vi (i : Int)), some (vi (c * (r i)))]) (st' := [vi (i : Int), vr 6 2, vi (c * (r i)), vi (i : Int), vr 6 1]) [.inl (.aload_n 0), .inr (9, 6, 0), .inl (.iload_n 3), .inl (.iload 4), .inl (.aload_n 0), .inr (15, 6, 1), .inl (.iload_n 3)] 45 _ _ (by decide +kernel) rfl ?_
        refine aw_iald (j := i) (by decide +kernel) rfl (by omega) (by omega) (fun r57 => ?_)
        rw [va_eq]
        refine aw_blk (pc' := 64) (ls' := [some (vr 6 0), some (vi a), some (vi c), some (vi (i : Int)), some (vi (c * (r i)))]) (st' := [vi ((c * (r i)) - (1 * W)), vi (i : Int), vr 6 1]) [.inl (.aload_n 0), .inr (22, 6, 3), .inl (.imul), .inl (.isub)] 58 _ _ (by decide +kernel) rfl ?_
        refine aw_iast (j := i) (h' := Hp b s t mk df jo [some (ob 6 [vr 6 1, vr 6 2, vi (n : Int), vi W, vi (spL W c r i), vi op]), some (ar 0 24 (va_up (spR W c r i) i ((c * (r i)) - (1 * W)))), some (ar 0 24 (va_up (spD W c r dd i) i 1))] di mo dy) (by decide +kernel) rfl (by omega) (by omega) (by omega) rfl ?_
        refine aw_blk (pc' := 75) (ls' := [some (vr 6 0), some (vi a), some (vi c), some (vi (i : Int)), some (vi (c * (r i)))]) (st' := [vi (i : Int), vr 6 2, vi (spL W c r i), vr 6 0]) [.inl (.aload_n 0), .inl (.dup), .inr (25, 6, 4), .inl (.aload_n 0), .inr (15, 6, 1), .inl (.iload_n 3)] 65 _ _ (by decide +kernel) rfl ?_
        refine aw_iald (j := i) (by decide +kernel) rfl (by omega) (by omega) (fun r75 => ?_)
        rw [va_eq]
        refine aw_blk (pc' := 77) (ls' := [some (vr 6 0), some (vi a), some (vi c), some (vi (i : Int)), some (vi (c * (r i)))]) (st' := [vi ((spL W c r i) + 1), vr 6 0]) [.inl (.iadd)] 76 _ _ (by decide +kernel) rfl ?_
        refine aw_put (idx := 25) (ci := 6) (k := 4) (h' := Hp b s t mk df jo [some (ob 6 [vr 6 1, vr 6 2, vi (n : Int), vi W, vi ((spL W c r i) + 1), vi op]), some (ar 0 24 (va_up (spR W c r i) i ((c * (r i)) - (1 * W)))), some (ar 0 24 (va_up (spD W c r dd i) i 1))] di mo dy) (by decide +kernel) (by decide +kernel) rfl (Nat.le_of_ble_eq_true rfl) (show I32 _ from by omega) rfl ?_
        refine aw_blk (pc' := 83) (ls' := [some (vr 6 0), some (vi a), some (vi c), some (vi ((i : Int) + 1)), some (vi (c * (r i)))]) (st' := []) [.inl (.iinc 3 1)] 80 _ _ (by decide +kernel) rfl ?_
        refine aw_goto (o := -76) (tgt := 7) (by decide +kernel) (by decide) ?_
        exact aw_eq rfl rfl (by rw [show spD W c r dd (i + 1) = va_up (spD W c r dd i) i 1 from by simp only [spD]; rw [← mp_s]; simp only [dg, if_neg c36], show spR W c r (i + 1) = va_up (spR W c r i) i (c * r i - 1 * W) from by simp only [spR]; rw [← mp_s]; simp only [rsd, dg, if_neg c36], show spL W c r (i + 1) = spL W c r i + 1 from by simp only [spL, sumZ, dg, if_neg c36]]) (ih (i + 1) (by omega) _)
  exact key n 0 (by omega) none

theorem m_R_grow (hn : n ≤ 24) (hW : 1 ≤ W ∧ W ≤ 1048576) (hr : ∀ k, k < n → 0 ≤ r k ∧ r k ≤ 1048576) (ho : -100000000 ≤ op ∧ op ≤ 100000000) : ADet G M_R_grow [vr 6 0] (Hp b s t mk df jo (sgR (n : Int) W lv op r dd) di mo dy) none (Hp b s t mk df jo (sgR (n : Int) W (spL W 2 r n) (2 * op - spL W 2 r n) (spR W 2 r n) (spD W 2 r dd n)) di mo dy) := by
  refine am_det (by decide +kernel) (Nat.le_of_ble_eq_true rfl) (fun Qr Qt hq => ?_)
  refine aw_blk (pc' := 8) (ls' := [some (vr 6 0)]) (st' := [vi 2, vi (2 * op), vr 6 0]) [.inl (.aload_n 0), .inl (.iconst 2), .inl (.aload_n 0), .inr (28, 6, 5), .inl (.imul), .inl (.iconst 2)] 0 _ _ (by decide +kernel) rfl ?_
  refine aw_dV (cs' := 0) (sl' := 0) (pc' := 11) (st' := []) (idx := 46) (as := [vi (2 * op), vi 2]) (st := []) (m_R_splitOff hn hW hr (Or.inr rfl) (by omega)) (by decide +kernel) (show vOK "ChanceBench$Tree" 46 M_R_splitOff 2 = true by decide +kernel) rfl rfl rfl (Nat.le_of_ble_eq_true rfl) (by decide) (by decide) (by decide) rfl rfl rfl rfl ?_
  exact aw_vret (by decide +kernel) rfl (by decide) (by decide) (hq _ _ rfl rfl)

theorem m_R_plant (hA : isD dy k k1 k2 n at_ wt W) (A : lwN n at_ wt W) : ADet G M_R_plant [vr 6 0, vr 9 k] (Hp b s t mk df jo (sgR l0 W0 lv op r dd) di mo dy) none (Hp b s t mk df jo (sgR (n : Int) W (spL W 1 (mp wt r n) n) (1 - spL W 1 (mp wt r n) n) (spR W 1 (mp wt r n) n) (spD W 1 (mp wt r n) dd n)) di mo dy) := by
  refine am_det (by decide +kernel) (Nat.le_of_ble_eq_true rfl) (fun Qr Qt hq => ?_)
  have hn := A.1
  have hW := A.2.2.2.1
  have hW2 := A.2.2.2.2.1
  refine aw_blk (pc' := 2) (ls' := [some (vr 6 0), some (vr 9 k), none]) (st' := [vr 9 k, vr 6 0]) [.inl (.aload_n 0), .inl (.aload_n 1)] 0 _ _ (by decide +kernel) rfl ?_
  refine aw_get (idx := 31) (ci := 9) (f := 0) (by decide +kernel) (by decide +kernel) hA.1 rfl ?_
  refine aw_alen (by decide +kernel) hA.2.1 (fun r5 => ?_)
  refine aw_blk (pc' := 8) (ls' := [some (vr 6 0), some (vr 9 k), none]) (st' := [vi 24, vi (n : Int), vr 6 0]) [.inl (.bipush 24)] 6 _ _ (by decide +kernel) rfl ?_
  refine aw_mmin (idx := 36) (by decide +kernel) (by decide +kernel) (Nat.le_of_ble_eq_true rfl) (by decide) (by decide) (by decide) (by omega) (by omega) ?_
  rw [if_neg (show ¬ (24 : Int) < (n : Int) by omega)]
  refine aw_put (idx := 18) (ci := 6) (k := 2) (h' := Hp b s t mk df jo [some (ob 6 [vr 6 1, vr 6 2, vi (n : Int), vi W0, vi lv, vi op]), some (ar 0 24 r), some (ar 0 24 dd)] di mo dy) (by decide +kernel) (by decide +kernel) rfl (Nat.le_of_ble_eq_true rfl) (show I32 _ from by omega) rfl ?_
  refine aw_blk (pc' := 16) (ls' := [some (vr 6 0), some (vr 9 k), none]) (st' := [vr 9 k, vr 6 0]) [.inl (.aload_n 0), .inl (.aload_n 1)] 14 _ _ (by decide +kernel) rfl ?_
  refine aw_get (idx := 42) (ci := 9) (f := 2) (by decide +kernel) (by decide +kernel) hA.1 rfl ?_
  refine aw_put (idx := 22) (ci := 6) (k := 3) (h' := Hp b s t mk df jo [some (ob 6 [vr 6 1, vr 6 2, vi (n : Int), vi W, vi lv, vi op]), some (ar 0 24 r), some (ar 0 24 dd)] di mo dy) (by decide +kernel) (by decide +kernel) rfl (Nat.le_of_ble_eq_true rfl) (show I32 _ from by omega) rfl ?_
  refine aw_blk (pc' := 24) (ls' := [some (vr 6 0), some (vr 9 k), some (vi 0)]) (st' := []) [.inl (.iconst 0), .inl (.istore_n 2)] 22 _ _ (by decide +kernel) rfl ?_
  rw [show Hp b s t mk df jo [some (ob 6 [vr 6 1, vr 6 2, vi (n : Int), vi W, vi lv, vi op]), some (ar 0 24 r), some (ar 0 24 dd)] di mo dy = Hp b s t mk df jo (sgR (n : Int) W lv op (mp wt r 0) dd) di mo dy by rw [mp_0]]
  refine up_to (W := fun i : Nat => AW G M_R_plant Qr Qt 0 0 24 [some (vr 6 0), some (vr 9 k), some (vi (i : Int))] [] (Hp b s t mk df jo [some (ob 6 [vr 6 1, vr 6 2, vi (n : Int), vi W, vi lv, vi op]), some (ar 0 24 (mp wt r i)), some (ar 0 24 dd)] di mo dy)) n ?_ (fun i hi ih => ?_) 0 (by omega)
  · refine aw_blk (pc' := 29) (ls' := [some (vr 6 0), some (vr 9 k), some (vi (n : Int))]) (st' := [vi (n : Int), vi (n : Int)]) [.inl (.iload_n 2), .inl (.aload_n 0), .inr (18, 6, 2)] 24 _ _ (by decide +kernel) rfl ?_
    refine aw_icmp_ge (o := 21) (tgt := 50) (by decide +kernel) (by decide) (by omega) (by omega) (fun _ => ?_) (fun c => absurd (by omega) c)
    refine aw_blk (pc' := 53) (ls' := [some (vr 6 0), some (vr 9 k), some (vi (n : Int))]) (st' := [vi 1, vi 1, vr 6 0]) [.inl (.aload_n 0), .inl (.iconst 1), .inl (.iconst 1)] 50 _ _ (by decide +kernel) rfl ?_
    refine aw_dV (cs' := 0) (sl' := 0) (pc' := 56) (st' := []) (idx := 46) (as := [vi 1, vi 1]) (st := []) (m_R_splitOff (r := mp wt r n) (by omega) (by omega) (fun k hk => by rw [mp_lt hk]; have := (A.2.2.1 k hk).2; omega) (Or.inl rfl) (by omega)) (by decide +kernel) (show vOK "ChanceBench$Tree" 46 M_R_splitOff 2 = true by decide +kernel) rfl rfl rfl (Nat.le_of_ble_eq_true rfl) (by decide) (by decide) (by decide) rfl rfl rfl rfl ?_
    exact aw_vret (by decide +kernel) rfl (by decide) (by decide) (hq _ _ rfl rfl)
  · refine aw_blk (pc' := 29) (ls' := [some (vr 6 0), some (vr 9 k), some (vi (i : Int))]) (st' := [vi (n : Int), vi (i : Int)]) [.inl (.iload_n 2), .inl (.aload_n 0), .inr (18, 6, 2)] 24 _ _ (by decide +kernel) rfl ?_
    refine aw_icmp_ge (o := 21) (tgt := 50) (by decide +kernel) (by decide) (by omega) (by omega) (fun c => absurd c (by omega)) (fun _ => ?_)
    refine aw_blk (pc' := 38) (ls' := [some (vr 6 0), some (vr 9 k), some (vi (i : Int))]) (st' := [vr 9 k, vi (i : Int), vr 6 1]) [.inl (.aload_n 0), .inr (9, 6, 0), .inl (.iload_n 2), .inl (.aload_n 1)] 32 _ _ (by decide +kernel) rfl ?_
    refine aw_get (idx := 43) (ci := 9) (f := 1) (by decide +kernel) (by decide +kernel) hA.1 rfl ?_
    refine aw_blk (pc' := 42) (ls' := [some (vr 6 0), some (vr 9 k), some (vi (i : Int))]) (st' := [vi (i : Int), vr 9 k2, vi (i : Int), vr 6 1]) [.inl (.iload_n 2)] 41 _ _ (by decide +kernel) rfl ?_
    refine aw_iald (j := i) (by decide +kernel) hA.2.2 (by omega) (by omega) (fun r42 => ?_)
    refine aw_iast (j := i) (h' := Hp b s t mk df jo [some (ob 6 [vr 6 1, vr 6 2, vi (n : Int), vi W, vi lv, vi op]), some (ar 0 24 (va_up (mp wt r i) i (wt i))), some (ar 0 24 dd)] di mo dy) (by decide +kernel) rfl (by omega) (by omega) (by omega) rfl ?_
    refine aw_blk (pc' := 47) (ls' := [some (vr 6 0), some (vr 9 k), some (vi ((i : Int) + 1))]) (st' := []) [.inl (.iinc 2 1)] 44 _ _ (by decide +kernel) rfl ?_
    refine aw_goto (o := -23) (tgt := 24) (by decide +kernel) (by decide) ?_
    exact aw_eq rfl rfl (by rw [← mp_s]) ih

theorem m_R_hasLeaf (hn : n ≤ 24) (ha : I32 a) : ADet G M_R_hasLeaf [vr 6 0, vi a] (Hp b s t mk df jo (sgR (n : Int) W lv op r dd) di mo dy) (some (vi (if (0 ≤ a ∧ a < (n : Int)) ∧ dd a.toNat = 1 then 1 else 0))) (Hp b s t mk df jo (sgR (n : Int) W lv op r dd) di mo dy) := by
  refine am_det (by decide +kernel) (Nat.le_of_ble_eq_true rfl) (fun Qr Qt hq => ?_)
  refine aw_blk (pc' := 1) (ls' := [some (vr 6 0), some (vi a)]) (st' := [vi a]) [.inl (.iload_n 1)] 0 _ _ (by decide +kernel) rfl ?_
  refine aw_if_lt (o := 25) (tgt := 26) (by decide +kernel) (by decide) (by omega) (fun c1 => ?_) (fun c1 => ?_)
  · refine aw_blk (pc' := 27) (ls' := [some (vr 6 0), some (vi a)]) (st' := [vi 0]) [.inl (.iconst 0)] 26 _ _ (by decide +kernel) rfl ?_
    exact aw_zret (by decide +kernel) rfl (by decide) (by decide) (by omega) (hq _ _ (by rw [if_neg (by omega)]) rfl)
  · refine aw_blk (pc' := 9) (ls' := [some (vr 6 0), some (vi a)]) (st' := [vi (n : Int), vi a]) [.inl (.iload_n 1), .inl (.aload_n 0), .inr (18, 6, 2)] 4 _ _ (by decide +kernel) rfl ?_
    refine aw_icmp_ge (o := 17) (tgt := 26) (by decide +kernel) (by decide) (by omega) (by omega) (fun c9 => ?_) (fun c9 => ?_)
    · refine aw_blk (pc' := 27) (ls' := [some (vr 6 0), some (vi a)]) (st' := [vi 0]) [.inl (.iconst 0)] 26 _ _ (by decide +kernel) rfl ?_
      exact aw_zret (by decide +kernel) rfl (by decide) (by decide) (by omega) (hq _ _ (by rw [if_neg (by omega)]) rfl)
    · refine aw_blk (pc' := 17) (ls' := [some (vr 6 0), some (vi a)]) (st' := [vi a, vr 6 2]) [.inl (.aload_n 0), .inr (15, 6, 1), .inl (.iload_n 1)] 12 _ _ (by decide +kernel) rfl ?_
      refine aw_iald (j := a.toNat) (by decide +kernel) rfl (by omega) (by omega) (fun r17 => ?_)
      refine aw_blk (pc' := 19) (ls' := [some (vr 6 0), some (vi a)]) (st' := [vi 1, vi (dd a.toNat)]) [.inl (.iconst 1)] 18 _ _ (by decide +kernel) rfl ?_
      refine aw_icmp_ne (o := 7) (tgt := 26) (by decide +kernel) (by decide) (by omega) (by omega) (fun c19 => ?_) (fun c19 => ?_)
      · refine aw_blk (pc' := 27) (ls' := [some (vr 6 0), some (vi a)]) (st' := [vi 0]) [.inl (.iconst 0)] 26 _ _ (by decide +kernel) rfl ?_
        exact aw_zret (by decide +kernel) rfl (by decide) (by decide) (by omega) (hq _ _ (by rw [if_neg (by omega)]) rfl)
      · refine aw_blk (pc' := 23) (ls' := [some (vr 6 0), some (vi a)]) (st' := [vi 1]) [.inl (.iconst 1)] 22 _ _ (by decide +kernel) rfl ?_
        refine aw_goto (o := 4) (tgt := 27) (by decide +kernel) (by decide) ?_
        exact aw_zret (by decide +kernel) rfl (by decide) (by decide) (by omega) (hq _ _ (by rw [if_pos (by omega)]) rfl)

theorem l_R_iol {Qr : Option AV → HT → Prop} {Qt : HT → Prop} (hn : n ≤ 24) (ha : I32 a) : ∀ (e k : Nat) (l : Int), k + e = n → (0 ≤ l ∧ l ≤ (k : Int)) → (∀ x g, x = some (vi (iol dd a e k l)) → g = Hp b s t mk df jo (sgR (n : Int) W lv op r dd) di mo dy → Qr x g) → AW G M_R_indexOfLeaf Qr Qt 0 0 4 [some (vr 6 0), some (vi a), some (vi l), some (vi (k : Int))] [] (Hp b s t mk df jo (sgR (n : Int) W lv op r dd) di mo dy) := by
  intro e
  induction e with
  | zero =>
    intro k l hk hl hq
    refine aw_blk (pc' := 9) (ls' := [some (vr 6 0), some (vi a), some (vi l), some (vi (k : Int))]) (st' := [vi (n : Int), vi (k : Int)]) [.inl (.iload_n 3), .inl (.aload_n 0), .inr (18, 6, 2)] 4 _ _ (by decide +kernel) rfl ?_
    refine aw_icmp_ge (o := 29) (tgt := 38) (by decide +kernel) (by decide) (by omega) (by omega) (fun _ => ?_) (fun c => absurd (by omega) c)
    refine aw_blk (pc' := 39) (ls' := [some (vr 6 0), some (vi a), some (vi l), some (vi (k : Int))]) (st' := [vi (-1)]) [.inl (.iconst (-1))] 38 _ _ (by decide +kernel) rfl ?_
    exact aw_iret (by decide +kernel) rfl (by decide) (by decide) (hq _ _ rfl rfl)
  | succ e ih =>
    intro k l hk hl hq
    refine aw_blk (pc' := 9) (ls' := [some (vr 6 0), some (vi a), some (vi l), some (vi (k : Int))]) (st' := [vi (n : Int), vi (k : Int)]) [.inl (.iload_n 3), .inl (.aload_n 0), .inr (18, 6, 2)] 4 _ _ (by decide +kernel) rfl ?_
    refine aw_icmp_ge (o := 29) (tgt := 38) (by decide +kernel) (by decide) (by omega) (by omega) (fun c => absurd c (by omega)) (fun _ => ?_)
    refine aw_blk (pc' := 17) (ls' := [some (vr 6 0), some (vi a), some (vi l), some (vi (k : Int))]) (st' := [vi (k : Int), vr 6 2]) [.inl (.aload_n 0), .inr (15, 6, 1), .inl (.iload_n 3)] 12 _ _ (by decide +kernel) rfl ?_
    refine aw_iald (j := k) (by decide +kernel) rfl (by omega) (by omega) (fun r17 => ?_)
    refine aw_blk (pc' := 19) (ls' := [some (vr 6 0), some (vi a), some (vi l), some (vi (k : Int))]) (st' := [vi 1, vi (dd k)]) [.inl (.iconst 1)] 18 _ _ (by decide +kernel) rfl ?_
    refine aw_icmp_ne (o := 13) (tgt := 32) (by decide +kernel) (by decide) (by omega) (by omega) (fun c19 => ?_) (fun c19 => ?_)
    · refine aw_blk (pc' := 35) (ls' := [some (vr 6 0), some (vi a), some (vi l), some (vi ((k : Int) + 1))]) (st' := []) [.inl (.iinc 3 1)] 32 _ _ (by decide +kernel) rfl ?_
      refine aw_goto (o := -31) (tgt := 4) (by decide +kernel) (by decide) ?_
      refine aw_eq rfl rfl rfl (ih (k + 1) l (by omega) (by omega) (fun x g e1 e2 => hq x g ?_ e2))
      rw [e1, iol, if_neg (by omega)]
    · refine aw_blk (pc' := 24) (ls' := [some (vr 6 0), some (vi a), some (vi l), some (vi (k : Int))]) (st' := [vi a, vi l]) [.inl (.iload_n 2), .inl (.iload_n 1)] 22 _ _ (by decide +kernel) rfl ?_
      refine aw_icmp_ne (o := 5) (tgt := 29) (by decide +kernel) (by decide) (by omega) (by omega) (fun c24 => ?_) (fun c24 => ?_)
      · refine aw_blk (pc' := 35) (ls' := [some (vr 6 0), some (vi a), some (vi (l + 1)), some (vi ((k : Int) + 1))]) (st' := []) [.inl (.iinc 2 1), .inl (.iinc 3 1)] 29 _ _ (by decide +kernel) rfl ?_
        refine aw_goto (o := -31) (tgt := 4) (by decide +kernel) (by decide) ?_
        refine aw_eq rfl rfl rfl (ih (k + 1) (l + 1) (by omega) (by omega) (fun x g e1 e2 => hq x g ?_ e2))
        rw [e1, iol, if_pos (by omega), if_neg (by omega)]
      · refine aw_blk (pc' := 28) (ls' := [some (vr 6 0), some (vi a), some (vi l), some (vi (k : Int))]) (st' := [vi (k : Int)]) [.inl (.iload_n 3)] 27 _ _ (by decide +kernel) rfl ?_
        exact aw_iret (by decide +kernel) rfl (by decide) (by decide) (hq _ _ (by rw [iol, if_pos (by omega), if_pos (by omega)]) rfl)
theorem m_R_indexOfLeaf (hn : n ≤ 24) (ha : I32 a) : ADet G M_R_indexOfLeaf [vr 6 0, vi a] (Hp b s t mk df jo (sgR (n : Int) W lv op r dd) di mo dy) (some (vi (iol dd a n 0 0))) (Hp b s t mk df jo (sgR (n : Int) W lv op r dd) di mo dy) := by
  refine am_det (by decide +kernel) (Nat.le_of_ble_eq_true rfl) (fun Qr Qt hq => ?_)
  refine aw_blk (pc' := 4) (ls' := [some (vr 6 0), some (vi a), some (vi 0), some (vi 0)]) (st' := []) [.inl (.iconst 0), .inl (.istore_n 2), .inl (.iconst 0), .inl (.istore_n 3)] 0 _ _ (by decide +kernel) rfl ?_
  exact l_R_iol hn ha n 0 0 (by omega) (by omega) hq

end
end
section
abbrev T3 : Type := Int × Int × Int
abbrev sgJ (sz : Int) (wh : Int) (fa fb fw fl sl : Nat → Int) : SG := [some (ob 5 [vr 5 1, vr 5 2, vr 5 3, vr 5 4, vr 5 5, vi sz, vl wh]), some (ar 0 72 fa), some (ar 0 72 fb), some (ar 1 72 fw), some (ar 1 24 fl), some (ar 1 24 sl)]
/-- the rows hold the list -/
def jr (fa fb fw : Nat → Int) (js : List T3) : Prop := ∀ (k : Nat) (x : T3), js[k]? = some x → fa k = x.1 ∧ fb k = x.2.1 ∧ fw k = x.2.2
theorem jr_0 {fa fb fw : Nat → Int} : jr fa fb fw [] := fun k x h => by simp at h
theorem jr_s {fa fb fw : Nat → Int} {js : List T3} {v w x : Int} (h : jr fa fb fw js) : jr (va_up fa js.length v) (va_up fb js.length w) (va_up fw js.length x) (js ++ [(v, w, x)]) := by
  intro k y hy
  rcases Nat.lt_or_ge k js.length with z | z
  · rw [List.getElem?_append_left z] at hy
    have := h k y hy
    simp only [va_up, if_neg (show ¬ k = js.length by omega)]
    exact this
  · rw [List.getElem?_append_right z] at hy
    have hl := (List.getElem?_eq_some_iff.mp hy).1
    simp at hl
    have e : k = js.length := by omega
    subst e
    simp at hy
    subst hy
    simp only [va_up, if_true]
    exact ⟨trivial, trivial, trivial⟩
def tab (f g : Nat → Int) : Nat → Nat → List (Int × Int)
  | _, 0 => []
  | i, d + 1 => (f i, g i) :: tab f g (i + 1) d
/-- NORTHWEST of two rows of what is left -/
def nw : List (Int × Int) → List (Int × Int) → List T3
  | [], _ => []
  | _ :: _, [] => []
  | (v, x) :: A, (w, y) :: B => if x ≤ y then (if 1 ≤ x then [(v, w, x)] else []) ++ nw A ((w, y - x) :: B) else (if 1 ≤ y then [(v, w, y)] else []) ++ nw ((v, x - y) :: A) B
termination_by A B => A.length + B.length
theorem tab_up {f g : Nat → Int} {j : Nat} {x : Int} : ∀ {i d : Nat}, j < i → tab f (va_up g j x) i d = tab f g i d
  | _, 0, _ => rfl
  | i, d + 1, h => by
    simp only [tab]
    rw [tab_up (show j < i + 1 by omega)]
    simp only [va_up, if_neg (show ¬ i = j by omega)]
def fnd (fa fb fw : Nat → Int) (v w : Int) : Nat → Nat → Int
  | 0, _ => 0
  | d + 1, k => if fa k = v ∧ fb k = w then fw k else fnd fa fb fw v w d (k + 1)
section
variable {G : GT} {h : HT} {b s t mk df jo tr di mo dy : SG} {a c d : Int} {n i j k k1 k2 q q1 q2 m sz : Nat} {at_ wt at2 wt2 fa fb fw fl sl_ : Nat → Int} {W W2 wh : Int} {js : List T3}
theorem m_J_size : ADet G M_J_size [vr 5 0] (Hp b s t mk df (sgJ (sz : Int) wh fa fb fw fl sl_) tr di mo dy) (some (vi (sz : Int))) (Hp b s t mk df (sgJ (sz : Int) wh fa fb fw fl sl_) tr di mo dy) := by
  refine am_det (by decide +kernel) (Nat.le_of_ble_eq_true rfl) (fun Qr Qt hq => ?_)
  refine aw_blk (pc' := 4) (ls' := [some (vr 5 0)]) (st' := [vi (sz : Int)]) [.inl (.aload_n 0), .inr (28, 5, 5)] 0 _ _ (by decide +kernel) rfl ?_
  exact aw_iret (by decide +kernel) rfl (by decide) (by decide) (hq _ _ rfl rfl)

theorem m_J_whole : ADet G M_J_whole [vr 5 0] (Hp b s t mk df (sgJ (sz : Int) wh fa fb fw fl sl_) tr di mo dy) (some (vl wh)) (Hp b s t mk df (sgJ (sz : Int) wh fa fb fw fl sl_) tr di mo dy) := by
  refine am_det (by decide +kernel) (Nat.le_of_ble_eq_true rfl) (fun Qr Qt hq => ?_)
  refine aw_blk (pc' := 4) (ls' := [some (vr 5 0)]) (st' := [vl wh]) [.inl (.aload_n 0), .inr (32, 5, 6)] 0 _ _ (by decide +kernel) rfl ?_
  exact aw_lret (by decide +kernel) rfl (by decide) (by decide) (hq _ _ rfl rfl)

theorem m_J_fill4 (hA : isD dy k k1 k2 n at_ wt W) (A : lwN n at_ wt W) (ha : 1 ≤ a ∧ a ≤ 1048576) : ADet G M_J_fill [vr 5 4, vr 9 k, vi a] (Hp b s t mk df (sgJ (sz : Int) wh fa fb fw fl sl_) tr di mo dy) none (Hp b s t mk df (sgJ (sz : Int) wh fa fb fw (mp (fun x => wt x * a) fl n) sl_) tr di mo dy) := by
  refine am_det (by decide +kernel) (Nat.le_of_ble_eq_true rfl) (fun Qr Qt hq => ?_)
  have hn := A.1
  refine aw_blk (pc' := 2) (ls' := [some (vr 5 4), some (vr 9 k), some (vi a), some (vi 0)]) (st' := []) [.inl (.iconst 0), .inl (.istore_n 3)] 0 _ _ (by decide +kernel) rfl ?_
  rw [show Hp b s t mk df (sgJ (sz : Int) wh fa fb fw fl sl_) tr di mo dy = Hp b s t mk df (sgJ (sz : Int) wh fa fb fw (mp (fun x => wt x * a) fl 0) sl_) tr di mo dy by rw [mp_0]]
  refine up_to (W := fun i : Nat => AW G M_J_fill Qr Qt 0 0 2 [some (vr 5 4), some (vr 9 k), some (vi a), some (vi (i : Int))] [] (Hp b s t mk df [some (ob 5 [vr 5 1, vr 5 2, vr 5 3, vr 5 4, vr 5 5, vi (sz : Int), vl wh]), some (ar 0 72 fa), some (ar 0 72 fb), some (ar 1 72 fw), some (ar 1 24 (mp (fun x => wt x * a) fl i)), some (ar 1 24 sl_)] tr di mo dy)) n ?_ (fun i hi ih => ?_) 0 (by omega)
  · refine aw_blk (pc' := 4) (ls' := [some (vr 5 4), some (vr 9 k), some (vi a), some (vi (n : Int))]) (st' := [vr 9 k, vi (n : Int)]) [.inl (.iload_n 3), .inl (.aload_n 1)] 2 _ _ (by decide +kernel) rfl ?_
    refine aw_get (idx := 55) (ci := 9) (f := 0) (by decide +kernel) (by decide +kernel) hA.1 rfl ?_
    refine aw_alen (by decide +kernel) hA.2.1 (fun r7 => ?_)
    refine aw_icmp_ge (o := 28) (tgt := 36) (by decide +kernel) (by decide) (by omega) (by omega) (fun _ => ?_) (fun c => absurd (by omega) c)
    exact aw_vret (by decide +kernel) rfl (by decide) (by decide) (hq _ _ rfl rfl)
  · have hw := (A.2.2.1 i hi).2
    have hW := A.2.2.2.2.1
    have hm := mulB (x := wt i) (y := a) (by omega) (by omega) (by omega) (by omega)
    refine aw_blk (pc' := 4) (ls' := [some (vr 5 4), some (vr 9 k), some (vi a), some (vi (i : Int))]) (st' := [vr 9 k, vi (i : Int)]) [.inl (.iload_n 3), .inl (.aload_n 1)] 2 _ _ (by decide +kernel) rfl ?_
    refine aw_get (idx := 55) (ci := 9) (f := 0) (by decide +kernel) (by decide +kernel) hA.1 rfl ?_
    refine aw_alen (by decide +kernel) hA.2.1 (fun r7 => ?_)
    refine aw_icmp_ge (o := 28) (tgt := 36) (by decide +kernel) (by decide) (by omega) (by omega) (fun c => absurd c (by omega)) (fun _ => ?_)
    refine aw_blk (pc' := 13) (ls' := [some (vr 5 4), some (vr 9 k), some (vi a), some (vi (i : Int))]) (st' := [vr 5 4, vi (i : Int)]) [.inl (.iload_n 3), .inl (.aload_n 0)] 11 _ _ (by decide +kernel) rfl ?_
    refine aw_alen (by decide +kernel) rfl (fun r13 => ?_)
    refine aw_icmp_ge (o := 22) (tgt := 36) (by decide +kernel) (by decide) (by omega) (by omega) (fun c => absurd c (by omega)) (fun _ => ?_)
    refine aw_blk (pc' := 20) (ls' := [some (vr 5 4), some (vr 9 k), some (vi a), some (vi (i : Int))]) (st' := [vr 9 k, vi (i : Int), vr 5 4]) [.inl (.aload_n 0), .inl (.iload_n 3), .inl (.aload_n 1)] 17 _ _ (by decide +kernel) rfl ?_
    refine aw_get (idx := 58) (ci := 9) (f := 1) (by decide +kernel) (by decide +kernel) hA.1 rfl ?_
    refine aw_blk (pc' := 24) (ls' := [some (vr 5 4), some (vr 9 k), some (vi a), some (vi (i : Int))]) (st' := [vi (i : Int), vr 9 k2, vi (i : Int), vr 5 4]) [.inl (.iload_n 3)] 23 _ _ (by decide +kernel) rfl ?_
    refine aw_iald (j := i) (by decide +kernel) hA.2.2 (by omega) (by omega) (fun r24 => ?_)
    refine aw_i2l (by decide +kernel) (by omega) ?_
    refine aw_blk (pc' := 27) (ls' := [some (vr 5 4), some (vr 9 k), some (vi a), some (vi (i : Int))]) (st' := [vi a, vl (wt i), vi (i : Int), vr 5 4]) [.inl (.iload_n 2)] 26 _ _ (by decide +kernel) rfl ?_
    refine aw_i2l (by decide +kernel) (by omega) ?_
    refine aw_blk (pc' := 29) (ls' := [some (vr 5 4), some (vr 9 k), some (vi a), some (vi (i : Int))]) (st' := [vl ((wt i) * a), vi (i : Int), vr 5 4]) [.inl (.lmul)] 28 _ _ (by decide +kernel) rfl ?_
    refine aw_last (j := i) (h' := Hp b s t mk df [some (ob 5 [vr 5 1, vr 5 2, vr 5 3, vr 5 4, vr 5 5, vi (sz : Int), vl wh]), some (ar 0 72 fa), some (ar 0 72 fb), some (ar 1 72 fw), some (ar 1 24 (va_up (mp (fun x => wt x * a) fl i) i ((wt i) * a))), some (ar 1 24 sl_)] tr di mo dy) (by decide +kernel) rfl (by omega) (by omega) (by omega) rfl ?_
    refine aw_blk (pc' := 33) (ls' := [some (vr 5 4), some (vr 9 k), some (vi a), some (vi ((i : Int) + 1))]) (st' := []) [.inl (.iinc 3 1)] 30 _ _ (by decide +kernel) rfl ?_
    refine aw_goto (o := -31) (tgt := 2) (by decide +kernel) (by decide) ?_
    exact aw_eq rfl rfl (by rw [← mp_s]) ih

theorem m_J_fill5 (hA : isD dy k k1 k2 n at_ wt W) (A : lwN n at_ wt W) (ha : 1 ≤ a ∧ a ≤ 1048576) : ADet G M_J_fill [vr 5 5, vr 9 k, vi a] (Hp b s t mk df (sgJ (sz : Int) wh fa fb fw fl sl_) tr di mo dy) none (Hp b s t mk df (sgJ (sz : Int) wh fa fb fw fl (mp (fun x => wt x * a) sl_ n)) tr di mo dy) := by
  refine am_det (by decide +kernel) (Nat.le_of_ble_eq_true rfl) (fun Qr Qt hq => ?_)
  have hn := A.1
  refine aw_blk (pc' := 2) (ls' := [some (vr 5 5), some (vr 9 k), some (vi a), some (vi 0)]) (st' := []) [.inl (.iconst 0), .inl (.istore_n 3)] 0 _ _ (by decide +kernel) rfl ?_
  rw [show Hp b s t mk df (sgJ (sz : Int) wh fa fb fw fl sl_) tr di mo dy = Hp b s t mk df (sgJ (sz : Int) wh fa fb fw fl (mp (fun x => wt x * a) sl_ 0)) tr di mo dy by rw [mp_0]]
  refine up_to (W := fun i : Nat => AW G M_J_fill Qr Qt 0 0 2 [some (vr 5 5), some (vr 9 k), some (vi a), some (vi (i : Int))] [] (Hp b s t mk df [some (ob 5 [vr 5 1, vr 5 2, vr 5 3, vr 5 4, vr 5 5, vi (sz : Int), vl wh]), some (ar 0 72 fa), some (ar 0 72 fb), some (ar 1 72 fw), some (ar 1 24 fl), some (ar 1 24 (mp (fun x => wt x * a) sl_ i))] tr di mo dy)) n ?_ (fun i hi ih => ?_) 0 (by omega)
  · refine aw_blk (pc' := 4) (ls' := [some (vr 5 5), some (vr 9 k), some (vi a), some (vi (n : Int))]) (st' := [vr 9 k, vi (n : Int)]) [.inl (.iload_n 3), .inl (.aload_n 1)] 2 _ _ (by decide +kernel) rfl ?_
    refine aw_get (idx := 55) (ci := 9) (f := 0) (by decide +kernel) (by decide +kernel) hA.1 rfl ?_
    refine aw_alen (by decide +kernel) hA.2.1 (fun r7 => ?_)
    refine aw_icmp_ge (o := 28) (tgt := 36) (by decide +kernel) (by decide) (by omega) (by omega) (fun _ => ?_) (fun c => absurd (by omega) c)
    exact aw_vret (by decide +kernel) rfl (by decide) (by decide) (hq _ _ rfl rfl)
  · have hw := (A.2.2.1 i hi).2
    have hW := A.2.2.2.2.1
    have hm := mulB (x := wt i) (y := a) (by omega) (by omega) (by omega) (by omega)
    refine aw_blk (pc' := 4) (ls' := [some (vr 5 5), some (vr 9 k), some (vi a), some (vi (i : Int))]) (st' := [vr 9 k, vi (i : Int)]) [.inl (.iload_n 3), .inl (.aload_n 1)] 2 _ _ (by decide +kernel) rfl ?_
    refine aw_get (idx := 55) (ci := 9) (f := 0) (by decide +kernel) (by decide +kernel) hA.1 rfl ?_
    refine aw_alen (by decide +kernel) hA.2.1 (fun r7 => ?_)
    refine aw_icmp_ge (o := 28) (tgt := 36) (by decide +kernel) (by decide) (by omega) (by omega) (fun c => absurd c (by omega)) (fun _ => ?_)
    refine aw_blk (pc' := 13) (ls' := [some (vr 5 5), some (vr 9 k), some (vi a), some (vi (i : Int))]) (st' := [vr 5 5, vi (i : Int)]) [.inl (.iload_n 3), .inl (.aload_n 0)] 11 _ _ (by decide +kernel) rfl ?_
    refine aw_alen (by decide +kernel) rfl (fun r13 => ?_)
    refine aw_icmp_ge (o := 22) (tgt := 36) (by decide +kernel) (by decide) (by omega) (by omega) (fun c => absurd c (by omega)) (fun _ => ?_)
    refine aw_blk (pc' := 20) (ls' := [some (vr 5 5), some (vr 9 k), some (vi a), some (vi (i : Int))]) (st' := [vr 9 k, vi (i : Int), vr 5 5]) [.inl (.aload_n 0), .inl (.iload_n 3), .inl (.aload_n 1)] 17 _ _ (by decide +kernel) rfl ?_
    refine aw_get (idx := 58) (ci := 9) (f := 1) (by decide +kernel) (by decide +kernel) hA.1 rfl ?_
    refine aw_blk (pc' := 24) (ls' := [some (vr 5 5), some (vr 9 k), some (vi a), some (vi (i : Int))]) (st' := [vi (i : Int), vr 9 k2, vi (i : Int), vr 5 5]) [.inl (.iload_n 3)] 23 _ _ (by decide +kernel) rfl ?_
    refine aw_iald (j := i) (by decide +kernel) hA.2.2 (by omega) (by omega) (fun r24 => ?_)
    refine aw_i2l (by decide +kernel) (by omega) ?_
    refine aw_blk (pc' := 27) (ls' := [some (vr 5 5), some (vr 9 k), some (vi a), some (vi (i : Int))]) (st' := [vi a, vl (wt i), vi (i : Int), vr 5 5]) [.inl (.iload_n 2)] 26 _ _ (by decide +kernel) rfl ?_
    refine aw_i2l (by decide +kernel) (by omega) ?_
    refine aw_blk (pc' := 29) (ls' := [some (vr 5 5), some (vr 9 k), some (vi a), some (vi (i : Int))]) (st' := [vl ((wt i) * a), vi (i : Int), vr 5 5]) [.inl (.lmul)] 28 _ _ (by decide +kernel) rfl ?_
    refine aw_last (j := i) (h' := Hp b s t mk df [some (ob 5 [vr 5 1, vr 5 2, vr 5 3, vr 5 4, vr 5 5, vi (sz : Int), vl wh]), some (ar 0 72 fa), some (ar 0 72 fb), some (ar 1 72 fw), some (ar 1 24 fl), some (ar 1 24 (va_up (mp (fun x => wt x * a) sl_ i) i ((wt i) * a)))] tr di mo dy) (by decide +kernel) rfl (by omega) (by omega) (by omega) rfl ?_
    refine aw_blk (pc' := 33) (ls' := [some (vr 5 5), some (vr 9 k), some (vi a), some (vi ((i : Int) + 1))]) (st' := []) [.inl (.iinc 3 1)] 30 _ _ (by decide +kernel) rfl ?_
    refine aw_goto (o := -31) (tgt := 2) (by decide +kernel) (by decide) ?_
    exact aw_eq rfl rfl (by rw [← mp_s]) ih

theorem m_J_pairUp_0 (hA : isD dy k k1 k2 n at_ wt W) (hA2 : isD dy q q1 q2 m at2 wt2 W2) (A : lwN n at_ wt W) (A2 : lwN m at2 wt2 W2) (hi : i < n) (hj : j < m) (hl : (if sl_ j < fl i then sl_ j else fl i) < 1) : ADet G M_J_pairUp [vr 5 0, vr 9 k, vi (i : Int), vr 9 q, vi (j : Int)] (Hp b s t mk df (sgJ (sz : Int) wh fa fb fw fl sl_) tr di mo dy) none (Hp b s t mk df (sgJ (sz : Int) wh fa fb fw fl sl_) tr di mo dy) := by
  refine am_det (by decide +kernel) (Nat.le_of_ble_eq_true rfl) (fun Qr Qt hq => ?_)
  have hn := A.1
  have hm := A2.1
  obtain ⟨l, el⟩ : ∃ l : Int, l = if sl_ j < fl i then sl_ j else fl i := ⟨_, rfl⟩
  rw [← el] at hl
  refine aw_blk (pc' := 5) (ls' := [some (vr 5 0), some (vr 9 k), some (vi (i : Int)), some (vr 9 q), some (vi (j : Int)), none, none]) (st' := [vi (i : Int), vr 5 4]) [.inl (.aload_n 0), .inr (22, 5, 3), .inl (.iload_n 2)] 0 _ _ (by decide +kernel) rfl ?_
  refine aw_lald (j := i) (by decide +kernel) rfl (by omega) (by omega) (fun r5 => ?_)
  refine aw_blk (pc' := 12) (ls' := [some (vr 5 0), some (vr 9 k), some (vi (i : Int)), some (vr 9 q), some (vi (j : Int)), none, none]) (st' := [vi (j : Int), vr 5 5, vl (fl i)]) [.inl (.aload_n 0), .inr (25, 5, 4), .inl (.iload 4)] 6 _ _ (by decide +kernel) rfl ?_
  refine aw_lald (j := j) (by decide +kernel) rfl (by omega) (by omega) (fun r12 => ?_)
  refine aw_mminJ (idx := 68) (by decide +kernel) (by decide +kernel) (Nat.le_of_ble_eq_true rfl) (by decide) (by decide) (by decide) (by omega) (by omega) ?_
  rw [← el]
  have hl2 : I64 l := by rw [el]; split <;> omega
  refine aw_blk (pc' := 21) (ls' := [some (vr 5 0), some (vr 9 k), some (vi (i : Int)), some (vr 9 q), some (vi (j : Int)), some (vl l), none]) (st' := [vl 1, vl l]) [.inl (.lstore 5), .inl (.lload 5), .inl (.lconst 1)] 16 _ _ (by decide +kernel) rfl ?_
  refine aw_lcmp (by decide +kernel) (by omega) (by omega) ?_
  refine aw_if_lt (o := 12) (tgt := 34) (by decide +kernel) (by decide) (cmpI_in _ _) (fun _ => ?_) (fun c => absurd ((cmpI_lt _ _).mpr (by omega)) c)
  exact aw_vret (by decide +kernel) rfl (by decide) (by decide) (hq _ _ rfl rfl)

theorem m_J_pairUp_1 {l : Int} (hA : isD dy k k1 k2 n at_ wt W) (hA2 : isD dy q q1 q2 m at2 wt2 W2) (A : lwN n at_ wt W) (A2 : lwN m at2 wt2 W2) (hi : i < n) (hj : j < m) (hs : sz < 72) (hf : 0 ≤ fl i) (hs2 : 0 ≤ sl_ j) (el : l = if sl_ j < fl i then sl_ j else fl i) (hl : 1 ≤ l) : ADet G M_J_pairUp [vr 5 0, vr 9 k, vi (i : Int), vr 9 q, vi (j : Int)] (Hp b s t mk df (sgJ (sz : Int) wh fa fb fw fl sl_) tr di mo dy) none (Hp b s t mk df (sgJ ((sz : Int) + 1) wh (va_up fa sz (at_ i)) (va_up fb sz (at2 j)) (va_up fw sz l) (va_up fl i (fl i - l)) (va_up sl_ j (sl_ j - l))) tr di mo dy) := by
  refine am_det (by decide +kernel) (Nat.le_of_ble_eq_true rfl) (fun Qr Qt hq => ?_)
  have hn := A.1
  have hm := A2.1
  refine aw_blk (pc' := 5) (ls' := [some (vr 5 0), some (vr 9 k), some (vi (i : Int)), some (vr 9 q), some (vi (j : Int)), none, none]) (st' := [vi (i : Int), vr 5 4]) [.inl (.aload_n 0), .inr (22, 5, 3), .inl (.iload_n 2)] 0 _ _ (by decide +kernel) rfl ?_
  refine aw_lald (j := i) (by decide +kernel) rfl (by omega) (by omega) (fun r5 => ?_)
  refine aw_blk (pc' := 12) (ls' := [some (vr 5 0), some (vr 9 k), some (vi (i : Int)), some (vr 9 q), some (vi (j : Int)), none, none]) (st' := [vi (j : Int), vr 5 5, vl (fl i)]) [.inl (.aload_n 0), .inr (25, 5, 4), .inl (.iload 4)] 6 _ _ (by decide +kernel) rfl ?_
  refine aw_lald (j := j) (by decide +kernel) rfl (by omega) (by omega) (fun r12 => ?_)
  refine aw_mminJ (idx := 68) (by decide +kernel) (by decide +kernel) (Nat.le_of_ble_eq_true rfl) (by decide) (by decide) (by decide) (by omega) (by omega) ?_
  rw [← el]
  have hl3 : I64 l := by rw [el]; split <;> omega
  refine aw_blk (pc' := 21) (ls' := [some (vr 5 0), some (vr 9 k), some (vi (i : Int)), some (vr 9 q), some (vi (j : Int)), some (vl l), none]) (st' := [vl 1, vl l]) [.inl (.lstore 5), .inl (.lload 5), .inl (.lconst 1)] 16 _ _ (by decide +kernel) rfl ?_
  refine aw_lcmp (by decide +kernel) (by omega) (by omega) ?_
  refine aw_if_lt (o := 12) (tgt := 34) (by decide +kernel) (by decide) (cmpI_in _ _) (fun c => absurd ((cmpI_lt _ _).mp c) (by omega)) (fun _ => ?_)
  refine aw_blk (pc' := 31) (ls' := [some (vr 5 0), some (vr 9 k), some (vi (i : Int)), some (vr 9 q), some (vi (j : Int)), some (vl l), none]) (st' := [vi 72, vi (sz : Int)]) [.inl (.aload_n 0), .inr (28, 5, 5), .inl (.bipush 72)] 25 _ _ (by decide +kernel) rfl ?_
  refine aw_icmp_lt (o := 4) (tgt := 35) (by decide +kernel) (by decide) (by omega) (by omega) (fun _ => ?_) (fun c => absurd (by omega) c)
  refine aw_blk (pc' := 41) (ls' := [some (vr 5 0), some (vr 9 k), some (vi (i : Int)), some (vr 9 q), some (vi (j : Int)), some (vl l), none]) (st' := [vi (i : Int), vr 5 4, vi (i : Int), vr 5 4]) [.inl (.aload_n 0), .inr (22, 5, 3), .inl (.iload_n 2), .inl (.dup2)] 35 _ _ (by decide +kernel) rfl ?_
  refine aw_lald (j := i) (by decide +kernel) rfl (by omega) (by omega) (fun r41 => ?_)
  refine aw_blk (pc' := 45) (ls' := [some (vr 5 0), some (vr 9 k), some (vi (i : Int)), some (vr 9 q), some (vi (j : Int)), some (vl l), none]) (st' := [vl ((fl i) - l), vi (i : Int), vr 5 4]) [.inl (.lload 5), .inl (.lsub)] 42 _ _ (by decide +kernel) rfl ?_
  refine aw_last (j := i) (h' := Hp b s t mk df [some (ob 5 [vr 5 1, vr 5 2, vr 5 3, vr 5 4, vr 5 5, vi (sz : Int), vl wh]), some (ar 0 72 fa), some (ar 0 72 fb), some (ar 1 72 fw), some (ar 1 24 (va_up fl i ((fl i) - l))), some (ar 1 24 sl_)] tr di mo dy) (by decide +kernel) rfl (by omega) (by omega) (by omega) rfl ?_
  refine aw_blk (pc' := 53) (ls' := [some (vr 5 0), some (vr 9 k), some (vi (i : Int)), some (vr 9 q), some (vi (j : Int)), some (vl l), none]) (st' := [vi (j : Int), vr 5 5, vi (j : Int), vr 5 5]) [.inl (.aload_n 0), .inr (25, 5, 4), .inl (.iload 4), .inl (.dup2)] 46 _ _ (by decide +kernel) rfl ?_
  refine aw_lald (j := j) (by decide +kernel) rfl (by omega) (by omega) (fun r53 => ?_)
  refine aw_blk (pc' := 57) (ls' := [some (vr 5 0), some (vr 9 k), some (vi (i : Int)), some (vr 9 q), some (vi (j : Int)), some (vl l), none]) (st' := [vl ((sl_ j) - l), vi (j : Int), vr 5 5]) [.inl (.lload 5), .inl (.lsub)] 54 _ _ (by decide +kernel) rfl ?_
  refine aw_last (j := j) (h' := Hp b s t mk df [some (ob 5 [vr 5 1, vr 5 2, vr 5 3, vr 5 4, vr 5 5, vi (sz : Int), vl wh]), some (ar 0 72 fa), some (ar 0 72 fb), some (ar 1 72 fw), some (ar 1 24 (va_up fl i ((fl i) - l))), some (ar 1 24 (va_up sl_ j ((sl_ j) - l)))] tr di mo dy) (by decide +kernel) rfl (by omega) (by omega) (by omega) rfl ?_
  refine aw_blk (pc' := 67) (ls' := [some (vr 5 0), some (vr 9 k), some (vi (i : Int)), some (vr 9 q), some (vi (j : Int)), some (vl l), none]) (st' := [vr 9 k, vi (sz : Int), vr 5 1]) [.inl (.aload_n 0), .inr (11, 5, 0), .inl (.aload_n 0), .inr (28, 5, 5), .inl (.aload_n 1)] 58 _ _ (by decide +kernel) rfl ?_
  refine aw_get (idx := 55) (ci := 9) (f := 0) (by decide +kernel) (by decide +kernel) hA.1 rfl ?_
  refine aw_blk (pc' := 71) (ls' := [some (vr 5 0), some (vr 9 k), some (vi (i : Int)), some (vr 9 q), some (vi (j : Int)), some (vl l), none]) (st' := [vi (i : Int), vr 9 k1, vi (sz : Int), vr 5 1]) [.inl (.iload_n 2)] 70 _ _ (by decide +kernel) rfl ?_
  refine aw_iald (j := i) (by decide +kernel) hA.2.1 (by omega) (by omega) (fun r71 => ?_)
  refine aw_iast (j := sz) (h' := Hp b s t mk df [some (ob 5 [vr 5 1, vr 5 2, vr 5 3, vr 5 4, vr 5 5, vi (sz : Int), vl wh]), some (ar 0 72 (va_up fa sz (at_ i))), some (ar 0 72 fb), some (ar 1 72 fw), some (ar 1 24 (va_up fl i ((fl i) - l))), some (ar 1 24 (va_up sl_ j ((sl_ j) - l)))] tr di mo dy) (by decide +kernel) rfl (by omega) (by omega) (by omega) rfl ?_
  refine aw_blk (pc' := 82) (ls' := [some (vr 5 0), some (vr 9 k), some (vi (i : Int)), some (vr 9 q), some (vi (j : Int)), some (vl l), none]) (st' := [vr 9 q, vi (sz : Int), vr 5 2]) [.inl (.aload_n 0), .inr (15, 5, 1), .inl (.aload_n 0), .inr (28, 5, 5), .inl (.aload_n 3)] 73 _ _ (by decide +kernel) rfl ?_
  refine aw_get (idx := 55) (ci := 9) (f := 0) (by decide +kernel) (by decide +kernel) hA2.1 rfl ?_
  refine aw_blk (pc' := 87) (ls' := [some (vr 5 0), some (vr 9 k), some (vi (i : Int)), some (vr 9 q), some (vi (j : Int)), some (vl l), none]) (st' := [vi (j : Int), vr 9 q1, vi (sz : Int), vr 5 2]) [.inl (.iload 4)] 85 _ _ (by decide +kernel) rfl ?_
  refine aw_iald (j := j) (by decide +kernel) hA2.2.1 (by omega) (by omega) (fun r87 => ?_)
  refine aw_iast (j := sz) (h' := Hp b s t mk df [some (ob 5 [vr 5 1, vr 5 2, vr 5 3, vr 5 4, vr 5 5, vi (sz : Int), vl wh]), some (ar 0 72 (va_up fa sz (at_ i))), some (ar 0 72 (va_up fb sz (at2 j))), some (ar 1 72 fw), some (ar 1 24 (va_up fl i ((fl i) - l))), some (ar 1 24 (va_up sl_ j ((sl_ j) - l)))] tr di mo dy) (by decide +kernel) rfl (by omega) (by omega) (by omega) rfl ?_
  refine aw_blk (pc' := 99) (ls' := [some (vr 5 0), some (vr 9 k), some (vi (i : Int)), some (vr 9 q), some (vi (j : Int)), some (vl l), none]) (st' := [vl l, vi (sz : Int), vr 5 3]) [.inl (.aload_n 0), .inr (18, 5, 2), .inl (.aload_n 0), .inr (28, 5, 5), .inl (.lload 5)] 89 _ _ (by decide +kernel) rfl ?_
  refine aw_last (j := sz) (h' := Hp b s t mk df [some (ob 5 [vr 5 1, vr 5 2, vr 5 3, vr 5 4, vr 5 5, vi (sz : Int), vl wh]), some (ar 0 72 (va_up fa sz (at_ i))), some (ar 0 72 (va_up fb sz (at2 j))), some (ar 1 72 (va_up fw sz l)), some (ar 1 24 (va_up fl i ((fl i) - l))), some (ar 1 24 (va_up sl_ j ((sl_ j) - l)))] tr di mo dy) (by decide +kernel) rfl (by omega) (by omega) (by omega) rfl ?_
  refine aw_blk (pc' := 107) (ls' := [some (vr 5 0), some (vr 9 k), some (vi (i : Int)), some (vr 9 q), some (vi (j : Int)), some (vl l), none]) (st' := [vi ((sz : Int) + 1), vr 5 0]) [.inl (.aload_n 0), .inl (.dup), .inr (28, 5, 5), .inl (.iconst 1), .inl (.iadd)] 100 _ _ (by decide +kernel) rfl ?_
  refine aw_put (idx := 28) (ci := 5) (k := 5) (h' := Hp b s t mk df [some (ob 5 [vr 5 1, vr 5 2, vr 5 3, vr 5 4, vr 5 5, vi ((sz : Int) + 1), vl wh]), some (ar 0 72 (va_up fa sz (at_ i))), some (ar 0 72 (va_up fb sz (at2 j))), some (ar 1 72 (va_up fw sz l)), some (ar 1 24 (va_up fl i ((fl i) - l))), some (ar 1 24 (va_up sl_ j ((sl_ j) - l)))] tr di mo dy) (by decide +kernel) (by decide +kernel) rfl (Nat.le_of_ble_eq_true rfl) (show I32 _ from by omega) rfl ?_
  exact aw_vret (by decide +kernel) rfl (by decide) (by decide) (hq _ _ rfl rfl)

theorem l_J_wo {Qr : Option AV → HT → Prop} {Qt : HT → Prop} (hn : sz ≤ 72) (ha : I32 a) (hc : I32 c) : ∀ (e k : Nat), k + e = sz → (∀ x g, x = some (vl (fnd fa fb fw a c e k)) → g = Hp b s t mk df (sgJ (sz : Int) wh fa fb fw fl sl_) tr di mo dy → Qr x g) → AW G M_J_weightOf Qr Qt 0 0 2 [some (vr 5 0), some (vi a), some (vi c), some (vi (k : Int))] [] (Hp b s t mk df (sgJ (sz : Int) wh fa fb fw fl sl_) tr di mo dy) := by
  intro e
  induction e with
  | zero =>
    intro k hk hq
    refine aw_blk (pc' := 7) (ls' := [some (vr 5 0), some (vi a), some (vi c), some (vi (k : Int))]) (st' := [vi (sz : Int), vi (k : Int)]) [.inl (.iload_n 3), .inl (.aload_n 0), .inr (28, 5, 5)] 2 _ _ (by decide +kernel) rfl ?_
    refine aw_icmp_ge (o := 36) (tgt := 43) (by decide +kernel) (by decide) (by omega) (by omega) (fun _ => ?_) (fun c => absurd (by omega) c)
    refine aw_blk (pc' := 44) (ls' := [some (vr 5 0), some (vi a), some (vi c), some (vi (k : Int))]) (st' := [vl 0]) [.inl (.lconst 0)] 43 _ _ (by decide +kernel) rfl ?_
    exact aw_lret (by decide +kernel) rfl (by decide) (by decide) (hq _ _ rfl rfl)
  | succ e ih =>
    intro k hk hq
    refine aw_blk (pc' := 7) (ls' := [some (vr 5 0), some (vi a), some (vi c), some (vi (k : Int))]) (st' := [vi (sz : Int), vi (k : Int)]) [.inl (.iload_n 3), .inl (.aload_n 0), .inr (28, 5, 5)] 2 _ _ (by decide +kernel) rfl ?_
    refine aw_icmp_ge (o := 36) (tgt := 43) (by decide +kernel) (by decide) (by omega) (by omega) (fun c => absurd c (by omega)) (fun _ => ?_)
    refine aw_blk (pc' := 15) (ls' := [some (vr 5 0), some (vi a), some (vi c), some (vi (k : Int))]) (st' := [vi (k : Int), vr 5 1]) [.inl (.aload_n 0), .inr (11, 5, 0), .inl (.iload_n 3)] 10 _ _ (by decide +kernel) rfl ?_
    refine aw_iald (j := k) (by decide +kernel) rfl (by omega) (by omega) (fun r15 => ?_)
    refine aw_blk (pc' := 17) (ls' := [some (vr 5 0), some (vi a), some (vi c), some (vi (k : Int))]) (st' := [vi a, vi (fa k)]) [.inl (.iload_n 1)] 16 _ _ (by decide +kernel) rfl ?_
    refine aw_icmp_ne (o := 20) (tgt := 37) (by decide +kernel) (by decide) (by omega) (by omega) (fun c17 => ?_) (fun c17 => ?_)
    · refine aw_blk (pc' := 40) (ls' := [some (vr 5 0), some (vi a), some (vi c), some (vi ((k : Int) + 1))]) (st' := []) [.inl (.iinc 3 1)] 37 _ _ (by decide +kernel) rfl ?_
      refine aw_goto (o := -38) (tgt := 2) (by decide +kernel) (by decide) ?_
      refine aw_eq rfl rfl rfl (ih (k + 1) (by omega) (fun x g e1 e2 => hq x g ?_ e2))
      rw [e1, fnd, if_neg (by omega)]
    · refine aw_blk (pc' := 25) (ls' := [some (vr 5 0), some (vi a), some (vi c), some (vi (k : Int))]) (st' := [vi (k : Int), vr 5 2]) [.inl (.aload_n 0), .inr (15, 5, 1), .inl (.iload_n 3)] 20 _ _ (by decide +kernel) rfl ?_
      refine aw_iald (j := k) (by decide +kernel) rfl (by omega) (by omega) (fun r25 => ?_)
      refine aw_blk (pc' := 27) (ls' := [some (vr 5 0), some (vi a), some (vi c), some (vi (k : Int))]) (st' := [vi c, vi (fb k)]) [.inl (.iload_n 2)] 26 _ _ (by decide +kernel) rfl ?_
      refine aw_icmp_ne (o := 10) (tgt := 37) (by decide +kernel) (by decide) (by omega) (by omega) (fun c27 => ?_) (fun c27 => ?_)
      · refine aw_blk (pc' := 40) (ls' := [some (vr 5 0), some (vi a), some (vi c), some (vi ((k : Int) + 1))]) (st' := []) [.inl (.iinc 3 1)] 37 _ _ (by decide +kernel) rfl ?_
        refine aw_goto (o := -38) (tgt := 2) (by decide +kernel) (by decide) ?_
        refine aw_eq rfl rfl rfl (ih (k + 1) (by omega) (fun x g e1 e2 => hq x g ?_ e2))
        rw [e1, fnd, if_neg (by omega)]
      · refine aw_blk (pc' := 35) (ls' := [some (vr 5 0), some (vi a), some (vi c), some (vi (k : Int))]) (st' := [vi (k : Int), vr 5 3]) [.inl (.aload_n 0), .inr (18, 5, 2), .inl (.iload_n 3)] 30 _ _ (by decide +kernel) rfl ?_
        refine aw_lald (j := k) (by decide +kernel) rfl (by omega) (by omega) (fun r35 => ?_)
        exact aw_lret (by decide +kernel) rfl (by decide) (by decide) (hq _ _ (by rw [fnd, if_pos (by omega)]) rfl)
theorem m_J_weightOf (hn : sz ≤ 72) (ha : I32 a) (hc : I32 c) : ADet G M_J_weightOf [vr 5 0, vi a, vi c] (Hp b s t mk df (sgJ (sz : Int) wh fa fb fw fl sl_) tr di mo dy) (some (vl (fnd fa fb fw a c sz 0))) (Hp b s t mk df (sgJ (sz : Int) wh fa fb fw fl sl_) tr di mo dy) := by
  refine am_det (by decide +kernel) (Nat.le_of_ble_eq_true rfl) (fun Qr Qt hq => ?_)
  refine aw_blk (pc' := 2) (ls' := [some (vr 5 0), some (vi a), some (vi c), some (vi 0)]) (st' := []) [.inl (.iconst 0), .inl (.istore_n 3)] 0 _ _ (by decide +kernel) rfl ?_
  exact l_J_wo hn ha hc sz 0 (by omega) hq

theorem up_ge {F : Nat → Int} {N k : Nat} {x : Int} (h : ∀ i, i < N → 0 ≤ F i) (hx : 0 ≤ x) : ∀ i, i < N → 0 ≤ va_up F k x i := by
  intro i hi
  simp only [va_up]
  split
  · exact hx
  · exact h i hi
theorem l_J_nw {Qr : Option AV → HT → Prop} {Qt : HT → Prop} (hA : isD dy k k1 k2 n at_ wt W) (hA2 : isD dy q q1 q2 m at2 wt2 W2) (A : lwN n at_ wt W) (A2 : lwN m at2 wt2 W2) : ∀ (e i j : Nat) (js : List T3) (fa fb fw fl sl_ : Nat → Int), (n - i) + (m - j) < e → i ≤ n → j ≤ m → (∀ k, k < n → 0 ≤ fl k) → (∀ k, k < m → 0 ≤ sl_ k) → jr fa fb fw js → js.length ≤ 24 + i + j → (∀ js2 fa fb fw fl2 sl2, js2 = js ++ nw (tab at_ fl i (n - i)) (tab at2 sl_ j (m - j)) → jr fa fb fw js2 → Qr none (Hp b s t mk df (sgJ (js2.length : Int) wh fa fb fw fl2 sl2) tr di mo dy)) → AW G M_J_pairNorthwest Qr Qt 0 0 5 [some (vr 5 0), some (vr 9 k), some (vr 9 q), some (vi (i : Int)), some (vi (j : Int))] [] (Hp b s t mk df (sgJ (js.length : Int) wh fa fb fw fl sl_) tr di mo dy) := by
  intro e
  induction e with
  | zero =>
    intro i j js fa fb fw fl sl_ he hi hj hF hS hR hz hq
    exact absurd he (by omega)
  | succ e ih =>
    intro i j js fa fb fw fl sl_ he hi hj hF hS hR hz hq
    have hn := A.1
    have hm := A2.1
    refine aw_blk (pc' := 7) (ls' := [some (vr 5 0), some (vr 9 k), some (vr 9 q), some (vi (i : Int)), some (vi (j : Int))]) (st' := [vr 9 k, vi (i : Int)]) [.inl (.iload_n 3), .inl (.aload_n 1)] 5 _ _ (by decide +kernel) rfl ?_
    refine aw_get (idx := 55) (ci := 9) (f := 0) (by decide +kernel) (by decide +kernel) hA.1 rfl ?_
    refine aw_alen (by decide +kernel) hA.2.1 (fun r10 => ?_)
    refine aw_icmp_ge (o := 45) (tgt := 56) (by decide +kernel) (by decide) (by omega) (by omega) (fun c11 => ?_) (fun c11 => ?_)
    · have e1 : n - i = 0 := by omega
      rw [e1] at hq
      exact aw_vret (by decide +kernel) rfl (by decide) (by decide) (hq js fa fb fw fl sl_ (by simp [tab, nw]) hR)
    · refine aw_blk (pc' := 17) (ls' := [some (vr 5 0), some (vr 9 k), some (vr 9 q), some (vi (i : Int)), some (vi (j : Int))]) (st' := [vr 9 q, vi (j : Int)]) [.inl (.iload 4), .inl (.aload_n 2)] 14 _ _ (by decide +kernel) rfl ?_
      refine aw_get (idx := 55) (ci := 9) (f := 0) (by decide +kernel) (by decide +kernel) hA2.1 rfl ?_
      refine aw_alen (by decide +kernel) hA2.2.1 (fun r20 => ?_)
      refine aw_icmp_ge (o := 35) (tgt := 56) (by decide +kernel) (by decide) (by omega) (by omega) (fun c21 => ?_) (fun c21 => ?_)
      · have e1 : m - j = 0 := by omega
        rw [e1] at hq
        exact aw_vret (by decide +kernel) rfl (by decide) (by decide) (hq js fa fb fw fl sl_ (by obtain ⟨d, hd⟩ : ∃ d, n - i = d + 1 := ⟨n - i - 1, by omega⟩; simp [hd, tab, nw]) hR)
      · refine aw_blk (pc' := 30) (ls' := [some (vr 5 0), some (vr 9 k), some (vr 9 q), some (vi (i : Int)), some (vi (j : Int))]) (st' := [vi (j : Int), vr 9 q, vi (i : Int), vr 9 k, vr 5 0]) [.inl (.aload_n 0), .inl (.aload_n 1), .inl (.iload_n 3), .inl (.aload_n 2), .inl (.iload 4)] 24 _ _ (by decide +kernel) rfl ?_
        obtain ⟨d, hd⟩ : ∃ d, n - i = d + 1 := ⟨n - i - 1, by omega⟩
        obtain ⟨d2, hd2⟩ : ∃ d, m - j = d + 1 := ⟨m - j - 1, by omega⟩
        have hd3 : n - (i + 1) = d := by omega
        have hd4 : m - (j + 1) = d2 := by omega
        have hF1 := hF i (by omega)
        have hS1 := hS j (by omega)
        obtain ⟨l, el⟩ : ∃ l : Int, l = if sl_ j < fl i then sl_ j else fl i := ⟨_, rfl⟩
        rcases Int.lt_or_le l 1 with c9 | c9
        · refine aw_dV (cs' := 0) (sl' := 0) (pc' := 33) (st' := []) (idx := 64) (as := [vr 9 k, vi (i : Int), vr 9 q, vi (j : Int)]) (st := []) (m_J_pairUp_0 hA hA2 A A2 (by omega) (by omega) (by rw [← el]; exact c9)) (by decide +kernel) (show vOK "ChanceBench$Joint" 64 M_J_pairUp 4 = true by decide +kernel) rfl rfl rfl (Nat.le_of_ble_eq_true rfl) (by decide) (by decide) (by decide) rfl rfl rfl rfl ?_
          refine aw_blk (pc' := 38) (ls' := [some (vr 5 0), some (vr 9 k), some (vr 9 q), some (vi (i : Int)), some (vi (j : Int))]) (st' := [vi (i : Int), vr 5 4]) [.inl (.aload_n 0), .inr (22, 5, 3), .inl (.iload_n 3)] 33 _ _ (by decide +kernel) rfl ?_
          refine aw_lald (j := i) (by decide +kernel) rfl (by omega) (by omega) (fun r38 => ?_)
          refine aw_blk (pc' := 40) (ls' := [some (vr 5 0), some (vr 9 k), some (vr 9 q), some (vi (i : Int)), some (vi (j : Int))]) (st' := [vl 0, vl (fl i)]) [.inl (.lconst 0)] 39 _ _ (by decide +kernel) rfl ?_
          refine aw_lcmp (by decide +kernel) (by omega) (by omega) ?_
          refine aw_if_ne (o := 9) (tgt := 50) (by decide +kernel) (by decide) (cmpI_in _ _) (fun c40 => ?_) (fun c40 => ?_)
          · rw [cmpI_eq] at c40
            refine aw_blk (pc' := 53) (ls' := [some (vr 5 0), some (vr 9 k), some (vr 9 q), some (vi (i : Int)), some (vi ((j : Int) + 1))]) (st' := []) [.inl (.iinc 4 1)] 50 _ _ (by decide +kernel) rfl ?_
            refine aw_goto (o := -48) (tgt := 5) (by decide +kernel) (by decide) ?_
            exact ih i (j + 1) js fa fb fw fl sl_ (by omega) (by omega) (by omega) hF hS hR (by omega) (fun js2 a1 a2 a3 a4 a5 e1 e2 => hq js2 a1 a2 a3 a4 a5 (by rw [e1, hd, hd2, hd4]; simp only [tab]; rw [nw, if_neg (by split at el <;> omega), if_neg (by split at el <;> omega)]; rw [show sl_ j = 0 by split at el <;> omega, Int.sub_zero]; simp) e2)
          · rw [cmpI_eq] at c40
            refine aw_blk (pc' := 47) (ls' := [some (vr 5 0), some (vr 9 k), some (vr 9 q), some (vi ((i : Int) + 1)), some (vi (j : Int))]) (st' := []) [.inl (.iinc 3 1)] 44 _ _ (by decide +kernel) rfl ?_
            refine aw_goto (o := -42) (tgt := 5) (by decide +kernel) (by decide) ?_
            exact ih (i + 1) j js fa fb fw fl sl_ (by omega) (by omega) (by omega) hF hS hR (by omega) (fun js2 a1 a2 a3 a4 a5 e1 e2 => hq js2 a1 a2 a3 a4 a5 (by rw [e1, hd, hd2, hd3]; simp only [tab]; rw [nw, if_pos (by split at el <;> omega), if_neg (by omega), show fl i = 0 by omega, Int.sub_zero]; simp) e2)
        · refine aw_dV (cs' := 0) (sl' := 0) (pc' := 33) (st' := []) (idx := 64) (as := [vr 9 k, vi (i : Int), vr 9 q, vi (j : Int)]) (st := []) (m_J_pairUp_1 hA hA2 A A2 (by omega) (by omega) (by omega) (by omega) (by omega) el c9) (by decide +kernel) (show vOK "ChanceBench$Joint" 64 M_J_pairUp 4 = true by decide +kernel) rfl rfl rfl (Nat.le_of_ble_eq_true rfl) (by decide) (by decide) (by decide) rfl rfl rfl rfl ?_
          refine aw_blk (pc' := 38) (ls' := [some (vr 5 0), some (vr 9 k), some (vr 9 q), some (vi (i : Int)), some (vi (j : Int))]) (st' := [vi (i : Int), vr 5 4]) [.inl (.aload_n 0), .inr (22, 5, 3), .inl (.iload_n 3)] 33 _ _ (by decide +kernel) rfl ?_
          refine aw_lald (j := i) (by decide +kernel) rfl (by omega) (by omega) (fun r38 => ?_)
          rw [va_eq] at r38 ⊢
          refine aw_blk (pc' := 40) (ls' := [some (vr 5 0), some (vr 9 k), some (vr 9 q), some (vi (i : Int)), some (vi (j : Int))]) (st' := [vl 0, vl (fl i - l)]) [.inl (.lconst 0)] 39 _ _ (by decide +kernel) rfl ?_
          have hl5 : l ≤ fl i ∧ l ≤ sl_ j := by rw [el]; split <;> omega
          refine aw_lcmp (by decide +kernel) (by omega) (by omega) ?_
          refine aw_if_ne (o := 9) (tgt := 50) (by decide +kernel) (by decide) (cmpI_in _ _) (fun c40 => ?_) (fun c40 => ?_)
          · rw [cmpI_eq] at c40
            refine aw_blk (pc' := 53) (ls' := [some (vr 5 0), some (vr 9 k), some (vr 9 q), some (vi (i : Int)), some (vi ((j : Int) + 1))]) (st' := []) [.inl (.iinc 4 1)] 50 _ _ (by decide +kernel) rfl ?_
            refine aw_goto (o := -48) (tgt := 5) (by decide +kernel) (by decide) ?_
            refine aw_eq rfl rfl (by simp) (ih (i) (j + 1) (js ++ [(at_ i, at2 j, l)]) (va_up fa js.length (at_ i)) (va_up fb js.length (at2 j)) (va_up fw js.length l) (va_up fl i (fl i - l)) (va_up sl_ j (sl_ j - l)) (by omega) (by omega) (by omega) (up_ge hF (by omega)) (up_ge hS (by omega)) (jr_s hR) (by simp; omega) (fun js2 a1 a2 a3 a4 a5 e1 e2 => hq js2 a1 a2 a3 a4 a5 ?_ e2))
            rw [e1, hd, hd2, hd4, List.append_assoc]
            congr 1
            simp only [tab, va_eq]
            rw [nw, if_neg (by split at el <;> omega), if_pos (by split at el <;> omega), tab_up (show j < j + 1 by omega), show sl_ j = l by split at el <;> omega]
            simp [tab_up (show i < i + 1 by omega), tab_up (show j < j + 1 by omega)]
          · rw [cmpI_eq] at c40
            refine aw_blk (pc' := 47) (ls' := [some (vr 5 0), some (vr 9 k), some (vr 9 q), some (vi ((i : Int) + 1)), some (vi (j : Int))]) (st' := []) [.inl (.iinc 3 1)] 44 _ _ (by decide +kernel) rfl ?_
            refine aw_goto (o := -42) (tgt := 5) (by decide +kernel) (by decide) ?_
            refine aw_eq rfl rfl (by simp) (ih (i + 1) (j) (js ++ [(at_ i, at2 j, l)]) (va_up fa js.length (at_ i)) (va_up fb js.length (at2 j)) (va_up fw js.length l) (va_up fl i (fl i - l)) (va_up sl_ j (sl_ j - l)) (by omega) (by omega) (by omega) (up_ge hF (by omega)) (up_ge hS (by omega)) (jr_s hR) (by simp; omega) (fun js2 a1 a2 a3 a4 a5 e1 e2 => hq js2 a1 a2 a3 a4 a5 ?_ e2))
            rw [e1, hd, hd2, hd3, List.append_assoc]
            congr 1
            simp only [tab, va_eq]
            rw [nw, if_pos (by split at el <;> omega), if_pos (by split at el <;> omega), tab_up (show i < i + 1 by omega), show fl i = l by split at el <;> omega]
            simp [tab_up (show i < i + 1 by omega), tab_up (show j < j + 1 by omega)]
end
end
section
def mn (x y : Int) : Int := if y < x then y else x
theorem mn_le (x y : Int) : mn x y ≤ x ∧ mn x y ≤ y := by unfold mn; split <;> omega
theorem mn_or (x y : Int) : mn x y = x ∨ mn x y = y := by unfold mn; split <;> simp
section
variable {f g at_ wt at2 wt2 : Nat → Int} {n m i j : Nat} {v W W2 : Int}
theorem den_0 : ∀ {n : Nat}, (∀ k, k < n → f k ≠ v) → den f g n v = 0
  | 0, _ => rfl
  | n + 1, h => by rw [den_s, den_0 (fun k hk => h k (by omega)), if_neg (h n (by omega))]; rfl
theorem den_at (hs : inc f n) (hj : j < n) : den f g n (f j) = g j := by
  have : ∀ d, j + 1 + d ≤ n → den f g (j + 1 + d) (f j) = g j := by
    intro d
    induction d with
    | zero =>
      intro h
      rw [Nat.add_zero, den_s, den_0 (fun k hk => by have := hs k j hk hj; omega), if_pos rfl]; omega
    | succ d ih =>
      intro h
      rw [← Nat.add_assoc, den_s, ih (by omega), if_neg (by have := hs j (j + 1 + d) (by omega) (by omega); omega)]; omega
  have := this (n - (j + 1)) (by omega)
  rw [show j + 1 + (n - (j + 1)) = n by omega] at this
  exact this
theorem ixO_no (hs : inc f n) (h : ixO f n v = -1) : ∀ k, k < n → f k ≠ v := by
  intro k hk e
  unfold ixO at h
  split at h
  · omega
  · rename_i hc
    have h1 : lb f v n ≤ k := by
      rcases Nat.lt_or_ge k (lb f v n) with z | z
      · have := lb_lt hs z; omega
      · exact z
    have h2 := lb_ge (f := f) (v := v) (n := n) (Nat.le_refl _) (show lb f v n < n by omega)
    refine hc ⟨by omega, ?_⟩
    rcases Nat.lt_or_ge (lb f v n) k with z | z
    · have := hs _ k z hk; omega
    · rw [show lb f v n = k by omega]; exact e
theorem ixO_yes (h : ixO f n v ≠ -1) : ∃ j : Nat, j < n ∧ ixO f n v = (j : Int) ∧ f j = v := by
  unfold ixO at h ⊢
  split
  · rename_i hc; exact ⟨lb f v n, hc.1, rfl, hc.2⟩
  · rename_i hc; rw [if_neg hc] at h; exact absurd rfl h
end
/-- what of a value goes to its like -/
def zL (at_ wt at2 wt2 : Nat → Int) (m : Nat) (W W2 : Int) (i : Nat) : Int := mn (wt i * W2) (den at2 wt2 m (at_ i) * W)
def lkL (at_ wt at2 wt2 : Nat → Int) (m : Nat) (W W2 : Int) : Nat → List T3
  | 0 => []
  | i + 1 => lkL at_ wt at2 wt2 m W W2 i ++ (if 1 ≤ zL at_ wt at2 wt2 m W W2 i then [(at_ i, at_ i, zL at_ wt at2 wt2 m W W2 i)] else [])
def lfA (at_ wt at2 wt2 : Nat → Int) (m : Nat) (W W2 : Int) (i k : Nat) : Int := if k < i then wt k * W2 - zL at_ wt at2 wt2 m W W2 k else wt k * W2
def lfB (at_ wt at2 wt2 : Nat → Int) (W W2 : Int) (i k : Nat) : Int := wt2 k * W - mn (den at_ wt i (at2 k) * W2) (wt2 k * W)
theorem lkL_len (at_ wt at2 wt2 : Nat → Int) (m : Nat) (W W2 : Int) : ∀ i, (lkL at_ wt at2 wt2 m W W2 i).length ≤ i
  | 0 => Nat.le_refl 0
  | i + 1 => by have := lkL_len at_ wt at2 wt2 m W W2 i; simp only [lkL, List.length_append]; split <;> simp <;> omega
/-- the joint's pairs -/
def jn (n m : Nat) (at_ wt at2 wt2 : Nat → Int) (W W2 : Int) (lk : Bool) : List T3 :=
  if lk then lkL at_ wt at2 wt2 m W W2 n ++ nw (tab at_ (lfA at_ wt at2 wt2 m W W2 n) 0 n) (tab at2 (lfB at_ wt at2 wt2 W W2 n) 0 m)
  else nw (tab at_ (fun k => wt k * W2) 0 n) (tab at2 (fun k => wt2 k * W) 0 m)
theorem tab_ext {f g g' : Nat → Int} : ∀ {d i : Nat}, (∀ k, i ≤ k → k < i + d → g k = g' k) → tab f g i d = tab f g' i d
  | 0, _, _ => rfl
  | d + 1, i, h => by simp only [tab]; rw [h i (by omega) (by omega), tab_ext (fun k a b => h k (by omega) (by omega))]
section
variable {G : GT} {h : HT} {b s t mk df jo tr di mo dy : SG} {a c d : Int} {n k k1 k2 q q1 q2 m : Nat} {at_ wt at2 wt2 : Nat → Int} {W W2 wh : Int}
theorem l_J_lk {Qr : Option AV → HT → Prop} {Qt : HT → Prop} (hA : isD dy k k1 k2 n at_ wt W) (hA2 : isD dy q q1 q2 m at2 wt2 W2) (A : lwN n at_ wt W) (A2 : lwN m at2 wt2 W2) : ∀ (e i : Nat) (fa fb fw fl sl_ : Nat → Int) (x4 : Option AV), i + e = n → (∀ k, k < n → fl k = lfA at_ wt at2 wt2 m W W2 i k) → (∀ k, k < m → sl_ k = lfB at_ wt at2 wt2 W W2 i k) → jr fa fb fw (lkL at_ wt at2 wt2 m W W2 i) → (∀ fa fb fw fl sl_, (∀ k, k < n → fl k = lfA at_ wt at2 wt2 m W W2 n k) → (∀ k, k < m → sl_ k = lfB at_ wt at2 wt2 W W2 n k) → jr fa fb fw (lkL at_ wt at2 wt2 m W W2 n) → Qr none (Hp b s t mk df (sgJ ((lkL at_ wt at2 wt2 m W W2 n).length : Int) wh fa fb fw fl sl_) tr di mo dy)) → AW G M_J_pairLikes Qr Qt 0 0 2 [some (vr 5 0), some (vr 9 k), some (vr 9 q), some (vi (i : Int)), x4] [] (Hp b s t mk df (sgJ ((lkL at_ wt at2 wt2 m W W2 i).length : Int) wh fa fb fw fl sl_) tr di mo dy) := by
  intro e
  induction e with
  | zero =>
    intro i fa fb fw fl sl_ x4 he hF hS hR hq
    have hi0 : i = n := by omega
    subst hi0
    refine aw_ls (ls' := [some (vr 5 0), some (vr 9 k), some (vr 9 q), some (vi (i : Int)), none]) lsM5 ?_
    have hn := A.1
    refine aw_blk (pc' := 4) (ls' := [some (vr 5 0), some (vr 9 k), some (vr 9 q), some (vi (i : Int)), none]) (st' := [vr 9 k, vi (i : Int)]) [.inl (.iload_n 3), .inl (.aload_n 1)] 2 _ _ (by decide +kernel) rfl ?_
    refine aw_get (idx := 55) (ci := 9) (f := 0) (by decide +kernel) (by decide +kernel) hA.1 rfl ?_
    refine aw_alen (by decide +kernel) hA.2.1 (fun r7 => ?_)
    refine aw_icmp_ge (o := 36) (tgt := 44) (by decide +kernel) (by decide) (by omega) (by omega) (fun _ => ?_) (fun c => absurd (by omega) c)
    exact aw_vret (by decide +kernel) rfl (by decide) (by decide) (hq fa fb fw fl sl_ hF hS hR)
  | succ e ih =>
    intro i fa fb fw fl sl_ x4 he hF hS hR hq
    refine aw_ls (ls' := [some (vr 5 0), some (vr 9 k), some (vr 9 q), some (vi (i : Int)), none]) lsM5 ?_
    have hn := A.1
    have hm := A2.1
    have hi : i < n := by omega
    have hai := (A.2.2.1 i hi)
    refine aw_blk (pc' := 4) (ls' := [some (vr 5 0), some (vr 9 k), some (vr 9 q), some (vi (i : Int)), none]) (st' := [vr 9 k, vi (i : Int)]) [.inl (.iload_n 3), .inl (.aload_n 1)] 2 _ _ (by decide +kernel) rfl ?_
    refine aw_get (idx := 55) (ci := 9) (f := 0) (by decide +kernel) (by decide +kernel) hA.1 rfl ?_
    refine aw_alen (by decide +kernel) hA.2.1 (fun r7 => ?_)
    refine aw_icmp_ge (o := 36) (tgt := 44) (by decide +kernel) (by decide) (by omega) (by omega) (fun c => absurd c (by omega)) (fun _ => ?_)
    refine aw_blk (pc' := 13) (ls' := [some (vr 5 0), some (vr 9 k), some (vr 9 q), some (vi (i : Int)), none]) (st' := [vr 9 k, vr 9 q]) [.inl (.aload_n 2), .inl (.aload_n 1)] 11 _ _ (by decide +kernel) rfl ?_
    refine aw_get (idx := 55) (ci := 9) (f := 0) (by decide +kernel) (by decide +kernel) hA.1 rfl ?_
    refine aw_blk (pc' := 17) (ls' := [some (vr 5 0), some (vr 9 k), some (vr 9 q), some (vi (i : Int)), none]) (st' := [vi (i : Int), vr 9 k1, vr 9 q]) [.inl (.iload_n 3)] 16 _ _ (by decide +kernel) rfl ?_
    refine aw_iald (j := i) (by decide +kernel) hA.2.1 (by omega) (by omega) (fun r17 => ?_)
    refine aw_dV (cs' := 0) (sl' := 0) (pc' := 21) (st' := [vi (ixO at2 m (at_ i))]) (idx := 60) (as := [vi (at_ i)]) (st := []) (m_L_indexOf hA2.L A2.2.1 (by omega)) (by decide +kernel) (show vOK "ChanceBench$Joint" 60 M_L_indexOf 1 = true by decide +kernel) hA2.1 rfl rfl (Nat.le_of_ble_eq_true rfl) (by decide) (by decide) (by decide) rfl rfl rfl rfl ?_
    have hix : I32 (ixO at2 m (at_ i)) := by unfold ixO; have := lb_le at2 (at_ i) m; split <;> omega
    refine aw_blk (pc' := 26) (ls' := [some (vr 5 0), some (vr 9 k), some (vr 9 q), some (vi (i : Int)), some (vi (ixO at2 m (at_ i)))]) (st' := [vi (-1), vi (ixO at2 m (at_ i))]) [.inl (.istore 4), .inl (.iload 4), .inl (.iconst (-1))] 21 _ _ (by decide +kernel) rfl ?_
    refine aw_icmp_eq (o := 12) (tgt := 38) (by decide +kernel) (by decide) (by omega) (by omega) (fun c26 => ?_) (fun c26 => ?_)
    · have hno := ixO_no A2.2.1 c26
      have hd0 : den at2 wt2 m (at_ i) = 0 := den_0 hno
      have hz : zL at_ wt at2 wt2 m W W2 i = 0 := by unfold zL; rw [hd0]; have h1 := Int.mul_nonneg (show 0 ≤ wt i by omega) (show 0 ≤ W2 by have := A2.2.2.2.1; omega); unfold mn; split <;> omega
      have hlk : lkL at_ wt at2 wt2 m W W2 (i + 1) = lkL at_ wt at2 wt2 m W W2 i := by rw [lkL, hz]; simp
      refine aw_blk (pc' := 41) (ls' := [some (vr 5 0), some (vr 9 k), some (vr 9 q), some (vi ((i : Int) + 1)), some (vi (ixO at2 m (at_ i)))]) (st' := []) [.inl (.iinc 3 1)] 38 _ _ (by decide +kernel) rfl ?_
      refine aw_goto (o := -39) (tgt := 2) (by decide +kernel) (by decide) ?_
      refine aw_eq rfl rfl (by rw [hlk]) (ih (i + 1) fa fb fw fl sl_ _ (by omega) (fun k hk => ?_) (fun k hk => ?_) (by rw [hlk]; exact hR) hq)
      · rw [hF k hk]; unfold lfA; by_cases h1 : k < i
        · rw [if_pos h1, if_pos (by omega)]
        · rw [if_neg h1]; split
          · rw [show k = i by omega, hz]; omega
          · rfl
      · rw [hS k hk]; unfold lfB; rw [den_s, if_neg (fun e => hno k hk e.symm), Int.add_zero]
    · obtain ⟨j, hj, ej, evj⟩ := ixO_yes c26
      rw [ej]
      have haj := (A2.2.2.1 j hj)
      refine aw_blk (pc' := 35) (ls' := [some (vr 5 0), some (vr 9 k), some (vr 9 q), some (vi (i : Int)), some (vi (j : Int))]) (st' := [vi (j : Int), vr 9 q, vi (i : Int), vr 9 k, vr 5 0]) [.inl (.aload_n 0), .inl (.aload_n 1), .inl (.iload_n 3), .inl (.aload_n 2), .inl (.iload 4)] 29 _ _ (by decide +kernel) rfl ?_
      have hfi : fl i = wt i * W2 := by rw [hF i hi]; unfold lfA; rw [if_neg (by omega)]
      have hd0 : den at_ wt i (at2 j) = 0 := den_0 (fun k hk => by have := A.2.1 k i hk hi; omega)
      have hW1 := A.2.2.2.1
      have hW2 := A2.2.2.2.1
      have hp1 : 1 ≤ wt i * W2 := by have := Int.mul_le_mul hai.2.1 hW2 (by omega) (by omega); omega
      have hp2 : 1 ≤ wt2 j * W := by have := Int.mul_le_mul haj.2.1 hW1 (by omega) (by omega); omega
      have hsj : sl_ j = wt2 j * W := by rw [hS j hj]; unfold lfB; rw [hd0, Int.zero_mul]; unfold mn; rw [if_neg (by omega), Int.sub_zero]
      have hdm : den at2 wt2 m (at_ i) = wt2 j := by rw [← evj]; exact den_at A2.2.1 hj
      have hz : zL at_ wt at2 wt2 m W W2 i = if sl_ j < fl i then sl_ j else fl i := by rw [zL, hdm, hfi, hsj]; rfl
      have hz1 : 1 ≤ zL at_ wt at2 wt2 m W W2 i := by rw [hz]; split <;> omega
      have hlk : lkL at_ wt at2 wt2 m W W2 (i + 1) = lkL at_ wt at2 wt2 m W W2 i ++ [(at_ i, at2 j, zL at_ wt at2 wt2 m W W2 i)] := by rw [lkL, if_pos hz1, evj]
      have hll := lkL_len at_ wt at2 wt2 m W W2 i
      refine aw_dV (cs' := 0) (sl' := 0) (pc' := 38) (st' := []) (idx := 64) (as := [vr 9 k, vi (i : Int), vr 9 q, vi (j : Int)]) (st := []) (m_J_pairUp_1 hA hA2 A A2 hi hj (by omega) (by omega) (by omega) hz hz1) (by decide +kernel) (show vOK "ChanceBench$Joint" 64 M_J_pairUp 4 = true by decide +kernel) rfl rfl rfl (Nat.le_of_ble_eq_true rfl) (by decide) (by decide) (by decide) rfl rfl rfl rfl ?_
      refine aw_blk (pc' := 41) (ls' := [some (vr 5 0), some (vr 9 k), some (vr 9 q), some (vi ((i : Int) + 1)), some (vi (j : Int))]) (st' := []) [.inl (.iinc 3 1)] 38 _ _ (by decide +kernel) rfl ?_
      refine aw_goto (o := -39) (tgt := 2) (by decide +kernel) (by decide) ?_
      refine aw_eq rfl rfl (by rw [hlk]; simp) (ih (i + 1) (va_up fa (lkL at_ wt at2 wt2 m W W2 i).length (at_ i)) (va_up fb (lkL at_ wt at2 wt2 m W W2 i).length (at2 j)) (va_up fw (lkL at_ wt at2 wt2 m W W2 i).length (zL at_ wt at2 wt2 m W W2 i)) (va_up fl i (fl i - zL at_ wt at2 wt2 m W W2 i)) (va_up sl_ j (sl_ j - zL at_ wt at2 wt2 m W W2 i)) _ (by omega) (fun k hk => ?_) (fun k hk => ?_) (by rw [hlk]; exact jr_s hR) hq)
      · simp only [va_up]; split
        · rename_i e1; rw [e1, hfi]; unfold lfA; rw [if_pos (by omega)]
        · rename_i e1; rw [hF k hk]; unfold lfA; by_cases h1 : k < i
          · rw [if_pos h1, if_pos (by omega)]
          · rw [if_neg h1, if_neg (by omega)]
      · simp only [va_up]; split
        · rename_i e1; rw [e1, hsj]; unfold lfB; rw [den_s, hd0, if_pos evj.symm, Int.zero_add, zL, hdm]
        · rename_i e1; rw [hS k hk]; unfold lfB; rw [den_s, if_neg (fun e => e1 ?_), Int.add_zero]
          rcases Nat.lt_trichotomy k j with z | z | z
          · have := A2.2.1 k j z hj; omega
          · exact z
          · have := A2.2.1 j k z hk; omega
theorem lfA_nn (A : lwN n at_ wt W) (A2 : lwN m at2 wt2 W2) {i k : Nat} (hk : k < n) : 0 ≤ lfA at_ wt at2 wt2 m W W2 i k := by
  have h1 := (A.2.2.1 k hk).2
  have h2 := A2.2.2.2.1
  have h3 := Int.mul_nonneg (show 0 ≤ wt k by omega) (show 0 ≤ W2 by omega)
  unfold lfA
  split
  · have := (mn_le (wt k * W2) (den at2 wt2 m (at_ k) * W)).1; unfold zL; omega
  · exact h3
theorem lfB_nn {i k : Nat} : 0 ≤ lfB at_ wt at2 wt2 W W2 i k := by
  have := (mn_le (den at_ wt i (at2 k) * W2) (wt2 k * W)).2
  unfold lfB; omega
theorem m_J_make_1 {z0 : Int} {fa fb fw fl sl_ : Nat → Int} (hA : isD dy k k1 k2 n at_ wt W) (hA2 : isD dy q q1 q2 m at2 wt2 W2) (A : lwN n at_ wt W) (A2 : lwN m at2 wt2 W2) : AMet G M_J_make [vr 5 0, vr 9 k, vr 9 q, vi 1] (Hp b s t mk df (sgJ z0 wh fa fb fw fl sl_) tr di mo dy) (fun r h => r = none ∧ ∃ fa fb fw fl sl_, jr fa fb fw (jn n m at_ wt at2 wt2 W W2 true) ∧ h = Hp b s t mk df (sgJ ((jn n m at_ wt at2 wt2 W W2 true).length : Int) (W * W2) fa fb fw fl sl_) tr di mo dy) (fun _ => False) := by
  refine am_entry (by decide +kernel) (Nat.le_of_ble_eq_true rfl) ?_
  have hW1 := A.2.2.2.1
  have hW2 := A2.2.2.2.1
  have hW3 := A.2.2.2.2.1
  have hW4 := A2.2.2.2.2.1
  have hm := mulB (x := W) (y := W2) (by omega) (by omega) (by omega) (by omega)
  have hn1 := A.1
  have hn2 := A2.1
  refine aw_blk (pc' := 2) (ls' := [some (vr 5 0), some (vr 9 k), some (vr 9 q), some (vi 1)]) (st' := [vi 0, vr 5 0]) [.inl (.aload_n 0), .inl (.iconst 0)] 0 _ _ (by decide +kernel) rfl ?_
  refine aw_put (idx := 28) (ci := 5) (k := 5) (h' := Hp b s t mk df [some (ob 5 [vr 5 1, vr 5 2, vr 5 3, vr 5 4, vr 5 5, vi 0, vl wh]), some (ar 0 72 fa), some (ar 0 72 fb), some (ar 1 72 fw), some (ar 1 24 fl), some (ar 1 24 sl_)] tr di mo dy) (by decide +kernel) (by decide +kernel) rfl (Nat.le_of_ble_eq_true rfl) (show I32 _ from by omega) rfl ?_
  refine aw_blk (pc' := 8) (ls' := [some (vr 5 0), some (vr 9 k), some (vr 9 q), some (vi 1)]) (st' := [vr 9 q, vr 9 k, vr 5 0]) [.inl (.aload_n 0), .inl (.aload_n 1), .inl (.aload_n 2)] 5 _ _ (by decide +kernel) rfl ?_
  refine aw_dSN (cs' := 0) (sl' := 0) (pc' := 11) (st' := [vl (W * W2), vr 5 0]) (idx := 36) (as := [vr 9 k, vr 9 q]) (st := [vr 5 0]) (m_B_product hA.L hA2.L) (by decide +kernel) (show snOK "ChanceBench$Joint" 36 M_B_product 2 = true by decide +kernel) rfl (Nat.le_of_ble_eq_true rfl) (by decide) (by decide) (by decide) rfl rfl rfl rfl ?_
  refine aw_put (idx := 32) (ci := 5) (k := 6) (h' := Hp b s t mk df [some (ob 5 [vr 5 1, vr 5 2, vr 5 3, vr 5 4, vr 5 5, vi 0, vl (W * W2)]), some (ar 0 72 fa), some (ar 0 72 fb), some (ar 1 72 fw), some (ar 1 24 fl), some (ar 1 24 sl_)] tr di mo dy) (by decide +kernel) (by decide +kernel) rfl (Nat.le_of_ble_eq_true rfl) (show I64 _ from by omega) rfl ?_
  refine aw_blk (pc' := 20) (ls' := [some (vr 5 0), some (vr 9 k), some (vr 9 q), some (vi 1)]) (st' := [vr 9 q, vr 9 k, vr 5 4]) [.inl (.aload_n 0), .inr (22, 5, 3), .inl (.aload_n 1), .inl (.aload_n 2)] 14 _ _ (by decide +kernel) rfl ?_
  refine aw_get (idx := 40) (ci := 9) (f := 2) (by decide +kernel) (by decide +kernel) hA2.1 rfl ?_
  refine aw_dS (cs' := 0) (sl' := 0) (pc' := 26) (st' := []) (idx := 44) (as := [vr 5 4, vr 9 k, vi W2]) (st := []) (m_J_fill4 (sz := 0) hA A (by omega)) (by decide +kernel) (show sOK "ChanceBench$Joint" 44 M_J_fill 3 = true by decide +kernel) rfl (Nat.le_of_ble_eq_true rfl) (by decide) (by decide) (by decide) rfl rfl rfl rfl ?_
  refine aw_blk (pc' := 32) (ls' := [some (vr 5 0), some (vr 9 k), some (vr 9 q), some (vi 1)]) (st' := [vr 9 k, vr 9 q, vr 5 5]) [.inl (.aload_n 0), .inr (25, 5, 4), .inl (.aload_n 2), .inl (.aload_n 1)] 26 _ _ (by decide +kernel) rfl ?_
  refine aw_get (idx := 40) (ci := 9) (f := 2) (by decide +kernel) (by decide +kernel) hA.1 rfl ?_
  refine aw_dS (cs' := 0) (sl' := 0) (pc' := 38) (st' := []) (idx := 44) (as := [vr 5 5, vr 9 q, vi W]) (st := []) (m_J_fill5 (sz := 0) hA2 A2 (by omega)) (by decide +kernel) (show sOK "ChanceBench$Joint" 44 M_J_fill 3 = true by decide +kernel) rfl (Nat.le_of_ble_eq_true rfl) (by decide) (by decide) (by decide) rfl rfl rfl rfl ?_
  refine aw_blk (pc' := 39) (ls' := [some (vr 5 0), some (vr 9 k), some (vr 9 q), some (vi 1)]) (st' := [vi 1]) [.inl (.iload_n 3)] 38 _ _ (by decide +kernel) rfl ?_
  refine aw_if_eq (o := 9) (tgt := 48) (by decide +kernel) (by decide) (by omega) (fun c => absurd c (by omega)) (fun _ => ?_)
  refine aw_blk (pc' := 45) (ls' := [some (vr 5 0), some (vr 9 k), some (vr 9 q), some (vi 1)]) (st' := [vr 9 q, vr 9 k, vr 5 0]) [.inl (.aload_n 0), .inl (.aload_n 1), .inl (.aload_n 2)] 42 _ _ (by decide +kernel) rfl ?_
  refine aw_callV (M' := M_J_pairLikes) (idx := 48) (as := [vr 9 k, vr 9 q]) (st := []) (Qr' := fun r h => r = none ∧ ∃ fa fb fw fl sl_, (∀ k, k < n → fl k = lfA at_ wt at2 wt2 m W W2 n k) ∧ (∀ k, k < m → sl_ k = lfB at_ wt at2 wt2 W W2 n k) ∧ jr fa fb fw (lkL at_ wt at2 wt2 m W W2 n) ∧ h = Hp b s t mk df (sgJ ((lkL at_ wt at2 wt2 m W W2 n).length : Int) (W * W2) fa fb fw fl sl_) tr di mo dy) (Qt' := fun _ => False) ?_ (by decide +kernel) (show vOK "ChanceBench$Joint" 48 M_J_pairLikes 2 = true by decide +kernel) rfl rfl rfl (Nat.le_of_ble_eq_true rfl) (by decide) (by decide) (by decide) (fun _ z => z.elim) (fun r h9 z => ?_)
  · refine am_entry (by decide +kernel) (Nat.le_of_ble_eq_true rfl) ?_
    refine aw_blk (pc' := 2) (ls' := [some (vr 5 0), some (vr 9 k), some (vr 9 q), some (vi 0), none]) (st' := []) [.inl (.iconst 0), .inl (.istore_n 3)] 0 _ _ (by decide +kernel) rfl ?_
    exact l_J_lk hA hA2 A A2 n 0 fa fb fw _ _ none (by omega) (fun k hk => by rw [mp_lt hk]; unfold lfA; rw [if_neg (by omega)]) (fun k hk => by rw [mp_lt hk]; unfold lfB; rw [show den at_ wt 0 (at2 k) = 0 from rfl, Int.zero_mul]; have := Int.mul_nonneg (show 0 ≤ wt2 k by have := (A2.2.2.1 k hk).2; omega) (show 0 ≤ W by omega); unfold mn; rw [if_neg (by omega), Int.sub_zero]) jr_0 (fun fa fb fw fl sl_ h1 h2 h3 => ⟨rfl, fa, fb, fw, fl, sl_, h1, h2, h3, rfl⟩)
  · obtain ⟨rfl, fa, fb, fw, fl, sl_, hF, hS, hR, rfl⟩ := z
    refine aw_blk (pc' := 51) (ls' := [some (vr 5 0), some (vr 9 k), some (vr 9 q), some (vi 1)]) (st' := [vr 9 q, vr 9 k, vr 5 0]) [.inl (.aload_n 0), .inl (.aload_n 1), .inl (.aload_n 2)] 48 _ _ (by decide +kernel) rfl ?_
    refine aw_callV (M' := M_J_pairNorthwest) (idx := 52) (as := [vr 9 k, vr 9 q]) (st := []) (Qr' := fun r h => r = none ∧ ∃ js fa9 fb9 fw9 fl9 sl9, js = (lkL at_ wt at2 wt2 m W W2 n) ++ nw (tab at_ fl 0 n) (tab at2 sl_ 0 m) ∧ jr fa9 fb9 fw9 js ∧ h = Hp b s t mk df (sgJ (js.length : Int) (W * W2) fa9 fb9 fw9 fl9 sl9) tr di mo dy) (Qt' := fun _ => False) ?_ (by decide +kernel) (show vOK "ChanceBench$Joint" 52 M_J_pairNorthwest 2 = true by decide +kernel) rfl rfl rfl (Nat.le_of_ble_eq_true rfl) (by decide) (by decide) (by decide) (fun _ z => z.elim) (fun r h9 z => ?_)
    · refine am_entry (by decide +kernel) (Nat.le_of_ble_eq_true rfl) ?_
      refine aw_blk (pc' := 5) (ls' := [some (vr 5 0), some (vr 9 k), some (vr 9 q), some (vi 0), some (vi 0)]) (st' := []) [.inl (.iconst 0), .inl (.istore_n 3), .inl (.iconst 0), .inl (.istore 4)] 0 _ _ (by decide +kernel) rfl ?_
      exact l_J_nw hA hA2 A A2 (n + m + 1) 0 0 (lkL at_ wt at2 wt2 m W W2 n) fa fb fw fl sl_ (by omega) (by omega) (by omega) (fun k hk => by rw [hF k hk]; exact lfA_nn A A2 hk) (fun k hk => by rw [hS k hk]; exact lfB_nn) hR (by have := lkL_len at_ wt at2 wt2 m W W2 n; omega) (fun js2 fa fb fw fl2 sl2 e1 e2 => ⟨rfl, js2, fa, fb, fw, fl2, sl2, e1, e2, rfl⟩)
    · obtain ⟨rfl, js, fa2, fb2, fw2, fl2, sl2, e1, e2, rfl⟩ := z
      have e3 : js = jn n m at_ wt at2 wt2 W W2 true := (by rw [e1, jn, if_pos rfl, tab_ext (g := fl) (fun k _ hk => hF k (by omega)), tab_ext (g := sl_) (fun k _ hk => hS k (by omega))])
      subst e3
      exact aw_vret (by decide +kernel) rfl (by decide) (by decide) ⟨rfl, fa2, fb2, fw2, fl2, sl2, e2, rfl⟩

theorem m_J_make_0 {z0 : Int} {fa fb fw fl sl_ : Nat → Int} (hA : isD dy k k1 k2 n at_ wt W) (hA2 : isD dy q q1 q2 m at2 wt2 W2) (A : lwN n at_ wt W) (A2 : lwN m at2 wt2 W2) : AMet G M_J_make [vr 5 0, vr 9 k, vr 9 q, vi 0] (Hp b s t mk df (sgJ z0 wh fa fb fw fl sl_) tr di mo dy) (fun r h => r = none ∧ ∃ fa fb fw fl sl_, jr fa fb fw (jn n m at_ wt at2 wt2 W W2 false) ∧ h = Hp b s t mk df (sgJ ((jn n m at_ wt at2 wt2 W W2 false).length : Int) (W * W2) fa fb fw fl sl_) tr di mo dy) (fun _ => False) := by
  refine am_entry (by decide +kernel) (Nat.le_of_ble_eq_true rfl) ?_
  have hW1 := A.2.2.2.1
  have hW2 := A2.2.2.2.1
  have hW3 := A.2.2.2.2.1
  have hW4 := A2.2.2.2.2.1
  have hm := mulB (x := W) (y := W2) (by omega) (by omega) (by omega) (by omega)
  have hn1 := A.1
  have hn2 := A2.1
  refine aw_blk (pc' := 2) (ls' := [some (vr 5 0), some (vr 9 k), some (vr 9 q), some (vi 0)]) (st' := [vi 0, vr 5 0]) [.inl (.aload_n 0), .inl (.iconst 0)] 0 _ _ (by decide +kernel) rfl ?_
  refine aw_put (idx := 28) (ci := 5) (k := 5) (h' := Hp b s t mk df [some (ob 5 [vr 5 1, vr 5 2, vr 5 3, vr 5 4, vr 5 5, vi 0, vl wh]), some (ar 0 72 fa), some (ar 0 72 fb), some (ar 1 72 fw), some (ar 1 24 fl), some (ar 1 24 sl_)] tr di mo dy) (by decide +kernel) (by decide +kernel) rfl (Nat.le_of_ble_eq_true rfl) (show I32 _ from by omega) rfl ?_
  refine aw_blk (pc' := 8) (ls' := [some (vr 5 0), some (vr 9 k), some (vr 9 q), some (vi 0)]) (st' := [vr 9 q, vr 9 k, vr 5 0]) [.inl (.aload_n 0), .inl (.aload_n 1), .inl (.aload_n 2)] 5 _ _ (by decide +kernel) rfl ?_
  refine aw_dSN (cs' := 0) (sl' := 0) (pc' := 11) (st' := [vl (W * W2), vr 5 0]) (idx := 36) (as := [vr 9 k, vr 9 q]) (st := [vr 5 0]) (m_B_product hA.L hA2.L) (by decide +kernel) (show snOK "ChanceBench$Joint" 36 M_B_product 2 = true by decide +kernel) rfl (Nat.le_of_ble_eq_true rfl) (by decide) (by decide) (by decide) rfl rfl rfl rfl ?_
  refine aw_put (idx := 32) (ci := 5) (k := 6) (h' := Hp b s t mk df [some (ob 5 [vr 5 1, vr 5 2, vr 5 3, vr 5 4, vr 5 5, vi 0, vl (W * W2)]), some (ar 0 72 fa), some (ar 0 72 fb), some (ar 1 72 fw), some (ar 1 24 fl), some (ar 1 24 sl_)] tr di mo dy) (by decide +kernel) (by decide +kernel) rfl (Nat.le_of_ble_eq_true rfl) (show I64 _ from by omega) rfl ?_
  refine aw_blk (pc' := 20) (ls' := [some (vr 5 0), some (vr 9 k), some (vr 9 q), some (vi 0)]) (st' := [vr 9 q, vr 9 k, vr 5 4]) [.inl (.aload_n 0), .inr (22, 5, 3), .inl (.aload_n 1), .inl (.aload_n 2)] 14 _ _ (by decide +kernel) rfl ?_
  refine aw_get (idx := 40) (ci := 9) (f := 2) (by decide +kernel) (by decide +kernel) hA2.1 rfl ?_
  refine aw_dS (cs' := 0) (sl' := 0) (pc' := 26) (st' := []) (idx := 44) (as := [vr 5 4, vr 9 k, vi W2]) (st := []) (m_J_fill4 (sz := 0) hA A (by omega)) (by decide +kernel) (show sOK "ChanceBench$Joint" 44 M_J_fill 3 = true by decide +kernel) rfl (Nat.le_of_ble_eq_true rfl) (by decide) (by decide) (by decide) rfl rfl rfl rfl ?_
  refine aw_blk (pc' := 32) (ls' := [some (vr 5 0), some (vr 9 k), some (vr 9 q), some (vi 0)]) (st' := [vr 9 k, vr 9 q, vr 5 5]) [.inl (.aload_n 0), .inr (25, 5, 4), .inl (.aload_n 2), .inl (.aload_n 1)] 26 _ _ (by decide +kernel) rfl ?_
  refine aw_get (idx := 40) (ci := 9) (f := 2) (by decide +kernel) (by decide +kernel) hA.1 rfl ?_
  refine aw_dS (cs' := 0) (sl' := 0) (pc' := 38) (st' := []) (idx := 44) (as := [vr 5 5, vr 9 q, vi W]) (st := []) (m_J_fill5 (sz := 0) hA2 A2 (by omega)) (by decide +kernel) (show sOK "ChanceBench$Joint" 44 M_J_fill 3 = true by decide +kernel) rfl (Nat.le_of_ble_eq_true rfl) (by decide) (by decide) (by decide) rfl rfl rfl rfl ?_
  refine aw_blk (pc' := 39) (ls' := [some (vr 5 0), some (vr 9 k), some (vr 9 q), some (vi 0)]) (st' := [vi 0]) [.inl (.iload_n 3)] 38 _ _ (by decide +kernel) rfl ?_
  refine aw_if_eq (o := 9) (tgt := 48) (by decide +kernel) (by decide) (by omega) (fun _ => ?_) (fun c => absurd (by omega) c)
  refine aw_blk (pc' := 51) (ls' := [some (vr 5 0), some (vr 9 k), some (vr 9 q), some (vi 0)]) (st' := [vr 9 q, vr 9 k, vr 5 0]) [.inl (.aload_n 0), .inl (.aload_n 1), .inl (.aload_n 2)] 48 _ _ (by decide +kernel) rfl ?_
  refine aw_callV (M' := M_J_pairNorthwest) (idx := 52) (as := [vr 9 k, vr 9 q]) (st := []) (Qr' := fun r h => r = none ∧ ∃ js fa9 fb9 fw9 fl9 sl9, js = [] ++ nw (tab at_ (mp (fun x => wt x * W2) fl n) 0 n) (tab at2 (mp (fun x => wt2 x * W) sl_ m) 0 m) ∧ jr fa9 fb9 fw9 js ∧ h = Hp b s t mk df (sgJ (js.length : Int) (W * W2) fa9 fb9 fw9 fl9 sl9) tr di mo dy) (Qt' := fun _ => False) ?_ (by decide +kernel) (show vOK "ChanceBench$Joint" 52 M_J_pairNorthwest 2 = true by decide +kernel) rfl rfl rfl (Nat.le_of_ble_eq_true rfl) (by decide) (by decide) (by decide) (fun _ z => z.elim) (fun r h9 z => ?_)
  · refine am_entry (by decide +kernel) (Nat.le_of_ble_eq_true rfl) ?_
    refine aw_blk (pc' := 5) (ls' := [some (vr 5 0), some (vr 9 k), some (vr 9 q), some (vi 0), some (vi 0)]) (st' := []) [.inl (.iconst 0), .inl (.istore_n 3), .inl (.iconst 0), .inl (.istore 4)] 0 _ _ (by decide +kernel) rfl ?_
    exact l_J_nw hA hA2 A A2 (n + m + 1) 0 0 [] fa fb fw (mp (fun x => wt x * W2) fl n) (mp (fun x => wt2 x * W) sl_ m) (by omega) (by omega) (by omega) (fun k hk => by rw [mp_lt hk]; exact Int.mul_nonneg (by have := (A.2.2.1 k hk).2; omega) (by omega)) (fun k hk => by rw [mp_lt hk]; exact Int.mul_nonneg (by have := (A2.2.2.1 k hk).2; omega) (by omega)) jr_0 (by simp) (fun js2 fa fb fw fl2 sl2 e1 e2 => ⟨rfl, js2, fa, fb, fw, fl2, sl2, e1, e2, rfl⟩)
  · obtain ⟨rfl, js, fa2, fb2, fw2, fl2, sl2, e1, e2, rfl⟩ := z
    have e3 : js = jn n m at_ wt at2 wt2 W W2 false := (by rw [e1, jn, if_neg (by decide), List.nil_append, tab_ext (g := mp (fun x => wt x * W2) fl n) (fun k _ hk => mp_lt (by omega)), tab_ext (g := mp (fun x => wt2 x * W) sl_ m) (fun k _ hk => mp_lt (by omega))])
    subst e3
    exact aw_vret (by decide +kernel) rfl (by decide) (by decide) ⟨rfl, fa2, fb2, fw2, fl2, sl2, e2, rfl⟩

end
end
section
theorem lsk_0 : ∀ (k : Nat) (v : AV), ([] : LSt)[k]? = some (some v) → ([] : LSt)[k]? = some (some v) := fun _ _ h => h
theorem lsk_s {x : Option AV} {l l' : LSt} (h : ∀ (k : Nat) (v : AV), l[k]? = some (some v) → l'[k]? = some (some v)) : ∀ (k : Nat) (v : AV), (x :: l)[k]? = some (some v) → (x :: l')[k]? = some (some v)
  | 0, _, e => e
  | k + 1, v, e => h k v e
theorem lsk_n {x : Option AV} {l l' : LSt} (h : ∀ (k : Nat) (v : AV), l[k]? = some (some v) → l'[k]? = some (some v)) : ∀ (k : Nat) (v : AV), ((none : Option AV) :: l)[k]? = some (some v) → (x :: l')[k]? = some (some v)
  | 0, v, e => by simp at e
  | k + 1, v, e => h k v e
section
variable {G : GT} {M : MI} {Qr : Option AV → HT → Prop} {Qt : HT → Prop} {cs sl pc : Nat} {ls : LSt} {st : List AV} {h : HT} {a b c : Int}
theorem aw_ior (hd : decode M.2.1 pc = .ok (.ior, 1)) (hv : Int32.ofInt a ||| Int32.ofInt b = Int32.ofInt c) (kk : AW G M Qr Qt cs sl (pc + 1) ls (vi c :: st) h) : AW G M Qr Qt cs sl pc ls (vi b :: vi a :: st) h := by
  intro p e s0 m args below meth c H locs lsR C R S L
  refine lv_ior C.1 C.2.1 hd ?_
  rw [hv]
  exact kk p e s0 m args below meth c H locs lsR C R S L
end
def sg (w : Int) : Int := if w < 0 then -1 else if 0 < w then 1 else 0
def jnd (d v w : Int) : Int := if d = 0 then (if w < v then w else v) else if d = 1 then (if v < w then w else v) else if d = 2 then v * sg w else v + w
theorem sg_or {a : Int} (ha : I32 a) : Int32.ofInt (a / 2147483648) ||| Int32.ofInt ((-a) % 4294967296 / 2147483648) = Int32.ofInt (sg a) := by
  unfold sg
  split
  · rename_i h
    rw [show a / 2147483648 = -1 by omega]
    rcases Int.lt_or_le (-2147483648) a with z | z
    · rw [show (-a) % 4294967296 / 2147483648 = 0 by omega]; decide
    · rw [show (-a) % 4294967296 / 2147483648 = 1 by omega]; decide
  · split
    · rw [show a / 2147483648 = 0 by omega, show (-a) % 4294967296 / 2147483648 = 1 by omega]; decide
    · rw [show a / 2147483648 = 0 by omega, show (-a) % 4294967296 / 2147483648 = 0 by omega]; decide

section
variable {G : GT} {h : HT} {b s t mk df jo tr di mo dy : SG} {a c d e : Int} {n k k1 k2 q q1 q2 m : Nat} {at_ wt at2 wt2 : Nat → Int} {W W2 : Int}
theorem m_Int_signum (ha : I32 a) : ADet G M_Int_signum [vi a] h (some (vi (sg a))) h := by
  refine am_det (by decide +kernel) (Nat.le_of_ble_eq_true rfl) (fun Qr Qt hq => ?_)
  refine aw_blk (pc' := 3) (ls' := [some (vi a)]) (st' := [vi 31, vi a]) [.inl (.iload_n 0), .inl (.bipush 31)] 0 _ _ (by decide +kernel) rfl ?_
  refine aw_shr (p9 := 2147483648) 31 (by decide +kernel) (by omega) rfl (by decide) (by decide) ?_
  refine aw_blk (pc' := 8) (ls' := [some (vi a)]) (st' := [vi 31, vi (-a), vi (a / 2147483648)]) [.inl (.iload_n 0), .inl (.ineg), .inl (.bipush 31)] 4 _ _ (by decide +kernel) rfl ?_
  refine aw_ushr (p9 := 2147483648) 31 (by decide +kernel) rfl (by decide) (by decide) ?_
  refine aw_ior (by decide +kernel) (sg_or ha) ?_
  exact aw_iret (by decide +kernel) rfl (by decide) (by decide) (hq _ _ rfl rfl)

theorem m_B_joined (ha : I32 a) (hc : I32 c) (hd : 0 ≤ d ∧ d ≤ 3) : ADet G M_B_joined [vi a, vi c, vi d] h (some (vi (jnd d a c))) h := by
  refine am_det (by decide +kernel) (Nat.le_of_ble_eq_true rfl) (fun Qr Qt hq => ?_)
  refine aw_blk (pc' := 1) (ls' := [some (vi a), some (vi c), some (vi d)]) (st' := [vi d]) [.inl (.iload_n 2)] 0 _ _ (by decide +kernel) rfl ?_
  rcases (show d = 0 ∨ d = 1 ∨ d = 2 ∨ d = 3 by omega) with z | z | z | z
  · subst z
    refine aw_tabIn (dflt := 46) (lo := 0) (hi := 2) (offs := #[27, 33, 39]) (len := 27) (o := 27) (tgt := 28) (by decide +kernel) (by omega) (by decide) (by decide) (by decide +kernel) rfl ?_
    refine aw_blk (pc' := 30) (ls' := [some (vi a), some (vi c), some (vi 0)]) (st' := [vi c, vi a]) [.inl (.iload_n 0), .inl (.iload_n 1)] 28 _ _ (by decide +kernel) rfl ?_
    refine aw_mmin (idx := 275) (by decide +kernel) (by decide +kernel) (Nat.le_of_ble_eq_true rfl) (by decide) (by decide) (by decide) (by omega) (by omega) ?_
    exact aw_iret (by decide +kernel) rfl (by decide) (by decide) (hq _ _ rfl rfl)
  · subst z
    refine aw_tabIn (dflt := 46) (lo := 0) (hi := 2) (offs := #[27, 33, 39]) (len := 27) (o := 33) (tgt := 34) (by decide +kernel) (by omega) (by decide) (by decide) (by decide +kernel) rfl ?_
    refine aw_blk (pc' := 36) (ls' := [some (vi a), some (vi c), some (vi 1)]) (st' := [vi c, vi a]) [.inl (.iload_n 0), .inl (.iload_n 1)] 34 _ _ (by decide +kernel) rfl ?_
    refine aw_mmax (idx := 281) (by decide +kernel) (by decide +kernel) (Nat.le_of_ble_eq_true rfl) (by decide) (by decide) (by decide) (by omega) (by omega) ?_
    exact aw_iret (by decide +kernel) rfl (by decide) (by decide) (hq _ _ rfl rfl)
  · subst z
    refine aw_tabIn (dflt := 46) (lo := 0) (hi := 2) (offs := #[27, 33, 39]) (len := 27) (o := 39) (tgt := 40) (by decide +kernel) (by omega) (by decide) (by decide) (by decide +kernel) rfl ?_
    refine aw_blk (pc' := 42) (ls' := [some (vi a), some (vi c), some (vi 2)]) (st' := [vi c, vi a]) [.inl (.iload_n 0), .inl (.iload_n 1)] 40 _ _ (by decide +kernel) rfl ?_
    refine aw_dS (cs' := 0) (sl' := 0) (pc' := 45) (st' := [vi (sg c), vi a]) (idx := 284) (as := [vi c]) (st := [vi a]) (m_Int_signum hc) (by decide +kernel) (show sOK "ChanceBench" 284 M_Int_signum 1 = true by decide +kernel) rfl (Nat.le_of_ble_eq_true rfl) (by decide) (by decide) (by decide) rfl rfl rfl rfl ?_
    refine aw_blk (pc' := 46) (ls' := [some (vi a), some (vi c), some (vi 2)]) (st' := [vi (a * (sg c))]) [.inl (.imul)] 45 _ _ (by decide +kernel) rfl ?_
    exact aw_iret (by decide +kernel) rfl (by decide) (by decide) (hq _ _ rfl rfl)
  · subst z
    refine aw_tabOut (dflt := 46) (lo := 0) (hi := 2) (offs := #[27, 33, 39]) (len := 27) (tgt := 47) (by decide +kernel) (by omega) (by omega) rfl ?_
    refine aw_blk (pc' := 50) (ls' := [some (vi a), some (vi c), some (vi 3)]) (st' := [vi (a + c)]) [.inl (.iload_n 0), .inl (.iload_n 1), .inl (.iadd)] 47 _ _ (by decide +kernel) rfl ?_
    exact aw_iret (by decide +kernel) rfl (by decide) (by decide) (hq _ _ rfl rfl)

/-- where the second row stands before turn i -/
def pj (at_ at2 : Nat → Int) (m : Nat) : Nat → Nat
  | 0 => 0
  | i + 1 => lb at2 (at_ i) m
def wns (at_ wt at2 wt2 : Nat → Int) (m : Nat) : Nat → Int := sumZ (fun i => wt i * sumZ wt2 (lb at2 (at_ i) m))
theorem pj_le (hs : inc at_ n) (hs2 : inc at2 m) : ∀ i, i < n → pj at_ at2 m i ≤ lb at2 (at_ i) m
  | 0, _ => Nat.zero_le _
  | i + 1, h => by
    rcases Nat.lt_or_ge (lb at2 (at_ (i + 1)) m) (lb at2 (at_ i) m) with z | z
    · have h1 := lb_lt hs2 z
      have h2 := lb_le at2 (at_ i) m
      have h3 := lb_ge (f := at2) (v := at_ (i + 1)) (n := m) (Nat.le_refl _) (by omega)
      have h4 := hs i (i + 1) (by omega) h
      omega
    · exact z
theorem m_B_winsOf (hL : isL h k k1 k2 n at_ wt W) (hL2 : isL h q q1 q2 m at2 wt2 W2) (hs : inc at_ n) (hs2 : inc at2 m) : ADet G M_B_winsOf [vr 9 k, vr 9 q] h (some (vl (wns at_ wt at2 wt2 m n))) h := by
  refine am_det (by decide +kernel) (Nat.le_of_ble_eq_true rfl) (fun Qr Qt hq => ?_)
  refine aw_blk (pc' := 11) (ls' := [some (vr 9 k), some (vr 9 q), some (vl 0), none, some (vl 0), none, some (vi 0), some (vi 0)]) (st' := []) [.inl (.lconst 0), .inl (.lstore_n 2), .inl (.lconst 0), .inl (.lstore 4), .inl (.iconst 0), .inl (.istore 6), .inl (.iconst 0), .inl (.istore 7)] 0 _ _ (by decide +kernel) rfl ?_
  refine up_to (W := fun i : Nat => AW G M_B_winsOf Qr Qt 0 0 11 [some (vr 9 k), some (vr 9 q), some (vl (wns at_ wt at2 wt2 m i)), none, some (vl (sumZ wt2 (pj at_ at2 m i))), none, some (vi ((pj at_ at2 m i : Nat) : Int)), some (vi (i : Int))] [] (h)) n ?_ (fun i hi ih => ?_) 0 (by omega)
  · refine aw_blk (pc' := 14) (ls' := [some (vr 9 k), some (vr 9 q), some (vl (wns at_ wt at2 wt2 m n)), none, some (vl (sumZ wt2 (pj at_ at2 m n))), none, some (vi ((pj at_ at2 m n : Nat) : Int)), some (vi (n : Int))]) (st' := [vr 9 k, vi (n : Int)]) [.inl (.iload 7), .inl (.aload_n 0)] 11 _ _ (by decide +kernel) rfl ?_
    refine aw_get (idx := 121) (ci := 9) (f := 0) (by decide +kernel) (by decide +kernel) hL.1 rfl ?_
    refine aw_alen (by decide +kernel) hL.2.1 (fun r17 => ?_)
    refine aw_icmp_ge (o := 69) (tgt := 87) (by decide +kernel) (by decide) (by omega) (by omega) (fun _ => ?_) (fun c => absurd (by omega) c)
    refine aw_blk (pc' := 88) (ls' := [some (vr 9 k), some (vr 9 q), some (vl (wns at_ wt at2 wt2 m n)), none, some (vl (sumZ wt2 (pj at_ at2 m n))), none, some (vi ((pj at_ at2 m n : Nat) : Int)), some (vi (n : Int))]) (st' := [vl (wns at_ wt at2 wt2 m n)]) [.inl (.lload_n 2)] 87 _ _ (by decide +kernel) rfl ?_
    exact aw_lret (by decide +kernel) rfl (by decide) (by decide) (hq _ _ rfl rfl)
  · have ihO := ih
    refine aw_blk (pc' := 14) (ls' := [some (vr 9 k), some (vr 9 q), some (vl (wns at_ wt at2 wt2 m i)), none, some (vl (sumZ wt2 (pj at_ at2 m i))), none, some (vi ((pj at_ at2 m i : Nat) : Int)), some (vi (i : Int))]) (st' := [vr 9 k, vi (i : Int)]) [.inl (.iload 7), .inl (.aload_n 0)] 11 _ _ (by decide +kernel) rfl ?_
    refine aw_get (idx := 121) (ci := 9) (f := 0) (by decide +kernel) (by decide +kernel) hL.1 rfl ?_
    refine aw_alen (by decide +kernel) hL.2.1 (fun r17 => ?_)
    refine aw_icmp_ge (o := 69) (tgt := 87) (by decide +kernel) (by decide) (by omega) (by omega) (fun c => absurd c (by omega)) (fun _ => ?_)
    have hp := pj_le hs hs2 i hi
    have hlb := lb_le at2 (at_ i) m
    refine up_to (W := fun j : Nat => AW G M_B_winsOf Qr Qt 0 0 21 [some (vr 9 k), some (vr 9 q), some (vl (wns at_ wt at2 wt2 m i)), none, some (vl (sumZ wt2 j)), none, some (vi (j : Int)), some (vi (i : Int))] [] (h)) (lb at2 (at_ i) m) ?_ (fun j hj ih => ?_) (pj at_ at2 m i) hp
    · refine aw_blk (pc' := 24) (ls' := [some (vr 9 k), some (vr 9 q), some (vl (wns at_ wt at2 wt2 m i)), none, some (vl (sumZ wt2 (lb at2 (at_ i) m))), none, some (vi ((lb at2 (at_ i) m : Nat) : Int)), some (vi (i : Int))]) (st' := [vr 9 q, vi ((lb at2 (at_ i) m : Nat) : Int)]) [.inl (.iload 6), .inl (.aload_n 1)] 21 _ _ (by decide +kernel) rfl ?_
      refine aw_get (idx := 121) (ci := 9) (f := 0) (by decide +kernel) (by decide +kernel) hL2.1 rfl ?_
      refine aw_alen (by decide +kernel) hL2.2.1 (fun r27 => ?_)
      refine aw_icmp_ge (o := 39) (tgt := 67) (by decide +kernel) (by decide) (by omega) (by omega) (fun c28 => ?_) (fun c28 => ?_)
      · refine aw_blk (pc' := 69) (ls' := [some (vr 9 k), some (vr 9 q), some (vl (wns at_ wt at2 wt2 m i)), none, some (vl (sumZ wt2 (lb at2 (at_ i) m))), none, some (vi ((lb at2 (at_ i) m : Nat) : Int)), some (vi (i : Int))]) (st' := [vr 9 k, vl (wns at_ wt at2 wt2 m i)]) [.inl (.lload_n 2), .inl (.aload_n 0)] 67 _ _ (by decide +kernel) rfl ?_
        refine aw_get (idx := 127) (ci := 9) (f := 1) (by decide +kernel) (by decide +kernel) hL.1 rfl ?_
        refine aw_blk (pc' := 74) (ls' := [some (vr 9 k), some (vr 9 q), some (vl (wns at_ wt at2 wt2 m i)), none, some (vl (sumZ wt2 (lb at2 (at_ i) m))), none, some (vi ((lb at2 (at_ i) m : Nat) : Int)), some (vi (i : Int))]) (st' := [vi (i : Int), vr 9 k2, vl (wns at_ wt at2 wt2 m i)]) [.inl (.iload 7)] 72 _ _ (by decide +kernel) rfl ?_
        refine aw_iald (j := i) (by decide +kernel) hL.2.2 (by omega) (by omega) (fun r74 => ?_)
        refine aw_i2l (by decide +kernel) (by omega) ?_
        refine aw_blk (pc' := 84) (ls' := [some (vr 9 k), some (vr 9 q), some (vl ((wns at_ wt at2 wt2 m i) + ((wt i) * (sumZ wt2 (lb at2 (at_ i) m))))), none, some (vl (sumZ wt2 (lb at2 (at_ i) m))), none, some (vi ((lb at2 (at_ i) m : Nat) : Int)), some (vi ((i : Int) + 1))]) (st' := []) [.inl (.lload 4), .inl (.lmul), .inl (.ladd), .inl (.lstore_n 2), .inl (.iinc 7 1)] 76 _ _ (by decide +kernel) rfl ?_
        refine aw_goto (o := -73) (tgt := 11) (by decide +kernel) (by decide) ?_
        exact aw_eq rfl rfl rfl ihO
      · have hge := lb_ge (f := at2) (v := at_ i) (n := m) (Nat.le_refl _) (by omega)
        refine aw_blk (pc' := 32) (ls' := [some (vr 9 k), some (vr 9 q), some (vl (wns at_ wt at2 wt2 m i)), none, some (vl (sumZ wt2 (lb at2 (at_ i) m))), none, some (vi ((lb at2 (at_ i) m : Nat) : Int)), some (vi (i : Int))]) (st' := [vr 9 q]) [.inl (.aload_n 1)] 31 _ _ (by decide +kernel) rfl ?_
        refine aw_get (idx := 121) (ci := 9) (f := 0) (by decide +kernel) (by decide +kernel) hL2.1 rfl ?_
        refine aw_blk (pc' := 37) (ls' := [some (vr 9 k), some (vr 9 q), some (vl (wns at_ wt at2 wt2 m i)), none, some (vl (sumZ wt2 (lb at2 (at_ i) m))), none, some (vi ((lb at2 (at_ i) m : Nat) : Int)), some (vi (i : Int))]) (st' := [vi ((lb at2 (at_ i) m : Nat) : Int), vr 9 q1]) [.inl (.iload 6)] 35 _ _ (by decide +kernel) rfl ?_
        refine aw_iald (j := lb at2 (at_ i) m) (by decide +kernel) hL2.2.1 rfl (by omega) (fun r37 => ?_)
        refine aw_blk (pc' := 39) (ls' := [some (vr 9 k), some (vr 9 q), some (vl (wns at_ wt at2 wt2 m i)), none, some (vl (sumZ wt2 (lb at2 (at_ i) m))), none, some (vi ((lb at2 (at_ i) m : Nat) : Int)), some (vi (i : Int))]) (st' := [vr 9 k, vi (at2 (lb at2 (at_ i) m))]) [.inl (.aload_n 0)] 38 _ _ (by decide +kernel) rfl ?_
        refine aw_get (idx := 121) (ci := 9) (f := 0) (by decide +kernel) (by decide +kernel) hL.1 rfl ?_
        refine aw_blk (pc' := 44) (ls' := [some (vr 9 k), some (vr 9 q), some (vl (wns at_ wt at2 wt2 m i)), none, some (vl (sumZ wt2 (lb at2 (at_ i) m))), none, some (vi ((lb at2 (at_ i) m : Nat) : Int)), some (vi (i : Int))]) (st' := [vi (i : Int), vr 9 k1, vi (at2 (lb at2 (at_ i) m))]) [.inl (.iload 7)] 42 _ _ (by decide +kernel) rfl ?_
        refine aw_iald (j := i) (by decide +kernel) hL.2.1 (by omega) (by omega) (fun r44 => ?_)
        refine aw_icmp_ge (o := 22) (tgt := 67) (by decide +kernel) (by decide) (by omega) (by omega) (fun _ => ?_) (fun c => absurd (by omega) c)
        refine aw_blk (pc' := 69) (ls' := [some (vr 9 k), some (vr 9 q), some (vl (wns at_ wt at2 wt2 m i)), none, some (vl (sumZ wt2 (lb at2 (at_ i) m))), none, some (vi ((lb at2 (at_ i) m : Nat) : Int)), some (vi (i : Int))]) (st' := [vr 9 k, vl (wns at_ wt at2 wt2 m i)]) [.inl (.lload_n 2), .inl (.aload_n 0)] 67 _ _ (by decide +kernel) rfl ?_
        refine aw_get (idx := 127) (ci := 9) (f := 1) (by decide +kernel) (by decide +kernel) hL.1 rfl ?_
        refine aw_blk (pc' := 74) (ls' := [some (vr 9 k), some (vr 9 q), some (vl (wns at_ wt at2 wt2 m i)), none, some (vl (sumZ wt2 (lb at2 (at_ i) m))), none, some (vi ((lb at2 (at_ i) m : Nat) : Int)), some (vi (i : Int))]) (st' := [vi (i : Int), vr 9 k2, vl (wns at_ wt at2 wt2 m i)]) [.inl (.iload 7)] 72 _ _ (by decide +kernel) rfl ?_
        refine aw_iald (j := i) (by decide +kernel) hL.2.2 (by omega) (by omega) (fun r74 => ?_)
        refine aw_i2l (by decide +kernel) (by omega) ?_
        refine aw_blk (pc' := 84) (ls' := [some (vr 9 k), some (vr 9 q), some (vl ((wns at_ wt at2 wt2 m i) + ((wt i) * (sumZ wt2 (lb at2 (at_ i) m))))), none, some (vl (sumZ wt2 (lb at2 (at_ i) m))), none, some (vi ((lb at2 (at_ i) m : Nat) : Int)), some (vi ((i : Int) + 1))]) (st' := []) [.inl (.lload 4), .inl (.lmul), .inl (.ladd), .inl (.lstore_n 2), .inl (.iinc 7 1)] 76 _ _ (by decide +kernel) rfl ?_
        refine aw_goto (o := -73) (tgt := 11) (by decide +kernel) (by decide) ?_
        exact aw_eq rfl rfl rfl ihO
    · have hlt := lb_lt hs2 hj
      refine aw_blk (pc' := 24) (ls' := [some (vr 9 k), some (vr 9 q), some (vl (wns at_ wt at2 wt2 m i)), none, some (vl (sumZ wt2 j)), none, some (vi (j : Int)), some (vi (i : Int))]) (st' := [vr 9 q, vi (j : Int)]) [.inl (.iload 6), .inl (.aload_n 1)] 21 _ _ (by decide +kernel) rfl ?_
      refine aw_get (idx := 121) (ci := 9) (f := 0) (by decide +kernel) (by decide +kernel) hL2.1 rfl ?_
      refine aw_alen (by decide +kernel) hL2.2.1 (fun r27 => ?_)
      refine aw_icmp_ge (o := 39) (tgt := 67) (by decide +kernel) (by decide) (by omega) (by omega) (fun c => absurd c (by omega)) (fun _ => ?_)
      refine aw_blk (pc' := 32) (ls' := [some (vr 9 k), some (vr 9 q), some (vl (wns at_ wt at2 wt2 m i)), none, some (vl (sumZ wt2 j)), none, some (vi (j : Int)), some (vi (i : Int))]) (st' := [vr 9 q]) [.inl (.aload_n 1)] 31 _ _ (by decide +kernel) rfl ?_
      refine aw_get (idx := 121) (ci := 9) (f := 0) (by decide +kernel) (by decide +kernel) hL2.1 rfl ?_
      refine aw_blk (pc' := 37) (ls' := [some (vr 9 k), some (vr 9 q), some (vl (wns at_ wt at2 wt2 m i)), none, some (vl (sumZ wt2 j)), none, some (vi (j : Int)), some (vi (i : Int))]) (st' := [vi (j : Int), vr 9 q1]) [.inl (.iload 6)] 35 _ _ (by decide +kernel) rfl ?_
      refine aw_iald (j := j) (by decide +kernel) hL2.2.1 (by omega) (by omega) (fun r37 => ?_)
      refine aw_blk (pc' := 39) (ls' := [some (vr 9 k), some (vr 9 q), some (vl (wns at_ wt at2 wt2 m i)), none, some (vl (sumZ wt2 j)), none, some (vi (j : Int)), some (vi (i : Int))]) (st' := [vr 9 k, vi (at2 j)]) [.inl (.aload_n 0)] 38 _ _ (by decide +kernel) rfl ?_
      refine aw_get (idx := 121) (ci := 9) (f := 0) (by decide +kernel) (by decide +kernel) hL.1 rfl ?_
      refine aw_blk (pc' := 44) (ls' := [some (vr 9 k), some (vr 9 q), some (vl (wns at_ wt at2 wt2 m i)), none, some (vl (sumZ wt2 j)), none, some (vi (j : Int)), some (vi (i : Int))]) (st' := [vi (i : Int), vr 9 k1, vi (at2 j)]) [.inl (.iload 7)] 42 _ _ (by decide +kernel) rfl ?_
      refine aw_iald (j := i) (by decide +kernel) hL.2.1 (by omega) (by omega) (fun r44 => ?_)
      refine aw_icmp_ge (o := 22) (tgt := 67) (by decide +kernel) (by decide) (by omega) (by omega) (fun c => absurd c (by omega)) (fun _ => ?_)
      refine aw_blk (pc' := 51) (ls' := [some (vr 9 k), some (vr 9 q), some (vl (wns at_ wt at2 wt2 m i)), none, some (vl (sumZ wt2 j)), none, some (vi (j : Int)), some (vi (i : Int))]) (st' := [vr 9 q, vl (sumZ wt2 j)]) [.inl (.lload 4), .inl (.aload_n 1)] 48 _ _ (by decide +kernel) rfl ?_
      refine aw_get (idx := 127) (ci := 9) (f := 1) (by decide +kernel) (by decide +kernel) hL2.1 rfl ?_
      refine aw_blk (pc' := 56) (ls' := [some (vr 9 k), some (vr 9 q), some (vl (wns at_ wt at2 wt2 m i)), none, some (vl (sumZ wt2 j)), none, some (vi (j : Int)), some (vi (i : Int))]) (st' := [vi (j : Int), vr 9 q2, vl (sumZ wt2 j)]) [.inl (.iload 6)] 54 _ _ (by decide +kernel) rfl ?_
      refine aw_iald (j := j) (by decide +kernel) hL2.2.2 (by omega) (by omega) (fun r56 => ?_)
      refine aw_i2l (by decide +kernel) (by omega) ?_
      refine aw_blk (pc' := 64) (ls' := [some (vr 9 k), some (vr 9 q), some (vl (wns at_ wt at2 wt2 m i)), none, some (vl ((sumZ wt2 j) + (wt2 j))), none, some (vi ((j : Int) + 1)), some (vi (i : Int))]) (st' := []) [.inl (.ladd), .inl (.lstore 4), .inl (.iinc 6 1)] 58 _ _ (by decide +kernel) rfl ?_
      refine aw_goto (o := -43) (tgt := 21) (by decide +kernel) (by decide) ?_
      exact aw_eq rfl rfl rfl ih

/-- the comparison, digit by digit -/
def isl (x y : Int) : Nat → Int → Int → Int
  | 0, _, _ => 0
  | d + 1, r, o => if Int.tdiv r x = Int.tdiv o y then isl x y d (Int.tmod r x * 1048576) (Int.tmod o y * 1048576) else if Int.tdiv r x < Int.tdiv o y then 1 else 0
theorem tdiv_nn {x y B : Int} (h0 : 0 ≤ x) (h1 : x ≤ B) (hy : 1 ≤ y) : 0 ≤ Int.tdiv x y ∧ Int.tdiv x y ≤ B := by
  rw [Int.tdiv_eq_ediv_of_nonneg h0]
  exact ⟨Int.ediv_nonneg h0 (by omega), Int.le_trans (Int.ediv_le_self y h0) h1⟩
theorem tmod_nn {x y : Int} (h0 : 0 ≤ x) (hy : 1 ≤ y) : 0 ≤ Int.tmod x y ∧ Int.tmod x y < y := by
  rw [Int.tmod_eq_emod_of_nonneg h0]
  exact ⟨Int.emod_nonneg x (by omega), Int.emod_lt_of_pos x (by omega)⟩
theorem l_B_isl {Qr : Option AV → HT → Prop} {Qt : HT → Prop} (ha : 0 ≤ a ∧ a ≤ 1099511627776) (hc : 1 ≤ c ∧ c ≤ 1099511627776) (hd : 0 ≤ d ∧ d ≤ 1099511627776) (he : 1 ≤ e ∧ e ≤ 1099511627776) : ∀ (u i : Nat) (x y : Int) (z13 z14 z15 z16 : Option AV), i + u = 5 → (0 ≤ x ∧ x ≤ 1152921504606846976) → (0 ≤ y ∧ y ≤ 1152921504606846976) → (∀ z g, z = some (vi (isl c e u x y)) → g = h → Qr z g) → AW G M_B_isLess Qr Qt 0 0 25 [some (vl a), none, some (vl c), none, some (vl d), none, some (vl e), none, some (vl x), none, some (vl y), none, some (vi (i : Int)), z13, z14, z15, z16] [] h := by
  intro u
  induction u with
  | zero =>
    intro i x y z13 z14 z15 z16 hi hx hy hq
    refine aw_ls (ls' := [some (vl a), none, some (vl c), none, some (vl d), none, some (vl e), none, some (vl x), none, some (vl y), none, some (vi (i : Int)), none, none, none, none]) (lsk_s (lsk_n (lsk_s (lsk_n (lsk_s (lsk_n (lsk_s (lsk_n (lsk_s (lsk_n (lsk_s (lsk_n (lsk_s (lsk_n (lsk_n (lsk_n (lsk_n lsk_0))))))))))))))))) ?_
    refine aw_blk (pc' := 28) (ls' := [some (vl a), none, some (vl c), none, some (vl d), none, some (vl e), none, some (vl x), none, some (vl y), none, some (vi (i : Int)), none, none, none, none]) (st' := [vi 4, vi (i : Int)]) [.inl (.iload 12), .inl (.iconst 4)] 25 _ _ (by decide +kernel) rfl ?_
    refine aw_icmp_gt (o := 63) (tgt := 91) (by decide +kernel) (by decide) (by omega) (by omega) (fun _ => ?_) (fun c => absurd (by omega) c)
    refine aw_blk (pc' := 92) (ls' := [some (vl a), none, some (vl c), none, some (vl d), none, some (vl e), none, some (vl x), none, some (vl y), none, some (vi (i : Int)), none, none, none, none]) (st' := [vi 0]) [.inl (.iconst 0)] 91 _ _ (by decide +kernel) rfl ?_
    exact aw_zret (by decide +kernel) rfl (by decide) (by decide) (by omega) (hq _ _ rfl rfl)
  | succ u ih =>
    intro i x y z13 z14 z15 z16 hi hx hy hq
    refine aw_ls (ls' := [some (vl a), none, some (vl c), none, some (vl d), none, some (vl e), none, some (vl x), none, some (vl y), none, some (vi (i : Int)), none, none, none, none]) (lsk_s (lsk_n (lsk_s (lsk_n (lsk_s (lsk_n (lsk_s (lsk_n (lsk_s (lsk_n (lsk_s (lsk_n (lsk_s (lsk_n (lsk_n (lsk_n (lsk_n lsk_0))))))))))))))))) ?_
    have q1 := tdiv_nn hx.1 hx.2 hc.1
    have q2 := tdiv_nn hy.1 hy.2 he.1
    have q3 := tmod_nn hx.1 hc.1
    have q4 := tmod_nn hy.1 he.1
    refine aw_blk (pc' := 28) (ls' := [some (vl a), none, some (vl c), none, some (vl d), none, some (vl e), none, some (vl x), none, some (vl y), none, some (vi (i : Int)), none, none, none, none]) (st' := [vi 4, vi (i : Int)]) [.inl (.iload 12), .inl (.iconst 4)] 25 _ _ (by decide +kernel) rfl ?_
    refine aw_icmp_gt (o := 63) (tgt := 91) (by decide +kernel) (by decide) (by omega) (by omega) (fun c => absurd c (by omega)) (fun _ => ?_)
    refine aw_blk (pc' := 34) (ls' := [some (vl a), none, some (vl c), none, some (vl d), none, some (vl e), none, some (vl x), none, some (vl y), none, some (vi (i : Int)), none, none, none, none]) (st' := [vl c, vl x]) [.inl (.lload 8), .inl (.lload_n 2)] 31 _ _ (by decide +kernel) rfl ?_
    refine aw_ldiv (by decide +kernel) (by omega) (by omega) (by omega) ?_
    refine aw_blk (pc' := 41) (ls' := [some (vl a), none, some (vl c), none, some (vl d), none, some (vl e), none, some (vl x), none, some (vl y), none, some (vi (i : Int)), some (vl (Int.tdiv x c)), none, none, none]) (st' := [vl e, vl y]) [.inl (.lstore 13), .inl (.lload 10), .inl (.lload 6)] 35 _ _ (by decide +kernel) rfl ?_
    refine aw_ldiv (by decide +kernel) (by omega) (by omega) (by omega) ?_
    refine aw_blk (pc' := 48) (ls' := [some (vl a), none, some (vl c), none, some (vl d), none, some (vl e), none, some (vl x), none, some (vl y), none, some (vi (i : Int)), some (vl (Int.tdiv x c)), none, some (vl (Int.tdiv y e)), none]) (st' := [vl (Int.tdiv y e), vl (Int.tdiv x c)]) [.inl (.lstore 15), .inl (.lload 13), .inl (.lload 15)] 42 _ _ (by decide +kernel) rfl ?_
    refine aw_lcmp (by decide +kernel) (by omega) (by omega) ?_
    refine aw_if_eq (o := 17) (tgt := 66) (by decide +kernel) (by decide) (cmpI_in _ _) (fun c48 => ?_) (fun c48 => ?_)
    · rw [cmpI_eq] at c48
      refine aw_blk (pc' := 69) (ls' := [some (vl a), none, some (vl c), none, some (vl d), none, some (vl e), none, some (vl x), none, some (vl y), none, some (vi (i : Int)), some (vl (Int.tdiv x c)), none, some (vl (Int.tdiv y e)), none]) (st' := [vl c, vl x]) [.inl (.lload 8), .inl (.lload_n 2)] 66 _ _ (by decide +kernel) rfl ?_
      refine aw_lrem (by decide +kernel) (by omega) (by omega) (by omega) ?_
      refine aw_blk (pc' := 72) (ls' := [some (vl a), none, some (vl c), none, some (vl d), none, some (vl e), none, some (vl x), none, some (vl y), none, some (vi (i : Int)), some (vl (Int.tdiv x c)), none, some (vl (Int.tdiv y e)), none]) (st' := [vi 20, vl (Int.tmod x c)]) [.inl (.bipush 20)] 70 _ _ (by decide +kernel) rfl ?_
      refine aw_lshl (p9 := 1048576) (20) (by decide +kernel) rfl (by decide) (by decide) ?_
      refine aw_blk (pc' := 79) (ls' := [some (vl a), none, some (vl c), none, some (vl d), none, some (vl e), none, some (vl ((Int.tmod x c) * 1048576)), none, some (vl y), none, some (vi (i : Int)), some (vl (Int.tdiv x c)), none, some (vl (Int.tdiv y e)), none]) (st' := [vl e, vl y]) [.inl (.lstore 8), .inl (.lload 10), .inl (.lload 6)] 73 _ _ (by decide +kernel) rfl ?_
      refine aw_lrem (by decide +kernel) (by omega) (by omega) (by omega) ?_
      refine aw_blk (pc' := 82) (ls' := [some (vl a), none, some (vl c), none, some (vl d), none, some (vl e), none, some (vl ((Int.tmod x c) * 1048576)), none, some (vl y), none, some (vi (i : Int)), some (vl (Int.tdiv x c)), none, some (vl (Int.tdiv y e)), none]) (st' := [vi 20, vl (Int.tmod y e)]) [.inl (.bipush 20)] 80 _ _ (by decide +kernel) rfl ?_
      refine aw_lshl (p9 := 1048576) (20) (by decide +kernel) rfl (by decide) (by decide) ?_
      refine aw_blk (pc' := 88) (ls' := [some (vl a), none, some (vl c), none, some (vl d), none, some (vl e), none, some (vl ((Int.tmod x c) * 1048576)), none, some (vl ((Int.tmod y e) * 1048576)), none, some (vi ((i : Int) + 1)), some (vl (Int.tdiv x c)), none, some (vl (Int.tdiv y e)), none]) (st' := []) [.inl (.lstore 10), .inl (.iinc 12 1)] 83 _ _ (by decide +kernel) rfl ?_
      refine aw_goto (o := -63) (tgt := 25) (by decide +kernel) (by decide) ?_
      exact ih (i + 1) _ _ _ _ _ _ (by omega) (by omega) (by omega) (fun z g e1 e2 => hq z g (by rw [e1, isl, if_pos c48]) e2)
    · rw [cmpI_eq] at c48
      refine aw_blk (pc' := 56) (ls' := [some (vl a), none, some (vl c), none, some (vl d), none, some (vl e), none, some (vl x), none, some (vl y), none, some (vi (i : Int)), some (vl (Int.tdiv x c)), none, some (vl (Int.tdiv y e)), none]) (st' := [vl (Int.tdiv y e), vl (Int.tdiv x c)]) [.inl (.lload 13), .inl (.lload 15)] 52 _ _ (by decide +kernel) rfl ?_
      refine aw_lcmp (by decide +kernel) (by omega) (by omega) ?_
      refine aw_if_ge (o := 7) (tgt := 64) (by decide +kernel) (by decide) (cmpI_in _ _) (fun c56 => ?_) (fun c56 => ?_)
      · rw [cmpI_ge] at c56
        refine aw_blk (pc' := 65) (ls' := [some (vl a), none, some (vl c), none, some (vl d), none, some (vl e), none, some (vl x), none, some (vl y), none, some (vi (i : Int)), some (vl (Int.tdiv x c)), none, some (vl (Int.tdiv y e)), none]) (st' := [vi 0]) [.inl (.iconst 0)] 64 _ _ (by decide +kernel) rfl ?_
        exact aw_zret (by decide +kernel) rfl (by decide) (by decide) (by omega) (hq _ _ (by rw [isl, if_neg c48, if_neg (by omega)]) rfl)
      · rw [cmpI_ge] at c56
        refine aw_blk (pc' := 61) (ls' := [some (vl a), none, some (vl c), none, some (vl d), none, some (vl e), none, some (vl x), none, some (vl y), none, some (vi (i : Int)), some (vl (Int.tdiv x c)), none, some (vl (Int.tdiv y e)), none]) (st' := [vi 1]) [.inl (.iconst 1)] 60 _ _ (by decide +kernel) rfl ?_
        refine aw_goto (o := 4) (tgt := 65) (by decide +kernel) (by decide) ?_
        exact aw_zret (by decide +kernel) rfl (by decide) (by decide) (by omega) (hq _ _ (by rw [isl, if_neg c48, if_pos (by omega)]) rfl)
theorem m_B_isLess (ha : 0 ≤ a ∧ a ≤ 1099511627776) (hc : 1 ≤ c ∧ c ≤ 1099511627776) (hd : 0 ≤ d ∧ d ≤ 1099511627776) (he : 1 ≤ e ∧ e ≤ 1099511627776) : ADet G M_B_isLess [vl a, vl c, vl d, vl e] h (some (vi (isl c e 5 a d))) h := by
  refine am_det (by decide +kernel) (Nat.le_of_ble_eq_true rfl) (fun Qr Qt hq => ?_)
  refine aw_blk (pc' := 2) (ls' := [some (vl a), none, some (vl c), none, some (vl d), none, some (vl e), none, none, none, none, none, none, none, none, none, none]) (st' := [vl 1, vl c]) [.inl (.lload_n 2), .inl (.lconst 1)] 0 _ _ (by decide +kernel) rfl ?_
  refine aw_lcmp (by decide +kernel) (by omega) (by omega) ?_
  refine aw_if_lt (o := 10) (tgt := 13) (by decide +kernel) (by decide) (cmpI_in _ _) (fun c => absurd ((cmpI_lt _ _).mp c) (by omega)) (fun _ => ?_)
  refine aw_blk (pc' := 9) (ls' := [some (vl a), none, some (vl c), none, some (vl d), none, some (vl e), none, none, none, none, none, none, none, none, none, none]) (st' := [vl 1, vl e]) [.inl (.lload 6), .inl (.lconst 1)] 6 _ _ (by decide +kernel) rfl ?_
  refine aw_lcmp (by decide +kernel) (by omega) (by omega) ?_
  refine aw_if_ge (o := 5) (tgt := 15) (by decide +kernel) (by decide) (cmpI_in _ _) (fun _ => ?_) (fun c => absurd ((cmpI_ge _ _).mpr (by omega)) c)
  refine aw_blk (pc' := 25) (ls' := [some (vl a), none, some (vl c), none, some (vl d), none, some (vl e), none, some (vl a), none, some (vl d), none, some (vi 0), none, none, none, none]) (st' := []) [.inl (.lload_n 0), .inl (.lstore 8), .inl (.lload 4), .inl (.lstore 10), .inl (.iconst 0), .inl (.istore 12)] 15 _ _ (by decide +kernel) rfl ?_
  exact l_B_isl ha hc hd he 5 0 a d none none none none rfl (by omega) (by omega) hq

abbrev sgB (bd tk : Int) : SG := [some (ob 0 [vr 1 0, vr 2 0, vr 3 0, vr 4 0, vr 5 0, vr 6 0, vr 7 0, vi bd, vi tk])]
variable {bd tk : Int} {laws ahead made : Nat → Option (Nat × Nat)} {slot : Nat → Int} {od dn un : Nat}
theorem m_B_heldUnless (ha : I32 a) : ADet G M_B_heldUnless [vr 0 0, vi a] (Hp (sgB bd tk) s t mk df jo tr di mo dy) (some (vi (if a = 5000 then 1 else 0))) (Hp (sgB (if a = 5000 then bd else a) tk) s t mk df jo tr di mo dy) := by
  refine am_det (by decide +kernel) (Nat.le_of_ble_eq_true rfl) (fun Qr Qt hq => ?_)
  refine aw_blk (pc' := 4) (ls' := [some (vr 0 0), some (vi a)]) (st' := [vi 5000, vi a]) [.inl (.iload_n 1), .inl (.sipush 5000)] 0 _ _ (by decide +kernel) rfl ?_
  refine aw_icmp_ne (o := 5) (tgt := 9) (by decide +kernel) (by decide) (by omega) (by omega) (fun c4 => ?_) (fun c4 => ?_)
  · refine aw_blk (pc' := 11) (ls' := [some (vr 0 0), some (vi a)]) (st' := [vi a, vr 0 0]) [.inl (.aload_n 0), .inl (.iload_n 1)] 9 _ _ (by decide +kernel) rfl ?_
    refine aw_put (idx := 58) (ci := 0) (k := 7) (h' := Hp [some (ob 0 [vr 1 0, vr 2 0, vr 3 0, vr 4 0, vr 5 0, vr 6 0, vr 7 0, vi a, vi tk])] s t mk df jo tr di mo dy) (by decide +kernel) (by decide +kernel) rfl (Nat.le_of_ble_eq_true rfl) (show I32 _ from by omega) rfl ?_
    refine aw_blk (pc' := 15) (ls' := [some (vr 0 0), some (vi a)]) (st' := [vi 0]) [.inl (.iconst 0)] 14 _ _ (by decide +kernel) rfl ?_
    exact aw_iret (by decide +kernel) rfl (by decide) (by decide) (hq _ _ (by rw [if_neg c4]) (by rw [if_neg c4]))
  · refine aw_blk (pc' := 8) (ls' := [some (vr 0 0), some (vi a)]) (st' := [vi 1]) [.inl (.iconst 1)] 7 _ _ (by decide +kernel) rfl ?_
    exact aw_iret (by decide +kernel) rfl (by decide) (by decide) (hq _ _ (by rw [if_pos c4]) (by rw [if_pos c4]))

theorem m_B_lawOf (ha : I32 a) (hl : lawAt laws a = some (9, k)) : ADet G M_B_lawOf [vr 0 0, vi a] (Hp (sgB bd tk) (sgS laws slot ahead made (od : Int) (dn : Int) (un : Int)) t mk df jo tr di mo dy) (some (vr 9 k)) (Hp (sgB bd tk) (sgS laws slot ahead made (od : Int) (dn : Int) (un : Int)) t mk df jo tr di mo dy) := by
  refine am_det (by decide +kernel) (Nat.le_of_ble_eq_true rfl) (fun Qr Qt hq => ?_)
  refine aw_blk (pc' := 5) (ls' := [some (vr 0 0), some (vi a), none]) (st' := [vi a, vr 1 0]) [.inl (.aload_n 0), .inr (10, 0, 0), .inl (.iload_n 1)] 0 _ _ (by decide +kernel) rfl ?_
  refine aw_dV (cs' := 0) (sl' := 0) (pc' := 8) (st' := [vo (lawAt laws a)]) (idx := 117) (as := [vi a]) (st := []) (m_S_lawIn ha) (by decide +kernel) (show vOK "ChanceBench" 117 M_S_lawIn 1 = true by decide +kernel) rfl rfl rfl (Nat.le_of_ble_eq_true rfl) (by decide) (by decide) (by decide) rfl rfl rfl rfl ?_
  rw [hl]
  refine aw_blk (pc' := 10) (ls' := [some (vr 0 0), some (vi a), some (vr 9 k)]) (st' := [vr 9 k]) [.inl (.astore_n 2), .inl (.aload_n 2)] 8 _ _ (by decide +kernel) rfl ?_
  refine aw_ifnonnull (o := 11) (tgt := 21) (by decide +kernel) (by decide) (fun _ _ => ?_) (fun z => nomatch z)
  refine aw_blk (pc' := 22) (ls' := [some (vr 0 0), some (vi a), some (vr 9 k)]) (st' := [vr 9 k]) [.inl (.aload_n 2)] 21 _ _ (by decide +kernel) rfl ?_
  exact aw_aret (by decide +kernel) rfl (by decide) (by decide) (hq _ _ rfl rfl)

theorem m_B_lawOf_t (ha : I32 a) (hl : lawAt laws a = none) : AThr G M_B_lawOf [vr 0 0, vi a] (Hp (sgB bd tk) (sgS laws slot ahead made (od : Int) (dn : Int) (un : Int)) t mk df jo tr di mo dy) := by
  refine am_thr (by decide +kernel) (Nat.le_of_ble_eq_true rfl) (fun Qr Qt hq => ?_)
  refine aw_blk (pc' := 5) (ls' := [some (vr 0 0), some (vi a), none]) (st' := [vi a, vr 1 0]) [.inl (.aload_n 0), .inr (10, 0, 0), .inl (.iload_n 1)] 0 _ _ (by decide +kernel) rfl ?_
  refine aw_dV (cs' := 0) (sl' := 0) (pc' := 8) (st' := [vo (lawAt laws a)]) (idx := 117) (as := [vi a]) (st := []) (m_S_lawIn ha) (by decide +kernel) (show vOK "ChanceBench" 117 M_S_lawIn 1 = true by decide +kernel) rfl rfl rfl (Nat.le_of_ble_eq_true rfl) (by decide) (by decide) (by decide) rfl rfl rfl rfl ?_
  rw [hl]
  refine aw_blk (pc' := 10) (ls' := [some (vr 0 0), some (vi a), some (vn)]) (st' := [vn]) [.inl (.astore_n 2), .inl (.aload_n 2)] 8 _ _ (by decide +kernel) rfl ?_
  refine aw_ifnonnull (o := 11) (tgt := 21) (by decide +kernel) (by decide) (fun _ z => nomatch z) (fun _ => ?_)
  exact aw_throw (ik := 146) (ic := 148) tOK_B (by decide +kernel) (by decide +kernel) (by decide +kernel) (by decide +kernel) (Nat.le_of_ble_eq_true rfl) (by decide) (by decide) (by decide) hq

theorem m_B_growTo_t (ha : I32 a) (h0 : ¬ (0 ≤ a ∧ a ≤ 60)) : AThr G M_B_growTo [vr 0 0, vr k1 k2, vi a] (Hp (sgB bd tk) (sgS laws slot ahead made (od : Int) (dn : Int) (un : Int)) t mk df jo tr di mo dy) := by
  refine am_thr (by decide +kernel) (Nat.le_of_ble_eq_true rfl) (fun Qr Qt hq => ?_)
  refine aw_blk (pc' := 4) (ls' := [some (vr 0 0), some (vr k1 k2), some (vi a), none]) (st' := [vi 60, vi 0, vi a]) [.inl (.iload_n 2), .inl (.iconst 0), .inl (.bipush 60)] 0 _ _ (by decide +kernel) rfl ?_
  refine aw_dS (cs' := 0) (sl' := 0) (pc' := 7) (st' := [vi (if 0 ≤ a ∧ a ≤ 60 then 1 else 0)]) (idx := 98) (as := [vi a, vi 0, vi 60]) (st := []) (m_B_isWithin (by omega) (by omega) (by omega)) (by decide +kernel) (show sOK "ChanceBench" 98 M_B_isWithin 3 = true by decide +kernel) rfl (Nat.le_of_ble_eq_true rfl) (by decide) (by decide) (by decide) rfl rfl rfl rfl ?_
  rw [if_neg (by omega)]
  refine aw_if_ne (o := 11) (tgt := 18) (by decide +kernel) (by decide) (by omega) (fun c => absurd (by omega) c) (fun _ => ?_)
  exact aw_throw (ik := 146) (ic := 148) tOK_B (by decide +kernel) (by decide +kernel) (by decide +kernel) (by decide +kernel) (Nat.le_of_ble_eq_true rfl) (by decide) (by decide) (by decide) hq

end
end
section
/-! tables: a law as its weight at each value of -1000 to 1000 -/
abbrev inR (u : Int) : Prop := -1000 ≤ u ∧ u ≤ 1000
def sT (F : Int → Int) : Int := sumZ (fun k => F ((k : Int) - 1000)) 2001
section
variable {f g : Nat → Int} {n p : Nat} {v c u D : Int} {F H : Int → Int} {T : Int → Int}
theorem sumZ_one {F G : Nat → Int} {p : Nat} : ∀ {N : Nat}, p < N → (∀ k, k < N → k ≠ p → F k = G k) → sumZ F N = sumZ G N + (F p - G p)
  | 0, h, _ => by omega
  | N + 1, h, e => by
    simp only [sumZ]
    rcases Nat.lt_or_ge p N with z | z
    · rw [sumZ_one z (fun k hk => e k (by omega)), e N (by omega) (by omega)]; omega
    · have hp : p = N := by omega
      subst hp
      rw [sumZ_ext (g := G) (fun k hk => e k (by omega) (by omega))]; omega
theorem sumZ_add : ∀ n : Nat, sumZ (fun i => f i + g i) n = sumZ f n + sumZ g n
  | 0 => rfl
  | n + 1 => by simp only [sumZ]; rw [sumZ_add n]; omega
theorem sumZ_sub : ∀ n : Nat, sumZ (fun i => f i - g i) n = sumZ f n - sumZ g n
  | 0 => rfl
  | n + 1 => by simp only [sumZ]; rw [sumZ_sub n]; omega
theorem sumZ_mul : ∀ n : Nat, sumZ (fun i => c * f i) n = c * sumZ f n
  | 0 => by simp [sumZ]
  | n + 1 => by simp only [sumZ]; rw [sumZ_mul n, Int.mul_add]
theorem sumZ_0 : ∀ n : Nat, sumZ (fun _ => 0) n = 0
  | 0 => rfl
  | n + 1 => by simp only [sumZ]; rw [sumZ_0 n]; rfl
theorem sumZ_mono {f g : Nat → Int} : ∀ {n : Nat}, (∀ i, i < n → f i ≤ g i) → sumZ f n ≤ sumZ g n
  | 0, _ => Int.le_refl _
  | n + 1, h => by simp only [sumZ]; have := sumZ_mono (n := n) (fun i hi => h i (by omega)); have := h n (by omega); omega
theorem sT_ext (h : ∀ u, inR u → F u = H u) : sT F = sT H := sumZ_ext (fun i hi => h _ ⟨by omega, by omega⟩)
/-- a sum over the table is one over the law -/
theorem tr_ {F : Int → Int → Int} (h0 : ∀ u, inR u → F u 0 = 0) : ∀ {n : Nat}, inc f n → (∀ i, i < n → inR (f i)) → sT (fun u => F u (den f g n u)) = sumZ (fun i => F (f i) (g i)) n
  | 0, _, _ => by
    have : sT (fun u => F u (den f g 0 u)) = sT (fun _ => 0) := sT_ext (fun u hu => h0 u hu)
    rw [this]; unfold sT; exact sumZ_0 _
  | n + 1, hs, hr => by
    have hn := hr n (by omega)
    have e0 : den f g n (f n) = 0 := den_0 (fun k hk => by have := hs k n hk (by omega); omega)
    have ih := tr_ (F := F) h0 (n := n) (fun i j a b => hs i j a (by omega)) (fun i hi => hr i (by omega))
    have key := sumZ_one (F := fun k : Nat => F ((k : Int) - 1000) (den f g (n + 1) ((k : Int) - 1000))) (G := fun k : Nat => F ((k : Int) - 1000) (den f g n ((k : Int) - 1000))) (p := (f n + 1000).toNat) (N := 2001) (by omega) (fun k hk hp => by
      show F _ (den f g (n + 1) _) = F _ (den f g n _)
      rw [den_s, if_neg (by omega), Int.add_zero])
    have ep : (((f n + 1000).toNat : Int) - 1000) = f n := by omega
    simp only [ep] at key
    rw [den_s, e0, if_pos rfl, Int.zero_add, h0 _ hn] at key
    simp only [sumZ]
    rw [← ih]
    simp only [sT]
    rw [key]; omega
def cnt (T : Int → Int) : Int := sT (fun u => if 0 < T u then 1 else 0)
def gtn (T : Int → Int) : Nat → Nat
  | 0 => 0
  | k + 1 => Nat.gcd (T ((k : Int) - 1000)).natAbs (gtn T k)
abbrev gT (T : Int → Int) : Int := ((gtn T 2001 : Nat) : Int)
def allT (T : Int → Int) : Int := sT (fun u => Int.tdiv (T u) (gT T))
/-- what the maker has gathered becomes a law -/
def acc (T : Int → Int) (by_ : Prop) : Prop := ¬ by_ ∧ 1 ≤ cnt T ∧ cnt T ≤ 24 ∧ allT T ≤ 1048576
theorem gtn_dvd {d : Nat} : ∀ {N : Nat}, d ∣ gtn T N ↔ ∀ k, k < N → d ∣ (T ((k : Int) - 1000)).natAbs
  | 0 => ⟨fun _ k hk => by omega, fun _ => Nat.dvd_zero d⟩
  | N + 1 => by
    rw [gtn, Nat.dvd_gcd_iff, gtn_dvd (N := N)]
    constructor
    · intro h k hk
      rcases Nat.lt_or_ge k N with z | z
      · exact h.2 k z
      · have : k = N := by omega
        subst this; exact h.1
    · intro h
      exact ⟨h N (by omega), fun k hk => h k (by omega)⟩
theorem cnt_ext {T T' : Int → Int} (h : ∀ u, inR u → T u = T' u) : cnt T = cnt T' := by unfold cnt; exact sT_ext (fun u hu => by rw [h u hu])
theorem gtn_ext {T T' : Int → Int} (h : ∀ u, inR u → T u = T' u) : ∀ N, N ≤ 2001 → gtn T N = gtn T' N
  | 0, _ => rfl
  | N + 1, hN => by rw [gtn, gtn, gtn_ext h N (by omega), h _ ⟨by omega, by omega⟩]
theorem allT_ext {T T' : Int → Int} (h : ∀ u, inR u → T u = T' u) : allT T = allT T' := by
  unfold allT gT
  rw [gtn_ext h 2001 (Nat.le_refl _)]
  exact sT_ext (fun u hu => by rw [h u hu])
theorem cnt_den (hs : inc f n) (hr : ∀ i, i < n → inR (f i)) (hg : ∀ i, i < n → 1 ≤ g i) : cnt (den f g n) = (n : Int) := by
  unfold cnt
  rw [tr_ (F := fun _ x => if 0 < x then 1 else 0) (fun u _ => rfl) hs hr]
  have : ∀ m, m ≤ n → sumZ (fun i => if 0 < g i then 1 else 0) m = (m : Int) := by
    intro m
    induction m with
    | zero => intro _; rfl
    | succ m ih => intro h; simp only [sumZ]; rw [ih (by omega), if_pos (by have := hg m (by omega); omega)]; rfl
  exact this n (Nat.le_refl n)
theorem cnt_up (h : ∀ u, inR u → T u ≤ F u) : cnt T ≤ cnt F := by
  unfold cnt sT
  exact sumZ_mono (fun i hi => by
  have := h ((i : Int) - 1000) ⟨by omega, by omega⟩
  show (if 0 < T ((i : Int) - 1000) then (1 : Int) else 0) ≤ if 0 < F ((i : Int) - 1000) then 1 else 0
  split <;> split <;> omega)
theorem cnt_new (hv : inR v) (h0 : T v = 0) (hc : 1 ≤ c) : cnt (fun u => T u + (if v = u then c else 0)) = cnt T + 1 := by
  have key := sumZ_one (F := fun k : Nat => if 0 < T ((k : Int) - 1000) + (if v = (k : Int) - 1000 then c else 0) then (1 : Int) else 0) (G := fun k : Nat => if 0 < T ((k : Int) - 1000) then (1 : Int) else 0) (p := (v + 1000).toNat) (N := 2001) (by omega) (fun k hk hp => by
    show (if 0 < T _ + (if v = _ then c else 0) then (1 : Int) else 0) = _
    rw [if_neg (show ¬ v = (k : Int) - 1000 by omega), Int.add_zero])
  have ep : (((v + 1000).toNat : Int) - 1000) = v := by omega
  simp only [ep] at key
  rw [h0, if_pos trivial, if_pos (show 0 < 0 + c by omega), if_neg (show ¬ (0 : Int) < 0 by omega)] at key
  simp only [cnt, sT]
  rw [key]; omega
/-! a row with one number put in -/
theorem sumZ_ins : ∀ (m : Nat), m ≤ n + 1 → sumZ (ins f n p v) m = if p < m then sumZ f (m - 1) + v else sumZ f m
  | 0, _ => by rw [if_neg (by omega)]; rfl
  | m + 1, h => by
    simp only [sumZ]
    rw [sumZ_ins m (by omega)]
    unfold ins
    rcases Nat.lt_trichotomy p m with z | z | z
    · rw [if_pos z, if_neg (show ¬ m = p by omega), if_pos (show p < m ∧ m ≤ n from ⟨z, by omega⟩), if_pos (show p < m + 1 by omega)]
      obtain ⟨m', rfl⟩ : ∃ m', m = m' + 1 := ⟨m - 1, by omega⟩
      simp only [Nat.add_sub_cancel, sumZ]; omega
    · subst z
      rw [if_neg (show ¬ p < p by omega), if_pos rfl, if_pos (show p < p + 1 by omega)]; rfl
    · rw [if_neg (show ¬ p < m by omega), if_neg (show ¬ m = p by omega), if_neg (show ¬ (p < m ∧ m ≤ n) by omega), if_neg (show ¬ p < m + 1 by omega)]
theorem ins_fun (K : Int → Int → Int) (f g : Nat → Int) (n p : Nat) (v c : Int) : (fun i => K (ins f n p v i) (ins g n p c i)) = ins (fun i => K (f i) (g i)) n p (K v c) := by
  funext i
  unfold ins
  split
  · rfl
  · split <;> rfl
theorem sumZ_insA (hp : p ≤ n) : sumZ (ins f n p v) (n + 1) = sumZ f n + v := by
  rw [sumZ_ins (n + 1) (Nat.le_refl _), if_pos (by omega)]; rfl
theorem den_ins (hp : p ≤ n) : den (ins f n p v) (ins g n p c) (n + 1) u = den f g n u + (if v = u then c else 0) := by
  unfold den
  rw [ins_fun (fun x y => if x = u then y else 0) f g n p v c, sumZ_insA hp]
theorem ins_in {P : Int → Prop} (hp : p ≤ n) (h : ∀ i, i < n → P (f i)) (hv : P v) : ∀ i, i < n + 1 → P (ins f n p v i) := by
  intro i hi
  unfold ins
  split
  · exact hv
  · split
    · exact h _ (by omega)
    · exact h _ (by omega)
theorem inc_ins (hs : inc f n) (hne : ∀ k, k < n → f k ≠ v) : inc (ins f n (lb f v n) v) (n + 1) := by
  have hl := lb_le f v n
  intro i j hij hj
  unfold ins
  have A : ∀ k, k < lb f v n → f k < v := fun k hk => lb_lt hs hk
  have B : ∀ k, lb f v n ≤ k → k < n → v < f k := fun k h1 h2 => by have := lb_ge h1 h2; have := hne k h2; omega
  by_cases h1 : i = lb f v n
  · rw [if_pos h1, if_neg (by omega), if_pos (by omega)]
    exact B _ (by omega) (by omega)
  · rw [if_neg h1]
    by_cases h2 : j = lb f v n
    · rw [if_pos h2, if_neg (by omega)]
      exact A i (by omega)
    · rw [if_neg h2]
      by_cases h3 : lb f v n < i
      · rw [if_pos (by omega), if_pos (by omega)]
        exact hs _ _ (by omega) (by omega)
      · rw [if_neg (by omega)]
        by_cases h4 : lb f v n < j
        · rw [if_pos (by omega)]
          have := A i (by omega)
          have := B (j - 1) (by omega) (by omega)
          omega
        · rw [if_neg (by omega)]
          exact hs i j hij (by omega)
theorem lb_no (hs : inc f n) (h : ¬ (lb f v n < n ∧ f (lb f v n) = v)) : ∀ k, k < n → f k ≠ v :=
  ixO_no hs (by unfold ixO; rw [if_neg h])
/-! the common divisor -/
def dvn (g : Nat → Int) : Nat → Nat
  | 0 => 0
  | i + 1 => Nat.gcd (g i).natAbs (dvn g i)
theorem dvn_dvd {d : Nat} : ∀ {N : Nat}, d ∣ dvn g N ↔ ∀ k, k < N → d ∣ (g k).natAbs
  | 0 => ⟨fun _ k hk => by omega, fun _ => Nat.dvd_zero d⟩
  | N + 1 => by
    rw [dvn, Nat.dvd_gcd_iff, dvn_dvd (N := N)]
    constructor
    · intro h k hk
      rcases Nat.lt_or_ge k N with z | z
      · exact h.2 k z
      · have : k = N := by omega
        subst this; exact h.1
    · intro h
      exact ⟨h N (by omega), fun k hk => h k (by omega)⟩
theorem dv_nat (hg : ∀ i, i < n → 1 ≤ g i) : ∀ i, i ≤ n → dv g i = ((dvn g i : Nat) : Int)
  | 0, _ => rfl
  | i + 1, h => by
    rw [dv, dvn, dv_nat hg i (by omega), gc]
    have h1 : 0 < Nat.gcd (g i).natAbs (dvn g i) := Nat.gcd_pos_of_pos_left _ (by have := hg i (by omega); omega)
    rw [Int.natAbs_natCast]
    split <;> omega
theorem dv_gT (hs : inc f n) (hr : ∀ i, i < n → inR (f i)) (hg : ∀ i, i < n → 1 ≤ g i) : dv g n = gT (den f g n) := by
  rw [dv_nat hg n (Nat.le_refl n)]
  congr 1
  apply Nat.dvd_antisymm
  · rw [gtn_dvd]
    intro k hk
    rcases Classical.em (∃ i, i < n ∧ f i = (k : Int) - 1000) with ⟨i, hi, e⟩ | h
    · rw [← e, den_at hs hi]; exact dvn_dvd.mp (Nat.dvd_refl _) i hi
    · rw [den_0 (fun i hi e => h ⟨i, hi, e⟩)]; exact Nat.dvd_zero _
  · rw [dvn_dvd]
    intro i hi
    have := hr i hi
    have h1 := gtn_dvd.mp (Nat.dvd_refl (gtn (den f g n) 2001)) (f i + 1000).toNat (by omega)
    rw [show (((f i + 1000).toNat : Int) - 1000) = f i by omega, den_at hs hi] at h1
    exact h1
theorem tdiv_sum {g : Nat → Int} : ∀ {n : Nat}, 0 < D → (∀ i, i < n → 0 ≤ g i ∧ D ∣ g i) → sumZ (fun i => Int.tdiv (g i) D) n = Int.tdiv (sumZ g n) D
  | 0, _, _ => by simp [sumZ]
  | n + 1, hD, h => by
    simp only [sumZ]
    have h1 := h n (by omega)
    have h2 := sumZ_nn (n := n) (fun i hi => (h i (by omega)).1) n (Nat.le_refl n)
    rw [tdiv_sum hD (fun i hi => h i (by omega)), Int.tdiv_eq_ediv_of_nonneg h2, Int.tdiv_eq_ediv_of_nonneg h1.1, Int.tdiv_eq_ediv_of_nonneg (by omega), Int.add_ediv_of_dvd_right h1.2]
theorem dv_dvd (hg : ∀ i, i < n → 1 ≤ g i) : ∀ i, i < n → dv g n ∣ g i := by
  intro i hi
  rw [dv_nat hg n (Nat.le_refl n)]
  exact Int.ofNat_dvd_left.mpr (dvn_dvd.mp (Nat.dvd_refl _) i hi)
theorem allT_den (hs : inc f n) (hr : ∀ i, i < n → inR (f i)) (hg : ∀ i, i < n → 1 ≤ g i) (h1 : 1 ≤ n) (hD : 1 ≤ dv g n) : allT (den f g n) = Int.tdiv (sumZ g n) (dv g n) := by
  unfold allT
  rw [tr_ (F := fun _ x => Int.tdiv x (gT (den f g n))) (fun u _ => by simp) hs hr, ← dv_gT hs hr hg]
  exact tdiv_sum (by omega) (fun i hi => ⟨by have := hg i hi; omega, dv_dvd hg i hi⟩)
theorem den_ext {f' g' : Nat → Int} (h : ∀ i, i < n → f i = f' i ∧ g i = g' i) : den f g n u = den f' g' n u :=
  sumZ_ext (fun i hi => by rw [(h i hi).1, (h i hi).2])
theorem den_div (hD : 0 < D) (h : ∀ i, i < n → 0 ≤ g i ∧ D ∣ g i) : den f (fun j => Int.tdiv (g j) D) n u = Int.tdiv (den f g n u) D := by
  unfold den
  rw [← tdiv_sum hD (fun i hi => by
    split
    · exact h i hi
    · exact ⟨Int.le_refl _, ⟨0, by simp⟩⟩)]
  exact sumZ_ext (fun i hi => by
    show (if f i = u then Int.tdiv (g i) D else 0) = Int.tdiv (if f i = u then g i else 0) D
    split
    · rfl
    · simp)
theorem den_nn (hg : ∀ i, i < n → 0 ≤ g i) : 0 ≤ den f g n u := sumZ_nn (n := n) (fun i hi => by split; exact hg i hi; exact Int.le_refl _) n (Nat.le_refl n)
theorem den_le (hg : ∀ i, i < n → 0 ≤ g i) : den f g n u ≤ sumZ g n := sumZ_mono (fun i hi => by split; exact Int.le_refl _; exact hg i hi)
end
end
section
section
variable {G : GT} {M M' : MI} {Qr Qr' : Option AV → HT → Prop} {Qt : HT → Prop} {cs sl pc cs' sl' pc' : Nat} {ls : LSt} {st : List AV} {h : HT} {s q n idx : Nat}
theorem aw_rV {as : List AV} {ci : Nat} {fs : List AV} {stk : List AV} (hM : AMet G M' (vr s q :: as) h Qr' (fun _ => False)) (hd : decode M.2.1 pc = .ok (.invokevirtual idx, 3)) (hw : vOK M.1.cls idx M' as.length = true) (hg : hget h s q = some (ob ci fs)) (hci : (cls[ci]?).map (fun r => r.1) = some M'.1.cls) (hst : stk = as.reverse ++ vr s q :: st) (hcat : catS st ≤ 8) (hd1 : M'.2.2.2.2.1 + 1 ≤ M.2.2.2.2.1) (hc : cs + M'.2.2.2.2.2.1 ≤ M.2.2.2.2.2.1) (hs : sl + M'.2.2.2.2.2.2 ≤ M.2.2.2.2.2.2)
    (e1 : cs + M'.2.2.2.2.2.1 = cs') (e2 : sl + M'.2.2.2.2.2.2 = sl') (e3 : pc + 3 = pc') (k : ∀ r h', Qr' r h' → AW G M Qr Qt cs' sl' pc' ls (r.toList ++ st) h') : AW G M Qr Qt cs sl pc ls stk h := by
  subst e1 e2 e3
  exact aw_callV hM hd hw hg hci hst hcat hd1 hc hs (fun _ z => z.elim) k
theorem aw_rS {as : List AV} {stk : List AV} (hM : AMet G M' as h Qr' (fun _ => False)) (hd : decode M.2.1 pc = .ok (.invokestatic idx, 3)) (hw : sOK M.1.cls idx M' as.length = true) (hst : stk = as.reverse ++ st) (hcat : catS st ≤ 8) (hd1 : M'.2.2.2.2.1 + 1 ≤ M.2.2.2.2.1) (hc : cs + M'.2.2.2.2.2.1 ≤ M.2.2.2.2.2.1) (hs : sl + M'.2.2.2.2.2.2 ≤ M.2.2.2.2.2.2)
    (e1 : cs + M'.2.2.2.2.2.1 = cs') (e2 : sl + M'.2.2.2.2.2.2 = sl') (e3 : pc + 3 = pc') (k : ∀ r h', Qr' r h' → AW G M Qr Qt cs' sl' pc' ls (r.toList ++ st) h') : AW G M Qr Qt cs sl pc ls stk h := by
  subst e1 e2 e3
  exact aw_callS hM hd hw hst hcat hd1 hc hs (fun _ z => z.elim) k
end
/-- what the maker holds, as a table: its sum is at most B; by_: something beyond the values came in -/
def mkR (B : Int) (T : Int → Int) (by_ : Prop) (n : Nat) (rf : Int) (f g : Nat → Int) : Prop :=
  (n ≤ 24 ∧ inc f n ∧ (∀ i, i < n → inR (f i) ∧ 1 ≤ g i) ∧ sumZ g n ≤ B) ∧ ((rf = 0 ∧ ¬ by_ ∧ ∀ u, inR u → T u = den f g n u) ∨ (rf = 1 ∧ (by_ ∨ 24 < cnt T)))
theorem mkR_0 {f g : Nat → Int} : mkR 0 (fun _ => 0) False 0 0 f g :=
  ⟨⟨by omega, fun i j _ h => by omega, fun i h => by omega, Int.le_refl _⟩, Or.inl ⟨rfl, fun h => h, fun u _ => rfl⟩⟩
theorem mkR.eq {B B' : Int} {T T' : Int → Int} {by_ by' : Prop} {n : Nat} {rf : Int} {f g : Nat → Int} (R : mkR B T by_ n rf f g) (hB : B ≤ B') (hT : ∀ u, inR u → T u = T' u) (hb : by_ ↔ by') : mkR B' T' by' n rf f g := by
  obtain ⟨⟨r1, r2, r3, r4⟩, r5⟩ := R
  refine ⟨⟨r1, r2, r3, by omega⟩, ?_⟩
  rcases r5 with ⟨a, b, c⟩ | ⟨a, b⟩
  · exact Or.inl ⟨a, fun z => b (hb.mpr z), fun u hu => by rw [← hT u hu, c u hu]⟩
  · exact Or.inr ⟨a, b.elim (fun z => Or.inl (hb.mp z)) (fun z => Or.inr (by rw [← cnt_ext hT]; exact z))⟩
section
variable {G : GT} {h : HT} {b s t mk df jo tr di mo dy : SG} {a c d B : Int} {n k j : Nat} {f g : Nat → Int} {rf : Int} {T : Int → Int} {by_ : Prop}
theorem m_K_addR (R : mkR B T by_ n rf f g) (ha : I64 a) (hc : 0 ≤ c) (hB : B + c ≤ 4611686018427387904) : AMet G M_K_add [vr 3 0, vl a, vl c] (Hp b s t (sgK (n : Int) rf f g) df jo tr di mo dy) (fun r h => r = none ∧ ∃ (n' : Nat) (rf' : Int) (f' g' : Nat → Int), mkR (B + c) (fun u => T u + (if a = u then c else 0)) (by_ ∨ (1 ≤ c ∧ ¬ inR a)) n' rf' f' g' ∧ h = Hp b s t (sgK (n' : Int) rf' f' g') df jo tr di mo dy) (fun _ => False) := by
  have R0 := R
  obtain ⟨⟨hn, hs, hg, hS⟩, hR⟩ := R
  have hnn : ∀ i, i < n → 0 ≤ g i := fun i hi => by have := (hg i hi).2; omega
  have hS0 := sumZ_nn hnn n (Nat.le_refl n)
  have up : cnt T ≤ cnt (fun u => T u + (if a = u then c else 0)) := cnt_up (fun u _ => by split <;> omega)
  rcases hR with ⟨rfl, hb, hT⟩ | ⟨rfl, hb⟩
  · rcases Int.lt_or_le c 1 with c1 | c1
    · refine am_mono (m_K_add_z (by omega) c1) (fun r h z => ⟨z.1, n, 0, f, g, ?_, z.2⟩) (fun _ z => z)
      have : c = 0 := by omega
      subst this
      exact R0.eq (by omega) (fun u _ => by split <;> omega) ⟨Or.inl, fun z => z.elim id (fun z => by omega)⟩
    · rcases Classical.em (inR a) with ra | ra
      · rcases Classical.em (lb f a n < n ∧ f (lb f a n) = a) with e | e
        · have h1 := sumZ_le hnn (Nat.le_refl n) e.1
          have h2 := (hg _ e.1).2
          refine am_mono (m_K_add_h hn hs ra c1 (by omega) e.1 e.2 (by omega)) (fun r h z => ⟨z.1, n, 0, f, _, ⟨⟨hn, hs, fun i hi => ⟨(hg i hi).1, ?_⟩, ?_⟩, Or.inl ⟨rfl, ?_, fun u hu => ?_⟩⟩, z.2⟩) (fun _ z => z)
          · simp only [va_up]; split
            · omega
            · exact (hg i hi).2
          · have := sumZ_one (F := va_up g (lb f a n) (g (lb f a n) + c)) (G := g) (p := lb f a n) e.1 (fun k hk hp => by simp [va_up, hp])
            rw [this, va_eq]; omega
          · exact fun z => z.elim hb (fun z => z.2 ra)
          · show T u + _ = _
            rw [hT u hu]
            unfold den
            have := sumZ_one (F := fun i => if f i = u then va_up g (lb f a n) (g (lb f a n) + c) i else 0) (G := fun i => if f i = u then g i else 0) (p := lb f a n) e.1 (fun k hk hp => by simp [va_up, hp])
            rw [this]
            simp only [va_eq, e.2]
            split <;> omega
        · have hno := lb_no hs e
          have hl := lb_le f a n
          have hTa : T a = 0 := by rw [hT a ra]; exact den_0 hno
          rcases Nat.lt_or_ge n 24 with q | q
          · refine am_mono (m_K_add_n q hs ra c1 (by omega) e) (fun r h z => ⟨z.1, n + 1, 0, _, _, ⟨⟨by omega, inc_ins hs hno, fun i hi => ⟨ins_in (P := inR) hl (fun i hi => (hg i hi).1) ra i hi, ins_in (P := fun x => 1 ≤ x) hl (fun i hi => (hg i hi).2) c1 i hi⟩, ?_⟩, Or.inl ⟨rfl, ?_, fun u hu => ?_⟩⟩, z.2⟩) (fun _ z => z)
            · rw [sumZ_insA hl]; omega
            · exact fun z => z.elim hb (fun z => z.2 ra)
            · show T u + _ = _
              rw [den_ins hl, hT u hu]
          · refine am_mono (m_K_add_f (by omega) hs ra c1 (by omega) e) (fun r h z => ⟨z.1, n, 1, f, g, ⟨⟨hn, hs, hg, by omega⟩, Or.inr ⟨rfl, Or.inr ?_⟩⟩, z.2⟩) (fun _ z => z)
            rw [cnt_new ra hTa c1, cnt_ext hT, cnt_den hs (fun i hi => (hg i hi).1) (fun i hi => (hg i hi).2)]; omega
      · refine am_mono (m_K_add_b ha (by omega) c1 (by omega)) (fun r h z => ⟨z.1, n, 1, f, g, ⟨⟨hn, hs, hg, by omega⟩, Or.inr ⟨rfl, Or.inl (Or.inr ⟨c1, ra⟩)⟩⟩, z.2⟩) (fun _ z => z)
  · exact am_mono m_K_add_r (fun r h z => ⟨z.1, n, 1, f, g, ⟨⟨hn, hs, hg, by omega⟩, Or.inr ⟨rfl, hb.elim (fun z => Or.inl (Or.inl z)) (fun z => Or.inr (by omega))⟩⟩, z.2⟩) (fun _ z => z)
/-- a law behind the cells, out of a table -/
def lwT (n : Nat) (at_ wt : Nat → Int) (W : Int) (T : Int → Int) : Prop := lwN n at_ wt W ∧ (∀ u, inR u → den at_ wt n u = Int.tdiv (T u) (gT T)) ∧ W = allT T
theorem m_K_madeR (R : mkR B T by_ n rf f g) (hB : B ≤ 4611686018427387904) : AMet G M_K_made [vr 3 0] (Hp b s t (sgK (n : Int) rf f g) df jo tr di mo dy) (fun r h => (r = some vn ∧ ¬ acc T by_ ∧ h = Hp b s t (sgK (n : Int) rf f g) df jo tr di mo dy) ∨ (r = some (vr 9 (dy.length + 2)) ∧ acc T by_ ∧ ∃ (m : Nat) (at_ wt : Nat → Int) (W : Int), lwT m at_ wt W T ∧ h = Hp b s t (sgK (n : Int) rf f g) df jo tr di mo (dy ++ [some (ar 0 m at_), some (ar 0 m wt), some (ob 9 [vr 9 dy.length, vr 9 (dy.length + 1), vi W])]))) (fun _ => False) := by
  obtain ⟨⟨hn, hs, hg, hS⟩, hR⟩ := R
  have hnn : ∀ i, i < n → 0 ≤ g i := fun i hi => by have := (hg i hi).2; omega
  have hS0 := sumZ_nn hnn n (Nat.le_refl n)
  have hr : ∀ i, i < n → inR (f i) := fun i hi => (hg i hi).1
  have h1 : ∀ i, i < n → 1 ≤ g i := fun i hi => (hg i hi).2
  have h64 : ∀ i, i < n → 1 ≤ g i ∧ I64 (g i) := fun i hi => ⟨h1 i hi, by have := h1 i hi; have := sumZ_le hnn (Nat.le_refl n) hi; omega⟩
  rcases hR with ⟨rfl, hb, hT⟩ | ⟨rfl, hb⟩
  · have hcnt : cnt T = (n : Int) := by rw [cnt_ext hT, cnt_den hs hr h1]
    rcases Nat.eq_zero_or_pos n with z0 | z0
    · subst z0
      exact am_mono m_K_made_0 (fun r h z => Or.inl ⟨z.1, fun A => by have := A.2.1; omega, z.2⟩) (fun _ z => z)
    · have hD := (dv_in (n := n) (g := g) (fun i hi => by have := h64 i hi; constructor <;> omega) n (Nat.le_refl n)).2.2 z0
      have hal : allT T = Int.tdiv (sumZ g n) (dv g n) := by rw [allT_ext hT, allT_den hs hr h1 z0 hD]
      have hgt : gT T = dv g n := by rw [dv_gT hs hr h1]; unfold gT; rw [gtn_ext hT 2001 (Nat.le_refl _)]
      rcases Int.lt_or_le 1048576 (Int.tdiv (sumZ g n) (dv g n)) with q | q
      · exact am_mono (m_K_made_b ⟨z0, hn⟩ h64 (by omega) q) (fun r h z => Or.inl ⟨z.1, fun A => by have := A.2.2.2; omega, z.2⟩) (fun _ z => z)
      · refine am_mono (m_K_made_k ⟨z0, hn⟩ h64 (by omega) q) (fun r h z => Or.inr ⟨z.1, ⟨hb, by omega, by omega, by omega⟩, n, _, _, _, ⟨?_, fun u hu => ?_, hal.symm⟩, z.2⟩) (fun _ z => z)
        · have hdd : ∀ i, i < n → 0 ≤ g i ∧ dv g n ∣ g i := fun i hi => ⟨hnn i hi, dv_dvd h1 i hi⟩
          have hsum : Int.tdiv (sumZ g n) (dv g n) = sumZ (cp (fun j => Int.tdiv (g j) (dv g n)) n) n := by
            rw [← tdiv_sum (by omega) hdd]; exact sumZ_ext (fun i hi => by simp [cp, hi])
          have hpos : ∀ i, i < n → 1 ≤ cp (fun j => Int.tdiv (g j) (dv g n)) n i := fun i hi => by
            simp only [cp, if_pos hi]
            rw [Int.tdiv_eq_ediv_of_nonneg (hnn i hi)]
            have := h1 i hi
            have := Int.le_of_dvd (by omega) (hdd i hi).2
            have := Int.ediv_le_ediv (show 0 < dv g n by omega) this
            rw [Int.ediv_self (by omega)] at this
            exact this
          refine ⟨⟨z0, hn⟩, fun i j a b => ?_, fun i hi => ⟨?_, hpos i hi, ?_⟩, ?_, q, hsum⟩
          · simp only [cp, if_pos b, if_pos (show i < n by omega)]; exact hs i j a b
          · simp only [cp, if_pos hi]; exact hr i hi
          · rw [hsum]; exact sumZ_le (n := n) (fun i hi => by have := hpos i hi; omega) (Nat.le_refl n) hi
          · rw [hsum]; have := sumZ_le (n := n) (g := cp (fun j => Int.tdiv (g j) (dv g n)) n) (fun i hi => by have := hpos i hi; omega) (Nat.le_refl n) z0; have := hpos 0 z0; omega
        · rw [hgt, hT u hu, ← den_div (by omega) (fun i hi => ⟨hnn i hi, dv_dvd h1 i hi⟩)]
          exact den_ext (fun i hi => by simp [cp, hi])
  · refine am_mono m_K_made_r (fun r h z => Or.inl ⟨z.1, fun A => ?_, z.2⟩) (fun _ z => z)
    rcases hb with hb | hb
    · exact A.1 hb
    · have := A.2.2.1; omega
end
theorem dyg_app {dy xs : SG} {k : Nat} {c : AC} (h : dyg dy k = some c) : dyg (dy ++ xs) k = some c := by
  unfold dyg at h ⊢
  simp only [hgs] at h ⊢
  have hk : k < dy.length := by
    rcases Nat.lt_or_ge k dy.length with z | z
    · exact z
    · rw [List.getElem?_eq_none z] at h; simp at h
  rw [List.getElem?_append_left hk]; exact h
theorem lwOK.app {dy xs : SG} {g : Nat → Option (Nat × Nat)} (h : lwOK dy g) : lwOK (dy ++ xs) g := fun i x hx => by
  obtain ⟨h1, fs, h2⟩ := h i x hx
  exact ⟨h1, fs, dyg_app h2⟩
theorem dyg_3 {dy : SG} {x y z : AC} : dyg (dy ++ [some x, some y, some z]) (dy.length + 2) = some z ∧ dyg (dy ++ [some x, some y, some z]) (dy.length + 1) = some y ∧ dyg (dy ++ [some x, some y, some z]) dy.length = some x := by
  unfold dyg; simp only [hgs]; refine ⟨?_, ?_, ?_⟩ <;> simp
theorem isD.app {dy xs : SG} {k k1 k2 n : Nat} {at_ wt : Nat → Int} {W : Int} (h : isD dy k k1 k2 n at_ wt W) : isD (dy ++ xs) k k1 k2 n at_ wt W := ⟨dyg_app h.1, dyg_app h.2.1, dyg_app h.2.2⟩
def odP (od dn : Nat) : Nat := if dn < 30 then od else (od + 1) % 30
def dnP (dn : Nat) : Nat := if dn < 30 then dn + 1 else 30
def plP (od dn : Nat) : Nat := (odP od dn + (dnP dn - 1)) % 30
section
variable {G : GT} {h : HT} {b s t mk df jo tr di mo dy : SG} {a c d B bd tk : Int} {n k j : Nat} {f g : Nat → Int} {rf : Int} {T : Int → Int} {by_ : Prop} {laws ahead made : Nat → Option (Nat × Nat)} {slot : Nat → Int} {od dn un : Nat}
abbrev putS (laws : Nat → Option (Nat × Nat)) (slot : Nat → Int) (ahead made : Nat → Option (Nat × Nat)) (od dn j k : Nat) : SG := sgS (va_up laws j (some (9, k))) (va_up slot (plP od dn) (j : Int)) (va_up ahead (plP od dn) (laws j)) (va_up made (plP od dn) (some (9, k))) (odP od dn : Int) (dnP dn : Int) ((0 : Nat) : Int)
theorem m_S_putR {fs : List AV} (ho : od < 30) (hj : j < 16) (hd : dn ≤ 30) (hk : dyg dy k = some (ob 9 fs)) (hl : lwOK dy laws) : ADet G M_S_put [vr 1 0, vi (j : Int), vr 9 k] (Hp b (sgS laws slot ahead made (od : Int) (dn : Int) (un : Int)) t mk df jo tr di mo dy) none (Hp b (putS laws slot ahead made od dn j k) t mk df jo tr di mo dy) := by
  rcases Nat.lt_or_ge dn 30 with z | z
  · have := m_S_put_a (G := G) (b := b) (t := t) (mk := mk) (df := df) (jo := jo) (tr := tr) (di := di) (mo := mo) (un := un) (slot := slot) (ahead := ahead) (made := made) ho hj z hk hl
    unfold putS plP odP dnP
    rw [if_pos z, if_pos z]
    exact this
  · have e : dn = 30 := by omega
    subst e
    exact m_S_put_b (G := G) (b := b) (t := t) (mk := mk) (df := df) (jo := jo) (tr := tr) (di := di) (mo := mo) (un := un) (slot := slot) (ahead := ahead) (made := made) ho hj hk hl

/-- what settle does -/
def stl (laws : Nat → Option (Nat × Nat)) (slot : Nat → Int) (ahead made : Nat → Option (Nat × Nat)) (od dn un : Nat) (bd tk : Int) (t mk df jo tr di mo dy : SG) (a : Int) (T : Int → Int) (by_ : Prop) (r : Option AV) (h : HT) : Prop := (r = some (vi 0) ∧ ¬ ((0 ≤ a ∧ a < 16) ∧ acc T by_) ∧ h = Hp (sgB bd tk) (sgS laws slot ahead made (od : Int) (dn : Int) (un : Int)) t mk df jo tr di mo dy) ∨ (r = some (vi 1) ∧ (0 ≤ a ∧ a < 16) ∧ acc T by_ ∧ ∃ (m : Nat) (at_ wt : Nat → Int) (W : Int), lwT m at_ wt W T ∧ h = Hp (sgB bd tk) (putS laws slot ahead made od dn a.toNat (dy.length + 2)) t mk df jo tr di mo (dy ++ [some (ar 0 m at_), some (ar 0 m wt), some (ob 9 [vr 9 dy.length, vr 9 (dy.length + 1), vi W])]))
theorem m_B_settle (ha : I32 a) (R : mkR B T by_ n rf f g) (hB : B ≤ 4611686018427387904) (ho : od < 30) (hd : dn ≤ 30) (hl : lwOK dy laws) : AMet G M_B_settle [vr 0 0, vi a] (Hp (sgB bd tk) (sgS laws slot ahead made (od : Int) (dn : Int) (un : Int)) t (sgK (n : Int) rf f g) df jo tr di mo dy) (stl laws slot ahead made od dn un bd tk t (sgK (n : Int) rf f g) df jo tr di mo dy a T by_) (fun _ => False) := by
  refine am_entry (by decide +kernel) (Nat.le_of_ble_eq_true rfl) ?_
  refine aw_blk (pc' := 5) (ls' := [some (vr 0 0), some (vi a), none]) (st' := [vi a, vr 1 0]) [.inl (.aload_n 0), .inr (10, 0, 0), .inl (.iload_n 1)] 0 _ _ (by decide +kernel) rfl ?_
  refine aw_dV (cs' := 0) (sl' := 0) (pc' := 8) (st' := [vi (if 0 ≤ a ∧ a < 16 then 1 else 0)]) (idx := 261) (as := [vi a]) (st := []) (m_S_hasSlot ha) (by decide +kernel) (show vOK "ChanceBench" 261 M_S_hasSlot 1 = true by decide +kernel) rfl rfl rfl (Nat.le_of_ble_eq_true rfl) (by decide) (by decide) (by decide) rfl rfl rfl rfl ?_
  by_cases hs : 0 ≤ a ∧ a < 16
  · rw [if_pos hs]
    refine aw_if_ne (o := 5) (tgt := 13) (by decide +kernel) (by decide) (by omega) (fun _ => ?_) (fun c => absurd c (by omega))
    refine aw_blk (pc' := 17) (ls' := [some (vr 0 0), some (vi a), none]) (st' := [vr 3 0]) [.inl (.aload_n 0), .inr (26, 0, 2)] 13 _ _ (by decide +kernel) rfl ?_
    refine aw_rV (cs' := 3) (sl' := 51) (pc' := 20) (idx := 264) (as := []) (st := []) (m_K_madeR R hB) (by decide +kernel) (show vOK "ChanceBench" 264 M_K_made 0 = true by decide +kernel) rfl rfl rfl (Nat.le_of_ble_eq_true rfl) (by decide) (by decide) (by decide) rfl rfl rfl (fun r17 h17 z17 => ?_)
    rcases z17 with ⟨rfl, na, rfl⟩ | ⟨rfl, ac, m, at_, wt, W, hW, rfl⟩
    · refine aw_blk (pc' := 22) (ls' := [some (vr 0 0), some (vi a), some (vn)]) (st' := [vn]) [.inl (.astore_n 2), .inl (.aload_n 2)] 20 _ _ (by decide +kernel) rfl ?_
      refine aw_ifnonnull (o := 5) (tgt := 27) (by decide +kernel) (by decide) (fun _ z => nomatch z) (fun _ => ?_)
      refine aw_blk (pc' := 26) (ls' := [some (vr 0 0), some (vi a), some (vn)]) (st' := [vi 0]) [.inl (.iconst 0)] 25 _ _ (by decide +kernel) rfl ?_
      exact aw_zret (by decide +kernel) rfl (by decide) (by decide) (by omega) (Or.inl ⟨rfl, fun z => na z.2, rfl⟩)
    · refine aw_blk (pc' := 22) (ls' := [some (vr 0 0), some (vi a), some (vr 9 (dy.length + 2))]) (st' := [vr 9 (dy.length + 2)]) [.inl (.astore_n 2), .inl (.aload_n 2)] 20 _ _ (by decide +kernel) rfl ?_
      refine aw_ifnonnull (o := 5) (tgt := 27) (by decide +kernel) (by decide) (fun _ _ => ?_) (fun z => nomatch z)
      obtain ⟨j, rfl⟩ : ∃ j : Nat, a = (j : Int) := ⟨a.toNat, by omega⟩
      refine aw_blk (pc' := 33) (ls' := [some (vr 0 0), some (vi (j : Int)), some (vr 9 (dy.length + 2))]) (st' := [vr 9 (dy.length + 2), vi (j : Int), vr 1 0]) [.inl (.aload_n 0), .inr (10, 0, 0), .inl (.iload_n 1), .inl (.aload_n 2)] 27 _ _ (by decide +kernel) rfl ?_
      refine aw_dV (cs' := 3) (sl' := 51) (pc' := 36) (st' := []) (idx := 268) (as := [vi (j : Int), vr 9 (dy.length + 2)]) (st := []) (m_S_putR ho (by omega) hd dyg_3.1 hl.app) (by decide +kernel) (show vOK "ChanceBench" 268 M_S_put 2 = true by decide +kernel) rfl rfl rfl (Nat.le_of_ble_eq_true rfl) (by decide) (by decide) (by decide) rfl rfl rfl rfl ?_
      refine aw_blk (pc' := 37) (ls' := [some (vr 0 0), some (vi (j : Int)), some (vr 9 (dy.length + 2))]) (st' := [vi 1]) [.inl (.iconst 1)] 36 _ _ (by decide +kernel) rfl ?_
      exact aw_zret (by decide +kernel) rfl (by decide) (by decide) (by omega) (Or.inr ⟨rfl, hs, ac, m, at_, wt, W, hW, rfl⟩)
  · rw [if_neg hs]
    refine aw_if_ne (o := 5) (tgt := 13) (by decide +kernel) (by decide) (by omega) (fun c => absurd (by omega) c) (fun _ => ?_)
    refine aw_blk (pc' := 12) (ls' := [some (vr 0 0), some (vi a), none]) (st' := [vi 0]) [.inl (.iconst 0)] 11 _ _ (by decide +kernel) rfl ?_
    exact aw_zret (by decide +kernel) rfl (by decide) (by decide) (by omega) (Or.inl ⟨rfl, fun z => hs z.1, rfl⟩)

end
end
section
/-- something beyond the values comes in -/
def byd (V C : Nat → Int) (n : Nat) : Prop := ∃ k, k < n ∧ 1 ≤ C k ∧ ¬ inR (V k)
theorem byd_s {V C : Nat → Int} {n : Nat} : byd V C (n + 1) ↔ byd V C n ∨ (1 ≤ C n ∧ ¬ inR (V n)) := by
  constructor
  · rintro ⟨k, h1, h2⟩
    rcases Nat.lt_or_ge k n with z | z
    · exact Or.inl ⟨k, z, h2⟩
    · have : k = n := by omega
      subst this; exact Or.inr h2
  · rintro (⟨k, h1, h2⟩ | h)
    · exact ⟨k, by omega, h2⟩
    · exact ⟨n, by omega, h⟩
theorem byd_0 {V C : Nat → Int} : ¬ byd V C 0 := fun ⟨k, h, _⟩ => by omega
/-- one add more -/
theorem mkR.s {B B' : Int} {V C : Nat → Int} {T0 : Int → Int} {b0 : Prop} {i n : Nat} {rf : Int} {f g : Nat → Int} (R : mkR (B + C i) (fun u => (T0 u + den V C i u) + (if V i = u then C i else 0)) ((b0 ∨ byd V C i) ∨ (1 ≤ C i ∧ ¬ inR (V i))) n rf f g) (hB : B + C i ≤ B') : mkR B' (fun u => T0 u + den V C (i + 1) u) (b0 ∨ byd V C (i + 1)) n rf f g :=
  R.eq hB (fun u _ => by rw [den_s]; omega) (by rw [byd_s, or_assoc])
theorem mkR.z {B : Int} {V C : Nat → Int} {T0 : Int → Int} {b0 : Prop} {n : Nat} {rf : Int} {f g : Nat → Int} (R : mkR B T0 b0 n rf f g) : mkR B (fun u => T0 u + den V C 0 u) (b0 ∨ byd V C 0) n rf f g :=
  R.eq (Int.le_refl _) (fun u _ => by rw [show den V C 0 u = 0 from rfl, Int.add_zero]) ⟨Or.inl, fun z => z.elim id (fun z => absurd z byd_0)⟩
theorem mkR.e {B : Int} {V C : Nat → Int} {n N : Nat} {rf : Int} {f g : Nat → Int} (R : mkR B (fun u => 0 + den V C N u) (False ∨ byd V C N) n rf f g) : mkR B (den V C N) (byd V C N) n rf f g :=
  R.eq (Int.le_refl _) (fun u _ => by rw [Int.zero_add]) ⟨fun z => z.elim False.elim id, Or.inr⟩
theorem am_rel {G : GT} {M : MI} {h : HT} {Qr : Option AV → HT → Prop} {as : List AV} (hy : plainName M.1.cls = true) (hn : (entL as).length ≤ M.2.2.1) (k : ∀ Qr9 Qt9, (∀ x g, Qr x g → Qr9 x g) → AW G M Qr9 Qt9 0 0 0 (entN as M.2.2.1) [] h) : AMet G M as h Qr (fun _ => False) :=
  am_entry hy hn (k _ _ (fun _ _ z => z))
section
variable {G : GT} {h : HT} {b s t mk df jo tr di mo dy : SG} {a c d e B bd tk : Int} {n m k k1 k2 q q1 q2 j nn len : Nat} {f g ff gg ft at_ wt at2 wt2 : Nat → Int} {rf rr W W2 : Int} {T : Int → Int} {by_ : Prop} {laws ahead made : Nat → Option (Nat × Nat)} {slot : Nat → Int} {od dn un : Nat}
theorem m_B_wheel (ha : I32 a) (hI : I32 c ∧ I32 d) (ho : od < 30) (hd : dn ≤ 30) (hl : lwOK dy laws) : AMet G M_B_wheel [vr 0 0, vi a, vi d, vi c] (Hp (sgB bd tk) (sgS laws slot ahead made (od : Int) (dn : Int) (un : Int)) t (sgK (nn : Int) rr ff gg) df jo tr di mo dy) (fun r h => ∃ (nn : Nat) (rr : Int) (ff gg : Nat → Int), stl laws slot ahead made od dn un bd tk t (sgK (nn : Int) rr ff gg) df jo tr di mo dy a (den (fun k => c + (k : Int)) (fun _ => 1) d.toNat) (¬ (1 ≤ d ∧ d ≤ 24) ∨ byd (fun k => c + (k : Int)) (fun _ => 1) d.toNat) r h) (fun _ => False) := by
  refine am_rel (by decide +kernel) (Nat.le_of_ble_eq_true rfl) (fun Qr Qt hq => ?_)
  refine aw_blk (pc' := 2) (ls' := [some (vr 0 0), some (vi a), some (vi d), some (vi c), none]) (st' := [vi 1, vi d]) [.inl (.iload_n 2), .inl (.iconst 1)] 0 _ _ (by decide +kernel) rfl ?_
  have hi0 := hI
  refine aw_icmp_lt (o := 9) (tgt := 11) (by decide +kernel) (by decide) (by omega) (by omega) (fun c2 => ?_) (fun c2 => ?_)
  · refine aw_blk (pc' := 12) (ls' := [some (vr 0 0), some (vi a), some (vi d), some (vi c), none]) (st' := [vi 0]) [.inl (.iconst 0)] 11 _ _ (by decide +kernel) rfl ?_
    exact aw_zret (by decide +kernel) rfl (by decide) (by decide) (by omega) (hq _ _ ⟨nn, rr, ff, gg, Or.inl ⟨rfl, fun z => z.2.1 (Or.inl (by omega)), rfl⟩⟩)
  · refine aw_blk (pc' := 8) (ls' := [some (vr 0 0), some (vi a), some (vi d), some (vi c), none]) (st' := [vi 24, vi d]) [.inl (.iload_n 2), .inl (.bipush 24)] 5 _ _ (by decide +kernel) rfl ?_
    refine aw_icmp_le (o := 5) (tgt := 13) (by decide +kernel) (by decide) (by omega) (by omega) (fun c8 => ?_) (fun c8 => ?_)
    · obtain ⟨N, rfl⟩ : ∃ N : Nat, d = (N : Int) := ⟨d.toNat, by omega⟩
      refine aw_blk (pc' := 17) (ls' := [some (vr 0 0), some (vi a), some (vi (N : Int)), some (vi c), none]) (st' := [vr 3 0]) [.inl (.aload_n 0), .inr (26, 0, 2)] 13 _ _ (by decide +kernel) rfl ?_
      refine aw_dV (cs' := 0) (sl' := 0) (pc' := 20) (st' := []) (idx := 81) (as := []) (st := []) (m_K_clear) (by decide +kernel) (show vOK "ChanceBench" 81 M_K_clear 0 = true by decide +kernel) rfl rfl rfl (Nat.le_of_ble_eq_true rfl) (by decide) (by decide) (by decide) rfl rfl rfl rfl ?_
      refine aw_blk (pc' := 23) (ls' := [some (vr 0 0), some (vi a), some (vi (N : Int)), some (vi c), some (vi 0)]) (st' := []) [.inl (.iconst 0), .inl (.istore 4)] 20 _ _ (by decide +kernel) rfl ?_
      refine up_to (W := fun i : Nat => ∀ (nn : Nat) (rr : Int) (ff gg : Nat → Int), mkR ((i : Int) * 1) (fun u => 0 + den (fun k => c + (k : Int)) (fun _ => 1) i u) (False ∨ byd (fun k => c + (k : Int)) (fun _ => 1) i) nn rr ff gg → AW G M_B_wheel Qr Qt 0 0 23 [some (vr 0 0), some (vi a), some (vi (N : Int)), some (vi c), some (vi (i : Int))] [] (Hp [some (ob 0 [vr 1 0, vr 2 0, vr 3 0, vr 4 0, vr 5 0, vr 6 0, vr 7 0, vi bd, vi tk])] [some (ob 1 [vr 1 1, vr 1 2, vr 1 3, vr 1 4, vi (od : Int), vi (dn : Int), vi (un : Int)]), some (rs 16 laws), some (ar 0 30 slot), some (rs 30 ahead), some (rs 30 made)] t [some (ob 3 [vr 3 1, vr 3 2, vi (nn : Int), vi rr]), some (ar 0 24 ff), some (ar 1 24 gg)] df jo tr di mo dy)) N ?_ (fun i hi ih => ?_) 0 (by omega) _ _ _ _ mkR_0.z
      · intro nn rr ff gg R
        refine aw_blk (pc' := 26) (ls' := [some (vr 0 0), some (vi a), some (vi (N : Int)), some (vi c), some (vi (N : Int))]) (st' := [vi (N : Int), vi (N : Int)]) [.inl (.iload 4), .inl (.iload_n 2)] 23 _ _ (by decide +kernel) rfl ?_
        refine aw_icmp_ge (o := 23) (tgt := 49) (by decide +kernel) (by decide) (by omega) (by omega) (fun _ => ?_) (fun c => absurd (by omega) c)
        have R9 := R.e.eq (Int.le_refl _) (fun u _ => rfl) (show byd (fun k => c + (k : Int)) (fun _ => 1) N ↔ (¬ (1 ≤ (N : Int) ∧ (N : Int) ≤ 24) ∨ byd (fun k => c + (k : Int)) (fun _ => 1) N) from ⟨Or.inr, fun z => z.elim (fun z => absurd (by omega) z) id⟩)
        refine aw_blk (pc' := 51) (ls' := [some (vr 0 0), some (vi a), some (vi (N : Int)), some (vi c), some (vi (N : Int))]) (st' := [vi a, vr 0 0]) [.inl (.aload_n 0), .inl (.iload_n 1)] 49 _ _ (by decide +kernel) rfl ?_
        refine aw_rV (cs' := 3) (sl' := 51) (pc' := 54) (idx := 95) (as := [vi a]) (st := []) (m_B_settle ha (R9) (by omega) ho hd hl) (by decide +kernel) (show vOK "ChanceBench" 95 M_B_settle 1 = true by decide +kernel) rfl rfl rfl (Nat.le_of_ble_eq_true rfl) (by decide) (by decide) (by decide) rfl rfl rfl (fun r51 h51 z51 => ?_)
        rcases z51 with ⟨rfl, h1, rfl⟩ | ⟨rfl, h1, h2, m9, a9, w9, W9, h3, rfl⟩
        · exact aw_zret (by decide +kernel) rfl (by decide) (by decide) (by omega) (hq _ _ ⟨nn, rr, ff, gg, Or.inl ⟨rfl, h1, rfl⟩⟩)
        · exact aw_zret (by decide +kernel) rfl (by decide) (by decide) (by omega) (hq _ _ ⟨nn, rr, ff, gg, Or.inr ⟨rfl, h1, h2, m9, a9, w9, W9, h3, rfl⟩⟩)
      · intro nn rr ff gg R
        refine aw_blk (pc' := 26) (ls' := [some (vr 0 0), some (vi a), some (vi (N : Int)), some (vi c), some (vi (i : Int))]) (st' := [vi (N : Int), vi (i : Int)]) [.inl (.iload 4), .inl (.iload_n 2)] 23 _ _ (by decide +kernel) rfl ?_
        refine aw_icmp_ge (o := 23) (tgt := 49) (by decide +kernel) (by decide) (by omega) (by omega) (fun c => absurd c (by omega)) (fun _ => ?_)
        refine aw_blk (pc' := 34) (ls' := [some (vr 0 0), some (vi a), some (vi (N : Int)), some (vi c), some (vi (i : Int))]) (st' := [vi c, vr 3 0]) [.inl (.aload_n 0), .inr (26, 0, 2), .inl (.iload_n 3)] 29 _ _ (by decide +kernel) rfl ?_
        refine aw_i2l (by decide +kernel) (by omega) ?_
        refine aw_blk (pc' := 37) (ls' := [some (vr 0 0), some (vi a), some (vi (N : Int)), some (vi c), some (vi (i : Int))]) (st' := [vi (i : Int), vl c, vr 3 0]) [.inl (.iload 4)] 35 _ _ (by decide +kernel) rfl ?_
        refine aw_i2l (by decide +kernel) (by omega) ?_
        refine aw_blk (pc' := 40) (ls' := [some (vr 0 0), some (vi a), some (vi (N : Int)), some (vi c), some (vi (i : Int))]) (st' := [vl 1, vl (c + (i : Int)), vr 3 0]) [.inl (.ladd), .inl (.lconst 1)] 38 _ _ (by decide +kernel) rfl ?_
        refine aw_rV (cs' := 0) (sl' := 0) (pc' := 43) (idx := 88) (as := [vl (c + (i : Int)), vl 1]) (st := []) (m_K_addR R (by omega) (by omega) (by omega)) (by decide +kernel) (show vOK "ChanceBench" 88 M_K_add 2 = true by decide +kernel) rfl rfl rfl (Nat.le_of_ble_eq_true rfl) (by decide) (by decide) (by decide) rfl rfl rfl (fun r40 h40 z40 => ?_)
        obtain ⟨rfl, nn2, rr2, ff2, gg2, R2, rfl⟩ := z40
        refine aw_blk (pc' := 46) (ls' := [some (vr 0 0), some (vi a), some (vi (N : Int)), some (vi c), some (vi ((i : Int) + 1))]) (st' := []) [.inl (.iinc 4 1)] 43 _ _ (by decide +kernel) rfl ?_
        refine aw_goto (o := -23) (tgt := 23) (by decide +kernel) (by decide) ?_
        exact ih _ _ _ _ (R2.s (by omega))
    · refine aw_blk (pc' := 12) (ls' := [some (vr 0 0), some (vi a), some (vi d), some (vi c), none]) (st' := [vi 0]) [.inl (.iconst 0)] 11 _ _ (by decide +kernel) rfl ?_
      exact aw_zret (by decide +kernel) rfl (by decide) (by decide) (by omega) (hq _ _ ⟨nn, rr, ff, gg, Or.inl ⟨rfl, fun z => z.2.1 (Or.inl (by omega)), rfl⟩⟩)

theorem m_B_coin (ha : I32 a) (hI : I32 c ∧ I32 d) (ho : od < 30) (hd : dn ≤ 30) (hl : lwOK dy laws) : AMet G M_B_coin [vr 0 0, vi a, vi c, vi d] (Hp (sgB bd tk) (sgS laws slot ahead made (od : Int) (dn : Int) (un : Int)) t (sgK (nn : Int) rr ff gg) df jo tr di mo dy) (fun r h => ∃ (nn : Nat) (rr : Int) (ff gg : Nat → Int), stl laws slot ahead made od dn un bd tk t (sgK (nn : Int) rr ff gg) df jo tr di mo dy a (den (fun k => (k : Int)) (fun k => if k = 0 then d - c else c) 2) (¬ ((1 ≤ d ∧ d ≤ 1048576) ∧ (0 ≤ c ∧ c ≤ d)) ∨ byd (fun k => (k : Int)) (fun k => if k = 0 then d - c else c) 2) r h) (fun _ => False) := by
  refine am_rel (by decide +kernel) (Nat.le_of_ble_eq_true rfl) (fun Qr Qt hq => ?_)
  refine aw_blk (pc' := 2) (ls' := [some (vr 0 0), some (vi a), some (vi c), some (vi d)]) (st' := [vi d, vi c]) [.inl (.iload_n 2), .inl (.iload_n 3)] 0 _ _ (by decide +kernel) rfl ?_
  refine aw_ldc (a := 1048576) (ix := 109) (v := 1048576) (by decide +kernel) (by decide +kernel) (by decide) ?_
  refine aw_dS (cs' := 0) (sl' := 0) (pc' := 7) (st' := [vi (if (1 ≤ d ∧ d ≤ 1048576) ∧ (0 ≤ c ∧ c ≤ d) then 1 else 0)]) (idx := 110) (as := [vi c, vi d, vi 1048576]) (st := []) (m_B_isShare hI.1 hI.2 (by omega)) (by decide +kernel) (show sOK "ChanceBench" 110 M_B_isShare 3 = true by decide +kernel) rfl (Nat.le_of_ble_eq_true rfl) (by decide) (by decide) (by decide) rfl rfl rfl rfl ?_
  by_cases hv : (1 ≤ d ∧ d ≤ 1048576) ∧ (0 ≤ c ∧ c ≤ d)
  · rw [if_pos hv]
    refine aw_if_ne (o := 5) (tgt := 12) (by decide +kernel) (by decide) (by omega) (fun _ => ?_) (fun c => absurd c (by omega))
    refine aw_blk (pc' := 16) (ls' := [some (vr 0 0), some (vi a), some (vi c), some (vi d)]) (st' := [vr 3 0]) [.inl (.aload_n 0), .inr (26, 0, 2)] 12 _ _ (by decide +kernel) rfl ?_
    refine aw_dV (cs' := 0) (sl' := 0) (pc' := 19) (st' := []) (idx := 81) (as := []) (st := []) (m_K_clear) (by decide +kernel) (show vOK "ChanceBench" 81 M_K_clear 0 = true by decide +kernel) rfl rfl rfl (Nat.le_of_ble_eq_true rfl) (by decide) (by decide) (by decide) rfl rfl rfl rfl ?_
    refine aw_blk (pc' := 27) (ls' := [some (vr 0 0), some (vi a), some (vi c), some (vi d)]) (st' := [vi (d - c), vl 0, vr 3 0]) [.inl (.aload_n 0), .inr (26, 0, 2), .inl (.lconst 0), .inl (.iload_n 3), .inl (.iload_n 2), .inl (.isub)] 19 _ _ (by decide +kernel) rfl ?_
    refine aw_i2l (by decide +kernel) (by omega) ?_
    have R := (mkR_0 (f := ff) (g := gg)).z (V := fun k => (k : Int)) (C := fun k => if k = 0 then d - c else c)
    refine aw_rV (cs' := 0) (sl' := 0) (pc' := 31) (idx := 88) (as := [vl 0, vl (d - c)]) (st := []) (m_K_addR (n := 0) R (by omega) (by omega) (by omega)) (by decide +kernel) (show vOK "ChanceBench" 88 M_K_add 2 = true by decide +kernel) rfl rfl rfl (Nat.le_of_ble_eq_true rfl) (by decide) (by decide) (by decide) rfl rfl rfl (fun r28 h28 z28 => ?_)
    obtain ⟨rfl, nn2, rr2, ff2, gg2, R2, rfl⟩ := z28
    have R3 := (show mkR (0 + (fun k => if k = 0 then d - c else c) 0) _ _ nn2 rr2 ff2 gg2 from R2).s (i := 0) (V := fun k => (k : Int)) (C := fun k => if k = 0 then d - c else c) (B' := 1048576) (by show 0 + (d - c) ≤ _; omega)
    refine aw_blk (pc' := 37) (ls' := [some (vr 0 0), some (vi a), some (vi c), some (vi d)]) (st' := [vi c, vl 1, vr 3 0]) [.inl (.aload_n 0), .inr (26, 0, 2), .inl (.lconst 1), .inl (.iload_n 2)] 31 _ _ (by decide +kernel) rfl ?_
    refine aw_i2l (by decide +kernel) (by omega) ?_
    refine aw_rV (cs' := 0) (sl' := 0) (pc' := 41) (idx := 88) (as := [vl 1, vl c]) (st := []) (m_K_addR R3 (by omega) (by omega) (by omega)) (by decide +kernel) (show vOK "ChanceBench" 88 M_K_add 2 = true by decide +kernel) rfl rfl rfl (Nat.le_of_ble_eq_true rfl) (by decide) (by decide) (by decide) rfl rfl rfl (fun r38 h38 z38 => ?_)
    obtain ⟨rfl, nn3, rr3, ff3, gg3, R4, rfl⟩ := z38
    have R := (show mkR (1048576 + (fun k => if k = 0 then d - c else c) 1) _ _ nn3 rr3 ff3 gg3 from R4).s (i := 1) (V := fun k => (k : Int)) (C := fun k => if k = 0 then d - c else c) (B' := 2097152) (by show 1048576 + c ≤ _; omega)
    have R9 := R.e.eq (Int.le_refl _) (fun u _ => rfl) (show byd (fun k => (k : Int)) (fun k => if k = 0 then d - c else c) 2 ↔ (¬ ((1 ≤ d ∧ d ≤ 1048576) ∧ (0 ≤ c ∧ c ≤ d)) ∨ byd (fun k => (k : Int)) (fun k => if k = 0 then d - c else c) 2) from ⟨Or.inr, fun z => z.elim (fun z => absurd hv z) id⟩)
    clear R R2 R3 R4
    refine aw_blk (pc' := 43) (ls' := [some (vr 0 0), some (vi a), some (vi c), some (vi d)]) (st' := [vi a, vr 0 0]) [.inl (.aload_n 0), .inl (.iload_n 1)] 41 _ _ (by decide +kernel) rfl ?_
    refine aw_rV (cs' := 3) (sl' := 51) (pc' := 46) (idx := 95) (as := [vi a]) (st := []) (m_B_settle ha (R9) (by omega) ho hd hl) (by decide +kernel) (show vOK "ChanceBench" 95 M_B_settle 1 = true by decide +kernel) rfl rfl rfl (Nat.le_of_ble_eq_true rfl) (by decide) (by decide) (by decide) rfl rfl rfl (fun r43 h43 z43 => ?_)
    rcases z43 with ⟨rfl, h1, rfl⟩ | ⟨rfl, h1, h2, m9, a9, w9, W9, h3, rfl⟩
    · exact aw_zret (by decide +kernel) rfl (by decide) (by decide) (by omega) (hq _ _ ⟨nn3, rr3, ff3, gg3, Or.inl ⟨rfl, h1, rfl⟩⟩)
    · exact aw_zret (by decide +kernel) rfl (by decide) (by decide) (by omega) (hq _ _ ⟨nn3, rr3, ff3, gg3, Or.inr ⟨rfl, h1, h2, m9, a9, w9, W9, h3, rfl⟩⟩)
  · rw [if_neg hv]
    refine aw_if_ne (o := 5) (tgt := 12) (by decide +kernel) (by decide) (by omega) (fun c => absurd (by omega) c) (fun _ => ?_)
    refine aw_blk (pc' := 11) (ls' := [some (vr 0 0), some (vi a), some (vi c), some (vi d)]) (st' := [vi 0]) [.inl (.iconst 0)] 10 _ _ (by decide +kernel) rfl ?_
    exact aw_zret (by decide +kernel) rfl (by decide) (by decide) (by omega) (hq _ _ ⟨nn, rr, ff, gg, Or.inl ⟨rfl, fun z => z.2.1 (Or.inl hv), rfl⟩⟩)

theorem acc_0 : ¬ acc (fun _ => 0) False := fun A => by
  have h1 := A.2.1
  have h2 : cnt (fun _ => 0) = 0 := by unfold cnt sT; exact sumZ_0 _
  omega
theorem m_B_sheet (ha : I32 a) (hI : I32 c ∧ I32 d) (hln : len ≤ 200) (hf : ∀ i, 0 ≤ ft i ∧ ft i ≤ 255) (ho : od < 30) (hd : dn ≤ 30) (hl : lwOK dy laws) : AMet G M_B_sheet [vr 0 0, vi a, vi c, vi d] (Hp (sgB bd tk) (sgS laws slot ahead made (od : Int) (dn : Int) (un : Int)) (sgT (len : Int) ft) (sgK (nn : Int) rr ff gg) df jo tr di mo dy) (fun r h => ∃ (nn : Nat) (rr : Int) (ff gg : Nat → Int), stl laws slot ahead made od dn un bd tk (sgT 0 ft) (sgK (nn : Int) rr ff gg) df jo tr di mo dy a (den (fun k => c + d * (k : Int)) (ft) len) (¬ (1 ≤ d ∧ d ≤ 100) ∨ byd (fun k => c + d * (k : Int)) (ft) len) r h) (fun _ => False) := by
  refine am_rel (by decide +kernel) (Nat.le_of_ble_eq_true rfl) (fun Qr Qt hq => ?_)
  refine aw_blk (pc' := 4) (ls' := [some (vr 0 0), some (vi a), some (vi c), some (vi d), none]) (st' := [vr 3 0]) [.inl (.aload_n 0), .inr (26, 0, 2)] 0 _ _ (by decide +kernel) rfl ?_
  refine aw_dV (cs' := 0) (sl' := 0) (pc' := 7) (st' := []) (idx := 81) (as := []) (st := []) (m_K_clear) (by decide +kernel) (show vOK "ChanceBench" 81 M_K_clear 0 = true by decide +kernel) rfl rfl rfl (Nat.le_of_ble_eq_true rfl) (by decide) (by decide) (by decide) rfl rfl rfl rfl ?_
  refine aw_blk (pc' := 9) (ls' := [some (vr 0 0), some (vi a), some (vi c), some (vi d), none]) (st' := [vi 1, vi d]) [.inl (.iload_n 3), .inl (.iconst 1)] 7 _ _ (by decide +kernel) rfl ?_
  refine aw_icmp_lt (o := 56) (tgt := 65) (by decide +kernel) (by decide) (by omega) (by omega) (fun c9 => ?_) (fun c9 => ?_)
  · refine aw_blk (pc' := 69) (ls' := [some (vr 0 0), some (vi a), some (vi c), some (vi d), none]) (st' := [vr 2 0]) [.inl (.aload_n 0), .inr (19, 0, 1)] 65 _ _ (by decide +kernel) rfl ?_
    refine aw_dV (cs' := 0) (sl' := 0) (pc' := 72) (st' := []) (idx := 92) (as := []) (st := []) (m_T_empty) (by decide +kernel) (show vOK "ChanceBench" 92 M_T_empty 0 = true by decide +kernel) rfl rfl rfl (Nat.le_of_ble_eq_true rfl) (by decide) (by decide) (by decide) rfl rfl rfl rfl ?_
    refine aw_blk (pc' := 74) (ls' := [some (vr 0 0), some (vi a), some (vi c), some (vi d), none]) (st' := [vi a, vr 0 0]) [.inl (.aload_n 0), .inl (.iload_n 1)] 72 _ _ (by decide +kernel) rfl ?_
    refine aw_rV (cs' := 3) (sl' := 51) (pc' := 77) (idx := 95) (as := [vi a]) (st := []) (m_B_settle (n := 0) (T := fun _ => 0) (by_ := False) ha (mkR_0 (f := ff) (g := gg)) (by omega) ho hd hl) (by decide +kernel) (show vOK "ChanceBench" 95 M_B_settle 1 = true by decide +kernel) rfl rfl rfl (Nat.le_of_ble_eq_true rfl) (by decide) (by decide) (by decide) rfl rfl rfl (fun r74 h74 z74 => ?_)
    rcases z74 with ⟨rfl, h1, rfl⟩ | ⟨rfl, h1, h2, h3⟩
    · exact aw_zret (by decide +kernel) rfl (by decide) (by decide) (by omega) (hq _ _ ⟨0, 0, ff, gg, Or.inl ⟨rfl, fun z => z.2.1 (Or.inl (by omega)), rfl⟩⟩)
    · exact absurd h2 acc_0
  · refine aw_blk (pc' := 15) (ls' := [some (vr 0 0), some (vi a), some (vi c), some (vi d), none]) (st' := [vi 100, vi d]) [.inl (.iload_n 3), .inl (.bipush 100)] 12 _ _ (by decide +kernel) rfl ?_
    refine aw_icmp_gt (o := 50) (tgt := 65) (by decide +kernel) (by decide) (by omega) (by omega) (fun c15 => ?_) (fun c15 => ?_)
    · refine aw_blk (pc' := 69) (ls' := [some (vr 0 0), some (vi a), some (vi c), some (vi d), none]) (st' := [vr 2 0]) [.inl (.aload_n 0), .inr (19, 0, 1)] 65 _ _ (by decide +kernel) rfl ?_
      refine aw_dV (cs' := 0) (sl' := 0) (pc' := 72) (st' := []) (idx := 92) (as := []) (st := []) (m_T_empty) (by decide +kernel) (show vOK "ChanceBench" 92 M_T_empty 0 = true by decide +kernel) rfl rfl rfl (Nat.le_of_ble_eq_true rfl) (by decide) (by decide) (by decide) rfl rfl rfl rfl ?_
      refine aw_blk (pc' := 74) (ls' := [some (vr 0 0), some (vi a), some (vi c), some (vi d), none]) (st' := [vi a, vr 0 0]) [.inl (.aload_n 0), .inl (.iload_n 1)] 72 _ _ (by decide +kernel) rfl ?_
      refine aw_rV (cs' := 3) (sl' := 51) (pc' := 77) (idx := 95) (as := [vi a]) (st := []) (m_B_settle (n := 0) (T := fun _ => 0) (by_ := False) ha (mkR_0 (f := ff) (g := gg)) (by omega) ho hd hl) (by decide +kernel) (show vOK "ChanceBench" 95 M_B_settle 1 = true by decide +kernel) rfl rfl rfl (Nat.le_of_ble_eq_true rfl) (by decide) (by decide) (by decide) rfl rfl rfl (fun r74 h74 z74 => ?_)
      rcases z74 with ⟨rfl, h1, rfl⟩ | ⟨rfl, h1, h2, h3⟩
      · exact aw_zret (by decide +kernel) rfl (by decide) (by decide) (by omega) (hq _ _ ⟨0, 0, ff, gg, Or.inl ⟨rfl, fun z => z.2.1 (Or.inl (by omega)), rfl⟩⟩)
      · exact absurd h2 acc_0
    · refine aw_blk (pc' := 21) (ls' := [some (vr 0 0), some (vi a), some (vi c), some (vi d), some (vi 0)]) (st' := []) [.inl (.iconst 0), .inl (.istore 4)] 18 _ _ (by decide +kernel) rfl ?_
      refine up_to (W := fun i : Nat => ∀ (nn : Nat) (rr : Int) (ff gg : Nat → Int), mkR ((i : Int) * 255) (fun u => 0 + den (fun k => c + d * (k : Int)) (ft) i u) (False ∨ byd (fun k => c + d * (k : Int)) (ft) i) nn rr ff gg → AW G M_B_sheet Qr Qt 0 0 21 [some (vr 0 0), some (vi a), some (vi c), some (vi d), some (vi (i : Int))] [] (Hp [some (ob 0 [vr 1 0, vr 2 0, vr 3 0, vr 4 0, vr 5 0, vr 6 0, vr 7 0, vi bd, vi tk])] [some (ob 1 [vr 1 1, vr 1 2, vr 1 3, vr 1 4, vi (od : Int), vi (dn : Int), vi (un : Int)]), some (rs 16 laws), some (ar 0 30 slot), some (rs 30 ahead), some (rs 30 made)] [some (ob 2 [vr 2 1, vi (len : Int)]), some (ar 0 200 ft)] [some (ob 3 [vr 3 1, vr 3 2, vi (nn : Int), vi rr]), some (ar 0 24 ff), some (ar 1 24 gg)] df jo tr di mo dy)) len ?_ (fun i hi ih => ?_) 0 (by omega) _ _ _ _ mkR_0.z
      · intro nn rr ff gg R
        refine aw_blk (pc' := 27) (ls' := [some (vr 0 0), some (vi a), some (vi c), some (vi d), some (vi (len : Int))]) (st' := [vr 2 0, vi (len : Int)]) [.inl (.iload 4), .inl (.aload_n 0), .inr (19, 0, 1)] 21 _ _ (by decide +kernel) rfl ?_
        refine aw_dV (cs' := 0) (sl' := 0) (pc' := 30) (st' := [vi (len : Int), vi (len : Int)]) (idx := 73) (as := []) (st := [vi (len : Int)]) (m_T_length) (by decide +kernel) (show vOK "ChanceBench" 73 M_T_length 0 = true by decide +kernel) rfl rfl rfl (Nat.le_of_ble_eq_true rfl) (by decide) (by decide) (by decide) rfl rfl rfl rfl ?_
        refine aw_icmp_ge (o := 35) (tgt := 65) (by decide +kernel) (by decide) (by omega) (by omega) (fun _ => ?_) (fun c => absurd (by omega) c)
        refine aw_blk (pc' := 69) (ls' := [some (vr 0 0), some (vi a), some (vi c), some (vi d), some (vi (len : Int))]) (st' := [vr 2 0]) [.inl (.aload_n 0), .inr (19, 0, 1)] 65 _ _ (by decide +kernel) rfl ?_
        refine aw_dV (cs' := 0) (sl' := 0) (pc' := 72) (st' := []) (idx := 92) (as := []) (st := []) (m_T_empty) (by decide +kernel) (show vOK "ChanceBench" 92 M_T_empty 0 = true by decide +kernel) rfl rfl rfl (Nat.le_of_ble_eq_true rfl) (by decide) (by decide) (by decide) rfl rfl rfl rfl ?_
        have R9 := R.e.eq (Int.le_refl _) (fun u _ => rfl) (show byd (fun k => c + d * (k : Int)) (ft) len ↔ (¬ (1 ≤ d ∧ d ≤ 100) ∨ byd (fun k => c + d * (k : Int)) (ft) len) from ⟨Or.inr, fun z => z.elim (fun z => absurd (by omega) z) id⟩)
        refine aw_blk (pc' := 74) (ls' := [some (vr 0 0), some (vi a), some (vi c), some (vi d), some (vi (len : Int))]) (st' := [vi a, vr 0 0]) [.inl (.aload_n 0), .inl (.iload_n 1)] 72 _ _ (by decide +kernel) rfl ?_
        refine aw_rV (cs' := 3) (sl' := 51) (pc' := 77) (idx := 95) (as := [vi a]) (st := []) (m_B_settle ha (R9) (by omega) ho hd hl) (by decide +kernel) (show vOK "ChanceBench" 95 M_B_settle 1 = true by decide +kernel) rfl rfl rfl (Nat.le_of_ble_eq_true rfl) (by decide) (by decide) (by decide) rfl rfl rfl (fun r74 h74 z74 => ?_)
        rcases z74 with ⟨rfl, h1, rfl⟩ | ⟨rfl, h1, h2, m9, a9, w9, W9, h3, rfl⟩
        · exact aw_zret (by decide +kernel) rfl (by decide) (by decide) (by omega) (hq _ _ ⟨nn, rr, ff, gg, Or.inl ⟨rfl, h1, rfl⟩⟩)
        · exact aw_zret (by decide +kernel) rfl (by decide) (by decide) (by omega) (hq _ _ ⟨nn, rr, ff, gg, Or.inr ⟨rfl, h1, h2, m9, a9, w9, W9, h3, rfl⟩⟩)
      · intro nn rr ff gg R
        refine aw_blk (pc' := 27) (ls' := [some (vr 0 0), some (vi a), some (vi c), some (vi d), some (vi (i : Int))]) (st' := [vr 2 0, vi (i : Int)]) [.inl (.iload 4), .inl (.aload_n 0), .inr (19, 0, 1)] 21 _ _ (by decide +kernel) rfl ?_
        refine aw_dV (cs' := 0) (sl' := 0) (pc' := 30) (st' := [vi (len : Int), vi (i : Int)]) (idx := 73) (as := []) (st := [vi (i : Int)]) (m_T_length) (by decide +kernel) (show vOK "ChanceBench" 73 M_T_length 0 = true by decide +kernel) rfl rfl rfl (Nat.le_of_ble_eq_true rfl) (by decide) (by decide) (by decide) rfl rfl rfl rfl ?_
        refine aw_icmp_ge (o := 35) (tgt := 65) (by decide +kernel) (by decide) (by omega) (by omega) (fun c => absurd c (by omega)) (fun _ => ?_)
        have hb := hf i
        have hm : 0 ≤ d * (i : Int) ∧ d * (i : Int) ≤ 20000 := ⟨Int.mul_nonneg (by omega) (by omega), by have := Int.mul_le_mul (show d ≤ 100 by omega) (show (i : Int) ≤ 200 by omega) (by omega) (by omega); omega⟩
        refine aw_blk (pc' := 38) (ls' := [some (vr 0 0), some (vi a), some (vi c), some (vi d), some (vi (i : Int))]) (st' := [vi c, vr 3 0]) [.inl (.aload_n 0), .inr (26, 0, 2), .inl (.iload_n 2)] 33 _ _ (by decide +kernel) rfl ?_
        refine aw_i2l (by decide +kernel) (by omega) ?_
        refine aw_blk (pc' := 40) (ls' := [some (vr 0 0), some (vi a), some (vi c), some (vi d), some (vi (i : Int))]) (st' := [vi d, vl c, vr 3 0]) [.inl (.iload_n 3)] 39 _ _ (by decide +kernel) rfl ?_
        refine aw_i2l (by decide +kernel) (by omega) ?_
        refine aw_blk (pc' := 43) (ls' := [some (vr 0 0), some (vi a), some (vi c), some (vi d), some (vi (i : Int))]) (st' := [vi (i : Int), vl d, vl c, vr 3 0]) [.inl (.iload 4)] 41 _ _ (by decide +kernel) rfl ?_
        refine aw_i2l (by decide +kernel) (by omega) ?_
        refine aw_blk (pc' := 52) (ls' := [some (vr 0 0), some (vi a), some (vi c), some (vi d), some (vi (i : Int))]) (st' := [vi (i : Int), vr 2 0, vl (c + (d * (i : Int))), vr 3 0]) [.inl (.lmul), .inl (.ladd), .inl (.aload_n 0), .inr (19, 0, 1), .inl (.iload 4)] 44 _ _ (by decide +kernel) rfl ?_
        refine aw_dV (cs' := 0) (sl' := 0) (pc' := 55) (st' := [vi (ft i), vl (c + (d * (i : Int))), vr 3 0]) (idx := 84) (as := [vi (i : Int)]) (st := [vl (c + (d * (i : Int))), vr 3 0]) (m_T_byteIn (a := (i : Int)) (by omega) (by omega)) (by decide +kernel) (show vOK "ChanceBench" 84 M_T_byteAt 1 = true by decide +kernel) rfl rfl rfl (Nat.le_of_ble_eq_true rfl) (by decide) (by decide) (by decide) rfl rfl rfl rfl ?_
        refine aw_i2l (by decide +kernel) (by omega) ?_
        refine aw_rV (cs' := 0) (sl' := 0) (pc' := 59) (idx := 88) (as := [vl (c + (d * (i : Int))), vl (ft i)]) (st := []) (m_K_addR R (by omega) (by omega) (by omega)) (by decide +kernel) (show vOK "ChanceBench" 88 M_K_add 2 = true by decide +kernel) rfl rfl rfl (Nat.le_of_ble_eq_true rfl) (by decide) (by decide) (by decide) rfl rfl rfl (fun r56 h56 z56 => ?_)
        obtain ⟨rfl, nn2, rr2, ff2, gg2, R2, rfl⟩ := z56
        refine aw_blk (pc' := 62) (ls' := [some (vr 0 0), some (vi a), some (vi c), some (vi d), some (vi ((i : Int) + 1))]) (st' := []) [.inl (.iinc 4 1)] 59 _ _ (by decide +kernel) rfl ?_
        refine aw_goto (o := -41) (tgt := 21) (by decide +kernel) (by decide) ?_
        exact ih _ _ _ _ (R2.s (V := fun k => c + d * (k : Int)) (by omega))

end
end
section
section
variable {G : GT} {h : HT} {b s t mk df jo tr di mo dy : SG} {a c d e B bd tk : Int} {n m k k1 k2 q q1 q2 j nn len : Nat} {f g ff gg ft at_ wt at2 wt2 : Nat → Int} {rf rr W W2 : Int} {T : Int → Int} {by_ : Prop} {laws ahead made : Nat → Option (Nat × Nat)} {slot : Nat → Int} {od dn un : Nat}
theorem mul_in {x y u v : Int} (h1 : -x ≤ u ∧ u ≤ x) (h2 : -y ≤ v ∧ v ≤ y) (hx : 0 ≤ x) (hy : 0 ≤ y) : -(x * y) ≤ u * v ∧ u * v ≤ x * y := by
  have h : u.natAbs * v.natAbs ≤ x.natAbs * y.natAbs := Nat.mul_le_mul (by omega) (by omega)
  rw [← Int.natAbs_mul, ← Int.natAbs_mul] at h
  have : 0 ≤ x * y := Int.mul_nonneg hx hy
  omega
theorem m_B_times (ha : I32 a) (hI : I32 e ∧ I32 c ∧ I32 d) (hl1 : lawAt laws e = some (9, k)) (hA : isD dy k k1 k2 n at_ wt W) (A : lwN n at_ wt W) (ho : od < 30) (hd : dn ≤ 30) (hl : lwOK dy laws) : AMet G M_B_times [vr 0 0, vi a, vi e, vi c, vi d] (Hp (sgB bd tk) (sgS laws slot ahead made (od : Int) (dn : Int) (un : Int)) t (sgK (nn : Int) rr ff gg) df jo tr di mo dy) (fun r h => ∃ (nn : Nat) (rr : Int) (ff gg : Nat → Int), stl laws slot ahead made od dn un bd tk t (sgK (nn : Int) rr ff gg) df jo tr di mo dy a (den (fun i => c * at_ i + d) (wt) n) (¬ ((-1000 ≤ c ∧ c ≤ 1000) ∧ (-2000 ≤ d ∧ d ≤ 2000)) ∨ byd (fun i => c * at_ i + d) (wt) n) r h) (fun _ => False) := by
  refine am_rel (by decide +kernel) (Nat.le_of_ble_eq_true rfl) (fun Qr Qt hq => ?_)
  refine aw_blk (pc' := 5) (ls' := [some (vr 0 0), some (vi a), some (vi e), some (vi c), some (vi d), none, none]) (st' := [vi e, vr 1 0]) [.inl (.aload_n 0), .inr (10, 0, 0), .inl (.iload_n 2)] 0 _ _ (by decide +kernel) rfl ?_
  refine aw_dV (cs' := 0) (sl' := 0) (pc' := 8) (st' := [vo (lawAt laws e)]) (idx := 117) (as := [vi e]) (st := []) (m_S_lawIn hI.1) (by decide +kernel) (show vOK "ChanceBench" 117 M_S_lawIn 1 = true by decide +kernel) rfl rfl rfl (Nat.le_of_ble_eq_true rfl) (by decide) (by decide) (by decide) rfl rfl rfl rfl ?_
  rw [hl1]
  refine aw_blk (pc' := 12) (ls' := [some (vr 0 0), some (vi a), some (vi e), some (vi c), some (vi d), some (vr 9 k), none]) (st' := [vr 9 k]) [.inl (.astore 5), .inl (.aload 5)] 8 _ _ (by decide +kernel) rfl ?_
  refine aw_ifnull (o := 30) (tgt := 42) (by decide +kernel) (by decide) (fun z => nomatch z) (fun _ _ => ?_)
  refine aw_blk (pc' := 22) (ls' := [some (vr 0 0), some (vi a), some (vi e), some (vi c), some (vi d), some (vr 9 k), none]) (st' := [vi 1000, vi (-1000), vi c]) [.inl (.iload_n 3), .inl (.sipush (-1000)), .inl (.sipush 1000)] 15 _ _ (by decide +kernel) rfl ?_
  refine aw_dS (cs' := 0) (sl' := 0) (pc' := 25) (st' := [vi (if -1000 ≤ c ∧ c ≤ 1000 then 1 else 0)]) (idx := 98) (as := [vi c, vi (-1000), vi 1000]) (st := []) (m_B_isWithin hI.2.1 (by omega) (by omega)) (by decide +kernel) (show sOK "ChanceBench" 98 M_B_isWithin 3 = true by decide +kernel) rfl (Nat.le_of_ble_eq_true rfl) (by decide) (by decide) (by decide) rfl rfl rfl rfl ?_
  by_cases h1 : -1000 ≤ c ∧ c ≤ 1000
  · rw [if_pos h1]
    refine aw_if_eq (o := 17) (tgt := 42) (by decide +kernel) (by decide) (by omega) (fun c => absurd c (by omega)) (fun _ => ?_)
    refine aw_blk (pc' := 36) (ls' := [some (vr 0 0), some (vi a), some (vi e), some (vi c), some (vi d), some (vr 9 k), none]) (st' := [vi 2000, vi (-2000), vi d]) [.inl (.iload 4), .inl (.sipush (-2000)), .inl (.sipush 2000)] 28 _ _ (by decide +kernel) rfl ?_
    refine aw_dS (cs' := 0) (sl' := 0) (pc' := 39) (st' := [vi (if -2000 ≤ d ∧ d ≤ 2000 then 1 else 0)]) (idx := 98) (as := [vi d, vi (-2000), vi 2000]) (st := []) (m_B_isWithin hI.2.2 (by omega) (by omega)) (by decide +kernel) (show sOK "ChanceBench" 98 M_B_isWithin 3 = true by decide +kernel) rfl (Nat.le_of_ble_eq_true rfl) (by decide) (by decide) (by decide) rfl rfl rfl rfl ?_
    by_cases h2 : -2000 ≤ d ∧ d ≤ 2000
    · rw [if_pos h2]
      refine aw_if_ne (o := 5) (tgt := 44) (by decide +kernel) (by decide) (by omega) (fun _ => ?_) (fun c => absurd c (by omega))
      refine aw_blk (pc' := 48) (ls' := [some (vr 0 0), some (vi a), some (vi e), some (vi c), some (vi d), some (vr 9 k), none]) (st' := [vr 3 0]) [.inl (.aload_n 0), .inr (26, 0, 2)] 44 _ _ (by decide +kernel) rfl ?_
      refine aw_dV (cs' := 0) (sl' := 0) (pc' := 51) (st' := []) (idx := 81) (as := []) (st := []) (m_K_clear) (by decide +kernel) (show vOK "ChanceBench" 81 M_K_clear 0 = true by decide +kernel) rfl rfl rfl (Nat.le_of_ble_eq_true rfl) (by decide) (by decide) (by decide) rfl rfl rfl rfl ?_
      refine aw_blk (pc' := 54) (ls' := [some (vr 0 0), some (vi a), some (vi e), some (vi c), some (vi d), some (vr 9 k), some (vi 0)]) (st' := []) [.inl (.iconst 0), .inl (.istore 6)] 51 _ _ (by decide +kernel) rfl ?_
      refine up_to (W := fun i : Nat => ∀ (nn : Nat) (rr : Int) (ff gg : Nat → Int), mkR ((i : Int) * 1048576) (fun u => 0 + den (fun i => c * at_ i + d) (wt) i u) (False ∨ byd (fun i => c * at_ i + d) (wt) i) nn rr ff gg → AW G M_B_times Qr Qt 0 0 54 [some (vr 0 0), some (vi a), some (vi e), some (vi c), some (vi d), some (vr 9 k), some (vi (i : Int))] [] (Hp [some (ob 0 [vr 1 0, vr 2 0, vr 3 0, vr 4 0, vr 5 0, vr 6 0, vr 7 0, vi bd, vi tk])] [some (ob 1 [vr 1 1, vr 1 2, vr 1 3, vr 1 4, vi (od : Int), vi (dn : Int), vi (un : Int)]), some (rs 16 laws), some (ar 0 30 slot), some (rs 30 ahead), some (rs 30 made)] t [some (ob 3 [vr 3 1, vr 3 2, vi (nn : Int), vi rr]), some (ar 0 24 ff), some (ar 1 24 gg)] df jo tr di mo dy)) n ?_ (fun i hi ih => ?_) 0 (by omega) _ _ _ _ mkR_0.z
      · intro nn rr ff gg R
        have hn := A.1
        refine aw_blk (pc' := 58) (ls' := [some (vr 0 0), some (vi a), some (vi e), some (vi c), some (vi d), some (vr 9 k), some (vi (n : Int))]) (st' := [vr 9 k, vi (n : Int)]) [.inl (.iload 6), .inl (.aload 5)] 54 _ _ (by decide +kernel) rfl ?_
        refine aw_get (idx := 121) (ci := 9) (f := 0) (by decide +kernel) (by decide +kernel) hA.1 rfl ?_
        refine aw_alen (by decide +kernel) hA.2.1 (fun r61 => ?_)
        refine aw_icmp_ge (o := 41) (tgt := 103) (by decide +kernel) (by decide) (by omega) (by omega) (fun _ => ?_) (fun c => absurd (by omega) c)
        have R9 := R.e.eq (Int.le_refl _) (fun u _ => rfl) (show byd (fun i => c * at_ i + d) (wt) n ↔ (¬ ((-1000 ≤ c ∧ c ≤ 1000) ∧ (-2000 ≤ d ∧ d ≤ 2000)) ∨ byd (fun i => c * at_ i + d) (wt) n) from ⟨Or.inr, fun z => z.elim (fun z => absurd ⟨h1, h2⟩ z) id⟩)
        refine aw_blk (pc' := 105) (ls' := [some (vr 0 0), some (vi a), some (vi e), some (vi c), some (vi d), some (vr 9 k), some (vi (n : Int))]) (st' := [vi a, vr 0 0]) [.inl (.aload_n 0), .inl (.iload_n 1)] 103 _ _ (by decide +kernel) rfl ?_
        refine aw_rV (cs' := 3) (sl' := 51) (pc' := 108) (idx := 95) (as := [vi a]) (st := []) (m_B_settle ha (R9) (by omega) ho hd hl) (by decide +kernel) (show vOK "ChanceBench" 95 M_B_settle 1 = true by decide +kernel) rfl rfl rfl (Nat.le_of_ble_eq_true rfl) (by decide) (by decide) (by decide) rfl rfl rfl (fun r105 h105 z105 => ?_)
        rcases z105 with ⟨rfl, h1, rfl⟩ | ⟨rfl, h1, h2, m9, a9, w9, W9, h3, rfl⟩
        · exact aw_zret (by decide +kernel) rfl (by decide) (by decide) (by omega) (hq _ _ ⟨nn, rr, ff, gg, Or.inl ⟨rfl, h1, rfl⟩⟩)
        · exact aw_zret (by decide +kernel) rfl (by decide) (by decide) (by omega) (hq _ _ ⟨nn, rr, ff, gg, Or.inr ⟨rfl, h1, h2, m9, a9, w9, W9, h3, rfl⟩⟩)
      · intro nn rr ff gg R
        have hn := A.1
        have hai := A.2.2.1 i hi
        have hW := A.2.2.2.2.1
        refine aw_blk (pc' := 58) (ls' := [some (vr 0 0), some (vi a), some (vi e), some (vi c), some (vi d), some (vr 9 k), some (vi (i : Int))]) (st' := [vr 9 k, vi (i : Int)]) [.inl (.iload 6), .inl (.aload 5)] 54 _ _ (by decide +kernel) rfl ?_
        refine aw_get (idx := 121) (ci := 9) (f := 0) (by decide +kernel) (by decide +kernel) hA.1 rfl ?_
        refine aw_alen (by decide +kernel) hA.2.1 (fun r61 => ?_)
        refine aw_icmp_ge (o := 41) (tgt := 103) (by decide +kernel) (by decide) (by omega) (by omega) (fun c => absurd c (by omega)) (fun _ => ?_)
        have hm : -1000000 ≤ c * at_ i ∧ c * at_ i ≤ 1000000 := mul_in (x := 1000) (y := 1000) (by omega) (by omega) (by omega) (by omega)
        refine aw_blk (pc' := 70) (ls' := [some (vr 0 0), some (vi a), some (vi e), some (vi c), some (vi d), some (vr 9 k), some (vi (i : Int))]) (st' := [vi c, vr 3 0]) [.inl (.aload_n 0), .inr (26, 0, 2), .inl (.iload_n 3)] 65 _ _ (by decide +kernel) rfl ?_
        refine aw_i2l (by decide +kernel) (by omega) ?_
        refine aw_blk (pc' := 73) (ls' := [some (vr 0 0), some (vi a), some (vi e), some (vi c), some (vi d), some (vr 9 k), some (vi (i : Int))]) (st' := [vr 9 k, vl c, vr 3 0]) [.inl (.aload 5)] 71 _ _ (by decide +kernel) rfl ?_
        refine aw_get (idx := 121) (ci := 9) (f := 0) (by decide +kernel) (by decide +kernel) hA.1 rfl ?_
        refine aw_blk (pc' := 78) (ls' := [some (vr 0 0), some (vi a), some (vi e), some (vi c), some (vi d), some (vr 9 k), some (vi (i : Int))]) (st' := [vi (i : Int), vr 9 k1, vl c, vr 3 0]) [.inl (.iload 6)] 76 _ _ (by decide +kernel) rfl ?_
        refine aw_iald (j := i) (by decide +kernel) hA.2.1 (by omega) (by omega) (fun r78 => ?_)
        refine aw_i2l (by decide +kernel) (by omega) ?_
        refine aw_blk (pc' := 83) (ls' := [some (vr 0 0), some (vi a), some (vi e), some (vi c), some (vi d), some (vr 9 k), some (vi (i : Int))]) (st' := [vi d, vl (c * (at_ i)), vr 3 0]) [.inl (.lmul), .inl (.iload 4)] 80 _ _ (by decide +kernel) rfl ?_
        refine aw_i2l (by decide +kernel) (by omega) ?_
        refine aw_blk (pc' := 87) (ls' := [some (vr 0 0), some (vi a), some (vi e), some (vi c), some (vi d), some (vr 9 k), some (vi (i : Int))]) (st' := [vr 9 k, vl ((c * (at_ i)) + d), vr 3 0]) [.inl (.ladd), .inl (.aload 5)] 84 _ _ (by decide +kernel) rfl ?_
        refine aw_get (idx := 127) (ci := 9) (f := 1) (by decide +kernel) (by decide +kernel) hA.1 rfl ?_
        refine aw_blk (pc' := 92) (ls' := [some (vr 0 0), some (vi a), some (vi e), some (vi c), some (vi d), some (vr 9 k), some (vi (i : Int))]) (st' := [vi (i : Int), vr 9 k2, vl ((c * (at_ i)) + d), vr 3 0]) [.inl (.iload 6)] 90 _ _ (by decide +kernel) rfl ?_
        refine aw_iald (j := i) (by decide +kernel) hA.2.2 (by omega) (by omega) (fun r92 => ?_)
        refine aw_i2l (by decide +kernel) (by omega) ?_
        refine aw_rV (cs' := 0) (sl' := 0) (pc' := 97) (idx := 88) (as := [vl ((c * (at_ i)) + d), vl (wt i)]) (st := []) (m_K_addR R (by omega) (by omega) (by omega)) (by decide +kernel) (show vOK "ChanceBench" 88 M_K_add 2 = true by decide +kernel) rfl rfl rfl (Nat.le_of_ble_eq_true rfl) (by decide) (by decide) (by decide) rfl rfl rfl (fun r94 h94 z94 => ?_)
        obtain ⟨rfl, nn2, rr2, ff2, gg2, R2, rfl⟩ := z94
        refine aw_blk (pc' := 100) (ls' := [some (vr 0 0), some (vi a), some (vi e), some (vi c), some (vi d), some (vr 9 k), some (vi ((i : Int) + 1))]) (st' := []) [.inl (.iinc 6 1)] 97 _ _ (by decide +kernel) rfl ?_
        refine aw_goto (o := -46) (tgt := 54) (by decide +kernel) (by decide) ?_
        exact ih _ _ _ _ (R2.s (V := fun i => c * at_ i + d) (by omega))
    · rw [if_neg h2]
      refine aw_if_ne (o := 5) (tgt := 44) (by decide +kernel) (by decide) (by omega) (fun c => absurd (by omega) c) (fun _ => ?_)
      refine aw_blk (pc' := 43) (ls' := [some (vr 0 0), some (vi a), some (vi e), some (vi c), some (vi d), some (vr 9 k), none]) (st' := [vi 0]) [.inl (.iconst 0)] 42 _ _ (by decide +kernel) rfl ?_
      exact aw_zret (by decide +kernel) rfl (by decide) (by decide) (by omega) (hq _ _ ⟨nn, rr, ff, gg, Or.inl ⟨rfl, fun z => z.2.1 (Or.inl (fun z => h2 z.2)), rfl⟩⟩)
  · rw [if_neg h1]
    refine aw_if_eq (o := 17) (tgt := 42) (by decide +kernel) (by decide) (by omega) (fun _ => ?_) (fun c => absurd (by omega) c)
    refine aw_blk (pc' := 43) (ls' := [some (vr 0 0), some (vi a), some (vi e), some (vi c), some (vi d), some (vr 9 k), none]) (st' := [vi 0]) [.inl (.iconst 0)] 42 _ _ (by decide +kernel) rfl ?_
    exact aw_zret (by decide +kernel) rfl (by decide) (by decide) (by omega) (hq _ _ ⟨nn, rr, ff, gg, Or.inl ⟨rfl, fun z => z.2.1 (Or.inl (fun z => h1 z.1)), rfl⟩⟩)

theorem m_B_times_0 (hI : I32 e) (hl1 : lawAt laws e = none) : ADet G M_B_times [vr 0 0, vi a, vi e, vi c, vi d] (Hp (sgB bd tk) (sgS laws slot ahead made (od : Int) (dn : Int) (un : Int)) t (sgK (nn : Int) rr ff gg) df jo tr di mo dy) (some (vi 0)) (Hp (sgB bd tk) (sgS laws slot ahead made (od : Int) (dn : Int) (un : Int)) t (sgK (nn : Int) rr ff gg) df jo tr di mo dy) := by
  refine am_det (by decide +kernel) (Nat.le_of_ble_eq_true rfl) (fun Qr Qt hq => ?_)
  refine aw_blk (pc' := 5) (ls' := [some (vr 0 0), some (vi a), some (vi e), some (vi c), some (vi d), none, none]) (st' := [vi e, vr 1 0]) [.inl (.aload_n 0), .inr (10, 0, 0), .inl (.iload_n 2)] 0 _ _ (by decide +kernel) rfl ?_
  refine aw_dV (cs' := 0) (sl' := 0) (pc' := 8) (st' := [vo (lawAt laws e)]) (idx := 117) (as := [vi e]) (st := []) (m_S_lawIn hI) (by decide +kernel) (show vOK "ChanceBench" 117 M_S_lawIn 1 = true by decide +kernel) rfl rfl rfl (Nat.le_of_ble_eq_true rfl) (by decide) (by decide) (by decide) rfl rfl rfl rfl ?_
  rw [hl1]
  refine aw_blk (pc' := 12) (ls' := [some (vr 0 0), some (vi a), some (vi e), some (vi c), some (vi d), some (vn), none]) (st' := [vn]) [.inl (.astore 5), .inl (.aload 5)] 8 _ _ (by decide +kernel) rfl ?_
  refine aw_ifnull (o := 30) (tgt := 42) (by decide +kernel) (by decide) (fun _ => ?_) (fun _ z => nomatch z)
  refine aw_blk (pc' := 43) (ls' := [some (vr 0 0), some (vi a), some (vi e), some (vi c), some (vi d), some (vn), none]) (st' := [vi 0]) [.inl (.iconst 0)] 42 _ _ (by decide +kernel) rfl ?_
  exact aw_zret (by decide +kernel) rfl (by decide) (by decide) (by omega) (hq _ _ rfl rfl)

theorem m_B_given (ha : I32 a) (hI : I32 e ∧ I32 c ∧ I32 d) (hl1 : lawAt laws e = some (9, k)) (hA : isD dy k k1 k2 n at_ wt W) (A : lwN n at_ wt W) (ho : od < 30) (hd : dn ≤ 30) (hl : lwOK dy laws) : AMet G M_B_given [vr 0 0, vi a, vi e, vi c, vi d] (Hp (sgB bd tk) (sgS laws slot ahead made (od : Int) (dn : Int) (un : Int)) t (sgK (nn : Int) rr ff gg) df jo tr di mo dy) (fun r h => ∃ (nn : Nat) (rr : Int) (ff gg : Nat → Int), stl laws slot ahead made od dn un bd tk t (sgK (nn : Int) rr ff gg) df jo tr di mo dy a (den (at_) (fun i => if c ≤ at_ i ∧ at_ i ≤ d then wt i else 0) n) (byd (at_) (fun i => if c ≤ at_ i ∧ at_ i ≤ d then wt i else 0) n) r h) (fun _ => False) := by
  refine am_rel (by decide +kernel) (Nat.le_of_ble_eq_true rfl) (fun Qr Qt hq => ?_)
  refine aw_blk (pc' := 5) (ls' := [some (vr 0 0), some (vi a), some (vi e), some (vi c), some (vi d), none, none]) (st' := [vi e, vr 1 0]) [.inl (.aload_n 0), .inr (10, 0, 0), .inl (.iload_n 2)] 0 _ _ (by decide +kernel) rfl ?_
  refine aw_dV (cs' := 0) (sl' := 0) (pc' := 8) (st' := [vo (lawAt laws e)]) (idx := 117) (as := [vi e]) (st := []) (m_S_lawIn hI.1) (by decide +kernel) (show vOK "ChanceBench" 117 M_S_lawIn 1 = true by decide +kernel) rfl rfl rfl (Nat.le_of_ble_eq_true rfl) (by decide) (by decide) (by decide) rfl rfl rfl rfl ?_
  rw [hl1]
  refine aw_blk (pc' := 12) (ls' := [some (vr 0 0), some (vi a), some (vi e), some (vi c), some (vi d), some (vr 9 k), none]) (st' := [vr 9 k]) [.inl (.astore 5), .inl (.aload 5)] 8 _ _ (by decide +kernel) rfl ?_
  refine aw_ifnonnull (o := 5) (tgt := 17) (by decide +kernel) (by decide) (fun _ _ => ?_) (fun z => nomatch z)
  refine aw_blk (pc' := 21) (ls' := [some (vr 0 0), some (vi a), some (vi e), some (vi c), some (vi d), some (vr 9 k), none]) (st' := [vr 3 0]) [.inl (.aload_n 0), .inr (26, 0, 2)] 17 _ _ (by decide +kernel) rfl ?_
  refine aw_dV (cs' := 0) (sl' := 0) (pc' := 24) (st' := []) (idx := 81) (as := []) (st := []) (m_K_clear) (by decide +kernel) (show vOK "ChanceBench" 81 M_K_clear 0 = true by decide +kernel) rfl rfl rfl (Nat.le_of_ble_eq_true rfl) (by decide) (by decide) (by decide) rfl rfl rfl rfl ?_
  refine aw_blk (pc' := 27) (ls' := [some (vr 0 0), some (vi a), some (vi e), some (vi c), some (vi d), some (vr 9 k), some (vi 0)]) (st' := []) [.inl (.iconst 0), .inl (.istore 6)] 24 _ _ (by decide +kernel) rfl ?_
  refine up_to (W := fun i : Nat => ∀ (nn : Nat) (rr : Int) (ff gg : Nat → Int), mkR ((i : Int) * 1048576) (fun u => 0 + den (at_) (fun i => if c ≤ at_ i ∧ at_ i ≤ d then wt i else 0) i u) (False ∨ byd (at_) (fun i => if c ≤ at_ i ∧ at_ i ≤ d then wt i else 0) i) nn rr ff gg → AW G M_B_given Qr Qt 0 0 27 [some (vr 0 0), some (vi a), some (vi e), some (vi c), some (vi d), some (vr 9 k), some (vi (i : Int))] [] (Hp [some (ob 0 [vr 1 0, vr 2 0, vr 3 0, vr 4 0, vr 5 0, vr 6 0, vr 7 0, vi bd, vi tk])] [some (ob 1 [vr 1 1, vr 1 2, vr 1 3, vr 1 4, vi (od : Int), vi (dn : Int), vi (un : Int)]), some (rs 16 laws), some (ar 0 30 slot), some (rs 30 ahead), some (rs 30 made)] t [some (ob 3 [vr 3 1, vr 3 2, vi (nn : Int), vi rr]), some (ar 0 24 ff), some (ar 1 24 gg)] df jo tr di mo dy)) n ?_ (fun i hi ih => ?_) 0 (by omega) _ _ _ _ mkR_0.z
  · intro nn rr ff gg R
    have hn := A.1
    refine aw_blk (pc' := 31) (ls' := [some (vr 0 0), some (vi a), some (vi e), some (vi c), some (vi d), some (vr 9 k), some (vi (n : Int))]) (st' := [vr 9 k, vi (n : Int)]) [.inl (.iload 6), .inl (.aload 5)] 27 _ _ (by decide +kernel) rfl ?_
    refine aw_get (idx := 121) (ci := 9) (f := 0) (by decide +kernel) (by decide +kernel) hA.1 rfl ?_
    refine aw_alen (by decide +kernel) hA.2.1 (fun r34 => ?_)
    refine aw_icmp_ge (o := 51) (tgt := 86) (by decide +kernel) (by decide) (by omega) (by omega) (fun _ => ?_) (fun c => absurd (by omega) c)
    have R9 := R.e
    refine aw_blk (pc' := 88) (ls' := [some (vr 0 0), some (vi a), some (vi e), some (vi c), some (vi d), some (vr 9 k), some (vi (n : Int))]) (st' := [vi a, vr 0 0]) [.inl (.aload_n 0), .inl (.iload_n 1)] 86 _ _ (by decide +kernel) rfl ?_
    refine aw_rV (cs' := 3) (sl' := 51) (pc' := 91) (idx := 95) (as := [vi a]) (st := []) (m_B_settle ha (R9) (by omega) ho hd hl) (by decide +kernel) (show vOK "ChanceBench" 95 M_B_settle 1 = true by decide +kernel) rfl rfl rfl (Nat.le_of_ble_eq_true rfl) (by decide) (by decide) (by decide) rfl rfl rfl (fun r88 h88 z88 => ?_)
    rcases z88 with ⟨rfl, h1, rfl⟩ | ⟨rfl, h1, h2, m9, a9, w9, W9, h3, rfl⟩
    · exact aw_zret (by decide +kernel) rfl (by decide) (by decide) (by omega) (hq _ _ ⟨nn, rr, ff, gg, Or.inl ⟨rfl, h1, rfl⟩⟩)
    · exact aw_zret (by decide +kernel) rfl (by decide) (by decide) (by omega) (hq _ _ ⟨nn, rr, ff, gg, Or.inr ⟨rfl, h1, h2, m9, a9, w9, W9, h3, rfl⟩⟩)
  · intro nn rr ff gg R
    have hn := A.1
    have hai := A.2.2.1 i hi
    have hW := A.2.2.2.2.1
    refine aw_blk (pc' := 31) (ls' := [some (vr 0 0), some (vi a), some (vi e), some (vi c), some (vi d), some (vr 9 k), some (vi (i : Int))]) (st' := [vr 9 k, vi (i : Int)]) [.inl (.iload 6), .inl (.aload 5)] 27 _ _ (by decide +kernel) rfl ?_
    refine aw_get (idx := 121) (ci := 9) (f := 0) (by decide +kernel) (by decide +kernel) hA.1 rfl ?_
    refine aw_alen (by decide +kernel) hA.2.1 (fun r34 => ?_)
    refine aw_icmp_ge (o := 51) (tgt := 86) (by decide +kernel) (by decide) (by omega) (by omega) (fun c => absurd c (by omega)) (fun _ => ?_)
    refine aw_blk (pc' := 40) (ls' := [some (vr 0 0), some (vi a), some (vi e), some (vi c), some (vi d), some (vr 9 k), some (vi (i : Int))]) (st' := [vr 9 k]) [.inl (.aload 5)] 38 _ _ (by decide +kernel) rfl ?_
    refine aw_get (idx := 121) (ci := 9) (f := 0) (by decide +kernel) (by decide +kernel) hA.1 rfl ?_
    refine aw_blk (pc' := 45) (ls' := [some (vr 0 0), some (vi a), some (vi e), some (vi c), some (vi d), some (vr 9 k), some (vi (i : Int))]) (st' := [vi (i : Int), vr 9 k1]) [.inl (.iload 6)] 43 _ _ (by decide +kernel) rfl ?_
    refine aw_iald (j := i) (by decide +kernel) hA.2.1 (by omega) (by omega) (fun r45 => ?_)
    refine aw_blk (pc' := 49) (ls' := [some (vr 0 0), some (vi a), some (vi e), some (vi c), some (vi d), some (vr 9 k), some (vi (i : Int))]) (st' := [vi d, vi c, vi (at_ i)]) [.inl (.iload_n 3), .inl (.iload 4)] 46 _ _ (by decide +kernel) rfl ?_
    refine aw_dS (cs' := 0) (sl' := 0) (pc' := 52) (st' := [vi (if c ≤ at_ i ∧ at_ i ≤ d then 1 else 0)]) (idx := 98) (as := [vi (at_ i), vi c, vi d]) (st := []) (m_B_isWithin (by omega) hI.2.1 hI.2.2) (by decide +kernel) (show sOK "ChanceBench" 98 M_B_isWithin 3 = true by decide +kernel) rfl (Nat.le_of_ble_eq_true rfl) (by decide) (by decide) (by decide) rfl rfl rfl rfl ?_
    by_cases h1 : c ≤ at_ i ∧ at_ i ≤ d
    · rw [if_pos h1]
      refine aw_if_eq (o := 28) (tgt := 80) (by decide +kernel) (by decide) (by omega) (fun c => absurd c (by omega)) (fun _ => ?_)
      refine aw_blk (pc' := 61) (ls' := [some (vr 0 0), some (vi a), some (vi e), some (vi c), some (vi d), some (vr 9 k), some (vi (i : Int))]) (st' := [vr 9 k, vr 3 0]) [.inl (.aload_n 0), .inr (26, 0, 2), .inl (.aload 5)] 55 _ _ (by decide +kernel) rfl ?_
      refine aw_get (idx := 121) (ci := 9) (f := 0) (by decide +kernel) (by decide +kernel) hA.1 rfl ?_
      refine aw_blk (pc' := 66) (ls' := [some (vr 0 0), some (vi a), some (vi e), some (vi c), some (vi d), some (vr 9 k), some (vi (i : Int))]) (st' := [vi (i : Int), vr 9 k1, vr 3 0]) [.inl (.iload 6)] 64 _ _ (by decide +kernel) rfl ?_
      refine aw_iald (j := i) (by decide +kernel) hA.2.1 (by omega) (by omega) (fun r66 => ?_)
      refine aw_i2l (by decide +kernel) (by omega) ?_
      refine aw_blk (pc' := 70) (ls' := [some (vr 0 0), some (vi a), some (vi e), some (vi c), some (vi d), some (vr 9 k), some (vi (i : Int))]) (st' := [vr 9 k, vl (at_ i), vr 3 0]) [.inl (.aload 5)] 68 _ _ (by decide +kernel) rfl ?_
      refine aw_get (idx := 127) (ci := 9) (f := 1) (by decide +kernel) (by decide +kernel) hA.1 rfl ?_
      refine aw_blk (pc' := 75) (ls' := [some (vr 0 0), some (vi a), some (vi e), some (vi c), some (vi d), some (vr 9 k), some (vi (i : Int))]) (st' := [vi (i : Int), vr 9 k2, vl (at_ i), vr 3 0]) [.inl (.iload 6)] 73 _ _ (by decide +kernel) rfl ?_
      refine aw_iald (j := i) (by decide +kernel) hA.2.2 (by omega) (by omega) (fun r75 => ?_)
      refine aw_i2l (by decide +kernel) (by omega) ?_
      refine aw_rV (cs' := 0) (sl' := 0) (pc' := 80) (idx := 88) (as := [vl (at_ i), vl (wt i)]) (st := []) (m_K_addR R (by omega) (by omega) (by omega)) (by decide +kernel) (show vOK "ChanceBench" 88 M_K_add 2 = true by decide +kernel) rfl rfl rfl (Nat.le_of_ble_eq_true rfl) (by decide) (by decide) (by decide) rfl rfl rfl (fun r77 h77 z77 => ?_)
      obtain ⟨rfl, nn2, rr2, ff2, gg2, R2, rfl⟩ := z77
      refine aw_blk (pc' := 83) (ls' := [some (vr 0 0), some (vi a), some (vi e), some (vi c), some (vi d), some (vr 9 k), some (vi ((i : Int) + 1))]) (st' := []) [.inl (.iinc 6 1)] 80 _ _ (by decide +kernel) rfl ?_
      refine aw_goto (o := -56) (tgt := 27) (by decide +kernel) (by decide) ?_
      exact ih _ _ _ _ (mkR.s (V := at_) (C := fun i => if c ≤ at_ i ∧ at_ i ≤ d then wt i else 0) (i := i) (B := (i : Int) * 1048576) (R2.eq (by simp only [if_pos h1]; omega) (fun u _ => by simp only [if_pos h1]) (by simp only [if_pos h1])) (by simp only [if_pos h1]; omega))
    · rw [if_neg h1]
      refine aw_if_eq (o := 28) (tgt := 80) (by decide +kernel) (by decide) (by omega) (fun _ => ?_) (fun c => absurd (by omega) c)
      refine aw_blk (pc' := 83) (ls' := [some (vr 0 0), some (vi a), some (vi e), some (vi c), some (vi d), some (vr 9 k), some (vi ((i : Int) + 1))]) (st' := []) [.inl (.iinc 6 1)] 80 _ _ (by decide +kernel) rfl ?_
      refine aw_goto (o := -56) (tgt := 27) (by decide +kernel) (by decide) ?_
      exact ih _ _ _ _ (mkR.s (V := at_) (C := fun i => if c ≤ at_ i ∧ at_ i ≤ d then wt i else 0) (i := i) (B := (i : Int) * 1048576) (R.eq (by simp only [if_neg h1]; omega) (fun u _ => by simp only [if_neg h1]; split <;> omega) ⟨fun z => Or.inl z, fun z => z.elim id (fun z => by simp only [if_neg h1] at z; omega)⟩) (by simp only [if_neg h1]; omega))

theorem m_B_given_0 (hI : I32 e) (hl1 : lawAt laws e = none) : ADet G M_B_given [vr 0 0, vi a, vi e, vi c, vi d] (Hp (sgB bd tk) (sgS laws slot ahead made (od : Int) (dn : Int) (un : Int)) t (sgK (nn : Int) rr ff gg) df jo tr di mo dy) (some (vi 0)) (Hp (sgB bd tk) (sgS laws slot ahead made (od : Int) (dn : Int) (un : Int)) t (sgK (nn : Int) rr ff gg) df jo tr di mo dy) := by
  refine am_det (by decide +kernel) (Nat.le_of_ble_eq_true rfl) (fun Qr Qt hq => ?_)
  refine aw_blk (pc' := 5) (ls' := [some (vr 0 0), some (vi a), some (vi e), some (vi c), some (vi d), none, none]) (st' := [vi e, vr 1 0]) [.inl (.aload_n 0), .inr (10, 0, 0), .inl (.iload_n 2)] 0 _ _ (by decide +kernel) rfl ?_
  refine aw_dV (cs' := 0) (sl' := 0) (pc' := 8) (st' := [vo (lawAt laws e)]) (idx := 117) (as := [vi e]) (st := []) (m_S_lawIn hI) (by decide +kernel) (show vOK "ChanceBench" 117 M_S_lawIn 1 = true by decide +kernel) rfl rfl rfl (Nat.le_of_ble_eq_true rfl) (by decide) (by decide) (by decide) rfl rfl rfl rfl ?_
  rw [hl1]
  refine aw_blk (pc' := 12) (ls' := [some (vr 0 0), some (vi a), some (vi e), some (vi c), some (vi d), some (vn), none]) (st' := [vn]) [.inl (.astore 5), .inl (.aload 5)] 8 _ _ (by decide +kernel) rfl ?_
  refine aw_ifnonnull (o := 5) (tgt := 17) (by decide +kernel) (by decide) (fun _ z => nomatch z) (fun _ => ?_)
  refine aw_blk (pc' := 16) (ls' := [some (vr 0 0), some (vi a), some (vi e), some (vi c), some (vi d), some (vn), none]) (st' := [vi 0]) [.inl (.iconst 0)] 15 _ _ (by decide +kernel) rfl ?_
  exact aw_zret (by decide +kernel) rfl (by decide) (by decide) (by omega) (hq _ _ rfl rfl)

theorem m_B_addAll (hA : isD dy k k1 k2 n at_ wt W) (A : lwN n at_ wt W) (hc : 0 ≤ c ∧ c ≤ 1048576000) (R0 : mkR B T by_ nn rr ff gg) (hB : B ≤ 100000000000000000) : AMet G M_B_addAll [vr 0 0, vr 9 k, vl c] (Hp (sgB bd tk) (sgS laws slot ahead made (od : Int) (dn : Int) (un : Int)) t (sgK (nn : Int) rr ff gg) df jo tr di mo dy) (fun r h => r = none ∧ ∃ (nn : Nat) (rr : Int) (ff gg : Nat → Int), mkR (B + 26400000000000000) (fun u => T u + den at_ (fun i => wt i * c) n u) (by_ ∨ byd at_ (fun i => wt i * c) n) nn rr ff gg ∧ h = Hp (sgB bd tk) (sgS laws slot ahead made (od : Int) (dn : Int) (un : Int)) t (sgK (nn : Int) rr ff gg) df jo tr di mo dy) (fun _ => False) := by
  refine am_rel (by decide +kernel) (Nat.le_of_ble_eq_true rfl) (fun Qr Qt hq => ?_)
  have hn := A.1
  refine aw_blk (pc' := 3) (ls' := [some (vr 0 0), some (vr 9 k), some (vl c), none, some (vi 0)]) (st' := []) [.inl (.iconst 0), .inl (.istore 4)] 0 _ _ (by decide +kernel) rfl ?_
  refine up_to (W := fun i : Nat => ∀ (nn : Nat) (rr : Int) (ff gg : Nat → Int), mkR (B + (i : Int) * 1100000000000000) (fun u => T u + den at_ (fun i => wt i * c) i u) (by_ ∨ byd at_ (fun i => wt i * c) i) nn rr ff gg → AW G M_B_addAll Qr Qt 0 0 3 [some (vr 0 0), some (vr 9 k), some (vl c), none, some (vi (i : Int))] [] (Hp [some (ob 0 [vr 1 0, vr 2 0, vr 3 0, vr 4 0, vr 5 0, vr 6 0, vr 7 0, vi bd, vi tk])] [some (ob 1 [vr 1 1, vr 1 2, vr 1 3, vr 1 4, vi (od : Int), vi (dn : Int), vi (un : Int)]), some (rs 16 laws), some (ar 0 30 slot), some (rs 30 ahead), some (rs 30 made)] t [some (ob 3 [vr 3 1, vr 3 2, vi (nn : Int), vi rr]), some (ar 0 24 ff), some (ar 1 24 gg)] df jo tr di mo dy)) n ?_ (fun i hi ih => ?_) 0 (by omega) _ _ _ _ (show mkR (B + ((0 : Nat) : Int) * 1100000000000000) _ _ nn rr ff gg from R0.z.eq (by omega) (fun _ _ => rfl) Iff.rfl)
  · intro nn rr ff gg R
    refine aw_blk (pc' := 6) (ls' := [some (vr 0 0), some (vr 9 k), some (vl c), none, some (vi (n : Int))]) (st' := [vr 9 k, vi (n : Int)]) [.inl (.iload 4), .inl (.aload_n 1)] 3 _ _ (by decide +kernel) rfl ?_
    refine aw_get (idx := 121) (ci := 9) (f := 0) (by decide +kernel) (by decide +kernel) hA.1 rfl ?_
    refine aw_alen (by decide +kernel) hA.2.1 (fun r9 => ?_)
    refine aw_icmp_ge (o := 34) (tgt := 44) (by decide +kernel) (by decide) (by omega) (by omega) (fun _ => ?_) (fun c => absurd (by omega) c)
    exact aw_vret (by decide +kernel) rfl (by decide) (by decide) (hq _ _ ⟨rfl, nn, rr, ff, gg, R.eq (by omega) (fun _ _ => rfl) Iff.rfl, rfl⟩)
  · intro nn rr ff gg R
    have hai := A.2.2.1 i hi
    have hW := A.2.2.2.2.1
    have hm : 0 ≤ wt i * c ∧ wt i * c ≤ 1100000000000000 := ⟨Int.mul_nonneg (by omega) (by omega), by have := Int.mul_le_mul (show wt i ≤ 1048576 by omega) hc.2 hc.1 (by omega); omega⟩
    refine aw_blk (pc' := 6) (ls' := [some (vr 0 0), some (vr 9 k), some (vl c), none, some (vi (i : Int))]) (st' := [vr 9 k, vi (i : Int)]) [.inl (.iload 4), .inl (.aload_n 1)] 3 _ _ (by decide +kernel) rfl ?_
    refine aw_get (idx := 121) (ci := 9) (f := 0) (by decide +kernel) (by decide +kernel) hA.1 rfl ?_
    refine aw_alen (by decide +kernel) hA.2.1 (fun r9 => ?_)
    refine aw_icmp_ge (o := 34) (tgt := 44) (by decide +kernel) (by decide) (by omega) (by omega) (fun c => absurd c (by omega)) (fun _ => ?_)
    refine aw_blk (pc' := 18) (ls' := [some (vr 0 0), some (vr 9 k), some (vl c), none, some (vi (i : Int))]) (st' := [vr 9 k, vr 3 0]) [.inl (.aload_n 0), .inr (26, 0, 2), .inl (.aload_n 1)] 13 _ _ (by decide +kernel) rfl ?_
    refine aw_get (idx := 121) (ci := 9) (f := 0) (by decide +kernel) (by decide +kernel) hA.1 rfl ?_
    refine aw_blk (pc' := 23) (ls' := [some (vr 0 0), some (vr 9 k), some (vl c), none, some (vi (i : Int))]) (st' := [vi (i : Int), vr 9 k1, vr 3 0]) [.inl (.iload 4)] 21 _ _ (by decide +kernel) rfl ?_
    refine aw_iald (j := i) (by decide +kernel) hA.2.1 (by omega) (by omega) (fun r23 => ?_)
    refine aw_i2l (by decide +kernel) (by omega) ?_
    refine aw_blk (pc' := 26) (ls' := [some (vr 0 0), some (vr 9 k), some (vl c), none, some (vi (i : Int))]) (st' := [vr 9 k, vl (at_ i), vr 3 0]) [.inl (.aload_n 1)] 25 _ _ (by decide +kernel) rfl ?_
    refine aw_get (idx := 127) (ci := 9) (f := 1) (by decide +kernel) (by decide +kernel) hA.1 rfl ?_
    refine aw_blk (pc' := 31) (ls' := [some (vr 0 0), some (vr 9 k), some (vl c), none, some (vi (i : Int))]) (st' := [vi (i : Int), vr 9 k2, vl (at_ i), vr 3 0]) [.inl (.iload 4)] 29 _ _ (by decide +kernel) rfl ?_
    refine aw_iald (j := i) (by decide +kernel) hA.2.2 (by omega) (by omega) (fun r31 => ?_)
    refine aw_i2l (by decide +kernel) (by omega) ?_
    refine aw_blk (pc' := 35) (ls' := [some (vr 0 0), some (vr 9 k), some (vl c), none, some (vi (i : Int))]) (st' := [vl ((wt i) * c), vl (at_ i), vr 3 0]) [.inl (.lload_n 2), .inl (.lmul)] 33 _ _ (by decide +kernel) rfl ?_
    refine aw_rV (cs' := 0) (sl' := 0) (pc' := 38) (idx := 88) (as := [vl (at_ i), vl ((wt i) * c)]) (st := []) (m_K_addR R (by omega) (by omega) (by omega)) (by decide +kernel) (show vOK "ChanceBench" 88 M_K_add 2 = true by decide +kernel) rfl rfl rfl (Nat.le_of_ble_eq_true rfl) (by decide) (by decide) (by decide) rfl rfl rfl (fun r35 h35 z35 => ?_)
    obtain ⟨rfl, nn2, rr2, ff2, gg2, R2, rfl⟩ := z35
    refine aw_blk (pc' := 41) (ls' := [some (vr 0 0), some (vr 9 k), some (vl c), none, some (vi ((i : Int) + 1))]) (st' := []) [.inl (.iinc 4 1)] 38 _ _ (by decide +kernel) rfl ?_
    refine aw_goto (o := -38) (tgt := 3) (by decide +kernel) (by decide) ?_
    exact ih _ _ _ _ (R2.s (V := at_) (C := fun i => wt i * c) (by show _ + wt i * c ≤ _; omega))

theorem m_B_mix (ha : I32 a) (hI : I32 e ∧ I32 B ∧ I32 c ∧ I32 d) (hl1 : lawAt laws e = some (9, k)) (hl2 : lawAt laws B = some (9, q)) (hA : isD dy k k1 k2 n at_ wt W) (A : lwN n at_ wt W) (hA2 : isD dy q q1 q2 m at2 wt2 W2) (A2 : lwN m at2 wt2 W2) (ho : od < 30) (hd : dn ≤ 30) (hl : lwOK dy laws) : AMet G M_B_mix [vr 0 0, vi a, vi e, vi B, vi c, vi d] (Hp (sgB bd tk) (sgS laws slot ahead made (od : Int) (dn : Int) (un : Int)) t (sgK (nn : Int) rr ff gg) df jo tr di mo dy) (fun r h => ∃ (nn : Nat) (rr : Int) (ff gg : Nat → Int), stl laws slot ahead made od dn un bd tk t (sgK (nn : Int) rr ff gg) df jo tr di mo dy a (fun u => den at_ (fun i => wt i * (c * W2)) n u + den at2 (fun i => wt2 i * ((d - c) * W)) m u) (¬ ((1 ≤ d ∧ d ≤ 1000) ∧ (0 ≤ c ∧ c ≤ d)) ∨ byd at_ (fun i => wt i * (c * W2)) n ∨ byd at2 (fun i => wt2 i * ((d - c) * W)) m) r h) (fun _ => False) := by
  refine am_rel (by decide +kernel) (Nat.le_of_ble_eq_true rfl) (fun Qr Qt hq => ?_)
  have hW := A.2.2.2.1
  have hW1 := A.2.2.2.2.1
  have hW2 := A2.2.2.2.1
  have hW3 := A2.2.2.2.2.1
  refine aw_blk (pc' := 5) (ls' := [some (vr 0 0), some (vi a), some (vi e), some (vi B), some (vi c), some (vi d), none, none]) (st' := [vi e, vr 1 0]) [.inl (.aload_n 0), .inr (10, 0, 0), .inl (.iload_n 2)] 0 _ _ (by decide +kernel) rfl ?_
  refine aw_dV (cs' := 0) (sl' := 0) (pc' := 8) (st' := [vo (lawAt laws e)]) (idx := 117) (as := [vi e]) (st := []) (m_S_lawIn hI.1) (by decide +kernel) (show vOK "ChanceBench" 117 M_S_lawIn 1 = true by decide +kernel) rfl rfl rfl (Nat.le_of_ble_eq_true rfl) (by decide) (by decide) (by decide) rfl rfl rfl rfl ?_
  rw [hl1]
  refine aw_blk (pc' := 15) (ls' := [some (vr 0 0), some (vi a), some (vi e), some (vi B), some (vi c), some (vi d), some (vr 9 k), none]) (st' := [vi B, vr 1 0]) [.inl (.astore 6), .inl (.aload_n 0), .inr (10, 0, 0), .inl (.iload_n 3)] 8 _ _ (by decide +kernel) rfl ?_
  refine aw_dV (cs' := 0) (sl' := 0) (pc' := 18) (st' := [vo (lawAt laws B)]) (idx := 117) (as := [vi B]) (st := []) (m_S_lawIn hI.2.1) (by decide +kernel) (show vOK "ChanceBench" 117 M_S_lawIn 1 = true by decide +kernel) rfl rfl rfl (Nat.le_of_ble_eq_true rfl) (by decide) (by decide) (by decide) rfl rfl rfl rfl ?_
  rw [hl2]
  refine aw_blk (pc' := 22) (ls' := [some (vr 0 0), some (vi a), some (vi e), some (vi B), some (vi c), some (vi d), some (vr 9 k), some (vr 9 q)]) (st' := [vr 9 k]) [.inl (.astore 7), .inl (.aload 6)] 18 _ _ (by decide +kernel) rfl ?_
  refine aw_ifnull (o := 21) (tgt := 43) (by decide +kernel) (by decide) (fun z => nomatch z) (fun _ _ => ?_)
  refine aw_blk (pc' := 27) (ls' := [some (vr 0 0), some (vi a), some (vi e), some (vi B), some (vi c), some (vi d), some (vr 9 k), some (vr 9 q)]) (st' := [vr 9 q]) [.inl (.aload 7)] 25 _ _ (by decide +kernel) rfl ?_
  refine aw_ifnull (o := 16) (tgt := 43) (by decide +kernel) (by decide) (fun z => nomatch z) (fun _ _ => ?_)
  refine aw_blk (pc' := 37) (ls' := [some (vr 0 0), some (vi a), some (vi e), some (vi B), some (vi c), some (vi d), some (vr 9 k), some (vr 9 q)]) (st' := [vi 1000, vi d, vi c]) [.inl (.iload 4), .inl (.iload 5), .inl (.sipush 1000)] 30 _ _ (by decide +kernel) rfl ?_
  refine aw_dS (cs' := 0) (sl' := 0) (pc' := 40) (st' := [vi (if (1 ≤ d ∧ d ≤ 1000) ∧ (0 ≤ c ∧ c ≤ d) then 1 else 0)]) (idx := 110) (as := [vi c, vi d, vi 1000]) (st := []) (m_B_isShare hI.2.2.1 hI.2.2.2 (by omega)) (by decide +kernel) (show sOK "ChanceBench" 110 M_B_isShare 3 = true by decide +kernel) rfl (Nat.le_of_ble_eq_true rfl) (by decide) (by decide) (by decide) rfl rfl rfl rfl ?_
  by_cases hv : (1 ≤ d ∧ d ≤ 1000) ∧ (0 ≤ c ∧ c ≤ d)
  · rw [if_pos hv]
    refine aw_if_ne (o := 5) (tgt := 45) (by decide +kernel) (by decide) (by omega) (fun _ => ?_) (fun c => absurd c (by omega))
    refine aw_blk (pc' := 49) (ls' := [some (vr 0 0), some (vi a), some (vi e), some (vi B), some (vi c), some (vi d), some (vr 9 k), some (vr 9 q)]) (st' := [vr 3 0]) [.inl (.aload_n 0), .inr (26, 0, 2)] 45 _ _ (by decide +kernel) rfl ?_
    refine aw_dV (cs' := 0) (sl' := 0) (pc' := 52) (st' := []) (idx := 81) (as := []) (st := []) (m_K_clear) (by decide +kernel) (show vOK "ChanceBench" 81 M_K_clear 0 = true by decide +kernel) rfl rfl rfl (Nat.le_of_ble_eq_true rfl) (by decide) (by decide) (by decide) rfl rfl rfl rfl ?_
    refine aw_blk (pc' := 57) (ls' := [some (vr 0 0), some (vi a), some (vi e), some (vi B), some (vi c), some (vi d), some (vr 9 k), some (vr 9 q)]) (st' := [vi c, vr 9 k, vr 0 0]) [.inl (.aload_n 0), .inl (.aload 6), .inl (.iload 4)] 52 _ _ (by decide +kernel) rfl ?_
    refine aw_i2l (by decide +kernel) (by omega) ?_
    refine aw_blk (pc' := 60) (ls' := [some (vr 0 0), some (vi a), some (vi e), some (vi B), some (vi c), some (vi d), some (vr 9 k), some (vr 9 q)]) (st' := [vr 9 q, vl c, vr 9 k, vr 0 0]) [.inl (.aload 7)] 58 _ _ (by decide +kernel) rfl ?_
    refine aw_get (idx := 130) (ci := 9) (f := 2) (by decide +kernel) (by decide +kernel) hA2.1 rfl ?_
    refine aw_i2l (by decide +kernel) (by omega) ?_
    refine aw_blk (pc' := 65) (ls' := [some (vr 0 0), some (vi a), some (vi e), some (vi B), some (vi c), some (vi d), some (vr 9 k), some (vr 9 q)]) (st' := [vl (c * W2), vr 9 k, vr 0 0]) [.inl (.lmul)] 64 _ _ (by decide +kernel) rfl ?_
    have hm1 : 0 ≤ c * W2 ∧ c * W2 ≤ 1048576000 := ⟨Int.mul_nonneg (by omega) (by omega), by have := Int.mul_le_mul (show c ≤ 1000 by omega) hW3 (by omega) (by omega); omega⟩
    have hm2 : 0 ≤ (d - c) * W ∧ (d - c) * W ≤ 1048576000 := ⟨Int.mul_nonneg (by omega) (by omega), by have := Int.mul_le_mul (show d - c ≤ 1000 by omega) hW1 (by omega) (by omega); omega⟩
    refine aw_rV (cs' := 0) (sl' := 0) (pc' := 68) (idx := 133) (as := [vr 9 k, vl (c * W2)]) (st := []) (m_B_addAll (nn := 0) hA A hm1 (mkR_0 (f := ff) (g := gg)) (by omega)) (by decide +kernel) (show vOK "ChanceBench" 133 M_B_addAll 2 = true by decide +kernel) rfl rfl rfl (Nat.le_of_ble_eq_true rfl) (by decide) (by decide) (by decide) rfl rfl rfl (fun r65 h65 z65 => ?_)
    obtain ⟨rfl, nn2, rr2, ff2, gg2, R2, rfl⟩ := z65
    refine aw_blk (pc' := 76) (ls' := [some (vr 0 0), some (vi a), some (vi e), some (vi B), some (vi c), some (vi d), some (vr 9 k), some (vr 9 q)]) (st' := [vi (d - c), vr 9 q, vr 0 0]) [.inl (.aload_n 0), .inl (.aload 7), .inl (.iload 5), .inl (.iload 4), .inl (.isub)] 68 _ _ (by decide +kernel) rfl ?_
    refine aw_i2l (by decide +kernel) (by omega) ?_
    refine aw_blk (pc' := 79) (ls' := [some (vr 0 0), some (vi a), some (vi e), some (vi B), some (vi c), some (vi d), some (vr 9 k), some (vr 9 q)]) (st' := [vr 9 k, vl (d - c), vr 9 q, vr 0 0]) [.inl (.aload 6)] 77 _ _ (by decide +kernel) rfl ?_
    refine aw_get (idx := 130) (ci := 9) (f := 2) (by decide +kernel) (by decide +kernel) hA.1 rfl ?_
    refine aw_i2l (by decide +kernel) (by omega) ?_
    refine aw_blk (pc' := 84) (ls' := [some (vr 0 0), some (vi a), some (vi e), some (vi B), some (vi c), some (vi d), some (vr 9 k), some (vr 9 q)]) (st' := [vl ((d - c) * W), vr 9 q, vr 0 0]) [.inl (.lmul)] 83 _ _ (by decide +kernel) rfl ?_
    refine aw_rV (cs' := 0) (sl' := 0) (pc' := 87) (idx := 133) (as := [vr 9 q, vl ((d - c) * W)]) (st := []) (m_B_addAll hA2 A2 hm2 R2 (by omega)) (by decide +kernel) (show vOK "ChanceBench" 133 M_B_addAll 2 = true by decide +kernel) rfl rfl rfl (Nat.le_of_ble_eq_true rfl) (by decide) (by decide) (by decide) rfl rfl rfl (fun r84 h84 z84 => ?_)
    obtain ⟨rfl, nn3, rr3, ff3, gg3, R3, rfl⟩ := z84
    have R9 := R3.eq (T' := fun u => den at_ (fun i => wt i * (c * W2)) n u + den at2 (fun i => wt2 i * ((d - c) * W)) m u) (by' := ¬ ((1 ≤ d ∧ d ≤ 1000) ∧ (0 ≤ c ∧ c ≤ d)) ∨ byd at_ (fun i => wt i * (c * W2)) n ∨ byd at2 (fun i => wt2 i * ((d - c) * W)) m) (Int.le_refl _) (fun u _ => by show 0 + den at_ (fun i => wt i * (c * W2)) n u + den at2 (fun i => wt2 i * ((d - c) * W)) m u = _; omega) ⟨fun z => Or.inr (z.elim (fun z => Or.inl (z.elim False.elim id)) Or.inr), fun z => z.elim (fun z => absurd hv z) (fun z => z.elim (fun z => Or.inl (Or.inr z)) Or.inr)⟩
    refine aw_blk (pc' := 89) (ls' := [some (vr 0 0), some (vi a), some (vi e), some (vi B), some (vi c), some (vi d), some (vr 9 k), some (vr 9 q)]) (st' := [vi a, vr 0 0]) [.inl (.aload_n 0), .inl (.iload_n 1)] 87 _ _ (by decide +kernel) rfl ?_
    refine aw_rV (cs' := 3) (sl' := 51) (pc' := 92) (idx := 95) (as := [vi a]) (st := []) (m_B_settle ha (R9) (by omega) ho hd hl) (by decide +kernel) (show vOK "ChanceBench" 95 M_B_settle 1 = true by decide +kernel) rfl rfl rfl (Nat.le_of_ble_eq_true rfl) (by decide) (by decide) (by decide) rfl rfl rfl (fun r89 h89 z89 => ?_)
    rcases z89 with ⟨rfl, h1, rfl⟩ | ⟨rfl, h1, h2, m9, a9, w9, W9, h3, rfl⟩
    · exact aw_zret (by decide +kernel) rfl (by decide) (by decide) (by omega) (hq _ _ ⟨nn3, rr3, ff3, gg3, Or.inl ⟨rfl, h1, rfl⟩⟩)
    · exact aw_zret (by decide +kernel) rfl (by decide) (by decide) (by omega) (hq _ _ ⟨nn3, rr3, ff3, gg3, Or.inr ⟨rfl, h1, h2, m9, a9, w9, W9, h3, rfl⟩⟩)
  · rw [if_neg hv]
    refine aw_if_ne (o := 5) (tgt := 45) (by decide +kernel) (by decide) (by omega) (fun c => absurd (by omega) c) (fun _ => ?_)
    refine aw_blk (pc' := 44) (ls' := [some (vr 0 0), some (vi a), some (vi e), some (vi B), some (vi c), some (vi d), some (vr 9 k), some (vr 9 q)]) (st' := [vi 0]) [.inl (.iconst 0)] 43 _ _ (by decide +kernel) rfl ?_
    exact aw_zret (by decide +kernel) rfl (by decide) (by decide) (by omega) (hq _ _ ⟨nn, rr, ff, gg, Or.inl ⟨rfl, fun z => z.2.1 (Or.inl hv), rfl⟩⟩)

theorem m_B_mix_0 (hI : I32 e ∧ I32 B) (hl1 : lawAt laws e = none) : ADet G M_B_mix [vr 0 0, vi a, vi e, vi B, vi c, vi d] (Hp (sgB bd tk) (sgS laws slot ahead made (od : Int) (dn : Int) (un : Int)) t (sgK (nn : Int) rr ff gg) df jo tr di mo dy) (some (vi 0)) (Hp (sgB bd tk) (sgS laws slot ahead made (od : Int) (dn : Int) (un : Int)) t (sgK (nn : Int) rr ff gg) df jo tr di mo dy) := by
  refine am_det (by decide +kernel) (Nat.le_of_ble_eq_true rfl) (fun Qr Qt hq => ?_)
  refine aw_blk (pc' := 5) (ls' := [some (vr 0 0), some (vi a), some (vi e), some (vi B), some (vi c), some (vi d), none, none]) (st' := [vi e, vr 1 0]) [.inl (.aload_n 0), .inr (10, 0, 0), .inl (.iload_n 2)] 0 _ _ (by decide +kernel) rfl ?_
  refine aw_dV (cs' := 0) (sl' := 0) (pc' := 8) (st' := [vo (lawAt laws e)]) (idx := 117) (as := [vi e]) (st := []) (m_S_lawIn hI.1) (by decide +kernel) (show vOK "ChanceBench" 117 M_S_lawIn 1 = true by decide +kernel) rfl rfl rfl (Nat.le_of_ble_eq_true rfl) (by decide) (by decide) (by decide) rfl rfl rfl rfl ?_
  rw [hl1]
  refine aw_blk (pc' := 15) (ls' := [some (vr 0 0), some (vi a), some (vi e), some (vi B), some (vi c), some (vi d), some (vn), none]) (st' := [vi B, vr 1 0]) [.inl (.astore 6), .inl (.aload_n 0), .inr (10, 0, 0), .inl (.iload_n 3)] 8 _ _ (by decide +kernel) rfl ?_
  refine aw_dV (cs' := 0) (sl' := 0) (pc' := 18) (st' := [vo (lawAt laws B)]) (idx := 117) (as := [vi B]) (st := []) (m_S_lawIn hI.2) (by decide +kernel) (show vOK "ChanceBench" 117 M_S_lawIn 1 = true by decide +kernel) rfl rfl rfl (Nat.le_of_ble_eq_true rfl) (by decide) (by decide) (by decide) rfl rfl rfl rfl ?_
  refine aw_blk (pc' := 22) (ls' := [some (vr 0 0), some (vi a), some (vi e), some (vi B), some (vi c), some (vi d), some (vn), some (vo (lawAt laws B))]) (st' := [vn]) [.inl (.astore 7), .inl (.aload 6)] 18 _ _ (by decide +kernel) rfl ?_
  refine aw_ifnull (o := 21) (tgt := 43) (by decide +kernel) (by decide) (fun _ => ?_) (fun _ z => nomatch z)
  refine aw_blk (pc' := 44) (ls' := [some (vr 0 0), some (vi a), some (vi e), some (vi B), some (vi c), some (vi d), some (vn), some (vo (lawAt laws B))]) (st' := [vi 0]) [.inl (.iconst 0)] 43 _ _ (by decide +kernel) rfl ?_
  exact aw_zret (by decide +kernel) rfl (by decide) (by decide) (by omega) (hq _ _ rfl rfl)

theorem m_B_mix_1 (hI : I32 e ∧ I32 B) (hl1 : lawAt laws e = some (9, k)) (hl2 : lawAt laws B = none) : ADet G M_B_mix [vr 0 0, vi a, vi e, vi B, vi c, vi d] (Hp (sgB bd tk) (sgS laws slot ahead made (od : Int) (dn : Int) (un : Int)) t (sgK (nn : Int) rr ff gg) df jo tr di mo dy) (some (vi 0)) (Hp (sgB bd tk) (sgS laws slot ahead made (od : Int) (dn : Int) (un : Int)) t (sgK (nn : Int) rr ff gg) df jo tr di mo dy) := by
  refine am_det (by decide +kernel) (Nat.le_of_ble_eq_true rfl) (fun Qr Qt hq => ?_)
  refine aw_blk (pc' := 5) (ls' := [some (vr 0 0), some (vi a), some (vi e), some (vi B), some (vi c), some (vi d), none, none]) (st' := [vi e, vr 1 0]) [.inl (.aload_n 0), .inr (10, 0, 0), .inl (.iload_n 2)] 0 _ _ (by decide +kernel) rfl ?_
  refine aw_dV (cs' := 0) (sl' := 0) (pc' := 8) (st' := [vo (lawAt laws e)]) (idx := 117) (as := [vi e]) (st := []) (m_S_lawIn hI.1) (by decide +kernel) (show vOK "ChanceBench" 117 M_S_lawIn 1 = true by decide +kernel) rfl rfl rfl (Nat.le_of_ble_eq_true rfl) (by decide) (by decide) (by decide) rfl rfl rfl rfl ?_
  rw [hl1]
  refine aw_blk (pc' := 15) (ls' := [some (vr 0 0), some (vi a), some (vi e), some (vi B), some (vi c), some (vi d), some (vr 9 k), none]) (st' := [vi B, vr 1 0]) [.inl (.astore 6), .inl (.aload_n 0), .inr (10, 0, 0), .inl (.iload_n 3)] 8 _ _ (by decide +kernel) rfl ?_
  refine aw_dV (cs' := 0) (sl' := 0) (pc' := 18) (st' := [vo (lawAt laws B)]) (idx := 117) (as := [vi B]) (st := []) (m_S_lawIn hI.2) (by decide +kernel) (show vOK "ChanceBench" 117 M_S_lawIn 1 = true by decide +kernel) rfl rfl rfl (Nat.le_of_ble_eq_true rfl) (by decide) (by decide) (by decide) rfl rfl rfl rfl ?_
  rw [hl2]
  refine aw_blk (pc' := 22) (ls' := [some (vr 0 0), some (vi a), some (vi e), some (vi B), some (vi c), some (vi d), some (vr 9 k), some (vn)]) (st' := [vr 9 k]) [.inl (.astore 7), .inl (.aload 6)] 18 _ _ (by decide +kernel) rfl ?_
  refine aw_ifnull (o := 21) (tgt := 43) (by decide +kernel) (by decide) (fun z => nomatch z) (fun _ _ => ?_)
  refine aw_blk (pc' := 27) (ls' := [some (vr 0 0), some (vi a), some (vi e), some (vi B), some (vi c), some (vi d), some (vr 9 k), some (vn)]) (st' := [vn]) [.inl (.aload 7)] 25 _ _ (by decide +kernel) rfl ?_
  refine aw_ifnull (o := 16) (tgt := 43) (by decide +kernel) (by decide) (fun _ => ?_) (fun _ z => nomatch z)
  refine aw_blk (pc' := 44) (ls' := [some (vr 0 0), some (vi a), some (vi e), some (vi B), some (vi c), some (vi d), some (vr 9 k), some (vn)]) (st' := [vi 0]) [.inl (.iconst 0)] 43 _ _ (by decide +kernel) rfl ?_
  exact aw_zret (by decide +kernel) rfl (by decide) (by decide) (by omega) (hq _ _ rfl rfl)

end
end
section
theorem jnd_in {d v w : Int} (hv : inR v) (hw : inR w) : -2000 ≤ jnd d v w ∧ jnd d v w ≤ 2000 := by
  unfold jnd sg
  split
  · split <;> omega
  · split
    · split <;> omega
    · split
      · split
        · omega
        · split <;> omega
      · omega
abbrev Vj (d : Int) (at_ at2 : Nat → Int) (i : Nat) : Nat → Int := fun j => jnd d (at_ i) (at2 j)
abbrev Cj (wt wt2 : Nat → Int) (i : Nat) : Nat → Int := fun j => wt i * wt2 j
def T2 (d : Int) (at_ wt at2 wt2 : Nat → Int) (m n : Nat) (u : Int) : Int := sumZ (fun i => den (Vj d at_ at2 i) (Cj wt wt2 i) m u) n
def B2 (d : Int) (at_ wt at2 wt2 : Nat → Int) (m n : Nat) : Prop := ∃ i, i < n ∧ byd (Vj d at_ at2 i) (Cj wt wt2 i) m
theorem B2_s {d : Int} {at_ wt at2 wt2 : Nat → Int} {m n : Nat} : B2 d at_ wt at2 wt2 m (n + 1) ↔ B2 d at_ wt at2 wt2 m n ∨ byd (Vj d at_ at2 n) (Cj wt wt2 n) m := by
  constructor
  · rintro ⟨k, h1, h2⟩
    rcases Nat.lt_or_ge k n with z | z
    · exact Or.inl ⟨k, z, h2⟩
    · have : k = n := by omega
      subst this; exact Or.inr h2
  · rintro (⟨k, h1, h2⟩ | h)
    · exact ⟨k, by omega, h2⟩
    · exact ⟨n, by omega, h⟩
section
variable {G : GT} {h : HT} {b s t mk df jo tr di mo dy : SG} {a c d e B bd tk : Int} {n m k k1 k2 q q1 q2 j nn len : Nat} {f g ff gg ft at_ wt at2 wt2 : Nat → Int} {rf rr W W2 : Int} {T : Int → Int} {by_ : Prop} {laws ahead made : Nat → Option (Nat × Nat)} {slot : Nat → Int} {od dn un : Nat}
theorem m_B_settleOfBoth (ha : I32 a) (hI : I32 e ∧ I32 B) (hd4 : 0 ≤ d ∧ d ≤ 3) (hl1 : lawAt laws e = some (9, k)) (hl2 : lawAt laws B = some (9, q)) (hA : isD dy k k1 k2 n at_ wt W) (A : lwN n at_ wt W) (hA2 : isD dy q q1 q2 m at2 wt2 W2) (A2 : lwN m at2 wt2 W2) (ho : od < 30) (hd : dn ≤ 30) (hl : lwOK dy laws) : AMet G M_B_settleOfBoth [vr 0 0, vi a, vi e, vi B, vi d] (Hp (sgB bd tk) (sgS laws slot ahead made (od : Int) (dn : Int) (un : Int)) t (sgK (nn : Int) rr ff gg) df jo tr di mo dy) (fun r h => ∃ (nn : Nat) (rr : Int) (ff gg : Nat → Int), stl laws slot ahead made od dn un bd tk t (sgK (nn : Int) rr ff gg) df jo tr di mo dy a (T2 d at_ wt at2 wt2 m n) (B2 d at_ wt at2 wt2 m n) r h) (fun _ => False) := by
  refine am_rel (by decide +kernel) (Nat.le_of_ble_eq_true rfl) (fun Qr Qt hq => ?_)
  have hn := A.1
  have hm := A2.1
  refine aw_blk (pc' := 5) (ls' := [some (vr 0 0), some (vi a), some (vi e), some (vi B), some (vi d), none, none, none, none]) (st' := [vi e, vr 1 0]) [.inl (.aload_n 0), .inr (10, 0, 0), .inl (.iload_n 2)] 0 _ _ (by decide +kernel) rfl ?_
  refine aw_dV (cs' := 0) (sl' := 0) (pc' := 8) (st' := [vo (lawAt laws e)]) (idx := 117) (as := [vi e]) (st := []) (m_S_lawIn hI.1) (by decide +kernel) (show vOK "ChanceBench" 117 M_S_lawIn 1 = true by decide +kernel) rfl rfl rfl (Nat.le_of_ble_eq_true rfl) (by decide) (by decide) (by decide) rfl rfl rfl rfl ?_
  rw [hl1]
  refine aw_blk (pc' := 15) (ls' := [some (vr 0 0), some (vi a), some (vi e), some (vi B), some (vi d), some (vr 9 k), none, none, none]) (st' := [vi B, vr 1 0]) [.inl (.astore 5), .inl (.aload_n 0), .inr (10, 0, 0), .inl (.iload_n 3)] 8 _ _ (by decide +kernel) rfl ?_
  refine aw_dV (cs' := 0) (sl' := 0) (pc' := 18) (st' := [vo (lawAt laws B)]) (idx := 117) (as := [vi B]) (st := []) (m_S_lawIn hI.2) (by decide +kernel) (show vOK "ChanceBench" 117 M_S_lawIn 1 = true by decide +kernel) rfl rfl rfl (Nat.le_of_ble_eq_true rfl) (by decide) (by decide) (by decide) rfl rfl rfl rfl ?_
  rw [hl2]
  refine aw_blk (pc' := 22) (ls' := [some (vr 0 0), some (vi a), some (vi e), some (vi B), some (vi d), some (vr 9 k), some (vr 9 q), none, none]) (st' := [vr 9 k]) [.inl (.astore 6), .inl (.aload 5)] 18 _ _ (by decide +kernel) rfl ?_
  refine aw_ifnull (o := 8) (tgt := 30) (by decide +kernel) (by decide) (fun z => nomatch z) (fun _ _ => ?_)
  refine aw_blk (pc' := 27) (ls' := [some (vr 0 0), some (vi a), some (vi e), some (vi B), some (vi d), some (vr 9 k), some (vr 9 q), none, none]) (st' := [vr 9 q]) [.inl (.aload 6)] 25 _ _ (by decide +kernel) rfl ?_
  refine aw_ifnonnull (o := 5) (tgt := 32) (by decide +kernel) (by decide) (fun _ _ => ?_) (fun z => nomatch z)
  refine aw_blk (pc' := 36) (ls' := [some (vr 0 0), some (vi a), some (vi e), some (vi B), some (vi d), some (vr 9 k), some (vr 9 q), none, none]) (st' := [vr 3 0]) [.inl (.aload_n 0), .inr (26, 0, 2)] 32 _ _ (by decide +kernel) rfl ?_
  refine aw_dV (cs' := 0) (sl' := 0) (pc' := 39) (st' := []) (idx := 81) (as := []) (st := []) (m_K_clear) (by decide +kernel) (show vOK "ChanceBench" 81 M_K_clear 0 = true by decide +kernel) rfl rfl rfl (Nat.le_of_ble_eq_true rfl) (by decide) (by decide) (by decide) rfl rfl rfl rfl ?_
  refine aw_blk (pc' := 42) (ls' := [some (vr 0 0), some (vi a), some (vi e), some (vi B), some (vi d), some (vr 9 k), some (vr 9 q), some (vi 0), none]) (st' := []) [.inl (.iconst 0), .inl (.istore 7)] 39 _ _ (by decide +kernel) rfl ?_
  refine up_to (W := fun i : Nat => ∀ (nn : Nat) (rr : Int) (ff gg : Nat → Int), mkR ((i : Int) * 26388279066624) (T2 d at_ wt at2 wt2 m i) (B2 d at_ wt at2 wt2 m i) nn rr ff gg → AW G M_B_settleOfBoth Qr Qt 0 0 42 [some (vr 0 0), some (vi a), some (vi e), some (vi B), some (vi d), some (vr 9 k), some (vr 9 q), some (vi (i : Int)), none] [] (Hp [some (ob 0 [vr 1 0, vr 2 0, vr 3 0, vr 4 0, vr 5 0, vr 6 0, vr 7 0, vi bd, vi tk])] [some (ob 1 [vr 1 1, vr 1 2, vr 1 3, vr 1 4, vi (od : Int), vi (dn : Int), vi (un : Int)]), some (rs 16 laws), some (ar 0 30 slot), some (rs 30 ahead), some (rs 30 made)] t [some (ob 3 [vr 3 1, vr 3 2, vi (nn : Int), vi rr]), some (ar 0 24 ff), some (ar 1 24 gg)] df jo tr di mo dy)) n ?_ (fun i hi ih => ?_) 0 (by omega) _ _ _ _ (show mkR (((0 : Nat) : Int) * 26388279066624) (T2 d at_ wt at2 wt2 m 0) (B2 d at_ wt at2 wt2 m 0) 0 0 ff gg from mkR_0.eq (by omega) (fun u _ => rfl) ⟨False.elim, fun ⟨i, h, _⟩ => by omega⟩)
  · intro nn rr ff gg R
    refine aw_blk (pc' := 46) (ls' := [some (vr 0 0), some (vi a), some (vi e), some (vi B), some (vi d), some (vr 9 k), some (vr 9 q), some (vi (n : Int)), none]) (st' := [vr 9 k, vi (n : Int)]) [.inl (.iload 7), .inl (.aload 5)] 42 _ _ (by decide +kernel) rfl ?_
    refine aw_get (idx := 121) (ci := 9) (f := 0) (by decide +kernel) (by decide +kernel) hA.1 rfl ?_
    refine aw_alen (by decide +kernel) hA.2.1 (fun r49 => ?_)
    refine aw_icmp_ge (o := 77) (tgt := 127) (by decide +kernel) (by decide) (by omega) (by omega) (fun _ => ?_) (fun c => absurd (by omega) c)
    refine aw_blk (pc' := 129) (ls' := [some (vr 0 0), some (vi a), some (vi e), some (vi B), some (vi d), some (vr 9 k), some (vr 9 q), some (vi (n : Int)), none]) (st' := [vi a, vr 0 0]) [.inl (.aload_n 0), .inl (.iload_n 1)] 127 _ _ (by decide +kernel) rfl ?_
    refine aw_rV (cs' := 3) (sl' := 51) (pc' := 132) (idx := 95) (as := [vi a]) (st := []) (m_B_settle ha (R) (by omega) ho hd hl) (by decide +kernel) (show vOK "ChanceBench" 95 M_B_settle 1 = true by decide +kernel) rfl rfl rfl (Nat.le_of_ble_eq_true rfl) (by decide) (by decide) (by decide) rfl rfl rfl (fun r129 h129 z129 => ?_)
    rcases z129 with ⟨rfl, h1, rfl⟩ | ⟨rfl, h1, h2, m9, a9, w9, W9, h3, rfl⟩
    · exact aw_zret (by decide +kernel) rfl (by decide) (by decide) (by omega) (hq _ _ ⟨nn, rr, ff, gg, Or.inl ⟨rfl, h1, rfl⟩⟩)
    · exact aw_zret (by decide +kernel) rfl (by decide) (by decide) (by omega) (hq _ _ ⟨nn, rr, ff, gg, Or.inr ⟨rfl, h1, h2, m9, a9, w9, W9, h3, rfl⟩⟩)
  · intro nn rr ff gg R
    have ihO := ih
    have hai := A.2.2.1 i hi
    have hW := A.2.2.2.2.1
    have hW2 := A2.2.2.2.2.1
    refine aw_blk (pc' := 46) (ls' := [some (vr 0 0), some (vi a), some (vi e), some (vi B), some (vi d), some (vr 9 k), some (vr 9 q), some (vi (i : Int)), none]) (st' := [vr 9 k, vi (i : Int)]) [.inl (.iload 7), .inl (.aload 5)] 42 _ _ (by decide +kernel) rfl ?_
    refine aw_get (idx := 121) (ci := 9) (f := 0) (by decide +kernel) (by decide +kernel) hA.1 rfl ?_
    refine aw_alen (by decide +kernel) hA.2.1 (fun r49 => ?_)
    refine aw_icmp_ge (o := 77) (tgt := 127) (by decide +kernel) (by decide) (by omega) (by omega) (fun c => absurd c (by omega)) (fun _ => ?_)
    refine aw_blk (pc' := 56) (ls' := [some (vr 0 0), some (vi a), some (vi e), some (vi B), some (vi d), some (vr 9 k), some (vr 9 q), some (vi (i : Int)), some (vi 0)]) (st' := []) [.inl (.iconst 0), .inl (.istore 8)] 53 _ _ (by decide +kernel) rfl ?_
    refine up_to (W := fun j : Nat => ∀ (nn : Nat) (rr : Int) (ff gg : Nat → Int), mkR ((i : Int) * 26388279066624 + (j : Int) * 1099511627776) (fun u => T2 d at_ wt at2 wt2 m i u + den (Vj d at_ at2 i) (Cj wt wt2 i) j u) (B2 d at_ wt at2 wt2 m i ∨ byd (Vj d at_ at2 i) (Cj wt wt2 i) j) nn rr ff gg → AW G M_B_settleOfBoth Qr Qt 0 0 56 [some (vr 0 0), some (vi a), some (vi e), some (vi B), some (vi d), some (vr 9 k), some (vr 9 q), some (vi (i : Int)), some (vi (j : Int))] [] (Hp [some (ob 0 [vr 1 0, vr 2 0, vr 3 0, vr 4 0, vr 5 0, vr 6 0, vr 7 0, vi bd, vi tk])] [some (ob 1 [vr 1 1, vr 1 2, vr 1 3, vr 1 4, vi (od : Int), vi (dn : Int), vi (un : Int)]), some (rs 16 laws), some (ar 0 30 slot), some (rs 30 ahead), some (rs 30 made)] t [some (ob 3 [vr 3 1, vr 3 2, vi (nn : Int), vi rr]), some (ar 0 24 ff), some (ar 1 24 gg)] df jo tr di mo dy)) m ?_ (fun j hj ih => ?_) 0 (by omega) _ _ _ _ (show mkR ((i : Int) * 26388279066624 + ((0 : Nat) : Int) * 1099511627776) _ _ nn rr ff gg from R.z.eq (by omega) (fun _ _ => rfl) Iff.rfl)
    · intro nn rr ff gg R
      refine aw_blk (pc' := 60) (ls' := [some (vr 0 0), some (vi a), some (vi e), some (vi B), some (vi d), some (vr 9 k), some (vr 9 q), some (vi (i : Int)), some (vi (m : Int))]) (st' := [vr 9 q, vi (m : Int)]) [.inl (.iload 8), .inl (.aload 6)] 56 _ _ (by decide +kernel) rfl ?_
      refine aw_get (idx := 121) (ci := 9) (f := 0) (by decide +kernel) (by decide +kernel) hA2.1 rfl ?_
      refine aw_alen (by decide +kernel) hA2.2.1 (fun r63 => ?_)
      refine aw_icmp_ge (o := 57) (tgt := 121) (by decide +kernel) (by decide) (by omega) (by omega) (fun _ => ?_) (fun c => absurd (by omega) c)
      refine aw_blk (pc' := 124) (ls' := [some (vr 0 0), some (vi a), some (vi e), some (vi B), some (vi d), some (vr 9 k), some (vr 9 q), some (vi ((i : Int) + 1)), some (vi (m : Int))]) (st' := []) [.inl (.iinc 7 1)] 121 _ _ (by decide +kernel) rfl ?_
      refine aw_goto (o := -82) (tgt := 42) (by decide +kernel) (by decide) ?_
      refine aw_ls (ls' := [some (vr 0 0), some (vi a), some (vi e), some (vi B), some (vi d), some (vr 9 k), some (vr 9 q), some (vi ((i : Int) + 1)), none]) (lsk_s (lsk_s (lsk_s (lsk_s (lsk_s (lsk_s (lsk_s (lsk_s (lsk_n lsk_0))))))))) ?_
      exact ihO _ _ _ _ (R.eq (by omega) (fun u _ => rfl) B2_s.symm)
    · intro nn rr ff gg R
      have haj := A2.2.2.1 j hj
      have hv := jnd_in (d := d) hai.1 haj.1
      have hmu := mulB (x := wt i) (y := wt2 j) (by omega) (by omega) (by omega) (by omega)
      refine aw_blk (pc' := 60) (ls' := [some (vr 0 0), some (vi a), some (vi e), some (vi B), some (vi d), some (vr 9 k), some (vr 9 q), some (vi (i : Int)), some (vi (j : Int))]) (st' := [vr 9 q, vi (j : Int)]) [.inl (.iload 8), .inl (.aload 6)] 56 _ _ (by decide +kernel) rfl ?_
      refine aw_get (idx := 121) (ci := 9) (f := 0) (by decide +kernel) (by decide +kernel) hA2.1 rfl ?_
      refine aw_alen (by decide +kernel) hA2.2.1 (fun r63 => ?_)
      refine aw_icmp_ge (o := 57) (tgt := 121) (by decide +kernel) (by decide) (by omega) (by omega) (fun c => absurd c (by omega)) (fun _ => ?_)
      refine aw_blk (pc' := 73) (ls' := [some (vr 0 0), some (vi a), some (vi e), some (vi B), some (vi d), some (vr 9 k), some (vr 9 q), some (vi (i : Int)), some (vi (j : Int))]) (st' := [vr 9 k, vr 3 0]) [.inl (.aload_n 0), .inr (26, 0, 2), .inl (.aload 5)] 67 _ _ (by decide +kernel) rfl ?_
      refine aw_get (idx := 121) (ci := 9) (f := 0) (by decide +kernel) (by decide +kernel) hA.1 rfl ?_
      refine aw_blk (pc' := 78) (ls' := [some (vr 0 0), some (vi a), some (vi e), some (vi B), some (vi d), some (vr 9 k), some (vr 9 q), some (vi (i : Int)), some (vi (j : Int))]) (st' := [vi (i : Int), vr 9 k1, vr 3 0]) [.inl (.iload 7)] 76 _ _ (by decide +kernel) rfl ?_
      refine aw_iald (j := i) (by decide +kernel) hA.2.1 (by omega) (by omega) (fun r78 => ?_)
      refine aw_blk (pc' := 81) (ls' := [some (vr 0 0), some (vi a), some (vi e), some (vi B), some (vi d), some (vr 9 k), some (vr 9 q), some (vi (i : Int)), some (vi (j : Int))]) (st' := [vr 9 q, vi (at_ i), vr 3 0]) [.inl (.aload 6)] 79 _ _ (by decide +kernel) rfl ?_
      refine aw_get (idx := 121) (ci := 9) (f := 0) (by decide +kernel) (by decide +kernel) hA2.1 rfl ?_
      refine aw_blk (pc' := 86) (ls' := [some (vr 0 0), some (vi a), some (vi e), some (vi B), some (vi d), some (vr 9 k), some (vr 9 q), some (vi (i : Int)), some (vi (j : Int))]) (st' := [vi (j : Int), vr 9 q1, vi (at_ i), vr 3 0]) [.inl (.iload 8)] 84 _ _ (by decide +kernel) rfl ?_
      refine aw_iald (j := j) (by decide +kernel) hA2.2.1 (by omega) (by omega) (fun r86 => ?_)
      refine aw_blk (pc' := 89) (ls' := [some (vr 0 0), some (vi a), some (vi e), some (vi B), some (vi d), some (vr 9 k), some (vr 9 q), some (vi (i : Int)), some (vi (j : Int))]) (st' := [vi d, vi (at2 j), vi (at_ i), vr 3 0]) [.inl (.iload 4)] 87 _ _ (by decide +kernel) rfl ?_
      refine aw_dS (cs' := 0) (sl' := 0) (pc' := 92) (st' := [vi (jnd d (at_ i) (at2 j)), vr 3 0]) (idx := 272) (as := [vi (at_ i), vi (at2 j), vi d]) (st := [vr 3 0]) (m_B_joined (by omega) (by omega) hd4) (by decide +kernel) (show sOK "ChanceBench" 272 M_B_joined 3 = true by decide +kernel) rfl (Nat.le_of_ble_eq_true rfl) (by decide) (by decide) (by decide) rfl rfl rfl rfl ?_
      refine aw_i2l (by decide +kernel) (by omega) ?_
      refine aw_blk (pc' := 95) (ls' := [some (vr 0 0), some (vi a), some (vi e), some (vi B), some (vi d), some (vr 9 k), some (vr 9 q), some (vi (i : Int)), some (vi (j : Int))]) (st' := [vr 9 k, vl (jnd d (at_ i) (at2 j)), vr 3 0]) [.inl (.aload 5)] 93 _ _ (by decide +kernel) rfl ?_
      refine aw_get (idx := 127) (ci := 9) (f := 1) (by decide +kernel) (by decide +kernel) hA.1 rfl ?_
      refine aw_blk (pc' := 100) (ls' := [some (vr 0 0), some (vi a), some (vi e), some (vi B), some (vi d), some (vr 9 k), some (vr 9 q), some (vi (i : Int)), some (vi (j : Int))]) (st' := [vi (i : Int), vr 9 k2, vl (jnd d (at_ i) (at2 j)), vr 3 0]) [.inl (.iload 7)] 98 _ _ (by decide +kernel) rfl ?_
      refine aw_iald (j := i) (by decide +kernel) hA.2.2 (by omega) (by omega) (fun r100 => ?_)
      refine aw_i2l (by decide +kernel) (by omega) ?_
      refine aw_blk (pc' := 104) (ls' := [some (vr 0 0), some (vi a), some (vi e), some (vi B), some (vi d), some (vr 9 k), some (vr 9 q), some (vi (i : Int)), some (vi (j : Int))]) (st' := [vr 9 q, vl (wt i), vl (jnd d (at_ i) (at2 j)), vr 3 0]) [.inl (.aload 6)] 102 _ _ (by decide +kernel) rfl ?_
      refine aw_get (idx := 127) (ci := 9) (f := 1) (by decide +kernel) (by decide +kernel) hA2.1 rfl ?_
      refine aw_blk (pc' := 109) (ls' := [some (vr 0 0), some (vi a), some (vi e), some (vi B), some (vi d), some (vr 9 k), some (vr 9 q), some (vi (i : Int)), some (vi (j : Int))]) (st' := [vi (j : Int), vr 9 q2, vl (wt i), vl (jnd d (at_ i) (at2 j)), vr 3 0]) [.inl (.iload 8)] 107 _ _ (by decide +kernel) rfl ?_
      refine aw_iald (j := j) (by decide +kernel) hA2.2.2 (by omega) (by omega) (fun r109 => ?_)
      refine aw_i2l (by decide +kernel) (by omega) ?_
      refine aw_blk (pc' := 112) (ls' := [some (vr 0 0), some (vi a), some (vi e), some (vi B), some (vi d), some (vr 9 k), some (vr 9 q), some (vi (i : Int)), some (vi (j : Int))]) (st' := [vl ((wt i) * (wt2 j)), vl (jnd d (at_ i) (at2 j)), vr 3 0]) [.inl (.lmul)] 111 _ _ (by decide +kernel) rfl ?_
      refine aw_rV (cs' := 0) (sl' := 0) (pc' := 115) (idx := 88) (as := [vl (jnd d (at_ i) (at2 j)), vl ((wt i) * (wt2 j))]) (st := []) (m_K_addR R (by omega) (by omega) (by omega)) (by decide +kernel) (show vOK "ChanceBench" 88 M_K_add 2 = true by decide +kernel) rfl rfl rfl (Nat.le_of_ble_eq_true rfl) (by decide) (by decide) (by decide) rfl rfl rfl (fun r112 h112 z112 => ?_)
      obtain ⟨rfl, nn2, rr2, ff2, gg2, R2, rfl⟩ := z112
      refine aw_blk (pc' := 118) (ls' := [some (vr 0 0), some (vi a), some (vi e), some (vi B), some (vi d), some (vr 9 k), some (vr 9 q), some (vi (i : Int)), some (vi ((j : Int) + 1))]) (st' := []) [.inl (.iinc 8 1)] 115 _ _ (by decide +kernel) rfl ?_
      refine aw_goto (o := -62) (tgt := 56) (by decide +kernel) (by decide) ?_
      exact ih _ _ _ _ (R2.s (V := Vj d at_ at2 i) (C := Cj wt wt2 i) (by show _ + wt i * wt2 j ≤ _; omega))

theorem m_B_settleOfBoth_0 (hI : I32 e ∧ I32 B) (hl1 : lawAt laws e = none) : ADet G M_B_settleOfBoth [vr 0 0, vi a, vi e, vi B, vi d] (Hp (sgB bd tk) (sgS laws slot ahead made (od : Int) (dn : Int) (un : Int)) t (sgK (nn : Int) rr ff gg) df jo tr di mo dy) (some (vi 0)) (Hp (sgB bd tk) (sgS laws slot ahead made (od : Int) (dn : Int) (un : Int)) t (sgK (nn : Int) rr ff gg) df jo tr di mo dy) := by
  refine am_det (by decide +kernel) (Nat.le_of_ble_eq_true rfl) (fun Qr Qt hq => ?_)
  refine aw_blk (pc' := 5) (ls' := [some (vr 0 0), some (vi a), some (vi e), some (vi B), some (vi d), none, none, none, none]) (st' := [vi e, vr 1 0]) [.inl (.aload_n 0), .inr (10, 0, 0), .inl (.iload_n 2)] 0 _ _ (by decide +kernel) rfl ?_
  refine aw_dV (cs' := 0) (sl' := 0) (pc' := 8) (st' := [vo (lawAt laws e)]) (idx := 117) (as := [vi e]) (st := []) (m_S_lawIn hI.1) (by decide +kernel) (show vOK "ChanceBench" 117 M_S_lawIn 1 = true by decide +kernel) rfl rfl rfl (Nat.le_of_ble_eq_true rfl) (by decide) (by decide) (by decide) rfl rfl rfl rfl ?_
  rw [hl1]
  refine aw_blk (pc' := 15) (ls' := [some (vr 0 0), some (vi a), some (vi e), some (vi B), some (vi d), some (vn), none, none, none]) (st' := [vi B, vr 1 0]) [.inl (.astore 5), .inl (.aload_n 0), .inr (10, 0, 0), .inl (.iload_n 3)] 8 _ _ (by decide +kernel) rfl ?_
  refine aw_dV (cs' := 0) (sl' := 0) (pc' := 18) (st' := [vo (lawAt laws B)]) (idx := 117) (as := [vi B]) (st := []) (m_S_lawIn hI.2) (by decide +kernel) (show vOK "ChanceBench" 117 M_S_lawIn 1 = true by decide +kernel) rfl rfl rfl (Nat.le_of_ble_eq_true rfl) (by decide) (by decide) (by decide) rfl rfl rfl rfl ?_
  refine aw_blk (pc' := 22) (ls' := [some (vr 0 0), some (vi a), some (vi e), some (vi B), some (vi d), some (vn), some (vo (lawAt laws B)), none, none]) (st' := [vn]) [.inl (.astore 6), .inl (.aload 5)] 18 _ _ (by decide +kernel) rfl ?_
  refine aw_ifnull (o := 8) (tgt := 30) (by decide +kernel) (by decide) (fun _ => ?_) (fun _ z => nomatch z)
  refine aw_blk (pc' := 31) (ls' := [some (vr 0 0), some (vi a), some (vi e), some (vi B), some (vi d), some (vn), some (vo (lawAt laws B)), none, none]) (st' := [vi 0]) [.inl (.iconst 0)] 30 _ _ (by decide +kernel) rfl ?_
  exact aw_zret (by decide +kernel) rfl (by decide) (by decide) (by omega) (hq _ _ rfl rfl)

theorem m_B_settleOfBoth_1 (hI : I32 e ∧ I32 B) (hl1 : lawAt laws e = some (9, k)) (hl2 : lawAt laws B = none) : ADet G M_B_settleOfBoth [vr 0 0, vi a, vi e, vi B, vi d] (Hp (sgB bd tk) (sgS laws slot ahead made (od : Int) (dn : Int) (un : Int)) t (sgK (nn : Int) rr ff gg) df jo tr di mo dy) (some (vi 0)) (Hp (sgB bd tk) (sgS laws slot ahead made (od : Int) (dn : Int) (un : Int)) t (sgK (nn : Int) rr ff gg) df jo tr di mo dy) := by
  refine am_det (by decide +kernel) (Nat.le_of_ble_eq_true rfl) (fun Qr Qt hq => ?_)
  refine aw_blk (pc' := 5) (ls' := [some (vr 0 0), some (vi a), some (vi e), some (vi B), some (vi d), none, none, none, none]) (st' := [vi e, vr 1 0]) [.inl (.aload_n 0), .inr (10, 0, 0), .inl (.iload_n 2)] 0 _ _ (by decide +kernel) rfl ?_
  refine aw_dV (cs' := 0) (sl' := 0) (pc' := 8) (st' := [vo (lawAt laws e)]) (idx := 117) (as := [vi e]) (st := []) (m_S_lawIn hI.1) (by decide +kernel) (show vOK "ChanceBench" 117 M_S_lawIn 1 = true by decide +kernel) rfl rfl rfl (Nat.le_of_ble_eq_true rfl) (by decide) (by decide) (by decide) rfl rfl rfl rfl ?_
  rw [hl1]
  refine aw_blk (pc' := 15) (ls' := [some (vr 0 0), some (vi a), some (vi e), some (vi B), some (vi d), some (vr 9 k), none, none, none]) (st' := [vi B, vr 1 0]) [.inl (.astore 5), .inl (.aload_n 0), .inr (10, 0, 0), .inl (.iload_n 3)] 8 _ _ (by decide +kernel) rfl ?_
  refine aw_dV (cs' := 0) (sl' := 0) (pc' := 18) (st' := [vo (lawAt laws B)]) (idx := 117) (as := [vi B]) (st := []) (m_S_lawIn hI.2) (by decide +kernel) (show vOK "ChanceBench" 117 M_S_lawIn 1 = true by decide +kernel) rfl rfl rfl (Nat.le_of_ble_eq_true rfl) (by decide) (by decide) (by decide) rfl rfl rfl rfl ?_
  rw [hl2]
  refine aw_blk (pc' := 22) (ls' := [some (vr 0 0), some (vi a), some (vi e), some (vi B), some (vi d), some (vr 9 k), some (vn), none, none]) (st' := [vr 9 k]) [.inl (.astore 6), .inl (.aload 5)] 18 _ _ (by decide +kernel) rfl ?_
  refine aw_ifnull (o := 8) (tgt := 30) (by decide +kernel) (by decide) (fun z => nomatch z) (fun _ _ => ?_)
  refine aw_blk (pc' := 27) (ls' := [some (vr 0 0), some (vi a), some (vi e), some (vi B), some (vi d), some (vr 9 k), some (vn), none, none]) (st' := [vn]) [.inl (.aload 6)] 25 _ _ (by decide +kernel) rfl ?_
  refine aw_ifnonnull (o := 5) (tgt := 32) (by decide +kernel) (by decide) (fun _ z => nomatch z) (fun _ => ?_)
  refine aw_blk (pc' := 31) (ls' := [some (vr 0 0), some (vi a), some (vi e), some (vi B), some (vi d), some (vr 9 k), some (vn), none, none]) (st' := [vi 0]) [.inl (.iconst 0)] 30 _ _ (by decide +kernel) rfl ?_
  exact aw_zret (by decide +kernel) rfl (by decide) (by decide) (by omega) (hq _ _ rfl rfl)

theorem m_B_sum (ha : I32 a) (hI : I32 e ∧ I32 B) (hl1 : lawAt laws e = some (9, k)) (hl2 : lawAt laws B = some (9, q)) (hA : isD dy k k1 k2 n at_ wt W) (A : lwN n at_ wt W) (hA2 : isD dy q q1 q2 m at2 wt2 W2) (A2 : lwN m at2 wt2 W2) (ho : od < 30) (hd : dn ≤ 30) (hl : lwOK dy laws) : AMet G M_B_sum [vr 0 0, vi a, vi e, vi B] (Hp (sgB bd tk) (sgS laws slot ahead made (od : Int) (dn : Int) (un : Int)) t (sgK (nn : Int) rr ff gg) df jo tr di mo dy) (fun r h => ∃ (nn : Nat) (rr : Int) (ff gg : Nat → Int), stl laws slot ahead made od dn un bd tk t (sgK (nn : Int) rr ff gg) df jo tr di mo dy a (T2 3 at_ wt at2 wt2 m n) (B2 3 at_ wt at2 wt2 m n) r h) (fun _ => False) := by
  refine am_rel (by decide +kernel) (Nat.le_of_ble_eq_true rfl) (fun Qr Qt hq => ?_)
  have hd4 : (0 : Int) ≤ 3 ∧ (3 : Int) ≤ 3 := by omega
  refine aw_blk (pc' := 5) (ls' := [some (vr 0 0), some (vi a), some (vi e), some (vi B)]) (st' := [vi 3, vi B, vi e, vi a, vr 0 0]) [.inl (.aload_n 0), .inl (.iload_n 1), .inl (.iload_n 2), .inl (.iload_n 3), .inl (.iconst 3)] 0 _ _ (by decide +kernel) rfl ?_
  refine aw_rV (cs' := 3) (sl' := 51) (pc' := 8) (idx := 113) (as := [vi a, vi e, vi B, vi 3]) (st := []) (m_B_settleOfBoth ha hI hd4 hl1 hl2 hA A hA2 A2 ho hd hl) (by decide +kernel) (show vOK "ChanceBench" 113 M_B_settleOfBoth 4 = true by decide +kernel) rfl rfl rfl (Nat.le_of_ble_eq_true rfl) (by decide) (by decide) (by decide) rfl rfl rfl (fun r5 h5 z5 => ?_)
  obtain ⟨nn, rr, ff, gg, ⟨rfl, h1, rfl⟩ | ⟨rfl, h1, h2, m9, a9, w9, W9, h3, rfl⟩⟩ := z5
  · exact aw_zret (by decide +kernel) rfl (by decide) (by decide) (by omega) (hq _ _ ⟨nn, rr, ff, gg, Or.inl ⟨rfl, h1, rfl⟩⟩)
  · exact aw_zret (by decide +kernel) rfl (by decide) (by decide) (by omega) (hq _ _ ⟨nn, rr, ff, gg, Or.inr ⟨rfl, h1, h2, m9, a9, w9, W9, h3, rfl⟩⟩)

theorem m_B_sum_0 (hI : I32 e ∧ I32 B) (hl1 : lawAt laws e = none) : ADet G M_B_sum [vr 0 0, vi a, vi e, vi B] (Hp (sgB bd tk) (sgS laws slot ahead made (od : Int) (dn : Int) (un : Int)) t (sgK (nn : Int) rr ff gg) df jo tr di mo dy) (some (vi 0)) (Hp (sgB bd tk) (sgS laws slot ahead made (od : Int) (dn : Int) (un : Int)) t (sgK (nn : Int) rr ff gg) df jo tr di mo dy) := by
  refine am_det (by decide +kernel) (Nat.le_of_ble_eq_true rfl) (fun Qr Qt hq => ?_)
  refine aw_blk (pc' := 5) (ls' := [some (vr 0 0), some (vi a), some (vi e), some (vi B)]) (st' := [vi 3, vi B, vi e, vi a, vr 0 0]) [.inl (.aload_n 0), .inl (.iload_n 1), .inl (.iload_n 2), .inl (.iload_n 3), .inl (.iconst 3)] 0 _ _ (by decide +kernel) rfl ?_
  refine aw_dV (cs' := 3) (sl' := 51) (pc' := 8) (st' := [vi 0]) (idx := 113) (as := [vi a, vi e, vi B, vi 3]) (st := []) (m_B_settleOfBoth_0 hI hl1) (by decide +kernel) (show vOK "ChanceBench" 113 M_B_settleOfBoth 4 = true by decide +kernel) rfl rfl rfl (Nat.le_of_ble_eq_true rfl) (by decide) (by decide) (by decide) rfl rfl rfl rfl ?_
  exact aw_zret (by decide +kernel) rfl (by decide) (by decide) (by omega) (hq _ _ rfl rfl)

theorem m_B_sum_1 (hI : I32 e ∧ I32 B) (hl1 : lawAt laws e = some (9, k)) (hl2 : lawAt laws B = none) : ADet G M_B_sum [vr 0 0, vi a, vi e, vi B] (Hp (sgB bd tk) (sgS laws slot ahead made (od : Int) (dn : Int) (un : Int)) t (sgK (nn : Int) rr ff gg) df jo tr di mo dy) (some (vi 0)) (Hp (sgB bd tk) (sgS laws slot ahead made (od : Int) (dn : Int) (un : Int)) t (sgK (nn : Int) rr ff gg) df jo tr di mo dy) := by
  refine am_det (by decide +kernel) (Nat.le_of_ble_eq_true rfl) (fun Qr Qt hq => ?_)
  refine aw_blk (pc' := 5) (ls' := [some (vr 0 0), some (vi a), some (vi e), some (vi B)]) (st' := [vi 3, vi B, vi e, vi a, vr 0 0]) [.inl (.aload_n 0), .inl (.iload_n 1), .inl (.iload_n 2), .inl (.iload_n 3), .inl (.iconst 3)] 0 _ _ (by decide +kernel) rfl ?_
  refine aw_dV (cs' := 3) (sl' := 51) (pc' := 8) (st' := [vi 0]) (idx := 113) (as := [vi a, vi e, vi B, vi 3]) (st := []) (m_B_settleOfBoth_1 hI hl1 hl2) (by decide +kernel) (show vOK "ChanceBench" 113 M_B_settleOfBoth 4 = true by decide +kernel) rfl rfl rfl (Nat.le_of_ble_eq_true rfl) (by decide) (by decide) (by decide) rfl rfl rfl rfl ?_
  exact aw_zret (by decide +kernel) rfl (by decide) (by decide) (by omega) (hq _ _ rfl rfl)

theorem m_B_of (ha : I32 a) (hI : I32 e ∧ I32 B) (h2 : 0 ≤ d ∧ d ≤ 2) (hl1 : lawAt laws e = some (9, k)) (hl2 : lawAt laws B = some (9, q)) (hA : isD dy k k1 k2 n at_ wt W) (A : lwN n at_ wt W) (hA2 : isD dy q q1 q2 m at2 wt2 W2) (A2 : lwN m at2 wt2 W2) (ho : od < 30) (hd : dn ≤ 30) (hl : lwOK dy laws) : AMet G M_B_of [vr 0 0, vi a, vi e, vi B, vi d] (Hp (sgB bd tk) (sgS laws slot ahead made (od : Int) (dn : Int) (un : Int)) t (sgK (nn : Int) rr ff gg) df jo tr di mo dy) (fun r h => ∃ (nn : Nat) (rr : Int) (ff gg : Nat → Int), stl laws slot ahead made od dn un bd tk t (sgK (nn : Int) rr ff gg) df jo tr di mo dy a (T2 d at_ wt at2 wt2 m n) (B2 d at_ wt at2 wt2 m n) r h) (fun _ => False) := by
  refine am_rel (by decide +kernel) (Nat.le_of_ble_eq_true rfl) (fun Qr Qt hq => ?_)
  refine aw_blk (pc' := 4) (ls' := [some (vr 0 0), some (vi a), some (vi e), some (vi B), some (vi d)]) (st' := [vi 2, vi 0, vi d]) [.inl (.iload 4), .inl (.iconst 0), .inl (.iconst 2)] 0 _ _ (by decide +kernel) rfl ?_
  refine aw_dS (cs' := 0) (sl' := 0) (pc' := 7) (st' := [vi (if 0 ≤ d ∧ d ≤ 2 then 1 else 0)]) (idx := 98) (as := [vi d, vi 0, vi 2]) (st := []) (m_B_isWithin (by omega) (by omega) (by omega)) (by decide +kernel) (show sOK "ChanceBench" 98 M_B_isWithin 3 = true by decide +kernel) rfl (Nat.le_of_ble_eq_true rfl) (by decide) (by decide) (by decide) rfl rfl rfl rfl ?_
  rw [if_pos h2]
  refine aw_if_eq (o := 19) (tgt := 26) (by decide +kernel) (by decide) (by omega) (fun c => absurd c (by omega)) (fun _ => ?_)
  have hd4 : 0 ≤ d ∧ d ≤ 3 := by omega
  refine aw_blk (pc' := 16) (ls' := [some (vr 0 0), some (vi a), some (vi e), some (vi B), some (vi d)]) (st' := [vi d, vi B, vi e, vi a, vr 0 0]) [.inl (.aload_n 0), .inl (.iload_n 1), .inl (.iload_n 2), .inl (.iload_n 3), .inl (.iload 4)] 10 _ _ (by decide +kernel) rfl ?_
  refine aw_rV (cs' := 3) (sl' := 51) (pc' := 19) (idx := 113) (as := [vi a, vi e, vi B, vi d]) (st := []) (m_B_settleOfBoth ha hI hd4 hl1 hl2 hA A hA2 A2 ho hd hl) (by decide +kernel) (show vOK "ChanceBench" 113 M_B_settleOfBoth 4 = true by decide +kernel) rfl rfl rfl (Nat.le_of_ble_eq_true rfl) (by decide) (by decide) (by decide) rfl rfl rfl (fun r16 h16 z16 => ?_)
  obtain ⟨nn, rr, ff, gg, ⟨rfl, h1, rfl⟩ | ⟨rfl, h1, h2, m9, a9, w9, W9, h3, rfl⟩⟩ := z16
  · refine aw_if_eq (o := 7) (tgt := 26) (by decide +kernel) (by decide) (by omega) (fun _ => ?_) (fun c => absurd (by omega) c)
    refine aw_blk (pc' := 27) (ls' := [some (vr 0 0), some (vi a), some (vi e), some (vi B), some (vi d)]) (st' := [vi 0]) [.inl (.iconst 0)] 26 _ _ (by decide +kernel) rfl ?_
    exact aw_zret (by decide +kernel) rfl (by decide) (by decide) (by omega) (hq _ _ ⟨nn, rr, ff, gg, Or.inl ⟨rfl, h1, rfl⟩⟩)
  · refine aw_if_eq (o := 7) (tgt := 26) (by decide +kernel) (by decide) (by omega) (fun c => absurd c (by omega)) (fun _ => ?_)
    refine aw_blk (pc' := 23) (ls' := [some (vr 0 0), some (vi a), some (vi e), some (vi B), some (vi d)]) (st' := [vi 1]) [.inl (.iconst 1)] 22 _ _ (by decide +kernel) rfl ?_
    refine aw_goto (o := 4) (tgt := 27) (by decide +kernel) (by decide) ?_
    exact aw_zret (by decide +kernel) rfl (by decide) (by decide) (by omega) (hq _ _ ⟨nn, rr, ff, gg, Or.inr ⟨rfl, h1, h2, m9, a9, w9, W9, h3, rfl⟩⟩)

theorem m_B_of_0 (hI : I32 e ∧ I32 B) (h2 : 0 ≤ d ∧ d ≤ 2) (hl1 : lawAt laws e = none) : ADet G M_B_of [vr 0 0, vi a, vi e, vi B, vi d] (Hp (sgB bd tk) (sgS laws slot ahead made (od : Int) (dn : Int) (un : Int)) t (sgK (nn : Int) rr ff gg) df jo tr di mo dy) (some (vi 0)) (Hp (sgB bd tk) (sgS laws slot ahead made (od : Int) (dn : Int) (un : Int)) t (sgK (nn : Int) rr ff gg) df jo tr di mo dy) := by
  refine am_det (by decide +kernel) (Nat.le_of_ble_eq_true rfl) (fun Qr Qt hq => ?_)
  refine aw_blk (pc' := 4) (ls' := [some (vr 0 0), some (vi a), some (vi e), some (vi B), some (vi d)]) (st' := [vi 2, vi 0, vi d]) [.inl (.iload 4), .inl (.iconst 0), .inl (.iconst 2)] 0 _ _ (by decide +kernel) rfl ?_
  refine aw_dS (cs' := 0) (sl' := 0) (pc' := 7) (st' := [vi (if 0 ≤ d ∧ d ≤ 2 then 1 else 0)]) (idx := 98) (as := [vi d, vi 0, vi 2]) (st := []) (m_B_isWithin (by omega) (by omega) (by omega)) (by decide +kernel) (show sOK "ChanceBench" 98 M_B_isWithin 3 = true by decide +kernel) rfl (Nat.le_of_ble_eq_true rfl) (by decide) (by decide) (by decide) rfl rfl rfl rfl ?_
  rw [if_pos h2]
  refine aw_if_eq (o := 19) (tgt := 26) (by decide +kernel) (by decide) (by omega) (fun c => absurd c (by omega)) (fun _ => ?_)
  refine aw_blk (pc' := 16) (ls' := [some (vr 0 0), some (vi a), some (vi e), some (vi B), some (vi d)]) (st' := [vi d, vi B, vi e, vi a, vr 0 0]) [.inl (.aload_n 0), .inl (.iload_n 1), .inl (.iload_n 2), .inl (.iload_n 3), .inl (.iload 4)] 10 _ _ (by decide +kernel) rfl ?_
  refine aw_dV (cs' := 3) (sl' := 51) (pc' := 19) (st' := [vi 0]) (idx := 113) (as := [vi a, vi e, vi B, vi d]) (st := []) (m_B_settleOfBoth_0 hI hl1) (by decide +kernel) (show vOK "ChanceBench" 113 M_B_settleOfBoth 4 = true by decide +kernel) rfl rfl rfl (Nat.le_of_ble_eq_true rfl) (by decide) (by decide) (by decide) rfl rfl rfl rfl ?_
  refine aw_if_eq (o := 7) (tgt := 26) (by decide +kernel) (by decide) (by omega) (fun _ => ?_) (fun c => absurd (by omega) c)
  refine aw_blk (pc' := 27) (ls' := [some (vr 0 0), some (vi a), some (vi e), some (vi B), some (vi d)]) (st' := [vi 0]) [.inl (.iconst 0)] 26 _ _ (by decide +kernel) rfl ?_
  exact aw_zret (by decide +kernel) rfl (by decide) (by decide) (by omega) (hq _ _ rfl rfl)

theorem m_B_of_1 (hI : I32 e ∧ I32 B) (h2 : 0 ≤ d ∧ d ≤ 2) (hl1 : lawAt laws e = some (9, k)) (hl2 : lawAt laws B = none) : ADet G M_B_of [vr 0 0, vi a, vi e, vi B, vi d] (Hp (sgB bd tk) (sgS laws slot ahead made (od : Int) (dn : Int) (un : Int)) t (sgK (nn : Int) rr ff gg) df jo tr di mo dy) (some (vi 0)) (Hp (sgB bd tk) (sgS laws slot ahead made (od : Int) (dn : Int) (un : Int)) t (sgK (nn : Int) rr ff gg) df jo tr di mo dy) := by
  refine am_det (by decide +kernel) (Nat.le_of_ble_eq_true rfl) (fun Qr Qt hq => ?_)
  refine aw_blk (pc' := 4) (ls' := [some (vr 0 0), some (vi a), some (vi e), some (vi B), some (vi d)]) (st' := [vi 2, vi 0, vi d]) [.inl (.iload 4), .inl (.iconst 0), .inl (.iconst 2)] 0 _ _ (by decide +kernel) rfl ?_
  refine aw_dS (cs' := 0) (sl' := 0) (pc' := 7) (st' := [vi (if 0 ≤ d ∧ d ≤ 2 then 1 else 0)]) (idx := 98) (as := [vi d, vi 0, vi 2]) (st := []) (m_B_isWithin (by omega) (by omega) (by omega)) (by decide +kernel) (show sOK "ChanceBench" 98 M_B_isWithin 3 = true by decide +kernel) rfl (Nat.le_of_ble_eq_true rfl) (by decide) (by decide) (by decide) rfl rfl rfl rfl ?_
  rw [if_pos h2]
  refine aw_if_eq (o := 19) (tgt := 26) (by decide +kernel) (by decide) (by omega) (fun c => absurd c (by omega)) (fun _ => ?_)
  refine aw_blk (pc' := 16) (ls' := [some (vr 0 0), some (vi a), some (vi e), some (vi B), some (vi d)]) (st' := [vi d, vi B, vi e, vi a, vr 0 0]) [.inl (.aload_n 0), .inl (.iload_n 1), .inl (.iload_n 2), .inl (.iload_n 3), .inl (.iload 4)] 10 _ _ (by decide +kernel) rfl ?_
  refine aw_dV (cs' := 3) (sl' := 51) (pc' := 19) (st' := [vi 0]) (idx := 113) (as := [vi a, vi e, vi B, vi d]) (st := []) (m_B_settleOfBoth_1 hI hl1 hl2) (by decide +kernel) (show vOK "ChanceBench" 113 M_B_settleOfBoth 4 = true by decide +kernel) rfl rfl rfl (Nat.le_of_ble_eq_true rfl) (by decide) (by decide) (by decide) rfl rfl rfl rfl ?_
  refine aw_if_eq (o := 7) (tgt := 26) (by decide +kernel) (by decide) (by omega) (fun _ => ?_) (fun c => absurd (by omega) c)
  refine aw_blk (pc' := 27) (ls' := [some (vr 0 0), some (vi a), some (vi e), some (vi B), some (vi d)]) (st' := [vi 0]) [.inl (.iconst 0)] 26 _ _ (by decide +kernel) rfl ?_
  exact aw_zret (by decide +kernel) rfl (by decide) (by decide) (by omega) (hq _ _ rfl rfl)

theorem m_B_of_2 (hI : I32 d) (h2 : ¬ (0 ≤ d ∧ d ≤ 2)) : ADet G M_B_of [vr 0 0, vi a, vi e, vi B, vi d] (Hp (sgB bd tk) (sgS laws slot ahead made (od : Int) (dn : Int) (un : Int)) t (sgK (nn : Int) rr ff gg) df jo tr di mo dy) (some (vi 0)) (Hp (sgB bd tk) (sgS laws slot ahead made (od : Int) (dn : Int) (un : Int)) t (sgK (nn : Int) rr ff gg) df jo tr di mo dy) := by
  refine am_det (by decide +kernel) (Nat.le_of_ble_eq_true rfl) (fun Qr Qt hq => ?_)
  refine aw_blk (pc' := 4) (ls' := [some (vr 0 0), some (vi a), some (vi e), some (vi B), some (vi d)]) (st' := [vi 2, vi 0, vi d]) [.inl (.iload 4), .inl (.iconst 0), .inl (.iconst 2)] 0 _ _ (by decide +kernel) rfl ?_
  refine aw_dS (cs' := 0) (sl' := 0) (pc' := 7) (st' := [vi (if 0 ≤ d ∧ d ≤ 2 then 1 else 0)]) (idx := 98) (as := [vi d, vi 0, vi 2]) (st := []) (m_B_isWithin hI (by omega) (by omega)) (by decide +kernel) (show sOK "ChanceBench" 98 M_B_isWithin 3 = true by decide +kernel) rfl (Nat.le_of_ble_eq_true rfl) (by decide) (by decide) (by decide) rfl rfl rfl rfl ?_
  rw [if_neg h2]
  refine aw_if_eq (o := 19) (tgt := 26) (by decide +kernel) (by decide) (by omega) (fun _ => ?_) (fun c => absurd (by omega) c)
  refine aw_blk (pc' := 27) (ls' := [some (vr 0 0), some (vi a), some (vi e), some (vi B), some (vi d)]) (st' := [vi 0]) [.inl (.iconst 0)] 26 _ _ (by decide +kernel) rfl ?_
  exact aw_zret (by decide +kernel) rfl (by decide) (by decide) (by omega) (hq _ _ rfl rfl)

def uC (c d e B : Int) (k : Nat) : Int := if B = 0 then chs c.toNat (k : Int) * chs d.toNat (e - (k : Int)) else chs e.toNat (k : Int) * pw c k * pw d (e.toNat - k)
theorem pw_in {x : Int} (h : 0 ≤ x ∧ x ≤ 20) : ∀ k : Nat, 0 ≤ pw x k ∧ pw x k ≤ pw 20 k
  | 0 => ⟨by simp [pw], Int.le_refl _⟩
  | k + 1 => by
    obtain ⟨h1, h2⟩ := pw_in h k
    simp only [pw]
    exact ⟨Int.mul_nonneg h1 h.1, Int.mul_le_mul h2 h.2 h.1 (Int.le_trans h1 h2)⟩
theorem pw_20 : ∀ (d : Fin 11) (k : Fin 11), k.val ≤ d.val → pw 20 k.val * pw 20 (d.val - k.val) ≤ 10240000000000 := by decide +kernel
theorem chs_10 : ∀ (d : Fin 11) (k : Fin 11), 0 ≤ chs d.val (k.val : Int) ∧ chs d.val (k.val : Int) ≤ 252 := by decide +kernel
theorem chs_20 {n : Nat} {c : Int} (hn : n ≤ 20) : 0 ≤ chs n c ∧ chs n c ≤ 184756 := by
  unfold chs
  split
  · rename_i h
    exact chW_in ⟨n, by omega⟩ ⟨c.toNat, by omega⟩ (by show c.toNat ≤ n; omega) ⟨c.toNat, by omega⟩ (Nat.le_refl _)
  · omega
theorem uC_in {c d e B : Int} {k : Nat} (h1 : 0 ≤ c ∧ c ≤ 20) (h2 : 0 ≤ d ∧ d ≤ 20) (h3 : 1 ≤ e ∧ e ≤ 10) (hk : (k : Int) ≤ e) : 0 ≤ uC c d e B k ∧ uC c d e B k ≤ 2600000000000000 := by
  unfold uC
  split
  · have a := chs_20 (n := c.toNat) (c := (k : Int)) (by omega)
    have b := chs_20 (n := d.toNat) (c := e - (k : Int)) (by omega)
    have := Int.mul_le_mul a.2 b.2 b.1 (by omega)
    exact ⟨Int.mul_nonneg a.1 b.1, by omega⟩
  · have a := chs_10 ⟨e.toNat, by omega⟩ ⟨k, by omega⟩
    have b := pw_in h1 k
    have b2 := pw_in h2 (e.toNat - k)
    have c := pw_20 ⟨e.toNat, by omega⟩ ⟨k, by omega⟩ (by show k ≤ e.toNat; omega)
    have m1 := Int.mul_le_mul b.2 b2.2 b2.1 (by omega)
    have m0 := Int.mul_nonneg b.1 b2.1
    simp only at a c
    rw [Int.mul_assoc]
    have := Int.mul_le_mul a.2 (Int.le_trans m1 c) m0 (by omega)
    exact ⟨Int.mul_nonneg a.1 m0, by omega⟩
theorem m_B_urn (ha : I32 a) (hI : I32 c ∧ I32 d ∧ I32 e) (hB : 0 ≤ B ∧ B ≤ 1) (ho : od < 30) (hd : dn ≤ 30) (hl : lwOK dy laws) : AMet G M_B_urn [vr 0 0, vi a, vi c, vi d, vi e, vi B] (Hp (sgB bd tk) (sgS laws slot ahead made (od : Int) (dn : Int) (un : Int)) t (sgK (nn : Int) rr ff gg) df jo tr di mo dy) (fun r h => ∃ (nn : Nat) (rr : Int) (ff gg : Nat → Int), stl laws slot ahead made od dn un bd tk t (sgK (nn : Int) rr ff gg) df jo tr di mo dy a (den (fun k => (k : Int)) (uC c d e B) (e.toNat + 1)) (¬ ((0 ≤ c ∧ c ≤ 20) ∧ (0 ≤ d ∧ d ≤ 20) ∧ (1 ≤ e ∧ e ≤ 10) ∧ c + d ≠ 0 ∧ (B = 0 → e ≤ c + d)) ∨ byd (fun k => (k : Int)) (uC c d e B) (e.toNat + 1)) r h) (fun _ => False) := by
  refine am_rel (by decide +kernel) (Nat.le_of_ble_eq_true rfl) (fun Qr Qt hq => ?_)
  refine aw_blk (pc' := 4) (ls' := [some (vr 0 0), some (vi a), some (vi c), some (vi d), some (vi e), some (vi B), none, none, none, none]) (st' := [vi 20, vi 0, vi c]) [.inl (.iload_n 2), .inl (.iconst 0), .inl (.bipush 20)] 0 _ _ (by decide +kernel) rfl ?_
  refine aw_dS (cs' := 0) (sl' := 0) (pc' := 7) (st' := [vi (if 0 ≤ c ∧ c ≤ 20 then 1 else 0)]) (idx := 98) (as := [vi c, vi 0, vi 20]) (st := []) (m_B_isWithin hI.1 (by omega) (by omega)) (by decide +kernel) (show sOK "ChanceBench" 98 M_B_isWithin 3 = true by decide +kernel) rfl (Nat.le_of_ble_eq_true rfl) (by decide) (by decide) (by decide) rfl rfl rfl rfl ?_
  by_cases h1 : 0 ≤ c ∧ c ≤ 20
  · rw [if_pos h1]
    refine aw_if_eq (o := 24) (tgt := 31) (by decide +kernel) (by decide) (by omega) (fun c => absurd c (by omega)) (fun _ => ?_)
    refine aw_blk (pc' := 14) (ls' := [some (vr 0 0), some (vi a), some (vi c), some (vi d), some (vi e), some (vi B), none, none, none, none]) (st' := [vi 20, vi 0, vi d]) [.inl (.iload_n 3), .inl (.iconst 0), .inl (.bipush 20)] 10 _ _ (by decide +kernel) rfl ?_
    refine aw_dS (cs' := 0) (sl' := 0) (pc' := 17) (st' := [vi (if 0 ≤ d ∧ d ≤ 20 then 1 else 0)]) (idx := 98) (as := [vi d, vi 0, vi 20]) (st := []) (m_B_isWithin hI.2.1 (by omega) (by omega)) (by decide +kernel) (show sOK "ChanceBench" 98 M_B_isWithin 3 = true by decide +kernel) rfl (Nat.le_of_ble_eq_true rfl) (by decide) (by decide) (by decide) rfl rfl rfl rfl ?_
    by_cases h2 : 0 ≤ d ∧ d ≤ 20
    · rw [if_pos h2]
      refine aw_if_eq (o := 14) (tgt := 31) (by decide +kernel) (by decide) (by omega) (fun c => absurd c (by omega)) (fun _ => ?_)
      refine aw_blk (pc' := 25) (ls' := [some (vr 0 0), some (vi a), some (vi c), some (vi d), some (vi e), some (vi B), none, none, none, none]) (st' := [vi 10, vi 1, vi e]) [.inl (.iload 4), .inl (.iconst 1), .inl (.bipush 10)] 20 _ _ (by decide +kernel) rfl ?_
      refine aw_dS (cs' := 0) (sl' := 0) (pc' := 28) (st' := [vi (if 1 ≤ e ∧ e ≤ 10 then 1 else 0)]) (idx := 98) (as := [vi e, vi 1, vi 10]) (st := []) (m_B_isWithin hI.2.2 (by omega) (by omega)) (by decide +kernel) (show sOK "ChanceBench" 98 M_B_isWithin 3 = true by decide +kernel) rfl (Nat.le_of_ble_eq_true rfl) (by decide) (by decide) (by decide) rfl rfl rfl rfl ?_
      by_cases h3 : 1 ≤ e ∧ e ≤ 10
      · rw [if_pos h3]
        refine aw_if_ne (o := 5) (tgt := 33) (by decide +kernel) (by decide) (by omega) (fun _ => ?_) (fun c => absurd c (by omega))
        refine aw_blk (pc' := 40) (ls' := [some (vr 0 0), some (vi a), some (vi c), some (vi d), some (vi e), some (vi B), some (vi (c + d)), none, none, none]) (st' := [vi (c + d)]) [.inl (.iload_n 2), .inl (.iload_n 3), .inl (.iadd), .inl (.istore 6), .inl (.iload 6)] 33 _ _ (by decide +kernel) rfl ?_
        refine aw_if_eq (o := 15) (tgt := 55) (by decide +kernel) (by decide) (by omega) (fun c40 => ?_) (fun c40 => ?_)
        · refine aw_blk (pc' := 56) (ls' := [some (vr 0 0), some (vi a), some (vi c), some (vi d), some (vi e), some (vi B), some (vi (c + d)), none, none, none]) (st' := [vi 0]) [.inl (.iconst 0)] 55 _ _ (by decide +kernel) rfl ?_
          exact aw_zret (by decide +kernel) rfl (by decide) (by decide) (by omega) (hq _ _ ⟨nn, rr, ff, gg, Or.inl ⟨rfl, fun z => z.2.1 (Or.inl (fun z => z.2.2.2.1 c40)), rfl⟩⟩)
        · refine aw_blk (pc' := 45) (ls' := [some (vr 0 0), some (vi a), some (vi c), some (vi d), some (vi e), some (vi B), some (vi (c + d)), none, none, none]) (st' := [vi B]) [.inl (.iload 5)] 43 _ _ (by decide +kernel) rfl ?_
          refine aw_if_ne (o := 12) (tgt := 57) (by decide +kernel) (by decide) (by omega) (fun c45 => ?_) (fun c45 => ?_)
          · obtain ⟨N, rfl⟩ : ∃ N : Nat, e = (N : Int) := ⟨e.toNat, by omega⟩
            obtain ⟨c1, rfl⟩ : ∃ N : Nat, c = (N : Int) := ⟨c.toNat, by omega⟩
            obtain ⟨d1, rfl⟩ : ∃ N : Nat, d = (N : Int) := ⟨d.toNat, by omega⟩
            refine aw_blk (pc' := 61) (ls' := [some (vr 0 0), some (vi a), some (vi (c1 : Int)), some (vi (d1 : Int)), some (vi (N : Int)), some (vi B), some (vi ((c1 : Int) + (d1 : Int))), none, none, none]) (st' := [vr 3 0]) [.inl (.aload_n 0), .inr (26, 0, 2)] 57 _ _ (by decide +kernel) rfl ?_
            refine aw_dV (cs' := 0) (sl' := 0) (pc' := 64) (st' := []) (idx := 81) (as := []) (st := []) (m_K_clear) (by decide +kernel) (show vOK "ChanceBench" 81 M_K_clear 0 = true by decide +kernel) rfl rfl rfl (Nat.le_of_ble_eq_true rfl) (by decide) (by decide) (by decide) rfl rfl rfl rfl ?_
            refine aw_blk (pc' := 67) (ls' := [some (vr 0 0), some (vi a), some (vi (c1 : Int)), some (vi (d1 : Int)), some (vi (N : Int)), some (vi B), some (vi ((c1 : Int) + (d1 : Int))), some (vi 0), none, none]) (st' := []) [.inl (.iconst 0), .inl (.istore 7)] 64 _ _ (by decide +kernel) rfl ?_
            refine up_to (W := fun i : Nat => ∀ (nn : Nat) (rr : Int) (ff gg : Nat → Int), mkR ((i : Int) * 2600000000000000) (fun u => 0 + den (fun k => (k : Int)) (uC (c1 : Int) (d1 : Int) (N : Int) B) i u) (False ∨ byd (fun k => (k : Int)) (uC (c1 : Int) (d1 : Int) (N : Int) B) i) nn rr ff gg → AW G M_B_urn Qr Qt 0 0 67 [some (vr 0 0), some (vi a), some (vi (c1 : Int)), some (vi (d1 : Int)), some (vi (N : Int)), some (vi B), some (vi ((c1 : Int) + (d1 : Int))), some (vi (i : Int)), none, none] [] (Hp [some (ob 0 [vr 1 0, vr 2 0, vr 3 0, vr 4 0, vr 5 0, vr 6 0, vr 7 0, vi bd, vi tk])] [some (ob 1 [vr 1 1, vr 1 2, vr 1 3, vr 1 4, vi (od : Int), vi (dn : Int), vi (un : Int)]), some (rs 16 laws), some (ar 0 30 slot), some (rs 30 ahead), some (rs 30 made)] t [some (ob 3 [vr 3 1, vr 3 2, vi (nn : Int), vi rr]), some (ar 0 24 ff), some (ar 1 24 gg)] df jo tr di mo dy)) (N + 1) ?_ (fun i hi ih => ?_) 0 (by omega) _ _ _ _ mkR_0.z
            · intro nn rr ff gg R
              refine aw_blk (pc' := 71) (ls' := [some (vr 0 0), some (vi a), some (vi (c1 : Int)), some (vi (d1 : Int)), some (vi (N : Int)), some (vi B), some (vi ((c1 : Int) + (d1 : Int))), some (vi ((N + 1 : Nat) : Int)), none, none]) (st' := [vi (N : Int), vi ((N + 1 : Nat) : Int)]) [.inl (.iload 7), .inl (.iload 4)] 67 _ _ (by decide +kernel) rfl ?_
              refine aw_icmp_gt (o := 71) (tgt := 142) (by decide +kernel) (by decide) (by omega) (by omega) (fun _ => ?_) (fun c => absurd (by omega) c)
              have R9 := R.e.eq (by' := ¬ ((0 ≤ (c1 : Int) ∧ (c1 : Int) ≤ 20) ∧ (0 ≤ (d1 : Int) ∧ (d1 : Int) ≤ 20) ∧ (1 ≤ (N : Int) ∧ (N : Int) ≤ 10) ∧ (c1 : Int) + (d1 : Int) ≠ 0 ∧ (B = 0 → (N : Int) ≤ (c1 : Int) + (d1 : Int))) ∨ byd (fun k => (k : Int)) (uC (c1 : Int) (d1 : Int) (N : Int) B) (N + 1)) (Int.le_refl _) (fun u _ => rfl) ⟨Or.inr, fun z => z.elim (fun z => absurd (⟨h1, h2, h3, by omega, fun z => absurd z (by omega)⟩) z) id⟩
              refine aw_blk (pc' := 144) (ls' := [some (vr 0 0), some (vi a), some (vi (c1 : Int)), some (vi (d1 : Int)), some (vi (N : Int)), some (vi B), some (vi ((c1 : Int) + (d1 : Int))), some (vi ((N + 1 : Nat) : Int)), none, none]) (st' := [vi a, vr 0 0]) [.inl (.aload_n 0), .inl (.iload_n 1)] 142 _ _ (by decide +kernel) rfl ?_
              refine aw_rV (cs' := 3) (sl' := 51) (pc' := 147) (idx := 95) (as := [vi a]) (st := []) (m_B_settle ha (R9) (by omega) ho hd hl) (by decide +kernel) (show vOK "ChanceBench" 95 M_B_settle 1 = true by decide +kernel) rfl rfl rfl (Nat.le_of_ble_eq_true rfl) (by decide) (by decide) (by decide) rfl rfl rfl (fun r144 h144 z144 => ?_)
              rcases z144 with ⟨rfl, h1, rfl⟩ | ⟨rfl, h1, h2, m9, a9, w9, W9, h3, rfl⟩
              · exact aw_zret (by decide +kernel) rfl (by decide) (by decide) (by omega) (hq _ _ ⟨nn, rr, ff, gg, Or.inl ⟨rfl, h1, rfl⟩⟩)
              · exact aw_zret (by decide +kernel) rfl (by decide) (by decide) (by omega) (hq _ _ ⟨nn, rr, ff, gg, Or.inr ⟨rfl, h1, h2, m9, a9, w9, W9, h3, rfl⟩⟩)
            · intro nn rr ff gg R
              have hu := uC_in (c := (c1 : Int)) (d := (d1 : Int)) (e := (N : Int)) (B := B) (k := i) h1 h2 h3 (by omega)
              refine aw_blk (pc' := 71) (ls' := [some (vr 0 0), some (vi a), some (vi (c1 : Int)), some (vi (d1 : Int)), some (vi (N : Int)), some (vi B), some (vi ((c1 : Int) + (d1 : Int))), some (vi (i : Int)), none, none]) (st' := [vi (N : Int), vi (i : Int)]) [.inl (.iload 7), .inl (.iload 4)] 67 _ _ (by decide +kernel) rfl ?_
              refine aw_icmp_gt (o := 71) (tgt := 142) (by decide +kernel) (by decide) (by omega) (by omega) (fun c => absurd c (by omega)) (fun _ => ?_)
              refine aw_blk (pc' := 76) (ls' := [some (vr 0 0), some (vi a), some (vi (c1 : Int)), some (vi (d1 : Int)), some (vi (N : Int)), some (vi B), some (vi ((c1 : Int) + (d1 : Int))), some (vi (i : Int)), none, none]) (st' := [vi B]) [.inl (.iload 5)] 74 _ _ (by decide +kernel) rfl ?_
              refine aw_if_eq (o := 30) (tgt := 106) (by decide +kernel) (by decide) (by omega) (fun c => absurd c (by omega)) (fun _ => ?_)
              refine aw_blk (pc' := 83) (ls' := [some (vr 0 0), some (vi a), some (vi (c1 : Int)), some (vi (d1 : Int)), some (vi (N : Int)), some (vi B), some (vi ((c1 : Int) + (d1 : Int))), some (vi (i : Int)), none, none]) (st' := [vi (i : Int), vi (N : Int)]) [.inl (.iload 4), .inl (.iload 7)] 79 _ _ (by decide +kernel) rfl ?_
              refine aw_dS (cs' := 0) (sl' := 0) (pc' := 86) (st' := [vl (chs N (i : Int))]) (idx := 102) (as := [vi (N : Int), vi (i : Int)]) (st := []) (m_B_choices (n := N) (by omega) (by omega)) (by decide +kernel) (show sOK "ChanceBench" 102 M_B_choices 2 = true by decide +kernel) rfl (Nat.le_of_ble_eq_true rfl) (by decide) (by decide) (by decide) rfl rfl rfl rfl ?_
              refine aw_blk (pc' := 89) (ls' := [some (vr 0 0), some (vi a), some (vi (c1 : Int)), some (vi (d1 : Int)), some (vi (N : Int)), some (vi B), some (vi ((c1 : Int) + (d1 : Int))), some (vi (i : Int)), none, none]) (st' := [vi (i : Int), vi (c1 : Int), vl (chs N (i : Int))]) [.inl (.iload_n 2), .inl (.iload 7)] 86 _ _ (by decide +kernel) rfl ?_
              refine aw_dS (cs' := 0) (sl' := 0) (pc' := 92) (st' := [vl (pw (c1 : Int) i), vl (chs N (i : Int))]) (idx := 106) (as := [vi (c1 : Int), vi (i : Int)]) (st := [vl (chs N (i : Int))]) (m_B_power (by omega) (by omega)) (by decide +kernel) (show sOK "ChanceBench" 106 M_B_power 2 = true by decide +kernel) rfl (Nat.le_of_ble_eq_true rfl) (by decide) (by decide) (by decide) rfl rfl rfl rfl ?_
              refine aw_blk (pc' := 99) (ls' := [some (vr 0 0), some (vi a), some (vi (c1 : Int)), some (vi (d1 : Int)), some (vi (N : Int)), some (vi B), some (vi ((c1 : Int) + (d1 : Int))), some (vi (i : Int)), none, none]) (st' := [vi ((N : Int) - (i : Int)), vi (d1 : Int), vl ((chs N (i : Int)) * (pw (c1 : Int) i))]) [.inl (.lmul), .inl (.iload_n 3), .inl (.iload 4), .inl (.iload 7), .inl (.isub)] 92 _ _ (by decide +kernel) rfl ?_
              rw [show (N : Int) - (i : Int) = ((N - i : Nat) : Int) by omega]
              refine aw_dS (cs' := 0) (sl' := 0) (pc' := 102) (st' := [vl (pw (d1 : Int) (N - i)), vl ((chs N (i : Int)) * (pw (c1 : Int) i))]) (idx := 106) (as := [vi (d1 : Int), vi ((N - i : Nat) : Int)]) (st := [vl ((chs N (i : Int)) * (pw (c1 : Int) i))]) (m_B_power (by omega) (by omega)) (by decide +kernel) (show sOK "ChanceBench" 106 M_B_power 2 = true by decide +kernel) rfl (Nat.le_of_ble_eq_true rfl) (by decide) (by decide) (by decide) rfl rfl rfl rfl ?_
              refine aw_blk (pc' := 103) (ls' := [some (vr 0 0), some (vi a), some (vi (c1 : Int)), some (vi (d1 : Int)), some (vi (N : Int)), some (vi B), some (vi ((c1 : Int) + (d1 : Int))), some (vi (i : Int)), none, none]) (st' := [vl (((chs N (i : Int)) * (pw (c1 : Int) i)) * (pw (d1 : Int) (N - i)))]) [.inl (.lmul)] 102 _ _ (by decide +kernel) rfl ?_
              refine aw_goto (o := 19) (tgt := 122) (by decide +kernel) (by decide) ?_
              rw [show chs N (i : Int) * pw (c1 : Int) i * pw (d1 : Int) (N - i) = uC (c1 : Int) (d1 : Int) (N : Int) B i by unfold uC; rw [if_neg (by omega)]; rfl]
              refine aw_blk (pc' := 130) (ls' := [some (vr 0 0), some (vi a), some (vi (c1 : Int)), some (vi (d1 : Int)), some (vi (N : Int)), some (vi B), some (vi ((c1 : Int) + (d1 : Int))), some (vi (i : Int)), some (vl (uC (c1 : Int) (d1 : Int) (N : Int) B i)), none]) (st' := [vi (i : Int), vr 3 0]) [.inl (.lstore 8), .inl (.aload_n 0), .inr (26, 0, 2), .inl (.iload 7)] 122 _ _ (by decide +kernel) rfl ?_
              refine aw_i2l (by decide +kernel) (by omega) ?_
              refine aw_blk (pc' := 133) (ls' := [some (vr 0 0), some (vi a), some (vi (c1 : Int)), some (vi (d1 : Int)), some (vi (N : Int)), some (vi B), some (vi ((c1 : Int) + (d1 : Int))), some (vi (i : Int)), some (vl (uC (c1 : Int) (d1 : Int) (N : Int) B i)), none]) (st' := [vl (uC (c1 : Int) (d1 : Int) (N : Int) B i), vl (i : Int), vr 3 0]) [.inl (.lload 8)] 131 _ _ (by decide +kernel) rfl ?_
              refine aw_rV (cs' := 0) (sl' := 0) (pc' := 136) (idx := 88) (as := [vl (i : Int), vl (uC (c1 : Int) (d1 : Int) (N : Int) B i)]) (st := []) (m_K_addR R (by omega) hu.1 (by omega)) (by decide +kernel) (show vOK "ChanceBench" 88 M_K_add 2 = true by decide +kernel) rfl rfl rfl (Nat.le_of_ble_eq_true rfl) (by decide) (by decide) (by decide) rfl rfl rfl (fun r133 h133 z133 => ?_)
              obtain ⟨rfl, nn2, rr2, ff2, gg2, R2, rfl⟩ := z133
              refine aw_blk (pc' := 139) (ls' := [some (vr 0 0), some (vi a), some (vi (c1 : Int)), some (vi (d1 : Int)), some (vi (N : Int)), some (vi B), some (vi ((c1 : Int) + (d1 : Int))), some (vi ((i : Int) + 1)), some (vl (uC (c1 : Int) (d1 : Int) (N : Int) B i)), none]) (st' := []) [.inl (.iinc 7 1)] 136 _ _ (by decide +kernel) rfl ?_
              refine aw_goto (o := -72) (tgt := 67) (by decide +kernel) (by decide) ?_
              refine aw_ls (ls' := [some (vr 0 0), some (vi a), some (vi (c1 : Int)), some (vi (d1 : Int)), some (vi (N : Int)), some (vi B), some (vi ((c1 : Int) + (d1 : Int))), some (vi ((i : Int) + 1)), none, none]) (lsk_s (lsk_s (lsk_s (lsk_s (lsk_s (lsk_s (lsk_s (lsk_s (lsk_n (lsk_n lsk_0)))))))))) ?_
              exact ih _ _ _ _ (R2.s (V := fun k => (k : Int)) (C := uC (c1 : Int) (d1 : Int) (N : Int) B) (by omega))
          · refine aw_blk (pc' := 52) (ls' := [some (vr 0 0), some (vi a), some (vi c), some (vi d), some (vi e), some (vi B), some (vi (c + d)), none, none, none]) (st' := [vi (c + d), vi e]) [.inl (.iload 4), .inl (.iload 6)] 48 _ _ (by decide +kernel) rfl ?_
            refine aw_icmp_le (o := 5) (tgt := 57) (by decide +kernel) (by decide) (by omega) (by omega) (fun c52 => ?_) (fun c52 => ?_)
            · obtain ⟨N, rfl⟩ : ∃ N : Nat, e = (N : Int) := ⟨e.toNat, by omega⟩
              obtain ⟨c1, rfl⟩ : ∃ N : Nat, c = (N : Int) := ⟨c.toNat, by omega⟩
              obtain ⟨d1, rfl⟩ : ∃ N : Nat, d = (N : Int) := ⟨d.toNat, by omega⟩
              refine aw_blk (pc' := 61) (ls' := [some (vr 0 0), some (vi a), some (vi (c1 : Int)), some (vi (d1 : Int)), some (vi (N : Int)), some (vi B), some (vi ((c1 : Int) + (d1 : Int))), none, none, none]) (st' := [vr 3 0]) [.inl (.aload_n 0), .inr (26, 0, 2)] 57 _ _ (by decide +kernel) rfl ?_
              refine aw_dV (cs' := 0) (sl' := 0) (pc' := 64) (st' := []) (idx := 81) (as := []) (st := []) (m_K_clear) (by decide +kernel) (show vOK "ChanceBench" 81 M_K_clear 0 = true by decide +kernel) rfl rfl rfl (Nat.le_of_ble_eq_true rfl) (by decide) (by decide) (by decide) rfl rfl rfl rfl ?_
              refine aw_blk (pc' := 67) (ls' := [some (vr 0 0), some (vi a), some (vi (c1 : Int)), some (vi (d1 : Int)), some (vi (N : Int)), some (vi B), some (vi ((c1 : Int) + (d1 : Int))), some (vi 0), none, none]) (st' := []) [.inl (.iconst 0), .inl (.istore 7)] 64 _ _ (by decide +kernel) rfl ?_
              refine up_to (W := fun i : Nat => ∀ (nn : Nat) (rr : Int) (ff gg : Nat → Int), mkR ((i : Int) * 2600000000000000) (fun u => 0 + den (fun k => (k : Int)) (uC (c1 : Int) (d1 : Int) (N : Int) B) i u) (False ∨ byd (fun k => (k : Int)) (uC (c1 : Int) (d1 : Int) (N : Int) B) i) nn rr ff gg → AW G M_B_urn Qr Qt 0 0 67 [some (vr 0 0), some (vi a), some (vi (c1 : Int)), some (vi (d1 : Int)), some (vi (N : Int)), some (vi B), some (vi ((c1 : Int) + (d1 : Int))), some (vi (i : Int)), none, none] [] (Hp [some (ob 0 [vr 1 0, vr 2 0, vr 3 0, vr 4 0, vr 5 0, vr 6 0, vr 7 0, vi bd, vi tk])] [some (ob 1 [vr 1 1, vr 1 2, vr 1 3, vr 1 4, vi (od : Int), vi (dn : Int), vi (un : Int)]), some (rs 16 laws), some (ar 0 30 slot), some (rs 30 ahead), some (rs 30 made)] t [some (ob 3 [vr 3 1, vr 3 2, vi (nn : Int), vi rr]), some (ar 0 24 ff), some (ar 1 24 gg)] df jo tr di mo dy)) (N + 1) ?_ (fun i hi ih => ?_) 0 (by omega) _ _ _ _ mkR_0.z
              · intro nn rr ff gg R
                refine aw_blk (pc' := 71) (ls' := [some (vr 0 0), some (vi a), some (vi (c1 : Int)), some (vi (d1 : Int)), some (vi (N : Int)), some (vi B), some (vi ((c1 : Int) + (d1 : Int))), some (vi ((N + 1 : Nat) : Int)), none, none]) (st' := [vi (N : Int), vi ((N + 1 : Nat) : Int)]) [.inl (.iload 7), .inl (.iload 4)] 67 _ _ (by decide +kernel) rfl ?_
                refine aw_icmp_gt (o := 71) (tgt := 142) (by decide +kernel) (by decide) (by omega) (by omega) (fun _ => ?_) (fun c => absurd (by omega) c)
                have R9 := R.e.eq (by' := ¬ ((0 ≤ (c1 : Int) ∧ (c1 : Int) ≤ 20) ∧ (0 ≤ (d1 : Int) ∧ (d1 : Int) ≤ 20) ∧ (1 ≤ (N : Int) ∧ (N : Int) ≤ 10) ∧ (c1 : Int) + (d1 : Int) ≠ 0 ∧ (B = 0 → (N : Int) ≤ (c1 : Int) + (d1 : Int))) ∨ byd (fun k => (k : Int)) (uC (c1 : Int) (d1 : Int) (N : Int) B) (N + 1)) (Int.le_refl _) (fun u _ => rfl) ⟨Or.inr, fun z => z.elim (fun z => absurd (⟨h1, h2, h3, by omega, fun _ => by omega⟩) z) id⟩
                refine aw_blk (pc' := 144) (ls' := [some (vr 0 0), some (vi a), some (vi (c1 : Int)), some (vi (d1 : Int)), some (vi (N : Int)), some (vi B), some (vi ((c1 : Int) + (d1 : Int))), some (vi ((N + 1 : Nat) : Int)), none, none]) (st' := [vi a, vr 0 0]) [.inl (.aload_n 0), .inl (.iload_n 1)] 142 _ _ (by decide +kernel) rfl ?_
                refine aw_rV (cs' := 3) (sl' := 51) (pc' := 147) (idx := 95) (as := [vi a]) (st := []) (m_B_settle ha (R9) (by omega) ho hd hl) (by decide +kernel) (show vOK "ChanceBench" 95 M_B_settle 1 = true by decide +kernel) rfl rfl rfl (Nat.le_of_ble_eq_true rfl) (by decide) (by decide) (by decide) rfl rfl rfl (fun r144 h144 z144 => ?_)
                rcases z144 with ⟨rfl, h1, rfl⟩ | ⟨rfl, h1, h2, m9, a9, w9, W9, h3, rfl⟩
                · exact aw_zret (by decide +kernel) rfl (by decide) (by decide) (by omega) (hq _ _ ⟨nn, rr, ff, gg, Or.inl ⟨rfl, h1, rfl⟩⟩)
                · exact aw_zret (by decide +kernel) rfl (by decide) (by decide) (by omega) (hq _ _ ⟨nn, rr, ff, gg, Or.inr ⟨rfl, h1, h2, m9, a9, w9, W9, h3, rfl⟩⟩)
              · intro nn rr ff gg R
                have hu := uC_in (c := (c1 : Int)) (d := (d1 : Int)) (e := (N : Int)) (B := B) (k := i) h1 h2 h3 (by omega)
                refine aw_blk (pc' := 71) (ls' := [some (vr 0 0), some (vi a), some (vi (c1 : Int)), some (vi (d1 : Int)), some (vi (N : Int)), some (vi B), some (vi ((c1 : Int) + (d1 : Int))), some (vi (i : Int)), none, none]) (st' := [vi (N : Int), vi (i : Int)]) [.inl (.iload 7), .inl (.iload 4)] 67 _ _ (by decide +kernel) rfl ?_
                refine aw_icmp_gt (o := 71) (tgt := 142) (by decide +kernel) (by decide) (by omega) (by omega) (fun c => absurd c (by omega)) (fun _ => ?_)
                refine aw_blk (pc' := 76) (ls' := [some (vr 0 0), some (vi a), some (vi (c1 : Int)), some (vi (d1 : Int)), some (vi (N : Int)), some (vi B), some (vi ((c1 : Int) + (d1 : Int))), some (vi (i : Int)), none, none]) (st' := [vi B]) [.inl (.iload 5)] 74 _ _ (by decide +kernel) rfl ?_
                refine aw_if_eq (o := 30) (tgt := 106) (by decide +kernel) (by decide) (by omega) (fun _ => ?_) (fun c => absurd (by omega) c)
                refine aw_blk (pc' := 109) (ls' := [some (vr 0 0), some (vi a), some (vi (c1 : Int)), some (vi (d1 : Int)), some (vi (N : Int)), some (vi B), some (vi ((c1 : Int) + (d1 : Int))), some (vi (i : Int)), none, none]) (st' := [vi (i : Int), vi (c1 : Int)]) [.inl (.iload_n 2), .inl (.iload 7)] 106 _ _ (by decide +kernel) rfl ?_
                refine aw_dS (cs' := 0) (sl' := 0) (pc' := 112) (st' := [vl (chs c1 (i : Int))]) (idx := 102) (as := [vi (c1 : Int), vi (i : Int)]) (st := []) (m_B_choices (n := c1) (by omega) (by omega)) (by decide +kernel) (show sOK "ChanceBench" 102 M_B_choices 2 = true by decide +kernel) rfl (Nat.le_of_ble_eq_true rfl) (by decide) (by decide) (by decide) rfl rfl rfl rfl ?_
                refine aw_blk (pc' := 118) (ls' := [some (vr 0 0), some (vi a), some (vi (c1 : Int)), some (vi (d1 : Int)), some (vi (N : Int)), some (vi B), some (vi ((c1 : Int) + (d1 : Int))), some (vi (i : Int)), none, none]) (st' := [vi ((N : Int) - (i : Int)), vi (d1 : Int), vl (chs c1 (i : Int))]) [.inl (.iload_n 3), .inl (.iload 4), .inl (.iload 7), .inl (.isub)] 112 _ _ (by decide +kernel) rfl ?_
                refine aw_dS (cs' := 0) (sl' := 0) (pc' := 121) (st' := [vl (chs d1 ((N : Int) - (i : Int))), vl (chs c1 (i : Int))]) (idx := 102) (as := [vi (d1 : Int), vi ((N : Int) - (i : Int))]) (st := [vl (chs c1 (i : Int))]) (m_B_choices (n := d1) (by omega) (by omega)) (by decide +kernel) (show sOK "ChanceBench" 102 M_B_choices 2 = true by decide +kernel) rfl (Nat.le_of_ble_eq_true rfl) (by decide) (by decide) (by decide) rfl rfl rfl rfl ?_
                refine aw_blk (pc' := 122) (ls' := [some (vr 0 0), some (vi a), some (vi (c1 : Int)), some (vi (d1 : Int)), some (vi (N : Int)), some (vi B), some (vi ((c1 : Int) + (d1 : Int))), some (vi (i : Int)), none, none]) (st' := [vl ((chs c1 (i : Int)) * (chs d1 ((N : Int) - (i : Int))))]) [.inl (.lmul)] 121 _ _ (by decide +kernel) rfl ?_
                rw [show chs c1 (i : Int) * chs d1 ((N : Int) - (i : Int)) = uC (c1 : Int) (d1 : Int) (N : Int) B i by unfold uC; rw [if_pos (by omega)]; rfl]
                refine aw_blk (pc' := 130) (ls' := [some (vr 0 0), some (vi a), some (vi (c1 : Int)), some (vi (d1 : Int)), some (vi (N : Int)), some (vi B), some (vi ((c1 : Int) + (d1 : Int))), some (vi (i : Int)), some (vl (uC (c1 : Int) (d1 : Int) (N : Int) B i)), none]) (st' := [vi (i : Int), vr 3 0]) [.inl (.lstore 8), .inl (.aload_n 0), .inr (26, 0, 2), .inl (.iload 7)] 122 _ _ (by decide +kernel) rfl ?_
                refine aw_i2l (by decide +kernel) (by omega) ?_
                refine aw_blk (pc' := 133) (ls' := [some (vr 0 0), some (vi a), some (vi (c1 : Int)), some (vi (d1 : Int)), some (vi (N : Int)), some (vi B), some (vi ((c1 : Int) + (d1 : Int))), some (vi (i : Int)), some (vl (uC (c1 : Int) (d1 : Int) (N : Int) B i)), none]) (st' := [vl (uC (c1 : Int) (d1 : Int) (N : Int) B i), vl (i : Int), vr 3 0]) [.inl (.lload 8)] 131 _ _ (by decide +kernel) rfl ?_
                refine aw_rV (cs' := 0) (sl' := 0) (pc' := 136) (idx := 88) (as := [vl (i : Int), vl (uC (c1 : Int) (d1 : Int) (N : Int) B i)]) (st := []) (m_K_addR R (by omega) hu.1 (by omega)) (by decide +kernel) (show vOK "ChanceBench" 88 M_K_add 2 = true by decide +kernel) rfl rfl rfl (Nat.le_of_ble_eq_true rfl) (by decide) (by decide) (by decide) rfl rfl rfl (fun r133 h133 z133 => ?_)
                obtain ⟨rfl, nn2, rr2, ff2, gg2, R2, rfl⟩ := z133
                refine aw_blk (pc' := 139) (ls' := [some (vr 0 0), some (vi a), some (vi (c1 : Int)), some (vi (d1 : Int)), some (vi (N : Int)), some (vi B), some (vi ((c1 : Int) + (d1 : Int))), some (vi ((i : Int) + 1)), some (vl (uC (c1 : Int) (d1 : Int) (N : Int) B i)), none]) (st' := []) [.inl (.iinc 7 1)] 136 _ _ (by decide +kernel) rfl ?_
                refine aw_goto (o := -72) (tgt := 67) (by decide +kernel) (by decide) ?_
                refine aw_ls (ls' := [some (vr 0 0), some (vi a), some (vi (c1 : Int)), some (vi (d1 : Int)), some (vi (N : Int)), some (vi B), some (vi ((c1 : Int) + (d1 : Int))), some (vi ((i : Int) + 1)), none, none]) (lsk_s (lsk_s (lsk_s (lsk_s (lsk_s (lsk_s (lsk_s (lsk_s (lsk_n (lsk_n lsk_0)))))))))) ?_
                exact ih _ _ _ _ (R2.s (V := fun k => (k : Int)) (C := uC (c1 : Int) (d1 : Int) (N : Int) B) (by omega))
            · refine aw_blk (pc' := 56) (ls' := [some (vr 0 0), some (vi a), some (vi c), some (vi d), some (vi e), some (vi B), some (vi (c + d)), none, none, none]) (st' := [vi 0]) [.inl (.iconst 0)] 55 _ _ (by decide +kernel) rfl ?_
              exact aw_zret (by decide +kernel) rfl (by decide) (by decide) (by omega) (hq _ _ ⟨nn, rr, ff, gg, Or.inl ⟨rfl, fun z => z.2.1 (Or.inl (fun z => by have := z.2.2.2.2 (by omega); omega)), rfl⟩⟩)
      · rw [if_neg h3]
        refine aw_if_ne (o := 5) (tgt := 33) (by decide +kernel) (by decide) (by omega) (fun c => absurd (by omega) c) (fun _ => ?_)
        refine aw_blk (pc' := 32) (ls' := [some (vr 0 0), some (vi a), some (vi c), some (vi d), some (vi e), some (vi B), none, none, none, none]) (st' := [vi 0]) [.inl (.iconst 0)] 31 _ _ (by decide +kernel) rfl ?_
        exact aw_zret (by decide +kernel) rfl (by decide) (by decide) (by omega) (hq _ _ ⟨nn, rr, ff, gg, Or.inl ⟨rfl, fun z => z.2.1 (Or.inl (fun z => h3 z.2.2.1)), rfl⟩⟩)
    · rw [if_neg h2]
      refine aw_if_eq (o := 14) (tgt := 31) (by decide +kernel) (by decide) (by omega) (fun _ => ?_) (fun c => absurd (by omega) c)
      refine aw_blk (pc' := 32) (ls' := [some (vr 0 0), some (vi a), some (vi c), some (vi d), some (vi e), some (vi B), none, none, none, none]) (st' := [vi 0]) [.inl (.iconst 0)] 31 _ _ (by decide +kernel) rfl ?_
      exact aw_zret (by decide +kernel) rfl (by decide) (by decide) (by omega) (hq _ _ ⟨nn, rr, ff, gg, Or.inl ⟨rfl, fun z => z.2.1 (Or.inl (fun z => h2 z.2.1)), rfl⟩⟩)
  · rw [if_neg h1]
    refine aw_if_eq (o := 24) (tgt := 31) (by decide +kernel) (by decide) (by omega) (fun _ => ?_) (fun c => absurd (by omega) c)
    refine aw_blk (pc' := 32) (ls' := [some (vr 0 0), some (vi a), some (vi c), some (vi d), some (vi e), some (vi B), none, none, none, none]) (st' := [vi 0]) [.inl (.iconst 0)] 31 _ _ (by decide +kernel) rfl ?_
    exact aw_zret (by decide +kernel) rfl (by decide) (by decide) (by omega) (hq _ _ ⟨nn, rr, ff, gg, Or.inl ⟨rfl, fun z => z.2.1 (Or.inl (fun z => h1 z.1)), rfl⟩⟩)

end
end
section
/-! sums over a table up to a value -/
def cum (T : Int → Int) (t : Int) : Int := sT (fun u => if u ≤ t then T u else 0)
section
variable {T F H : Int → Int} {t v c : Int} {D B : Nat → Int} {L p k : Nat}
theorem sT_one (hv : inR v) (h : ∀ u, inR u → u ≠ v → F u = H u) : sT F = sT H + (F v - H v) := by
  have key := sumZ_one (F := fun k : Nat => F ((k : Int) - 1000)) (G := fun k : Nat => H ((k : Int) - 1000)) (p := (v + 1000).toNat) (N := 2001) (by omega) (fun k hk hp => h _ ⟨by omega, by omega⟩ (by omega))
  have ep : (((v + 1000).toNat : Int) - 1000) = v := by omega
  simp only [ep] at key
  exact key
theorem sT_0 : sT (fun _ => 0) = 0 := by unfold sT; exact sumZ_0 _
theorem sT_add : sT (fun u => F u + H u) = sT F + sT H := by unfold sT; exact sumZ_add _
theorem sT_sub : sT (fun u => F u - H u) = sT F - sT H := by unfold sT; exact sumZ_sub _
theorem sT_mul : sT (fun u => c * F u) = c * sT F := by unfold sT; exact sumZ_mul _
theorem sT_mono (h : ∀ u, inR u → F u ≤ H u) : sT F ≤ sT H := by unfold sT; exact sumZ_mono (fun i hi => h _ ⟨by omega, by omega⟩)
theorem cum_lo (h : t < -1000) : cum T t = 0 := by
  unfold cum
  rw [sT_ext (H := fun _ => 0) (fun u hu => by rw [if_neg (by omega)]), sT_0]
theorem cum_hi (h : 1000 ≤ t) : cum T t = sT T := by
  unfold cum
  exact sT_ext (fun u hu => by rw [if_pos (by omega)])
theorem cum_s (h : inR t) : cum T t = cum T (t - 1) + T t := by
  unfold cum
  rw [sT_one (F := fun u => if u ≤ t then T u else 0) (H := fun u => if u ≤ t - 1 then T u else 0) h (fun u hu hne => by
    show (if u ≤ t then T u else 0) = if u ≤ t - 1 then T u else 0
    by_cases h1 : u ≤ t - 1
    · rw [if_pos h1, if_pos (by omega)]
    · rw [if_neg h1, if_neg (by omega)])]
  simp only [if_pos (Int.le_refl t), if_neg (show ¬ t ≤ t - 1 by omega)]
  omega
/-- along values where the terms are alike -/
theorem cum_c : ∀ (d : Nat) (t : Int), -1001 ≤ t → t + (d : Int) ≤ 1000 → (∀ u, t < u → u ≤ t + (d : Int) → F u = c) → cum F (t + (d : Int)) = cum F t + c * (d : Int)
  | 0, t, _, _, _ => by simp
  | d + 1, t, h1, h2, h => by
    have e : t + ((d + 1 : Nat) : Int) - 1 = t + (d : Int) := by omega
    rw [cum_s ⟨by omega, h2⟩, e, cum_c d t h1 (by omega) (fun u a b => h u a (by omega)), h _ (by omega) (Int.le_refl _)]
    rw [show ((d + 1 : Nat) : Int) = (d : Int) + 1 by omega, Int.mul_add]; omega
theorem cum_ext (h : ∀ u, inR u → F u = H u) : cum F t = cum H t := by
  unfold cum; exact sT_ext (fun u hu => by rw [h u hu])
theorem sumZ_cut {F G : Nat → Int} : ∀ {N : Nat}, p ≤ N → (∀ i, i < p → F i = G i) → (∀ i, p ≤ i → i < N → F i = 0) → sumZ F N = sumZ G p
  | 0, h, _, _ => by
    have : p = 0 := by omega
    subst this; rfl
  | N + 1, h, e, z => by
    rcases Nat.lt_or_ge p (N + 1) with q | q
    · simp only [sumZ]
      rw [sumZ_cut (N := N) (by omega) e (fun i a b => z i a (by omega)), z N (by omega) (by omega)]; omega
    · have : p = N + 1 := by omega
      subst this; exact sumZ_ext e
/-- the running sum of a row is its table's sum up to a value -/
theorem run_cum (hs : inc D L) (hr : ∀ i, i < L → inR (D i)) (hp : p ≤ L) (h1 : ∀ i, i < p → D i ≤ t) (h2 : ∀ i, p ≤ i → i < L → t < D i) : cum (den D B L) t = sumZ B p := by
  unfold cum
  rw [tr_ (F := fun u x => if u ≤ t then x else 0) (fun u _ => by split <;> rfl) hs hr]
  exact sumZ_cut hp (fun i hi => by show (if D i ≤ t then B i else 0) = _; rw [if_pos (h1 i hi)]) (fun i a b => by
    show (if D i ≤ t then B i else 0) = _
    rw [if_neg (by have := h2 i a b; omega)])
/-- the area between -/
theorem ar_cum (hs : inc D L) (hr : ∀ i, i < L → inR (D i)) (K : Int → Int) (h0 : K 0 = 0) (ar : Nat → Int) (a0 : ar 0 = 0) (as : ∀ k, ar (k + 1) = ar k + K (sumZ B (k + 1)) * (D (k + 1) - D k)) : ∀ k, k < L → cum (fun s => K (cum (den D B L) s)) (D k - 1) = ar k
  | 0, h => by
    have hD := hr 0 h
    have e := cum_c (F := fun s => K (cum (den D B L) s)) (c := 0) (D 0 - 1 + 1001).toNat (-1001) (by omega) (by omega) (fun u a b => by
      show K (cum (den D B L) u) = 0
      rw [run_cum (p := 0) hs hr (by omega) (fun i hi => by omega) (fun i _ hi => by
        rcases Nat.eq_zero_or_pos i with z | z
        · subst z; omega
        · have := hs 0 i z hi; omega)]
      exact h0)
    rw [show (-1001 : Int) + ((D 0 - 1 + 1001).toNat : Int) = D 0 - 1 by omega, cum_lo (t := -1001) (by omega)] at e
    rw [e, a0]; simp
  | k + 1, h => by
    have hD := hr k (by omega)
    have hD1 := hr (k + 1) h
    have hlt := hs k (k + 1) (by omega) h
    have ih := ar_cum hs hr K h0 ar a0 as k (by omega)
    have e := cum_c (F := fun s => K (cum (den D B L) s)) (c := K (sumZ B (k + 1))) (D (k + 1) - D k).toNat (D k - 1) (by omega) (by omega) (fun u a b => by
      show K (cum (den D B L) u) = _
      rw [run_cum (p := k + 1) hs hr (by omega) (fun i hi => by
        rcases Nat.lt_or_ge i k with z | z
        · have := hs i k z (by omega); omega
        · have : i = k := by omega
          subst this; omega) (fun i a' hi => by
        rcases Nat.lt_or_ge (k + 1) i with z | z
        · have := hs (k + 1) i z hi; omega
        · have : i = k + 1 := by omega
          subst this; omega)])
    rw [show D k - 1 + ((D (k + 1) - D k).toNat : Int) = D (k + 1) - 1 by omega] at e
    rw [e, ih, as k, show ((D (k + 1) - D k).toNat : Int) = D (k + 1) - D k by omega]
theorem cum_last (hs : inc D L) (hr : ∀ i, i < L → inR (D i)) (hL : 1 ≤ L) (h : D (L - 1) ≤ t) : cum (den D B L) t = sumZ B L :=
  run_cum hs hr (Nat.le_refl L) (fun i hi => by
    rcases Nat.lt_or_ge i (L - 1) with z | z
    · have := hs i (L - 1) z (by omega); omega
    · have : i = L - 1 := by omega
      subst this; exact h) (fun i a b => by omega)
theorem arF_T (hs : inc D L) (hr : ∀ i, i < L → inR (D i)) (hz : sumZ B L = 0) : arF D B (L - 1) = sT (fun s => ab (cum (den D B L) s)) := by
  rcases Nat.eq_zero_or_pos L with z | z
  · subst z
    rw [sT_ext (H := fun _ => 0) (fun u _ => by
      rw [run_cum (p := 0) hs hr (by omega) (fun i hi => by omega) (fun i _ hi => by omega)]; rfl), sT_0]; rfl
  · have e := ar_cum (B := B) hs hr ab rfl (arF D B) rfl (fun k => rfl) (L - 1) (by omega)
    have hD := hr (L - 1) (by omega)
    have e2 := cum_c (F := fun s => ab (cum (den D B L) s)) (c := 0) (1000 - (D (L - 1) - 1)).toNat (D (L - 1) - 1) (by omega) (by omega) (fun u a b => by
      show ab (cum (den D B L) u) = 0
      rw [cum_last hs hr z (by omega), hz]; rfl)
    rw [show D (L - 1) - 1 + ((1000 - (D (L - 1) - 1)).toNat : Int) = 1000 by omega, cum_hi (by omega), e] at e2
    rw [e2]; simp
/-! the least value with a property, or 5000 -/
def isF (P : Int → Prop) (v : Int) : Prop := (v = 5000 ∧ ∀ u, inR u → ¬ P u) ∨ (inR v ∧ P v ∧ ∀ u, inR u → u < v → ¬ P u)
theorem isF_eq {P : Int → Prop} {v w : Int} (h1 : isF P v) (h2 : isF P w) : v = w := by
  rcases h1 with ⟨a, b⟩ | ⟨a, b, c⟩ <;> rcases h2 with ⟨a', b'⟩ | ⟨a', b', c'⟩
  · omega
  · exact absurd b' (b w a')
  · exact absurd b (b' v a)
  · rcases Int.lt_trichotomy v w with z | z | z
    · exact absurd b (c' v a z)
    · exact z
    · exact absurd b' (c w a' z)
theorem isF_ext {P Q : Int → Prop} {v : Int} (h : ∀ u, inR u → (P u ↔ Q u)) (h1 : isF P v) : isF Q v := by
  rcases h1 with ⟨a, b⟩ | ⟨a, b, c⟩
  · exact Or.inl ⟨a, fun u hu z => b u hu ((h u hu).mpr z)⟩
  · exact Or.inr ⟨a, (h v a).mp b, fun u hu l z => c u hu l ((h u hu).mpr z)⟩
theorem run_at (hs : inc D L) (hr : ∀ i, i < L → inR (D i)) (hk : k < L) (h1 : D k ≤ t) (h2 : k + 1 < L → t < D (k + 1)) : cum (den D B L) t = sumZ B (k + 1) :=
  run_cum hs hr (by omega) (fun i hi => by
    rcases Nat.lt_or_ge i k with z | z
    · have := hs i k z hk; omega
    · have : i = k := by omega
      subst this; exact h1) (fun i a hi => by
    have h3 := h2 (by omega)
    rcases Nat.lt_or_ge (k + 1) i with z | z
    · have := hs (k + 1) i z hi; omega
    · have : i = k + 1 := by omega
      subst this; exact h3)
theorem run_0 (hs : inc D L) (hr : ∀ i, i < L → inR (D i)) (h2 : 0 < L → t < D 0) : cum (den D B L) t = 0 :=
  run_cum (p := 0) hs hr (by omega) (fun i hi => by omega) (fun i _ hi => by
    have h3 := h2 (by omega)
    rcases Nat.eq_zero_or_pos i with z | z
    · subst z; exact h3
    · have := hs 0 i z hi; omega)
/-- the value's place among a row's -/
theorem place_of (hs : inc D L) (t : Int) : (∀ i, i < L → t < D i) ∨ ∃ k, k < L ∧ D k ≤ t ∧ (k + 1 < L → t < D (k + 1)) := by
  rcases Nat.eq_zero_or_pos (lb D (t + 1) L) with z | z
  · refine Or.inl (fun i hi => ?_)
    have := lb_ge (f := D) (v := t + 1) (n := L) (i := i) (by omega) hi
    omega
  · have hl := lb_le D (t + 1) L
    refine Or.inr ⟨lb D (t + 1) L - 1, by omega, ?_, fun h => ?_⟩
    · have := lb_lt (f := D) (v := t + 1) (i := lb D (t + 1) L - 1) hs (by omega); omega
    · have := lb_ge (f := D) (v := t + 1) (n := L) (i := lb D (t + 1) L - 1 + 1) (by omega) h; omega
theorem lna_F (hs : inc D L) (hr : ∀ i, i < L → inR (D i)) (hz : sumZ B L = 0) : ∀ (d k : Nat), k + d = L → (∀ i, i < k → sumZ B (i + 1) ≤ 0) → isF (fun t => 0 < cum (den D B L) (t - 1)) (lna D B d k)
  | 0, k, e, h => Or.inl ⟨rfl, fun u _ z => by
      change 0 < cum (den D B L) (u - 1) at z
      rcases place_of hs (u - 1) with q | ⟨i, hi, h1, h2⟩
      · rw [run_0 hs hr (fun z => q 0 z)] at z; omega
      · rw [run_at hs hr hi h1 h2] at z
        have := h i (by omega); omega⟩
  | d + 1, k, e, h => by
    unfold lna
    split
    · rename_i hp
      have hk : k < L := by omega
      have hDk := hr k hk
      have hkL : k + 1 < L := by
        rcases Nat.lt_or_ge (k + 1) L with z | z
        · exact z
        · have : k + 1 = L := by omega
          rw [this, hz] at hp; omega
      have hlt := hs k (k + 1) (by omega) hkL
      have hD1 := hr (k + 1) hkL
      refine Or.inr ⟨by omega, ?_, fun u hu hl z => ?_⟩
      · show 0 < cum (den D B L) (D k + 1 - 1)
        rw [run_at (k := k) hs hr hk (by omega) (fun _ => by omega)]; exact hp
      · change 0 < cum (den D B L) (u - 1) at z
        rcases place_of hs (u - 1) with q | ⟨i, hi, h1, h2⟩
        · rw [run_0 hs hr (fun z => q 0 z)] at z; omega
        · rw [run_at hs hr hi h1 h2] at z
          have hik : i < k := by
            rcases Nat.lt_or_ge i k with y | y
            · exact y
            · rcases Nat.lt_or_ge k i with x | x
              · have := hs k i x hi; omega
              · have : i = k := by omega
                subst this; omega
          have := h i hik; omega
    · rename_i hp
      exact lna_F hs hr hz d (k + 1) (by omega) (fun i hi => by
        rcases Nat.lt_or_ge i k with z | z
        · exact h i z
        · have : i = k := by omega
          subst this; omega)
/-- how much more lies over t -/
def Ov (E : Int → Int) (t : Int) : Int := sT (fun v => if t < v then (v - t) * E v else 0)
theorem Ov_cum {E : Int → Int} (h0 : sT E = 0) (h1 : sT (fun u => E u * u) = 0) : ∀ (d : Nat), Ov E ((d : Int) - 1001) = cum (fun s => cum E s) ((d : Int) - 1002)
  | 0 => by
    rw [cum_lo (by omega)]
    unfold Ov
    rw [sT_ext (H := fun v => E v * v + 1001 * E v) (fun u hu => by rw [if_pos (by omega), Int.mul_comm, Int.mul_sub, Int.mul_comm 1001]; omega), sT_add, sT_mul, h0, h1]; rfl
  | d + 1 => by
    have ih := Ov_cum h0 h1 d
    have e : Ov E (((d + 1 : Nat) : Int) - 1001) = Ov E ((d : Int) - 1001) - (sT E - cum E ((d : Int) - 1001)) := by
      unfold Ov cum
      rw [← sT_sub, ← sT_sub]
      refine sT_ext (fun u hu => ?_)
      by_cases a : u ≤ (d : Int) - 1001
      · rw [if_neg (by omega), if_neg (by omega), if_pos a]; omega
      · rw [if_pos (show (d : Int) - 1001 < u by omega), if_neg a]
        by_cases b : ((d + 1 : Nat) : Int) - 1001 < u
        · rw [if_pos b, show u - (((d + 1 : Nat) : Int) - 1001) = (u - ((d : Int) - 1001)) - 1 by omega, Int.sub_mul]; omega
        · rw [if_neg b, show u - ((d : Int) - 1001) = 1 by omega]; omega
    rw [e, ih, h0, show ((d + 1 : Nat) : Int) - 1002 = (d : Int) - 1001 by omega]
    rcases Classical.em (inR ((d : Int) - 1001)) with z | z
    · rw [cum_s (T := fun s => cum E s) z, show (d : Int) - 1001 - 1 = (d : Int) - 1002 by omega]; omega
    · rcases Int.lt_or_le ((d : Int) - 1001) (-1000) with q | q
      · rw [cum_lo (t := (d : Int) - 1002) (by omega), cum_lo (T := fun s => cum E s) q, cum_lo q]; rfl
      · rw [cum_hi (T := fun s => cum E s) (t := (d : Int) - 1002) (by omega), cum_hi (T := fun s => cum E s) (t := (d : Int) - 1001) (by omega), cum_hi (by omega), h0]; omega
theorem ov_seg (hs : inc D L) (hr : ∀ i, i < L → inR (D i)) (hk : k < L) (h1 : D k ≤ t) (h2 : k + 1 < L → t ≤ D (k + 1)) (h3 : t ≤ 1000) : cum (fun s => cum (den D B L) s) (t - 1) = ovF D B k + sumZ B (k + 1) * (t - D k) := by
  have hD := hr k hk
  have e := ar_cum (B := B) hs hr (fun x => x) rfl (ovF D B) rfl (fun k => rfl) k hk
  have e2 := cum_c (F := fun s => cum (den D B L) s) (c := sumZ B (k + 1)) (t - D k).toNat (D k - 1) (by omega) (by omega) (fun u a b => by
    show cum (den D B L) u = _
    exact run_at hs hr hk (by omega) (fun z => by have := h2 z; omega))
  rw [show D k - 1 + ((t - D k).toNat : Int) = t - 1 by omega, e, show ((t - D k).toNat : Int) = t - D k by omega] at e2
  exact e2
theorem ov_0 (hs : inc D L) (hr : ∀ i, i < L → inR (D i)) (h0 : 0 < L → t ≤ D 0) (h3 : t ≤ 1000) : cum (fun s => cum (den D B L) s) (t - 1) = 0 := by
  rcases Int.lt_or_le (t - 1) (-1000) with z | z
  · exact cum_lo z
  · have e2 := cum_c (F := fun s => cum (den D B L) s) (c := 0) (t - 1 + 1001).toNat (-1001) (by omega) (by omega) (fun u a b => by
      show cum (den D B L) u = _
      exact run_0 hs hr (fun z => by have := h0 z; omega))
    rw [show (-1001 : Int) + ((t - 1 + 1001).toNat : Int) = t - 1 by omega, cum_lo (t := -1001) (by omega)] at e2
    rw [e2]; simp
theorem lms_F (hs : inc D L) (hr : ∀ i, i < L → inR (D i)) (hz : sumZ B L = 0) (hm : cum (fun s => cum (den D B L) s) 1000 = 0) : ∀ (d k : Nat), k + 1 + d = L → ovF D B k ≤ 0 → (∀ u, inR u → u ≤ D k → ¬ 0 < cum (fun s => cum (den D B L) s) (u - 1)) → isF (fun t => 0 < cum (fun s => cum (den D B L) s) (t - 1)) (lms D B d k)
  | 0, k, e, ho, h => Or.inl ⟨rfl, fun u hu z => by
      rcases Int.lt_or_le (D k) u with q | q
      · have hk : k < L := by omega
        have e1 := ov_seg (B := B) (t := u) hs hr hk (by omega) (fun z => by omega) (by omega)
        rw [show k + 1 = L by omega, hz] at e1
        have z' : 0 < cum (fun s => cum (den D B L) s) (u - 1) := z
        rw [e1] at z'; omega
      · exact h u hu q z⟩
  | d + 1, k, e, ho, h => by
    have hk : k < L := by omega
    have hDk := hr k hk
    have hD1 := hr (k + 1) (by omega)
    have hlt := hs k (k + 1) (by omega) (by omega)
    have seg : ∀ t, D k ≤ t → t ≤ D (k + 1) → cum (fun s => cum (den D B L) s) (t - 1) = ovF D B k + sumZ B (k + 1) * (t - D k) := fun t a b => ov_seg hs hr hk a (fun _ => b) (by omega)
    have q0 : 0 < sumZ B (k + 1) → 0 ≤ -(ovF D B k) / sumZ B (k + 1) ∧ sumZ B (k + 1) * (-(ovF D B k) / sumZ B (k + 1)) ≤ -(ovF D B k) ∧ -(ovF D B k) < sumZ B (k + 1) * (-(ovF D B k) / sumZ B (k + 1) + 1) := fun hp => by
      refine ⟨Int.ediv_nonneg (by omega) (by omega), Int.mul_ediv_self_le (by omega), ?_⟩
      have := Int.lt_mul_ediv_self_add (x := -(ovF D B k)) hp
      rw [Int.mul_add]; omega
    unfold lms
    rw [Int.tdiv_eq_ediv_of_nonneg (by omega)]
    split
    · rename_i hp
      obtain ⟨q1, q2, q3⟩ := q0 hp.1
      refine Or.inr ⟨by omega, ?_, fun u hu hl z => ?_⟩
      · show 0 < cum (fun s => cum (den D B L) s) (D k + (-(ovF D B k) / sumZ B (k + 1) + 1) - 1)
        rw [seg _ (by omega) (by omega), show D k + (-(ovF D B k) / sumZ B (k + 1) + 1) - D k = -(ovF D B k) / sumZ B (k + 1) + 1 by omega]; omega
      · rcases Int.lt_or_le (D k) u with q | q
        · have z' : 0 < cum (fun s => cum (den D B L) s) (u - 1) := z
          rw [seg u (by omega) (by omega)] at z'
          have := Int.mul_le_mul_of_nonneg_left (show u - D k ≤ -(ovF D B k) / sumZ B (k + 1) by omega) (show 0 ≤ sumZ B (k + 1) by omega)
          omega
        · exact h u hu q z
    · rename_i hp
      have all : ∀ t, D k ≤ t → t ≤ D (k + 1) → cum (fun s => cum (den D B L) s) (t - 1) ≤ 0 := fun t a b => by
        rw [seg t a b]
        rcases Int.lt_or_le 0 (sumZ B (k + 1)) with q | q
        · obtain ⟨q1, q2, q3⟩ := q0 q
          have : t - D k ≤ -(ovF D B k) / sumZ B (k + 1) := by
            rcases Int.lt_or_le (-(ovF D B k) / sumZ B (k + 1)) (t - D k) with y | y
            · exact absurd ⟨q, by omega⟩ hp
            · exact y
          have := Int.mul_le_mul_of_nonneg_left this (show 0 ≤ sumZ B (k + 1) by omega)
          omega
        · have := Int.mul_nonneg (show 0 ≤ -(sumZ B (k + 1)) by omega) (show 0 ≤ t - D k by omega)
          rw [Int.neg_mul] at this; omega
      refine lms_F hs hr hz hm d (k + 1) (by omega) ?_ (fun u hu hl z => ?_)
      · have := all (D (k + 1)) (by omega) (Int.le_refl _)
        rw [seg _ (by omega) (Int.le_refl _)] at this
        exact this
      · rcases Int.lt_or_le (D k) u with q | q
        · have := all u (by omega) hl
          have z' : 0 < cum (fun s => cum (den D B L) s) (u - 1) := z
          omega
        · exact h u hu q z
end
end
section
def prt (a c d : Int) : Int := if d = 0 then Int.tdiv a (gc a c) else Int.tdiv c (gc a c)
abbrev Ed (n m : Nat) (at_ wt at2 wt2 : Nat → Int) (W W2 : Int) (u : Int) : Int := W2 * den at_ wt n u - W * den at2 wt2 m u
section
variable {at_ wt at2 wt2 D B : Nat → Int} {n m L k : Nat} {W W2 t c : Int} {F : Nat → Int}
theorem lw_sum (A : lwN n at_ wt W) {F : Nat → Int} {K : Int} (h : ∀ i, i < n → -(K * wt i) ≤ F i ∧ F i ≤ K * wt i) : -(K * W) ≤ sumZ F n ∧ sumZ F n ≤ K * W := by
  rw [A.2.2.2.2.2, ← sumZ_mul]
  have a := sumZ_mono (n := n) (fun i hi => (h i hi).2)
  have b := sumZ_mono (n := n) (f := fun i => -1 * F i) (g := fun i => K * wt i) (fun i hi => by have := (h i hi).1; omega)
  rw [sumZ_mul] at b
  omega
theorem lw_tot (A : lwN n at_ wt W) : sT (den at_ wt n) = W := by
  rw [A.2.2.2.2.2]
  exact tr_ (F := fun _ x => x) (fun _ _ => rfl) A.2.1 (fun i hi => (A.2.2.1 i hi).1)
theorem lw_nn (A : lwN n at_ wt W) (u : Int) : 0 ≤ den at_ wt n u := den_nn (fun i hi => by have := (A.2.2.1 i hi).2; omega)
theorem lw_cum (A : lwN n at_ wt W) (t : Int) : 0 ≤ cum (den at_ wt n) t ∧ cum (den at_ wt n) t ≤ W := by
  unfold cum
  constructor
  · have := sT_mono (F := fun _ => 0) (H := fun u => if u ≤ t then den at_ wt n u else 0) (fun u _ => by have := lw_nn A u; split <;> omega)
    rw [sT_0] at this; exact this
  · have e := lw_tot A
    have := sT_mono (F := fun u => if u ≤ t then den at_ wt n u else 0) (H := den at_ wt n) (fun u _ => by have := lw_nn A u; split <;> omega)
    omega
theorem Ed_cum (t : Int) : cum (Ed n m at_ wt at2 wt2 W W2) t = W2 * cum (den at_ wt n) t - W * cum (den at2 wt2 m) t := by
  unfold cum
  rw [← sT_mul, ← sT_mul, ← sT_sub]
  exact sT_ext (fun u _ => by
    by_cases h : u ≤ t
    · rw [if_pos h, if_pos h, if_pos h]
    · rw [if_neg h, if_neg h, if_neg h]; simp)
theorem Ed_tot (A : lwN n at_ wt W) (A2 : lwN m at2 wt2 W2) : sT (Ed n m at_ wt at2 wt2 W W2) = 0 := by
  unfold Ed
  rw [sT_sub, sT_mul, sT_mul, lw_tot A, lw_tot A2, Int.mul_comm]; omega
theorem Ed_in (A : lwN n at_ wt W) (A2 : lwN m at2 wt2 W2) (t : Int) : -1099511627776 ≤ cum (Ed n m at_ wt at2 wt2 W W2) t ∧ cum (Ed n m at_ wt at2 wt2 W W2) t ≤ 1099511627776 := by
  rw [Ed_cum]
  have a := lw_cum A t
  have b := lw_cum A2 t
  have a1 := A.2.2.2
  have b1 := A2.2.2.2
  have := mulB (x := W2) (y := cum (den at_ wt n) t) (by omega) (by omega) (by omega) (by omega)
  have := mulB (x := W) (y := cum (den at2 wt2 m) t) (by omega) (by omega) (by omega) (by omega)
  omega
theorem ab_nn (x : Int) : 0 ≤ ab x := by unfold ab; split <;> omega
theorem ab_le {x y : Int} (h : -y ≤ x ∧ x ≤ y) : ab x ≤ y := by unfold ab; split <;> omega
end
section
variable {at_ wt at2 wt2 D B : Nat → Int} {n m L k : Nat} {W W2 t c : Int}
theorem sT_in {F : Int → Int} {K : Int} (h : ∀ u, inR u → -K ≤ F u ∧ F u ≤ K) : -(2001 * K) ≤ sT F ∧ sT F ≤ 2001 * K := by
  have e : ∀ x : Int, sT (fun _ => x) = 2001 * x := fun x => by
    unfold sT
    have : ∀ N : Nat, sumZ (fun _ => x) N = (N : Int) * x := fun N => by
      induction N with
      | zero => simp [sumZ]
      | succ N ih => simp only [sumZ]; rw [ih, show ((N + 1 : Nat) : Int) = (N : Int) + 1 by omega, Int.add_mul]; omega
    exact this 2001
  have a := sT_mono (F := F) (H := fun _ => K) (fun u hu => (h u hu).2)
  have b := sT_mono (F := fun _ => -K) (H := F) (fun u hu => (h u hu).1)
  rw [e] at a b
  omega
theorem cum_in {F : Int → Int} {K : Int} (h : ∀ u, inR u → -K ≤ F u ∧ F u ≤ K) (hK : 0 ≤ K) : -(2001 * K) ≤ cum F t ∧ cum F t ≤ 2001 * K := by
  unfold cum
  exact sT_in (fun u hu => by have := h u hu; split <;> omega)
/-- what is known of a difference that was taken -/
def tkD (n m : Nat) (at_ wt at2 wt2 : Nat → Int) (W W2 : Int) (L : Nat) (D B : Nat → Int) : Prop :=
  L ≤ 48 ∧ inc D L ∧ (∀ i, i < L → inR (D i)) ∧ den D B L = Ed n m at_ wt at2 wt2 W W2 ∧ sumZ B L = 0 ∧ (∀ k, k ≤ L → -1099511627776 ≤ sumZ B k ∧ sumZ B k ≤ 1099511627776) ∧ ∀ k, k < L → -4611686018427387904 ≤ ovF D B k ∧ ovF D B k ≤ 4611686018427387904
theorem tk_D (A : lwN n at_ wt W) (A2 : lwN m at2 wt2 W2) (h : tkI n m at_ wt at2 wt2 W W2 n m L D B) : tkD n m at_ wt at2 wt2 W W2 L D B := by
  obtain ⟨h1, hs, hr, he, _, _⟩ := h
  have hn := A.1
  have hm := A2.1
  have e : den D B L = Ed n m at_ wt at2 wt2 W W2 := funext (fun u => he u)
  have hz : sumZ B L = 0 := by
    have := tr_ (F := fun _ x => x) (f := D) (g := B) (fun _ _ => rfl) hs hr
    rw [← this]
    show sT (den D B L) = 0
    rw [e, Ed_tot A A2]
  refine ⟨by omega, hs, hr, e, hz, fun k hk => ?_, fun k hk => ?_⟩
  · rcases Nat.eq_zero_or_pos k with z | z
    · subst z; simp [sumZ]
    · have := run_at (B := B) (k := k - 1) (t := D (k - 1)) hs hr (by omega) (Int.le_refl _) (fun q => by have := hs (k - 1) (k - 1 + 1) (by omega) q; exact this)
      rw [show k - 1 + 1 = k by omega, e] at this
      rw [← this]; exact Ed_in A A2 _
  · have := ar_cum (B := B) hs hr (fun x => x) rfl (ovF D B) rfl (fun k => rfl) k hk
    rw [← this, e]
    have := cum_in (F := fun s => cum (Ed n m at_ wt at2 wt2 W W2) s) (t := D k - 1) (fun u _ => Ed_in A A2 u) (by omega)
    omega
theorem tkD.size (K : tkD n m at_ wt at2 wt2 W W2 L D B) : sumZ (fun k => ab (B k)) L = sT (fun u => ab (Ed n m at_ wt at2 wt2 W W2 u)) := by
  rw [← K.2.2.2.1]; exact (tr_ (F := fun _ x => ab x) (fun _ _ => rfl) K.2.1 K.2.2.1).symm
theorem tkD.means (K : tkD n m at_ wt at2 wt2 W W2 L D B) : sumZ (fun k => B k * D k) L = sT (fun u => Ed n m at_ wt at2 wt2 W W2 u * u) := by
  rw [← K.2.2.2.1]; exact (tr_ (F := fun u x => x * u) (fun _ _ => by simp) K.2.1 K.2.2.1).symm
theorem tkD.area (K : tkD n m at_ wt at2 wt2 W W2 L D B) : arF D B (L - 1) = sT (fun s => ab (cum (Ed n m at_ wt at2 wt2 W W2) s)) := by
  rw [← K.2.2.2.1]; exact arF_T K.2.1 K.2.2.1 K.2.2.2.2.1
theorem tkD.lna (K : tkD n m at_ wt at2 wt2 W W2 L D B) : isF (fun t => 0 < cum (Ed n m at_ wt at2 wt2 W W2) (t - 1)) (lna D B L 0) := by
  rw [← K.2.2.2.1]; exact lna_F K.2.1 K.2.2.1 K.2.2.2.2.1 L 0 (by omega) (fun i hi => by omega)
theorem tkD.lms (K : tkD n m at_ wt at2 wt2 W W2 L D B) (A : lwN n at_ wt W) (A2 : lwN m at2 wt2 W2) (hm : sT (fun u => Ed n m at_ wt at2 wt2 W W2 u * u) = 0) : isF (fun t => 0 < Ov (Ed n m at_ wt at2 wt2 W W2) t) (lms D B (L - 1) 0) := by
  have ht := Ed_tot A A2
  have ov : ∀ u, inR u → Ov (Ed n m at_ wt at2 wt2 W W2) u = cum (fun s => cum (Ed n m at_ wt at2 wt2 W W2) s) (u - 1) := fun u hu => by
    have := Ov_cum ht hm (u + 1001).toNat
    rw [show ((u + 1001).toNat : Int) - 1001 = u by omega, show ((u + 1001).toNat : Int) - 1002 = u - 1 by omega] at this
    exact this
  have hc : cum (fun s => cum (den D B L) s) 1000 = 0 := by
    have := Ov_cum ht hm 2002
    rw [K.2.2.2.1]
    rw [show ((2002 : Nat) : Int) - 1002 = 1000 by omega] at this
    rw [← this]
    unfold Ov
    rw [sT_ext (H := fun _ => 0) (fun u hu => by rw [if_neg (by omega)]), sT_0]
  refine isF_ext (P := fun t => 0 < cum (fun s => cum (Ed n m at_ wt at2 wt2 W W2) s) (t - 1)) (fun u hu => by rw [ov u hu]) ?_
  rcases Nat.eq_zero_or_pos L with z | z
  · subst z
    refine Or.inl ⟨rfl, fun u hu q => ?_⟩
    have e : cum (fun s => cum (den D B 0) s) (u - 1) = 0 := ov_0 K.2.1 K.2.2.1 (fun z => by omega) (by omega)
    rw [K.2.2.2.1] at e
    change 0 < cum (fun s => cum (Ed n m at_ wt at2 wt2 W W2) s) (u - 1) at q
    omega
  · have := lms_F (D := D) (B := B) K.2.1 K.2.2.1 K.2.2.2.2.1 hc (L - 1) 0 (by omega) (Int.le_refl _) (fun u hu hl q => by
      rw [ov_0 K.2.1 K.2.2.1 (fun _ => hl) (by omega)] at q; omega)
    rw [K.2.2.2.1] at this
    exact this
end
section
variable {G : GT} {h : HT} {b s t mk df jo tr di mo dy : SG} {a c d e B bd tk : Int} {n m k k1 k2 q q1 q2 j nn len : Nat} {f g ff gg ft at_ wt at2 wt2 : Nat → Int} {rf rr W W2 : Int} {T : Int → Int} {by_ : Prop} {laws ahead made : Nat → Option (Nat × Nat)} {slot : Nat → Int} {od dn un : Nat}
theorem m_B_values (hI : I32 e) (hl1 : lawAt laws e = some (9, k)) (hA : isD dy k k1 k2 n at_ wt W) (A : lwN n at_ wt W) : ADet G M_B_values [vr 0 0, vi e] (Hp (sgB bd tk) (sgS laws slot ahead made (od : Int) (dn : Int) (un : Int)) t (sgK (nn : Int) rr ff gg) df jo tr di mo dy) (some (vi (n : Int))) (Hp (sgB bd tk) (sgS laws slot ahead made (od : Int) (dn : Int) (un : Int)) t (sgK (nn : Int) rr ff gg) df jo tr di mo dy) := by
  refine am_det (by decide +kernel) (Nat.le_of_ble_eq_true rfl) (fun Qr Qt hq => ?_)
  have hn := A.1
  refine aw_blk (pc' := 5) (ls' := [some (vr 0 0), some (vi e), none]) (st' := [vi e, vr 1 0]) [.inl (.aload_n 0), .inr (10, 0, 0), .inl (.iload_n 1)] 0 _ _ (by decide +kernel) rfl ?_
  refine aw_dV (cs' := 0) (sl' := 0) (pc' := 8) (st' := [vo (lawAt laws e)]) (idx := 117) (as := [vi e]) (st := []) (m_S_lawIn hI) (by decide +kernel) (show vOK "ChanceBench" 117 M_S_lawIn 1 = true by decide +kernel) rfl rfl rfl (Nat.le_of_ble_eq_true rfl) (by decide) (by decide) (by decide) rfl rfl rfl rfl ?_
  rw [hl1]
  refine aw_blk (pc' := 10) (ls' := [some (vr 0 0), some (vi e), some (vr 9 k)]) (st' := [vr 9 k]) [.inl (.astore_n 2), .inl (.aload_n 2)] 8 _ _ (by decide +kernel) rfl ?_
  refine aw_ifnonnull (o := 7) (tgt := 17) (by decide +kernel) (by decide) (fun _ _ => ?_) (fun z => nomatch z)
  refine aw_blk (pc' := 18) (ls' := [some (vr 0 0), some (vi e), some (vr 9 k)]) (st' := [vr 9 k]) [.inl (.aload_n 2)] 17 _ _ (by decide +kernel) rfl ?_
  refine aw_get (idx := 121) (ci := 9) (f := 0) (by decide +kernel) (by decide +kernel) hA.1 rfl ?_
  refine aw_alen (by decide +kernel) hA.2.1 (fun r21 => ?_)
  exact aw_iret (by decide +kernel) rfl (by decide) (by decide) (hq _ _ rfl rfl)

theorem m_B_values_0 (hI : I32 e) (hl1 : lawAt laws e = none) : ADet G M_B_values [vr 0 0, vi e] (Hp (sgB bd tk) (sgS laws slot ahead made (od : Int) (dn : Int) (un : Int)) t (sgK (nn : Int) rr ff gg) df jo tr di mo dy) (some (vi 0)) (Hp (sgB bd tk) (sgS laws slot ahead made (od : Int) (dn : Int) (un : Int)) t (sgK (nn : Int) rr ff gg) df jo tr di mo dy) := by
  refine am_det (by decide +kernel) (Nat.le_of_ble_eq_true rfl) (fun Qr Qt hq => ?_)
  refine aw_blk (pc' := 5) (ls' := [some (vr 0 0), some (vi e), none]) (st' := [vi e, vr 1 0]) [.inl (.aload_n 0), .inr (10, 0, 0), .inl (.iload_n 1)] 0 _ _ (by decide +kernel) rfl ?_
  refine aw_dV (cs' := 0) (sl' := 0) (pc' := 8) (st' := [vo (lawAt laws e)]) (idx := 117) (as := [vi e]) (st := []) (m_S_lawIn hI) (by decide +kernel) (show vOK "ChanceBench" 117 M_S_lawIn 1 = true by decide +kernel) rfl rfl rfl (Nat.le_of_ble_eq_true rfl) (by decide) (by decide) (by decide) rfl rfl rfl rfl ?_
  rw [hl1]
  refine aw_blk (pc' := 10) (ls' := [some (vr 0 0), some (vi e), some (vn)]) (st' := [vn]) [.inl (.astore_n 2), .inl (.aload_n 2)] 8 _ _ (by decide +kernel) rfl ?_
  refine aw_ifnonnull (o := 7) (tgt := 17) (by decide +kernel) (by decide) (fun _ z => nomatch z) (fun _ => ?_)
  refine aw_blk (pc' := 14) (ls' := [some (vr 0 0), some (vi e), some (vn)]) (st' := [vi 0]) [.inl (.iconst 0)] 13 _ _ (by decide +kernel) rfl ?_
  refine aw_goto (o := 8) (tgt := 22) (by decide +kernel) (by decide) ?_
  exact aw_iret (by decide +kernel) rfl (by decide) (by decide) (hq _ _ rfl rfl)

theorem m_B_chance_t (hI : I32 e) (hl1 : lawAt laws e = none) : AThr G M_B_chance [vr 0 0, vi e, vi c, vi d] (Hp (sgB bd tk) (sgS laws slot ahead made (od : Int) (dn : Int) (un : Int)) t (sgK (nn : Int) rr ff gg) df jo tr di mo dy) := by
  refine am_thr (by decide +kernel) (Nat.le_of_ble_eq_true rfl) (fun Qr Qt hq => ?_)
  refine aw_blk (pc' := 2) (ls' := [some (vr 0 0), some (vi e), some (vi c), some (vi d), none, none]) (st' := [vi e, vr 0 0]) [.inl (.aload_n 0), .inl (.iload_n 1)] 0 _ _ (by decide +kernel) rfl ?_
  exact aw_tV (idx := 143) (as := [vi e]) (st := []) (m_B_lawOf_t hI hl1) (by decide +kernel) (show vOK "ChanceBench" 143 M_B_lawOf 1 = true by decide +kernel) rfl rfl rfl (Nat.le_of_ble_eq_true rfl) (by decide) (by decide) (by decide) hq

theorem m_B_below_t (hI : I32 e) (hl1 : lawAt laws e = none) : AThr G M_B_below [vr 0 0, vi e, vi c, vi d] (Hp (sgB bd tk) (sgS laws slot ahead made (od : Int) (dn : Int) (un : Int)) t (sgK (nn : Int) rr ff gg) df jo tr di mo dy) := by
  refine am_thr (by decide +kernel) (Nat.le_of_ble_eq_true rfl) (fun Qr Qt hq => ?_)
  refine aw_blk (pc' := 2) (ls' := [some (vr 0 0), some (vi e), some (vi c), some (vi d), none]) (st' := [vi e, vr 0 0]) [.inl (.aload_n 0), .inl (.iload_n 1)] 0 _ _ (by decide +kernel) rfl ?_
  exact aw_tV (idx := 143) (as := [vi e]) (st := []) (m_B_lawOf_t hI hl1) (by decide +kernel) (show vOK "ChanceBench" 143 M_B_lawOf 1 = true by decide +kernel) rfl rfl rfl (Nat.le_of_ble_eq_true rfl) (by decide) (by decide) (by decide) hq

theorem m_B_mean_t (hI : I32 e) (hl1 : lawAt laws e = none) : AThr G M_B_mean [vr 0 0, vi e, vi d] (Hp (sgB bd tk) (sgS laws slot ahead made (od : Int) (dn : Int) (un : Int)) t (sgK (nn : Int) rr ff gg) df jo tr di mo dy) := by
  refine am_thr (by decide +kernel) (Nat.le_of_ble_eq_true rfl) (fun Qr Qt hq => ?_)
  refine aw_blk (pc' := 2) (ls' := [some (vr 0 0), some (vi e), some (vi d), none]) (st' := [vi e, vr 0 0]) [.inl (.aload_n 0), .inl (.iload_n 1)] 0 _ _ (by decide +kernel) rfl ?_
  exact aw_tV (idx := 143) (as := [vi e]) (st := []) (m_B_lawOf_t hI hl1) (by decide +kernel) (show vOK "ChanceBench" 143 M_B_lawOf 1 = true by decide +kernel) rfl rfl rfl (Nat.le_of_ble_eq_true rfl) (by decide) (by decide) (by decide) hq

theorem m_B_variance_t (hI : I32 e) (hl1 : lawAt laws e = none) : AThr G M_B_variance [vr 0 0, vi e, vi d] (Hp (sgB bd tk) (sgS laws slot ahead made (od : Int) (dn : Int) (un : Int)) t (sgK (nn : Int) rr ff gg) df jo tr di mo dy) := by
  refine am_thr (by decide +kernel) (Nat.le_of_ble_eq_true rfl) (fun Qr Qt hq => ?_)
  refine aw_blk (pc' := 2) (ls' := [some (vr 0 0), some (vi e), some (vi d), none, none, none, none, none]) (st' := [vi e, vr 0 0]) [.inl (.aload_n 0), .inl (.iload_n 1)] 0 _ _ (by decide +kernel) rfl ?_
  exact aw_tV (idx := 143) (as := [vi e]) (st := []) (m_B_lawOf_t hI hl1) (by decide +kernel) (show vOK "ChanceBench" 143 M_B_lawOf 1 = true by decide +kernel) rfl rfl rfl (Nat.le_of_ble_eq_true rfl) (by decide) (by decide) (by decide) hq

theorem m_B_value_t (hI : I32 e) (hl1 : lawAt laws e = none) : AThr G M_B_value [vr 0 0, vi e, vi d] (Hp (sgB bd tk) (sgS laws slot ahead made (od : Int) (dn : Int) (un : Int)) t (sgK (nn : Int) rr ff gg) df jo tr di mo dy) := by
  refine am_thr (by decide +kernel) (Nat.le_of_ble_eq_true rfl) (fun Qr Qt hq => ?_)
  refine aw_blk (pc' := 2) (ls' := [some (vr 0 0), some (vi e), some (vi d), none]) (st' := [vi e, vr 0 0]) [.inl (.aload_n 0), .inl (.iload_n 1)] 0 _ _ (by decide +kernel) rfl ?_
  exact aw_tV (idx := 143) (as := [vi e]) (st := []) (m_B_lawOf_t hI hl1) (by decide +kernel) (show vOK "ChanceBench" 143 M_B_lawOf 1 = true by decide +kernel) rfl rfl rfl (Nat.le_of_ble_eq_true rfl) (by decide) (by decide) (by decide) hq

theorem m_B_open_t (hI : I32 e) (hl1 : lawAt laws e = none) : AThr G M_B_open [vr 0 0, vi e, vi d] (Hp (sgB bd tk) (sgS laws slot ahead made (od : Int) (dn : Int) (un : Int)) t (sgK (nn : Int) rr ff gg) df jo tr di mo dy) := by
  refine am_thr (by decide +kernel) (Nat.le_of_ble_eq_true rfl) (fun Qr Qt hq => ?_)
  refine aw_blk (pc' := 2) (ls' := [some (vr 0 0), some (vi e), some (vi d), none]) (st' := [vi e, vr 0 0]) [.inl (.aload_n 0), .inl (.iload_n 1)] 0 _ _ (by decide +kernel) rfl ?_
  exact aw_tV (idx := 143) (as := [vi e]) (st := []) (m_B_lawOf_t hI hl1) (by decide +kernel) (show vOK "ChanceBench" 143 M_B_lawOf 1 = true by decide +kernel) rfl rfl rfl (Nat.le_of_ble_eq_true rfl) (by decide) (by decide) (by decide) hq

theorem m_B_leaf_t (hI : I32 e) (hl1 : lawAt laws e = none) : AThr G M_B_leaf [vr 0 0, vi e, vi c, vi d] (Hp (sgB bd tk) (sgS laws slot ahead made (od : Int) (dn : Int) (un : Int)) t (sgK (nn : Int) rr ff gg) df jo tr di mo dy) := by
  refine am_thr (by decide +kernel) (Nat.le_of_ble_eq_true rfl) (fun Qr Qt hq => ?_)
  refine aw_blk (pc' := 2) (ls' := [some (vr 0 0), some (vi e), some (vi c), some (vi d), none]) (st' := [vi e, vr 0 0]) [.inl (.aload_n 0), .inl (.iload_n 1)] 0 _ _ (by decide +kernel) rfl ?_
  exact aw_tV (idx := 143) (as := [vi e]) (st := []) (m_B_lawOf_t hI hl1) (by decide +kernel) (show vOK "ChanceBench" 143 M_B_lawOf 1 = true by decide +kernel) rfl rfl rfl (Nat.le_of_ble_eq_true rfl) (by decide) (by decide) (by decide) hq

theorem m_B_lots_t (hI : I32 e) (hl1 : lawAt laws e = none) : AThr G M_B_lots [vr 0 0, vi e, vi c, vi d] (Hp (sgB bd tk) (sgS laws slot ahead made (od : Int) (dn : Int) (un : Int)) t (sgK (nn : Int) rr ff gg) df jo tr di mo dy) := by
  refine am_thr (by decide +kernel) (Nat.le_of_ble_eq_true rfl) (fun Qr Qt hq => ?_)
  refine aw_blk (pc' := 2) (ls' := [some (vr 0 0), some (vi e), some (vi c), some (vi d), none, none, none, none, none, none]) (st' := [vi e, vr 0 0]) [.inl (.aload_n 0), .inl (.iload_n 1)] 0 _ _ (by decide +kernel) rfl ?_
  exact aw_tV (idx := 143) (as := [vi e]) (st := []) (m_B_lawOf_t hI hl1) (by decide +kernel) (show vOK "ChanceBench" 143 M_B_lawOf 1 = true by decide +kernel) rfl rfl rfl (Nat.le_of_ble_eq_true rfl) (by decide) (by decide) (by decide) hq

theorem m_B_draw_t (hI : I32 e) (hl1 : lawAt laws e = none) : AThr G M_B_draw [vr 0 0, vi e] (Hp (sgB bd tk) (sgS laws slot ahead made (od : Int) (dn : Int) (un : Int)) t (sgK (nn : Int) rr ff gg) df jo tr di mo dy) := by
  refine am_thr (by decide +kernel) (Nat.le_of_ble_eq_true rfl) (fun Qr Qt hq => ?_)
  refine aw_blk (pc' := 2) (ls' := [some (vr 0 0), some (vi e), none, none, none, none, none]) (st' := [vi e, vr 0 0]) [.inl (.aload_n 0), .inl (.iload_n 1)] 0 _ _ (by decide +kernel) rfl ?_
  exact aw_tV (idx := 143) (as := [vi e]) (st := []) (m_B_lawOf_t hI hl1) (by decide +kernel) (show vOK "ChanceBench" 143 M_B_lawOf 1 = true by decide +kernel) rfl rfl rfl (Nat.le_of_ble_eq_true rfl) (by decide) (by decide) (by decide) hq

theorem m_B_value (hI : I32 e) (hd0 : 0 ≤ d ∧ d < (n : Int)) (hl1 : lawAt laws e = some (9, k)) (hA : isD dy k k1 k2 n at_ wt W) (A : lwN n at_ wt W) : ADet G M_B_value [vr 0 0, vi e, vi d] (Hp (sgB bd tk) (sgS laws slot ahead made (od : Int) (dn : Int) (un : Int)) t (sgK (nn : Int) rr ff gg) df jo tr di mo dy) (some (vi (at_ d.toNat))) (Hp (sgB bd tk) (sgS laws slot ahead made (od : Int) (dn : Int) (un : Int)) t (sgK (nn : Int) rr ff gg) df jo tr di mo dy) := by
  refine am_det (by decide +kernel) (Nat.le_of_ble_eq_true rfl) (fun Qr Qt hq => ?_)
  have hn := A.1
  refine aw_blk (pc' := 2) (ls' := [some (vr 0 0), some (vi e), some (vi d), none]) (st' := [vi e, vr 0 0]) [.inl (.aload_n 0), .inl (.iload_n 1)] 0 _ _ (by decide +kernel) rfl ?_
  refine aw_dV (cs' := 1) (sl' := 6) (pc' := 5) (st' := [vr 9 k]) (idx := 143) (as := [vi e]) (st := []) (m_B_lawOf hI hl1) (by decide +kernel) (show vOK "ChanceBench" 143 M_B_lawOf 1 = true by decide +kernel) rfl rfl rfl (Nat.le_of_ble_eq_true rfl) (by decide) (by decide) (by decide) rfl rfl rfl rfl ?_
  refine aw_blk (pc' := 7) (ls' := [some (vr 0 0), some (vi e), some (vi d), some (vr 9 k)]) (st' := [vi d]) [.inl (.astore_n 3), .inl (.iload_n 2)] 5 _ _ (by decide +kernel) rfl ?_
  refine aw_if_lt (o := 12) (tgt := 19) (by decide +kernel) (by decide) (by omega) (fun c => absurd c (by omega)) (fun _ => ?_)
  refine aw_blk (pc' := 12) (ls' := [some (vr 0 0), some (vi e), some (vi d), some (vr 9 k)]) (st' := [vr 9 k, vi d]) [.inl (.iload_n 2), .inl (.aload_n 3)] 10 _ _ (by decide +kernel) rfl ?_
  refine aw_get (idx := 121) (ci := 9) (f := 0) (by decide +kernel) (by decide +kernel) hA.1 rfl ?_
  refine aw_alen (by decide +kernel) hA.2.1 (fun r15 => ?_)
  refine aw_icmp_lt (o := 11) (tgt := 27) (by decide +kernel) (by decide) (by omega) (by omega) (fun _ => ?_) (fun c => absurd (by omega) c)
  obtain ⟨D, rfl⟩ : ∃ D : Nat, d = (D : Int) := ⟨d.toNat, by omega⟩
  refine aw_blk (pc' := 28) (ls' := [some (vr 0 0), some (vi e), some (vi (D : Int)), some (vr 9 k)]) (st' := [vr 9 k]) [.inl (.aload_n 3)] 27 _ _ (by decide +kernel) rfl ?_
  refine aw_get (idx := 121) (ci := 9) (f := 0) (by decide +kernel) (by decide +kernel) hA.1 rfl ?_
  refine aw_blk (pc' := 32) (ls' := [some (vr 0 0), some (vi e), some (vi (D : Int)), some (vr 9 k)]) (st' := [vi (D : Int), vr 9 k1]) [.inl (.iload_n 2)] 31 _ _ (by decide +kernel) rfl ?_
  refine aw_iald (j := D) (by decide +kernel) hA.2.1 (by omega) (by omega) (fun r32 => ?_)
  exact aw_iret (by decide +kernel) rfl (by decide) (by decide) (hq _ _ rfl rfl)

theorem m_B_value_t2 (hI : I32 e) (hi : I32 d) (hd0 : ¬ (0 ≤ d ∧ d < (n : Int))) (hl1 : lawAt laws e = some (9, k)) (hA : isD dy k k1 k2 n at_ wt W) (A : lwN n at_ wt W) : AThr G M_B_value [vr 0 0, vi e, vi d] (Hp (sgB bd tk) (sgS laws slot ahead made (od : Int) (dn : Int) (un : Int)) t (sgK (nn : Int) rr ff gg) df jo tr di mo dy) := by
  refine am_thr (by decide +kernel) (Nat.le_of_ble_eq_true rfl) (fun Qr Qt hq => ?_)
  have hn := A.1
  refine aw_blk (pc' := 2) (ls' := [some (vr 0 0), some (vi e), some (vi d), none]) (st' := [vi e, vr 0 0]) [.inl (.aload_n 0), .inl (.iload_n 1)] 0 _ _ (by decide +kernel) rfl ?_
  refine aw_dV (cs' := 1) (sl' := 6) (pc' := 5) (st' := [vr 9 k]) (idx := 143) (as := [vi e]) (st := []) (m_B_lawOf hI hl1) (by decide +kernel) (show vOK "ChanceBench" 143 M_B_lawOf 1 = true by decide +kernel) rfl rfl rfl (Nat.le_of_ble_eq_true rfl) (by decide) (by decide) (by decide) rfl rfl rfl rfl ?_
  refine aw_blk (pc' := 7) (ls' := [some (vr 0 0), some (vi e), some (vi d), some (vr 9 k)]) (st' := [vi d]) [.inl (.astore_n 3), .inl (.iload_n 2)] 5 _ _ (by decide +kernel) rfl ?_
  refine aw_if_lt (o := 12) (tgt := 19) (by decide +kernel) (by decide) (by omega) (fun c7 => ?_) (fun c7 => ?_)
  · exact aw_throw (ik := 146) (ic := 148) tOK_B (by decide +kernel) (by decide +kernel) (by decide +kernel) (by decide +kernel) (Nat.le_of_ble_eq_true rfl) (by decide) (by decide) (by decide) hq
  · refine aw_blk (pc' := 12) (ls' := [some (vr 0 0), some (vi e), some (vi d), some (vr 9 k)]) (st' := [vr 9 k, vi d]) [.inl (.iload_n 2), .inl (.aload_n 3)] 10 _ _ (by decide +kernel) rfl ?_
    refine aw_get (idx := 121) (ci := 9) (f := 0) (by decide +kernel) (by decide +kernel) hA.1 rfl ?_
    refine aw_alen (by decide +kernel) hA.2.1 (fun r15 => ?_)
    refine aw_icmp_lt (o := 11) (tgt := 27) (by decide +kernel) (by decide) (by omega) (by omega) (fun c => absurd c (by omega)) (fun _ => ?_)
    exact aw_throw (ik := 146) (ic := 148) tOK_B (by decide +kernel) (by decide +kernel) (by decide +kernel) (by decide +kernel) (Nat.le_of_ble_eq_true rfl) (by decide) (by decide) (by decide) hq

theorem m_B_chance (hI : I32 e) (hc : I32 c) (hd1 : d = 0 ∨ d = 1) (hl1 : lawAt laws e = some (9, k)) (hA : isD dy k k1 k2 n at_ wt W) (A : lwN n at_ wt W) : ADet G M_B_chance [vr 0 0, vi e, vi c, vi d] (Hp (sgB bd tk) (sgS laws slot ahead made (od : Int) (dn : Int) (un : Int)) t (sgK (nn : Int) rr ff gg) df jo tr di mo dy) (some (vl (prt (den at_ wt n c) W d))) (Hp (sgB bd tk) (sgS laws slot ahead made (od : Int) (dn : Int) (un : Int)) t (sgK (nn : Int) rr ff gg) df jo tr di mo dy) := by
  refine am_det (by decide +kernel) (Nat.le_of_ble_eq_true rfl) (fun Qr Qt hq => ?_)
  have hn := A.1
  have hW := A.2.2.2.1
  have hW1 := A.2.2.2.2.1
  refine aw_blk (pc' := 2) (ls' := [some (vr 0 0), some (vi e), some (vi c), some (vi d), none, none]) (st' := [vi e, vr 0 0]) [.inl (.aload_n 0), .inl (.iload_n 1)] 0 _ _ (by decide +kernel) rfl ?_
  refine aw_dV (cs' := 1) (sl' := 6) (pc' := 5) (st' := [vr 9 k]) (idx := 143) (as := [vi e]) (st := []) (m_B_lawOf hI hl1) (by decide +kernel) (show vOK "ChanceBench" 143 M_B_lawOf 1 = true by decide +kernel) rfl rfl rfl (Nat.le_of_ble_eq_true rfl) (by decide) (by decide) (by decide) rfl rfl rfl rfl ?_
  refine aw_blk (pc' := 10) (ls' := [some (vr 0 0), some (vi e), some (vi c), some (vi d), some (vr 9 k), none]) (st' := [vi c, vr 9 k]) [.inl (.astore 4), .inl (.aload 4), .inl (.iload_n 2)] 5 _ _ (by decide +kernel) rfl ?_
  refine aw_dV (cs' := 1) (sl' := 6) (pc' := 13) (st' := [vi (ixO at_ n c)]) (idx := 149) (as := [vi c]) (st := []) (m_L_indexOf hA.L A.2.1 hc) (by decide +kernel) (show vOK "ChanceBench" 149 M_L_indexOf 1 = true by decide +kernel) hA.1 rfl rfl (Nat.le_of_ble_eq_true rfl) (by decide) (by decide) (by decide) rfl rfl rfl rfl ?_
  have hix : I32 (ixO at_ n c) := by unfold ixO; have := lb_le at_ c n; split <;> omega
  refine aw_blk (pc' := 18) (ls' := [some (vr 0 0), some (vi e), some (vi c), some (vi d), some (vr 9 k), some (vi (ixO at_ n c))]) (st' := [vi (-1), vi (ixO at_ n c)]) [.inl (.istore 5), .inl (.iload 5), .inl (.iconst (-1))] 13 _ _ (by decide +kernel) rfl ?_
  refine aw_icmp_ne (o := 7) (tgt := 25) (by decide +kernel) (by decide) (by omega) (by omega) (fun c18 => ?_) (fun c18 => ?_)
  · obtain ⟨D, hD, eD, vD⟩ := ixO_yes c18
    have hai := A.2.2.1 D hD
    rw [eD]
    rw [show prt (den at_ wt n c) W d = prt (wt D) W d by rw [← vD, den_at A.2.1 hD]] at hq
    refine aw_blk (pc' := 27) (ls' := [some (vr 0 0), some (vi e), some (vi c), some (vi d), some (vr 9 k), some (vi (D : Int))]) (st' := [vr 9 k]) [.inl (.aload 4)] 25 _ _ (by decide +kernel) rfl ?_
    refine aw_get (idx := 127) (ci := 9) (f := 1) (by decide +kernel) (by decide +kernel) hA.1 rfl ?_
    refine aw_blk (pc' := 32) (ls' := [some (vr 0 0), some (vi e), some (vi c), some (vi d), some (vr 9 k), some (vi (D : Int))]) (st' := [vi (D : Int), vr 9 k2]) [.inl (.iload 5)] 30 _ _ (by decide +kernel) rfl ?_
    refine aw_iald (j := D) (by decide +kernel) hA.2.2 (by omega) (by omega) (fun r32 => ?_)
    refine aw_i2l (by decide +kernel) (by omega) ?_
    refine aw_blk (pc' := 36) (ls' := [some (vr 0 0), some (vi e), some (vi c), some (vi d), some (vr 9 k), some (vi (D : Int))]) (st' := [vr 9 k, vl (wt D)]) [.inl (.aload 4)] 34 _ _ (by decide +kernel) rfl ?_
    refine aw_get (idx := 130) (ci := 9) (f := 2) (by decide +kernel) (by decide +kernel) hA.1 rfl ?_
    refine aw_i2l (by decide +kernel) (by omega) ?_
    refine aw_blk (pc' := 41) (ls' := [some (vr 0 0), some (vi e), some (vi c), some (vi d), some (vr 9 k), some (vi (D : Int))]) (st' := [vi d, vl W, vl (wt D)]) [.inl (.iload_n 3)] 40 _ _ (by decide +kernel) rfl ?_
    refine aw_dS (cs' := 2) (sl' := 12) (pc' := 44) (st' := [vl (prt (wt D) W d)]) (idx := 152) (as := [vl (wt D), vl W, vi d]) (st := []) (m_B_part (by constructor <;> omega) (by constructor <;> omega) hd1) (by decide +kernel) (show sOK "ChanceBench" 152 M_B_part 3 = true by decide +kernel) rfl (Nat.le_of_ble_eq_true rfl) (by decide) (by decide) (by decide) rfl rfl rfl rfl ?_
    exact aw_lret (by decide +kernel) rfl (by decide) (by decide) (hq _ _ rfl rfl)
  · rw [show prt (den at_ wt n c) W d = prt 0 W d by rw [den_0 (ixO_no A.2.1 c18)]] at hq
    refine aw_blk (pc' := 22) (ls' := [some (vr 0 0), some (vi e), some (vi c), some (vi d), some (vr 9 k), some (vi (ixO at_ n c))]) (st' := [vl 0]) [.inl (.lconst 0)] 21 _ _ (by decide +kernel) rfl ?_
    refine aw_goto (o := 12) (tgt := 34) (by decide +kernel) (by decide) ?_
    refine aw_blk (pc' := 36) (ls' := [some (vr 0 0), some (vi e), some (vi c), some (vi d), some (vr 9 k), some (vi (ixO at_ n c))]) (st' := [vr 9 k, vl 0]) [.inl (.aload 4)] 34 _ _ (by decide +kernel) rfl ?_
    refine aw_get (idx := 130) (ci := 9) (f := 2) (by decide +kernel) (by decide +kernel) hA.1 rfl ?_
    refine aw_i2l (by decide +kernel) (by omega) ?_
    refine aw_blk (pc' := 41) (ls' := [some (vr 0 0), some (vi e), some (vi c), some (vi d), some (vr 9 k), some (vi (ixO at_ n c))]) (st' := [vi d, vl W, vl 0]) [.inl (.iload_n 3)] 40 _ _ (by decide +kernel) rfl ?_
    refine aw_dS (cs' := 2) (sl' := 12) (pc' := 44) (st' := [vl (prt 0 W d)]) (idx := 152) (as := [vl 0, vl W, vi d]) (st := []) (m_B_part (by constructor <;> omega) (by constructor <;> omega) hd1) (by decide +kernel) (show sOK "ChanceBench" 152 M_B_part 3 = true by decide +kernel) rfl (Nat.le_of_ble_eq_true rfl) (by decide) (by decide) (by decide) rfl rfl rfl rfl ?_
    exact aw_lret (by decide +kernel) rfl (by decide) (by decide) (hq _ _ rfl rfl)

theorem m_B_chance_t2 (hI : I32 e) (hc : I32 c) (hi : I32 d) (hd1 : ¬ (d = 0 ∨ d = 1)) (hl1 : lawAt laws e = some (9, k)) (hA : isD dy k k1 k2 n at_ wt W) (A : lwN n at_ wt W) : AThr G M_B_chance [vr 0 0, vi e, vi c, vi d] (Hp (sgB bd tk) (sgS laws slot ahead made (od : Int) (dn : Int) (un : Int)) t (sgK (nn : Int) rr ff gg) df jo tr di mo dy) := by
  refine am_thr (by decide +kernel) (Nat.le_of_ble_eq_true rfl) (fun Qr Qt hq => ?_)
  have hn := A.1
  have hW := A.2.2.2.1
  have hW1 := A.2.2.2.2.1
  refine aw_blk (pc' := 2) (ls' := [some (vr 0 0), some (vi e), some (vi c), some (vi d), none, none]) (st' := [vi e, vr 0 0]) [.inl (.aload_n 0), .inl (.iload_n 1)] 0 _ _ (by decide +kernel) rfl ?_
  refine aw_dV (cs' := 1) (sl' := 6) (pc' := 5) (st' := [vr 9 k]) (idx := 143) (as := [vi e]) (st := []) (m_B_lawOf hI hl1) (by decide +kernel) (show vOK "ChanceBench" 143 M_B_lawOf 1 = true by decide +kernel) rfl rfl rfl (Nat.le_of_ble_eq_true rfl) (by decide) (by decide) (by decide) rfl rfl rfl rfl ?_
  refine aw_blk (pc' := 10) (ls' := [some (vr 0 0), some (vi e), some (vi c), some (vi d), some (vr 9 k), none]) (st' := [vi c, vr 9 k]) [.inl (.astore 4), .inl (.aload 4), .inl (.iload_n 2)] 5 _ _ (by decide +kernel) rfl ?_
  refine aw_dV (cs' := 1) (sl' := 6) (pc' := 13) (st' := [vi (ixO at_ n c)]) (idx := 149) (as := [vi c]) (st := []) (m_L_indexOf hA.L A.2.1 hc) (by decide +kernel) (show vOK "ChanceBench" 149 M_L_indexOf 1 = true by decide +kernel) hA.1 rfl rfl (Nat.le_of_ble_eq_true rfl) (by decide) (by decide) (by decide) rfl rfl rfl rfl ?_
  have hix : I32 (ixO at_ n c) := by unfold ixO; have := lb_le at_ c n; split <;> omega
  refine aw_blk (pc' := 18) (ls' := [some (vr 0 0), some (vi e), some (vi c), some (vi d), some (vr 9 k), some (vi (ixO at_ n c))]) (st' := [vi (-1), vi (ixO at_ n c)]) [.inl (.istore 5), .inl (.iload 5), .inl (.iconst (-1))] 13 _ _ (by decide +kernel) rfl ?_
  refine aw_icmp_ne (o := 7) (tgt := 25) (by decide +kernel) (by decide) (by omega) (by omega) (fun c18 => ?_) (fun c18 => ?_)
  · obtain ⟨D, hD, eD, vD⟩ := ixO_yes c18
    have hai := A.2.2.1 D hD
    rw [eD]
    refine aw_blk (pc' := 27) (ls' := [some (vr 0 0), some (vi e), some (vi c), some (vi d), some (vr 9 k), some (vi (D : Int))]) (st' := [vr 9 k]) [.inl (.aload 4)] 25 _ _ (by decide +kernel) rfl ?_
    refine aw_get (idx := 127) (ci := 9) (f := 1) (by decide +kernel) (by decide +kernel) hA.1 rfl ?_
    refine aw_blk (pc' := 32) (ls' := [some (vr 0 0), some (vi e), some (vi c), some (vi d), some (vr 9 k), some (vi (D : Int))]) (st' := [vi (D : Int), vr 9 k2]) [.inl (.iload 5)] 30 _ _ (by decide +kernel) rfl ?_
    refine aw_iald (j := D) (by decide +kernel) hA.2.2 (by omega) (by omega) (fun r32 => ?_)
    refine aw_i2l (by decide +kernel) (by omega) ?_
    refine aw_blk (pc' := 36) (ls' := [some (vr 0 0), some (vi e), some (vi c), some (vi d), some (vr 9 k), some (vi (D : Int))]) (st' := [vr 9 k, vl (wt D)]) [.inl (.aload 4)] 34 _ _ (by decide +kernel) rfl ?_
    refine aw_get (idx := 130) (ci := 9) (f := 2) (by decide +kernel) (by decide +kernel) hA.1 rfl ?_
    refine aw_i2l (by decide +kernel) (by omega) ?_
    refine aw_blk (pc' := 41) (ls' := [some (vr 0 0), some (vi e), some (vi c), some (vi d), some (vr 9 k), some (vi (D : Int))]) (st' := [vi d, vl W, vl (wt D)]) [.inl (.iload_n 3)] 40 _ _ (by decide +kernel) rfl ?_
    exact aw_tS (idx := 152) (as := [vl (wt D), vl W, vi d]) (st := []) (m_B_part_t hi (by omega) (by omega)) (by decide +kernel) (show sOK "ChanceBench" 152 M_B_part 3 = true by decide +kernel) rfl (Nat.le_of_ble_eq_true rfl) (by decide) (by decide) (by decide) hq
  · refine aw_blk (pc' := 22) (ls' := [some (vr 0 0), some (vi e), some (vi c), some (vi d), some (vr 9 k), some (vi (ixO at_ n c))]) (st' := [vl 0]) [.inl (.lconst 0)] 21 _ _ (by decide +kernel) rfl ?_
    refine aw_goto (o := 12) (tgt := 34) (by decide +kernel) (by decide) ?_
    refine aw_blk (pc' := 36) (ls' := [some (vr 0 0), some (vi e), some (vi c), some (vi d), some (vr 9 k), some (vi (ixO at_ n c))]) (st' := [vr 9 k, vl 0]) [.inl (.aload 4)] 34 _ _ (by decide +kernel) rfl ?_
    refine aw_get (idx := 130) (ci := 9) (f := 2) (by decide +kernel) (by decide +kernel) hA.1 rfl ?_
    refine aw_i2l (by decide +kernel) (by omega) ?_
    refine aw_blk (pc' := 41) (ls' := [some (vr 0 0), some (vi e), some (vi c), some (vi d), some (vr 9 k), some (vi (ixO at_ n c))]) (st' := [vi d, vl W, vl 0]) [.inl (.iload_n 3)] 40 _ _ (by decide +kernel) rfl ?_
    exact aw_tS (idx := 152) (as := [vl 0, vl W, vi d]) (st := []) (m_B_part_t hi (by omega) (by omega)) (by decide +kernel) (show sOK "ChanceBench" 152 M_B_part 3 = true by decide +kernel) rfl (Nat.le_of_ble_eq_true rfl) (by decide) (by decide) (by decide) hq

theorem upW_cum (A : lwN n at_ wt W) : upW at_ wt c n = cum (den at_ wt n) c := by
  unfold cum
  rw [tr_ (F := fun u x => if u ≤ c then x else 0) (fun u _ => by split <;> rfl) A.2.1 (fun i hi => (A.2.2.1 i hi).1)]
  have : ∀ m, upW at_ wt c m = sumZ (fun i => if at_ i ≤ c then wt i else 0) m := fun m => by
    induction m with
    | zero => rfl
    | succ m ih => simp only [upW, sumZ]; rw [ih]
  exact this n
theorem lw_t1 (A : lwN n at_ wt W) : sumZ (fun i => at_ i * wt i) n = sT (fun u => u * den at_ wt n u) :=
  (tr_ (F := fun u x => u * x) (fun _ _ => by simp) A.2.1 (fun i hi => (A.2.2.1 i hi).1)).symm
theorem lw_t2 (A : lwN n at_ wt W) : sumZ (fun i => at_ i * at_ i * wt i) n = sT (fun u => u * u * den at_ wt n u) :=
  (tr_ (F := fun u x => u * u * x) (fun _ _ => by simp) A.2.1 (fun i hi => (A.2.2.1 i hi).1)).symm
theorem lw_b1 (A : lwN n at_ wt W) : -(1000 * W) ≤ sT (fun u => u * den at_ wt n u) ∧ sT (fun u => u * den at_ wt n u) ≤ 1000 * W := by
  rw [← lw_t1 A]
  exact lw_sum A (fun i hi => by
    have h := A.2.2.1 i hi
    exact mul_in (x := 1000) (y := wt i) h.1 (by omega) (by omega) (by omega))
theorem lw_b2 (A : lwN n at_ wt W) : -(1000000 * W) ≤ sT (fun u => u * u * den at_ wt n u) ∧ sT (fun u => u * u * den at_ wt n u) ≤ 1000000 * W := by
  rw [← lw_t2 A]
  exact lw_sum A (fun i hi => by
    have h := A.2.2.1 i hi
    exact mul_in (x := 1000000) (y := wt i) (mul_in (x := 1000) (y := 1000) h.1 h.1 (by omega) (by omega)) (by omega) (by omega) (by omega))
theorem m_B_below (hI : I32 e) (hc : I32 c) (hd1 : d = 0 ∨ d = 1) (hl1 : lawAt laws e = some (9, k)) (hA : isD dy k k1 k2 n at_ wt W) (A : lwN n at_ wt W) : ADet G M_B_below [vr 0 0, vi e, vi c, vi d] (Hp (sgB bd tk) (sgS laws slot ahead made (od : Int) (dn : Int) (un : Int)) t (sgK (nn : Int) rr ff gg) df jo tr di mo dy) (some (vl (prt (cum (den at_ wt n) c) W d))) (Hp (sgB bd tk) (sgS laws slot ahead made (od : Int) (dn : Int) (un : Int)) t (sgK (nn : Int) rr ff gg) df jo tr di mo dy) := by
  refine am_det (by decide +kernel) (Nat.le_of_ble_eq_true rfl) (fun Qr Qt hq => ?_)
  have hW := A.2.2.2.1
  have hW1 := A.2.2.2.2.1
  have hcm := lw_cum A c
  refine aw_blk (pc' := 2) (ls' := [some (vr 0 0), some (vi e), some (vi c), some (vi d), none]) (st' := [vi e, vr 0 0]) [.inl (.aload_n 0), .inl (.iload_n 1)] 0 _ _ (by decide +kernel) rfl ?_
  refine aw_dV (cs' := 1) (sl' := 6) (pc' := 5) (st' := [vr 9 k]) (idx := 143) (as := [vi e]) (st := []) (m_B_lawOf hI hl1) (by decide +kernel) (show vOK "ChanceBench" 143 M_B_lawOf 1 = true by decide +kernel) rfl rfl rfl (Nat.le_of_ble_eq_true rfl) (by decide) (by decide) (by decide) rfl rfl rfl rfl ?_
  refine aw_blk (pc' := 10) (ls' := [some (vr 0 0), some (vi e), some (vi c), some (vi d), some (vr 9 k)]) (st' := [vi c, vr 9 k]) [.inl (.astore 4), .inl (.aload 4), .inl (.iload_n 2)] 5 _ _ (by decide +kernel) rfl ?_
  refine aw_dV (cs' := 1) (sl' := 6) (pc' := 13) (st' := [vl (upW at_ wt c n)]) (idx := 156) (as := [vi c]) (st := []) (m_L_weightUpTo hA.L hc A.2.1) (by decide +kernel) (show vOK "ChanceBench" 156 M_L_weightUpTo 1 = true by decide +kernel) hA.1 rfl rfl (Nat.le_of_ble_eq_true rfl) (by decide) (by decide) (by decide) rfl rfl rfl rfl ?_
  rw [upW_cum A]
  refine aw_blk (pc' := 15) (ls' := [some (vr 0 0), some (vi e), some (vi c), some (vi d), some (vr 9 k)]) (st' := [vr 9 k, vl (cum (den at_ wt n) c)]) [.inl (.aload 4)] 13 _ _ (by decide +kernel) rfl ?_
  refine aw_get (idx := 130) (ci := 9) (f := 2) (by decide +kernel) (by decide +kernel) hA.1 rfl ?_
  refine aw_i2l (by decide +kernel) (by omega) ?_
  refine aw_blk (pc' := 20) (ls' := [some (vr 0 0), some (vi e), some (vi c), some (vi d), some (vr 9 k)]) (st' := [vi d, vl W, vl (cum (den at_ wt n) c)]) [.inl (.iload_n 3)] 19 _ _ (by decide +kernel) rfl ?_
  refine aw_dS (cs' := 2) (sl' := 12) (pc' := 23) (st' := [vl (prt (cum (den at_ wt n) c) W d)]) (idx := 152) (as := [vl (cum (den at_ wt n) c), vl W, vi d]) (st := []) (m_B_part (by constructor <;> omega) (by constructor <;> omega) hd1) (by decide +kernel) (show sOK "ChanceBench" 152 M_B_part 3 = true by decide +kernel) rfl (Nat.le_of_ble_eq_true rfl) (by decide) (by decide) (by decide) rfl rfl rfl rfl ?_
  exact aw_lret (by decide +kernel) rfl (by decide) (by decide) (hq _ _ rfl rfl)

theorem m_B_below_t2 (hI : I32 e) (hc : I32 c) (hi : I32 d) (hd1 : ¬ (d = 0 ∨ d = 1)) (hl1 : lawAt laws e = some (9, k)) (hA : isD dy k k1 k2 n at_ wt W) (A : lwN n at_ wt W) : AThr G M_B_below [vr 0 0, vi e, vi c, vi d] (Hp (sgB bd tk) (sgS laws slot ahead made (od : Int) (dn : Int) (un : Int)) t (sgK (nn : Int) rr ff gg) df jo tr di mo dy) := by
  refine am_thr (by decide +kernel) (Nat.le_of_ble_eq_true rfl) (fun Qr Qt hq => ?_)
  have hW := A.2.2.2.1
  have hW1 := A.2.2.2.2.1
  have hcm := lw_cum A c
  refine aw_blk (pc' := 2) (ls' := [some (vr 0 0), some (vi e), some (vi c), some (vi d), none]) (st' := [vi e, vr 0 0]) [.inl (.aload_n 0), .inl (.iload_n 1)] 0 _ _ (by decide +kernel) rfl ?_
  refine aw_dV (cs' := 1) (sl' := 6) (pc' := 5) (st' := [vr 9 k]) (idx := 143) (as := [vi e]) (st := []) (m_B_lawOf hI hl1) (by decide +kernel) (show vOK "ChanceBench" 143 M_B_lawOf 1 = true by decide +kernel) rfl rfl rfl (Nat.le_of_ble_eq_true rfl) (by decide) (by decide) (by decide) rfl rfl rfl rfl ?_
  refine aw_blk (pc' := 10) (ls' := [some (vr 0 0), some (vi e), some (vi c), some (vi d), some (vr 9 k)]) (st' := [vi c, vr 9 k]) [.inl (.astore 4), .inl (.aload 4), .inl (.iload_n 2)] 5 _ _ (by decide +kernel) rfl ?_
  refine aw_dV (cs' := 1) (sl' := 6) (pc' := 13) (st' := [vl (upW at_ wt c n)]) (idx := 156) (as := [vi c]) (st := []) (m_L_weightUpTo hA.L hc A.2.1) (by decide +kernel) (show vOK "ChanceBench" 156 M_L_weightUpTo 1 = true by decide +kernel) hA.1 rfl rfl (Nat.le_of_ble_eq_true rfl) (by decide) (by decide) (by decide) rfl rfl rfl rfl ?_
  rw [upW_cum A]
  refine aw_blk (pc' := 15) (ls' := [some (vr 0 0), some (vi e), some (vi c), some (vi d), some (vr 9 k)]) (st' := [vr 9 k, vl (cum (den at_ wt n) c)]) [.inl (.aload 4)] 13 _ _ (by decide +kernel) rfl ?_
  refine aw_get (idx := 130) (ci := 9) (f := 2) (by decide +kernel) (by decide +kernel) hA.1 rfl ?_
  refine aw_i2l (by decide +kernel) (by omega) ?_
  refine aw_blk (pc' := 20) (ls' := [some (vr 0 0), some (vi e), some (vi c), some (vi d), some (vr 9 k)]) (st' := [vi d, vl W, vl (cum (den at_ wt n) c)]) [.inl (.iload_n 3)] 19 _ _ (by decide +kernel) rfl ?_
  exact aw_tS (idx := 152) (as := [vl (cum (den at_ wt n) c), vl W, vi d]) (st := []) (m_B_part_t hi (by omega) (by omega)) (by decide +kernel) (show sOK "ChanceBench" 152 M_B_part 3 = true by decide +kernel) rfl (Nat.le_of_ble_eq_true rfl) (by decide) (by decide) (by decide) hq

theorem m_B_mean (hI : I32 e) (hd1 : d = 0 ∨ d = 1) (hl1 : lawAt laws e = some (9, k)) (hA : isD dy k k1 k2 n at_ wt W) (A : lwN n at_ wt W) : ADet G M_B_mean [vr 0 0, vi e, vi d] (Hp (sgB bd tk) (sgS laws slot ahead made (od : Int) (dn : Int) (un : Int)) t (sgK (nn : Int) rr ff gg) df jo tr di mo dy) (some (vl (prt (sT (fun u => u * den at_ wt n u)) W d))) (Hp (sgB bd tk) (sgS laws slot ahead made (od : Int) (dn : Int) (un : Int)) t (sgK (nn : Int) rr ff gg) df jo tr di mo dy) := by
  refine am_det (by decide +kernel) (Nat.le_of_ble_eq_true rfl) (fun Qr Qt hq => ?_)
  have hW := A.2.2.2.1
  have hW1 := A.2.2.2.2.1
  have hb1 := lw_b1 A
  refine aw_blk (pc' := 2) (ls' := [some (vr 0 0), some (vi e), some (vi d), none]) (st' := [vi e, vr 0 0]) [.inl (.aload_n 0), .inl (.iload_n 1)] 0 _ _ (by decide +kernel) rfl ?_
  refine aw_dV (cs' := 1) (sl' := 6) (pc' := 5) (st' := [vr 9 k]) (idx := 143) (as := [vi e]) (st := []) (m_B_lawOf hI hl1) (by decide +kernel) (show vOK "ChanceBench" 143 M_B_lawOf 1 = true by decide +kernel) rfl rfl rfl (Nat.le_of_ble_eq_true rfl) (by decide) (by decide) (by decide) rfl rfl rfl rfl ?_
  refine aw_blk (pc' := 7) (ls' := [some (vr 0 0), some (vi e), some (vi d), some (vr 9 k)]) (st' := [vr 9 k]) [.inl (.astore_n 3), .inl (.aload_n 3)] 5 _ _ (by decide +kernel) rfl ?_
  refine aw_dV (cs' := 1) (sl' := 6) (pc' := 10) (st' := [vl (sumZ (fun i => at_ i * wt i) n)]) (idx := 160) (as := []) (st := []) (m_L_total hA.L) (by decide +kernel) (show vOK "ChanceBench" 160 M_L_total 0 = true by decide +kernel) hA.1 rfl rfl (Nat.le_of_ble_eq_true rfl) (by decide) (by decide) (by decide) rfl rfl rfl rfl ?_
  rw [lw_t1 A]
  refine aw_blk (pc' := 11) (ls' := [some (vr 0 0), some (vi e), some (vi d), some (vr 9 k)]) (st' := [vr 9 k, vl (sT (fun u => u * den at_ wt n u))]) [.inl (.aload_n 3)] 10 _ _ (by decide +kernel) rfl ?_
  refine aw_get (idx := 130) (ci := 9) (f := 2) (by decide +kernel) (by decide +kernel) hA.1 rfl ?_
  refine aw_i2l (by decide +kernel) (by omega) ?_
  refine aw_blk (pc' := 16) (ls' := [some (vr 0 0), some (vi e), some (vi d), some (vr 9 k)]) (st' := [vi d, vl W, vl (sT (fun u => u * den at_ wt n u))]) [.inl (.iload_n 2)] 15 _ _ (by decide +kernel) rfl ?_
  refine aw_dS (cs' := 2) (sl' := 12) (pc' := 19) (st' := [vl (prt (sT (fun u => u * den at_ wt n u)) W d)]) (idx := 152) (as := [vl (sT (fun u => u * den at_ wt n u)), vl W, vi d]) (st := []) (m_B_part (by constructor <;> omega) (by constructor <;> omega) hd1) (by decide +kernel) (show sOK "ChanceBench" 152 M_B_part 3 = true by decide +kernel) rfl (Nat.le_of_ble_eq_true rfl) (by decide) (by decide) (by decide) rfl rfl rfl rfl ?_
  exact aw_lret (by decide +kernel) rfl (by decide) (by decide) (hq _ _ rfl rfl)

theorem m_B_variance (hI : I32 e) (hd1 : d = 0 ∨ d = 1) (hl1 : lawAt laws e = some (9, k)) (hA : isD dy k k1 k2 n at_ wt W) (A : lwN n at_ wt W) : ADet G M_B_variance [vr 0 0, vi e, vi d] (Hp (sgB bd tk) (sgS laws slot ahead made (od : Int) (dn : Int) (un : Int)) t (sgK (nn : Int) rr ff gg) df jo tr di mo dy) (some (vl (prt (W * sT (fun u => u * u * den at_ wt n u) - sT (fun u => u * den at_ wt n u) * sT (fun u => u * den at_ wt n u)) (W * W) d))) (Hp (sgB bd tk) (sgS laws slot ahead made (od : Int) (dn : Int) (un : Int)) t (sgK (nn : Int) rr ff gg) df jo tr di mo dy) := by
  refine am_det (by decide +kernel) (Nat.le_of_ble_eq_true rfl) (fun Qr Qt hq => ?_)
  have hW := A.2.2.2.1
  have hW1 := A.2.2.2.2.1
  have hb1 := lw_b1 A
  have hb2 := lw_b2 A
  refine aw_blk (pc' := 2) (ls' := [some (vr 0 0), some (vi e), some (vi d), none, none, none, none, none]) (st' := [vi e, vr 0 0]) [.inl (.aload_n 0), .inl (.iload_n 1)] 0 _ _ (by decide +kernel) rfl ?_
  refine aw_dV (cs' := 1) (sl' := 6) (pc' := 5) (st' := [vr 9 k]) (idx := 143) (as := [vi e]) (st := []) (m_B_lawOf hI hl1) (by decide +kernel) (show vOK "ChanceBench" 143 M_B_lawOf 1 = true by decide +kernel) rfl rfl rfl (Nat.le_of_ble_eq_true rfl) (by decide) (by decide) (by decide) rfl rfl rfl rfl ?_
  refine aw_blk (pc' := 7) (ls' := [some (vr 0 0), some (vi e), some (vi d), some (vr 9 k), none, none, none, none]) (st' := [vr 9 k]) [.inl (.astore_n 3), .inl (.aload_n 3)] 5 _ _ (by decide +kernel) rfl ?_
  refine aw_dV (cs' := 1) (sl' := 6) (pc' := 10) (st' := [vl (sumZ (fun i => at_ i * wt i) n)]) (idx := 160) (as := []) (st := []) (m_L_total hA.L) (by decide +kernel) (show vOK "ChanceBench" 160 M_L_total 0 = true by decide +kernel) hA.1 rfl rfl (Nat.le_of_ble_eq_true rfl) (by decide) (by decide) (by decide) rfl rfl rfl rfl ?_
  rw [lw_t1 A]
  refine aw_blk (pc' := 13) (ls' := [some (vr 0 0), some (vi e), some (vi d), some (vr 9 k), some (vl (sT (fun u => u * den at_ wt n u))), none, none, none]) (st' := [vr 9 k]) [.inl (.lstore 4), .inl (.aload_n 3)] 10 _ _ (by decide +kernel) rfl ?_
  refine aw_get (idx := 130) (ci := 9) (f := 2) (by decide +kernel) (by decide +kernel) hA.1 rfl ?_
  refine aw_i2l (by decide +kernel) (by omega) ?_
  refine aw_blk (pc' := 22) (ls' := [some (vr 0 0), some (vi e), some (vi d), some (vr 9 k), some (vl (sT (fun u => u * den at_ wt n u))), none, some (vl W), none]) (st' := [vr 9 k, vl W]) [.inl (.lstore 6), .inl (.lload 6), .inl (.aload_n 3)] 17 _ _ (by decide +kernel) rfl ?_
  refine aw_dV (cs' := 1) (sl' := 6) (pc' := 25) (st' := [vl (sumZ (fun i => at_ i * at_ i * wt i) n), vl W]) (idx := 164) (as := []) (st := [vl W]) (m_L_totalOfSquares hA.L) (by decide +kernel) (show vOK "ChanceBench" 164 M_L_totalOfSquares 0 = true by decide +kernel) hA.1 rfl rfl (Nat.le_of_ble_eq_true rfl) (by decide) (by decide) (by decide) rfl rfl rfl rfl ?_
  rw [lw_t2 A]
  have q1 := mul_in (x := 1048576) (y := 1048576000000) (u := W) (v := sT (fun u => u * u * den at_ wt n u)) (by omega) (by omega) (by omega) (by omega)
  have q2 := mul_in (x := 1048576000) (y := 1048576000) (u := sT (fun u => u * den at_ wt n u)) (v := sT (fun u => u * den at_ wt n u)) (by omega) (by omega) (by omega) (by omega)
  have q3 := mulB (x := W) (y := W) (by omega) hW1 (by omega) hW1
  refine aw_blk (pc' := 38) (ls' := [some (vr 0 0), some (vi e), some (vi d), some (vr 9 k), some (vl (sT (fun u => u * den at_ wt n u))), none, some (vl W), none]) (st' := [vi d, vl (W * W), vl ((W * (sT (fun u => u * u * den at_ wt n u))) - ((sT (fun u => u * den at_ wt n u)) * (sT (fun u => u * den at_ wt n u))))]) [.inl (.lmul), .inl (.lload 4), .inl (.lload 4), .inl (.lmul), .inl (.lsub), .inl (.lload 6), .inl (.lload 6), .inl (.lmul), .inl (.iload_n 2)] 25 _ _ (by decide +kernel) rfl ?_
  refine aw_dS (cs' := 2) (sl' := 12) (pc' := 41) (st' := [vl (prt (W * sT (fun u => u * u * den at_ wt n u) - sT (fun u => u * den at_ wt n u) * sT (fun u => u * den at_ wt n u)) (W * W) d)]) (idx := 152) (as := [vl ((W * (sT (fun u => u * u * den at_ wt n u))) - ((sT (fun u => u * den at_ wt n u)) * (sT (fun u => u * den at_ wt n u)))), vl (W * W), vi d]) (st := []) (m_B_part (by constructor <;> omega) (by constructor <;> omega) hd1) (by decide +kernel) (show sOK "ChanceBench" 152 M_B_part 3 = true by decide +kernel) rfl (Nat.le_of_ble_eq_true rfl) (by decide) (by decide) (by decide) rfl rfl rfl rfl ?_
  exact aw_lret (by decide +kernel) rfl (by decide) (by decide) (hq _ _ rfl rfl)

theorem m_B_mean_t2 (hI : I32 e) (hi : I32 d) (hd1 : ¬ (d = 0 ∨ d = 1)) (hl1 : lawAt laws e = some (9, k)) (hA : isD dy k k1 k2 n at_ wt W) (A : lwN n at_ wt W) : AThr G M_B_mean [vr 0 0, vi e, vi d] (Hp (sgB bd tk) (sgS laws slot ahead made (od : Int) (dn : Int) (un : Int)) t (sgK (nn : Int) rr ff gg) df jo tr di mo dy) := by
  refine am_thr (by decide +kernel) (Nat.le_of_ble_eq_true rfl) (fun Qr Qt hq => ?_)
  have hW := A.2.2.2.1
  have hW1 := A.2.2.2.2.1
  have hb1 := lw_b1 A
  refine aw_blk (pc' := 2) (ls' := [some (vr 0 0), some (vi e), some (vi d), none]) (st' := [vi e, vr 0 0]) [.inl (.aload_n 0), .inl (.iload_n 1)] 0 _ _ (by decide +kernel) rfl ?_
  refine aw_dV (cs' := 1) (sl' := 6) (pc' := 5) (st' := [vr 9 k]) (idx := 143) (as := [vi e]) (st := []) (m_B_lawOf hI hl1) (by decide +kernel) (show vOK "ChanceBench" 143 M_B_lawOf 1 = true by decide +kernel) rfl rfl rfl (Nat.le_of_ble_eq_true rfl) (by decide) (by decide) (by decide) rfl rfl rfl rfl ?_
  refine aw_blk (pc' := 7) (ls' := [some (vr 0 0), some (vi e), some (vi d), some (vr 9 k)]) (st' := [vr 9 k]) [.inl (.astore_n 3), .inl (.aload_n 3)] 5 _ _ (by decide +kernel) rfl ?_
  refine aw_dV (cs' := 1) (sl' := 6) (pc' := 10) (st' := [vl (sumZ (fun i => at_ i * wt i) n)]) (idx := 160) (as := []) (st := []) (m_L_total hA.L) (by decide +kernel) (show vOK "ChanceBench" 160 M_L_total 0 = true by decide +kernel) hA.1 rfl rfl (Nat.le_of_ble_eq_true rfl) (by decide) (by decide) (by decide) rfl rfl rfl rfl ?_
  rw [lw_t1 A]
  refine aw_blk (pc' := 11) (ls' := [some (vr 0 0), some (vi e), some (vi d), some (vr 9 k)]) (st' := [vr 9 k, vl (sT (fun u => u * den at_ wt n u))]) [.inl (.aload_n 3)] 10 _ _ (by decide +kernel) rfl ?_
  refine aw_get (idx := 130) (ci := 9) (f := 2) (by decide +kernel) (by decide +kernel) hA.1 rfl ?_
  refine aw_i2l (by decide +kernel) (by omega) ?_
  refine aw_blk (pc' := 16) (ls' := [some (vr 0 0), some (vi e), some (vi d), some (vr 9 k)]) (st' := [vi d, vl W, vl (sT (fun u => u * den at_ wt n u))]) [.inl (.iload_n 2)] 15 _ _ (by decide +kernel) rfl ?_
  exact aw_tS (idx := 152) (as := [vl (sT (fun u => u * den at_ wt n u)), vl W, vi d]) (st := []) (m_B_part_t hi (by omega) (by omega)) (by decide +kernel) (show sOK "ChanceBench" 152 M_B_part 3 = true by decide +kernel) rfl (Nat.le_of_ble_eq_true rfl) (by decide) (by decide) (by decide) hq

theorem m_B_variance_t2 (hI : I32 e) (hi : I32 d) (hd1 : ¬ (d = 0 ∨ d = 1)) (hl1 : lawAt laws e = some (9, k)) (hA : isD dy k k1 k2 n at_ wt W) (A : lwN n at_ wt W) : AThr G M_B_variance [vr 0 0, vi e, vi d] (Hp (sgB bd tk) (sgS laws slot ahead made (od : Int) (dn : Int) (un : Int)) t (sgK (nn : Int) rr ff gg) df jo tr di mo dy) := by
  refine am_thr (by decide +kernel) (Nat.le_of_ble_eq_true rfl) (fun Qr Qt hq => ?_)
  have hW := A.2.2.2.1
  have hW1 := A.2.2.2.2.1
  have hb1 := lw_b1 A
  have hb2 := lw_b2 A
  refine aw_blk (pc' := 2) (ls' := [some (vr 0 0), some (vi e), some (vi d), none, none, none, none, none]) (st' := [vi e, vr 0 0]) [.inl (.aload_n 0), .inl (.iload_n 1)] 0 _ _ (by decide +kernel) rfl ?_
  refine aw_dV (cs' := 1) (sl' := 6) (pc' := 5) (st' := [vr 9 k]) (idx := 143) (as := [vi e]) (st := []) (m_B_lawOf hI hl1) (by decide +kernel) (show vOK "ChanceBench" 143 M_B_lawOf 1 = true by decide +kernel) rfl rfl rfl (Nat.le_of_ble_eq_true rfl) (by decide) (by decide) (by decide) rfl rfl rfl rfl ?_
  refine aw_blk (pc' := 7) (ls' := [some (vr 0 0), some (vi e), some (vi d), some (vr 9 k), none, none, none, none]) (st' := [vr 9 k]) [.inl (.astore_n 3), .inl (.aload_n 3)] 5 _ _ (by decide +kernel) rfl ?_
  refine aw_dV (cs' := 1) (sl' := 6) (pc' := 10) (st' := [vl (sumZ (fun i => at_ i * wt i) n)]) (idx := 160) (as := []) (st := []) (m_L_total hA.L) (by decide +kernel) (show vOK "ChanceBench" 160 M_L_total 0 = true by decide +kernel) hA.1 rfl rfl (Nat.le_of_ble_eq_true rfl) (by decide) (by decide) (by decide) rfl rfl rfl rfl ?_
  rw [lw_t1 A]
  refine aw_blk (pc' := 13) (ls' := [some (vr 0 0), some (vi e), some (vi d), some (vr 9 k), some (vl (sT (fun u => u * den at_ wt n u))), none, none, none]) (st' := [vr 9 k]) [.inl (.lstore 4), .inl (.aload_n 3)] 10 _ _ (by decide +kernel) rfl ?_
  refine aw_get (idx := 130) (ci := 9) (f := 2) (by decide +kernel) (by decide +kernel) hA.1 rfl ?_
  refine aw_i2l (by decide +kernel) (by omega) ?_
  refine aw_blk (pc' := 22) (ls' := [some (vr 0 0), some (vi e), some (vi d), some (vr 9 k), some (vl (sT (fun u => u * den at_ wt n u))), none, some (vl W), none]) (st' := [vr 9 k, vl W]) [.inl (.lstore 6), .inl (.lload 6), .inl (.aload_n 3)] 17 _ _ (by decide +kernel) rfl ?_
  refine aw_dV (cs' := 1) (sl' := 6) (pc' := 25) (st' := [vl (sumZ (fun i => at_ i * at_ i * wt i) n), vl W]) (idx := 164) (as := []) (st := [vl W]) (m_L_totalOfSquares hA.L) (by decide +kernel) (show vOK "ChanceBench" 164 M_L_totalOfSquares 0 = true by decide +kernel) hA.1 rfl rfl (Nat.le_of_ble_eq_true rfl) (by decide) (by decide) (by decide) rfl rfl rfl rfl ?_
  rw [lw_t2 A]
  have q1 := mul_in (x := 1048576) (y := 1048576000000) (u := W) (v := sT (fun u => u * u * den at_ wt n u)) (by omega) (by omega) (by omega) (by omega)
  have q2 := mul_in (x := 1048576000) (y := 1048576000) (u := sT (fun u => u * den at_ wt n u)) (v := sT (fun u => u * den at_ wt n u)) (by omega) (by omega) (by omega) (by omega)
  have q3 := mulB (x := W) (y := W) (by omega) hW1 (by omega) hW1
  refine aw_blk (pc' := 38) (ls' := [some (vr 0 0), some (vi e), some (vi d), some (vr 9 k), some (vl (sT (fun u => u * den at_ wt n u))), none, some (vl W), none]) (st' := [vi d, vl (W * W), vl ((W * (sT (fun u => u * u * den at_ wt n u))) - ((sT (fun u => u * den at_ wt n u)) * (sT (fun u => u * den at_ wt n u))))]) [.inl (.lmul), .inl (.lload 4), .inl (.lload 4), .inl (.lmul), .inl (.lsub), .inl (.lload 6), .inl (.lload 6), .inl (.lmul), .inl (.iload_n 2)] 25 _ _ (by decide +kernel) rfl ?_
  exact aw_tS (idx := 152) (as := [vl ((W * (sT (fun u => u * u * den at_ wt n u))) - ((sT (fun u => u * den at_ wt n u)) * (sT (fun u => u * den at_ wt n u)))), vl (W * W), vi d]) (st := []) (m_B_part_t hi (by omega) (by omega)) (by decide +kernel) (show sOK "ChanceBench" 152 M_B_part 3 = true by decide +kernel) rfl (Nat.le_of_ble_eq_true rfl) (by decide) (by decide) (by decide) hq

end
end
section
section
variable {G : GT} {h : HT} {b s t mk df jo tr di mo dy : SG} {a c d e B bd tk : Int} {n m k k1 k2 q q1 q2 j nn len : Nat} {f g ff gg ft at_ wt at2 wt2 : Nat → Int} {rf rr W W2 : Int} {T : Int → Int} {by_ : Prop} {laws ahead made : Nat → Option (Nat × Nat)} {slot : Nat → Int} {od dn un : Nat}
variable {L : Nat} {D Bf D0 B0 : Nat → Int} {l0 : Int}
theorem m_F_area_0 : ADet G M_F_area [vr 4 0] (Hp b s t mk (sgF 0 D Bf) jo tr di mo dy) (some (vl 0)) (Hp b s t mk (sgF 0 D Bf) jo tr di mo dy) := by
  refine am_det (by decide +kernel) (Nat.le_of_ble_eq_true rfl) (fun Qr Qt hq => ?_)
  refine aw_blk (pc' := 15) (ls' := [some (vr 4 0), some (vl 0), none, some (vl 0), none, some (vi 0)]) (st' := [vi 0, vi (0 + 1)]) [.inl (.lconst 0), .inl (.lstore_n 1), .inl (.lconst 0), .inl (.lstore_n 3), .inl (.iconst 0), .inl (.istore 5), .inl (.iload 5), .inl (.iconst 1), .inl (.iadd), .inl (.aload_n 0), .inr (19, 4, 2)] 0 _ _ (by decide +kernel) rfl ?_
  refine aw_icmp_ge (o := 45) (tgt := 60) (by decide +kernel) (by decide) (by omega) (by omega) (fun _ => ?_) (fun c => absurd (by omega) c)
  refine aw_blk (pc' := 61) (ls' := [some (vr 4 0), some (vl 0), none, some (vl 0), none, some (vi 0)]) (st' := [vl 0]) [.inl (.lload_n 1)] 60 _ _ (by decide +kernel) rfl ?_
  exact aw_lret (by decide +kernel) rfl (by decide) (by decide) (hq _ _ rfl rfl)

theorem m_F_lms_0 : ADet G M_F_leastMoreSpread [vr 4 0] (Hp b s t mk (sgF 0 D Bf) jo tr di mo dy) (some (vi 5000)) (Hp b s t mk (sgF 0 D Bf) jo tr di mo dy) := by
  refine am_det (by decide +kernel) (Nat.le_of_ble_eq_true rfl) (fun Qr Qt hq => ?_)
  refine aw_blk (pc' := 15) (ls' := [some (vr 4 0), some (vl 0), none, some (vl 0), none, some (vi 0), none, none, none]) (st' := [vi 0, vi (0 + 1)]) [.inl (.lconst 0), .inl (.lstore_n 1), .inl (.lconst 0), .inl (.lstore_n 3), .inl (.iconst 0), .inl (.istore 5), .inl (.iload 5), .inl (.iconst 1), .inl (.iadd), .inl (.aload_n 0), .inr (19, 4, 2)] 0 _ _ (by decide +kernel) rfl ?_
  refine aw_icmp_ge (o := 81) (tgt := 96) (by decide +kernel) (by decide) (by omega) (by omega) (fun _ => ?_) (fun c => absurd (by omega) c)
  refine aw_blk (pc' := 99) (ls' := [some (vr 4 0), some (vl 0), none, some (vl 0), none, some (vi 0), none, none, none]) (st' := [vi 5000]) [.inl (.sipush 5000)] 96 _ _ (by decide +kernel) rfl ?_
  exact aw_iret (by decide +kernel) rfl (by decide) (by decide) (hq _ _ rfl rfl)

theorem m_F_areaR (K : tkD n m at_ wt at2 wt2 W W2 L D Bf) : ADet G M_F_area [vr 4 0] (Hp b s t mk (sgF (L : Int) D Bf) jo tr di mo dy) (some (vl (sT (fun s => ab (cum (Ed n m at_ wt at2 wt2 W W2) s))))) (Hp b s t mk (sgF (L : Int) D Bf) jo tr di mo dy) := by
  rw [← K.area]
  rcases Nat.eq_zero_or_pos L with z | z
  · subst z; exact m_F_area_0
  · exact m_F_area ⟨z, K.1⟩ (fun k hk => by have := K.2.2.2.2.2.1 k hk; omega) K.2.2.1
theorem m_F_lmsR (K : tkD n m at_ wt at2 wt2 W W2 L D Bf) : ADet G M_F_leastMoreSpread [vr 4 0] (Hp b s t mk (sgF (L : Int) D Bf) jo tr di mo dy) (some (vi (lms D Bf (L - 1) 0))) (Hp b s t mk (sgF (L : Int) D Bf) jo tr di mo dy) := by
  rcases Nat.eq_zero_or_pos L with z | z
  · subst z; exact m_F_lms_0
  · exact m_F_leastMoreSpread ⟨z, K.1⟩ (fun k hk => by have := K.2.2.2.2.2.1 k hk; omega) K.2.2.2.2.2.2 K.2.2.1
theorem m_F_takeR (hA : isD dy k k1 k2 n at_ wt W) (hA2 : isD dy q q1 q2 m at2 wt2 W2) (A : lwN n at_ wt W) (A2 : lwN m at2 wt2 W2) : AMet G M_F_take [vr 4 0, vr 9 k, vr 9 q] (Hp b s t mk (sgF l0 D0 B0) jo tr di mo dy) (fun r h => r = none ∧ ∃ L D Bf, tkD n m at_ wt at2 wt2 W W2 L D Bf ∧ h = Hp b s t mk (sgF (L : Int) D Bf) jo tr di mo dy) (fun _ => False) :=
  am_mono (m_F_take hA hA2 A A2) (fun r h z => by obtain ⟨z1, L, D, B, z2, z3⟩ := z; exact ⟨z1, L, D, B, tk_D A A2 z2, z3⟩) (fun _ z => z)
theorem size_in (A : lwN n at_ wt W) (A2 : lwN m at2 wt2 W2) : 0 ≤ sT (fun u => ab (Ed n m at_ wt at2 wt2 W W2 u)) ∧ sT (fun u => ab (Ed n m at_ wt at2 wt2 W W2 u)) ≤ 1000000000000000000 := by
  have a1 := A.2.2.2
  have b1 := A2.2.2.2
  have h : ∀ u, inR u → 0 ≤ ab (Ed n m at_ wt at2 wt2 W W2 u) ∧ ab (Ed n m at_ wt at2 wt2 W W2 u) ≤ 1099511627776 := fun u _ => by
    refine ⟨ab_nn _, ab_le ?_⟩
    have c1 := lw_nn A u
    have c2 := lw_nn A2 u
    have d1 := den_le (f := at_) (u := u) (n := n) (g := wt) (fun i hi => by have := (A.2.2.1 i hi).2; omega)
    have d2 := den_le (f := at2) (u := u) (n := m) (g := wt2) (fun i hi => by have := (A2.2.2.1 i hi).2; omega)
    have e1 := mulB (x := W2) (y := den at_ wt n u) (by omega) (by omega) (by omega) (by omega)
    have e2 := mulB (x := W) (y := den at2 wt2 m u) (by omega) (by omega) (by omega) (by omega)
    unfold Ed; omega
  have b := sT_mono (F := fun _ => 0) (H := fun u => ab (Ed n m at_ wt at2 wt2 W W2 u)) (fun u hu => (h u hu).1)
  have c := sT_in (F := fun u => ab (Ed n m at_ wt at2 wt2 W W2 u)) (K := 1099511627776) (fun u hu => by have := h u hu; omega)
  rw [sT_0] at b
  omega
theorem area_in (A : lwN n at_ wt W) (A2 : lwN m at2 wt2 W2) : 0 ≤ sT (fun s => ab (cum (Ed n m at_ wt at2 wt2 W W2) s)) ∧ sT (fun s => ab (cum (Ed n m at_ wt at2 wt2 W W2) s)) ≤ 1000000000000000000 := by
  have b := sT_mono (F := fun _ => 0) (H := fun s => ab (cum (Ed n m at_ wt at2 wt2 W W2) s)) (fun u _ => ab_nn _)
  have c := sT_in (F := fun s => ab (cum (Ed n m at_ wt at2 wt2 W W2) s)) (K := 1099511627776) (fun u _ => by have := ab_le (Ed_in A A2 u); have := ab_nn (cum (Ed n m at_ wt at2 wt2 W W2) u); omega)
  rw [sT_0] at b
  omega
theorem m_B_apart_t (hI : I32 e) (hl1 : lawAt laws e = none) : AThr G M_B_apart [vr 0 0, vi e, vi c, vi d] (Hp (sgB bd tk) (sgS laws slot ahead made (od : Int) (dn : Int) (un : Int)) t (sgK (nn : Int) rr ff gg) df jo tr di mo dy) := by
  refine am_thr (by decide +kernel) (Nat.le_of_ble_eq_true rfl) (fun Qr Qt hq => ?_)
  refine aw_blk (pc' := 2) (ls' := [some (vr 0 0), some (vi e), some (vi c), some (vi d), none, none]) (st' := [vi e, vr 0 0]) [.inl (.aload_n 0), .inl (.iload_n 1)] 0 _ _ (by decide +kernel) rfl ?_
  exact aw_tV (idx := 143) (as := [vi e]) (st := []) (m_B_lawOf_t hI hl1) (by decide +kernel) (show vOK "ChanceBench" 143 M_B_lawOf 1 = true by decide +kernel) rfl rfl rfl (Nat.le_of_ble_eq_true rfl) (by decide) (by decide) (by decide) hq

theorem m_B_apart_t1 (hI : I32 e ∧ I32 c) (hl1 : lawAt laws e = some (9, k)) (hl2 : lawAt laws c = none) : AThr G M_B_apart [vr 0 0, vi e, vi c, vi d] (Hp (sgB bd tk) (sgS laws slot ahead made (od : Int) (dn : Int) (un : Int)) t (sgK (nn : Int) rr ff gg) df jo tr di mo dy) := by
  refine am_thr (by decide +kernel) (Nat.le_of_ble_eq_true rfl) (fun Qr Qt hq => ?_)
  refine aw_blk (pc' := 2) (ls' := [some (vr 0 0), some (vi e), some (vi c), some (vi d), none, none]) (st' := [vi e, vr 0 0]) [.inl (.aload_n 0), .inl (.iload_n 1)] 0 _ _ (by decide +kernel) rfl ?_
  refine aw_dV (cs' := 1) (sl' := 6) (pc' := 5) (st' := [vr 9 k]) (idx := 143) (as := [vi e]) (st := []) (m_B_lawOf hI.1 hl1) (by decide +kernel) (show vOK "ChanceBench" 143 M_B_lawOf 1 = true by decide +kernel) rfl rfl rfl (Nat.le_of_ble_eq_true rfl) (by decide) (by decide) (by decide) rfl rfl rfl rfl ?_
  refine aw_blk (pc' := 9) (ls' := [some (vr 0 0), some (vi e), some (vi c), some (vi d), some (vr 9 k), none]) (st' := [vi c, vr 0 0]) [.inl (.astore 4), .inl (.aload_n 0), .inl (.iload_n 2)] 5 _ _ (by decide +kernel) rfl ?_
  exact aw_tV (idx := 143) (as := [vi c]) (st := []) (m_B_lawOf_t hI.2 hl2) (by decide +kernel) (show vOK "ChanceBench" 143 M_B_lawOf 1 = true by decide +kernel) rfl rfl rfl (Nat.le_of_ble_eq_true rfl) (by decide) (by decide) (by decide) hq

theorem m_B_far_t (hI : I32 e) (hl1 : lawAt laws e = none) : AThr G M_B_far [vr 0 0, vi e, vi c, vi d] (Hp (sgB bd tk) (sgS laws slot ahead made (od : Int) (dn : Int) (un : Int)) t (sgK (nn : Int) rr ff gg) df jo tr di mo dy) := by
  refine am_thr (by decide +kernel) (Nat.le_of_ble_eq_true rfl) (fun Qr Qt hq => ?_)
  refine aw_blk (pc' := 2) (ls' := [some (vr 0 0), some (vi e), some (vi c), some (vi d), none, none]) (st' := [vi e, vr 0 0]) [.inl (.aload_n 0), .inl (.iload_n 1)] 0 _ _ (by decide +kernel) rfl ?_
  exact aw_tV (idx := 143) (as := [vi e]) (st := []) (m_B_lawOf_t hI hl1) (by decide +kernel) (show vOK "ChanceBench" 143 M_B_lawOf 1 = true by decide +kernel) rfl rfl rfl (Nat.le_of_ble_eq_true rfl) (by decide) (by decide) (by decide) hq

theorem m_B_far_t1 (hI : I32 e ∧ I32 c) (hl1 : lawAt laws e = some (9, k)) (hl2 : lawAt laws c = none) : AThr G M_B_far [vr 0 0, vi e, vi c, vi d] (Hp (sgB bd tk) (sgS laws slot ahead made (od : Int) (dn : Int) (un : Int)) t (sgK (nn : Int) rr ff gg) df jo tr di mo dy) := by
  refine am_thr (by decide +kernel) (Nat.le_of_ble_eq_true rfl) (fun Qr Qt hq => ?_)
  refine aw_blk (pc' := 2) (ls' := [some (vr 0 0), some (vi e), some (vi c), some (vi d), none, none]) (st' := [vi e, vr 0 0]) [.inl (.aload_n 0), .inl (.iload_n 1)] 0 _ _ (by decide +kernel) rfl ?_
  refine aw_dV (cs' := 1) (sl' := 6) (pc' := 5) (st' := [vr 9 k]) (idx := 143) (as := [vi e]) (st := []) (m_B_lawOf hI.1 hl1) (by decide +kernel) (show vOK "ChanceBench" 143 M_B_lawOf 1 = true by decide +kernel) rfl rfl rfl (Nat.le_of_ble_eq_true rfl) (by decide) (by decide) (by decide) rfl rfl rfl rfl ?_
  refine aw_blk (pc' := 9) (ls' := [some (vr 0 0), some (vi e), some (vi c), some (vi d), some (vr 9 k), none]) (st' := [vi c, vr 0 0]) [.inl (.astore 4), .inl (.aload_n 0), .inl (.iload_n 2)] 5 _ _ (by decide +kernel) rfl ?_
  exact aw_tV (idx := 143) (as := [vi c]) (st := []) (m_B_lawOf_t hI.2 hl2) (by decide +kernel) (show vOK "ChanceBench" 143 M_B_lawOf 1 = true by decide +kernel) rfl rfl rfl (Nat.le_of_ble_eq_true rfl) (by decide) (by decide) (by decide) hq

theorem m_B_beats_t (hI : I32 e) (hl1 : lawAt laws e = none) : AThr G M_B_beats [vr 0 0, vi e, vi c, vi d] (Hp (sgB bd tk) (sgS laws slot ahead made (od : Int) (dn : Int) (un : Int)) t (sgK (nn : Int) rr ff gg) df jo tr di mo dy) := by
  refine am_thr (by decide +kernel) (Nat.le_of_ble_eq_true rfl) (fun Qr Qt hq => ?_)
  refine aw_blk (pc' := 2) (ls' := [some (vr 0 0), some (vi e), some (vi c), some (vi d), none, none]) (st' := [vi e, vr 0 0]) [.inl (.aload_n 0), .inl (.iload_n 1)] 0 _ _ (by decide +kernel) rfl ?_
  exact aw_tV (idx := 143) (as := [vi e]) (st := []) (m_B_lawOf_t hI hl1) (by decide +kernel) (show vOK "ChanceBench" 143 M_B_lawOf 1 = true by decide +kernel) rfl rfl rfl (Nat.le_of_ble_eq_true rfl) (by decide) (by decide) (by decide) hq

theorem m_B_beats_t1 (hI : I32 e ∧ I32 c) (hl1 : lawAt laws e = some (9, k)) (hl2 : lawAt laws c = none) : AThr G M_B_beats [vr 0 0, vi e, vi c, vi d] (Hp (sgB bd tk) (sgS laws slot ahead made (od : Int) (dn : Int) (un : Int)) t (sgK (nn : Int) rr ff gg) df jo tr di mo dy) := by
  refine am_thr (by decide +kernel) (Nat.le_of_ble_eq_true rfl) (fun Qr Qt hq => ?_)
  refine aw_blk (pc' := 2) (ls' := [some (vr 0 0), some (vi e), some (vi c), some (vi d), none, none]) (st' := [vi e, vr 0 0]) [.inl (.aload_n 0), .inl (.iload_n 1)] 0 _ _ (by decide +kernel) rfl ?_
  refine aw_dV (cs' := 1) (sl' := 6) (pc' := 5) (st' := [vr 9 k]) (idx := 143) (as := [vi e]) (st := []) (m_B_lawOf hI.1 hl1) (by decide +kernel) (show vOK "ChanceBench" 143 M_B_lawOf 1 = true by decide +kernel) rfl rfl rfl (Nat.le_of_ble_eq_true rfl) (by decide) (by decide) (by decide) rfl rfl rfl rfl ?_
  refine aw_blk (pc' := 9) (ls' := [some (vr 0 0), some (vi e), some (vi c), some (vi d), some (vr 9 k), none]) (st' := [vi c, vr 0 0]) [.inl (.astore 4), .inl (.aload_n 0), .inl (.iload_n 2)] 5 _ _ (by decide +kernel) rfl ?_
  exact aw_tV (idx := 143) (as := [vi c]) (st := []) (m_B_lawOf_t hI.2 hl2) (by decide +kernel) (show vOK "ChanceBench" 143 M_B_lawOf 1 = true by decide +kernel) rfl rfl rfl (Nat.le_of_ble_eq_true rfl) (by decide) (by decide) (by decide) hq

theorem m_B_apart (hI : I32 e ∧ I32 c) (hd1 : d = 0 ∨ d = 1) (hl1 : lawAt laws e = some (9, k)) (hl2 : lawAt laws c = some (9, q)) (hA : isD dy k k1 k2 n at_ wt W) (A : lwN n at_ wt W) (hA2 : isD dy q q1 q2 m at2 wt2 W2) (A2 : lwN m at2 wt2 W2) : AMet G M_B_apart [vr 0 0, vi e, vi c, vi d] (Hp (sgB bd tk) (sgS laws slot ahead made (od : Int) (dn : Int) (un : Int)) t (sgK (nn : Int) rr ff gg) (sgF l0 D0 B0) jo tr di mo dy) (fun r h => r = some (vl (prt (sT (fun u => ab (Ed n m at_ wt at2 wt2 W W2 u))) (2 * (W * W2)) d)) ∧ ∃ (L : Nat) (D Bf : Nat → Int), h = Hp (sgB bd tk) (sgS laws slot ahead made (od : Int) (dn : Int) (un : Int)) t (sgK (nn : Int) rr ff gg) (sgF (L : Int) D Bf) jo tr di mo dy) (fun _ => False) := by
  refine am_rel (by decide +kernel) (Nat.le_of_ble_eq_true rfl) (fun Qr Qt hq => ?_)
  have a1 := A.2.2.2
  have b1 := A2.2.2.2
  have hWW := mulB (x := W) (y := W2) (by omega) (by omega) (by omega) (by omega)
  refine aw_blk (pc' := 2) (ls' := [some (vr 0 0), some (vi e), some (vi c), some (vi d), none, none]) (st' := [vi e, vr 0 0]) [.inl (.aload_n 0), .inl (.iload_n 1)] 0 _ _ (by decide +kernel) rfl ?_
  refine aw_dV (cs' := 1) (sl' := 6) (pc' := 5) (st' := [vr 9 k]) (idx := 143) (as := [vi e]) (st := []) (m_B_lawOf hI.1 hl1) (by decide +kernel) (show vOK "ChanceBench" 143 M_B_lawOf 1 = true by decide +kernel) rfl rfl rfl (Nat.le_of_ble_eq_true rfl) (by decide) (by decide) (by decide) rfl rfl rfl rfl ?_
  refine aw_blk (pc' := 9) (ls' := [some (vr 0 0), some (vi e), some (vi c), some (vi d), some (vr 9 k), none]) (st' := [vi c, vr 0 0]) [.inl (.astore 4), .inl (.aload_n 0), .inl (.iload_n 2)] 5 _ _ (by decide +kernel) rfl ?_
  refine aw_dV (cs' := 2) (sl' := 12) (pc' := 12) (st' := [vr 9 q]) (idx := 143) (as := [vi c]) (st := []) (m_B_lawOf hI.2 hl2) (by decide +kernel) (show vOK "ChanceBench" 143 M_B_lawOf 1 = true by decide +kernel) rfl rfl rfl (Nat.le_of_ble_eq_true rfl) (by decide) (by decide) (by decide) rfl rfl rfl rfl ?_
  refine aw_blk (pc' := 22) (ls' := [some (vr 0 0), some (vi e), some (vi c), some (vi d), some (vr 9 k), some (vr 9 q)]) (st' := [vr 9 q, vr 9 k, vr 4 0]) [.inl (.astore 5), .inl (.aload_n 0), .inr (33, 0, 3), .inl (.aload 4), .inl (.aload 5)] 12 _ _ (by decide +kernel) rfl ?_
  refine aw_rV (cs' := 2) (sl' := 12) (pc' := 25) (idx := 167) (as := [vr 9 k, vr 9 q]) (st := []) (m_F_takeR hA hA2 A A2) (by decide +kernel) (show vOK "ChanceBench" 167 M_F_take 2 = true by decide +kernel) rfl rfl rfl (Nat.le_of_ble_eq_true rfl) (by decide) (by decide) (by decide) rfl rfl rfl (fun r22 h22 z22 => ?_)
  obtain ⟨rfl, L, D, Bf, K, rfl⟩ := z22
  refine aw_blk (pc' := 29) (ls' := [some (vr 0 0), some (vi e), some (vi c), some (vi d), some (vr 9 k), some (vr 9 q)]) (st' := [vr 4 0]) [.inl (.aload_n 0), .inr (33, 0, 3)] 25 _ _ (by decide +kernel) rfl ?_
  refine aw_dV (cs' := 2) (sl' := 12) (pc' := 32) (st' := [vl (sumZ (fun k => ab (Bf k)) L)]) (idx := 171) (as := []) (st := []) (m_F_size K.1) (by decide +kernel) (show vOK "ChanceBench" 171 M_F_size 0 = true by decide +kernel) rfl rfl rfl (Nat.le_of_ble_eq_true rfl) (by decide) (by decide) (by decide) rfl rfl rfl rfl ?_
  rw [K.size]
  have hsz := size_in A A2
  refine aw_ldc2 (a := 2) (ix := 174) (v := 2) (by decide +kernel) (by decide +kernel) (by decide) ?_
  refine aw_blk (pc' := 39) (ls' := [some (vr 0 0), some (vi e), some (vi c), some (vi d), some (vr 9 k), some (vr 9 q)]) (st' := [vr 9 q, vr 9 k, vl 2, vl (sT (fun u => ab (Ed n m at_ wt at2 wt2 W W2 u)))]) [.inl (.aload 4), .inl (.aload 5)] 35 _ _ (by decide +kernel) rfl ?_
  refine aw_dS (cs' := 2) (sl' := 12) (pc' := 42) (st' := [vl (W * W2), vl 2, vl (sT (fun u => ab (Ed n m at_ wt at2 wt2 W W2 u)))]) (idx := 176) (as := [vr 9 k, vr 9 q]) (st := [vl 2, vl (sT (fun u => ab (Ed n m at_ wt at2 wt2 W W2 u)))]) (m_B_product hA.L hA2.L) (by decide +kernel) (show sOK "ChanceBench" 176 M_B_product 2 = true by decide +kernel) rfl (Nat.le_of_ble_eq_true rfl) (by decide) (by decide) (by decide) rfl rfl rfl rfl ?_
  refine aw_blk (pc' := 44) (ls' := [some (vr 0 0), some (vi e), some (vi c), some (vi d), some (vr 9 k), some (vr 9 q)]) (st' := [vi d, vl (2 * (W * W2)), vl (sT (fun u => ab (Ed n m at_ wt at2 wt2 W W2 u)))]) [.inl (.lmul), .inl (.iload_n 3)] 42 _ _ (by decide +kernel) rfl ?_
  refine aw_dS (cs' := 3) (sl' := 18) (pc' := 47) (st' := [vl (prt (sT (fun u => ab (Ed n m at_ wt at2 wt2 W W2 u))) (2 * (W * W2)) d)]) (idx := 152) (as := [vl (sT (fun u => ab (Ed n m at_ wt at2 wt2 W W2 u))), vl (2 * (W * W2)), vi d]) (st := []) (m_B_part (by constructor <;> omega) (by constructor <;> omega) hd1) (by decide +kernel) (show sOK "ChanceBench" 152 M_B_part 3 = true by decide +kernel) rfl (Nat.le_of_ble_eq_true rfl) (by decide) (by decide) (by decide) rfl rfl rfl rfl ?_
  exact aw_lret (by decide +kernel) rfl (by decide) (by decide) (hq _ _ ⟨rfl, L, D, Bf, rfl⟩)

theorem m_B_apart_t2 (hI : I32 e ∧ I32 c) (hi : I32 d) (hd1 : ¬ (d = 0 ∨ d = 1)) (hl1 : lawAt laws e = some (9, k)) (hl2 : lawAt laws c = some (9, q)) (hA : isD dy k k1 k2 n at_ wt W) (A : lwN n at_ wt W) (hA2 : isD dy q q1 q2 m at2 wt2 W2) (A2 : lwN m at2 wt2 W2) : AMet G M_B_apart [vr 0 0, vi e, vi c, vi d] (Hp (sgB bd tk) (sgS laws slot ahead made (od : Int) (dn : Int) (un : Int)) t (sgK (nn : Int) rr ff gg) (sgF l0 D0 B0) jo tr di mo dy) (fun _ _ => False) (fun h => ∃ (L : Nat) (D Bf : Nat → Int) (j : Nat), h = ((Hp (sgB bd tk) (sgS laws slot ahead made (od : Int) (dn : Int) (un : Int)) t (sgK (nn : Int) rr ff gg) (sgF (L : Int) D Bf) jo tr di mo dy).1 + j, junk (Hp (sgB bd tk) (sgS laws slot ahead made (od : Int) (dn : Int) (un : Int)) t (sgK (nn : Int) rr ff gg) (sgF (L : Int) D Bf) jo tr di mo dy).2 j)) := by
  refine am_entry (by decide +kernel) (Nat.le_of_ble_eq_true rfl) ?_
  have a1 := A.2.2.2
  have b1 := A2.2.2.2
  have hWW := mulB (x := W) (y := W2) (by omega) (by omega) (by omega) (by omega)
  refine aw_blk (pc' := 2) (ls' := [some (vr 0 0), some (vi e), some (vi c), some (vi d), none, none]) (st' := [vi e, vr 0 0]) [.inl (.aload_n 0), .inl (.iload_n 1)] 0 _ _ (by decide +kernel) rfl ?_
  refine aw_dV (cs' := 1) (sl' := 6) (pc' := 5) (st' := [vr 9 k]) (idx := 143) (as := [vi e]) (st := []) (m_B_lawOf hI.1 hl1) (by decide +kernel) (show vOK "ChanceBench" 143 M_B_lawOf 1 = true by decide +kernel) rfl rfl rfl (Nat.le_of_ble_eq_true rfl) (by decide) (by decide) (by decide) rfl rfl rfl rfl ?_
  refine aw_blk (pc' := 9) (ls' := [some (vr 0 0), some (vi e), some (vi c), some (vi d), some (vr 9 k), none]) (st' := [vi c, vr 0 0]) [.inl (.astore 4), .inl (.aload_n 0), .inl (.iload_n 2)] 5 _ _ (by decide +kernel) rfl ?_
  refine aw_dV (cs' := 2) (sl' := 12) (pc' := 12) (st' := [vr 9 q]) (idx := 143) (as := [vi c]) (st := []) (m_B_lawOf hI.2 hl2) (by decide +kernel) (show vOK "ChanceBench" 143 M_B_lawOf 1 = true by decide +kernel) rfl rfl rfl (Nat.le_of_ble_eq_true rfl) (by decide) (by decide) (by decide) rfl rfl rfl rfl ?_
  refine aw_blk (pc' := 22) (ls' := [some (vr 0 0), some (vi e), some (vi c), some (vi d), some (vr 9 k), some (vr 9 q)]) (st' := [vr 9 q, vr 9 k, vr 4 0]) [.inl (.astore 5), .inl (.aload_n 0), .inr (33, 0, 3), .inl (.aload 4), .inl (.aload 5)] 12 _ _ (by decide +kernel) rfl ?_
  refine aw_rV (cs' := 2) (sl' := 12) (pc' := 25) (idx := 167) (as := [vr 9 k, vr 9 q]) (st := []) (m_F_takeR hA hA2 A A2) (by decide +kernel) (show vOK "ChanceBench" 167 M_F_take 2 = true by decide +kernel) rfl rfl rfl (Nat.le_of_ble_eq_true rfl) (by decide) (by decide) (by decide) rfl rfl rfl (fun r22 h22 z22 => ?_)
  obtain ⟨rfl, L, D, Bf, K, rfl⟩ := z22
  refine aw_blk (pc' := 29) (ls' := [some (vr 0 0), some (vi e), some (vi c), some (vi d), some (vr 9 k), some (vr 9 q)]) (st' := [vr 4 0]) [.inl (.aload_n 0), .inr (33, 0, 3)] 25 _ _ (by decide +kernel) rfl ?_
  refine aw_dV (cs' := 2) (sl' := 12) (pc' := 32) (st' := [vl (sumZ (fun k => ab (Bf k)) L)]) (idx := 171) (as := []) (st := []) (m_F_size K.1) (by decide +kernel) (show vOK "ChanceBench" 171 M_F_size 0 = true by decide +kernel) rfl rfl rfl (Nat.le_of_ble_eq_true rfl) (by decide) (by decide) (by decide) rfl rfl rfl rfl ?_
  rw [K.size]
  have hsz := size_in A A2
  refine aw_ldc2 (a := 2) (ix := 174) (v := 2) (by decide +kernel) (by decide +kernel) (by decide) ?_
  refine aw_blk (pc' := 39) (ls' := [some (vr 0 0), some (vi e), some (vi c), some (vi d), some (vr 9 k), some (vr 9 q)]) (st' := [vr 9 q, vr 9 k, vl 2, vl (sT (fun u => ab (Ed n m at_ wt at2 wt2 W W2 u)))]) [.inl (.aload 4), .inl (.aload 5)] 35 _ _ (by decide +kernel) rfl ?_
  refine aw_dS (cs' := 2) (sl' := 12) (pc' := 42) (st' := [vl (W * W2), vl 2, vl (sT (fun u => ab (Ed n m at_ wt at2 wt2 W W2 u)))]) (idx := 176) (as := [vr 9 k, vr 9 q]) (st := [vl 2, vl (sT (fun u => ab (Ed n m at_ wt at2 wt2 W W2 u)))]) (m_B_product hA.L hA2.L) (by decide +kernel) (show sOK "ChanceBench" 176 M_B_product 2 = true by decide +kernel) rfl (Nat.le_of_ble_eq_true rfl) (by decide) (by decide) (by decide) rfl rfl rfl rfl ?_
  refine aw_blk (pc' := 44) (ls' := [some (vr 0 0), some (vi e), some (vi c), some (vi d), some (vr 9 k), some (vr 9 q)]) (st' := [vi d, vl (2 * (W * W2)), vl (sT (fun u => ab (Ed n m at_ wt at2 wt2 W W2 u)))]) [.inl (.lmul), .inl (.iload_n 3)] 42 _ _ (by decide +kernel) rfl ?_
  exact aw_tS (idx := 152) (as := [vl (sT (fun u => ab (Ed n m at_ wt at2 wt2 W W2 u))), vl (2 * (W * W2)), vi d]) (st := []) (m_B_part_t hi (by omega) (by omega)) (by decide +kernel) (show sOK "ChanceBench" 152 M_B_part 3 = true by decide +kernel) rfl (Nat.le_of_ble_eq_true rfl) (by decide) (by decide) (by decide) (fun j => ⟨L, D, Bf, j, rfl⟩)

theorem m_B_far (hI : I32 e ∧ I32 c) (hd1 : d = 0 ∨ d = 1) (hl1 : lawAt laws e = some (9, k)) (hl2 : lawAt laws c = some (9, q)) (hA : isD dy k k1 k2 n at_ wt W) (A : lwN n at_ wt W) (hA2 : isD dy q q1 q2 m at2 wt2 W2) (A2 : lwN m at2 wt2 W2) : AMet G M_B_far [vr 0 0, vi e, vi c, vi d] (Hp (sgB bd tk) (sgS laws slot ahead made (od : Int) (dn : Int) (un : Int)) t (sgK (nn : Int) rr ff gg) (sgF l0 D0 B0) jo tr di mo dy) (fun r h => r = some (vl (prt (sT (fun s => ab (cum (Ed n m at_ wt at2 wt2 W W2) s))) (W * W2) d)) ∧ ∃ (L : Nat) (D Bf : Nat → Int), h = Hp (sgB bd tk) (sgS laws slot ahead made (od : Int) (dn : Int) (un : Int)) t (sgK (nn : Int) rr ff gg) (sgF (L : Int) D Bf) jo tr di mo dy) (fun _ => False) := by
  refine am_rel (by decide +kernel) (Nat.le_of_ble_eq_true rfl) (fun Qr Qt hq => ?_)
  have a1 := A.2.2.2
  have b1 := A2.2.2.2
  have hWW := mulB (x := W) (y := W2) (by omega) (by omega) (by omega) (by omega)
  refine aw_blk (pc' := 2) (ls' := [some (vr 0 0), some (vi e), some (vi c), some (vi d), none, none]) (st' := [vi e, vr 0 0]) [.inl (.aload_n 0), .inl (.iload_n 1)] 0 _ _ (by decide +kernel) rfl ?_
  refine aw_dV (cs' := 1) (sl' := 6) (pc' := 5) (st' := [vr 9 k]) (idx := 143) (as := [vi e]) (st := []) (m_B_lawOf hI.1 hl1) (by decide +kernel) (show vOK "ChanceBench" 143 M_B_lawOf 1 = true by decide +kernel) rfl rfl rfl (Nat.le_of_ble_eq_true rfl) (by decide) (by decide) (by decide) rfl rfl rfl rfl ?_
  refine aw_blk (pc' := 9) (ls' := [some (vr 0 0), some (vi e), some (vi c), some (vi d), some (vr 9 k), none]) (st' := [vi c, vr 0 0]) [.inl (.astore 4), .inl (.aload_n 0), .inl (.iload_n 2)] 5 _ _ (by decide +kernel) rfl ?_
  refine aw_dV (cs' := 2) (sl' := 12) (pc' := 12) (st' := [vr 9 q]) (idx := 143) (as := [vi c]) (st := []) (m_B_lawOf hI.2 hl2) (by decide +kernel) (show vOK "ChanceBench" 143 M_B_lawOf 1 = true by decide +kernel) rfl rfl rfl (Nat.le_of_ble_eq_true rfl) (by decide) (by decide) (by decide) rfl rfl rfl rfl ?_
  refine aw_blk (pc' := 22) (ls' := [some (vr 0 0), some (vi e), some (vi c), some (vi d), some (vr 9 k), some (vr 9 q)]) (st' := [vr 9 q, vr 9 k, vr 4 0]) [.inl (.astore 5), .inl (.aload_n 0), .inr (33, 0, 3), .inl (.aload 4), .inl (.aload 5)] 12 _ _ (by decide +kernel) rfl ?_
  refine aw_rV (cs' := 2) (sl' := 12) (pc' := 25) (idx := 167) (as := [vr 9 k, vr 9 q]) (st := []) (m_F_takeR hA hA2 A A2) (by decide +kernel) (show vOK "ChanceBench" 167 M_F_take 2 = true by decide +kernel) rfl rfl rfl (Nat.le_of_ble_eq_true rfl) (by decide) (by decide) (by decide) rfl rfl rfl (fun r22 h22 z22 => ?_)
  obtain ⟨rfl, L, D, Bf, K, rfl⟩ := z22
  refine aw_blk (pc' := 29) (ls' := [some (vr 0 0), some (vi e), some (vi c), some (vi d), some (vr 9 k), some (vr 9 q)]) (st' := [vr 4 0]) [.inl (.aload_n 0), .inr (33, 0, 3)] 25 _ _ (by decide +kernel) rfl ?_
  refine aw_dV (cs' := 2) (sl' := 12) (pc' := 32) (st' := [vl (sT (fun s => ab (cum (Ed n m at_ wt at2 wt2 W W2) s)))]) (idx := 180) (as := []) (st := []) (m_F_areaR K) (by decide +kernel) (show vOK "ChanceBench" 180 M_F_area 0 = true by decide +kernel) rfl rfl rfl (Nat.le_of_ble_eq_true rfl) (by decide) (by decide) (by decide) rfl rfl rfl rfl ?_
  have hsz := area_in A A2
  refine aw_blk (pc' := 36) (ls' := [some (vr 0 0), some (vi e), some (vi c), some (vi d), some (vr 9 k), some (vr 9 q)]) (st' := [vr 9 q, vr 9 k, vl (sT (fun s => ab (cum (Ed n m at_ wt at2 wt2 W W2) s)))]) [.inl (.aload 4), .inl (.aload 5)] 32 _ _ (by decide +kernel) rfl ?_
  refine aw_dS (cs' := 2) (sl' := 12) (pc' := 39) (st' := [vl (W * W2), vl (sT (fun s => ab (cum (Ed n m at_ wt at2 wt2 W W2) s)))]) (idx := 176) (as := [vr 9 k, vr 9 q]) (st := [vl (sT (fun s => ab (cum (Ed n m at_ wt at2 wt2 W W2) s)))]) (m_B_product hA.L hA2.L) (by decide +kernel) (show sOK "ChanceBench" 176 M_B_product 2 = true by decide +kernel) rfl (Nat.le_of_ble_eq_true rfl) (by decide) (by decide) (by decide) rfl rfl rfl rfl ?_
  refine aw_blk (pc' := 40) (ls' := [some (vr 0 0), some (vi e), some (vi c), some (vi d), some (vr 9 k), some (vr 9 q)]) (st' := [vi d, vl (W * W2), vl (sT (fun s => ab (cum (Ed n m at_ wt at2 wt2 W W2) s)))]) [.inl (.iload_n 3)] 39 _ _ (by decide +kernel) rfl ?_
  refine aw_dS (cs' := 3) (sl' := 18) (pc' := 43) (st' := [vl (prt (sT (fun s => ab (cum (Ed n m at_ wt at2 wt2 W W2) s))) (W * W2) d)]) (idx := 152) (as := [vl (sT (fun s => ab (cum (Ed n m at_ wt at2 wt2 W W2) s))), vl (W * W2), vi d]) (st := []) (m_B_part (by constructor <;> omega) (by constructor <;> omega) hd1) (by decide +kernel) (show sOK "ChanceBench" 152 M_B_part 3 = true by decide +kernel) rfl (Nat.le_of_ble_eq_true rfl) (by decide) (by decide) (by decide) rfl rfl rfl rfl ?_
  exact aw_lret (by decide +kernel) rfl (by decide) (by decide) (hq _ _ ⟨rfl, L, D, Bf, rfl⟩)

theorem m_B_far_t2 (hI : I32 e ∧ I32 c) (hi : I32 d) (hd1 : ¬ (d = 0 ∨ d = 1)) (hl1 : lawAt laws e = some (9, k)) (hl2 : lawAt laws c = some (9, q)) (hA : isD dy k k1 k2 n at_ wt W) (A : lwN n at_ wt W) (hA2 : isD dy q q1 q2 m at2 wt2 W2) (A2 : lwN m at2 wt2 W2) : AMet G M_B_far [vr 0 0, vi e, vi c, vi d] (Hp (sgB bd tk) (sgS laws slot ahead made (od : Int) (dn : Int) (un : Int)) t (sgK (nn : Int) rr ff gg) (sgF l0 D0 B0) jo tr di mo dy) (fun _ _ => False) (fun h => ∃ (L : Nat) (D Bf : Nat → Int) (j : Nat), h = ((Hp (sgB bd tk) (sgS laws slot ahead made (od : Int) (dn : Int) (un : Int)) t (sgK (nn : Int) rr ff gg) (sgF (L : Int) D Bf) jo tr di mo dy).1 + j, junk (Hp (sgB bd tk) (sgS laws slot ahead made (od : Int) (dn : Int) (un : Int)) t (sgK (nn : Int) rr ff gg) (sgF (L : Int) D Bf) jo tr di mo dy).2 j)) := by
  refine am_entry (by decide +kernel) (Nat.le_of_ble_eq_true rfl) ?_
  have a1 := A.2.2.2
  have b1 := A2.2.2.2
  have hWW := mulB (x := W) (y := W2) (by omega) (by omega) (by omega) (by omega)
  refine aw_blk (pc' := 2) (ls' := [some (vr 0 0), some (vi e), some (vi c), some (vi d), none, none]) (st' := [vi e, vr 0 0]) [.inl (.aload_n 0), .inl (.iload_n 1)] 0 _ _ (by decide +kernel) rfl ?_
  refine aw_dV (cs' := 1) (sl' := 6) (pc' := 5) (st' := [vr 9 k]) (idx := 143) (as := [vi e]) (st := []) (m_B_lawOf hI.1 hl1) (by decide +kernel) (show vOK "ChanceBench" 143 M_B_lawOf 1 = true by decide +kernel) rfl rfl rfl (Nat.le_of_ble_eq_true rfl) (by decide) (by decide) (by decide) rfl rfl rfl rfl ?_
  refine aw_blk (pc' := 9) (ls' := [some (vr 0 0), some (vi e), some (vi c), some (vi d), some (vr 9 k), none]) (st' := [vi c, vr 0 0]) [.inl (.astore 4), .inl (.aload_n 0), .inl (.iload_n 2)] 5 _ _ (by decide +kernel) rfl ?_
  refine aw_dV (cs' := 2) (sl' := 12) (pc' := 12) (st' := [vr 9 q]) (idx := 143) (as := [vi c]) (st := []) (m_B_lawOf hI.2 hl2) (by decide +kernel) (show vOK "ChanceBench" 143 M_B_lawOf 1 = true by decide +kernel) rfl rfl rfl (Nat.le_of_ble_eq_true rfl) (by decide) (by decide) (by decide) rfl rfl rfl rfl ?_
  refine aw_blk (pc' := 22) (ls' := [some (vr 0 0), some (vi e), some (vi c), some (vi d), some (vr 9 k), some (vr 9 q)]) (st' := [vr 9 q, vr 9 k, vr 4 0]) [.inl (.astore 5), .inl (.aload_n 0), .inr (33, 0, 3), .inl (.aload 4), .inl (.aload 5)] 12 _ _ (by decide +kernel) rfl ?_
  refine aw_rV (cs' := 2) (sl' := 12) (pc' := 25) (idx := 167) (as := [vr 9 k, vr 9 q]) (st := []) (m_F_takeR hA hA2 A A2) (by decide +kernel) (show vOK "ChanceBench" 167 M_F_take 2 = true by decide +kernel) rfl rfl rfl (Nat.le_of_ble_eq_true rfl) (by decide) (by decide) (by decide) rfl rfl rfl (fun r22 h22 z22 => ?_)
  obtain ⟨rfl, L, D, Bf, K, rfl⟩ := z22
  refine aw_blk (pc' := 29) (ls' := [some (vr 0 0), some (vi e), some (vi c), some (vi d), some (vr 9 k), some (vr 9 q)]) (st' := [vr 4 0]) [.inl (.aload_n 0), .inr (33, 0, 3)] 25 _ _ (by decide +kernel) rfl ?_
  refine aw_dV (cs' := 2) (sl' := 12) (pc' := 32) (st' := [vl (sT (fun s => ab (cum (Ed n m at_ wt at2 wt2 W W2) s)))]) (idx := 180) (as := []) (st := []) (m_F_areaR K) (by decide +kernel) (show vOK "ChanceBench" 180 M_F_area 0 = true by decide +kernel) rfl rfl rfl (Nat.le_of_ble_eq_true rfl) (by decide) (by decide) (by decide) rfl rfl rfl rfl ?_
  have hsz := area_in A A2
  refine aw_blk (pc' := 36) (ls' := [some (vr 0 0), some (vi e), some (vi c), some (vi d), some (vr 9 k), some (vr 9 q)]) (st' := [vr 9 q, vr 9 k, vl (sT (fun s => ab (cum (Ed n m at_ wt at2 wt2 W W2) s)))]) [.inl (.aload 4), .inl (.aload 5)] 32 _ _ (by decide +kernel) rfl ?_
  refine aw_dS (cs' := 2) (sl' := 12) (pc' := 39) (st' := [vl (W * W2), vl (sT (fun s => ab (cum (Ed n m at_ wt at2 wt2 W W2) s)))]) (idx := 176) (as := [vr 9 k, vr 9 q]) (st := [vl (sT (fun s => ab (cum (Ed n m at_ wt at2 wt2 W W2) s)))]) (m_B_product hA.L hA2.L) (by decide +kernel) (show sOK "ChanceBench" 176 M_B_product 2 = true by decide +kernel) rfl (Nat.le_of_ble_eq_true rfl) (by decide) (by decide) (by decide) rfl rfl rfl rfl ?_
  refine aw_blk (pc' := 40) (ls' := [some (vr 0 0), some (vi e), some (vi c), some (vi d), some (vr 9 k), some (vr 9 q)]) (st' := [vi d, vl (W * W2), vl (sT (fun s => ab (cum (Ed n m at_ wt at2 wt2 W W2) s)))]) [.inl (.iload_n 3)] 39 _ _ (by decide +kernel) rfl ?_
  exact aw_tS (idx := 152) (as := [vl (sT (fun s => ab (cum (Ed n m at_ wt at2 wt2 W W2) s))), vl (W * W2), vi d]) (st := []) (m_B_part_t hi (by omega) (by omega)) (by decide +kernel) (show sOK "ChanceBench" 152 M_B_part 3 = true by decide +kernel) rfl (Nat.le_of_ble_eq_true rfl) (by decide) (by decide) (by decide) (fun j => ⟨L, D, Bf, j, rfl⟩)

/-- in how many of the throws of both the first is greater -/
def win (T T2 : Int → Int) : Int := sT (fun v => T v * cum T2 (v - 1))
theorem wns_T (A : lwN n at_ wt W) (A2 : lwN m at2 wt2 W2) : wns at_ wt at2 wt2 m n = win (den at_ wt n) (den at2 wt2 m) := by
  unfold win wns
  rw [tr_ (F := fun v x => x * cum (den at2 wt2 m) (v - 1)) (fun _ _ => by simp) A.2.1 (fun i hi => (A.2.2.1 i hi).1)]
  exact sumZ_ext (fun i hi => by
    rw [run_cum (p := lb at2 (at_ i) m) A2.2.1 (fun i hi => (A2.2.2.1 i hi).1) (lb_le _ _ _) (fun j hj => by have := lb_lt A2.2.1 hj; omega) (fun j a b => by have := lb_ge (f := at2) (v := at_ i) a b; omega)])
theorem win_in (A : lwN n at_ wt W) (A2 : lwN m at2 wt2 W2) : 0 ≤ win (den at_ wt n) (den at2 wt2 m) ∧ win (den at_ wt n) (den at2 wt2 m) ≤ W * W2 := by
  unfold win
  constructor
  · have b := sT_mono (F := fun _ => 0) (H := fun v => den at_ wt n v * cum (den at2 wt2 m) (v - 1)) (fun u _ => Int.mul_nonneg (lw_nn A u) (lw_cum A2 _).1)
    rw [sT_0] at b; exact b
  · have b := sT_mono (F := fun v => den at_ wt n v * cum (den at2 wt2 m) (v - 1)) (H := fun v => W2 * den at_ wt n v) (fun u _ => by
      rw [Int.mul_comm]; exact Int.mul_le_mul_of_nonneg_right (lw_cum A2 _).2 (lw_nn A u))
    rw [sT_mul, lw_tot A, Int.mul_comm] at b; exact b
theorem m_B_beats (hI : I32 e ∧ I32 c) (hd1 : d = 0 ∨ d = 1) (hl1 : lawAt laws e = some (9, k)) (hl2 : lawAt laws c = some (9, q)) (hA : isD dy k k1 k2 n at_ wt W) (A : lwN n at_ wt W) (hA2 : isD dy q q1 q2 m at2 wt2 W2) (A2 : lwN m at2 wt2 W2) : ADet G M_B_beats [vr 0 0, vi e, vi c, vi d] (Hp (sgB bd tk) (sgS laws slot ahead made (od : Int) (dn : Int) (un : Int)) t (sgK (nn : Int) rr ff gg) df jo tr di mo dy) (some (vl (prt (win (den at_ wt n) (den at2 wt2 m)) (W * W2) d))) (Hp (sgB bd tk) (sgS laws slot ahead made (od : Int) (dn : Int) (un : Int)) t (sgK (nn : Int) rr ff gg) df jo tr di mo dy) := by
  refine am_det (by decide +kernel) (Nat.le_of_ble_eq_true rfl) (fun Qr Qt hq => ?_)
  have a1 := A.2.2.2
  have b1 := A2.2.2.2
  have hWW := mulB (x := W) (y := W2) (by omega) (by omega) (by omega) (by omega)
  have hwi := win_in A A2
  refine aw_blk (pc' := 2) (ls' := [some (vr 0 0), some (vi e), some (vi c), some (vi d), none, none]) (st' := [vi e, vr 0 0]) [.inl (.aload_n 0), .inl (.iload_n 1)] 0 _ _ (by decide +kernel) rfl ?_
  refine aw_dV (cs' := 1) (sl' := 6) (pc' := 5) (st' := [vr 9 k]) (idx := 143) (as := [vi e]) (st := []) (m_B_lawOf hI.1 hl1) (by decide +kernel) (show vOK "ChanceBench" 143 M_B_lawOf 1 = true by decide +kernel) rfl rfl rfl (Nat.le_of_ble_eq_true rfl) (by decide) (by decide) (by decide) rfl rfl rfl rfl ?_
  refine aw_blk (pc' := 9) (ls' := [some (vr 0 0), some (vi e), some (vi c), some (vi d), some (vr 9 k), none]) (st' := [vi c, vr 0 0]) [.inl (.astore 4), .inl (.aload_n 0), .inl (.iload_n 2)] 5 _ _ (by decide +kernel) rfl ?_
  refine aw_dV (cs' := 2) (sl' := 12) (pc' := 12) (st' := [vr 9 q]) (idx := 143) (as := [vi c]) (st := []) (m_B_lawOf hI.2 hl2) (by decide +kernel) (show vOK "ChanceBench" 143 M_B_lawOf 1 = true by decide +kernel) rfl rfl rfl (Nat.le_of_ble_eq_true rfl) (by decide) (by decide) (by decide) rfl rfl rfl rfl ?_
  refine aw_blk (pc' := 18) (ls' := [some (vr 0 0), some (vi e), some (vi c), some (vi d), some (vr 9 k), some (vr 9 q)]) (st' := [vr 9 q, vr 9 k]) [.inl (.astore 5), .inl (.aload 4), .inl (.aload 5)] 12 _ _ (by decide +kernel) rfl ?_
  refine aw_dS (cs' := 2) (sl' := 12) (pc' := 21) (st' := [vl (wns at_ wt at2 wt2 m n)]) (idx := 246) (as := [vr 9 k, vr 9 q]) (st := []) (m_B_winsOf hA.L hA2.L A.2.1 A2.2.1) (by decide +kernel) (show sOK "ChanceBench" 246 M_B_winsOf 2 = true by decide +kernel) rfl (Nat.le_of_ble_eq_true rfl) (by decide) (by decide) (by decide) rfl rfl rfl rfl ?_
  rw [wns_T A A2]
  refine aw_blk (pc' := 25) (ls' := [some (vr 0 0), some (vi e), some (vi c), some (vi d), some (vr 9 k), some (vr 9 q)]) (st' := [vr 9 q, vr 9 k, vl (win (den at_ wt n) (den at2 wt2 m))]) [.inl (.aload 4), .inl (.aload 5)] 21 _ _ (by decide +kernel) rfl ?_
  refine aw_dS (cs' := 2) (sl' := 12) (pc' := 28) (st' := [vl (W * W2), vl (win (den at_ wt n) (den at2 wt2 m))]) (idx := 176) (as := [vr 9 k, vr 9 q]) (st := [vl (win (den at_ wt n) (den at2 wt2 m))]) (m_B_product hA.L hA2.L) (by decide +kernel) (show sOK "ChanceBench" 176 M_B_product 2 = true by decide +kernel) rfl (Nat.le_of_ble_eq_true rfl) (by decide) (by decide) (by decide) rfl rfl rfl rfl ?_
  refine aw_blk (pc' := 29) (ls' := [some (vr 0 0), some (vi e), some (vi c), some (vi d), some (vr 9 k), some (vr 9 q)]) (st' := [vi d, vl (W * W2), vl (win (den at_ wt n) (den at2 wt2 m))]) [.inl (.iload_n 3)] 28 _ _ (by decide +kernel) rfl ?_
  refine aw_dS (cs' := 3) (sl' := 18) (pc' := 32) (st' := [vl (prt (win (den at_ wt n) (den at2 wt2 m)) (W * W2) d)]) (idx := 152) (as := [vl (win (den at_ wt n) (den at2 wt2 m)), vl (W * W2), vi d]) (st := []) (m_B_part (by constructor <;> omega) (by constructor <;> omega) hd1) (by decide +kernel) (show sOK "ChanceBench" 152 M_B_part 3 = true by decide +kernel) rfl (Nat.le_of_ble_eq_true rfl) (by decide) (by decide) (by decide) rfl rfl rfl rfl ?_
  exact aw_lret (by decide +kernel) rfl (by decide) (by decide) (hq _ _ rfl rfl)

theorem m_B_beats_t2 (hI : I32 e ∧ I32 c) (hi : I32 d) (hd1 : ¬ (d = 0 ∨ d = 1)) (hl1 : lawAt laws e = some (9, k)) (hl2 : lawAt laws c = some (9, q)) (hA : isD dy k k1 k2 n at_ wt W) (A : lwN n at_ wt W) (hA2 : isD dy q q1 q2 m at2 wt2 W2) (A2 : lwN m at2 wt2 W2) : AThr G M_B_beats [vr 0 0, vi e, vi c, vi d] (Hp (sgB bd tk) (sgS laws slot ahead made (od : Int) (dn : Int) (un : Int)) t (sgK (nn : Int) rr ff gg) df jo tr di mo dy) := by
  refine am_thr (by decide +kernel) (Nat.le_of_ble_eq_true rfl) (fun Qr Qt hq => ?_)
  have a1 := A.2.2.2
  have b1 := A2.2.2.2
  have hWW := mulB (x := W) (y := W2) (by omega) (by omega) (by omega) (by omega)
  have hwi := win_in A A2
  refine aw_blk (pc' := 2) (ls' := [some (vr 0 0), some (vi e), some (vi c), some (vi d), none, none]) (st' := [vi e, vr 0 0]) [.inl (.aload_n 0), .inl (.iload_n 1)] 0 _ _ (by decide +kernel) rfl ?_
  refine aw_dV (cs' := 1) (sl' := 6) (pc' := 5) (st' := [vr 9 k]) (idx := 143) (as := [vi e]) (st := []) (m_B_lawOf hI.1 hl1) (by decide +kernel) (show vOK "ChanceBench" 143 M_B_lawOf 1 = true by decide +kernel) rfl rfl rfl (Nat.le_of_ble_eq_true rfl) (by decide) (by decide) (by decide) rfl rfl rfl rfl ?_
  refine aw_blk (pc' := 9) (ls' := [some (vr 0 0), some (vi e), some (vi c), some (vi d), some (vr 9 k), none]) (st' := [vi c, vr 0 0]) [.inl (.astore 4), .inl (.aload_n 0), .inl (.iload_n 2)] 5 _ _ (by decide +kernel) rfl ?_
  refine aw_dV (cs' := 2) (sl' := 12) (pc' := 12) (st' := [vr 9 q]) (idx := 143) (as := [vi c]) (st := []) (m_B_lawOf hI.2 hl2) (by decide +kernel) (show vOK "ChanceBench" 143 M_B_lawOf 1 = true by decide +kernel) rfl rfl rfl (Nat.le_of_ble_eq_true rfl) (by decide) (by decide) (by decide) rfl rfl rfl rfl ?_
  refine aw_blk (pc' := 18) (ls' := [some (vr 0 0), some (vi e), some (vi c), some (vi d), some (vr 9 k), some (vr 9 q)]) (st' := [vr 9 q, vr 9 k]) [.inl (.astore 5), .inl (.aload 4), .inl (.aload 5)] 12 _ _ (by decide +kernel) rfl ?_
  refine aw_dS (cs' := 2) (sl' := 12) (pc' := 21) (st' := [vl (wns at_ wt at2 wt2 m n)]) (idx := 246) (as := [vr 9 k, vr 9 q]) (st := []) (m_B_winsOf hA.L hA2.L A.2.1 A2.2.1) (by decide +kernel) (show sOK "ChanceBench" 246 M_B_winsOf 2 = true by decide +kernel) rfl (Nat.le_of_ble_eq_true rfl) (by decide) (by decide) (by decide) rfl rfl rfl rfl ?_
  rw [wns_T A A2]
  refine aw_blk (pc' := 25) (ls' := [some (vr 0 0), some (vi e), some (vi c), some (vi d), some (vr 9 k), some (vr 9 q)]) (st' := [vr 9 q, vr 9 k, vl (win (den at_ wt n) (den at2 wt2 m))]) [.inl (.aload 4), .inl (.aload 5)] 21 _ _ (by decide +kernel) rfl ?_
  refine aw_dS (cs' := 2) (sl' := 12) (pc' := 28) (st' := [vl (W * W2), vl (win (den at_ wt n) (den at2 wt2 m))]) (idx := 176) (as := [vr 9 k, vr 9 q]) (st := [vl (win (den at_ wt n) (den at2 wt2 m))]) (m_B_product hA.L hA2.L) (by decide +kernel) (show sOK "ChanceBench" 176 M_B_product 2 = true by decide +kernel) rfl (Nat.le_of_ble_eq_true rfl) (by decide) (by decide) (by decide) rfl rfl rfl rfl ?_
  refine aw_blk (pc' := 29) (ls' := [some (vr 0 0), some (vi e), some (vi c), some (vi d), some (vr 9 k), some (vr 9 q)]) (st' := [vi d, vl (W * W2), vl (win (den at_ wt n) (den at2 wt2 m))]) [.inl (.iload_n 3)] 28 _ _ (by decide +kernel) rfl ?_
  exact aw_tS (idx := 152) (as := [vl (win (den at_ wt n) (den at2 wt2 m)), vl (W * W2), vi d]) (st := []) (m_B_part_t hi (by omega) (by omega)) (by decide +kernel) (show sOK "ChanceBench" 152 M_B_part 3 = true by decide +kernel) rfl (Nat.le_of_ble_eq_true rfl) (by decide) (by decide) (by decide) hq

theorem m_B_above_0 (hI : I32 e ∧ I32 c) (hl1 : lawAt laws e = none) : ADet G M_B_above [vr 0 0, vi e, vi c] (Hp (sgB bd tk) (sgS laws slot ahead made (od : Int) (dn : Int) (un : Int)) t (sgK (nn : Int) rr ff gg) df jo tr di mo dy) (some (vi (-1))) (Hp (sgB bd tk) (sgS laws slot ahead made (od : Int) (dn : Int) (un : Int)) t (sgK (nn : Int) rr ff gg) df jo tr di mo dy) := by
  refine am_det (by decide +kernel) (Nat.le_of_ble_eq_true rfl) (fun Qr Qt hq => ?_)
  refine aw_blk (pc' := 5) (ls' := [some (vr 0 0), some (vi e), some (vi c), none, none]) (st' := [vi e, vr 1 0]) [.inl (.aload_n 0), .inr (10, 0, 0), .inl (.iload_n 1)] 0 _ _ (by decide +kernel) rfl ?_
  refine aw_dV (cs' := 0) (sl' := 0) (pc' := 8) (st' := [vo (lawAt laws e)]) (idx := 117) (as := [vi e]) (st := []) (m_S_lawIn hI.1) (by decide +kernel) (show vOK "ChanceBench" 117 M_S_lawIn 1 = true by decide +kernel) rfl rfl rfl (Nat.le_of_ble_eq_true rfl) (by decide) (by decide) (by decide) rfl rfl rfl rfl ?_
  rw [hl1]
  refine aw_blk (pc' := 14) (ls' := [some (vr 0 0), some (vi e), some (vi c), some (vn), none]) (st' := [vi c, vr 1 0]) [.inl (.astore_n 3), .inl (.aload_n 0), .inr (10, 0, 0), .inl (.iload_n 2)] 8 _ _ (by decide +kernel) rfl ?_
  refine aw_dV (cs' := 0) (sl' := 0) (pc' := 17) (st' := [vo (lawAt laws c)]) (idx := 117) (as := [vi c]) (st := []) (m_S_lawIn hI.2) (by decide +kernel) (show vOK "ChanceBench" 117 M_S_lawIn 1 = true by decide +kernel) rfl rfl rfl (Nat.le_of_ble_eq_true rfl) (by decide) (by decide) (by decide) rfl rfl rfl rfl ?_
  refine aw_blk (pc' := 20) (ls' := [some (vr 0 0), some (vi e), some (vi c), some (vn), some (vo (lawAt laws c))]) (st' := [vn]) [.inl (.astore 4), .inl (.aload_n 3)] 17 _ _ (by decide +kernel) rfl ?_
  refine aw_ifnull (o := 8) (tgt := 28) (by decide +kernel) (by decide) (fun _ => ?_) (fun _ z => nomatch z)
  refine aw_blk (pc' := 29) (ls' := [some (vr 0 0), some (vi e), some (vi c), some (vn), some (vo (lawAt laws c))]) (st' := [vi (-1)]) [.inl (.iconst (-1))] 28 _ _ (by decide +kernel) rfl ?_
  exact aw_iret (by decide +kernel) rfl (by decide) (by decide) (hq _ _ rfl rfl)

theorem m_B_above_1 (hI : I32 e ∧ I32 c) (hl1 : lawAt laws e = some (9, k)) (hl2 : lawAt laws c = none) : ADet G M_B_above [vr 0 0, vi e, vi c] (Hp (sgB bd tk) (sgS laws slot ahead made (od : Int) (dn : Int) (un : Int)) t (sgK (nn : Int) rr ff gg) df jo tr di mo dy) (some (vi (-1))) (Hp (sgB bd tk) (sgS laws slot ahead made (od : Int) (dn : Int) (un : Int)) t (sgK (nn : Int) rr ff gg) df jo tr di mo dy) := by
  refine am_det (by decide +kernel) (Nat.le_of_ble_eq_true rfl) (fun Qr Qt hq => ?_)
  refine aw_blk (pc' := 5) (ls' := [some (vr 0 0), some (vi e), some (vi c), none, none]) (st' := [vi e, vr 1 0]) [.inl (.aload_n 0), .inr (10, 0, 0), .inl (.iload_n 1)] 0 _ _ (by decide +kernel) rfl ?_
  refine aw_dV (cs' := 0) (sl' := 0) (pc' := 8) (st' := [vo (lawAt laws e)]) (idx := 117) (as := [vi e]) (st := []) (m_S_lawIn hI.1) (by decide +kernel) (show vOK "ChanceBench" 117 M_S_lawIn 1 = true by decide +kernel) rfl rfl rfl (Nat.le_of_ble_eq_true rfl) (by decide) (by decide) (by decide) rfl rfl rfl rfl ?_
  rw [hl1]
  refine aw_blk (pc' := 14) (ls' := [some (vr 0 0), some (vi e), some (vi c), some (vr 9 k), none]) (st' := [vi c, vr 1 0]) [.inl (.astore_n 3), .inl (.aload_n 0), .inr (10, 0, 0), .inl (.iload_n 2)] 8 _ _ (by decide +kernel) rfl ?_
  refine aw_dV (cs' := 0) (sl' := 0) (pc' := 17) (st' := [vo (lawAt laws c)]) (idx := 117) (as := [vi c]) (st := []) (m_S_lawIn hI.2) (by decide +kernel) (show vOK "ChanceBench" 117 M_S_lawIn 1 = true by decide +kernel) rfl rfl rfl (Nat.le_of_ble_eq_true rfl) (by decide) (by decide) (by decide) rfl rfl rfl rfl ?_
  rw [hl2]
  refine aw_blk (pc' := 20) (ls' := [some (vr 0 0), some (vi e), some (vi c), some (vr 9 k), some (vn)]) (st' := [vr 9 k]) [.inl (.astore 4), .inl (.aload_n 3)] 17 _ _ (by decide +kernel) rfl ?_
  refine aw_ifnull (o := 8) (tgt := 28) (by decide +kernel) (by decide) (fun z => nomatch z) (fun _ _ => ?_)
  refine aw_blk (pc' := 25) (ls' := [some (vr 0 0), some (vi e), some (vi c), some (vr 9 k), some (vn)]) (st' := [vn]) [.inl (.aload 4)] 23 _ _ (by decide +kernel) rfl ?_
  refine aw_ifnonnull (o := 5) (tgt := 30) (by decide +kernel) (by decide) (fun _ z => nomatch z) (fun _ => ?_)
  refine aw_blk (pc' := 29) (ls' := [some (vr 0 0), some (vi e), some (vi c), some (vr 9 k), some (vn)]) (st' := [vi (-1)]) [.inl (.iconst (-1))] 28 _ _ (by decide +kernel) rfl ?_
  exact aw_iret (by decide +kernel) rfl (by decide) (by decide) (hq _ _ rfl rfl)

theorem m_B_spread_0 (hI : I32 e ∧ I32 c) (hl1 : lawAt laws e = none) : ADet G M_B_spread [vr 0 0, vi e, vi c] (Hp (sgB bd tk) (sgS laws slot ahead made (od : Int) (dn : Int) (un : Int)) t (sgK (nn : Int) rr ff gg) df jo tr di mo dy) (some (vi (-1))) (Hp (sgB bd tk) (sgS laws slot ahead made (od : Int) (dn : Int) (un : Int)) t (sgK (nn : Int) rr ff gg) df jo tr di mo dy) := by
  refine am_det (by decide +kernel) (Nat.le_of_ble_eq_true rfl) (fun Qr Qt hq => ?_)
  refine aw_blk (pc' := 5) (ls' := [some (vr 0 0), some (vi e), some (vi c), none, none]) (st' := [vi e, vr 1 0]) [.inl (.aload_n 0), .inr (10, 0, 0), .inl (.iload_n 1)] 0 _ _ (by decide +kernel) rfl ?_
  refine aw_dV (cs' := 0) (sl' := 0) (pc' := 8) (st' := [vo (lawAt laws e)]) (idx := 117) (as := [vi e]) (st := []) (m_S_lawIn hI.1) (by decide +kernel) (show vOK "ChanceBench" 117 M_S_lawIn 1 = true by decide +kernel) rfl rfl rfl (Nat.le_of_ble_eq_true rfl) (by decide) (by decide) (by decide) rfl rfl rfl rfl ?_
  rw [hl1]
  refine aw_blk (pc' := 14) (ls' := [some (vr 0 0), some (vi e), some (vi c), some (vn), none]) (st' := [vi c, vr 1 0]) [.inl (.astore_n 3), .inl (.aload_n 0), .inr (10, 0, 0), .inl (.iload_n 2)] 8 _ _ (by decide +kernel) rfl ?_
  refine aw_dV (cs' := 0) (sl' := 0) (pc' := 17) (st' := [vo (lawAt laws c)]) (idx := 117) (as := [vi c]) (st := []) (m_S_lawIn hI.2) (by decide +kernel) (show vOK "ChanceBench" 117 M_S_lawIn 1 = true by decide +kernel) rfl rfl rfl (Nat.le_of_ble_eq_true rfl) (by decide) (by decide) (by decide) rfl rfl rfl rfl ?_
  refine aw_blk (pc' := 20) (ls' := [some (vr 0 0), some (vi e), some (vi c), some (vn), some (vo (lawAt laws c))]) (st' := [vn]) [.inl (.astore 4), .inl (.aload_n 3)] 17 _ _ (by decide +kernel) rfl ?_
  refine aw_ifnull (o := 8) (tgt := 28) (by decide +kernel) (by decide) (fun _ => ?_) (fun _ z => nomatch z)
  refine aw_blk (pc' := 29) (ls' := [some (vr 0 0), some (vi e), some (vi c), some (vn), some (vo (lawAt laws c))]) (st' := [vi (-1)]) [.inl (.iconst (-1))] 28 _ _ (by decide +kernel) rfl ?_
  exact aw_iret (by decide +kernel) rfl (by decide) (by decide) (hq _ _ rfl rfl)

theorem m_B_spread_1 (hI : I32 e ∧ I32 c) (hl1 : lawAt laws e = some (9, k)) (hl2 : lawAt laws c = none) : ADet G M_B_spread [vr 0 0, vi e, vi c] (Hp (sgB bd tk) (sgS laws slot ahead made (od : Int) (dn : Int) (un : Int)) t (sgK (nn : Int) rr ff gg) df jo tr di mo dy) (some (vi (-1))) (Hp (sgB bd tk) (sgS laws slot ahead made (od : Int) (dn : Int) (un : Int)) t (sgK (nn : Int) rr ff gg) df jo tr di mo dy) := by
  refine am_det (by decide +kernel) (Nat.le_of_ble_eq_true rfl) (fun Qr Qt hq => ?_)
  refine aw_blk (pc' := 5) (ls' := [some (vr 0 0), some (vi e), some (vi c), none, none]) (st' := [vi e, vr 1 0]) [.inl (.aload_n 0), .inr (10, 0, 0), .inl (.iload_n 1)] 0 _ _ (by decide +kernel) rfl ?_
  refine aw_dV (cs' := 0) (sl' := 0) (pc' := 8) (st' := [vo (lawAt laws e)]) (idx := 117) (as := [vi e]) (st := []) (m_S_lawIn hI.1) (by decide +kernel) (show vOK "ChanceBench" 117 M_S_lawIn 1 = true by decide +kernel) rfl rfl rfl (Nat.le_of_ble_eq_true rfl) (by decide) (by decide) (by decide) rfl rfl rfl rfl ?_
  rw [hl1]
  refine aw_blk (pc' := 14) (ls' := [some (vr 0 0), some (vi e), some (vi c), some (vr 9 k), none]) (st' := [vi c, vr 1 0]) [.inl (.astore_n 3), .inl (.aload_n 0), .inr (10, 0, 0), .inl (.iload_n 2)] 8 _ _ (by decide +kernel) rfl ?_
  refine aw_dV (cs' := 0) (sl' := 0) (pc' := 17) (st' := [vo (lawAt laws c)]) (idx := 117) (as := [vi c]) (st := []) (m_S_lawIn hI.2) (by decide +kernel) (show vOK "ChanceBench" 117 M_S_lawIn 1 = true by decide +kernel) rfl rfl rfl (Nat.le_of_ble_eq_true rfl) (by decide) (by decide) (by decide) rfl rfl rfl rfl ?_
  rw [hl2]
  refine aw_blk (pc' := 20) (ls' := [some (vr 0 0), some (vi e), some (vi c), some (vr 9 k), some (vn)]) (st' := [vr 9 k]) [.inl (.astore 4), .inl (.aload_n 3)] 17 _ _ (by decide +kernel) rfl ?_
  refine aw_ifnull (o := 8) (tgt := 28) (by decide +kernel) (by decide) (fun z => nomatch z) (fun _ _ => ?_)
  refine aw_blk (pc' := 25) (ls' := [some (vr 0 0), some (vi e), some (vi c), some (vr 9 k), some (vn)]) (st' := [vn]) [.inl (.aload 4)] 23 _ _ (by decide +kernel) rfl ?_
  refine aw_ifnonnull (o := 5) (tgt := 30) (by decide +kernel) (by decide) (fun _ z => nomatch z) (fun _ => ?_)
  refine aw_blk (pc' := 29) (ls' := [some (vr 0 0), some (vi e), some (vi c), some (vr 9 k), some (vn)]) (st' := [vi (-1)]) [.inl (.iconst (-1))] 28 _ _ (by decide +kernel) rfl ?_
  exact aw_iret (by decide +kernel) rfl (by decide) (by decide) (hq _ _ rfl rfl)

theorem m_B_joint_0 (hI : I32 e ∧ I32 c) (hl1 : lawAt laws e = none) : ADet G M_B_joint [vr 0 0, vi e, vi c, vi d] (Hp (sgB bd tk) (sgS laws slot ahead made (od : Int) (dn : Int) (un : Int)) t (sgK (nn : Int) rr ff gg) df jo tr di mo dy) (some (vi (-1))) (Hp (sgB bd tk) (sgS laws slot ahead made (od : Int) (dn : Int) (un : Int)) t (sgK (nn : Int) rr ff gg) df jo tr di mo dy) := by
  refine am_det (by decide +kernel) (Nat.le_of_ble_eq_true rfl) (fun Qr Qt hq => ?_)
  refine aw_blk (pc' := 5) (ls' := [some (vr 0 0), some (vi e), some (vi c), some (vi d), none, none]) (st' := [vi e, vr 1 0]) [.inl (.aload_n 0), .inr (10, 0, 0), .inl (.iload_n 1)] 0 _ _ (by decide +kernel) rfl ?_
  refine aw_dV (cs' := 0) (sl' := 0) (pc' := 8) (st' := [vo (lawAt laws e)]) (idx := 117) (as := [vi e]) (st := []) (m_S_lawIn hI.1) (by decide +kernel) (show vOK "ChanceBench" 117 M_S_lawIn 1 = true by decide +kernel) rfl rfl rfl (Nat.le_of_ble_eq_true rfl) (by decide) (by decide) (by decide) rfl rfl rfl rfl ?_
  rw [hl1]
  refine aw_blk (pc' := 15) (ls' := [some (vr 0 0), some (vi e), some (vi c), some (vi d), some (vn), none]) (st' := [vi c, vr 1 0]) [.inl (.astore 4), .inl (.aload_n 0), .inr (10, 0, 0), .inl (.iload_n 2)] 8 _ _ (by decide +kernel) rfl ?_
  refine aw_dV (cs' := 0) (sl' := 0) (pc' := 18) (st' := [vo (lawAt laws c)]) (idx := 117) (as := [vi c]) (st := []) (m_S_lawIn hI.2) (by decide +kernel) (show vOK "ChanceBench" 117 M_S_lawIn 1 = true by decide +kernel) rfl rfl rfl (Nat.le_of_ble_eq_true rfl) (by decide) (by decide) (by decide) rfl rfl rfl rfl ?_
  refine aw_blk (pc' := 22) (ls' := [some (vr 0 0), some (vi e), some (vi c), some (vi d), some (vn), some (vo (lawAt laws c))]) (st' := [vn]) [.inl (.astore 5), .inl (.aload 4)] 18 _ _ (by decide +kernel) rfl ?_
  refine aw_ifnull (o := 17) (tgt := 39) (by decide +kernel) (by decide) (fun _ => ?_) (fun _ z => nomatch z)
  refine aw_blk (pc' := 40) (ls' := [some (vr 0 0), some (vi e), some (vi c), some (vi d), some (vn), some (vo (lawAt laws c))]) (st' := [vi (-1)]) [.inl (.iconst (-1))] 39 _ _ (by decide +kernel) rfl ?_
  exact aw_iret (by decide +kernel) rfl (by decide) (by decide) (hq _ _ rfl rfl)

theorem m_B_joint_1 (hI : I32 e ∧ I32 c) (hl1 : lawAt laws e = some (9, k)) (hl2 : lawAt laws c = none) : ADet G M_B_joint [vr 0 0, vi e, vi c, vi d] (Hp (sgB bd tk) (sgS laws slot ahead made (od : Int) (dn : Int) (un : Int)) t (sgK (nn : Int) rr ff gg) df jo tr di mo dy) (some (vi (-1))) (Hp (sgB bd tk) (sgS laws slot ahead made (od : Int) (dn : Int) (un : Int)) t (sgK (nn : Int) rr ff gg) df jo tr di mo dy) := by
  refine am_det (by decide +kernel) (Nat.le_of_ble_eq_true rfl) (fun Qr Qt hq => ?_)
  refine aw_blk (pc' := 5) (ls' := [some (vr 0 0), some (vi e), some (vi c), some (vi d), none, none]) (st' := [vi e, vr 1 0]) [.inl (.aload_n 0), .inr (10, 0, 0), .inl (.iload_n 1)] 0 _ _ (by decide +kernel) rfl ?_
  refine aw_dV (cs' := 0) (sl' := 0) (pc' := 8) (st' := [vo (lawAt laws e)]) (idx := 117) (as := [vi e]) (st := []) (m_S_lawIn hI.1) (by decide +kernel) (show vOK "ChanceBench" 117 M_S_lawIn 1 = true by decide +kernel) rfl rfl rfl (Nat.le_of_ble_eq_true rfl) (by decide) (by decide) (by decide) rfl rfl rfl rfl ?_
  rw [hl1]
  refine aw_blk (pc' := 15) (ls' := [some (vr 0 0), some (vi e), some (vi c), some (vi d), some (vr 9 k), none]) (st' := [vi c, vr 1 0]) [.inl (.astore 4), .inl (.aload_n 0), .inr (10, 0, 0), .inl (.iload_n 2)] 8 _ _ (by decide +kernel) rfl ?_
  refine aw_dV (cs' := 0) (sl' := 0) (pc' := 18) (st' := [vo (lawAt laws c)]) (idx := 117) (as := [vi c]) (st := []) (m_S_lawIn hI.2) (by decide +kernel) (show vOK "ChanceBench" 117 M_S_lawIn 1 = true by decide +kernel) rfl rfl rfl (Nat.le_of_ble_eq_true rfl) (by decide) (by decide) (by decide) rfl rfl rfl rfl ?_
  rw [hl2]
  refine aw_blk (pc' := 22) (ls' := [some (vr 0 0), some (vi e), some (vi c), some (vi d), some (vr 9 k), some (vn)]) (st' := [vr 9 k]) [.inl (.astore 5), .inl (.aload 4)] 18 _ _ (by decide +kernel) rfl ?_
  refine aw_ifnull (o := 17) (tgt := 39) (by decide +kernel) (by decide) (fun z => nomatch z) (fun _ _ => ?_)
  refine aw_blk (pc' := 27) (ls' := [some (vr 0 0), some (vi e), some (vi c), some (vi d), some (vr 9 k), some (vn)]) (st' := [vn]) [.inl (.aload 5)] 25 _ _ (by decide +kernel) rfl ?_
  refine aw_ifnull (o := 12) (tgt := 39) (by decide +kernel) (by decide) (fun _ => ?_) (fun _ z => nomatch z)
  refine aw_blk (pc' := 40) (ls' := [some (vr 0 0), some (vi e), some (vi c), some (vi d), some (vr 9 k), some (vn)]) (st' := [vi (-1)]) [.inl (.iconst (-1))] 39 _ _ (by decide +kernel) rfl ?_
  exact aw_iret (by decide +kernel) rfl (by decide) (by decide) (hq _ _ rfl rfl)

theorem isF_in {P : Int → Prop} {v : Int} (h : isF P v) : I32 v := by rcases h with ⟨a, _⟩ | ⟨a, _⟩ <;> omega
theorem m_B_above (hI : I32 e ∧ I32 c) (hl1 : lawAt laws e = some (9, k)) (hl2 : lawAt laws c = some (9, q)) (hA : isD dy k k1 k2 n at_ wt W) (A : lwN n at_ wt W) (hA2 : isD dy q q1 q2 m at2 wt2 W2) (A2 : lwN m at2 wt2 W2) : AMet G M_B_above [vr 0 0, vi e, vi c] (Hp (sgB bd tk) (sgS laws slot ahead made (od : Int) (dn : Int) (un : Int)) t (sgK (nn : Int) rr ff gg) (sgF l0 D0 B0) jo tr di mo dy) (fun r h => ∃ (L : Nat) (D Bf : Nat → Int) (v : Int), isF (fun t => 0 < cum (Ed n m at_ wt at2 wt2 W W2) (t - 1)) v ∧ r = some (vi (if v = 5000 then 1 else 0)) ∧ h = Hp (sgB (if v = 5000 then bd else v) tk) (sgS laws slot ahead made (od : Int) (dn : Int) (un : Int)) t (sgK (nn : Int) rr ff gg) (sgF (L : Int) D Bf) jo tr di mo dy) (fun _ => False) := by
  refine am_rel (by decide +kernel) (Nat.le_of_ble_eq_true rfl) (fun Qr Qt hq => ?_)
  refine aw_blk (pc' := 5) (ls' := [some (vr 0 0), some (vi e), some (vi c), none, none]) (st' := [vi e, vr 1 0]) [.inl (.aload_n 0), .inr (10, 0, 0), .inl (.iload_n 1)] 0 _ _ (by decide +kernel) rfl ?_
  refine aw_dV (cs' := 0) (sl' := 0) (pc' := 8) (st' := [vo (lawAt laws e)]) (idx := 117) (as := [vi e]) (st := []) (m_S_lawIn hI.1) (by decide +kernel) (show vOK "ChanceBench" 117 M_S_lawIn 1 = true by decide +kernel) rfl rfl rfl (Nat.le_of_ble_eq_true rfl) (by decide) (by decide) (by decide) rfl rfl rfl rfl ?_
  rw [hl1]
  refine aw_blk (pc' := 14) (ls' := [some (vr 0 0), some (vi e), some (vi c), some (vr 9 k), none]) (st' := [vi c, vr 1 0]) [.inl (.astore_n 3), .inl (.aload_n 0), .inr (10, 0, 0), .inl (.iload_n 2)] 8 _ _ (by decide +kernel) rfl ?_
  refine aw_dV (cs' := 0) (sl' := 0) (pc' := 17) (st' := [vo (lawAt laws c)]) (idx := 117) (as := [vi c]) (st := []) (m_S_lawIn hI.2) (by decide +kernel) (show vOK "ChanceBench" 117 M_S_lawIn 1 = true by decide +kernel) rfl rfl rfl (Nat.le_of_ble_eq_true rfl) (by decide) (by decide) (by decide) rfl rfl rfl rfl ?_
  rw [hl2]
  refine aw_blk (pc' := 20) (ls' := [some (vr 0 0), some (vi e), some (vi c), some (vr 9 k), some (vr 9 q)]) (st' := [vr 9 k]) [.inl (.astore 4), .inl (.aload_n 3)] 17 _ _ (by decide +kernel) rfl ?_
  refine aw_ifnull (o := 8) (tgt := 28) (by decide +kernel) (by decide) (fun z => nomatch z) (fun _ _ => ?_)
  refine aw_blk (pc' := 25) (ls' := [some (vr 0 0), some (vi e), some (vi c), some (vr 9 k), some (vr 9 q)]) (st' := [vr 9 q]) [.inl (.aload 4)] 23 _ _ (by decide +kernel) rfl ?_
  refine aw_ifnonnull (o := 5) (tgt := 30) (by decide +kernel) (by decide) (fun _ _ => ?_) (fun z => nomatch z)
  refine aw_blk (pc' := 37) (ls' := [some (vr 0 0), some (vi e), some (vi c), some (vr 9 k), some (vr 9 q)]) (st' := [vr 9 q, vr 9 k, vr 4 0]) [.inl (.aload_n 0), .inr (33, 0, 3), .inl (.aload_n 3), .inl (.aload 4)] 30 _ _ (by decide +kernel) rfl ?_
  refine aw_rV (cs' := 0) (sl' := 0) (pc' := 40) (idx := 167) (as := [vr 9 k, vr 9 q]) (st := []) (m_F_takeR hA hA2 A A2) (by decide +kernel) (show vOK "ChanceBench" 167 M_F_take 2 = true by decide +kernel) rfl rfl rfl (Nat.le_of_ble_eq_true rfl) (by decide) (by decide) (by decide) rfl rfl rfl (fun r37 h37 z37 => ?_)
  obtain ⟨rfl, L, D, Bf, K, rfl⟩ := z37
  refine aw_blk (pc' := 45) (ls' := [some (vr 0 0), some (vi e), some (vi c), some (vr 9 k), some (vr 9 q)]) (st' := [vr 4 0, vr 0 0]) [.inl (.aload_n 0), .inl (.aload_n 0), .inr (33, 0, 3)] 40 _ _ (by decide +kernel) rfl ?_
  refine aw_dV (cs' := 0) (sl' := 0) (pc' := 48) (st' := [vi (lna D Bf L 0), vr 0 0]) (idx := 183) (as := []) (st := [vr 0 0]) (m_F_leastNotAbove K.1 (fun k hk => by have := K.2.2.2.2.2.1 k hk; omega) K.2.2.1) (by decide +kernel) (show vOK "ChanceBench" 183 M_F_leastNotAbove 0 = true by decide +kernel) rfl rfl rfl (Nat.le_of_ble_eq_true rfl) (by decide) (by decide) (by decide) rfl rfl rfl rfl ?_
  have hF := K.lna
  generalize lna D Bf L 0 = v at hF ⊢
  refine aw_dV (cs' := 0) (sl' := 0) (pc' := 51) (st' := [vi (if v = 5000 then 1 else 0)]) (idx := 186) (as := [vi v]) (st := []) (m_B_heldUnless (isF_in hF)) (by decide +kernel) (show vOK "ChanceBench" 186 M_B_heldUnless 1 = true by decide +kernel) rfl rfl rfl (Nat.le_of_ble_eq_true rfl) (by decide) (by decide) (by decide) rfl rfl rfl rfl ?_
  exact aw_iret (by decide +kernel) rfl (by decide) (by decide) (hq _ _ ⟨L, D, Bf, v, hF, rfl, rfl⟩)

theorem means_in (A : lwN n at_ wt W) (A2 : lwN m at2 wt2 W2) : I64 (sT (fun u => Ed n m at_ wt at2 wt2 W W2 u * u)) := by
  have a1 := A.2.2.2
  have b1 := A2.2.2.2
  have e : sT (fun u => Ed n m at_ wt at2 wt2 W W2 u * u) = W2 * sT (fun u => u * den at_ wt n u) - W * sT (fun u => u * den at2 wt2 m u) := by
    rw [← sT_mul, ← sT_mul, ← sT_sub]
    refine sT_ext (fun u _ => ?_)
    show (W2 * den at_ wt n u - W * den at2 wt2 m u) * u = _
    rw [Int.sub_mul, Int.mul_assoc, Int.mul_assoc, Int.mul_comm (den at_ wt n u), Int.mul_comm (den at2 wt2 m u)]
  have c1 := lw_b1 A
  have c2 := lw_b1 A2
  have d1 := mul_in (x := 1048576) (y := 1048576000) (u := W2) (v := sT (fun u => u * den at_ wt n u)) (by omega) (by omega) (by omega) (by omega)
  have d2 := mul_in (x := 1048576) (y := 1048576000) (u := W) (v := sT (fun u => u * den at2 wt2 m u)) (by omega) (by omega) (by omega) (by omega)
  rw [e]; omega
theorem m_B_spread (hI : I32 e ∧ I32 c) (hl1 : lawAt laws e = some (9, k)) (hl2 : lawAt laws c = some (9, q)) (hA : isD dy k k1 k2 n at_ wt W) (A : lwN n at_ wt W) (hA2 : isD dy q q1 q2 m at2 wt2 W2) (A2 : lwN m at2 wt2 W2) : AMet G M_B_spread [vr 0 0, vi e, vi c] (Hp (sgB bd tk) (sgS laws slot ahead made (od : Int) (dn : Int) (un : Int)) t (sgK (nn : Int) rr ff gg) (sgF l0 D0 B0) jo tr di mo dy) (fun r h => ∃ (L : Nat) (D Bf : Nat → Int), (sT (fun u => Ed n m at_ wt at2 wt2 W W2 u * u) ≠ 0 ∧ r = some (vi 2) ∧ h = Hp (sgB bd tk) (sgS laws slot ahead made (od : Int) (dn : Int) (un : Int)) t (sgK (nn : Int) rr ff gg) (sgF (L : Int) D Bf) jo tr di mo dy) ∨ (sT (fun u => Ed n m at_ wt at2 wt2 W W2 u * u) = 0 ∧ ∃ v : Int, isF (fun t => 0 < Ov (Ed n m at_ wt at2 wt2 W W2) t) v ∧ r = some (vi (if v = 5000 then 1 else 0)) ∧ h = Hp (sgB (if v = 5000 then bd else v) tk) (sgS laws slot ahead made (od : Int) (dn : Int) (un : Int)) t (sgK (nn : Int) rr ff gg) (sgF (L : Int) D Bf) jo tr di mo dy)) (fun _ => False) := by
  refine am_rel (by decide +kernel) (Nat.le_of_ble_eq_true rfl) (fun Qr Qt hq => ?_)
  refine aw_blk (pc' := 5) (ls' := [some (vr 0 0), some (vi e), some (vi c), none, none]) (st' := [vi e, vr 1 0]) [.inl (.aload_n 0), .inr (10, 0, 0), .inl (.iload_n 1)] 0 _ _ (by decide +kernel) rfl ?_
  refine aw_dV (cs' := 0) (sl' := 0) (pc' := 8) (st' := [vo (lawAt laws e)]) (idx := 117) (as := [vi e]) (st := []) (m_S_lawIn hI.1) (by decide +kernel) (show vOK "ChanceBench" 117 M_S_lawIn 1 = true by decide +kernel) rfl rfl rfl (Nat.le_of_ble_eq_true rfl) (by decide) (by decide) (by decide) rfl rfl rfl rfl ?_
  rw [hl1]
  refine aw_blk (pc' := 14) (ls' := [some (vr 0 0), some (vi e), some (vi c), some (vr 9 k), none]) (st' := [vi c, vr 1 0]) [.inl (.astore_n 3), .inl (.aload_n 0), .inr (10, 0, 0), .inl (.iload_n 2)] 8 _ _ (by decide +kernel) rfl ?_
  refine aw_dV (cs' := 0) (sl' := 0) (pc' := 17) (st' := [vo (lawAt laws c)]) (idx := 117) (as := [vi c]) (st := []) (m_S_lawIn hI.2) (by decide +kernel) (show vOK "ChanceBench" 117 M_S_lawIn 1 = true by decide +kernel) rfl rfl rfl (Nat.le_of_ble_eq_true rfl) (by decide) (by decide) (by decide) rfl rfl rfl rfl ?_
  rw [hl2]
  refine aw_blk (pc' := 20) (ls' := [some (vr 0 0), some (vi e), some (vi c), some (vr 9 k), some (vr 9 q)]) (st' := [vr 9 k]) [.inl (.astore 4), .inl (.aload_n 3)] 17 _ _ (by decide +kernel) rfl ?_
  refine aw_ifnull (o := 8) (tgt := 28) (by decide +kernel) (by decide) (fun z => nomatch z) (fun _ _ => ?_)
  refine aw_blk (pc' := 25) (ls' := [some (vr 0 0), some (vi e), some (vi c), some (vr 9 k), some (vr 9 q)]) (st' := [vr 9 q]) [.inl (.aload 4)] 23 _ _ (by decide +kernel) rfl ?_
  refine aw_ifnonnull (o := 5) (tgt := 30) (by decide +kernel) (by decide) (fun _ _ => ?_) (fun z => nomatch z)
  refine aw_blk (pc' := 37) (ls' := [some (vr 0 0), some (vi e), some (vi c), some (vr 9 k), some (vr 9 q)]) (st' := [vr 9 q, vr 9 k, vr 4 0]) [.inl (.aload_n 0), .inr (33, 0, 3), .inl (.aload_n 3), .inl (.aload 4)] 30 _ _ (by decide +kernel) rfl ?_
  refine aw_rV (cs' := 0) (sl' := 0) (pc' := 40) (idx := 167) (as := [vr 9 k, vr 9 q]) (st := []) (m_F_takeR hA hA2 A A2) (by decide +kernel) (show vOK "ChanceBench" 167 M_F_take 2 = true by decide +kernel) rfl rfl rfl (Nat.le_of_ble_eq_true rfl) (by decide) (by decide) (by decide) rfl rfl rfl (fun r37 h37 z37 => ?_)
  obtain ⟨rfl, L, D, Bf, K, rfl⟩ := z37
  refine aw_blk (pc' := 44) (ls' := [some (vr 0 0), some (vi e), some (vi c), some (vr 9 k), some (vr 9 q)]) (st' := [vr 4 0]) [.inl (.aload_n 0), .inr (33, 0, 3)] 40 _ _ (by decide +kernel) rfl ?_
  refine aw_dV (cs' := 0) (sl' := 0) (pc' := 47) (st' := [vl (sumZ (fun k => Bf k * D k) L)]) (idx := 189) (as := []) (st := []) (m_F_ofMeans K.1) (by decide +kernel) (show vOK "ChanceBench" 189 M_F_ofMeans 0 = true by decide +kernel) rfl rfl rfl (Nat.le_of_ble_eq_true rfl) (by decide) (by decide) (by decide) rfl rfl rfl rfl ?_
  have hmb := means_in A A2
  rw [K.means]
  refine aw_blk (pc' := 48) (ls' := [some (vr 0 0), some (vi e), some (vi c), some (vr 9 k), some (vr 9 q)]) (st' := [vl 0, vl (sT (fun u => Ed n m at_ wt at2 wt2 W W2 u * u))]) [.inl (.lconst 0)] 47 _ _ (by decide +kernel) rfl ?_
  refine aw_lcmp (by decide +kernel) (by omega) (by omega) ?_
  refine aw_if_ne (o := 17) (tgt := 66) (by decide +kernel) (by decide) (cmpI_in _ _) (fun c48 => ?_) (fun c48 => ?_)
  · rw [cmpI_eq] at c48
    refine aw_blk (pc' := 67) (ls' := [some (vr 0 0), some (vi e), some (vi c), some (vr 9 k), some (vr 9 q)]) (st' := [vi 2]) [.inl (.iconst 2)] 66 _ _ (by decide +kernel) rfl ?_
    exact aw_iret (by decide +kernel) rfl (by decide) (by decide) (hq _ _ ⟨L, D, Bf, Or.inl ⟨c48, rfl, rfl⟩⟩)
  · rw [cmpI_eq] at c48
    refine aw_blk (pc' := 57) (ls' := [some (vr 0 0), some (vi e), some (vi c), some (vr 9 k), some (vr 9 q)]) (st' := [vr 4 0, vr 0 0]) [.inl (.aload_n 0), .inl (.aload_n 0), .inr (33, 0, 3)] 52 _ _ (by decide +kernel) rfl ?_
    refine aw_dV (cs' := 0) (sl' := 0) (pc' := 60) (st' := [vi (lms D Bf (L - 1) 0), vr 0 0]) (idx := 192) (as := []) (st := [vr 0 0]) (m_F_lmsR K) (by decide +kernel) (show vOK "ChanceBench" 192 M_F_leastMoreSpread 0 = true by decide +kernel) rfl rfl rfl (Nat.le_of_ble_eq_true rfl) (by decide) (by decide) (by decide) rfl rfl rfl rfl ?_
    have hF := K.lms A A2 c48
    generalize lms D Bf (L - 1) 0 = v at hF ⊢
    refine aw_dV (cs' := 0) (sl' := 0) (pc' := 63) (st' := [vi (if v = 5000 then 1 else 0)]) (idx := 186) (as := [vi v]) (st := []) (m_B_heldUnless (isF_in hF)) (by decide +kernel) (show vOK "ChanceBench" 186 M_B_heldUnless 1 = true by decide +kernel) rfl rfl rfl (Nat.le_of_ble_eq_true rfl) (by decide) (by decide) (by decide) rfl rfl rfl rfl ?_
    refine aw_goto (o := 4) (tgt := 67) (by decide +kernel) (by decide) ?_
    exact aw_iret (by decide +kernel) rfl (by decide) (by decide) (hq _ _ ⟨L, D, Bf, Or.inr ⟨c48, v, hF, rfl, rfl⟩⟩)

theorem m_B_bound : ADet G M_B_bound [vr 0 0] (Hp (sgB bd tk) (sgS laws slot ahead made (od : Int) (dn : Int) (un : Int)) t (sgK (nn : Int) rr ff gg) df jo tr di mo dy) (some (vi bd)) (Hp (sgB bd tk) (sgS laws slot ahead made (od : Int) (dn : Int) (un : Int)) t (sgK (nn : Int) rr ff gg) df jo tr di mo dy) := by
  refine am_det (by decide +kernel) (Nat.le_of_ble_eq_true rfl) (fun Qr Qt hq => ?_)
  refine aw_blk (pc' := 4) (ls' := [some (vr 0 0)]) (st' := [vi bd]) [.inl (.aload_n 0), .inr (58, 0, 7)] 0 _ _ (by decide +kernel) rfl ?_
  exact aw_iret (by decide +kernel) rfl (by decide) (by decide) (hq _ _ rfl rfl)

theorem m_B_taken : ADet G M_B_taken [vr 0 0] (Hp (sgB bd tk) (sgS laws slot ahead made (od : Int) (dn : Int) (un : Int)) t (sgK (nn : Int) rr ff gg) df jo tr di mo dy) (some (vi tk)) (Hp (sgB bd tk) (sgS laws slot ahead made (od : Int) (dn : Int) (un : Int)) t (sgK (nn : Int) rr ff gg) df jo tr di mo dy) := by
  refine am_det (by decide +kernel) (Nat.le_of_ble_eq_true rfl) (fun Qr Qt hq => ?_)
  refine aw_blk (pc' := 4) (ls' := [some (vr 0 0)]) (st' := [vi tk]) [.inl (.aload_n 0), .inr (62, 0, 8)] 0 _ _ (by decide +kernel) rfl ?_
  exact aw_iret (by decide +kernel) rfl (by decide) (by decide) (hq _ _ rfl rfl)

end
end
section
theorem nw_len : ∀ (N : Nat) (A B : List (Int × Int)), A.length + B.length ≤ N → (nw A B).length ≤ A.length + B.length
  | 0, A, B, h => by
    have : A = [] := List.length_eq_zero_iff.mp (by omega)
    subst this; simp [nw]
  | N + 1, [], B, h => by simp [nw]
  | N + 1, a :: A, [], h => by simp [nw]
  | N + 1, (v, x) :: A, (w, y) :: B, h => by
    rw [nw]
    simp only [List.length_cons] at h
    split
    · have := nw_len N A ((w, y - x) :: B) (by simp only [List.length_cons]; omega)
      simp only [List.length_cons, List.length_append] at this ⊢
      split <;> simp <;> omega
    · have := nw_len N ((v, x - y) :: A) B (by simp only [List.length_cons]; omega)
      simp only [List.length_cons, List.length_append] at this ⊢
      split <;> simp <;> omega
theorem tab_len (f g : Nat → Int) : ∀ (d i : Nat), (tab f g i d).length = d
  | 0, _ => rfl
  | d + 1, i => by simp only [tab, List.length_cons]; rw [tab_len f g d]
theorem jn_len {n m : Nat} {at_ wt at2 wt2 : Nat → Int} {W W2 : Int} {lk : Bool} (hn : n ≤ 24) (hm : m ≤ 24) : (jn n m at_ wt at2 wt2 W W2 lk).length ≤ 72 := by
  unfold jn
  split
  · have a := lkL_len at_ wt at2 wt2 m W W2 n
    have b := nw_len _ (tab at_ (lfA at_ wt at2 wt2 m W W2 n) 0 n) (tab at2 (lfB at_ wt at2 wt2 W W2 n) 0 m) (Nat.le_refl _)
    rw [tab_len, tab_len] at b
    rw [List.length_append]; omega
  · have b := nw_len _ (tab at_ (fun k => wt k * W2) 0 n) (tab at2 (fun k => wt2 k * W) 0 m) (Nat.le_refl _)
    rw [tab_len, tab_len] at b
    omega
section
variable {G : GT} {h : HT} {b s t mk df jo tr di mo dy : SG} {a c d e B bd tk : Int} {n m k k1 k2 q q1 q2 j nn len : Nat} {f g ff gg ft at_ wt at2 wt2 : Nat → Int} {rf rr W W2 : Int} {T : Int → Int} {by_ : Prop} {laws ahead made : Nat → Option (Nat × Nat)} {slot : Nat → Int} {od dn un : Nat}
variable {fa fb fw fl sl_ : Nat → Int} {wh z0 : Int} {sz : Nat} {js : List T3}
theorem m_B_joint_2 (hI : I32 e ∧ I32 c ∧ I32 d) (h2 : ¬ (0 ≤ d ∧ d ≤ 1)) (hl1 : lawAt laws e = some (9, k)) (hl2 : lawAt laws c = some (9, q)) : ADet G M_B_joint [vr 0 0, vi e, vi c, vi d] (Hp (sgB bd tk) (sgS laws slot ahead made (od : Int) (dn : Int) (un : Int)) t (sgK (nn : Int) rr ff gg) df jo tr di mo dy) (some (vi (-1))) (Hp (sgB bd tk) (sgS laws slot ahead made (od : Int) (dn : Int) (un : Int)) t (sgK (nn : Int) rr ff gg) df jo tr di mo dy) := by
  refine am_det (by decide +kernel) (Nat.le_of_ble_eq_true rfl) (fun Qr Qt hq => ?_)
  refine aw_blk (pc' := 5) (ls' := [some (vr 0 0), some (vi e), some (vi c), some (vi d), none, none]) (st' := [vi e, vr 1 0]) [.inl (.aload_n 0), .inr (10, 0, 0), .inl (.iload_n 1)] 0 _ _ (by decide +kernel) rfl ?_
  refine aw_dV (cs' := 0) (sl' := 0) (pc' := 8) (st' := [vo (lawAt laws e)]) (idx := 117) (as := [vi e]) (st := []) (m_S_lawIn hI.1) (by decide +kernel) (show vOK "ChanceBench" 117 M_S_lawIn 1 = true by decide +kernel) rfl rfl rfl (Nat.le_of_ble_eq_true rfl) (by decide) (by decide) (by decide) rfl rfl rfl rfl ?_
  rw [hl1]
  refine aw_blk (pc' := 15) (ls' := [some (vr 0 0), some (vi e), some (vi c), some (vi d), some (vr 9 k), none]) (st' := [vi c, vr 1 0]) [.inl (.astore 4), .inl (.aload_n 0), .inr (10, 0, 0), .inl (.iload_n 2)] 8 _ _ (by decide +kernel) rfl ?_
  refine aw_dV (cs' := 0) (sl' := 0) (pc' := 18) (st' := [vo (lawAt laws c)]) (idx := 117) (as := [vi c]) (st := []) (m_S_lawIn hI.2.1) (by decide +kernel) (show vOK "ChanceBench" 117 M_S_lawIn 1 = true by decide +kernel) rfl rfl rfl (Nat.le_of_ble_eq_true rfl) (by decide) (by decide) (by decide) rfl rfl rfl rfl ?_
  rw [hl2]
  refine aw_blk (pc' := 22) (ls' := [some (vr 0 0), some (vi e), some (vi c), some (vi d), some (vr 9 k), some (vr 9 q)]) (st' := [vr 9 k]) [.inl (.astore 5), .inl (.aload 4)] 18 _ _ (by decide +kernel) rfl ?_
  refine aw_ifnull (o := 17) (tgt := 39) (by decide +kernel) (by decide) (fun z => nomatch z) (fun _ _ => ?_)
  refine aw_blk (pc' := 27) (ls' := [some (vr 0 0), some (vi e), some (vi c), some (vi d), some (vr 9 k), some (vr 9 q)]) (st' := [vr 9 q]) [.inl (.aload 5)] 25 _ _ (by decide +kernel) rfl ?_
  refine aw_ifnull (o := 12) (tgt := 39) (by decide +kernel) (by decide) (fun z => nomatch z) (fun _ _ => ?_)
  refine aw_blk (pc' := 33) (ls' := [some (vr 0 0), some (vi e), some (vi c), some (vi d), some (vr 9 k), some (vr 9 q)]) (st' := [vi 1, vi 0, vi d]) [.inl (.iload_n 3), .inl (.iconst 0), .inl (.iconst 1)] 30 _ _ (by decide +kernel) rfl ?_
  refine aw_dS (cs' := 0) (sl' := 0) (pc' := 36) (st' := [vi (if 0 ≤ d ∧ d ≤ 1 then 1 else 0)]) (idx := 98) (as := [vi d, vi 0, vi 1]) (st := []) (m_B_isWithin hI.2.2 (by omega) (by omega)) (by decide +kernel) (show sOK "ChanceBench" 98 M_B_isWithin 3 = true by decide +kernel) rfl (Nat.le_of_ble_eq_true rfl) (by decide) (by decide) (by decide) rfl rfl rfl rfl ?_
  rw [if_neg h2]
  refine aw_if_ne (o := 5) (tgt := 41) (by decide +kernel) (by decide) (by omega) (fun c => absurd (by omega) c) (fun _ => ?_)
  refine aw_blk (pc' := 40) (ls' := [some (vr 0 0), some (vi e), some (vi c), some (vi d), some (vr 9 k), some (vr 9 q)]) (st' := [vi (-1)]) [.inl (.iconst (-1))] 39 _ _ (by decide +kernel) rfl ?_
  exact aw_iret (by decide +kernel) rfl (by decide) (by decide) (hq _ _ rfl rfl)

theorem m_B_joint (hI : I32 e ∧ I32 c ∧ I32 d) (h2 : 0 ≤ d ∧ d ≤ 1) (hl1 : lawAt laws e = some (9, k)) (hl2 : lawAt laws c = some (9, q)) (hA : isD dy k k1 k2 n at_ wt W) (A : lwN n at_ wt W) (hA2 : isD dy q q1 q2 m at2 wt2 W2) (A2 : lwN m at2 wt2 W2) : AMet G M_B_joint [vr 0 0, vi e, vi c, vi d] (Hp (sgB bd tk) (sgS laws slot ahead made (od : Int) (dn : Int) (un : Int)) t (sgK (nn : Int) rr ff gg) df (sgJ z0 wh fa fb fw fl sl_) tr di mo dy) (fun r h => ∃ fa fb fw fl sl_, jr fa fb fw (jn n m at_ wt at2 wt2 W W2 (decide (d = 0))) ∧ r = some (vi ((jn n m at_ wt at2 wt2 W W2 (decide (d = 0))).length : Int)) ∧ h = Hp (sgB bd tk) (sgS laws slot ahead made (od : Int) (dn : Int) (un : Int)) t (sgK (nn : Int) rr ff gg) df (sgJ ((jn n m at_ wt at2 wt2 W W2 (decide (d = 0))).length : Int) (W * W2) fa fb fw fl sl_) tr di mo dy) (fun _ => False) := by
  refine am_rel (by decide +kernel) (Nat.le_of_ble_eq_true rfl) (fun Qr Qt hq => ?_)
  refine aw_blk (pc' := 5) (ls' := [some (vr 0 0), some (vi e), some (vi c), some (vi d), none, none]) (st' := [vi e, vr 1 0]) [.inl (.aload_n 0), .inr (10, 0, 0), .inl (.iload_n 1)] 0 _ _ (by decide +kernel) rfl ?_
  refine aw_dV (cs' := 0) (sl' := 0) (pc' := 8) (st' := [vo (lawAt laws e)]) (idx := 117) (as := [vi e]) (st := []) (m_S_lawIn hI.1) (by decide +kernel) (show vOK "ChanceBench" 117 M_S_lawIn 1 = true by decide +kernel) rfl rfl rfl (Nat.le_of_ble_eq_true rfl) (by decide) (by decide) (by decide) rfl rfl rfl rfl ?_
  rw [hl1]
  refine aw_blk (pc' := 15) (ls' := [some (vr 0 0), some (vi e), some (vi c), some (vi d), some (vr 9 k), none]) (st' := [vi c, vr 1 0]) [.inl (.astore 4), .inl (.aload_n 0), .inr (10, 0, 0), .inl (.iload_n 2)] 8 _ _ (by decide +kernel) rfl ?_
  refine aw_dV (cs' := 0) (sl' := 0) (pc' := 18) (st' := [vo (lawAt laws c)]) (idx := 117) (as := [vi c]) (st := []) (m_S_lawIn hI.2.1) (by decide +kernel) (show vOK "ChanceBench" 117 M_S_lawIn 1 = true by decide +kernel) rfl rfl rfl (Nat.le_of_ble_eq_true rfl) (by decide) (by decide) (by decide) rfl rfl rfl rfl ?_
  rw [hl2]
  refine aw_blk (pc' := 22) (ls' := [some (vr 0 0), some (vi e), some (vi c), some (vi d), some (vr 9 k), some (vr 9 q)]) (st' := [vr 9 k]) [.inl (.astore 5), .inl (.aload 4)] 18 _ _ (by decide +kernel) rfl ?_
  refine aw_ifnull (o := 17) (tgt := 39) (by decide +kernel) (by decide) (fun z => nomatch z) (fun _ _ => ?_)
  refine aw_blk (pc' := 27) (ls' := [some (vr 0 0), some (vi e), some (vi c), some (vi d), some (vr 9 k), some (vr 9 q)]) (st' := [vr 9 q]) [.inl (.aload 5)] 25 _ _ (by decide +kernel) rfl ?_
  refine aw_ifnull (o := 12) (tgt := 39) (by decide +kernel) (by decide) (fun z => nomatch z) (fun _ _ => ?_)
  refine aw_blk (pc' := 33) (ls' := [some (vr 0 0), some (vi e), some (vi c), some (vi d), some (vr 9 k), some (vr 9 q)]) (st' := [vi 1, vi 0, vi d]) [.inl (.iload_n 3), .inl (.iconst 0), .inl (.iconst 1)] 30 _ _ (by decide +kernel) rfl ?_
  refine aw_dS (cs' := 0) (sl' := 0) (pc' := 36) (st' := [vi (if 0 ≤ d ∧ d ≤ 1 then 1 else 0)]) (idx := 98) (as := [vi d, vi 0, vi 1]) (st := []) (m_B_isWithin hI.2.2 (by omega) (by omega)) (by decide +kernel) (show sOK "ChanceBench" 98 M_B_isWithin 3 = true by decide +kernel) rfl (Nat.le_of_ble_eq_true rfl) (by decide) (by decide) (by decide) rfl rfl rfl rfl ?_
  rw [if_pos h2]
  refine aw_if_ne (o := 5) (tgt := 41) (by decide +kernel) (by decide) (by omega) (fun _ => ?_) (fun c => absurd c (by omega))
  refine aw_blk (pc' := 50) (ls' := [some (vr 0 0), some (vi e), some (vi c), some (vi d), some (vr 9 k), some (vr 9 q)]) (st' := [vi d, vr 9 q, vr 9 k, vr 5 0]) [.inl (.aload_n 0), .inr (40, 0, 4), .inl (.aload 4), .inl (.aload 5), .inl (.iload_n 3)] 41 _ _ (by decide +kernel) rfl ?_
  refine aw_if_ne (o := 7) (tgt := 57) (by decide +kernel) (by decide) (by omega) (fun c50 => ?_) (fun c50 => ?_)
  · refine aw_blk (pc' := 58) (ls' := [some (vr 0 0), some (vi e), some (vi c), some (vi d), some (vr 9 k), some (vr 9 q)]) (st' := [vi 0, vr 9 q, vr 9 k, vr 5 0]) [.inl (.iconst 0)] 57 _ _ (by decide +kernel) rfl ?_
    refine aw_rV (cs' := 0) (sl' := 0) (pc' := 61) (idx := 195) (as := [vr 9 k, vr 9 q, vi 0]) (st := []) (m_J_make_0 hA hA2 A A2) (by decide +kernel) (show vOK "ChanceBench" 195 M_J_make 3 = true by decide +kernel) rfl rfl rfl (Nat.le_of_ble_eq_true rfl) (by decide) (by decide) (by decide) rfl rfl rfl (fun r58 h58 z58 => ?_)
    obtain ⟨rfl, fa2, fb2, fw2, fl2, sl2, hj, rfl⟩ := z58
    refine aw_blk (pc' := 65) (ls' := [some (vr 0 0), some (vi e), some (vi c), some (vi d), some (vr 9 k), some (vr 9 q)]) (st' := [vr 5 0]) [.inl (.aload_n 0), .inr (40, 0, 4)] 61 _ _ (by decide +kernel) rfl ?_
    refine aw_dV (cs' := 0) (sl' := 0) (pc' := 68) (st' := [vi ((jn n m at_ wt at2 wt2 W W2 false).length : Int)]) (idx := 199) (as := []) (st := []) (m_J_size) (by decide +kernel) (show vOK "ChanceBench" 199 M_J_size 0 = true by decide +kernel) rfl rfl rfl (Nat.le_of_ble_eq_true rfl) (by decide) (by decide) (by decide) rfl rfl rfl rfl ?_
    have ed : (decide (d = 0)) = false := by exact decide_eq_false (by omega)
    exact aw_iret (by decide +kernel) rfl (by decide) (by decide) (hq _ _ ⟨fa2, fb2, fw2, fl2, sl2, by rw [ed]; exact hj, by rw [ed], by rw [ed]⟩)
  · refine aw_blk (pc' := 54) (ls' := [some (vr 0 0), some (vi e), some (vi c), some (vi d), some (vr 9 k), some (vr 9 q)]) (st' := [vi 1, vr 9 q, vr 9 k, vr 5 0]) [.inl (.iconst 1)] 53 _ _ (by decide +kernel) rfl ?_
    refine aw_goto (o := 4) (tgt := 58) (by decide +kernel) (by decide) ?_
    refine aw_rV (cs' := 0) (sl' := 0) (pc' := 61) (idx := 195) (as := [vr 9 k, vr 9 q, vi 1]) (st := []) (m_J_make_1 hA hA2 A A2) (by decide +kernel) (show vOK "ChanceBench" 195 M_J_make 3 = true by decide +kernel) rfl rfl rfl (Nat.le_of_ble_eq_true rfl) (by decide) (by decide) (by decide) rfl rfl rfl (fun r58 h58 z58 => ?_)
    obtain ⟨rfl, fa2, fb2, fw2, fl2, sl2, hj, rfl⟩ := z58
    refine aw_blk (pc' := 65) (ls' := [some (vr 0 0), some (vi e), some (vi c), some (vi d), some (vr 9 k), some (vr 9 q)]) (st' := [vr 5 0]) [.inl (.aload_n 0), .inr (40, 0, 4)] 61 _ _ (by decide +kernel) rfl ?_
    refine aw_dV (cs' := 0) (sl' := 0) (pc' := 68) (st' := [vi ((jn n m at_ wt at2 wt2 W W2 true).length : Int)]) (idx := 199) (as := []) (st := []) (m_J_size) (by decide +kernel) (show vOK "ChanceBench" 199 M_J_size 0 = true by decide +kernel) rfl rfl rfl (Nat.le_of_ble_eq_true rfl) (by decide) (by decide) (by decide) rfl rfl rfl rfl ?_
    have ed : (decide (d = 0)) = true := by exact decide_eq_true (by omega)
    exact aw_iret (by decide +kernel) rfl (by decide) (by decide) (hq _ _ ⟨fa2, fb2, fw2, fl2, sl2, by rw [ed]; exact hj, by rw [ed], by rw [ed]⟩)

def fdL (v w : Int) : List T3 → Int
  | [] => 0
  | x :: js => if x.1 = v ∧ x.2.1 = w then x.2.2 else fdL v w js
theorem fnd_L {v w : Int} : ∀ (js : List T3) (k : Nat), (∀ (i : Nat) (x : T3), js[i]? = some x → fa (k + i) = x.1 ∧ fb (k + i) = x.2.1 ∧ fw (k + i) = x.2.2) → fnd fa fb fw v w js.length k = fdL v w js
  | [], k, _ => rfl
  | x :: js, k, h => by
    have h0 := h 0 x rfl
    simp only [Nat.add_zero] at h0
    simp only [List.length_cons, fnd, fdL]
    rw [h0.1, h0.2.1, h0.2.2, fnd_L js (k + 1) (fun i y hy => by have := h (i + 1) y hy; rw [show k + 1 + i = k + (i + 1) by omega]; exact this)]
theorem fnd_js {v w : Int} (h : jr fa fb fw js) : fnd fa fb fw v w js.length 0 = fdL v w js := fnd_L js 0 (fun i x hx => by rw [Nat.zero_add]; exact h i x hx)
theorem m_B_pair (ha : I32 a) (hc : I32 c) (hz : js.length ≤ 72) (hj : jr fa fb fw js) (hJ : J64 (fdL a c js)) (hJ2 : J64 wh) (hd1 : d = 0 ∨ d = 1) : ADet G M_B_pair [vr 0 0, vi a, vi c, vi d] (Hp (sgB bd tk) (sgS laws slot ahead made (od : Int) (dn : Int) (un : Int)) t (sgK (nn : Int) rr ff gg) df (sgJ (js.length : Int) wh fa fb fw fl sl_) tr di mo dy) (some (vl (prt (fdL a c js) wh d))) (Hp (sgB bd tk) (sgS laws slot ahead made (od : Int) (dn : Int) (un : Int)) t (sgK (nn : Int) rr ff gg) df (sgJ (js.length : Int) wh fa fb fw fl sl_) tr di mo dy) := by
  refine am_det (by decide +kernel) (Nat.le_of_ble_eq_true rfl) (fun Qr Qt hq => ?_)
  refine aw_blk (pc' := 6) (ls' := [some (vr 0 0), some (vi a), some (vi c), some (vi d)]) (st' := [vi c, vi a, vr 5 0]) [.inl (.aload_n 0), .inr (40, 0, 4), .inl (.iload_n 1), .inl (.iload_n 2)] 0 _ _ (by decide +kernel) rfl ?_
  refine aw_dV (cs' := 0) (sl' := 0) (pc' := 9) (st' := [vl (fnd fa fb fw a c js.length 0)]) (idx := 201) (as := [vi a, vi c]) (st := []) (m_J_weightOf hz ha hc) (by decide +kernel) (show vOK "ChanceBench" 201 M_J_weightOf 2 = true by decide +kernel) rfl rfl rfl (Nat.le_of_ble_eq_true rfl) (by decide) (by decide) (by decide) rfl rfl rfl rfl ?_
  rw [fnd_js hj]
  refine aw_blk (pc' := 13) (ls' := [some (vr 0 0), some (vi a), some (vi c), some (vi d)]) (st' := [vr 5 0, vl (fdL a c js)]) [.inl (.aload_n 0), .inr (40, 0, 4)] 9 _ _ (by decide +kernel) rfl ?_
  refine aw_dV (cs' := 0) (sl' := 0) (pc' := 16) (st' := [vl wh, vl (fdL a c js)]) (idx := 204) (as := []) (st := [vl (fdL a c js)]) (m_J_whole) (by decide +kernel) (show vOK "ChanceBench" 204 M_J_whole 0 = true by decide +kernel) rfl rfl rfl (Nat.le_of_ble_eq_true rfl) (by decide) (by decide) (by decide) rfl rfl rfl rfl ?_
  refine aw_blk (pc' := 17) (ls' := [some (vr 0 0), some (vi a), some (vi c), some (vi d)]) (st' := [vi d, vl wh, vl (fdL a c js)]) [.inl (.iload_n 3)] 16 _ _ (by decide +kernel) rfl ?_
  refine aw_dS (cs' := 1) (sl' := 6) (pc' := 20) (st' := [vl (prt (fdL a c js) wh d)]) (idx := 152) (as := [vl (fdL a c js), vl wh, vi d]) (st := []) (m_B_part hJ hJ2 hd1) (by decide +kernel) (show sOK "ChanceBench" 152 M_B_part 3 = true by decide +kernel) rfl (Nat.le_of_ble_eq_true rfl) (by decide) (by decide) (by decide) rfl rfl rfl rfl ?_
  exact aw_lret (by decide +kernel) rfl (by decide) (by decide) (hq _ _ rfl rfl)

theorem m_B_pair_t (ha : I32 a) (hc : I32 c) (hz : js.length ≤ 72) (hj : jr fa fb fw js) (hi : I32 d) (hd1 : ¬ (d = 0 ∨ d = 1)) : AThr G M_B_pair [vr 0 0, vi a, vi c, vi d] (Hp (sgB bd tk) (sgS laws slot ahead made (od : Int) (dn : Int) (un : Int)) t (sgK (nn : Int) rr ff gg) df (sgJ (js.length : Int) wh fa fb fw fl sl_) tr di mo dy) := by
  refine am_thr (by decide +kernel) (Nat.le_of_ble_eq_true rfl) (fun Qr Qt hq => ?_)
  refine aw_blk (pc' := 6) (ls' := [some (vr 0 0), some (vi a), some (vi c), some (vi d)]) (st' := [vi c, vi a, vr 5 0]) [.inl (.aload_n 0), .inr (40, 0, 4), .inl (.iload_n 1), .inl (.iload_n 2)] 0 _ _ (by decide +kernel) rfl ?_
  refine aw_dV (cs' := 0) (sl' := 0) (pc' := 9) (st' := [vl (fnd fa fb fw a c js.length 0)]) (idx := 201) (as := [vi a, vi c]) (st := []) (m_J_weightOf hz ha hc) (by decide +kernel) (show vOK "ChanceBench" 201 M_J_weightOf 2 = true by decide +kernel) rfl rfl rfl (Nat.le_of_ble_eq_true rfl) (by decide) (by decide) (by decide) rfl rfl rfl rfl ?_
  rw [fnd_js hj]
  refine aw_blk (pc' := 13) (ls' := [some (vr 0 0), some (vi a), some (vi c), some (vi d)]) (st' := [vr 5 0, vl (fdL a c js)]) [.inl (.aload_n 0), .inr (40, 0, 4)] 9 _ _ (by decide +kernel) rfl ?_
  refine aw_dV (cs' := 0) (sl' := 0) (pc' := 16) (st' := [vl wh, vl (fdL a c js)]) (idx := 204) (as := []) (st := [vl (fdL a c js)]) (m_J_whole) (by decide +kernel) (show vOK "ChanceBench" 204 M_J_whole 0 = true by decide +kernel) rfl rfl rfl (Nat.le_of_ble_eq_true rfl) (by decide) (by decide) (by decide) rfl rfl rfl rfl ?_
  refine aw_blk (pc' := 17) (ls' := [some (vr 0 0), some (vi a), some (vi c), some (vi d)]) (st' := [vi d, vl wh, vl (fdL a c js)]) [.inl (.iload_n 3)] 16 _ _ (by decide +kernel) rfl ?_
  exact aw_tS (idx := 152) (as := [vl (fdL a c js), vl wh, vi d]) (st := []) (m_B_part_t hi (by omega) (by omega)) (by decide +kernel) (show sOK "ChanceBench" 152 M_B_part 3 = true by decide +kernel) rfl (Nat.le_of_ble_eq_true rfl) (by decide) (by decide) (by decide) hq

def rT (W : Int) (wt : Nat → Int) : Nat → Nat → Int
  | 0, i => rsd W (1 * wt i)
  | k + 1, i => rsd W (2 * rT W wt k i)
def dT (W : Int) (wt : Nat → Int) : Nat → Nat → Int
  | 0, i => dg W (1 * wt i)
  | k + 1, i => dg W (2 * rT W wt k i)
def lT (n : Nat) (W : Int) (wt : Nat → Int) (k : Nat) : Int := sumZ (dT W wt k) n
def oT (n : Nat) (W : Int) (wt : Nat → Int) : Nat → Int
  | 0 => 1 - lT n W wt 0
  | k + 1 => 2 * oT n W wt k - lT n W wt (k + 1)
def trS (n : Nat) (W : Int) (wt : Nat → Int) (k : Nat) (r dd : Nat → Int) : Prop := ∀ i, i < n → r i = rT W wt k i ∧ dd i = dT W wt k i
theorem rT_in (A : lwN n at_ wt W) {i : Nat} (hi : i < n) : ∀ k, 0 ≤ rT W wt k i ∧ rT W wt k i < W
  | 0 => by have h := A.2.2.1 i hi; simp only [rT, rsd, dg]; split <;> omega
  | k + 1 => by have h := rT_in A hi k; simp only [rT, rsd, dg]; split <;> omega
theorem oT_W (A : lwN n at_ wt W) : ∀ k, oT n W wt k * W = sumZ (rT W wt k) n
  | 0 => by
    have e : sumZ (rT W wt 0) n = sumZ (fun i => wt i - W * dT W wt 0 i) n := sumZ_ext (fun i _ => by simp only [rT, dT, rsd]; rw [Int.mul_comm W]; omega)
    rw [e, sumZ_sub, sumZ_mul, ← A.2.2.2.2.2]
    simp only [oT, lT]
    rw [Int.sub_mul, Int.mul_comm (sumZ (dT W wt 0) n)]; omega
  | k + 1 => by
    have e : sumZ (rT W wt (k + 1)) n = sumZ (fun i => 2 * rT W wt k i - W * dT W wt (k + 1) i) n := sumZ_ext (fun i _ => by simp only [rT, dT, rsd]; rw [Int.mul_comm W])
    rw [e, sumZ_sub, sumZ_mul, sumZ_mul, ← oT_W A k]
    simp only [oT, lT]
    rw [Int.sub_mul, Int.mul_comm (sumZ (dT W wt (k + 1)) n), Int.mul_assoc]
theorem oT_in (A : lwN n at_ wt W) (k : Nat) : 0 ≤ oT n W wt k ∧ oT n W wt k < 24 := by
  have e := oT_W A k
  have h0 := sumZ_nn (n := n) (g := rT W wt k) (fun i hi => (rT_in A hi k).1) n (Nat.le_refl n)
  have hn := A.1
  have hW := A.2.2.2.1
  have h1 : sumZ (rT W wt k) n < (n : Int) * W := by
    have : ∀ m, m ≤ n → 1 ≤ m → sumZ (rT W wt k) m < (m : Int) * W := by
      intro m
      induction m with
      | zero => intro _ h; omega
      | succ m ih =>
        intro h _
        have h2 := rT_in A (i := m) (by omega) k
        simp only [sumZ]
        rw [show ((m + 1 : Nat) : Int) = (m : Int) + 1 by omega, Int.add_mul]
        rcases Nat.eq_zero_or_pos m with z | z
        · subst z; simp [sumZ]; omega
        · have := ih (by omega) z; omega
    exact this n (Nat.le_refl n) (by omega)
  constructor
  · rcases Int.lt_or_le (oT n W wt k) 0 with z | z
    · have := Int.mul_neg_of_neg_of_pos z (show 0 < W by omega); omega
    · exact z
  · rcases Int.lt_or_le (oT n W wt k) 24 with z | z
    · exact z
    · have a := Int.mul_le_mul_of_nonneg_right z (show 0 ≤ W by omega)
      have b := Int.mul_le_mul_of_nonneg_right (show (n : Int) ≤ 24 by omega) (show 0 ≤ W by omega)
      omega
theorem lT_in (n : Nat) (W : Int) (wt : Nat → Int) (k : Nat) : 0 ≤ lT n W wt k ∧ lT n W wt k ≤ (n : Int) := by
  unfold lT
  have h : ∀ i, 0 ≤ dT W wt k i ∧ dT W wt k i ≤ 1 := fun i => by cases k <;> exact dg_in _ _
  have : ∀ m : Nat, 0 ≤ sumZ (dT W wt k) m ∧ sumZ (dT W wt k) m ≤ (m : Int) := fun m => by
    induction m with
    | zero => simp [sumZ]
    | succ m ih => have := h m; simp only [sumZ]; omega
  exact this n
variable {r dd : Nat → Int} {lv op W0 l9 : Int}
theorem m_R_plantR (hA : isD dy k k1 k2 n at_ wt W) (A : lwN n at_ wt W) : AMet G M_R_plant [vr 6 0, vr 9 k] (Hp b s t mk df jo (sgR l9 W0 lv op r dd) di mo dy) (fun x h => x = none ∧ ∃ r dd, trS n W wt 0 r dd ∧ h = Hp b s t mk df jo (sgR (n : Int) W (lT n W wt 0) (oT n W wt 0) r dd) di mo dy) (fun _ => False) := by
  have e : spL W 1 (mp wt r n) n = lT n W wt 0 := sumZ_ext (fun i hi => by show dg W (1 * mp wt r n i) = dg W (1 * wt i); rw [mp_lt hi])
  refine am_mono (m_R_plant hA A) (fun x h z => ⟨z.1, spR W 1 (mp wt r n) n, spD W 1 (mp wt r n) dd n, ?_, by rw [z.2, e]; rfl⟩) (fun _ z => z)
  intro i hi
  simp only [spR, spD]
  rw [mp_lt hi, mp_lt hi]
  simp only [rT, dT, mp_lt hi]
  exact ⟨trivial, trivial⟩
theorem m_R_growR {K : Nat} (A : lwN n at_ wt W) (hS : trS n W wt K r dd) : AMet G M_R_grow [vr 6 0] (Hp b s t mk df jo (sgR (n : Int) W (lT n W wt K) (oT n W wt K) r dd) di mo dy) (fun x h => x = none ∧ ∃ r dd, trS n W wt (K + 1) r dd ∧ h = Hp b s t mk df jo (sgR (n : Int) W (lT n W wt (K + 1)) (oT n W wt (K + 1)) r dd) di mo dy) (fun _ => False) := by
  have hn := A.1
  have hW := A.2.2.2
  have ho := oT_in A K
  have e : spL W 2 r n = lT n W wt (K + 1) := sumZ_ext (fun i hi => by show dg W (2 * r i) = dg W (2 * rT W wt K i); rw [(hS i hi).1])
  refine am_mono (m_R_grow (by omega) ⟨by omega, by omega⟩ (fun i hi => by have := rT_in A hi K; rw [(hS i hi).1]; omega) (by omega)) (fun x h z => ⟨z.1, spR W 2 r n, spD W 2 r dd n, ?_, by rw [z.2, e]; rfl⟩) (fun _ z => z)
  intro i hi
  simp only [spR, spD]
  rw [mp_lt hi, mp_lt hi, (hS i hi).1]
  exact ⟨rfl, rfl⟩
theorem m_B_growTo {K : Nat} (hK : K ≤ 60) (hA : isD dy k k1 k2 n at_ wt W) (A : lwN n at_ wt W) : AMet G M_B_growTo [vr 0 0, vr 9 k, vi (K : Int)] (Hp (sgB bd tk) (sgS laws slot ahead made (od : Int) (dn : Int) (un : Int)) t (sgK (nn : Int) rr ff gg) df jo (sgR l9 W0 lv op r dd) di mo dy) (fun x h => x = none ∧ ∃ r dd, trS n W wt K r dd ∧ h = Hp (sgB bd tk) (sgS laws slot ahead made (od : Int) (dn : Int) (un : Int)) t (sgK (nn : Int) rr ff gg) df jo (sgR (n : Int) W (lT n W wt K) (oT n W wt K) r dd) di mo dy) (fun _ => False) := by
  refine am_rel (by decide +kernel) (Nat.le_of_ble_eq_true rfl) (fun Qr Qt hq => ?_)
  refine aw_blk (pc' := 4) (ls' := [some (vr 0 0), some (vr 9 k), some (vi (K : Int)), none]) (st' := [vi 60, vi 0, vi (K : Int)]) [.inl (.iload_n 2), .inl (.iconst 0), .inl (.bipush 60)] 0 _ _ (by decide +kernel) rfl ?_
  refine aw_dS (cs' := 0) (sl' := 0) (pc' := 7) (st' := [vi (if 0 ≤ (K : Int) ∧ (K : Int) ≤ 60 then 1 else 0)]) (idx := 98) (as := [vi (K : Int), vi 0, vi 60]) (st := []) (m_B_isWithin (by omega) (by omega) (by omega)) (by decide +kernel) (show sOK "ChanceBench" 98 M_B_isWithin 3 = true by decide +kernel) rfl (Nat.le_of_ble_eq_true rfl) (by decide) (by decide) (by decide) rfl rfl rfl rfl ?_
  rw [if_pos (by omega)]
  refine aw_if_ne (o := 11) (tgt := 18) (by decide +kernel) (by decide) (by omega) (fun _ => ?_) (fun c => absurd c (by omega))
  refine aw_blk (pc' := 23) (ls' := [some (vr 0 0), some (vr 9 k), some (vi (K : Int)), none]) (st' := [vr 9 k, vr 6 0]) [.inl (.aload_n 0), .inr (47, 0, 5), .inl (.aload_n 1)] 18 _ _ (by decide +kernel) rfl ?_
  refine aw_rV (cs' := 0) (sl' := 0) (pc' := 26) (idx := 216) (as := [vr 9 k]) (st := []) (m_R_plantR hA A) (by decide +kernel) (show vOK "ChanceBench" 216 M_R_plant 1 = true by decide +kernel) rfl rfl rfl (Nat.le_of_ble_eq_true rfl) (by decide) (by decide) (by decide) rfl rfl rfl (fun r23 h23 z23 => ?_)
  obtain ⟨rfl, r, dd, hS, rfl⟩ := z23
  refine aw_blk (pc' := 28) (ls' := [some (vr 0 0), some (vr 9 k), some (vi (K : Int)), some (vi 0)]) (st' := []) [.inl (.iconst 0), .inl (.istore_n 3)] 26 _ _ (by decide +kernel) rfl ?_
  refine up_to (W := fun i : Nat => ∀ r dd, trS n W wt i r dd → AW G M_B_growTo Qr Qt 0 0 28 [some (vr 0 0), some (vr 9 k), some (vi (K : Int)), some (vi (i : Int))] [] (Hp [some (ob 0 [vr 1 0, vr 2 0, vr 3 0, vr 4 0, vr 5 0, vr 6 0, vr 7 0, vi bd, vi tk])] [some (ob 1 [vr 1 1, vr 1 2, vr 1 3, vr 1 4, vi (od : Int), vi (dn : Int), vi (un : Int)]), some (rs 16 laws), some (ar 0 30 slot), some (rs 30 ahead), some (rs 30 made)] t [some (ob 3 [vr 3 1, vr 3 2, vi (nn : Int), vi rr]), some (ar 0 24 ff), some (ar 1 24 gg)] df jo [some (ob 6 [vr 6 1, vr 6 2, vi (n : Int), vi W, vi (lT n W wt i), vi (oT n W wt i)]), some (ar 0 24 r), some (ar 0 24 dd)] di mo dy)) K ?_ (fun i hi ih => ?_) 0 (by omega) r dd hS
  · intro r dd hS
    refine aw_blk (pc' := 30) (ls' := [some (vr 0 0), some (vr 9 k), some (vi (K : Int)), some (vi (K : Int))]) (st' := [vi (K : Int), vi (K : Int)]) [.inl (.iload_n 3), .inl (.iload_n 2)] 28 _ _ (by decide +kernel) rfl ?_
    refine aw_icmp_ge (o := 16) (tgt := 46) (by decide +kernel) (by decide) (by omega) (by omega) (fun _ => ?_) (fun c => absurd (by omega) c)
    exact aw_vret (by decide +kernel) rfl (by decide) (by decide) (hq _ _ ⟨rfl, r, dd, hS, rfl⟩)
  · intro r dd hS
    refine aw_blk (pc' := 30) (ls' := [some (vr 0 0), some (vr 9 k), some (vi (K : Int)), some (vi (i : Int))]) (st' := [vi (K : Int), vi (i : Int)]) [.inl (.iload_n 3), .inl (.iload_n 2)] 28 _ _ (by decide +kernel) rfl ?_
    refine aw_icmp_ge (o := 16) (tgt := 46) (by decide +kernel) (by decide) (by omega) (by omega) (fun c => absurd c (by omega)) (fun _ => ?_)
    refine aw_blk (pc' := 37) (ls' := [some (vr 0 0), some (vr 9 k), some (vi (K : Int)), some (vi (i : Int))]) (st' := [vr 6 0]) [.inl (.aload_n 0), .inr (47, 0, 5)] 33 _ _ (by decide +kernel) rfl ?_
    refine aw_rV (cs' := 0) (sl' := 0) (pc' := 40) (idx := 220) (as := []) (st := []) (m_R_growR A hS) (by decide +kernel) (show vOK "ChanceBench" 220 M_R_grow 0 = true by decide +kernel) rfl rfl rfl (Nat.le_of_ble_eq_true rfl) (by decide) (by decide) (by decide) rfl rfl rfl (fun r37 h37 z37 => ?_)
    obtain ⟨rfl, r2, d2, hS2, rfl⟩ := z37
    refine aw_blk (pc' := 43) (ls' := [some (vr 0 0), some (vr 9 k), some (vi (K : Int)), some (vi ((i : Int) + 1))]) (st' := []) [.inl (.iinc 3 1)] 40 _ _ (by decide +kernel) rfl ?_
    refine aw_goto (o := -15) (tgt := 28) (by decide +kernel) (by decide) ?_
    exact ih r2 d2 hS2

theorem m_B_open {K : Nat} (hI : I32 e) (hK : K ≤ 60) (hl1 : lawAt laws e = some (9, k)) (hA : isD dy k k1 k2 n at_ wt W) (A : lwN n at_ wt W) : AMet G M_B_open [vr 0 0, vi e, vi (K : Int)] (Hp (sgB bd tk) (sgS laws slot ahead made (od : Int) (dn : Int) (un : Int)) t (sgK (nn : Int) rr ff gg) df jo (sgR l9 W0 lv op r dd) di mo dy) (fun x h => x = some (vi (oT n W wt K)) ∧ ∃ r dd, h = Hp (sgB bd tk) (sgS laws slot ahead made (od : Int) (dn : Int) (un : Int)) t (sgK (nn : Int) rr ff gg) df jo (sgR (n : Int) W (lT n W wt K) (oT n W wt K) r dd) di mo dy) (fun _ => False) := by
  refine am_rel (by decide +kernel) (Nat.le_of_ble_eq_true rfl) (fun Qr Qt hq => ?_)
  refine aw_blk (pc' := 2) (ls' := [some (vr 0 0), some (vi e), some (vi (K : Int)), none]) (st' := [vi e, vr 0 0]) [.inl (.aload_n 0), .inl (.iload_n 1)] 0 _ _ (by decide +kernel) rfl ?_
  refine aw_dV (cs' := 1) (sl' := 6) (pc' := 5) (st' := [vr 9 k]) (idx := 143) (as := [vi e]) (st := []) (m_B_lawOf hI hl1) (by decide +kernel) (show vOK "ChanceBench" 143 M_B_lawOf 1 = true by decide +kernel) rfl rfl rfl (Nat.le_of_ble_eq_true rfl) (by decide) (by decide) (by decide) rfl rfl rfl rfl ?_
  refine aw_blk (pc' := 9) (ls' := [some (vr 0 0), some (vi e), some (vi (K : Int)), some (vr 9 k)]) (st' := [vi (K : Int), vr 9 k, vr 0 0]) [.inl (.astore_n 3), .inl (.aload_n 0), .inl (.aload_n 3), .inl (.iload_n 2)] 5 _ _ (by decide +kernel) rfl ?_
  refine aw_rV (cs' := 2) (sl' := 12) (pc' := 12) (idx := 206) (as := [vr 9 k, vi (K : Int)]) (st := []) (m_B_growTo hK hA A) (by decide +kernel) (show vOK "ChanceBench" 206 M_B_growTo 2 = true by decide +kernel) rfl rfl rfl (Nat.le_of_ble_eq_true rfl) (by decide) (by decide) (by decide) rfl rfl rfl (fun r9 h9 z9 => ?_)
  obtain ⟨rfl, r, dd, hS, rfl⟩ := z9
  refine aw_blk (pc' := 16) (ls' := [some (vr 0 0), some (vi e), some (vi (K : Int)), some (vr 9 k)]) (st' := [vr 6 0]) [.inl (.aload_n 0), .inr (47, 0, 5)] 12 _ _ (by decide +kernel) rfl ?_
  refine aw_dV (cs' := 2) (sl' := 12) (pc' := 19) (st' := [vi (oT n W wt K)]) (idx := 210) (as := []) (st := []) (m_R_openPlaces) (by decide +kernel) (show vOK "ChanceBench" 210 M_R_openPlaces 0 = true by decide +kernel) rfl rfl rfl (Nat.le_of_ble_eq_true rfl) (by decide) (by decide) (by decide) rfl rfl rfl rfl ?_
  exact aw_iret (by decide +kernel) rfl (by decide) (by decide) (hq _ _ ⟨rfl, r, dd, rfl⟩)

theorem m_B_open_t2 (hI : I32 e) (hi : I32 d) (hd0 : ¬ (0 ≤ d ∧ d ≤ 60)) (hl1 : lawAt laws e = some (9, k)) : AThr G M_B_open [vr 0 0, vi e, vi d] (Hp (sgB bd tk) (sgS laws slot ahead made (od : Int) (dn : Int) (un : Int)) t (sgK (nn : Int) rr ff gg) df jo tr di mo dy) := by
  refine am_thr (by decide +kernel) (Nat.le_of_ble_eq_true rfl) (fun Qr Qt hq => ?_)
  refine aw_blk (pc' := 2) (ls' := [some (vr 0 0), some (vi e), some (vi d), none]) (st' := [vi e, vr 0 0]) [.inl (.aload_n 0), .inl (.iload_n 1)] 0 _ _ (by decide +kernel) rfl ?_
  refine aw_dV (cs' := 1) (sl' := 6) (pc' := 5) (st' := [vr 9 k]) (idx := 143) (as := [vi e]) (st := []) (m_B_lawOf hI hl1) (by decide +kernel) (show vOK "ChanceBench" 143 M_B_lawOf 1 = true by decide +kernel) rfl rfl rfl (Nat.le_of_ble_eq_true rfl) (by decide) (by decide) (by decide) rfl rfl rfl rfl ?_
  refine aw_blk (pc' := 9) (ls' := [some (vr 0 0), some (vi e), some (vi d), some (vr 9 k)]) (st' := [vi d, vr 9 k, vr 0 0]) [.inl (.astore_n 3), .inl (.aload_n 0), .inl (.aload_n 3), .inl (.iload_n 2)] 5 _ _ (by decide +kernel) rfl ?_
  exact aw_tV (idx := 206) (as := [vr 9 k, vi d]) (st := []) (m_B_growTo_t hi hd0) (by decide +kernel) (show vOK "ChanceBench" 206 M_B_growTo 2 = true by decide +kernel) rfl rfl rfl (Nat.le_of_ble_eq_true rfl) (by decide) (by decide) (by decide) hq

theorem m_B_leaf_t2 (hI : I32 e) (hi : I32 d) (hd0 : ¬ (0 ≤ d ∧ d ≤ 60)) (hl1 : lawAt laws e = some (9, k)) : AThr G M_B_leaf [vr 0 0, vi e, vi c, vi d] (Hp (sgB bd tk) (sgS laws slot ahead made (od : Int) (dn : Int) (un : Int)) t (sgK (nn : Int) rr ff gg) df jo tr di mo dy) := by
  refine am_thr (by decide +kernel) (Nat.le_of_ble_eq_true rfl) (fun Qr Qt hq => ?_)
  refine aw_blk (pc' := 2) (ls' := [some (vr 0 0), some (vi e), some (vi c), some (vi d), none]) (st' := [vi e, vr 0 0]) [.inl (.aload_n 0), .inl (.iload_n 1)] 0 _ _ (by decide +kernel) rfl ?_
  refine aw_dV (cs' := 1) (sl' := 6) (pc' := 5) (st' := [vr 9 k]) (idx := 143) (as := [vi e]) (st := []) (m_B_lawOf hI hl1) (by decide +kernel) (show vOK "ChanceBench" 143 M_B_lawOf 1 = true by decide +kernel) rfl rfl rfl (Nat.le_of_ble_eq_true rfl) (by decide) (by decide) (by decide) rfl rfl rfl rfl ?_
  refine aw_blk (pc' := 11) (ls' := [some (vr 0 0), some (vi e), some (vi c), some (vi d), some (vr 9 k)]) (st' := [vi d, vr 9 k, vr 0 0]) [.inl (.astore 4), .inl (.aload_n 0), .inl (.aload 4), .inl (.iload_n 3)] 5 _ _ (by decide +kernel) rfl ?_
  exact aw_tV (idx := 206) (as := [vr 9 k, vi d]) (st := []) (m_B_growTo_t hi hd0) (by decide +kernel) (show vOK "ChanceBench" 206 M_B_growTo 2 = true by decide +kernel) rfl rfl rfl (Nat.le_of_ble_eq_true rfl) (by decide) (by decide) (by decide) hq

/-- whether the value v has a leaf of depth k -/
def hlf (n : Nat) (W : Int) (at_ wt : Nat → Int) (k : Nat) (v : Int) : Int := sumZ (fun i => if at_ i = v ∧ dT W wt k i = 1 then 1 else 0) n
theorem hlf_den (v : Int) (k : Nat) : hlf n W at_ wt k v = den at_ (fun i => if dT W wt k i = 1 then 1 else 0) n v := sumZ_ext (fun i _ => by by_cases h : at_ i = v <;> simp [h])
theorem m_B_leaf {K : Nat} (hI : I32 e) (hc : I32 c) (hK : K ≤ 60) (hl1 : lawAt laws e = some (9, k)) (hA : isD dy k k1 k2 n at_ wt W) (A : lwN n at_ wt W) : AMet G M_B_leaf [vr 0 0, vi e, vi c, vi (K : Int)] (Hp (sgB bd tk) (sgS laws slot ahead made (od : Int) (dn : Int) (un : Int)) t (sgK (nn : Int) rr ff gg) df jo (sgR l9 W0 lv op r dd) di mo dy) (fun x h => x = some (vi (hlf n W at_ wt K c)) ∧ ∃ r dd, h = Hp (sgB bd tk) (sgS laws slot ahead made (od : Int) (dn : Int) (un : Int)) t (sgK (nn : Int) rr ff gg) df jo (sgR (n : Int) W (lT n W wt K) (oT n W wt K) r dd) di mo dy) (fun _ => False) := by
  refine am_rel (by decide +kernel) (Nat.le_of_ble_eq_true rfl) (fun Qr Qt hq => ?_)
  have hn := A.1
  refine aw_blk (pc' := 2) (ls' := [some (vr 0 0), some (vi e), some (vi c), some (vi (K : Int)), none]) (st' := [vi e, vr 0 0]) [.inl (.aload_n 0), .inl (.iload_n 1)] 0 _ _ (by decide +kernel) rfl ?_
  refine aw_dV (cs' := 1) (sl' := 6) (pc' := 5) (st' := [vr 9 k]) (idx := 143) (as := [vi e]) (st := []) (m_B_lawOf hI hl1) (by decide +kernel) (show vOK "ChanceBench" 143 M_B_lawOf 1 = true by decide +kernel) rfl rfl rfl (Nat.le_of_ble_eq_true rfl) (by decide) (by decide) (by decide) rfl rfl rfl rfl ?_
  refine aw_blk (pc' := 11) (ls' := [some (vr 0 0), some (vi e), some (vi c), some (vi (K : Int)), some (vr 9 k)]) (st' := [vi (K : Int), vr 9 k, vr 0 0]) [.inl (.astore 4), .inl (.aload_n 0), .inl (.aload 4), .inl (.iload_n 3)] 5 _ _ (by decide +kernel) rfl ?_
  refine aw_rV (cs' := 2) (sl' := 12) (pc' := 14) (idx := 206) (as := [vr 9 k, vi (K : Int)]) (st := []) (m_B_growTo hK hA A) (by decide +kernel) (show vOK "ChanceBench" 206 M_B_growTo 2 = true by decide +kernel) rfl rfl rfl (Nat.le_of_ble_eq_true rfl) (by decide) (by decide) (by decide) rfl rfl rfl (fun r11 h11 z11 => ?_)
  obtain ⟨rfl, r, dd, hS, rfl⟩ := z11
  refine aw_blk (pc' := 21) (ls' := [some (vr 0 0), some (vi e), some (vi c), some (vi (K : Int)), some (vr 9 k)]) (st' := [vi c, vr 9 k, vr 6 0]) [.inl (.aload_n 0), .inr (47, 0, 5), .inl (.aload 4), .inl (.iload_n 2)] 14 _ _ (by decide +kernel) rfl ?_
  refine aw_dV (cs' := 2) (sl' := 12) (pc' := 24) (st' := [vi (ixO at_ n c), vr 6 0]) (idx := 149) (as := [vi c]) (st := [vr 6 0]) (m_L_indexOf hA.L A.2.1 hc) (by decide +kernel) (show vOK "ChanceBench" 149 M_L_indexOf 1 = true by decide +kernel) hA.1 rfl rfl (Nat.le_of_ble_eq_true rfl) (by decide) (by decide) (by decide) rfl rfl rfl rfl ?_
  have hix : I32 (ixO at_ n c) := by unfold ixO; have := lb_le at_ c n; split <;> omega
  refine aw_dV (cs' := 2) (sl' := 12) (pc' := 27) (st' := [vi (if (0 ≤ ixO at_ n c ∧ ixO at_ n c < (n : Int)) ∧ dd (ixO at_ n c).toNat = 1 then 1 else 0)]) (idx := 213) (as := [vi (ixO at_ n c)]) (st := []) (m_R_hasLeaf (by omega) hix) (by decide +kernel) (show vOK "ChanceBench" 213 M_R_hasLeaf 1 = true by decide +kernel) rfl rfl rfl (Nat.le_of_ble_eq_true rfl) (by decide) (by decide) (by decide) rfl rfl rfl rfl ?_
  have hr9 : (if (0 ≤ ixO at_ n c ∧ ixO at_ n c < (n : Int)) ∧ dd (ixO at_ n c).toNat = 1 then (1 : Int) else 0) = hlf n W at_ wt K c := by
    rw [hlf_den]
    by_cases h : ixO at_ n c = -1
    · rw [if_neg (by omega), den_0 (ixO_no A.2.1 h)]
    · obtain ⟨D, hD, eD, vD⟩ := ixO_yes h
      rw [eD, ← vD, den_at A.2.1 hD, Int.toNat_natCast, (hS D hD).2]
      by_cases h5 : dT W wt K D = 1
      · rw [if_pos ⟨⟨by omega, by omega⟩, h5⟩, if_pos h5]
      · rw [if_neg (fun z => h5 z.2), if_neg h5]
  rw [hr9]
  have hr8 : 0 ≤ hlf n W at_ wt K c ∧ hlf n W at_ wt K c ≤ 1 := by rw [← hr9]; split <;> omega
  exact aw_zret (by decide +kernel) rfl (by decide) (by decide) (by omega) (hq _ _ ⟨rfl, r, dd, rfl⟩)

end
end
