section
/-! ===== BEGIN words of one list among another's, by their places ===== -/
theorem goodIn_r {big : List Cond} (ws : List Cond) (ps : List Nat) (hp : ws = ps.filterMap (fun i => big[i]?)) (h : ws.all goodWord = true) : GoodIn big ws := by
  intro w hw
  have h1 := List.all_eq_true.mp h w hw
  rw [hp] at hw
  obtain ⟨i, -, hi⟩ := List.mem_filterMap.mp hw
  have hm : w ∈ big := by first | exact List.mem_of_getElem? hi | exact List.getElem?_mem hi
  exact ⟨hm, good_of_word h1⟩
theorem goodIn_app {big a b : List Cond} (ha : GoodIn big a) (hb : GoodIn big b) : GoodIn big (a ++ b) := fun w h => (List.mem_append.mp h).elim (ha w) (hb w)
theorem goodIn_ca {big a b : List Cond} {c : Cond} (ha : GoodIn big (c :: a)) (hb : GoodIn big b) : GoodIn big (c :: (a ++ b)) := fun w h => (List.mem_cons.mp h).elim (fun e => ha w (List.mem_cons.mpr (Or.inl e))) (fun h => (List.mem_append.mp h).elim (fun h => ha w (List.mem_cons.mpr (Or.inr h))) (hb w))
theorem goodIn_sub {big ws : List Cond} (hm : ∀ w ∈ ws, w ∈ big) (h : ws.all goodWord = true) : GoodIn big ws := fun w hw => ⟨hm w hw, good_of_word (List.all_eq_true.mp h w hw)⟩
/-! ===== END ===== -/

/-! ===== BEGIN exceptions that leave a method, and their catching by the caller (launches without stack traces) ===== -/
section VXA
/-! The laws vx_back, vx_callV, vx_callS, vx_callSW, vx_throw0, vx_throwS follow proofs of the library, with one case more: JvmDerived/Free/Laws.lean (Back.of_free), Shelf42/LK1.lean (callV, callS), Shelf/KitTraced.lean (throwNew0V, throwNewS). -/
/-- where a method has thrown q: the class by its name, the cell, what was written, the world -/
def vx_T (XC : String → State → State → Prop) (st : State) (q : Addr) (t : State) (mc ms : Nat) (free : Addr → Prop) : Prop :=
  ∃ (E : String) (ce : Cell) (L : List Loc), XC E st t ∧ t.heap[q]? = some ce ∧ ce.vm = .none ∧ st.vm.findClass E = some ce.cls ∧ st.WarmedH t.vm ∧ st.sameButNew ({ t with vm := st.vm } : State) L mc ms ∧ ∀ z ∈ L, free z.base
def vx_Q (Qc : Array Value → State → Outcome → State → Prop) (XC : String → State → State → Prop) (mc ms : Nat) (free : Addr → Prop) : Array Value → State → Outcome → State → Prop := fun a st o t =>
  (Qc a st o t ∧ ∃ L, FrameEnd st o t L mc ms ∧ ∀ q ∈ L, free q.base) ∨ ∃ q, o = .threw q ∧ vx_T XC st q t mc ms free
/-- a callee that returns or throws -/
def vx_Met (l : Launch) (y : MethodName) (ws : List Cond) (rm : Room) (Pc : Array Value → State → Prop) (Qc : Array Value → State → Outcome → State → Prop) (XC : String → State → State → Prop) (mc ms : Nat) (free : Addr → Prop) : Prop :=
  MetFree l y (headSpec ws rm) Pc (fun _ _ _ _ _ => True) (vx_Q Qc XC mc ms free)
def vx_Post (XC : String → State → State → Prop) (mc ms : Nat) (free : Addr → Prop) : Pt → Array Value → Addr → Pt → Prop := fun A a q B =>
  ∃ (g : JFrame) (mk : MethodId) (t : State) (L : List Loc) (E : String) (ce : Cell), B.U.heap = t.heap ∧ B.U.vm = t.vm ∧ XC E (A.U.calling g mk a) t ∧ t.heap[q]? = some ce ∧ ce.vm = .none ∧ A.U.vm.findClass E = some ce.cls ∧ B.locs = A.locs ++ L ∧ (∀ z ∈ L, free z.base) ∧ B.cells = A.cells + mc ∧ B.slots = A.slots + ms
def vx_Back (l : Launch) (R : Room) (p : Program) (e : Env) (below : List Frame) (s : State) (sargs : Array Value) (y : MethodName) (len W9 : Nat)
    (Pre : Pt → Array Value → Prop) (Post : Pt → Array Value → Option Value → Pt → Prop) (PostX : Pt → Array Value → Addr → Pt → Prop) : Prop :=
  ∀ (m : MethodId) (meth : Method) (c : Code) (A : Pt) (g : JFrame) (ig : Instr) (mk : MethodId) (a : Array Value),
    Stand p l e R s m sargs below meth c A.U A.locs A.cells A.slots → g.method = m → g.locals.size = c.maxLocals → decode c.code g.pc = .ok (ig, len) →
    2 * g.monitorRoom + (g.stack.map fun v => v.category).sum ≤ W9 → A.U.methodNamed? y = some mk → Pre A a →
    (∃ (v : Option Value) (B : Pt), Stand p l e R s m sargs below meth c B.U B.locs B.cells B.slots ∧ Post A a v B ∧
      Steps p.tables e below (doInvoke e (A.U.setTop g) [] mk a).1 (B.U.setTop { g with pc := g.pc + len, stack := v.toList ++ g.stack })) ∨
    (∃ (q : Addr) (B : Pt), Stand p l e R s m sargs below meth c B.U B.locs B.cells B.slots ∧ PostX A a q B ∧
      Steps p.tables e below (doInvoke e (A.U.setTop g) [] mk a).1 ((B.U.setTop g).pushFrame (.throwing q)))
section Payer
variable {l : Launch} {R : Room} {p : Program} {e : Env} {below : List Frame} {s : State} {sargs : Array Value} {y : MethodName} {len W9 : Nat}
theorem vx_back {ws : List Cond} {rm : Room} {Pc : Array Value → State → Prop} {Qc : Array Value → State → Outcome → State → Prop} {XC : String → State → State → Prop} {mc ms : Nat} {free : Addr → Prop} {bytes : ByteArray} {maxL : Nat} {ret : Option FieldType}
    (hM : vx_Met l y ws rm Pc Qc XC mc ms free) (hblind : FrameBlind Pc) (hrc : rm.cells = mc) (hrs : rm.slots = ms)
    (hframes : rm.frames + 1 ≤ R.frames) (hlocals : W9 + (maxL + 11) + rm.locals ≤ R.locals)
    (hws : ∀ w ∈ ws, ∀ a' U, s.WarmedH U.vm → w.before a' U = true) (hcode : Cond.code y bytes maxL ret ∈ ws) (hinit : ∀ a' U, s.WarmedH U.vm → (Cond.initialized y.cls).before a' U = true) :
    vx_Back l R p e below s sargs y len W9 (PreOf R mc ms Pc) (PostOf Qc mc ms free) (vx_Post XC mc ms free) := by
  intro m meth c A g ig mk a X hg hsize hdg hW hn hp
  have h1 : (headSpec ws rm).pre.before a A.U = true := atoms_intro fun w hw => hws w hw _ _ X.warmed
  have h2 : (Cond.code y bytes maxL ret).before a A.U = true := hws _ hcode _ _ X.warmed
  have h3 : (Cond.initialized y.cls).before a A.U = true := hinit _ _ X.warmed
  have h4 : A.cells + (headSpec ws rm).room.cells ≤ R.cells := by rw [show (headSpec ws rm).room.cells = mc from hrc]; exact hp.1
  have h5 : A.slots + (headSpec ws rm).room.slots ≤ R.slots := by rw [show (headSpec ws rm).room.slots = ms from hrs]; exact hp.2.1
  have hPc : Pc a (A.U.calling g mk a) := hblind _ _ _ _ hp.2.2
  obtain ⟨U, Ls, c0, s0⟩ := A
  dsimp only [Pt.U, Pt.locs, Pt.cells, Pt.slots] at h1 h2 h3 h4 h5 X hn hPc ⊢
  obtain ⟨methY, cY, hmY, hcY, -, hlY, -, -, -, -⟩ := Cond.code_spec hn h2
  obtain ⟨kY, hkY, -⟩ := className_of_methodNamed hn
  have hinitY : kY.init = .initialized := Cond.initialized_spec (findClass_of_methodNamed hn) hkY h3
  have h : At U g.method c below := by rw [hg]; exact X.here
  have hlocals9 : W9 + (maxL + 11) + (headSpec ws rm).room.locals ≤ R.locals := hlocals
  have happ : (headSpec ws rm).appliesLoose y e.platform (U.calling g mk a) = true :=
    Spec.appliesLoose_calling (g := g) h hdg hn hkY hinitY
      (X.room_calling (g := g) (R' := (headSpec ws rm).room) hsize hmY hcY hframes (by rw [hlY]; omega) h4 h5) h1
  obtain ⟨mid, hmid⟩ := h.above
  have hfr : (U.setTop g).frames = (.java g :: mid) ++ below := by rw [State.frames_setTop' g h.top, hmid]; rfl
  obtain ⟨o, s₂, hsteps, -, hend, hq⟩ := Steps.callFree hM p X.admits X.cas X.clock (acts := []) hfr happ hPc trivial
  have hq' : vx_Q Qc XC mc ms free a (U.calling g mk a) o s₂ := hq
  rw [State.frames_setTop' g h.top] at hend
  obtain ⟨g₀, hg0⟩ := Option.isSome_iff_exists.mp h.top
  obtain ⟨r, hr⟩ := State.topJava?_eq_some.mp hg0
  have hr' : (({ U with heap := s₂.heap, slotsUsed := s₂.slotsUsed } : State).setVm s₂.vm).frames = .java g₀ :: r := hr
  rcases hq' with ⟨hqc, L, hfe, hL⟩ | ⟨q, rfl, E, ce, L, hx, hce, hcv, hcl, hW₂, hsm, hL⟩
  · obtain ⟨⟨v, rfl⟩, hW₂, e2, q2, q3, q4, q5, q6⟩ := id hfe
    have e3 : s₂ = ({ (U.calling g mk a).setFrames s₂.frames with heap := s₂.heap, slotsUsed := s₂.slotsUsed } : State).setVm s₂.vm := by
      have : s₂ = ({ s₂ with vm := (U.calling g mk a).vm } : State).setVm s₂.vm := rfl
      rw [e2] at this
      exact this
    obtain ⟨c₂, i₂, len₂, hc₂, hd₂, hf₂⟩ := hend
    have hW' : U.WarmedH s₂.vm := hW₂
    have hcc : c₂ = c := by
      have h1 : s₂.code? g.method = U.code? g.method := by
        rw [State.code?_eq, State.code?_eq, hW'.alike.method?]
      exact Option.some.inj (hc₂.symm.trans (h1.trans h.code))
    subst hcc
    have hlen : len₂ = len := by rw [hdg] at hd₂; cases hd₂; rfl
    subst hlen
    have hs₂ : s₂ = (({ U with heap := s₂.heap, slotsUsed := s₂.slotsUsed } : State).setVm s₂.vm).setTop { g with pc := g.pc + len₂, stack := v.toList ++ g.stack } := by
      refine e3.trans ?_
      rw [hf₂, State.calling_eq h.top, State.setFrames_setFrames, State.setTop_of_frames _ hr', hr]
      rfl
    have hsame : U.sameButNew ({ U with heap := s₂.heap, slotsUsed := s₂.slotsUsed } : State) L mc ms := by
      refine ⟨?_, q2, q3, q4, q5, q6⟩
      obtain ⟨t, ht, -⟩ := State.frames_cons hr
      show ({ U with heap := s₂.heap, slotsUsed := s₂.slotsUsed } : State) = { U.setFrames U.frames with heap := s₂.heap, slotsUsed := s₂.slotsUsed }
      rw [State.setFrames_self ht]
    subst hg
    refine Or.inl ⟨v, ⟨(({ U with heap := s₂.heap, slotsUsed := s₂.slotsUsed } : State).setVm s₂.vm), Ls ++ L, c0 + mc, s0 + ms⟩,
      ⟨X.admits, X.cas, X.clock, X.frames, X.room, X.hears, X.method, X.code, (X.here.setHeapUsed s₂.heap s₂.slotsUsed).setVm hW'.alike, X.tail, State.WarmedH.trans X.warmed hW', X.limits, X.bytes, X.same.trans (hsame.setVm s.vm)⟩,
      ⟨g, mk, s₂, L, rfl, rfl, hqc, rfl, hL, rfl, rfl⟩, ?_⟩
    show Steps p.tables e below _ ((({ U with heap := s₂.heap, slotsUsed := s₂.slotsUsed } : State).setVm s₂.vm).setTop { g with pc := g.pc + len₂, stack := v.toList ++ g.stack })
    rw [← hs₂]
    exact hsteps
  · obtain ⟨e2, q2, q3, q4, q5, q6⟩ := id hsm
    have e3 : s₂ = ({ (U.calling g mk a).setFrames s₂.frames with heap := s₂.heap, slotsUsed := s₂.slotsUsed } : State).setVm s₂.vm := by
      have : s₂ = ({ s₂ with vm := (U.calling g mk a).vm } : State).setVm s₂.vm := rfl
      rw [e2] at this
      exact this
    have hf₂ : s₂.frames = .throwing q :: .java g :: U.frames.tail := hend
    have hW' : U.WarmedH s₂.vm := hW₂
    have hs₂ : s₂ = ((({ U with heap := s₂.heap, slotsUsed := s₂.slotsUsed } : State).setVm s₂.vm).setTop g).pushFrame (.throwing q) := by
      refine e3.trans ?_
      rw [hf₂, State.calling_eq h.top, State.setFrames_setFrames, State.pushFrame, State.frames_setTop _ hr', State.setTop_of_frames _ hr', State.setFrames_setFrames, hr]
      rfl
    have hsame : U.sameButNew ({ U with heap := s₂.heap, slotsUsed := s₂.slotsUsed } : State) L mc ms := by
      refine ⟨?_, q2, q3, q4, q5, q6⟩
      obtain ⟨t, ht, -⟩ := State.frames_cons hr
      show ({ U with heap := s₂.heap, slotsUsed := s₂.slotsUsed } : State) = { U.setFrames U.frames with heap := s₂.heap, slotsUsed := s₂.slotsUsed }
      rw [State.setFrames_self ht]
    subst hg
    refine Or.inr ⟨q, ⟨(({ U with heap := s₂.heap, slotsUsed := s₂.slotsUsed } : State).setVm s₂.vm), Ls ++ L, c0 + mc, s0 + ms⟩,
      ⟨X.admits, X.cas, X.clock, X.frames, X.room, X.hears, X.method, X.code, (X.here.setHeapUsed s₂.heap s₂.slotsUsed).setVm hW'.alike, X.tail, State.WarmedH.trans X.warmed hW', X.limits, X.bytes, X.same.trans (hsame.setVm s.vm)⟩,
      ⟨g, mk, s₂, L, E, ce, rfl, rfl, hx, hce, hcv, hcl, rfl, hL, rfl, rfl⟩, ?_⟩
    show Steps p.tables e below _ (((({ U with heap := s₂.heap, slotsUsed := s₂.slotsUsed } : State).setVm s₂.vm).setTop g).pushFrame (.throwing q))
    rw [← hs₂]
    exact hsteps
end Payer
section Calls
variable {p : Program} {l : Launch} {e : Env} {R : Room} {s : State} {m : MethodId} {args : Array Value} {below : List Frame} {meth : Method} {c : Code} {T : State} {locs : List Loc} {cells slots : Nat}
theorem vx_callV (X : Stand p l e R s m args below meth c T locs cells slots) (hexec : p.tables.exec = Jvm.exec) {own C : String} {index : Nat} {y : MethodName} {bytes : ByteArray} {maxL : Nat} {ret : Option FieldType}
    (hown : s.vm.findClass own = some m.cls) (hlink : (Cond.methodLink own index y).before args s = true) (hinst : (Cond.instanceMethod y).before args s = true) (hsel : (Cond.selects C y y).before args s = true)
    (hcode : (Cond.code y bytes maxL ret).before args s = true) (hy : y.cls ≠ "java/lang/invoke/MethodHandle" ∧ y.cls ≠ "java/lang/invoke/VarHandle")
    {W9 : Nat} {Pre : Pt → Array Value → Prop} {Post : Pt → Array Value → Option Value → Pt → Prop} {PostX : Pt → Array Value → Addr → Pt → Prop} (hK : vx_Back l R p e below s args y 3 W9 Pre Post PostX)
    {b : Addr} {cellB : Cell} (hcell : T.heap[b]? = some cellB) (hobj : cellB.vm.isStatics = false) (hcls : s.vm.findClass C = some cellB.cls)
    {g : JFrame} (hg : g.method = m) (hsize : g.locals.size = c.maxLocals) {argsL rest : List Value} (hlen : ∀ sig, parseMethodDescriptor y.desc = some sig → argsL.length = sig.parameters.length)
    (hstack : g.stack = argsL.reverse ++ .ref b :: rest) (hW : 2 * g.monitorRoom + (rest.map fun v => v.category).sum ≤ W9) (hdg : decode c.code g.pc = .ok (.invokevirtual index, 3))
    (hpre : ∀ vm₁, s.WarmedH vm₁ → Pre ⟨T.setVm vm₁, locs, cells, slots⟩ (Value.ref b :: argsL).toArray) :
    (∃ (v : Option Value) (vm₁ : Vm) (B : Pt), s.WarmedH vm₁ ∧ Stand p l e R s m args below meth c B.U B.locs B.cells B.slots ∧ Post ⟨T.setVm vm₁, locs, cells, slots⟩ (Value.ref b :: argsL).toArray v B ∧
      ∀ target, Steps p.tables e below (B.U.setTop { g with pc := g.pc + 3, stack := v.toList ++ rest }) target → Steps p.tables e below (T.setTop g) target) ∨
    (∃ (q : Addr) (vm₁ : Vm) (B : Pt), s.WarmedH vm₁ ∧ Stand p l e R s m args below meth c B.U B.locs B.cells B.slots ∧ PostX ⟨T.setVm vm₁, locs, cells, slots⟩ (Value.ref b :: argsL).toArray q B ∧
      Steps p.tables e below (T.setTop g) ((B.U.setTop { g with stack := rest }).pushFrame (.throwing q))) := by
  obtain ⟨mk, methM, hnamed, hmethM, hstM, habM⟩ := Cond.instanceMethod_spec hinst
  obtain ⟨methM', cM, hmethM', -, -, -, -, -, -, hsigM⟩ := Cond.code_spec hnamed hcode
  cases hmethM.symm.trans hmethM'
  obtain ⟨c2, r2, m2, q1, q2, q3, q4, kP, hkP, hkPi⟩ := Cond.selects_spec hsel
  cases hcls.symm.trans q1
  cases (State.methodFound?_of_named hnamed hy).symm.trans q2
  cases hnamed.symm.trans q3
  have hselP : selectMethod e.platform s.vm cellB.cls mk = .method mk := by rw [Launch.admits_selectMethod X.admits]; exact q4
  obtain ⟨vm₁, X₁, hstep₁⟩ := X.invokevirtual hexec hown hlink hnamed hmethM hstM hkP hkPi hy (a := b) (cell := cellB) hcell
    (fun z h => by rw [h] at hobj; cases hobj) hselP hmethM habM hkP hkPi (g := g) hg (argsL := argsL) (rest := rest) (hlen _ hsigM) hstack hdg
  rcases hK m meth c ⟨T.setVm vm₁, locs, cells, slots⟩ { g with stack := rest } (.invokevirtual index) mk (Value.ref b :: argsL).toArray X₁ hg hsize hdg hW (X₁.named hnamed) (hpre vm₁ X₁.warmed) with ⟨v, B, X', hpost, hsteps⟩ | ⟨q, B, X', hpost, hsteps⟩
  · exact Or.inl ⟨v, vm₁, B, X₁.warmed, X', hpost, fun target h => hstep₁ _ fun acts => by rw [doInvoke_state]; exact hsteps.trans h⟩
  · exact Or.inr ⟨q, vm₁, B, X₁.warmed, X', hpost, hstep₁ _ fun acts => by rw [doInvoke_state]; exact hsteps⟩
theorem vx_callS (X : Stand p l e R s m args below meth c T locs cells slots) (hexec : p.tables.exec = Jvm.exec) {own : String} {index : Nat} {y : MethodName} {bytes : ByteArray} {maxL : Nat} {ret : Option FieldType}
    (hown : s.vm.findClass own = some m.cls) (hlink : (Cond.methodLink own index y).before args s = true) (hstat : (Cond.static y).before args s = true) (hinit : (Cond.initialized y.cls).before args s = true)
    (hcode : (Cond.code y bytes maxL ret).before args s = true) (hy : y.cls ≠ "java/lang/invoke/MethodHandle" ∧ y.cls ≠ "java/lang/invoke/VarHandle")
    {W9 : Nat} {Pre : Pt → Array Value → Prop} {Post : Pt → Array Value → Option Value → Pt → Prop} {PostX : Pt → Array Value → Addr → Pt → Prop} (hK : vx_Back l R p e below s args y 3 W9 Pre Post PostX)
    {g : JFrame} (hg : g.method = m) (hsize : g.locals.size = c.maxLocals) {argsL rest : List Value} (hlen : ∀ sig, parseMethodDescriptor y.desc = some sig → argsL.length = sig.parameters.length)
    (hstack : g.stack = argsL.reverse ++ rest) (hW : 2 * g.monitorRoom + (rest.map fun v => v.category).sum ≤ W9) (hdg : decode c.code g.pc = .ok (.invokestatic index, 3))
    (hpre : ∀ vm₁, s.WarmedH vm₁ → Pre ⟨T.setVm vm₁, locs, cells, slots⟩ argsL.toArray) :
    (∃ (v : Option Value) (vm₁ : Vm) (B : Pt), s.WarmedH vm₁ ∧ Stand p l e R s m args below meth c B.U B.locs B.cells B.slots ∧ Post ⟨T.setVm vm₁, locs, cells, slots⟩ argsL.toArray v B ∧
      ∀ target, Steps p.tables e below (B.U.setTop { g with pc := g.pc + 3, stack := v.toList ++ rest }) target → Steps p.tables e below (T.setTop g) target) ∨
    (∃ (q : Addr) (vm₁ : Vm) (B : Pt), s.WarmedH vm₁ ∧ Stand p l e R s m args below meth c B.U B.locs B.cells B.slots ∧ PostX ⟨T.setVm vm₁, locs, cells, slots⟩ argsL.toArray q B ∧
      Steps p.tables e below (T.setTop g) ((B.U.setTop { g with stack := rest }).pushFrame (.throwing q))) := by
  obtain ⟨mk, hnamed⟩ := Cond.code_named hcode
  obtain ⟨methM, cM, hmethM, -, -, -, -, -, -, hsigM⟩ := Cond.code_spec hnamed hcode
  have hstatic : methM.isStatic = true := Cond.static_spec hnamed hmethM hstat
  obtain ⟨kP, hkP, -⟩ := className_of_methodNamed hnamed
  have hinitP : kP.init = .initialized := Cond.initialized_spec (findClass_of_methodNamed hnamed) hkP hinit
  obtain ⟨vm₁, X₁, hstep₁⟩ := X.invokestatic hexec hown hlink hnamed hmethM hstatic hkP hinitP hy (g := g) hg (argsL := argsL) (rest := rest) (hlen _ hsigM) hstack hdg
  rcases hK m meth c ⟨T.setVm vm₁, locs, cells, slots⟩ { g with stack := rest } (.invokestatic index) mk argsL.toArray X₁ hg hsize hdg hW (X₁.named hnamed) (hpre vm₁ X₁.warmed) with ⟨v, B, X', hpost, hsteps⟩ | ⟨q, B, X', hpost, hsteps⟩
  · exact Or.inl ⟨v, vm₁, B, X₁.warmed, X', hpost, fun target h => hstep₁ _ fun acts => by rw [doInvoke_state]; exact hsteps.trans h⟩
  · exact Or.inr ⟨q, vm₁, B, X₁.warmed, X', hpost, hstep₁ _ fun acts => by rw [doInvoke_state]; exact hsteps⟩
end Calls
theorem vx_cls {s : State} {T : State} {vm₁ : Vm} {E : String} {k : ClassId} (hW : s.WarmedH vm₁) (h : (T.setVm vm₁).vm.findClass E = some k) : s.vm.findClass E = some k := by
  have h1 : vm₁.findClass E = some k := h
  rw [hW.alike.findClass] at h1
  exact h1
/-- the method's frame g, with q thrown over it -/
def vx_W (p : Program) (l : Launch) (e : Env) (R : Room) (s : State) (m : MethodId) (args : Array Value) (below : List Frame) (meth : Method) (c : Code) (H : Heap) (locs : List Loc) (cells slots : Nat) (Q : State → Prop) (g : JFrame) (q : Addr) : Prop :=
  ∀ T : State, T.heap = H → Stand p l e R s m args below meth c T locs cells slots → ∃ t, Steps p.tables e below ((T.setTop g).pushFrame (.throwing q)) t ∧ Q t
def vx_Run (p : Program) (l : Launch) (e : Env) (R : Room) (s : State) (m : MethodId) (args : Array Value) (below : List Frame) (meth : Method) (c : Code) (H : Heap) (locs : List Loc) (cells slots mc ms : Nat) (g : JFrame) (rest : List Value) (Qa : State → Outcome → State → Prop) (XC : String → State → State → Prop) (free : Addr → Prop) : Prop :=
  ∀ T : State, T.heap = H → Stand p l e R s m args below meth c T locs cells slots →
    (∃ (v : Option Value) (st₀ t T' : State) (L : List Loc), st₀.heap = H ∧ Stand p l e R s m args below meth c T' (locs ++ L) (cells + mc) (slots + ms) ∧ (∀ q ∈ L, free q.base) ∧ T'.heap = t.heap ∧ T'.vm = t.vm ∧ Qa st₀ (.returned v) t ∧
      Goes p e below T g T' { g with pc := g.pc + 3, stack := v.toList ++ rest }) ∨
    (∃ (q : Addr) (st₀ t T' : State) (L : List Loc) (E : String) (ce : Cell), st₀.heap = H ∧ Stand p l e R s m args below meth c T' (locs ++ L) (cells + mc) (slots + ms) ∧ (∀ z ∈ L, free z.base) ∧ T'.heap = t.heap ∧ T'.vm = t.vm ∧ XC E st₀ t ∧ t.heap[q]? = some ce ∧ ce.vm = .none ∧ s.vm.findClass E = some ce.cls ∧
      Steps p.tables e below (T.setTop g) ((T'.setTop { g with stack := rest }).pushFrame (.throwing q)))
def vx_X {S : Type} (px : S → Prop) (B : String → S → State → Prop) (A : Nat → Prop) : String → State → State → Prop := fun E st t => ∃ u : S, px u ∧ B E u t ∧ va_F A st t
section Runs
variable {p : Program} {l : Launch} {e : Env} {R : Room} {s : State} {m : MethodId} {args : Array Value} {below : List Frame} {meth : Method} {c : Code} {H : Heap} {locs : List Loc} {cells slots : Nat}
variable {y : MethodName} {bytes cc : ByteArray} {maxL nL mc ms n index : Nat} {ret : Option FieldType} {ws : List Cond} {rm : Room} {Pc : Array Value → State → Prop} {Qc : Array Value → State → Outcome → State → Prop} {XC : String → State → State → Prop} {free : Addr → Prop} {Ts : List Cond} {own C : String} {b : Addr} {As rest : List Value} {g : JFrame}
theorem vx_callBack (cb : CallB R s args own index y bytes maxL ret ws rm mc ms n) (hM : vx_Met l y ws rm Pc Qc XC mc ms free) (hbl : FrameBlind Pc) : vx_Back l R p e below s args y 3 8 (PreOf R mc ms Pc) (PostOf Qc mc ms free) (vx_Post XC mc ms free) := by
  obtain ⟨hrc, hrs, hfr, hlo, hws, hcw, -, hini, -⟩ := cb
  exact vx_back (bytes := bytes) (maxL := maxL) (ret := ret) hM hbl hrc hrs hfr hlo hws hcw (fun a' U hW => word_at hW (Or.inl (by first | rfl | simp [Cond.onTables, Cond.keeps, Cond.steady])) hini)
theorem vx_runV (S : CallFix p m c cc nL s args Ts own) (hM : vx_Met l y ws rm Pc Qc XC mc ms free) (cw : CallW R s args own C index y bytes maxL ret ws rm mc ms n) (hp : PreV s H C b Pc As)
    (hg : g.method = m) (hn : As.length = n) (hsize : g.locals.size = nL) (hstack : g.stack = As.reverse ++ .ref b :: rest) (hW : 2 * g.monitorRoom + (rest.map fun v => v.category).sum ≤ 8) (hdg : decode cc g.pc = .ok (.invokevirtual index, 3)) (hf : cells + mc ≤ R.cells ∧ slots + ms ≤ R.slots) :
    vx_Run p l e R s m args below meth c H locs cells slots mc ms g rest (Qc (Value.ref b :: As).toArray) XC free := by
  have hK : vx_Back l R p e below s args y 3 8 (PreOf R mc ms Pc) (PostOf Qc mc ms free) (vx_Post XC mc ms free) := vx_callBack cw.1 hM hp.1
  obtain ⟨⟨-, -, -, -, -, -, hcode, -, hy, hlen, hl⟩, hin, hse⟩ := cw
  obtain ⟨hx, hb, hml, ho, -⟩ := S
  obtain ⟨-, ⟨cellB, hcB, hoB, hclB⟩, hPc⟩ := hp
  intro T hT X
  rcases vx_callV X hx (C := C) (bytes := bytes) (maxL := maxL) (ret := ret) ho hl hin hse hcode hy hK (by rw [hT]; exact hcB) hoB hclB hg (hsize.trans hml.symm) (argsL := As) (rest := rest) (fun sig h => hn.trans (hlen sig h)) hstack hW (by rw [hb]; exact hdg)
    (fun vm₁ hW₁ => ⟨hf.1, hf.2, hPc (T.setVm vm₁) hT hW₁⟩) with ⟨v, vm₁, ⟨U', l2, c2, s2⟩, hW₁, X', ⟨g', mk, t, L, e1, e2, hq, h1, hL, h2, h3⟩, st⟩ | ⟨q, vm₁, ⟨U', l2, c2, s2⟩, hW₁, X', ⟨g', mk, t, L, E, ce, e1, e2, hq, hce, hcv, hcl, h1, hL, h2, h3⟩, st⟩
  · dsimp only [Pt.U, Pt.locs, Pt.cells, Pt.slots] at X' e1 e2 h1 h2 h3 st
    subst h1; subst h2; subst h3
    exact Or.inl ⟨v, (T.setVm vm₁).calling g' mk (Value.ref b :: As).toArray, t, U', L, hT, X', hL, e1, e2, hq, st⟩
  · dsimp only [Pt.U, Pt.locs, Pt.cells, Pt.slots] at X' e1 e2 h1 h2 h3 st hcl
    subst h1; subst h2; subst h3
    exact Or.inr ⟨q, (T.setVm vm₁).calling g' mk (Value.ref b :: As).toArray, t, U', L, E, ce, hT, X', hL, e1, e2, hq, hce, hcv, vx_cls hW₁ hcl, st⟩
theorem vx_runS (S : CallFix p m c cc nL s args Ts own) (hM : vx_Met l y ws rm Pc Qc XC mc ms free) (cw : CallB R s args own index y bytes maxL ret ws rm mc ms n ∧ (Cond.static y).before args s = true) (hp : PreS s H Pc As)
    (hg : g.method = m) (hn : As.length = n) (hsize : g.locals.size = nL) (hstack : g.stack = As.reverse ++ rest) (hW : 2 * g.monitorRoom + (rest.map fun v => v.category).sum ≤ 8) (hdg : decode cc g.pc = .ok (.invokestatic index, 3)) (hf : cells + mc ≤ R.cells ∧ slots + ms ≤ R.slots) :
    vx_Run p l e R s m args below meth c H locs cells slots mc ms g rest (Qc As.toArray) XC free := by
  have hK : vx_Back l R p e below s args y 3 8 (PreOf R mc ms Pc) (PostOf Qc mc ms free) (vx_Post XC mc ms free) := vx_callBack cw.1 hM hp.1
  obtain ⟨⟨-, -, -, -, -, -, hcode, hini, hy, hlen, hl⟩, hstt⟩ := cw
  obtain ⟨hx, hb, hml, ho, -⟩ := S
  intro T hT X
  rcases vx_callS X hx (bytes := bytes) (maxL := maxL) (ret := ret) ho hl hstt hini hcode hy hK hg (hsize.trans hml.symm) (argsL := As) (rest := rest) (fun sig h => hn.trans (hlen sig h)) hstack hW (by rw [hb]; exact hdg)
    (fun vm₁ hW₁ => ⟨hf.1, hf.2, hp.2 (T.setVm vm₁) hT hW₁⟩) with ⟨v, vm₁, ⟨U', l2, c2, s2⟩, hW₁, X', ⟨g', mk, t, L, e1, e2, hq, h1, hL, h2, h3⟩, st⟩ | ⟨q, vm₁, ⟨U', l2, c2, s2⟩, hW₁, X', ⟨g', mk, t, L, E, ce, e1, e2, hq, hce, hcv, hcl, h1, hL, h2, h3⟩, st⟩
  · dsimp only [Pt.U, Pt.locs, Pt.cells, Pt.slots] at X' e1 e2 h1 h2 h3 st
    subst h1; subst h2; subst h3
    exact Or.inl ⟨v, (T.setVm vm₁).calling g' mk As.toArray, t, U', L, hT, X', hL, e1, e2, hq, st⟩
  · dsimp only [Pt.U, Pt.locs, Pt.cells, Pt.slots] at X' e1 e2 h1 h2 h3 st hcl
    subst h1; subst h2; subst h3
    exact Or.inr ⟨q, (T.setVm vm₁).calling g' mk As.toArray, t, U', L, E, ce, hT, X', hL, e1, e2, hq, hce, hcv, vx_cls hW₁ hcl, st⟩
end Runs
section Rows
variable {p : Program} {l : Launch} {e : Env} {R : Room} {s : State} {m : MethodId} {args : Array Value} {below : List Frame} {meth : Method} {c : Code} {H : Heap} {locs : List Loc} {cells slots : Nat} {Q : State → Prop}
variable {mc ms : Nat} {free : Addr → Prop} {A0 A1 : Nat → Prop} {H0 : Heap} {a : Array Value} {pc : Nat} {ls : Array Slot} {st0 rest : List Value}
theorem vx_keep {st₀ t T' : State} {L : List Loc} (h0 : st₀.heap = H) (e1 : T'.heap = t.heap) (hS : va_S A0 H0 H locs) (hA : ∀ q, q < H.size → A1 q → A0 q) (hf : ∀ q, free q → A0 q) (hL : ∀ q ∈ L, free q.base) (hF : va_F A1 st₀ t) :
    H.size ≤ T'.heap.size ∧ (∀ q : Nat, q < H.size → ¬ A1 q → T'.heap[q]? = H[q]?) ∧ va_S A0 H0 T'.heap (locs ++ L) := by
  obtain ⟨hz, hk⟩ := hF
  rw [h0] at hz hk
  exact ⟨by rw [e1]; exact hz, fun q h1 h2 => by rw [e1]; exact hk q h1 h2,
    ⟨Nat.le_trans hS.1 (by rw [e1]; exact hz), fun q h1 h2 => by rw [e1, hk q (Nat.lt_of_lt_of_le h1 hS.1) (fun z => h2 (hA q (Nat.lt_of_lt_of_le h1 hS.1) z))]; exact hS.2.1 q h1 h2, fun q hq => by
      rcases List.mem_append.mp hq with h | h
      · exact hS.2.2 q h
      · exact hf _ (hL q h)⟩⟩
theorem vx_calli {S SX : Type} {post : Int32 → S → Prop} {px : SX → Prop} {B : S → State → Prop} {BX : String → SX → State → Prop} {AX : Nat → Prop} (hr : vx_Run p l e R s m args below meth c H locs cells slots mc ms (F0 m pc ls st0) rest (va_Qi post B A1 a) (vx_X px BX AX) free) (hS : va_S A0 H0 H locs) (hA : ∀ q, q < H.size → A1 q → A0 q) (hf : ∀ q, free q → A0 q) (hAX : ∀ q, q < H.size → AX q → A0 q)
    (kx : ∀ (E : String) (ce : Cell) (q9 : Addr) (u : SX) (t : State) (H1 : Heap) (locs1 : List Loc), t.heap = H1 → s.vm.Alike t.vm → px u → BX E u t → H.size ≤ H1.size → (∀ q : Nat, q < H.size → ¬ AX q → H1[q]? = H[q]?) → va_S A0 H0 H1 locs1 → H1[q9]? = some ce → ce.vm = .none → s.vm.findClass E = some ce.cls → vx_W p l e R s m args below meth c H1 locs1 (cells + mc) (slots + ms) Q (F0 m pc ls rest) q9)
    (kk : ∀ (r : Int32) (u : S) (t : State) (H1 : Heap) (locs1 : List Loc), t.heap = H1 → s.vm.Alike t.vm → post r u → B u t → H.size ≤ H1.size → (∀ q : Nat, q < H.size → ¬ A1 q → H1[q]? = H[q]?) → va_S A0 H0 H1 locs1 → W p l e R s m args below meth c H1 locs1 (cells + mc) (slots + ms) Q (F0 m (pc + 3) ls (.int r :: rest))) : W p l e R s m args below meth c H locs cells slots Q (F0 m pc ls st0) := by
  intro T hT X
  rcases hr T hT X with ⟨v, st₀, t, T', L, h0, X', hL, e1, e2, ⟨⟨r, u, hv, hp, hb⟩, hF⟩, st⟩ | ⟨q, st₀, t, T', L, E, ce, h0, X', hL, e1, e2, ⟨u, hp, hb, hF⟩, hce, hcv, hcl, st⟩
  · cases hv
    obtain ⟨k1, k2, k3⟩ := vx_keep h0 e1 hS hA hf hL hF
    obtain ⟨t2, a1, b1⟩ := kk r u t T'.heap (locs ++ L) e1.symm (by rw [← e2]; exact X'.warmed.alike) hp hb k1 k2 k3 T' rfl X'
    exact ⟨t2, st t2 a1, b1⟩
  · obtain ⟨k1, k2, k3⟩ := vx_keep h0 e1 hS hAX hf hL hF
    obtain ⟨t2, a1, b1⟩ := kx E ce q u t T'.heap (locs ++ L) e1.symm (by rw [← e2]; exact X'.warmed.alike) hp hb k1 k2 k3 (by rw [e1]; exact hce) hcv hcl T' rfl X'
    exact ⟨t2, st.trans a1, b1⟩
theorem vx_calll {S SX : Type} {post : Int64 → S → Prop} {px : SX → Prop} {B : S → State → Prop} {BX : String → SX → State → Prop} {AX : Nat → Prop} (hr : vx_Run p l e R s m args below meth c H locs cells slots mc ms (F0 m pc ls st0) rest (va_Ql post B A1 a) (vx_X px BX AX) free) (hS : va_S A0 H0 H locs) (hA : ∀ q, q < H.size → A1 q → A0 q) (hf : ∀ q, free q → A0 q) (hAX : ∀ q, q < H.size → AX q → A0 q)
    (kx : ∀ (E : String) (ce : Cell) (q9 : Addr) (u : SX) (t : State) (H1 : Heap) (locs1 : List Loc), t.heap = H1 → s.vm.Alike t.vm → px u → BX E u t → H.size ≤ H1.size → (∀ q : Nat, q < H.size → ¬ AX q → H1[q]? = H[q]?) → va_S A0 H0 H1 locs1 → H1[q9]? = some ce → ce.vm = .none → s.vm.findClass E = some ce.cls → vx_W p l e R s m args below meth c H1 locs1 (cells + mc) (slots + ms) Q (F0 m pc ls rest) q9)
    (kk : ∀ (r : Int64) (u : S) (t : State) (H1 : Heap) (locs1 : List Loc), t.heap = H1 → s.vm.Alike t.vm → post r u → B u t → H.size ≤ H1.size → (∀ q : Nat, q < H.size → ¬ A1 q → H1[q]? = H[q]?) → va_S A0 H0 H1 locs1 → W p l e R s m args below meth c H1 locs1 (cells + mc) (slots + ms) Q (F0 m (pc + 3) ls (.long r :: rest))) : W p l e R s m args below meth c H locs cells slots Q (F0 m pc ls st0) := by
  intro T hT X
  rcases hr T hT X with ⟨v, st₀, t, T', L, h0, X', hL, e1, e2, ⟨⟨r, u, hv, hp, hb⟩, hF⟩, st⟩ | ⟨q, st₀, t, T', L, E, ce, h0, X', hL, e1, e2, ⟨u, hp, hb, hF⟩, hce, hcv, hcl, st⟩
  · cases hv
    obtain ⟨k1, k2, k3⟩ := vx_keep h0 e1 hS hA hf hL hF
    obtain ⟨t2, a1, b1⟩ := kk r u t T'.heap (locs ++ L) e1.symm (by rw [← e2]; exact X'.warmed.alike) hp hb k1 k2 k3 T' rfl X'
    exact ⟨t2, st t2 a1, b1⟩
  · obtain ⟨k1, k2, k3⟩ := vx_keep h0 e1 hS hAX hf hL hF
    obtain ⟨t2, a1, b1⟩ := kx E ce q u t T'.heap (locs ++ L) e1.symm (by rw [← e2]; exact X'.warmed.alike) hp hb k1 k2 k3 (by rw [e1]; exact hce) hcv hcl T' rfl X'
    exact ⟨t2, st.trans a1, b1⟩
theorem vx_callf {S SX : Type} {post : UInt32 → S → Prop} {px : SX → Prop} {B : S → State → Prop} {BX : String → SX → State → Prop} {AX : Nat → Prop} (hr : vx_Run p l e R s m args below meth c H locs cells slots mc ms (F0 m pc ls st0) rest (va_Qf post B A1 a) (vx_X px BX AX) free) (hS : va_S A0 H0 H locs) (hA : ∀ q, q < H.size → A1 q → A0 q) (hf : ∀ q, free q → A0 q) (hAX : ∀ q, q < H.size → AX q → A0 q)
    (kx : ∀ (E : String) (ce : Cell) (q9 : Addr) (u : SX) (t : State) (H1 : Heap) (locs1 : List Loc), t.heap = H1 → s.vm.Alike t.vm → px u → BX E u t → H.size ≤ H1.size → (∀ q : Nat, q < H.size → ¬ AX q → H1[q]? = H[q]?) → va_S A0 H0 H1 locs1 → H1[q9]? = some ce → ce.vm = .none → s.vm.findClass E = some ce.cls → vx_W p l e R s m args below meth c H1 locs1 (cells + mc) (slots + ms) Q (F0 m pc ls rest) q9)
    (kk : ∀ (r : UInt32) (u : S) (t : State) (H1 : Heap) (locs1 : List Loc), t.heap = H1 → s.vm.Alike t.vm → post r u → B u t → H.size ≤ H1.size → (∀ q : Nat, q < H.size → ¬ A1 q → H1[q]? = H[q]?) → va_S A0 H0 H1 locs1 → W p l e R s m args below meth c H1 locs1 (cells + mc) (slots + ms) Q (F0 m (pc + 3) ls (.float r :: rest))) : W p l e R s m args below meth c H locs cells slots Q (F0 m pc ls st0) := by
  intro T hT X
  rcases hr T hT X with ⟨v, st₀, t, T', L, h0, X', hL, e1, e2, ⟨⟨r, u, hv, hp, hb⟩, hF⟩, st⟩ | ⟨q, st₀, t, T', L, E, ce, h0, X', hL, e1, e2, ⟨u, hp, hb, hF⟩, hce, hcv, hcl, st⟩
  · cases hv
    obtain ⟨k1, k2, k3⟩ := vx_keep h0 e1 hS hA hf hL hF
    obtain ⟨t2, a1, b1⟩ := kk r u t T'.heap (locs ++ L) e1.symm (by rw [← e2]; exact X'.warmed.alike) hp hb k1 k2 k3 T' rfl X'
    exact ⟨t2, st t2 a1, b1⟩
  · obtain ⟨k1, k2, k3⟩ := vx_keep h0 e1 hS hAX hf hL hF
    obtain ⟨t2, a1, b1⟩ := kx E ce q u t T'.heap (locs ++ L) e1.symm (by rw [← e2]; exact X'.warmed.alike) hp hb k1 k2 k3 (by rw [e1]; exact hce) hcv hcl T' rfl X'
    exact ⟨t2, st.trans a1, b1⟩
theorem vx_calld {S SX : Type} {post : UInt64 → S → Prop} {px : SX → Prop} {B : S → State → Prop} {BX : String → SX → State → Prop} {AX : Nat → Prop} (hr : vx_Run p l e R s m args below meth c H locs cells slots mc ms (F0 m pc ls st0) rest (va_Qd post B A1 a) (vx_X px BX AX) free) (hS : va_S A0 H0 H locs) (hA : ∀ q, q < H.size → A1 q → A0 q) (hf : ∀ q, free q → A0 q) (hAX : ∀ q, q < H.size → AX q → A0 q)
    (kx : ∀ (E : String) (ce : Cell) (q9 : Addr) (u : SX) (t : State) (H1 : Heap) (locs1 : List Loc), t.heap = H1 → s.vm.Alike t.vm → px u → BX E u t → H.size ≤ H1.size → (∀ q : Nat, q < H.size → ¬ AX q → H1[q]? = H[q]?) → va_S A0 H0 H1 locs1 → H1[q9]? = some ce → ce.vm = .none → s.vm.findClass E = some ce.cls → vx_W p l e R s m args below meth c H1 locs1 (cells + mc) (slots + ms) Q (F0 m pc ls rest) q9)
    (kk : ∀ (r : UInt64) (u : S) (t : State) (H1 : Heap) (locs1 : List Loc), t.heap = H1 → s.vm.Alike t.vm → post r u → B u t → H.size ≤ H1.size → (∀ q : Nat, q < H.size → ¬ A1 q → H1[q]? = H[q]?) → va_S A0 H0 H1 locs1 → W p l e R s m args below meth c H1 locs1 (cells + mc) (slots + ms) Q (F0 m (pc + 3) ls (.double r :: rest))) : W p l e R s m args below meth c H locs cells slots Q (F0 m pc ls st0) := by
  intro T hT X
  rcases hr T hT X with ⟨v, st₀, t, T', L, h0, X', hL, e1, e2, ⟨⟨r, u, hv, hp, hb⟩, hF⟩, st⟩ | ⟨q, st₀, t, T', L, E, ce, h0, X', hL, e1, e2, ⟨u, hp, hb, hF⟩, hce, hcv, hcl, st⟩
  · cases hv
    obtain ⟨k1, k2, k3⟩ := vx_keep h0 e1 hS hA hf hL hF
    obtain ⟨t2, a1, b1⟩ := kk r u t T'.heap (locs ++ L) e1.symm (by rw [← e2]; exact X'.warmed.alike) hp hb k1 k2 k3 T' rfl X'
    exact ⟨t2, st t2 a1, b1⟩
  · obtain ⟨k1, k2, k3⟩ := vx_keep h0 e1 hS hAX hf hL hF
    obtain ⟨t2, a1, b1⟩ := kx E ce q u t T'.heap (locs ++ L) e1.symm (by rw [← e2]; exact X'.warmed.alike) hp hb k1 k2 k3 (by rw [e1]; exact hce) hcv hcl T' rfl X'
    exact ⟨t2, st.trans a1, b1⟩
theorem vx_callv {S SX : Type} {post : S → Prop} {px : SX → Prop} {B : S → State → Prop} {BX : String → SX → State → Prop} {AX : Nat → Prop} (hr : vx_Run p l e R s m args below meth c H locs cells slots mc ms (F0 m pc ls st0) rest (va_Qv post B A1 a) (vx_X px BX AX) free) (hS : va_S A0 H0 H locs) (hA : ∀ q, q < H.size → A1 q → A0 q) (hf : ∀ q, free q → A0 q) (hAX : ∀ q, q < H.size → AX q → A0 q)
    (kx : ∀ (E : String) (ce : Cell) (q9 : Addr) (u : SX) (t : State) (H1 : Heap) (locs1 : List Loc), t.heap = H1 → s.vm.Alike t.vm → px u → BX E u t → H.size ≤ H1.size → (∀ q : Nat, q < H.size → ¬ AX q → H1[q]? = H[q]?) → va_S A0 H0 H1 locs1 → H1[q9]? = some ce → ce.vm = .none → s.vm.findClass E = some ce.cls → vx_W p l e R s m args below meth c H1 locs1 (cells + mc) (slots + ms) Q (F0 m pc ls rest) q9)
    (kk : ∀ (u : S) (t : State) (H1 : Heap) (locs1 : List Loc), t.heap = H1 → s.vm.Alike t.vm → post u → B u t → H.size ≤ H1.size → (∀ q : Nat, q < H.size → ¬ A1 q → H1[q]? = H[q]?) → va_S A0 H0 H1 locs1 → W p l e R s m args below meth c H1 locs1 (cells + mc) (slots + ms) Q (F0 m (pc + 3) ls (rest))) : W p l e R s m args below meth c H locs cells slots Q (F0 m pc ls st0) := by
  intro T hT X
  rcases hr T hT X with ⟨v, st₀, t, T', L, h0, X', hL, e1, e2, ⟨⟨u, hv, hp, hb⟩, hF⟩, st⟩ | ⟨q, st₀, t, T', L, E, ce, h0, X', hL, e1, e2, ⟨u, hp, hb, hF⟩, hce, hcv, hcl, st⟩
  · cases hv
    obtain ⟨k1, k2, k3⟩ := vx_keep h0 e1 hS hA hf hL hF
    obtain ⟨t2, a1, b1⟩ := kk u t T'.heap (locs ++ L) e1.symm (by rw [← e2]; exact X'.warmed.alike) hp hb k1 k2 k3 T' rfl X'
    exact ⟨t2, st t2 a1, b1⟩
  · obtain ⟨k1, k2, k3⟩ := vx_keep h0 e1 hS hAX hf hL hF
    obtain ⟨t2, a1, b1⟩ := kx E ce q u t T'.heap (locs ++ L) e1.symm (by rw [← e2]; exact X'.warmed.alike) hp hb k1 k2 k3 (by rw [e1]; exact hce) hcv hcl T' rfl X'
    exact ⟨t2, st.trans a1, b1⟩
/-- caught by the row x of this method's table; the rows ahead don't take it -/
theorem vx_catch {own name : String} {E : String} {ce : Cell} {q : Addr} (hown : s.vm.findClass own = some m.cls) (pre : List ExceptionTableEntry) (x : ExceptionTableEntry) (suf : List ExceptionTableEntry) (hsplit : c.exceptionTable.toList = pre ++ x :: suf)
    (hpass : ∀ z ∈ pre, covers z pc = false ∨ (z.catchType ≠ 0 ∧ ∃ nm : String, (Cond.classLink own z.catchType nm).before args s = true ∧ va_Nc E nm s)) (hx : covers x pc = true) (h0 : x.catchType ≠ 0)
    (hlink : (Cond.classLink own x.catchType name).before args s = true) (hcast : (Cond.castable E name).before args s = true) (hcell : H[q]? = some ce) (hv : ce.vm = .none) (hcl : s.vm.findClass E = some ce.cls)
    (kk : W p l e R s m args below meth c H locs cells slots Q (F0 m x.handlerPc ls [.ref q])) : vx_W p l e R s m args below meth c H locs cells slots Q (F0 m pc ls rest) q := by
  intro T hT X
  have hpl : e.platform.magicAccessors = ({} : Platform).magicAccessors := by rw [X.admits.platform]
  obtain ⟨c3, c4, hc3, hc4, hasg⟩ := Cond.castable_spec hcast
  cases Option.some.inj (hc3.symm.trans hcl)
  obtain ⟨c5, hc5, hcl5⟩ := Cond.classLink_spec hown hlink e.platform hpl
  cases Option.some.inj (hc4.symm.trans hc5)
  obtain ⟨vm', X', st⟩ := X.thenCaughtThrough q (g := F0 m pc ls rest) rfl (Steps.refl _) (by rw [hT]; exact hcell) (by rw [hv]; rfl) (by obtain ⟨k9, h9, -⟩ := Vm.findClass_spec hcl; exact ⟨k9, h9⟩) pre x suf hsplit
    (fun z hz => by
      rcases hpass z hz with h | ⟨hz0, nm, hl1, hn1⟩
      · exact Or.inl h
      · obtain ⟨c6, hc6, hcl6⟩ := Cond.classLink_spec hown hl1 e.platform hpl
        obtain ⟨a8, b8, h1, h2, h3⟩ := hn1
        cases Option.some.inj (h1.symm.trans hcl)
        cases Option.some.inj (h2.symm.trans hc6)
        exact Or.inr ⟨hz0, _, hcl6, h3⟩) hx (Or.inr ⟨h0, c4, hcl5, hasg⟩)
  obtain ⟨t, a1, b1⟩ := kk (T.setVm vm') hT X'
  exact ⟨t, st.trans a1, b1⟩
end Rows
section Ends
variable {p : Program} {l : Launch} {e : Env} {R : Room} {s : State} {m : MethodId} {args : Array Value} {below : List Frame} {meth : Method} {c : Code} {H : Heap} {locs : List Loc} {cells slots : Nat} {Q : State → Prop}
variable {mc ms : Nat} {free : Addr → Prop} {A0 A1 : Nat → Prop} {H0 : Heap} {a : Array Value} {ls : Array Slot} {st0 rest : List Value}
variable {Qc : Array Value → State → Outcome → State → Prop} {XC : String → State → State → Prop}
/-- what a body that may throw owes at its end -/
def vx_MQ (below : List Frame) (Qc : Array Value → State → Outcome → State → Prop) (XC : String → State → State → Prop) (a : Array Value) (s : State) (mc ms : Nat) (free : Addr → Prop) : State → Prop := fun t =>
  ∃ o, t.status = .running ∧ Ended t below o ∧ vx_Q Qc XC mc ms free a s o t
theorem vx_ret {g : JFrame} {mc ms : Nat} (k : W p l e R s m args below meth c H locs cells slots (MQ below Qc args s mc ms free) g) : W p l e R s m args below meth c H locs cells slots (vx_MQ below Qc XC args s mc ms free) g := by
  intro T hT X
  obtain ⟨t, a1, o, b1, b2, b3, b4⟩ := k T hT X
  exact ⟨t, a1, o, b1, b2, Or.inl ⟨b3, b4⟩⟩
/-- not caught here: it goes on to the caller -/
theorem vx_widen {g : JFrame} {q : Addr} {k n : Nat} (h1 : cells ≤ k) (h2 : slots ≤ n) (kk : vx_W p l e R s m args below meth c H locs k n Q g q) : vx_W p l e R s m args below meth c H locs cells slots Q g q := fun T hT X => kk T hT (stand_widen X h1 h2)
theorem vx_out {pc : Nat} {E : String} {ce : Cell} {q : Addr} {mc ms : Nat} (hout : ∀ x ∈ c.exceptionTable.toList, covers x pc = false) (hlocks : meth.locks = false) (hcell : H[q]? = some ce) (hv : ce.vm = .none) (hcl : s.vm.findClass E = some ce.cls)
    (hx : ∀ t : State, t.heap = H → s.vm.Alike t.vm → XC E s t) (hf : ∀ z ∈ locs, free z.base) (hc : cells ≤ mc) (hs : slots ≤ ms) :
    vx_W p l e R s m args below meth c H locs cells slots (vx_MQ below Qc XC args s mc ms free) (F0 m pc ls rest) q := by
  intro T hT X
  obtain ⟨st1, hrun, hend, hW, hsm⟩ := X.leaveThrown q (g := F0 m pc ls rest) rfl rfl rfl hout hlocks
  have hcell9 : (T.setFrames (.throwing q :: below)).heap[q]? = some ce := by
    show T.heap[q]? = some ce
    rw [hT]; exact hcell
  exact ⟨_, st1, .threw q, hrun, hend, Or.inr ⟨q, rfl, E, ce, locs, hx _ hT hW.alike, hcell9, hv, hcl, hW, hsm.mono hc hs, hf⟩⟩
theorem vx_frame {U : State} {k n : Nat} (h : s.sameButNew ({ U with vm := s.vm } : State) locs k n) : s.heap.size ≤ U.heap.size ∧ ∀ q : Nat, q < s.heap.size → (∀ z ∈ locs, z.base ≠ q) → U.heap[q]? = s.heap[q]? := by
  obtain ⟨-, h2, -, -, -, h6⟩ := h
  refine ⟨h2, fun q hq hz => ?_⟩
  obtain ⟨c9, e1, e2, e3, e4⟩ := h6 q _ (Array.getElem?_eq_getElem hq)
  have hs : c9.slots = (s.heap[q]).slots := Array.ext_getElem? fun i => e4 i fun hm => hz _ hm rfl
  have h9 : c9 = s.heap[q] := by
    rw [hs] at e2
    exact e2
  have e5 : U.heap[q]? = some c9 := e1
  rw [e5, h9, Array.getElem?_eq_getElem hq]
/-- the words of a throw but the four that speak of the heap -/
def vx_no (w : Cond) : Bool := decide (w ≠ .isRef (.static Bundle.tN "UNASSIGNED_STACK" Bundle.steD)) && decide (w ≠ .isRef (.static Bundle.tN "SUPPRESSED_SENTINEL" Bundle.listD)) && decide (w ≠ .laysStatic Bundle.tN "UNASSIGNED_STACK" Bundle.steD) && decide (w ≠ .laysStatic Bundle.tN "SUPPRESSED_SENTINEL" Bundle.listD)
def vx_at0 (own : String) (ic : Nat) (X : String) (names : List String) : List Cond := (Bundle.ownAtoms0 own ic X names).filter vx_no
def vx_atS (own : String) (ic : Nat) (X : String) (names : List String) : List Cond := (Bundle.ownAtoms own ic X names).filter vx_no
/-- a word that the tables alone decide, or a good one -/
def vx_ot (w : Cond) : Bool := w.onTables || goodWord w
theorem vx_ot_at {args a' : Array Value} {s U : State} {w : Cond} (hW : s.WarmedH U.vm) (hvm : s.vm = U.vm) (hg : vx_ot w = true) (h : w.before args s = true) : w.before a' U = true := by
  simp only [vx_ot, Bool.or_eq_true] at hg
  rcases hg with hg | hg
  · exact va_tabs hg hvm h
  · exact word_at hW (good_of_word hg) h
/-- a list's words: the good ones out of the method's own list, the others by premises of their own -/
theorem vx_hat {args : Array Value} {s : State} {L B : List Cond} (h1 : ∀ w ∈ L.filter goodWord, w.before args s = true) (h2 : ∀ w ∈ L.filter (fun w => !goodWord w), w ∈ B) (h3 : ∀ w ∈ B, w.before args s = true) : ∀ w ∈ L, w.before args s = true := by
  intro w hw
  by_cases g : goodWord w = true
  · exact h1 w (List.mem_filter.mpr ⟨hw, g⟩)
  · refine h3 w (h2 w (List.mem_filter.mpr ⟨hw, ?_⟩))
    show (!goodWord w) = true
    cases hgw : goodWord w
    · rfl
    · exact absurd hgw g
theorem vx_c {args : Array Value} {s : State} {w : Cond} {B : List Cond} (h : w.before args s = true) (t : ∀ w ∈ B, w.before args s = true) : ∀ w' ∈ w :: B, w'.before args s = true := fun w' h' => (List.mem_cons.mp h').elim (fun e => by rw [e]; exact h) (t w')
theorem vx_n {args : Array Value} {s : State} : ∀ w ∈ ([] : List Cond), w.before args s = true := fun _ h => nomatch h
theorem vx_own {args : Array Value} {s : State} {L : List Cond} (h1 : ∀ w ∈ L.filter vx_no, w.before args s = true)
    (hU : (Cond.isRef (.static Bundle.tN "UNASSIGNED_STACK" Bundle.steD)).before args s = true) (hN : (Cond.isRef (.static Bundle.tN "SUPPRESSED_SENTINEL" Bundle.listD)).before args s = true)
    (lU : (Cond.laysStatic Bundle.tN "UNASSIGNED_STACK" Bundle.steD).before args s = true) (lN : (Cond.laysStatic Bundle.tN "SUPPRESSED_SENTINEL" Bundle.listD).before args s = true) : ∀ w ∈ L, w.before args s = true := by
  intro w hw
  by_cases e1 : w = .isRef (.static Bundle.tN "UNASSIGNED_STACK" Bundle.steD)
  · rw [e1]; exact hU
  · by_cases e2 : w = .isRef (.static Bundle.tN "SUPPRESSED_SENTINEL" Bundle.listD)
    · rw [e2]; exact hN
    · by_cases e3 : w = .laysStatic Bundle.tN "UNASSIGNED_STACK" Bundle.steD
      · rw [e3]; exact lU
      · by_cases e4 : w = .laysStatic Bundle.tN "SUPPRESSED_SENTINEL" Bundle.listD
        · rw [e4]; exact lN
        · exact h1 w (List.mem_filter.mpr ⟨hw, by unfold vx_no; rw [decide_eq_true e1, decide_eq_true e2, decide_eq_true e3, decide_eq_true e4]; rfl⟩)
/-- where a static field lies, its class's statics cell in H -/
def vx_L (C n d : String) (A : Nat → Prop) (U : State) (H : Heap) : Prop := ∃ (c : ClassId) (k : Class) (i : Nat) (f : Field) (a : Nat) (cell : Cell), U.vm.findClass C = some c ∧ U.fieldFound? C n d = some (c, k, i, f) ∧ f.isStatic = true ∧ k.statics = some a ∧ H[a]? = some cell ∧ cell.vm.isStatics = true ∧ cell.cls = c ∧ f.slot < cell.slots.size ∧ k.staticTypes[f.slot]? = some f.type ∧ ¬ A a
theorem vx_L.moved {C n d : String} {A : Nat → Prop} {u U : State} {H : Heap} (hvm : u.vm.Alike U.vm) (h : vx_L C n d A u H) : vx_L C n d A U H := by
  obtain ⟨c, k, i, f, a, cell, h1, h2, h3, h4, h5, h6, h7, h8, h9, h10⟩ := h
  obtain ⟨k', hi', he⟩ := State.fieldFound?_setVm hvm h2
  exact ⟨c, k', i, f, a, cell, by rw [hvm.findClass]; exact h1, hi', h3, by rw [he]; exact h4, h5, h6, h7, h8, by rw [he]; exact h9, h10⟩
theorem vx_L.kept {C n d : String} {A : Nat → Prop} {U : State} {H H1 : Heap} (h : vx_L C n d A U H) (hq : ∀ a : Nat, a < H.size → ¬ A a → H1[a]? = H[a]?) : vx_L C n d A U H1 := by
  obtain ⟨c, k, i, f, a, cell, h1, h2, h3, h4, h5, h6, h7, h8, h9, h10⟩ := h
  exact ⟨c, k, i, f, a, cell, h1, h2, h3, h4, by rw [hq a (Array.getElem?_eq_some_iff.mp h5).1 h10]; exact h5, h6, h7, h8, h9, h10⟩
theorem vx_L.narrow {C n d : String} {A B : Nat → Prop} {U : State} {H : Heap} (h : vx_L C n d A U H) (hAB : ∀ q, B q → A q) : vx_L C n d B U H := by
  obtain ⟨c, k, i, f, a, cell, h1, h2, h3, h4, h5, h6, h7, h8, h9, h10⟩ := h
  exact ⟨c, k, i, f, a, cell, h1, h2, h3, h4, h5, h6, h7, h8, h9, fun z => h10 (hAB _ z)⟩
theorem vx_L.word {C n d : String} {A : Nat → Prop} {s : State} {args : Array Value} (h : vx_L C n d A s s.heap) : (Cond.laysStatic C n d).before args s = true := by
  obtain ⟨c, k, i, f, a, cell, h1, h2, h3, h4, h5, h6, h7, h8, h9, -⟩ := h
  show (Cond.laysStatic C n d).holds args s none s [] = true
  exact Cond.laysStatic_of h1 h2 h3 h4 h5 h6 h7 h8 h9
/-- .. and what it holds: null or some reference -/
def vx_Zq (C n d : String) (A : Nat → Prop) (U : State) (H : Heap) : Prop := va_Zq C n d A U H ∧ vx_L C n d A U H
theorem vx_Zq.moved {C n d : String} {A : Nat → Prop} {u U : State} {H : Heap} (hvm : u.vm.Alike U.vm) (h : vx_Zq C n d A u H) : vx_Zq C n d A U H := ⟨va_Zq.moved hvm h.1, vx_L.moved hvm h.2⟩
theorem vx_Zq.kept {C n d : String} {A : Nat → Prop} {U : State} {H H1 : Heap} (h : vx_Zq C n d A U H) (hq : ∀ a : Nat, a < H.size → ¬ A a → H1[a]? = H[a]?) : vx_Zq C n d A U H1 := ⟨va_Zq.kept h.1 hq, vx_L.kept h.2 hq⟩
theorem vx_Zq.narrow {C n d : String} {A B : Nat → Prop} {U : State} {H : Heap} (h : vx_Zq C n d A U H) (hAB : ∀ q, B q → A q) : vx_Zq C n d B U H := ⟨va_Zq.narrow h.1 hAB, vx_L.narrow h.2 hAB⟩
theorem vx_Zqof {args : Array Value} {s : State} {C n d : String} {A : Nat → Prop} (hl : (Cond.laysStatic C n d).before args s = true) (hini : (Cond.initialized C).before args s = true) (h : (Cond.isRef (.static C n d)).before args s = true) (hA : ∀ a : Nat, a < s.heap.size → ¬ A a) : vx_Zq C n d A s s.heap := by
  refine ⟨va_Zqof hl hini h hA, ?_⟩
  obtain ⟨c, k, i, f, a, cell, h1, h2, h3, h4, h5, h6, h7, h8, h9⟩ := Cond.laysStatic_spec hl
  exact ⟨c, k, i, f, a, cell, h1, h2, h3, h4, h5, h6, h7, h8, h9, hA a (Array.getElem?_eq_some_iff.mp h5).1⟩
theorem vx_isRef {C n d : String} {v : Value} {A : Nat → Prop} {s : State} {args : Array Value} (h : va_Z C n d v A s s.heap) (hv : v.isRef = true) : (Cond.isRef (.static C n d)).before args s = true := by
  obtain ⟨cf, kf, fi, f, a, cell, h1, h2, h3, h4, h5, h6, h7, -⟩ := h
  have he : (Term.static C n d).eval args s none [] s = some v := by
    simp [Term.eval, State.fieldNamed?, h1, h2, h4, h5, h6, h7]
  simp only [Cond.before, Cond.holds, Cond.value, he]
  cases v <;> simp_all [Value.isRef]
theorem vx_isRefq {C n d : String} {A : Nat → Prop} {s : State} {args : Array Value} (h : va_Zq C n d A s s.heap) : (Cond.isRef (.static C n d)).before args s = true := by
  rcases h with h | ⟨t, h⟩
  · exact vx_isRef h rfl
  · exact vx_isRef h rfl
/-- the same frame, seen from here: as if the method were called anew in this heap -/
theorem vx_rebase {T : State} (X : Stand p l e R s m args below meth c T locs cells slots) {R' : Room} (hf : R'.frames ≤ R.frames) (hl : R'.locals ≤ R.locals) (hc : cells + R'.cells ≤ R.cells) (hs : slots + R'.slots ≤ R.slots) :
    Stand p l e R' ((T.setVm s.vm).setFrames (.invoking m args :: below)) m args below meth c T [] 0 0 := by
  have htop : (T.setVm s.vm).topJava?.isSome := X.here.top
  have hF : ((T.setVm s.vm).setFrames (.invoking m args :: below)).frames = .invoking m args :: below := State.frames_setFrames _ (State.cur_lt_of_top htop)
  obtain ⟨g₀, hg0⟩ := Option.isSome_iff_exists.mp htop
  obtain ⟨r, hr⟩ := State.topJava?_eq_some.mp hg0
  have hl9 : e.platform.stackLimits (T.setVm s.vm).me = e.platform.stackLimits s.me := X.limits
  have hb9 : (T.setVm s.vm).me.stackBytes = s.me.stackBytes := X.bytes
  refine ⟨X.admits, X.cas, X.clock, hF, ?_, X.hears, X.method, X.code, X.here, X.tail, X.warmed, ?_, ?_, ?_⟩
  · have h := X.room
    have hU : ((T.setVm s.vm).setFrames (.invoking m args :: below)).localsInUse = s.localsInUse := by
      rw [State.localsInUse_invoking hF (meth := meth) (c := c) X.method X.code, State.localsInUse_invoking X.frames X.method X.code]
    simp only [State.hasRoom, Bool.and_eq_true, decide_eq_true_eq] at h ⊢
    obtain ⟨⟨⟨⟨h1, h2, h3, h4, h5, h6⟩, h7⟩, h8⟩, h9⟩ := h
    rw [X.frames, List.length_cons] at h2 h3
    have q1 := X.heapSize
    have q2 := X.used
    simp only [hF, hU, List.length_cons, State.stackLimits_setFrames, State.stackBytes_setFrames, hl9, hb9]
    refine ⟨⟨⟨⟨by omega, by omega, by omega, by omega, by omega, h6⟩, ?_⟩, ?_⟩, X.book⟩
    · show T.heap.size + R'.cells ≤ e.platform.maxCells
      omega
    · show T.slotsUsed + R'.slots ≤ e.platform.maxSlots
      omega
  · rw [State.stackLimits_setFrames]; rfl
  · rw [State.stackBytes_setFrames]; rfl
  · refine ⟨?_, Nat.le_refl _, Nat.le_refl _, ?_, ?_, fun a c9 h9 => ⟨c9, h9, rfl, rfl, fun _ _ => rfl⟩⟩
    · obtain ⟨t, ht, -⟩ := State.frames_cons hr
      show T.setVm s.vm = { ((T.setVm s.vm).setFrames (.invoking m args :: below)).setFrames (T.setVm s.vm).frames with heap := T.heap, slotsUsed := T.slotsUsed }
      rw [State.setFrames_setFrames, State.setFrames_self ht]
      rfl
    · show T.slotsUsed = T.slotsUsed + ((T.heap.toList.drop T.heap.size).map (·.slots.size)).sum
      rw [List.drop_eq_nil_of_le (Nat.le_of_eq Array.length_toList)]
      rfl
    · show ((T.heap.toList.drop T.heap.size).map (·.slots.size)).sum ≤ 0
      rw [List.drop_eq_nil_of_le (Nat.le_of_eq Array.length_toList)]
      exact Nat.le_refl _
/-- 'throw new E()': new; dup; invokespecial; athrow -/
theorem vx_throw0 {cc : ByteArray} {pc : Nat} (hexec : p.tables.exec = Jvm.exec) (hb : c.code = cc) (hl : l.stackTraces = false) {own cls : String} {names : List String} {ik ic mc ms : Nat} {A : Nat → Prop}
    (hown : s.vm.findClass own = some m.cls) (hcls : Bundle.fit cls = true) (hnames : ∀ n ∈ names, Bundle.fit n = true)
    (hk : (Cond.classLink own ik cls).before args s = true) (hini : (Cond.initialized cls).before args s = true) (hat : ∀ w ∈ vx_at0 own ic cls names, w.before args s = true)
    (hgood : ∀ w ∈ Cond.classLink own ik cls :: Cond.initialized cls :: vx_at0 own ic cls names, vx_ot w = true)
    (hU : vx_Zq Bundle.tN "UNASSIGNED_STACK" Bundle.steD A s s.heap) (hN : vx_Zq Bundle.tN "SUPPRESSED_SENTINEL" Bundle.listD A s s.heap) (hS : va_S A s.heap H locs) (hsize : ls.size = c.maxLocals)
    (d0 : decode cc pc = .ok (.new ik, 3)) (d3 : decode cc (pc + 3) = .ok (.dup, 1)) (d4 : decode cc (pc + 4) = .ok (.invokespecial ic, 3)) (d7 : decode cc (pc + 7) = .ok (.athrow, 1))
    (hout : ∀ x ∈ c.exceptionTable.toList, covers x (pc + 7) = false)
    (hRframes : names.length + 3 < R.frames) (hRlocals : (rest.map fun v => v.category).sum + (13 * (names.length + 1) + 42) ≤ R.locals) (hRcells : cells + 1 ≤ R.cells) (hRslots : slots + 6 ≤ R.slots) (hlocks : meth.locks = false)
    (hx : ∀ t : State, s.vm.Alike t.vm → H.size ≤ t.heap.size → (∀ q : Nat, q < H.size → t.heap[q]? = H[q]?) → XC cls s t)
    (hf : ∀ z ∈ locs, free z.base) (hc : cells + 1 ≤ mc) (hs : slots + 6 ≤ ms) :
    W p l e R s m args below meth c H locs cells slots (vx_MQ below Qc XC args s mc ms free) (F0 m pc ls rest) := by
  intro T hT X
  have htr : e.platform.stackTraces = false := (show e.platform.stackTraces = l.stackTraces by rw [X.admits.platform]).trans hl
  have Y := vx_rebase X (R' := { frames := R.frames, locals := R.locals, cells := 1, slots := 6 }) (Nat.le_refl _) (Nat.le_refl _) hRcells hRslots
  obtain ⟨s', hA⟩ : ∃ z, z = (T.setVm s.vm).setFrames (.invoking m args :: below) := ⟨_, rfl⟩
  rw [← hA] at Y
  have hvm : s'.vm = s.vm := by rw [hA]; rfl
  have hhp : s'.heap = H := by rw [hA]; exact hT
  have hW0 : s.WarmedH s'.vm := by rw [hvm]; exact State.WarmedH.refl s
  have hat' : ∀ w ∈ vx_at0 own ic cls names, w.before args s' = true := fun w hw => vx_ot_at hW0 hvm.symm (hgood w (List.mem_cons_of_mem _ (List.mem_cons_of_mem _ hw))) (hat w hw)
  have hk' : (Cond.classLink own ik cls).before args s' = true := vx_ot_at hW0 hvm.symm (hgood _ List.mem_cons_self) hk
  have hini' : (Cond.initialized cls).before args s' = true := vx_ot_at hW0 hvm.symm (hgood _ (List.mem_cons_of_mem _ List.mem_cons_self)) hini
  have hU' : vx_Zq Bundle.tN "UNASSIGNED_STACK" Bundle.steD A s' s'.heap := by rw [hhp]; exact vx_Zq.moved hW0.alike (hU.kept hS.2.1)
  have hN' : vx_Zq Bundle.tN "SUPPRESSED_SENTINEL" Bundle.listD A s' s'.heap := by rw [hhp]; exact vx_Zq.moved hW0.alike (hN.kept hS.2.1)
  have h : ∀ w ∈ Bundle.ownAtoms0 own ic cls names, w.before args s' = true := vx_own hat' (vx_isRefq hU'.1) (vx_isRefq hN'.1) hU'.2.word hN'.2.word
  have hown' : s'.vm.findClass own = some m.cls := by rw [hvm]; exact hown
  have hins : (Cond.instantiable cls 6).before args s' = true := h _ (by simp [Bundle.ownAtoms0])
  obtain ⟨vm₁, cX, kX, hfX, hkX, -, -, X₁, st1⟩ := Y.newCold hexec (own := own) (C := cls) (index := ik) (n := 6) hown' hk' hins hini'
    (g := F0 m pc ls rest) rfl (by rw [hb]; exact d0) (Nat.le_refl _) (Nat.le_refl _)
  generalize hT1 : (T.setVm vm₁).pushCell { cls := cX, slots := kX.instanceTypes.map defaultValue, vm := .none } = T1 at X₁ st1
  have hcat : (Value.ref T.heap.size).category = 1 := rfl
  have hcellA : T1.heap[T.heap.size]? = some (freshCell cX kX) := by rw [← hT1]; exact State.heap_pushCell_size _ _
  have d3' : decode c.code (pc + 3) = .ok (.dup, 1) := by rw [hb]; exact d3
  obtain ⟨U, hsteps, hrun, hend, hW, hsame, ce, hce, hO⟩ := X₁.ctorThrow0 hexec htr (own := own) (cls := cls) (names := names) (ic := ic) hown' hcls hnames h (fun x hx => nomatch hx) hfX hkX hcellA (by rw [hhp, hT]; exact Nat.le_refl _)
    (g := { method := m, pc := pc + 4, locals := ls, stack := .ref T.heap.size :: .ref T.heap.size :: rest, locked := none }) rfl hsize rfl rfl (rest := rest) rfl
    (by rw [hb]; exact d4) (by rw [hb]; exact d7) hout hRframes (by simp only [List.map_cons, List.sum_cons, hcat]; omega) hlocks
  obtain ⟨f1, f2⟩ := vx_frame hsame
  rw [hhp] at f1 f2
  have hWs : s.WarmedH U.vm := State.WarmedH.trans hW0 hW
  have hcl : s.vm.findClass cls = some ce.cls := by
    have h9 := hO.cls
    rw [hvm] at h9
    exact h9
  have hall : s.sameButNew ({ U with vm := s.vm } : State) locs mc ms := by
    subst hA
    obtain ⟨e1, e2⟩ := hsame
    rw [State.setFrames_setFrames] at e1
    have h2 : (T.setVm s.vm).sameButNew ({ U with vm := s.vm } : State) [] (0 + 1) (0 + 6) := ⟨e1, e2⟩
    have h3 := X.same.trans h2
    rw [List.append_nil] at h3
    exact h3.mono hc hs
  refine ⟨U, ?_, .threw T.heap.size, hrun, hend, Or.inr ⟨T.heap.size, rfl, cls, ce, locs, hx U hWs.alike f1 (fun q hq => f2 q hq (fun z hz => nomatch hz)), hce, hO.vm, hcl, hWs, hall, hf⟩⟩
  refine st1 _ ?_
  show Steps p.tables e below (T1.setTop { method := m, pc := pc + 3, locals := ls, stack := .ref T.heap.size :: rest, locked := none }) _
  jvm_step X₁.here [X₁.here.top, hexec, d3', Value.category]
  exact hsteps
/-- 'throw new E("text")': new; dup; ldc; invokespecial; athrow -/
theorem vx_throwS {cc : ByteArray} {pc : Nat} (hexec : p.tables.exec = Jvm.exec) (hb : c.code = cc) (hl : l.stackTraces = false) {own cls text : String} {names : List String} {ik is ic mc ms sa : Nat} {A : Nat → Prop}
    (hown : s.vm.findClass own = some m.cls) (hcls : Bundle.fit cls = true) (hnames : ∀ n ∈ names, Bundle.fit n = true)
    (hk : (Cond.classLink own ik cls).before args s = true) (hini : (Cond.initialized cls).before args s = true) (hstr : vk_R own is text sa s) (hat : ∀ w ∈ vx_atS own ic cls names, w.before args s = true)
    (hgood : ∀ w ∈ Cond.classLink own ik cls :: Cond.initialized cls :: vx_atS own ic cls names, vx_ot w = true)
    (hU : vx_Zq Bundle.tN "UNASSIGNED_STACK" Bundle.steD A s s.heap) (hN : vx_Zq Bundle.tN "SUPPRESSED_SENTINEL" Bundle.listD A s s.heap) (hS : va_S A s.heap H locs) (hsize : ls.size = c.maxLocals)
    (d0 : decode cc pc = .ok (.new ik, 3)) (d3 : decode cc (pc + 3) = .ok (.dup, 1)) (d4 : decode cc (pc + 4) = .ok (.ldc is, 2)) (d6 : decode cc (pc + 6) = .ok (.invokespecial ic, 3)) (d9 : decode cc (pc + 9) = .ok (.athrow, 1))
    (hout : ∀ x ∈ c.exceptionTable.toList, covers x (pc + 9) = false)
    (hRframes : names.length + 3 < R.frames) (hRlocals : (rest.map fun v => v.category).sum + (13 * (names.length + 1) + 43) ≤ R.locals) (hRcells : cells + 1 ≤ R.cells) (hRslots : slots + 6 ≤ R.slots) (hlocks : meth.locks = false)
    (hx : ∀ t : State, s.vm.Alike t.vm → H.size ≤ t.heap.size → (∀ q : Nat, q < H.size → t.heap[q]? = H[q]?) → XC cls s t)
    (hf : ∀ z ∈ locs, free z.base) (hc : cells + 1 ≤ mc) (hs : slots + 6 ≤ ms) :
    W p l e R s m args below meth c H locs cells slots (vx_MQ below Qc XC args s mc ms free) (F0 m pc ls rest) := by
  intro T hT X
  have htr : e.platform.stackTraces = false := (show e.platform.stackTraces = l.stackTraces by rw [X.admits.platform]).trans hl
  have Y := vx_rebase X (R' := { frames := R.frames, locals := R.locals, cells := 1, slots := 6 }) (Nat.le_refl _) (Nat.le_refl _) hRcells hRslots
  obtain ⟨s', hA⟩ : ∃ z, z = (T.setVm s.vm).setFrames (.invoking m args :: below) := ⟨_, rfl⟩
  rw [← hA] at Y
  have hvm : s'.vm = s.vm := by rw [hA]; rfl
  have hhp : s'.heap = H := by rw [hA]; exact hT
  have hW0 : s.WarmedH s'.vm := by rw [hvm]; exact State.WarmedH.refl s
  have hat' : ∀ w ∈ vx_atS own ic cls names, w.before args s' = true := fun w hw => vx_ot_at hW0 hvm.symm (hgood w (List.mem_cons_of_mem _ (List.mem_cons_of_mem _ hw))) (hat w hw)
  have hk' : (Cond.classLink own ik cls).before args s' = true := vx_ot_at hW0 hvm.symm (hgood _ List.mem_cons_self) hk
  have hini' : (Cond.initialized cls).before args s' = true := vx_ot_at hW0 hvm.symm (hgood _ (List.mem_cons_of_mem _ List.mem_cons_self)) hini
  have hU' : vx_Zq Bundle.tN "UNASSIGNED_STACK" Bundle.steD A s' s'.heap := by rw [hhp]; exact vx_Zq.moved hW0.alike (hU.kept hS.2.1)
  have hN' : vx_Zq Bundle.tN "SUPPRESSED_SENTINEL" Bundle.listD A s' s'.heap := by rw [hhp]; exact vx_Zq.moved hW0.alike (hN.kept hS.2.1)
  have h : ∀ w ∈ Bundle.ownAtoms own ic cls names, w.before args s' = true := vx_own hat' (vx_isRefq hU'.1) (vx_isRefq hN'.1) hU'.2.word hN'.2.word
  have hown' : s'.vm.findClass own = some m.cls := by rw [hvm]; exact hown
  have hins : (Cond.instantiable cls 6).before args s' = true := h _ (by simp [Bundle.ownAtoms])
  obtain ⟨vm₁, cX, kX, hfX, hkX, -, -, X₁, st1⟩ := Y.newCold hexec (own := own) (C := cls) (index := ik) (n := 6) hown' hk' hins hini'
    (g := F0 m pc ls rest) rfl (by rw [hb]; exact d0) (Nat.le_refl _) (Nat.le_refl _)
  generalize hT1 : (T.setVm vm₁).pushCell { cls := cX, slots := kX.instanceTypes.map defaultValue, vm := .none } = T1 at X₁ st1
  have hcat : (Value.ref T.heap.size).category = 1 := rfl
  have hcellA : T1.heap[T.heap.size]? = some (freshCell cX kX) := by rw [← hT1]; exact State.heap_pushCell_size _ _
  have d3' : decode c.code (pc + 3) = .ok (.dup, 1) := by rw [hb]; exact d3
  have d4' : decode c.code (pc + 4) = .ok (.ldc is, 2) := by rw [hb]; exact d4
  have hstr' : vk_R own is text sa s' := vk_R.warm hW0 hstr
  obtain ⟨U, hsteps, hrun, hend, hW, hsame, ce, hce, hO⟩ := X₁.ctorThrowS hexec htr (own := own) (cls := cls) (names := names) (ic := ic) hown' hcls hnames h (fun x hx => nomatch hx) hfX hkX hcellA (by rw [hhp, hT]; exact Nat.le_refl _) (msg := .ref sa) rfl
    (g := { method := m, pc := pc + 6, locals := ls, stack := .ref sa :: .ref T.heap.size :: .ref T.heap.size :: rest, locked := none }) rfl hsize rfl rfl (rest := rest) rfl
    (by rw [hb]; exact d6) (by rw [hb]; exact d9) hout hRframes (by simp only [List.map_cons, List.sum_cons, hcat]; omega) hlocks
  obtain ⟨f1, f2⟩ := vx_frame hsame
  rw [hhp] at f1 f2
  have hWs : s.WarmedH U.vm := State.WarmedH.trans hW0 hW
  have hcl : s.vm.findClass cls = some ce.cls := by
    have h9 := hO.cls
    rw [hvm] at h9
    exact h9
  have hall : s.sameButNew ({ U with vm := s.vm } : State) locs mc ms := by
    subst hA
    obtain ⟨e1, e2⟩ := hsame
    rw [State.setFrames_setFrames] at e1
    have h2 : (T.setVm s.vm).sameButNew ({ U with vm := s.vm } : State) [] (0 + 1) (0 + 6) := ⟨e1, e2⟩
    have h3 := X.same.trans h2
    rw [List.append_nil] at h3
    exact h3.mono hc hs
  refine ⟨U, ?_, .threw T.heap.size, hrun, hend, Or.inr ⟨T.heap.size, rfl, cls, ce, locs, hx U hWs.alike f1 (fun q hq => f2 q hq (fun z hz => nomatch hz)), hce, hO.vm, hcl, hWs, hall, hf⟩⟩
  refine st1 _ ?_
  show Steps p.tables e below (T1.setTop { method := m, pc := pc + 3, locals := ls, stack := .ref T.heap.size :: rest, locked := none }) _
  jvm_step X₁.here [X₁.here.top, hexec, d3', Value.category]
  exact X₁.ldcString hexec (own := own) (text := text) (index := is) (a := sa) hown' hstr'.1 hstr'.2
    (g := { method := m, pc := pc + 4, locals := ls, stack := .ref T.heap.size :: .ref T.heap.size :: rest, locked := none }) rfl d4' _ hsteps
/-- 'throw new E("text")', the text by a wide index -/
theorem vx_throwSW {cc : ByteArray} {pc : Nat} (hexec : p.tables.exec = Jvm.exec) (hb : c.code = cc) (hl : l.stackTraces = false) {own cls text : String} {names : List String} {ik is ic mc ms sa : Nat} {A : Nat → Prop}
    (hown : s.vm.findClass own = some m.cls) (hcls : Bundle.fit cls = true) (hnames : ∀ n ∈ names, Bundle.fit n = true)
    (hk : (Cond.classLink own ik cls).before args s = true) (hini : (Cond.initialized cls).before args s = true) (hstr : vk_R own is text sa s) (hat : ∀ w ∈ vx_atS own ic cls names, w.before args s = true)
    (hgood : ∀ w ∈ Cond.classLink own ik cls :: Cond.initialized cls :: vx_atS own ic cls names, vx_ot w = true)
    (hU : vx_Zq Bundle.tN "UNASSIGNED_STACK" Bundle.steD A s s.heap) (hN : vx_Zq Bundle.tN "SUPPRESSED_SENTINEL" Bundle.listD A s s.heap) (hS : va_S A s.heap H locs) (hsize : ls.size = c.maxLocals)
    (d0 : decode cc pc = .ok (.new ik, 3)) (d3 : decode cc (pc + 3) = .ok (.dup, 1)) (d4 : decode cc (pc + 4) = .ok (.ldc_w is, 3)) (d7 : decode cc (pc + 7) = .ok (.invokespecial ic, 3)) (d10 : decode cc (pc + 10) = .ok (.athrow, 1))
    (hout : ∀ x ∈ c.exceptionTable.toList, covers x (pc + 10) = false)
    (hRframes : names.length + 3 < R.frames) (hRlocals : (rest.map fun v => v.category).sum + (13 * (names.length + 1) + 43) ≤ R.locals) (hRcells : cells + 1 ≤ R.cells) (hRslots : slots + 6 ≤ R.slots) (hlocks : meth.locks = false)
    (hx : ∀ t : State, s.vm.Alike t.vm → H.size ≤ t.heap.size → (∀ q : Nat, q < H.size → t.heap[q]? = H[q]?) → XC cls s t)
    (hf : ∀ z ∈ locs, free z.base) (hc : cells + 1 ≤ mc) (hs : slots + 6 ≤ ms) :
    W p l e R s m args below meth c H locs cells slots (vx_MQ below Qc XC args s mc ms free) (F0 m pc ls rest) := by
  intro T hT X
  have htr : e.platform.stackTraces = false := (show e.platform.stackTraces = l.stackTraces by rw [X.admits.platform]).trans hl
  have Y := vx_rebase X (R' := { frames := R.frames, locals := R.locals, cells := 1, slots := 6 }) (Nat.le_refl _) (Nat.le_refl _) hRcells hRslots
  obtain ⟨s', hA⟩ : ∃ z, z = (T.setVm s.vm).setFrames (.invoking m args :: below) := ⟨_, rfl⟩
  rw [← hA] at Y
  have hvm : s'.vm = s.vm := by rw [hA]; rfl
  have hhp : s'.heap = H := by rw [hA]; exact hT
  have hW0 : s.WarmedH s'.vm := by rw [hvm]; exact State.WarmedH.refl s
  have hat' : ∀ w ∈ vx_atS own ic cls names, w.before args s' = true := fun w hw => vx_ot_at hW0 hvm.symm (hgood w (List.mem_cons_of_mem _ (List.mem_cons_of_mem _ hw))) (hat w hw)
  have hk' : (Cond.classLink own ik cls).before args s' = true := vx_ot_at hW0 hvm.symm (hgood _ List.mem_cons_self) hk
  have hini' : (Cond.initialized cls).before args s' = true := vx_ot_at hW0 hvm.symm (hgood _ (List.mem_cons_of_mem _ List.mem_cons_self)) hini
  have hU' : vx_Zq Bundle.tN "UNASSIGNED_STACK" Bundle.steD A s' s'.heap := by rw [hhp]; exact vx_Zq.moved hW0.alike (hU.kept hS.2.1)
  have hN' : vx_Zq Bundle.tN "SUPPRESSED_SENTINEL" Bundle.listD A s' s'.heap := by rw [hhp]; exact vx_Zq.moved hW0.alike (hN.kept hS.2.1)
  have h : ∀ w ∈ Bundle.ownAtoms own ic cls names, w.before args s' = true := vx_own hat' (vx_isRefq hU'.1) (vx_isRefq hN'.1) hU'.2.word hN'.2.word
  have hown' : s'.vm.findClass own = some m.cls := by rw [hvm]; exact hown
  have hins : (Cond.instantiable cls 6).before args s' = true := h _ (by simp [Bundle.ownAtoms])
  obtain ⟨vm₁, cX, kX, hfX, hkX, -, -, X₁, st1⟩ := Y.newCold hexec (own := own) (C := cls) (index := ik) (n := 6) hown' hk' hins hini'
    (g := F0 m pc ls rest) rfl (by rw [hb]; exact d0) (Nat.le_refl _) (Nat.le_refl _)
  generalize hT1 : (T.setVm vm₁).pushCell { cls := cX, slots := kX.instanceTypes.map defaultValue, vm := .none } = T1 at X₁ st1
  have hcat : (Value.ref T.heap.size).category = 1 := rfl
  have hcellA : T1.heap[T.heap.size]? = some (freshCell cX kX) := by rw [← hT1]; exact State.heap_pushCell_size _ _
  have d3' : decode c.code (pc + 3) = .ok (.dup, 1) := by rw [hb]; exact d3
  have d4' : decode c.code (pc + 4) = .ok (.ldc_w is, 3) := by rw [hb]; exact d4
  have hstr' : vk_R own is text sa s' := vk_R.warm hW0 hstr
  obtain ⟨U, hsteps, hrun, hend, hW, hsame, ce, hce, hO⟩ := X₁.ctorThrowS hexec htr (own := own) (cls := cls) (names := names) (ic := ic) hown' hcls hnames h (fun x hx => nomatch hx) hfX hkX hcellA (by rw [hhp, hT]; exact Nat.le_refl _) (msg := .ref sa) rfl
    (g := { method := m, pc := pc + 7, locals := ls, stack := .ref sa :: .ref T.heap.size :: .ref T.heap.size :: rest, locked := none }) rfl hsize rfl rfl (rest := rest) rfl
    (by rw [hb]; exact d7) (by rw [hb]; exact d10) hout hRframes (by simp only [List.map_cons, List.sum_cons, hcat]; omega) hlocks
  obtain ⟨f1, f2⟩ := vx_frame hsame
  rw [hhp] at f1 f2
  have hWs : s.WarmedH U.vm := State.WarmedH.trans hW0 hW
  have hcl : s.vm.findClass cls = some ce.cls := by
    have h9 := hO.cls
    rw [hvm] at h9
    exact h9
  have hall : s.sameButNew ({ U with vm := s.vm } : State) locs mc ms := by
    subst hA
    obtain ⟨e1, e2⟩ := hsame
    rw [State.setFrames_setFrames] at e1
    have h2 : (T.setVm s.vm).sameButNew ({ U with vm := s.vm } : State) [] (0 + 1) (0 + 6) := ⟨e1, e2⟩
    have h3 := X.same.trans h2
    rw [List.append_nil] at h3
    exact h3.mono hc hs
  refine ⟨U, ?_, .threw T.heap.size, hrun, hend, Or.inr ⟨T.heap.size, rfl, cls, ce, locs, hx U hWs.alike f1 (fun q hq => f2 q hq (fun z hz => nomatch hz)), hce, hO.vm, hcl, hWs, hall, hf⟩⟩
  refine st1 _ ?_
  show Steps p.tables e below (T1.setTop { method := m, pc := pc + 3, locals := ls, stack := .ref T.heap.size :: rest, locked := none }) _
  jvm_step X₁.here [X₁.here.top, hexec, d3', Value.category]
  exact X₁.ldcStringW hexec (own := own) (text := text) (index := is) (a := sa) hown' hstr'.1 hstr'.2
    (g := { method := m, pc := pc + 4, locals := ls, stack := .ref T.heap.size :: .ref T.heap.size :: rest, locked := none }) rfl d4' _ hsteps
end Ends
section Bodies
variable {l : Launch}
theorem vx_ofW {y : MethodName} {ws ws' : List Cond} {rm : Room} {Pc : Array Value → State → Prop} {Qc : Array Value → State → Outcome → State → Prop} {XC : String → State → State → Prop} {mc ms : Nat} {free : Addr → Prop} {cc : ByteArray} {maxL : Nat} {ret : Option FieldType}
    (hy : plainName y.cls = true) (hw : ws = Cond.code y cc maxL ret :: ws')
    (body : ∀ p e s m args below meth c s₁, BodyLoose p l y (headSpec ws rm) cc maxL ret e s m args below meth c s₁ → c.maxLocals = maxL → (∀ x ∈ c.exceptionTable.toList, False) → Pc args s →
      W p l e (headSpec ws rm).room s m args below meth c s.heap [] 0 0 (vx_MQ below Qc XC args s mc ms free) (entryFrame m args maxL)) : vx_Met l y ws rm Pc Qc XC mc ms free := by
  refine MetFree.of_bodyS (code := cc) (maxLocals := maxL) (ret := ret) hy ?_ ?_
  · intro args s m h hn
    obtain ⟨meth, c, h1, h2, h3, h4, h5, h6, -, -⟩ := Cond.code_spec hn (atoms_spec (ws := ws) h _ (by rw [hw]; exact List.mem_cons_self))
    exact ⟨meth, c, h1, h2, h3, h4, h5, h6⟩
  · intro p e s m args below meth c s₁ B hml hP _
    have hh0 : s₁.heap = s.heap := by rw [B.state]; rfl
    have ht : ∀ x ∈ c.exceptionTable.toList, False := by
      obtain ⟨meth9, c9, h1, h2, -, -, -, -, h7, -⟩ := Cond.code_spec B.named (atoms_spec (ws := ws) B.pre _ (by rw [hw]; exact List.mem_cons_self))
      cases Option.some.inj (h1.symm.trans B.method)
      cases Option.some.inj (h2.symm.trans (Stand.of_body B).code)
      intro x hx
      rw [Array.isEmpty_iff.mp h7] at hx
      cases hx
    obtain ⟨t, a1, o, b1, b2, b3⟩ := body p e s m args below meth c s₁ B hml ht hP s₁ hh0 (Stand.of_body B)
    exact ⟨t, o, a1, b1, b2, b3⟩
/-- the table of a body with handlers -/
theorem vx_table {p : Program} {x y : MethodName} {S : Spec} {cc bytes : ByteArray} {maxL maxL' : Nat} {ret ret' : Option FieldType} {e : Env} {s s₁ : State} {m : MethodId} {args : Array Value} {below : List Frame} {meth : Method} {c : Code} {hh : List (Nat × Nat × Nat × Nat)}
    (B : BodyLoose p l y S cc maxL ret e s m args below meth c s₁) (h : (Cond.codeWith y bytes maxL' ret' hh).before args s = true) : c.exceptionTable.toList = tableOf hh := by
  obtain ⟨m9, meth9, c9, hn9, h1, h2, -, -, h6, -⟩ := Cond.codeWith_spec h
  cases Option.some.inj (hn9.symm.trans B.named)
  cases Option.some.inj (h1.symm.trans B.method)
  cases Option.some.inj (h2.symm.trans (Stand.of_body B).code)
  rw [← h6, table_eq]
end Bodies
end VXA
/-! ===== END ===== -/
/-! ===== BEGIN a static call of a method with an exception table ===== -/
section VXS
variable {p : Program} {l : Launch} {e : Env} {R : Room} {s : State} {m : MethodId} {args : Array Value} {below : List Frame} {meth : Method} {c : Code} {T : State} {H : Heap} {locs : List Loc} {cells slots : Nat}
abbrev vx_CSW (R : Room) (s : State) (args : Array Value) (own : String) (index : Nat) (y : MethodName) (bytes : ByteArray) (maxL : Nat) (ret : Option FieldType) (hh : List (Nat × Nat × Nat × Nat)) (ws : List Cond) (rm : Room) (mc ms n : Nat) : Prop :=
  (rm.cells = mc ∧ rm.slots = ms ∧ rm.frames + 1 ≤ R.frames ∧ 8 + (maxL + 11) + rm.locals ≤ R.locals ∧ (∀ w ∈ ws, ∀ (a' : Array Value) (U : State), s.WarmedH U.vm → w.before a' U = true) ∧ Cond.codeWith y bytes maxL ret hh ∈ ws) ∧
  (Cond.codeWith y bytes maxL ret hh).before args s = true ∧ (Cond.initialized y.cls).before args s = true ∧ (y.cls ≠ "java/lang/invoke/MethodHandle" ∧ y.cls ≠ "java/lang/invoke/VarHandle") ∧
  (∀ sig, parseMethodDescriptor y.desc = some sig → n = sig.parameters.length) ∧ (Cond.methodLink own index y).before args s = true ∧ (Cond.static y).before args s = true
theorem vx_cwSW {own : String} {index maxL mc ms : Nat} {y : MethodName} {bytes : ByteArray} {ret : Option FieldType} {hh : List (Nat × Nat × Nat × Nat)} {Ts ws ws' : List Cond} {rm : Room} (n : Nat) (ht : ∀ w ∈ Ts, w.before args s = true) (hT : GoodIn Ts (va_wsS own index y ws)) (hw : ws = Cond.codeWith y bytes maxL ret hh :: ws') (hrc : rm.cells = mc) (hrs : rm.slots = ms)
    (hd : y.cls ≠ "java/lang/invoke/MethodHandle" ∧ y.cls ≠ "java/lang/invoke/VarHandle" ∧ (parseMethodDescriptor y.desc).map (fun d => d.parameters.length) = some n) (hR : rm.frames + 1 ≤ R.frames ∧ 8 + (maxL + 11) + rm.locals ≤ R.locals) :
    vx_CSW R s args own index y bytes maxL ret hh ws rm mc ms n := by
  have ok : ∀ w ∈ va_wsS own index y ws, w.before args s = true := fun w h => ht w (hT w h).1
  have hG : GoodIn Ts ws := fun w h => hT w (by unfold va_wsS; exact List.mem_append_right _ h)
  have hc : Cond.codeWith y bytes maxL ret hh ∈ ws := by rw [hw]; exact List.mem_cons_self
  refine ⟨⟨hrc, hrs, hR.1, hR.2, pay_in ht hG, hc⟩, ht _ (hG _ hc).1, ok _ (by simp [va_wsS]), ⟨hd.1, hd.2.1⟩, fun sig h => ?_, ok _ (by simp [va_wsS]), ok _ (by simp [va_wsS])⟩
  have h2 := hd.2.2
  rw [h] at h2
  exact (Option.some.inj h2).symm
theorem vx_callSW (X : Stand p l e R s m args below meth c T locs cells slots) (hexec : p.tables.exec = Jvm.exec) {own : String} {index : Nat} {y : MethodName} {bytes : ByteArray} {maxL : Nat} {ret : Option FieldType} {hh : List (Nat × Nat × Nat × Nat)}
    (hown : s.vm.findClass own = some m.cls) (hlink : (Cond.methodLink own index y).before args s = true) (hstat : (Cond.static y).before args s = true) (hinit : (Cond.initialized y.cls).before args s = true)
    (hcode : (Cond.codeWith y bytes maxL ret hh).before args s = true) (hy : y.cls ≠ "java/lang/invoke/MethodHandle" ∧ y.cls ≠ "java/lang/invoke/VarHandle")
    {W9 : Nat} {Pre : Pt → Array Value → Prop} {Post : Pt → Array Value → Option Value → Pt → Prop} (hK : Back l R p e below s args y 3 W9 Pre Post)
    {g : JFrame} (hg : g.method = m) (hsize : g.locals.size = c.maxLocals) {argsL rest : List Value} (hlen : ∀ sig, parseMethodDescriptor y.desc = some sig → argsL.length = sig.parameters.length)
    (hstack : g.stack = argsL.reverse ++ rest) (hW : 2 * g.monitorRoom + (rest.map fun v => v.category).sum ≤ W9) (hdg : decode c.code g.pc = .ok (.invokestatic index, 3))
    (hpre : ∀ vm₁, s.WarmedH vm₁ → Pre ⟨T.setVm vm₁, locs, cells, slots⟩ argsL.toArray) :
    ∃ (v : Option Value) (vm₁ : Vm) (B : Pt), s.WarmedH vm₁ ∧ Stand p l e R s m args below meth c B.U B.locs B.cells B.slots ∧ Post ⟨T.setVm vm₁, locs, cells, slots⟩ argsL.toArray v B ∧
      ∀ target, Steps p.tables e below (B.U.setTop { g with pc := g.pc + 3, stack := v.toList ++ rest }) target → Steps p.tables e below (T.setTop g) target := by
  obtain ⟨mk, methM, cM, hnamed, hmethM, -, -, -, -, -, -, hsigM⟩ := Cond.codeWith_spec hcode
  have hstatic : methM.isStatic = true := Cond.static_spec hnamed hmethM hstat
  obtain ⟨kP, hkP, -⟩ := className_of_methodNamed hnamed
  have hinitP : kP.init = .initialized := Cond.initialized_spec (findClass_of_methodNamed hnamed) hkP hinit
  obtain ⟨vm₁, X₁, hstep₁⟩ := X.invokestatic hexec hown hlink hnamed hmethM hstatic hkP hinitP hy (g := g) hg (argsL := argsL) (rest := rest) (hlen _ hsigM) hstack hdg
  obtain ⟨v, B, X', hpost, hsteps⟩ := hK m meth c ⟨T.setVm vm₁, locs, cells, slots⟩ { g with stack := rest } (.invokestatic index) mk argsL.toArray X₁ hg hsize hdg hW (X₁.named hnamed) (hpre vm₁ X₁.warmed)
  exact ⟨v, vm₁, B, X₁.warmed, X', hpost, fun target h => hstep₁ _ fun acts => by rw [doInvoke_state]; exact hsteps.trans h⟩
theorem vx_runSW {y : MethodName} {bytes cc : ByteArray} {maxL nL mc ms n index : Nat} {ret : Option FieldType} {hh : List (Nat × Nat × Nat × Nat)} {ws : List Cond} {rm : Room} {Pc : Array Value → State → Prop} {Qc : Array Value → State → Outcome → State → Prop} {free : Addr → Prop} {Ts : List Cond} {own : String} {As rest : List Value} {g : JFrame}
    (S : CallFix p m c cc nL s args Ts own) (hM : Met l y ws rm Pc Qc mc ms free) (cw : vx_CSW R s args own index y bytes maxL ret hh ws rm mc ms n) (hp : PreS s H Pc As)
    (hg : g.method = m) (hn : As.length = n) (hsize : g.locals.size = nL) (hstack : g.stack = As.reverse ++ rest) (hW : 2 * g.monitorRoom + (rest.map fun v => v.category).sum ≤ 8) (hdg : decode cc g.pc = .ok (.invokestatic index, 3)) (hf : cells + mc ≤ R.cells ∧ slots + ms ≤ R.slots) :
    va_Run p l e R s m args below meth c H locs cells slots mc ms g rest (Qc As.toArray) (free) := by
  obtain ⟨⟨hrc, hrs, hfr, hlo, hws, hcw⟩, hcode, hini, hy, hlen, hl, hstt⟩ := cw
  have hK : Back l R p e below s args y 3 8 (PreOf R mc ms Pc) (PostOf Qc mc ms free) := va_backW (hh := hh) (bytes := bytes) (maxL := maxL) (ret := ret) hM hp.1 hrc hrs hfr hlo hws hcw (fun a' U hW => word_at hW (Or.inl (by first | rfl | simp [Cond.onTables, Cond.keeps, Cond.steady])) hini)
  obtain ⟨hx, hb, hml, ho, -⟩ := S
  intro T hT X
  obtain ⟨v, vm₁, ⟨U', l2, c2, s2⟩, hW₁, X', ⟨g', mk, t, L, e1, e2, hq, h1, hL, h2, h3⟩, st⟩ := vx_callSW X hx (hh := hh) (bytes := bytes) (maxL := maxL) (ret := ret) ho hl hstt hini hcode hy hK hg (hsize.trans hml.symm) (argsL := As) (rest := rest) (fun sig h => hn.trans (hlen sig h)) hstack hW (by rw [hb]; exact hdg)
    (fun vm₁ hW₁ => ⟨hf.1, hf.2, hp.2 (T.setVm vm₁) hT hW₁⟩)
  dsimp only [Pt.U, Pt.locs, Pt.cells, Pt.slots] at X' e1 e2 h1 h2 h3 st
  subst h1; subst h2; subst h3
  exact ⟨v, (T.setVm vm₁).calling g' mk As.toArray, t, U', L, hT, X', hL, e1, e2, hq, st⟩
/-- not caught here, past rows that name other classes: it goes on to the caller -/
theorem vx_outP {p : Program} {l : Launch} {e : Env} {R : Room} {s : State} {m : MethodId} {args : Array Value} {below : List Frame} {meth : Method} {c : Code} {H : Heap} {locs : List Loc} {cells slots : Nat} {free : Addr → Prop} {ls : Array Slot} {rest : List Value} {Qc : Array Value → State → Outcome → State → Prop} {XC : String → State → State → Prop}
    {pc : Nat} {own E : String} {ce : Cell} {q : Addr} {mc ms : Nat} (hown : s.vm.findClass own = some m.cls) (hlocks : meth.locks = false)
    (hpass : ∀ z ∈ c.exceptionTable.toList, covers z pc = false ∨ (z.catchType ≠ 0 ∧ ∃ nm : String, (Cond.classLink own z.catchType nm).before args s = true ∧ va_Nc E nm s)) (hcell : H[q]? = some ce) (hv : ce.vm = .none) (hcl : s.vm.findClass E = some ce.cls)
    (hx : ∀ t : State, t.heap = H → s.vm.Alike t.vm → XC E s t) (hf : ∀ z ∈ locs, free z.base) (hc : cells ≤ mc) (hs : slots ≤ ms) :
    vx_W p l e R s m args below meth c H locs cells slots (vx_MQ below Qc XC args s mc ms free) (F0 m pc ls rest) q := by
  intro T hT X
  have hpl : e.platform.magicAccessors = ({} : Platform).magicAccessors := by rw [X.admits.platform]
  obtain ⟨vm', hW', X', st⟩ := X.outThrough hlocks q (g := F0 m pc ls rest) rfl rfl rfl (cell := ce) (by rw [hT]; exact hcell) (by rw [hv]; rfl)
    (by obtain ⟨k9, h9, -⟩ := Vm.findClass_spec hcl; exact ⟨k9, h9⟩) (fun z hz => by
      rcases hpass z hz with h | ⟨hz0, nm, hl1, hn1⟩
      · exact Or.inl h
      · obtain ⟨c6, hc6, hcl6⟩ := Cond.classLink_spec hown hl1 e.platform hpl
        obtain ⟨a8, b8, h1, h2, h3⟩ := hn1
        cases Option.some.inj (h1.symm.trans hcl)
        cases Option.some.inj (h2.symm.trans hc6)
        exact Or.inr ⟨hz0, _, hcl6, h3⟩)
  obtain ⟨g₀, hfr⟩ := X'.frames_eq
  have hcell9 : ((T.setVm vm').setFrames (.throwing q :: below)).heap[q]? = some ce := by
    show T.heap[q]? = some ce
    rw [hT]; exact hcell
  have hend : Ended ((T.setVm vm').setFrames (.throwing q :: below)) below (.threw q) := State.frames_setFrames _ (State.cur_lt_of_frames hfr)
  refine ⟨(T.setVm vm').setFrames (.throwing q :: below), ?_, .threw q, X'.here.running, hend, Or.inr ⟨q, rfl, E, ce, locs, hx _ hT (X'.ends _).1.alike, hcell9, hv, hcl, (X'.ends _).1, (X'.ends _).2.mono hc hs, hf⟩⟩
  rw [X.pushThrowing_eq]
  exact st
/-- a thing of a world lies in the heap -/
theorem vx_lt {D : va_G} {cl : List vw_C} {ws : va_W} {H1 : Heap} (h : va_P D cl ws H1) {k : Nat} {q : Nat × va_E} (hk : ws[k]? = some q) : q.1 < H1.size := (h k q hk).lt
end VXS
/-! ===== END ===== -/
/-! ===== BEGIN methods with a table of their own: called by a name, returning or throwing ===== -/
section VXH
/-! vx_backW, vx_callVX, vx_callSX, vx_callVW, vx_runVW, vx_runVX, vx_runSX, vx_ofWH follow the same proofs as their sisters above (Free/Laws.lean, Shelf42/LK1.lean); vx_outP calls Shelf42/NT130.lean (outThrough). -/
section
variable {l : Launch} {R : Room} {p : Program} {e : Env} {below : List Frame} {s : State} {sargs : Array Value} {y : MethodName} {len W9 : Nat}
theorem vx_backW {ws : List Cond} {rm : Room} {Pc : Array Value → State → Prop} {Qc : Array Value → State → Outcome → State → Prop} {XC : String → State → State → Prop} {mc ms : Nat} {free : Addr → Prop} {bytes : ByteArray} {maxL : Nat} {ret : Option FieldType} {hh : List (Nat × Nat × Nat × Nat)}
    (hM : vx_Met l y ws rm Pc Qc XC mc ms free) (hblind : FrameBlind Pc) (hrc : rm.cells = mc) (hrs : rm.slots = ms)
    (hframes : rm.frames + 1 ≤ R.frames) (hlocals : W9 + (maxL + 11) + rm.locals ≤ R.locals)
    (hws : ∀ w ∈ ws, ∀ a' U, s.WarmedH U.vm → w.before a' U = true) (hcode : Cond.codeWith y bytes maxL ret hh ∈ ws) (hinit : ∀ a' U, s.WarmedH U.vm → (Cond.initialized y.cls).before a' U = true) :
    vx_Back l R p e below s sargs y len W9 (PreOf R mc ms Pc) (PostOf Qc mc ms free) (vx_Post XC mc ms free) := by
  intro m meth c A g ig mk a X hg hsize hdg hW hn hp
  have h1 : (headSpec ws rm).pre.before a A.U = true := atoms_intro fun w hw => hws w hw _ _ X.warmed
  have h2 : (Cond.codeWith y bytes maxL ret hh).before a A.U = true := hws _ hcode _ _ X.warmed
  have h3 : (Cond.initialized y.cls).before a A.U = true := hinit _ _ X.warmed
  have h4 : A.cells + (headSpec ws rm).room.cells ≤ R.cells := by rw [show (headSpec ws rm).room.cells = mc from hrc]; exact hp.1
  have h5 : A.slots + (headSpec ws rm).room.slots ≤ R.slots := by rw [show (headSpec ws rm).room.slots = ms from hrs]; exact hp.2.1
  have hPc : Pc a (A.U.calling g mk a) := hblind _ _ _ _ hp.2.2
  obtain ⟨U, Ls, c0, s0⟩ := A
  dsimp only [Pt.U, Pt.locs, Pt.cells, Pt.slots] at h1 h2 h3 h4 h5 X hn hPc ⊢
  obtain ⟨m9, methY, cY, hn9, hmY, hcY, -, hlY, -⟩ := Cond.codeWith_spec h2
  cases Option.some.inj (hn9.symm.trans hn)
  obtain ⟨kY, hkY, -⟩ := className_of_methodNamed hn
  have hinitY : kY.init = .initialized := Cond.initialized_spec (findClass_of_methodNamed hn) hkY h3
  have h : At U g.method c below := by rw [hg]; exact X.here
  have hlocals9 : W9 + (maxL + 11) + (headSpec ws rm).room.locals ≤ R.locals := hlocals
  have happ : (headSpec ws rm).appliesLoose y e.platform (U.calling g mk a) = true :=
    Spec.appliesLoose_calling (g := g) h hdg hn hkY hinitY
      (X.room_calling (g := g) (R' := (headSpec ws rm).room) hsize hmY hcY hframes (by rw [hlY]; omega) h4 h5) h1
  obtain ⟨mid, hmid⟩ := h.above
  have hfr : (U.setTop g).frames = (.java g :: mid) ++ below := by rw [State.frames_setTop' g h.top, hmid]; rfl
  obtain ⟨o, s₂, hsteps, -, hend, hq⟩ := Steps.callFree hM p X.admits X.cas X.clock (acts := []) hfr happ hPc trivial
  have hq' : vx_Q Qc XC mc ms free a (U.calling g mk a) o s₂ := hq
  rw [State.frames_setTop' g h.top] at hend
  obtain ⟨g₀, hg0⟩ := Option.isSome_iff_exists.mp h.top
  obtain ⟨r, hr⟩ := State.topJava?_eq_some.mp hg0
  have hr' : (({ U with heap := s₂.heap, slotsUsed := s₂.slotsUsed } : State).setVm s₂.vm).frames = .java g₀ :: r := hr
  rcases hq' with ⟨hqc, L, hfe, hL⟩ | ⟨q, rfl, E, ce, L, hx, hce, hcv, hcl, hW₂, hsm, hL⟩
  · obtain ⟨⟨v, rfl⟩, hW₂, e2, q2, q3, q4, q5, q6⟩ := id hfe
    have e3 : s₂ = ({ (U.calling g mk a).setFrames s₂.frames with heap := s₂.heap, slotsUsed := s₂.slotsUsed } : State).setVm s₂.vm := by
      have : s₂ = ({ s₂ with vm := (U.calling g mk a).vm } : State).setVm s₂.vm := rfl
      rw [e2] at this
      exact this
    obtain ⟨c₂, i₂, len₂, hc₂, hd₂, hf₂⟩ := hend
    have hW' : U.WarmedH s₂.vm := hW₂
    have hcc : c₂ = c := by
      have h1 : s₂.code? g.method = U.code? g.method := by
        rw [State.code?_eq, State.code?_eq, hW'.alike.method?]
      exact Option.some.inj (hc₂.symm.trans (h1.trans h.code))
    subst hcc
    have hlen : len₂ = len := by rw [hdg] at hd₂; cases hd₂; rfl
    subst hlen
    have hs₂ : s₂ = (({ U with heap := s₂.heap, slotsUsed := s₂.slotsUsed } : State).setVm s₂.vm).setTop { g with pc := g.pc + len₂, stack := v.toList ++ g.stack } := by
      refine e3.trans ?_
      rw [hf₂, State.calling_eq h.top, State.setFrames_setFrames, State.setTop_of_frames _ hr', hr]
      rfl
    have hsame : U.sameButNew ({ U with heap := s₂.heap, slotsUsed := s₂.slotsUsed } : State) L mc ms := by
      refine ⟨?_, q2, q3, q4, q5, q6⟩
      obtain ⟨t, ht, -⟩ := State.frames_cons hr
      show ({ U with heap := s₂.heap, slotsUsed := s₂.slotsUsed } : State) = { U.setFrames U.frames with heap := s₂.heap, slotsUsed := s₂.slotsUsed }
      rw [State.setFrames_self ht]
    subst hg
    refine Or.inl ⟨v, ⟨(({ U with heap := s₂.heap, slotsUsed := s₂.slotsUsed } : State).setVm s₂.vm), Ls ++ L, c0 + mc, s0 + ms⟩,
      ⟨X.admits, X.cas, X.clock, X.frames, X.room, X.hears, X.method, X.code, (X.here.setHeapUsed s₂.heap s₂.slotsUsed).setVm hW'.alike, X.tail, State.WarmedH.trans X.warmed hW', X.limits, X.bytes, X.same.trans (hsame.setVm s.vm)⟩,
      ⟨g, mk, s₂, L, rfl, rfl, hqc, rfl, hL, rfl, rfl⟩, ?_⟩
    show Steps p.tables e below _ ((({ U with heap := s₂.heap, slotsUsed := s₂.slotsUsed } : State).setVm s₂.vm).setTop { g with pc := g.pc + len₂, stack := v.toList ++ g.stack })
    rw [← hs₂]
    exact hsteps
  · obtain ⟨e2, q2, q3, q4, q5, q6⟩ := id hsm
    have e3 : s₂ = ({ (U.calling g mk a).setFrames s₂.frames with heap := s₂.heap, slotsUsed := s₂.slotsUsed } : State).setVm s₂.vm := by
      have : s₂ = ({ s₂ with vm := (U.calling g mk a).vm } : State).setVm s₂.vm := rfl
      rw [e2] at this
      exact this
    have hf₂ : s₂.frames = .throwing q :: .java g :: U.frames.tail := hend
    have hW' : U.WarmedH s₂.vm := hW₂
    have hs₂ : s₂ = ((({ U with heap := s₂.heap, slotsUsed := s₂.slotsUsed } : State).setVm s₂.vm).setTop g).pushFrame (.throwing q) := by
      refine e3.trans ?_
      rw [hf₂, State.calling_eq h.top, State.setFrames_setFrames, State.pushFrame, State.frames_setTop _ hr', State.setTop_of_frames _ hr', State.setFrames_setFrames, hr]
      rfl
    have hsame : U.sameButNew ({ U with heap := s₂.heap, slotsUsed := s₂.slotsUsed } : State) L mc ms := by
      refine ⟨?_, q2, q3, q4, q5, q6⟩
      obtain ⟨t, ht, -⟩ := State.frames_cons hr
      show ({ U with heap := s₂.heap, slotsUsed := s₂.slotsUsed } : State) = { U.setFrames U.frames with heap := s₂.heap, slotsUsed := s₂.slotsUsed }
      rw [State.setFrames_self ht]
    subst hg
    refine Or.inr ⟨q, ⟨(({ U with heap := s₂.heap, slotsUsed := s₂.slotsUsed } : State).setVm s₂.vm), Ls ++ L, c0 + mc, s0 + ms⟩,
      ⟨X.admits, X.cas, X.clock, X.frames, X.room, X.hears, X.method, X.code, (X.here.setHeapUsed s₂.heap s₂.slotsUsed).setVm hW'.alike, X.tail, State.WarmedH.trans X.warmed hW', X.limits, X.bytes, X.same.trans (hsame.setVm s.vm)⟩,
      ⟨g, mk, s₂, L, E, ce, rfl, rfl, hx, hce, hcv, hcl, rfl, hL, rfl, rfl⟩, ?_⟩
    show Steps p.tables e below _ (((({ U with heap := s₂.heap, slotsUsed := s₂.slotsUsed } : State).setVm s₂.vm).setTop g).pushFrame (.throwing q))
    rw [← hs₂]
    exact hsteps
end
variable {p : Program} {l : Launch} {e : Env} {R : Room} {s : State} {m : MethodId} {args : Array Value} {below : List Frame} {meth : Method} {c : Code} {T : State} {H : Heap} {locs : List Loc} {cells slots : Nat}
theorem vx_callVX (X : Stand p l e R s m args below meth c T locs cells slots) (hexec : p.tables.exec = Jvm.exec) {own C : String} {index : Nat} {y : MethodName} {bytes : ByteArray} {maxL : Nat} {ret : Option FieldType} {hh : List (Nat × Nat × Nat × Nat)}
    (hown : s.vm.findClass own = some m.cls) (hlink : (Cond.methodLink own index y).before args s = true) (hinst : (Cond.instanceMethod y).before args s = true) (hsel : (Cond.selects C y y).before args s = true)
    (hcode : (Cond.codeWith y bytes maxL ret hh).before args s = true) (hy : y.cls ≠ "java/lang/invoke/MethodHandle" ∧ y.cls ≠ "java/lang/invoke/VarHandle")
    {W9 : Nat} {Pre : Pt → Array Value → Prop} {Post : Pt → Array Value → Option Value → Pt → Prop} {PostX : Pt → Array Value → Addr → Pt → Prop} (hK : vx_Back l R p e below s args y 3 W9 Pre Post PostX)
    {b : Addr} {cellB : Cell} (hcell : T.heap[b]? = some cellB) (hobj : cellB.vm.isStatics = false) (hcls : s.vm.findClass C = some cellB.cls)
    {g : JFrame} (hg : g.method = m) (hsize : g.locals.size = c.maxLocals) {argsL rest : List Value} (hlen : ∀ sig, parseMethodDescriptor y.desc = some sig → argsL.length = sig.parameters.length)
    (hstack : g.stack = argsL.reverse ++ .ref b :: rest) (hW : 2 * g.monitorRoom + (rest.map fun v => v.category).sum ≤ W9) (hdg : decode c.code g.pc = .ok (.invokevirtual index, 3))
    (hpre : ∀ vm₁, s.WarmedH vm₁ → Pre ⟨T.setVm vm₁, locs, cells, slots⟩ (Value.ref b :: argsL).toArray) :
    (∃ (v : Option Value) (vm₁ : Vm) (B : Pt), s.WarmedH vm₁ ∧ Stand p l e R s m args below meth c B.U B.locs B.cells B.slots ∧ Post ⟨T.setVm vm₁, locs, cells, slots⟩ (Value.ref b :: argsL).toArray v B ∧
      ∀ target, Steps p.tables e below (B.U.setTop { g with pc := g.pc + 3, stack := v.toList ++ rest }) target → Steps p.tables e below (T.setTop g) target) ∨
    (∃ (q : Addr) (vm₁ : Vm) (B : Pt), s.WarmedH vm₁ ∧ Stand p l e R s m args below meth c B.U B.locs B.cells B.slots ∧ PostX ⟨T.setVm vm₁, locs, cells, slots⟩ (Value.ref b :: argsL).toArray q B ∧
      Steps p.tables e below (T.setTop g) ((B.U.setTop { g with stack := rest }).pushFrame (.throwing q))) := by
  obtain ⟨mk, methM, hnamed, hmethM, hstM, habM⟩ := Cond.instanceMethod_spec hinst
  obtain ⟨m8, methM', cM, hn8, hmethM', -, -, -, -, -, -, hsigM⟩ := Cond.codeWith_spec hcode
  cases Option.some.inj (hn8.symm.trans hnamed)
  cases hmethM.symm.trans hmethM'
  obtain ⟨c2, r2, m2, q1, q2, q3, q4, kP, hkP, hkPi⟩ := Cond.selects_spec hsel
  cases hcls.symm.trans q1
  cases (State.methodFound?_of_named hnamed hy).symm.trans q2
  cases hnamed.symm.trans q3
  have hselP : selectMethod e.platform s.vm cellB.cls mk = .method mk := by rw [Launch.admits_selectMethod X.admits]; exact q4
  obtain ⟨vm₁, X₁, hstep₁⟩ := X.invokevirtual hexec hown hlink hnamed hmethM hstM hkP hkPi hy (a := b) (cell := cellB) hcell
    (fun z h => by rw [h] at hobj; cases hobj) hselP hmethM habM hkP hkPi (g := g) hg (argsL := argsL) (rest := rest) (hlen _ hsigM) hstack hdg
  rcases hK m meth c ⟨T.setVm vm₁, locs, cells, slots⟩ { g with stack := rest } (.invokevirtual index) mk (Value.ref b :: argsL).toArray X₁ hg hsize hdg hW (X₁.named hnamed) (hpre vm₁ X₁.warmed) with ⟨v, B, X', hpost, hsteps⟩ | ⟨q, B, X', hpost, hsteps⟩
  · exact Or.inl ⟨v, vm₁, B, X₁.warmed, X', hpost, fun target h => hstep₁ _ fun acts => by rw [doInvoke_state]; exact hsteps.trans h⟩
  · exact Or.inr ⟨q, vm₁, B, X₁.warmed, X', hpost, hstep₁ _ fun acts => by rw [doInvoke_state]; exact hsteps⟩
theorem vx_callSX (X : Stand p l e R s m args below meth c T locs cells slots) (hexec : p.tables.exec = Jvm.exec) {own : String} {index : Nat} {y : MethodName} {bytes : ByteArray} {maxL : Nat} {ret : Option FieldType} {hh : List (Nat × Nat × Nat × Nat)}
    (hown : s.vm.findClass own = some m.cls) (hlink : (Cond.methodLink own index y).before args s = true) (hstat : (Cond.static y).before args s = true) (hinit : (Cond.initialized y.cls).before args s = true)
    (hcode : (Cond.codeWith y bytes maxL ret hh).before args s = true) (hy : y.cls ≠ "java/lang/invoke/MethodHandle" ∧ y.cls ≠ "java/lang/invoke/VarHandle")
    {W9 : Nat} {Pre : Pt → Array Value → Prop} {Post : Pt → Array Value → Option Value → Pt → Prop} {PostX : Pt → Array Value → Addr → Pt → Prop} (hK : vx_Back l R p e below s args y 3 W9 Pre Post PostX)
    {g : JFrame} (hg : g.method = m) (hsize : g.locals.size = c.maxLocals) {argsL rest : List Value} (hlen : ∀ sig, parseMethodDescriptor y.desc = some sig → argsL.length = sig.parameters.length)
    (hstack : g.stack = argsL.reverse ++ rest) (hW : 2 * g.monitorRoom + (rest.map fun v => v.category).sum ≤ W9) (hdg : decode c.code g.pc = .ok (.invokestatic index, 3))
    (hpre : ∀ vm₁, s.WarmedH vm₁ → Pre ⟨T.setVm vm₁, locs, cells, slots⟩ argsL.toArray) :
    (∃ (v : Option Value) (vm₁ : Vm) (B : Pt), s.WarmedH vm₁ ∧ Stand p l e R s m args below meth c B.U B.locs B.cells B.slots ∧ Post ⟨T.setVm vm₁, locs, cells, slots⟩ argsL.toArray v B ∧
      ∀ target, Steps p.tables e below (B.U.setTop { g with pc := g.pc + 3, stack := v.toList ++ rest }) target → Steps p.tables e below (T.setTop g) target) ∨
    (∃ (q : Addr) (vm₁ : Vm) (B : Pt), s.WarmedH vm₁ ∧ Stand p l e R s m args below meth c B.U B.locs B.cells B.slots ∧ PostX ⟨T.setVm vm₁, locs, cells, slots⟩ argsL.toArray q B ∧
      Steps p.tables e below (T.setTop g) ((B.U.setTop { g with stack := rest }).pushFrame (.throwing q))) := by
  obtain ⟨mk, methM, cM, hnamed, hmethM, -, -, -, -, -, -, hsigM⟩ := Cond.codeWith_spec hcode
  have hstatic : methM.isStatic = true := Cond.static_spec hnamed hmethM hstat
  obtain ⟨kP, hkP, -⟩ := className_of_methodNamed hnamed
  have hinitP : kP.init = .initialized := Cond.initialized_spec (findClass_of_methodNamed hnamed) hkP hinit
  obtain ⟨vm₁, X₁, hstep₁⟩ := X.invokestatic hexec hown hlink hnamed hmethM hstatic hkP hinitP hy (g := g) hg (argsL := argsL) (rest := rest) (hlen _ hsigM) hstack hdg
  rcases hK m meth c ⟨T.setVm vm₁, locs, cells, slots⟩ { g with stack := rest } (.invokestatic index) mk argsL.toArray X₁ hg hsize hdg hW (X₁.named hnamed) (hpre vm₁ X₁.warmed) with ⟨v, B, X', hpost, hsteps⟩ | ⟨q, B, X', hpost, hsteps⟩
  · exact Or.inl ⟨v, vm₁, B, X₁.warmed, X', hpost, fun target h => hstep₁ _ fun acts => by rw [doInvoke_state]; exact hsteps.trans h⟩
  · exact Or.inr ⟨q, vm₁, B, X₁.warmed, X', hpost, hstep₁ _ fun acts => by rw [doInvoke_state]; exact hsteps⟩
theorem vx_callVW (X : Stand p l e R s m args below meth c T locs cells slots) (hexec : p.tables.exec = Jvm.exec) {own C : String} {index : Nat} {y : MethodName} {bytes : ByteArray} {maxL : Nat} {ret : Option FieldType} {hh : List (Nat × Nat × Nat × Nat)}
    (hown : s.vm.findClass own = some m.cls) (hlink : (Cond.methodLink own index y).before args s = true) (hinst : (Cond.instanceMethod y).before args s = true) (hsel : (Cond.selects C y y).before args s = true)
    (hcode : (Cond.codeWith y bytes maxL ret hh).before args s = true) (hy : y.cls ≠ "java/lang/invoke/MethodHandle" ∧ y.cls ≠ "java/lang/invoke/VarHandle")
    {W9 : Nat} {Pre : Pt → Array Value → Prop} {Post : Pt → Array Value → Option Value → Pt → Prop} (hK : Back l R p e below s args y 3 W9 Pre Post)
    {b : Addr} {cellB : Cell} (hcell : T.heap[b]? = some cellB) (hobj : cellB.vm.isStatics = false) (hcls : s.vm.findClass C = some cellB.cls)
    {g : JFrame} (hg : g.method = m) (hsize : g.locals.size = c.maxLocals) {argsL rest : List Value} (hlen : ∀ sig, parseMethodDescriptor y.desc = some sig → argsL.length = sig.parameters.length)
    (hstack : g.stack = argsL.reverse ++ .ref b :: rest) (hW : 2 * g.monitorRoom + (rest.map fun v => v.category).sum ≤ W9) (hdg : decode c.code g.pc = .ok (.invokevirtual index, 3))
    (hpre : ∀ vm₁, s.WarmedH vm₁ → Pre ⟨T.setVm vm₁, locs, cells, slots⟩ (Value.ref b :: argsL).toArray) :
    ∃ (v : Option Value) (vm₁ : Vm) (B : Pt), s.WarmedH vm₁ ∧ Stand p l e R s m args below meth c B.U B.locs B.cells B.slots ∧ Post ⟨T.setVm vm₁, locs, cells, slots⟩ (Value.ref b :: argsL).toArray v B ∧
      ∀ target, Steps p.tables e below (B.U.setTop { g with pc := g.pc + 3, stack := v.toList ++ rest }) target → Steps p.tables e below (T.setTop g) target := by
  obtain ⟨mk, methM, hnamed, hmethM, hstM, habM⟩ := Cond.instanceMethod_spec hinst
  obtain ⟨m8, methM', cM, hn8, hmethM', -, -, -, -, -, -, hsigM⟩ := Cond.codeWith_spec hcode
  cases Option.some.inj (hn8.symm.trans hnamed)
  cases hmethM.symm.trans hmethM'
  obtain ⟨c2, r2, m2, q1, q2, q3, q4, kP, hkP, hkPi⟩ := Cond.selects_spec hsel
  cases hcls.symm.trans q1
  cases (State.methodFound?_of_named hnamed hy).symm.trans q2
  cases hnamed.symm.trans q3
  have hselP : selectMethod e.platform s.vm cellB.cls mk = .method mk := by rw [Launch.admits_selectMethod X.admits]; exact q4
  obtain ⟨vm₁, X₁, hstep₁⟩ := X.invokevirtual hexec hown hlink hnamed hmethM hstM hkP hkPi hy (a := b) (cell := cellB) hcell
    (fun z h => by rw [h] at hobj; cases hobj) hselP hmethM habM hkP hkPi (g := g) hg (argsL := argsL) (rest := rest) (hlen _ hsigM) hstack hdg
  obtain ⟨v, B, X', hpost, hsteps⟩ := hK m meth c ⟨T.setVm vm₁, locs, cells, slots⟩ { g with stack := rest } (.invokevirtual index) mk (Value.ref b :: argsL).toArray X₁ hg hsize hdg hW (X₁.named hnamed) (hpre vm₁ X₁.warmed)
  exact ⟨v, vm₁, B, X₁.warmed, X', hpost, fun target h => hstep₁ _ fun acts => by rw [doInvoke_state]; exact hsteps.trans h⟩
abbrev vx_CVW (R : Room) (s : State) (args : Array Value) (own C : String) (index : Nat) (y : MethodName) (bytes : ByteArray) (maxL : Nat) (ret : Option FieldType) (hh : List (Nat × Nat × Nat × Nat)) (ws : List Cond) (rm : Room) (mc ms n : Nat) : Prop :=
  (rm.cells = mc ∧ rm.slots = ms ∧ rm.frames + 1 ≤ R.frames ∧ 8 + (maxL + 11) + rm.locals ≤ R.locals ∧ (∀ w ∈ ws, ∀ (a' : Array Value) (U : State), s.WarmedH U.vm → w.before a' U = true) ∧ Cond.codeWith y bytes maxL ret hh ∈ ws) ∧
  (Cond.codeWith y bytes maxL ret hh).before args s = true ∧ (Cond.initialized y.cls).before args s = true ∧ (y.cls ≠ "java/lang/invoke/MethodHandle" ∧ y.cls ≠ "java/lang/invoke/VarHandle") ∧
  (∀ sig, parseMethodDescriptor y.desc = some sig → n = sig.parameters.length) ∧ (Cond.methodLink own index y).before args s = true ∧ (Cond.instanceMethod y).before args s = true ∧ (Cond.selects C y y).before args s = true
theorem vx_cwVW {own C : String} {index maxL mc ms : Nat} {y : MethodName} {bytes : ByteArray} {ret : Option FieldType} {hh : List (Nat × Nat × Nat × Nat)} {Ts ws ws' : List Cond} {rm : Room} (n : Nat) (ht : ∀ w ∈ Ts, w.before args s = true) (hT : GoodIn Ts (wsV own index C y ws)) (hw : ws = Cond.codeWith y bytes maxL ret hh :: ws') (hrc : rm.cells = mc) (hrs : rm.slots = ms)
    (hd : y.cls = C ∧ y.cls ≠ "java/lang/invoke/MethodHandle" ∧ y.cls ≠ "java/lang/invoke/VarHandle" ∧ (parseMethodDescriptor y.desc).map (fun d => d.parameters.length) = some n) (hR : rm.frames + 1 ≤ R.frames ∧ 8 + (maxL + 11) + rm.locals ≤ R.locals) :
    vx_CVW R s args own C index y bytes maxL ret hh ws rm mc ms n := by
  obtain ⟨hC, hd⟩ := hd
  subst hC
  have ok : ∀ w ∈ wsV own index y.cls y ws, w.before args s = true := fun w h => ht w (hT w h).1
  have hG : GoodIn Ts ws := fun w h => hT w (by unfold wsV; exact List.mem_append_right _ h)
  have hc : Cond.codeWith y bytes maxL ret hh ∈ ws := by rw [hw]; exact List.mem_cons_self
  refine ⟨⟨hrc, hrs, hR.1, hR.2, pay_in ht hG, hc⟩, ht _ (hG _ hc).1, ok _ (by simp [wsV]), ⟨hd.1, hd.2.1⟩, fun sig h => ?_, ok _ (by simp [wsV]), ok _ (by simp [wsV]), ok _ (by simp [wsV])⟩
  have h2 := hd.2.2
  rw [h] at h2
  exact (Option.some.inj h2).symm
theorem vx_runVW {y : MethodName} {bytes cc : ByteArray} {maxL nL mc ms n index : Nat} {ret : Option FieldType} {hh : List (Nat × Nat × Nat × Nat)} {ws : List Cond} {rm : Room} {Pc : Array Value → State → Prop} {Qc : Array Value → State → Outcome → State → Prop} {free : Addr → Prop} {Ts : List Cond} {own C : String} {b : Addr} {As rest : List Value} {g : JFrame}
    (S : CallFix p m c cc nL s args Ts own) (hM : Met l y ws rm Pc Qc mc ms free) (cw : vx_CVW R s args own C index y bytes maxL ret hh ws rm mc ms n) (hp : PreV s H C b Pc As)
    (hg : g.method = m) (hn : As.length = n) (hsize : g.locals.size = nL) (hstack : g.stack = As.reverse ++ .ref b :: rest) (hW : 2 * g.monitorRoom + (rest.map fun v => v.category).sum ≤ 8) (hdg : decode cc g.pc = .ok (.invokevirtual index, 3)) (hf : cells + mc ≤ R.cells ∧ slots + ms ≤ R.slots) :
    va_Run p l e R s m args below meth c H locs cells slots mc ms g rest (Qc (Value.ref b :: As).toArray) free := by
  obtain ⟨⟨hrc, hrs, hfr, hlo, hws, hcw⟩, hcode, hini, hy, hlen, hl, hin, hse⟩ := cw
  have hK : Back l R p e below s args y 3 8 (PreOf R mc ms Pc) (PostOf Qc mc ms free) := va_backW (hh := hh) (bytes := bytes) (maxL := maxL) (ret := ret) hM hp.1 hrc hrs hfr hlo hws hcw (fun a' U hW => word_at hW (Or.inl (by first | rfl | simp [Cond.onTables, Cond.keeps, Cond.steady])) hini)
  obtain ⟨hx, hb, hml, ho, -⟩ := S
  obtain ⟨-, ⟨cellB, hcB, hoB, hclB⟩, hPc⟩ := hp
  intro T hT X
  obtain ⟨v, vm₁, ⟨U', l2, c2, s2⟩, hW₁, X', ⟨g', mk, t, L, e1, e2, hq, h1, hL, h2, h3⟩, st⟩ := vx_callVW X hx (C := C) (hh := hh) (bytes := bytes) (maxL := maxL) (ret := ret) ho hl hin hse hcode hy hK (by rw [hT]; exact hcB) hoB hclB hg (hsize.trans hml.symm) (argsL := As) (rest := rest) (fun sig h => hn.trans (hlen sig h)) hstack hW (by rw [hb]; exact hdg)
    (fun vm₁ hW₁ => ⟨hf.1, hf.2, hPc (T.setVm vm₁) hT hW₁⟩)
  dsimp only [Pt.U, Pt.locs, Pt.cells, Pt.slots] at X' e1 e2 h1 h2 h3 st
  subst h1; subst h2; subst h3
  exact ⟨v, (T.setVm vm₁).calling g' mk (Value.ref b :: As).toArray, t, U', L, hT, X', hL, e1, e2, hq, st⟩
section
variable {y : MethodName} {bytes cc : ByteArray} {maxL nL mc ms n index : Nat} {ret : Option FieldType} {ws : List Cond} {rm : Room} {Pc : Array Value → State → Prop} {Qc : Array Value → State → Outcome → State → Prop} {XC : String → State → State → Prop} {free : Addr → Prop} {Ts : List Cond} {own C : String} {b : Addr} {As rest : List Value} {g : JFrame}
theorem vx_runVX {hh : List (Nat × Nat × Nat × Nat)} (S : CallFix p m c cc nL s args Ts own) (hM : vx_Met l y ws rm Pc Qc XC mc ms free) (cw : vx_CVW R s args own C index y bytes maxL ret hh ws rm mc ms n) (hp : PreV s H C b Pc As)
    (hg : g.method = m) (hn : As.length = n) (hsize : g.locals.size = nL) (hstack : g.stack = As.reverse ++ .ref b :: rest) (hW : 2 * g.monitorRoom + (rest.map fun v => v.category).sum ≤ 8) (hdg : decode cc g.pc = .ok (.invokevirtual index, 3)) (hf : cells + mc ≤ R.cells ∧ slots + ms ≤ R.slots) :
    vx_Run p l e R s m args below meth c H locs cells slots mc ms g rest (Qc (Value.ref b :: As).toArray) XC free := by
  obtain ⟨⟨hrc, hrs, hfr, hlo, hws, hcw⟩, hcode, hini, hy, hlen, hl, hin, hse⟩ := cw
  have hK : vx_Back l R p e below s args y 3 8 (PreOf R mc ms Pc) (PostOf Qc mc ms free) (vx_Post XC mc ms free) := vx_backW (hh := hh) (bytes := bytes) (maxL := maxL) (ret := ret) hM hp.1 hrc hrs hfr hlo hws hcw (fun a' U hW => word_at hW (Or.inl (by first | rfl | simp [Cond.onTables, Cond.keeps, Cond.steady])) hini)
  obtain ⟨hx, hb, hml, ho, -⟩ := S
  obtain ⟨-, ⟨cellB, hcB, hoB, hclB⟩, hPc⟩ := hp
  intro T hT X
  rcases vx_callVX X hx (C := C) (hh := hh) (bytes := bytes) (maxL := maxL) (ret := ret) ho hl hin hse hcode hy hK (by rw [hT]; exact hcB) hoB hclB hg (hsize.trans hml.symm) (argsL := As) (rest := rest) (fun sig h => hn.trans (hlen sig h)) hstack hW (by rw [hb]; exact hdg)
    (fun vm₁ hW₁ => ⟨hf.1, hf.2, hPc (T.setVm vm₁) hT hW₁⟩) with ⟨v, vm₁, ⟨U', l2, c2, s2⟩, hW₁, X', ⟨g', mk, t, L, e1, e2, hq, h1, hL, h2, h3⟩, st⟩ | ⟨q, vm₁, ⟨U', l2, c2, s2⟩, hW₁, X', ⟨g', mk, t, L, E, ce, e1, e2, hq, hce, hcv, hcl, h1, hL, h2, h3⟩, st⟩
  · dsimp only [Pt.U, Pt.locs, Pt.cells, Pt.slots] at X' e1 e2 h1 h2 h3 st
    subst h1; subst h2; subst h3
    exact Or.inl ⟨v, (T.setVm vm₁).calling g' mk (Value.ref b :: As).toArray, t, U', L, hT, X', hL, e1, e2, hq, st⟩
  · dsimp only [Pt.U, Pt.locs, Pt.cells, Pt.slots] at X' e1 e2 h1 h2 h3 st hcl
    subst h1; subst h2; subst h3
    exact Or.inr ⟨q, (T.setVm vm₁).calling g' mk (Value.ref b :: As).toArray, t, U', L, E, ce, hT, X', hL, e1, e2, hq, hce, hcv, vx_cls hW₁ hcl, st⟩
theorem vx_runSX {hh : List (Nat × Nat × Nat × Nat)} (S : CallFix p m c cc nL s args Ts own) (hM : vx_Met l y ws rm Pc Qc XC mc ms free) (cw : vx_CSW R s args own index y bytes maxL ret hh ws rm mc ms n) (hp : PreS s H Pc As)
    (hg : g.method = m) (hn : As.length = n) (hsize : g.locals.size = nL) (hstack : g.stack = As.reverse ++ rest) (hW : 2 * g.monitorRoom + (rest.map fun v => v.category).sum ≤ 8) (hdg : decode cc g.pc = .ok (.invokestatic index, 3)) (hf : cells + mc ≤ R.cells ∧ slots + ms ≤ R.slots) :
    vx_Run p l e R s m args below meth c H locs cells slots mc ms g rest (Qc As.toArray) XC free := by
  obtain ⟨⟨hrc, hrs, hfr, hlo, hws, hcw⟩, hcode, hini, hy, hlen, hl, hstt⟩ := cw
  have hK : vx_Back l R p e below s args y 3 8 (PreOf R mc ms Pc) (PostOf Qc mc ms free) (vx_Post XC mc ms free) := vx_backW (hh := hh) (bytes := bytes) (maxL := maxL) (ret := ret) hM hp.1 hrc hrs hfr hlo hws hcw (fun a' U hW => word_at hW (Or.inl (by first | rfl | simp [Cond.onTables, Cond.keeps, Cond.steady])) hini)
  obtain ⟨hx, hb, hml, ho, -⟩ := S
  intro T hT X
  rcases vx_callSX X hx (hh := hh) (bytes := bytes) (maxL := maxL) (ret := ret) ho hl hstt hini hcode hy hK hg (hsize.trans hml.symm) (argsL := As) (rest := rest) (fun sig h => hn.trans (hlen sig h)) hstack hW (by rw [hb]; exact hdg)
    (fun vm₁ hW₁ => ⟨hf.1, hf.2, hp.2 (T.setVm vm₁) hT hW₁⟩) with ⟨v, vm₁, ⟨U', l2, c2, s2⟩, hW₁, X', ⟨g', mk, t, L, e1, e2, hq, h1, hL, h2, h3⟩, st⟩ | ⟨q, vm₁, ⟨U', l2, c2, s2⟩, hW₁, X', ⟨g', mk, t, L, E, ce, e1, e2, hq, hce, hcv, hcl, h1, hL, h2, h3⟩, st⟩
  · dsimp only [Pt.U, Pt.locs, Pt.cells, Pt.slots] at X' e1 e2 h1 h2 h3 st
    subst h1; subst h2; subst h3
    exact Or.inl ⟨v, (T.setVm vm₁).calling g' mk As.toArray, t, U', L, hT, X', hL, e1, e2, hq, st⟩
  · dsimp only [Pt.U, Pt.locs, Pt.cells, Pt.slots] at X' e1 e2 h1 h2 h3 st hcl
    subst h1; subst h2; subst h3
    exact Or.inr ⟨q, (T.setVm vm₁).calling g' mk As.toArray, t, U', L, E, ce, hT, X', hL, e1, e2, hq, hce, hcv, vx_cls hW₁ hcl, st⟩
end
end VXH
theorem vx_ofWH {l : Launch} {y : MethodName} {ws ws' : List Cond} {rm : Room} {Pc : Array Value → State → Prop} {Qc : Array Value → State → Outcome → State → Prop} {XC : String → State → State → Prop} {mc ms : Nat} {free : Addr → Prop} {cc : ByteArray} {maxL : Nat} {ret : Option FieldType} {hh : List (Nat × Nat × Nat × Nat)}
    (hy : plainName y.cls = true) (hw : ws = Cond.codeWith y cc maxL ret hh :: ws')
    (body : ∀ p e s m args below meth c s₁, BodyLoose p l y (headSpec ws rm) cc maxL ret e s m args below meth c s₁ → c.maxLocals = maxL → Pc args s →
      W p l e (headSpec ws rm).room s m args below meth c s.heap [] 0 0 (vx_MQ below Qc XC args s mc ms free) (entryFrame m args maxL)) : vx_Met l y ws rm Pc Qc XC mc ms free := by
  refine MetFree.of_bodyS (code := cc) (maxLocals := maxL) (ret := ret) hy ?_ ?_
  · intro args s m h hn
    obtain ⟨m9, meth, c, hn9, h1, h2, h3, h4, -, h5, h6, -⟩ := Cond.codeWith_spec (atoms_spec (ws := ws) h _ (by rw [hw]; exact List.mem_cons_self))
    cases hn.symm.trans hn9
    exact ⟨meth, c, h1, h2, h3, h4, h5, h6⟩
  · intro p e s m args below meth c s₁ B hml hP _
    have hh0 : s₁.heap = s.heap := by rw [B.state]; rfl
    obtain ⟨t, a1, o, b1, b2, b3⟩ := body p e s m args below meth c s₁ B hml hP s₁ hh0 (Stand.of_body B)
    exact ⟨t, o, a1, b1, b2, b3⟩
/-! ===== END ===== -/

-- ===== PART A: goes FIRST, ahead of the names: the tables' words, and 'selects' of the private methods out of them =====
/-- a private method of a class that the tables say can be made, by its rows of tables_1 -/
def lw_okq (q : MethodName × Nat) : Prop := (q.1.cls ≠ "java/lang/invoke/MethodHandle" ∧ q.1.cls ≠ "java/lang/invoke/VarHandle") ∧ Cond.instantiable q.1.cls q.2 ∈ tables_1 ∧ Cond.privateMethod q.1 ∈ tables_1 ∧ Cond.instanceMethod q.1 ∈ tables_1
theorem lw_p0 : lw_okq (⟨"TextDesk", "makeDraftTheBuilder", "()V"⟩, 8) := ⟨⟨by decide +kernel, by decide +kernel⟩, List.mem_of_getElem? (i := 20) (by decide +kernel), List.mem_of_getElem? (i := 215) (by decide +kernel), List.mem_of_getElem? (i := 216) (by decide +kernel)⟩
theorem lw_p1 : lw_okq (⟨"java/lang/Throwable", "fillInStackTrace", "(I)Ljava/lang/Throwable;"⟩, 6) := ⟨⟨by decide +kernel, by decide +kernel⟩, List.mem_of_getElem? (i := 272) (by decide +kernel), List.mem_of_getElem? (i := 270) (by decide +kernel), List.mem_of_getElem? (i := 271) (by decide +kernel)⟩
theorem lw_p2 : lw_okq (⟨"TextDesk", "textNumbered", "(I)LTextDesk$Text;"⟩, 8) := ⟨⟨by decide +kernel, by decide +kernel⟩, List.mem_of_getElem? (i := 20) (by decide +kernel), List.mem_of_getElem? (i := 328) (by decide +kernel), List.mem_of_getElem? (i := 329) (by decide +kernel)⟩
theorem lw_p3 : lw_okq (⟨"TextDesk", "refuseSpilledDraft", "()V"⟩, 8) := ⟨⟨by decide +kernel, by decide +kernel⟩, List.mem_of_getElem? (i := 20) (by decide +kernel), List.mem_of_getElem? (i := 336) (by decide +kernel), List.mem_of_getElem? (i := 337) (by decide +kernel)⟩
theorem lw_p4 : lw_okq (⟨"TextDesk", "keepText", "(LTextDesk$Text;)I"⟩, 8) := ⟨⟨by decide +kernel, by decide +kernel⟩, List.mem_of_getElem? (i := 20) (by decide +kernel), List.mem_of_getElem? (i := 392) (by decide +kernel), List.mem_of_getElem? (i := 393) (by decide +kernel)⟩
theorem lw_p5 : lw_okq (⟨"TextDesk", "keepRange", "(LTextDesk$Text;II)I"⟩, 8) := ⟨⟨by decide +kernel, by decide +kernel⟩, List.mem_of_getElem? (i := 20) (by decide +kernel), List.mem_of_getElem? (i := 441) (by decide +kernel), List.mem_of_getElem? (i := 442) (by decide +kernel)⟩
theorem lw_p6 : lw_okq (⟨"TextDesk$Decoder", "readRow", "(LTextDesk$Row;II)V"⟩, 2) := ⟨⟨by decide +kernel, by decide +kernel⟩, List.mem_of_getElem? (i := 53) (by decide +kernel), List.mem_of_getElem? (i := 582) (by decide +kernel), List.mem_of_getElem? (i := 583) (by decide +kernel)⟩
theorem lw_p7 : lw_okq (⟨"TextDesk$Decoder", "readPrefixed", "(LTextDesk$Row;IIZ)V"⟩, 2) := ⟨⟨by decide +kernel, by decide +kernel⟩, List.mem_of_getElem? (i := 53) (by decide +kernel), List.mem_of_getElem? (i := 590) (by decide +kernel), List.mem_of_getElem? (i := 591) (by decide +kernel)⟩
theorem lw_p8 : lw_okq (⟨"TextDesk$Decoder", "setRow", "(II)V"⟩, 2) := ⟨⟨by decide +kernel, by decide +kernel⟩, List.mem_of_getElem? (i := 53) (by decide +kernel), List.mem_of_getElem? (i := 594) (by decide +kernel), List.mem_of_getElem? (i := 595) (by decide +kernel)⟩
theorem lw_p9 : lw_okq (⟨"TextDesk$Decoder", "readTwo", "(II)V"⟩, 2) := ⟨⟨by decide +kernel, by decide +kernel⟩, List.mem_of_getElem? (i := 53) (by decide +kernel), List.mem_of_getElem? (i := 610) (by decide +kernel), List.mem_of_getElem? (i := 611) (by decide +kernel)⟩
theorem lw_p10 : lw_okq (⟨"TextDeskModel", "isText", "(I)Z"⟩, 14) := ⟨⟨by decide +kernel, by decide +kernel⟩, List.mem_of_getElem? (i := 646) (by decide +kernel), List.mem_of_getElem? (i := 711) (by decide +kernel), List.mem_of_getElem? (i := 712) (by decide +kernel)⟩
theorem lw_p11 : lw_okq (⟨"TextDeskModel", "make", "(I)V"⟩, 14) := ⟨⟨by decide +kernel, by decide +kernel⟩, List.mem_of_getElem? (i := 646) (by decide +kernel), List.mem_of_getElem? (i := 715) (by decide +kernel), List.mem_of_getElem? (i := 716) (by decide +kernel)⟩
theorem lw_p12 : lw_okq (⟨"TextDeskModel", "makePart", "(III)V"⟩, 14) := ⟨⟨by decide +kernel, by decide +kernel⟩, List.mem_of_getElem? (i := 646) (by decide +kernel), List.mem_of_getElem? (i := 719) (by decide +kernel), List.mem_of_getElem? (i := 720) (by decide +kernel)⟩
theorem lw_p13 : lw_okq (⟨"TextDeskModel", "unitOf", "(II)I"⟩, 14) := ⟨⟨by decide +kernel, by decide +kernel⟩, List.mem_of_getElem? (i := 646) (by decide +kernel), List.mem_of_getElem? (i := 723) (by decide +kernel), List.mem_of_getElem? (i := 724) (by decide +kernel)⟩
theorem lw_p14 : lw_okq (⟨"TextDeskModel", "addMade", "()I"⟩, 14) := ⟨⟨by decide +kernel, by decide +kernel⟩, List.mem_of_getElem? (i := 646) (by decide +kernel), List.mem_of_getElem? (i := 753) (by decide +kernel), List.mem_of_getElem? (i := 754) (by decide +kernel)⟩
theorem lw_p15 : lw_okq (⟨"TextDeskModel", "stands", "(III)Z"⟩, 14) := ⟨⟨by decide +kernel, by decide +kernel⟩, List.mem_of_getElem? (i := 646) (by decide +kernel), List.mem_of_getElem? (i := 769) (by decide +kernel), List.mem_of_getElem? (i := 770) (by decide +kernel)⟩
def lw_privs_1 : List (MethodName × Nat) := [(⟨"TextDesk", "makeDraftTheBuilder", "()V"⟩, 8), (⟨"java/lang/Throwable", "fillInStackTrace", "(I)Ljava/lang/Throwable;"⟩, 6), (⟨"TextDesk", "textNumbered", "(I)LTextDesk$Text;"⟩, 8), (⟨"TextDesk", "refuseSpilledDraft", "()V"⟩, 8), (⟨"TextDesk", "keepText", "(LTextDesk$Text;)I"⟩, 8), (⟨"TextDesk", "keepRange", "(LTextDesk$Text;II)I"⟩, 8), (⟨"TextDesk$Decoder", "readRow", "(LTextDesk$Row;II)V"⟩, 2), (⟨"TextDesk$Decoder", "readPrefixed", "(LTextDesk$Row;IIZ)V"⟩, 2), (⟨"TextDesk$Decoder", "setRow", "(II)V"⟩, 2), (⟨"TextDesk$Decoder", "readTwo", "(II)V"⟩, 2), (⟨"TextDeskModel", "isText", "(I)Z"⟩, 14), (⟨"TextDeskModel", "make", "(I)V"⟩, 14), (⟨"TextDeskModel", "makePart", "(III)V"⟩, 14), (⟨"TextDeskModel", "unitOf", "(II)I"⟩, 14), (⟨"TextDeskModel", "addMade", "()I"⟩, 14), (⟨"TextDeskModel", "stands", "(III)Z"⟩, 14)]
theorem lw_r1 : ∀ q ∈ lw_privs_1, lw_okq q := List.forall_mem_cons.mpr ⟨lw_p0, List.forall_mem_cons.mpr ⟨lw_p1, List.forall_mem_cons.mpr ⟨lw_p2, List.forall_mem_cons.mpr ⟨lw_p3, List.forall_mem_cons.mpr ⟨lw_p4, List.forall_mem_cons.mpr ⟨lw_p5, List.forall_mem_cons.mpr ⟨lw_p6, List.forall_mem_cons.mpr ⟨lw_p7, List.forall_mem_cons.mpr ⟨lw_p8, List.forall_mem_cons.mpr ⟨lw_p9, List.forall_mem_cons.mpr ⟨lw_p10, List.forall_mem_cons.mpr ⟨lw_p11, List.forall_mem_cons.mpr ⟨lw_p12, List.forall_mem_cons.mpr ⟨lw_p13, List.forall_mem_cons.mpr ⟨lw_p14, List.forall_mem_cons.mpr ⟨lw_p15, fun _ h => absurd h List.not_mem_nil⟩⟩⟩⟩⟩⟩⟩⟩⟩⟩⟩⟩⟩⟩⟩⟩
theorem lw_p16 : lw_okq (⟨"TextDeskModel", "fail", "(I)I"⟩, 14) := ⟨⟨by decide +kernel, by decide +kernel⟩, List.mem_of_getElem? (i := 646) (by decide +kernel), List.mem_of_getElem? (i := 773) (by decide +kernel), List.mem_of_getElem? (i := 774) (by decide +kernel)⟩
theorem lw_p17 : lw_okq (⟨"TextDeskModel", "pair", "(II)Z"⟩, 14) := ⟨⟨by decide +kernel, by decide +kernel⟩, List.mem_of_getElem? (i := 646) (by decide +kernel), List.mem_of_getElem? (i := 789) (by decide +kernel), List.mem_of_getElem? (i := 790) (by decide +kernel)⟩
theorem lw_p18 : lw_okq (⟨"TextDeskModel", "characterAt", "(II)I"⟩, 14) := ⟨⟨by decide +kernel, by decide +kernel⟩, List.mem_of_getElem? (i := 646) (by decide +kernel), List.mem_of_getElem? (i := 793) (by decide +kernel), List.mem_of_getElem? (i := 794) (by decide +kernel)⟩
theorem lw_p19 : lw_okq (⟨"TextDeskModel", "difference", "(II)I"⟩, 14) := ⟨⟨by decide +kernel, by decide +kernel⟩, List.mem_of_getElem? (i := 646) (by decide +kernel), List.mem_of_getElem? (i := 809) (by decide +kernel), List.mem_of_getElem? (i := 810) (by decide +kernel)⟩
theorem lw_p20 : lw_okq (⟨"TextDeskModel", "encodeAt", "(III)I"⟩, 14) := ⟨⟨by decide +kernel, by decide +kernel⟩, List.mem_of_getElem? (i := 646) (by decide +kernel), List.mem_of_getElem? (i := 825) (by decide +kernel), List.mem_of_getElem? (i := 826) (by decide +kernel)⟩
theorem lw_p21 : lw_okq (⟨"TextDeskModel", "utf", "(I)V"⟩, 14) := ⟨⟨by decide +kernel, by decide +kernel⟩, List.mem_of_getElem? (i := 646) (by decide +kernel), List.mem_of_getElem? (i := 829) (by decide +kernel), List.mem_of_getElem? (i := 830) (by decide +kernel)⟩
theorem lw_p22 : lw_okq (⟨"TextDeskModel", "put", "(I)V"⟩, 14) := ⟨⟨by decide +kernel, by decide +kernel⟩, List.mem_of_getElem? (i := 646) (by decide +kernel), List.mem_of_getElem? (i := 833) (by decide +kernel), List.mem_of_getElem? (i := 834) (by decide +kernel)⟩
theorem lw_p23 : lw_okq (⟨"TextDeskModel", "modified", "(I)V"⟩, 14) := ⟨⟨by decide +kernel, by decide +kernel⟩, List.mem_of_getElem? (i := 646) (by decide +kernel), List.mem_of_getElem? (i := 838) (by decide +kernel), List.mem_of_getElem? (i := 839) (by decide +kernel)⟩
theorem lw_p24 : lw_okq (⟨"TextDeskModel", "readAt", "(II)I"⟩, 14) := ⟨⟨by decide +kernel, by decide +kernel⟩, List.mem_of_getElem? (i := 646) (by decide +kernel), List.mem_of_getElem? (i := 850) (by decide +kernel), List.mem_of_getElem? (i := 851) (by decide +kernel)⟩
theorem lw_p25 : lw_okq (⟨"TextDeskModel", "begun", "(IIZ)I"⟩, 14) := ⟨⟨by decide +kernel, by decide +kernel⟩, List.mem_of_getElem? (i := 646) (by decide +kernel), List.mem_of_getElem? (i := 854) (by decide +kernel), List.mem_of_getElem? (i := 855) (by decide +kernel)⟩
theorem lw_p26 : lw_okq (⟨"TextDeskModel", "guess", "(III)I"⟩, 14) := ⟨⟨by decide +kernel, by decide +kernel⟩, List.mem_of_getElem? (i := 646) (by decide +kernel), List.mem_of_getElem? (i := 858) (by decide +kernel), List.mem_of_getElem? (i := 859) (by decide +kernel)⟩
theorem lw_p27 : lw_okq (⟨"TextDeskModel", "agree", "(I)I"⟩, 14) := ⟨⟨by decide +kernel, by decide +kernel⟩, List.mem_of_getElem? (i := 646) (by decide +kernel), List.mem_of_getElem? (i := 867) (by decide +kernel), List.mem_of_getElem? (i := 868) (by decide +kernel)⟩
def lw_privs_2 : List (MethodName × Nat) := [(⟨"TextDeskModel", "fail", "(I)I"⟩, 14), (⟨"TextDeskModel", "pair", "(II)Z"⟩, 14), (⟨"TextDeskModel", "characterAt", "(II)I"⟩, 14), (⟨"TextDeskModel", "difference", "(II)I"⟩, 14), (⟨"TextDeskModel", "encodeAt", "(III)I"⟩, 14), (⟨"TextDeskModel", "utf", "(I)V"⟩, 14), (⟨"TextDeskModel", "put", "(I)V"⟩, 14), (⟨"TextDeskModel", "modified", "(I)V"⟩, 14), (⟨"TextDeskModel", "readAt", "(II)I"⟩, 14), (⟨"TextDeskModel", "begun", "(IIZ)I"⟩, 14), (⟨"TextDeskModel", "guess", "(III)I"⟩, 14), (⟨"TextDeskModel", "agree", "(I)I"⟩, 14)]
theorem lw_r2 : ∀ q ∈ lw_privs_2, lw_okq q := List.forall_mem_cons.mpr ⟨lw_p16, List.forall_mem_cons.mpr ⟨lw_p17, List.forall_mem_cons.mpr ⟨lw_p18, List.forall_mem_cons.mpr ⟨lw_p19, List.forall_mem_cons.mpr ⟨lw_p20, List.forall_mem_cons.mpr ⟨lw_p21, List.forall_mem_cons.mpr ⟨lw_p22, List.forall_mem_cons.mpr ⟨lw_p23, List.forall_mem_cons.mpr ⟨lw_p24, List.forall_mem_cons.mpr ⟨lw_p25, List.forall_mem_cons.mpr ⟨lw_p26, List.forall_mem_cons.mpr ⟨lw_p27, fun _ h => absurd h List.not_mem_nil⟩⟩⟩⟩⟩⟩⟩⟩⟩⟩⟩⟩
def lw_privs : List (MethodName × Nat) := lw_privs_1 ++ (lw_privs_2)
def lw_tbl : List Cond := k2_sels lw_privs ++ tables_1
theorem lw_privs_ok : ∀ q ∈ lw_privs, lw_okq q := by
  show ∀ q ∈ lw_privs_1 ++ (lw_privs_2), lw_okq q
  exact List.forall_mem_append.mpr ⟨lw_r1, lw_r2⟩
end
section
def F_DC : u_T := fun k => match k with
  | 0 => ("TextDesk$Decoder", "code", "I", false)
  | _ => ("TextDesk$Decoder", "width", "I", false)
def t_DC : Nat → FieldType := fun k => match k with
  | 0 => .int
  | _ => .int
theorem n_DC : ∀ a, a < 2 → ∀ b, b < 2 → a ≠ b → (F_DC a).2.1 ≠ (F_DC b).2.1 := by decide +kernel
theorem t_DC_ok : ∀ k, k < 2 → parseFieldDescriptor (F_DC k).2.2.1 = some (t_DC k) := by decide +kernel
def F_NT : u_T := fun k => match k with
  | 0 => ("TextDesk$Text", "size", "I", true)
  | 1 => ("TextDesk$Text", "isNarrow", "Z", true)
  | _ => ("TextDesk$NarrowText", "units", "[B", true)
def t_NT : Nat → FieldType := fun k => match k with
  | 0 => .int
  | 1 => .boolean
  | _ => .array .byte
theorem n_NT : ∀ a, a < 3 → ∀ b, b < 3 → a ≠ b → (F_NT a).2.1 ≠ (F_NT b).2.1 := by decide +kernel
theorem t_NT_ok : ∀ k, k < 3 → parseFieldDescriptor (F_NT k).2.2.1 = some (t_NT k) := by decide +kernel
def F_WT : u_T := fun k => match k with
  | 0 => ("TextDesk$Text", "size", "I", true)
  | 1 => ("TextDesk$Text", "isNarrow", "Z", true)
  | _ => ("TextDesk$WideText", "units", "[C", true)
def t_WT : Nat → FieldType := fun k => match k with
  | 0 => .int
  | 1 => .boolean
  | _ => .array .char
theorem n_WT : ∀ a, a < 3 → ∀ b, b < 3 → a ≠ b → (F_WT a).2.1 ≠ (F_WT b).2.1 := by decide +kernel
theorem t_WT_ok : ∀ k, k < 3 → parseFieldDescriptor (F_WT k).2.2.1 = some (t_WT k) := by decide +kernel
def F_JT : u_T := fun k => match k with
  | 0 => ("TextDesk$Text", "size", "I", true)
  | 1 => ("TextDesk$Text", "isNarrow", "Z", true)
  | 2 => ("TextDesk$JoinedText", "left", "LTextDesk$Text;", true)
  | 3 => ("TextDesk$JoinedText", "right", "LTextDesk$Text;", true)
  | _ => ("TextDesk$JoinedText", "flat", "LTextDesk$Text;", false)
def t_JT : Nat → FieldType := fun k => match k with
  | 0 => .int
  | 1 => .boolean
  | 2 => .object "TextDesk$Text"
  | 3 => .object "TextDesk$Text"
  | _ => .object "TextDesk$Text"
theorem n_JT : ∀ a, a < 5 → ∀ b, b < 5 → a ≠ b → (F_JT a).2.1 ≠ (F_JT b).2.1 := by decide +kernel
theorem t_JT_ok : ∀ k, k < 5 → parseFieldDescriptor (F_JT k).2.2.1 = some (t_JT k) := by decide +kernel
def F_RW : u_T := fun k => match k with
  | 0 => ("TextDesk$Row", "items", "[I", true)
  | 1 => ("TextDesk$Row", "size", "I", false)
  | _ => ("TextDesk$Row", "spilled", "Z", false)
def t_RW : Nat → FieldType := fun k => match k with
  | 0 => .array .int
  | 1 => .int
  | _ => .boolean
theorem n_RW : ∀ a, a < 3 → ∀ b, b < 3 → a ≠ b → (F_RW a).2.1 ≠ (F_RW b).2.1 := by decide +kernel
theorem t_RW_ok : ∀ k, k < 3 → parseFieldDescriptor (F_RW k).2.2.1 = some (t_RW k) := by decide +kernel
def F_DK : u_T := fun k => match k with
  | 0 => ("TextDesk", "texts", "[LTextDesk$Text;", true)
  | 1 => ("TextDesk", "textCount", "I", false)
  | 2 => ("TextDesk", "symbols", "[LTextDesk$Text;", true)
  | 3 => ("TextDesk", "symbolCount", "I", false)
  | 4 => ("TextDesk", "bytes", "LTextDesk$Row;", true)
  | 5 => ("TextDesk", "decoder", "LTextDesk$Decoder;", true)
  | 6 => ("TextDesk", "builder", "LTextDesk$Row;", false)
  | _ => ("TextDesk", "draft", "LTextDesk$Row;", false)
def t_DK : Nat → FieldType := fun k => match k with
  | 0 => .array (.object "TextDesk$Text")
  | 1 => .int
  | 2 => .array (.object "TextDesk$Text")
  | 3 => .int
  | 4 => .object "TextDesk$Row"
  | 5 => .object "TextDesk$Decoder"
  | 6 => .object "TextDesk$Row"
  | _ => .object "TextDesk$Row"
theorem n_DK : ∀ a, a < 8 → ∀ b, b < 8 → a ≠ b → (F_DK a).2.1 ≠ (F_DK b).2.1 := by decide +kernel
theorem t_DK_ok : ∀ k, k < 8 → parseFieldDescriptor (F_DK k).2.2.1 = some (t_DK k) := by decide +kernel
def F_MD : u_T := fun k => match k with
  | 0 => ("TextDeskModel", "thrown", "I", false)
  | 1 => ("TextDeskModel", "count", "I", false)
  | 2 => ("TextDeskModel", "size", "[I", true)
  | 3 => ("TextDeskModel", "units", "[I", true)
  | 4 => ("TextDeskModel", "builtSize", "I", false)
  | 5 => ("TextDeskModel", "builder", "[I", true)
  | 6 => ("TextDeskModel", "madeSize", "I", false)
  | 7 => ("TextDeskModel", "made", "[I", true)
  | 8 => ("TextDeskModel", "byteCount", "I", false)
  | 9 => ("TextDeskModel", "bytes", "[I", true)
  | 10 => ("TextDeskModel", "symbols", "I", false)
  | 11 => ("TextDeskModel", "symbolOf", "[I", true)
  | 12 => ("TextDeskModel", "codeSize", "I", false)
  | _ => ("TextDeskModel", "code", "[I", true)
def t_MD : Nat → FieldType := fun k => match k with
  | 0 => .int
  | 1 => .int
  | 2 => .array .int
  | 3 => .array .int
  | 4 => .int
  | 5 => .array .int
  | 6 => .int
  | 7 => .array .int
  | 8 => .int
  | 9 => .array .int
  | 10 => .int
  | 11 => .array .int
  | 12 => .int
  | _ => .array .int
theorem n_MD : ∀ a, a < 14 → ∀ b, b < 14 → a ≠ b → (F_MD a).2.1 ≠ (F_MD b).2.1 := by decide +kernel
theorem t_MD_ok : ∀ k, k < 14 → parseFieldDescriptor (F_MD k).2.2.1 = some (t_MD k) := by decide +kernel
abbrev dk_cl : List vw_C := [("TextDesk$Decoder", F_DC, 2), ("TextDesk$NarrowText", F_NT, 3), ("TextDesk$WideText", F_WT, 3), ("TextDesk$JoinedText", F_JT, 5), ("TextDesk$Row", F_RW, 3), ("TextDesk", F_DK, 8), ("TextDeskModel", F_MD, 14)]
abbrev b_DK_init : ByteArray := prog_1_method_1_code
def y_DK_init : MethodName := ⟨"TextDesk", "<init>", "()V"⟩
abbrev b_RW_init : ByteArray := prog_6_method_1_code
def y_RW_init : MethodName := ⟨"TextDesk$Row", "<init>", "(I)V"⟩
abbrev b_SQ_init : ByteArray := prog_7_method_1_code
def y_SQ_init : MethodName := ⟨"TextDesk$Sequence", "<init>", "()V"⟩
abbrev b_DC_init : ByteArray := prog_2_method_1_code
def y_DC_init : MethodName := ⟨"TextDesk$Decoder", "<init>", "()V"⟩
abbrev b_DK_reverse : ByteArray := prog_1_method_5_code
def y_DK_reverse : MethodName := ⟨"TextDesk", "reverse", "()V"⟩
abbrev b_RW_drop : ByteArray := prog_6_method_8_code
def y_RW_drop : MethodName := ⟨"TextDesk$Row", "drop", "()V"⟩
abbrev b_RW_size : ByteArray := prog_6_method_2_code
def y_RW_size : MethodName := ⟨"TextDesk$Row", "size", "()I"⟩
abbrev b_DK_isPairAt : ByteArray := prog_1_method_36_code
def y_DK_isPairAt : MethodName := ⟨"TextDesk", "isPairAt", "(LTextDesk$Sequence;I)Z"⟩
abbrev b_JT_get : ByteArray := prog_4_method_2_code
def y_JT_get : MethodName := ⟨"TextDesk$JoinedText", "get", "(I)I"⟩
abbrev b_TX_size : ByteArray := prog_8_method_2_code
def y_TX_size : MethodName := ⟨"TextDesk$Text", "size", "()I"⟩
abbrev b_JT_pourInto : ByteArray := prog_4_method_3_code
def y_JT_pourInto : MethodName := ⟨"TextDesk$JoinedText", "pourInto", "(LTextDesk$Row;)V"⟩
abbrev b_TX_pourInto : ByteArray := prog_8_method_4_code
def y_TX_pourInto : MethodName := ⟨"TextDesk$Text", "pourInto", "(LTextDesk$Row;)V"⟩
abbrev b_RW_appendRange : ByteArray := prog_6_method_7_code
def y_RW_appendRange : MethodName := ⟨"TextDesk$Row", "appendRange", "(LTextDesk$Sequence;II)V"⟩
abbrev b_NT_get : ByteArray := prog_5_method_2_code
def y_NT_get : MethodName := ⟨"TextDesk$NarrowText", "get", "(I)I"⟩
abbrev b_RW_get : ByteArray := prog_6_method_3_code
def y_RW_get : MethodName := ⟨"TextDesk$Row", "get", "(I)I"⟩
abbrev b_WT_get : ByteArray := prog_9_method_2_code
def y_WT_get : MethodName := ⟨"TextDesk$WideText", "get", "(I)I"⟩
abbrev b_RW_append : ByteArray := prog_6_method_6_code
def y_RW_append : MethodName := ⟨"TextDesk$Row", "append", "(I)V"⟩
abbrev b_DK_textOf : ByteArray := prog_1_method_32_code
def y_DK_textOf : MethodName := ⟨"TextDesk", "textOf", "(LTextDesk$Row;)LTextDesk$Text;"⟩
abbrev b_WT_init : ByteArray := prog_9_method_1_code
def y_WT_init : MethodName := ⟨"TextDesk$WideText", "<init>", "(LTextDesk$Row;)V"⟩
abbrev b_TX_init : ByteArray := prog_8_method_1_code
def y_TX_init : MethodName := ⟨"TextDesk$Text", "<init>", "(IZ)V"⟩
abbrev b_NT_init : ByteArray := prog_5_method_1_code
def y_NT_init : MethodName := ⟨"TextDesk$NarrowText", "<init>", "(LTextDesk$Row;)V"⟩
abbrev b_DK_isHigh : ByteArray := prog_1_method_34_code
def y_DK_isHigh : MethodName := ⟨"TextDesk", "isHigh", "(I)Z"⟩
abbrev b_DK_isLow : ByteArray := prog_1_method_35_code
def y_DK_isLow : MethodName := ⟨"TextDesk", "isLow", "(I)Z"⟩
abbrev b_DK_makeDraftTheBuilder : ByteArray := prog_1_method_27_code
def y_DK_makeDraftTheBuilder : MethodName := ⟨"TextDesk", "makeDraftTheBuilder", "()V"⟩
abbrev b_DK_clear : ByteArray := prog_1_method_23_code
def y_DK_clear : MethodName := ⟨"TextDesk", "clear", "()V"⟩
abbrev b_LW_unit : ByteArray := method_3_code
def y_LW_unit : MethodName := ⟨"TextDeskLaw", "unit", "(LTextDesk;I[J)I"⟩
abbrev b_DK_unit : ByteArray := prog_1_method_2_code
def y_DK_unit : MethodName := ⟨"TextDesk", "unit", "(I)I"⟩
abbrev b_RW_isFull : ByteArray := prog_6_method_4_code
def y_RW_isFull : MethodName := ⟨"TextDesk$Row", "isFull", "()Z"⟩
abbrev b_LW_insert : ByteArray := method_4_code
def y_LW_insert : MethodName := ⟨"TextDeskLaw", "insert", "(LTextDesk;II[J)I"⟩
abbrev b_DK_insert : ByteArray := prog_1_method_3_code
def y_DK_insert : MethodName := ⟨"TextDesk", "insert", "(II)I"⟩
abbrev b_DK_textNumbered : ByteArray := prog_1_method_24_code
def y_DK_textNumbered : MethodName := ⟨"TextDesk", "textNumbered", "(I)LTextDesk$Text;"⟩
abbrev b_DK_refuseSpilledDraft : ByteArray := prog_1_method_28_code
def y_DK_refuseSpilledDraft : MethodName := ⟨"TextDesk", "refuseSpilledDraft", "()V"⟩
abbrev b_RW_hasSpilled : ByteArray := prog_6_method_5_code
def y_RW_hasSpilled : MethodName := ⟨"TextDesk$Row", "hasSpilled", "()Z"⟩
abbrev b_LW_delete : ByteArray := method_5_code
def y_LW_delete : MethodName := ⟨"TextDeskLaw", "delete", "(LTextDesk;II)I"⟩
abbrev b_DK_delete : ByteArray := prog_1_method_4_code
def y_DK_delete : MethodName := ⟨"TextDesk", "delete", "(II)V"⟩
abbrev b_DK_refuseBadRange : ByteArray := prog_1_method_29_code
def y_DK_refuseBadRange : MethodName := ⟨"TextDesk", "refuseBadRange", "(III)V"⟩
abbrev b_LW_built : ByteArray := method_6_code
def y_LW_built : MethodName := ⟨"TextDeskLaw", "built", "(LTextDesk;I[J)I"⟩
abbrev b_DK_built : ByteArray := prog_1_method_6_code
def y_DK_built : MethodName := ⟨"TextDesk", "built", "(I)I"⟩
abbrev b_DK_sizeOrItem : ByteArray := prog_1_method_31_code
def y_DK_sizeOrItem : MethodName := ⟨"TextDesk", "sizeOrItem", "(LTextDesk$Sequence;I)I"⟩
abbrev b_LW_take : ByteArray := method_7_code
def y_LW_take : MethodName := ⟨"TextDeskLaw", "take", "(LTextDesk;[J)I"⟩
abbrev b_DK_take : ByteArray := prog_1_method_7_code
def y_DK_take : MethodName := ⟨"TextDesk", "take", "()I"⟩
abbrev b_DK_keepText : ByteArray := prog_1_method_25_code
def y_DK_keepText : MethodName := ⟨"TextDesk", "keepText", "(LTextDesk$Text;)I"⟩
abbrev b_LW_join : ByteArray := method_8_code
def y_LW_join : MethodName := ⟨"TextDeskLaw", "join", "(LTextDesk;II[J)I"⟩
abbrev b_DK_join : ByteArray := prog_1_method_8_code
def y_DK_join : MethodName := ⟨"TextDesk", "join", "(II)I"⟩
abbrev b_DK_joined : ByteArray := prog_1_method_33_code
def y_DK_joined : MethodName := ⟨"TextDesk", "joined", "(LTextDesk$Text;LTextDesk$Text;)LTextDesk$Text;"⟩
abbrev b_JT_init : ByteArray := prog_4_method_1_code
def y_JT_init : MethodName := ⟨"TextDesk$JoinedText", "<init>", "(LTextDesk$Text;LTextDesk$Text;)V"⟩
abbrev b_TX_isNarrow : ByteArray := prog_8_method_3_code
def y_TX_isNarrow : MethodName := ⟨"TextDesk$Text", "isNarrow", "()Z"⟩
abbrev b_LW_part : ByteArray := method_9_code
def y_LW_part : MethodName := ⟨"TextDeskLaw", "part", "(LTextDesk;III[J)I"⟩
abbrev b_DK_part : ByteArray := prog_1_method_9_code
def y_DK_part : MethodName := ⟨"TextDesk", "part", "(III)I"⟩
abbrev b_DK_keepRange : ByteArray := prog_1_method_26_code
def y_DK_keepRange : MethodName := ⟨"TextDesk", "keepRange", "(LTextDesk$Text;II)I"⟩
abbrev b_LW_replace : ByteArray := method_10_code
def y_LW_replace : MethodName := ⟨"TextDeskLaw", "replace", "(LTextDesk;III[J)I"⟩
abbrev b_DK_replace : ByteArray := prog_1_method_10_code
def y_DK_replace : MethodName := ⟨"TextDesk", "replace", "(III)I"⟩
abbrev b_DK_standsAt : ByteArray := prog_1_method_39_code
def y_DK_standsAt : MethodName := ⟨"TextDesk", "standsAt", "(LTextDesk$Text;LTextDesk$Text;I)Z"⟩
abbrev b_LW_strip : ByteArray := method_11_code
def y_LW_strip : MethodName := ⟨"TextDeskLaw", "strip", "(LTextDesk;I[J)I"⟩
abbrev b_DK_strip : ByteArray := prog_1_method_11_code
def y_DK_strip : MethodName := ⟨"TextDesk", "strip", "(I)I"⟩
abbrev b_LW_at : ByteArray := method_12_code
def y_LW_at : MethodName := ⟨"TextDeskLaw", "at", "(LTextDesk;II[J)I"⟩
abbrev b_DK_at : ByteArray := prog_1_method_12_code
def y_DK_at : MethodName := ⟨"TextDesk", "at", "(II)I"⟩
abbrev b_LW_character : ByteArray := method_13_code
def y_LW_character : MethodName := ⟨"TextDeskLaw", "character", "(LTextDesk;II[J)I"⟩
abbrev b_DK_character : ByteArray := prog_1_method_13_code
def y_DK_character : MethodName := ⟨"TextDesk", "character", "(II)I"⟩
abbrev b_DK_characterAt : ByteArray := prog_1_method_37_code
def y_DK_characterAt : MethodName := ⟨"TextDesk", "characterAt", "(LTextDesk$Sequence;I)I"⟩
abbrev b_LW_narrow : ByteArray := method_14_code
def y_LW_narrow : MethodName := ⟨"TextDeskLaw", "narrow", "(LTextDesk;I[J)I"⟩
abbrev b_DK_narrow : ByteArray := prog_1_method_14_code
def y_DK_narrow : MethodName := ⟨"TextDesk", "narrow", "(I)Z"⟩
abbrev b_LW_hash : ByteArray := method_15_code
def y_LW_hash : MethodName := ⟨"TextDeskLaw", "hash", "(LTextDesk;I[J)I"⟩
abbrev b_DK_hash : ByteArray := prog_1_method_15_code
def y_DK_hash : MethodName := ⟨"TextDesk", "hash", "(I)I"⟩
abbrev b_LW_compare : ByteArray := method_16_code
def y_LW_compare : MethodName := ⟨"TextDeskLaw", "compare", "(LTextDesk;II[J)I"⟩
abbrev b_DK_compare : ByteArray := prog_1_method_16_code
def y_DK_compare : MethodName := ⟨"TextDesk", "compare", "(II)I"⟩
abbrev b_DK_difference : ByteArray := prog_1_method_38_code
def y_DK_difference : MethodName := ⟨"TextDesk", "difference", "(LTextDesk$Text;LTextDesk$Text;)I"⟩
abbrev b_LW_find : ByteArray := method_17_code
def y_LW_find : MethodName := ⟨"TextDeskLaw", "find", "(LTextDesk;IIIZ[J)I"⟩
abbrev b_DK_find : ByteArray := prog_1_method_17_code
def y_DK_find : MethodName := ⟨"TextDesk", "find", "(IIIZ)I"⟩
abbrev b_DK_lastPlace : ByteArray := prog_1_method_41_code
def y_DK_lastPlace : MethodName := ⟨"TextDesk", "lastPlace", "(LTextDesk$Text;LTextDesk$Text;I)I"⟩
abbrev b_DK_firstPlace : ByteArray := prog_1_method_40_code
def y_DK_firstPlace : MethodName := ⟨"TextDesk", "firstPlace", "(LTextDesk$Text;LTextDesk$Text;I)I"⟩
abbrev b_LW_symbol : ByteArray := method_18_code
def y_LW_symbol : MethodName := ⟨"TextDeskLaw", "symbol", "(LTextDesk;I[J)I"⟩
abbrev b_DK_symbol : ByteArray := prog_1_method_18_code
def y_DK_symbol : MethodName := ⟨"TextDesk", "symbol", "(I)I"⟩
abbrev b_LW_encode : ByteArray := method_19_code
def y_LW_encode : MethodName := ⟨"TextDeskLaw", "encode", "(LTextDesk;II[J)I"⟩
abbrev b_DK_encode : ByteArray := prog_1_method_19_code
def y_DK_encode : MethodName := ⟨"TextDesk", "encode", "(II)I"⟩
abbrev b_DK_refuseUnknownEncoding : ByteArray := prog_1_method_30_code
def y_DK_refuseUnknownEncoding : MethodName := ⟨"TextDesk", "refuseUnknownEncoding", "(I)V"⟩
abbrev b_EN_writeText : ByteArray := prog_3_method_2_code
def y_EN_writeText : MethodName := ⟨"TextDesk$Encoder", "writeText", "(LTextDesk$Text;ILTextDesk$Row;)V"⟩
abbrev b_EN_writeCode : ByteArray := prog_3_method_3_code
def y_EN_writeCode : MethodName := ⟨"TextDesk$Encoder", "writeCode", "(IILTextDesk$Row;)V"⟩
abbrev b_EN_writeUtf8 : ByteArray := prog_3_method_5_code
def y_EN_writeUtf8 : MethodName := ⟨"TextDesk$Encoder", "writeUtf8", "(ILTextDesk$Row;)V"⟩
abbrev b_EN_writeModified : ByteArray := prog_3_method_4_code
def y_EN_writeModified : MethodName := ⟨"TextDesk$Encoder", "writeModified", "(ILTextDesk$Row;)V"⟩
abbrev b_LW_type : ByteArray := method_20_code
def y_LW_type : MethodName := ⟨"TextDeskLaw", "type", "(LTextDesk;I[J)I"⟩
abbrev b_DK_type : ByteArray := prog_1_method_20_code
def y_DK_type : MethodName := ⟨"TextDesk", "type", "(I)I"⟩
abbrev b_LW_decode : ByteArray := method_21_code
def y_LW_decode : MethodName := ⟨"TextDeskLaw", "decode", "(LTextDesk;IZ[J)I"⟩
abbrev b_DK_decode : ByteArray := prog_1_method_21_code
def y_DK_decode : MethodName := ⟨"TextDesk", "decode", "(IZ)I"⟩
abbrev b_DC_readAll : ByteArray := prog_2_method_2_code
def y_DC_readAll : MethodName := ⟨"TextDesk$Decoder", "readAll", "(LTextDesk$Row;ILTextDesk$Row;)Z"⟩
abbrev b_DC_readRow : ByteArray := prog_2_method_4_code
def y_DC_readRow : MethodName := ⟨"TextDesk$Decoder", "readRow", "(LTextDesk$Row;II)V"⟩
abbrev b_DC_goodWidthUtf8 : ByteArray := prog_2_method_8_code
def y_DC_goodWidthUtf8 : MethodName := ⟨"TextDesk$Decoder", "goodWidthUtf8", "(I)I"⟩
abbrev b_DC_readPrefixed : ByteArray := prog_2_method_7_code
def y_DC_readPrefixed : MethodName := ⟨"TextDesk$Decoder", "readPrefixed", "(LTextDesk$Row;IIZ)V"⟩
abbrev b_DC_setRow : ByteArray := prog_2_method_5_code
def y_DC_setRow : MethodName := ⟨"TextDesk$Decoder", "setRow", "(II)V"⟩
abbrev b_DC_firstByteBase : ByteArray := prog_2_method_10_code
def y_DC_firstByteBase : MethodName := ⟨"TextDesk$Decoder", "firstByteBase", "(I)I"⟩
abbrev b_DC_lowestSecond : ByteArray := prog_2_method_11_code
def y_DC_lowestSecond : MethodName := ⟨"TextDesk$Decoder", "lowestSecond", "(I)I"⟩
abbrev b_DC_highestSecond : ByteArray := prog_2_method_12_code
def y_DC_highestSecond : MethodName := ⟨"TextDesk$Decoder", "highestSecond", "(IZ)I"⟩
abbrev b_DC_goodWidthModified : ByteArray := prog_2_method_9_code
def y_DC_goodWidthModified : MethodName := ⟨"TextDesk$Decoder", "goodWidthModified", "(I)I"⟩
abbrev b_DC_readTwo : ByteArray := prog_2_method_6_code
def y_DC_readTwo : MethodName := ⟨"TextDesk$Decoder", "readTwo", "(II)V"⟩
abbrev b_DC_appendCharacter : ByteArray := prog_2_method_3_code
def y_DC_appendCharacter : MethodName := ⟨"TextDesk$Decoder", "appendCharacter", "(ILTextDesk$Row;)V"⟩
abbrev b_LW_octet : ByteArray := method_22_code
def y_LW_octet : MethodName := ⟨"TextDeskLaw", "octet", "(LTextDesk;I[J)I"⟩
abbrev b_DK_octet : ByteArray := prog_1_method_22_code
def y_DK_octet : MethodName := ⟨"TextDesk", "octet", "(I)I"⟩
abbrev b_MD_init : ByteArray := prog_11_method_1_code
def y_MD_init : MethodName := ⟨"TextDeskModel", "<init>", "()V"⟩
abbrev b_MD_thrown : ByteArray := prog_11_method_2_code
def y_MD_thrown : MethodName := ⟨"TextDeskModel", "thrown", "()I"⟩
abbrev b_MD_unit : ByteArray := prog_11_method_14_code
def y_MD_unit : MethodName := ⟨"TextDeskModel", "unit", "(I)I"⟩
abbrev b_MD_out : ByteArray := prog_11_method_3_code
def y_MD_out : MethodName := ⟨"TextDeskModel", "out", "(II)Z"⟩
abbrev b_MD_insert : ByteArray := prog_11_method_15_code
def y_MD_insert : MethodName := ⟨"TextDeskModel", "insert", "(II)I"⟩
abbrev b_MD_isText : ByteArray := prog_11_method_12_code
def y_MD_isText : MethodName := ⟨"TextDeskModel", "isText", "(I)Z"⟩
abbrev b_MD_make : ByteArray := prog_11_method_10_code
def y_MD_make : MethodName := ⟨"TextDeskModel", "make", "(I)V"⟩
abbrev b_MD_makePart : ByteArray := prog_11_method_13_code
def y_MD_makePart : MethodName := ⟨"TextDeskModel", "makePart", "(III)V"⟩
abbrev b_MD_unitOf : ByteArray := prog_11_method_7_code
def y_MD_unitOf : MethodName := ⟨"TextDeskModel", "unitOf", "(II)I"⟩
abbrev b_MD_delete : ByteArray := prog_11_method_16_code
def y_MD_delete : MethodName := ⟨"TextDeskModel", "delete", "(II)V"⟩
abbrev b_MD_reverse : ByteArray := prog_11_method_17_code
def y_MD_reverse : MethodName := ⟨"TextDeskModel", "reverse", "()V"⟩
abbrev b_MD_high : ByteArray := prog_11_method_5_code
def y_MD_high : MethodName := ⟨"TextDeskModel", "high", "(I)Z"⟩
abbrev b_MD_low : ByteArray := prog_11_method_6_code
def y_MD_low : MethodName := ⟨"TextDeskModel", "low", "(I)Z"⟩
abbrev b_MD_built : ByteArray := prog_11_method_18_code
def y_MD_built : MethodName := ⟨"TextDeskModel", "built", "(I)I"⟩
abbrev b_MD_take : ByteArray := prog_11_method_19_code
def y_MD_take : MethodName := ⟨"TextDeskModel", "take", "()I"⟩
abbrev b_MD_addMade : ByteArray := prog_11_method_11_code
def y_MD_addMade : MethodName := ⟨"TextDeskModel", "addMade", "()I"⟩
abbrev b_MD_join : ByteArray := prog_11_method_20_code
def y_MD_join : MethodName := ⟨"TextDeskModel", "join", "(II)I"⟩
abbrev b_MD_part : ByteArray := prog_11_method_21_code
def y_MD_part : MethodName := ⟨"TextDeskModel", "part", "(III)I"⟩
abbrev b_MD_replace : ByteArray := prog_11_method_23_code
def y_MD_replace : MethodName := ⟨"TextDeskModel", "replace", "(III)I"⟩
abbrev b_MD_stands : ByteArray := prog_11_method_22_code
def y_MD_stands : MethodName := ⟨"TextDeskModel", "stands", "(III)Z"⟩
abbrev b_MD_fail : ByteArray := prog_11_method_4_code
def y_MD_fail : MethodName := ⟨"TextDeskModel", "fail", "(I)I"⟩
abbrev b_MD_strip : ByteArray := prog_11_method_24_code
def y_MD_strip : MethodName := ⟨"TextDeskModel", "strip", "(I)I"⟩
abbrev b_MD_at : ByteArray := prog_11_method_25_code
def y_MD_at : MethodName := ⟨"TextDeskModel", "at", "(II)I"⟩
abbrev b_MD_character : ByteArray := prog_11_method_26_code
def y_MD_character : MethodName := ⟨"TextDeskModel", "character", "(II)I"⟩
abbrev b_MD_pair : ByteArray := prog_11_method_8_code
def y_MD_pair : MethodName := ⟨"TextDeskModel", "pair", "(II)Z"⟩
abbrev b_MD_characterAt : ByteArray := prog_11_method_9_code
def y_MD_characterAt : MethodName := ⟨"TextDeskModel", "characterAt", "(II)I"⟩
abbrev b_MD_narrow : ByteArray := prog_11_method_27_code
def y_MD_narrow : MethodName := ⟨"TextDeskModel", "narrow", "(I)Z"⟩
abbrev b_MD_hash : ByteArray := prog_11_method_28_code
def y_MD_hash : MethodName := ⟨"TextDeskModel", "hash", "(I)I"⟩
abbrev b_MD_compare : ByteArray := prog_11_method_30_code
def y_MD_compare : MethodName := ⟨"TextDeskModel", "compare", "(II)I"⟩
abbrev b_MD_difference : ByteArray := prog_11_method_29_code
def y_MD_difference : MethodName := ⟨"TextDeskModel", "difference", "(II)I"⟩
abbrev b_MD_find : ByteArray := prog_11_method_31_code
def y_MD_find : MethodName := ⟨"TextDeskModel", "find", "(IIIZ)I"⟩
abbrev b_MD_symbol : ByteArray := prog_11_method_32_code
def y_MD_symbol : MethodName := ⟨"TextDeskModel", "symbol", "(I)I"⟩
abbrev b_MD_encode : ByteArray := prog_11_method_37_code
def y_MD_encode : MethodName := ⟨"TextDeskModel", "encode", "(II)I"⟩
abbrev b_MD_encodeAt : ByteArray := prog_11_method_35_code
def y_MD_encodeAt : MethodName := ⟨"TextDeskModel", "encodeAt", "(III)I"⟩
abbrev b_MD_utf : ByteArray := prog_11_method_34_code
def y_MD_utf : MethodName := ⟨"TextDeskModel", "utf", "(I)V"⟩
abbrev b_MD_put : ByteArray := prog_11_method_33_code
def y_MD_put : MethodName := ⟨"TextDeskModel", "put", "(I)V"⟩
abbrev b_MD_modified : ByteArray := prog_11_method_36_code
def y_MD_modified : MethodName := ⟨"TextDeskModel", "modified", "(I)V"⟩
abbrev b_MD_type : ByteArray := prog_11_method_38_code
def y_MD_type : MethodName := ⟨"TextDeskModel", "type", "(I)I"⟩
abbrev b_MD_decode : ByteArray := prog_11_method_44_code
def y_MD_decode : MethodName := ⟨"TextDeskModel", "decode", "(IZ)I"⟩
abbrev b_MD_readAt : ByteArray := prog_11_method_43_code
def y_MD_readAt : MethodName := ⟨"TextDeskModel", "readAt", "(II)I"⟩
abbrev b_MD_begun : ByteArray := prog_11_method_42_code
def y_MD_begun : MethodName := ⟨"TextDeskModel", "begun", "(IIZ)I"⟩
abbrev b_MD_guess : ByteArray := prog_11_method_40_code
def y_MD_guess : MethodName := ⟨"TextDeskModel", "guess", "(III)I"⟩
abbrev b_MD_may : ByteArray := prog_11_method_41_code
def y_MD_may : MethodName := ⟨"TextDeskModel", "may", "(IIZ)Z"⟩
abbrev b_MD_agree : ByteArray := prog_11_method_39_code
def y_MD_agree : MethodName := ⟨"TextDeskModel", "agree", "(I)I"⟩
abbrev b_MD_octet : ByteArray := prog_11_method_45_code
def y_MD_octet : MethodName := ⟨"TextDeskModel", "octet", "(I)I"⟩
abbrev b_MD_clear : ByteArray := prog_11_method_46_code
def y_MD_clear : MethodName := ⟨"TextDeskModel", "clear", "()V"⟩
abbrev b_LW_law : ByteArray := code
/-- the words that every walk has: those of the tables that stay good -/
def dk_all : List Cond := lw_tbl.filter goodWord
theorem dk_in {w : Cond} (i : Nat) (h : lw_tbl[i]? = some w) (g : goodWord w = true) : w ∈ dk_all := List.mem_filter.mpr ⟨List.mem_of_getElem? h, g⟩
theorem dk_good : GoodIn dk_all dk_all := fun w h => ⟨h, good_of_word (List.mem_filter.mp h).2⟩
theorem dk_goodc {w : Cond} (h : w ∈ dk_all) : GoodIn dk_all (w :: dk_all) := fun v hv => (List.mem_cons.mp hv).elim (fun e => by rw [e]; exact dk_good w h) (dk_good v)
def w_DK_init : List Cond := Cond.code y_DK_init b_DK_init 1 none :: dk_all
def w_RW_init : List Cond := Cond.code y_RW_init b_RW_init 2 none :: dk_all
def w_SQ_init : List Cond := Cond.code y_SQ_init b_SQ_init 1 none :: dk_all
def w_DC_init : List Cond := Cond.code y_DC_init b_DC_init 1 none :: dk_all
def w_DK_reverse : List Cond := Cond.code y_DK_reverse b_DK_reverse 2 none :: dk_all
def w_RW_drop : List Cond := Cond.code y_RW_drop b_RW_drop 1 none :: dk_all
def w_RW_size : List Cond := Cond.code y_RW_size b_RW_size 1 (some .int) :: dk_all
def w_DK_isPairAt : List Cond := Cond.code y_DK_isPairAt b_DK_isPairAt 2 (some .boolean) :: dk_all
def w_JT_get : List Cond := Cond.code y_JT_get b_JT_get 3 (some .int) :: dk_all
def w_TX_size : List Cond := Cond.code y_TX_size b_TX_size 1 (some .int) :: dk_all
def w_JT_pourInto : List Cond := Cond.code y_JT_pourInto b_JT_pourInto 2 none :: dk_all
def w_TX_pourInto : List Cond := Cond.code y_TX_pourInto b_TX_pourInto 2 none :: dk_all
def w_RW_appendRange : List Cond := Cond.code y_RW_appendRange b_RW_appendRange 6 none :: dk_all
def w_NT_get : List Cond := Cond.code y_NT_get b_NT_get 2 (some .int) :: dk_all
def w_RW_get : List Cond := Cond.code y_RW_get b_RW_get 2 (some .int) :: dk_all
def w_WT_get : List Cond := Cond.code y_WT_get b_WT_get 2 (some .int) :: dk_all
def w_RW_append : List Cond := Cond.code y_RW_append b_RW_append 2 none :: dk_all
def w_DK_textOf : List Cond := Cond.code y_DK_textOf b_DK_textOf 2 (some (.object "TextDesk$Text")) :: dk_all
def w_WT_init : List Cond := Cond.code y_WT_init b_WT_init 3 none :: dk_all
def w_TX_init : List Cond := Cond.code y_TX_init b_TX_init 3 none :: dk_all
def w_NT_init : List Cond := Cond.code y_NT_init b_NT_init 3 none :: dk_all
def w_DK_isHigh : List Cond := Cond.code y_DK_isHigh b_DK_isHigh 1 (some .boolean) :: dk_all
def w_DK_isLow : List Cond := Cond.code y_DK_isLow b_DK_isLow 1 (some .boolean) :: dk_all
def w_DK_makeDraftTheBuilder : List Cond := Cond.code y_DK_makeDraftTheBuilder b_DK_makeDraftTheBuilder 2 none :: dk_all
def w_DK_clear : List Cond := Cond.code y_DK_clear b_DK_clear 2 none :: dk_all
def w_LW_unit : List Cond := Cond.codeWith y_LW_unit b_LW_unit 4 (some .int) [((0 : Nat), (9 : Nat), (12 : Nat), (13 : Nat)), ((0 : Nat), (9 : Nat), (15 : Nat), (15 : Nat))] :: dk_all
def w_DK_unit : List Cond := Cond.code y_DK_unit b_DK_unit 2 (some .int) :: dk_all
def w_RW_isFull : List Cond := Cond.code y_RW_isFull b_RW_isFull 1 (some .boolean) :: dk_all
def w_LW_insert : List Cond := Cond.codeWith y_LW_insert b_LW_insert 5 (some .int) [((0 : Nat), (10 : Nat), (13 : Nat), (13 : Nat)), ((0 : Nat), (10 : Nat), (17 : Nat), (15 : Nat))] :: dk_all
def w_DK_insert : List Cond := Cond.code y_DK_insert b_DK_insert 4 (some .int) :: dk_all
def w_DK_textNumbered : List Cond := Cond.code y_DK_textNumbered b_DK_textNumbered 2 (some (.object "TextDesk$Text")) :: dk_all
def w_DK_refuseSpilledDraft : List Cond := Cond.code y_DK_refuseSpilledDraft b_DK_refuseSpilledDraft 1 none :: dk_all
def w_RW_hasSpilled : List Cond := Cond.code y_RW_hasSpilled b_RW_hasSpilled 1 (some .boolean) :: dk_all
def w_LW_delete : List Cond := Cond.codeWith y_LW_delete b_LW_delete 4 (some .int) [((0 : Nat), (6 : Nat), (9 : Nat), (25 : Nat))] :: dk_all
def w_DK_delete : List Cond := Cond.code y_DK_delete b_DK_delete 3 none :: dk_all
def w_DK_refuseBadRange : List Cond := Cond.code y_DK_refuseBadRange b_DK_refuseBadRange 3 none :: dk_all
def w_LW_built : List Cond := Cond.codeWith y_LW_built b_LW_built 4 (some .int) [((0 : Nat), (9 : Nat), (12 : Nat), (25 : Nat))] :: dk_all
def w_DK_built : List Cond := Cond.code y_DK_built b_DK_built 2 (some .int) :: dk_all
def w_DK_sizeOrItem : List Cond := Cond.code y_DK_sizeOrItem b_DK_sizeOrItem 3 (some .int) :: dk_all
def w_LW_take : List Cond := Cond.codeWith y_LW_take b_LW_take 3 (some .int) [((0 : Nat), (8 : Nat), (11 : Nat), (15 : Nat))] :: dk_all
def w_DK_take : List Cond := Cond.code y_DK_take b_DK_take 2 (some .int) :: dk_all
def w_DK_keepText : List Cond := Cond.code y_DK_keepText b_DK_keepText 2 (some .int) :: dk_all
def w_LW_join : List Cond := Cond.codeWith y_LW_join b_LW_join 5 (some .int) [((0 : Nat), (10 : Nat), (13 : Nat), (13 : Nat)), ((0 : Nat), (10 : Nat), (17 : Nat), (15 : Nat))] :: dk_all
def w_DK_join : List Cond := Cond.code y_DK_join b_DK_join 5 (some .int) :: dk_all
def w_DK_joined : List Cond := Cond.code y_DK_joined b_DK_joined 2 (some (.object "TextDesk$Text")) :: dk_all
def w_JT_init : List Cond := Cond.code y_JT_init b_JT_init 3 none :: dk_all
def w_TX_isNarrow : List Cond := Cond.code y_TX_isNarrow b_TX_isNarrow 1 (some .boolean) :: dk_all
def w_LW_part : List Cond := Cond.codeWith y_LW_part b_LW_part 6 (some .int) [((0 : Nat), (12 : Nat), (15 : Nat), (13 : Nat)), ((0 : Nat), (12 : Nat), (19 : Nat), (25 : Nat)), ((0 : Nat), (12 : Nat), (23 : Nat), (15 : Nat))] :: dk_all
def w_DK_part : List Cond := Cond.code y_DK_part b_DK_part 5 (some .int) :: dk_all
def w_DK_keepRange : List Cond := Cond.code y_DK_keepRange b_DK_keepRange 4 (some .int) :: dk_all
def w_LW_replace : List Cond := Cond.codeWith y_LW_replace b_LW_replace 6 (some .int) [((0 : Nat), (12 : Nat), (15 : Nat), (13 : Nat)), ((0 : Nat), (12 : Nat), (19 : Nat), (15 : Nat))] :: dk_all
def w_DK_replace : List Cond := Cond.code y_DK_replace b_DK_replace 9 (some .int) :: dk_all
def w_DK_standsAt : List Cond := Cond.code y_DK_standsAt b_DK_standsAt 4 (some .boolean) :: dk_all
def w_LW_strip : List Cond := Cond.codeWith y_LW_strip b_LW_strip 4 (some .int) [((0 : Nat), (9 : Nat), (12 : Nat), (13 : Nat)), ((0 : Nat), (9 : Nat), (15 : Nat), (15 : Nat))] :: dk_all
def w_DK_strip : List Cond := Cond.code y_DK_strip b_DK_strip 5 (some .int) :: dk_all
def w_LW_at : List Cond := Cond.codeWith y_LW_at b_LW_at 5 (some .int) [((0 : Nat), (10 : Nat), (13 : Nat), (13 : Nat)), ((0 : Nat), (10 : Nat), (17 : Nat), (25 : Nat))] :: dk_all
def w_DK_at : List Cond := Cond.code y_DK_at b_DK_at 3 (some .int) :: dk_all
def w_LW_character : List Cond := Cond.codeWith y_LW_character b_LW_character 5 (some .int) [((0 : Nat), (10 : Nat), (13 : Nat), (13 : Nat)), ((0 : Nat), (10 : Nat), (17 : Nat), (25 : Nat))] :: dk_all
def w_DK_character : List Cond := Cond.code y_DK_character b_DK_character 7 (some .int) :: dk_all
def w_DK_characterAt : List Cond := Cond.code y_DK_characterAt b_DK_characterAt 3 (some .int) :: dk_all
def w_LW_narrow : List Cond := Cond.codeWith y_LW_narrow b_LW_narrow 4 (some .int) [((0 : Nat), (16 : Nat), (19 : Nat), (13 : Nat))] :: dk_all
def w_DK_narrow : List Cond := Cond.code y_DK_narrow b_DK_narrow 2 (some .boolean) :: dk_all
def w_LW_hash : List Cond := Cond.codeWith y_LW_hash b_LW_hash 4 (some .int) [((0 : Nat), (9 : Nat), (12 : Nat), (13 : Nat))] :: dk_all
def w_DK_hash : List Cond := Cond.code y_DK_hash b_DK_hash 5 (some .int) :: dk_all
def w_LW_compare : List Cond := Cond.codeWith y_LW_compare b_LW_compare 5 (some .int) [((0 : Nat), (10 : Nat), (13 : Nat), (13 : Nat))] :: dk_all
def w_DK_compare : List Cond := Cond.code y_DK_compare b_DK_compare 3 (some .int) :: dk_all
def w_DK_difference : List Cond := Cond.code y_DK_difference b_DK_difference 4 (some .int) :: dk_all
def w_LW_find : List Cond := Cond.codeWith y_LW_find b_LW_find 7 (some .int) [((0 : Nat), (14 : Nat), (17 : Nat), (13 : Nat))] :: dk_all
def w_DK_find : List Cond := Cond.code y_DK_find b_DK_find 7 (some .int) :: dk_all
def w_DK_lastPlace : List Cond := Cond.code y_DK_lastPlace b_DK_lastPlace 5 (some .int) :: dk_all
def w_DK_firstPlace : List Cond := Cond.code y_DK_firstPlace b_DK_firstPlace 5 (some .int) :: dk_all
def w_LW_symbol : List Cond := Cond.codeWith y_LW_symbol b_LW_symbol 4 (some .int) [((0 : Nat), (9 : Nat), (12 : Nat), (13 : Nat)), ((0 : Nat), (9 : Nat), (15 : Nat), (15 : Nat))] :: dk_all
def w_DK_symbol : List Cond := Cond.code y_DK_symbol b_DK_symbol 4 (some .int) :: dk_all
def w_LW_encode : List Cond := Cond.codeWith y_LW_encode b_LW_encode 5 (some .int) [((0 : Nat), (10 : Nat), (13 : Nat), (13 : Nat))] :: dk_all
def w_DK_encode : List Cond := Cond.code y_DK_encode b_DK_encode 4 (some .int) :: dk_all
def w_DK_refuseUnknownEncoding : List Cond := Cond.code y_DK_refuseUnknownEncoding b_DK_refuseUnknownEncoding 1 none :: dk_all
def w_EN_writeText : List Cond := Cond.code y_EN_writeText b_EN_writeText 6 none :: dk_all
def w_EN_writeCode : List Cond := Cond.code y_EN_writeCode b_EN_writeCode 3 none :: dk_all
def w_EN_writeUtf8 : List Cond := Cond.code y_EN_writeUtf8 b_EN_writeUtf8 2 none :: dk_all
def w_EN_writeModified : List Cond := Cond.code y_EN_writeModified b_EN_writeModified 2 none :: dk_all
def w_LW_type : List Cond := Cond.codeWith y_LW_type b_LW_type 4 (some .int) [((0 : Nat), (9 : Nat), (12 : Nat), (13 : Nat)), ((0 : Nat), (9 : Nat), (15 : Nat), (15 : Nat))] :: dk_all
def w_DK_type : List Cond := Cond.code y_DK_type b_DK_type 2 (some .int) :: dk_all
def w_LW_decode : List Cond := Cond.codeWith y_LW_decode b_LW_decode 5 (some .int) [((0 : Nat), (10 : Nat), (13 : Nat), (13 : Nat)), ((0 : Nat), (10 : Nat), (17 : Nat), (80 : Nat)), ((0 : Nat), (10 : Nat), (21 : Nat), (15 : Nat))] :: dk_all
def w_DK_decode : List Cond := Cond.code y_DK_decode b_DK_decode 5 (some .int) :: dk_all
def w_DC_readAll : List Cond := Cond.code y_DC_readAll b_DC_readAll 6 (some .boolean) :: dk_all
def w_DC_readRow : List Cond := Cond.code y_DC_readRow b_DC_readRow 4 none :: dk_all
def w_DC_goodWidthUtf8 : List Cond := Cond.code y_DC_goodWidthUtf8 b_DC_goodWidthUtf8 1 (some .int) :: dk_all
def w_DC_readPrefixed : List Cond := Cond.code y_DC_readPrefixed b_DC_readPrefixed 11 none :: dk_all
def w_DC_setRow : List Cond := Cond.code y_DC_setRow b_DC_setRow 3 none :: dk_all
def w_DC_firstByteBase : List Cond := Cond.code y_DC_firstByteBase b_DC_firstByteBase 1 (some .int) :: dk_all
def w_DC_lowestSecond : List Cond := Cond.code y_DC_lowestSecond b_DC_lowestSecond 1 (some .int) :: dk_all
def w_DC_highestSecond : List Cond := Cond.code y_DC_highestSecond b_DC_highestSecond 2 (some .int) :: dk_all
def w_DC_goodWidthModified : List Cond := Cond.code y_DC_goodWidthModified b_DC_goodWidthModified 1 (some .int) :: dk_all
def w_DC_readTwo : List Cond := Cond.code y_DC_readTwo b_DC_readTwo 3 none :: dk_all
def w_DC_appendCharacter : List Cond := Cond.code y_DC_appendCharacter b_DC_appendCharacter 2 none :: dk_all
def w_LW_octet : List Cond := Cond.codeWith y_LW_octet b_LW_octet 4 (some .int) [((0 : Nat), (9 : Nat), (12 : Nat), (25 : Nat))] :: dk_all
def w_DK_octet : List Cond := Cond.code y_DK_octet b_DK_octet 2 (some .int) :: dk_all
def w_MD_init : List Cond := Cond.code y_MD_init b_MD_init 1 none :: dk_all
def w_MD_thrown : List Cond := Cond.code y_MD_thrown b_MD_thrown 1 (some .int) :: dk_all
def w_MD_unit : List Cond := Cond.code y_MD_unit b_MD_unit 2 (some .int) :: dk_all
def w_MD_out : List Cond := Cond.code y_MD_out b_MD_out 2 (some .boolean) :: dk_all
def w_MD_insert : List Cond := Cond.code y_MD_insert b_MD_insert 4 (some .int) :: dk_all
def w_MD_isText : List Cond := Cond.code y_MD_isText b_MD_isText 2 (some .boolean) :: dk_all
def w_MD_make : List Cond := Cond.code y_MD_make b_MD_make 2 none :: dk_all
def w_MD_makePart : List Cond := Cond.code y_MD_makePart b_MD_makePart 5 none :: dk_all
def w_MD_unitOf : List Cond := Cond.code y_MD_unitOf b_MD_unitOf 3 (some .int) :: dk_all
def w_MD_delete : List Cond := Cond.code y_MD_delete b_MD_delete 5 none :: dk_all
def w_MD_reverse : List Cond := Cond.code y_MD_reverse b_MD_reverse 3 none :: dk_all
def w_MD_high : List Cond := Cond.code y_MD_high b_MD_high 1 (some .boolean) :: dk_all
def w_MD_low : List Cond := Cond.code y_MD_low b_MD_low 1 (some .boolean) :: dk_all
def w_MD_built : List Cond := Cond.code y_MD_built b_MD_built 2 (some .int) :: dk_all
def w_MD_take : List Cond := Cond.code y_MD_take b_MD_take 2 (some .int) :: dk_all
def w_MD_addMade : List Cond := Cond.code y_MD_addMade b_MD_addMade 2 (some .int) :: dk_all
def w_MD_join : List Cond := Cond.code y_MD_join b_MD_join 3 (some .int) :: dk_all
def w_MD_part : List Cond := Cond.code y_MD_part b_MD_part 4 (some .int) :: dk_all
def w_MD_replace : List Cond := Cond.code y_MD_replace b_MD_replace 6 (some .int) :: dk_all
def w_MD_stands : List Cond := Cond.code y_MD_stands b_MD_stands 6 (some .boolean) :: dk_all
def w_MD_fail : List Cond := Cond.code y_MD_fail b_MD_fail 2 (some .int) :: dk_all
def w_MD_strip : List Cond := Cond.code y_MD_strip b_MD_strip 5 (some .int) :: dk_all
def w_MD_at : List Cond := Cond.code y_MD_at b_MD_at 3 (some .int) :: dk_all
def w_MD_character : List Cond := Cond.code y_MD_character b_MD_character 7 (some .int) :: dk_all
def w_MD_pair : List Cond := Cond.code y_MD_pair b_MD_pair 3 (some .boolean) :: dk_all
def w_MD_characterAt : List Cond := Cond.code y_MD_characterAt b_MD_characterAt 4 (some .int) :: dk_all
def w_MD_narrow : List Cond := Cond.code y_MD_narrow b_MD_narrow 4 (some .boolean) :: dk_all
def w_MD_hash : List Cond := Cond.code y_MD_hash b_MD_hash 5 (some .int) :: dk_all
def w_MD_compare : List Cond := Cond.code y_MD_compare b_MD_compare 3 (some .int) :: dk_all
def w_MD_difference : List Cond := Cond.code y_MD_difference b_MD_difference 4 (some .int) :: dk_all
def w_MD_find : List Cond := Cond.code y_MD_find b_MD_find 8 (some .int) :: dk_all
def w_MD_symbol : List Cond := Cond.code y_MD_symbol b_MD_symbol 4 (some .int) :: dk_all
def w_MD_encode : List Cond := Cond.code y_MD_encode b_MD_encode 5 (some .int) :: dk_all
def w_MD_encodeAt : List Cond := Cond.code y_MD_encodeAt b_MD_encodeAt 6 (some .int) :: dk_all
def w_MD_utf : List Cond := Cond.code y_MD_utf b_MD_utf 2 none :: dk_all
def w_MD_put : List Cond := Cond.code y_MD_put b_MD_put 2 none :: dk_all
def w_MD_modified : List Cond := Cond.code y_MD_modified b_MD_modified 2 none :: dk_all
def w_MD_type : List Cond := Cond.code y_MD_type b_MD_type 2 (some .int) :: dk_all
def w_MD_decode : List Cond := Cond.code y_MD_decode b_MD_decode 6 (some .int) :: dk_all
def w_MD_readAt : List Cond := Cond.code y_MD_readAt b_MD_readAt 8 (some .int) :: dk_all
def w_MD_begun : List Cond := Cond.code y_MD_begun b_MD_begun 8 (some .int) :: dk_all
def w_MD_guess : List Cond := Cond.code y_MD_guess b_MD_guess 8 (some .int) :: dk_all
def w_MD_may : List Cond := Cond.code y_MD_may b_MD_may 5 (some .boolean) :: dk_all
def w_MD_agree : List Cond := Cond.code y_MD_agree b_MD_agree 3 (some .int) :: dk_all
def w_MD_octet : List Cond := Cond.code y_MD_octet b_MD_octet 2 (some .int) :: dk_all
def w_MD_clear : List Cond := Cond.code y_MD_clear b_MD_clear 1 none :: dk_all
end
section
/-! MY OWN ROWS: a world is a partial map from addresses to cells; an int is named by an integer (iI). -/
def iI (z : Int) : Int32 := Int32.ofInt z
theorem iI_T {z : Int} (h1 : -2147483648 ≤ z) (h2 : z < 2147483648) : (iI z).toInt = z := Int32.toInt_ofInt_of_le h1 h2
theorem iI_of (x : Int32) : ∃ z : Int, -2147483648 ≤ z ∧ z < 2147483648 ∧ x = iI z := ⟨x.toInt, Int32.le_toInt x, Int32.toInt_lt x, (Int32.ofInt_toInt x).symm⟩
theorem iI_add (a b : Int) : iI a + iI b = iI (a + b) := (Int32.ofInt_add a b).symm
theorem iI_sub (a b : Int) : iI a - iI b = iI (a - b) := (Int32.ofInt_sub a b).symm
theorem iI_mul (a b : Int) : iI a * iI b = iI (a * b) := (Int32.ofInt_mul a b).symm
/-- what an int can hold -/
abbrev iR (z : Int) : Prop := -2147483648 ≤ z ∧ z < 2147483648
theorem iI_lt {a b : Int} (ha : iR a) (hb : iR b) : iI a < iI b ↔ a < b := by
  rw [Int32.lt_iff_toInt_lt, iI_T ha.1 ha.2, iI_T hb.1 hb.2]
theorem iI_le {a b : Int} (ha : iR a) (hb : iR b) : iI a ≤ iI b ↔ a ≤ b := by
  rw [Int32.le_iff_toInt_le, iI_T ha.1 ha.2, iI_T hb.1 hb.2]
theorem iI_eq {a b : Int} (ha : iR a) (hb : iR b) : iI a = iI b ↔ a = b := by
  rw [← Int32.toInt_inj, iI_T ha.1 ha.2, iI_T hb.1 hb.2]
theorem iI_cl {a : Int} (ha : iR a) : (iI a).toNatClampNeg = a.toNat := by
  show (iI a).toInt.toNat = a.toNat
  rw [iI_T ha.1 ha.2]
theorem iI_nat (n : Nat) : Int32.ofNat n = iI (n : Int) := (Int32.ofInt_eq_ofNat).symm
theorem iI_in {a : Int} {n : Nat} (h0 : 0 ≤ a) (h1 : a < (n : Int)) (hr : iR a) : vp_in (iI a) n := by
  rw [vp_in_iff, iI_T hr.1 hr.2]
  exact ⟨h0, h1⟩
theorem iI_0 : (0 : Int32) = iI 0 := rfl
theorem iI_n0 {a : Int} (ha : iR a) : (iI a = 0) ↔ a = 0 := by
  rw [iI_0, iI_eq ha ⟨by decide, by decide⟩]
/-- '/' and '%' of numbers from 0 on -/
theorem iI_div {a b : Int} (ha : 0 ≤ a) (ha2 : a < 2147483648) (hb : 0 < b) (hb2 : b < 2147483648) : iI a / iI b = iI (a / b) := by
  have h := Int32.ofInt_tdiv (a := a) (b := b) (by show -2147483648 ≤ a; omega) (by show a ≤ 2147483647; omega) (by show -2147483648 ≤ b; omega) (by show b ≤ 2147483647; omega)
  rw [Int.tdiv_eq_ediv_of_nonneg ha] at h
  exact h.symm
theorem iI_rem {a b : Int} (ha : 0 ≤ a) (ha2 : a < 2147483648) (hb : 0 < b) (hb2 : b < 2147483648) : iI a - iI a / iI b * iI b = iI (a % b) := by
  rw [iI_div ha ha2 hb hb2, iI_mul, iI_sub, Int.emod_def, Int.mul_comm b]
abbrev dw_M : Type := Nat → Option va_E
def dw_up (f : dw_M) (a : Nat) (x : va_E) : dw_M := fun j => if j = a then some x else f j
theorem dw_up_self (f : dw_M) (a : Nat) (x : va_E) : dw_up f a x a = some x := if_pos rfl
theorem dw_up_ne (f : dw_M) {a b : Nat} (x : va_E) (h : b ≠ a) : dw_up f a x b = f b := if_neg h
theorem dw_ne {f : dw_M} {a b : Nat} {x y : va_E} (ha : f a = some x) (hb : f b = some y) (h : x ≠ y) : a ≠ b := fun e => h (by
  subst e
  exact Option.some.inj (ha.symm.trans hb))
theorem dw_neN {f : dw_M} {a b : Nat} {x : va_E} (ha : f a = some x) (hb : f b = none) : a ≠ b := fun e => by
  subst e
  rw [ha] at hb
  cases hb
/-- a fact about another address stays -/
theorem dw_keep {f : dw_M} {a b : Nat} {x y : va_E} (hb : f b = some y) (h : b ≠ a) : dw_up f a x b = some y := (dw_up_ne f x h).trans hb
/-- what a method may change: the cells of its map, and new ones -/
def dw_A (f : dw_M) (sz : Nat) : Nat → Prop := fun q => (∃ x, f q = some x) ∨ sz ≤ q
/-- the heap H holds the map's cells, all of the kind A; since H0 nothing outside A has changed; all that is new is of the kind A -/
def dw (D : va_G) (cl : List vw_C) (A : Nat → Prop) (H0 : Heap) (f : dw_M) (H : Heap) (locs : List Loc) : Prop :=
  (∀ (a : Nat) (x : va_E), f a = some x → va_at D cl (a, x) H ∧ A a) ∧ va_S A H0 H locs ∧ ∀ q : Nat, H0.size ≤ q → A q
section DWA
variable {D : va_G} {cl : List vw_C} {A : Nat → Prop} {H0 H H1 : Heap} {f : dw_M} {locs : List Loc} {a : Nat} {x y : va_E}
theorem dw.lt (h : dw D cl A H0 f H locs) (ha : f a = some x) : a < H.size := (h.1 a x ha).1.lt
theorem dw.fresh (h : dw D cl A H0 f H locs) : f H.size = none := by
  cases e : f H.size with
  | none => rfl
  | some z => exact absurd (h.lt e) (Nat.lt_irrefl _)
theorem dw.P1 (h : dw D cl A H0 f H locs) (ha : f a = some x) : va_P D cl [(a, x)] H := by
  intro k q hk
  match k, hk with
  | 0, hk => cases hk; exact (h.1 a x ha).1
  | k + 1, hk => simp at hk
theorem dw.set (h : dw D cl A H0 f H locs) (ha : f a = some x) (hat : va_at D cl (a, y) H1) (z : H1.size = H.size) (oq : ∀ q : Nat, q ≠ a → H1[q]? = H[q]?) (i : Nat) : dw D cl A H0 (dw_up f a y) H1 (locs ++ [⟨a, i⟩]) := by
  refine ⟨fun b w hb => ?_, h.2.1.put z oq (h.1 a x ha).2, h.2.2⟩
  by_cases e : b = a
  · subst e
    rw [dw_up_self] at hb
    cases hb
    exact ⟨hat, (h.1 b x ha).2⟩
  · rw [dw_up_ne _ _ e] at hb
    exact ⟨(h.1 b w hb).1.kept (oq b e), (h.1 b w hb).2⟩
theorem dw.new (h : dw D cl A H0 f H locs) (hat : va_at D cl (H.size, y) H1) (z : H1.size = H.size + 1) (o1 : ∀ q : Nat, q < H.size → H1[q]? = H[q]?) : dw D cl A H0 (dw_up f H.size y) H1 locs := by
  refine ⟨fun b w hb => ?_, ⟨Nat.le_trans h.2.1.1 (by omega), fun q h1 h2 => (o1 q (Nat.lt_of_lt_of_le h1 h.2.1.1)).trans (h.2.1.2.1 q h1 h2), h.2.1.2.2⟩, h.2.2⟩
  by_cases e : b = H.size
  · subst e
    rw [dw_up_self] at hb
    cases hb
    exact ⟨hat, h.2.2 _ h.2.1.1⟩
  · rw [dw_up_ne _ _ e] at hb
    exact ⟨(h.1 b w hb).1.kept (o1 b (h.lt hb)), (h.1 b w hb).2⟩
/-- fewer cells -/
theorem dw.less {g : dw_M} (h : dw D cl A H0 f H locs) (hg : ∀ a x, g a = some x → f a = some x) : dw D cl A H0 g H locs := ⟨fun a x e => h.1 a x (hg a x e), h.2⟩
end DWA
section DWR
variable {p : Program} {l : Launch} {e : Env} {R : Room} {s : State} {m : MethodId} {args : Array Value} {below : List Frame} {meth : Method} {c : Code} {H : Heap} {locs : List Loc} {cells slots : Nat} {Q : State → Prop}
variable {cc : ByteArray} {pc : Nat} {ls : Array Slot} {rest : List Value} {D : va_G} {cl : List vw_C} {A : Nat → Prop} {a : Nat} {tys : List (ClassId × FieldType)} {H0 : Heap} {f : dw_M}
theorem dw_get (hexec : p.tables.exec = Jvm.exec) (hb : c.code = cc) {own ref C : String} {T : u_T} {N ci index : Nat} {Ts : List Cond} (hts : ∀ w ∈ Ts, w.before args s = true) (hin : ∀ w ∈ u_ws C T N, w ∈ Ts) (hown : s.vm.findClass own = some m.cls) (hK : va_K D cl tys s) (h : dw D cl A H0 f H locs) {fs : List Value} (he : f a = some (.inr (ci, fs))) (hc : cl[ci]? = some (C, T, N)) (k : Nat) (hk : k < N) (hlink : (Cond.fieldLink own index ref (T k).2.1 (T k).2.2.1).before args s = true) (hsame : ∀ x, s.fieldFound? (T k).1 (T k).2.1 (T k).2.2.1 = some x → s.fieldFound? ref (T k).2.1 (T k).2.2.1 = some x) {v : Value} (hv : fs[k]? = some v) (hdg : decode cc pc = .ok (.getfield index, 3))
    (kk : W p l e R s m args below meth c H locs cells slots Q (F0 m (pc + 3) ls (v :: rest))) : W p l e R s m args below meth c H locs cells slots Q (F0 m pc ls (.ref a :: rest)) :=
  va_get hexec hb hts hin hown hK (h.P1 he) 0 rfl hc k hk hlink hsame hv hdg kk
theorem dw_put (hexec : p.tables.exec = Jvm.exec) (hb : c.code = cc) {own ref C : String} {T : u_T} {N ci index : Nat} {Ts : List Cond} (hts : ∀ w ∈ Ts, w.before args s = true) (hin : ∀ w ∈ u_ws C T N, w ∈ Ts) (ty0 : Nat → FieldType) (hty : ∀ k, k < N → parseFieldDescriptor (T k).2.2.1 = some (ty0 k)) (hnm : ∀ a, a < N → ∀ b, b < N → a ≠ b → (T a).2.1 ≠ (T b).2.1) (hown : s.vm.findClass own = some m.cls) (hK : va_K D cl tys s) (h : dw D cl A H0 f H locs) {fs : List Value} (he : f a = some (.inr (ci, fs))) (hc : cl[ci]? = some (C, T, N)) (k : Nat) (hk : k < N) (hlink : (Cond.fieldLink own index ref (T k).2.1 (T k).2.2.1).before args s = true) (hsame : ∀ x, s.fieldFound? (T k).1 (T k).2.1 (T k).2.2.1 = some x → s.fieldFound? ref (T k).2.1 (T k).2.2.1 = some x) (hfin : (T k).2.2.2 = false) {ty : FieldType} {v : Value} (hd : parseFieldDescriptor (T k).2.2.1 = some ty) (hn : narrow ty v = v) (hfit : fits ty v = true) (hl : k < fs.length)
    (hdg : decode cc pc = .ok (.putfield index, 3)) (kk : ∀ (H1 : Heap) (locs1 : List Loc), dw D cl A H0 (dw_up f a (.inr (ci, fs.set k v))) H1 locs1 → W p l e R s m args below meth c H1 locs1 cells slots Q (F0 m (pc + 3) ls rest)) : W p l e R s m args below meth c H locs cells slots Q (F0 m pc ls (v :: .ref a :: rest)) := by
  have hap := va_apart (own := own) hts hin ty0 hty hnm hK hc
  obtain ⟨r, h1, cell, q1, q2, q3, q4⟩ := (h.1 a _ he).1
  have hr : r = (C, T, N) := Option.some.inj (h1.symm.trans hc)
  subst hr
  obtain ⟨hS, hfc, kC, hkC, hkind⟩ := hK.1 ci _ hc
  obtain ⟨cf, kf, fi, fd, hi, hsl⟩ := hS k hk
  have hlay := hts _ (hin _ (u_in_lay hk))
  unfold u_lay at hlay
  rw [if_neg (by rw [hfin]; decide)] at hlay
  have hst := (u_facts hfc hkC (u_lays hts hin hk) hi).1
  have h6 := u_store hfc hkC hkind hlay hi hd hn hfit
  refine W.putK hexec hb (f := fd) ⟨hown, hlink, ⟨_, _, _, hsame _ hi⟩, hst⟩ (by rw [q2]; exact h6) q1 q3 (by rw [hsl]; exact k2_hasslot (q4 k hk)) rfl rfl hdg fun H' e1 e2 e3 => ?_
  rw [hsl] at e1 ⊢
  exact kk H' _ (h.set (y := .inr (ci, fs.set k v)) (H1 := H') he ⟨_, hc, t_OB.to (V := updV (vp_V fs) k v) ⟨_, e1, q2, q3, t_set q4 hap hk v⟩ (fun j _ => vp_updV_set hl v j)⟩ e2 e3 _)
theorem dw_putF (hexec : p.tables.exec = Jvm.exec) (hb : c.code = cc) {own ref C : String} {T : u_T} {N ci index : Nat} {Ts : List Cond} (hts : ∀ w ∈ Ts, w.before args s = true) (hin : ∀ w ∈ u_ws C T N, w ∈ Ts) (ty0 : Nat → FieldType) (hty : ∀ k, k < N → parseFieldDescriptor (T k).2.2.1 = some (ty0 k)) (hnm : ∀ a, a < N → ∀ b, b < N → a ≠ b → (T a).2.1 ≠ (T b).2.1) (hown : s.vm.findClass own = some m.cls) (hK : va_K D cl tys s) (h : dw D cl A H0 f H locs) {fs : List Value} (he : f a = some (.inr (ci, fs))) (hc : cl[ci]? = some (C, T, N)) (k : Nat) (hk : k < N) (hlink : (Cond.fieldLink own index ref (T k).2.1 (T k).2.2.1).before args s = true) (hsame : ∀ x, s.fieldFound? (T k).1 (T k).2.1 (T k).2.2.1 = some x → s.fieldFound? ref (T k).2.1 (T k).2.2.1 = some x) (hfin : (T k).2.2.2 = true) (hin2 : meth.name = "<init>") (hdecl : (T k).1 = own) {ty : FieldType} {v : Value} (hd : parseFieldDescriptor (T k).2.2.1 = some ty) (hn : narrow ty v = v) (hfit : fits ty v = true) (hl : k < fs.length)
    (hdg : decode cc pc = .ok (.putfield index, 3)) (kk : ∀ (H1 : Heap) (locs1 : List Loc), dw D cl A H0 (dw_up f a (.inr (ci, fs.set k v))) H1 locs1 → W p l e R s m args below meth c H1 locs1 cells slots Q (F0 m (pc + 3) ls rest)) : W p l e R s m args below meth c H locs cells slots Q (F0 m pc ls (v :: .ref a :: rest)) := by
  have hap := va_apart (own := own) hts hin ty0 hty hnm hK hc
  obtain ⟨r, h1, cell, q1, q2, q3, q4⟩ := (h.1 a _ he).1
  have hr : r = (C, T, N) := Option.some.inj (h1.symm.trans hc)
  subst hr
  obtain ⟨hS, hfc, kC, hkC, hkind⟩ := hK.1 ci _ hc
  obtain ⟨cf, kf, fi, fd, hi, hsl⟩ := hS k hk
  have hlay := hts _ (hin _ (u_in_lay hk))
  unfold u_lay at hlay
  rw [if_pos hfin] at hlay
  have hst := (u_facts hfc hkC (u_lays hts hin hk) hi).1
  have hcf : m.cls = cf := by
    obtain ⟨_, _, c', _, _, _, -, -, hf', -, -, -, hown2, -⟩ := Cond.laysFinal_spec hlay
    have e1 : c' = cf := by have := hi.symm.trans hf'; simp at this; exact this.1.symm
    rw [hdecl] at hown2
    rw [← e1]; exact Option.some.inj (hown.symm.trans hown2)
  have h6 := u_fits hfc hkC hkind (Or.inr hlay) hi hd hn hfit
  refine W.putFinK hexec hb hown hlink (hsame _ hi) hst hcf hin2 (by rw [q2]; exact h6) q1 q3 (by rw [hsl]; exact k2_hasslot (q4 k hk)) rfl rfl hdg fun H' e1 e2 e3 => ?_
  rw [hsl] at e1 ⊢
  exact kk H' _ (h.set (y := .inr (ci, fs.set k v)) (H1 := H') he ⟨_, hc, t_OB.to (V := updV (vp_V fs) k v) ⟨_, e1, q2, q3, t_set q4 hap hk v⟩ (fun j _ => vp_updV_set hl v j)⟩ e2 e3 _)
theorem dw_iald (hexec : p.tables.exec = Jvm.exec) (hb : c.code = cc) (hK : va_K D cl tys s) (h : dw D cl A H0 f H locs) (t0 : Nat) {cA : ClassId} {n : Nat} {g : Nat → Int32} (ha : f a = some (.inl (cA, n, .inl g))) (ht : tys[t0]? = some (cA, .int)) {i : Int} (h0 : 0 ≤ i) (h1 : i < (n : Int)) (h2 : i < 2147483648) {v : Int32} (hv : g i.toNat = v) (hdg : decode cc pc = .ok (.iaload, 1))
    (kk : W p l e R s m args below meth c H locs cells slots Q (F0 m (pc + 1) ls (.int v :: rest))) : W p l e R s m args below meth c H locs cells slots Q (F0 m pc ls (.int (iI i) :: .ref a :: rest)) := by
  subst hv
  refine va_iald hexec hb hK (h.P1 ha) 0 t0 rfl ht (iI_in h0 h1 ⟨by omega, h2⟩) hdg ?_
  rw [iI_cl ⟨by omega, h2⟩]
  exact kk
theorem dw_bald (hexec : p.tables.exec = Jvm.exec) (hb : c.code = cc) (hK : va_K D cl tys s) (h : dw D cl A H0 f H locs) (t0 : Nat) {cA : ClassId} {n : Nat} {g : Nat → Int32} (ha : f a = some (.inl (cA, n, .inl g))) (ht : tys[t0]? = some (cA, .byte)) {i : Int} (h0 : 0 ≤ i) (h1 : i < (n : Int)) (h2 : i < 2147483648) {v : Int32} (hv : g i.toNat = v) (hdg : decode cc pc = .ok (.baload, 1))
    (kk : W p l e R s m args below meth c H locs cells slots Q (F0 m (pc + 1) ls (.int v :: rest))) : W p l e R s m args below meth c H locs cells slots Q (F0 m pc ls (.int (iI i) :: .ref a :: rest)) := by
  subst hv
  refine va_bald hexec hb hK (h.P1 ha) 0 t0 rfl ht (iI_in h0 h1 ⟨by omega, h2⟩) hdg ?_
  rw [iI_cl ⟨by omega, h2⟩]
  exact kk
theorem dw_cald (hexec : p.tables.exec = Jvm.exec) (hb : c.code = cc) (hK : va_K D cl tys s) (h : dw D cl A H0 f H locs) (t0 : Nat) {cA : ClassId} {n : Nat} {g : Nat → Int32} (ha : f a = some (.inl (cA, n, .inl g))) (ht : tys[t0]? = some (cA, .char)) {i : Int} (h0 : 0 ≤ i) (h1 : i < (n : Int)) (h2 : i < 2147483648) {v : Int32} (hv : g i.toNat = v) (hdg : decode cc pc = .ok (.caload, 1))
    (kk : W p l e R s m args below meth c H locs cells slots Q (F0 m (pc + 1) ls (.int v :: rest))) : W p l e R s m args below meth c H locs cells slots Q (F0 m pc ls (.int (iI i) :: .ref a :: rest)) := by
  subst hv
  refine va_cald hexec hb hK (h.P1 ha) 0 t0 rfl ht (iI_in h0 h1 ⟨by omega, h2⟩) hdg ?_
  rw [iI_cl ⟨by omega, h2⟩]
  exact kk
theorem dw_aald (hexec : p.tables.exec = Jvm.exec) (hb : c.code = cc) (hK : va_K D cl tys s) (h : dw D cl A H0 f H locs) (t0 : Nat) {cA : ClassId} {C : String} {n : Nat} {g : Nat → Option Nat} (ha : f a = some (.inl (cA, n, .inr (.inr (.inr (.inr g)))))) (ht : tys[t0]? = some (cA, .object C)) {i : Int} (h0 : 0 ≤ i) (h1 : i < (n : Int)) (h2 : i < 2147483648) {v : Option Nat} (hv : g i.toNat = v) (hdg : decode cc pc = .ok (.aaload, 1))
    (kk : W p l e R s m args below meth c H locs cells slots Q (F0 m (pc + 1) ls (va_rf v :: rest))) : W p l e R s m args below meth c H locs cells slots Q (F0 m pc ls (.int (iI i) :: .ref a :: rest)) := by
  subst hv
  refine va_aldq hexec hb hK (h.P1 ha) 0 t0 rfl ht (iI_in h0 h1 ⟨by omega, h2⟩) hdg ?_
  rw [iI_cl ⟨by omega, h2⟩]
  exact kk
theorem dw_alen (hexec : p.tables.exec = Jvm.exec) (hb : c.code = cc) (hK : va_K D cl tys s) (h : dw D cl A H0 f H locs) (t0 : Nat) {cA : ClassId} {n : Nat} {x : (Nat → Int32) ⊕ (Nat → Int64) ⊕ (Nat → UInt32) ⊕ (Nat → UInt64) ⊕ (Nat → Option Nat)} (ha : f a = some (.inl (cA, n, x))) {ty : FieldType} (ht : tys[t0]? = some (cA, ty)) (hdg : decode cc pc = .ok (.arraylength, 1))
    (kk : W p l e R s m args below meth c H locs cells slots Q (F0 m (pc + 1) ls (.int (iI (n : Int)) :: rest))) : W p l e R s m args below meth c H locs cells slots Q (F0 m pc ls (.ref a :: rest)) :=
  va_alen hexec hb hK (h.P1 ha) 0 t0 rfl ht (iI_nat n) hdg kk
theorem dw_iast (hexec : p.tables.exec = Jvm.exec) (hb : c.code = cc) (hK : va_K D cl tys s) (h : dw D cl A H0 f H locs) (t0 : Nat) {cA : ClassId} {n : Nat} {g : Nat → Int32} (ha : f a = some (.inl (cA, n, .inl g))) (ht : tys[t0]? = some (cA, .int)) {i : Int} {x : Int32} (h0 : 0 ≤ i) (h1 : i < (n : Int)) (h2 : i < 2147483648) (hdg : decode cc pc = .ok (.iastore, 1))
    (kk : ∀ (H1 : Heap) (locs1 : List Loc), dw D cl A H0 (dw_up f a (.inl (cA, n, .inl (upd g i.toNat x)))) H1 locs1 → W p l e R s m args below meth c H1 locs1 cells slots Q (F0 m (pc + 1) ls rest)) : W p l e R s m args below meth c H locs cells slots Q (F0 m pc ls (.int x :: .int (iI i) :: .ref a :: rest)) := by
  have hin : vp_in (iI i) n := iI_in h0 h1 ⟨by omega, h2⟩
  have hcl := iI_cl (a := i) ⟨by omega, h2⟩
  refine W.iast hexec hb (h.1 a _ ha).1 ((hK.2 t0 _ ht).1 n (fun j => .int (g j))) (fun q => by cases q) (by show ¬ (iI i < 0 ∨ (arrV _ _ _).slots.size ≤ _); rw [arrV_size]; exact hin) rfl rfl hdg fun H1 e z oq => ?_
  refine kk H1 _ (h.set ha ?_ z oq _)
  show H1[a]? = some (vp_cell _ _)
  rw [e]
  rw [vp_cell_i, vp_cell_i, arrV_store, hcl]
  congr 2
  funext q
  by_cases hq : q = i.toNat
  · subst hq
    simp [updV, upd]
  · simp [updV, upd, hq]
theorem dw_bast (hexec : p.tables.exec = Jvm.exec) (hb : c.code = cc) (hK : va_K D cl tys s) (h : dw D cl A H0 f H locs) (t0 : Nat) {cA : ClassId} {n : Nat} {g : Nat → Int32} (ha : f a = some (.inl (cA, n, .inl g))) (ht : tys[t0]? = some (cA, .byte)) {i : Int} {x : Int32} (h0 : 0 ≤ i) (h1 : i < (n : Int)) (h2 : i < 2147483648) (hdg : decode cc pc = .ok (.bastore, 1))
    (kk : ∀ (H1 : Heap) (locs1 : List Loc), dw D cl A H0 (dw_up f a (.inl (cA, n, .inl (upd g i.toNat (vp_nar .byte x))))) H1 locs1 → W p l e R s m args below meth c H1 locs1 cells slots Q (F0 m (pc + 1) ls rest)) : W p l e R s m args below meth c H locs cells slots Q (F0 m pc ls (.int x :: .int (iI i) :: .ref a :: rest)) := by
  have hin : vp_in (iI i) n := iI_in h0 h1 ⟨by omega, h2⟩
  have hcl := iI_cl (a := i) ⟨by omega, h2⟩
  refine W.bast hexec hb (h.1 a _ ha).1 ((hK.2 t0 _ ht).1 n (fun j => .int (g j))) (fun q => by cases q) (by show ¬ (iI i < 0 ∨ (arrV _ _ _).slots.size ≤ _); rw [arrV_size]; exact hin) rfl rfl hdg fun H1 e z oq => ?_
  refine kk H1 _ (h.set ha ?_ z oq _)
  show H1[a]? = some (vp_cell _ _)
  rw [e]
  rw [vp_cell_i, vp_cell_i, arrV_store, hcl]
  congr 2
  funext q
  by_cases hq : q = i.toNat
  · subst hq
    simp [updV, upd, vp_nar]
    try rfl
  · simp [updV, upd, hq]
theorem dw_cast (hexec : p.tables.exec = Jvm.exec) (hb : c.code = cc) (hK : va_K D cl tys s) (h : dw D cl A H0 f H locs) (t0 : Nat) {cA : ClassId} {n : Nat} {g : Nat → Int32} (ha : f a = some (.inl (cA, n, .inl g))) (ht : tys[t0]? = some (cA, .char)) {i : Int} {x : Int32} (h0 : 0 ≤ i) (h1 : i < (n : Int)) (h2 : i < 2147483648) (hdg : decode cc pc = .ok (.castore, 1))
    (kk : ∀ (H1 : Heap) (locs1 : List Loc), dw D cl A H0 (dw_up f a (.inl (cA, n, .inl (upd g i.toNat (vp_nar .char x))))) H1 locs1 → W p l e R s m args below meth c H1 locs1 cells slots Q (F0 m (pc + 1) ls rest)) : W p l e R s m args below meth c H locs cells slots Q (F0 m pc ls (.int x :: .int (iI i) :: .ref a :: rest)) := by
  have hin : vp_in (iI i) n := iI_in h0 h1 ⟨by omega, h2⟩
  have hcl := iI_cl (a := i) ⟨by omega, h2⟩
  refine W.cast hexec hb (h.1 a _ ha).1 ((hK.2 t0 _ ht).1 n (fun j => .int (g j))) (fun q => by cases q) (by show ¬ (iI i < 0 ∨ (arrV _ _ _).slots.size ≤ _); rw [arrV_size]; exact hin) rfl rfl hdg fun H1 e z oq => ?_
  refine kk H1 _ (h.set ha ?_ z oq _)
  show H1[a]? = some (vp_cell _ _)
  rw [e]
  rw [vp_cell_i, vp_cell_i, arrV_store, hcl]
  congr 2
  funext q
  by_cases hq : q = i.toNat
  · subst hq
    simp [updV, upd, vp_nar]
    try rfl
  · simp [updV, upd, hq]
/-- a reference into an array of E: the object's class may lie there -/
theorem dw_aast (hexec : p.tables.exec = Jvm.exec) (hb : c.code = cc) (hK : va_K D cl tys s) (h : dw D cl A H0 f H locs) (t0 : Nat) {E : String} {cA : ClassId} {n v ci : Nat} {fs : List Value} {r : vw_C} {g : Nat → Option Nat} (ha : f a = some (.inl (cA, n, .inr (.inr (.inr (.inr g)))))) (ht : tys[t0]? = some (cA, .object E)) (hv : f v = some (.inr (ci, fs))) (hc : cl[ci]? = some r) (hasg : ∀ comp c0 : ClassId, s.vm.findClass E = some comp → s.vm.findClass r.1 = some c0 → s.vm.assignable c0 comp = true) {i : Int} (h0 : 0 ≤ i) (h1 : i < (n : Int)) (h2 : i < 2147483648) (hdg : decode cc pc = .ok (.aastore, 1))
    (kk : ∀ (H1 : Heap) (locs1 : List Loc), dw D cl A H0 (dw_up f a (.inl (cA, n, .inr (.inr (.inr (.inr (va_up g i.toNat (some v)))))))) H1 locs1 → W p l e R s m args below meth c H1 locs1 cells slots Q (F0 m (pc + 1) ls rest)) : W p l e R s m args below meth c H locs cells slots Q (F0 m pc ls (.ref v :: .int (iI i) :: .ref a :: rest)) := by
  have hcl := iI_cl (a := i) ⟨by omega, h2⟩
  have hin : vp_in (iI i) n := iI_in h0 h1 ⟨by omega, h2⟩
  have hlt : (iI i).toNatClampNeg < n := Nat.not_le.mp fun q => hin (Or.inr q)
  have h00 : ¬ iI i < 0 := fun q => hin (Or.inl q)
  obtain ⟨cellV, g1, g3, ⟨kC, hkC⟩, hasg'⟩ := va_rAny (E := E) hK (h.P1 hv) (q0 := 0) rfl hc hasg
  obtain ⟨kA, comp, k1, k2, k3, -⟩ := (hK.2 t0 _ ht).2
  obtain ⟨kE, hkE, -⟩ := Vm.findClass_spec k3
  refine W.aast hexec hb (h.1 a _ ha).1 (fun q h => by cases h) (fun h => by cases h) k1 k2 rfl hkE ⟨h00, by show _ < (arrV _ _ _).slots.size; rw [arrV_size]; exact hlt⟩ g1 (fun q h => by rw [h] at g3; cases g3) hkC (hasg' _ k3) rfl rfl hdg fun H1 e z oq => ?_
  refine kk H1 _ (h.set ha ?_ z oq _)
  show H1[a]? = some (vp_cell _ _)
  rw [e]
  rw [vp_cell_q, vp_cell_q, arrV_store, hcl]
  congr 2
  funext q
  by_cases hq : q = i.toNat
  · subst hq
    simp [updV, va_up, va_rf]
  · simp [updV, va_up, hq]
theorem dw_aastN (hexec : p.tables.exec = Jvm.exec) (hb : c.code = cc) (hK : va_K D cl tys s) (h : dw D cl A H0 f H locs) (t0 : Nat) {cA : ClassId} {C : String} {n : Nat} {g : Nat → Option Nat} (ha : f a = some (.inl (cA, n, .inr (.inr (.inr (.inr g)))))) (ht : tys[t0]? = some (cA, .object C)) {i : Int} (h0 : 0 ≤ i) (h1 : i < (n : Int)) (h2 : i < 2147483648) (hdg : decode cc pc = .ok (.aastore, 1))
    (kk : ∀ (H1 : Heap) (locs1 : List Loc), dw D cl A H0 (dw_up f a (.inl (cA, n, .inr (.inr (.inr (.inr (va_up g i.toNat none))))))) H1 locs1 → W p l e R s m args below meth c H1 locs1 cells slots Q (F0 m (pc + 1) ls rest)) : W p l e R s m args below meth c H locs cells slots Q (F0 m pc ls (.null :: .int (iI i) :: .ref a :: rest)) := by
  have hin : vp_in (iI i) n := iI_in h0 h1 ⟨by omega, h2⟩
  have hcl := iI_cl (a := i) ⟨by omega, h2⟩
  refine va_WaastN (C := C) hexec hb (h.1 a _ ha).1 ((hK.2 t0 _ ht).1 n (fun j => va_rf (g j))) (fun h => by cases h) (by show ¬ (iI i < 0 ∨ (arrV _ _ _).slots.size ≤ _); rw [arrV_size]; exact hin) rfl rfl hdg fun H1 e z oq => ?_
  refine kk H1 _ (h.set ha ?_ z oq _)
  show H1[a]? = some (vp_cell _ _)
  rw [e]
  rw [vp_cell_q, vp_cell_q, arrV_store, hcl]
  congr 2
  funext q
  by_cases hq : q = i.toNat
  · subst hq
    simp [updV, va_up, va_rf]
  · simp [updV, va_up, hq]
/-- a new array of numbers: its class is the one of the list -/
theorem dw_newa (hexec : p.tables.exec = Jvm.exec) (hb : c.code = cc) {atype : ArrayType} (harr : (Cond.arrayClass (newarray.typeOf atype)).before args s = true) {ty : FieldType} (hty : newarray.typeOf atype = ty) (hK : va_K D cl tys s) (t0 : Nat) {cI : ClassId} (hcI : s.vm.findClass ("[" ++ ty.toString) = some cI) (h : dw D cl A H0 f H locs)
    {z : Int} {N' : Nat} {a0 : vp_A} (ha : ∀ cA : ClassId, vp_cell cA a0 = arrV cA N' (fun _ => defaultValue ty)) (hz : z = (N' : Int)) (h2 : N' < 2147483648) (hbytes : N' * componentBytes ty ≤ 536870912) (hcells : cells + 1 ≤ R.cells) (hslots : slots + N' ≤ R.slots) (hdg : decode cc pc = .ok (.newarray atype, 2))
    (kk : ∀ (q : Nat) (H1 : Heap), f q = none → dw D cl A H0 (dw_up f q (.inl (cI, a0))) H1 locs → W p l e R s m args below meth c H1 locs (cells + 1) (slots + N') Q (F0 m (pc + 2) ls (.ref q :: rest))) : W p l e R s m args below meth c H locs cells slots Q (F0 m pc ls (.int (iI z) :: rest)) := by
  subst hty
  subst hz
  have hr : iR (N' : Int) := ⟨by omega, by omega⟩
  refine va_newaK hexec hb harr rfl hdg rfl (n := iI (N' : Int)) (N := N') (fun q => ?_) ?_ hbytes hcells hslots rfl fun H1 cA e1 z1 o1 hAr hNm => ?_
  · rw [iI_0, iI_lt hr ⟨by decide, by decide⟩] at q
    omega
  · rw [iI_cl hr]; rfl
  · have hcA : cA = cI := Option.some.inj (hNm.symm.trans hcI)
    subst hcA
    refine kk H.size H1 h.fresh (h.new ?_ z1 o1)
    show H1[H.size]? = some (vp_cell _ _)
    rw [ha]
    exact e1
theorem dw_newq (hexec : p.tables.exec = Jvm.exec) (hb : c.code = cc) {own C : String} {index : Nat} (hown : s.vm.findClass own = some m.cls) (hclink : (Cond.classLink own index C).before args s = true) (hover : va_AO C s) {cI : ClassId} (hcI : s.vm.findClass ("[" ++ (FieldType.object C).toString) = some cI) (h : dw D cl A H0 f H locs)
    {z : Int} {N' : Nat} (hz : z = (N' : Int)) (h2 : N' < 2147483648) (hbytes : N' * 4 ≤ 536870912) (hcells : cells + 1 ≤ R.cells) (hslots : slots + N' ≤ R.slots) (hdg : decode cc pc = .ok (.anewarray index, 3))
    (kk : ∀ (q : Nat) (H1 : Heap), f q = none → dw D cl A H0 (dw_up f q (.inl (cI, N', .inr (.inr (.inr (.inr (fun _ => none))))))) H1 locs → W p l e R s m args below meth c H1 locs (cells + 1) (slots + N') Q (F0 m (pc + 3) ls (.ref q :: rest))) : W p l e R s m args below meth c H locs cells slots Q (F0 m pc ls (.int (iI z) :: rest)) := by
  subst hz
  have hr : iR (N' : Int) := ⟨by omega, by omega⟩
  have hcl : (iI (N' : Int)).toNatClampNeg = N' := by rw [iI_cl hr]; rfl
  refine W.anew hexec hb hown hclink (va_AO.use hover) rfl hdg rfl (n := iI (N' : Int)) (fun q => ?_) (by rw [hcl]; exact hbytes) hcells (by rw [hcl]; exact hslots) fun cA kA comp f1 f2 f3 f4 => ?_
  · rw [iI_0, iI_lt hr ⟨by decide, by decide⟩] at q
    omega
  rw [hcl]
  have hcA : cA = cI := Option.some.inj (f1.symm.trans hcI)
  subst hcA
  generalize hH1 : H.push ({ cls := cA, slots := Array.replicate N' .null, vm := .none } : Cell) = H1
  have z1 : H1.size = H.size + 1 := by rw [← hH1, Array.size_push]
  have e1 : H1[H.size]? = some (arrV cA N' (fun _ => .null)) := by rw [← hH1, Array.getElem?_push_size, ← arrV_new]
  have o1 : ∀ q : Nat, q < H.size → H1[q]? = H[q]? := fun q hq => by rw [← hH1, Array.getElem?_push, if_neg (Nat.ne_of_lt hq)]
  refine kk H.size H1 h.fresh (h.new ?_ z1 o1)
  show H1[H.size]? = some (vp_cell _ _)
  rw [vp_cell_q]
  exact e1
theorem dw_new (hexec : p.tables.exec = Jvm.exec) (hb : c.code = cc) {own C : String} {T : u_T} {N ci index : Nat} {Ts : List Cond} (hts : ∀ w ∈ Ts, w.before args s = true) (hin : ∀ w ∈ u_ws C T N, w ∈ Ts) (ty : Nat → FieldType) (hty : ∀ k, k < N → parseFieldDescriptor (T k).2.2.1 = some (ty k)) (hown : s.vm.findClass own = some m.cls) (hcl : (Cond.classLink own index C).before args s = true) (hinst : (Cond.instantiable C N).before args s = true) (hini : (Cond.initialized C).before args s = true)
    (hK : va_K D cl tys s) (h : dw D cl A H0 f H locs) (hc : cl[ci]? = some (C, T, N)) {fs : List Value} (hfs : ∀ j, j < N → defaultValue (ty j) = vp_V fs j) (hcells : cells + 1 ≤ R.cells) (hslots : slots + N ≤ R.slots) (hdg : decode cc pc = .ok (.new index, 3))
    (kk : ∀ (q : Nat) (H1 : Heap), f q = none → dw D cl A H0 (dw_up f q (.inr (ci, fs))) H1 locs →
      W p l e R s m args below meth c H1 locs (cells + 1) (slots + N) Q (F0 m (pc + 3) ls (.ref q :: rest))) : W p l e R s m args below meth c H locs cells slots Q (F0 m pc ls rest) := by
  have hKn := hK.1 ci _ hc
  refine W.newcK hexec hb hown hcl hinst hini rfl hdg hcells hslots hKn.2.1 rfl fun H1 kC hkC e1 z1 o1 => ?_
  exact kk H.size H1 h.fresh (h.new ⟨_, hc, (u_born ty hts hin hKn hkC e1 hty).to hfs⟩ z1 o1)
/-! ints by their integers -/
theorem di_add (hexec : p.tables.exec = Jvm.exec) (hb : c.code = cc) {x y : Int} (hdg : decode cc pc = .ok (.iadd, 1))
    (k : W p l e R s m args below meth c H locs cells slots Q (F0 m (pc + 1) ls (.int (iI (x + y)) :: rest))) : W p l e R s m args below meth c H locs cells slots Q (F0 m pc ls (.int (iI y) :: .int (iI x) :: rest)) :=
  lv_iadd hexec hb hdg (by rw [iI_add]; exact k)
theorem di_sub (hexec : p.tables.exec = Jvm.exec) (hb : c.code = cc) {x y : Int} (hdg : decode cc pc = .ok (.isub, 1))
    (k : W p l e R s m args below meth c H locs cells slots Q (F0 m (pc + 1) ls (.int (iI (x - y)) :: rest))) : W p l e R s m args below meth c H locs cells slots Q (F0 m pc ls (.int (iI y) :: .int (iI x) :: rest)) :=
  lv_isub hexec hb hdg (by rw [iI_sub]; exact k)
theorem di_mul (hexec : p.tables.exec = Jvm.exec) (hb : c.code = cc) {x y : Int} (hdg : decode cc pc = .ok (.imul, 1))
    (k : W p l e R s m args below meth c H locs cells slots Q (F0 m (pc + 1) ls (.int (iI (x * y)) :: rest))) : W p l e R s m args below meth c H locs cells slots Q (F0 m pc ls (.int (iI y) :: .int (iI x) :: rest)) :=
  lv_imul hexec hb hdg (by rw [iI_mul]; exact k)
theorem di_div (hexec : p.tables.exec = Jvm.exec) (hb : c.code = cc) {x y : Int} (hdg : decode cc pc = .ok (.idiv, 1)) (h0 : 0 ≤ x) (h1 : x < 2147483648) (h2 : 0 < y) (h3 : y < 2147483648)
    (k : W p l e R s m args below meth c H locs cells slots Q (F0 m (pc + 1) ls (.int (iI (x / y)) :: rest))) : W p l e R s m args below meth c H locs cells slots Q (F0 m pc ls (.int (iI y) :: .int (iI x) :: rest)) :=
  lv_idiv hexec hb hdg (fun q => by rw [iI_n0 ⟨by omega, h3⟩] at q; omega) (by rw [iI_div h0 h1 h2 h3]; exact k)
theorem di_rem (hexec : p.tables.exec = Jvm.exec) (hb : c.code = cc) {x y : Int} (hdg : decode cc pc = .ok (.irem, 1)) (h0 : 0 ≤ x) (h1 : x < 2147483648) (h2 : 0 < y) (h3 : y < 2147483648)
    (k : W p l e R s m args below meth c H locs cells slots Q (F0 m (pc + 1) ls (.int (iI (x % y)) :: rest))) : W p l e R s m args below meth c H locs cells slots Q (F0 m pc ls (.int (iI y) :: .int (iI x) :: rest)) :=
  lv_irem hexec hb hdg (fun q => by rw [iI_n0 ⟨by omega, h3⟩] at q; omega) (by rw [iI_rem h0 h1 h2 h3]; exact k)
end DWR
theorem iR0 : iR 0 := ⟨by decide, by decide⟩
section DBR
variable {p : Program} {l : Launch} {e : Env} {R : Room} {s : State} {m : MethodId} {args : Array Value} {below : List Frame} {meth : Method} {c : Code} {H : Heap} {locs : List Loc} {cells slots : Nat} {Q : State → Prop}
variable {cc : ByteArray} {pc : Nat} {ls : Array Slot} {rest : List Value}
theorem di_icmp_eq (hexec : p.tables.exec = Jvm.exec) (hb : c.code = cc) {x y : Int} {off : Int} {tgt : Nat} (hdg : decode cc pc = .ok (.if_icmp .eq off, 3)) (ht : (pc : Int) + off = (tgt : Int)) (hx : iR x) (hy : iR y)
    (kt : x = y → W p l e R s m args below meth c H locs cells slots Q (F0 m tgt ls rest)) (kf : x ≠ y → W p l e R s m args below meth c H locs cells slots Q (F0 m (pc + 3) ls rest)) : W p l e R s m args below meth c H locs cells slots Q (F0 m pc ls (.int (iI y) :: .int (iI x) :: rest)) :=
  lv_icmp_eq hexec hb hdg ht (fun q => kt ((iI_eq hx hy).mp q)) (fun q => kf (by have h9 := mt (iI_eq hx hy).mpr q; omega))
theorem di_if_eq (hexec : p.tables.exec = Jvm.exec) (hb : c.code = cc) {x : Int} {off : Int} {tgt : Nat} (hdg : decode cc pc = .ok (.ifCond .eq off, 3)) (ht : (pc : Int) + off = (tgt : Int)) (hx : iR x)
    (kt : x = 0 → W p l e R s m args below meth c H locs cells slots Q (F0 m tgt ls rest)) (kf : x ≠ 0 → W p l e R s m args below meth c H locs cells slots Q (F0 m (pc + 3) ls rest)) : W p l e R s m args below meth c H locs cells slots Q (F0 m pc ls (.int (iI x) :: rest)) :=
  lv_if_eq hexec hb hdg ht (fun q => kt ((iI_eq hx iR0).mp q)) (fun q => kf (by have h9 := mt (iI_eq hx iR0).mpr q; omega))
theorem di_icmp_ne (hexec : p.tables.exec = Jvm.exec) (hb : c.code = cc) {x y : Int} {off : Int} {tgt : Nat} (hdg : decode cc pc = .ok (.if_icmp .ne off, 3)) (ht : (pc : Int) + off = (tgt : Int)) (hx : iR x) (hy : iR y)
    (kt : x ≠ y → W p l e R s m args below meth c H locs cells slots Q (F0 m tgt ls rest)) (kf : x = y → W p l e R s m args below meth c H locs cells slots Q (F0 m (pc + 3) ls rest)) : W p l e R s m args below meth c H locs cells slots Q (F0 m pc ls (.int (iI y) :: .int (iI x) :: rest)) :=
  lv_icmp_ne hexec hb hdg ht (fun q => kt (fun z => q ((iI_eq hx hy).mpr z))) (fun q => kf ((iI_eq hx hy).mp q))
theorem di_if_ne (hexec : p.tables.exec = Jvm.exec) (hb : c.code = cc) {x : Int} {off : Int} {tgt : Nat} (hdg : decode cc pc = .ok (.ifCond .ne off, 3)) (ht : (pc : Int) + off = (tgt : Int)) (hx : iR x)
    (kt : x ≠ 0 → W p l e R s m args below meth c H locs cells slots Q (F0 m tgt ls rest)) (kf : x = 0 → W p l e R s m args below meth c H locs cells slots Q (F0 m (pc + 3) ls rest)) : W p l e R s m args below meth c H locs cells slots Q (F0 m pc ls (.int (iI x) :: rest)) :=
  lv_if_ne hexec hb hdg ht (fun q => kt (fun z => q ((iI_eq hx iR0).mpr z))) (fun q => kf ((iI_eq hx iR0).mp q))
theorem di_icmp_lt (hexec : p.tables.exec = Jvm.exec) (hb : c.code = cc) {x y : Int} {off : Int} {tgt : Nat} (hdg : decode cc pc = .ok (.if_icmp .lt off, 3)) (ht : (pc : Int) + off = (tgt : Int)) (hx : iR x) (hy : iR y)
    (kt : x < y → W p l e R s m args below meth c H locs cells slots Q (F0 m tgt ls rest)) (kf : y ≤ x → W p l e R s m args below meth c H locs cells slots Q (F0 m (pc + 3) ls rest)) : W p l e R s m args below meth c H locs cells slots Q (F0 m pc ls (.int (iI y) :: .int (iI x) :: rest)) :=
  lv_icmp_lt hexec hb hdg ht (fun q => kt ((iI_lt hx hy).mp q)) (fun q => kf (by have h9 := mt (iI_lt hx hy).mpr q; omega))
theorem di_if_lt (hexec : p.tables.exec = Jvm.exec) (hb : c.code = cc) {x : Int} {off : Int} {tgt : Nat} (hdg : decode cc pc = .ok (.ifCond .lt off, 3)) (ht : (pc : Int) + off = (tgt : Int)) (hx : iR x)
    (kt : x < 0 → W p l e R s m args below meth c H locs cells slots Q (F0 m tgt ls rest)) (kf : 0 ≤ x → W p l e R s m args below meth c H locs cells slots Q (F0 m (pc + 3) ls rest)) : W p l e R s m args below meth c H locs cells slots Q (F0 m pc ls (.int (iI x) :: rest)) :=
  lv_if_lt hexec hb hdg ht (fun q => kt ((iI_lt hx iR0).mp q)) (fun q => kf (by have h9 := mt (iI_lt hx iR0).mpr q; omega))
theorem di_icmp_ge (hexec : p.tables.exec = Jvm.exec) (hb : c.code = cc) {x y : Int} {off : Int} {tgt : Nat} (hdg : decode cc pc = .ok (.if_icmp .ge off, 3)) (ht : (pc : Int) + off = (tgt : Int)) (hx : iR x) (hy : iR y)
    (kt : y ≤ x → W p l e R s m args below meth c H locs cells slots Q (F0 m tgt ls rest)) (kf : x < y → W p l e R s m args below meth c H locs cells slots Q (F0 m (pc + 3) ls rest)) : W p l e R s m args below meth c H locs cells slots Q (F0 m pc ls (.int (iI y) :: .int (iI x) :: rest)) :=
  lv_icmp_ge hexec hb hdg ht (fun q => kt ((iI_le hy hx).mp q)) (fun q => kf (by have h9 := mt (iI_le hy hx).mpr q; omega))
theorem di_if_ge (hexec : p.tables.exec = Jvm.exec) (hb : c.code = cc) {x : Int} {off : Int} {tgt : Nat} (hdg : decode cc pc = .ok (.ifCond .ge off, 3)) (ht : (pc : Int) + off = (tgt : Int)) (hx : iR x)
    (kt : 0 ≤ x → W p l e R s m args below meth c H locs cells slots Q (F0 m tgt ls rest)) (kf : x < 0 → W p l e R s m args below meth c H locs cells slots Q (F0 m (pc + 3) ls rest)) : W p l e R s m args below meth c H locs cells slots Q (F0 m pc ls (.int (iI x) :: rest)) :=
  lv_if_ge hexec hb hdg ht (fun q => kt ((iI_le iR0 hx).mp q)) (fun q => kf (by have h9 := mt (iI_le iR0 hx).mpr q; omega))
theorem di_icmp_gt (hexec : p.tables.exec = Jvm.exec) (hb : c.code = cc) {x y : Int} {off : Int} {tgt : Nat} (hdg : decode cc pc = .ok (.if_icmp .gt off, 3)) (ht : (pc : Int) + off = (tgt : Int)) (hx : iR x) (hy : iR y)
    (kt : y < x → W p l e R s m args below meth c H locs cells slots Q (F0 m tgt ls rest)) (kf : x ≤ y → W p l e R s m args below meth c H locs cells slots Q (F0 m (pc + 3) ls rest)) : W p l e R s m args below meth c H locs cells slots Q (F0 m pc ls (.int (iI y) :: .int (iI x) :: rest)) :=
  lv_icmp_gt hexec hb hdg ht (fun q => kt ((iI_lt hy hx).mp q)) (fun q => kf (by have h9 := mt (iI_lt hy hx).mpr q; omega))
theorem di_if_gt (hexec : p.tables.exec = Jvm.exec) (hb : c.code = cc) {x : Int} {off : Int} {tgt : Nat} (hdg : decode cc pc = .ok (.ifCond .gt off, 3)) (ht : (pc : Int) + off = (tgt : Int)) (hx : iR x)
    (kt : 0 < x → W p l e R s m args below meth c H locs cells slots Q (F0 m tgt ls rest)) (kf : x ≤ 0 → W p l e R s m args below meth c H locs cells slots Q (F0 m (pc + 3) ls rest)) : W p l e R s m args below meth c H locs cells slots Q (F0 m pc ls (.int (iI x) :: rest)) :=
  lv_if_gt hexec hb hdg ht (fun q => kt ((iI_lt iR0 hx).mp q)) (fun q => kf (by have h9 := mt (iI_lt iR0 hx).mpr q; omega))
theorem di_icmp_le (hexec : p.tables.exec = Jvm.exec) (hb : c.code = cc) {x y : Int} {off : Int} {tgt : Nat} (hdg : decode cc pc = .ok (.if_icmp .le off, 3)) (ht : (pc : Int) + off = (tgt : Int)) (hx : iR x) (hy : iR y)
    (kt : x ≤ y → W p l e R s m args below meth c H locs cells slots Q (F0 m tgt ls rest)) (kf : y < x → W p l e R s m args below meth c H locs cells slots Q (F0 m (pc + 3) ls rest)) : W p l e R s m args below meth c H locs cells slots Q (F0 m pc ls (.int (iI y) :: .int (iI x) :: rest)) :=
  lv_icmp_le hexec hb hdg ht (fun q => kt ((iI_le hx hy).mp q)) (fun q => kf (by have h9 := mt (iI_le hx hy).mpr q; omega))
theorem di_if_le (hexec : p.tables.exec = Jvm.exec) (hb : c.code = cc) {x : Int} {off : Int} {tgt : Nat} (hdg : decode cc pc = .ok (.ifCond .le off, 3)) (ht : (pc : Int) + off = (tgt : Int)) (hx : iR x)
    (kt : x ≤ 0 → W p l e R s m args below meth c H locs cells slots Q (F0 m tgt ls rest)) (kf : 0 < x → W p l e R s m args below meth c H locs cells slots Q (F0 m (pc + 3) ls rest)) : W p l e R s m args below meth c H locs cells slots Q (F0 m pc ls (.int (iI x) :: rest)) :=
  lv_if_le hexec hb hdg ht (fun q => kt ((iI_le hx iR0).mp q)) (fun q => kf (by have h9 := mt (iI_le hx iR0).mpr q; omega))
end DBR
end
section
theorem mw_0 : Cond.initialized "TextDeskLaw" ∈ dk_all := dk_in 28 (by decide +kernel) (by decide +kernel)
theorem mw_1 : Cond.initialized "TextDesk" ∈ dk_all := dk_in 29 (by decide +kernel) (by decide +kernel)
theorem mw_2 : Cond.initialized "TextDesk$Sequence" ∈ dk_all := dk_in 30 (by decide +kernel) (by decide +kernel)
theorem mw_3 : Cond.initialized "TextDesk$Row" ∈ dk_all := dk_in 31 (by decide +kernel) (by decide +kernel)
theorem mw_4 : Cond.initialized "java/lang/Math" ∈ dk_all := dk_in 32 (by decide +kernel) (by decide +kernel)
theorem mw_5 : Cond.initialized "TextDesk$Decoder" ∈ dk_all := dk_in 33 (by decide +kernel) (by decide +kernel)
theorem mw_6 : Cond.initialized "TextDeskModel" ∈ dk_all := dk_in 34 (by decide +kernel) (by decide +kernel)
theorem mw_7 : Cond.initialized "java/lang/Throwable" ∈ dk_all := dk_in 35 (by decide +kernel) (by decide +kernel)
theorem mw_8 : Cond.initialized "java/lang/Exception" ∈ dk_all := dk_in 36 (by decide +kernel) (by decide +kernel)
theorem mw_9 : Cond.initialized "java/lang/RuntimeException" ∈ dk_all := dk_in 37 (by decide +kernel) (by decide +kernel)
theorem mw_10 : Cond.initialized "java/lang/IllegalArgumentException" ∈ dk_all := dk_in 38 (by decide +kernel) (by decide +kernel)
theorem mw_11 : Cond.initialized "java/lang/IllegalStateException" ∈ dk_all := dk_in 39 (by decide +kernel) (by decide +kernel)
theorem mw_12 : Cond.initialized "TextDesk$Text" ∈ dk_all := dk_in 40 (by decide +kernel) (by decide +kernel)
theorem mw_13 : Cond.initialized "TextDesk$WideText" ∈ dk_all := dk_in 41 (by decide +kernel) (by decide +kernel)
theorem mw_14 : Cond.initialized "TextDesk$NarrowText" ∈ dk_all := dk_in 42 (by decide +kernel) (by decide +kernel)
theorem mw_15 : Cond.initialized "java/lang/IndexOutOfBoundsException" ∈ dk_all := dk_in 43 (by decide +kernel) (by decide +kernel)
theorem mw_16 : Cond.initialized "TextDesk$JoinedText" ∈ dk_all := dk_in 44 (by decide +kernel) (by decide +kernel)
theorem mw_17 : Cond.initialized "TextDesk$Encoder" ∈ dk_all := dk_in 45 (by decide +kernel) (by decide +kernel)
theorem mw_18 : Cond.initialized "java/lang/UnsupportedOperationException" ∈ dk_all := dk_in 46 (by decide +kernel) (by decide +kernel)
theorem mw_19 : Cond.classLink "TextDeskLaw" (8 : Nat) "TextDesk" ∈ dk_all := dk_in 47 (by decide +kernel) (by decide +kernel)
theorem mw_20 : Cond.instantiable "TextDesk" (8 : Nat) ∈ dk_all := dk_in 48 (by decide +kernel) (by decide +kernel)
theorem mw_21 : Cond.methodLink "TextDeskLaw" (85 : Nat) ({ cls := "TextDesk", name := "<init>", desc := "()V" } : MethodName) ∈ dk_all := dk_in 49 (by decide +kernel) (by decide +kernel)
theorem mw_22 : Cond.instanceMethod ({ cls := "TextDesk", name := "<init>", desc := "()V" } : MethodName) ∈ dk_all := dk_in 50 (by decide +kernel) (by decide +kernel)
theorem mw_23 : Cond.code ({ cls := "TextDesk", name := "<init>", desc := "()V" } : MethodName) prog_1_method_1_code (1 : Nat) (Option.none : Option Jvm.ClassFile.FieldType) ∈ dk_all := dk_in 51 (by decide +kernel) (by decide +kernel)
theorem mw_24 : Cond.methodLink "TextDesk" (1 : Nat) ({ cls := "java/lang/Object", name := "<init>", desc := "()V" } : MethodName) ∈ dk_all := dk_in 52 (by decide +kernel) (by decide +kernel)
theorem mw_25 : Cond.instanceMethod ({ cls := "java/lang/Object", name := "<init>", desc := "()V" } : MethodName) ∈ dk_all := dk_in 53 (by decide +kernel) (by decide +kernel)
theorem mw_26 : Cond.code ({ cls := "java/lang/Object", name := "<init>", desc := "()V" } : MethodName) object_method_1_code (1 : Nat) (Option.none : Option Jvm.ClassFile.FieldType) ∈ dk_all := dk_in 54 (by decide +kernel) (by decide +kernel)
theorem mw_27 : Cond.classLink "TextDesk" (9 : Nat) "TextDesk$Text" ∈ dk_all := dk_in 55 (by decide +kernel) (by decide +kernel)
theorem mw_29 : Cond.classLink "TextDesk" (18 : Nat) "TextDesk$Row" ∈ dk_all := dk_in 57 (by decide +kernel) (by decide +kernel)
theorem mw_30 : Cond.instantiable "TextDesk$Row" (3 : Nat) ∈ dk_all := dk_in 58 (by decide +kernel) (by decide +kernel)
theorem mw_31 : Cond.methodLink "TextDesk" (20 : Nat) ({ cls := "TextDesk$Row", name := "<init>", desc := "(I)V" } : MethodName) ∈ dk_all := dk_in 59 (by decide +kernel) (by decide +kernel)
theorem mw_32 : Cond.instanceMethod ({ cls := "TextDesk$Row", name := "<init>", desc := "(I)V" } : MethodName) ∈ dk_all := dk_in 60 (by decide +kernel) (by decide +kernel)
theorem mw_33 : Cond.code ({ cls := "TextDesk$Row", name := "<init>", desc := "(I)V" } : MethodName) prog_6_method_1_code (2 : Nat) (Option.none : Option Jvm.ClassFile.FieldType) ∈ dk_all := dk_in 61 (by decide +kernel) (by decide +kernel)
theorem mw_35 : Cond.instanceMethod ({ cls := "TextDesk$Sequence", name := "<init>", desc := "()V" } : MethodName) ∈ dk_all := dk_in 63 (by decide +kernel) (by decide +kernel)
theorem mw_36 : Cond.code ({ cls := "TextDesk$Sequence", name := "<init>", desc := "()V" } : MethodName) prog_7_method_1_code (1 : Nat) (Option.none : Option Jvm.ClassFile.FieldType) ∈ dk_all := dk_in 64 (by decide +kernel) (by decide +kernel)
theorem mw_37 : Cond.methodLink "TextDesk$Sequence" (1 : Nat) ({ cls := "java/lang/Object", name := "<init>", desc := "()V" } : MethodName) ∈ dk_all := dk_in 65 (by decide +kernel) (by decide +kernel)
theorem mw_38 : Cond.methodLink "TextDesk$Row" (9 : Nat) ({ cls := "java/lang/Math", name := "max", desc := "(II)I" } : MethodName) ∈ dk_all := dk_in 66 (by decide +kernel) (by decide +kernel)
theorem mw_39 : Cond.static ({ cls := "java/lang/Math", name := "max", desc := "(II)I" } : MethodName) ∈ dk_all := dk_in 67 (by decide +kernel) (by decide +kernel)
theorem mw_40 : Cond.code ({ cls := "java/lang/Math", name := "max", desc := "(II)I" } : MethodName) prog_16_method_65_code (2 : Nat) (Option.some FieldType.int) ∈ dk_all := dk_in 68 (by decide +kernel) (by decide +kernel)
theorem mw_41 : Cond.fieldLink "TextDesk$Row" (15 : Nat) "TextDesk$Row" "items" "[I" ∈ dk_all := dk_in 69 (by decide +kernel) (by decide +kernel)
theorem mw_42 : Cond.fieldLink "TextDesk$Row" (21 : Nat) "TextDesk$Row" "size" "I" ∈ dk_all := dk_in 70 (by decide +kernel) (by decide +kernel)
theorem mw_43 : Cond.fieldLink "TextDesk$Row" (25 : Nat) "TextDesk$Row" "spilled" "Z" ∈ dk_all := dk_in 71 (by decide +kernel) (by decide +kernel)
theorem mw_44 : Cond.laysFinal "TextDesk$Row" "TextDesk$Row" "items" "[I" ∈ dk_all := dk_in 72 (by decide +kernel) (by decide +kernel)
theorem mw_46 : Cond.lays "TextDesk$Row" "TextDesk$Row" "size" "I" ∈ dk_all := dk_in 74 (by decide +kernel) (by decide +kernel)
theorem mw_48 : Cond.lays "TextDesk$Row" "TextDesk$Row" "spilled" "Z" ∈ dk_all := dk_in 76 (by decide +kernel) (by decide +kernel)
theorem mw_51 : Cond.arrayClass FieldType.int ∈ dk_all := dk_in 79 (by decide +kernel) (by decide +kernel)
theorem mw_52 : Cond.classLink "TextDesk" (27 : Nat) "TextDesk$Decoder" ∈ dk_all := dk_in 80 (by decide +kernel) (by decide +kernel)
theorem mw_53 : Cond.instantiable "TextDesk$Decoder" (2 : Nat) ∈ dk_all := dk_in 81 (by decide +kernel) (by decide +kernel)
theorem mw_55 : Cond.instanceMethod ({ cls := "TextDesk$Decoder", name := "<init>", desc := "()V" } : MethodName) ∈ dk_all := dk_in 83 (by decide +kernel) (by decide +kernel)
theorem mw_56 : Cond.code ({ cls := "TextDesk$Decoder", name := "<init>", desc := "()V" } : MethodName) prog_2_method_1_code (1 : Nat) (Option.none : Option Jvm.ClassFile.FieldType) ∈ dk_all := dk_in 84 (by decide +kernel) (by decide +kernel)
theorem mw_57 : Cond.methodLink "TextDesk$Decoder" (3 : Nat) ({ cls := "java/lang/Object", name := "<init>", desc := "()V" } : MethodName) ∈ dk_all := dk_in 85 (by decide +kernel) (by decide +kernel)
theorem mw_58 : Cond.fieldLink "TextDesk$Decoder" (21 : Nat) "TextDesk$Decoder" "code" "I" ∈ dk_all := dk_in 86 (by decide +kernel) (by decide +kernel)
theorem mw_59 : Cond.fieldLink "TextDesk$Decoder" (30 : Nat) "TextDesk$Decoder" "width" "I" ∈ dk_all := dk_in 87 (by decide +kernel) (by decide +kernel)
theorem mw_60 : Cond.lays "TextDesk$Decoder" "TextDesk$Decoder" "code" "I" ∈ dk_all := dk_in 88 (by decide +kernel) (by decide +kernel)
theorem mw_62 : Cond.lays "TextDesk$Decoder" "TextDesk$Decoder" "width" "I" ∈ dk_all := dk_in 90 (by decide +kernel) (by decide +kernel)
theorem mw_65 : Cond.fieldLink "TextDesk" (11 : Nat) "TextDesk" "texts" "[LTextDesk$Text;" ∈ dk_all := dk_in 93 (by decide +kernel) (by decide +kernel)
theorem mw_66 : Cond.fieldLink "TextDesk" (173 : Nat) "TextDesk" "textCount" "I" ∈ dk_all := dk_in 94 (by decide +kernel) (by decide +kernel)
theorem mw_67 : Cond.fieldLink "TextDesk" (15 : Nat) "TextDesk" "symbols" "[LTextDesk$Text;" ∈ dk_all := dk_in 95 (by decide +kernel) (by decide +kernel)
theorem mw_68 : Cond.fieldLink "TextDesk" (145 : Nat) "TextDesk" "symbolCount" "I" ∈ dk_all := dk_in 96 (by decide +kernel) (by decide +kernel)
theorem mw_69 : Cond.fieldLink "TextDesk" (23 : Nat) "TextDesk" "bytes" "LTextDesk$Row;" ∈ dk_all := dk_in 97 (by decide +kernel) (by decide +kernel)
theorem mw_70 : Cond.fieldLink "TextDesk" (30 : Nat) "TextDesk" "decoder" "LTextDesk$Decoder;" ∈ dk_all := dk_in 98 (by decide +kernel) (by decide +kernel)
theorem mw_71 : Cond.fieldLink "TextDesk" (34 : Nat) "TextDesk" "builder" "LTextDesk$Row;" ∈ dk_all := dk_in 99 (by decide +kernel) (by decide +kernel)
theorem mw_72 : Cond.fieldLink "TextDesk" (37 : Nat) "TextDesk" "draft" "LTextDesk$Row;" ∈ dk_all := dk_in 100 (by decide +kernel) (by decide +kernel)
theorem mw_73 : Cond.laysFinal "TextDesk" "TextDesk" "texts" "[LTextDesk$Text;" ∈ dk_all := dk_in 101 (by decide +kernel) (by decide +kernel)
theorem mw_75 : Cond.lays "TextDesk" "TextDesk" "textCount" "I" ∈ dk_all := dk_in 103 (by decide +kernel) (by decide +kernel)
theorem mw_77 : Cond.laysFinal "TextDesk" "TextDesk" "symbols" "[LTextDesk$Text;" ∈ dk_all := dk_in 105 (by decide +kernel) (by decide +kernel)
theorem mw_79 : Cond.lays "TextDesk" "TextDesk" "symbolCount" "I" ∈ dk_all := dk_in 107 (by decide +kernel) (by decide +kernel)
theorem mw_81 : Cond.laysFinal "TextDesk" "TextDesk" "bytes" "LTextDesk$Row;" ∈ dk_all := dk_in 109 (by decide +kernel) (by decide +kernel)
theorem mw_83 : Cond.laysFinal "TextDesk" "TextDesk" "decoder" "LTextDesk$Decoder;" ∈ dk_all := dk_in 111 (by decide +kernel) (by decide +kernel)
theorem mw_85 : Cond.lays "TextDesk" "TextDesk" "builder" "LTextDesk$Row;" ∈ dk_all := dk_in 113 (by decide +kernel) (by decide +kernel)
theorem mw_87 : Cond.lays "TextDesk" "TextDesk" "draft" "LTextDesk$Row;" ∈ dk_all := dk_in 115 (by decide +kernel) (by decide +kernel)
theorem mw_90 : Cond.methodLink "TextDeskLaw" (106 : Nat) ({ cls := "TextDesk", name := "reverse", desc := "()V" } : MethodName) ∈ dk_all := dk_in 118 (by decide +kernel) (by decide +kernel)
theorem mw_91 : Cond.instanceMethod ({ cls := "TextDesk", name := "reverse", desc := "()V" } : MethodName) ∈ dk_all := dk_in 119 (by decide +kernel) (by decide +kernel)
theorem mw_92 : Cond.selects "TextDesk" ({ cls := "TextDesk", name := "reverse", desc := "()V" } : MethodName) ({ cls := "TextDesk", name := "reverse", desc := "()V" } : MethodName) ∈ dk_all := dk_in 120 (by decide +kernel) (by decide +kernel)
theorem mw_93 : Cond.code ({ cls := "TextDesk", name := "reverse", desc := "()V" } : MethodName) prog_1_method_5_code (2 : Nat) (Option.none : Option Jvm.ClassFile.FieldType) ∈ dk_all := dk_in 121 (by decide +kernel) (by decide +kernel)
theorem mw_94 : Cond.methodLink "TextDesk" (70 : Nat) ({ cls := "TextDesk$Row", name := "drop", desc := "()V" } : MethodName) ∈ dk_all := dk_in 122 (by decide +kernel) (by decide +kernel)
theorem mw_95 : Cond.instanceMethod ({ cls := "TextDesk$Row", name := "drop", desc := "()V" } : MethodName) ∈ dk_all := dk_in 123 (by decide +kernel) (by decide +kernel)
theorem mw_96 : Cond.selects "TextDesk$Row" ({ cls := "TextDesk$Row", name := "drop", desc := "()V" } : MethodName) ({ cls := "TextDesk$Row", name := "drop", desc := "()V" } : MethodName) ∈ dk_all := dk_in 124 (by decide +kernel) (by decide +kernel)
theorem mw_97 : Cond.code ({ cls := "TextDesk$Row", name := "drop", desc := "()V" } : MethodName) prog_6_method_8_code (1 : Nat) (Option.none : Option Jvm.ClassFile.FieldType) ∈ dk_all := dk_in 125 (by decide +kernel) (by decide +kernel)
theorem mw_98 : Cond.methodLink "TextDesk" (60 : Nat) ({ cls := "TextDesk$Row", name := "size", desc := "()I" } : MethodName) ∈ dk_all := dk_in 126 (by decide +kernel) (by decide +kernel)
theorem mw_99 : Cond.instanceMethod ({ cls := "TextDesk$Row", name := "size", desc := "()I" } : MethodName) ∈ dk_all := dk_in 127 (by decide +kernel) (by decide +kernel)
theorem mw_100 : Cond.selects "TextDesk$Row" ({ cls := "TextDesk$Row", name := "size", desc := "()I" } : MethodName) ({ cls := "TextDesk$Row", name := "size", desc := "()I" } : MethodName) ∈ dk_all := dk_in 128 (by decide +kernel) (by decide +kernel)
theorem mw_101 : Cond.code ({ cls := "TextDesk$Row", name := "size", desc := "()I" } : MethodName) prog_6_method_2_code (1 : Nat) (Option.some FieldType.int) ∈ dk_all := dk_in 129 (by decide +kernel) (by decide +kernel)
theorem mw_102 : Cond.methodLink "TextDesk" (88 : Nat) ({ cls := "TextDesk", name := "isPairAt", desc := "(LTextDesk$Sequence;I)Z" } : MethodName) ∈ dk_all := dk_in 130 (by decide +kernel) (by decide +kernel)
theorem mw_103 : Cond.static ({ cls := "TextDesk", name := "isPairAt", desc := "(LTextDesk$Sequence;I)Z" } : MethodName) ∈ dk_all := dk_in 131 (by decide +kernel) (by decide +kernel)
theorem mw_104 : Cond.code ({ cls := "TextDesk", name := "isPairAt", desc := "(LTextDesk$Sequence;I)Z" } : MethodName) prog_1_method_36_code (2 : Nat) (Option.some FieldType.boolean) ∈ dk_all := dk_in 132 (by decide +kernel) (by decide +kernel)
theorem mw_105 : Cond.methodLink "TextDesk" (192 : Nat) ({ cls := "TextDesk$Sequence", name := "get", desc := "(I)I" } : MethodName) ∈ dk_all := dk_in 133 (by decide +kernel) (by decide +kernel)
theorem mw_107 : Cond.sameMethod "TextDesk$Sequence" "TextDesk$Sequence" "get" "(I)I" ∈ dk_all := dk_in 135 (by decide +kernel) (by decide +kernel)
theorem mw_108 : Cond.selects "TextDesk$JoinedText" ({ cls := "TextDesk$Sequence", name := "get", desc := "(I)I" } : MethodName) ({ cls := "TextDesk$JoinedText", name := "get", desc := "(I)I" } : MethodName) ∈ dk_all := dk_in 136 (by decide +kernel) (by decide +kernel)
theorem mw_109 : Cond.instanceMethod ({ cls := "TextDesk$JoinedText", name := "get", desc := "(I)I" } : MethodName) ∈ dk_all := dk_in 137 (by decide +kernel) (by decide +kernel)
theorem mw_110 : Cond.code ({ cls := "TextDesk$JoinedText", name := "get", desc := "(I)I" } : MethodName) prog_4_method_2_code (3 : Nat) (Option.some FieldType.int) ∈ dk_all := dk_in 138 (by decide +kernel) (by decide +kernel)
theorem mw_111 : Cond.classLink "TextDesk$JoinedText" (27 : Nat) "TextDesk$Row" ∈ dk_all := dk_in 139 (by decide +kernel) (by decide +kernel)
theorem mw_112 : Cond.methodLink "TextDesk$JoinedText" (29 : Nat) ({ cls := "TextDesk$JoinedText", name := "size", desc := "()I" } : MethodName) ∈ dk_all := dk_in 140 (by decide +kernel) (by decide +kernel)
theorem mw_113 : Cond.sameMethod "TextDesk$JoinedText" "TextDesk$Text" "size" "()I" ∈ dk_all := dk_in 141 (by decide +kernel) (by decide +kernel)
theorem mw_115 : Cond.selects "TextDesk$JoinedText" ({ cls := "TextDesk$JoinedText", name := "size", desc := "()I" } : MethodName) ({ cls := "TextDesk$Text", name := "size", desc := "()I" } : MethodName) ∈ dk_all := dk_in 143 (by decide +kernel) (by decide +kernel)
theorem mw_116 : Cond.instanceMethod ({ cls := "TextDesk$Text", name := "size", desc := "()I" } : MethodName) ∈ dk_all := dk_in 144 (by decide +kernel) (by decide +kernel)
theorem mw_117 : Cond.code ({ cls := "TextDesk$Text", name := "size", desc := "()I" } : MethodName) prog_8_method_2_code (1 : Nat) (Option.some FieldType.int) ∈ dk_all := dk_in 145 (by decide +kernel) (by decide +kernel)
theorem mw_118 : Cond.methodLink "TextDesk$JoinedText" (30 : Nat) ({ cls := "TextDesk$Row", name := "<init>", desc := "(I)V" } : MethodName) ∈ dk_all := dk_in 146 (by decide +kernel) (by decide +kernel)
theorem mw_119 : Cond.methodLink "TextDesk$JoinedText" (33 : Nat) ({ cls := "TextDesk$JoinedText", name := "pourInto", desc := "(LTextDesk$Row;)V" } : MethodName) ∈ dk_all := dk_in 147 (by decide +kernel) (by decide +kernel)
theorem mw_120 : Cond.instanceMethod ({ cls := "TextDesk$JoinedText", name := "pourInto", desc := "(LTextDesk$Row;)V" } : MethodName) ∈ dk_all := dk_in 148 (by decide +kernel) (by decide +kernel)
theorem mw_121 : Cond.selects "TextDesk$JoinedText" ({ cls := "TextDesk$JoinedText", name := "pourInto", desc := "(LTextDesk$Row;)V" } : MethodName) ({ cls := "TextDesk$JoinedText", name := "pourInto", desc := "(LTextDesk$Row;)V" } : MethodName) ∈ dk_all := dk_in 149 (by decide +kernel) (by decide +kernel)
theorem mw_122 : Cond.code ({ cls := "TextDesk$JoinedText", name := "pourInto", desc := "(LTextDesk$Row;)V" } : MethodName) prog_4_method_3_code (2 : Nat) (Option.none : Option Jvm.ClassFile.FieldType) ∈ dk_all := dk_in 150 (by decide +kernel) (by decide +kernel)
theorem mw_123 : Cond.methodLink "TextDesk$JoinedText" (47 : Nat) ({ cls := "TextDesk$Text", name := "pourInto", desc := "(LTextDesk$Row;)V" } : MethodName) ∈ dk_all := dk_in 151 (by decide +kernel) (by decide +kernel)
theorem mw_124 : Cond.instanceMethod ({ cls := "TextDesk$Text", name := "pourInto", desc := "(LTextDesk$Row;)V" } : MethodName) ∈ dk_all := dk_in 152 (by decide +kernel) (by decide +kernel)
theorem mw_125 : Cond.sameMethod "TextDesk$Text" "TextDesk$Text" "pourInto" "(LTextDesk$Row;)V" ∈ dk_all := dk_in 153 (by decide +kernel) (by decide +kernel)
theorem mw_126 : Cond.selects "TextDesk$JoinedText" ({ cls := "TextDesk$Text", name := "pourInto", desc := "(LTextDesk$Row;)V" } : MethodName) ({ cls := "TextDesk$JoinedText", name := "pourInto", desc := "(LTextDesk$Row;)V" } : MethodName) ∈ dk_all := dk_in 154 (by decide +kernel) (by decide +kernel)
theorem mw_127 : Cond.selects "TextDesk$NarrowText" ({ cls := "TextDesk$Text", name := "pourInto", desc := "(LTextDesk$Row;)V" } : MethodName) ({ cls := "TextDesk$Text", name := "pourInto", desc := "(LTextDesk$Row;)V" } : MethodName) ∈ dk_all := dk_in 155 (by decide +kernel) (by decide +kernel)
theorem mw_128 : Cond.selects "TextDesk$WideText" ({ cls := "TextDesk$Text", name := "pourInto", desc := "(LTextDesk$Row;)V" } : MethodName) ({ cls := "TextDesk$Text", name := "pourInto", desc := "(LTextDesk$Row;)V" } : MethodName) ∈ dk_all := dk_in 156 (by decide +kernel) (by decide +kernel)
theorem mw_129 : Cond.code ({ cls := "TextDesk$Text", name := "pourInto", desc := "(LTextDesk$Row;)V" } : MethodName) prog_8_method_4_code (2 : Nat) (Option.none : Option Jvm.ClassFile.FieldType) ∈ dk_all := dk_in 157 (by decide +kernel) (by decide +kernel)
theorem mw_130 : Cond.methodLink "TextDesk$Text" (17 : Nat) ({ cls := "TextDesk$Row", name := "appendRange", desc := "(LTextDesk$Sequence;II)V" } : MethodName) ∈ dk_all := dk_in 158 (by decide +kernel) (by decide +kernel)
theorem mw_131 : Cond.instanceMethod ({ cls := "TextDesk$Row", name := "appendRange", desc := "(LTextDesk$Sequence;II)V" } : MethodName) ∈ dk_all := dk_in 159 (by decide +kernel) (by decide +kernel)
theorem mw_132 : Cond.selects "TextDesk$Row" ({ cls := "TextDesk$Row", name := "appendRange", desc := "(LTextDesk$Sequence;II)V" } : MethodName) ({ cls := "TextDesk$Row", name := "appendRange", desc := "(LTextDesk$Sequence;II)V" } : MethodName) ∈ dk_all := dk_in 160 (by decide +kernel) (by decide +kernel)
theorem mw_133 : Cond.code ({ cls := "TextDesk$Row", name := "appendRange", desc := "(LTextDesk$Sequence;II)V" } : MethodName) prog_6_method_7_code (6 : Nat) (Option.none : Option Jvm.ClassFile.FieldType) ∈ dk_all := dk_in 161 (by decide +kernel) (by decide +kernel)
theorem mw_134 : Cond.methodLink "TextDesk$Row" (29 : Nat) ({ cls := "TextDesk$Sequence", name := "size", desc := "()I" } : MethodName) ∈ dk_all := dk_in 162 (by decide +kernel) (by decide +kernel)
theorem mw_136 : Cond.sameMethod "TextDesk$Sequence" "TextDesk$Sequence" "size" "()I" ∈ dk_all := dk_in 164 (by decide +kernel) (by decide +kernel)
theorem mw_137 : Cond.selects "TextDesk$JoinedText" ({ cls := "TextDesk$Sequence", name := "size", desc := "()I" } : MethodName) ({ cls := "TextDesk$Text", name := "size", desc := "()I" } : MethodName) ∈ dk_all := dk_in 165 (by decide +kernel) (by decide +kernel)
theorem mw_138 : Cond.selects "TextDesk$NarrowText" ({ cls := "TextDesk$Sequence", name := "size", desc := "()I" } : MethodName) ({ cls := "TextDesk$Text", name := "size", desc := "()I" } : MethodName) ∈ dk_all := dk_in 166 (by decide +kernel) (by decide +kernel)
theorem mw_139 : Cond.selects "TextDesk$Row" ({ cls := "TextDesk$Sequence", name := "size", desc := "()I" } : MethodName) ({ cls := "TextDesk$Row", name := "size", desc := "()I" } : MethodName) ∈ dk_all := dk_in 167 (by decide +kernel) (by decide +kernel)
theorem mw_140 : Cond.selects "TextDesk$WideText" ({ cls := "TextDesk$Sequence", name := "size", desc := "()I" } : MethodName) ({ cls := "TextDesk$Text", name := "size", desc := "()I" } : MethodName) ∈ dk_all := dk_in 168 (by decide +kernel) (by decide +kernel)
theorem mw_141 : Cond.methodLink "TextDesk$Row" (32 : Nat) ({ cls := "java/lang/Math", name := "min", desc := "(II)I" } : MethodName) ∈ dk_all := dk_in 169 (by decide +kernel) (by decide +kernel)
theorem mw_142 : Cond.static ({ cls := "java/lang/Math", name := "min", desc := "(II)I" } : MethodName) ∈ dk_all := dk_in 170 (by decide +kernel) (by decide +kernel)
theorem mw_143 : Cond.code ({ cls := "java/lang/Math", name := "min", desc := "(II)I" } : MethodName) prog_16_method_69_code (2 : Nat) (Option.some FieldType.int) ∈ dk_all := dk_in 171 (by decide +kernel) (by decide +kernel)
theorem mw_144 : Cond.methodLink "TextDesk$Row" (35 : Nat) ({ cls := "TextDesk$Sequence", name := "get", desc := "(I)I" } : MethodName) ∈ dk_all := dk_in 172 (by decide +kernel) (by decide +kernel)
theorem mw_145 : Cond.instanceMethod ({ cls := "TextDesk$NarrowText", name := "get", desc := "(I)I" } : MethodName) ∈ dk_all := dk_in 173 (by decide +kernel) (by decide +kernel)
theorem mw_146 : Cond.code ({ cls := "TextDesk$NarrowText", name := "get", desc := "(I)I" } : MethodName) prog_5_method_2_code (2 : Nat) (Option.some FieldType.int) ∈ dk_all := dk_in 174 (by decide +kernel) (by decide +kernel)
theorem mw_147 : Cond.instanceMethod ({ cls := "TextDesk$Row", name := "get", desc := "(I)I" } : MethodName) ∈ dk_all := dk_in 175 (by decide +kernel) (by decide +kernel)
theorem mw_148 : Cond.code ({ cls := "TextDesk$Row", name := "get", desc := "(I)I" } : MethodName) prog_6_method_3_code (2 : Nat) (Option.some FieldType.int) ∈ dk_all := dk_in 176 (by decide +kernel) (by decide +kernel)
theorem mw_149 : Cond.instanceMethod ({ cls := "TextDesk$WideText", name := "get", desc := "(I)I" } : MethodName) ∈ dk_all := dk_in 177 (by decide +kernel) (by decide +kernel)
theorem mw_150 : Cond.code ({ cls := "TextDesk$WideText", name := "get", desc := "(I)I" } : MethodName) prog_9_method_2_code (2 : Nat) (Option.some FieldType.int) ∈ dk_all := dk_in 178 (by decide +kernel) (by decide +kernel)
theorem mw_151 : Cond.methodLink "TextDesk$Row" (39 : Nat) ({ cls := "TextDesk$Row", name := "append", desc := "(I)V" } : MethodName) ∈ dk_all := dk_in 179 (by decide +kernel) (by decide +kernel)
theorem mw_152 : Cond.instanceMethod ({ cls := "TextDesk$Row", name := "append", desc := "(I)V" } : MethodName) ∈ dk_all := dk_in 180 (by decide +kernel) (by decide +kernel)
theorem mw_153 : Cond.selects "TextDesk$Row" ({ cls := "TextDesk$Row", name := "append", desc := "(I)V" } : MethodName) ({ cls := "TextDesk$Row", name := "append", desc := "(I)V" } : MethodName) ∈ dk_all := dk_in 181 (by decide +kernel) (by decide +kernel)
theorem mw_154 : Cond.code ({ cls := "TextDesk$Row", name := "append", desc := "(I)V" } : MethodName) prog_6_method_6_code (2 : Nat) (Option.none : Option Jvm.ClassFile.FieldType) ∈ dk_all := dk_in 182 (by decide +kernel) (by decide +kernel)
theorem mw_156 : Cond.static ({ cls := "TextDesk", name := "textOf", desc := "(LTextDesk$Row;)LTextDesk$Text;" } : MethodName) ∈ dk_all := dk_in 184 (by decide +kernel) (by decide +kernel)
theorem mw_157 : Cond.code ({ cls := "TextDesk", name := "textOf", desc := "(LTextDesk$Row;)LTextDesk$Text;" } : MethodName) prog_1_method_32_code (2 : Nat) (Option.some (FieldType.object "TextDesk$Text")) ∈ dk_all := dk_in 185 (by decide +kernel) (by decide +kernel)
theorem mw_158 : Cond.methodLink "TextDesk" (92 : Nat) ({ cls := "TextDesk$Row", name := "get", desc := "(I)I" } : MethodName) ∈ dk_all := dk_in 186 (by decide +kernel) (by decide +kernel)
theorem mw_159 : Cond.classLink "TextDesk" (195 : Nat) "TextDesk$WideText" ∈ dk_all := dk_in 187 (by decide +kernel) (by decide +kernel)
theorem mw_160 : Cond.instantiable "TextDesk$WideText" (3 : Nat) ∈ dk_all := dk_in 188 (by decide +kernel) (by decide +kernel)
theorem mw_161 : Cond.methodLink "TextDesk" (197 : Nat) ({ cls := "TextDesk$WideText", name := "<init>", desc := "(LTextDesk$Row;)V" } : MethodName) ∈ dk_all := dk_in 189 (by decide +kernel) (by decide +kernel)
theorem mw_162 : Cond.instanceMethod ({ cls := "TextDesk$WideText", name := "<init>", desc := "(LTextDesk$Row;)V" } : MethodName) ∈ dk_all := dk_in 190 (by decide +kernel) (by decide +kernel)
theorem mw_163 : Cond.code ({ cls := "TextDesk$WideText", name := "<init>", desc := "(LTextDesk$Row;)V" } : MethodName) prog_9_method_1_code (3 : Nat) (Option.none : Option Jvm.ClassFile.FieldType) ∈ dk_all := dk_in 191 (by decide +kernel) (by decide +kernel)
theorem mw_164 : Cond.methodLink "TextDesk$WideText" (3 : Nat) ({ cls := "TextDesk$Row", name := "size", desc := "()I" } : MethodName) ∈ dk_all := dk_in 192 (by decide +kernel) (by decide +kernel)
theorem mw_165 : Cond.methodLink "TextDesk$WideText" (9 : Nat) ({ cls := "TextDesk$Text", name := "<init>", desc := "(IZ)V" } : MethodName) ∈ dk_all := dk_in 193 (by decide +kernel) (by decide +kernel)
theorem mw_166 : Cond.instanceMethod ({ cls := "TextDesk$Text", name := "<init>", desc := "(IZ)V" } : MethodName) ∈ dk_all := dk_in 194 (by decide +kernel) (by decide +kernel)
theorem mw_167 : Cond.code ({ cls := "TextDesk$Text", name := "<init>", desc := "(IZ)V" } : MethodName) prog_8_method_1_code (3 : Nat) (Option.none : Option Jvm.ClassFile.FieldType) ∈ dk_all := dk_in 195 (by decide +kernel) (by decide +kernel)
theorem mw_169 : Cond.methodLink "TextDesk$WideText" (21 : Nat) ({ cls := "TextDesk$Row", name := "get", desc := "(I)I" } : MethodName) ∈ dk_all := dk_in 197 (by decide +kernel) (by decide +kernel)
theorem mw_170 : Cond.fieldLink "TextDesk$WideText" (15 : Nat) "TextDesk$WideText" "units" "[C" ∈ dk_all := dk_in 198 (by decide +kernel) (by decide +kernel)
theorem mw_171 : Cond.fieldLink "TextDesk$Text" (7 : Nat) "TextDesk$Text" "size" "I" ∈ dk_all := dk_in 199 (by decide +kernel) (by decide +kernel)
theorem mw_172 : Cond.fieldLink "TextDesk$Text" (13 : Nat) "TextDesk$Text" "isNarrow" "Z" ∈ dk_all := dk_in 200 (by decide +kernel) (by decide +kernel)
theorem mw_173 : Cond.laysFinal "TextDesk$WideText" "TextDesk$WideText" "units" "[C" ∈ dk_all := dk_in 201 (by decide +kernel) (by decide +kernel)
theorem mw_175 : Cond.laysFinal "TextDesk$WideText" "TextDesk$Text" "size" "I" ∈ dk_all := dk_in 203 (by decide +kernel) (by decide +kernel)
theorem mw_177 : Cond.laysFinal "TextDesk$WideText" "TextDesk$Text" "isNarrow" "Z" ∈ dk_all := dk_in 205 (by decide +kernel) (by decide +kernel)
theorem mw_180 : Cond.arrayClass FieldType.char ∈ dk_all := dk_in 208 (by decide +kernel) (by decide +kernel)
theorem mw_181 : Cond.classLink "TextDesk" (200 : Nat) "TextDesk$NarrowText" ∈ dk_all := dk_in 209 (by decide +kernel) (by decide +kernel)
theorem mw_182 : Cond.instantiable "TextDesk$NarrowText" (3 : Nat) ∈ dk_all := dk_in 210 (by decide +kernel) (by decide +kernel)
theorem mw_183 : Cond.methodLink "TextDesk" (202 : Nat) ({ cls := "TextDesk$NarrowText", name := "<init>", desc := "(LTextDesk$Row;)V" } : MethodName) ∈ dk_all := dk_in 211 (by decide +kernel) (by decide +kernel)
theorem mw_184 : Cond.instanceMethod ({ cls := "TextDesk$NarrowText", name := "<init>", desc := "(LTextDesk$Row;)V" } : MethodName) ∈ dk_all := dk_in 212 (by decide +kernel) (by decide +kernel)
theorem mw_185 : Cond.code ({ cls := "TextDesk$NarrowText", name := "<init>", desc := "(LTextDesk$Row;)V" } : MethodName) prog_5_method_1_code (3 : Nat) (Option.none : Option Jvm.ClassFile.FieldType) ∈ dk_all := dk_in 213 (by decide +kernel) (by decide +kernel)
theorem mw_186 : Cond.methodLink "TextDesk$NarrowText" (3 : Nat) ({ cls := "TextDesk$Row", name := "size", desc := "()I" } : MethodName) ∈ dk_all := dk_in 214 (by decide +kernel) (by decide +kernel)
theorem mw_187 : Cond.methodLink "TextDesk$NarrowText" (9 : Nat) ({ cls := "TextDesk$Text", name := "<init>", desc := "(IZ)V" } : MethodName) ∈ dk_all := dk_in 215 (by decide +kernel) (by decide +kernel)
theorem mw_188 : Cond.methodLink "TextDesk$NarrowText" (21 : Nat) ({ cls := "TextDesk$Row", name := "get", desc := "(I)I" } : MethodName) ∈ dk_all := dk_in 216 (by decide +kernel) (by decide +kernel)
theorem mw_189 : Cond.fieldLink "TextDesk$NarrowText" (15 : Nat) "TextDesk$NarrowText" "units" "[B" ∈ dk_all := dk_in 217 (by decide +kernel) (by decide +kernel)
theorem mw_190 : Cond.laysFinal "TextDesk$NarrowText" "TextDesk$NarrowText" "units" "[B" ∈ dk_all := dk_in 218 (by decide +kernel) (by decide +kernel)
theorem mw_192 : Cond.laysFinal "TextDesk$NarrowText" "TextDesk$Text" "size" "I" ∈ dk_all := dk_in 220 (by decide +kernel) (by decide +kernel)
theorem mw_193 : Cond.laysFinal "TextDesk$NarrowText" "TextDesk$Text" "isNarrow" "Z" ∈ dk_all := dk_in 221 (by decide +kernel) (by decide +kernel)
theorem mw_195 : Cond.arrayClass FieldType.byte ∈ dk_all := dk_in 223 (by decide +kernel) (by decide +kernel)
theorem mw_196 : Cond.methodLink "TextDesk$JoinedText" (43 : Nat) ({ cls := "TextDesk$Text", name := "get", desc := "(I)I" } : MethodName) ∈ dk_all := dk_in 224 (by decide +kernel) (by decide +kernel)
theorem mw_197 : Cond.sameMethod "TextDesk$Text" "TextDesk$Sequence" "get" "(I)I" ∈ dk_all := dk_in 225 (by decide +kernel) (by decide +kernel)
theorem mw_198 : Cond.selects "TextDesk$JoinedText" ({ cls := "TextDesk$Text", name := "get", desc := "(I)I" } : MethodName) ({ cls := "TextDesk$JoinedText", name := "get", desc := "(I)I" } : MethodName) ∈ dk_all := dk_in 226 (by decide +kernel) (by decide +kernel)
theorem mw_199 : Cond.selects "TextDesk$NarrowText" ({ cls := "TextDesk$Text", name := "get", desc := "(I)I" } : MethodName) ({ cls := "TextDesk$NarrowText", name := "get", desc := "(I)I" } : MethodName) ∈ dk_all := dk_in 227 (by decide +kernel) (by decide +kernel)
theorem mw_200 : Cond.selects "TextDesk$WideText" ({ cls := "TextDesk$Text", name := "get", desc := "(I)I" } : MethodName) ({ cls := "TextDesk$WideText", name := "get", desc := "(I)I" } : MethodName) ∈ dk_all := dk_in 228 (by decide +kernel) (by decide +kernel)
theorem mw_201 : Cond.selects "TextDesk$NarrowText" ({ cls := "TextDesk$Sequence", name := "get", desc := "(I)I" } : MethodName) ({ cls := "TextDesk$NarrowText", name := "get", desc := "(I)I" } : MethodName) ∈ dk_all := dk_in 229 (by decide +kernel) (by decide +kernel)
theorem mw_202 : Cond.selects "TextDesk$Row" ({ cls := "TextDesk$Sequence", name := "get", desc := "(I)I" } : MethodName) ({ cls := "TextDesk$Row", name := "get", desc := "(I)I" } : MethodName) ∈ dk_all := dk_in 230 (by decide +kernel) (by decide +kernel)
theorem mw_203 : Cond.selects "TextDesk$WideText" ({ cls := "TextDesk$Sequence", name := "get", desc := "(I)I" } : MethodName) ({ cls := "TextDesk$WideText", name := "get", desc := "(I)I" } : MethodName) ∈ dk_all := dk_in 231 (by decide +kernel) (by decide +kernel)
theorem mw_204 : Cond.methodLink "TextDesk" (211 : Nat) ({ cls := "TextDesk", name := "isHigh", desc := "(I)Z" } : MethodName) ∈ dk_all := dk_in 232 (by decide +kernel) (by decide +kernel)
theorem mw_205 : Cond.static ({ cls := "TextDesk", name := "isHigh", desc := "(I)Z" } : MethodName) ∈ dk_all := dk_in 233 (by decide +kernel) (by decide +kernel)
theorem mw_206 : Cond.code ({ cls := "TextDesk", name := "isHigh", desc := "(I)Z" } : MethodName) prog_1_method_34_code (1 : Nat) (Option.some FieldType.boolean) ∈ dk_all := dk_in 234 (by decide +kernel) (by decide +kernel)
theorem mw_207 : Cond.constant "TextDesk" (208 : Nat) (55296 : Int32) ∈ dk_all := dk_in 235 (by decide +kernel) (by decide +kernel)
theorem mw_208 : Cond.constant "TextDesk" (209 : Nat) (56320 : Int32) ∈ dk_all := dk_in 236 (by decide +kernel) (by decide +kernel)
theorem mw_209 : Cond.methodLink "TextDesk" (215 : Nat) ({ cls := "TextDesk", name := "isLow", desc := "(I)Z" } : MethodName) ∈ dk_all := dk_in 237 (by decide +kernel) (by decide +kernel)
theorem mw_210 : Cond.static ({ cls := "TextDesk", name := "isLow", desc := "(I)Z" } : MethodName) ∈ dk_all := dk_in 238 (by decide +kernel) (by decide +kernel)
theorem mw_211 : Cond.code ({ cls := "TextDesk", name := "isLow", desc := "(I)Z" } : MethodName) prog_1_method_35_code (1 : Nat) (Option.some FieldType.boolean) ∈ dk_all := dk_in 239 (by decide +kernel) (by decide +kernel)
theorem mw_212 : Cond.constant "TextDesk" (210 : Nat) (57344 : Int32) ∈ dk_all := dk_in 240 (by decide +kernel) (by decide +kernel)
theorem mw_213 : Cond.methodLink "TextDesk" (57 : Nat) ({ cls := "TextDesk$Row", name := "append", desc := "(I)V" } : MethodName) ∈ dk_all := dk_in 241 (by decide +kernel) (by decide +kernel)
theorem mw_214 : Cond.methodLink "TextDesk" (81 : Nat) ({ cls := "TextDesk", name := "makeDraftTheBuilder", desc := "()V" } : MethodName) ∈ dk_all := dk_in 242 (by decide +kernel) (by decide +kernel)
theorem mw_216 : Cond.instanceMethod ({ cls := "TextDesk", name := "makeDraftTheBuilder", desc := "()V" } : MethodName) ∈ dk_all := dk_in 244 (by decide +kernel) (by decide +kernel)
theorem mw_217 : Cond.code ({ cls := "TextDesk", name := "makeDraftTheBuilder", desc := "()V" } : MethodName) prog_1_method_27_code (2 : Nat) (Option.none : Option Jvm.ClassFile.FieldType) ∈ dk_all := dk_in 245 (by decide +kernel) (by decide +kernel)
theorem mw_218 : Cond.methodLink "TextDeskLaw" (165 : Nat) ({ cls := "TextDesk", name := "clear", desc := "()V" } : MethodName) ∈ dk_all := dk_in 246 (by decide +kernel) (by decide +kernel)
theorem mw_219 : Cond.instanceMethod ({ cls := "TextDesk", name := "clear", desc := "()V" } : MethodName) ∈ dk_all := dk_in 247 (by decide +kernel) (by decide +kernel)
theorem mw_220 : Cond.selects "TextDesk" ({ cls := "TextDesk", name := "clear", desc := "()V" } : MethodName) ({ cls := "TextDesk", name := "clear", desc := "()V" } : MethodName) ∈ dk_all := dk_in 248 (by decide +kernel) (by decide +kernel)
theorem mw_221 : Cond.code ({ cls := "TextDesk", name := "clear", desc := "()V" } : MethodName) prog_1_method_23_code (2 : Nat) (Option.none : Option Jvm.ClassFile.FieldType) ∈ dk_all := dk_in 249 (by decide +kernel) (by decide +kernel)
theorem mw_222 : Cond.methodLink "TextDeskLaw" (89 : Nat) ({ cls := "TextDeskLaw", name := "unit", desc := "(LTextDesk;I[J)I" } : MethodName) ∈ dk_all := dk_in 250 (by decide +kernel) (by decide +kernel)
theorem mw_223 : Cond.static ({ cls := "TextDeskLaw", name := "unit", desc := "(LTextDesk;I[J)I" } : MethodName) ∈ dk_all := dk_in 251 (by decide +kernel) (by decide +kernel)
theorem mw_224 : Cond.codeWith ({ cls := "TextDeskLaw", name := "unit", desc := "(LTextDesk;I[J)I" } : MethodName) method_3_code (4 : Nat) (Option.some FieldType.int) [((0 : Nat), (9 : Nat), (12 : Nat), (13 : Nat)), ((0 : Nat), (9 : Nat), (15 : Nat), (15 : Nat))] ∈ dk_all := dk_in 252 (by decide +kernel) (by decide +kernel)
theorem mw_225 : Cond.classLink "TextDeskLaw" (13 : Nat) "java/lang/IllegalArgumentException" ∈ dk_all := dk_in 253 (by decide +kernel) (by decide +kernel)
theorem mw_226 : Cond.classLink "TextDeskLaw" (15 : Nat) "java/lang/IllegalStateException" ∈ dk_all := dk_in 254 (by decide +kernel) (by decide +kernel)
theorem mw_227 : Cond.methodLink "TextDeskLaw" (7 : Nat) ({ cls := "TextDesk", name := "unit", desc := "(I)I" } : MethodName) ∈ dk_all := dk_in 255 (by decide +kernel) (by decide +kernel)
theorem mw_228 : Cond.instanceMethod ({ cls := "TextDesk", name := "unit", desc := "(I)I" } : MethodName) ∈ dk_all := dk_in 256 (by decide +kernel) (by decide +kernel)
theorem mw_229 : Cond.selects "TextDesk" ({ cls := "TextDesk", name := "unit", desc := "(I)I" } : MethodName) ({ cls := "TextDesk", name := "unit", desc := "(I)I" } : MethodName) ∈ dk_all := dk_in 257 (by decide +kernel) (by decide +kernel)
theorem mw_230 : Cond.code ({ cls := "TextDesk", name := "unit", desc := "(I)I" } : MethodName) prog_1_method_2_code (2 : Nat) (Option.some FieldType.int) ∈ dk_all := dk_in 258 (by decide +kernel) (by decide +kernel)
theorem mw_231 : Cond.constant "TextDesk" (40 : Nat) (65536 : Int32) ∈ dk_all := dk_in 259 (by decide +kernel) (by decide +kernel)
theorem mw_232 : Cond.classLink "TextDesk" (41 : Nat) "java/lang/IllegalArgumentException" ∈ dk_all := dk_in 260 (by decide +kernel) (by decide +kernel)
theorem mw_233 : Cond.instantiable "java/lang/IllegalArgumentException" (6 : Nat) ∈ dk_all := dk_in 261 (by decide +kernel) (by decide +kernel)
theorem mw_241 : Cond.selects "java/lang/IllegalArgumentException" ({ cls := "java/lang/Throwable", name := "fillInStackTrace", desc := "(I)Ljava/lang/Throwable;" } : MethodName) ({ cls := "java/lang/Throwable", name := "fillInStackTrace", desc := "(I)Ljava/lang/Throwable;" } : MethodName) ∈ dk_all := dk_in 269 (by decide +kernel) (by decide +kernel)
theorem mw_242 : Cond.selects "java/lang/IllegalArgumentException" ({ cls := "java/lang/Throwable", name := "fillInStackTrace", desc := "()Ljava/lang/Throwable;" } : MethodName) ({ cls := "java/lang/Throwable", name := "fillInStackTrace", desc := "()Ljava/lang/Throwable;" } : MethodName) ∈ dk_all := dk_in 270 (by decide +kernel) (by decide +kernel)
theorem mw_243 : Cond.lays "java/lang/IllegalArgumentException" "java/lang/Throwable" "cause" "Ljava/lang/Throwable;" ∈ dk_all := dk_in 271 (by decide +kernel) (by decide +kernel)
theorem mw_244 : Cond.lays "java/lang/Throwable" "java/lang/Throwable" "cause" "Ljava/lang/Throwable;" ∈ dk_all := dk_in 272 (by decide +kernel) (by decide +kernel)
theorem mw_245 : Cond.lays "java/lang/IllegalArgumentException" "java/lang/Throwable" "stackTrace" "[Ljava/lang/StackTraceElement;" ∈ dk_all := dk_in 273 (by decide +kernel) (by decide +kernel)
theorem mw_246 : Cond.lays "java/lang/Throwable" "java/lang/Throwable" "stackTrace" "[Ljava/lang/StackTraceElement;" ∈ dk_all := dk_in 274 (by decide +kernel) (by decide +kernel)
theorem mw_247 : Cond.lays "java/lang/IllegalArgumentException" "java/lang/Throwable" "suppressedExceptions" "Ljava/util/List;" ∈ dk_all := dk_in 275 (by decide +kernel) (by decide +kernel)
theorem mw_248 : Cond.lays "java/lang/Throwable" "java/lang/Throwable" "suppressedExceptions" "Ljava/util/List;" ∈ dk_all := dk_in 276 (by decide +kernel) (by decide +kernel)
theorem mw_249 : Cond.lays "java/lang/IllegalArgumentException" "java/lang/Throwable" "detailMessage" "Ljava/lang/String;" ∈ dk_all := dk_in 277 (by decide +kernel) (by decide +kernel)
theorem mw_250 : Cond.lays "java/lang/Throwable" "java/lang/Throwable" "detailMessage" "Ljava/lang/String;" ∈ dk_all := dk_in 278 (by decide +kernel) (by decide +kernel)
theorem mw_251 : Cond.lays "java/lang/IllegalArgumentException" "java/lang/Throwable" "backtrace" "Ljava/lang/Object;" ∈ dk_all := dk_in 279 (by decide +kernel) (by decide +kernel)
theorem mw_252 : Cond.lays "java/lang/Throwable" "java/lang/Throwable" "backtrace" "Ljava/lang/Object;" ∈ dk_all := dk_in 280 (by decide +kernel) (by decide +kernel)
theorem mw_253 : Cond.fieldLink "java/lang/Throwable" (198 : Nat) "java/lang/Throwable" "backtrace" "Ljava/lang/Object;" ∈ dk_all := dk_in 281 (by decide +kernel) (by decide +kernel)
theorem mw_255 : Cond.instanceMethod ({ cls := "java/lang/Throwable", name := "<init>", desc := "()V" } : MethodName) ∈ dk_all := dk_in 283 (by decide +kernel) (by decide +kernel)
theorem mw_256 : Cond.code ({ cls := "java/lang/Throwable", name := "<init>", desc := "()V" } : MethodName) prog_19_method_1_code (1 : Nat) (Option.none : Option Jvm.ClassFile.FieldType) ∈ dk_all := dk_in 284 (by decide +kernel) (by decide +kernel)
theorem mw_257 : Cond.methodLink "java/lang/Throwable" (1 : Nat) ({ cls := "java/lang/Object", name := "<init>", desc := "()V" } : MethodName) ∈ dk_all := dk_in 285 (by decide +kernel) (by decide +kernel)
theorem mw_258 : Cond.fieldLink "java/lang/Throwable" (13 : Nat) "java/lang/Throwable" "UNASSIGNED_STACK" "[Ljava/lang/StackTraceElement;" ∈ dk_all := dk_in 286 (by decide +kernel) (by decide +kernel)
theorem mw_260 : Cond.fieldLink "java/lang/Throwable" (20 : Nat) "java/lang/Throwable" "SUPPRESSED_SENTINEL" "Ljava/util/List;" ∈ dk_all := dk_in 288 (by decide +kernel) (by decide +kernel)
theorem mw_262 : Cond.methodLink "java/lang/Throwable" (27 : Nat) ({ cls := "java/lang/Throwable", name := "fillInStackTrace", desc := "()Ljava/lang/Throwable;" } : MethodName) ∈ dk_all := dk_in 290 (by decide +kernel) (by decide +kernel)
theorem mw_263 : Cond.instanceMethod ({ cls := "java/lang/Throwable", name := "fillInStackTrace", desc := "()Ljava/lang/Throwable;" } : MethodName) ∈ dk_all := dk_in 291 (by decide +kernel) (by decide +kernel)
theorem mw_264 : Cond.sameMethod "java/lang/Throwable" "java/lang/Throwable" "fillInStackTrace" "()Ljava/lang/Throwable;" ∈ dk_all := dk_in 292 (by decide +kernel) (by decide +kernel)
theorem mw_265 : Cond.selects "java/lang/IllegalStateException" ({ cls := "java/lang/Throwable", name := "fillInStackTrace", desc := "()Ljava/lang/Throwable;" } : MethodName) ({ cls := "java/lang/Throwable", name := "fillInStackTrace", desc := "()Ljava/lang/Throwable;" } : MethodName) ∈ dk_all := dk_in 293 (by decide +kernel) (by decide +kernel)
theorem mw_266 : Cond.selects "java/lang/IndexOutOfBoundsException" ({ cls := "java/lang/Throwable", name := "fillInStackTrace", desc := "()Ljava/lang/Throwable;" } : MethodName) ({ cls := "java/lang/Throwable", name := "fillInStackTrace", desc := "()Ljava/lang/Throwable;" } : MethodName) ∈ dk_all := dk_in 294 (by decide +kernel) (by decide +kernel)
theorem mw_267 : Cond.selects "java/lang/UnsupportedOperationException" ({ cls := "java/lang/Throwable", name := "fillInStackTrace", desc := "()Ljava/lang/Throwable;" } : MethodName) ({ cls := "java/lang/Throwable", name := "fillInStackTrace", desc := "()Ljava/lang/Throwable;" } : MethodName) ∈ dk_all := dk_in 295 (by decide +kernel) (by decide +kernel)
theorem mw_269 : Cond.methodLink "java/lang/Throwable" (202 : Nat) ({ cls := "java/lang/Throwable", name := "fillInStackTrace", desc := "(I)Ljava/lang/Throwable;" } : MethodName) ∈ dk_all := dk_in 297 (by decide +kernel) (by decide +kernel)
theorem mw_271 : Cond.instanceMethod ({ cls := "java/lang/Throwable", name := "fillInStackTrace", desc := "(I)Ljava/lang/Throwable;" } : MethodName) ∈ dk_all := dk_in 299 (by decide +kernel) (by decide +kernel)
theorem mw_272 : Cond.instantiable "java/lang/Throwable" (6 : Nat) ∈ dk_all := dk_in 300 (by decide +kernel) (by decide +kernel)
theorem mw_275 : Cond.methodLink "TextDesk" (45 : Nat) ({ cls := "java/lang/IllegalArgumentException", name := "<init>", desc := "(Ljava/lang/String;)V" } : MethodName) ∈ dk_all := dk_in 303 (by decide +kernel) (by decide +kernel)
theorem mw_276 : Cond.instanceMethod ({ cls := "java/lang/IllegalArgumentException", name := "<init>", desc := "(Ljava/lang/String;)V" } : MethodName) ∈ dk_all := dk_in 304 (by decide +kernel) (by decide +kernel)
theorem mw_277 : Cond.code ({ cls := "java/lang/IllegalArgumentException", name := "<init>", desc := "(Ljava/lang/String;)V" } : MethodName) prog_13_method_2_code (2 : Nat) (Option.none : Option Jvm.ClassFile.FieldType) ∈ dk_all := dk_in 305 (by decide +kernel) (by decide +kernel)
theorem mw_278 : Cond.methodLink "java/lang/IllegalArgumentException" (7 : Nat) ({ cls := "java/lang/RuntimeException", name := "<init>", desc := "(Ljava/lang/String;)V" } : MethodName) ∈ dk_all := dk_in 306 (by decide +kernel) (by decide +kernel)
theorem mw_279 : Cond.instanceMethod ({ cls := "java/lang/RuntimeException", name := "<init>", desc := "(Ljava/lang/String;)V" } : MethodName) ∈ dk_all := dk_in 307 (by decide +kernel) (by decide +kernel)
theorem mw_280 : Cond.code ({ cls := "java/lang/RuntimeException", name := "<init>", desc := "(Ljava/lang/String;)V" } : MethodName) prog_17_method_2_code (2 : Nat) (Option.none : Option Jvm.ClassFile.FieldType) ∈ dk_all := dk_in 308 (by decide +kernel) (by decide +kernel)
theorem mw_281 : Cond.methodLink "java/lang/RuntimeException" (7 : Nat) ({ cls := "java/lang/Exception", name := "<init>", desc := "(Ljava/lang/String;)V" } : MethodName) ∈ dk_all := dk_in 309 (by decide +kernel) (by decide +kernel)
theorem mw_282 : Cond.instanceMethod ({ cls := "java/lang/Exception", name := "<init>", desc := "(Ljava/lang/String;)V" } : MethodName) ∈ dk_all := dk_in 310 (by decide +kernel) (by decide +kernel)
theorem mw_283 : Cond.code ({ cls := "java/lang/Exception", name := "<init>", desc := "(Ljava/lang/String;)V" } : MethodName) prog_12_method_2_code (2 : Nat) (Option.none : Option Jvm.ClassFile.FieldType) ∈ dk_all := dk_in 311 (by decide +kernel) (by decide +kernel)
theorem mw_284 : Cond.methodLink "java/lang/Exception" (7 : Nat) ({ cls := "java/lang/Throwable", name := "<init>", desc := "(Ljava/lang/String;)V" } : MethodName) ∈ dk_all := dk_in 312 (by decide +kernel) (by decide +kernel)
theorem mw_285 : Cond.instanceMethod ({ cls := "java/lang/Throwable", name := "<init>", desc := "(Ljava/lang/String;)V" } : MethodName) ∈ dk_all := dk_in 313 (by decide +kernel) (by decide +kernel)
theorem mw_286 : Cond.code ({ cls := "java/lang/Throwable", name := "<init>", desc := "(Ljava/lang/String;)V" } : MethodName) prog_19_method_2_code (2 : Nat) (Option.none : Option Jvm.ClassFile.FieldType) ∈ dk_all := dk_in 314 (by decide +kernel) (by decide +kernel)
theorem mw_287 : Cond.fieldLink "java/lang/Throwable" (198 : Nat) "java/lang/Throwable" "backtrace" "Ljava/lang/Object;" ∈ dk_all := dk_in 315 (by decide +kernel) (by decide +kernel)
theorem mw_288 : Cond.fieldLink "java/lang/Throwable" (31 : Nat) "java/lang/Throwable" "detailMessage" "Ljava/lang/String;" ∈ dk_all := dk_in 316 (by decide +kernel) (by decide +kernel)
theorem mw_289 : Cond.fieldLink "java/lang/Throwable" (7 : Nat) "java/lang/Throwable" "cause" "Ljava/lang/Throwable;" ∈ dk_all := dk_in 317 (by decide +kernel) (by decide +kernel)
theorem mw_290 : Cond.fieldLink "java/lang/Throwable" (17 : Nat) "java/lang/Throwable" "stackTrace" "[Ljava/lang/StackTraceElement;" ∈ dk_all := dk_in 318 (by decide +kernel) (by decide +kernel)
theorem mw_291 : Cond.fieldLink "java/lang/Throwable" (24 : Nat) "java/lang/Throwable" "suppressedExceptions" "Ljava/util/List;" ∈ dk_all := dk_in 319 (by decide +kernel) (by decide +kernel)
theorem mw_296 : Cond.lays "java/lang/IllegalArgumentException" "java/lang/Throwable" "depth" "I" ∈ dk_all := dk_in 324 (by decide +kernel) (by decide +kernel)
theorem mw_300 : Cond.methodLink "TextDesk" (48 : Nat) ({ cls := "TextDesk$Row", name := "isFull", desc := "()Z" } : MethodName) ∈ dk_all := dk_in 328 (by decide +kernel) (by decide +kernel)
theorem mw_301 : Cond.instanceMethod ({ cls := "TextDesk$Row", name := "isFull", desc := "()Z" } : MethodName) ∈ dk_all := dk_in 329 (by decide +kernel) (by decide +kernel)
theorem mw_302 : Cond.selects "TextDesk$Row" ({ cls := "TextDesk$Row", name := "isFull", desc := "()Z" } : MethodName) ({ cls := "TextDesk$Row", name := "isFull", desc := "()Z" } : MethodName) ∈ dk_all := dk_in 330 (by decide +kernel) (by decide +kernel)
theorem mw_303 : Cond.code ({ cls := "TextDesk$Row", name := "isFull", desc := "()Z" } : MethodName) prog_6_method_4_code (1 : Nat) (Option.some FieldType.boolean) ∈ dk_all := dk_in 331 (by decide +kernel) (by decide +kernel)
theorem mw_304 : Cond.classLink "TextDesk" (52 : Nat) "java/lang/IllegalStateException" ∈ dk_all := dk_in 332 (by decide +kernel) (by decide +kernel)
theorem mw_305 : Cond.instantiable "java/lang/IllegalStateException" (6 : Nat) ∈ dk_all := dk_in 333 (by decide +kernel) (by decide +kernel)
theorem mw_307 : Cond.selects "java/lang/IllegalStateException" ({ cls := "java/lang/Throwable", name := "fillInStackTrace", desc := "(I)Ljava/lang/Throwable;" } : MethodName) ({ cls := "java/lang/Throwable", name := "fillInStackTrace", desc := "(I)Ljava/lang/Throwable;" } : MethodName) ∈ dk_all := dk_in 335 (by decide +kernel) (by decide +kernel)
theorem mw_308 : Cond.lays "java/lang/IllegalStateException" "java/lang/Throwable" "cause" "Ljava/lang/Throwable;" ∈ dk_all := dk_in 336 (by decide +kernel) (by decide +kernel)
theorem mw_309 : Cond.lays "java/lang/IllegalStateException" "java/lang/Throwable" "stackTrace" "[Ljava/lang/StackTraceElement;" ∈ dk_all := dk_in 337 (by decide +kernel) (by decide +kernel)
theorem mw_310 : Cond.lays "java/lang/IllegalStateException" "java/lang/Throwable" "suppressedExceptions" "Ljava/util/List;" ∈ dk_all := dk_in 338 (by decide +kernel) (by decide +kernel)
theorem mw_311 : Cond.lays "java/lang/IllegalStateException" "java/lang/Throwable" "detailMessage" "Ljava/lang/String;" ∈ dk_all := dk_in 339 (by decide +kernel) (by decide +kernel)
theorem mw_312 : Cond.lays "java/lang/IllegalStateException" "java/lang/Throwable" "backtrace" "Ljava/lang/Object;" ∈ dk_all := dk_in 340 (by decide +kernel) (by decide +kernel)
theorem mw_314 : Cond.methodLink "TextDesk" (56 : Nat) ({ cls := "java/lang/IllegalStateException", name := "<init>", desc := "(Ljava/lang/String;)V" } : MethodName) ∈ dk_all := dk_in 342 (by decide +kernel) (by decide +kernel)
theorem mw_315 : Cond.instanceMethod ({ cls := "java/lang/IllegalStateException", name := "<init>", desc := "(Ljava/lang/String;)V" } : MethodName) ∈ dk_all := dk_in 343 (by decide +kernel) (by decide +kernel)
theorem mw_316 : Cond.code ({ cls := "java/lang/IllegalStateException", name := "<init>", desc := "(Ljava/lang/String;)V" } : MethodName) prog_14_method_2_code (2 : Nat) (Option.none : Option Jvm.ClassFile.FieldType) ∈ dk_all := dk_in 344 (by decide +kernel) (by decide +kernel)
theorem mw_317 : Cond.methodLink "java/lang/IllegalStateException" (7 : Nat) ({ cls := "java/lang/RuntimeException", name := "<init>", desc := "(Ljava/lang/String;)V" } : MethodName) ∈ dk_all := dk_in 345 (by decide +kernel) (by decide +kernel)
theorem mw_318 : Cond.lays "java/lang/IllegalStateException" "java/lang/Throwable" "depth" "I" ∈ dk_all := dk_in 346 (by decide +kernel) (by decide +kernel)
theorem mw_320 : Cond.methodLink "TextDeskLaw" (98 : Nat) ({ cls := "TextDeskLaw", name := "insert", desc := "(LTextDesk;II[J)I" } : MethodName) ∈ dk_all := dk_in 348 (by decide +kernel) (by decide +kernel)
theorem mw_321 : Cond.static ({ cls := "TextDeskLaw", name := "insert", desc := "(LTextDesk;II[J)I" } : MethodName) ∈ dk_all := dk_in 349 (by decide +kernel) (by decide +kernel)
theorem mw_322 : Cond.codeWith ({ cls := "TextDeskLaw", name := "insert", desc := "(LTextDesk;II[J)I" } : MethodName) method_4_code (5 : Nat) (Option.some FieldType.int) [((0 : Nat), (10 : Nat), (13 : Nat), (13 : Nat)), ((0 : Nat), (10 : Nat), (17 : Nat), (15 : Nat))] ∈ dk_all := dk_in 350 (by decide +kernel) (by decide +kernel)
theorem mw_323 : Cond.methodLink "TextDeskLaw" (17 : Nat) ({ cls := "TextDesk", name := "insert", desc := "(II)I" } : MethodName) ∈ dk_all := dk_in 351 (by decide +kernel) (by decide +kernel)
theorem mw_324 : Cond.instanceMethod ({ cls := "TextDesk", name := "insert", desc := "(II)I" } : MethodName) ∈ dk_all := dk_in 352 (by decide +kernel) (by decide +kernel)
theorem mw_325 : Cond.selects "TextDesk" ({ cls := "TextDesk", name := "insert", desc := "(II)I" } : MethodName) ({ cls := "TextDesk", name := "insert", desc := "(II)I" } : MethodName) ∈ dk_all := dk_in 353 (by decide +kernel) (by decide +kernel)
theorem mw_326 : Cond.code ({ cls := "TextDesk", name := "insert", desc := "(II)I" } : MethodName) prog_1_method_3_code (4 : Nat) (Option.some FieldType.int) ∈ dk_all := dk_in 354 (by decide +kernel) (by decide +kernel)
theorem mw_327 : Cond.methodLink "TextDesk" (64 : Nat) ({ cls := "TextDesk", name := "textNumbered", desc := "(I)LTextDesk$Text;" } : MethodName) ∈ dk_all := dk_in 355 (by decide +kernel) (by decide +kernel)
theorem mw_329 : Cond.instanceMethod ({ cls := "TextDesk", name := "textNumbered", desc := "(I)LTextDesk$Text;" } : MethodName) ∈ dk_all := dk_in 357 (by decide +kernel) (by decide +kernel)
theorem mw_330 : Cond.code ({ cls := "TextDesk", name := "textNumbered", desc := "(I)LTextDesk$Text;" } : MethodName) prog_1_method_24_code (2 : Nat) (Option.some (FieldType.object "TextDesk$Text")) ∈ dk_all := dk_in 358 (by decide +kernel) (by decide +kernel)
theorem mw_333 : Cond.methodLink "TextDesk" (73 : Nat) ({ cls := "TextDesk$Row", name := "appendRange", desc := "(LTextDesk$Sequence;II)V" } : MethodName) ∈ dk_all := dk_in 361 (by decide +kernel) (by decide +kernel)
theorem mw_334 : Cond.methodLink "TextDesk" (77 : Nat) ({ cls := "TextDesk$Text", name := "size", desc := "()I" } : MethodName) ∈ dk_all := dk_in 362 (by decide +kernel) (by decide +kernel)
theorem mw_335 : Cond.methodLink "TextDesk" (78 : Nat) ({ cls := "TextDesk", name := "refuseSpilledDraft", desc := "()V" } : MethodName) ∈ dk_all := dk_in 363 (by decide +kernel) (by decide +kernel)
theorem mw_337 : Cond.instanceMethod ({ cls := "TextDesk", name := "refuseSpilledDraft", desc := "()V" } : MethodName) ∈ dk_all := dk_in 365 (by decide +kernel) (by decide +kernel)
theorem mw_338 : Cond.code ({ cls := "TextDesk", name := "refuseSpilledDraft", desc := "()V" } : MethodName) prog_1_method_28_code (1 : Nat) (Option.none : Option Jvm.ClassFile.FieldType) ∈ dk_all := dk_in 366 (by decide +kernel) (by decide +kernel)
theorem mw_339 : Cond.methodLink "TextDesk" (180 : Nat) ({ cls := "TextDesk$Row", name := "hasSpilled", desc := "()Z" } : MethodName) ∈ dk_all := dk_in 367 (by decide +kernel) (by decide +kernel)
theorem mw_340 : Cond.instanceMethod ({ cls := "TextDesk$Row", name := "hasSpilled", desc := "()Z" } : MethodName) ∈ dk_all := dk_in 368 (by decide +kernel) (by decide +kernel)
theorem mw_341 : Cond.selects "TextDesk$Row" ({ cls := "TextDesk$Row", name := "hasSpilled", desc := "()Z" } : MethodName) ({ cls := "TextDesk$Row", name := "hasSpilled", desc := "()Z" } : MethodName) ∈ dk_all := dk_in 369 (by decide +kernel) (by decide +kernel)
theorem mw_342 : Cond.code ({ cls := "TextDesk$Row", name := "hasSpilled", desc := "()Z" } : MethodName) prog_6_method_5_code (1 : Nat) (Option.some FieldType.boolean) ∈ dk_all := dk_in 370 (by decide +kernel) (by decide +kernel)
theorem mw_344 : Cond.methodLink "TextDeskLaw" (102 : Nat) ({ cls := "TextDeskLaw", name := "delete", desc := "(LTextDesk;II)I" } : MethodName) ∈ dk_all := dk_in 372 (by decide +kernel) (by decide +kernel)
theorem mw_345 : Cond.static ({ cls := "TextDeskLaw", name := "delete", desc := "(LTextDesk;II)I" } : MethodName) ∈ dk_all := dk_in 373 (by decide +kernel) (by decide +kernel)
theorem mw_346 : Cond.codeWith ({ cls := "TextDeskLaw", name := "delete", desc := "(LTextDesk;II)I" } : MethodName) method_5_code (4 : Nat) (Option.some FieldType.int) [((0 : Nat), (6 : Nat), (9 : Nat), (25 : Nat))] ∈ dk_all := dk_in 374 (by decide +kernel) (by decide +kernel)
theorem mw_347 : Cond.classLink "TextDeskLaw" (25 : Nat) "java/lang/IndexOutOfBoundsException" ∈ dk_all := dk_in 375 (by decide +kernel) (by decide +kernel)
theorem mw_348 : Cond.methodLink "TextDeskLaw" (21 : Nat) ({ cls := "TextDesk", name := "delete", desc := "(II)V" } : MethodName) ∈ dk_all := dk_in 376 (by decide +kernel) (by decide +kernel)
theorem mw_349 : Cond.instanceMethod ({ cls := "TextDesk", name := "delete", desc := "(II)V" } : MethodName) ∈ dk_all := dk_in 377 (by decide +kernel) (by decide +kernel)
theorem mw_350 : Cond.selects "TextDesk" ({ cls := "TextDesk", name := "delete", desc := "(II)V" } : MethodName) ({ cls := "TextDesk", name := "delete", desc := "(II)V" } : MethodName) ∈ dk_all := dk_in 378 (by decide +kernel) (by decide +kernel)
theorem mw_351 : Cond.code ({ cls := "TextDesk", name := "delete", desc := "(II)V" } : MethodName) prog_1_method_4_code (3 : Nat) (Option.none : Option Jvm.ClassFile.FieldType) ∈ dk_all := dk_in 379 (by decide +kernel) (by decide +kernel)
theorem mw_352 : Cond.methodLink "TextDesk" (84 : Nat) ({ cls := "TextDesk", name := "refuseBadRange", desc := "(III)V" } : MethodName) ∈ dk_all := dk_in 380 (by decide +kernel) (by decide +kernel)
theorem mw_353 : Cond.static ({ cls := "TextDesk", name := "refuseBadRange", desc := "(III)V" } : MethodName) ∈ dk_all := dk_in 381 (by decide +kernel) (by decide +kernel)
theorem mw_354 : Cond.code ({ cls := "TextDesk", name := "refuseBadRange", desc := "(III)V" } : MethodName) prog_1_method_29_code (3 : Nat) (Option.none : Option Jvm.ClassFile.FieldType) ∈ dk_all := dk_in 382 (by decide +kernel) (by decide +kernel)
theorem mw_355 : Cond.classLink "TextDesk" (126 : Nat) "java/lang/IndexOutOfBoundsException" ∈ dk_all := dk_in 383 (by decide +kernel) (by decide +kernel)
theorem mw_356 : Cond.instantiable "java/lang/IndexOutOfBoundsException" (6 : Nat) ∈ dk_all := dk_in 384 (by decide +kernel) (by decide +kernel)
theorem mw_358 : Cond.selects "java/lang/IndexOutOfBoundsException" ({ cls := "java/lang/Throwable", name := "fillInStackTrace", desc := "(I)Ljava/lang/Throwable;" } : MethodName) ({ cls := "java/lang/Throwable", name := "fillInStackTrace", desc := "(I)Ljava/lang/Throwable;" } : MethodName) ∈ dk_all := dk_in 386 (by decide +kernel) (by decide +kernel)
theorem mw_359 : Cond.lays "java/lang/IndexOutOfBoundsException" "java/lang/Throwable" "cause" "Ljava/lang/Throwable;" ∈ dk_all := dk_in 387 (by decide +kernel) (by decide +kernel)
theorem mw_360 : Cond.lays "java/lang/IndexOutOfBoundsException" "java/lang/Throwable" "stackTrace" "[Ljava/lang/StackTraceElement;" ∈ dk_all := dk_in 388 (by decide +kernel) (by decide +kernel)
theorem mw_361 : Cond.lays "java/lang/IndexOutOfBoundsException" "java/lang/Throwable" "suppressedExceptions" "Ljava/util/List;" ∈ dk_all := dk_in 389 (by decide +kernel) (by decide +kernel)
theorem mw_362 : Cond.lays "java/lang/IndexOutOfBoundsException" "java/lang/Throwable" "detailMessage" "Ljava/lang/String;" ∈ dk_all := dk_in 390 (by decide +kernel) (by decide +kernel)
theorem mw_363 : Cond.lays "java/lang/IndexOutOfBoundsException" "java/lang/Throwable" "backtrace" "Ljava/lang/Object;" ∈ dk_all := dk_in 391 (by decide +kernel) (by decide +kernel)
theorem mw_365 : Cond.methodLink "TextDesk" (130 : Nat) ({ cls := "java/lang/IndexOutOfBoundsException", name := "<init>", desc := "(Ljava/lang/String;)V" } : MethodName) ∈ dk_all := dk_in 393 (by decide +kernel) (by decide +kernel)
theorem mw_366 : Cond.instanceMethod ({ cls := "java/lang/IndexOutOfBoundsException", name := "<init>", desc := "(Ljava/lang/String;)V" } : MethodName) ∈ dk_all := dk_in 394 (by decide +kernel) (by decide +kernel)
theorem mw_367 : Cond.code ({ cls := "java/lang/IndexOutOfBoundsException", name := "<init>", desc := "(Ljava/lang/String;)V" } : MethodName) prog_15_method_2_code (2 : Nat) (Option.none : Option Jvm.ClassFile.FieldType) ∈ dk_all := dk_in 395 (by decide +kernel) (by decide +kernel)
theorem mw_368 : Cond.methodLink "java/lang/IndexOutOfBoundsException" (7 : Nat) ({ cls := "java/lang/RuntimeException", name := "<init>", desc := "(Ljava/lang/String;)V" } : MethodName) ∈ dk_all := dk_in 396 (by decide +kernel) (by decide +kernel)
theorem mw_369 : Cond.lays "java/lang/IndexOutOfBoundsException" "java/lang/Throwable" "depth" "I" ∈ dk_all := dk_in 397 (by decide +kernel) (by decide +kernel)
theorem mw_371 : Cond.methodLink "TextDeskLaw" (110 : Nat) ({ cls := "TextDeskLaw", name := "built", desc := "(LTextDesk;I[J)I" } : MethodName) ∈ dk_all := dk_in 399 (by decide +kernel) (by decide +kernel)
theorem mw_372 : Cond.static ({ cls := "TextDeskLaw", name := "built", desc := "(LTextDesk;I[J)I" } : MethodName) ∈ dk_all := dk_in 400 (by decide +kernel) (by decide +kernel)
theorem mw_373 : Cond.codeWith ({ cls := "TextDeskLaw", name := "built", desc := "(LTextDesk;I[J)I" } : MethodName) method_6_code (4 : Nat) (Option.some FieldType.int) [((0 : Nat), (9 : Nat), (12 : Nat), (25 : Nat))] ∈ dk_all := dk_in 401 (by decide +kernel) (by decide +kernel)
theorem mw_374 : Cond.methodLink "TextDeskLaw" (27 : Nat) ({ cls := "TextDesk", name := "built", desc := "(I)I" } : MethodName) ∈ dk_all := dk_in 402 (by decide +kernel) (by decide +kernel)
theorem mw_375 : Cond.instanceMethod ({ cls := "TextDesk", name := "built", desc := "(I)I" } : MethodName) ∈ dk_all := dk_in 403 (by decide +kernel) (by decide +kernel)
theorem mw_376 : Cond.selects "TextDesk" ({ cls := "TextDesk", name := "built", desc := "(I)I" } : MethodName) ({ cls := "TextDesk", name := "built", desc := "(I)I" } : MethodName) ∈ dk_all := dk_in 404 (by decide +kernel) (by decide +kernel)
theorem mw_377 : Cond.code ({ cls := "TextDesk", name := "built", desc := "(I)I" } : MethodName) prog_1_method_6_code (2 : Nat) (Option.some FieldType.int) ∈ dk_all := dk_in 405 (by decide +kernel) (by decide +kernel)
theorem mw_378 : Cond.methodLink "TextDesk" (96 : Nat) ({ cls := "TextDesk", name := "sizeOrItem", desc := "(LTextDesk$Sequence;I)I" } : MethodName) ∈ dk_all := dk_in 406 (by decide +kernel) (by decide +kernel)
theorem mw_379 : Cond.static ({ cls := "TextDesk", name := "sizeOrItem", desc := "(LTextDesk$Sequence;I)I" } : MethodName) ∈ dk_all := dk_in 407 (by decide +kernel) (by decide +kernel)
theorem mw_380 : Cond.code ({ cls := "TextDesk", name := "sizeOrItem", desc := "(LTextDesk$Sequence;I)I" } : MethodName) prog_1_method_31_code (3 : Nat) (Option.some FieldType.int) ∈ dk_all := dk_in 408 (by decide +kernel) (by decide +kernel)
theorem mw_381 : Cond.methodLink "TextDesk" (189 : Nat) ({ cls := "TextDesk$Sequence", name := "size", desc := "()I" } : MethodName) ∈ dk_all := dk_in 409 (by decide +kernel) (by decide +kernel)
theorem mw_383 : Cond.methodLink "TextDeskLaw" (113 : Nat) ({ cls := "TextDeskLaw", name := "take", desc := "(LTextDesk;[J)I" } : MethodName) ∈ dk_all := dk_in 411 (by decide +kernel) (by decide +kernel)
theorem mw_384 : Cond.static ({ cls := "TextDeskLaw", name := "take", desc := "(LTextDesk;[J)I" } : MethodName) ∈ dk_all := dk_in 412 (by decide +kernel) (by decide +kernel)
theorem mw_385 : Cond.codeWith ({ cls := "TextDeskLaw", name := "take", desc := "(LTextDesk;[J)I" } : MethodName) method_7_code (3 : Nat) (Option.some FieldType.int) [((0 : Nat), (8 : Nat), (11 : Nat), (15 : Nat))] ∈ dk_all := dk_in 413 (by decide +kernel) (by decide +kernel)
theorem mw_386 : Cond.methodLink "TextDeskLaw" (30 : Nat) ({ cls := "TextDesk", name := "take", desc := "()I" } : MethodName) ∈ dk_all := dk_in 414 (by decide +kernel) (by decide +kernel)
theorem mw_387 : Cond.instanceMethod ({ cls := "TextDesk", name := "take", desc := "()I" } : MethodName) ∈ dk_all := dk_in 415 (by decide +kernel) (by decide +kernel)
theorem mw_388 : Cond.selects "TextDesk" ({ cls := "TextDesk", name := "take", desc := "()I" } : MethodName) ({ cls := "TextDesk", name := "take", desc := "()I" } : MethodName) ∈ dk_all := dk_in 416 (by decide +kernel) (by decide +kernel)
theorem mw_389 : Cond.code ({ cls := "TextDesk", name := "take", desc := "()I" } : MethodName) prog_1_method_7_code (2 : Nat) (Option.some FieldType.int) ∈ dk_all := dk_in 417 (by decide +kernel) (by decide +kernel)
theorem mw_390 : Cond.methodLink "TextDesk" (100 : Nat) ({ cls := "TextDesk", name := "textOf", desc := "(LTextDesk$Row;)LTextDesk$Text;" } : MethodName) ∈ dk_all := dk_in 418 (by decide +kernel) (by decide +kernel)
theorem mw_391 : Cond.methodLink "TextDesk" (104 : Nat) ({ cls := "TextDesk", name := "keepText", desc := "(LTextDesk$Text;)I" } : MethodName) ∈ dk_all := dk_in 419 (by decide +kernel) (by decide +kernel)
theorem mw_393 : Cond.instanceMethod ({ cls := "TextDesk", name := "keepText", desc := "(LTextDesk$Text;)I" } : MethodName) ∈ dk_all := dk_in 421 (by decide +kernel) (by decide +kernel)
theorem mw_394 : Cond.code ({ cls := "TextDesk", name := "keepText", desc := "(LTextDesk$Text;)I" } : MethodName) prog_1_method_25_code (2 : Nat) (Option.some FieldType.int) ∈ dk_all := dk_in 422 (by decide +kernel) (by decide +kernel)
theorem mw_396 : Cond.methodLink "TextDeskLaw" (117 : Nat) ({ cls := "TextDeskLaw", name := "join", desc := "(LTextDesk;II[J)I" } : MethodName) ∈ dk_all := dk_in 424 (by decide +kernel) (by decide +kernel)
theorem mw_397 : Cond.static ({ cls := "TextDeskLaw", name := "join", desc := "(LTextDesk;II[J)I" } : MethodName) ∈ dk_all := dk_in 425 (by decide +kernel) (by decide +kernel)
theorem mw_398 : Cond.codeWith ({ cls := "TextDeskLaw", name := "join", desc := "(LTextDesk;II[J)I" } : MethodName) method_8_code (5 : Nat) (Option.some FieldType.int) [((0 : Nat), (10 : Nat), (13 : Nat), (13 : Nat)), ((0 : Nat), (10 : Nat), (17 : Nat), (15 : Nat))] ∈ dk_all := dk_in 426 (by decide +kernel) (by decide +kernel)
theorem mw_399 : Cond.methodLink "TextDeskLaw" (34 : Nat) ({ cls := "TextDesk", name := "join", desc := "(II)I" } : MethodName) ∈ dk_all := dk_in 427 (by decide +kernel) (by decide +kernel)
theorem mw_400 : Cond.instanceMethod ({ cls := "TextDesk", name := "join", desc := "(II)I" } : MethodName) ∈ dk_all := dk_in 428 (by decide +kernel) (by decide +kernel)
theorem mw_401 : Cond.selects "TextDesk" ({ cls := "TextDesk", name := "join", desc := "(II)I" } : MethodName) ({ cls := "TextDesk", name := "join", desc := "(II)I" } : MethodName) ∈ dk_all := dk_in 429 (by decide +kernel) (by decide +kernel)
theorem mw_402 : Cond.code ({ cls := "TextDesk", name := "join", desc := "(II)I" } : MethodName) prog_1_method_8_code (5 : Nat) (Option.some FieldType.int) ∈ dk_all := dk_in 430 (by decide +kernel) (by decide +kernel)
theorem mw_404 : Cond.methodLink "TextDesk" (110 : Nat) ({ cls := "TextDesk", name := "joined", desc := "(LTextDesk$Text;LTextDesk$Text;)LTextDesk$Text;" } : MethodName) ∈ dk_all := dk_in 432 (by decide +kernel) (by decide +kernel)
theorem mw_405 : Cond.static ({ cls := "TextDesk", name := "joined", desc := "(LTextDesk$Text;LTextDesk$Text;)LTextDesk$Text;" } : MethodName) ∈ dk_all := dk_in 433 (by decide +kernel) (by decide +kernel)
theorem mw_406 : Cond.code ({ cls := "TextDesk", name := "joined", desc := "(LTextDesk$Text;LTextDesk$Text;)LTextDesk$Text;" } : MethodName) prog_1_method_33_code (2 : Nat) (Option.some (FieldType.object "TextDesk$Text")) ∈ dk_all := dk_in 434 (by decide +kernel) (by decide +kernel)
theorem mw_407 : Cond.classLink "TextDesk" (203 : Nat) "TextDesk$JoinedText" ∈ dk_all := dk_in 435 (by decide +kernel) (by decide +kernel)
theorem mw_408 : Cond.instantiable "TextDesk$JoinedText" (5 : Nat) ∈ dk_all := dk_in 436 (by decide +kernel) (by decide +kernel)
theorem mw_409 : Cond.methodLink "TextDesk" (205 : Nat) ({ cls := "TextDesk$JoinedText", name := "<init>", desc := "(LTextDesk$Text;LTextDesk$Text;)V" } : MethodName) ∈ dk_all := dk_in 437 (by decide +kernel) (by decide +kernel)
theorem mw_410 : Cond.instanceMethod ({ cls := "TextDesk$JoinedText", name := "<init>", desc := "(LTextDesk$Text;LTextDesk$Text;)V" } : MethodName) ∈ dk_all := dk_in 438 (by decide +kernel) (by decide +kernel)
theorem mw_411 : Cond.code ({ cls := "TextDesk$JoinedText", name := "<init>", desc := "(LTextDesk$Text;LTextDesk$Text;)V" } : MethodName) prog_4_method_1_code (3 : Nat) (Option.none : Option Jvm.ClassFile.FieldType) ∈ dk_all := dk_in 439 (by decide +kernel) (by decide +kernel)
theorem mw_412 : Cond.methodLink "TextDesk$JoinedText" (1 : Nat) ({ cls := "TextDesk$Text", name := "size", desc := "()I" } : MethodName) ∈ dk_all := dk_in 440 (by decide +kernel) (by decide +kernel)
theorem mw_413 : Cond.methodLink "TextDesk$JoinedText" (7 : Nat) ({ cls := "TextDesk$Text", name := "isNarrow", desc := "()Z" } : MethodName) ∈ dk_all := dk_in 441 (by decide +kernel) (by decide +kernel)
theorem mw_414 : Cond.instanceMethod ({ cls := "TextDesk$Text", name := "isNarrow", desc := "()Z" } : MethodName) ∈ dk_all := dk_in 442 (by decide +kernel) (by decide +kernel)
theorem mw_415 : Cond.sameMethod "TextDesk$Text" "TextDesk$Text" "isNarrow" "()Z" ∈ dk_all := dk_in 443 (by decide +kernel) (by decide +kernel)
theorem mw_416 : Cond.selects "TextDesk$JoinedText" ({ cls := "TextDesk$Text", name := "isNarrow", desc := "()Z" } : MethodName) ({ cls := "TextDesk$Text", name := "isNarrow", desc := "()Z" } : MethodName) ∈ dk_all := dk_in 444 (by decide +kernel) (by decide +kernel)
theorem mw_417 : Cond.selects "TextDesk$NarrowText" ({ cls := "TextDesk$Text", name := "isNarrow", desc := "()Z" } : MethodName) ({ cls := "TextDesk$Text", name := "isNarrow", desc := "()Z" } : MethodName) ∈ dk_all := dk_in 445 (by decide +kernel) (by decide +kernel)
theorem mw_418 : Cond.selects "TextDesk$WideText" ({ cls := "TextDesk$Text", name := "isNarrow", desc := "()Z" } : MethodName) ({ cls := "TextDesk$Text", name := "isNarrow", desc := "()Z" } : MethodName) ∈ dk_all := dk_in 446 (by decide +kernel) (by decide +kernel)
theorem mw_419 : Cond.code ({ cls := "TextDesk$Text", name := "isNarrow", desc := "()Z" } : MethodName) prog_8_method_3_code (1 : Nat) (Option.some FieldType.boolean) ∈ dk_all := dk_in 447 (by decide +kernel) (by decide +kernel)
theorem mw_420 : Cond.methodLink "TextDesk$JoinedText" (11 : Nat) ({ cls := "TextDesk$Text", name := "<init>", desc := "(IZ)V" } : MethodName) ∈ dk_all := dk_in 448 (by decide +kernel) (by decide +kernel)
theorem mw_421 : Cond.fieldLink "TextDesk$JoinedText" (15 : Nat) "TextDesk$JoinedText" "left" "LTextDesk$Text;" ∈ dk_all := dk_in 449 (by decide +kernel) (by decide +kernel)
theorem mw_422 : Cond.fieldLink "TextDesk$JoinedText" (21 : Nat) "TextDesk$JoinedText" "right" "LTextDesk$Text;" ∈ dk_all := dk_in 450 (by decide +kernel) (by decide +kernel)
theorem mw_423 : Cond.fieldLink "TextDesk$JoinedText" (24 : Nat) "TextDesk$JoinedText" "flat" "LTextDesk$Text;" ∈ dk_all := dk_in 451 (by decide +kernel) (by decide +kernel)
theorem mw_424 : Cond.laysFinal "TextDesk$JoinedText" "TextDesk$JoinedText" "left" "LTextDesk$Text;" ∈ dk_all := dk_in 452 (by decide +kernel) (by decide +kernel)
theorem mw_426 : Cond.laysFinal "TextDesk$JoinedText" "TextDesk$JoinedText" "right" "LTextDesk$Text;" ∈ dk_all := dk_in 454 (by decide +kernel) (by decide +kernel)
theorem mw_428 : Cond.lays "TextDesk$JoinedText" "TextDesk$JoinedText" "flat" "LTextDesk$Text;" ∈ dk_all := dk_in 456 (by decide +kernel) (by decide +kernel)
theorem mw_430 : Cond.laysFinal "TextDesk$JoinedText" "TextDesk$Text" "size" "I" ∈ dk_all := dk_in 458 (by decide +kernel) (by decide +kernel)
theorem mw_431 : Cond.laysFinal "TextDesk$JoinedText" "TextDesk$Text" "isNarrow" "Z" ∈ dk_all := dk_in 459 (by decide +kernel) (by decide +kernel)
theorem mw_433 : Cond.methodLink "TextDeskLaw" (120 : Nat) ({ cls := "TextDeskLaw", name := "part", desc := "(LTextDesk;III[J)I" } : MethodName) ∈ dk_all := dk_in 461 (by decide +kernel) (by decide +kernel)
theorem mw_434 : Cond.static ({ cls := "TextDeskLaw", name := "part", desc := "(LTextDesk;III[J)I" } : MethodName) ∈ dk_all := dk_in 462 (by decide +kernel) (by decide +kernel)
theorem mw_435 : Cond.codeWith ({ cls := "TextDeskLaw", name := "part", desc := "(LTextDesk;III[J)I" } : MethodName) method_9_code (6 : Nat) (Option.some FieldType.int) [((0 : Nat), (12 : Nat), (15 : Nat), (13 : Nat)), ((0 : Nat), (12 : Nat), (19 : Nat), (25 : Nat)), ((0 : Nat), (12 : Nat), (23 : Nat), (15 : Nat))] ∈ dk_all := dk_in 463 (by decide +kernel) (by decide +kernel)
theorem mw_436 : Cond.methodLink "TextDeskLaw" (37 : Nat) ({ cls := "TextDesk", name := "part", desc := "(III)I" } : MethodName) ∈ dk_all := dk_in 464 (by decide +kernel) (by decide +kernel)
theorem mw_437 : Cond.instanceMethod ({ cls := "TextDesk", name := "part", desc := "(III)I" } : MethodName) ∈ dk_all := dk_in 465 (by decide +kernel) (by decide +kernel)
theorem mw_438 : Cond.selects "TextDesk" ({ cls := "TextDesk", name := "part", desc := "(III)I" } : MethodName) ({ cls := "TextDesk", name := "part", desc := "(III)I" } : MethodName) ∈ dk_all := dk_in 466 (by decide +kernel) (by decide +kernel)
theorem mw_439 : Cond.code ({ cls := "TextDesk", name := "part", desc := "(III)I" } : MethodName) prog_1_method_9_code (5 : Nat) (Option.some FieldType.int) ∈ dk_all := dk_in 467 (by decide +kernel) (by decide +kernel)
theorem mw_440 : Cond.methodLink "TextDesk" (114 : Nat) ({ cls := "TextDesk", name := "keepRange", desc := "(LTextDesk$Text;II)I" } : MethodName) ∈ dk_all := dk_in 468 (by decide +kernel) (by decide +kernel)
theorem mw_442 : Cond.instanceMethod ({ cls := "TextDesk", name := "keepRange", desc := "(LTextDesk$Text;II)I" } : MethodName) ∈ dk_all := dk_in 470 (by decide +kernel) (by decide +kernel)
theorem mw_443 : Cond.code ({ cls := "TextDesk", name := "keepRange", desc := "(LTextDesk$Text;II)I" } : MethodName) prog_1_method_26_code (4 : Nat) (Option.some FieldType.int) ∈ dk_all := dk_in 471 (by decide +kernel) (by decide +kernel)
theorem mw_444 : Cond.methodLink "TextDeskLaw" (124 : Nat) ({ cls := "TextDeskLaw", name := "replace", desc := "(LTextDesk;III[J)I" } : MethodName) ∈ dk_all := dk_in 472 (by decide +kernel) (by decide +kernel)
theorem mw_445 : Cond.static ({ cls := "TextDeskLaw", name := "replace", desc := "(LTextDesk;III[J)I" } : MethodName) ∈ dk_all := dk_in 473 (by decide +kernel) (by decide +kernel)
theorem mw_446 : Cond.codeWith ({ cls := "TextDeskLaw", name := "replace", desc := "(LTextDesk;III[J)I" } : MethodName) method_10_code (6 : Nat) (Option.some FieldType.int) [((0 : Nat), (12 : Nat), (15 : Nat), (13 : Nat)), ((0 : Nat), (12 : Nat), (19 : Nat), (15 : Nat))] ∈ dk_all := dk_in 474 (by decide +kernel) (by decide +kernel)
theorem mw_447 : Cond.methodLink "TextDeskLaw" (41 : Nat) ({ cls := "TextDesk", name := "replace", desc := "(III)I" } : MethodName) ∈ dk_all := dk_in 475 (by decide +kernel) (by decide +kernel)
theorem mw_448 : Cond.instanceMethod ({ cls := "TextDesk", name := "replace", desc := "(III)I" } : MethodName) ∈ dk_all := dk_in 476 (by decide +kernel) (by decide +kernel)
theorem mw_449 : Cond.selects "TextDesk" ({ cls := "TextDesk", name := "replace", desc := "(III)I" } : MethodName) ({ cls := "TextDesk", name := "replace", desc := "(III)I" } : MethodName) ∈ dk_all := dk_in 477 (by decide +kernel) (by decide +kernel)
theorem mw_450 : Cond.code ({ cls := "TextDesk", name := "replace", desc := "(III)I" } : MethodName) prog_1_method_10_code (9 : Nat) (Option.some FieldType.int) ∈ dk_all := dk_in 478 (by decide +kernel) (by decide +kernel)
theorem mw_451 : Cond.methodLink "TextDesk" (118 : Nat) ({ cls := "TextDesk", name := "standsAt", desc := "(LTextDesk$Text;LTextDesk$Text;I)Z" } : MethodName) ∈ dk_all := dk_in 479 (by decide +kernel) (by decide +kernel)
theorem mw_452 : Cond.static ({ cls := "TextDesk", name := "standsAt", desc := "(LTextDesk$Text;LTextDesk$Text;I)Z" } : MethodName) ∈ dk_all := dk_in 480 (by decide +kernel) (by decide +kernel)
theorem mw_453 : Cond.code ({ cls := "TextDesk", name := "standsAt", desc := "(LTextDesk$Text;LTextDesk$Text;I)Z" } : MethodName) prog_1_method_39_code (4 : Nat) (Option.some FieldType.boolean) ∈ dk_all := dk_in 481 (by decide +kernel) (by decide +kernel)
theorem mw_454 : Cond.methodLink "TextDesk" (122 : Nat) ({ cls := "TextDesk$Text", name := "get", desc := "(I)I" } : MethodName) ∈ dk_all := dk_in 482 (by decide +kernel) (by decide +kernel)
theorem mw_455 : Cond.methodLink "TextDeskLaw" (127 : Nat) ({ cls := "TextDeskLaw", name := "strip", desc := "(LTextDesk;I[J)I" } : MethodName) ∈ dk_all := dk_in 483 (by decide +kernel) (by decide +kernel)
theorem mw_456 : Cond.static ({ cls := "TextDeskLaw", name := "strip", desc := "(LTextDesk;I[J)I" } : MethodName) ∈ dk_all := dk_in 484 (by decide +kernel) (by decide +kernel)
theorem mw_457 : Cond.codeWith ({ cls := "TextDeskLaw", name := "strip", desc := "(LTextDesk;I[J)I" } : MethodName) method_11_code (4 : Nat) (Option.some FieldType.int) [((0 : Nat), (9 : Nat), (12 : Nat), (13 : Nat)), ((0 : Nat), (9 : Nat), (15 : Nat), (15 : Nat))] ∈ dk_all := dk_in 485 (by decide +kernel) (by decide +kernel)
theorem mw_458 : Cond.methodLink "TextDeskLaw" (44 : Nat) ({ cls := "TextDesk", name := "strip", desc := "(I)I" } : MethodName) ∈ dk_all := dk_in 486 (by decide +kernel) (by decide +kernel)
theorem mw_459 : Cond.instanceMethod ({ cls := "TextDesk", name := "strip", desc := "(I)I" } : MethodName) ∈ dk_all := dk_in 487 (by decide +kernel) (by decide +kernel)
theorem mw_460 : Cond.selects "TextDesk" ({ cls := "TextDesk", name := "strip", desc := "(I)I" } : MethodName) ({ cls := "TextDesk", name := "strip", desc := "(I)I" } : MethodName) ∈ dk_all := dk_in 488 (by decide +kernel) (by decide +kernel)
theorem mw_461 : Cond.code ({ cls := "TextDesk", name := "strip", desc := "(I)I" } : MethodName) prog_1_method_11_code (5 : Nat) (Option.some FieldType.int) ∈ dk_all := dk_in 489 (by decide +kernel) (by decide +kernel)
theorem mw_462 : Cond.methodLink "TextDeskLaw" (130 : Nat) ({ cls := "TextDeskLaw", name := "at", desc := "(LTextDesk;II[J)I" } : MethodName) ∈ dk_all := dk_in 490 (by decide +kernel) (by decide +kernel)
theorem mw_463 : Cond.static ({ cls := "TextDeskLaw", name := "at", desc := "(LTextDesk;II[J)I" } : MethodName) ∈ dk_all := dk_in 491 (by decide +kernel) (by decide +kernel)
theorem mw_464 : Cond.codeWith ({ cls := "TextDeskLaw", name := "at", desc := "(LTextDesk;II[J)I" } : MethodName) method_12_code (5 : Nat) (Option.some FieldType.int) [((0 : Nat), (10 : Nat), (13 : Nat), (13 : Nat)), ((0 : Nat), (10 : Nat), (17 : Nat), (25 : Nat))] ∈ dk_all := dk_in 492 (by decide +kernel) (by decide +kernel)
theorem mw_465 : Cond.methodLink "TextDeskLaw" (47 : Nat) ({ cls := "TextDesk", name := "at", desc := "(II)I" } : MethodName) ∈ dk_all := dk_in 493 (by decide +kernel) (by decide +kernel)
theorem mw_466 : Cond.instanceMethod ({ cls := "TextDesk", name := "at", desc := "(II)I" } : MethodName) ∈ dk_all := dk_in 494 (by decide +kernel) (by decide +kernel)
theorem mw_467 : Cond.selects "TextDesk" ({ cls := "TextDesk", name := "at", desc := "(II)I" } : MethodName) ({ cls := "TextDesk", name := "at", desc := "(II)I" } : MethodName) ∈ dk_all := dk_in 495 (by decide +kernel) (by decide +kernel)
theorem mw_468 : Cond.code ({ cls := "TextDesk", name := "at", desc := "(II)I" } : MethodName) prog_1_method_12_code (3 : Nat) (Option.some FieldType.int) ∈ dk_all := dk_in 496 (by decide +kernel) (by decide +kernel)
theorem mw_469 : Cond.methodLink "TextDeskLaw" (133 : Nat) ({ cls := "TextDeskLaw", name := "character", desc := "(LTextDesk;II[J)I" } : MethodName) ∈ dk_all := dk_in 497 (by decide +kernel) (by decide +kernel)
theorem mw_470 : Cond.static ({ cls := "TextDeskLaw", name := "character", desc := "(LTextDesk;II[J)I" } : MethodName) ∈ dk_all := dk_in 498 (by decide +kernel) (by decide +kernel)
theorem mw_471 : Cond.codeWith ({ cls := "TextDeskLaw", name := "character", desc := "(LTextDesk;II[J)I" } : MethodName) method_13_code (5 : Nat) (Option.some FieldType.int) [((0 : Nat), (10 : Nat), (13 : Nat), (13 : Nat)), ((0 : Nat), (10 : Nat), (17 : Nat), (25 : Nat))] ∈ dk_all := dk_in 499 (by decide +kernel) (by decide +kernel)
theorem mw_472 : Cond.methodLink "TextDeskLaw" (50 : Nat) ({ cls := "TextDesk", name := "character", desc := "(II)I" } : MethodName) ∈ dk_all := dk_in 500 (by decide +kernel) (by decide +kernel)
theorem mw_473 : Cond.instanceMethod ({ cls := "TextDesk", name := "character", desc := "(II)I" } : MethodName) ∈ dk_all := dk_in 501 (by decide +kernel) (by decide +kernel)
theorem mw_474 : Cond.selects "TextDesk" ({ cls := "TextDesk", name := "character", desc := "(II)I" } : MethodName) ({ cls := "TextDesk", name := "character", desc := "(II)I" } : MethodName) ∈ dk_all := dk_in 502 (by decide +kernel) (by decide +kernel)
theorem mw_475 : Cond.code ({ cls := "TextDesk", name := "character", desc := "(II)I" } : MethodName) prog_1_method_13_code (7 : Nat) (Option.some FieldType.int) ∈ dk_all := dk_in 503 (by decide +kernel) (by decide +kernel)
theorem mw_476 : Cond.methodLink "TextDesk" (123 : Nat) ({ cls := "TextDesk", name := "characterAt", desc := "(LTextDesk$Sequence;I)I" } : MethodName) ∈ dk_all := dk_in 504 (by decide +kernel) (by decide +kernel)
theorem mw_477 : Cond.static ({ cls := "TextDesk", name := "characterAt", desc := "(LTextDesk$Sequence;I)I" } : MethodName) ∈ dk_all := dk_in 505 (by decide +kernel) (by decide +kernel)
theorem mw_478 : Cond.code ({ cls := "TextDesk", name := "characterAt", desc := "(LTextDesk$Sequence;I)I" } : MethodName) prog_1_method_37_code (3 : Nat) (Option.some FieldType.int) ∈ dk_all := dk_in 506 (by decide +kernel) (by decide +kernel)
theorem mw_480 : Cond.methodLink "TextDeskLaw" (136 : Nat) ({ cls := "TextDeskLaw", name := "narrow", desc := "(LTextDesk;I[J)I" } : MethodName) ∈ dk_all := dk_in 508 (by decide +kernel) (by decide +kernel)
theorem mw_481 : Cond.static ({ cls := "TextDeskLaw", name := "narrow", desc := "(LTextDesk;I[J)I" } : MethodName) ∈ dk_all := dk_in 509 (by decide +kernel) (by decide +kernel)
theorem mw_482 : Cond.codeWith ({ cls := "TextDeskLaw", name := "narrow", desc := "(LTextDesk;I[J)I" } : MethodName) method_14_code (4 : Nat) (Option.some FieldType.int) [((0 : Nat), (16 : Nat), (19 : Nat), (13 : Nat))] ∈ dk_all := dk_in 510 (by decide +kernel) (by decide +kernel)
theorem mw_483 : Cond.methodLink "TextDeskLaw" (53 : Nat) ({ cls := "TextDesk", name := "narrow", desc := "(I)Z" } : MethodName) ∈ dk_all := dk_in 511 (by decide +kernel) (by decide +kernel)
theorem mw_484 : Cond.instanceMethod ({ cls := "TextDesk", name := "narrow", desc := "(I)Z" } : MethodName) ∈ dk_all := dk_in 512 (by decide +kernel) (by decide +kernel)
theorem mw_485 : Cond.selects "TextDesk" ({ cls := "TextDesk", name := "narrow", desc := "(I)Z" } : MethodName) ({ cls := "TextDesk", name := "narrow", desc := "(I)Z" } : MethodName) ∈ dk_all := dk_in 513 (by decide +kernel) (by decide +kernel)
theorem mw_486 : Cond.code ({ cls := "TextDesk", name := "narrow", desc := "(I)Z" } : MethodName) prog_1_method_14_code (2 : Nat) (Option.some FieldType.boolean) ∈ dk_all := dk_in 514 (by decide +kernel) (by decide +kernel)
theorem mw_487 : Cond.methodLink "TextDesk" (131 : Nat) ({ cls := "TextDesk$Text", name := "isNarrow", desc := "()Z" } : MethodName) ∈ dk_all := dk_in 515 (by decide +kernel) (by decide +kernel)
theorem mw_488 : Cond.methodLink "TextDeskLaw" (139 : Nat) ({ cls := "TextDeskLaw", name := "hash", desc := "(LTextDesk;I[J)I" } : MethodName) ∈ dk_all := dk_in 516 (by decide +kernel) (by decide +kernel)
theorem mw_489 : Cond.static ({ cls := "TextDeskLaw", name := "hash", desc := "(LTextDesk;I[J)I" } : MethodName) ∈ dk_all := dk_in 517 (by decide +kernel) (by decide +kernel)
theorem mw_490 : Cond.codeWith ({ cls := "TextDeskLaw", name := "hash", desc := "(LTextDesk;I[J)I" } : MethodName) method_15_code (4 : Nat) (Option.some FieldType.int) [((0 : Nat), (9 : Nat), (12 : Nat), (13 : Nat))] ∈ dk_all := dk_in 518 (by decide +kernel) (by decide +kernel)
theorem mw_491 : Cond.methodLink "TextDeskLaw" (57 : Nat) ({ cls := "TextDesk", name := "hash", desc := "(I)I" } : MethodName) ∈ dk_all := dk_in 519 (by decide +kernel) (by decide +kernel)
theorem mw_492 : Cond.instanceMethod ({ cls := "TextDesk", name := "hash", desc := "(I)I" } : MethodName) ∈ dk_all := dk_in 520 (by decide +kernel) (by decide +kernel)
theorem mw_493 : Cond.selects "TextDesk" ({ cls := "TextDesk", name := "hash", desc := "(I)I" } : MethodName) ({ cls := "TextDesk", name := "hash", desc := "(I)I" } : MethodName) ∈ dk_all := dk_in 521 (by decide +kernel) (by decide +kernel)
theorem mw_494 : Cond.code ({ cls := "TextDesk", name := "hash", desc := "(I)I" } : MethodName) prog_1_method_15_code (5 : Nat) (Option.some FieldType.int) ∈ dk_all := dk_in 522 (by decide +kernel) (by decide +kernel)
theorem mw_495 : Cond.methodLink "TextDeskLaw" (142 : Nat) ({ cls := "TextDeskLaw", name := "compare", desc := "(LTextDesk;II[J)I" } : MethodName) ∈ dk_all := dk_in 523 (by decide +kernel) (by decide +kernel)
theorem mw_496 : Cond.static ({ cls := "TextDeskLaw", name := "compare", desc := "(LTextDesk;II[J)I" } : MethodName) ∈ dk_all := dk_in 524 (by decide +kernel) (by decide +kernel)
theorem mw_497 : Cond.codeWith ({ cls := "TextDeskLaw", name := "compare", desc := "(LTextDesk;II[J)I" } : MethodName) method_16_code (5 : Nat) (Option.some FieldType.int) [((0 : Nat), (10 : Nat), (13 : Nat), (13 : Nat))] ∈ dk_all := dk_in 525 (by decide +kernel) (by decide +kernel)
theorem mw_498 : Cond.methodLink "TextDeskLaw" (60 : Nat) ({ cls := "TextDesk", name := "compare", desc := "(II)I" } : MethodName) ∈ dk_all := dk_in 526 (by decide +kernel) (by decide +kernel)
theorem mw_499 : Cond.instanceMethod ({ cls := "TextDesk", name := "compare", desc := "(II)I" } : MethodName) ∈ dk_all := dk_in 527 (by decide +kernel) (by decide +kernel)
theorem mw_500 : Cond.selects "TextDesk" ({ cls := "TextDesk", name := "compare", desc := "(II)I" } : MethodName) ({ cls := "TextDesk", name := "compare", desc := "(II)I" } : MethodName) ∈ dk_all := dk_in 528 (by decide +kernel) (by decide +kernel)
theorem mw_501 : Cond.code ({ cls := "TextDesk", name := "compare", desc := "(II)I" } : MethodName) prog_1_method_16_code (3 : Nat) (Option.some FieldType.int) ∈ dk_all := dk_in 529 (by decide +kernel) (by decide +kernel)
theorem mw_502 : Cond.methodLink "TextDesk" (134 : Nat) ({ cls := "TextDesk", name := "difference", desc := "(LTextDesk$Text;LTextDesk$Text;)I" } : MethodName) ∈ dk_all := dk_in 530 (by decide +kernel) (by decide +kernel)
theorem mw_503 : Cond.static ({ cls := "TextDesk", name := "difference", desc := "(LTextDesk$Text;LTextDesk$Text;)I" } : MethodName) ∈ dk_all := dk_in 531 (by decide +kernel) (by decide +kernel)
theorem mw_504 : Cond.code ({ cls := "TextDesk", name := "difference", desc := "(LTextDesk$Text;LTextDesk$Text;)I" } : MethodName) prog_1_method_38_code (4 : Nat) (Option.some FieldType.int) ∈ dk_all := dk_in 532 (by decide +kernel) (by decide +kernel)
theorem mw_505 : Cond.methodLink "TextDesk" (218 : Nat) ({ cls := "java/lang/Math", name := "min", desc := "(II)I" } : MethodName) ∈ dk_all := dk_in 533 (by decide +kernel) (by decide +kernel)
theorem mw_506 : Cond.methodLink "TextDeskLaw" (145 : Nat) ({ cls := "TextDeskLaw", name := "find", desc := "(LTextDesk;IIIZ[J)I" } : MethodName) ∈ dk_all := dk_in 534 (by decide +kernel) (by decide +kernel)
theorem mw_507 : Cond.static ({ cls := "TextDeskLaw", name := "find", desc := "(LTextDesk;IIIZ[J)I" } : MethodName) ∈ dk_all := dk_in 535 (by decide +kernel) (by decide +kernel)
theorem mw_508 : Cond.codeWith ({ cls := "TextDeskLaw", name := "find", desc := "(LTextDesk;IIIZ[J)I" } : MethodName) method_17_code (7 : Nat) (Option.some FieldType.int) [((0 : Nat), (14 : Nat), (17 : Nat), (13 : Nat))] ∈ dk_all := dk_in 536 (by decide +kernel) (by decide +kernel)
theorem mw_509 : Cond.methodLink "TextDeskLaw" (63 : Nat) ({ cls := "TextDesk", name := "find", desc := "(IIIZ)I" } : MethodName) ∈ dk_all := dk_in 537 (by decide +kernel) (by decide +kernel)
theorem mw_510 : Cond.instanceMethod ({ cls := "TextDesk", name := "find", desc := "(IIIZ)I" } : MethodName) ∈ dk_all := dk_in 538 (by decide +kernel) (by decide +kernel)
theorem mw_511 : Cond.selects "TextDesk" ({ cls := "TextDesk", name := "find", desc := "(IIIZ)I" } : MethodName) ({ cls := "TextDesk", name := "find", desc := "(IIIZ)I" } : MethodName) ∈ dk_all := dk_in 539 (by decide +kernel) (by decide +kernel)
theorem mw_512 : Cond.code ({ cls := "TextDesk", name := "find", desc := "(IIIZ)I" } : MethodName) prog_1_method_17_code (7 : Nat) (Option.some FieldType.int) ∈ dk_all := dk_in 540 (by decide +kernel) (by decide +kernel)
theorem mw_513 : Cond.methodLink "TextDesk" (138 : Nat) ({ cls := "TextDesk", name := "lastPlace", desc := "(LTextDesk$Text;LTextDesk$Text;I)I" } : MethodName) ∈ dk_all := dk_in 541 (by decide +kernel) (by decide +kernel)
theorem mw_514 : Cond.static ({ cls := "TextDesk", name := "lastPlace", desc := "(LTextDesk$Text;LTextDesk$Text;I)I" } : MethodName) ∈ dk_all := dk_in 542 (by decide +kernel) (by decide +kernel)
theorem mw_515 : Cond.code ({ cls := "TextDesk", name := "lastPlace", desc := "(LTextDesk$Text;LTextDesk$Text;I)I" } : MethodName) prog_1_method_41_code (5 : Nat) (Option.some FieldType.int) ∈ dk_all := dk_in 543 (by decide +kernel) (by decide +kernel)
theorem mw_516 : Cond.methodLink "TextDesk" (142 : Nat) ({ cls := "TextDesk", name := "firstPlace", desc := "(LTextDesk$Text;LTextDesk$Text;I)I" } : MethodName) ∈ dk_all := dk_in 544 (by decide +kernel) (by decide +kernel)
theorem mw_517 : Cond.static ({ cls := "TextDesk", name := "firstPlace", desc := "(LTextDesk$Text;LTextDesk$Text;I)I" } : MethodName) ∈ dk_all := dk_in 545 (by decide +kernel) (by decide +kernel)
theorem mw_518 : Cond.code ({ cls := "TextDesk", name := "firstPlace", desc := "(LTextDesk$Text;LTextDesk$Text;I)I" } : MethodName) prog_1_method_40_code (5 : Nat) (Option.some FieldType.int) ∈ dk_all := dk_in 546 (by decide +kernel) (by decide +kernel)
theorem mw_519 : Cond.methodLink "TextDesk" (224 : Nat) ({ cls := "java/lang/Math", name := "max", desc := "(II)I" } : MethodName) ∈ dk_all := dk_in 547 (by decide +kernel) (by decide +kernel)
theorem mw_520 : Cond.methodLink "TextDeskLaw" (149 : Nat) ({ cls := "TextDeskLaw", name := "symbol", desc := "(LTextDesk;I[J)I" } : MethodName) ∈ dk_all := dk_in 548 (by decide +kernel) (by decide +kernel)
theorem mw_521 : Cond.static ({ cls := "TextDeskLaw", name := "symbol", desc := "(LTextDesk;I[J)I" } : MethodName) ∈ dk_all := dk_in 549 (by decide +kernel) (by decide +kernel)
theorem mw_522 : Cond.codeWith ({ cls := "TextDeskLaw", name := "symbol", desc := "(LTextDesk;I[J)I" } : MethodName) method_18_code (4 : Nat) (Option.some FieldType.int) [((0 : Nat), (9 : Nat), (12 : Nat), (13 : Nat)), ((0 : Nat), (9 : Nat), (15 : Nat), (15 : Nat))] ∈ dk_all := dk_in 550 (by decide +kernel) (by decide +kernel)
theorem mw_523 : Cond.methodLink "TextDeskLaw" (67 : Nat) ({ cls := "TextDesk", name := "symbol", desc := "(I)I" } : MethodName) ∈ dk_all := dk_in 551 (by decide +kernel) (by decide +kernel)
theorem mw_524 : Cond.instanceMethod ({ cls := "TextDesk", name := "symbol", desc := "(I)I" } : MethodName) ∈ dk_all := dk_in 552 (by decide +kernel) (by decide +kernel)
theorem mw_525 : Cond.selects "TextDesk" ({ cls := "TextDesk", name := "symbol", desc := "(I)I" } : MethodName) ({ cls := "TextDesk", name := "symbol", desc := "(I)I" } : MethodName) ∈ dk_all := dk_in 553 (by decide +kernel) (by decide +kernel)
theorem mw_526 : Cond.code ({ cls := "TextDesk", name := "symbol", desc := "(I)I" } : MethodName) prog_1_method_18_code (4 : Nat) (Option.some FieldType.int) ∈ dk_all := dk_in 554 (by decide +kernel) (by decide +kernel)
theorem mw_528 : Cond.methodLink "TextDeskLaw" (152 : Nat) ({ cls := "TextDeskLaw", name := "encode", desc := "(LTextDesk;II[J)I" } : MethodName) ∈ dk_all := dk_in 556 (by decide +kernel) (by decide +kernel)
theorem mw_529 : Cond.static ({ cls := "TextDeskLaw", name := "encode", desc := "(LTextDesk;II[J)I" } : MethodName) ∈ dk_all := dk_in 557 (by decide +kernel) (by decide +kernel)
theorem mw_530 : Cond.codeWith ({ cls := "TextDeskLaw", name := "encode", desc := "(LTextDesk;II[J)I" } : MethodName) method_19_code (5 : Nat) (Option.some FieldType.int) [((0 : Nat), (10 : Nat), (13 : Nat), (13 : Nat))] ∈ dk_all := dk_in 558 (by decide +kernel) (by decide +kernel)
theorem mw_531 : Cond.methodLink "TextDeskLaw" (70 : Nat) ({ cls := "TextDesk", name := "encode", desc := "(II)I" } : MethodName) ∈ dk_all := dk_in 559 (by decide +kernel) (by decide +kernel)
theorem mw_532 : Cond.instanceMethod ({ cls := "TextDesk", name := "encode", desc := "(II)I" } : MethodName) ∈ dk_all := dk_in 560 (by decide +kernel) (by decide +kernel)
theorem mw_533 : Cond.selects "TextDesk" ({ cls := "TextDesk", name := "encode", desc := "(II)I" } : MethodName) ({ cls := "TextDesk", name := "encode", desc := "(II)I" } : MethodName) ∈ dk_all := dk_in 561 (by decide +kernel) (by decide +kernel)
theorem mw_534 : Cond.code ({ cls := "TextDesk", name := "encode", desc := "(II)I" } : MethodName) prog_1_method_19_code (4 : Nat) (Option.some FieldType.int) ∈ dk_all := dk_in 562 (by decide +kernel) (by decide +kernel)
theorem mw_535 : Cond.methodLink "TextDesk" (151 : Nat) ({ cls := "TextDesk", name := "refuseUnknownEncoding", desc := "(I)V" } : MethodName) ∈ dk_all := dk_in 563 (by decide +kernel) (by decide +kernel)
theorem mw_536 : Cond.static ({ cls := "TextDesk", name := "refuseUnknownEncoding", desc := "(I)V" } : MethodName) ∈ dk_all := dk_in 564 (by decide +kernel) (by decide +kernel)
theorem mw_537 : Cond.code ({ cls := "TextDesk", name := "refuseUnknownEncoding", desc := "(I)V" } : MethodName) prog_1_method_30_code (1 : Nat) (Option.none : Option Jvm.ClassFile.FieldType) ∈ dk_all := dk_in 565 (by decide +kernel) (by decide +kernel)
theorem mw_539 : Cond.methodLink "TextDesk" (154 : Nat) ({ cls := "TextDesk$Encoder", name := "writeText", desc := "(LTextDesk$Text;ILTextDesk$Row;)V" } : MethodName) ∈ dk_all := dk_in 567 (by decide +kernel) (by decide +kernel)
theorem mw_540 : Cond.static ({ cls := "TextDesk$Encoder", name := "writeText", desc := "(LTextDesk$Text;ILTextDesk$Row;)V" } : MethodName) ∈ dk_all := dk_in 568 (by decide +kernel) (by decide +kernel)
theorem mw_541 : Cond.code ({ cls := "TextDesk$Encoder", name := "writeText", desc := "(LTextDesk$Text;ILTextDesk$Row;)V" } : MethodName) prog_3_method_2_code (6 : Nat) (Option.none : Option Jvm.ClassFile.FieldType) ∈ dk_all := dk_in 569 (by decide +kernel) (by decide +kernel)
theorem mw_542 : Cond.methodLink "TextDesk$Encoder" (9 : Nat) ({ cls := "TextDesk$Text", name := "size", desc := "()I" } : MethodName) ∈ dk_all := dk_in 570 (by decide +kernel) (by decide +kernel)
theorem mw_544 : Cond.methodLink "TextDesk$Encoder" (19 : Nat) ({ cls := "TextDesk$Text", name := "get", desc := "(I)I" } : MethodName) ∈ dk_all := dk_in 572 (by decide +kernel) (by decide +kernel)
theorem mw_545 : Cond.methodLink "TextDesk$Encoder" (23 : Nat) ({ cls := "TextDesk$Encoder", name := "writeCode", desc := "(IILTextDesk$Row;)V" } : MethodName) ∈ dk_all := dk_in 573 (by decide +kernel) (by decide +kernel)
theorem mw_546 : Cond.static ({ cls := "TextDesk$Encoder", name := "writeCode", desc := "(IILTextDesk$Row;)V" } : MethodName) ∈ dk_all := dk_in 574 (by decide +kernel) (by decide +kernel)
theorem mw_547 : Cond.code ({ cls := "TextDesk$Encoder", name := "writeCode", desc := "(IILTextDesk$Row;)V" } : MethodName) prog_3_method_3_code (3 : Nat) (Option.none : Option Jvm.ClassFile.FieldType) ∈ dk_all := dk_in 575 (by decide +kernel) (by decide +kernel)
theorem mw_550 : Cond.methodLink "TextDesk$Encoder" (37 : Nat) ({ cls := "TextDesk$Encoder", name := "writeUtf8", desc := "(ILTextDesk$Row;)V" } : MethodName) ∈ dk_all := dk_in 578 (by decide +kernel) (by decide +kernel)
theorem mw_551 : Cond.static ({ cls := "TextDesk$Encoder", name := "writeUtf8", desc := "(ILTextDesk$Row;)V" } : MethodName) ∈ dk_all := dk_in 579 (by decide +kernel) (by decide +kernel)
theorem mw_552 : Cond.code ({ cls := "TextDesk$Encoder", name := "writeUtf8", desc := "(ILTextDesk$Row;)V" } : MethodName) prog_3_method_5_code (2 : Nat) (Option.none : Option Jvm.ClassFile.FieldType) ∈ dk_all := dk_in 580 (by decide +kernel) (by decide +kernel)
theorem mw_553 : Cond.methodLink "TextDesk$Encoder" (44 : Nat) ({ cls := "TextDesk$Row", name := "append", desc := "(I)V" } : MethodName) ∈ dk_all := dk_in 581 (by decide +kernel) (by decide +kernel)
theorem mw_554 : Cond.constant "TextDesk$Encoder" (29 : Nat) (65536 : Int32) ∈ dk_all := dk_in 582 (by decide +kernel) (by decide +kernel)
theorem mw_555 : Cond.constant "TextDesk$Encoder" (50 : Nat) (262144 : Int32) ∈ dk_all := dk_in 583 (by decide +kernel) (by decide +kernel)
theorem mw_556 : Cond.methodLink "TextDesk$Encoder" (41 : Nat) ({ cls := "TextDesk$Encoder", name := "writeModified", desc := "(ILTextDesk$Row;)V" } : MethodName) ∈ dk_all := dk_in 584 (by decide +kernel) (by decide +kernel)
theorem mw_557 : Cond.static ({ cls := "TextDesk$Encoder", name := "writeModified", desc := "(ILTextDesk$Row;)V" } : MethodName) ∈ dk_all := dk_in 585 (by decide +kernel) (by decide +kernel)
theorem mw_558 : Cond.code ({ cls := "TextDesk$Encoder", name := "writeModified", desc := "(ILTextDesk$Row;)V" } : MethodName) prog_3_method_4_code (2 : Nat) (Option.none : Option Jvm.ClassFile.FieldType) ∈ dk_all := dk_in 586 (by decide +kernel) (by decide +kernel)
theorem mw_559 : Cond.methodLink "TextDeskLaw" (155 : Nat) ({ cls := "TextDeskLaw", name := "type", desc := "(LTextDesk;I[J)I" } : MethodName) ∈ dk_all := dk_in 587 (by decide +kernel) (by decide +kernel)
theorem mw_560 : Cond.static ({ cls := "TextDeskLaw", name := "type", desc := "(LTextDesk;I[J)I" } : MethodName) ∈ dk_all := dk_in 588 (by decide +kernel) (by decide +kernel)
theorem mw_561 : Cond.codeWith ({ cls := "TextDeskLaw", name := "type", desc := "(LTextDesk;I[J)I" } : MethodName) method_20_code (4 : Nat) (Option.some FieldType.int) [((0 : Nat), (9 : Nat), (12 : Nat), (13 : Nat)), ((0 : Nat), (9 : Nat), (15 : Nat), (15 : Nat))] ∈ dk_all := dk_in 589 (by decide +kernel) (by decide +kernel)
theorem mw_562 : Cond.methodLink "TextDeskLaw" (73 : Nat) ({ cls := "TextDesk", name := "type", desc := "(I)I" } : MethodName) ∈ dk_all := dk_in 590 (by decide +kernel) (by decide +kernel)
theorem mw_563 : Cond.instanceMethod ({ cls := "TextDesk", name := "type", desc := "(I)I" } : MethodName) ∈ dk_all := dk_in 591 (by decide +kernel) (by decide +kernel)
theorem mw_564 : Cond.selects "TextDesk" ({ cls := "TextDesk", name := "type", desc := "(I)I" } : MethodName) ({ cls := "TextDesk", name := "type", desc := "(I)I" } : MethodName) ∈ dk_all := dk_in 592 (by decide +kernel) (by decide +kernel)
theorem mw_565 : Cond.code ({ cls := "TextDesk", name := "type", desc := "(I)I" } : MethodName) prog_1_method_20_code (2 : Nat) (Option.some FieldType.int) ∈ dk_all := dk_in 593 (by decide +kernel) (by decide +kernel)
theorem mw_568 : Cond.methodLink "TextDeskLaw" (158 : Nat) ({ cls := "TextDeskLaw", name := "decode", desc := "(LTextDesk;IZ[J)I" } : MethodName) ∈ dk_all := dk_in 596 (by decide +kernel) (by decide +kernel)
theorem mw_569 : Cond.static ({ cls := "TextDeskLaw", name := "decode", desc := "(LTextDesk;IZ[J)I" } : MethodName) ∈ dk_all := dk_in 597 (by decide +kernel) (by decide +kernel)
theorem mw_570 : Cond.codeWith ({ cls := "TextDeskLaw", name := "decode", desc := "(LTextDesk;IZ[J)I" } : MethodName) method_21_code (5 : Nat) (Option.some FieldType.int) [((0 : Nat), (10 : Nat), (13 : Nat), (13 : Nat)), ((0 : Nat), (10 : Nat), (17 : Nat), (80 : Nat)), ((0 : Nat), (10 : Nat), (21 : Nat), (15 : Nat))] ∈ dk_all := dk_in 598 (by decide +kernel) (by decide +kernel)
theorem mw_571 : Cond.classLink "TextDeskLaw" (80 : Nat) "java/lang/UnsupportedOperationException" ∈ dk_all := dk_in 599 (by decide +kernel) (by decide +kernel)
theorem mw_572 : Cond.methodLink "TextDeskLaw" (76 : Nat) ({ cls := "TextDesk", name := "decode", desc := "(IZ)I" } : MethodName) ∈ dk_all := dk_in 600 (by decide +kernel) (by decide +kernel)
theorem mw_573 : Cond.instanceMethod ({ cls := "TextDesk", name := "decode", desc := "(IZ)I" } : MethodName) ∈ dk_all := dk_in 601 (by decide +kernel) (by decide +kernel)
theorem mw_574 : Cond.selects "TextDesk" ({ cls := "TextDesk", name := "decode", desc := "(IZ)I" } : MethodName) ({ cls := "TextDesk", name := "decode", desc := "(IZ)I" } : MethodName) ∈ dk_all := dk_in 602 (by decide +kernel) (by decide +kernel)
theorem mw_575 : Cond.code ({ cls := "TextDesk", name := "decode", desc := "(IZ)I" } : MethodName) prog_1_method_21_code (5 : Nat) (Option.some FieldType.int) ∈ dk_all := dk_in 603 (by decide +kernel) (by decide +kernel)
theorem mw_576 : Cond.methodLink "TextDesk" (164 : Nat) ({ cls := "TextDesk$Decoder", name := "readAll", desc := "(LTextDesk$Row;ILTextDesk$Row;)Z" } : MethodName) ∈ dk_all := dk_in 604 (by decide +kernel) (by decide +kernel)
theorem mw_577 : Cond.instanceMethod ({ cls := "TextDesk$Decoder", name := "readAll", desc := "(LTextDesk$Row;ILTextDesk$Row;)Z" } : MethodName) ∈ dk_all := dk_in 605 (by decide +kernel) (by decide +kernel)
theorem mw_578 : Cond.selects "TextDesk$Decoder" ({ cls := "TextDesk$Decoder", name := "readAll", desc := "(LTextDesk$Row;ILTextDesk$Row;)Z" } : MethodName) ({ cls := "TextDesk$Decoder", name := "readAll", desc := "(LTextDesk$Row;ILTextDesk$Row;)Z" } : MethodName) ∈ dk_all := dk_in 606 (by decide +kernel) (by decide +kernel)
theorem mw_579 : Cond.code ({ cls := "TextDesk$Decoder", name := "readAll", desc := "(LTextDesk$Row;ILTextDesk$Row;)Z" } : MethodName) prog_2_method_2_code (6 : Nat) (Option.some FieldType.boolean) ∈ dk_all := dk_in 607 (by decide +kernel) (by decide +kernel)
theorem mw_580 : Cond.methodLink "TextDesk$Decoder" (9 : Nat) ({ cls := "TextDesk$Row", name := "size", desc := "()I" } : MethodName) ∈ dk_all := dk_in 608 (by decide +kernel) (by decide +kernel)
theorem mw_581 : Cond.methodLink "TextDesk$Decoder" (15 : Nat) ({ cls := "TextDesk$Decoder", name := "readRow", desc := "(LTextDesk$Row;II)V" } : MethodName) ∈ dk_all := dk_in 609 (by decide +kernel) (by decide +kernel)
theorem mw_583 : Cond.instanceMethod ({ cls := "TextDesk$Decoder", name := "readRow", desc := "(LTextDesk$Row;II)V" } : MethodName) ∈ dk_all := dk_in 611 (by decide +kernel) (by decide +kernel)
theorem mw_584 : Cond.code ({ cls := "TextDesk$Decoder", name := "readRow", desc := "(LTextDesk$Row;II)V" } : MethodName) prog_2_method_4_code (4 : Nat) (Option.none : Option Jvm.ClassFile.FieldType) ∈ dk_all := dk_in 612 (by decide +kernel) (by decide +kernel)
theorem mw_585 : Cond.methodLink "TextDesk$Decoder" (46 : Nat) ({ cls := "TextDesk$Row", name := "get", desc := "(I)I" } : MethodName) ∈ dk_all := dk_in 613 (by decide +kernel) (by decide +kernel)
theorem mw_586 : Cond.methodLink "TextDesk$Decoder" (50 : Nat) ({ cls := "TextDesk$Decoder", name := "goodWidthUtf8", desc := "(I)I" } : MethodName) ∈ dk_all := dk_in 614 (by decide +kernel) (by decide +kernel)
theorem mw_587 : Cond.static ({ cls := "TextDesk$Decoder", name := "goodWidthUtf8", desc := "(I)I" } : MethodName) ∈ dk_all := dk_in 615 (by decide +kernel) (by decide +kernel)
theorem mw_588 : Cond.code ({ cls := "TextDesk$Decoder", name := "goodWidthUtf8", desc := "(I)I" } : MethodName) prog_2_method_8_code (1 : Nat) (Option.some FieldType.int) ∈ dk_all := dk_in 616 (by decide +kernel) (by decide +kernel)
theorem mw_589 : Cond.methodLink "TextDesk$Decoder" (53 : Nat) ({ cls := "TextDesk$Decoder", name := "readPrefixed", desc := "(LTextDesk$Row;IIZ)V" } : MethodName) ∈ dk_all := dk_in 617 (by decide +kernel) (by decide +kernel)
theorem mw_591 : Cond.instanceMethod ({ cls := "TextDesk$Decoder", name := "readPrefixed", desc := "(LTextDesk$Row;IIZ)V" } : MethodName) ∈ dk_all := dk_in 619 (by decide +kernel) (by decide +kernel)
theorem mw_592 : Cond.code ({ cls := "TextDesk$Decoder", name := "readPrefixed", desc := "(LTextDesk$Row;IIZ)V" } : MethodName) prog_2_method_7_code (11 : Nat) (Option.none : Option Jvm.ClassFile.FieldType) ∈ dk_all := dk_in 620 (by decide +kernel) (by decide +kernel)
theorem mw_593 : Cond.methodLink "TextDesk$Decoder" (64 : Nat) ({ cls := "TextDesk$Decoder", name := "setRow", desc := "(II)V" } : MethodName) ∈ dk_all := dk_in 621 (by decide +kernel) (by decide +kernel)
theorem mw_595 : Cond.instanceMethod ({ cls := "TextDesk$Decoder", name := "setRow", desc := "(II)V" } : MethodName) ∈ dk_all := dk_in 623 (by decide +kernel) (by decide +kernel)
theorem mw_596 : Cond.code ({ cls := "TextDesk$Decoder", name := "setRow", desc := "(II)V" } : MethodName) prog_2_method_5_code (3 : Nat) (Option.none : Option Jvm.ClassFile.FieldType) ∈ dk_all := dk_in 624 (by decide +kernel) (by decide +kernel)
theorem mw_597 : Cond.methodLink "TextDesk$Decoder" (67 : Nat) ({ cls := "TextDesk$Decoder", name := "firstByteBase", desc := "(I)I" } : MethodName) ∈ dk_all := dk_in 625 (by decide +kernel) (by decide +kernel)
theorem mw_598 : Cond.static ({ cls := "TextDesk$Decoder", name := "firstByteBase", desc := "(I)I" } : MethodName) ∈ dk_all := dk_in 626 (by decide +kernel) (by decide +kernel)
theorem mw_599 : Cond.code ({ cls := "TextDesk$Decoder", name := "firstByteBase", desc := "(I)I" } : MethodName) prog_2_method_10_code (1 : Nat) (Option.some FieldType.int) ∈ dk_all := dk_in 627 (by decide +kernel) (by decide +kernel)
theorem mw_600 : Cond.methodLink "TextDesk$Decoder" (70 : Nat) ({ cls := "TextDesk$Decoder", name := "lowestSecond", desc := "(I)I" } : MethodName) ∈ dk_all := dk_in 628 (by decide +kernel) (by decide +kernel)
theorem mw_601 : Cond.static ({ cls := "TextDesk$Decoder", name := "lowestSecond", desc := "(I)I" } : MethodName) ∈ dk_all := dk_in 629 (by decide +kernel) (by decide +kernel)
theorem mw_602 : Cond.code ({ cls := "TextDesk$Decoder", name := "lowestSecond", desc := "(I)I" } : MethodName) prog_2_method_11_code (1 : Nat) (Option.some FieldType.int) ∈ dk_all := dk_in 630 (by decide +kernel) (by decide +kernel)
theorem mw_603 : Cond.methodLink "TextDesk$Decoder" (73 : Nat) ({ cls := "TextDesk$Decoder", name := "highestSecond", desc := "(IZ)I" } : MethodName) ∈ dk_all := dk_in 631 (by decide +kernel) (by decide +kernel)
theorem mw_604 : Cond.static ({ cls := "TextDesk$Decoder", name := "highestSecond", desc := "(IZ)I" } : MethodName) ∈ dk_all := dk_in 632 (by decide +kernel) (by decide +kernel)
theorem mw_605 : Cond.code ({ cls := "TextDesk$Decoder", name := "highestSecond", desc := "(IZ)I" } : MethodName) prog_2_method_12_code (2 : Nat) (Option.some FieldType.int) ∈ dk_all := dk_in 633 (by decide +kernel) (by decide +kernel)
theorem mw_606 : Cond.methodLink "TextDesk$Decoder" (57 : Nat) ({ cls := "TextDesk$Decoder", name := "goodWidthModified", desc := "(I)I" } : MethodName) ∈ dk_all := dk_in 634 (by decide +kernel) (by decide +kernel)
theorem mw_607 : Cond.static ({ cls := "TextDesk$Decoder", name := "goodWidthModified", desc := "(I)I" } : MethodName) ∈ dk_all := dk_in 635 (by decide +kernel) (by decide +kernel)
theorem mw_608 : Cond.code ({ cls := "TextDesk$Decoder", name := "goodWidthModified", desc := "(I)I" } : MethodName) prog_2_method_9_code (1 : Nat) (Option.some FieldType.int) ∈ dk_all := dk_in 636 (by decide +kernel) (by decide +kernel)
theorem mw_609 : Cond.methodLink "TextDesk$Decoder" (60 : Nat) ({ cls := "TextDesk$Decoder", name := "readTwo", desc := "(II)V" } : MethodName) ∈ dk_all := dk_in 637 (by decide +kernel) (by decide +kernel)
theorem mw_611 : Cond.instanceMethod ({ cls := "TextDesk$Decoder", name := "readTwo", desc := "(II)V" } : MethodName) ∈ dk_all := dk_in 639 (by decide +kernel) (by decide +kernel)
theorem mw_612 : Cond.code ({ cls := "TextDesk$Decoder", name := "readTwo", desc := "(II)V" } : MethodName) prog_2_method_6_code (3 : Nat) (Option.none : Option Jvm.ClassFile.FieldType) ∈ dk_all := dk_in 640 (by decide +kernel) (by decide +kernel)
theorem mw_613 : Cond.constant "TextDesk$Decoder" (25 : Nat) (65533 : Int32) ∈ dk_all := dk_in 641 (by decide +kernel) (by decide +kernel)
theorem mw_614 : Cond.methodLink "TextDesk$Decoder" (26 : Nat) ({ cls := "TextDesk$Decoder", name := "appendCharacter", desc := "(ILTextDesk$Row;)V" } : MethodName) ∈ dk_all := dk_in 642 (by decide +kernel) (by decide +kernel)
theorem mw_615 : Cond.static ({ cls := "TextDesk$Decoder", name := "appendCharacter", desc := "(ILTextDesk$Row;)V" } : MethodName) ∈ dk_all := dk_in 643 (by decide +kernel) (by decide +kernel)
theorem mw_616 : Cond.code ({ cls := "TextDesk$Decoder", name := "appendCharacter", desc := "(ILTextDesk$Row;)V" } : MethodName) prog_2_method_3_code (2 : Nat) (Option.none : Option Jvm.ClassFile.FieldType) ∈ dk_all := dk_in 644 (by decide +kernel) (by decide +kernel)
theorem mw_617 : Cond.constant "TextDesk$Decoder" (39 : Nat) (65536 : Int32) ∈ dk_all := dk_in 645 (by decide +kernel) (by decide +kernel)
theorem mw_618 : Cond.methodLink "TextDesk$Decoder" (40 : Nat) ({ cls := "TextDesk$Row", name := "append", desc := "(I)V" } : MethodName) ∈ dk_all := dk_in 646 (by decide +kernel) (by decide +kernel)
theorem mw_619 : Cond.constant "TextDesk$Decoder" (44 : Nat) (55296 : Int32) ∈ dk_all := dk_in 647 (by decide +kernel) (by decide +kernel)
theorem mw_620 : Cond.constant "TextDesk$Decoder" (45 : Nat) (56320 : Int32) ∈ dk_all := dk_in 648 (by decide +kernel) (by decide +kernel)
theorem mw_621 : Cond.methodLink "TextDesk$Decoder" (33 : Nat) ({ cls := "java/lang/Math", name := "max", desc := "(II)I" } : MethodName) ∈ dk_all := dk_in 649 (by decide +kernel) (by decide +kernel)
theorem mw_622 : Cond.classLink "TextDesk" (168 : Nat) "java/lang/UnsupportedOperationException" ∈ dk_all := dk_in 650 (by decide +kernel) (by decide +kernel)
theorem mw_623 : Cond.instantiable "java/lang/UnsupportedOperationException" (6 : Nat) ∈ dk_all := dk_in 651 (by decide +kernel) (by decide +kernel)
theorem mw_625 : Cond.selects "java/lang/UnsupportedOperationException" ({ cls := "java/lang/Throwable", name := "fillInStackTrace", desc := "(I)Ljava/lang/Throwable;" } : MethodName) ({ cls := "java/lang/Throwable", name := "fillInStackTrace", desc := "(I)Ljava/lang/Throwable;" } : MethodName) ∈ dk_all := dk_in 653 (by decide +kernel) (by decide +kernel)
theorem mw_626 : Cond.lays "java/lang/UnsupportedOperationException" "java/lang/Throwable" "cause" "Ljava/lang/Throwable;" ∈ dk_all := dk_in 654 (by decide +kernel) (by decide +kernel)
theorem mw_627 : Cond.lays "java/lang/UnsupportedOperationException" "java/lang/Throwable" "stackTrace" "[Ljava/lang/StackTraceElement;" ∈ dk_all := dk_in 655 (by decide +kernel) (by decide +kernel)
theorem mw_628 : Cond.lays "java/lang/UnsupportedOperationException" "java/lang/Throwable" "suppressedExceptions" "Ljava/util/List;" ∈ dk_all := dk_in 656 (by decide +kernel) (by decide +kernel)
theorem mw_629 : Cond.lays "java/lang/UnsupportedOperationException" "java/lang/Throwable" "detailMessage" "Ljava/lang/String;" ∈ dk_all := dk_in 657 (by decide +kernel) (by decide +kernel)
theorem mw_630 : Cond.lays "java/lang/UnsupportedOperationException" "java/lang/Throwable" "backtrace" "Ljava/lang/Object;" ∈ dk_all := dk_in 658 (by decide +kernel) (by decide +kernel)
theorem mw_632 : Cond.methodLink "TextDesk" (172 : Nat) ({ cls := "java/lang/UnsupportedOperationException", name := "<init>", desc := "(Ljava/lang/String;)V" } : MethodName) ∈ dk_all := dk_in 660 (by decide +kernel) (by decide +kernel)
theorem mw_633 : Cond.instanceMethod ({ cls := "java/lang/UnsupportedOperationException", name := "<init>", desc := "(Ljava/lang/String;)V" } : MethodName) ∈ dk_all := dk_in 661 (by decide +kernel) (by decide +kernel)
theorem mw_634 : Cond.code ({ cls := "java/lang/UnsupportedOperationException", name := "<init>", desc := "(Ljava/lang/String;)V" } : MethodName) prog_20_method_2_code (2 : Nat) (Option.none : Option Jvm.ClassFile.FieldType) ∈ dk_all := dk_in 662 (by decide +kernel) (by decide +kernel)
theorem mw_635 : Cond.methodLink "java/lang/UnsupportedOperationException" (7 : Nat) ({ cls := "java/lang/RuntimeException", name := "<init>", desc := "(Ljava/lang/String;)V" } : MethodName) ∈ dk_all := dk_in 663 (by decide +kernel) (by decide +kernel)
theorem mw_636 : Cond.lays "java/lang/UnsupportedOperationException" "java/lang/Throwable" "depth" "I" ∈ dk_all := dk_in 664 (by decide +kernel) (by decide +kernel)
theorem mw_638 : Cond.methodLink "TextDeskLaw" (162 : Nat) ({ cls := "TextDeskLaw", name := "octet", desc := "(LTextDesk;I[J)I" } : MethodName) ∈ dk_all := dk_in 666 (by decide +kernel) (by decide +kernel)
theorem mw_639 : Cond.static ({ cls := "TextDeskLaw", name := "octet", desc := "(LTextDesk;I[J)I" } : MethodName) ∈ dk_all := dk_in 667 (by decide +kernel) (by decide +kernel)
theorem mw_640 : Cond.codeWith ({ cls := "TextDeskLaw", name := "octet", desc := "(LTextDesk;I[J)I" } : MethodName) method_22_code (4 : Nat) (Option.some FieldType.int) [((0 : Nat), (9 : Nat), (12 : Nat), (25 : Nat))] ∈ dk_all := dk_in 668 (by decide +kernel) (by decide +kernel)
theorem mw_641 : Cond.methodLink "TextDeskLaw" (82 : Nat) ({ cls := "TextDesk", name := "octet", desc := "(I)I" } : MethodName) ∈ dk_all := dk_in 669 (by decide +kernel) (by decide +kernel)
theorem mw_642 : Cond.instanceMethod ({ cls := "TextDesk", name := "octet", desc := "(I)I" } : MethodName) ∈ dk_all := dk_in 670 (by decide +kernel) (by decide +kernel)
theorem mw_643 : Cond.selects "TextDesk" ({ cls := "TextDesk", name := "octet", desc := "(I)I" } : MethodName) ({ cls := "TextDesk", name := "octet", desc := "(I)I" } : MethodName) ∈ dk_all := dk_in 671 (by decide +kernel) (by decide +kernel)
theorem mw_644 : Cond.code ({ cls := "TextDesk", name := "octet", desc := "(I)I" } : MethodName) prog_1_method_22_code (2 : Nat) (Option.some FieldType.int) ∈ dk_all := dk_in 672 (by decide +kernel) (by decide +kernel)
theorem mw_645 : Cond.classLink "TextDeskLaw" (86 : Nat) "TextDeskModel" ∈ dk_all := dk_in 673 (by decide +kernel) (by decide +kernel)
theorem mw_646 : Cond.instantiable "TextDeskModel" (14 : Nat) ∈ dk_all := dk_in 674 (by decide +kernel) (by decide +kernel)
theorem mw_647 : Cond.methodLink "TextDeskLaw" (88 : Nat) ({ cls := "TextDeskModel", name := "<init>", desc := "()V" } : MethodName) ∈ dk_all := dk_in 675 (by decide +kernel) (by decide +kernel)
theorem mw_648 : Cond.instanceMethod ({ cls := "TextDeskModel", name := "<init>", desc := "()V" } : MethodName) ∈ dk_all := dk_in 676 (by decide +kernel) (by decide +kernel)
theorem mw_649 : Cond.code ({ cls := "TextDeskModel", name := "<init>", desc := "()V" } : MethodName) prog_11_method_1_code (1 : Nat) (Option.none : Option Jvm.ClassFile.FieldType) ∈ dk_all := dk_in 677 (by decide +kernel) (by decide +kernel)
theorem mw_650 : Cond.methodLink "TextDeskModel" (1 : Nat) ({ cls := "java/lang/Object", name := "<init>", desc := "()V" } : MethodName) ∈ dk_all := dk_in 678 (by decide +kernel) (by decide +kernel)
theorem mw_651 : Cond.fieldLink "TextDeskModel" (31 : Nat) "TextDeskModel" "thrown" "I" ∈ dk_all := dk_in 679 (by decide +kernel) (by decide +kernel)
theorem mw_652 : Cond.fieldLink "TextDeskModel" (58 : Nat) "TextDeskModel" "count" "I" ∈ dk_all := dk_in 680 (by decide +kernel) (by decide +kernel)
theorem mw_653 : Cond.fieldLink "TextDeskModel" (7 : Nat) "TextDeskModel" "size" "[I" ∈ dk_all := dk_in 681 (by decide +kernel) (by decide +kernel)
theorem mw_654 : Cond.fieldLink "TextDeskModel" (13 : Nat) "TextDeskModel" "units" "[I" ∈ dk_all := dk_in 682 (by decide +kernel) (by decide +kernel)
theorem mw_655 : Cond.fieldLink "TextDeskModel" (68 : Nat) "TextDeskModel" "builtSize" "I" ∈ dk_all := dk_in 683 (by decide +kernel) (by decide +kernel)
theorem mw_656 : Cond.fieldLink "TextDeskModel" (16 : Nat) "TextDeskModel" "builder" "[I" ∈ dk_all := dk_in 684 (by decide +kernel) (by decide +kernel)
theorem mw_657 : Cond.fieldLink "TextDeskModel" (55 : Nat) "TextDeskModel" "madeSize" "I" ∈ dk_all := dk_in 685 (by decide +kernel) (by decide +kernel)
theorem mw_658 : Cond.fieldLink "TextDeskModel" (19 : Nat) "TextDeskModel" "made" "[I" ∈ dk_all := dk_in 686 (by decide +kernel) (by decide +kernel)
theorem mw_659 : Cond.fieldLink "TextDeskModel" (112 : Nat) "TextDeskModel" "byteCount" "I" ∈ dk_all := dk_in 687 (by decide +kernel) (by decide +kernel)
theorem mw_660 : Cond.fieldLink "TextDeskModel" (22 : Nat) "TextDeskModel" "bytes" "[I" ∈ dk_all := dk_in 688 (by decide +kernel) (by decide +kernel)
theorem mw_661 : Cond.fieldLink "TextDeskModel" (96 : Nat) "TextDeskModel" "symbols" "I" ∈ dk_all := dk_in 689 (by decide +kernel) (by decide +kernel)
theorem mw_662 : Cond.fieldLink "TextDeskModel" (25 : Nat) "TextDeskModel" "symbolOf" "[I" ∈ dk_all := dk_in 690 (by decide +kernel) (by decide +kernel)
theorem mw_663 : Cond.fieldLink "TextDeskModel" (99 : Nat) "TextDeskModel" "codeSize" "I" ∈ dk_all := dk_in 691 (by decide +kernel) (by decide +kernel)
theorem mw_664 : Cond.fieldLink "TextDeskModel" (28 : Nat) "TextDeskModel" "code" "[I" ∈ dk_all := dk_in 692 (by decide +kernel) (by decide +kernel)
theorem mw_665 : Cond.lays "TextDeskModel" "TextDeskModel" "thrown" "I" ∈ dk_all := dk_in 693 (by decide +kernel) (by decide +kernel)
theorem mw_667 : Cond.lays "TextDeskModel" "TextDeskModel" "count" "I" ∈ dk_all := dk_in 695 (by decide +kernel) (by decide +kernel)
theorem mw_669 : Cond.laysFinal "TextDeskModel" "TextDeskModel" "size" "[I" ∈ dk_all := dk_in 697 (by decide +kernel) (by decide +kernel)
theorem mw_671 : Cond.laysFinal "TextDeskModel" "TextDeskModel" "units" "[I" ∈ dk_all := dk_in 699 (by decide +kernel) (by decide +kernel)
theorem mw_673 : Cond.lays "TextDeskModel" "TextDeskModel" "builtSize" "I" ∈ dk_all := dk_in 701 (by decide +kernel) (by decide +kernel)
theorem mw_675 : Cond.laysFinal "TextDeskModel" "TextDeskModel" "builder" "[I" ∈ dk_all := dk_in 703 (by decide +kernel) (by decide +kernel)
theorem mw_677 : Cond.lays "TextDeskModel" "TextDeskModel" "madeSize" "I" ∈ dk_all := dk_in 705 (by decide +kernel) (by decide +kernel)
theorem mw_679 : Cond.laysFinal "TextDeskModel" "TextDeskModel" "made" "[I" ∈ dk_all := dk_in 707 (by decide +kernel) (by decide +kernel)
theorem mw_681 : Cond.lays "TextDeskModel" "TextDeskModel" "byteCount" "I" ∈ dk_all := dk_in 709 (by decide +kernel) (by decide +kernel)
theorem mw_683 : Cond.laysFinal "TextDeskModel" "TextDeskModel" "bytes" "[I" ∈ dk_all := dk_in 711 (by decide +kernel) (by decide +kernel)
theorem mw_685 : Cond.lays "TextDeskModel" "TextDeskModel" "symbols" "I" ∈ dk_all := dk_in 713 (by decide +kernel) (by decide +kernel)
theorem mw_687 : Cond.laysFinal "TextDeskModel" "TextDeskModel" "symbolOf" "[I" ∈ dk_all := dk_in 715 (by decide +kernel) (by decide +kernel)
theorem mw_689 : Cond.lays "TextDeskModel" "TextDeskModel" "codeSize" "I" ∈ dk_all := dk_in 717 (by decide +kernel) (by decide +kernel)
theorem mw_691 : Cond.laysFinal "TextDeskModel" "TextDeskModel" "code" "[I" ∈ dk_all := dk_in 719 (by decide +kernel) (by decide +kernel)
theorem mw_694 : Cond.methodLink "TextDeskLaw" (95 : Nat) ({ cls := "TextDeskModel", name := "thrown", desc := "()I" } : MethodName) ∈ dk_all := dk_in 722 (by decide +kernel) (by decide +kernel)
theorem mw_695 : Cond.instanceMethod ({ cls := "TextDeskModel", name := "thrown", desc := "()I" } : MethodName) ∈ dk_all := dk_in 723 (by decide +kernel) (by decide +kernel)
theorem mw_696 : Cond.selects "TextDeskModel" ({ cls := "TextDeskModel", name := "thrown", desc := "()I" } : MethodName) ({ cls := "TextDeskModel", name := "thrown", desc := "()I" } : MethodName) ∈ dk_all := dk_in 724 (by decide +kernel) (by decide +kernel)
theorem mw_697 : Cond.code ({ cls := "TextDeskModel", name := "thrown", desc := "()I" } : MethodName) prog_11_method_2_code (1 : Nat) (Option.some FieldType.int) ∈ dk_all := dk_in 725 (by decide +kernel) (by decide +kernel)
theorem mw_698 : Cond.methodLink "TextDeskLaw" (94 : Nat) ({ cls := "TextDeskModel", name := "unit", desc := "(I)I" } : MethodName) ∈ dk_all := dk_in 726 (by decide +kernel) (by decide +kernel)
theorem mw_699 : Cond.instanceMethod ({ cls := "TextDeskModel", name := "unit", desc := "(I)I" } : MethodName) ∈ dk_all := dk_in 727 (by decide +kernel) (by decide +kernel)
theorem mw_700 : Cond.selects "TextDeskModel" ({ cls := "TextDeskModel", name := "unit", desc := "(I)I" } : MethodName) ({ cls := "TextDeskModel", name := "unit", desc := "(I)I" } : MethodName) ∈ dk_all := dk_in 728 (by decide +kernel) (by decide +kernel)
theorem mw_701 : Cond.code ({ cls := "TextDeskModel", name := "unit", desc := "(I)I" } : MethodName) prog_11_method_14_code (2 : Nat) (Option.some FieldType.int) ∈ dk_all := dk_in 729 (by decide +kernel) (by decide +kernel)
theorem mw_702 : Cond.constant "TextDeskModel" (54 : Nat) (65536 : Int32) ∈ dk_all := dk_in 730 (by decide +kernel) (by decide +kernel)
theorem mw_703 : Cond.methodLink "TextDeskModel" (61 : Nat) ({ cls := "TextDeskModel", name := "out", desc := "(II)Z" } : MethodName) ∈ dk_all := dk_in 731 (by decide +kernel) (by decide +kernel)
theorem mw_704 : Cond.static ({ cls := "TextDeskModel", name := "out", desc := "(II)Z" } : MethodName) ∈ dk_all := dk_in 732 (by decide +kernel) (by decide +kernel)
theorem mw_705 : Cond.code ({ cls := "TextDeskModel", name := "out", desc := "(II)Z" } : MethodName) prog_11_method_3_code (2 : Nat) (Option.some FieldType.boolean) ∈ dk_all := dk_in 733 (by decide +kernel) (by decide +kernel)
theorem mw_706 : Cond.methodLink "TextDeskLaw" (101 : Nat) ({ cls := "TextDeskModel", name := "insert", desc := "(II)I" } : MethodName) ∈ dk_all := dk_in 734 (by decide +kernel) (by decide +kernel)
theorem mw_707 : Cond.instanceMethod ({ cls := "TextDeskModel", name := "insert", desc := "(II)I" } : MethodName) ∈ dk_all := dk_in 735 (by decide +kernel) (by decide +kernel)
theorem mw_708 : Cond.selects "TextDeskModel" ({ cls := "TextDeskModel", name := "insert", desc := "(II)I" } : MethodName) ({ cls := "TextDeskModel", name := "insert", desc := "(II)I" } : MethodName) ∈ dk_all := dk_in 736 (by decide +kernel) (by decide +kernel)
theorem mw_709 : Cond.code ({ cls := "TextDeskModel", name := "insert", desc := "(II)I" } : MethodName) prog_11_method_15_code (4 : Nat) (Option.some FieldType.int) ∈ dk_all := dk_in 737 (by decide +kernel) (by decide +kernel)
theorem mw_710 : Cond.methodLink "TextDeskModel" (71 : Nat) ({ cls := "TextDeskModel", name := "isText", desc := "(I)Z" } : MethodName) ∈ dk_all := dk_in 738 (by decide +kernel) (by decide +kernel)
theorem mw_712 : Cond.instanceMethod ({ cls := "TextDeskModel", name := "isText", desc := "(I)Z" } : MethodName) ∈ dk_all := dk_in 740 (by decide +kernel) (by decide +kernel)
theorem mw_713 : Cond.code ({ cls := "TextDeskModel", name := "isText", desc := "(I)Z" } : MethodName) prog_11_method_12_code (2 : Nat) (Option.some FieldType.boolean) ∈ dk_all := dk_in 741 (by decide +kernel) (by decide +kernel)
theorem mw_714 : Cond.methodLink "TextDeskModel" (64 : Nat) ({ cls := "TextDeskModel", name := "make", desc := "(I)V" } : MethodName) ∈ dk_all := dk_in 742 (by decide +kernel) (by decide +kernel)
theorem mw_716 : Cond.instanceMethod ({ cls := "TextDeskModel", name := "make", desc := "(I)V" } : MethodName) ∈ dk_all := dk_in 744 (by decide +kernel) (by decide +kernel)
theorem mw_717 : Cond.code ({ cls := "TextDeskModel", name := "make", desc := "(I)V" } : MethodName) prog_11_method_10_code (2 : Nat) (Option.none : Option Jvm.ClassFile.FieldType) ∈ dk_all := dk_in 745 (by decide +kernel) (by decide +kernel)
theorem mw_718 : Cond.methodLink "TextDeskModel" (74 : Nat) ({ cls := "TextDeskModel", name := "makePart", desc := "(III)V" } : MethodName) ∈ dk_all := dk_in 746 (by decide +kernel) (by decide +kernel)
theorem mw_720 : Cond.instanceMethod ({ cls := "TextDeskModel", name := "makePart", desc := "(III)V" } : MethodName) ∈ dk_all := dk_in 748 (by decide +kernel) (by decide +kernel)
theorem mw_721 : Cond.code ({ cls := "TextDeskModel", name := "makePart", desc := "(III)V" } : MethodName) prog_11_method_13_code (5 : Nat) (Option.none : Option Jvm.ClassFile.FieldType) ∈ dk_all := dk_in 749 (by decide +kernel) (by decide +kernel)
theorem mw_722 : Cond.methodLink "TextDeskModel" (39 : Nat) ({ cls := "TextDeskModel", name := "unitOf", desc := "(II)I" } : MethodName) ∈ dk_all := dk_in 750 (by decide +kernel) (by decide +kernel)
theorem mw_724 : Cond.instanceMethod ({ cls := "TextDeskModel", name := "unitOf", desc := "(II)I" } : MethodName) ∈ dk_all := dk_in 752 (by decide +kernel) (by decide +kernel)
theorem mw_725 : Cond.code ({ cls := "TextDeskModel", name := "unitOf", desc := "(II)I" } : MethodName) prog_11_method_7_code (3 : Nat) (Option.some FieldType.int) ∈ dk_all := dk_in 753 (by decide +kernel) (by decide +kernel)
theorem mw_726 : Cond.methodLink "TextDeskLaw" (105 : Nat) ({ cls := "TextDeskModel", name := "delete", desc := "(II)V" } : MethodName) ∈ dk_all := dk_in 754 (by decide +kernel) (by decide +kernel)
theorem mw_727 : Cond.instanceMethod ({ cls := "TextDeskModel", name := "delete", desc := "(II)V" } : MethodName) ∈ dk_all := dk_in 755 (by decide +kernel) (by decide +kernel)
theorem mw_728 : Cond.selects "TextDeskModel" ({ cls := "TextDeskModel", name := "delete", desc := "(II)V" } : MethodName) ({ cls := "TextDeskModel", name := "delete", desc := "(II)V" } : MethodName) ∈ dk_all := dk_in 756 (by decide +kernel) (by decide +kernel)
theorem mw_729 : Cond.code ({ cls := "TextDeskModel", name := "delete", desc := "(II)V" } : MethodName) prog_11_method_16_code (5 : Nat) (Option.none : Option Jvm.ClassFile.FieldType) ∈ dk_all := dk_in 757 (by decide +kernel) (by decide +kernel)
theorem mw_730 : Cond.methodLink "TextDeskLaw" (109 : Nat) ({ cls := "TextDeskModel", name := "reverse", desc := "()V" } : MethodName) ∈ dk_all := dk_in 758 (by decide +kernel) (by decide +kernel)
theorem mw_731 : Cond.instanceMethod ({ cls := "TextDeskModel", name := "reverse", desc := "()V" } : MethodName) ∈ dk_all := dk_in 759 (by decide +kernel) (by decide +kernel)
theorem mw_732 : Cond.selects "TextDeskModel" ({ cls := "TextDeskModel", name := "reverse", desc := "()V" } : MethodName) ({ cls := "TextDeskModel", name := "reverse", desc := "()V" } : MethodName) ∈ dk_all := dk_in 760 (by decide +kernel) (by decide +kernel)
theorem mw_733 : Cond.code ({ cls := "TextDeskModel", name := "reverse", desc := "()V" } : MethodName) prog_11_method_17_code (3 : Nat) (Option.none : Option Jvm.ClassFile.FieldType) ∈ dk_all := dk_in 761 (by decide +kernel) (by decide +kernel)
theorem mw_734 : Cond.methodLink "TextDeskModel" (43 : Nat) ({ cls := "TextDeskModel", name := "high", desc := "(I)Z" } : MethodName) ∈ dk_all := dk_in 762 (by decide +kernel) (by decide +kernel)
theorem mw_735 : Cond.static ({ cls := "TextDeskModel", name := "high", desc := "(I)Z" } : MethodName) ∈ dk_all := dk_in 763 (by decide +kernel) (by decide +kernel)
theorem mw_736 : Cond.code ({ cls := "TextDeskModel", name := "high", desc := "(I)Z" } : MethodName) prog_11_method_5_code (1 : Nat) (Option.some FieldType.boolean) ∈ dk_all := dk_in 764 (by decide +kernel) (by decide +kernel)
theorem mw_737 : Cond.constant "TextDeskModel" (35 : Nat) (55296 : Int32) ∈ dk_all := dk_in 765 (by decide +kernel) (by decide +kernel)
theorem mw_738 : Cond.constant "TextDeskModel" (36 : Nat) (56319 : Int32) ∈ dk_all := dk_in 766 (by decide +kernel) (by decide +kernel)
theorem mw_739 : Cond.methodLink "TextDeskModel" (47 : Nat) ({ cls := "TextDeskModel", name := "low", desc := "(I)Z" } : MethodName) ∈ dk_all := dk_in 767 (by decide +kernel) (by decide +kernel)
theorem mw_740 : Cond.static ({ cls := "TextDeskModel", name := "low", desc := "(I)Z" } : MethodName) ∈ dk_all := dk_in 768 (by decide +kernel) (by decide +kernel)
theorem mw_741 : Cond.code ({ cls := "TextDeskModel", name := "low", desc := "(I)Z" } : MethodName) prog_11_method_6_code (1 : Nat) (Option.some FieldType.boolean) ∈ dk_all := dk_in 769 (by decide +kernel) (by decide +kernel)
theorem mw_742 : Cond.constant "TextDeskModel" (37 : Nat) (56320 : Int32) ∈ dk_all := dk_in 770 (by decide +kernel) (by decide +kernel)
theorem mw_743 : Cond.constant "TextDeskModel" (38 : Nat) (57343 : Int32) ∈ dk_all := dk_in 771 (by decide +kernel) (by decide +kernel)
theorem mw_744 : Cond.methodLink "TextDeskLaw" (112 : Nat) ({ cls := "TextDeskModel", name := "built", desc := "(I)I" } : MethodName) ∈ dk_all := dk_in 772 (by decide +kernel) (by decide +kernel)
theorem mw_745 : Cond.instanceMethod ({ cls := "TextDeskModel", name := "built", desc := "(I)I" } : MethodName) ∈ dk_all := dk_in 773 (by decide +kernel) (by decide +kernel)
theorem mw_746 : Cond.selects "TextDeskModel" ({ cls := "TextDeskModel", name := "built", desc := "(I)I" } : MethodName) ({ cls := "TextDeskModel", name := "built", desc := "(I)I" } : MethodName) ∈ dk_all := dk_in 774 (by decide +kernel) (by decide +kernel)
theorem mw_747 : Cond.code ({ cls := "TextDeskModel", name := "built", desc := "(I)I" } : MethodName) prog_11_method_18_code (2 : Nat) (Option.some FieldType.int) ∈ dk_all := dk_in 775 (by decide +kernel) (by decide +kernel)
theorem mw_748 : Cond.methodLink "TextDeskLaw" (116 : Nat) ({ cls := "TextDeskModel", name := "take", desc := "()I" } : MethodName) ∈ dk_all := dk_in 776 (by decide +kernel) (by decide +kernel)
theorem mw_749 : Cond.instanceMethod ({ cls := "TextDeskModel", name := "take", desc := "()I" } : MethodName) ∈ dk_all := dk_in 777 (by decide +kernel) (by decide +kernel)
theorem mw_750 : Cond.selects "TextDeskModel" ({ cls := "TextDeskModel", name := "take", desc := "()I" } : MethodName) ({ cls := "TextDeskModel", name := "take", desc := "()I" } : MethodName) ∈ dk_all := dk_in 778 (by decide +kernel) (by decide +kernel)
theorem mw_751 : Cond.code ({ cls := "TextDeskModel", name := "take", desc := "()I" } : MethodName) prog_11_method_19_code (2 : Nat) (Option.some FieldType.int) ∈ dk_all := dk_in 779 (by decide +kernel) (by decide +kernel)
theorem mw_752 : Cond.methodLink "TextDeskModel" (78 : Nat) ({ cls := "TextDeskModel", name := "addMade", desc := "()I" } : MethodName) ∈ dk_all := dk_in 780 (by decide +kernel) (by decide +kernel)
theorem mw_754 : Cond.instanceMethod ({ cls := "TextDeskModel", name := "addMade", desc := "()I" } : MethodName) ∈ dk_all := dk_in 782 (by decide +kernel) (by decide +kernel)
theorem mw_755 : Cond.code ({ cls := "TextDeskModel", name := "addMade", desc := "()I" } : MethodName) prog_11_method_11_code (2 : Nat) (Option.some FieldType.int) ∈ dk_all := dk_in 783 (by decide +kernel) (by decide +kernel)
theorem mw_756 : Cond.methodLink "TextDeskLaw" (119 : Nat) ({ cls := "TextDeskModel", name := "join", desc := "(II)I" } : MethodName) ∈ dk_all := dk_in 784 (by decide +kernel) (by decide +kernel)
theorem mw_757 : Cond.instanceMethod ({ cls := "TextDeskModel", name := "join", desc := "(II)I" } : MethodName) ∈ dk_all := dk_in 785 (by decide +kernel) (by decide +kernel)
theorem mw_758 : Cond.selects "TextDeskModel" ({ cls := "TextDeskModel", name := "join", desc := "(II)I" } : MethodName) ({ cls := "TextDeskModel", name := "join", desc := "(II)I" } : MethodName) ∈ dk_all := dk_in 786 (by decide +kernel) (by decide +kernel)
theorem mw_759 : Cond.code ({ cls := "TextDeskModel", name := "join", desc := "(II)I" } : MethodName) prog_11_method_20_code (3 : Nat) (Option.some FieldType.int) ∈ dk_all := dk_in 787 (by decide +kernel) (by decide +kernel)
theorem mw_760 : Cond.methodLink "TextDeskLaw" (123 : Nat) ({ cls := "TextDeskModel", name := "part", desc := "(III)I" } : MethodName) ∈ dk_all := dk_in 788 (by decide +kernel) (by decide +kernel)
theorem mw_761 : Cond.instanceMethod ({ cls := "TextDeskModel", name := "part", desc := "(III)I" } : MethodName) ∈ dk_all := dk_in 789 (by decide +kernel) (by decide +kernel)
theorem mw_762 : Cond.selects "TextDeskModel" ({ cls := "TextDeskModel", name := "part", desc := "(III)I" } : MethodName) ({ cls := "TextDeskModel", name := "part", desc := "(III)I" } : MethodName) ∈ dk_all := dk_in 790 (by decide +kernel) (by decide +kernel)
theorem mw_763 : Cond.code ({ cls := "TextDeskModel", name := "part", desc := "(III)I" } : MethodName) prog_11_method_21_code (4 : Nat) (Option.some FieldType.int) ∈ dk_all := dk_in 791 (by decide +kernel) (by decide +kernel)
theorem mw_764 : Cond.methodLink "TextDeskLaw" (126 : Nat) ({ cls := "TextDeskModel", name := "replace", desc := "(III)I" } : MethodName) ∈ dk_all := dk_in 792 (by decide +kernel) (by decide +kernel)
theorem mw_765 : Cond.instanceMethod ({ cls := "TextDeskModel", name := "replace", desc := "(III)I" } : MethodName) ∈ dk_all := dk_in 793 (by decide +kernel) (by decide +kernel)
theorem mw_766 : Cond.selects "TextDeskModel" ({ cls := "TextDeskModel", name := "replace", desc := "(III)I" } : MethodName) ({ cls := "TextDeskModel", name := "replace", desc := "(III)I" } : MethodName) ∈ dk_all := dk_in 794 (by decide +kernel) (by decide +kernel)
theorem mw_767 : Cond.code ({ cls := "TextDeskModel", name := "replace", desc := "(III)I" } : MethodName) prog_11_method_23_code (6 : Nat) (Option.some FieldType.int) ∈ dk_all := dk_in 795 (by decide +kernel) (by decide +kernel)
theorem mw_768 : Cond.methodLink "TextDeskModel" (82 : Nat) ({ cls := "TextDeskModel", name := "stands", desc := "(III)Z" } : MethodName) ∈ dk_all := dk_in 796 (by decide +kernel) (by decide +kernel)
theorem mw_770 : Cond.instanceMethod ({ cls := "TextDeskModel", name := "stands", desc := "(III)Z" } : MethodName) ∈ dk_all := dk_in 798 (by decide +kernel) (by decide +kernel)
theorem mw_771 : Cond.code ({ cls := "TextDeskModel", name := "stands", desc := "(III)Z" } : MethodName) prog_11_method_22_code (6 : Nat) (Option.some FieldType.boolean) ∈ dk_all := dk_in 799 (by decide +kernel) (by decide +kernel)
theorem mw_772 : Cond.methodLink "TextDeskModel" (86 : Nat) ({ cls := "TextDeskModel", name := "fail", desc := "(I)I" } : MethodName) ∈ dk_all := dk_in 800 (by decide +kernel) (by decide +kernel)
theorem mw_774 : Cond.instanceMethod ({ cls := "TextDeskModel", name := "fail", desc := "(I)I" } : MethodName) ∈ dk_all := dk_in 802 (by decide +kernel) (by decide +kernel)
theorem mw_775 : Cond.code ({ cls := "TextDeskModel", name := "fail", desc := "(I)I" } : MethodName) prog_11_method_4_code (2 : Nat) (Option.some FieldType.int) ∈ dk_all := dk_in 803 (by decide +kernel) (by decide +kernel)
theorem mw_776 : Cond.methodLink "TextDeskLaw" (129 : Nat) ({ cls := "TextDeskModel", name := "strip", desc := "(I)I" } : MethodName) ∈ dk_all := dk_in 804 (by decide +kernel) (by decide +kernel)
theorem mw_777 : Cond.instanceMethod ({ cls := "TextDeskModel", name := "strip", desc := "(I)I" } : MethodName) ∈ dk_all := dk_in 805 (by decide +kernel) (by decide +kernel)
theorem mw_778 : Cond.selects "TextDeskModel" ({ cls := "TextDeskModel", name := "strip", desc := "(I)I" } : MethodName) ({ cls := "TextDeskModel", name := "strip", desc := "(I)I" } : MethodName) ∈ dk_all := dk_in 806 (by decide +kernel) (by decide +kernel)
theorem mw_779 : Cond.code ({ cls := "TextDeskModel", name := "strip", desc := "(I)I" } : MethodName) prog_11_method_24_code (5 : Nat) (Option.some FieldType.int) ∈ dk_all := dk_in 807 (by decide +kernel) (by decide +kernel)
theorem mw_780 : Cond.methodLink "TextDeskLaw" (132 : Nat) ({ cls := "TextDeskModel", name := "at", desc := "(II)I" } : MethodName) ∈ dk_all := dk_in 808 (by decide +kernel) (by decide +kernel)
theorem mw_781 : Cond.instanceMethod ({ cls := "TextDeskModel", name := "at", desc := "(II)I" } : MethodName) ∈ dk_all := dk_in 809 (by decide +kernel) (by decide +kernel)
theorem mw_782 : Cond.selects "TextDeskModel" ({ cls := "TextDeskModel", name := "at", desc := "(II)I" } : MethodName) ({ cls := "TextDeskModel", name := "at", desc := "(II)I" } : MethodName) ∈ dk_all := dk_in 810 (by decide +kernel) (by decide +kernel)
theorem mw_783 : Cond.code ({ cls := "TextDeskModel", name := "at", desc := "(II)I" } : MethodName) prog_11_method_25_code (3 : Nat) (Option.some FieldType.int) ∈ dk_all := dk_in 811 (by decide +kernel) (by decide +kernel)
theorem mw_784 : Cond.methodLink "TextDeskLaw" (135 : Nat) ({ cls := "TextDeskModel", name := "character", desc := "(II)I" } : MethodName) ∈ dk_all := dk_in 812 (by decide +kernel) (by decide +kernel)
theorem mw_785 : Cond.instanceMethod ({ cls := "TextDeskModel", name := "character", desc := "(II)I" } : MethodName) ∈ dk_all := dk_in 813 (by decide +kernel) (by decide +kernel)
theorem mw_786 : Cond.selects "TextDeskModel" ({ cls := "TextDeskModel", name := "character", desc := "(II)I" } : MethodName) ({ cls := "TextDeskModel", name := "character", desc := "(II)I" } : MethodName) ∈ dk_all := dk_in 814 (by decide +kernel) (by decide +kernel)
theorem mw_787 : Cond.code ({ cls := "TextDeskModel", name := "character", desc := "(II)I" } : MethodName) prog_11_method_26_code (7 : Nat) (Option.some FieldType.int) ∈ dk_all := dk_in 815 (by decide +kernel) (by decide +kernel)
theorem mw_788 : Cond.methodLink "TextDeskModel" (50 : Nat) ({ cls := "TextDeskModel", name := "pair", desc := "(II)Z" } : MethodName) ∈ dk_all := dk_in 816 (by decide +kernel) (by decide +kernel)
theorem mw_790 : Cond.instanceMethod ({ cls := "TextDeskModel", name := "pair", desc := "(II)Z" } : MethodName) ∈ dk_all := dk_in 818 (by decide +kernel) (by decide +kernel)
theorem mw_791 : Cond.code ({ cls := "TextDeskModel", name := "pair", desc := "(II)Z" } : MethodName) prog_11_method_8_code (3 : Nat) (Option.some FieldType.boolean) ∈ dk_all := dk_in 819 (by decide +kernel) (by decide +kernel)
theorem mw_792 : Cond.methodLink "TextDeskModel" (90 : Nat) ({ cls := "TextDeskModel", name := "characterAt", desc := "(II)I" } : MethodName) ∈ dk_all := dk_in 820 (by decide +kernel) (by decide +kernel)
theorem mw_794 : Cond.instanceMethod ({ cls := "TextDeskModel", name := "characterAt", desc := "(II)I" } : MethodName) ∈ dk_all := dk_in 822 (by decide +kernel) (by decide +kernel)
theorem mw_795 : Cond.code ({ cls := "TextDeskModel", name := "characterAt", desc := "(II)I" } : MethodName) prog_11_method_9_code (4 : Nat) (Option.some FieldType.int) ∈ dk_all := dk_in 823 (by decide +kernel) (by decide +kernel)
theorem mw_796 : Cond.methodLink "TextDeskLaw" (138 : Nat) ({ cls := "TextDeskModel", name := "narrow", desc := "(I)Z" } : MethodName) ∈ dk_all := dk_in 824 (by decide +kernel) (by decide +kernel)
theorem mw_797 : Cond.instanceMethod ({ cls := "TextDeskModel", name := "narrow", desc := "(I)Z" } : MethodName) ∈ dk_all := dk_in 825 (by decide +kernel) (by decide +kernel)
theorem mw_798 : Cond.selects "TextDeskModel" ({ cls := "TextDeskModel", name := "narrow", desc := "(I)Z" } : MethodName) ({ cls := "TextDeskModel", name := "narrow", desc := "(I)Z" } : MethodName) ∈ dk_all := dk_in 826 (by decide +kernel) (by decide +kernel)
theorem mw_799 : Cond.code ({ cls := "TextDeskModel", name := "narrow", desc := "(I)Z" } : MethodName) prog_11_method_27_code (4 : Nat) (Option.some FieldType.boolean) ∈ dk_all := dk_in 827 (by decide +kernel) (by decide +kernel)
theorem mw_800 : Cond.methodLink "TextDeskLaw" (141 : Nat) ({ cls := "TextDeskModel", name := "hash", desc := "(I)I" } : MethodName) ∈ dk_all := dk_in 828 (by decide +kernel) (by decide +kernel)
theorem mw_801 : Cond.instanceMethod ({ cls := "TextDeskModel", name := "hash", desc := "(I)I" } : MethodName) ∈ dk_all := dk_in 829 (by decide +kernel) (by decide +kernel)
theorem mw_802 : Cond.selects "TextDeskModel" ({ cls := "TextDeskModel", name := "hash", desc := "(I)I" } : MethodName) ({ cls := "TextDeskModel", name := "hash", desc := "(I)I" } : MethodName) ∈ dk_all := dk_in 830 (by decide +kernel) (by decide +kernel)
theorem mw_803 : Cond.code ({ cls := "TextDeskModel", name := "hash", desc := "(I)I" } : MethodName) prog_11_method_28_code (5 : Nat) (Option.some FieldType.int) ∈ dk_all := dk_in 831 (by decide +kernel) (by decide +kernel)
theorem mw_804 : Cond.methodLink "TextDeskLaw" (144 : Nat) ({ cls := "TextDeskModel", name := "compare", desc := "(II)I" } : MethodName) ∈ dk_all := dk_in 832 (by decide +kernel) (by decide +kernel)
theorem mw_805 : Cond.instanceMethod ({ cls := "TextDeskModel", name := "compare", desc := "(II)I" } : MethodName) ∈ dk_all := dk_in 833 (by decide +kernel) (by decide +kernel)
theorem mw_806 : Cond.selects "TextDeskModel" ({ cls := "TextDeskModel", name := "compare", desc := "(II)I" } : MethodName) ({ cls := "TextDeskModel", name := "compare", desc := "(II)I" } : MethodName) ∈ dk_all := dk_in 834 (by decide +kernel) (by decide +kernel)
theorem mw_807 : Cond.code ({ cls := "TextDeskModel", name := "compare", desc := "(II)I" } : MethodName) prog_11_method_30_code (3 : Nat) (Option.some FieldType.int) ∈ dk_all := dk_in 835 (by decide +kernel) (by decide +kernel)
theorem mw_808 : Cond.methodLink "TextDeskModel" (93 : Nat) ({ cls := "TextDeskModel", name := "difference", desc := "(II)I" } : MethodName) ∈ dk_all := dk_in 836 (by decide +kernel) (by decide +kernel)
theorem mw_810 : Cond.instanceMethod ({ cls := "TextDeskModel", name := "difference", desc := "(II)I" } : MethodName) ∈ dk_all := dk_in 838 (by decide +kernel) (by decide +kernel)
theorem mw_811 : Cond.code ({ cls := "TextDeskModel", name := "difference", desc := "(II)I" } : MethodName) prog_11_method_29_code (4 : Nat) (Option.some FieldType.int) ∈ dk_all := dk_in 839 (by decide +kernel) (by decide +kernel)
theorem mw_812 : Cond.methodLink "TextDeskLaw" (148 : Nat) ({ cls := "TextDeskModel", name := "find", desc := "(IIIZ)I" } : MethodName) ∈ dk_all := dk_in 840 (by decide +kernel) (by decide +kernel)
theorem mw_813 : Cond.instanceMethod ({ cls := "TextDeskModel", name := "find", desc := "(IIIZ)I" } : MethodName) ∈ dk_all := dk_in 841 (by decide +kernel) (by decide +kernel)
theorem mw_814 : Cond.selects "TextDeskModel" ({ cls := "TextDeskModel", name := "find", desc := "(IIIZ)I" } : MethodName) ({ cls := "TextDeskModel", name := "find", desc := "(IIIZ)I" } : MethodName) ∈ dk_all := dk_in 842 (by decide +kernel) (by decide +kernel)
theorem mw_815 : Cond.code ({ cls := "TextDeskModel", name := "find", desc := "(IIIZ)I" } : MethodName) prog_11_method_31_code (8 : Nat) (Option.some FieldType.int) ∈ dk_all := dk_in 843 (by decide +kernel) (by decide +kernel)
theorem mw_816 : Cond.methodLink "TextDeskLaw" (151 : Nat) ({ cls := "TextDeskModel", name := "symbol", desc := "(I)I" } : MethodName) ∈ dk_all := dk_in 844 (by decide +kernel) (by decide +kernel)
theorem mw_817 : Cond.instanceMethod ({ cls := "TextDeskModel", name := "symbol", desc := "(I)I" } : MethodName) ∈ dk_all := dk_in 845 (by decide +kernel) (by decide +kernel)
theorem mw_818 : Cond.selects "TextDeskModel" ({ cls := "TextDeskModel", name := "symbol", desc := "(I)I" } : MethodName) ({ cls := "TextDeskModel", name := "symbol", desc := "(I)I" } : MethodName) ∈ dk_all := dk_in 846 (by decide +kernel) (by decide +kernel)
theorem mw_819 : Cond.code ({ cls := "TextDeskModel", name := "symbol", desc := "(I)I" } : MethodName) prog_11_method_32_code (4 : Nat) (Option.some FieldType.int) ∈ dk_all := dk_in 847 (by decide +kernel) (by decide +kernel)
theorem mw_820 : Cond.methodLink "TextDeskLaw" (154 : Nat) ({ cls := "TextDeskModel", name := "encode", desc := "(II)I" } : MethodName) ∈ dk_all := dk_in 848 (by decide +kernel) (by decide +kernel)
theorem mw_821 : Cond.instanceMethod ({ cls := "TextDeskModel", name := "encode", desc := "(II)I" } : MethodName) ∈ dk_all := dk_in 849 (by decide +kernel) (by decide +kernel)
theorem mw_822 : Cond.selects "TextDeskModel" ({ cls := "TextDeskModel", name := "encode", desc := "(II)I" } : MethodName) ({ cls := "TextDeskModel", name := "encode", desc := "(II)I" } : MethodName) ∈ dk_all := dk_in 850 (by decide +kernel) (by decide +kernel)
theorem mw_823 : Cond.code ({ cls := "TextDeskModel", name := "encode", desc := "(II)I" } : MethodName) prog_11_method_37_code (5 : Nat) (Option.some FieldType.int) ∈ dk_all := dk_in 851 (by decide +kernel) (by decide +kernel)
theorem mw_824 : Cond.methodLink "TextDeskModel" (115 : Nat) ({ cls := "TextDeskModel", name := "encodeAt", desc := "(III)I" } : MethodName) ∈ dk_all := dk_in 852 (by decide +kernel) (by decide +kernel)
theorem mw_826 : Cond.instanceMethod ({ cls := "TextDeskModel", name := "encodeAt", desc := "(III)I" } : MethodName) ∈ dk_all := dk_in 854 (by decide +kernel) (by decide +kernel)
theorem mw_827 : Cond.code ({ cls := "TextDeskModel", name := "encodeAt", desc := "(III)I" } : MethodName) prog_11_method_35_code (6 : Nat) (Option.some FieldType.int) ∈ dk_all := dk_in 855 (by decide +kernel) (by decide +kernel)
theorem mw_828 : Cond.methodLink "TextDeskModel" (106 : Nat) ({ cls := "TextDeskModel", name := "utf", desc := "(I)V" } : MethodName) ∈ dk_all := dk_in 856 (by decide +kernel) (by decide +kernel)
theorem mw_830 : Cond.instanceMethod ({ cls := "TextDeskModel", name := "utf", desc := "(I)V" } : MethodName) ∈ dk_all := dk_in 858 (by decide +kernel) (by decide +kernel)
theorem mw_831 : Cond.code ({ cls := "TextDeskModel", name := "utf", desc := "(I)V" } : MethodName) prog_11_method_34_code (2 : Nat) (Option.none : Option Jvm.ClassFile.FieldType) ∈ dk_all := dk_in 859 (by decide +kernel) (by decide +kernel)
theorem mw_832 : Cond.methodLink "TextDeskModel" (102 : Nat) ({ cls := "TextDeskModel", name := "put", desc := "(I)V" } : MethodName) ∈ dk_all := dk_in 860 (by decide +kernel) (by decide +kernel)
theorem mw_834 : Cond.instanceMethod ({ cls := "TextDeskModel", name := "put", desc := "(I)V" } : MethodName) ∈ dk_all := dk_in 862 (by decide +kernel) (by decide +kernel)
theorem mw_835 : Cond.code ({ cls := "TextDeskModel", name := "put", desc := "(I)V" } : MethodName) prog_11_method_33_code (2 : Nat) (Option.none : Option Jvm.ClassFile.FieldType) ∈ dk_all := dk_in 863 (by decide +kernel) (by decide +kernel)
theorem mw_836 : Cond.constant "TextDeskModel" (105 : Nat) (262144 : Int32) ∈ dk_all := dk_in 864 (by decide +kernel) (by decide +kernel)
theorem mw_837 : Cond.methodLink "TextDeskModel" (109 : Nat) ({ cls := "TextDeskModel", name := "modified", desc := "(I)V" } : MethodName) ∈ dk_all := dk_in 865 (by decide +kernel) (by decide +kernel)
theorem mw_839 : Cond.instanceMethod ({ cls := "TextDeskModel", name := "modified", desc := "(I)V" } : MethodName) ∈ dk_all := dk_in 867 (by decide +kernel) (by decide +kernel)
theorem mw_840 : Cond.code ({ cls := "TextDeskModel", name := "modified", desc := "(I)V" } : MethodName) prog_11_method_36_code (2 : Nat) (Option.none : Option Jvm.ClassFile.FieldType) ∈ dk_all := dk_in 868 (by decide +kernel) (by decide +kernel)
theorem mw_841 : Cond.methodLink "TextDeskLaw" (157 : Nat) ({ cls := "TextDeskModel", name := "type", desc := "(I)I" } : MethodName) ∈ dk_all := dk_in 869 (by decide +kernel) (by decide +kernel)
theorem mw_842 : Cond.instanceMethod ({ cls := "TextDeskModel", name := "type", desc := "(I)I" } : MethodName) ∈ dk_all := dk_in 870 (by decide +kernel) (by decide +kernel)
theorem mw_843 : Cond.selects "TextDeskModel" ({ cls := "TextDeskModel", name := "type", desc := "(I)I" } : MethodName) ({ cls := "TextDeskModel", name := "type", desc := "(I)I" } : MethodName) ∈ dk_all := dk_in 871 (by decide +kernel) (by decide +kernel)
theorem mw_844 : Cond.code ({ cls := "TextDeskModel", name := "type", desc := "(I)I" } : MethodName) prog_11_method_38_code (2 : Nat) (Option.some FieldType.int) ∈ dk_all := dk_in 872 (by decide +kernel) (by decide +kernel)
theorem mw_845 : Cond.methodLink "TextDeskLaw" (161 : Nat) ({ cls := "TextDeskModel", name := "decode", desc := "(IZ)I" } : MethodName) ∈ dk_all := dk_in 873 (by decide +kernel) (by decide +kernel)
theorem mw_846 : Cond.instanceMethod ({ cls := "TextDeskModel", name := "decode", desc := "(IZ)I" } : MethodName) ∈ dk_all := dk_in 874 (by decide +kernel) (by decide +kernel)
theorem mw_847 : Cond.selects "TextDeskModel" ({ cls := "TextDeskModel", name := "decode", desc := "(IZ)I" } : MethodName) ({ cls := "TextDeskModel", name := "decode", desc := "(IZ)I" } : MethodName) ∈ dk_all := dk_in 875 (by decide +kernel) (by decide +kernel)
theorem mw_848 : Cond.code ({ cls := "TextDeskModel", name := "decode", desc := "(IZ)I" } : MethodName) prog_11_method_44_code (6 : Nat) (Option.some FieldType.int) ∈ dk_all := dk_in 876 (by decide +kernel) (by decide +kernel)
theorem mw_849 : Cond.methodLink "TextDeskModel" (135 : Nat) ({ cls := "TextDeskModel", name := "readAt", desc := "(II)I" } : MethodName) ∈ dk_all := dk_in 877 (by decide +kernel) (by decide +kernel)
theorem mw_851 : Cond.instanceMethod ({ cls := "TextDeskModel", name := "readAt", desc := "(II)I" } : MethodName) ∈ dk_all := dk_in 879 (by decide +kernel) (by decide +kernel)
theorem mw_852 : Cond.code ({ cls := "TextDeskModel", name := "readAt", desc := "(II)I" } : MethodName) prog_11_method_43_code (8 : Nat) (Option.some FieldType.int) ∈ dk_all := dk_in 880 (by decide +kernel) (by decide +kernel)
theorem mw_853 : Cond.methodLink "TextDeskModel" (131 : Nat) ({ cls := "TextDeskModel", name := "begun", desc := "(IIZ)I" } : MethodName) ∈ dk_all := dk_in 881 (by decide +kernel) (by decide +kernel)
theorem mw_855 : Cond.instanceMethod ({ cls := "TextDeskModel", name := "begun", desc := "(IIZ)I" } : MethodName) ∈ dk_all := dk_in 883 (by decide +kernel) (by decide +kernel)
theorem mw_856 : Cond.code ({ cls := "TextDeskModel", name := "begun", desc := "(IIZ)I" } : MethodName) prog_11_method_42_code (8 : Nat) (Option.some FieldType.int) ∈ dk_all := dk_in 884 (by decide +kernel) (by decide +kernel)
theorem mw_857 : Cond.methodLink "TextDeskModel" (121 : Nat) ({ cls := "TextDeskModel", name := "guess", desc := "(III)I" } : MethodName) ∈ dk_all := dk_in 885 (by decide +kernel) (by decide +kernel)
theorem mw_859 : Cond.instanceMethod ({ cls := "TextDeskModel", name := "guess", desc := "(III)I" } : MethodName) ∈ dk_all := dk_in 887 (by decide +kernel) (by decide +kernel)
theorem mw_860 : Cond.code ({ cls := "TextDeskModel", name := "guess", desc := "(III)I" } : MethodName) prog_11_method_40_code (8 : Nat) (Option.some FieldType.int) ∈ dk_all := dk_in 888 (by decide +kernel) (by decide +kernel)
theorem mw_861 : Cond.methodLink "TextDeskModel" (124 : Nat) ({ cls := "TextDeskModel", name := "may", desc := "(IIZ)Z" } : MethodName) ∈ dk_all := dk_in 889 (by decide +kernel) (by decide +kernel)
theorem mw_862 : Cond.static ({ cls := "TextDeskModel", name := "may", desc := "(IIZ)Z" } : MethodName) ∈ dk_all := dk_in 890 (by decide +kernel) (by decide +kernel)
theorem mw_863 : Cond.code ({ cls := "TextDeskModel", name := "may", desc := "(IIZ)Z" } : MethodName) prog_11_method_41_code (5 : Nat) (Option.some FieldType.boolean) ∈ dk_all := dk_in 891 (by decide +kernel) (by decide +kernel)
theorem mw_864 : Cond.constant "TextDeskModel" (119 : Nat) (65535 : Int32) ∈ dk_all := dk_in 892 (by decide +kernel) (by decide +kernel)
theorem mw_865 : Cond.constant "TextDeskModel" (120 : Nat) (1114111 : Int32) ∈ dk_all := dk_in 893 (by decide +kernel) (by decide +kernel)
theorem mw_866 : Cond.methodLink "TextDeskModel" (128 : Nat) ({ cls := "TextDeskModel", name := "agree", desc := "(I)I" } : MethodName) ∈ dk_all := dk_in 894 (by decide +kernel) (by decide +kernel)
theorem mw_868 : Cond.instanceMethod ({ cls := "TextDeskModel", name := "agree", desc := "(I)I" } : MethodName) ∈ dk_all := dk_in 896 (by decide +kernel) (by decide +kernel)
theorem mw_869 : Cond.code ({ cls := "TextDeskModel", name := "agree", desc := "(I)I" } : MethodName) prog_11_method_39_code (3 : Nat) (Option.some FieldType.int) ∈ dk_all := dk_in 897 (by decide +kernel) (by decide +kernel)
theorem mw_870 : Cond.constant "TextDeskModel" (138 : Nat) (65533 : Int32) ∈ dk_all := dk_in 898 (by decide +kernel) (by decide +kernel)
theorem mw_871 : Cond.methodLink "TextDeskLaw" (164 : Nat) ({ cls := "TextDeskModel", name := "octet", desc := "(I)I" } : MethodName) ∈ dk_all := dk_in 899 (by decide +kernel) (by decide +kernel)
theorem mw_872 : Cond.instanceMethod ({ cls := "TextDeskModel", name := "octet", desc := "(I)I" } : MethodName) ∈ dk_all := dk_in 900 (by decide +kernel) (by decide +kernel)
theorem mw_873 : Cond.selects "TextDeskModel" ({ cls := "TextDeskModel", name := "octet", desc := "(I)I" } : MethodName) ({ cls := "TextDeskModel", name := "octet", desc := "(I)I" } : MethodName) ∈ dk_all := dk_in 901 (by decide +kernel) (by decide +kernel)
theorem mw_874 : Cond.code ({ cls := "TextDeskModel", name := "octet", desc := "(I)I" } : MethodName) prog_11_method_45_code (2 : Nat) (Option.some FieldType.int) ∈ dk_all := dk_in 902 (by decide +kernel) (by decide +kernel)
theorem mw_875 : Cond.methodLink "TextDeskLaw" (168 : Nat) ({ cls := "TextDeskModel", name := "clear", desc := "()V" } : MethodName) ∈ dk_all := dk_in 903 (by decide +kernel) (by decide +kernel)
theorem mw_876 : Cond.instanceMethod ({ cls := "TextDeskModel", name := "clear", desc := "()V" } : MethodName) ∈ dk_all := dk_in 904 (by decide +kernel) (by decide +kernel)
theorem mw_877 : Cond.selects "TextDeskModel" ({ cls := "TextDeskModel", name := "clear", desc := "()V" } : MethodName) ({ cls := "TextDeskModel", name := "clear", desc := "()V" } : MethodName) ∈ dk_all := dk_in 905 (by decide +kernel) (by decide +kernel)
theorem mw_878 : Cond.code ({ cls := "TextDeskModel", name := "clear", desc := "()V" } : MethodName) prog_11_method_46_code (1 : Nat) (Option.none : Option Jvm.ClassFile.FieldType) ∈ dk_all := dk_in 906 (by decide +kernel) (by decide +kernel)
theorem mw_879 : Cond.arrayClass FieldType.long ∈ dk_all := dk_in 907 (by decide +kernel) (by decide +kernel)
theorem mw_880 : Cond.selects "TextDesk$Row" ({ cls := "TextDesk$Row", name := "get", desc := "(I)I" } : MethodName) ({ cls := "TextDesk$Row", name := "get", desc := "(I)I" } : MethodName) ∈ dk_all := dk_in 908 (by decide +kernel) (by decide +kernel)
theorem mw_881 : Cond.sameMethod "java/lang/Throwable" "java/lang/Throwable" "fillInStackTrace" "(I)Ljava/lang/Throwable;" ∈ dk_all := dk_in 909 (by decide +kernel) (by decide +kernel)
theorem mw_882 : Cond.sameMethod "TextDesk$Text" "TextDesk$Text" "size" "()I" ∈ dk_all := dk_in 910 (by decide +kernel) (by decide +kernel)
theorem mw_883 : Cond.selects "TextDesk$JoinedText" ({ cls := "TextDesk$Text", name := "size", desc := "()I" } : MethodName) ({ cls := "TextDesk$Text", name := "size", desc := "()I" } : MethodName) ∈ dk_all := dk_in 911 (by decide +kernel) (by decide +kernel)
theorem mw_884 : Cond.selects "TextDesk$NarrowText" ({ cls := "TextDesk$Text", name := "size", desc := "()I" } : MethodName) ({ cls := "TextDesk$Text", name := "size", desc := "()I" } : MethodName) ∈ dk_all := dk_in 912 (by decide +kernel) (by decide +kernel)
theorem mw_885 : Cond.selects "TextDesk$WideText" ({ cls := "TextDesk$Text", name := "size", desc := "()I" } : MethodName) ({ cls := "TextDesk$Text", name := "size", desc := "()I" } : MethodName) ∈ dk_all := dk_in 913 (by decide +kernel) (by decide +kernel)
theorem ms_0 : Cond.selects "TextDesk" (⟨"TextDesk", "makeDraftTheBuilder", "()V"⟩ : MethodName) (⟨"TextDesk", "makeDraftTheBuilder", "()V"⟩ : MethodName) ∈ dk_all := dk_in 0 (by decide +kernel) (by decide +kernel)
theorem ms_1 : Cond.selects "java/lang/Throwable" (⟨"java/lang/Throwable", "fillInStackTrace", "(I)Ljava/lang/Throwable;"⟩ : MethodName) (⟨"java/lang/Throwable", "fillInStackTrace", "(I)Ljava/lang/Throwable;"⟩ : MethodName) ∈ dk_all := dk_in 1 (by decide +kernel) (by decide +kernel)
theorem ms_2 : Cond.selects "TextDesk" (⟨"TextDesk", "textNumbered", "(I)LTextDesk$Text;"⟩ : MethodName) (⟨"TextDesk", "textNumbered", "(I)LTextDesk$Text;"⟩ : MethodName) ∈ dk_all := dk_in 2 (by decide +kernel) (by decide +kernel)
theorem ms_3 : Cond.selects "TextDesk" (⟨"TextDesk", "refuseSpilledDraft", "()V"⟩ : MethodName) (⟨"TextDesk", "refuseSpilledDraft", "()V"⟩ : MethodName) ∈ dk_all := dk_in 3 (by decide +kernel) (by decide +kernel)
theorem ms_4 : Cond.selects "TextDesk" (⟨"TextDesk", "keepText", "(LTextDesk$Text;)I"⟩ : MethodName) (⟨"TextDesk", "keepText", "(LTextDesk$Text;)I"⟩ : MethodName) ∈ dk_all := dk_in 4 (by decide +kernel) (by decide +kernel)
theorem ms_5 : Cond.selects "TextDesk" (⟨"TextDesk", "keepRange", "(LTextDesk$Text;II)I"⟩ : MethodName) (⟨"TextDesk", "keepRange", "(LTextDesk$Text;II)I"⟩ : MethodName) ∈ dk_all := dk_in 5 (by decide +kernel) (by decide +kernel)
theorem ms_6 : Cond.selects "TextDesk$Decoder" (⟨"TextDesk$Decoder", "readRow", "(LTextDesk$Row;II)V"⟩ : MethodName) (⟨"TextDesk$Decoder", "readRow", "(LTextDesk$Row;II)V"⟩ : MethodName) ∈ dk_all := dk_in 6 (by decide +kernel) (by decide +kernel)
theorem ms_7 : Cond.selects "TextDesk$Decoder" (⟨"TextDesk$Decoder", "readPrefixed", "(LTextDesk$Row;IIZ)V"⟩ : MethodName) (⟨"TextDesk$Decoder", "readPrefixed", "(LTextDesk$Row;IIZ)V"⟩ : MethodName) ∈ dk_all := dk_in 7 (by decide +kernel) (by decide +kernel)
theorem ms_8 : Cond.selects "TextDesk$Decoder" (⟨"TextDesk$Decoder", "setRow", "(II)V"⟩ : MethodName) (⟨"TextDesk$Decoder", "setRow", "(II)V"⟩ : MethodName) ∈ dk_all := dk_in 8 (by decide +kernel) (by decide +kernel)
theorem ms_9 : Cond.selects "TextDesk$Decoder" (⟨"TextDesk$Decoder", "readTwo", "(II)V"⟩ : MethodName) (⟨"TextDesk$Decoder", "readTwo", "(II)V"⟩ : MethodName) ∈ dk_all := dk_in 9 (by decide +kernel) (by decide +kernel)
theorem ms_10 : Cond.selects "TextDeskModel" (⟨"TextDeskModel", "isText", "(I)Z"⟩ : MethodName) (⟨"TextDeskModel", "isText", "(I)Z"⟩ : MethodName) ∈ dk_all := dk_in 10 (by decide +kernel) (by decide +kernel)
theorem ms_11 : Cond.selects "TextDeskModel" (⟨"TextDeskModel", "make", "(I)V"⟩ : MethodName) (⟨"TextDeskModel", "make", "(I)V"⟩ : MethodName) ∈ dk_all := dk_in 11 (by decide +kernel) (by decide +kernel)
theorem ms_12 : Cond.selects "TextDeskModel" (⟨"TextDeskModel", "makePart", "(III)V"⟩ : MethodName) (⟨"TextDeskModel", "makePart", "(III)V"⟩ : MethodName) ∈ dk_all := dk_in 12 (by decide +kernel) (by decide +kernel)
theorem ms_13 : Cond.selects "TextDeskModel" (⟨"TextDeskModel", "unitOf", "(II)I"⟩ : MethodName) (⟨"TextDeskModel", "unitOf", "(II)I"⟩ : MethodName) ∈ dk_all := dk_in 13 (by decide +kernel) (by decide +kernel)
theorem ms_14 : Cond.selects "TextDeskModel" (⟨"TextDeskModel", "addMade", "()I"⟩ : MethodName) (⟨"TextDeskModel", "addMade", "()I"⟩ : MethodName) ∈ dk_all := dk_in 14 (by decide +kernel) (by decide +kernel)
theorem ms_15 : Cond.selects "TextDeskModel" (⟨"TextDeskModel", "stands", "(III)Z"⟩ : MethodName) (⟨"TextDeskModel", "stands", "(III)Z"⟩ : MethodName) ∈ dk_all := dk_in 15 (by decide +kernel) (by decide +kernel)
theorem ms_16 : Cond.selects "TextDeskModel" (⟨"TextDeskModel", "fail", "(I)I"⟩ : MethodName) (⟨"TextDeskModel", "fail", "(I)I"⟩ : MethodName) ∈ dk_all := dk_in 16 (by decide +kernel) (by decide +kernel)
theorem ms_17 : Cond.selects "TextDeskModel" (⟨"TextDeskModel", "pair", "(II)Z"⟩ : MethodName) (⟨"TextDeskModel", "pair", "(II)Z"⟩ : MethodName) ∈ dk_all := dk_in 17 (by decide +kernel) (by decide +kernel)
theorem ms_18 : Cond.selects "TextDeskModel" (⟨"TextDeskModel", "characterAt", "(II)I"⟩ : MethodName) (⟨"TextDeskModel", "characterAt", "(II)I"⟩ : MethodName) ∈ dk_all := dk_in 18 (by decide +kernel) (by decide +kernel)
theorem ms_19 : Cond.selects "TextDeskModel" (⟨"TextDeskModel", "difference", "(II)I"⟩ : MethodName) (⟨"TextDeskModel", "difference", "(II)I"⟩ : MethodName) ∈ dk_all := dk_in 19 (by decide +kernel) (by decide +kernel)
theorem ms_20 : Cond.selects "TextDeskModel" (⟨"TextDeskModel", "encodeAt", "(III)I"⟩ : MethodName) (⟨"TextDeskModel", "encodeAt", "(III)I"⟩ : MethodName) ∈ dk_all := dk_in 20 (by decide +kernel) (by decide +kernel)
theorem ms_21 : Cond.selects "TextDeskModel" (⟨"TextDeskModel", "utf", "(I)V"⟩ : MethodName) (⟨"TextDeskModel", "utf", "(I)V"⟩ : MethodName) ∈ dk_all := dk_in 21 (by decide +kernel) (by decide +kernel)
theorem ms_22 : Cond.selects "TextDeskModel" (⟨"TextDeskModel", "put", "(I)V"⟩ : MethodName) (⟨"TextDeskModel", "put", "(I)V"⟩ : MethodName) ∈ dk_all := dk_in 22 (by decide +kernel) (by decide +kernel)
theorem ms_23 : Cond.selects "TextDeskModel" (⟨"TextDeskModel", "modified", "(I)V"⟩ : MethodName) (⟨"TextDeskModel", "modified", "(I)V"⟩ : MethodName) ∈ dk_all := dk_in 23 (by decide +kernel) (by decide +kernel)
theorem ms_24 : Cond.selects "TextDeskModel" (⟨"TextDeskModel", "readAt", "(II)I"⟩ : MethodName) (⟨"TextDeskModel", "readAt", "(II)I"⟩ : MethodName) ∈ dk_all := dk_in 24 (by decide +kernel) (by decide +kernel)
theorem ms_25 : Cond.selects "TextDeskModel" (⟨"TextDeskModel", "begun", "(IIZ)I"⟩ : MethodName) (⟨"TextDeskModel", "begun", "(IIZ)I"⟩ : MethodName) ∈ dk_all := dk_in 25 (by decide +kernel) (by decide +kernel)
theorem ms_26 : Cond.selects "TextDeskModel" (⟨"TextDeskModel", "guess", "(III)I"⟩ : MethodName) (⟨"TextDeskModel", "guess", "(III)I"⟩ : MethodName) ∈ dk_all := dk_in 26 (by decide +kernel) (by decide +kernel)
theorem ms_27 : Cond.selects "TextDeskModel" (⟨"TextDeskModel", "agree", "(I)I"⟩ : MethodName) (⟨"TextDeskModel", "agree", "(I)I"⟩ : MethodName) ∈ dk_all := dk_in 27 (by decide +kernel) (by decide +kernel)
theorem i_DC : ∀ w ∈ u_ws "TextDesk$Decoder" F_DC 2, w ∈ dk_all := fun w hw => (show ∀ w ∈ [Cond.lays "TextDesk$Decoder" "TextDesk$Decoder" "code" "I", Cond.lays "TextDesk$Decoder" "TextDesk$Decoder" "width" "I"], w ∈ dk_all from List.forall_mem_cons.mpr ⟨mw_60, List.forall_mem_cons.mpr ⟨mw_62, fun _ h => absurd h List.not_mem_nil⟩⟩) w hw
theorem i_NT : ∀ w ∈ u_ws "TextDesk$NarrowText" F_NT 3, w ∈ dk_all := fun w hw => (show ∀ w ∈ [Cond.laysFinal "TextDesk$NarrowText" "TextDesk$Text" "size" "I", Cond.laysFinal "TextDesk$NarrowText" "TextDesk$Text" "isNarrow" "Z", Cond.laysFinal "TextDesk$NarrowText" "TextDesk$NarrowText" "units" "[B"], w ∈ dk_all from List.forall_mem_cons.mpr ⟨mw_192, List.forall_mem_cons.mpr ⟨mw_193, List.forall_mem_cons.mpr ⟨mw_190, fun _ h => absurd h List.not_mem_nil⟩⟩⟩) w hw
theorem i_WT : ∀ w ∈ u_ws "TextDesk$WideText" F_WT 3, w ∈ dk_all := fun w hw => (show ∀ w ∈ [Cond.laysFinal "TextDesk$WideText" "TextDesk$Text" "size" "I", Cond.laysFinal "TextDesk$WideText" "TextDesk$Text" "isNarrow" "Z", Cond.laysFinal "TextDesk$WideText" "TextDesk$WideText" "units" "[C"], w ∈ dk_all from List.forall_mem_cons.mpr ⟨mw_175, List.forall_mem_cons.mpr ⟨mw_177, List.forall_mem_cons.mpr ⟨mw_173, fun _ h => absurd h List.not_mem_nil⟩⟩⟩) w hw
theorem i_JT : ∀ w ∈ u_ws "TextDesk$JoinedText" F_JT 5, w ∈ dk_all := fun w hw => (show ∀ w ∈ [Cond.laysFinal "TextDesk$JoinedText" "TextDesk$Text" "size" "I", Cond.laysFinal "TextDesk$JoinedText" "TextDesk$Text" "isNarrow" "Z", Cond.laysFinal "TextDesk$JoinedText" "TextDesk$JoinedText" "left" "LTextDesk$Text;", Cond.laysFinal "TextDesk$JoinedText" "TextDesk$JoinedText" "right" "LTextDesk$Text;", Cond.lays "TextDesk$JoinedText" "TextDesk$JoinedText" "flat" "LTextDesk$Text;"], w ∈ dk_all from List.forall_mem_cons.mpr ⟨mw_430, List.forall_mem_cons.mpr ⟨mw_431, List.forall_mem_cons.mpr ⟨mw_424, List.forall_mem_cons.mpr ⟨mw_426, List.forall_mem_cons.mpr ⟨mw_428, fun _ h => absurd h List.not_mem_nil⟩⟩⟩⟩⟩) w hw
theorem i_RW : ∀ w ∈ u_ws "TextDesk$Row" F_RW 3, w ∈ dk_all := fun w hw => (show ∀ w ∈ [Cond.laysFinal "TextDesk$Row" "TextDesk$Row" "items" "[I", Cond.lays "TextDesk$Row" "TextDesk$Row" "size" "I", Cond.lays "TextDesk$Row" "TextDesk$Row" "spilled" "Z"], w ∈ dk_all from List.forall_mem_cons.mpr ⟨mw_44, List.forall_mem_cons.mpr ⟨mw_46, List.forall_mem_cons.mpr ⟨mw_48, fun _ h => absurd h List.not_mem_nil⟩⟩⟩) w hw
theorem i_DK : ∀ w ∈ u_ws "TextDesk" F_DK 8, w ∈ dk_all := fun w hw => (show ∀ w ∈ [Cond.laysFinal "TextDesk" "TextDesk" "texts" "[LTextDesk$Text;", Cond.lays "TextDesk" "TextDesk" "textCount" "I", Cond.laysFinal "TextDesk" "TextDesk" "symbols" "[LTextDesk$Text;", Cond.lays "TextDesk" "TextDesk" "symbolCount" "I", Cond.laysFinal "TextDesk" "TextDesk" "bytes" "LTextDesk$Row;", Cond.laysFinal "TextDesk" "TextDesk" "decoder" "LTextDesk$Decoder;", Cond.lays "TextDesk" "TextDesk" "builder" "LTextDesk$Row;", Cond.lays "TextDesk" "TextDesk" "draft" "LTextDesk$Row;"], w ∈ dk_all from List.forall_mem_cons.mpr ⟨mw_73, List.forall_mem_cons.mpr ⟨mw_75, List.forall_mem_cons.mpr ⟨mw_77, List.forall_mem_cons.mpr ⟨mw_79, List.forall_mem_cons.mpr ⟨mw_81, List.forall_mem_cons.mpr ⟨mw_83, List.forall_mem_cons.mpr ⟨mw_85, List.forall_mem_cons.mpr ⟨mw_87, fun _ h => absurd h List.not_mem_nil⟩⟩⟩⟩⟩⟩⟩⟩) w hw
theorem i_MD : ∀ w ∈ u_ws "TextDeskModel" F_MD 14, w ∈ dk_all := fun w hw => (show ∀ w ∈ [Cond.lays "TextDeskModel" "TextDeskModel" "thrown" "I", Cond.lays "TextDeskModel" "TextDeskModel" "count" "I", Cond.laysFinal "TextDeskModel" "TextDeskModel" "size" "[I", Cond.laysFinal "TextDeskModel" "TextDeskModel" "units" "[I", Cond.lays "TextDeskModel" "TextDeskModel" "builtSize" "I", Cond.laysFinal "TextDeskModel" "TextDeskModel" "builder" "[I", Cond.lays "TextDeskModel" "TextDeskModel" "madeSize" "I", Cond.laysFinal "TextDeskModel" "TextDeskModel" "made" "[I", Cond.lays "TextDeskModel" "TextDeskModel" "byteCount" "I", Cond.laysFinal "TextDeskModel" "TextDeskModel" "bytes" "[I", Cond.lays "TextDeskModel" "TextDeskModel" "symbols" "I", Cond.laysFinal "TextDeskModel" "TextDeskModel" "symbolOf" "[I", Cond.lays "TextDeskModel" "TextDeskModel" "codeSize" "I", Cond.laysFinal "TextDeskModel" "TextDeskModel" "code" "[I"], w ∈ dk_all from List.forall_mem_cons.mpr ⟨mw_665, List.forall_mem_cons.mpr ⟨mw_667, List.forall_mem_cons.mpr ⟨mw_669, List.forall_mem_cons.mpr ⟨mw_671, List.forall_mem_cons.mpr ⟨mw_673, List.forall_mem_cons.mpr ⟨mw_675, List.forall_mem_cons.mpr ⟨mw_677, List.forall_mem_cons.mpr ⟨mw_679, List.forall_mem_cons.mpr ⟨mw_681, List.forall_mem_cons.mpr ⟨mw_683, List.forall_mem_cons.mpr ⟨mw_685, List.forall_mem_cons.mpr ⟨mw_687, List.forall_mem_cons.mpr ⟨mw_689, List.forall_mem_cons.mpr ⟨mw_691, fun _ h => absurd h List.not_mem_nil⟩⟩⟩⟩⟩⟩⟩⟩⟩⟩⟩⟩⟩⟩) w hw
end
section
def dk_strs : List (String × Nat × String) := [("TextDesk", 43, "no unit"), ("TextDesk", 54, "the builder is full"), ("TextDesk", 176, "no such text"), ("TextDesk", 68, "no such place"), ("TextDesk", 183, "there would be too many units"), ("TextDesk", 185, "no such range"), ("TextDesk", 193, "there is nothing at this place"), ("TextDesk", 178, "there is no room for a text"), ("TextDesk", 108, "the text would be too long"), ("TextDesk", 128, "no such character"), ("TextDesk", 149, "the table of symbols is full"), ("TextDesk", 187, "no such encoding"), ("TextDesk", 160, "no byte"), ("TextDesk", 162, "there is no room for a byte"), ("TextDesk", 170, "there is a bad row of bytes")]
def dk_nst : List (String × Nat × MethodName × String) := [("TextDesk$Row", 3, ⟨"TextDesk$Sequence", "<init>", "()V"⟩, "TextDesk"), ("TextDesk", 29, ⟨"TextDesk$Decoder", "<init>", "()V"⟩, "TextDesk"), ("TextDesk$JoinedText", 37, ⟨"TextDesk", "textOf", "(LTextDesk$Row;)LTextDesk$Text;"⟩, "TextDesk"), ("TextDesk$Text", 1, ⟨"TextDesk$Sequence", "<init>", "()V"⟩, "TextDesk"), ("TextDesk$Encoder", 15, ⟨"TextDesk", "characterAt", "(LTextDesk$Sequence;I)I"⟩, "TextDesk"), ("TextDesk$Encoder", 30, ⟨"TextDesk", "isHigh", "(I)Z"⟩, "TextDesk"), ("TextDesk$Encoder", 34, ⟨"TextDesk", "isLow", "(I)Z"⟩, "TextDesk")]
def dk_dcl : List MethodName := [⟨"TextDesk$Sequence", "get", "(I)I"⟩, ⟨"TextDesk$Text", "size", "()I"⟩, ⟨"TextDesk$Sequence", "size", "()I"⟩, ⟨"java/lang/RuntimeException", "<init>", "()V"⟩, ⟨"java/lang/RuntimeException", "<init>", "(Ljava/lang/String;)V"⟩, ⟨"java/lang/Exception", "<init>", "()V"⟩, ⟨"java/lang/Exception", "<init>", "(Ljava/lang/String;)V"⟩, ⟨"java/lang/Throwable", "<init>", "()V"⟩, ⟨"java/lang/Throwable", "<init>", "(Ljava/lang/String;)V"⟩]
def dk_cst : List (String × String) := [("java/lang/IllegalArgumentException", "java/lang/IllegalArgumentException"), ("java/lang/IllegalStateException", "java/lang/IllegalStateException"), ("java/lang/IndexOutOfBoundsException", "java/lang/IndexOutOfBoundsException"), ("java/lang/UnsupportedOperationException", "java/lang/UnsupportedOperationException"), ("TextDesk$JoinedText", "TextDesk$Text"), ("TextDesk$NarrowText", "TextDesk$Text"), ("TextDesk$WideText", "TextDesk$Text")]
def dk_aos : List String := ["TextDesk$Text"]
/-! CONTRACTS over maps. G = (the classes' numbers and slots, the array classes, z0): cells below z0 are older than the law's run and never written. -/
abbrev ct_G : Type := va_G × (Nat → ClassId) × Nat
/-- the array classes: int, byte, char, Text, long -/
abbrev dk_tys (G : ct_G) : List (ClassId × FieldType) := [(G.2.1 0, .int), (G.2.1 1, .byte), (G.2.1 2, .char), (G.2.1 3, .object "TextDesk$Text"), (G.2.1 4, .long)]
/-- what a walk needs beside its words -/
def ct_E (G : ct_G) (U : State) : Prop :=
  va_K G.1 dk_cl (dk_tys G) U ∧ (vx_Zq Bundle.tN "UNASSIGNED_STACK" Bundle.steD (fun q => G.2.2 ≤ q) U U.heap ∧ vx_Zq Bundle.tN "SUPPRESSED_SENTINEL" Bundle.listD (fun q => G.2.2 ≤ q) U U.heap) ∧ (∀ q ∈ dk_strs, ∃ a : Nat, vk_R q.1 q.2.1 q.2.2 a U) ∧ (∀ q ∈ dk_nst, va_Nw (.methodLinkNest q.1 q.2.1 q.2.2.1 q.2.2.2) U) ∧ (∀ x ∈ dk_dcl, va_Nw (.declares x) U) ∧ (∀ q ∈ dk_cst, va_Nw (.castable q.1 q.2) U) ∧ ∀ C ∈ dk_aos, va_AO C U
/-- what a method's own start says of the kind A of the cells it may write -/
def ct_z (G : ct_G) (A : Nat → Prop) (s : State) : Prop := (∀ q, A q → G.2.2 ≤ q) ∧ G.2.2 ≤ s.heap.size
theorem ct_E.same {G : ct_G} {s U : State} (h : ct_E G s) (hv : s.vm = U.vm) (hh : U.heap = s.heap) : ct_E G U := by
  obtain ⟨h1, ⟨h2, h3⟩, h4, h5, h6, h7, h8⟩ := h
  have ha : s.vm.Alike U.vm := by rw [hv]; exact Vm.Alike.refl _
  refine ⟨h1.moved ha, ⟨by rw [hh]; exact h2.moved ha, by rw [hh]; exact h3.moved ha⟩, fun q hq => ?_, fun q hq => (h5 q hq).same rfl hv, fun x hx => (h6 x hx).same rfl hv, fun q hq => (h7 q hq).same rfl hv, fun C hC => (h8 C hC).moved ha⟩
  obtain ⟨a, e⟩ := h4 q hq
  exact ⟨a, e.same hv.symm⟩
theorem ct_E.at {G : ct_G} {s U : State} {A : Nat → Prop} {H : Heap} {locs : List Loc} (h : ct_E G s) (hz : ct_z G A s) (hS : va_S A s.heap H locs) (hU : U.heap = H) (hW : s.WarmedH U.vm) : ct_E G U := by
  obtain ⟨h1, ⟨h2, h3⟩, h4, h5, h6, h7, h8⟩ := h
  have hk : ∀ a : Nat, a < s.heap.size → ¬ G.2.2 ≤ a → U.heap[a]? = s.heap[a]? := fun a h9 n9 => by
    rw [hU]
    exact hS.2.1 a h9 (fun q => n9 (hz.1 a q))
  refine ⟨h1.moved hW.alike, ⟨(h2.kept hk).moved hW.alike, (h3.kept hk).moved hW.alike⟩, fun q hq => ?_, fun q hq => (h5 q hq).warmM hW, fun x hx => (h6 x hx).warmD hW, fun q hq => (h7 q hq).warmC hW, fun C hC => (h8 C hC).moved hW.alike⟩
  obtain ⟨a, e⟩ := h4 q hq
  exact ⟨a, e.warm hW⟩
def ct_P (G : ct_G) (f : dw_M) (sz : Nat) (av : List Value) : Array Value → State → Prop := fun v U =>
  v = av.toArray ∧ U.heap.size = sz ∧ ct_E G U ∧ (∀ (a : Nat) (x : va_E), f a = some x → va_at G.1 dk_cl (a, x) U.heap ∧ G.2.2 ≤ a) ∧ G.2.2 ≤ sz
def ct_Q (G : ct_G) (f : dw_M) (sz : Nat) (post : Option Value → dw_M → Prop) : Array Value → State → Outcome → State → Prop := fun _ st oc t =>
  ∃ (v : Option Value) (f' : dw_M), oc = .returned v ∧ post v f' ∧ (∀ (a : Nat) (x : va_E), f' a = some x → va_at G.1 dk_cl (a, x) t.heap ∧ dw_A f sz a) ∧ va_F (dw_A f sz) st t
def ct_X (G : ct_G) (f : dw_M) (sz : Nat) (px : String → dw_M → Prop) : String → State → State → Prop := fun E st t =>
  ∃ f' : dw_M, px E f' ∧ (∀ (a : Nat) (x : va_E), f' a = some x → va_at G.1 dk_cl (a, x) t.heap ∧ dw_A f sz a) ∧ va_F (dw_A f sz) st t
/-- THE CONTRACT: from the map f and the arguments av the method returns with 'post answer map', or throws E with 'px E map'; at most mc cells of ms slots are new -/
def ct (l : Launch) (y : MethodName) (ws : List Cond) (fr lo : Nat) (G : ct_G) (f : dw_M) (sz : Nat) (av : List Value) (post : Option Value → dw_M → Prop) (px : String → dw_M → Prop) (mc ms : Nat) : Prop :=
  vx_Met l y ws { frames := fr, locals := lo, cells := mc, slots := ms } (ct_P G f sz av) (ct_Q G f sz post) (ct_X G f sz px) mc ms (dw_A f sz)
def ct_no : String → dw_M → Prop := fun _ _ => False
theorem ct_blind (G : ct_G) (f : dw_M) (sz : Nat) (av : List Value) : FrameBlind (ct_P G f sz av) := fun a U g mk h => ⟨h.1, h.2.1, h.2.2.1.same (U := U.calling g mk a) rfl rfl, h.2.2.2⟩
theorem ct_pre {G : ct_G} {s : State} {A : Nat → Prop} {f : dw_M} {H : Heap} {locs : List Loc} (av : List Value) (hE : ct_E G s) (hz : ct_z G A s) (hw : dw G.1 dk_cl A s.heap f H locs) : ∀ U : State, U.heap = H → s.WarmedH U.vm → ct_P G f H.size av av.toArray U := fun U hU hW =>
  ⟨rfl, by rw [hU], hE.at hz hw.2.1 hU hW, fun a x h => ⟨by rw [hU]; exact (hw.1 a x h).1, hz.1 a (hw.1 a x h).2⟩, Nat.le_trans hz.2 hw.2.1.1⟩
section CTR
variable {p : Program} {l : Launch} {e : Env} {R : Room} {s : State} {m : MethodId} {args : Array Value} {below : List Frame} {meth : Method} {c : Code} {H : Heap} {locs : List Loc} {cells slots : Nat} {Q : State → Prop}
variable {cc : ByteArray} {pc : Nat} {ls : Array Slot} {rest st0 : List Value} {G : ct_G} {A : Nat → Prop} {H0 : Heap} {f : dw_M} {mc ms : Nat} {post : Option Value → dw_M → Prop} {px : String → dw_M → Prop} {a : Array Value}
theorem ct_sub (hw : dw G.1 dk_cl A H0 f H locs) : ∀ q, dw_A f H.size q → A q := fun q h => by
  rcases h with ⟨x, hx⟩ | h
  · exact (hw.1 q x hx).2
  · exact hw.2.2 q (Nat.le_trans hw.2.1.1 h)
/-- behind a call -/
theorem ct_call (hr : vx_Run p l e R s m args below meth c H locs cells slots mc ms (F0 m pc ls st0) rest (ct_Q G f H.size post a) (ct_X G f H.size px) (dw_A f H.size)) (hw : dw G.1 dk_cl A H0 f H locs)
    (kx : ∀ (E : String) (ce : Cell) (q9 : Addr) (f' : dw_M) (H1 : Heap) (locs1 : List Loc), px E f' → dw G.1 dk_cl A H0 f' H1 locs1 → H.size ≤ H1.size → (∀ q : Nat, q < H.size → ¬ dw_A f H.size q → H1[q]? = H[q]?) → (∀ q x, f' q = some x → dw_A f H.size q) → H1[q9]? = some ce → ce.vm = .none → s.vm.findClass E = some ce.cls → vx_W p l e R s m args below meth c H1 locs1 (cells + mc) (slots + ms) Q (F0 m pc ls rest) q9)
    (kk : ∀ (v : Option Value) (f' : dw_M) (H1 : Heap) (locs1 : List Loc), post v f' → dw G.1 dk_cl A H0 f' H1 locs1 → H.size ≤ H1.size → (∀ q : Nat, q < H.size → ¬ dw_A f H.size q → H1[q]? = H[q]?) → (∀ q x, f' q = some x → dw_A f H.size q) → W p l e R s m args below meth c H1 locs1 (cells + mc) (slots + ms) Q (F0 m (pc + 3) ls (v.toList ++ rest))) : W p l e R s m args below meth c H locs cells slots Q (F0 m pc ls st0) := by
  intro T hT X
  have hsub := ct_sub hw
  rcases hr T hT X with ⟨v, st₀, t, T', L, h0, X', hL, e1, e2, ⟨v', f', hv, hp, hf', hF⟩, st⟩ | ⟨q, st₀, t, T', L, E, ce, h0, X', hL, e1, e2, ⟨f', hp, hf', hF⟩, hce, hcv, hcl, st⟩
  · cases hv
    obtain ⟨k1, k2, k3⟩ := vx_keep h0 e1 hw.2.1 (fun q _ h => hsub q h) hsub hL hF
    obtain ⟨t2, a1, b1⟩ := kk v f' T'.heap (locs ++ L) hp ⟨fun a x h => ⟨by rw [e1]; exact (hf' a x h).1, hsub a (hf' a x h).2⟩, k3, hw.2.2⟩ k1 k2 (fun q x h => (hf' q x h).2) T' rfl X'
    exact ⟨t2, st t2 a1, b1⟩
  · obtain ⟨k1, k2, k3⟩ := vx_keep h0 e1 hw.2.1 (fun q _ h => hsub q h) hsub hL hF
    obtain ⟨t2, a1, b1⟩ := kx E ce q f' T'.heap (locs ++ L) hp ⟨fun a x h => ⟨by rw [e1]; exact (hf' a x h).1, hsub a (hf' a x h).2⟩, k3, hw.2.2⟩ k1 k2 (fun q x h => (hf' q x h).2) (by rw [e1]; exact hce) hcv hcl T' rfl X'
    exact ⟨t2, st.trans a1, b1⟩
/-- the world at a method's start -/
theorem ct_start {sz : Nat} {av : List Value} (h : ct_P G f sz av args s) : args = av.toArray ∧ s.heap.size = sz ∧ ct_E G s ∧ ct_z G (dw_A f sz) s ∧ dw G.1 dk_cl (dw_A f sz) s.heap f s.heap [] := by
  obtain ⟨h1, h2, h3, h4, h5⟩ := h
  subst h2
  refine ⟨h1, rfl, h3, ⟨fun q hq => ?_, h5⟩, fun a x hx => ⟨(h4 a x hx).1, Or.inl ⟨x, hx⟩⟩, va_S.rf, fun q hq => Or.inr hq⟩
  rcases hq with ⟨x, hx⟩ | hq
  · exact (h4 q x hx).2
  · exact Nat.le_trans h5 hq
variable {f0 : dw_M} {sz : Nat}
/-- the ends of a method -/
theorem ct_iret {v : Int32} (hexec : p.tables.exec = Jvm.exec) (hb : c.code = cc) (hr : meth.sig.returnType = some .int) (hlocks : meth.locks = false) (hw : dw G.1 dk_cl (dw_A f0 sz) s.heap f H locs) (hp : post (some (.int v)) f) (hc : cells ≤ mc) (hs : slots ≤ ms) (hdg : decode cc pc = .ok (.ireturn, 1)) :
    W p l e R s m args below meth c H locs cells slots (vx_MQ below (ct_Q G f0 sz post) (ct_X G f0 sz px) args s mc ms (dw_A f0 sz)) (F0 m pc ls [.int v]) :=
  W.widen hc hs (vx_ret (W.iret hexec hb hr (fun t ht _ => ⟨_, f, rfl, hp, fun a x h => ⟨by rw [ht]; exact (hw.1 a x h).1, (hw.1 a x h).2⟩, hw.2.1.F ht⟩) hw.2.1.2.2 hdg hlocks))
theorem ct_zret {v : Int32} (hexec : p.tables.exec = Jvm.exec) (hb : c.code = cc) (hr : meth.sig.returnType = some .boolean) (hn : narrow .boolean (.int v) = .int v) (hlocks : meth.locks = false) (hw : dw G.1 dk_cl (dw_A f0 sz) s.heap f H locs) (hp : post (some (.int v)) f) (hc : cells ≤ mc) (hs : slots ≤ ms) (hdg : decode cc pc = .ok (.ireturn, 1)) :
    W p l e R s m args below meth c H locs cells slots (vx_MQ below (ct_Q G f0 sz post) (ct_X G f0 sz px) args s mc ms (dw_A f0 sz)) (F0 m pc ls [.int v]) :=
  W.widen hc hs (vx_ret (W.zret hexec hb hr hn (fun t ht _ => ⟨_, f, rfl, hp, fun a x h => ⟨by rw [ht]; exact (hw.1 a x h).1, (hw.1 a x h).2⟩, hw.2.1.F ht⟩) hw.2.1.2.2 hdg hlocks))
theorem ct_vret (hexec : p.tables.exec = Jvm.exec) (hb : c.code = cc) (hr : meth.sig.returnType = none) (hlocks : meth.locks = false) (hw : dw G.1 dk_cl (dw_A f0 sz) s.heap f H locs) (hp : post none f) (hc : cells ≤ mc) (hs : slots ≤ ms) (hdg : decode cc pc = .ok (.return_, 1)) :
    W p l e R s m args below meth c H locs cells slots (vx_MQ below (ct_Q G f0 sz post) (ct_X G f0 sz px) args s mc ms (dw_A f0 sz)) (F0 m pc ls []) :=
  W.widen hc hs (vx_ret (W.vret hexec hb hr (fun t ht _ => ⟨_, f, rfl, hp, fun a x h => ⟨by rw [ht]; exact (hw.1 a x h).1, (hw.1 a x h).2⟩, hw.2.1.F ht⟩) hw.2.1.2.2 hdg hlocks))
theorem ct_aret {v : Value} {C : String} (hexec : p.tables.exec = Jvm.exec) (hb : c.code = cc) (hr : meth.sig.returnType = some (.object C)) (hv : v = .null ∨ ∃ a, v = .ref a) (hlocks : meth.locks = false) (hw : dw G.1 dk_cl (dw_A f0 sz) s.heap f H locs) (hp : post (some v) f) (hc : cells ≤ mc) (hs : slots ≤ ms) (hdg : decode cc pc = .ok (.areturn, 1)) :
    W p l e R s m args below meth c H locs cells slots (vx_MQ below (ct_Q G f0 sz post) (ct_X G f0 sz px) args s mc ms (dw_A f0 sz)) (F0 m pc ls [v]) :=
  W.widen hc hs (vx_ret (W.aret hexec hb hr (Or.inl ⟨C, rfl⟩) hv (fun t ht _ => ⟨_, f, rfl, hp, fun a x h => ⟨by rw [ht]; exact (hw.1 a x h).1, (hw.1 a x h).2⟩, hw.2.1.F ht⟩) hw.2.1.2.2 hdg hlocks))
/-- an exception of a callee leaves -/
theorem ct_out {E : String} {ce : Cell} {q : Addr} (hout : ∀ x ∈ c.exceptionTable.toList, False) (hlocks : meth.locks = false) (hw : dw G.1 dk_cl (dw_A f0 sz) s.heap f H locs) (hp : px E f) (hcell : H[q]? = some ce) (hv : ce.vm = .none) (hcl : s.vm.findClass E = some ce.cls) (hc : cells ≤ mc) (hs : slots ≤ ms) :
    vx_W p l e R s m args below meth c H locs cells slots (vx_MQ below (ct_Q G f0 sz post) (ct_X G f0 sz px) args s mc ms (dw_A f0 sz)) (F0 m pc ls rest) q :=
  vx_out (fun x hx => (hout x hx).elim) hlocks hcell hv hcl (fun t ht _ => ⟨f, hp, fun a x h => ⟨by rw [ht]; exact (hw.1 a x h).1, (hw.1 a x h).2⟩, hw.2.1.F ht⟩) hw.2.1.2.2 hc hs
end CTR
/-- what is at hand in a method's walk -/
def cx (G : ct_G) (own : String) (p : Program) (s : State) (m : MethodId) (args : Array Value) (c : Code) (cc : ByteArray) (nL : Nat) : Prop :=
  p.tables.exec = Jvm.exec ∧ c.code = cc ∧ c.maxLocals = nL ∧ s.vm.findClass own = some m.cls ∧ (∀ w ∈ dk_all, w.before args s = true) ∧ ct_E G s
theorem cx.fix {G : ct_G} {own : String} {p : Program} {s : State} {m : MethodId} {args : Array Value} {c : Code} {cc : ByteArray} {nL : Nat} (X : cx G own p s m args c cc nL) : CallFix p m c cc nL s args dk_all own := ⟨X.1, X.2.1, X.2.2.1, X.2.2.2.1, X.2.2.2.2.1⟩
theorem cx.hts {G : ct_G} {own : String} {p : Program} {s : State} {m : MethodId} {args : Array Value} {c : Code} {cc : ByteArray} {nL : Nat} (X : cx G own p s m args c cc nL) : ∀ w ∈ dk_all, w.before args s = true := X.2.2.2.2.1
theorem cx.own {G : ct_G} {own : String} {p : Program} {s : State} {m : MethodId} {args : Array Value} {c : Code} {cc : ByteArray} {nL : Nat} (X : cx G own p s m args c cc nL) : s.vm.findClass own = some m.cls := X.2.2.2.1
theorem cx.E {G : ct_G} {own : String} {p : Program} {s : State} {m : MethodId} {args : Array Value} {c : Code} {cc : ByteArray} {nL : Nat} (X : cx G own p s m args c cc nL) : ct_E G s := X.2.2.2.2.2
theorem cx.K {G : ct_G} {own : String} {p : Program} {s : State} {m : MethodId} {args : Array Value} {c : Code} {cc : ByteArray} {nL : Nat} (X : cx G own p s m args c cc nL) : va_K G.1 dk_cl (dk_tys G) s := X.2.2.2.2.2.1
/-- THE START of a method without handlers -/
theorem ct_of {l : Launch} {own nm ds : String} {cc : ByteArray} {maxL : Nat} {ret : Option FieldType} {fr lo : Nat} {G : ct_G} {f : dw_M} {sz : Nat} {av : List Value} {post : Option Value → dw_M → Prop} {px : String → dw_M → Prop} {mc ms : Nat}
    (hy : plainName own = true) (hn : (lg_sl av).length ≤ maxL)
    (body : ∀ (p : Program) (e : Env) (s : State) (m : MethodId) (args : Array Value) (below : List Frame) (meth : Method) (c : Code) (ls : Array Slot), cx G own p s m args c cc maxL → meth.name = nm → meth.sig.returnType = ret → meth.locks = false → (∀ x ∈ c.exceptionTable.toList, False) → s.heap.size = sz → ct_z G (dw_A f sz) s → dw G.1 dk_cl (dw_A f sz) s.heap f s.heap [] → lv_has ls maxL (lv_args 0 av) →
      W p l e { frames := fr, locals := lo, cells := mc, slots := ms } s m args below meth c s.heap [] 0 0 (vx_MQ below (ct_Q G f sz post) (ct_X G f sz px) args s mc ms (dw_A f sz)) (F0 m 0 ls [])) :
    ct l ⟨own, nm, ds⟩ (Cond.code ⟨own, nm, ds⟩ cc maxL ret :: dk_all) fr lo G f sz av post px mc ms := by
  refine vx_ofW (cc := cc) (maxL := maxL) (ret := ret) hy rfl ?_
  intro p e s m args below meth c s₁ B hml ht hP
  obtain ⟨h1, h2, h3, h4, h5⟩ := ct_start hP
  subst h1
  have hts := atoms_spec (ws := Cond.code ⟨own, nm, ds⟩ cc maxL ret :: dk_all) B.pre
  rw [lg_entry_eq]
  exact body p e s m _ below meth c _ ⟨B.exec, B.bytes, hml, findClass_of_methodNamed B.named, fun w h => hts w (List.mem_cons_of_mem _ h), h3⟩ (name_of_methodNamed B.named B.method).1 B.returns B.notSynchronized ht h2 h4 h5 (lv_entry av hn)
/-- .. with handlers -/
theorem ct_ofH {l : Launch} {own nm ds : String} {cc : ByteArray} {maxL : Nat} {ret : Option FieldType} {hh : List (Nat × Nat × Nat × Nat)} {fr lo : Nat} {G : ct_G} {f : dw_M} {sz : Nat} {av : List Value} {post : Option Value → dw_M → Prop} {px : String → dw_M → Prop} {mc ms : Nat}
    (hy : plainName own = true) (hn : (lg_sl av).length ≤ maxL)
    (body : ∀ (p : Program) (e : Env) (s : State) (m : MethodId) (args : Array Value) (below : List Frame) (meth : Method) (c : Code) (ls : Array Slot), cx G own p s m args c cc maxL → meth.name = nm → meth.sig.returnType = ret → meth.locks = false → c.exceptionTable.toList = tableOf hh → s.heap.size = sz → ct_z G (dw_A f sz) s → dw G.1 dk_cl (dw_A f sz) s.heap f s.heap [] → lv_has ls maxL (lv_args 0 av) →
      W p l e { frames := fr, locals := lo, cells := mc, slots := ms } s m args below meth c s.heap [] 0 0 (vx_MQ below (ct_Q G f sz post) (ct_X G f sz px) args s mc ms (dw_A f sz)) (F0 m 0 ls [])) :
    ct l ⟨own, nm, ds⟩ (Cond.codeWith ⟨own, nm, ds⟩ cc maxL ret hh :: dk_all) fr lo G f sz av post px mc ms := by
  refine vx_ofWH (cc := cc) (maxL := maxL) (ret := ret) (hh := hh) hy rfl ?_
  intro p e s m args below meth c s₁ B hml hP
  obtain ⟨h1, h2, h3, h4, h5⟩ := ct_start hP
  subst h1
  have hts := atoms_spec (ws := Cond.codeWith ⟨own, nm, ds⟩ cc maxL ret hh :: dk_all) B.pre
  have htab := vx_table (x := ⟨own, nm, ds⟩) B (hts _ List.mem_cons_self)
  rw [lg_entry_eq]
  exact body p e s m _ below meth c _ ⟨B.exec, B.bytes, hml, findClass_of_methodNamed B.named, fun w h => hts w (List.mem_cons_of_mem _ h), h3⟩ (name_of_methodNamed B.named B.method).1 B.returns B.notSynchronized htab h2 h4 h5 (lv_entry av hn)
theorem dk_gV {own C : String} {idx : Nat} {y : MethodName} {w : Cond} (h1 : Cond.methodLink own idx y ∈ dk_all) (h2 : Cond.instanceMethod y ∈ dk_all) (h3 : Cond.selects C y y ∈ dk_all) (h4 : Cond.initialized C ∈ dk_all) (hc : w ∈ dk_all) : GoodIn dk_all (wsV own idx C y (w :: dk_all)) := fun v hv => by
  unfold wsV at hv
  rcases List.mem_append.mp hv with h | h
  · simp only [List.mem_cons, List.not_mem_nil, or_false] at h
    rcases h with rfl | rfl | rfl | rfl
    · exact dk_good _ h1
    · exact dk_good _ h2
    · exact dk_good _ h3
    · exact dk_good _ h4
  · exact dk_goodc hc v h
theorem dk_gS {own : String} {idx : Nat} {y : MethodName} {w : Cond} (h1 : Cond.methodLink own idx y ∈ dk_all) (h2 : Cond.static y ∈ dk_all) (h3 : Cond.initialized y.cls ∈ dk_all) (hc : w ∈ dk_all) : GoodIn dk_all (va_wsS own idx y (w :: dk_all)) := fun v hv => by
  unfold va_wsS at hv
  rcases List.mem_append.mp hv with h | h
  · simp only [List.mem_cons, List.not_mem_nil, or_false] at h
    rcases h with rfl | rfl | rfl
    · exact dk_good _ h1
    · exact dk_good _ h2
    · exact dk_good _ h3
  · exact dk_goodc hc v h
theorem dk_gU {own C owner : String} {idx : Nat} {x y : MethodName} {w : Cond} (h1 : Cond.methodLink own idx x ∈ dk_all) (h2 : Cond.sameMethod x.cls owner x.name x.desc ∈ dk_all) (h3 : Cond.selects C x y ∈ dk_all) (h4 : Cond.instanceMethod y ∈ dk_all) (h5 : Cond.initialized y.cls ∈ dk_all) (hc : w ∈ dk_all) : GoodIn dk_all (va_wsU own idx C owner x y (w :: dk_all)) := fun v hv => by
  unfold va_wsU at hv
  rcases List.mem_append.mp hv with h | h
  · simp only [List.mem_cons, List.not_mem_nil, or_false] at h
    rcases h with rfl | rfl | rfl | rfl | rfl
    · exact dk_good _ h1
    · exact dk_good _ h2
    · exact dk_good _ h3
    · exact dk_good _ h4
    · exact dk_good _ h5
  · exact dk_goodc hc v h
theorem dk_gO {own C owner : String} {idx : Nat} {x y : MethodName} {w : Cond} (h1 : Cond.methodLink own idx x ∈ dk_all) (h2 : Cond.sameMethod x.cls owner x.name x.desc ∈ dk_all) (h0 : Cond.instanceMethod ⟨owner, x.name, x.desc⟩ ∈ dk_all) (h3 : Cond.selects C x y ∈ dk_all) (h4 : Cond.instanceMethod y ∈ dk_all) (h5 : Cond.initialized y.cls ∈ dk_all) (hc : w ∈ dk_all) : GoodIn dk_all (va_wsO own idx C owner x y (w :: dk_all)) := fun v hv => by
  unfold va_wsO at hv
  rcases List.mem_append.mp hv with h | h
  · simp only [List.mem_cons, List.not_mem_nil, or_false] at h
    rcases h with rfl | rfl | rfl | rfl | rfl | rfl
    · exact dk_good _ h1
    · exact dk_good _ h2
    · exact dk_good _ h0
    · exact dk_good _ h3
    · exact dk_good _ h4
    · exact dk_good _ h5
  · exact dk_goodc hc v h
/-- THE CONTRACT of a method that never throws -/
def cn (l : Launch) (y : MethodName) (ws : List Cond) (fr lo : Nat) (G : ct_G) (f : dw_M) (sz : Nat) (av : List Value) (post : Option Value → dw_M → Prop) (mc ms : Nat) : Prop :=
  Met l y ws { frames := fr, locals := lo, cells := mc, slots := ms } (ct_P G f sz av) (ct_Q G f sz post) mc ms (dw_A f sz)
theorem cn_of {l : Launch} {own nm ds : String} {cc : ByteArray} {maxL : Nat} {ret : Option FieldType} {fr lo : Nat} {G : ct_G} {f : dw_M} {sz : Nat} {av : List Value} {post : Option Value → dw_M → Prop} {mc ms : Nat}
    (hy : plainName own = true) (hn : (lg_sl av).length ≤ maxL)
    (body : ∀ (p : Program) (e : Env) (s : State) (m : MethodId) (args : Array Value) (below : List Frame) (meth : Method) (c : Code) (ls : Array Slot), cx G own p s m args c cc maxL → meth.name = nm → meth.sig.returnType = ret → meth.locks = false → s.heap.size = sz → ct_z G (dw_A f sz) s → dw G.1 dk_cl (dw_A f sz) s.heap f s.heap [] → lv_has ls maxL (lv_args 0 av) →
      W p l e { frames := fr, locals := lo, cells := mc, slots := ms } s m args below meth c s.heap [] 0 0 (MQ below (ct_Q G f sz post) args s mc ms (dw_A f sz)) (F0 m 0 ls [])) :
    cn l ⟨own, nm, ds⟩ (Cond.code ⟨own, nm, ds⟩ cc maxL ret :: dk_all) fr lo G f sz av post mc ms := by
  refine Met.ofW (cc := cc) (maxL := maxL) (ret := ret) hy rfl ?_
  intro p e s m args below meth c s₁ B hml hP
  obtain ⟨h1, h2, h3, h4, h5⟩ := ct_start hP
  subst h1
  have hts := atoms_spec (ws := Cond.code ⟨own, nm, ds⟩ cc maxL ret :: dk_all) B.pre
  rw [lg_entry_eq]
  exact body p e s m _ below meth c _ ⟨B.exec, B.bytes, hml, findClass_of_methodNamed B.named, fun w h => hts w (List.mem_cons_of_mem _ h), h3⟩ (name_of_methodNamed B.named B.method).1 B.returns B.notSynchronized h2 h4 h5 (lv_entry av hn)
section CNR
variable {p : Program} {l : Launch} {e : Env} {R : Room} {s : State} {m : MethodId} {args : Array Value} {below : List Frame} {meth : Method} {c : Code} {H : Heap} {locs : List Loc} {cells slots : Nat} {Q : State → Prop}
variable {cc : ByteArray} {pc : Nat} {ls : Array Slot} {rest st0 : List Value} {G : ct_G} {A : Nat → Prop} {H0 : Heap} {f f0 : dw_M} {sz mc ms : Nat} {post : Option Value → dw_M → Prop} {a : Array Value}
theorem cn_call (hr : va_Run p l e R s m args below meth c H locs cells slots mc ms (F0 m pc ls st0) rest (ct_Q G f H.size post a) (dw_A f H.size)) (hw : dw G.1 dk_cl A H0 f H locs)
    (kk : ∀ (v : Option Value) (f' : dw_M) (H1 : Heap) (locs1 : List Loc), post v f' → dw G.1 dk_cl A H0 f' H1 locs1 → H.size ≤ H1.size → (∀ q : Nat, q < H.size → ¬ dw_A f H.size q → H1[q]? = H[q]?) → (∀ q x, f' q = some x → dw_A f H.size q) → W p l e R s m args below meth c H1 locs1 (cells + mc) (slots + ms) Q (F0 m (pc + 3) ls (v.toList ++ rest))) : W p l e R s m args below meth c H locs cells slots Q (F0 m pc ls st0) := by
  intro T hT X
  have hsub := ct_sub hw
  obtain ⟨v, st₀, t, T', L, h0, X', hL, e1, e2, ⟨v', f', hv, hp, hf', hF⟩, st⟩ := hr T hT X
  cases hv
  obtain ⟨k1, k2, k3⟩ := vx_keep h0 e1 hw.2.1 (fun q _ h => hsub q h) hsub hL hF
  obtain ⟨t2, a1, b1⟩ := kk v f' T'.heap (locs ++ L) hp ⟨fun a x h => ⟨by rw [e1]; exact (hf' a x h).1, hsub a (hf' a x h).2⟩, k3, hw.2.2⟩ k1 k2 (fun q x h => (hf' q x h).2) T' rfl X'
  exact ⟨t2, st t2 a1, b1⟩
theorem cn_iret {v : Int32} (hexec : p.tables.exec = Jvm.exec) (hb : c.code = cc) (hr : meth.sig.returnType = some .int) (hlocks : meth.locks = false) (hw : dw G.1 dk_cl (dw_A f0 sz) s.heap f H locs) (hp : post (some (.int v)) f) (hc : cells ≤ mc) (hs : slots ≤ ms) (hdg : decode cc pc = .ok (.ireturn, 1)) :
    W p l e R s m args below meth c H locs cells slots (MQ below (ct_Q G f0 sz post) args s mc ms (dw_A f0 sz)) (F0 m pc ls [.int v]) :=
  W.widen hc hs (W.iret hexec hb hr (fun t ht _ => ⟨_, f, rfl, hp, fun a x h => ⟨by rw [ht]; exact (hw.1 a x h).1, (hw.1 a x h).2⟩, hw.2.1.F ht⟩) hw.2.1.2.2 hdg hlocks)
theorem cn_zret {v : Int32} (hexec : p.tables.exec = Jvm.exec) (hb : c.code = cc) (hr : meth.sig.returnType = some .boolean) (hlocks : meth.locks = false) (hw : dw G.1 dk_cl (dw_A f0 sz) s.heap f H locs) (hn : narrow .boolean (.int v) = .int v) (hp : post (some (.int v)) f) (hc : cells ≤ mc) (hs : slots ≤ ms) (hdg : decode cc pc = .ok (.ireturn, 1)) :
    W p l e R s m args below meth c H locs cells slots (MQ below (ct_Q G f0 sz post) args s mc ms (dw_A f0 sz)) (F0 m pc ls [.int v]) :=
  W.widen hc hs (W.zret hexec hb hr hn (fun t ht _ => ⟨_, f, rfl, hp, fun a x h => ⟨by rw [ht]; exact (hw.1 a x h).1, (hw.1 a x h).2⟩, hw.2.1.F ht⟩) hw.2.1.2.2 hdg hlocks)
theorem cn_vret (hexec : p.tables.exec = Jvm.exec) (hb : c.code = cc) (hr : meth.sig.returnType = none) (hlocks : meth.locks = false) (hw : dw G.1 dk_cl (dw_A f0 sz) s.heap f H locs) (hp : post none f) (hc : cells ≤ mc) (hs : slots ≤ ms) (hdg : decode cc pc = .ok (.return_, 1)) :
    W p l e R s m args below meth c H locs cells slots (MQ below (ct_Q G f0 sz post) args s mc ms (dw_A f0 sz)) (F0 m pc ls []) :=
  W.widen hc hs (W.vret hexec hb hr (fun t ht _ => ⟨_, f, rfl, hp, fun a x h => ⟨by rw [ht]; exact (hw.1 a x h).1, (hw.1 a x h).2⟩, hw.2.1.F ht⟩) hw.2.1.2.2 hdg hlocks)
theorem cn_aret {v : Value} {C : String} (hexec : p.tables.exec = Jvm.exec) (hb : c.code = cc) (hr : meth.sig.returnType = some (.object C)) (hlocks : meth.locks = false) (hw : dw G.1 dk_cl (dw_A f0 sz) s.heap f H locs) (hv : v = .null ∨ ∃ a, v = .ref a) (hp : post (some v) f) (hc : cells ≤ mc) (hs : slots ≤ ms) (hdg : decode cc pc = .ok (.areturn, 1)) :
    W p l e R s m args below meth c H locs cells slots (MQ below (ct_Q G f0 sz post) args s mc ms (dw_A f0 sz)) (F0 m pc ls [v]) :=
  W.widen hc hs (W.aret hexec hb hr (Or.inl ⟨C, rfl⟩) hv (fun t ht _ => ⟨_, f, rfl, hp, fun a x h => ⟨by rw [ht]; exact (hw.1 a x h).1, (hw.1 a x h).2⟩, hw.2.1.F ht⟩) hw.2.1.2.2 hdg hlocks)
end CNR
end
section
theorem d_RW_init_0 : decode b_RW_init 0 = .ok (.aload_n 0, 1) := by decide +kernel
theorem d_RW_init_1 : decode b_RW_init 1 = .ok (.invokespecial 3, 3) := by decide +kernel
theorem d_RW_init_4 : decode b_RW_init 4 = .ok (.aload_n 0, 1) := by decide +kernel
theorem d_RW_init_5 : decode b_RW_init 5 = .ok (.iload_n 1, 1) := by decide +kernel
theorem d_RW_init_6 : decode b_RW_init 6 = .ok (.iconst 0, 1) := by decide +kernel
theorem d_RW_init_7 : decode b_RW_init 7 = .ok (.invokestatic 9, 3) := by decide +kernel
theorem d_RW_init_10 : decode b_RW_init 10 = .ok (.newarray .int, 2) := by decide +kernel
theorem d_RW_init_12 : decode b_RW_init 12 = .ok (.putfield 15, 3) := by decide +kernel
theorem d_RW_init_15 : decode b_RW_init 15 = .ok (.return_, 1) := by decide +kernel
theorem d_SQ_init_0 : decode b_SQ_init 0 = .ok (.aload_n 0, 1) := by decide +kernel
theorem d_SQ_init_1 : decode b_SQ_init 1 = .ok (.invokespecial 1, 3) := by decide +kernel
theorem d_SQ_init_4 : decode b_SQ_init 4 = .ok (.return_, 1) := by decide +kernel
theorem d_DC_init_0 : decode b_DC_init 0 = .ok (.aload_n 0, 1) := by decide +kernel
theorem d_DC_init_1 : decode b_DC_init 1 = .ok (.invokespecial 3, 3) := by decide +kernel
theorem d_DC_init_4 : decode b_DC_init 4 = .ok (.return_, 1) := by decide +kernel
theorem d_RW_drop_0 : decode b_RW_drop 0 = .ok (.aload_n 0, 1) := by decide +kernel
theorem d_RW_drop_1 : decode b_RW_drop 1 = .ok (.iconst 0, 1) := by decide +kernel
theorem d_RW_drop_2 : decode b_RW_drop 2 = .ok (.putfield 21, 3) := by decide +kernel
theorem d_RW_drop_5 : decode b_RW_drop 5 = .ok (.aload_n 0, 1) := by decide +kernel
theorem d_RW_drop_6 : decode b_RW_drop 6 = .ok (.iconst 0, 1) := by decide +kernel
theorem d_RW_drop_7 : decode b_RW_drop 7 = .ok (.putfield 25, 3) := by decide +kernel
theorem d_RW_drop_10 : decode b_RW_drop 10 = .ok (.return_, 1) := by decide +kernel
theorem d_RW_size_0 : decode b_RW_size 0 = .ok (.aload_n 0, 1) := by decide +kernel
theorem d_RW_size_1 : decode b_RW_size 1 = .ok (.getfield 21, 3) := by decide +kernel
theorem d_RW_size_4 : decode b_RW_size 4 = .ok (.ireturn, 1) := by decide +kernel
theorem d_JT_get_0 : decode b_JT_get 0 = .ok (.aload_n 0, 1) := by decide +kernel
theorem d_JT_get_1 : decode b_JT_get 1 = .ok (.getfield 24, 3) := by decide +kernel
theorem d_JT_get_4 : decode b_JT_get 4 = .ok (.ifnonnull 28, 3) := by decide +kernel
theorem d_JT_get_7 : decode b_JT_get 7 = .ok (.new 27, 3) := by decide +kernel
theorem d_JT_get_10 : decode b_JT_get 10 = .ok (.dup, 1) := by decide +kernel
theorem d_JT_get_11 : decode b_JT_get 11 = .ok (.aload_n 0, 1) := by decide +kernel
theorem d_JT_get_12 : decode b_JT_get 12 = .ok (.invokevirtual 29, 3) := by decide +kernel
theorem d_JT_get_15 : decode b_JT_get 15 = .ok (.invokespecial 30, 3) := by decide +kernel
theorem d_JT_get_18 : decode b_JT_get 18 = .ok (.astore_n 2, 1) := by decide +kernel
theorem d_JT_get_19 : decode b_JT_get 19 = .ok (.aload_n 0, 1) := by decide +kernel
theorem d_JT_get_20 : decode b_JT_get 20 = .ok (.aload_n 2, 1) := by decide +kernel
theorem d_JT_get_21 : decode b_JT_get 21 = .ok (.invokevirtual 33, 3) := by decide +kernel
theorem d_JT_get_24 : decode b_JT_get 24 = .ok (.aload_n 0, 1) := by decide +kernel
theorem d_JT_get_25 : decode b_JT_get 25 = .ok (.aload_n 2, 1) := by decide +kernel
theorem d_JT_get_26 : decode b_JT_get 26 = .ok (.invokestatic 37, 3) := by decide +kernel
theorem d_JT_get_29 : decode b_JT_get 29 = .ok (.putfield 24, 3) := by decide +kernel
theorem d_JT_get_32 : decode b_JT_get 32 = .ok (.aload_n 0, 1) := by decide +kernel
theorem d_JT_get_33 : decode b_JT_get 33 = .ok (.getfield 24, 3) := by decide +kernel
theorem d_JT_get_36 : decode b_JT_get 36 = .ok (.iload_n 1, 1) := by decide +kernel
theorem d_JT_get_37 : decode b_JT_get 37 = .ok (.invokevirtual 43, 3) := by decide +kernel
theorem d_JT_get_40 : decode b_JT_get 40 = .ok (.ireturn, 1) := by decide +kernel
theorem d_TX_size_0 : decode b_TX_size 0 = .ok (.aload_n 0, 1) := by decide +kernel
theorem d_TX_size_1 : decode b_TX_size 1 = .ok (.getfield 7, 3) := by decide +kernel
theorem d_TX_size_4 : decode b_TX_size 4 = .ok (.ireturn, 1) := by decide +kernel
theorem d_JT_pourInto_0 : decode b_JT_pourInto 0 = .ok (.aload_n 0, 1) := by decide +kernel
theorem d_JT_pourInto_1 : decode b_JT_pourInto 1 = .ok (.getfield 24, 3) := by decide +kernel
theorem d_JT_pourInto_4 : decode b_JT_pourInto 4 = .ok (.ifnull 14, 3) := by decide +kernel
theorem d_JT_pourInto_7 : decode b_JT_pourInto 7 = .ok (.aload_n 0, 1) := by decide +kernel
theorem d_JT_pourInto_8 : decode b_JT_pourInto 8 = .ok (.getfield 24, 3) := by decide +kernel
theorem d_JT_pourInto_11 : decode b_JT_pourInto 11 = .ok (.aload_n 1, 1) := by decide +kernel
theorem d_JT_pourInto_12 : decode b_JT_pourInto 12 = .ok (.invokevirtual 47, 3) := by decide +kernel
theorem d_JT_pourInto_15 : decode b_JT_pourInto 15 = .ok (.goto 19, 3) := by decide +kernel
theorem d_JT_pourInto_18 : decode b_JT_pourInto 18 = .ok (.aload_n 0, 1) := by decide +kernel
theorem d_JT_pourInto_19 : decode b_JT_pourInto 19 = .ok (.getfield 15, 3) := by decide +kernel
theorem d_JT_pourInto_22 : decode b_JT_pourInto 22 = .ok (.aload_n 1, 1) := by decide +kernel
theorem d_JT_pourInto_23 : decode b_JT_pourInto 23 = .ok (.invokevirtual 47, 3) := by decide +kernel
theorem d_JT_pourInto_26 : decode b_JT_pourInto 26 = .ok (.aload_n 0, 1) := by decide +kernel
theorem d_JT_pourInto_27 : decode b_JT_pourInto 27 = .ok (.getfield 21, 3) := by decide +kernel
theorem d_JT_pourInto_30 : decode b_JT_pourInto 30 = .ok (.aload_n 1, 1) := by decide +kernel
theorem d_JT_pourInto_31 : decode b_JT_pourInto 31 = .ok (.invokevirtual 47, 3) := by decide +kernel
theorem d_JT_pourInto_34 : decode b_JT_pourInto 34 = .ok (.return_, 1) := by decide +kernel
theorem d_TX_pourInto_0 : decode b_TX_pourInto 0 = .ok (.aload_n 1, 1) := by decide +kernel
theorem d_TX_pourInto_1 : decode b_TX_pourInto 1 = .ok (.aload_n 0, 1) := by decide +kernel
theorem d_TX_pourInto_2 : decode b_TX_pourInto 2 = .ok (.iconst 0, 1) := by decide +kernel
theorem d_TX_pourInto_3 : decode b_TX_pourInto 3 = .ok (.aload_n 0, 1) := by decide +kernel
theorem d_TX_pourInto_4 : decode b_TX_pourInto 4 = .ok (.getfield 7, 3) := by decide +kernel
theorem d_TX_pourInto_7 : decode b_TX_pourInto 7 = .ok (.invokevirtual 17, 3) := by decide +kernel
theorem d_TX_pourInto_10 : decode b_TX_pourInto 10 = .ok (.return_, 1) := by decide +kernel
theorem d_RW_appendRange_0 : decode b_RW_appendRange 0 = .ok (.iload_n 3, 1) := by decide +kernel
theorem d_RW_appendRange_1 : decode b_RW_appendRange 1 = .ok (.aload_n 1, 1) := by decide +kernel
theorem d_RW_appendRange_2 : decode b_RW_appendRange 2 = .ok (.invokevirtual 29, 3) := by decide +kernel
theorem d_RW_appendRange_5 : decode b_RW_appendRange 5 = .ok (.invokestatic 32, 3) := by decide +kernel
theorem d_RW_appendRange_8 : decode b_RW_appendRange 8 = .ok (.istore 4, 2) := by decide +kernel
theorem d_RW_appendRange_10 : decode b_RW_appendRange 10 = .ok (.iload_n 2, 1) := by decide +kernel
theorem d_RW_appendRange_11 : decode b_RW_appendRange 11 = .ok (.iconst 0, 1) := by decide +kernel
theorem d_RW_appendRange_12 : decode b_RW_appendRange 12 = .ok (.invokestatic 9, 3) := by decide +kernel
theorem d_RW_appendRange_15 : decode b_RW_appendRange 15 = .ok (.istore 5, 2) := by decide +kernel
theorem d_RW_appendRange_17 : decode b_RW_appendRange 17 = .ok (.iload 5, 2) := by decide +kernel
theorem d_RW_appendRange_19 : decode b_RW_appendRange 19 = .ok (.iload 4, 2) := by decide +kernel
theorem d_RW_appendRange_21 : decode b_RW_appendRange 21 = .ok (.if_icmp .ge 19, 3) := by decide +kernel
theorem d_RW_appendRange_24 : decode b_RW_appendRange 24 = .ok (.aload_n 0, 1) := by decide +kernel
theorem d_RW_appendRange_25 : decode b_RW_appendRange 25 = .ok (.aload_n 1, 1) := by decide +kernel
theorem d_RW_appendRange_26 : decode b_RW_appendRange 26 = .ok (.iload 5, 2) := by decide +kernel
theorem d_RW_appendRange_28 : decode b_RW_appendRange 28 = .ok (.invokevirtual 35, 3) := by decide +kernel
theorem d_RW_appendRange_31 : decode b_RW_appendRange 31 = .ok (.invokevirtual 39, 3) := by decide +kernel
theorem d_RW_appendRange_34 : decode b_RW_appendRange 34 = .ok (.iinc 5 1, 3) := by decide +kernel
theorem d_RW_appendRange_37 : decode b_RW_appendRange 37 = .ok (.goto (-20), 3) := by decide +kernel
theorem d_RW_appendRange_40 : decode b_RW_appendRange 40 = .ok (.return_, 1) := by decide +kernel
theorem d_NT_get_0 : decode b_NT_get 0 = .ok (.iload_n 1, 1) := by decide +kernel
theorem d_NT_get_1 : decode b_NT_get 1 = .ok (.ifCond .lt 25, 3) := by decide +kernel
theorem d_NT_get_4 : decode b_NT_get 4 = .ok (.iload_n 1, 1) := by decide +kernel
theorem d_NT_get_5 : decode b_NT_get 5 = .ok (.aload_n 0, 1) := by decide +kernel
theorem d_NT_get_6 : decode b_NT_get 6 = .ok (.getfield 15, 3) := by decide +kernel
theorem d_NT_get_9 : decode b_NT_get 9 = .ok (.arraylength, 1) := by decide +kernel
theorem d_NT_get_10 : decode b_NT_get 10 = .ok (.if_icmp .ge 16, 3) := by decide +kernel
theorem d_NT_get_13 : decode b_NT_get 13 = .ok (.aload_n 0, 1) := by decide +kernel
theorem d_NT_get_14 : decode b_NT_get 14 = .ok (.getfield 15, 3) := by decide +kernel
theorem d_NT_get_17 : decode b_NT_get 17 = .ok (.iload_n 1, 1) := by decide +kernel
theorem d_NT_get_18 : decode b_NT_get 18 = .ok (.baload, 1) := by decide +kernel
theorem d_NT_get_19 : decode b_NT_get 19 = .ok (.sipush 255, 3) := by decide +kernel
theorem d_NT_get_22 : decode b_NT_get 22 = .ok (.iand, 1) := by decide +kernel
theorem d_NT_get_23 : decode b_NT_get 23 = .ok (.goto 4, 3) := by decide +kernel
theorem d_NT_get_26 : decode b_NT_get 26 = .ok (.iconst (-1), 1) := by decide +kernel
theorem d_NT_get_27 : decode b_NT_get 27 = .ok (.ireturn, 1) := by decide +kernel
theorem d_RW_get_0 : decode b_RW_get 0 = .ok (.iload_n 1, 1) := by decide +kernel
theorem d_RW_get_1 : decode b_RW_get 1 = .ok (.ifCond .lt 29, 3) := by decide +kernel
theorem d_RW_get_4 : decode b_RW_get 4 = .ok (.iload_n 1, 1) := by decide +kernel
theorem d_RW_get_5 : decode b_RW_get 5 = .ok (.aload_n 0, 1) := by decide +kernel
theorem d_RW_get_6 : decode b_RW_get 6 = .ok (.getfield 21, 3) := by decide +kernel
theorem d_RW_get_9 : decode b_RW_get 9 = .ok (.if_icmp .ge 21, 3) := by decide +kernel
theorem d_RW_get_12 : decode b_RW_get 12 = .ok (.iload_n 1, 1) := by decide +kernel
theorem d_RW_get_13 : decode b_RW_get 13 = .ok (.aload_n 0, 1) := by decide +kernel
theorem d_RW_get_14 : decode b_RW_get 14 = .ok (.getfield 15, 3) := by decide +kernel
theorem d_RW_get_17 : decode b_RW_get 17 = .ok (.arraylength, 1) := by decide +kernel
theorem d_RW_get_18 : decode b_RW_get 18 = .ok (.if_icmp .ge 12, 3) := by decide +kernel
theorem d_RW_get_21 : decode b_RW_get 21 = .ok (.aload_n 0, 1) := by decide +kernel
theorem d_RW_get_22 : decode b_RW_get 22 = .ok (.getfield 15, 3) := by decide +kernel
theorem d_RW_get_25 : decode b_RW_get 25 = .ok (.iload_n 1, 1) := by decide +kernel
theorem d_RW_get_26 : decode b_RW_get 26 = .ok (.iaload, 1) := by decide +kernel
theorem d_RW_get_27 : decode b_RW_get 27 = .ok (.goto 4, 3) := by decide +kernel
theorem d_RW_get_30 : decode b_RW_get 30 = .ok (.iconst (-1), 1) := by decide +kernel
theorem d_RW_get_31 : decode b_RW_get 31 = .ok (.ireturn, 1) := by decide +kernel
theorem d_WT_get_0 : decode b_WT_get 0 = .ok (.iload_n 1, 1) := by decide +kernel
theorem d_WT_get_1 : decode b_WT_get 1 = .ok (.ifCond .lt 21, 3) := by decide +kernel
theorem d_WT_get_4 : decode b_WT_get 4 = .ok (.iload_n 1, 1) := by decide +kernel
theorem d_WT_get_5 : decode b_WT_get 5 = .ok (.aload_n 0, 1) := by decide +kernel
theorem d_WT_get_6 : decode b_WT_get 6 = .ok (.getfield 15, 3) := by decide +kernel
theorem d_WT_get_9 : decode b_WT_get 9 = .ok (.arraylength, 1) := by decide +kernel
theorem d_WT_get_10 : decode b_WT_get 10 = .ok (.if_icmp .ge 12, 3) := by decide +kernel
theorem d_WT_get_13 : decode b_WT_get 13 = .ok (.aload_n 0, 1) := by decide +kernel
theorem d_WT_get_14 : decode b_WT_get 14 = .ok (.getfield 15, 3) := by decide +kernel
theorem d_WT_get_17 : decode b_WT_get 17 = .ok (.iload_n 1, 1) := by decide +kernel
theorem d_WT_get_18 : decode b_WT_get 18 = .ok (.caload, 1) := by decide +kernel
theorem d_WT_get_19 : decode b_WT_get 19 = .ok (.goto 4, 3) := by decide +kernel
theorem d_WT_get_22 : decode b_WT_get 22 = .ok (.iconst (-1), 1) := by decide +kernel
theorem d_WT_get_23 : decode b_WT_get 23 = .ok (.ireturn, 1) := by decide +kernel
theorem d_RW_append_0 : decode b_RW_append 0 = .ok (.aload_n 0, 1) := by decide +kernel
theorem d_RW_append_1 : decode b_RW_append 1 = .ok (.getfield 21, 3) := by decide +kernel
theorem d_RW_append_4 : decode b_RW_append 4 = .ok (.aload_n 0, 1) := by decide +kernel
theorem d_RW_append_5 : decode b_RW_append 5 = .ok (.getfield 15, 3) := by decide +kernel
theorem d_RW_append_8 : decode b_RW_append 8 = .ok (.arraylength, 1) := by decide +kernel
theorem d_RW_append_9 : decode b_RW_append 9 = .ok (.if_icmp .lt 9, 3) := by decide +kernel
theorem d_RW_append_12 : decode b_RW_append 12 = .ok (.aload_n 0, 1) := by decide +kernel
theorem d_RW_append_13 : decode b_RW_append 13 = .ok (.iconst 1, 1) := by decide +kernel
theorem d_RW_append_14 : decode b_RW_append 14 = .ok (.putfield 25, 3) := by decide +kernel
theorem d_RW_append_17 : decode b_RW_append 17 = .ok (.return_, 1) := by decide +kernel
theorem d_RW_append_18 : decode b_RW_append 18 = .ok (.aload_n 0, 1) := by decide +kernel
theorem d_RW_append_19 : decode b_RW_append 19 = .ok (.getfield 15, 3) := by decide +kernel
theorem d_RW_append_22 : decode b_RW_append 22 = .ok (.aload_n 0, 1) := by decide +kernel
theorem d_RW_append_23 : decode b_RW_append 23 = .ok (.getfield 21, 3) := by decide +kernel
theorem d_RW_append_26 : decode b_RW_append 26 = .ok (.iload_n 1, 1) := by decide +kernel
theorem d_RW_append_27 : decode b_RW_append 27 = .ok (.iastore, 1) := by decide +kernel
theorem d_RW_append_28 : decode b_RW_append 28 = .ok (.aload_n 0, 1) := by decide +kernel
theorem d_RW_append_29 : decode b_RW_append 29 = .ok (.dup, 1) := by decide +kernel
theorem d_RW_append_30 : decode b_RW_append 30 = .ok (.getfield 21, 3) := by decide +kernel
theorem d_RW_append_33 : decode b_RW_append 33 = .ok (.iconst 1, 1) := by decide +kernel
theorem d_RW_append_34 : decode b_RW_append 34 = .ok (.iadd, 1) := by decide +kernel
theorem d_RW_append_35 : decode b_RW_append 35 = .ok (.putfield 21, 3) := by decide +kernel
theorem d_RW_append_38 : decode b_RW_append 38 = .ok (.return_, 1) := by decide +kernel
theorem d_WT_init_0 : decode b_WT_init 0 = .ok (.aload_n 0, 1) := by decide +kernel
theorem d_WT_init_1 : decode b_WT_init 1 = .ok (.aload_n 1, 1) := by decide +kernel
theorem d_WT_init_2 : decode b_WT_init 2 = .ok (.invokevirtual 3, 3) := by decide +kernel
theorem d_WT_init_5 : decode b_WT_init 5 = .ok (.iconst 0, 1) := by decide +kernel
theorem d_WT_init_6 : decode b_WT_init 6 = .ok (.invokespecial 9, 3) := by decide +kernel
theorem d_WT_init_9 : decode b_WT_init 9 = .ok (.aload_n 0, 1) := by decide +kernel
theorem d_WT_init_10 : decode b_WT_init 10 = .ok (.aload_n 1, 1) := by decide +kernel
theorem d_WT_init_11 : decode b_WT_init 11 = .ok (.invokevirtual 3, 3) := by decide +kernel
theorem d_WT_init_14 : decode b_WT_init 14 = .ok (.newarray .char, 2) := by decide +kernel
theorem d_WT_init_16 : decode b_WT_init 16 = .ok (.putfield 15, 3) := by decide +kernel
theorem d_WT_init_19 : decode b_WT_init 19 = .ok (.iconst 0, 1) := by decide +kernel
theorem d_WT_init_20 : decode b_WT_init 20 = .ok (.istore_n 2, 1) := by decide +kernel
theorem d_WT_init_21 : decode b_WT_init 21 = .ok (.iload_n 2, 1) := by decide +kernel
theorem d_WT_init_22 : decode b_WT_init 22 = .ok (.aload_n 0, 1) := by decide +kernel
theorem d_WT_init_23 : decode b_WT_init 23 = .ok (.getfield 15, 3) := by decide +kernel
theorem d_WT_init_26 : decode b_WT_init 26 = .ok (.arraylength, 1) := by decide +kernel
theorem d_WT_init_27 : decode b_WT_init 27 = .ok (.if_icmp .ge 21, 3) := by decide +kernel
theorem d_WT_init_30 : decode b_WT_init 30 = .ok (.aload_n 0, 1) := by decide +kernel
theorem d_WT_init_31 : decode b_WT_init 31 = .ok (.getfield 15, 3) := by decide +kernel
theorem d_WT_init_34 : decode b_WT_init 34 = .ok (.iload_n 2, 1) := by decide +kernel
theorem d_WT_init_35 : decode b_WT_init 35 = .ok (.aload_n 1, 1) := by decide +kernel
theorem d_WT_init_36 : decode b_WT_init 36 = .ok (.iload_n 2, 1) := by decide +kernel
theorem d_WT_init_37 : decode b_WT_init 37 = .ok (.invokevirtual 21, 3) := by decide +kernel
theorem d_WT_init_40 : decode b_WT_init 40 = .ok (.i2c, 1) := by decide +kernel
theorem d_WT_init_41 : decode b_WT_init 41 = .ok (.castore, 1) := by decide +kernel
theorem d_WT_init_42 : decode b_WT_init 42 = .ok (.iinc 2 1, 3) := by decide +kernel
theorem d_WT_init_45 : decode b_WT_init 45 = .ok (.goto (-24), 3) := by decide +kernel
theorem d_WT_init_48 : decode b_WT_init 48 = .ok (.return_, 1) := by decide +kernel
theorem d_TX_init_0 : decode b_TX_init 0 = .ok (.aload_n 0, 1) := by decide +kernel
theorem d_TX_init_1 : decode b_TX_init 1 = .ok (.invokespecial 1, 3) := by decide +kernel
theorem d_TX_init_4 : decode b_TX_init 4 = .ok (.aload_n 0, 1) := by decide +kernel
theorem d_TX_init_5 : decode b_TX_init 5 = .ok (.iload_n 1, 1) := by decide +kernel
theorem d_TX_init_6 : decode b_TX_init 6 = .ok (.putfield 7, 3) := by decide +kernel
theorem d_TX_init_9 : decode b_TX_init 9 = .ok (.aload_n 0, 1) := by decide +kernel
theorem d_TX_init_10 : decode b_TX_init 10 = .ok (.iload_n 2, 1) := by decide +kernel
theorem d_TX_init_11 : decode b_TX_init 11 = .ok (.putfield 13, 3) := by decide +kernel
theorem d_TX_init_14 : decode b_TX_init 14 = .ok (.return_, 1) := by decide +kernel
theorem d_NT_init_0 : decode b_NT_init 0 = .ok (.aload_n 0, 1) := by decide +kernel
theorem d_NT_init_1 : decode b_NT_init 1 = .ok (.aload_n 1, 1) := by decide +kernel
theorem d_NT_init_2 : decode b_NT_init 2 = .ok (.invokevirtual 3, 3) := by decide +kernel
theorem d_NT_init_5 : decode b_NT_init 5 = .ok (.iconst 1, 1) := by decide +kernel
theorem d_NT_init_6 : decode b_NT_init 6 = .ok (.invokespecial 9, 3) := by decide +kernel
theorem d_NT_init_9 : decode b_NT_init 9 = .ok (.aload_n 0, 1) := by decide +kernel
theorem d_NT_init_10 : decode b_NT_init 10 = .ok (.aload_n 1, 1) := by decide +kernel
theorem d_NT_init_11 : decode b_NT_init 11 = .ok (.invokevirtual 3, 3) := by decide +kernel
theorem d_NT_init_14 : decode b_NT_init 14 = .ok (.newarray .byte, 2) := by decide +kernel
theorem d_NT_init_16 : decode b_NT_init 16 = .ok (.putfield 15, 3) := by decide +kernel
theorem d_NT_init_19 : decode b_NT_init 19 = .ok (.iconst 0, 1) := by decide +kernel
theorem d_NT_init_20 : decode b_NT_init 20 = .ok (.istore_n 2, 1) := by decide +kernel
theorem d_NT_init_21 : decode b_NT_init 21 = .ok (.iload_n 2, 1) := by decide +kernel
theorem d_NT_init_22 : decode b_NT_init 22 = .ok (.aload_n 0, 1) := by decide +kernel
theorem d_NT_init_23 : decode b_NT_init 23 = .ok (.getfield 15, 3) := by decide +kernel
theorem d_NT_init_26 : decode b_NT_init 26 = .ok (.arraylength, 1) := by decide +kernel
theorem d_NT_init_27 : decode b_NT_init 27 = .ok (.if_icmp .ge 21, 3) := by decide +kernel
theorem d_NT_init_30 : decode b_NT_init 30 = .ok (.aload_n 0, 1) := by decide +kernel
theorem d_NT_init_31 : decode b_NT_init 31 = .ok (.getfield 15, 3) := by decide +kernel
theorem d_NT_init_34 : decode b_NT_init 34 = .ok (.iload_n 2, 1) := by decide +kernel
theorem d_NT_init_35 : decode b_NT_init 35 = .ok (.aload_n 1, 1) := by decide +kernel
theorem d_NT_init_36 : decode b_NT_init 36 = .ok (.iload_n 2, 1) := by decide +kernel
theorem d_NT_init_37 : decode b_NT_init 37 = .ok (.invokevirtual 21, 3) := by decide +kernel
theorem d_NT_init_40 : decode b_NT_init 40 = .ok (.i2b, 1) := by decide +kernel
theorem d_NT_init_41 : decode b_NT_init 41 = .ok (.bastore, 1) := by decide +kernel
theorem d_NT_init_42 : decode b_NT_init 42 = .ok (.iinc 2 1, 3) := by decide +kernel
theorem d_NT_init_45 : decode b_NT_init 45 = .ok (.goto (-24), 3) := by decide +kernel
theorem d_NT_init_48 : decode b_NT_init 48 = .ok (.return_, 1) := by decide +kernel
theorem d_RW_isFull_0 : decode b_RW_isFull 0 = .ok (.aload_n 0, 1) := by decide +kernel
theorem d_RW_isFull_1 : decode b_RW_isFull 1 = .ok (.getfield 21, 3) := by decide +kernel
theorem d_RW_isFull_4 : decode b_RW_isFull 4 = .ok (.aload_n 0, 1) := by decide +kernel
theorem d_RW_isFull_5 : decode b_RW_isFull 5 = .ok (.getfield 15, 3) := by decide +kernel
theorem d_RW_isFull_8 : decode b_RW_isFull 8 = .ok (.arraylength, 1) := by decide +kernel
theorem d_RW_isFull_9 : decode b_RW_isFull 9 = .ok (.if_icmp .lt 7, 3) := by decide +kernel
theorem d_RW_isFull_12 : decode b_RW_isFull 12 = .ok (.iconst 1, 1) := by decide +kernel
theorem d_RW_isFull_13 : decode b_RW_isFull 13 = .ok (.goto 4, 3) := by decide +kernel
theorem d_RW_isFull_16 : decode b_RW_isFull 16 = .ok (.iconst 0, 1) := by decide +kernel
theorem d_RW_isFull_17 : decode b_RW_isFull 17 = .ok (.ireturn, 1) := by decide +kernel
theorem d_RW_hasSpilled_0 : decode b_RW_hasSpilled 0 = .ok (.aload_n 0, 1) := by decide +kernel
theorem d_RW_hasSpilled_1 : decode b_RW_hasSpilled 1 = .ok (.getfield 25, 3) := by decide +kernel
theorem d_RW_hasSpilled_4 : decode b_RW_hasSpilled 4 = .ok (.ireturn, 1) := by decide +kernel
theorem d_JT_init_0 : decode b_JT_init 0 = .ok (.aload_n 0, 1) := by decide +kernel
theorem d_JT_init_1 : decode b_JT_init 1 = .ok (.aload_n 1, 1) := by decide +kernel
theorem d_JT_init_2 : decode b_JT_init 2 = .ok (.invokevirtual 1, 3) := by decide +kernel
theorem d_JT_init_5 : decode b_JT_init 5 = .ok (.aload_n 2, 1) := by decide +kernel
theorem d_JT_init_6 : decode b_JT_init 6 = .ok (.invokevirtual 1, 3) := by decide +kernel
theorem d_JT_init_9 : decode b_JT_init 9 = .ok (.iadd, 1) := by decide +kernel
theorem d_JT_init_10 : decode b_JT_init 10 = .ok (.aload_n 1, 1) := by decide +kernel
theorem d_JT_init_11 : decode b_JT_init 11 = .ok (.invokevirtual 7, 3) := by decide +kernel
theorem d_JT_init_14 : decode b_JT_init 14 = .ok (.ifCond .eq 14, 3) := by decide +kernel
theorem d_JT_init_17 : decode b_JT_init 17 = .ok (.aload_n 2, 1) := by decide +kernel
theorem d_JT_init_18 : decode b_JT_init 18 = .ok (.invokevirtual 7, 3) := by decide +kernel
theorem d_JT_init_21 : decode b_JT_init 21 = .ok (.ifCond .eq 7, 3) := by decide +kernel
theorem d_JT_init_24 : decode b_JT_init 24 = .ok (.iconst 1, 1) := by decide +kernel
theorem d_JT_init_25 : decode b_JT_init 25 = .ok (.goto 4, 3) := by decide +kernel
theorem d_JT_init_28 : decode b_JT_init 28 = .ok (.iconst 0, 1) := by decide +kernel
theorem d_JT_init_29 : decode b_JT_init 29 = .ok (.invokespecial 11, 3) := by decide +kernel
theorem d_JT_init_32 : decode b_JT_init 32 = .ok (.aload_n 0, 1) := by decide +kernel
theorem d_JT_init_33 : decode b_JT_init 33 = .ok (.aload_n 1, 1) := by decide +kernel
theorem d_JT_init_34 : decode b_JT_init 34 = .ok (.putfield 15, 3) := by decide +kernel
theorem d_JT_init_37 : decode b_JT_init 37 = .ok (.aload_n 0, 1) := by decide +kernel
theorem d_JT_init_38 : decode b_JT_init 38 = .ok (.aload_n 2, 1) := by decide +kernel
theorem d_JT_init_39 : decode b_JT_init 39 = .ok (.putfield 21, 3) := by decide +kernel
theorem d_JT_init_42 : decode b_JT_init 42 = .ok (.return_, 1) := by decide +kernel
theorem d_TX_isNarrow_0 : decode b_TX_isNarrow 0 = .ok (.aload_n 0, 1) := by decide +kernel
theorem d_TX_isNarrow_1 : decode b_TX_isNarrow 1 = .ok (.getfield 13, 3) := by decide +kernel
theorem d_TX_isNarrow_4 : decode b_TX_isNarrow 4 = .ok (.ireturn, 1) := by decide +kernel
theorem d_EN_writeText_0 : decode b_EN_writeText 0 = .ok (.iload_n 1, 1) := by decide +kernel
theorem d_EN_writeText_1 : decode b_EN_writeText 1 = .ok (.ifCond .eq 8, 3) := by decide +kernel
theorem d_EN_writeText_4 : decode b_EN_writeText 4 = .ok (.iload_n 1, 1) := by decide +kernel
theorem d_EN_writeText_5 : decode b_EN_writeText 5 = .ok (.iconst 4, 1) := by decide +kernel
theorem d_EN_writeText_6 : decode b_EN_writeText 6 = .ok (.if_icmp .ne 7, 3) := by decide +kernel
theorem d_EN_writeText_9 : decode b_EN_writeText 9 = .ok (.iconst 1, 1) := by decide +kernel
theorem d_EN_writeText_10 : decode b_EN_writeText 10 = .ok (.goto 4, 3) := by decide +kernel
theorem d_EN_writeText_13 : decode b_EN_writeText 13 = .ok (.iconst 0, 1) := by decide +kernel
theorem d_EN_writeText_14 : decode b_EN_writeText 14 = .ok (.istore_n 3, 1) := by decide +kernel
theorem d_EN_writeText_15 : decode b_EN_writeText 15 = .ok (.iconst 0, 1) := by decide +kernel
theorem d_EN_writeText_16 : decode b_EN_writeText 16 = .ok (.istore 4, 2) := by decide +kernel
theorem d_EN_writeText_18 : decode b_EN_writeText 18 = .ok (.iload 4, 2) := by decide +kernel
theorem d_EN_writeText_20 : decode b_EN_writeText 20 = .ok (.aload_n 0, 1) := by decide +kernel
theorem d_EN_writeText_21 : decode b_EN_writeText 21 = .ok (.invokevirtual 9, 3) := by decide +kernel
theorem d_EN_writeText_24 : decode b_EN_writeText 24 = .ok (.if_icmp .ge 47, 3) := by decide +kernel
theorem d_EN_writeText_27 : decode b_EN_writeText 27 = .ok (.iload_n 3, 1) := by decide +kernel
theorem d_EN_writeText_28 : decode b_EN_writeText 28 = .ok (.ifCond .eq 12, 3) := by decide +kernel
theorem d_EN_writeText_31 : decode b_EN_writeText 31 = .ok (.aload_n 0, 1) := by decide +kernel
theorem d_EN_writeText_32 : decode b_EN_writeText 32 = .ok (.iload 4, 2) := by decide +kernel
theorem d_EN_writeText_34 : decode b_EN_writeText 34 = .ok (.invokestatic 15, 3) := by decide +kernel
theorem d_EN_writeText_37 : decode b_EN_writeText 37 = .ok (.goto 9, 3) := by decide +kernel
theorem d_EN_writeText_40 : decode b_EN_writeText 40 = .ok (.aload_n 0, 1) := by decide +kernel
theorem d_EN_writeText_41 : decode b_EN_writeText 41 = .ok (.iload 4, 2) := by decide +kernel
theorem d_EN_writeText_43 : decode b_EN_writeText 43 = .ok (.invokevirtual 19, 3) := by decide +kernel
theorem d_EN_writeText_46 : decode b_EN_writeText 46 = .ok (.istore 5, 2) := by decide +kernel
theorem d_EN_writeText_48 : decode b_EN_writeText 48 = .ok (.iload 5, 2) := by decide +kernel
theorem d_EN_writeText_50 : decode b_EN_writeText 50 = .ok (.iload_n 1, 1) := by decide +kernel
theorem d_EN_writeText_51 : decode b_EN_writeText 51 = .ok (.aload_n 2, 1) := by decide +kernel
theorem d_EN_writeText_52 : decode b_EN_writeText 52 = .ok (.invokestatic 23, 3) := by decide +kernel
theorem d_EN_writeText_55 : decode b_EN_writeText 55 = .ok (.iload 5, 2) := by decide +kernel
theorem d_EN_writeText_57 : decode b_EN_writeText 57 = .ok (.ldc 29, 2) := by decide +kernel
theorem d_EN_writeText_59 : decode b_EN_writeText 59 = .ok (.if_icmp .lt 6, 3) := by decide +kernel
theorem d_EN_writeText_62 : decode b_EN_writeText 62 = .ok (.iinc 4 1, 3) := by decide +kernel
theorem d_EN_writeText_65 : decode b_EN_writeText 65 = .ok (.iinc 4 1, 3) := by decide +kernel
theorem d_EN_writeText_68 : decode b_EN_writeText 68 = .ok (.goto (-50), 3) := by decide +kernel
theorem d_EN_writeText_71 : decode b_EN_writeText 71 = .ok (.return_, 1) := by decide +kernel
theorem d_EN_writeCode_0 : decode b_EN_writeCode 0 = .ok (.iload_n 1, 1) := by decide +kernel
theorem d_EN_writeCode_1 : decode b_EN_writeCode 1 = .ok (.tableswitch 108 0 3 #[31, 58, 66, 87], 31) := by decide +kernel
theorem d_EN_writeCode_32 : decode b_EN_writeCode 32 = .ok (.iload_n 0, 1) := by decide +kernel
theorem d_EN_writeCode_33 : decode b_EN_writeCode 33 = .ok (.invokestatic 30, 3) := by decide +kernel
theorem d_EN_writeCode_36 : decode b_EN_writeCode 36 = .ok (.ifCond .ne 10, 3) := by decide +kernel
theorem d_EN_writeCode_39 : decode b_EN_writeCode 39 = .ok (.iload_n 0, 1) := by decide +kernel
theorem d_EN_writeCode_40 : decode b_EN_writeCode 40 = .ok (.invokestatic 34, 3) := by decide +kernel
theorem d_EN_writeCode_43 : decode b_EN_writeCode 43 = .ok (.ifCond .eq 8, 3) := by decide +kernel
theorem d_EN_writeCode_46 : decode b_EN_writeCode 46 = .ok (.bipush 63, 2) := by decide +kernel
theorem d_EN_writeCode_48 : decode b_EN_writeCode 48 = .ok (.goto 4, 3) := by decide +kernel
theorem d_EN_writeCode_51 : decode b_EN_writeCode 51 = .ok (.iload_n 0, 1) := by decide +kernel
theorem d_EN_writeCode_52 : decode b_EN_writeCode 52 = .ok (.aload_n 2, 1) := by decide +kernel
theorem d_EN_writeCode_53 : decode b_EN_writeCode 53 = .ok (.invokestatic 37, 3) := by decide +kernel
theorem d_EN_writeCode_56 : decode b_EN_writeCode 56 = .ok (.goto 70, 3) := by decide +kernel
theorem d_EN_writeCode_59 : decode b_EN_writeCode 59 = .ok (.iload_n 0, 1) := by decide +kernel
theorem d_EN_writeCode_60 : decode b_EN_writeCode 60 = .ok (.aload_n 2, 1) := by decide +kernel
theorem d_EN_writeCode_61 : decode b_EN_writeCode 61 = .ok (.invokestatic 41, 3) := by decide +kernel
theorem d_EN_writeCode_64 : decode b_EN_writeCode 64 = .ok (.goto 62, 3) := by decide +kernel
theorem d_EN_writeCode_67 : decode b_EN_writeCode 67 = .ok (.aload_n 2, 1) := by decide +kernel
theorem d_EN_writeCode_68 : decode b_EN_writeCode 68 = .ok (.iload_n 0, 1) := by decide +kernel
theorem d_EN_writeCode_69 : decode b_EN_writeCode 69 = .ok (.sipush 256, 3) := by decide +kernel
theorem d_EN_writeCode_72 : decode b_EN_writeCode 72 = .ok (.idiv, 1) := by decide +kernel
theorem d_EN_writeCode_73 : decode b_EN_writeCode 73 = .ok (.invokevirtual 44, 3) := by decide +kernel
theorem d_EN_writeCode_76 : decode b_EN_writeCode 76 = .ok (.aload_n 2, 1) := by decide +kernel
theorem d_EN_writeCode_77 : decode b_EN_writeCode 77 = .ok (.iload_n 0, 1) := by decide +kernel
theorem d_EN_writeCode_78 : decode b_EN_writeCode 78 = .ok (.sipush 256, 3) := by decide +kernel
theorem d_EN_writeCode_81 : decode b_EN_writeCode 81 = .ok (.irem, 1) := by decide +kernel
theorem d_EN_writeCode_82 : decode b_EN_writeCode 82 = .ok (.invokevirtual 44, 3) := by decide +kernel
theorem d_EN_writeCode_85 : decode b_EN_writeCode 85 = .ok (.goto 41, 3) := by decide +kernel
theorem d_EN_writeCode_88 : decode b_EN_writeCode 88 = .ok (.aload_n 2, 1) := by decide +kernel
theorem d_EN_writeCode_89 : decode b_EN_writeCode 89 = .ok (.iload_n 0, 1) := by decide +kernel
theorem d_EN_writeCode_90 : decode b_EN_writeCode 90 = .ok (.sipush 256, 3) := by decide +kernel
theorem d_EN_writeCode_93 : decode b_EN_writeCode 93 = .ok (.irem, 1) := by decide +kernel
theorem d_EN_writeCode_94 : decode b_EN_writeCode 94 = .ok (.invokevirtual 44, 3) := by decide +kernel
theorem d_EN_writeCode_97 : decode b_EN_writeCode 97 = .ok (.aload_n 2, 1) := by decide +kernel
theorem d_EN_writeCode_98 : decode b_EN_writeCode 98 = .ok (.iload_n 0, 1) := by decide +kernel
theorem d_EN_writeCode_99 : decode b_EN_writeCode 99 = .ok (.sipush 256, 3) := by decide +kernel
theorem d_EN_writeCode_102 : decode b_EN_writeCode 102 = .ok (.idiv, 1) := by decide +kernel
theorem d_EN_writeCode_103 : decode b_EN_writeCode 103 = .ok (.invokevirtual 44, 3) := by decide +kernel
theorem d_EN_writeCode_106 : decode b_EN_writeCode 106 = .ok (.goto 20, 3) := by decide +kernel
theorem d_EN_writeCode_109 : decode b_EN_writeCode 109 = .ok (.aload_n 2, 1) := by decide +kernel
theorem d_EN_writeCode_110 : decode b_EN_writeCode 110 = .ok (.iload_n 0, 1) := by decide +kernel
theorem d_EN_writeCode_111 : decode b_EN_writeCode 111 = .ok (.sipush 256, 3) := by decide +kernel
theorem d_EN_writeCode_114 : decode b_EN_writeCode 114 = .ok (.if_icmp .ge 7, 3) := by decide +kernel
theorem d_EN_writeCode_117 : decode b_EN_writeCode 117 = .ok (.iload_n 0, 1) := by decide +kernel
theorem d_EN_writeCode_118 : decode b_EN_writeCode 118 = .ok (.goto 5, 3) := by decide +kernel
theorem d_EN_writeCode_121 : decode b_EN_writeCode 121 = .ok (.bipush 63, 2) := by decide +kernel
theorem d_EN_writeCode_123 : decode b_EN_writeCode 123 = .ok (.invokevirtual 44, 3) := by decide +kernel
theorem d_EN_writeCode_126 : decode b_EN_writeCode 126 = .ok (.return_, 1) := by decide +kernel
theorem d_EN_writeUtf8_0 : decode b_EN_writeUtf8 0 = .ok (.iload_n 0, 1) := by decide +kernel
theorem d_EN_writeUtf8_1 : decode b_EN_writeUtf8 1 = .ok (.sipush 128, 3) := by decide +kernel
theorem d_EN_writeUtf8_4 : decode b_EN_writeUtf8 4 = .ok (.if_icmp .ge 11, 3) := by decide +kernel
theorem d_EN_writeUtf8_7 : decode b_EN_writeUtf8 7 = .ok (.aload_n 1, 1) := by decide +kernel
theorem d_EN_writeUtf8_8 : decode b_EN_writeUtf8 8 = .ok (.iload_n 0, 1) := by decide +kernel
theorem d_EN_writeUtf8_9 : decode b_EN_writeUtf8 9 = .ok (.invokevirtual 44, 3) := by decide +kernel
theorem d_EN_writeUtf8_12 : decode b_EN_writeUtf8 12 = .ok (.goto 141, 3) := by decide +kernel
theorem d_EN_writeUtf8_15 : decode b_EN_writeUtf8 15 = .ok (.iload_n 0, 1) := by decide +kernel
theorem d_EN_writeUtf8_16 : decode b_EN_writeUtf8 16 = .ok (.sipush 2048, 3) := by decide +kernel
theorem d_EN_writeUtf8_19 : decode b_EN_writeUtf8 19 = .ok (.if_icmp .ge 30, 3) := by decide +kernel
theorem d_EN_writeUtf8_22 : decode b_EN_writeUtf8 22 = .ok (.aload_n 1, 1) := by decide +kernel
theorem d_EN_writeUtf8_23 : decode b_EN_writeUtf8 23 = .ok (.sipush 192, 3) := by decide +kernel
theorem d_EN_writeUtf8_26 : decode b_EN_writeUtf8 26 = .ok (.iload_n 0, 1) := by decide +kernel
theorem d_EN_writeUtf8_27 : decode b_EN_writeUtf8 27 = .ok (.bipush 64, 2) := by decide +kernel
theorem d_EN_writeUtf8_29 : decode b_EN_writeUtf8 29 = .ok (.idiv, 1) := by decide +kernel
theorem d_EN_writeUtf8_30 : decode b_EN_writeUtf8 30 = .ok (.iadd, 1) := by decide +kernel
theorem d_EN_writeUtf8_31 : decode b_EN_writeUtf8 31 = .ok (.invokevirtual 44, 3) := by decide +kernel
theorem d_EN_writeUtf8_34 : decode b_EN_writeUtf8 34 = .ok (.aload_n 1, 1) := by decide +kernel
theorem d_EN_writeUtf8_35 : decode b_EN_writeUtf8 35 = .ok (.sipush 128, 3) := by decide +kernel
theorem d_EN_writeUtf8_38 : decode b_EN_writeUtf8 38 = .ok (.iload_n 0, 1) := by decide +kernel
theorem d_EN_writeUtf8_39 : decode b_EN_writeUtf8 39 = .ok (.bipush 64, 2) := by decide +kernel
theorem d_EN_writeUtf8_41 : decode b_EN_writeUtf8 41 = .ok (.irem, 1) := by decide +kernel
theorem d_EN_writeUtf8_42 : decode b_EN_writeUtf8 42 = .ok (.iadd, 1) := by decide +kernel
theorem d_EN_writeUtf8_43 : decode b_EN_writeUtf8 43 = .ok (.invokevirtual 44, 3) := by decide +kernel
theorem d_EN_writeUtf8_46 : decode b_EN_writeUtf8 46 = .ok (.goto 107, 3) := by decide +kernel
theorem d_EN_writeUtf8_49 : decode b_EN_writeUtf8 49 = .ok (.iload_n 0, 1) := by decide +kernel
theorem d_EN_writeUtf8_50 : decode b_EN_writeUtf8 50 = .ok (.ldc 29, 2) := by decide +kernel
theorem d_EN_writeUtf8_52 : decode b_EN_writeUtf8 52 = .ok (.if_icmp .ge 46, 3) := by decide +kernel
theorem d_EN_writeUtf8_55 : decode b_EN_writeUtf8 55 = .ok (.aload_n 1, 1) := by decide +kernel
theorem d_EN_writeUtf8_56 : decode b_EN_writeUtf8 56 = .ok (.sipush 224, 3) := by decide +kernel
theorem d_EN_writeUtf8_59 : decode b_EN_writeUtf8 59 = .ok (.iload_n 0, 1) := by decide +kernel
theorem d_EN_writeUtf8_60 : decode b_EN_writeUtf8 60 = .ok (.sipush 4096, 3) := by decide +kernel
theorem d_EN_writeUtf8_63 : decode b_EN_writeUtf8 63 = .ok (.idiv, 1) := by decide +kernel
theorem d_EN_writeUtf8_64 : decode b_EN_writeUtf8 64 = .ok (.iadd, 1) := by decide +kernel
theorem d_EN_writeUtf8_65 : decode b_EN_writeUtf8 65 = .ok (.invokevirtual 44, 3) := by decide +kernel
theorem d_EN_writeUtf8_68 : decode b_EN_writeUtf8 68 = .ok (.aload_n 1, 1) := by decide +kernel
theorem d_EN_writeUtf8_69 : decode b_EN_writeUtf8 69 = .ok (.sipush 128, 3) := by decide +kernel
theorem d_EN_writeUtf8_72 : decode b_EN_writeUtf8 72 = .ok (.iload_n 0, 1) := by decide +kernel
theorem d_EN_writeUtf8_73 : decode b_EN_writeUtf8 73 = .ok (.bipush 64, 2) := by decide +kernel
theorem d_EN_writeUtf8_75 : decode b_EN_writeUtf8 75 = .ok (.idiv, 1) := by decide +kernel
theorem d_EN_writeUtf8_76 : decode b_EN_writeUtf8 76 = .ok (.bipush 64, 2) := by decide +kernel
theorem d_EN_writeUtf8_78 : decode b_EN_writeUtf8 78 = .ok (.irem, 1) := by decide +kernel
theorem d_EN_writeUtf8_79 : decode b_EN_writeUtf8 79 = .ok (.iadd, 1) := by decide +kernel
theorem d_EN_writeUtf8_80 : decode b_EN_writeUtf8 80 = .ok (.invokevirtual 44, 3) := by decide +kernel
theorem d_EN_writeUtf8_83 : decode b_EN_writeUtf8 83 = .ok (.aload_n 1, 1) := by decide +kernel
theorem d_EN_writeUtf8_84 : decode b_EN_writeUtf8 84 = .ok (.sipush 128, 3) := by decide +kernel
theorem d_EN_writeUtf8_87 : decode b_EN_writeUtf8 87 = .ok (.iload_n 0, 1) := by decide +kernel
theorem d_EN_writeUtf8_88 : decode b_EN_writeUtf8 88 = .ok (.bipush 64, 2) := by decide +kernel
theorem d_EN_writeUtf8_90 : decode b_EN_writeUtf8 90 = .ok (.irem, 1) := by decide +kernel
theorem d_EN_writeUtf8_91 : decode b_EN_writeUtf8 91 = .ok (.iadd, 1) := by decide +kernel
theorem d_EN_writeUtf8_92 : decode b_EN_writeUtf8 92 = .ok (.invokevirtual 44, 3) := by decide +kernel
theorem d_EN_writeUtf8_95 : decode b_EN_writeUtf8 95 = .ok (.goto 58, 3) := by decide +kernel
theorem d_EN_writeUtf8_98 : decode b_EN_writeUtf8 98 = .ok (.aload_n 1, 1) := by decide +kernel
theorem d_EN_writeUtf8_99 : decode b_EN_writeUtf8 99 = .ok (.sipush 240, 3) := by decide +kernel
theorem d_EN_writeUtf8_102 : decode b_EN_writeUtf8 102 = .ok (.iload_n 0, 1) := by decide +kernel
theorem d_EN_writeUtf8_103 : decode b_EN_writeUtf8 103 = .ok (.ldc 50, 2) := by decide +kernel
theorem d_EN_writeUtf8_105 : decode b_EN_writeUtf8 105 = .ok (.idiv, 1) := by decide +kernel
theorem d_EN_writeUtf8_106 : decode b_EN_writeUtf8 106 = .ok (.iadd, 1) := by decide +kernel
theorem d_EN_writeUtf8_107 : decode b_EN_writeUtf8 107 = .ok (.invokevirtual 44, 3) := by decide +kernel
theorem d_EN_writeUtf8_110 : decode b_EN_writeUtf8 110 = .ok (.aload_n 1, 1) := by decide +kernel
theorem d_EN_writeUtf8_111 : decode b_EN_writeUtf8 111 = .ok (.sipush 128, 3) := by decide +kernel
theorem d_EN_writeUtf8_114 : decode b_EN_writeUtf8 114 = .ok (.iload_n 0, 1) := by decide +kernel
theorem d_EN_writeUtf8_115 : decode b_EN_writeUtf8 115 = .ok (.sipush 4096, 3) := by decide +kernel
theorem d_EN_writeUtf8_118 : decode b_EN_writeUtf8 118 = .ok (.idiv, 1) := by decide +kernel
theorem d_EN_writeUtf8_119 : decode b_EN_writeUtf8 119 = .ok (.bipush 64, 2) := by decide +kernel
theorem d_EN_writeUtf8_121 : decode b_EN_writeUtf8 121 = .ok (.irem, 1) := by decide +kernel
theorem d_EN_writeUtf8_122 : decode b_EN_writeUtf8 122 = .ok (.iadd, 1) := by decide +kernel
theorem d_EN_writeUtf8_123 : decode b_EN_writeUtf8 123 = .ok (.invokevirtual 44, 3) := by decide +kernel
theorem d_EN_writeUtf8_126 : decode b_EN_writeUtf8 126 = .ok (.aload_n 1, 1) := by decide +kernel
theorem d_EN_writeUtf8_127 : decode b_EN_writeUtf8 127 = .ok (.sipush 128, 3) := by decide +kernel
theorem d_EN_writeUtf8_130 : decode b_EN_writeUtf8 130 = .ok (.iload_n 0, 1) := by decide +kernel
theorem d_EN_writeUtf8_131 : decode b_EN_writeUtf8 131 = .ok (.bipush 64, 2) := by decide +kernel
theorem d_EN_writeUtf8_133 : decode b_EN_writeUtf8 133 = .ok (.idiv, 1) := by decide +kernel
theorem d_EN_writeUtf8_134 : decode b_EN_writeUtf8 134 = .ok (.bipush 64, 2) := by decide +kernel
theorem d_EN_writeUtf8_136 : decode b_EN_writeUtf8 136 = .ok (.irem, 1) := by decide +kernel
theorem d_EN_writeUtf8_137 : decode b_EN_writeUtf8 137 = .ok (.iadd, 1) := by decide +kernel
theorem d_EN_writeUtf8_138 : decode b_EN_writeUtf8 138 = .ok (.invokevirtual 44, 3) := by decide +kernel
theorem d_EN_writeUtf8_141 : decode b_EN_writeUtf8 141 = .ok (.aload_n 1, 1) := by decide +kernel
theorem d_EN_writeUtf8_142 : decode b_EN_writeUtf8 142 = .ok (.sipush 128, 3) := by decide +kernel
theorem d_EN_writeUtf8_145 : decode b_EN_writeUtf8 145 = .ok (.iload_n 0, 1) := by decide +kernel
theorem d_EN_writeUtf8_146 : decode b_EN_writeUtf8 146 = .ok (.bipush 64, 2) := by decide +kernel
theorem d_EN_writeUtf8_148 : decode b_EN_writeUtf8 148 = .ok (.irem, 1) := by decide +kernel
theorem d_EN_writeUtf8_149 : decode b_EN_writeUtf8 149 = .ok (.iadd, 1) := by decide +kernel
theorem d_EN_writeUtf8_150 : decode b_EN_writeUtf8 150 = .ok (.invokevirtual 44, 3) := by decide +kernel
theorem d_EN_writeUtf8_153 : decode b_EN_writeUtf8 153 = .ok (.return_, 1) := by decide +kernel
theorem d_EN_writeModified_0 : decode b_EN_writeModified 0 = .ok (.iload_n 0, 1) := by decide +kernel
theorem d_EN_writeModified_1 : decode b_EN_writeModified 1 = .ok (.ifCond .ne 20, 3) := by decide +kernel
theorem d_EN_writeModified_4 : decode b_EN_writeModified 4 = .ok (.aload_n 1, 1) := by decide +kernel
theorem d_EN_writeModified_5 : decode b_EN_writeModified 5 = .ok (.sipush 192, 3) := by decide +kernel
theorem d_EN_writeModified_8 : decode b_EN_writeModified 8 = .ok (.invokevirtual 44, 3) := by decide +kernel
theorem d_EN_writeModified_11 : decode b_EN_writeModified 11 = .ok (.aload_n 1, 1) := by decide +kernel
theorem d_EN_writeModified_12 : decode b_EN_writeModified 12 = .ok (.sipush 128, 3) := by decide +kernel
theorem d_EN_writeModified_15 : decode b_EN_writeModified 15 = .ok (.invokevirtual 44, 3) := by decide +kernel
theorem d_EN_writeModified_18 : decode b_EN_writeModified 18 = .ok (.goto 8, 3) := by decide +kernel
theorem d_EN_writeModified_21 : decode b_EN_writeModified 21 = .ok (.iload_n 0, 1) := by decide +kernel
theorem d_EN_writeModified_22 : decode b_EN_writeModified 22 = .ok (.aload_n 1, 1) := by decide +kernel
theorem d_EN_writeModified_23 : decode b_EN_writeModified 23 = .ok (.invokestatic 37, 3) := by decide +kernel
theorem d_EN_writeModified_26 : decode b_EN_writeModified 26 = .ok (.return_, 1) := by decide +kernel
theorem d_DC_readAll_0 : decode b_DC_readAll 0 = .ok (.iconst 1, 1) := by decide +kernel
theorem d_DC_readAll_1 : decode b_DC_readAll 1 = .ok (.istore 4, 2) := by decide +kernel
theorem d_DC_readAll_3 : decode b_DC_readAll 3 = .ok (.iconst 0, 1) := by decide +kernel
theorem d_DC_readAll_4 : decode b_DC_readAll 4 = .ok (.istore 5, 2) := by decide +kernel
theorem d_DC_readAll_6 : decode b_DC_readAll 6 = .ok (.iload 5, 2) := by decide +kernel
theorem d_DC_readAll_8 : decode b_DC_readAll 8 = .ok (.aload_n 1, 1) := by decide +kernel
theorem d_DC_readAll_9 : decode b_DC_readAll 9 = .ok (.invokevirtual 9, 3) := by decide +kernel
theorem d_DC_readAll_12 : decode b_DC_readAll 12 = .ok (.if_icmp .ge 68, 3) := by decide +kernel
theorem d_DC_readAll_15 : decode b_DC_readAll 15 = .ok (.aload_n 0, 1) := by decide +kernel
theorem d_DC_readAll_16 : decode b_DC_readAll 16 = .ok (.aload_n 1, 1) := by decide +kernel
theorem d_DC_readAll_17 : decode b_DC_readAll 17 = .ok (.iload 5, 2) := by decide +kernel
theorem d_DC_readAll_19 : decode b_DC_readAll 19 = .ok (.iload_n 2, 1) := by decide +kernel
theorem d_DC_readAll_20 : decode b_DC_readAll 20 = .ok (.invokevirtual 15, 3) := by decide +kernel
theorem d_DC_readAll_23 : decode b_DC_readAll 23 = .ok (.iload 4, 2) := by decide +kernel
theorem d_DC_readAll_25 : decode b_DC_readAll 25 = .ok (.ifCond .eq 15, 3) := by decide +kernel
theorem d_DC_readAll_28 : decode b_DC_readAll 28 = .ok (.aload_n 0, 1) := by decide +kernel
theorem d_DC_readAll_29 : decode b_DC_readAll 29 = .ok (.getfield 21, 3) := by decide +kernel
theorem d_DC_readAll_32 : decode b_DC_readAll 32 = .ok (.iconst (-1), 1) := by decide +kernel
theorem d_DC_readAll_33 : decode b_DC_readAll 33 = .ok (.if_icmp .eq 7, 3) := by decide +kernel
theorem d_DC_readAll_36 : decode b_DC_readAll 36 = .ok (.iconst 1, 1) := by decide +kernel
theorem d_DC_readAll_37 : decode b_DC_readAll 37 = .ok (.goto 4, 3) := by decide +kernel
theorem d_DC_readAll_40 : decode b_DC_readAll 40 = .ok (.iconst 0, 1) := by decide +kernel
theorem d_DC_readAll_41 : decode b_DC_readAll 41 = .ok (.istore 4, 2) := by decide +kernel
theorem d_DC_readAll_43 : decode b_DC_readAll 43 = .ok (.aload_n 0, 1) := by decide +kernel
theorem d_DC_readAll_44 : decode b_DC_readAll 44 = .ok (.getfield 21, 3) := by decide +kernel
theorem d_DC_readAll_47 : decode b_DC_readAll 47 = .ok (.iconst (-1), 1) := by decide +kernel
theorem d_DC_readAll_48 : decode b_DC_readAll 48 = .ok (.if_icmp .ne 8, 3) := by decide +kernel
theorem d_DC_readAll_51 : decode b_DC_readAll 51 = .ok (.ldc 25, 2) := by decide +kernel
theorem d_DC_readAll_53 : decode b_DC_readAll 53 = .ok (.goto 7, 3) := by decide +kernel
theorem d_DC_readAll_56 : decode b_DC_readAll 56 = .ok (.aload_n 0, 1) := by decide +kernel
theorem d_DC_readAll_57 : decode b_DC_readAll 57 = .ok (.getfield 21, 3) := by decide +kernel
theorem d_DC_readAll_60 : decode b_DC_readAll 60 = .ok (.aload_n 3, 1) := by decide +kernel
theorem d_DC_readAll_61 : decode b_DC_readAll 61 = .ok (.invokestatic 26, 3) := by decide +kernel
theorem d_DC_readAll_64 : decode b_DC_readAll 64 = .ok (.iload 5, 2) := by decide +kernel
theorem d_DC_readAll_66 : decode b_DC_readAll 66 = .ok (.aload_n 0, 1) := by decide +kernel
theorem d_DC_readAll_67 : decode b_DC_readAll 67 = .ok (.getfield 30, 3) := by decide +kernel
theorem d_DC_readAll_70 : decode b_DC_readAll 70 = .ok (.iconst 1, 1) := by decide +kernel
theorem d_DC_readAll_71 : decode b_DC_readAll 71 = .ok (.invokestatic 33, 3) := by decide +kernel
theorem d_DC_readAll_74 : decode b_DC_readAll 74 = .ok (.iadd, 1) := by decide +kernel
theorem d_DC_readAll_75 : decode b_DC_readAll 75 = .ok (.istore 5, 2) := by decide +kernel
theorem d_DC_readAll_77 : decode b_DC_readAll 77 = .ok (.goto (-71), 3) := by decide +kernel
theorem d_DC_readAll_80 : decode b_DC_readAll 80 = .ok (.iload 4, 2) := by decide +kernel
theorem d_DC_readAll_82 : decode b_DC_readAll 82 = .ok (.ireturn, 1) := by decide +kernel
theorem d_DC_readRow_0 : decode b_DC_readRow 0 = .ok (.iload_n 3, 1) := by decide +kernel
theorem d_DC_readRow_1 : decode b_DC_readRow 1 = .ok (.tableswitch 105 0 3 #[31, 49, 67, 86], 31) := by decide +kernel
theorem d_DC_readRow_32 : decode b_DC_readRow 32 = .ok (.aload_n 0, 1) := by decide +kernel
theorem d_DC_readRow_33 : decode b_DC_readRow 33 = .ok (.aload_n 1, 1) := by decide +kernel
theorem d_DC_readRow_34 : decode b_DC_readRow 34 = .ok (.iload_n 2, 1) := by decide +kernel
theorem d_DC_readRow_35 : decode b_DC_readRow 35 = .ok (.aload_n 1, 1) := by decide +kernel
theorem d_DC_readRow_36 : decode b_DC_readRow 36 = .ok (.iload_n 2, 1) := by decide +kernel
theorem d_DC_readRow_37 : decode b_DC_readRow 37 = .ok (.invokevirtual 46, 3) := by decide +kernel
theorem d_DC_readRow_40 : decode b_DC_readRow 40 = .ok (.invokestatic 50, 3) := by decide +kernel
theorem d_DC_readRow_43 : decode b_DC_readRow 43 = .ok (.iconst 0, 1) := by decide +kernel
theorem d_DC_readRow_44 : decode b_DC_readRow 44 = .ok (.invokevirtual 53, 3) := by decide +kernel
theorem d_DC_readRow_47 : decode b_DC_readRow 47 = .ok (.goto 69, 3) := by decide +kernel
theorem d_DC_readRow_50 : decode b_DC_readRow 50 = .ok (.aload_n 0, 1) := by decide +kernel
theorem d_DC_readRow_51 : decode b_DC_readRow 51 = .ok (.aload_n 1, 1) := by decide +kernel
theorem d_DC_readRow_52 : decode b_DC_readRow 52 = .ok (.iload_n 2, 1) := by decide +kernel
theorem d_DC_readRow_53 : decode b_DC_readRow 53 = .ok (.aload_n 1, 1) := by decide +kernel
theorem d_DC_readRow_54 : decode b_DC_readRow 54 = .ok (.iload_n 2, 1) := by decide +kernel
theorem d_DC_readRow_55 : decode b_DC_readRow 55 = .ok (.invokevirtual 46, 3) := by decide +kernel
theorem d_DC_readRow_58 : decode b_DC_readRow 58 = .ok (.invokestatic 57, 3) := by decide +kernel
theorem d_DC_readRow_61 : decode b_DC_readRow 61 = .ok (.iconst 1, 1) := by decide +kernel
theorem d_DC_readRow_62 : decode b_DC_readRow 62 = .ok (.invokevirtual 53, 3) := by decide +kernel
theorem d_DC_readRow_65 : decode b_DC_readRow 65 = .ok (.goto 51, 3) := by decide +kernel
theorem d_DC_readRow_68 : decode b_DC_readRow 68 = .ok (.aload_n 0, 1) := by decide +kernel
theorem d_DC_readRow_69 : decode b_DC_readRow 69 = .ok (.aload_n 1, 1) := by decide +kernel
theorem d_DC_readRow_70 : decode b_DC_readRow 70 = .ok (.iload_n 2, 1) := by decide +kernel
theorem d_DC_readRow_71 : decode b_DC_readRow 71 = .ok (.invokevirtual 46, 3) := by decide +kernel
theorem d_DC_readRow_74 : decode b_DC_readRow 74 = .ok (.aload_n 1, 1) := by decide +kernel
theorem d_DC_readRow_75 : decode b_DC_readRow 75 = .ok (.iload_n 2, 1) := by decide +kernel
theorem d_DC_readRow_76 : decode b_DC_readRow 76 = .ok (.iconst 1, 1) := by decide +kernel
theorem d_DC_readRow_77 : decode b_DC_readRow 77 = .ok (.iadd, 1) := by decide +kernel
theorem d_DC_readRow_78 : decode b_DC_readRow 78 = .ok (.invokevirtual 46, 3) := by decide +kernel
theorem d_DC_readRow_81 : decode b_DC_readRow 81 = .ok (.invokevirtual 60, 3) := by decide +kernel
theorem d_DC_readRow_84 : decode b_DC_readRow 84 = .ok (.goto 32, 3) := by decide +kernel
theorem d_DC_readRow_87 : decode b_DC_readRow 87 = .ok (.aload_n 0, 1) := by decide +kernel
theorem d_DC_readRow_88 : decode b_DC_readRow 88 = .ok (.aload_n 1, 1) := by decide +kernel
theorem d_DC_readRow_89 : decode b_DC_readRow 89 = .ok (.iload_n 2, 1) := by decide +kernel
theorem d_DC_readRow_90 : decode b_DC_readRow 90 = .ok (.iconst 1, 1) := by decide +kernel
theorem d_DC_readRow_91 : decode b_DC_readRow 91 = .ok (.iadd, 1) := by decide +kernel
theorem d_DC_readRow_92 : decode b_DC_readRow 92 = .ok (.invokevirtual 46, 3) := by decide +kernel
theorem d_DC_readRow_95 : decode b_DC_readRow 95 = .ok (.aload_n 1, 1) := by decide +kernel
theorem d_DC_readRow_96 : decode b_DC_readRow 96 = .ok (.iload_n 2, 1) := by decide +kernel
theorem d_DC_readRow_97 : decode b_DC_readRow 97 = .ok (.invokevirtual 46, 3) := by decide +kernel
theorem d_DC_readRow_100 : decode b_DC_readRow 100 = .ok (.invokevirtual 60, 3) := by decide +kernel
theorem d_DC_readRow_103 : decode b_DC_readRow 103 = .ok (.goto 13, 3) := by decide +kernel
theorem d_DC_readRow_106 : decode b_DC_readRow 106 = .ok (.aload_n 0, 1) := by decide +kernel
theorem d_DC_readRow_107 : decode b_DC_readRow 107 = .ok (.aload_n 1, 1) := by decide +kernel
theorem d_DC_readRow_108 : decode b_DC_readRow 108 = .ok (.iload_n 2, 1) := by decide +kernel
theorem d_DC_readRow_109 : decode b_DC_readRow 109 = .ok (.invokevirtual 46, 3) := by decide +kernel
theorem d_DC_readRow_112 : decode b_DC_readRow 112 = .ok (.iconst 1, 1) := by decide +kernel
theorem d_DC_readRow_113 : decode b_DC_readRow 113 = .ok (.invokevirtual 64, 3) := by decide +kernel
theorem d_DC_readRow_116 : decode b_DC_readRow 116 = .ok (.return_, 1) := by decide +kernel
theorem d_DC_goodWidthUtf8_0 : decode b_DC_goodWidthUtf8 0 = .ok (.iload_n 0, 1) := by decide +kernel
theorem d_DC_goodWidthUtf8_1 : decode b_DC_goodWidthUtf8 1 = .ok (.sipush 128, 3) := by decide +kernel
theorem d_DC_goodWidthUtf8_4 : decode b_DC_goodWidthUtf8 4 = .ok (.if_icmp .ge 5, 3) := by decide +kernel
theorem d_DC_goodWidthUtf8_7 : decode b_DC_goodWidthUtf8 7 = .ok (.iconst 1, 1) := by decide +kernel
theorem d_DC_goodWidthUtf8_8 : decode b_DC_goodWidthUtf8 8 = .ok (.ireturn, 1) := by decide +kernel
theorem d_DC_goodWidthUtf8_9 : decode b_DC_goodWidthUtf8 9 = .ok (.iload_n 0, 1) := by decide +kernel
theorem d_DC_goodWidthUtf8_10 : decode b_DC_goodWidthUtf8 10 = .ok (.sipush 194, 3) := by decide +kernel
theorem d_DC_goodWidthUtf8_13 : decode b_DC_goodWidthUtf8 13 = .ok (.if_icmp .lt 10, 3) := by decide +kernel
theorem d_DC_goodWidthUtf8_16 : decode b_DC_goodWidthUtf8 16 = .ok (.iload_n 0, 1) := by decide +kernel
theorem d_DC_goodWidthUtf8_17 : decode b_DC_goodWidthUtf8 17 = .ok (.sipush 244, 3) := by decide +kernel
theorem d_DC_goodWidthUtf8_20 : decode b_DC_goodWidthUtf8 20 = .ok (.if_icmp .le 5, 3) := by decide +kernel
theorem d_DC_goodWidthUtf8_23 : decode b_DC_goodWidthUtf8 23 = .ok (.iconst 0, 1) := by decide +kernel
theorem d_DC_goodWidthUtf8_24 : decode b_DC_goodWidthUtf8 24 = .ok (.ireturn, 1) := by decide +kernel
theorem d_DC_goodWidthUtf8_25 : decode b_DC_goodWidthUtf8 25 = .ok (.iload_n 0, 1) := by decide +kernel
theorem d_DC_goodWidthUtf8_26 : decode b_DC_goodWidthUtf8 26 = .ok (.sipush 224, 3) := by decide +kernel
theorem d_DC_goodWidthUtf8_29 : decode b_DC_goodWidthUtf8 29 = .ok (.if_icmp .ge 7, 3) := by decide +kernel
theorem d_DC_goodWidthUtf8_32 : decode b_DC_goodWidthUtf8 32 = .ok (.iconst 2, 1) := by decide +kernel
theorem d_DC_goodWidthUtf8_33 : decode b_DC_goodWidthUtf8 33 = .ok (.goto 15, 3) := by decide +kernel
theorem d_DC_goodWidthUtf8_36 : decode b_DC_goodWidthUtf8 36 = .ok (.iload_n 0, 1) := by decide +kernel
theorem d_DC_goodWidthUtf8_37 : decode b_DC_goodWidthUtf8 37 = .ok (.sipush 240, 3) := by decide +kernel
theorem d_DC_goodWidthUtf8_40 : decode b_DC_goodWidthUtf8 40 = .ok (.if_icmp .ge 7, 3) := by decide +kernel
theorem d_DC_goodWidthUtf8_43 : decode b_DC_goodWidthUtf8 43 = .ok (.iconst 3, 1) := by decide +kernel
theorem d_DC_goodWidthUtf8_44 : decode b_DC_goodWidthUtf8 44 = .ok (.goto 4, 3) := by decide +kernel
theorem d_DC_goodWidthUtf8_47 : decode b_DC_goodWidthUtf8 47 = .ok (.iconst 4, 1) := by decide +kernel
theorem d_DC_goodWidthUtf8_48 : decode b_DC_goodWidthUtf8 48 = .ok (.ireturn, 1) := by decide +kernel
theorem d_DC_readPrefixed_0 : decode b_DC_readPrefixed 0 = .ok (.iload_n 3, 1) := by decide +kernel
theorem d_DC_readPrefixed_1 : decode b_DC_readPrefixed 1 = .ok (.ifCond .ne 10, 3) := by decide +kernel
theorem d_DC_readPrefixed_4 : decode b_DC_readPrefixed 4 = .ok (.aload_n 0, 1) := by decide +kernel
theorem d_DC_readPrefixed_5 : decode b_DC_readPrefixed 5 = .ok (.iconst (-1), 1) := by decide +kernel
theorem d_DC_readPrefixed_6 : decode b_DC_readPrefixed 6 = .ok (.iconst 1, 1) := by decide +kernel
theorem d_DC_readPrefixed_7 : decode b_DC_readPrefixed 7 = .ok (.invokevirtual 64, 3) := by decide +kernel
theorem d_DC_readPrefixed_10 : decode b_DC_readPrefixed 10 = .ok (.return_, 1) := by decide +kernel
theorem d_DC_readPrefixed_11 : decode b_DC_readPrefixed 11 = .ok (.aload_n 1, 1) := by decide +kernel
theorem d_DC_readPrefixed_12 : decode b_DC_readPrefixed 12 = .ok (.iload_n 2, 1) := by decide +kernel
theorem d_DC_readPrefixed_13 : decode b_DC_readPrefixed 13 = .ok (.invokevirtual 46, 3) := by decide +kernel
theorem d_DC_readPrefixed_16 : decode b_DC_readPrefixed 16 = .ok (.istore 5, 2) := by decide +kernel
theorem d_DC_readPrefixed_18 : decode b_DC_readPrefixed 18 = .ok (.iload 5, 2) := by decide +kernel
theorem d_DC_readPrefixed_20 : decode b_DC_readPrefixed 20 = .ok (.iload_n 3, 1) := by decide +kernel
theorem d_DC_readPrefixed_21 : decode b_DC_readPrefixed 21 = .ok (.invokestatic 67, 3) := by decide +kernel
theorem d_DC_readPrefixed_24 : decode b_DC_readPrefixed 24 = .ok (.isub, 1) := by decide +kernel
theorem d_DC_readPrefixed_25 : decode b_DC_readPrefixed 25 = .ok (.istore 6, 2) := by decide +kernel
theorem d_DC_readPrefixed_27 : decode b_DC_readPrefixed 27 = .ok (.iconst 1, 1) := by decide +kernel
theorem d_DC_readPrefixed_28 : decode b_DC_readPrefixed 28 = .ok (.istore 7, 2) := by decide +kernel
theorem d_DC_readPrefixed_30 : decode b_DC_readPrefixed 30 = .ok (.iload 7, 2) := by decide +kernel
theorem d_DC_readPrefixed_32 : decode b_DC_readPrefixed 32 = .ok (.iload_n 3, 1) := by decide +kernel
theorem d_DC_readPrefixed_33 : decode b_DC_readPrefixed 33 = .ok (.if_icmp .ge 95, 3) := by decide +kernel
theorem d_DC_readPrefixed_36 : decode b_DC_readPrefixed 36 = .ok (.aload_n 1, 1) := by decide +kernel
theorem d_DC_readPrefixed_37 : decode b_DC_readPrefixed 37 = .ok (.iload_n 2, 1) := by decide +kernel
theorem d_DC_readPrefixed_38 : decode b_DC_readPrefixed 38 = .ok (.iload 7, 2) := by decide +kernel
theorem d_DC_readPrefixed_40 : decode b_DC_readPrefixed 40 = .ok (.iadd, 1) := by decide +kernel
theorem d_DC_readPrefixed_41 : decode b_DC_readPrefixed 41 = .ok (.invokevirtual 46, 3) := by decide +kernel
theorem d_DC_readPrefixed_44 : decode b_DC_readPrefixed 44 = .ok (.istore 8, 2) := by decide +kernel
theorem d_DC_readPrefixed_46 : decode b_DC_readPrefixed 46 = .ok (.iload 7, 2) := by decide +kernel
theorem d_DC_readPrefixed_48 : decode b_DC_readPrefixed 48 = .ok (.iconst 1, 1) := by decide +kernel
theorem d_DC_readPrefixed_49 : decode b_DC_readPrefixed 49 = .ok (.if_icmp .ne 11, 3) := by decide +kernel
theorem d_DC_readPrefixed_52 : decode b_DC_readPrefixed 52 = .ok (.iload 5, 2) := by decide +kernel
theorem d_DC_readPrefixed_54 : decode b_DC_readPrefixed 54 = .ok (.invokestatic 70, 3) := by decide +kernel
theorem d_DC_readPrefixed_57 : decode b_DC_readPrefixed 57 = .ok (.goto 6, 3) := by decide +kernel
theorem d_DC_readPrefixed_60 : decode b_DC_readPrefixed 60 = .ok (.sipush 128, 3) := by decide +kernel
theorem d_DC_readPrefixed_63 : decode b_DC_readPrefixed 63 = .ok (.istore 9, 2) := by decide +kernel
theorem d_DC_readPrefixed_65 : decode b_DC_readPrefixed 65 = .ok (.iload 7, 2) := by decide +kernel
theorem d_DC_readPrefixed_67 : decode b_DC_readPrefixed 67 = .ok (.iconst 1, 1) := by decide +kernel
theorem d_DC_readPrefixed_68 : decode b_DC_readPrefixed 68 = .ok (.if_icmp .ne 13, 3) := by decide +kernel
theorem d_DC_readPrefixed_71 : decode b_DC_readPrefixed 71 = .ok (.iload 5, 2) := by decide +kernel
theorem d_DC_readPrefixed_73 : decode b_DC_readPrefixed 73 = .ok (.iload 4, 2) := by decide +kernel
theorem d_DC_readPrefixed_75 : decode b_DC_readPrefixed 75 = .ok (.invokestatic 73, 3) := by decide +kernel
theorem d_DC_readPrefixed_78 : decode b_DC_readPrefixed 78 = .ok (.goto 6, 3) := by decide +kernel
theorem d_DC_readPrefixed_81 : decode b_DC_readPrefixed 81 = .ok (.sipush 191, 3) := by decide +kernel
theorem d_DC_readPrefixed_84 : decode b_DC_readPrefixed 84 = .ok (.istore 10, 2) := by decide +kernel
theorem d_DC_readPrefixed_86 : decode b_DC_readPrefixed 86 = .ok (.iload 8, 2) := by decide +kernel
theorem d_DC_readPrefixed_88 : decode b_DC_readPrefixed 88 = .ok (.iload 9, 2) := by decide +kernel
theorem d_DC_readPrefixed_90 : decode b_DC_readPrefixed 90 = .ok (.if_icmp .lt 10, 3) := by decide +kernel
theorem d_DC_readPrefixed_93 : decode b_DC_readPrefixed 93 = .ok (.iload 8, 2) := by decide +kernel
theorem d_DC_readPrefixed_95 : decode b_DC_readPrefixed 95 = .ok (.iload 10, 2) := by decide +kernel
theorem d_DC_readPrefixed_97 : decode b_DC_readPrefixed 97 = .ok (.if_icmp .le 11, 3) := by decide +kernel
theorem d_DC_readPrefixed_100 : decode b_DC_readPrefixed 100 = .ok (.aload_n 0, 1) := by decide +kernel
theorem d_DC_readPrefixed_101 : decode b_DC_readPrefixed 101 = .ok (.iconst (-1), 1) := by decide +kernel
theorem d_DC_readPrefixed_102 : decode b_DC_readPrefixed 102 = .ok (.iload 7, 2) := by decide +kernel
theorem d_DC_readPrefixed_104 : decode b_DC_readPrefixed 104 = .ok (.invokevirtual 64, 3) := by decide +kernel
theorem d_DC_readPrefixed_107 : decode b_DC_readPrefixed 107 = .ok (.return_, 1) := by decide +kernel
theorem d_DC_readPrefixed_108 : decode b_DC_readPrefixed 108 = .ok (.iload 6, 2) := by decide +kernel
theorem d_DC_readPrefixed_110 : decode b_DC_readPrefixed 110 = .ok (.bipush 64, 2) := by decide +kernel
theorem d_DC_readPrefixed_112 : decode b_DC_readPrefixed 112 = .ok (.imul, 1) := by decide +kernel
theorem d_DC_readPrefixed_113 : decode b_DC_readPrefixed 113 = .ok (.iload 8, 2) := by decide +kernel
theorem d_DC_readPrefixed_115 : decode b_DC_readPrefixed 115 = .ok (.iadd, 1) := by decide +kernel
theorem d_DC_readPrefixed_116 : decode b_DC_readPrefixed 116 = .ok (.sipush 128, 3) := by decide +kernel
theorem d_DC_readPrefixed_119 : decode b_DC_readPrefixed 119 = .ok (.isub, 1) := by decide +kernel
theorem d_DC_readPrefixed_120 : decode b_DC_readPrefixed 120 = .ok (.istore 6, 2) := by decide +kernel
theorem d_DC_readPrefixed_122 : decode b_DC_readPrefixed 122 = .ok (.iinc 7 1, 3) := by decide +kernel
theorem d_DC_readPrefixed_125 : decode b_DC_readPrefixed 125 = .ok (.goto (-95), 3) := by decide +kernel
theorem d_DC_readPrefixed_128 : decode b_DC_readPrefixed 128 = .ok (.aload_n 0, 1) := by decide +kernel
theorem d_DC_readPrefixed_129 : decode b_DC_readPrefixed 129 = .ok (.iload 6, 2) := by decide +kernel
theorem d_DC_readPrefixed_131 : decode b_DC_readPrefixed 131 = .ok (.iload_n 3, 1) := by decide +kernel
theorem d_DC_readPrefixed_132 : decode b_DC_readPrefixed 132 = .ok (.invokevirtual 64, 3) := by decide +kernel
theorem d_DC_readPrefixed_135 : decode b_DC_readPrefixed 135 = .ok (.return_, 1) := by decide +kernel
theorem d_DC_setRow_0 : decode b_DC_setRow 0 = .ok (.aload_n 0, 1) := by decide +kernel
theorem d_DC_setRow_1 : decode b_DC_setRow 1 = .ok (.iload_n 1, 1) := by decide +kernel
theorem d_DC_setRow_2 : decode b_DC_setRow 2 = .ok (.putfield 21, 3) := by decide +kernel
theorem d_DC_setRow_5 : decode b_DC_setRow 5 = .ok (.aload_n 0, 1) := by decide +kernel
theorem d_DC_setRow_6 : decode b_DC_setRow 6 = .ok (.iload_n 2, 1) := by decide +kernel
theorem d_DC_setRow_7 : decode b_DC_setRow 7 = .ok (.putfield 30, 3) := by decide +kernel
theorem d_DC_setRow_10 : decode b_DC_setRow 10 = .ok (.return_, 1) := by decide +kernel
theorem d_DC_firstByteBase_0 : decode b_DC_firstByteBase 0 = .ok (.iload_n 0, 1) := by decide +kernel
theorem d_DC_firstByteBase_1 : decode b_DC_firstByteBase 1 = .ok (.tableswitch 39 2 4 #[27, 31, 35], 27) := by decide +kernel
theorem d_DC_firstByteBase_28 : decode b_DC_firstByteBase 28 = .ok (.sipush 192, 3) := by decide +kernel
theorem d_DC_firstByteBase_31 : decode b_DC_firstByteBase 31 = .ok (.ireturn, 1) := by decide +kernel
theorem d_DC_firstByteBase_32 : decode b_DC_firstByteBase 32 = .ok (.sipush 224, 3) := by decide +kernel
theorem d_DC_firstByteBase_35 : decode b_DC_firstByteBase 35 = .ok (.ireturn, 1) := by decide +kernel
theorem d_DC_firstByteBase_36 : decode b_DC_firstByteBase 36 = .ok (.sipush 240, 3) := by decide +kernel
theorem d_DC_firstByteBase_39 : decode b_DC_firstByteBase 39 = .ok (.ireturn, 1) := by decide +kernel
theorem d_DC_firstByteBase_40 : decode b_DC_firstByteBase 40 = .ok (.iconst 0, 1) := by decide +kernel
theorem d_DC_firstByteBase_41 : decode b_DC_firstByteBase 41 = .ok (.ireturn, 1) := by decide +kernel
theorem d_DC_lowestSecond_0 : decode b_DC_lowestSecond 0 = .ok (.iload_n 0, 1) := by decide +kernel
theorem d_DC_lowestSecond_1 : decode b_DC_lowestSecond 1 = .ok (.sipush 224, 3) := by decide +kernel
theorem d_DC_lowestSecond_4 : decode b_DC_lowestSecond 4 = .ok (.if_icmp .ne 9, 3) := by decide +kernel
theorem d_DC_lowestSecond_7 : decode b_DC_lowestSecond 7 = .ok (.sipush 160, 3) := by decide +kernel
theorem d_DC_lowestSecond_10 : decode b_DC_lowestSecond 10 = .ok (.goto 19, 3) := by decide +kernel
theorem d_DC_lowestSecond_13 : decode b_DC_lowestSecond 13 = .ok (.iload_n 0, 1) := by decide +kernel
theorem d_DC_lowestSecond_14 : decode b_DC_lowestSecond 14 = .ok (.sipush 240, 3) := by decide +kernel
theorem d_DC_lowestSecond_17 : decode b_DC_lowestSecond 17 = .ok (.if_icmp .ne 9, 3) := by decide +kernel
theorem d_DC_lowestSecond_20 : decode b_DC_lowestSecond 20 = .ok (.sipush 144, 3) := by decide +kernel
theorem d_DC_lowestSecond_23 : decode b_DC_lowestSecond 23 = .ok (.goto 6, 3) := by decide +kernel
theorem d_DC_lowestSecond_26 : decode b_DC_lowestSecond 26 = .ok (.sipush 128, 3) := by decide +kernel
theorem d_DC_lowestSecond_29 : decode b_DC_lowestSecond 29 = .ok (.ireturn, 1) := by decide +kernel
theorem d_DC_highestSecond_0 : decode b_DC_highestSecond 0 = .ok (.iload_n 1, 1) := by decide +kernel
theorem d_DC_highestSecond_1 : decode b_DC_highestSecond 1 = .ok (.ifCond .eq 20, 3) := by decide +kernel
theorem d_DC_highestSecond_4 : decode b_DC_highestSecond 4 = .ok (.iload_n 0, 1) := by decide +kernel
theorem d_DC_highestSecond_5 : decode b_DC_highestSecond 5 = .ok (.sipush 192, 3) := by decide +kernel
theorem d_DC_highestSecond_8 : decode b_DC_highestSecond 8 = .ok (.if_icmp .ne 9, 3) := by decide +kernel
theorem d_DC_highestSecond_11 : decode b_DC_highestSecond 11 = .ok (.sipush 128, 3) := by decide +kernel
theorem d_DC_highestSecond_14 : decode b_DC_highestSecond 14 = .ok (.goto 6, 3) := by decide +kernel
theorem d_DC_highestSecond_17 : decode b_DC_highestSecond 17 = .ok (.sipush 191, 3) := by decide +kernel
theorem d_DC_highestSecond_20 : decode b_DC_highestSecond 20 = .ok (.ireturn, 1) := by decide +kernel
theorem d_DC_highestSecond_21 : decode b_DC_highestSecond 21 = .ok (.iload_n 0, 1) := by decide +kernel
theorem d_DC_highestSecond_22 : decode b_DC_highestSecond 22 = .ok (.sipush 237, 3) := by decide +kernel
theorem d_DC_highestSecond_25 : decode b_DC_highestSecond 25 = .ok (.if_icmp .ne 9, 3) := by decide +kernel
theorem d_DC_highestSecond_28 : decode b_DC_highestSecond 28 = .ok (.sipush 159, 3) := by decide +kernel
theorem d_DC_highestSecond_31 : decode b_DC_highestSecond 31 = .ok (.goto 19, 3) := by decide +kernel
theorem d_DC_highestSecond_34 : decode b_DC_highestSecond 34 = .ok (.iload_n 0, 1) := by decide +kernel
theorem d_DC_highestSecond_35 : decode b_DC_highestSecond 35 = .ok (.sipush 244, 3) := by decide +kernel
theorem d_DC_highestSecond_38 : decode b_DC_highestSecond 38 = .ok (.if_icmp .ne 9, 3) := by decide +kernel
theorem d_DC_highestSecond_41 : decode b_DC_highestSecond 41 = .ok (.sipush 143, 3) := by decide +kernel
theorem d_DC_highestSecond_44 : decode b_DC_highestSecond 44 = .ok (.goto 6, 3) := by decide +kernel
theorem d_DC_highestSecond_47 : decode b_DC_highestSecond 47 = .ok (.sipush 191, 3) := by decide +kernel
theorem d_DC_highestSecond_50 : decode b_DC_highestSecond 50 = .ok (.ireturn, 1) := by decide +kernel
theorem d_DC_goodWidthModified_0 : decode b_DC_goodWidthModified 0 = .ok (.iload_n 0, 1) := by decide +kernel
theorem d_DC_goodWidthModified_1 : decode b_DC_goodWidthModified 1 = .ok (.ifCond .eq 10, 3) := by decide +kernel
theorem d_DC_goodWidthModified_4 : decode b_DC_goodWidthModified 4 = .ok (.iload_n 0, 1) := by decide +kernel
theorem d_DC_goodWidthModified_5 : decode b_DC_goodWidthModified 5 = .ok (.sipush 240, 3) := by decide +kernel
theorem d_DC_goodWidthModified_8 : decode b_DC_goodWidthModified 8 = .ok (.if_icmp .lt 5, 3) := by decide +kernel
theorem d_DC_goodWidthModified_11 : decode b_DC_goodWidthModified 11 = .ok (.iconst 0, 1) := by decide +kernel
theorem d_DC_goodWidthModified_12 : decode b_DC_goodWidthModified 12 = .ok (.ireturn, 1) := by decide +kernel
theorem d_DC_goodWidthModified_13 : decode b_DC_goodWidthModified 13 = .ok (.iload_n 0, 1) := by decide +kernel
theorem d_DC_goodWidthModified_14 : decode b_DC_goodWidthModified 14 = .ok (.sipush 192, 3) := by decide +kernel
theorem d_DC_goodWidthModified_17 : decode b_DC_goodWidthModified 17 = .ok (.if_icmp .ne 7, 3) := by decide +kernel
theorem d_DC_goodWidthModified_20 : decode b_DC_goodWidthModified 20 = .ok (.iconst 2, 1) := by decide +kernel
theorem d_DC_goodWidthModified_21 : decode b_DC_goodWidthModified 21 = .ok (.goto 7, 3) := by decide +kernel
theorem d_DC_goodWidthModified_24 : decode b_DC_goodWidthModified 24 = .ok (.iload_n 0, 1) := by decide +kernel
theorem d_DC_goodWidthModified_25 : decode b_DC_goodWidthModified 25 = .ok (.invokestatic 50, 3) := by decide +kernel
theorem d_DC_goodWidthModified_28 : decode b_DC_goodWidthModified 28 = .ok (.ireturn, 1) := by decide +kernel
theorem d_DC_readTwo_0 : decode b_DC_readTwo 0 = .ok (.iload_n 1, 1) := by decide +kernel
theorem d_DC_readTwo_1 : decode b_DC_readTwo 1 = .ok (.iconst (-1), 1) := by decide +kernel
theorem d_DC_readTwo_2 : decode b_DC_readTwo 2 = .ok (.if_icmp .eq 8, 3) := by decide +kernel
theorem d_DC_readTwo_5 : decode b_DC_readTwo 5 = .ok (.iload_n 2, 1) := by decide +kernel
theorem d_DC_readTwo_6 : decode b_DC_readTwo 6 = .ok (.iconst (-1), 1) := by decide +kernel
theorem d_DC_readTwo_7 : decode b_DC_readTwo 7 = .ok (.if_icmp .ne 12, 3) := by decide +kernel
theorem d_DC_readTwo_10 : decode b_DC_readTwo 10 = .ok (.aload_n 0, 1) := by decide +kernel
theorem d_DC_readTwo_11 : decode b_DC_readTwo 11 = .ok (.iconst (-1), 1) := by decide +kernel
theorem d_DC_readTwo_12 : decode b_DC_readTwo 12 = .ok (.iconst 1, 1) := by decide +kernel
theorem d_DC_readTwo_13 : decode b_DC_readTwo 13 = .ok (.invokevirtual 64, 3) := by decide +kernel
theorem d_DC_readTwo_16 : decode b_DC_readTwo 16 = .ok (.goto 15, 3) := by decide +kernel
theorem d_DC_readTwo_19 : decode b_DC_readTwo 19 = .ok (.aload_n 0, 1) := by decide +kernel
theorem d_DC_readTwo_20 : decode b_DC_readTwo 20 = .ok (.iload_n 1, 1) := by decide +kernel
theorem d_DC_readTwo_21 : decode b_DC_readTwo 21 = .ok (.sipush 256, 3) := by decide +kernel
theorem d_DC_readTwo_24 : decode b_DC_readTwo 24 = .ok (.imul, 1) := by decide +kernel
theorem d_DC_readTwo_25 : decode b_DC_readTwo 25 = .ok (.iload_n 2, 1) := by decide +kernel
theorem d_DC_readTwo_26 : decode b_DC_readTwo 26 = .ok (.iadd, 1) := by decide +kernel
theorem d_DC_readTwo_27 : decode b_DC_readTwo 27 = .ok (.iconst 2, 1) := by decide +kernel
theorem d_DC_readTwo_28 : decode b_DC_readTwo 28 = .ok (.invokevirtual 64, 3) := by decide +kernel
theorem d_DC_readTwo_31 : decode b_DC_readTwo 31 = .ok (.return_, 1) := by decide +kernel
theorem d_DC_appendCharacter_0 : decode b_DC_appendCharacter 0 = .ok (.iload_n 0, 1) := by decide +kernel
theorem d_DC_appendCharacter_1 : decode b_DC_appendCharacter 1 = .ok (.ldc 39, 2) := by decide +kernel
theorem d_DC_appendCharacter_3 : decode b_DC_appendCharacter 3 = .ok (.if_icmp .ge 11, 3) := by decide +kernel
theorem d_DC_appendCharacter_6 : decode b_DC_appendCharacter 6 = .ok (.aload_n 1, 1) := by decide +kernel
theorem d_DC_appendCharacter_7 : decode b_DC_appendCharacter 7 = .ok (.iload_n 0, 1) := by decide +kernel
theorem d_DC_appendCharacter_8 : decode b_DC_appendCharacter 8 = .ok (.invokevirtual 40, 3) := by decide +kernel
theorem d_DC_appendCharacter_11 : decode b_DC_appendCharacter 11 = .ok (.goto 33, 3) := by decide +kernel
theorem d_DC_appendCharacter_14 : decode b_DC_appendCharacter 14 = .ok (.aload_n 1, 1) := by decide +kernel
theorem d_DC_appendCharacter_15 : decode b_DC_appendCharacter 15 = .ok (.ldc 44, 2) := by decide +kernel
theorem d_DC_appendCharacter_17 : decode b_DC_appendCharacter 17 = .ok (.iload_n 0, 1) := by decide +kernel
theorem d_DC_appendCharacter_18 : decode b_DC_appendCharacter 18 = .ok (.ldc 39, 2) := by decide +kernel
theorem d_DC_appendCharacter_20 : decode b_DC_appendCharacter 20 = .ok (.isub, 1) := by decide +kernel
theorem d_DC_appendCharacter_21 : decode b_DC_appendCharacter 21 = .ok (.sipush 1024, 3) := by decide +kernel
theorem d_DC_appendCharacter_24 : decode b_DC_appendCharacter 24 = .ok (.idiv, 1) := by decide +kernel
theorem d_DC_appendCharacter_25 : decode b_DC_appendCharacter 25 = .ok (.iadd, 1) := by decide +kernel
theorem d_DC_appendCharacter_26 : decode b_DC_appendCharacter 26 = .ok (.invokevirtual 40, 3) := by decide +kernel
theorem d_DC_appendCharacter_29 : decode b_DC_appendCharacter 29 = .ok (.aload_n 1, 1) := by decide +kernel
theorem d_DC_appendCharacter_30 : decode b_DC_appendCharacter 30 = .ok (.ldc 45, 2) := by decide +kernel
theorem d_DC_appendCharacter_32 : decode b_DC_appendCharacter 32 = .ok (.iload_n 0, 1) := by decide +kernel
theorem d_DC_appendCharacter_33 : decode b_DC_appendCharacter 33 = .ok (.ldc 39, 2) := by decide +kernel
theorem d_DC_appendCharacter_35 : decode b_DC_appendCharacter 35 = .ok (.isub, 1) := by decide +kernel
theorem d_DC_appendCharacter_36 : decode b_DC_appendCharacter 36 = .ok (.sipush 1024, 3) := by decide +kernel
theorem d_DC_appendCharacter_39 : decode b_DC_appendCharacter 39 = .ok (.irem, 1) := by decide +kernel
theorem d_DC_appendCharacter_40 : decode b_DC_appendCharacter 40 = .ok (.iadd, 1) := by decide +kernel
theorem d_DC_appendCharacter_41 : decode b_DC_appendCharacter 41 = .ok (.invokevirtual 40, 3) := by decide +kernel
theorem d_DC_appendCharacter_44 : decode b_DC_appendCharacter 44 = .ok (.return_, 1) := by decide +kernel
end
section
theorem d_DK_init_0 : decode b_DK_init 0 = .ok (.aload_n 0, 1) := by decide +kernel
theorem d_DK_init_1 : decode b_DK_init 1 = .ok (.invokespecial 1, 3) := by decide +kernel
theorem d_DK_init_4 : decode b_DK_init 4 = .ok (.aload_n 0, 1) := by decide +kernel
theorem d_DK_init_5 : decode b_DK_init 5 = .ok (.bipush 24, 2) := by decide +kernel
theorem d_DK_init_7 : decode b_DK_init 7 = .ok (.anewarray 9, 3) := by decide +kernel
theorem d_DK_init_10 : decode b_DK_init 10 = .ok (.putfield 11, 3) := by decide +kernel
theorem d_DK_init_13 : decode b_DK_init 13 = .ok (.aload_n 0, 1) := by decide +kernel
theorem d_DK_init_14 : decode b_DK_init 14 = .ok (.bipush 16, 2) := by decide +kernel
theorem d_DK_init_16 : decode b_DK_init 16 = .ok (.anewarray 9, 3) := by decide +kernel
theorem d_DK_init_19 : decode b_DK_init 19 = .ok (.putfield 15, 3) := by decide +kernel
theorem d_DK_init_22 : decode b_DK_init 22 = .ok (.aload_n 0, 1) := by decide +kernel
theorem d_DK_init_23 : decode b_DK_init 23 = .ok (.new 18, 3) := by decide +kernel
theorem d_DK_init_26 : decode b_DK_init 26 = .ok (.dup, 1) := by decide +kernel
theorem d_DK_init_27 : decode b_DK_init 27 = .ok (.sipush 200, 3) := by decide +kernel
theorem d_DK_init_30 : decode b_DK_init 30 = .ok (.invokespecial 20, 3) := by decide +kernel
theorem d_DK_init_33 : decode b_DK_init 33 = .ok (.putfield 23, 3) := by decide +kernel
theorem d_DK_init_36 : decode b_DK_init 36 = .ok (.aload_n 0, 1) := by decide +kernel
theorem d_DK_init_37 : decode b_DK_init 37 = .ok (.new 27, 3) := by decide +kernel
theorem d_DK_init_40 : decode b_DK_init 40 = .ok (.dup, 1) := by decide +kernel
theorem d_DK_init_41 : decode b_DK_init 41 = .ok (.invokespecial 29, 3) := by decide +kernel
theorem d_DK_init_44 : decode b_DK_init 44 = .ok (.putfield 30, 3) := by decide +kernel
theorem d_DK_init_47 : decode b_DK_init 47 = .ok (.aload_n 0, 1) := by decide +kernel
theorem d_DK_init_48 : decode b_DK_init 48 = .ok (.new 18, 3) := by decide +kernel
theorem d_DK_init_51 : decode b_DK_init 51 = .ok (.dup, 1) := by decide +kernel
theorem d_DK_init_52 : decode b_DK_init 52 = .ok (.bipush 60, 2) := by decide +kernel
theorem d_DK_init_54 : decode b_DK_init 54 = .ok (.invokespecial 20, 3) := by decide +kernel
theorem d_DK_init_57 : decode b_DK_init 57 = .ok (.putfield 34, 3) := by decide +kernel
theorem d_DK_init_60 : decode b_DK_init 60 = .ok (.aload_n 0, 1) := by decide +kernel
theorem d_DK_init_61 : decode b_DK_init 61 = .ok (.new 18, 3) := by decide +kernel
theorem d_DK_init_64 : decode b_DK_init 64 = .ok (.dup, 1) := by decide +kernel
theorem d_DK_init_65 : decode b_DK_init 65 = .ok (.bipush 60, 2) := by decide +kernel
theorem d_DK_init_67 : decode b_DK_init 67 = .ok (.invokespecial 20, 3) := by decide +kernel
theorem d_DK_init_70 : decode b_DK_init 70 = .ok (.putfield 37, 3) := by decide +kernel
theorem d_DK_init_73 : decode b_DK_init 73 = .ok (.return_, 1) := by decide +kernel
theorem d_DK_reverse_0 : decode b_DK_reverse 0 = .ok (.aload_n 0, 1) := by decide +kernel
theorem d_DK_reverse_1 : decode b_DK_reverse 1 = .ok (.getfield 37, 3) := by decide +kernel
theorem d_DK_reverse_4 : decode b_DK_reverse 4 = .ok (.invokevirtual 70, 3) := by decide +kernel
theorem d_DK_reverse_7 : decode b_DK_reverse 7 = .ok (.aload_n 0, 1) := by decide +kernel
theorem d_DK_reverse_8 : decode b_DK_reverse 8 = .ok (.getfield 34, 3) := by decide +kernel
theorem d_DK_reverse_11 : decode b_DK_reverse 11 = .ok (.invokevirtual 60, 3) := by decide +kernel
theorem d_DK_reverse_14 : decode b_DK_reverse 14 = .ok (.iconst 1, 1) := by decide +kernel
theorem d_DK_reverse_15 : decode b_DK_reverse 15 = .ok (.isub, 1) := by decide +kernel
theorem d_DK_reverse_16 : decode b_DK_reverse 16 = .ok (.istore_n 1, 1) := by decide +kernel
theorem d_DK_reverse_17 : decode b_DK_reverse 17 = .ok (.iload_n 1, 1) := by decide +kernel
theorem d_DK_reverse_18 : decode b_DK_reverse 18 = .ok (.ifCond .lt 75, 3) := by decide +kernel
theorem d_DK_reverse_21 : decode b_DK_reverse 21 = .ok (.aload_n 0, 1) := by decide +kernel
theorem d_DK_reverse_22 : decode b_DK_reverse 22 = .ok (.getfield 34, 3) := by decide +kernel
theorem d_DK_reverse_25 : decode b_DK_reverse 25 = .ok (.iload_n 1, 1) := by decide +kernel
theorem d_DK_reverse_26 : decode b_DK_reverse 26 = .ok (.iconst 1, 1) := by decide +kernel
theorem d_DK_reverse_27 : decode b_DK_reverse 27 = .ok (.isub, 1) := by decide +kernel
theorem d_DK_reverse_28 : decode b_DK_reverse 28 = .ok (.invokestatic 88, 3) := by decide +kernel
theorem d_DK_reverse_31 : decode b_DK_reverse 31 = .ok (.ifCond .eq 41, 3) := by decide +kernel
theorem d_DK_reverse_34 : decode b_DK_reverse 34 = .ok (.aload_n 0, 1) := by decide +kernel
theorem d_DK_reverse_35 : decode b_DK_reverse 35 = .ok (.getfield 37, 3) := by decide +kernel
theorem d_DK_reverse_38 : decode b_DK_reverse 38 = .ok (.aload_n 0, 1) := by decide +kernel
theorem d_DK_reverse_39 : decode b_DK_reverse 39 = .ok (.getfield 34, 3) := by decide +kernel
theorem d_DK_reverse_42 : decode b_DK_reverse 42 = .ok (.iload_n 1, 1) := by decide +kernel
theorem d_DK_reverse_43 : decode b_DK_reverse 43 = .ok (.iconst 1, 1) := by decide +kernel
theorem d_DK_reverse_44 : decode b_DK_reverse 44 = .ok (.isub, 1) := by decide +kernel
theorem d_DK_reverse_45 : decode b_DK_reverse 45 = .ok (.invokevirtual 92, 3) := by decide +kernel
theorem d_DK_reverse_48 : decode b_DK_reverse 48 = .ok (.invokevirtual 57, 3) := by decide +kernel
theorem d_DK_reverse_51 : decode b_DK_reverse 51 = .ok (.aload_n 0, 1) := by decide +kernel
theorem d_DK_reverse_52 : decode b_DK_reverse 52 = .ok (.getfield 37, 3) := by decide +kernel
theorem d_DK_reverse_55 : decode b_DK_reverse 55 = .ok (.aload_n 0, 1) := by decide +kernel
theorem d_DK_reverse_56 : decode b_DK_reverse 56 = .ok (.getfield 34, 3) := by decide +kernel
theorem d_DK_reverse_59 : decode b_DK_reverse 59 = .ok (.iload_n 1, 1) := by decide +kernel
theorem d_DK_reverse_60 : decode b_DK_reverse 60 = .ok (.invokevirtual 92, 3) := by decide +kernel
theorem d_DK_reverse_63 : decode b_DK_reverse 63 = .ok (.invokevirtual 57, 3) := by decide +kernel
theorem d_DK_reverse_66 : decode b_DK_reverse 66 = .ok (.iinc 1 (-1), 3) := by decide +kernel
theorem d_DK_reverse_69 : decode b_DK_reverse 69 = .ok (.goto 18, 3) := by decide +kernel
theorem d_DK_reverse_72 : decode b_DK_reverse 72 = .ok (.aload_n 0, 1) := by decide +kernel
theorem d_DK_reverse_73 : decode b_DK_reverse 73 = .ok (.getfield 37, 3) := by decide +kernel
theorem d_DK_reverse_76 : decode b_DK_reverse 76 = .ok (.aload_n 0, 1) := by decide +kernel
theorem d_DK_reverse_77 : decode b_DK_reverse 77 = .ok (.getfield 34, 3) := by decide +kernel
theorem d_DK_reverse_80 : decode b_DK_reverse 80 = .ok (.iload_n 1, 1) := by decide +kernel
theorem d_DK_reverse_81 : decode b_DK_reverse 81 = .ok (.invokevirtual 92, 3) := by decide +kernel
theorem d_DK_reverse_84 : decode b_DK_reverse 84 = .ok (.invokevirtual 57, 3) := by decide +kernel
theorem d_DK_reverse_87 : decode b_DK_reverse 87 = .ok (.iinc 1 (-1), 3) := by decide +kernel
theorem d_DK_reverse_90 : decode b_DK_reverse 90 = .ok (.goto (-73), 3) := by decide +kernel
theorem d_DK_reverse_93 : decode b_DK_reverse 93 = .ok (.aload_n 0, 1) := by decide +kernel
theorem d_DK_reverse_94 : decode b_DK_reverse 94 = .ok (.invokevirtual 81, 3) := by decide +kernel
theorem d_DK_reverse_97 : decode b_DK_reverse 97 = .ok (.return_, 1) := by decide +kernel
theorem d_DK_isPairAt_0 : decode b_DK_isPairAt 0 = .ok (.aload_n 0, 1) := by decide +kernel
theorem d_DK_isPairAt_1 : decode b_DK_isPairAt 1 = .ok (.iload_n 1, 1) := by decide +kernel
theorem d_DK_isPairAt_2 : decode b_DK_isPairAt 2 = .ok (.invokevirtual 192, 3) := by decide +kernel
theorem d_DK_isPairAt_5 : decode b_DK_isPairAt 5 = .ok (.invokestatic 211, 3) := by decide +kernel
theorem d_DK_isPairAt_8 : decode b_DK_isPairAt 8 = .ok (.ifCond .eq 20, 3) := by decide +kernel
theorem d_DK_isPairAt_11 : decode b_DK_isPairAt 11 = .ok (.aload_n 0, 1) := by decide +kernel
theorem d_DK_isPairAt_12 : decode b_DK_isPairAt 12 = .ok (.iload_n 1, 1) := by decide +kernel
theorem d_DK_isPairAt_13 : decode b_DK_isPairAt 13 = .ok (.iconst 1, 1) := by decide +kernel
theorem d_DK_isPairAt_14 : decode b_DK_isPairAt 14 = .ok (.iadd, 1) := by decide +kernel
theorem d_DK_isPairAt_15 : decode b_DK_isPairAt 15 = .ok (.invokevirtual 192, 3) := by decide +kernel
theorem d_DK_isPairAt_18 : decode b_DK_isPairAt 18 = .ok (.invokestatic 215, 3) := by decide +kernel
theorem d_DK_isPairAt_21 : decode b_DK_isPairAt 21 = .ok (.ifCond .eq 7, 3) := by decide +kernel
theorem d_DK_isPairAt_24 : decode b_DK_isPairAt 24 = .ok (.iconst 1, 1) := by decide +kernel
theorem d_DK_isPairAt_25 : decode b_DK_isPairAt 25 = .ok (.goto 4, 3) := by decide +kernel
theorem d_DK_isPairAt_28 : decode b_DK_isPairAt 28 = .ok (.iconst 0, 1) := by decide +kernel
theorem d_DK_isPairAt_29 : decode b_DK_isPairAt 29 = .ok (.ireturn, 1) := by decide +kernel
theorem d_DK_textOf_0 : decode b_DK_textOf 0 = .ok (.iconst 0, 1) := by decide +kernel
theorem d_DK_textOf_1 : decode b_DK_textOf 1 = .ok (.istore_n 1, 1) := by decide +kernel
theorem d_DK_textOf_2 : decode b_DK_textOf 2 = .ok (.iload_n 1, 1) := by decide +kernel
theorem d_DK_textOf_3 : decode b_DK_textOf 3 = .ok (.aload_n 0, 1) := by decide +kernel
theorem d_DK_textOf_4 : decode b_DK_textOf 4 = .ok (.invokevirtual 60, 3) := by decide +kernel
theorem d_DK_textOf_7 : decode b_DK_textOf 7 = .ok (.if_icmp .ge 29, 3) := by decide +kernel
theorem d_DK_textOf_10 : decode b_DK_textOf 10 = .ok (.aload_n 0, 1) := by decide +kernel
theorem d_DK_textOf_11 : decode b_DK_textOf 11 = .ok (.iload_n 1, 1) := by decide +kernel
theorem d_DK_textOf_12 : decode b_DK_textOf 12 = .ok (.invokevirtual 92, 3) := by decide +kernel
theorem d_DK_textOf_15 : decode b_DK_textOf 15 = .ok (.sipush 256, 3) := by decide +kernel
theorem d_DK_textOf_18 : decode b_DK_textOf 18 = .ok (.if_icmp .lt 12, 3) := by decide +kernel
theorem d_DK_textOf_21 : decode b_DK_textOf 21 = .ok (.new 195, 3) := by decide +kernel
theorem d_DK_textOf_24 : decode b_DK_textOf 24 = .ok (.dup, 1) := by decide +kernel
theorem d_DK_textOf_25 : decode b_DK_textOf 25 = .ok (.aload_n 0, 1) := by decide +kernel
theorem d_DK_textOf_26 : decode b_DK_textOf 26 = .ok (.invokespecial 197, 3) := by decide +kernel
theorem d_DK_textOf_29 : decode b_DK_textOf 29 = .ok (.areturn, 1) := by decide +kernel
theorem d_DK_textOf_30 : decode b_DK_textOf 30 = .ok (.iinc 1 1, 3) := by decide +kernel
theorem d_DK_textOf_33 : decode b_DK_textOf 33 = .ok (.goto (-31), 3) := by decide +kernel
theorem d_DK_textOf_36 : decode b_DK_textOf 36 = .ok (.new 200, 3) := by decide +kernel
theorem d_DK_textOf_39 : decode b_DK_textOf 39 = .ok (.dup, 1) := by decide +kernel
theorem d_DK_textOf_40 : decode b_DK_textOf 40 = .ok (.aload_n 0, 1) := by decide +kernel
theorem d_DK_textOf_41 : decode b_DK_textOf 41 = .ok (.invokespecial 202, 3) := by decide +kernel
theorem d_DK_textOf_44 : decode b_DK_textOf 44 = .ok (.areturn, 1) := by decide +kernel
theorem d_DK_isHigh_0 : decode b_DK_isHigh 0 = .ok (.iload_n 0, 1) := by decide +kernel
theorem d_DK_isHigh_1 : decode b_DK_isHigh 1 = .ok (.ldc 208, 2) := by decide +kernel
theorem d_DK_isHigh_3 : decode b_DK_isHigh 3 = .ok (.if_icmp .lt 13, 3) := by decide +kernel
theorem d_DK_isHigh_6 : decode b_DK_isHigh 6 = .ok (.iload_n 0, 1) := by decide +kernel
theorem d_DK_isHigh_7 : decode b_DK_isHigh 7 = .ok (.ldc 209, 2) := by decide +kernel
theorem d_DK_isHigh_9 : decode b_DK_isHigh 9 = .ok (.if_icmp .ge 7, 3) := by decide +kernel
theorem d_DK_isHigh_12 : decode b_DK_isHigh 12 = .ok (.iconst 1, 1) := by decide +kernel
theorem d_DK_isHigh_13 : decode b_DK_isHigh 13 = .ok (.goto 4, 3) := by decide +kernel
theorem d_DK_isHigh_16 : decode b_DK_isHigh 16 = .ok (.iconst 0, 1) := by decide +kernel
theorem d_DK_isHigh_17 : decode b_DK_isHigh 17 = .ok (.ireturn, 1) := by decide +kernel
theorem d_DK_isLow_0 : decode b_DK_isLow 0 = .ok (.iload_n 0, 1) := by decide +kernel
theorem d_DK_isLow_1 : decode b_DK_isLow 1 = .ok (.ldc 209, 2) := by decide +kernel
theorem d_DK_isLow_3 : decode b_DK_isLow 3 = .ok (.if_icmp .lt 13, 3) := by decide +kernel
theorem d_DK_isLow_6 : decode b_DK_isLow 6 = .ok (.iload_n 0, 1) := by decide +kernel
theorem d_DK_isLow_7 : decode b_DK_isLow 7 = .ok (.ldc 210, 2) := by decide +kernel
theorem d_DK_isLow_9 : decode b_DK_isLow 9 = .ok (.if_icmp .ge 7, 3) := by decide +kernel
theorem d_DK_isLow_12 : decode b_DK_isLow 12 = .ok (.iconst 1, 1) := by decide +kernel
theorem d_DK_isLow_13 : decode b_DK_isLow 13 = .ok (.goto 4, 3) := by decide +kernel
theorem d_DK_isLow_16 : decode b_DK_isLow 16 = .ok (.iconst 0, 1) := by decide +kernel
theorem d_DK_isLow_17 : decode b_DK_isLow 17 = .ok (.ireturn, 1) := by decide +kernel
theorem d_DK_makeDraftTheBuilder_0 : decode b_DK_makeDraftTheBuilder 0 = .ok (.aload_n 0, 1) := by decide +kernel
theorem d_DK_makeDraftTheBuilder_1 : decode b_DK_makeDraftTheBuilder 1 = .ok (.getfield 34, 3) := by decide +kernel
theorem d_DK_makeDraftTheBuilder_4 : decode b_DK_makeDraftTheBuilder 4 = .ok (.astore_n 1, 1) := by decide +kernel
theorem d_DK_makeDraftTheBuilder_5 : decode b_DK_makeDraftTheBuilder 5 = .ok (.aload_n 0, 1) := by decide +kernel
theorem d_DK_makeDraftTheBuilder_6 : decode b_DK_makeDraftTheBuilder 6 = .ok (.aload_n 0, 1) := by decide +kernel
theorem d_DK_makeDraftTheBuilder_7 : decode b_DK_makeDraftTheBuilder 7 = .ok (.getfield 37, 3) := by decide +kernel
theorem d_DK_makeDraftTheBuilder_10 : decode b_DK_makeDraftTheBuilder 10 = .ok (.putfield 34, 3) := by decide +kernel
theorem d_DK_makeDraftTheBuilder_13 : decode b_DK_makeDraftTheBuilder 13 = .ok (.aload_n 0, 1) := by decide +kernel
theorem d_DK_makeDraftTheBuilder_14 : decode b_DK_makeDraftTheBuilder 14 = .ok (.aload_n 1, 1) := by decide +kernel
theorem d_DK_makeDraftTheBuilder_15 : decode b_DK_makeDraftTheBuilder 15 = .ok (.putfield 37, 3) := by decide +kernel
theorem d_DK_makeDraftTheBuilder_18 : decode b_DK_makeDraftTheBuilder 18 = .ok (.return_, 1) := by decide +kernel
theorem d_DK_clear_0 : decode b_DK_clear 0 = .ok (.iconst 0, 1) := by decide +kernel
theorem d_DK_clear_1 : decode b_DK_clear 1 = .ok (.istore_n 1, 1) := by decide +kernel
theorem d_DK_clear_2 : decode b_DK_clear 2 = .ok (.iload_n 1, 1) := by decide +kernel
theorem d_DK_clear_3 : decode b_DK_clear 3 = .ok (.aload_n 0, 1) := by decide +kernel
theorem d_DK_clear_4 : decode b_DK_clear 4 = .ok (.getfield 11, 3) := by decide +kernel
theorem d_DK_clear_7 : decode b_DK_clear 7 = .ok (.arraylength, 1) := by decide +kernel
theorem d_DK_clear_8 : decode b_DK_clear 8 = .ok (.if_icmp .ge 16, 3) := by decide +kernel
theorem d_DK_clear_11 : decode b_DK_clear 11 = .ok (.aload_n 0, 1) := by decide +kernel
theorem d_DK_clear_12 : decode b_DK_clear 12 = .ok (.getfield 11, 3) := by decide +kernel
theorem d_DK_clear_15 : decode b_DK_clear 15 = .ok (.iload_n 1, 1) := by decide +kernel
theorem d_DK_clear_16 : decode b_DK_clear 16 = .ok (.aconst_null, 1) := by decide +kernel
theorem d_DK_clear_17 : decode b_DK_clear 17 = .ok (.aastore, 1) := by decide +kernel
theorem d_DK_clear_18 : decode b_DK_clear 18 = .ok (.iinc 1 1, 3) := by decide +kernel
theorem d_DK_clear_21 : decode b_DK_clear 21 = .ok (.goto (-19), 3) := by decide +kernel
theorem d_DK_clear_24 : decode b_DK_clear 24 = .ok (.aload_n 0, 1) := by decide +kernel
theorem d_DK_clear_25 : decode b_DK_clear 25 = .ok (.iconst 0, 1) := by decide +kernel
theorem d_DK_clear_26 : decode b_DK_clear 26 = .ok (.putfield 173, 3) := by decide +kernel
theorem d_DK_clear_29 : decode b_DK_clear 29 = .ok (.iconst 0, 1) := by decide +kernel
theorem d_DK_clear_30 : decode b_DK_clear 30 = .ok (.istore_n 1, 1) := by decide +kernel
theorem d_DK_clear_31 : decode b_DK_clear 31 = .ok (.iload_n 1, 1) := by decide +kernel
theorem d_DK_clear_32 : decode b_DK_clear 32 = .ok (.aload_n 0, 1) := by decide +kernel
theorem d_DK_clear_33 : decode b_DK_clear 33 = .ok (.getfield 15, 3) := by decide +kernel
theorem d_DK_clear_36 : decode b_DK_clear 36 = .ok (.arraylength, 1) := by decide +kernel
theorem d_DK_clear_37 : decode b_DK_clear 37 = .ok (.if_icmp .ge 16, 3) := by decide +kernel
theorem d_DK_clear_40 : decode b_DK_clear 40 = .ok (.aload_n 0, 1) := by decide +kernel
theorem d_DK_clear_41 : decode b_DK_clear 41 = .ok (.getfield 15, 3) := by decide +kernel
theorem d_DK_clear_44 : decode b_DK_clear 44 = .ok (.iload_n 1, 1) := by decide +kernel
theorem d_DK_clear_45 : decode b_DK_clear 45 = .ok (.aconst_null, 1) := by decide +kernel
theorem d_DK_clear_46 : decode b_DK_clear 46 = .ok (.aastore, 1) := by decide +kernel
theorem d_DK_clear_47 : decode b_DK_clear 47 = .ok (.iinc 1 1, 3) := by decide +kernel
theorem d_DK_clear_50 : decode b_DK_clear 50 = .ok (.goto (-19), 3) := by decide +kernel
theorem d_DK_clear_53 : decode b_DK_clear 53 = .ok (.aload_n 0, 1) := by decide +kernel
theorem d_DK_clear_54 : decode b_DK_clear 54 = .ok (.iconst 0, 1) := by decide +kernel
theorem d_DK_clear_55 : decode b_DK_clear 55 = .ok (.putfield 145, 3) := by decide +kernel
theorem d_DK_clear_58 : decode b_DK_clear 58 = .ok (.return_, 1) := by decide +kernel
theorem d_DK_unit_0 : decode b_DK_unit 0 = .ok (.iload_n 1, 1) := by decide +kernel
theorem d_DK_unit_1 : decode b_DK_unit 1 = .ok (.ifCond .lt 9, 3) := by decide +kernel
theorem d_DK_unit_4 : decode b_DK_unit 4 = .ok (.iload_n 1, 1) := by decide +kernel
theorem d_DK_unit_5 : decode b_DK_unit 5 = .ok (.ldc 40, 2) := by decide +kernel
theorem d_DK_unit_7 : decode b_DK_unit 7 = .ok (.if_icmp .lt 13, 3) := by decide +kernel
theorem d_DK_unit_10 : decode b_DK_unit 10 = .ok (.new 41, 3) := by decide +kernel
theorem d_DK_unit_13 : decode b_DK_unit 13 = .ok (.dup, 1) := by decide +kernel
theorem d_DK_unit_14 : decode b_DK_unit 14 = .ok (.ldc 43, 2) := by decide +kernel
theorem d_DK_unit_16 : decode b_DK_unit 16 = .ok (.invokespecial 45, 3) := by decide +kernel
theorem d_DK_unit_19 : decode b_DK_unit 19 = .ok (.athrow, 1) := by decide +kernel
theorem d_DK_unit_20 : decode b_DK_unit 20 = .ok (.aload_n 0, 1) := by decide +kernel
theorem d_DK_unit_21 : decode b_DK_unit 21 = .ok (.getfield 34, 3) := by decide +kernel
theorem d_DK_unit_24 : decode b_DK_unit 24 = .ok (.invokevirtual 48, 3) := by decide +kernel
theorem d_DK_unit_27 : decode b_DK_unit 27 = .ok (.ifCond .eq 13, 3) := by decide +kernel
theorem d_DK_unit_30 : decode b_DK_unit 30 = .ok (.new 52, 3) := by decide +kernel
theorem d_DK_unit_33 : decode b_DK_unit 33 = .ok (.dup, 1) := by decide +kernel
theorem d_DK_unit_34 : decode b_DK_unit 34 = .ok (.ldc 54, 2) := by decide +kernel
theorem d_DK_unit_36 : decode b_DK_unit 36 = .ok (.invokespecial 56, 3) := by decide +kernel
theorem d_DK_unit_39 : decode b_DK_unit 39 = .ok (.athrow, 1) := by decide +kernel
theorem d_DK_unit_40 : decode b_DK_unit 40 = .ok (.aload_n 0, 1) := by decide +kernel
theorem d_DK_unit_41 : decode b_DK_unit 41 = .ok (.getfield 34, 3) := by decide +kernel
theorem d_DK_unit_44 : decode b_DK_unit 44 = .ok (.iload_n 1, 1) := by decide +kernel
theorem d_DK_unit_45 : decode b_DK_unit 45 = .ok (.invokevirtual 57, 3) := by decide +kernel
theorem d_DK_unit_48 : decode b_DK_unit 48 = .ok (.aload_n 0, 1) := by decide +kernel
theorem d_DK_unit_49 : decode b_DK_unit 49 = .ok (.getfield 34, 3) := by decide +kernel
theorem d_DK_unit_52 : decode b_DK_unit 52 = .ok (.invokevirtual 60, 3) := by decide +kernel
theorem d_DK_unit_55 : decode b_DK_unit 55 = .ok (.ireturn, 1) := by decide +kernel
theorem d_DK_insert_0 : decode b_DK_insert 0 = .ok (.aload_n 0, 1) := by decide +kernel
theorem d_DK_insert_1 : decode b_DK_insert 1 = .ok (.iload_n 2, 1) := by decide +kernel
theorem d_DK_insert_2 : decode b_DK_insert 2 = .ok (.invokevirtual 64, 3) := by decide +kernel
theorem d_DK_insert_5 : decode b_DK_insert 5 = .ok (.astore_n 3, 1) := by decide +kernel
theorem d_DK_insert_6 : decode b_DK_insert 6 = .ok (.iload_n 1, 1) := by decide +kernel
theorem d_DK_insert_7 : decode b_DK_insert 7 = .ok (.ifCond .lt 14, 3) := by decide +kernel
theorem d_DK_insert_10 : decode b_DK_insert 10 = .ok (.iload_n 1, 1) := by decide +kernel
theorem d_DK_insert_11 : decode b_DK_insert 11 = .ok (.aload_n 0, 1) := by decide +kernel
theorem d_DK_insert_12 : decode b_DK_insert 12 = .ok (.getfield 34, 3) := by decide +kernel
theorem d_DK_insert_15 : decode b_DK_insert 15 = .ok (.invokevirtual 60, 3) := by decide +kernel
theorem d_DK_insert_18 : decode b_DK_insert 18 = .ok (.if_icmp .le 13, 3) := by decide +kernel
theorem d_DK_insert_21 : decode b_DK_insert 21 = .ok (.new 41, 3) := by decide +kernel
theorem d_DK_insert_24 : decode b_DK_insert 24 = .ok (.dup, 1) := by decide +kernel
theorem d_DK_insert_25 : decode b_DK_insert 25 = .ok (.ldc 68, 2) := by decide +kernel
theorem d_DK_insert_27 : decode b_DK_insert 27 = .ok (.invokespecial 45, 3) := by decide +kernel
theorem d_DK_insert_30 : decode b_DK_insert 30 = .ok (.athrow, 1) := by decide +kernel
theorem d_DK_insert_31 : decode b_DK_insert 31 = .ok (.aload_n 0, 1) := by decide +kernel
theorem d_DK_insert_32 : decode b_DK_insert 32 = .ok (.getfield 37, 3) := by decide +kernel
theorem d_DK_insert_35 : decode b_DK_insert 35 = .ok (.invokevirtual 70, 3) := by decide +kernel
theorem d_DK_insert_38 : decode b_DK_insert 38 = .ok (.aload_n 0, 1) := by decide +kernel
theorem d_DK_insert_39 : decode b_DK_insert 39 = .ok (.getfield 37, 3) := by decide +kernel
theorem d_DK_insert_42 : decode b_DK_insert 42 = .ok (.aload_n 0, 1) := by decide +kernel
theorem d_DK_insert_43 : decode b_DK_insert 43 = .ok (.getfield 34, 3) := by decide +kernel
theorem d_DK_insert_46 : decode b_DK_insert 46 = .ok (.iconst 0, 1) := by decide +kernel
theorem d_DK_insert_47 : decode b_DK_insert 47 = .ok (.iload_n 1, 1) := by decide +kernel
theorem d_DK_insert_48 : decode b_DK_insert 48 = .ok (.invokevirtual 73, 3) := by decide +kernel
theorem d_DK_insert_51 : decode b_DK_insert 51 = .ok (.aload_n 0, 1) := by decide +kernel
theorem d_DK_insert_52 : decode b_DK_insert 52 = .ok (.getfield 37, 3) := by decide +kernel
theorem d_DK_insert_55 : decode b_DK_insert 55 = .ok (.aload_n 3, 1) := by decide +kernel
theorem d_DK_insert_56 : decode b_DK_insert 56 = .ok (.iconst 0, 1) := by decide +kernel
theorem d_DK_insert_57 : decode b_DK_insert 57 = .ok (.aload_n 3, 1) := by decide +kernel
theorem d_DK_insert_58 : decode b_DK_insert 58 = .ok (.invokevirtual 77, 3) := by decide +kernel
theorem d_DK_insert_61 : decode b_DK_insert 61 = .ok (.invokevirtual 73, 3) := by decide +kernel
theorem d_DK_insert_64 : decode b_DK_insert 64 = .ok (.aload_n 0, 1) := by decide +kernel
theorem d_DK_insert_65 : decode b_DK_insert 65 = .ok (.getfield 37, 3) := by decide +kernel
theorem d_DK_insert_68 : decode b_DK_insert 68 = .ok (.aload_n 0, 1) := by decide +kernel
theorem d_DK_insert_69 : decode b_DK_insert 69 = .ok (.getfield 34, 3) := by decide +kernel
theorem d_DK_insert_72 : decode b_DK_insert 72 = .ok (.iload_n 1, 1) := by decide +kernel
theorem d_DK_insert_73 : decode b_DK_insert 73 = .ok (.aload_n 0, 1) := by decide +kernel
theorem d_DK_insert_74 : decode b_DK_insert 74 = .ok (.getfield 34, 3) := by decide +kernel
theorem d_DK_insert_77 : decode b_DK_insert 77 = .ok (.invokevirtual 60, 3) := by decide +kernel
theorem d_DK_insert_80 : decode b_DK_insert 80 = .ok (.invokevirtual 73, 3) := by decide +kernel
theorem d_DK_insert_83 : decode b_DK_insert 83 = .ok (.aload_n 0, 1) := by decide +kernel
theorem d_DK_insert_84 : decode b_DK_insert 84 = .ok (.invokevirtual 78, 3) := by decide +kernel
theorem d_DK_insert_87 : decode b_DK_insert 87 = .ok (.aload_n 0, 1) := by decide +kernel
theorem d_DK_insert_88 : decode b_DK_insert 88 = .ok (.invokevirtual 81, 3) := by decide +kernel
theorem d_DK_insert_91 : decode b_DK_insert 91 = .ok (.aload_n 0, 1) := by decide +kernel
theorem d_DK_insert_92 : decode b_DK_insert 92 = .ok (.getfield 34, 3) := by decide +kernel
theorem d_DK_insert_95 : decode b_DK_insert 95 = .ok (.invokevirtual 60, 3) := by decide +kernel
theorem d_DK_insert_98 : decode b_DK_insert 98 = .ok (.ireturn, 1) := by decide +kernel
theorem d_DK_textNumbered_0 : decode b_DK_textNumbered 0 = .ok (.iload_n 1, 1) := by decide +kernel
theorem d_DK_textNumbered_1 : decode b_DK_textNumbered 1 = .ok (.ifCond .lt 20, 3) := by decide +kernel
theorem d_DK_textNumbered_4 : decode b_DK_textNumbered 4 = .ok (.iload_n 1, 1) := by decide +kernel
theorem d_DK_textNumbered_5 : decode b_DK_textNumbered 5 = .ok (.aload_n 0, 1) := by decide +kernel
theorem d_DK_textNumbered_6 : decode b_DK_textNumbered 6 = .ok (.getfield 173, 3) := by decide +kernel
theorem d_DK_textNumbered_9 : decode b_DK_textNumbered 9 = .ok (.if_icmp .ge 12, 3) := by decide +kernel
theorem d_DK_textNumbered_12 : decode b_DK_textNumbered 12 = .ok (.iload_n 1, 1) := by decide +kernel
theorem d_DK_textNumbered_13 : decode b_DK_textNumbered 13 = .ok (.aload_n 0, 1) := by decide +kernel
theorem d_DK_textNumbered_14 : decode b_DK_textNumbered 14 = .ok (.getfield 11, 3) := by decide +kernel
theorem d_DK_textNumbered_17 : decode b_DK_textNumbered 17 = .ok (.arraylength, 1) := by decide +kernel
theorem d_DK_textNumbered_18 : decode b_DK_textNumbered 18 = .ok (.if_icmp .lt 13, 3) := by decide +kernel
theorem d_DK_textNumbered_21 : decode b_DK_textNumbered 21 = .ok (.new 41, 3) := by decide +kernel
theorem d_DK_textNumbered_24 : decode b_DK_textNumbered 24 = .ok (.dup, 1) := by decide +kernel
theorem d_DK_textNumbered_25 : decode b_DK_textNumbered 25 = .ok (.ldc 176, 2) := by decide +kernel
theorem d_DK_textNumbered_27 : decode b_DK_textNumbered 27 = .ok (.invokespecial 45, 3) := by decide +kernel
theorem d_DK_textNumbered_30 : decode b_DK_textNumbered 30 = .ok (.athrow, 1) := by decide +kernel
theorem d_DK_textNumbered_31 : decode b_DK_textNumbered 31 = .ok (.aload_n 0, 1) := by decide +kernel
theorem d_DK_textNumbered_32 : decode b_DK_textNumbered 32 = .ok (.getfield 11, 3) := by decide +kernel
theorem d_DK_textNumbered_35 : decode b_DK_textNumbered 35 = .ok (.iload_n 1, 1) := by decide +kernel
theorem d_DK_textNumbered_36 : decode b_DK_textNumbered 36 = .ok (.aaload, 1) := by decide +kernel
theorem d_DK_textNumbered_37 : decode b_DK_textNumbered 37 = .ok (.areturn, 1) := by decide +kernel
theorem d_DK_refuseSpilledDraft_0 : decode b_DK_refuseSpilledDraft 0 = .ok (.aload_n 0, 1) := by decide +kernel
theorem d_DK_refuseSpilledDraft_1 : decode b_DK_refuseSpilledDraft 1 = .ok (.getfield 37, 3) := by decide +kernel
theorem d_DK_refuseSpilledDraft_4 : decode b_DK_refuseSpilledDraft 4 = .ok (.invokevirtual 180, 3) := by decide +kernel
theorem d_DK_refuseSpilledDraft_7 : decode b_DK_refuseSpilledDraft 7 = .ok (.ifCond .eq 13, 3) := by decide +kernel
theorem d_DK_refuseSpilledDraft_10 : decode b_DK_refuseSpilledDraft 10 = .ok (.new 52, 3) := by decide +kernel
theorem d_DK_refuseSpilledDraft_13 : decode b_DK_refuseSpilledDraft 13 = .ok (.dup, 1) := by decide +kernel
theorem d_DK_refuseSpilledDraft_14 : decode b_DK_refuseSpilledDraft 14 = .ok (.ldc 183, 2) := by decide +kernel
theorem d_DK_refuseSpilledDraft_16 : decode b_DK_refuseSpilledDraft 16 = .ok (.invokespecial 56, 3) := by decide +kernel
theorem d_DK_refuseSpilledDraft_19 : decode b_DK_refuseSpilledDraft 19 = .ok (.athrow, 1) := by decide +kernel
theorem d_DK_refuseSpilledDraft_20 : decode b_DK_refuseSpilledDraft 20 = .ok (.return_, 1) := by decide +kernel
theorem d_DK_delete_0 : decode b_DK_delete 0 = .ok (.iload_n 1, 1) := by decide +kernel
theorem d_DK_delete_1 : decode b_DK_delete 1 = .ok (.iload_n 2, 1) := by decide +kernel
theorem d_DK_delete_2 : decode b_DK_delete 2 = .ok (.aload_n 0, 1) := by decide +kernel
theorem d_DK_delete_3 : decode b_DK_delete 3 = .ok (.getfield 34, 3) := by decide +kernel
theorem d_DK_delete_6 : decode b_DK_delete 6 = .ok (.invokevirtual 60, 3) := by decide +kernel
theorem d_DK_delete_9 : decode b_DK_delete 9 = .ok (.invokestatic 84, 3) := by decide +kernel
theorem d_DK_delete_12 : decode b_DK_delete 12 = .ok (.aload_n 0, 1) := by decide +kernel
theorem d_DK_delete_13 : decode b_DK_delete 13 = .ok (.getfield 37, 3) := by decide +kernel
theorem d_DK_delete_16 : decode b_DK_delete 16 = .ok (.invokevirtual 70, 3) := by decide +kernel
theorem d_DK_delete_19 : decode b_DK_delete 19 = .ok (.aload_n 0, 1) := by decide +kernel
theorem d_DK_delete_20 : decode b_DK_delete 20 = .ok (.getfield 37, 3) := by decide +kernel
theorem d_DK_delete_23 : decode b_DK_delete 23 = .ok (.aload_n 0, 1) := by decide +kernel
theorem d_DK_delete_24 : decode b_DK_delete 24 = .ok (.getfield 34, 3) := by decide +kernel
theorem d_DK_delete_27 : decode b_DK_delete 27 = .ok (.iconst 0, 1) := by decide +kernel
theorem d_DK_delete_28 : decode b_DK_delete 28 = .ok (.iload_n 1, 1) := by decide +kernel
theorem d_DK_delete_29 : decode b_DK_delete 29 = .ok (.invokevirtual 73, 3) := by decide +kernel
theorem d_DK_delete_32 : decode b_DK_delete 32 = .ok (.aload_n 0, 1) := by decide +kernel
theorem d_DK_delete_33 : decode b_DK_delete 33 = .ok (.getfield 37, 3) := by decide +kernel
theorem d_DK_delete_36 : decode b_DK_delete 36 = .ok (.aload_n 0, 1) := by decide +kernel
theorem d_DK_delete_37 : decode b_DK_delete 37 = .ok (.getfield 34, 3) := by decide +kernel
theorem d_DK_delete_40 : decode b_DK_delete 40 = .ok (.iload_n 2, 1) := by decide +kernel
theorem d_DK_delete_41 : decode b_DK_delete 41 = .ok (.aload_n 0, 1) := by decide +kernel
theorem d_DK_delete_42 : decode b_DK_delete 42 = .ok (.getfield 34, 3) := by decide +kernel
theorem d_DK_delete_45 : decode b_DK_delete 45 = .ok (.invokevirtual 60, 3) := by decide +kernel
theorem d_DK_delete_48 : decode b_DK_delete 48 = .ok (.invokevirtual 73, 3) := by decide +kernel
theorem d_DK_delete_51 : decode b_DK_delete 51 = .ok (.aload_n 0, 1) := by decide +kernel
theorem d_DK_delete_52 : decode b_DK_delete 52 = .ok (.invokevirtual 81, 3) := by decide +kernel
theorem d_DK_delete_55 : decode b_DK_delete 55 = .ok (.return_, 1) := by decide +kernel
theorem d_DK_refuseBadRange_0 : decode b_DK_refuseBadRange 0 = .ok (.iload_n 0, 1) := by decide +kernel
theorem d_DK_refuseBadRange_1 : decode b_DK_refuseBadRange 1 = .ok (.ifCond .lt 13, 3) := by decide +kernel
theorem d_DK_refuseBadRange_4 : decode b_DK_refuseBadRange 4 = .ok (.iload_n 0, 1) := by decide +kernel
theorem d_DK_refuseBadRange_5 : decode b_DK_refuseBadRange 5 = .ok (.iload_n 1, 1) := by decide +kernel
theorem d_DK_refuseBadRange_6 : decode b_DK_refuseBadRange 6 = .ok (.if_icmp .gt 8, 3) := by decide +kernel
theorem d_DK_refuseBadRange_9 : decode b_DK_refuseBadRange 9 = .ok (.iload_n 1, 1) := by decide +kernel
theorem d_DK_refuseBadRange_10 : decode b_DK_refuseBadRange 10 = .ok (.iload_n 2, 1) := by decide +kernel
theorem d_DK_refuseBadRange_11 : decode b_DK_refuseBadRange 11 = .ok (.if_icmp .le 13, 3) := by decide +kernel
theorem d_DK_refuseBadRange_14 : decode b_DK_refuseBadRange 14 = .ok (.new 126, 3) := by decide +kernel
theorem d_DK_refuseBadRange_17 : decode b_DK_refuseBadRange 17 = .ok (.dup, 1) := by decide +kernel
theorem d_DK_refuseBadRange_18 : decode b_DK_refuseBadRange 18 = .ok (.ldc 185, 2) := by decide +kernel
theorem d_DK_refuseBadRange_20 : decode b_DK_refuseBadRange 20 = .ok (.invokespecial 130, 3) := by decide +kernel
theorem d_DK_refuseBadRange_23 : decode b_DK_refuseBadRange 23 = .ok (.athrow, 1) := by decide +kernel
theorem d_DK_refuseBadRange_24 : decode b_DK_refuseBadRange 24 = .ok (.return_, 1) := by decide +kernel
theorem d_DK_built_0 : decode b_DK_built 0 = .ok (.aload_n 0, 1) := by decide +kernel
theorem d_DK_built_1 : decode b_DK_built 1 = .ok (.getfield 34, 3) := by decide +kernel
theorem d_DK_built_4 : decode b_DK_built 4 = .ok (.iload_n 1, 1) := by decide +kernel
theorem d_DK_built_5 : decode b_DK_built 5 = .ok (.invokestatic 96, 3) := by decide +kernel
theorem d_DK_built_8 : decode b_DK_built 8 = .ok (.ireturn, 1) := by decide +kernel
theorem d_DK_sizeOrItem_0 : decode b_DK_sizeOrItem 0 = .ok (.iload_n 1, 1) := by decide +kernel
theorem d_DK_sizeOrItem_1 : decode b_DK_sizeOrItem 1 = .ok (.iconst (-1), 1) := by decide +kernel
theorem d_DK_sizeOrItem_2 : decode b_DK_sizeOrItem 2 = .ok (.if_icmp .ne 8, 3) := by decide +kernel
theorem d_DK_sizeOrItem_5 : decode b_DK_sizeOrItem 5 = .ok (.aload_n 0, 1) := by decide +kernel
theorem d_DK_sizeOrItem_6 : decode b_DK_sizeOrItem 6 = .ok (.invokevirtual 189, 3) := by decide +kernel
theorem d_DK_sizeOrItem_9 : decode b_DK_sizeOrItem 9 = .ok (.ireturn, 1) := by decide +kernel
theorem d_DK_sizeOrItem_10 : decode b_DK_sizeOrItem 10 = .ok (.aload_n 0, 1) := by decide +kernel
theorem d_DK_sizeOrItem_11 : decode b_DK_sizeOrItem 11 = .ok (.iload_n 1, 1) := by decide +kernel
theorem d_DK_sizeOrItem_12 : decode b_DK_sizeOrItem 12 = .ok (.invokevirtual 192, 3) := by decide +kernel
theorem d_DK_sizeOrItem_15 : decode b_DK_sizeOrItem 15 = .ok (.istore_n 2, 1) := by decide +kernel
theorem d_DK_sizeOrItem_16 : decode b_DK_sizeOrItem 16 = .ok (.iload_n 2, 1) := by decide +kernel
theorem d_DK_sizeOrItem_17 : decode b_DK_sizeOrItem 17 = .ok (.iconst (-1), 1) := by decide +kernel
theorem d_DK_sizeOrItem_18 : decode b_DK_sizeOrItem 18 = .ok (.if_icmp .ne 13, 3) := by decide +kernel
theorem d_DK_sizeOrItem_21 : decode b_DK_sizeOrItem 21 = .ok (.new 126, 3) := by decide +kernel
theorem d_DK_sizeOrItem_24 : decode b_DK_sizeOrItem 24 = .ok (.dup, 1) := by decide +kernel
theorem d_DK_sizeOrItem_25 : decode b_DK_sizeOrItem 25 = .ok (.ldc 193, 2) := by decide +kernel
theorem d_DK_sizeOrItem_27 : decode b_DK_sizeOrItem 27 = .ok (.invokespecial 130, 3) := by decide +kernel
theorem d_DK_sizeOrItem_30 : decode b_DK_sizeOrItem 30 = .ok (.athrow, 1) := by decide +kernel
theorem d_DK_sizeOrItem_31 : decode b_DK_sizeOrItem 31 = .ok (.iload_n 2, 1) := by decide +kernel
theorem d_DK_sizeOrItem_32 : decode b_DK_sizeOrItem 32 = .ok (.ireturn, 1) := by decide +kernel
theorem d_DK_take_0 : decode b_DK_take 0 = .ok (.aload_n 0, 1) := by decide +kernel
theorem d_DK_take_1 : decode b_DK_take 1 = .ok (.aload_n 0, 1) := by decide +kernel
theorem d_DK_take_2 : decode b_DK_take 2 = .ok (.getfield 34, 3) := by decide +kernel
theorem d_DK_take_5 : decode b_DK_take 5 = .ok (.invokestatic 100, 3) := by decide +kernel
theorem d_DK_take_8 : decode b_DK_take 8 = .ok (.invokevirtual 104, 3) := by decide +kernel
theorem d_DK_take_11 : decode b_DK_take 11 = .ok (.istore_n 1, 1) := by decide +kernel
theorem d_DK_take_12 : decode b_DK_take 12 = .ok (.aload_n 0, 1) := by decide +kernel
theorem d_DK_take_13 : decode b_DK_take 13 = .ok (.getfield 34, 3) := by decide +kernel
theorem d_DK_take_16 : decode b_DK_take 16 = .ok (.invokevirtual 70, 3) := by decide +kernel
theorem d_DK_take_19 : decode b_DK_take 19 = .ok (.iload_n 1, 1) := by decide +kernel
theorem d_DK_take_20 : decode b_DK_take 20 = .ok (.ireturn, 1) := by decide +kernel
theorem d_DK_keepText_0 : decode b_DK_keepText 0 = .ok (.aload_n 0, 1) := by decide +kernel
theorem d_DK_keepText_1 : decode b_DK_keepText 1 = .ok (.getfield 173, 3) := by decide +kernel
theorem d_DK_keepText_4 : decode b_DK_keepText 4 = .ok (.aload_n 0, 1) := by decide +kernel
theorem d_DK_keepText_5 : decode b_DK_keepText 5 = .ok (.getfield 11, 3) := by decide +kernel
theorem d_DK_keepText_8 : decode b_DK_keepText 8 = .ok (.arraylength, 1) := by decide +kernel
theorem d_DK_keepText_9 : decode b_DK_keepText 9 = .ok (.if_icmp .lt 13, 3) := by decide +kernel
theorem d_DK_keepText_12 : decode b_DK_keepText 12 = .ok (.new 52, 3) := by decide +kernel
theorem d_DK_keepText_15 : decode b_DK_keepText 15 = .ok (.dup, 1) := by decide +kernel
theorem d_DK_keepText_16 : decode b_DK_keepText 16 = .ok (.ldc 178, 2) := by decide +kernel
theorem d_DK_keepText_18 : decode b_DK_keepText 18 = .ok (.invokespecial 56, 3) := by decide +kernel
theorem d_DK_keepText_21 : decode b_DK_keepText 21 = .ok (.athrow, 1) := by decide +kernel
theorem d_DK_keepText_22 : decode b_DK_keepText 22 = .ok (.aload_n 0, 1) := by decide +kernel
theorem d_DK_keepText_23 : decode b_DK_keepText 23 = .ok (.getfield 11, 3) := by decide +kernel
theorem d_DK_keepText_26 : decode b_DK_keepText 26 = .ok (.aload_n 0, 1) := by decide +kernel
theorem d_DK_keepText_27 : decode b_DK_keepText 27 = .ok (.getfield 173, 3) := by decide +kernel
theorem d_DK_keepText_30 : decode b_DK_keepText 30 = .ok (.aload_n 1, 1) := by decide +kernel
theorem d_DK_keepText_31 : decode b_DK_keepText 31 = .ok (.aastore, 1) := by decide +kernel
theorem d_DK_keepText_32 : decode b_DK_keepText 32 = .ok (.aload_n 0, 1) := by decide +kernel
theorem d_DK_keepText_33 : decode b_DK_keepText 33 = .ok (.dup, 1) := by decide +kernel
theorem d_DK_keepText_34 : decode b_DK_keepText 34 = .ok (.getfield 173, 3) := by decide +kernel
theorem d_DK_keepText_37 : decode b_DK_keepText 37 = .ok (.iconst 1, 1) := by decide +kernel
theorem d_DK_keepText_38 : decode b_DK_keepText 38 = .ok (.iadd, 1) := by decide +kernel
theorem d_DK_keepText_39 : decode b_DK_keepText 39 = .ok (.putfield 173, 3) := by decide +kernel
theorem d_DK_keepText_42 : decode b_DK_keepText 42 = .ok (.aload_n 0, 1) := by decide +kernel
theorem d_DK_keepText_43 : decode b_DK_keepText 43 = .ok (.getfield 173, 3) := by decide +kernel
theorem d_DK_keepText_46 : decode b_DK_keepText 46 = .ok (.iconst 1, 1) := by decide +kernel
theorem d_DK_keepText_47 : decode b_DK_keepText 47 = .ok (.isub, 1) := by decide +kernel
theorem d_DK_keepText_48 : decode b_DK_keepText 48 = .ok (.ireturn, 1) := by decide +kernel
theorem d_DK_join_0 : decode b_DK_join 0 = .ok (.aload_n 0, 1) := by decide +kernel
theorem d_DK_join_1 : decode b_DK_join 1 = .ok (.iload_n 1, 1) := by decide +kernel
theorem d_DK_join_2 : decode b_DK_join 2 = .ok (.invokevirtual 64, 3) := by decide +kernel
theorem d_DK_join_5 : decode b_DK_join 5 = .ok (.astore_n 3, 1) := by decide +kernel
theorem d_DK_join_6 : decode b_DK_join 6 = .ok (.aload_n 0, 1) := by decide +kernel
theorem d_DK_join_7 : decode b_DK_join 7 = .ok (.iload_n 2, 1) := by decide +kernel
theorem d_DK_join_8 : decode b_DK_join 8 = .ok (.invokevirtual 64, 3) := by decide +kernel
theorem d_DK_join_11 : decode b_DK_join 11 = .ok (.astore 4, 2) := by decide +kernel
theorem d_DK_join_13 : decode b_DK_join 13 = .ok (.aload_n 3, 1) := by decide +kernel
theorem d_DK_join_14 : decode b_DK_join 14 = .ok (.invokevirtual 77, 3) := by decide +kernel
theorem d_DK_join_17 : decode b_DK_join 17 = .ok (.aload 4, 2) := by decide +kernel
theorem d_DK_join_19 : decode b_DK_join 19 = .ok (.invokevirtual 77, 3) := by decide +kernel
theorem d_DK_join_22 : decode b_DK_join 22 = .ok (.iadd, 1) := by decide +kernel
theorem d_DK_join_23 : decode b_DK_join 23 = .ok (.bipush 60, 2) := by decide +kernel
theorem d_DK_join_25 : decode b_DK_join 25 = .ok (.if_icmp .le 13, 3) := by decide +kernel
theorem d_DK_join_28 : decode b_DK_join 28 = .ok (.new 52, 3) := by decide +kernel
theorem d_DK_join_31 : decode b_DK_join 31 = .ok (.dup, 1) := by decide +kernel
theorem d_DK_join_32 : decode b_DK_join 32 = .ok (.ldc 108, 2) := by decide +kernel
theorem d_DK_join_34 : decode b_DK_join 34 = .ok (.invokespecial 56, 3) := by decide +kernel
theorem d_DK_join_37 : decode b_DK_join 37 = .ok (.athrow, 1) := by decide +kernel
theorem d_DK_join_38 : decode b_DK_join 38 = .ok (.aload_n 0, 1) := by decide +kernel
theorem d_DK_join_39 : decode b_DK_join 39 = .ok (.aload_n 3, 1) := by decide +kernel
theorem d_DK_join_40 : decode b_DK_join 40 = .ok (.aload 4, 2) := by decide +kernel
theorem d_DK_join_42 : decode b_DK_join 42 = .ok (.invokestatic 110, 3) := by decide +kernel
theorem d_DK_join_45 : decode b_DK_join 45 = .ok (.invokevirtual 104, 3) := by decide +kernel
theorem d_DK_join_48 : decode b_DK_join 48 = .ok (.ireturn, 1) := by decide +kernel
theorem d_DK_joined_0 : decode b_DK_joined 0 = .ok (.aload_n 0, 1) := by decide +kernel
theorem d_DK_joined_1 : decode b_DK_joined 1 = .ok (.invokevirtual 77, 3) := by decide +kernel
theorem d_DK_joined_4 : decode b_DK_joined 4 = .ok (.ifCond .ne 5, 3) := by decide +kernel
theorem d_DK_joined_7 : decode b_DK_joined 7 = .ok (.aload_n 1, 1) := by decide +kernel
theorem d_DK_joined_8 : decode b_DK_joined 8 = .ok (.areturn, 1) := by decide +kernel
theorem d_DK_joined_9 : decode b_DK_joined 9 = .ok (.aload_n 1, 1) := by decide +kernel
theorem d_DK_joined_10 : decode b_DK_joined 10 = .ok (.invokevirtual 77, 3) := by decide +kernel
theorem d_DK_joined_13 : decode b_DK_joined 13 = .ok (.ifCond .ne 5, 3) := by decide +kernel
theorem d_DK_joined_16 : decode b_DK_joined 16 = .ok (.aload_n 0, 1) := by decide +kernel
theorem d_DK_joined_17 : decode b_DK_joined 17 = .ok (.areturn, 1) := by decide +kernel
theorem d_DK_joined_18 : decode b_DK_joined 18 = .ok (.new 203, 3) := by decide +kernel
theorem d_DK_joined_21 : decode b_DK_joined 21 = .ok (.dup, 1) := by decide +kernel
theorem d_DK_joined_22 : decode b_DK_joined 22 = .ok (.aload_n 0, 1) := by decide +kernel
theorem d_DK_joined_23 : decode b_DK_joined 23 = .ok (.aload_n 1, 1) := by decide +kernel
theorem d_DK_joined_24 : decode b_DK_joined 24 = .ok (.invokespecial 205, 3) := by decide +kernel
theorem d_DK_joined_27 : decode b_DK_joined 27 = .ok (.areturn, 1) := by decide +kernel
theorem d_DK_part_0 : decode b_DK_part 0 = .ok (.aload_n 0, 1) := by decide +kernel
theorem d_DK_part_1 : decode b_DK_part 1 = .ok (.iload_n 1, 1) := by decide +kernel
theorem d_DK_part_2 : decode b_DK_part 2 = .ok (.invokevirtual 64, 3) := by decide +kernel
theorem d_DK_part_5 : decode b_DK_part 5 = .ok (.astore 4, 2) := by decide +kernel
theorem d_DK_part_7 : decode b_DK_part 7 = .ok (.iload_n 2, 1) := by decide +kernel
theorem d_DK_part_8 : decode b_DK_part 8 = .ok (.iload_n 3, 1) := by decide +kernel
theorem d_DK_part_9 : decode b_DK_part 9 = .ok (.aload 4, 2) := by decide +kernel
theorem d_DK_part_11 : decode b_DK_part 11 = .ok (.invokevirtual 77, 3) := by decide +kernel
theorem d_DK_part_14 : decode b_DK_part 14 = .ok (.invokestatic 84, 3) := by decide +kernel
theorem d_DK_part_17 : decode b_DK_part 17 = .ok (.aload_n 0, 1) := by decide +kernel
theorem d_DK_part_18 : decode b_DK_part 18 = .ok (.aload 4, 2) := by decide +kernel
theorem d_DK_part_20 : decode b_DK_part 20 = .ok (.iload_n 2, 1) := by decide +kernel
theorem d_DK_part_21 : decode b_DK_part 21 = .ok (.iload_n 3, 1) := by decide +kernel
theorem d_DK_part_22 : decode b_DK_part 22 = .ok (.invokevirtual 114, 3) := by decide +kernel
theorem d_DK_part_25 : decode b_DK_part 25 = .ok (.ireturn, 1) := by decide +kernel
theorem d_DK_keepRange_0 : decode b_DK_keepRange 0 = .ok (.aload_n 0, 1) := by decide +kernel
theorem d_DK_keepRange_1 : decode b_DK_keepRange 1 = .ok (.getfield 37, 3) := by decide +kernel
theorem d_DK_keepRange_4 : decode b_DK_keepRange 4 = .ok (.invokevirtual 70, 3) := by decide +kernel
theorem d_DK_keepRange_7 : decode b_DK_keepRange 7 = .ok (.aload_n 0, 1) := by decide +kernel
theorem d_DK_keepRange_8 : decode b_DK_keepRange 8 = .ok (.getfield 37, 3) := by decide +kernel
theorem d_DK_keepRange_11 : decode b_DK_keepRange 11 = .ok (.aload_n 1, 1) := by decide +kernel
theorem d_DK_keepRange_12 : decode b_DK_keepRange 12 = .ok (.iload_n 2, 1) := by decide +kernel
theorem d_DK_keepRange_13 : decode b_DK_keepRange 13 = .ok (.iload_n 3, 1) := by decide +kernel
theorem d_DK_keepRange_14 : decode b_DK_keepRange 14 = .ok (.invokevirtual 73, 3) := by decide +kernel
theorem d_DK_keepRange_17 : decode b_DK_keepRange 17 = .ok (.aload_n 0, 1) := by decide +kernel
theorem d_DK_keepRange_18 : decode b_DK_keepRange 18 = .ok (.aload_n 0, 1) := by decide +kernel
theorem d_DK_keepRange_19 : decode b_DK_keepRange 19 = .ok (.getfield 37, 3) := by decide +kernel
theorem d_DK_keepRange_22 : decode b_DK_keepRange 22 = .ok (.invokestatic 100, 3) := by decide +kernel
theorem d_DK_keepRange_25 : decode b_DK_keepRange 25 = .ok (.invokevirtual 104, 3) := by decide +kernel
theorem d_DK_keepRange_28 : decode b_DK_keepRange 28 = .ok (.ireturn, 1) := by decide +kernel
theorem d_DK_replace_0 : decode b_DK_replace 0 = .ok (.aload_n 0, 1) := by decide +kernel
theorem d_DK_replace_1 : decode b_DK_replace 1 = .ok (.iload_n 1, 1) := by decide +kernel
theorem d_DK_replace_2 : decode b_DK_replace 2 = .ok (.invokevirtual 64, 3) := by decide +kernel
theorem d_DK_replace_5 : decode b_DK_replace 5 = .ok (.astore 4, 2) := by decide +kernel
theorem d_DK_replace_7 : decode b_DK_replace 7 = .ok (.aload_n 0, 1) := by decide +kernel
theorem d_DK_replace_8 : decode b_DK_replace 8 = .ok (.iload_n 2, 1) := by decide +kernel
theorem d_DK_replace_9 : decode b_DK_replace 9 = .ok (.invokevirtual 64, 3) := by decide +kernel
theorem d_DK_replace_12 : decode b_DK_replace 12 = .ok (.astore 5, 2) := by decide +kernel
theorem d_DK_replace_14 : decode b_DK_replace 14 = .ok (.aload_n 0, 1) := by decide +kernel
theorem d_DK_replace_15 : decode b_DK_replace 15 = .ok (.iload_n 3, 1) := by decide +kernel
theorem d_DK_replace_16 : decode b_DK_replace 16 = .ok (.invokevirtual 64, 3) := by decide +kernel
theorem d_DK_replace_19 : decode b_DK_replace 19 = .ok (.astore 6, 2) := by decide +kernel
theorem d_DK_replace_21 : decode b_DK_replace 21 = .ok (.aload_n 0, 1) := by decide +kernel
theorem d_DK_replace_22 : decode b_DK_replace 22 = .ok (.getfield 37, 3) := by decide +kernel
theorem d_DK_replace_25 : decode b_DK_replace 25 = .ok (.invokevirtual 70, 3) := by decide +kernel
theorem d_DK_replace_28 : decode b_DK_replace 28 = .ok (.iconst 0, 1) := by decide +kernel
theorem d_DK_replace_29 : decode b_DK_replace 29 = .ok (.istore 7, 2) := by decide +kernel
theorem d_DK_replace_31 : decode b_DK_replace 31 = .ok (.iload 7, 2) := by decide +kernel
theorem d_DK_replace_33 : decode b_DK_replace 33 = .ok (.aload 4, 2) := by decide +kernel
theorem d_DK_replace_35 : decode b_DK_replace 35 = .ok (.invokevirtual 77, 3) := by decide +kernel
theorem d_DK_replace_38 : decode b_DK_replace 38 = .ok (.if_icmp .gt 83, 3) := by decide +kernel
theorem d_DK_replace_41 : decode b_DK_replace 41 = .ok (.aload 4, 2) := by decide +kernel
theorem d_DK_replace_43 : decode b_DK_replace 43 = .ok (.aload 5, 2) := by decide +kernel
theorem d_DK_replace_45 : decode b_DK_replace 45 = .ok (.iload 7, 2) := by decide +kernel
theorem d_DK_replace_47 : decode b_DK_replace 47 = .ok (.invokestatic 118, 3) := by decide +kernel
theorem d_DK_replace_50 : decode b_DK_replace 50 = .ok (.istore 8, 2) := by decide +kernel
theorem d_DK_replace_52 : decode b_DK_replace 52 = .ok (.iload 8, 2) := by decide +kernel
theorem d_DK_replace_54 : decode b_DK_replace 54 = .ok (.ifCond .eq 18, 3) := by decide +kernel
theorem d_DK_replace_57 : decode b_DK_replace 57 = .ok (.aload_n 0, 1) := by decide +kernel
theorem d_DK_replace_58 : decode b_DK_replace 58 = .ok (.getfield 37, 3) := by decide +kernel
theorem d_DK_replace_61 : decode b_DK_replace 61 = .ok (.aload 6, 2) := by decide +kernel
theorem d_DK_replace_63 : decode b_DK_replace 63 = .ok (.iconst 0, 1) := by decide +kernel
theorem d_DK_replace_64 : decode b_DK_replace 64 = .ok (.aload 6, 2) := by decide +kernel
theorem d_DK_replace_66 : decode b_DK_replace 66 = .ok (.invokevirtual 77, 3) := by decide +kernel
theorem d_DK_replace_69 : decode b_DK_replace 69 = .ok (.invokevirtual 73, 3) := by decide +kernel
theorem d_DK_replace_72 : decode b_DK_replace 72 = .ok (.iload 8, 2) := by decide +kernel
theorem d_DK_replace_74 : decode b_DK_replace 74 = .ok (.ifCond .eq 26, 3) := by decide +kernel
theorem d_DK_replace_77 : decode b_DK_replace 77 = .ok (.aload 5, 2) := by decide +kernel
theorem d_DK_replace_79 : decode b_DK_replace 79 = .ok (.invokevirtual 77, 3) := by decide +kernel
theorem d_DK_replace_82 : decode b_DK_replace 82 = .ok (.ifCond .le 18, 3) := by decide +kernel
theorem d_DK_replace_85 : decode b_DK_replace 85 = .ok (.iload 7, 2) := by decide +kernel
theorem d_DK_replace_87 : decode b_DK_replace 87 = .ok (.aload 5, 2) := by decide +kernel
theorem d_DK_replace_89 : decode b_DK_replace 89 = .ok (.invokevirtual 77, 3) := by decide +kernel
theorem d_DK_replace_92 : decode b_DK_replace 92 = .ok (.iconst 1, 1) := by decide +kernel
theorem d_DK_replace_93 : decode b_DK_replace 93 = .ok (.isub, 1) := by decide +kernel
theorem d_DK_replace_94 : decode b_DK_replace 94 = .ok (.iadd, 1) := by decide +kernel
theorem d_DK_replace_95 : decode b_DK_replace 95 = .ok (.istore 7, 2) := by decide +kernel
theorem d_DK_replace_97 : decode b_DK_replace 97 = .ok (.goto 18, 3) := by decide +kernel
theorem d_DK_replace_100 : decode b_DK_replace 100 = .ok (.aload_n 0, 1) := by decide +kernel
theorem d_DK_replace_101 : decode b_DK_replace 101 = .ok (.getfield 37, 3) := by decide +kernel
theorem d_DK_replace_104 : decode b_DK_replace 104 = .ok (.aload 4, 2) := by decide +kernel
theorem d_DK_replace_106 : decode b_DK_replace 106 = .ok (.iload 7, 2) := by decide +kernel
theorem d_DK_replace_108 : decode b_DK_replace 108 = .ok (.iload 7, 2) := by decide +kernel
theorem d_DK_replace_110 : decode b_DK_replace 110 = .ok (.iconst 1, 1) := by decide +kernel
theorem d_DK_replace_111 : decode b_DK_replace 111 = .ok (.iadd, 1) := by decide +kernel
theorem d_DK_replace_112 : decode b_DK_replace 112 = .ok (.invokevirtual 73, 3) := by decide +kernel
theorem d_DK_replace_115 : decode b_DK_replace 115 = .ok (.iinc 7 1, 3) := by decide +kernel
theorem d_DK_replace_118 : decode b_DK_replace 118 = .ok (.goto (-87), 3) := by decide +kernel
theorem d_DK_replace_121 : decode b_DK_replace 121 = .ok (.aload_n 0, 1) := by decide +kernel
theorem d_DK_replace_122 : decode b_DK_replace 122 = .ok (.invokevirtual 78, 3) := by decide +kernel
theorem d_DK_replace_125 : decode b_DK_replace 125 = .ok (.aload_n 0, 1) := by decide +kernel
theorem d_DK_replace_126 : decode b_DK_replace 126 = .ok (.aload_n 0, 1) := by decide +kernel
theorem d_DK_replace_127 : decode b_DK_replace 127 = .ok (.getfield 37, 3) := by decide +kernel
theorem d_DK_replace_130 : decode b_DK_replace 130 = .ok (.invokestatic 100, 3) := by decide +kernel
theorem d_DK_replace_133 : decode b_DK_replace 133 = .ok (.invokevirtual 104, 3) := by decide +kernel
theorem d_DK_replace_136 : decode b_DK_replace 136 = .ok (.ireturn, 1) := by decide +kernel
theorem d_DK_standsAt_0 : decode b_DK_standsAt 0 = .ok (.iload_n 2, 1) := by decide +kernel
theorem d_DK_standsAt_1 : decode b_DK_standsAt 1 = .ok (.aload_n 0, 1) := by decide +kernel
theorem d_DK_standsAt_2 : decode b_DK_standsAt 2 = .ok (.invokevirtual 77, 3) := by decide +kernel
theorem d_DK_standsAt_5 : decode b_DK_standsAt 5 = .ok (.aload_n 1, 1) := by decide +kernel
theorem d_DK_standsAt_6 : decode b_DK_standsAt 6 = .ok (.invokevirtual 77, 3) := by decide +kernel
theorem d_DK_standsAt_9 : decode b_DK_standsAt 9 = .ok (.isub, 1) := by decide +kernel
theorem d_DK_standsAt_10 : decode b_DK_standsAt 10 = .ok (.if_icmp .le 5, 3) := by decide +kernel
theorem d_DK_standsAt_13 : decode b_DK_standsAt 13 = .ok (.iconst 0, 1) := by decide +kernel
theorem d_DK_standsAt_14 : decode b_DK_standsAt 14 = .ok (.ireturn, 1) := by decide +kernel
theorem d_DK_standsAt_15 : decode b_DK_standsAt 15 = .ok (.iconst 0, 1) := by decide +kernel
theorem d_DK_standsAt_16 : decode b_DK_standsAt 16 = .ok (.istore_n 3, 1) := by decide +kernel
theorem d_DK_standsAt_17 : decode b_DK_standsAt 17 = .ok (.iload_n 3, 1) := by decide +kernel
theorem d_DK_standsAt_18 : decode b_DK_standsAt 18 = .ok (.aload_n 1, 1) := by decide +kernel
theorem d_DK_standsAt_19 : decode b_DK_standsAt 19 = .ok (.invokevirtual 77, 3) := by decide +kernel
theorem d_DK_standsAt_22 : decode b_DK_standsAt 22 = .ok (.if_icmp .ge 26, 3) := by decide +kernel
theorem d_DK_standsAt_25 : decode b_DK_standsAt 25 = .ok (.aload_n 0, 1) := by decide +kernel
theorem d_DK_standsAt_26 : decode b_DK_standsAt 26 = .ok (.iload_n 2, 1) := by decide +kernel
theorem d_DK_standsAt_27 : decode b_DK_standsAt 27 = .ok (.iload_n 3, 1) := by decide +kernel
theorem d_DK_standsAt_28 : decode b_DK_standsAt 28 = .ok (.iadd, 1) := by decide +kernel
theorem d_DK_standsAt_29 : decode b_DK_standsAt 29 = .ok (.invokevirtual 122, 3) := by decide +kernel
theorem d_DK_standsAt_32 : decode b_DK_standsAt 32 = .ok (.aload_n 1, 1) := by decide +kernel
theorem d_DK_standsAt_33 : decode b_DK_standsAt 33 = .ok (.iload_n 3, 1) := by decide +kernel
theorem d_DK_standsAt_34 : decode b_DK_standsAt 34 = .ok (.invokevirtual 122, 3) := by decide +kernel
theorem d_DK_standsAt_37 : decode b_DK_standsAt 37 = .ok (.if_icmp .eq 5, 3) := by decide +kernel
theorem d_DK_standsAt_40 : decode b_DK_standsAt 40 = .ok (.iconst 0, 1) := by decide +kernel
theorem d_DK_standsAt_41 : decode b_DK_standsAt 41 = .ok (.ireturn, 1) := by decide +kernel
theorem d_DK_standsAt_42 : decode b_DK_standsAt 42 = .ok (.iinc 3 1, 3) := by decide +kernel
theorem d_DK_standsAt_45 : decode b_DK_standsAt 45 = .ok (.goto (-28), 3) := by decide +kernel
theorem d_DK_standsAt_48 : decode b_DK_standsAt 48 = .ok (.iconst 1, 1) := by decide +kernel
theorem d_DK_standsAt_49 : decode b_DK_standsAt 49 = .ok (.ireturn, 1) := by decide +kernel
theorem d_DK_strip_0 : decode b_DK_strip 0 = .ok (.aload_n 0, 1) := by decide +kernel
theorem d_DK_strip_1 : decode b_DK_strip 1 = .ok (.iload_n 1, 1) := by decide +kernel
theorem d_DK_strip_2 : decode b_DK_strip 2 = .ok (.invokevirtual 64, 3) := by decide +kernel
theorem d_DK_strip_5 : decode b_DK_strip 5 = .ok (.astore_n 2, 1) := by decide +kernel
theorem d_DK_strip_6 : decode b_DK_strip 6 = .ok (.iconst 0, 1) := by decide +kernel
theorem d_DK_strip_7 : decode b_DK_strip 7 = .ok (.istore_n 3, 1) := by decide +kernel
theorem d_DK_strip_8 : decode b_DK_strip 8 = .ok (.iload_n 3, 1) := by decide +kernel
theorem d_DK_strip_9 : decode b_DK_strip 9 = .ok (.aload_n 2, 1) := by decide +kernel
theorem d_DK_strip_10 : decode b_DK_strip 10 = .ok (.invokevirtual 77, 3) := by decide +kernel
theorem d_DK_strip_13 : decode b_DK_strip 13 = .ok (.if_icmp .ge 19, 3) := by decide +kernel
theorem d_DK_strip_16 : decode b_DK_strip 16 = .ok (.aload_n 2, 1) := by decide +kernel
theorem d_DK_strip_17 : decode b_DK_strip 17 = .ok (.iload_n 3, 1) := by decide +kernel
theorem d_DK_strip_18 : decode b_DK_strip 18 = .ok (.invokevirtual 122, 3) := by decide +kernel
theorem d_DK_strip_21 : decode b_DK_strip 21 = .ok (.bipush 32, 2) := by decide +kernel
theorem d_DK_strip_23 : decode b_DK_strip 23 = .ok (.if_icmp .gt 9, 3) := by decide +kernel
theorem d_DK_strip_26 : decode b_DK_strip 26 = .ok (.iinc 3 1, 3) := by decide +kernel
theorem d_DK_strip_29 : decode b_DK_strip 29 = .ok (.goto (-21), 3) := by decide +kernel
theorem d_DK_strip_32 : decode b_DK_strip 32 = .ok (.aload_n 2, 1) := by decide +kernel
theorem d_DK_strip_33 : decode b_DK_strip 33 = .ok (.invokevirtual 77, 3) := by decide +kernel
theorem d_DK_strip_36 : decode b_DK_strip 36 = .ok (.istore 4, 2) := by decide +kernel
theorem d_DK_strip_38 : decode b_DK_strip 38 = .ok (.iload 4, 2) := by decide +kernel
theorem d_DK_strip_40 : decode b_DK_strip 40 = .ok (.iload_n 3, 1) := by decide +kernel
theorem d_DK_strip_41 : decode b_DK_strip 41 = .ok (.if_icmp .le 22, 3) := by decide +kernel
theorem d_DK_strip_44 : decode b_DK_strip 44 = .ok (.aload_n 2, 1) := by decide +kernel
theorem d_DK_strip_45 : decode b_DK_strip 45 = .ok (.iload 4, 2) := by decide +kernel
theorem d_DK_strip_47 : decode b_DK_strip 47 = .ok (.iconst 1, 1) := by decide +kernel
theorem d_DK_strip_48 : decode b_DK_strip 48 = .ok (.isub, 1) := by decide +kernel
theorem d_DK_strip_49 : decode b_DK_strip 49 = .ok (.invokevirtual 122, 3) := by decide +kernel
theorem d_DK_strip_52 : decode b_DK_strip 52 = .ok (.bipush 32, 2) := by decide +kernel
theorem d_DK_strip_54 : decode b_DK_strip 54 = .ok (.if_icmp .gt 9, 3) := by decide +kernel
theorem d_DK_strip_57 : decode b_DK_strip 57 = .ok (.iinc 4 (-1), 3) := by decide +kernel
theorem d_DK_strip_60 : decode b_DK_strip 60 = .ok (.goto (-22), 3) := by decide +kernel
theorem d_DK_strip_63 : decode b_DK_strip 63 = .ok (.aload_n 0, 1) := by decide +kernel
theorem d_DK_strip_64 : decode b_DK_strip 64 = .ok (.aload_n 2, 1) := by decide +kernel
theorem d_DK_strip_65 : decode b_DK_strip 65 = .ok (.iload_n 3, 1) := by decide +kernel
theorem d_DK_strip_66 : decode b_DK_strip 66 = .ok (.iload 4, 2) := by decide +kernel
theorem d_DK_strip_68 : decode b_DK_strip 68 = .ok (.invokevirtual 114, 3) := by decide +kernel
theorem d_DK_strip_71 : decode b_DK_strip 71 = .ok (.ireturn, 1) := by decide +kernel
theorem d_DK_at_0 : decode b_DK_at 0 = .ok (.aload_n 0, 1) := by decide +kernel
theorem d_DK_at_1 : decode b_DK_at 1 = .ok (.iload_n 1, 1) := by decide +kernel
theorem d_DK_at_2 : decode b_DK_at 2 = .ok (.invokevirtual 64, 3) := by decide +kernel
theorem d_DK_at_5 : decode b_DK_at 5 = .ok (.iload_n 2, 1) := by decide +kernel
theorem d_DK_at_6 : decode b_DK_at 6 = .ok (.invokestatic 96, 3) := by decide +kernel
theorem d_DK_at_9 : decode b_DK_at 9 = .ok (.ireturn, 1) := by decide +kernel
theorem d_DK_character_0 : decode b_DK_character 0 = .ok (.aload_n 0, 1) := by decide +kernel
theorem d_DK_character_1 : decode b_DK_character 1 = .ok (.iload_n 1, 1) := by decide +kernel
theorem d_DK_character_2 : decode b_DK_character 2 = .ok (.invokevirtual 64, 3) := by decide +kernel
theorem d_DK_character_5 : decode b_DK_character 5 = .ok (.astore_n 3, 1) := by decide +kernel
theorem d_DK_character_6 : decode b_DK_character 6 = .ok (.iconst 0, 1) := by decide +kernel
theorem d_DK_character_7 : decode b_DK_character 7 = .ok (.istore 4, 2) := by decide +kernel
theorem d_DK_character_9 : decode b_DK_character 9 = .ok (.iconst 0, 1) := by decide +kernel
theorem d_DK_character_10 : decode b_DK_character 10 = .ok (.istore 5, 2) := by decide +kernel
theorem d_DK_character_12 : decode b_DK_character 12 = .ok (.iload 5, 2) := by decide +kernel
theorem d_DK_character_14 : decode b_DK_character 14 = .ok (.aload_n 3, 1) := by decide +kernel
theorem d_DK_character_15 : decode b_DK_character 15 = .ok (.invokevirtual 77, 3) := by decide +kernel
theorem d_DK_character_18 : decode b_DK_character 18 = .ok (.if_icmp .ge 39, 3) := by decide +kernel
theorem d_DK_character_21 : decode b_DK_character 21 = .ok (.aload_n 3, 1) := by decide +kernel
theorem d_DK_character_22 : decode b_DK_character 22 = .ok (.iload 5, 2) := by decide +kernel
theorem d_DK_character_24 : decode b_DK_character 24 = .ok (.invokestatic 123, 3) := by decide +kernel
theorem d_DK_character_27 : decode b_DK_character 27 = .ok (.istore 6, 2) := by decide +kernel
theorem d_DK_character_29 : decode b_DK_character 29 = .ok (.iload 4, 2) := by decide +kernel
theorem d_DK_character_31 : decode b_DK_character 31 = .ok (.iload_n 2, 1) := by decide +kernel
theorem d_DK_character_32 : decode b_DK_character 32 = .ok (.if_icmp .ne 6, 3) := by decide +kernel
theorem d_DK_character_35 : decode b_DK_character 35 = .ok (.iload 6, 2) := by decide +kernel
theorem d_DK_character_37 : decode b_DK_character 37 = .ok (.ireturn, 1) := by decide +kernel
theorem d_DK_character_38 : decode b_DK_character 38 = .ok (.iinc 4 1, 3) := by decide +kernel
theorem d_DK_character_41 : decode b_DK_character 41 = .ok (.iload 6, 2) := by decide +kernel
theorem d_DK_character_43 : decode b_DK_character 43 = .ok (.ldc 40, 2) := by decide +kernel
theorem d_DK_character_45 : decode b_DK_character 45 = .ok (.if_icmp .lt 6, 3) := by decide +kernel
theorem d_DK_character_48 : decode b_DK_character 48 = .ok (.iinc 5 1, 3) := by decide +kernel
theorem d_DK_character_51 : decode b_DK_character 51 = .ok (.iinc 5 1, 3) := by decide +kernel
theorem d_DK_character_54 : decode b_DK_character 54 = .ok (.goto (-42), 3) := by decide +kernel
theorem d_DK_character_57 : decode b_DK_character 57 = .ok (.iload_n 2, 1) := by decide +kernel
theorem d_DK_character_58 : decode b_DK_character 58 = .ok (.iconst (-1), 1) := by decide +kernel
theorem d_DK_character_59 : decode b_DK_character 59 = .ok (.if_icmp .eq 13, 3) := by decide +kernel
theorem d_DK_character_62 : decode b_DK_character 62 = .ok (.new 126, 3) := by decide +kernel
theorem d_DK_character_65 : decode b_DK_character 65 = .ok (.dup, 1) := by decide +kernel
theorem d_DK_character_66 : decode b_DK_character 66 = .ok (.ldc 128, 2) := by decide +kernel
theorem d_DK_character_68 : decode b_DK_character 68 = .ok (.invokespecial 130, 3) := by decide +kernel
theorem d_DK_character_71 : decode b_DK_character 71 = .ok (.athrow, 1) := by decide +kernel
theorem d_DK_character_72 : decode b_DK_character 72 = .ok (.iload 4, 2) := by decide +kernel
theorem d_DK_character_74 : decode b_DK_character 74 = .ok (.ireturn, 1) := by decide +kernel
theorem d_DK_characterAt_0 : decode b_DK_characterAt 0 = .ok (.aload_n 0, 1) := by decide +kernel
theorem d_DK_characterAt_1 : decode b_DK_characterAt 1 = .ok (.iload_n 1, 1) := by decide +kernel
theorem d_DK_characterAt_2 : decode b_DK_characterAt 2 = .ok (.invokevirtual 192, 3) := by decide +kernel
theorem d_DK_characterAt_5 : decode b_DK_characterAt 5 = .ok (.istore_n 2, 1) := by decide +kernel
theorem d_DK_characterAt_6 : decode b_DK_characterAt 6 = .ok (.aload_n 0, 1) := by decide +kernel
theorem d_DK_characterAt_7 : decode b_DK_characterAt 7 = .ok (.iload_n 1, 1) := by decide +kernel
theorem d_DK_characterAt_8 : decode b_DK_characterAt 8 = .ok (.invokestatic 88, 3) := by decide +kernel
theorem d_DK_characterAt_11 : decode b_DK_characterAt 11 = .ok (.ifCond .ne 5, 3) := by decide +kernel
theorem d_DK_characterAt_14 : decode b_DK_characterAt 14 = .ok (.iload_n 2, 1) := by decide +kernel
theorem d_DK_characterAt_15 : decode b_DK_characterAt 15 = .ok (.ireturn, 1) := by decide +kernel
theorem d_DK_characterAt_16 : decode b_DK_characterAt 16 = .ok (.ldc 40, 2) := by decide +kernel
theorem d_DK_characterAt_18 : decode b_DK_characterAt 18 = .ok (.iload_n 2, 1) := by decide +kernel
theorem d_DK_characterAt_19 : decode b_DK_characterAt 19 = .ok (.ldc 208, 2) := by decide +kernel
theorem d_DK_characterAt_21 : decode b_DK_characterAt 21 = .ok (.isub, 1) := by decide +kernel
theorem d_DK_characterAt_22 : decode b_DK_characterAt 22 = .ok (.sipush 1024, 3) := by decide +kernel
theorem d_DK_characterAt_25 : decode b_DK_characterAt 25 = .ok (.imul, 1) := by decide +kernel
theorem d_DK_characterAt_26 : decode b_DK_characterAt 26 = .ok (.iadd, 1) := by decide +kernel
theorem d_DK_characterAt_27 : decode b_DK_characterAt 27 = .ok (.aload_n 0, 1) := by decide +kernel
theorem d_DK_characterAt_28 : decode b_DK_characterAt 28 = .ok (.iload_n 1, 1) := by decide +kernel
theorem d_DK_characterAt_29 : decode b_DK_characterAt 29 = .ok (.iconst 1, 1) := by decide +kernel
theorem d_DK_characterAt_30 : decode b_DK_characterAt 30 = .ok (.iadd, 1) := by decide +kernel
theorem d_DK_characterAt_31 : decode b_DK_characterAt 31 = .ok (.invokevirtual 192, 3) := by decide +kernel
theorem d_DK_characterAt_34 : decode b_DK_characterAt 34 = .ok (.iadd, 1) := by decide +kernel
theorem d_DK_characterAt_35 : decode b_DK_characterAt 35 = .ok (.ldc 209, 2) := by decide +kernel
theorem d_DK_characterAt_37 : decode b_DK_characterAt 37 = .ok (.isub, 1) := by decide +kernel
theorem d_DK_characterAt_38 : decode b_DK_characterAt 38 = .ok (.ireturn, 1) := by decide +kernel
theorem d_DK_narrow_0 : decode b_DK_narrow 0 = .ok (.aload_n 0, 1) := by decide +kernel
theorem d_DK_narrow_1 : decode b_DK_narrow 1 = .ok (.iload_n 1, 1) := by decide +kernel
theorem d_DK_narrow_2 : decode b_DK_narrow 2 = .ok (.invokevirtual 64, 3) := by decide +kernel
theorem d_DK_narrow_5 : decode b_DK_narrow 5 = .ok (.invokevirtual 131, 3) := by decide +kernel
theorem d_DK_narrow_8 : decode b_DK_narrow 8 = .ok (.ireturn, 1) := by decide +kernel
theorem d_DK_hash_0 : decode b_DK_hash 0 = .ok (.aload_n 0, 1) := by decide +kernel
theorem d_DK_hash_1 : decode b_DK_hash 1 = .ok (.iload_n 1, 1) := by decide +kernel
theorem d_DK_hash_2 : decode b_DK_hash 2 = .ok (.invokevirtual 64, 3) := by decide +kernel
theorem d_DK_hash_5 : decode b_DK_hash 5 = .ok (.astore_n 2, 1) := by decide +kernel
theorem d_DK_hash_6 : decode b_DK_hash 6 = .ok (.iconst 0, 1) := by decide +kernel
theorem d_DK_hash_7 : decode b_DK_hash 7 = .ok (.istore_n 3, 1) := by decide +kernel
theorem d_DK_hash_8 : decode b_DK_hash 8 = .ok (.iconst 0, 1) := by decide +kernel
theorem d_DK_hash_9 : decode b_DK_hash 9 = .ok (.istore 4, 2) := by decide +kernel
theorem d_DK_hash_11 : decode b_DK_hash 11 = .ok (.iload 4, 2) := by decide +kernel
theorem d_DK_hash_13 : decode b_DK_hash 13 = .ok (.aload_n 2, 1) := by decide +kernel
theorem d_DK_hash_14 : decode b_DK_hash 14 = .ok (.invokevirtual 77, 3) := by decide +kernel
theorem d_DK_hash_17 : decode b_DK_hash 17 = .ok (.if_icmp .ge 21, 3) := by decide +kernel
theorem d_DK_hash_20 : decode b_DK_hash 20 = .ok (.bipush 31, 2) := by decide +kernel
theorem d_DK_hash_22 : decode b_DK_hash 22 = .ok (.iload_n 3, 1) := by decide +kernel
theorem d_DK_hash_23 : decode b_DK_hash 23 = .ok (.imul, 1) := by decide +kernel
theorem d_DK_hash_24 : decode b_DK_hash 24 = .ok (.aload_n 2, 1) := by decide +kernel
theorem d_DK_hash_25 : decode b_DK_hash 25 = .ok (.iload 4, 2) := by decide +kernel
theorem d_DK_hash_27 : decode b_DK_hash 27 = .ok (.invokevirtual 122, 3) := by decide +kernel
theorem d_DK_hash_30 : decode b_DK_hash 30 = .ok (.iadd, 1) := by decide +kernel
theorem d_DK_hash_31 : decode b_DK_hash 31 = .ok (.istore_n 3, 1) := by decide +kernel
theorem d_DK_hash_32 : decode b_DK_hash 32 = .ok (.iinc 4 1, 3) := by decide +kernel
theorem d_DK_hash_35 : decode b_DK_hash 35 = .ok (.goto (-24), 3) := by decide +kernel
theorem d_DK_hash_38 : decode b_DK_hash 38 = .ok (.iload_n 3, 1) := by decide +kernel
theorem d_DK_hash_39 : decode b_DK_hash 39 = .ok (.ireturn, 1) := by decide +kernel
theorem d_DK_compare_0 : decode b_DK_compare 0 = .ok (.aload_n 0, 1) := by decide +kernel
theorem d_DK_compare_1 : decode b_DK_compare 1 = .ok (.iload_n 1, 1) := by decide +kernel
theorem d_DK_compare_2 : decode b_DK_compare 2 = .ok (.invokevirtual 64, 3) := by decide +kernel
theorem d_DK_compare_5 : decode b_DK_compare 5 = .ok (.aload_n 0, 1) := by decide +kernel
theorem d_DK_compare_6 : decode b_DK_compare 6 = .ok (.iload_n 2, 1) := by decide +kernel
theorem d_DK_compare_7 : decode b_DK_compare 7 = .ok (.invokevirtual 64, 3) := by decide +kernel
theorem d_DK_compare_10 : decode b_DK_compare 10 = .ok (.invokestatic 134, 3) := by decide +kernel
theorem d_DK_compare_13 : decode b_DK_compare 13 = .ok (.ireturn, 1) := by decide +kernel
theorem d_DK_difference_0 : decode b_DK_difference 0 = .ok (.aload_n 0, 1) := by decide +kernel
theorem d_DK_difference_1 : decode b_DK_difference 1 = .ok (.invokevirtual 77, 3) := by decide +kernel
theorem d_DK_difference_4 : decode b_DK_difference 4 = .ok (.aload_n 1, 1) := by decide +kernel
theorem d_DK_difference_5 : decode b_DK_difference 5 = .ok (.invokevirtual 77, 3) := by decide +kernel
theorem d_DK_difference_8 : decode b_DK_difference 8 = .ok (.invokestatic 218, 3) := by decide +kernel
theorem d_DK_difference_11 : decode b_DK_difference 11 = .ok (.istore_n 2, 1) := by decide +kernel
theorem d_DK_difference_12 : decode b_DK_difference 12 = .ok (.iconst 0, 1) := by decide +kernel
theorem d_DK_difference_13 : decode b_DK_difference 13 = .ok (.istore_n 3, 1) := by decide +kernel
theorem d_DK_difference_14 : decode b_DK_difference 14 = .ok (.iload_n 3, 1) := by decide +kernel
theorem d_DK_difference_15 : decode b_DK_difference 15 = .ok (.iload_n 2, 1) := by decide +kernel
theorem d_DK_difference_16 : decode b_DK_difference 16 = .ok (.if_icmp .ge 34, 3) := by decide +kernel
theorem d_DK_difference_19 : decode b_DK_difference 19 = .ok (.aload_n 0, 1) := by decide +kernel
theorem d_DK_difference_20 : decode b_DK_difference 20 = .ok (.iload_n 3, 1) := by decide +kernel
theorem d_DK_difference_21 : decode b_DK_difference 21 = .ok (.invokevirtual 122, 3) := by decide +kernel
theorem d_DK_difference_24 : decode b_DK_difference 24 = .ok (.aload_n 1, 1) := by decide +kernel
theorem d_DK_difference_25 : decode b_DK_difference 25 = .ok (.iload_n 3, 1) := by decide +kernel
theorem d_DK_difference_26 : decode b_DK_difference 26 = .ok (.invokevirtual 122, 3) := by decide +kernel
theorem d_DK_difference_29 : decode b_DK_difference 29 = .ok (.if_icmp .eq 15, 3) := by decide +kernel
theorem d_DK_difference_32 : decode b_DK_difference 32 = .ok (.aload_n 0, 1) := by decide +kernel
theorem d_DK_difference_33 : decode b_DK_difference 33 = .ok (.iload_n 3, 1) := by decide +kernel
theorem d_DK_difference_34 : decode b_DK_difference 34 = .ok (.invokevirtual 122, 3) := by decide +kernel
theorem d_DK_difference_37 : decode b_DK_difference 37 = .ok (.aload_n 1, 1) := by decide +kernel
theorem d_DK_difference_38 : decode b_DK_difference 38 = .ok (.iload_n 3, 1) := by decide +kernel
theorem d_DK_difference_39 : decode b_DK_difference 39 = .ok (.invokevirtual 122, 3) := by decide +kernel
theorem d_DK_difference_42 : decode b_DK_difference 42 = .ok (.isub, 1) := by decide +kernel
theorem d_DK_difference_43 : decode b_DK_difference 43 = .ok (.ireturn, 1) := by decide +kernel
theorem d_DK_difference_44 : decode b_DK_difference 44 = .ok (.iinc 3 1, 3) := by decide +kernel
theorem d_DK_difference_47 : decode b_DK_difference 47 = .ok (.goto (-33), 3) := by decide +kernel
theorem d_DK_difference_50 : decode b_DK_difference 50 = .ok (.aload_n 0, 1) := by decide +kernel
theorem d_DK_difference_51 : decode b_DK_difference 51 = .ok (.invokevirtual 77, 3) := by decide +kernel
theorem d_DK_difference_54 : decode b_DK_difference 54 = .ok (.aload_n 1, 1) := by decide +kernel
theorem d_DK_difference_55 : decode b_DK_difference 55 = .ok (.invokevirtual 77, 3) := by decide +kernel
theorem d_DK_difference_58 : decode b_DK_difference 58 = .ok (.isub, 1) := by decide +kernel
theorem d_DK_difference_59 : decode b_DK_difference 59 = .ok (.ireturn, 1) := by decide +kernel
theorem d_DK_find_0 : decode b_DK_find 0 = .ok (.aload_n 0, 1) := by decide +kernel
theorem d_DK_find_1 : decode b_DK_find 1 = .ok (.iload_n 1, 1) := by decide +kernel
theorem d_DK_find_2 : decode b_DK_find 2 = .ok (.invokevirtual 64, 3) := by decide +kernel
theorem d_DK_find_5 : decode b_DK_find 5 = .ok (.astore 5, 2) := by decide +kernel
theorem d_DK_find_7 : decode b_DK_find 7 = .ok (.aload_n 0, 1) := by decide +kernel
theorem d_DK_find_8 : decode b_DK_find 8 = .ok (.iload_n 2, 1) := by decide +kernel
theorem d_DK_find_9 : decode b_DK_find 9 = .ok (.invokevirtual 64, 3) := by decide +kernel
theorem d_DK_find_12 : decode b_DK_find 12 = .ok (.astore 6, 2) := by decide +kernel
theorem d_DK_find_14 : decode b_DK_find 14 = .ok (.iload 4, 2) := by decide +kernel
theorem d_DK_find_16 : decode b_DK_find 16 = .ok (.ifCond .eq 14, 3) := by decide +kernel
theorem d_DK_find_19 : decode b_DK_find 19 = .ok (.aload 5, 2) := by decide +kernel
theorem d_DK_find_21 : decode b_DK_find 21 = .ok (.aload 6, 2) := by decide +kernel
theorem d_DK_find_23 : decode b_DK_find 23 = .ok (.iload_n 3, 1) := by decide +kernel
theorem d_DK_find_24 : decode b_DK_find 24 = .ok (.invokestatic 138, 3) := by decide +kernel
theorem d_DK_find_27 : decode b_DK_find 27 = .ok (.goto 11, 3) := by decide +kernel
theorem d_DK_find_30 : decode b_DK_find 30 = .ok (.aload 5, 2) := by decide +kernel
theorem d_DK_find_32 : decode b_DK_find 32 = .ok (.aload 6, 2) := by decide +kernel
theorem d_DK_find_34 : decode b_DK_find 34 = .ok (.iload_n 3, 1) := by decide +kernel
theorem d_DK_find_35 : decode b_DK_find 35 = .ok (.invokestatic 142, 3) := by decide +kernel
theorem d_DK_find_38 : decode b_DK_find 38 = .ok (.ireturn, 1) := by decide +kernel
theorem d_DK_lastPlace_0 : decode b_DK_lastPlace 0 = .ok (.aload_n 0, 1) := by decide +kernel
theorem d_DK_lastPlace_1 : decode b_DK_lastPlace 1 = .ok (.invokevirtual 77, 3) := by decide +kernel
theorem d_DK_lastPlace_4 : decode b_DK_lastPlace 4 = .ok (.aload_n 1, 1) := by decide +kernel
theorem d_DK_lastPlace_5 : decode b_DK_lastPlace 5 = .ok (.invokevirtual 77, 3) := by decide +kernel
theorem d_DK_lastPlace_8 : decode b_DK_lastPlace 8 = .ok (.isub, 1) := by decide +kernel
theorem d_DK_lastPlace_9 : decode b_DK_lastPlace 9 = .ok (.istore_n 3, 1) := by decide +kernel
theorem d_DK_lastPlace_10 : decode b_DK_lastPlace 10 = .ok (.iload_n 2, 1) := by decide +kernel
theorem d_DK_lastPlace_11 : decode b_DK_lastPlace 11 = .ok (.iload_n 3, 1) := by decide +kernel
theorem d_DK_lastPlace_12 : decode b_DK_lastPlace 12 = .ok (.invokestatic 218, 3) := by decide +kernel
theorem d_DK_lastPlace_15 : decode b_DK_lastPlace 15 = .ok (.istore 4, 2) := by decide +kernel
theorem d_DK_lastPlace_17 : decode b_DK_lastPlace 17 = .ok (.iload 4, 2) := by decide +kernel
theorem d_DK_lastPlace_19 : decode b_DK_lastPlace 19 = .ok (.ifCond .lt 22, 3) := by decide +kernel
theorem d_DK_lastPlace_22 : decode b_DK_lastPlace 22 = .ok (.aload_n 0, 1) := by decide +kernel
theorem d_DK_lastPlace_23 : decode b_DK_lastPlace 23 = .ok (.aload_n 1, 1) := by decide +kernel
theorem d_DK_lastPlace_24 : decode b_DK_lastPlace 24 = .ok (.iload 4, 2) := by decide +kernel
theorem d_DK_lastPlace_26 : decode b_DK_lastPlace 26 = .ok (.invokestatic 118, 3) := by decide +kernel
theorem d_DK_lastPlace_29 : decode b_DK_lastPlace 29 = .ok (.ifCond .eq 6, 3) := by decide +kernel
theorem d_DK_lastPlace_32 : decode b_DK_lastPlace 32 = .ok (.iload 4, 2) := by decide +kernel
theorem d_DK_lastPlace_34 : decode b_DK_lastPlace 34 = .ok (.ireturn, 1) := by decide +kernel
theorem d_DK_lastPlace_35 : decode b_DK_lastPlace 35 = .ok (.iinc 4 (-1), 3) := by decide +kernel
theorem d_DK_lastPlace_38 : decode b_DK_lastPlace 38 = .ok (.goto (-21), 3) := by decide +kernel
theorem d_DK_lastPlace_41 : decode b_DK_lastPlace 41 = .ok (.iconst (-1), 1) := by decide +kernel
theorem d_DK_lastPlace_42 : decode b_DK_lastPlace 42 = .ok (.ireturn, 1) := by decide +kernel
theorem d_DK_firstPlace_0 : decode b_DK_firstPlace 0 = .ok (.aload_n 0, 1) := by decide +kernel
theorem d_DK_firstPlace_1 : decode b_DK_firstPlace 1 = .ok (.invokevirtual 77, 3) := by decide +kernel
theorem d_DK_firstPlace_4 : decode b_DK_firstPlace 4 = .ok (.aload_n 1, 1) := by decide +kernel
theorem d_DK_firstPlace_5 : decode b_DK_firstPlace 5 = .ok (.invokevirtual 77, 3) := by decide +kernel
theorem d_DK_firstPlace_8 : decode b_DK_firstPlace 8 = .ok (.isub, 1) := by decide +kernel
theorem d_DK_firstPlace_9 : decode b_DK_firstPlace 9 = .ok (.istore_n 3, 1) := by decide +kernel
theorem d_DK_firstPlace_10 : decode b_DK_firstPlace 10 = .ok (.iload_n 2, 1) := by decide +kernel
theorem d_DK_firstPlace_11 : decode b_DK_firstPlace 11 = .ok (.iconst 0, 1) := by decide +kernel
theorem d_DK_firstPlace_12 : decode b_DK_firstPlace 12 = .ok (.invokestatic 224, 3) := by decide +kernel
theorem d_DK_firstPlace_15 : decode b_DK_firstPlace 15 = .ok (.istore 4, 2) := by decide +kernel
theorem d_DK_firstPlace_17 : decode b_DK_firstPlace 17 = .ok (.iload 4, 2) := by decide +kernel
theorem d_DK_firstPlace_19 : decode b_DK_firstPlace 19 = .ok (.iload_n 3, 1) := by decide +kernel
theorem d_DK_firstPlace_20 : decode b_DK_firstPlace 20 = .ok (.if_icmp .gt 22, 3) := by decide +kernel
theorem d_DK_firstPlace_23 : decode b_DK_firstPlace 23 = .ok (.aload_n 0, 1) := by decide +kernel
theorem d_DK_firstPlace_24 : decode b_DK_firstPlace 24 = .ok (.aload_n 1, 1) := by decide +kernel
theorem d_DK_firstPlace_25 : decode b_DK_firstPlace 25 = .ok (.iload 4, 2) := by decide +kernel
theorem d_DK_firstPlace_27 : decode b_DK_firstPlace 27 = .ok (.invokestatic 118, 3) := by decide +kernel
theorem d_DK_firstPlace_30 : decode b_DK_firstPlace 30 = .ok (.ifCond .eq 6, 3) := by decide +kernel
theorem d_DK_firstPlace_33 : decode b_DK_firstPlace 33 = .ok (.iload 4, 2) := by decide +kernel
theorem d_DK_firstPlace_35 : decode b_DK_firstPlace 35 = .ok (.ireturn, 1) := by decide +kernel
theorem d_DK_firstPlace_36 : decode b_DK_firstPlace 36 = .ok (.iinc 4 1, 3) := by decide +kernel
theorem d_DK_firstPlace_39 : decode b_DK_firstPlace 39 = .ok (.goto (-22), 3) := by decide +kernel
theorem d_DK_firstPlace_42 : decode b_DK_firstPlace 42 = .ok (.iconst (-1), 1) := by decide +kernel
theorem d_DK_firstPlace_43 : decode b_DK_firstPlace 43 = .ok (.ireturn, 1) := by decide +kernel
theorem d_DK_symbol_0 : decode b_DK_symbol 0 = .ok (.aload_n 0, 1) := by decide +kernel
theorem d_DK_symbol_1 : decode b_DK_symbol 1 = .ok (.iload_n 1, 1) := by decide +kernel
theorem d_DK_symbol_2 : decode b_DK_symbol 2 = .ok (.invokevirtual 64, 3) := by decide +kernel
theorem d_DK_symbol_5 : decode b_DK_symbol 5 = .ok (.astore_n 2, 1) := by decide +kernel
theorem d_DK_symbol_6 : decode b_DK_symbol 6 = .ok (.iconst 0, 1) := by decide +kernel
theorem d_DK_symbol_7 : decode b_DK_symbol 7 = .ok (.istore_n 3, 1) := by decide +kernel
theorem d_DK_symbol_8 : decode b_DK_symbol 8 = .ok (.iload_n 3, 1) := by decide +kernel
theorem d_DK_symbol_9 : decode b_DK_symbol 9 = .ok (.aload_n 0, 1) := by decide +kernel
theorem d_DK_symbol_10 : decode b_DK_symbol 10 = .ok (.getfield 145, 3) := by decide +kernel
theorem d_DK_symbol_13 : decode b_DK_symbol 13 = .ok (.if_icmp .ge 33, 3) := by decide +kernel
theorem d_DK_symbol_16 : decode b_DK_symbol 16 = .ok (.iload_n 3, 1) := by decide +kernel
theorem d_DK_symbol_17 : decode b_DK_symbol 17 = .ok (.aload_n 0, 1) := by decide +kernel
theorem d_DK_symbol_18 : decode b_DK_symbol 18 = .ok (.getfield 15, 3) := by decide +kernel
theorem d_DK_symbol_21 : decode b_DK_symbol 21 = .ok (.arraylength, 1) := by decide +kernel
theorem d_DK_symbol_22 : decode b_DK_symbol 22 = .ok (.if_icmp .ge 24, 3) := by decide +kernel
theorem d_DK_symbol_25 : decode b_DK_symbol 25 = .ok (.aload_n 0, 1) := by decide +kernel
theorem d_DK_symbol_26 : decode b_DK_symbol 26 = .ok (.getfield 15, 3) := by decide +kernel
theorem d_DK_symbol_29 : decode b_DK_symbol 29 = .ok (.iload_n 3, 1) := by decide +kernel
theorem d_DK_symbol_30 : decode b_DK_symbol 30 = .ok (.aaload, 1) := by decide +kernel
theorem d_DK_symbol_31 : decode b_DK_symbol 31 = .ok (.aload_n 2, 1) := by decide +kernel
theorem d_DK_symbol_32 : decode b_DK_symbol 32 = .ok (.invokestatic 134, 3) := by decide +kernel
theorem d_DK_symbol_35 : decode b_DK_symbol 35 = .ok (.ifCond .ne 5, 3) := by decide +kernel
theorem d_DK_symbol_38 : decode b_DK_symbol 38 = .ok (.iload_n 3, 1) := by decide +kernel
theorem d_DK_symbol_39 : decode b_DK_symbol 39 = .ok (.ireturn, 1) := by decide +kernel
theorem d_DK_symbol_40 : decode b_DK_symbol 40 = .ok (.iinc 3 1, 3) := by decide +kernel
theorem d_DK_symbol_43 : decode b_DK_symbol 43 = .ok (.goto (-35), 3) := by decide +kernel
theorem d_DK_symbol_46 : decode b_DK_symbol 46 = .ok (.aload_n 0, 1) := by decide +kernel
theorem d_DK_symbol_47 : decode b_DK_symbol 47 = .ok (.getfield 145, 3) := by decide +kernel
theorem d_DK_symbol_50 : decode b_DK_symbol 50 = .ok (.aload_n 0, 1) := by decide +kernel
theorem d_DK_symbol_51 : decode b_DK_symbol 51 = .ok (.getfield 15, 3) := by decide +kernel
theorem d_DK_symbol_54 : decode b_DK_symbol 54 = .ok (.arraylength, 1) := by decide +kernel
theorem d_DK_symbol_55 : decode b_DK_symbol 55 = .ok (.if_icmp .lt 13, 3) := by decide +kernel
theorem d_DK_symbol_58 : decode b_DK_symbol 58 = .ok (.new 52, 3) := by decide +kernel
theorem d_DK_symbol_61 : decode b_DK_symbol 61 = .ok (.dup, 1) := by decide +kernel
theorem d_DK_symbol_62 : decode b_DK_symbol 62 = .ok (.ldc 149, 2) := by decide +kernel
theorem d_DK_symbol_64 : decode b_DK_symbol 64 = .ok (.invokespecial 56, 3) := by decide +kernel
theorem d_DK_symbol_67 : decode b_DK_symbol 67 = .ok (.athrow, 1) := by decide +kernel
theorem d_DK_symbol_68 : decode b_DK_symbol 68 = .ok (.aload_n 0, 1) := by decide +kernel
theorem d_DK_symbol_69 : decode b_DK_symbol 69 = .ok (.getfield 15, 3) := by decide +kernel
theorem d_DK_symbol_72 : decode b_DK_symbol 72 = .ok (.aload_n 0, 1) := by decide +kernel
theorem d_DK_symbol_73 : decode b_DK_symbol 73 = .ok (.getfield 145, 3) := by decide +kernel
theorem d_DK_symbol_76 : decode b_DK_symbol 76 = .ok (.aload_n 2, 1) := by decide +kernel
theorem d_DK_symbol_77 : decode b_DK_symbol 77 = .ok (.aastore, 1) := by decide +kernel
theorem d_DK_symbol_78 : decode b_DK_symbol 78 = .ok (.aload_n 0, 1) := by decide +kernel
theorem d_DK_symbol_79 : decode b_DK_symbol 79 = .ok (.dup, 1) := by decide +kernel
theorem d_DK_symbol_80 : decode b_DK_symbol 80 = .ok (.getfield 145, 3) := by decide +kernel
theorem d_DK_symbol_83 : decode b_DK_symbol 83 = .ok (.iconst 1, 1) := by decide +kernel
theorem d_DK_symbol_84 : decode b_DK_symbol 84 = .ok (.iadd, 1) := by decide +kernel
theorem d_DK_symbol_85 : decode b_DK_symbol 85 = .ok (.putfield 145, 3) := by decide +kernel
theorem d_DK_symbol_88 : decode b_DK_symbol 88 = .ok (.aload_n 0, 1) := by decide +kernel
theorem d_DK_symbol_89 : decode b_DK_symbol 89 = .ok (.getfield 145, 3) := by decide +kernel
theorem d_DK_symbol_92 : decode b_DK_symbol 92 = .ok (.iconst 1, 1) := by decide +kernel
theorem d_DK_symbol_93 : decode b_DK_symbol 93 = .ok (.isub, 1) := by decide +kernel
theorem d_DK_symbol_94 : decode b_DK_symbol 94 = .ok (.ireturn, 1) := by decide +kernel
theorem d_DK_encode_0 : decode b_DK_encode 0 = .ok (.aload_n 0, 1) := by decide +kernel
theorem d_DK_encode_1 : decode b_DK_encode 1 = .ok (.iload_n 1, 1) := by decide +kernel
theorem d_DK_encode_2 : decode b_DK_encode 2 = .ok (.invokevirtual 64, 3) := by decide +kernel
theorem d_DK_encode_5 : decode b_DK_encode 5 = .ok (.astore_n 3, 1) := by decide +kernel
theorem d_DK_encode_6 : decode b_DK_encode 6 = .ok (.iload_n 2, 1) := by decide +kernel
theorem d_DK_encode_7 : decode b_DK_encode 7 = .ok (.invokestatic 151, 3) := by decide +kernel
theorem d_DK_encode_10 : decode b_DK_encode 10 = .ok (.aload_n 0, 1) := by decide +kernel
theorem d_DK_encode_11 : decode b_DK_encode 11 = .ok (.getfield 23, 3) := by decide +kernel
theorem d_DK_encode_14 : decode b_DK_encode 14 = .ok (.invokevirtual 70, 3) := by decide +kernel
theorem d_DK_encode_17 : decode b_DK_encode 17 = .ok (.aload_n 3, 1) := by decide +kernel
theorem d_DK_encode_18 : decode b_DK_encode 18 = .ok (.iload_n 2, 1) := by decide +kernel
theorem d_DK_encode_19 : decode b_DK_encode 19 = .ok (.aload_n 0, 1) := by decide +kernel
theorem d_DK_encode_20 : decode b_DK_encode 20 = .ok (.getfield 23, 3) := by decide +kernel
theorem d_DK_encode_23 : decode b_DK_encode 23 = .ok (.invokestatic 154, 3) := by decide +kernel
theorem d_DK_encode_26 : decode b_DK_encode 26 = .ok (.aload_n 0, 1) := by decide +kernel
theorem d_DK_encode_27 : decode b_DK_encode 27 = .ok (.getfield 23, 3) := by decide +kernel
theorem d_DK_encode_30 : decode b_DK_encode 30 = .ok (.invokevirtual 60, 3) := by decide +kernel
theorem d_DK_encode_33 : decode b_DK_encode 33 = .ok (.ireturn, 1) := by decide +kernel
theorem d_DK_refuseUnknownEncoding_0 : decode b_DK_refuseUnknownEncoding 0 = .ok (.iload_n 0, 1) := by decide +kernel
theorem d_DK_refuseUnknownEncoding_1 : decode b_DK_refuseUnknownEncoding 1 = .ok (.ifCond .lt 8, 3) := by decide +kernel
theorem d_DK_refuseUnknownEncoding_4 : decode b_DK_refuseUnknownEncoding 4 = .ok (.iload_n 0, 1) := by decide +kernel
theorem d_DK_refuseUnknownEncoding_5 : decode b_DK_refuseUnknownEncoding 5 = .ok (.iconst 4, 1) := by decide +kernel
theorem d_DK_refuseUnknownEncoding_6 : decode b_DK_refuseUnknownEncoding 6 = .ok (.if_icmp .le 13, 3) := by decide +kernel
theorem d_DK_refuseUnknownEncoding_9 : decode b_DK_refuseUnknownEncoding 9 = .ok (.new 41, 3) := by decide +kernel
theorem d_DK_refuseUnknownEncoding_12 : decode b_DK_refuseUnknownEncoding 12 = .ok (.dup, 1) := by decide +kernel
theorem d_DK_refuseUnknownEncoding_13 : decode b_DK_refuseUnknownEncoding 13 = .ok (.ldc 187, 2) := by decide +kernel
theorem d_DK_refuseUnknownEncoding_15 : decode b_DK_refuseUnknownEncoding 15 = .ok (.invokespecial 45, 3) := by decide +kernel
theorem d_DK_refuseUnknownEncoding_18 : decode b_DK_refuseUnknownEncoding 18 = .ok (.athrow, 1) := by decide +kernel
theorem d_DK_refuseUnknownEncoding_19 : decode b_DK_refuseUnknownEncoding 19 = .ok (.return_, 1) := by decide +kernel
theorem d_DK_type_0 : decode b_DK_type 0 = .ok (.iload_n 1, 1) := by decide +kernel
theorem d_DK_type_1 : decode b_DK_type 1 = .ok (.ifCond .lt 10, 3) := by decide +kernel
theorem d_DK_type_4 : decode b_DK_type 4 = .ok (.iload_n 1, 1) := by decide +kernel
theorem d_DK_type_5 : decode b_DK_type 5 = .ok (.sipush 256, 3) := by decide +kernel
theorem d_DK_type_8 : decode b_DK_type 8 = .ok (.if_icmp .lt 13, 3) := by decide +kernel
theorem d_DK_type_11 : decode b_DK_type 11 = .ok (.new 41, 3) := by decide +kernel
theorem d_DK_type_14 : decode b_DK_type 14 = .ok (.dup, 1) := by decide +kernel
theorem d_DK_type_15 : decode b_DK_type 15 = .ok (.ldc 160, 2) := by decide +kernel
theorem d_DK_type_17 : decode b_DK_type 17 = .ok (.invokespecial 45, 3) := by decide +kernel
theorem d_DK_type_20 : decode b_DK_type 20 = .ok (.athrow, 1) := by decide +kernel
theorem d_DK_type_21 : decode b_DK_type 21 = .ok (.aload_n 0, 1) := by decide +kernel
theorem d_DK_type_22 : decode b_DK_type 22 = .ok (.getfield 23, 3) := by decide +kernel
theorem d_DK_type_25 : decode b_DK_type 25 = .ok (.invokevirtual 48, 3) := by decide +kernel
theorem d_DK_type_28 : decode b_DK_type 28 = .ok (.ifCond .eq 13, 3) := by decide +kernel
theorem d_DK_type_31 : decode b_DK_type 31 = .ok (.new 52, 3) := by decide +kernel
theorem d_DK_type_34 : decode b_DK_type 34 = .ok (.dup, 1) := by decide +kernel
theorem d_DK_type_35 : decode b_DK_type 35 = .ok (.ldc 162, 2) := by decide +kernel
theorem d_DK_type_37 : decode b_DK_type 37 = .ok (.invokespecial 56, 3) := by decide +kernel
theorem d_DK_type_40 : decode b_DK_type 40 = .ok (.athrow, 1) := by decide +kernel
theorem d_DK_type_41 : decode b_DK_type 41 = .ok (.aload_n 0, 1) := by decide +kernel
theorem d_DK_type_42 : decode b_DK_type 42 = .ok (.getfield 23, 3) := by decide +kernel
theorem d_DK_type_45 : decode b_DK_type 45 = .ok (.iload_n 1, 1) := by decide +kernel
theorem d_DK_type_46 : decode b_DK_type 46 = .ok (.invokevirtual 57, 3) := by decide +kernel
theorem d_DK_type_49 : decode b_DK_type 49 = .ok (.aload_n 0, 1) := by decide +kernel
theorem d_DK_type_50 : decode b_DK_type 50 = .ok (.getfield 23, 3) := by decide +kernel
theorem d_DK_type_53 : decode b_DK_type 53 = .ok (.invokevirtual 60, 3) := by decide +kernel
theorem d_DK_type_56 : decode b_DK_type 56 = .ok (.ireturn, 1) := by decide +kernel
theorem d_DK_decode_0 : decode b_DK_decode 0 = .ok (.iload_n 1, 1) := by decide +kernel
theorem d_DK_decode_1 : decode b_DK_decode 1 = .ok (.invokestatic 151, 3) := by decide +kernel
theorem d_DK_decode_4 : decode b_DK_decode 4 = .ok (.aload_n 0, 1) := by decide +kernel
theorem d_DK_decode_5 : decode b_DK_decode 5 = .ok (.getfield 37, 3) := by decide +kernel
theorem d_DK_decode_8 : decode b_DK_decode 8 = .ok (.invokevirtual 70, 3) := by decide +kernel
theorem d_DK_decode_11 : decode b_DK_decode 11 = .ok (.aload_n 0, 1) := by decide +kernel
theorem d_DK_decode_12 : decode b_DK_decode 12 = .ok (.getfield 30, 3) := by decide +kernel
theorem d_DK_decode_15 : decode b_DK_decode 15 = .ok (.aload_n 0, 1) := by decide +kernel
theorem d_DK_decode_16 : decode b_DK_decode 16 = .ok (.getfield 23, 3) := by decide +kernel
theorem d_DK_decode_19 : decode b_DK_decode 19 = .ok (.iload_n 1, 1) := by decide +kernel
theorem d_DK_decode_20 : decode b_DK_decode 20 = .ok (.aload_n 0, 1) := by decide +kernel
theorem d_DK_decode_21 : decode b_DK_decode 21 = .ok (.getfield 37, 3) := by decide +kernel
theorem d_DK_decode_24 : decode b_DK_decode 24 = .ok (.invokevirtual 164, 3) := by decide +kernel
theorem d_DK_decode_27 : decode b_DK_decode 27 = .ok (.istore_n 3, 1) := by decide +kernel
theorem d_DK_decode_28 : decode b_DK_decode 28 = .ok (.iload_n 2, 1) := by decide +kernel
theorem d_DK_decode_29 : decode b_DK_decode 29 = .ok (.ifCond .eq 17, 3) := by decide +kernel
theorem d_DK_decode_32 : decode b_DK_decode 32 = .ok (.iload_n 3, 1) := by decide +kernel
theorem d_DK_decode_33 : decode b_DK_decode 33 = .ok (.ifCond .ne 13, 3) := by decide +kernel
theorem d_DK_decode_36 : decode b_DK_decode 36 = .ok (.new 168, 3) := by decide +kernel
theorem d_DK_decode_39 : decode b_DK_decode 39 = .ok (.dup, 1) := by decide +kernel
theorem d_DK_decode_40 : decode b_DK_decode 40 = .ok (.ldc 170, 2) := by decide +kernel
theorem d_DK_decode_42 : decode b_DK_decode 42 = .ok (.invokespecial 172, 3) := by decide +kernel
theorem d_DK_decode_45 : decode b_DK_decode 45 = .ok (.athrow, 1) := by decide +kernel
theorem d_DK_decode_46 : decode b_DK_decode 46 = .ok (.aload_n 0, 1) := by decide +kernel
theorem d_DK_decode_47 : decode b_DK_decode 47 = .ok (.invokevirtual 78, 3) := by decide +kernel
theorem d_DK_decode_50 : decode b_DK_decode 50 = .ok (.aload_n 0, 1) := by decide +kernel
theorem d_DK_decode_51 : decode b_DK_decode 51 = .ok (.aload_n 0, 1) := by decide +kernel
theorem d_DK_decode_52 : decode b_DK_decode 52 = .ok (.getfield 37, 3) := by decide +kernel
theorem d_DK_decode_55 : decode b_DK_decode 55 = .ok (.invokestatic 100, 3) := by decide +kernel
theorem d_DK_decode_58 : decode b_DK_decode 58 = .ok (.invokevirtual 104, 3) := by decide +kernel
theorem d_DK_decode_61 : decode b_DK_decode 61 = .ok (.istore 4, 2) := by decide +kernel
theorem d_DK_decode_63 : decode b_DK_decode 63 = .ok (.aload_n 0, 1) := by decide +kernel
theorem d_DK_decode_64 : decode b_DK_decode 64 = .ok (.getfield 23, 3) := by decide +kernel
theorem d_DK_decode_67 : decode b_DK_decode 67 = .ok (.invokevirtual 70, 3) := by decide +kernel
theorem d_DK_decode_70 : decode b_DK_decode 70 = .ok (.iload 4, 2) := by decide +kernel
theorem d_DK_decode_72 : decode b_DK_decode 72 = .ok (.ireturn, 1) := by decide +kernel
theorem d_DK_octet_0 : decode b_DK_octet 0 = .ok (.aload_n 0, 1) := by decide +kernel
theorem d_DK_octet_1 : decode b_DK_octet 1 = .ok (.getfield 23, 3) := by decide +kernel
theorem d_DK_octet_4 : decode b_DK_octet 4 = .ok (.iload_n 1, 1) := by decide +kernel
theorem d_DK_octet_5 : decode b_DK_octet 5 = .ok (.invokestatic 96, 3) := by decide +kernel
theorem d_DK_octet_8 : decode b_DK_octet 8 = .ok (.ireturn, 1) := by decide +kernel
end
section
section ST
variable {p : Program} {l : Launch} {e : Env} {R : Room} {s : State} {m : MethodId} {args : Array Value} {below : List Frame} {meth : Method} {c : Code} {H : Heap} {locs : List Loc} {cells slots : Nat} {Q : State → Prop}
variable {cc : ByteArray} {pc nL : Nat} {ls : Array Slot} {rest : List Value} {G : ct_G} {A : Nat → Prop} {a b : Nat} {f : dw_M} {H0 : Heap} {fr lo mc ms : Nat} {post : Option Value → dw_M → Prop} {px : String → dw_M → Prop}
theorem pf_DK_11_DK (X : cx G "TextDesk" p s m args c cc nL) (hin : meth.name = "<init>") (hw : dw G.1 dk_cl A H0 f H locs) {v0 v1 v2 v3 v4 v5 v6 v7 v : Value} (he : f a = some (.inr (5, [v0, v1, v2, v3, v4, v5, v6, v7]))) (hn : narrow (.array (.object "TextDesk$Text")) v = v) (hfit : fits (.array (.object "TextDesk$Text")) v = true) (hdg : decode cc pc = .ok (.putfield 11, 3)) (kk : ∀ (H1 : Heap) (locs1 : List Loc), dw G.1 dk_cl A H0 (dw_up f a (.inr (5, [v, v1, v2, v3, v4, v5, v6, v7]))) H1 locs1 → W p l e R s m args below meth c H1 locs1 cells slots Q (F0 m (pc + 3) ls rest)) : W p l e R s m args below meth c H locs cells slots Q (F0 m pc ls (v :: .ref a :: rest)) :=
  dw_putF (C := "TextDesk") (T := F_DK) (N := 8) X.1 X.2.1 X.hts i_DK t_DK t_DK_ok n_DK X.own X.K hw he rfl 0 (by decide) (X.hts _ mw_65) (fun _ h9 => h9) rfl hin rfl (ty := .array (.object "TextDesk$Text")) (by decide +kernel) hn hfit (Nat.le_of_ble_eq_true rfl) hdg kk
theorem pf_DK_15_DK (X : cx G "TextDesk" p s m args c cc nL) (hin : meth.name = "<init>") (hw : dw G.1 dk_cl A H0 f H locs) {v0 v1 v2 v3 v4 v5 v6 v7 v : Value} (he : f a = some (.inr (5, [v0, v1, v2, v3, v4, v5, v6, v7]))) (hn : narrow (.array (.object "TextDesk$Text")) v = v) (hfit : fits (.array (.object "TextDesk$Text")) v = true) (hdg : decode cc pc = .ok (.putfield 15, 3)) (kk : ∀ (H1 : Heap) (locs1 : List Loc), dw G.1 dk_cl A H0 (dw_up f a (.inr (5, [v0, v1, v, v3, v4, v5, v6, v7]))) H1 locs1 → W p l e R s m args below meth c H1 locs1 cells slots Q (F0 m (pc + 3) ls rest)) : W p l e R s m args below meth c H locs cells slots Q (F0 m pc ls (v :: .ref a :: rest)) :=
  dw_putF (C := "TextDesk") (T := F_DK) (N := 8) X.1 X.2.1 X.hts i_DK t_DK t_DK_ok n_DK X.own X.K hw he rfl 2 (by decide) (X.hts _ mw_67) (fun _ h9 => h9) rfl hin rfl (ty := .array (.object "TextDesk$Text")) (by decide +kernel) hn hfit (Nat.le_of_ble_eq_true rfl) hdg kk
theorem cs_DK_20 (X : cx G "TextDesk" p s m args c cc nL) (hz : ct_z G A s) (hw : dw G.1 dk_cl A s.heap f H locs) (hls : ls.size = nL) {v1 : Value} (hc : cn l y_RW_init w_RW_init fr lo G f H.size [.ref b, v1] post mc ms) (hR : fr + 1 ≤ R.frames ∧ 8 + (2 + 11) + lo ≤ R.locals) (hf : cells + mc ≤ R.cells ∧ slots + ms ≤ R.slots) (hW : (rest.map fun v => v.category).sum ≤ 8) (hdg : decode cc pc = .ok (.invokespecial 20, 3))
    (kk : ∀ (v : Option Value) (f' : dw_M) (H1 : Heap) (locs1 : List Loc), post v f' → dw G.1 dk_cl A s.heap f' H1 locs1 → H.size ≤ H1.size → (∀ q : Nat, q < H.size → ¬ dw_A f H.size q → H1[q]? = H[q]?) → (∀ q x, f' q = some x → dw_A f H.size q) → W p l e R s m args below meth c H1 locs1 (cells + mc) (slots + ms) Q (F0 m (pc + 3) ls (v.toList ++ rest))) : W p l e R s m args below meth c H locs cells slots Q (F0 m pc ls (v1 :: .ref b :: rest)) :=
  cn_call (va_runI (As := [v1]) (rest := rest) X.fix hc (cwI 1 X.hts (dk_goodc mw_33) rfl rfl rfl (X.hts _ mw_3) (X.hts _ mw_31) (X.hts _ mw_32) rfl (by decide +kernel) hR) ⟨ct_blind _ _ _ _, ct_pre [.ref b, v1] X.E hz hw⟩ rfl rfl hls rfl (lv_room hW) hdg hf) hw kk
theorem pf_DK_23_DK (X : cx G "TextDesk" p s m args c cc nL) (hin : meth.name = "<init>") (hw : dw G.1 dk_cl A H0 f H locs) {v0 v1 v2 v3 v4 v5 v6 v7 v : Value} (he : f a = some (.inr (5, [v0, v1, v2, v3, v4, v5, v6, v7]))) (hn : narrow (.object "TextDesk$Row") v = v) (hfit : fits (.object "TextDesk$Row") v = true) (hdg : decode cc pc = .ok (.putfield 23, 3)) (kk : ∀ (H1 : Heap) (locs1 : List Loc), dw G.1 dk_cl A H0 (dw_up f a (.inr (5, [v0, v1, v2, v3, v, v5, v6, v7]))) H1 locs1 → W p l e R s m args below meth c H1 locs1 cells slots Q (F0 m (pc + 3) ls rest)) : W p l e R s m args below meth c H locs cells slots Q (F0 m pc ls (v :: .ref a :: rest)) :=
  dw_putF (C := "TextDesk") (T := F_DK) (N := 8) X.1 X.2.1 X.hts i_DK t_DK t_DK_ok n_DK X.own X.K hw he rfl 4 (by decide) (X.hts _ mw_69) (fun _ h9 => h9) rfl hin rfl (ty := .object "TextDesk$Row") (by decide +kernel) hn hfit (Nat.le_of_ble_eq_true rfl) hdg kk
theorem cs_DK_29 (X : cx G "TextDesk" p s m args c cc nL) (hz : ct_z G A s) (hw : dw G.1 dk_cl A s.heap f H locs) (hls : ls.size = nL) (hc : cn l y_DC_init w_DC_init fr lo G f H.size [.ref b] post mc ms) (hR : fr + 1 ≤ R.frames ∧ 8 + (1 + 11) + lo ≤ R.locals) (hf : cells + mc ≤ R.cells ∧ slots + ms ≤ R.slots) (hW : (rest.map fun v => v.category).sum ≤ 8) (hdg : decode cc pc = .ok (.invokespecial 29, 3))
    (kk : ∀ (v : Option Value) (f' : dw_M) (H1 : Heap) (locs1 : List Loc), post v f' → dw G.1 dk_cl A s.heap f' H1 locs1 → H.size ≤ H1.size → (∀ q : Nat, q < H.size → ¬ dw_A f H.size q → H1[q]? = H[q]?) → (∀ q x, f' q = some x → dw_A f H.size q) → W p l e R s m args below meth c H1 locs1 (cells + mc) (slots + ms) Q (F0 m (pc + 3) ls (v.toList ++ rest))) : W p l e R s m args below meth c H locs cells slots Q (F0 m pc ls (.ref b :: rest)) :=
  cn_call (va_runIN (As := []) (rest := rest) X.fix hc ⟨va_cnB (host := "TextDesk") 0 X.hts (dk_goodc mw_56) rfl rfl rfl (X.E.2.2.2.1 ("TextDesk", 29, ⟨"TextDesk$Decoder", "<init>", "()V"⟩, "TextDesk") (by decide +kernel)) (X.hts _ mw_5) (by decide +kernel) hR, rfl, X.hts _ mw_55⟩ ⟨ct_blind _ _ _ _, ct_pre [.ref b] X.E hz hw⟩ rfl rfl hls rfl (lv_room hW) hdg hf) hw kk
theorem pf_DK_30_DK (X : cx G "TextDesk" p s m args c cc nL) (hin : meth.name = "<init>") (hw : dw G.1 dk_cl A H0 f H locs) {v0 v1 v2 v3 v4 v5 v6 v7 v : Value} (he : f a = some (.inr (5, [v0, v1, v2, v3, v4, v5, v6, v7]))) (hn : narrow (.object "TextDesk$Decoder") v = v) (hfit : fits (.object "TextDesk$Decoder") v = true) (hdg : decode cc pc = .ok (.putfield 30, 3)) (kk : ∀ (H1 : Heap) (locs1 : List Loc), dw G.1 dk_cl A H0 (dw_up f a (.inr (5, [v0, v1, v2, v3, v4, v, v6, v7]))) H1 locs1 → W p l e R s m args below meth c H1 locs1 cells slots Q (F0 m (pc + 3) ls rest)) : W p l e R s m args below meth c H locs cells slots Q (F0 m pc ls (v :: .ref a :: rest)) :=
  dw_putF (C := "TextDesk") (T := F_DK) (N := 8) X.1 X.2.1 X.hts i_DK t_DK t_DK_ok n_DK X.own X.K hw he rfl 5 (by decide) (X.hts _ mw_70) (fun _ h9 => h9) rfl hin rfl (ty := .object "TextDesk$Decoder") (by decide +kernel) hn hfit (Nat.le_of_ble_eq_true rfl) hdg kk
theorem pf_DK_34_DK (X : cx G "TextDesk" p s m args c cc nL) (hw : dw G.1 dk_cl A H0 f H locs) {v0 v1 v2 v3 v4 v5 v6 v7 v : Value} (he : f a = some (.inr (5, [v0, v1, v2, v3, v4, v5, v6, v7]))) (hn : narrow (.object "TextDesk$Row") v = v) (hfit : fits (.object "TextDesk$Row") v = true) (hdg : decode cc pc = .ok (.putfield 34, 3)) (kk : ∀ (H1 : Heap) (locs1 : List Loc), dw G.1 dk_cl A H0 (dw_up f a (.inr (5, [v0, v1, v2, v3, v4, v5, v, v7]))) H1 locs1 → W p l e R s m args below meth c H1 locs1 cells slots Q (F0 m (pc + 3) ls rest)) : W p l e R s m args below meth c H locs cells slots Q (F0 m pc ls (v :: .ref a :: rest)) :=
  dw_put (C := "TextDesk") (T := F_DK) (N := 8) X.1 X.2.1 X.hts i_DK t_DK t_DK_ok n_DK X.own X.K hw he rfl 6 (by decide) (X.hts _ mw_71) (fun _ h9 => h9) rfl (ty := .object "TextDesk$Row") (by decide +kernel) hn hfit (Nat.le_of_ble_eq_true rfl) hdg kk
theorem pf_DK_37_DK (X : cx G "TextDesk" p s m args c cc nL) (hw : dw G.1 dk_cl A H0 f H locs) {v0 v1 v2 v3 v4 v5 v6 v7 v : Value} (he : f a = some (.inr (5, [v0, v1, v2, v3, v4, v5, v6, v7]))) (hn : narrow (.object "TextDesk$Row") v = v) (hfit : fits (.object "TextDesk$Row") v = true) (hdg : decode cc pc = .ok (.putfield 37, 3)) (kk : ∀ (H1 : Heap) (locs1 : List Loc), dw G.1 dk_cl A H0 (dw_up f a (.inr (5, [v0, v1, v2, v3, v4, v5, v6, v]))) H1 locs1 → W p l e R s m args below meth c H1 locs1 cells slots Q (F0 m (pc + 3) ls rest)) : W p l e R s m args below meth c H locs cells slots Q (F0 m pc ls (v :: .ref a :: rest)) :=
  dw_put (C := "TextDesk") (T := F_DK) (N := 8) X.1 X.2.1 X.hts i_DK t_DK t_DK_ok n_DK X.own X.K hw he rfl 7 (by decide) (X.hts _ mw_72) (fun _ h9 => h9) rfl (ty := .object "TextDesk$Row") (by decide +kernel) hn hfit (Nat.le_of_ble_eq_true rfl) hdg kk
theorem cs_RW_3 (X : cx G "TextDesk$Row" p s m args c cc nL) (hz : ct_z G A s) (hw : dw G.1 dk_cl A s.heap f H locs) (hls : ls.size = nL) (hc : cn l y_SQ_init w_SQ_init fr lo G f H.size [.ref b] post mc ms) (hR : fr + 1 ≤ R.frames ∧ 8 + (1 + 11) + lo ≤ R.locals) (hf : cells + mc ≤ R.cells ∧ slots + ms ≤ R.slots) (hW : (rest.map fun v => v.category).sum ≤ 8) (hdg : decode cc pc = .ok (.invokespecial 3, 3))
    (kk : ∀ (v : Option Value) (f' : dw_M) (H1 : Heap) (locs1 : List Loc), post v f' → dw G.1 dk_cl A s.heap f' H1 locs1 → H.size ≤ H1.size → (∀ q : Nat, q < H.size → ¬ dw_A f H.size q → H1[q]? = H[q]?) → (∀ q x, f' q = some x → dw_A f H.size q) → W p l e R s m args below meth c H1 locs1 (cells + mc) (slots + ms) Q (F0 m (pc + 3) ls (v.toList ++ rest))) : W p l e R s m args below meth c H locs cells slots Q (F0 m pc ls (.ref b :: rest)) :=
  cn_call (va_runIN (As := []) (rest := rest) X.fix hc ⟨va_cnB (host := "TextDesk") 0 X.hts (dk_goodc mw_36) rfl rfl rfl (X.E.2.2.2.1 ("TextDesk$Row", 3, ⟨"TextDesk$Sequence", "<init>", "()V"⟩, "TextDesk") (by decide +kernel)) (X.hts _ mw_2) (by decide +kernel) hR, rfl, X.hts _ mw_35⟩ ⟨ct_blind _ _ _ _, ct_pre [.ref b] X.E hz hw⟩ rfl rfl hls rfl (lv_room hW) hdg hf) hw kk
theorem pf_RW_15_RW (X : cx G "TextDesk$Row" p s m args c cc nL) (hin : meth.name = "<init>") (hw : dw G.1 dk_cl A H0 f H locs) {v0 v1 v2 v : Value} (he : f a = some (.inr (4, [v0, v1, v2]))) (hn : narrow (.array .int) v = v) (hfit : fits (.array .int) v = true) (hdg : decode cc pc = .ok (.putfield 15, 3)) (kk : ∀ (H1 : Heap) (locs1 : List Loc), dw G.1 dk_cl A H0 (dw_up f a (.inr (4, [v, v1, v2]))) H1 locs1 → W p l e R s m args below meth c H1 locs1 cells slots Q (F0 m (pc + 3) ls rest)) : W p l e R s m args below meth c H locs cells slots Q (F0 m pc ls (v :: .ref a :: rest)) :=
  dw_putF (C := "TextDesk$Row") (T := F_RW) (N := 3) X.1 X.2.1 X.hts i_RW t_RW t_RW_ok n_RW X.own X.K hw he rfl 0 (by decide) (X.hts _ mw_41) (fun _ h9 => h9) rfl hin rfl (ty := .array .int) (by decide +kernel) hn hfit (Nat.le_of_ble_eq_true rfl) hdg kk
theorem gf_DK_37_DK (X : cx G "TextDesk" p s m args c cc nL) (hw : dw G.1 dk_cl A H0 f H locs) {v0 v1 v2 v3 v4 v5 v6 v7 : Value} (he : f a = some (.inr (5, [v0, v1, v2, v3, v4, v5, v6, v7]))) (hdg : decode cc pc = .ok (.getfield 37, 3)) (kk : W p l e R s m args below meth c H locs cells slots Q (F0 m (pc + 3) ls (v7 :: rest))) : W p l e R s m args below meth c H locs cells slots Q (F0 m pc ls (.ref a :: rest)) :=
  dw_get (C := "TextDesk") (T := F_DK) (N := 8) X.1 X.2.1 X.hts i_DK X.own X.K hw he rfl 7 (by decide) (X.hts _ mw_72) (fun _ h9 => h9) rfl hdg kk
theorem cs_DK_70 (X : cx G "TextDesk" p s m args c cc nL) (hz : ct_z G A s) (hw : dw G.1 dk_cl A s.heap f H locs) (hls : ls.size = nL) {fs : List Value} (he : f b = some (.inr (4, fs))) (hc : cn l y_RW_drop w_RW_drop fr lo G f H.size [.ref b] post mc ms) (hR : fr + 1 ≤ R.frames ∧ 8 + (1 + 11) + lo ≤ R.locals) (hf : cells + mc ≤ R.cells ∧ slots + ms ≤ R.slots) (hW : (rest.map fun v => v.category).sum ≤ 8) (hdg : decode cc pc = .ok (.invokevirtual 70, 3))
    (kk : ∀ (v : Option Value) (f' : dw_M) (H1 : Heap) (locs1 : List Loc), post v f' → dw G.1 dk_cl A s.heap f' H1 locs1 → H.size ≤ H1.size → (∀ q : Nat, q < H.size → ¬ dw_A f H.size q → H1[q]? = H[q]?) → (∀ q x, f' q = some x → dw_A f H.size q) → W p l e R s m args below meth c H1 locs1 (cells + mc) (slots + ms) Q (F0 m (pc + 3) ls (v.toList ++ rest))) : W p l e R s m args below meth c H locs cells slots Q (F0 m pc ls (.ref b :: rest)) :=
  cn_call (va_runV (As := []) (rest := rest) X.fix hc (cwV 0 X.hts (dk_gV mw_94 mw_95 mw_96 mw_3 mw_97) rfl rfl rfl (by decide +kernel) hR) ⟨ct_blind _ _ _ _, va_recv X.K (hw.P1 he) (ci := 4) (q0 := 0) rfl rfl, ct_pre [.ref b] X.E hz hw⟩ rfl rfl hls rfl (lv_room hW) hdg hf) hw kk
theorem gf_DK_34_DK (X : cx G "TextDesk" p s m args c cc nL) (hw : dw G.1 dk_cl A H0 f H locs) {v0 v1 v2 v3 v4 v5 v6 v7 : Value} (he : f a = some (.inr (5, [v0, v1, v2, v3, v4, v5, v6, v7]))) (hdg : decode cc pc = .ok (.getfield 34, 3)) (kk : W p l e R s m args below meth c H locs cells slots Q (F0 m (pc + 3) ls (v6 :: rest))) : W p l e R s m args below meth c H locs cells slots Q (F0 m pc ls (.ref a :: rest)) :=
  dw_get (C := "TextDesk") (T := F_DK) (N := 8) X.1 X.2.1 X.hts i_DK X.own X.K hw he rfl 6 (by decide) (X.hts _ mw_71) (fun _ h9 => h9) rfl hdg kk
theorem cs_DK_60 (X : cx G "TextDesk" p s m args c cc nL) (hz : ct_z G A s) (hw : dw G.1 dk_cl A s.heap f H locs) (hls : ls.size = nL) {fs : List Value} (he : f b = some (.inr (4, fs))) (hc : cn l y_RW_size w_RW_size fr lo G f H.size [.ref b] post mc ms) (hR : fr + 1 ≤ R.frames ∧ 8 + (1 + 11) + lo ≤ R.locals) (hf : cells + mc ≤ R.cells ∧ slots + ms ≤ R.slots) (hW : (rest.map fun v => v.category).sum ≤ 8) (hdg : decode cc pc = .ok (.invokevirtual 60, 3))
    (kk : ∀ (v : Option Value) (f' : dw_M) (H1 : Heap) (locs1 : List Loc), post v f' → dw G.1 dk_cl A s.heap f' H1 locs1 → H.size ≤ H1.size → (∀ q : Nat, q < H.size → ¬ dw_A f H.size q → H1[q]? = H[q]?) → (∀ q x, f' q = some x → dw_A f H.size q) → W p l e R s m args below meth c H1 locs1 (cells + mc) (slots + ms) Q (F0 m (pc + 3) ls (v.toList ++ rest))) : W p l e R s m args below meth c H locs cells slots Q (F0 m pc ls (.ref b :: rest)) :=
  cn_call (va_runV (As := []) (rest := rest) X.fix hc (cwV 0 X.hts (dk_gV mw_98 mw_99 mw_100 mw_3 mw_101) rfl rfl rfl (by decide +kernel) hR) ⟨ct_blind _ _ _ _, va_recv X.K (hw.P1 he) (ci := 4) (q0 := 0) rfl rfl, ct_pre [.ref b] X.E hz hw⟩ rfl rfl hls rfl (lv_room hW) hdg hf) hw kk
theorem cs_DK_88 (X : cx G "TextDesk" p s m args c cc nL) (hz : ct_z G A s) (hw : dw G.1 dk_cl A s.heap f H locs) (hls : ls.size = nL) {v1 v2 : Value} (hc : cn l y_DK_isPairAt w_DK_isPairAt fr lo G f H.size [v1, v2] post mc ms) (hR : fr + 1 ≤ R.frames ∧ 8 + (2 + 11) + lo ≤ R.locals) (hf : cells + mc ≤ R.cells ∧ slots + ms ≤ R.slots) (hW : (rest.map fun v => v.category).sum ≤ 8) (hdg : decode cc pc = .ok (.invokestatic 88, 3))
    (kk : ∀ (v : Option Value) (f' : dw_M) (H1 : Heap) (locs1 : List Loc), post v f' → dw G.1 dk_cl A s.heap f' H1 locs1 → H.size ≤ H1.size → (∀ q : Nat, q < H.size → ¬ dw_A f H.size q → H1[q]? = H[q]?) → (∀ q x, f' q = some x → dw_A f H.size q) → W p l e R s m args below meth c H1 locs1 (cells + mc) (slots + ms) Q (F0 m (pc + 3) ls (v.toList ++ rest))) : W p l e R s m args below meth c H locs cells slots Q (F0 m pc ls (v2 :: v1 :: rest)) :=
  cn_call (va_runS (As := [v1, v2]) (rest := rest) X.fix hc (va_cwS 2 X.hts (dk_gS mw_102 mw_103 mw_1 mw_104) rfl rfl rfl (by decide +kernel) hR) ⟨ct_blind _ _ _ _, ct_pre [v1, v2] X.E hz hw⟩ rfl rfl hls rfl (lv_room hW) hdg hf) hw kk
theorem cs_DK_92 (X : cx G "TextDesk" p s m args c cc nL) (hz : ct_z G A s) (hw : dw G.1 dk_cl A s.heap f H locs) (hls : ls.size = nL) {v1 : Value} {fs : List Value} (he : f b = some (.inr (4, fs))) (hc : cn l y_RW_get w_RW_get fr lo G f H.size [.ref b, v1] post mc ms) (hR : fr + 1 ≤ R.frames ∧ 8 + (2 + 11) + lo ≤ R.locals) (hf : cells + mc ≤ R.cells ∧ slots + ms ≤ R.slots) (hW : (rest.map fun v => v.category).sum ≤ 8) (hdg : decode cc pc = .ok (.invokevirtual 92, 3))
    (kk : ∀ (v : Option Value) (f' : dw_M) (H1 : Heap) (locs1 : List Loc), post v f' → dw G.1 dk_cl A s.heap f' H1 locs1 → H.size ≤ H1.size → (∀ q : Nat, q < H.size → ¬ dw_A f H.size q → H1[q]? = H[q]?) → (∀ q x, f' q = some x → dw_A f H.size q) → W p l e R s m args below meth c H1 locs1 (cells + mc) (slots + ms) Q (F0 m (pc + 3) ls (v.toList ++ rest))) : W p l e R s m args below meth c H locs cells slots Q (F0 m pc ls (v1 :: .ref b :: rest)) :=
  cn_call (va_runV (As := [v1]) (rest := rest) X.fix hc (cwV 1 X.hts (dk_gV mw_158 mw_147 mw_880 mw_3 mw_148) rfl rfl rfl (by decide +kernel) hR) ⟨ct_blind _ _ _ _, va_recv X.K (hw.P1 he) (ci := 4) (q0 := 0) rfl rfl, ct_pre [.ref b, v1] X.E hz hw⟩ rfl rfl hls rfl (lv_room hW) hdg hf) hw kk
theorem cs_DK_57 (X : cx G "TextDesk" p s m args c cc nL) (hz : ct_z G A s) (hw : dw G.1 dk_cl A s.heap f H locs) (hls : ls.size = nL) {v1 : Value} {fs : List Value} (he : f b = some (.inr (4, fs))) (hc : cn l y_RW_append w_RW_append fr lo G f H.size [.ref b, v1] post mc ms) (hR : fr + 1 ≤ R.frames ∧ 8 + (2 + 11) + lo ≤ R.locals) (hf : cells + mc ≤ R.cells ∧ slots + ms ≤ R.slots) (hW : (rest.map fun v => v.category).sum ≤ 8) (hdg : decode cc pc = .ok (.invokevirtual 57, 3))
    (kk : ∀ (v : Option Value) (f' : dw_M) (H1 : Heap) (locs1 : List Loc), post v f' → dw G.1 dk_cl A s.heap f' H1 locs1 → H.size ≤ H1.size → (∀ q : Nat, q < H.size → ¬ dw_A f H.size q → H1[q]? = H[q]?) → (∀ q x, f' q = some x → dw_A f H.size q) → W p l e R s m args below meth c H1 locs1 (cells + mc) (slots + ms) Q (F0 m (pc + 3) ls (v.toList ++ rest))) : W p l e R s m args below meth c H locs cells slots Q (F0 m pc ls (v1 :: .ref b :: rest)) :=
  cn_call (va_runV (As := [v1]) (rest := rest) X.fix hc (cwV 1 X.hts (dk_gV mw_213 mw_152 mw_153 mw_3 mw_154) rfl rfl rfl (by decide +kernel) hR) ⟨ct_blind _ _ _ _, va_recv X.K (hw.P1 he) (ci := 4) (q0 := 0) rfl rfl, ct_pre [.ref b, v1] X.E hz hw⟩ rfl rfl hls rfl (lv_room hW) hdg hf) hw kk
theorem cs_DK_81 (X : cx G "TextDesk" p s m args c cc nL) (hz : ct_z G A s) (hw : dw G.1 dk_cl A s.heap f H locs) (hls : ls.size = nL) {fs : List Value} (he : f b = some (.inr (5, fs))) (hc : cn l y_DK_makeDraftTheBuilder w_DK_makeDraftTheBuilder fr lo G f H.size [.ref b] post mc ms) (hR : fr + 1 ≤ R.frames ∧ 8 + (2 + 11) + lo ≤ R.locals) (hf : cells + mc ≤ R.cells ∧ slots + ms ≤ R.slots) (hW : (rest.map fun v => v.category).sum ≤ 8) (hdg : decode cc pc = .ok (.invokevirtual 81, 3))
    (kk : ∀ (v : Option Value) (f' : dw_M) (H1 : Heap) (locs1 : List Loc), post v f' → dw G.1 dk_cl A s.heap f' H1 locs1 → H.size ≤ H1.size → (∀ q : Nat, q < H.size → ¬ dw_A f H.size q → H1[q]? = H[q]?) → (∀ q x, f' q = some x → dw_A f H.size q) → W p l e R s m args below meth c H1 locs1 (cells + mc) (slots + ms) Q (F0 m (pc + 3) ls (v.toList ++ rest))) : W p l e R s m args below meth c H locs cells slots Q (F0 m pc ls (.ref b :: rest)) :=
  cn_call (va_runV (As := []) (rest := rest) X.fix hc (cwV 0 X.hts (dk_gV mw_214 mw_216 ms_0 mw_1 mw_217) rfl rfl rfl (by decide +kernel) hR) ⟨ct_blind _ _ _ _, va_recv X.K (hw.P1 he) (ci := 5) (q0 := 0) rfl rfl, ct_pre [.ref b] X.E hz hw⟩ rfl rfl hls rfl (lv_room hW) hdg hf) hw kk
theorem pf_RW_21_RW (X : cx G "TextDesk$Row" p s m args c cc nL) (hw : dw G.1 dk_cl A H0 f H locs) {v0 v1 v2 v : Value} (he : f a = some (.inr (4, [v0, v1, v2]))) (hn : narrow (.int) v = v) (hfit : fits (.int) v = true) (hdg : decode cc pc = .ok (.putfield 21, 3)) (kk : ∀ (H1 : Heap) (locs1 : List Loc), dw G.1 dk_cl A H0 (dw_up f a (.inr (4, [v0, v, v2]))) H1 locs1 → W p l e R s m args below meth c H1 locs1 cells slots Q (F0 m (pc + 3) ls rest)) : W p l e R s m args below meth c H locs cells slots Q (F0 m pc ls (v :: .ref a :: rest)) :=
  dw_put (C := "TextDesk$Row") (T := F_RW) (N := 3) X.1 X.2.1 X.hts i_RW t_RW t_RW_ok n_RW X.own X.K hw he rfl 1 (by decide) (X.hts _ mw_42) (fun _ h9 => h9) rfl (ty := .int) (by decide +kernel) hn hfit (Nat.le_of_ble_eq_true rfl) hdg kk
theorem pf_RW_25_RW (X : cx G "TextDesk$Row" p s m args c cc nL) (hw : dw G.1 dk_cl A H0 f H locs) {v0 v1 v2 v : Value} (he : f a = some (.inr (4, [v0, v1, v2]))) (hn : narrow (.boolean) v = v) (hfit : fits (.boolean) v = true) (hdg : decode cc pc = .ok (.putfield 25, 3)) (kk : ∀ (H1 : Heap) (locs1 : List Loc), dw G.1 dk_cl A H0 (dw_up f a (.inr (4, [v0, v1, v]))) H1 locs1 → W p l e R s m args below meth c H1 locs1 cells slots Q (F0 m (pc + 3) ls rest)) : W p l e R s m args below meth c H locs cells slots Q (F0 m pc ls (v :: .ref a :: rest)) :=
  dw_put (C := "TextDesk$Row") (T := F_RW) (N := 3) X.1 X.2.1 X.hts i_RW t_RW t_RW_ok n_RW X.own X.K hw he rfl 2 (by decide) (X.hts _ mw_43) (fun _ h9 => h9) rfl (ty := .boolean) (by decide +kernel) hn hfit (Nat.le_of_ble_eq_true rfl) hdg kk
theorem gf_RW_21_RW (X : cx G "TextDesk$Row" p s m args c cc nL) (hw : dw G.1 dk_cl A H0 f H locs) {v0 v1 v2 : Value} (he : f a = some (.inr (4, [v0, v1, v2]))) (hdg : decode cc pc = .ok (.getfield 21, 3)) (kk : W p l e R s m args below meth c H locs cells slots Q (F0 m (pc + 3) ls (v1 :: rest))) : W p l e R s m args below meth c H locs cells slots Q (F0 m pc ls (.ref a :: rest)) :=
  dw_get (C := "TextDesk$Row") (T := F_RW) (N := 3) X.1 X.2.1 X.hts i_RW X.own X.K hw he rfl 1 (by decide) (X.hts _ mw_42) (fun _ h9 => h9) rfl hdg kk
theorem cs_DK_192_JT (X : cx G "TextDesk" p s m args c cc nL) (hz : ct_z G A s) (hw : dw G.1 dk_cl A s.heap f H locs) (hls : ls.size = nL) {v1 : Value} {fs : List Value} (he : f b = some (.inr (3, fs))) (hc : cn l y_JT_get w_JT_get fr lo G f H.size [.ref b, v1] post mc ms) (hR : fr + 1 ≤ R.frames ∧ 8 + (3 + 11) + lo ≤ R.locals) (hf : cells + mc ≤ R.cells ∧ slots + ms ≤ R.slots) (hW : (rest.map fun v => v.category).sum ≤ 8) (hdg : decode cc pc = .ok (.invokevirtual 192, 3))
    (kk : ∀ (v : Option Value) (f' : dw_M) (H1 : Heap) (locs1 : List Loc), post v f' → dw G.1 dk_cl A s.heap f' H1 locs1 → H.size ≤ H1.size → (∀ q : Nat, q < H.size → ¬ dw_A f H.size q → H1[q]? = H[q]?) → (∀ q x, f' q = some x → dw_A f H.size q) → W p l e R s m args below meth c H1 locs1 (cells + mc) (slots + ms) Q (F0 m (pc + 3) ls (v.toList ++ rest))) : W p l e R s m args below meth c H locs cells slots Q (F0 m pc ls (v1 :: .ref b :: rest)) :=
  cn_call (va_runU (As := [v1]) (rest := rest) X.fix hc (va_cwA (x := ⟨"TextDesk$Sequence", "get", "(I)I"⟩) (owner := "TextDesk$Sequence") 1 X.hts (dk_gU mw_105 mw_107 mw_108 mw_109 mw_16 mw_110) rfl rfl rfl (X.E.2.2.2.2.1 ⟨"TextDesk$Sequence", "get", "(I)I"⟩ (by decide +kernel)) (by decide +kernel) hR) ⟨ct_blind _ _ _ _, va_recv X.K (hw.P1 he) (ci := 3) (q0 := 0) rfl rfl, ct_pre [.ref b, v1] X.E hz hw⟩ rfl rfl hls rfl (lv_room hW) hdg hf) hw kk
theorem cs_DK_192_NT (X : cx G "TextDesk" p s m args c cc nL) (hz : ct_z G A s) (hw : dw G.1 dk_cl A s.heap f H locs) (hls : ls.size = nL) {v1 : Value} {fs : List Value} (he : f b = some (.inr (1, fs))) (hc : cn l y_NT_get w_NT_get fr lo G f H.size [.ref b, v1] post mc ms) (hR : fr + 1 ≤ R.frames ∧ 8 + (2 + 11) + lo ≤ R.locals) (hf : cells + mc ≤ R.cells ∧ slots + ms ≤ R.slots) (hW : (rest.map fun v => v.category).sum ≤ 8) (hdg : decode cc pc = .ok (.invokevirtual 192, 3))
    (kk : ∀ (v : Option Value) (f' : dw_M) (H1 : Heap) (locs1 : List Loc), post v f' → dw G.1 dk_cl A s.heap f' H1 locs1 → H.size ≤ H1.size → (∀ q : Nat, q < H.size → ¬ dw_A f H.size q → H1[q]? = H[q]?) → (∀ q x, f' q = some x → dw_A f H.size q) → W p l e R s m args below meth c H1 locs1 (cells + mc) (slots + ms) Q (F0 m (pc + 3) ls (v.toList ++ rest))) : W p l e R s m args below meth c H locs cells slots Q (F0 m pc ls (v1 :: .ref b :: rest)) :=
  cn_call (va_runU (As := [v1]) (rest := rest) X.fix hc (va_cwA (x := ⟨"TextDesk$Sequence", "get", "(I)I"⟩) (owner := "TextDesk$Sequence") 1 X.hts (dk_gU mw_105 mw_107 mw_201 mw_145 mw_14 mw_146) rfl rfl rfl (X.E.2.2.2.2.1 ⟨"TextDesk$Sequence", "get", "(I)I"⟩ (by decide +kernel)) (by decide +kernel) hR) ⟨ct_blind _ _ _ _, va_recv X.K (hw.P1 he) (ci := 1) (q0 := 0) rfl rfl, ct_pre [.ref b, v1] X.E hz hw⟩ rfl rfl hls rfl (lv_room hW) hdg hf) hw kk
theorem cs_DK_192_RW (X : cx G "TextDesk" p s m args c cc nL) (hz : ct_z G A s) (hw : dw G.1 dk_cl A s.heap f H locs) (hls : ls.size = nL) {v1 : Value} {fs : List Value} (he : f b = some (.inr (4, fs))) (hc : cn l y_RW_get w_RW_get fr lo G f H.size [.ref b, v1] post mc ms) (hR : fr + 1 ≤ R.frames ∧ 8 + (2 + 11) + lo ≤ R.locals) (hf : cells + mc ≤ R.cells ∧ slots + ms ≤ R.slots) (hW : (rest.map fun v => v.category).sum ≤ 8) (hdg : decode cc pc = .ok (.invokevirtual 192, 3))
    (kk : ∀ (v : Option Value) (f' : dw_M) (H1 : Heap) (locs1 : List Loc), post v f' → dw G.1 dk_cl A s.heap f' H1 locs1 → H.size ≤ H1.size → (∀ q : Nat, q < H.size → ¬ dw_A f H.size q → H1[q]? = H[q]?) → (∀ q x, f' q = some x → dw_A f H.size q) → W p l e R s m args below meth c H1 locs1 (cells + mc) (slots + ms) Q (F0 m (pc + 3) ls (v.toList ++ rest))) : W p l e R s m args below meth c H locs cells slots Q (F0 m pc ls (v1 :: .ref b :: rest)) :=
  cn_call (va_runU (As := [v1]) (rest := rest) X.fix hc (va_cwA (x := ⟨"TextDesk$Sequence", "get", "(I)I"⟩) (owner := "TextDesk$Sequence") 1 X.hts (dk_gU mw_105 mw_107 mw_202 mw_147 mw_3 mw_148) rfl rfl rfl (X.E.2.2.2.2.1 ⟨"TextDesk$Sequence", "get", "(I)I"⟩ (by decide +kernel)) (by decide +kernel) hR) ⟨ct_blind _ _ _ _, va_recv X.K (hw.P1 he) (ci := 4) (q0 := 0) rfl rfl, ct_pre [.ref b, v1] X.E hz hw⟩ rfl rfl hls rfl (lv_room hW) hdg hf) hw kk
theorem cs_DK_192_WT (X : cx G "TextDesk" p s m args c cc nL) (hz : ct_z G A s) (hw : dw G.1 dk_cl A s.heap f H locs) (hls : ls.size = nL) {v1 : Value} {fs : List Value} (he : f b = some (.inr (2, fs))) (hc : cn l y_WT_get w_WT_get fr lo G f H.size [.ref b, v1] post mc ms) (hR : fr + 1 ≤ R.frames ∧ 8 + (2 + 11) + lo ≤ R.locals) (hf : cells + mc ≤ R.cells ∧ slots + ms ≤ R.slots) (hW : (rest.map fun v => v.category).sum ≤ 8) (hdg : decode cc pc = .ok (.invokevirtual 192, 3))
    (kk : ∀ (v : Option Value) (f' : dw_M) (H1 : Heap) (locs1 : List Loc), post v f' → dw G.1 dk_cl A s.heap f' H1 locs1 → H.size ≤ H1.size → (∀ q : Nat, q < H.size → ¬ dw_A f H.size q → H1[q]? = H[q]?) → (∀ q x, f' q = some x → dw_A f H.size q) → W p l e R s m args below meth c H1 locs1 (cells + mc) (slots + ms) Q (F0 m (pc + 3) ls (v.toList ++ rest))) : W p l e R s m args below meth c H locs cells slots Q (F0 m pc ls (v1 :: .ref b :: rest)) :=
  cn_call (va_runU (As := [v1]) (rest := rest) X.fix hc (va_cwA (x := ⟨"TextDesk$Sequence", "get", "(I)I"⟩) (owner := "TextDesk$Sequence") 1 X.hts (dk_gU mw_105 mw_107 mw_203 mw_149 mw_13 mw_150) rfl rfl rfl (X.E.2.2.2.2.1 ⟨"TextDesk$Sequence", "get", "(I)I"⟩ (by decide +kernel)) (by decide +kernel) hR) ⟨ct_blind _ _ _ _, va_recv X.K (hw.P1 he) (ci := 2) (q0 := 0) rfl rfl, ct_pre [.ref b, v1] X.E hz hw⟩ rfl rfl hls rfl (lv_room hW) hdg hf) hw kk
theorem cs_DK_211 (X : cx G "TextDesk" p s m args c cc nL) (hz : ct_z G A s) (hw : dw G.1 dk_cl A s.heap f H locs) (hls : ls.size = nL) {v1 : Value} (hc : cn l y_DK_isHigh w_DK_isHigh fr lo G f H.size [v1] post mc ms) (hR : fr + 1 ≤ R.frames ∧ 8 + (1 + 11) + lo ≤ R.locals) (hf : cells + mc ≤ R.cells ∧ slots + ms ≤ R.slots) (hW : (rest.map fun v => v.category).sum ≤ 8) (hdg : decode cc pc = .ok (.invokestatic 211, 3))
    (kk : ∀ (v : Option Value) (f' : dw_M) (H1 : Heap) (locs1 : List Loc), post v f' → dw G.1 dk_cl A s.heap f' H1 locs1 → H.size ≤ H1.size → (∀ q : Nat, q < H.size → ¬ dw_A f H.size q → H1[q]? = H[q]?) → (∀ q x, f' q = some x → dw_A f H.size q) → W p l e R s m args below meth c H1 locs1 (cells + mc) (slots + ms) Q (F0 m (pc + 3) ls (v.toList ++ rest))) : W p l e R s m args below meth c H locs cells slots Q (F0 m pc ls (v1 :: rest)) :=
  cn_call (va_runS (As := [v1]) (rest := rest) X.fix hc (va_cwS 1 X.hts (dk_gS mw_204 mw_205 mw_1 mw_206) rfl rfl rfl (by decide +kernel) hR) ⟨ct_blind _ _ _ _, ct_pre [v1] X.E hz hw⟩ rfl rfl hls rfl (lv_room hW) hdg hf) hw kk
theorem cs_DK_215 (X : cx G "TextDesk" p s m args c cc nL) (hz : ct_z G A s) (hw : dw G.1 dk_cl A s.heap f H locs) (hls : ls.size = nL) {v1 : Value} (hc : cn l y_DK_isLow w_DK_isLow fr lo G f H.size [v1] post mc ms) (hR : fr + 1 ≤ R.frames ∧ 8 + (1 + 11) + lo ≤ R.locals) (hf : cells + mc ≤ R.cells ∧ slots + ms ≤ R.slots) (hW : (rest.map fun v => v.category).sum ≤ 8) (hdg : decode cc pc = .ok (.invokestatic 215, 3))
    (kk : ∀ (v : Option Value) (f' : dw_M) (H1 : Heap) (locs1 : List Loc), post v f' → dw G.1 dk_cl A s.heap f' H1 locs1 → H.size ≤ H1.size → (∀ q : Nat, q < H.size → ¬ dw_A f H.size q → H1[q]? = H[q]?) → (∀ q x, f' q = some x → dw_A f H.size q) → W p l e R s m args below meth c H1 locs1 (cells + mc) (slots + ms) Q (F0 m (pc + 3) ls (v.toList ++ rest))) : W p l e R s m args below meth c H locs cells slots Q (F0 m pc ls (v1 :: rest)) :=
  cn_call (va_runS (As := [v1]) (rest := rest) X.fix hc (va_cwS 1 X.hts (dk_gS mw_209 mw_210 mw_1 mw_211) rfl rfl rfl (by decide +kernel) hR) ⟨ct_blind _ _ _ _, ct_pre [v1] X.E hz hw⟩ rfl rfl hls rfl (lv_room hW) hdg hf) hw kk
theorem gf_JT_24_JT (X : cx G "TextDesk$JoinedText" p s m args c cc nL) (hw : dw G.1 dk_cl A H0 f H locs) {v0 v1 v2 v3 v4 : Value} (he : f a = some (.inr (3, [v0, v1, v2, v3, v4]))) (hdg : decode cc pc = .ok (.getfield 24, 3)) (kk : W p l e R s m args below meth c H locs cells slots Q (F0 m (pc + 3) ls (v4 :: rest))) : W p l e R s m args below meth c H locs cells slots Q (F0 m pc ls (.ref a :: rest)) :=
  dw_get (C := "TextDesk$JoinedText") (T := F_JT) (N := 5) X.1 X.2.1 X.hts i_JT X.own X.K hw he rfl 4 (by decide) (X.hts _ mw_423) (fun _ h9 => h9) rfl hdg kk
theorem cs_JT_29 (X : cx G "TextDesk$JoinedText" p s m args c cc nL) (hz : ct_z G A s) (hw : dw G.1 dk_cl A s.heap f H locs) (hls : ls.size = nL) {fs : List Value} (he : f b = some (.inr (3, fs))) (hc : cn l y_TX_size w_TX_size fr lo G f H.size [.ref b] post mc ms) (hR : fr + 1 ≤ R.frames ∧ 8 + (1 + 11) + lo ≤ R.locals) (hf : cells + mc ≤ R.cells ∧ slots + ms ≤ R.slots) (hW : (rest.map fun v => v.category).sum ≤ 8) (hdg : decode cc pc = .ok (.invokevirtual 29, 3))
    (kk : ∀ (v : Option Value) (f' : dw_M) (H1 : Heap) (locs1 : List Loc), post v f' → dw G.1 dk_cl A s.heap f' H1 locs1 → H.size ≤ H1.size → (∀ q : Nat, q < H.size → ¬ dw_A f H.size q → H1[q]? = H[q]?) → (∀ q x, f' q = some x → dw_A f H.size q) → W p l e R s m args below meth c H1 locs1 (cells + mc) (slots + ms) Q (F0 m (pc + 3) ls (v.toList ++ rest))) : W p l e R s m args below meth c H locs cells slots Q (F0 m pc ls (.ref b :: rest)) :=
  cn_call (va_runU (As := []) (rest := rest) X.fix hc (va_cwU (x := ⟨"TextDesk$JoinedText", "size", "()I"⟩) (owner := "TextDesk$Text") 0 X.hts (dk_gU mw_112 mw_113 mw_115 mw_116 mw_12 mw_117) rfl rfl rfl rfl (by decide +kernel) hR) ⟨ct_blind _ _ _ _, va_recv X.K (hw.P1 he) (ci := 3) (q0 := 0) rfl rfl, ct_pre [.ref b] X.E hz hw⟩ rfl rfl hls rfl (lv_room hW) hdg hf) hw kk
theorem cs_JT_30 (X : cx G "TextDesk$JoinedText" p s m args c cc nL) (hz : ct_z G A s) (hw : dw G.1 dk_cl A s.heap f H locs) (hls : ls.size = nL) {v1 : Value} (hc : cn l y_RW_init w_RW_init fr lo G f H.size [.ref b, v1] post mc ms) (hR : fr + 1 ≤ R.frames ∧ 8 + (2 + 11) + lo ≤ R.locals) (hf : cells + mc ≤ R.cells ∧ slots + ms ≤ R.slots) (hW : (rest.map fun v => v.category).sum ≤ 8) (hdg : decode cc pc = .ok (.invokespecial 30, 3))
    (kk : ∀ (v : Option Value) (f' : dw_M) (H1 : Heap) (locs1 : List Loc), post v f' → dw G.1 dk_cl A s.heap f' H1 locs1 → H.size ≤ H1.size → (∀ q : Nat, q < H.size → ¬ dw_A f H.size q → H1[q]? = H[q]?) → (∀ q x, f' q = some x → dw_A f H.size q) → W p l e R s m args below meth c H1 locs1 (cells + mc) (slots + ms) Q (F0 m (pc + 3) ls (v.toList ++ rest))) : W p l e R s m args below meth c H locs cells slots Q (F0 m pc ls (v1 :: .ref b :: rest)) :=
  cn_call (va_runI (As := [v1]) (rest := rest) X.fix hc (cwI 1 X.hts (dk_goodc mw_33) rfl rfl rfl (X.hts _ mw_3) (X.hts _ mw_118) (X.hts _ mw_32) rfl (by decide +kernel) hR) ⟨ct_blind _ _ _ _, ct_pre [.ref b, v1] X.E hz hw⟩ rfl rfl hls rfl (lv_room hW) hdg hf) hw kk
theorem cs_JT_33 (X : cx G "TextDesk$JoinedText" p s m args c cc nL) (hz : ct_z G A s) (hw : dw G.1 dk_cl A s.heap f H locs) (hls : ls.size = nL) {v1 : Value} {fs : List Value} (he : f b = some (.inr (3, fs))) (hc : cn l y_JT_pourInto w_JT_pourInto fr lo G f H.size [.ref b, v1] post mc ms) (hR : fr + 1 ≤ R.frames ∧ 8 + (2 + 11) + lo ≤ R.locals) (hf : cells + mc ≤ R.cells ∧ slots + ms ≤ R.slots) (hW : (rest.map fun v => v.category).sum ≤ 8) (hdg : decode cc pc = .ok (.invokevirtual 33, 3))
    (kk : ∀ (v : Option Value) (f' : dw_M) (H1 : Heap) (locs1 : List Loc), post v f' → dw G.1 dk_cl A s.heap f' H1 locs1 → H.size ≤ H1.size → (∀ q : Nat, q < H.size → ¬ dw_A f H.size q → H1[q]? = H[q]?) → (∀ q x, f' q = some x → dw_A f H.size q) → W p l e R s m args below meth c H1 locs1 (cells + mc) (slots + ms) Q (F0 m (pc + 3) ls (v.toList ++ rest))) : W p l e R s m args below meth c H locs cells slots Q (F0 m pc ls (v1 :: .ref b :: rest)) :=
  cn_call (va_runV (As := [v1]) (rest := rest) X.fix hc (cwV 1 X.hts (dk_gV mw_119 mw_120 mw_121 mw_16 mw_122) rfl rfl rfl (by decide +kernel) hR) ⟨ct_blind _ _ _ _, va_recv X.K (hw.P1 he) (ci := 3) (q0 := 0) rfl rfl, ct_pre [.ref b, v1] X.E hz hw⟩ rfl rfl hls rfl (lv_room hW) hdg hf) hw kk
theorem cs_JT_37 (X : cx G "TextDesk$JoinedText" p s m args c cc nL) (hz : ct_z G A s) (hw : dw G.1 dk_cl A s.heap f H locs) (hls : ls.size = nL) {v1 : Value} (hc : cn l y_DK_textOf w_DK_textOf fr lo G f H.size [v1] post mc ms) (hR : fr + 1 ≤ R.frames ∧ 8 + (2 + 11) + lo ≤ R.locals) (hf : cells + mc ≤ R.cells ∧ slots + ms ≤ R.slots) (hW : (rest.map fun v => v.category).sum ≤ 8) (hdg : decode cc pc = .ok (.invokestatic 37, 3))
    (kk : ∀ (v : Option Value) (f' : dw_M) (H1 : Heap) (locs1 : List Loc), post v f' → dw G.1 dk_cl A s.heap f' H1 locs1 → H.size ≤ H1.size → (∀ q : Nat, q < H.size → ¬ dw_A f H.size q → H1[q]? = H[q]?) → (∀ q x, f' q = some x → dw_A f H.size q) → W p l e R s m args below meth c H1 locs1 (cells + mc) (slots + ms) Q (F0 m (pc + 3) ls (v.toList ++ rest))) : W p l e R s m args below meth c H locs cells slots Q (F0 m pc ls (v1 :: rest)) :=
  cn_call (va_runSN (As := [v1]) (rest := rest) X.fix hc ⟨va_cnB (host := "TextDesk") 1 X.hts (dk_goodc mw_157) rfl rfl rfl (X.E.2.2.2.1 ("TextDesk$JoinedText", 37, ⟨"TextDesk", "textOf", "(LTextDesk$Row;)LTextDesk$Text;"⟩, "TextDesk") (by decide +kernel)) (X.hts _ mw_1) (by decide +kernel) hR, X.hts _ mw_156, trivial⟩ ⟨ct_blind _ _ _ _, ct_pre [v1] X.E hz hw⟩ rfl rfl hls rfl (lv_room hW) hdg hf) hw kk
theorem pf_JT_24_JT (X : cx G "TextDesk$JoinedText" p s m args c cc nL) (hw : dw G.1 dk_cl A H0 f H locs) {v0 v1 v2 v3 v4 v : Value} (he : f a = some (.inr (3, [v0, v1, v2, v3, v4]))) (hn : narrow (.object "TextDesk$Text") v = v) (hfit : fits (.object "TextDesk$Text") v = true) (hdg : decode cc pc = .ok (.putfield 24, 3)) (kk : ∀ (H1 : Heap) (locs1 : List Loc), dw G.1 dk_cl A H0 (dw_up f a (.inr (3, [v0, v1, v2, v3, v]))) H1 locs1 → W p l e R s m args below meth c H1 locs1 cells slots Q (F0 m (pc + 3) ls rest)) : W p l e R s m args below meth c H locs cells slots Q (F0 m pc ls (v :: .ref a :: rest)) :=
  dw_put (C := "TextDesk$JoinedText") (T := F_JT) (N := 5) X.1 X.2.1 X.hts i_JT t_JT t_JT_ok n_JT X.own X.K hw he rfl 4 (by decide) (X.hts _ mw_423) (fun _ h9 => h9) rfl (ty := .object "TextDesk$Text") (by decide +kernel) hn hfit (Nat.le_of_ble_eq_true rfl) hdg kk
theorem cs_JT_43_JT (X : cx G "TextDesk$JoinedText" p s m args c cc nL) (hz : ct_z G A s) (hw : dw G.1 dk_cl A s.heap f H locs) (hls : ls.size = nL) {v1 : Value} {fs : List Value} (he : f b = some (.inr (3, fs))) (hc : cn l y_JT_get w_JT_get fr lo G f H.size [.ref b, v1] post mc ms) (hR : fr + 1 ≤ R.frames ∧ 8 + (3 + 11) + lo ≤ R.locals) (hf : cells + mc ≤ R.cells ∧ slots + ms ≤ R.slots) (hW : (rest.map fun v => v.category).sum ≤ 8) (hdg : decode cc pc = .ok (.invokevirtual 43, 3))
    (kk : ∀ (v : Option Value) (f' : dw_M) (H1 : Heap) (locs1 : List Loc), post v f' → dw G.1 dk_cl A s.heap f' H1 locs1 → H.size ≤ H1.size → (∀ q : Nat, q < H.size → ¬ dw_A f H.size q → H1[q]? = H[q]?) → (∀ q x, f' q = some x → dw_A f H.size q) → W p l e R s m args below meth c H1 locs1 (cells + mc) (slots + ms) Q (F0 m (pc + 3) ls (v.toList ++ rest))) : W p l e R s m args below meth c H locs cells slots Q (F0 m pc ls (v1 :: .ref b :: rest)) :=
  cn_call (va_runU (As := [v1]) (rest := rest) X.fix hc (va_cwA (x := ⟨"TextDesk$Text", "get", "(I)I"⟩) (owner := "TextDesk$Sequence") 1 X.hts (dk_gU mw_196 mw_197 mw_198 mw_109 mw_16 mw_110) rfl rfl rfl (X.E.2.2.2.2.1 ⟨"TextDesk$Sequence", "get", "(I)I"⟩ (by decide +kernel)) (by decide +kernel) hR) ⟨ct_blind _ _ _ _, va_recv X.K (hw.P1 he) (ci := 3) (q0 := 0) rfl rfl, ct_pre [.ref b, v1] X.E hz hw⟩ rfl rfl hls rfl (lv_room hW) hdg hf) hw kk
theorem cs_JT_43_NT (X : cx G "TextDesk$JoinedText" p s m args c cc nL) (hz : ct_z G A s) (hw : dw G.1 dk_cl A s.heap f H locs) (hls : ls.size = nL) {v1 : Value} {fs : List Value} (he : f b = some (.inr (1, fs))) (hc : cn l y_NT_get w_NT_get fr lo G f H.size [.ref b, v1] post mc ms) (hR : fr + 1 ≤ R.frames ∧ 8 + (2 + 11) + lo ≤ R.locals) (hf : cells + mc ≤ R.cells ∧ slots + ms ≤ R.slots) (hW : (rest.map fun v => v.category).sum ≤ 8) (hdg : decode cc pc = .ok (.invokevirtual 43, 3))
    (kk : ∀ (v : Option Value) (f' : dw_M) (H1 : Heap) (locs1 : List Loc), post v f' → dw G.1 dk_cl A s.heap f' H1 locs1 → H.size ≤ H1.size → (∀ q : Nat, q < H.size → ¬ dw_A f H.size q → H1[q]? = H[q]?) → (∀ q x, f' q = some x → dw_A f H.size q) → W p l e R s m args below meth c H1 locs1 (cells + mc) (slots + ms) Q (F0 m (pc + 3) ls (v.toList ++ rest))) : W p l e R s m args below meth c H locs cells slots Q (F0 m pc ls (v1 :: .ref b :: rest)) :=
  cn_call (va_runU (As := [v1]) (rest := rest) X.fix hc (va_cwA (x := ⟨"TextDesk$Text", "get", "(I)I"⟩) (owner := "TextDesk$Sequence") 1 X.hts (dk_gU mw_196 mw_197 mw_199 mw_145 mw_14 mw_146) rfl rfl rfl (X.E.2.2.2.2.1 ⟨"TextDesk$Sequence", "get", "(I)I"⟩ (by decide +kernel)) (by decide +kernel) hR) ⟨ct_blind _ _ _ _, va_recv X.K (hw.P1 he) (ci := 1) (q0 := 0) rfl rfl, ct_pre [.ref b, v1] X.E hz hw⟩ rfl rfl hls rfl (lv_room hW) hdg hf) hw kk
theorem cs_JT_43_WT (X : cx G "TextDesk$JoinedText" p s m args c cc nL) (hz : ct_z G A s) (hw : dw G.1 dk_cl A s.heap f H locs) (hls : ls.size = nL) {v1 : Value} {fs : List Value} (he : f b = some (.inr (2, fs))) (hc : cn l y_WT_get w_WT_get fr lo G f H.size [.ref b, v1] post mc ms) (hR : fr + 1 ≤ R.frames ∧ 8 + (2 + 11) + lo ≤ R.locals) (hf : cells + mc ≤ R.cells ∧ slots + ms ≤ R.slots) (hW : (rest.map fun v => v.category).sum ≤ 8) (hdg : decode cc pc = .ok (.invokevirtual 43, 3))
    (kk : ∀ (v : Option Value) (f' : dw_M) (H1 : Heap) (locs1 : List Loc), post v f' → dw G.1 dk_cl A s.heap f' H1 locs1 → H.size ≤ H1.size → (∀ q : Nat, q < H.size → ¬ dw_A f H.size q → H1[q]? = H[q]?) → (∀ q x, f' q = some x → dw_A f H.size q) → W p l e R s m args below meth c H1 locs1 (cells + mc) (slots + ms) Q (F0 m (pc + 3) ls (v.toList ++ rest))) : W p l e R s m args below meth c H locs cells slots Q (F0 m pc ls (v1 :: .ref b :: rest)) :=
  cn_call (va_runU (As := [v1]) (rest := rest) X.fix hc (va_cwA (x := ⟨"TextDesk$Text", "get", "(I)I"⟩) (owner := "TextDesk$Sequence") 1 X.hts (dk_gU mw_196 mw_197 mw_200 mw_149 mw_13 mw_150) rfl rfl rfl (X.E.2.2.2.2.1 ⟨"TextDesk$Sequence", "get", "(I)I"⟩ (by decide +kernel)) (by decide +kernel) hR) ⟨ct_blind _ _ _ _, va_recv X.K (hw.P1 he) (ci := 2) (q0 := 0) rfl rfl, ct_pre [.ref b, v1] X.E hz hw⟩ rfl rfl hls rfl (lv_room hW) hdg hf) hw kk
theorem gf_TX_7_NT (X : cx G "TextDesk$Text" p s m args c cc nL) (hw : dw G.1 dk_cl A H0 f H locs) {v0 v1 v2 : Value} (he : f a = some (.inr (1, [v0, v1, v2]))) (hdg : decode cc pc = .ok (.getfield 7, 3)) (kk : W p l e R s m args below meth c H locs cells slots Q (F0 m (pc + 3) ls (v0 :: rest))) : W p l e R s m args below meth c H locs cells slots Q (F0 m pc ls (.ref a :: rest)) :=
  dw_get (C := "TextDesk$NarrowText") (T := F_NT) (N := 3) X.1 X.2.1 X.hts i_NT X.own X.K hw he rfl 0 (by decide) (X.hts _ mw_171) (fun _ h9 => h9) rfl hdg kk
theorem gf_TX_7_WT (X : cx G "TextDesk$Text" p s m args c cc nL) (hw : dw G.1 dk_cl A H0 f H locs) {v0 v1 v2 : Value} (he : f a = some (.inr (2, [v0, v1, v2]))) (hdg : decode cc pc = .ok (.getfield 7, 3)) (kk : W p l e R s m args below meth c H locs cells slots Q (F0 m (pc + 3) ls (v0 :: rest))) : W p l e R s m args below meth c H locs cells slots Q (F0 m pc ls (.ref a :: rest)) :=
  dw_get (C := "TextDesk$WideText") (T := F_WT) (N := 3) X.1 X.2.1 X.hts i_WT X.own X.K hw he rfl 0 (by decide) (X.hts _ mw_171) (fun _ h9 => h9) rfl hdg kk
theorem gf_TX_7_JT (X : cx G "TextDesk$Text" p s m args c cc nL) (hw : dw G.1 dk_cl A H0 f H locs) {v0 v1 v2 v3 v4 : Value} (he : f a = some (.inr (3, [v0, v1, v2, v3, v4]))) (hdg : decode cc pc = .ok (.getfield 7, 3)) (kk : W p l e R s m args below meth c H locs cells slots Q (F0 m (pc + 3) ls (v0 :: rest))) : W p l e R s m args below meth c H locs cells slots Q (F0 m pc ls (.ref a :: rest)) :=
  dw_get (C := "TextDesk$JoinedText") (T := F_JT) (N := 5) X.1 X.2.1 X.hts i_JT X.own X.K hw he rfl 0 (by decide) (X.hts _ mw_171) (fun _ h9 => h9) rfl hdg kk
theorem cs_JT_47_JT (X : cx G "TextDesk$JoinedText" p s m args c cc nL) (hz : ct_z G A s) (hw : dw G.1 dk_cl A s.heap f H locs) (hls : ls.size = nL) {v1 : Value} {fs : List Value} (he : f b = some (.inr (3, fs))) (hc : cn l y_JT_pourInto w_JT_pourInto fr lo G f H.size [.ref b, v1] post mc ms) (hR : fr + 1 ≤ R.frames ∧ 8 + (2 + 11) + lo ≤ R.locals) (hf : cells + mc ≤ R.cells ∧ slots + ms ≤ R.slots) (hW : (rest.map fun v => v.category).sum ≤ 8) (hdg : decode cc pc = .ok (.invokevirtual 47, 3))
    (kk : ∀ (v : Option Value) (f' : dw_M) (H1 : Heap) (locs1 : List Loc), post v f' → dw G.1 dk_cl A s.heap f' H1 locs1 → H.size ≤ H1.size → (∀ q : Nat, q < H.size → ¬ dw_A f H.size q → H1[q]? = H[q]?) → (∀ q x, f' q = some x → dw_A f H.size q) → W p l e R s m args below meth c H1 locs1 (cells + mc) (slots + ms) Q (F0 m (pc + 3) ls (v.toList ++ rest))) : W p l e R s m args below meth c H locs cells slots Q (F0 m pc ls (v1 :: .ref b :: rest)) :=
  cn_call (va_runU (As := [v1]) (rest := rest) X.fix hc (va_cwO (x := ⟨"TextDesk$Text", "pourInto", "(LTextDesk$Row;)V"⟩) (owner := "TextDesk$Text") 1 X.hts (dk_gO mw_123 mw_125 mw_124 mw_126 mw_120 mw_16 mw_122) rfl rfl rfl mw_129 (by decide +kernel) hR) ⟨ct_blind _ _ _ _, va_recv X.K (hw.P1 he) (ci := 3) (q0 := 0) rfl rfl, ct_pre [.ref b, v1] X.E hz hw⟩ rfl rfl hls rfl (lv_room hW) hdg hf) hw kk
theorem cs_JT_47_NT (X : cx G "TextDesk$JoinedText" p s m args c cc nL) (hz : ct_z G A s) (hw : dw G.1 dk_cl A s.heap f H locs) (hls : ls.size = nL) {v1 : Value} {fs : List Value} (he : f b = some (.inr (1, fs))) (hc : cn l y_TX_pourInto w_TX_pourInto fr lo G f H.size [.ref b, v1] post mc ms) (hR : fr + 1 ≤ R.frames ∧ 8 + (2 + 11) + lo ≤ R.locals) (hf : cells + mc ≤ R.cells ∧ slots + ms ≤ R.slots) (hW : (rest.map fun v => v.category).sum ≤ 8) (hdg : decode cc pc = .ok (.invokevirtual 47, 3))
    (kk : ∀ (v : Option Value) (f' : dw_M) (H1 : Heap) (locs1 : List Loc), post v f' → dw G.1 dk_cl A s.heap f' H1 locs1 → H.size ≤ H1.size → (∀ q : Nat, q < H.size → ¬ dw_A f H.size q → H1[q]? = H[q]?) → (∀ q x, f' q = some x → dw_A f H.size q) → W p l e R s m args below meth c H1 locs1 (cells + mc) (slots + ms) Q (F0 m (pc + 3) ls (v.toList ++ rest))) : W p l e R s m args below meth c H locs cells slots Q (F0 m pc ls (v1 :: .ref b :: rest)) :=
  cn_call (va_runU (As := [v1]) (rest := rest) X.fix hc (va_cwU (x := ⟨"TextDesk$Text", "pourInto", "(LTextDesk$Row;)V"⟩) (owner := "TextDesk$Text") 1 X.hts (dk_gU mw_123 mw_125 mw_127 mw_124 mw_12 mw_129) rfl rfl rfl rfl (by decide +kernel) hR) ⟨ct_blind _ _ _ _, va_recv X.K (hw.P1 he) (ci := 1) (q0 := 0) rfl rfl, ct_pre [.ref b, v1] X.E hz hw⟩ rfl rfl hls rfl (lv_room hW) hdg hf) hw kk
theorem cs_JT_47_WT (X : cx G "TextDesk$JoinedText" p s m args c cc nL) (hz : ct_z G A s) (hw : dw G.1 dk_cl A s.heap f H locs) (hls : ls.size = nL) {v1 : Value} {fs : List Value} (he : f b = some (.inr (2, fs))) (hc : cn l y_TX_pourInto w_TX_pourInto fr lo G f H.size [.ref b, v1] post mc ms) (hR : fr + 1 ≤ R.frames ∧ 8 + (2 + 11) + lo ≤ R.locals) (hf : cells + mc ≤ R.cells ∧ slots + ms ≤ R.slots) (hW : (rest.map fun v => v.category).sum ≤ 8) (hdg : decode cc pc = .ok (.invokevirtual 47, 3))
    (kk : ∀ (v : Option Value) (f' : dw_M) (H1 : Heap) (locs1 : List Loc), post v f' → dw G.1 dk_cl A s.heap f' H1 locs1 → H.size ≤ H1.size → (∀ q : Nat, q < H.size → ¬ dw_A f H.size q → H1[q]? = H[q]?) → (∀ q x, f' q = some x → dw_A f H.size q) → W p l e R s m args below meth c H1 locs1 (cells + mc) (slots + ms) Q (F0 m (pc + 3) ls (v.toList ++ rest))) : W p l e R s m args below meth c H locs cells slots Q (F0 m pc ls (v1 :: .ref b :: rest)) :=
  cn_call (va_runU (As := [v1]) (rest := rest) X.fix hc (va_cwU (x := ⟨"TextDesk$Text", "pourInto", "(LTextDesk$Row;)V"⟩) (owner := "TextDesk$Text") 1 X.hts (dk_gU mw_123 mw_125 mw_128 mw_124 mw_12 mw_129) rfl rfl rfl rfl (by decide +kernel) hR) ⟨ct_blind _ _ _ _, va_recv X.K (hw.P1 he) (ci := 2) (q0 := 0) rfl rfl, ct_pre [.ref b, v1] X.E hz hw⟩ rfl rfl hls rfl (lv_room hW) hdg hf) hw kk
theorem gf_JT_15_JT (X : cx G "TextDesk$JoinedText" p s m args c cc nL) (hw : dw G.1 dk_cl A H0 f H locs) {v0 v1 v2 v3 v4 : Value} (he : f a = some (.inr (3, [v0, v1, v2, v3, v4]))) (hdg : decode cc pc = .ok (.getfield 15, 3)) (kk : W p l e R s m args below meth c H locs cells slots Q (F0 m (pc + 3) ls (v2 :: rest))) : W p l e R s m args below meth c H locs cells slots Q (F0 m pc ls (.ref a :: rest)) :=
  dw_get (C := "TextDesk$JoinedText") (T := F_JT) (N := 5) X.1 X.2.1 X.hts i_JT X.own X.K hw he rfl 2 (by decide) (X.hts _ mw_421) (fun _ h9 => h9) rfl hdg kk
theorem gf_JT_21_JT (X : cx G "TextDesk$JoinedText" p s m args c cc nL) (hw : dw G.1 dk_cl A H0 f H locs) {v0 v1 v2 v3 v4 : Value} (he : f a = some (.inr (3, [v0, v1, v2, v3, v4]))) (hdg : decode cc pc = .ok (.getfield 21, 3)) (kk : W p l e R s m args below meth c H locs cells slots Q (F0 m (pc + 3) ls (v3 :: rest))) : W p l e R s m args below meth c H locs cells slots Q (F0 m pc ls (.ref a :: rest)) :=
  dw_get (C := "TextDesk$JoinedText") (T := F_JT) (N := 5) X.1 X.2.1 X.hts i_JT X.own X.K hw he rfl 3 (by decide) (X.hts _ mw_422) (fun _ h9 => h9) rfl hdg kk
theorem cs_TX_17 (X : cx G "TextDesk$Text" p s m args c cc nL) (hz : ct_z G A s) (hw : dw G.1 dk_cl A s.heap f H locs) (hls : ls.size = nL) {v1 v2 v3 : Value} {fs : List Value} (he : f b = some (.inr (4, fs))) (hc : cn l y_RW_appendRange w_RW_appendRange fr lo G f H.size [.ref b, v1, v2, v3] post mc ms) (hR : fr + 1 ≤ R.frames ∧ 8 + (6 + 11) + lo ≤ R.locals) (hf : cells + mc ≤ R.cells ∧ slots + ms ≤ R.slots) (hW : (rest.map fun v => v.category).sum ≤ 8) (hdg : decode cc pc = .ok (.invokevirtual 17, 3))
    (kk : ∀ (v : Option Value) (f' : dw_M) (H1 : Heap) (locs1 : List Loc), post v f' → dw G.1 dk_cl A s.heap f' H1 locs1 → H.size ≤ H1.size → (∀ q : Nat, q < H.size → ¬ dw_A f H.size q → H1[q]? = H[q]?) → (∀ q x, f' q = some x → dw_A f H.size q) → W p l e R s m args below meth c H1 locs1 (cells + mc) (slots + ms) Q (F0 m (pc + 3) ls (v.toList ++ rest))) : W p l e R s m args below meth c H locs cells slots Q (F0 m pc ls (v3 :: v2 :: v1 :: .ref b :: rest)) :=
  cn_call (va_runV (As := [v1, v2, v3]) (rest := rest) X.fix hc (cwV 3 X.hts (dk_gV mw_130 mw_131 mw_132 mw_3 mw_133) rfl rfl rfl (by decide +kernel) hR) ⟨ct_blind _ _ _ _, va_recv X.K (hw.P1 he) (ci := 4) (q0 := 0) rfl rfl, ct_pre [.ref b, v1, v2, v3] X.E hz hw⟩ rfl rfl hls rfl (lv_room hW) hdg hf) hw kk
theorem cs_RW_29_JT (X : cx G "TextDesk$Row" p s m args c cc nL) (hz : ct_z G A s) (hw : dw G.1 dk_cl A s.heap f H locs) (hls : ls.size = nL) {fs : List Value} (he : f b = some (.inr (3, fs))) (hc : cn l y_TX_size w_TX_size fr lo G f H.size [.ref b] post mc ms) (hR : fr + 1 ≤ R.frames ∧ 8 + (1 + 11) + lo ≤ R.locals) (hf : cells + mc ≤ R.cells ∧ slots + ms ≤ R.slots) (hW : (rest.map fun v => v.category).sum ≤ 8) (hdg : decode cc pc = .ok (.invokevirtual 29, 3))
    (kk : ∀ (v : Option Value) (f' : dw_M) (H1 : Heap) (locs1 : List Loc), post v f' → dw G.1 dk_cl A s.heap f' H1 locs1 → H.size ≤ H1.size → (∀ q : Nat, q < H.size → ¬ dw_A f H.size q → H1[q]? = H[q]?) → (∀ q x, f' q = some x → dw_A f H.size q) → W p l e R s m args below meth c H1 locs1 (cells + mc) (slots + ms) Q (F0 m (pc + 3) ls (v.toList ++ rest))) : W p l e R s m args below meth c H locs cells slots Q (F0 m pc ls (.ref b :: rest)) :=
  cn_call (va_runU (As := []) (rest := rest) X.fix hc (va_cwA (x := ⟨"TextDesk$Sequence", "size", "()I"⟩) (owner := "TextDesk$Sequence") 0 X.hts (dk_gU mw_134 mw_136 mw_137 mw_116 mw_12 mw_117) rfl rfl rfl (X.E.2.2.2.2.1 ⟨"TextDesk$Sequence", "size", "()I"⟩ (by decide +kernel)) (by decide +kernel) hR) ⟨ct_blind _ _ _ _, va_recv X.K (hw.P1 he) (ci := 3) (q0 := 0) rfl rfl, ct_pre [.ref b] X.E hz hw⟩ rfl rfl hls rfl (lv_room hW) hdg hf) hw kk
theorem cs_RW_29_NT (X : cx G "TextDesk$Row" p s m args c cc nL) (hz : ct_z G A s) (hw : dw G.1 dk_cl A s.heap f H locs) (hls : ls.size = nL) {fs : List Value} (he : f b = some (.inr (1, fs))) (hc : cn l y_TX_size w_TX_size fr lo G f H.size [.ref b] post mc ms) (hR : fr + 1 ≤ R.frames ∧ 8 + (1 + 11) + lo ≤ R.locals) (hf : cells + mc ≤ R.cells ∧ slots + ms ≤ R.slots) (hW : (rest.map fun v => v.category).sum ≤ 8) (hdg : decode cc pc = .ok (.invokevirtual 29, 3))
    (kk : ∀ (v : Option Value) (f' : dw_M) (H1 : Heap) (locs1 : List Loc), post v f' → dw G.1 dk_cl A s.heap f' H1 locs1 → H.size ≤ H1.size → (∀ q : Nat, q < H.size → ¬ dw_A f H.size q → H1[q]? = H[q]?) → (∀ q x, f' q = some x → dw_A f H.size q) → W p l e R s m args below meth c H1 locs1 (cells + mc) (slots + ms) Q (F0 m (pc + 3) ls (v.toList ++ rest))) : W p l e R s m args below meth c H locs cells slots Q (F0 m pc ls (.ref b :: rest)) :=
  cn_call (va_runU (As := []) (rest := rest) X.fix hc (va_cwA (x := ⟨"TextDesk$Sequence", "size", "()I"⟩) (owner := "TextDesk$Sequence") 0 X.hts (dk_gU mw_134 mw_136 mw_138 mw_116 mw_12 mw_117) rfl rfl rfl (X.E.2.2.2.2.1 ⟨"TextDesk$Sequence", "size", "()I"⟩ (by decide +kernel)) (by decide +kernel) hR) ⟨ct_blind _ _ _ _, va_recv X.K (hw.P1 he) (ci := 1) (q0 := 0) rfl rfl, ct_pre [.ref b] X.E hz hw⟩ rfl rfl hls rfl (lv_room hW) hdg hf) hw kk
theorem cs_RW_29_RW (X : cx G "TextDesk$Row" p s m args c cc nL) (hz : ct_z G A s) (hw : dw G.1 dk_cl A s.heap f H locs) (hls : ls.size = nL) {fs : List Value} (he : f b = some (.inr (4, fs))) (hc : cn l y_RW_size w_RW_size fr lo G f H.size [.ref b] post mc ms) (hR : fr + 1 ≤ R.frames ∧ 8 + (1 + 11) + lo ≤ R.locals) (hf : cells + mc ≤ R.cells ∧ slots + ms ≤ R.slots) (hW : (rest.map fun v => v.category).sum ≤ 8) (hdg : decode cc pc = .ok (.invokevirtual 29, 3))
    (kk : ∀ (v : Option Value) (f' : dw_M) (H1 : Heap) (locs1 : List Loc), post v f' → dw G.1 dk_cl A s.heap f' H1 locs1 → H.size ≤ H1.size → (∀ q : Nat, q < H.size → ¬ dw_A f H.size q → H1[q]? = H[q]?) → (∀ q x, f' q = some x → dw_A f H.size q) → W p l e R s m args below meth c H1 locs1 (cells + mc) (slots + ms) Q (F0 m (pc + 3) ls (v.toList ++ rest))) : W p l e R s m args below meth c H locs cells slots Q (F0 m pc ls (.ref b :: rest)) :=
  cn_call (va_runU (As := []) (rest := rest) X.fix hc (va_cwA (x := ⟨"TextDesk$Sequence", "size", "()I"⟩) (owner := "TextDesk$Sequence") 0 X.hts (dk_gU mw_134 mw_136 mw_139 mw_99 mw_3 mw_101) rfl rfl rfl (X.E.2.2.2.2.1 ⟨"TextDesk$Sequence", "size", "()I"⟩ (by decide +kernel)) (by decide +kernel) hR) ⟨ct_blind _ _ _ _, va_recv X.K (hw.P1 he) (ci := 4) (q0 := 0) rfl rfl, ct_pre [.ref b] X.E hz hw⟩ rfl rfl hls rfl (lv_room hW) hdg hf) hw kk
theorem cs_RW_29_WT (X : cx G "TextDesk$Row" p s m args c cc nL) (hz : ct_z G A s) (hw : dw G.1 dk_cl A s.heap f H locs) (hls : ls.size = nL) {fs : List Value} (he : f b = some (.inr (2, fs))) (hc : cn l y_TX_size w_TX_size fr lo G f H.size [.ref b] post mc ms) (hR : fr + 1 ≤ R.frames ∧ 8 + (1 + 11) + lo ≤ R.locals) (hf : cells + mc ≤ R.cells ∧ slots + ms ≤ R.slots) (hW : (rest.map fun v => v.category).sum ≤ 8) (hdg : decode cc pc = .ok (.invokevirtual 29, 3))
    (kk : ∀ (v : Option Value) (f' : dw_M) (H1 : Heap) (locs1 : List Loc), post v f' → dw G.1 dk_cl A s.heap f' H1 locs1 → H.size ≤ H1.size → (∀ q : Nat, q < H.size → ¬ dw_A f H.size q → H1[q]? = H[q]?) → (∀ q x, f' q = some x → dw_A f H.size q) → W p l e R s m args below meth c H1 locs1 (cells + mc) (slots + ms) Q (F0 m (pc + 3) ls (v.toList ++ rest))) : W p l e R s m args below meth c H locs cells slots Q (F0 m pc ls (.ref b :: rest)) :=
  cn_call (va_runU (As := []) (rest := rest) X.fix hc (va_cwA (x := ⟨"TextDesk$Sequence", "size", "()I"⟩) (owner := "TextDesk$Sequence") 0 X.hts (dk_gU mw_134 mw_136 mw_140 mw_116 mw_12 mw_117) rfl rfl rfl (X.E.2.2.2.2.1 ⟨"TextDesk$Sequence", "size", "()I"⟩ (by decide +kernel)) (by decide +kernel) hR) ⟨ct_blind _ _ _ _, va_recv X.K (hw.P1 he) (ci := 2) (q0 := 0) rfl rfl, ct_pre [.ref b] X.E hz hw⟩ rfl rfl hls rfl (lv_room hW) hdg hf) hw kk
theorem cs_RW_35_JT (X : cx G "TextDesk$Row" p s m args c cc nL) (hz : ct_z G A s) (hw : dw G.1 dk_cl A s.heap f H locs) (hls : ls.size = nL) {v1 : Value} {fs : List Value} (he : f b = some (.inr (3, fs))) (hc : cn l y_JT_get w_JT_get fr lo G f H.size [.ref b, v1] post mc ms) (hR : fr + 1 ≤ R.frames ∧ 8 + (3 + 11) + lo ≤ R.locals) (hf : cells + mc ≤ R.cells ∧ slots + ms ≤ R.slots) (hW : (rest.map fun v => v.category).sum ≤ 8) (hdg : decode cc pc = .ok (.invokevirtual 35, 3))
    (kk : ∀ (v : Option Value) (f' : dw_M) (H1 : Heap) (locs1 : List Loc), post v f' → dw G.1 dk_cl A s.heap f' H1 locs1 → H.size ≤ H1.size → (∀ q : Nat, q < H.size → ¬ dw_A f H.size q → H1[q]? = H[q]?) → (∀ q x, f' q = some x → dw_A f H.size q) → W p l e R s m args below meth c H1 locs1 (cells + mc) (slots + ms) Q (F0 m (pc + 3) ls (v.toList ++ rest))) : W p l e R s m args below meth c H locs cells slots Q (F0 m pc ls (v1 :: .ref b :: rest)) :=
  cn_call (va_runU (As := [v1]) (rest := rest) X.fix hc (va_cwA (x := ⟨"TextDesk$Sequence", "get", "(I)I"⟩) (owner := "TextDesk$Sequence") 1 X.hts (dk_gU mw_144 mw_107 mw_108 mw_109 mw_16 mw_110) rfl rfl rfl (X.E.2.2.2.2.1 ⟨"TextDesk$Sequence", "get", "(I)I"⟩ (by decide +kernel)) (by decide +kernel) hR) ⟨ct_blind _ _ _ _, va_recv X.K (hw.P1 he) (ci := 3) (q0 := 0) rfl rfl, ct_pre [.ref b, v1] X.E hz hw⟩ rfl rfl hls rfl (lv_room hW) hdg hf) hw kk
theorem cs_RW_35_NT (X : cx G "TextDesk$Row" p s m args c cc nL) (hz : ct_z G A s) (hw : dw G.1 dk_cl A s.heap f H locs) (hls : ls.size = nL) {v1 : Value} {fs : List Value} (he : f b = some (.inr (1, fs))) (hc : cn l y_NT_get w_NT_get fr lo G f H.size [.ref b, v1] post mc ms) (hR : fr + 1 ≤ R.frames ∧ 8 + (2 + 11) + lo ≤ R.locals) (hf : cells + mc ≤ R.cells ∧ slots + ms ≤ R.slots) (hW : (rest.map fun v => v.category).sum ≤ 8) (hdg : decode cc pc = .ok (.invokevirtual 35, 3))
    (kk : ∀ (v : Option Value) (f' : dw_M) (H1 : Heap) (locs1 : List Loc), post v f' → dw G.1 dk_cl A s.heap f' H1 locs1 → H.size ≤ H1.size → (∀ q : Nat, q < H.size → ¬ dw_A f H.size q → H1[q]? = H[q]?) → (∀ q x, f' q = some x → dw_A f H.size q) → W p l e R s m args below meth c H1 locs1 (cells + mc) (slots + ms) Q (F0 m (pc + 3) ls (v.toList ++ rest))) : W p l e R s m args below meth c H locs cells slots Q (F0 m pc ls (v1 :: .ref b :: rest)) :=
  cn_call (va_runU (As := [v1]) (rest := rest) X.fix hc (va_cwA (x := ⟨"TextDesk$Sequence", "get", "(I)I"⟩) (owner := "TextDesk$Sequence") 1 X.hts (dk_gU mw_144 mw_107 mw_201 mw_145 mw_14 mw_146) rfl rfl rfl (X.E.2.2.2.2.1 ⟨"TextDesk$Sequence", "get", "(I)I"⟩ (by decide +kernel)) (by decide +kernel) hR) ⟨ct_blind _ _ _ _, va_recv X.K (hw.P1 he) (ci := 1) (q0 := 0) rfl rfl, ct_pre [.ref b, v1] X.E hz hw⟩ rfl rfl hls rfl (lv_room hW) hdg hf) hw kk
theorem cs_RW_35_RW (X : cx G "TextDesk$Row" p s m args c cc nL) (hz : ct_z G A s) (hw : dw G.1 dk_cl A s.heap f H locs) (hls : ls.size = nL) {v1 : Value} {fs : List Value} (he : f b = some (.inr (4, fs))) (hc : cn l y_RW_get w_RW_get fr lo G f H.size [.ref b, v1] post mc ms) (hR : fr + 1 ≤ R.frames ∧ 8 + (2 + 11) + lo ≤ R.locals) (hf : cells + mc ≤ R.cells ∧ slots + ms ≤ R.slots) (hW : (rest.map fun v => v.category).sum ≤ 8) (hdg : decode cc pc = .ok (.invokevirtual 35, 3))
    (kk : ∀ (v : Option Value) (f' : dw_M) (H1 : Heap) (locs1 : List Loc), post v f' → dw G.1 dk_cl A s.heap f' H1 locs1 → H.size ≤ H1.size → (∀ q : Nat, q < H.size → ¬ dw_A f H.size q → H1[q]? = H[q]?) → (∀ q x, f' q = some x → dw_A f H.size q) → W p l e R s m args below meth c H1 locs1 (cells + mc) (slots + ms) Q (F0 m (pc + 3) ls (v.toList ++ rest))) : W p l e R s m args below meth c H locs cells slots Q (F0 m pc ls (v1 :: .ref b :: rest)) :=
  cn_call (va_runU (As := [v1]) (rest := rest) X.fix hc (va_cwA (x := ⟨"TextDesk$Sequence", "get", "(I)I"⟩) (owner := "TextDesk$Sequence") 1 X.hts (dk_gU mw_144 mw_107 mw_202 mw_147 mw_3 mw_148) rfl rfl rfl (X.E.2.2.2.2.1 ⟨"TextDesk$Sequence", "get", "(I)I"⟩ (by decide +kernel)) (by decide +kernel) hR) ⟨ct_blind _ _ _ _, va_recv X.K (hw.P1 he) (ci := 4) (q0 := 0) rfl rfl, ct_pre [.ref b, v1] X.E hz hw⟩ rfl rfl hls rfl (lv_room hW) hdg hf) hw kk
theorem cs_RW_35_WT (X : cx G "TextDesk$Row" p s m args c cc nL) (hz : ct_z G A s) (hw : dw G.1 dk_cl A s.heap f H locs) (hls : ls.size = nL) {v1 : Value} {fs : List Value} (he : f b = some (.inr (2, fs))) (hc : cn l y_WT_get w_WT_get fr lo G f H.size [.ref b, v1] post mc ms) (hR : fr + 1 ≤ R.frames ∧ 8 + (2 + 11) + lo ≤ R.locals) (hf : cells + mc ≤ R.cells ∧ slots + ms ≤ R.slots) (hW : (rest.map fun v => v.category).sum ≤ 8) (hdg : decode cc pc = .ok (.invokevirtual 35, 3))
    (kk : ∀ (v : Option Value) (f' : dw_M) (H1 : Heap) (locs1 : List Loc), post v f' → dw G.1 dk_cl A s.heap f' H1 locs1 → H.size ≤ H1.size → (∀ q : Nat, q < H.size → ¬ dw_A f H.size q → H1[q]? = H[q]?) → (∀ q x, f' q = some x → dw_A f H.size q) → W p l e R s m args below meth c H1 locs1 (cells + mc) (slots + ms) Q (F0 m (pc + 3) ls (v.toList ++ rest))) : W p l e R s m args below meth c H locs cells slots Q (F0 m pc ls (v1 :: .ref b :: rest)) :=
  cn_call (va_runU (As := [v1]) (rest := rest) X.fix hc (va_cwA (x := ⟨"TextDesk$Sequence", "get", "(I)I"⟩) (owner := "TextDesk$Sequence") 1 X.hts (dk_gU mw_144 mw_107 mw_203 mw_149 mw_13 mw_150) rfl rfl rfl (X.E.2.2.2.2.1 ⟨"TextDesk$Sequence", "get", "(I)I"⟩ (by decide +kernel)) (by decide +kernel) hR) ⟨ct_blind _ _ _ _, va_recv X.K (hw.P1 he) (ci := 2) (q0 := 0) rfl rfl, ct_pre [.ref b, v1] X.E hz hw⟩ rfl rfl hls rfl (lv_room hW) hdg hf) hw kk
theorem cs_RW_39 (X : cx G "TextDesk$Row" p s m args c cc nL) (hz : ct_z G A s) (hw : dw G.1 dk_cl A s.heap f H locs) (hls : ls.size = nL) {v1 : Value} {fs : List Value} (he : f b = some (.inr (4, fs))) (hc : cn l y_RW_append w_RW_append fr lo G f H.size [.ref b, v1] post mc ms) (hR : fr + 1 ≤ R.frames ∧ 8 + (2 + 11) + lo ≤ R.locals) (hf : cells + mc ≤ R.cells ∧ slots + ms ≤ R.slots) (hW : (rest.map fun v => v.category).sum ≤ 8) (hdg : decode cc pc = .ok (.invokevirtual 39, 3))
    (kk : ∀ (v : Option Value) (f' : dw_M) (H1 : Heap) (locs1 : List Loc), post v f' → dw G.1 dk_cl A s.heap f' H1 locs1 → H.size ≤ H1.size → (∀ q : Nat, q < H.size → ¬ dw_A f H.size q → H1[q]? = H[q]?) → (∀ q x, f' q = some x → dw_A f H.size q) → W p l e R s m args below meth c H1 locs1 (cells + mc) (slots + ms) Q (F0 m (pc + 3) ls (v.toList ++ rest))) : W p l e R s m args below meth c H locs cells slots Q (F0 m pc ls (v1 :: .ref b :: rest)) :=
  cn_call (va_runV (As := [v1]) (rest := rest) X.fix hc (cwV 1 X.hts (dk_gV mw_151 mw_152 mw_153 mw_3 mw_154) rfl rfl rfl (by decide +kernel) hR) ⟨ct_blind _ _ _ _, va_recv X.K (hw.P1 he) (ci := 4) (q0 := 0) rfl rfl, ct_pre [.ref b, v1] X.E hz hw⟩ rfl rfl hls rfl (lv_room hW) hdg hf) hw kk
theorem gf_NT_15_NT (X : cx G "TextDesk$NarrowText" p s m args c cc nL) (hw : dw G.1 dk_cl A H0 f H locs) {v0 v1 v2 : Value} (he : f a = some (.inr (1, [v0, v1, v2]))) (hdg : decode cc pc = .ok (.getfield 15, 3)) (kk : W p l e R s m args below meth c H locs cells slots Q (F0 m (pc + 3) ls (v2 :: rest))) : W p l e R s m args below meth c H locs cells slots Q (F0 m pc ls (.ref a :: rest)) :=
  dw_get (C := "TextDesk$NarrowText") (T := F_NT) (N := 3) X.1 X.2.1 X.hts i_NT X.own X.K hw he rfl 2 (by decide) (X.hts _ mw_189) (fun _ h9 => h9) rfl hdg kk
theorem gf_RW_15_RW (X : cx G "TextDesk$Row" p s m args c cc nL) (hw : dw G.1 dk_cl A H0 f H locs) {v0 v1 v2 : Value} (he : f a = some (.inr (4, [v0, v1, v2]))) (hdg : decode cc pc = .ok (.getfield 15, 3)) (kk : W p l e R s m args below meth c H locs cells slots Q (F0 m (pc + 3) ls (v0 :: rest))) : W p l e R s m args below meth c H locs cells slots Q (F0 m pc ls (.ref a :: rest)) :=
  dw_get (C := "TextDesk$Row") (T := F_RW) (N := 3) X.1 X.2.1 X.hts i_RW X.own X.K hw he rfl 0 (by decide) (X.hts _ mw_41) (fun _ h9 => h9) rfl hdg kk
theorem gf_WT_15_WT (X : cx G "TextDesk$WideText" p s m args c cc nL) (hw : dw G.1 dk_cl A H0 f H locs) {v0 v1 v2 : Value} (he : f a = some (.inr (2, [v0, v1, v2]))) (hdg : decode cc pc = .ok (.getfield 15, 3)) (kk : W p l e R s m args below meth c H locs cells slots Q (F0 m (pc + 3) ls (v2 :: rest))) : W p l e R s m args below meth c H locs cells slots Q (F0 m pc ls (.ref a :: rest)) :=
  dw_get (C := "TextDesk$WideText") (T := F_WT) (N := 3) X.1 X.2.1 X.hts i_WT X.own X.K hw he rfl 2 (by decide) (X.hts _ mw_170) (fun _ h9 => h9) rfl hdg kk
theorem cs_DK_197 (X : cx G "TextDesk" p s m args c cc nL) (hz : ct_z G A s) (hw : dw G.1 dk_cl A s.heap f H locs) (hls : ls.size = nL) {v1 : Value} (hc : cn l y_WT_init w_WT_init fr lo G f H.size [.ref b, v1] post mc ms) (hR : fr + 1 ≤ R.frames ∧ 8 + (3 + 11) + lo ≤ R.locals) (hf : cells + mc ≤ R.cells ∧ slots + ms ≤ R.slots) (hW : (rest.map fun v => v.category).sum ≤ 8) (hdg : decode cc pc = .ok (.invokespecial 197, 3))
    (kk : ∀ (v : Option Value) (f' : dw_M) (H1 : Heap) (locs1 : List Loc), post v f' → dw G.1 dk_cl A s.heap f' H1 locs1 → H.size ≤ H1.size → (∀ q : Nat, q < H.size → ¬ dw_A f H.size q → H1[q]? = H[q]?) → (∀ q x, f' q = some x → dw_A f H.size q) → W p l e R s m args below meth c H1 locs1 (cells + mc) (slots + ms) Q (F0 m (pc + 3) ls (v.toList ++ rest))) : W p l e R s m args below meth c H locs cells slots Q (F0 m pc ls (v1 :: .ref b :: rest)) :=
  cn_call (va_runI (As := [v1]) (rest := rest) X.fix hc (cwI 1 X.hts (dk_goodc mw_163) rfl rfl rfl (X.hts _ mw_13) (X.hts _ mw_161) (X.hts _ mw_162) rfl (by decide +kernel) hR) ⟨ct_blind _ _ _ _, ct_pre [.ref b, v1] X.E hz hw⟩ rfl rfl hls rfl (lv_room hW) hdg hf) hw kk
theorem cs_DK_202 (X : cx G "TextDesk" p s m args c cc nL) (hz : ct_z G A s) (hw : dw G.1 dk_cl A s.heap f H locs) (hls : ls.size = nL) {v1 : Value} (hc : cn l y_NT_init w_NT_init fr lo G f H.size [.ref b, v1] post mc ms) (hR : fr + 1 ≤ R.frames ∧ 8 + (3 + 11) + lo ≤ R.locals) (hf : cells + mc ≤ R.cells ∧ slots + ms ≤ R.slots) (hW : (rest.map fun v => v.category).sum ≤ 8) (hdg : decode cc pc = .ok (.invokespecial 202, 3))
    (kk : ∀ (v : Option Value) (f' : dw_M) (H1 : Heap) (locs1 : List Loc), post v f' → dw G.1 dk_cl A s.heap f' H1 locs1 → H.size ≤ H1.size → (∀ q : Nat, q < H.size → ¬ dw_A f H.size q → H1[q]? = H[q]?) → (∀ q x, f' q = some x → dw_A f H.size q) → W p l e R s m args below meth c H1 locs1 (cells + mc) (slots + ms) Q (F0 m (pc + 3) ls (v.toList ++ rest))) : W p l e R s m args below meth c H locs cells slots Q (F0 m pc ls (v1 :: .ref b :: rest)) :=
  cn_call (va_runI (As := [v1]) (rest := rest) X.fix hc (cwI 1 X.hts (dk_goodc mw_185) rfl rfl rfl (X.hts _ mw_14) (X.hts _ mw_183) (X.hts _ mw_184) rfl (by decide +kernel) hR) ⟨ct_blind _ _ _ _, ct_pre [.ref b, v1] X.E hz hw⟩ rfl rfl hls rfl (lv_room hW) hdg hf) hw kk
theorem cs_WT_3 (X : cx G "TextDesk$WideText" p s m args c cc nL) (hz : ct_z G A s) (hw : dw G.1 dk_cl A s.heap f H locs) (hls : ls.size = nL) {fs : List Value} (he : f b = some (.inr (4, fs))) (hc : cn l y_RW_size w_RW_size fr lo G f H.size [.ref b] post mc ms) (hR : fr + 1 ≤ R.frames ∧ 8 + (1 + 11) + lo ≤ R.locals) (hf : cells + mc ≤ R.cells ∧ slots + ms ≤ R.slots) (hW : (rest.map fun v => v.category).sum ≤ 8) (hdg : decode cc pc = .ok (.invokevirtual 3, 3))
    (kk : ∀ (v : Option Value) (f' : dw_M) (H1 : Heap) (locs1 : List Loc), post v f' → dw G.1 dk_cl A s.heap f' H1 locs1 → H.size ≤ H1.size → (∀ q : Nat, q < H.size → ¬ dw_A f H.size q → H1[q]? = H[q]?) → (∀ q x, f' q = some x → dw_A f H.size q) → W p l e R s m args below meth c H1 locs1 (cells + mc) (slots + ms) Q (F0 m (pc + 3) ls (v.toList ++ rest))) : W p l e R s m args below meth c H locs cells slots Q (F0 m pc ls (.ref b :: rest)) :=
  cn_call (va_runV (As := []) (rest := rest) X.fix hc (cwV 0 X.hts (dk_gV mw_164 mw_99 mw_100 mw_3 mw_101) rfl rfl rfl (by decide +kernel) hR) ⟨ct_blind _ _ _ _, va_recv X.K (hw.P1 he) (ci := 4) (q0 := 0) rfl rfl, ct_pre [.ref b] X.E hz hw⟩ rfl rfl hls rfl (lv_room hW) hdg hf) hw kk
theorem cs_WT_9 (X : cx G "TextDesk$WideText" p s m args c cc nL) (hz : ct_z G A s) (hw : dw G.1 dk_cl A s.heap f H locs) (hls : ls.size = nL) {v1 v2 : Value} (hc : cn l y_TX_init w_TX_init fr lo G f H.size [.ref b, v1, v2] post mc ms) (hR : fr + 1 ≤ R.frames ∧ 8 + (3 + 11) + lo ≤ R.locals) (hf : cells + mc ≤ R.cells ∧ slots + ms ≤ R.slots) (hW : (rest.map fun v => v.category).sum ≤ 8) (hdg : decode cc pc = .ok (.invokespecial 9, 3))
    (kk : ∀ (v : Option Value) (f' : dw_M) (H1 : Heap) (locs1 : List Loc), post v f' → dw G.1 dk_cl A s.heap f' H1 locs1 → H.size ≤ H1.size → (∀ q : Nat, q < H.size → ¬ dw_A f H.size q → H1[q]? = H[q]?) → (∀ q x, f' q = some x → dw_A f H.size q) → W p l e R s m args below meth c H1 locs1 (cells + mc) (slots + ms) Q (F0 m (pc + 3) ls (v.toList ++ rest))) : W p l e R s m args below meth c H locs cells slots Q (F0 m pc ls (v2 :: v1 :: .ref b :: rest)) :=
  cn_call (va_runI (As := [v1, v2]) (rest := rest) X.fix hc (cwI 2 X.hts (dk_goodc mw_167) rfl rfl rfl (X.hts _ mw_12) (X.hts _ mw_165) (X.hts _ mw_166) rfl (by decide +kernel) hR) ⟨ct_blind _ _ _ _, ct_pre [.ref b, v1, v2] X.E hz hw⟩ rfl rfl hls rfl (lv_room hW) hdg hf) hw kk
theorem pf_WT_15_WT (X : cx G "TextDesk$WideText" p s m args c cc nL) (hin : meth.name = "<init>") (hw : dw G.1 dk_cl A H0 f H locs) {v0 v1 v2 v : Value} (he : f a = some (.inr (2, [v0, v1, v2]))) (hn : narrow (.array .char) v = v) (hfit : fits (.array .char) v = true) (hdg : decode cc pc = .ok (.putfield 15, 3)) (kk : ∀ (H1 : Heap) (locs1 : List Loc), dw G.1 dk_cl A H0 (dw_up f a (.inr (2, [v0, v1, v]))) H1 locs1 → W p l e R s m args below meth c H1 locs1 cells slots Q (F0 m (pc + 3) ls rest)) : W p l e R s m args below meth c H locs cells slots Q (F0 m pc ls (v :: .ref a :: rest)) :=
  dw_putF (C := "TextDesk$WideText") (T := F_WT) (N := 3) X.1 X.2.1 X.hts i_WT t_WT t_WT_ok n_WT X.own X.K hw he rfl 2 (by decide) (X.hts _ mw_170) (fun _ h9 => h9) rfl hin rfl (ty := .array .char) (by decide +kernel) hn hfit (Nat.le_of_ble_eq_true rfl) hdg kk
theorem cs_WT_21 (X : cx G "TextDesk$WideText" p s m args c cc nL) (hz : ct_z G A s) (hw : dw G.1 dk_cl A s.heap f H locs) (hls : ls.size = nL) {v1 : Value} {fs : List Value} (he : f b = some (.inr (4, fs))) (hc : cn l y_RW_get w_RW_get fr lo G f H.size [.ref b, v1] post mc ms) (hR : fr + 1 ≤ R.frames ∧ 8 + (2 + 11) + lo ≤ R.locals) (hf : cells + mc ≤ R.cells ∧ slots + ms ≤ R.slots) (hW : (rest.map fun v => v.category).sum ≤ 8) (hdg : decode cc pc = .ok (.invokevirtual 21, 3))
    (kk : ∀ (v : Option Value) (f' : dw_M) (H1 : Heap) (locs1 : List Loc), post v f' → dw G.1 dk_cl A s.heap f' H1 locs1 → H.size ≤ H1.size → (∀ q : Nat, q < H.size → ¬ dw_A f H.size q → H1[q]? = H[q]?) → (∀ q x, f' q = some x → dw_A f H.size q) → W p l e R s m args below meth c H1 locs1 (cells + mc) (slots + ms) Q (F0 m (pc + 3) ls (v.toList ++ rest))) : W p l e R s m args below meth c H locs cells slots Q (F0 m pc ls (v1 :: .ref b :: rest)) :=
  cn_call (va_runV (As := [v1]) (rest := rest) X.fix hc (cwV 1 X.hts (dk_gV mw_169 mw_147 mw_880 mw_3 mw_148) rfl rfl rfl (by decide +kernel) hR) ⟨ct_blind _ _ _ _, va_recv X.K (hw.P1 he) (ci := 4) (q0 := 0) rfl rfl, ct_pre [.ref b, v1] X.E hz hw⟩ rfl rfl hls rfl (lv_room hW) hdg hf) hw kk
theorem cs_TX_1 (X : cx G "TextDesk$Text" p s m args c cc nL) (hz : ct_z G A s) (hw : dw G.1 dk_cl A s.heap f H locs) (hls : ls.size = nL) (hc : cn l y_SQ_init w_SQ_init fr lo G f H.size [.ref b] post mc ms) (hR : fr + 1 ≤ R.frames ∧ 8 + (1 + 11) + lo ≤ R.locals) (hf : cells + mc ≤ R.cells ∧ slots + ms ≤ R.slots) (hW : (rest.map fun v => v.category).sum ≤ 8) (hdg : decode cc pc = .ok (.invokespecial 1, 3))
    (kk : ∀ (v : Option Value) (f' : dw_M) (H1 : Heap) (locs1 : List Loc), post v f' → dw G.1 dk_cl A s.heap f' H1 locs1 → H.size ≤ H1.size → (∀ q : Nat, q < H.size → ¬ dw_A f H.size q → H1[q]? = H[q]?) → (∀ q x, f' q = some x → dw_A f H.size q) → W p l e R s m args below meth c H1 locs1 (cells + mc) (slots + ms) Q (F0 m (pc + 3) ls (v.toList ++ rest))) : W p l e R s m args below meth c H locs cells slots Q (F0 m pc ls (.ref b :: rest)) :=
  cn_call (va_runIN (As := []) (rest := rest) X.fix hc ⟨va_cnB (host := "TextDesk") 0 X.hts (dk_goodc mw_36) rfl rfl rfl (X.E.2.2.2.1 ("TextDesk$Text", 1, ⟨"TextDesk$Sequence", "<init>", "()V"⟩, "TextDesk") (by decide +kernel)) (X.hts _ mw_2) (by decide +kernel) hR, rfl, X.hts _ mw_35⟩ ⟨ct_blind _ _ _ _, ct_pre [.ref b] X.E hz hw⟩ rfl rfl hls rfl (lv_room hW) hdg hf) hw kk
theorem pf_TX_7_NT (X : cx G "TextDesk$Text" p s m args c cc nL) (hin : meth.name = "<init>") (hw : dw G.1 dk_cl A H0 f H locs) {v0 v1 v2 v : Value} (he : f a = some (.inr (1, [v0, v1, v2]))) (hn : narrow (.int) v = v) (hfit : fits (.int) v = true) (hdg : decode cc pc = .ok (.putfield 7, 3)) (kk : ∀ (H1 : Heap) (locs1 : List Loc), dw G.1 dk_cl A H0 (dw_up f a (.inr (1, [v, v1, v2]))) H1 locs1 → W p l e R s m args below meth c H1 locs1 cells slots Q (F0 m (pc + 3) ls rest)) : W p l e R s m args below meth c H locs cells slots Q (F0 m pc ls (v :: .ref a :: rest)) :=
  dw_putF (C := "TextDesk$NarrowText") (T := F_NT) (N := 3) X.1 X.2.1 X.hts i_NT t_NT t_NT_ok n_NT X.own X.K hw he rfl 0 (by decide) (X.hts _ mw_171) (fun _ h9 => h9) rfl hin rfl (ty := .int) (by decide +kernel) hn hfit (Nat.le_of_ble_eq_true rfl) hdg kk
theorem pf_TX_7_WT (X : cx G "TextDesk$Text" p s m args c cc nL) (hin : meth.name = "<init>") (hw : dw G.1 dk_cl A H0 f H locs) {v0 v1 v2 v : Value} (he : f a = some (.inr (2, [v0, v1, v2]))) (hn : narrow (.int) v = v) (hfit : fits (.int) v = true) (hdg : decode cc pc = .ok (.putfield 7, 3)) (kk : ∀ (H1 : Heap) (locs1 : List Loc), dw G.1 dk_cl A H0 (dw_up f a (.inr (2, [v, v1, v2]))) H1 locs1 → W p l e R s m args below meth c H1 locs1 cells slots Q (F0 m (pc + 3) ls rest)) : W p l e R s m args below meth c H locs cells slots Q (F0 m pc ls (v :: .ref a :: rest)) :=
  dw_putF (C := "TextDesk$WideText") (T := F_WT) (N := 3) X.1 X.2.1 X.hts i_WT t_WT t_WT_ok n_WT X.own X.K hw he rfl 0 (by decide) (X.hts _ mw_171) (fun _ h9 => h9) rfl hin rfl (ty := .int) (by decide +kernel) hn hfit (Nat.le_of_ble_eq_true rfl) hdg kk
theorem pf_TX_7_JT (X : cx G "TextDesk$Text" p s m args c cc nL) (hin : meth.name = "<init>") (hw : dw G.1 dk_cl A H0 f H locs) {v0 v1 v2 v3 v4 v : Value} (he : f a = some (.inr (3, [v0, v1, v2, v3, v4]))) (hn : narrow (.int) v = v) (hfit : fits (.int) v = true) (hdg : decode cc pc = .ok (.putfield 7, 3)) (kk : ∀ (H1 : Heap) (locs1 : List Loc), dw G.1 dk_cl A H0 (dw_up f a (.inr (3, [v, v1, v2, v3, v4]))) H1 locs1 → W p l e R s m args below meth c H1 locs1 cells slots Q (F0 m (pc + 3) ls rest)) : W p l e R s m args below meth c H locs cells slots Q (F0 m pc ls (v :: .ref a :: rest)) :=
  dw_putF (C := "TextDesk$JoinedText") (T := F_JT) (N := 5) X.1 X.2.1 X.hts i_JT t_JT t_JT_ok n_JT X.own X.K hw he rfl 0 (by decide) (X.hts _ mw_171) (fun _ h9 => h9) rfl hin rfl (ty := .int) (by decide +kernel) hn hfit (Nat.le_of_ble_eq_true rfl) hdg kk
theorem pf_TX_13_NT (X : cx G "TextDesk$Text" p s m args c cc nL) (hin : meth.name = "<init>") (hw : dw G.1 dk_cl A H0 f H locs) {v0 v1 v2 v : Value} (he : f a = some (.inr (1, [v0, v1, v2]))) (hn : narrow (.boolean) v = v) (hfit : fits (.boolean) v = true) (hdg : decode cc pc = .ok (.putfield 13, 3)) (kk : ∀ (H1 : Heap) (locs1 : List Loc), dw G.1 dk_cl A H0 (dw_up f a (.inr (1, [v0, v, v2]))) H1 locs1 → W p l e R s m args below meth c H1 locs1 cells slots Q (F0 m (pc + 3) ls rest)) : W p l e R s m args below meth c H locs cells slots Q (F0 m pc ls (v :: .ref a :: rest)) :=
  dw_putF (C := "TextDesk$NarrowText") (T := F_NT) (N := 3) X.1 X.2.1 X.hts i_NT t_NT t_NT_ok n_NT X.own X.K hw he rfl 1 (by decide) (X.hts _ mw_172) (fun _ h9 => h9) rfl hin rfl (ty := .boolean) (by decide +kernel) hn hfit (Nat.le_of_ble_eq_true rfl) hdg kk
theorem pf_TX_13_WT (X : cx G "TextDesk$Text" p s m args c cc nL) (hin : meth.name = "<init>") (hw : dw G.1 dk_cl A H0 f H locs) {v0 v1 v2 v : Value} (he : f a = some (.inr (2, [v0, v1, v2]))) (hn : narrow (.boolean) v = v) (hfit : fits (.boolean) v = true) (hdg : decode cc pc = .ok (.putfield 13, 3)) (kk : ∀ (H1 : Heap) (locs1 : List Loc), dw G.1 dk_cl A H0 (dw_up f a (.inr (2, [v0, v, v2]))) H1 locs1 → W p l e R s m args below meth c H1 locs1 cells slots Q (F0 m (pc + 3) ls rest)) : W p l e R s m args below meth c H locs cells slots Q (F0 m pc ls (v :: .ref a :: rest)) :=
  dw_putF (C := "TextDesk$WideText") (T := F_WT) (N := 3) X.1 X.2.1 X.hts i_WT t_WT t_WT_ok n_WT X.own X.K hw he rfl 1 (by decide) (X.hts _ mw_172) (fun _ h9 => h9) rfl hin rfl (ty := .boolean) (by decide +kernel) hn hfit (Nat.le_of_ble_eq_true rfl) hdg kk
theorem pf_TX_13_JT (X : cx G "TextDesk$Text" p s m args c cc nL) (hin : meth.name = "<init>") (hw : dw G.1 dk_cl A H0 f H locs) {v0 v1 v2 v3 v4 v : Value} (he : f a = some (.inr (3, [v0, v1, v2, v3, v4]))) (hn : narrow (.boolean) v = v) (hfit : fits (.boolean) v = true) (hdg : decode cc pc = .ok (.putfield 13, 3)) (kk : ∀ (H1 : Heap) (locs1 : List Loc), dw G.1 dk_cl A H0 (dw_up f a (.inr (3, [v0, v, v2, v3, v4]))) H1 locs1 → W p l e R s m args below meth c H1 locs1 cells slots Q (F0 m (pc + 3) ls rest)) : W p l e R s m args below meth c H locs cells slots Q (F0 m pc ls (v :: .ref a :: rest)) :=
  dw_putF (C := "TextDesk$JoinedText") (T := F_JT) (N := 5) X.1 X.2.1 X.hts i_JT t_JT t_JT_ok n_JT X.own X.K hw he rfl 1 (by decide) (X.hts _ mw_172) (fun _ h9 => h9) rfl hin rfl (ty := .boolean) (by decide +kernel) hn hfit (Nat.le_of_ble_eq_true rfl) hdg kk
theorem cs_NT_3 (X : cx G "TextDesk$NarrowText" p s m args c cc nL) (hz : ct_z G A s) (hw : dw G.1 dk_cl A s.heap f H locs) (hls : ls.size = nL) {fs : List Value} (he : f b = some (.inr (4, fs))) (hc : cn l y_RW_size w_RW_size fr lo G f H.size [.ref b] post mc ms) (hR : fr + 1 ≤ R.frames ∧ 8 + (1 + 11) + lo ≤ R.locals) (hf : cells + mc ≤ R.cells ∧ slots + ms ≤ R.slots) (hW : (rest.map fun v => v.category).sum ≤ 8) (hdg : decode cc pc = .ok (.invokevirtual 3, 3))
    (kk : ∀ (v : Option Value) (f' : dw_M) (H1 : Heap) (locs1 : List Loc), post v f' → dw G.1 dk_cl A s.heap f' H1 locs1 → H.size ≤ H1.size → (∀ q : Nat, q < H.size → ¬ dw_A f H.size q → H1[q]? = H[q]?) → (∀ q x, f' q = some x → dw_A f H.size q) → W p l e R s m args below meth c H1 locs1 (cells + mc) (slots + ms) Q (F0 m (pc + 3) ls (v.toList ++ rest))) : W p l e R s m args below meth c H locs cells slots Q (F0 m pc ls (.ref b :: rest)) :=
  cn_call (va_runV (As := []) (rest := rest) X.fix hc (cwV 0 X.hts (dk_gV mw_186 mw_99 mw_100 mw_3 mw_101) rfl rfl rfl (by decide +kernel) hR) ⟨ct_blind _ _ _ _, va_recv X.K (hw.P1 he) (ci := 4) (q0 := 0) rfl rfl, ct_pre [.ref b] X.E hz hw⟩ rfl rfl hls rfl (lv_room hW) hdg hf) hw kk
theorem cs_NT_9 (X : cx G "TextDesk$NarrowText" p s m args c cc nL) (hz : ct_z G A s) (hw : dw G.1 dk_cl A s.heap f H locs) (hls : ls.size = nL) {v1 v2 : Value} (hc : cn l y_TX_init w_TX_init fr lo G f H.size [.ref b, v1, v2] post mc ms) (hR : fr + 1 ≤ R.frames ∧ 8 + (3 + 11) + lo ≤ R.locals) (hf : cells + mc ≤ R.cells ∧ slots + ms ≤ R.slots) (hW : (rest.map fun v => v.category).sum ≤ 8) (hdg : decode cc pc = .ok (.invokespecial 9, 3))
    (kk : ∀ (v : Option Value) (f' : dw_M) (H1 : Heap) (locs1 : List Loc), post v f' → dw G.1 dk_cl A s.heap f' H1 locs1 → H.size ≤ H1.size → (∀ q : Nat, q < H.size → ¬ dw_A f H.size q → H1[q]? = H[q]?) → (∀ q x, f' q = some x → dw_A f H.size q) → W p l e R s m args below meth c H1 locs1 (cells + mc) (slots + ms) Q (F0 m (pc + 3) ls (v.toList ++ rest))) : W p l e R s m args below meth c H locs cells slots Q (F0 m pc ls (v2 :: v1 :: .ref b :: rest)) :=
  cn_call (va_runI (As := [v1, v2]) (rest := rest) X.fix hc (cwI 2 X.hts (dk_goodc mw_167) rfl rfl rfl (X.hts _ mw_12) (X.hts _ mw_187) (X.hts _ mw_166) rfl (by decide +kernel) hR) ⟨ct_blind _ _ _ _, ct_pre [.ref b, v1, v2] X.E hz hw⟩ rfl rfl hls rfl (lv_room hW) hdg hf) hw kk
theorem pf_NT_15_NT (X : cx G "TextDesk$NarrowText" p s m args c cc nL) (hin : meth.name = "<init>") (hw : dw G.1 dk_cl A H0 f H locs) {v0 v1 v2 v : Value} (he : f a = some (.inr (1, [v0, v1, v2]))) (hn : narrow (.array .byte) v = v) (hfit : fits (.array .byte) v = true) (hdg : decode cc pc = .ok (.putfield 15, 3)) (kk : ∀ (H1 : Heap) (locs1 : List Loc), dw G.1 dk_cl A H0 (dw_up f a (.inr (1, [v0, v1, v]))) H1 locs1 → W p l e R s m args below meth c H1 locs1 cells slots Q (F0 m (pc + 3) ls rest)) : W p l e R s m args below meth c H locs cells slots Q (F0 m pc ls (v :: .ref a :: rest)) :=
  dw_putF (C := "TextDesk$NarrowText") (T := F_NT) (N := 3) X.1 X.2.1 X.hts i_NT t_NT t_NT_ok n_NT X.own X.K hw he rfl 2 (by decide) (X.hts _ mw_189) (fun _ h9 => h9) rfl hin rfl (ty := .array .byte) (by decide +kernel) hn hfit (Nat.le_of_ble_eq_true rfl) hdg kk
theorem cs_NT_21 (X : cx G "TextDesk$NarrowText" p s m args c cc nL) (hz : ct_z G A s) (hw : dw G.1 dk_cl A s.heap f H locs) (hls : ls.size = nL) {v1 : Value} {fs : List Value} (he : f b = some (.inr (4, fs))) (hc : cn l y_RW_get w_RW_get fr lo G f H.size [.ref b, v1] post mc ms) (hR : fr + 1 ≤ R.frames ∧ 8 + (2 + 11) + lo ≤ R.locals) (hf : cells + mc ≤ R.cells ∧ slots + ms ≤ R.slots) (hW : (rest.map fun v => v.category).sum ≤ 8) (hdg : decode cc pc = .ok (.invokevirtual 21, 3))
    (kk : ∀ (v : Option Value) (f' : dw_M) (H1 : Heap) (locs1 : List Loc), post v f' → dw G.1 dk_cl A s.heap f' H1 locs1 → H.size ≤ H1.size → (∀ q : Nat, q < H.size → ¬ dw_A f H.size q → H1[q]? = H[q]?) → (∀ q x, f' q = some x → dw_A f H.size q) → W p l e R s m args below meth c H1 locs1 (cells + mc) (slots + ms) Q (F0 m (pc + 3) ls (v.toList ++ rest))) : W p l e R s m args below meth c H locs cells slots Q (F0 m pc ls (v1 :: .ref b :: rest)) :=
  cn_call (va_runV (As := [v1]) (rest := rest) X.fix hc (cwV 1 X.hts (dk_gV mw_188 mw_147 mw_880 mw_3 mw_148) rfl rfl rfl (by decide +kernel) hR) ⟨ct_blind _ _ _ _, va_recv X.K (hw.P1 he) (ci := 4) (q0 := 0) rfl rfl, ct_pre [.ref b, v1] X.E hz hw⟩ rfl rfl hls rfl (lv_room hW) hdg hf) hw kk
theorem gf_DK_11_DK (X : cx G "TextDesk" p s m args c cc nL) (hw : dw G.1 dk_cl A H0 f H locs) {v0 v1 v2 v3 v4 v5 v6 v7 : Value} (he : f a = some (.inr (5, [v0, v1, v2, v3, v4, v5, v6, v7]))) (hdg : decode cc pc = .ok (.getfield 11, 3)) (kk : W p l e R s m args below meth c H locs cells slots Q (F0 m (pc + 3) ls (v0 :: rest))) : W p l e R s m args below meth c H locs cells slots Q (F0 m pc ls (.ref a :: rest)) :=
  dw_get (C := "TextDesk") (T := F_DK) (N := 8) X.1 X.2.1 X.hts i_DK X.own X.K hw he rfl 0 (by decide) (X.hts _ mw_65) (fun _ h9 => h9) rfl hdg kk
theorem pf_DK_173_DK (X : cx G "TextDesk" p s m args c cc nL) (hw : dw G.1 dk_cl A H0 f H locs) {v0 v1 v2 v3 v4 v5 v6 v7 v : Value} (he : f a = some (.inr (5, [v0, v1, v2, v3, v4, v5, v6, v7]))) (hn : narrow (.int) v = v) (hfit : fits (.int) v = true) (hdg : decode cc pc = .ok (.putfield 173, 3)) (kk : ∀ (H1 : Heap) (locs1 : List Loc), dw G.1 dk_cl A H0 (dw_up f a (.inr (5, [v0, v, v2, v3, v4, v5, v6, v7]))) H1 locs1 → W p l e R s m args below meth c H1 locs1 cells slots Q (F0 m (pc + 3) ls rest)) : W p l e R s m args below meth c H locs cells slots Q (F0 m pc ls (v :: .ref a :: rest)) :=
  dw_put (C := "TextDesk") (T := F_DK) (N := 8) X.1 X.2.1 X.hts i_DK t_DK t_DK_ok n_DK X.own X.K hw he rfl 1 (by decide) (X.hts _ mw_66) (fun _ h9 => h9) rfl (ty := .int) (by decide +kernel) hn hfit (Nat.le_of_ble_eq_true rfl) hdg kk
theorem gf_DK_15_DK (X : cx G "TextDesk" p s m args c cc nL) (hw : dw G.1 dk_cl A H0 f H locs) {v0 v1 v2 v3 v4 v5 v6 v7 : Value} (he : f a = some (.inr (5, [v0, v1, v2, v3, v4, v5, v6, v7]))) (hdg : decode cc pc = .ok (.getfield 15, 3)) (kk : W p l e R s m args below meth c H locs cells slots Q (F0 m (pc + 3) ls (v2 :: rest))) : W p l e R s m args below meth c H locs cells slots Q (F0 m pc ls (.ref a :: rest)) :=
  dw_get (C := "TextDesk") (T := F_DK) (N := 8) X.1 X.2.1 X.hts i_DK X.own X.K hw he rfl 2 (by decide) (X.hts _ mw_67) (fun _ h9 => h9) rfl hdg kk
theorem pf_DK_145_DK (X : cx G "TextDesk" p s m args c cc nL) (hw : dw G.1 dk_cl A H0 f H locs) {v0 v1 v2 v3 v4 v5 v6 v7 v : Value} (he : f a = some (.inr (5, [v0, v1, v2, v3, v4, v5, v6, v7]))) (hn : narrow (.int) v = v) (hfit : fits (.int) v = true) (hdg : decode cc pc = .ok (.putfield 145, 3)) (kk : ∀ (H1 : Heap) (locs1 : List Loc), dw G.1 dk_cl A H0 (dw_up f a (.inr (5, [v0, v1, v2, v, v4, v5, v6, v7]))) H1 locs1 → W p l e R s m args below meth c H1 locs1 cells slots Q (F0 m (pc + 3) ls rest)) : W p l e R s m args below meth c H locs cells slots Q (F0 m pc ls (v :: .ref a :: rest)) :=
  dw_put (C := "TextDesk") (T := F_DK) (N := 8) X.1 X.2.1 X.hts i_DK t_DK t_DK_ok n_DK X.own X.K hw he rfl 3 (by decide) (X.hts _ mw_68) (fun _ h9 => h9) rfl (ty := .int) (by decide +kernel) hn hfit (Nat.le_of_ble_eq_true rfl) hdg kk
theorem cs_DK_48 (X : cx G "TextDesk" p s m args c cc nL) (hz : ct_z G A s) (hw : dw G.1 dk_cl A s.heap f H locs) (hls : ls.size = nL) {fs : List Value} (he : f b = some (.inr (4, fs))) (hc : cn l y_RW_isFull w_RW_isFull fr lo G f H.size [.ref b] post mc ms) (hR : fr + 1 ≤ R.frames ∧ 8 + (1 + 11) + lo ≤ R.locals) (hf : cells + mc ≤ R.cells ∧ slots + ms ≤ R.slots) (hW : (rest.map fun v => v.category).sum ≤ 8) (hdg : decode cc pc = .ok (.invokevirtual 48, 3))
    (kk : ∀ (v : Option Value) (f' : dw_M) (H1 : Heap) (locs1 : List Loc), post v f' → dw G.1 dk_cl A s.heap f' H1 locs1 → H.size ≤ H1.size → (∀ q : Nat, q < H.size → ¬ dw_A f H.size q → H1[q]? = H[q]?) → (∀ q x, f' q = some x → dw_A f H.size q) → W p l e R s m args below meth c H1 locs1 (cells + mc) (slots + ms) Q (F0 m (pc + 3) ls (v.toList ++ rest))) : W p l e R s m args below meth c H locs cells slots Q (F0 m pc ls (.ref b :: rest)) :=
  cn_call (va_runV (As := []) (rest := rest) X.fix hc (cwV 0 X.hts (dk_gV mw_300 mw_301 mw_302 mw_3 mw_303) rfl rfl rfl (by decide +kernel) hR) ⟨ct_blind _ _ _ _, va_recv X.K (hw.P1 he) (ci := 4) (q0 := 0) rfl rfl, ct_pre [.ref b] X.E hz hw⟩ rfl rfl hls rfl (lv_room hW) hdg hf) hw kk
theorem cs_DK_64 (X : cx G "TextDesk" p s m args c cc nL) (hz : ct_z G A s) (hw : dw G.1 dk_cl A s.heap f H locs) (hls : ls.size = nL) {v1 : Value} {fs : List Value} (he : f b = some (.inr (5, fs))) (hc : ct l y_DK_textNumbered w_DK_textNumbered fr lo G f H.size [.ref b, v1] post px mc ms) (hR : fr + 1 ≤ R.frames ∧ 8 + (2 + 11) + lo ≤ R.locals) (hf : cells + mc ≤ R.cells ∧ slots + ms ≤ R.slots) (hW : (rest.map fun v => v.category).sum ≤ 8) (hdg : decode cc pc = .ok (.invokevirtual 64, 3))
    (kx : ∀ (E : String) (ce : Cell) (q9 : Addr) (f' : dw_M) (H1 : Heap) (locs1 : List Loc), px E f' → dw G.1 dk_cl A s.heap f' H1 locs1 → H.size ≤ H1.size → (∀ q : Nat, q < H.size → ¬ dw_A f H.size q → H1[q]? = H[q]?) → (∀ q x, f' q = some x → dw_A f H.size q) → H1[q9]? = some ce → ce.vm = .none → s.vm.findClass E = some ce.cls → vx_W p l e R s m args below meth c H1 locs1 (cells + mc) (slots + ms) Q (F0 m pc ls rest) q9)
    (kk : ∀ (v : Option Value) (f' : dw_M) (H1 : Heap) (locs1 : List Loc), post v f' → dw G.1 dk_cl A s.heap f' H1 locs1 → H.size ≤ H1.size → (∀ q : Nat, q < H.size → ¬ dw_A f H.size q → H1[q]? = H[q]?) → (∀ q x, f' q = some x → dw_A f H.size q) → W p l e R s m args below meth c H1 locs1 (cells + mc) (slots + ms) Q (F0 m (pc + 3) ls (v.toList ++ rest))) : W p l e R s m args below meth c H locs cells slots Q (F0 m pc ls (v1 :: .ref b :: rest)) :=
  ct_call (vx_runV (As := [v1]) (rest := rest) X.fix hc (cwV 1 X.hts (dk_gV mw_327 mw_329 ms_2 mw_1 mw_330) rfl rfl rfl (by decide +kernel) hR) ⟨ct_blind _ _ _ _, va_recv X.K (hw.P1 he) (ci := 5) (q0 := 0) rfl rfl, ct_pre [.ref b, v1] X.E hz hw⟩ rfl rfl hls rfl (lv_room hW) hdg hf) hw kx kk
theorem cs_DK_73 (X : cx G "TextDesk" p s m args c cc nL) (hz : ct_z G A s) (hw : dw G.1 dk_cl A s.heap f H locs) (hls : ls.size = nL) {v1 v2 v3 : Value} {fs : List Value} (he : f b = some (.inr (4, fs))) (hc : cn l y_RW_appendRange w_RW_appendRange fr lo G f H.size [.ref b, v1, v2, v3] post mc ms) (hR : fr + 1 ≤ R.frames ∧ 8 + (6 + 11) + lo ≤ R.locals) (hf : cells + mc ≤ R.cells ∧ slots + ms ≤ R.slots) (hW : (rest.map fun v => v.category).sum ≤ 8) (hdg : decode cc pc = .ok (.invokevirtual 73, 3))
    (kk : ∀ (v : Option Value) (f' : dw_M) (H1 : Heap) (locs1 : List Loc), post v f' → dw G.1 dk_cl A s.heap f' H1 locs1 → H.size ≤ H1.size → (∀ q : Nat, q < H.size → ¬ dw_A f H.size q → H1[q]? = H[q]?) → (∀ q x, f' q = some x → dw_A f H.size q) → W p l e R s m args below meth c H1 locs1 (cells + mc) (slots + ms) Q (F0 m (pc + 3) ls (v.toList ++ rest))) : W p l e R s m args below meth c H locs cells slots Q (F0 m pc ls (v3 :: v2 :: v1 :: .ref b :: rest)) :=
  cn_call (va_runV (As := [v1, v2, v3]) (rest := rest) X.fix hc (cwV 3 X.hts (dk_gV mw_333 mw_131 mw_132 mw_3 mw_133) rfl rfl rfl (by decide +kernel) hR) ⟨ct_blind _ _ _ _, va_recv X.K (hw.P1 he) (ci := 4) (q0 := 0) rfl rfl, ct_pre [.ref b, v1, v2, v3] X.E hz hw⟩ rfl rfl hls rfl (lv_room hW) hdg hf) hw kk
theorem cs_DK_77_JT (X : cx G "TextDesk" p s m args c cc nL) (hz : ct_z G A s) (hw : dw G.1 dk_cl A s.heap f H locs) (hls : ls.size = nL) {fs : List Value} (he : f b = some (.inr (3, fs))) (hc : cn l y_TX_size w_TX_size fr lo G f H.size [.ref b] post mc ms) (hR : fr + 1 ≤ R.frames ∧ 8 + (1 + 11) + lo ≤ R.locals) (hf : cells + mc ≤ R.cells ∧ slots + ms ≤ R.slots) (hW : (rest.map fun v => v.category).sum ≤ 8) (hdg : decode cc pc = .ok (.invokevirtual 77, 3))
    (kk : ∀ (v : Option Value) (f' : dw_M) (H1 : Heap) (locs1 : List Loc), post v f' → dw G.1 dk_cl A s.heap f' H1 locs1 → H.size ≤ H1.size → (∀ q : Nat, q < H.size → ¬ dw_A f H.size q → H1[q]? = H[q]?) → (∀ q x, f' q = some x → dw_A f H.size q) → W p l e R s m args below meth c H1 locs1 (cells + mc) (slots + ms) Q (F0 m (pc + 3) ls (v.toList ++ rest))) : W p l e R s m args below meth c H locs cells slots Q (F0 m pc ls (.ref b :: rest)) :=
  cn_call (va_runU (As := []) (rest := rest) X.fix hc (va_cwU (x := ⟨"TextDesk$Text", "size", "()I"⟩) (owner := "TextDesk$Text") 0 X.hts (dk_gU mw_334 mw_882 mw_883 mw_116 mw_12 mw_117) rfl rfl rfl rfl (by decide +kernel) hR) ⟨ct_blind _ _ _ _, va_recv X.K (hw.P1 he) (ci := 3) (q0 := 0) rfl rfl, ct_pre [.ref b] X.E hz hw⟩ rfl rfl hls rfl (lv_room hW) hdg hf) hw kk
theorem cs_DK_77_NT (X : cx G "TextDesk" p s m args c cc nL) (hz : ct_z G A s) (hw : dw G.1 dk_cl A s.heap f H locs) (hls : ls.size = nL) {fs : List Value} (he : f b = some (.inr (1, fs))) (hc : cn l y_TX_size w_TX_size fr lo G f H.size [.ref b] post mc ms) (hR : fr + 1 ≤ R.frames ∧ 8 + (1 + 11) + lo ≤ R.locals) (hf : cells + mc ≤ R.cells ∧ slots + ms ≤ R.slots) (hW : (rest.map fun v => v.category).sum ≤ 8) (hdg : decode cc pc = .ok (.invokevirtual 77, 3))
    (kk : ∀ (v : Option Value) (f' : dw_M) (H1 : Heap) (locs1 : List Loc), post v f' → dw G.1 dk_cl A s.heap f' H1 locs1 → H.size ≤ H1.size → (∀ q : Nat, q < H.size → ¬ dw_A f H.size q → H1[q]? = H[q]?) → (∀ q x, f' q = some x → dw_A f H.size q) → W p l e R s m args below meth c H1 locs1 (cells + mc) (slots + ms) Q (F0 m (pc + 3) ls (v.toList ++ rest))) : W p l e R s m args below meth c H locs cells slots Q (F0 m pc ls (.ref b :: rest)) :=
  cn_call (va_runU (As := []) (rest := rest) X.fix hc (va_cwU (x := ⟨"TextDesk$Text", "size", "()I"⟩) (owner := "TextDesk$Text") 0 X.hts (dk_gU mw_334 mw_882 mw_884 mw_116 mw_12 mw_117) rfl rfl rfl rfl (by decide +kernel) hR) ⟨ct_blind _ _ _ _, va_recv X.K (hw.P1 he) (ci := 1) (q0 := 0) rfl rfl, ct_pre [.ref b] X.E hz hw⟩ rfl rfl hls rfl (lv_room hW) hdg hf) hw kk
theorem cs_DK_77_WT (X : cx G "TextDesk" p s m args c cc nL) (hz : ct_z G A s) (hw : dw G.1 dk_cl A s.heap f H locs) (hls : ls.size = nL) {fs : List Value} (he : f b = some (.inr (2, fs))) (hc : cn l y_TX_size w_TX_size fr lo G f H.size [.ref b] post mc ms) (hR : fr + 1 ≤ R.frames ∧ 8 + (1 + 11) + lo ≤ R.locals) (hf : cells + mc ≤ R.cells ∧ slots + ms ≤ R.slots) (hW : (rest.map fun v => v.category).sum ≤ 8) (hdg : decode cc pc = .ok (.invokevirtual 77, 3))
    (kk : ∀ (v : Option Value) (f' : dw_M) (H1 : Heap) (locs1 : List Loc), post v f' → dw G.1 dk_cl A s.heap f' H1 locs1 → H.size ≤ H1.size → (∀ q : Nat, q < H.size → ¬ dw_A f H.size q → H1[q]? = H[q]?) → (∀ q x, f' q = some x → dw_A f H.size q) → W p l e R s m args below meth c H1 locs1 (cells + mc) (slots + ms) Q (F0 m (pc + 3) ls (v.toList ++ rest))) : W p l e R s m args below meth c H locs cells slots Q (F0 m pc ls (.ref b :: rest)) :=
  cn_call (va_runU (As := []) (rest := rest) X.fix hc (va_cwU (x := ⟨"TextDesk$Text", "size", "()I"⟩) (owner := "TextDesk$Text") 0 X.hts (dk_gU mw_334 mw_882 mw_885 mw_116 mw_12 mw_117) rfl rfl rfl rfl (by decide +kernel) hR) ⟨ct_blind _ _ _ _, va_recv X.K (hw.P1 he) (ci := 2) (q0 := 0) rfl rfl, ct_pre [.ref b] X.E hz hw⟩ rfl rfl hls rfl (lv_room hW) hdg hf) hw kk
theorem cs_DK_78 (X : cx G "TextDesk" p s m args c cc nL) (hz : ct_z G A s) (hw : dw G.1 dk_cl A s.heap f H locs) (hls : ls.size = nL) {fs : List Value} (he : f b = some (.inr (5, fs))) (hc : ct l y_DK_refuseSpilledDraft w_DK_refuseSpilledDraft fr lo G f H.size [.ref b] post px mc ms) (hR : fr + 1 ≤ R.frames ∧ 8 + (1 + 11) + lo ≤ R.locals) (hf : cells + mc ≤ R.cells ∧ slots + ms ≤ R.slots) (hW : (rest.map fun v => v.category).sum ≤ 8) (hdg : decode cc pc = .ok (.invokevirtual 78, 3))
    (kx : ∀ (E : String) (ce : Cell) (q9 : Addr) (f' : dw_M) (H1 : Heap) (locs1 : List Loc), px E f' → dw G.1 dk_cl A s.heap f' H1 locs1 → H.size ≤ H1.size → (∀ q : Nat, q < H.size → ¬ dw_A f H.size q → H1[q]? = H[q]?) → (∀ q x, f' q = some x → dw_A f H.size q) → H1[q9]? = some ce → ce.vm = .none → s.vm.findClass E = some ce.cls → vx_W p l e R s m args below meth c H1 locs1 (cells + mc) (slots + ms) Q (F0 m pc ls rest) q9)
    (kk : ∀ (v : Option Value) (f' : dw_M) (H1 : Heap) (locs1 : List Loc), post v f' → dw G.1 dk_cl A s.heap f' H1 locs1 → H.size ≤ H1.size → (∀ q : Nat, q < H.size → ¬ dw_A f H.size q → H1[q]? = H[q]?) → (∀ q x, f' q = some x → dw_A f H.size q) → W p l e R s m args below meth c H1 locs1 (cells + mc) (slots + ms) Q (F0 m (pc + 3) ls (v.toList ++ rest))) : W p l e R s m args below meth c H locs cells slots Q (F0 m pc ls (.ref b :: rest)) :=
  ct_call (vx_runV (As := []) (rest := rest) X.fix hc (cwV 0 X.hts (dk_gV mw_335 mw_337 ms_3 mw_1 mw_338) rfl rfl rfl (by decide +kernel) hR) ⟨ct_blind _ _ _ _, va_recv X.K (hw.P1 he) (ci := 5) (q0 := 0) rfl rfl, ct_pre [.ref b] X.E hz hw⟩ rfl rfl hls rfl (lv_room hW) hdg hf) hw kx kk
theorem gf_DK_173_DK (X : cx G "TextDesk" p s m args c cc nL) (hw : dw G.1 dk_cl A H0 f H locs) {v0 v1 v2 v3 v4 v5 v6 v7 : Value} (he : f a = some (.inr (5, [v0, v1, v2, v3, v4, v5, v6, v7]))) (hdg : decode cc pc = .ok (.getfield 173, 3)) (kk : W p l e R s m args below meth c H locs cells slots Q (F0 m (pc + 3) ls (v1 :: rest))) : W p l e R s m args below meth c H locs cells slots Q (F0 m pc ls (.ref a :: rest)) :=
  dw_get (C := "TextDesk") (T := F_DK) (N := 8) X.1 X.2.1 X.hts i_DK X.own X.K hw he rfl 1 (by decide) (X.hts _ mw_66) (fun _ h9 => h9) rfl hdg kk
theorem cs_DK_180 (X : cx G "TextDesk" p s m args c cc nL) (hz : ct_z G A s) (hw : dw G.1 dk_cl A s.heap f H locs) (hls : ls.size = nL) {fs : List Value} (he : f b = some (.inr (4, fs))) (hc : cn l y_RW_hasSpilled w_RW_hasSpilled fr lo G f H.size [.ref b] post mc ms) (hR : fr + 1 ≤ R.frames ∧ 8 + (1 + 11) + lo ≤ R.locals) (hf : cells + mc ≤ R.cells ∧ slots + ms ≤ R.slots) (hW : (rest.map fun v => v.category).sum ≤ 8) (hdg : decode cc pc = .ok (.invokevirtual 180, 3))
    (kk : ∀ (v : Option Value) (f' : dw_M) (H1 : Heap) (locs1 : List Loc), post v f' → dw G.1 dk_cl A s.heap f' H1 locs1 → H.size ≤ H1.size → (∀ q : Nat, q < H.size → ¬ dw_A f H.size q → H1[q]? = H[q]?) → (∀ q x, f' q = some x → dw_A f H.size q) → W p l e R s m args below meth c H1 locs1 (cells + mc) (slots + ms) Q (F0 m (pc + 3) ls (v.toList ++ rest))) : W p l e R s m args below meth c H locs cells slots Q (F0 m pc ls (.ref b :: rest)) :=
  cn_call (va_runV (As := []) (rest := rest) X.fix hc (cwV 0 X.hts (dk_gV mw_339 mw_340 mw_341 mw_3 mw_342) rfl rfl rfl (by decide +kernel) hR) ⟨ct_blind _ _ _ _, va_recv X.K (hw.P1 he) (ci := 4) (q0 := 0) rfl rfl, ct_pre [.ref b] X.E hz hw⟩ rfl rfl hls rfl (lv_room hW) hdg hf) hw kk
theorem gf_RW_25_RW (X : cx G "TextDesk$Row" p s m args c cc nL) (hw : dw G.1 dk_cl A H0 f H locs) {v0 v1 v2 : Value} (he : f a = some (.inr (4, [v0, v1, v2]))) (hdg : decode cc pc = .ok (.getfield 25, 3)) (kk : W p l e R s m args below meth c H locs cells slots Q (F0 m (pc + 3) ls (v2 :: rest))) : W p l e R s m args below meth c H locs cells slots Q (F0 m pc ls (.ref a :: rest)) :=
  dw_get (C := "TextDesk$Row") (T := F_RW) (N := 3) X.1 X.2.1 X.hts i_RW X.own X.K hw he rfl 2 (by decide) (X.hts _ mw_43) (fun _ h9 => h9) rfl hdg kk
theorem cs_DK_84 (X : cx G "TextDesk" p s m args c cc nL) (hz : ct_z G A s) (hw : dw G.1 dk_cl A s.heap f H locs) (hls : ls.size = nL) {v1 v2 v3 : Value} (hc : ct l y_DK_refuseBadRange w_DK_refuseBadRange fr lo G f H.size [v1, v2, v3] post px mc ms) (hR : fr + 1 ≤ R.frames ∧ 8 + (3 + 11) + lo ≤ R.locals) (hf : cells + mc ≤ R.cells ∧ slots + ms ≤ R.slots) (hW : (rest.map fun v => v.category).sum ≤ 8) (hdg : decode cc pc = .ok (.invokestatic 84, 3))
    (kx : ∀ (E : String) (ce : Cell) (q9 : Addr) (f' : dw_M) (H1 : Heap) (locs1 : List Loc), px E f' → dw G.1 dk_cl A s.heap f' H1 locs1 → H.size ≤ H1.size → (∀ q : Nat, q < H.size → ¬ dw_A f H.size q → H1[q]? = H[q]?) → (∀ q x, f' q = some x → dw_A f H.size q) → H1[q9]? = some ce → ce.vm = .none → s.vm.findClass E = some ce.cls → vx_W p l e R s m args below meth c H1 locs1 (cells + mc) (slots + ms) Q (F0 m pc ls rest) q9)
    (kk : ∀ (v : Option Value) (f' : dw_M) (H1 : Heap) (locs1 : List Loc), post v f' → dw G.1 dk_cl A s.heap f' H1 locs1 → H.size ≤ H1.size → (∀ q : Nat, q < H.size → ¬ dw_A f H.size q → H1[q]? = H[q]?) → (∀ q x, f' q = some x → dw_A f H.size q) → W p l e R s m args below meth c H1 locs1 (cells + mc) (slots + ms) Q (F0 m (pc + 3) ls (v.toList ++ rest))) : W p l e R s m args below meth c H locs cells slots Q (F0 m pc ls (v3 :: v2 :: v1 :: rest)) :=
  ct_call (vx_runS (As := [v1, v2, v3]) (rest := rest) X.fix hc (va_cwS 3 X.hts (dk_gS mw_352 mw_353 mw_1 mw_354) rfl rfl rfl (by decide +kernel) hR) ⟨ct_blind _ _ _ _, ct_pre [v1, v2, v3] X.E hz hw⟩ rfl rfl hls rfl (lv_room hW) hdg hf) hw kx kk
theorem cs_DK_96 (X : cx G "TextDesk" p s m args c cc nL) (hz : ct_z G A s) (hw : dw G.1 dk_cl A s.heap f H locs) (hls : ls.size = nL) {v1 v2 : Value} (hc : ct l y_DK_sizeOrItem w_DK_sizeOrItem fr lo G f H.size [v1, v2] post px mc ms) (hR : fr + 1 ≤ R.frames ∧ 8 + (3 + 11) + lo ≤ R.locals) (hf : cells + mc ≤ R.cells ∧ slots + ms ≤ R.slots) (hW : (rest.map fun v => v.category).sum ≤ 8) (hdg : decode cc pc = .ok (.invokestatic 96, 3))
    (kx : ∀ (E : String) (ce : Cell) (q9 : Addr) (f' : dw_M) (H1 : Heap) (locs1 : List Loc), px E f' → dw G.1 dk_cl A s.heap f' H1 locs1 → H.size ≤ H1.size → (∀ q : Nat, q < H.size → ¬ dw_A f H.size q → H1[q]? = H[q]?) → (∀ q x, f' q = some x → dw_A f H.size q) → H1[q9]? = some ce → ce.vm = .none → s.vm.findClass E = some ce.cls → vx_W p l e R s m args below meth c H1 locs1 (cells + mc) (slots + ms) Q (F0 m pc ls rest) q9)
    (kk : ∀ (v : Option Value) (f' : dw_M) (H1 : Heap) (locs1 : List Loc), post v f' → dw G.1 dk_cl A s.heap f' H1 locs1 → H.size ≤ H1.size → (∀ q : Nat, q < H.size → ¬ dw_A f H.size q → H1[q]? = H[q]?) → (∀ q x, f' q = some x → dw_A f H.size q) → W p l e R s m args below meth c H1 locs1 (cells + mc) (slots + ms) Q (F0 m (pc + 3) ls (v.toList ++ rest))) : W p l e R s m args below meth c H locs cells slots Q (F0 m pc ls (v2 :: v1 :: rest)) :=
  ct_call (vx_runS (As := [v1, v2]) (rest := rest) X.fix hc (va_cwS 2 X.hts (dk_gS mw_378 mw_379 mw_1 mw_380) rfl rfl rfl (by decide +kernel) hR) ⟨ct_blind _ _ _ _, ct_pre [v1, v2] X.E hz hw⟩ rfl rfl hls rfl (lv_room hW) hdg hf) hw kx kk
theorem cs_DK_189_JT (X : cx G "TextDesk" p s m args c cc nL) (hz : ct_z G A s) (hw : dw G.1 dk_cl A s.heap f H locs) (hls : ls.size = nL) {fs : List Value} (he : f b = some (.inr (3, fs))) (hc : cn l y_TX_size w_TX_size fr lo G f H.size [.ref b] post mc ms) (hR : fr + 1 ≤ R.frames ∧ 8 + (1 + 11) + lo ≤ R.locals) (hf : cells + mc ≤ R.cells ∧ slots + ms ≤ R.slots) (hW : (rest.map fun v => v.category).sum ≤ 8) (hdg : decode cc pc = .ok (.invokevirtual 189, 3))
    (kk : ∀ (v : Option Value) (f' : dw_M) (H1 : Heap) (locs1 : List Loc), post v f' → dw G.1 dk_cl A s.heap f' H1 locs1 → H.size ≤ H1.size → (∀ q : Nat, q < H.size → ¬ dw_A f H.size q → H1[q]? = H[q]?) → (∀ q x, f' q = some x → dw_A f H.size q) → W p l e R s m args below meth c H1 locs1 (cells + mc) (slots + ms) Q (F0 m (pc + 3) ls (v.toList ++ rest))) : W p l e R s m args below meth c H locs cells slots Q (F0 m pc ls (.ref b :: rest)) :=
  cn_call (va_runU (As := []) (rest := rest) X.fix hc (va_cwA (x := ⟨"TextDesk$Sequence", "size", "()I"⟩) (owner := "TextDesk$Sequence") 0 X.hts (dk_gU mw_381 mw_136 mw_137 mw_116 mw_12 mw_117) rfl rfl rfl (X.E.2.2.2.2.1 ⟨"TextDesk$Sequence", "size", "()I"⟩ (by decide +kernel)) (by decide +kernel) hR) ⟨ct_blind _ _ _ _, va_recv X.K (hw.P1 he) (ci := 3) (q0 := 0) rfl rfl, ct_pre [.ref b] X.E hz hw⟩ rfl rfl hls rfl (lv_room hW) hdg hf) hw kk
theorem cs_DK_189_NT (X : cx G "TextDesk" p s m args c cc nL) (hz : ct_z G A s) (hw : dw G.1 dk_cl A s.heap f H locs) (hls : ls.size = nL) {fs : List Value} (he : f b = some (.inr (1, fs))) (hc : cn l y_TX_size w_TX_size fr lo G f H.size [.ref b] post mc ms) (hR : fr + 1 ≤ R.frames ∧ 8 + (1 + 11) + lo ≤ R.locals) (hf : cells + mc ≤ R.cells ∧ slots + ms ≤ R.slots) (hW : (rest.map fun v => v.category).sum ≤ 8) (hdg : decode cc pc = .ok (.invokevirtual 189, 3))
    (kk : ∀ (v : Option Value) (f' : dw_M) (H1 : Heap) (locs1 : List Loc), post v f' → dw G.1 dk_cl A s.heap f' H1 locs1 → H.size ≤ H1.size → (∀ q : Nat, q < H.size → ¬ dw_A f H.size q → H1[q]? = H[q]?) → (∀ q x, f' q = some x → dw_A f H.size q) → W p l e R s m args below meth c H1 locs1 (cells + mc) (slots + ms) Q (F0 m (pc + 3) ls (v.toList ++ rest))) : W p l e R s m args below meth c H locs cells slots Q (F0 m pc ls (.ref b :: rest)) :=
  cn_call (va_runU (As := []) (rest := rest) X.fix hc (va_cwA (x := ⟨"TextDesk$Sequence", "size", "()I"⟩) (owner := "TextDesk$Sequence") 0 X.hts (dk_gU mw_381 mw_136 mw_138 mw_116 mw_12 mw_117) rfl rfl rfl (X.E.2.2.2.2.1 ⟨"TextDesk$Sequence", "size", "()I"⟩ (by decide +kernel)) (by decide +kernel) hR) ⟨ct_blind _ _ _ _, va_recv X.K (hw.P1 he) (ci := 1) (q0 := 0) rfl rfl, ct_pre [.ref b] X.E hz hw⟩ rfl rfl hls rfl (lv_room hW) hdg hf) hw kk
theorem cs_DK_189_RW (X : cx G "TextDesk" p s m args c cc nL) (hz : ct_z G A s) (hw : dw G.1 dk_cl A s.heap f H locs) (hls : ls.size = nL) {fs : List Value} (he : f b = some (.inr (4, fs))) (hc : cn l y_RW_size w_RW_size fr lo G f H.size [.ref b] post mc ms) (hR : fr + 1 ≤ R.frames ∧ 8 + (1 + 11) + lo ≤ R.locals) (hf : cells + mc ≤ R.cells ∧ slots + ms ≤ R.slots) (hW : (rest.map fun v => v.category).sum ≤ 8) (hdg : decode cc pc = .ok (.invokevirtual 189, 3))
    (kk : ∀ (v : Option Value) (f' : dw_M) (H1 : Heap) (locs1 : List Loc), post v f' → dw G.1 dk_cl A s.heap f' H1 locs1 → H.size ≤ H1.size → (∀ q : Nat, q < H.size → ¬ dw_A f H.size q → H1[q]? = H[q]?) → (∀ q x, f' q = some x → dw_A f H.size q) → W p l e R s m args below meth c H1 locs1 (cells + mc) (slots + ms) Q (F0 m (pc + 3) ls (v.toList ++ rest))) : W p l e R s m args below meth c H locs cells slots Q (F0 m pc ls (.ref b :: rest)) :=
  cn_call (va_runU (As := []) (rest := rest) X.fix hc (va_cwA (x := ⟨"TextDesk$Sequence", "size", "()I"⟩) (owner := "TextDesk$Sequence") 0 X.hts (dk_gU mw_381 mw_136 mw_139 mw_99 mw_3 mw_101) rfl rfl rfl (X.E.2.2.2.2.1 ⟨"TextDesk$Sequence", "size", "()I"⟩ (by decide +kernel)) (by decide +kernel) hR) ⟨ct_blind _ _ _ _, va_recv X.K (hw.P1 he) (ci := 4) (q0 := 0) rfl rfl, ct_pre [.ref b] X.E hz hw⟩ rfl rfl hls rfl (lv_room hW) hdg hf) hw kk
theorem cs_DK_189_WT (X : cx G "TextDesk" p s m args c cc nL) (hz : ct_z G A s) (hw : dw G.1 dk_cl A s.heap f H locs) (hls : ls.size = nL) {fs : List Value} (he : f b = some (.inr (2, fs))) (hc : cn l y_TX_size w_TX_size fr lo G f H.size [.ref b] post mc ms) (hR : fr + 1 ≤ R.frames ∧ 8 + (1 + 11) + lo ≤ R.locals) (hf : cells + mc ≤ R.cells ∧ slots + ms ≤ R.slots) (hW : (rest.map fun v => v.category).sum ≤ 8) (hdg : decode cc pc = .ok (.invokevirtual 189, 3))
    (kk : ∀ (v : Option Value) (f' : dw_M) (H1 : Heap) (locs1 : List Loc), post v f' → dw G.1 dk_cl A s.heap f' H1 locs1 → H.size ≤ H1.size → (∀ q : Nat, q < H.size → ¬ dw_A f H.size q → H1[q]? = H[q]?) → (∀ q x, f' q = some x → dw_A f H.size q) → W p l e R s m args below meth c H1 locs1 (cells + mc) (slots + ms) Q (F0 m (pc + 3) ls (v.toList ++ rest))) : W p l e R s m args below meth c H locs cells slots Q (F0 m pc ls (.ref b :: rest)) :=
  cn_call (va_runU (As := []) (rest := rest) X.fix hc (va_cwA (x := ⟨"TextDesk$Sequence", "size", "()I"⟩) (owner := "TextDesk$Sequence") 0 X.hts (dk_gU mw_381 mw_136 mw_140 mw_116 mw_12 mw_117) rfl rfl rfl (X.E.2.2.2.2.1 ⟨"TextDesk$Sequence", "size", "()I"⟩ (by decide +kernel)) (by decide +kernel) hR) ⟨ct_blind _ _ _ _, va_recv X.K (hw.P1 he) (ci := 2) (q0 := 0) rfl rfl, ct_pre [.ref b] X.E hz hw⟩ rfl rfl hls rfl (lv_room hW) hdg hf) hw kk
theorem cs_DK_100 (X : cx G "TextDesk" p s m args c cc nL) (hz : ct_z G A s) (hw : dw G.1 dk_cl A s.heap f H locs) (hls : ls.size = nL) {v1 : Value} (hc : cn l y_DK_textOf w_DK_textOf fr lo G f H.size [v1] post mc ms) (hR : fr + 1 ≤ R.frames ∧ 8 + (2 + 11) + lo ≤ R.locals) (hf : cells + mc ≤ R.cells ∧ slots + ms ≤ R.slots) (hW : (rest.map fun v => v.category).sum ≤ 8) (hdg : decode cc pc = .ok (.invokestatic 100, 3))
    (kk : ∀ (v : Option Value) (f' : dw_M) (H1 : Heap) (locs1 : List Loc), post v f' → dw G.1 dk_cl A s.heap f' H1 locs1 → H.size ≤ H1.size → (∀ q : Nat, q < H.size → ¬ dw_A f H.size q → H1[q]? = H[q]?) → (∀ q x, f' q = some x → dw_A f H.size q) → W p l e R s m args below meth c H1 locs1 (cells + mc) (slots + ms) Q (F0 m (pc + 3) ls (v.toList ++ rest))) : W p l e R s m args below meth c H locs cells slots Q (F0 m pc ls (v1 :: rest)) :=
  cn_call (va_runS (As := [v1]) (rest := rest) X.fix hc (va_cwS 1 X.hts (dk_gS mw_390 mw_156 mw_1 mw_157) rfl rfl rfl (by decide +kernel) hR) ⟨ct_blind _ _ _ _, ct_pre [v1] X.E hz hw⟩ rfl rfl hls rfl (lv_room hW) hdg hf) hw kk
theorem cs_DK_104 (X : cx G "TextDesk" p s m args c cc nL) (hz : ct_z G A s) (hw : dw G.1 dk_cl A s.heap f H locs) (hls : ls.size = nL) {v1 : Value} {fs : List Value} (he : f b = some (.inr (5, fs))) (hc : ct l y_DK_keepText w_DK_keepText fr lo G f H.size [.ref b, v1] post px mc ms) (hR : fr + 1 ≤ R.frames ∧ 8 + (2 + 11) + lo ≤ R.locals) (hf : cells + mc ≤ R.cells ∧ slots + ms ≤ R.slots) (hW : (rest.map fun v => v.category).sum ≤ 8) (hdg : decode cc pc = .ok (.invokevirtual 104, 3))
    (kx : ∀ (E : String) (ce : Cell) (q9 : Addr) (f' : dw_M) (H1 : Heap) (locs1 : List Loc), px E f' → dw G.1 dk_cl A s.heap f' H1 locs1 → H.size ≤ H1.size → (∀ q : Nat, q < H.size → ¬ dw_A f H.size q → H1[q]? = H[q]?) → (∀ q x, f' q = some x → dw_A f H.size q) → H1[q9]? = some ce → ce.vm = .none → s.vm.findClass E = some ce.cls → vx_W p l e R s m args below meth c H1 locs1 (cells + mc) (slots + ms) Q (F0 m pc ls rest) q9)
    (kk : ∀ (v : Option Value) (f' : dw_M) (H1 : Heap) (locs1 : List Loc), post v f' → dw G.1 dk_cl A s.heap f' H1 locs1 → H.size ≤ H1.size → (∀ q : Nat, q < H.size → ¬ dw_A f H.size q → H1[q]? = H[q]?) → (∀ q x, f' q = some x → dw_A f H.size q) → W p l e R s m args below meth c H1 locs1 (cells + mc) (slots + ms) Q (F0 m (pc + 3) ls (v.toList ++ rest))) : W p l e R s m args below meth c H locs cells slots Q (F0 m pc ls (v1 :: .ref b :: rest)) :=
  ct_call (vx_runV (As := [v1]) (rest := rest) X.fix hc (cwV 1 X.hts (dk_gV mw_391 mw_393 ms_4 mw_1 mw_394) rfl rfl rfl (by decide +kernel) hR) ⟨ct_blind _ _ _ _, va_recv X.K (hw.P1 he) (ci := 5) (q0 := 0) rfl rfl, ct_pre [.ref b, v1] X.E hz hw⟩ rfl rfl hls rfl (lv_room hW) hdg hf) hw kx kk
theorem cs_DK_110 (X : cx G "TextDesk" p s m args c cc nL) (hz : ct_z G A s) (hw : dw G.1 dk_cl A s.heap f H locs) (hls : ls.size = nL) {v1 v2 : Value} (hc : cn l y_DK_joined w_DK_joined fr lo G f H.size [v1, v2] post mc ms) (hR : fr + 1 ≤ R.frames ∧ 8 + (2 + 11) + lo ≤ R.locals) (hf : cells + mc ≤ R.cells ∧ slots + ms ≤ R.slots) (hW : (rest.map fun v => v.category).sum ≤ 8) (hdg : decode cc pc = .ok (.invokestatic 110, 3))
    (kk : ∀ (v : Option Value) (f' : dw_M) (H1 : Heap) (locs1 : List Loc), post v f' → dw G.1 dk_cl A s.heap f' H1 locs1 → H.size ≤ H1.size → (∀ q : Nat, q < H.size → ¬ dw_A f H.size q → H1[q]? = H[q]?) → (∀ q x, f' q = some x → dw_A f H.size q) → W p l e R s m args below meth c H1 locs1 (cells + mc) (slots + ms) Q (F0 m (pc + 3) ls (v.toList ++ rest))) : W p l e R s m args below meth c H locs cells slots Q (F0 m pc ls (v2 :: v1 :: rest)) :=
  cn_call (va_runS (As := [v1, v2]) (rest := rest) X.fix hc (va_cwS 2 X.hts (dk_gS mw_404 mw_405 mw_1 mw_406) rfl rfl rfl (by decide +kernel) hR) ⟨ct_blind _ _ _ _, ct_pre [v1, v2] X.E hz hw⟩ rfl rfl hls rfl (lv_room hW) hdg hf) hw kk
theorem cs_DK_205 (X : cx G "TextDesk" p s m args c cc nL) (hz : ct_z G A s) (hw : dw G.1 dk_cl A s.heap f H locs) (hls : ls.size = nL) {v1 v2 : Value} (hc : cn l y_JT_init w_JT_init fr lo G f H.size [.ref b, v1, v2] post mc ms) (hR : fr + 1 ≤ R.frames ∧ 8 + (3 + 11) + lo ≤ R.locals) (hf : cells + mc ≤ R.cells ∧ slots + ms ≤ R.slots) (hW : (rest.map fun v => v.category).sum ≤ 8) (hdg : decode cc pc = .ok (.invokespecial 205, 3))
    (kk : ∀ (v : Option Value) (f' : dw_M) (H1 : Heap) (locs1 : List Loc), post v f' → dw G.1 dk_cl A s.heap f' H1 locs1 → H.size ≤ H1.size → (∀ q : Nat, q < H.size → ¬ dw_A f H.size q → H1[q]? = H[q]?) → (∀ q x, f' q = some x → dw_A f H.size q) → W p l e R s m args below meth c H1 locs1 (cells + mc) (slots + ms) Q (F0 m (pc + 3) ls (v.toList ++ rest))) : W p l e R s m args below meth c H locs cells slots Q (F0 m pc ls (v2 :: v1 :: .ref b :: rest)) :=
  cn_call (va_runI (As := [v1, v2]) (rest := rest) X.fix hc (cwI 2 X.hts (dk_goodc mw_411) rfl rfl rfl (X.hts _ mw_16) (X.hts _ mw_409) (X.hts _ mw_410) rfl (by decide +kernel) hR) ⟨ct_blind _ _ _ _, ct_pre [.ref b, v1, v2] X.E hz hw⟩ rfl rfl hls rfl (lv_room hW) hdg hf) hw kk
theorem cs_JT_1_JT (X : cx G "TextDesk$JoinedText" p s m args c cc nL) (hz : ct_z G A s) (hw : dw G.1 dk_cl A s.heap f H locs) (hls : ls.size = nL) {fs : List Value} (he : f b = some (.inr (3, fs))) (hc : cn l y_TX_size w_TX_size fr lo G f H.size [.ref b] post mc ms) (hR : fr + 1 ≤ R.frames ∧ 8 + (1 + 11) + lo ≤ R.locals) (hf : cells + mc ≤ R.cells ∧ slots + ms ≤ R.slots) (hW : (rest.map fun v => v.category).sum ≤ 8) (hdg : decode cc pc = .ok (.invokevirtual 1, 3))
    (kk : ∀ (v : Option Value) (f' : dw_M) (H1 : Heap) (locs1 : List Loc), post v f' → dw G.1 dk_cl A s.heap f' H1 locs1 → H.size ≤ H1.size → (∀ q : Nat, q < H.size → ¬ dw_A f H.size q → H1[q]? = H[q]?) → (∀ q x, f' q = some x → dw_A f H.size q) → W p l e R s m args below meth c H1 locs1 (cells + mc) (slots + ms) Q (F0 m (pc + 3) ls (v.toList ++ rest))) : W p l e R s m args below meth c H locs cells slots Q (F0 m pc ls (.ref b :: rest)) :=
  cn_call (va_runU (As := []) (rest := rest) X.fix hc (va_cwU (x := ⟨"TextDesk$Text", "size", "()I"⟩) (owner := "TextDesk$Text") 0 X.hts (dk_gU mw_412 mw_882 mw_883 mw_116 mw_12 mw_117) rfl rfl rfl rfl (by decide +kernel) hR) ⟨ct_blind _ _ _ _, va_recv X.K (hw.P1 he) (ci := 3) (q0 := 0) rfl rfl, ct_pre [.ref b] X.E hz hw⟩ rfl rfl hls rfl (lv_room hW) hdg hf) hw kk
theorem cs_JT_1_NT (X : cx G "TextDesk$JoinedText" p s m args c cc nL) (hz : ct_z G A s) (hw : dw G.1 dk_cl A s.heap f H locs) (hls : ls.size = nL) {fs : List Value} (he : f b = some (.inr (1, fs))) (hc : cn l y_TX_size w_TX_size fr lo G f H.size [.ref b] post mc ms) (hR : fr + 1 ≤ R.frames ∧ 8 + (1 + 11) + lo ≤ R.locals) (hf : cells + mc ≤ R.cells ∧ slots + ms ≤ R.slots) (hW : (rest.map fun v => v.category).sum ≤ 8) (hdg : decode cc pc = .ok (.invokevirtual 1, 3))
    (kk : ∀ (v : Option Value) (f' : dw_M) (H1 : Heap) (locs1 : List Loc), post v f' → dw G.1 dk_cl A s.heap f' H1 locs1 → H.size ≤ H1.size → (∀ q : Nat, q < H.size → ¬ dw_A f H.size q → H1[q]? = H[q]?) → (∀ q x, f' q = some x → dw_A f H.size q) → W p l e R s m args below meth c H1 locs1 (cells + mc) (slots + ms) Q (F0 m (pc + 3) ls (v.toList ++ rest))) : W p l e R s m args below meth c H locs cells slots Q (F0 m pc ls (.ref b :: rest)) :=
  cn_call (va_runU (As := []) (rest := rest) X.fix hc (va_cwU (x := ⟨"TextDesk$Text", "size", "()I"⟩) (owner := "TextDesk$Text") 0 X.hts (dk_gU mw_412 mw_882 mw_884 mw_116 mw_12 mw_117) rfl rfl rfl rfl (by decide +kernel) hR) ⟨ct_blind _ _ _ _, va_recv X.K (hw.P1 he) (ci := 1) (q0 := 0) rfl rfl, ct_pre [.ref b] X.E hz hw⟩ rfl rfl hls rfl (lv_room hW) hdg hf) hw kk
theorem cs_JT_1_WT (X : cx G "TextDesk$JoinedText" p s m args c cc nL) (hz : ct_z G A s) (hw : dw G.1 dk_cl A s.heap f H locs) (hls : ls.size = nL) {fs : List Value} (he : f b = some (.inr (2, fs))) (hc : cn l y_TX_size w_TX_size fr lo G f H.size [.ref b] post mc ms) (hR : fr + 1 ≤ R.frames ∧ 8 + (1 + 11) + lo ≤ R.locals) (hf : cells + mc ≤ R.cells ∧ slots + ms ≤ R.slots) (hW : (rest.map fun v => v.category).sum ≤ 8) (hdg : decode cc pc = .ok (.invokevirtual 1, 3))
    (kk : ∀ (v : Option Value) (f' : dw_M) (H1 : Heap) (locs1 : List Loc), post v f' → dw G.1 dk_cl A s.heap f' H1 locs1 → H.size ≤ H1.size → (∀ q : Nat, q < H.size → ¬ dw_A f H.size q → H1[q]? = H[q]?) → (∀ q x, f' q = some x → dw_A f H.size q) → W p l e R s m args below meth c H1 locs1 (cells + mc) (slots + ms) Q (F0 m (pc + 3) ls (v.toList ++ rest))) : W p l e R s m args below meth c H locs cells slots Q (F0 m pc ls (.ref b :: rest)) :=
  cn_call (va_runU (As := []) (rest := rest) X.fix hc (va_cwU (x := ⟨"TextDesk$Text", "size", "()I"⟩) (owner := "TextDesk$Text") 0 X.hts (dk_gU mw_412 mw_882 mw_885 mw_116 mw_12 mw_117) rfl rfl rfl rfl (by decide +kernel) hR) ⟨ct_blind _ _ _ _, va_recv X.K (hw.P1 he) (ci := 2) (q0 := 0) rfl rfl, ct_pre [.ref b] X.E hz hw⟩ rfl rfl hls rfl (lv_room hW) hdg hf) hw kk
theorem cs_JT_7_JT (X : cx G "TextDesk$JoinedText" p s m args c cc nL) (hz : ct_z G A s) (hw : dw G.1 dk_cl A s.heap f H locs) (hls : ls.size = nL) {fs : List Value} (he : f b = some (.inr (3, fs))) (hc : cn l y_TX_isNarrow w_TX_isNarrow fr lo G f H.size [.ref b] post mc ms) (hR : fr + 1 ≤ R.frames ∧ 8 + (1 + 11) + lo ≤ R.locals) (hf : cells + mc ≤ R.cells ∧ slots + ms ≤ R.slots) (hW : (rest.map fun v => v.category).sum ≤ 8) (hdg : decode cc pc = .ok (.invokevirtual 7, 3))
    (kk : ∀ (v : Option Value) (f' : dw_M) (H1 : Heap) (locs1 : List Loc), post v f' → dw G.1 dk_cl A s.heap f' H1 locs1 → H.size ≤ H1.size → (∀ q : Nat, q < H.size → ¬ dw_A f H.size q → H1[q]? = H[q]?) → (∀ q x, f' q = some x → dw_A f H.size q) → W p l e R s m args below meth c H1 locs1 (cells + mc) (slots + ms) Q (F0 m (pc + 3) ls (v.toList ++ rest))) : W p l e R s m args below meth c H locs cells slots Q (F0 m pc ls (.ref b :: rest)) :=
  cn_call (va_runU (As := []) (rest := rest) X.fix hc (va_cwU (x := ⟨"TextDesk$Text", "isNarrow", "()Z"⟩) (owner := "TextDesk$Text") 0 X.hts (dk_gU mw_413 mw_415 mw_416 mw_414 mw_12 mw_419) rfl rfl rfl rfl (by decide +kernel) hR) ⟨ct_blind _ _ _ _, va_recv X.K (hw.P1 he) (ci := 3) (q0 := 0) rfl rfl, ct_pre [.ref b] X.E hz hw⟩ rfl rfl hls rfl (lv_room hW) hdg hf) hw kk
theorem cs_JT_7_NT (X : cx G "TextDesk$JoinedText" p s m args c cc nL) (hz : ct_z G A s) (hw : dw G.1 dk_cl A s.heap f H locs) (hls : ls.size = nL) {fs : List Value} (he : f b = some (.inr (1, fs))) (hc : cn l y_TX_isNarrow w_TX_isNarrow fr lo G f H.size [.ref b] post mc ms) (hR : fr + 1 ≤ R.frames ∧ 8 + (1 + 11) + lo ≤ R.locals) (hf : cells + mc ≤ R.cells ∧ slots + ms ≤ R.slots) (hW : (rest.map fun v => v.category).sum ≤ 8) (hdg : decode cc pc = .ok (.invokevirtual 7, 3))
    (kk : ∀ (v : Option Value) (f' : dw_M) (H1 : Heap) (locs1 : List Loc), post v f' → dw G.1 dk_cl A s.heap f' H1 locs1 → H.size ≤ H1.size → (∀ q : Nat, q < H.size → ¬ dw_A f H.size q → H1[q]? = H[q]?) → (∀ q x, f' q = some x → dw_A f H.size q) → W p l e R s m args below meth c H1 locs1 (cells + mc) (slots + ms) Q (F0 m (pc + 3) ls (v.toList ++ rest))) : W p l e R s m args below meth c H locs cells slots Q (F0 m pc ls (.ref b :: rest)) :=
  cn_call (va_runU (As := []) (rest := rest) X.fix hc (va_cwU (x := ⟨"TextDesk$Text", "isNarrow", "()Z"⟩) (owner := "TextDesk$Text") 0 X.hts (dk_gU mw_413 mw_415 mw_417 mw_414 mw_12 mw_419) rfl rfl rfl rfl (by decide +kernel) hR) ⟨ct_blind _ _ _ _, va_recv X.K (hw.P1 he) (ci := 1) (q0 := 0) rfl rfl, ct_pre [.ref b] X.E hz hw⟩ rfl rfl hls rfl (lv_room hW) hdg hf) hw kk
theorem cs_JT_7_WT (X : cx G "TextDesk$JoinedText" p s m args c cc nL) (hz : ct_z G A s) (hw : dw G.1 dk_cl A s.heap f H locs) (hls : ls.size = nL) {fs : List Value} (he : f b = some (.inr (2, fs))) (hc : cn l y_TX_isNarrow w_TX_isNarrow fr lo G f H.size [.ref b] post mc ms) (hR : fr + 1 ≤ R.frames ∧ 8 + (1 + 11) + lo ≤ R.locals) (hf : cells + mc ≤ R.cells ∧ slots + ms ≤ R.slots) (hW : (rest.map fun v => v.category).sum ≤ 8) (hdg : decode cc pc = .ok (.invokevirtual 7, 3))
    (kk : ∀ (v : Option Value) (f' : dw_M) (H1 : Heap) (locs1 : List Loc), post v f' → dw G.1 dk_cl A s.heap f' H1 locs1 → H.size ≤ H1.size → (∀ q : Nat, q < H.size → ¬ dw_A f H.size q → H1[q]? = H[q]?) → (∀ q x, f' q = some x → dw_A f H.size q) → W p l e R s m args below meth c H1 locs1 (cells + mc) (slots + ms) Q (F0 m (pc + 3) ls (v.toList ++ rest))) : W p l e R s m args below meth c H locs cells slots Q (F0 m pc ls (.ref b :: rest)) :=
  cn_call (va_runU (As := []) (rest := rest) X.fix hc (va_cwU (x := ⟨"TextDesk$Text", "isNarrow", "()Z"⟩) (owner := "TextDesk$Text") 0 X.hts (dk_gU mw_413 mw_415 mw_418 mw_414 mw_12 mw_419) rfl rfl rfl rfl (by decide +kernel) hR) ⟨ct_blind _ _ _ _, va_recv X.K (hw.P1 he) (ci := 2) (q0 := 0) rfl rfl, ct_pre [.ref b] X.E hz hw⟩ rfl rfl hls rfl (lv_room hW) hdg hf) hw kk
theorem cs_JT_11 (X : cx G "TextDesk$JoinedText" p s m args c cc nL) (hz : ct_z G A s) (hw : dw G.1 dk_cl A s.heap f H locs) (hls : ls.size = nL) {v1 v2 : Value} (hc : cn l y_TX_init w_TX_init fr lo G f H.size [.ref b, v1, v2] post mc ms) (hR : fr + 1 ≤ R.frames ∧ 8 + (3 + 11) + lo ≤ R.locals) (hf : cells + mc ≤ R.cells ∧ slots + ms ≤ R.slots) (hW : (rest.map fun v => v.category).sum ≤ 8) (hdg : decode cc pc = .ok (.invokespecial 11, 3))
    (kk : ∀ (v : Option Value) (f' : dw_M) (H1 : Heap) (locs1 : List Loc), post v f' → dw G.1 dk_cl A s.heap f' H1 locs1 → H.size ≤ H1.size → (∀ q : Nat, q < H.size → ¬ dw_A f H.size q → H1[q]? = H[q]?) → (∀ q x, f' q = some x → dw_A f H.size q) → W p l e R s m args below meth c H1 locs1 (cells + mc) (slots + ms) Q (F0 m (pc + 3) ls (v.toList ++ rest))) : W p l e R s m args below meth c H locs cells slots Q (F0 m pc ls (v2 :: v1 :: .ref b :: rest)) :=
  cn_call (va_runI (As := [v1, v2]) (rest := rest) X.fix hc (cwI 2 X.hts (dk_goodc mw_167) rfl rfl rfl (X.hts _ mw_12) (X.hts _ mw_420) (X.hts _ mw_166) rfl (by decide +kernel) hR) ⟨ct_blind _ _ _ _, ct_pre [.ref b, v1, v2] X.E hz hw⟩ rfl rfl hls rfl (lv_room hW) hdg hf) hw kk
theorem pf_JT_15_JT (X : cx G "TextDesk$JoinedText" p s m args c cc nL) (hin : meth.name = "<init>") (hw : dw G.1 dk_cl A H0 f H locs) {v0 v1 v2 v3 v4 v : Value} (he : f a = some (.inr (3, [v0, v1, v2, v3, v4]))) (hn : narrow (.object "TextDesk$Text") v = v) (hfit : fits (.object "TextDesk$Text") v = true) (hdg : decode cc pc = .ok (.putfield 15, 3)) (kk : ∀ (H1 : Heap) (locs1 : List Loc), dw G.1 dk_cl A H0 (dw_up f a (.inr (3, [v0, v1, v, v3, v4]))) H1 locs1 → W p l e R s m args below meth c H1 locs1 cells slots Q (F0 m (pc + 3) ls rest)) : W p l e R s m args below meth c H locs cells slots Q (F0 m pc ls (v :: .ref a :: rest)) :=
  dw_putF (C := "TextDesk$JoinedText") (T := F_JT) (N := 5) X.1 X.2.1 X.hts i_JT t_JT t_JT_ok n_JT X.own X.K hw he rfl 2 (by decide) (X.hts _ mw_421) (fun _ h9 => h9) rfl hin rfl (ty := .object "TextDesk$Text") (by decide +kernel) hn hfit (Nat.le_of_ble_eq_true rfl) hdg kk
theorem pf_JT_21_JT (X : cx G "TextDesk$JoinedText" p s m args c cc nL) (hin : meth.name = "<init>") (hw : dw G.1 dk_cl A H0 f H locs) {v0 v1 v2 v3 v4 v : Value} (he : f a = some (.inr (3, [v0, v1, v2, v3, v4]))) (hn : narrow (.object "TextDesk$Text") v = v) (hfit : fits (.object "TextDesk$Text") v = true) (hdg : decode cc pc = .ok (.putfield 21, 3)) (kk : ∀ (H1 : Heap) (locs1 : List Loc), dw G.1 dk_cl A H0 (dw_up f a (.inr (3, [v0, v1, v2, v, v4]))) H1 locs1 → W p l e R s m args below meth c H1 locs1 cells slots Q (F0 m (pc + 3) ls rest)) : W p l e R s m args below meth c H locs cells slots Q (F0 m pc ls (v :: .ref a :: rest)) :=
  dw_putF (C := "TextDesk$JoinedText") (T := F_JT) (N := 5) X.1 X.2.1 X.hts i_JT t_JT t_JT_ok n_JT X.own X.K hw he rfl 3 (by decide) (X.hts _ mw_422) (fun _ h9 => h9) rfl hin rfl (ty := .object "TextDesk$Text") (by decide +kernel) hn hfit (Nat.le_of_ble_eq_true rfl) hdg kk
theorem gf_TX_13_NT (X : cx G "TextDesk$Text" p s m args c cc nL) (hw : dw G.1 dk_cl A H0 f H locs) {v0 v1 v2 : Value} (he : f a = some (.inr (1, [v0, v1, v2]))) (hdg : decode cc pc = .ok (.getfield 13, 3)) (kk : W p l e R s m args below meth c H locs cells slots Q (F0 m (pc + 3) ls (v1 :: rest))) : W p l e R s m args below meth c H locs cells slots Q (F0 m pc ls (.ref a :: rest)) :=
  dw_get (C := "TextDesk$NarrowText") (T := F_NT) (N := 3) X.1 X.2.1 X.hts i_NT X.own X.K hw he rfl 1 (by decide) (X.hts _ mw_172) (fun _ h9 => h9) rfl hdg kk
theorem gf_TX_13_WT (X : cx G "TextDesk$Text" p s m args c cc nL) (hw : dw G.1 dk_cl A H0 f H locs) {v0 v1 v2 : Value} (he : f a = some (.inr (2, [v0, v1, v2]))) (hdg : decode cc pc = .ok (.getfield 13, 3)) (kk : W p l e R s m args below meth c H locs cells slots Q (F0 m (pc + 3) ls (v1 :: rest))) : W p l e R s m args below meth c H locs cells slots Q (F0 m pc ls (.ref a :: rest)) :=
  dw_get (C := "TextDesk$WideText") (T := F_WT) (N := 3) X.1 X.2.1 X.hts i_WT X.own X.K hw he rfl 1 (by decide) (X.hts _ mw_172) (fun _ h9 => h9) rfl hdg kk
theorem gf_TX_13_JT (X : cx G "TextDesk$Text" p s m args c cc nL) (hw : dw G.1 dk_cl A H0 f H locs) {v0 v1 v2 v3 v4 : Value} (he : f a = some (.inr (3, [v0, v1, v2, v3, v4]))) (hdg : decode cc pc = .ok (.getfield 13, 3)) (kk : W p l e R s m args below meth c H locs cells slots Q (F0 m (pc + 3) ls (v1 :: rest))) : W p l e R s m args below meth c H locs cells slots Q (F0 m pc ls (.ref a :: rest)) :=
  dw_get (C := "TextDesk$JoinedText") (T := F_JT) (N := 5) X.1 X.2.1 X.hts i_JT X.own X.K hw he rfl 1 (by decide) (X.hts _ mw_172) (fun _ h9 => h9) rfl hdg kk
theorem cs_DK_114 (X : cx G "TextDesk" p s m args c cc nL) (hz : ct_z G A s) (hw : dw G.1 dk_cl A s.heap f H locs) (hls : ls.size = nL) {v1 v2 v3 : Value} {fs : List Value} (he : f b = some (.inr (5, fs))) (hc : ct l y_DK_keepRange w_DK_keepRange fr lo G f H.size [.ref b, v1, v2, v3] post px mc ms) (hR : fr + 1 ≤ R.frames ∧ 8 + (4 + 11) + lo ≤ R.locals) (hf : cells + mc ≤ R.cells ∧ slots + ms ≤ R.slots) (hW : (rest.map fun v => v.category).sum ≤ 8) (hdg : decode cc pc = .ok (.invokevirtual 114, 3))
    (kx : ∀ (E : String) (ce : Cell) (q9 : Addr) (f' : dw_M) (H1 : Heap) (locs1 : List Loc), px E f' → dw G.1 dk_cl A s.heap f' H1 locs1 → H.size ≤ H1.size → (∀ q : Nat, q < H.size → ¬ dw_A f H.size q → H1[q]? = H[q]?) → (∀ q x, f' q = some x → dw_A f H.size q) → H1[q9]? = some ce → ce.vm = .none → s.vm.findClass E = some ce.cls → vx_W p l e R s m args below meth c H1 locs1 (cells + mc) (slots + ms) Q (F0 m pc ls rest) q9)
    (kk : ∀ (v : Option Value) (f' : dw_M) (H1 : Heap) (locs1 : List Loc), post v f' → dw G.1 dk_cl A s.heap f' H1 locs1 → H.size ≤ H1.size → (∀ q : Nat, q < H.size → ¬ dw_A f H.size q → H1[q]? = H[q]?) → (∀ q x, f' q = some x → dw_A f H.size q) → W p l e R s m args below meth c H1 locs1 (cells + mc) (slots + ms) Q (F0 m (pc + 3) ls (v.toList ++ rest))) : W p l e R s m args below meth c H locs cells slots Q (F0 m pc ls (v3 :: v2 :: v1 :: .ref b :: rest)) :=
  ct_call (vx_runV (As := [v1, v2, v3]) (rest := rest) X.fix hc (cwV 3 X.hts (dk_gV mw_440 mw_442 ms_5 mw_1 mw_443) rfl rfl rfl (by decide +kernel) hR) ⟨ct_blind _ _ _ _, va_recv X.K (hw.P1 he) (ci := 5) (q0 := 0) rfl rfl, ct_pre [.ref b, v1, v2, v3] X.E hz hw⟩ rfl rfl hls rfl (lv_room hW) hdg hf) hw kx kk
theorem cs_DK_118 (X : cx G "TextDesk" p s m args c cc nL) (hz : ct_z G A s) (hw : dw G.1 dk_cl A s.heap f H locs) (hls : ls.size = nL) {v1 v2 v3 : Value} (hc : cn l y_DK_standsAt w_DK_standsAt fr lo G f H.size [v1, v2, v3] post mc ms) (hR : fr + 1 ≤ R.frames ∧ 8 + (4 + 11) + lo ≤ R.locals) (hf : cells + mc ≤ R.cells ∧ slots + ms ≤ R.slots) (hW : (rest.map fun v => v.category).sum ≤ 8) (hdg : decode cc pc = .ok (.invokestatic 118, 3))
    (kk : ∀ (v : Option Value) (f' : dw_M) (H1 : Heap) (locs1 : List Loc), post v f' → dw G.1 dk_cl A s.heap f' H1 locs1 → H.size ≤ H1.size → (∀ q : Nat, q < H.size → ¬ dw_A f H.size q → H1[q]? = H[q]?) → (∀ q x, f' q = some x → dw_A f H.size q) → W p l e R s m args below meth c H1 locs1 (cells + mc) (slots + ms) Q (F0 m (pc + 3) ls (v.toList ++ rest))) : W p l e R s m args below meth c H locs cells slots Q (F0 m pc ls (v3 :: v2 :: v1 :: rest)) :=
  cn_call (va_runS (As := [v1, v2, v3]) (rest := rest) X.fix hc (va_cwS 3 X.hts (dk_gS mw_451 mw_452 mw_1 mw_453) rfl rfl rfl (by decide +kernel) hR) ⟨ct_blind _ _ _ _, ct_pre [v1, v2, v3] X.E hz hw⟩ rfl rfl hls rfl (lv_room hW) hdg hf) hw kk
theorem cs_DK_122_JT (X : cx G "TextDesk" p s m args c cc nL) (hz : ct_z G A s) (hw : dw G.1 dk_cl A s.heap f H locs) (hls : ls.size = nL) {v1 : Value} {fs : List Value} (he : f b = some (.inr (3, fs))) (hc : cn l y_JT_get w_JT_get fr lo G f H.size [.ref b, v1] post mc ms) (hR : fr + 1 ≤ R.frames ∧ 8 + (3 + 11) + lo ≤ R.locals) (hf : cells + mc ≤ R.cells ∧ slots + ms ≤ R.slots) (hW : (rest.map fun v => v.category).sum ≤ 8) (hdg : decode cc pc = .ok (.invokevirtual 122, 3))
    (kk : ∀ (v : Option Value) (f' : dw_M) (H1 : Heap) (locs1 : List Loc), post v f' → dw G.1 dk_cl A s.heap f' H1 locs1 → H.size ≤ H1.size → (∀ q : Nat, q < H.size → ¬ dw_A f H.size q → H1[q]? = H[q]?) → (∀ q x, f' q = some x → dw_A f H.size q) → W p l e R s m args below meth c H1 locs1 (cells + mc) (slots + ms) Q (F0 m (pc + 3) ls (v.toList ++ rest))) : W p l e R s m args below meth c H locs cells slots Q (F0 m pc ls (v1 :: .ref b :: rest)) :=
  cn_call (va_runU (As := [v1]) (rest := rest) X.fix hc (va_cwA (x := ⟨"TextDesk$Text", "get", "(I)I"⟩) (owner := "TextDesk$Sequence") 1 X.hts (dk_gU mw_454 mw_197 mw_198 mw_109 mw_16 mw_110) rfl rfl rfl (X.E.2.2.2.2.1 ⟨"TextDesk$Sequence", "get", "(I)I"⟩ (by decide +kernel)) (by decide +kernel) hR) ⟨ct_blind _ _ _ _, va_recv X.K (hw.P1 he) (ci := 3) (q0 := 0) rfl rfl, ct_pre [.ref b, v1] X.E hz hw⟩ rfl rfl hls rfl (lv_room hW) hdg hf) hw kk
theorem cs_DK_122_NT (X : cx G "TextDesk" p s m args c cc nL) (hz : ct_z G A s) (hw : dw G.1 dk_cl A s.heap f H locs) (hls : ls.size = nL) {v1 : Value} {fs : List Value} (he : f b = some (.inr (1, fs))) (hc : cn l y_NT_get w_NT_get fr lo G f H.size [.ref b, v1] post mc ms) (hR : fr + 1 ≤ R.frames ∧ 8 + (2 + 11) + lo ≤ R.locals) (hf : cells + mc ≤ R.cells ∧ slots + ms ≤ R.slots) (hW : (rest.map fun v => v.category).sum ≤ 8) (hdg : decode cc pc = .ok (.invokevirtual 122, 3))
    (kk : ∀ (v : Option Value) (f' : dw_M) (H1 : Heap) (locs1 : List Loc), post v f' → dw G.1 dk_cl A s.heap f' H1 locs1 → H.size ≤ H1.size → (∀ q : Nat, q < H.size → ¬ dw_A f H.size q → H1[q]? = H[q]?) → (∀ q x, f' q = some x → dw_A f H.size q) → W p l e R s m args below meth c H1 locs1 (cells + mc) (slots + ms) Q (F0 m (pc + 3) ls (v.toList ++ rest))) : W p l e R s m args below meth c H locs cells slots Q (F0 m pc ls (v1 :: .ref b :: rest)) :=
  cn_call (va_runU (As := [v1]) (rest := rest) X.fix hc (va_cwA (x := ⟨"TextDesk$Text", "get", "(I)I"⟩) (owner := "TextDesk$Sequence") 1 X.hts (dk_gU mw_454 mw_197 mw_199 mw_145 mw_14 mw_146) rfl rfl rfl (X.E.2.2.2.2.1 ⟨"TextDesk$Sequence", "get", "(I)I"⟩ (by decide +kernel)) (by decide +kernel) hR) ⟨ct_blind _ _ _ _, va_recv X.K (hw.P1 he) (ci := 1) (q0 := 0) rfl rfl, ct_pre [.ref b, v1] X.E hz hw⟩ rfl rfl hls rfl (lv_room hW) hdg hf) hw kk
theorem cs_DK_122_WT (X : cx G "TextDesk" p s m args c cc nL) (hz : ct_z G A s) (hw : dw G.1 dk_cl A s.heap f H locs) (hls : ls.size = nL) {v1 : Value} {fs : List Value} (he : f b = some (.inr (2, fs))) (hc : cn l y_WT_get w_WT_get fr lo G f H.size [.ref b, v1] post mc ms) (hR : fr + 1 ≤ R.frames ∧ 8 + (2 + 11) + lo ≤ R.locals) (hf : cells + mc ≤ R.cells ∧ slots + ms ≤ R.slots) (hW : (rest.map fun v => v.category).sum ≤ 8) (hdg : decode cc pc = .ok (.invokevirtual 122, 3))
    (kk : ∀ (v : Option Value) (f' : dw_M) (H1 : Heap) (locs1 : List Loc), post v f' → dw G.1 dk_cl A s.heap f' H1 locs1 → H.size ≤ H1.size → (∀ q : Nat, q < H.size → ¬ dw_A f H.size q → H1[q]? = H[q]?) → (∀ q x, f' q = some x → dw_A f H.size q) → W p l e R s m args below meth c H1 locs1 (cells + mc) (slots + ms) Q (F0 m (pc + 3) ls (v.toList ++ rest))) : W p l e R s m args below meth c H locs cells slots Q (F0 m pc ls (v1 :: .ref b :: rest)) :=
  cn_call (va_runU (As := [v1]) (rest := rest) X.fix hc (va_cwA (x := ⟨"TextDesk$Text", "get", "(I)I"⟩) (owner := "TextDesk$Sequence") 1 X.hts (dk_gU mw_454 mw_197 mw_200 mw_149 mw_13 mw_150) rfl rfl rfl (X.E.2.2.2.2.1 ⟨"TextDesk$Sequence", "get", "(I)I"⟩ (by decide +kernel)) (by decide +kernel) hR) ⟨ct_blind _ _ _ _, va_recv X.K (hw.P1 he) (ci := 2) (q0 := 0) rfl rfl, ct_pre [.ref b, v1] X.E hz hw⟩ rfl rfl hls rfl (lv_room hW) hdg hf) hw kk
theorem cs_DK_123 (X : cx G "TextDesk" p s m args c cc nL) (hz : ct_z G A s) (hw : dw G.1 dk_cl A s.heap f H locs) (hls : ls.size = nL) {v1 v2 : Value} (hc : cn l y_DK_characterAt w_DK_characterAt fr lo G f H.size [v1, v2] post mc ms) (hR : fr + 1 ≤ R.frames ∧ 8 + (3 + 11) + lo ≤ R.locals) (hf : cells + mc ≤ R.cells ∧ slots + ms ≤ R.slots) (hW : (rest.map fun v => v.category).sum ≤ 8) (hdg : decode cc pc = .ok (.invokestatic 123, 3))
    (kk : ∀ (v : Option Value) (f' : dw_M) (H1 : Heap) (locs1 : List Loc), post v f' → dw G.1 dk_cl A s.heap f' H1 locs1 → H.size ≤ H1.size → (∀ q : Nat, q < H.size → ¬ dw_A f H.size q → H1[q]? = H[q]?) → (∀ q x, f' q = some x → dw_A f H.size q) → W p l e R s m args below meth c H1 locs1 (cells + mc) (slots + ms) Q (F0 m (pc + 3) ls (v.toList ++ rest))) : W p l e R s m args below meth c H locs cells slots Q (F0 m pc ls (v2 :: v1 :: rest)) :=
  cn_call (va_runS (As := [v1, v2]) (rest := rest) X.fix hc (va_cwS 2 X.hts (dk_gS mw_476 mw_477 mw_1 mw_478) rfl rfl rfl (by decide +kernel) hR) ⟨ct_blind _ _ _ _, ct_pre [v1, v2] X.E hz hw⟩ rfl rfl hls rfl (lv_room hW) hdg hf) hw kk
theorem cs_DK_131_JT (X : cx G "TextDesk" p s m args c cc nL) (hz : ct_z G A s) (hw : dw G.1 dk_cl A s.heap f H locs) (hls : ls.size = nL) {fs : List Value} (he : f b = some (.inr (3, fs))) (hc : cn l y_TX_isNarrow w_TX_isNarrow fr lo G f H.size [.ref b] post mc ms) (hR : fr + 1 ≤ R.frames ∧ 8 + (1 + 11) + lo ≤ R.locals) (hf : cells + mc ≤ R.cells ∧ slots + ms ≤ R.slots) (hW : (rest.map fun v => v.category).sum ≤ 8) (hdg : decode cc pc = .ok (.invokevirtual 131, 3))
    (kk : ∀ (v : Option Value) (f' : dw_M) (H1 : Heap) (locs1 : List Loc), post v f' → dw G.1 dk_cl A s.heap f' H1 locs1 → H.size ≤ H1.size → (∀ q : Nat, q < H.size → ¬ dw_A f H.size q → H1[q]? = H[q]?) → (∀ q x, f' q = some x → dw_A f H.size q) → W p l e R s m args below meth c H1 locs1 (cells + mc) (slots + ms) Q (F0 m (pc + 3) ls (v.toList ++ rest))) : W p l e R s m args below meth c H locs cells slots Q (F0 m pc ls (.ref b :: rest)) :=
  cn_call (va_runU (As := []) (rest := rest) X.fix hc (va_cwU (x := ⟨"TextDesk$Text", "isNarrow", "()Z"⟩) (owner := "TextDesk$Text") 0 X.hts (dk_gU mw_487 mw_415 mw_416 mw_414 mw_12 mw_419) rfl rfl rfl rfl (by decide +kernel) hR) ⟨ct_blind _ _ _ _, va_recv X.K (hw.P1 he) (ci := 3) (q0 := 0) rfl rfl, ct_pre [.ref b] X.E hz hw⟩ rfl rfl hls rfl (lv_room hW) hdg hf) hw kk
theorem cs_DK_131_NT (X : cx G "TextDesk" p s m args c cc nL) (hz : ct_z G A s) (hw : dw G.1 dk_cl A s.heap f H locs) (hls : ls.size = nL) {fs : List Value} (he : f b = some (.inr (1, fs))) (hc : cn l y_TX_isNarrow w_TX_isNarrow fr lo G f H.size [.ref b] post mc ms) (hR : fr + 1 ≤ R.frames ∧ 8 + (1 + 11) + lo ≤ R.locals) (hf : cells + mc ≤ R.cells ∧ slots + ms ≤ R.slots) (hW : (rest.map fun v => v.category).sum ≤ 8) (hdg : decode cc pc = .ok (.invokevirtual 131, 3))
    (kk : ∀ (v : Option Value) (f' : dw_M) (H1 : Heap) (locs1 : List Loc), post v f' → dw G.1 dk_cl A s.heap f' H1 locs1 → H.size ≤ H1.size → (∀ q : Nat, q < H.size → ¬ dw_A f H.size q → H1[q]? = H[q]?) → (∀ q x, f' q = some x → dw_A f H.size q) → W p l e R s m args below meth c H1 locs1 (cells + mc) (slots + ms) Q (F0 m (pc + 3) ls (v.toList ++ rest))) : W p l e R s m args below meth c H locs cells slots Q (F0 m pc ls (.ref b :: rest)) :=
  cn_call (va_runU (As := []) (rest := rest) X.fix hc (va_cwU (x := ⟨"TextDesk$Text", "isNarrow", "()Z"⟩) (owner := "TextDesk$Text") 0 X.hts (dk_gU mw_487 mw_415 mw_417 mw_414 mw_12 mw_419) rfl rfl rfl rfl (by decide +kernel) hR) ⟨ct_blind _ _ _ _, va_recv X.K (hw.P1 he) (ci := 1) (q0 := 0) rfl rfl, ct_pre [.ref b] X.E hz hw⟩ rfl rfl hls rfl (lv_room hW) hdg hf) hw kk
theorem cs_DK_131_WT (X : cx G "TextDesk" p s m args c cc nL) (hz : ct_z G A s) (hw : dw G.1 dk_cl A s.heap f H locs) (hls : ls.size = nL) {fs : List Value} (he : f b = some (.inr (2, fs))) (hc : cn l y_TX_isNarrow w_TX_isNarrow fr lo G f H.size [.ref b] post mc ms) (hR : fr + 1 ≤ R.frames ∧ 8 + (1 + 11) + lo ≤ R.locals) (hf : cells + mc ≤ R.cells ∧ slots + ms ≤ R.slots) (hW : (rest.map fun v => v.category).sum ≤ 8) (hdg : decode cc pc = .ok (.invokevirtual 131, 3))
    (kk : ∀ (v : Option Value) (f' : dw_M) (H1 : Heap) (locs1 : List Loc), post v f' → dw G.1 dk_cl A s.heap f' H1 locs1 → H.size ≤ H1.size → (∀ q : Nat, q < H.size → ¬ dw_A f H.size q → H1[q]? = H[q]?) → (∀ q x, f' q = some x → dw_A f H.size q) → W p l e R s m args below meth c H1 locs1 (cells + mc) (slots + ms) Q (F0 m (pc + 3) ls (v.toList ++ rest))) : W p l e R s m args below meth c H locs cells slots Q (F0 m pc ls (.ref b :: rest)) :=
  cn_call (va_runU (As := []) (rest := rest) X.fix hc (va_cwU (x := ⟨"TextDesk$Text", "isNarrow", "()Z"⟩) (owner := "TextDesk$Text") 0 X.hts (dk_gU mw_487 mw_415 mw_418 mw_414 mw_12 mw_419) rfl rfl rfl rfl (by decide +kernel) hR) ⟨ct_blind _ _ _ _, va_recv X.K (hw.P1 he) (ci := 2) (q0 := 0) rfl rfl, ct_pre [.ref b] X.E hz hw⟩ rfl rfl hls rfl (lv_room hW) hdg hf) hw kk
theorem cs_DK_134 (X : cx G "TextDesk" p s m args c cc nL) (hz : ct_z G A s) (hw : dw G.1 dk_cl A s.heap f H locs) (hls : ls.size = nL) {v1 v2 : Value} (hc : cn l y_DK_difference w_DK_difference fr lo G f H.size [v1, v2] post mc ms) (hR : fr + 1 ≤ R.frames ∧ 8 + (4 + 11) + lo ≤ R.locals) (hf : cells + mc ≤ R.cells ∧ slots + ms ≤ R.slots) (hW : (rest.map fun v => v.category).sum ≤ 8) (hdg : decode cc pc = .ok (.invokestatic 134, 3))
    (kk : ∀ (v : Option Value) (f' : dw_M) (H1 : Heap) (locs1 : List Loc), post v f' → dw G.1 dk_cl A s.heap f' H1 locs1 → H.size ≤ H1.size → (∀ q : Nat, q < H.size → ¬ dw_A f H.size q → H1[q]? = H[q]?) → (∀ q x, f' q = some x → dw_A f H.size q) → W p l e R s m args below meth c H1 locs1 (cells + mc) (slots + ms) Q (F0 m (pc + 3) ls (v.toList ++ rest))) : W p l e R s m args below meth c H locs cells slots Q (F0 m pc ls (v2 :: v1 :: rest)) :=
  cn_call (va_runS (As := [v1, v2]) (rest := rest) X.fix hc (va_cwS 2 X.hts (dk_gS mw_502 mw_503 mw_1 mw_504) rfl rfl rfl (by decide +kernel) hR) ⟨ct_blind _ _ _ _, ct_pre [v1, v2] X.E hz hw⟩ rfl rfl hls rfl (lv_room hW) hdg hf) hw kk
theorem cs_DK_138 (X : cx G "TextDesk" p s m args c cc nL) (hz : ct_z G A s) (hw : dw G.1 dk_cl A s.heap f H locs) (hls : ls.size = nL) {v1 v2 v3 : Value} (hc : cn l y_DK_lastPlace w_DK_lastPlace fr lo G f H.size [v1, v2, v3] post mc ms) (hR : fr + 1 ≤ R.frames ∧ 8 + (5 + 11) + lo ≤ R.locals) (hf : cells + mc ≤ R.cells ∧ slots + ms ≤ R.slots) (hW : (rest.map fun v => v.category).sum ≤ 8) (hdg : decode cc pc = .ok (.invokestatic 138, 3))
    (kk : ∀ (v : Option Value) (f' : dw_M) (H1 : Heap) (locs1 : List Loc), post v f' → dw G.1 dk_cl A s.heap f' H1 locs1 → H.size ≤ H1.size → (∀ q : Nat, q < H.size → ¬ dw_A f H.size q → H1[q]? = H[q]?) → (∀ q x, f' q = some x → dw_A f H.size q) → W p l e R s m args below meth c H1 locs1 (cells + mc) (slots + ms) Q (F0 m (pc + 3) ls (v.toList ++ rest))) : W p l e R s m args below meth c H locs cells slots Q (F0 m pc ls (v3 :: v2 :: v1 :: rest)) :=
  cn_call (va_runS (As := [v1, v2, v3]) (rest := rest) X.fix hc (va_cwS 3 X.hts (dk_gS mw_513 mw_514 mw_1 mw_515) rfl rfl rfl (by decide +kernel) hR) ⟨ct_blind _ _ _ _, ct_pre [v1, v2, v3] X.E hz hw⟩ rfl rfl hls rfl (lv_room hW) hdg hf) hw kk
theorem cs_DK_142 (X : cx G "TextDesk" p s m args c cc nL) (hz : ct_z G A s) (hw : dw G.1 dk_cl A s.heap f H locs) (hls : ls.size = nL) {v1 v2 v3 : Value} (hc : cn l y_DK_firstPlace w_DK_firstPlace fr lo G f H.size [v1, v2, v3] post mc ms) (hR : fr + 1 ≤ R.frames ∧ 8 + (5 + 11) + lo ≤ R.locals) (hf : cells + mc ≤ R.cells ∧ slots + ms ≤ R.slots) (hW : (rest.map fun v => v.category).sum ≤ 8) (hdg : decode cc pc = .ok (.invokestatic 142, 3))
    (kk : ∀ (v : Option Value) (f' : dw_M) (H1 : Heap) (locs1 : List Loc), post v f' → dw G.1 dk_cl A s.heap f' H1 locs1 → H.size ≤ H1.size → (∀ q : Nat, q < H.size → ¬ dw_A f H.size q → H1[q]? = H[q]?) → (∀ q x, f' q = some x → dw_A f H.size q) → W p l e R s m args below meth c H1 locs1 (cells + mc) (slots + ms) Q (F0 m (pc + 3) ls (v.toList ++ rest))) : W p l e R s m args below meth c H locs cells slots Q (F0 m pc ls (v3 :: v2 :: v1 :: rest)) :=
  cn_call (va_runS (As := [v1, v2, v3]) (rest := rest) X.fix hc (va_cwS 3 X.hts (dk_gS mw_516 mw_517 mw_1 mw_518) rfl rfl rfl (by decide +kernel) hR) ⟨ct_blind _ _ _ _, ct_pre [v1, v2, v3] X.E hz hw⟩ rfl rfl hls rfl (lv_room hW) hdg hf) hw kk
theorem gf_DK_145_DK (X : cx G "TextDesk" p s m args c cc nL) (hw : dw G.1 dk_cl A H0 f H locs) {v0 v1 v2 v3 v4 v5 v6 v7 : Value} (he : f a = some (.inr (5, [v0, v1, v2, v3, v4, v5, v6, v7]))) (hdg : decode cc pc = .ok (.getfield 145, 3)) (kk : W p l e R s m args below meth c H locs cells slots Q (F0 m (pc + 3) ls (v3 :: rest))) : W p l e R s m args below meth c H locs cells slots Q (F0 m pc ls (.ref a :: rest)) :=
  dw_get (C := "TextDesk") (T := F_DK) (N := 8) X.1 X.2.1 X.hts i_DK X.own X.K hw he rfl 3 (by decide) (X.hts _ mw_68) (fun _ h9 => h9) rfl hdg kk
theorem cs_DK_151 (X : cx G "TextDesk" p s m args c cc nL) (hz : ct_z G A s) (hw : dw G.1 dk_cl A s.heap f H locs) (hls : ls.size = nL) {v1 : Value} (hc : ct l y_DK_refuseUnknownEncoding w_DK_refuseUnknownEncoding fr lo G f H.size [v1] post px mc ms) (hR : fr + 1 ≤ R.frames ∧ 8 + (1 + 11) + lo ≤ R.locals) (hf : cells + mc ≤ R.cells ∧ slots + ms ≤ R.slots) (hW : (rest.map fun v => v.category).sum ≤ 8) (hdg : decode cc pc = .ok (.invokestatic 151, 3))
    (kx : ∀ (E : String) (ce : Cell) (q9 : Addr) (f' : dw_M) (H1 : Heap) (locs1 : List Loc), px E f' → dw G.1 dk_cl A s.heap f' H1 locs1 → H.size ≤ H1.size → (∀ q : Nat, q < H.size → ¬ dw_A f H.size q → H1[q]? = H[q]?) → (∀ q x, f' q = some x → dw_A f H.size q) → H1[q9]? = some ce → ce.vm = .none → s.vm.findClass E = some ce.cls → vx_W p l e R s m args below meth c H1 locs1 (cells + mc) (slots + ms) Q (F0 m pc ls rest) q9)
    (kk : ∀ (v : Option Value) (f' : dw_M) (H1 : Heap) (locs1 : List Loc), post v f' → dw G.1 dk_cl A s.heap f' H1 locs1 → H.size ≤ H1.size → (∀ q : Nat, q < H.size → ¬ dw_A f H.size q → H1[q]? = H[q]?) → (∀ q x, f' q = some x → dw_A f H.size q) → W p l e R s m args below meth c H1 locs1 (cells + mc) (slots + ms) Q (F0 m (pc + 3) ls (v.toList ++ rest))) : W p l e R s m args below meth c H locs cells slots Q (F0 m pc ls (v1 :: rest)) :=
  ct_call (vx_runS (As := [v1]) (rest := rest) X.fix hc (va_cwS 1 X.hts (dk_gS mw_535 mw_536 mw_1 mw_537) rfl rfl rfl (by decide +kernel) hR) ⟨ct_blind _ _ _ _, ct_pre [v1] X.E hz hw⟩ rfl rfl hls rfl (lv_room hW) hdg hf) hw kx kk
theorem gf_DK_23_DK (X : cx G "TextDesk" p s m args c cc nL) (hw : dw G.1 dk_cl A H0 f H locs) {v0 v1 v2 v3 v4 v5 v6 v7 : Value} (he : f a = some (.inr (5, [v0, v1, v2, v3, v4, v5, v6, v7]))) (hdg : decode cc pc = .ok (.getfield 23, 3)) (kk : W p l e R s m args below meth c H locs cells slots Q (F0 m (pc + 3) ls (v4 :: rest))) : W p l e R s m args below meth c H locs cells slots Q (F0 m pc ls (.ref a :: rest)) :=
  dw_get (C := "TextDesk") (T := F_DK) (N := 8) X.1 X.2.1 X.hts i_DK X.own X.K hw he rfl 4 (by decide) (X.hts _ mw_69) (fun _ h9 => h9) rfl hdg kk
theorem cs_DK_154 (X : cx G "TextDesk" p s m args c cc nL) (hz : ct_z G A s) (hw : dw G.1 dk_cl A s.heap f H locs) (hls : ls.size = nL) {v1 v2 v3 : Value} (hc : cn l y_EN_writeText w_EN_writeText fr lo G f H.size [v1, v2, v3] post mc ms) (hR : fr + 1 ≤ R.frames ∧ 8 + (6 + 11) + lo ≤ R.locals) (hf : cells + mc ≤ R.cells ∧ slots + ms ≤ R.slots) (hW : (rest.map fun v => v.category).sum ≤ 8) (hdg : decode cc pc = .ok (.invokestatic 154, 3))
    (kk : ∀ (v : Option Value) (f' : dw_M) (H1 : Heap) (locs1 : List Loc), post v f' → dw G.1 dk_cl A s.heap f' H1 locs1 → H.size ≤ H1.size → (∀ q : Nat, q < H.size → ¬ dw_A f H.size q → H1[q]? = H[q]?) → (∀ q x, f' q = some x → dw_A f H.size q) → W p l e R s m args below meth c H1 locs1 (cells + mc) (slots + ms) Q (F0 m (pc + 3) ls (v.toList ++ rest))) : W p l e R s m args below meth c H locs cells slots Q (F0 m pc ls (v3 :: v2 :: v1 :: rest)) :=
  cn_call (va_runS (As := [v1, v2, v3]) (rest := rest) X.fix hc (va_cwS 3 X.hts (dk_gS mw_539 mw_540 mw_17 mw_541) rfl rfl rfl (by decide +kernel) hR) ⟨ct_blind _ _ _ _, ct_pre [v1, v2, v3] X.E hz hw⟩ rfl rfl hls rfl (lv_room hW) hdg hf) hw kk
theorem cs_EN_9_JT (X : cx G "TextDesk$Encoder" p s m args c cc nL) (hz : ct_z G A s) (hw : dw G.1 dk_cl A s.heap f H locs) (hls : ls.size = nL) {fs : List Value} (he : f b = some (.inr (3, fs))) (hc : cn l y_TX_size w_TX_size fr lo G f H.size [.ref b] post mc ms) (hR : fr + 1 ≤ R.frames ∧ 8 + (1 + 11) + lo ≤ R.locals) (hf : cells + mc ≤ R.cells ∧ slots + ms ≤ R.slots) (hW : (rest.map fun v => v.category).sum ≤ 8) (hdg : decode cc pc = .ok (.invokevirtual 9, 3))
    (kk : ∀ (v : Option Value) (f' : dw_M) (H1 : Heap) (locs1 : List Loc), post v f' → dw G.1 dk_cl A s.heap f' H1 locs1 → H.size ≤ H1.size → (∀ q : Nat, q < H.size → ¬ dw_A f H.size q → H1[q]? = H[q]?) → (∀ q x, f' q = some x → dw_A f H.size q) → W p l e R s m args below meth c H1 locs1 (cells + mc) (slots + ms) Q (F0 m (pc + 3) ls (v.toList ++ rest))) : W p l e R s m args below meth c H locs cells slots Q (F0 m pc ls (.ref b :: rest)) :=
  cn_call (va_runU (As := []) (rest := rest) X.fix hc (va_cwU (x := ⟨"TextDesk$Text", "size", "()I"⟩) (owner := "TextDesk$Text") 0 X.hts (dk_gU mw_542 mw_882 mw_883 mw_116 mw_12 mw_117) rfl rfl rfl rfl (by decide +kernel) hR) ⟨ct_blind _ _ _ _, va_recv X.K (hw.P1 he) (ci := 3) (q0 := 0) rfl rfl, ct_pre [.ref b] X.E hz hw⟩ rfl rfl hls rfl (lv_room hW) hdg hf) hw kk
theorem cs_EN_9_NT (X : cx G "TextDesk$Encoder" p s m args c cc nL) (hz : ct_z G A s) (hw : dw G.1 dk_cl A s.heap f H locs) (hls : ls.size = nL) {fs : List Value} (he : f b = some (.inr (1, fs))) (hc : cn l y_TX_size w_TX_size fr lo G f H.size [.ref b] post mc ms) (hR : fr + 1 ≤ R.frames ∧ 8 + (1 + 11) + lo ≤ R.locals) (hf : cells + mc ≤ R.cells ∧ slots + ms ≤ R.slots) (hW : (rest.map fun v => v.category).sum ≤ 8) (hdg : decode cc pc = .ok (.invokevirtual 9, 3))
    (kk : ∀ (v : Option Value) (f' : dw_M) (H1 : Heap) (locs1 : List Loc), post v f' → dw G.1 dk_cl A s.heap f' H1 locs1 → H.size ≤ H1.size → (∀ q : Nat, q < H.size → ¬ dw_A f H.size q → H1[q]? = H[q]?) → (∀ q x, f' q = some x → dw_A f H.size q) → W p l e R s m args below meth c H1 locs1 (cells + mc) (slots + ms) Q (F0 m (pc + 3) ls (v.toList ++ rest))) : W p l e R s m args below meth c H locs cells slots Q (F0 m pc ls (.ref b :: rest)) :=
  cn_call (va_runU (As := []) (rest := rest) X.fix hc (va_cwU (x := ⟨"TextDesk$Text", "size", "()I"⟩) (owner := "TextDesk$Text") 0 X.hts (dk_gU mw_542 mw_882 mw_884 mw_116 mw_12 mw_117) rfl rfl rfl rfl (by decide +kernel) hR) ⟨ct_blind _ _ _ _, va_recv X.K (hw.P1 he) (ci := 1) (q0 := 0) rfl rfl, ct_pre [.ref b] X.E hz hw⟩ rfl rfl hls rfl (lv_room hW) hdg hf) hw kk
theorem cs_EN_9_WT (X : cx G "TextDesk$Encoder" p s m args c cc nL) (hz : ct_z G A s) (hw : dw G.1 dk_cl A s.heap f H locs) (hls : ls.size = nL) {fs : List Value} (he : f b = some (.inr (2, fs))) (hc : cn l y_TX_size w_TX_size fr lo G f H.size [.ref b] post mc ms) (hR : fr + 1 ≤ R.frames ∧ 8 + (1 + 11) + lo ≤ R.locals) (hf : cells + mc ≤ R.cells ∧ slots + ms ≤ R.slots) (hW : (rest.map fun v => v.category).sum ≤ 8) (hdg : decode cc pc = .ok (.invokevirtual 9, 3))
    (kk : ∀ (v : Option Value) (f' : dw_M) (H1 : Heap) (locs1 : List Loc), post v f' → dw G.1 dk_cl A s.heap f' H1 locs1 → H.size ≤ H1.size → (∀ q : Nat, q < H.size → ¬ dw_A f H.size q → H1[q]? = H[q]?) → (∀ q x, f' q = some x → dw_A f H.size q) → W p l e R s m args below meth c H1 locs1 (cells + mc) (slots + ms) Q (F0 m (pc + 3) ls (v.toList ++ rest))) : W p l e R s m args below meth c H locs cells slots Q (F0 m pc ls (.ref b :: rest)) :=
  cn_call (va_runU (As := []) (rest := rest) X.fix hc (va_cwU (x := ⟨"TextDesk$Text", "size", "()I"⟩) (owner := "TextDesk$Text") 0 X.hts (dk_gU mw_542 mw_882 mw_885 mw_116 mw_12 mw_117) rfl rfl rfl rfl (by decide +kernel) hR) ⟨ct_blind _ _ _ _, va_recv X.K (hw.P1 he) (ci := 2) (q0 := 0) rfl rfl, ct_pre [.ref b] X.E hz hw⟩ rfl rfl hls rfl (lv_room hW) hdg hf) hw kk
theorem cs_EN_15 (X : cx G "TextDesk$Encoder" p s m args c cc nL) (hz : ct_z G A s) (hw : dw G.1 dk_cl A s.heap f H locs) (hls : ls.size = nL) {v1 v2 : Value} (hc : cn l y_DK_characterAt w_DK_characterAt fr lo G f H.size [v1, v2] post mc ms) (hR : fr + 1 ≤ R.frames ∧ 8 + (3 + 11) + lo ≤ R.locals) (hf : cells + mc ≤ R.cells ∧ slots + ms ≤ R.slots) (hW : (rest.map fun v => v.category).sum ≤ 8) (hdg : decode cc pc = .ok (.invokestatic 15, 3))
    (kk : ∀ (v : Option Value) (f' : dw_M) (H1 : Heap) (locs1 : List Loc), post v f' → dw G.1 dk_cl A s.heap f' H1 locs1 → H.size ≤ H1.size → (∀ q : Nat, q < H.size → ¬ dw_A f H.size q → H1[q]? = H[q]?) → (∀ q x, f' q = some x → dw_A f H.size q) → W p l e R s m args below meth c H1 locs1 (cells + mc) (slots + ms) Q (F0 m (pc + 3) ls (v.toList ++ rest))) : W p l e R s m args below meth c H locs cells slots Q (F0 m pc ls (v2 :: v1 :: rest)) :=
  cn_call (va_runSN (As := [v1, v2]) (rest := rest) X.fix hc ⟨va_cnB (host := "TextDesk") 2 X.hts (dk_goodc mw_478) rfl rfl rfl (X.E.2.2.2.1 ("TextDesk$Encoder", 15, ⟨"TextDesk", "characterAt", "(LTextDesk$Sequence;I)I"⟩, "TextDesk") (by decide +kernel)) (X.hts _ mw_1) (by decide +kernel) hR, X.hts _ mw_477, trivial⟩ ⟨ct_blind _ _ _ _, ct_pre [v1, v2] X.E hz hw⟩ rfl rfl hls rfl (lv_room hW) hdg hf) hw kk
theorem cs_EN_19_JT (X : cx G "TextDesk$Encoder" p s m args c cc nL) (hz : ct_z G A s) (hw : dw G.1 dk_cl A s.heap f H locs) (hls : ls.size = nL) {v1 : Value} {fs : List Value} (he : f b = some (.inr (3, fs))) (hc : cn l y_JT_get w_JT_get fr lo G f H.size [.ref b, v1] post mc ms) (hR : fr + 1 ≤ R.frames ∧ 8 + (3 + 11) + lo ≤ R.locals) (hf : cells + mc ≤ R.cells ∧ slots + ms ≤ R.slots) (hW : (rest.map fun v => v.category).sum ≤ 8) (hdg : decode cc pc = .ok (.invokevirtual 19, 3))
    (kk : ∀ (v : Option Value) (f' : dw_M) (H1 : Heap) (locs1 : List Loc), post v f' → dw G.1 dk_cl A s.heap f' H1 locs1 → H.size ≤ H1.size → (∀ q : Nat, q < H.size → ¬ dw_A f H.size q → H1[q]? = H[q]?) → (∀ q x, f' q = some x → dw_A f H.size q) → W p l e R s m args below meth c H1 locs1 (cells + mc) (slots + ms) Q (F0 m (pc + 3) ls (v.toList ++ rest))) : W p l e R s m args below meth c H locs cells slots Q (F0 m pc ls (v1 :: .ref b :: rest)) :=
  cn_call (va_runU (As := [v1]) (rest := rest) X.fix hc (va_cwA (x := ⟨"TextDesk$Text", "get", "(I)I"⟩) (owner := "TextDesk$Sequence") 1 X.hts (dk_gU mw_544 mw_197 mw_198 mw_109 mw_16 mw_110) rfl rfl rfl (X.E.2.2.2.2.1 ⟨"TextDesk$Sequence", "get", "(I)I"⟩ (by decide +kernel)) (by decide +kernel) hR) ⟨ct_blind _ _ _ _, va_recv X.K (hw.P1 he) (ci := 3) (q0 := 0) rfl rfl, ct_pre [.ref b, v1] X.E hz hw⟩ rfl rfl hls rfl (lv_room hW) hdg hf) hw kk
theorem cs_EN_19_NT (X : cx G "TextDesk$Encoder" p s m args c cc nL) (hz : ct_z G A s) (hw : dw G.1 dk_cl A s.heap f H locs) (hls : ls.size = nL) {v1 : Value} {fs : List Value} (he : f b = some (.inr (1, fs))) (hc : cn l y_NT_get w_NT_get fr lo G f H.size [.ref b, v1] post mc ms) (hR : fr + 1 ≤ R.frames ∧ 8 + (2 + 11) + lo ≤ R.locals) (hf : cells + mc ≤ R.cells ∧ slots + ms ≤ R.slots) (hW : (rest.map fun v => v.category).sum ≤ 8) (hdg : decode cc pc = .ok (.invokevirtual 19, 3))
    (kk : ∀ (v : Option Value) (f' : dw_M) (H1 : Heap) (locs1 : List Loc), post v f' → dw G.1 dk_cl A s.heap f' H1 locs1 → H.size ≤ H1.size → (∀ q : Nat, q < H.size → ¬ dw_A f H.size q → H1[q]? = H[q]?) → (∀ q x, f' q = some x → dw_A f H.size q) → W p l e R s m args below meth c H1 locs1 (cells + mc) (slots + ms) Q (F0 m (pc + 3) ls (v.toList ++ rest))) : W p l e R s m args below meth c H locs cells slots Q (F0 m pc ls (v1 :: .ref b :: rest)) :=
  cn_call (va_runU (As := [v1]) (rest := rest) X.fix hc (va_cwA (x := ⟨"TextDesk$Text", "get", "(I)I"⟩) (owner := "TextDesk$Sequence") 1 X.hts (dk_gU mw_544 mw_197 mw_199 mw_145 mw_14 mw_146) rfl rfl rfl (X.E.2.2.2.2.1 ⟨"TextDesk$Sequence", "get", "(I)I"⟩ (by decide +kernel)) (by decide +kernel) hR) ⟨ct_blind _ _ _ _, va_recv X.K (hw.P1 he) (ci := 1) (q0 := 0) rfl rfl, ct_pre [.ref b, v1] X.E hz hw⟩ rfl rfl hls rfl (lv_room hW) hdg hf) hw kk
theorem cs_EN_19_WT (X : cx G "TextDesk$Encoder" p s m args c cc nL) (hz : ct_z G A s) (hw : dw G.1 dk_cl A s.heap f H locs) (hls : ls.size = nL) {v1 : Value} {fs : List Value} (he : f b = some (.inr (2, fs))) (hc : cn l y_WT_get w_WT_get fr lo G f H.size [.ref b, v1] post mc ms) (hR : fr + 1 ≤ R.frames ∧ 8 + (2 + 11) + lo ≤ R.locals) (hf : cells + mc ≤ R.cells ∧ slots + ms ≤ R.slots) (hW : (rest.map fun v => v.category).sum ≤ 8) (hdg : decode cc pc = .ok (.invokevirtual 19, 3))
    (kk : ∀ (v : Option Value) (f' : dw_M) (H1 : Heap) (locs1 : List Loc), post v f' → dw G.1 dk_cl A s.heap f' H1 locs1 → H.size ≤ H1.size → (∀ q : Nat, q < H.size → ¬ dw_A f H.size q → H1[q]? = H[q]?) → (∀ q x, f' q = some x → dw_A f H.size q) → W p l e R s m args below meth c H1 locs1 (cells + mc) (slots + ms) Q (F0 m (pc + 3) ls (v.toList ++ rest))) : W p l e R s m args below meth c H locs cells slots Q (F0 m pc ls (v1 :: .ref b :: rest)) :=
  cn_call (va_runU (As := [v1]) (rest := rest) X.fix hc (va_cwA (x := ⟨"TextDesk$Text", "get", "(I)I"⟩) (owner := "TextDesk$Sequence") 1 X.hts (dk_gU mw_544 mw_197 mw_200 mw_149 mw_13 mw_150) rfl rfl rfl (X.E.2.2.2.2.1 ⟨"TextDesk$Sequence", "get", "(I)I"⟩ (by decide +kernel)) (by decide +kernel) hR) ⟨ct_blind _ _ _ _, va_recv X.K (hw.P1 he) (ci := 2) (q0 := 0) rfl rfl, ct_pre [.ref b, v1] X.E hz hw⟩ rfl rfl hls rfl (lv_room hW) hdg hf) hw kk
theorem cs_EN_23 (X : cx G "TextDesk$Encoder" p s m args c cc nL) (hz : ct_z G A s) (hw : dw G.1 dk_cl A s.heap f H locs) (hls : ls.size = nL) {v1 v2 v3 : Value} (hc : cn l y_EN_writeCode w_EN_writeCode fr lo G f H.size [v1, v2, v3] post mc ms) (hR : fr + 1 ≤ R.frames ∧ 8 + (3 + 11) + lo ≤ R.locals) (hf : cells + mc ≤ R.cells ∧ slots + ms ≤ R.slots) (hW : (rest.map fun v => v.category).sum ≤ 8) (hdg : decode cc pc = .ok (.invokestatic 23, 3))
    (kk : ∀ (v : Option Value) (f' : dw_M) (H1 : Heap) (locs1 : List Loc), post v f' → dw G.1 dk_cl A s.heap f' H1 locs1 → H.size ≤ H1.size → (∀ q : Nat, q < H.size → ¬ dw_A f H.size q → H1[q]? = H[q]?) → (∀ q x, f' q = some x → dw_A f H.size q) → W p l e R s m args below meth c H1 locs1 (cells + mc) (slots + ms) Q (F0 m (pc + 3) ls (v.toList ++ rest))) : W p l e R s m args below meth c H locs cells slots Q (F0 m pc ls (v3 :: v2 :: v1 :: rest)) :=
  cn_call (va_runS (As := [v1, v2, v3]) (rest := rest) X.fix hc (va_cwS 3 X.hts (dk_gS mw_545 mw_546 mw_17 mw_547) rfl rfl rfl (by decide +kernel) hR) ⟨ct_blind _ _ _ _, ct_pre [v1, v2, v3] X.E hz hw⟩ rfl rfl hls rfl (lv_room hW) hdg hf) hw kk
theorem cs_EN_30 (X : cx G "TextDesk$Encoder" p s m args c cc nL) (hz : ct_z G A s) (hw : dw G.1 dk_cl A s.heap f H locs) (hls : ls.size = nL) {v1 : Value} (hc : cn l y_DK_isHigh w_DK_isHigh fr lo G f H.size [v1] post mc ms) (hR : fr + 1 ≤ R.frames ∧ 8 + (1 + 11) + lo ≤ R.locals) (hf : cells + mc ≤ R.cells ∧ slots + ms ≤ R.slots) (hW : (rest.map fun v => v.category).sum ≤ 8) (hdg : decode cc pc = .ok (.invokestatic 30, 3))
    (kk : ∀ (v : Option Value) (f' : dw_M) (H1 : Heap) (locs1 : List Loc), post v f' → dw G.1 dk_cl A s.heap f' H1 locs1 → H.size ≤ H1.size → (∀ q : Nat, q < H.size → ¬ dw_A f H.size q → H1[q]? = H[q]?) → (∀ q x, f' q = some x → dw_A f H.size q) → W p l e R s m args below meth c H1 locs1 (cells + mc) (slots + ms) Q (F0 m (pc + 3) ls (v.toList ++ rest))) : W p l e R s m args below meth c H locs cells slots Q (F0 m pc ls (v1 :: rest)) :=
  cn_call (va_runSN (As := [v1]) (rest := rest) X.fix hc ⟨va_cnB (host := "TextDesk") 1 X.hts (dk_goodc mw_206) rfl rfl rfl (X.E.2.2.2.1 ("TextDesk$Encoder", 30, ⟨"TextDesk", "isHigh", "(I)Z"⟩, "TextDesk") (by decide +kernel)) (X.hts _ mw_1) (by decide +kernel) hR, X.hts _ mw_205, trivial⟩ ⟨ct_blind _ _ _ _, ct_pre [v1] X.E hz hw⟩ rfl rfl hls rfl (lv_room hW) hdg hf) hw kk
theorem cs_EN_34 (X : cx G "TextDesk$Encoder" p s m args c cc nL) (hz : ct_z G A s) (hw : dw G.1 dk_cl A s.heap f H locs) (hls : ls.size = nL) {v1 : Value} (hc : cn l y_DK_isLow w_DK_isLow fr lo G f H.size [v1] post mc ms) (hR : fr + 1 ≤ R.frames ∧ 8 + (1 + 11) + lo ≤ R.locals) (hf : cells + mc ≤ R.cells ∧ slots + ms ≤ R.slots) (hW : (rest.map fun v => v.category).sum ≤ 8) (hdg : decode cc pc = .ok (.invokestatic 34, 3))
    (kk : ∀ (v : Option Value) (f' : dw_M) (H1 : Heap) (locs1 : List Loc), post v f' → dw G.1 dk_cl A s.heap f' H1 locs1 → H.size ≤ H1.size → (∀ q : Nat, q < H.size → ¬ dw_A f H.size q → H1[q]? = H[q]?) → (∀ q x, f' q = some x → dw_A f H.size q) → W p l e R s m args below meth c H1 locs1 (cells + mc) (slots + ms) Q (F0 m (pc + 3) ls (v.toList ++ rest))) : W p l e R s m args below meth c H locs cells slots Q (F0 m pc ls (v1 :: rest)) :=
  cn_call (va_runSN (As := [v1]) (rest := rest) X.fix hc ⟨va_cnB (host := "TextDesk") 1 X.hts (dk_goodc mw_211) rfl rfl rfl (X.E.2.2.2.1 ("TextDesk$Encoder", 34, ⟨"TextDesk", "isLow", "(I)Z"⟩, "TextDesk") (by decide +kernel)) (X.hts _ mw_1) (by decide +kernel) hR, X.hts _ mw_210, trivial⟩ ⟨ct_blind _ _ _ _, ct_pre [v1] X.E hz hw⟩ rfl rfl hls rfl (lv_room hW) hdg hf) hw kk
theorem cs_EN_37 (X : cx G "TextDesk$Encoder" p s m args c cc nL) (hz : ct_z G A s) (hw : dw G.1 dk_cl A s.heap f H locs) (hls : ls.size = nL) {v1 v2 : Value} (hc : cn l y_EN_writeUtf8 w_EN_writeUtf8 fr lo G f H.size [v1, v2] post mc ms) (hR : fr + 1 ≤ R.frames ∧ 8 + (2 + 11) + lo ≤ R.locals) (hf : cells + mc ≤ R.cells ∧ slots + ms ≤ R.slots) (hW : (rest.map fun v => v.category).sum ≤ 8) (hdg : decode cc pc = .ok (.invokestatic 37, 3))
    (kk : ∀ (v : Option Value) (f' : dw_M) (H1 : Heap) (locs1 : List Loc), post v f' → dw G.1 dk_cl A s.heap f' H1 locs1 → H.size ≤ H1.size → (∀ q : Nat, q < H.size → ¬ dw_A f H.size q → H1[q]? = H[q]?) → (∀ q x, f' q = some x → dw_A f H.size q) → W p l e R s m args below meth c H1 locs1 (cells + mc) (slots + ms) Q (F0 m (pc + 3) ls (v.toList ++ rest))) : W p l e R s m args below meth c H locs cells slots Q (F0 m pc ls (v2 :: v1 :: rest)) :=
  cn_call (va_runS (As := [v1, v2]) (rest := rest) X.fix hc (va_cwS 2 X.hts (dk_gS mw_550 mw_551 mw_17 mw_552) rfl rfl rfl (by decide +kernel) hR) ⟨ct_blind _ _ _ _, ct_pre [v1, v2] X.E hz hw⟩ rfl rfl hls rfl (lv_room hW) hdg hf) hw kk
theorem cs_EN_41 (X : cx G "TextDesk$Encoder" p s m args c cc nL) (hz : ct_z G A s) (hw : dw G.1 dk_cl A s.heap f H locs) (hls : ls.size = nL) {v1 v2 : Value} (hc : cn l y_EN_writeModified w_EN_writeModified fr lo G f H.size [v1, v2] post mc ms) (hR : fr + 1 ≤ R.frames ∧ 8 + (2 + 11) + lo ≤ R.locals) (hf : cells + mc ≤ R.cells ∧ slots + ms ≤ R.slots) (hW : (rest.map fun v => v.category).sum ≤ 8) (hdg : decode cc pc = .ok (.invokestatic 41, 3))
    (kk : ∀ (v : Option Value) (f' : dw_M) (H1 : Heap) (locs1 : List Loc), post v f' → dw G.1 dk_cl A s.heap f' H1 locs1 → H.size ≤ H1.size → (∀ q : Nat, q < H.size → ¬ dw_A f H.size q → H1[q]? = H[q]?) → (∀ q x, f' q = some x → dw_A f H.size q) → W p l e R s m args below meth c H1 locs1 (cells + mc) (slots + ms) Q (F0 m (pc + 3) ls (v.toList ++ rest))) : W p l e R s m args below meth c H locs cells slots Q (F0 m pc ls (v2 :: v1 :: rest)) :=
  cn_call (va_runS (As := [v1, v2]) (rest := rest) X.fix hc (va_cwS 2 X.hts (dk_gS mw_556 mw_557 mw_17 mw_558) rfl rfl rfl (by decide +kernel) hR) ⟨ct_blind _ _ _ _, ct_pre [v1, v2] X.E hz hw⟩ rfl rfl hls rfl (lv_room hW) hdg hf) hw kk
theorem cs_EN_44 (X : cx G "TextDesk$Encoder" p s m args c cc nL) (hz : ct_z G A s) (hw : dw G.1 dk_cl A s.heap f H locs) (hls : ls.size = nL) {v1 : Value} {fs : List Value} (he : f b = some (.inr (4, fs))) (hc : cn l y_RW_append w_RW_append fr lo G f H.size [.ref b, v1] post mc ms) (hR : fr + 1 ≤ R.frames ∧ 8 + (2 + 11) + lo ≤ R.locals) (hf : cells + mc ≤ R.cells ∧ slots + ms ≤ R.slots) (hW : (rest.map fun v => v.category).sum ≤ 8) (hdg : decode cc pc = .ok (.invokevirtual 44, 3))
    (kk : ∀ (v : Option Value) (f' : dw_M) (H1 : Heap) (locs1 : List Loc), post v f' → dw G.1 dk_cl A s.heap f' H1 locs1 → H.size ≤ H1.size → (∀ q : Nat, q < H.size → ¬ dw_A f H.size q → H1[q]? = H[q]?) → (∀ q x, f' q = some x → dw_A f H.size q) → W p l e R s m args below meth c H1 locs1 (cells + mc) (slots + ms) Q (F0 m (pc + 3) ls (v.toList ++ rest))) : W p l e R s m args below meth c H locs cells slots Q (F0 m pc ls (v1 :: .ref b :: rest)) :=
  cn_call (va_runV (As := [v1]) (rest := rest) X.fix hc (cwV 1 X.hts (dk_gV mw_553 mw_152 mw_153 mw_3 mw_154) rfl rfl rfl (by decide +kernel) hR) ⟨ct_blind _ _ _ _, va_recv X.K (hw.P1 he) (ci := 4) (q0 := 0) rfl rfl, ct_pre [.ref b, v1] X.E hz hw⟩ rfl rfl hls rfl (lv_room hW) hdg hf) hw kk
theorem gf_DK_30_DK (X : cx G "TextDesk" p s m args c cc nL) (hw : dw G.1 dk_cl A H0 f H locs) {v0 v1 v2 v3 v4 v5 v6 v7 : Value} (he : f a = some (.inr (5, [v0, v1, v2, v3, v4, v5, v6, v7]))) (hdg : decode cc pc = .ok (.getfield 30, 3)) (kk : W p l e R s m args below meth c H locs cells slots Q (F0 m (pc + 3) ls (v5 :: rest))) : W p l e R s m args below meth c H locs cells slots Q (F0 m pc ls (.ref a :: rest)) :=
  dw_get (C := "TextDesk") (T := F_DK) (N := 8) X.1 X.2.1 X.hts i_DK X.own X.K hw he rfl 5 (by decide) (X.hts _ mw_70) (fun _ h9 => h9) rfl hdg kk
theorem cs_DK_164 (X : cx G "TextDesk" p s m args c cc nL) (hz : ct_z G A s) (hw : dw G.1 dk_cl A s.heap f H locs) (hls : ls.size = nL) {v1 v2 v3 : Value} {fs : List Value} (he : f b = some (.inr (0, fs))) (hc : cn l y_DC_readAll w_DC_readAll fr lo G f H.size [.ref b, v1, v2, v3] post mc ms) (hR : fr + 1 ≤ R.frames ∧ 8 + (6 + 11) + lo ≤ R.locals) (hf : cells + mc ≤ R.cells ∧ slots + ms ≤ R.slots) (hW : (rest.map fun v => v.category).sum ≤ 8) (hdg : decode cc pc = .ok (.invokevirtual 164, 3))
    (kk : ∀ (v : Option Value) (f' : dw_M) (H1 : Heap) (locs1 : List Loc), post v f' → dw G.1 dk_cl A s.heap f' H1 locs1 → H.size ≤ H1.size → (∀ q : Nat, q < H.size → ¬ dw_A f H.size q → H1[q]? = H[q]?) → (∀ q x, f' q = some x → dw_A f H.size q) → W p l e R s m args below meth c H1 locs1 (cells + mc) (slots + ms) Q (F0 m (pc + 3) ls (v.toList ++ rest))) : W p l e R s m args below meth c H locs cells slots Q (F0 m pc ls (v3 :: v2 :: v1 :: .ref b :: rest)) :=
  cn_call (va_runV (As := [v1, v2, v3]) (rest := rest) X.fix hc (cwV 3 X.hts (dk_gV mw_576 mw_577 mw_578 mw_5 mw_579) rfl rfl rfl (by decide +kernel) hR) ⟨ct_blind _ _ _ _, va_recv X.K (hw.P1 he) (ci := 0) (q0 := 0) rfl rfl, ct_pre [.ref b, v1, v2, v3] X.E hz hw⟩ rfl rfl hls rfl (lv_room hW) hdg hf) hw kk
theorem cs_DC_9 (X : cx G "TextDesk$Decoder" p s m args c cc nL) (hz : ct_z G A s) (hw : dw G.1 dk_cl A s.heap f H locs) (hls : ls.size = nL) {fs : List Value} (he : f b = some (.inr (4, fs))) (hc : cn l y_RW_size w_RW_size fr lo G f H.size [.ref b] post mc ms) (hR : fr + 1 ≤ R.frames ∧ 8 + (1 + 11) + lo ≤ R.locals) (hf : cells + mc ≤ R.cells ∧ slots + ms ≤ R.slots) (hW : (rest.map fun v => v.category).sum ≤ 8) (hdg : decode cc pc = .ok (.invokevirtual 9, 3))
    (kk : ∀ (v : Option Value) (f' : dw_M) (H1 : Heap) (locs1 : List Loc), post v f' → dw G.1 dk_cl A s.heap f' H1 locs1 → H.size ≤ H1.size → (∀ q : Nat, q < H.size → ¬ dw_A f H.size q → H1[q]? = H[q]?) → (∀ q x, f' q = some x → dw_A f H.size q) → W p l e R s m args below meth c H1 locs1 (cells + mc) (slots + ms) Q (F0 m (pc + 3) ls (v.toList ++ rest))) : W p l e R s m args below meth c H locs cells slots Q (F0 m pc ls (.ref b :: rest)) :=
  cn_call (va_runV (As := []) (rest := rest) X.fix hc (cwV 0 X.hts (dk_gV mw_580 mw_99 mw_100 mw_3 mw_101) rfl rfl rfl (by decide +kernel) hR) ⟨ct_blind _ _ _ _, va_recv X.K (hw.P1 he) (ci := 4) (q0 := 0) rfl rfl, ct_pre [.ref b] X.E hz hw⟩ rfl rfl hls rfl (lv_room hW) hdg hf) hw kk
theorem cs_DC_15 (X : cx G "TextDesk$Decoder" p s m args c cc nL) (hz : ct_z G A s) (hw : dw G.1 dk_cl A s.heap f H locs) (hls : ls.size = nL) {v1 v2 v3 : Value} {fs : List Value} (he : f b = some (.inr (0, fs))) (hc : cn l y_DC_readRow w_DC_readRow fr lo G f H.size [.ref b, v1, v2, v3] post mc ms) (hR : fr + 1 ≤ R.frames ∧ 8 + (4 + 11) + lo ≤ R.locals) (hf : cells + mc ≤ R.cells ∧ slots + ms ≤ R.slots) (hW : (rest.map fun v => v.category).sum ≤ 8) (hdg : decode cc pc = .ok (.invokevirtual 15, 3))
    (kk : ∀ (v : Option Value) (f' : dw_M) (H1 : Heap) (locs1 : List Loc), post v f' → dw G.1 dk_cl A s.heap f' H1 locs1 → H.size ≤ H1.size → (∀ q : Nat, q < H.size → ¬ dw_A f H.size q → H1[q]? = H[q]?) → (∀ q x, f' q = some x → dw_A f H.size q) → W p l e R s m args below meth c H1 locs1 (cells + mc) (slots + ms) Q (F0 m (pc + 3) ls (v.toList ++ rest))) : W p l e R s m args below meth c H locs cells slots Q (F0 m pc ls (v3 :: v2 :: v1 :: .ref b :: rest)) :=
  cn_call (va_runV (As := [v1, v2, v3]) (rest := rest) X.fix hc (cwV 3 X.hts (dk_gV mw_581 mw_583 ms_6 mw_5 mw_584) rfl rfl rfl (by decide +kernel) hR) ⟨ct_blind _ _ _ _, va_recv X.K (hw.P1 he) (ci := 0) (q0 := 0) rfl rfl, ct_pre [.ref b, v1, v2, v3] X.E hz hw⟩ rfl rfl hls rfl (lv_room hW) hdg hf) hw kk
theorem gf_DC_21_DC (X : cx G "TextDesk$Decoder" p s m args c cc nL) (hw : dw G.1 dk_cl A H0 f H locs) {v0 v1 : Value} (he : f a = some (.inr (0, [v0, v1]))) (hdg : decode cc pc = .ok (.getfield 21, 3)) (kk : W p l e R s m args below meth c H locs cells slots Q (F0 m (pc + 3) ls (v0 :: rest))) : W p l e R s m args below meth c H locs cells slots Q (F0 m pc ls (.ref a :: rest)) :=
  dw_get (C := "TextDesk$Decoder") (T := F_DC) (N := 2) X.1 X.2.1 X.hts i_DC X.own X.K hw he rfl 0 (by decide) (X.hts _ mw_58) (fun _ h9 => h9) rfl hdg kk
theorem cs_DC_26 (X : cx G "TextDesk$Decoder" p s m args c cc nL) (hz : ct_z G A s) (hw : dw G.1 dk_cl A s.heap f H locs) (hls : ls.size = nL) {v1 v2 : Value} (hc : cn l y_DC_appendCharacter w_DC_appendCharacter fr lo G f H.size [v1, v2] post mc ms) (hR : fr + 1 ≤ R.frames ∧ 8 + (2 + 11) + lo ≤ R.locals) (hf : cells + mc ≤ R.cells ∧ slots + ms ≤ R.slots) (hW : (rest.map fun v => v.category).sum ≤ 8) (hdg : decode cc pc = .ok (.invokestatic 26, 3))
    (kk : ∀ (v : Option Value) (f' : dw_M) (H1 : Heap) (locs1 : List Loc), post v f' → dw G.1 dk_cl A s.heap f' H1 locs1 → H.size ≤ H1.size → (∀ q : Nat, q < H.size → ¬ dw_A f H.size q → H1[q]? = H[q]?) → (∀ q x, f' q = some x → dw_A f H.size q) → W p l e R s m args below meth c H1 locs1 (cells + mc) (slots + ms) Q (F0 m (pc + 3) ls (v.toList ++ rest))) : W p l e R s m args below meth c H locs cells slots Q (F0 m pc ls (v2 :: v1 :: rest)) :=
  cn_call (va_runS (As := [v1, v2]) (rest := rest) X.fix hc (va_cwS 2 X.hts (dk_gS mw_614 mw_615 mw_5 mw_616) rfl rfl rfl (by decide +kernel) hR) ⟨ct_blind _ _ _ _, ct_pre [v1, v2] X.E hz hw⟩ rfl rfl hls rfl (lv_room hW) hdg hf) hw kk
theorem gf_DC_30_DC (X : cx G "TextDesk$Decoder" p s m args c cc nL) (hw : dw G.1 dk_cl A H0 f H locs) {v0 v1 : Value} (he : f a = some (.inr (0, [v0, v1]))) (hdg : decode cc pc = .ok (.getfield 30, 3)) (kk : W p l e R s m args below meth c H locs cells slots Q (F0 m (pc + 3) ls (v1 :: rest))) : W p l e R s m args below meth c H locs cells slots Q (F0 m pc ls (.ref a :: rest)) :=
  dw_get (C := "TextDesk$Decoder") (T := F_DC) (N := 2) X.1 X.2.1 X.hts i_DC X.own X.K hw he rfl 1 (by decide) (X.hts _ mw_59) (fun _ h9 => h9) rfl hdg kk
theorem cs_DC_46 (X : cx G "TextDesk$Decoder" p s m args c cc nL) (hz : ct_z G A s) (hw : dw G.1 dk_cl A s.heap f H locs) (hls : ls.size = nL) {v1 : Value} {fs : List Value} (he : f b = some (.inr (4, fs))) (hc : cn l y_RW_get w_RW_get fr lo G f H.size [.ref b, v1] post mc ms) (hR : fr + 1 ≤ R.frames ∧ 8 + (2 + 11) + lo ≤ R.locals) (hf : cells + mc ≤ R.cells ∧ slots + ms ≤ R.slots) (hW : (rest.map fun v => v.category).sum ≤ 8) (hdg : decode cc pc = .ok (.invokevirtual 46, 3))
    (kk : ∀ (v : Option Value) (f' : dw_M) (H1 : Heap) (locs1 : List Loc), post v f' → dw G.1 dk_cl A s.heap f' H1 locs1 → H.size ≤ H1.size → (∀ q : Nat, q < H.size → ¬ dw_A f H.size q → H1[q]? = H[q]?) → (∀ q x, f' q = some x → dw_A f H.size q) → W p l e R s m args below meth c H1 locs1 (cells + mc) (slots + ms) Q (F0 m (pc + 3) ls (v.toList ++ rest))) : W p l e R s m args below meth c H locs cells slots Q (F0 m pc ls (v1 :: .ref b :: rest)) :=
  cn_call (va_runV (As := [v1]) (rest := rest) X.fix hc (cwV 1 X.hts (dk_gV mw_585 mw_147 mw_880 mw_3 mw_148) rfl rfl rfl (by decide +kernel) hR) ⟨ct_blind _ _ _ _, va_recv X.K (hw.P1 he) (ci := 4) (q0 := 0) rfl rfl, ct_pre [.ref b, v1] X.E hz hw⟩ rfl rfl hls rfl (lv_room hW) hdg hf) hw kk
theorem cs_DC_50 (X : cx G "TextDesk$Decoder" p s m args c cc nL) (hz : ct_z G A s) (hw : dw G.1 dk_cl A s.heap f H locs) (hls : ls.size = nL) {v1 : Value} (hc : cn l y_DC_goodWidthUtf8 w_DC_goodWidthUtf8 fr lo G f H.size [v1] post mc ms) (hR : fr + 1 ≤ R.frames ∧ 8 + (1 + 11) + lo ≤ R.locals) (hf : cells + mc ≤ R.cells ∧ slots + ms ≤ R.slots) (hW : (rest.map fun v => v.category).sum ≤ 8) (hdg : decode cc pc = .ok (.invokestatic 50, 3))
    (kk : ∀ (v : Option Value) (f' : dw_M) (H1 : Heap) (locs1 : List Loc), post v f' → dw G.1 dk_cl A s.heap f' H1 locs1 → H.size ≤ H1.size → (∀ q : Nat, q < H.size → ¬ dw_A f H.size q → H1[q]? = H[q]?) → (∀ q x, f' q = some x → dw_A f H.size q) → W p l e R s m args below meth c H1 locs1 (cells + mc) (slots + ms) Q (F0 m (pc + 3) ls (v.toList ++ rest))) : W p l e R s m args below meth c H locs cells slots Q (F0 m pc ls (v1 :: rest)) :=
  cn_call (va_runS (As := [v1]) (rest := rest) X.fix hc (va_cwS 1 X.hts (dk_gS mw_586 mw_587 mw_5 mw_588) rfl rfl rfl (by decide +kernel) hR) ⟨ct_blind _ _ _ _, ct_pre [v1] X.E hz hw⟩ rfl rfl hls rfl (lv_room hW) hdg hf) hw kk
theorem cs_DC_53 (X : cx G "TextDesk$Decoder" p s m args c cc nL) (hz : ct_z G A s) (hw : dw G.1 dk_cl A s.heap f H locs) (hls : ls.size = nL) {v1 v2 v3 v4 : Value} {fs : List Value} (he : f b = some (.inr (0, fs))) (hc : cn l y_DC_readPrefixed w_DC_readPrefixed fr lo G f H.size [.ref b, v1, v2, v3, v4] post mc ms) (hR : fr + 1 ≤ R.frames ∧ 8 + (11 + 11) + lo ≤ R.locals) (hf : cells + mc ≤ R.cells ∧ slots + ms ≤ R.slots) (hW : (rest.map fun v => v.category).sum ≤ 8) (hdg : decode cc pc = .ok (.invokevirtual 53, 3))
    (kk : ∀ (v : Option Value) (f' : dw_M) (H1 : Heap) (locs1 : List Loc), post v f' → dw G.1 dk_cl A s.heap f' H1 locs1 → H.size ≤ H1.size → (∀ q : Nat, q < H.size → ¬ dw_A f H.size q → H1[q]? = H[q]?) → (∀ q x, f' q = some x → dw_A f H.size q) → W p l e R s m args below meth c H1 locs1 (cells + mc) (slots + ms) Q (F0 m (pc + 3) ls (v.toList ++ rest))) : W p l e R s m args below meth c H locs cells slots Q (F0 m pc ls (v4 :: v3 :: v2 :: v1 :: .ref b :: rest)) :=
  cn_call (va_runV (As := [v1, v2, v3, v4]) (rest := rest) X.fix hc (cwV 4 X.hts (dk_gV mw_589 mw_591 ms_7 mw_5 mw_592) rfl rfl rfl (by decide +kernel) hR) ⟨ct_blind _ _ _ _, va_recv X.K (hw.P1 he) (ci := 0) (q0 := 0) rfl rfl, ct_pre [.ref b, v1, v2, v3, v4] X.E hz hw⟩ rfl rfl hls rfl (lv_room hW) hdg hf) hw kk
theorem cs_DC_57 (X : cx G "TextDesk$Decoder" p s m args c cc nL) (hz : ct_z G A s) (hw : dw G.1 dk_cl A s.heap f H locs) (hls : ls.size = nL) {v1 : Value} (hc : cn l y_DC_goodWidthModified w_DC_goodWidthModified fr lo G f H.size [v1] post mc ms) (hR : fr + 1 ≤ R.frames ∧ 8 + (1 + 11) + lo ≤ R.locals) (hf : cells + mc ≤ R.cells ∧ slots + ms ≤ R.slots) (hW : (rest.map fun v => v.category).sum ≤ 8) (hdg : decode cc pc = .ok (.invokestatic 57, 3))
    (kk : ∀ (v : Option Value) (f' : dw_M) (H1 : Heap) (locs1 : List Loc), post v f' → dw G.1 dk_cl A s.heap f' H1 locs1 → H.size ≤ H1.size → (∀ q : Nat, q < H.size → ¬ dw_A f H.size q → H1[q]? = H[q]?) → (∀ q x, f' q = some x → dw_A f H.size q) → W p l e R s m args below meth c H1 locs1 (cells + mc) (slots + ms) Q (F0 m (pc + 3) ls (v.toList ++ rest))) : W p l e R s m args below meth c H locs cells slots Q (F0 m pc ls (v1 :: rest)) :=
  cn_call (va_runS (As := [v1]) (rest := rest) X.fix hc (va_cwS 1 X.hts (dk_gS mw_606 mw_607 mw_5 mw_608) rfl rfl rfl (by decide +kernel) hR) ⟨ct_blind _ _ _ _, ct_pre [v1] X.E hz hw⟩ rfl rfl hls rfl (lv_room hW) hdg hf) hw kk
theorem cs_DC_60 (X : cx G "TextDesk$Decoder" p s m args c cc nL) (hz : ct_z G A s) (hw : dw G.1 dk_cl A s.heap f H locs) (hls : ls.size = nL) {v1 v2 : Value} {fs : List Value} (he : f b = some (.inr (0, fs))) (hc : cn l y_DC_readTwo w_DC_readTwo fr lo G f H.size [.ref b, v1, v2] post mc ms) (hR : fr + 1 ≤ R.frames ∧ 8 + (3 + 11) + lo ≤ R.locals) (hf : cells + mc ≤ R.cells ∧ slots + ms ≤ R.slots) (hW : (rest.map fun v => v.category).sum ≤ 8) (hdg : decode cc pc = .ok (.invokevirtual 60, 3))
    (kk : ∀ (v : Option Value) (f' : dw_M) (H1 : Heap) (locs1 : List Loc), post v f' → dw G.1 dk_cl A s.heap f' H1 locs1 → H.size ≤ H1.size → (∀ q : Nat, q < H.size → ¬ dw_A f H.size q → H1[q]? = H[q]?) → (∀ q x, f' q = some x → dw_A f H.size q) → W p l e R s m args below meth c H1 locs1 (cells + mc) (slots + ms) Q (F0 m (pc + 3) ls (v.toList ++ rest))) : W p l e R s m args below meth c H locs cells slots Q (F0 m pc ls (v2 :: v1 :: .ref b :: rest)) :=
  cn_call (va_runV (As := [v1, v2]) (rest := rest) X.fix hc (cwV 2 X.hts (dk_gV mw_609 mw_611 ms_9 mw_5 mw_612) rfl rfl rfl (by decide +kernel) hR) ⟨ct_blind _ _ _ _, va_recv X.K (hw.P1 he) (ci := 0) (q0 := 0) rfl rfl, ct_pre [.ref b, v1, v2] X.E hz hw⟩ rfl rfl hls rfl (lv_room hW) hdg hf) hw kk
theorem cs_DC_64 (X : cx G "TextDesk$Decoder" p s m args c cc nL) (hz : ct_z G A s) (hw : dw G.1 dk_cl A s.heap f H locs) (hls : ls.size = nL) {v1 v2 : Value} {fs : List Value} (he : f b = some (.inr (0, fs))) (hc : cn l y_DC_setRow w_DC_setRow fr lo G f H.size [.ref b, v1, v2] post mc ms) (hR : fr + 1 ≤ R.frames ∧ 8 + (3 + 11) + lo ≤ R.locals) (hf : cells + mc ≤ R.cells ∧ slots + ms ≤ R.slots) (hW : (rest.map fun v => v.category).sum ≤ 8) (hdg : decode cc pc = .ok (.invokevirtual 64, 3))
    (kk : ∀ (v : Option Value) (f' : dw_M) (H1 : Heap) (locs1 : List Loc), post v f' → dw G.1 dk_cl A s.heap f' H1 locs1 → H.size ≤ H1.size → (∀ q : Nat, q < H.size → ¬ dw_A f H.size q → H1[q]? = H[q]?) → (∀ q x, f' q = some x → dw_A f H.size q) → W p l e R s m args below meth c H1 locs1 (cells + mc) (slots + ms) Q (F0 m (pc + 3) ls (v.toList ++ rest))) : W p l e R s m args below meth c H locs cells slots Q (F0 m pc ls (v2 :: v1 :: .ref b :: rest)) :=
  cn_call (va_runV (As := [v1, v2]) (rest := rest) X.fix hc (cwV 2 X.hts (dk_gV mw_593 mw_595 ms_8 mw_5 mw_596) rfl rfl rfl (by decide +kernel) hR) ⟨ct_blind _ _ _ _, va_recv X.K (hw.P1 he) (ci := 0) (q0 := 0) rfl rfl, ct_pre [.ref b, v1, v2] X.E hz hw⟩ rfl rfl hls rfl (lv_room hW) hdg hf) hw kk
theorem cs_DC_67 (X : cx G "TextDesk$Decoder" p s m args c cc nL) (hz : ct_z G A s) (hw : dw G.1 dk_cl A s.heap f H locs) (hls : ls.size = nL) {v1 : Value} (hc : cn l y_DC_firstByteBase w_DC_firstByteBase fr lo G f H.size [v1] post mc ms) (hR : fr + 1 ≤ R.frames ∧ 8 + (1 + 11) + lo ≤ R.locals) (hf : cells + mc ≤ R.cells ∧ slots + ms ≤ R.slots) (hW : (rest.map fun v => v.category).sum ≤ 8) (hdg : decode cc pc = .ok (.invokestatic 67, 3))
    (kk : ∀ (v : Option Value) (f' : dw_M) (H1 : Heap) (locs1 : List Loc), post v f' → dw G.1 dk_cl A s.heap f' H1 locs1 → H.size ≤ H1.size → (∀ q : Nat, q < H.size → ¬ dw_A f H.size q → H1[q]? = H[q]?) → (∀ q x, f' q = some x → dw_A f H.size q) → W p l e R s m args below meth c H1 locs1 (cells + mc) (slots + ms) Q (F0 m (pc + 3) ls (v.toList ++ rest))) : W p l e R s m args below meth c H locs cells slots Q (F0 m pc ls (v1 :: rest)) :=
  cn_call (va_runS (As := [v1]) (rest := rest) X.fix hc (va_cwS 1 X.hts (dk_gS mw_597 mw_598 mw_5 mw_599) rfl rfl rfl (by decide +kernel) hR) ⟨ct_blind _ _ _ _, ct_pre [v1] X.E hz hw⟩ rfl rfl hls rfl (lv_room hW) hdg hf) hw kk
theorem cs_DC_70 (X : cx G "TextDesk$Decoder" p s m args c cc nL) (hz : ct_z G A s) (hw : dw G.1 dk_cl A s.heap f H locs) (hls : ls.size = nL) {v1 : Value} (hc : cn l y_DC_lowestSecond w_DC_lowestSecond fr lo G f H.size [v1] post mc ms) (hR : fr + 1 ≤ R.frames ∧ 8 + (1 + 11) + lo ≤ R.locals) (hf : cells + mc ≤ R.cells ∧ slots + ms ≤ R.slots) (hW : (rest.map fun v => v.category).sum ≤ 8) (hdg : decode cc pc = .ok (.invokestatic 70, 3))
    (kk : ∀ (v : Option Value) (f' : dw_M) (H1 : Heap) (locs1 : List Loc), post v f' → dw G.1 dk_cl A s.heap f' H1 locs1 → H.size ≤ H1.size → (∀ q : Nat, q < H.size → ¬ dw_A f H.size q → H1[q]? = H[q]?) → (∀ q x, f' q = some x → dw_A f H.size q) → W p l e R s m args below meth c H1 locs1 (cells + mc) (slots + ms) Q (F0 m (pc + 3) ls (v.toList ++ rest))) : W p l e R s m args below meth c H locs cells slots Q (F0 m pc ls (v1 :: rest)) :=
  cn_call (va_runS (As := [v1]) (rest := rest) X.fix hc (va_cwS 1 X.hts (dk_gS mw_600 mw_601 mw_5 mw_602) rfl rfl rfl (by decide +kernel) hR) ⟨ct_blind _ _ _ _, ct_pre [v1] X.E hz hw⟩ rfl rfl hls rfl (lv_room hW) hdg hf) hw kk
theorem cs_DC_73 (X : cx G "TextDesk$Decoder" p s m args c cc nL) (hz : ct_z G A s) (hw : dw G.1 dk_cl A s.heap f H locs) (hls : ls.size = nL) {v1 v2 : Value} (hc : cn l y_DC_highestSecond w_DC_highestSecond fr lo G f H.size [v1, v2] post mc ms) (hR : fr + 1 ≤ R.frames ∧ 8 + (2 + 11) + lo ≤ R.locals) (hf : cells + mc ≤ R.cells ∧ slots + ms ≤ R.slots) (hW : (rest.map fun v => v.category).sum ≤ 8) (hdg : decode cc pc = .ok (.invokestatic 73, 3))
    (kk : ∀ (v : Option Value) (f' : dw_M) (H1 : Heap) (locs1 : List Loc), post v f' → dw G.1 dk_cl A s.heap f' H1 locs1 → H.size ≤ H1.size → (∀ q : Nat, q < H.size → ¬ dw_A f H.size q → H1[q]? = H[q]?) → (∀ q x, f' q = some x → dw_A f H.size q) → W p l e R s m args below meth c H1 locs1 (cells + mc) (slots + ms) Q (F0 m (pc + 3) ls (v.toList ++ rest))) : W p l e R s m args below meth c H locs cells slots Q (F0 m pc ls (v2 :: v1 :: rest)) :=
  cn_call (va_runS (As := [v1, v2]) (rest := rest) X.fix hc (va_cwS 2 X.hts (dk_gS mw_603 mw_604 mw_5 mw_605) rfl rfl rfl (by decide +kernel) hR) ⟨ct_blind _ _ _ _, ct_pre [v1, v2] X.E hz hw⟩ rfl rfl hls rfl (lv_room hW) hdg hf) hw kk
theorem pf_DC_21_DC (X : cx G "TextDesk$Decoder" p s m args c cc nL) (hw : dw G.1 dk_cl A H0 f H locs) {v0 v1 v : Value} (he : f a = some (.inr (0, [v0, v1]))) (hn : narrow (.int) v = v) (hfit : fits (.int) v = true) (hdg : decode cc pc = .ok (.putfield 21, 3)) (kk : ∀ (H1 : Heap) (locs1 : List Loc), dw G.1 dk_cl A H0 (dw_up f a (.inr (0, [v, v1]))) H1 locs1 → W p l e R s m args below meth c H1 locs1 cells slots Q (F0 m (pc + 3) ls rest)) : W p l e R s m args below meth c H locs cells slots Q (F0 m pc ls (v :: .ref a :: rest)) :=
  dw_put (C := "TextDesk$Decoder") (T := F_DC) (N := 2) X.1 X.2.1 X.hts i_DC t_DC t_DC_ok n_DC X.own X.K hw he rfl 0 (by decide) (X.hts _ mw_58) (fun _ h9 => h9) rfl (ty := .int) (by decide +kernel) hn hfit (Nat.le_of_ble_eq_true rfl) hdg kk
theorem pf_DC_30_DC (X : cx G "TextDesk$Decoder" p s m args c cc nL) (hw : dw G.1 dk_cl A H0 f H locs) {v0 v1 v : Value} (he : f a = some (.inr (0, [v0, v1]))) (hn : narrow (.int) v = v) (hfit : fits (.int) v = true) (hdg : decode cc pc = .ok (.putfield 30, 3)) (kk : ∀ (H1 : Heap) (locs1 : List Loc), dw G.1 dk_cl A H0 (dw_up f a (.inr (0, [v0, v]))) H1 locs1 → W p l e R s m args below meth c H1 locs1 cells slots Q (F0 m (pc + 3) ls rest)) : W p l e R s m args below meth c H locs cells slots Q (F0 m pc ls (v :: .ref a :: rest)) :=
  dw_put (C := "TextDesk$Decoder") (T := F_DC) (N := 2) X.1 X.2.1 X.hts i_DC t_DC t_DC_ok n_DC X.own X.K hw he rfl 1 (by decide) (X.hts _ mw_59) (fun _ h9 => h9) rfl (ty := .int) (by decide +kernel) hn hfit (Nat.le_of_ble_eq_true rfl) hdg kk
theorem cs_DC_40 (X : cx G "TextDesk$Decoder" p s m args c cc nL) (hz : ct_z G A s) (hw : dw G.1 dk_cl A s.heap f H locs) (hls : ls.size = nL) {v1 : Value} {fs : List Value} (he : f b = some (.inr (4, fs))) (hc : cn l y_RW_append w_RW_append fr lo G f H.size [.ref b, v1] post mc ms) (hR : fr + 1 ≤ R.frames ∧ 8 + (2 + 11) + lo ≤ R.locals) (hf : cells + mc ≤ R.cells ∧ slots + ms ≤ R.slots) (hW : (rest.map fun v => v.category).sum ≤ 8) (hdg : decode cc pc = .ok (.invokevirtual 40, 3))
    (kk : ∀ (v : Option Value) (f' : dw_M) (H1 : Heap) (locs1 : List Loc), post v f' → dw G.1 dk_cl A s.heap f' H1 locs1 → H.size ≤ H1.size → (∀ q : Nat, q < H.size → ¬ dw_A f H.size q → H1[q]? = H[q]?) → (∀ q x, f' q = some x → dw_A f H.size q) → W p l e R s m args below meth c H1 locs1 (cells + mc) (slots + ms) Q (F0 m (pc + 3) ls (v.toList ++ rest))) : W p l e R s m args below meth c H locs cells slots Q (F0 m pc ls (v1 :: .ref b :: rest)) :=
  cn_call (va_runV (As := [v1]) (rest := rest) X.fix hc (cwV 1 X.hts (dk_gV mw_618 mw_152 mw_153 mw_3 mw_154) rfl rfl rfl (by decide +kernel) hR) ⟨ct_blind _ _ _ _, va_recv X.K (hw.P1 he) (ci := 4) (q0 := 0) rfl rfl, ct_pre [.ref b, v1] X.E hz hw⟩ rfl rfl hls rfl (lv_room hW) hdg hf) hw kk
end ST
end
section
/-! WHAT THE CELLS MEAN. Places in dk_cl: 0 Decoder, 1 NarrowText, 2 WideText, 3 JoinedText, 4 Row, 5 TextDesk, 6 TextDeskModel. -/
/-- what is at a place of a row or text: -1 where there is nothing -/
def gt (us : List Int) (k : Int) : Int := if 0 ≤ k ∧ k < (us.length : Int) then us.getD k.toNat 0 else -1
/-- a Row r with its array q of n places: it holds us; sp: something was spilled -/
def rw (G : ct_G) (f : dw_M) (r q n : Nat) (us : List Int) (sp : Int) : Prop :=
  ∃ g : Nat → Int32, f r = some (.inr (4, [.ref q, .int (iI us.length), .int (iI sp)])) ∧ f q = some (.inl (G.2.1 0, n, .inl g)) ∧ us.length ≤ n ∧ n < 1000 ∧ ∀ k, k < us.length → g k = iI (us.getD k 0)
/-- whether all units are below 256 -/
def nar (us : List Int) : Int := if us.all (fun u => decide (u < 256)) = true then 1 else 0
def ntx (G : ct_G) (f : dw_M) (a : Nat) (us : List Int) : Prop :=
  ∃ (q : Nat) (g : Nat → Int32), f a = some (.inr (1, [.int (iI us.length), .int (iI 1), .ref q])) ∧ f q = some (.inl (G.2.1 1, us.length, .inl g)) ∧ (∀ k, k < us.length → g k &&& 255 = iI (us.getD k 0)) ∧ (∀ u ∈ us, 0 ≤ u ∧ u < 256) ∧ us.length ≤ 60
def wtx (G : ct_G) (f : dw_M) (a : Nat) (us : List Int) : Prop :=
  ∃ (q : Nat) (g : Nat → Int32), f a = some (.inr (2, [.int (iI us.length), .int (iI 0), .ref q])) ∧ f q = some (.inl (G.2.1 2, us.length, .inl g)) ∧ (∀ k, k < us.length → g k = iI (us.getD k 0)) ∧ (∀ u ∈ us, 0 ≤ u ∧ u < 65536) ∧ (∃ u ∈ us, 256 ≤ u) ∧ us.length ≤ 60
/-- a text without parts -/
def lf (G : ct_G) (f : dw_M) (a : Nat) (us : List Int) : Prop := ntx G f a us ∨ wtx G f a us
/-- a text of at most d levels: a leaf, or two joined ones with their flat copy or without -/
def tx (G : ct_G) : Nat → dw_M → Nat → List Int → Prop
  | 0, f, a, us => lf G f a us
  | d + 1, f, a, us => lf G f a us ∨ ∃ (x y : Nat) (ux uy : List Int) (fl : Option Nat), f a = some (.inr (3, [.int (iI us.length), .int (iI (nar us)), .ref x, .ref y, va_rf fl])) ∧ tx G d f x ux ∧ tx G d f y uy ∧ us = ux ++ uy ∧ (∀ q, fl = some q → lf G f q us) ∧ us.length ≤ 60
/-- 1 for a joined text that has no flat copy yet -/
def pot (f : dw_M) (a : Nat) : Nat := match f a with
  | some (.inr (3, [_, _, _, _, .null])) => 1
  | _ => 0
/-- what reading texts may do to a map: joined texts get their flat copies; all else stays -/
def ext (G : ct_G) (f f' : dw_M) : Prop :=
  (∀ (a : Nat) (x : va_E), f a = some x → (∀ fs, x ≠ .inr (3, fs)) → f' a = some x) ∧ (∀ (d a : Nat) (us : List Int), tx G d f a us → tx G d f' a us) ∧ ∀ (a : Nat) (x : va_E), f a = some x → pot f' a ≤ pot f a
theorem ext.rf {G : ct_G} {f : dw_M} : ext G f f := ⟨fun _ _ h _ => h, fun _ _ _ h => h, fun _ _ _ => Nat.le_refl _⟩
theorem lf.len {G : ct_G} {f : dw_M} {a : Nat} {us : List Int} (h : lf G f a us) : us.length ≤ 60 := by
  rcases h with ⟨q, g, h1, h2, h3, h4, h5⟩ | ⟨q, g, h1, h2, h3, h4, h5, h6⟩
  · exact h5
  · exact h6
theorem lf.rng {G : ct_G} {f : dw_M} {a : Nat} {us : List Int} (h : lf G f a us) : ∀ u ∈ us, 0 ≤ u ∧ u < 65536 := by
  rcases h with ⟨q, g, h1, h2, h3, h4, h5⟩ | ⟨q, g, h1, h2, h3, h4, h5, h6⟩
  · intro u hu
    have := h4 u hu
    omega
  · exact h4
theorem tx.len {G : ct_G} {d : Nat} {f : dw_M} {a : Nat} {us : List Int} (h : tx G d f a us) : us.length ≤ 60 := by
  cases d with
  | zero => exact lf.len h
  | succ d =>
    rcases h with h | ⟨x, y, ux, uy, fl, h1, h2, h3, h4, h5, h6⟩
    · exact h.len
    · exact h6
theorem tx.rng {G : ct_G} {f : dw_M} : ∀ {d a : Nat} {us : List Int}, tx G d f a us → ∀ u ∈ us, 0 ≤ u ∧ u < 65536
  | 0, _, _, h => lf.rng h
  | d + 1, a, us, h => by
    rcases h with h | ⟨x, y, ux, uy, fl, h1, h2, h3, h4, h5, h6⟩
    · exact h.rng
    · intro u hu
      rw [h4] at hu
      rcases List.mem_append.mp hu with h | h
      · exact tx.rng h2 u h
      · exact tx.rng h3 u h
theorem lf.tx {G : ct_G} {f : dw_M} {a : Nat} {us : List Int} (h : lf G f a us) (d : Nat) : tx G d f a us := by
  cases d with
  | zero => exact h
  | succ d => exact Or.inl h
theorem tx.more {G : ct_G} {f : dw_M} : ∀ {d a : Nat} {us : List Int}, tx G d f a us → tx G (d + 1) f a us
  | 0, _, _, h => Or.inl h
  | d + 1, a, us, h => by
    rcases h with h | ⟨x, y, ux, uy, fl, h1, h2, h3, h4, h5, h6⟩
    · exact Or.inl h
    · exact Or.inr ⟨x, y, ux, uy, fl, h1, tx.more h2, tx.more h3, h4, h5, h6⟩
theorem tx.up {G : ct_G} {f : dw_M} {d e a : Nat} {us : List Int} (h : tx G d f a us) (hde : d ≤ e) : tx G e f a us := by
  induction hde with
  | refl => exact h
  | step _ ih => exact ih.more
theorem lf.ext {G : ct_G} {f f' : dw_M} {a : Nat} {us : List Int} (h : lf G f a us) (he : ∀ (a : Nat) (x : va_E), f a = some x → (∀ fs, x ≠ .inr (3, fs)) → f' a = some x) : lf G f' a us := by
  rcases h with ⟨q, g, h1, h2, h3⟩ | ⟨q, g, h1, h2, h3⟩
  · exact Or.inl ⟨q, g, he _ _ h1 (fun fs => by simp), he _ _ h2 (fun fs => by simp), h3⟩
  · exact Or.inr ⟨q, g, he _ _ h1 (fun fs => by simp), he _ _ h2 (fun fs => by simp), h3⟩
theorem ext.tr {G : ct_G} {f f' f'' : dw_M} (h : ext G f f') (h' : ext G f' f'') (hd : ∀ (a : Nat) (x : va_E), f a = some x → ∃ y, f' a = some y) : ext G f f'' := by
  refine ⟨fun a x e n => h'.1 a x (h.1 a x e n) n, fun d a us t => h'.2.1 d a us (h.2.1 d a us t), fun a x e => ?_⟩
  obtain ⟨y, hy⟩ := hd a x e
  exact Nat.le_trans (h'.2.2 a y hy) (h.2.2 a x e)
theorem rw.ext {G : ct_G} {f f' : dw_M} {r q n : Nat} {us : List Int} {sp : Int} (h : rw G f r q n us sp) (he : ext G f f') : rw G f' r q n us sp := by
  obtain ⟨g, h1, h2, h3⟩ := h
  exact ⟨g, he.1 _ _ h1 (fun fs => by simp), he.1 _ _ h2 (fun fs => by simp), h3⟩
theorem rw.len {G : ct_G} {f : dw_M} {r q n : Nat} {us : List Int} {sp : Int} (h : rw G f r q n us sp) : us.length ≤ n ∧ n < 1000 := by
  obtain ⟨g, h1, h2, h3, h4, h5⟩ := h
  exact ⟨h3, h4⟩
theorem lf_pot {G : ct_G} {f : dw_M} {a : Nat} {us : List Int} (h : lf G f a us) : pot f a = 0 := by
  rcases h with ⟨q, g, h1, h2, h3⟩ | ⟨q, g, h1, h2, h3⟩ <;> simp [pot, h1]
theorem gt_in {us : List Int} {k : Int} (h0 : 0 ≤ k) (h1 : k < (us.length : Int)) : gt us k = us.getD k.toNat 0 := if_pos ⟨h0, h1⟩
theorem gt_out {us : List Int} {k : Int} (h : ¬ (0 ≤ k ∧ k < (us.length : Int))) : gt us k = -1 := if_neg h
theorem getD_mem {us : List Int} {k : Nat} (h : k < us.length) : us.getD k 0 ∈ us := by
  rw [List.getD_eq_getElem?_getD, List.getElem?_eq_getElem h]
  exact List.getElem_mem h
end
section
/-! pure rows on what a Row holds -/
def ap1 (n : Nat) (us : List Int) (x : Int) : List Int := if us.length < n then us ++ [x] else us
def ap2 (n : Nat) (us : List Int) (sp : Int) : Int := if us.length < n then sp else 1
theorem getD_app_l {us : List Int} {x : Int} {k : Nat} (h : k < us.length) : (us ++ [x]).getD k 0 = us.getD k 0 := by
  rw [List.getD_eq_getElem?_getD, List.getD_eq_getElem?_getD, List.getElem?_append_left h]
theorem getD_app_r {us : List Int} {x : Int} : (us ++ [x]).getD us.length 0 = x := by
  rw [List.getD_eq_getElem?_getD, List.getElem?_append_right (Nat.le_refl _)]
  simp
theorem rw_push {G : ct_G} {f : dw_M} {r q n : Nat} {us : List Int} {sp x : Int} {g : Nat → Int32} (h0 : f r = some (.inr (4, [.ref q, .int (iI ((us.length : Int) + 1)), .int (iI sp)]))) (h1 : f q = some (.inl (G.2.1 0, n, .inl (upd g us.length (iI x))))) (hl : us.length < n) (hn : n < 1000) (hg : ∀ k, k < us.length → g k = iI (us.getD k 0)) : rw G f r q n (us ++ [x]) sp := by
  have e : (((us ++ [x]).length : Nat) : Int) = (us.length : Int) + 1 := by simp
  refine ⟨upd g us.length (iI x), by rw [h0, e], h1, by simp; omega, hn, fun k hk => ?_⟩
  by_cases hq : k = us.length
  · subst hq
    rw [pk_us, getD_app_r]
  · have hk2 : k < us.length := by simp at hk; omega
    rw [pk_un hq, hg k hk2, getD_app_l hk2]
theorem b01 {sp : Int} (h : sp = 0 ∨ sp = 1) : narrow .boolean (.int (iI sp)) = .int (iI sp) := by
  rcases h with rfl | rfl <;> decide
theorem b01f {sp : Int} (h : sp = 0 ∨ sp = 1) : fits .boolean (.int (iI sp)) = true := by
  rcases h with rfl | rfl <;> decide
theorem getE (us : List Int) {k : Int} (h0 : 0 ≤ k) (h1 : k < (us.length : Int)) {g : Nat → Int32} (hg : ∀ k, k < us.length → g k = iI (us.getD k 0)) : g k.toNat = iI (gt us k) := by
  rw [gt_in h0 h1, hg k.toNat (by omega)]
end
section
/-! bytes and chars as units -/
theorem iI_nI (n : Nat) : iI (n : Int) = nI n := (iI_nat n).symm
theorem iI_toNat {u : Int} (h : 0 ≤ u) : iI u = nI u.toNat := by
  rw [← iI_nI, Int.toNat_of_nonneg h]
theorem by_put {u : Int} (h0 : 0 ≤ u) (h1 : u < 256) : vp_nar .byte ((iI u).toInt8.toInt32) &&& 255 = iI u := by
  rw [pk_vb, iI_toNat h0]
  exact sc_k8 _ (by omega)
theorem ch_i2c {u : Int} (h0 : 0 ≤ u) (h1 : u < 65536) : ((iI u).toUInt32 % 65536).toInt32 = iI u := by
  rw [pk_char, iI_toNat h0, pk_tn (by omega), Nat.mod_eq_of_lt (by omega)]
theorem ch_put {u : Int} (h0 : 0 ≤ u) (h1 : u < 65536) : vp_nar .char (iI u) = iI u := by
  have h := pk_vc (iI u)
  rw [ch_i2c h0 h1] at h
  exact h
theorem getB (us : List Int) {k : Int} (h0 : 0 ≤ k) (h1 : k < (us.length : Int)) {g : Nat → Int32} (hg : ∀ k, k < us.length → g k &&& 255 = iI (us.getD k 0)) : g k.toNat &&& iI 255 = iI (gt us k) := by
  rw [gt_in h0 h1]
  exact hg k.toNat (by omega)
theorem nar_n {us : List Int} (h : ∀ u ∈ us, 0 ≤ u ∧ u < 256) : nar us = 1 := by
  unfold nar
  rw [if_pos]
  exact List.all_eq_true.mpr (fun u hu => decide_eq_true (h u hu).2)
theorem nar_w {us : List Int} (h : ∃ u ∈ us, 256 ≤ u) : nar us = 0 := by
  unfold nar
  rw [if_neg]
  intro q
  obtain ⟨u, hu, h2⟩ := h
  have := of_decide_eq_true (List.all_eq_true.mp q u hu)
  omega
theorem nar_01 (us : List Int) : nar us = 0 ∨ nar us = 1 := by
  unfold nar
  split
  · exact Or.inr rfl
  · exact Or.inl rfl
theorem nar_app (a b : List Int) : nar (a ++ b) = if nar a = 0 then 0 else nar b := by
  unfold nar
  rw [List.all_append]
  cases a.all (fun u => decide (u < 256)) <;> cases b.all (fun u => decide (u < 256)) <;> rfl
end
section
/-! HOW MAPS GO ON -/
/-- the array classes are apart -/
def okG (G : ct_G) : Prop := G.2.1 0 ≠ G.2.1 1 ∧ G.2.1 0 ≠ G.2.1 2 ∧ G.2.1 0 ≠ G.2.1 3 ∧ G.2.1 3 ≠ G.2.1 1 ∧ G.2.1 3 ≠ G.2.1 2
theorem ct_E.ok {G : ct_G} {s : State} (h : ct_E G s) : okG G := by
  have hn : ∀ {a b : String} {c : ClassId}, s.vm.findClass a = some c → s.vm.findClass b = some c → a = b := by
    intro a b c h1 h2
    obtain ⟨k, e1, e2⟩ := Vm.findClass_spec h1
    obtain ⟨k', e3, e4⟩ := Vm.findClass_spec h2
    rw [e1] at e3
    cases e3
    exact e2.symm.trans e4
  have i0 := va_nm_int (h.1.2 0 _ rfl).2
  have i1 := va_nm_byte (h.1.2 1 _ rfl).2
  have i2 := va_nm_char (h.1.2 2 _ rfl).2
  obtain ⟨kA, comp, -, -, -, i3⟩ := (h.1.2 3 _ rfl).2
  have i4 := i3
  have i5 := i3
  refine ⟨fun e => ?_, fun e => ?_, fun e => ?_, fun e => ?_, fun e => ?_⟩
  · rw [← e] at i1
    exact absurd (hn i0 i1) (by decide +kernel)
  · rw [← e] at i2
    exact absurd (hn i0 i2) (by decide +kernel)
  · rw [← e] at i3
    exact absurd (hn i0 i3) (by decide +kernel)
  · rw [e] at i4
    exact absurd (hn i1 i4) (by decide +kernel)
  · rw [e] at i5
    exact absurd (hn i2 i5) (by decide +kernel)
/-- the cells that texts are made of -/
def tcl (G : ct_G) (x : va_E) : Prop := (∃ (i : Nat) (fs : List Value), x = .inr (i, fs) ∧ 1 ≤ i ∧ i ≤ 3) ∨ (∃ z, x = .inl (G.2.1 1, z)) ∨ ∃ z, x = .inl (G.2.1 2, z)
theorem lf.agree {G : ct_G} {f f' : dw_M} {a : Nat} {us : List Int} (h : lf G f a us) (ha : ∀ a x, f a = some x → tcl G x → f' a = some x) : lf G f' a us := by
  rcases h with ⟨q, g, h1, h2, h3⟩ | ⟨q, g, h1, h2, h3⟩
  · exact Or.inl ⟨q, g, ha _ _ h1 (Or.inl ⟨1, _, rfl, by decide, by decide⟩), ha _ _ h2 (Or.inr (Or.inl ⟨_, rfl⟩)), h3⟩
  · exact Or.inr ⟨q, g, ha _ _ h1 (Or.inl ⟨2, _, rfl, by decide, by decide⟩), ha _ _ h2 (Or.inr (Or.inr ⟨_, rfl⟩)), h3⟩
theorem tx.agree {G : ct_G} {f f' : dw_M} (ha : ∀ a x, f a = some x → tcl G x → f' a = some x) : ∀ {d a : Nat} {us : List Int}, tx G d f a us → tx G d f' a us
  | 0, _, _, h => lf.agree h ha
  | d + 1, a, us, h => by
    rcases h with h | ⟨x, y, ux, uy, fl, h1, h2, h3, h4, h5, h6⟩
    · exact Or.inl (h.agree ha)
    · exact Or.inr ⟨x, y, ux, uy, fl, ha _ _ h1 (Or.inl ⟨3, _, rfl, by decide, by decide⟩), tx.agree ha h2, tx.agree ha h3, h4, fun q hq => (h5 q hq).agree ha, h6⟩
/-- from one map to a later one: outside S only joined texts change, and they only get their flat copies -/
def exo (G : ct_G) (S : Nat → Prop) (f f' : dw_M) : Prop :=
  (∀ (a : Nat) (x : va_E), f a = some x → ¬ S a → (∀ fs, x ≠ .inr (3, fs)) → f' a = some x) ∧ (∀ (d a : Nat) (us : List Int), tx G d f a us → tx G d f' a us) ∧ (∀ (a : Nat) (x : va_E), f a = some x → pot f' a ≤ pot f a) ∧ ∀ (a : Nat) (x : va_E), f a = some x → ∃ y, f' a = some y
def no1 : Nat → Prop := fun _ => False
theorem exo.rf {G : ct_G} {S : Nat → Prop} {f : dw_M} : exo G S f f := ⟨fun _ _ h _ _ => h, fun _ _ _ h => h, fun _ _ _ => Nat.le_refl _, fun _ x h => ⟨x, h⟩⟩
theorem exo.tr {G : ct_G} {S : Nat → Prop} {f f' f'' : dw_M} (h : exo G S f f') (h' : exo G S f' f'') : exo G S f f'' := by
  refine ⟨fun a x e n m => h'.1 a x (h.1 a x e n m) n m, fun d a us t => h'.2.1 d a us (h.2.1 d a us t), fun a x e => ?_, fun a x e => ?_⟩
  · obtain ⟨y, hy⟩ := h.2.2.2 a x e
    exact Nat.le_trans (h'.2.2.1 a y hy) (h.2.2.1 a x e)
  · obtain ⟨y, hy⟩ := h.2.2.2 a x e
    exact h'.2.2.2 a y hy
theorem exo.mono {G : ct_G} {S S' : Nat → Prop} {f f' : dw_M} (h : exo G S f f') (hs : ∀ a, S a → S' a) : exo G S' f f' := ⟨fun a x e n m => h.1 a x e (fun q => n (hs a q)) m, h.2⟩
theorem exo.rw {G : ct_G} {S : Nat → Prop} {f f' : dw_M} {r q n : Nat} {us : List Int} {sp : Int} (h : exo G S f f') (hr : rw G f r q n us sp) (n1 : ¬ S r) (n2 : ¬ S q) : rw G f' r q n us sp := by
  obtain ⟨g, h1, h2, h3⟩ := hr
  exact ⟨g, h.1 _ _ h1 n1 (fun fs => by simp), h.1 _ _ h2 n2 (fun fs => by simp), h3⟩
theorem exo.lf {G : ct_G} {S : Nat → Prop} {f f' : dw_M} {a : Nat} {us : List Int} (h : exo G S f f') (ht : lf G f a us) (hs : ∀ a, S a → ∀ x, f a = some x → ¬ tcl G x) : lf G f' a us := by
  rcases ht with ⟨q, g, h1, h2, h3⟩ | ⟨q, g, h1, h2, h3⟩
  · exact Or.inl ⟨q, g, h.1 _ _ h1 (fun z => hs _ z _ h1 (Or.inl ⟨1, _, rfl, by decide, by decide⟩)) (fun fs => by simp), h.1 _ _ h2 (fun z => hs _ z _ h2 (Or.inr (Or.inl ⟨_, rfl⟩))) (fun fs => by simp), h3⟩
  · exact Or.inr ⟨q, g, h.1 _ _ h1 (fun z => hs _ z _ h1 (Or.inl ⟨2, _, rfl, by decide, by decide⟩)) (fun fs => by simp), h.1 _ _ h2 (fun z => hs _ z _ h2 (Or.inr (Or.inr ⟨_, rfl⟩))) (fun fs => by simp), h3⟩
/-- a row's cells are no text's -/
theorem rw_ntc {G : ct_G} {f : dw_M} {r q n : Nat} {us : List Int} {sp : Int} (hG : okG G) (h : rw G f r q n us sp) : ∀ a, (a = r ∨ a = q) → ∀ x, f a = some x → ¬ tcl G x := by
  obtain ⟨g, h1, h2, -⟩ := h
  intro a ha x hx ht
  rcases ha with rfl | rfl
  · rw [h1] at hx
    cases hx
    rcases ht with ⟨i, fs, e, e1, e2⟩ | ⟨z, e⟩ | ⟨z, e⟩
    · cases e; omega
    · cases e
    · cases e
  · rw [h2] at hx
    cases hx
    rcases ht with ⟨i, fs, e, e1, e2⟩ | ⟨z, e⟩ | ⟨z, e⟩
    · cases e
    · exact hG.1 (congrArg Prod.fst (Sum.inl.inj e))
    · exact hG.2.1 (congrArg Prod.fst (Sum.inl.inj e))
/-- a row goes on; nothing else changes -/
theorem exo_row {G : ct_G} {f f' : dw_M} {r q n n' : Nat} {us us' : List Int} {sp sp' : Int} (hG : okG G) (h : rw G f r q n us sp) (h' : rw G f' r q n' us' sp') (hk : ∀ b, b ≠ r → b ≠ q → f' b = f b) : exo G (fun a => a = r ∨ a = q) f f' := by
  refine ⟨fun a x e n _ => ?_, fun d a us t => tx.agree (fun a x hx ht => ?_) t, fun a x e => ?_, fun a x e => ?_⟩
  · rw [hk a (fun z => n (Or.inl z)) (fun z => n (Or.inr z))]
    exact e
  · rw [hk a (fun z => rw_ntc hG h a (Or.inl z) x hx ht) (fun z => rw_ntc hG h a (Or.inr z) x hx ht)]
    exact hx
  · obtain ⟨g, h1, h2, -⟩ := h'
    by_cases e1 : a = r
    · subst e1
      simp [pot, h1]
    · by_cases e2 : a = q
      · subst e2
        simp [pot, h2]
      · have e3 : pot f' a = pot f a := by unfold pot; rw [hk a e1 e2]
        omega
  · obtain ⟨g, h1, h2, -⟩ := h'
    by_cases e1 : a = r
    · subst e1
      exact ⟨_, h1⟩
    · by_cases e2 : a = q
      · subst e2
        exact ⟨_, h2⟩
      · exact ⟨x, by rw [hk a e1 e2]; exact e⟩
/-- all cells of f stay: what is new is elsewhere -/
theorem exo_more {G : ct_G} {S : Nat → Prop} {f f' : dw_M} (h : ∀ a x, f a = some x → f' a = some x) : exo G S f f' := by
  refine ⟨fun a x e _ _ => h a x e, fun d a us t => tx.agree (fun a x hx _ => h a x hx) t, fun a x e => ?_, fun a x e => ⟨x, h a x e⟩⟩
  have e3 : pot f' a = pot f a := by unfold pot; rw [h a x e, e]
  omega
theorem up_more {f : dw_M} {q : Nat} {x : va_E} (h : f q = none) : ∀ a y, f a = some y → dw_up f q x a = some y := fun a y e => dw_keep e (dw_neN e h)
/-- the units are told by the cells -/
theorem list_ext {us vs : List Int} (hl : us.length = vs.length) (h : ∀ k, k < us.length → us.getD k 0 = vs.getD k 0) : us = vs := by
  apply List.ext_getElem hl
  intro i h1 h2
  have := h i h1
  rw [List.getD_eq_getElem?_getD, List.getD_eq_getElem?_getD, List.getElem?_eq_getElem h1, List.getElem?_eq_getElem h2] at this
  exact this
theorem iI_len {a b : Nat} (h : iI (a : Int) = iI (b : Int)) (ha : a ≤ 60) (hb : b ≤ 60) : a = b := by
  have := (iI_eq ⟨by omega, by omega⟩ ⟨by omega, by omega⟩).mp h
  omega
theorem lf.det {G : ct_G} {f : dw_M} {a : Nat} {us vs : List Int} (h : lf G f a us) (h' : lf G f a vs) : us = vs := by
  rcases h with ⟨q, g, h1, h2, h3, h4, h5⟩ | ⟨q, g, h1, h2, h3, h4, h5, h6⟩ <;> rcases h' with ⟨q', g', k1, k2, k3, k4, k5⟩ | ⟨q', g', k1, k2, k3, k4, k5, k6⟩
  · rw [h1] at k1
    have e := Option.some.inj k1
    simp only [Sum.inr.injEq, Prod.mk.injEq, List.cons.injEq, Value.int.injEq, Value.ref.injEq, true_and, and_true] at e
    obtain ⟨e1, rfl⟩ := e
    have hl := iI_len e1 h5 k5
    rw [h2] at k2
    have e2 := Option.some.inj k2
    simp only [Sum.inl.injEq, Prod.mk.injEq, true_and] at e2
    refine list_ext hl (fun k hk => ?_)
    have z3 := k3 k (by omega)
    rw [← e2.2] at z3
    have z := (h3 k hk).symm.trans z3
    have b1 := h4 _ (getD_mem hk)
    have b2 := k4 _ (getD_mem (us := vs) (k := k) (by omega))
    exact (iI_eq ⟨by omega, by omega⟩ ⟨by omega, by omega⟩).mp z
  · rw [h1] at k1; cases k1
  · rw [h1] at k1; cases k1
  · rw [h1] at k1
    have e := Option.some.inj k1
    simp only [Sum.inr.injEq, Prod.mk.injEq, List.cons.injEq, Value.int.injEq, Value.ref.injEq, true_and, and_true] at e
    obtain ⟨e1, rfl⟩ := e
    have hl := iI_len e1 h6 k6
    rw [h2] at k2
    have e2 := Option.some.inj k2
    simp only [Sum.inl.injEq, Prod.mk.injEq, true_and] at e2
    refine list_ext hl (fun k hk => ?_)
    have z3 := k3 k (by omega)
    rw [← e2.2] at z3
    have z := (h3 k hk).symm.trans z3
    have b1 := h4 _ (getD_mem hk)
    have b2 := k4 _ (getD_mem (us := vs) (k := k) (by omega))
    exact (iI_eq ⟨by omega, by omega⟩ ⟨by omega, by omega⟩).mp z
theorem lf_nj {G : ct_G} {f : dw_M} {a : Nat} {us : List Int} {fs : List Value} (h : lf G f a us) (h' : f a = some (.inr (3, fs))) : False := by
  rcases h with ⟨q, g, h1, -⟩ | ⟨q, g, h1, -⟩ <;> (rw [h1] at h'; cases h')
theorem tx.det {G : ct_G} {f : dw_M} : ∀ {d e a : Nat} {us vs : List Int}, tx G d f a us → tx G e f a vs → us = vs
  | 0, 0, _, _, _, h, h' => lf.det h h'
  | 0, e + 1, _, _, _, h, h' => by
    rcases h' with h' | ⟨x, y, ux, uy, fl, h1, -⟩
    · exact lf.det h h'
    · exact (lf_nj h h1).elim
  | d + 1, 0, _, _, _, h, h' => by
    rcases h with h | ⟨x, y, ux, uy, fl, h1, -⟩
    · exact lf.det h h'
    · exact (lf_nj h' h1).elim
  | d + 1, e + 1, a, us, vs, h, h' => by
    rcases h with h | ⟨x, y, ux, uy, fl, h1, h2, h3, h4, -⟩
    · rcases h' with h' | ⟨x', y', ux', uy', fl', k1, -⟩
      · exact lf.det h h'
      · exact (lf_nj h k1).elim
    · rcases h' with h' | ⟨x', y', ux', uy', fl', k1, k2, k3, k4, -⟩
      · exact (lf_nj h' h1).elim
      · rw [h1] at k1
        have z := Option.some.inj k1
        simp only [Sum.inr.injEq, Prod.mk.injEq, List.cons.injEq, Value.int.injEq, Value.ref.injEq, true_and, and_true] at z
        obtain ⟨-, -, rfl, rfl, -⟩ := z
        rw [h4, k4, tx.det h2 k2, tx.det h3 k3]
/-- a joined text gets its flat copy -/
theorem exo_flat {G : ct_G} {S : Nat → Prop} {f : dw_M} {a q x y d : Nat} {v0 v1 : Value} {us : List Int} (h : f a = some (.inr (3, [v0, v1, .ref x, .ref y, .null]))) (ht : tx G d f a us) (hq : lf G f q us) : exo G S f (dw_up f a (.inr (3, [v0, v1, .ref x, .ref y, .ref q]))) ∧ pot (dw_up f a (.inr (3, [v0, v1, .ref x, .ref y, .ref q]))) a = 0 := by
  have hl : ∀ b vs, lf G f b vs → lf G (dw_up f a (.inr (3, [v0, v1, .ref x, .ref y, .ref q]))) b vs := by
    intro b vs hb
    rcases hb with ⟨q', g, h1, h2, h3⟩ | ⟨q', g, h1, h2, h3⟩
    · exact Or.inl ⟨q', g, dw_keep h1 (dw_ne h1 h (by simp)), dw_keep h2 (dw_ne h2 h (by simp)), h3⟩
    · exact Or.inr ⟨q', g, dw_keep h1 (dw_ne h1 h (by simp)), dw_keep h2 (dw_ne h2 h (by simp)), h3⟩
  have ht' : ∀ (e b : Nat) (vs : List Int), tx G e f b vs → tx G e (dw_up f a (.inr (3, [v0, v1, .ref x, .ref y, .ref q]))) b vs := by
    intro e
    induction e with
    | zero => intro b vs hb; exact hl b vs hb
    | succ e ih =>
      intro b vs hb
      have hb0 := hb
      rcases hb with hb | ⟨x', y', ux, uy, fl, h1, h2, h3, h4, h5, h6⟩
      · exact Or.inl (hl b vs hb)
      · by_cases eb : b = a
        · subst eb
          have hus := tx.det ht hb0
          subst hus
          rw [h] at h1
          have z := Option.some.inj h1
          simp only [Sum.inr.injEq, Prod.mk.injEq, List.cons.injEq, Value.ref.injEq, true_and, and_true] at z
          obtain ⟨e1, e2, rfl, rfl, e5⟩ := z
          refine Or.inr ⟨x, y, ux, uy, some q, ?_, ih _ _ h2, ih _ _ h3, h4, fun q9 hq9 => ?_, h6⟩
          · rw [dw_up_self, e1, e2]
            rfl
          · cases hq9
            exact hl q us hq
        · exact Or.inr ⟨x', y', ux, uy, fl, dw_keep h1 eb, ih _ _ h2, ih _ _ h3, h4, fun q9 hq9 => hl _ _ (h5 q9 hq9), h6⟩
  have hp0 : pot (dw_up f a (.inr (3, [v0, v1, .ref x, .ref y, .ref q]))) a = 0 := by
    unfold pot
    rw [dw_up_self]
    rfl
  refine ⟨⟨fun b z e n m => dw_keep e (fun e2 => ?_), ht', fun b z e => ?_, fun b z e => ?_⟩, hp0⟩
  · subst e2
    rw [h] at e
    exact m _ (Option.some.inj e).symm
  · by_cases eb : b = a
    · subst eb
      rw [hp0]
      exact Nat.zero_le _
    · have e3 : pot (dw_up f a (.inr (3, [v0, v1, .ref x, .ref y, .ref q]))) b = pot f b := by unfold pot; rw [dw_up_ne _ _ eb]
      omega
  · by_cases eb : b = a
    · subst eb
      exact ⟨_, dw_up_self _ _ _⟩
    · exact ⟨z, dw_keep e eb⟩
end
section
/-! pure rows on lists of units -/
/-- the units from a place on, before another one -/
def sbl (us : List Int) (lo hi : Int) : List Int := (us.take hi.toNat).drop lo.toNat
def apl1 (n : Nat) (u xs : List Int) : List Int := u ++ xs.take (n - u.length)
def apl2 (n : Nat) (u xs : List Int) (sp : Int) : Int := if u.length + xs.length ≤ n then sp else 1
theorem apl1_nil (n : Nat) (u : List Int) : apl1 n u [] = u := by simp [apl1]
theorem apl2_nil {n : Nat} {u : List Int} (h : u.length ≤ n) (sp : Int) : apl2 n u [] sp = sp := by
  unfold apl2
  rw [if_pos (by simpa using h)]
theorem apl1_len {n : Nat} {u xs : List Int} (h : u.length ≤ n) : (apl1 n u xs).length ≤ n := by
  simp only [apl1, List.length_append, List.length_take]
  omega
theorem apl1_snoc {n : Nat} {u xs : List Int} (x : Int) (h : u.length ≤ n) : ap1 n (apl1 n u xs) x = apl1 n u (xs ++ [x]) := by
  unfold ap1
  by_cases hl : u.length + xs.length < n
  · have e1 : apl1 n u xs = u ++ xs := by unfold apl1; rw [List.take_of_length_le (by omega)]
    have e2 : apl1 n u (xs ++ [x]) = u ++ (xs ++ [x]) := by unfold apl1; rw [List.take_of_length_le (by simp; omega)]
    rw [e1, e2, if_pos (by simp; omega), List.append_assoc]
  · rw [if_neg (by simp only [apl1, List.length_append, List.length_take]; omega)]
    unfold apl1
    rw [List.take_append_of_le_length (by omega)]
theorem apl2_snoc {n : Nat} {u xs : List Int} (x : Int) (h : u.length ≤ n) (sp : Int) : ap2 n (apl1 n u xs) (apl2 n u xs sp) = apl2 n u (xs ++ [x]) sp := by
  unfold ap2 apl2
  have e : (apl1 n u xs).length < n ↔ u.length + xs.length < n := by
    simp only [apl1, List.length_append, List.length_take]
    omega
  by_cases hl : u.length + xs.length < n
  · rw [if_pos (e.mpr hl), if_pos (by omega), if_pos (by simp; omega)]
  · rw [if_neg (fun q => hl (e.mp q)), if_neg (by simp; omega)]
theorem apl_app1 {n : Nat} {u xs ys : List Int} (h : u.length ≤ n) : apl1 n (apl1 n u xs) ys = apl1 n u (xs ++ ys) := by
  unfold apl1
  rw [List.append_assoc, List.take_append]
  congr 2
  congr 1
  simp only [List.length_append, List.length_take]
  omega
theorem apl_app2 {n : Nat} {u xs ys : List Int} (h : u.length ≤ n) (sp : Int) : apl2 n (apl1 n u xs) ys (apl2 n u xs sp) = apl2 n u (xs ++ ys) sp := by
  unfold apl2
  have e : (apl1 n u xs).length = u.length + min (n - u.length) xs.length := by simp [apl1]
  rw [e]
  by_cases h1 : u.length + xs.length ≤ n
  · rw [if_pos h1]
    by_cases h2 : u.length + (xs ++ ys).length ≤ n
    · rw [if_pos h2, if_pos (by simp at h2; omega)]
    · rw [if_neg h2, if_neg (by simp at h2; omega)]
  · have r : (if u.length + (xs ++ ys).length ≤ n then sp else 1) = 1 := if_neg (by simp; omega)
    rw [if_neg h1, r]
    split <;> rfl
theorem sbl_nil {us : List Int} {lo hi : Int} (h : hi ≤ lo) (h0 : 0 ≤ lo) : sbl us lo hi = [] := by
  unfold sbl
  apply List.drop_eq_nil_of_le
  simp only [List.length_take]
  omega
theorem sbl_snoc {us : List Int} {lo k : Int} (h0 : 0 ≤ lo) (h1 : lo ≤ k) (h2 : k < (us.length : Int)) : sbl us lo (k + 1) = sbl us lo k ++ [us.getD k.toNat 0] := by
  unfold sbl
  have e : (k + 1).toNat = k.toNat + 1 := by omega
  have hk : k.toNat < us.length := by omega
  rw [e, List.take_add_one, List.getElem?_eq_getElem hk, List.drop_append_of_le_length (by simp only [List.length_take]; omega)]
  congr 1
  rw [List.getD_eq_getElem?_getD, List.getElem?_eq_getElem hk]
  rfl
theorem sbl_end {us : List Int} {fr to lo en k : Int} (hlo : lo = if fr < 0 then 0 else fr) (hen : en = if (us.length : Int) < to then (us.length : Int) else to) (h1 : lo ≤ k) (h2 : k ≤ en ∨ k = lo) (h3 : en ≤ k) : sbl us lo k = sbl us fr to := by
  have hl0 : 0 ≤ lo := by rw [hlo]; split <;> omega
  have hd : lo.toNat = fr.toNat := by rw [hlo]; split <;> omega
  rcases h2 with h2 | h2
  · have e : k = en := by omega
    subst e
    unfold sbl
    rw [hd, hen]
    split
    · rw [List.take_of_length_le (by omega), List.take_of_length_le (by omega)]
    · rfl
  · subst h2
    rw [sbl_nil (Int.le_refl _) hl0]
    symm
    unfold sbl
    apply List.drop_eq_nil_of_le
    simp only [List.length_take]
    rw [hen] at h3
    split at h3 <;> omega
theorem sbl_all (us : List Int) : sbl us 0 (us.length : Int) = us := by
  unfold sbl
  rw [List.take_of_length_le (by omega)]
  rfl
theorem mem_getD {us : List Int} {u : Int} (h : u ∈ us) : ∃ i, i < us.length ∧ u = us.getD i 0 := by
  obtain ⟨i, hi, e⟩ := List.getElem_of_mem h
  exact ⟨i, hi, by rw [List.getD_eq_getElem?_getD, List.getElem?_eq_getElem hi]; exact e.symm⟩
end
section
/-! WHAT THE HELPERS ANSWER, as pure functions of units -/
def b2 (b : Bool) : Int := if b = true then 1 else 0
theorem b2_01 (b : Bool) : b2 b = 0 ∨ b2 b = 1 := by cases b <;> decide
theorem b2_t : b2 true = 1 := rfl
theorem b2_f : b2 false = 0 := rfl
theorem b2_0 {b : Bool} (h : b2 b = 0) : b = false := by cases b; rfl; cases h
theorem b2_1 {b : Bool} (h : b2 b ≠ 0) : b = true := by cases b; exact absurd rfl h; rfl
def hi (u : Int) : Bool := decide (55296 ≤ u ∧ u < 56320)
def lw (u : Int) : Bool := decide (56320 ≤ u ∧ u < 57344)
/-- a pair stands at a place -/
def pr (us : List Int) (k : Int) : Bool := hi (gt us k) && lw (gt us (k + 1))
def chr (us : List Int) (k : Int) : Int := if pr us k = true then 65536 + (gt us k - 55296) * 1024 + gt us (k + 1) - 56320 else gt us k
/-- the first unit in which two texts differ .. -/
def dif : List Int → List Int → Int
  | x :: a, y :: b => if x = y then dif a b else x - y
  | a, b => (a.length : Int) - (b.length : Int)
theorem gt_cons_s {x : Int} {a : List Int} {k : Int} (h : 0 ≤ k) : gt (x :: a) (k + 1) = gt a k := by
  unfold gt
  have e : (k + 1).toNat = k.toNat + 1 := by omega
  have e2 : (((x :: a).length : Nat) : Int) = (a.length : Int) + 1 := by simp
  rw [e2, e]
  by_cases h1 : k < (a.length : Int)
  · rw [if_pos ⟨by omega, by omega⟩, if_pos ⟨h, h1⟩]
    rfl
  · rw [if_neg (by omega), if_neg (by omega)]
theorem gt_cons_0 {x : Int} {a : List Int} : gt (x :: a) 0 = x := by
  unfold gt
  rw [if_pos ⟨by omega, by simp <;> omega⟩]
  rfl
theorem dif_eq : ∀ (a b : List Int) (k : Nat), k ≤ a.length → k ≤ b.length → (∀ j : Nat, j < k → gt a j = gt b j) → (k < a.length → k < b.length → gt a k ≠ gt b k → dif a b = gt a k - gt b k) ∧ (k = a.length ∨ k = b.length → dif a b = (a.length : Int) - b.length)
  | [], b, k, h1, h2, h => ⟨fun h3 => by simp at h3, fun _ => by cases b <;> rfl⟩
  | x :: a, [], k, h1, h2, h => ⟨fun _ h3 => by simp at h3, fun _ => rfl⟩
  | x :: a, y :: b, k, h1, h2, h => by
    cases k with
    | zero =>
      refine ⟨fun _ _ h3 => ?_, fun h3 => by simp at h3⟩
      have e0 : ((0 : Nat) : Int) = 0 := rfl
      rw [e0, gt_cons_0, gt_cons_0] at h3 ⊢
      simp [dif, h3]
    | succ k =>
      have hxy : x = y := by
        have := h 0 (by omega)
        have e0 : ((0 : Nat) : Int) = 0 := rfl
        rw [e0, gt_cons_0, gt_cons_0] at this
        exact this
      have ih := dif_eq a b k (by simp at h1; omega) (by simp at h2; omega) (fun j hj => by
        have := h (j + 1) (by omega)
        have e : ((j + 1 : Nat) : Int) = (j : Int) + 1 := by omega
        rw [e, gt_cons_s (by omega), gt_cons_s (by omega)] at this
        exact this)
      have ed : dif (x :: a) (y :: b) = dif a b := by simp [dif, hxy]
      have e : ((k + 1 : Nat) : Int) = (k : Int) + 1 := by omega
      rw [ed, e, gt_cons_s (by omega), gt_cons_s (by omega)]
      refine ⟨fun h3 h4 h5 => ih.1 (by simp at h3; omega) (by simp at h4; omega) h5, fun h3 => ?_⟩
      rw [ih.2 (by simp at h3; omega)]
      simp only [List.length_cons]
      omega
/-- s stands in w at a place -/
def sta (w s : List Int) (p : Int) : Bool := decide (0 ≤ p ∧ p + (s.length : Int) ≤ (w.length : Int) ∧ ∀ k : Nat, k < s.length → gt w (p + k) = gt s k)
/-- the lowest place not below fr at which s stands in w, or -1 (n: places to try) -/
def fst1 (w s : List Int) : Nat → Int → Int
  | 0, _ => -1
  | n + 1, p => if sta w s p = true then p else fst1 w s n (p + 1)
/-- the highest place not above p, or -1 -/
def lst1 (w s : List Int) : Nat → Int → Int
  | 0, _ => -1
  | n + 1, p => if p < 0 then -1 else if sta w s p = true then p else lst1 w s n (p - 1)
def frst (w s : List Int) (fr : Int) : Int := fst1 w s ((w.length : Int) - s.length - (if fr < 0 then 0 else fr) + 1).toNat (if fr < 0 then 0 else fr)
def last (w s : List Int) (fr : Int) : Int := lst1 w s (w.length + 1) (if (w.length : Int) - s.length < fr then (w.length : Int) - s.length else fr)
theorem gt_rng {us : List Int} (h : ∀ u ∈ us, 0 ≤ u ∧ u < 65536) (k : Int) : -1 ≤ gt us k ∧ gt us k < 65536 := by
  unfold gt
  split
  · rename_i hk
    have := h _ (getD_mem (us := us) (k := k.toNat) (by omega))
    omega
  · omega
theorem pr_hi {us : List Int} {k : Int} (h : pr us k = true) : (55296 ≤ gt us k ∧ gt us k < 56320) ∧ 56320 ≤ gt us (k + 1) ∧ gt us (k + 1) < 57344 := by
  unfold pr hi lw at h
  rw [Bool.and_eq_true] at h
  exact ⟨of_decide_eq_true h.1, of_decide_eq_true h.2⟩
end
section
section R2
variable {p : Program} {l : Launch} {e : Env} {R : Room} {s : State} {m : MethodId} {args : Array Value} {below : List Frame} {meth : Method} {c : Code} {H : Heap} {locs : List Loc} {cells slots : Nat} {Q : State → Prop}
variable {cc : ByteArray} {pc nL : Nat} {ls : Array Slot} {rest : List Value} {G : ct_G} {A : Nat → Prop} {a b : Nat} {f : dw_M} {H0 : Heap} {fr lo mc ms : Nat} {post : Option Value → dw_M → Prop} {px : String → dw_M → Prop}
theorem mm_max : Cond.static Lib.Math.max.name ∈ dk_all ∧ Cond.initialized "java/lang/Math" ∈ dk_all ∧ Cond.code Lib.Math.max.name Lib.Math.max.code 2 (some .int) ∈ dk_all := ⟨mw_39, mw_4, mw_40⟩
theorem mm_min : Cond.static Lib.Math.min.name ∈ dk_all ∧ Cond.initialized "java/lang/Math" ∈ dk_all ∧ Cond.code Lib.Math.min.name Lib.Math.min.code 2 (some .int) ∈ dk_all := ⟨mw_142, mw_4, mw_143⟩
theorem di_max {own : String} (X : cx G own p s m args c cc nL) (hls : ls.size = nL) {idx : Nat} (hlink : Cond.methodLink own idx Lib.Math.max.name ∈ dk_all) {x y : Int} (hx1 : iR x) (hy : iR y) {z : Int} (hm : (if x < y then y else x) = z) (hframes : 1 ≤ R.frames) (hlocals : (rest.map fun v => v.category).sum + 13 ≤ R.locals) (hc : cells ≤ R.cells) (hs : slots ≤ R.slots) (hdg : decode cc pc = .ok (.invokestatic idx, 3))
    (kk : W p l e R s m args below meth c H locs cells slots Q (F0 m (pc + 3) ls (.int (iI z) :: rest))) : W p l e R s m args below meth c H locs cells slots Q (F0 m pc ls (.int (iI y) :: .int (iI x) :: rest)) := by
  subst hm
  refine va_mmax X.1 X.2.1 (X.2.2.1.trans hls.symm) X.own (X.hts _ hlink) (X.hts _ mm_max.1) (X.hts _ mm_max.2.1) (X.hts _ mm_max.2.2) hframes hlocals hc hs hdg ?_
  have e : (if iI x < iI y then iI y else iI x) = iI (if x < y then y else x) := by
    by_cases h : x < y
    · rw [if_pos h, if_pos ((iI_lt hx1 hy).mpr h)]
    · rw [if_neg h, if_neg (fun q => h ((iI_lt hx1 hy).mp q))]
  rw [e]
  exact kk
theorem di_min {own : String} (X : cx G own p s m args c cc nL) (hls : ls.size = nL) {idx : Nat} (hlink : Cond.methodLink own idx Lib.Math.min.name ∈ dk_all) {x y : Int} (hx1 : iR x) (hy : iR y) {z : Int} (hm : (if y < x then y else x) = z) (hframes : 1 ≤ R.frames) (hlocals : (rest.map fun v => v.category).sum + 13 ≤ R.locals) (hc : cells ≤ R.cells) (hs : slots ≤ R.slots) (hdg : decode cc pc = .ok (.invokestatic idx, 3))
    (kk : W p l e R s m args below meth c H locs cells slots Q (F0 m (pc + 3) ls (.int (iI z) :: rest))) : W p l e R s m args below meth c H locs cells slots Q (F0 m pc ls (.int (iI y) :: .int (iI x) :: rest)) := by
  subst hm
  refine va_mmin X.1 X.2.1 (X.2.2.1.trans hls.symm) X.own (X.hts _ hlink) (X.hts _ mm_min.1) (X.hts _ mm_min.2.1) (X.hts _ mm_min.2.2) hframes hlocals hc hs hdg ?_
  have e : (if iI y < iI x then iI y else iI x) = iI (if y < x then y else x) := by
    by_cases h : y < x
    · rw [if_pos h, if_pos ((iI_lt hy hx1).mpr h)]
    · rw [if_neg h, if_neg (fun q => h ((iI_lt hy hx1).mp q))]
  rw [e]
  exact kk
theorem di_obj {own : String} (X : cx G own p s m args c cc nL) (hls : ls.size = nL) {idx : Nat} (hlink : Cond.methodLink own idx Lib.objectInit ∈ dk_all) (hframes : 1 ≤ R.frames) (hlocals : (rest.map fun v => v.category).sum + 12 ≤ R.locals) (hdg : decode cc pc = .ok (.invokespecial idx, 3))
    (kk : W p l e R s m args below meth c H locs cells slots Q (F0 m (pc + 3) ls rest)) : W p l e R s m args below meth c H locs cells slots Q (F0 m pc ls (.ref a :: rest)) :=
  W.objInit X.1 X.2.1 X.own (X.hts _ hlink) (X.hts _ mw_25) (X.hts _ mw_26) rfl (hls.trans X.2.2.1.symm) rfl hdg hframes (by show 2 * 0 + _ + 12 ≤ _; omega) kk
theorem na_int {own : String} (X : cx G own p s m args c cc nL) (hw : dw G.1 dk_cl A H0 f H locs) {z : Int} {N : Nat} (hz : z = (N : Int)) (h2 : N < 100000) (hcells : cells + 1 ≤ R.cells) (hslots : slots + N ≤ R.slots) (hdg : decode cc pc = .ok (.newarray .int, 2))
    (kk : ∀ (q : Nat) (H1 : Heap), f q = none → dw G.1 dk_cl A H0 (dw_up f q (.inl (G.2.1 0, (N, .inl (fun _ => iI 0))))) H1 locs → W p l e R s m args below meth c H1 locs (cells + 1) (slots + N) Q (F0 m (pc + 2) ls (.ref q :: rest))) : W p l e R s m args below meth c H locs cells slots Q (F0 m pc ls (.int (iI z) :: rest)) :=
  dw_newa (ty := .int) (atype := .int) X.1 X.2.1 (X.hts _ mw_51) rfl X.K 0 (X.K.2 0 _ rfl).2 hw (a0 := (N, .inl (fun _ => iI 0))) (fun cA => by rw [vp_cell_i]; rfl) hz (by omega) (by show N * _ ≤ _; simp only [componentBytes]; omega) hcells hslots hdg kk
theorem na_byte {own : String} (X : cx G own p s m args c cc nL) (hw : dw G.1 dk_cl A H0 f H locs) {z : Int} {N : Nat} (hz : z = (N : Int)) (h2 : N < 100000) (hcells : cells + 1 ≤ R.cells) (hslots : slots + N ≤ R.slots) (hdg : decode cc pc = .ok (.newarray .byte, 2))
    (kk : ∀ (q : Nat) (H1 : Heap), f q = none → dw G.1 dk_cl A H0 (dw_up f q (.inl (G.2.1 1, (N, .inl (fun _ => iI 0))))) H1 locs → W p l e R s m args below meth c H1 locs (cells + 1) (slots + N) Q (F0 m (pc + 2) ls (.ref q :: rest))) : W p l e R s m args below meth c H locs cells slots Q (F0 m pc ls (.int (iI z) :: rest)) :=
  dw_newa (ty := .byte) (atype := .byte) X.1 X.2.1 (X.hts _ mw_195) rfl X.K 1 (X.K.2 1 _ rfl).2 hw (a0 := (N, .inl (fun _ => iI 0))) (fun cA => by rw [vp_cell_i]; rfl) hz (by omega) (by show N * _ ≤ _; simp only [componentBytes]; omega) hcells hslots hdg kk
theorem na_char {own : String} (X : cx G own p s m args c cc nL) (hw : dw G.1 dk_cl A H0 f H locs) {z : Int} {N : Nat} (hz : z = (N : Int)) (h2 : N < 100000) (hcells : cells + 1 ≤ R.cells) (hslots : slots + N ≤ R.slots) (hdg : decode cc pc = .ok (.newarray .char, 2))
    (kk : ∀ (q : Nat) (H1 : Heap), f q = none → dw G.1 dk_cl A H0 (dw_up f q (.inl (G.2.1 2, (N, .inl (fun _ => iI 0))))) H1 locs → W p l e R s m args below meth c H1 locs (cells + 1) (slots + N) Q (F0 m (pc + 2) ls (.ref q :: rest))) : W p l e R s m args below meth c H locs cells slots Q (F0 m pc ls (.int (iI z) :: rest)) :=
  dw_newa (ty := .char) (atype := .char) X.1 X.2.1 (X.hts _ mw_180) rfl X.K 2 (X.K.2 2 _ rfl).2 hw (a0 := (N, .inl (fun _ => iI 0))) (fun cA => by rw [vp_cell_i]; rfl) hz (by omega) (by show N * _ ≤ _; simp only [componentBytes]; omega) hcells hslots hdg kk
theorem na_long {own : String} (X : cx G own p s m args c cc nL) (hw : dw G.1 dk_cl A H0 f H locs) {z : Int} {N : Nat} (hz : z = (N : Int)) (h2 : N < 100000) (hcells : cells + 1 ≤ R.cells) (hslots : slots + N ≤ R.slots) (hdg : decode cc pc = .ok (.newarray .long, 2))
    (kk : ∀ (q : Nat) (H1 : Heap), f q = none → dw G.1 dk_cl A H0 (dw_up f q (.inl (G.2.1 4, (N, .inr (.inl (fun _ => (0 : Int64))))))) H1 locs → W p l e R s m args below meth c H1 locs (cells + 1) (slots + N) Q (F0 m (pc + 2) ls (.ref q :: rest))) : W p l e R s m args below meth c H locs cells slots Q (F0 m pc ls (.int (iI z) :: rest)) :=
  dw_newa (ty := .long) (atype := .long) X.1 X.2.1 (X.hts _ mw_879) rfl X.K 4 (X.K.2 4 _ rfl).2 hw (a0 := (N, .inr (.inl (fun _ => (0 : Int64))))) (fun cA => by rw [vp_cell_l]; rfl) hz (by omega) (by show N * _ ≤ _; simp only [componentBytes]; omega) hcells hslots hdg kk
theorem nq_DK_9 (X : cx G "TextDesk" p s m args c cc nL) (hw : dw G.1 dk_cl A H0 f H locs) {z : Int} {N : Nat} (hz : z = (N : Int)) (h2 : N < 100000) (hcells : cells + 1 ≤ R.cells) (hslots : slots + N ≤ R.slots) (hdg : decode cc pc = .ok (.anewarray 9, 3))
    (kk : ∀ (q : Nat) (H1 : Heap), f q = none → dw G.1 dk_cl A H0 (dw_up f q (.inl (G.2.1 3, N, .inr (.inr (.inr (.inr (fun _ => none))))))) H1 locs → W p l e R s m args below meth c H1 locs (cells + 1) (slots + N) Q (F0 m (pc + 3) ls (.ref q :: rest))) : W p l e R s m args below meth c H locs cells slots Q (F0 m pc ls (.int (iI z) :: rest)) :=
  dw_newq (C := "TextDesk$Text") X.1 X.2.1 X.own (X.hts _ mw_27) (X.E.2.2.2.2.2.2 "TextDesk$Text" (by decide +kernel)) (by obtain ⟨kA, comp, -, -, -, h9⟩ := (X.K.2 3 _ rfl).2; exact h9) hw hz (by omega) (by omega) hcells hslots hdg kk
theorem nw_DK_18 (X : cx G "TextDesk" p s m args c cc nL) (hw : dw G.1 dk_cl A H0 f H locs) (hcells : cells + 1 ≤ R.cells) (hslots : slots + 3 ≤ R.slots) (hdg : decode cc pc = .ok (.new 18, 3))
    (kk : ∀ (q : Nat) (H1 : Heap), f q = none → dw G.1 dk_cl A H0 (dw_up f q (.inr (4, [.null, .int (iI 0), .int (iI 0)]))) H1 locs → W p l e R s m args below meth c H1 locs (cells + 1) (slots + 3) Q (F0 m (pc + 3) ls (.ref q :: rest))) : W p l e R s m args below meth c H locs cells slots Q (F0 m pc ls rest) :=
  dw_new (C := "TextDesk$Row") (T := F_RW) (N := 3) X.1 X.2.1 X.hts i_RW t_RW t_RW_ok X.own (X.hts _ mw_29) (X.hts _ mw_30) (X.hts _ mw_3) X.K hw rfl (fun j hj => by
    rcases (show j = 0 ∨ j = 1 ∨ j = 2 by omega) with rfl | rfl | rfl <;> rfl) hcells hslots hdg kk
theorem nw_DK_27 (X : cx G "TextDesk" p s m args c cc nL) (hw : dw G.1 dk_cl A H0 f H locs) (hcells : cells + 1 ≤ R.cells) (hslots : slots + 2 ≤ R.slots) (hdg : decode cc pc = .ok (.new 27, 3))
    (kk : ∀ (q : Nat) (H1 : Heap), f q = none → dw G.1 dk_cl A H0 (dw_up f q (.inr (0, [.int (iI 0), .int (iI 0)]))) H1 locs → W p l e R s m args below meth c H1 locs (cells + 1) (slots + 2) Q (F0 m (pc + 3) ls (.ref q :: rest))) : W p l e R s m args below meth c H locs cells slots Q (F0 m pc ls rest) :=
  dw_new (C := "TextDesk$Decoder") (T := F_DC) (N := 2) X.1 X.2.1 X.hts i_DC t_DC t_DC_ok X.own (X.hts _ mw_52) (X.hts _ mw_53) (X.hts _ mw_5) X.K hw rfl (fun j hj => by
    rcases (show j = 0 ∨ j = 1 by omega) with rfl | rfl <;> rfl) hcells hslots hdg kk
theorem nw_JT_27 (X : cx G "TextDesk$JoinedText" p s m args c cc nL) (hw : dw G.1 dk_cl A H0 f H locs) (hcells : cells + 1 ≤ R.cells) (hslots : slots + 3 ≤ R.slots) (hdg : decode cc pc = .ok (.new 27, 3))
    (kk : ∀ (q : Nat) (H1 : Heap), f q = none → dw G.1 dk_cl A H0 (dw_up f q (.inr (4, [.null, .int (iI 0), .int (iI 0)]))) H1 locs → W p l e R s m args below meth c H1 locs (cells + 1) (slots + 3) Q (F0 m (pc + 3) ls (.ref q :: rest))) : W p l e R s m args below meth c H locs cells slots Q (F0 m pc ls rest) :=
  dw_new (C := "TextDesk$Row") (T := F_RW) (N := 3) X.1 X.2.1 X.hts i_RW t_RW t_RW_ok X.own (X.hts _ mw_111) (X.hts _ mw_30) (X.hts _ mw_3) X.K hw rfl (fun j hj => by
    rcases (show j = 0 ∨ j = 1 ∨ j = 2 by omega) with rfl | rfl | rfl <;> rfl) hcells hslots hdg kk
theorem nw_DK_195 (X : cx G "TextDesk" p s m args c cc nL) (hw : dw G.1 dk_cl A H0 f H locs) (hcells : cells + 1 ≤ R.cells) (hslots : slots + 3 ≤ R.slots) (hdg : decode cc pc = .ok (.new 195, 3))
    (kk : ∀ (q : Nat) (H1 : Heap), f q = none → dw G.1 dk_cl A H0 (dw_up f q (.inr (2, [.int (iI 0), .int (iI 0), .null]))) H1 locs → W p l e R s m args below meth c H1 locs (cells + 1) (slots + 3) Q (F0 m (pc + 3) ls (.ref q :: rest))) : W p l e R s m args below meth c H locs cells slots Q (F0 m pc ls rest) :=
  dw_new (C := "TextDesk$WideText") (T := F_WT) (N := 3) X.1 X.2.1 X.hts i_WT t_WT t_WT_ok X.own (X.hts _ mw_159) (X.hts _ mw_160) (X.hts _ mw_13) X.K hw rfl (fun j hj => by
    rcases (show j = 0 ∨ j = 1 ∨ j = 2 by omega) with rfl | rfl | rfl <;> rfl) hcells hslots hdg kk
theorem nw_DK_200 (X : cx G "TextDesk" p s m args c cc nL) (hw : dw G.1 dk_cl A H0 f H locs) (hcells : cells + 1 ≤ R.cells) (hslots : slots + 3 ≤ R.slots) (hdg : decode cc pc = .ok (.new 200, 3))
    (kk : ∀ (q : Nat) (H1 : Heap), f q = none → dw G.1 dk_cl A H0 (dw_up f q (.inr (1, [.int (iI 0), .int (iI 0), .null]))) H1 locs → W p l e R s m args below meth c H1 locs (cells + 1) (slots + 3) Q (F0 m (pc + 3) ls (.ref q :: rest))) : W p l e R s m args below meth c H locs cells slots Q (F0 m pc ls rest) :=
  dw_new (C := "TextDesk$NarrowText") (T := F_NT) (N := 3) X.1 X.2.1 X.hts i_NT t_NT t_NT_ok X.own (X.hts _ mw_181) (X.hts _ mw_182) (X.hts _ mw_14) X.K hw rfl (fun j hj => by
    rcases (show j = 0 ∨ j = 1 ∨ j = 2 by omega) with rfl | rfl | rfl <;> rfl) hcells hslots hdg kk
theorem nw_DK_203 (X : cx G "TextDesk" p s m args c cc nL) (hw : dw G.1 dk_cl A H0 f H locs) (hcells : cells + 1 ≤ R.cells) (hslots : slots + 5 ≤ R.slots) (hdg : decode cc pc = .ok (.new 203, 3))
    (kk : ∀ (q : Nat) (H1 : Heap), f q = none → dw G.1 dk_cl A H0 (dw_up f q (.inr (3, [.int (iI 0), .int (iI 0), .null, .null, .null]))) H1 locs → W p l e R s m args below meth c H1 locs (cells + 1) (slots + 5) Q (F0 m (pc + 3) ls (.ref q :: rest))) : W p l e R s m args below meth c H locs cells slots Q (F0 m pc ls rest) :=
  dw_new (C := "TextDesk$JoinedText") (T := F_JT) (N := 5) X.1 X.2.1 X.hts i_JT t_JT t_JT_ok X.own (X.hts _ mw_407) (X.hts _ mw_408) (X.hts _ mw_16) X.K hw rfl (fun j hj => by
    rcases (show j = 0 ∨ j = 1 ∨ j = 2 ∨ j = 3 ∨ j = 4 by omega) with rfl | rfl | rfl | rfl | rfl <;> rfl) hcells hslots hdg kk
theorem nw_LW_8 (X : cx G "TextDeskLaw" p s m args c cc nL) (hw : dw G.1 dk_cl A H0 f H locs) (hcells : cells + 1 ≤ R.cells) (hslots : slots + 8 ≤ R.slots) (hdg : decode cc pc = .ok (.new 8, 3))
    (kk : ∀ (q : Nat) (H1 : Heap), f q = none → dw G.1 dk_cl A H0 (dw_up f q (.inr (5, [.null, .int (iI 0), .null, .int (iI 0), .null, .null, .null, .null]))) H1 locs → W p l e R s m args below meth c H1 locs (cells + 1) (slots + 8) Q (F0 m (pc + 3) ls (.ref q :: rest))) : W p l e R s m args below meth c H locs cells slots Q (F0 m pc ls rest) :=
  dw_new (C := "TextDesk") (T := F_DK) (N := 8) X.1 X.2.1 X.hts i_DK t_DK t_DK_ok X.own (X.hts _ mw_19) (X.hts _ mw_20) (X.hts _ mw_1) X.K hw rfl (fun j hj => by
    rcases (show j = 0 ∨ j = 1 ∨ j = 2 ∨ j = 3 ∨ j = 4 ∨ j = 5 ∨ j = 6 ∨ j = 7 by omega) with rfl | rfl | rfl | rfl | rfl | rfl | rfl | rfl <;> rfl) hcells hslots hdg kk
theorem nw_LW_86 (X : cx G "TextDeskLaw" p s m args c cc nL) (hw : dw G.1 dk_cl A H0 f H locs) (hcells : cells + 1 ≤ R.cells) (hslots : slots + 14 ≤ R.slots) (hdg : decode cc pc = .ok (.new 86, 3))
    (kk : ∀ (q : Nat) (H1 : Heap), f q = none → dw G.1 dk_cl A H0 (dw_up f q (.inr (6, [.int (iI 0), .int (iI 0), .null, .null, .int (iI 0), .null, .int (iI 0), .null, .int (iI 0), .null, .int (iI 0), .null, .int (iI 0), .null]))) H1 locs → W p l e R s m args below meth c H1 locs (cells + 1) (slots + 14) Q (F0 m (pc + 3) ls (.ref q :: rest))) : W p l e R s m args below meth c H locs cells slots Q (F0 m pc ls rest) :=
  dw_new (C := "TextDeskModel") (T := F_MD) (N := 14) X.1 X.2.1 X.hts i_MD t_MD t_MD_ok X.own (X.hts _ mw_645) (X.hts _ mw_646) (X.hts _ mw_6) X.K hw rfl (fun j hj => by
    rcases (show j = 0 ∨ j = 1 ∨ j = 2 ∨ j = 3 ∨ j = 4 ∨ j = 5 ∨ j = 6 ∨ j = 7 ∨ j = 8 ∨ j = 9 ∨ j = 10 ∨ j = 11 ∨ j = 12 ∨ j = 13 by omega) with rfl | rfl | rfl | rfl | rfl | rfl | rfl | rfl | rfl | rfl | rfl | rfl | rfl | rfl <;> rfl) hcells hslots hdg kk
end R2
end
section
def L_IAE : List Cond := vx_atS "TextDesk" 45 "java/lang/IllegalArgumentException" ["java/lang/RuntimeException", "java/lang/Exception"]
theorem L_IAE_in : ∀ w ∈ L_IAE.filter goodWord, w ∈ lw_tbl := by decide +kernel
theorem L_IAE_x : ∀ w ∈ L_IAE.filter (fun w => !goodWord w), w ∈ Cond.castable "java/lang/IllegalArgumentException" "java/lang/IllegalArgumentException" :: dk_dcl.map Cond.declares := by decide +kernel
theorem L_IAE_g : ∀ w ∈ Cond.classLink "TextDesk" 41 "java/lang/IllegalArgumentException" :: Cond.initialized "java/lang/IllegalArgumentException" :: L_IAE, vx_ot w = true := by decide +kernel
def L_ISE : List Cond := vx_atS "TextDesk" 56 "java/lang/IllegalStateException" ["java/lang/RuntimeException", "java/lang/Exception"]
theorem L_ISE_in : ∀ w ∈ L_ISE.filter goodWord, w ∈ lw_tbl := by decide +kernel
theorem L_ISE_x : ∀ w ∈ L_ISE.filter (fun w => !goodWord w), w ∈ Cond.castable "java/lang/IllegalStateException" "java/lang/IllegalStateException" :: dk_dcl.map Cond.declares := by decide +kernel
theorem L_ISE_g : ∀ w ∈ Cond.classLink "TextDesk" 52 "java/lang/IllegalStateException" :: Cond.initialized "java/lang/IllegalStateException" :: L_ISE, vx_ot w = true := by decide +kernel
def L_IOB : List Cond := vx_atS "TextDesk" 130 "java/lang/IndexOutOfBoundsException" ["java/lang/RuntimeException", "java/lang/Exception"]
theorem L_IOB_in : ∀ w ∈ L_IOB.filter goodWord, w ∈ lw_tbl := by decide +kernel
theorem L_IOB_x : ∀ w ∈ L_IOB.filter (fun w => !goodWord w), w ∈ Cond.castable "java/lang/IndexOutOfBoundsException" "java/lang/IndexOutOfBoundsException" :: dk_dcl.map Cond.declares := by decide +kernel
theorem L_IOB_g : ∀ w ∈ Cond.classLink "TextDesk" 126 "java/lang/IndexOutOfBoundsException" :: Cond.initialized "java/lang/IndexOutOfBoundsException" :: L_IOB, vx_ot w = true := by decide +kernel
def L_UOE : List Cond := vx_atS "TextDesk" 172 "java/lang/UnsupportedOperationException" ["java/lang/RuntimeException", "java/lang/Exception"]
theorem L_UOE_in : ∀ w ∈ L_UOE.filter goodWord, w ∈ lw_tbl := by decide +kernel
theorem L_UOE_x : ∀ w ∈ L_UOE.filter (fun w => !goodWord w), w ∈ Cond.castable "java/lang/UnsupportedOperationException" "java/lang/UnsupportedOperationException" :: dk_dcl.map Cond.declares := by decide +kernel
theorem L_UOE_g : ∀ w ∈ Cond.classLink "TextDesk" 168 "java/lang/UnsupportedOperationException" :: Cond.initialized "java/lang/UnsupportedOperationException" :: L_UOE, vx_ot w = true := by decide +kernel
section TH
variable {p : Program} {l : Launch} {e : Env} {R : Room} {s : State} {m : MethodId} {args : Array Value} {below : List Frame} {meth : Method} {c : Code} {H : Heap} {locs : List Loc} {cells slots : Nat} {Q : State → Prop}
variable {cc : ByteArray} {pc nL : Nat} {ls : Array Slot} {rest : List Value} {G : ct_G} {A : Nat → Prop} {a b : Nat} {f : dw_M} {H0 : Heap} {fr lo mc ms : Nat} {post : Option Value → dw_M → Prop} {px : String → dw_M → Prop}
variable {f0 : dw_M} {sz : Nat}
theorem th_IAE (X : cx G "TextDesk" p s m args c cc nL) (hlT : l.stackTraces = false) (hz : ct_z G (dw_A f0 sz) s) {is : Nat} {text : String} (hstr : ("TextDesk", is, text) ∈ dk_strs) (hw : dw G.1 dk_cl (dw_A f0 sz) s.heap f H locs) (hls : ls.size = nL) (hout : ∀ x ∈ c.exceptionTable.toList, False) (hlk : meth.locks = false) (hp : px "java/lang/IllegalArgumentException" f) (hR : 8 ≤ R.frames ∧ 120 ≤ R.locals) (hRc : cells + 1 ≤ R.cells ∧ slots + 6 ≤ R.slots) (hc : cells + 1 ≤ mc ∧ slots + 6 ≤ ms) (hW : (rest.map fun v => v.category).sum ≤ 8)
    (d0 : decode cc pc = .ok (.new 41, 3)) (d3 : decode cc (pc + 3) = .ok (.dup, 1)) (d4 : decode cc (pc + 4) = .ok (.ldc is, 2)) (d6 : decode cc (pc + 6) = .ok (.invokespecial 45, 3)) (d9 : decode cc (pc + 9) = .ok (.athrow, 1)) :
    W p l e R s m args below meth c H locs cells slots (vx_MQ below (ct_Q G f0 sz post) (ct_X G f0 sz px) args s mc ms (dw_A f0 sz)) (F0 m pc ls rest) := by
  obtain ⟨sa, hsa⟩ := X.E.2.2.1 _ hstr
  have hat : ∀ w ∈ L_IAE, w.before args s = true := vx_hat (fun w hw9 => X.hts w (List.mem_filter.mpr ⟨L_IAE_in w hw9, (List.mem_filter.mp hw9).2⟩)) L_IAE_x (fun w hw9 => by
    rcases List.mem_cons.mp hw9 with rfl | h9
    · exact va_Nw.use rfl (X.E.2.2.2.2.2.1 ("java/lang/IllegalArgumentException", "java/lang/IllegalArgumentException") (by decide +kernel))
    · obtain ⟨x9, hx9, rfl⟩ := List.mem_map.mp h9
      exact va_Nw.use rfl (X.E.2.2.2.2.1 x9 hx9))
  refine vx_throwS (names := ["java/lang/RuntimeException", "java/lang/Exception"]) (sa := sa) X.1 X.2.1 hlT X.own (by decide +kernel) (by decide +kernel) (X.hts _ mw_232) (X.hts _ mw_10) hsa hat L_IAE_g (X.E.2.1.1.narrow hz.1) (X.E.2.1.2.narrow hz.1) hw.2.1 (hls.trans X.2.2.1.symm) d0 d3 d4 d6 d9 (fun x hx => (hout x hx).elim) (by show 2 + 3 < _; omega) (by show _ + (13 * (2 + 1) + 43) ≤ _; omega) hRc.1 hRc.2 hlk (fun t ht h1 h2 => ⟨f, hp, fun a x h => ⟨(hw.1 a x h).1.kept (h2 a (hw.lt h)), (hw.1 a x h).2⟩, ?_⟩) hw.2.1.2.2 hc.1 hc.2
  exact ⟨Nat.le_trans hw.2.1.1 h1, fun q h8 h9 => (h2 q (Nat.lt_of_lt_of_le h8 hw.2.1.1)).trans (hw.2.1.2.1 q h8 h9)⟩
theorem th_ISE (X : cx G "TextDesk" p s m args c cc nL) (hlT : l.stackTraces = false) (hz : ct_z G (dw_A f0 sz) s) {is : Nat} {text : String} (hstr : ("TextDesk", is, text) ∈ dk_strs) (hw : dw G.1 dk_cl (dw_A f0 sz) s.heap f H locs) (hls : ls.size = nL) (hout : ∀ x ∈ c.exceptionTable.toList, False) (hlk : meth.locks = false) (hp : px "java/lang/IllegalStateException" f) (hR : 8 ≤ R.frames ∧ 120 ≤ R.locals) (hRc : cells + 1 ≤ R.cells ∧ slots + 6 ≤ R.slots) (hc : cells + 1 ≤ mc ∧ slots + 6 ≤ ms) (hW : (rest.map fun v => v.category).sum ≤ 8)
    (d0 : decode cc pc = .ok (.new 52, 3)) (d3 : decode cc (pc + 3) = .ok (.dup, 1)) (d4 : decode cc (pc + 4) = .ok (.ldc is, 2)) (d6 : decode cc (pc + 6) = .ok (.invokespecial 56, 3)) (d9 : decode cc (pc + 9) = .ok (.athrow, 1)) :
    W p l e R s m args below meth c H locs cells slots (vx_MQ below (ct_Q G f0 sz post) (ct_X G f0 sz px) args s mc ms (dw_A f0 sz)) (F0 m pc ls rest) := by
  obtain ⟨sa, hsa⟩ := X.E.2.2.1 _ hstr
  have hat : ∀ w ∈ L_ISE, w.before args s = true := vx_hat (fun w hw9 => X.hts w (List.mem_filter.mpr ⟨L_ISE_in w hw9, (List.mem_filter.mp hw9).2⟩)) L_ISE_x (fun w hw9 => by
    rcases List.mem_cons.mp hw9 with rfl | h9
    · exact va_Nw.use rfl (X.E.2.2.2.2.2.1 ("java/lang/IllegalStateException", "java/lang/IllegalStateException") (by decide +kernel))
    · obtain ⟨x9, hx9, rfl⟩ := List.mem_map.mp h9
      exact va_Nw.use rfl (X.E.2.2.2.2.1 x9 hx9))
  refine vx_throwS (names := ["java/lang/RuntimeException", "java/lang/Exception"]) (sa := sa) X.1 X.2.1 hlT X.own (by decide +kernel) (by decide +kernel) (X.hts _ mw_304) (X.hts _ mw_11) hsa hat L_ISE_g (X.E.2.1.1.narrow hz.1) (X.E.2.1.2.narrow hz.1) hw.2.1 (hls.trans X.2.2.1.symm) d0 d3 d4 d6 d9 (fun x hx => (hout x hx).elim) (by show 2 + 3 < _; omega) (by show _ + (13 * (2 + 1) + 43) ≤ _; omega) hRc.1 hRc.2 hlk (fun t ht h1 h2 => ⟨f, hp, fun a x h => ⟨(hw.1 a x h).1.kept (h2 a (hw.lt h)), (hw.1 a x h).2⟩, ?_⟩) hw.2.1.2.2 hc.1 hc.2
  exact ⟨Nat.le_trans hw.2.1.1 h1, fun q h8 h9 => (h2 q (Nat.lt_of_lt_of_le h8 hw.2.1.1)).trans (hw.2.1.2.1 q h8 h9)⟩
theorem th_IOB (X : cx G "TextDesk" p s m args c cc nL) (hlT : l.stackTraces = false) (hz : ct_z G (dw_A f0 sz) s) {is : Nat} {text : String} (hstr : ("TextDesk", is, text) ∈ dk_strs) (hw : dw G.1 dk_cl (dw_A f0 sz) s.heap f H locs) (hls : ls.size = nL) (hout : ∀ x ∈ c.exceptionTable.toList, False) (hlk : meth.locks = false) (hp : px "java/lang/IndexOutOfBoundsException" f) (hR : 8 ≤ R.frames ∧ 120 ≤ R.locals) (hRc : cells + 1 ≤ R.cells ∧ slots + 6 ≤ R.slots) (hc : cells + 1 ≤ mc ∧ slots + 6 ≤ ms) (hW : (rest.map fun v => v.category).sum ≤ 8)
    (d0 : decode cc pc = .ok (.new 126, 3)) (d3 : decode cc (pc + 3) = .ok (.dup, 1)) (d4 : decode cc (pc + 4) = .ok (.ldc is, 2)) (d6 : decode cc (pc + 6) = .ok (.invokespecial 130, 3)) (d9 : decode cc (pc + 9) = .ok (.athrow, 1)) :
    W p l e R s m args below meth c H locs cells slots (vx_MQ below (ct_Q G f0 sz post) (ct_X G f0 sz px) args s mc ms (dw_A f0 sz)) (F0 m pc ls rest) := by
  obtain ⟨sa, hsa⟩ := X.E.2.2.1 _ hstr
  have hat : ∀ w ∈ L_IOB, w.before args s = true := vx_hat (fun w hw9 => X.hts w (List.mem_filter.mpr ⟨L_IOB_in w hw9, (List.mem_filter.mp hw9).2⟩)) L_IOB_x (fun w hw9 => by
    rcases List.mem_cons.mp hw9 with rfl | h9
    · exact va_Nw.use rfl (X.E.2.2.2.2.2.1 ("java/lang/IndexOutOfBoundsException", "java/lang/IndexOutOfBoundsException") (by decide +kernel))
    · obtain ⟨x9, hx9, rfl⟩ := List.mem_map.mp h9
      exact va_Nw.use rfl (X.E.2.2.2.2.1 x9 hx9))
  refine vx_throwS (names := ["java/lang/RuntimeException", "java/lang/Exception"]) (sa := sa) X.1 X.2.1 hlT X.own (by decide +kernel) (by decide +kernel) (X.hts _ mw_355) (X.hts _ mw_15) hsa hat L_IOB_g (X.E.2.1.1.narrow hz.1) (X.E.2.1.2.narrow hz.1) hw.2.1 (hls.trans X.2.2.1.symm) d0 d3 d4 d6 d9 (fun x hx => (hout x hx).elim) (by show 2 + 3 < _; omega) (by show _ + (13 * (2 + 1) + 43) ≤ _; omega) hRc.1 hRc.2 hlk (fun t ht h1 h2 => ⟨f, hp, fun a x h => ⟨(hw.1 a x h).1.kept (h2 a (hw.lt h)), (hw.1 a x h).2⟩, ?_⟩) hw.2.1.2.2 hc.1 hc.2
  exact ⟨Nat.le_trans hw.2.1.1 h1, fun q h8 h9 => (h2 q (Nat.lt_of_lt_of_le h8 hw.2.1.1)).trans (hw.2.1.2.1 q h8 h9)⟩
theorem th_UOE (X : cx G "TextDesk" p s m args c cc nL) (hlT : l.stackTraces = false) (hz : ct_z G (dw_A f0 sz) s) {is : Nat} {text : String} (hstr : ("TextDesk", is, text) ∈ dk_strs) (hw : dw G.1 dk_cl (dw_A f0 sz) s.heap f H locs) (hls : ls.size = nL) (hout : ∀ x ∈ c.exceptionTable.toList, False) (hlk : meth.locks = false) (hp : px "java/lang/UnsupportedOperationException" f) (hR : 8 ≤ R.frames ∧ 120 ≤ R.locals) (hRc : cells + 1 ≤ R.cells ∧ slots + 6 ≤ R.slots) (hc : cells + 1 ≤ mc ∧ slots + 6 ≤ ms) (hW : (rest.map fun v => v.category).sum ≤ 8)
    (d0 : decode cc pc = .ok (.new 168, 3)) (d3 : decode cc (pc + 3) = .ok (.dup, 1)) (d4 : decode cc (pc + 4) = .ok (.ldc is, 2)) (d6 : decode cc (pc + 6) = .ok (.invokespecial 172, 3)) (d9 : decode cc (pc + 9) = .ok (.athrow, 1)) :
    W p l e R s m args below meth c H locs cells slots (vx_MQ below (ct_Q G f0 sz post) (ct_X G f0 sz px) args s mc ms (dw_A f0 sz)) (F0 m pc ls rest) := by
  obtain ⟨sa, hsa⟩ := X.E.2.2.1 _ hstr
  have hat : ∀ w ∈ L_UOE, w.before args s = true := vx_hat (fun w hw9 => X.hts w (List.mem_filter.mpr ⟨L_UOE_in w hw9, (List.mem_filter.mp hw9).2⟩)) L_UOE_x (fun w hw9 => by
    rcases List.mem_cons.mp hw9 with rfl | h9
    · exact va_Nw.use rfl (X.E.2.2.2.2.2.1 ("java/lang/UnsupportedOperationException", "java/lang/UnsupportedOperationException") (by decide +kernel))
    · obtain ⟨x9, hx9, rfl⟩ := List.mem_map.mp h9
      exact va_Nw.use rfl (X.E.2.2.2.2.1 x9 hx9))
  refine vx_throwS (names := ["java/lang/RuntimeException", "java/lang/Exception"]) (sa := sa) X.1 X.2.1 hlT X.own (by decide +kernel) (by decide +kernel) (X.hts _ mw_622) (X.hts _ mw_18) hsa hat L_UOE_g (X.E.2.1.1.narrow hz.1) (X.E.2.1.2.narrow hz.1) hw.2.1 (hls.trans X.2.2.1.symm) d0 d3 d4 d6 d9 (fun x hx => (hout x hx).elim) (by show 2 + 3 < _; omega) (by show _ + (13 * (2 + 1) + 43) ≤ _; omega) hRc.1 hRc.2 hlk (fun t ht h1 h2 => ⟨f, hp, fun a x h => ⟨(hw.1 a x h).1.kept (h2 a (hw.lt h)), (hw.1 a x h).2⟩, ?_⟩) hw.2.1.2.2 hc.1 hc.2
  exact ⟨Nat.le_trans hw.2.1.1 h1, fun q h8 h9 => (h2 q (Nat.lt_of_lt_of_le h8 hw.2.1.1)).trans (hw.2.1.2.1 q h8 h9)⟩
end TH
end
section
set_option maxRecDepth 100000 in
set_option maxHeartbeats 4000000 in
theorem c_RW_size (l : Launch) (G : ct_G) (f : dw_M) (sz : Nat) (r q n : Nat) (us : List Int) (sp : Int) (hrw : rw G f r q n us sp) : cn l y_RW_size w_RW_size (0) (0) G f sz [.ref r] (fun v f' => v = some (.int (iI (us.length : Int))) ∧ f' = f) (0) (0) := by
  refine cn_of (own := "TextDesk$Row") (nm := "size") (ds := "()I") (by decide) (Nat.le_of_ble_eq_true rfl) ?_
  intro p e s m args below meth c ls X hnm hr hlk hs0 hz hw hl
  have hx := X.1
  have hb := X.2.1
  have hl : lv_has ls 1 [(0, .ref r)] := hl
  obtain ⟨g, h0, h1, hu, hn, hg⟩ := hrw
  refine lv_aload_n hx hb d_RW_size_0 rfl (lv_at hl 0 rfl) ?_
  refine gf_RW_21_RW X hw h0 d_RW_size_1 ?_
  exact cn_iret hx hb hr hlk hw  (⟨rfl, rfl⟩) (Nat.le_refl _) (Nat.le_refl _) d_RW_size_4
set_option maxRecDepth 100000 in
set_option maxHeartbeats 4000000 in
theorem c_RW_get (l : Launch) (G : ct_G) (f : dw_M) (sz : Nat) (r q n : Nat) (us : List Int) (sp k : Int) (hk : iR k) (hrw : rw G f r q n us sp) : cn l y_RW_get w_RW_get (0) (0) G f sz [.ref r, .int (iI k)] (fun v f' => v = some (.int (iI (gt us k))) ∧ f' = f) (0) (0) := by
  refine cn_of (own := "TextDesk$Row") (nm := "get") (ds := "(I)I") (by decide) (Nat.le_of_ble_eq_true rfl) ?_
  intro p e s m args below meth c ls X hnm hr hlk hs0 hz hw hl
  have hx := X.1
  have hb := X.2.1
  have hl : lv_has ls 2 [(0, .ref r), (1, .int (iI k))] := hl
  obtain ⟨g, h0, h1, hu, hn, hg⟩ := hrw
  obtain ⟨hk1, hk2⟩ := hk
  refine lv_iload_n hx hb d_RW_get_0 rfl (lv_at hl 1 rfl) ?_
  refine di_if_lt (tgt := 30) hx hb d_RW_get_1 (by decide) ⟨by omega, by omega⟩ (fun bq1 => ?_) (fun bq1 => ?_)
  · refine lv_iconst (v := iI (-1)) hx hb d_RW_get_30 rfl ?_
    exact cn_iret hx hb hr hlk hw  (⟨by rw [gt_out (by omega)], rfl⟩) (Nat.le_refl _) (Nat.le_refl _) d_RW_get_31
  · refine lv_iload_n hx hb d_RW_get_4 rfl (lv_at hl 1 rfl) ?_
    refine lv_aload_n hx hb d_RW_get_5 rfl (lv_at hl 0 rfl) ?_
    refine gf_RW_21_RW X hw h0 d_RW_get_6 ?_
    refine di_icmp_ge (tgt := 30) hx hb d_RW_get_9 (by decide) ⟨by omega, by omega⟩ ⟨by omega, by omega⟩ (fun bq9 => ?_) (fun bq9 => ?_)
    · refine lv_iconst (v := iI (-1)) hx hb d_RW_get_30 rfl ?_
      exact cn_iret hx hb hr hlk hw  (⟨by rw [gt_out (by omega)], rfl⟩) (Nat.le_refl _) (Nat.le_refl _) d_RW_get_31
    · refine lv_iload_n hx hb d_RW_get_12 rfl (lv_at hl 1 rfl) ?_
      refine lv_aload_n hx hb d_RW_get_13 rfl (lv_at hl 0 rfl) ?_
      refine gf_RW_15_RW X hw h0 d_RW_get_14 ?_
      refine dw_alen hx hb X.K hw 0 h1 rfl d_RW_get_17 ?_
      refine di_icmp_ge (tgt := 30) hx hb d_RW_get_18 (by decide) ⟨by omega, by omega⟩ ⟨by omega, by omega⟩ (fun bq18 => ?_) (fun bq18 => ?_)
      · refine lv_iconst (v := iI (-1)) hx hb d_RW_get_30 rfl ?_
        exact cn_iret hx hb hr hlk hw  (⟨by rw [gt_out (by omega)], rfl⟩) (Nat.le_refl _) (Nat.le_refl _) d_RW_get_31
      · refine lv_aload_n hx hb d_RW_get_21 rfl (lv_at hl 0 rfl) ?_
        refine gf_RW_15_RW X hw h0 d_RW_get_22 ?_
        refine lv_iload_n hx hb d_RW_get_25 rfl (lv_at hl 1 rfl) ?_
        refine dw_iald hx hb X.K hw 0 h1 rfl (by omega) (by omega) (by omega) (getE us (by omega) (by omega) hg) d_RW_get_26 ?_
        refine lv_goto (tgt := 31) hx hb d_RW_get_27 (by decide) ?_
        exact cn_iret hx hb hr hlk hw  (⟨rfl, rfl⟩) (Nat.le_refl _) (Nat.le_refl _) d_RW_get_31
set_option maxRecDepth 100000 in
set_option maxHeartbeats 4000000 in
theorem c_RW_isFull (l : Launch) (G : ct_G) (f : dw_M) (sz : Nat) (r q n : Nat) (us : List Int) (sp : Int) (hrw : rw G f r q n us sp) : cn l y_RW_isFull w_RW_isFull (0) (0) G f sz [.ref r] (fun v f' => v = some (.int (iI (if n ≤ us.length then 1 else 0))) ∧ f' = f) (0) (0) := by
  refine cn_of (own := "TextDesk$Row") (nm := "isFull") (ds := "()Z") (by decide) (Nat.le_of_ble_eq_true rfl) ?_
  intro p e s m args below meth c ls X hnm hr hlk hs0 hz hw hl
  have hx := X.1
  have hb := X.2.1
  have hl : lv_has ls 1 [(0, .ref r)] := hl
  obtain ⟨g, h0, h1, hu, hn, hg⟩ := hrw
  refine lv_aload_n hx hb d_RW_isFull_0 rfl (lv_at hl 0 rfl) ?_
  refine gf_RW_21_RW X hw h0 d_RW_isFull_1 ?_
  refine lv_aload_n hx hb d_RW_isFull_4 rfl (lv_at hl 0 rfl) ?_
  refine gf_RW_15_RW X hw h0 d_RW_isFull_5 ?_
  refine dw_alen hx hb X.K hw 0 h1 rfl d_RW_isFull_8 ?_
  refine di_icmp_lt (tgt := 16) hx hb d_RW_isFull_9 (by decide) ⟨by omega, by omega⟩ ⟨by omega, by omega⟩ (fun bq9 => ?_) (fun bq9 => ?_)
  · refine lv_iconst (v := iI (0)) hx hb d_RW_isFull_16 rfl ?_
    exact cn_zret hx hb hr hlk hw rfl (⟨by rw [if_neg (by omega)], rfl⟩) (Nat.le_refl _) (Nat.le_refl _) d_RW_isFull_17
  · refine lv_iconst (v := iI (1)) hx hb d_RW_isFull_12 rfl ?_
    refine lv_goto (tgt := 17) hx hb d_RW_isFull_13 (by decide) ?_
    exact cn_zret hx hb hr hlk hw rfl (⟨by rw [if_pos (by omega)], rfl⟩) (Nat.le_refl _) (Nat.le_refl _) d_RW_isFull_17
set_option maxRecDepth 100000 in
set_option maxHeartbeats 4000000 in
theorem c_RW_hasSpilled (l : Launch) (G : ct_G) (f : dw_M) (sz : Nat) (r q n : Nat) (us : List Int) (sp : Int) (hsp : sp = 0 ∨ sp = 1) (hrw : rw G f r q n us sp) : cn l y_RW_hasSpilled w_RW_hasSpilled (0) (0) G f sz [.ref r] (fun v f' => v = some (.int (iI sp)) ∧ f' = f) (0) (0) := by
  refine cn_of (own := "TextDesk$Row") (nm := "hasSpilled") (ds := "()Z") (by decide) (Nat.le_of_ble_eq_true rfl) ?_
  intro p e s m args below meth c ls X hnm hr hlk hs0 hz hw hl
  have hx := X.1
  have hb := X.2.1
  have hl : lv_has ls 1 [(0, .ref r)] := hl
  obtain ⟨g, h0, h1, hu, hn, hg⟩ := hrw
  refine lv_aload_n hx hb d_RW_hasSpilled_0 rfl (lv_at hl 0 rfl) ?_
  refine gf_RW_25_RW X hw h0 d_RW_hasSpilled_1 ?_
  exact cn_zret hx hb hr hlk hw (b01 hsp) (⟨rfl, rfl⟩) (Nat.le_refl _) (Nat.le_refl _) d_RW_hasSpilled_4
set_option maxRecDepth 100000 in
set_option maxHeartbeats 4000000 in
theorem c_RW_append (l : Launch) (G : ct_G) (f : dw_M) (sz : Nat) (r q n : Nat) (us : List Int) (sp x : Int) (hrw : rw G f r q n us sp) : cn l y_RW_append w_RW_append (0) (0) G f sz [.ref r, .int (iI x)] (fun v f' => v = none ∧ rw G f' r q n (ap1 n us x) (ap2 n us sp) ∧ ∀ b, b ≠ r → b ≠ q → f' b = f b) (0) (0) := by
  refine cn_of (own := "TextDesk$Row") (nm := "append") (ds := "(I)V") (by decide) (Nat.le_of_ble_eq_true rfl) ?_
  intro p e s m args below meth c ls X hnm hr hlk hs0 hz hw hl
  have hx := X.1
  have hb := X.2.1
  have hl : lv_has ls 2 [(0, .ref r), (1, .int (iI x))] := hl
  obtain ⟨g, h0, h1, hu, hn, hg⟩ := hrw
  refine lv_aload_n hx hb d_RW_append_0 rfl (lv_at hl 0 rfl) ?_
  refine gf_RW_21_RW X hw h0 d_RW_append_1 ?_
  refine lv_aload_n hx hb d_RW_append_4 rfl (lv_at hl 0 rfl) ?_
  refine gf_RW_15_RW X hw h0 d_RW_append_5 ?_
  refine dw_alen hx hb X.K hw 0 h1 rfl d_RW_append_8 ?_
  refine di_icmp_lt (tgt := 18) hx hb d_RW_append_9 (by decide) ⟨by omega, by omega⟩ ⟨by omega, by omega⟩ (fun bq9 => ?_) (fun bq9 => ?_)
  · refine lv_aload_n hx hb d_RW_append_18 rfl (lv_at hl 0 rfl) ?_
    refine gf_RW_15_RW X hw h0 d_RW_append_19 ?_
    refine lv_aload_n hx hb d_RW_append_22 rfl (lv_at hl 0 rfl) ?_
    refine gf_RW_21_RW X hw h0 d_RW_append_23 ?_
    refine lv_iload_n hx hb d_RW_append_26 rfl (lv_at hl 1 rfl) ?_
    refine dw_iast hx hb X.K hw 0 h1 rfl (by omega) (by omega) (by omega) d_RW_append_27 (fun H locs hw => ?_)
    obtain ⟨f1, e_f1⟩ : ∃ g9 : dw_M, g9 = dw_up f q (.inl (G.2.1 0, n, .inl (upd g (us.length : Int).toNat (iI x)))) := ⟨_, rfl⟩
    rw [← e_f1] at hw
    have k_f1_r : f1 r = some (.inr (4, [.ref q, .int (iI ((us.length : Int))), .int (iI sp)])) := by rw [e_f1]; exact dw_keep h0 (dw_ne h0 h1 (by simp))
    have k_f1_q : f1 q = some (.inl (G.2.1 0, n, .inl (upd g (us.length : Int).toNat (iI x)))) := by rw [e_f1]; exact dw_up_self _ _ _
    refine lv_aload_n hx hb d_RW_append_28 rfl (lv_at hl 0 rfl) ?_
    refine lv_dup hx hb d_RW_append_29 rfl ?_
    refine gf_RW_21_RW X hw k_f1_r d_RW_append_30 ?_
    refine lv_iconst (v := iI (1)) hx hb d_RW_append_33 rfl ?_
    refine di_add hx hb d_RW_append_34 ?_
    refine pf_RW_21_RW X hw k_f1_r (rfl) (rfl) d_RW_append_35 (fun H locs hw => ?_)
    obtain ⟨f2, e_f2⟩ : ∃ g9 : dw_M, g9 = dw_up f1 r (.inr (4, [.ref q, .int (iI ((us.length : Int) + 1)), .int (iI sp)])) := ⟨_, rfl⟩
    rw [← e_f2] at hw
    have k_f2_q : f2 q = some (.inl (G.2.1 0, n, .inl (upd g us.length (iI x)))) := by rw [e_f2]; exact dw_keep k_f1_q (dw_ne k_f1_q k_f1_r (by simp))
    have k_f2_r : f2 r = some (.inr (4, [.ref q, .int (iI ((us.length : Int) + 1)), .int (iI sp)])) := by rw [e_f2]; exact dw_up_self _ _ _
    have hnew : rw G f2 r q n (us ++ [x]) sp := rw_push k_f2_r k_f2_q (by omega) hn hg
    exact cn_vret hx hb hr hlk hw  (⟨rfl, by rw [ap1, ap2, if_pos (by omega), if_pos (by omega)]; exact hnew, fun b h8 h9 => by rw [e_f2, dw_up_ne _ _ h8, e_f1, dw_up_ne _ _ h9]⟩) (Nat.le_refl _) (Nat.le_refl _) d_RW_append_38
  · refine lv_aload_n hx hb d_RW_append_12 rfl (lv_at hl 0 rfl) ?_
    refine lv_iconst (v := iI (1)) hx hb d_RW_append_13 rfl ?_
    refine pf_RW_25_RW X hw h0 (rfl) (rfl) d_RW_append_14 (fun H locs hw => ?_)
    obtain ⟨f1, e_f1⟩ : ∃ g9 : dw_M, g9 = dw_up f r (.inr (4, [.ref q, .int (iI ((us.length : Int))), .int (iI 1)])) := ⟨_, rfl⟩
    rw [← e_f1] at hw
    have k_f1_q : f1 q = some (.inl (G.2.1 0, n, .inl g)) := by rw [e_f1]; exact dw_keep h1 (dw_ne h1 h0 (by simp))
    have k_f1_r : f1 r = some (.inr (4, [.ref q, .int (iI ((us.length : Int))), .int (iI 1)])) := by rw [e_f1]; exact dw_up_self _ _ _
    exact cn_vret hx hb hr hlk hw  (⟨rfl, by rw [ap1, ap2, if_neg (by omega), if_neg (by omega)]; exact ⟨g, k_f1_r, k_f1_q, hu, hn, hg⟩, fun b h8 h9 => by rw [e_f1, dw_up_ne _ _ h8]⟩) (Nat.le_refl _) (Nat.le_refl _) d_RW_append_17
set_option maxRecDepth 100000 in
set_option maxHeartbeats 4000000 in
theorem c_RW_drop (l : Launch) (G : ct_G) (f : dw_M) (sz : Nat) (r q n : Nat) (us : List Int) (sp : Int) (hrw : rw G f r q n us sp) : cn l y_RW_drop w_RW_drop (0) (0) G f sz [.ref r] (fun v f' => v = none ∧ rw G f' r q n [] 0 ∧ ∀ b, b ≠ r → f' b = f b) (0) (0) := by
  refine cn_of (own := "TextDesk$Row") (nm := "drop") (ds := "()V") (by decide) (Nat.le_of_ble_eq_true rfl) ?_
  intro p e s m args below meth c ls X hnm hr hlk hs0 hz hw hl
  have hx := X.1
  have hb := X.2.1
  have hl : lv_has ls 1 [(0, .ref r)] := hl
  obtain ⟨g, h0, h1, hu, hn, hg⟩ := hrw
  refine lv_aload_n hx hb d_RW_drop_0 rfl (lv_at hl 0 rfl) ?_
  refine lv_iconst (v := iI (0)) hx hb d_RW_drop_1 rfl ?_
  refine pf_RW_21_RW X hw h0 (rfl) (rfl) d_RW_drop_2 (fun H locs hw => ?_)
  obtain ⟨f1, e_f1⟩ : ∃ g9 : dw_M, g9 = dw_up f r (.inr (4, [.ref q, .int (iI 0), .int (iI sp)])) := ⟨_, rfl⟩
  rw [← e_f1] at hw
  have k_f1_q : f1 q = some (.inl (G.2.1 0, n, .inl g)) := by rw [e_f1]; exact dw_keep h1 (dw_ne h1 h0 (by simp))
  have k_f1_r : f1 r = some (.inr (4, [.ref q, .int (iI 0), .int (iI sp)])) := by rw [e_f1]; exact dw_up_self _ _ _
  refine lv_aload_n hx hb d_RW_drop_5 rfl (lv_at hl 0 rfl) ?_
  refine lv_iconst (v := iI (0)) hx hb d_RW_drop_6 rfl ?_
  refine pf_RW_25_RW X hw k_f1_r (rfl) (rfl) d_RW_drop_7 (fun H locs hw => ?_)
  obtain ⟨f2, e_f2⟩ : ∃ g9 : dw_M, g9 = dw_up f1 r (.inr (4, [.ref q, .int (iI 0), .int (iI 0)])) := ⟨_, rfl⟩
  rw [← e_f2] at hw
  have k_f2_q : f2 q = some (.inl (G.2.1 0, n, .inl g)) := by rw [e_f2]; exact dw_keep k_f1_q (dw_ne k_f1_q k_f1_r (by simp))
  have k_f2_r : f2 r = some (.inr (4, [.ref q, .int (iI 0), .int (iI 0)])) := by rw [e_f2]; exact dw_up_self _ _ _
  exact cn_vret hx hb hr hlk hw  (⟨rfl, ⟨g, k_f2_r, k_f2_q, Nat.zero_le _, hn, fun k hk => absurd hk (Nat.not_lt_zero k)⟩, fun b h8 => by rw [e_f2, dw_up_ne _ _ h8, e_f1, dw_up_ne _ _ h8]⟩) (Nat.le_refl _) (Nat.le_refl _) d_RW_drop_10
end
section
set_option maxRecDepth 100000 in
set_option maxHeartbeats 4000000 in
theorem c_SQ_init (l : Launch) (G : ct_G) (f : dw_M) (sz : Nat) (a : Nat) : cn l y_SQ_init w_SQ_init (1) (20) G f sz [.ref a] (fun v f' => v = none ∧ f' = f) (0) (0) := by
  refine cn_of (own := "TextDesk$Sequence") (nm := "<init>") (ds := "()V") (by decide) (Nat.le_of_ble_eq_true rfl) ?_
  intro p e s m args below meth c ls X hnm hr hlk hs0 hz hw hl
  have hx := X.1
  have hb := X.2.1
  have hl : lv_has ls 1 [(0, .ref a)] := hl
  refine lv_aload_n hx hb d_SQ_init_0 rfl (lv_at hl 0 rfl) ?_
  refine di_obj X hl.1 mw_37 (Nat.le_of_ble_eq_true rfl) (Nat.le_of_ble_eq_true rfl) d_SQ_init_1 ?_
  exact cn_vret hx hb hr hlk hw  (⟨rfl, rfl⟩) (Nat.le_refl _) (Nat.le_refl _) d_SQ_init_4
set_option maxRecDepth 100000 in
set_option maxHeartbeats 4000000 in
theorem c_RW_init (l : Launch) (G : ct_G) (f : dw_M) (sz : Nat) (r n : Nat) (hn : n < 1000) (h0 : f r = some (.inr (4, [.null, .int (iI 0), .int (iI 0)]))) : cn l y_RW_init w_RW_init (2) (50) G f sz [.ref r, .int (iI (n : Int))] (fun v f' => v = none ∧ ∃ q, f q = none ∧ rw G f' r q n [] 0 ∧ ∀ b, b ≠ r → b ≠ q → f' b = f b) (1) (n) := by
  refine cn_of (own := "TextDesk$Row") (nm := "<init>") (ds := "(I)V") (by decide) (Nat.le_of_ble_eq_true rfl) ?_
  intro p e s m args below meth c ls X hnm hr hlk hs0 hz hw hl
  have hx := X.1
  have hb := X.2.1
  have hl : lv_has ls 2 [(0, .ref r), (1, .int (iI ((n : Int))))] := hl
  refine lv_aload_n hx hb d_RW_init_0 rfl (lv_at hl 0 rfl) ?_
  refine cs_RW_3 X hz hw hl.1 (c_SQ_init l G f _ r) ⟨Nat.le_of_ble_eq_true rfl, Nat.le_of_ble_eq_true rfl⟩ ⟨by show 0 + 0 ≤ 1; omega, by show 0 + 0 ≤ n; omega⟩ (Nat.le_of_ble_eq_true rfl) d_RW_init_1 (fun v f9 H locs hp hw hsz9 hkp9 hdm9 => ?_)
  obtain ⟨rfl, hfe⟩ := hp
  rw [hfe] at hw
  refine W.eq (g2 := F0 m 4 ls []) rfl ?_
  refine lv_aload_n hx hb d_RW_init_4 rfl (lv_at hl 0 rfl) ?_
  refine lv_iload_n hx hb d_RW_init_5 rfl (lv_at hl 1 rfl) ?_
  refine lv_iconst (v := iI (0)) hx hb d_RW_init_6 rfl ?_
  refine di_max X hl.1 mw_38 ⟨by omega, by omega⟩ ⟨by omega, by omega⟩ (z := (n : Int)) (if_neg (by omega)) (Nat.le_of_ble_eq_true rfl) (Nat.le_of_ble_eq_true rfl) (by show 0 ≤ 1; omega) (by show 0 ≤ n; omega) d_RW_init_7 ?_
  refine na_int X hw (N := n) (rfl) (by omega) (by show 0 + 1 ≤ 1; omega) (by show 0 + n ≤ n; omega) d_RW_init_10 (fun q H hq_q hw => ?_)
  obtain ⟨f1, e_f1⟩ : ∃ g9 : dw_M, g9 = dw_up f q (.inl (G.2.1 0, n, .inl (fun _ => iI 0))) := ⟨_, rfl⟩
  rw [← e_f1] at hw
  have k_f1_r : f1 r = some (.inr (4, [.null, .int (iI 0), .int (iI 0)])) := by rw [e_f1]; exact dw_keep h0 (dw_neN h0 hq_q)
  have k_f1_q : f1 q = some (.inl (G.2.1 0, n, .inl (fun _ => iI 0))) := by rw [e_f1]; exact dw_up_self _ _ _
  refine pf_RW_15_RW X hnm hw k_f1_r (rfl) (rfl) d_RW_init_12 (fun H locs hw => ?_)
  obtain ⟨f2, e_f2⟩ : ∃ g9 : dw_M, g9 = dw_up f1 r (.inr (4, [.ref q, .int (iI 0), .int (iI 0)])) := ⟨_, rfl⟩
  rw [← e_f2] at hw
  have k_f2_q : f2 q = some (.inl (G.2.1 0, n, .inl (fun _ => iI 0))) := by rw [e_f2]; exact dw_keep k_f1_q (dw_ne k_f1_q k_f1_r (by simp))
  have k_f2_r : f2 r = some (.inr (4, [.ref q, .int (iI 0), .int (iI 0)])) := by rw [e_f2]; exact dw_up_self _ _ _
  exact cn_vret hx hb hr hlk hw  (⟨rfl, q, hq_q, ⟨fun _ => iI 0, k_f2_r, k_f2_q, Nat.zero_le _, hn, fun k hk => absurd hk (Nat.not_lt_zero k)⟩, fun b h8 h9 => by rw [e_f2, dw_up_ne _ _ h8, e_f1, dw_up_ne _ _ h9]⟩) (by omega) (by omega) d_RW_init_15
set_option maxRecDepth 100000 in
set_option maxHeartbeats 4000000 in
theorem c_TX_init_NT (l : Launch) (G : ct_G) (f : dw_M) (sz : Nat) (a : Nat) (z b : Int) (hb0 : b = 0 ∨ b = 1) {v2 : Value} (h0 : f a = some (.inr (1, [.int (iI 0), .int (iI 0), v2]))) : cn l y_TX_init w_TX_init (2) (50) G f sz [.ref a, .int (iI z), .int (iI b)] (fun v f' => v = none ∧ f' a = some (.inr (1, [.int (iI z), .int (iI b), v2])) ∧ ∀ q, q ≠ a → f' q = f q) (0) (0) := by
  refine cn_of (own := "TextDesk$Text") (nm := "<init>") (ds := "(IZ)V") (by decide) (Nat.le_of_ble_eq_true rfl) ?_
  intro p e s m args below meth c ls X hnm hr hlk hs0 hz hw hl
  have hx := X.1
  have hb := X.2.1
  have hl : lv_has ls 3 [(0, .ref a), (1, .int (iI z)), (2, .int (iI b))] := hl
  refine lv_aload_n hx hb d_TX_init_0 rfl (lv_at hl 0 rfl) ?_
  refine cs_TX_1 X hz hw hl.1 (c_SQ_init l G f _ a) ⟨Nat.le_of_ble_eq_true rfl, Nat.le_of_ble_eq_true rfl⟩ ⟨by show 0 + 0 ≤ 0; omega, by show 0 + 0 ≤ 0; omega⟩ (Nat.le_of_ble_eq_true rfl) d_TX_init_1 (fun v f9 H locs hp hw hsz9 hkp9 hdm9 => ?_)
  obtain ⟨rfl, hfe⟩ := hp
  rw [hfe] at hw
  refine W.eq (g2 := F0 m 4 ls []) rfl ?_
  refine lv_aload_n hx hb d_TX_init_4 rfl (lv_at hl 0 rfl) ?_
  refine lv_iload_n hx hb d_TX_init_5 rfl (lv_at hl 1 rfl) ?_
  refine pf_TX_7_NT X hnm hw h0 (rfl) (rfl) d_TX_init_6 (fun H locs hw => ?_)
  obtain ⟨f1, e_f1⟩ : ∃ g9 : dw_M, g9 = dw_up f a (.inr (1, [.int (iI z), .int (iI 0), v2])) := ⟨_, rfl⟩
  rw [← e_f1] at hw
  have k_f1_a : f1 a = some (.inr (1, [.int (iI z), .int (iI 0), v2])) := by rw [e_f1]; exact dw_up_self _ _ _
  refine lv_aload_n hx hb d_TX_init_9 rfl (lv_at hl 0 rfl) ?_
  refine lv_iload_n hx hb d_TX_init_10 rfl (lv_at hl 2 rfl) ?_
  refine pf_TX_13_NT X hnm hw k_f1_a (b01 hb0) (b01f hb0) d_TX_init_11 (fun H locs hw => ?_)
  obtain ⟨f2, e_f2⟩ : ∃ g9 : dw_M, g9 = dw_up f1 a (.inr (1, [.int (iI z), .int (iI b), v2])) := ⟨_, rfl⟩
  rw [← e_f2] at hw
  have k_f2_a : f2 a = some (.inr (1, [.int (iI z), .int (iI b), v2])) := by rw [e_f2]; exact dw_up_self _ _ _
  exact cn_vret hx hb hr hlk hw  (⟨rfl, k_f2_a, fun q h8 => by rw [e_f2, dw_up_ne _ _ h8, e_f1, dw_up_ne _ _ h8]⟩) (Nat.le_refl _) (Nat.le_refl _) d_TX_init_14
set_option maxRecDepth 100000 in
set_option maxHeartbeats 4000000 in
theorem c_TX_size_NT (l : Launch) (G : ct_G) (f : dw_M) (sz : Nat) (a : Nat) (z : Int) {v1 v2 : Value} (h0 : f a = some (.inr (1, [.int (iI z), v1, v2]))) : cn l y_TX_size w_TX_size (0) (0) G f sz [.ref a] (fun v f' => v = some (.int (iI z)) ∧ f' = f) (0) (0) := by
  refine cn_of (own := "TextDesk$Text") (nm := "size") (ds := "()I") (by decide) (Nat.le_of_ble_eq_true rfl) ?_
  intro p e s m args below meth c ls X hnm hr hlk hs0 hz hw hl
  have hx := X.1
  have hb := X.2.1
  have hl : lv_has ls 1 [(0, .ref a)] := hl
  refine lv_aload_n hx hb d_TX_size_0 rfl (lv_at hl 0 rfl) ?_
  refine gf_TX_7_NT X hw h0 d_TX_size_1 ?_
  exact cn_iret hx hb hr hlk hw  (⟨rfl, rfl⟩) (Nat.le_refl _) (Nat.le_refl _) d_TX_size_4
set_option maxRecDepth 100000 in
set_option maxHeartbeats 4000000 in
theorem c_TX_isNarrow_NT (l : Launch) (G : ct_G) (f : dw_M) (sz : Nat) (a : Nat) (b : Int) (hb0 : b = 0 ∨ b = 1) {v0 v2 : Value} (h0 : f a = some (.inr (1, [v0, .int (iI b), v2]))) : cn l y_TX_isNarrow w_TX_isNarrow (0) (0) G f sz [.ref a] (fun v f' => v = some (.int (iI b)) ∧ f' = f) (0) (0) := by
  refine cn_of (own := "TextDesk$Text") (nm := "isNarrow") (ds := "()Z") (by decide) (Nat.le_of_ble_eq_true rfl) ?_
  intro p e s m args below meth c ls X hnm hr hlk hs0 hz hw hl
  have hx := X.1
  have hb := X.2.1
  have hl : lv_has ls 1 [(0, .ref a)] := hl
  refine lv_aload_n hx hb d_TX_isNarrow_0 rfl (lv_at hl 0 rfl) ?_
  refine gf_TX_13_NT X hw h0 d_TX_isNarrow_1 ?_
  exact cn_zret hx hb hr hlk hw (b01 hb0) (⟨rfl, rfl⟩) (Nat.le_refl _) (Nat.le_refl _) d_TX_isNarrow_4
set_option maxRecDepth 100000 in
set_option maxHeartbeats 4000000 in
theorem c_TX_init_WT (l : Launch) (G : ct_G) (f : dw_M) (sz : Nat) (a : Nat) (z b : Int) (hb0 : b = 0 ∨ b = 1) {v2 : Value} (h0 : f a = some (.inr (2, [.int (iI 0), .int (iI 0), v2]))) : cn l y_TX_init w_TX_init (2) (50) G f sz [.ref a, .int (iI z), .int (iI b)] (fun v f' => v = none ∧ f' a = some (.inr (2, [.int (iI z), .int (iI b), v2])) ∧ ∀ q, q ≠ a → f' q = f q) (0) (0) := by
  refine cn_of (own := "TextDesk$Text") (nm := "<init>") (ds := "(IZ)V") (by decide) (Nat.le_of_ble_eq_true rfl) ?_
  intro p e s m args below meth c ls X hnm hr hlk hs0 hz hw hl
  have hx := X.1
  have hb := X.2.1
  have hl : lv_has ls 3 [(0, .ref a), (1, .int (iI z)), (2, .int (iI b))] := hl
  refine lv_aload_n hx hb d_TX_init_0 rfl (lv_at hl 0 rfl) ?_
  refine cs_TX_1 X hz hw hl.1 (c_SQ_init l G f _ a) ⟨Nat.le_of_ble_eq_true rfl, Nat.le_of_ble_eq_true rfl⟩ ⟨by show 0 + 0 ≤ 0; omega, by show 0 + 0 ≤ 0; omega⟩ (Nat.le_of_ble_eq_true rfl) d_TX_init_1 (fun v f9 H locs hp hw hsz9 hkp9 hdm9 => ?_)
  obtain ⟨rfl, hfe⟩ := hp
  rw [hfe] at hw
  refine W.eq (g2 := F0 m 4 ls []) rfl ?_
  refine lv_aload_n hx hb d_TX_init_4 rfl (lv_at hl 0 rfl) ?_
  refine lv_iload_n hx hb d_TX_init_5 rfl (lv_at hl 1 rfl) ?_
  refine pf_TX_7_WT X hnm hw h0 (rfl) (rfl) d_TX_init_6 (fun H locs hw => ?_)
  obtain ⟨f1, e_f1⟩ : ∃ g9 : dw_M, g9 = dw_up f a (.inr (2, [.int (iI z), .int (iI 0), v2])) := ⟨_, rfl⟩
  rw [← e_f1] at hw
  have k_f1_a : f1 a = some (.inr (2, [.int (iI z), .int (iI 0), v2])) := by rw [e_f1]; exact dw_up_self _ _ _
  refine lv_aload_n hx hb d_TX_init_9 rfl (lv_at hl 0 rfl) ?_
  refine lv_iload_n hx hb d_TX_init_10 rfl (lv_at hl 2 rfl) ?_
  refine pf_TX_13_WT X hnm hw k_f1_a (b01 hb0) (b01f hb0) d_TX_init_11 (fun H locs hw => ?_)
  obtain ⟨f2, e_f2⟩ : ∃ g9 : dw_M, g9 = dw_up f1 a (.inr (2, [.int (iI z), .int (iI b), v2])) := ⟨_, rfl⟩
  rw [← e_f2] at hw
  have k_f2_a : f2 a = some (.inr (2, [.int (iI z), .int (iI b), v2])) := by rw [e_f2]; exact dw_up_self _ _ _
  exact cn_vret hx hb hr hlk hw  (⟨rfl, k_f2_a, fun q h8 => by rw [e_f2, dw_up_ne _ _ h8, e_f1, dw_up_ne _ _ h8]⟩) (Nat.le_refl _) (Nat.le_refl _) d_TX_init_14
set_option maxRecDepth 100000 in
set_option maxHeartbeats 4000000 in
theorem c_TX_size_WT (l : Launch) (G : ct_G) (f : dw_M) (sz : Nat) (a : Nat) (z : Int) {v1 v2 : Value} (h0 : f a = some (.inr (2, [.int (iI z), v1, v2]))) : cn l y_TX_size w_TX_size (0) (0) G f sz [.ref a] (fun v f' => v = some (.int (iI z)) ∧ f' = f) (0) (0) := by
  refine cn_of (own := "TextDesk$Text") (nm := "size") (ds := "()I") (by decide) (Nat.le_of_ble_eq_true rfl) ?_
  intro p e s m args below meth c ls X hnm hr hlk hs0 hz hw hl
  have hx := X.1
  have hb := X.2.1
  have hl : lv_has ls 1 [(0, .ref a)] := hl
  refine lv_aload_n hx hb d_TX_size_0 rfl (lv_at hl 0 rfl) ?_
  refine gf_TX_7_WT X hw h0 d_TX_size_1 ?_
  exact cn_iret hx hb hr hlk hw  (⟨rfl, rfl⟩) (Nat.le_refl _) (Nat.le_refl _) d_TX_size_4
set_option maxRecDepth 100000 in
set_option maxHeartbeats 4000000 in
theorem c_TX_isNarrow_WT (l : Launch) (G : ct_G) (f : dw_M) (sz : Nat) (a : Nat) (b : Int) (hb0 : b = 0 ∨ b = 1) {v0 v2 : Value} (h0 : f a = some (.inr (2, [v0, .int (iI b), v2]))) : cn l y_TX_isNarrow w_TX_isNarrow (0) (0) G f sz [.ref a] (fun v f' => v = some (.int (iI b)) ∧ f' = f) (0) (0) := by
  refine cn_of (own := "TextDesk$Text") (nm := "isNarrow") (ds := "()Z") (by decide) (Nat.le_of_ble_eq_true rfl) ?_
  intro p e s m args below meth c ls X hnm hr hlk hs0 hz hw hl
  have hx := X.1
  have hb := X.2.1
  have hl : lv_has ls 1 [(0, .ref a)] := hl
  refine lv_aload_n hx hb d_TX_isNarrow_0 rfl (lv_at hl 0 rfl) ?_
  refine gf_TX_13_WT X hw h0 d_TX_isNarrow_1 ?_
  exact cn_zret hx hb hr hlk hw (b01 hb0) (⟨rfl, rfl⟩) (Nat.le_refl _) (Nat.le_refl _) d_TX_isNarrow_4
set_option maxRecDepth 100000 in
set_option maxHeartbeats 4000000 in
theorem c_TX_init_JT (l : Launch) (G : ct_G) (f : dw_M) (sz : Nat) (a : Nat) (z b : Int) (hb0 : b = 0 ∨ b = 1) {v2 v3 v4 : Value} (h0 : f a = some (.inr (3, [.int (iI 0), .int (iI 0), v2, v3, v4]))) : cn l y_TX_init w_TX_init (2) (50) G f sz [.ref a, .int (iI z), .int (iI b)] (fun v f' => v = none ∧ f' a = some (.inr (3, [.int (iI z), .int (iI b), v2, v3, v4])) ∧ ∀ q, q ≠ a → f' q = f q) (0) (0) := by
  refine cn_of (own := "TextDesk$Text") (nm := "<init>") (ds := "(IZ)V") (by decide) (Nat.le_of_ble_eq_true rfl) ?_
  intro p e s m args below meth c ls X hnm hr hlk hs0 hz hw hl
  have hx := X.1
  have hb := X.2.1
  have hl : lv_has ls 3 [(0, .ref a), (1, .int (iI z)), (2, .int (iI b))] := hl
  refine lv_aload_n hx hb d_TX_init_0 rfl (lv_at hl 0 rfl) ?_
  refine cs_TX_1 X hz hw hl.1 (c_SQ_init l G f _ a) ⟨Nat.le_of_ble_eq_true rfl, Nat.le_of_ble_eq_true rfl⟩ ⟨by show 0 + 0 ≤ 0; omega, by show 0 + 0 ≤ 0; omega⟩ (Nat.le_of_ble_eq_true rfl) d_TX_init_1 (fun v f9 H locs hp hw hsz9 hkp9 hdm9 => ?_)
  obtain ⟨rfl, hfe⟩ := hp
  rw [hfe] at hw
  refine W.eq (g2 := F0 m 4 ls []) rfl ?_
  refine lv_aload_n hx hb d_TX_init_4 rfl (lv_at hl 0 rfl) ?_
  refine lv_iload_n hx hb d_TX_init_5 rfl (lv_at hl 1 rfl) ?_
  refine pf_TX_7_JT X hnm hw h0 (rfl) (rfl) d_TX_init_6 (fun H locs hw => ?_)
  obtain ⟨f1, e_f1⟩ : ∃ g9 : dw_M, g9 = dw_up f a (.inr (3, [.int (iI z), .int (iI 0), v2, v3, v4])) := ⟨_, rfl⟩
  rw [← e_f1] at hw
  have k_f1_a : f1 a = some (.inr (3, [.int (iI z), .int (iI 0), v2, v3, v4])) := by rw [e_f1]; exact dw_up_self _ _ _
  refine lv_aload_n hx hb d_TX_init_9 rfl (lv_at hl 0 rfl) ?_
  refine lv_iload_n hx hb d_TX_init_10 rfl (lv_at hl 2 rfl) ?_
  refine pf_TX_13_JT X hnm hw k_f1_a (b01 hb0) (b01f hb0) d_TX_init_11 (fun H locs hw => ?_)
  obtain ⟨f2, e_f2⟩ : ∃ g9 : dw_M, g9 = dw_up f1 a (.inr (3, [.int (iI z), .int (iI b), v2, v3, v4])) := ⟨_, rfl⟩
  rw [← e_f2] at hw
  have k_f2_a : f2 a = some (.inr (3, [.int (iI z), .int (iI b), v2, v3, v4])) := by rw [e_f2]; exact dw_up_self _ _ _
  exact cn_vret hx hb hr hlk hw  (⟨rfl, k_f2_a, fun q h8 => by rw [e_f2, dw_up_ne _ _ h8, e_f1, dw_up_ne _ _ h8]⟩) (Nat.le_refl _) (Nat.le_refl _) d_TX_init_14
set_option maxRecDepth 100000 in
set_option maxHeartbeats 4000000 in
theorem c_TX_size_JT (l : Launch) (G : ct_G) (f : dw_M) (sz : Nat) (a : Nat) (z : Int) {v1 v2 v3 v4 : Value} (h0 : f a = some (.inr (3, [.int (iI z), v1, v2, v3, v4]))) : cn l y_TX_size w_TX_size (0) (0) G f sz [.ref a] (fun v f' => v = some (.int (iI z)) ∧ f' = f) (0) (0) := by
  refine cn_of (own := "TextDesk$Text") (nm := "size") (ds := "()I") (by decide) (Nat.le_of_ble_eq_true rfl) ?_
  intro p e s m args below meth c ls X hnm hr hlk hs0 hz hw hl
  have hx := X.1
  have hb := X.2.1
  have hl : lv_has ls 1 [(0, .ref a)] := hl
  refine lv_aload_n hx hb d_TX_size_0 rfl (lv_at hl 0 rfl) ?_
  refine gf_TX_7_JT X hw h0 d_TX_size_1 ?_
  exact cn_iret hx hb hr hlk hw  (⟨rfl, rfl⟩) (Nat.le_refl _) (Nat.le_refl _) d_TX_size_4
set_option maxRecDepth 100000 in
set_option maxHeartbeats 4000000 in
theorem c_TX_isNarrow_JT (l : Launch) (G : ct_G) (f : dw_M) (sz : Nat) (a : Nat) (b : Int) (hb0 : b = 0 ∨ b = 1) {v0 v2 v3 v4 : Value} (h0 : f a = some (.inr (3, [v0, .int (iI b), v2, v3, v4]))) : cn l y_TX_isNarrow w_TX_isNarrow (0) (0) G f sz [.ref a] (fun v f' => v = some (.int (iI b)) ∧ f' = f) (0) (0) := by
  refine cn_of (own := "TextDesk$Text") (nm := "isNarrow") (ds := "()Z") (by decide) (Nat.le_of_ble_eq_true rfl) ?_
  intro p e s m args below meth c ls X hnm hr hlk hs0 hz hw hl
  have hx := X.1
  have hb := X.2.1
  have hl : lv_has ls 1 [(0, .ref a)] := hl
  refine lv_aload_n hx hb d_TX_isNarrow_0 rfl (lv_at hl 0 rfl) ?_
  refine gf_TX_13_JT X hw h0 d_TX_isNarrow_1 ?_
  exact cn_zret hx hb hr hlk hw (b01 hb0) (⟨rfl, rfl⟩) (Nat.le_refl _) (Nat.le_refl _) d_TX_isNarrow_4
set_option maxRecDepth 100000 in
set_option maxHeartbeats 4000000 in
theorem c_NT_get (l : Launch) (G : ct_G) (f : dw_M) (sz : Nat) (a : Nat) (us : List Int) (k : Int) (hk : iR k) (ht : ntx G f a us) : cn l y_NT_get w_NT_get (0) (0) G f sz [.ref a, .int (iI k)] (fun v f' => v = some (.int (iI (gt us k))) ∧ f' = f) (0) (0) := by
  refine cn_of (own := "TextDesk$NarrowText") (nm := "get") (ds := "(I)I") (by decide) (Nat.le_of_ble_eq_true rfl) ?_
  intro p e s m args below meth c ls X hnm hr hlk hs0 hz hw hl
  have hx := X.1
  have hb := X.2.1
  have hl : lv_has ls 2 [(0, .ref a), (1, .int (iI k))] := hl
  obtain ⟨hk1, hk2⟩ := hk
  obtain ⟨q, g, h0, h1, hg, hrest⟩ := ht
  have hlen : us.length ≤ 60 := by first | exact hrest.2 | exact hrest.2.2
  refine lv_iload_n hx hb d_NT_get_0 rfl (lv_at hl 1 rfl) ?_
  refine di_if_lt (tgt := 26) hx hb d_NT_get_1 (by decide) ⟨by omega, by omega⟩ (fun bq1 => ?_) (fun bq1 => ?_)
  · refine lv_iconst (v := iI (-1)) hx hb d_NT_get_26 rfl ?_
    exact cn_iret hx hb hr hlk hw  (⟨by rw [gt_out (by omega)], rfl⟩) (Nat.le_refl _) (Nat.le_refl _) d_NT_get_27
  · refine lv_iload_n hx hb d_NT_get_4 rfl (lv_at hl 1 rfl) ?_
    refine lv_aload_n hx hb d_NT_get_5 rfl (lv_at hl 0 rfl) ?_
    refine gf_NT_15_NT X hw h0 d_NT_get_6 ?_
    refine dw_alen hx hb X.K hw 1 h1 rfl d_NT_get_9 ?_
    refine di_icmp_ge (tgt := 26) hx hb d_NT_get_10 (by decide) ⟨by omega, by omega⟩ ⟨by omega, by omega⟩ (fun bq10 => ?_) (fun bq10 => ?_)
    · refine lv_iconst (v := iI (-1)) hx hb d_NT_get_26 rfl ?_
      exact cn_iret hx hb hr hlk hw  (⟨by rw [gt_out (by omega)], rfl⟩) (Nat.le_refl _) (Nat.le_refl _) d_NT_get_27
    · refine lv_aload_n hx hb d_NT_get_13 rfl (lv_at hl 0 rfl) ?_
      refine gf_NT_15_NT X hw h0 d_NT_get_14 ?_
      refine lv_iload_n hx hb d_NT_get_17 rfl (lv_at hl 1 rfl) ?_
      refine dw_bald hx hb X.K hw 1 h1 rfl (by omega) (by omega) (by omega) rfl d_NT_get_18 ?_
      refine lv_sipush (v := iI (255)) hx hb d_NT_get_19 rfl ?_
      refine lv_iand hx hb d_NT_get_22 ?_
      rw [getB us (by omega) (by omega) hg]
      refine lv_goto (tgt := 27) hx hb d_NT_get_23 (by decide) ?_
      exact cn_iret hx hb hr hlk hw  (⟨rfl, rfl⟩) (Nat.le_refl _) (Nat.le_refl _) d_NT_get_27
set_option maxRecDepth 100000 in
set_option maxHeartbeats 4000000 in
theorem c_WT_get (l : Launch) (G : ct_G) (f : dw_M) (sz : Nat) (a : Nat) (us : List Int) (k : Int) (hk : iR k) (ht : wtx G f a us) : cn l y_WT_get w_WT_get (0) (0) G f sz [.ref a, .int (iI k)] (fun v f' => v = some (.int (iI (gt us k))) ∧ f' = f) (0) (0) := by
  refine cn_of (own := "TextDesk$WideText") (nm := "get") (ds := "(I)I") (by decide) (Nat.le_of_ble_eq_true rfl) ?_
  intro p e s m args below meth c ls X hnm hr hlk hs0 hz hw hl
  have hx := X.1
  have hb := X.2.1
  have hl : lv_has ls 2 [(0, .ref a), (1, .int (iI k))] := hl
  obtain ⟨hk1, hk2⟩ := hk
  obtain ⟨q, g, h0, h1, hg, hrest⟩ := ht
  have hlen : us.length ≤ 60 := by first | exact hrest.2 | exact hrest.2.2
  refine lv_iload_n hx hb d_WT_get_0 rfl (lv_at hl 1 rfl) ?_
  refine di_if_lt (tgt := 22) hx hb d_WT_get_1 (by decide) ⟨by omega, by omega⟩ (fun bq1 => ?_) (fun bq1 => ?_)
  · refine lv_iconst (v := iI (-1)) hx hb d_WT_get_22 rfl ?_
    exact cn_iret hx hb hr hlk hw  (⟨by rw [gt_out (by omega)], rfl⟩) (Nat.le_refl _) (Nat.le_refl _) d_WT_get_23
  · refine lv_iload_n hx hb d_WT_get_4 rfl (lv_at hl 1 rfl) ?_
    refine lv_aload_n hx hb d_WT_get_5 rfl (lv_at hl 0 rfl) ?_
    refine gf_WT_15_WT X hw h0 d_WT_get_6 ?_
    refine dw_alen hx hb X.K hw 2 h1 rfl d_WT_get_9 ?_
    refine di_icmp_ge (tgt := 22) hx hb d_WT_get_10 (by decide) ⟨by omega, by omega⟩ ⟨by omega, by omega⟩ (fun bq10 => ?_) (fun bq10 => ?_)
    · refine lv_iconst (v := iI (-1)) hx hb d_WT_get_22 rfl ?_
      exact cn_iret hx hb hr hlk hw  (⟨by rw [gt_out (by omega)], rfl⟩) (Nat.le_refl _) (Nat.le_refl _) d_WT_get_23
    · refine lv_aload_n hx hb d_WT_get_13 rfl (lv_at hl 0 rfl) ?_
      refine gf_WT_15_WT X hw h0 d_WT_get_14 ?_
      refine lv_iload_n hx hb d_WT_get_17 rfl (lv_at hl 1 rfl) ?_
      refine dw_cald hx hb X.K hw 2 h1 rfl (by omega) (by omega) (by omega) (getE us (by omega) (by omega) hg) d_WT_get_18 ?_
      refine lv_goto (tgt := 23) hx hb d_WT_get_19 (by decide) ?_
      exact cn_iret hx hb hr hlk hw  (⟨rfl, rfl⟩) (Nat.le_refl _) (Nat.le_refl _) d_WT_get_23
set_option maxRecDepth 100000 in
set_option maxHeartbeats 4000000 in
theorem c_NT_init (l : Launch) (G : ct_G) (f : dw_M) (sz : Nat) (a r q n : Nat) (us : List Int) (sp : Int) (hus : ∀ u ∈ us, 0 ≤ u ∧ u < 256) (hlen : us.length ≤ 60) (hrw : rw G f r q n us sp) (h0 : f a = some (.inr (1, [.int (iI 0), .int (iI 0), .null]))) : cn l y_NT_init w_NT_init (3) (80) G f sz [.ref a, .ref r] (fun v f' => v = none ∧ ntx G f' a us ∧ ∀ b x, b ≠ a → f b = some x → f' b = some x) (1) (us.length) := by
  refine cn_of (own := "TextDesk$NarrowText") (nm := "<init>") (ds := "(LTextDesk$Row;)V") (by decide) (Nat.le_of_ble_eq_true rfl) ?_
  intro p e s m args below meth c ls X hnm hr hlk hs0 hz hw hl
  have hx := X.1
  have hb := X.2.1
  have hl : lv_has ls 3 [(0, .ref a), (1, .ref r)] := hl
  have hra : r ≠ a := by obtain ⟨g, h3, -⟩ := hrw; exact dw_ne h3 h0 (by simp)
  have hqa : q ≠ a := by obtain ⟨g, -, h3, -⟩ := hrw; exact dw_ne h3 h0 (by simp)
  refine lv_aload_n hx hb d_NT_init_0 rfl (lv_at hl 0 rfl) ?_
  refine lv_aload_n hx hb d_NT_init_1 rfl (lv_at hl 1 rfl) ?_
  refine cs_NT_3 X hz hw hl.1 hrw.choose_spec.1 (c_RW_size l G f _ r q n us sp hrw) ⟨Nat.le_of_ble_eq_true rfl, Nat.le_of_ble_eq_true rfl⟩ ⟨by show 0 + 0 ≤ 1; omega, by show 0 + 0 ≤ us.length; omega⟩ (Nat.le_of_ble_eq_true rfl) d_NT_init_2 (fun v f9 H locs hp hw hsz9 hkp9 hdm9 => ?_)
  obtain ⟨rfl, hfe⟩ := hp
  rw [hfe] at hw
  refine W.eq (g2 := F0 m 5 ls [.int (iI ((us.length : Int))), .ref a]) rfl ?_
  refine lv_iconst (v := iI (1)) hx hb d_NT_init_5 rfl ?_
  refine cs_NT_9 X hz hw hl.1 (c_TX_init_NT l G f _ a (us.length : Int) 1 (by decide) h0) ⟨Nat.le_of_ble_eq_true rfl, Nat.le_of_ble_eq_true rfl⟩ ⟨by show 0 + 0 ≤ 1; omega, by show 0 + 0 ≤ us.length; omega⟩ (Nat.le_of_ble_eq_true rfl) d_NT_init_6 (fun v f2 H locs hp hw hsz9 hkp9 hdm9 => ?_)
  obtain ⟨rfl, h2, hk2⟩ := hp
  have hrw2 : rw G f2 r q n us sp := by obtain ⟨g, h3, h4, h5⟩ := hrw; exact ⟨g, by rw [hk2 _ hra]; exact h3, by rw [hk2 _ hqa]; exact h4, h5⟩
  refine W.eq (g2 := F0 m 9 ls []) rfl ?_
  refine lv_aload_n hx hb d_NT_init_9 rfl (lv_at hl 0 rfl) ?_
  refine lv_aload_n hx hb d_NT_init_10 rfl (lv_at hl 1 rfl) ?_
  refine cs_NT_3 X hz hw hl.1 hrw2.choose_spec.1 (c_RW_size l G f2 _ r q n us sp hrw2) ⟨Nat.le_of_ble_eq_true rfl, Nat.le_of_ble_eq_true rfl⟩ ⟨by show 0 + 0 ≤ 1; omega, by show 0 + 0 ≤ us.length; omega⟩ (Nat.le_of_ble_eq_true rfl) d_NT_init_11 (fun v f9 H locs hp hw hsz9 hkp9 hdm9 => ?_)
  obtain ⟨rfl, hfe⟩ := hp
  rw [hfe] at hw
  refine W.eq (g2 := F0 m 14 ls [.int (iI ((us.length : Int))), .ref a]) rfl ?_
  refine na_byte X hw (N := us.length) (rfl) (by omega) (by show 0 + 1 ≤ 1; omega) (by show 0 + us.length ≤ us.length; omega) d_NT_init_14 (fun y H hq_y hw => ?_)
  obtain ⟨f3, e_f3⟩ : ∃ g9 : dw_M, g9 = dw_up f2 y (.inl (G.2.1 1, us.length, .inl (fun _ => iI 0))) := ⟨_, rfl⟩
  rw [← e_f3] at hw
  have k_f3_a : f3 a = some (.inr (1, [.int (iI ((us.length : Int))), .int (iI 1), .null])) := by rw [e_f3]; exact dw_keep h2 (dw_neN h2 hq_y)
  have k_f3_y : f3 y = some (.inl (G.2.1 1, us.length, .inl (fun _ => iI 0))) := by rw [e_f3]; exact dw_up_self _ _ _
  refine pf_NT_15_NT X hnm hw k_f3_a (rfl) (rfl) d_NT_init_16 (fun H locs hw => ?_)
  obtain ⟨f4, e_f4⟩ : ∃ g9 : dw_M, g9 = dw_up f3 a (.inr (1, [.int (iI ((us.length : Int))), .int (iI 1), .ref y])) := ⟨_, rfl⟩
  rw [← e_f4] at hw
  have k_f4_y : f4 y = some (.inl (G.2.1 1, us.length, .inl (fun _ => iI 0))) := by rw [e_f4]; exact dw_keep k_f3_y (dw_ne k_f3_y k_f3_a (by simp))
  have k_f4_a : f4 a = some (.inr (1, [.int (iI ((us.length : Int))), .int (iI 1), .ref y])) := by rw [e_f4]; exact dw_up_self _ _ _
  have hkey : ∀ b x, b ≠ a → f b = some x → f4 b = some x := fun b x h8 h9 => by
    have h7 : f2 b = some x := by rw [hk2 b h8]; exact h9
    rw [e_f4, dw_up_ne _ _ h8, e_f3, dw_up_ne _ _ (dw_neN h7 hq_y)]; exact h7
  have hrw3 : rw G f4 r q n us sp := by obtain ⟨g, h3, h4, h5⟩ := hrw; exact ⟨g, hkey _ _ hra h3, hkey _ _ hqa h4, h5⟩
  refine lv_iconst (v := iI (0)) hx hb d_NT_init_19 rfl ?_
  refine lv_istore_n (lv' := [(2, .int (iI 0)), (0, .ref a), (1, .ref r)]) hx hb d_NT_init_20 rfl hl (by decide) rfl (fun ls hl => ?_)
  have hyf : f y = none := by rw [← hk2 y (Ne.symm (dw_neN h2 hq_y))]; exact hq_y
  have loop : ∀ (N : Nat) (k : Int) (g : Nat → Int32) (f1 : dw_M) (H : Heap) (locs : List Loc) (ls : Array Slot), ((us.length : Int) - k).toNat < N → 0 ≤ k → k ≤ (us.length : Int) → f1 a = some (.inr (1, [.int (iI ((us.length : Int))), .int (iI 1), .ref y])) → f1 y = some (.inl (G.2.1 1, us.length, .inl g)) → (∀ b x, b ≠ a → f b = some x → f1 b = some x) → rw G f1 r q n us sp → (∀ j : Nat, (j : Int) < k → g j &&& 255 = iI (us.getD j 0)) → dw G.1 dk_cl (dw_A f sz) s.heap f1 H locs → lv_has ls 3 [(2, .int (iI k)), (0, .ref a), (1, .ref r)] → W p l e { frames := 3, locals := 80, cells := 1, slots := us.length } s m args below meth c H locs (0 + 1) (0 + us.length) (MQ below (ct_Q G f sz (fun v f' => v = none ∧ ntx G f' a us ∧ ∀ b x, b ≠ a → f b = some x → f' b = some x)) args s (1) (us.length) (dw_A f sz)) (F0 m 21 ls []) := by
    intro N
    induction N with
    | zero => intros; omega
    | succ N ih =>
      intro k g f1 H locs ls hN hk0 hk1 ha hy hkp hrw1 hg hw hl
      refine lv_iload_n hx hb d_NT_init_21 rfl (lv_at hl 0 rfl) ?_
      refine lv_aload_n hx hb d_NT_init_22 rfl (lv_at hl 1 rfl) ?_
      refine gf_NT_15_NT X hw ha d_NT_init_23 ?_
      refine dw_alen hx hb X.K hw 1 hy rfl d_NT_init_26 ?_
      refine di_icmp_ge (tgt := 48) hx hb d_NT_init_27 (by decide) ⟨by omega, by omega⟩ ⟨by omega, by omega⟩ (fun bq27 => ?_) (fun bq27 => ?_)
      · exact cn_vret hx hb hr hlk hw  (⟨rfl, ⟨y, g, ha, hy, fun j hj => hg j (by omega), hus, hlen⟩, hkp⟩) (by omega) (by omega) d_NT_init_48
      · refine lv_aload_n hx hb d_NT_init_30 rfl (lv_at hl 1 rfl) ?_
        refine gf_NT_15_NT X hw ha d_NT_init_31 ?_
        refine lv_iload_n hx hb d_NT_init_34 rfl (lv_at hl 0 rfl) ?_
        refine lv_aload_n hx hb d_NT_init_35 rfl (lv_at hl 2 rfl) ?_
        refine lv_iload_n hx hb d_NT_init_36 rfl (lv_at hl 0 rfl) ?_
        refine cs_NT_21 X hz hw hl.1 hrw1.choose_spec.1 (c_RW_get l G f1 _ r q n us sp k ⟨by omega, by omega⟩ hrw1) ⟨Nat.le_of_ble_eq_true rfl, Nat.le_of_ble_eq_true rfl⟩ ⟨by show 0 + 1 + 0 ≤ 1; omega, by show 0 + us.length + 0 ≤ us.length; omega⟩ (Nat.le_of_ble_eq_true rfl) d_NT_init_37 (fun v f9 H locs hp hw hsz9 hkp9 hdm9 => ?_)
        obtain ⟨rfl, hfe⟩ := hp
        rw [hfe] at hw
        have hu := hus _ (getD_mem (us := us) (k := k.toNat) (by omega))
        have hgk : gt us k = us.getD k.toNat 0 := gt_in (by omega) (by omega)
        refine W.eq (g2 := F0 m 40 ls [.int (iI (gt us k)), .int (iI k), .ref y]) rfl ?_
        refine lv_i2b hx hb d_NT_init_40 rfl ?_
        refine dw_bast hx hb X.K hw 1 hy rfl (by omega) (by omega) (by omega) d_NT_init_41 (fun H locs hw => ?_)
        obtain ⟨f4, e_f4⟩ : ∃ g9 : dw_M, g9 = dw_up f1 y (.inl (G.2.1 1, us.length, .inl (upd g k.toNat (vp_nar .byte ((iI (gt us k)).toInt8.toInt32))))) := ⟨_, rfl⟩
        rw [← e_f4] at hw
        have k_f4_a : f4 a = some (.inr (1, [.int (iI ((us.length : Int))), .int (iI 1), .ref y])) := by rw [e_f4]; exact dw_keep ha (dw_ne ha hy (by simp))
        have k_f4_y : f4 y = some (.inl (G.2.1 1, us.length, .inl (upd g k.toNat (vp_nar .byte ((iI (gt us k)).toInt8.toInt32))))) := by rw [e_f4]; exact dw_up_self _ _ _
        have hkp4 : ∀ b x, b ≠ a → f b = some x → f4 b = some x := fun b x h8 h9 => by rw [e_f4, dw_up_ne _ _ (fun e9 => by rw [e9] at h9; rw [h9] at hyf; cases hyf)]; exact hkp b x h8 h9
        have hrw4 : rw G f4 r q n us sp := by obtain ⟨g9, h3, h4, h5⟩ := hrw; exact ⟨g9, hkp4 _ _ hra h3, hkp4 _ _ hqa h4, h5⟩
        refine lv_iinc (v := iI (k + 1)) (lv' := [(2, .int (iI (k + 1))), (0, .ref a), (1, .ref r)]) hx hb d_NT_init_42 hl (k := 0) rfl (iI_add _ _) (by decide) rfl (fun ls hl => ?_)
        refine lv_goto (tgt := 21) hx hb d_NT_init_45 (by decide) ?_
        have hg4 : ∀ j : Nat, (j : Int) < k + 1 → (upd g k.toNat (vp_nar .byte ((iI (gt us k)).toInt8.toInt32))) j &&& 255 = iI (us.getD j 0) := fun j hj => by
          by_cases e : j = k.toNat
          · subst e
            rw [pk_us, ← hgk]
            exact by_put (by omega) (by omega)
          · rw [pk_un e]
            exact hg j (by omega)
        exact ih (k + 1) ((upd g k.toNat (vp_nar .byte ((iI (gt us k)).toInt8.toInt32)))) _ _ _ _ (by omega) (by omega) (by omega) (k_f4_a) (k_f4_y) (hkp4) (hrw4) (hg4) hw (lv_sub hl [0, 1, 2] rfl)
  exact loop (((us.length : Int) - 0).toNat + 1) (0) (fun _ => iI 0) _ _ _ _ (by omega) (by omega) (by omega) (k_f4_a) (k_f4_y) (hkey) (hrw3) (fun j hj => by omega) hw (lv_sub hl [0, 1, 2] rfl)
set_option maxRecDepth 100000 in
set_option maxHeartbeats 4000000 in
theorem c_WT_init (l : Launch) (G : ct_G) (f : dw_M) (sz : Nat) (a r q n : Nat) (us : List Int) (sp : Int) (hus : ∀ u ∈ us, 0 ≤ u ∧ u < 65536) (hex : ∃ u ∈ us, 256 ≤ u) (hlen : us.length ≤ 60) (hrw : rw G f r q n us sp) (h0 : f a = some (.inr (2, [.int (iI 0), .int (iI 0), .null]))) : cn l y_WT_init w_WT_init (3) (80) G f sz [.ref a, .ref r] (fun v f' => v = none ∧ wtx G f' a us ∧ ∀ b x, b ≠ a → f b = some x → f' b = some x) (1) (us.length) := by
  refine cn_of (own := "TextDesk$WideText") (nm := "<init>") (ds := "(LTextDesk$Row;)V") (by decide) (Nat.le_of_ble_eq_true rfl) ?_
  intro p e s m args below meth c ls X hnm hr hlk hs0 hz hw hl
  have hx := X.1
  have hb := X.2.1
  have hl : lv_has ls 3 [(0, .ref a), (1, .ref r)] := hl
  have hra : r ≠ a := by obtain ⟨g, h3, -⟩ := hrw; exact dw_ne h3 h0 (by simp)
  have hqa : q ≠ a := by obtain ⟨g, -, h3, -⟩ := hrw; exact dw_ne h3 h0 (by simp)
  refine lv_aload_n hx hb d_WT_init_0 rfl (lv_at hl 0 rfl) ?_
  refine lv_aload_n hx hb d_WT_init_1 rfl (lv_at hl 1 rfl) ?_
  refine cs_WT_3 X hz hw hl.1 hrw.choose_spec.1 (c_RW_size l G f _ r q n us sp hrw) ⟨Nat.le_of_ble_eq_true rfl, Nat.le_of_ble_eq_true rfl⟩ ⟨by show 0 + 0 ≤ 1; omega, by show 0 + 0 ≤ us.length; omega⟩ (Nat.le_of_ble_eq_true rfl) d_WT_init_2 (fun v f9 H locs hp hw hsz9 hkp9 hdm9 => ?_)
  obtain ⟨rfl, hfe⟩ := hp
  rw [hfe] at hw
  refine W.eq (g2 := F0 m 5 ls [.int (iI ((us.length : Int))), .ref a]) rfl ?_
  refine lv_iconst (v := iI (0)) hx hb d_WT_init_5 rfl ?_
  refine cs_WT_9 X hz hw hl.1 (c_TX_init_WT l G f _ a (us.length : Int) 0 (by decide) h0) ⟨Nat.le_of_ble_eq_true rfl, Nat.le_of_ble_eq_true rfl⟩ ⟨by show 0 + 0 ≤ 1; omega, by show 0 + 0 ≤ us.length; omega⟩ (Nat.le_of_ble_eq_true rfl) d_WT_init_6 (fun v f2 H locs hp hw hsz9 hkp9 hdm9 => ?_)
  obtain ⟨rfl, h2, hk2⟩ := hp
  have hrw2 : rw G f2 r q n us sp := by obtain ⟨g, h3, h4, h5⟩ := hrw; exact ⟨g, by rw [hk2 _ hra]; exact h3, by rw [hk2 _ hqa]; exact h4, h5⟩
  refine W.eq (g2 := F0 m 9 ls []) rfl ?_
  refine lv_aload_n hx hb d_WT_init_9 rfl (lv_at hl 0 rfl) ?_
  refine lv_aload_n hx hb d_WT_init_10 rfl (lv_at hl 1 rfl) ?_
  refine cs_WT_3 X hz hw hl.1 hrw2.choose_spec.1 (c_RW_size l G f2 _ r q n us sp hrw2) ⟨Nat.le_of_ble_eq_true rfl, Nat.le_of_ble_eq_true rfl⟩ ⟨by show 0 + 0 ≤ 1; omega, by show 0 + 0 ≤ us.length; omega⟩ (Nat.le_of_ble_eq_true rfl) d_WT_init_11 (fun v f9 H locs hp hw hsz9 hkp9 hdm9 => ?_)
  obtain ⟨rfl, hfe⟩ := hp
  rw [hfe] at hw
  refine W.eq (g2 := F0 m 14 ls [.int (iI ((us.length : Int))), .ref a]) rfl ?_
  refine na_char X hw (N := us.length) (rfl) (by omega) (by show 0 + 1 ≤ 1; omega) (by show 0 + us.length ≤ us.length; omega) d_WT_init_14 (fun y H hq_y hw => ?_)
  obtain ⟨f3, e_f3⟩ : ∃ g9 : dw_M, g9 = dw_up f2 y (.inl (G.2.1 2, us.length, .inl (fun _ => iI 0))) := ⟨_, rfl⟩
  rw [← e_f3] at hw
  have k_f3_a : f3 a = some (.inr (2, [.int (iI ((us.length : Int))), .int (iI 0), .null])) := by rw [e_f3]; exact dw_keep h2 (dw_neN h2 hq_y)
  have k_f3_y : f3 y = some (.inl (G.2.1 2, us.length, .inl (fun _ => iI 0))) := by rw [e_f3]; exact dw_up_self _ _ _
  refine pf_WT_15_WT X hnm hw k_f3_a (rfl) (rfl) d_WT_init_16 (fun H locs hw => ?_)
  obtain ⟨f4, e_f4⟩ : ∃ g9 : dw_M, g9 = dw_up f3 a (.inr (2, [.int (iI ((us.length : Int))), .int (iI 0), .ref y])) := ⟨_, rfl⟩
  rw [← e_f4] at hw
  have k_f4_y : f4 y = some (.inl (G.2.1 2, us.length, .inl (fun _ => iI 0))) := by rw [e_f4]; exact dw_keep k_f3_y (dw_ne k_f3_y k_f3_a (by simp))
  have k_f4_a : f4 a = some (.inr (2, [.int (iI ((us.length : Int))), .int (iI 0), .ref y])) := by rw [e_f4]; exact dw_up_self _ _ _
  have hkey : ∀ b x, b ≠ a → f b = some x → f4 b = some x := fun b x h8 h9 => by
    have h7 : f2 b = some x := by rw [hk2 b h8]; exact h9
    rw [e_f4, dw_up_ne _ _ h8, e_f3, dw_up_ne _ _ (dw_neN h7 hq_y)]; exact h7
  have hrw3 : rw G f4 r q n us sp := by obtain ⟨g, h3, h4, h5⟩ := hrw; exact ⟨g, hkey _ _ hra h3, hkey _ _ hqa h4, h5⟩
  refine lv_iconst (v := iI (0)) hx hb d_WT_init_19 rfl ?_
  refine lv_istore_n (lv' := [(2, .int (iI 0)), (0, .ref a), (1, .ref r)]) hx hb d_WT_init_20 rfl hl (by decide) rfl (fun ls hl => ?_)
  have hyf : f y = none := by rw [← hk2 y (Ne.symm (dw_neN h2 hq_y))]; exact hq_y
  have loop : ∀ (N : Nat) (k : Int) (g : Nat → Int32) (f1 : dw_M) (H : Heap) (locs : List Loc) (ls : Array Slot), ((us.length : Int) - k).toNat < N → 0 ≤ k → k ≤ (us.length : Int) → f1 a = some (.inr (2, [.int (iI ((us.length : Int))), .int (iI 0), .ref y])) → f1 y = some (.inl (G.2.1 2, us.length, .inl g)) → (∀ b x, b ≠ a → f b = some x → f1 b = some x) → rw G f1 r q n us sp → (∀ j : Nat, (j : Int) < k → g j = iI (us.getD j 0)) → dw G.1 dk_cl (dw_A f sz) s.heap f1 H locs → lv_has ls 3 [(2, .int (iI k)), (0, .ref a), (1, .ref r)] → W p l e { frames := 3, locals := 80, cells := 1, slots := us.length } s m args below meth c H locs (0 + 1) (0 + us.length) (MQ below (ct_Q G f sz (fun v f' => v = none ∧ wtx G f' a us ∧ ∀ b x, b ≠ a → f b = some x → f' b = some x)) args s (1) (us.length) (dw_A f sz)) (F0 m 21 ls []) := by
    intro N
    induction N with
    | zero => intros; omega
    | succ N ih =>
      intro k g f1 H locs ls hN hk0 hk1 ha hy hkp hrw1 hg hw hl
      refine lv_iload_n hx hb d_WT_init_21 rfl (lv_at hl 0 rfl) ?_
      refine lv_aload_n hx hb d_WT_init_22 rfl (lv_at hl 1 rfl) ?_
      refine gf_WT_15_WT X hw ha d_WT_init_23 ?_
      refine dw_alen hx hb X.K hw 2 hy rfl d_WT_init_26 ?_
      refine di_icmp_ge (tgt := 48) hx hb d_WT_init_27 (by decide) ⟨by omega, by omega⟩ ⟨by omega, by omega⟩ (fun bq27 => ?_) (fun bq27 => ?_)
      · exact cn_vret hx hb hr hlk hw  (⟨rfl, ⟨y, g, ha, hy, fun j hj => hg j (by omega), hus, hex, hlen⟩, hkp⟩) (by omega) (by omega) d_WT_init_48
      · refine lv_aload_n hx hb d_WT_init_30 rfl (lv_at hl 1 rfl) ?_
        refine gf_WT_15_WT X hw ha d_WT_init_31 ?_
        refine lv_iload_n hx hb d_WT_init_34 rfl (lv_at hl 0 rfl) ?_
        refine lv_aload_n hx hb d_WT_init_35 rfl (lv_at hl 2 rfl) ?_
        refine lv_iload_n hx hb d_WT_init_36 rfl (lv_at hl 0 rfl) ?_
        refine cs_WT_21 X hz hw hl.1 hrw1.choose_spec.1 (c_RW_get l G f1 _ r q n us sp k ⟨by omega, by omega⟩ hrw1) ⟨Nat.le_of_ble_eq_true rfl, Nat.le_of_ble_eq_true rfl⟩ ⟨by show 0 + 1 + 0 ≤ 1; omega, by show 0 + us.length + 0 ≤ us.length; omega⟩ (Nat.le_of_ble_eq_true rfl) d_WT_init_37 (fun v f9 H locs hp hw hsz9 hkp9 hdm9 => ?_)
        obtain ⟨rfl, hfe⟩ := hp
        rw [hfe] at hw
        have hu := hus _ (getD_mem (us := us) (k := k.toNat) (by omega))
        have hgk : gt us k = us.getD k.toNat 0 := gt_in (by omega) (by omega)
        refine W.eq (g2 := F0 m 40 ls [.int (iI (gt us k)), .int (iI k), .ref y]) rfl ?_
        refine lv_i2c (v := iI (gt us k)) hx hb d_WT_init_40 (ch_i2c (by omega) (by omega)) ?_
        refine dw_cast hx hb X.K hw 2 hy rfl (by omega) (by omega) (by omega) d_WT_init_41 (fun H locs hw => ?_)
        obtain ⟨f4, e_f4⟩ : ∃ g9 : dw_M, g9 = dw_up f1 y (.inl (G.2.1 2, us.length, .inl (upd g k.toNat (vp_nar .char (iI (gt us k)))))) := ⟨_, rfl⟩
        rw [← e_f4] at hw
        have k_f4_a : f4 a = some (.inr (2, [.int (iI ((us.length : Int))), .int (iI 0), .ref y])) := by rw [e_f4]; exact dw_keep ha (dw_ne ha hy (by simp))
        have k_f4_y : f4 y = some (.inl (G.2.1 2, us.length, .inl (upd g k.toNat (vp_nar .char (iI (gt us k)))))) := by rw [e_f4]; exact dw_up_self _ _ _
        have hkp4 : ∀ b x, b ≠ a → f b = some x → f4 b = some x := fun b x h8 h9 => by rw [e_f4, dw_up_ne _ _ (fun e9 => by rw [e9] at h9; rw [h9] at hyf; cases hyf)]; exact hkp b x h8 h9
        have hrw4 : rw G f4 r q n us sp := by obtain ⟨g9, h3, h4, h5⟩ := hrw; exact ⟨g9, hkp4 _ _ hra h3, hkp4 _ _ hqa h4, h5⟩
        refine lv_iinc (v := iI (k + 1)) (lv' := [(2, .int (iI (k + 1))), (0, .ref a), (1, .ref r)]) hx hb d_WT_init_42 hl (k := 0) rfl (iI_add _ _) (by decide) rfl (fun ls hl => ?_)
        refine lv_goto (tgt := 21) hx hb d_WT_init_45 (by decide) ?_
        have hg4 : ∀ j : Nat, (j : Int) < k + 1 → (upd g k.toNat (vp_nar .char (iI (gt us k)))) j = iI (us.getD j 0) := fun j hj => by
          by_cases e : j = k.toNat
          · subst e
            rw [pk_us, ← hgk]
            exact ch_put (by omega) (by omega)
          · rw [pk_un e]
            exact hg j (by omega)
        exact ih (k + 1) ((upd g k.toNat (vp_nar .char (iI (gt us k))))) _ _ _ _ (by omega) (by omega) (by omega) (k_f4_a) (k_f4_y) (hkp4) (hrw4) (hg4) hw (lv_sub hl [0, 1, 2] rfl)
  exact loop (((us.length : Int) - 0).toNat + 1) (0) (fun _ => iI 0) _ _ _ _ (by omega) (by omega) (by omega) (k_f4_a) (k_f4_y) (hkey) (hrw3) (fun j hj => by omega) hw (lv_sub hl [0, 1, 2] rfl)
end
section
section SL
variable {p : Program} {l : Launch} {e : Env} {R : Room} {s : State} {m : MethodId} {args : Array Value} {below : List Frame} {meth : Method} {c : Code} {H : Heap} {locs : List Loc} {cells slots : Nat} {Q : State → Prop}
variable {cc : ByteArray} {pc nL : Nat} {ls : Array Slot} {rest : List Value} {G : ct_G} {A : Nat → Prop} {a b : Nat} {f : dw_M} {H0 : Heap} {fr lo mc ms : Nat} {post : Option Value → dw_M → Prop} {px : String → dw_M → Prop}
theorem sl_RW_35 (X : cx G "TextDesk$Row" p s m args c cc nL) (hz : ct_z G A s) (hw : dw G.1 dk_cl A s.heap f H locs) (hls : ls.size = nL) {us : List Int} {k : Int} (ht : lf G f b us) (hk : iR k) (hR : 0 + 1 ≤ R.frames ∧ 8 + (2 + 11) + 0 ≤ R.locals) (hf : cells ≤ R.cells ∧ slots ≤ R.slots) (hW : (rest.map fun v => v.category).sum ≤ 8) (hdg : decode cc pc = .ok (.invokevirtual 35, 3))
    (kk : ∀ (H1 : Heap) (locs1 : List Loc), dw G.1 dk_cl A s.heap f H1 locs1 → W p l e R s m args below meth c H1 locs1 cells slots Q (F0 m (pc + 3) ls (.int (iI (gt us k)) :: rest))) : W p l e R s m args below meth c H locs cells slots Q (F0 m pc ls (.int (iI k) :: .ref b :: rest)) := by
  rcases ht with ht | ht
  · refine cs_RW_35_NT X hz hw hls ht.choose_spec.choose_spec.1 (c_NT_get l G f _ b us k hk ht) hR ⟨by omega, by omega⟩ hW hdg (fun v f9 H1 locs1 hp hw _ _ _ => ?_)
    obtain ⟨rfl, hfe⟩ := hp
    rw [hfe] at hw
    exact kk H1 locs1 hw
  · refine cs_RW_35_WT X hz hw hls ht.choose_spec.choose_spec.1 (c_WT_get l G f _ b us k hk ht) hR ⟨by omega, by omega⟩ hW hdg (fun v f9 H1 locs1 hp hw _ _ _ => ?_)
    obtain ⟨rfl, hfe⟩ := hp
    rw [hfe] at hw
    exact kk H1 locs1 hw
theorem sl_JT_43 (X : cx G "TextDesk$JoinedText" p s m args c cc nL) (hz : ct_z G A s) (hw : dw G.1 dk_cl A s.heap f H locs) (hls : ls.size = nL) {us : List Int} {k : Int} (ht : lf G f b us) (hk : iR k) (hR : 0 + 1 ≤ R.frames ∧ 8 + (2 + 11) + 0 ≤ R.locals) (hf : cells ≤ R.cells ∧ slots ≤ R.slots) (hW : (rest.map fun v => v.category).sum ≤ 8) (hdg : decode cc pc = .ok (.invokevirtual 43, 3))
    (kk : ∀ (H1 : Heap) (locs1 : List Loc), dw G.1 dk_cl A s.heap f H1 locs1 → W p l e R s m args below meth c H1 locs1 cells slots Q (F0 m (pc + 3) ls (.int (iI (gt us k)) :: rest))) : W p l e R s m args below meth c H locs cells slots Q (F0 m pc ls (.int (iI k) :: .ref b :: rest)) := by
  rcases ht with ht | ht
  · refine cs_JT_43_NT X hz hw hls ht.choose_spec.choose_spec.1 (c_NT_get l G f _ b us k hk ht) hR ⟨by omega, by omega⟩ hW hdg (fun v f9 H1 locs1 hp hw _ _ _ => ?_)
    obtain ⟨rfl, hfe⟩ := hp
    rw [hfe] at hw
    exact kk H1 locs1 hw
  · refine cs_JT_43_WT X hz hw hls ht.choose_spec.choose_spec.1 (c_WT_get l G f _ b us k hk ht) hR ⟨by omega, by omega⟩ hW hdg (fun v f9 H1 locs1 hp hw _ _ _ => ?_)
    obtain ⟨rfl, hfe⟩ := hp
    rw [hfe] at hw
    exact kk H1 locs1 hw
/-- the head of a text's cell, of any kind -/
theorem tx_head {G : ct_G} {f : dw_M} {d b : Nat} {us : List Int} (ht : tx G d f b us) : (∃ (q : Nat) (g : Nat → Int32), f b = some (.inr (1, [.int (iI us.length), .int (iI 1), .ref q])) ∧ nar us = 1) ∨ (∃ (q : Nat) (g : Nat → Int32), f b = some (.inr (2, [.int (iI us.length), .int (iI 0), .ref q])) ∧ nar us = 0) ∨ ∃ (x y : Nat) (fl : Option Nat), f b = some (.inr (3, [.int (iI us.length), .int (iI (nar us)), .ref x, .ref y, va_rf fl])) := by
  have hl : lf G f b us → (∃ (q : Nat) (g : Nat → Int32), f b = some (.inr (1, [.int (iI us.length), .int (iI 1), .ref q])) ∧ nar us = 1) ∨ (∃ (q : Nat) (g : Nat → Int32), f b = some (.inr (2, [.int (iI us.length), .int (iI 0), .ref q])) ∧ nar us = 0) ∨ ∃ (x y : Nat) (fl : Option Nat), f b = some (.inr (3, [.int (iI us.length), .int (iI (nar us)), .ref x, .ref y, va_rf fl])) := by
    intro h
    rcases h with ⟨q, g, h1, h2, h3, h4, h5⟩ | ⟨q, g, h1, h2, h3, h4, h5, h6⟩
    · exact Or.inl ⟨q, g, h1, nar_n h4⟩
    · exact Or.inr (Or.inl ⟨q, g, h1, nar_w h5⟩)
  cases d with
  | zero => exact hl ht
  | succ d =>
    rcases ht with h | ⟨x, y, ux, uy, fl, h1, -⟩
    · exact hl h
    · exact Or.inr (Or.inr ⟨x, y, fl, h1⟩)
theorem sq_RW_29 (X : cx G "TextDesk$Row" p s m args c cc nL) (hz : ct_z G A s) (hw : dw G.1 dk_cl A s.heap f H locs) (hls : ls.size = nL) {us : List Int} (ht : (∃ d, tx G d f b us) ∨ ∃ q n sp, rw G f b q n us sp) (hR : 0 + 1 ≤ R.frames ∧ 8 + (1 + 11) + 0 ≤ R.locals) (hf : cells ≤ R.cells ∧ slots ≤ R.slots) (hW : (rest.map fun v => v.category).sum ≤ 8) (hdg : decode cc pc = .ok (.invokevirtual 29, 3))
    (kk : ∀ (H1 : Heap) (locs1 : List Loc), dw G.1 dk_cl A s.heap f H1 locs1 → W p l e R s m args below meth c H1 locs1 cells slots Q (F0 m (pc + 3) ls (.int (iI (us.length : Int)) :: rest))) : W p l e R s m args below meth c H locs cells slots Q (F0 m pc ls (.ref b :: rest)) := by
  rcases ht with ⟨d, ht⟩ | ⟨q, n, sp, ht⟩
  rcases tx_head ht with ⟨q, g, h1, -⟩ | ⟨q, g, h1, -⟩ | ⟨x, y, fl, h1⟩
  · refine cs_RW_29_NT X hz hw hls h1 (c_TX_size_NT l G f _ b (us.length : Int) h1) hR ⟨by omega, by omega⟩ hW hdg (fun v f9 H1 locs1 hp hw _ _ _ => ?_)
    obtain ⟨rfl, hfe⟩ := hp
    rw [hfe] at hw
    exact kk H1 locs1 hw
  · refine cs_RW_29_WT X hz hw hls h1 (c_TX_size_WT l G f _ b (us.length : Int) h1) hR ⟨by omega, by omega⟩ hW hdg (fun v f9 H1 locs1 hp hw _ _ _ => ?_)
    obtain ⟨rfl, hfe⟩ := hp
    rw [hfe] at hw
    exact kk H1 locs1 hw
  · refine cs_RW_29_JT X hz hw hls h1 (c_TX_size_JT l G f _ b (us.length : Int) h1) hR ⟨by omega, by omega⟩ hW hdg (fun v f9 H1 locs1 hp hw _ _ _ => ?_)
    obtain ⟨rfl, hfe⟩ := hp
    rw [hfe] at hw
    exact kk H1 locs1 hw
  · refine cs_RW_29_RW X hz hw hls ht.choose_spec.1 (c_RW_size l G f _ b q n us sp ht) hR ⟨by omega, by omega⟩ hW hdg (fun v f9 H1 locs1 hp hw _ _ _ => ?_)
    obtain ⟨rfl, hfe⟩ := hp
    rw [hfe] at hw
    exact kk H1 locs1 hw
theorem st_DK_77 (X : cx G "TextDesk" p s m args c cc nL) (hz : ct_z G A s) (hw : dw G.1 dk_cl A s.heap f H locs) (hls : ls.size = nL) {us : List Int} {d : Nat} (ht : tx G d f b us) (hR : 0 + 1 ≤ R.frames ∧ 8 + (1 + 11) + 0 ≤ R.locals) (hf : cells ≤ R.cells ∧ slots ≤ R.slots) (hW : (rest.map fun v => v.category).sum ≤ 8) (hdg : decode cc pc = .ok (.invokevirtual 77, 3))
    (kk : ∀ (H1 : Heap) (locs1 : List Loc), dw G.1 dk_cl A s.heap f H1 locs1 → W p l e R s m args below meth c H1 locs1 cells slots Q (F0 m (pc + 3) ls (.int (iI (us.length : Int)) :: rest))) : W p l e R s m args below meth c H locs cells slots Q (F0 m pc ls (.ref b :: rest)) := by
  rcases tx_head ht with ⟨q, g, h1, -⟩ | ⟨q, g, h1, -⟩ | ⟨x, y, fl, h1⟩
  · refine cs_DK_77_NT X hz hw hls h1 (c_TX_size_NT l G f _ b (us.length : Int) h1) hR ⟨by omega, by omega⟩ hW hdg (fun v f9 H1 locs1 hp hw _ _ _ => ?_)
    obtain ⟨rfl, hfe⟩ := hp
    rw [hfe] at hw
    exact kk H1 locs1 hw
  · refine cs_DK_77_WT X hz hw hls h1 (c_TX_size_WT l G f _ b (us.length : Int) h1) hR ⟨by omega, by omega⟩ hW hdg (fun v f9 H1 locs1 hp hw _ _ _ => ?_)
    obtain ⟨rfl, hfe⟩ := hp
    rw [hfe] at hw
    exact kk H1 locs1 hw
  · refine cs_DK_77_JT X hz hw hls h1 (c_TX_size_JT l G f _ b (us.length : Int) h1) hR ⟨by omega, by omega⟩ hW hdg (fun v f9 H1 locs1 hp hw _ _ _ => ?_)
    obtain ⟨rfl, hfe⟩ := hp
    rw [hfe] at hw
    exact kk H1 locs1 hw
theorem sq_DK_189 (X : cx G "TextDesk" p s m args c cc nL) (hz : ct_z G A s) (hw : dw G.1 dk_cl A s.heap f H locs) (hls : ls.size = nL) {us : List Int} (ht : (∃ d, tx G d f b us) ∨ ∃ q n sp, rw G f b q n us sp) (hR : 0 + 1 ≤ R.frames ∧ 8 + (1 + 11) + 0 ≤ R.locals) (hf : cells ≤ R.cells ∧ slots ≤ R.slots) (hW : (rest.map fun v => v.category).sum ≤ 8) (hdg : decode cc pc = .ok (.invokevirtual 189, 3))
    (kk : ∀ (H1 : Heap) (locs1 : List Loc), dw G.1 dk_cl A s.heap f H1 locs1 → W p l e R s m args below meth c H1 locs1 cells slots Q (F0 m (pc + 3) ls (.int (iI (us.length : Int)) :: rest))) : W p l e R s m args below meth c H locs cells slots Q (F0 m pc ls (.ref b :: rest)) := by
  rcases ht with ⟨d, ht⟩ | ⟨q, n, sp, ht⟩
  rcases tx_head ht with ⟨q, g, h1, -⟩ | ⟨q, g, h1, -⟩ | ⟨x, y, fl, h1⟩
  · refine cs_DK_189_NT X hz hw hls h1 (c_TX_size_NT l G f _ b (us.length : Int) h1) hR ⟨by omega, by omega⟩ hW hdg (fun v f9 H1 locs1 hp hw _ _ _ => ?_)
    obtain ⟨rfl, hfe⟩ := hp
    rw [hfe] at hw
    exact kk H1 locs1 hw
  · refine cs_DK_189_WT X hz hw hls h1 (c_TX_size_WT l G f _ b (us.length : Int) h1) hR ⟨by omega, by omega⟩ hW hdg (fun v f9 H1 locs1 hp hw _ _ _ => ?_)
    obtain ⟨rfl, hfe⟩ := hp
    rw [hfe] at hw
    exact kk H1 locs1 hw
  · refine cs_DK_189_JT X hz hw hls h1 (c_TX_size_JT l G f _ b (us.length : Int) h1) hR ⟨by omega, by omega⟩ hW hdg (fun v f9 H1 locs1 hp hw _ _ _ => ?_)
    obtain ⟨rfl, hfe⟩ := hp
    rw [hfe] at hw
    exact kk H1 locs1 hw
  · refine cs_DK_189_RW X hz hw hls ht.choose_spec.1 (c_RW_size l G f _ b q n us sp ht) hR ⟨by omega, by omega⟩ hW hdg (fun v f9 H1 locs1 hp hw _ _ _ => ?_)
    obtain ⟨rfl, hfe⟩ := hp
    rw [hfe] at hw
    exact kk H1 locs1 hw
theorem st_JT_1 (X : cx G "TextDesk$JoinedText" p s m args c cc nL) (hz : ct_z G A s) (hw : dw G.1 dk_cl A s.heap f H locs) (hls : ls.size = nL) {us : List Int} {d : Nat} (ht : tx G d f b us) (hR : 0 + 1 ≤ R.frames ∧ 8 + (1 + 11) + 0 ≤ R.locals) (hf : cells ≤ R.cells ∧ slots ≤ R.slots) (hW : (rest.map fun v => v.category).sum ≤ 8) (hdg : decode cc pc = .ok (.invokevirtual 1, 3))
    (kk : ∀ (H1 : Heap) (locs1 : List Loc), dw G.1 dk_cl A s.heap f H1 locs1 → W p l e R s m args below meth c H1 locs1 cells slots Q (F0 m (pc + 3) ls (.int (iI (us.length : Int)) :: rest))) : W p l e R s m args below meth c H locs cells slots Q (F0 m pc ls (.ref b :: rest)) := by
  rcases tx_head ht with ⟨q, g, h1, -⟩ | ⟨q, g, h1, -⟩ | ⟨x, y, fl, h1⟩
  · refine cs_JT_1_NT X hz hw hls h1 (c_TX_size_NT l G f _ b (us.length : Int) h1) hR ⟨by omega, by omega⟩ hW hdg (fun v f9 H1 locs1 hp hw _ _ _ => ?_)
    obtain ⟨rfl, hfe⟩ := hp
    rw [hfe] at hw
    exact kk H1 locs1 hw
  · refine cs_JT_1_WT X hz hw hls h1 (c_TX_size_WT l G f _ b (us.length : Int) h1) hR ⟨by omega, by omega⟩ hW hdg (fun v f9 H1 locs1 hp hw _ _ _ => ?_)
    obtain ⟨rfl, hfe⟩ := hp
    rw [hfe] at hw
    exact kk H1 locs1 hw
  · refine cs_JT_1_JT X hz hw hls h1 (c_TX_size_JT l G f _ b (us.length : Int) h1) hR ⟨by omega, by omega⟩ hW hdg (fun v f9 H1 locs1 hp hw _ _ _ => ?_)
    obtain ⟨rfl, hfe⟩ := hp
    rw [hfe] at hw
    exact kk H1 locs1 hw
theorem st_JT_7 (X : cx G "TextDesk$JoinedText" p s m args c cc nL) (hz : ct_z G A s) (hw : dw G.1 dk_cl A s.heap f H locs) (hls : ls.size = nL) {us : List Int} {d : Nat} (ht : tx G d f b us) (hR : 0 + 1 ≤ R.frames ∧ 8 + (1 + 11) + 0 ≤ R.locals) (hf : cells ≤ R.cells ∧ slots ≤ R.slots) (hW : (rest.map fun v => v.category).sum ≤ 8) (hdg : decode cc pc = .ok (.invokevirtual 7, 3))
    (kk : ∀ (H1 : Heap) (locs1 : List Loc), dw G.1 dk_cl A s.heap f H1 locs1 → W p l e R s m args below meth c H1 locs1 cells slots Q (F0 m (pc + 3) ls (.int (iI (nar us)) :: rest))) : W p l e R s m args below meth c H locs cells slots Q (F0 m pc ls (.ref b :: rest)) := by
  rcases tx_head ht with ⟨q, g, h1, hn⟩ | ⟨q, g, h1, hn⟩ | ⟨x, y, fl, h1⟩
  · refine cs_JT_7_NT X hz hw hls h1 (c_TX_isNarrow_NT l G f _ b 1 (by decide) h1) hR ⟨by omega, by omega⟩ hW hdg (fun v f9 H1 locs1 hp hw _ _ _ => ?_)
    obtain ⟨rfl, hfe⟩ := hp
    rw [hfe] at hw
    rw [hn] at kk; exact kk H1 locs1 hw
  · refine cs_JT_7_WT X hz hw hls h1 (c_TX_isNarrow_WT l G f _ b 0 (by decide) h1) hR ⟨by omega, by omega⟩ hW hdg (fun v f9 H1 locs1 hp hw _ _ _ => ?_)
    obtain ⟨rfl, hfe⟩ := hp
    rw [hfe] at hw
    rw [hn] at kk; exact kk H1 locs1 hw
  · refine cs_JT_7_JT X hz hw hls h1 (c_TX_isNarrow_JT l G f _ b (nar us) (nar_01 us) h1) hR ⟨by omega, by omega⟩ hW hdg (fun v f9 H1 locs1 hp hw _ _ _ => ?_)
    obtain ⟨rfl, hfe⟩ := hp
    rw [hfe] at hw
    exact kk H1 locs1 hw
theorem st_DK_131 (X : cx G "TextDesk" p s m args c cc nL) (hz : ct_z G A s) (hw : dw G.1 dk_cl A s.heap f H locs) (hls : ls.size = nL) {us : List Int} {d : Nat} (ht : tx G d f b us) (hR : 0 + 1 ≤ R.frames ∧ 8 + (1 + 11) + 0 ≤ R.locals) (hf : cells ≤ R.cells ∧ slots ≤ R.slots) (hW : (rest.map fun v => v.category).sum ≤ 8) (hdg : decode cc pc = .ok (.invokevirtual 131, 3))
    (kk : ∀ (H1 : Heap) (locs1 : List Loc), dw G.1 dk_cl A s.heap f H1 locs1 → W p l e R s m args below meth c H1 locs1 cells slots Q (F0 m (pc + 3) ls (.int (iI (nar us)) :: rest))) : W p l e R s m args below meth c H locs cells slots Q (F0 m pc ls (.ref b :: rest)) := by
  rcases tx_head ht with ⟨q, g, h1, hn⟩ | ⟨q, g, h1, hn⟩ | ⟨x, y, fl, h1⟩
  · refine cs_DK_131_NT X hz hw hls h1 (c_TX_isNarrow_NT l G f _ b 1 (by decide) h1) hR ⟨by omega, by omega⟩ hW hdg (fun v f9 H1 locs1 hp hw _ _ _ => ?_)
    obtain ⟨rfl, hfe⟩ := hp
    rw [hfe] at hw
    rw [hn] at kk; exact kk H1 locs1 hw
  · refine cs_DK_131_WT X hz hw hls h1 (c_TX_isNarrow_WT l G f _ b 0 (by decide) h1) hR ⟨by omega, by omega⟩ hW hdg (fun v f9 H1 locs1 hp hw _ _ _ => ?_)
    obtain ⟨rfl, hfe⟩ := hp
    rw [hfe] at hw
    rw [hn] at kk; exact kk H1 locs1 hw
  · refine cs_DK_131_JT X hz hw hls h1 (c_TX_isNarrow_JT l G f _ b (nar us) (nar_01 us) h1) hR ⟨by omega, by omega⟩ hW hdg (fun v f9 H1 locs1 hp hw _ _ _ => ?_)
    obtain ⟨rfl, hfe⟩ := hp
    rw [hfe] at hw
    exact kk H1 locs1 hw
theorem st_EN_9 (X : cx G "TextDesk$Encoder" p s m args c cc nL) (hz : ct_z G A s) (hw : dw G.1 dk_cl A s.heap f H locs) (hls : ls.size = nL) {us : List Int} {d : Nat} (ht : tx G d f b us) (hR : 0 + 1 ≤ R.frames ∧ 8 + (1 + 11) + 0 ≤ R.locals) (hf : cells ≤ R.cells ∧ slots ≤ R.slots) (hW : (rest.map fun v => v.category).sum ≤ 8) (hdg : decode cc pc = .ok (.invokevirtual 9, 3))
    (kk : ∀ (H1 : Heap) (locs1 : List Loc), dw G.1 dk_cl A s.heap f H1 locs1 → W p l e R s m args below meth c H1 locs1 cells slots Q (F0 m (pc + 3) ls (.int (iI (us.length : Int)) :: rest))) : W p l e R s m args below meth c H locs cells slots Q (F0 m pc ls (.ref b :: rest)) := by
  rcases tx_head ht with ⟨q, g, h1, -⟩ | ⟨q, g, h1, -⟩ | ⟨x, y, fl, h1⟩
  · refine cs_EN_9_NT X hz hw hls h1 (c_TX_size_NT l G f _ b (us.length : Int) h1) hR ⟨by omega, by omega⟩ hW hdg (fun v f9 H1 locs1 hp hw _ _ _ => ?_)
    obtain ⟨rfl, hfe⟩ := hp
    rw [hfe] at hw
    exact kk H1 locs1 hw
  · refine cs_EN_9_WT X hz hw hls h1 (c_TX_size_WT l G f _ b (us.length : Int) h1) hR ⟨by omega, by omega⟩ hW hdg (fun v f9 H1 locs1 hp hw _ _ _ => ?_)
    obtain ⟨rfl, hfe⟩ := hp
    rw [hfe] at hw
    exact kk H1 locs1 hw
  · refine cs_EN_9_JT X hz hw hls h1 (c_TX_size_JT l G f _ b (us.length : Int) h1) hR ⟨by omega, by omega⟩ hW hdg (fun v f9 H1 locs1 hp hw _ _ _ => ?_)
    obtain ⟨rfl, hfe⟩ := hp
    rw [hfe] at hw
    exact kk H1 locs1 hw
end SL
end
section
set_option maxRecDepth 100000 in
set_option maxHeartbeats 4000000 in
theorem c_RW_appendRange_lf (l : Launch) (G : ct_G) (f : dw_M) (sz : Nat) (r q n b : Nat) (u us : List Int) (sp fr to : Int) (hfr : iR fr) (hto : iR to) (hrw : rw G f r q n u sp) (ht : lf G f b us) : cn l y_RW_appendRange w_RW_appendRange (2) (60) G f sz [.ref r, .ref b, .int (iI fr), .int (iI to)] (fun v f' => v = none ∧ rw G f' r q n (apl1 n u (sbl us fr to)) (apl2 n u (sbl us fr to) sp) ∧ ∀ a, a ≠ r → a ≠ q → f' a = f a) (0) (0) := by
  refine cn_of (own := "TextDesk$Row") (nm := "appendRange") (ds := "(LTextDesk$Sequence;II)V") (by decide) (Nat.le_of_ble_eq_true rfl) ?_
  intro p e s m args below meth c ls X hnm hr hlk hs0 hz hw hl
  have hx := X.1
  have hb := X.2.1
  have hl : lv_has ls 6 [(0, .ref r), (1, .ref b), (2, .int (iI fr)), (3, .int (iI to))] := hl
  have hG := X.E.ok
  obtain ⟨hfr1, hfr2⟩ := hfr
  obtain ⟨hto1, hto2⟩ := hto
  have hlen := ht.len
  obtain ⟨hul, hn⟩ := hrw.len
  refine lv_iload_n hx hb d_RW_appendRange_0 rfl (lv_at hl 3 rfl) ?_
  refine lv_aload_n hx hb d_RW_appendRange_1 rfl (lv_at hl 1 rfl) ?_
  refine sq_RW_29 X hz hw hl.1 (Or.inl ⟨0, ht⟩) ⟨Nat.le_of_ble_eq_true rfl, Nat.le_of_ble_eq_true rfl⟩ ⟨by show 0 ≤ 0; omega, by show 0 ≤ 0; omega⟩ (Nat.le_of_ble_eq_true rfl) d_RW_appendRange_2 (fun H locs hw => ?_)
  refine W.eq (g2 := F0 m 5 ls [.int (iI ((us.length : Int))), .int (iI to)]) rfl ?_
  obtain ⟨en, hen⟩ : ∃ en : Int, en = if (us.length : Int) < to then (us.length : Int) else to := ⟨_, rfl⟩
  have hen1 : en ≤ (us.length : Int) := by rw [hen]; split <;> omega
  have hen2 : -2147483648 ≤ en := by rw [hen]; split <;> omega
  refine di_min X hl.1 mw_141 ⟨by omega, by omega⟩ ⟨by omega, by omega⟩ (z := en) (hen.symm) (Nat.le_of_ble_eq_true rfl) (Nat.le_of_ble_eq_true rfl) (by show 0 ≤ 0; omega) (by show 0 ≤ 0; omega) d_RW_appendRange_5 ?_
  refine lv_istore (lv' := [(4, .int (iI en)), (0, .ref r), (1, .ref b), (2, .int (iI fr)), (3, .int (iI to))]) hx hb d_RW_appendRange_8 hl (by decide) rfl (fun ls hl => ?_)
  refine lv_iload_n hx hb d_RW_appendRange_10 rfl (lv_at hl 3 rfl) ?_
  refine lv_iconst (v := iI (0)) hx hb d_RW_appendRange_11 rfl ?_
  obtain ⟨lo, hlo⟩ : ∃ lo : Int, lo = if fr < 0 then 0 else fr := ⟨_, rfl⟩
  have hlo1 : 0 ≤ lo ∧ lo < 2147483648 := by rw [hlo]; split <;> omega
  refine di_max X hl.1 mw_38 ⟨by omega, by omega⟩ ⟨by omega, by omega⟩ (z := lo) (hlo.symm) (Nat.le_of_ble_eq_true rfl) (Nat.le_of_ble_eq_true rfl) (by show 0 ≤ 0; omega) (by show 0 ≤ 0; omega) d_RW_appendRange_12 ?_
  refine lv_istore (lv' := [(5, .int (iI lo)), (4, .int (iI en)), (0, .ref r), (1, .ref b), (2, .int (iI fr)), (3, .int (iI to))]) hx hb d_RW_appendRange_15 hl (by decide) rfl (fun ls hl => ?_)
  have loop : ∀ (N : Nat) (k : Int) (f1 : dw_M) (H : Heap) (locs : List Loc) (ls : Array Slot), (en - k).toNat < N → lo ≤ k → (k ≤ en ∨ k = lo) → rw G f1 r q n (apl1 n u (sbl us lo k)) (apl2 n u (sbl us lo k) sp) → (∀ a, a ≠ r → a ≠ q → f1 a = f a) → dw G.1 dk_cl (dw_A f sz) s.heap f1 H locs → lv_has ls 6 [(5, .int (iI k)), (4, .int (iI en)), (0, .ref r), (1, .ref b)] → W p l e { frames := 2, locals := 60, cells := 0, slots := 0 } s m args below meth c H locs (0) (0) (MQ below (ct_Q G f sz (fun v f' => v = none ∧ rw G f' r q n (apl1 n u (sbl us fr to)) (apl2 n u (sbl us fr to) sp) ∧ ∀ a, a ≠ r → a ≠ q → f' a = f a)) args s (0) (0) (dw_A f sz)) (F0 m 17 ls []) := by
    intro N
    induction N with
    | zero => intros; omega
    | succ N ih =>
      intro k f1 H locs ls hN hk1 hk2 hrw1 hkp hw hl
      refine lv_iload hx hb d_RW_appendRange_17 (lv_at hl 0 rfl) ?_
      refine lv_iload hx hb d_RW_appendRange_19 (lv_at hl 1 rfl) ?_
      refine di_icmp_ge (tgt := 40) hx hb d_RW_appendRange_21 (by decide) ⟨by omega, by omega⟩ ⟨by omega, by omega⟩ (fun bq21 => ?_) (fun bq21 => ?_)
      · exact cn_vret hx hb hr hlk hw  (⟨rfl, by rw [← sbl_end hlo hen hk1 hk2 (by omega)]; exact hrw1, hkp⟩) (Nat.le_refl _) (Nat.le_refl _) d_RW_appendRange_40
      · refine lv_aload_n hx hb d_RW_appendRange_24 rfl (lv_at hl 2 rfl) ?_
        refine lv_aload_n hx hb d_RW_appendRange_25 rfl (lv_at hl 3 rfl) ?_
        refine lv_iload hx hb d_RW_appendRange_26 (lv_at hl 0 rfl) ?_
        have ht1 : lf G f1 b us := ht.agree (fun a9 x9 hx9 ht9 => by rw [hkp a9 (fun z => rw_ntc hG hrw a9 (Or.inl z) x9 hx9 ht9) (fun z => rw_ntc hG hrw a9 (Or.inr z) x9 hx9 ht9)]; exact hx9)
        refine sl_RW_35 X hz hw hl.1 ht1 ⟨by omega, by omega⟩ ⟨Nat.le_of_ble_eq_true rfl, Nat.le_of_ble_eq_true rfl⟩ ⟨by show 0 ≤ 0; omega, by show 0 ≤ 0; omega⟩ (Nat.le_of_ble_eq_true rfl) d_RW_appendRange_28 (fun H locs hw => ?_)
        refine W.eq (g2 := F0 m 31 ls [.int (iI (gt us k)), .ref r]) rfl ?_
        have hgk : gt us k = us.getD k.toNat 0 := gt_in (by omega) (by omega)
        refine cs_RW_39 X hz hw hl.1 hrw1.choose_spec.1 (c_RW_append l G f1 _ r q n _ _ (gt us k) hrw1) ⟨Nat.le_of_ble_eq_true rfl, Nat.le_of_ble_eq_true rfl⟩ ⟨by show 0 + 0 ≤ 0; omega, by show 0 + 0 ≤ 0; omega⟩ (Nat.le_of_ble_eq_true rfl) d_RW_appendRange_31 (fun v f2 H locs hp hw hsz9 hkp9 hdm9 => ?_)
        obtain ⟨rfl, hrw2, hk2⟩ := hp
        rw [apl1_snoc _ hul, apl2_snoc _ hul, hgk, ← sbl_snoc (by omega) (by omega) (by omega)] at hrw2
        refine W.eq (g2 := F0 m 34 ls []) rfl ?_
        refine lv_iinc (v := iI (k + 1)) (lv' := [(5, .int (iI (k + 1))), (4, .int (iI en)), (0, .ref r), (1, .ref b)]) hx hb d_RW_appendRange_34 hl (k := 0) rfl (iI_add _ _) (by decide) rfl (fun ls hl => ?_)
        refine lv_goto (tgt := 17) hx hb d_RW_appendRange_37 (by decide) ?_
        exact ih (k + 1) _ _ _ _ (by omega) (by omega) (by omega) (hrw2) (fun a h8 h9 => by rw [hk2 a h8 h9]; exact hkp a h8 h9) hw (lv_sub hl [0, 1, 2, 3] rfl)
  exact loop ((en - lo).toNat + 1) (lo) _ _ _ _ (by omega) (Int.le_refl _) (Or.inr rfl) (by rw [sbl_nil (Int.le_refl _) hlo1.1, apl1_nil, apl2_nil hul]; exact hrw) (fun _ _ _ => rfl) hw (lv_sub hl [0, 1, 2, 3] rfl)
set_option maxRecDepth 100000 in
set_option maxHeartbeats 4000000 in
theorem c_TX_pourInto_NT (l : Launch) (G : ct_G) (f : dw_M) (sz : Nat) (a r q n : Nat) (u us : List Int) (sp : Int) (hrw : rw G f r q n u sp) (ht : ntx G f a us) : cn l y_TX_pourInto w_TX_pourInto (3) (90) G f sz [.ref a, .ref r] (fun v f' => v = none ∧ rw G f' r q n (apl1 n u us) (apl2 n u us sp) ∧ ∀ a, a ≠ r → a ≠ q → f' a = f a) (0) (0) := by
  refine cn_of (own := "TextDesk$Text") (nm := "pourInto") (ds := "(LTextDesk$Row;)V") (by decide) (Nat.le_of_ble_eq_true rfl) ?_
  intro p e s m args below meth c ls X hnm hr hlk hs0 hz hw hl
  have hx := X.1
  have hb := X.2.1
  have hl : lv_has ls 2 [(0, .ref a), (1, .ref r)] := hl
  have htl : lf G f a us := Or.inl ht
  have hlen := htl.len
  obtain ⟨y, g, h0, -⟩ := ht
  refine lv_aload_n hx hb d_TX_pourInto_0 rfl (lv_at hl 1 rfl) ?_
  refine lv_aload_n hx hb d_TX_pourInto_1 rfl (lv_at hl 0 rfl) ?_
  refine lv_iconst (v := iI (0)) hx hb d_TX_pourInto_2 rfl ?_
  refine lv_aload_n hx hb d_TX_pourInto_3 rfl (lv_at hl 0 rfl) ?_
  refine gf_TX_7_NT X hw h0 d_TX_pourInto_4 ?_
  refine cs_TX_17 X hz hw hl.1 hrw.choose_spec.1 (c_RW_appendRange_lf l G f _ r q n a u us sp 0 (us.length : Int) ⟨by decide, by decide⟩ ⟨by omega, by omega⟩ hrw htl) ⟨Nat.le_of_ble_eq_true rfl, Nat.le_of_ble_eq_true rfl⟩ ⟨by show 0 + 0 ≤ 0; omega, by show 0 + 0 ≤ 0; omega⟩ (Nat.le_of_ble_eq_true rfl) d_TX_pourInto_7 (fun v f2 H locs hp hw hsz9 hkp9 hdm9 => ?_)
  obtain ⟨rfl, hrw2, hk2⟩ := hp
  rw [sbl_all] at hrw2
  refine W.eq (g2 := F0 m 10 ls []) rfl ?_
  exact cn_vret hx hb hr hlk hw  (⟨rfl, hrw2, hk2⟩) (Nat.le_refl _) (Nat.le_refl _) d_TX_pourInto_10
set_option maxRecDepth 100000 in
set_option maxHeartbeats 4000000 in
theorem c_TX_pourInto_WT (l : Launch) (G : ct_G) (f : dw_M) (sz : Nat) (a r q n : Nat) (u us : List Int) (sp : Int) (hrw : rw G f r q n u sp) (ht : wtx G f a us) : cn l y_TX_pourInto w_TX_pourInto (3) (90) G f sz [.ref a, .ref r] (fun v f' => v = none ∧ rw G f' r q n (apl1 n u us) (apl2 n u us sp) ∧ ∀ a, a ≠ r → a ≠ q → f' a = f a) (0) (0) := by
  refine cn_of (own := "TextDesk$Text") (nm := "pourInto") (ds := "(LTextDesk$Row;)V") (by decide) (Nat.le_of_ble_eq_true rfl) ?_
  intro p e s m args below meth c ls X hnm hr hlk hs0 hz hw hl
  have hx := X.1
  have hb := X.2.1
  have hl : lv_has ls 2 [(0, .ref a), (1, .ref r)] := hl
  have htl : lf G f a us := Or.inr ht
  have hlen := htl.len
  obtain ⟨y, g, h0, -⟩ := ht
  refine lv_aload_n hx hb d_TX_pourInto_0 rfl (lv_at hl 1 rfl) ?_
  refine lv_aload_n hx hb d_TX_pourInto_1 rfl (lv_at hl 0 rfl) ?_
  refine lv_iconst (v := iI (0)) hx hb d_TX_pourInto_2 rfl ?_
  refine lv_aload_n hx hb d_TX_pourInto_3 rfl (lv_at hl 0 rfl) ?_
  refine gf_TX_7_WT X hw h0 d_TX_pourInto_4 ?_
  refine cs_TX_17 X hz hw hl.1 hrw.choose_spec.1 (c_RW_appendRange_lf l G f _ r q n a u us sp 0 (us.length : Int) ⟨by decide, by decide⟩ ⟨by omega, by omega⟩ hrw htl) ⟨Nat.le_of_ble_eq_true rfl, Nat.le_of_ble_eq_true rfl⟩ ⟨by show 0 + 0 ≤ 0; omega, by show 0 + 0 ≤ 0; omega⟩ (Nat.le_of_ble_eq_true rfl) d_TX_pourInto_7 (fun v f2 H locs hp hw hsz9 hkp9 hdm9 => ?_)
  obtain ⟨rfl, hrw2, hk2⟩ := hp
  rw [sbl_all] at hrw2
  refine W.eq (g2 := F0 m 10 ls []) rfl ?_
  exact cn_vret hx hb hr hlk hw  (⟨rfl, hrw2, hk2⟩) (Nat.le_refl _) (Nat.le_refl _) d_TX_pourInto_10
/-- pourInto of a joined text whose parts have at most d levels -/
def jp (l : Launch) (G : ct_G) (d : Nat) : Prop := ∀ (f : dw_M) (sz a r q n : Nat) (u us : List Int) (sp : Int) (x y : Nat) (ux uy : List Int) (fl : Option Nat), f a = some (.inr (3, [.int (iI us.length), .int (iI (nar us)), .ref x, .ref y, va_rf fl])) → tx G d f x ux → tx G d f y uy → us = ux ++ uy → (∀ q, fl = some q → lf G f q us) → rw G f r q n u sp → cn l y_JT_pourInto w_JT_pourInto (4 + d) (120 + 21 * d) G f sz [.ref a, .ref r] (fun v f' => v = none ∧ rw G f' r q n (apl1 n u us) (apl2 n u us sp) ∧ ∀ b, b ≠ r → b ≠ q → f' b = f b) 0 0
section SP
variable {p : Program} {l : Launch} {e : Env} {R : Room} {s : State} {m : MethodId} {args : Array Value} {below : List Frame} {meth : Method} {c : Code} {H : Heap} {locs : List Loc} {cells slots : Nat} {Q : State → Prop}
variable {cc : ByteArray} {pc nL : Nat} {ls : Array Slot} {rest : List Value} {G : ct_G} {A : Nat → Prop} {a b : Nat} {f : dw_M} {H0 : Heap} {fr lo mc ms : Nat} {post : Option Value → dw_M → Prop} {px : String → dw_M → Prop}
theorem sp_JT_47 {d r q n : Nat} {u us : List Int} {sp : Int} (hj : ∀ d', d' < d → jp l G d') (X : cx G "TextDesk$JoinedText" p s m args c cc nL) (hz : ct_z G A s) (hw : dw G.1 dk_cl A s.heap f H locs) (hls : ls.size = nL) (ht : tx G d f b us) (hrw : rw G f r q n u sp) (hR : 4 + d ≤ R.frames ∧ 120 + 21 * d ≤ R.locals) (hf : cells ≤ R.cells ∧ slots ≤ R.slots) (hW : (rest.map fun v => v.category).sum ≤ 8) (hdg : decode cc pc = .ok (.invokevirtual 47, 3))
    (kk : ∀ (f' : dw_M) (H1 : Heap) (locs1 : List Loc), rw G f' r q n (apl1 n u us) (apl2 n u us sp) → (∀ b, b ≠ r → b ≠ q → f' b = f b) → dw G.1 dk_cl A s.heap f' H1 locs1 → W p l e R s m args below meth c H1 locs1 cells slots Q (F0 m (pc + 3) ls rest)) : W p l e R s m args below meth c H locs cells slots Q (F0 m pc ls (.ref r :: .ref b :: rest)) := by
  have hl : lf G f b us → W p l e R s m args below meth c H locs cells slots Q (F0 m pc ls (.ref r :: .ref b :: rest)) := by
    intro h
    rcases h with h | h
    · refine cs_JT_47_NT X hz hw hls h.choose_spec.choose_spec.1 (c_TX_pourInto_NT l G f _ b r q n u us sp hrw h) ⟨by omega, by omega⟩ ⟨by omega, by omega⟩ hW hdg (fun v f9 H1 locs1 hp hw _ _ _ => ?_)
      obtain ⟨rfl, h1, h2⟩ := hp
      exact kk f9 H1 locs1 h1 h2 hw
    · refine cs_JT_47_WT X hz hw hls h.choose_spec.choose_spec.1 (c_TX_pourInto_WT l G f _ b r q n u us sp hrw h) ⟨by omega, by omega⟩ ⟨by omega, by omega⟩ hW hdg (fun v f9 H1 locs1 hp hw _ _ _ => ?_)
      obtain ⟨rfl, h1, h2⟩ := hp
      exact kk f9 H1 locs1 h1 h2 hw
  cases d with
  | zero => exact hl ht
  | succ d =>
    rcases ht with h | ⟨x, y, ux, uy, fl, h1, h2, h3, h4, h5, h6⟩
    · exact hl h
    · refine cs_JT_47_JT X hz hw hls h1 (hj d (Nat.lt_succ_self d) f _ b r q n u us sp x y ux uy fl h1 h2 h3 h4 h5 hrw) ⟨by omega, by omega⟩ ⟨by omega, by omega⟩ hW hdg (fun v f9 H1 locs1 hp hw _ _ _ => ?_)
      obtain ⟨rfl, h1, h2⟩ := hp
      exact kk f9 H1 locs1 h1 h2 hw
end SP
theorem jp_all (l : Launch) (G : ct_G) : ∀ d, jp l G d := by
  intro d
  induction d using Nat.strongRecOn with
  | ind d ih =>
    intro f sz a r q n u us sp x y ux uy fl h0 htx hty hus hfl hrw
    refine cn_of (own := "TextDesk$JoinedText") (nm := "pourInto") (ds := "(LTextDesk$Row;)V") (by decide) (Nat.le_of_ble_eq_true rfl) ?_
    intro p e s m args below meth c ls X hnm hr hlk hs0 hz hw hl
    have hx := X.1
    have hb := X.2.1
    have hl : lv_has ls 2 [(0, .ref a), (1, .ref r)] := hl
    have hG := X.E.ok
    obtain ⟨hul, hn⟩ := hrw.len
    cases fl with
    | none =>
      refine lv_aload_n hx hb d_JT_pourInto_0 rfl (lv_at hl 0 rfl) ?_
      refine gf_JT_24_JT X hw h0 d_JT_pourInto_1 ?_
      refine lv_ifnullN (tgt := 18) hx hb d_JT_pourInto_4 (by decide) ?_
      refine lv_aload_n hx hb d_JT_pourInto_18 rfl (lv_at hl 0 rfl) ?_
      refine gf_JT_15_JT X hw h0 d_JT_pourInto_19 ?_
      refine lv_aload_n hx hb d_JT_pourInto_22 rfl (lv_at hl 1 rfl) ?_
      refine sp_JT_47 (d := d) (u := u) (us := ux) (sp := sp) ih X hz hw hl.1 htx hrw ⟨by show 4 + d ≤ 4 + d; omega, by show 120 + 21 * d ≤ 120 + 21 * d; omega⟩ ⟨by show 0 ≤ 0; omega, by show 0 ≤ 0; omega⟩ (Nat.le_of_ble_eq_true rfl) d_JT_pourInto_23 (fun f2 H locs hr_f2 hk_f2 hw => ?_)
      have hag : ∀ a9 x9, f a9 = some x9 → tcl G x9 → f2 a9 = some x9 := (fun a9 x9 hx9 ht9 => by rw [hk_f2 a9 (fun z => rw_ntc hG hrw a9 (Or.inl z) x9 hx9 ht9) (fun z => rw_ntc hG hrw a9 (Or.inr z) x9 hx9 ht9)]; exact hx9)
      refine lv_aload_n hx hb d_JT_pourInto_26 rfl (lv_at hl 0 rfl) ?_
      refine gf_JT_21_JT X hw (hag _ _ h0 (Or.inl ⟨3, _, rfl, by decide, by decide⟩)) d_JT_pourInto_27 ?_
      refine lv_aload_n hx hb d_JT_pourInto_30 rfl (lv_at hl 1 rfl) ?_
      refine sp_JT_47 (d := d) (u := (apl1 n u ux)) (us := uy) (sp := (apl2 n u ux sp)) ih X hz hw hl.1 (tx.agree hag hty) hr_f2 ⟨by show 4 + d ≤ 4 + d; omega, by show 120 + 21 * d ≤ 120 + 21 * d; omega⟩ ⟨by show 0 ≤ 0; omega, by show 0 ≤ 0; omega⟩ (Nat.le_of_ble_eq_true rfl) d_JT_pourInto_31 (fun f3 H locs hr_f3 hk_f3 hw => ?_)
      rw [apl_app1 hul, apl_app2 hul, ← hus] at hr_f3
      exact cn_vret hx hb hr hlk hw  (⟨rfl, hr_f3, fun b h8 h9 => by rw [hk_f3 b h8 h9]; exact hk_f2 b h8 h9⟩) (Nat.le_refl _) (Nat.le_refl _) d_JT_pourInto_34
    | some y2 =>
      refine lv_aload_n hx hb d_JT_pourInto_0 rfl (lv_at hl 0 rfl) ?_
      refine gf_JT_24_JT X hw h0 d_JT_pourInto_1 ?_
      refine lv_ifnull hx hb d_JT_pourInto_4 ?_
      refine lv_aload_n hx hb d_JT_pourInto_7 rfl (lv_at hl 0 rfl) ?_
      refine gf_JT_24_JT X hw h0 d_JT_pourInto_8 ?_
      refine lv_aload_n hx hb d_JT_pourInto_11 rfl (lv_at hl 1 rfl) ?_
      refine sp_JT_47 (d := d) (u := u) (us := us) (sp := sp) ih X hz hw hl.1 ((hfl y2 rfl).tx d) hrw ⟨by show 4 + d ≤ 4 + d; omega, by show 120 + 21 * d ≤ 120 + 21 * d; omega⟩ ⟨by show 0 ≤ 0; omega, by show 0 ≤ 0; omega⟩ (Nat.le_of_ble_eq_true rfl) d_JT_pourInto_12 (fun f2 H locs hr_f2 hk_f2 hw => ?_)
      refine lv_goto (tgt := 34) hx hb d_JT_pourInto_15 (by decide) ?_
      exact cn_vret hx hb hr hlk hw  (⟨rfl, hr_f2, hk_f2⟩) (Nat.le_refl _) (Nat.le_refl _) d_JT_pourInto_34
set_option maxRecDepth 100000 in
set_option maxHeartbeats 4000000 in
theorem c_DK_textOf (l : Launch) (G : ct_G) (f : dw_M) (sz : Nat) (r q n : Nat) (us : List Int) (sp : Int) (hus : ∀ u ∈ us, 0 ≤ u ∧ u < 65536) (hlen : us.length ≤ 60) (hrw : rw G f r q n us sp) : cn l y_DK_textOf w_DK_textOf (4) (110) G f sz [.ref r] (fun v f' => ∃ a, v = some (.ref a) ∧ f a = none ∧ lf G f' a us ∧ ∀ b x, f b = some x → f' b = some x) (2) (3 + us.length) := by
  refine cn_of (own := "TextDesk") (nm := "textOf") (ds := "(LTextDesk$Row;)LTextDesk$Text;") (by decide) (Nat.le_of_ble_eq_true rfl) ?_
  intro p e s m args below meth c ls X hnm hr hlk hs0 hz hw hl
  have hx := X.1
  have hb := X.2.1
  have hl : lv_has ls 2 [(0, .ref r)] := hl
  refine lv_iconst (v := iI (0)) hx hb d_DK_textOf_0 rfl ?_
  refine lv_istore_n (lv' := [(1, .int (iI 0)), (0, .ref r)]) hx hb d_DK_textOf_1 rfl hl (by decide) rfl (fun ls hl => ?_)
  have loop : ∀ (N : Nat) (k : Int) (H : Heap) (locs : List Loc) (ls : Array Slot), ((us.length : Int) - k).toNat < N → 0 ≤ k → k ≤ (us.length : Int) → (∀ j : Nat, (j : Int) < k → us.getD j 0 < 256) → dw G.1 dk_cl (dw_A f sz) s.heap f H locs → lv_has ls 2 [(1, .int (iI k)), (0, .ref r)] → W p l e { frames := 4, locals := 110, cells := 2, slots := 3 + us.length } s m args below meth c H locs (0) (0) (MQ below (ct_Q G f sz (fun v f' => ∃ a, v = some (.ref a) ∧ f a = none ∧ lf G f' a us ∧ ∀ b x, f b = some x → f' b = some x)) args s (2) (3 + us.length) (dw_A f sz)) (F0 m 2 ls []) := by
    intro N
    induction N with
    | zero => intros; omega
    | succ N ih =>
      intro k H locs ls hN hk0 hk1 hall hw hl
      refine lv_iload_n hx hb d_DK_textOf_2 rfl (lv_at hl 0 rfl) ?_
      refine lv_aload_n hx hb d_DK_textOf_3 rfl (lv_at hl 1 rfl) ?_
      refine cs_DK_60 X hz hw hl.1 hrw.choose_spec.1 (c_RW_size l G f _ r q n us sp hrw) ⟨Nat.le_of_ble_eq_true rfl, Nat.le_of_ble_eq_true rfl⟩ ⟨by show 0 + 0 ≤ 2; omega, by show 0 + 0 ≤ 3 + us.length; omega⟩ (Nat.le_of_ble_eq_true rfl) d_DK_textOf_4 (fun v f9 H locs hp hw hsz9 hkp9 hdm9 => ?_)
      obtain ⟨rfl, hfe⟩ := hp
      rw [hfe] at hw
      refine W.eq (g2 := F0 m 7 ls [.int (iI ((us.length : Int))), .int (iI k)]) rfl ?_
      refine di_icmp_ge (tgt := 36) hx hb d_DK_textOf_7 (by decide) ⟨by omega, by omega⟩ ⟨by omega, by omega⟩ (fun bq7 => ?_) (fun bq7 => ?_)
      · refine nw_DK_200 X hw (by show 0 + 1 ≤ 2; omega) (by show 0 + 3 ≤ 3 + us.length; omega) d_DK_textOf_36 (fun t H hq_t hw => ?_)
        obtain ⟨f2, e_f2⟩ : ∃ g9 : dw_M, g9 = dw_up f t (.inr (1, [.int (iI 0), .int (iI 0), .null])) := ⟨_, rfl⟩
        rw [← e_f2] at hw
        have k_f2_t : f2 t = some (.inr (1, [.int (iI 0), .int (iI 0), .null])) := by rw [e_f2]; exact dw_up_self _ _ _
        refine lv_dup hx hb d_DK_textOf_39 rfl ?_
        refine lv_aload_n hx hb d_DK_textOf_40 rfl (lv_at hl 1 rfl) ?_
        have hrw3 : rw G f2 r q n us sp := by obtain ⟨g9, h3, h4, h5⟩ := hrw; exact ⟨g9, by rw [e_f2]; exact dw_keep h3 (dw_neN h3 hq_t), by rw [e_f2]; exact dw_keep h4 (dw_neN h4 hq_t), h5⟩
        refine cs_DK_202 X hz hw hl.1 (c_NT_init l G f2 _ t r q n us sp (fun u hu => ⟨(hus u hu).1, by obtain ⟨i, hi, rfl⟩ := mem_getD hu; exact hall i (by omega)⟩) hlen hrw3 k_f2_t) ⟨Nat.le_of_ble_eq_true rfl, Nat.le_of_ble_eq_true rfl⟩ ⟨by show 0 + 1 + 1 ≤ 2; omega, by show 0 + 3 + us.length ≤ 3 + us.length; omega⟩ (Nat.le_of_ble_eq_true rfl) d_DK_textOf_41 (fun v f5 H locs hp hw hsz9 hkp9 hdm9 => ?_)
        obtain ⟨rfl, ht5, hk5⟩ := hp
        refine W.eq (g2 := F0 m 44 ls [.ref t]) rfl ?_
        exact cn_aret hx hb hr hlk hw (Or.inr ⟨_, rfl⟩) (⟨t, rfl, hq_t, Or.inl ht5, fun b x h9 => hk5 b x (dw_neN h9 hq_t) (by rw [e_f2]; exact dw_keep h9 (dw_neN h9 hq_t))⟩) (by omega) (by omega) d_DK_textOf_44
      · refine lv_aload_n hx hb d_DK_textOf_10 rfl (lv_at hl 1 rfl) ?_
        refine lv_iload_n hx hb d_DK_textOf_11 rfl (lv_at hl 0 rfl) ?_
        refine cs_DK_92 X hz hw hl.1 hrw.choose_spec.1 (c_RW_get l G f _ r q n us sp k ⟨by omega, by omega⟩ hrw) ⟨Nat.le_of_ble_eq_true rfl, Nat.le_of_ble_eq_true rfl⟩ ⟨by show 0 + 0 ≤ 2; omega, by show 0 + 0 ≤ 3 + us.length; omega⟩ (Nat.le_of_ble_eq_true rfl) d_DK_textOf_12 (fun v f9 H locs hp hw hsz9 hkp9 hdm9 => ?_)
        obtain ⟨rfl, hfe⟩ := hp
        rw [hfe] at hw
        have hu := hus _ (getD_mem (us := us) (k := k.toNat) (by omega))
        have hgk : gt us k = us.getD k.toNat 0 := gt_in (by omega) (by omega)
        refine W.eq (g2 := F0 m 15 ls [.int (iI (gt us k))]) rfl ?_
        refine lv_sipush (v := iI (256)) hx hb d_DK_textOf_15 rfl ?_
        refine di_icmp_lt (tgt := 30) hx hb d_DK_textOf_18 (by decide) ⟨by omega, by omega⟩ ⟨by omega, by omega⟩ (fun bq18 => ?_) (fun bq18 => ?_)
        · refine lv_iinc (v := iI (k + 1)) (lv' := [(1, .int (iI (k + 1))), (0, .ref r)]) hx hb d_DK_textOf_30 hl (k := 0) rfl (iI_add _ _) (by decide) rfl (fun ls hl => ?_)
          refine lv_goto (tgt := 2) hx hb d_DK_textOf_33 (by decide) ?_
          exact ih (k + 1) _ _ _ (by omega) (by omega) (by omega) (fun j hj => by
            by_cases e : j = k.toNat
            · rw [e, ← hgk]; omega
            · exact hall j (by omega)) hw (lv_sub hl [0, 1] rfl)
        · refine nw_DK_195 X hw (by show 0 + 1 ≤ 2; omega) (by show 0 + 3 ≤ 3 + us.length; omega) d_DK_textOf_21 (fun t H hq_t hw => ?_)
          obtain ⟨f2, e_f2⟩ : ∃ g9 : dw_M, g9 = dw_up f t (.inr (2, [.int (iI 0), .int (iI 0), .null])) := ⟨_, rfl⟩
          rw [← e_f2] at hw
          have k_f2_t : f2 t = some (.inr (2, [.int (iI 0), .int (iI 0), .null])) := by rw [e_f2]; exact dw_up_self _ _ _
          refine lv_dup hx hb d_DK_textOf_24 rfl ?_
          refine lv_aload_n hx hb d_DK_textOf_25 rfl (lv_at hl 1 rfl) ?_
          have hrw3 : rw G f2 r q n us sp := by obtain ⟨g9, h3, h4, h5⟩ := hrw; exact ⟨g9, by rw [e_f2]; exact dw_keep h3 (dw_neN h3 hq_t), by rw [e_f2]; exact dw_keep h4 (dw_neN h4 hq_t), h5⟩
          refine cs_DK_197 X hz hw hl.1 (c_WT_init l G f2 _ t r q n us sp hus ⟨_, getD_mem (us := us) (k := k.toNat) (by omega), by rw [← hgk]; omega⟩ hlen hrw3 k_f2_t) ⟨Nat.le_of_ble_eq_true rfl, Nat.le_of_ble_eq_true rfl⟩ ⟨by show 0 + 1 + 1 ≤ 2; omega, by show 0 + 3 + us.length ≤ 3 + us.length; omega⟩ (Nat.le_of_ble_eq_true rfl) d_DK_textOf_26 (fun v f5 H locs hp hw hsz9 hkp9 hdm9 => ?_)
          obtain ⟨rfl, ht5, hk5⟩ := hp
          refine W.eq (g2 := F0 m 29 ls [.ref t]) rfl ?_
          exact cn_aret hx hb hr hlk hw (Or.inr ⟨_, rfl⟩) (⟨t, rfl, hq_t, Or.inr ht5, fun b x h9 => hk5 b x (dw_neN h9 hq_t) (by rw [e_f2]; exact dw_keep h9 (dw_neN h9 hq_t))⟩) (by omega) (by omega) d_DK_textOf_29
  exact loop (((us.length : Int) - 0).toNat + 1) (0) _ _ _ (by omega) (by omega) (by omega) (fun j hj => by omega) hw (lv_sub hl [0, 1] rfl)
set_option maxRecDepth 100000 in
set_option maxHeartbeats 4000000 in
theorem c_JT_get (l : Launch) (G : ct_G) (f : dw_M) (sz : Nat) (d a : Nat) (us : List Int) (k : Int) (hd : d ≤ 24) (hk : iR k) (x y : Nat) (ux uy : List Int) (fl : Option Nat) (h0 : f a = some (.inr (3, [.int (iI us.length), .int (iI (nar us)), .ref x, .ref y, va_rf fl]))) (htx : tx G d f x ux) (hty : tx G d f y uy) (hus : us = ux ++ uy) (hfl : ∀ q, fl = some q → lf G f q us) (hlen : us.length ≤ 60) : cn l y_JT_get w_JT_get (41) (921) G f sz [.ref a, .int (iI k)] (fun v f' => v = some (.int (iI (gt us k))) ∧ exo G no1 f f' ∧ pot f' a = 0) (4 * pot f a) (140 * pot f a) := by
  refine cn_of (own := "TextDesk$JoinedText") (nm := "get") (ds := "(I)I") (by decide) (Nat.le_of_ble_eq_true rfl) ?_
  intro p e s m args below meth c ls X hnm hr hlk hs0 hz hw hl
  have hx := X.1
  have hb := X.2.1
  have hl : lv_has ls 3 [(0, .ref a), (1, .int (iI k))] := hl
  have hta : tx G (d + 1) f a us := Or.inr ⟨x, y, ux, uy, fl, h0, htx, hty, hus, hfl, hlen⟩
  cases fl with
  | none =>
    have hpt : pot f a = 1 := by simp [pot, h0, va_rf]
    refine lv_aload_n hx hb d_JT_get_0 rfl (lv_at hl 0 rfl) ?_
    refine gf_JT_24_JT X hw h0 d_JT_get_1 ?_
    refine lv_ifnonnullN hx hb d_JT_get_4 ?_
    refine nw_JT_27 X hw (by show 0 + 1 ≤ 4 * pot f a; omega) (by show 0 + 3 ≤ 140 * pot f a; omega) d_JT_get_7 (fun w1 H hq_w1 hw => ?_)
    obtain ⟨f2, e_f2⟩ : ∃ g9 : dw_M, g9 = dw_up f w1 (.inr (4, [.null, .int (iI 0), .int (iI 0)])) := ⟨_, rfl⟩
    rw [← e_f2] at hw
    have k_f2_a : f2 a = some (.inr (3, [.int (iI ((us.length : Int))), .int (iI (nar us)), .ref x, .ref y, .null])) := by rw [e_f2]; exact dw_keep h0 (dw_neN h0 hq_w1)
    have k_f2_w1 : f2 w1 = some (.inr (4, [.null, .int (iI 0), .int (iI 0)])) := by rw [e_f2]; exact dw_up_self _ _ _
    refine lv_dup hx hb d_JT_get_10 rfl ?_
    refine lv_aload_n hx hb d_JT_get_11 rfl (lv_at hl 0 rfl) ?_
    refine cs_JT_29 X hz hw hl.1 k_f2_a (c_TX_size_JT l G f2 _ a (us.length : Int) k_f2_a) ⟨Nat.le_of_ble_eq_true rfl, Nat.le_of_ble_eq_true rfl⟩ ⟨by show 0 + 1 + 0 ≤ 4 * pot f a; omega, by show 0 + 3 + 0 ≤ 140 * pot f a; omega⟩ (Nat.le_of_ble_eq_true rfl) d_JT_get_12 (fun v f9 H locs hp hw hsz9 hkp9 hdm9 => ?_)
    obtain ⟨rfl, hfe⟩ := hp
    rw [hfe] at hw
    refine W.eq (g2 := F0 m 15 ls [.int (iI ((us.length : Int))), .ref w1, .ref w1]) rfl ?_
    refine cs_JT_30 X hz hw hl.1 (c_RW_init l G f2 _ w1 us.length (by omega) k_f2_w1) ⟨Nat.le_of_ble_eq_true rfl, Nat.le_of_ble_eq_true rfl⟩ ⟨by show 0 + 1 + 1 ≤ 4 * pot f a; omega, by show 0 + 3 + us.length ≤ 140 * pot f a; omega⟩ (Nat.le_of_ble_eq_true rfl) d_JT_get_15 (fun v f3 H locs hp hw hsz9 hkp9 hdm9 => ?_)
    obtain ⟨rfl, q1, hq1, hrw3, hk3⟩ := hp
    refine W.eq (g2 := F0 m 18 ls [.ref w1]) rfl ?_
    refine lv_astore_n (lv' := [(2, .ref w1), (0, .ref a), (1, .int (iI k))]) hx hb d_JT_get_18 rfl hl (by decide) rfl (fun ls hl => ?_)
    refine lv_aload_n hx hb d_JT_get_19 rfl (lv_at hl 1 rfl) ?_
    refine lv_aload_n hx hb d_JT_get_20 rfl (lv_at hl 0 rfl) ?_
    have hm3 : ∀ b9 x9, f b9 = some x9 → f3 b9 = some x9 := fun b9 x9 h9 => by
      have h8 : f2 b9 = some x9 := by rw [e_f2]; exact dw_keep h9 (dw_neN h9 hq_w1)
      rw [hk3 b9 (dw_neN h9 hq_w1) (dw_neN h8 hq1)]; exact h8
    have hag3 : ∀ a9 x9, f a9 = some x9 → tcl G x9 → f3 a9 = some x9 := fun a9 x9 h9 _ => hm3 a9 x9 h9
    refine cs_JT_33 X hz hw hl.1 (hm3 _ _ h0) (jp_all l G d f3 _ a w1 q1 us.length [] us 0 x y ux uy none (hm3 _ _ h0) (tx.agree hag3 htx) (tx.agree hag3 hty) hus (fun q9 h9 => by cases h9) hrw3) ⟨by show 4 + d + 1 ≤ 41; omega, by show 8 + (2 + 11) + (120 + 21 * d) ≤ 921; omega⟩ ⟨by show 0 + 1 + 1 + 0 ≤ 4 * pot f a; omega, by show 0 + 3 + us.length + 0 ≤ 140 * pot f a; omega⟩ (Nat.le_of_ble_eq_true rfl) d_JT_get_21 (fun v f4 H locs hp hw hsz9 hkp9 hdm9 => ?_)
    obtain ⟨rfl, hrw4, hk4⟩ := hp
    have hfull : apl1 us.length [] us = us := by simp [apl1]
    rw [hfull] at hrw4
    refine W.eq (g2 := F0 m 24 ls []) rfl ?_
    refine lv_aload_n hx hb d_JT_get_24 rfl (lv_at hl 1 rfl) ?_
    refine lv_aload_n hx hb d_JT_get_25 rfl (lv_at hl 0 rfl) ?_
    have hw1f : f w1 = none := hq_w1
    have hq1f : f q1 = none := by
      cases h9 : f q1 with
      | none => rfl
      | some z9 => rw [e_f2, dw_keep h9 (dw_neN h9 hq_w1)] at hq1; cases hq1
    have hm4 : ∀ b9 x9, f b9 = some x9 → f4 b9 = some x9 := fun b9 x9 h9 => by rw [hk4 b9 (dw_neN h9 hw1f) (dw_neN h9 hq1f)]; exact hm3 b9 x9 h9
    refine cs_JT_37 X hz hw hl.1 (c_DK_textOf l G f4 _ w1 q1 us.length us _ hta.rng hlen hrw4) ⟨Nat.le_of_ble_eq_true rfl, Nat.le_of_ble_eq_true rfl⟩ ⟨by show 0 + 1 + 1 + 2 ≤ 4 * pot f a; omega, by show 0 + 3 + us.length + (3 + us.length) ≤ 140 * pot f a; omega⟩ (Nat.le_of_ble_eq_true rfl) d_JT_get_26 (fun v f5 H locs hp hw hsz9 hkp9 hdm9 => ?_)
    obtain ⟨t1, rfl, ht1n, ht1, hm5⟩ := hp
    refine W.eq (g2 := F0 m 29 ls [.ref t1, .ref a]) rfl ?_
    have hm6 : ∀ b9 x9, f b9 = some x9 → f5 b9 = some x9 := fun b9 x9 h9 => hm5 b9 x9 (hm4 b9 x9 h9)
    refine pf_JT_24_JT X hw (hm6 _ _ h0) (rfl) (rfl) d_JT_get_29 (fun H locs hw => ?_)
    obtain ⟨f6, e_f6⟩ : ∃ g9 : dw_M, g9 = dw_up f5 a (.inr (3, [.int (iI ((us.length : Int))), .int (iI (nar us)), .ref x, .ref y, .ref t1])) := ⟨_, rfl⟩
    rw [← e_f6] at hw
    have k_f6_a : f6 a = some (.inr (3, [.int (iI ((us.length : Int))), .int (iI (nar us)), .ref x, .ref y, .ref t1])) := by rw [e_f6]; exact dw_up_self _ _ _
    obtain ⟨hx6, hp6⟩ := exo_flat (S := no1) (hm6 _ _ h0) (tx.agree (fun a9 x9 h9 _ => hm6 a9 x9 h9) hta) ht1
    rw [← e_f6] at hx6 hp6
    have ht6 : lf G f6 t1 us := hx6.lf ht1 (fun a9 h9 => h9.elim)
    refine lv_aload_n hx hb d_JT_get_32 rfl (lv_at hl 1 rfl) ?_
    refine gf_JT_24_JT X hw k_f6_a d_JT_get_33 ?_
    refine lv_iload_n hx hb d_JT_get_36 rfl (lv_at hl 2 rfl) ?_
    refine sl_JT_43 X hz hw hl.1 ht6 hk ⟨Nat.le_of_ble_eq_true rfl, Nat.le_of_ble_eq_true rfl⟩ ⟨by show 0 + 1 + 1 + 2 ≤ 4 * pot f a; omega, by show 0 + 3 + us.length + (3 + us.length) ≤ 140 * pot f a; omega⟩ (Nat.le_of_ble_eq_true rfl) d_JT_get_37 (fun H locs hw => ?_)
    refine W.eq (g2 := F0 m 40 ls [.int (iI (gt us k))]) rfl ?_
    exact cn_iret hx hb hr hlk hw  (⟨rfl, (exo_more hm6).tr hx6, hp6⟩) (by omega) (by omega) d_JT_get_40
  | some y2 =>
    have hpt : pot f a = 0 := by simp [pot, h0, va_rf]
    refine lv_aload_n hx hb d_JT_get_0 rfl (lv_at hl 0 rfl) ?_
    refine gf_JT_24_JT X hw h0 d_JT_get_1 ?_
    refine lv_ifnonnull (tgt := 32) hx hb d_JT_get_4 (by decide) ?_
    refine lv_aload_n hx hb d_JT_get_32 rfl (lv_at hl 0 rfl) ?_
    refine gf_JT_24_JT X hw h0 d_JT_get_33 ?_
    refine lv_iload_n hx hb d_JT_get_36 rfl (lv_at hl 1 rfl) ?_
    refine sl_JT_43 X hz hw hl.1 (hfl y2 rfl) hk ⟨Nat.le_of_ble_eq_true rfl, Nat.le_of_ble_eq_true rfl⟩ ⟨by show 0 ≤ 4 * pot f a; omega, by show 0 ≤ 140 * pot f a; omega⟩ (Nat.le_of_ble_eq_true rfl) d_JT_get_37 (fun H locs hw => ?_)
    refine W.eq (g2 := F0 m 40 ls [.int (iI (gt us k))]) rfl ?_
    exact cn_iret hx hb hr hlk hw  (⟨rfl, exo.rf, hpt⟩) (by omega) (by omega) d_JT_get_40
end
section
section SG
variable {p : Program} {l : Launch} {e : Env} {R : Room} {s : State} {m : MethodId} {args : Array Value} {below : List Frame} {meth : Method} {c : Code} {H : Heap} {locs : List Loc} {cells slots : Nat} {Q : State → Prop}
variable {cc : ByteArray} {pc nL : Nat} {ls : Array Slot} {rest : List Value} {G : ct_G} {A : Nat → Prop} {a b : Nat} {f : dw_M} {H0 : Heap} {fr lo mc ms : Nat} {post : Option Value → dw_M → Prop} {px : String → dw_M → Prop}
theorem tx_dom {G : ct_G} {f : dw_M} {d b : Nat} {us : List Int} (ht : tx G d f b us) : ∃ x, f b = some x := by
  rcases tx_head ht with ⟨q, g, h1, -⟩ | ⟨q, g, h1, -⟩ | ⟨x, y, fl, h1⟩ <;> exact ⟨_, h1⟩
theorem exo_pot {G : ct_G} {S : Nat → Prop} {f f' : dw_M} {d b : Nat} {us : List Int} (h : exo G S f f') (ht : tx G d f b us) : pot f' b ≤ pot f b := by
  obtain ⟨x, hx⟩ := tx_dom ht
  exact h.2.2.1 b x hx
theorem rw_pot {G : ct_G} {f : dw_M} {r q n : Nat} {us : List Int} {sp : Int} (h : rw G f r q n us sp) : pot f r = 0 := by
  obtain ⟨g, h1, -⟩ := h
  simp [pot, h1]
theorem pot_le (f : dw_M) (a : Nat) : pot f a ≤ 1 := by
  unfold pot
  split <;> omega
/-- a row or a text -/
def sq (G : ct_G) (f : dw_M) (b : Nat) (us : List Int) : Prop := (∃ d, d ≤ 24 ∧ tx G d f b us) ∨ ∃ q n sp, rw G f b q n us sp
theorem sq.w {G : ct_G} {f : dw_M} {b : Nat} {us : List Int} (h : sq G f b us) : (∃ d, tx G d f b us) ∨ ∃ q n sp, rw G f b q n us sp := by
  rcases h with ⟨d, -, h⟩ | h
  · exact Or.inl ⟨d, h⟩
  · exact Or.inr h
theorem sq.len {G : ct_G} {f : dw_M} {b : Nat} {us : List Int} (h : sq G f b us) : us.length < 1000 := by
  rcases h with ⟨d, -, h⟩ | ⟨q, n, sp, h⟩
  · have := h.len; omega
  · have := h.len; omega
theorem sg_DK_122 (X : cx G "TextDesk" p s m args c cc nL) (hz : ct_z G A s) (hw : dw G.1 dk_cl A s.heap f H locs) (hls : ls.size = nL) {us : List Int} {k : Int} {d : Nat} (hd : d ≤ 24) (ht : tx G d f b us) (hk : iR k) (hR : 41 + 1 ≤ R.frames ∧ 8 + (3 + 11) + 921 ≤ R.locals) (hf : cells + 4 * pot f b ≤ R.cells ∧ slots + 140 * pot f b ≤ R.slots) (hW : (rest.map fun v => v.category).sum ≤ 8) (hdg : decode cc pc = .ok (.invokevirtual 122, 3))
    (kk : ∀ (f' : dw_M) (H1 : Heap) (locs1 : List Loc), exo G no1 f f' → pot f' b = 0 → dw G.1 dk_cl A s.heap f' H1 locs1 → W p l e R s m args below meth c H1 locs1 (cells + 4 * pot f b) (slots + 140 * pot f b) Q (F0 m (pc + 3) ls (.int (iI (gt us k)) :: rest))) : W p l e R s m args below meth c H locs cells slots Q (F0 m pc ls (.int (iI k) :: .ref b :: rest)) := by
  have hl : lf G f b us → W p l e R s m args below meth c H locs cells slots Q (F0 m pc ls (.int (iI k) :: .ref b :: rest)) := by
    intro h
    have hp0 := lf_pot h
    rw [hp0] at kk hf
    rcases h with h | h
    · refine cs_DK_122_NT X hz hw hls h.choose_spec.choose_spec.1 (c_NT_get l G f _ b us k hk h) ⟨by omega, by omega⟩ ⟨by omega, by omega⟩ hW hdg (fun v f9 H1 locs1 hp hw _ _ _ => ?_)
      obtain ⟨rfl, hfe⟩ := hp
      rw [hfe] at hw
      exact kk f H1 locs1 exo.rf hp0 hw
    · refine cs_DK_122_WT X hz hw hls h.choose_spec.choose_spec.1 (c_WT_get l G f _ b us k hk h) ⟨by omega, by omega⟩ ⟨by omega, by omega⟩ hW hdg (fun v f9 H1 locs1 hp hw _ _ _ => ?_)
      obtain ⟨rfl, hfe⟩ := hp
      rw [hfe] at hw
      exact kk f H1 locs1 exo.rf hp0 hw
  cases d with
  | zero => exact hl ht
  | succ d =>
    rcases ht with h | ⟨x, y, ux, uy, fl, h1, h2, h3, h4, h5, h6⟩
    · exact hl h
    · refine cs_DK_122_JT X hz hw hls h1 (c_JT_get l G f _ d b us k (by omega) hk x y ux uy fl h1 h2 h3 h4 h5 h6) hR hf hW hdg (fun v f9 H1 locs1 hp hw _ _ _ => ?_)
      obtain ⟨rfl, hx, hp⟩ := hp
      exact kk f9 H1 locs1 hx hp hw
theorem sg_EN_19 (X : cx G "TextDesk$Encoder" p s m args c cc nL) (hz : ct_z G A s) (hw : dw G.1 dk_cl A s.heap f H locs) (hls : ls.size = nL) {us : List Int} {k : Int} {d : Nat} (hd : d ≤ 24) (ht : tx G d f b us) (hk : iR k) (hR : 41 + 1 ≤ R.frames ∧ 8 + (3 + 11) + 921 ≤ R.locals) (hf : cells + 4 * pot f b ≤ R.cells ∧ slots + 140 * pot f b ≤ R.slots) (hW : (rest.map fun v => v.category).sum ≤ 8) (hdg : decode cc pc = .ok (.invokevirtual 19, 3))
    (kk : ∀ (f' : dw_M) (H1 : Heap) (locs1 : List Loc), exo G no1 f f' → pot f' b = 0 → dw G.1 dk_cl A s.heap f' H1 locs1 → W p l e R s m args below meth c H1 locs1 (cells + 4 * pot f b) (slots + 140 * pot f b) Q (F0 m (pc + 3) ls (.int (iI (gt us k)) :: rest))) : W p l e R s m args below meth c H locs cells slots Q (F0 m pc ls (.int (iI k) :: .ref b :: rest)) := by
  have hl : lf G f b us → W p l e R s m args below meth c H locs cells slots Q (F0 m pc ls (.int (iI k) :: .ref b :: rest)) := by
    intro h
    have hp0 := lf_pot h
    rw [hp0] at kk hf
    rcases h with h | h
    · refine cs_EN_19_NT X hz hw hls h.choose_spec.choose_spec.1 (c_NT_get l G f _ b us k hk h) ⟨by omega, by omega⟩ ⟨by omega, by omega⟩ hW hdg (fun v f9 H1 locs1 hp hw _ _ _ => ?_)
      obtain ⟨rfl, hfe⟩ := hp
      rw [hfe] at hw
      exact kk f H1 locs1 exo.rf hp0 hw
    · refine cs_EN_19_WT X hz hw hls h.choose_spec.choose_spec.1 (c_WT_get l G f _ b us k hk h) ⟨by omega, by omega⟩ ⟨by omega, by omega⟩ hW hdg (fun v f9 H1 locs1 hp hw _ _ _ => ?_)
      obtain ⟨rfl, hfe⟩ := hp
      rw [hfe] at hw
      exact kk f H1 locs1 exo.rf hp0 hw
  cases d with
  | zero => exact hl ht
  | succ d =>
    rcases ht with h | ⟨x, y, ux, uy, fl, h1, h2, h3, h4, h5, h6⟩
    · exact hl h
    · refine cs_EN_19_JT X hz hw hls h1 (c_JT_get l G f _ d b us k (by omega) hk x y ux uy fl h1 h2 h3 h4 h5 h6) hR hf hW hdg (fun v f9 H1 locs1 hp hw _ _ _ => ?_)
      obtain ⟨rfl, hx, hp⟩ := hp
      exact kk f9 H1 locs1 hx hp hw
theorem sg_DK_192 (X : cx G "TextDesk" p s m args c cc nL) (hz : ct_z G A s) (hw : dw G.1 dk_cl A s.heap f H locs) (hls : ls.size = nL) {us : List Int} {k : Int} (hq : sq G f b us) (hk : iR k) (hR : 41 + 1 ≤ R.frames ∧ 8 + (3 + 11) + 921 ≤ R.locals) (hf : cells + 4 * pot f b ≤ R.cells ∧ slots + 140 * pot f b ≤ R.slots) (hW : (rest.map fun v => v.category).sum ≤ 8) (hdg : decode cc pc = .ok (.invokevirtual 192, 3))
    (kk : ∀ (f' : dw_M) (H1 : Heap) (locs1 : List Loc), exo G no1 f f' → pot f' b = 0 → dw G.1 dk_cl A s.heap f' H1 locs1 → W p l e R s m args below meth c H1 locs1 (cells + 4 * pot f b) (slots + 140 * pot f b) Q (F0 m (pc + 3) ls (.int (iI (gt us k)) :: rest))) : W p l e R s m args below meth c H locs cells slots Q (F0 m pc ls (.int (iI k) :: .ref b :: rest)) := by
  rcases hq with ⟨d, hd, ht⟩ | ⟨q, n, sp, hrw⟩
  case inr =>
    have hp0 := rw_pot hrw
    rw [hp0] at kk hf
    refine cs_DK_192_RW X hz hw hls hrw.choose_spec.1 (c_RW_get l G f _ b q n us sp k hk hrw) ⟨by omega, by omega⟩ ⟨by omega, by omega⟩ hW hdg (fun v f9 H1 locs1 hp hw _ _ _ => ?_)
    obtain ⟨rfl, hfe⟩ := hp
    rw [hfe] at hw
    exact kk f H1 locs1 exo.rf hp0 hw
  have hl : lf G f b us → W p l e R s m args below meth c H locs cells slots Q (F0 m pc ls (.int (iI k) :: .ref b :: rest)) := by
    intro h
    have hp0 := lf_pot h
    rw [hp0] at kk hf
    rcases h with h | h
    · refine cs_DK_192_NT X hz hw hls h.choose_spec.choose_spec.1 (c_NT_get l G f _ b us k hk h) ⟨by omega, by omega⟩ ⟨by omega, by omega⟩ hW hdg (fun v f9 H1 locs1 hp hw _ _ _ => ?_)
      obtain ⟨rfl, hfe⟩ := hp
      rw [hfe] at hw
      exact kk f H1 locs1 exo.rf hp0 hw
    · refine cs_DK_192_WT X hz hw hls h.choose_spec.choose_spec.1 (c_WT_get l G f _ b us k hk h) ⟨by omega, by omega⟩ ⟨by omega, by omega⟩ hW hdg (fun v f9 H1 locs1 hp hw _ _ _ => ?_)
      obtain ⟨rfl, hfe⟩ := hp
      rw [hfe] at hw
      exact kk f H1 locs1 exo.rf hp0 hw
  cases d with
  | zero => exact hl ht
  | succ d =>
    rcases ht with h | ⟨x, y, ux, uy, fl, h1, h2, h3, h4, h5, h6⟩
    · exact hl h
    · refine cs_DK_192_JT X hz hw hls h1 (c_JT_get l G f _ d b us k (by omega) hk x y ux uy fl h1 h2 h3 h4 h5 h6) hR hf hW hdg (fun v f9 H1 locs1 hp hw _ _ _ => ?_)
      obtain ⟨rfl, hx, hp⟩ := hp
      exact kk f9 H1 locs1 hx hp hw
theorem sg_RW_35 (X : cx G "TextDesk$Row" p s m args c cc nL) (hz : ct_z G A s) (hw : dw G.1 dk_cl A s.heap f H locs) (hls : ls.size = nL) {us : List Int} {k : Int} (hq : sq G f b us) (hk : iR k) (hR : 41 + 1 ≤ R.frames ∧ 8 + (3 + 11) + 921 ≤ R.locals) (hf : cells + 4 * pot f b ≤ R.cells ∧ slots + 140 * pot f b ≤ R.slots) (hW : (rest.map fun v => v.category).sum ≤ 8) (hdg : decode cc pc = .ok (.invokevirtual 35, 3))
    (kk : ∀ (f' : dw_M) (H1 : Heap) (locs1 : List Loc), exo G no1 f f' → pot f' b = 0 → dw G.1 dk_cl A s.heap f' H1 locs1 → W p l e R s m args below meth c H1 locs1 (cells + 4 * pot f b) (slots + 140 * pot f b) Q (F0 m (pc + 3) ls (.int (iI (gt us k)) :: rest))) : W p l e R s m args below meth c H locs cells slots Q (F0 m pc ls (.int (iI k) :: .ref b :: rest)) := by
  rcases hq with ⟨d, hd, ht⟩ | ⟨q, n, sp, hrw⟩
  case inr =>
    have hp0 := rw_pot hrw
    rw [hp0] at kk hf
    refine cs_RW_35_RW X hz hw hls hrw.choose_spec.1 (c_RW_get l G f _ b q n us sp k hk hrw) ⟨by omega, by omega⟩ ⟨by omega, by omega⟩ hW hdg (fun v f9 H1 locs1 hp hw _ _ _ => ?_)
    obtain ⟨rfl, hfe⟩ := hp
    rw [hfe] at hw
    exact kk f H1 locs1 exo.rf hp0 hw
  have hl : lf G f b us → W p l e R s m args below meth c H locs cells slots Q (F0 m pc ls (.int (iI k) :: .ref b :: rest)) := by
    intro h
    have hp0 := lf_pot h
    rw [hp0] at kk hf
    rcases h with h | h
    · refine cs_RW_35_NT X hz hw hls h.choose_spec.choose_spec.1 (c_NT_get l G f _ b us k hk h) ⟨by omega, by omega⟩ ⟨by omega, by omega⟩ hW hdg (fun v f9 H1 locs1 hp hw _ _ _ => ?_)
      obtain ⟨rfl, hfe⟩ := hp
      rw [hfe] at hw
      exact kk f H1 locs1 exo.rf hp0 hw
    · refine cs_RW_35_WT X hz hw hls h.choose_spec.choose_spec.1 (c_WT_get l G f _ b us k hk h) ⟨by omega, by omega⟩ ⟨by omega, by omega⟩ hW hdg (fun v f9 H1 locs1 hp hw _ _ _ => ?_)
      obtain ⟨rfl, hfe⟩ := hp
      rw [hfe] at hw
      exact kk f H1 locs1 exo.rf hp0 hw
  cases d with
  | zero => exact hl ht
  | succ d =>
    rcases ht with h | ⟨x, y, ux, uy, fl, h1, h2, h3, h4, h5, h6⟩
    · exact hl h
    · refine cs_RW_35_JT X hz hw hls h1 (c_JT_get l G f _ d b us k (by omega) hk x y ux uy fl h1 h2 h3 h4 h5 h6) hR hf hW hdg (fun v f9 H1 locs1 hp hw _ _ _ => ?_)
      obtain ⟨rfl, hx, hp⟩ := hp
      exact kk f9 H1 locs1 hx hp hw
end SG
end
section
/-- a row or a text that isn't the row r with the array q -/
def sqx (G : ct_G) (r q : Nat) (f : dw_M) (b : Nat) (us : List Int) : Prop := (∃ d, d ≤ 24 ∧ tx G d f b us) ∨ ∃ q' n' sp', rw G f b q' n' us sp' ∧ b ≠ r ∧ q' ≠ q
theorem sqx.sq {G : ct_G} {r q : Nat} {f : dw_M} {b : Nat} {us : List Int} (h : sqx G r q f b us) : sq G f b us := by
  rcases h with h | ⟨q', n', sp', h, -⟩
  · exact Or.inl h
  · exact Or.inr ⟨q', n', sp', h⟩
theorem sqx.go {G : ct_G} {r q : Nat} {f f' : dw_M} {b : Nat} {us : List Int} (h : sqx G r q f b us) (hx : exo G (fun a => a = r ∨ a = q) f f') (hrw : (∃ n u sp, rw G f r q n u sp) := by first | exact ⟨_, _, _, by assumption⟩) : sqx G r q f' b us := by
  rcases h with ⟨d, hd, h⟩ | ⟨q', n', sp', h, h1, h2⟩
  · exact Or.inl ⟨d, hd, hx.2.1 _ _ _ h⟩
  · obtain ⟨n, u, sp, g, k1, k2, -⟩ := hrw
    obtain ⟨g', k3, k4, k5⟩ := h
    refine Or.inr ⟨q', n', sp', hx.rw ⟨g', k3, k4, k5⟩ (fun z => ?_) (fun z => ?_), h1, h2⟩
    · rcases z with z | z
      · exact h1 z
      · exact dw_ne k3 k2 (by simp) z
    · rcases z with z | z
      · exact dw_ne k4 k1 (by simp) z
      · exact h2 z
theorem sqx.pot {G : ct_G} {r q : Nat} {f f' : dw_M} {b : Nat} {us : List Int} (h : sqx G r q f b us) {S : Nat → Prop} (hx : exo G S f f') : pot f' b ≤ pot f b := by
  rcases h with ⟨d, hd, h⟩ | ⟨q', n', sp', ⟨g, h, -⟩, -⟩
  · exact exo_pot hx h
  · exact hx.2.2.1 b _ h
theorem sq.go {G : ct_G} {f f' : dw_M} {b : Nat} {us : List Int} (h : sq G f b us) (hx : exo G no1 f f') : sq G f' b us := by
  rcases h with ⟨d, hd, h⟩ | ⟨q', n', sp', h⟩
  · exact Or.inl ⟨d, hd, hx.2.1 _ _ _ h⟩
  · exact Or.inr ⟨q', n', sp', hx.rw h (fun z => z.elim) (fun z => z.elim)⟩
set_option maxRecDepth 100000 in
set_option maxHeartbeats 4000000 in
theorem c_DK_isHigh (l : Launch) (G : ct_G) (f : dw_M) (sz : Nat) (u : Int) (hu : iR u) : cn l y_DK_isHigh w_DK_isHigh (0) (0) G f sz [.int (iI u)] (fun v f' => v = some (.int (iI (b2 (hi u)))) ∧ f' = f) (0) (0) := by
  refine cn_of (own := "TextDesk") (nm := "isHigh") (ds := "(I)Z") (by decide) (Nat.le_of_ble_eq_true rfl) ?_
  intro p e s m args below meth c ls X hnm hr hlk hs0 hz hw hl
  have hx := X.1
  have hb := X.2.1
  have hl : lv_has ls 1 [(0, .int (iI u))] := hl
  obtain ⟨hu1, hu2⟩ := hu
  refine lv_iload_n hx hb d_DK_isHigh_0 rfl (lv_at hl 0 rfl) ?_
  refine lv_ldc (v := iI (55296)) hx hb X.own (X.hts _ mw_207) d_DK_isHigh_1 ?_
  refine di_icmp_lt (tgt := 16) hx hb d_DK_isHigh_3 (by decide) ⟨by omega, by omega⟩ ⟨by omega, by omega⟩ (fun bq3 => ?_) (fun bq3 => ?_)
  · refine lv_iconst (v := iI (0)) hx hb d_DK_isHigh_16 rfl ?_
    exact cn_zret hx hb hr hlk hw rfl (⟨by have h9 : hi u = false := decide_eq_false (by omega); rw [h9]; rfl, rfl⟩) (Nat.le_refl _) (Nat.le_refl _) d_DK_isHigh_17
  · refine lv_iload_n hx hb d_DK_isHigh_6 rfl (lv_at hl 0 rfl) ?_
    refine lv_ldc (v := iI (56320)) hx hb X.own (X.hts _ mw_208) d_DK_isHigh_7 ?_
    refine di_icmp_ge (tgt := 16) hx hb d_DK_isHigh_9 (by decide) ⟨by omega, by omega⟩ ⟨by omega, by omega⟩ (fun bq9 => ?_) (fun bq9 => ?_)
    · refine lv_iconst (v := iI (0)) hx hb d_DK_isHigh_16 rfl ?_
      exact cn_zret hx hb hr hlk hw rfl (⟨by have h9 : hi u = false := decide_eq_false (by omega); rw [h9]; rfl, rfl⟩) (Nat.le_refl _) (Nat.le_refl _) d_DK_isHigh_17
    · refine lv_iconst (v := iI (1)) hx hb d_DK_isHigh_12 rfl ?_
      refine lv_goto (tgt := 17) hx hb d_DK_isHigh_13 (by decide) ?_
      exact cn_zret hx hb hr hlk hw rfl (⟨by have h9 : hi u = true := decide_eq_true (by omega); rw [h9]; rfl, rfl⟩) (Nat.le_refl _) (Nat.le_refl _) d_DK_isHigh_17
set_option maxRecDepth 100000 in
set_option maxHeartbeats 4000000 in
theorem c_DK_isLow (l : Launch) (G : ct_G) (f : dw_M) (sz : Nat) (u : Int) (hu : iR u) : cn l y_DK_isLow w_DK_isLow (0) (0) G f sz [.int (iI u)] (fun v f' => v = some (.int (iI (b2 (lw u)))) ∧ f' = f) (0) (0) := by
  refine cn_of (own := "TextDesk") (nm := "isLow") (ds := "(I)Z") (by decide) (Nat.le_of_ble_eq_true rfl) ?_
  intro p e s m args below meth c ls X hnm hr hlk hs0 hz hw hl
  have hx := X.1
  have hb := X.2.1
  have hl : lv_has ls 1 [(0, .int (iI u))] := hl
  obtain ⟨hu1, hu2⟩ := hu
  refine lv_iload_n hx hb d_DK_isLow_0 rfl (lv_at hl 0 rfl) ?_
  refine lv_ldc (v := iI (56320)) hx hb X.own (X.hts _ mw_208) d_DK_isLow_1 ?_
  refine di_icmp_lt (tgt := 16) hx hb d_DK_isLow_3 (by decide) ⟨by omega, by omega⟩ ⟨by omega, by omega⟩ (fun bq3 => ?_) (fun bq3 => ?_)
  · refine lv_iconst (v := iI (0)) hx hb d_DK_isLow_16 rfl ?_
    exact cn_zret hx hb hr hlk hw rfl (⟨by have h9 : lw u = false := decide_eq_false (by omega); rw [h9]; rfl, rfl⟩) (Nat.le_refl _) (Nat.le_refl _) d_DK_isLow_17
  · refine lv_iload_n hx hb d_DK_isLow_6 rfl (lv_at hl 0 rfl) ?_
    refine lv_ldc (v := iI (57344)) hx hb X.own (X.hts _ mw_212) d_DK_isLow_7 ?_
    refine di_icmp_ge (tgt := 16) hx hb d_DK_isLow_9 (by decide) ⟨by omega, by omega⟩ ⟨by omega, by omega⟩ (fun bq9 => ?_) (fun bq9 => ?_)
    · refine lv_iconst (v := iI (0)) hx hb d_DK_isLow_16 rfl ?_
      exact cn_zret hx hb hr hlk hw rfl (⟨by have h9 : lw u = false := decide_eq_false (by omega); rw [h9]; rfl, rfl⟩) (Nat.le_refl _) (Nat.le_refl _) d_DK_isLow_17
    · refine lv_iconst (v := iI (1)) hx hb d_DK_isLow_12 rfl ?_
      refine lv_goto (tgt := 17) hx hb d_DK_isLow_13 (by decide) ?_
      exact cn_zret hx hb hr hlk hw rfl (⟨by have h9 : lw u = true := decide_eq_true (by omega); rw [h9]; rfl, rfl⟩) (Nat.le_refl _) (Nat.le_refl _) d_DK_isLow_17
set_option maxRecDepth 100000 in
set_option maxHeartbeats 4000000 in
theorem c_RW_appendRange (l : Launch) (G : ct_G) (f : dw_M) (sz : Nat) (r q n b : Nat) (u us : List Int) (sp fr to : Int) (hfr : iR fr) (hto : iR to) (hrw : rw G f r q n u sp) (hsq : sqx G r q f b us) : cn l y_RW_appendRange w_RW_appendRange (42) (960) G f sz [.ref r, .ref b, .int (iI fr), .int (iI to)] (fun v f' => v = none ∧ rw G f' r q n (apl1 n u (sbl us fr to)) (apl2 n u (sbl us fr to) sp) ∧ exo G (fun a => a = r ∨ a = q) f f' ∧ pot f' b ≤ pot f b) (4 * pot f b) (140 * pot f b) := by
  refine cn_of (own := "TextDesk$Row") (nm := "appendRange") (ds := "(LTextDesk$Sequence;II)V") (by decide) (Nat.le_of_ble_eq_true rfl) ?_
  intro p e s m args below meth c ls X hnm hr hlk hs0 hz hw hl
  have hx := X.1
  have hb := X.2.1
  have hl : lv_has ls 6 [(0, .ref r), (1, .ref b), (2, .int (iI fr)), (3, .int (iI to))] := hl
  have hG := X.E.ok
  obtain ⟨hfr1, hfr2⟩ := hfr
  obtain ⟨hto1, hto2⟩ := hto
  have hlen := hsq.sq.len
  obtain ⟨hul, hn⟩ := hrw.len
  refine lv_iload_n hx hb d_RW_appendRange_0 rfl (lv_at hl 3 rfl) ?_
  refine lv_aload_n hx hb d_RW_appendRange_1 rfl (lv_at hl 1 rfl) ?_
  refine sq_RW_29 X hz hw hl.1 hsq.sq.w ⟨Nat.le_of_ble_eq_true rfl, Nat.le_of_ble_eq_true rfl⟩ ⟨by show 0 ≤ 4 * pot f b; omega, by show 0 ≤ 140 * pot f b; omega⟩ (Nat.le_of_ble_eq_true rfl) d_RW_appendRange_2 (fun H locs hw => ?_)
  refine W.eq (g2 := F0 m 5 ls [.int (iI ((us.length : Int))), .int (iI to)]) rfl ?_
  obtain ⟨en, hen⟩ : ∃ en : Int, en = if (us.length : Int) < to then (us.length : Int) else to := ⟨_, rfl⟩
  have hen1 : en ≤ (us.length : Int) := by rw [hen]; split <;> omega
  have hen2 : -2147483648 ≤ en := by rw [hen]; split <;> omega
  refine di_min X hl.1 mw_141 ⟨by omega, by omega⟩ ⟨by omega, by omega⟩ (z := en) (hen.symm) (Nat.le_of_ble_eq_true rfl) (Nat.le_of_ble_eq_true rfl) (by show 0 ≤ 4 * pot f b; omega) (by show 0 ≤ 140 * pot f b; omega) d_RW_appendRange_5 ?_
  refine lv_istore (lv' := [(4, .int (iI en)), (0, .ref r), (1, .ref b), (2, .int (iI fr)), (3, .int (iI to))]) hx hb d_RW_appendRange_8 hl (by decide) rfl (fun ls hl => ?_)
  refine lv_iload_n hx hb d_RW_appendRange_10 rfl (lv_at hl 3 rfl) ?_
  refine lv_iconst (v := iI (0)) hx hb d_RW_appendRange_11 rfl ?_
  obtain ⟨lo, hlo⟩ : ∃ lo : Int, lo = if fr < 0 then 0 else fr := ⟨_, rfl⟩
  have hlo1 : 0 ≤ lo ∧ lo < 2147483648 := by rw [hlo]; split <;> omega
  refine di_max X hl.1 mw_38 ⟨by omega, by omega⟩ ⟨by omega, by omega⟩ (z := lo) (hlo.symm) (Nat.le_of_ble_eq_true rfl) (Nat.le_of_ble_eq_true rfl) (by show 0 ≤ 4 * pot f b; omega) (by show 0 ≤ 140 * pot f b; omega) d_RW_appendRange_12 ?_
  refine lv_istore (lv' := [(5, .int (iI lo)), (4, .int (iI en)), (0, .ref r), (1, .ref b), (2, .int (iI fr)), (3, .int (iI to))]) hx hb d_RW_appendRange_15 hl (by decide) rfl (fun ls hl => ?_)
  have loop : ∀ (N : Nat) (k : Int) (ce : Nat) (sl : Nat) (f1 : dw_M) (H : Heap) (locs : List Loc) (ls : Array Slot), (en - k).toNat < N → lo ≤ k → (k ≤ en ∨ k = lo) → rw G f1 r q n (apl1 n u (sbl us lo k)) (apl2 n u (sbl us lo k) sp) → exo G (fun a => a = r ∨ a = q) f f1 → sqx G r q f1 b us → pot f1 b ≤ pot f b → ce + 4 * pot f1 b ≤ 4 * pot f b → sl + 140 * pot f1 b ≤ 140 * pot f b → dw G.1 dk_cl (dw_A f sz) s.heap f1 H locs → lv_has ls 6 [(5, .int (iI k)), (4, .int (iI en)), (0, .ref r), (1, .ref b)] → W p l e { frames := 42, locals := 960, cells := 4 * pot f b, slots := 140 * pot f b } s m args below meth c H locs (ce) (sl) (MQ below (ct_Q G f sz (fun v f' => v = none ∧ rw G f' r q n (apl1 n u (sbl us fr to)) (apl2 n u (sbl us fr to) sp) ∧ exo G (fun a => a = r ∨ a = q) f f' ∧ pot f' b ≤ pot f b)) args s (4 * pot f b) (140 * pot f b) (dw_A f sz)) (F0 m 17 ls []) := by
    intro N
    induction N with
    | zero => intros; omega
    | succ N ih =>
      intro k ce sl f1 H locs ls hN hk1 hk2 hrw1 hx1 hsq1 hpo hce hsl hw hl
      refine lv_iload hx hb d_RW_appendRange_17 (lv_at hl 0 rfl) ?_
      refine lv_iload hx hb d_RW_appendRange_19 (lv_at hl 1 rfl) ?_
      refine di_icmp_ge (tgt := 40) hx hb d_RW_appendRange_21 (by decide) ⟨by omega, by omega⟩ ⟨by omega, by omega⟩ (fun bq21 => ?_) (fun bq21 => ?_)
      · exact cn_vret hx hb hr hlk hw  (⟨rfl, by rw [← sbl_end hlo hen hk1 hk2 (by omega)]; exact hrw1, hx1, by omega⟩) (by omega) (by omega) d_RW_appendRange_40
      · refine lv_aload_n hx hb d_RW_appendRange_24 rfl (lv_at hl 2 rfl) ?_
        refine lv_aload_n hx hb d_RW_appendRange_25 rfl (lv_at hl 3 rfl) ?_
        refine lv_iload hx hb d_RW_appendRange_26 (lv_at hl 0 rfl) ?_
        refine sg_RW_35 X hz hw hl.1 hsq1.sq ⟨by omega, by omega⟩ ⟨Nat.le_of_ble_eq_true rfl, Nat.le_of_ble_eq_true rfl⟩ ⟨by show ce + 4 * pot f1 b ≤ 4 * pot f b; omega, by show sl + 140 * pot f1 b ≤ 140 * pot f b; omega⟩ (Nat.le_of_ble_eq_true rfl) d_RW_appendRange_28 (fun f2 H locs hx_f2 hp_f2 hw => ?_)
        refine W.eq (g2 := F0 m 31 ls [.int (iI (gt us k)), .ref r]) rfl ?_
        have hgk : gt us k = us.getD k.toNat 0 := gt_in (by omega) (by omega)
        have hrw2 := hx_f2.rw hrw1 (fun z => z.elim) (fun z => z.elim)
        refine cs_RW_39 X hz hw hl.1 hrw2.choose_spec.1 (c_RW_append l G f2 _ r q n _ _ (gt us k) hrw2) ⟨Nat.le_of_ble_eq_true rfl, Nat.le_of_ble_eq_true rfl⟩ ⟨by show ce + 4 * pot f1 b + 0 ≤ 4 * pot f b; omega, by show sl + 140 * pot f1 b + 0 ≤ 140 * pot f b; omega⟩ (Nat.le_of_ble_eq_true rfl) d_RW_appendRange_31 (fun v f3 H locs hp hw hsz9 hkp9 hdm9 => ?_)
        obtain ⟨rfl, hrw3, hk3⟩ := hp
        have hx3 := exo_row hG hrw2 hrw3 hk3
        have hsq2 := hsq1.go (hx_f2.mono (fun _ z => z.elim))
        have hp3 : pot f3 b ≤ pot f2 b := hsq2.pot hx3
        rw [apl1_snoc _ hul, apl2_snoc _ hul, hgk, ← sbl_snoc (by omega) (by omega) (by omega)] at hrw3
        refine W.eq (g2 := F0 m 34 ls []) rfl ?_
        refine lv_iinc (v := iI (k + 1)) (lv' := [(5, .int (iI (k + 1))), (4, .int (iI en)), (0, .ref r), (1, .ref b)]) hx hb d_RW_appendRange_34 hl (k := 0) rfl (iI_add _ _) (by decide) rfl (fun ls hl => ?_)
        refine lv_goto (tgt := 17) hx hb d_RW_appendRange_37 (by decide) ?_
        exact ih (k + 1) (ce + 4 * pot f1 b) (sl + 140 * pot f1 b) _ _ _ _ (by omega) (by omega) (by omega) (hrw3) ((hx1.tr (hx_f2.mono (fun _ z => z.elim))).tr hx3) (hsq2.go hx3) (by omega) (by omega) (by omega) hw (lv_sub hl [0, 1, 2, 3] rfl)
  exact loop ((en - lo).toNat + 1) (lo) (0) (0) _ _ _ _ (by omega) (Int.le_refl _) (Or.inr rfl) (by rw [sbl_nil (Int.le_refl _) hlo1.1, apl1_nil, apl2_nil hul]; exact hrw) (exo.rf) (hsq) (by omega) (by omega) (by omega) hw (lv_sub hl [0, 1, 2, 3] rfl)
set_option maxRecDepth 100000 in
set_option maxHeartbeats 4000000 in
theorem c_DK_isPairAt (l : Launch) (G : ct_G) (f : dw_M) (sz : Nat) (b : Nat) (us : List Int) (k : Int) (hk : -2147483648 ≤ k ∧ k < 2147483647) (hus : ∀ u ∈ us, 0 ≤ u ∧ u < 65536) (hsq : sq G f b us) : cn l y_DK_isPairAt w_DK_isPairAt (42) (960) G f sz [.ref b, .int (iI k)] (fun v f' => v = some (.int (iI (b2 (pr us k)))) ∧ exo G no1 f f' ∧ pot f' b ≤ pot f b) (4 * pot f b) (140 * pot f b) := by
  refine cn_of (own := "TextDesk") (nm := "isPairAt") (ds := "(LTextDesk$Sequence;I)Z") (by decide) (Nat.le_of_ble_eq_true rfl) ?_
  intro p e s m args below meth c ls X hnm hr hlk hs0 hz hw hl
  have hx := X.1
  have hb := X.2.1
  have hl : lv_has ls 2 [(0, .ref b), (1, .int (iI k))] := hl
  have hr1 := gt_rng hus k
  have hr2 := gt_rng hus (k + 1)
  refine lv_aload_n hx hb d_DK_isPairAt_0 rfl (lv_at hl 0 rfl) ?_
  refine lv_iload_n hx hb d_DK_isPairAt_1 rfl (lv_at hl 1 rfl) ?_
  refine sg_DK_192 X hz hw hl.1 hsq ⟨by omega, by omega⟩ ⟨Nat.le_of_ble_eq_true rfl, Nat.le_of_ble_eq_true rfl⟩ ⟨by show 0 + 4 * pot f b ≤ 4 * pot f b; omega, by show 0 + 140 * pot f b ≤ 140 * pot f b; omega⟩ (Nat.le_of_ble_eq_true rfl) d_DK_isPairAt_2 (fun f2 H locs hx_f2 hp_f2 hw => ?_)
  refine W.eq (g2 := F0 m 5 ls [.int (iI (gt us k))]) rfl ?_
  refine cs_DK_211 X hz hw hl.1 (c_DK_isHigh l G f2 _ (gt us k) ⟨by omega, by omega⟩) ⟨Nat.le_of_ble_eq_true rfl, Nat.le_of_ble_eq_true rfl⟩ ⟨by show 0 + 4 * pot f b + 0 ≤ 4 * pot f b; omega, by show 0 + 140 * pot f b + 0 ≤ 140 * pot f b; omega⟩ (Nat.le_of_ble_eq_true rfl) d_DK_isPairAt_5 (fun v f9 H locs hp hw hsz9 hkp9 hdm9 => ?_)
  obtain ⟨rfl, hfe⟩ := hp
  rw [hfe] at hw
  refine W.eq (g2 := F0 m 8 ls [.int (iI (b2 (hi (gt us k))))]) rfl ?_
  have hb1 := b2_01 (hi (gt us k))
  refine di_if_eq (tgt := 28) hx hb d_DK_isPairAt_8 (by decide) ⟨by omega, by omega⟩ (fun bq8 => ?_) (fun bq8 => ?_)
  · refine lv_iconst (v := iI (0)) hx hb d_DK_isPairAt_28 rfl ?_
    exact cn_zret hx hb hr hlk hw rfl (⟨by rw [pr, b2_0 bq8]; rfl, hx_f2, by omega⟩) (by omega) (by omega) d_DK_isPairAt_29
  · refine lv_aload_n hx hb d_DK_isPairAt_11 rfl (lv_at hl 0 rfl) ?_
    refine lv_iload_n hx hb d_DK_isPairAt_12 rfl (lv_at hl 1 rfl) ?_
    refine lv_iconst (v := iI (1)) hx hb d_DK_isPairAt_13 rfl ?_
    refine di_add hx hb d_DK_isPairAt_14 ?_
    refine sg_DK_192 X hz hw hl.1 (hsq.go hx_f2) ⟨by omega, by omega⟩ ⟨Nat.le_of_ble_eq_true rfl, Nat.le_of_ble_eq_true rfl⟩ ⟨by show 0 + 4 * pot f b + 4 * pot f2 b ≤ 4 * pot f b; omega, by show 0 + 140 * pot f b + 140 * pot f2 b ≤ 140 * pot f b; omega⟩ (Nat.le_of_ble_eq_true rfl) d_DK_isPairAt_15 (fun f3 H locs hx_f3 hp_f3 hw => ?_)
    refine W.eq (g2 := F0 m 18 ls [.int (iI (gt us (k + 1)))]) rfl ?_
    refine cs_DK_215 X hz hw hl.1 (c_DK_isLow l G f3 _ (gt us (k + 1)) ⟨by omega, by omega⟩) ⟨Nat.le_of_ble_eq_true rfl, Nat.le_of_ble_eq_true rfl⟩ ⟨by show 0 + 4 * pot f b + 4 * pot f2 b + 0 ≤ 4 * pot f b; omega, by show 0 + 140 * pot f b + 140 * pot f2 b + 0 ≤ 140 * pot f b; omega⟩ (Nat.le_of_ble_eq_true rfl) d_DK_isPairAt_18 (fun v f9 H locs hp hw hsz9 hkp9 hdm9 => ?_)
    obtain ⟨rfl, hfe⟩ := hp
    rw [hfe] at hw
    refine W.eq (g2 := F0 m 21 ls [.int (iI (b2 (lw (gt us (k + 1)))))]) rfl ?_
    have hb2 := b2_01 (lw (gt us (k + 1)))
    refine di_if_eq (tgt := 28) hx hb d_DK_isPairAt_21 (by decide) ⟨by omega, by omega⟩ (fun bq21 => ?_) (fun bq21 => ?_)
    · refine lv_iconst (v := iI (0)) hx hb d_DK_isPairAt_28 rfl ?_
      exact cn_zret hx hb hr hlk hw rfl (⟨by rw [pr, b2_0 bq21, Bool.and_false]; rfl, hx_f2.tr hx_f3, by omega⟩) (by omega) (by omega) d_DK_isPairAt_29
    · refine lv_iconst (v := iI (1)) hx hb d_DK_isPairAt_24 rfl ?_
      refine lv_goto (tgt := 29) hx hb d_DK_isPairAt_25 (by decide) ?_
      exact cn_zret hx hb hr hlk hw rfl (⟨by rw [pr, b2_1 bq8, b2_1 bq21]; rfl, hx_f2.tr hx_f3, by omega⟩) (by omega) (by omega) d_DK_isPairAt_29
set_option maxRecDepth 100000 in
set_option maxHeartbeats 4000000 in
theorem c_DK_characterAt (l : Launch) (G : ct_G) (f : dw_M) (sz : Nat) (b : Nat) (us : List Int) (k : Int) (hk : -2147483648 ≤ k ∧ k < 2147483647) (hus : ∀ u ∈ us, 0 ≤ u ∧ u < 65536) (hsq : sq G f b us) : cn l y_DK_characterAt w_DK_characterAt (43) (985) G f sz [.ref b, .int (iI k)] (fun v f' => v = some (.int (iI (chr us k))) ∧ exo G no1 f f' ∧ pot f' b ≤ pot f b) (4 * pot f b) (140 * pot f b) := by
  refine cn_of (own := "TextDesk") (nm := "characterAt") (ds := "(LTextDesk$Sequence;I)I") (by decide) (Nat.le_of_ble_eq_true rfl) ?_
  intro p e s m args below meth c ls X hnm hr hlk hs0 hz hw hl
  have hx := X.1
  have hb := X.2.1
  have hl : lv_has ls 3 [(0, .ref b), (1, .int (iI k))] := hl
  have hr1 := gt_rng hus k
  have hr2 := gt_rng hus (k + 1)
  refine lv_aload_n hx hb d_DK_characterAt_0 rfl (lv_at hl 0 rfl) ?_
  refine lv_iload_n hx hb d_DK_characterAt_1 rfl (lv_at hl 1 rfl) ?_
  refine sg_DK_192 X hz hw hl.1 hsq ⟨by omega, by omega⟩ ⟨Nat.le_of_ble_eq_true rfl, Nat.le_of_ble_eq_true rfl⟩ ⟨by show 0 + 4 * pot f b ≤ 4 * pot f b; omega, by show 0 + 140 * pot f b ≤ 140 * pot f b; omega⟩ (Nat.le_of_ble_eq_true rfl) d_DK_characterAt_2 (fun f2 H locs hx_f2 hp_f2 hw => ?_)
  refine W.eq (g2 := F0 m 5 ls [.int (iI (gt us k))]) rfl ?_
  refine lv_istore_n (lv' := [(2, .int (iI (gt us k))), (0, .ref b), (1, .int (iI k))]) hx hb d_DK_characterAt_5 rfl hl (by decide) rfl (fun ls hl => ?_)
  refine lv_aload_n hx hb d_DK_characterAt_6 rfl (lv_at hl 1 rfl) ?_
  refine lv_iload_n hx hb d_DK_characterAt_7 rfl (lv_at hl 2 rfl) ?_
  refine cs_DK_88 X hz hw hl.1 (c_DK_isPairAt l G f2 _ b us k hk hus (hsq.go hx_f2)) ⟨Nat.le_of_ble_eq_true rfl, Nat.le_of_ble_eq_true rfl⟩ ⟨by show 0 + 4 * pot f b + 4 * pot f2 b ≤ 4 * pot f b; omega, by show 0 + 140 * pot f b + 140 * pot f2 b ≤ 140 * pot f b; omega⟩ (Nat.le_of_ble_eq_true rfl) d_DK_characterAt_8 (fun v f3 H locs hp hw hsz9 hkp9 hdm9 => ?_)
  obtain ⟨rfl, hx_f3, hp_f3⟩ := hp
  refine W.eq (g2 := F0 m 11 ls [.int (iI (b2 (pr us k)))]) rfl ?_
  have hb1 := b2_01 (pr us k)
  refine di_if_ne (tgt := 16) hx hb d_DK_characterAt_11 (by decide) ⟨by omega, by omega⟩ (fun bq11 => ?_) (fun bq11 => ?_)
  · refine lv_ldc (v := iI (65536)) hx hb X.own (X.hts _ mw_231) d_DK_characterAt_16 ?_
    refine lv_iload_n hx hb d_DK_characterAt_18 rfl (lv_at hl 0 rfl) ?_
    refine lv_ldc (v := iI (55296)) hx hb X.own (X.hts _ mw_207) d_DK_characterAt_19 ?_
    refine di_sub hx hb d_DK_characterAt_21 ?_
    refine lv_sipush (v := iI (1024)) hx hb d_DK_characterAt_22 rfl ?_
    refine di_mul hx hb d_DK_characterAt_25 ?_
    refine di_add hx hb d_DK_characterAt_26 ?_
    refine lv_aload_n hx hb d_DK_characterAt_27 rfl (lv_at hl 1 rfl) ?_
    refine lv_iload_n hx hb d_DK_characterAt_28 rfl (lv_at hl 2 rfl) ?_
    refine lv_iconst (v := iI (1)) hx hb d_DK_characterAt_29 rfl ?_
    refine di_add hx hb d_DK_characterAt_30 ?_
    refine sg_DK_192 X hz hw hl.1 ((hsq.go hx_f2).go hx_f3) ⟨by omega, by omega⟩ ⟨Nat.le_of_ble_eq_true rfl, Nat.le_of_ble_eq_true rfl⟩ ⟨by show 0 + 4 * pot f b + 4 * pot f2 b + 4 * pot f3 b ≤ 4 * pot f b; omega, by show 0 + 140 * pot f b + 140 * pot f2 b + 140 * pot f3 b ≤ 140 * pot f b; omega⟩ (Nat.le_of_ble_eq_true rfl) d_DK_characterAt_31 (fun f4 H locs hx_f4 hp_f4 hw => ?_)
    refine W.eq (g2 := F0 m 34 ls [.int (iI (gt us (k + 1))), .int (iI (65536 + (((gt us k) - 55296) * 1024)))]) rfl ?_
    refine di_add hx hb d_DK_characterAt_34 ?_
    refine lv_ldc (v := iI (56320)) hx hb X.own (X.hts _ mw_208) d_DK_characterAt_35 ?_
    refine di_sub hx hb d_DK_characterAt_37 ?_
    exact cn_iret hx hb hr hlk hw  (⟨by rw [chr, if_pos (b2_1 bq11)], (hx_f2.tr hx_f3).tr hx_f4, by omega⟩) (by omega) (by omega) d_DK_characterAt_38
  · refine lv_iload_n hx hb d_DK_characterAt_14 rfl (lv_at hl 0 rfl) ?_
    exact cn_iret hx hb hr hlk hw  (⟨by rw [chr, if_neg (by rw [b2_0 bq11]; decide)], hx_f2.tr hx_f3, by omega⟩) (by omega) (by omega) d_DK_characterAt_15
set_option maxRecDepth 100000 in
set_option maxHeartbeats 4000000 in
theorem c_DK_difference (l : Launch) (G : ct_G) (f : dw_M) (sz : Nat) (d e0 a b : Nat) (ua ub : List Int) (hd : d ≤ 24) (he0 : e0 ≤ 24) (hta : tx G d f a ua) (htb : tx G e0 f b ub) : cn l y_DK_difference w_DK_difference (42) (960) G f sz [.ref a, .ref b] (fun v f' => v = some (.int (iI (dif ua ub))) ∧ exo G no1 f f') (4 * pot f a + 4 * pot f b) (140 * pot f a + 140 * pot f b) := by
  refine cn_of (own := "TextDesk") (nm := "difference") (ds := "(LTextDesk$Text;LTextDesk$Text;)I") (by decide) (Nat.le_of_ble_eq_true rfl) ?_
  intro p e s m args below meth c ls X hnm hr hlk hs0 hz hw hl
  have hx := X.1
  have hb := X.2.1
  have hl : lv_has ls 4 [(0, .ref a), (1, .ref b)] := hl
  have hla := hta.len
  have hlb := htb.len
  refine lv_aload_n hx hb d_DK_difference_0 rfl (lv_at hl 0 rfl) ?_
  refine st_DK_77 X hz hw hl.1 hta ⟨Nat.le_of_ble_eq_true rfl, Nat.le_of_ble_eq_true rfl⟩ ⟨by show 0 ≤ 4 * pot f a + 4 * pot f b; omega, by show 0 ≤ 140 * pot f a + 140 * pot f b; omega⟩ (Nat.le_of_ble_eq_true rfl) d_DK_difference_1 (fun H locs hw => ?_)
  refine W.eq (g2 := F0 m 4 ls [.int (iI ((ua.length : Int)))]) rfl ?_
  refine lv_aload_n hx hb d_DK_difference_4 rfl (lv_at hl 1 rfl) ?_
  refine st_DK_77 X hz hw hl.1 htb ⟨Nat.le_of_ble_eq_true rfl, Nat.le_of_ble_eq_true rfl⟩ ⟨by show 0 ≤ 4 * pot f a + 4 * pot f b; omega, by show 0 ≤ 140 * pot f a + 140 * pot f b; omega⟩ (Nat.le_of_ble_eq_true rfl) d_DK_difference_5 (fun H locs hw => ?_)
  refine W.eq (g2 := F0 m 8 ls [.int (iI ((ub.length : Int))), .int (iI ((ua.length : Int)))]) rfl ?_
  obtain ⟨en, hen⟩ : ∃ en : Int, en = if (ub.length : Int) < (ua.length : Int) then (ub.length : Int) else (ua.length : Int) := ⟨_, rfl⟩
  have hen1 : en ≤ (ua.length : Int) ∧ en ≤ (ub.length : Int) ∧ (en = (ua.length : Int) ∨ en = (ub.length : Int)) := by rw [hen]; split <;> omega
  refine di_min X hl.1 mw_505 ⟨by omega, by omega⟩ ⟨by omega, by omega⟩ (z := en) (hen.symm) (Nat.le_of_ble_eq_true rfl) (Nat.le_of_ble_eq_true rfl) (by show 0 ≤ 4 * pot f a + 4 * pot f b; omega) (by show 0 ≤ 140 * pot f a + 140 * pot f b; omega) d_DK_difference_8 ?_
  refine lv_istore_n (lv' := [(2, .int (iI en)), (0, .ref a), (1, .ref b)]) hx hb d_DK_difference_11 rfl hl (by decide) rfl (fun ls hl => ?_)
  refine lv_iconst (v := iI (0)) hx hb d_DK_difference_12 rfl ?_
  refine lv_istore_n (lv' := [(3, .int (iI 0)), (2, .int (iI en)), (0, .ref a), (1, .ref b)]) hx hb d_DK_difference_13 rfl hl (by decide) rfl (fun ls hl => ?_)
  have loop : ∀ (N : Nat) (k : Int) (ce : Nat) (sl : Nat) (f1 : dw_M) (H : Heap) (locs : List Loc) (ls : Array Slot), (en - k).toNat < N → 0 ≤ k → k ≤ en → (∀ j : Nat, (j : Int) < k → gt ua j = gt ub j) → exo G no1 f f1 → tx G d f1 a ua → tx G e0 f1 b ub → ce + (4 * pot f1 a + 4 * pot f1 b) ≤ 4 * pot f a + 4 * pot f b → sl + (140 * pot f1 a + 140 * pot f1 b) ≤ 140 * pot f a + 140 * pot f b → dw G.1 dk_cl (dw_A f sz) s.heap f1 H locs → lv_has ls 4 [(3, .int (iI k)), (2, .int (iI en)), (0, .ref a), (1, .ref b)] → W p l e { frames := 42, locals := 960, cells := 4 * pot f a + 4 * pot f b, slots := 140 * pot f a + 140 * pot f b } s m args below meth c H locs (ce) (sl) (MQ below (ct_Q G f sz (fun v f' => v = some (.int (iI (dif ua ub))) ∧ exo G no1 f f')) args s (4 * pot f a + 4 * pot f b) (140 * pot f a + 140 * pot f b) (dw_A f sz)) (F0 m 14 ls []) := by
    intro N
    induction N with
    | zero => intros; omega
    | succ N ih =>
      intro k ce sl f1 H locs ls hN hk0 hk1 hall hx1 hta1 htb1 hce hsl hw hl
      refine lv_iload_n hx hb d_DK_difference_14 rfl (lv_at hl 0 rfl) ?_
      refine lv_iload_n hx hb d_DK_difference_15 rfl (lv_at hl 1 rfl) ?_
      refine di_icmp_ge (tgt := 50) hx hb d_DK_difference_16 (by decide) ⟨by omega, by omega⟩ ⟨by omega, by omega⟩ (fun bq16 => ?_) (fun bq16 => ?_)
      · refine lv_aload_n hx hb d_DK_difference_50 rfl (lv_at hl 2 rfl) ?_
        refine st_DK_77 X hz hw hl.1 hta1 ⟨Nat.le_of_ble_eq_true rfl, Nat.le_of_ble_eq_true rfl⟩ ⟨by show ce ≤ 4 * pot f a + 4 * pot f b; omega, by show sl ≤ 140 * pot f a + 140 * pot f b; omega⟩ (Nat.le_of_ble_eq_true rfl) d_DK_difference_51 (fun H locs hw => ?_)
        refine W.eq (g2 := F0 m 54 ls [.int (iI ((ua.length : Int)))]) rfl ?_
        refine lv_aload_n hx hb d_DK_difference_54 rfl (lv_at hl 3 rfl) ?_
        refine st_DK_77 X hz hw hl.1 htb1 ⟨Nat.le_of_ble_eq_true rfl, Nat.le_of_ble_eq_true rfl⟩ ⟨by show ce ≤ 4 * pot f a + 4 * pot f b; omega, by show sl ≤ 140 * pot f a + 140 * pot f b; omega⟩ (Nat.le_of_ble_eq_true rfl) d_DK_difference_55 (fun H locs hw => ?_)
        refine W.eq (g2 := F0 m 58 ls [.int (iI ((ub.length : Int))), .int (iI ((ua.length : Int)))]) rfl ?_
        refine di_sub hx hb d_DK_difference_58 ?_
        exact cn_iret hx hb hr hlk hw  (⟨by rw [(dif_eq ua ub k.toNat (by omega) (by omega) (fun j hj => hall j (by omega))).2 (by omega)], hx1⟩) (by omega) (by omega) d_DK_difference_59
      · refine lv_aload_n hx hb d_DK_difference_19 rfl (lv_at hl 2 rfl) ?_
        refine lv_iload_n hx hb d_DK_difference_20 rfl (lv_at hl 0 rfl) ?_
        have hra := gt_rng hta1.rng k
        have hrb := gt_rng htb1.rng k
        refine sg_DK_122 X hz hw hl.1 hd hta1 ⟨by omega, by omega⟩ ⟨Nat.le_of_ble_eq_true rfl, Nat.le_of_ble_eq_true rfl⟩ ⟨by show ce + 4 * pot f1 a ≤ 4 * pot f a + 4 * pot f b; omega, by show sl + 140 * pot f1 a ≤ 140 * pot f a + 140 * pot f b; omega⟩ (Nat.le_of_ble_eq_true rfl) d_DK_difference_21 (fun f2 H locs hx_f2 hp_f2 hw => ?_)
        refine W.eq (g2 := F0 m 24 ls [.int (iI (gt ua k))]) rfl ?_
        have hpb2 := exo_pot hx_f2 htb1
        have htbf2 := hx_f2.2.1 _ _ _ htb1
        have htaf2 := hx_f2.2.1 _ _ _ hta1
        refine lv_aload_n hx hb d_DK_difference_24 rfl (lv_at hl 3 rfl) ?_
        refine lv_iload_n hx hb d_DK_difference_25 rfl (lv_at hl 0 rfl) ?_
        refine sg_DK_122 X hz hw hl.1 he0 htbf2 ⟨by omega, by omega⟩ ⟨Nat.le_of_ble_eq_true rfl, Nat.le_of_ble_eq_true rfl⟩ ⟨by show ce + 4 * pot f1 a + 4 * pot f2 b ≤ 4 * pot f a + 4 * pot f b; omega, by show sl + 140 * pot f1 a + 140 * pot f2 b ≤ 140 * pot f a + 140 * pot f b; omega⟩ (Nat.le_of_ble_eq_true rfl) d_DK_difference_26 (fun f3 H locs hx_f3 hp_f3 hw => ?_)
        refine W.eq (g2 := F0 m 29 ls [.int (iI (gt ub k)), .int (iI (gt ua k))]) rfl ?_
        have hpa2 := exo_pot hx_f3 htaf2
        have htb4 := hx_f3.2.1 _ _ _ htbf2
        have hta4 := hx_f3.2.1 _ _ _ htaf2
        refine di_icmp_eq (tgt := 44) hx hb d_DK_difference_29 (by decide) ⟨by omega, by omega⟩ ⟨by omega, by omega⟩ (fun bq29 => ?_) (fun bq29 => ?_)
        · refine lv_iinc (v := iI (k + 1)) (lv' := [(3, .int (iI (k + 1))), (2, .int (iI en)), (0, .ref a), (1, .ref b)]) hx hb d_DK_difference_44 hl (k := 0) rfl (iI_add _ _) (by decide) rfl (fun ls hl => ?_)
          refine lv_goto (tgt := 14) hx hb d_DK_difference_47 (by decide) ?_
          exact ih (k + 1) (ce + 4 * pot f1 a + 4 * pot f2 b) (sl + 140 * pot f1 a + 140 * pot f2 b) _ _ _ _ (by omega) (by omega) (by omega) (fun j hj => by
            by_cases e : (j : Int) = k
            · rw [e]; exact bq29
            · exact hall j (by omega)) ((hx1.tr hx_f2).tr hx_f3) (hta4) (htb4) (by omega) (by omega) hw (lv_sub hl [0, 1, 2, 3] rfl)
        · refine lv_aload_n hx hb d_DK_difference_32 rfl (lv_at hl 2 rfl) ?_
          refine lv_iload_n hx hb d_DK_difference_33 rfl (lv_at hl 0 rfl) ?_
          refine sg_DK_122 X hz hw hl.1 hd hta4 ⟨by omega, by omega⟩ ⟨Nat.le_of_ble_eq_true rfl, Nat.le_of_ble_eq_true rfl⟩ ⟨by show ce + 4 * pot f1 a + 4 * pot f2 b + 4 * pot f3 a ≤ 4 * pot f a + 4 * pot f b; omega, by show sl + 140 * pot f1 a + 140 * pot f2 b + 140 * pot f3 a ≤ 140 * pot f a + 140 * pot f b; omega⟩ (Nat.le_of_ble_eq_true rfl) d_DK_difference_34 (fun f4 H locs hx_f4 hp_f4 hw => ?_)
          refine W.eq (g2 := F0 m 37 ls [.int (iI (gt ua k))]) rfl ?_
          have hpb4 := exo_pot hx_f4 htb4
          have htbf4 := hx_f4.2.1 _ _ _ htb4
          have htaf4 := hx_f4.2.1 _ _ _ hta4
          refine lv_aload_n hx hb d_DK_difference_37 rfl (lv_at hl 3 rfl) ?_
          refine lv_iload_n hx hb d_DK_difference_38 rfl (lv_at hl 0 rfl) ?_
          refine sg_DK_122 X hz hw hl.1 he0 htbf4 ⟨by omega, by omega⟩ ⟨Nat.le_of_ble_eq_true rfl, Nat.le_of_ble_eq_true rfl⟩ ⟨by show ce + 4 * pot f1 a + 4 * pot f2 b + 4 * pot f3 a + 4 * pot f4 b ≤ 4 * pot f a + 4 * pot f b; omega, by show sl + 140 * pot f1 a + 140 * pot f2 b + 140 * pot f3 a + 140 * pot f4 b ≤ 140 * pot f a + 140 * pot f b; omega⟩ (Nat.le_of_ble_eq_true rfl) d_DK_difference_39 (fun f5 H locs hx_f5 hp_f5 hw => ?_)
          refine W.eq (g2 := F0 m 42 ls [.int (iI (gt ub k)), .int (iI (gt ua k))]) rfl ?_
          have hpa4 := exo_pot hx_f5 htaf4
          have htb6 := hx_f5.2.1 _ _ _ htbf4
          have hta6 := hx_f5.2.1 _ _ _ htaf4
          refine di_sub hx hb d_DK_difference_42 ?_
          have hkk : ((k.toNat : Nat) : Int) = k := by omega
          have hde := (dif_eq ua ub k.toNat (by omega) (by omega) (fun j hj => hall j (by omega))).1 (by omega) (by omega) (by rw [hkk]; exact bq29)
          rw [hkk] at hde
          exact cn_iret hx hb hr hlk hw  (⟨by rw [hde], (((hx1.tr hx_f2).tr hx_f3).tr hx_f4).tr hx_f5⟩) (by omega) (by omega) d_DK_difference_43
  exact loop ((en - 0).toNat + 1) (0) (0) (0) _ _ _ _ (by omega) (by omega) (by omega) (fun j hj => by omega) (exo.rf) (hta) (htb) (by omega) (by omega) hw (lv_sub hl [0, 1, 2, 3] rfl)
end
section
theorem fst1_none {w s : List Int} : ∀ (n : Nat) (p : Int), (∀ j : Int, p ≤ j → j < p + n → sta w s j = false) → fst1 w s n p = -1
  | 0, _, _ => rfl
  | n + 1, p, h => by
    unfold fst1
    rw [if_neg (by rw [h p (by omega) (by omega)]; decide)]
    exact fst1_none n (p + 1) (fun j h1 h2 => h j (by omega) (by omega))
theorem fst1_some {w s : List Int} : ∀ (n : Nat) (p k : Int), p ≤ k → k < p + n → (∀ j : Int, p ≤ j → j < k → sta w s j = false) → sta w s k = true → fst1 w s n p = k
  | 0, p, k, h1, h2, _, _ => by omega
  | n + 1, p, k, h1, h2, h3, h4 => by
    unfold fst1
    by_cases e : p = k
    · subst e
      rw [if_pos h4]
    · rw [if_neg (by rw [h3 p (by omega) (by omega)]; decide)]
      exact fst1_some n (p + 1) k (by omega) (by omega) (fun j h5 h6 => h3 j (by omega) h6) h4
theorem lst1_none {w s : List Int} : ∀ (n : Nat) (p : Int), (∀ j : Int, 0 ≤ j → j ≤ p → sta w s j = false) → lst1 w s n p = -1
  | 0, _, _ => rfl
  | n + 1, p, h => by
    unfold lst1
    by_cases e : p < 0
    · rw [if_pos e]
    · rw [if_neg e, if_neg (by rw [h p (by omega) (by omega)]; decide)]
      exact lst1_none n (p - 1) (fun j h1 h2 => h j h1 (by omega))
theorem lst1_some {w s : List Int} : ∀ (n : Nat) (p k : Int), 0 ≤ k → k ≤ p → p < n → (∀ j : Int, k < j → j ≤ p → sta w s j = false) → sta w s k = true → lst1 w s n p = k
  | 0, p, k, h0, h1, h2, _, _ => by omega
  | n + 1, p, k, h0, h1, h2, h3, h4 => by
    unfold lst1
    rw [if_neg (by omega)]
    by_cases e : p = k
    · subst e
      rw [if_pos h4]
    · rw [if_neg (by rw [h3 p (by omega) (by omega)]; decide)]
      exact lst1_some n (p - 1) k h0 (by omega) (by omega) (fun j h5 h6 => h3 j h5 (by omega)) h4
theorem sta_k {w s : List Int} {p k : Int} (q : 0 ≤ p ∧ p + (s.length : Int) ≤ (w.length : Int) ∧ ∀ k : Nat, k < s.length → gt w (p + k) = gt s k) (h0 : 0 ≤ k) (h1 : k < (s.length : Int)) : gt w (p + k) = gt s k := by
  have h8 := q.2.2 k.toNat (by omega)
  have h7 : ((k.toNat : Nat) : Int) = k := by omega
  rw [h7] at h8
  exact h8
/-- what standsAt may have to pay: nothing where it reads nothing -/
def sc (x : Nat) (ua ub : List Int) (k0 : Int) : Nat := if ub.length = 0 ∨ (ua.length : Int) < k0 + ub.length then 0 else x
theorem sc_0 {x : Nat} {ua ub : List Int} {k0 : Int} (h : ub.length = 0 ∨ (ua.length : Int) < k0 + ub.length) : sc x ua ub k0 = 0 := if_pos h
theorem sc_x {x : Nat} {ua ub : List Int} {k0 : Int} (h : ¬ (ub.length = 0 ∨ (ua.length : Int) < k0 + ub.length)) : sc x ua ub k0 = x := if_neg h
theorem sc_le (x : Nat) (ua ub : List Int) (k0 : Int) : sc x ua ub k0 ≤ x := by
  unfold sc
  split <;> omega
set_option maxRecDepth 100000 in
set_option maxHeartbeats 4000000 in
theorem c_DK_standsAt (l : Launch) (G : ct_G) (f : dw_M) (sz : Nat) (d e0 a b : Nat) (ua ub : List Int) (k0 : Int) (hk00 : 0 ≤ k0) (hk01 : k0 < 100000) (hd : d ≤ 24) (he0 : e0 ≤ 24) (hta : tx G d f a ua) (htb : tx G e0 f b ub) : cn l y_DK_standsAt w_DK_standsAt (42) (960) G f sz [.ref a, .ref b, .int (iI k0)] (fun v f' => v = some (.int (iI (b2 (sta ua ub k0)))) ∧ exo G no1 f f' ∧ sc (pot f a + pot f b) ua ub k0 + (pot f' a + pot f' b) ≤ pot f a + pot f b) (4 * sc (pot f a + pot f b) ua ub k0) (140 * sc (pot f a + pot f b) ua ub k0) := by
  refine cn_of (own := "TextDesk") (nm := "standsAt") (ds := "(LTextDesk$Text;LTextDesk$Text;I)Z") (by decide) (Nat.le_of_ble_eq_true rfl) ?_
  intro p e s m args below meth c ls X hnm hr hlk hs0 hz hw hl
  have hx := X.1
  have hb := X.2.1
  have hl : lv_has ls 4 [(0, .ref a), (1, .ref b), (2, .int (iI k0))] := hl
  have hla := hta.len
  have hlb := htb.len
  refine lv_iload_n hx hb d_DK_standsAt_0 rfl (lv_at hl 2 rfl) ?_
  refine lv_aload_n hx hb d_DK_standsAt_1 rfl (lv_at hl 0 rfl) ?_
  refine st_DK_77 X hz hw hl.1 hta ⟨Nat.le_of_ble_eq_true rfl, Nat.le_of_ble_eq_true rfl⟩ ⟨by show 0 ≤ 4 * sc (pot f a + pot f b) ua ub k0; omega, by show 0 ≤ 140 * sc (pot f a + pot f b) ua ub k0; omega⟩ (Nat.le_of_ble_eq_true rfl) d_DK_standsAt_2 (fun H locs hw => ?_)
  refine W.eq (g2 := F0 m 5 ls [.int (iI ((ua.length : Int))), .int (iI k0)]) rfl ?_
  refine lv_aload_n hx hb d_DK_standsAt_5 rfl (lv_at hl 1 rfl) ?_
  refine st_DK_77 X hz hw hl.1 htb ⟨Nat.le_of_ble_eq_true rfl, Nat.le_of_ble_eq_true rfl⟩ ⟨by show 0 ≤ 4 * sc (pot f a + pot f b) ua ub k0; omega, by show 0 ≤ 140 * sc (pot f a + pot f b) ua ub k0; omega⟩ (Nat.le_of_ble_eq_true rfl) d_DK_standsAt_6 (fun H locs hw => ?_)
  refine W.eq (g2 := F0 m 9 ls [.int (iI ((ub.length : Int))), .int (iI ((ua.length : Int))), .int (iI k0)]) rfl ?_
  refine di_sub hx hb d_DK_standsAt_9 ?_
  refine di_icmp_le (tgt := 15) hx hb d_DK_standsAt_10 (by decide) ⟨by omega, by omega⟩ ⟨by omega, by omega⟩ (fun bq10 => ?_) (fun bq10 => ?_)
  · have hs1 : sc (pot f a + pot f b) ua ub k0 = 0 ∧ ub.length = 0 ∨ sc (pot f a + pot f b) ua ub k0 = pot f a + pot f b ∧ 0 < ub.length := by
      by_cases e : ub.length = 0
      · exact Or.inl ⟨sc_0 (Or.inl e), e⟩
      · exact Or.inr ⟨sc_x (by omega), by omega⟩
    refine lv_iconst (v := iI (0)) hx hb d_DK_standsAt_15 rfl ?_
    refine lv_istore_n (lv' := [(3, .int (iI 0)), (0, .ref a), (1, .ref b), (2, .int (iI k0))]) hx hb d_DK_standsAt_16 rfl hl (by decide) rfl (fun ls hl => ?_)
    have loop : ∀ (N : Nat) (k : Int) (ce : Nat) (sl : Nat) (f1 : dw_M) (H : Heap) (locs : List Loc) (ls : Array Slot), ((ub.length : Int) - k).toNat < N → 0 ≤ k → k ≤ (ub.length : Int) → (∀ j : Nat, (j : Int) < k → gt ua (k0 + j) = gt ub j) → exo G no1 f f1 → tx G d f1 a ua → tx G e0 f1 b ub → ce + 4 * (pot f1 a + pot f1 b) ≤ 4 * (pot f a + pot f b) → sl + 140 * (pot f1 a + pot f1 b) ≤ 140 * (pot f a + pot f b) → (k = 0 → ce = 0 ∧ sl = 0) → (0 < k → pot f1 a + pot f1 b = 0) → dw G.1 dk_cl (dw_A f sz) s.heap f1 H locs → lv_has ls 4 [(3, .int (iI k)), (0, .ref a), (1, .ref b), (2, .int (iI k0))] → W p l e { frames := 42, locals := 960, cells := 4 * sc (pot f a + pot f b) ua ub k0, slots := 140 * sc (pot f a + pot f b) ua ub k0 } s m args below meth c H locs (ce) (sl) (MQ below (ct_Q G f sz (fun v f' => v = some (.int (iI (b2 (sta ua ub k0)))) ∧ exo G no1 f f' ∧ sc (pot f a + pot f b) ua ub k0 + (pot f' a + pot f' b) ≤ pot f a + pot f b)) args s (4 * sc (pot f a + pot f b) ua ub k0) (140 * sc (pot f a + pot f b) ua ub k0) (dw_A f sz)) (F0 m 17 ls []) := by
      intro N
      induction N with
      | zero => intros; omega
      | succ N ih =>
        intro k ce sl f1 H locs ls hN hk0 hk1 hall hx1 hta1 htb1 hce hsl hc0 hc1 hw hl
        refine lv_iload_n hx hb d_DK_standsAt_17 rfl (lv_at hl 0 rfl) ?_
        refine lv_aload_n hx hb d_DK_standsAt_18 rfl (lv_at hl 2 rfl) ?_
        refine st_DK_77 X hz hw hl.1 htb1 ⟨Nat.le_of_ble_eq_true rfl, Nat.le_of_ble_eq_true rfl⟩ ⟨by show ce ≤ 4 * sc (pot f a + pot f b) ua ub k0; omega, by show sl ≤ 140 * sc (pot f a + pot f b) ua ub k0; omega⟩ (Nat.le_of_ble_eq_true rfl) d_DK_standsAt_19 (fun H locs hw => ?_)
        refine W.eq (g2 := F0 m 22 ls [.int (iI ((ub.length : Int))), .int (iI k)]) rfl ?_
        refine di_icmp_ge (tgt := 48) hx hb d_DK_standsAt_22 (by decide) ⟨by omega, by omega⟩ ⟨by omega, by omega⟩ (fun bq22 => ?_) (fun bq22 => ?_)
        · have h9 : sta ua ub k0 = true := decide_eq_true ⟨hk00, by omega, fun j hj => hall j (by omega)⟩
          have hs2 := sc_le (pot f a + pot f b) ua ub k0
          have q1 := exo_pot hx1 hta
          have q2 := exo_pot hx1 htb
          refine lv_iconst (v := iI (1)) hx hb d_DK_standsAt_48 rfl ?_
          exact cn_zret hx hb hr hlk hw rfl (⟨by rw [h9]; rfl, hx1, by omega⟩) (by omega) (by omega) d_DK_standsAt_49
        · have hsc : sc (pot f a + pot f b) ua ub k0 = pot f a + pot f b := sc_x (by omega)
          refine lv_aload_n hx hb d_DK_standsAt_25 rfl (lv_at hl 1 rfl) ?_
          refine lv_iload_n hx hb d_DK_standsAt_26 rfl (lv_at hl 3 rfl) ?_
          refine lv_iload_n hx hb d_DK_standsAt_27 rfl (lv_at hl 0 rfl) ?_
          refine di_add hx hb d_DK_standsAt_28 ?_
          have hra := gt_rng hta1.rng (k0 + k)
          have hrb := gt_rng htb1.rng k
          refine sg_DK_122 X hz hw hl.1 hd hta1 ⟨by omega, by omega⟩ ⟨Nat.le_of_ble_eq_true rfl, Nat.le_of_ble_eq_true rfl⟩ ⟨by show ce + 4 * pot f1 a ≤ 4 * sc (pot f a + pot f b) ua ub k0; omega, by show sl + 140 * pot f1 a ≤ 140 * sc (pot f a + pot f b) ua ub k0; omega⟩ (Nat.le_of_ble_eq_true rfl) d_DK_standsAt_29 (fun f2 H locs hx_f2 hp_f2 hw => ?_)
          refine W.eq (g2 := F0 m 32 ls [.int (iI (gt ua (k0 + k)))]) rfl ?_
          have hpb2 := exo_pot hx_f2 htb1
          have htb2 := hx_f2.2.1 _ _ _ htb1
          have hta2 := hx_f2.2.1 _ _ _ hta1
          refine lv_aload_n hx hb d_DK_standsAt_32 rfl (lv_at hl 2 rfl) ?_
          refine lv_iload_n hx hb d_DK_standsAt_33 rfl (lv_at hl 0 rfl) ?_
          refine sg_DK_122 X hz hw hl.1 he0 htb2 ⟨by omega, by omega⟩ ⟨Nat.le_of_ble_eq_true rfl, Nat.le_of_ble_eq_true rfl⟩ ⟨by show ce + 4 * pot f1 a + 4 * pot f2 b ≤ 4 * sc (pot f a + pot f b) ua ub k0; omega, by show sl + 140 * pot f1 a + 140 * pot f2 b ≤ 140 * sc (pot f a + pot f b) ua ub k0; omega⟩ (Nat.le_of_ble_eq_true rfl) d_DK_standsAt_34 (fun f3 H locs hx_f3 hp_f3 hw => ?_)
          refine W.eq (g2 := F0 m 37 ls [.int (iI (gt ub k)), .int (iI (gt ua (k0 + k)))]) rfl ?_
          have hpa3 := exo_pot hx_f3 hta2
          have htb3 := hx_f3.2.1 _ _ _ htb2
          have hta3 := hx_f3.2.1 _ _ _ hta2
          refine di_icmp_eq (tgt := 42) hx hb d_DK_standsAt_37 (by decide) ⟨by omega, by omega⟩ ⟨by omega, by omega⟩ (fun bq37 => ?_) (fun bq37 => ?_)
          · refine lv_iinc (v := iI (k + 1)) (lv' := [(3, .int (iI (k + 1))), (0, .ref a), (1, .ref b), (2, .int (iI k0))]) hx hb d_DK_standsAt_42 hl (k := 0) rfl (iI_add _ _) (by decide) rfl (fun ls hl => ?_)
            refine lv_goto (tgt := 17) hx hb d_DK_standsAt_45 (by decide) ?_
            exact ih (k + 1) (ce + 4 * pot f1 a + 4 * pot f2 b) (sl + 140 * pot f1 a + 140 * pot f2 b) _ _ _ _ (by omega) (by omega) (by omega) (fun j hj => by
              by_cases e : (j : Int) = k
              · rw [e]; exact bq37
              · exact hall j (by omega)) ((hx1.tr hx_f2).tr hx_f3) (hta3) (htb3) (by omega) (by omega) (by omega) (by omega) hw (lv_sub hl [0, 1, 2, 3] rfl)
          · have h9 : sta ua ub k0 = false := decide_eq_false (fun q => bq37 (sta_k q (by omega) (by omega)))
            refine lv_iconst (v := iI (0)) hx hb d_DK_standsAt_40 rfl ?_
            exact cn_zret hx hb hr hlk hw rfl (⟨by rw [h9]; rfl, (hx1.tr hx_f2).tr hx_f3, by omega⟩) (by omega) (by omega) d_DK_standsAt_41
    exact loop (((ub.length : Int) - 0).toNat + 1) (0) (0) (0) _ _ _ _ (by omega) (by omega) (by omega) (fun j hj => by omega) (exo.rf) (hta) (htb) (by omega) (by omega) (by omega) (by omega) hw (lv_sub hl [0, 1, 2, 3] rfl)
  · have hs0 : sc (pot f a + pot f b) ua ub k0 = 0 := sc_0 (Or.inr (by omega))
    have h9 : sta ua ub k0 = false := decide_eq_false (by omega)
    refine lv_iconst (v := iI (0)) hx hb d_DK_standsAt_13 rfl ?_
    exact cn_zret hx hb hr hlk hw rfl (⟨by rw [h9]; rfl, exo.rf, by omega⟩) (by omega) (by omega) d_DK_standsAt_14
set_option maxRecDepth 100000 in
set_option maxHeartbeats 4000000 in
theorem c_DK_firstPlace (l : Launch) (G : ct_G) (f : dw_M) (sz : Nat) (d e0 a b : Nat) (ua ub : List Int) (fr : Int) (hfr : iR fr) (hd : d ≤ 24) (he0 : e0 ≤ 24) (hta : tx G d f a ua) (htb : tx G e0 f b ub) : cn l y_DK_firstPlace w_DK_firstPlace (43) (990) G f sz [.ref a, .ref b, .int (iI fr)] (fun v f' => v = some (.int (iI (frst ua ub fr))) ∧ exo G no1 f f') (4 * (pot f a + pot f b)) (140 * (pot f a + pot f b)) := by
  refine cn_of (own := "TextDesk") (nm := "firstPlace") (ds := "(LTextDesk$Text;LTextDesk$Text;I)I") (by decide) (Nat.le_of_ble_eq_true rfl) ?_
  intro p e s m args below meth c ls X hnm hr hlk hs0 hz hw hl
  have hx := X.1
  have hb := X.2.1
  have hl : lv_has ls 5 [(0, .ref a), (1, .ref b), (2, .int (iI fr))] := hl
  have hla := hta.len
  have hlb := htb.len
  obtain ⟨hfr1, hfr2⟩ := hfr
  refine lv_aload_n hx hb d_DK_firstPlace_0 rfl (lv_at hl 0 rfl) ?_
  refine st_DK_77 X hz hw hl.1 hta ⟨Nat.le_of_ble_eq_true rfl, Nat.le_of_ble_eq_true rfl⟩ ⟨by show 0 ≤ 4 * (pot f a + pot f b); omega, by show 0 ≤ 140 * (pot f a + pot f b); omega⟩ (Nat.le_of_ble_eq_true rfl) d_DK_firstPlace_1 (fun H locs hw => ?_)
  refine W.eq (g2 := F0 m 4 ls [.int (iI ((ua.length : Int)))]) rfl ?_
  refine lv_aload_n hx hb d_DK_firstPlace_4 rfl (lv_at hl 1 rfl) ?_
  refine st_DK_77 X hz hw hl.1 htb ⟨Nat.le_of_ble_eq_true rfl, Nat.le_of_ble_eq_true rfl⟩ ⟨by show 0 ≤ 4 * (pot f a + pot f b); omega, by show 0 ≤ 140 * (pot f a + pot f b); omega⟩ (Nat.le_of_ble_eq_true rfl) d_DK_firstPlace_5 (fun H locs hw => ?_)
  refine W.eq (g2 := F0 m 8 ls [.int (iI ((ub.length : Int))), .int (iI ((ua.length : Int)))]) rfl ?_
  refine di_sub hx hb d_DK_firstPlace_8 ?_
  refine lv_istore_n (lv' := [(3, .int (iI ((ua.length : Int) - (ub.length : Int)))), (0, .ref a), (1, .ref b), (2, .int (iI fr))]) hx hb d_DK_firstPlace_9 rfl hl (by decide) rfl (fun ls hl => ?_)
  refine lv_iload_n hx hb d_DK_firstPlace_10 rfl (lv_at hl 3 rfl) ?_
  refine lv_iconst (v := iI (0)) hx hb d_DK_firstPlace_11 rfl ?_
  obtain ⟨lo, hlo⟩ : ∃ lo : Int, lo = if fr < 0 then 0 else fr := ⟨_, rfl⟩
  have hlo1 : 0 ≤ lo ∧ lo < 2147483648 := by rw [hlo]; split <;> omega
  refine di_max X hl.1 mw_519 ⟨by omega, by omega⟩ ⟨by omega, by omega⟩ (z := lo) (hlo.symm) (Nat.le_of_ble_eq_true rfl) (Nat.le_of_ble_eq_true rfl) (by show 0 ≤ 4 * (pot f a + pot f b); omega) (by show 0 ≤ 140 * (pot f a + pot f b); omega) d_DK_firstPlace_12 ?_
  refine lv_istore (lv' := [(4, .int (iI lo)), (3, .int (iI ((ua.length : Int) - (ub.length : Int)))), (0, .ref a), (1, .ref b), (2, .int (iI fr))]) hx hb d_DK_firstPlace_15 hl (by decide) rfl (fun ls hl => ?_)
  have loop : ∀ (N : Nat) (k : Int) (ce : Nat) (sl : Nat) (f1 : dw_M) (H : Heap) (locs : List Loc) (ls : Array Slot), ((ua.length : Int) + 1 - k).toNat < N → lo ≤ k → k < 2147483648 → (∀ j : Int, lo ≤ j → j < k → sta ua ub j = false) → exo G no1 f f1 → tx G d f1 a ua → tx G e0 f1 b ub → ce + 4 * (pot f1 a + pot f1 b) ≤ 4 * (pot f a + pot f b) → sl + 140 * (pot f1 a + pot f1 b) ≤ 140 * (pot f a + pot f b) → dw G.1 dk_cl (dw_A f sz) s.heap f1 H locs → lv_has ls 5 [(4, .int (iI k)), (3, .int (iI ((ua.length : Int) - (ub.length : Int)))), (0, .ref a), (1, .ref b)] → W p l e { frames := 43, locals := 990, cells := 4 * (pot f a + pot f b), slots := 140 * (pot f a + pot f b) } s m args below meth c H locs (ce) (sl) (MQ below (ct_Q G f sz (fun v f' => v = some (.int (iI (frst ua ub fr))) ∧ exo G no1 f f')) args s (4 * (pot f a + pot f b)) (140 * (pot f a + pot f b)) (dw_A f sz)) (F0 m 17 ls []) := by
    intro N
    induction N with
    | zero => intros; omega
    | succ N ih =>
      intro k ce sl f1 H locs ls hN hk0 hkb hall hx1 hta1 htb1 hce hsl hw hl
      refine lv_iload hx hb d_DK_firstPlace_17 (lv_at hl 0 rfl) ?_
      refine lv_iload_n hx hb d_DK_firstPlace_19 rfl (lv_at hl 1 rfl) ?_
      refine di_icmp_gt (tgt := 42) hx hb d_DK_firstPlace_20 (by decide) ⟨by omega, by omega⟩ ⟨by omega, by omega⟩ (fun bq20 => ?_) (fun bq20 => ?_)
      · have hdef : frst ua ub fr = fst1 ua ub ((ua.length : Int) - ub.length - lo + 1).toNat lo := by unfold frst; rw [← hlo]
        refine lv_iconst (v := iI (-1)) hx hb d_DK_firstPlace_42 rfl ?_
        exact cn_iret hx hb hr hlk hw  (⟨by rw [hdef, fst1_none _ _ (fun j h1 h2 => hall j h1 (by omega))], hx1⟩) (by omega) (by omega) d_DK_firstPlace_43
      · refine lv_aload_n hx hb d_DK_firstPlace_23 rfl (lv_at hl 2 rfl) ?_
        refine lv_aload_n hx hb d_DK_firstPlace_24 rfl (lv_at hl 3 rfl) ?_
        refine lv_iload hx hb d_DK_firstPlace_25 (lv_at hl 0 rfl) ?_
        have hscl := sc_le (pot f1 a + pot f1 b) ua ub k
        refine cs_DK_118 X hz hw hl.1 (c_DK_standsAt l G f1 _ d e0 a b ua ub k (by omega) (by omega) hd he0 hta1 htb1) ⟨Nat.le_of_ble_eq_true rfl, Nat.le_of_ble_eq_true rfl⟩ ⟨by show ce + 4 * sc (pot f1 a + pot f1 b) ua ub k ≤ 4 * (pot f a + pot f b); omega, by show sl + 140 * sc (pot f1 a + pot f1 b) ua ub k ≤ 140 * (pot f a + pot f b); omega⟩ (Nat.le_of_ble_eq_true rfl) d_DK_firstPlace_27 (fun v f2 H locs hp hw hsz9 hkp9 hdm9 => ?_)
        obtain ⟨rfl, hx_f2, hp2⟩ := hp
        refine W.eq (g2 := F0 m 30 ls [.int (iI (b2 (sta ua ub k)))]) rfl ?_
        have hb1 := b2_01 (sta ua ub k)
        have htb2 := hx_f2.2.1 _ _ _ htb1
        have hta2 := hx_f2.2.1 _ _ _ hta1
        refine di_if_eq (tgt := 36) hx hb d_DK_firstPlace_30 (by decide) ⟨by omega, by omega⟩ (fun bq30 => ?_) (fun bq30 => ?_)
        · refine lv_iinc (v := iI (k + 1)) (lv' := [(4, .int (iI (k + 1))), (3, .int (iI ((ua.length : Int) - (ub.length : Int)))), (0, .ref a), (1, .ref b)]) hx hb d_DK_firstPlace_36 hl (k := 0) rfl (iI_add _ _) (by decide) rfl (fun ls hl => ?_)
          refine lv_goto (tgt := 17) hx hb d_DK_firstPlace_39 (by decide) ?_
          exact ih (k + 1) (ce + 4 * sc (pot f1 a + pot f1 b) ua ub k) (sl + 140 * sc (pot f1 a + pot f1 b) ua ub k) _ _ _ _ (by omega) (by omega) (by omega) (fun j h1 h2 => by
            by_cases e : j = k
            · rw [e]; exact b2_0 bq30
            · exact hall j (by omega) (by omega)) (hx1.tr hx_f2) (hta2) (htb2) (by omega) (by omega) hw (lv_sub hl [0, 1, 2, 3] rfl)
        · have hdef : frst ua ub fr = fst1 ua ub ((ua.length : Int) - ub.length - lo + 1).toNat lo := by unfold frst; rw [← hlo]
          refine lv_iload hx hb d_DK_firstPlace_33 (lv_at hl 0 rfl) ?_
          exact cn_iret hx hb hr hlk hw  (⟨by rw [hdef, fst1_some _ lo k (by omega) (by omega) (fun j h1 h2 => hall j h1 (by omega)) (b2_1 bq30)], hx1.tr hx_f2⟩) (by omega) (by omega) d_DK_firstPlace_35
  exact loop (((ua.length : Int) + 1 - lo).toNat + 1) (lo) (0) (0) _ _ _ _ (by omega) (Int.le_refl _) (by omega) (fun j h1 h2 => by omega) (exo.rf) (hta) (htb) (by omega) (by omega) hw (lv_sub hl [0, 1, 2, 3] rfl)
set_option maxRecDepth 100000 in
set_option maxHeartbeats 4000000 in
theorem c_DK_lastPlace (l : Launch) (G : ct_G) (f : dw_M) (sz : Nat) (d e0 a b : Nat) (ua ub : List Int) (fr : Int) (hfr : iR fr) (hd : d ≤ 24) (he0 : e0 ≤ 24) (hta : tx G d f a ua) (htb : tx G e0 f b ub) : cn l y_DK_lastPlace w_DK_lastPlace (43) (990) G f sz [.ref a, .ref b, .int (iI fr)] (fun v f' => v = some (.int (iI (last ua ub fr))) ∧ exo G no1 f f') (4 * (pot f a + pot f b)) (140 * (pot f a + pot f b)) := by
  refine cn_of (own := "TextDesk") (nm := "lastPlace") (ds := "(LTextDesk$Text;LTextDesk$Text;I)I") (by decide) (Nat.le_of_ble_eq_true rfl) ?_
  intro p e s m args below meth c ls X hnm hr hlk hs0 hz hw hl
  have hx := X.1
  have hb := X.2.1
  have hl : lv_has ls 5 [(0, .ref a), (1, .ref b), (2, .int (iI fr))] := hl
  have hla := hta.len
  have hlb := htb.len
  obtain ⟨hfr1, hfr2⟩ := hfr
  refine lv_aload_n hx hb d_DK_lastPlace_0 rfl (lv_at hl 0 rfl) ?_
  refine st_DK_77 X hz hw hl.1 hta ⟨Nat.le_of_ble_eq_true rfl, Nat.le_of_ble_eq_true rfl⟩ ⟨by show 0 ≤ 4 * (pot f a + pot f b); omega, by show 0 ≤ 140 * (pot f a + pot f b); omega⟩ (Nat.le_of_ble_eq_true rfl) d_DK_lastPlace_1 (fun H locs hw => ?_)
  refine W.eq (g2 := F0 m 4 ls [.int (iI ((ua.length : Int)))]) rfl ?_
  refine lv_aload_n hx hb d_DK_lastPlace_4 rfl (lv_at hl 1 rfl) ?_
  refine st_DK_77 X hz hw hl.1 htb ⟨Nat.le_of_ble_eq_true rfl, Nat.le_of_ble_eq_true rfl⟩ ⟨by show 0 ≤ 4 * (pot f a + pot f b); omega, by show 0 ≤ 140 * (pot f a + pot f b); omega⟩ (Nat.le_of_ble_eq_true rfl) d_DK_lastPlace_5 (fun H locs hw => ?_)
  refine W.eq (g2 := F0 m 8 ls [.int (iI ((ub.length : Int))), .int (iI ((ua.length : Int)))]) rfl ?_
  refine di_sub hx hb d_DK_lastPlace_8 ?_
  refine lv_istore_n (lv' := [(3, .int (iI ((ua.length : Int) - (ub.length : Int)))), (0, .ref a), (1, .ref b), (2, .int (iI fr))]) hx hb d_DK_lastPlace_9 rfl hl (by decide) rfl (fun ls hl => ?_)
  refine lv_iload_n hx hb d_DK_lastPlace_10 rfl (lv_at hl 3 rfl) ?_
  refine lv_iload_n hx hb d_DK_lastPlace_11 rfl (lv_at hl 0 rfl) ?_
  obtain ⟨lo, hlo⟩ : ∃ lo : Int, lo = if (ua.length : Int) - (ub.length : Int) < fr then (ua.length : Int) - (ub.length : Int) else fr := ⟨_, rfl⟩
  have hlo1 : -2147483648 ≤ lo ∧ lo ≤ (ua.length : Int) - (ub.length : Int) := by rw [hlo]; split <;> omega
  refine di_min X hl.1 mw_505 ⟨by omega, by omega⟩ ⟨by omega, by omega⟩ (z := lo) (hlo.symm) (Nat.le_of_ble_eq_true rfl) (Nat.le_of_ble_eq_true rfl) (by show 0 ≤ 4 * (pot f a + pot f b); omega) (by show 0 ≤ 140 * (pot f a + pot f b); omega) d_DK_lastPlace_12 ?_
  refine lv_istore (lv' := [(4, .int (iI lo)), (3, .int (iI ((ua.length : Int) - (ub.length : Int)))), (0, .ref a), (1, .ref b), (2, .int (iI fr))]) hx hb d_DK_lastPlace_15 hl (by decide) rfl (fun ls hl => ?_)
  have loop : ∀ (N : Nat) (k : Int) (ce : Nat) (sl : Nat) (f1 : dw_M) (H : Heap) (locs : List Loc) (ls : Array Slot), (k + 1).toNat < N → k ≤ lo → -2147483648 ≤ k → (∀ j : Int, k < j → j ≤ lo → sta ua ub j = false) → exo G no1 f f1 → tx G d f1 a ua → tx G e0 f1 b ub → ce + 4 * (pot f1 a + pot f1 b) ≤ 4 * (pot f a + pot f b) → sl + 140 * (pot f1 a + pot f1 b) ≤ 140 * (pot f a + pot f b) → dw G.1 dk_cl (dw_A f sz) s.heap f1 H locs → lv_has ls 5 [(4, .int (iI k)), (0, .ref a), (1, .ref b)] → W p l e { frames := 43, locals := 990, cells := 4 * (pot f a + pot f b), slots := 140 * (pot f a + pot f b) } s m args below meth c H locs (ce) (sl) (MQ below (ct_Q G f sz (fun v f' => v = some (.int (iI (last ua ub fr))) ∧ exo G no1 f f')) args s (4 * (pot f a + pot f b)) (140 * (pot f a + pot f b)) (dw_A f sz)) (F0 m 17 ls []) := by
    intro N
    induction N with
    | zero => intros; omega
    | succ N ih =>
      intro k ce sl f1 H locs ls hN hk0 hkb hall hx1 hta1 htb1 hce hsl hw hl
      refine lv_iload hx hb d_DK_lastPlace_17 (lv_at hl 0 rfl) ?_
      refine di_if_lt (tgt := 41) hx hb d_DK_lastPlace_19 (by decide) ⟨by omega, by omega⟩ (fun bq19 => ?_) (fun bq19 => ?_)
      · have hdef : last ua ub fr = lst1 ua ub (ua.length + 1) lo := by unfold last; rw [← hlo]
        refine lv_iconst (v := iI (-1)) hx hb d_DK_lastPlace_41 rfl ?_
        exact cn_iret hx hb hr hlk hw  (⟨by rw [hdef, lst1_none _ _ (fun j h1 h2 => hall j (by omega) h2)], hx1⟩) (by omega) (by omega) d_DK_lastPlace_42
      · refine lv_aload_n hx hb d_DK_lastPlace_22 rfl (lv_at hl 1 rfl) ?_
        refine lv_aload_n hx hb d_DK_lastPlace_23 rfl (lv_at hl 2 rfl) ?_
        refine lv_iload hx hb d_DK_lastPlace_24 (lv_at hl 0 rfl) ?_
        have hscl := sc_le (pot f1 a + pot f1 b) ua ub k
        refine cs_DK_118 X hz hw hl.1 (c_DK_standsAt l G f1 _ d e0 a b ua ub k (by omega) (by omega) hd he0 hta1 htb1) ⟨Nat.le_of_ble_eq_true rfl, Nat.le_of_ble_eq_true rfl⟩ ⟨by show ce + 4 * sc (pot f1 a + pot f1 b) ua ub k ≤ 4 * (pot f a + pot f b); omega, by show sl + 140 * sc (pot f1 a + pot f1 b) ua ub k ≤ 140 * (pot f a + pot f b); omega⟩ (Nat.le_of_ble_eq_true rfl) d_DK_lastPlace_26 (fun v f2 H locs hp hw hsz9 hkp9 hdm9 => ?_)
        obtain ⟨rfl, hx_f2, hp2⟩ := hp
        refine W.eq (g2 := F0 m 29 ls [.int (iI (b2 (sta ua ub k)))]) rfl ?_
        have hb1 := b2_01 (sta ua ub k)
        have htb2 := hx_f2.2.1 _ _ _ htb1
        have hta2 := hx_f2.2.1 _ _ _ hta1
        refine di_if_eq (tgt := 35) hx hb d_DK_lastPlace_29 (by decide) ⟨by omega, by omega⟩ (fun bq29 => ?_) (fun bq29 => ?_)
        · refine lv_iinc (v := iI (k + (-1))) (lv' := [(4, .int (iI (k + (-1)))), (0, .ref a), (1, .ref b)]) hx hb d_DK_lastPlace_35 hl (k := 0) rfl (iI_add _ _) (by decide) rfl (fun ls hl => ?_)
          refine lv_goto (tgt := 17) hx hb d_DK_lastPlace_38 (by decide) ?_
          exact ih (k + (-1)) (ce + 4 * sc (pot f1 a + pot f1 b) ua ub k) (sl + 140 * sc (pot f1 a + pot f1 b) ua ub k) _ _ _ _ (by omega) (by omega) (by omega) (fun j h1 h2 => by
            by_cases e : j = k
            · rw [e]; exact b2_0 bq29
            · exact hall j (by omega) (by omega)) (hx1.tr hx_f2) (hta2) (htb2) (by omega) (by omega) hw (lv_sub hl [0, 1, 2] rfl)
        · have hdef : last ua ub fr = lst1 ua ub (ua.length + 1) lo := by unfold last; rw [← hlo]
          refine lv_iload hx hb d_DK_lastPlace_32 (lv_at hl 0 rfl) ?_
          exact cn_iret hx hb hr hlk hw  (⟨by rw [hdef, lst1_some _ lo k (by omega) (by omega) (by omega) (fun j h1 h2 => hall j (by omega) h2) (b2_1 bq29)], hx1.tr hx_f2⟩) (by omega) (by omega) d_DK_lastPlace_34
  exact loop ((lo + 1).toNat + 1) (lo) (0) (0) _ _ _ _ (by omega) (Int.le_refl _) (by omega) (fun j h1 h2 => by omega) (exo.rf) (hta) (htb) (by omega) (by omega) hw (lv_sub hl [0, 2, 3] rfl)
end
section
/-! THE DESK: its cells and what they mean. T: the texts, Y: the symbols' texts, B: the builder, Z: the bytes, D: the draft. -/
def dkS (G : ct_G) (f : dw_M) (x ta sa yr dc bu dr qy qb qd : Nat) (gT gS : Nat → Option Nat) (c0 w0 : Int32) (T Y : List (List Int)) (B Z D : List Int) (sB sZ sD : Int) : Prop :=
  f x = some (.inr (5, [.ref ta, .int (iI T.length), .ref sa, .int (iI Y.length), .ref yr, .ref dc, .ref bu, .ref dr])) ∧ f ta = some (.inl (G.2.1 3, 24, .inr (.inr (.inr (.inr gT))))) ∧ f sa = some (.inl (G.2.1 3, 16, .inr (.inr (.inr (.inr gS))))) ∧ f dc = some (.inr (0, [.int c0, .int w0])) ∧
  (T.length ≤ 24 ∧ Y.length ≤ 16 ∧ ta ≠ sa) ∧ (∀ i, i < T.length → ∃ t, gT i = some t ∧ tx G i f t (T.getD i [])) ∧ (∀ i, i < Y.length → ∃ t, gS i = some t ∧ tx G 24 f t (Y.getD i [])) ∧
  (rw G f yr qy 200 Z sZ ∧ rw G f bu qb 60 B sB ∧ rw G f dr qd 60 D sD) ∧ (bu ≠ dr ∧ bu ≠ yr ∧ dr ≠ yr ∧ qb ≠ qd ∧ qb ≠ qy ∧ qd ≠ qy) ∧ (∀ u ∈ B, 0 ≤ u ∧ u < 65536) ∧ (∀ z ∈ Z, 0 ≤ z ∧ z < 256)
def dkI (G : ct_G) (f : dw_M) (x : Nat) (T Y : List (List Int)) (B Z : List Int) : Prop :=
  ∃ (ta sa yr dc bu dr qy qb qd : Nat) (gT gS : Nat → Option Nat) (c0 w0 : Int32) (D : List Int) (sB sZ sD : Int), dkS G f x ta sa yr dc bu dr qy qb qd gT gS c0 w0 T Y B Z D sB sZ sD
section DS
variable {G : ct_G} {f f' : dw_M} {x ta sa yr dc bu dr qy qb qd : Nat} {gT gS : Nat → Option Nat} {c0 w0 : Int32} {T Y : List (List Int)} {B Z D : List Int} {sB sZ sD : Int}
theorem dkS.I (h : dkS G f x ta sa yr dc bu dr qy qb qd gT gS c0 w0 T Y B Z D sB sZ sD) : dkI G f x T Y B Z := ⟨ta, sa, yr, dc, bu, dr, qy, qb, qd, gT, gS, c0, w0, D, sB, sZ, sD, h⟩
/-- texts get flat copies, the draft goes on: the desk stays -/
theorem dkS.draft {D' : List Int} {sD' : Int} (h : dkS G f x ta sa yr dc bu dr qy qb qd gT gS c0 w0 T Y B Z D sB sZ sD) (hx : exo G (fun a => a = dr ∨ a = qd) f f') (hd : rw G f' dr qd 60 D' sD') : dkS G f' x ta sa yr dc bu dr qy qb qd gT gS c0 w0 T Y B Z D' sB sZ sD' := by
  obtain ⟨h1, h2, h3, h4, h5, h6, h7, ⟨h8, h9, h10⟩, ⟨n1, n2, n3, n4, n5, n6⟩, h11⟩ := h
  obtain ⟨g, e1, e2, e3⟩ := h10
  have nn : ∀ {a : Nat} {z : va_E}, f a = some z → z ≠ .inr (4, [.ref qd, .int (iI D.length), .int (iI sD)]) → z ≠ .inl (G.2.1 0, 60, .inl g) → ¬ (a = dr ∨ a = qd) := by
    intro a z ha z1 z2 q
    rcases q with rfl | rfl
    · exact dw_ne ha e1 z1 rfl
    · exact dw_ne ha e2 z2 rfl
  refine ⟨hx.1 _ _ h1 (nn h1 (by simp) (by simp)) (fun fs => by simp), ?_, ?_, hx.1 _ _ h4 (nn h4 (by simp) (by simp)) (fun fs => by simp), h5, fun i hi => ?_, fun i hi => ?_, ⟨hx.rw h8 ?_ ?_, hx.rw h9 ?_ ?_, hd⟩, ⟨n1, n2, n3, n4, n5, n6⟩, h11⟩
  · exact hx.1 _ _ h2 (nn h2 (by simp) (by simp)) (fun fs => by simp)
  · exact hx.1 _ _ h3 (nn h3 (by simp) (by simp)) (fun fs => by simp)
  · obtain ⟨t, a1, a2⟩ := h6 i hi
    exact ⟨t, a1, hx.2.1 _ _ _ a2⟩
  · obtain ⟨t, a1, a2⟩ := h7 i hi
    exact ⟨t, a1, hx.2.1 _ _ _ a2⟩
  · obtain ⟨g', k1, k2, k3⟩ := h8
    intro q
    rcases q with q | q
    · exact n3 q.symm
    · exact dw_ne k1 e2 (by simp) q
  · obtain ⟨g', k1, k2, k3⟩ := h8
    intro q
    rcases q with q | q
    · exact dw_ne k2 e1 (by simp) q
    · exact n6 q.symm
  · obtain ⟨g', k1, k2, k3⟩ := h9
    intro q
    rcases q with q | q
    · exact n1 q
    · exact dw_ne k1 e2 (by simp) q
  · obtain ⟨g', k1, k2, k3⟩ := h9
    intro q
    rcases q with q | q
    · exact dw_ne k2 e1 (by simp) q
    · exact n4 q
theorem dkS.read (h : dkS G f x ta sa yr dc bu dr qy qb qd gT gS c0 w0 T Y B Z D sB sZ sD) (hx : exo G no1 f f') : dkS G f' x ta sa yr dc bu dr qy qb qd gT gS c0 w0 T Y B Z D sB sZ sD :=
  h.draft (hx.mono (fun _ z => z.elim)) (hx.rw h.2.2.2.2.2.2.2.1.2.2 (fun z => z.elim) (fun z => z.elim))
/-- row cells are pairwise apart -/
theorem dkS.ne (h : dkS G f x ta sa yr dc bu dr qy qb qd gT gS c0 w0 T Y B Z D sB sZ sD) : dr ≠ qb ∧ dr ≠ qy ∧ qd ≠ bu ∧ qd ≠ yr ∧ bu ≠ qy ∧ qb ≠ yr := by
  obtain ⟨⟨g1, a1, a2, -⟩, ⟨g2, b1, b2, -⟩, ⟨g3, d1, d2, -⟩⟩ := h.2.2.2.2.2.2.2.1
  exact ⟨dw_ne d1 b2 (by simp), dw_ne d1 a2 (by simp), dw_ne d2 b1 (by simp), dw_ne d2 a1 (by simp), dw_ne b1 a2 (by simp), dw_ne b2 a1 (by simp)⟩
/-- the rows go on, texts get flat copies -/
theorem dkS.rows {B' Z' D' : List Int} {sB' sZ' sD' : Int} (h : dkS G f x ta sa yr dc bu dr qy qb qd gT gS c0 w0 T Y B Z D sB sZ sD) (hx : exo G (fun a => a = dr ∨ a = qd ∨ a = bu ∨ a = qb ∨ a = yr ∨ a = qy) f f') (hy : rw G f' yr qy 200 Z' sZ') (hb : rw G f' bu qb 60 B' sB') (hd : rw G f' dr qd 60 D' sD') (rB : ∀ u ∈ B', 0 ≤ u ∧ u < 65536) (rZ : ∀ z ∈ Z', 0 ≤ z ∧ z < 256) : dkS G f' x ta sa yr dc bu dr qy qb qd gT gS c0 w0 T Y B' Z' D' sB' sZ' sD' := by
  obtain ⟨h1, h2, h3, h4, h5, h6, h7, ⟨⟨g1, a1, a2, -⟩, ⟨g2, b1, b2, -⟩, ⟨g3, d1, d2, -⟩⟩, h9, h11⟩ := h
  have nn : ∀ {a : Nat} {z : va_E}, f a = some z → (∀ fs, z ≠ .inr (4, fs)) → (∀ q, z ≠ .inl (G.2.1 0, q)) → ¬ (a = dr ∨ a = qd ∨ a = bu ∨ a = qb ∨ a = yr ∨ a = qy) := by
    intro a z ha z1 z2 q
    rcases q with rfl | rfl | rfl | rfl | rfl | rfl
    · exact dw_ne ha d1 (z1 _) rfl
    · exact dw_ne ha d2 (z2 _) rfl
    · exact dw_ne ha b1 (z1 _) rfl
    · exact dw_ne ha b2 (z2 _) rfl
    · exact dw_ne ha a1 (z1 _) rfl
    · exact dw_ne ha a2 (z2 _) rfl
  refine ⟨hx.1 _ _ h1 (nn h1 (fun fs => by simp) (fun q => by simp)) (fun fs => by simp), ?_, ?_, hx.1 _ _ h4 (nn h4 (fun fs => by simp) (fun q => by simp)) (fun fs => by simp), h5, fun i hi => ?_, fun i hi => ?_, ⟨hy, hb, hd⟩, h9, rB, rZ⟩
  · refine hx.1 _ _ h2 (fun q => ?_) (fun fs => by simp)
    rcases q with q | q | q | q | q | q
    · exact dw_ne h2 d1 (by simp) q
    · exact dw_ne h2 d2 (by simp) q
    · exact dw_ne h2 b1 (by simp) q
    · exact dw_ne h2 b2 (by simp) q
    · exact dw_ne h2 a1 (by simp) q
    · exact dw_ne h2 a2 (by simp) q
  · refine hx.1 _ _ h3 (fun q => ?_) (fun fs => by simp)
    rcases q with q | q | q | q | q | q
    · exact dw_ne h3 d1 (by simp) q
    · exact dw_ne h3 d2 (by simp) q
    · exact dw_ne h3 b1 (by simp) q
    · exact dw_ne h3 b2 (by simp) q
    · exact dw_ne h3 a1 (by simp) q
    · exact dw_ne h3 a2 (by simp) q
  · obtain ⟨t, a1, a2⟩ := h6 i hi
    exact ⟨t, a1, hx.2.1 _ _ _ a2⟩
  · obtain ⟨t, a1, a2⟩ := h7 i hi
    exact ⟨t, a1, hx.2.1 _ _ _ a2⟩
theorem dkS.bld {B' : List Int} {sB' : Int} (h : dkS G f x ta sa yr dc bu dr qy qb qd gT gS c0 w0 T Y B Z D sB sZ sD) (hx : exo G (fun a => a = bu ∨ a = qb) f f') (hb : rw G f' bu qb 60 B' sB') (rB : ∀ u ∈ B', 0 ≤ u ∧ u < 65536) : dkS G f' x ta sa yr dc bu dr qy qb qd gT gS c0 w0 T Y B' Z D sB' sZ sD := by
  obtain ⟨e1, e2, e3, e4, e5, e6⟩ := h.ne
  obtain ⟨n1, n2, n3, n4, n5, n6⟩ := h.2.2.2.2.2.2.2.2.1
  refine h.rows (hx.mono (fun a z => by rcases z with z | z; exact Or.inr (Or.inr (Or.inl z)); exact Or.inr (Or.inr (Or.inr (Or.inl z))))) (hx.rw h.2.2.2.2.2.2.2.1.1 ?_ ?_) hb (hx.rw h.2.2.2.2.2.2.2.1.2.2 ?_ ?_) rB h.2.2.2.2.2.2.2.2.2.2
  · intro z; rcases z with z | z; exact n2 z.symm; exact e6 z.symm
  · intro z; rcases z with z | z; exact e5 z.symm; exact n5 z.symm
  · intro z; rcases z with z | z; exact n1 z.symm; exact e1 z
  · intro z; rcases z with z | z; exact e3 z; exact n4 z.symm
theorem dkS.byt {Z' : List Int} {sZ' : Int} (h : dkS G f x ta sa yr dc bu dr qy qb qd gT gS c0 w0 T Y B Z D sB sZ sD) (hx : exo G (fun a => a = yr ∨ a = qy) f f') (hy : rw G f' yr qy 200 Z' sZ') (rZ : ∀ z ∈ Z', 0 ≤ z ∧ z < 256) : dkS G f' x ta sa yr dc bu dr qy qb qd gT gS c0 w0 T Y B Z' D sB sZ' sD := by
  obtain ⟨e1, e2, e3, e4, e5, e6⟩ := h.ne
  obtain ⟨n1, n2, n3, n4, n5, n6⟩ := h.2.2.2.2.2.2.2.2.1
  refine h.rows (hx.mono (fun a z => by rcases z with z | z; exact Or.inr (Or.inr (Or.inr (Or.inr (Or.inl z)))); exact Or.inr (Or.inr (Or.inr (Or.inr (Or.inr z)))))) hy (hx.rw h.2.2.2.2.2.2.2.1.2.1 ?_ ?_) (hx.rw h.2.2.2.2.2.2.2.1.2.2 ?_ ?_) h.2.2.2.2.2.2.2.2.2.1 rZ
  · intro z; rcases z with z | z; exact n2 z; exact e5 z
  · intro z; rcases z with z | z; exact e6 z; exact n5 z
  · intro z; rcases z with z | z; exact n3 z; exact e2 z
  · intro z; rcases z with z | z; exact e4 z; exact n6 z
/-- every cell of the desk stays -/
theorem dkS.more (h : dkS G f x ta sa yr dc bu dr qy qb qd gT gS c0 w0 T Y B Z D sB sZ sD) (hm : ∀ a z, f a = some z → f' a = some z) : dkS G f' x ta sa yr dc bu dr qy qb qd gT gS c0 w0 T Y B Z D sB sZ sD := h.read (exo_more hm)
/-- a new text is kept -/
theorem dkS.keep {t : Nat} {us : List Int} (hG : okG G) (h : dkS G f x ta sa yr dc bu dr qy qb qd gT gS c0 w0 T Y B Z D sB sZ sD) (hT : T.length < 24) (ht : tx G T.length f t us) (h1 : f' x = some (.inr (5, [.ref ta, .int (iI ((T.length : Int) + 1)), .ref sa, .int (iI Y.length), .ref yr, .ref dc, .ref bu, .ref dr]))) (h2 : f' ta = some (.inl (G.2.1 3, 24, .inr (.inr (.inr (.inr (va_up gT T.length (some t)))))))) (hk : ∀ a, a ≠ x → a ≠ ta → f' a = f a) : dkS G f' x ta sa yr dc bu dr qy qb qd (va_up gT T.length (some t)) gS c0 w0 (T ++ [us]) Y B Z D sB sZ sD := by
  obtain ⟨a1, a2, a3, a4, a5, a6, a7, ⟨a8, a9, a10⟩, a11, a12⟩ := h
  have hag : ∀ a z, f a = some z → tcl G z → f' a = some z := by
    intro a z ha hz
    rw [hk a (fun e => ?_) (fun e => ?_)]
    · exact ha
    · subst e
      rw [a1] at ha
      cases ha
      rcases hz with ⟨i, fs, e, e1, e2⟩ | ⟨z, e⟩ | ⟨z, e⟩ <;> cases e
      omega
    · subst e
      rw [a2] at ha
      cases ha
      rcases hz with ⟨i, fs, e, e1, e2⟩ | ⟨z, e⟩ | ⟨z, e⟩
      · cases e
      · exact hG.2.2.2.1 (congrArg Prod.fst (Sum.inl.inj e))
      · exact hG.2.2.2.2 (congrArg Prod.fst (Sum.inl.inj e))
  have hr : ∀ {r q n : Nat} {us : List Int} {sp : Int}, rw G f r q n us sp → rw G f' r q n us sp := by
    intro r q n us sp hr
    obtain ⟨g, b1, b2, b3⟩ := hr
    refine ⟨g, ?_, ?_, b3⟩
    · rw [hk r (dw_ne b1 a1 (by simp)) (dw_ne b1 a2 (by simp))]; exact b1
    · rw [hk q (dw_ne b2 a1 (by simp)) (fun e => by
        subst e
        rw [a2] at b2
        exact hG.2.2.1 (congrArg Prod.fst (Sum.inl.inj (Option.some.inj b2))).symm)]; exact b2
  have e1 : (((T ++ [us]).length : Nat) : Int) = (T.length : Int) + 1 := by simp
  refine ⟨by rw [h1, e1], h2, ?_, ?_, ⟨by simp; omega, a5.2⟩, fun i hi => ?_, fun i hi => ?_, ⟨hr a8, hr a9, hr a10⟩, a11, a12⟩
  · rw [hk sa (dw_ne a3 a1 (by simp)) (Ne.symm a5.2.2)]; exact a3
  · rw [hk dc (dw_ne a4 a1 (by simp)) (dw_ne a4 a2 (by simp))]; exact a4
  · by_cases e : i = T.length
    · subst e
      refine ⟨t, va_up_self _ _ _, ?_⟩
      rw [List.getD_eq_getElem?_getD, List.getElem?_append_right (Nat.le_refl _)]
      simp only [Nat.sub_self, List.getElem?_cons_zero, Option.getD_some]
      exact tx.agree hag ht
    · have hi2 : i < T.length := by simp at hi; omega
      obtain ⟨t', b1, b2⟩ := a6 i hi2
      refine ⟨t', by rw [va_up_ne _ _ e]; exact b1, ?_⟩
      rw [List.getD_eq_getElem?_getD, List.getElem?_append_left hi2, ← List.getD_eq_getElem?_getD]
      exact tx.agree hag b2
  · obtain ⟨t', b1, b2⟩ := a7 i hi
    exact ⟨t', b1, tx.agree hag b2⟩
/-- only the desk's own cell changes: builder and draft change places -/
theorem dkS.swap (h : dkS G f x ta sa yr dc bu dr qy qb qd gT gS c0 w0 T Y B Z D sB sZ sD) (h1 : f' x = some (.inr (5, [.ref ta, .int (iI T.length), .ref sa, .int (iI Y.length), .ref yr, .ref dc, .ref dr, .ref bu]))) (hk : ∀ a, a ≠ x → f' a = f a) (rD : ∀ u ∈ D, 0 ≤ u ∧ u < 65536) : dkS G f' x ta sa yr dc dr bu qy qd qb gT gS c0 w0 T Y D Z B sD sZ sB := by
  obtain ⟨a1, a2, a3, a4, a5, a6, a7, ⟨a8, a9, a10⟩, ⟨n1, n2, n3, n4, n5, n6⟩, a12, a13⟩ := h
  have hag : ∀ a z, f a = some z → tcl G z → f' a = some z := by
    intro a z ha hz
    rw [hk a (fun e => ?_)]
    · exact ha
    · subst e
      rw [a1] at ha
      cases ha
      rcases hz with ⟨i, fs, e, e1, e2⟩ | ⟨z, e⟩ | ⟨z, e⟩ <;> cases e
      omega
  have hr : ∀ {r q n : Nat} {us : List Int} {sp : Int}, rw G f r q n us sp → rw G f' r q n us sp := by
    intro r q n us sp hr
    obtain ⟨g, b1, b2, b3⟩ := hr
    refine ⟨g, ?_, ?_, b3⟩
    · rw [hk r (dw_ne b1 a1 (by simp))]; exact b1
    · rw [hk q (dw_ne b2 a1 (by simp))]; exact b2
  refine ⟨h1, ?_, ?_, ?_, a5, fun i hi => ?_, fun i hi => ?_, ⟨hr a8, hr a10, hr a9⟩, ⟨n1.symm, n3, n2, n4.symm, n6, n5⟩, rD, a13⟩
  · rw [hk ta (dw_ne a2 a1 (by simp))]; exact a2
  · rw [hk sa (dw_ne a3 a1 (by simp))]; exact a3
  · rw [hk dc (dw_ne a4 a1 (by simp))]; exact a4
  · obtain ⟨t', b1, b2⟩ := a6 i hi
    exact ⟨t', b1, tx.agree hag b2⟩
  · obtain ⟨t', b1, b2⟩ := a7 i hi
    exact ⟨t', b1, tx.agree hag b2⟩
end DS
section RA
variable {p : Program} {l : Launch} {e : Env} {R : Room} {s : State} {m : MethodId} {args : Array Value} {below : List Frame} {meth : Method} {c : Code} {H : Heap} {locs : List Loc} {cells slots : Nat} {Q : State → Prop}
variable {cc : ByteArray} {pc nL : Nat} {ls : Array Slot} {rest : List Value} {G : ct_G} {A : Nat → Prop} {a v d n : Nat} {f : dw_M} {H0 : Heap} {us : List Int} {own : String} {g : Nat → Option Nat}
/-- a text into an array of texts -/
theorem ra_aast (X : cx G own p s m args c cc nL) (hw : dw G.1 dk_cl A H0 f H locs) (ha : f a = some (.inl (G.2.1 3, n, .inr (.inr (.inr (.inr g)))))) (ht : tx G d f v us) {i : Int} (h0 : 0 ≤ i) (h1 : i < (n : Int)) (h2 : i < 2147483648) (hdg : decode cc pc = .ok (.aastore, 1))
    (kk : ∀ (H1 : Heap) (locs1 : List Loc), dw G.1 dk_cl A H0 (dw_up f a (.inl (G.2.1 3, n, .inr (.inr (.inr (.inr (va_up g i.toNat (some v)))))))) H1 locs1 → W p l e R s m args below meth c H1 locs1 cells slots Q (F0 m (pc + 1) ls rest)) : W p l e R s m args below meth c H locs cells slots Q (F0 m pc ls (.ref v :: .int (iI i) :: .ref a :: rest)) := by
  rcases tx_head ht with ⟨q, g9, k1, -⟩ | ⟨q, g9, k1, -⟩ | ⟨x, y, fl, k1⟩
  · exact dw_aast X.1 X.2.1 X.K hw 3 ha rfl k1 rfl (fun comp c0 => vb_asgC (X.E.2.2.2.2.2.1 ("TextDesk$NarrowText", "TextDesk$Text") (by decide +kernel)) comp c0) h0 h1 h2 hdg kk
  · exact dw_aast X.1 X.2.1 X.K hw 3 ha rfl k1 rfl (fun comp c0 => vb_asgC (X.E.2.2.2.2.2.1 ("TextDesk$WideText", "TextDesk$Text") (by decide +kernel)) comp c0) h0 h1 h2 hdg kk
  · exact dw_aast X.1 X.2.1 X.K hw 3 ha rfl k1 rfl (fun comp c0 => vb_asgC (X.E.2.2.2.2.2.1 ("TextDesk$JoinedText", "TextDesk$Text") (by decide +kernel)) comp c0) h0 h1 h2 hdg kk
end RA
end
section
set_option maxRecDepth 100000 in
set_option maxHeartbeats 4000000 in
theorem c_JT_init (l : Launch) (G : ct_G) (f : dw_M) (sz : Nat) (a x y d e0 : Nat) (ux uy : List Int) (h0 : f a = some (.inr (3, [.int (iI 0), .int (iI 0), .null, .null, .null]))) (htx : tx G d f x ux) (hty : tx G e0 f y uy) (hlen : ux.length + uy.length ≤ 60) : cn l y_JT_init w_JT_init (3) (80) G f sz [.ref a, .ref x, .ref y] (fun v f' => v = none ∧ f' a = some (.inr (3, [.int (iI ((ux ++ uy).length : Int)), .int (iI (nar (ux ++ uy))), .ref x, .ref y, .null])) ∧ ∀ b, b ≠ a → f' b = f b) (0) (0) := by
  refine cn_of (own := "TextDesk$JoinedText") (nm := "<init>") (ds := "(LTextDesk$Text;LTextDesk$Text;)V") (by decide) (Nat.le_of_ble_eq_true rfl) ?_
  intro p e s m args below meth c ls X hnm hr hlk hs0 hz hw hl
  have hx := X.1
  have hb := X.2.1
  have hl : lv_has ls 3 [(0, .ref a), (1, .ref x), (2, .ref y)] := hl
  have hle : ((ux ++ uy).length : Int) = (ux.length : Int) + (uy.length : Int) := by simp
  refine lv_aload_n hx hb d_JT_init_0 rfl (lv_at hl 0 rfl) ?_
  refine lv_aload_n hx hb d_JT_init_1 rfl (lv_at hl 1 rfl) ?_
  refine st_JT_1 X hz hw hl.1 htx ⟨Nat.le_of_ble_eq_true rfl, Nat.le_of_ble_eq_true rfl⟩ ⟨by show 0 ≤ 0; omega, by show 0 ≤ 0; omega⟩ (Nat.le_of_ble_eq_true rfl) d_JT_init_2 (fun H locs hw => ?_)
  refine W.eq (g2 := F0 m 5 ls [.int (iI ((ux.length : Int))), .ref a]) rfl ?_
  refine lv_aload_n hx hb d_JT_init_5 rfl (lv_at hl 2 rfl) ?_
  refine st_JT_1 X hz hw hl.1 hty ⟨Nat.le_of_ble_eq_true rfl, Nat.le_of_ble_eq_true rfl⟩ ⟨by show 0 ≤ 0; omega, by show 0 ≤ 0; omega⟩ (Nat.le_of_ble_eq_true rfl) d_JT_init_6 (fun H locs hw => ?_)
  refine W.eq (g2 := F0 m 9 ls [.int (iI ((uy.length : Int))), .int (iI ((ux.length : Int))), .ref a]) rfl ?_
  refine di_add hx hb d_JT_init_9 ?_
  refine lv_aload_n hx hb d_JT_init_10 rfl (lv_at hl 1 rfl) ?_
  refine st_JT_7 X hz hw hl.1 htx ⟨Nat.le_of_ble_eq_true rfl, Nat.le_of_ble_eq_true rfl⟩ ⟨by show 0 ≤ 0; omega, by show 0 ≤ 0; omega⟩ (Nat.le_of_ble_eq_true rfl) d_JT_init_11 (fun H locs hw => ?_)
  refine W.eq (g2 := F0 m 14 ls [.int (iI (nar ux)), .int (iI ((ux.length : Int) + (uy.length : Int))), .ref a]) rfl ?_
  have hn1 := nar_01 ux
  have hn2 := nar_01 uy
  refine di_if_eq (tgt := 28) hx hb d_JT_init_14 (by decide) ⟨by omega, by omega⟩ (fun bq14 => ?_) (fun bq14 => ?_)
  · refine lv_iconst (v := iI (0)) hx hb d_JT_init_28 rfl ?_
    have hnar : nar (ux ++ uy) = 0 := by rw [nar_app, if_pos bq14]
    refine cs_JT_11 X hz hw hl.1 (c_TX_init_JT l G f _ a ((ux.length : Int) + (uy.length : Int)) 0 (by decide) h0) ⟨Nat.le_of_ble_eq_true rfl, Nat.le_of_ble_eq_true rfl⟩ ⟨by show 0 + 0 ≤ 0; omega, by show 0 + 0 ≤ 0; omega⟩ (Nat.le_of_ble_eq_true rfl) d_JT_init_29 (fun v f2 H locs hp hw hsz9 hkp9 hdm9 => ?_)
    obtain ⟨rfl, h2, hk2⟩ := hp
    rw [← hnar, ← hle] at h2
    refine W.eq (g2 := F0 m 32 ls []) rfl ?_
    refine lv_aload_n hx hb d_JT_init_32 rfl (lv_at hl 0 rfl) ?_
    refine lv_aload_n hx hb d_JT_init_33 rfl (lv_at hl 1 rfl) ?_
    refine pf_JT_15_JT X hnm hw h2 (rfl) (rfl) d_JT_init_34 (fun H locs hw => ?_)
    obtain ⟨f3, e_f3⟩ : ∃ g9 : dw_M, g9 = dw_up f2 a (.inr (3, [.int (iI (((ux ++ uy).length : Int))), .int (iI (nar (ux ++ uy))), .ref x, .null, .null])) := ⟨_, rfl⟩
    rw [← e_f3] at hw
    have k_f3_a : f3 a = some (.inr (3, [.int (iI (((ux ++ uy).length : Int))), .int (iI (nar (ux ++ uy))), .ref x, .null, .null])) := by rw [e_f3]; exact dw_up_self _ _ _
    refine lv_aload_n hx hb d_JT_init_37 rfl (lv_at hl 0 rfl) ?_
    refine lv_aload_n hx hb d_JT_init_38 rfl (lv_at hl 2 rfl) ?_
    refine pf_JT_21_JT X hnm hw k_f3_a (rfl) (rfl) d_JT_init_39 (fun H locs hw => ?_)
    obtain ⟨f4, e_f4⟩ : ∃ g9 : dw_M, g9 = dw_up f3 a (.inr (3, [.int (iI (((ux ++ uy).length : Int))), .int (iI (nar (ux ++ uy))), .ref x, .ref y, .null])) := ⟨_, rfl⟩
    rw [← e_f4] at hw
    have k_f4_a : f4 a = some (.inr (3, [.int (iI (((ux ++ uy).length : Int))), .int (iI (nar (ux ++ uy))), .ref x, .ref y, .null])) := by rw [e_f4]; exact dw_up_self _ _ _
    exact cn_vret hx hb hr hlk hw  (⟨rfl, k_f4_a, fun b h8 => by rw [e_f4, dw_up_ne _ _ h8, e_f3, dw_up_ne _ _ h8]; exact hk2 b h8⟩) (Nat.le_refl _) (Nat.le_refl _) d_JT_init_42
  · refine lv_aload_n hx hb d_JT_init_17 rfl (lv_at hl 2 rfl) ?_
    refine st_JT_7 X hz hw hl.1 hty ⟨Nat.le_of_ble_eq_true rfl, Nat.le_of_ble_eq_true rfl⟩ ⟨by show 0 ≤ 0; omega, by show 0 ≤ 0; omega⟩ (Nat.le_of_ble_eq_true rfl) d_JT_init_18 (fun H locs hw => ?_)
    refine W.eq (g2 := F0 m 21 ls [.int (iI (nar uy)), .int (iI ((ux.length : Int) + (uy.length : Int))), .ref a]) rfl ?_
    refine di_if_eq (tgt := 28) hx hb d_JT_init_21 (by decide) ⟨by omega, by omega⟩ (fun bq21 => ?_) (fun bq21 => ?_)
    · refine lv_iconst (v := iI (0)) hx hb d_JT_init_28 rfl ?_
      have hnar : nar (ux ++ uy) = 0 := by rw [nar_app, bq21]; split <;> rfl
      refine cs_JT_11 X hz hw hl.1 (c_TX_init_JT l G f _ a ((ux.length : Int) + (uy.length : Int)) 0 (by decide) h0) ⟨Nat.le_of_ble_eq_true rfl, Nat.le_of_ble_eq_true rfl⟩ ⟨by show 0 + 0 ≤ 0; omega, by show 0 + 0 ≤ 0; omega⟩ (Nat.le_of_ble_eq_true rfl) d_JT_init_29 (fun v f2 H locs hp hw hsz9 hkp9 hdm9 => ?_)
      obtain ⟨rfl, h2, hk2⟩ := hp
      rw [← hnar, ← hle] at h2
      refine W.eq (g2 := F0 m 32 ls []) rfl ?_
      refine lv_aload_n hx hb d_JT_init_32 rfl (lv_at hl 0 rfl) ?_
      refine lv_aload_n hx hb d_JT_init_33 rfl (lv_at hl 1 rfl) ?_
      refine pf_JT_15_JT X hnm hw h2 (rfl) (rfl) d_JT_init_34 (fun H locs hw => ?_)
      obtain ⟨f3, e_f3⟩ : ∃ g9 : dw_M, g9 = dw_up f2 a (.inr (3, [.int (iI (((ux ++ uy).length : Int))), .int (iI (nar (ux ++ uy))), .ref x, .null, .null])) := ⟨_, rfl⟩
      rw [← e_f3] at hw
      have k_f3_a : f3 a = some (.inr (3, [.int (iI (((ux ++ uy).length : Int))), .int (iI (nar (ux ++ uy))), .ref x, .null, .null])) := by rw [e_f3]; exact dw_up_self _ _ _
      refine lv_aload_n hx hb d_JT_init_37 rfl (lv_at hl 0 rfl) ?_
      refine lv_aload_n hx hb d_JT_init_38 rfl (lv_at hl 2 rfl) ?_
      refine pf_JT_21_JT X hnm hw k_f3_a (rfl) (rfl) d_JT_init_39 (fun H locs hw => ?_)
      obtain ⟨f4, e_f4⟩ : ∃ g9 : dw_M, g9 = dw_up f3 a (.inr (3, [.int (iI (((ux ++ uy).length : Int))), .int (iI (nar (ux ++ uy))), .ref x, .ref y, .null])) := ⟨_, rfl⟩
      rw [← e_f4] at hw
      have k_f4_a : f4 a = some (.inr (3, [.int (iI (((ux ++ uy).length : Int))), .int (iI (nar (ux ++ uy))), .ref x, .ref y, .null])) := by rw [e_f4]; exact dw_up_self _ _ _
      exact cn_vret hx hb hr hlk hw  (⟨rfl, k_f4_a, fun b h8 => by rw [e_f4, dw_up_ne _ _ h8, e_f3, dw_up_ne _ _ h8]; exact hk2 b h8⟩) (Nat.le_refl _) (Nat.le_refl _) d_JT_init_42
    · refine lv_iconst (v := iI (1)) hx hb d_JT_init_24 rfl ?_
      refine lv_goto (tgt := 29) hx hb d_JT_init_25 (by decide) ?_
      have hnar : nar (ux ++ uy) = 1 := by rw [nar_app, if_neg bq14]; omega
      refine cs_JT_11 X hz hw hl.1 (c_TX_init_JT l G f _ a ((ux.length : Int) + (uy.length : Int)) 1 (by decide) h0) ⟨Nat.le_of_ble_eq_true rfl, Nat.le_of_ble_eq_true rfl⟩ ⟨by show 0 + 0 ≤ 0; omega, by show 0 + 0 ≤ 0; omega⟩ (Nat.le_of_ble_eq_true rfl) d_JT_init_29 (fun v f2 H locs hp hw hsz9 hkp9 hdm9 => ?_)
      obtain ⟨rfl, h2, hk2⟩ := hp
      rw [← hnar, ← hle] at h2
      refine W.eq (g2 := F0 m 32 ls []) rfl ?_
      refine lv_aload_n hx hb d_JT_init_32 rfl (lv_at hl 0 rfl) ?_
      refine lv_aload_n hx hb d_JT_init_33 rfl (lv_at hl 1 rfl) ?_
      refine pf_JT_15_JT X hnm hw h2 (rfl) (rfl) d_JT_init_34 (fun H locs hw => ?_)
      obtain ⟨f3, e_f3⟩ : ∃ g9 : dw_M, g9 = dw_up f2 a (.inr (3, [.int (iI (((ux ++ uy).length : Int))), .int (iI (nar (ux ++ uy))), .ref x, .null, .null])) := ⟨_, rfl⟩
      rw [← e_f3] at hw
      have k_f3_a : f3 a = some (.inr (3, [.int (iI (((ux ++ uy).length : Int))), .int (iI (nar (ux ++ uy))), .ref x, .null, .null])) := by rw [e_f3]; exact dw_up_self _ _ _
      refine lv_aload_n hx hb d_JT_init_37 rfl (lv_at hl 0 rfl) ?_
      refine lv_aload_n hx hb d_JT_init_38 rfl (lv_at hl 2 rfl) ?_
      refine pf_JT_21_JT X hnm hw k_f3_a (rfl) (rfl) d_JT_init_39 (fun H locs hw => ?_)
      obtain ⟨f4, e_f4⟩ : ∃ g9 : dw_M, g9 = dw_up f3 a (.inr (3, [.int (iI (((ux ++ uy).length : Int))), .int (iI (nar (ux ++ uy))), .ref x, .ref y, .null])) := ⟨_, rfl⟩
      rw [← e_f4] at hw
      have k_f4_a : f4 a = some (.inr (3, [.int (iI (((ux ++ uy).length : Int))), .int (iI (nar (ux ++ uy))), .ref x, .ref y, .null])) := by rw [e_f4]; exact dw_up_self _ _ _
      exact cn_vret hx hb hr hlk hw  (⟨rfl, k_f4_a, fun b h8 => by rw [e_f4, dw_up_ne _ _ h8, e_f3, dw_up_ne _ _ h8]; exact hk2 b h8⟩) (Nat.le_refl _) (Nat.le_refl _) d_JT_init_42
set_option maxRecDepth 100000 in
set_option maxHeartbeats 4000000 in
theorem c_DK_joined (l : Launch) (G : ct_G) (f : dw_M) (sz : Nat) (x y d : Nat) (ux uy : List Int) (htx : tx G d f x ux) (hty : tx G d f y uy) (hlen : ux.length + uy.length ≤ 60) : cn l y_DK_joined w_DK_joined (4) (110) G f sz [.ref x, .ref y] (fun v f' => ∃ t, v = some (.ref t) ∧ tx G (d + 1) f' t (ux ++ uy) ∧ ∀ b z, f b = some z → f' b = some z) (1) (5) := by
  refine cn_of (own := "TextDesk") (nm := "joined") (ds := "(LTextDesk$Text;LTextDesk$Text;)LTextDesk$Text;") (by decide) (Nat.le_of_ble_eq_true rfl) ?_
  intro p e s m args below meth c ls X hnm hr hlk hs0 hz hw hl
  have hx := X.1
  have hb := X.2.1
  have hl : lv_has ls 2 [(0, .ref x), (1, .ref y)] := hl
  have hlx := htx.len
  have hly := hty.len
  refine lv_aload_n hx hb d_DK_joined_0 rfl (lv_at hl 0 rfl) ?_
  refine st_DK_77 X hz hw hl.1 htx ⟨Nat.le_of_ble_eq_true rfl, Nat.le_of_ble_eq_true rfl⟩ ⟨by show 0 ≤ 1; omega, by show 0 ≤ 5; omega⟩ (Nat.le_of_ble_eq_true rfl) d_DK_joined_1 (fun H locs hw => ?_)
  refine W.eq (g2 := F0 m 4 ls [.int (iI ((ux.length : Int)))]) rfl ?_
  refine di_if_ne (tgt := 9) hx hb d_DK_joined_4 (by decide) ⟨by omega, by omega⟩ (fun bq4 => ?_) (fun bq4 => ?_)
  · refine lv_aload_n hx hb d_DK_joined_9 rfl (lv_at hl 1 rfl) ?_
    refine st_DK_77 X hz hw hl.1 hty ⟨Nat.le_of_ble_eq_true rfl, Nat.le_of_ble_eq_true rfl⟩ ⟨by show 0 ≤ 1; omega, by show 0 ≤ 5; omega⟩ (Nat.le_of_ble_eq_true rfl) d_DK_joined_10 (fun H locs hw => ?_)
    refine W.eq (g2 := F0 m 13 ls [.int (iI ((uy.length : Int)))]) rfl ?_
    refine di_if_ne (tgt := 18) hx hb d_DK_joined_13 (by decide) ⟨by omega, by omega⟩ (fun bq13 => ?_) (fun bq13 => ?_)
    · refine nw_DK_203 X hw (by show 0 + 1 ≤ 1; omega) (by show 0 + 5 ≤ 5; omega) d_DK_joined_18 (fun t H hq_t hw => ?_)
      obtain ⟨f2, e_f2⟩ : ∃ g9 : dw_M, g9 = dw_up f t (.inr (3, [.int (iI 0), .int (iI 0), .null, .null, .null])) := ⟨_, rfl⟩
      rw [← e_f2] at hw
      have k_f2_t : f2 t = some (.inr (3, [.int (iI 0), .int (iI 0), .null, .null, .null])) := by rw [e_f2]; exact dw_up_self _ _ _
      refine lv_dup hx hb d_DK_joined_21 rfl ?_
      refine lv_aload_n hx hb d_DK_joined_22 rfl (lv_at hl 0 rfl) ?_
      refine lv_aload_n hx hb d_DK_joined_23 rfl (lv_at hl 1 rfl) ?_
      have hm : ∀ b z, f b = some z → f2 b = some z := fun b z h9 => by rw [e_f2]; exact dw_keep h9 (dw_neN h9 hq_t)
      refine cs_DK_205 X hz hw hl.1 (c_JT_init l G f2 _ t x y d d ux uy k_f2_t (tx.agree (fun a z h9 _ => hm a z h9) htx) (tx.agree (fun a z h9 _ => hm a z h9) hty) hlen) ⟨Nat.le_of_ble_eq_true rfl, Nat.le_of_ble_eq_true rfl⟩ ⟨by show 0 + 1 + 0 ≤ 1; omega, by show 0 + 5 + 0 ≤ 5; omega⟩ (Nat.le_of_ble_eq_true rfl) d_DK_joined_24 (fun v f5 H locs hp hw hsz9 hkp9 hdm9 => ?_)
      obtain ⟨rfl, h5, hk5⟩ := hp
      have hm5 : ∀ b z, f b = some z → f5 b = some z := fun b z h9 => by rw [hk5 b (dw_neN h9 hq_t)]; exact hm b z h9
      refine W.eq (g2 := F0 m 27 ls [.ref t]) rfl ?_
      exact cn_aret hx hb hr hlk hw (Or.inr ⟨_, rfl⟩) (⟨t, rfl, Or.inr ⟨x, y, ux, uy, none, h5, tx.agree (fun a z h9 _ => hm5 a z h9) htx, tx.agree (fun a z h9 _ => hm5 a z h9) hty, rfl, (fun q h9 => by cases h9), (by rw [List.length_append]; omega)⟩, hm5⟩) (by omega) (by omega) d_DK_joined_27
    · refine lv_aload_n hx hb d_DK_joined_16 rfl (lv_at hl 0 rfl) ?_
      exact cn_aret hx hb hr hlk hw (Or.inr ⟨_, rfl⟩) (⟨x, rfl, by rw [List.length_eq_zero_iff.mp (by omega : uy.length = 0), List.append_nil]; exact htx.more, fun _ _ h9 => h9⟩) (by omega) (by omega) d_DK_joined_17
  · refine lv_aload_n hx hb d_DK_joined_7 rfl (lv_at hl 1 rfl) ?_
    exact cn_aret hx hb hr hlk hw (Or.inr ⟨_, rfl⟩) (⟨y, rfl, by rw [List.length_eq_zero_iff.mp (by omega : ux.length = 0), List.nil_append]; exact hty.more, fun _ _ h9 => h9⟩) (by omega) (by omega) d_DK_joined_8
set_option maxRecDepth 100000 in
set_option maxHeartbeats 4000000 in
theorem c_DK_refuseBadRange (l : Launch) (hlT : l.stackTraces = false) (G : ct_G) (f : dw_M) (sz : Nat) (fr to n : Int) (h1 : iR fr) (h2 : iR to) (h3 : iR n) : ct l y_DK_refuseBadRange w_DK_refuseBadRange (8) (120) G f sz [.int (iI fr), .int (iI to), .int (iI n)] (fun v f' => v = none ∧ (0 ≤ fr ∧ fr ≤ to ∧ to ≤ n) ∧ f' = f) (fun E f' => E = "java/lang/IndexOutOfBoundsException" ∧ ¬ (0 ≤ fr ∧ fr ≤ to ∧ to ≤ n) ∧ f' = f) (1) (6) := by
  refine ct_of (own := "TextDesk") (nm := "refuseBadRange") (ds := "(III)V") (by decide) (Nat.le_of_ble_eq_true rfl) ?_
  intro p e s m args below meth c ls X hnm hr hlk hnx hs0 hz hw hl
  have hx := X.1
  have hb := X.2.1
  have hl : lv_has ls 3 [(0, .int (iI fr)), (1, .int (iI to)), (2, .int (iI n))] := hl
  obtain ⟨a1, a2⟩ := h1
  obtain ⟨b1, b2⟩ := h2
  obtain ⟨c1, c2⟩ := h3
  refine lv_iload_n hx hb d_DK_refuseBadRange_0 rfl (lv_at hl 0 rfl) ?_
  refine di_if_lt (tgt := 14) hx hb d_DK_refuseBadRange_1 (by decide) ⟨by omega, by omega⟩ (fun bq1 => ?_) (fun bq1 => ?_)
  · exact th_IOB X hlT hz (is := 185) (text := "no such range") (by decide +kernel) hw hl.1 hnx hlk (⟨rfl, by omega, rfl⟩) ⟨by show 8 ≤ 8; omega, by show 120 ≤ 120; omega⟩ ⟨by show 0 + 1 ≤ 1; omega, by show 0 + 6 ≤ 6; omega⟩ ⟨by show 0 + 1 ≤ 1; omega, by show 0 + 6 ≤ 6; omega⟩ (Nat.le_of_ble_eq_true rfl) d_DK_refuseBadRange_14 d_DK_refuseBadRange_17 d_DK_refuseBadRange_18 d_DK_refuseBadRange_20 d_DK_refuseBadRange_23
  · refine lv_iload_n hx hb d_DK_refuseBadRange_4 rfl (lv_at hl 0 rfl) ?_
    refine lv_iload_n hx hb d_DK_refuseBadRange_5 rfl (lv_at hl 1 rfl) ?_
    refine di_icmp_gt (tgt := 14) hx hb d_DK_refuseBadRange_6 (by decide) ⟨by omega, by omega⟩ ⟨by omega, by omega⟩ (fun bq6 => ?_) (fun bq6 => ?_)
    · exact th_IOB X hlT hz (is := 185) (text := "no such range") (by decide +kernel) hw hl.1 hnx hlk (⟨rfl, by omega, rfl⟩) ⟨by show 8 ≤ 8; omega, by show 120 ≤ 120; omega⟩ ⟨by show 0 + 1 ≤ 1; omega, by show 0 + 6 ≤ 6; omega⟩ ⟨by show 0 + 1 ≤ 1; omega, by show 0 + 6 ≤ 6; omega⟩ (Nat.le_of_ble_eq_true rfl) d_DK_refuseBadRange_14 d_DK_refuseBadRange_17 d_DK_refuseBadRange_18 d_DK_refuseBadRange_20 d_DK_refuseBadRange_23
    · refine lv_iload_n hx hb d_DK_refuseBadRange_9 rfl (lv_at hl 1 rfl) ?_
      refine lv_iload_n hx hb d_DK_refuseBadRange_10 rfl (lv_at hl 2 rfl) ?_
      refine di_icmp_le (tgt := 24) hx hb d_DK_refuseBadRange_11 (by decide) ⟨by omega, by omega⟩ ⟨by omega, by omega⟩ (fun bq11 => ?_) (fun bq11 => ?_)
      · exact ct_vret hx hb hr  hlk hw (⟨rfl, by omega, rfl⟩) (by omega) (by omega) d_DK_refuseBadRange_24
      · exact th_IOB X hlT hz (is := 185) (text := "no such range") (by decide +kernel) hw hl.1 hnx hlk (⟨rfl, by omega, rfl⟩) ⟨by show 8 ≤ 8; omega, by show 120 ≤ 120; omega⟩ ⟨by show 0 + 1 ≤ 1; omega, by show 0 + 6 ≤ 6; omega⟩ ⟨by show 0 + 1 ≤ 1; omega, by show 0 + 6 ≤ 6; omega⟩ (Nat.le_of_ble_eq_true rfl) d_DK_refuseBadRange_14 d_DK_refuseBadRange_17 d_DK_refuseBadRange_18 d_DK_refuseBadRange_20 d_DK_refuseBadRange_23
set_option maxRecDepth 100000 in
set_option maxHeartbeats 4000000 in
theorem c_DK_refuseUnknownEncoding (l : Launch) (hlT : l.stackTraces = false) (G : ct_G) (f : dw_M) (sz : Nat) (k : Int) (h1 : iR k) : ct l y_DK_refuseUnknownEncoding w_DK_refuseUnknownEncoding (8) (120) G f sz [.int (iI k)] (fun v f' => v = none ∧ (0 ≤ k ∧ k ≤ 4) ∧ f' = f) (fun E f' => E = "java/lang/IllegalArgumentException" ∧ ¬ (0 ≤ k ∧ k ≤ 4) ∧ f' = f) (1) (6) := by
  refine ct_of (own := "TextDesk") (nm := "refuseUnknownEncoding") (ds := "(I)V") (by decide) (Nat.le_of_ble_eq_true rfl) ?_
  intro p e s m args below meth c ls X hnm hr hlk hnx hs0 hz hw hl
  have hx := X.1
  have hb := X.2.1
  have hl : lv_has ls 1 [(0, .int (iI k))] := hl
  obtain ⟨a1, a2⟩ := h1
  refine lv_iload_n hx hb d_DK_refuseUnknownEncoding_0 rfl (lv_at hl 0 rfl) ?_
  refine di_if_lt (tgt := 9) hx hb d_DK_refuseUnknownEncoding_1 (by decide) ⟨by omega, by omega⟩ (fun bq1 => ?_) (fun bq1 => ?_)
  · exact th_IAE X hlT hz (is := 187) (text := "no such encoding") (by decide +kernel) hw hl.1 hnx hlk (⟨rfl, by omega, rfl⟩) ⟨by show 8 ≤ 8; omega, by show 120 ≤ 120; omega⟩ ⟨by show 0 + 1 ≤ 1; omega, by show 0 + 6 ≤ 6; omega⟩ ⟨by show 0 + 1 ≤ 1; omega, by show 0 + 6 ≤ 6; omega⟩ (Nat.le_of_ble_eq_true rfl) d_DK_refuseUnknownEncoding_9 d_DK_refuseUnknownEncoding_12 d_DK_refuseUnknownEncoding_13 d_DK_refuseUnknownEncoding_15 d_DK_refuseUnknownEncoding_18
  · refine lv_iload_n hx hb d_DK_refuseUnknownEncoding_4 rfl (lv_at hl 0 rfl) ?_
    refine lv_iconst (v := iI (4)) hx hb d_DK_refuseUnknownEncoding_5 rfl ?_
    refine di_icmp_le (tgt := 19) hx hb d_DK_refuseUnknownEncoding_6 (by decide) ⟨by omega, by omega⟩ ⟨by omega, by omega⟩ (fun bq6 => ?_) (fun bq6 => ?_)
    · exact ct_vret hx hb hr  hlk hw (⟨rfl, by omega, rfl⟩) (by omega) (by omega) d_DK_refuseUnknownEncoding_19
    · exact th_IAE X hlT hz (is := 187) (text := "no such encoding") (by decide +kernel) hw hl.1 hnx hlk (⟨rfl, by omega, rfl⟩) ⟨by show 8 ≤ 8; omega, by show 120 ≤ 120; omega⟩ ⟨by show 0 + 1 ≤ 1; omega, by show 0 + 6 ≤ 6; omega⟩ ⟨by show 0 + 1 ≤ 1; omega, by show 0 + 6 ≤ 6; omega⟩ (Nat.le_of_ble_eq_true rfl) d_DK_refuseUnknownEncoding_9 d_DK_refuseUnknownEncoding_12 d_DK_refuseUnknownEncoding_13 d_DK_refuseUnknownEncoding_15 d_DK_refuseUnknownEncoding_18
set_option maxRecDepth 100000 in
set_option maxHeartbeats 4000000 in
theorem c_DK_sizeOrItem (l : Launch) (hlT : l.stackTraces = false) (G : ct_G) (f : dw_M) (sz : Nat) (b : Nat) (us : List Int) (k : Int) (hk : iR k) (hus : ∀ u ∈ us, 0 ≤ u ∧ u < 65536) (hsq : sq G f b us) : ct l y_DK_sizeOrItem w_DK_sizeOrItem (42) (960) G f sz [.ref b, .int (iI k)] (fun v f' => v = some (.int (iI (if k = -1 then (us.length : Int) else gt us k))) ∧ (-1 ≤ k ∧ k < (us.length : Int)) ∧ exo G no1 f f') (fun E f' => E = "java/lang/IndexOutOfBoundsException" ∧ ¬ (-1 ≤ k ∧ k < (us.length : Int)) ∧ exo G no1 f f') (4 * pot f b + 1) (140 * pot f b + 6) := by
  refine ct_of (own := "TextDesk") (nm := "sizeOrItem") (ds := "(LTextDesk$Sequence;I)I") (by decide) (Nat.le_of_ble_eq_true rfl) ?_
  intro p e s m args below meth c ls X hnm hr hlk hnx hs0 hz hw hl
  have hx := X.1
  have hb := X.2.1
  have hl : lv_has ls 3 [(0, .ref b), (1, .int (iI k))] := hl
  obtain ⟨a1, a2⟩ := hk
  have hlen := hsq.len
  refine lv_iload_n hx hb d_DK_sizeOrItem_0 rfl (lv_at hl 1 rfl) ?_
  refine lv_iconst (v := iI (-1)) hx hb d_DK_sizeOrItem_1 rfl ?_
  refine di_icmp_ne (tgt := 10) hx hb d_DK_sizeOrItem_2 (by decide) ⟨by omega, by omega⟩ ⟨by omega, by omega⟩ (fun bq2 => ?_) (fun bq2 => ?_)
  · refine lv_aload_n hx hb d_DK_sizeOrItem_10 rfl (lv_at hl 0 rfl) ?_
    refine lv_iload_n hx hb d_DK_sizeOrItem_11 rfl (lv_at hl 1 rfl) ?_
    refine sg_DK_192 X hz hw hl.1 hsq ⟨by omega, by omega⟩ ⟨Nat.le_of_ble_eq_true rfl, Nat.le_of_ble_eq_true rfl⟩ ⟨by show 0 + 4 * pot f b ≤ 4 * pot f b + 1; omega, by show 0 + 140 * pot f b ≤ 140 * pot f b + 6; omega⟩ (Nat.le_of_ble_eq_true rfl) d_DK_sizeOrItem_12 (fun f2 H locs hx_f2 hp_f2 hw => ?_)
    refine W.eq (g2 := F0 m 15 ls [.int (iI (gt us k))]) rfl ?_
    have hr1 := gt_rng hus k
    refine lv_istore_n (lv' := [(2, .int (iI (gt us k))), (0, .ref b), (1, .int (iI k))]) hx hb d_DK_sizeOrItem_15 rfl hl (by decide) rfl (fun ls hl => ?_)
    refine lv_iload_n hx hb d_DK_sizeOrItem_16 rfl (lv_at hl 0 rfl) ?_
    refine lv_iconst (v := iI (-1)) hx hb d_DK_sizeOrItem_17 rfl ?_
    refine di_icmp_ne (tgt := 31) hx hb d_DK_sizeOrItem_18 (by decide) ⟨by omega, by omega⟩ ⟨by omega, by omega⟩ (fun bq18 => ?_) (fun bq18 => ?_)
    · have hin : 0 ≤ k ∧ k < (us.length : Int) := Decidable.byContradiction (fun q => bq18 (gt_out q))
      refine lv_iload_n hx hb d_DK_sizeOrItem_31 rfl (lv_at hl 0 rfl) ?_
      exact ct_iret hx hb hr  hlk hw (⟨by rw [if_neg bq2], by omega, hx_f2⟩) (by omega) (by omega) d_DK_sizeOrItem_32
    · have hou : ¬ (0 ≤ k ∧ k < (us.length : Int)) := fun q => by
        have h8 := hus _ (getD_mem (us := us) (k := k.toNat) (by omega))
        rw [gt_in q.1 q.2] at bq18
        omega
      exact th_IOB X hlT hz (is := 193) (text := "there is nothing at this place") (by decide +kernel) hw hl.1 hnx hlk (⟨rfl, by omega, hx_f2⟩) ⟨by show 8 ≤ 42; omega, by show 120 ≤ 960; omega⟩ ⟨by show 0 + 4 * pot f b + 1 ≤ 4 * pot f b + 1; omega, by show 0 + 140 * pot f b + 6 ≤ 140 * pot f b + 6; omega⟩ ⟨by show 0 + 4 * pot f b + 1 ≤ 4 * pot f b + 1; omega, by show 0 + 140 * pot f b + 6 ≤ 140 * pot f b + 6; omega⟩ (Nat.le_of_ble_eq_true rfl) d_DK_sizeOrItem_21 d_DK_sizeOrItem_24 d_DK_sizeOrItem_25 d_DK_sizeOrItem_27 d_DK_sizeOrItem_30
  · refine lv_aload_n hx hb d_DK_sizeOrItem_5 rfl (lv_at hl 0 rfl) ?_
    refine sq_DK_189 X hz hw hl.1 hsq.w ⟨Nat.le_of_ble_eq_true rfl, Nat.le_of_ble_eq_true rfl⟩ ⟨by show 0 ≤ 4 * pot f b + 1; omega, by show 0 ≤ 140 * pot f b + 6; omega⟩ (Nat.le_of_ble_eq_true rfl) d_DK_sizeOrItem_6 (fun H locs hw => ?_)
    refine W.eq (g2 := F0 m 9 ls [.int (iI ((us.length : Int)))]) rfl ?_
    exact ct_iret hx hb hr  hlk hw (⟨by rw [if_pos bq2], by omega, exo.rf⟩) (by omega) (by omega) d_DK_sizeOrItem_9
set_option maxRecDepth 100000 in
set_option maxHeartbeats 4000000 in
theorem c_DK_textNumbered (l : Launch) (hlT : l.stackTraces = false) (G : ct_G) (f : dw_M) (sz : Nat) (k : Int) (hk : iR k) (x ta sa yr dc bu dr qy qb qd : Nat) (gT gS : Nat → Option Nat) (c0 w0 : Int32) (T Y : List (List Int)) (B Z D : List Int) (sB sZ sD : Int) (hS : dkS G f x ta sa yr dc bu dr qy qb qd gT gS c0 w0 T Y B Z D sB sZ sD) : ct l y_DK_textNumbered w_DK_textNumbered (8) (120) G f sz [.ref x, .int (iI k)] (fun v f' => ∃ t, v = some (.ref t) ∧ gT k.toNat = some t ∧ (0 ≤ k ∧ k < (T.length : Int)) ∧ f' = f) (fun E f' => E = "java/lang/IllegalArgumentException" ∧ ¬ (0 ≤ k ∧ k < (T.length : Int)) ∧ f' = f) (1) (6) := by
  refine ct_of (own := "TextDesk") (nm := "textNumbered") (ds := "(I)LTextDesk$Text;") (by decide) (Nat.le_of_ble_eq_true rfl) ?_
  intro p e s m args below meth c ls X hnm hr hlk hnx hs0 hz hw hl
  have hx := X.1
  have hb := X.2.1
  have hl : lv_has ls 2 [(0, .ref x), (1, .int (iI k))] := hl
  obtain ⟨a1, a2⟩ := hk
  have hT := hS.2.2.2.2.1.1
  refine lv_iload_n hx hb d_DK_textNumbered_0 rfl (lv_at hl 1 rfl) ?_
  refine di_if_lt (tgt := 21) hx hb d_DK_textNumbered_1 (by decide) ⟨by omega, by omega⟩ (fun bq1 => ?_) (fun bq1 => ?_)
  · exact th_IAE X hlT hz (is := 176) (text := "no such text") (by decide +kernel) hw hl.1 hnx hlk (⟨rfl, by omega, rfl⟩) ⟨by show 8 ≤ 8; omega, by show 120 ≤ 120; omega⟩ ⟨by show 0 + 1 ≤ 1; omega, by show 0 + 6 ≤ 6; omega⟩ ⟨by show 0 + 1 ≤ 1; omega, by show 0 + 6 ≤ 6; omega⟩ (Nat.le_of_ble_eq_true rfl) d_DK_textNumbered_21 d_DK_textNumbered_24 d_DK_textNumbered_25 d_DK_textNumbered_27 d_DK_textNumbered_30
  · refine lv_iload_n hx hb d_DK_textNumbered_4 rfl (lv_at hl 1 rfl) ?_
    refine lv_aload_n hx hb d_DK_textNumbered_5 rfl (lv_at hl 0 rfl) ?_
    refine gf_DK_173_DK X hw hS.1 d_DK_textNumbered_6 ?_
    refine di_icmp_ge (tgt := 21) hx hb d_DK_textNumbered_9 (by decide) ⟨by omega, by omega⟩ ⟨by omega, by omega⟩ (fun bq9 => ?_) (fun bq9 => ?_)
    · exact th_IAE X hlT hz (is := 176) (text := "no such text") (by decide +kernel) hw hl.1 hnx hlk (⟨rfl, by omega, rfl⟩) ⟨by show 8 ≤ 8; omega, by show 120 ≤ 120; omega⟩ ⟨by show 0 + 1 ≤ 1; omega, by show 0 + 6 ≤ 6; omega⟩ ⟨by show 0 + 1 ≤ 1; omega, by show 0 + 6 ≤ 6; omega⟩ (Nat.le_of_ble_eq_true rfl) d_DK_textNumbered_21 d_DK_textNumbered_24 d_DK_textNumbered_25 d_DK_textNumbered_27 d_DK_textNumbered_30
    · refine lv_iload_n hx hb d_DK_textNumbered_12 rfl (lv_at hl 1 rfl) ?_
      refine lv_aload_n hx hb d_DK_textNumbered_13 rfl (lv_at hl 0 rfl) ?_
      refine gf_DK_11_DK X hw hS.1 d_DK_textNumbered_14 ?_
      refine dw_alen hx hb X.K hw 3 hS.2.1 rfl d_DK_textNumbered_17 ?_
      refine di_icmp_lt (tgt := 31) hx hb d_DK_textNumbered_18 (by decide) ⟨by omega, by omega⟩ ⟨by omega, by omega⟩ (fun bq18 => ?_) (fun bq18 => ?_)
      · refine lv_aload_n hx hb d_DK_textNumbered_31 rfl (lv_at hl 0 rfl) ?_
        refine gf_DK_11_DK X hw hS.1 d_DK_textNumbered_32 ?_
        refine lv_iload_n hx hb d_DK_textNumbered_35 rfl (lv_at hl 1 rfl) ?_
        obtain ⟨t, ht, -⟩ := hS.2.2.2.2.2.1 k.toNat (by omega)
        refine dw_aald hx hb X.K hw 3 hS.2.1 rfl (by omega) (by omega) (by omega) ht d_DK_textNumbered_36 ?_
        refine W.eq (g2 := F0 m 37 ls [.ref t]) rfl ?_
        exact ct_aret hx hb hr (Or.inr ⟨_, rfl⟩) hlk hw (⟨t, rfl, ht, by omega, rfl⟩) (by omega) (by omega) d_DK_textNumbered_37
      · exact th_IAE X hlT hz (is := 176) (text := "no such text") (by decide +kernel) hw hl.1 hnx hlk (⟨rfl, by omega, rfl⟩) ⟨by show 8 ≤ 8; omega, by show 120 ≤ 120; omega⟩ ⟨by show 0 + 1 ≤ 1; omega, by show 0 + 6 ≤ 6; omega⟩ ⟨by show 0 + 1 ≤ 1; omega, by show 0 + 6 ≤ 6; omega⟩ (Nat.le_of_ble_eq_true rfl) d_DK_textNumbered_21 d_DK_textNumbered_24 d_DK_textNumbered_25 d_DK_textNumbered_27 d_DK_textNumbered_30
set_option maxRecDepth 100000 in
set_option maxHeartbeats 4000000 in
theorem c_DK_keepText (l : Launch) (hlT : l.stackTraces = false) (G : ct_G) (f : dw_M) (sz : Nat) (t : Nat) (us : List Int) (x ta sa yr dc bu dr qy qb qd : Nat) (gT gS : Nat → Option Nat) (c0 w0 : Int32) (T Y : List (List Int)) (B Z D : List Int) (sB sZ sD : Int) (hS : dkS G f x ta sa yr dc bu dr qy qb qd gT gS c0 w0 T Y B Z D sB sZ sD) (ht : T.length < 24 → tx G T.length f t us) : ct l y_DK_keepText w_DK_keepText (8) (120) G f sz [.ref x, .ref t] (fun v f' => v = some (.int (iI (T.length : Int))) ∧ T.length < 24 ∧ dkS G f' x ta sa yr dc bu dr qy qb qd (va_up gT T.length (some t)) gS c0 w0 (T ++ [us]) Y B Z D sB sZ sD) (fun E f' => E = "java/lang/IllegalStateException" ∧ T.length = 24 ∧ f' = f) (1) (6) := by
  refine ct_of (own := "TextDesk") (nm := "keepText") (ds := "(LTextDesk$Text;)I") (by decide) (Nat.le_of_ble_eq_true rfl) ?_
  intro p e s m args below meth c ls X hnm hr hlk hnx hs0 hz hw hl
  have hx := X.1
  have hb := X.2.1
  have hl : lv_has ls 2 [(0, .ref x), (1, .ref t)] := hl
  have hG := X.E.ok
  have hT := hS.2.2.2.2.1.1
  refine lv_aload_n hx hb d_DK_keepText_0 rfl (lv_at hl 0 rfl) ?_
  refine gf_DK_173_DK X hw hS.1 d_DK_keepText_1 ?_
  refine lv_aload_n hx hb d_DK_keepText_4 rfl (lv_at hl 0 rfl) ?_
  refine gf_DK_11_DK X hw hS.1 d_DK_keepText_5 ?_
  refine dw_alen hx hb X.K hw 3 hS.2.1 rfl d_DK_keepText_8 ?_
  refine di_icmp_lt (tgt := 22) hx hb d_DK_keepText_9 (by decide) ⟨by omega, by omega⟩ ⟨by omega, by omega⟩ (fun bq9 => ?_) (fun bq9 => ?_)
  · have ht := ht (by omega)
    refine lv_aload_n hx hb d_DK_keepText_22 rfl (lv_at hl 0 rfl) ?_
    refine gf_DK_11_DK X hw hS.1 d_DK_keepText_23 ?_
    refine lv_aload_n hx hb d_DK_keepText_26 rfl (lv_at hl 0 rfl) ?_
    refine gf_DK_173_DK X hw hS.1 d_DK_keepText_27 ?_
    refine lv_aload_n hx hb d_DK_keepText_30 rfl (lv_at hl 1 rfl) ?_
    refine ra_aast X hw hS.2.1 ht (by omega) (by omega) (by omega) d_DK_keepText_31 (fun H locs hw => ?_)
    obtain ⟨f2, e_f2⟩ : ∃ g9 : dw_M, g9 = dw_up f ta (.inl (G.2.1 3, 24, .inr (.inr (.inr (.inr (va_up gT (T.length : Int).toNat (some t))))))) := ⟨_, rfl⟩
    rw [← e_f2] at hw
    have k_f2_x : f2 x = some (.inr (5, [.ref ta, .int (iI ((T.length : Int))), .ref sa, .int (iI ((Y.length : Int))), .ref yr, .ref dc, .ref bu, .ref dr])) := by rw [e_f2]; exact dw_keep hS.1 (dw_ne hS.1 hS.2.1 (by simp))
    have k_f2_sa : f2 sa = some (.inl (G.2.1 3, 16, .inr (.inr (.inr (.inr gS))))) := by rw [e_f2]; exact dw_keep hS.2.2.1 (Ne.symm hS.2.2.2.2.1.2.2)
    have k_f2_ta : f2 ta = some (.inl (G.2.1 3, 24, .inr (.inr (.inr (.inr (va_up gT (T.length : Int).toNat (some t))))))) := by rw [e_f2]; exact dw_up_self _ _ _
    refine lv_aload_n hx hb d_DK_keepText_32 rfl (lv_at hl 0 rfl) ?_
    refine lv_dup hx hb d_DK_keepText_33 rfl ?_
    refine gf_DK_173_DK X hw k_f2_x d_DK_keepText_34 ?_
    refine lv_iconst (v := iI (1)) hx hb d_DK_keepText_37 rfl ?_
    refine di_add hx hb d_DK_keepText_38 ?_
    refine pf_DK_173_DK X hw k_f2_x (rfl) (rfl) d_DK_keepText_39 (fun H locs hw => ?_)
    obtain ⟨f3, e_f3⟩ : ∃ g9 : dw_M, g9 = dw_up f2 x (.inr (5, [.ref ta, .int (iI ((T.length : Int) + 1)), .ref sa, .int (iI ((Y.length : Int))), .ref yr, .ref dc, .ref bu, .ref dr])) := ⟨_, rfl⟩
    rw [← e_f3] at hw
    have k_f3_ta : f3 ta = some (.inl (G.2.1 3, 24, .inr (.inr (.inr (.inr (va_up gT T.length (some t))))))) := by rw [e_f3]; exact dw_keep k_f2_ta (dw_ne k_f2_ta k_f2_x (by simp))
    have k_f3_sa : f3 sa = some (.inl (G.2.1 3, 16, .inr (.inr (.inr (.inr gS))))) := by rw [e_f3]; exact dw_keep k_f2_sa (dw_ne k_f2_sa k_f2_x (by simp))
    have k_f3_x : f3 x = some (.inr (5, [.ref ta, .int (iI ((T.length : Int) + 1)), .ref sa, .int (iI ((Y.length : Int))), .ref yr, .ref dc, .ref bu, .ref dr])) := by rw [e_f3]; exact dw_up_self _ _ _
    refine lv_aload_n hx hb d_DK_keepText_42 rfl (lv_at hl 0 rfl) ?_
    refine gf_DK_173_DK X hw k_f3_x d_DK_keepText_43 ?_
    refine lv_iconst (v := iI (1)) hx hb d_DK_keepText_46 rfl ?_
    refine di_sub hx hb d_DK_keepText_47 ?_
    have hnew := hS.keep hG (f' := f3) (us := us) (by omega) ht k_f3_x k_f3_ta (fun a h8 h9 => by rw [e_f3, dw_up_ne _ _ h8, e_f2, dw_up_ne _ _ h9])
    exact ct_iret hx hb hr  hlk hw (⟨by rw [show (T.length : Int) + 1 - 1 = (T.length : Int) by omega], by omega, hnew⟩) (by omega) (by omega) d_DK_keepText_48
  · exact th_ISE X hlT hz (is := 178) (text := "there is no room for a text") (by decide +kernel) hw hl.1 hnx hlk (⟨rfl, by omega, rfl⟩) ⟨by show 8 ≤ 8; omega, by show 120 ≤ 120; omega⟩ ⟨by show 0 + 1 ≤ 1; omega, by show 0 + 6 ≤ 6; omega⟩ ⟨by show 0 + 1 ≤ 1; omega, by show 0 + 6 ≤ 6; omega⟩ (Nat.le_of_ble_eq_true rfl) d_DK_keepText_12 d_DK_keepText_15 d_DK_keepText_16 d_DK_keepText_18 d_DK_keepText_21
set_option maxRecDepth 100000 in
set_option maxHeartbeats 4000000 in
theorem c_DK_makeDraftTheBuilder (l : Launch) (G : ct_G) (f : dw_M) (sz : Nat) (x ta sa yr dc bu dr qy qb qd : Nat) (gT gS : Nat → Option Nat) (c0 w0 : Int32) (T Y : List (List Int)) (B Z D : List Int) (sB sZ sD : Int) (hS : dkS G f x ta sa yr dc bu dr qy qb qd gT gS c0 w0 T Y B Z D sB sZ sD) (rD : ∀ u ∈ D, 0 ≤ u ∧ u < 65536) : cn l y_DK_makeDraftTheBuilder w_DK_makeDraftTheBuilder (0) (0) G f sz [.ref x] (fun v f' => v = none ∧ dkS G f' x ta sa yr dc dr bu qy qd qb gT gS c0 w0 T Y D Z B sD sZ sB) (0) (0) := by
  refine cn_of (own := "TextDesk") (nm := "makeDraftTheBuilder") (ds := "()V") (by decide) (Nat.le_of_ble_eq_true rfl) ?_
  intro p e s m args below meth c ls X hnm hr hlk hs0 hz hw hl
  have hx := X.1
  have hb := X.2.1
  have hl : lv_has ls 2 [(0, .ref x)] := hl
  refine lv_aload_n hx hb d_DK_makeDraftTheBuilder_0 rfl (lv_at hl 0 rfl) ?_
  refine gf_DK_34_DK X hw hS.1 d_DK_makeDraftTheBuilder_1 ?_
  refine lv_astore_n (lv' := [(1, .ref bu), (0, .ref x)]) hx hb d_DK_makeDraftTheBuilder_4 rfl hl (by decide) rfl (fun ls hl => ?_)
  refine lv_aload_n hx hb d_DK_makeDraftTheBuilder_5 rfl (lv_at hl 1 rfl) ?_
  refine lv_aload_n hx hb d_DK_makeDraftTheBuilder_6 rfl (lv_at hl 1 rfl) ?_
  refine gf_DK_37_DK X hw hS.1 d_DK_makeDraftTheBuilder_7 ?_
  refine pf_DK_34_DK X hw hS.1 (rfl) (rfl) d_DK_makeDraftTheBuilder_10 (fun H locs hw => ?_)
  obtain ⟨f2, e_f2⟩ : ∃ g9 : dw_M, g9 = dw_up f x (.inr (5, [.ref ta, .int (iI ((T.length : Int))), .ref sa, .int (iI ((Y.length : Int))), .ref yr, .ref dc, .ref dr, .ref dr])) := ⟨_, rfl⟩
  rw [← e_f2] at hw
  have k_f2_x : f2 x = some (.inr (5, [.ref ta, .int (iI ((T.length : Int))), .ref sa, .int (iI ((Y.length : Int))), .ref yr, .ref dc, .ref dr, .ref dr])) := by rw [e_f2]; exact dw_up_self _ _ _
  refine lv_aload_n hx hb d_DK_makeDraftTheBuilder_13 rfl (lv_at hl 1 rfl) ?_
  refine lv_aload_n hx hb d_DK_makeDraftTheBuilder_14 rfl (lv_at hl 0 rfl) ?_
  refine pf_DK_37_DK X hw k_f2_x (rfl) (rfl) d_DK_makeDraftTheBuilder_15 (fun H locs hw => ?_)
  obtain ⟨f3, e_f3⟩ : ∃ g9 : dw_M, g9 = dw_up f2 x (.inr (5, [.ref ta, .int (iI ((T.length : Int))), .ref sa, .int (iI ((Y.length : Int))), .ref yr, .ref dc, .ref dr, .ref bu])) := ⟨_, rfl⟩
  rw [← e_f3] at hw
  have k_f3_x : f3 x = some (.inr (5, [.ref ta, .int (iI ((T.length : Int))), .ref sa, .int (iI ((Y.length : Int))), .ref yr, .ref dc, .ref dr, .ref bu])) := by rw [e_f3]; exact dw_up_self _ _ _
  exact cn_vret hx hb hr hlk hw  (⟨rfl, hS.swap k_f3_x (fun a h8 => by rw [e_f3, dw_up_ne _ _ h8, e_f2, dw_up_ne _ _ h8]) rD⟩) (Nat.le_refl _) (Nat.le_refl _) d_DK_makeDraftTheBuilder_18
set_option maxRecDepth 100000 in
set_option maxHeartbeats 4000000 in
theorem c_DK_refuseSpilledDraft (l : Launch) (hlT : l.stackTraces = false) (G : ct_G) (f : dw_M) (sz : Nat) (x ta sa yr dc bu dr qy qb qd : Nat) (gT gS : Nat → Option Nat) (c0 w0 : Int32) (T Y : List (List Int)) (B Z D : List Int) (sB sZ sD : Int) (hS : dkS G f x ta sa yr dc bu dr qy qb qd gT gS c0 w0 T Y B Z D sB sZ sD) (hsD : sD = 0 ∨ sD = 1) : ct l y_DK_refuseSpilledDraft w_DK_refuseSpilledDraft (8) (120) G f sz [.ref x] (fun v f' => v = none ∧ sD = 0 ∧ f' = f) (fun E f' => E = "java/lang/IllegalStateException" ∧ sD = 1 ∧ f' = f) (1) (6) := by
  refine ct_of (own := "TextDesk") (nm := "refuseSpilledDraft") (ds := "()V") (by decide) (Nat.le_of_ble_eq_true rfl) ?_
  intro p e s m args below meth c ls X hnm hr hlk hnx hs0 hz hw hl
  have hx := X.1
  have hb := X.2.1
  have hl : lv_has ls 1 [(0, .ref x)] := hl
  have hd := hS.2.2.2.2.2.2.2.1.2.2
  refine lv_aload_n hx hb d_DK_refuseSpilledDraft_0 rfl (lv_at hl 0 rfl) ?_
  refine gf_DK_37_DK X hw hS.1 d_DK_refuseSpilledDraft_1 ?_
  refine cs_DK_180 X hz hw hl.1 hd.choose_spec.1 (c_RW_hasSpilled l G f _ dr qd 60 D sD hsD hd) ⟨Nat.le_of_ble_eq_true rfl, Nat.le_of_ble_eq_true rfl⟩ ⟨by show 0 + 0 ≤ 1; omega, by show 0 + 0 ≤ 6; omega⟩ (Nat.le_of_ble_eq_true rfl) d_DK_refuseSpilledDraft_4 (fun v f9 H locs hp hw hsz9 hkp9 hdm9 => ?_)
  obtain ⟨rfl, hfe⟩ := hp
  rw [hfe] at hw
  refine W.eq (g2 := F0 m 7 ls [.int (iI sD)]) rfl ?_
  refine di_if_eq (tgt := 20) hx hb d_DK_refuseSpilledDraft_7 (by decide) ⟨by omega, by omega⟩ (fun bq7 => ?_) (fun bq7 => ?_)
  · exact ct_vret hx hb hr  hlk hw (⟨rfl, by omega, rfl⟩) (by omega) (by omega) d_DK_refuseSpilledDraft_20
  · exact th_ISE X hlT hz (is := 183) (text := "there would be too many units") (by decide +kernel) hw hl.1 hnx hlk (⟨rfl, by omega, rfl⟩) ⟨by show 8 ≤ 8; omega, by show 120 ≤ 120; omega⟩ ⟨by show 0 + 1 ≤ 1; omega, by show 0 + 6 ≤ 6; omega⟩ ⟨by show 0 + 1 ≤ 1; omega, by show 0 + 6 ≤ 6; omega⟩ (Nat.le_of_ble_eq_true rfl) d_DK_refuseSpilledDraft_10 d_DK_refuseSpilledDraft_13 d_DK_refuseSpilledDraft_14 d_DK_refuseSpilledDraft_16 d_DK_refuseSpilledDraft_19
end
