def dk_strs : List (String × Nat × String) := [("TextDesk", 43, "no unit"), ("TextDesk", 54, "the builder is full"), ("TextDesk", 169, "no such text"), ("TextDesk", 68, "no such place"), ("TextDesk", 176, "there would be too many units"), ("TextDesk", 178, "no such range"), ("TextDesk", 186, "there is nothing at this place"), ("TextDesk", 171, "there is no room for a text"), ("TextDesk", 108, "the text would be too long"), ("TextDesk", 128, "no such character"), ("TextDesk", 145, "the table of symbols is full"), ("TextDesk", 180, "no such encoding"), ("TextDesk", 156, "no byte"), ("TextDesk", 158, "there is no room for a byte"), ("TextDesk", 166, "there is a bad row of bytes")]
def dk_nst : List (String × Nat × MethodName × String) := [("TextDesk$Row", 3, ⟨"TextDesk$Sequence", "<init>", "()V"⟩, "TextDesk"), ("TextDesk", 29, ⟨"TextDesk$Decoder", "<init>", "()V"⟩, "TextDesk"), ("TextDesk$JoinedText", 37, ⟨"TextDesk", "textOf", "(LTextDesk$Row;)LTextDesk$Text;"⟩, "TextDesk"), ("TextDesk$Text", 1, ⟨"TextDesk$Sequence", "<init>", "()V"⟩, "TextDesk"), ("TextDesk$Encoder", 15, ⟨"TextDesk", "characterAt", "(LTextDesk$Sequence;I)I"⟩, "TextDesk"), ("TextDesk$Encoder", 30, ⟨"TextDesk", "isHigh", "(I)Z"⟩, "TextDesk"), ("TextDesk$Encoder", 34, ⟨"TextDesk", "isLow", "(I)Z"⟩, "TextDesk")]
def dk_dcl : List MethodName := [⟨"java/lang/RuntimeException", "<init>", "()V"⟩, ⟨"java/lang/RuntimeException", "<init>", "(Ljava/lang/String;)V"⟩, ⟨"java/lang/Exception", "<init>", "()V"⟩, ⟨"java/lang/Exception", "<init>", "(Ljava/lang/String;)V"⟩, ⟨"java/lang/Throwable", "<init>", "()V"⟩, ⟨"java/lang/Throwable", "<init>", "(Ljava/lang/String;)V"⟩, ⟨"TextDesk$Sequence", "size", "()I"⟩, ⟨"TextDesk$Sequence", "get", "(I)I"⟩, ⟨"TextDesk$Text", "size", "()I"⟩]
def dk_cst : List (String × String) := [("java/lang/IllegalArgumentException", "java/lang/IllegalArgumentException"), ("java/lang/IllegalStateException", "java/lang/IllegalStateException"), ("java/lang/IndexOutOfBoundsException", "java/lang/IndexOutOfBoundsException"), ("java/lang/UnsupportedOperationException", "java/lang/UnsupportedOperationException"), ("TextDesk$JoinedText", "TextDesk$Text"), ("TextDesk$NarrowText", "TextDesk$Text"), ("TextDesk$WideText", "TextDesk$Text")]
def dk_aos : List String := ["TextDesk$Text"]
def dk_ncs : List (String × String) := [("java/lang/IllegalStateException", "java/lang/IllegalArgumentException"), ("java/lang/IndexOutOfBoundsException", "java/lang/IllegalArgumentException"), ("java/lang/IllegalStateException", "java/lang/IndexOutOfBoundsException"), ("java/lang/UnsupportedOperationException", "java/lang/IllegalArgumentException"), ("java/lang/IllegalStateException", "java/lang/UnsupportedOperationException")]
/-! CONTRACTS over maps. G = (the classes' numbers and slots, the array classes, z0): cells below z0 are older than the law's run and never written. -/
abbrev ct_G : Type := va_G × (Nat → ClassId) × Nat
/-- the array classes: int, byte, char, Text, long -/
abbrev dk_tys (G : ct_G) : List (ClassId × FieldType) := [(G.2.1 0, .int), (G.2.1 1, .byte), (G.2.1 2, .char), (G.2.1 3, .object "TextDesk$Text"), (G.2.1 4, .long)]
/-- what a walk needs beside its words -/
def ct_E (G : ct_G) (U : State) : Prop :=
  va_K G.1 dk_cl (dk_tys G) U ∧ (vx_Zq Bundle.tN "UNASSIGNED_STACK" Bundle.steD (fun q => G.2.2 ≤ q) U U.heap ∧ vx_Zq Bundle.tN "SUPPRESSED_SENTINEL" Bundle.listD (fun q => G.2.2 ≤ q) U U.heap) ∧ (∀ q ∈ dk_strs, ∃ a : Nat, vk_R q.1 q.2.1 q.2.2 a U) ∧ (∀ q ∈ dk_nst, va_Nw (.methodLinkNest q.1 q.2.1 q.2.2.1 q.2.2.2) U) ∧ (∀ x ∈ dk_dcl, va_Nw (.declares x) U) ∧ (∀ q ∈ dk_cst, va_Nw (.castable q.1 q.2) U) ∧ (∀ C ∈ dk_aos, va_AO C U) ∧ ∀ q ∈ dk_ncs, va_Nc q.1 q.2 U
/-- what a method's own start says of the kind A of the cells it may write -/
def ct_z (G : ct_G) (A : Nat → Prop) (s : State) : Prop := (∀ q, A q → G.2.2 ≤ q) ∧ G.2.2 ≤ s.heap.size
theorem ct_E.same {G : ct_G} {s U : State} (h : ct_E G s) (hv : s.vm = U.vm) (hh : U.heap = s.heap) : ct_E G U := by
  obtain ⟨h1, ⟨h2, h3⟩, h4, h5, h6, h7, h8, h9⟩ := h
  have ha : s.vm.Alike U.vm := by rw [hv]; exact Vm.Alike.refl _
  refine ⟨h1.moved ha, ⟨by rw [hh]; exact h2.moved ha, by rw [hh]; exact h3.moved ha⟩, fun q hq => ?_, fun q hq => (h5 q hq).same rfl hv, fun x hx => (h6 x hx).same rfl hv, fun q hq => (h7 q hq).same rfl hv, fun C hC => (h8 C hC).moved ha, fun q hq => (h9 q hq).moved ha⟩
  obtain ⟨a, e⟩ := h4 q hq
  exact ⟨a, e.same hv.symm⟩
theorem ct_E.at {G : ct_G} {s U : State} {A : Nat → Prop} {H : Heap} {locs : List Loc} (h : ct_E G s) (hz : ct_z G A s) (hS : va_S A s.heap H locs) (hU : U.heap = H) (hW : s.WarmedH U.vm) : ct_E G U := by
  obtain ⟨h1, ⟨h2, h3⟩, h4, h5, h6, h7, h8, h9⟩ := h
  have hk : ∀ a : Nat, a < s.heap.size → ¬ G.2.2 ≤ a → U.heap[a]? = s.heap[a]? := fun a h10 n9 => by
    rw [hU]
    exact hS.2.1 a h10 (fun q => n9 (hz.1 a q))
  refine ⟨h1.moved hW.alike, ⟨(h2.kept hk).moved hW.alike, (h3.kept hk).moved hW.alike⟩, fun q hq => ?_, fun q hq => (h5 q hq).warmM hW, fun x hx => (h6 x hx).warmD hW, fun q hq => (h7 q hq).warmC hW, fun C hC => (h8 C hC).moved hW.alike, fun q hq => (h9 q hq).moved hW.alike⟩
  obtain ⟨a, e⟩ := h4 q hq
  exact ⟨a, e.warm hW⟩
def ct_P (G : ct_G) (f : dw_M) (sz : Nat) (av : List Value) : Array Value → State → Prop := fun v U =>
  v = av.toArray ∧ U.heap.size = sz ∧ ct_E G U ∧ (∀ (a : Nat) (x : va_E), f a = some x → va_at G.1 dk_cl (a, x) U.heap ∧ G.2.2 ≤ a) ∧ G.2.2 ≤ sz
def ct_Q (G : ct_G) (f : dw_M) (sz : Nat) (post : Option Value → dw_M → Prop) : Array Value → State → Outcome → State → Prop := fun _ st oc t =>
  ∃ (v : Option Value) (f' : dw_M), oc = .returned v ∧ post v f' ∧ (∀ (a : Nat) (x : va_E), f' a = some x → va_at G.1 dk_cl (a, x) t.heap ∧ dw_A f sz a) ∧ va_F (dw_A f sz) st t
def ct_X (G : ct_G) (f : dw_M) (sz : Nat) (px : String → dw_M → Prop) : String → State → State → Prop := fun E st t =>
  ∃ f' : dw_M, px E f' ∧ (∀ (a : Nat) (x : va_E), f' a = some x → va_at G.1 dk_cl (a, x) t.heap ∧ dw_A f sz a) ∧ va_F (dw_A f sz) st t
/-- THE CONTRACT: from the map f and the arguments av the method returns with 'post answer map', or throws E with 'px E map'; at most mc cells of ms slots are new -/
def ct (l : Launch) (y : MethodName) (ws : List Cond) (fr lo : Nat) (G : ct_G) (f : dw_M) (sz : Nat) (av : List Value) (post : Option Value → dw_M → Prop) (px : String → dw_M → Prop) (mc ms : Nat) : Prop :=
  vx_Met l y ws { frames := fr, locals := lo, cells := mc, slots := ms } (ct_P G f sz av) (ct_Q G f sz post) (ct_X G f sz px) mc ms (dw_A f sz)
def ct_no : String → dw_M → Prop := fun _ _ => False
theorem ct_blind (G : ct_G) (f : dw_M) (sz : Nat) (av : List Value) : FrameBlind (ct_P G f sz av) := fun a U g mk h => ⟨h.1, h.2.1, h.2.2.1.same (U := U.calling g mk a) rfl rfl, h.2.2.2⟩
theorem ct_pre {G : ct_G} {s : State} {A : Nat → Prop} {f : dw_M} {H : Heap} {locs : List Loc} (av : List Value) (hE : ct_E G s) (hz : ct_z G A s) (hw : dw G.1 dk_cl A s.heap f H locs) : ∀ U : State, U.heap = H → s.WarmedH U.vm → ct_P G f H.size av av.toArray U := fun U hU hW =>
  ⟨rfl, by rw [hU], hE.at hz hw.2.1 hU hW, fun a x h => ⟨by rw [hU]; exact (hw.1 a x h).1, hz.1 a (hw.1 a x h).2⟩, Nat.le_trans hz.2 hw.2.1.1⟩
section CTR
variable {p : Program} {l : Launch} {e : Env} {R : Room} {s : State} {m : MethodId} {args : Array Value} {below : List Frame} {meth : Method} {c : Code} {H : Heap} {locs : List Loc} {cells slots : Nat} {Q : State → Prop}
variable {cc : ByteArray} {pc : Nat} {ls : Array Slot} {rest st0 : List Value} {G : ct_G} {A : Nat → Prop} {H0 : Heap} {f : dw_M} {mc ms : Nat} {post : Option Value → dw_M → Prop} {px : String → dw_M → Prop} {a : Array Value}
theorem ct_sub (hw : dw G.1 dk_cl A H0 f H locs) : ∀ q, dw_A f H.size q → A q := fun q h => by
  rcases h with ⟨x, hx⟩ | h
  · exact (hw.1 q x hx).2
  · exact hw.2.2 q (Nat.le_trans hw.2.1.1 h)
/-- behind a call -/
theorem ct_call (hr : vx_Run p l e R s m args below meth c H locs cells slots mc ms (F0 m pc ls st0) rest (ct_Q G f H.size post a) (ct_X G f H.size px) (dw_A f H.size)) (hw : dw G.1 dk_cl A H0 f H locs)
    (kx : ∀ (E : String) (ce : Cell) (q9 : Addr) (f' : dw_M) (H1 : Heap) (locs1 : List Loc), px E f' → dw G.1 dk_cl A H0 f' H1 locs1 → H.size ≤ H1.size → (∀ q : Nat, q < H.size → ¬ dw_A f H.size q → H1[q]? = H[q]?) → (∀ q x, f' q = some x → dw_A f H.size q) → H1[q9]? = some ce → ce.vm = .none → s.vm.findClass E = some ce.cls → vx_W p l e R s m args below meth c H1 locs1 (cells + mc) (slots + ms) Q (F0 m pc ls rest) q9)
    (kk : ∀ (v : Option Value) (f' : dw_M) (H1 : Heap) (locs1 : List Loc), post v f' → dw G.1 dk_cl A H0 f' H1 locs1 → H.size ≤ H1.size → (∀ q : Nat, q < H.size → ¬ dw_A f H.size q → H1[q]? = H[q]?) → (∀ q x, f' q = some x → dw_A f H.size q) → W p l e R s m args below meth c H1 locs1 (cells + mc) (slots + ms) Q (F0 m (pc + 3) ls (v.toList ++ rest))) : W p l e R s m args below meth c H locs cells slots Q (F0 m pc ls st0) := by
  intro T hT X
  have hsub := ct_sub hw
  rcases hr T hT X with ⟨v, st₀, t, T', L, h0, X', hL, e1, e2, ⟨v', f', hv, hp, hf', hF⟩, st⟩ | ⟨q, st₀, t, T', L, E, ce, h0, X', hL, e1, e2, ⟨f', hp, hf', hF⟩, hce, hcv, hcl, st⟩
  · cases hv
    obtain ⟨k1, k2, k3⟩ := vx_keep h0 e1 hw.2.1 (fun q _ h => hsub q h) hsub hL hF
    obtain ⟨t2, a1, b1⟩ := kk v f' T'.heap (locs ++ L) hp ⟨fun a x h => ⟨by rw [e1]; exact (hf' a x h).1, hsub a (hf' a x h).2⟩, k3, hw.2.2⟩ k1 k2 (fun q x h => (hf' q x h).2) T' rfl X'
    exact ⟨t2, st t2 a1, b1⟩
  · obtain ⟨k1, k2, k3⟩ := vx_keep h0 e1 hw.2.1 (fun q _ h => hsub q h) hsub hL hF
    obtain ⟨t2, a1, b1⟩ := kx E ce q f' T'.heap (locs ++ L) hp ⟨fun a x h => ⟨by rw [e1]; exact (hf' a x h).1, hsub a (hf' a x h).2⟩, k3, hw.2.2⟩ k1 k2 (fun q x h => (hf' q x h).2) (by rw [e1]; exact hce) hcv hcl T' rfl X'
    exact ⟨t2, st.trans a1, b1⟩
/-- the world at a method's start -/
theorem ct_start {sz : Nat} {av : List Value} (h : ct_P G f sz av args s) : args = av.toArray ∧ s.heap.size = sz ∧ ct_E G s ∧ ct_z G (dw_A f sz) s ∧ dw G.1 dk_cl (dw_A f sz) s.heap f s.heap [] := by
  obtain ⟨h1, h2, h3, h4, h5⟩ := h
  subst h2
  refine ⟨h1, rfl, h3, ⟨fun q hq => ?_, h5⟩, fun a x hx => ⟨(h4 a x hx).1, Or.inl ⟨x, hx⟩⟩, va_S.rf, fun q hq => Or.inr hq⟩
  rcases hq with ⟨x, hx⟩ | hq
  · exact (h4 q x hx).2
  · exact Nat.le_trans h5 hq
variable {f0 : dw_M} {sz : Nat}
/-- the ends of a method -/
theorem ct_iret {v : Int32} (hexec : p.tables.exec = Jvm.exec) (hb : c.code = cc) (hr : meth.sig.returnType = some .int) (hlocks : meth.locks = false) (hw : dw G.1 dk_cl (dw_A f0 sz) s.heap f H locs) (hp : post (some (.int v)) f) (hc : cells ≤ mc) (hs : slots ≤ ms) (hdg : decode cc pc = .ok (.ireturn, 1)) :
    W p l e R s m args below meth c H locs cells slots (vx_MQ below (ct_Q G f0 sz post) (ct_X G f0 sz px) args s mc ms (dw_A f0 sz)) (F0 m pc ls [.int v]) :=
  W.widen hc hs (vx_ret (W.iret hexec hb hr (fun t ht _ => ⟨_, f, rfl, hp, fun a x h => ⟨by rw [ht]; exact (hw.1 a x h).1, (hw.1 a x h).2⟩, hw.2.1.F ht⟩) hw.2.1.2.2 hdg hlocks))
theorem ct_zret {v : Int32} (hexec : p.tables.exec = Jvm.exec) (hb : c.code = cc) (hr : meth.sig.returnType = some .boolean) (hn : narrow .boolean (.int v) = .int v) (hlocks : meth.locks = false) (hw : dw G.1 dk_cl (dw_A f0 sz) s.heap f H locs) (hp : post (some (.int v)) f) (hc : cells ≤ mc) (hs : slots ≤ ms) (hdg : decode cc pc = .ok (.ireturn, 1)) :
    W p l e R s m args below meth c H locs cells slots (vx_MQ below (ct_Q G f0 sz post) (ct_X G f0 sz px) args s mc ms (dw_A f0 sz)) (F0 m pc ls [.int v]) :=
  W.widen hc hs (vx_ret (W.zret hexec hb hr hn (fun t ht _ => ⟨_, f, rfl, hp, fun a x h => ⟨by rw [ht]; exact (hw.1 a x h).1, (hw.1 a x h).2⟩, hw.2.1.F ht⟩) hw.2.1.2.2 hdg hlocks))
theorem ct_vret (hexec : p.tables.exec = Jvm.exec) (hb : c.code = cc) (hr : meth.sig.returnType = none) (hlocks : meth.locks = false) (hw : dw G.1 dk_cl (dw_A f0 sz) s.heap f H locs) (hp : post none f) (hc : cells ≤ mc) (hs : slots ≤ ms) (hdg : decode cc pc = .ok (.return_, 1)) :
    W p l e R s m args below meth c H locs cells slots (vx_MQ below (ct_Q G f0 sz post) (ct_X G f0 sz px) args s mc ms (dw_A f0 sz)) (F0 m pc ls []) :=
  W.widen hc hs (vx_ret (W.vret hexec hb hr (fun t ht _ => ⟨_, f, rfl, hp, fun a x h => ⟨by rw [ht]; exact (hw.1 a x h).1, (hw.1 a x h).2⟩, hw.2.1.F ht⟩) hw.2.1.2.2 hdg hlocks))
theorem ct_aret {v : Value} {C : String} (hexec : p.tables.exec = Jvm.exec) (hb : c.code = cc) (hr : meth.sig.returnType = some (.object C)) (hv : v = .null ∨ ∃ a, v = .ref a) (hlocks : meth.locks = false) (hw : dw G.1 dk_cl (dw_A f0 sz) s.heap f H locs) (hp : post (some v) f) (hc : cells ≤ mc) (hs : slots ≤ ms) (hdg : decode cc pc = .ok (.areturn, 1)) :
    W p l e R s m args below meth c H locs cells slots (vx_MQ below (ct_Q G f0 sz post) (ct_X G f0 sz px) args s mc ms (dw_A f0 sz)) (F0 m pc ls [v]) :=
  W.widen hc hs (vx_ret (W.aret hexec hb hr (Or.inl ⟨C, rfl⟩) hv (fun t ht _ => ⟨_, f, rfl, hp, fun a x h => ⟨by rw [ht]; exact (hw.1 a x h).1, (hw.1 a x h).2⟩, hw.2.1.F ht⟩) hw.2.1.2.2 hdg hlocks))
/-- an exception of a callee leaves -/
theorem ct_out {E : String} {ce : Cell} {q : Addr} (hout : ∀ x ∈ c.exceptionTable.toList, False) (hlocks : meth.locks = false) (hw : dw G.1 dk_cl (dw_A f0 sz) s.heap f H locs) (hp : px E f) (hcell : H[q]? = some ce) (hv : ce.vm = .none) (hcl : s.vm.findClass E = some ce.cls) (hc : cells ≤ mc) (hs : slots ≤ ms) :
    vx_W p l e R s m args below meth c H locs cells slots (vx_MQ below (ct_Q G f0 sz post) (ct_X G f0 sz px) args s mc ms (dw_A f0 sz)) (F0 m pc ls rest) q :=
  vx_out (fun x hx => (hout x hx).elim) hlocks hcell hv hcl (fun t ht _ => ⟨f, hp, fun a x h => ⟨by rw [ht]; exact (hw.1 a x h).1, (hw.1 a x h).2⟩, hw.2.1.F ht⟩) hw.2.1.2.2 hc hs
end CTR
/-- what is at hand in a method's walk -/
def cx (G : ct_G) (own : String) (p : Program) (s : State) (m : MethodId) (args : Array Value) (c : Code) (cc : ByteArray) (nL : Nat) : Prop :=
  p.tables.exec = Jvm.exec ∧ c.code = cc ∧ c.maxLocals = nL ∧ s.vm.findClass own = some m.cls ∧ (∀ w ∈ dk_all, w.before args s = true) ∧ ct_E G s
theorem cx.fix {G : ct_G} {own : String} {p : Program} {s : State} {m : MethodId} {args : Array Value} {c : Code} {cc : ByteArray} {nL : Nat} (X : cx G own p s m args c cc nL) : CallFix p m c cc nL s args dk_all own := ⟨X.1, X.2.1, X.2.2.1, X.2.2.2.1, X.2.2.2.2.1⟩
theorem cx.hts {G : ct_G} {own : String} {p : Program} {s : State} {m : MethodId} {args : Array Value} {c : Code} {cc : ByteArray} {nL : Nat} (X : cx G own p s m args c cc nL) : ∀ w ∈ dk_all, w.before args s = true := X.2.2.2.2.1
theorem cx.own {G : ct_G} {own : String} {p : Program} {s : State} {m : MethodId} {args : Array Value} {c : Code} {cc : ByteArray} {nL : Nat} (X : cx G own p s m args c cc nL) : s.vm.findClass own = some m.cls := X.2.2.2.1
theorem cx.E {G : ct_G} {own : String} {p : Program} {s : State} {m : MethodId} {args : Array Value} {c : Code} {cc : ByteArray} {nL : Nat} (X : cx G own p s m args c cc nL) : ct_E G s := X.2.2.2.2.2
theorem cx.K {G : ct_G} {own : String} {p : Program} {s : State} {m : MethodId} {args : Array Value} {c : Code} {cc : ByteArray} {nL : Nat} (X : cx G own p s m args c cc nL) : va_K G.1 dk_cl (dk_tys G) s := X.2.2.2.2.2.1
/-- THE START of a method without handlers -/
theorem ct_of {l : Launch} {own nm ds : String} {cc : ByteArray} {maxL : Nat} {ret : Option FieldType} {fr lo : Nat} {G : ct_G} {f : dw_M} {sz : Nat} {av : List Value} {post : Option Value → dw_M → Prop} {px : String → dw_M → Prop} {mc ms : Nat}
    (hy : plainName own = true) (hn : (lg_sl av).length ≤ maxL)
    (body : ∀ (p : Program) (e : Env) (s : State) (m : MethodId) (args : Array Value) (below : List Frame) (meth : Method) (c : Code) (ls : Array Slot), cx G own p s m args c cc maxL → meth.name = nm → meth.sig.returnType = ret → meth.locks = false → (∀ x ∈ c.exceptionTable.toList, False) → s.heap.size = sz → ct_z G (dw_A f sz) s → dw G.1 dk_cl (dw_A f sz) s.heap f s.heap [] → lv_has ls maxL (lv_args 0 av) →
      W p l e { frames := fr, locals := lo, cells := mc, slots := ms } s m args below meth c s.heap [] 0 0 (vx_MQ below (ct_Q G f sz post) (ct_X G f sz px) args s mc ms (dw_A f sz)) (F0 m 0 ls [])) :
    ct l ⟨own, nm, ds⟩ (Cond.code ⟨own, nm, ds⟩ cc maxL ret :: dk_all) fr lo G f sz av post px mc ms := by
  refine vx_ofW (cc := cc) (maxL := maxL) (ret := ret) hy rfl ?_
  intro p e s m args below meth c s₁ B hml ht hP
  obtain ⟨h1, h2, h3, h4, h5⟩ := ct_start hP
  subst h1
  have hts := atoms_spec (ws := Cond.code ⟨own, nm, ds⟩ cc maxL ret :: dk_all) B.pre
  rw [lg_entry_eq]
  exact body p e s m _ below meth c _ ⟨B.exec, B.bytes, hml, findClass_of_methodNamed B.named, fun w h => hts w (List.mem_cons_of_mem _ h), h3⟩ (name_of_methodNamed B.named B.method).1 B.returns B.notSynchronized ht h2 h4 h5 (lv_entry av hn)
/-- .. with handlers -/
theorem ct_ofH {l : Launch} {own nm ds : String} {cc : ByteArray} {maxL : Nat} {ret : Option FieldType} {hh : List (Nat × Nat × Nat × Nat)} {fr lo : Nat} {G : ct_G} {f : dw_M} {sz : Nat} {av : List Value} {post : Option Value → dw_M → Prop} {px : String → dw_M → Prop} {mc ms : Nat}
    (hy : plainName own = true) (hn : (lg_sl av).length ≤ maxL)
    (body : ∀ (p : Program) (e : Env) (s : State) (m : MethodId) (args : Array Value) (below : List Frame) (meth : Method) (c : Code) (ls : Array Slot), cx G own p s m args c cc maxL → meth.name = nm → meth.sig.returnType = ret → meth.locks = false → c.exceptionTable.toList = tableOf hh → s.heap.size = sz → ct_z G (dw_A f sz) s → dw G.1 dk_cl (dw_A f sz) s.heap f s.heap [] → lv_has ls maxL (lv_args 0 av) →
      W p l e { frames := fr, locals := lo, cells := mc, slots := ms } s m args below meth c s.heap [] 0 0 (vx_MQ below (ct_Q G f sz post) (ct_X G f sz px) args s mc ms (dw_A f sz)) (F0 m 0 ls [])) :
    ct l ⟨own, nm, ds⟩ (Cond.codeWith ⟨own, nm, ds⟩ cc maxL ret hh :: dk_all) fr lo G f sz av post px mc ms := by
  refine vx_ofWH (cc := cc) (maxL := maxL) (ret := ret) (hh := hh) hy rfl ?_
  intro p e s m args below meth c s₁ B hml hP
  obtain ⟨h1, h2, h3, h4, h5⟩ := ct_start hP
  subst h1
  have hts := atoms_spec (ws := Cond.codeWith ⟨own, nm, ds⟩ cc maxL ret hh :: dk_all) B.pre
  have htab := vx_table (x := ⟨own, nm, ds⟩) B (hts _ List.mem_cons_self)
  rw [lg_entry_eq]
  exact body p e s m _ below meth c _ ⟨B.exec, B.bytes, hml, findClass_of_methodNamed B.named, fun w h => hts w (List.mem_cons_of_mem _ h), h3⟩ (name_of_methodNamed B.named B.method).1 B.returns B.notSynchronized htab h2 h4 h5 (lv_entry av hn)
theorem dk_gV {own C : String} {idx : Nat} {y : MethodName} {w : Cond} (h1 : Cond.methodLink own idx y ∈ dk_all) (h2 : Cond.instanceMethod y ∈ dk_all) (h3 : Cond.selects C y y ∈ dk_all) (h4 : Cond.initialized C ∈ dk_all) (hc : w ∈ dk_all) : GoodIn dk_all (wsV own idx C y (w :: dk_all)) := fun v hv => by
  unfold wsV at hv
  rcases List.mem_append.mp hv with h | h
  · simp only [List.mem_cons, List.not_mem_nil, or_false] at h
    rcases h with rfl | rfl | rfl | rfl
    · exact dk_good _ h1
    · exact dk_good _ h2
    · exact dk_good _ h3
    · exact dk_good _ h4
  · exact dk_goodc hc v h
theorem dk_gS {own : String} {idx : Nat} {y : MethodName} {w : Cond} (h1 : Cond.methodLink own idx y ∈ dk_all) (h2 : Cond.static y ∈ dk_all) (h3 : Cond.initialized y.cls ∈ dk_all) (hc : w ∈ dk_all) : GoodIn dk_all (va_wsS own idx y (w :: dk_all)) := fun v hv => by
  unfold va_wsS at hv
  rcases List.mem_append.mp hv with h | h
  · simp only [List.mem_cons, List.not_mem_nil, or_false] at h
    rcases h with rfl | rfl | rfl
    · exact dk_good _ h1
    · exact dk_good _ h2
    · exact dk_good _ h3
  · exact dk_goodc hc v h
theorem dk_gU {own C owner : String} {idx : Nat} {x y : MethodName} {w : Cond} (h1 : Cond.methodLink own idx x ∈ dk_all) (h2 : Cond.sameMethod x.cls owner x.name x.desc ∈ dk_all) (h3 : Cond.selects C x y ∈ dk_all) (h4 : Cond.instanceMethod y ∈ dk_all) (h5 : Cond.initialized y.cls ∈ dk_all) (hc : w ∈ dk_all) : GoodIn dk_all (va_wsU own idx C owner x y (w :: dk_all)) := fun v hv => by
  unfold va_wsU at hv
  rcases List.mem_append.mp hv with h | h
  · simp only [List.mem_cons, List.not_mem_nil, or_false] at h
    rcases h with rfl | rfl | rfl | rfl | rfl
    · exact dk_good _ h1
    · exact dk_good _ h2
    · exact dk_good _ h3
    · exact dk_good _ h4
    · exact dk_good _ h5
  · exact dk_goodc hc v h
theorem dk_gO {own C owner : String} {idx : Nat} {x y : MethodName} {w : Cond} (h1 : Cond.methodLink own idx x ∈ dk_all) (h2 : Cond.sameMethod x.cls owner x.name x.desc ∈ dk_all) (h0 : Cond.instanceMethod ⟨owner, x.name, x.desc⟩ ∈ dk_all) (h3 : Cond.selects C x y ∈ dk_all) (h4 : Cond.instanceMethod y ∈ dk_all) (h5 : Cond.initialized y.cls ∈ dk_all) (hc : w ∈ dk_all) : GoodIn dk_all (va_wsO own idx C owner x y (w :: dk_all)) := fun v hv => by
  unfold va_wsO at hv
  rcases List.mem_append.mp hv with h | h
  · simp only [List.mem_cons, List.not_mem_nil, or_false] at h
    rcases h with rfl | rfl | rfl | rfl | rfl | rfl
    · exact dk_good _ h1
    · exact dk_good _ h2
    · exact dk_good _ h0
    · exact dk_good _ h3
    · exact dk_good _ h4
    · exact dk_good _ h5
  · exact dk_goodc hc v h
/-- THE CONTRACT of a method that never throws -/
def cn (l : Launch) (y : MethodName) (ws : List Cond) (fr lo : Nat) (G : ct_G) (f : dw_M) (sz : Nat) (av : List Value) (post : Option Value → dw_M → Prop) (mc ms : Nat) : Prop :=
  Met l y ws { frames := fr, locals := lo, cells := mc, slots := ms } (ct_P G f sz av) (ct_Q G f sz post) mc ms (dw_A f sz)
theorem cn_of {l : Launch} {own nm ds : String} {cc : ByteArray} {maxL : Nat} {ret : Option FieldType} {fr lo : Nat} {G : ct_G} {f : dw_M} {sz : Nat} {av : List Value} {post : Option Value → dw_M → Prop} {mc ms : Nat}
    (hy : plainName own = true) (hn : (lg_sl av).length ≤ maxL)
    (body : ∀ (p : Program) (e : Env) (s : State) (m : MethodId) (args : Array Value) (below : List Frame) (meth : Method) (c : Code) (ls : Array Slot), cx G own p s m args c cc maxL → meth.name = nm → meth.sig.returnType = ret → meth.locks = false → s.heap.size = sz → ct_z G (dw_A f sz) s → dw G.1 dk_cl (dw_A f sz) s.heap f s.heap [] → lv_has ls maxL (lv_args 0 av) →
      W p l e { frames := fr, locals := lo, cells := mc, slots := ms } s m args below meth c s.heap [] 0 0 (MQ below (ct_Q G f sz post) args s mc ms (dw_A f sz)) (F0 m 0 ls [])) :
    cn l ⟨own, nm, ds⟩ (Cond.code ⟨own, nm, ds⟩ cc maxL ret :: dk_all) fr lo G f sz av post mc ms := by
  refine Met.ofW (cc := cc) (maxL := maxL) (ret := ret) hy rfl ?_
  intro p e s m args below meth c s₁ B hml hP
  obtain ⟨h1, h2, h3, h4, h5⟩ := ct_start hP
  subst h1
  have hts := atoms_spec (ws := Cond.code ⟨own, nm, ds⟩ cc maxL ret :: dk_all) B.pre
  rw [lg_entry_eq]
  exact body p e s m _ below meth c _ ⟨B.exec, B.bytes, hml, findClass_of_methodNamed B.named, fun w h => hts w (List.mem_cons_of_mem _ h), h3⟩ (name_of_methodNamed B.named B.method).1 B.returns B.notSynchronized h2 h4 h5 (lv_entry av hn)
section CNR
variable {p : Program} {l : Launch} {e : Env} {R : Room} {s : State} {m : MethodId} {args : Array Value} {below : List Frame} {meth : Method} {c : Code} {H : Heap} {locs : List Loc} {cells slots : Nat} {Q : State → Prop}
variable {cc : ByteArray} {pc : Nat} {ls : Array Slot} {rest st0 : List Value} {G : ct_G} {A : Nat → Prop} {H0 : Heap} {f f0 : dw_M} {sz mc ms : Nat} {post : Option Value → dw_M → Prop} {a : Array Value}
theorem cn_call (hr : va_Run p l e R s m args below meth c H locs cells slots mc ms (F0 m pc ls st0) rest (ct_Q G f H.size post a) (dw_A f H.size)) (hw : dw G.1 dk_cl A H0 f H locs)
    (kk : ∀ (v : Option Value) (f' : dw_M) (H1 : Heap) (locs1 : List Loc), post v f' → dw G.1 dk_cl A H0 f' H1 locs1 → H.size ≤ H1.size → (∀ q : Nat, q < H.size → ¬ dw_A f H.size q → H1[q]? = H[q]?) → (∀ q x, f' q = some x → dw_A f H.size q) → W p l e R s m args below meth c H1 locs1 (cells + mc) (slots + ms) Q (F0 m (pc + 3) ls (v.toList ++ rest))) : W p l e R s m args below meth c H locs cells slots Q (F0 m pc ls st0) := by
  intro T hT X
  have hsub := ct_sub hw
  obtain ⟨v, st₀, t, T', L, h0, X', hL, e1, e2, ⟨v', f', hv, hp, hf', hF⟩, st⟩ := hr T hT X
  cases hv
  obtain ⟨k1, k2, k3⟩ := vx_keep h0 e1 hw.2.1 (fun q _ h => hsub q h) hsub hL hF
  obtain ⟨t2, a1, b1⟩ := kk v f' T'.heap (locs ++ L) hp ⟨fun a x h => ⟨by rw [e1]; exact (hf' a x h).1, hsub a (hf' a x h).2⟩, k3, hw.2.2⟩ k1 k2 (fun q x h => (hf' q x h).2) T' rfl X'
  exact ⟨t2, st t2 a1, b1⟩
theorem cn_iret {v : Int32} (hexec : p.tables.exec = Jvm.exec) (hb : c.code = cc) (hr : meth.sig.returnType = some .int) (hlocks : meth.locks = false) (hw : dw G.1 dk_cl (dw_A f0 sz) s.heap f H locs) (hp : post (some (.int v)) f) (hc : cells ≤ mc) (hs : slots ≤ ms) (hdg : decode cc pc = .ok (.ireturn, 1)) :
    W p l e R s m args below meth c H locs cells slots (MQ below (ct_Q G f0 sz post) args s mc ms (dw_A f0 sz)) (F0 m pc ls [.int v]) :=
  W.widen hc hs (W.iret hexec hb hr (fun t ht _ => ⟨_, f, rfl, hp, fun a x h => ⟨by rw [ht]; exact (hw.1 a x h).1, (hw.1 a x h).2⟩, hw.2.1.F ht⟩) hw.2.1.2.2 hdg hlocks)
theorem cn_zret {v : Int32} (hexec : p.tables.exec = Jvm.exec) (hb : c.code = cc) (hr : meth.sig.returnType = some .boolean) (hlocks : meth.locks = false) (hw : dw G.1 dk_cl (dw_A f0 sz) s.heap f H locs) (hn : narrow .boolean (.int v) = .int v) (hp : post (some (.int v)) f) (hc : cells ≤ mc) (hs : slots ≤ ms) (hdg : decode cc pc = .ok (.ireturn, 1)) :
    W p l e R s m args below meth c H locs cells slots (MQ below (ct_Q G f0 sz post) args s mc ms (dw_A f0 sz)) (F0 m pc ls [.int v]) :=
  W.widen hc hs (W.zret hexec hb hr hn (fun t ht _ => ⟨_, f, rfl, hp, fun a x h => ⟨by rw [ht]; exact (hw.1 a x h).1, (hw.1 a x h).2⟩, hw.2.1.F ht⟩) hw.2.1.2.2 hdg hlocks)
theorem cn_vret (hexec : p.tables.exec = Jvm.exec) (hb : c.code = cc) (hr : meth.sig.returnType = none) (hlocks : meth.locks = false) (hw : dw G.1 dk_cl (dw_A f0 sz) s.heap f H locs) (hp : post none f) (hc : cells ≤ mc) (hs : slots ≤ ms) (hdg : decode cc pc = .ok (.return_, 1)) :
    W p l e R s m args below meth c H locs cells slots (MQ below (ct_Q G f0 sz post) args s mc ms (dw_A f0 sz)) (F0 m pc ls []) :=
  W.widen hc hs (W.vret hexec hb hr (fun t ht _ => ⟨_, f, rfl, hp, fun a x h => ⟨by rw [ht]; exact (hw.1 a x h).1, (hw.1 a x h).2⟩, hw.2.1.F ht⟩) hw.2.1.2.2 hdg hlocks)
theorem cn_aret {v : Value} {C : String} (hexec : p.tables.exec = Jvm.exec) (hb : c.code = cc) (hr : meth.sig.returnType = some (.object C)) (hlocks : meth.locks = false) (hw : dw G.1 dk_cl (dw_A f0 sz) s.heap f H locs) (hv : v = .null ∨ ∃ a, v = .ref a) (hp : post (some v) f) (hc : cells ≤ mc) (hs : slots ≤ ms) (hdg : decode cc pc = .ok (.areturn, 1)) :
    W p l e R s m args below meth c H locs cells slots (MQ below (ct_Q G f0 sz post) args s mc ms (dw_A f0 sz)) (F0 m pc ls [v]) :=
  W.widen hc hs (W.aret hexec hb hr (Or.inl ⟨C, rfl⟩) hv (fun t ht _ => ⟨_, f, rfl, hp, fun a x h => ⟨by rw [ht]; exact (hw.1 a x h).1, (hw.1 a x h).2⟩, hw.2.1.F ht⟩) hw.2.1.2.2 hdg hlocks)
end CNR
