/-! THE LAW: rows for longs, two maps side by side -/
section LWA
variable {p : Program} {l : Launch} {e : Env} {R : Room} {s : State} {m : MethodId} {args : Array Value} {below : List Frame} {meth : Method} {c : Code} {H : Heap} {locs : List Loc} {cells slots : Nat} {Q : State → Prop}
variable {cc : ByteArray} {pc : Nat} {ls : Array Slot} {rest : List Value} {D : va_G} {cl : List vw_C} {A : Nat → Prop} {a : Nat} {tys : List (ClassId × FieldType)} {H0 : Heap} {f : dw_M}
theorem dw_lald (hexec : p.tables.exec = Jvm.exec) (hb : c.code = cc) (hK : va_K D cl tys s) (h : dw D cl A H0 f H locs) (t0 : Nat) {cA : ClassId} {n : Nat} {g : Nat → Int64} (ha : f a = some (.inl (cA, n, .inr (.inl g)))) (ht : tys[t0]? = some (cA, .long)) {i : Int} (h0 : 0 ≤ i) (h1 : i < (n : Int)) (h2 : i < 2147483648) {v : Int64} (hv : g i.toNat = v) (hdg : decode cc pc = .ok (.laload, 1))
    (kk : W p l e R s m args below meth c H locs cells slots Q (F0 m (pc + 1) ls (.long v :: rest))) : W p l e R s m args below meth c H locs cells slots Q (F0 m pc ls (.int (iI i) :: .ref a :: rest)) := by
  subst hv
  refine va_lald hexec hb hK (h.P1 ha) 0 t0 rfl ht (iI_in h0 h1 ⟨by omega, h2⟩) hdg ?_
  rw [iI_cl ⟨by omega, h2⟩]
  exact kk
theorem dw_last (hexec : p.tables.exec = Jvm.exec) (hb : c.code = cc) (hK : va_K D cl tys s) (h : dw D cl A H0 f H locs) (t0 : Nat) {cA : ClassId} {n : Nat} {g : Nat → Int64} (ha : f a = some (.inl (cA, n, .inr (.inl g)))) (ht : tys[t0]? = some (cA, .long)) {i : Int} {x : Int64} (h0 : 0 ≤ i) (h1 : i < (n : Int)) (h2 : i < 2147483648) (hdg : decode cc pc = .ok (.lastore, 1))
    (kk : ∀ (H1 : Heap) (locs1 : List Loc), dw D cl A H0 (dw_up f a (.inl (cA, n, .inr (.inl (vp_updL g i.toNat x))))) H1 locs1 → W p l e R s m args below meth c H1 locs1 cells slots Q (F0 m (pc + 1) ls rest)) : W p l e R s m args below meth c H locs cells slots Q (F0 m pc ls (.long x :: .int (iI i) :: .ref a :: rest)) := by
  have hin : vp_in (iI i) n := iI_in h0 h1 ⟨by omega, h2⟩
  have hcl := iI_cl (a := i) ⟨by omega, h2⟩
  refine W.last hexec hb (h.1 a _ ha).1 ((hK.2 t0 _ ht).1 n (fun j => .long (g j))) (fun q => by cases q) (by show ¬ (iI i < 0 ∨ (arrV _ _ _).slots.size ≤ _); rw [arrV_size]; exact hin) rfl rfl hdg fun H1 e z oq => ?_
  refine kk H1 _ (h.set ha ?_ z oq _)
  show H1[a]? = some (vp_cell _ _)
  rw [e]
  rw [vp_cell_l, vp_cell_l, arrV_store, hcl]
  congr 2
  funext q
  by_cases hq : q = i.toNat
  · subst hq
    simp [updV, vp_updL]
  · simp [updV, vp_updL, hq]
/-- equal longs -/
theorem lv_lcmpE (hexec : p.tables.exec = Jvm.exec) (hb : c.code = cc) {x : Int64} (hdg : decode cc pc = .ok (.lcmp, 1))
    (k : W p l e R s m args below meth c H locs cells slots Q (F0 m (pc + 1) ls (.int (iI 0) :: rest))) : W p l e R s m args below meth c H locs cells slots Q (F0 m pc ls (.long x :: .long x :: rest)) := by
  intro T hT X
  obtain ⟨t, a, b⟩ := k T hT X
  refine ⟨t, ?_, b⟩
  rw [← iI_0] at a
  have h1 : ¬ x > x := Int64.lt_irrefl
  jvm_step X.here [X.here.top, hexec, hb, hdg, h1]
  exact a
/-- the script: an array of ints that is older than the law's run -/
theorem lw_read (hexec : p.tables.exec = Jvm.exec) (hb : c.code = cc) {n : Nat} {g : Nat → Int32} (hX : va_X a n g s s.heap) (hbl : a < s.heap.size) (hn : ¬ A a) (hS : va_S A s.heap H locs) {i : Int} (h0 : 0 ≤ i) (h1 : i < (n : Int)) (h2 : i < 2147483648) {u : Int} (hu : u = (g i.toNat).toInt) (hdg : decode cc pc = .ok (.iaload, 1))
    (kk : W p l e R s m args below meth c H locs cells slots Q (F0 m (pc + 1) ls (.int (iI u) :: rest))) : W p l e R s m args below meth c H locs cells slots Q (F0 m pc ls (.int (iI i) :: .ref a :: rest)) := by
  refine va_sld hexec hb hX hbl hn hS (iI_in h0 h1 ⟨by omega, h2⟩) hdg ?_
  rw [iI_cl ⟨by omega, h2⟩]
  have e9 : iI u = g i.toNat := by rw [hu]; exact Int32.ofInt_toInt _
  rw [e9] at kk
  exact kk
/-- .. its length -/
theorem lw_len (hexec : p.tables.exec = Jvm.exec) (hb : c.code = cc) {n : Nat} {g : Nat → Int32} (hX : va_X a n g s s.heap) (hbl : a < s.heap.size) (hn : ¬ A a) (hS : va_S A s.heap H locs) (hdg : decode cc pc = .ok (.arraylength, 1))
    (kk : W p l e R s m args below meth c H locs cells slots Q (F0 m (pc + 1) ls (.int (iI (n : Int)) :: rest))) : W p l e R s m args below meth c H locs cells slots Q (F0 m pc ls (.ref a :: rest)) := by
  refine va_slen hexec hb hX hbl hn hS hdg ?_
  rw [iI_nat]
  exact kk
end LWA
section LWB
variable {D : va_G} {cl : List vw_C} {A : Nat → Prop} {H0 H H1 : Heap} {f fx fx' fy : dw_M} {locs locs1 : List Loc} {o : Nat} {c c' : va_E}
/-- what another map holds stays over a call -/
theorem dw.side (h' : dw D cl A H0 fx' H1 locs1) (hy : dw D cl A H0 fy H locs) (dj : ∀ a, fx a = none ∨ fy a = none) (hkp : ∀ q : Nat, q < H.size → ¬ dw_A fx H.size q → H1[q]? = H[q]?) (hdm : ∀ q x, fx' q = some x → dw_A fx H.size q) : dw D cl A H0 fy H1 locs1 ∧ ∀ a, fx' a = none ∨ fy a = none := by
  have hna : ∀ a x, fy a = some x → ¬ dw_A fx H.size a := by
    intro a x ha q
    rcases q with ⟨z, hz⟩ | q
    · rcases dj a with d | d
      · rw [hz] at d; cases d
      · rw [ha] at d; cases d
    · exact absurd (hy.lt ha) (Nat.not_lt.mpr q)
  refine ⟨⟨fun a x ha => ⟨(hy.1 a x ha).1.kept (hkp a (hy.lt ha) (hna a x ha)), (hy.1 a x ha).2⟩, h'.2⟩, fun a => ?_⟩
  cases ha : fy a with
  | none => exact Or.inr rfl
  | some x =>
    left
    cases e : fx' a with
    | none => rfl
    | some z => exact absurd (hdm a z e) (hna a x ha)
def dw_one (o : Nat) (c : va_E) : dw_M := dw_up (fun _ => none) o c
theorem dw_one_self (o : Nat) (c : va_E) : dw_one o c o = some c := dw_up_self _ _ _
theorem dw_up_up (f : dw_M) (o : Nat) (c c' : va_E) : dw_up (dw_up f o c) o c' = dw_up f o c' := by
  funext a
  unfold dw_up
  by_cases e : a = o
  · rw [if_pos e, if_pos e]
  · rw [if_neg e, if_neg e, if_neg e]
theorem dw.both (h1 : dw D cl A H0 fx H locs) (h2 : dw D cl A H0 (dw_one o c) H locs) : dw D cl A H0 (dw_up fx o c) H locs := by
  refine ⟨fun a x ha => ?_, h1.2⟩
  by_cases e : a = o
  · subst e
    rw [dw_up_self] at ha
    exact h2.1 a x (by rw [dw_one_self]; exact ha)
  · rw [dw_up_ne _ _ e] at ha
    exact h1.1 a x ha
theorem dw.fst (h : dw D cl A H0 (dw_up fx o c) H locs) (ho : fx o = none) : dw D cl A H0 fx H locs := h.less (fun a x ha => by
  rw [dw_up_ne _ _ (fun e => by subst e; rw [ho] at ha; cases ha)]
  exact ha)
theorem dw.snd (h : dw D cl A H0 (dw_up fx o c) H locs) : dw D cl A H0 (dw_one o c) H locs := h.less (fun a x ha => by
  by_cases e : a = o
  · subst e
    rw [dw_one_self] at ha
    rw [dw_up_self]
    exact ha
  · unfold dw_one at ha
    rw [dw_up_ne _ _ e] at ha
    cases ha)
theorem dj_one (ho : fx o = none) : ∀ a, fx a = none ∨ dw_one o c a = none := fun a => by
  by_cases e : a = o
  · subst e; exact Or.inl ho
  · right; unfold dw_one; rw [dw_up_ne _ _ e]
theorem dj_one' (h : ∀ a, fx a = none ∨ dw_one o c a = none) : fx o = none := by
  rcases h o with h | h
  · exact h
  · rw [dw_one_self] at h; cases h
theorem dj_fst (ho : fx o = none) (h : ∀ a, dw_up fx o c a = none ∨ fy a = none) : ∀ a, fx a = none ∨ fy a = none := fun a => by
  by_cases e : a = o
  · subst e; exact Or.inl ho
  · rw [← dw_up_ne fx c e]; exact h a
theorem dj_up (hy : fy o = none) (h : ∀ a, fx a = none ∨ fy a = none) : ∀ a, dw_up fx o c a = none ∨ fy a = none := fun a => by
  by_cases e : a = o
  · subst e; exact Or.inr hy
  · rw [dw_up_ne fx c e]; exact h a
theorem dj_o (h : ∀ a, dw_up fx o c a = none ∨ fy a = none) : fy o = none := by
  rcases h o with h | h
  · rw [dw_up_self] at h; cases h
  · exact h
def dw_or (fx fy : dw_M) : dw_M := fun a => match fx a with | some z => some z | none => fy a
theorem dw_or_some {a : Nat} {z : va_E} (h : fx a = some z) : dw_or fx fy a = some z := by unfold dw_or; rw [h]
theorem dw_or_none {a : Nat} (h : fx a = none) : dw_or fx fy a = fy a := by unfold dw_or; rw [h]
theorem dw.join (h1 : dw D cl A H0 fx H locs) (h2 : dw D cl A H0 fy H locs) : dw D cl A H0 (dw_or fx fy) H locs := by
  refine ⟨fun a x ha => ?_, h1.2⟩
  cases e : fx a with
  | none => rw [dw_or_none e] at ha; exact h2.1 a x ha
  | some z => rw [dw_or_some e] at ha; exact h1.1 a x (e.trans ha)
theorem dw_or_l {a : Nat} (h : dw_or fx fy a = none) : fx a = none := by
  cases e : fx a with
  | none => rfl
  | some z => rw [dw_or_some e] at h; cases h
theorem dw_or_r {a : Nat} (h : dw_or fx fy a = none) : fy a = none := (dw_or_none (dw_or_l h)).symm.trans h
theorem dw.orl (h : dw D cl A H0 (dw_up (dw_or fx fy) o c) H locs) : dw D cl A H0 (dw_up fx o c) H locs := h.less (fun a x ha => by
  by_cases e : a = o
  · subst e
    rw [dw_up_self] at ha ⊢
    exact ha
  · rw [dw_up_ne _ _ e] at ha ⊢
    exact dw_or_some ha)
theorem dw.orr (h : dw D cl A H0 (dw_up (dw_or fx fy) o c) H locs) (ho : dw_or fx fy o = none) (dj : ∀ a, fy a = none ∨ fx a = none) : dw D cl A H0 fy H locs := h.less (fun a x ha => by
  have hy := dw_or_r ho
  rw [dw_up_ne _ _ (fun e => by subst e; rw [hy] at ha; cases ha)]
  rcases dj a with d | d
  · rw [ha] at d; cases d
  · rw [dw_or_none d]; exact ha)
theorem dj_sw (h : ∀ a, fx a = none ∨ fy a = none) : ∀ a, fy a = none ∨ fx a = none := fun a => (h a).symm
end LWB
theorem ct_mono {l : Launch} {y : MethodName} {ws : List Cond} {fr lo : Nat} {G : ct_G} {f : dw_M} {sz : Nat} {av : List Value} {post post' : Option Value → dw_M → Prop} {px px' : String → dw_M → Prop} {mc ms : Nat} (h : ct l y ws fr lo G f sz av post px mc ms) (hp : ∀ v f', post v f' → post' v f') (hx : ∀ E f', px E f' → px' E f') : ct l y ws fr lo G f sz av post' px' mc ms := by
  refine MetFree.mono h (fun _ _ q => q) (fun _ _ _ _ _ q => q) (fun a s o t _ q => ?_)
  rcases q with ⟨⟨v, f', h1, h2, h3⟩, h4⟩ | ⟨q, h1, E, ce, L, ⟨f', h2, h3⟩, h4⟩
  · exact Or.inl ⟨⟨v, f', h1, hp v f' h2, h3⟩, h4⟩
  · exact Or.inr ⟨q, h1, E, ce, L, ⟨f', hx E f' h2, h3⟩, h4⟩
/-- the desk behind a call -/
def dkP (G : ct_G) (f : dw_M) (x : Nat) (r : Rs) : Prop := dkI G f x r.2.2.1 r.2.2.2.1 r.2.2.2.2.1 r.2.2.2.2.2
abbrev lcl (G : ct_G) (g : Nat → Int64) : va_E := .inl (G.2.1 4, 1, .inr (.inl g))
/-- what a wrapper answers: its answer in out[0] -/
def lwQ (G : ct_G) (x o : Nat) (r : Rs) (v : Option Value) (f' : dw_M) : Prop :=
  v = some (.int (iI r.1)) ∧ (0 ≤ r.1 ∧ r.1 ≤ 3) ∧ ∃ (fx : dw_M) (g : Nat → Int64), f' = dw_up fx o (lcl G g) ∧ fx o = none ∧ dkP G fx x r ∧ (r.1 = 0 → g 0 = (iI r.2.1).toInt64)
/-- the law's world: the desk and 'out', the reference -/
def lwS (G : ct_G) (A : Nat → Prop) (H0 : Heap) (x y o : Nat) (T Y : List (List Int)) (B Z : List Int) (H : Heap) (locs : List Loc) : Prop :=
  ∃ (fx fy : dw_M) (g : Nat → Int64) (th : Int), dw G.1 dk_cl A H0 (dw_up fx o (lcl G g)) H locs ∧ dw G.1 dk_cl A H0 fy H locs ∧ (∀ a, dw_up fx o (lcl G g) a = none ∨ fy a = none) ∧ fx o = none ∧ dkI G fx x T Y B Z ∧ mdI G fy y th T Y B Z
theorem sp_narrow_01 (T Y : List (List Int)) (B Z : List Int) (k : Int) : (sp_narrow T Y B Z k).2.1 = 0 ∨ (sp_narrow T Y B Z k).2.1 = 1 := by
  unfold sp_narrow
  split
  · exact Or.inl rfl
  · show nar _ = 0 ∨ nar _ = 1
    unfold nar
    split
    · exact Or.inr rfl
    · exact Or.inl rfl
