/-! HOW MAPS GO ON -/
/-- the array classes are apart -/
def okG (G : ct_G) : Prop := G.2.1 0 ≠ G.2.1 1 ∧ G.2.1 0 ≠ G.2.1 2 ∧ G.2.1 0 ≠ G.2.1 3 ∧ G.2.1 3 ≠ G.2.1 1 ∧ G.2.1 3 ≠ G.2.1 2
theorem ct_E.ok {G : ct_G} {s : State} (h : ct_E G s) : okG G := by
  have hn : ∀ {a b : String} {c : ClassId}, s.vm.findClass a = some c → s.vm.findClass b = some c → a = b := by
    intro a b c h1 h2
    obtain ⟨k, e1, e2⟩ := Vm.findClass_spec h1
    obtain ⟨k', e3, e4⟩ := Vm.findClass_spec h2
    rw [e1] at e3
    cases e3
    exact e2.symm.trans e4
  have i0 := va_nm_int (h.1.2 0 _ rfl).2
  have i1 := va_nm_byte (h.1.2 1 _ rfl).2
  have i2 := va_nm_char (h.1.2 2 _ rfl).2
  obtain ⟨kA, comp, -, -, -, i3⟩ := (h.1.2 3 _ rfl).2
  have i4 := i3
  have i5 := i3
  refine ⟨fun e => ?_, fun e => ?_, fun e => ?_, fun e => ?_, fun e => ?_⟩
  · rw [← e] at i1
    exact absurd (hn i0 i1) (by decide +kernel)
  · rw [← e] at i2
    exact absurd (hn i0 i2) (by decide +kernel)
  · rw [← e] at i3
    exact absurd (hn i0 i3) (by decide +kernel)
  · rw [e] at i4
    exact absurd (hn i1 i4) (by decide +kernel)
  · rw [e] at i5
    exact absurd (hn i2 i5) (by decide +kernel)
/-- the cells that texts are made of -/
def tcl (G : ct_G) (x : va_E) : Prop := (∃ (i : Nat) (fs : List Value), x = .inr (i, fs) ∧ 1 ≤ i ∧ i ≤ 3) ∨ (∃ z, x = .inl (G.2.1 1, z)) ∨ ∃ z, x = .inl (G.2.1 2, z)
theorem lf.agree {G : ct_G} {f f' : dw_M} {a : Nat} {us : List Int} (h : lf G f a us) (ha : ∀ a x, f a = some x → tcl G x → f' a = some x) : lf G f' a us := by
  rcases h with ⟨q, g, h1, h2, h3⟩ | ⟨q, g, h1, h2, h3⟩
  · exact Or.inl ⟨q, g, ha _ _ h1 (Or.inl ⟨1, _, rfl, by decide, by decide⟩), ha _ _ h2 (Or.inr (Or.inl ⟨_, rfl⟩)), h3⟩
  · exact Or.inr ⟨q, g, ha _ _ h1 (Or.inl ⟨2, _, rfl, by decide, by decide⟩), ha _ _ h2 (Or.inr (Or.inr ⟨_, rfl⟩)), h3⟩
theorem tx.agree {G : ct_G} {f f' : dw_M} (ha : ∀ a x, f a = some x → tcl G x → f' a = some x) : ∀ {d a : Nat} {us : List Int}, tx G d f a us → tx G d f' a us
  | 0, _, _, h => lf.agree h ha
  | d + 1, a, us, h => by
    rcases h with h | ⟨x, y, ux, uy, fl, h1, h2, h3, h4, h5, h6⟩
    · exact Or.inl (h.agree ha)
    · exact Or.inr ⟨x, y, ux, uy, fl, ha _ _ h1 (Or.inl ⟨3, _, rfl, by decide, by decide⟩), tx.agree ha h2, tx.agree ha h3, h4, fun q hq => (h5 q hq).agree ha, h6⟩
/-- from one map to a later one: outside S only joined texts change, and they only get their flat copies -/
def exo (G : ct_G) (S : Nat → Prop) (f f' : dw_M) : Prop :=
  (∀ (a : Nat) (x : va_E), f a = some x → ¬ S a → (∀ fs, x ≠ .inr (3, fs)) → f' a = some x) ∧ (∀ (d a : Nat) (us : List Int), tx G d f a us → tx G d f' a us) ∧ (∀ (a : Nat) (x : va_E), f a = some x → pot f' a ≤ pot f a) ∧ ∀ (a : Nat) (x : va_E), f a = some x → ∃ y, f' a = some y
def no1 : Nat → Prop := fun _ => False
theorem exo.rf {G : ct_G} {S : Nat → Prop} {f : dw_M} : exo G S f f := ⟨fun _ _ h _ _ => h, fun _ _ _ h => h, fun _ _ _ => Nat.le_refl _, fun _ x h => ⟨x, h⟩⟩
theorem exo.tr {G : ct_G} {S : Nat → Prop} {f f' f'' : dw_M} (h : exo G S f f') (h' : exo G S f' f'') : exo G S f f'' := by
  refine ⟨fun a x e n m => h'.1 a x (h.1 a x e n m) n m, fun d a us t => h'.2.1 d a us (h.2.1 d a us t), fun a x e => ?_, fun a x e => ?_⟩
  · obtain ⟨y, hy⟩ := h.2.2.2 a x e
    exact Nat.le_trans (h'.2.2.1 a y hy) (h.2.2.1 a x e)
  · obtain ⟨y, hy⟩ := h.2.2.2 a x e
    exact h'.2.2.2 a y hy
theorem exo.mono {G : ct_G} {S S' : Nat → Prop} {f f' : dw_M} (h : exo G S f f') (hs : ∀ a, S a → S' a) : exo G S' f f' := ⟨fun a x e n m => h.1 a x e (fun q => n (hs a q)) m, h.2⟩
theorem exo.rw {G : ct_G} {S : Nat → Prop} {f f' : dw_M} {r q n : Nat} {us : List Int} {sp : Int} (h : exo G S f f') (hr : rw G f r q n us sp) (n1 : ¬ S r) (n2 : ¬ S q) : rw G f' r q n us sp := by
  obtain ⟨g, h1, h2, h3⟩ := hr
  exact ⟨g, h.1 _ _ h1 n1 (fun fs => by simp), h.1 _ _ h2 n2 (fun fs => by simp), h3⟩
theorem exo.lf {G : ct_G} {S : Nat → Prop} {f f' : dw_M} {a : Nat} {us : List Int} (h : exo G S f f') (ht : lf G f a us) (hs : ∀ a, S a → ∀ x, f a = some x → ¬ tcl G x) : lf G f' a us := by
  rcases ht with ⟨q, g, h1, h2, h3⟩ | ⟨q, g, h1, h2, h3⟩
  · exact Or.inl ⟨q, g, h.1 _ _ h1 (fun z => hs _ z _ h1 (Or.inl ⟨1, _, rfl, by decide, by decide⟩)) (fun fs => by simp), h.1 _ _ h2 (fun z => hs _ z _ h2 (Or.inr (Or.inl ⟨_, rfl⟩))) (fun fs => by simp), h3⟩
  · exact Or.inr ⟨q, g, h.1 _ _ h1 (fun z => hs _ z _ h1 (Or.inl ⟨2, _, rfl, by decide, by decide⟩)) (fun fs => by simp), h.1 _ _ h2 (fun z => hs _ z _ h2 (Or.inr (Or.inr ⟨_, rfl⟩))) (fun fs => by simp), h3⟩
/-- a row's cells are no text's -/
theorem rw_ntc {G : ct_G} {f : dw_M} {r q n : Nat} {us : List Int} {sp : Int} (hG : okG G) (h : rw G f r q n us sp) : ∀ a, (a = r ∨ a = q) → ∀ x, f a = some x → ¬ tcl G x := by
  obtain ⟨g, h1, h2, -⟩ := h
  intro a ha x hx ht
  rcases ha with rfl | rfl
  · rw [h1] at hx
    cases hx
    rcases ht with ⟨i, fs, e, e1, e2⟩ | ⟨z, e⟩ | ⟨z, e⟩
    · cases e; omega
    · cases e
    · cases e
  · rw [h2] at hx
    cases hx
    rcases ht with ⟨i, fs, e, e1, e2⟩ | ⟨z, e⟩ | ⟨z, e⟩
    · cases e
    · exact hG.1 (congrArg Prod.fst (Sum.inl.inj e))
    · exact hG.2.1 (congrArg Prod.fst (Sum.inl.inj e))
/-- a row goes on; nothing else changes -/
theorem exo_row {G : ct_G} {f f' : dw_M} {r q n n' : Nat} {us us' : List Int} {sp sp' : Int} (hG : okG G) (h : rw G f r q n us sp) (h' : rw G f' r q n' us' sp') (hk : ∀ b, b ≠ r → b ≠ q → f' b = f b) : exo G (fun a => a = r ∨ a = q) f f' := by
  refine ⟨fun a x e n _ => ?_, fun d a us t => tx.agree (fun a x hx ht => ?_) t, fun a x e => ?_, fun a x e => ?_⟩
  · rw [hk a (fun z => n (Or.inl z)) (fun z => n (Or.inr z))]
    exact e
  · rw [hk a (fun z => rw_ntc hG h a (Or.inl z) x hx ht) (fun z => rw_ntc hG h a (Or.inr z) x hx ht)]
    exact hx
  · obtain ⟨g, h1, h2, -⟩ := h'
    by_cases e1 : a = r
    · subst e1
      simp [pot, h1]
    · by_cases e2 : a = q
      · subst e2
        simp [pot, h2]
      · have e3 : pot f' a = pot f a := by unfold pot; rw [hk a e1 e2]
        omega
  · obtain ⟨g, h1, h2, -⟩ := h'
    by_cases e1 : a = r
    · subst e1
      exact ⟨_, h1⟩
    · by_cases e2 : a = q
      · subst e2
        exact ⟨_, h2⟩
      · exact ⟨x, by rw [hk a e1 e2]; exact e⟩
/-- all cells of f stay: what is new is elsewhere -/
theorem exo_more {G : ct_G} {S : Nat → Prop} {f f' : dw_M} (h : ∀ a x, f a = some x → f' a = some x) : exo G S f f' := by
  refine ⟨fun a x e _ _ => h a x e, fun d a us t => tx.agree (fun a x hx _ => h a x hx) t, fun a x e => ?_, fun a x e => ⟨x, h a x e⟩⟩
  have e3 : pot f' a = pot f a := by unfold pot; rw [h a x e, e]
  omega
theorem up_more {f : dw_M} {q : Nat} {x : va_E} (h : f q = none) : ∀ a y, f a = some y → dw_up f q x a = some y := fun a y e => dw_keep e (dw_neN e h)
/-- the units are told by the cells -/
theorem list_ext {us vs : List Int} (hl : us.length = vs.length) (h : ∀ k, k < us.length → us.getD k 0 = vs.getD k 0) : us = vs := by
  apply List.ext_getElem hl
  intro i h1 h2
  have := h i h1
  rw [List.getD_eq_getElem?_getD, List.getD_eq_getElem?_getD, List.getElem?_eq_getElem h1, List.getElem?_eq_getElem h2] at this
  exact this
theorem iI_len {a b : Nat} (h : iI (a : Int) = iI (b : Int)) (ha : a ≤ 60) (hb : b ≤ 60) : a = b := by
  have := (iI_eq ⟨by omega, by omega⟩ ⟨by omega, by omega⟩).mp h
  omega
theorem lf.det {G : ct_G} {f : dw_M} {a : Nat} {us vs : List Int} (h : lf G f a us) (h' : lf G f a vs) : us = vs := by
  rcases h with ⟨q, g, h1, h2, h3, h4, h5⟩ | ⟨q, g, h1, h2, h3, h4, h5, h6⟩ <;> rcases h' with ⟨q', g', k1, k2, k3, k4, k5⟩ | ⟨q', g', k1, k2, k3, k4, k5, k6⟩
  · rw [h1] at k1
    have e := Option.some.inj k1
    simp only [Sum.inr.injEq, Prod.mk.injEq, List.cons.injEq, Value.int.injEq, Value.ref.injEq, true_and, and_true] at e
    obtain ⟨e1, rfl⟩ := e
    have hl := iI_len e1 h5 k5
    rw [h2] at k2
    have e2 := Option.some.inj k2
    simp only [Sum.inl.injEq, Prod.mk.injEq, true_and] at e2
    refine list_ext hl (fun k hk => ?_)
    have z3 := k3 k (by omega)
    rw [← e2.2] at z3
    have z := (h3 k hk).symm.trans z3
    have b1 := h4 _ (getD_mem hk)
    have b2 := k4 _ (getD_mem (us := vs) (k := k) (by omega))
    exact (iI_eq ⟨by omega, by omega⟩ ⟨by omega, by omega⟩).mp z
  · rw [h1] at k1; cases k1
  · rw [h1] at k1; cases k1
  · rw [h1] at k1
    have e := Option.some.inj k1
    simp only [Sum.inr.injEq, Prod.mk.injEq, List.cons.injEq, Value.int.injEq, Value.ref.injEq, true_and, and_true] at e
    obtain ⟨e1, rfl⟩ := e
    have hl := iI_len e1 h6 k6
    rw [h2] at k2
    have e2 := Option.some.inj k2
    simp only [Sum.inl.injEq, Prod.mk.injEq, true_and] at e2
    refine list_ext hl (fun k hk => ?_)
    have z3 := k3 k (by omega)
    rw [← e2.2] at z3
    have z := (h3 k hk).symm.trans z3
    have b1 := h4 _ (getD_mem hk)
    have b2 := k4 _ (getD_mem (us := vs) (k := k) (by omega))
    exact (iI_eq ⟨by omega, by omega⟩ ⟨by omega, by omega⟩).mp z
theorem lf_nj {G : ct_G} {f : dw_M} {a : Nat} {us : List Int} {fs : List Value} (h : lf G f a us) (h' : f a = some (.inr (3, fs))) : False := by
  rcases h with ⟨q, g, h1, -⟩ | ⟨q, g, h1, -⟩ <;> (rw [h1] at h'; cases h')
theorem tx.det {G : ct_G} {f : dw_M} : ∀ {d e a : Nat} {us vs : List Int}, tx G d f a us → tx G e f a vs → us = vs
  | 0, 0, _, _, _, h, h' => lf.det h h'
  | 0, e + 1, _, _, _, h, h' => by
    rcases h' with h' | ⟨x, y, ux, uy, fl, h1, -⟩
    · exact lf.det h h'
    · exact (lf_nj h h1).elim
  | d + 1, 0, _, _, _, h, h' => by
    rcases h with h | ⟨x, y, ux, uy, fl, h1, -⟩
    · exact lf.det h h'
    · exact (lf_nj h' h1).elim
  | d + 1, e + 1, a, us, vs, h, h' => by
    rcases h with h | ⟨x, y, ux, uy, fl, h1, h2, h3, h4, -⟩
    · rcases h' with h' | ⟨x', y', ux', uy', fl', k1, -⟩
      · exact lf.det h h'
      · exact (lf_nj h k1).elim
    · rcases h' with h' | ⟨x', y', ux', uy', fl', k1, k2, k3, k4, -⟩
      · exact (lf_nj h' h1).elim
      · rw [h1] at k1
        have z := Option.some.inj k1
        simp only [Sum.inr.injEq, Prod.mk.injEq, List.cons.injEq, Value.int.injEq, Value.ref.injEq, true_and, and_true] at z
        obtain ⟨-, -, rfl, rfl, -⟩ := z
        rw [h4, k4, tx.det h2 k2, tx.det h3 k3]
/-- a joined text gets its flat copy -/
theorem exo_flat {G : ct_G} {S : Nat → Prop} {f : dw_M} {a q x y d : Nat} {v0 v1 : Value} {us : List Int} (h : f a = some (.inr (3, [v0, v1, .ref x, .ref y, .null]))) (ht : tx G d f a us) (hq : lf G f q us) : exo G S f (dw_up f a (.inr (3, [v0, v1, .ref x, .ref y, .ref q]))) ∧ pot (dw_up f a (.inr (3, [v0, v1, .ref x, .ref y, .ref q]))) a = 0 := by
  have hl : ∀ b vs, lf G f b vs → lf G (dw_up f a (.inr (3, [v0, v1, .ref x, .ref y, .ref q]))) b vs := by
    intro b vs hb
    rcases hb with ⟨q', g, h1, h2, h3⟩ | ⟨q', g, h1, h2, h3⟩
    · exact Or.inl ⟨q', g, dw_keep h1 (dw_ne h1 h (by simp)), dw_keep h2 (dw_ne h2 h (by simp)), h3⟩
    · exact Or.inr ⟨q', g, dw_keep h1 (dw_ne h1 h (by simp)), dw_keep h2 (dw_ne h2 h (by simp)), h3⟩
  have ht' : ∀ (e b : Nat) (vs : List Int), tx G e f b vs → tx G e (dw_up f a (.inr (3, [v0, v1, .ref x, .ref y, .ref q]))) b vs := by
    intro e
    induction e with
    | zero => intro b vs hb; exact hl b vs hb
    | succ e ih =>
      intro b vs hb
      have hb0 := hb
      rcases hb with hb | ⟨x', y', ux, uy, fl, h1, h2, h3, h4, h5, h6⟩
      · exact Or.inl (hl b vs hb)
      · by_cases eb : b = a
        · subst eb
          have hus := tx.det ht hb0
          subst hus
          rw [h] at h1
          have z := Option.some.inj h1
          simp only [Sum.inr.injEq, Prod.mk.injEq, List.cons.injEq, Value.ref.injEq, true_and, and_true] at z
          obtain ⟨e1, e2, rfl, rfl, e5⟩ := z
          refine Or.inr ⟨x, y, ux, uy, some q, ?_, ih _ _ h2, ih _ _ h3, h4, fun q9 hq9 => ?_, h6⟩
          · rw [dw_up_self, e1, e2]
            rfl
          · cases hq9
            exact hl q us hq
        · exact Or.inr ⟨x', y', ux, uy, fl, dw_keep h1 eb, ih _ _ h2, ih _ _ h3, h4, fun q9 hq9 => hl _ _ (h5 q9 hq9), h6⟩
  have hp0 : pot (dw_up f a (.inr (3, [v0, v1, .ref x, .ref y, .ref q]))) a = 0 := by
    unfold pot
    rw [dw_up_self]
    rfl
  refine ⟨⟨fun b z e n m => dw_keep e (fun e2 => ?_), ht', fun b z e => ?_, fun b z e => ?_⟩, hp0⟩
  · subst e2
    rw [h] at e
    exact m _ (Option.some.inj e).symm
  · by_cases eb : b = a
    · subst eb
      rw [hp0]
      exact Nat.zero_le _
    · have e3 : pot (dw_up f a (.inr (3, [v0, v1, .ref x, .ref y, .ref q]))) b = pot f b := by unfold pot; rw [dw_up_ne _ _ eb]
      omega
  · by_cases eb : b = a
    · subst eb
      exact ⟨_, dw_up_self _ _ _⟩
    · exact ⟨z, dw_keep e eb⟩
