/-! WHAT THE CELLS MEAN. Places in dk_cl: 0 Decoder, 1 NarrowText, 2 WideText, 3 JoinedText, 4 Row, 5 TextDesk, 6 TextDeskModel. -/
/-- what is at a place of a row or text: -1 where there is nothing -/
def gt (us : List Int) (k : Int) : Int := if 0 ≤ k ∧ k < (us.length : Int) then us.getD k.toNat 0 else -1
/-- a Row r with its array q of n places: it holds us; sp: something was spilled -/
def rw (G : ct_G) (f : dw_M) (r q n : Nat) (us : List Int) (sp : Int) : Prop :=
  ∃ g : Nat → Int32, f r = some (.inr (4, [.ref q, .int (iI us.length), .int (iI sp)])) ∧ f q = some (.inl (G.2.1 0, n, .inl g)) ∧ us.length ≤ n ∧ n < 1000 ∧ ∀ k, k < us.length → g k = iI (us.getD k 0)
/-- whether all units are below 256 -/
def nar (us : List Int) : Int := if us.all (fun u => decide (u < 256)) = true then 1 else 0
def ntx (G : ct_G) (f : dw_M) (a : Nat) (us : List Int) : Prop :=
  ∃ (q : Nat) (g : Nat → Int32), f a = some (.inr (1, [.int (iI us.length), .int (iI 1), .ref q])) ∧ f q = some (.inl (G.2.1 1, us.length, .inl g)) ∧ (∀ k, k < us.length → g k &&& 255 = iI (us.getD k 0)) ∧ (∀ u ∈ us, 0 ≤ u ∧ u < 256) ∧ us.length ≤ 60
def wtx (G : ct_G) (f : dw_M) (a : Nat) (us : List Int) : Prop :=
  ∃ (q : Nat) (g : Nat → Int32), f a = some (.inr (2, [.int (iI us.length), .int (iI 0), .ref q])) ∧ f q = some (.inl (G.2.1 2, us.length, .inl g)) ∧ (∀ k, k < us.length → g k = iI (us.getD k 0)) ∧ (∀ u ∈ us, 0 ≤ u ∧ u < 65536) ∧ (∃ u ∈ us, 256 ≤ u) ∧ us.length ≤ 60
/-- a text without parts -/
def lf (G : ct_G) (f : dw_M) (a : Nat) (us : List Int) : Prop := ntx G f a us ∨ wtx G f a us
/-- a text of at most d levels: a leaf, or two joined ones with their flat copy or without -/
def tx (G : ct_G) : Nat → dw_M → Nat → List Int → Prop
  | 0, f, a, us => lf G f a us
  | d + 1, f, a, us => lf G f a us ∨ ∃ (x y : Nat) (ux uy : List Int) (fl : Option Nat), f a = some (.inr (3, [.int (iI us.length), .int (iI (nar us)), .ref x, .ref y, va_rf fl])) ∧ tx G d f x ux ∧ tx G d f y uy ∧ us = ux ++ uy ∧ (∀ q, fl = some q → lf G f q us) ∧ us.length ≤ 60
/-- 1 for a joined text that has no flat copy yet -/
def pot (f : dw_M) (a : Nat) : Nat := match f a with
  | some (.inr (3, [_, _, _, _, .null])) => 1
  | _ => 0
/-- what reading texts may do to a map: joined texts get their flat copies; all else stays -/
def ext (G : ct_G) (f f' : dw_M) : Prop :=
  (∀ (a : Nat) (x : va_E), f a = some x → (∀ fs, x ≠ .inr (3, fs)) → f' a = some x) ∧ (∀ (d a : Nat) (us : List Int), tx G d f a us → tx G d f' a us) ∧ ∀ (a : Nat) (x : va_E), f a = some x → pot f' a ≤ pot f a
theorem ext.rf {G : ct_G} {f : dw_M} : ext G f f := ⟨fun _ _ h _ => h, fun _ _ _ h => h, fun _ _ _ => Nat.le_refl _⟩
theorem lf.len {G : ct_G} {f : dw_M} {a : Nat} {us : List Int} (h : lf G f a us) : us.length ≤ 60 := by
  rcases h with ⟨q, g, h1, h2, h3, h4, h5⟩ | ⟨q, g, h1, h2, h3, h4, h5, h6⟩
  · exact h5
  · exact h6
theorem lf.rng {G : ct_G} {f : dw_M} {a : Nat} {us : List Int} (h : lf G f a us) : ∀ u ∈ us, 0 ≤ u ∧ u < 65536 := by
  rcases h with ⟨q, g, h1, h2, h3, h4, h5⟩ | ⟨q, g, h1, h2, h3, h4, h5, h6⟩
  · intro u hu
    have := h4 u hu
    omega
  · exact h4
theorem tx.len {G : ct_G} {d : Nat} {f : dw_M} {a : Nat} {us : List Int} (h : tx G d f a us) : us.length ≤ 60 := by
  cases d with
  | zero => exact lf.len h
  | succ d =>
    rcases h with h | ⟨x, y, ux, uy, fl, h1, h2, h3, h4, h5, h6⟩
    · exact h.len
    · exact h6
theorem tx.rng {G : ct_G} {f : dw_M} : ∀ {d a : Nat} {us : List Int}, tx G d f a us → ∀ u ∈ us, 0 ≤ u ∧ u < 65536
  | 0, _, _, h => lf.rng h
  | d + 1, a, us, h => by
    rcases h with h | ⟨x, y, ux, uy, fl, h1, h2, h3, h4, h5, h6⟩
    · exact h.rng
    · intro u hu
      rw [h4] at hu
      rcases List.mem_append.mp hu with h | h
      · exact tx.rng h2 u h
      · exact tx.rng h3 u h
theorem lf.tx {G : ct_G} {f : dw_M} {a : Nat} {us : List Int} (h : lf G f a us) (d : Nat) : tx G d f a us := by
  cases d with
  | zero => exact h
  | succ d => exact Or.inl h
theorem tx.more {G : ct_G} {f : dw_M} : ∀ {d a : Nat} {us : List Int}, tx G d f a us → tx G (d + 1) f a us
  | 0, _, _, h => Or.inl h
  | d + 1, a, us, h => by
    rcases h with h | ⟨x, y, ux, uy, fl, h1, h2, h3, h4, h5, h6⟩
    · exact Or.inl h
    · exact Or.inr ⟨x, y, ux, uy, fl, h1, tx.more h2, tx.more h3, h4, h5, h6⟩
theorem tx.up {G : ct_G} {f : dw_M} {d e a : Nat} {us : List Int} (h : tx G d f a us) (hde : d ≤ e) : tx G e f a us := by
  induction hde with
  | refl => exact h
  | step _ ih => exact ih.more
theorem lf.ext {G : ct_G} {f f' : dw_M} {a : Nat} {us : List Int} (h : lf G f a us) (he : ∀ (a : Nat) (x : va_E), f a = some x → (∀ fs, x ≠ .inr (3, fs)) → f' a = some x) : lf G f' a us := by
  rcases h with ⟨q, g, h1, h2, h3⟩ | ⟨q, g, h1, h2, h3⟩
  · exact Or.inl ⟨q, g, he _ _ h1 (fun fs => by simp), he _ _ h2 (fun fs => by simp), h3⟩
  · exact Or.inr ⟨q, g, he _ _ h1 (fun fs => by simp), he _ _ h2 (fun fs => by simp), h3⟩
theorem ext.tr {G : ct_G} {f f' f'' : dw_M} (h : ext G f f') (h' : ext G f' f'') (hd : ∀ (a : Nat) (x : va_E), f a = some x → ∃ y, f' a = some y) : ext G f f'' := by
  refine ⟨fun a x e n => h'.1 a x (h.1 a x e n) n, fun d a us t => h'.2.1 d a us (h.2.1 d a us t), fun a x e => ?_⟩
  obtain ⟨y, hy⟩ := hd a x e
  exact Nat.le_trans (h'.2.2 a y hy) (h.2.2 a x e)
theorem rw.ext {G : ct_G} {f f' : dw_M} {r q n : Nat} {us : List Int} {sp : Int} (h : rw G f r q n us sp) (he : ext G f f') : rw G f' r q n us sp := by
  obtain ⟨g, h1, h2, h3⟩ := h
  exact ⟨g, he.1 _ _ h1 (fun fs => by simp), he.1 _ _ h2 (fun fs => by simp), h3⟩
theorem rw.len {G : ct_G} {f : dw_M} {r q n : Nat} {us : List Int} {sp : Int} (h : rw G f r q n us sp) : us.length ≤ n ∧ n < 1000 := by
  obtain ⟨g, h1, h2, h3, h4, h5⟩ := h
  exact ⟨h3, h4⟩
theorem lf_pot {G : ct_G} {f : dw_M} {a : Nat} {us : List Int} (h : lf G f a us) : pot f a = 0 := by
  rcases h with ⟨q, g, h1, h2, h3⟩ | ⟨q, g, h1, h2, h3⟩ <;> simp [pot, h1]
theorem gt_in {us : List Int} {k : Int} (h0 : 0 ≤ k) (h1 : k < (us.length : Int)) : gt us k = us.getD k.toNat 0 := if_pos ⟨h0, h1⟩
theorem gt_out {us : List Int} {k : Int} (h : ¬ (0 ≤ k ∧ k < (us.length : Int))) : gt us k = -1 := if_neg h
theorem getD_mem {us : List Int} {k : Nat} (h : k < us.length) : us.getD k 0 ∈ us := by
  rw [List.getD_eq_getElem?_getD, List.getElem?_eq_getElem h]
  exact List.getElem_mem h
