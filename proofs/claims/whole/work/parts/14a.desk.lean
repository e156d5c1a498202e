/-! THE DESK: its cells and what they mean. T: the texts, Y: the symbols' texts, B: the builder, Z: the bytes, D: the draft. -/
def dkS (G : ct_G) (f : dw_M) (x ta sa yr dc bu dr qy qb qd : Nat) (gT gS : Nat → Option Nat) (c0 w0 : Int32) (T Y : List (List Int)) (B Z D : List Int) (sB sZ sD : Int) : Prop :=
  f x = some (.inr (5, [.ref ta, .ref sa, .ref yr, .ref dc, .ref bu, .ref dr])) ∧ f ta = some (.inl (G.2.1 3, 24, .inr (.inr (.inr (.inr gT))))) ∧ f sa = some (.inl (G.2.1 3, 16, .inr (.inr (.inr (.inr gS))))) ∧ f dc = some (.inr (0, [.int c0, .int w0])) ∧
  (T.length ≤ 24 ∧ Y.length ≤ 16 ∧ ta ≠ sa ∧ (∀ i, T.length ≤ i → gT i = none) ∧ ∀ i, Y.length ≤ i → gS i = none) ∧ (∀ i, i < T.length → ∃ t, gT i = some t ∧ tx G i f t (T.getD i [])) ∧ (∀ i, i < Y.length → ∃ t, gS i = some t ∧ tx G 24 f t (Y.getD i [])) ∧
  (rw G f yr qy 200 Z sZ ∧ rw G f bu qb 60 B sB ∧ rw G f dr qd 60 D sD) ∧ (bu ≠ dr ∧ bu ≠ yr ∧ dr ≠ yr ∧ qb ≠ qd ∧ qb ≠ qy ∧ qd ≠ qy) ∧ (∀ u ∈ B, 0 ≤ u ∧ u < 65536) ∧ (∀ z ∈ Z, 0 ≤ z ∧ z < 256)
def dkI (G : ct_G) (f : dw_M) (x : Nat) (T Y : List (List Int)) (B Z : List Int) : Prop :=
  ∃ (ta sa yr dc bu dr qy qb qd : Nat) (gT gS : Nat → Option Nat) (c0 w0 : Int32) (D : List Int) (sB sZ sD : Int), dkS G f x ta sa yr dc bu dr qy qb qd gT gS c0 w0 T Y B Z D sB sZ sD
section DS
variable {G : ct_G} {f f' : dw_M} {x ta sa yr dc bu dr qy qb qd : Nat} {gT gS : Nat → Option Nat} {c0 w0 : Int32} {T Y : List (List Int)} {B Z D : List Int} {sB sZ sD : Int}
theorem dkS.I (h : dkS G f x ta sa yr dc bu dr qy qb qd gT gS c0 w0 T Y B Z D sB sZ sD) : dkI G f x T Y B Z := ⟨ta, sa, yr, dc, bu, dr, qy, qb, qd, gT, gS, c0, w0, D, sB, sZ, sD, h⟩
/-- texts get flat copies, the draft goes on: the desk stays -/
theorem dkS.draft {D' : List Int} {sD' : Int} (h : dkS G f x ta sa yr dc bu dr qy qb qd gT gS c0 w0 T Y B Z D sB sZ sD) (hx : exo G (fun a => a = dr ∨ a = qd) f f') (hd : rw G f' dr qd 60 D' sD') : dkS G f' x ta sa yr dc bu dr qy qb qd gT gS c0 w0 T Y B Z D' sB sZ sD' := by
  obtain ⟨h1, h2, h3, h4, h5, h6, h7, ⟨h8, h9, h10⟩, ⟨n1, n2, n3, n4, n5, n6⟩, h11⟩ := h
  obtain ⟨g, e1, e2, e3⟩ := h10
  have nn : ∀ {a : Nat} {z : va_E}, f a = some z → z ≠ .inr (4, [.ref qd, .int (iI D.length), .int (iI sD)]) → z ≠ .inl (G.2.1 0, 60, .inl g) → ¬ (a = dr ∨ a = qd) := by
    intro a z ha z1 z2 q
    rcases q with rfl | rfl
    · exact dw_ne ha e1 z1 rfl
    · exact dw_ne ha e2 z2 rfl
  refine ⟨hx.1 _ _ h1 (nn h1 (by simp) (by simp)) (fun fs => by simp), ?_, ?_, hx.1 _ _ h4 (nn h4 (by simp) (by simp)) (fun fs => by simp), h5, fun i hi => ?_, fun i hi => ?_, ⟨hx.rw h8 ?_ ?_, hx.rw h9 ?_ ?_, hd⟩, ⟨n1, n2, n3, n4, n5, n6⟩, h11⟩
  · exact hx.1 _ _ h2 (nn h2 (by simp) (by simp)) (fun fs => by simp)
  · exact hx.1 _ _ h3 (nn h3 (by simp) (by simp)) (fun fs => by simp)
  · obtain ⟨t, a1, a2⟩ := h6 i hi
    exact ⟨t, a1, hx.2.1 _ _ _ a2⟩
  · obtain ⟨t, a1, a2⟩ := h7 i hi
    exact ⟨t, a1, hx.2.1 _ _ _ a2⟩
  · obtain ⟨g', k1, k2, k3⟩ := h8
    intro q
    rcases q with q | q
    · exact n3 q.symm
    · exact dw_ne k1 e2 (by simp) q
  · obtain ⟨g', k1, k2, k3⟩ := h8
    intro q
    rcases q with q | q
    · exact dw_ne k2 e1 (by simp) q
    · exact n6 q.symm
  · obtain ⟨g', k1, k2, k3⟩ := h9
    intro q
    rcases q with q | q
    · exact n1 q
    · exact dw_ne k1 e2 (by simp) q
  · obtain ⟨g', k1, k2, k3⟩ := h9
    intro q
    rcases q with q | q
    · exact dw_ne k2 e1 (by simp) q
    · exact n4 q
theorem dkS.read (h : dkS G f x ta sa yr dc bu dr qy qb qd gT gS c0 w0 T Y B Z D sB sZ sD) (hx : exo G no1 f f') : dkS G f' x ta sa yr dc bu dr qy qb qd gT gS c0 w0 T Y B Z D sB sZ sD :=
  h.draft (hx.mono (fun _ z => z.elim)) (hx.rw h.2.2.2.2.2.2.2.1.2.2 (fun z => z.elim) (fun z => z.elim))
/-- row cells are pairwise apart -/
theorem dkS.ne (h : dkS G f x ta sa yr dc bu dr qy qb qd gT gS c0 w0 T Y B Z D sB sZ sD) : dr ≠ qb ∧ dr ≠ qy ∧ qd ≠ bu ∧ qd ≠ yr ∧ bu ≠ qy ∧ qb ≠ yr := by
  obtain ⟨⟨g1, a1, a2, -⟩, ⟨g2, b1, b2, -⟩, ⟨g3, d1, d2, -⟩⟩ := h.2.2.2.2.2.2.2.1
  exact ⟨dw_ne d1 b2 (by simp), dw_ne d1 a2 (by simp), dw_ne d2 b1 (by simp), dw_ne d2 a1 (by simp), dw_ne b1 a2 (by simp), dw_ne b2 a1 (by simp)⟩
/-- the rows go on, texts get flat copies -/
theorem dkS.rows {B' Z' D' : List Int} {sB' sZ' sD' : Int} (h : dkS G f x ta sa yr dc bu dr qy qb qd gT gS c0 w0 T Y B Z D sB sZ sD) (hx : exo G (fun a => a = dr ∨ a = qd ∨ a = bu ∨ a = qb ∨ a = yr ∨ a = qy) f f') (hy : rw G f' yr qy 200 Z' sZ') (hb : rw G f' bu qb 60 B' sB') (hd : rw G f' dr qd 60 D' sD') (rB : ∀ u ∈ B', 0 ≤ u ∧ u < 65536) (rZ : ∀ z ∈ Z', 0 ≤ z ∧ z < 256) : dkS G f' x ta sa yr dc bu dr qy qb qd gT gS c0 w0 T Y B' Z' D' sB' sZ' sD' := by
  obtain ⟨h1, h2, h3, h4, h5, h6, h7, ⟨⟨g1, a1, a2, -⟩, ⟨g2, b1, b2, -⟩, ⟨g3, d1, d2, -⟩⟩, h9, h11⟩ := h
  have nn : ∀ {a : Nat} {z : va_E}, f a = some z → (∀ fs, z ≠ .inr (4, fs)) → (∀ q, z ≠ .inl (G.2.1 0, q)) → ¬ (a = dr ∨ a = qd ∨ a = bu ∨ a = qb ∨ a = yr ∨ a = qy) := by
    intro a z ha z1 z2 q
    rcases q with rfl | rfl | rfl | rfl | rfl | rfl
    · exact dw_ne ha d1 (z1 _) rfl
    · exact dw_ne ha d2 (z2 _) rfl
    · exact dw_ne ha b1 (z1 _) rfl
    · exact dw_ne ha b2 (z2 _) rfl
    · exact dw_ne ha a1 (z1 _) rfl
    · exact dw_ne ha a2 (z2 _) rfl
  refine ⟨hx.1 _ _ h1 (nn h1 (fun fs => by simp) (fun q => by simp)) (fun fs => by simp), ?_, ?_, hx.1 _ _ h4 (nn h4 (fun fs => by simp) (fun q => by simp)) (fun fs => by simp), h5, fun i hi => ?_, fun i hi => ?_, ⟨hy, hb, hd⟩, h9, rB, rZ⟩
  · refine hx.1 _ _ h2 (fun q => ?_) (fun fs => by simp)
    rcases q with q | q | q | q | q | q
    · exact dw_ne h2 d1 (by simp) q
    · exact dw_ne h2 d2 (by simp) q
    · exact dw_ne h2 b1 (by simp) q
    · exact dw_ne h2 b2 (by simp) q
    · exact dw_ne h2 a1 (by simp) q
    · exact dw_ne h2 a2 (by simp) q
  · refine hx.1 _ _ h3 (fun q => ?_) (fun fs => by simp)
    rcases q with q | q | q | q | q | q
    · exact dw_ne h3 d1 (by simp) q
    · exact dw_ne h3 d2 (by simp) q
    · exact dw_ne h3 b1 (by simp) q
    · exact dw_ne h3 b2 (by simp) q
    · exact dw_ne h3 a1 (by simp) q
    · exact dw_ne h3 a2 (by simp) q
  · obtain ⟨t, a1, a2⟩ := h6 i hi
    exact ⟨t, a1, hx.2.1 _ _ _ a2⟩
  · obtain ⟨t, a1, a2⟩ := h7 i hi
    exact ⟨t, a1, hx.2.1 _ _ _ a2⟩
theorem dkS.bld {B' : List Int} {sB' : Int} (h : dkS G f x ta sa yr dc bu dr qy qb qd gT gS c0 w0 T Y B Z D sB sZ sD) (hx : exo G (fun a => a = bu ∨ a = qb) f f') (hb : rw G f' bu qb 60 B' sB') (rB : ∀ u ∈ B', 0 ≤ u ∧ u < 65536) : dkS G f' x ta sa yr dc bu dr qy qb qd gT gS c0 w0 T Y B' Z D sB' sZ sD := by
  obtain ⟨e1, e2, e3, e4, e5, e6⟩ := h.ne
  obtain ⟨n1, n2, n3, n4, n5, n6⟩ := h.2.2.2.2.2.2.2.2.1
  refine h.rows (hx.mono (fun a z => by rcases z with z | z; exact Or.inr (Or.inr (Or.inl z)); exact Or.inr (Or.inr (Or.inr (Or.inl z))))) (hx.rw h.2.2.2.2.2.2.2.1.1 ?_ ?_) hb (hx.rw h.2.2.2.2.2.2.2.1.2.2 ?_ ?_) rB h.2.2.2.2.2.2.2.2.2.2
  · intro z; rcases z with z | z; exact n2 z.symm; exact e6 z.symm
  · intro z; rcases z with z | z; exact e5 z.symm; exact n5 z.symm
  · intro z; rcases z with z | z; exact n1 z.symm; exact e1 z
  · intro z; rcases z with z | z; exact e3 z; exact n4 z.symm
theorem dkS.byt {Z' : List Int} {sZ' : Int} (h : dkS G f x ta sa yr dc bu dr qy qb qd gT gS c0 w0 T Y B Z D sB sZ sD) (hx : exo G (fun a => a = yr ∨ a = qy) f f') (hy : rw G f' yr qy 200 Z' sZ') (rZ : ∀ z ∈ Z', 0 ≤ z ∧ z < 256) : dkS G f' x ta sa yr dc bu dr qy qb qd gT gS c0 w0 T Y B Z' D sB sZ' sD := by
  obtain ⟨e1, e2, e3, e4, e5, e6⟩ := h.ne
  obtain ⟨n1, n2, n3, n4, n5, n6⟩ := h.2.2.2.2.2.2.2.2.1
  refine h.rows (hx.mono (fun a z => by rcases z with z | z; exact Or.inr (Or.inr (Or.inr (Or.inr (Or.inl z)))); exact Or.inr (Or.inr (Or.inr (Or.inr (Or.inr z)))))) hy (hx.rw h.2.2.2.2.2.2.2.1.2.1 ?_ ?_) (hx.rw h.2.2.2.2.2.2.2.1.2.2 ?_ ?_) h.2.2.2.2.2.2.2.2.2.1 rZ
  · intro z; rcases z with z | z; exact n2 z; exact e5 z
  · intro z; rcases z with z | z; exact e6 z; exact n5 z
  · intro z; rcases z with z | z; exact n3 z; exact e2 z
  · intro z; rcases z with z | z; exact e4 z; exact n6 z
/-- every cell of the desk stays -/
theorem dkS.more (h : dkS G f x ta sa yr dc bu dr qy qb qd gT gS c0 w0 T Y B Z D sB sZ sD) (hm : ∀ a z, f a = some z → f' a = some z) : dkS G f' x ta sa yr dc bu dr qy qb qd gT gS c0 w0 T Y B Z D sB sZ sD := h.read (exo_more hm)
/-- a new text is kept -/
theorem dkS.keep {t : Nat} {us : List Int} (hG : okG G) (h : dkS G f x ta sa yr dc bu dr qy qb qd gT gS c0 w0 T Y B Z D sB sZ sD) (hT : T.length < 24) (ht : tx G T.length f t us) (h2 : f' ta = some (.inl (G.2.1 3, 24, .inr (.inr (.inr (.inr (va_up gT T.length (some t)))))))) (hk : ∀ a, a ≠ ta → f' a = f a) : dkS G f' x ta sa yr dc bu dr qy qb qd (va_up gT T.length (some t)) gS c0 w0 (T ++ [us]) Y B Z D sB sZ sD := by
  obtain ⟨a1, a2, a3, a4, a5, a6, a7, ⟨a8, a9, a10⟩, a11, a12⟩ := h
  have hag : ∀ a z, f a = some z → tcl G z → f' a = some z := by
    intro a z ha hz
    rw [hk a (fun e => ?_)]
    · exact ha
    · subst e
      rw [a2] at ha
      cases ha
      rcases hz with ⟨i, fs, e, e1, e2⟩ | ⟨z, e⟩ | ⟨z, e⟩
      · cases e
      · exact hG.2.2.2.1 (congrArg Prod.fst (Sum.inl.inj e))
      · exact hG.2.2.2.2 (congrArg Prod.fst (Sum.inl.inj e))
  have hr : ∀ {r q n : Nat} {us : List Int} {sp : Int}, rw G f r q n us sp → rw G f' r q n us sp := by
    intro r q n us sp hr
    obtain ⟨g, b1, b2, b3⟩ := hr
    refine ⟨g, ?_, ?_, b3⟩
    · rw [hk r (dw_ne b1 a2 (by simp))]; exact b1
    · rw [hk q (fun e => by
        subst e
        rw [a2] at b2
        exact hG.2.2.1 (congrArg Prod.fst (Sum.inl.inj (Option.some.inj b2))).symm)]; exact b2
  refine ⟨by rw [hk x (dw_ne a1 a2 (by simp))]; exact a1, h2, ?_, ?_, ⟨by simp; omega, a5.2.1, a5.2.2.1, fun i hi => ?_, a5.2.2.2.2⟩, fun i hi => ?_, fun i hi => ?_, ⟨hr a8, hr a9, hr a10⟩, a11, a12⟩
  · rw [hk sa (Ne.symm a5.2.2.1)]; exact a3
  · rw [hk dc (dw_ne a4 a2 (by simp))]; exact a4
  · have hi2 : T.length + 1 ≤ i := by simpa using hi
    rw [va_up_ne _ _ (show i ≠ T.length by omega)]
    exact a5.2.2.2.1 i (by omega)
  · by_cases e : i = T.length
    · subst e
      refine ⟨t, va_up_self _ _ _, ?_⟩
      rw [List.getD_eq_getElem?_getD, List.getElem?_append_right (Nat.le_refl _)]
      simp only [Nat.sub_self, List.getElem?_cons_zero, Option.getD_some]
      exact tx.agree hag ht
    · have hi2 : i < T.length := by simp at hi; omega
      obtain ⟨t', b1, b2⟩ := a6 i hi2
      refine ⟨t', by rw [va_up_ne _ _ e]; exact b1, ?_⟩
      rw [List.getD_eq_getElem?_getD, List.getElem?_append_left hi2, ← List.getD_eq_getElem?_getD]
      exact tx.agree hag b2
  · obtain ⟨t', b1, b2⟩ := a7 i hi
    exact ⟨t', b1, tx.agree hag b2⟩
/-- only the desk's own cell changes: builder and draft change places -/
theorem dkS.swap (h : dkS G f x ta sa yr dc bu dr qy qb qd gT gS c0 w0 T Y B Z D sB sZ sD) (h1 : f' x = some (.inr (5, [.ref ta, .ref sa, .ref yr, .ref dc, .ref dr, .ref bu]))) (hk : ∀ a, a ≠ x → f' a = f a) (rD : ∀ u ∈ D, 0 ≤ u ∧ u < 65536) : dkS G f' x ta sa yr dc dr bu qy qd qb gT gS c0 w0 T Y D Z B sD sZ sB := by
  obtain ⟨a1, a2, a3, a4, a5, a6, a7, ⟨a8, a9, a10⟩, ⟨n1, n2, n3, n4, n5, n6⟩, a12, a13⟩ := h
  have hag : ∀ a z, f a = some z → tcl G z → f' a = some z := by
    intro a z ha hz
    rw [hk a (fun e => ?_)]
    · exact ha
    · subst e
      rw [a1] at ha
      cases ha
      rcases hz with ⟨i, fs, e, e1, e2⟩ | ⟨z, e⟩ | ⟨z, e⟩ <;> cases e
      omega
  have hr : ∀ {r q n : Nat} {us : List Int} {sp : Int}, rw G f r q n us sp → rw G f' r q n us sp := by
    intro r q n us sp hr
    obtain ⟨g, b1, b2, b3⟩ := hr
    refine ⟨g, ?_, ?_, b3⟩
    · rw [hk r (dw_ne b1 a1 (by simp))]; exact b1
    · rw [hk q (dw_ne b2 a1 (by simp))]; exact b2
  refine ⟨h1, ?_, ?_, ?_, a5, fun i hi => ?_, fun i hi => ?_, ⟨hr a8, hr a10, hr a9⟩, ⟨n1.symm, n3, n2, n4.symm, n6, n5⟩, rD, a13⟩
  · rw [hk ta (dw_ne a2 a1 (by simp))]; exact a2
  · rw [hk sa (dw_ne a3 a1 (by simp))]; exact a3
  · rw [hk dc (dw_ne a4 a1 (by simp))]; exact a4
  · obtain ⟨t', b1, b2⟩ := a6 i hi
    exact ⟨t', b1, tx.agree hag b2⟩
  · obtain ⟨t', b1, b2⟩ := a7 i hi
    exact ⟨t', b1, tx.agree hag b2⟩
end DS
section RA
variable {p : Program} {l : Launch} {e : Env} {R : Room} {s : State} {m : MethodId} {args : Array Value} {below : List Frame} {meth : Method} {c : Code} {H : Heap} {locs : List Loc} {cells slots : Nat} {Q : State → Prop}
variable {cc : ByteArray} {pc nL : Nat} {ls : Array Slot} {rest : List Value} {G : ct_G} {A : Nat → Prop} {a v d n : Nat} {f : dw_M} {H0 : Heap} {us : List Int} {own : String} {g : Nat → Option Nat}
/-- a text into an array of texts -/
theorem ra_aast (X : cx G own p s m args c cc nL) (hw : dw G.1 dk_cl A H0 f H locs) (ha : f a = some (.inl (G.2.1 3, n, .inr (.inr (.inr (.inr g)))))) (ht : tx G d f v us) {i : Int} (h0 : 0 ≤ i) (h1 : i < (n : Int)) (h2 : i < 2147483648) (hdg : decode cc pc = .ok (.aastore, 1))
    (kk : ∀ (H1 : Heap) (locs1 : List Loc), dw G.1 dk_cl A H0 (dw_up f a (.inl (G.2.1 3, n, .inr (.inr (.inr (.inr (va_up g i.toNat (some v)))))))) H1 locs1 → W p l e R s m args below meth c H1 locs1 cells slots Q (F0 m (pc + 1) ls rest)) : W p l e R s m args below meth c H locs cells slots Q (F0 m pc ls (.ref v :: .int (iI i) :: .ref a :: rest)) := by
  rcases tx_head ht with ⟨q, g9, k1, -⟩ | ⟨q, g9, k1, -⟩ | ⟨x, y, fl, k1⟩
  · exact dw_aast X.1 X.2.1 X.K hw 3 ha rfl k1 rfl (fun comp c0 => vb_asgC (X.E.2.2.2.2.2.1 ("TextDesk$NarrowText", "TextDesk$Text") (by decide +kernel)) comp c0) h0 h1 h2 hdg kk
  · exact dw_aast X.1 X.2.1 X.K hw 3 ha rfl k1 rfl (fun comp c0 => vb_asgC (X.E.2.2.2.2.2.1 ("TextDesk$WideText", "TextDesk$Text") (by decide +kernel)) comp c0) h0 h1 h2 hdg kk
  · exact dw_aast X.1 X.2.1 X.K hw 3 ha rfl k1 rfl (fun comp c0 => vb_asgC (X.E.2.2.2.2.2.1 ("TextDesk$JoinedText", "TextDesk$Text") (by decide +kernel)) comp c0) h0 h1 h2 hdg kk
end RA
/-- the units of text k -/
def tt (T : List (List Int)) (k : Int) : List Int := T.getD k.toNat []
theorem dkS.txt {G : ct_G} {f : dw_M} {x ta sa yr dc bu dr qy qb qd : Nat} {gT gS : Nat → Option Nat} {c0 w0 : Int32} {T Y : List (List Int)} {B Z D : List Int} {sB sZ sD : Int} (h : dkS G f x ta sa yr dc bu dr qy qb qd gT gS c0 w0 T Y B Z D sB sZ sD) {k : Int} {t : Nat} (h0 : 0 ≤ k) (h1 : k < (T.length : Int)) (hg : gT k.toNat = some t) : tx G k.toNat f t (tt T k) := by
  obtain ⟨t', e1, e2⟩ := h.2.2.2.2.2.1 k.toNat (by omega)
  cases Option.some.inj (e1.symm.trans hg)
  exact e2
theorem apl1_fit {n : Nat} {u xs : List Int} (h : u.length + xs.length ≤ n) : apl1 n u xs = u ++ xs := by
  unfold apl1
  rw [List.take_of_length_le (by omega)]
theorem apl2_fit {n : Nat} {u xs : List Int} (h : u.length + xs.length ≤ n) (sp : Int) : apl2 n u xs sp = sp := if_pos h
theorem apl2_01 {n : Nat} {u xs : List Int} {sp : Int} (h : sp = 0 ∨ sp = 1) : apl2 n u xs sp = 0 ∨ apl2 n u xs sp = 1 := by
  unfold apl2
  split
  · exact h
  · exact Or.inr rfl
theorem sbl_len (us : List Int) (a b : Int) : (sbl us a b).length ≤ us.length := by
  simp only [sbl, List.length_drop, List.length_take]
  omega
theorem sbl_mem {us : List Int} {a b u : Int} (h : u ∈ sbl us a b) : u ∈ us := List.mem_of_mem_take (List.mem_of_mem_drop h)
theorem mem_app {P : Int → Prop} {a b : List Int} (ha : ∀ u ∈ a, P u) (hb : ∀ u ∈ b, P u) : ∀ u ∈ a ++ b, P u := fun u h => (List.mem_append.mp h).elim (ha u) (hb u)
theorem mem_apl {P : Int → Prop} {n : Nat} {a b : List Int} (ha : ∀ u ∈ a, P u) (hb : ∀ u ∈ b, P u) : ∀ u ∈ apl1 n a b, P u := mem_app ha (fun u h => hb u (List.mem_of_mem_take h))
theorem mem_one {P : Int → Prop} {x : Int} (h : P x) : ∀ u ∈ [x], P u := fun u hu => by rw [List.mem_singleton.mp hu]; exact h
theorem mem_nil {P : Int → Prop} : ∀ u ∈ ([] : List Int), P u := fun u h => absurd h List.not_mem_nil
theorem apl2_0 {n : Nat} {xs : List Int} : apl2 n [] xs 0 = 0 ↔ xs.length ≤ n := by
  unfold apl2
  by_cases h : ([] : List Int).length + xs.length ≤ n
  · rw [if_pos h]
    simp at h
    exact ⟨fun _ => h, fun _ => rfl⟩
  · rw [if_neg h]
    simp at h
    exact ⟨fun q => by omega, fun q => by omega⟩
def hsh (us : List Int) : Int := us.foldl (fun h u => 31 * h + u) 0
theorem hsh_snoc {us : List Int} {k : Int} (h0 : 0 ≤ k) (h1 : k < (us.length : Int)) : hsh (us.take (k + 1).toNat) = 31 * hsh (us.take k.toNat) + gt us k := by
  have e : (k + 1).toNat = k.toNat + 1 := by omega
  have hk : k.toNat < us.length := by omega
  unfold hsh
  rw [e, List.take_add_one, List.getElem?_eq_getElem hk, Option.toList_some, List.foldl_append, gt_in h0 h1, List.getD_eq_getElem?_getD, List.getElem?_eq_getElem hk]
  rfl
theorem hsh_all {us : List Int} {k : Int} (h : (us.length : Int) ≤ k) : hsh (us.take k.toNat) = hsh us := by
  rw [List.take_of_length_le (by omega)]
