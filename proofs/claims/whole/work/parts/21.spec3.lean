/-! WHAT A CALL DOES, one function for both sides: (number of the exception, answer, texts, symbols, builder, bytes) -/
abbrev Rs : Type := Int × Int × List (List Int) × List (List Int) × List Int × List Int
abbrev isT (T : List (List Int)) (k : Int) : Prop := 0 ≤ k ∧ k < (T.length : Int)
noncomputable def strp (us : List Int) : List Int := Classical.epsilon (fun R => stp us R)
theorem strp_eq {us R : List Int} (h : stp us R) : strp us = R := stp_one (Classical.epsilon_spec (p := fun R => stp us R) ⟨R, h⟩) h
def sidx (Y : List (List Int)) (u : List Int) : Nat := Y.findIdx (fun z => decide (z = u))
theorem sidx_hit {Y : List (List Int)} {u : List Int} {j : Nat} (h : j < Y.length) (h1 : Y.getD j [] = u) (h2 : ∀ i, i < j → Y.getD i [] ≠ u) : sidx Y u = j := by
  unfold sidx
  rw [List.findIdx_eq h]
  refine ⟨?_, fun i hi => ?_⟩
  · rw [List.getD_eq_getElem?_getD, List.getElem?_eq_getElem h] at h1
    exact decide_eq_true h1
  · have h3 := h2 i hi
    rw [List.getD_eq_getElem?_getD, List.getElem?_eq_getElem (by omega)] at h3
    exact decide_eq_false h3
theorem sidx_no {Y : List (List Int)} {u : List Int} (h : ∀ i, i < Y.length → Y.getD i [] ≠ u) : sidx Y u = Y.length := by
  unfold sidx
  rw [List.findIdx_eq_length]
  intro z hz
  obtain ⟨i, hi, e⟩ := List.getElem_of_mem hz
  have h3 := h i hi
  rw [List.getD_eq_getElem?_getD, List.getElem?_eq_getElem hi] at h3
  exact decide_eq_false (fun q => h3 (by rw [← q]; exact e))
section SP
variable (T Y : List (List Int)) (B Z : List Int)
def sp_unit (u : Int) : Rs := if ¬ (0 ≤ u ∧ u < 65536) then (1, 0, T, Y, B, Z) else if B.length = 60 then (2, 0, T, Y, B, Z) else (0, (B.length : Int) + 1, T, Y, B ++ [u], Z)
def sp_insert (p k : Int) : Rs := if ¬ (isT T k ∧ 0 ≤ p ∧ p ≤ (B.length : Int)) then (1, 0, T, Y, B, Z) else if ¬ (B.length + (tt T k).length ≤ 60) then (2, 0, T, Y, B, Z) else (0, (B.length : Int) + ((tt T k).length : Int), T, Y, sbl B 0 p ++ (tt T k ++ sbl B p (B.length : Int)), Z)
def sp_delete (fr to : Int) : Rs := if ¬ (0 ≤ fr ∧ fr ≤ to ∧ to ≤ (B.length : Int)) then (1, 0, T, Y, B, Z) else (0, 0, T, Y, sbl B 0 fr ++ sbl B to (B.length : Int), Z)
def sp_reverse : Rs := (0, 0, T, Y, rvk B B.length, Z)
def sp_built (k : Int) : Rs := if ¬ (-1 ≤ k ∧ k < (B.length : Int)) then (1, 0, T, Y, B, Z) else (0, if k = -1 then (B.length : Int) else gt B k, T, Y, B, Z)
def sp_take : Rs := if T.length = 24 then (1, 0, T, Y, B, Z) else (0, (T.length : Int), T ++ [B], Y, [], Z)
def sp_join (a b : Int) : Rs := if ¬ (isT T a ∧ isT T b) then (1, 0, T, Y, B, Z) else if ¬ (T.length < 24 ∧ (tt T a).length + (tt T b).length ≤ 60) then (2, 0, T, Y, B, Z) else (0, (T.length : Int), T ++ [tt T a ++ tt T b], Y, B, Z)
def sp_part (k fr to : Int) : Rs := if ¬ isT T k then (1, 0, T, Y, B, Z) else if ¬ (0 ≤ fr ∧ fr ≤ to ∧ to ≤ ((tt T k).length : Int)) then (2, 0, T, Y, B, Z) else if T.length = 24 then (3, 0, T, Y, B, Z) else (0, (T.length : Int), T ++ [sbl (tt T k) fr to], Y, B, Z)
def sp_replace (a b c : Int) : Rs := if ¬ (isT T a ∧ isT T b ∧ isT T c) then (1, 0, T, Y, B, Z) else if ¬ ((rplc (tt T a) (tt T b) (tt T c)).length ≤ 60 ∧ T.length < 24) then (2, 0, T, Y, B, Z) else (0, (T.length : Int), T ++ [rplc (tt T a) (tt T b) (tt T c)], Y, B, Z)
noncomputable def sp_strip (k : Int) : Rs := if ¬ isT T k then (1, 0, T, Y, B, Z) else if T.length = 24 then (2, 0, T, Y, B, Z) else (0, (T.length : Int), T ++ [strp (tt T k)], Y, B, Z)
def sp_at (k i : Int) : Rs := if ¬ isT T k then (1, 0, T, Y, B, Z) else if ¬ (-1 ≤ i ∧ i < ((tt T k).length : Int)) then (2, 0, T, Y, B, Z) else (0, if i = -1 then ((tt T k).length : Int) else gt (tt T k) i, T, Y, B, Z)
def sp_character (k i : Int) : Rs := if ¬ isT T k then (1, 0, T, Y, B, Z) else if ¬ (-1 ≤ i ∧ i < ((chs (tt T k)).length : Int)) then (2, 0, T, Y, B, Z) else (0, if i = -1 then ((chs (tt T k)).length : Int) else gt (chs (tt T k)) i, T, Y, B, Z)
def sp_narrow (k : Int) : Rs := if ¬ isT T k then (1, 0, T, Y, B, Z) else (0, nar (tt T k), T, Y, B, Z)
def sp_hash (k : Int) : Rs := if ¬ isT T k then (1, 0, T, Y, B, Z) else (0, hsh (tt T k), T, Y, B, Z)
def sp_compare (a b : Int) : Rs := if ¬ (isT T a ∧ isT T b) then (1, 0, T, Y, B, Z) else (0, dif (tt T a) (tt T b), T, Y, B, Z)
def sp_find (a b fr : Int) (lb : Bool) : Rs := if ¬ (isT T a ∧ isT T b) then (1, 0, T, Y, B, Z) else (0, if lb = true then last (tt T a) (tt T b) fr else frst (tt T a) (tt T b) fr, T, Y, B, Z)
def sp_symbol (k : Int) : Rs := if ¬ isT T k then (1, 0, T, Y, B, Z) else if sidx Y (tt T k) < Y.length then (0, (sidx Y (tt T k) : Int), T, Y, B, Z) else if Y.length = 16 then (2, 0, T, Y, B, Z) else (0, (Y.length : Int), T, Y ++ [tt T k], B, Z)
def sp_encode (k e : Int) : Rs := if ¬ (isT T k ∧ 0 ≤ e ∧ e ≤ 4) then (1, 0, T, Y, B, Z) else (0, ((enc (tt T k) e).length : Int), T, Y, B, enc (tt T k) e)
def sp_type (u : Int) : Rs := if ¬ (0 ≤ u ∧ u < 256) then (1, 0, T, Y, B, Z) else if Z.length = 200 then (2, 0, T, Y, B, Z) else (0, (Z.length : Int) + 1, T, Y, B, Z ++ [u])
def sp_decode (e : Int) (st : Bool) : Rs := if ¬ (0 ≤ e ∧ e ≤ 4) then (1, 0, T, Y, B, Z) else if st = true ∧ dgd Z e = false then (2, 0, T, Y, B, Z) else if ¬ ((dec Z e).length ≤ 60 ∧ T.length < 24) then (3, 0, T, Y, B, Z) else (0, (T.length : Int), T ++ [dec Z e], Y, B, [])
def sp_octet (k : Int) : Rs := if ¬ (-1 ≤ k ∧ k < (Z.length : Int)) then (1, 0, T, Y, B, Z) else (0, if k = -1 then (Z.length : Int) else gt Z k, T, Y, B, Z)
def sp_clear : Rs := (0, 0, [], [], B, Z)
end SP
/-! THE REFERENCE: its cells -/
def mdS (G : ct_G) (f : dw_M) (y : Nat) (th ct bs ms bc sy cs : Int) (si un bu ma bt so co : Nat) (gsi gun gbu gma gbt gso gco : Nat → Int32) : Prop :=
  f y = some (.inr (6, [.int (iI th), .int (iI ct), .ref si, .ref un, .int (iI bs), .ref bu, .int (iI ms), .ref ma, .int (iI bc), .ref bt, .int (iI sy), .ref so, .int (iI cs), .ref co])) ∧ f si = some (.inl (G.2.1 0, 24, .inl gsi)) ∧ f un = some (.inl (G.2.1 0, 1440, .inl gun)) ∧ f bu = some (.inl (G.2.1 0, 60, .inl gbu)) ∧ f ma = some (.inl (G.2.1 0, 200, .inl gma)) ∧ f bt = some (.inl (G.2.1 0, 200, .inl gbt)) ∧ f so = some (.inl (G.2.1 0, 16, .inl gso)) ∧ f co = some (.inl (G.2.1 0, 4, .inl gco)) ∧ ma ≠ bt
section MS
variable {G : ct_G} {f : dw_M} {y : Nat} {th ct bs ms bc sy cs : Int} {si un bu ma bt so co : Nat} {gsi gun gbu gma gbt gso gco : Nat → Int32}
theorem mdS.obj (h : mdS G f y th ct bs ms bc sy cs si un bu ma bt so co gsi gun gbu gma gbt gso gco) (th' ct' bs' ms' bc' sy' cs' : Int) : mdS G (dw_up f y (.inr (6, [.int (iI th'), .int (iI ct'), .ref si, .ref un, .int (iI bs'), .ref bu, .int (iI ms'), .ref ma, .int (iI bc'), .ref bt, .int (iI sy'), .ref so, .int (iI cs'), .ref co]))) y th' ct' bs' ms' bc' sy' cs' si un bu ma bt so co gsi gun gbu gma gbt gso gco := by
  obtain ⟨h0, h1, h2, h3, h4, h5, h6, h7, h8⟩ := h
  exact ⟨dw_up_self _ _ _, dw_keep h1 (dw_ne h1 h0 (by simp)), dw_keep h2 (dw_ne h2 h0 (by simp)), dw_keep h3 (dw_ne h3 h0 (by simp)), dw_keep h4 (dw_ne h4 h0 (by simp)), dw_keep h5 (dw_ne h5 h0 (by simp)), dw_keep h6 (dw_ne h6 h0 (by simp)), dw_keep h7 (dw_ne h7 h0 (by simp)), h8⟩
theorem mdS.w_si (h : mdS G f y th ct bs ms bc sy cs si un bu ma bt so co gsi gun gbu gma gbt gso gco) (g9 : Nat → Int32) : mdS G (dw_up f si (.inl (G.2.1 0, 24, .inl g9))) y th ct bs ms bc sy cs si un bu ma bt so co g9 gun gbu gma gbt gso gco := by
  obtain ⟨h0, h1, h2, h3, h4, h5, h6, h7, h8⟩ := h
  exact ⟨dw_keep h0 (dw_ne h0 h1 (by simp)), dw_up_self _ _ _, dw_keep h2 (dw_ne h2 h1 (by simp)), dw_keep h3 (dw_ne h3 h1 (by simp)), dw_keep h4 (dw_ne h4 h1 (by simp)), dw_keep h5 (dw_ne h5 h1 (by simp)), dw_keep h6 (dw_ne h6 h1 (by simp)), dw_keep h7 (dw_ne h7 h1 (by simp)), h8⟩
theorem mdS.w_un (h : mdS G f y th ct bs ms bc sy cs si un bu ma bt so co gsi gun gbu gma gbt gso gco) (g9 : Nat → Int32) : mdS G (dw_up f un (.inl (G.2.1 0, 1440, .inl g9))) y th ct bs ms bc sy cs si un bu ma bt so co gsi g9 gbu gma gbt gso gco := by
  obtain ⟨h0, h1, h2, h3, h4, h5, h6, h7, h8⟩ := h
  exact ⟨dw_keep h0 (dw_ne h0 h2 (by simp)), dw_keep h1 (dw_ne h1 h2 (by simp)), dw_up_self _ _ _, dw_keep h3 (dw_ne h3 h2 (by simp)), dw_keep h4 (dw_ne h4 h2 (by simp)), dw_keep h5 (dw_ne h5 h2 (by simp)), dw_keep h6 (dw_ne h6 h2 (by simp)), dw_keep h7 (dw_ne h7 h2 (by simp)), h8⟩
theorem mdS.w_bu (h : mdS G f y th ct bs ms bc sy cs si un bu ma bt so co gsi gun gbu gma gbt gso gco) (g9 : Nat → Int32) : mdS G (dw_up f bu (.inl (G.2.1 0, 60, .inl g9))) y th ct bs ms bc sy cs si un bu ma bt so co gsi gun g9 gma gbt gso gco := by
  obtain ⟨h0, h1, h2, h3, h4, h5, h6, h7, h8⟩ := h
  exact ⟨dw_keep h0 (dw_ne h0 h3 (by simp)), dw_keep h1 (dw_ne h1 h3 (by simp)), dw_keep h2 (dw_ne h2 h3 (by simp)), dw_up_self _ _ _, dw_keep h4 (dw_ne h4 h3 (by simp)), dw_keep h5 (dw_ne h5 h3 (by simp)), dw_keep h6 (dw_ne h6 h3 (by simp)), dw_keep h7 (dw_ne h7 h3 (by simp)), h8⟩
theorem mdS.w_ma (h : mdS G f y th ct bs ms bc sy cs si un bu ma bt so co gsi gun gbu gma gbt gso gco) (g9 : Nat → Int32) : mdS G (dw_up f ma (.inl (G.2.1 0, 200, .inl g9))) y th ct bs ms bc sy cs si un bu ma bt so co gsi gun gbu g9 gbt gso gco := by
  obtain ⟨h0, h1, h2, h3, h4, h5, h6, h7, h8⟩ := h
  exact ⟨dw_keep h0 (dw_ne h0 h4 (by simp)), dw_keep h1 (dw_ne h1 h4 (by simp)), dw_keep h2 (dw_ne h2 h4 (by simp)), dw_keep h3 (dw_ne h3 h4 (by simp)), dw_up_self _ _ _, dw_keep h5 h8.symm, dw_keep h6 (dw_ne h6 h4 (by simp)), dw_keep h7 (dw_ne h7 h4 (by simp)), h8⟩
theorem mdS.w_bt (h : mdS G f y th ct bs ms bc sy cs si un bu ma bt so co gsi gun gbu gma gbt gso gco) (g9 : Nat → Int32) : mdS G (dw_up f bt (.inl (G.2.1 0, 200, .inl g9))) y th ct bs ms bc sy cs si un bu ma bt so co gsi gun gbu gma g9 gso gco := by
  obtain ⟨h0, h1, h2, h3, h4, h5, h6, h7, h8⟩ := h
  exact ⟨dw_keep h0 (dw_ne h0 h5 (by simp)), dw_keep h1 (dw_ne h1 h5 (by simp)), dw_keep h2 (dw_ne h2 h5 (by simp)), dw_keep h3 (dw_ne h3 h5 (by simp)), dw_keep h4 h8, dw_up_self _ _ _, dw_keep h6 (dw_ne h6 h5 (by simp)), dw_keep h7 (dw_ne h7 h5 (by simp)), h8⟩
theorem mdS.w_so (h : mdS G f y th ct bs ms bc sy cs si un bu ma bt so co gsi gun gbu gma gbt gso gco) (g9 : Nat → Int32) : mdS G (dw_up f so (.inl (G.2.1 0, 16, .inl g9))) y th ct bs ms bc sy cs si un bu ma bt so co gsi gun gbu gma gbt g9 gco := by
  obtain ⟨h0, h1, h2, h3, h4, h5, h6, h7, h8⟩ := h
  exact ⟨dw_keep h0 (dw_ne h0 h6 (by simp)), dw_keep h1 (dw_ne h1 h6 (by simp)), dw_keep h2 (dw_ne h2 h6 (by simp)), dw_keep h3 (dw_ne h3 h6 (by simp)), dw_keep h4 (dw_ne h4 h6 (by simp)), dw_keep h5 (dw_ne h5 h6 (by simp)), dw_up_self _ _ _, dw_keep h7 (dw_ne h7 h6 (by simp)), h8⟩
theorem mdS.w_co (h : mdS G f y th ct bs ms bc sy cs si un bu ma bt so co gsi gun gbu gma gbt gso gco) (g9 : Nat → Int32) : mdS G (dw_up f co (.inl (G.2.1 0, 4, .inl g9))) y th ct bs ms bc sy cs si un bu ma bt so co gsi gun gbu gma gbt gso g9 := by
  obtain ⟨h0, h1, h2, h3, h4, h5, h6, h7, h8⟩ := h
  exact ⟨dw_keep h0 (dw_ne h0 h7 (by simp)), dw_keep h1 (dw_ne h1 h7 (by simp)), dw_keep h2 (dw_ne h2 h7 (by simp)), dw_keep h3 (dw_ne h3 h7 (by simp)), dw_keep h4 (dw_ne h4 h7 (by simp)), dw_keep h5 (dw_ne h5 h7 (by simp)), dw_keep h6 (dw_ne h6 h7 (by simp)), dw_up_self _ _ _, h8⟩
end MS
/-- an array's first places hold a list -/
def rA (n : Nat) (g : Nat → Int32) (us : List Int) : Prop := us.length ≤ n ∧ ∀ k, k < us.length → g k = iI (us.getD k 0)
/-- .. where what did not fit is left out -/
def rM (g : Nat → Int32) (us : List Int) : Prop := ∀ k, k < us.length → k < 200 → g k = iI (us.getD k 0)
def rT (gs gu : Nat → Int32) (T : List (List Int)) : Prop := T.length ≤ 24 ∧ ∀ i, i < T.length → (T.getD i []).length ≤ 60 ∧ (∀ u ∈ T.getD i [], 0 ≤ u ∧ u < 65536) ∧ gs i = iI ((T.getD i []).length : Int) ∧ ∀ k, k < (T.getD i []).length → gu (60 * i + k) = iI ((T.getD i []).getD k 0)
def rY (g : Nat → Int32) (T Y : List (List Int)) : Prop := Y.length ≤ 16 ∧ ∀ i, i < Y.length → ∃ j, j < T.length ∧ g i = iI (j : Int) ∧ T.getD j [] = Y.getD i []
def mdL (G : ct_G) (f : dw_M) (y : Nat) (th : Int) (T Y : List (List Int)) (B Z M C : List Int) : Prop :=
  ∃ (si un bu ma bt so co : Nat) (gsi gun gbu gma gbt gso gco : Nat → Int32), mdS G f y th (T.length : Int) (B.length : Int) (M.length : Int) (Z.length : Int) (Y.length : Int) (C.length : Int) si un bu ma bt so co gsi gun gbu gma gbt gso gco ∧ rT gsi gun T ∧ (rA 60 gbu B ∧ ∀ u ∈ B, 0 ≤ u ∧ u < 65536) ∧ (rA 200 gbt Z ∧ ∀ z ∈ Z, 0 ≤ z ∧ z < 256) ∧ rM gma M ∧ rA 4 gco C ∧ rY gso T Y
def mdI (G : ct_G) (f : dw_M) (y : Nat) (th : Int) (T Y : List (List Int)) (B Z : List Int) : Prop := ∃ M C : List Int, mdL G f y th T Y B Z M C
def mdP (G : ct_G) (f : dw_M) (y : Nat) (r : Rs) : Prop := mdI G f y r.1 r.2.2.1 r.2.2.2.1 r.2.2.2.2.1 r.2.2.2.2.2
theorem rA.snoc {n : Nat} {g : Nat → Int32} {us : List Int} (h : rA n g us) (hn : us.length < n) (u : Int) : rA n (upd g us.length (iI u)) (us ++ [u]) := by
  refine ⟨by simp; omega, fun k hk => ?_⟩
  simp only [List.length_append, List.length_singleton] at hk
  unfold upd
  by_cases e : k = us.length
  · subst e
    rw [if_pos rfl, List.getD_eq_getElem?_getD, List.getElem?_append_right (Nat.le_refl _)]
    simp
  · rw [if_neg e, h.2 k (by omega), List.getD_eq_getElem?_getD, List.getD_eq_getElem?_getD, List.getElem?_append_left (by omega)]
theorem rA.nil (n : Nat) (g : Nat → Int32) : rA n g [] := ⟨by simp, fun k h => by simp at h⟩
theorem rM.nil (g : Nat → Int32) : rM g [] := fun k h => by simp at h
theorem rM.snoc {g : Nat → Int32} {us : List Int} (h : rM g us) (u : Int) : rM (upd g us.length (iI u)) (us ++ [u]) := by
  intro k hk h2
  simp only [List.length_append, List.length_singleton] at hk
  unfold upd
  by_cases e : k = us.length
  · subst e
    rw [if_pos rfl, List.getD_eq_getElem?_getD, List.getElem?_append_right (Nat.le_refl _)]
    simp
  · rw [if_neg e, h k (by omega) h2, List.getD_eq_getElem?_getD, List.getD_eq_getElem?_getD, List.getElem?_append_left (by omega)]
theorem rM.over {g : Nat → Int32} {us : List Int} (h : rM g us) (hl : 200 ≤ us.length) (u : Int) : rM g (us ++ [u]) := by
  intro k hk h2
  rw [h k (by omega) h2, List.getD_eq_getElem?_getD, List.getD_eq_getElem?_getD, List.getElem?_append_left (by omega)]
theorem rA.at {n : Nat} {g : Nat → Int32} {us : List Int} (h : rA n g us) {k : Int} (h0 : 0 ≤ k) (h1 : k < (us.length : Int)) : g k.toNat = iI (gt us k) := by
  rw [gt_in h0 h1]
  exact h.2 k.toNat (by omega)
theorem rM.at {g : Nat → Int32} {us : List Int} (h : rM g us) {k : Int} (h0 : 0 ≤ k) (h1 : k < (us.length : Int)) (h2 : k < 200) : g k.toNat = iI (gt us k) := by
  rw [gt_in h0 h1]
  exact h k.toNat (by omega) (by omega)
theorem rT.sz {gs gu : Nat → Int32} {T : List (List Int)} (h : rT gs gu T) {k : Int} (hk : isT T k) : gs k.toNat = iI ((tt T k).length : Int) := (h.2 k.toNat (by obtain ⟨a, b⟩ := hk; omega)).2.2.1
theorem rT.un {gs gu : Nat → Int32} {T : List (List Int)} (h : rT gs gu T) {t k : Int} (hk : isT T t) (h0 : 0 ≤ k) (h1 : k < ((tt T t).length : Int)) : gu (60 * t + k).toNat = iI (gt (tt T t) k) := by
  obtain ⟨a, b⟩ := hk
  rw [gt_in h0 h1]
  have := (h.2 t.toNat (by omega)).2.2.2 k.toNat (by unfold tt at h1; omega)
  rw [show (60 * t + k).toNat = 60 * t.toNat + k.toNat by omega]
  exact this
theorem rT.len {gs gu : Nat → Int32} {T : List (List Int)} (h : rT gs gu T) (k : Int) : (tt T k).length ≤ 60 := by
  unfold tt
  by_cases hk : k.toNat < T.length
  · exact (h.2 k.toNat hk).1
  · rw [List.getD_eq_getElem?_getD, List.getElem?_eq_none (by omega)]
    simp
theorem rT.rng {gs gu : Nat → Int32} {T : List (List Int)} (h : rT gs gu T) (k : Int) : ∀ u ∈ tt T k, 0 ≤ u ∧ u < 65536 := by
  unfold tt
  by_cases hk : k.toNat < T.length
  · exact (h.2 k.toNat hk).2.1
  · rw [List.getD_eq_getElem?_getD, List.getElem?_eq_none (by omega)]
    exact mem_nil
theorem mdL.I {G : ct_G} {f : dw_M} {y : Nat} {th : Int} {T Y : List (List Int)} {B Z M C : List Int} (h : mdL G f y th T Y B Z M C) : mdI G f y th T Y B Z := ⟨M, C, h⟩
