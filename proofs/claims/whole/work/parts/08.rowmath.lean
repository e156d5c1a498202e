/-! pure rows on what a Row holds -/
def ap1 (n : Nat) (us : List Int) (x : Int) : List Int := if us.length < n then us ++ [x] else us
def ap2 (n : Nat) (us : List Int) (sp : Int) : Int := if us.length < n then sp else 1
theorem getD_app_l {us : List Int} {x : Int} {k : Nat} (h : k < us.length) : (us ++ [x]).getD k 0 = us.getD k 0 := by
  rw [List.getD_eq_getElem?_getD, List.getD_eq_getElem?_getD, List.getElem?_append_left h]
theorem getD_app_r {us : List Int} {x : Int} : (us ++ [x]).getD us.length 0 = x := by
  rw [List.getD_eq_getElem?_getD, List.getElem?_append_right (Nat.le_refl _)]
  simp
theorem rw_push {G : ct_G} {f : dw_M} {r q n : Nat} {us : List Int} {sp x : Int} {g : Nat → Int32} (h0 : f r = some (.inr (4, [.ref q, .int (iI ((us.length : Int) + 1)), .int (iI sp)]))) (h1 : f q = some (.inl (G.2.1 0, n, .inl (upd g us.length (iI x))))) (hl : us.length < n) (hn : n < 1000) (hg : ∀ k, k < us.length → g k = iI (us.getD k 0)) : rw G f r q n (us ++ [x]) sp := by
  have e : (((us ++ [x]).length : Nat) : Int) = (us.length : Int) + 1 := by simp
  refine ⟨upd g us.length (iI x), by rw [h0, e], h1, by simp; omega, hn, fun k hk => ?_⟩
  by_cases hq : k = us.length
  · subst hq
    rw [pk_us, getD_app_r]
  · have hk2 : k < us.length := by simp at hk; omega
    rw [pk_un hq, hg k hk2, getD_app_l hk2]
theorem b01 {sp : Int} (h : sp = 0 ∨ sp = 1) : narrow .boolean (.int (iI sp)) = .int (iI sp) := by
  rcases h with rfl | rfl <;> decide
theorem b01f {sp : Int} (h : sp = 0 ∨ sp = 1) : fits .boolean (.int (iI sp)) = true := by
  rcases h with rfl | rfl <;> decide
theorem getE (us : List Int) {k : Int} (h0 : 0 ≤ k) (h1 : k < (us.length : Int)) {g : Nat → Int32} (hg : ∀ k, k < us.length → g k = iI (us.getD k 0)) : g k.toNat = iI (gt us k) := by
  rw [gt_in h0 h1, hg k.toNat (by omega)]
