/-! pure rows on lists of units -/
/-- the units from a place on, before another one -/
def sbl (us : List Int) (lo hi : Int) : List Int := (us.take hi.toNat).drop lo.toNat
def apl1 (n : Nat) (u xs : List Int) : List Int := u ++ xs.take (n - u.length)
def apl2 (n : Nat) (u xs : List Int) (sp : Int) : Int := if u.length + xs.length ≤ n then sp else 1
theorem apl1_nil (n : Nat) (u : List Int) : apl1 n u [] = u := by simp [apl1]
theorem apl2_nil {n : Nat} {u : List Int} (h : u.length ≤ n) (sp : Int) : apl2 n u [] sp = sp := by
  unfold apl2
  rw [if_pos (by simpa using h)]
theorem apl1_len {n : Nat} {u xs : List Int} (h : u.length ≤ n) : (apl1 n u xs).length ≤ n := by
  simp only [apl1, List.length_append, List.length_take]
  omega
theorem apl1_snoc {n : Nat} {u xs : List Int} (x : Int) (h : u.length ≤ n) : ap1 n (apl1 n u xs) x = apl1 n u (xs ++ [x]) := by
  unfold ap1
  by_cases hl : u.length + xs.length < n
  · have e1 : apl1 n u xs = u ++ xs := by unfold apl1; rw [List.take_of_length_le (by omega)]
    have e2 : apl1 n u (xs ++ [x]) = u ++ (xs ++ [x]) := by unfold apl1; rw [List.take_of_length_le (by simp; omega)]
    rw [e1, e2, if_pos (by simp; omega), List.append_assoc]
  · rw [if_neg (by simp only [apl1, List.length_append, List.length_take]; omega)]
    unfold apl1
    rw [List.take_append_of_le_length (by omega)]
theorem apl2_snoc {n : Nat} {u xs : List Int} (x : Int) (h : u.length ≤ n) (sp : Int) : ap2 n (apl1 n u xs) (apl2 n u xs sp) = apl2 n u (xs ++ [x]) sp := by
  unfold ap2 apl2
  have e : (apl1 n u xs).length < n ↔ u.length + xs.length < n := by
    simp only [apl1, List.length_append, List.length_take]
    omega
  by_cases hl : u.length + xs.length < n
  · rw [if_pos (e.mpr hl), if_pos (by omega), if_pos (by simp; omega)]
  · rw [if_neg (fun q => hl (e.mp q)), if_neg (by simp; omega)]
theorem apl_app1 {n : Nat} {u xs ys : List Int} (h : u.length ≤ n) : apl1 n (apl1 n u xs) ys = apl1 n u (xs ++ ys) := by
  unfold apl1
  rw [List.append_assoc, List.take_append]
  congr 2
  congr 1
  simp only [List.length_append, List.length_take]
  omega
theorem apl_app2 {n : Nat} {u xs ys : List Int} (h : u.length ≤ n) (sp : Int) : apl2 n (apl1 n u xs) ys (apl2 n u xs sp) = apl2 n u (xs ++ ys) sp := by
  unfold apl2
  have e : (apl1 n u xs).length = u.length + min (n - u.length) xs.length := by simp [apl1]
  rw [e]
  by_cases h1 : u.length + xs.length ≤ n
  · rw [if_pos h1]
    by_cases h2 : u.length + (xs ++ ys).length ≤ n
    · rw [if_pos h2, if_pos (by simp at h2; omega)]
    · rw [if_neg h2, if_neg (by simp at h2; omega)]
  · have r : (if u.length + (xs ++ ys).length ≤ n then sp else 1) = 1 := if_neg (by simp; omega)
    rw [if_neg h1, r]
    split <;> rfl
theorem sbl_nil {us : List Int} {lo hi : Int} (h : hi ≤ lo) (h0 : 0 ≤ lo) : sbl us lo hi = [] := by
  unfold sbl
  apply List.drop_eq_nil_of_le
  simp only [List.length_take]
  omega
theorem sbl_snoc {us : List Int} {lo k : Int} (h0 : 0 ≤ lo) (h1 : lo ≤ k) (h2 : k < (us.length : Int)) : sbl us lo (k + 1) = sbl us lo k ++ [us.getD k.toNat 0] := by
  unfold sbl
  have e : (k + 1).toNat = k.toNat + 1 := by omega
  have hk : k.toNat < us.length := by omega
  rw [e, List.take_add_one, List.getElem?_eq_getElem hk, List.drop_append_of_le_length (by simp only [List.length_take]; omega)]
  congr 1
  rw [List.getD_eq_getElem?_getD, List.getElem?_eq_getElem hk]
  rfl
theorem sbl_end {us : List Int} {fr to lo en k : Int} (hlo : lo = if fr < 0 then 0 else fr) (hen : en = if (us.length : Int) < to then (us.length : Int) else to) (h1 : lo ≤ k) (h2 : k ≤ en ∨ k = lo) (h3 : en ≤ k) : sbl us lo k = sbl us fr to := by
  have hl0 : 0 ≤ lo := by rw [hlo]; split <;> omega
  have hd : lo.toNat = fr.toNat := by rw [hlo]; split <;> omega
  rcases h2 with h2 | h2
  · have e : k = en := by omega
    subst e
    unfold sbl
    rw [hd, hen]
    split
    · rw [List.take_of_length_le (by omega), List.take_of_length_le (by omega)]
    · rfl
  · subst h2
    rw [sbl_nil (Int.le_refl _) hl0]
    symm
    unfold sbl
    apply List.drop_eq_nil_of_le
    simp only [List.length_take]
    rw [hen] at h3
    split at h3 <;> omega
theorem sbl_all (us : List Int) : sbl us 0 (us.length : Int) = us := by
  unfold sbl
  rw [List.take_of_length_le (by omega)]
  rfl
theorem mem_getD {us : List Int} {u : Int} (h : u ∈ us) : ∃ i, i < us.length ∧ u = us.getD i 0 := by
  obtain ⟨i, hi, e⟩ := List.getElem_of_mem h
  exact ⟨i, hi, by rw [List.getD_eq_getElem?_getD, List.getElem?_eq_getElem hi]; exact e.symm⟩
/-- what a range may have to pay: nothing where it is empty -/
def rc (x : Nat) (xs : List Int) : Nat := if xs.length = 0 then 0 else x
theorem rc_le (x : Nat) (xs : List Int) : rc x xs ≤ x := by
  unfold rc
  split <;> omega
theorem sbl_length {us : List Int} {lo hi : Int} (h0 : 0 ≤ lo) (h1 : hi ≤ (us.length : Int)) : (sbl us lo hi).length = (hi - lo).toNat := by
  simp only [sbl, List.length_drop, List.length_take]
  omega
