/-! WHAT THE HELPERS ANSWER, as pure functions of units -/
def b2 (b : Bool) : Int := if b = true then 1 else 0
theorem b2_01 (b : Bool) : b2 b = 0 ∨ b2 b = 1 := by cases b <;> decide
theorem b2_t : b2 true = 1 := rfl
theorem b2_f : b2 false = 0 := rfl
theorem b2_0 {b : Bool} (h : b2 b = 0) : b = false := by cases b; rfl; cases h
theorem b2_1 {b : Bool} (h : b2 b ≠ 0) : b = true := by cases b; exact absurd rfl h; rfl
def hi (u : Int) : Bool := decide (55296 ≤ u ∧ u < 56320)
def lw (u : Int) : Bool := decide (56320 ≤ u ∧ u < 57344)
/-- a pair stands at a place -/
def pr (us : List Int) (k : Int) : Bool := hi (gt us k) && lw (gt us (k + 1))
def chr (us : List Int) (k : Int) : Int := if pr us k = true then 65536 + (gt us k - 55296) * 1024 + gt us (k + 1) - 56320 else gt us k
/-- the first unit in which two texts differ .. -/
def dif : List Int → List Int → Int
  | x :: a, y :: b => if x = y then dif a b else x - y
  | a, b => (a.length : Int) - (b.length : Int)
theorem gt_cons_s {x : Int} {a : List Int} {k : Int} (h : 0 ≤ k) : gt (x :: a) (k + 1) = gt a k := by
  unfold gt
  have e : (k + 1).toNat = k.toNat + 1 := by omega
  have e2 : (((x :: a).length : Nat) : Int) = (a.length : Int) + 1 := by simp
  rw [e2, e]
  by_cases h1 : k < (a.length : Int)
  · rw [if_pos ⟨by omega, by omega⟩, if_pos ⟨h, h1⟩]
    rfl
  · rw [if_neg (by omega), if_neg (by omega)]
theorem gt_cons_0 {x : Int} {a : List Int} : gt (x :: a) 0 = x := by
  unfold gt
  rw [if_pos ⟨by omega, by simp <;> omega⟩]
  rfl
theorem dif_eq : ∀ (a b : List Int) (k : Nat), k ≤ a.length → k ≤ b.length → (∀ j : Nat, j < k → gt a j = gt b j) → (k < a.length → k < b.length → gt a k ≠ gt b k → dif a b = gt a k - gt b k) ∧ (k = a.length ∨ k = b.length → dif a b = (a.length : Int) - b.length)
  | [], b, k, h1, h2, h => ⟨fun h3 => by simp at h3, fun _ => by cases b <;> rfl⟩
  | x :: a, [], k, h1, h2, h => ⟨fun _ h3 => by simp at h3, fun _ => rfl⟩
  | x :: a, y :: b, k, h1, h2, h => by
    cases k with
    | zero =>
      refine ⟨fun _ _ h3 => ?_, fun h3 => by simp at h3⟩
      have e0 : ((0 : Nat) : Int) = 0 := rfl
      rw [e0, gt_cons_0, gt_cons_0] at h3 ⊢
      simp [dif, h3]
    | succ k =>
      have hxy : x = y := by
        have := h 0 (by omega)
        have e0 : ((0 : Nat) : Int) = 0 := rfl
        rw [e0, gt_cons_0, gt_cons_0] at this
        exact this
      have ih := dif_eq a b k (by simp at h1; omega) (by simp at h2; omega) (fun j hj => by
        have := h (j + 1) (by omega)
        have e : ((j + 1 : Nat) : Int) = (j : Int) + 1 := by omega
        rw [e, gt_cons_s (by omega), gt_cons_s (by omega)] at this
        exact this)
      have ed : dif (x :: a) (y :: b) = dif a b := by simp [dif, hxy]
      have e : ((k + 1 : Nat) : Int) = (k : Int) + 1 := by omega
      rw [ed, e, gt_cons_s (by omega), gt_cons_s (by omega)]
      refine ⟨fun h3 h4 h5 => ih.1 (by simp at h3; omega) (by simp at h4; omega) h5, fun h3 => ?_⟩
      rw [ih.2 (by simp at h3; omega)]
      simp only [List.length_cons]
      omega
/-- s stands in w at a place -/
def sta (w s : List Int) (p : Int) : Bool := decide (0 ≤ p ∧ p + (s.length : Int) ≤ (w.length : Int) ∧ ∀ k : Nat, k < s.length → gt w (p + k) = gt s k)
/-- the lowest place not below fr at which s stands in w, or -1 (n: places to try) -/
def fst1 (w s : List Int) : Nat → Int → Int
  | 0, _ => -1
  | n + 1, p => if sta w s p = true then p else fst1 w s n (p + 1)
/-- the highest place not above p, or -1 -/
def lst1 (w s : List Int) : Nat → Int → Int
  | 0, _ => -1
  | n + 1, p => if p < 0 then -1 else if sta w s p = true then p else lst1 w s n (p - 1)
def frst (w s : List Int) (fr : Int) : Int := fst1 w s ((w.length : Int) - s.length - (if fr < 0 then 0 else fr) + 1).toNat (if fr < 0 then 0 else fr)
def last (w s : List Int) (fr : Int) : Int := lst1 w s (w.length + 1) (if (w.length : Int) - s.length < fr then (w.length : Int) - s.length else fr)
theorem gt_rng {us : List Int} (h : ∀ u ∈ us, 0 ≤ u ∧ u < 65536) (k : Int) : -1 ≤ gt us k ∧ gt us k < 65536 := by
  unfold gt
  split
  · rename_i hk
    have := h _ (getD_mem (us := us) (k := k.toNat) (by omega))
    omega
  · omega
theorem pr_hi {us : List Int} {k : Int} (h : pr us k = true) : (55296 ≤ gt us k ∧ gt us k < 56320) ∧ 56320 ≤ gt us (k + 1) ∧ gt us (k + 1) < 57344 := by
  unfold pr hi lw at h
  rw [Bool.and_eq_true] at h
  exact ⟨of_decide_eq_true h.1, of_decide_eq_true h.2⟩
