theorem c2_DK_unit (l : Launch) (hlT : l.stackTraces = false) (G : ct_G) (f : dw_M) (sz : Nat) (x : Nat) (T Y : List (List Int)) (B Z : List Int) (hI : dkI G f x T Y B Z) (u : Int) (hu : iR u) : ct l y_DK_unit w_DK_unit (8) (120) G f sz [.ref x, .int (iI u)] (fun v f' => v = some (.int (iI (sp_unit T Y B Z u).2.1)) ∧ (sp_unit T Y B Z u).1 = 0 ∧ dkP G f' x (sp_unit T Y B Z u)) (fun E f' => (E = "java/lang/IllegalArgumentException" ∧ (sp_unit T Y B Z u).1 = 1 ∨ E = "java/lang/IllegalStateException" ∧ (sp_unit T Y B Z u).1 = 2) ∧ dkP G f' x (sp_unit T Y B Z u)) (1) (6) := by
  refine ct_mono (c_DK_unit l hlT G f sz x T Y B Z hI u hu) (fun v f' h => ?_) (fun E f' h => ?_)
  · obtain ⟨rfl, c1, c2, hd⟩ := h
    rw [sp_unit, if_neg (not_not_intro c1), if_neg (show ¬ (B.length = 60) by omega)]
    exact ⟨rfl, rfl, hd⟩
  · obtain ⟨⟨rfl, c1⟩ | ⟨rfl, c1, c2⟩, hd⟩ := h
    · have e9 : sp_unit T Y B Z u = (1, 0, T, Y, B, Z) := by rw [sp_unit, if_pos c1]
      rw [e9]
      exact ⟨Or.inl ⟨rfl, rfl⟩, hd⟩
    · have e9 : sp_unit T Y B Z u = (2, 0, T, Y, B, Z) := by rw [sp_unit, if_neg (not_not_intro c1), if_pos c2]
      rw [e9]
      exact ⟨Or.inr (⟨rfl, rfl⟩), hd⟩
theorem c2_DK_insert (l : Launch) (hlT : l.stackTraces = false) (G : ct_G) (f : dw_M) (sz : Nat) (x : Nat) (T Y : List (List Int)) (B Z : List Int) (hI : dkI G f x T Y B Z) (p0 : Int) (k : Int) (hp0 : iR p0) (hk : iR k) : ct l y_DK_insert w_DK_insert (43) (990) G f sz [.ref x, .int (iI p0), .int (iI k)] (fun v f' => v = some (.int (iI (sp_insert T Y B Z p0 k).2.1)) ∧ (sp_insert T Y B Z p0 k).1 = 0 ∧ dkP G f' x (sp_insert T Y B Z p0 k)) (fun E f' => (E = "java/lang/IllegalArgumentException" ∧ (sp_insert T Y B Z p0 k).1 = 1 ∨ E = "java/lang/IllegalStateException" ∧ (sp_insert T Y B Z p0 k).1 = 2) ∧ dkP G f' x (sp_insert T Y B Z p0 k)) (7) (160) := by
  refine ct_mono (c_DK_insert l hlT G f sz x T Y B Z hI p0 k hp0 hk) (fun v f' h => ?_) (fun E f' h => ?_)
  · obtain ⟨rfl, c1, c2, hd⟩ := h
    rw [sp_insert, if_neg (not_not_intro c1), if_neg (not_not_intro c2)]
    exact ⟨rfl, rfl, hd⟩
  · obtain ⟨⟨rfl, c1⟩ | ⟨rfl, c1, c2⟩, hd⟩ := h
    · have e9 : sp_insert T Y B Z p0 k = (1, 0, T, Y, B, Z) := by rw [sp_insert, if_pos c1]
      rw [e9]
      exact ⟨Or.inl ⟨rfl, rfl⟩, hd⟩
    · have e9 : sp_insert T Y B Z p0 k = (2, 0, T, Y, B, Z) := by rw [sp_insert, if_neg (not_not_intro c1), if_pos c2]
      rw [e9]
      exact ⟨Or.inr (⟨rfl, rfl⟩), hd⟩
theorem c2_DK_delete (l : Launch) (hlT : l.stackTraces = false) (G : ct_G) (f : dw_M) (sz : Nat) (x : Nat) (T Y : List (List Int)) (B Z : List Int) (hI : dkI G f x T Y B Z) (fr : Int) (to : Int) (hfr : iR fr) (hto : iR to) : ct l y_DK_delete w_DK_delete (43) (990) G f sz [.ref x, .int (iI fr), .int (iI to)] (fun v f' => v = none ∧ (sp_delete T Y B Z fr to).1 = 0 ∧ dkP G f' x (sp_delete T Y B Z fr to)) (fun E f' => (E = "java/lang/IndexOutOfBoundsException" ∧ (sp_delete T Y B Z fr to).1 = 1) ∧ dkP G f' x (sp_delete T Y B Z fr to)) (1) (6) := by
  refine ct_mono (c_DK_delete l hlT G f sz x T Y B Z hI fr to hfr hto) (fun v f' h => ?_) (fun E f' h => ?_)
  · obtain ⟨rfl, c1, hd⟩ := h
    rw [sp_delete, if_neg (not_not_intro c1)]
    exact ⟨rfl, rfl, hd⟩
  · obtain ⟨rfl, c1, hd⟩ := h
    have e9 : sp_delete T Y B Z fr to = (1, 0, T, Y, B, Z) := by rw [sp_delete, if_pos c1]
    rw [e9]
    exact ⟨⟨rfl, rfl⟩, hd⟩
theorem c2_DK_built (l : Launch) (hlT : l.stackTraces = false) (G : ct_G) (f : dw_M) (sz : Nat) (x : Nat) (T Y : List (List Int)) (B Z : List Int) (hI : dkI G f x T Y B Z) (k : Int) (hk : iR k) : ct l y_DK_built w_DK_built (43) (985) G f sz [.ref x, .int (iI k)] (fun v f' => v = some (.int (iI (sp_built T Y B Z k).2.1)) ∧ (sp_built T Y B Z k).1 = 0 ∧ dkP G f' x (sp_built T Y B Z k)) (fun E f' => (E = "java/lang/IndexOutOfBoundsException" ∧ (sp_built T Y B Z k).1 = 1) ∧ dkP G f' x (sp_built T Y B Z k)) (1) (6) := by
  refine ct_mono (c_DK_built l hlT G f sz x T Y B Z hI k hk) (fun v f' h => ?_) (fun E f' h => ?_)
  · obtain ⟨rfl, c1, hd⟩ := h
    rw [sp_built, if_neg (not_not_intro c1)]
    exact ⟨rfl, rfl, hd⟩
  · obtain ⟨rfl, c1, hd⟩ := h
    have e9 : sp_built T Y B Z k = (1, 0, T, Y, B, Z) := by rw [sp_built, if_pos c1]
    rw [e9]
    exact ⟨⟨rfl, rfl⟩, hd⟩
theorem c2_DK_take (l : Launch) (hlT : l.stackTraces = false) (G : ct_G) (f : dw_M) (sz : Nat) (x : Nat) (T Y : List (List Int)) (B Z : List Int) (hI : dkI G f x T Y B Z) : ct l y_DK_take w_DK_take (9) (145) G f sz [.ref x] (fun v f' => v = some (.int (iI (sp_take T Y B Z).2.1)) ∧ (sp_take T Y B Z).1 = 0 ∧ dkP G f' x (sp_take T Y B Z)) (fun E f' => (E = "java/lang/IllegalStateException" ∧ (sp_take T Y B Z).1 = 1) ∧ dkP G f' x (sp_take T Y B Z)) (3) (69) := by
  refine ct_mono (c_DK_take l hlT G f sz x T Y B Z hI  ) (fun v f' h => ?_) (fun E f' h => ?_)
  · obtain ⟨rfl, c1, hd⟩ := h
    rw [sp_take, if_neg (show ¬ (T.length = 24) by omega)]
    exact ⟨rfl, rfl, hd⟩
  · obtain ⟨rfl, c1, hd⟩ := h
    have e9 : sp_take T Y B Z = (1, 0, T, Y, B, Z) := by rw [sp_take, if_pos c1]
    rw [e9]
    exact ⟨⟨rfl, rfl⟩, hd⟩
theorem c2_DK_join (l : Launch) (hlT : l.stackTraces = false) (G : ct_G) (f : dw_M) (sz : Nat) (x : Nat) (T Y : List (List Int)) (B Z : List Int) (hI : dkI G f x T Y B Z) (ka : Int) (kb : Int) (hka : iR ka) (hkb : iR kb) : ct l y_DK_join w_DK_join (9) (145) G f sz [.ref x, .int (iI ka), .int (iI kb)] (fun v f' => v = some (.int (iI (sp_join T Y B Z ka kb).2.1)) ∧ (sp_join T Y B Z ka kb).1 = 0 ∧ dkP G f' x (sp_join T Y B Z ka kb)) (fun E f' => (E = "java/lang/IllegalArgumentException" ∧ (sp_join T Y B Z ka kb).1 = 1 ∨ E = "java/lang/IllegalStateException" ∧ (sp_join T Y B Z ka kb).1 = 2) ∧ dkP G f' x (sp_join T Y B Z ka kb)) (4) (23) := by
  refine ct_mono (c_DK_join l hlT G f sz x T Y B Z hI ka kb hka hkb) (fun v f' h => ?_) (fun E f' h => ?_)
  · obtain ⟨rfl, c1, c2, hd⟩ := h
    rw [sp_join, if_neg (not_not_intro c1), if_neg (not_not_intro c2)]
    exact ⟨rfl, rfl, hd⟩
  · obtain ⟨⟨rfl, c1⟩ | ⟨rfl, c1, c2⟩, hd⟩ := h
    · have e9 : sp_join T Y B Z ka kb = (1, 0, T, Y, B, Z) := by rw [sp_join, if_pos c1]
      rw [e9]
      exact ⟨Or.inl ⟨rfl, rfl⟩, hd⟩
    · have e9 : sp_join T Y B Z ka kb = (2, 0, T, Y, B, Z) := by rw [sp_join, if_neg (not_not_intro c1), if_pos c2]
      rw [e9]
      exact ⟨Or.inr (⟨rfl, rfl⟩), hd⟩
theorem c2_DK_part (l : Launch) (hlT : l.stackTraces = false) (G : ct_G) (f : dw_M) (sz : Nat) (x : Nat) (T Y : List (List Int)) (B Z : List Int) (hI : dkI G f x T Y B Z) (k : Int) (fr : Int) (to : Int) (hk : iR k) (hfr : iR fr) (hto : iR to) : ct l y_DK_part w_DK_part (44) (1015) G f sz [.ref x, .int (iI k), .int (iI fr), .int (iI to)] (fun v f' => v = some (.int (iI (sp_part T Y B Z k fr to).2.1)) ∧ (sp_part T Y B Z k fr to).1 = 0 ∧ dkP G f' x (sp_part T Y B Z k fr to)) (fun E f' => (E = "java/lang/IllegalArgumentException" ∧ (sp_part T Y B Z k fr to).1 = 1 ∨ E = "java/lang/IndexOutOfBoundsException" ∧ (sp_part T Y B Z k fr to).1 = 2 ∨ E = "java/lang/IllegalStateException" ∧ (sp_part T Y B Z k fr to).1 = 3) ∧ dkP G f' x (sp_part T Y B Z k fr to)) (9) (221) := by
  refine ct_mono (c_DK_part l hlT G f sz x T Y B Z hI k fr to hk hfr hto) (fun v f' h => ?_) (fun E f' h => ?_)
  · obtain ⟨rfl, c1, c2, c3, hd⟩ := h
    rw [sp_part, if_neg (not_not_intro c1), if_neg (not_not_intro c2), if_neg (show ¬ (T.length = 24) by omega)]
    exact ⟨rfl, rfl, hd⟩
  · obtain ⟨⟨rfl, c1⟩ | ⟨rfl, c1, c2⟩ | ⟨rfl, c1, c2, c3⟩, hd⟩ := h
    · have e9 : sp_part T Y B Z k fr to = (1, 0, T, Y, B, Z) := by rw [sp_part, if_pos c1]
      rw [e9]
      exact ⟨Or.inl ⟨rfl, rfl⟩, hd⟩
    · have e9 : sp_part T Y B Z k fr to = (2, 0, T, Y, B, Z) := by rw [sp_part, if_neg (not_not_intro c1), if_pos c2]
      rw [e9]
      exact ⟨Or.inr (Or.inl ⟨rfl, rfl⟩), hd⟩
    · have e9 : sp_part T Y B Z k fr to = (3, 0, T, Y, B, Z) := by rw [sp_part, if_neg (not_not_intro c1), if_neg (not_not_intro c2), if_pos c3]
      rw [e9]
      exact ⟨Or.inr (Or.inr (⟨rfl, rfl⟩)), hd⟩
theorem c2_DK_replace (l : Launch) (hlT : l.stackTraces = false) (G : ct_G) (f : dw_M) (sz : Nat) (x : Nat) (T Y : List (List Int)) (B Z : List Int) (hI : dkI G f x T Y B Z) (ka : Int) (kb : Int) (kc : Int) (hka : iR ka) (hkb : iR kb) (hkc : iR kc) : ct l y_DK_replace w_DK_replace (44) (1015) G f sz [.ref x, .int (iI ka), .int (iI kb), .int (iI kc)] (fun v f' => v = some (.int (iI (sp_replace T Y B Z ka kb kc).2.1)) ∧ (sp_replace T Y B Z ka kb kc).1 = 0 ∧ dkP G f' x (sp_replace T Y B Z ka kb kc)) (fun E f' => (E = "java/lang/IllegalArgumentException" ∧ (sp_replace T Y B Z ka kb kc).1 = 1 ∨ E = "java/lang/IllegalStateException" ∧ (sp_replace T Y B Z ka kb kc).1 = 2) ∧ dkP G f' x (sp_replace T Y B Z ka kb kc)) (19) (513) := by
  refine ct_mono (c_DK_replace l hlT G f sz x T Y B Z hI ka kb kc hka hkb hkc) (fun v f' h => ?_) (fun E f' h => ?_)
  · obtain ⟨rfl, c1, c2, c3, hd⟩ := h
    rw [sp_replace, if_neg (not_not_intro c1), if_neg (not_not_intro ⟨c2, c3⟩)]
    exact ⟨rfl, rfl, hd⟩
  · obtain ⟨⟨rfl, c1⟩ | ⟨rfl, c1, c2⟩, hd⟩ := h
    · have e9 : sp_replace T Y B Z ka kb kc = (1, 0, T, Y, B, Z) := by rw [sp_replace, if_pos c1]
      rw [e9]
      exact ⟨Or.inl ⟨rfl, rfl⟩, hd⟩
    · have e9 : sp_replace T Y B Z ka kb kc = (2, 0, T, Y, B, Z) := by rw [sp_replace, if_neg (not_not_intro c1), if_pos c2]
      rw [e9]
      exact ⟨Or.inr (⟨rfl, rfl⟩), hd⟩
theorem c2_DK_strip (l : Launch) (hlT : l.stackTraces = false) (G : ct_G) (f : dw_M) (sz : Nat) (x : Nat) (T Y : List (List Int)) (B Z : List Int) (hI : dkI G f x T Y B Z) (k : Int) (hk : iR k) : ct l y_DK_strip w_DK_strip (44) (1015) G f sz [.ref x, .int (iI k)] (fun v f' => v = some (.int (iI (sp_strip T Y B Z k).2.1)) ∧ (sp_strip T Y B Z k).1 = 0 ∧ dkP G f' x (sp_strip T Y B Z k)) (fun E f' => (E = "java/lang/IllegalArgumentException" ∧ (sp_strip T Y B Z k).1 = 1 ∨ E = "java/lang/IllegalStateException" ∧ (sp_strip T Y B Z k).1 = 2) ∧ dkP G f' x (sp_strip T Y B Z k)) (8) (215) := by
  refine ct_mono (c_DK_strip l hlT G f sz x T Y B Z hI k hk) (fun v f' h => ?_) (fun E f' h => ?_)
  · obtain ⟨rfl, c1, c2, R, hs, hd⟩ := h
    rw [sp_strip, if_neg (not_not_intro c1), if_neg (show ¬ (T.length = 24) by omega), strp_eq hs]
    exact ⟨rfl, rfl, hd⟩
  · obtain ⟨⟨rfl, c1⟩ | ⟨rfl, c1, c2⟩, hd⟩ := h
    · have e9 : sp_strip T Y B Z k = (1, 0, T, Y, B, Z) := by rw [sp_strip, if_pos c1]
      rw [e9]
      exact ⟨Or.inl ⟨rfl, rfl⟩, hd⟩
    · have e9 : sp_strip T Y B Z k = (2, 0, T, Y, B, Z) := by rw [sp_strip, if_neg (not_not_intro c1), if_pos c2]
      rw [e9]
      exact ⟨Or.inr (⟨rfl, rfl⟩), hd⟩
theorem c2_DK_at (l : Launch) (hlT : l.stackTraces = false) (G : ct_G) (f : dw_M) (sz : Nat) (x : Nat) (T Y : List (List Int)) (B Z : List Int) (hI : dkI G f x T Y B Z) (k : Int) (i : Int) (hk : iR k) (hi : iR i) : ct l y_DK_at w_DK_at (43) (985) G f sz [.ref x, .int (iI k), .int (iI i)] (fun v f' => v = some (.int (iI (sp_at T Y B Z k i).2.1)) ∧ (sp_at T Y B Z k i).1 = 0 ∧ dkP G f' x (sp_at T Y B Z k i)) (fun E f' => (E = "java/lang/IllegalArgumentException" ∧ (sp_at T Y B Z k i).1 = 1 ∨ E = "java/lang/IndexOutOfBoundsException" ∧ (sp_at T Y B Z k i).1 = 2) ∧ dkP G f' x (sp_at T Y B Z k i)) (6) (152) := by
  refine ct_mono (c_DK_at l hlT G f sz x T Y B Z hI k i hk hi) (fun v f' h => ?_) (fun E f' h => ?_)
  · obtain ⟨rfl, c1, c2, hd⟩ := h
    rw [sp_at, if_neg (not_not_intro c1), if_neg (not_not_intro c2)]
    exact ⟨rfl, rfl, hd⟩
  · obtain ⟨⟨rfl, c1⟩ | ⟨rfl, c1, c2⟩, hd⟩ := h
    · have e9 : sp_at T Y B Z k i = (1, 0, T, Y, B, Z) := by rw [sp_at, if_pos c1]
      rw [e9]
      exact ⟨Or.inl ⟨rfl, rfl⟩, hd⟩
    · have e9 : sp_at T Y B Z k i = (2, 0, T, Y, B, Z) := by rw [sp_at, if_neg (not_not_intro c1), if_pos c2]
      rw [e9]
      exact ⟨Or.inr (⟨rfl, rfl⟩), hd⟩
theorem c2_DK_character (l : Launch) (hlT : l.stackTraces = false) (G : ct_G) (f : dw_M) (sz : Nat) (x : Nat) (T Y : List (List Int)) (B Z : List Int) (hI : dkI G f x T Y B Z) (k : Int) (i : Int) (hk : iR k) (hi : iR i) : ct l y_DK_character w_DK_character (44) (1015) G f sz [.ref x, .int (iI k), .int (iI i)] (fun v f' => v = some (.int (iI (sp_character T Y B Z k i).2.1)) ∧ (sp_character T Y B Z k i).1 = 0 ∧ dkP G f' x (sp_character T Y B Z k i)) (fun E f' => (E = "java/lang/IllegalArgumentException" ∧ (sp_character T Y B Z k i).1 = 1 ∨ E = "java/lang/IndexOutOfBoundsException" ∧ (sp_character T Y B Z k i).1 = 2) ∧ dkP G f' x (sp_character T Y B Z k i)) (6) (152) := by
  refine ct_mono (c_DK_character l hlT G f sz x T Y B Z hI k i hk hi) (fun v f' h => ?_) (fun E f' h => ?_)
  · obtain ⟨rfl, c1, c2, hd⟩ := h
    rw [sp_character, if_neg (not_not_intro c1), if_neg (not_not_intro c2)]
    exact ⟨rfl, rfl, hd⟩
  · obtain ⟨⟨rfl, c1⟩ | ⟨rfl, c1, c2⟩, hd⟩ := h
    · have e9 : sp_character T Y B Z k i = (1, 0, T, Y, B, Z) := by rw [sp_character, if_pos c1]
      rw [e9]
      exact ⟨Or.inl ⟨rfl, rfl⟩, hd⟩
    · have e9 : sp_character T Y B Z k i = (2, 0, T, Y, B, Z) := by rw [sp_character, if_neg (not_not_intro c1), if_pos c2]
      rw [e9]
      exact ⟨Or.inr (⟨rfl, rfl⟩), hd⟩
theorem c2_DK_narrow (l : Launch) (hlT : l.stackTraces = false) (G : ct_G) (f : dw_M) (sz : Nat) (x : Nat) (T Y : List (List Int)) (B Z : List Int) (hI : dkI G f x T Y B Z) (k : Int) (hk : iR k) : ct l y_DK_narrow w_DK_narrow (9) (145) G f sz [.ref x, .int (iI k)] (fun v f' => v = some (.int (iI (sp_narrow T Y B Z k).2.1)) ∧ (sp_narrow T Y B Z k).1 = 0 ∧ dkP G f' x (sp_narrow T Y B Z k)) (fun E f' => (E = "java/lang/IllegalArgumentException" ∧ (sp_narrow T Y B Z k).1 = 1) ∧ dkP G f' x (sp_narrow T Y B Z k)) (1) (6) := by
  refine ct_mono (c_DK_narrow l hlT G f sz x T Y B Z hI k hk) (fun v f' h => ?_) (fun E f' h => ?_)
  · obtain ⟨rfl, c1, hd⟩ := h
    rw [sp_narrow, if_neg (not_not_intro c1)]
    exact ⟨rfl, rfl, hd⟩
  · obtain ⟨rfl, c1, hd⟩ := h
    have e9 : sp_narrow T Y B Z k = (1, 0, T, Y, B, Z) := by rw [sp_narrow, if_pos c1]
    rw [e9]
    exact ⟨⟨rfl, rfl⟩, hd⟩
theorem c2_DK_hash (l : Launch) (hlT : l.stackTraces = false) (G : ct_G) (f : dw_M) (sz : Nat) (x : Nat) (T Y : List (List Int)) (B Z : List Int) (hI : dkI G f x T Y B Z) (k : Int) (hk : iR k) : ct l y_DK_hash w_DK_hash (42) (970) G f sz [.ref x, .int (iI k)] (fun v f' => v = some (.int (iI (sp_hash T Y B Z k).2.1)) ∧ (sp_hash T Y B Z k).1 = 0 ∧ dkP G f' x (sp_hash T Y B Z k)) (fun E f' => (E = "java/lang/IllegalArgumentException" ∧ (sp_hash T Y B Z k).1 = 1) ∧ dkP G f' x (sp_hash T Y B Z k)) (5) (146) := by
  refine ct_mono (c_DK_hash l hlT G f sz x T Y B Z hI k hk) (fun v f' h => ?_) (fun E f' h => ?_)
  · obtain ⟨rfl, c1, hd⟩ := h
    rw [sp_hash, if_neg (not_not_intro c1)]
    exact ⟨rfl, rfl, hd⟩
  · obtain ⟨rfl, c1, hd⟩ := h
    have e9 : sp_hash T Y B Z k = (1, 0, T, Y, B, Z) := by rw [sp_hash, if_pos c1]
    rw [e9]
    exact ⟨⟨rfl, rfl⟩, hd⟩
theorem c2_DK_compare (l : Launch) (hlT : l.stackTraces = false) (G : ct_G) (f : dw_M) (sz : Nat) (x : Nat) (T Y : List (List Int)) (B Z : List Int) (hI : dkI G f x T Y B Z) (ka : Int) (kb : Int) (hka : iR ka) (hkb : iR kb) : ct l y_DK_compare w_DK_compare (43) (990) G f sz [.ref x, .int (iI ka), .int (iI kb)] (fun v f' => v = some (.int (iI (sp_compare T Y B Z ka kb).2.1)) ∧ (sp_compare T Y B Z ka kb).1 = 0 ∧ dkP G f' x (sp_compare T Y B Z ka kb)) (fun E f' => (E = "java/lang/IllegalArgumentException" ∧ (sp_compare T Y B Z ka kb).1 = 1) ∧ dkP G f' x (sp_compare T Y B Z ka kb)) (10) (292) := by
  refine ct_mono (c_DK_compare l hlT G f sz x T Y B Z hI ka kb hka hkb) (fun v f' h => ?_) (fun E f' h => ?_)
  · obtain ⟨rfl, c1, hd⟩ := h
    rw [sp_compare, if_neg (not_not_intro c1)]
    exact ⟨rfl, rfl, hd⟩
  · obtain ⟨rfl, c1, hd⟩ := h
    have e9 : sp_compare T Y B Z ka kb = (1, 0, T, Y, B, Z) := by rw [sp_compare, if_pos c1]
    rw [e9]
    exact ⟨⟨rfl, rfl⟩, hd⟩
theorem c2_DK_find (l : Launch) (hlT : l.stackTraces = false) (G : ct_G) (f : dw_M) (sz : Nat) (x : Nat) (T Y : List (List Int)) (B Z : List Int) (hI : dkI G f x T Y B Z) (ka : Int) (kb : Int) (fr : Int) (lb : Bool) (hka : iR ka) (hkb : iR kb) (hfr : iR fr) : ct l y_DK_find w_DK_find (44) (1015) G f sz [.ref x, .int (iI ka), .int (iI kb), .int (iI fr), .int (iI (b2 lb))] (fun v f' => v = some (.int (iI (sp_find T Y B Z ka kb fr lb).2.1)) ∧ (sp_find T Y B Z ka kb fr lb).1 = 0 ∧ dkP G f' x (sp_find T Y B Z ka kb fr lb)) (fun E f' => (E = "java/lang/IllegalArgumentException" ∧ (sp_find T Y B Z ka kb fr lb).1 = 1) ∧ dkP G f' x (sp_find T Y B Z ka kb fr lb)) (10) (292) := by
  refine ct_mono (c_DK_find l hlT G f sz x T Y B Z hI ka kb fr (b2 lb) hka hkb hfr ⟨by have := b2_01 lb; omega, by have := b2_01 lb; omega⟩) (fun v f' h => ?_) (fun E f' h => ?_)
  · obtain ⟨rfl, c1, hd⟩ := h
    rw [sp_find, if_neg (not_not_intro c1)]
    exact ⟨by cases lb <;> rfl, rfl, hd⟩
  · obtain ⟨rfl, c1, hd⟩ := h
    have e9 : sp_find T Y B Z ka kb fr lb = (1, 0, T, Y, B, Z) := by rw [sp_find, if_pos c1]
    rw [e9]
    exact ⟨⟨rfl, rfl⟩, hd⟩
theorem c2_DK_symbol (l : Launch) (hlT : l.stackTraces = false) (G : ct_G) (f : dw_M) (sz : Nat) (x : Nat) (T Y : List (List Int)) (B Z : List Int) (hI : dkI G f x T Y B Z) (k : Int) (hk : iR k) : ct l y_DK_symbol w_DK_symbol (43) (990) G f sz [.ref x, .int (iI k)] (fun v f' => v = some (.int (iI (sp_symbol T Y B Z k).2.1)) ∧ (sp_symbol T Y B Z k).1 = 0 ∧ dkP G f' x (sp_symbol T Y B Z k)) (fun E f' => (E = "java/lang/IllegalArgumentException" ∧ (sp_symbol T Y B Z k).1 = 1 ∨ E = "java/lang/IllegalStateException" ∧ (sp_symbol T Y B Z k).1 = 2) ∧ dkP G f' x (sp_symbol T Y B Z k)) (130) (4500) := by
  refine ct_mono (c_DK_symbol l hlT G f sz x T Y B Z hI k hk) (fun v f' h => ?_) (fun E f' h => ?_)
  · obtain ⟨c1, ⟨j, rfl, h1, h2, h3, hd⟩ | ⟨h1, h2, rfl, hd⟩⟩ := h
    · have e9 : sp_symbol T Y B Z k = (0, (j : Int), T, Y, B, Z) := by rw [sp_symbol, if_neg (not_not_intro c1), sidx_hit h1 h2 h3, if_pos h1]
      rw [e9]
      exact ⟨rfl, rfl, hd⟩
    · have e9 : sp_symbol T Y B Z k = (0, (Y.length : Int), T, Y ++ [tt T k], B, Z) := by rw [sp_symbol, if_neg (not_not_intro c1), sidx_no h1, if_neg (Nat.lt_irrefl _), if_neg (show ¬ (Y.length = 16) by omega)]
      rw [e9]
      exact ⟨rfl, rfl, hd⟩
  · obtain ⟨⟨rfl, c1⟩ | ⟨rfl, c1, c2, c3⟩, hd⟩ := h
    · have e9 : sp_symbol T Y B Z k = (1, 0, T, Y, B, Z) := by rw [sp_symbol, if_pos c1]
      rw [e9]
      exact ⟨Or.inl ⟨rfl, rfl⟩, hd⟩
    · have e9 : sp_symbol T Y B Z k = (2, 0, T, Y, B, Z) := by rw [sp_symbol, if_neg (not_not_intro c1), if_neg (show ¬ (sidx Y (tt T k) < Y.length) by rw [sidx_no c2]; omega), if_pos c3]
      rw [e9]
      exact ⟨Or.inr (⟨rfl, rfl⟩), hd⟩
theorem c2_DK_encode (l : Launch) (hlT : l.stackTraces = false) (G : ct_G) (f : dw_M) (sz : Nat) (x : Nat) (T Y : List (List Int)) (B Z : List Int) (hI : dkI G f x T Y B Z) (k : Int) (en : Int) (hk : iR k) (hen : iR en) : ct l y_DK_encode w_DK_encode (45) (1040) G f sz [.ref x, .int (iI k), .int (iI en)] (fun v f' => v = some (.int (iI (sp_encode T Y B Z k en).2.1)) ∧ (sp_encode T Y B Z k en).1 = 0 ∧ dkP G f' x (sp_encode T Y B Z k en)) (fun E f' => (E = "java/lang/IllegalArgumentException" ∧ (sp_encode T Y B Z k en).1 = 1) ∧ dkP G f' x (sp_encode T Y B Z k en)) (6) (152) := by
  refine ct_mono (c_DK_encode l hlT G f sz x T Y B Z hI k en hk hen) (fun v f' h => ?_) (fun E f' h => ?_)
  · obtain ⟨rfl, c1, hd⟩ := h
    rw [sp_encode, if_neg (not_not_intro c1)]
    exact ⟨rfl, rfl, hd⟩
  · obtain ⟨rfl, c1, hd⟩ := h
    have e9 : sp_encode T Y B Z k en = (1, 0, T, Y, B, Z) := by rw [sp_encode, if_pos c1]
    rw [e9]
    exact ⟨⟨rfl, rfl⟩, hd⟩
theorem c2_DK_type (l : Launch) (hlT : l.stackTraces = false) (G : ct_G) (f : dw_M) (sz : Nat) (x : Nat) (T Y : List (List Int)) (B Z : List Int) (hI : dkI G f x T Y B Z) (u : Int) (hu : iR u) : ct l y_DK_type w_DK_type (8) (120) G f sz [.ref x, .int (iI u)] (fun v f' => v = some (.int (iI (sp_type T Y B Z u).2.1)) ∧ (sp_type T Y B Z u).1 = 0 ∧ dkP G f' x (sp_type T Y B Z u)) (fun E f' => (E = "java/lang/IllegalArgumentException" ∧ (sp_type T Y B Z u).1 = 1 ∨ E = "java/lang/IllegalStateException" ∧ (sp_type T Y B Z u).1 = 2) ∧ dkP G f' x (sp_type T Y B Z u)) (1) (6) := by
  refine ct_mono (c_DK_type l hlT G f sz x T Y B Z hI u hu) (fun v f' h => ?_) (fun E f' h => ?_)
  · obtain ⟨rfl, c1, c2, hd⟩ := h
    rw [sp_type, if_neg (not_not_intro c1), if_neg (show ¬ (Z.length = 200) by omega)]
    exact ⟨rfl, rfl, hd⟩
  · obtain ⟨⟨rfl, c1⟩ | ⟨rfl, c1, c2⟩, hd⟩ := h
    · have e9 : sp_type T Y B Z u = (1, 0, T, Y, B, Z) := by rw [sp_type, if_pos c1]
      rw [e9]
      exact ⟨Or.inl ⟨rfl, rfl⟩, hd⟩
    · have e9 : sp_type T Y B Z u = (2, 0, T, Y, B, Z) := by rw [sp_type, if_neg (not_not_intro c1), if_pos c2]
      rw [e9]
      exact ⟨Or.inr (⟨rfl, rfl⟩), hd⟩
theorem c2_DK_decode (l : Launch) (hlT : l.stackTraces = false) (G : ct_G) (f : dw_M) (sz : Nat) (x : Nat) (T Y : List (List Int)) (B Z : List Int) (hI : dkI G f x T Y B Z) (en : Int) (st : Bool) (hen : iR en) : ct l y_DK_decode w_DK_decode (9) (145) G f sz [.ref x, .int (iI en), .int (iI (b2 st))] (fun v f' => v = some (.int (iI (sp_decode T Y B Z en st).2.1)) ∧ (sp_decode T Y B Z en st).1 = 0 ∧ dkP G f' x (sp_decode T Y B Z en st)) (fun E f' => (E = "java/lang/IllegalArgumentException" ∧ (sp_decode T Y B Z en st).1 = 1 ∨ E = "java/lang/UnsupportedOperationException" ∧ (sp_decode T Y B Z en st).1 = 2 ∨ E = "java/lang/IllegalStateException" ∧ (sp_decode T Y B Z en st).1 = 3) ∧ dkP G f' x (sp_decode T Y B Z en st)) (5) (81) := by
  refine ct_mono (c_DK_decode l hlT G f sz x T Y B Z hI en hen st) (fun v f' h => ?_) (fun E f' h => ?_)
  · obtain ⟨rfl, c1, c2, c3, c4, hd⟩ := h
    rw [sp_decode, if_neg (not_not_intro c1), if_neg c2, if_neg (not_not_intro ⟨c3, c4⟩)]
    exact ⟨rfl, rfl, hd⟩
  · obtain ⟨⟨rfl, c1⟩ | ⟨rfl, c1, c2, c3⟩ | ⟨rfl, c1, c2, c3⟩, hd⟩ := h
    · have e9 : sp_decode T Y B Z en st = (1, 0, T, Y, B, Z) := by rw [sp_decode, if_pos c1]
      rw [e9]
      exact ⟨Or.inl ⟨rfl, rfl⟩, hd⟩
    · have e9 : sp_decode T Y B Z en st = (2, 0, T, Y, B, Z) := by rw [sp_decode, if_neg (not_not_intro c1), if_pos ⟨c2, c3⟩]
      rw [e9]
      exact ⟨Or.inr (Or.inl ⟨rfl, rfl⟩), hd⟩
    · have e9 : sp_decode T Y B Z en st = (3, 0, T, Y, B, Z) := by rw [sp_decode, if_neg (not_not_intro c1), if_neg c2, if_pos c3]
      rw [e9]
      exact ⟨Or.inr (Or.inr (⟨rfl, rfl⟩)), hd⟩
theorem c2_DK_octet (l : Launch) (hlT : l.stackTraces = false) (G : ct_G) (f : dw_M) (sz : Nat) (x : Nat) (T Y : List (List Int)) (B Z : List Int) (hI : dkI G f x T Y B Z) (k : Int) (hk : iR k) : ct l y_DK_octet w_DK_octet (43) (985) G f sz [.ref x, .int (iI k)] (fun v f' => v = some (.int (iI (sp_octet T Y B Z k).2.1)) ∧ (sp_octet T Y B Z k).1 = 0 ∧ dkP G f' x (sp_octet T Y B Z k)) (fun E f' => (E = "java/lang/IndexOutOfBoundsException" ∧ (sp_octet T Y B Z k).1 = 1) ∧ dkP G f' x (sp_octet T Y B Z k)) (1) (6) := by
  refine ct_mono (c_DK_octet l hlT G f sz x T Y B Z hI k hk) (fun v f' h => ?_) (fun E f' h => ?_)
  · obtain ⟨rfl, c1, hd⟩ := h
    rw [sp_octet, if_neg (not_not_intro c1)]
    exact ⟨rfl, rfl, hd⟩
  · obtain ⟨rfl, c1, hd⟩ := h
    have e9 : sp_octet T Y B Z k = (1, 0, T, Y, B, Z) := by rw [sp_octet, if_pos c1]
    rw [e9]
    exact ⟨⟨rfl, rfl⟩, hd⟩
