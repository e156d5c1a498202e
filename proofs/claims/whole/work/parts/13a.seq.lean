section SG
variable {p : Program} {l : Launch} {e : Env} {R : Room} {s : State} {m : MethodId} {args : Array Value} {below : List Frame} {meth : Method} {c : Code} {H : Heap} {locs : List Loc} {cells slots : Nat} {Q : State → Prop}
variable {cc : ByteArray} {pc nL : Nat} {ls : Array Slot} {rest : List Value} {G : ct_G} {A : Nat → Prop} {a b : Nat} {f : dw_M} {H0 : Heap} {fr lo mc ms : Nat} {post : Option Value → dw_M → Prop} {px : String → dw_M → Prop}
theorem tx_dom {G : ct_G} {f : dw_M} {d b : Nat} {us : List Int} (ht : tx G d f b us) : ∃ x, f b = some x := by
  rcases tx_head ht with ⟨q, g, h1, -⟩ | ⟨q, g, h1, -⟩ | ⟨x, y, fl, h1⟩ <;> exact ⟨_, h1⟩
theorem exo_pot {G : ct_G} {S : Nat → Prop} {f f' : dw_M} {d b : Nat} {us : List Int} (h : exo G S f f') (ht : tx G d f b us) : pot f' b ≤ pot f b := by
  obtain ⟨x, hx⟩ := tx_dom ht
  exact h.2.2.1 b x hx
theorem rw_pot {G : ct_G} {f : dw_M} {r q n : Nat} {us : List Int} {sp : Int} (h : rw G f r q n us sp) : pot f r = 0 := by
  obtain ⟨g, h1, -⟩ := h
  simp [pot, h1]
theorem pot_le (f : dw_M) (a : Nat) : pot f a ≤ 1 := by
  unfold pot
  split <;> omega
/-- a row or a text -/
def sq (G : ct_G) (f : dw_M) (b : Nat) (us : List Int) : Prop := (∃ d, d ≤ 24 ∧ tx G d f b us) ∨ ∃ q n sp, rw G f b q n us sp
theorem sq.w {G : ct_G} {f : dw_M} {b : Nat} {us : List Int} (h : sq G f b us) : (∃ d, tx G d f b us) ∨ ∃ q n sp, rw G f b q n us sp := by
  rcases h with ⟨d, -, h⟩ | h
  · exact Or.inl ⟨d, h⟩
  · exact Or.inr h
theorem sq.len {G : ct_G} {f : dw_M} {b : Nat} {us : List Int} (h : sq G f b us) : us.length < 1000 := by
  rcases h with ⟨d, -, h⟩ | ⟨q, n, sp, h⟩
  · have := h.len; omega
  · have := h.len; omega
theorem sg_DK_122 (X : cx G "TextDesk" p s m args c cc nL) (hz : ct_z G A s) (hw : dw G.1 dk_cl A s.heap f H locs) (hls : ls.size = nL) {us : List Int} {k : Int} {d : Nat} (hd : d ≤ 24) (ht : tx G d f b us) (hk : iR k) (hR : 41 + 1 ≤ R.frames ∧ 8 + (3 + 11) + 921 ≤ R.locals) (hf : cells + 4 * pot f b ≤ R.cells ∧ slots + 140 * pot f b ≤ R.slots) (hW : (rest.map fun v => v.category).sum ≤ 8) (hdg : decode cc pc = .ok (.invokevirtual 122, 3))
    (kk : ∀ (f' : dw_M) (H1 : Heap) (locs1 : List Loc), exo G no1 f f' → pot f' b = 0 → dw G.1 dk_cl A s.heap f' H1 locs1 → W p l e R s m args below meth c H1 locs1 (cells + 4 * pot f b) (slots + 140 * pot f b) Q (F0 m (pc + 3) ls (.int (iI (gt us k)) :: rest))) : W p l e R s m args below meth c H locs cells slots Q (F0 m pc ls (.int (iI k) :: .ref b :: rest)) := by
  have hl : lf G f b us → W p l e R s m args below meth c H locs cells slots Q (F0 m pc ls (.int (iI k) :: .ref b :: rest)) := by
    intro h
    have hp0 := lf_pot h
    rw [hp0] at kk hf
    rcases h with h | h
    · refine cs_DK_122_NT X hz hw hls h.choose_spec.choose_spec.1 (c_NT_get l G f _ b us k hk h) ⟨by omega, by omega⟩ ⟨by omega, by omega⟩ hW hdg (fun v f9 H1 locs1 hp hw _ _ _ => ?_)
      obtain ⟨rfl, hfe⟩ := hp
      rw [hfe] at hw
      exact kk f H1 locs1 exo.rf hp0 hw
    · refine cs_DK_122_WT X hz hw hls h.choose_spec.choose_spec.1 (c_WT_get l G f _ b us k hk h) ⟨by omega, by omega⟩ ⟨by omega, by omega⟩ hW hdg (fun v f9 H1 locs1 hp hw _ _ _ => ?_)
      obtain ⟨rfl, hfe⟩ := hp
      rw [hfe] at hw
      exact kk f H1 locs1 exo.rf hp0 hw
  cases d with
  | zero => exact hl ht
  | succ d =>
    rcases ht with h | ⟨x, y, ux, uy, fl, h1, h2, h3, h4, h5, h6⟩
    · exact hl h
    · refine cs_DK_122_JT X hz hw hls h1 (c_JT_get l G f _ d b us k (by omega) hk x y ux uy fl h1 h2 h3 h4 h5 h6) hR hf hW hdg (fun v f9 H1 locs1 hp hw _ _ _ => ?_)
      obtain ⟨rfl, hx, hp⟩ := hp
      exact kk f9 H1 locs1 hx hp hw
theorem sg_EN_19 (X : cx G "TextDesk$Encoder" p s m args c cc nL) (hz : ct_z G A s) (hw : dw G.1 dk_cl A s.heap f H locs) (hls : ls.size = nL) {us : List Int} {k : Int} {d : Nat} (hd : d ≤ 24) (ht : tx G d f b us) (hk : iR k) (hR : 41 + 1 ≤ R.frames ∧ 8 + (3 + 11) + 921 ≤ R.locals) (hf : cells + 4 * pot f b ≤ R.cells ∧ slots + 140 * pot f b ≤ R.slots) (hW : (rest.map fun v => v.category).sum ≤ 8) (hdg : decode cc pc = .ok (.invokevirtual 19, 3))
    (kk : ∀ (f' : dw_M) (H1 : Heap) (locs1 : List Loc), exo G no1 f f' → pot f' b = 0 → dw G.1 dk_cl A s.heap f' H1 locs1 → W p l e R s m args below meth c H1 locs1 (cells + 4 * pot f b) (slots + 140 * pot f b) Q (F0 m (pc + 3) ls (.int (iI (gt us k)) :: rest))) : W p l e R s m args below meth c H locs cells slots Q (F0 m pc ls (.int (iI k) :: .ref b :: rest)) := by
  have hl : lf G f b us → W p l e R s m args below meth c H locs cells slots Q (F0 m pc ls (.int (iI k) :: .ref b :: rest)) := by
    intro h
    have hp0 := lf_pot h
    rw [hp0] at kk hf
    rcases h with h | h
    · refine cs_EN_19_NT X hz hw hls h.choose_spec.choose_spec.1 (c_NT_get l G f _ b us k hk h) ⟨by omega, by omega⟩ ⟨by omega, by omega⟩ hW hdg (fun v f9 H1 locs1 hp hw _ _ _ => ?_)
      obtain ⟨rfl, hfe⟩ := hp
      rw [hfe] at hw
      exact kk f H1 locs1 exo.rf hp0 hw
    · refine cs_EN_19_WT X hz hw hls h.choose_spec.choose_spec.1 (c_WT_get l G f _ b us k hk h) ⟨by omega, by omega⟩ ⟨by omega, by omega⟩ hW hdg (fun v f9 H1 locs1 hp hw _ _ _ => ?_)
      obtain ⟨rfl, hfe⟩ := hp
      rw [hfe] at hw
      exact kk f H1 locs1 exo.rf hp0 hw
  cases d with
  | zero => exact hl ht
  | succ d =>
    rcases ht with h | ⟨x, y, ux, uy, fl, h1, h2, h3, h4, h5, h6⟩
    · exact hl h
    · refine cs_EN_19_JT X hz hw hls h1 (c_JT_get l G f _ d b us k (by omega) hk x y ux uy fl h1 h2 h3 h4 h5 h6) hR hf hW hdg (fun v f9 H1 locs1 hp hw _ _ _ => ?_)
      obtain ⟨rfl, hx, hp⟩ := hp
      exact kk f9 H1 locs1 hx hp hw
theorem sg_DK_185 (X : cx G "TextDesk" p s m args c cc nL) (hz : ct_z G A s) (hw : dw G.1 dk_cl A s.heap f H locs) (hls : ls.size = nL) {us : List Int} {k : Int} (hq : sq G f b us) (hk : iR k) (hR : 41 + 1 ≤ R.frames ∧ 8 + (3 + 11) + 921 ≤ R.locals) (hf : cells + 4 * pot f b ≤ R.cells ∧ slots + 140 * pot f b ≤ R.slots) (hW : (rest.map fun v => v.category).sum ≤ 8) (hdg : decode cc pc = .ok (.invokevirtual 185, 3))
    (kk : ∀ (f' : dw_M) (H1 : Heap) (locs1 : List Loc), exo G no1 f f' → pot f' b = 0 → dw G.1 dk_cl A s.heap f' H1 locs1 → W p l e R s m args below meth c H1 locs1 (cells + 4 * pot f b) (slots + 140 * pot f b) Q (F0 m (pc + 3) ls (.int (iI (gt us k)) :: rest))) : W p l e R s m args below meth c H locs cells slots Q (F0 m pc ls (.int (iI k) :: .ref b :: rest)) := by
  rcases hq with ⟨d, hd, ht⟩ | ⟨q, n, sp, hrw⟩
  case inr =>
    have hp0 := rw_pot hrw
    rw [hp0] at kk hf
    refine cs_DK_185_RW X hz hw hls hrw.choose_spec.1 (c_RW_get l G f _ b q n us sp k hk hrw) ⟨by omega, by omega⟩ ⟨by omega, by omega⟩ hW hdg (fun v f9 H1 locs1 hp hw _ _ _ => ?_)
    obtain ⟨rfl, hfe⟩ := hp
    rw [hfe] at hw
    exact kk f H1 locs1 exo.rf hp0 hw
  have hl : lf G f b us → W p l e R s m args below meth c H locs cells slots Q (F0 m pc ls (.int (iI k) :: .ref b :: rest)) := by
    intro h
    have hp0 := lf_pot h
    rw [hp0] at kk hf
    rcases h with h | h
    · refine cs_DK_185_NT X hz hw hls h.choose_spec.choose_spec.1 (c_NT_get l G f _ b us k hk h) ⟨by omega, by omega⟩ ⟨by omega, by omega⟩ hW hdg (fun v f9 H1 locs1 hp hw _ _ _ => ?_)
      obtain ⟨rfl, hfe⟩ := hp
      rw [hfe] at hw
      exact kk f H1 locs1 exo.rf hp0 hw
    · refine cs_DK_185_WT X hz hw hls h.choose_spec.choose_spec.1 (c_WT_get l G f _ b us k hk h) ⟨by omega, by omega⟩ ⟨by omega, by omega⟩ hW hdg (fun v f9 H1 locs1 hp hw _ _ _ => ?_)
      obtain ⟨rfl, hfe⟩ := hp
      rw [hfe] at hw
      exact kk f H1 locs1 exo.rf hp0 hw
  cases d with
  | zero => exact hl ht
  | succ d =>
    rcases ht with h | ⟨x, y, ux, uy, fl, h1, h2, h3, h4, h5, h6⟩
    · exact hl h
    · refine cs_DK_185_JT X hz hw hls h1 (c_JT_get l G f _ d b us k (by omega) hk x y ux uy fl h1 h2 h3 h4 h5 h6) hR hf hW hdg (fun v f9 H1 locs1 hp hw _ _ _ => ?_)
      obtain ⟨rfl, hx, hp⟩ := hp
      exact kk f9 H1 locs1 hx hp hw
theorem sg_RW_35 (X : cx G "TextDesk$Row" p s m args c cc nL) (hz : ct_z G A s) (hw : dw G.1 dk_cl A s.heap f H locs) (hls : ls.size = nL) {us : List Int} {k : Int} (hq : sq G f b us) (hk : iR k) (hR : 41 + 1 ≤ R.frames ∧ 8 + (3 + 11) + 921 ≤ R.locals) (hf : cells + 4 * pot f b ≤ R.cells ∧ slots + 140 * pot f b ≤ R.slots) (hW : (rest.map fun v => v.category).sum ≤ 8) (hdg : decode cc pc = .ok (.invokevirtual 35, 3))
    (kk : ∀ (f' : dw_M) (H1 : Heap) (locs1 : List Loc), exo G no1 f f' → pot f' b = 0 → dw G.1 dk_cl A s.heap f' H1 locs1 → W p l e R s m args below meth c H1 locs1 (cells + 4 * pot f b) (slots + 140 * pot f b) Q (F0 m (pc + 3) ls (.int (iI (gt us k)) :: rest))) : W p l e R s m args below meth c H locs cells slots Q (F0 m pc ls (.int (iI k) :: .ref b :: rest)) := by
  rcases hq with ⟨d, hd, ht⟩ | ⟨q, n, sp, hrw⟩
  case inr =>
    have hp0 := rw_pot hrw
    rw [hp0] at kk hf
    refine cs_RW_35_RW X hz hw hls hrw.choose_spec.1 (c_RW_get l G f _ b q n us sp k hk hrw) ⟨by omega, by omega⟩ ⟨by omega, by omega⟩ hW hdg (fun v f9 H1 locs1 hp hw _ _ _ => ?_)
    obtain ⟨rfl, hfe⟩ := hp
    rw [hfe] at hw
    exact kk f H1 locs1 exo.rf hp0 hw
  have hl : lf G f b us → W p l e R s m args below meth c H locs cells slots Q (F0 m pc ls (.int (iI k) :: .ref b :: rest)) := by
    intro h
    have hp0 := lf_pot h
    rw [hp0] at kk hf
    rcases h with h | h
    · refine cs_RW_35_NT X hz hw hls h.choose_spec.choose_spec.1 (c_NT_get l G f _ b us k hk h) ⟨by omega, by omega⟩ ⟨by omega, by omega⟩ hW hdg (fun v f9 H1 locs1 hp hw _ _ _ => ?_)
      obtain ⟨rfl, hfe⟩ := hp
      rw [hfe] at hw
      exact kk f H1 locs1 exo.rf hp0 hw
    · refine cs_RW_35_WT X hz hw hls h.choose_spec.choose_spec.1 (c_WT_get l G f _ b us k hk h) ⟨by omega, by omega⟩ ⟨by omega, by omega⟩ hW hdg (fun v f9 H1 locs1 hp hw _ _ _ => ?_)
      obtain ⟨rfl, hfe⟩ := hp
      rw [hfe] at hw
      exact kk f H1 locs1 exo.rf hp0 hw
  cases d with
  | zero => exact hl ht
  | succ d =>
    rcases ht with h | ⟨x, y, ux, uy, fl, h1, h2, h3, h4, h5, h6⟩
    · exact hl h
    · refine cs_RW_35_JT X hz hw hls h1 (c_JT_get l G f _ d b us k (by omega) hk x y ux uy fl h1 h2 h3 h4 h5 h6) hR hf hW hdg (fun v f9 H1 locs1 hp hw _ _ _ => ?_)
      obtain ⟨rfl, hx, hp⟩ := hp
      exact kk f9 H1 locs1 hx hp hw
end SG
