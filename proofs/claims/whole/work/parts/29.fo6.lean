section FO6
theorem fo_sg0 {T : fo_L} (h : ∀ q ∈ T, 0 < q.2) : fo_sg 0 T = T ∧ fo_rs 0 T = [] := by
  have h1 := fo_sg_app (d := 0) (A := T) (B := []) h
  have h2 := fo_rs_app (d := 0) (A := T) (B := []) h
  rw [List.append_nil] at h1 h2
  refine ⟨h1.trans ?_, h2⟩
  show T ++ [] = T
  simp
theorem fo_out_sp {L : fo_L} {n : Nat} (hok : fo_ok L) (h : n ∈ L.map (·.1)) : fo_sp (fo_out L n) n = some (fo_cut L n, 0, fo_sub L n) := by
  unfold fo_out
  exact fo_sp_app (fun q => ((fo_cut_mem hok h n).mp q).2 (fo_w_self h))
theorem fo_out_cut {L : fo_L} {n : Nat} (hok : fo_ok L) (h : n ∈ L.map (·.1)) : fo_cut (fo_out L n) n = fo_cut L n ∧ fo_sub (fo_out L n) n = fo_sub L n ∧ fo_w (fo_out L n) n = fo_w L n := by
  have hs := fo_out_sp hok h
  obtain ⟨A, d, B, h1, h2, h3, h4, h5⟩ := fo_cut_form h
  obtain ⟨g1, g2⟩ := fo_sg0 h4
  refine ⟨?_, ?_, ?_⟩
  · conv => lhs; unfold fo_cut
    rw [hs]
    dsimp only
    rw [g2, List.append_nil]
  · conv => lhs; unfold fo_sub
    rw [hs]
    dsimp only
    rw [g1]
    have : (fo_sub L n).map (fun q => (q.1, q.2 - 0)) = (fo_sub L n).map id := List.map_congr_left (fun q _ => rfl)
    rw [this, List.map_id]
  · conv => lhs; unfold fo_w
    rw [hs]
    dsimp only
    rw [g1]
    obtain ⟨A2, d2, r, e1, e2⟩ := fo_split h
    have hs2 : fo_sp L n = some (A2, d2, r) := by rw [e1]; exact fo_sp_app e2
    unfold fo_w fo_sub
    rw [hs2]
    dsimp only
    rw [List.map_map]
    rfl
theorem fo_mv_out {L : fo_L} {n p : Nat} (hok : fo_ok L) (h : n ∈ L.map (·.1)) (hp : p ∈ L.map (·.1)) (hw : p ∉ fo_w L n) : fo_mv (fo_out L n) n p = fo_mv L n p := by
  obtain ⟨c1, c2, c3⟩ := fo_out_cut hok h
  obtain ⟨A1, e, r, h1, h2⟩ := fo_split ((fo_cut_mem hok h p).mpr ⟨hp, hw⟩)
  have hs : fo_sp (fo_cut L n) p = some (A1, e, r) := by rw [h1]; exact fo_sp_app h2
  unfold fo_mv
  rw [c1, c2, hs]
end FO6
