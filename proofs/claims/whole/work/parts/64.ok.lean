-- A GOOD STATE STAYS GOOD, and how many changes a call tells
section OK
variable {s : ts_S}
def tk (s s' : ts_S) : Prop := ts_ok s' ∧ ts_t s' ≤ ts_t s + 20
theorem tk_rf (hs : ts_ok s) : tk s s := ⟨hs, by omega⟩
theorem ok_hb {t p k : Nat} (hk : k < 5) (h0 : ts_kd s t ≠ 0) (h6 : ts_kd s t ≠ 6) (hb : tq_hb s p k = true) : ts_kd s t ≠ 0 ∧ ts_kd s t ≠ 6 ∧ ((nI k = 0 ∧ (ts_kd s p = 0 ∨ ts_kd s p = 2 ∨ ts_kd s p = 5)) ∨ (nI k = 1 ∧ ts_kd s p = 3) ∨ ((nI k = 2 ∨ nI k = 3) ∧ ts_kd s p = 4) ∨ (nI k = 4 ∧ ts_kd s p ≠ 0 ∧ ts_kd s p ≠ 6)) := by
  refine ⟨h0, h6, ?_⟩
  rcases (show k = 0 ∨ k = 1 ∨ k = 2 ∨ k = 3 ∨ k = 4 by omega) with rfl | rfl | rfl | rfl | rfl
  · exact Or.inl ⟨rfl, by simpa [tq_hb, or_assoc] using hb⟩
  · exact Or.inr (Or.inl ⟨rfl, by simpa [tq_hb] using hb⟩)
  · exact Or.inr (Or.inr (Or.inl ⟨Or.inl rfl, by simpa [tq_hb] using hb⟩))
  · exact Or.inr (Or.inr (Or.inl ⟨Or.inr rfl, by simpa [tq_hb] using hb⟩))
  · exact Or.inr (Or.inr (Or.inr ⟨rfl, by simpa [tq_hb] using hb⟩))
theorem ok_come (hs : ts_ok s) {t p : Nat} (ht : ts_lv s t) (hp : ts_lv s p) (hw : p ∉ fo_w (ts_L s) t) {k : Nat} (hk : k < 5) (h0 : ts_kd s t ≠ 0) (h6 : ts_kd s t ≠ 6) (hb : tq_hb s p k = true) : tk s (ts_come s t p (nI k)) :=
  ⟨ts_ok_come hs ht hp hw (ok_hb hk h0 h6 hb), show ts_t s + 1 ≤ ts_t s + 20 by omega⟩
theorem ok_cuf (hs : ts_ok s) {t p : Nat} (ht : ts_lv s t) (hp : ts_lv s p) (hw : p ∉ fo_w (ts_L s) t) {k : Nat} (hk : k < 5) (h0 : ts_kd s t ≠ 0) (h6 : ts_kd s t ≠ 6) (hb : tq_hb s p k = true) : tk s (sp_cuf s t p (nI k)).2 := by
  unfold sp_cuf
  split
  · exact tk_rf hs
  · exact ok_come hs ht hp hw hk h0 h6 hb
theorem lo_kd {t : Nat} (h : tq_lo s t = true) : ts_kd s t ≠ 0 ∧ ts_kd s t ≠ 6 := by
  unfold tq_lo tq_hh at h
  simp at h
  exact h.1
theorem in_f {n m : Nat} (h : ¬ tq_in s n m = true) : n ∉ fo_w (ts_L s) m := tq_in_f (by simpa using h)
theorem ok_open (hs : ts_ok s) (v : Int32) (on : Bool) : tk s (sp_open s v on).2 := by
  unfold sp_open
  cases hv : ts_id s v with
  | none => exact tk_rf hs
  | some n =>
    simp only
    split
    · rename_i c
      split
      · refine ⟨⟨hs.1, hs.2.1, hs.2.2.1, fun x hx => ⟨(hs.2.2.2.1 x hx).1, (hs.2.2.2.1 x hx).2.1, fun q => ?_⟩, hs.2.2.2.2⟩, by show ts_t s ≤ ts_t s + 20; omega⟩
        have q' : (if x = n then (!on) else ts_cl s x) = true := q
        by_cases e : x = n
        · rw [e]; exact c
        · rw [if_neg e] at q'; exact (hs.2.2.2.1 x hx).2.2 q'
      · exact tk_rf hs
    · exact tk_rf hs
theorem ok_same {s' : ts_S} (hs : ts_ok s) (e1 : ts_ok s' = ts_ok s) (e2 : ts_t s' = ts_t s) : tk s s' := ⟨by rw [e1]; exact hs, by omega⟩
theorem ok_clears (hs : ts_ok s) (v : Int32) (on : Bool) : tk s (sp_clears s v on).2 := by
  unfold sp_clears
  cases hv : ts_id s v with
  | none => exact tk_rf hs
  | some n =>
    simp only
    split
    · split
      · exact tk_rf hs
      · exact ok_same hs rfl rfl
    · exact tk_rf hs
theorem ok_shine (hs : ts_ok s) (n : Nat) (on : Bool) : tk s (sp_shine s n on).2 := by
  unfold sp_shine
  split
  · exact tk_rf hs
  · exact ok_same hs rfl rfl
theorem ok_lit (hs : ts_ok s) (v : Int32) (on : Bool) : tk s (sp_lit s v on).2 := by
  unfold sp_lit
  cases hv : ts_id s v with
  | none => exact tk_rf hs
  | some n =>
    simp only
    split
    · exact ok_shine hs n on
    · exact tk_rf hs
theorem ok_glows (hs : ts_ok s) (v : Int32) (on : Bool) : tk s (sp_glows s v on).2 := by
  unfold sp_glows
  cases hv : ts_id s v with
  | none => exact tk_rf hs
  | some n =>
    simp only
    split
    · exact tk_rf hs
    · exact ok_shine hs n on
theorem ok_spread (hs : ts_ok s) (v w : Int32) (on : Bool) : tk s (sp_spread s v w on).2 := by
  unfold sp_spread
  cases hv : ts_id s v with
  | none => exact tk_rf hs
  | some n =>
    cases hw : ts_id s w with
    | none => exact tk_rf hs
    | some r =>
      simp only
      split
      · split
        · exact tk_rf hs
        · exact ok_same hs rfl rfl
      · exact tk_rf hs
theorem ok_mvto (hs : ts_ok s) {t p k : Nat} (ht : ts_lv s t) (hp : ts_lv s p) (hk : k < 4) (hl : tq_lo s t = true) : tk s (sp_mvto s t p k).2 := by
  unfold sp_mvto
  split
  · exact tk_rf hs
  rename_i c1
  have c1' : tq_hb s p k = true := by simpa using c1
  split
  · exact tk_rf hs
  split
  · exact tk_rf hs
  split
  · exact tk_rf hs
  rename_i c4
  split
  · exact ok_come hs ht hp (in_f c4) (by omega) (lo_kd hl).1 (lo_kd hl).2 c1'
  · exact ok_cuf hs ht hp (in_f c4) (by omega) (lo_kd hl).1 (lo_kd hl).2 c1'
theorem ok_move (hs : ts_ok s) (v w y : Int32) : tk s (sp_move s v w y).2 := by
  unfold sp_move
  cases hv : ts_id s v with
  | none => exact tk_rf hs
  | some t =>
    have ht := (ts_id_some hv).2.1
    simp only
    split
    · exact tk_rf hs
    split
    · exact tk_rf hs
    rename_i c2
    split
    · exact tk_rf hs
    rename_i c3
    split
    · exact tk_rf hs
    rename_i c4
    have c4' : tq_lo s t = true := by simpa using c4
    cases hw : ts_id s w with
    | none =>
      show tk s (sp_mvno s t).2
      unfold sp_mvno
      split
      · exact tk_rf hs
      · exact ⟨ts_ok_gone hs ht, show ts_t s + 1 ≤ ts_t s + 20 by omega⟩
    | some p =>
      obtain ⟨k, hk1, rfl⟩ := nI_of c2
      have hk4 : k < 4 := Classical.byContradiction (fun q => c3 ((nI_ltI (a := 3) (b := k) (by decide) hk1).mpr (by omega)))
      show tk s (sp_mvto s t p (nI k).toNatClampNeg).2
      rw [nI_clamp hk1]
      exact ok_mvto hs ht (ts_id_some hw).2.1 hk4 c4'
theorem ok_part (hs : ts_ok s) (v w : Int32) : tk s (sp_part s v w).2 := by
  unfold sp_part
  cases hv : ts_id s v with
  | none => exact tk_rf hs
  | some t =>
    cases hw : ts_id s w with
    | none => exact tk_rf hs
    | some p =>
      simp only
      split
      · rename_i c
        split
        · exact tk_rf hs
        · rename_i c4
          exact ok_come (k := 4) hs (ts_id_some hv).2.1 (ts_id_some hw).2.1 (in_f c4) (by omega) (lo_kd c.1).1 (lo_kd c.1).2 c.2.2
      · exact tk_rf hs
theorem ok_take (hs : ts_ok s) (v w : Int32) : tk s (sp_take s v w).2 := by
  unfold sp_take
  cases hv : ts_id s v with
  | none => exact tk_rf hs
  | some p =>
    cases hw : ts_id s w with
    | none => exact tk_rf hs
    | some t =>
      simp only
      split
      · rename_i c
        split
        · exact tk_rf hs
        split
        · exact tk_rf hs
        rename_i c5
        split
        · exact tk_rf hs
        exact ok_cuf (k := 2) hs (ts_id_some hw).2.1 (ts_id_some hv).2.1 (in_f c5) (by omega) (lo_kd c.2.1).1 (lo_kd c.2.1).2 (by simp [tq_hb, c.1])
      · exact tk_rf hs
theorem ok_wear (hs : ts_ok s) (v w : Int32) : tk s (sp_wear s v w).2 := by
  unfold sp_wear
  cases hv : ts_id s v with
  | none => exact tk_rf hs
  | some p =>
    cases hw : ts_id s w with
    | none => exact tk_rf hs
    | some t =>
      simp only
      split
      · rename_i c
        split
        · exact tk_rf hs
        rename_i c3
        have c2 := c.2.2.resolve_left c3
        exact ok_come (k := 3) hs (ts_id_some hw).2.1 (ts_id_some hv).2.1 (fo_nup hs.1 (tq_hl_p c2).1) (by omega) (by rw [c.2.1]; decide) (by rw [c.2.1]; decide) (by simp [tq_hb, c.1])
      · exact tk_rf hs
theorem ok_enter (hs : ts_ok s) (v w : Int32) : tk s (sp_enter s v w).2 := by
  unfold sp_enter
  cases hv : ts_id s v with
  | none => exact tk_rf hs
  | some p =>
    cases hw : ts_id s w with
    | none => exact tk_rf hs
    | some t =>
      simp only
      split
      · rename_i c
        split
        · exact tk_rf hs
        split
        · exact tk_rf hs
        rename_i c5
        split
        · exact tk_rf hs
        refine ok_cuf (k := 0) hs (ts_id_some hv).2.1 (ts_id_some hw).2.1 (in_f c5) (by omega) (by rw [c.1]; decide) (by rw [c.1]; decide) ?_
        have := c.2
        unfold tq_en at this
        simp at this
        rcases this with q | q <;> simp [tq_hb, q]
      · exact tk_rf hs
theorem ok_put (hs : ts_ok s) (v w y : Int32) : tk s (sp_put s v w y).2 := by
  unfold sp_put
  cases hv : ts_id s v with
  | none => exact tk_rf hs
  | some p =>
    cases hw : ts_id s w with
    | none => exact tk_rf hs
    | some t =>
      cases hy : ts_id s y with
      | none => exact tk_rf hs
      | some g =>
        simp only
        split
        · rename_i c
          split
          · exact tk_rf hs
          rename_i c5
          split
          · exact tk_rf hs
          have htp := (tq_hl_p c.2.1).1
          have k := hs.2.2.2.2 t p htp
          cases b1 : tq_hb s g 1 with
          | true => exact ok_cuf (k := 1) hs (ts_id_some hw).2.1 (ts_id_some hy).2.1 (in_f c5) (by omega) k.1 k.2.1 b1
          | false =>
            have b0 := c.2.2.resolve_right (by rw [b1]; simp)
            exact ok_cuf (k := 0) hs (ts_id_some hw).2.1 (ts_id_some hy).2.1 (in_f c5) (by omega) k.1 k.2.1 b0
        · exact tk_rf hs
theorem ok_drop (hs : ts_ok s) (v w : Int32) : tk s (sp_drop s v w).2 := by
  unfold sp_drop
  cases hv : ts_id s v with
  | none => exact tk_rf hs
  | some p =>
    have hlp := (ts_id_some hv).2.1
    cases hw : ts_id s w with
    | none => exact tk_rf hs
    | some t =>
      have hlt := (ts_id_some hw).2.1
      simp only
      cases hg : ts_pa s p with
      | none => exact tk_rf hs
      | some g =>
        simp only
        split
        · rename_i c
          have htp : ts_pa s t = some p := by
            rcases c.2 with q | q
            · exact (tq_hl_p q).1
            · exact (tq_hl_p q).1
          have kt := hs.2.2.2.2 t p htp
          have kp := (hs.2.2.2.2 p g hg).2.2
          rw [← ts_way_h hg] at kp
          have hpt : p ≠ t := fun z => by have := fo_p_deep hs.1 htp; rw [z] at this; omega
          split
          · exact tk_rf hs
          split
          · have hs1 : ts_ok (ts_come s t p 2) := ts_ok_come hs hlt hlp (fo_nup hs.1 htp) ⟨kt.1, kt.2.1, Or.inr (Or.inr (Or.inl ⟨Or.inl rfl, c.1⟩))⟩
            have z1 : ts_pa (ts_come s t p 2) t = some p := by rw [come_pa hs hlt hlp (fo_nup hs.1 htp), if_pos rfl]
            have z2 : ts_pa (ts_come s t p 2) p = some g := by rw [come_pa hs hlt hlp (fo_nup hs.1 htp), if_neg hpt, hg]
            exact ⟨ts_ok_come hs1 (fo_p_mem z1).1 (ts_pa_lv z2) (fo_nup2 hs1.1 z1 z2) ⟨kt.1, kt.2.1, kp⟩, show ts_t s + 1 + 1 ≤ ts_t s + 20 by omega⟩
          · exact ⟨ts_ok_come hs hlt (ts_pa_lv hg) (fo_nup2 hs.1 htp hg) ⟨kt.1, kt.2.1, kp⟩, show ts_t s + 1 ≤ ts_t s + 20 by omega⟩
        · exact tk_rf hs
theorem ok_leave (hs : ts_ok s) (v : Int32) : tk s (sp_leave s v).2 := by
  unfold sp_leave
  cases hv : ts_id s v with
  | none => exact tk_rf hs
  | some p =>
    have hlp := (ts_id_some hv).2.1
    simp only
    split
    · rename_i c1
      cases hl : ts_pa s p with
      | none => exact tk_rf hs
      | some l =>
        simp only
        split
        · cases hg : ts_pa s l with
          | none => exact tk_rf hs
          | some g =>
            simp only
            split
            · split
              · exact tk_rf hs
              · unfold sp_cuf
                split
                · exact tk_rf hs
                · have kl := (hs.2.2.2.2 l g hg).2.2
                  rw [← ts_way_h hg] at kl
                  exact ⟨ts_ok_come hs hlp (ts_pa_lv hg) (fo_nup2 hs.1 hl hg) ⟨by rw [c1]; decide, by rw [c1]; decide, kl⟩, show ts_t s + 1 ≤ ts_t s + 20 by omega⟩
            · exact tk_rf hs
        · exact tk_rf hs
    · exact tk_rf hs
theorem ok_go (hs : ts_ok s) (v w : Int32) : tk s (sp_go s v w).2 := by
  unfold sp_go
  cases hv : ts_id s v with
  | none => exact tk_rf hs
  | some p =>
    cases hw : ts_id s w with
    | none => exact tk_rf hs
    | some r =>
      simp only
      cases hf : ts_pa s (tq_go s p) with
      | none => exact tk_rf hs
      | some f =>
        simp only
        split
        · rename_i c
          split
          · exact tk_rf hs
          · have k := hs.2.2.2.2 _ f hf
            have hnot : r ∉ fo_w (ts_L s) (tq_go s p) := fun z => by
              by_cases e : tq_go s p = r
              · rw [e] at k
                exact k.1 c.2.1
              · obtain ⟨y, hy, -⟩ := fo_w_up hs.1 z e
                exact (hs.2.2.2.2 r y hy).1 c.2.1
            exact ok_cuf (k := 0) hs (fo_p_mem hf).1 (ts_id_some hw).2.1 hnot (by omega) k.1 k.2.1 (by simp [tq_hb, c.2.1])
        · exact tk_rf hs
theorem ok_thing (hs : ts_ok s) (v w : Int32) : tk s (sp_thing s v w).2 := by
  unfold sp_thing
  split
  · exact tk_rf hs
  rename_i c
  split
  · exact tk_rf hs
  rename_i c5
  have c1 : ¬ v < 0 := fun q => c (Or.inl q)
  have c2 : ¬ 6 < v := fun q => c (Or.inr (Or.inl q))
  have c3 : ¬ w < 0 := fun q => c (Or.inr (Or.inr (Or.inl q)))
  have c4 : ¬ 9 < w := fun q => c (Or.inr (Or.inr (Or.inr q)))
  obtain ⟨k, hk, rfl⟩ := nI_of c1
  obtain ⟨j, hj, rfl⟩ := nI_of c3
  have hk7 : k < 7 := Classical.byContradiction (fun q => c2 ((nI_ltI (a := 6) (b := k) (by decide) hk).mpr (by omega)))
  have hj9 : j ≤ 9 := Classical.byContradiction (fun q => c4 ((nI_ltI (a := 9) (b := j) (by decide) hj).mpr (by omega)))
  show tk s (ts_new s (nI k).toNatClampNeg (nI j).toNatClampNeg)
  rw [nI_clamp hk, nI_clamp hj]
  exact ⟨ts_ok_new hs c5 hk7 hj9, show ts_t s ≤ ts_t s + 20 by omega⟩
theorem ok_clear (s : ts_S) : tk s (ts_clear s) := ⟨ts_ok_clear s, Nat.zero_le _⟩
theorem ok_lose (hs : ts_ok s) (v : Int32) : tk s (sp_lose s v).2 := by
  unfold sp_lose
  cases hv : ts_id s v with
  | none => exact tk_rf hs
  | some t =>
    have hlt := (ts_id_some hv).2.1
    obtain ⟨b1, b2, b3, b4, b5, b6, b7, b8⟩ := lo_all hs hlt
    have hlvm : ∀ x ∈ (lo_r s t).1, ts_lv s x := fun x hx => (fo_w_mem (b5 x hx).1).2
    have hmvl : (lo_r s t).1.length ≤ 20 := nd_len 20 _ b6 (fun x hx => ts_20 hs (hlvm x hx))
    obtain ⟨d1, d2, d3, d4, d5, d6, d7⟩ := gone_fold (lo_r s t).1 s hs hlvm
    have hs3 : ts_ok (lo_s s t) := d1
    have hl3 : ts_lv (lo_s s t) t := (d2 t).mpr hlt
    have et : ts_t (lo_s s t) = ts_t s + (lo_r s t).1.length := d6
    obtain ⟨c1, c2, c3⟩ := fo_cut_ok hs3.1 hl3
    refine ⟨⟨c1, fun n hn => hs3.2.1 n (c3 n hn), hs3.2.2.1, fun n hn => hs3.2.2.2.1 n (c3 n hn), fun n p hp => ?_⟩, ?_⟩
    · have hp' : fo_p (fo_cut (ts_L (lo_s s t)) t) n = some p := hp
      have hn := (fo_p_mem hp').1
      rw [(fo_cut_o hs3.1 hl3 hn).1] at hp'
      exact hs3.2.2.2.2 n p hp'
    · show ts_t (lo_s s t) ≤ ts_t s + 20
      omega
end OK
