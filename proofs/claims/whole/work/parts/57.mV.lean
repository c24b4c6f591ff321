-- THE REFERENCE: a thing comes: the picture after it
section MV
variable {N : Nat} {s : ts_S} {M : am_M} {K : Option am_V → am_M → Prop} {n : Nat}
theorem mp_cm {s' : ts_S} {M' : am_M} (h : mp N s M) (hM : me (mu_P N n) M M') (hml : ml N (ts_L s') M') (e1 : ts_m s' = ts_m s) (e2 : ts_kd s' = ts_kd s) (e3 : ts_ms s' = ts_ms s) (e4 : ts_cl s' = ts_cl s) (e5 : ts_cr s' = ts_cr s) (e6 : ts_sh s' = ts_sh s) (e7 : ts_sp s' = ts_sp s) (hlv : ∀ x, ts_lv s' x ↔ ts_lv s x) (h15 : am_mi M' N 15 = nI (ts_t s')) (hch : ∀ j, j < 120 → mp_h (am_mi M' (N + 12) j) = ts_ch s' j) (hwy : ∀ x p, ts_pa s' x = some p → am_mi M' (N + 5) x = ts_wy s' x) : mp N s' M' := by
  have g : ∀ b j, ¬ mu_P N n b j → am_mi M' b j = am_mi M b j := hM.2.2.2.2
  unfold mu_P at g
  refine ⟨hml, ?_, h15, hch, fun x hx => ?_⟩
  · rw [g N 1 (by omega), e1]; exact h.2.1
  · have o := h.2.2.2.2 x ((hlv x).mp hx)
    unfold mp_o at o ⊢
    rw [g (N + 3) x (by omega), g (N + 4) x (by omega), g (N + 6) x (by omega), g (N + 7) x (by omega), g (N + 8) x (by omega), g (N + 9) x (by omega), g (N + 10) x (by omega), e1, e2, e3, e4, e5, e6, e7]
    exact ⟨o.1, o.2.1, hwy x, o.2.2.2.1, o.2.2.2.2.1, o.2.2.2.2.2.1, o.2.2.2.2.2.2.1, fun r hr hl => o.2.2.2.2.2.2.2 r hr (hl.imp_left (hlv r).mp)⟩
theorem mM_come (h : mp N s M) (hs : ts_ok s) (hn : ts_lv s n) (ht : ts_t s < 2 ^ 30) {p : Nat} (hp : ts_lv s p) (hw : p ∉ fo_w (ts_L s) n) {w : Int32} (hw0 : ¬ w < 0) (hK : ∀ M', mp N (ts_come s n p w) M' → me (mu_P N n) M M' → K none M') : am_wp yM_come 0 [.inr (.inl (4, some N)), .inl (nI n), .inl (nI p), .inl w, am_u, am_u, am_u, am_u, am_u, am_u, am_u] [] M K := by
  have h20 := ts_20 hs hn
  have p20 := ts_20 hs hp
  have ho := ml_ok_of hs
  have hpn : ¬ nI p < 0 := nI_pos (by omega)
  refine mM_note h hs hn ht ?_
  intro M1 hM1 k1 k2 k3
  have hml1 : ml N (ts_L s) M1 := ⟨me_s hM1 h.1.1, by rw [(k1 0).1]; exact h.1.2.1, fun j q hj => by rw [(k1 j).2.1, (k1 j).2.2.1]; exact h.1.2.2 j q hj⟩
  obtain ⟨A, d, B, g1, g2, g3, g4, g5⟩ := fo_cut_form hn
  refine mM_pull hml1 ho g1 g4 g3 _ _ _ ?_
  intro M2 hM2 hml2 hc2
  rw [← g2] at hml2
  obtain ⟨c1, c2, c3⟩ := fo_cut_ok hs.1 hn
  have hoc : ml_ok (fo_cut (ts_L s) n) := ml_ok_g c1 (by have := ho.2.1; omega) (fun x hx => ts_20 hs (c3 x hx))
  have hcm := (fo_cut_mem hs.1 hn p).mpr ⟨hp, hw⟩
  obtain ⟨A1, e, r, r1, r2⟩ := fo_split hcm
  have hsp : fo_sp (fo_cut (ts_L s) n) p = some (A1, e, r) := by rw [r1]; exact fo_sp_app r2
  have hmv : fo_mv (ts_L s) n p = fo_bl (A1 ++ (p, e) :: fo_sg e r) n (fo_sub (ts_L s) n) (e + 1) (fo_rs e r) := by unfold fo_mv; rw [hsp]
  have hPQ : (A1 ++ (p, e) :: fo_sg e r) ++ fo_rs e r = fo_cut (ts_L s) n := by
    rw [r1]
    conv => rhs; rw [← fo_sr e r]
    simp
  have hi : (fo_cut (ts_L s) n)[A1.length]? = some (p, e) := by rw [r1]; simp
  have hlt := ml_lt hi
  have hle := ho.2.1
  simp only [wM_come_159, wM_come_160, wM_come_163, wM_come_165, wM_come_166, wM_come_168, wM_come_169, hpn, if_false, wM_come_172, wM_come_173, wM_come_174, mM_at hml2 hoc hi, true_or, or_true, Option.toList_some, Option.toList_none, List.cons_append, List.nil_append, wM_come_177, wM_come_179, wM_come_180, wM_come_182, mM_end hml2 hoc r1, wM_come_185, wM_come_187, wM_come_188, wM_come_191, hml2.1.2.1, wM_come_193 (am_ok_nI (show A1.length < 20 by omega) (by decide)), nI_clamp (show A1.length < 2 ^ 31 by omega), (hml2.2.2 _ _ hi).2, wM_come_194, wM_come_195, wM_come_196, nI_1]
  have el : A1.length + 1 + (fo_sg e r).length = (A1 ++ (p, e) :: fo_sg e r).length := by simp; omega
  have eT : (fo_sub (ts_L s) n).length + 1 = ((n, 0) :: fo_sub (ts_L s) n).length := rfl
  rw [el, eT]
  rw [← hPQ] at hml2
  refine mM_ins hml2 h20 (by rw [hPQ, ← eT]; omega) hc2 _ _ _ _ _ ?_
  intro M3 hM3 hml3 hw3
  have hMe : me (mu_P N n) M M3 := me_tr hM1 (me_tr (me_to hM2 (fun b j q => by unfold mu_P; omega)) (me_to hM3 (fun b j q => by unfold mu_P; omega)))
  rw [← fo_sh_c] at hml3
  refine hK M3 ?_ hMe
  refine mp_cm (s' := ts_come s n p w) h hMe (by show ml N (fo_mv (ts_L s) n p) M3; rw [hmv]; exact hml3) rfl rfl rfl rfl rfl rfl rfl (fo_mv_ok hs.1 hn hp hw).2.1 ?_ ?_ ?_
  · rw [hM3.2.2.2.2 N 15 (by omega), hM2.2.2.2.2 N 15 (by omega)]; exact k2
  · intro j hj
    rw [hM3.2.2.2.2 (N + 12) j (by omega), hM2.2.2.2.2 (N + 12) j (by omega), k3 j hj, if_neg hpn, mp_h_p p20, show mp_h w = w from if_neg hw0]
    rfl
  · intro x q hx
    rw [come_wy]
    by_cases c : x = n
    · rw [if_pos c, c]; exact hw3
    · rw [if_neg c]
      rw [come_pa hs hn hp hw, if_neg c] at hx
      rw [hM3.2.2.2.2 (N + 5) x (by omega), hM2.2.2.2.2 (N + 5) x (by omega), (k1 x).2.2.2]
      exact (h.2.2.2.2 x (fo_p_mem hx).1).2.2.1 q hx
theorem mM_gone (h : mp N s M) (hs : ts_ok s) (hn : ts_lv s n) (ht : ts_t s < 2 ^ 30) (hK : ∀ M', mp N (ts_gone s n) M' → me (mu_P N n) M M' → K none M') : am_wp yM_come 0 [.inr (.inl (4, some N)), .inl (nI n), .inl (-1), .inl (-1), am_u, am_u, am_u, am_u, am_u, am_u, am_u] [] M K := by
  have h20 := ts_20 hs hn
  have ho := ml_ok_of hs
  have hpn : (-1 : Int32) < 0 := by decide
  refine mM_note h hs hn ht ?_
  intro M1 hM1 k1 k2 k3
  have hml1 : ml N (ts_L s) M1 := ⟨me_s hM1 h.1.1, by rw [(k1 0).1]; exact h.1.2.1, fun j q hj => by rw [(k1 j).2.1, (k1 j).2.2.1]; exact h.1.2.2 j q hj⟩
  obtain ⟨A, d, B, g1, g2, g3, g4, g5⟩ := fo_cut_form hn
  refine mM_pull hml1 ho g1 g4 g3 _ _ _ ?_
  intro M2 hM2 hml2 hc2
  rw [← g2] at hml2
  obtain ⟨c1, c2, c3⟩ := fo_cut_ok hs.1 hn
  have hle := ho.2.1
  simp only [wM_come_159, wM_come_160, wM_come_163, wM_come_165, wM_come_166, wM_come_168, wM_come_169, hpn, if_true, hml2.2.1]
  have eT : (fo_sub (ts_L s) n).length + 1 = ((n, 0) :: fo_sub (ts_L s) n).length := rfl
  rw [eT, show (0 : Int32) = nI 0 from nI_0.symm]
  rw [← List.append_nil (fo_cut (ts_L s) n)] at hml2
  refine mM_ins hml2 h20 (by rw [List.append_nil, ← eT]; omega) hc2 _ _ _ _ _ ?_
  intro M3 hM3 hml3 hw3
  have hMe : me (mu_P N n) M M3 := me_tr hM1 (me_tr (me_to hM2 (fun b j q => by unfold mu_P; omega)) (me_to hM3 (fun b j q => by unfold mu_P; omega)))
  rw [← fo_sh_c] at hml3
  refine hK M3 ?_ hMe
  refine mp_cm (s' := ts_gone s n) h hMe (by show ml N (fo_out (ts_L s) n) M3; rw [fo_out_bl]; exact hml3) rfl rfl rfl rfl rfl rfl rfl (fo_out_ok hs.1 hn).2.1 ?_ ?_ ?_
  · rw [hM3.2.2.2.2 N 15 (by omega), hM2.2.2.2.2 N 15 (by omega)]; exact k2
  · intro j hj
    rw [hM3.2.2.2.2 (N + 12) j (by omega), hM2.2.2.2.2 (N + 12) j (by omega), k3 j hj, if_pos hpn]
    rfl
  · intro x q hx
    rw [gone_pa hs.1 hn] at hx
    by_cases c : x = n
    · rw [if_pos c] at hx; cases hx
    · rw [if_neg c] at hx
      rw [hM3.2.2.2.2 (N + 5) x (by omega), hM2.2.2.2.2 (N + 5) x (by omega), (k1 x).2.2.2]
      exact (h.2.2.2.2 x (fo_p_mem hx).1).2.2.1 q hx
theorem mu_fx {M' : am_M} (h : me (mu_P N n) M M') : fx_f (mxR N) M M' := me_fx h (fun b j q => by unfold mu_P at q; unfold mxR; omega)
end MV
