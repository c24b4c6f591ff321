-- THE LAW: its loop, and what is claimed of it
section LW
variable {X b L : Nat} {xs : Nat → Int32} {K : Option am_V → am_M → Prop}
theorem lJ_skip {i : Nat} {s : ts_S} {M : am_M} (h : lJ X b L xs i s M) : lJ X b L xs (i + 1) s M := by
  obtain ⟨h1, h2, h3, h4, h5, h6, h7, h8, h9⟩ := h
  exact ⟨h1, h2, h3, by omega, h5, by omega, by omega, h8, h9⟩
theorem lz_case {i : Nat} {s : ts_S} {M : am_M} (h : lJ X b L xs i s M) (hb : b < X) (hL : 4 * i + 4 ≤ L) (hL2 : L ≤ 2048) (hN : ∀ s' M', lJ X b L xs (i + 1) s' M' → am_wp yL_law 1129 [.inr (.inl (15, some b)), .inr (.inl (1, some X)), .inr (.inl (4, some (X + 5))), .inl (nI (4 * i))] [] M' K) : ∀ j, j < 32 → am_wp yL_law (am_swt 4 (nI j)) [.inr (.inl (15, some b)), .inr (.inl (1, some X)), .inr (.inl (4, some (X + 5))), .inl (nI (4 * i))] [] M K := by
  intro j hj
  match j, hj with
  | 0, _ => rw [show am_swt 4 (nI 0) = 164 by decide +kernel]; exact lz_clear h hb hL hL2 hN
  | 1, _ => rw [show am_swt 4 (nI 1) = 175 by decide +kernel]; exact lz_thing h hb hL hL2 hN
  | 2, _ => rw [show am_swt 4 (nI 2) = 208 by decide +kernel]; exact lz_move h hb hL hL2 hN
  | 3, _ => rw [show am_swt 4 (nI 3) = 251 by decide +kernel]; exact lz_part h hb hL hL2 hN
  | 4, _ => rw [show am_swt 4 (nI 4) = 284 by decide +kernel]; exact lz_open h hb hL hL2 hN
  | 5, _ => rw [show am_swt 4 (nI 5) = 333 by decide +kernel]; exact lz_clears h hb hL hL2 hN
  | 6, _ => rw [show am_swt 4 (nI 6) = 382 by decide +kernel]; exact lz_lit h hb hL hL2 hN
  | 7, _ => rw [show am_swt 4 (nI 7) = 431 by decide +kernel]; exact lz_glows h hb hL hL2 hN
  | 8, _ => rw [show am_swt 4 (nI 8) = 480 by decide +kernel]; exact lz_spread h hb hL hL2 hN
  | 9, _ => rw [show am_swt 4 (nI 9) = 539 by decide +kernel]; exact lz_take h hb hL hL2 hN
  | 10, _ => rw [show am_swt 4 (nI 10) = 572 by decide +kernel]; exact lz_drop h hb hL hL2 hN
  | 11, _ => rw [show am_swt 4 (nI 11) = 605 by decide +kernel]; exact lz_put h hb hL hL2 hN
  | 12, _ => rw [show am_swt 4 (nI 12) = 648 by decide +kernel]; exact lz_wear h hb hL hL2 hN
  | 13, _ => rw [show am_swt 4 (nI 13) = 681 by decide +kernel]; exact lz_enter h hb hL hL2 hN
  | 14, _ => rw [show am_swt 4 (nI 14) = 714 by decide +kernel]; exact lz_leave h hb hL hL2 hN
  | 15, _ => rw [show am_swt 4 (nI 15) = 737 by decide +kernel]; exact lz_go h hb hL hL2 hN
  | 16, _ => rw [show am_swt 4 (nI 16) = 770 by decide +kernel]; exact lz_lose h hb hL hL2 hN
  | 17, _ => rw [show am_swt 4 (nI 17) = 793 by decide +kernel]; exact lz_touches h hb hL hL2 hN
  | 18, _ => rw [show am_swt 4 (nI 18) = 826 by decide +kernel]; exact lz_sees h hb hL hL2 hN
  | 19, _ => rw [show am_swt 4 (nI 19) = 859 by decide +kernel]; exact lz_light h hb hL hL2 hN
  | 20, _ => rw [show am_swt 4 (nI 20) = 882 by decide +kernel]; exact lz_holder h hb hL hL2 hN
  | 21, _ => rw [show am_swt 4 (nI 21) = 905 by decide +kernel]; exact lz_way h hb hL hL2 hN
  | 22, _ => rw [show am_swt 4 (nI 22) = 928 by decide +kernel]; exact lz_child h hb hL hL2 hN
  | 23, _ => rw [show am_swt 4 (nI 23) = 961 by decide +kernel]; exact lz_count h hb hL hL2 hN
  | 24, _ => rw [show am_swt 4 (nI 24) = 984 by decide +kernel]; exact lz_walk h hb hL hL2 hN
  | 25, _ => rw [show am_swt 4 (nI 25) = 1017 by decide +kernel]; exact lz_root h hb hL hL2 hN
  | 26, _ => rw [show am_swt 4 (nI 26) = 1040 by decide +kernel]; exact lz_ring h hb hL hL2 hN
  | 27, _ => rw [show am_swt 4 (nI 27) = 1073 by decide +kernel]; exact lz_row h hb hL hL2 hN
  | 28, _ => rw [show am_swt 4 (nI 28) = 1106 by decide +kernel]; exact lz_told h hb hL hL2 hN
  | 29, _ => rw [show am_swt 4 (nI 29) = 1129 by decide +kernel]; exact hN s M (lJ_skip h)
  | 30, _ => rw [show am_swt 4 (nI 30) = 1129 by decide +kernel]; exact hN s M (lJ_skip h)
  | 31, _ => rw [show am_swt 4 (nI 31) = 1129 by decide +kernel]; exact hN s M (lJ_skip h)
  | n + 32, hj => omega
theorem lz_cmp (i : Nat) (hL2 : L ≤ 2048) (hi : i ≤ 2048) : (nI L - 4 < nI (4 * i)) = (L < 4 * i + 4) := by
  apply propext
  rw [Int32.lt_iff_toInt_lt, show (4 : Int32) = nI 4 from rfl, pk_sub_toInt (by omega) (by omega), nI_toInt (by omega)]
  omega
theorem lz_loop (hb : b < X) (hL2 : L ≤ 2048) (hK : ∀ M', am_sz M' ≤ X + 600 → am_sl M' ≤ 7500 → K (some (.inl 1)) M') : ∀ (d i : Nat) (s : ts_S) (M : am_M), i + d = L / 4 → lJ X b L xs i s M → am_wp yL_law 18 [.inr (.inl (15, some b)), .inr (.inl (1, some X)), .inr (.inl (4, some (X + 5))), .inl (nI (4 * i))] [] M K := by
  intro d
  induction d with
  | zero =>
    intro i s M hd h
    obtain ⟨-, -, -, -, -, h6, h7, h8, -⟩ := h
    rw [wL_law_18]
    simp only [wL_law_19, wL_law_20, h8, wL_law_21, wL_law_22, wL_law_23, lz_cmp i hL2 (by omega)]
    rw [if_pos (by omega)]
    simp only [wL_law_1135, wL_law_1136 (Or.inr rfl)]
    exact hK M (by omega) (by omega)
  | succ d ih =>
    intro i s M hd h
    have hl : am_L M = L := h.2.2.2.2.2.2.2.1
    have hx := h.2.2.2.2.2.2.2.2
    have h4 : 4 * i + 4 ≤ L := by omega
    rw [wL_law_18]
    simp only [wL_law_19, wL_law_20, hl, wL_law_21, wL_law_22, wL_law_23, lz_cmp i hL2 (by omega)]
    rw [if_neg (by omega)]
    obtain ⟨j, hj, e⟩ := pk_andE (xs (4 * i)) (m := 31) 5 (by decide)
    simp only [wL_law_26, wL_law_27, wL_law_28 (lc_ok hl (show 4 * i < L by omega) hL2), nI_clamp (show 4 * i < 2 ^ 31 by omega), hx, wL_law_29, wL_law_31, wL_law_32, e]
    refine lz_case h hb h4 hL2 ?_ j hj
    intro s' M' h'
    simp only [wL_law_1129, wL_law_1132]
    rw [show nI (4 * i) + 4 = nI (4 * (i + 1)) from nI_add (4 * i) 4]
    exact ih (i + 1) s' M' (by omega) h'
theorem am_goal : am_Goal := by
  intro hs b L xs hL hb
  have z0 : am_sz (am_al (am_M0 hs b L xs) 1 4) = hs + 1 := rfl
  obtain ⟨x1, x2, x3⟩ := nX_sz (X := hs) z0
  have z1 : am_sz (am_al (nwX hs (am_al (am_M0 hs b L xs) 1 4)) 4 19) = hs + 5 + 1 := by rw [am_sz_al, x1]
  obtain ⟨y1, y2, y3⟩ := nM_sz z1
  have e0 : am_sz (am_M0 hs b L xs) = hs := rfl
  have zr0 : zr hs (am_al (am_M0 hs b L xs) 1 4) := fun c j h1 h2 => by
    rw [am_mi_al, if_pos (by omega)]
  have zr1 : zr hs (am_al (nwX hs (am_al (am_M0 hs b L xs) 1 4)) 4 19) := zr_al (zr_nX zr0) _ _
  simp only [wL_law_0, wL_law_3, wL_law_4, e0]
  rw [cX_new (X := hs) z0]
  simp only [true_or, or_true, Option.toList_some, Option.toList_none, List.cons_append, List.nil_append, wL_law_7, wL_law_8, wL_law_11, wL_law_12, x1]
  rw [mM_new z1]
  simp only [true_or, or_true, Option.toList_some, Option.toList_none, List.cons_append, List.nil_append, wL_law_15, wL_law_16, wL_law_17]
  rw [show (0 : Int32) = nI (4 * 0) from nI_0.symm]
  refine lz_loop (xs := xs) (X := hs) hb hL ?_ (L / 4) 0 ts_0 _ (by omega) ?_
  · intro M' h1 h2
    exact ⟨rfl, by omega, by omega⟩
  · refine ⟨⟨_, cp_fr (cp_0 z0 zr0) (fun c hc => ?_) (by rw [y1, x1]; omega)⟩, mp_0 z1 (fun c j h1 h2 => zr1 c j (by omega) h2), ts_ok_0, Nat.zero_le _, by rw [y1]; omega, by rw [y1]; omega, ?_, by rw [y3]; exact x3, fun k => ?_⟩
    · have o := nM_old z1 c (by omega)
      refine ⟨fun j => ?_, fun j => ?_⟩
      · rw [o.1, am_mi_al, if_neg (by omega)]
      · rw [o.2, am_mr_al, if_neg (by omega)]
    · rw [y2, am_sl_al, x2, am_sl_al]
      show 0 + 4 + 162 + 19 + 401 ≤ _
      omega
    · rw [(nM_old z1 b (by omega)).1, am_mi_al, if_neg (by omega), nX_old z0 b hb, am_mi_al, if_neg (by omega)]
      show (if b = b then xs k else 0) = xs k
      rw [if_pos rfl]
end LW
