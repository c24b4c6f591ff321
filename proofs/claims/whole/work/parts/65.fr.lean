-- BOTH SIDES: each keeps the other's picture; the first state
section FR
variable {X : Nat} {ad : Nat → Option Nat} {s : ts_S} {M M' : am_M} {K : Option am_V → am_M → Prop}
theorem cp_fr (h : cp X ad s M) (hf : ∀ b, (b = X ∨ b = X + 1 ∨ b = X + 2 ∨ b = X + 3 ∨ X + 20 < b) → (∀ j, am_mi M' b j = am_mi M b j) ∧ ∀ j, am_mr M' b j = am_mr M b j) (hz : am_sz M ≤ am_sz M') : cp X ad s M' := by
  obtain ⟨⟨a1, a2, a3, a4⟩, h2, h3, h4, h5, h6, h7, h8, h9⟩ := h
  have g0 := hf X (Or.inl rfl)
  have g1 := hf (X + 1) (Or.inr (Or.inl rfl))
  have g2 := hf (X + 2) (Or.inr (Or.inr (Or.inl rfl)))
  have g3 := hf (X + 3) (Or.inr (Or.inr (Or.inr (Or.inl rfl))))
  refine ⟨⟨?_, ?_, ?_, ?_⟩, ?_, ?_, fun j hj => ?_, fun n hn => ?_, fun n a ha => ?_, h7, fun n a ha => ⟨(h8 n a ha).1, Nat.lt_of_lt_of_le (h8 n a ha).2 hz⟩, h9⟩
  · rw [g0.2]; exact a1
  · rw [g0.2]; exact a2
  · rw [g0.2]; exact a3
  · rw [g2.2]; exact a4
  · rw [g0.1]; exact h2
  · rw [g2.1]; exact h3
  · rw [g3.1]; exact h4 j hj
  · rw [g1.2]; exact h5 n hn
  · have o := h6 n a ha
    have g := hf a (Or.inr (Or.inr (Or.inr (Or.inr (h8 n a ha).1))))
    unfold cp_o at o ⊢
    simp only [g.1, g.2]
    exact o
theorem mp_fr {N : Nat} (h : mp N s M) (hf : ∀ b, mxR N b → (∀ j, am_mi M' b j = am_mi M b j) ∧ ∀ j, am_mr M' b j = am_mr M b j) : mp N s M' := by
  have g : ∀ k, k ≤ 15 → (∀ j, am_mi M' (N + k) j = am_mi M (N + k) j) ∧ ∀ j, am_mr M' (N + k) j = am_mr M (N + k) j := fun k hk => hf (N + k) (by unfold mxR; omega)
  have g0 := g 0 (by omega)
  rw [Nat.add_zero] at g0
  refine ⟨⟨?_, ?_, fun j q hj => ?_⟩, ?_, ?_, fun j hj => ?_, fun x hx => ?_⟩
  · have := h.1.1
    unfold mp_s at this ⊢
    simp only [g0.2]
    exact this
  · rw [g0.1]; exact h.1.2.1
  · rw [(g 1 (by omega)).1, (g 2 (by omega)).1]; exact h.1.2.2 j q hj
  · rw [g0.1]; exact h.2.1
  · rw [g0.1]; exact h.2.2.1
  · rw [(g 12 (by omega)).1]; exact h.2.2.2.1 j hj
  · have o := h.2.2.2.2 x hx
    unfold mp_o at o ⊢
    rw [(g 3 (by omega)).1, (g 4 (by omega)).1, (g 5 (by omega)).1, (g 6 (by omega)).1, (g 7 (by omega)).1, (g 8 (by omega)).1, (g 9 (by omega)).1, (g 10 (by omega)).1]
    exact o
-- the first state
def ts_0 : ts_S := (0, [], (fun _ => 0), (fun _ => 0), (fun _ => 0), (fun _ => false), (fun _ => false), (fun _ => false), (fun _ _ => false), 0, fun _ => 0)
theorem ts_ok_0 : ts_ok ts_0 := ts_ok_clear ts_0
theorem am_sz_al (M : am_M) (t n : Nat) : am_sz (am_al M t n) = am_sz M + 1 := rfl
theorem am_sl_al (M : am_M) (t n : Nat) : am_sl (am_al M t n) = am_sl M + n := rfl
theorem wX_new_1b {l0 : am_V} {k a : Nat} : am_wp yX_new 1 [l0] (.inr (.inl (k, some a)) :: []) M K = am_wp yX_new 4 [l0] [] M K := wX_new_1 (q := (k, none))
theorem wC_new_1b {l0 : am_V} {k a : Nat} : am_wp yC_new 1 [l0] (.inr (.inl (k, some a)) :: []) M K = am_wp yC_new 4 [l0] [] M K := wC_new_1 (q := (k, none))
theorem wM_new_1b {l0 : am_V} {k a : Nat} : am_wp yM_new 1 [l0] (.inr (.inl (k, some a)) :: []) M K = am_wp yM_new 4 [l0] [] M K := wM_new_1 (q := (k, none))
def nwX (X : Nat) (M : am_M) : am_M := am_si (am_sr (am_al (am_sr (am_sr (am_al (am_al (am_sr (am_al M 14 20) X 0 (some (X + 1))) 3 2) 11 120) (X + 2) 0 (some (X + 3))) X 1 (some (X + 2))) 10 20) X 2 (some (X + 4))) X 3 0
theorem cX_new (hz : am_sz M = X + 1) : am_wp yX_new 0 [.inr (.inl (1, some X))] [] M K = K none (nwX X M) := by
  simp only [wX_new_0, wX_new_4, wX_new_5, wX_new_7, wX_new_10, wX_new_13, wX_new_14, wX_new_17, wX_new_18, wX_new_21, wX_new_24, wX_new_25, wX_new_27, wX_new_29, wX_new_32, wX_new_33, wX_new_34, wX_new_37, wC_new_0, wC_new_4, wC_new_5, wC_new_7, wC_new_9, wC_new_12, wX_new_1b, wC_new_1b, true_or, or_true, Option.toList_some, Option.toList_none, List.cons_append, List.nil_append, am_sz_al, am_sz_sr, hz]
  rfl
def nwa (t n N k j : Nat) (M : am_M) : am_M := am_sr (am_al M t n) N k (some (N + j))
def nwM (N : Nat) (M : am_M) : am_M := nwa 22 21 N 18 15 (nwa 20 20 N 17 14 (nwa 20 20 N 16 13 (nwa 21 120 N 14 12 (nwa 23 20 N 13 11 (nwa 20 20 N 12 10 (nwa 23 20 N 11 9 (nwa 23 20 N 10 8 (nwa 23 20 N 9 7 (nwa 23 20 N 8 6 (nwa 20 20 N 7 5 (nwa 20 20 N 6 4 (nwa 20 20 N 5 3 (nwa 20 20 N 3 2 (nwa 20 20 N 2 1 M))))))))))))))
theorem mM_new {N : Nat} (hz : am_sz M = N + 1) : am_wp yM_new 0 [.inr (.inl (4, some N))] [] M K = K none (nwM N M) := by
  simp only [wM_new_0, wM_new_4, wM_new_5, wM_new_7, wM_new_9, wM_new_12, wM_new_13, wM_new_15, wM_new_17, wM_new_20, wM_new_21, wM_new_23, wM_new_25, wM_new_28, wM_new_29, wM_new_31, wM_new_33, wM_new_36, wM_new_37, wM_new_39, wM_new_41, wM_new_44, wM_new_45, wM_new_47, wM_new_49, wM_new_52, wM_new_53, wM_new_55, wM_new_57, wM_new_60, wM_new_61, wM_new_63, wM_new_65, wM_new_68, wM_new_69, wM_new_71, wM_new_73, wM_new_76, wM_new_77, wM_new_79, wM_new_81, wM_new_84, wM_new_85, wM_new_87, wM_new_89, wM_new_92, wM_new_93, wM_new_95, wM_new_97, wM_new_100, wM_new_101, wM_new_103, wM_new_105, wM_new_108, wM_new_109, wM_new_111, wM_new_113, wM_new_116, wM_new_117, wM_new_119, wM_new_121, wM_new_124, wM_new_1b, true_or, or_true, Option.toList_some, Option.toList_none, List.cons_append, List.nil_append, am_sz_al, am_sz_sr, hz]
  rfl
-- what is new holds zeros
def zr (X : Nat) (M : am_M) : Prop := ∀ b j, X ≤ b → b < am_sz M → am_mi M b j = 0
theorem zr_al (h : zr X M) (t n : Nat) : zr X (am_al M t n) := fun b j h1 h2 => by
  rw [am_sz_al] at h2
  rw [am_mi_al]
  split
  · rfl
  · exact h b j h1 (by omega)
theorem zr_sr (h : zr X M) (a k : Nat) (o : Option Nat) : zr X (am_sr M a k o) := fun b j h1 h2 => h b j h1 h2
theorem zr_si (h : zr X M) (a k : Nat) : zr X (am_si M a k 0) := fun b j h1 h2 => by
  rw [am_mi_si]
  split
  · rfl
  · exact h b j h1 h2
theorem zr_nX (h : zr X M) : zr X (nwX X M) := zr_si (zr_sr (zr_al (zr_sr (zr_sr (zr_al (zr_al (zr_sr (zr_al h _ _) _ _ _) _ _) _ _) _ _ _) _ _ _) _ _) _ _ _) _ _
theorem zr_na {t n N k j : Nat} (h : zr X M) : zr X (nwa t n N k j M) := zr_sr (zr_al h _ _) _ _ _
theorem zr_nM {N : Nat} (h : zr X M) : zr X (nwM N M) := zr_na (zr_na (zr_na (zr_na (zr_na (zr_na (zr_na (zr_na (zr_na (zr_na (zr_na (zr_na (zr_na (zr_na (zr_na h))))))))))))))
theorem nX_sz (hz : am_sz M = X + 1) : am_sz (nwX X M) = X + 5 ∧ am_sl (nwX X M) = am_sl M + 162 ∧ am_L (nwX X M) = am_L M := by
  refine ⟨?_, ?_, rfl⟩
  · show am_sz M + 1 + 1 + 1 + 1 = _; omega
  · show am_sl M + 20 + 2 + 120 + 20 = _; omega
theorem nM_sz {N : Nat} (hz : am_sz M = N + 1) : am_sz (nwM N M) = N + 16 ∧ am_sl (nwM N M) = am_sl M + 401 ∧ am_L (nwM N M) = am_L M := by
  refine ⟨?_, ?_, rfl⟩
  · show am_sz M + 1 + 1 + 1 + 1 + 1 + 1 + 1 + 1 + 1 + 1 + 1 + 1 + 1 + 1 + 1 = _; omega
  · show am_sl M + 20 + 20 + 20 + 20 + 20 + 20 + 20 + 20 + 20 + 20 + 20 + 120 + 20 + 20 + 21 = _; omega
theorem na_mr {t n N k j : Nat} (b i : Nat) (hb : b ≠ am_sz M) : am_mr (nwa t n N k j M) b i = if b = N ∧ i = k then some (N + j) else am_mr M b i := by
  unfold nwa
  rw [am_mr_sr, am_mr_al, if_neg hb]
theorem na_sz {t n N k j : Nat} : am_sz (nwa t n N k j M) = am_sz M + 1 := rfl
theorem na_mi {t n N k j : Nat} (b i : Nat) (hb : b ≠ am_sz M) : am_mi (nwa t n N k j M) b i = am_mi M b i := by
  unfold nwa
  rw [am_mi_sr, am_mi_al, if_neg hb]
theorem na_ne {t n N k j i : Nat} (hM : N < am_sz M) (h : i ≠ k) : am_mr (nwa t n N k j M) N i = am_mr M N i := by rw [na_mr N i (by omega), if_neg (fun q => h q.2)]
theorem na_eq {t n N k j : Nat} (hM : N < am_sz M) : am_mr (nwa t n N k j M) N k = some (N + j) := by rw [na_mr N k (by omega), if_pos ⟨rfl, rfl⟩]
theorem nM_mr {N : Nat} (hz : am_sz M = N + 1) : mp_s N (nwM N M) := by
  unfold mp_s nwM
  refine ⟨?_, ?_, ?_, ?_, ?_, ?_, ?_, ?_, ?_, ?_, ?_, ?_, ?_, ?_, ?_⟩ <;> repeat (first | rw [na_eq (by first | (simp only [na_sz]; omega) | omega)] | rw [na_ne (by first | (simp only [na_sz]; omega) | omega) (by decide)])
theorem nM_old {N : Nat} (hz : am_sz M = N + 1) (b : Nat) (hb : b < N ∨ N + 15 < b) : (∀ i, am_mi (nwM N M) b i = am_mi M b i) ∧ ∀ i, am_mr (nwM N M) b i = am_mr M b i := by
  have e1 : ∀ (t n k j : Nat) (M : am_M) (i : Nat), b ≠ am_sz M → am_mr (nwa t n N k j M) b i = am_mr M b i := fun t n k j M i hM => by
    rw [na_mr b i hM, if_neg (by omega)]
  have e2 : ∀ (t n k j : Nat) (M : am_M) (i : Nat), b ≠ am_sz M → am_mi (nwa t n N k j M) b i = am_mi M b i := fun t n k j M i hM => na_mi b i hM
  unfold nwM
  constructor
  · intro i
    iterate 15 rw [e2 _ _ _ _ _ _ (by first | (simp only [na_sz]; omega) | omega)]
  · intro i
    iterate 15 rw [e1 _ _ _ _ _ _ (by first | (simp only [na_sz]; omega) | omega)]
theorem nX_mr (hz : am_sz M = X + 1) : cp_s X (nwX X M) ∧ ∀ i, am_mr (nwX X M) (X + 1) i = none := by
  unfold cp_s nwX
  refine ⟨⟨?_, ?_, ?_, ?_⟩, fun i => ?_⟩ <;> simp [am_mr_si, am_mr_sr, am_mr_al, am_sz_al, am_sz_sr, hz] <;> omega
theorem nX_old (hz : am_sz M = X + 1) (b : Nat) (hb : b < X) (i : Nat) : am_mi (nwX X M) b i = am_mi M b i := by
  unfold nwX
  rw [am_mi_si, if_neg (by omega), am_mi_sr, am_mi_al, if_neg (by simp only [am_sz_al, am_sz_sr]; omega), am_mi_sr, am_mi_sr, am_mi_al, if_neg (by simp only [am_sz_al, am_sz_sr]; omega), am_mi_al, if_neg (by simp only [am_sz_al, am_sz_sr]; omega), am_mi_sr, am_mi_al, if_neg (by omega)]
theorem mp_0 {N : Nat} (hz : am_sz M = N + 1) (h0 : zr N M) : mp N ts_0 (nwM N M) := by
  have z := zr_nM (N := N) h0
  have hsz := (nM_sz hz).1
  refine ⟨⟨nM_mr hz, ?_, fun j q hj => by cases hj⟩, ?_, ?_, fun j hj => ?_, fun x hx => by cases hx⟩
  · rw [z N 4 (by omega) (by omega)]; exact nI_0.symm
  · rw [z N 1 (by omega) (by omega)]; exact nI_0.symm
  · rw [z N 15 (by omega) (by omega)]; exact nI_0.symm
  · rw [z (N + 12) j (by omega) (by omega)]; rfl
theorem cp_0 (hz : am_sz M = X + 1) (h0 : zr X M) : cp X (fun _ => none) ts_0 (nwX X M) := by
  have z := zr_nX h0
  have hsz := (nX_sz hz).1
  obtain ⟨m1, m2⟩ := nX_mr hz
  refine ⟨m1, ?_, ?_, fun j hj => ?_, fun n hn => m2 n, (fun n a ha => by cases ha), (fun n => ⟨fun q => absurd q (by simp), fun q => by cases q⟩), (fun n a ha => by cases ha), (fun n m a ha => by cases ha)⟩
  · rw [z X 3 (by omega) (by omega)]; exact nI_0.symm
  · rw [z (X + 2) 1 (by omega) (by omega)]; exact nI_0.symm
  · rw [z (X + 3) j (by omega) (by omega)]; rfl
-- the joint picture, after i steps
def lJ (X b L : Nat) (xs : Nat → Int32) (i : Nat) (s : ts_S) (M : am_M) : Prop := (∃ ad, cp X ad s M) ∧ mp (X + 5) s M ∧ ts_ok s ∧ ts_t s ≤ 20 * i ∧ X + 20 < am_sz M ∧ am_sz M ≤ X + 21 + i ∧ am_sl M ≤ 600 + 13 * i ∧ am_L M = L ∧ ∀ k, am_mi M b k = xs k
variable {b L i : Nat} {xs : Nat → Int32} {M1 M2 : am_M} {s' : ts_S} {ad' : Nat → Option Nat}
theorem lJ_mid (h : lJ X b L xs i s M) (hb : b < X) (f1 : fx_n (cxR X) M M1) : mp (X + 5) s M1 ∧ am_L M1 = L ∧ ∀ k, am_mi M1 b k = xs k := by
  obtain ⟨-, h2, -, -, -, -, -, h8, h9⟩ := h
  refine ⟨mp_fr h2 (fun c hc => f1.1 c (by unfold mxR at hc; unfold cxR; omega)), by rw [f1.2.2.2.2, h8], fun k => ?_⟩
  rw [(f1.1 b (by unfold cxR; omega)).1]; exact h9 k
theorem lJ_next (h : lJ X b L xs i s M) (hb : b < X) (h1 : cp X ad' s' M1) (f1 : fx_n (cxR X) M M1) (h2 : mp (X + 5) s' M2) (f2 : fx_f (mxR (X + 5)) M1 M2) (ht : tk s s') : lJ X b L xs (i + 1) s' M2 := by
  obtain ⟨m1, m2, m3⟩ := lJ_mid h hb f1
  obtain ⟨-, -, -, k4, k5, k6, k7, -, -⟩ := h
  have z1 := f1.2.1
  have z2 := f1.2.2.1
  have z3 := f1.2.2.2.1
  have z4 := f2.2.1
  have z5 := f2.2.2.1
  have := ht.2
  refine ⟨⟨ad', cp_fr h1 (fun c hc => f2.1 c (by unfold mxR; omega)) (by omega)⟩, h2, ht.1, by omega, by omega, by omega, by omega, by rw [f2.2.2.2]; exact m2, fun k => ?_⟩
  rw [(f2.1 b (by unfold mxR; omega)).1]; exact m3 k
end FR
