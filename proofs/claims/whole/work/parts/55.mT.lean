-- THE REFERENCE: a thing comes to a holder, or to nowhere
section MT
variable {N : Nat} {K : Option am_V → am_M → Prop}
-- only some ints differ
def me (P : Nat → Nat → Prop) (M M' : am_M) : Prop := am_sz M' = am_sz M ∧ am_sl M' = am_sl M ∧ am_L M' = am_L M ∧ (∀ b j, am_mr M' b j = am_mr M b j) ∧ ∀ b j, ¬ P b j → am_mi M' b j = am_mi M b j
theorem me_rf {P : Nat → Nat → Prop} (M : am_M) : me P M M := ⟨rfl, rfl, rfl, fun _ _ => rfl, fun _ _ _ => rfl⟩
theorem me_tr {P : Nat → Nat → Prop} {M1 M2 M3 : am_M} (h1 : me P M1 M2) (h2 : me P M2 M3) : me P M1 M3 := ⟨h2.1.trans h1.1, h2.2.1.trans h1.2.1, h2.2.2.1.trans h1.2.2.1, fun b j => (h2.2.2.2.1 b j).trans (h1.2.2.2.1 b j), fun b j q => (h2.2.2.2.2 b j q).trans (h1.2.2.2.2 b j q)⟩
theorem me_to {P P' : Nat → Nat → Prop} {M M' : am_M} (h : me P M M') (hp : ∀ b j, P b j → P' b j) : me P' M M' := ⟨h.1, h.2.1, h.2.2.1, h.2.2.2.1, fun b j q => h.2.2.2.2 b j (fun z => q (hp b j z))⟩
theorem me_si {P : Nat → Nat → Prop} {M : am_M} {a k : Nat} {x : Int32} (h : P a k) : me P M (am_si M a k x) := ⟨rfl, rfl, rfl, fun _ _ => rfl, fun b j q => by
  rw [am_mi_si, if_neg (fun z => q (by rw [z.1, z.2]; exact h))]⟩
theorem me_fx {P : Nat → Nat → Prop} {R : Nat → Prop} {M M' : am_M} (h : me P M M') (hp : ∀ b j, P b j → R b) : fx_f R M M' := ⟨fun b hb => ⟨fun j => h.2.2.2.2 b j (fun z => hb (hp b j z)), fun j => h.2.2.2.1 b j⟩, h.1, h.2.1, h.2.2.1⟩
theorem me_s {P : Nat → Nat → Prop} {M M' : am_M} (h : me P M M') (hp : mp_s N M) : mp_s N M' := by
  unfold mp_s at hp ⊢
  simp only [h.2.2.2.1]
  exact hp
-- what stands behind moves down
theorem mM_close_l {k c z : Nat} (hz : z ≤ 20) : ∀ (r i : Nat) (M : am_M), mp_s N M → am_mi M N 4 = nI z → k + c + i + r = z → (∀ M', me (fun b _ => b = N + 1 ∨ b = N + 2) M M' → (∀ a, a = 1 ∨ a = 2 → ∀ j, am_mi M' (N + a) j = if k + i ≤ j ∧ j + c < z then am_mi M (N + a) (j + c) else am_mi M (N + a) j) → K none (am_si M' N 4 (nI (z - c)))) → am_wp yM_close 4 [.inr (.inl (4, some N)), .inl (nI k), .inl (nI c), .inl (nI (k + c + i))] [] M K := by
  intro r
  induction r with
  | zero =>
    intro i M hp h4 he hK
    rw [wM_close_4]
    simp only [wM_close_0, wM_close_1, wM_close_2, wM_close_3, wM_close_5, wM_close_6, wM_close_9, wM_close_12, wM_close_13, wM_close_16, wM_close_17, wM_close_18, wM_close_19, wM_close_20, wM_close_23, wM_close_26, wM_close_27, wM_close_30, wM_close_31, wM_close_32, wM_close_33, wM_close_34, wM_close_37, wM_close_40, wM_close_43, wM_close_46, wM_close_47, wM_close_48, wM_close_51, wM_close_52, wM_close_53, wM_close_56, h4, nI_nlt (show z ≤ k + c + i by omega) (by omega), if_false, pk_sub (show c ≤ z by omega)]
    exact hK M (me_rf M) (fun a _ j => by rw [if_neg (by omega)])
  | succ r ih =>
    intro i M hp h4 he hK
    have e : nI (k + c + i) - nI c = nI (k + i) := by rw [pk_sub (by omega)]; congr 1; omega
    rw [wM_close_4]
    simp only [wM_close_0, wM_close_1, wM_close_2, wM_close_3, wM_close_5, wM_close_6, wM_close_9, wM_close_12, wM_close_13, wM_close_16, wM_close_17, wM_close_18, wM_close_19, wM_close_20, wM_close_23, wM_close_26, wM_close_27, wM_close_30, wM_close_31, wM_close_32, wM_close_33, wM_close_34, wM_close_37, wM_close_40, wM_close_43, wM_close_46, wM_close_47, wM_close_48, wM_close_51, wM_close_52, wM_close_53, wM_close_56, h4, nI_lt (show k + c + i < z by omega) (by omega), if_true, hp.1, hp.2.1, am_mr_si, wM_close_24 (am_ok_nI (show k + c + i < 20 by omega) (by decide)), e, wM_close_25 (am_ok_nI (show k + i < 20 by omega) (by decide)), wM_close_38 (am_ok_nI (show k + c + i < 20 by omega) (by decide)), wM_close_39 (am_ok_nI (show k + i < 20 by omega) (by decide)), nI_clamp (show k + c + i < 2 ^ 31 by omega), nI_clamp (show k + i < 2 ^ 31 by omega), nI_1]
    have e2 : k + c + i + 1 = k + c + (i + 1) := rfl
    rw [e2]
    refine ih (i + 1) _ (me_s (P := fun _ _ => True) (me_tr (me_si trivial) (me_si trivial)) hp) ?_ (by omega) ?_
    · rw [am_mi_si, if_neg (by omega), am_mi_si, if_neg (by omega)]; exact h4
    · intro M' hM h1
      refine hK M' (me_tr (me_tr (me_si (Or.inl rfl)) (me_si (Or.inr rfl))) hM) (fun a ha j => ?_)
      rw [h1 a ha j]
      simp only [am_mi_si]
      rcases ha with rfl | rfl
      · by_cases c1 : k + (i + 1) ≤ j ∧ j + c < z
        · rw [if_pos c1, if_neg (by omega), if_neg (by omega), if_pos (by omega)]
        · rw [if_neg c1, if_neg (by omega)]
          by_cases c2 : j = k + i
          · rw [if_pos (by first | exact ⟨rfl, c2⟩ | exact ⟨trivial, c2⟩), if_pos (by omega), c2, show k + i + c = k + c + i by omega]
          · rw [if_neg (by omega), if_neg (by omega)]
      · by_cases c1 : k + (i + 1) ≤ j ∧ j + c < z
        · rw [if_pos c1, if_neg (by omega), if_neg (by omega), if_pos (by omega)]
        · rw [if_neg c1]
          by_cases c2 : j = k + i
          · rw [if_pos (by first | exact ⟨rfl, c2⟩ | exact ⟨trivial, c2⟩), if_neg (by omega), if_pos (by omega), c2, show k + i + c = k + c + i by omega]
          · rw [if_neg (by omega), if_neg (by omega), if_neg (by omega)]
theorem ml_app {L : fo_L} {M : am_M} (h : ml N L M) {P R Q : fo_L} (hL : L = P ++ (R ++ Q)) : (∀ j q, P[j]? = some q → am_mi M (N + 1) j = nI q.1 ∧ am_mi M (N + 2) j = nI q.2) ∧ (∀ j q, R[j]? = some q → am_mi M (N + 1) (P.length + j) = nI q.1 ∧ am_mi M (N + 2) (P.length + j) = nI q.2) ∧ (∀ j q, Q[j]? = some q → am_mi M (N + 1) (P.length + R.length + j) = nI q.1 ∧ am_mi M (N + 2) (P.length + R.length + j) = nI q.2) := by
  refine ⟨fun j q hj => h.2.2 j q ?_, fun j q hj => h.2.2 _ q ?_, fun j q hj => h.2.2 _ q ?_⟩
  · rw [hL, List.getElem?_append_left (ml_lt hj)]; exact hj
  · rw [hL, List.getElem?_append_right (by omega), show P.length + j - P.length = j by omega, List.getElem?_append_left (ml_lt hj)]; exact hj
  · rw [hL, List.getElem?_append_right (by omega), List.getElem?_append_right (by omega), show P.length + R.length + j - P.length - R.length = j by omega]; exact hj
theorem ml_of3 {M : am_M} {P R Q : fo_L} (hp : mp_s N M) (h4 : am_mi M N 4 = nI (P.length + R.length + Q.length)) (h1 : ∀ j q, P[j]? = some q → am_mi M (N + 1) j = nI q.1 ∧ am_mi M (N + 2) j = nI q.2) (h2 : ∀ j q, R[j]? = some q → am_mi M (N + 1) (P.length + j) = nI q.1 ∧ am_mi M (N + 2) (P.length + j) = nI q.2) (h3 : ∀ j q, Q[j]? = some q → am_mi M (N + 1) (P.length + R.length + j) = nI q.1 ∧ am_mi M (N + 2) (P.length + R.length + j) = nI q.2) : ml N (P ++ (R ++ Q)) M := by
  refine ⟨hp, ?_, fun j q hj => ?_⟩
  · rw [h4]; congr 1; simp; omega
  · rcases Nat.lt_or_ge j P.length with c | c
    · rw [List.getElem?_append_left c] at hj; exact h1 j q hj
    · rw [List.getElem?_append_right c] at hj
      rcases Nat.lt_or_ge (j - P.length) R.length with c2 | c2
      · rw [List.getElem?_append_left c2] at hj
        have := h2 _ q hj
        rw [show P.length + (j - P.length) = j by omega] at this
        exact this
      · rw [List.getElem?_append_right c2] at hj
        have := h3 _ q hj
        rw [show P.length + R.length + (j - P.length - R.length) = j by omega] at this
        exact this
theorem mM_close {M : am_M} {A T B : fo_L} (h : ml N (A ++ (T ++ B)) M) (h20 : (A ++ (T ++ B)).length ≤ 20) (hK : ∀ M', me (fun b j => b = N + 1 ∨ b = N + 2 ∨ (b = N ∧ j = 4)) M M' → ml N (A ++ B) M' → K none M') : am_wp yM_close 0 [.inr (.inl (4, some N)), .inl (nI A.length), .inl (nI T.length), am_u] [] M K := by
  have el : (A ++ (T ++ B)).length = A.length + T.length + B.length := by simp; omega
  rw [el] at h20
  simp only [wM_close_0, wM_close_1, wM_close_2, wM_close_3, wM_close_5, wM_close_6, wM_close_9, wM_close_12, wM_close_13, wM_close_16, wM_close_17, wM_close_18, wM_close_19, wM_close_20, wM_close_23, wM_close_26, wM_close_27, wM_close_30, wM_close_31, wM_close_32, wM_close_33, wM_close_34, wM_close_37, wM_close_40, wM_close_43, wM_close_46, wM_close_47, wM_close_48, wM_close_51, wM_close_52, wM_close_53, wM_close_56, nI_add]
  refine mM_close_l (z := A.length + T.length + B.length) h20 B.length 0 M h.1 (by rw [h.2.1, el]) (by omega) ?_
  intro M' hM h1
  have hMe : me (fun b j => b = N + 1 ∨ b = N + 2 ∨ (b = N ∧ j = 4)) M (am_si M' N 4 (nI (A.length + T.length + B.length - T.length))) := me_tr (me_to hM (fun b j q => by omega)) (me_si (by omega))
  refine hK _ hMe ?_
  obtain ⟨hA, hT, hB⟩ := ml_app h rfl
  have g := ml_of3 (N := N) (M := am_si M' N 4 (nI (A.length + T.length + B.length - T.length))) (P := A) (R := []) (Q := B) (me_s hMe h.1) ?_ ?_ (fun j q hj => by cases hj) ?_
  · exact g
  · rw [am_mi_si, if_pos ⟨rfl, rfl⟩]; congr 1; simp; omega
  · intro j q hj
    have hl := ml_lt hj
    rw [am_mi_si, if_neg (by omega), am_mi_si, if_neg (by omega), h1 1 (Or.inl rfl), h1 2 (Or.inr rfl), if_neg (by omega), if_neg (by omega)]
    exact hA j q hj
  · intro j q hj
    have hl := ml_lt hj
    simp only [List.length_nil, Nat.add_zero]
    rw [am_mi_si, if_neg (by omega), am_mi_si, if_neg (by omega), h1 1 (Or.inl rfl), h1 2 (Or.inr rfl), if_pos (by omega), if_pos (by omega), show A.length + j + T.length = A.length + T.length + j by omega]
    exact hB j q hj
-- what goes is kept aside
theorem mM_cut_l {k c d : Nat} (hk : k + c ≤ 20) (l1 l2 l3 l4 l9 l10 : am_V) : ∀ (r i : Nat) (M : am_M), mp_s N M → i + r = c → (∀ M', me (fun b _ => b = N + 13 ∨ b = N + 14) M M' → (∀ j, am_mi M' (N + 13) j = if i ≤ j ∧ j < c then am_mi M (N + 1) (k + j) else am_mi M (N + 13) j) → (∀ j, am_mi M' (N + 14) j = if i ≤ j ∧ j < c then am_mi M (N + 2) (k + j) - nI d else am_mi M (N + 14) j) → am_wp yM_come 151 [.inr (.inl (4, some N)), l1, l2, l3, l4, .inl (nI k), .inl (nI c), .inl (nI d), .inl (nI c), l9, l10] [] M' K) → am_wp yM_come 101 [.inr (.inl (4, some N)), l1, l2, l3, l4, .inl (nI k), .inl (nI c), .inl (nI d), .inl (nI i), l9, l10] [] M K := by
  intro r
  induction r with
  | zero =>
    intro i M hp he hK
    have ei : i = c := by omega
    subst ei
    rw [wM_come_101]
    simp only [wM_come_103, wM_come_105, nI_nlt (show i ≤ i by omega) (by omega), if_false]
    exact hK M (me_rf M) (fun j => by rw [if_neg (by omega)]) (fun j => by rw [if_neg (by omega)])
  | succ r ih =>
    intro i M hp he hK
    rw [wM_come_101]
    simp only [wM_come_103, wM_come_105, nI_lt (show i < c by omega) (by omega), if_true, wM_come_108, wM_come_109, wM_come_112, wM_come_114, wM_come_115, wM_come_118, wM_come_120, wM_come_122, wM_come_125, wM_come_126, wM_come_129, wM_come_131, wM_come_132, wM_come_135, wM_come_137, wM_come_139, wM_come_141, wM_come_143, wM_come_145, wM_come_148, hp.1, hp.2.1, hp.2.2.2.2.2.2.2.2.2.2.2.2.1, hp.2.2.2.2.2.2.2.2.2.2.2.2.2.1, am_mr_si, nI_add, wM_come_123 (am_ok_nI (show k + i < 20 by omega) (by decide)), wM_come_124 (am_ok_nI (show i < 20 by omega) (by decide)), wM_come_140 (am_ok_nI (show k + i < 20 by omega) (by decide)), wM_come_144 (am_ok_nI (show i < 20 by omega) (by decide)), nI_clamp (show k + i < 2 ^ 31 by omega), nI_clamp (show i < 2 ^ 31 by omega), nI_1]
    refine ih (i + 1) _ (me_s (P := fun _ _ => True) (me_tr (me_si trivial) (me_si trivial)) hp) (by omega) ?_
    intro M' hM h1 h2
    refine hK M' (me_tr (me_tr (me_si (Or.inl rfl)) (me_si (Or.inr rfl))) hM) (fun j => ?_) (fun j => ?_)
    · rw [h1 j]
      simp only [am_mi_si]
      by_cases c1 : i + 1 ≤ j ∧ j < c
      · rw [if_pos c1, if_neg (by omega), if_neg (by omega), if_pos (by omega)]
      · rw [if_neg c1, if_neg (by omega)]
        by_cases c2 : j = i
        · rw [if_pos (by first | exact ⟨rfl, c2⟩ | exact ⟨trivial, c2⟩), if_pos (by omega), c2]
        · rw [if_neg (by omega), if_neg (by omega)]
    · rw [h2 j]
      simp only [am_mi_si]
      by_cases c1 : i + 1 ≤ j ∧ j < c
      · rw [if_pos c1, if_neg (by omega), if_neg (by omega), if_pos (by omega)]
      · rw [if_neg c1]
        by_cases c2 : j = i
        · rw [if_pos (by first | exact ⟨rfl, c2⟩ | exact ⟨trivial, c2⟩), if_neg (by omega), if_pos (by omega), c2]
        · rw [if_neg (by omega), if_neg (by omega), if_neg (by omega)]
-- room is made
theorem nI_bl (g : Nat) (hg : g < 2 ^ 31) : nI g - 1 < nI g := by
  cases g with
  | zero => decide
  | succ g => rw [nI_pred]; exact nI_lt (by omega) hg
theorem mM_shr_l {c g : Nat} (l1 l2 l3 l4 l5 l7 l9 : am_V) : ∀ (r : Nat) (M : am_M), mp_s N M → g + r + c ≤ 20 → (∀ M', me (fun b _ => b = N + 1 ∨ b = N + 2) M M' → (∀ a, a = 1 ∨ a = 2 → ∀ j, am_mi M' (N + a) j = if g + c ≤ j ∧ j < g + r + c then am_mi M (N + a) (j - c) else am_mi M (N + a) j) → am_wp yM_come 253 [.inr (.inl (4, some N)), l1, l2, l3, l4, l5, .inl (nI c), l7, .inl (nI g), l9, .inl (nI g - 1)] [] M' K) → am_wp yM_come 206 [.inr (.inl (4, some N)), l1, l2, l3, l4, l5, .inl (nI c), l7, .inl (nI g), l9, .inl (nI (g + r) - 1)] [] M K := by
  intro r
  induction r with
  | zero =>
    intro M hp he hK
    rw [wM_come_206]
    simp only [Nat.add_zero, wM_come_208, wM_come_210, nI_bl g (by omega), if_true]
    exact hK M (me_rf M) (fun a _ j => by rw [if_neg (by omega)])
  | succ r ih =>
    intro M hp he hK
    rw [show g + (r + 1) = (g + r) + 1 by omega, nI_pred, wM_come_206]
    simp only [wM_come_208, wM_come_210, nI_nlt (show g ≤ g + r by omega) (by omega), if_false, wM_come_213, wM_come_214, wM_come_217, wM_come_219, wM_come_221, wM_come_222, wM_come_223, wM_come_226, wM_come_230, wM_come_231, wM_come_234, wM_come_236, wM_come_238, wM_come_239, wM_come_240, wM_come_243, wM_come_247, wM_come_250, hp.1, hp.2.1, am_mr_si, nI_add, wM_come_228 (am_ok_nI (show g + r < 20 by omega) (by decide)), wM_come_229 (am_ok_nI (show g + r + c < 20 by omega) (by decide)), wM_come_245 (am_ok_nI (show g + r < 20 by omega) (by decide)), wM_come_246 (am_ok_nI (show g + r + c < 20 by omega) (by decide)), nI_clamp (show g + r < 2 ^ 31 by omega), nI_clamp (show g + r + c < 2 ^ 31 by omega)]
    rw [← Int32.sub_eq_add_neg]
    refine ih _ (me_s (P := fun _ _ => True) (me_tr (me_si trivial) (me_si trivial)) hp) (by omega) ?_
    intro M' hM h1
    refine hK M' (me_tr (me_tr (me_si (Or.inl rfl)) (me_si (Or.inr rfl))) hM) (fun a ha j => ?_)
    rw [h1 a ha j]
    simp only [am_mi_si]
    rcases ha with rfl | rfl
    · by_cases c1 : g + c ≤ j ∧ j < g + r + c
      · rw [if_pos c1, if_neg (by omega), if_neg (by omega), if_pos (by omega)]
      · rw [if_neg c1, if_neg (by omega)]
        by_cases c2 : j = g + r + c
        · rw [if_pos (by first | exact ⟨rfl, c2⟩ | exact ⟨trivial, c2⟩), if_pos (by omega), show j - c = g + r by omega]
        · rw [if_neg (by omega), if_neg (by omega)]
    · by_cases c1 : g + c ≤ j ∧ j < g + r + c
      · rw [if_pos c1, if_neg (by omega), if_neg (by omega), if_pos (by omega)]
      · rw [if_neg c1]
        by_cases c2 : j = g + r + c
        · rw [if_pos (by first | exact ⟨rfl, c2⟩ | exact ⟨trivial, c2⟩), if_neg (by omega), if_pos (by omega), show j - c = g + r by omega]
        · rw [if_neg (by omega), if_neg (by omega), if_neg (by omega)]
-- what was kept aside is put there
theorem mM_in_l {c g e : Nat} (hg : g + c ≤ 20) (l1 l2 l3 l4 l5 l7 : am_V) : ∀ (r i : Nat) (M : am_M), mp_s N M → i + r = c → (∀ M', me (fun b _ => b = N + 1 ∨ b = N + 2) M M' → (∀ j, am_mi M' (N + 1) j = if g + i ≤ j ∧ j < g + c then am_mi M (N + 13) (j - g) else am_mi M (N + 1) j) → (∀ j, am_mi M' (N + 2) j = if g + i ≤ j ∧ j < g + c then am_mi M (N + 14) (j - g) + nI e else am_mi M (N + 2) j) → am_wp yM_come 306 [.inr (.inl (4, some N)), l1, l2, l3, l4, l5, .inl (nI c), l7, .inl (nI g), .inl (nI e), .inl (nI c)] [] M' K) → am_wp yM_come 256 [.inr (.inl (4, some N)), l1, l2, l3, l4, l5, .inl (nI c), l7, .inl (nI g), .inl (nI e), .inl (nI i)] [] M K := by
  intro r
  induction r with
  | zero =>
    intro i M hp he hK
    have ei : i = c := by omega
    subst ei
    rw [wM_come_256]
    simp only [wM_come_258, wM_come_260, nI_nlt (show i ≤ i by omega) (by omega), if_false]
    exact hK M (me_rf M) (fun j => by rw [if_neg (by omega)]) (fun j => by rw [if_neg (by omega)])
  | succ r ih =>
    intro i M hp he hK
    rw [wM_come_256]
    simp only [wM_come_258, wM_come_260, nI_lt (show i < c by omega) (by omega), if_true, wM_come_263, wM_come_264, wM_come_267, wM_come_269, wM_come_271, wM_come_272, wM_come_273, wM_come_276, wM_come_280, wM_come_281, wM_come_284, wM_come_286, wM_come_288, wM_come_289, wM_come_290, wM_come_293, wM_come_296, wM_come_298, wM_come_300, wM_come_303, hp.1, hp.2.1, hp.2.2.2.2.2.2.2.2.2.2.2.2.1, hp.2.2.2.2.2.2.2.2.2.2.2.2.2.1, am_mr_si, nI_add, wM_come_278 (am_ok_nI (show i < 20 by omega) (by decide)), wM_come_279 (am_ok_nI (show g + i < 20 by omega) (by decide)), wM_come_295 (am_ok_nI (show i < 20 by omega) (by decide)), wM_come_299 (am_ok_nI (show g + i < 20 by omega) (by decide)), nI_clamp (show g + i < 2 ^ 31 by omega), nI_clamp (show i < 2 ^ 31 by omega), nI_1]
    refine ih (i + 1) _ (me_s (P := fun _ _ => True) (me_tr (me_si trivial) (me_si trivial)) hp) (by omega) ?_
    intro M' hM h1 h2
    refine hK M' (me_tr (me_tr (me_si (Or.inl rfl)) (me_si (Or.inr rfl))) hM) (fun j => ?_) (fun j => ?_)
    · rw [h1 j]
      simp only [am_mi_si]
      by_cases c1 : g + (i + 1) ≤ j ∧ j < g + c
      · rw [if_pos c1, if_neg (by omega), if_neg (by omega), if_pos (by omega)]
      · rw [if_neg c1, if_neg (by omega)]
        by_cases c2 : j = g + i
        · rw [if_pos (by first | exact ⟨rfl, c2⟩ | exact ⟨trivial, c2⟩), if_pos (by omega), show j - g = i by omega]
        · rw [if_neg (by omega), if_neg (by omega)]
    · rw [h2 j]
      simp only [am_mi_si]
      by_cases c1 : g + (i + 1) ≤ j ∧ j < g + c
      · rw [if_pos c1, if_neg (by omega), if_neg (by omega), if_pos (by omega)]
      · rw [if_neg c1]
        by_cases c2 : j = g + i
        · rw [if_pos (by first | exact ⟨rfl, c2⟩ | exact ⟨trivial, c2⟩), if_neg (by omega), if_pos (by omega), show j - g = i by omega]
        · rw [if_neg (by omega), if_neg (by omega), if_neg (by omega)]
end MT
