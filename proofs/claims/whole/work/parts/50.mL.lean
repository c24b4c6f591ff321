-- THE REFERENCE: its picture, its row of things
section ML
def mp_s (N : Nat) (M : am_M) : Prop := am_mr M N 2 = some (N + 1) ∧ am_mr M N 3 = some (N + 2) ∧ am_mr M N 5 = some (N + 3) ∧ am_mr M N 6 = some (N + 4) ∧ am_mr M N 7 = some (N + 5) ∧ am_mr M N 8 = some (N + 6) ∧ am_mr M N 9 = some (N + 7) ∧ am_mr M N 10 = some (N + 8) ∧ am_mr M N 11 = some (N + 9) ∧ am_mr M N 12 = some (N + 10) ∧ am_mr M N 13 = some (N + 11) ∧ am_mr M N 14 = some (N + 12) ∧ am_mr M N 16 = some (N + 13) ∧ am_mr M N 17 = some (N + 14) ∧ am_mr M N 18 = some (N + 15)
def ml (N : Nat) (L : fo_L) (M : am_M) : Prop := mp_s N M ∧ am_mi M N 4 = nI L.length ∧ ∀ j q, L[j]? = some q → am_mi M (N + 1) j = nI q.1 ∧ am_mi M (N + 2) j = nI q.2
def ml_ok (L : fo_L) : Prop := fo_ok L ∧ L.length ≤ 20 ∧ ∀ q ∈ L, q.1 < 20 ∧ q.2 < 20
theorem nI_dn (k : Nat) : nI (k + 1) + (-1) = nI k := by rw [← Int32.sub_eq_add_neg, nI_pred]
theorem fo_v_ix {L : fo_L} : ∀ {p : Nat}, fo_v p L → ∀ j q, L[j]? = some q → q.2 ≤ p + j := by
  induction L with
  | nil => intro p _ j q h; cases h
  | cons a L ih =>
    intro p h j q hj
    cases j with
    | zero => simp at hj; subst hj; exact Nat.le_trans h.1 (by omega)
    | succ j =>
      have := ih h.2 j q (by simpa using hj)
      have := h.1
      omega
theorem ml_ok_of {s : ts_S} (hs : ts_ok s) : ml_ok (ts_L s) := by
  have hlen : (ts_L s).length ≤ 20 := by
    have h1 := fo_len hs.1 (fun n hn => hs.2.1 n hn)
    exact Nat.le_trans h1 hs.2.2.1
  refine ⟨hs.1, hlen, fun q hq => ⟨Nat.lt_of_lt_of_le (hs.2.1 q.1 (List.mem_map_of_mem hq)) hs.2.2.1, ?_⟩⟩
  obtain ⟨j, hj⟩ := List.mem_iff_getElem?.mp hq
  have h2 := fo_v_ix hs.1.2 j q hj
  have h3 : j < (ts_L s).length := by
    rcases Nat.lt_or_ge j (ts_L s).length with z | z
    · exact z
    · rw [List.getElem?_eq_none z] at hj; cases hj
  omega
theorem fo_ix {L : fo_L} (hok : fo_ok L) {i j : Nat} {n d e : Nat} (hi : L[i]? = some (n, d)) (hj : L[j]? = some (n, e)) : i = j := by
  have h1 : (L.map (·.1))[i]? = (L.map (·.1))[j]? := by rw [List.getElem?_map, List.getElem?_map, hi, hj]; rfl
  have hlt : i < (L.map (·.1)).length := by
    rw [List.length_map]
    rcases Nat.lt_or_ge i L.length with z | z
    · exact z
    · rw [List.getElem?_eq_none z] at hi; cases hi
  exact (List.getElem?_inj hlt hok.1).mp h1
variable {N : Nat} {L : fo_L} {M : am_M} {K : Option am_V → am_M → Prop}
theorem ml_lt {i : Nat} {q : Nat × Nat} (h : L[i]? = some q) : i < L.length := by
  rcases Nat.lt_or_ge i L.length with z | z
  · exact z
  · rw [List.getElem?_eq_none z] at h; cases h
theorem ml_mem {i : Nat} {q : Nat × Nat} (h : L[i]? = some q) : q ∈ L := List.mem_of_getElem? h
theorem ml_ex {i : Nat} (h : i < L.length) : ∃ q, L[i]? = some q := ⟨L[i], List.getElem?_eq_getElem h⟩
-- where a thing stands
theorem mM_at_no (h : ml N L M) (ho : ml_ok L) {v : Int32} (hv : ∀ q ∈ L, ¬ nI q.1 = v) : ∀ k, k ≤ L.length → am_wp yM_at 7 [.inr (.inl (4, some N)), .inl v, .inl (nI k - 1)] [] M K = K (some (.inl (-1))) M := by
  intro k
  induction k with
  | zero =>
    intro _
    rw [show nI 0 - 1 = -1 by decide, wM_at_7]
    simp only [wM_at_0, wM_at_1, wM_at_4, wM_at_5, wM_at_6, wM_at_8, wM_at_11, wM_at_12, wM_at_15, wM_at_17, wM_at_18, wM_at_21, wM_at_24, wM_at_27, wM_at_28, show (-1 : Int32) < 0 by decide, if_true]
  | succ k ih =>
    intro hk
    obtain ⟨q, hq⟩ := ml_ex (L := L) (i := k) (by omega)
    have h20 := ho.2.1
    rw [nI_pred, wM_at_7]
    simp only [wM_at_0, wM_at_1, wM_at_4, wM_at_5, wM_at_6, wM_at_8, wM_at_11, wM_at_12, wM_at_15, wM_at_17, wM_at_18, wM_at_21, wM_at_24, wM_at_27, wM_at_28, nI_pos (show k < 2 ^ 31 by omega), if_false, h.1.1, wM_at_16 (am_ok_nI (show k < 20 by omega) (by decide)), nI_clamp (show k < 2 ^ 31 by omega), (h.2.2 k q hq).1, hv q (ml_mem hq)]
    rw [← Int32.sub_eq_add_neg]
    exact ih (by omega)
theorem mM_at_ys (h : ml N L M) (ho : ml_ok L) {i n d : Nat} (hi : L[i]? = some (n, d)) : ∀ k, i ≤ k → k < L.length → am_wp yM_at 7 [.inr (.inl (4, some N)), .inl (nI n), .inl (nI k)] [] M K = K (some (.inl (nI i))) M := by
  intro k
  induction k with
  | zero =>
    intro hik hk
    have e : i = 0 := by omega
    subst e
    rw [wM_at_7]
    simp only [wM_at_0, wM_at_1, wM_at_4, wM_at_5, wM_at_6, wM_at_8, wM_at_11, wM_at_12, wM_at_15, wM_at_17, wM_at_18, wM_at_21, wM_at_24, wM_at_27, wM_at_28, nI_pos (show 0 < 2 ^ 31 by omega), if_false, h.1.1, wM_at_16 (am_ok_nI (show 0 < 20 by omega) (by decide)), nI_clamp (show 0 < 2 ^ 31 by omega), (h.2.2 0 _ hi).1, if_true]
  | succ k ih =>
    intro hik hk
    have h20 := ho.2.1
    obtain ⟨q, hq⟩ := ml_ex (L := L) (i := k + 1) hk
    rw [wM_at_7]
    simp only [wM_at_0, wM_at_1, wM_at_4, wM_at_5, wM_at_6, wM_at_8, wM_at_11, wM_at_12, wM_at_15, wM_at_17, wM_at_18, wM_at_21, wM_at_24, wM_at_27, wM_at_28, nI_pos (show k + 1 < 2 ^ 31 by omega), if_false, h.1.1, wM_at_16 (am_ok_nI (show k + 1 < 20 by omega) (by decide)), nI_clamp (show k + 1 < 2 ^ 31 by omega), (h.2.2 _ q hq).1]
    by_cases e : i = k + 1
    · rw [← e, hi] at hq
      cases hq
      simp [e]
    · have hne : ¬ nI q.1 = nI n := fun z => by
        have h1 := (ho.2.2 q (ml_mem hq)).1
        have h2 := (ho.2.2 _ (ml_mem hi)).1
        have z2 := (nI_eq (by omega) (by omega)).mp z
        have hq' : L[k + 1]? = some (n, q.2) := by rw [hq, ← z2]
        exact e (fo_ix ho.1 hi hq')
      simp only [hne, if_false, wM_at_0, wM_at_1, wM_at_4, wM_at_5, wM_at_6, wM_at_8, wM_at_11, wM_at_12, wM_at_15, wM_at_17, wM_at_18, wM_at_21, wM_at_24, wM_at_27, wM_at_28, nI_dn]
      exact ih (by omega) (by omega)
theorem mM_at (h : ml N L M) (ho : ml_ok L) {i n d : Nat} (hi : L[i]? = some (n, d)) : am_wp yM_at 0 [.inr (.inl (4, some N)), .inl (nI n), am_u] [] M K = K (some (.inl (nI i))) M := by
  have hlt := ml_lt hi
  have e : nI L.length - 1 = nI (L.length - 1) := by
    rw [show L.length = (L.length - 1) + 1 by omega, nI_pred]; simp
  simp only [wM_at_0, wM_at_1, wM_at_4, wM_at_5, wM_at_6, wM_at_8, wM_at_11, wM_at_12, wM_at_15, wM_at_17, wM_at_18, wM_at_21, wM_at_24, wM_at_27, wM_at_28, h.2.1, e]
  exact mM_at_ys h ho hi (L.length - 1) (by omega) (by omega)
theorem mM_atn (h : ml N L M) (ho : ml_ok L) {v : Int32} (hv : ∀ q ∈ L, ¬ nI q.1 = v) : am_wp yM_at 0 [.inr (.inl (4, some N)), .inl v, am_u] [] M K = K (some (.inl (-1))) M := by
  simp only [wM_at_0, wM_at_1, wM_at_4, wM_at_5, wM_at_6, wM_at_8, wM_at_11, wM_at_12, wM_at_15, wM_at_17, wM_at_18, wM_at_21, wM_at_24, wM_at_27, wM_at_28, h.2.1]
  exact mM_at_no h ho hv L.length (Nat.le_refl _)
-- where what is under a thing ends
theorem mM_end_l (h : ml N L M) (ho : ml_ok L) {A : fo_L} {n d : Nat} : ∀ (r2 r1 : fo_L), L = A ++ (n, d) :: (r1 ++ r2) → am_wp yM_endOf 4 [.inr (.inl (4, some N)), .inl (nI A.length), .inl (nI (A.length + 1 + r1.length))] [] M K = K (some (.inl (nI (A.length + 1 + r1.length + (fo_sg d r2).length)))) M := by
  have h20 := ho.2.1
  intro r2
  induction r2 with
  | nil =>
    intro r1 hL
    have e : L.length = A.length + 1 + r1.length := by rw [hL]; simp; omega
    rw [wM_endOf_4]
    simp only [wM_endOf_0, wM_endOf_1, wM_endOf_2, wM_endOf_3, wM_endOf_5, wM_endOf_6, wM_endOf_9, wM_endOf_12, wM_endOf_13, wM_endOf_16, wM_endOf_18, wM_endOf_19, wM_endOf_22, wM_endOf_24, wM_endOf_27, wM_endOf_30, wM_endOf_33, wM_endOf_34, h.2.1, e, nI_nlt (Nat.le_refl (A.length + 1 + r1.length)) (by omega), if_false, fo_sg, List.length_nil, Nat.add_zero]
  | cons q r2 ih =>
    intro r1 hL
    have e : L.length = A.length + 1 + r1.length + (r2.length + 1) := by rw [hL]; simp; omega
    have hq : L[A.length + 1 + r1.length]? = some q := by
      rw [hL, show A ++ (n, d) :: (r1 ++ q :: r2) = (A ++ (n, d) :: r1) ++ q :: r2 by simp, List.getElem?_append_right (by simp; omega)]
      simp [show A.length + 1 + r1.length - (A.length + (r1.length + 1)) = 0 by omega]
    have hn : L[A.length]? = some (n, d) := by rw [hL]; simp
    have hq2 := (ho.2.2 q (ml_mem hq)).2
    have hd2 := (ho.2.2 _ (ml_mem hn)).2
    rw [wM_endOf_4]
    simp only [wM_endOf_0, wM_endOf_1, wM_endOf_2, wM_endOf_3, wM_endOf_5, wM_endOf_6, wM_endOf_9, wM_endOf_12, wM_endOf_13, wM_endOf_16, wM_endOf_18, wM_endOf_19, wM_endOf_22, wM_endOf_24, wM_endOf_27, wM_endOf_30, wM_endOf_33, wM_endOf_34, h.2.1, nI_lt (show A.length + 1 + r1.length < L.length by omega) (show L.length < 2 ^ 31 by omega), if_true, h.1.2.1, wM_endOf_17 (am_ok_nI (show A.length + 1 + r1.length < 20 by omega) (by decide)), wM_endOf_23 (am_ok_nI (show A.length < 20 by omega) (by decide)), nI_clamp (show A.length + 1 + r1.length < 2 ^ 31 by omega), nI_clamp (show A.length < 2 ^ 31 by omega), (h.2.2 _ q hq).2, (h.2.2 _ _ hn).2, nI_ltI (show d < 2 ^ 31 by simp at hd2; omega) (show q.2 < 2 ^ 31 by omega)]
    unfold fo_sg
    by_cases c : d < q.2
    · simp only [c, if_true, wM_endOf_0, wM_endOf_1, wM_endOf_2, wM_endOf_3, wM_endOf_5, wM_endOf_6, wM_endOf_9, wM_endOf_12, wM_endOf_13, wM_endOf_16, wM_endOf_18, wM_endOf_19, wM_endOf_22, wM_endOf_24, wM_endOf_27, wM_endOf_30, wM_endOf_33, wM_endOf_34, nI_1]
      have := ih (r1 ++ [q]) (by rw [hL]; simp)
      rw [List.length_append, List.length_singleton] at this
      rw [show A.length + 1 + r1.length + 1 = A.length + 1 + (r1.length + 1) by omega, this, List.length_cons]
      rw [show A.length + 1 + (r1.length + 1) + (fo_sg d r2).length = A.length + 1 + r1.length + ((fo_sg d r2).length + 1) by omega]
    · simp only [c, if_false, wM_endOf_0, wM_endOf_1, wM_endOf_2, wM_endOf_3, wM_endOf_5, wM_endOf_6, wM_endOf_9, wM_endOf_12, wM_endOf_13, wM_endOf_16, wM_endOf_18, wM_endOf_19, wM_endOf_22, wM_endOf_24, wM_endOf_27, wM_endOf_30, wM_endOf_33, wM_endOf_34, List.length_nil, Nat.add_zero]
theorem mM_end (h : ml N L M) (ho : ml_ok L) {A r : fo_L} {n d : Nat} (hL : L = A ++ (n, d) :: r) : am_wp yM_endOf 0 [.inr (.inl (4, some N)), .inl (nI A.length), am_u] [] M K = K (some (.inl (nI (A.length + 1 + (fo_sg d r).length)))) M := by
  simp only [wM_endOf_0, wM_endOf_1, wM_endOf_2, wM_endOf_3, wM_endOf_5, wM_endOf_6, wM_endOf_9, wM_endOf_12, wM_endOf_13, wM_endOf_16, wM_endOf_18, wM_endOf_19, wM_endOf_22, wM_endOf_24, wM_endOf_27, wM_endOf_30, wM_endOf_33, wM_endOf_34, nI_1]
  have := mM_end_l (K := K) h ho r [] (by rw [hL]; rfl)
  simpa using this
-- the holder
theorem mM_over_l (h : ml N L M) (ho : ml_ok L) {A C r : fo_L} {p n e : Nat} (hL : L = A ++ (p, e) :: (C ++ (n, e + 1) :: r)) (hC : ∀ q ∈ C, e + 1 ≤ q.2) (l1 : am_V) : ∀ k, k ≤ C.length + 1 → am_wp yM_over 19 [.inr (.inl (4, some N)), l1, .inl (nI (A.length + 1 + C.length)), .inl (nI (A.length + k))] [] M K = K (some (.inl (nI p))) M := by
  have h20 := ho.2.1
  have elen : L.length = A.length + 1 + C.length + (r.length + 1) := by rw [hL]; simp; omega
  have hn : L[A.length + 1 + C.length]? = some (n, e + 1) := by
    rw [hL, show A ++ (p, e) :: (C ++ (n, e + 1) :: r) = (A ++ (p, e) :: C) ++ (n, e + 1) :: r by simp, List.getElem?_append_right (by simp; omega)]
    simp [show A.length + 1 + C.length - (A.length + (C.length + 1)) = 0 by omega]
  have hd2 := (ho.2.2 _ (ml_mem hn)).2
  simp at hd2
  intro k
  induction k with
  | zero =>
    intro _
    have hp : L[A.length]? = some (p, e) := by rw [hL]; simp
    rw [wM_over_19]
    simp only [wM_over_0, wM_over_1, wM_over_2, wM_over_5, wM_over_6, wM_over_7, wM_over_10, wM_over_12, wM_over_15, wM_over_16, wM_over_17, wM_over_18, wM_over_20, wM_over_23, wM_over_25, wM_over_26, wM_over_29, wM_over_31, wM_over_34, wM_over_37, wM_over_40, wM_over_41, wM_over_44, wM_over_46, Nat.add_zero, h.1.1, h.1.2.1, wM_over_24 (am_ok_nI (show A.length < 20 by omega) (by decide)), wM_over_30 (am_ok_nI (show A.length + 1 + C.length < 20 by omega) (by decide)), wM_over_45 (am_ok_nI (show A.length < 20 by omega) (by decide)), nI_clamp (show A.length + 1 + C.length < 2 ^ 31 by omega), nI_clamp (show A.length < 2 ^ 31 by omega), (h.2.2 _ _ hp).1, (h.2.2 _ _ hp).2, (h.2.2 _ _ hn).2, nI_lt (show e < e + 1 by omega) (show e + 1 < 2 ^ 31 by omega), if_true]
  | succ k ih =>
    intro hk
    obtain ⟨q, hq⟩ := ml_ex (L := L) (i := A.length + (k + 1)) (by omega)
    have hge : e + 1 ≤ q.2 := by
      rw [hL, List.getElem?_append_right (by omega), show A.length + (k + 1) - A.length = k + 1 by omega, List.getElem?_cons_succ] at hq
      rcases Nat.lt_or_ge k C.length with z | z
      · rw [List.getElem?_append_left z] at hq
        exact hC q (List.mem_of_getElem? hq)
      · rw [List.getElem?_append_right z, show k - C.length = 0 by omega] at hq
        simp at hq
        rw [← hq]
        exact Nat.le_refl _
    have hq2 := (ho.2.2 q (ml_mem hq)).2
    rw [wM_over_19]
    simp only [wM_over_0, wM_over_1, wM_over_2, wM_over_5, wM_over_6, wM_over_7, wM_over_10, wM_over_12, wM_over_15, wM_over_16, wM_over_17, wM_over_18, wM_over_20, wM_over_23, wM_over_25, wM_over_26, wM_over_29, wM_over_31, wM_over_34, wM_over_37, wM_over_40, wM_over_41, wM_over_44, wM_over_46, h.1.1, h.1.2.1, wM_over_24 (am_ok_nI (show A.length + (k + 1) < 20 by omega) (by decide)), wM_over_30 (am_ok_nI (show A.length + 1 + C.length < 20 by omega) (by decide)), nI_clamp (show A.length + 1 + C.length < 2 ^ 31 by omega), nI_clamp (show A.length + (k + 1) < 2 ^ 31 by omega), (h.2.2 _ _ hq).2, (h.2.2 _ _ hn).2, nI_nlt hge (show q.2 < 2 ^ 31 by omega), if_false]
    rw [← Nat.add_assoc, nI_dn]
    exact ih (by omega)
def ts_nm (p : Option Nat) : Int32 := match p with
  | some q => nI q
  | none => -1
theorem mM_over (h : ml N L M) (ho : ml_ok L) {n : Nat} (hn : n ∈ L.map (·.1)) : am_wp yM_over 0 [.inr (.inl (4, some N)), .inl (nI n), am_u, am_u] [] M K = K (some (.inl (ts_nm (fo_p L n)))) M := by
  have h20 := ho.2.1
  cases hp : fo_p L n with
  | none =>
    have hd := fo_p_root ho.1 hn hp
    obtain ⟨A, d, r, hL, hA⟩ := fo_split hn
    have hi : L[A.length]? = some (n, d) := by rw [hL]; simp
    have hlt := ml_lt hi
    have hd0 : d = 0 := by rw [hL, fo_d_at hA] at hd; exact hd
    subst hd0
    simp only [wM_over_0, wM_over_1, wM_over_2, wM_over_5, wM_over_6, wM_over_7, wM_over_10, wM_over_12, wM_over_15, wM_over_16, wM_over_17, wM_over_18, wM_over_20, wM_over_23, wM_over_25, wM_over_26, wM_over_29, wM_over_31, wM_over_34, wM_over_37, wM_over_40, wM_over_41, wM_over_44, wM_over_46, mM_at h ho hi, true_or, or_true, Option.toList_some, Option.toList_none, List.cons_append, List.nil_append, h.1.2.1, wM_over_11 (am_ok_nI (show A.length < 20 by omega) (by decide)), nI_clamp (show A.length < 2 ^ 31 by omega), (h.2.2 _ _ hi).2, nI_0, if_true, ts_nm]
  | some p =>
    obtain ⟨A, e, C, r, hL, hC⟩ := fo_p_form ho.1 hp
    have hi : L[A.length + 1 + C.length]? = some (n, e + 1) := by
      rw [hL, show A ++ (p, e) :: (C ++ (n, e + 1) :: r) = (A ++ (p, e) :: C) ++ (n, e + 1) :: r by simp, List.getElem?_append_right (by simp; omega)]
      simp [show A.length + 1 + C.length - (A.length + (C.length + 1)) = 0 by omega]
    have hlt := ml_lt hi
    have hd2 := (ho.2.2 _ (ml_mem hi)).2
    simp at hd2
    simp only [wM_over_0, wM_over_1, wM_over_2, wM_over_5, wM_over_6, wM_over_7, wM_over_10, wM_over_12, wM_over_15, wM_over_16, wM_over_17, wM_over_18, wM_over_20, wM_over_23, wM_over_25, wM_over_26, wM_over_29, wM_over_31, wM_over_34, wM_over_37, wM_over_40, wM_over_41, wM_over_44, wM_over_46, mM_at h ho hi, true_or, or_true, Option.toList_some, Option.toList_none, List.cons_append, List.nil_append, h.1.2.1, wM_over_11 (am_ok_nI (show A.length + 1 + C.length < 20 by omega) (by decide)), nI_clamp (show A.length + 1 + C.length < 2 ^ 31 by omega), (h.2.2 _ _ hi).2, nI_ne0 (show 0 < e + 1 by omega) (show e + 1 < 2 ^ 31 by omega), if_false, ts_nm]
    have := mM_over_l (K := K) h ho hL hC (.inl (nI n)) (C.length + 1) (Nat.le_refl _)
    rw [show A.length + (C.length + 1) = A.length + 1 + C.length by omega] at this
    exact this
-- the topmost
theorem mM_top_l (h : ml N L M) (ho : ml_ok L) (l1 : am_V) : ∀ n, n ∈ L.map (·.1) → ∀ k d, L[k]? = some (n, d) → am_wp yM_top 6 [.inr (.inl (4, some N)), l1, .inl (nI k)] [] M K = K (some (.inl (nI (fo_r L n)))) M := by
  have h20 := ho.2.1
  refine fo_ind ho.1 (fun n hn hp k d hk => ?_) (fun n p hp ih k d hk => ?_)
  · have hd := fo_p_root ho.1 hn hp
    obtain ⟨A, d', r, hL, hA⟩ := fo_split hn
    have hi : L[A.length]? = some (n, d') := by rw [hL]; simp
    have hlt := ml_lt hi
    have hd0 : d' = 0 := by rw [hL, fo_d_at hA] at hd; exact hd
    subst hd0
    have ek := fo_ix ho.1 hi hk
    subst ek
    rw [fo_r_none ho.1 hn hp, wM_top_6]
    simp only [wM_top_0, wM_top_1, wM_top_2, wM_top_5, wM_top_7, wM_top_10, wM_top_12, wM_top_15, wM_top_18, wM_top_21, wM_top_22, wM_top_25, wM_top_27, h.1.1, h.1.2.1, wM_top_11 (am_ok_nI (show A.length < 20 by omega) (by decide)), wM_top_26 (am_ok_nI (show A.length < 20 by omega) (by decide)), nI_clamp (show A.length < 2 ^ 31 by omega), (h.2.2 _ _ hi).1, (h.2.2 _ _ hi).2, nI_0, show ¬ (0 : Int32) < 0 by decide, if_false]
  · obtain ⟨A, e, C, r, hL, hC⟩ := fo_p_form ho.1 hp
    have hi : L[A.length + 1 + C.length]? = some (n, e + 1) := by
      rw [hL, show A ++ (p, e) :: (C ++ (n, e + 1) :: r) = (A ++ (p, e) :: C) ++ (n, e + 1) :: r by simp, List.getElem?_append_right (by simp; omega)]
      simp [show A.length + 1 + C.length - (A.length + (C.length + 1)) = 0 by omega]
    have hlt := ml_lt hi
    have ek := fo_ix ho.1 hi hk
    subst ek
    have hpp : L[A.length]? = some (p, e) := by rw [hL]; simp
    rw [fo_r_some ho.1 hp]
    have go : ∀ j, j ≤ C.length + 1 → am_wp yM_top 6 [.inr (.inl (4, some N)), l1, .inl (nI (A.length + j))] [] M K = K (some (.inl (nI (fo_r L p)))) M := by
      intro j
      induction j with
      | zero => intro _; exact ih A.length e hpp
      | succ j ihj =>
        intro hj
        obtain ⟨q, hq⟩ := ml_ex (L := L) (i := A.length + (j + 1)) (by omega)
        have hge : e + 1 ≤ q.2 := by
          rw [hL, List.getElem?_append_right (by omega), show A.length + (j + 1) - A.length = j + 1 by omega, List.getElem?_cons_succ] at hq
          rcases Nat.lt_or_ge j C.length with z | z
          · rw [List.getElem?_append_left z] at hq
            exact hC q (List.mem_of_getElem? hq)
          · rw [List.getElem?_append_right z, show j - C.length = 0 by omega] at hq
            simp at hq
            rw [← hq]
            exact Nat.le_refl _
        have hq2 := (ho.2.2 q (ml_mem hq)).2
        rw [wM_top_6]
        simp only [wM_top_0, wM_top_1, wM_top_2, wM_top_5, wM_top_7, wM_top_10, wM_top_12, wM_top_15, wM_top_18, wM_top_21, wM_top_22, wM_top_25, wM_top_27, h.1.2.1, wM_top_11 (am_ok_nI (show A.length + (j + 1) < 20 by omega) (by decide)), nI_clamp (show A.length + (j + 1) < 2 ^ 31 by omega), (h.2.2 _ _ hq).2, show (0 : Int32) < nI q.2 from nI_lt (a := 0) (by omega) (by omega), if_true]
        rw [← Nat.add_assoc, nI_dn]
        exact ihj (by omega)
    have := go (C.length + 1) (Nat.le_refl _)
    rw [show A.length + (C.length + 1) = A.length + 1 + C.length by omega] at this
    exact this
theorem mM_top (h : ml N L M) (ho : ml_ok L) {n : Nat} (hn : n ∈ L.map (·.1)) : am_wp yM_top 0 [.inr (.inl (4, some N)), .inl (nI n), am_u] [] M K = K (some (.inl (nI (fo_r L n)))) M := by
  obtain ⟨A, d, r, hL, hA⟩ := fo_split hn
  have hi : L[A.length]? = some (n, d) := by rw [hL]; simp
  simp only [wM_top_0, wM_top_1, wM_top_2, wM_top_5, wM_top_7, wM_top_10, wM_top_12, wM_top_15, wM_top_18, wM_top_21, wM_top_22, wM_top_25, wM_top_27, mM_at h ho hi, true_or, or_true, Option.toList_some, Option.toList_none, List.cons_append, List.nil_append]
  exact mM_top_l h ho _ n hn _ _ hi
-- under
theorem fo_w_ix (ho : fo_ok L) {A r : fo_L} {n d : Nat} (hL : L = A ++ (n, d) :: r) (hA : n ∉ A.map (·.1)) {j m e : Nat} (hj : L[j]? = some (m, e)) : m ∈ fo_w L n ↔ A.length ≤ j ∧ j < A.length + 1 + (fo_sg d r).length := by
  have hw : fo_w L n = ((n, d) :: fo_sg d r).map (·.1) := by rw [hL, fo_w_at hA]; rfl
  have hL2 : L = A ++ (((n, d) :: fo_sg d r) ++ fo_rs d r) := by rw [hL, List.cons_append, fo_sr]
  rw [hw]
  constructor
  · intro hm
    obtain ⟨q, hq, rfl⟩ := List.mem_map.mp hm
    obtain ⟨i, hi⟩ := List.mem_iff_getElem?.mp hq
    have hlt := ml_lt hi
    have : L[A.length + i]? = some (q.1, q.2) := by
      rw [hL2, List.getElem?_append_right (by omega), show A.length + i - A.length = i by omega, List.getElem?_append_left hlt, hi]
    have ej := fo_ix ho this hj
    rw [List.length_cons] at hlt
    omega
  · rintro ⟨h1, h2⟩
    have hlt : j - A.length < ((n, d) :: fo_sg d r).length := by rw [List.length_cons]; omega
    rw [hL2, List.getElem?_append_right h1, List.getElem?_append_left hlt] at hj
    exact List.mem_map.mpr ⟨(m, e), List.mem_of_getElem? hj, rfl⟩
theorem mM_has (h : ml N L M) (ho : ml_ok L) {n m : Nat} (hn : n ∈ L.map (·.1)) (hm : m ∈ L.map (·.1)) : am_wp yM_has 0 [.inr (.inl (4, some N)), .inl (nI n), .inl (nI m), am_u, am_u] [] M K = K (some (.inl (am_b (decide (m ∈ fo_w L n))))) M := by
  have h20 := ho.2.1
  obtain ⟨A, d, r, hL, hA⟩ := fo_split hn
  have hi : L[A.length]? = some (n, d) := by rw [hL]; simp
  obtain ⟨q, hq, rfl⟩ := List.mem_map.mp hm
  obtain ⟨j, hj⟩ := List.mem_iff_getElem?.mp hq
  have hj' : L[j]? = some (q.1, q.2) := hj
  have hlt := ml_lt hi
  have hlj := ml_lt hj
  have hsg : A.length + 1 + (fo_sg d r).length ≤ L.length := by
    have : r.length = (fo_sg d r).length + (fo_rs d r).length := by rw [← List.length_append, fo_sr]
    rw [hL]; simp; omega
  have key := fo_w_ix ho.1 hL hA hj'
  simp only [wM_has_0, wM_has_1, wM_has_2, wM_has_5, wM_has_6, wM_has_7, wM_has_8, wM_has_11, wM_has_13, wM_has_15, wM_has_16, wM_has_19, wM_has_21, wM_has_22, wM_has_23, wM_has_26, wM_has_29, wM_has_30, wM_has_33, mM_at h ho hi, mM_at h ho hj', mM_end h ho hL, true_or, or_true, Option.toList_some, Option.toList_none, List.cons_append, List.nil_append, nI_ltI (show j < 2 ^ 31 by omega) (show A.length < 2 ^ 31 by omega), nI_ltI (show j < 2 ^ 31 by omega) (show A.length + 1 + (fo_sg d r).length < 2 ^ 31 by omega)]
  by_cases c1 : j < A.length
  · have : ¬ q.1 ∈ fo_w L n := fun z => by have := key.mp z; omega
    simp [c1, this, wM_has_34, am_b]
  · by_cases c2 : j < A.length + 1 + (fo_sg d r).length
    · have : q.1 ∈ fo_w L n := key.mpr ⟨by omega, c2⟩
      simp [c1, c2, this, wM_has_34, wM_has_29, wM_has_30, am_b]
    · have : ¬ q.1 ∈ fo_w L n := fun z => by have := key.mp z; omega
      simp [c1, c2, this, wM_has_34, wM_has_33, am_b]
end ML
