-- THE REFERENCE: the calls that ask
section MQ
variable {N : Nat} {s : ts_S} {M M' : am_M} {K : Option am_V → am_M → Prop} {n : Nat}
def mxR (N b : Nat) : Prop := N ≤ b ∧ b ≤ N + 15
-- what does not matter for the picture
theorem mp_kp (h : mp N s M) (hr : ∀ b j, am_mr M' b j = am_mr M b j) (hi : ∀ b j, (b = N ∧ j = 0) ∨ b = N + 11 ∨ b = N + 13 ∨ b = N + 14 ∨ b = N + 15 ∨ am_mi M' b j = am_mi M b j) : mp N s M' := by
  have g : ∀ b j, ¬ (b = N ∧ j = 0) → ¬ b = N + 11 → ¬ b = N + 13 → ¬ b = N + 14 → ¬ b = N + 15 → am_mi M' b j = am_mi M b j := fun b j h1 h2 h3 h4 h5 => by
    rcases hi b j with z | z | z | z | z | z
    · exact absurd z h1
    · exact absurd z h2
    · exact absurd z h3
    · exact absurd z h4
    · exact absurd z h5
    · exact z
  obtain ⟨⟨hp, hz, hq⟩, h1, h2, h3, h4⟩ := h
  refine ⟨⟨?_, ?_, ?_⟩, ?_, ?_, ?_, ?_⟩
  · unfold mp_s at hp ⊢
    simp only [hr]
    exact hp
  · rw [g N 4 (by omega) (by omega) (by omega) (by omega) (by omega)]; exact hz
  · intro j q hj
    rw [g (N + 1) j (by omega) (by omega) (by omega) (by omega) (by omega), g (N + 2) j (by omega) (by omega) (by omega) (by omega) (by omega)]
    exact hq j q hj
  · rw [g N 1 (by omega) (by omega) (by omega) (by omega) (by omega)]; exact h1
  · rw [g N 15 (by omega) (by omega) (by omega) (by omega) (by omega)]; exact h2
  · intro j hj
    rw [g (N + 12) j (by omega) (by omega) (by omega) (by omega) (by omega)]; exact h3 j hj
  · intro n hn
    have := h4 n hn
    unfold mp_o at this ⊢
    rw [g (N + 3) n (by omega) (by omega) (by omega) (by omega) (by omega), g (N + 4) n (by omega) (by omega) (by omega) (by omega) (by omega), g (N + 5) n (by omega) (by omega) (by omega) (by omega) (by omega), g (N + 6) n (by omega) (by omega) (by omega) (by omega) (by omega), g (N + 7) n (by omega) (by omega) (by omega) (by omega) (by omega), g (N + 8) n (by omega) (by omega) (by omega) (by omega) (by omega), g (N + 9) n (by omega) (by omega) (by omega) (by omega) (by omega), g (N + 10) n (by omega) (by omega) (by omega) (by omega) (by omega)]
    exact this
theorem mp_th (h : mp N s M) : mp N s (am_si M N 0 0) := mp_kp h (fun _ _ => rfl) (fun b j => by
  by_cases q : b = N ∧ j = 0
  · exact Or.inl q
  · exact Or.inr (Or.inr (Or.inr (Or.inr (Or.inr (by rw [am_mi_si, if_neg q]))))))
theorem fx_th0 : fx_f (mxR N) M (am_si M N 0 0) := fx_f_si (by unfold mxR; omega)
-- holder, way, root, ring
theorem mM_holder (h : mp N s M) (hs : ts_ok s) (v : Int32) : am_wp yM_holder 0 [.inr (.inl (4, some N)), .inl v, am_u] [] M K = K (some (.inl (sp_holder s v))) (am_si M N 0 0) := by
  have h' := mp_th h
  unfold sp_holder
  cases hv : ts_id s v with
  | none => simp [wM_holder_0, wM_holder_1, wM_holder_2, wM_holder_5, wM_holder_6, wM_holder_7, wM_holder_10, wM_holder_13, wM_holder_14, wM_holder_15, wM_holder_16, wM_holder_17, wM_holder_20, wM_holder_21, wM_holder_22, wM_holder_25, wM_holder_27, wM_holder_30, wM_holder_31, mM_is h' hs, hv, am_b]
  | some n =>
    obtain ⟨rfl, hl, h20⟩ := ts_id_some hv
    simp only [wM_holder_0, wM_holder_1, wM_holder_2, wM_holder_5, wM_holder_6, wM_holder_7, wM_holder_10, wM_holder_13, wM_holder_14, wM_holder_15, wM_holder_16, wM_holder_17, wM_holder_20, wM_holder_21, wM_holder_22, wM_holder_25, wM_holder_27, wM_holder_30, wM_holder_31, mM_is h' hs, hv, Option.isSome_some, true_or, or_true, Option.toList_some, Option.toList_none, List.cons_append, List.nil_append, am_b0, reduceCtorEq, if_false, mM_ov h' hs hl, nm_lt (ts_pa s n) (pa_20 hs)]
    cases hp : ts_pa s n <;> simp [wM_holder_0, wM_holder_1, wM_holder_2, wM_holder_5, wM_holder_6, wM_holder_7, wM_holder_10, wM_holder_13, wM_holder_14, wM_holder_15, wM_holder_16, wM_holder_17, wM_holder_20, wM_holder_21, wM_holder_22, wM_holder_25, wM_holder_27, wM_holder_30, wM_holder_31, ts_no, ts_nm]
theorem mM_way (h : mp N s M) (hs : ts_ok s) (v : Int32) : am_wp yM_way 0 [.inr (.inl (4, some N)), .inl v] [] M K = K (some (.inl (sp_way s v))) (am_si M N 0 0) := by
  have h' := mp_th h
  unfold sp_way
  cases hv : ts_id s v with
  | none => simp [wM_way_0, wM_way_1, wM_way_2, wM_way_5, wM_way_6, wM_way_7, wM_way_10, wM_way_13, wM_way_14, wM_way_15, wM_way_16, wM_way_17, wM_way_20, wM_way_23, wM_way_25, wM_way_28, wM_way_29, wM_way_32, wM_way_34, mM_is h' hs, hv, am_b]
  | some n =>
    obtain ⟨rfl, hl, h20⟩ := ts_id_some hv
    simp only [wM_way_0, wM_way_1, wM_way_2, wM_way_5, wM_way_6, wM_way_7, wM_way_10, wM_way_13, wM_way_14, wM_way_15, wM_way_16, wM_way_17, wM_way_20, wM_way_23, wM_way_25, wM_way_28, wM_way_29, wM_way_32, wM_way_34, mM_is h' hs, hv, Option.isSome_some, true_or, or_true, Option.toList_some, Option.toList_none, List.cons_append, List.nil_append, am_b0, reduceCtorEq, if_false, mM_ov h' hs hl, nm_lt (ts_pa s n) (pa_20 hs), h'.1.1.2.2.2.2.1, wM_way_33 (am_ok_nI h20 (by decide)), nI_clamp (show n < 2 ^ 31 by omega)]
    cases hp : ts_pa s n with
    | none => simp [wM_way_0, wM_way_1, wM_way_2, wM_way_5, wM_way_6, wM_way_7, wM_way_10, wM_way_13, wM_way_14, wM_way_15, wM_way_16, wM_way_17, wM_way_20, wM_way_23, wM_way_25, wM_way_28, wM_way_29, wM_way_32, wM_way_34, ts_way, hp]
    | some p =>
      have := (h'.2.2.2.2 n hl).2.2.1 p hp
      simp [wM_way_0, wM_way_1, wM_way_2, wM_way_5, wM_way_6, wM_way_7, wM_way_10, wM_way_13, wM_way_14, wM_way_15, wM_way_16, wM_way_17, wM_way_20, wM_way_23, wM_way_25, wM_way_28, wM_way_29, wM_way_32, wM_way_34, ts_way, hp, this]
theorem mM_root (h : mp N s M) (hs : ts_ok s) (v : Int32) : am_wp yM_root 0 [.inr (.inl (4, some N)), .inl v] [] M K = K (some (.inl (sp_root s v))) (am_si M N 0 0) := by
  have h' := mp_th h
  unfold sp_root
  cases hv : ts_id s v with
  | none => simp [wM_root_0, wM_root_1, wM_root_2, wM_root_5, wM_root_6, wM_root_7, wM_root_10, wM_root_13, wM_root_14, wM_root_15, wM_root_18, wM_root_21, wM_root_22, mM_is h' hs, hv, am_b]
  | some n =>
    obtain ⟨rfl, hl, h20⟩ := ts_id_some hv
    simp only [wM_root_0, wM_root_1, wM_root_2, wM_root_5, wM_root_6, wM_root_7, wM_root_10, wM_root_13, wM_root_14, wM_root_15, wM_root_18, wM_root_21, wM_root_22, mM_is h' hs, hv, Option.isSome_some, true_or, or_true, Option.toList_some, Option.toList_none, List.cons_append, List.nil_append, am_b0, reduceCtorEq, if_false, mM_tp h' hs hl]
theorem mM_ring (h : mp N s M) (hs : ts_ok s) (v w : Int32) : am_wp yM_ring 0 [.inr (.inl (4, some N)), .inl v, .inl w] [] M K = K (some (.inl (sp_ring s v w))) (am_si M N 0 0) := by
  have h' := mp_th h
  unfold sp_ring
  cases hv : ts_id s v with
  | none => simp [wM_ring_0, wM_ring_1, wM_ring_2, wM_ring_5, wM_ring_6, wM_ring_7, wM_ring_10, wM_ring_13, wM_ring_14, wM_ring_15, wM_ring_18, wM_ring_21, wM_ring_22, wM_ring_23, wM_ring_24, wM_ring_25, wM_ring_26, wM_ring_29, wM_ring_32, wM_ring_33, wM_ring_36, wM_ring_37, mM_is h' hs, hv, am_b]
  | some n =>
    obtain ⟨rfl, hl, h20⟩ := ts_id_some hv
    cases hw : ts_id s w with
    | none => simp [wM_ring_0, wM_ring_1, wM_ring_2, wM_ring_5, wM_ring_6, wM_ring_7, wM_ring_10, wM_ring_13, wM_ring_14, wM_ring_15, wM_ring_18, wM_ring_21, wM_ring_22, wM_ring_23, wM_ring_24, wM_ring_25, wM_ring_26, wM_ring_29, wM_ring_32, wM_ring_33, wM_ring_36, wM_ring_37, mM_is h' hs, hv, hw, am_b]
    | some m =>
      obtain ⟨rfl, hm, m20⟩ := ts_id_some hw
      simp only [wM_ring_0, wM_ring_1, wM_ring_2, wM_ring_5, wM_ring_6, wM_ring_7, wM_ring_10, wM_ring_13, wM_ring_14, wM_ring_15, wM_ring_18, wM_ring_21, wM_ring_22, wM_ring_23, wM_ring_24, wM_ring_25, wM_ring_26, wM_ring_29, wM_ring_32, wM_ring_33, wM_ring_36, wM_ring_37, mM_is h' hs, hv, hw, Option.isSome_some, true_or, or_true, Option.toList_some, Option.toList_none, List.cons_append, List.nil_append, am_b0, reduceCtorEq, if_false, mM_hs h' hs hl hm]
      rw [show decide (m ∈ fo_w (ts_L s) n) = tq_in s m n from rfl]
      cases tq_in s m n <;> simp [wM_ring_0, wM_ring_1, wM_ring_2, wM_ring_5, wM_ring_6, wM_ring_7, wM_ring_10, wM_ring_13, wM_ring_14, wM_ring_15, wM_ring_18, wM_ring_21, wM_ring_22, wM_ring_23, wM_ring_24, wM_ring_25, wM_ring_26, wM_ring_29, wM_ring_32, wM_ring_33, wM_ring_36, wM_ring_37, am_b]
theorem fo_w_l {L A r : fo_L} {d : Nat} (hL : L = A ++ (n, d) :: r) (hA : n ∉ A.map (·.1)) : (fo_w L n).length = 1 + (fo_sg d r).length := by
  rw [hL, fo_w_at hA]; simp; omega
theorem mM_count (h : mp N s M) (hs : ts_ok s) (v : Int32) : am_wp yM_count 0 [.inr (.inl (4, some N)), .inl v] [] M K = K (some (.inl (sp_count s v))) (am_si M N 0 0) := by
  have h' := mp_th h
  have ho := ml_ok_of hs
  unfold sp_count
  cases hv : ts_id s v with
  | none => simp [wM_count_0, wM_count_1, wM_count_2, wM_count_5, wM_count_6, wM_count_7, wM_count_10, wM_count_13, wM_count_14, wM_count_15, wM_count_16, wM_count_19, wM_count_22, wM_count_23, wM_count_24, wM_count_27, wM_count_28, wM_count_29, wM_count_30, wM_count_33, wM_count_34, mM_is h' hs, hv, am_b]
  | some n =>
    obtain ⟨rfl, hl, h20⟩ := ts_id_some hv
    obtain ⟨A, d, r, hL, hA⟩ := fo_split hl
    have hi : (ts_L s)[A.length]? = some (n, d) := by rw [hL]; simp
    simp only [wM_count_0, wM_count_1, wM_count_2, wM_count_5, wM_count_6, wM_count_7, wM_count_10, wM_count_13, wM_count_14, wM_count_15, wM_count_16, wM_count_19, wM_count_22, wM_count_23, wM_count_24, wM_count_27, wM_count_28, wM_count_29, wM_count_30, wM_count_33, wM_count_34, mM_is h' hs, hv, Option.isSome_some, true_or, or_true, Option.toList_some, Option.toList_none, List.cons_append, List.nil_append, am_b0, reduceCtorEq, if_false, mM_at h'.1 ho hi, mM_end h'.1 ho hL]
    rw [pk_sub (show A.length ≤ A.length + 1 + (fo_sg d r).length by omega), fo_w_l hL hA, show A.length + 1 + (fo_sg d r).length - A.length = 1 + (fo_sg d r).length by omega]
theorem mM_walk (h : mp N s M) (hs : ts_ok s) (v i : Int32) : am_wp yM_walk 0 [.inr (.inl (4, some N)), .inl v, .inl i, am_u] [] M K = K (some (.inl (sp_walk s v i))) (am_si M N 0 0) := by
  have h' := mp_th h
  have ho := ml_ok_of hs
  unfold sp_walk
  cases hv : ts_id s v with
  | none => simp [wM_walk_0, wM_walk_1, wM_walk_2, wM_walk_5, wM_walk_6, wM_walk_7, wM_walk_10, wM_walk_13, wM_walk_14, wM_walk_15, wM_walk_16, wM_walk_17, wM_walk_20, wM_walk_21, wM_walk_22, wM_walk_25, wM_walk_26, wM_walk_27, wM_walk_28, wM_walk_31, wM_walk_32, wM_walk_33, wM_walk_36, wM_walk_37, wM_walk_40, wM_walk_41, wM_walk_42, wM_walk_44, wM_walk_47, wM_walk_49, mM_is h' hs, hv, am_b]
  | some n =>
    obtain ⟨rfl, hl, h20⟩ := ts_id_some hv
    obtain ⟨A, d, r, hL, hA⟩ := fo_split hl
    have hi : (ts_L s)[A.length]? = some (n, d) := by rw [hL]; simp
    have hsg : A.length + 1 + (fo_sg d r).length ≤ (ts_L s).length := by
      have : r.length = (fo_sg d r).length + (fo_rs d r).length := by rw [← List.length_append, fo_sr]
      rw [hL]; simp; omega
    have h20' := ho.2.1
    simp only [wM_walk_0, wM_walk_1, wM_walk_2, wM_walk_5, wM_walk_6, wM_walk_7, wM_walk_10, wM_walk_13, wM_walk_14, wM_walk_15, wM_walk_16, wM_walk_17, wM_walk_20, wM_walk_21, wM_walk_22, wM_walk_25, wM_walk_26, wM_walk_27, wM_walk_28, wM_walk_31, wM_walk_32, wM_walk_33, wM_walk_36, wM_walk_37, wM_walk_40, wM_walk_41, wM_walk_42, wM_walk_44, wM_walk_47, wM_walk_49, mM_is h' hs, hv, Option.isSome_some, true_or, or_true, Option.toList_some, Option.toList_none, List.cons_append, List.nil_append, am_b0, reduceCtorEq, if_false, mM_at h'.1 ho hi, mM_end h'.1 ho hL, pk_sub (show A.length ≤ A.length + 1 + (fo_sg d r).length by omega), show A.length + 1 + (fo_sg d r).length - A.length = 1 + (fo_sg d r).length by omega, fo_w_l hL hA]
    by_cases c : i < 0
    · simp [c, wM_walk_0, wM_walk_1, wM_walk_2, wM_walk_5, wM_walk_6, wM_walk_7, wM_walk_10, wM_walk_13, wM_walk_14, wM_walk_15, wM_walk_16, wM_walk_17, wM_walk_20, wM_walk_21, wM_walk_22, wM_walk_25, wM_walk_26, wM_walk_27, wM_walk_28, wM_walk_31, wM_walk_32, wM_walk_33, wM_walk_36, wM_walk_37, wM_walk_40, wM_walk_41, wM_walk_42, wM_walk_44, wM_walk_47, wM_walk_49]
    · obtain ⟨j, hj, rfl⟩ := nI_of c
      simp only [c, if_false]
      by_cases c2 : nI j < nI (1 + (fo_sg d r).length)
      · have hjl := (nI_ltI hj (by omega)).mp c2
        simp only [c2, if_true, nI_add, h'.1.1.1, wM_walk_43 (am_ok_nI (show A.length + j < 20 by omega) (by decide)), nI_clamp (show A.length + j < 2 ^ 31 by omega), nI_clamp hj]
        obtain ⟨q, hq⟩ := ml_ex (L := ts_L s) (i := A.length + j) (by omega)
        rw [(h'.1.2.2 _ q hq).1, wM_walk_44, wM_walk_49]
        have hw : fo_w (ts_L s) n = ((n, d) :: fo_sg d r).map (·.1) := by rw [hL, fo_w_at hA]; rfl
        have hL2 : ts_L s = A ++ (((n, d) :: fo_sg d r) ++ fo_rs d r) := by rw [hL, List.cons_append, fo_sr]
        rw [hL2, List.getElem?_append_right (by omega), show A.length + j - A.length = j by omega, List.getElem?_append_left (by rw [List.length_cons]; omega)] at hq
        have : (fo_w (ts_L s) n).getD j 0 = q.1 := by
          rw [hw, List.getD_eq_getElem?_getD, List.getElem?_map, hq]; rfl
        rw [this]
      · simp [c2, wM_walk_0, wM_walk_1, wM_walk_2, wM_walk_5, wM_walk_6, wM_walk_7, wM_walk_10, wM_walk_13, wM_walk_14, wM_walk_15, wM_walk_16, wM_walk_17, wM_walk_20, wM_walk_21, wM_walk_22, wM_walk_25, wM_walk_26, wM_walk_27, wM_walk_28, wM_walk_31, wM_walk_32, wM_walk_33, wM_walk_36, wM_walk_37, wM_walk_40, wM_walk_41, wM_walk_42, wM_walk_44, wM_walk_47, wM_walk_49]
theorem ml_sg {L A r S1 S2 : fo_L} {d : Nat} {q : Nat × Nat} (hL : L = A ++ (n, d) :: r) (hS : fo_sg d r = S1 ++ q :: S2) : L[A.length + 1 + S1.length]? = some q := by
  have hL2 : L = (A ++ (n, d) :: S1) ++ q :: (S2 ++ fo_rs d r) := by
    have := fo_sr d r
    rw [hS] at this
    rw [hL]
    generalize fo_rs d r = B at this ⊢
    rw [← this]; simp
  rw [hL2, List.getElem?_append_right (by simp; omega)]
  simp [show A.length + 1 + S1.length - (A.length + (S1.length + 1)) = 0 by omega]
theorem mM_child_l (h : mp N s M) (hs : ts_ok s) {A r : fo_L} {d : Nat} (hL : ts_L s = A ++ (n, d) :: r) (i : Int32) (l1 : am_V) : ∀ (S2 S1 : fo_L), fo_sg d r = S1 ++ S2 → am_wp yM_child 29 [.inr (.inl (4, some N)), l1, .inl i, .inl (nI A.length), .inl (nI ((S1.filter (fun q => q.2 == d + 1)).map (·.1)).length), .inl (nI (A.length + 1 + S1.length))] [] M K = K (some (.inl (ls_at ((S2.filter (fun q => q.2 == d + 1)).map (·.1)) ((S1.filter (fun q => q.2 == d + 1)).map (·.1)).length i))) M := by
  have ho := ml_ok_of hs
  have h20 := ho.2.1
  have hn : (ts_L s)[A.length]? = some (n, d) := by rw [hL]; simp
  have hd2 := (ho.2.2 _ (ml_mem hn)).2
  simp at hd2
  have hsg : A.length + 1 + (fo_sg d r).length ≤ (ts_L s).length := by
    have : r.length = (fo_sg d r).length + (fo_rs d r).length := by rw [← List.length_append, fo_sr]
    rw [hL]; simp; omega
  intro S2
  induction S2 with
  | nil =>
    intro S1 hS
    have e : (fo_sg d r).length = S1.length := by rw [hS]; simp
    rw [wM_child_29]
    simp only [wM_child_0, wM_child_1, wM_child_2, wM_child_5, wM_child_6, wM_child_7, wM_child_10, wM_child_13, wM_child_14, wM_child_15, wM_child_16, wM_child_17, wM_child_20, wM_child_21, wM_child_22, wM_child_24, wM_child_25, wM_child_26, wM_child_27, wM_child_31, wM_child_32, wM_child_33, wM_child_36, wM_child_39, wM_child_40, wM_child_43, wM_child_46, wM_child_47, wM_child_50, wM_child_52, wM_child_53, wM_child_54, wM_child_57, wM_child_59, wM_child_60, wM_child_63, wM_child_64, wM_child_67, wM_child_70, wM_child_71, wM_child_74, wM_child_77, wM_child_80, wM_child_82, mM_end h.1 ho hL, true_or, or_true, Option.toList_some, Option.toList_none, List.cons_append, List.nil_append, e, nI_nlt (Nat.le_refl (A.length + 1 + S1.length)) (show A.length + 1 + S1.length < 2 ^ 31 by omega), if_false]
    simp [ls_at]
  | cons q S2 ih =>
    intro S1 hS
    have e : (fo_sg d r).length = S1.length + (S2.length + 1) := by rw [hS]; simp
    have hq := ml_sg hL hS
    have hq2 := (ho.2.2 q (ml_mem hq)).2
    have hlen : ((S1.filter (fun q => q.2 == d + 1)).map (·.1)).length ≤ S1.length := by rw [List.length_map]; exact List.length_filter_le _ _
    have nx := ih (S1 ++ [q]) (by rw [hS]; simp)
    rw [show A.length + 1 + (S1 ++ [q]).length = A.length + 1 + S1.length + 1 by simp; omega] at nx
    rw [wM_child_29]
    simp only [wM_child_0, wM_child_1, wM_child_2, wM_child_5, wM_child_6, wM_child_7, wM_child_10, wM_child_13, wM_child_14, wM_child_15, wM_child_16, wM_child_17, wM_child_20, wM_child_21, wM_child_22, wM_child_24, wM_child_25, wM_child_26, wM_child_27, wM_child_31, wM_child_32, wM_child_33, wM_child_36, wM_child_39, wM_child_40, wM_child_43, wM_child_46, wM_child_47, wM_child_50, wM_child_52, wM_child_53, wM_child_54, wM_child_57, wM_child_59, wM_child_60, wM_child_63, wM_child_64, wM_child_67, wM_child_70, wM_child_71, wM_child_74, wM_child_77, wM_child_80, wM_child_82, mM_end h.1 ho hL, true_or, or_true, Option.toList_some, Option.toList_none, List.cons_append, List.nil_append, nI_lt (show A.length + 1 + S1.length < A.length + 1 + (fo_sg d r).length by omega) (show A.length + 1 + (fo_sg d r).length < 2 ^ 31 by omega), if_true, h.1.1.1, h.1.1.2.1, wM_child_45 (am_ok_nI (show A.length + 1 + S1.length < 20 by omega) (by decide)), wM_child_51 (am_ok_nI (show A.length < 20 by omega) (by decide)), wM_child_69 (am_ok_nI (show A.length + 1 + S1.length < 20 by omega) (by decide)), nI_clamp (show A.length + 1 + S1.length < 2 ^ 31 by omega), nI_clamp (show A.length < 2 ^ 31 by omega), (h.1.2.2 _ q hq).1, (h.1.2.2 _ q hq).2, (h.1.2.2 _ _ hn).2, nI_1, nI_eq (show q.2 < 2 ^ 31 by omega) (show d + 1 < 2 ^ 31 by omega)]
    by_cases c : q.2 = d + 1
    · have e1 : (q :: S2).filter (fun q => q.2 == d + 1) = q :: S2.filter (fun q => q.2 == d + 1) := by simp [c]
      have e2 : (S1 ++ [q]).filter (fun q => q.2 == d + 1) = S1.filter (fun q => q.2 == d + 1) ++ [q] := by simp [List.filter_append, c]
      rw [e2, List.map_append, List.length_append] at nx
      simp only [c, if_true]
      rw [e1, List.map_cons, ls_at]
      by_cases c2 : nI ((S1.filter (fun q => q.2 == d + 1)).map (·.1)).length = i
      · simp only [c2, if_true, wM_child_0, wM_child_1, wM_child_2, wM_child_5, wM_child_6, wM_child_7, wM_child_10, wM_child_13, wM_child_14, wM_child_15, wM_child_16, wM_child_17, wM_child_20, wM_child_21, wM_child_22, wM_child_24, wM_child_25, wM_child_26, wM_child_27, wM_child_31, wM_child_32, wM_child_33, wM_child_36, wM_child_39, wM_child_40, wM_child_43, wM_child_46, wM_child_47, wM_child_50, wM_child_52, wM_child_53, wM_child_54, wM_child_57, wM_child_59, wM_child_60, wM_child_63, wM_child_64, wM_child_67, wM_child_70, wM_child_71, wM_child_74, wM_child_77, wM_child_80, wM_child_82]
      · simp only [c2, if_false, wM_child_0, wM_child_1, wM_child_2, wM_child_5, wM_child_6, wM_child_7, wM_child_10, wM_child_13, wM_child_14, wM_child_15, wM_child_16, wM_child_17, wM_child_20, wM_child_21, wM_child_22, wM_child_24, wM_child_25, wM_child_26, wM_child_27, wM_child_31, wM_child_32, wM_child_33, wM_child_36, wM_child_39, wM_child_40, wM_child_43, wM_child_46, wM_child_47, wM_child_50, wM_child_52, wM_child_53, wM_child_54, wM_child_57, wM_child_59, wM_child_60, wM_child_63, wM_child_64, wM_child_67, wM_child_70, wM_child_71, wM_child_74, wM_child_77, wM_child_80, wM_child_82, nI_1]
        simpa using nx
    · have e1 : (q :: S2).filter (fun q => q.2 == d + 1) = S2.filter (fun q => q.2 == d + 1) := by simp [c]
      have e2 : (S1 ++ [q]).filter (fun q => q.2 == d + 1) = S1.filter (fun q => q.2 == d + 1) := by simp [List.filter_append, c]
      rw [e2] at nx
      rw [e1]
      simp only [c, if_false, wM_child_0, wM_child_1, wM_child_2, wM_child_5, wM_child_6, wM_child_7, wM_child_10, wM_child_13, wM_child_14, wM_child_15, wM_child_16, wM_child_17, wM_child_20, wM_child_21, wM_child_22, wM_child_24, wM_child_25, wM_child_26, wM_child_27, wM_child_31, wM_child_32, wM_child_33, wM_child_36, wM_child_39, wM_child_40, wM_child_43, wM_child_46, wM_child_47, wM_child_50, wM_child_52, wM_child_53, wM_child_54, wM_child_57, wM_child_59, wM_child_60, wM_child_63, wM_child_64, wM_child_67, wM_child_70, wM_child_71, wM_child_74, wM_child_77, wM_child_80, wM_child_82, nI_1]
      exact nx
theorem mM_child (h : mp N s M) (hs : ts_ok s) (v i : Int32) : am_wp yM_child 0 [.inr (.inl (4, some N)), .inl v, .inl i, am_u, am_u, am_u] [] M K = K (some (.inl (sp_child s v i))) (am_si M N 0 0) := by
  have h' := mp_th h
  have ho := ml_ok_of hs
  unfold sp_child
  cases hv : ts_id s v with
  | none => simp [wM_child_0, wM_child_1, wM_child_2, wM_child_5, wM_child_6, wM_child_7, wM_child_10, wM_child_13, wM_child_14, wM_child_15, wM_child_16, wM_child_17, wM_child_20, wM_child_21, wM_child_22, wM_child_24, wM_child_25, wM_child_26, wM_child_27, wM_child_31, wM_child_32, wM_child_33, wM_child_36, wM_child_39, wM_child_40, wM_child_43, wM_child_46, wM_child_47, wM_child_50, wM_child_52, wM_child_53, wM_child_54, wM_child_57, wM_child_59, wM_child_60, wM_child_63, wM_child_64, wM_child_67, wM_child_70, wM_child_71, wM_child_74, wM_child_77, wM_child_80, wM_child_82, mM_is h' hs, hv, am_b]
  | some n =>
    obtain ⟨rfl, hl, h20⟩ := ts_id_some hv
    obtain ⟨A, d, r, hL, hA⟩ := fo_split hl
    have hi : (ts_L s)[A.length]? = some (n, d) := by rw [hL]; simp
    simp only [wM_child_0, wM_child_1, wM_child_2, wM_child_5, wM_child_6, wM_child_7, wM_child_10, wM_child_13, wM_child_14, wM_child_15, wM_child_16, wM_child_17, wM_child_20, wM_child_21, wM_child_22, wM_child_24, wM_child_25, wM_child_26, wM_child_27, wM_child_31, wM_child_32, wM_child_33, wM_child_36, wM_child_39, wM_child_40, wM_child_43, wM_child_46, wM_child_47, wM_child_50, wM_child_52, wM_child_53, wM_child_54, wM_child_57, wM_child_59, wM_child_60, wM_child_63, wM_child_64, wM_child_67, wM_child_70, wM_child_71, wM_child_74, wM_child_77, wM_child_80, wM_child_82, mM_is h' hs, hv, Option.isSome_some, true_or, or_true, Option.toList_some, Option.toList_none, List.cons_append, List.nil_append, am_b0, reduceCtorEq, if_false, mM_at h'.1 ho hi, nI_1]
    have := mM_child_l (K := K) h' hs hL i (.inl (nI n)) (fo_sg d r) [] rfl
    simp only [List.filter_nil, List.map_nil, List.length_nil, Nat.add_zero, nI_0] at this
    rw [this]
    have e : ts_kk s n = ((fo_sg d r).filter (fun q => q.2 == d + 1)).map (·.1) := by unfold ts_kk; rw [hL, fo_k_at hA]; rfl
    rw [e]
-- the latest changes
theorem mM_row (h : mp N s M) (ht : ts_t s < 2 ^ 30) (i w : Int32) : am_wp yM_row 0 [.inr (.inl (4, some N)), .inl i, .inl w, am_u, am_u] [] M K = K (some (.inl (sp_row s i w))) (am_si M N 0 0) := by
  have h' := mp_th h
  have h2 := h'.2.2.1
  unfold sp_row
  have ek : (if nI (ts_t s) < 30 then nI (ts_t s) else 30) = (if 30 < nI (ts_t s) then 30 else nI (ts_t s)) := by
    rw [show (30 : Int32) = nI 30 from rfl]
    by_cases c1 : ts_t s < 30
    · rw [if_pos (show nI (ts_t s) < nI 30 from nI_lt c1 (by decide)), if_neg (show ¬ nI 30 < nI (ts_t s) from nI_nlt (by omega) (by decide))]
    · rw [if_neg (show ¬ nI (ts_t s) < nI 30 from nI_nlt (by omega) (by omega))]
      by_cases c2 : ts_t s = 30
      · rw [c2]; decide
      · rw [if_pos (show nI 30 < nI (ts_t s) from nI_lt (by omega) (by omega))]
  have fin : ∀ kept : Int32, kept = (if 30 < nI (ts_t s) then 30 else nI (ts_t s)) → am_wp yM_row 24 [.inr (.inl (4, some N)), .inl i, .inl w, .inl kept, am_u] [] (am_si M N 0 0) K = K (some (.inl (if w < 0 then -2 else if w < 4 then (if i < 0 then -2 else if i < (if 30 < nI (ts_t s) then 30 else nI (ts_t s)) then ts_ch s ((ts_t s - 1 - i.toNatClampNeg) % 30 * 4 + w.toNatClampNeg) else -2) else -2))) (am_si M N 0 0) := by
    intro kept hk
    rw [← hk]
    have w34 : (3 < w) ↔ ¬ w < 4 := by
      constructor
      · intro z z2
        rw [Int32.lt_iff_toInt_lt] at z z2
        have : (3 : Int32).toInt = 3 := by decide
        have : (4 : Int32).toInt = 4 := by decide
        omega
      · intro z
        rw [Int32.lt_iff_toInt_lt] at z ⊢
        have : (3 : Int32).toInt = 3 := by decide
        have : (4 : Int32).toInt = 4 := by decide
        omega
    simp only [wM_row_0, wM_row_1, wM_row_2, wM_row_5, wM_row_6, wM_row_9, wM_row_11, wM_row_14, wM_row_15, wM_row_18, wM_row_21, wM_row_23, wM_row_24, wM_row_25, wM_row_28, wM_row_29, wM_row_30, wM_row_33, wM_row_34, wM_row_37, wM_row_38, wM_row_39, wM_row_42, wM_row_44, wM_row_45, wM_row_46, wM_row_49, wM_row_50, wM_row_51, wM_row_54, wM_row_55, wM_row_56, wM_row_57, wM_row_58, wM_row_61, wM_row_62, wM_row_63, wM_row_65, wM_row_67, wM_row_69, wM_row_72, wM_row_74, wM_row_77, wM_row_79]
    by_cases i0 : i < 0
    · by_cases h0 : w < 0
      · simp [i0, h0, wM_row_0, wM_row_1, wM_row_2, wM_row_5, wM_row_6, wM_row_9, wM_row_11, wM_row_14, wM_row_15, wM_row_18, wM_row_21, wM_row_23, wM_row_24, wM_row_25, wM_row_28, wM_row_29, wM_row_30, wM_row_33, wM_row_34, wM_row_37, wM_row_38, wM_row_39, wM_row_42, wM_row_44, wM_row_45, wM_row_46, wM_row_49, wM_row_50, wM_row_51, wM_row_54, wM_row_55, wM_row_56, wM_row_57, wM_row_58, wM_row_61, wM_row_62, wM_row_63, wM_row_65, wM_row_67, wM_row_69, wM_row_72, wM_row_74, wM_row_77, wM_row_79]
      · by_cases h4 : w < 4 <;> simp [i0, h0, h4, wM_row_0, wM_row_1, wM_row_2, wM_row_5, wM_row_6, wM_row_9, wM_row_11, wM_row_14, wM_row_15, wM_row_18, wM_row_21, wM_row_23, wM_row_24, wM_row_25, wM_row_28, wM_row_29, wM_row_30, wM_row_33, wM_row_34, wM_row_37, wM_row_38, wM_row_39, wM_row_42, wM_row_44, wM_row_45, wM_row_46, wM_row_49, wM_row_50, wM_row_51, wM_row_54, wM_row_55, wM_row_56, wM_row_57, wM_row_58, wM_row_61, wM_row_62, wM_row_63, wM_row_65, wM_row_67, wM_row_69, wM_row_72, wM_row_74, wM_row_77, wM_row_79]
    · by_cases i1 : i < kept
      · by_cases h0 : w < 0
        · simp [i0, i1, h0, wM_row_0, wM_row_1, wM_row_2, wM_row_5, wM_row_6, wM_row_9, wM_row_11, wM_row_14, wM_row_15, wM_row_18, wM_row_21, wM_row_23, wM_row_24, wM_row_25, wM_row_28, wM_row_29, wM_row_30, wM_row_33, wM_row_34, wM_row_37, wM_row_38, wM_row_39, wM_row_42, wM_row_44, wM_row_45, wM_row_46, wM_row_49, wM_row_50, wM_row_51, wM_row_54, wM_row_55, wM_row_56, wM_row_57, wM_row_58, wM_row_61, wM_row_62, wM_row_63, wM_row_65, wM_row_67, wM_row_69, wM_row_72, wM_row_74, wM_row_77, wM_row_79]
        · by_cases h4 : w < 4
          · obtain ⟨-, w1, w2⟩ := am_ok_of (n := 4) h0 h4 (by decide)
            obtain ⟨j, hj, rfl⟩ := nI_of i0
            have hjt : j < ts_t s := by
              rw [hk] at i1
              split at i1
              · rename_i q
                have a1 := (nI_ltI (a := 30) (b := ts_t s) (by decide) (by omega)).mp q
                have a2 := (nI_ltI (a := j) (b := 30) hj (by decide)).mp i1
                omega
              · exact (nI_ltI hj (by omega)).mp i1
            have e1 : nI (ts_t s) - 1 - nI j = nI (ts_t s - 1 - j) := by
              rw [show (1 : Int32) = nI 1 from rfl, pk_sub (by omega), pk_sub (by omega)]
            have hm : (ts_t s - 1 - j) % 30 < 30 := Nat.mod_lt _ (by decide)
            have e3 : nI (ts_t s - 1 - j) - nI (ts_t s - 1 - j) / 30 * 30 = nI ((ts_t s - 1 - j) % 30) := pk_rem (a := ts_t s - 1 - j) (d := 30) (by omega) (by decide) (by decide)
            have e2 : (4 : Int32) * nI ((ts_t s - 1 - j) % 30) + w = nI ((ts_t s - 1 - j) % 30 * 4 + w.toNatClampNeg) := by
              conv => lhs; rw [w2]
              rw [show (4 : Int32) = nI 4 from rfl, pk_mul, nI_add, Nat.mul_comm]
            have hlt : (ts_t s - 1 - j) % 30 * 4 + w.toNatClampNeg < 120 := by omega
            have k4 := am_ok_nI hlt (by decide : 120 < 2 ^ 31)
            rw [nI_clamp hj]
            simp only [wM_row_0, wM_row_1, wM_row_2, wM_row_5, wM_row_6, wM_row_9, wM_row_11, wM_row_14, wM_row_15, wM_row_18, wM_row_21, wM_row_23, wM_row_24, wM_row_25, wM_row_28, wM_row_29, wM_row_30, wM_row_33, wM_row_34, wM_row_37, wM_row_38, wM_row_39, wM_row_42, wM_row_44, wM_row_45, wM_row_46, wM_row_49, wM_row_50, wM_row_51, wM_row_54, wM_row_55, wM_row_56, wM_row_57, wM_row_58, wM_row_61, wM_row_62, wM_row_63, wM_row_65, wM_row_67, wM_row_69, wM_row_72, wM_row_74, wM_row_77, wM_row_79, i0, i1, h0, h4, if_false, if_true, w34, not_true_eq_false, h2, wM_row_60 (show (30 : Int32) ≠ 0 by decide), e1, e3, e2, h'.1.1.2.2.2.2.2.2.2.2.2.2.2.1, wM_row_64 k4, nI_clamp (show (ts_t s - 1 - j) % 30 * 4 + w.toNatClampNeg < 2 ^ 31 by omega)]
            have := h'.2.2.2.1 _ hlt
            rw [← this]
            unfold mp_h
            split <;> simp [wM_row_0, wM_row_1, wM_row_2, wM_row_5, wM_row_6, wM_row_9, wM_row_11, wM_row_14, wM_row_15, wM_row_18, wM_row_21, wM_row_23, wM_row_24, wM_row_25, wM_row_28, wM_row_29, wM_row_30, wM_row_33, wM_row_34, wM_row_37, wM_row_38, wM_row_39, wM_row_42, wM_row_44, wM_row_45, wM_row_46, wM_row_49, wM_row_50, wM_row_51, wM_row_54, wM_row_55, wM_row_56, wM_row_57, wM_row_58, wM_row_61, wM_row_62, wM_row_63, wM_row_65, wM_row_67, wM_row_69, wM_row_72, wM_row_74, wM_row_77, wM_row_79]
          · simp [i0, i1, h0, h4, w34, wM_row_0, wM_row_1, wM_row_2, wM_row_5, wM_row_6, wM_row_9, wM_row_11, wM_row_14, wM_row_15, wM_row_18, wM_row_21, wM_row_23, wM_row_24, wM_row_25, wM_row_28, wM_row_29, wM_row_30, wM_row_33, wM_row_34, wM_row_37, wM_row_38, wM_row_39, wM_row_42, wM_row_44, wM_row_45, wM_row_46, wM_row_49, wM_row_50, wM_row_51, wM_row_54, wM_row_55, wM_row_56, wM_row_57, wM_row_58, wM_row_61, wM_row_62, wM_row_63, wM_row_65, wM_row_67, wM_row_69, wM_row_72, wM_row_74, wM_row_77, wM_row_79]
      · by_cases h0 : w < 0
        · simp [i0, i1, h0, wM_row_0, wM_row_1, wM_row_2, wM_row_5, wM_row_6, wM_row_9, wM_row_11, wM_row_14, wM_row_15, wM_row_18, wM_row_21, wM_row_23, wM_row_24, wM_row_25, wM_row_28, wM_row_29, wM_row_30, wM_row_33, wM_row_34, wM_row_37, wM_row_38, wM_row_39, wM_row_42, wM_row_44, wM_row_45, wM_row_46, wM_row_49, wM_row_50, wM_row_51, wM_row_54, wM_row_55, wM_row_56, wM_row_57, wM_row_58, wM_row_61, wM_row_62, wM_row_63, wM_row_65, wM_row_67, wM_row_69, wM_row_72, wM_row_74, wM_row_77, wM_row_79]
        · by_cases h4 : w < 4 <;> simp [i0, i1, h0, h4, wM_row_0, wM_row_1, wM_row_2, wM_row_5, wM_row_6, wM_row_9, wM_row_11, wM_row_14, wM_row_15, wM_row_18, wM_row_21, wM_row_23, wM_row_24, wM_row_25, wM_row_28, wM_row_29, wM_row_30, wM_row_33, wM_row_34, wM_row_37, wM_row_38, wM_row_39, wM_row_42, wM_row_44, wM_row_45, wM_row_46, wM_row_49, wM_row_50, wM_row_51, wM_row_54, wM_row_55, wM_row_56, wM_row_57, wM_row_58, wM_row_61, wM_row_62, wM_row_63, wM_row_65, wM_row_67, wM_row_69, wM_row_72, wM_row_74, wM_row_77, wM_row_79]
  simp only [wM_row_0, wM_row_1, wM_row_2, wM_row_5, wM_row_6, wM_row_9, wM_row_11, wM_row_14, wM_row_15, wM_row_18, wM_row_21, wM_row_23, h2]
  by_cases c : nI (ts_t s) < 30
  · rw [if_pos c] at ek
    simp only [c, if_true]
    exact fin _ ek
  · rw [if_neg c] at ek
    simp only [c, if_false]
    exact fin _ ek
-- counts
theorem rng_len {l : List Nat} (P : Nat → Bool) (hnd : l.Nodup) (h20 : ∀ x ∈ l, x < 20) : ((List.range 20).filter (fun x => decide (x ∈ l) && P x)).length = (l.filter P).length := by
  apply List.Perm.length_eq
  rw [List.perm_ext_iff_of_nodup (List.Pairwise.filter _ List.nodup_range) (List.Pairwise.filter _ hnd)]
  intro x
  simp only [List.mem_filter, List.mem_range, Bool.and_eq_true, decide_eq_true_eq]
  exact ⟨fun ⟨_, h1, h2⟩ => ⟨h1, h2⟩, fun ⟨h1, h2⟩ => ⟨h20 x h1, h1, h2⟩⟩
theorem told0 (hs : ts_ok s) : ((List.range 20).filter (tq_n0 s)).length = (ts_L s).length := by
  have := rng_len (fun _ => true) hs.1.1 (fun x hx => ts_20 hs hx)
  rw [show ∀ l : List Nat, l.filter (fun _ => true) = l from fun l => List.filter_eq_self.mpr (fun _ _ => rfl), List.length_map] at this
  rw [← this]
  congr 1
  refine List.filter_congr (fun x _ => ?_)
  unfold tq_n0
  simp
theorem told2 (hs : ts_ok s) : ((List.range 20).filter (tq_n2 s)).length = ((ts_L s).filter (fun q => q.2 == 0 && tq_hh s q.1)).length := by
  have := rng_len (fun n => tq_hh s n && decide (ts_pa s n = none)) hs.1.1 (fun x hx => ts_20 hs hx)
  rw [List.filter_map, List.length_map] at this
  have e1 : (List.range 20).filter (tq_n2 s) = (List.range 20).filter (fun x => decide (x ∈ (ts_L s).map (·.1)) && (tq_hh s x && decide (ts_pa s x = none))) := by
    refine List.filter_congr (fun x _ => ?_)
    unfold tq_n2
    rw [Bool.and_assoc]
  rw [e1, this]
  congr 1
  refine List.filter_congr (fun q hq => ?_)
  have hl : ts_lv s q.1 := List.mem_map_of_mem hq
  obtain ⟨j, hj⟩ := List.mem_iff_getElem?.mp hq
  obtain ⟨A, d, r, hL, hA⟩ := fo_split hl
  have hi : (ts_L s)[A.length]? = some (q.1, d) := by rw [hL]; simp
  have hj' : (ts_L s)[j]? = some (q.1, q.2) := hj
  have ej := fo_ix hs.1 hi hj'
  rw [← ej, hi] at hj'
  have ed : d = q.2 := by simpa using hj'
  have hd : fo_d (ts_L s) q.1 = q.2 := by rw [hL, fo_d_at hA, ed]
  show (tq_hh s q.1 && decide (ts_pa s q.1 = none)) = (q.2 == 0 && tq_hh s q.1)
  rw [Bool.and_comm]
  congr 1
  cases hp : ts_pa s q.1 with
  | none => have := fo_p_root hs.1 hl hp; rw [hd] at this; simp [this]
  | some p => have := fo_p_deep hs.1 hp; rw [hd] at this; simp [this]
theorem mM_told_l (h : mp N s M) (hs : ts_ok s) (l1 : am_V) : ∀ (L2 L1 : fo_L) (c : Nat), ts_L s = L1 ++ L2 → am_wp yM_told 36 [.inr (.inl (4, some N)), l1, .inl (nI c), .inl (nI L1.length)] [] M K = K (some (.inl (nI (c + (L2.filter (fun q => q.2 == 0 && tq_hh s q.1)).length)))) M := by
  have ho := ml_ok_of hs
  have h20 := ho.2.1
  intro L2
  induction L2 with
  | nil =>
    intro L1 c hL
    have e : (ts_L s).length = L1.length := by rw [hL]; simp
    rw [wM_told_36]
    simp only [wM_told_0, wM_told_1, wM_told_2, wM_told_5, wM_told_6, wM_told_9, wM_told_10, wM_told_13, wM_told_14, wM_told_15, wM_told_16, wM_told_19, wM_told_20, wM_told_23, wM_told_24, wM_told_25, wM_told_26, wM_told_29, wM_told_31, wM_told_32, wM_told_33, wM_told_34, wM_told_35, wM_told_37, wM_told_38, wM_told_41, wM_told_44, wM_told_45, wM_told_46, wM_told_49, wM_told_51, wM_told_54, wM_told_55, wM_told_56, wM_told_59, wM_told_61, wM_told_62, wM_told_65, wM_told_68, wM_told_69, wM_told_70, wM_told_73, wM_told_75, wM_told_77, wM_told_80, wM_told_83, wM_told_84, wM_told_87, wM_told_88, wM_told_89, wM_told_90, wM_told_93, wM_told_96, wM_told_97, h.1.2.1, e, nI_nlt (Nat.le_refl L1.length) (show L1.length < 2 ^ 31 by omega), if_false]
    simp
  | cons q L2 ih =>
    intro L1 c hL
    have e : (ts_L s).length = L1.length + (L2.length + 1) := by rw [hL]; simp
    have hq : (ts_L s)[L1.length]? = some q := by rw [hL]; simp
    have hl : ts_lv s q.1 := List.mem_map_of_mem (ml_mem hq)
    have hq2 := (ho.2.2 q (ml_mem hq)).2
    have nx := fun c => ih (L1 ++ [q]) c (by rw [hL]; simp)
    simp only [List.length_append, List.length_singleton] at nx
    rw [wM_told_36]
    simp only [wM_told_0, wM_told_1, wM_told_2, wM_told_5, wM_told_6, wM_told_9, wM_told_10, wM_told_13, wM_told_14, wM_told_15, wM_told_16, wM_told_19, wM_told_20, wM_told_23, wM_told_24, wM_told_25, wM_told_26, wM_told_29, wM_told_31, wM_told_32, wM_told_33, wM_told_34, wM_told_35, wM_told_37, wM_told_38, wM_told_41, wM_told_44, wM_told_45, wM_told_46, wM_told_49, wM_told_51, wM_told_54, wM_told_55, wM_told_56, wM_told_59, wM_told_61, wM_told_62, wM_told_65, wM_told_68, wM_told_69, wM_told_70, wM_told_73, wM_told_75, wM_told_77, wM_told_80, wM_told_83, wM_told_84, wM_told_87, wM_told_88, wM_told_89, wM_told_90, wM_told_93, wM_told_96, wM_told_97, h.1.2.1, nI_lt (show L1.length < (ts_L s).length by omega) (show (ts_L s).length < 2 ^ 31 by omega), if_true, h.1.1.1, h.1.1.2.1, wM_told_50 (am_ok_nI (show L1.length < 20 by omega) (by decide)), wM_told_60 (am_ok_nI (show L1.length < 20 by omega) (by decide)), wM_told_74 (am_ok_nI (show L1.length < 20 by omega) (by decide)), nI_clamp (show L1.length < 2 ^ 31 by omega), (h.1.2.2 _ q hq).1, (h.1.2.2 _ q hq).2, nk0 (show q.2 < 1000 by omega), mM_of0 h hs hl, mM_of6 h hs hl, true_or, or_true, Option.toList_some, Option.toList_none, List.cons_append, List.nil_append, am_b0]
    have add0 : nI c + 0 = nI c := Int32.add_zero _
    rw [List.filter_cons]
    by_cases c1 : q.2 = 0
    · cases c2 : ts_kd s q.1 == 0 with
      | true =>
        have : tq_hh s q.1 = false := by unfold tq_hh; simp [c2]
        simp only [c1, c2, this, if_true, reduceCtorEq, if_false, wM_told_0, wM_told_1, wM_told_2, wM_told_5, wM_told_6, wM_told_9, wM_told_10, wM_told_13, wM_told_14, wM_told_15, wM_told_16, wM_told_19, wM_told_20, wM_told_23, wM_told_24, wM_told_25, wM_told_26, wM_told_29, wM_told_31, wM_told_32, wM_told_33, wM_told_34, wM_told_35, wM_told_37, wM_told_38, wM_told_41, wM_told_44, wM_told_45, wM_told_46, wM_told_49, wM_told_51, wM_told_54, wM_told_55, wM_told_56, wM_told_59, wM_told_61, wM_told_62, wM_told_65, wM_told_68, wM_told_69, wM_told_70, wM_told_73, wM_told_75, wM_told_77, wM_told_80, wM_told_83, wM_told_84, wM_told_87, wM_told_88, wM_told_89, wM_told_90, wM_told_93, wM_told_96, wM_told_97, add0, nI_1, Bool.and_false]
        exact nx c
      | false =>
        cases c3 : ts_kd s q.1 == 6 with
        | true =>
          have : tq_hh s q.1 = false := by unfold tq_hh; simp [c3]
          simp only [c1, c2, c3, this, if_true, reduceCtorEq, if_false, wM_told_0, wM_told_1, wM_told_2, wM_told_5, wM_told_6, wM_told_9, wM_told_10, wM_told_13, wM_told_14, wM_told_15, wM_told_16, wM_told_19, wM_told_20, wM_told_23, wM_told_24, wM_told_25, wM_told_26, wM_told_29, wM_told_31, wM_told_32, wM_told_33, wM_told_34, wM_told_35, wM_told_37, wM_told_38, wM_told_41, wM_told_44, wM_told_45, wM_told_46, wM_told_49, wM_told_51, wM_told_54, wM_told_55, wM_told_56, wM_told_59, wM_told_61, wM_told_62, wM_told_65, wM_told_68, wM_told_69, wM_told_70, wM_told_73, wM_told_75, wM_told_77, wM_told_80, wM_told_83, wM_told_84, wM_told_87, wM_told_88, wM_told_89, wM_told_90, wM_told_93, wM_told_96, wM_told_97, add0, nI_1, Bool.and_false]
          exact nx c
        | false =>
          have : tq_hh s q.1 = true := by unfold tq_hh; simp [c2, c3]
          simp only [c1, c2, c3, this, if_true, wM_told_0, wM_told_1, wM_told_2, wM_told_5, wM_told_6, wM_told_9, wM_told_10, wM_told_13, wM_told_14, wM_told_15, wM_told_16, wM_told_19, wM_told_20, wM_told_23, wM_told_24, wM_told_25, wM_told_26, wM_told_29, wM_told_31, wM_told_32, wM_told_33, wM_told_34, wM_told_35, wM_told_37, wM_told_38, wM_told_41, wM_told_44, wM_told_45, wM_told_46, wM_told_49, wM_told_51, wM_told_54, wM_told_55, wM_told_56, wM_told_59, wM_told_61, wM_told_62, wM_told_65, wM_told_68, wM_told_69, wM_told_70, wM_told_73, wM_told_75, wM_told_77, wM_told_80, wM_told_83, wM_told_84, wM_told_87, wM_told_88, wM_told_89, wM_told_90, wM_told_93, wM_told_96, wM_told_97, nI_1, BEq.rfl, Bool.and_self, List.length_cons]
          rw [nx (c + 1), show c + 1 + (L2.filter (fun q => q.2 == 0 && tq_hh s q.1)).length = c + ((L2.filter (fun q => q.2 == 0 && tq_hh s q.1)).length + 1) by omega]
    · have : (q.2 == 0) = false := by simp [c1]
      simp only [c1, this, if_false, wM_told_0, wM_told_1, wM_told_2, wM_told_5, wM_told_6, wM_told_9, wM_told_10, wM_told_13, wM_told_14, wM_told_15, wM_told_16, wM_told_19, wM_told_20, wM_told_23, wM_told_24, wM_told_25, wM_told_26, wM_told_29, wM_told_31, wM_told_32, wM_told_33, wM_told_34, wM_told_35, wM_told_37, wM_told_38, wM_told_41, wM_told_44, wM_told_45, wM_told_46, wM_told_49, wM_told_51, wM_told_54, wM_told_55, wM_told_56, wM_told_59, wM_told_61, wM_told_62, wM_told_65, wM_told_68, wM_told_69, wM_told_70, wM_told_73, wM_told_75, wM_told_77, wM_told_80, wM_told_83, wM_told_84, wM_told_87, wM_told_88, wM_told_89, wM_told_90, wM_told_93, wM_told_96, wM_told_97, add0, nI_1, Bool.false_and, reduceCtorEq]
      exact nx c
theorem mM_told (h : mp N s M) (hs : ts_ok s) (w : Int32) : am_wp yM_told 0 [.inr (.inl (4, some N)), .inl w, am_u, am_u] [] M K = K (some (.inl (sp_told s w))) (am_si M N 0 0) := by
  have h' := mp_th h
  unfold sp_told
  by_cases h0 : w = 0
  · simp [wM_told_0, wM_told_1, wM_told_2, wM_told_5, wM_told_6, wM_told_9, wM_told_10, wM_told_13, wM_told_14, wM_told_15, wM_told_16, wM_told_19, wM_told_20, wM_told_23, wM_told_24, wM_told_25, wM_told_26, wM_told_29, wM_told_31, wM_told_32, wM_told_33, wM_told_34, wM_told_35, wM_told_37, wM_told_38, wM_told_41, wM_told_44, wM_told_45, wM_told_46, wM_told_49, wM_told_51, wM_told_54, wM_told_55, wM_told_56, wM_told_59, wM_told_61, wM_told_62, wM_told_65, wM_told_68, wM_told_69, wM_told_70, wM_told_73, wM_told_75, wM_told_77, wM_told_80, wM_told_83, wM_told_84, wM_told_87, wM_told_88, wM_told_89, wM_told_90, wM_told_93, wM_told_96, wM_told_97, h0, h'.1.2.1, told0 hs]
  · by_cases h1 : w = 1
    · simp [wM_told_0, wM_told_1, wM_told_2, wM_told_5, wM_told_6, wM_told_9, wM_told_10, wM_told_13, wM_told_14, wM_told_15, wM_told_16, wM_told_19, wM_told_20, wM_told_23, wM_told_24, wM_told_25, wM_told_26, wM_told_29, wM_told_31, wM_told_32, wM_told_33, wM_told_34, wM_told_35, wM_told_37, wM_told_38, wM_told_41, wM_told_44, wM_told_45, wM_told_46, wM_told_49, wM_told_51, wM_told_54, wM_told_55, wM_told_56, wM_told_59, wM_told_61, wM_told_62, wM_told_65, wM_told_68, wM_told_69, wM_told_70, wM_told_73, wM_told_75, wM_told_77, wM_told_80, wM_told_83, wM_told_84, wM_told_87, wM_told_88, wM_told_89, wM_told_90, wM_told_93, wM_told_96, wM_told_97, h1, h'.2.2.1]
    · by_cases h2 : w = 2
      · have := mM_told_l (K := K) h' hs (.inl w) (ts_L s) [] 0 rfl
        simp only [List.length_nil, Nat.zero_add, nI_0] at this
        simp only [wM_told_0, wM_told_1, wM_told_2, wM_told_5, wM_told_6, wM_told_9, wM_told_10, wM_told_13, wM_told_14, wM_told_15, wM_told_16, wM_told_19, wM_told_20, wM_told_23, wM_told_24, wM_told_25, wM_told_26, wM_told_29, wM_told_31, wM_told_32, wM_told_33, wM_told_34, wM_told_35, wM_told_37, wM_told_38, wM_told_41, wM_told_44, wM_told_45, wM_told_46, wM_told_49, wM_told_51, wM_told_54, wM_told_55, wM_told_56, wM_told_59, wM_told_61, wM_told_62, wM_told_65, wM_told_68, wM_told_69, wM_told_70, wM_told_73, wM_told_75, wM_told_77, wM_told_80, wM_told_83, wM_told_84, wM_told_87, wM_told_88, wM_told_89, wM_told_90, wM_told_93, wM_told_96, wM_told_97, h2, h0, h1, if_false, if_true, show ¬ (2 : Int32) = 0 by decide, show ¬ (2 : Int32) = 1 by decide]
        rw [h2] at this
        rw [this, told2 hs]
      · simp [wM_told_0, wM_told_1, wM_told_2, wM_told_5, wM_told_6, wM_told_9, wM_told_10, wM_told_13, wM_told_14, wM_told_15, wM_told_16, wM_told_19, wM_told_20, wM_told_23, wM_told_24, wM_told_25, wM_told_26, wM_told_29, wM_told_31, wM_told_32, wM_told_33, wM_told_34, wM_told_35, wM_told_37, wM_told_38, wM_told_41, wM_told_44, wM_told_45, wM_told_46, wM_told_49, wM_told_51, wM_told_54, wM_told_55, wM_told_56, wM_told_59, wM_told_61, wM_told_62, wM_told_65, wM_told_68, wM_told_69, wM_told_70, wM_told_73, wM_told_75, wM_told_77, wM_told_80, wM_told_83, wM_told_84, wM_told_87, wM_told_88, wM_told_89, wM_told_90, wM_told_93, wM_told_96, wM_told_97, h0, h1, h2]
end MQ
