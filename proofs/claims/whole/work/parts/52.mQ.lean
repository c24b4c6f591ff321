-- THE REFERENCE: the calls that ask
section MQ
variable {N : Nat} {s : ts_S} {M M' : am_M} {K : Option am_V → am_M → Prop} {n : Nat}
def mxR (N b : Nat) : Prop := N ≤ b ∧ b ≤ N + 15
-- what does not matter for the picture
theorem mp_kp (h : mp N s M) (hr : ∀ b j, am_mr M' b j = am_mr M b j) (hi : ∀ b j, (b = N ∧ j = 0) ∨ b = N + 11 ∨ b = N + 13 ∨ b = N + 14 ∨ b = N + 15 ∨ am_mi M' b j = am_mi M b j) : mp N s M' := by
  have g : ∀ b j, ¬ (b = N ∧ j = 0) → ¬ b = N + 11 → ¬ b = N + 13 → ¬ b = N + 14 → ¬ b = N + 15 → am_mi M' b j = am_mi M b j := fun b j h1 h2 h3 h4 h5 => by
    rcases hi b j with z | z | z | z | z | z
    · exact absurd z h1
    · exact absurd z h2
    · exact absurd z h3
    · exact absurd z h4
    · exact absurd z h5
    · exact z
  obtain ⟨⟨hp, hz, hq⟩, h1, h2, h3, h4⟩ := h
  refine ⟨⟨?_, ?_, ?_⟩, ?_, ?_, ?_, ?_⟩
  · unfold mp_s at hp ⊢
    simp only [hr]
    exact hp
  · rw [g N 4 (by omega) (by omega) (by omega) (by omega) (by omega)]; exact hz
  · intro j q hj
    rw [g (N + 1) j (by omega) (by omega) (by omega) (by omega) (by omega), g (N + 2) j (by omega) (by omega) (by omega) (by omega) (by omega)]
    exact hq j q hj
  · rw [g N 1 (by omega) (by omega) (by omega) (by omega) (by omega)]; exact h1
  · rw [g N 15 (by omega) (by omega) (by omega) (by omega) (by omega)]; exact h2
  · intro j hj
    rw [g (N + 12) j (by omega) (by omega) (by omega) (by omega) (by omega)]; exact h3 j hj
  · intro n hn
    have := h4 n hn
    unfold mp_o at this ⊢
    rw [g (N + 3) n (by omega) (by omega) (by omega) (by omega) (by omega), g (N + 4) n (by omega) (by omega) (by omega) (by omega) (by omega), g (N + 5) n (by omega) (by omega) (by omega) (by omega) (by omega), g (N + 6) n (by omega) (by omega) (by omega) (by omega) (by omega), g (N + 7) n (by omega) (by omega) (by omega) (by omega) (by omega), g (N + 8) n (by omega) (by omega) (by omega) (by omega) (by omega), g (N + 9) n (by omega) (by omega) (by omega) (by omega) (by omega), g (N + 10) n (by omega) (by omega) (by omega) (by omega) (by omega)]
    exact this
theorem mp_th (h : mp N s M) : mp N s (am_si M N 0 0) := mp_kp h (fun _ _ => rfl) (fun b j => by
  by_cases q : b = N ∧ j = 0
  · exact Or.inl q
  · exact Or.inr (Or.inr (Or.inr (Or.inr (Or.inr (by rw [am_mi_si, if_neg q]))))))
theorem fx_th0 : fx_f (mxR N) M (am_si M N 0 0) := fx_f_si (by unfold mxR; omega)
-- holder, way, root, ring
theorem mM_holder (h : mp N s M) (hs : ts_ok s) (v : Int32) : am_wp yM_holder 0 [.inr (.inl (4, some N)), .inl v, am_u] [] M K = K (some (.inl (sp_holder s v))) (am_si M N 0 0) := by
  have h' := mp_th h
  unfold sp_holder
  cases hv : ts_id s v with
  | none => simp [wM_holder_0, wM_holder_1, wM_holder_2, wM_holder_5, wM_holder_6, wM_holder_7, wM_holder_10, wM_holder_13, wM_holder_14, wM_holder_15, wM_holder_16, wM_holder_17, wM_holder_20, wM_holder_21, wM_holder_22, wM_holder_25, wM_holder_27, wM_holder_30, wM_holder_31, mM_is h' hs, hv, am_b]
  | some n =>
    obtain ⟨rfl, hl, h20⟩ := ts_id_some hv
    simp only [wM_holder_0, wM_holder_1, wM_holder_2, wM_holder_5, wM_holder_6, wM_holder_7, wM_holder_10, wM_holder_13, wM_holder_14, wM_holder_15, wM_holder_16, wM_holder_17, wM_holder_20, wM_holder_21, wM_holder_22, wM_holder_25, wM_holder_27, wM_holder_30, wM_holder_31, mM_is h' hs, hv, Option.isSome_some, true_or, or_true, Option.toList_some, Option.toList_none, List.cons_append, List.nil_append, am_b0, reduceCtorEq, if_false, mM_ov h' hs hl, nm_lt (ts_pa s n) (pa_20 hs)]
    cases hp : ts_pa s n <;> simp [wM_holder_0, wM_holder_1, wM_holder_2, wM_holder_5, wM_holder_6, wM_holder_7, wM_holder_10, wM_holder_13, wM_holder_14, wM_holder_15, wM_holder_16, wM_holder_17, wM_holder_20, wM_holder_21, wM_holder_22, wM_holder_25, wM_holder_27, wM_holder_30, wM_holder_31, ts_no, ts_nm]
theorem mM_way (h : mp N s M) (hs : ts_ok s) (v : Int32) : am_wp yM_way 0 [.inr (.inl (4, some N)), .inl v] [] M K = K (some (.inl (sp_way s v))) (am_si M N 0 0) := by
  have h' := mp_th h
  unfold sp_way
  cases hv : ts_id s v with
  | none => simp [wM_way_0, wM_way_1, wM_way_2, wM_way_5, wM_way_6, wM_way_7, wM_way_10, wM_way_13, wM_way_14, wM_way_15, wM_way_16, wM_way_17, wM_way_20, wM_way_23, wM_way_25, wM_way_28, wM_way_29, wM_way_32, wM_way_34, mM_is h' hs, hv, am_b]
  | some n =>
    obtain ⟨rfl, hl, h20⟩ := ts_id_some hv
    simp only [wM_way_0, wM_way_1, wM_way_2, wM_way_5, wM_way_6, wM_way_7, wM_way_10, wM_way_13, wM_way_14, wM_way_15, wM_way_16, wM_way_17, wM_way_20, wM_way_23, wM_way_25, wM_way_28, wM_way_29, wM_way_32, wM_way_34, mM_is h' hs, hv, Option.isSome_some, true_or, or_true, Option.toList_some, Option.toList_none, List.cons_append, List.nil_append, am_b0, reduceCtorEq, if_false, mM_ov h' hs hl, nm_lt (ts_pa s n) (pa_20 hs), h'.1.1.2.2.2.2.1, wM_way_33 (am_ok_nI h20 (by decide)), nI_clamp (show n < 2 ^ 31 by omega)]
    cases hp : ts_pa s n with
    | none => simp [wM_way_0, wM_way_1, wM_way_2, wM_way_5, wM_way_6, wM_way_7, wM_way_10, wM_way_13, wM_way_14, wM_way_15, wM_way_16, wM_way_17, wM_way_20, wM_way_23, wM_way_25, wM_way_28, wM_way_29, wM_way_32, wM_way_34, ts_way, hp]
    | some p =>
      have := (h'.2.2.2.2 n hl).2.2.1 p hp
      simp [wM_way_0, wM_way_1, wM_way_2, wM_way_5, wM_way_6, wM_way_7, wM_way_10, wM_way_13, wM_way_14, wM_way_15, wM_way_16, wM_way_17, wM_way_20, wM_way_23, wM_way_25, wM_way_28, wM_way_29, wM_way_32, wM_way_34, ts_way, hp, this]
theorem mM_root (h : mp N s M) (hs : ts_ok s) (v : Int32) : am_wp yM_root 0 [.inr (.inl (4, some N)), .inl v] [] M K = K (some (.inl (sp_root s v))) (am_si M N 0 0) := by
  have h' := mp_th h
  unfold sp_root
  cases hv : ts_id s v with
  | none => simp [wM_root_0, wM_root_1, wM_root_2, wM_root_5, wM_root_6, wM_root_7, wM_root_10, wM_root_13, wM_root_14, wM_root_15, wM_root_18, wM_root_21, wM_root_22, mM_is h' hs, hv, am_b]
  | some n =>
    obtain ⟨rfl, hl, h20⟩ := ts_id_some hv
    simp only [wM_root_0, wM_root_1, wM_root_2, wM_root_5, wM_root_6, wM_root_7, wM_root_10, wM_root_13, wM_root_14, wM_root_15, wM_root_18, wM_root_21, wM_root_22, mM_is h' hs, hv, Option.isSome_some, true_or, or_true, Option.toList_some, Option.toList_none, List.cons_append, List.nil_append, am_b0, reduceCtorEq, if_false, mM_tp h' hs hl]
theorem mM_ring (h : mp N s M) (hs : ts_ok s) (v w : Int32) : am_wp yM_ring 0 [.inr (.inl (4, some N)), .inl v, .inl w] [] M K = K (some (.inl (sp_ring s v w))) (am_si M N 0 0) := by
  have h' := mp_th h
  unfold sp_ring
  cases hv : ts_id s v with
  | none => simp [wM_ring_0, wM_ring_1, wM_ring_2, wM_ring_5, wM_ring_6, wM_ring_7, wM_ring_10, wM_ring_13, wM_ring_14, wM_ring_15, wM_ring_18, wM_ring_21, wM_ring_22, wM_ring_23, wM_ring_24, wM_ring_25, wM_ring_26, wM_ring_29, wM_ring_32, wM_ring_33, wM_ring_36, wM_ring_37, mM_is h' hs, hv, am_b]
  | some n =>
    obtain ⟨rfl, hl, h20⟩ := ts_id_some hv
    cases hw : ts_id s w with
    | none => simp [wM_ring_0, wM_ring_1, wM_ring_2, wM_ring_5, wM_ring_6, wM_ring_7, wM_ring_10, wM_ring_13, wM_ring_14, wM_ring_15, wM_ring_18, wM_ring_21, wM_ring_22, wM_ring_23, wM_ring_24, wM_ring_25, wM_ring_26, wM_ring_29, wM_ring_32, wM_ring_33, wM_ring_36, wM_ring_37, mM_is h' hs, hv, hw, am_b]
    | some m =>
      obtain ⟨rfl, hm, m20⟩ := ts_id_some hw
      simp only [wM_ring_0, wM_ring_1, wM_ring_2, wM_ring_5, wM_ring_6, wM_ring_7, wM_ring_10, wM_ring_13, wM_ring_14, wM_ring_15, wM_ring_18, wM_ring_21, wM_ring_22, wM_ring_23, wM_ring_24, wM_ring_25, wM_ring_26, wM_ring_29, wM_ring_32, wM_ring_33, wM_ring_36, wM_ring_37, mM_is h' hs, hv, hw, Option.isSome_some, true_or, or_true, Option.toList_some, Option.toList_none, List.cons_append, List.nil_append, am_b0, reduceCtorEq, if_false, mM_hs h' hs hl hm]
      rw [show decide (m ∈ fo_w (ts_L s) n) = tq_in s m n from rfl]
      cases tq_in s m n <;> simp [wM_ring_0, wM_ring_1, wM_ring_2, wM_ring_5, wM_ring_6, wM_ring_7, wM_ring_10, wM_ring_13, wM_ring_14, wM_ring_15, wM_ring_18, wM_ring_21, wM_ring_22, wM_ring_23, wM_ring_24, wM_ring_25, wM_ring_26, wM_ring_29, wM_ring_32, wM_ring_33, wM_ring_36, wM_ring_37, am_b]
theorem fo_w_l {L A r : fo_L} {d : Nat} (hL : L = A ++ (n, d) :: r) (hA : n ∉ A.map (·.1)) : (fo_w L n).length = 1 + (fo_sg d r).length := by
  rw [hL, fo_w_at hA]; simp; omega
theorem mM_count (h : mp N s M) (hs : ts_ok s) (v : Int32) : am_wp yM_count 0 [.inr (.inl (4, some N)), .inl v] [] M K = K (some (.inl (sp_count s v))) (am_si M N 0 0) := by
  have h' := mp_th h
  have ho := ml_ok_of hs
  unfold sp_count
  cases hv : ts_id s v with
  | none => simp [wM_count_0, wM_count_1, wM_count_2, wM_count_5, wM_count_6, wM_count_7, wM_count_10, wM_count_13, wM_count_14, wM_count_15, wM_count_16, wM_count_19, wM_count_22, wM_count_23, wM_count_24, wM_count_27, wM_count_28, wM_count_29, wM_count_30, wM_count_33, wM_count_34, mM_is h' hs, hv, am_b]
  | some n =>
    obtain ⟨rfl, hl, h20⟩ := ts_id_some hv
    obtain ⟨A, d, r, hL, hA⟩ := fo_split hl
    have hi : (ts_L s)[A.length]? = some (n, d) := by rw [hL]; simp
    simp only [wM_count_0, wM_count_1, wM_count_2, wM_count_5, wM_count_6, wM_count_7, wM_count_10, wM_count_13, wM_count_14, wM_count_15, wM_count_16, wM_count_19, wM_count_22, wM_count_23, wM_count_24, wM_count_27, wM_count_28, wM_count_29, wM_count_30, wM_count_33, wM_count_34, mM_is h' hs, hv, Option.isSome_some, true_or, or_true, Option.toList_some, Option.toList_none, List.cons_append, List.nil_append, am_b0, reduceCtorEq, if_false, mM_at h'.1 ho hi, mM_end h'.1 ho hL]
    rw [pk_sub (show A.length ≤ A.length + 1 + (fo_sg d r).length by omega), fo_w_l hL hA, show A.length + 1 + (fo_sg d r).length - A.length = 1 + (fo_sg d r).length by omega]
theorem mM_walk (h : mp N s M) (hs : ts_ok s) (v i : Int32) : am_wp yM_walk 0 [.inr (.inl (4, some N)), .inl v, .inl i, am_u] [] M K = K (some (.inl (sp_walk s v i))) (am_si M N 0 0) := by
  have h' := mp_th h
  have ho := ml_ok_of hs
  unfold sp_walk
  cases hv : ts_id s v with
  | none => simp [wM_walk_0, wM_walk_1, wM_walk_2, wM_walk_5, wM_walk_6, wM_walk_7, wM_walk_10, wM_walk_13, wM_walk_14, wM_walk_15, wM_walk_16, wM_walk_17, wM_walk_20, wM_walk_21, wM_walk_22, wM_walk_25, wM_walk_26, wM_walk_27, wM_walk_28, wM_walk_31, wM_walk_32, wM_walk_33, wM_walk_36, wM_walk_37, wM_walk_40, wM_walk_41, wM_walk_42, wM_walk_44, wM_walk_47, wM_walk_49, mM_is h' hs, hv, am_b]
  | some n =>
    obtain ⟨rfl, hl, h20⟩ := ts_id_some hv
    obtain ⟨A, d, r, hL, hA⟩ := fo_split hl
    have hi : (ts_L s)[A.length]? = some (n, d) := by rw [hL]; simp
    have hsg : A.length + 1 + (fo_sg d r).length ≤ (ts_L s).length := by
      have : r.length = (fo_sg d r).length + (fo_rs d r).length := by rw [← List.length_append, fo_sr]
      rw [hL]; simp; omega
    have h20' := ho.2.1
    simp only [wM_walk_0, wM_walk_1, wM_walk_2, wM_walk_5, wM_walk_6, wM_walk_7, wM_walk_10, wM_walk_13, wM_walk_14, wM_walk_15, wM_walk_16, wM_walk_17, wM_walk_20, wM_walk_21, wM_walk_22, wM_walk_25, wM_walk_26, wM_walk_27, wM_walk_28, wM_walk_31, wM_walk_32, wM_walk_33, wM_walk_36, wM_walk_37, wM_walk_40, wM_walk_41, wM_walk_42, wM_walk_44, wM_walk_47, wM_walk_49, mM_is h' hs, hv, Option.isSome_some, true_or, or_true, Option.toList_some, Option.toList_none, List.cons_append, List.nil_append, am_b0, reduceCtorEq, if_false, mM_at h'.1 ho hi, mM_end h'.1 ho hL, pk_sub (show A.length ≤ A.length + 1 + (fo_sg d r).length by omega), show A.length + 1 + (fo_sg d r).length - A.length = 1 + (fo_sg d r).length by omega, fo_w_l hL hA]
    by_cases c : i < 0
    · simp [c, wM_walk_0, wM_walk_1, wM_walk_2, wM_walk_5, wM_walk_6, wM_walk_7, wM_walk_10, wM_walk_13, wM_walk_14, wM_walk_15, wM_walk_16, wM_walk_17, wM_walk_20, wM_walk_21, wM_walk_22, wM_walk_25, wM_walk_26, wM_walk_27, wM_walk_28, wM_walk_31, wM_walk_32, wM_walk_33, wM_walk_36, wM_walk_37, wM_walk_40, wM_walk_41, wM_walk_42, wM_walk_44, wM_walk_47, wM_walk_49]
    · obtain ⟨j, hj, rfl⟩ := nI_of c
      simp only [c, if_false]
      by_cases c2 : nI j < nI (1 + (fo_sg d r).length)
      · have hjl := (nI_ltI hj (by omega)).mp c2
        simp only [c2, if_true, nI_add, h'.1.1.1, wM_walk_43 (am_ok_nI (show A.length + j < 20 by omega) (by decide)), nI_clamp (show A.length + j < 2 ^ 31 by omega), nI_clamp hj]
        obtain ⟨q, hq⟩ := ml_ex (L := ts_L s) (i := A.length + j) (by omega)
        rw [(h'.1.2.2 _ q hq).1, wM_walk_44, wM_walk_49]
        have hw : fo_w (ts_L s) n = ((n, d) :: fo_sg d r).map (·.1) := by rw [hL, fo_w_at hA]; rfl
        have hL2 : ts_L s = A ++ (((n, d) :: fo_sg d r) ++ fo_rs d r) := by rw [hL, List.cons_append, fo_sr]
        rw [hL2, List.getElem?_append_right (by omega), show A.length + j - A.length = j by omega, List.getElem?_append_left (by rw [List.length_cons]; omega)] at hq
        have : (fo_w (ts_L s) n).getD j 0 = q.1 := by
          rw [hw, List.getD_eq_getElem?_getD, List.getElem?_map, hq]; rfl
        rw [this]
      · simp [c2, wM_walk_0, wM_walk_1, wM_walk_2, wM_walk_5, wM_walk_6, wM_walk_7, wM_walk_10, wM_walk_13, wM_walk_14, wM_walk_15, wM_walk_16, wM_walk_17, wM_walk_20, wM_walk_21, wM_walk_22, wM_walk_25, wM_walk_26, wM_walk_27, wM_walk_28, wM_walk_31, wM_walk_32, wM_walk_33, wM_walk_36, wM_walk_37, wM_walk_40, wM_walk_41, wM_walk_42, wM_walk_44, wM_walk_47, wM_walk_49]
theorem ml_sg {L A r S1 S2 : fo_L} {d : Nat} {q : Nat × Nat} (hL : L = A ++ (n, d) :: r) (hS : fo_sg d r = S1 ++ q :: S2) : L[A.length + 1 + S1.length]? = some q := by
  have hL2 : L = (A ++ (n, d) :: S1) ++ q :: (S2 ++ fo_rs d r) := by
    have := fo_sr d r
    rw [hS] at this
    rw [hL, ← this]; simp
  rw [hL2, List.getElem?_append_right (by simp; omega)]
  simp [show A.length + 1 + S1.length - (A.length + (S1.length + 1)) = 0 by omega]
theorem mM_child_l (h : mp N s M) (hs : ts_ok s) {A r : fo_L} {d : Nat} (hL : ts_L s = A ++ (n, d) :: r) (i : Int32) (l1 : am_V) : ∀ (S2 S1 : fo_L), fo_sg d r = S1 ++ S2 → am_wp yM_child 29 [.inr (.inl (4, some N)), l1, .inl i, .inl (nI A.length), .inl (nI ((S1.filter (fun q => q.2 == d + 1)).map (·.1)).length), .inl (nI (A.length + 1 + S1.length))] [] M K = K (some (.inl (ls_at ((S2.filter (fun q => q.2 == d + 1)).map (·.1)) ((S1.filter (fun q => q.2 == d + 1)).map (·.1)).length i))) M := by
  have ho := ml_ok_of hs
  have h20 := ho.2.1
  have hn : (ts_L s)[A.length]? = some (n, d) := by rw [hL]; simp
  have hd2 := (ho.2.2 _ (ml_mem hn)).2
  simp at hd2
  have hsg : A.length + 1 + (fo_sg d r).length ≤ (ts_L s).length := by
    have : r.length = (fo_sg d r).length + (fo_rs d r).length := by rw [← List.length_append, fo_sr]
    rw [hL]; simp; omega
  intro S2
  induction S2 with
  | nil =>
    intro S1 hS
    have e : (fo_sg d r).length = S1.length := by rw [hS]; simp
    rw [wM_child_29]
    simp only [wM_child_0, wM_child_1, wM_child_2, wM_child_5, wM_child_6, wM_child_7, wM_child_10, wM_child_13, wM_child_14, wM_child_15, wM_child_16, wM_child_17, wM_child_20, wM_child_21, wM_child_22, wM_child_24, wM_child_25, wM_child_26, wM_child_27, wM_child_31, wM_child_32, wM_child_33, wM_child_36, wM_child_39, wM_child_40, wM_child_43, wM_child_46, wM_child_47, wM_child_50, wM_child_52, wM_child_53, wM_child_54, wM_child_57, wM_child_59, wM_child_60, wM_child_63, wM_child_64, wM_child_67, wM_child_70, wM_child_71, wM_child_74, wM_child_77, wM_child_80, wM_child_82, mM_end h.1 ho hL, true_or, or_true, Option.toList_some, Option.toList_none, List.cons_append, List.nil_append, e, nI_nlt (Nat.le_refl (A.length + 1 + S1.length)) (show A.length + 1 + S1.length < 2 ^ 31 by omega), if_false]
    simp [ls_at]
  | cons q S2 ih =>
    intro S1 hS
    have e : (fo_sg d r).length = S1.length + (S2.length + 1) := by rw [hS]; simp
    have hq := ml_sg hL hS
    have hq2 := (ho.2.2 q (ml_mem hq)).2
    have hlen : ((S1.filter (fun q => q.2 == d + 1)).map (·.1)).length ≤ S1.length := by rw [List.length_map]; exact List.length_filter_le _ _
    have nx := ih (S1 ++ [q]) (by rw [hS]; simp)
    rw [show A.length + 1 + (S1 ++ [q]).length = A.length + 1 + S1.length + 1 by simp; omega] at nx
    rw [wM_child_29]
    simp only [wM_child_0, wM_child_1, wM_child_2, wM_child_5, wM_child_6, wM_child_7, wM_child_10, wM_child_13, wM_child_14, wM_child_15, wM_child_16, wM_child_17, wM_child_20, wM_child_21, wM_child_22, wM_child_24, wM_child_25, wM_child_26, wM_child_27, wM_child_31, wM_child_32, wM_child_33, wM_child_36, wM_child_39, wM_child_40, wM_child_43, wM_child_46, wM_child_47, wM_child_50, wM_child_52, wM_child_53, wM_child_54, wM_child_57, wM_child_59, wM_child_60, wM_child_63, wM_child_64, wM_child_67, wM_child_70, wM_child_71, wM_child_74, wM_child_77, wM_child_80, wM_child_82, mM_end h.1 ho hL, true_or, or_true, Option.toList_some, Option.toList_none, List.cons_append, List.nil_append, nI_lt (show A.length + 1 + S1.length < A.length + 1 + (fo_sg d r).length by omega) (show A.length + 1 + (fo_sg d r).length < 2 ^ 31 by omega), if_true, h.1.1.1, h.1.1.2.1, wM_child_45 (am_ok_nI (show A.length + 1 + S1.length < 20 by omega) (by decide)), wM_child_51 (am_ok_nI (show A.length < 20 by omega) (by decide)), wM_child_69 (am_ok_nI (show A.length + 1 + S1.length < 20 by omega) (by decide)), nI_clamp (show A.length + 1 + S1.length < 2 ^ 31 by omega), nI_clamp (show A.length < 2 ^ 31 by omega), (h.1.2.2 _ q hq).1, (h.1.2.2 _ q hq).2, (h.1.2.2 _ _ hn).2, nI_1, nI_eq (show q.2 < 2 ^ 31 by omega) (show d + 1 < 2 ^ 31 by omega)]
    by_cases c : q.2 = d + 1
    · have e1 : (q :: S2).filter (fun q => q.2 == d + 1) = q :: S2.filter (fun q => q.2 == d + 1) := by simp [c]
      have e2 : (S1 ++ [q]).filter (fun q => q.2 == d + 1) = S1.filter (fun q => q.2 == d + 1) ++ [q] := by simp [List.filter_append, c]
      rw [e2, List.map_append, List.length_append] at nx
      simp only [c, if_true]
      rw [e1, List.map_cons, ls_at]
      by_cases c2 : nI ((S1.filter (fun q => q.2 == d + 1)).map (·.1)).length = i
      · simp only [c2, if_true, wM_child_0, wM_child_1, wM_child_2, wM_child_5, wM_child_6, wM_child_7, wM_child_10, wM_child_13, wM_child_14, wM_child_15, wM_child_16, wM_child_17, wM_child_20, wM_child_21, wM_child_22, wM_child_24, wM_child_25, wM_child_26, wM_child_27, wM_child_31, wM_child_32, wM_child_33, wM_child_36, wM_child_39, wM_child_40, wM_child_43, wM_child_46, wM_child_47, wM_child_50, wM_child_52, wM_child_53, wM_child_54, wM_child_57, wM_child_59, wM_child_60, wM_child_63, wM_child_64, wM_child_67, wM_child_70, wM_child_71, wM_child_74, wM_child_77, wM_child_80, wM_child_82]
      · simp only [c2, if_false, wM_child_0, wM_child_1, wM_child_2, wM_child_5, wM_child_6, wM_child_7, wM_child_10, wM_child_13, wM_child_14, wM_child_15, wM_child_16, wM_child_17, wM_child_20, wM_child_21, wM_child_22, wM_child_24, wM_child_25, wM_child_26, wM_child_27, wM_child_31, wM_child_32, wM_child_33, wM_child_36, wM_child_39, wM_child_40, wM_child_43, wM_child_46, wM_child_47, wM_child_50, wM_child_52, wM_child_53, wM_child_54, wM_child_57, wM_child_59, wM_child_60, wM_child_63, wM_child_64, wM_child_67, wM_child_70, wM_child_71, wM_child_74, wM_child_77, wM_child_80, wM_child_82, nI_1]
        simpa using nx
    · have e1 : (q :: S2).filter (fun q => q.2 == d + 1) = S2.filter (fun q => q.2 == d + 1) := by simp [c]
      have e2 : (S1 ++ [q]).filter (fun q => q.2 == d + 1) = S1.filter (fun q => q.2 == d + 1) := by simp [List.filter_append, c]
      rw [e2] at nx
      rw [e1]
      simp only [c, if_false, wM_child_0, wM_child_1, wM_child_2, wM_child_5, wM_child_6, wM_child_7, wM_child_10, wM_child_13, wM_child_14, wM_child_15, wM_child_16, wM_child_17, wM_child_20, wM_child_21, wM_child_22, wM_child_24, wM_child_25, wM_child_26, wM_child_27, wM_child_31, wM_child_32, wM_child_33, wM_child_36, wM_child_39, wM_child_40, wM_child_43, wM_child_46, wM_child_47, wM_child_50, wM_child_52, wM_child_53, wM_child_54, wM_child_57, wM_child_59, wM_child_60, wM_child_63, wM_child_64, wM_child_67, wM_child_70, wM_child_71, wM_child_74, wM_child_77, wM_child_80, wM_child_82, nI_1]
      exact nx
theorem mM_child (h : mp N s M) (hs : ts_ok s) (v i : Int32) : am_wp yM_child 0 [.inr (.inl (4, some N)), .inl v, .inl i, am_u, am_u, am_u] [] M K = K (some (.inl (sp_child s v i))) (am_si M N 0 0) := by
  have h' := mp_th h
  have ho := ml_ok_of hs
  unfold sp_child
  cases hv : ts_id s v with
  | none => simp [wM_child_0, wM_child_1, wM_child_2, wM_child_5, wM_child_6, wM_child_7, wM_child_10, wM_child_13, wM_child_14, wM_child_15, wM_child_16, wM_child_17, wM_child_20, wM_child_21, wM_child_22, wM_child_24, wM_child_25, wM_child_26, wM_child_27, wM_child_31, wM_child_32, wM_child_33, wM_child_36, wM_child_39, wM_child_40, wM_child_43, wM_child_46, wM_child_47, wM_child_50, wM_child_52, wM_child_53, wM_child_54, wM_child_57, wM_child_59, wM_child_60, wM_child_63, wM_child_64, wM_child_67, wM_child_70, wM_child_71, wM_child_74, wM_child_77, wM_child_80, wM_child_82, mM_is h' hs, hv, am_b]
  | some n =>
    obtain ⟨rfl, hl, h20⟩ := ts_id_some hv
    obtain ⟨A, d, r, hL, hA⟩ := fo_split hl
    have hi : (ts_L s)[A.length]? = some (n, d) := by rw [hL]; simp
    simp only [wM_child_0, wM_child_1, wM_child_2, wM_child_5, wM_child_6, wM_child_7, wM_child_10, wM_child_13, wM_child_14, wM_child_15, wM_child_16, wM_child_17, wM_child_20, wM_child_21, wM_child_22, wM_child_24, wM_child_25, wM_child_26, wM_child_27, wM_child_31, wM_child_32, wM_child_33, wM_child_36, wM_child_39, wM_child_40, wM_child_43, wM_child_46, wM_child_47, wM_child_50, wM_child_52, wM_child_53, wM_child_54, wM_child_57, wM_child_59, wM_child_60, wM_child_63, wM_child_64, wM_child_67, wM_child_70, wM_child_71, wM_child_74, wM_child_77, wM_child_80, wM_child_82, mM_is h' hs, hv, Option.isSome_some, true_or, or_true, Option.toList_some, Option.toList_none, List.cons_append, List.nil_append, am_b0, reduceCtorEq, if_false, mM_at h'.1 ho hi, nI_1]
    have := mM_child_l (K := K) h' hs hL i (.inl (nI n)) (fo_sg d r) [] rfl
    simp only [List.filter_nil, List.map_nil, List.length_nil, Nat.add_zero, nI_0] at this
    rw [this]
    have e : ts_kk s n = ((fo_sg d r).filter (fun q => q.2 == d + 1)).map (·.1) := by unfold ts_kk; rw [hL, fo_k_at hA]; rfl
    rw [e]
end MQ
