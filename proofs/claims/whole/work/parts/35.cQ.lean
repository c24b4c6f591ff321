-- LOOKING THROUGH ALL THINGS
section CQ
def tq_ls (s : ts_S) (p n : Nat) : Bool := decide (n ∈ (ts_L s).map (·.1)) && ts_sh s n && decide (0 < tq_ro s p n true)
def tq_li (s : ts_S) (p : Nat) : Bool := (List.range 20).any (tq_ls s p)
variable {X : Nat} {ad : Nat → Option Nat} {s : ts_S} {M : am_M} {K : Option am_V → am_M → Prop} {n a p pa : Nat}
theorem cp_none (h : cp X ad s M) (hn : ad n = none) : ¬ n ∈ (ts_L s).map (·.1) := fun q => by
  obtain ⟨a, ha⟩ := cp_ex h q
  rw [hn] at ha
  cases ha
theorem nI_lt20 {i : Nat} (h : i < 20) : (nI i < (20 : Int32)) = True := eq_true (show nI i < nI 20 from nI_lt h (by decide))
theorem nI_nlt20 : ((nI 20 : Int32) < (20 : Int32)) = False := by decide
theorem cX_li_l (h : cp X ad s M) (hs : ts_ok s) (hp : ad p = some pa) (l0 : am_V) : ∀ (k i : Nat) (l5 : am_V), i + k = 20 → am_wp yX_hasLight 11 [l0, .inr (.inl (2, some pa)), .inr (.inl (14, some (X + 1))), .inl 20, .inl (nI i), l5] [] M K = K (some (.inl (am_b ((List.range' i k).any (tq_ls s p))))) M := by
  intro k
  induction k with
  | zero =>
    intro i l5 hik
    have hi : i = 20 := by omega
    subst hi
    rw [wX_hasLight_11]
    simp [wX_hasLight_0, wX_hasLight_1, wX_hasLight_4, wX_hasLight_5, wX_hasLight_6, wX_hasLight_7, wX_hasLight_8, wX_hasLight_9, wX_hasLight_13, wX_hasLight_14, wX_hasLight_17, wX_hasLight_18, wX_hasLight_20, wX_hasLight_21, wX_hasLight_23, wX_hasLight_25, wX_hasLight_28, wX_hasLight_30, wX_hasLight_33, wX_hasLight_36, wX_hasLight_37, wX_hasLight_39, wX_hasLight_42, wX_hasLight_45, wX_hasLight_46, wX_hasLight_47, wX_hasLight_50, wX_hasLight_53, wX_hasLight_54, nI_nlt20, am_bf]
  | succ k ih =>
    intro i l5 hik
    have hi : i < 20 := by omega
    have hT := h.2.2.2.2.1 i hi
    have hok1 := am_ok_nI hi (by decide : 20 < 2 ^ 31)
    have hcl : (nI i).toNatClampNeg = i := nI_clamp (by omega)
    rw [wX_hasLight_11]
    simp only [wX_hasLight_13, wX_hasLight_14, nI_lt20 hi, if_true, wX_hasLight_17, wX_hasLight_18]
    rw [wX_hasLight_20 hok1, hcl, hT]
    rw [List.range'_succ, List.any_cons]
    cases ha : ad i with
    | none =>
      have hz : tq_ls s p i = false := by unfold tq_ls; simp [cp_none h ha]
      simp only [wX_hasLight_0, wX_hasLight_1, wX_hasLight_4, wX_hasLight_5, wX_hasLight_6, wX_hasLight_7, wX_hasLight_8, wX_hasLight_9, wX_hasLight_13, wX_hasLight_14, wX_hasLight_17, wX_hasLight_18, wX_hasLight_21, wX_hasLight_23, wX_hasLight_25, wX_hasLight_28, wX_hasLight_30, wX_hasLight_33, wX_hasLight_36, wX_hasLight_37, wX_hasLight_39, wX_hasLight_42, wX_hasLight_45, wX_hasLight_46, wX_hasLight_47, wX_hasLight_50, wX_hasLight_53, wX_hasLight_54, if_true, nI_1, hz, Bool.false_or]
      exact ih (i + 1) _ (by omega)
    | some a =>
      obtain ⟨-, -, -, -, -, -, -, -, -, -, -, o11, -⟩ := cp_at h ha
      have hl : i ∈ (ts_L s).map (·.1) := cp_lv h ha
      simp only [wX_hasLight_0, wX_hasLight_1, wX_hasLight_4, wX_hasLight_5, wX_hasLight_6, wX_hasLight_7, wX_hasLight_8, wX_hasLight_9, wX_hasLight_13, wX_hasLight_14, wX_hasLight_17, wX_hasLight_18, wX_hasLight_21, wX_hasLight_23, wX_hasLight_25, wX_hasLight_28, wX_hasLight_30, wX_hasLight_33, wX_hasLight_36, wX_hasLight_37, wX_hasLight_39, wX_hasLight_42, wX_hasLight_45, wX_hasLight_46, wX_hasLight_47, wX_hasLight_50, wX_hasLight_53, wX_hasLight_54, reduceCtorEq, if_false, o11, am_b0]
      cases hsh : ts_sh s i with
      | false =>
        have hz : tq_ls s p i = false := by unfold tq_ls; simp [hsh]
        simp only [if_true, nI_1, hz, Bool.false_or]
        exact ih (i + 1) _ (by omega)
      | true =>
        simp only [reduceCtorEq, if_false, cR_forSight h hs hp ha, wX_hasLight_0, wX_hasLight_1, wX_hasLight_4, wX_hasLight_5, wX_hasLight_6, wX_hasLight_7, wX_hasLight_8, wX_hasLight_9, wX_hasLight_13, wX_hasLight_14, wX_hasLight_17, wX_hasLight_18, wX_hasLight_21, wX_hasLight_23, wX_hasLight_25, wX_hasLight_28, wX_hasLight_30, wX_hasLight_33, wX_hasLight_36, wX_hasLight_37, wX_hasLight_39, wX_hasLight_42, wX_hasLight_45, wX_hasLight_46, wX_hasLight_47, wX_hasLight_50, wX_hasLight_53, wX_hasLight_54, true_or, or_true, Option.toList_some, Option.toList_none, List.cons_append, List.nil_append]
        by_cases hr : 0 < tq_ro s p i true
        · have hz : tq_ls s p i = true := by unfold tq_ls; simp [hsh, hr]; simpa using hl
          simp [hr, hz, am_bt]
        · have hz : tq_ls s p i = false := by unfold tq_ls; simp [hr]
          simp only [hr, if_false, nI_1, hz, Bool.false_or]
          exact ih (i + 1) _ (by omega)
theorem cX_hasLight (h : cp X ad s M) (hs : ts_ok s) (hp : ad p = some pa) : am_wp yX_hasLight 0 [.inr (.inl (1, some X)), .inr (.inl (2, some pa)), am_u, am_u, am_u, am_u] [] M K = K (some (.inl (am_b (tq_li s p)))) M := by
  obtain ⟨s0, -⟩ := h.1
  simp only [wX_hasLight_0, wX_hasLight_1, wX_hasLight_4, wX_hasLight_5, wX_hasLight_6, wX_hasLight_7, wX_hasLight_8, wX_hasLight_9, wX_hasLight_13, wX_hasLight_14, wX_hasLight_17, wX_hasLight_18, wX_hasLight_21, wX_hasLight_23, wX_hasLight_25, wX_hasLight_28, wX_hasLight_30, wX_hasLight_33, wX_hasLight_36, wX_hasLight_37, wX_hasLight_39, wX_hasLight_42, wX_hasLight_45, wX_hasLight_46, wX_hasLight_47, wX_hasLight_50, wX_hasLight_53, wX_hasLight_54, s0]
  unfold tq_li
  rw [List.range_eq_range']
  exact cX_li_l h hs hp _ 20 0 _ rfl
-- counting
def tq_n0 (s : ts_S) (n : Nat) : Bool := decide (n ∈ (ts_L s).map (·.1))
def tq_n2 (s : ts_S) (n : Nat) : Bool := decide (n ∈ (ts_L s).map (·.1)) && tq_hh s n && decide (ts_pa s n = none)
theorem cX_c0_l (h : cp X ad s M) (l0 : am_V) : ∀ (k i c : Nat) (l5 : am_V), i + k = 20 → am_wp yX_countThings 13 [l0, .inl (nI c), .inr (.inl (14, some (X + 1))), .inl 20, .inl (nI i), l5] [] M K = K (some (.inl (nI (c + ((List.range' i k).filter (tq_n0 s)).length)))) M := by
  intro k
  induction k with
  | zero =>
    intro i c l5 hik
    have hi : i = 20 := by omega
    subst hi
    rw [wX_countThings_13]
    simp [wX_countThings_0, wX_countThings_1, wX_countThings_2, wX_countThings_3, wX_countThings_6, wX_countThings_7, wX_countThings_8, wX_countThings_9, wX_countThings_10, wX_countThings_11, wX_countThings_15, wX_countThings_16, wX_countThings_19, wX_countThings_20, wX_countThings_22, wX_countThings_23, wX_countThings_25, wX_countThings_27, wX_countThings_30, wX_countThings_33, wX_countThings_36, wX_countThings_39, wX_countThings_40, nI_nlt20]
  | succ k ih =>
    intro i c l5 hik
    have hi : i < 20 := by omega
    have hT := h.2.2.2.2.1 i hi
    have hok1 := am_ok_nI hi (by decide : 20 < 2 ^ 31)
    have hcl : (nI i).toNatClampNeg = i := nI_clamp (by omega)
    rw [wX_countThings_13]
    simp only [wX_countThings_15, wX_countThings_16, nI_lt20 hi, if_true, wX_countThings_19, wX_countThings_20]
    rw [wX_countThings_22 hok1, hcl, hT]
    rw [List.range'_succ]
    cases ha : ad i with
    | none =>
      have hz : tq_n0 s i = false := by unfold tq_n0; simp [cp_none h ha]
      simp only [wX_countThings_0, wX_countThings_1, wX_countThings_2, wX_countThings_3, wX_countThings_6, wX_countThings_7, wX_countThings_8, wX_countThings_9, wX_countThings_10, wX_countThings_11, wX_countThings_15, wX_countThings_16, wX_countThings_19, wX_countThings_20, wX_countThings_23, wX_countThings_25, wX_countThings_27, wX_countThings_30, wX_countThings_33, wX_countThings_36, wX_countThings_39, wX_countThings_40, if_true, nI_1]
      rw [List.filter_cons_of_neg (by rw [hz]; simp), ih (i + 1) c _ (by omega)]
    | some a =>
      have hl : i ∈ (ts_L s).map (·.1) := cp_lv h ha
      have hz : tq_n0 s i = true := by unfold tq_n0; simpa using hl
      simp only [wX_countThings_0, wX_countThings_1, wX_countThings_2, wX_countThings_3, wX_countThings_6, wX_countThings_7, wX_countThings_8, wX_countThings_9, wX_countThings_10, wX_countThings_11, wX_countThings_15, wX_countThings_16, wX_countThings_19, wX_countThings_20, wX_countThings_23, wX_countThings_25, wX_countThings_27, wX_countThings_30, wX_countThings_33, wX_countThings_36, wX_countThings_39, wX_countThings_40, reduceCtorEq, if_false, nI_1]
      rw [List.filter_cons_of_pos hz, ih (i + 1) (c + 1) _ (by omega), List.length_cons, show c + 1 + ((List.range' (i + 1) k).filter (tq_n0 s)).length = c + (((List.range' (i + 1) k).filter (tq_n0 s)).length + 1) by omega]
theorem cX_countThings (h : cp X ad s M) : am_wp yX_countThings 0 [.inr (.inl (1, some X)), am_u, am_u, am_u, am_u, am_u] [] M K = K (some (.inl (nI ((List.range 20).filter (tq_n0 s)).length))) M := by
  obtain ⟨s0, -⟩ := h.1
  simp only [wX_countThings_0, wX_countThings_1, wX_countThings_2, wX_countThings_3, wX_countThings_6, wX_countThings_7, wX_countThings_8, wX_countThings_9, wX_countThings_10, wX_countThings_11, wX_countThings_15, wX_countThings_16, wX_countThings_19, wX_countThings_20, wX_countThings_23, wX_countThings_25, wX_countThings_27, wX_countThings_30, wX_countThings_33, wX_countThings_36, wX_countThings_39, wX_countThings_40, s0]
  rw [List.range_eq_range']
  have := cX_c0_l (K := K) h (.inr (.inl (1, some X))) 20 0 0 am_u rfl
  rw [Nat.zero_add] at this
  exact this
theorem cX_c2_l (h : cp X ad s M) (hs : ts_ok s) (l0 : am_V) : ∀ (k i c : Nat) (l5 : am_V), i + k = 20 → am_wp yX_countNowhere 13 [l0, .inl (nI c), .inr (.inl (14, some (X + 1))), .inl 20, .inl (nI i), l5] [] M K = K (some (.inl (nI (c + ((List.range' i k).filter (tq_n2 s)).length)))) M := by
  intro k
  induction k with
  | zero =>
    intro i c l5 hik
    have hi : i = 20 := by omega
    subst hi
    rw [wX_countNowhere_13]
    simp [wX_countNowhere_0, wX_countNowhere_1, wX_countNowhere_2, wX_countNowhere_3, wX_countNowhere_6, wX_countNowhere_7, wX_countNowhere_8, wX_countNowhere_9, wX_countNowhere_10, wX_countNowhere_11, wX_countNowhere_15, wX_countNowhere_16, wX_countNowhere_19, wX_countNowhere_20, wX_countNowhere_22, wX_countNowhere_23, wX_countNowhere_25, wX_countNowhere_27, wX_countNowhere_30, wX_countNowhere_32, wX_countNowhere_35, wX_countNowhere_38, wX_countNowhere_40, wX_countNowhere_43, wX_countNowhere_46, wX_countNowhere_49, wX_countNowhere_52, wX_countNowhere_55, wX_countNowhere_56, nI_nlt20]
  | succ k ih =>
    intro i c l5 hik
    have hi : i < 20 := by omega
    have hT := h.2.2.2.2.1 i hi
    have hok1 := am_ok_nI hi (by decide : 20 < 2 ^ 31)
    have hcl : (nI i).toNatClampNeg = i := nI_clamp (by omega)
    rw [wX_countNowhere_13]
    simp only [wX_countNowhere_15, wX_countNowhere_16, nI_lt20 hi, if_true, wX_countNowhere_19, wX_countNowhere_20]
    rw [wX_countNowhere_22 hok1, hcl, hT]
    rw [List.range'_succ]
    cases ha : ad i with
    | none =>
      have hz : tq_n2 s i = false := by unfold tq_n2; simp [cp_none h ha]
      simp only [wX_countNowhere_0, wX_countNowhere_1, wX_countNowhere_2, wX_countNowhere_3, wX_countNowhere_6, wX_countNowhere_7, wX_countNowhere_8, wX_countNowhere_9, wX_countNowhere_10, wX_countNowhere_11, wX_countNowhere_15, wX_countNowhere_16, wX_countNowhere_19, wX_countNowhere_20, wX_countNowhere_23, wX_countNowhere_25, wX_countNowhere_27, wX_countNowhere_30, wX_countNowhere_32, wX_countNowhere_35, wX_countNowhere_38, wX_countNowhere_40, wX_countNowhere_43, wX_countNowhere_46, wX_countNowhere_49, wX_countNowhere_52, wX_countNowhere_55, wX_countNowhere_56, if_true, nI_1]
      rw [List.filter_cons_of_neg (by rw [hz]; simp), ih (i + 1) c _ (by omega)]
    | some a =>
      have hl : i ∈ (ts_L s).map (·.1) := cp_lv h ha
      have o := cp_at h ha
      obtain ⟨-, -, -, o3, -⟩ := o
      simp only [wX_countNowhere_0, wX_countNowhere_1, wX_countNowhere_2, wX_countNowhere_3, wX_countNowhere_6, wX_countNowhere_7, wX_countNowhere_8, wX_countNowhere_9, wX_countNowhere_10, wX_countNowhere_11, wX_countNowhere_15, wX_countNowhere_16, wX_countNowhere_19, wX_countNowhere_20, wX_countNowhere_23, wX_countNowhere_25, wX_countNowhere_27, wX_countNowhere_30, wX_countNowhere_32, wX_countNowhere_35, wX_countNowhere_38, wX_countNowhere_40, wX_countNowhere_43, wX_countNowhere_46, wX_countNowhere_49, wX_countNowhere_52, wX_countNowhere_55, wX_countNowhere_56, reduceCtorEq, if_false, cT_canHaveHolder (cp_at h ha) (hs.2.2.2.1 i hl).1, true_or, or_true, Option.toList_some, Option.toList_none, List.cons_append, List.nil_append, am_b0]
      cases hh : tq_hh s i with
      | false =>
        have hz : tq_n2 s i = false := by unfold tq_n2; simp [hh]
        simp only [if_true, nI_1]
        rw [List.filter_cons_of_neg (by rw [hz]; simp), ih (i + 1) c _ (by omega)]
      | true =>
        simp only [reduceCtorEq, if_false, o3, cp_bindN h (p := ts_pa s i) (fun q hq => ts_pa_lv hq), wX_countNowhere_0, wX_countNowhere_1, wX_countNowhere_2, wX_countNowhere_3, wX_countNowhere_6, wX_countNowhere_7, wX_countNowhere_8, wX_countNowhere_9, wX_countNowhere_10, wX_countNowhere_11, wX_countNowhere_15, wX_countNowhere_16, wX_countNowhere_19, wX_countNowhere_20, wX_countNowhere_23, wX_countNowhere_25, wX_countNowhere_27, wX_countNowhere_30, wX_countNowhere_32, wX_countNowhere_35, wX_countNowhere_38, wX_countNowhere_40, wX_countNowhere_43, wX_countNowhere_46, wX_countNowhere_49, wX_countNowhere_52, wX_countNowhere_55, wX_countNowhere_56]
        by_cases hq : ts_pa s i = none
        · have hz : tq_n2 s i = true := by unfold tq_n2; simp [hh, hq]; simpa using hl
          simp only [hq, if_true, nI_1]
          rw [List.filter_cons_of_pos hz, ih (i + 1) (c + 1) _ (by omega), List.length_cons, show c + 1 + ((List.range' (i + 1) k).filter (tq_n2 s)).length = c + (((List.range' (i + 1) k).filter (tq_n2 s)).length + 1) by omega]
        · have hz : tq_n2 s i = false := by unfold tq_n2; simp [hq]
          simp only [hq, if_false, nI_1]
          rw [List.filter_cons_of_neg (by rw [hz]; simp), ih (i + 1) c _ (by omega)]
theorem cX_countNowhere (h : cp X ad s M) (hs : ts_ok s) : am_wp yX_countNowhere 0 [.inr (.inl (1, some X)), am_u, am_u, am_u, am_u, am_u] [] M K = K (some (.inl (nI ((List.range 20).filter (tq_n2 s)).length))) M := by
  obtain ⟨s0, -⟩ := h.1
  simp only [wX_countNowhere_0, wX_countNowhere_1, wX_countNowhere_2, wX_countNowhere_3, wX_countNowhere_6, wX_countNowhere_7, wX_countNowhere_8, wX_countNowhere_9, wX_countNowhere_10, wX_countNowhere_11, wX_countNowhere_15, wX_countNowhere_16, wX_countNowhere_19, wX_countNowhere_20, wX_countNowhere_23, wX_countNowhere_25, wX_countNowhere_27, wX_countNowhere_30, wX_countNowhere_32, wX_countNowhere_35, wX_countNowhere_38, wX_countNowhere_40, wX_countNowhere_43, wX_countNowhere_46, wX_countNowhere_49, wX_countNowhere_52, wX_countNowhere_55, wX_countNowhere_56, s0]
  rw [List.range_eq_range']
  have := cX_c2_l (K := K) h hs (.inr (.inl (1, some X))) 20 0 0 am_u rfl
  rw [Nat.zero_add] at this
  exact this
-- the i-th that a thing holds
def ls_at : List Nat → Nat → Int32 → Int32
  | [], _, _ => -2
  | x :: l, j, i => if nI j = i then nI x else ls_at l (j + 1) i
theorem cX_ch_l (h : cp X ad s M) (hok : fo_ok (ts_L s)) (ha : ad n = some a) (i : Int32) (l0 l1 l3 : am_V) : ∀ (k2 k1 : List Nat), ts_kk s n = k1 ++ k2 → am_wp yX_child 21 [l0, l1, .inl i, l3, .inl (nI k1.length), .inr (.inl (2, k2.head?.bind ad))] [] M K = K (some (.inl (ls_at k2 k1.length i))) M := by
  intro k2
  induction k2 with
  | nil =>
    intro k1 hk
    rw [wX_child_21]
    simp [wX_child_0, wX_child_1, wX_child_2, wX_child_5, wX_child_6, wX_child_7, wX_child_10, wX_child_11, wX_child_12, wX_child_13, wX_child_15, wX_child_16, wX_child_19, wX_child_23, wX_child_26, wX_child_28, wX_child_29, wX_child_32, wX_child_34, wX_child_37, wX_child_38, wX_child_41, wX_child_43, wX_child_46, wX_child_48, wX_child_51, wX_child_53, ls_at]
  | cons m k2 ih =>
    intro k1 hk
    obtain ⟨hp, hx⟩ := ts_nx_at hok hk
    obtain ⟨b, hb⟩ := cp_ex h (fo_p_mem hp).1
    obtain ⟨o0, -, -, -, -, -, -, -, o8, -⟩ := cp_at h hb
    rw [hx] at o8
    have ih2 := ih (k1 ++ [m]) (by rw [hk]; simp)
    rw [show (k1 ++ [m]).length = k1.length + 1 by simp] at ih2
    rw [wX_child_21]
    unfold ls_at
    by_cases hi : nI k1.length = i
    · simp [wX_child_0, wX_child_1, wX_child_2, wX_child_5, wX_child_6, wX_child_7, wX_child_10, wX_child_11, wX_child_12, wX_child_13, wX_child_15, wX_child_16, wX_child_19, wX_child_23, wX_child_26, wX_child_28, wX_child_29, wX_child_32, wX_child_34, wX_child_37, wX_child_38, wX_child_41, wX_child_43, wX_child_46, wX_child_48, wX_child_51, wX_child_53, hb, hi, o0]
    · simp only [wX_child_0, wX_child_1, wX_child_2, wX_child_5, wX_child_6, wX_child_7, wX_child_10, wX_child_11, wX_child_12, wX_child_13, wX_child_15, wX_child_16, wX_child_19, wX_child_23, wX_child_26, wX_child_28, wX_child_29, wX_child_32, wX_child_34, wX_child_37, wX_child_38, wX_child_41, wX_child_43, wX_child_46, wX_child_48, wX_child_51, wX_child_53, List.head?_cons, Option.bind_some, hb, reduceCtorEq, if_false, hi, o8, nI_1]
      exact ih2
end CQ
