-- CALLS THAT ONLY ASK
section CP
def ts_id (s : ts_S) (v : Int32) : Option Nat := if v < 0 then none else if v < 20 then (if v.toNatClampNeg ∈ (ts_L s).map (·.1) then some v.toNatClampNeg else none) else none
theorem ts_id_some {s : ts_S} {v : Int32} {n : Nat} (h : ts_id s v = some n) : v = nI n ∧ ts_lv s n ∧ n < 20 := by
  unfold ts_id at h
  split at h
  · cases h
  · rename_i h0
    split at h
    · rename_i h1
      split at h
      · rename_i h2
        cases h
        obtain ⟨-, h4, h5⟩ := am_ok_of (n := 20) h0 h1 (by decide)
        exact ⟨h5, h2, h4⟩
      · cases h
    · cases h
theorem ts_id_nI {s : ts_S} {n : Nat} (hn : ts_lv s n) (h : n < 20) : ts_id s (nI n) = some n := by
  unfold ts_id
  rw [if_neg (nI_pos (by omega)), if_pos (show nI n < (20 : Int32) from nI_lt (b := 20) h (by decide)), nI_clamp (by omega)]
  exact if_pos hn
variable {X : Nat} {ad : Nat → Option Nat} {s : ts_S} {M : am_M} {K : Option am_V → am_M → Prop}
theorem cp_id (h : cp X ad s M) (v : Int32) : cp_f ad v = (ts_id s v).bind ad := by
  unfold cp_f ts_id
  split
  · rfl
  · split
    · split
      · rfl
      · rename_i h2
        cases ha : ad v.toNatClampNeg with
        | none => rfl
        | some a => exact absurd (cp_lv h ha) h2
    · rfl
theorem cX_fd (h : cp X ad s M) (v : Int32) : am_wp yX_find 0 [.inr (.inl (1, some X)), .inl v] [] M K = K (some (.inr (.inl (2, (ts_id s v).bind ad)))) M := by
  rw [cX_find h, cp_id h]
theorem cp_id_ex (h : cp X ad s M) {v : Int32} {n : Nat} (hv : ts_id s v = some n) : ∃ a, ad n = some a ∧ cp_o ad s M n a := by
  obtain ⟨a, ha⟩ := cp_ex h (ts_id_some hv).2.1
  exact ⟨a, ha, cp_at h ha⟩
def sp_touches (s : ts_S) (v w : Int32) : Int32 := match ts_id s v, ts_id s w with
  | some p, some t => if ts_kd s p = 4 then tq_ro s p t false else -3
  | _, _ => -1
theorem cX_touches (h : cp X ad s M) (hs : ts_ok s) (v w : Int32) : am_wp yX_touches 0 [.inr (.inl (1, some X)), .inl v, .inl w, am_u, am_u] [] M K = K (some (.inl (sp_touches s v w))) M := by
  unfold sp_touches
  cases hv : ts_id s v with
  | none => simp [wX_touches_0, wX_touches_1, wX_touches_2, wX_touches_5, wX_touches_6, wX_touches_7, wX_touches_8, wX_touches_11, wX_touches_13, wX_touches_14, wX_touches_17, wX_touches_19, wX_touches_22, wX_touches_23, wX_touches_24, wX_touches_25, wX_touches_28, wX_touches_29, wX_touches_32, wX_touches_33, wX_touches_35, wX_touches_38, wX_touches_41, wX_touches_43, cX_fd h, hv]
  | some p =>
    obtain ⟨a, ha, o⟩ := cp_id_ex h hv
    have hk := (hs.2.2.2.1 p (ts_id_some hv).2.1).1
    cases hw : ts_id s w with
    | none => simp [wX_touches_0, wX_touches_1, wX_touches_2, wX_touches_5, wX_touches_6, wX_touches_7, wX_touches_8, wX_touches_11, wX_touches_13, wX_touches_14, wX_touches_17, wX_touches_19, wX_touches_22, wX_touches_23, wX_touches_24, wX_touches_25, wX_touches_28, wX_touches_29, wX_touches_32, wX_touches_33, wX_touches_35, wX_touches_38, wX_touches_41, wX_touches_43, cX_fd h, hv, hw, ha]
    | some t =>
      obtain ⟨b, hb, -⟩ := cp_id_ex h hw
      simp only [wX_touches_0, wX_touches_1, wX_touches_2, wX_touches_5, wX_touches_6, wX_touches_7, wX_touches_8, wX_touches_11, wX_touches_13, wX_touches_14, wX_touches_17, wX_touches_19, wX_touches_22, wX_touches_23, wX_touches_24, wX_touches_25, wX_touches_28, wX_touches_29, wX_touches_32, wX_touches_33, wX_touches_35, wX_touches_38, wX_touches_41, wX_touches_43, cX_fd h, hv, hw, ha, hb, true_or, or_true, Option.toList_some, Option.toList_none, List.cons_append, List.nil_append, Option.bind_some, reduceCtorEq, if_false, o.2.1, nk4 (show ts_kd s p < 1000 by omega), cR_forTouch h hs ha hb]
      by_cases h4 : ts_kd s p = 4 <;> simp [h4, wX_touches_0, wX_touches_1, wX_touches_2, wX_touches_5, wX_touches_6, wX_touches_7, wX_touches_8, wX_touches_11, wX_touches_13, wX_touches_14, wX_touches_17, wX_touches_19, wX_touches_22, wX_touches_23, wX_touches_24, wX_touches_25, wX_touches_28, wX_touches_29, wX_touches_32, wX_touches_33, wX_touches_35, wX_touches_38, wX_touches_41, wX_touches_43]
def sp_sees (s : ts_S) (v w : Int32) : Int32 := match ts_id s v, ts_id s w with
  | some p, some t => if ts_kd s p = 4 then (if tq_ro s p t true < 0 then tq_ro s p t true else if tq_li s p = true then 1 else -7) else -3
  | _, _ => -1
theorem cX_sees (h : cp X ad s M) (hs : ts_ok s) (v w : Int32) : am_wp yX_sees 0 [.inr (.inl (1, some X)), .inl v, .inl w, am_u, am_u, am_u] [] M K = K (some (.inl (sp_sees s v w))) M := by
  unfold sp_sees
  cases hv : ts_id s v with
  | none => simp [wX_sees_0, wX_sees_1, wX_sees_2, wX_sees_5, wX_sees_6, wX_sees_7, wX_sees_8, wX_sees_11, wX_sees_13, wX_sees_14, wX_sees_17, wX_sees_19, wX_sees_22, wX_sees_23, wX_sees_24, wX_sees_25, wX_sees_28, wX_sees_29, wX_sees_32, wX_sees_34, wX_sees_35, wX_sees_36, wX_sees_38, wX_sees_41, wX_sees_43, wX_sees_45, wX_sees_48, wX_sees_50, wX_sees_51, wX_sees_52, wX_sees_53, wX_sees_56, wX_sees_59, wX_sees_60, wX_sees_63, wX_sees_65, cX_fd h, hv]
  | some p =>
    obtain ⟨a, ha, o⟩ := cp_id_ex h hv
    have hk := (hs.2.2.2.1 p (ts_id_some hv).2.1).1
    cases hw : ts_id s w with
    | none => simp [wX_sees_0, wX_sees_1, wX_sees_2, wX_sees_5, wX_sees_6, wX_sees_7, wX_sees_8, wX_sees_11, wX_sees_13, wX_sees_14, wX_sees_17, wX_sees_19, wX_sees_22, wX_sees_23, wX_sees_24, wX_sees_25, wX_sees_28, wX_sees_29, wX_sees_32, wX_sees_34, wX_sees_35, wX_sees_36, wX_sees_38, wX_sees_41, wX_sees_43, wX_sees_45, wX_sees_48, wX_sees_50, wX_sees_51, wX_sees_52, wX_sees_53, wX_sees_56, wX_sees_59, wX_sees_60, wX_sees_63, wX_sees_65, cX_fd h, hv, hw, ha]
    | some t =>
      obtain ⟨b, hb, -⟩ := cp_id_ex h hw
      simp only [wX_sees_0, wX_sees_1, wX_sees_2, wX_sees_5, wX_sees_6, wX_sees_7, wX_sees_8, wX_sees_11, wX_sees_13, wX_sees_14, wX_sees_17, wX_sees_19, wX_sees_22, wX_sees_23, wX_sees_24, wX_sees_25, wX_sees_28, wX_sees_29, wX_sees_32, wX_sees_34, wX_sees_35, wX_sees_36, wX_sees_38, wX_sees_41, wX_sees_43, wX_sees_45, wX_sees_48, wX_sees_50, wX_sees_51, wX_sees_52, wX_sees_53, wX_sees_56, wX_sees_59, wX_sees_60, wX_sees_63, wX_sees_65, cX_fd h, hv, hw, ha, hb, true_or, or_true, Option.toList_some, Option.toList_none, List.cons_append, List.nil_append, Option.bind_some, reduceCtorEq, if_false, o.2.1, nk4 (show ts_kd s p < 1000 by omega), cR_forSight h hs ha hb, cX_hasLight h hs ha, am_b0]
      by_cases h4 : ts_kd s p = 4
      · by_cases h5 : tq_ro s p t true < 0
        · simp [h4, h5, wX_sees_0, wX_sees_1, wX_sees_2, wX_sees_5, wX_sees_6, wX_sees_7, wX_sees_8, wX_sees_11, wX_sees_13, wX_sees_14, wX_sees_17, wX_sees_19, wX_sees_22, wX_sees_23, wX_sees_24, wX_sees_25, wX_sees_28, wX_sees_29, wX_sees_32, wX_sees_34, wX_sees_35, wX_sees_36, wX_sees_38, wX_sees_41, wX_sees_43, wX_sees_45, wX_sees_48, wX_sees_50, wX_sees_51, wX_sees_52, wX_sees_53, wX_sees_56, wX_sees_59, wX_sees_60, wX_sees_63, wX_sees_65]
        · cases h6 : tq_li s p <;> simp [h4, h5, h6, wX_sees_0, wX_sees_1, wX_sees_2, wX_sees_5, wX_sees_6, wX_sees_7, wX_sees_8, wX_sees_11, wX_sees_13, wX_sees_14, wX_sees_17, wX_sees_19, wX_sees_22, wX_sees_23, wX_sees_24, wX_sees_25, wX_sees_28, wX_sees_29, wX_sees_32, wX_sees_34, wX_sees_35, wX_sees_36, wX_sees_38, wX_sees_41, wX_sees_43, wX_sees_45, wX_sees_48, wX_sees_50, wX_sees_51, wX_sees_52, wX_sees_53, wX_sees_56, wX_sees_59, wX_sees_60, wX_sees_63, wX_sees_65]
      · simp [h4, wX_sees_0, wX_sees_1, wX_sees_2, wX_sees_5, wX_sees_6, wX_sees_7, wX_sees_8, wX_sees_11, wX_sees_13, wX_sees_14, wX_sees_17, wX_sees_19, wX_sees_22, wX_sees_23, wX_sees_24, wX_sees_25, wX_sees_28, wX_sees_29, wX_sees_32, wX_sees_34, wX_sees_35, wX_sees_36, wX_sees_38, wX_sees_41, wX_sees_43, wX_sees_45, wX_sees_48, wX_sees_50, wX_sees_51, wX_sees_52, wX_sees_53, wX_sees_56, wX_sees_59, wX_sees_60, wX_sees_63, wX_sees_65]
def sp_light (s : ts_S) (v : Int32) : Int32 := match ts_id s v with
  | some p => if ts_kd s p = 4 then am_b (tq_li s p) else -3
  | none => -1
theorem cX_light (h : cp X ad s M) (hs : ts_ok s) (v : Int32) : am_wp yX_light 0 [.inr (.inl (1, some X)), .inl v, am_u] [] M K = K (some (.inl (sp_light s v))) M := by
  unfold sp_light
  cases hv : ts_id s v with
  | none => simp [wX_light_0, wX_light_1, wX_light_2, wX_light_5, wX_light_6, wX_light_7, wX_light_10, wX_light_11, wX_light_12, wX_light_13, wX_light_16, wX_light_17, wX_light_20, wX_light_22, wX_light_23, wX_light_24, wX_light_25, wX_light_28, wX_light_31, wX_light_32, wX_light_35, wX_light_36, cX_fd h, hv]
  | some p =>
    obtain ⟨a, ha, o⟩ := cp_id_ex h hv
    have hk := (hs.2.2.2.1 p (ts_id_some hv).2.1).1
    simp only [wX_light_0, wX_light_1, wX_light_2, wX_light_5, wX_light_6, wX_light_7, wX_light_10, wX_light_11, wX_light_12, wX_light_13, wX_light_16, wX_light_17, wX_light_20, wX_light_22, wX_light_23, wX_light_24, wX_light_25, wX_light_28, wX_light_31, wX_light_32, wX_light_35, wX_light_36, cX_fd h, hv, ha, true_or, or_true, Option.toList_some, Option.toList_none, List.cons_append, List.nil_append, Option.bind_some, reduceCtorEq, if_false, o.2.1, nk4 (show ts_kd s p < 1000 by omega), cX_hasLight h hs ha, am_b0]
    by_cases h4 : ts_kd s p = 4
    · cases h6 : tq_li s p <;> simp [h4, h6, wX_light_0, wX_light_1, wX_light_2, wX_light_5, wX_light_6, wX_light_7, wX_light_10, wX_light_11, wX_light_12, wX_light_13, wX_light_16, wX_light_17, wX_light_20, wX_light_22, wX_light_23, wX_light_24, wX_light_25, wX_light_28, wX_light_31, wX_light_32, wX_light_35, wX_light_36, am_bt, am_bf]
    · simp [h4, wX_light_0, wX_light_1, wX_light_2, wX_light_5, wX_light_6, wX_light_7, wX_light_10, wX_light_11, wX_light_12, wX_light_13, wX_light_16, wX_light_17, wX_light_20, wX_light_22, wX_light_23, wX_light_24, wX_light_25, wX_light_28, wX_light_31, wX_light_32, wX_light_35, wX_light_36]
def sp_holder (s : ts_S) (v : Int32) : Int32 := match ts_id s v with
  | some n => ts_no (ts_pa s n)
  | none => -1
theorem cX_holder (h : cp X ad s M) (v : Int32) : am_wp yX_holder 0 [.inr (.inl (1, some X)), .inl v, am_u] [] M K = K (some (.inl (sp_holder s v))) M := by
  unfold sp_holder
  cases hv : ts_id s v with
  | none => simp [wX_holder_0, wX_holder_1, wX_holder_2, wX_holder_5, wX_holder_6, wX_holder_7, wX_holder_10, wX_holder_11, wX_holder_14, wX_holder_15, wX_holder_18, wX_holder_21, cX_fd h, hv]
  | some n =>
    obtain ⟨a, ha, o⟩ := cp_id_ex h hv
    simp only [wX_holder_0, wX_holder_1, wX_holder_2, wX_holder_5, wX_holder_6, wX_holder_7, wX_holder_10, wX_holder_11, wX_holder_14, wX_holder_15, wX_holder_18, wX_holder_21, cX_fd h, hv, ha, true_or, or_true, Option.toList_some, Option.toList_none, List.cons_append, List.nil_append, Option.bind_some, reduceCtorEq, if_false, o.2.2.2.1, cX_numberOf h (ts_pa s n) (fun q hq => ts_pa_lv hq)]
def sp_way (s : ts_S) (v : Int32) : Int32 := match ts_id s v with
  | some n => ts_way s n
  | none => -1
theorem cX_way (h : cp X ad s M) (v : Int32) : am_wp yX_way 0 [.inr (.inl (1, some X)), .inl v, am_u] [] M K = K (some (.inl (sp_way s v))) M := by
  unfold sp_way
  cases hv : ts_id s v with
  | none => simp [wX_way_0, wX_way_1, wX_way_2, wX_way_5, wX_way_6, wX_way_7, wX_way_10, wX_way_11, wX_way_14, wX_way_15, wX_way_18, cX_fd h, hv]
  | some n =>
    obtain ⟨a, ha, o⟩ := cp_id_ex h hv
    simp [wX_way_0, wX_way_1, wX_way_2, wX_way_5, wX_way_6, wX_way_7, wX_way_10, wX_way_11, wX_way_14, wX_way_15, wX_way_18, cX_fd h, hv, ha, o.2.2.2.2.1]
def sp_child (s : ts_S) (v i : Int32) : Int32 := match ts_id s v with
  | some n => ls_at (ts_kk s n) 0 i
  | none => -1
theorem cX_child (h : cp X ad s M) (hok : fo_ok (ts_L s)) (v i : Int32) : am_wp yX_child 0 [.inr (.inl (1, some X)), .inl v, .inl i, am_u, am_u, am_u] [] M K = K (some (.inl (sp_child s v i))) M := by
  unfold sp_child
  cases hv : ts_id s v with
  | none => simp [wX_child_0, wX_child_1, wX_child_2, wX_child_5, wX_child_6, wX_child_7, wX_child_10, wX_child_11, wX_child_12, wX_child_13, wX_child_15, wX_child_16, wX_child_19, wX_child_23, wX_child_26, wX_child_28, wX_child_29, wX_child_32, wX_child_34, wX_child_37, wX_child_38, wX_child_41, wX_child_43, wX_child_46, wX_child_48, wX_child_51, wX_child_53, cX_fd h, hv]
  | some n =>
    obtain ⟨a, ha, o⟩ := cp_id_ex h hv
    simp only [wX_child_0, wX_child_1, wX_child_2, wX_child_5, wX_child_6, wX_child_7, wX_child_10, wX_child_11, wX_child_12, wX_child_13, wX_child_15, wX_child_16, wX_child_19, wX_child_23, wX_child_26, wX_child_28, wX_child_29, wX_child_32, wX_child_34, wX_child_37, wX_child_38, wX_child_41, wX_child_43, wX_child_46, wX_child_48, wX_child_51, wX_child_53, cX_fd h, hv, ha, true_or, or_true, Option.toList_some, Option.toList_none, List.cons_append, List.nil_append, Option.bind_some, reduceCtorEq, if_false, o.2.2.2.2.2.1]
    exact cX_ch_l h hok ha i _ _ _ (ts_kk s n) [] rfl
def sp_root (s : ts_S) (v : Int32) : Int32 := match ts_id s v with
  | some n => nI (fo_r (ts_L s) n)
  | none => -1
theorem cX_root (h : cp X ad s M) (hok : fo_ok (ts_L s)) (v : Int32) : am_wp yX_root 0 [.inr (.inl (1, some X)), .inl v, am_u] [] M K = K (some (.inl (sp_root s v))) M := by
  unfold sp_root
  cases hv : ts_id s v with
  | none => simp [wX_root_0, wX_root_1, wX_root_2, wX_root_5, wX_root_6, wX_root_7, wX_root_10, wX_root_11, wX_root_14, wX_root_15, wX_root_18, wX_root_21, cX_fd h, hv]
  | some n =>
    obtain ⟨a, ha, o⟩ := cp_id_ex h hv
    obtain ⟨b, hb⟩ := cp_ex h (fo_r_mem hok n (ts_id_some hv).2.1).1
    simp [wX_root_0, wX_root_1, wX_root_2, wX_root_5, wX_root_6, wX_root_7, wX_root_10, wX_root_11, wX_root_14, wX_root_15, wX_root_18, wX_root_21, cX_fd h, hv, ha, cT_topmost h hok ha, hb, (cp_at h hb).1]
def sp_ring (s : ts_S) (v w : Int32) : Int32 := match ts_id s v, ts_id s w with
  | some p, some t => am_b (decide (t ∈ fo_w (ts_L s) p))
  | _, _ => -1
theorem cX_ring (h : cp X ad s M) (hok : fo_ok (ts_L s)) (v w : Int32) : am_wp yX_ring 0 [.inr (.inl (1, some X)), .inl v, .inl w, am_u, am_u] [] M K = K (some (.inl (sp_ring s v w))) M := by
  unfold sp_ring
  cases hv : ts_id s v with
  | none => simp [wX_ring_0, wX_ring_1, wX_ring_2, wX_ring_5, wX_ring_6, wX_ring_7, wX_ring_8, wX_ring_11, wX_ring_13, wX_ring_14, wX_ring_17, wX_ring_19, wX_ring_22, wX_ring_23, wX_ring_24, wX_ring_26, wX_ring_27, wX_ring_30, wX_ring_33, wX_ring_34, wX_ring_37, wX_ring_38, cX_fd h, hv]
  | some p =>
    obtain ⟨a, ha, o⟩ := cp_id_ex h hv
    cases hw : ts_id s w with
    | none => simp [wX_ring_0, wX_ring_1, wX_ring_2, wX_ring_5, wX_ring_6, wX_ring_7, wX_ring_8, wX_ring_11, wX_ring_13, wX_ring_14, wX_ring_17, wX_ring_19, wX_ring_22, wX_ring_23, wX_ring_24, wX_ring_26, wX_ring_27, wX_ring_30, wX_ring_33, wX_ring_34, wX_ring_37, wX_ring_38, cX_fd h, hv, hw, ha]
    | some t =>
      obtain ⟨b, hb, -⟩ := cp_id_ex h hw
      simp only [wX_ring_0, wX_ring_1, wX_ring_2, wX_ring_5, wX_ring_6, wX_ring_7, wX_ring_8, wX_ring_11, wX_ring_13, wX_ring_14, wX_ring_17, wX_ring_19, wX_ring_22, wX_ring_23, wX_ring_24, wX_ring_26, wX_ring_27, wX_ring_30, wX_ring_33, wX_ring_34, wX_ring_37, wX_ring_38, cX_fd h, hv, hw, ha, hb, true_or, or_true, Option.toList_some, Option.toList_none, List.cons_append, List.nil_append, Option.bind_some, reduceCtorEq, if_false, cT_isWithin h hok hb ha, am_b0]
      by_cases h6 : t ∈ fo_w (ts_L s) p <;> simp [h6, am_bt, am_bf]
def sp_count (s : ts_S) (v : Int32) : Int32 := match ts_id s v with
  | some n => nI (fo_w (ts_L s) n).length - 1
  | none => -1
theorem cX_count (h : cp X ad s M) (hs : ts_ok s) (v : Int32) (hK : ∀ M', fx_f (fun b => b = X + 4) M M' → K (some (.inl (sp_count s v))) M') : am_wp yX_count 0 [.inr (.inl (1, some X)), .inl v, am_u] [] M K := by
  unfold sp_count at hK
  cases hv : ts_id s v with
  | none =>
    rw [hv] at hK
    simp [wX_count_0, wX_count_1, wX_count_2, wX_count_5, wX_count_6, wX_count_7, wX_count_10, wX_count_11, wX_count_14, wX_count_15, wX_count_16, wX_count_19, wX_count_20, wX_count_21, cX_fd h, hv, hK M (fx_f_rf M)]
  | some n =>
    rw [hv] at hK
    obtain ⟨a, ha, o⟩ := cp_id_ex h hv
    simp only [wX_count_0, wX_count_1, wX_count_2, wX_count_5, wX_count_6, wX_count_7, wX_count_10, wX_count_11, wX_count_14, wX_count_15, wX_count_16, wX_count_19, wX_count_20, wX_count_21, cX_fd h, hv, ha, true_or, or_true, Option.toList_some, Option.toList_none, List.cons_append, List.nil_append, Option.bind_some, reduceCtorEq, if_false]
    refine cX_fillWalk h hs ha (fun M' hf hw => ?_)
    simp only [wX_count_0, wX_count_1, wX_count_2, wX_count_5, wX_count_6, wX_count_7, wX_count_10, wX_count_11, wX_count_14, wX_count_15, wX_count_16, wX_count_19, wX_count_20, wX_count_21, true_or, or_true, Option.toList_some, Option.toList_none, List.cons_append, List.nil_append]
    exact hK M' hf
def sp_walk (s : ts_S) (v i : Int32) : Int32 := match ts_id s v with
  | some n => if i < 0 then -2 else if i < nI (fo_w (ts_L s) n).length then nI ((fo_w (ts_L s) n).getD i.toNatClampNeg 0) else -2
  | none => -1
theorem cX_walk (h : cp X ad s M) (hs : ts_ok s) (v i : Int32) (hK : ∀ M', fx_f (fun b => b = X + 4) M M' → K (some (.inl (sp_walk s v i))) M') : am_wp yX_walk 0 [.inr (.inl (1, some X)), .inl v, .inl i, am_u, am_u] [] M K := by
  unfold sp_walk at hK
  cases hv : ts_id s v with
  | none =>
    rw [hv] at hK
    simp [wX_walk_0, wX_walk_1, wX_walk_2, wX_walk_5, wX_walk_6, wX_walk_7, wX_walk_10, wX_walk_11, wX_walk_12, wX_walk_13, wX_walk_14, wX_walk_17, wX_walk_19, wX_walk_20, wX_walk_23, wX_walk_24, wX_walk_26, wX_walk_29, wX_walk_30, wX_walk_31, wX_walk_34, wX_walk_35, wX_walk_38, wX_walk_40, wX_walk_43, wX_walk_44, wX_walk_47, wX_walk_49, cX_fd h, hv, hK M (fx_f_rf M)]
  | some n =>
    rw [hv] at hK
    dsimp only at hK
    obtain ⟨a, ha, o⟩ := cp_id_ex h hv
    simp only [wX_walk_0, wX_walk_1, wX_walk_2, wX_walk_5, wX_walk_6, wX_walk_7, wX_walk_10, wX_walk_11, wX_walk_12, wX_walk_13, wX_walk_14, wX_walk_17, wX_walk_19, wX_walk_20, wX_walk_23, wX_walk_24, wX_walk_26, wX_walk_29, wX_walk_30, wX_walk_31, wX_walk_34, wX_walk_35, wX_walk_38, wX_walk_40, wX_walk_43, wX_walk_44, wX_walk_47, wX_walk_49, cX_fd h, hv, ha, true_or, or_true, Option.toList_some, Option.toList_none, List.cons_append, List.nil_append, Option.bind_some, reduceCtorEq, if_false]
    refine cX_fillWalk h hs ha (fun M' hf hw => ?_)
    have h' := cp_walk h hf
    have hK' := hK M' hf
    obtain ⟨s0, s1, s2, s3⟩ := h'.1
    have hlen : (fo_w (ts_L s) n).length ≤ 20 := fo_w_len hs.1 (fun n hn => Nat.lt_of_lt_of_le (hs.2.1 n hn) hs.2.2.1) n
    by_cases h0 : i < 0
    · rw [if_pos h0] at hK'
      simp [wX_walk_0, wX_walk_1, wX_walk_2, wX_walk_5, wX_walk_6, wX_walk_7, wX_walk_10, wX_walk_11, wX_walk_12, wX_walk_13, wX_walk_14, wX_walk_17, wX_walk_19, wX_walk_20, wX_walk_23, wX_walk_24, wX_walk_26, wX_walk_29, wX_walk_30, wX_walk_31, wX_walk_34, wX_walk_35, wX_walk_38, wX_walk_40, wX_walk_43, wX_walk_44, wX_walk_47, wX_walk_49, h0, hK']
    · rw [if_neg h0] at hK'
      by_cases h1 : i < nI (fo_w (ts_L s) n).length
      · rw [if_pos h1] at hK'
        obtain ⟨k1, k2, k3⟩ := am_ok_of h0 h1 (by omega)
        have k4 : am_ok i 20 = true := by rw [k3]; exact am_ok_nI (by omega) (by decide)
        have k5 : i < 20 := by rw [k3]; exact nI_lt (b := 20) (by omega) (by decide)
        have k6 := hw i.toNatClampNeg ((fo_w (ts_L s) n).getD i.toNatClampNeg 0) (by rw [List.getD_eq_getElem?_getD, List.getElem?_eq_getElem k2]; rfl)
        simp only [wX_walk_0, wX_walk_1, wX_walk_2, wX_walk_5, wX_walk_6, wX_walk_7, wX_walk_10, wX_walk_11, wX_walk_12, wX_walk_13, wX_walk_14, wX_walk_17, wX_walk_19, wX_walk_20, wX_walk_23, wX_walk_24, wX_walk_26, wX_walk_29, wX_walk_30, wX_walk_31, wX_walk_34, wX_walk_35, wX_walk_38, wX_walk_40, wX_walk_43, wX_walk_44, wX_walk_47, wX_walk_49, true_or, or_true, Option.toList_some, Option.toList_none, List.cons_append, List.nil_append, h0, if_false, h1, if_true, s2, k5, wX_walk_48 k4, k6]
        exact hK'
      · rw [if_neg h1] at hK'
        simp [wX_walk_0, wX_walk_1, wX_walk_2, wX_walk_5, wX_walk_6, wX_walk_7, wX_walk_10, wX_walk_11, wX_walk_12, wX_walk_13, wX_walk_14, wX_walk_17, wX_walk_19, wX_walk_20, wX_walk_23, wX_walk_24, wX_walk_26, wX_walk_29, wX_walk_30, wX_walk_31, wX_walk_34, wX_walk_35, wX_walk_38, wX_walk_40, wX_walk_43, wX_walk_44, wX_walk_47, wX_walk_49, h0, h1, hK']
theorem nx_xor (a b : Nat) : nI a ^^^ nI b = nI (a ^^^ b) := by
  apply Int32.toBitVec_inj.1
  show BitVec.ofNat 32 a ^^^ BitVec.ofNat 32 b = BitVec.ofNat 32 (a ^^^ b)
  apply BitVec.eq_of_getLsbD_eq
  intro i hi
  simp [hi]
theorem cJ_floorMod (k : Nat) (hk : k < 2 ^ 30) : am_wp yJ_floorMod 0 [.inl (nI k), .inl 30, am_u] [] M K = K (some (.inl (nI (k % 30)))) M := by
  have e1 : nI k - nI k / 30 * 30 = nI (k % 30) := pk_rem (a := k) (d := 30) (by omega) (by decide) (by decide)
  have e2 : (nI k ^^^ 30 < 0) = False := by
    rw [show (30 : Int32) = nI 30 from rfl, nx_xor]
    have : k ^^^ 30 < 2 ^ 30 := Nat.xor_lt_two_pow hk (by decide)
    exact eq_false (nI_pos (by omega))
  simp only [wJ_floorMod_0, wJ_floorMod_1, wJ_floorMod_2 (show (30 : Int32) ≠ 0 by decide), wJ_floorMod_0, wJ_floorMod_1, wJ_floorMod_3, wJ_floorMod_4, wJ_floorMod_5, wJ_floorMod_6, wJ_floorMod_7, wJ_floorMod_10, wJ_floorMod_11, wJ_floorMod_14, wJ_floorMod_15, wJ_floorMod_16, wJ_floorMod_17, wJ_floorMod_18, wJ_floorMod_19, e1, e2, if_false]
def sp_row (s : ts_S) (i w : Int32) : Int32 := if w < 0 then -2 else if w < 4 then (if i < 0 then -2 else if i < (if 30 < nI (ts_t s) then 30 else nI (ts_t s)) then ts_ch s ((ts_t s - 1 - i.toNatClampNeg) % 30 * 4 + w.toNatClampNeg) else -2) else -2
theorem cC_column (h : cp X ad s M) (ht : ts_t s < 2 ^ 30) (i w : Int32) : am_wp yC_column 0 [.inr (.inl (3, some (X + 2))), .inl i, .inl w] [] M K = K (some (.inl (sp_row s i w))) M := by
  obtain ⟨s0, s1, s2, s3⟩ := h.1
  have h2 := h.2.2.1
  have h3 := h.2.2.2.1
  unfold sp_row
  by_cases h0 : w < 0
  · simp [wC_column_0, wC_column_1, wC_column_4, wC_column_5, wC_column_6, wC_column_9, wC_column_10, wC_column_13, wC_column_14, wC_column_15, wC_column_18, wC_column_20, wC_column_23, wC_column_26, wC_column_28, wC_column_29, wC_column_30, wC_column_33, wC_column_34, wC_column_37, wC_column_38, wC_column_39, wC_column_40, wC_column_41, wC_column_43, wC_column_46, wC_column_47, wC_column_48, wC_column_49, wC_column_51, h0]
  · by_cases h4 : w < 4
    · by_cases i0 : i < 0
      · simp [wC_column_0, wC_column_1, wC_column_4, wC_column_5, wC_column_6, wC_column_9, wC_column_10, wC_column_13, wC_column_14, wC_column_15, wC_column_18, wC_column_20, wC_column_23, wC_column_26, wC_column_28, wC_column_29, wC_column_30, wC_column_33, wC_column_34, wC_column_37, wC_column_38, wC_column_39, wC_column_40, wC_column_41, wC_column_43, wC_column_46, wC_column_47, wC_column_48, wC_column_49, wC_column_51, h0, h4, i0]
      · by_cases i1 : i < (if 30 < nI (ts_t s) then 30 else nI (ts_t s))
        · obtain ⟨-, w1, w2⟩ := am_ok_of (n := 4) h0 h4 (by decide)
          obtain ⟨j, hj, rfl⟩ := nI_of i0
          have hjt : j < ts_t s := by
            split at i1
            · rename_i q
              have a1 := (nI_ltI (a := 30) (b := ts_t s) (by decide) (by omega)).mp q
              have a2 := (nI_ltI (a := j) (b := 30) hj (by decide)).mp i1
              omega
            · exact (nI_ltI hj (by omega)).mp i1
          have e1 : nI (ts_t s) - 1 - nI j = nI (ts_t s - 1 - j) := by
            rw [show (1 : Int32) = nI 1 from rfl, pk_sub (by omega), pk_sub (by omega)]
          have hm : (ts_t s - 1 - j) % 30 < 30 := Nat.mod_lt _ (by decide)
          have e2 : nI ((ts_t s - 1 - j) % 30) * 4 + w = nI ((ts_t s - 1 - j) % 30 * 4 + w.toNatClampNeg) := by
            conv => lhs; rw [w2]
            rw [show (4 : Int32) = nI 4 from rfl, pk_mul, nI_add]
          have hlt : (ts_t s - 1 - j) % 30 * 4 + w.toNatClampNeg < 120 := by omega
          have k4 := am_ok_nI hlt (by decide : 120 < 2 ^ 31)
          rw [nI_clamp hj] 
          simp only [wC_column_0, wC_column_1, wC_column_4, wC_column_5, wC_column_6, wC_column_9, wC_column_10, wC_column_13, wC_column_14, wC_column_15, wC_column_18, wC_column_20, wC_column_23, wC_column_26, wC_column_28, wC_column_29, wC_column_30, wC_column_33, wC_column_34, wC_column_37, wC_column_38, wC_column_39, wC_column_40, wC_column_41, wC_column_43, wC_column_46, wC_column_47, wC_column_48, wC_column_49, wC_column_51, true_or, or_true, Option.toList_some, Option.toList_none, List.cons_append, List.nil_append, h0, if_false, h4, if_true, i0, h2, i1, s3, e1, cJ_floorMod (ts_t s - 1 - j) (by omega), e2, wC_column_50 k4, nI_clamp (show (ts_t s - 1 - j) % 30 * 4 + w.toNatClampNeg < 2 ^ 31 by omega), h3 _ hlt]
        · simp [wC_column_0, wC_column_1, wC_column_4, wC_column_5, wC_column_6, wC_column_9, wC_column_10, wC_column_13, wC_column_14, wC_column_15, wC_column_18, wC_column_20, wC_column_23, wC_column_26, wC_column_28, wC_column_29, wC_column_30, wC_column_33, wC_column_34, wC_column_37, wC_column_38, wC_column_39, wC_column_40, wC_column_41, wC_column_43, wC_column_46, wC_column_47, wC_column_48, wC_column_49, wC_column_51, h0, h4, i0, h2, i1]
    · simp [wC_column_0, wC_column_1, wC_column_4, wC_column_5, wC_column_6, wC_column_9, wC_column_10, wC_column_13, wC_column_14, wC_column_15, wC_column_18, wC_column_20, wC_column_23, wC_column_26, wC_column_28, wC_column_29, wC_column_30, wC_column_33, wC_column_34, wC_column_37, wC_column_38, wC_column_39, wC_column_40, wC_column_41, wC_column_43, wC_column_46, wC_column_47, wC_column_48, wC_column_49, wC_column_51, h0, h4]
theorem cX_row (h : cp X ad s M) (ht : ts_t s < 2 ^ 30) (i w : Int32) : am_wp yX_row 0 [.inr (.inl (1, some X)), .inl i, .inl w] [] M K = K (some (.inl (sp_row s i w))) M := by
  obtain ⟨s0, s1, s2, s3⟩ := h.1
  simp only [wX_row_0, wX_row_1, wX_row_4, wX_row_5, wX_row_6, wX_row_9, s1, cC_column h ht, true_or, or_true, Option.toList_some, Option.toList_none, List.cons_append, List.nil_append]
theorem sw0_0 : am_swt 0 0 = 28 := by decide +kernel
theorem sw0_1 : am_swt 0 1 = 33 := by decide +kernel
theorem sw0_2 : am_swt 0 2 = 41 := by decide +kernel
theorem i32_lit {v : Int32} (h : 0 ≤ v.toInt ∧ v.toInt ≤ 2) : v = 0 ∨ v = 1 ∨ v = 2 := by
  have h3 : v.toInt = 0 ∨ v.toInt = 1 ∨ v.toInt = 2 := by omega
  rcases h3 with q | q | q
  · exact Or.inl (Int32.toInt_inj.mp (by rw [q]; rfl))
  · exact Or.inr (Or.inl (Int32.toInt_inj.mp (by rw [q]; rfl)))
  · exact Or.inr (Or.inr (Int32.toInt_inj.mp (by rw [q]; rfl)))
theorem sw0_d {v : Int32} (h0 : ¬ v = 0) (h1 : ¬ v = 1) (h2 : ¬ v = 2) : am_swt 0 v = 46 := by
  have h : v.toInt < 0 ∨ 2 < v.toInt := by
    by_cases q : 0 ≤ v.toInt ∧ v.toInt ≤ 2
    · rcases i32_lit q with r | r | r
      · exact absurd r h0
      · exact absurd r h1
      · exact absurd r h2
    · omega
  simp [am_swt, am_sw, h]
def sp_told (s : ts_S) (w : Int32) : Int32 := if w = 0 then nI ((List.range 20).filter (tq_n0 s)).length else if w = 1 then nI (ts_t s) else if w = 2 then nI ((List.range 20).filter (tq_n2 s)).length else -2
theorem cX_told (h : cp X ad s M) (hs : ts_ok s) (w : Int32) : am_wp yX_told 0 [.inr (.inl (1, some X)), .inl w] [] M K = K (some (.inl (sp_told s w))) M := by
  obtain ⟨s0, s1, s2, s3⟩ := h.1
  unfold sp_told
  simp only [wX_told_0, wX_told_1]
  by_cases h0 : w = 0
  · subst h0
    simp [sw0_0, wX_told_0, wX_told_1, wX_told_28, wX_told_29, wX_told_32, wX_told_33, wX_told_34, wX_told_37, wX_told_40, wX_told_41, wX_told_42, wX_told_45, wX_told_46, wX_told_48, cX_countThings h]
  · by_cases h1 : w = 1
    · subst h1
      simp [sw0_1, wX_told_0, wX_told_1, wX_told_28, wX_told_29, wX_told_32, wX_told_33, wX_told_34, wX_told_37, wX_told_40, wX_told_41, wX_told_42, wX_told_45, wX_told_46, wX_told_48, s1, h.2.2.1]
    · by_cases h2 : w = 2
      · subst h2
        simp [sw0_2, wX_told_0, wX_told_1, wX_told_28, wX_told_29, wX_told_32, wX_told_33, wX_told_34, wX_told_37, wX_told_40, wX_told_41, wX_told_42, wX_told_45, wX_told_46, wX_told_48, cX_countNowhere h hs]
      · simp [sw0_d h0 h1 h2, wX_told_0, wX_told_1, wX_told_28, wX_told_29, wX_told_32, wX_told_33, wX_told_34, wX_told_37, wX_told_40, wX_told_41, wX_told_42, wX_told_45, wX_told_46, wX_told_48, h0, h1, h2]
end CP
