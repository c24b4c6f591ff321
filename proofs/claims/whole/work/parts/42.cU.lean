-- THE CALLS THAT MOVE THINGS
section CU
theorem fo_nup {L : fo_L} {t p : Nat} (hok : fo_ok L) (hp : fo_p L t = some p) : p ∉ fo_w L t := fun q => by
  have h1 := fo_p_deep hok hp
  by_cases e : t = p
  · subst e; omega
  · have := fo_w_deep hok q e
    omega
theorem fo_nup2 {L : fo_L} {t p h : Nat} (hok : fo_ok L) (hp : fo_p L t = some p) (hh : fo_p L p = some h) : h ∉ fo_w L t := fun q => by
  have h1 := fo_p_deep hok hp
  have h2 := fo_p_deep hok hh
  by_cases e : t = h
  · subst e; omega
  · have := fo_w_deep hok q e
    omega
variable {X : Nat} {ad : Nat → Option Nat} {s : ts_S} {M : am_M} {K : Option am_V → am_M → Prop} {n a : Nat}
def tq_hl (s : ts_S) (n m : Nat) (v : Int32) : Bool := decide (ts_pa s n = some m) && decide (ts_way s n = v)
theorem tq_hl_p {s : ts_S} {n m : Nat} {v : Int32} (h : tq_hl s n m v = true) : ts_pa s n = some m ∧ ts_way s n = v := by
  unfold tq_hl at h
  simpa using h
theorem cT_hl (h : cp X ad s M) (ha : ad n = some a) {m b : Nat} (hb : ad m = some b) (v : Int32) : am_wp yT_isHeldBy 0 [.inr (.inl (2, some a)), .inr (.inl (2, some b)), .inl v] [] M K = K (some (.inl (am_b (tq_hl s n m v)))) M := cT_isHeldBy h ha hb v
def tq_in (s : ts_S) (n m : Nat) : Bool := decide (n ∈ fo_w (ts_L s) m)
theorem tq_in_f {s : ts_S} {n m : Nat} (h : tq_in s n m = false) : n ∉ fo_w (ts_L s) m := by
  unfold tq_in at h
  simpa using h
theorem cT_in (h : cp X ad s M) (hok : fo_ok (ts_L s)) (ha : ad n = some a) {m b : Nat} (hb : ad m = some b) : am_wp yT_isWithin 0 [.inr (.inl (2, some a)), .inr (.inl (2, some b)), am_u] [] M K = K (some (.inl (am_b (tq_in s n m)))) M := cT_isWithin h hok ha hb
-- moves
def sp_mvto (s : ts_S) (t h k : Nat) : Int32 × ts_S :=
  if tq_hb s h k = false then (-3, s) else if tq_ch s t (nI k) = false then (-3, s) else if tq_hl s t h (nI k) = true then (0, s) else if tq_in s h t = true then (-4, s) else if k = 3 then (1, ts_come s t h (nI k)) else sp_cuf s t h (nI k)
theorem cX_moveTo (h : cp X ad s M) (hs : ts_ok s) (ht : ts_t s < 2 ^ 30) (ha : ad n = some a) {p ap : Nat} (hap : ad p = some ap) {k : Nat} (hk : k < 4) (hK : ∀ M', cp X ad (sp_mvto s n p k).2 M' → fx_f (cxR X) M M' → K (some (.inl (sp_mvto s n p k).1)) M') : am_wp yX_moveTo 0 [.inr (.inl (1, some X)), .inr (.inl (2, some a)), .inr (.inl (2, some ap)), .inl (nI k)] [] M K := by
  unfold sp_mvto at hK
  have o := cp_at h ha
  have q := cp_at h hap
  have hkn := (hs.2.2.2.1 n (cp_lv h ha)).1
  have hkp := (hs.2.2.2.1 p (cp_lv h hap)).1
  simp only [wX_moveTo_0, wX_moveTo_1, wX_moveTo_2, wX_moveTo_5, wX_moveTo_8, wX_moveTo_9, wX_moveTo_10, wX_moveTo_13, wX_moveTo_16, wX_moveTo_18, wX_moveTo_19, wX_moveTo_20, wX_moveTo_21, wX_moveTo_22, wX_moveTo_25, wX_moveTo_28, wX_moveTo_29, wX_moveTo_30, wX_moveTo_31, wX_moveTo_32, wX_moveTo_35, wX_moveTo_38, wX_moveTo_40, wX_moveTo_41, wX_moveTo_42, wX_moveTo_43, wX_moveTo_46, wX_moveTo_47, wX_moveTo_48, wX_moveTo_49, wX_moveTo_50, wX_moveTo_53, wX_moveTo_54, wX_moveTo_55, wX_moveTo_56, wX_moveTo_57, wX_moveTo_58, wX_moveTo_61, wX_moveTo_62, cT_holdsBy q hkp k (by omega), cT_canBeHeldBy o hkn (nI k), cT_hl h ha hap, cT_in h hs.1 hap ha, true_or, or_true, Option.toList_some, Option.toList_none, List.cons_append, List.nil_append, am_b0, nk3 (show k < 1000 by omega)]
  cases c1 : tq_hb s p k with
  | false =>
    simp only [c1, if_true] at hK ⊢
    exact hK M h (fx_f_rf M)
  | true =>
    cases c2 : tq_ch s n (nI k) with
    | false =>
      simp only [c1, c2, reduceCtorEq, if_true, if_false] at hK ⊢
      exact hK M h (fx_f_rf M)
    | true =>
      cases c3 : tq_hl s n p (nI k) with
      | true =>
        simp only [c1, c2, c3, reduceCtorEq, if_true, if_false] at hK ⊢
        exact hK M h (fx_f_rf M)
      | false =>
        cases c4 : tq_in s p n with
        | true =>
          simp only [c1, c2, c3, c4, reduceCtorEq, if_true, if_false] at hK ⊢
          exact hK M h (fx_f_rf M)
        | false =>
          by_cases c5 : k = 3
          · simp only [c1, c2, c3, c4, reduceCtorEq, if_true, if_false, if_pos c5] at hK ⊢
            refine cX_come h hs ht ha hap (tq_in_f c4) _ (fun M1 h1 f1 => ?_)
            simp only [wX_moveTo_0, wX_moveTo_1, wX_moveTo_2, wX_moveTo_5, wX_moveTo_8, wX_moveTo_9, wX_moveTo_10, wX_moveTo_13, wX_moveTo_16, wX_moveTo_18, wX_moveTo_19, wX_moveTo_20, wX_moveTo_21, wX_moveTo_22, wX_moveTo_25, wX_moveTo_28, wX_moveTo_29, wX_moveTo_30, wX_moveTo_31, wX_moveTo_32, wX_moveTo_35, wX_moveTo_38, wX_moveTo_40, wX_moveTo_41, wX_moveTo_42, wX_moveTo_43, wX_moveTo_46, wX_moveTo_47, wX_moveTo_48, wX_moveTo_49, wX_moveTo_50, wX_moveTo_53, wX_moveTo_54, wX_moveTo_55, wX_moveTo_56, wX_moveTo_57, wX_moveTo_58, wX_moveTo_61, wX_moveTo_62, true_or, or_true, Option.toList_some, Option.toList_none, List.cons_append, List.nil_append]
            exact hK M1 h1 f1
          · simp only [c1, c2, c3, c4, reduceCtorEq, if_true, if_false, if_neg c5] at hK ⊢
            refine cX_comeUnlessFull h hs ht ha hap (tq_in_f c4) _ (fun M1 h1 f1 => ?_)
            simp only [wX_moveTo_0, wX_moveTo_1, wX_moveTo_2, wX_moveTo_5, wX_moveTo_8, wX_moveTo_9, wX_moveTo_10, wX_moveTo_13, wX_moveTo_16, wX_moveTo_18, wX_moveTo_19, wX_moveTo_20, wX_moveTo_21, wX_moveTo_22, wX_moveTo_25, wX_moveTo_28, wX_moveTo_29, wX_moveTo_30, wX_moveTo_31, wX_moveTo_32, wX_moveTo_35, wX_moveTo_38, wX_moveTo_40, wX_moveTo_41, wX_moveTo_42, wX_moveTo_43, wX_moveTo_46, wX_moveTo_47, wX_moveTo_48, wX_moveTo_49, wX_moveTo_50, wX_moveTo_53, wX_moveTo_54, wX_moveTo_55, wX_moveTo_56, wX_moveTo_57, wX_moveTo_58, wX_moveTo_61, wX_moveTo_62, true_or, or_true, Option.toList_some, Option.toList_none, List.cons_append, List.nil_append]
            exact hK M1 h1 f1
def sp_mvno (s : ts_S) (t : Nat) : Int32 × ts_S := if ts_pa s t = none then (0, s) else (1, ts_gone s t)
theorem cX_moveNowhere (h : cp X ad s M) (hs : ts_ok s) (ht : ts_t s < 2 ^ 30) (ha : ad n = some a) (hK : ∀ M', cp X ad (sp_mvno s n).2 M' → fx_f (cxR X) M M' → K (some (.inl (sp_mvno s n).1)) M') : am_wp yX_moveNowhere 0 [.inr (.inl (1, some X)), .inr (.inl (2, some a))] [] M K := by
  unfold sp_mvno at hK
  obtain ⟨-, -, -, o3, -⟩ := cp_at h ha
  simp only [wX_moveNowhere_0, wX_moveNowhere_1, wX_moveNowhere_4, wX_moveNowhere_7, wX_moveNowhere_8, wX_moveNowhere_9, wX_moveNowhere_10, wX_moveNowhere_11, wX_moveNowhere_14, wX_moveNowhere_15, o3, true_or, or_true, Option.toList_some, Option.toList_none, List.cons_append, List.nil_append, cp_bindN h (fun q hq => ts_pa_lv hq)]
  by_cases c : ts_pa s n = none
  · simp only [if_pos c] at hK ⊢
    exact hK M h (fx_f_rf M)
  · simp only [if_neg c] at hK ⊢
    refine cX_comeNowhere h hs ht ha (fun M1 h1 f1 => ?_)
    simp only [wX_moveNowhere_0, wX_moveNowhere_1, wX_moveNowhere_4, wX_moveNowhere_7, wX_moveNowhere_8, wX_moveNowhere_9, wX_moveNowhere_10, wX_moveNowhere_11, wX_moveNowhere_14, wX_moveNowhere_15, true_or, or_true, Option.toList_some, Option.toList_none, List.cons_append, List.nil_append]
    exact hK M1 h1 f1
def sp_move (s : ts_S) (v w y : Int32) : Int32 × ts_S := match ts_id s v with
  | none => (-1, s)
  | some t => if ts_id s w = none ∧ ¬ w = -1 then (-1, s) else if y < 0 then (-2, s) else if 3 < y then (-2, s) else if tq_lo s t = false then (-3, s) else match ts_id s w with
    | none => sp_mvno s t
    | some h => sp_mvto s t h y.toNatClampNeg
theorem cX_move (h : cp X ad s M) (hs : ts_ok s) (ht : ts_t s < 2 ^ 30) (v w y : Int32) (hK : ∀ M', cp X ad (sp_move s v w y).2 M' → fx_f (cxR X) M M' → K (some (.inl (sp_move s v w y).1)) M') : am_wp yX_move 0 [.inr (.inl (1, some X)), .inl v, .inl w, .inl y, am_u, am_u] [] M K := by
  unfold sp_move at hK
  cases hv : ts_id s v with
  | none =>
    rw [hv] at hK
    simp [wX_move_0, wX_move_1, wX_move_2, wX_move_5, wX_move_7, wX_move_8, wX_move_9, wX_move_12, wX_move_14, wX_move_16, wX_move_19, wX_move_21, wX_move_24, wX_move_25, wX_move_26, wX_move_29, wX_move_30, wX_move_31, wX_move_32, wX_move_35, wX_move_36, wX_move_37, wX_move_40, wX_move_42, wX_move_43, wX_move_45, wX_move_48, wX_move_51, wX_move_53, wX_move_54, wX_move_56, wX_move_59, wX_move_60, wX_move_62, wX_move_65, wX_move_68, wX_move_69, wX_move_71, wX_move_73, wX_move_74, wX_move_77, cX_fd h, hv]
    exact hK M h (fx_f_rf M)
  | some n =>
    obtain ⟨a, ha, o⟩ := cp_id_ex h hv
    have hkn := (hs.2.2.2.1 n (ts_id_some hv).2.1).1
    rw [hv] at hK
    simp only at hK
    cases hw : ts_id s w with
    | none =>
      by_cases c1 : w = -1
      · simp only [hw, c1, not_true_eq_false, and_false, if_false] at hK
        simp only [wX_move_0, wX_move_1, wX_move_2, wX_move_5, wX_move_7, wX_move_8, wX_move_9, wX_move_12, wX_move_14, wX_move_16, wX_move_19, wX_move_21, wX_move_24, wX_move_25, wX_move_26, wX_move_29, wX_move_30, wX_move_31, wX_move_32, wX_move_35, wX_move_36, wX_move_37, wX_move_40, wX_move_42, wX_move_43, wX_move_45, wX_move_48, wX_move_51, wX_move_53, wX_move_54, wX_move_56, wX_move_59, wX_move_60, wX_move_62, wX_move_65, wX_move_68, wX_move_69, wX_move_71, wX_move_73, wX_move_74, wX_move_77, cX_fd h, hv, hw, ha, true_or, or_true, Option.toList_some, Option.toList_none, List.cons_append, List.nil_append, Option.bind_some, Option.bind_none, reduceCtorEq, if_true, if_false, c1, cT_isLoose o hkn, am_b0]
        by_cases c2 : y < 0
        · simp only [c2, if_true] at hK ⊢
          exact hK M h (fx_f_rf M)
        · by_cases c3 : 3 < y
          · simp only [c2, c3, if_true, if_false] at hK ⊢
            exact hK M h (fx_f_rf M)
          · cases c4 : tq_lo s n with
            | false =>
              simp only [c2, c3, c4, if_true, if_false] at hK ⊢
              exact hK M h (fx_f_rf M)
            | true =>
              simp only [c2, c3, c4, reduceCtorEq, if_false] at hK ⊢
              refine cX_moveNowhere h hs ht ha (fun M1 h1 f1 => ?_)
              simp only [wX_move_0, wX_move_1, wX_move_2, wX_move_5, wX_move_7, wX_move_8, wX_move_9, wX_move_12, wX_move_14, wX_move_16, wX_move_19, wX_move_21, wX_move_24, wX_move_25, wX_move_26, wX_move_29, wX_move_30, wX_move_31, wX_move_32, wX_move_35, wX_move_36, wX_move_37, wX_move_40, wX_move_42, wX_move_43, wX_move_45, wX_move_48, wX_move_51, wX_move_53, wX_move_54, wX_move_56, wX_move_59, wX_move_60, wX_move_62, wX_move_65, wX_move_68, wX_move_69, wX_move_71, wX_move_73, wX_move_74, wX_move_77, true_or, or_true, Option.toList_some, Option.toList_none, List.cons_append, List.nil_append]
              exact hK M1 h1 f1
      · simp only [hw, c1, not_false_eq_true, and_self, if_true] at hK
        simp [wX_move_0, wX_move_1, wX_move_2, wX_move_5, wX_move_7, wX_move_8, wX_move_9, wX_move_12, wX_move_14, wX_move_16, wX_move_19, wX_move_21, wX_move_24, wX_move_25, wX_move_26, wX_move_29, wX_move_30, wX_move_31, wX_move_32, wX_move_35, wX_move_36, wX_move_37, wX_move_40, wX_move_42, wX_move_43, wX_move_45, wX_move_48, wX_move_51, wX_move_53, wX_move_54, wX_move_56, wX_move_59, wX_move_60, wX_move_62, wX_move_65, wX_move_68, wX_move_69, wX_move_71, wX_move_73, wX_move_74, wX_move_77, cX_fd h, hv, hw, ha, c1]
        exact hK M h (fx_f_rf M)
    | some p =>
      obtain ⟨b, hb, q⟩ := cp_id_ex h hw
      simp only [hw, reduceCtorEq, false_and, if_false] at hK
      simp only [wX_move_0, wX_move_1, wX_move_2, wX_move_5, wX_move_7, wX_move_8, wX_move_9, wX_move_12, wX_move_14, wX_move_16, wX_move_19, wX_move_21, wX_move_24, wX_move_25, wX_move_26, wX_move_29, wX_move_30, wX_move_31, wX_move_32, wX_move_35, wX_move_36, wX_move_37, wX_move_40, wX_move_42, wX_move_43, wX_move_45, wX_move_48, wX_move_51, wX_move_53, wX_move_54, wX_move_56, wX_move_59, wX_move_60, wX_move_62, wX_move_65, wX_move_68, wX_move_69, wX_move_71, wX_move_73, wX_move_74, wX_move_77, cX_fd h, hv, hw, ha, hb, true_or, or_true, Option.toList_some, Option.toList_none, List.cons_append, List.nil_append, Option.bind_some, reduceCtorEq, if_false, cT_isLoose o hkn, am_b0]
      by_cases c2 : y < 0
      · simp only [c2, if_true] at hK ⊢
        exact hK M h (fx_f_rf M)
      · by_cases c3 : 3 < y
        · simp only [c2, c3, if_true, if_false] at hK ⊢
          exact hK M h (fx_f_rf M)
        · obtain ⟨k, hk1, rfl⟩ := nI_of c2
          have hk4 : k < 4 := Classical.byContradiction (fun q => c3 ((nI_ltI (a := 3) (b := k) (by decide) hk1).mpr (by omega)))
          rw [nI_clamp hk1] at hK
          cases c4 : tq_lo s n with
          | false =>
            simp only [c2, c3, c4, if_true, if_false] at hK ⊢
            exact hK M h (fx_f_rf M)
          | true =>
            simp only [c2, c3, c4, reduceCtorEq, if_false] at hK ⊢
            refine cX_moveTo h hs ht ha hb hk4 (fun M1 h1 f1 => ?_)
            simp only [wX_move_0, wX_move_1, wX_move_2, wX_move_5, wX_move_7, wX_move_8, wX_move_9, wX_move_12, wX_move_14, wX_move_16, wX_move_19, wX_move_21, wX_move_24, wX_move_25, wX_move_26, wX_move_29, wX_move_30, wX_move_31, wX_move_32, wX_move_35, wX_move_36, wX_move_37, wX_move_40, wX_move_42, wX_move_43, wX_move_45, wX_move_48, wX_move_51, wX_move_53, wX_move_54, wX_move_56, wX_move_59, wX_move_60, wX_move_62, wX_move_65, wX_move_68, wX_move_69, wX_move_71, wX_move_73, wX_move_74, wX_move_77, true_or, or_true, Option.toList_some, Option.toList_none, List.cons_append, List.nil_append]
            exact hK M1 h1 f1
def sp_part (s : ts_S) (v w : Int32) : Int32 × ts_S := match ts_id s v, ts_id s w with
  | some t, some p => if tq_lo s t = true ∧ ¬ ts_kd s t = 4 ∧ tq_hb s p 4 = true then (if tq_in s p t = true then (-4, s) else (1, ts_come s t p 4)) else (-3, s)
  | _, _ => (-1, s)
theorem cX_part (h : cp X ad s M) (hs : ts_ok s) (ht : ts_t s < 2 ^ 30) (v w : Int32) (hK : ∀ M', cp X ad (sp_part s v w).2 M' → fx_f (cxR X) M M' → K (some (.inl (sp_part s v w).1)) M') : am_wp yX_part 0 [.inr (.inl (1, some X)), .inl v, .inl w, am_u, am_u] [] M K := by
  unfold sp_part at hK
  cases hv : ts_id s v with
  | none =>
    rw [hv] at hK
    simp [wX_part_0, wX_part_1, wX_part_2, wX_part_5, wX_part_6, wX_part_7, wX_part_8, wX_part_11, wX_part_13, wX_part_14, wX_part_17, wX_part_19, wX_part_22, wX_part_23, wX_part_24, wX_part_25, wX_part_28, wX_part_31, wX_part_32, wX_part_35, wX_part_36, wX_part_39, wX_part_41, wX_part_42, wX_part_45, wX_part_48, wX_part_50, wX_part_51, wX_part_53, wX_part_54, wX_part_57, wX_part_60, wX_part_62, wX_part_63, wX_part_64, wX_part_65, wX_part_67, wX_part_68, wX_part_71, wX_part_72, cX_fd h, hv]
    exact hK M h (fx_f_rf M)
  | some n =>
    obtain ⟨a, ha, o⟩ := cp_id_ex h hv
    have hkn := (hs.2.2.2.1 n (ts_id_some hv).2.1).1
    cases hw : ts_id s w with
    | none =>
      rw [hv, hw] at hK
      simp [wX_part_0, wX_part_1, wX_part_2, wX_part_5, wX_part_6, wX_part_7, wX_part_8, wX_part_11, wX_part_13, wX_part_14, wX_part_17, wX_part_19, wX_part_22, wX_part_23, wX_part_24, wX_part_25, wX_part_28, wX_part_31, wX_part_32, wX_part_35, wX_part_36, wX_part_39, wX_part_41, wX_part_42, wX_part_45, wX_part_48, wX_part_50, wX_part_51, wX_part_53, wX_part_54, wX_part_57, wX_part_60, wX_part_62, wX_part_63, wX_part_64, wX_part_65, wX_part_67, wX_part_68, wX_part_71, wX_part_72, cX_fd h, hv, hw, ha]
      exact hK M h (fx_f_rf M)
    | some p =>
      obtain ⟨b, hb, q⟩ := cp_id_ex h hw
      have hkp := (hs.2.2.2.1 p (ts_id_some hw).2.1).1
      rw [hv, hw] at hK
      have hb4 := fun K' => cT_holdsBy (K := K') q hkp 4 (by decide)
      rw [show nI 4 = (4 : Int32) from rfl] at hb4
      simp only [wX_part_0, wX_part_1, wX_part_2, wX_part_5, wX_part_6, wX_part_7, wX_part_8, wX_part_11, wX_part_13, wX_part_14, wX_part_17, wX_part_19, wX_part_22, wX_part_23, wX_part_24, wX_part_25, wX_part_28, wX_part_31, wX_part_32, wX_part_35, wX_part_36, wX_part_39, wX_part_41, wX_part_42, wX_part_45, wX_part_48, wX_part_50, wX_part_51, wX_part_53, wX_part_54, wX_part_57, wX_part_60, wX_part_62, wX_part_63, wX_part_64, wX_part_65, wX_part_67, wX_part_68, wX_part_71, wX_part_72, cX_fd h, hv, hw, ha, hb, true_or, or_true, Option.toList_some, Option.toList_none, List.cons_append, List.nil_append, Option.bind_some, reduceCtorEq, if_false, cT_isLoose o hkn, am_b0, o.2.1, nk4 (show ts_kd s n < 1000 by omega), hb4, cT_in h hs.1 hb ha]
      cases c1 : tq_lo s n with
      | false =>
        simp only [c1, reduceCtorEq, false_and, if_true, if_false] at hK ⊢
        exact hK M h (fx_f_rf M)
      | true =>
        by_cases c2 : ts_kd s n = 4
        · simp only [c1, c2, reduceCtorEq, not_true_eq_false, and_false, false_and, if_true, if_false] at hK ⊢
          exact hK M h (fx_f_rf M)
        · cases c3 : tq_hb s p 4 with
          | false =>
            simp only [c1, c2, c3, reduceCtorEq, and_false, if_true, if_false] at hK ⊢
            exact hK M h (fx_f_rf M)
          | true =>
            cases c4 : tq_in s p n with
            | true =>
              simp only [c1, c2, c3, c4, reduceCtorEq, not_false_eq_true, and_self, if_true, if_false] at hK ⊢
              exact hK M h (fx_f_rf M)
            | false =>
              simp only [c1, c2, c3, c4, reduceCtorEq, not_false_eq_true, and_self, if_true, if_false] at hK ⊢
              refine cX_come h hs ht ha hb (tq_in_f c4) _ (fun M1 h1 f1 => ?_)
              simp only [wX_part_0, wX_part_1, wX_part_2, wX_part_5, wX_part_6, wX_part_7, wX_part_8, wX_part_11, wX_part_13, wX_part_14, wX_part_17, wX_part_19, wX_part_22, wX_part_23, wX_part_24, wX_part_25, wX_part_28, wX_part_31, wX_part_32, wX_part_35, wX_part_36, wX_part_39, wX_part_41, wX_part_42, wX_part_45, wX_part_48, wX_part_50, wX_part_51, wX_part_53, wX_part_54, wX_part_57, wX_part_60, wX_part_62, wX_part_63, wX_part_64, wX_part_65, wX_part_67, wX_part_68, wX_part_71, wX_part_72, true_or, or_true, Option.toList_some, Option.toList_none, List.cons_append, List.nil_append]
              exact hK M1 h1 f1
end CU
