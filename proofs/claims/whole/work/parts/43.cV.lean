-- THE CALLS OF PERSONS
section CV
variable {X : Nat} {ad : Nat → Option Nat} {s : ts_S} {M : am_M} {K : Option am_V → am_M → Prop} {n a : Nat}
def sp_take (s : ts_S) (v w : Int32) : Int32 × ts_S := match ts_id s v, ts_id s w with
  | some p, some t => if ts_kd s p = 4 ∧ tq_lo s t = true ∧ tq_ch s t 2 = true then (if tq_hl s t p 2 = true then (0, s) else if tq_in s p t = true then (-4, s) else if tq_ro s p t false < 0 then (tq_ro s p t false, s) else sp_cuf s t p 2) else (-3, s)
  | _, _ => (-1, s)
theorem cX_take (h : cp X ad s M) (hs : ts_ok s) (ht : ts_t s < 2 ^ 30) (v w : Int32) (hK : ∀ M', cp X ad (sp_take s v w).2 M' → fx_f (cxR X) M M' → K (some (.inl (sp_take s v w).1)) M') : am_wp yX_take 0 [.inr (.inl (1, some X)), .inl v, .inl w, am_u, am_u, am_u] [] M K := by
  unfold sp_take at hK
  cases hv : ts_id s v with
  | none =>
    rw [hv] at hK
    simp [wX_take_0, wX_take_1, wX_take_2, wX_take_5, wX_take_6, wX_take_7, wX_take_8, wX_take_11, wX_take_13, wX_take_14, wX_take_17, wX_take_19, wX_take_22, wX_take_23, wX_take_24, wX_take_25, wX_take_28, wX_take_29, wX_take_32, wX_take_34, wX_take_37, wX_take_40, wX_take_42, wX_take_43, wX_take_46, wX_take_49, wX_take_51, wX_take_52, wX_take_54, wX_take_55, wX_take_56, wX_take_59, wX_take_62, wX_take_63, wX_take_64, wX_take_65, wX_take_67, wX_take_70, wX_take_73, wX_take_75, wX_take_76, wX_take_77, wX_take_79, wX_take_82, wX_take_84, wX_take_86, wX_take_89, wX_take_91, wX_take_94, wX_take_95, wX_take_97, wX_take_98, wX_take_99, wX_take_102, cX_fd h, hv]
    exact hK M h (fx_f_rf M)
  | some p =>
    obtain ⟨a, ha, o⟩ := cp_id_ex h hv
    have hkp := (hs.2.2.2.1 p (ts_id_some hv).2.1).1
    cases hw : ts_id s w with
    | none =>
      rw [hv, hw] at hK
      simp [wX_take_0, wX_take_1, wX_take_2, wX_take_5, wX_take_6, wX_take_7, wX_take_8, wX_take_11, wX_take_13, wX_take_14, wX_take_17, wX_take_19, wX_take_22, wX_take_23, wX_take_24, wX_take_25, wX_take_28, wX_take_29, wX_take_32, wX_take_34, wX_take_37, wX_take_40, wX_take_42, wX_take_43, wX_take_46, wX_take_49, wX_take_51, wX_take_52, wX_take_54, wX_take_55, wX_take_56, wX_take_59, wX_take_62, wX_take_63, wX_take_64, wX_take_65, wX_take_67, wX_take_70, wX_take_73, wX_take_75, wX_take_76, wX_take_77, wX_take_79, wX_take_82, wX_take_84, wX_take_86, wX_take_89, wX_take_91, wX_take_94, wX_take_95, wX_take_97, wX_take_98, wX_take_99, wX_take_102, cX_fd h, hv, hw, ha]
      exact hK M h (fx_f_rf M)
    | some t =>
      obtain ⟨b, hb, q⟩ := cp_id_ex h hw
      have hkt := (hs.2.2.2.1 t (ts_id_some hw).2.1).1
      rw [hv, hw] at hK
      simp only at hK
      have o1 := o.2.1
      have q1 := q.2.1
      simp only [wX_take_0, wX_take_1, wX_take_2, wX_take_5, wX_take_6, wX_take_7, wX_take_8, wX_take_11, wX_take_13, wX_take_14, wX_take_17, wX_take_19, wX_take_22, wX_take_23, wX_take_24, wX_take_25, wX_take_28, wX_take_29, wX_take_32, wX_take_34, wX_take_37, wX_take_40, wX_take_42, wX_take_43, wX_take_46, wX_take_49, wX_take_51, wX_take_52, wX_take_54, wX_take_55, wX_take_56, wX_take_59, wX_take_62, wX_take_63, wX_take_64, wX_take_65, wX_take_67, wX_take_70, wX_take_73, wX_take_75, wX_take_76, wX_take_77, wX_take_79, wX_take_82, wX_take_84, wX_take_86, wX_take_89, wX_take_91, wX_take_94, wX_take_95, wX_take_97, wX_take_98, wX_take_99, wX_take_102, cX_fd h, hv, hw, ha, hb, true_or, or_true, Option.toList_some, Option.toList_none, List.cons_append, List.nil_append, Option.bind_some, reduceCtorEq, if_false, o1, nk4 (show ts_kd s p < 1000 by omega), cT_isLoose q hkt, cT_canBeHeldBy q hkt, cT_hl h hb ha, cT_in h hs.1 ha hb, cR_forTouch h hs ha hb, am_b0]
      by_cases c1 : ts_kd s p = 4
      · cases c2 : tq_lo s t with
        | false =>
          simp only [c1, c2, reduceCtorEq, false_and, and_false, if_true, if_false] at hK ⊢
          exact hK M h (fx_f_rf M)
        | true =>
          cases c3 : tq_ch s t 2 with
          | false =>
            simp only [c1, c2, c3, reduceCtorEq, and_false, if_true, if_false] at hK ⊢
            exact hK M h (fx_f_rf M)
          | true =>
            cases c4 : tq_hl s t p 2 with
            | true =>
              simp only [c1, c2, c3, c4, reduceCtorEq, and_self, if_true, if_false] at hK ⊢
              exact hK M h (fx_f_rf M)
            | false =>
              cases c5 : tq_in s p t with
              | true =>
                simp only [c1, c2, c3, c4, c5, reduceCtorEq, and_self, if_true, if_false] at hK ⊢
                exact hK M h (fx_f_rf M)
              | false =>
                by_cases c6 : tq_ro s p t false < 0
                · simp only [c1, c2, c3, c4, c5, c6, reduceCtorEq, and_self, if_true, if_false] at hK ⊢
                  exact hK M h (fx_f_rf M)
                · simp only [c1, c2, c3, c4, c5, c6, reduceCtorEq, and_self, if_true, if_false] at hK ⊢
                  refine cX_comeUnlessFull h hs ht hb ha (tq_in_f c5) _ (fun M1 h1 f1 => ?_)
                  simp only [wX_take_0, wX_take_1, wX_take_2, wX_take_5, wX_take_6, wX_take_7, wX_take_8, wX_take_11, wX_take_13, wX_take_14, wX_take_17, wX_take_19, wX_take_22, wX_take_23, wX_take_24, wX_take_25, wX_take_28, wX_take_29, wX_take_32, wX_take_34, wX_take_37, wX_take_40, wX_take_42, wX_take_43, wX_take_46, wX_take_49, wX_take_51, wX_take_52, wX_take_54, wX_take_55, wX_take_56, wX_take_59, wX_take_62, wX_take_63, wX_take_64, wX_take_65, wX_take_67, wX_take_70, wX_take_73, wX_take_75, wX_take_76, wX_take_77, wX_take_79, wX_take_82, wX_take_84, wX_take_86, wX_take_89, wX_take_91, wX_take_94, wX_take_95, wX_take_97, wX_take_98, wX_take_99, wX_take_102, true_or, or_true, Option.toList_some, Option.toList_none, List.cons_append, List.nil_append]
                  exact hK M1 h1 f1
      · simp only [c1, false_and, if_false] at hK ⊢
        exact hK M h (fx_f_rf M)
def sp_wear (s : ts_S) (v w : Int32) : Int32 × ts_S := match ts_id s v, ts_id s w with
  | some p, some t => if ts_kd s p = 4 ∧ ts_kd s t = 1 ∧ (tq_hl s t p 3 = true ∨ tq_hl s t p 2 = true) then (if tq_hl s t p 3 = true then (0, s) else (1, ts_come s t p 3)) else (-3, s)
  | _, _ => (-1, s)
theorem cX_wear (h : cp X ad s M) (hs : ts_ok s) (ht : ts_t s < 2 ^ 30) (v w : Int32) (hK : ∀ M', cp X ad (sp_wear s v w).2 M' → fx_f (cxR X) M M' → K (some (.inl (sp_wear s v w).1)) M') : am_wp yX_wear 0 [.inr (.inl (1, some X)), .inl v, .inl w, am_u, am_u, am_u] [] M K := by
  unfold sp_wear at hK
  cases hv : ts_id s v with
  | none =>
    rw [hv] at hK
    simp [wX_wear_0, wX_wear_1, wX_wear_2, wX_wear_5, wX_wear_6, wX_wear_7, wX_wear_8, wX_wear_11, wX_wear_13, wX_wear_14, wX_wear_17, wX_wear_19, wX_wear_22, wX_wear_23, wX_wear_24, wX_wear_26, wX_wear_27, wX_wear_28, wX_wear_31, wX_wear_33, wX_wear_34, wX_wear_37, wX_wear_38, wX_wear_41, wX_wear_43, wX_wear_46, wX_wear_47, wX_wear_50, wX_wear_52, wX_wear_55, wX_wear_57, wX_wear_58, wX_wear_59, wX_wear_62, wX_wear_65, wX_wear_67, wX_wear_68, wX_wear_70, wX_wear_73, wX_wear_74, wX_wear_75, wX_wear_76, wX_wear_78, wX_wear_79, wX_wear_80, wX_wear_83, wX_wear_84, cX_fd h, hv]
    exact hK M h (fx_f_rf M)
  | some p =>
    obtain ⟨a, ha, o⟩ := cp_id_ex h hv
    have hkp := (hs.2.2.2.1 p (ts_id_some hv).2.1).1
    cases hw : ts_id s w with
    | none =>
      rw [hv, hw] at hK
      simp [wX_wear_0, wX_wear_1, wX_wear_2, wX_wear_5, wX_wear_6, wX_wear_7, wX_wear_8, wX_wear_11, wX_wear_13, wX_wear_14, wX_wear_17, wX_wear_19, wX_wear_22, wX_wear_23, wX_wear_24, wX_wear_26, wX_wear_27, wX_wear_28, wX_wear_31, wX_wear_33, wX_wear_34, wX_wear_37, wX_wear_38, wX_wear_41, wX_wear_43, wX_wear_46, wX_wear_47, wX_wear_50, wX_wear_52, wX_wear_55, wX_wear_57, wX_wear_58, wX_wear_59, wX_wear_62, wX_wear_65, wX_wear_67, wX_wear_68, wX_wear_70, wX_wear_73, wX_wear_74, wX_wear_75, wX_wear_76, wX_wear_78, wX_wear_79, wX_wear_80, wX_wear_83, wX_wear_84, cX_fd h, hv, hw, ha]
      exact hK M h (fx_f_rf M)
    | some t =>
      obtain ⟨b, hb, q⟩ := cp_id_ex h hw
      have hkt := (hs.2.2.2.1 t (ts_id_some hw).2.1).1
      rw [hv, hw] at hK
      simp only at hK
      have o1 := o.2.1
      have q1 := q.2.1
      simp only [wX_wear_0, wX_wear_1, wX_wear_2, wX_wear_5, wX_wear_6, wX_wear_7, wX_wear_8, wX_wear_11, wX_wear_13, wX_wear_14, wX_wear_17, wX_wear_19, wX_wear_22, wX_wear_23, wX_wear_24, wX_wear_26, wX_wear_27, wX_wear_28, wX_wear_31, wX_wear_33, wX_wear_34, wX_wear_37, wX_wear_38, wX_wear_41, wX_wear_43, wX_wear_46, wX_wear_47, wX_wear_50, wX_wear_52, wX_wear_55, wX_wear_57, wX_wear_58, wX_wear_59, wX_wear_62, wX_wear_65, wX_wear_67, wX_wear_68, wX_wear_70, wX_wear_73, wX_wear_74, wX_wear_75, wX_wear_76, wX_wear_78, wX_wear_79, wX_wear_80, wX_wear_83, wX_wear_84, cX_fd h, hv, hw, ha, hb, true_or, or_true, Option.toList_some, Option.toList_none, List.cons_append, List.nil_append, Option.bind_some, reduceCtorEq, if_false, o1, q1, nk4 (show ts_kd s p < 1000 by omega), nk1 (show ts_kd s t < 1000 by omega), cT_hl h hb ha, am_b0]
      by_cases c1 : ts_kd s p = 4
      · by_cases c2 : ts_kd s t = 1
        · cases c3 : tq_hl s t p 3 with
          | true =>
            simp only [c1, c2, c3, reduceCtorEq, true_or, and_self, if_true, if_false] at hK ⊢
            exact hK M h (fx_f_rf M)
          | false =>
            cases c4 : tq_hl s t p 2 with
            | true =>
              simp only [c1, c2, c3, c4, reduceCtorEq, or_true, and_self, if_true, if_false] at hK ⊢
              refine cX_come h hs ht hb ha (fo_nup hs.1 (tq_hl_p c4).1) _ (fun M1 h1 f1 => ?_)
              simp only [wX_wear_0, wX_wear_1, wX_wear_2, wX_wear_5, wX_wear_6, wX_wear_7, wX_wear_8, wX_wear_11, wX_wear_13, wX_wear_14, wX_wear_17, wX_wear_19, wX_wear_22, wX_wear_23, wX_wear_24, wX_wear_26, wX_wear_27, wX_wear_28, wX_wear_31, wX_wear_33, wX_wear_34, wX_wear_37, wX_wear_38, wX_wear_41, wX_wear_43, wX_wear_46, wX_wear_47, wX_wear_50, wX_wear_52, wX_wear_55, wX_wear_57, wX_wear_58, wX_wear_59, wX_wear_62, wX_wear_65, wX_wear_67, wX_wear_68, wX_wear_70, wX_wear_73, wX_wear_74, wX_wear_75, wX_wear_76, wX_wear_78, wX_wear_79, wX_wear_80, wX_wear_83, wX_wear_84, true_or, or_true, Option.toList_some, Option.toList_none, List.cons_append, List.nil_append]
              exact hK M1 h1 f1
            | false =>
              simp only [c1, c2, c3, c4, reduceCtorEq, or_self, and_false, if_true, if_false] at hK ⊢
              exact hK M h (fx_f_rf M)
        · simp only [c1, c2, false_and, and_false, if_true, if_false] at hK ⊢
          exact hK M h (fx_f_rf M)
      · simp only [c1, false_and, if_false] at hK ⊢
        exact hK M h (fx_f_rf M)
def sp_enter (s : ts_S) (v w : Int32) : Int32 × ts_S := match ts_id s v, ts_id s w with
  | some p, some t => if ts_kd s p = 4 ∧ tq_en s t = true then (if tq_hl s p t 0 = true then (0, s) else if tq_in s t p = true then (-4, s) else if tq_ri s p t < 0 then (tq_ri s p t, s) else sp_cuf s p t 0) else (-3, s)
  | _, _ => (-1, s)
theorem cX_enter (h : cp X ad s M) (hs : ts_ok s) (ht : ts_t s < 2 ^ 30) (v w : Int32) (hK : ∀ M', cp X ad (sp_enter s v w).2 M' → fx_f (cxR X) M M' → K (some (.inl (sp_enter s v w).1)) M') : am_wp yX_enter 0 [.inr (.inl (1, some X)), .inl v, .inl w, am_u, am_u, am_u] [] M K := by
  unfold sp_enter at hK
  cases hv : ts_id s v with
  | none =>
    rw [hv] at hK
    simp [wX_enter_0, wX_enter_1, wX_enter_2, wX_enter_5, wX_enter_6, wX_enter_7, wX_enter_8, wX_enter_11, wX_enter_13, wX_enter_14, wX_enter_17, wX_enter_19, wX_enter_22, wX_enter_23, wX_enter_24, wX_enter_25, wX_enter_28, wX_enter_29, wX_enter_32, wX_enter_34, wX_enter_37, wX_enter_40, wX_enter_42, wX_enter_43, wX_enter_44, wX_enter_46, wX_enter_47, wX_enter_50, wX_enter_53, wX_enter_54, wX_enter_55, wX_enter_57, wX_enter_58, wX_enter_61, wX_enter_64, wX_enter_66, wX_enter_67, wX_enter_68, wX_enter_70, wX_enter_73, wX_enter_75, wX_enter_77, wX_enter_80, wX_enter_82, wX_enter_85, wX_enter_86, wX_enter_87, wX_enter_89, wX_enter_90, wX_enter_93, cX_fd h, hv]
    exact hK M h (fx_f_rf M)
  | some p =>
    obtain ⟨a, ha, o⟩ := cp_id_ex h hv
    have hkp := (hs.2.2.2.1 p (ts_id_some hv).2.1).1
    cases hw : ts_id s w with
    | none =>
      rw [hv, hw] at hK
      simp [wX_enter_0, wX_enter_1, wX_enter_2, wX_enter_5, wX_enter_6, wX_enter_7, wX_enter_8, wX_enter_11, wX_enter_13, wX_enter_14, wX_enter_17, wX_enter_19, wX_enter_22, wX_enter_23, wX_enter_24, wX_enter_25, wX_enter_28, wX_enter_29, wX_enter_32, wX_enter_34, wX_enter_37, wX_enter_40, wX_enter_42, wX_enter_43, wX_enter_44, wX_enter_46, wX_enter_47, wX_enter_50, wX_enter_53, wX_enter_54, wX_enter_55, wX_enter_57, wX_enter_58, wX_enter_61, wX_enter_64, wX_enter_66, wX_enter_67, wX_enter_68, wX_enter_70, wX_enter_73, wX_enter_75, wX_enter_77, wX_enter_80, wX_enter_82, wX_enter_85, wX_enter_86, wX_enter_87, wX_enter_89, wX_enter_90, wX_enter_93, cX_fd h, hv, hw, ha]
      exact hK M h (fx_f_rf M)
    | some t =>
      obtain ⟨b, hb, q⟩ := cp_id_ex h hw
      have hkt := (hs.2.2.2.1 t (ts_id_some hw).2.1).1
      rw [hv, hw] at hK
      simp only at hK
      have o1 := o.2.1
      have q1 := q.2.1
      simp only [wX_enter_0, wX_enter_1, wX_enter_2, wX_enter_5, wX_enter_6, wX_enter_7, wX_enter_8, wX_enter_11, wX_enter_13, wX_enter_14, wX_enter_17, wX_enter_19, wX_enter_22, wX_enter_23, wX_enter_24, wX_enter_25, wX_enter_28, wX_enter_29, wX_enter_32, wX_enter_34, wX_enter_37, wX_enter_40, wX_enter_42, wX_enter_43, wX_enter_44, wX_enter_46, wX_enter_47, wX_enter_50, wX_enter_53, wX_enter_54, wX_enter_55, wX_enter_57, wX_enter_58, wX_enter_61, wX_enter_64, wX_enter_66, wX_enter_67, wX_enter_68, wX_enter_70, wX_enter_73, wX_enter_75, wX_enter_77, wX_enter_80, wX_enter_82, wX_enter_85, wX_enter_86, wX_enter_87, wX_enter_89, wX_enter_90, wX_enter_93, cX_fd h, hv, hw, ha, hb, true_or, or_true, Option.toList_some, Option.toList_none, List.cons_append, List.nil_append, Option.bind_some, reduceCtorEq, if_false, o1, nk4 (show ts_kd s p < 1000 by omega), cT_canBeEntered q hkt, cT_hl h ha hb, cT_in h hs.1 hb ha, cR_forTouchInside h hs ha hb, am_b0]
      by_cases c1 : ts_kd s p = 4
      · cases c2 : tq_en s t with
        | false =>
          simp only [c1, c2, reduceCtorEq, and_false, if_true, if_false] at hK ⊢
          exact hK M h (fx_f_rf M)
        | true =>
          cases c4 : tq_hl s p t 0 with
          | true =>
            simp only [c1, c2, c4, reduceCtorEq, and_self, if_true, if_false] at hK ⊢
            exact hK M h (fx_f_rf M)
          | false =>
            cases c5 : tq_in s t p with
            | true =>
              simp only [c1, c2, c4, c5, reduceCtorEq, and_self, if_true, if_false] at hK ⊢
              exact hK M h (fx_f_rf M)
            | false =>
              by_cases c6 : tq_ri s p t < 0
              · simp only [c1, c2, c4, c5, c6, reduceCtorEq, and_self, if_true, if_false] at hK ⊢
                exact hK M h (fx_f_rf M)
              · simp only [c1, c2, c4, c5, c6, reduceCtorEq, and_self, if_true, if_false] at hK ⊢
                refine cX_comeUnlessFull h hs ht ha hb (tq_in_f c5) _ (fun M1 h1 f1 => ?_)
                simp only [wX_enter_0, wX_enter_1, wX_enter_2, wX_enter_5, wX_enter_6, wX_enter_7, wX_enter_8, wX_enter_11, wX_enter_13, wX_enter_14, wX_enter_17, wX_enter_19, wX_enter_22, wX_enter_23, wX_enter_24, wX_enter_25, wX_enter_28, wX_enter_29, wX_enter_32, wX_enter_34, wX_enter_37, wX_enter_40, wX_enter_42, wX_enter_43, wX_enter_44, wX_enter_46, wX_enter_47, wX_enter_50, wX_enter_53, wX_enter_54, wX_enter_55, wX_enter_57, wX_enter_58, wX_enter_61, wX_enter_64, wX_enter_66, wX_enter_67, wX_enter_68, wX_enter_70, wX_enter_73, wX_enter_75, wX_enter_77, wX_enter_80, wX_enter_82, wX_enter_85, wX_enter_86, wX_enter_87, wX_enter_89, wX_enter_90, wX_enter_93, true_or, or_true, Option.toList_some, Option.toList_none, List.cons_append, List.nil_append]
                exact hK M1 h1 f1
      · simp only [c1, false_and, if_false] at hK ⊢
        exact hK M h (fx_f_rf M)
def sp_put (s : ts_S) (v w y : Int32) : Int32 × ts_S := match ts_id s v, ts_id s w, ts_id s y with
  | some p, some t, some g => if ts_kd s p = 4 ∧ tq_hl s t p 2 = true ∧ (tq_hb s g 0 = true ∨ tq_hb s g 1 = true) then (if tq_in s g t = true then (-4, s) else if tq_ri s p g < 0 then (tq_ri s p g, s) else sp_cuf s t g (am_b (tq_hb s g 1))) else (-3, s)
  | _, _, _ => (-1, s)
theorem cX_put (h : cp X ad s M) (hs : ts_ok s) (ht : ts_t s < 2 ^ 30) (v w y : Int32) (hK : ∀ M', cp X ad (sp_put s v w y).2 M' → fx_f (cxR X) M M' → K (some (.inl (sp_put s v w y).1)) M') : am_wp yX_put 0 [.inr (.inl (1, some X)), .inl v, .inl w, .inl y, am_u, am_u, am_u, am_u] [] M K := by
  unfold sp_put at hK
  cases hv : ts_id s v with
  | none =>
    rw [hv] at hK
    simp [wX_put_0, wX_put_1, wX_put_2, wX_put_5, wX_put_7, wX_put_8, wX_put_9, wX_put_12, wX_put_14, wX_put_15, wX_put_16, wX_put_19, wX_put_21, wX_put_23, wX_put_26, wX_put_28, wX_put_31, wX_put_33, wX_put_36, wX_put_37, wX_put_38, wX_put_40, wX_put_43, wX_put_44, wX_put_47, wX_put_49, wX_put_51, wX_put_52, wX_put_55, wX_put_58, wX_put_60, wX_put_61, wX_put_64, wX_put_67, wX_put_69, wX_put_70, wX_put_73, wX_put_76, wX_put_78, wX_put_79, wX_put_81, wX_put_83, wX_put_86, wX_put_89, wX_put_91, wX_put_92, wX_put_94, wX_put_96, wX_put_99, wX_put_101, wX_put_103, wX_put_106, wX_put_108, wX_put_111, wX_put_112, wX_put_114, wX_put_116, wX_put_118, wX_put_119, wX_put_122, wX_put_125, wX_put_126, wX_put_129, wX_put_130, wX_put_133, cX_fd h, hv]
    exact hK M h (fx_f_rf M)
  | some p =>
    obtain ⟨a, ha, o⟩ := cp_id_ex h hv
    have hkp := (hs.2.2.2.1 p (ts_id_some hv).2.1).1
    cases hw : ts_id s w with
    | none =>
      rw [hv, hw] at hK
      simp [wX_put_0, wX_put_1, wX_put_2, wX_put_5, wX_put_7, wX_put_8, wX_put_9, wX_put_12, wX_put_14, wX_put_15, wX_put_16, wX_put_19, wX_put_21, wX_put_23, wX_put_26, wX_put_28, wX_put_31, wX_put_33, wX_put_36, wX_put_37, wX_put_38, wX_put_40, wX_put_43, wX_put_44, wX_put_47, wX_put_49, wX_put_51, wX_put_52, wX_put_55, wX_put_58, wX_put_60, wX_put_61, wX_put_64, wX_put_67, wX_put_69, wX_put_70, wX_put_73, wX_put_76, wX_put_78, wX_put_79, wX_put_81, wX_put_83, wX_put_86, wX_put_89, wX_put_91, wX_put_92, wX_put_94, wX_put_96, wX_put_99, wX_put_101, wX_put_103, wX_put_106, wX_put_108, wX_put_111, wX_put_112, wX_put_114, wX_put_116, wX_put_118, wX_put_119, wX_put_122, wX_put_125, wX_put_126, wX_put_129, wX_put_130, wX_put_133, cX_fd h, hv, hw, ha]
      exact hK M h (fx_f_rf M)
    | some t =>
      obtain ⟨b, hb, q⟩ := cp_id_ex h hw
      cases hy : ts_id s y with
      | none =>
        rw [hv, hw, hy] at hK
        simp [wX_put_0, wX_put_1, wX_put_2, wX_put_5, wX_put_7, wX_put_8, wX_put_9, wX_put_12, wX_put_14, wX_put_15, wX_put_16, wX_put_19, wX_put_21, wX_put_23, wX_put_26, wX_put_28, wX_put_31, wX_put_33, wX_put_36, wX_put_37, wX_put_38, wX_put_40, wX_put_43, wX_put_44, wX_put_47, wX_put_49, wX_put_51, wX_put_52, wX_put_55, wX_put_58, wX_put_60, wX_put_61, wX_put_64, wX_put_67, wX_put_69, wX_put_70, wX_put_73, wX_put_76, wX_put_78, wX_put_79, wX_put_81, wX_put_83, wX_put_86, wX_put_89, wX_put_91, wX_put_92, wX_put_94, wX_put_96, wX_put_99, wX_put_101, wX_put_103, wX_put_106, wX_put_108, wX_put_111, wX_put_112, wX_put_114, wX_put_116, wX_put_118, wX_put_119, wX_put_122, wX_put_125, wX_put_126, wX_put_129, wX_put_130, wX_put_133, cX_fd h, hv, hw, hy, ha, hb]
        exact hK M h (fx_f_rf M)
      | some g =>
        obtain ⟨c, hc, r⟩ := cp_id_ex h hy
        have hkg := (hs.2.2.2.1 g (ts_id_some hy).2.1).1
        rw [hv, hw, hy] at hK
        simp only at hK
        have o1 := o.2.1
        have e0 := fun K' => cT_holdsBy (K := K') r hkg 0 (by decide)
        have e1 := fun K' => cT_holdsBy (K := K') r hkg 1 (by decide)
        rw [show nI 0 = (0 : Int32) from rfl] at e0
        rw [show nI 1 = (1 : Int32) from rfl] at e1
        simp only [wX_put_0, wX_put_1, wX_put_2, wX_put_5, wX_put_7, wX_put_8, wX_put_9, wX_put_12, wX_put_14, wX_put_15, wX_put_16, wX_put_19, wX_put_21, wX_put_23, wX_put_26, wX_put_28, wX_put_31, wX_put_33, wX_put_36, wX_put_37, wX_put_38, wX_put_40, wX_put_43, wX_put_44, wX_put_47, wX_put_49, wX_put_51, wX_put_52, wX_put_55, wX_put_58, wX_put_60, wX_put_61, wX_put_64, wX_put_67, wX_put_69, wX_put_70, wX_put_73, wX_put_76, wX_put_78, wX_put_79, wX_put_81, wX_put_83, wX_put_86, wX_put_89, wX_put_91, wX_put_92, wX_put_94, wX_put_96, wX_put_99, wX_put_101, wX_put_103, wX_put_106, wX_put_108, wX_put_111, wX_put_112, wX_put_114, wX_put_116, wX_put_118, wX_put_119, wX_put_122, wX_put_125, wX_put_126, wX_put_129, wX_put_130, wX_put_133, cX_fd h, hv, hw, hy, ha, hb, hc, true_or, or_true, Option.toList_some, Option.toList_none, List.cons_append, List.nil_append, Option.bind_some, reduceCtorEq, if_false, o1, nk4 (show ts_kd s p < 1000 by omega), e0, e1, cT_hl h hb ha, cT_in h hs.1 hc hb, cR_forTouchInside h hs ha hc, am_b0]
        by_cases c1 : ts_kd s p = 4
        · cases c2 : tq_hl s t p 2 with
          | false =>
            simp only [c1, c2, reduceCtorEq, false_and, and_false, if_true, if_false] at hK ⊢
            exact hK M h (fx_f_rf M)
          | true =>
            by_cases c3 : tq_hb s g 0 = true ∨ tq_hb s g 1 = true
            · have c3' : tq_hb s g 0 = false → tq_hb s g 1 = true := fun z => by rcases c3 with z2 | z2; rw [z] at z2; cases z2; exact z2
              simp only [c1, c2, c3, reduceCtorEq, and_self, if_true, if_false] at hK ⊢
              cases c5 : tq_in s g t with
              | true =>
                simp only [c5, reduceCtorEq, if_true, if_false] at hK ⊢
                have := hK M h (fx_f_rf M)
                cases d0 : tq_hb s g 0 <;> cases d1 : tq_hb s g 1 <;> simp_all
              | false =>
                by_cases c6 : tq_ri s p g < 0
                · simp only [c5, c6, reduceCtorEq, if_true, if_false] at hK ⊢
                  have := hK M h (fx_f_rf M)
                  cases d0 : tq_hb s g 0 <;> cases d1 : tq_hb s g 1 <;> simp_all
                · simp only [c5, c6, reduceCtorEq, if_true, if_false] at hK ⊢
                  cases d1 : tq_hb s g 1 with
                  | true =>
                    rw [d1, am_bt] at hK
                    cases d0 : tq_hb s g 0
                    · simp only [d0, d1, reduceCtorEq, if_true, if_false, wX_put_0, wX_put_1, wX_put_2, wX_put_5, wX_put_7, wX_put_8, wX_put_9, wX_put_12, wX_put_14, wX_put_15, wX_put_16, wX_put_19, wX_put_21, wX_put_23, wX_put_26, wX_put_28, wX_put_31, wX_put_33, wX_put_36, wX_put_37, wX_put_38, wX_put_40, wX_put_43, wX_put_44, wX_put_47, wX_put_49, wX_put_51, wX_put_52, wX_put_55, wX_put_58, wX_put_60, wX_put_61, wX_put_64, wX_put_67, wX_put_69, wX_put_70, wX_put_73, wX_put_76, wX_put_78, wX_put_79, wX_put_81, wX_put_83, wX_put_86, wX_put_89, wX_put_91, wX_put_92, wX_put_94, wX_put_96, wX_put_99, wX_put_101, wX_put_103, wX_put_106, wX_put_108, wX_put_111, wX_put_112, wX_put_114, wX_put_116, wX_put_118, wX_put_119, wX_put_122, wX_put_125, wX_put_126, wX_put_129, wX_put_130, wX_put_133, true_or, or_true, Option.toList_some, Option.toList_none, List.cons_append, List.nil_append]
                      refine cX_comeUnlessFull h hs ht hb hc (tq_in_f c5) _ (fun M1 h1 f1 => ?_)
                      simp only [wX_put_0, wX_put_1, wX_put_2, wX_put_5, wX_put_7, wX_put_8, wX_put_9, wX_put_12, wX_put_14, wX_put_15, wX_put_16, wX_put_19, wX_put_21, wX_put_23, wX_put_26, wX_put_28, wX_put_31, wX_put_33, wX_put_36, wX_put_37, wX_put_38, wX_put_40, wX_put_43, wX_put_44, wX_put_47, wX_put_49, wX_put_51, wX_put_52, wX_put_55, wX_put_58, wX_put_60, wX_put_61, wX_put_64, wX_put_67, wX_put_69, wX_put_70, wX_put_73, wX_put_76, wX_put_78, wX_put_79, wX_put_81, wX_put_83, wX_put_86, wX_put_89, wX_put_91, wX_put_92, wX_put_94, wX_put_96, wX_put_99, wX_put_101, wX_put_103, wX_put_106, wX_put_108, wX_put_111, wX_put_112, wX_put_114, wX_put_116, wX_put_118, wX_put_119, wX_put_122, wX_put_125, wX_put_126, wX_put_129, wX_put_130, wX_put_133, true_or, or_true, Option.toList_some, Option.toList_none, List.cons_append, List.nil_append]
                      exact hK M1 h1 f1
                    · simp only [d0, d1, reduceCtorEq, if_true, if_false, wX_put_0, wX_put_1, wX_put_2, wX_put_5, wX_put_7, wX_put_8, wX_put_9, wX_put_12, wX_put_14, wX_put_15, wX_put_16, wX_put_19, wX_put_21, wX_put_23, wX_put_26, wX_put_28, wX_put_31, wX_put_33, wX_put_36, wX_put_37, wX_put_38, wX_put_40, wX_put_43, wX_put_44, wX_put_47, wX_put_49, wX_put_51, wX_put_52, wX_put_55, wX_put_58, wX_put_60, wX_put_61, wX_put_64, wX_put_67, wX_put_69, wX_put_70, wX_put_73, wX_put_76, wX_put_78, wX_put_79, wX_put_81, wX_put_83, wX_put_86, wX_put_89, wX_put_91, wX_put_92, wX_put_94, wX_put_96, wX_put_99, wX_put_101, wX_put_103, wX_put_106, wX_put_108, wX_put_111, wX_put_112, wX_put_114, wX_put_116, wX_put_118, wX_put_119, wX_put_122, wX_put_125, wX_put_126, wX_put_129, wX_put_130, wX_put_133, true_or, or_true, Option.toList_some, Option.toList_none, List.cons_append, List.nil_append]
                      refine cX_comeUnlessFull h hs ht hb hc (tq_in_f c5) _ (fun M1 h1 f1 => ?_)
                      simp only [wX_put_0, wX_put_1, wX_put_2, wX_put_5, wX_put_7, wX_put_8, wX_put_9, wX_put_12, wX_put_14, wX_put_15, wX_put_16, wX_put_19, wX_put_21, wX_put_23, wX_put_26, wX_put_28, wX_put_31, wX_put_33, wX_put_36, wX_put_37, wX_put_38, wX_put_40, wX_put_43, wX_put_44, wX_put_47, wX_put_49, wX_put_51, wX_put_52, wX_put_55, wX_put_58, wX_put_60, wX_put_61, wX_put_64, wX_put_67, wX_put_69, wX_put_70, wX_put_73, wX_put_76, wX_put_78, wX_put_79, wX_put_81, wX_put_83, wX_put_86, wX_put_89, wX_put_91, wX_put_92, wX_put_94, wX_put_96, wX_put_99, wX_put_101, wX_put_103, wX_put_106, wX_put_108, wX_put_111, wX_put_112, wX_put_114, wX_put_116, wX_put_118, wX_put_119, wX_put_122, wX_put_125, wX_put_126, wX_put_129, wX_put_130, wX_put_133, true_or, or_true, Option.toList_some, Option.toList_none, List.cons_append, List.nil_append]
                      exact hK M1 h1 f1
                  | false =>
                    rw [d1, am_bf] at hK
                    cases d0 : tq_hb s g 0
                    · exact absurd (c3' d0) (by rw [d1]; simp)
                    · simp only [d0, d1, reduceCtorEq, if_true, if_false, wX_put_0, wX_put_1, wX_put_2, wX_put_5, wX_put_7, wX_put_8, wX_put_9, wX_put_12, wX_put_14, wX_put_15, wX_put_16, wX_put_19, wX_put_21, wX_put_23, wX_put_26, wX_put_28, wX_put_31, wX_put_33, wX_put_36, wX_put_37, wX_put_38, wX_put_40, wX_put_43, wX_put_44, wX_put_47, wX_put_49, wX_put_51, wX_put_52, wX_put_55, wX_put_58, wX_put_60, wX_put_61, wX_put_64, wX_put_67, wX_put_69, wX_put_70, wX_put_73, wX_put_76, wX_put_78, wX_put_79, wX_put_81, wX_put_83, wX_put_86, wX_put_89, wX_put_91, wX_put_92, wX_put_94, wX_put_96, wX_put_99, wX_put_101, wX_put_103, wX_put_106, wX_put_108, wX_put_111, wX_put_112, wX_put_114, wX_put_116, wX_put_118, wX_put_119, wX_put_122, wX_put_125, wX_put_126, wX_put_129, wX_put_130, wX_put_133, true_or, or_true, Option.toList_some, Option.toList_none, List.cons_append, List.nil_append]
                      refine cX_comeUnlessFull h hs ht hb hc (tq_in_f c5) _ (fun M1 h1 f1 => ?_)
                      simp only [wX_put_0, wX_put_1, wX_put_2, wX_put_5, wX_put_7, wX_put_8, wX_put_9, wX_put_12, wX_put_14, wX_put_15, wX_put_16, wX_put_19, wX_put_21, wX_put_23, wX_put_26, wX_put_28, wX_put_31, wX_put_33, wX_put_36, wX_put_37, wX_put_38, wX_put_40, wX_put_43, wX_put_44, wX_put_47, wX_put_49, wX_put_51, wX_put_52, wX_put_55, wX_put_58, wX_put_60, wX_put_61, wX_put_64, wX_put_67, wX_put_69, wX_put_70, wX_put_73, wX_put_76, wX_put_78, wX_put_79, wX_put_81, wX_put_83, wX_put_86, wX_put_89, wX_put_91, wX_put_92, wX_put_94, wX_put_96, wX_put_99, wX_put_101, wX_put_103, wX_put_106, wX_put_108, wX_put_111, wX_put_112, wX_put_114, wX_put_116, wX_put_118, wX_put_119, wX_put_122, wX_put_125, wX_put_126, wX_put_129, wX_put_130, wX_put_133, true_or, or_true, Option.toList_some, Option.toList_none, List.cons_append, List.nil_append]
                      exact hK M1 h1 f1
            · have d0 : tq_hb s g 0 = false := by cases z : tq_hb s g 0; rfl; exact absurd (Or.inl z) c3
              have d1 : tq_hb s g 1 = false := by cases z : tq_hb s g 1; rfl; exact absurd (Or.inr z) c3
              simp only [c1, c2, d0, d1, reduceCtorEq, or_self, and_false, if_true, if_false] at hK ⊢
              exact hK M h (fx_f_rf M)
        · simp only [c1, false_and, if_false] at hK ⊢
          exact hK M h (fx_f_rf M)
end CV
