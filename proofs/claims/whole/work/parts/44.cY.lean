-- DROP, LEAVE, GO
section CY
variable {X : Nat} {ad : Nat → Option Nat} {s : ts_S} {M : am_M} {K : Option am_V → am_M → Prop} {n a : Nat}
def sp_drop (s : ts_S) (v w : Int32) : Int32 × ts_S := match ts_id s v, ts_id s w with
  | some p, some t => match ts_pa s p with
    | some g => if ts_kd s p = 4 ∧ (tq_hl s t p 3 = true ∨ tq_hl s t p 2 = true) then (if (tq_hl s t p 3 = true ∧ tq_fu s p = true) ∨ tq_fu s g = true then (-5, s) else if tq_hl s t p 3 = true then (1, ts_come (ts_come s t p 2) t g (ts_way s p)) else (1, ts_come s t g (ts_way s p))) else (-3, s)
    | none => (-3, s)
  | _, _ => (-1, s)
-- what a coming leaves of another thing
theorem come_pa (hs : ts_ok s) (hn : ts_lv s n) {p : Nat} (hp : ts_lv s p) (hw : p ∉ fo_w (ts_L s) n) (w : Int32) (m : Nat) : ts_pa (ts_come s n p w) m = if m = n then some p else ts_pa s m := (fo_mv_ok hs.1 hn hp hw).2.2.1 m
theorem come_wy (w : Int32) (p m : Nat) : ts_wy (ts_come s n p w) m = if m = n then w else ts_wy s m := rfl
theorem come_way (hs : ts_ok s) (hn : ts_lv s n) {p : Nat} (hp : ts_lv s p) (hw : p ∉ fo_w (ts_L s) n) (w : Int32) (m : Nat) : ts_way (ts_come s n p w) m = if m = n then w else ts_way s m := by
  unfold ts_way
  rw [come_pa hs hn hp hw, come_wy]
  by_cases e : m = n
  · simp [e]
  · simp [e]
theorem cX_drop (h : cp X ad s M) (hs : ts_ok s) (ht : ts_t s + 1 < 2 ^ 30) (v w : Int32) (hK : ∀ M', cp X ad (sp_drop s v w).2 M' → fx_f (cxR X) M M' → K (some (.inl (sp_drop s v w).1)) M') : am_wp yX_drop 0 [.inr (.inl (1, some X)), .inl v, .inl w, am_u, am_u, am_u] [] M K := by
  unfold sp_drop at hK
  cases hv : ts_id s v with
  | none =>
    rw [hv] at hK
    simp [wX_drop_0, wX_drop_1, wX_drop_2, wX_drop_5, wX_drop_6, wX_drop_7, wX_drop_8, wX_drop_11, wX_drop_13, wX_drop_14, wX_drop_17, wX_drop_19, wX_drop_22, wX_drop_23, wX_drop_24, wX_drop_26, wX_drop_27, wX_drop_28, wX_drop_31, wX_drop_33, wX_drop_34, wX_drop_37, wX_drop_38, wX_drop_41, wX_drop_43, wX_drop_46, wX_drop_48, wX_drop_49, wX_drop_50, wX_drop_53, wX_drop_56, wX_drop_57, wX_drop_60, wX_drop_63, wX_drop_65, wX_drop_66, wX_drop_68, wX_drop_71, wX_drop_72, wX_drop_75, wX_drop_78, wX_drop_79, wX_drop_82, wX_drop_85, wX_drop_88, wX_drop_90, wX_drop_91, wX_drop_93, wX_drop_96, wX_drop_97, wX_drop_99, wX_drop_100, wX_drop_101, wX_drop_104, wX_drop_105, wX_drop_107, wX_drop_108, wX_drop_111, wX_drop_112, wX_drop_115, wX_drop_118, wX_drop_119, cX_fd h, hv]
    exact hK M h (fx_f_rf M)
  | some p =>
    obtain ⟨a, ha, o⟩ := cp_id_ex h hv
    have hlp := (ts_id_some hv).2.1
    have hkp := (hs.2.2.2.1 p hlp).1
    cases hw : ts_id s w with
    | none =>
      rw [hv, hw] at hK
      simp [wX_drop_0, wX_drop_1, wX_drop_2, wX_drop_5, wX_drop_6, wX_drop_7, wX_drop_8, wX_drop_11, wX_drop_13, wX_drop_14, wX_drop_17, wX_drop_19, wX_drop_22, wX_drop_23, wX_drop_24, wX_drop_26, wX_drop_27, wX_drop_28, wX_drop_31, wX_drop_33, wX_drop_34, wX_drop_37, wX_drop_38, wX_drop_41, wX_drop_43, wX_drop_46, wX_drop_48, wX_drop_49, wX_drop_50, wX_drop_53, wX_drop_56, wX_drop_57, wX_drop_60, wX_drop_63, wX_drop_65, wX_drop_66, wX_drop_68, wX_drop_71, wX_drop_72, wX_drop_75, wX_drop_78, wX_drop_79, wX_drop_82, wX_drop_85, wX_drop_88, wX_drop_90, wX_drop_91, wX_drop_93, wX_drop_96, wX_drop_97, wX_drop_99, wX_drop_100, wX_drop_101, wX_drop_104, wX_drop_105, wX_drop_107, wX_drop_108, wX_drop_111, wX_drop_112, wX_drop_115, wX_drop_118, wX_drop_119, cX_fd h, hv, hw, ha]
      exact hK M h (fx_f_rf M)
    | some t =>
      obtain ⟨b, hb, q⟩ := cp_id_ex h hw
      have hlt := (ts_id_some hw).2.1
      have hkt := (hs.2.2.2.1 t hlt).1
      rw [hv, hw] at hK
      simp only at hK
      have o1 := o.2.1
      have o3 := o.2.2.2.1
      simp only [wX_drop_0, wX_drop_1, wX_drop_2, wX_drop_5, wX_drop_6, wX_drop_7, wX_drop_8, wX_drop_11, wX_drop_13, wX_drop_14, wX_drop_17, wX_drop_19, wX_drop_22, wX_drop_23, wX_drop_24, wX_drop_26, wX_drop_27, wX_drop_28, wX_drop_31, wX_drop_33, wX_drop_34, wX_drop_37, wX_drop_38, wX_drop_41, wX_drop_43, wX_drop_46, wX_drop_48, wX_drop_49, wX_drop_50, wX_drop_53, wX_drop_56, wX_drop_57, wX_drop_60, wX_drop_63, wX_drop_65, wX_drop_66, wX_drop_68, wX_drop_71, wX_drop_72, wX_drop_75, wX_drop_78, wX_drop_79, wX_drop_82, wX_drop_85, wX_drop_88, wX_drop_90, wX_drop_91, wX_drop_93, wX_drop_96, wX_drop_97, wX_drop_99, wX_drop_100, wX_drop_101, wX_drop_104, wX_drop_105, wX_drop_107, wX_drop_108, wX_drop_111, wX_drop_112, wX_drop_115, wX_drop_118, wX_drop_119, cX_fd h, hv, hw, ha, hb, true_or, or_true, Option.toList_some, Option.toList_none, List.cons_append, List.nil_append, Option.bind_some, reduceCtorEq, if_false, o1, o3, nk4 (show ts_kd s p < 1000 by omega), cT_hl h hb ha, am_b0, cT_isFull h hs ha]
      cases hg : ts_pa s p with
      | none =>
        simp only [hg, Option.bind_none, if_true] at hK ⊢
        have := hK M h (fx_f_rf M)
        by_cases c1 : ts_kd s p = 4 <;> cases c2 : tq_hl s t p 3 <;> cases c3 : tq_hl s t p 2 <;> simpa [c1, c2, c3] using this
      | some g =>
        have hlg : ts_lv s g := ts_pa_lv hg
        obtain ⟨c, hc⟩ := cp_ex h hlg
        simp only [hg, Option.bind_some, hc, reduceCtorEq, if_false, cT_isFull h hs hc, wX_drop_0, wX_drop_1, wX_drop_2, wX_drop_5, wX_drop_6, wX_drop_7, wX_drop_8, wX_drop_11, wX_drop_13, wX_drop_14, wX_drop_17, wX_drop_19, wX_drop_22, wX_drop_23, wX_drop_24, wX_drop_26, wX_drop_27, wX_drop_28, wX_drop_31, wX_drop_33, wX_drop_34, wX_drop_37, wX_drop_38, wX_drop_41, wX_drop_43, wX_drop_46, wX_drop_48, wX_drop_49, wX_drop_50, wX_drop_53, wX_drop_56, wX_drop_57, wX_drop_60, wX_drop_63, wX_drop_65, wX_drop_66, wX_drop_68, wX_drop_71, wX_drop_72, wX_drop_75, wX_drop_78, wX_drop_79, wX_drop_82, wX_drop_85, wX_drop_88, wX_drop_90, wX_drop_91, wX_drop_93, wX_drop_96, wX_drop_97, wX_drop_99, wX_drop_100, wX_drop_101, wX_drop_104, wX_drop_105, wX_drop_107, wX_drop_108, wX_drop_111, wX_drop_112, wX_drop_115, wX_drop_118, wX_drop_119, am_b0, true_or, or_true, Option.toList_some, Option.toList_none, List.cons_append, List.nil_append] at hK ⊢
        by_cases c1 : ts_kd s p = 4
        · cases c2 : tq_hl s t p 3 with
          | true =>
            have htp := (tq_hl_p c2).1
            have hpt : p ≠ t := fun z => by have := fo_p_deep hs.1 htp; rw [z] at this; omega
            cases c3 : tq_fu s p with
            | true =>
              simp only [c1, c2, c3, reduceCtorEq, true_or, and_self, if_true, if_false] at hK ⊢
              exact hK M h (fx_f_rf M)
            | false =>
              cases c4 : tq_fu s g with
              | true =>
                simp only [c1, c2, c3, c4, reduceCtorEq, true_or, or_true, and_self, and_false, if_true, if_false] at hK ⊢
                exact hK M h (fx_f_rf M)
              | false =>
                simp only [c1, c2, c3, c4, reduceCtorEq, true_or, or_self, and_self, and_false, if_true, if_false] at hK ⊢
                refine cX_come h hs (by omega) hb ha (fo_nup hs.1 htp) _ (fun M1 h1 f1 => ?_)
                obtain ⟨-, -, -, u3, u4, -⟩ := cp_at h1 ha
                rw [come_pa hs hlt hlp (fo_nup hs.1 htp), if_neg hpt, hg, Option.bind_some, hc] at u3
                rw [come_way hs hlt hlp (fo_nup hs.1 htp), if_neg hpt] at u4
                have hs1 : ts_ok (ts_come s t p 2) := ts_ok_come hs hlt hlp (fo_nup hs.1 htp) ⟨(hs.2.2.2.2 t p htp).1, (hs.2.2.2.2 t p htp).2.1, Or.inr (Or.inr (Or.inl ⟨Or.inl rfl, c1⟩))⟩
                have z1 : ts_pa (ts_come s t p 2) t = some p := by rw [come_pa hs hlt hlp (fo_nup hs.1 htp), if_pos rfl]
                have z2 : ts_pa (ts_come s t p 2) p = some g := by rw [come_pa hs hlt hlp (fo_nup hs.1 htp), if_neg hpt, hg]
                simp only [wX_drop_0, wX_drop_1, wX_drop_2, wX_drop_5, wX_drop_6, wX_drop_7, wX_drop_8, wX_drop_11, wX_drop_13, wX_drop_14, wX_drop_17, wX_drop_19, wX_drop_22, wX_drop_23, wX_drop_24, wX_drop_26, wX_drop_27, wX_drop_28, wX_drop_31, wX_drop_33, wX_drop_34, wX_drop_37, wX_drop_38, wX_drop_41, wX_drop_43, wX_drop_46, wX_drop_48, wX_drop_49, wX_drop_50, wX_drop_53, wX_drop_56, wX_drop_57, wX_drop_60, wX_drop_63, wX_drop_65, wX_drop_66, wX_drop_68, wX_drop_71, wX_drop_72, wX_drop_75, wX_drop_78, wX_drop_79, wX_drop_82, wX_drop_85, wX_drop_88, wX_drop_90, wX_drop_91, wX_drop_93, wX_drop_96, wX_drop_97, wX_drop_99, wX_drop_100, wX_drop_101, wX_drop_104, wX_drop_105, wX_drop_107, wX_drop_108, wX_drop_111, wX_drop_112, wX_drop_115, wX_drop_118, wX_drop_119, true_or, or_true, Option.toList_some, Option.toList_none, List.cons_append, List.nil_append, u3, u4]
                refine cX_come h1 hs1 (show ts_t s + 1 < 2 ^ 30 from ht) hb hc (fo_nup2 hs1.1 z1 z2) _ (fun M2 h2 f2 => ?_)
                simp only [wX_drop_0, wX_drop_1, wX_drop_2, wX_drop_5, wX_drop_6, wX_drop_7, wX_drop_8, wX_drop_11, wX_drop_13, wX_drop_14, wX_drop_17, wX_drop_19, wX_drop_22, wX_drop_23, wX_drop_24, wX_drop_26, wX_drop_27, wX_drop_28, wX_drop_31, wX_drop_33, wX_drop_34, wX_drop_37, wX_drop_38, wX_drop_41, wX_drop_43, wX_drop_46, wX_drop_48, wX_drop_49, wX_drop_50, wX_drop_53, wX_drop_56, wX_drop_57, wX_drop_60, wX_drop_63, wX_drop_65, wX_drop_66, wX_drop_68, wX_drop_71, wX_drop_72, wX_drop_75, wX_drop_78, wX_drop_79, wX_drop_82, wX_drop_85, wX_drop_88, wX_drop_90, wX_drop_91, wX_drop_93, wX_drop_96, wX_drop_97, wX_drop_99, wX_drop_100, wX_drop_101, wX_drop_104, wX_drop_105, wX_drop_107, wX_drop_108, wX_drop_111, wX_drop_112, wX_drop_115, wX_drop_118, wX_drop_119, true_or, or_true, Option.toList_some, Option.toList_none, List.cons_append, List.nil_append]
                exact hK M2 h2 (fx_f_tr f1 f2)
          | false =>
            cases c5 : tq_hl s t p 2 with
            | false =>
              simp only [c1, c2, c5, reduceCtorEq, or_self, and_false, if_true, if_false] at hK ⊢
              exact hK M h (fx_f_rf M)
            | true =>
              have htp := (tq_hl_p c5).1
              have u4 := o.2.2.2.2.1
              cases c4 : tq_fu s g with
              | true =>
                simp only [c1, c2, c4, c5, reduceCtorEq, or_true, and_self, if_true, if_false] at hK ⊢
                exact hK M h (fx_f_rf M)
              | false =>
                simp only [c1, c2, c4, c5, reduceCtorEq, or_true, or_self, and_self, false_and, if_true, if_false, u4, o3, hg, Option.bind_some, hc] at hK ⊢
                refine cX_come h hs (by omega) hb hc (fo_nup2 hs.1 htp hg) _ (fun M2 h2 f2 => ?_)
                simp only [wX_drop_0, wX_drop_1, wX_drop_2, wX_drop_5, wX_drop_6, wX_drop_7, wX_drop_8, wX_drop_11, wX_drop_13, wX_drop_14, wX_drop_17, wX_drop_19, wX_drop_22, wX_drop_23, wX_drop_24, wX_drop_26, wX_drop_27, wX_drop_28, wX_drop_31, wX_drop_33, wX_drop_34, wX_drop_37, wX_drop_38, wX_drop_41, wX_drop_43, wX_drop_46, wX_drop_48, wX_drop_49, wX_drop_50, wX_drop_53, wX_drop_56, wX_drop_57, wX_drop_60, wX_drop_63, wX_drop_65, wX_drop_66, wX_drop_68, wX_drop_71, wX_drop_72, wX_drop_75, wX_drop_78, wX_drop_79, wX_drop_82, wX_drop_85, wX_drop_88, wX_drop_90, wX_drop_91, wX_drop_93, wX_drop_96, wX_drop_97, wX_drop_99, wX_drop_100, wX_drop_101, wX_drop_104, wX_drop_105, wX_drop_107, wX_drop_108, wX_drop_111, wX_drop_112, wX_drop_115, wX_drop_118, wX_drop_119, true_or, or_true, Option.toList_some, Option.toList_none, List.cons_append, List.nil_append]
                exact hK M2 h2 f2
        · simp only [c1, false_and, if_false] at hK ⊢
          exact hK M h (fx_f_rf M)
def sp_leave (s : ts_S) (v : Int32) : Int32 × ts_S := match ts_id s v with
  | some p => if ts_kd s p = 4 then match ts_pa s p with
    | some l => if tq_en s l = true then match ts_pa s l with
      | some g => if ts_way s l = 0 ∨ ts_way s l = 1 then (if ts_cl s l = true then (-10 - nI l, s) else sp_cuf s p g (ts_way s l)) else (-3, s)
      | none => (-3, s)
      else (-3, s)
    | none => (-3, s)
    else (-3, s)
  | none => (-1, s)
theorem cX_leave (h : cp X ad s M) (hs : ts_ok s) (ht : ts_t s < 2 ^ 30) (v : Int32) (hK : ∀ M', cp X ad (sp_leave s v).2 M' → fx_f (cxR X) M M' → K (some (.inl (sp_leave s v).1)) M') : am_wp yX_leave 0 [.inr (.inl (1, some X)), .inl v, am_u, am_u, am_u] [] M K := by
  unfold sp_leave at hK
  cases hv : ts_id s v with
  | none =>
    rw [hv] at hK
    simp [wX_leave_0, wX_leave_1, wX_leave_2, wX_leave_5, wX_leave_6, wX_leave_7, wX_leave_10, wX_leave_11, wX_leave_12, wX_leave_13, wX_leave_16, wX_leave_17, wX_leave_18, wX_leave_21, wX_leave_22, wX_leave_25, wX_leave_26, wX_leave_29, wX_leave_30, wX_leave_33, wX_leave_36, wX_leave_38, wX_leave_39, wX_leave_40, wX_leave_43, wX_leave_45, wX_leave_47, wX_leave_50, wX_leave_51, wX_leave_54, wX_leave_57, wX_leave_58, wX_leave_61, wX_leave_62, wX_leave_65, wX_leave_67, wX_leave_68, wX_leave_69, wX_leave_72, wX_leave_75, wX_leave_77, wX_leave_78, wX_leave_81, wX_leave_82, wX_leave_85, wX_leave_86, wX_leave_87, wX_leave_89, wX_leave_90, wX_leave_93, wX_leave_96, cX_fd h, hv]
    exact hK M h (fx_f_rf M)
  | some p =>
    obtain ⟨a, ha, o⟩ := cp_id_ex h hv
    have hlp := (ts_id_some hv).2.1
    have hkp := (hs.2.2.2.1 p hlp).1
    rw [hv] at hK
    simp only at hK
    have o1 := o.2.1
    have o3 := o.2.2.2.1
    simp only [wX_leave_0, wX_leave_1, wX_leave_2, wX_leave_5, wX_leave_6, wX_leave_7, wX_leave_10, wX_leave_11, wX_leave_12, wX_leave_13, wX_leave_16, wX_leave_17, wX_leave_18, wX_leave_21, wX_leave_22, wX_leave_25, wX_leave_26, wX_leave_29, wX_leave_30, wX_leave_33, wX_leave_36, wX_leave_38, wX_leave_39, wX_leave_40, wX_leave_43, wX_leave_45, wX_leave_47, wX_leave_50, wX_leave_51, wX_leave_54, wX_leave_57, wX_leave_58, wX_leave_61, wX_leave_62, wX_leave_65, wX_leave_67, wX_leave_68, wX_leave_69, wX_leave_72, wX_leave_75, wX_leave_77, wX_leave_78, wX_leave_81, wX_leave_82, wX_leave_85, wX_leave_86, wX_leave_87, wX_leave_89, wX_leave_90, wX_leave_93, wX_leave_96, cX_fd h, hv, ha, true_or, or_true, Option.toList_some, Option.toList_none, List.cons_append, List.nil_append, Option.bind_some, reduceCtorEq, if_false, o1, o3, nk4 (show ts_kd s p < 1000 by omega)]
    by_cases c1 : ts_kd s p = 4
    · simp only [c1, if_true] at hK ⊢
      cases hl : ts_pa s p with
      | none =>
        simp only [hl, Option.bind_none, if_true] at hK ⊢
        exact hK M h (fx_f_rf M)
      | some l =>
        have hll : ts_lv s l := ts_pa_lv hl
        obtain ⟨b, hb⟩ := cp_ex h hll
        have hkl := (hs.2.2.2.1 l hll).1
        have q := cp_at h hb
        have q0 := q.1
        have q3 := q.2.2.2.1
        have q4 := q.2.2.2.2.1
        have q9 := q.2.2.2.2.2.2.2.2.2.1
        simp only [hl, Option.bind_some, hb, reduceCtorEq, if_false, wX_leave_0, wX_leave_1, wX_leave_2, wX_leave_5, wX_leave_6, wX_leave_7, wX_leave_10, wX_leave_11, wX_leave_12, wX_leave_13, wX_leave_16, wX_leave_17, wX_leave_18, wX_leave_21, wX_leave_22, wX_leave_25, wX_leave_26, wX_leave_29, wX_leave_30, wX_leave_33, wX_leave_36, wX_leave_38, wX_leave_39, wX_leave_40, wX_leave_43, wX_leave_45, wX_leave_47, wX_leave_50, wX_leave_51, wX_leave_54, wX_leave_57, wX_leave_58, wX_leave_61, wX_leave_62, wX_leave_65, wX_leave_67, wX_leave_68, wX_leave_69, wX_leave_72, wX_leave_75, wX_leave_77, wX_leave_78, wX_leave_81, wX_leave_82, wX_leave_85, wX_leave_86, wX_leave_87, wX_leave_89, wX_leave_90, wX_leave_93, wX_leave_96, cT_canBeEntered q hkl, am_b0, true_or, or_true, Option.toList_some, Option.toList_none, List.cons_append, List.nil_append, q0, q3, q4, q9] at hK ⊢
        cases c2 : tq_en s l with
        | false =>
          simp only [c2, reduceCtorEq, if_true, if_false] at hK ⊢
          exact hK M h (fx_f_rf M)
        | true =>
          simp only [c2, reduceCtorEq, if_true, if_false] at hK ⊢
          cases hg : ts_pa s l with
          | none =>
            simp only [hg, Option.bind_none, if_true] at hK ⊢
            exact hK M h (fx_f_rf M)
          | some g =>
            obtain ⟨c, hc⟩ := cp_ex h (ts_pa_lv hg)
            simp only [hg, Option.bind_some, hc, reduceCtorEq, if_false, wX_leave_0, wX_leave_1, wX_leave_2, wX_leave_5, wX_leave_6, wX_leave_7, wX_leave_10, wX_leave_11, wX_leave_12, wX_leave_13, wX_leave_16, wX_leave_17, wX_leave_18, wX_leave_21, wX_leave_22, wX_leave_25, wX_leave_26, wX_leave_29, wX_leave_30, wX_leave_33, wX_leave_36, wX_leave_38, wX_leave_39, wX_leave_40, wX_leave_43, wX_leave_45, wX_leave_47, wX_leave_50, wX_leave_51, wX_leave_54, wX_leave_57, wX_leave_58, wX_leave_61, wX_leave_62, wX_leave_65, wX_leave_67, wX_leave_68, wX_leave_69, wX_leave_72, wX_leave_75, wX_leave_77, wX_leave_78, wX_leave_81, wX_leave_82, wX_leave_85, wX_leave_86, wX_leave_87, wX_leave_89, wX_leave_90, wX_leave_93, wX_leave_96, true_or, or_true, Option.toList_some, Option.toList_none, List.cons_append, List.nil_append] at hK ⊢
            by_cases c3 : ts_way s l = 0 ∨ ts_way s l = 1
            · simp only [if_pos c3] at hK
              cases c4 : ts_cl s l with
              | true =>
                simp only [c4, if_true] at hK
                have := hK M h (fx_f_rf M)
                rcases c3 with c3 | c3 <;> simpa [c3, c4] using this
              | false =>
                simp only [c4, reduceCtorEq, if_false] at hK
                rcases c3 with c3 | c3
                · rw [c3] at hK
                  simp only [c3, c4, reduceCtorEq, if_true, if_false]
                  refine cX_comeUnlessFull h hs ht ha hc (fo_nup2 hs.1 hl hg) _ (fun M1 h1 f1 => ?_)
                  simp only [wX_leave_0, wX_leave_1, wX_leave_2, wX_leave_5, wX_leave_6, wX_leave_7, wX_leave_10, wX_leave_11, wX_leave_12, wX_leave_13, wX_leave_16, wX_leave_17, wX_leave_18, wX_leave_21, wX_leave_22, wX_leave_25, wX_leave_26, wX_leave_29, wX_leave_30, wX_leave_33, wX_leave_36, wX_leave_38, wX_leave_39, wX_leave_40, wX_leave_43, wX_leave_45, wX_leave_47, wX_leave_50, wX_leave_51, wX_leave_54, wX_leave_57, wX_leave_58, wX_leave_61, wX_leave_62, wX_leave_65, wX_leave_67, wX_leave_68, wX_leave_69, wX_leave_72, wX_leave_75, wX_leave_77, wX_leave_78, wX_leave_81, wX_leave_82, wX_leave_85, wX_leave_86, wX_leave_87, wX_leave_89, wX_leave_90, wX_leave_93, wX_leave_96, true_or, or_true, Option.toList_some, Option.toList_none, List.cons_append, List.nil_append]
                  exact hK M1 h1 f1
                · rw [c3] at hK
                  simp only [c3, c4, reduceCtorEq, if_true, if_false, show ¬ (1 : Int32) = 0 by decide]
                  refine cX_comeUnlessFull h hs ht ha hc (fo_nup2 hs.1 hl hg) _ (fun M1 h1 f1 => ?_)
                  simp only [wX_leave_0, wX_leave_1, wX_leave_2, wX_leave_5, wX_leave_6, wX_leave_7, wX_leave_10, wX_leave_11, wX_leave_12, wX_leave_13, wX_leave_16, wX_leave_17, wX_leave_18, wX_leave_21, wX_leave_22, wX_leave_25, wX_leave_26, wX_leave_29, wX_leave_30, wX_leave_33, wX_leave_36, wX_leave_38, wX_leave_39, wX_leave_40, wX_leave_43, wX_leave_45, wX_leave_47, wX_leave_50, wX_leave_51, wX_leave_54, wX_leave_57, wX_leave_58, wX_leave_61, wX_leave_62, wX_leave_65, wX_leave_67, wX_leave_68, wX_leave_69, wX_leave_72, wX_leave_75, wX_leave_77, wX_leave_78, wX_leave_81, wX_leave_82, wX_leave_85, wX_leave_86, wX_leave_87, wX_leave_89, wX_leave_90, wX_leave_93, wX_leave_96, true_or, or_true, Option.toList_some, Option.toList_none, List.cons_append, List.nil_append]
                  exact hK M1 h1 f1
            · have c30 : ¬ ts_way s l = 0 := fun z => c3 (Or.inl z)
              have c31 : ¬ ts_way s l = 1 := fun z => c3 (Or.inr z)
              simp only [c30, c31, or_self, if_false] at hK ⊢
              exact hK M h (fx_f_rf M)
    · simp only [c1, if_false] at hK ⊢
      exact hK M h (fx_f_rf M)
def tq_go (s : ts_S) (p : Nat) : Nat := match ts_pa s p with
  | some g => if ts_kd s g = 5 then g else p
  | none => p
def sp_go (s : ts_S) (v w : Int32) : Int32 × ts_S := match ts_id s v, ts_id s w with
  | some p, some r => match ts_pa s (tq_go s p) with
    | some f => if ts_kd s p = 4 ∧ ts_kd s r = 0 ∧ ts_kd s f = 0 then (if f = r then (0, s) else sp_cuf s (tq_go s p) r 0) else (-3, s)
    | none => (-3, s)
  | _, _ => (-1, s)
theorem cX_go (h : cp X ad s M) (hs : ts_ok s) (ht : ts_t s < 2 ^ 30) (v w : Int32) (hK : ∀ M', cp X ad (sp_go s v w).2 M' → fx_f (cxR X) M M' → K (some (.inl (sp_go s v w).1)) M') : am_wp yX_go 0 [.inr (.inl (1, some X)), .inl v, .inl w, am_u, am_u, am_u, am_u] [] M K := by
  unfold sp_go at hK
  cases hv : ts_id s v with
  | none =>
    rw [hv] at hK
    simp [wX_go_0, wX_go_1, wX_go_2, wX_go_5, wX_go_6, wX_go_7, wX_go_8, wX_go_11, wX_go_13, wX_go_14, wX_go_17, wX_go_19, wX_go_22, wX_go_23, wX_go_24, wX_go_25, wX_go_28, wX_go_31, wX_go_32, wX_go_35, wX_go_38, wX_go_39, wX_go_42, wX_go_43, wX_go_46, wX_go_49, wX_go_50, wX_go_52, wX_go_54, wX_go_57, wX_go_59, wX_go_60, wX_go_63, wX_go_64, wX_go_67, wX_go_69, wX_go_72, wX_go_75, wX_go_77, wX_go_80, wX_go_82, wX_go_85, wX_go_88, wX_go_90, wX_go_91, wX_go_93, wX_go_95, wX_go_98, wX_go_99, wX_go_102, wX_go_103, wX_go_105, wX_go_107, wX_go_108, wX_go_111, cX_fd h, hv]
    exact hK M h (fx_f_rf M)
  | some p =>
    obtain ⟨a, ha, o⟩ := cp_id_ex h hv
    have hlp := (ts_id_some hv).2.1
    have hkp := (hs.2.2.2.1 p hlp).1
    cases hw : ts_id s w with
    | none =>
      rw [hv, hw] at hK
      simp [wX_go_0, wX_go_1, wX_go_2, wX_go_5, wX_go_6, wX_go_7, wX_go_8, wX_go_11, wX_go_13, wX_go_14, wX_go_17, wX_go_19, wX_go_22, wX_go_23, wX_go_24, wX_go_25, wX_go_28, wX_go_31, wX_go_32, wX_go_35, wX_go_38, wX_go_39, wX_go_42, wX_go_43, wX_go_46, wX_go_49, wX_go_50, wX_go_52, wX_go_54, wX_go_57, wX_go_59, wX_go_60, wX_go_63, wX_go_64, wX_go_67, wX_go_69, wX_go_72, wX_go_75, wX_go_77, wX_go_80, wX_go_82, wX_go_85, wX_go_88, wX_go_90, wX_go_91, wX_go_93, wX_go_95, wX_go_98, wX_go_99, wX_go_102, wX_go_103, wX_go_105, wX_go_107, wX_go_108, wX_go_111, cX_fd h, hv, hw, ha]
      exact hK M h (fx_f_rf M)
    | some r =>
      obtain ⟨b, hb, q⟩ := cp_id_ex h hw
      have hlr := (ts_id_some hw).2.1
      have hkr := (hs.2.2.2.1 r hlr).1
      rw [hv, hw] at hK
      simp only at hK
      have o1 := o.2.1
      have o3 := o.2.2.2.1
      have q1 := q.2.1
      have fin : ∀ g ga, ad g = some ga → tq_go s p = g → am_wp yX_go 52 [.inr (.inl (1, some X)), .inl v, .inl w, .inr (.inl (2, some a)), .inr (.inl (2, some b)), .inr (.inl (2, some ga)), am_u] [] M K := by
        intro g ga hga hgo
        rw [hgo] at hK
        have u3 := (cp_at h hga).2.2.2.1
        simp only [wX_go_0, wX_go_1, wX_go_2, wX_go_5, wX_go_6, wX_go_7, wX_go_8, wX_go_11, wX_go_13, wX_go_14, wX_go_17, wX_go_19, wX_go_22, wX_go_23, wX_go_24, wX_go_25, wX_go_28, wX_go_31, wX_go_32, wX_go_35, wX_go_38, wX_go_39, wX_go_42, wX_go_43, wX_go_46, wX_go_49, wX_go_50, wX_go_52, wX_go_54, wX_go_57, wX_go_59, wX_go_60, wX_go_63, wX_go_64, wX_go_67, wX_go_69, wX_go_72, wX_go_75, wX_go_77, wX_go_80, wX_go_82, wX_go_85, wX_go_88, wX_go_90, wX_go_91, wX_go_93, wX_go_95, wX_go_98, wX_go_99, wX_go_102, wX_go_103, wX_go_105, wX_go_107, wX_go_108, wX_go_111, u3, o1, q1, nk4 (show ts_kd s p < 1000 by omega), nk0 (show ts_kd s r < 1000 by omega)]
        cases hf : ts_pa s g with
        | none =>
          simp only [hf, Option.bind_none, if_true] at hK ⊢
          have := hK M h (fx_f_rf M)
          by_cases c1 : ts_kd s p = 4 <;> by_cases c2 : ts_kd s r = 0 <;> simpa [c1, c2] using this
        | some f =>
          have hlf : ts_lv s f := ts_pa_lv hf
          obtain ⟨c, hc⟩ := cp_ex h hlf
          have hkf := (hs.2.2.2.1 f hlf).1
          have w1 := (cp_at h hc).2.1
          have efr : (c = b) = (f = r) := propext ⟨fun z => h.2.2.2.2.2.2.2.2 f r c hc (by rw [z]; exact hb), fun z => by subst z; rw [hc] at hb; exact Option.some.inj hb⟩
          simp only [hf, Option.bind_some, hc, reduceCtorEq, if_false, wX_go_0, wX_go_1, wX_go_2, wX_go_5, wX_go_6, wX_go_7, wX_go_8, wX_go_11, wX_go_13, wX_go_14, wX_go_17, wX_go_19, wX_go_22, wX_go_23, wX_go_24, wX_go_25, wX_go_28, wX_go_31, wX_go_32, wX_go_35, wX_go_38, wX_go_39, wX_go_42, wX_go_43, wX_go_46, wX_go_49, wX_go_50, wX_go_52, wX_go_54, wX_go_57, wX_go_59, wX_go_60, wX_go_63, wX_go_64, wX_go_67, wX_go_69, wX_go_72, wX_go_75, wX_go_77, wX_go_80, wX_go_82, wX_go_85, wX_go_88, wX_go_90, wX_go_91, wX_go_93, wX_go_95, wX_go_98, wX_go_99, wX_go_102, wX_go_103, wX_go_105, wX_go_107, wX_go_108, wX_go_111, w1, nk0 (show ts_kd s f < 1000 by omega), Option.some.injEq, efr] at hK ⊢
          by_cases c1 : ts_kd s p = 4
          · by_cases c2 : ts_kd s r = 0
            · by_cases c3 : ts_kd s f = 0
              · by_cases c4 : f = r
                · simp only [c1, c2, c3, c4, and_self, if_true] at hK ⊢
                  exact hK M h (fx_f_rf M)
                · simp only [c1, c2, c3, c4, and_self, if_true, if_false] at hK ⊢
                  have hnot : r ∉ fo_w (ts_L s) g := fun z => by
                    by_cases e : g = r
                    · subst e
                      exact (hs.2.2.2.2 g f hf).1 c2
                    · obtain ⟨y, hy, -⟩ := fo_w_up hs.1 z e
                      exact (hs.2.2.2.2 r y hy).1 c2
                  refine cX_comeUnlessFull h hs ht hga hb hnot _ (fun M1 h1 f1 => ?_)
                  simp only [wX_go_0, wX_go_1, wX_go_2, wX_go_5, wX_go_6, wX_go_7, wX_go_8, wX_go_11, wX_go_13, wX_go_14, wX_go_17, wX_go_19, wX_go_22, wX_go_23, wX_go_24, wX_go_25, wX_go_28, wX_go_31, wX_go_32, wX_go_35, wX_go_38, wX_go_39, wX_go_42, wX_go_43, wX_go_46, wX_go_49, wX_go_50, wX_go_52, wX_go_54, wX_go_57, wX_go_59, wX_go_60, wX_go_63, wX_go_64, wX_go_67, wX_go_69, wX_go_72, wX_go_75, wX_go_77, wX_go_80, wX_go_82, wX_go_85, wX_go_88, wX_go_90, wX_go_91, wX_go_93, wX_go_95, wX_go_98, wX_go_99, wX_go_102, wX_go_103, wX_go_105, wX_go_107, wX_go_108, wX_go_111, true_or, or_true, Option.toList_some, Option.toList_none, List.cons_append, List.nil_append]
                  exact hK M1 h1 f1
              · simp only [c1, c2, c3, and_false, if_true, if_false] at hK ⊢
                exact hK M h (fx_f_rf M)
            · simp only [c1, c2, false_and, and_false, if_true, if_false] at hK ⊢
              exact hK M h (fx_f_rf M)
          · simp only [c1, false_and, if_false] at hK ⊢
            exact hK M h (fx_f_rf M)
      simp only [wX_go_0, wX_go_1, wX_go_2, wX_go_5, wX_go_6, wX_go_7, wX_go_8, wX_go_11, wX_go_13, wX_go_14, wX_go_17, wX_go_19, wX_go_22, wX_go_23, wX_go_24, wX_go_25, wX_go_28, wX_go_31, wX_go_32, wX_go_35, wX_go_38, wX_go_39, wX_go_42, wX_go_43, wX_go_46, wX_go_49, wX_go_50, wX_go_54, wX_go_57, wX_go_59, wX_go_60, wX_go_63, wX_go_64, wX_go_67, wX_go_69, wX_go_72, wX_go_75, wX_go_77, wX_go_80, wX_go_82, wX_go_85, wX_go_88, wX_go_90, wX_go_91, wX_go_93, wX_go_95, wX_go_98, wX_go_99, wX_go_102, wX_go_103, wX_go_105, wX_go_107, wX_go_108, wX_go_111, cX_fd h, hv, hw, ha, hb, true_or, or_true, Option.toList_some, Option.toList_none, List.cons_append, List.nil_append, Option.bind_some, reduceCtorEq, if_false, o3]
      cases hg : ts_pa s p with
      | none =>
        simp only [Option.bind_none, if_true]
        exact fin p a ha (by unfold tq_go; rw [hg])
      | some g =>
        have hlg : ts_lv s g := ts_pa_lv hg
        obtain ⟨c, hc⟩ := cp_ex h hlg
        have hkg := (hs.2.2.2.1 g hlg).1
        have w1 := (cp_at h hc).2.1
        simp only [Option.bind_some, hc, reduceCtorEq, if_false, wX_go_0, wX_go_1, wX_go_2, wX_go_5, wX_go_6, wX_go_7, wX_go_8, wX_go_11, wX_go_13, wX_go_14, wX_go_17, wX_go_19, wX_go_22, wX_go_23, wX_go_24, wX_go_25, wX_go_28, wX_go_31, wX_go_32, wX_go_35, wX_go_38, wX_go_39, wX_go_42, wX_go_43, wX_go_46, wX_go_49, wX_go_50, wX_go_54, wX_go_57, wX_go_59, wX_go_60, wX_go_63, wX_go_64, wX_go_67, wX_go_69, wX_go_72, wX_go_75, wX_go_77, wX_go_80, wX_go_82, wX_go_85, wX_go_88, wX_go_90, wX_go_91, wX_go_93, wX_go_95, wX_go_98, wX_go_99, wX_go_102, wX_go_103, wX_go_105, wX_go_107, wX_go_108, wX_go_111, w1, nk5 (show ts_kd s g < 1000 by omega), o3, hg]
        by_cases c5 : ts_kd s g = 5
        · simp only [c5, if_true]
          exact fin g c hc (by unfold tq_go; rw [hg]; simp [c5])
        · simp only [c5, if_false]
          exact fin p a ha (by unfold tq_go; rw [hg]; simp [c5])
end CY
