-- THE REFERENCE: drop, leave, go
section MZ
variable {N : Nat} {s : ts_S} {M M' : am_M} {K : Option am_V → am_M → Prop} {n p t : Nat}
theorem wy_cases (hs : ts_ok s) {x g : Nat} (h : ts_pa s x = some g) : ts_wy s x = 0 ∨ ts_wy s x = 1 ∨ ts_wy s x = 2 ∨ ts_wy s x = 3 ∨ ts_wy s x = 4 := by
  rcases (hs.2.2.2.2 x g h).2.2 with q | q | q | q
  · exact Or.inl q.1
  · exact Or.inr (Or.inl q.1)
  · rcases q.1 with z | z
    · exact Or.inr (Or.inr (Or.inl z))
    · exact Or.inr (Or.inr (Or.inr (Or.inl z)))
  · exact Or.inr (Or.inr (Or.inr (Or.inr q.1)))
theorem wy_nn (hs : ts_ok s) {x g : Nat} (h : ts_pa s x = some g) : ¬ ts_way s x < 0 := by
  rw [ts_way_h h]
  rcases wy_cases hs h with q | q | q | q | q <;> rw [q] <;> decide
theorem mM_ovS (h : mp N s M) (hs : ts_ok s) {x g : Nat} (hx : ts_pa s x = some g) : am_wp yM_over 0 [.inr (.inl (4, some N)), .inl (nI x), am_u, am_u] [] M K = K (some (.inl (nI g))) M := by
  rw [mM_ov h hs (fo_p_mem hx).1, hx]
  rfl
theorem mM_ovN (h : mp N s M) (hs : ts_ok s) {x : Nat} (hl : ts_lv s x) (hx : ts_pa s x = none) : am_wp yM_over 0 [.inr (.inl (4, some N)), .inl (nI x), am_u, am_u] [] M K = K (some (.inl (-1))) M := by
  rw [mM_ov h hs hl, hx]
  rfl
theorem mM_drop2 (h : mp N s M) (hs : ts_ok s) (ht : ts_t s < 2 ^ 30) (hlt : ts_lv s t) {g : Nat} (hg : ts_pa s p = some g) (hnot : g ∉ fo_w (ts_L s) t) (l3 : am_V) (hK : ∀ M', mp N (ts_come s t g (ts_way s p)) M' → fx_f (mxR N) M M' → K (some (.inl 1)) M') : am_wp yM_drop 103 [.inr (.inl (4, some N)), .inl (nI p), .inl (nI t), l3] [] M K := by
  have hlp : ts_lv s p := (fo_p_mem hg).1
  have p20 := ts_20 hs hlp
  have w5 := (h.2.2.2.2 p hlp).2.2.1 g hg
  rw [← ts_way_h hg] at w5
  simp only [wM_drop_0, wM_drop_1, wM_drop_2, wM_drop_5, wM_drop_6, wM_drop_7, wM_drop_10, wM_drop_13, wM_drop_14, wM_drop_15, wM_drop_18, wM_drop_21, wM_drop_22, wM_drop_23, wM_drop_24, wM_drop_25, wM_drop_26, wM_drop_27, wM_drop_30, wM_drop_31, wM_drop_32, wM_drop_33, wM_drop_34, wM_drop_37, wM_drop_40, wM_drop_41, wM_drop_44, wM_drop_45, wM_drop_46, wM_drop_47, wM_drop_48, wM_drop_51, wM_drop_54, wM_drop_55, wM_drop_56, wM_drop_59, wM_drop_62, wM_drop_64, wM_drop_65, wM_drop_66, wM_drop_69, wM_drop_70, wM_drop_71, wM_drop_74, wM_drop_77, wM_drop_78, wM_drop_79, wM_drop_80, wM_drop_83, wM_drop_86, wM_drop_89, wM_drop_91, wM_drop_92, wM_drop_93, wM_drop_96, wM_drop_97, wM_drop_98, wM_drop_99, wM_drop_100, wM_drop_103, wM_drop_104, wM_drop_105, wM_drop_106, wM_drop_107, wM_drop_110, wM_drop_111, wM_drop_114, wM_drop_116, wM_drop_119, wM_drop_120, mM_ovS h hs hg, true_or, or_true, Option.toList_some, Option.toList_none, List.cons_append, List.nil_append, h.1.1.2.2.2.2.1, wM_drop_115 (am_ok_nI p20 (by decide)), nI_clamp (show p < 2 ^ 31 by omega), w5]
  refine mM_come h hs hlt ht (ts_pa_lv hg) hnot (wy_nn hs hg) (fun M2 h2 f2 => ?_)
  simp only [wM_drop_0, wM_drop_1, wM_drop_2, wM_drop_5, wM_drop_6, wM_drop_7, wM_drop_10, wM_drop_13, wM_drop_14, wM_drop_15, wM_drop_18, wM_drop_21, wM_drop_22, wM_drop_23, wM_drop_24, wM_drop_25, wM_drop_26, wM_drop_27, wM_drop_30, wM_drop_31, wM_drop_32, wM_drop_33, wM_drop_34, wM_drop_37, wM_drop_40, wM_drop_41, wM_drop_44, wM_drop_45, wM_drop_46, wM_drop_47, wM_drop_48, wM_drop_51, wM_drop_54, wM_drop_55, wM_drop_56, wM_drop_59, wM_drop_62, wM_drop_64, wM_drop_65, wM_drop_66, wM_drop_69, wM_drop_70, wM_drop_71, wM_drop_74, wM_drop_77, wM_drop_78, wM_drop_79, wM_drop_80, wM_drop_83, wM_drop_86, wM_drop_89, wM_drop_91, wM_drop_92, wM_drop_93, wM_drop_96, wM_drop_97, wM_drop_98, wM_drop_99, wM_drop_100, wM_drop_103, wM_drop_104, wM_drop_105, wM_drop_106, wM_drop_107, wM_drop_110, wM_drop_111, wM_drop_114, wM_drop_116, wM_drop_119, wM_drop_120, true_or, or_true, Option.toList_some, Option.toList_none, List.cons_append, List.nil_append]
  exact hK M2 h2 (mu_fx f2)
theorem mM_drop (h : mp N s M) (hs : ts_ok s) (ht : ts_t s + 1 < 2 ^ 30) (v w : Int32) (hK : ∀ M', mp N (sp_drop s v w).2 M' → fx_f (mxR N) M M' → K (some (.inl (sp_drop s v w).1)) M') : am_wp yM_drop 0 [.inr (.inl (4, some N)), .inl v, .inl w, am_u] [] M K := by
  have h' := mp_th h
  have f0 : fx_f (mxR N) M (am_si M N 0 0) := fx_th0
  cases hv : ts_id s v with
  | none => simpa [wM_drop_0, wM_drop_1, wM_drop_2, wM_drop_5, wM_drop_6, wM_drop_7, wM_drop_10, wM_drop_13, wM_drop_14, wM_drop_15, wM_drop_18, wM_drop_21, wM_drop_22, wM_drop_23, wM_drop_24, wM_drop_25, wM_drop_26, wM_drop_27, wM_drop_30, wM_drop_31, wM_drop_32, wM_drop_33, wM_drop_34, wM_drop_37, wM_drop_40, wM_drop_41, wM_drop_44, wM_drop_45, wM_drop_46, wM_drop_47, wM_drop_48, wM_drop_51, wM_drop_54, wM_drop_55, wM_drop_56, wM_drop_59, wM_drop_62, wM_drop_64, wM_drop_65, wM_drop_66, wM_drop_69, wM_drop_70, wM_drop_71, wM_drop_74, wM_drop_77, wM_drop_78, wM_drop_79, wM_drop_80, wM_drop_83, wM_drop_86, wM_drop_89, wM_drop_91, wM_drop_92, wM_drop_93, wM_drop_96, wM_drop_97, wM_drop_98, wM_drop_99, wM_drop_100, wM_drop_103, wM_drop_104, wM_drop_105, wM_drop_106, wM_drop_107, wM_drop_110, wM_drop_111, wM_drop_114, wM_drop_116, wM_drop_119, wM_drop_120, mM_is h' hs, hv, am_b] using sp_gt hK (c := -1) (s' := s) (by simp [sp_drop, hv]) h' f0
  | some p =>
    obtain ⟨rfl, hlp, p20⟩ := ts_id_some hv
    cases hw : ts_id s w with
    | none => simpa [wM_drop_0, wM_drop_1, wM_drop_2, wM_drop_5, wM_drop_6, wM_drop_7, wM_drop_10, wM_drop_13, wM_drop_14, wM_drop_15, wM_drop_18, wM_drop_21, wM_drop_22, wM_drop_23, wM_drop_24, wM_drop_25, wM_drop_26, wM_drop_27, wM_drop_30, wM_drop_31, wM_drop_32, wM_drop_33, wM_drop_34, wM_drop_37, wM_drop_40, wM_drop_41, wM_drop_44, wM_drop_45, wM_drop_46, wM_drop_47, wM_drop_48, wM_drop_51, wM_drop_54, wM_drop_55, wM_drop_56, wM_drop_59, wM_drop_62, wM_drop_64, wM_drop_65, wM_drop_66, wM_drop_69, wM_drop_70, wM_drop_71, wM_drop_74, wM_drop_77, wM_drop_78, wM_drop_79, wM_drop_80, wM_drop_83, wM_drop_86, wM_drop_89, wM_drop_91, wM_drop_92, wM_drop_93, wM_drop_96, wM_drop_97, wM_drop_98, wM_drop_99, wM_drop_100, wM_drop_103, wM_drop_104, wM_drop_105, wM_drop_106, wM_drop_107, wM_drop_110, wM_drop_111, wM_drop_114, wM_drop_116, wM_drop_119, wM_drop_120, mM_is h' hs, hv, hw, am_b] using sp_gt hK (c := -1) (s' := s) (by simp [sp_drop, hv, hw]) h' f0
    | some t =>
      obtain ⟨rfl, hlt, t20⟩ := ts_id_some hw
      simp only [wM_drop_0, wM_drop_1, wM_drop_2, wM_drop_5, wM_drop_6, wM_drop_7, wM_drop_10, wM_drop_13, wM_drop_14, wM_drop_15, wM_drop_18, wM_drop_21, wM_drop_22, wM_drop_23, wM_drop_24, wM_drop_25, wM_drop_26, wM_drop_27, wM_drop_30, wM_drop_31, wM_drop_32, wM_drop_33, wM_drop_34, wM_drop_37, wM_drop_40, wM_drop_41, wM_drop_44, wM_drop_45, wM_drop_46, wM_drop_47, wM_drop_48, wM_drop_51, wM_drop_54, wM_drop_55, wM_drop_56, wM_drop_59, wM_drop_62, wM_drop_64, wM_drop_65, wM_drop_66, wM_drop_69, wM_drop_70, wM_drop_71, wM_drop_74, wM_drop_77, wM_drop_78, wM_drop_79, wM_drop_80, wM_drop_83, wM_drop_86, wM_drop_89, wM_drop_91, wM_drop_92, wM_drop_93, wM_drop_96, wM_drop_97, wM_drop_98, wM_drop_99, wM_drop_100, wM_drop_104, wM_drop_105, wM_drop_106, wM_drop_107, wM_drop_110, wM_drop_111, wM_drop_114, wM_drop_116, wM_drop_119, wM_drop_120, mM_is h' hs, hv, hw, Option.isSome_some, true_or, or_true, Option.toList_some, Option.toList_none, List.cons_append, List.nil_append, am_b0, reduceCtorEq, if_false, mM_of4 h' hs hlp, mM_isHeld h' hs hlt p20, mM_isFull h' hs hlp]
      by_cases c1 : ts_kd s p = 4
      · cases hg : ts_pa s p with
        | none =>
          have := sp_gt hK (c := -3) (s' := s) (by simp [sp_drop, hv, hw, hg]) h' f0
          cases c3 : tq_hl s t p 3 <;> cases c2 : tq_hl s t p 2 <;> simpa [c1, mM_ovN h' hs hlp hg, wM_drop_0, wM_drop_1, wM_drop_2, wM_drop_5, wM_drop_6, wM_drop_7, wM_drop_10, wM_drop_13, wM_drop_14, wM_drop_15, wM_drop_18, wM_drop_21, wM_drop_22, wM_drop_23, wM_drop_24, wM_drop_25, wM_drop_26, wM_drop_27, wM_drop_30, wM_drop_31, wM_drop_32, wM_drop_33, wM_drop_34, wM_drop_37, wM_drop_40, wM_drop_41, wM_drop_44, wM_drop_45, wM_drop_46, wM_drop_47, wM_drop_48, wM_drop_51, wM_drop_54, wM_drop_55, wM_drop_56, wM_drop_59, wM_drop_62, wM_drop_64, wM_drop_65, wM_drop_66, wM_drop_69, wM_drop_70, wM_drop_71, wM_drop_74, wM_drop_77, wM_drop_78, wM_drop_79, wM_drop_80, wM_drop_83, wM_drop_86, wM_drop_89, wM_drop_91, wM_drop_92, wM_drop_93, wM_drop_96, wM_drop_97, wM_drop_98, wM_drop_99, wM_drop_100, wM_drop_104, wM_drop_105, wM_drop_106, wM_drop_107, wM_drop_110, wM_drop_111, wM_drop_114, wM_drop_116, wM_drop_119, wM_drop_120] using this
        | some g =>
          have hlg : ts_lv s g := ts_pa_lv hg
          have g20 := ts_20 hs hlg
          have ng : ¬ nI g < 0 := nI_pos (by omega)
          simp only [mM_ovS h' hs hg, wM_drop_0, wM_drop_1, wM_drop_2, wM_drop_5, wM_drop_6, wM_drop_7, wM_drop_10, wM_drop_13, wM_drop_14, wM_drop_15, wM_drop_18, wM_drop_21, wM_drop_22, wM_drop_23, wM_drop_24, wM_drop_25, wM_drop_26, wM_drop_27, wM_drop_30, wM_drop_31, wM_drop_32, wM_drop_33, wM_drop_34, wM_drop_37, wM_drop_40, wM_drop_41, wM_drop_44, wM_drop_45, wM_drop_46, wM_drop_47, wM_drop_48, wM_drop_51, wM_drop_54, wM_drop_55, wM_drop_56, wM_drop_59, wM_drop_62, wM_drop_64, wM_drop_65, wM_drop_66, wM_drop_69, wM_drop_70, wM_drop_71, wM_drop_74, wM_drop_77, wM_drop_78, wM_drop_79, wM_drop_80, wM_drop_83, wM_drop_86, wM_drop_89, wM_drop_91, wM_drop_92, wM_drop_93, wM_drop_96, wM_drop_97, wM_drop_98, wM_drop_99, wM_drop_100, wM_drop_104, wM_drop_105, wM_drop_106, wM_drop_107, wM_drop_110, wM_drop_111, wM_drop_114, wM_drop_116, wM_drop_119, wM_drop_120, true_or, or_true, Option.toList_some, Option.toList_none, List.cons_append, List.nil_append, mM_isFull h' hs hlg, mM_isFull h' hs hlp, am_b0, ng, if_false]
          cases c3 : tq_hl s t p 3 with
          | true =>
            have htp := (tq_hl_p c3).1
            have hpt : p ≠ t := fun z => by have := fo_p_deep hs.1 htp; rw [z] at this; omega
            cases c4 : tq_fu s p with
            | true => simpa [c1] using sp_gt hK (c := -5) (s' := s) (by simp [sp_drop, hv, hw, hg, c1, c3, c4]) h' f0
            | false =>
              cases c5 : tq_fu s g with
              | true => simpa [c1] using sp_gt hK (c := -5) (s' := s) (by simp [sp_drop, hv, hw, hg, c1, c3, c4, c5]) h' f0
              | false =>
                have hs1 : ts_ok (ts_come s t p 2) := ts_ok_come hs hlt hlp (fo_nup hs.1 htp) ⟨(hs.2.2.2.2 t p htp).1, (hs.2.2.2.2 t p htp).2.1, Or.inr (Or.inr (Or.inl ⟨Or.inl rfl, c1⟩))⟩
                have z1 : ts_pa (ts_come s t p 2) t = some p := by rw [come_pa hs hlt hlp (fo_nup hs.1 htp), if_pos rfl]
                have z2 : ts_pa (ts_come s t p 2) p = some g := by rw [come_pa hs hlt hlp (fo_nup hs.1 htp), if_neg hpt, hg]
                have z3 : ts_way (ts_come s t p 2) p = ts_way s p := by rw [come_way hs hlt hlp (fo_nup hs.1 htp), if_neg hpt]
                have key := mM_come (K := fun r M1 => am_wp yM_drop 103 [.inr (.inl (4, some N)), .inl (nI p), .inl (nI t), .inl (am_b true)] (r.toList ++ []) M1 K) h' hs hlt (by omega) hlp (fo_nup hs.1 htp) (w := 2) (by decide) (fun M1 h1 f1 => by
                  refine mM_drop2 h1 hs1 (show ts_t s + 1 < 2 ^ 30 from ht) (fo_p_mem z1).1 z2 (fo_nup2 hs1.1 z1 z2) _ (fun M2 h2 f2 => ?_)
                  rw [z3] at h2
                  exact sp_gt hK (by simp [sp_drop, hv, hw, hg, c1, c3, c4, c5]) h2 (fx_f_tr (fx_cm f0 f1) f2))
                simpa [c1] using key
          | false =>
            cases c2 : tq_hl s t p 2 with
            | false => simpa [c1] using sp_gt hK (c := -3) (s' := s) (by simp [sp_drop, hv, hw, hg, c1, c3, c2]) h' f0
            | true =>
              have htp := (tq_hl_p c2).1
              cases c5 : tq_fu s g with
              | true => simpa [c1] using sp_gt hK (c := -5) (s' := s) (by simp [sp_drop, hv, hw, hg, c1, c3, c2, c5]) h' f0
              | false =>
                have key := mM_drop2 (K := K) h' hs (by omega) hlt hg (fo_nup2 hs.1 htp hg) (.inl (am_b false)) (fun M2 h2 f2 => sp_gt hK (by simp [sp_drop, hv, hw, hg, c1, c3, c2, c5]) h2 (fx_f_tr f0 f2))
                simpa [c1] using key
      · have : K (some (.inl (-3))) (am_si M N 0 0) := by
          cases hg : ts_pa s p with
          | none => exact sp_gt hK (by simp [sp_drop, hv, hw, hg]) h' f0
          | some g => exact sp_gt hK (by simp [sp_drop, hv, hw, hg, c1]) h' f0
        simpa [c1] using this
theorem mM_leave (h : mp N s M) (hs : ts_ok s) (ht : ts_t s < 2 ^ 30) (v : Int32) (hK : ∀ M', mp N (sp_leave s v).2 M' → fx_f (mxR N) M M' → K (some (.inl (sp_leave s v).1)) M') : am_wp yM_leave 0 [.inr (.inl (4, some N)), .inl v, am_u, am_u] [] M K := by
  have h' := mp_th h
  have f0 : fx_f (mxR N) M (am_si M N 0 0) := fx_th0
  cases hv : ts_id s v with
  | none => simpa [wM_leave_0, wM_leave_1, wM_leave_2, wM_leave_5, wM_leave_6, wM_leave_7, wM_leave_10, wM_leave_13, wM_leave_14, wM_leave_15, wM_leave_16, wM_leave_17, wM_leave_18, wM_leave_21, wM_leave_24, wM_leave_25, wM_leave_26, wM_leave_29, wM_leave_32, wM_leave_33, wM_leave_34, wM_leave_35, wM_leave_38, wM_leave_39, wM_leave_40, wM_leave_41, wM_leave_44, wM_leave_47, wM_leave_48, wM_leave_49, wM_leave_50, wM_leave_53, wM_leave_56, wM_leave_58, wM_leave_59, wM_leave_60, wM_leave_61, wM_leave_64, wM_leave_65, wM_leave_66, wM_leave_69, wM_leave_70, wM_leave_73, wM_leave_75, wM_leave_76, wM_leave_79, wM_leave_81, wM_leave_82, wM_leave_83, wM_leave_84, wM_leave_85, wM_leave_88, wM_leave_91, wM_leave_92, wM_leave_95, wM_leave_97, wM_leave_100, wM_leave_102, wM_leave_103, wM_leave_104, wM_leave_105, wM_leave_106, wM_leave_107, wM_leave_110, wM_leave_113, wM_leave_115, wM_leave_116, wM_leave_117, wM_leave_118, wM_leave_119, wM_leave_120, wM_leave_123, wM_leave_125, wM_leave_128, wM_leave_129, mM_is h' hs, hv, am_b] using sp_gt hK (c := -1) (s' := s) (by simp [sp_leave, hv]) h' f0
  | some p =>
    obtain ⟨rfl, hlp, p20⟩ := ts_id_some hv
    simp only [wM_leave_0, wM_leave_1, wM_leave_2, wM_leave_5, wM_leave_6, wM_leave_7, wM_leave_10, wM_leave_13, wM_leave_14, wM_leave_15, wM_leave_16, wM_leave_17, wM_leave_18, wM_leave_21, wM_leave_24, wM_leave_25, wM_leave_26, wM_leave_29, wM_leave_32, wM_leave_33, wM_leave_34, wM_leave_35, wM_leave_38, wM_leave_39, wM_leave_40, wM_leave_41, wM_leave_44, wM_leave_47, wM_leave_48, wM_leave_49, wM_leave_50, wM_leave_53, wM_leave_56, wM_leave_58, wM_leave_59, wM_leave_60, wM_leave_61, wM_leave_64, wM_leave_65, wM_leave_66, wM_leave_69, wM_leave_70, wM_leave_73, wM_leave_75, wM_leave_76, wM_leave_79, wM_leave_81, wM_leave_82, wM_leave_83, wM_leave_84, wM_leave_85, wM_leave_88, wM_leave_91, wM_leave_92, wM_leave_95, wM_leave_97, wM_leave_100, wM_leave_102, wM_leave_103, wM_leave_104, wM_leave_105, wM_leave_106, wM_leave_107, wM_leave_110, wM_leave_113, wM_leave_115, wM_leave_116, wM_leave_117, wM_leave_118, wM_leave_119, wM_leave_120, wM_leave_123, wM_leave_125, wM_leave_128, wM_leave_129, mM_is h' hs, hv, Option.isSome_some, true_or, or_true, Option.toList_some, Option.toList_none, List.cons_append, List.nil_append, am_b0, reduceCtorEq, if_false, mM_of4 h' hs hlp]
    by_cases c1 : ts_kd s p = 4
    · cases hl : ts_pa s p with
      | none => simpa [c1, mM_ovN h' hs hlp hl, wM_leave_0, wM_leave_1, wM_leave_2, wM_leave_5, wM_leave_6, wM_leave_7, wM_leave_10, wM_leave_13, wM_leave_14, wM_leave_15, wM_leave_16, wM_leave_17, wM_leave_18, wM_leave_21, wM_leave_24, wM_leave_25, wM_leave_26, wM_leave_29, wM_leave_32, wM_leave_33, wM_leave_34, wM_leave_35, wM_leave_38, wM_leave_39, wM_leave_40, wM_leave_41, wM_leave_44, wM_leave_47, wM_leave_48, wM_leave_49, wM_leave_50, wM_leave_53, wM_leave_56, wM_leave_58, wM_leave_59, wM_leave_60, wM_leave_61, wM_leave_64, wM_leave_65, wM_leave_66, wM_leave_69, wM_leave_70, wM_leave_73, wM_leave_75, wM_leave_76, wM_leave_79, wM_leave_81, wM_leave_82, wM_leave_83, wM_leave_84, wM_leave_85, wM_leave_88, wM_leave_91, wM_leave_92, wM_leave_95, wM_leave_97, wM_leave_100, wM_leave_102, wM_leave_103, wM_leave_104, wM_leave_105, wM_leave_106, wM_leave_107, wM_leave_110, wM_leave_113, wM_leave_115, wM_leave_116, wM_leave_117, wM_leave_118, wM_leave_119, wM_leave_120, wM_leave_123, wM_leave_125, wM_leave_128, wM_leave_129] using sp_gt hK (c := -3) (s' := s) (by simp [sp_leave, hv, hl]) h' f0
      | some l =>
        have hll : ts_lv s l := ts_pa_lv hl
        have l20 := ts_20 hs hll
        have nl : ¬ nI l < 0 := nI_pos (by omega)
        have en : tq_en s l = (ts_kd s l == 2 || ts_kd s l == 5) := rfl
        have fin : tq_en s l = true → am_wp yM_leave 59 [.inr (.inl (4, some N)), .inl (nI p), .inl (nI l), am_u] [] (am_si M N 0 0) K := by
          intro c2
          cases hg : ts_pa s l with
          | none => simpa [wM_leave_0, wM_leave_1, wM_leave_2, wM_leave_5, wM_leave_6, wM_leave_7, wM_leave_10, wM_leave_13, wM_leave_14, wM_leave_15, wM_leave_16, wM_leave_17, wM_leave_18, wM_leave_21, wM_leave_24, wM_leave_25, wM_leave_26, wM_leave_29, wM_leave_32, wM_leave_33, wM_leave_34, wM_leave_35, wM_leave_38, wM_leave_39, wM_leave_40, wM_leave_41, wM_leave_44, wM_leave_47, wM_leave_48, wM_leave_49, wM_leave_50, wM_leave_53, wM_leave_56, wM_leave_58, wM_leave_59, wM_leave_60, wM_leave_61, wM_leave_64, wM_leave_65, wM_leave_66, wM_leave_69, wM_leave_70, wM_leave_73, wM_leave_75, wM_leave_76, wM_leave_79, wM_leave_81, wM_leave_82, wM_leave_83, wM_leave_84, wM_leave_85, wM_leave_88, wM_leave_91, wM_leave_92, wM_leave_95, wM_leave_97, wM_leave_100, wM_leave_102, wM_leave_103, wM_leave_104, wM_leave_105, wM_leave_106, wM_leave_107, wM_leave_110, wM_leave_113, wM_leave_115, wM_leave_116, wM_leave_117, wM_leave_118, wM_leave_119, wM_leave_120, wM_leave_123, wM_leave_125, wM_leave_128, wM_leave_129, mM_ovN h' hs hll hg] using sp_gt hK (c := -3) (s' := s) (by simp [sp_leave, hv, c1, hl, c2, hg]) h' f0
          | some g =>
            have hlg : ts_lv s g := ts_pa_lv hg
            have g20 := ts_20 hs hlg
            have ng : ¬ nI g < 0 := nI_pos (by omega)
            have w5 := (h'.2.2.2.2 l hll).2.2.1 g hg
            have o6 := (h'.2.2.2.2 l hll).2.2.2.1
            have ew : ts_way s l = ts_wy s l := ts_way_h hg
            have hnot := fo_nup2 hs.1 hl hg
            simp only [wM_leave_0, wM_leave_1, wM_leave_2, wM_leave_5, wM_leave_6, wM_leave_7, wM_leave_10, wM_leave_13, wM_leave_14, wM_leave_15, wM_leave_16, wM_leave_17, wM_leave_18, wM_leave_21, wM_leave_24, wM_leave_25, wM_leave_26, wM_leave_29, wM_leave_32, wM_leave_33, wM_leave_34, wM_leave_35, wM_leave_38, wM_leave_39, wM_leave_40, wM_leave_41, wM_leave_44, wM_leave_47, wM_leave_48, wM_leave_49, wM_leave_50, wM_leave_53, wM_leave_56, wM_leave_58, wM_leave_59, wM_leave_60, wM_leave_61, wM_leave_64, wM_leave_65, wM_leave_66, wM_leave_69, wM_leave_70, wM_leave_73, wM_leave_75, wM_leave_76, wM_leave_79, wM_leave_81, wM_leave_82, wM_leave_83, wM_leave_84, wM_leave_85, wM_leave_88, wM_leave_91, wM_leave_92, wM_leave_95, wM_leave_97, wM_leave_100, wM_leave_102, wM_leave_103, wM_leave_104, wM_leave_105, wM_leave_106, wM_leave_107, wM_leave_110, wM_leave_113, wM_leave_115, wM_leave_116, wM_leave_117, wM_leave_118, wM_leave_119, wM_leave_120, wM_leave_123, wM_leave_125, wM_leave_128, wM_leave_129, mM_ovS h' hs hg, true_or, or_true, Option.toList_some, Option.toList_none, List.cons_append, List.nil_append, ng, if_false, h'.1.1.2.2.2.2.1, h'.1.1.2.2.2.2.2.1, wM_leave_74 (am_ok_nI l20 (by decide)), wM_leave_96 (am_ok_nI l20 (by decide)), wM_leave_124 (am_ok_nI l20 (by decide)), nI_clamp (show l < 2 ^ 31 by omega), w5, o6, mM_of2 h' hs hll, mM_isFull h' hs hlg, am_b0]
            by_cases c3 : ts_wy s l = 0 ∨ ts_wy s l = 1
            · have c3' : ¬ (1 : Int32) < ts_wy s l := by rcases c3 with q | q <;> rw [q] <;> decide
              have c3n : ¬ ts_wy s l < 0 := by rcases c3 with q | q <;> rw [q] <;> decide
              rw [if_neg c3']
              cases c4 : ts_cl s l with
              | true =>
                have k2 := (hs.2.2.2.1 l hll).2.2 c4
                simpa [k2] using sp_gt hK (c := -10 - nI l) (s' := s) (by simp [sp_leave, hv, c1, hl, c2, hg, ew, c3, c4]) h' f0
              | false =>
                cases c5 : tq_fu s g with
                | true => simpa using sp_gt hK (c := -5) (s' := s) (by simp [sp_leave, hv, c1, hl, c2, hg, ew, c3, c4, sp_cuf, c5]) h' f0
                | false =>
                  have key := mM_come (K := fun r M1 => am_wp yM_leave 128 [.inr (.inl (4, some N)), .inl (nI p), .inl (nI l), .inl (nI g)] (r.toList ++ []) M1 K) h' hs hlp ht hlg hnot c3n (fun M2 h2 f2 => by
                    simp only [wM_leave_0, wM_leave_1, wM_leave_2, wM_leave_5, wM_leave_6, wM_leave_7, wM_leave_10, wM_leave_13, wM_leave_14, wM_leave_15, wM_leave_16, wM_leave_17, wM_leave_18, wM_leave_21, wM_leave_24, wM_leave_25, wM_leave_26, wM_leave_29, wM_leave_32, wM_leave_33, wM_leave_34, wM_leave_35, wM_leave_38, wM_leave_39, wM_leave_40, wM_leave_41, wM_leave_44, wM_leave_47, wM_leave_48, wM_leave_49, wM_leave_50, wM_leave_53, wM_leave_56, wM_leave_58, wM_leave_59, wM_leave_60, wM_leave_61, wM_leave_64, wM_leave_65, wM_leave_66, wM_leave_69, wM_leave_70, wM_leave_73, wM_leave_75, wM_leave_76, wM_leave_79, wM_leave_81, wM_leave_82, wM_leave_83, wM_leave_84, wM_leave_85, wM_leave_88, wM_leave_91, wM_leave_92, wM_leave_95, wM_leave_97, wM_leave_100, wM_leave_102, wM_leave_103, wM_leave_104, wM_leave_105, wM_leave_106, wM_leave_107, wM_leave_110, wM_leave_113, wM_leave_115, wM_leave_116, wM_leave_117, wM_leave_118, wM_leave_119, wM_leave_120, wM_leave_123, wM_leave_125, wM_leave_128, wM_leave_129, true_or, or_true, Option.toList_some, Option.toList_none, List.cons_append, List.nil_append]
                    exact sp_gt hK (by simp [sp_leave, hv, c1, hl, c2, hg, ew, c3, c4, sp_cuf, c5]) h2 (fx_cm f0 f2))
                  simpa [wM_leave_0, wM_leave_1, wM_leave_2, wM_leave_5, wM_leave_6, wM_leave_7, wM_leave_10, wM_leave_13, wM_leave_14, wM_leave_15, wM_leave_16, wM_leave_17, wM_leave_18, wM_leave_21, wM_leave_24, wM_leave_25, wM_leave_26, wM_leave_29, wM_leave_32, wM_leave_33, wM_leave_34, wM_leave_35, wM_leave_38, wM_leave_39, wM_leave_40, wM_leave_41, wM_leave_44, wM_leave_47, wM_leave_48, wM_leave_49, wM_leave_50, wM_leave_53, wM_leave_56, wM_leave_58, wM_leave_59, wM_leave_60, wM_leave_61, wM_leave_64, wM_leave_65, wM_leave_66, wM_leave_69, wM_leave_70, wM_leave_73, wM_leave_75, wM_leave_76, wM_leave_79, wM_leave_81, wM_leave_82, wM_leave_83, wM_leave_84, wM_leave_85, wM_leave_88, wM_leave_91, wM_leave_92, wM_leave_95, wM_leave_97, wM_leave_100, wM_leave_102, wM_leave_103, wM_leave_104, wM_leave_105, wM_leave_106, wM_leave_107, wM_leave_110, wM_leave_113, wM_leave_115, wM_leave_116, wM_leave_117, wM_leave_118, wM_leave_119, wM_leave_120, wM_leave_123, wM_leave_125, wM_leave_128, wM_leave_129] using key
            · have c3' : (1 : Int32) < ts_wy s l := by
                rcases wy_cases hs hg with q | q | q | q | q
                · exact absurd (Or.inl q) c3
                · exact absurd (Or.inr q) c3
                · rw [q]; decide
                · rw [q]; decide
                · rw [q]; decide
              rw [if_pos c3']
              exact sp_gt hK (by simp [sp_leave, hv, c1, hl, c2, hg, ew, c3]) h' f0
        simp only [mM_ovS h' hs hl, wM_leave_0, wM_leave_1, wM_leave_2, wM_leave_5, wM_leave_6, wM_leave_7, wM_leave_10, wM_leave_13, wM_leave_14, wM_leave_15, wM_leave_16, wM_leave_17, wM_leave_18, wM_leave_21, wM_leave_24, wM_leave_25, wM_leave_26, wM_leave_29, wM_leave_32, wM_leave_33, wM_leave_34, wM_leave_35, wM_leave_38, wM_leave_39, wM_leave_40, wM_leave_41, wM_leave_44, wM_leave_47, wM_leave_48, wM_leave_49, wM_leave_50, wM_leave_53, wM_leave_56, wM_leave_58, wM_leave_60, wM_leave_61, wM_leave_64, wM_leave_65, wM_leave_66, wM_leave_69, wM_leave_70, wM_leave_73, wM_leave_75, wM_leave_76, wM_leave_79, wM_leave_81, wM_leave_82, wM_leave_83, wM_leave_84, wM_leave_85, wM_leave_88, wM_leave_91, wM_leave_92, wM_leave_95, wM_leave_97, wM_leave_100, wM_leave_102, wM_leave_103, wM_leave_104, wM_leave_105, wM_leave_106, wM_leave_107, wM_leave_110, wM_leave_113, wM_leave_115, wM_leave_116, wM_leave_117, wM_leave_118, wM_leave_119, wM_leave_120, wM_leave_123, wM_leave_125, wM_leave_128, wM_leave_129, true_or, or_true, Option.toList_some, Option.toList_none, List.cons_append, List.nil_append, nl, if_false, mM_of2 h' hs hll, mM_of5 h' hs hll, am_b0]
        by_cases g2 : ts_kd s l = 2
        · simpa [c1, g2] using fin (by rw [en]; simp [g2])
        · by_cases g5 : ts_kd s l = 5
          · simpa [c1, g5] using fin (by rw [en]; simp [g5])
          · simpa [c1, g2, g5] using sp_gt hK (c := -3) (s' := s) (by simp [sp_leave, hv, hl, en, g2, g5]) h' f0
    · simpa [c1, wM_leave_0, wM_leave_1, wM_leave_2, wM_leave_5, wM_leave_6, wM_leave_7, wM_leave_10, wM_leave_13, wM_leave_14, wM_leave_15, wM_leave_16, wM_leave_17, wM_leave_18, wM_leave_21, wM_leave_24, wM_leave_25, wM_leave_26, wM_leave_29, wM_leave_32, wM_leave_33, wM_leave_34, wM_leave_35, wM_leave_38, wM_leave_39, wM_leave_40, wM_leave_41, wM_leave_44, wM_leave_47, wM_leave_48, wM_leave_49, wM_leave_50, wM_leave_53, wM_leave_56, wM_leave_58, wM_leave_59, wM_leave_60, wM_leave_61, wM_leave_64, wM_leave_65, wM_leave_66, wM_leave_69, wM_leave_70, wM_leave_73, wM_leave_75, wM_leave_76, wM_leave_79, wM_leave_81, wM_leave_82, wM_leave_83, wM_leave_84, wM_leave_85, wM_leave_88, wM_leave_91, wM_leave_92, wM_leave_95, wM_leave_97, wM_leave_100, wM_leave_102, wM_leave_103, wM_leave_104, wM_leave_105, wM_leave_106, wM_leave_107, wM_leave_110, wM_leave_113, wM_leave_115, wM_leave_116, wM_leave_117, wM_leave_118, wM_leave_119, wM_leave_120, wM_leave_123, wM_leave_125, wM_leave_128, wM_leave_129] using sp_gt hK (c := -3) (s' := s) (by simp [sp_leave, hv, c1]) h' f0
theorem mM_go (h : mp N s M) (hs : ts_ok s) (ht : ts_t s < 2 ^ 30) (v w : Int32) (hK : ∀ M', mp N (sp_go s v w).2 M' → fx_f (mxR N) M M' → K (some (.inl (sp_go s v w).1)) M') : am_wp yM_go 0 [.inr (.inl (4, some N)), .inl v, .inl w, am_u, am_u, am_u] [] M K := by
  have h' := mp_th h
  have f0 : fx_f (mxR N) M (am_si M N 0 0) := fx_th0
  cases hv : ts_id s v with
  | none => simpa [wM_go_0, wM_go_1, wM_go_2, wM_go_5, wM_go_6, wM_go_7, wM_go_10, wM_go_13, wM_go_14, wM_go_15, wM_go_18, wM_go_21, wM_go_22, wM_go_23, wM_go_24, wM_go_25, wM_go_26, wM_go_29, wM_go_32, wM_go_33, wM_go_34, wM_go_35, wM_go_38, wM_go_41, wM_go_43, wM_go_44, wM_go_45, wM_go_46, wM_go_49, wM_go_50, wM_go_51, wM_go_54, wM_go_55, wM_go_56, wM_go_57, wM_go_60, wM_go_63, wM_go_64, wM_go_67, wM_go_68, wM_go_70, wM_go_71, wM_go_73, wM_go_76, wM_go_78, wM_go_80, wM_go_83, wM_go_84, wM_go_86, wM_go_87, wM_go_90, wM_go_93, wM_go_95, wM_go_96, wM_go_98, wM_go_99, wM_go_102, wM_go_103, wM_go_104, wM_go_105, wM_go_106, wM_go_109, wM_go_112, wM_go_114, wM_go_115, wM_go_116, wM_go_118, wM_go_119, wM_go_120, wM_go_123, wM_go_124, mM_is h' hs, hv, am_b] using sp_gt hK (c := -1) (s' := s) (by simp [sp_go, hv]) h' f0
  | some p =>
    obtain ⟨rfl, hlp, p20⟩ := ts_id_some hv
    cases hw : ts_id s w with
    | none => simpa [wM_go_0, wM_go_1, wM_go_2, wM_go_5, wM_go_6, wM_go_7, wM_go_10, wM_go_13, wM_go_14, wM_go_15, wM_go_18, wM_go_21, wM_go_22, wM_go_23, wM_go_24, wM_go_25, wM_go_26, wM_go_29, wM_go_32, wM_go_33, wM_go_34, wM_go_35, wM_go_38, wM_go_41, wM_go_43, wM_go_44, wM_go_45, wM_go_46, wM_go_49, wM_go_50, wM_go_51, wM_go_54, wM_go_55, wM_go_56, wM_go_57, wM_go_60, wM_go_63, wM_go_64, wM_go_67, wM_go_68, wM_go_70, wM_go_71, wM_go_73, wM_go_76, wM_go_78, wM_go_80, wM_go_83, wM_go_84, wM_go_86, wM_go_87, wM_go_90, wM_go_93, wM_go_95, wM_go_96, wM_go_98, wM_go_99, wM_go_102, wM_go_103, wM_go_104, wM_go_105, wM_go_106, wM_go_109, wM_go_112, wM_go_114, wM_go_115, wM_go_116, wM_go_118, wM_go_119, wM_go_120, wM_go_123, wM_go_124, mM_is h' hs, hv, hw, am_b] using sp_gt hK (c := -1) (s' := s) (by simp [sp_go, hv, hw]) h' f0
    | some r =>
      obtain ⟨rfl, hlr, r20⟩ := ts_id_some hw
      have no : ¬ (ts_kd s p = 4 ∧ ts_kd s r = 0) → K (some (.inl (-3))) (am_si M N 0 0) := by
        intro q
        cases hf : ts_pa s (tq_go s p) with
        | none => exact sp_gt hK (by simp [sp_go, hv, hw, hf]) h' f0
        | some f =>
          have q' : ¬ (ts_kd s p = 4 ∧ ts_kd s r = 0 ∧ ts_kd s f = 0) := fun z => q ⟨z.1, z.2.1⟩
          exact sp_gt hK (by simp only [sp_go, hv, hw, hf, if_neg q']) h' f0
      simp only [wM_go_0, wM_go_1, wM_go_2, wM_go_5, wM_go_6, wM_go_7, wM_go_10, wM_go_13, wM_go_14, wM_go_15, wM_go_18, wM_go_21, wM_go_22, wM_go_23, wM_go_24, wM_go_25, wM_go_26, wM_go_29, wM_go_32, wM_go_33, wM_go_34, wM_go_35, wM_go_38, wM_go_41, wM_go_43, wM_go_44, wM_go_45, wM_go_46, wM_go_49, wM_go_50, wM_go_51, wM_go_54, wM_go_55, wM_go_56, wM_go_57, wM_go_60, wM_go_63, wM_go_64, wM_go_67, wM_go_68, wM_go_71, wM_go_73, wM_go_76, wM_go_78, wM_go_80, wM_go_83, wM_go_84, wM_go_86, wM_go_87, wM_go_90, wM_go_93, wM_go_95, wM_go_96, wM_go_98, wM_go_99, wM_go_102, wM_go_103, wM_go_104, wM_go_105, wM_go_106, wM_go_109, wM_go_112, wM_go_114, wM_go_115, wM_go_116, wM_go_118, wM_go_119, wM_go_120, wM_go_123, wM_go_124, mM_is h' hs, hv, hw, Option.isSome_some, true_or, or_true, Option.toList_some, Option.toList_none, List.cons_append, List.nil_append, am_b0, reduceCtorEq, if_false, mM_of4 h' hs hlp, mM_of0 h' hs hlr]
      by_cases c1 : ts_kd s p = 4
      · by_cases c2 : ts_kd s r = 0
        · have fin : ∀ (g : Nat) (l3 : am_V), ts_lv s g → tq_go s p = g → am_wp yM_go 70 [.inr (.inl (4, some N)), .inl (nI p), .inl (nI r), l3, .inl (nI g), am_u] [] (am_si M N 0 0) K := by
            intro g l3 hlg hgo
            cases hf : ts_pa s g with
            | none => simpa [wM_go_0, wM_go_1, wM_go_2, wM_go_5, wM_go_6, wM_go_7, wM_go_10, wM_go_13, wM_go_14, wM_go_15, wM_go_18, wM_go_21, wM_go_22, wM_go_23, wM_go_24, wM_go_25, wM_go_26, wM_go_29, wM_go_32, wM_go_33, wM_go_34, wM_go_35, wM_go_38, wM_go_41, wM_go_43, wM_go_44, wM_go_45, wM_go_46, wM_go_49, wM_go_50, wM_go_51, wM_go_54, wM_go_55, wM_go_56, wM_go_57, wM_go_60, wM_go_63, wM_go_64, wM_go_67, wM_go_68, wM_go_70, wM_go_71, wM_go_73, wM_go_76, wM_go_78, wM_go_80, wM_go_83, wM_go_84, wM_go_86, wM_go_87, wM_go_90, wM_go_93, wM_go_95, wM_go_96, wM_go_98, wM_go_99, wM_go_102, wM_go_103, wM_go_104, wM_go_105, wM_go_106, wM_go_109, wM_go_112, wM_go_114, wM_go_115, wM_go_116, wM_go_118, wM_go_119, wM_go_120, wM_go_123, wM_go_124, mM_ovN h' hs hlg hf] using sp_gt hK (c := -3) (s' := s) (by simp [sp_go, hv, hw, hgo, hf]) h' f0
            | some f =>
              have hlf : ts_lv s f := ts_pa_lv hf
              have f20 := ts_20 hs hlf
              have nf : ¬ nI f < 0 := nI_pos (by omega)
              have ef : (nI f = nI r) = (f = r) := propext (nI_eq (by omega) (by omega))
              simp only [wM_go_0, wM_go_1, wM_go_2, wM_go_5, wM_go_6, wM_go_7, wM_go_10, wM_go_13, wM_go_14, wM_go_15, wM_go_18, wM_go_21, wM_go_22, wM_go_23, wM_go_24, wM_go_25, wM_go_26, wM_go_29, wM_go_32, wM_go_33, wM_go_34, wM_go_35, wM_go_38, wM_go_41, wM_go_43, wM_go_44, wM_go_45, wM_go_46, wM_go_49, wM_go_50, wM_go_51, wM_go_54, wM_go_55, wM_go_56, wM_go_57, wM_go_60, wM_go_63, wM_go_64, wM_go_67, wM_go_68, wM_go_70, wM_go_71, wM_go_73, wM_go_76, wM_go_78, wM_go_80, wM_go_83, wM_go_84, wM_go_86, wM_go_87, wM_go_90, wM_go_93, wM_go_95, wM_go_96, wM_go_98, wM_go_99, wM_go_102, wM_go_103, wM_go_104, wM_go_105, wM_go_106, wM_go_109, wM_go_112, wM_go_114, wM_go_115, wM_go_116, wM_go_118, wM_go_119, wM_go_120, wM_go_123, wM_go_124, mM_ovS h' hs hf, true_or, or_true, Option.toList_some, Option.toList_none, List.cons_append, List.nil_append, nf, if_false, mM_of0 h' hs hlf, mM_isFull h' hs hlr, am_b0, ef]
              by_cases c3 : ts_kd s f = 0
              · by_cases c4 : f = r
                · simpa [c3, c4, c2] using sp_gt hK (c := 0) (s' := s) (by simp [sp_go, hv, hw, hgo, hf, c1, c2, c3, c4]) h' f0
                · have hnot : r ∉ fo_w (ts_L s) g := fun z => by
                    by_cases e : g = r
                    · subst e
                      exact (hs.2.2.2.2 g f hf).1 c2
                    · obtain ⟨y, hy, -⟩ := fo_w_up hs.1 z e
                      exact (hs.2.2.2.2 r y hy).1 c2
                  cases c5 : tq_fu s r with
                  | true => simpa [c3, c4] using sp_gt hK (c := -5) (s' := s) (by simp [sp_go, hv, hw, hgo, hf, c1, c2, c3, c4, sp_cuf, c5]) h' f0
                  | false =>
                    have key := mM_come (K := fun z M1 => am_wp yM_go 123 [.inr (.inl (4, some N)), .inl (nI p), .inl (nI r), l3, .inl (nI g), .inl (nI f)] (z.toList ++ []) M1 K) h' hs hlg ht hlr hnot (w := 0) (by decide) (fun M2 h2 f2 => by
                      simp only [wM_go_0, wM_go_1, wM_go_2, wM_go_5, wM_go_6, wM_go_7, wM_go_10, wM_go_13, wM_go_14, wM_go_15, wM_go_18, wM_go_21, wM_go_22, wM_go_23, wM_go_24, wM_go_25, wM_go_26, wM_go_29, wM_go_32, wM_go_33, wM_go_34, wM_go_35, wM_go_38, wM_go_41, wM_go_43, wM_go_44, wM_go_45, wM_go_46, wM_go_49, wM_go_50, wM_go_51, wM_go_54, wM_go_55, wM_go_56, wM_go_57, wM_go_60, wM_go_63, wM_go_64, wM_go_67, wM_go_68, wM_go_70, wM_go_71, wM_go_73, wM_go_76, wM_go_78, wM_go_80, wM_go_83, wM_go_84, wM_go_86, wM_go_87, wM_go_90, wM_go_93, wM_go_95, wM_go_96, wM_go_98, wM_go_99, wM_go_102, wM_go_103, wM_go_104, wM_go_105, wM_go_106, wM_go_109, wM_go_112, wM_go_114, wM_go_115, wM_go_116, wM_go_118, wM_go_119, wM_go_120, wM_go_123, wM_go_124, true_or, or_true, Option.toList_some, Option.toList_none, List.cons_append, List.nil_append]
                      exact sp_gt hK (by simp [sp_go, hv, hw, hgo, hf, c1, c2, c3, c4, sp_cuf, c5]) h2 (fx_cm f0 f2))
                    simpa [c3, c4, wM_go_0, wM_go_1, wM_go_2, wM_go_5, wM_go_6, wM_go_7, wM_go_10, wM_go_13, wM_go_14, wM_go_15, wM_go_18, wM_go_21, wM_go_22, wM_go_23, wM_go_24, wM_go_25, wM_go_26, wM_go_29, wM_go_32, wM_go_33, wM_go_34, wM_go_35, wM_go_38, wM_go_41, wM_go_43, wM_go_44, wM_go_45, wM_go_46, wM_go_49, wM_go_50, wM_go_51, wM_go_54, wM_go_55, wM_go_56, wM_go_57, wM_go_60, wM_go_63, wM_go_64, wM_go_67, wM_go_68, wM_go_70, wM_go_71, wM_go_73, wM_go_76, wM_go_78, wM_go_80, wM_go_83, wM_go_84, wM_go_86, wM_go_87, wM_go_90, wM_go_93, wM_go_95, wM_go_96, wM_go_98, wM_go_99, wM_go_102, wM_go_103, wM_go_104, wM_go_105, wM_go_106, wM_go_109, wM_go_112, wM_go_114, wM_go_115, wM_go_116, wM_go_118, wM_go_119, wM_go_120, wM_go_123, wM_go_124] using key
              · simpa [c3] using sp_gt hK (c := -3) (s' := s) (by simp [sp_go, hv, hw, hgo, hf, c3]) h' f0
          cases hg : ts_pa s p with
          | none =>
            have := fin p (.inl (-1)) hlp (by unfold tq_go; rw [hg])
            simpa [c1, c2, mM_ovN h' hs hlp hg, wM_go_0, wM_go_1, wM_go_2, wM_go_5, wM_go_6, wM_go_7, wM_go_10, wM_go_13, wM_go_14, wM_go_15, wM_go_18, wM_go_21, wM_go_22, wM_go_23, wM_go_24, wM_go_25, wM_go_26, wM_go_29, wM_go_32, wM_go_33, wM_go_34, wM_go_35, wM_go_38, wM_go_41, wM_go_43, wM_go_44, wM_go_45, wM_go_46, wM_go_49, wM_go_50, wM_go_51, wM_go_54, wM_go_55, wM_go_56, wM_go_57, wM_go_60, wM_go_63, wM_go_64, wM_go_67, wM_go_68, wM_go_71, wM_go_73, wM_go_76, wM_go_78, wM_go_80, wM_go_83, wM_go_84, wM_go_86, wM_go_87, wM_go_90, wM_go_93, wM_go_95, wM_go_96, wM_go_98, wM_go_99, wM_go_102, wM_go_103, wM_go_104, wM_go_105, wM_go_106, wM_go_109, wM_go_112, wM_go_114, wM_go_115, wM_go_116, wM_go_118, wM_go_119, wM_go_120, wM_go_123, wM_go_124] using this
          | some g =>
            have hlg : ts_lv s g := ts_pa_lv hg
            have g20 := ts_20 hs hlg
            have ng : ¬ nI g < 0 := nI_pos (by omega)
            simp only [mM_ovS h' hs hg, wM_go_0, wM_go_1, wM_go_2, wM_go_5, wM_go_6, wM_go_7, wM_go_10, wM_go_13, wM_go_14, wM_go_15, wM_go_18, wM_go_21, wM_go_22, wM_go_23, wM_go_24, wM_go_25, wM_go_26, wM_go_29, wM_go_32, wM_go_33, wM_go_34, wM_go_35, wM_go_38, wM_go_41, wM_go_43, wM_go_44, wM_go_45, wM_go_46, wM_go_49, wM_go_50, wM_go_51, wM_go_54, wM_go_55, wM_go_56, wM_go_57, wM_go_60, wM_go_63, wM_go_64, wM_go_67, wM_go_68, wM_go_71, wM_go_73, wM_go_76, wM_go_78, wM_go_80, wM_go_83, wM_go_84, wM_go_86, wM_go_87, wM_go_90, wM_go_93, wM_go_95, wM_go_96, wM_go_98, wM_go_99, wM_go_102, wM_go_103, wM_go_104, wM_go_105, wM_go_106, wM_go_109, wM_go_112, wM_go_114, wM_go_115, wM_go_116, wM_go_118, wM_go_119, wM_go_120, wM_go_123, wM_go_124, true_or, or_true, Option.toList_some, Option.toList_none, List.cons_append, List.nil_append, ng, if_false, mM_of5 h' hs hlg, am_b0]
            by_cases c5 : ts_kd s g = 5
            · have := fin g (.inl (nI g)) hlg (by unfold tq_go; rw [hg]; simp [c5])
              simpa [c1, c2, c5] using this
            · have := fin p (.inl (nI g)) hlp (by unfold tq_go; rw [hg]; simp [c5])
              simpa [c1, c2, c5] using this
        · simpa [c1, c2] using no (fun q => c2 q.2)
      · simpa [c1] using no (fun q => c1 q.1)
end MZ
