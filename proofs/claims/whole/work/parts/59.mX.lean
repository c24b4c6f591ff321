-- THE REFERENCE: move, part, take, wear
section MX
variable {N : Nat} {s : ts_S} {M M' : am_M} {K : Option am_V → am_M → Prop} {n : Nat}
theorem sp_gt {sp : Int32 × ts_S} (hK : ∀ M', mp N sp.2 M' → fx_f (mxR N) M M' → K (some (.inl sp.1)) M') {c : Int32} {s' : ts_S} (e : sp = (c, s')) {M1 : am_M} (h1 : mp N s' M1) (f1 : fx_f (mxR N) M M1) : K (some (.inl c)) M1 := by
  subst e
  exact hK M1 h1 f1
theorem fx_cm {M0 M1 M2 : am_M} {n : Nat} (f0 : fx_f (mxR N) M0 M1) (f1 : me (mu_P N n) M1 M2) : fx_f (mxR N) M0 M2 := fx_f_tr f0 (mu_fx f1)
theorem nI_m1 {k : Nat} (h : k < 20) : (nI k = -1) = False := eq_false (fun z => nI_pos (show k < 2 ^ 31 by omega) (by rw [z]; decide))
theorem mM_mvto (h : mp N s M) (hs : ts_ok s) (ht : ts_t s < 2 ^ 30) (hn : ts_lv s n) {p : Nat} (hp : ts_lv s p) {k : Nat} (hk : k < 4) (hK : ∀ M', mp N (sp_mvto s n p k).2 M' → fx_f (mxR N) M M' → K (some (.inl (sp_mvto s n p k).1)) M') : am_wp yM_move 94 [.inr (.inl (4, some N)), .inl (nI n), .inl (nI p), .inl (nI k)] [] M K := by
  have h20 := ts_20 hs hn
  have p20 := ts_20 hs hp
  have f0 : fx_f (mxR N) M M := fx_f_rf M
  unfold sp_mvto at hK
  simp only [wM_move_0, wM_move_1, wM_move_2, wM_move_5, wM_move_6, wM_move_7, wM_move_10, wM_move_13, wM_move_14, wM_move_15, wM_move_18, wM_move_19, wM_move_20, wM_move_23, wM_move_26, wM_move_27, wM_move_28, wM_move_29, wM_move_32, wM_move_33, wM_move_34, wM_move_37, wM_move_39, wM_move_40, wM_move_41, wM_move_42, wM_move_43, wM_move_46, wM_move_49, wM_move_50, wM_move_51, wM_move_53, wM_move_56, wM_move_59, wM_move_60, wM_move_61, wM_move_64, wM_move_67, wM_move_69, wM_move_70, wM_move_71, wM_move_72, wM_move_75, wM_move_76, wM_move_77, wM_move_80, wM_move_83, wM_move_84, wM_move_85, wM_move_86, wM_move_87, wM_move_88, wM_move_89, wM_move_92, wM_move_93, wM_move_94, wM_move_95, wM_move_96, wM_move_97, wM_move_100, wM_move_103, wM_move_104, wM_move_105, wM_move_108, wM_move_109, wM_move_110, wM_move_111, wM_move_114, wM_move_117, wM_move_118, wM_move_119, wM_move_120, wM_move_123, wM_move_126, wM_move_127, wM_move_128, wM_move_131, wM_move_132, wM_move_133, wM_move_134, wM_move_137, wM_move_140, wM_move_142, wM_move_144, wM_move_145, wM_move_146, wM_move_147, wM_move_150, wM_move_153, wM_move_154, wM_move_155, wM_move_156, wM_move_157, wM_move_158, wM_move_161, wM_move_164, wM_move_166, wM_move_167, wM_move_168, wM_move_169, wM_move_172, wM_move_173, wM_move_174, wM_move_177, wM_move_180, wM_move_182, wM_move_183, wM_move_184, wM_move_185, wM_move_186, wM_move_187, wM_move_190, wM_move_191, mM_holds h hs hp k hk, true_or, or_true, Option.toList_some, Option.toList_none, List.cons_append, List.nil_append, am_b0, nk2 (show k < 1000 by omega), nk3 (show k < 1000 by omega), mM_of1 h hs hn, mM_of4 h hs hn, mM_of5 h hs hn]
  cases c1 : tq_hb s p k with
  | false =>
    simp only [c1, if_true] at hK ⊢
    exact hK M h f0
  | true =>
    have fin : tq_ch s n (nI k) = true → am_wp yM_move 143 [.inr (.inl (4, some N)), .inl (nI n), .inl (nI p), .inl (nI k)] [] M K := by
      intro c2
      simp only [wM_move_0, wM_move_1, wM_move_2, wM_move_5, wM_move_6, wM_move_7, wM_move_10, wM_move_13, wM_move_14, wM_move_15, wM_move_18, wM_move_19, wM_move_20, wM_move_23, wM_move_26, wM_move_27, wM_move_28, wM_move_29, wM_move_32, wM_move_33, wM_move_34, wM_move_37, wM_move_39, wM_move_40, wM_move_41, wM_move_42, wM_move_43, wM_move_46, wM_move_49, wM_move_50, wM_move_51, wM_move_53, wM_move_56, wM_move_59, wM_move_60, wM_move_61, wM_move_64, wM_move_67, wM_move_69, wM_move_70, wM_move_71, wM_move_72, wM_move_75, wM_move_76, wM_move_77, wM_move_80, wM_move_83, wM_move_84, wM_move_85, wM_move_86, wM_move_87, wM_move_88, wM_move_89, wM_move_92, wM_move_93, wM_move_94, wM_move_95, wM_move_96, wM_move_97, wM_move_100, wM_move_103, wM_move_104, wM_move_105, wM_move_108, wM_move_109, wM_move_110, wM_move_111, wM_move_114, wM_move_117, wM_move_118, wM_move_119, wM_move_120, wM_move_123, wM_move_126, wM_move_127, wM_move_128, wM_move_131, wM_move_132, wM_move_133, wM_move_134, wM_move_137, wM_move_140, wM_move_142, wM_move_143, wM_move_144, wM_move_145, wM_move_146, wM_move_147, wM_move_150, wM_move_153, wM_move_154, wM_move_155, wM_move_156, wM_move_157, wM_move_158, wM_move_161, wM_move_164, wM_move_166, wM_move_167, wM_move_168, wM_move_169, wM_move_172, wM_move_173, wM_move_174, wM_move_177, wM_move_180, wM_move_182, wM_move_183, wM_move_184, wM_move_185, wM_move_186, wM_move_187, wM_move_190, wM_move_191, mM_isHeld h hs hn p20 (nI k), mM_hs h hs hn hp, mM_isFull h hs hp, true_or, or_true, Option.toList_some, Option.toList_none, List.cons_append, List.nil_append, am_b0, nk3 (show k < 1000 by omega)]
      simp only [c1, c2, reduceCtorEq, if_false] at hK
      cases c3 : tq_hl s n p (nI k) with
      | true =>
        simp only [c3, reduceCtorEq, if_true, if_false] at hK ⊢
        exact hK M h f0
      | false =>
        cases c4 : tq_in s p n with
        | true =>
          simp only [c3, c4, reduceCtorEq, if_true, if_false] at hK ⊢
          exact hK M h f0
        | false =>
          by_cases c5 : k = 3
          · simp only [c3, c4, reduceCtorEq, if_false, if_pos c5] at hK ⊢
            refine mM_come h hs hn ht hp (tq_in_f c4) (nI_pos (by omega)) (fun M1 h1 f1 => ?_)
            simp only [wM_move_0, wM_move_1, wM_move_2, wM_move_5, wM_move_6, wM_move_7, wM_move_10, wM_move_13, wM_move_14, wM_move_15, wM_move_18, wM_move_19, wM_move_20, wM_move_23, wM_move_26, wM_move_27, wM_move_28, wM_move_29, wM_move_32, wM_move_33, wM_move_34, wM_move_37, wM_move_39, wM_move_40, wM_move_41, wM_move_42, wM_move_43, wM_move_46, wM_move_49, wM_move_50, wM_move_51, wM_move_53, wM_move_56, wM_move_59, wM_move_60, wM_move_61, wM_move_64, wM_move_67, wM_move_69, wM_move_70, wM_move_71, wM_move_72, wM_move_75, wM_move_76, wM_move_77, wM_move_80, wM_move_83, wM_move_84, wM_move_85, wM_move_86, wM_move_87, wM_move_88, wM_move_89, wM_move_92, wM_move_93, wM_move_94, wM_move_95, wM_move_96, wM_move_97, wM_move_100, wM_move_103, wM_move_104, wM_move_105, wM_move_108, wM_move_109, wM_move_110, wM_move_111, wM_move_114, wM_move_117, wM_move_118, wM_move_119, wM_move_120, wM_move_123, wM_move_126, wM_move_127, wM_move_128, wM_move_131, wM_move_132, wM_move_133, wM_move_134, wM_move_137, wM_move_140, wM_move_142, wM_move_143, wM_move_144, wM_move_145, wM_move_146, wM_move_147, wM_move_150, wM_move_153, wM_move_154, wM_move_155, wM_move_156, wM_move_157, wM_move_158, wM_move_161, wM_move_164, wM_move_166, wM_move_167, wM_move_168, wM_move_169, wM_move_172, wM_move_173, wM_move_174, wM_move_177, wM_move_180, wM_move_182, wM_move_183, wM_move_184, wM_move_185, wM_move_186, wM_move_187, wM_move_190, wM_move_191, true_or, or_true, Option.toList_some, Option.toList_none, List.cons_append, List.nil_append]
            exact hK M1 h1 (mu_fx f1)
          · simp only [c3, c4, reduceCtorEq, if_false, if_neg c5, sp_cuf] at hK ⊢
            cases c6 : tq_fu s p with
            | true =>
              simp only [c6, reduceCtorEq, if_true, if_false] at hK ⊢
              exact hK M h f0
            | false =>
              simp only [c6, reduceCtorEq, if_true, if_false] at hK ⊢
              refine mM_come h hs hn ht hp (tq_in_f c4) (nI_pos (by omega)) (fun M1 h1 f1 => ?_)
              simp only [wM_move_0, wM_move_1, wM_move_2, wM_move_5, wM_move_6, wM_move_7, wM_move_10, wM_move_13, wM_move_14, wM_move_15, wM_move_18, wM_move_19, wM_move_20, wM_move_23, wM_move_26, wM_move_27, wM_move_28, wM_move_29, wM_move_32, wM_move_33, wM_move_34, wM_move_37, wM_move_39, wM_move_40, wM_move_41, wM_move_42, wM_move_43, wM_move_46, wM_move_49, wM_move_50, wM_move_51, wM_move_53, wM_move_56, wM_move_59, wM_move_60, wM_move_61, wM_move_64, wM_move_67, wM_move_69, wM_move_70, wM_move_71, wM_move_72, wM_move_75, wM_move_76, wM_move_77, wM_move_80, wM_move_83, wM_move_84, wM_move_85, wM_move_86, wM_move_87, wM_move_88, wM_move_89, wM_move_92, wM_move_93, wM_move_94, wM_move_95, wM_move_96, wM_move_97, wM_move_100, wM_move_103, wM_move_104, wM_move_105, wM_move_108, wM_move_109, wM_move_110, wM_move_111, wM_move_114, wM_move_117, wM_move_118, wM_move_119, wM_move_120, wM_move_123, wM_move_126, wM_move_127, wM_move_128, wM_move_131, wM_move_132, wM_move_133, wM_move_134, wM_move_137, wM_move_140, wM_move_142, wM_move_143, wM_move_144, wM_move_145, wM_move_146, wM_move_147, wM_move_150, wM_move_153, wM_move_154, wM_move_155, wM_move_156, wM_move_157, wM_move_158, wM_move_161, wM_move_164, wM_move_166, wM_move_167, wM_move_168, wM_move_169, wM_move_172, wM_move_173, wM_move_174, wM_move_177, wM_move_180, wM_move_182, wM_move_183, wM_move_184, wM_move_185, wM_move_186, wM_move_187, wM_move_190, wM_move_191, true_or, or_true, Option.toList_some, Option.toList_none, List.cons_append, List.nil_append]
              exact hK M1 h1 (mu_fx f1)
    by_cases d2 : k = 2
    · have d3 : ¬ k = 3 := by omega
      have e : tq_ch s n (nI k) = (!(ts_kd s n == 4) && !(ts_kd s n == 5)) := by unfold tq_ch; rw [if_pos (by rw [d2]; rfl)]
      by_cases g4 : ts_kd s n = 4
      · simp only [c1, e, g4, beq_self_eq_true, Bool.not_true, Bool.false_and, reduceCtorEq, if_true, if_false] at hK
        simpa [d2, g4] using hK M h f0
      · by_cases g5 : ts_kd s n = 5
        · simp only [c1, e, g5, beq_self_eq_true, Bool.not_true, Bool.and_false, reduceCtorEq, if_true, if_false] at hK
          simpa [d2, g5] using hK M h f0
        · have := fin (by rw [e]; simp [g4, g5])
          simpa [d2, g4, g5] using this
    · by_cases d3 : k = 3
      · have e : tq_ch s n (nI k) = (ts_kd s n == 1) := by unfold tq_ch; rw [if_neg (by rw [d3]; decide), if_pos (by rw [d3]; rfl)]
        by_cases g1 : ts_kd s n = 1
        · have := fin (by rw [e]; simp [g1])
          simpa [d3, g1] using this
        · have e' : tq_ch s n (nI k) = false := by rw [e]; simp [g1]
          simp only [c1, e', reduceCtorEq, if_true, if_false] at hK
          simpa [d3, g1] using hK M h f0
      · have e : tq_ch s n (nI k) = true := by unfold tq_ch; rw [if_neg (by rw [nk2 (by omega)]; exact d2), if_neg (by rw [nk3 (by omega)]; exact d3)]
        simpa [d2, d3] using fin e
theorem mM_move (h : mp N s M) (hs : ts_ok s) (ht : ts_t s < 2 ^ 30) (v w y : Int32) (hK : ∀ M', mp N (sp_move s v w y).2 M' → fx_f (mxR N) M M' → K (some (.inl (sp_move s v w y).1)) M') : am_wp yM_move 0 [.inr (.inl (4, some N)), .inl v, .inl w, .inl y] [] M K := by
  have h' := mp_th h
  have f0 : fx_f (mxR N) M (am_si M N 0 0) := fx_th0
  unfold sp_move at hK
  cases hv : ts_id s v with
  | none =>
    rw [hv] at hK
    simpa [wM_move_0, wM_move_1, wM_move_2, wM_move_5, wM_move_6, wM_move_7, wM_move_10, wM_move_13, wM_move_14, wM_move_15, wM_move_18, wM_move_19, wM_move_20, wM_move_23, wM_move_26, wM_move_27, wM_move_28, wM_move_29, wM_move_32, wM_move_33, wM_move_34, wM_move_37, wM_move_39, wM_move_40, wM_move_41, wM_move_42, wM_move_43, wM_move_46, wM_move_49, wM_move_50, wM_move_51, wM_move_53, wM_move_56, wM_move_59, wM_move_60, wM_move_61, wM_move_64, wM_move_67, wM_move_69, wM_move_70, wM_move_71, wM_move_72, wM_move_75, wM_move_76, wM_move_77, wM_move_80, wM_move_83, wM_move_84, wM_move_85, wM_move_86, wM_move_87, wM_move_88, wM_move_89, wM_move_92, wM_move_93, wM_move_94, wM_move_95, wM_move_96, wM_move_97, wM_move_100, wM_move_103, wM_move_104, wM_move_105, wM_move_108, wM_move_109, wM_move_110, wM_move_111, wM_move_114, wM_move_117, wM_move_118, wM_move_119, wM_move_120, wM_move_123, wM_move_126, wM_move_127, wM_move_128, wM_move_131, wM_move_132, wM_move_133, wM_move_134, wM_move_137, wM_move_140, wM_move_142, wM_move_143, wM_move_144, wM_move_145, wM_move_146, wM_move_147, wM_move_150, wM_move_153, wM_move_154, wM_move_155, wM_move_156, wM_move_157, wM_move_158, wM_move_161, wM_move_164, wM_move_166, wM_move_167, wM_move_168, wM_move_169, wM_move_172, wM_move_173, wM_move_174, wM_move_177, wM_move_180, wM_move_182, wM_move_183, wM_move_184, wM_move_185, wM_move_186, wM_move_187, wM_move_190, wM_move_191, mM_is h' hs, hv, am_b] using hK _ h' f0
  | some n =>
    obtain ⟨rfl, hl, h20⟩ := ts_id_some hv
    rw [hv] at hK
    simp only at hK
    have lo : tq_lo s n = (!(ts_kd s n == 0) && !(ts_kd s n == 6) && !(tq_pt s n)) := rfl
    -- from the place where the way is looked at
    have fin : ¬ (ts_id s w = none ∧ ¬ w = -1) → am_wp yM_move 28 [.inr (.inl (4, some N)), .inl (nI n), .inl w, .inl y] [] (am_si M N 0 0) K := by
      intro hw0
      rw [if_neg hw0] at hK
      simp only [wM_move_0, wM_move_1, wM_move_2, wM_move_5, wM_move_6, wM_move_7, wM_move_10, wM_move_13, wM_move_14, wM_move_15, wM_move_18, wM_move_19, wM_move_20, wM_move_23, wM_move_26, wM_move_27, wM_move_28, wM_move_29, wM_move_32, wM_move_33, wM_move_34, wM_move_37, wM_move_39, wM_move_40, wM_move_41, wM_move_42, wM_move_43, wM_move_46, wM_move_49, wM_move_50, wM_move_51, wM_move_53, wM_move_56, wM_move_59, wM_move_60, wM_move_61, wM_move_64, wM_move_67, wM_move_69, wM_move_70, wM_move_71, wM_move_72, wM_move_76, wM_move_77, wM_move_80, wM_move_83, wM_move_84, wM_move_85, wM_move_86, wM_move_87, wM_move_88, wM_move_89, wM_move_92, wM_move_93, wM_move_95, wM_move_96, wM_move_97, wM_move_100, wM_move_103, wM_move_104, wM_move_105, wM_move_108, wM_move_109, wM_move_110, wM_move_111, wM_move_114, wM_move_117, wM_move_118, wM_move_119, wM_move_120, wM_move_123, wM_move_126, wM_move_127, wM_move_128, wM_move_131, wM_move_132, wM_move_133, wM_move_134, wM_move_137, wM_move_140, wM_move_142, wM_move_143, wM_move_144, wM_move_145, wM_move_146, wM_move_147, wM_move_150, wM_move_153, wM_move_154, wM_move_155, wM_move_156, wM_move_157, wM_move_158, wM_move_161, wM_move_164, wM_move_166, wM_move_167, wM_move_168, wM_move_169, wM_move_172, wM_move_173, wM_move_174, wM_move_177, wM_move_180, wM_move_182, wM_move_183, wM_move_184, wM_move_185, wM_move_186, wM_move_187, wM_move_190, wM_move_191, true_or, or_true, Option.toList_some, Option.toList_none, List.cons_append, List.nil_append, am_b0, mM_of0 h' hs hl, mM_of6 h' hs hl, mM_isPart h' hs hl]
      by_cases c2 : y < 0
      · simp only [c2, if_true] at hK ⊢
        exact hK _ h' f0
      by_cases c3 : 3 < y
      · simp only [c2, c3, if_true, if_false] at hK ⊢
        exact hK _ h' f0
      simp only [c2, c3, if_false] at hK ⊢
      by_cases g0 : ts_kd s n = 0
      · have e : tq_lo s n = false := by rw [lo]; simp [g0]
        simp only [e, if_true] at hK
        simpa [g0] using hK _ h' f0
      by_cases g6 : ts_kd s n = 6
      · have e : tq_lo s n = false := by rw [lo]; simp [g6]
        simp only [e, if_true] at hK
        simpa [g6] using hK _ h' f0
      cases gp : tq_pt s n with
      | true =>
        have e : tq_lo s n = false := by rw [lo]; simp [gp]
        simp only [e, if_true] at hK
        simpa [g0, g6, gp] using hK _ h' f0
      | false =>
        have e : tq_lo s n = true := by rw [lo]; simp [gp, g0, g6]
        simp only [e, reduceCtorEq, if_false] at hK
        cases hw : ts_id s w with
        | none =>
          have hw1 : w = -1 := Classical.byContradiction (fun q => hw0 ⟨hw, q⟩)
          rw [hw] at hK
          simp only [sp_mvno] at hK
          have := nm_lt (ts_pa s n) (pa_20 hs)
          simp only [beq_eq_false_iff_ne, ne_eq, g0, g6, not_false_eq_true, if_true, hw1, wM_move_0, wM_move_1, wM_move_2, wM_move_5, wM_move_6, wM_move_7, wM_move_10, wM_move_13, wM_move_14, wM_move_15, wM_move_18, wM_move_19, wM_move_20, wM_move_23, wM_move_26, wM_move_27, wM_move_28, wM_move_29, wM_move_32, wM_move_33, wM_move_34, wM_move_37, wM_move_39, wM_move_40, wM_move_41, wM_move_42, wM_move_43, wM_move_46, wM_move_49, wM_move_50, wM_move_51, wM_move_53, wM_move_56, wM_move_59, wM_move_60, wM_move_61, wM_move_64, wM_move_67, wM_move_69, wM_move_70, wM_move_71, wM_move_72, wM_move_75, wM_move_76, wM_move_77, wM_move_80, wM_move_83, wM_move_84, wM_move_85, wM_move_86, wM_move_87, wM_move_88, wM_move_89, wM_move_92, wM_move_93, wM_move_94, wM_move_95, wM_move_96, wM_move_97, wM_move_100, wM_move_103, wM_move_104, wM_move_105, wM_move_108, wM_move_109, wM_move_110, wM_move_111, wM_move_114, wM_move_117, wM_move_118, wM_move_119, wM_move_120, wM_move_123, wM_move_126, wM_move_127, wM_move_128, wM_move_131, wM_move_132, wM_move_133, wM_move_134, wM_move_137, wM_move_140, wM_move_142, wM_move_143, wM_move_144, wM_move_145, wM_move_146, wM_move_147, wM_move_150, wM_move_153, wM_move_154, wM_move_155, wM_move_156, wM_move_157, wM_move_158, wM_move_161, wM_move_164, wM_move_166, wM_move_167, wM_move_168, wM_move_169, wM_move_172, wM_move_173, wM_move_174, wM_move_177, wM_move_180, wM_move_182, wM_move_183, wM_move_184, wM_move_185, wM_move_186, wM_move_187, wM_move_190, wM_move_191, mM_ov h' hs hl, this, true_or, or_true, Option.toList_some, Option.toList_none, List.cons_append, List.nil_append]
          by_cases c : ts_pa s n = none
          · simp only [if_pos c] at hK ⊢
            exact hK _ h' f0
          · simp only [if_neg c] at hK ⊢
            refine mM_gone h' hs hl ht (fun M1 h1 f1 => ?_)
            simp only [wM_move_0, wM_move_1, wM_move_2, wM_move_5, wM_move_6, wM_move_7, wM_move_10, wM_move_13, wM_move_14, wM_move_15, wM_move_18, wM_move_19, wM_move_20, wM_move_23, wM_move_26, wM_move_27, wM_move_28, wM_move_29, wM_move_32, wM_move_33, wM_move_34, wM_move_37, wM_move_39, wM_move_40, wM_move_41, wM_move_42, wM_move_43, wM_move_46, wM_move_49, wM_move_50, wM_move_51, wM_move_53, wM_move_56, wM_move_59, wM_move_60, wM_move_61, wM_move_64, wM_move_67, wM_move_69, wM_move_70, wM_move_71, wM_move_72, wM_move_75, wM_move_76, wM_move_77, wM_move_80, wM_move_83, wM_move_84, wM_move_85, wM_move_86, wM_move_87, wM_move_88, wM_move_89, wM_move_92, wM_move_93, wM_move_94, wM_move_95, wM_move_96, wM_move_97, wM_move_100, wM_move_103, wM_move_104, wM_move_105, wM_move_108, wM_move_109, wM_move_110, wM_move_111, wM_move_114, wM_move_117, wM_move_118, wM_move_119, wM_move_120, wM_move_123, wM_move_126, wM_move_127, wM_move_128, wM_move_131, wM_move_132, wM_move_133, wM_move_134, wM_move_137, wM_move_140, wM_move_142, wM_move_143, wM_move_144, wM_move_145, wM_move_146, wM_move_147, wM_move_150, wM_move_153, wM_move_154, wM_move_155, wM_move_156, wM_move_157, wM_move_158, wM_move_161, wM_move_164, wM_move_166, wM_move_167, wM_move_168, wM_move_169, wM_move_172, wM_move_173, wM_move_174, wM_move_177, wM_move_180, wM_move_182, wM_move_183, wM_move_184, wM_move_185, wM_move_186, wM_move_187, wM_move_190, wM_move_191, true_or, or_true, Option.toList_some, Option.toList_none, List.cons_append, List.nil_append]
            exact hK M1 h1 (fx_cm f0 f1)
        | some p =>
          obtain ⟨rfl, hlp, hp20⟩ := ts_id_some hw
          rw [hw] at hK
          obtain ⟨k, hk1, rfl⟩ := nI_of c2
          have hk4 : k < 4 := Classical.byContradiction (fun q => c3 ((nI_ltI (a := 3) (b := k) (by decide) hk1).mpr (by omega)))
          simp only [nI_clamp hk1] at hK
          have := mM_mvto (K := K) h' hs ht hl hlp hk4 (fun M' a b => hK M' a (fx_f_tr f0 b))
          simpa [g0, g6, nI_m1 hp20] using this
    simp only [wM_move_0, wM_move_1, wM_move_2, wM_move_5, wM_move_6, wM_move_7, wM_move_10, wM_move_13, wM_move_14, wM_move_15, wM_move_18, wM_move_19, wM_move_20, wM_move_23, wM_move_26, wM_move_27, wM_move_29, wM_move_32, wM_move_33, wM_move_34, wM_move_37, wM_move_39, wM_move_40, wM_move_41, wM_move_42, wM_move_43, wM_move_46, wM_move_49, wM_move_50, wM_move_51, wM_move_53, wM_move_56, wM_move_59, wM_move_60, wM_move_61, wM_move_64, wM_move_67, wM_move_69, wM_move_70, wM_move_71, wM_move_72, wM_move_75, wM_move_76, wM_move_77, wM_move_80, wM_move_83, wM_move_84, wM_move_85, wM_move_86, wM_move_87, wM_move_88, wM_move_89, wM_move_92, wM_move_93, wM_move_94, wM_move_95, wM_move_96, wM_move_97, wM_move_100, wM_move_103, wM_move_104, wM_move_105, wM_move_108, wM_move_109, wM_move_110, wM_move_111, wM_move_114, wM_move_117, wM_move_118, wM_move_119, wM_move_120, wM_move_123, wM_move_126, wM_move_127, wM_move_128, wM_move_131, wM_move_132, wM_move_133, wM_move_134, wM_move_137, wM_move_140, wM_move_142, wM_move_143, wM_move_144, wM_move_145, wM_move_146, wM_move_147, wM_move_150, wM_move_153, wM_move_154, wM_move_155, wM_move_156, wM_move_157, wM_move_158, wM_move_161, wM_move_164, wM_move_166, wM_move_167, wM_move_168, wM_move_169, wM_move_172, wM_move_173, wM_move_174, wM_move_177, wM_move_180, wM_move_182, wM_move_183, wM_move_184, wM_move_185, wM_move_186, wM_move_187, wM_move_190, wM_move_191, mM_is h' hs, hv, Option.isSome_some, true_or, or_true, Option.toList_some, Option.toList_none, List.cons_append, List.nil_append, am_b0, reduceCtorEq, if_false]
    by_cases c1 : w = -1
    · rw [if_pos c1]
      exact fin (fun q => q.2 c1)
    · rw [if_neg c1]
      cases hw : ts_id s w with
      | none =>
        simp only [hw, c1, not_false_eq_true, and_self, if_true] at hK
        simpa using hK _ h' f0
      | some p =>
        have := fin (fun q => by rw [hw] at q; cases q.1)
        simpa using this
theorem mM_part (h : mp N s M) (hs : ts_ok s) (ht : ts_t s < 2 ^ 30) (v w : Int32) (hK : ∀ M', mp N (sp_part s v w).2 M' → fx_f (mxR N) M M' → K (some (.inl (sp_part s v w).1)) M') : am_wp yM_part 0 [.inr (.inl (4, some N)), .inl v, .inl w, am_u] [] M K := by
  have h' := mp_th h
  have f0 : fx_f (mxR N) M (am_si M N 0 0) := fx_th0
  cases hv : ts_id s v with
  | none => simpa [wM_part_0, wM_part_1, wM_part_2, wM_part_5, wM_part_6, wM_part_7, wM_part_10, wM_part_13, wM_part_14, wM_part_15, wM_part_18, wM_part_21, wM_part_22, wM_part_23, wM_part_24, wM_part_25, wM_part_26, wM_part_29, wM_part_32, wM_part_33, wM_part_34, wM_part_36, wM_part_39, wM_part_42, wM_part_43, wM_part_44, wM_part_45, wM_part_48, wM_part_51, wM_part_52, wM_part_53, wM_part_56, wM_part_59, wM_part_60, wM_part_63, wM_part_64, wM_part_65, wM_part_66, wM_part_69, wM_part_70, wM_part_71, wM_part_72, wM_part_75, wM_part_78, wM_part_79, wM_part_80, wM_part_82, wM_part_85, wM_part_88, wM_part_90, wM_part_91, wM_part_92, wM_part_93, wM_part_94, wM_part_97, wM_part_100, wM_part_102, wM_part_103, wM_part_104, wM_part_105, wM_part_106, wM_part_107, wM_part_110, wM_part_111, mM_is h' hs, hv, am_b] using sp_gt hK (c := -1) (s' := s) (by simp [sp_part, hv]) h' f0
  | some n =>
    obtain ⟨rfl, hl, h20⟩ := ts_id_some hv
    cases hw : ts_id s w with
    | none => simpa [wM_part_0, wM_part_1, wM_part_2, wM_part_5, wM_part_6, wM_part_7, wM_part_10, wM_part_13, wM_part_14, wM_part_15, wM_part_18, wM_part_21, wM_part_22, wM_part_23, wM_part_24, wM_part_25, wM_part_26, wM_part_29, wM_part_32, wM_part_33, wM_part_34, wM_part_36, wM_part_39, wM_part_42, wM_part_43, wM_part_44, wM_part_45, wM_part_48, wM_part_51, wM_part_52, wM_part_53, wM_part_56, wM_part_59, wM_part_60, wM_part_63, wM_part_64, wM_part_65, wM_part_66, wM_part_69, wM_part_70, wM_part_71, wM_part_72, wM_part_75, wM_part_78, wM_part_79, wM_part_80, wM_part_82, wM_part_85, wM_part_88, wM_part_90, wM_part_91, wM_part_92, wM_part_93, wM_part_94, wM_part_97, wM_part_100, wM_part_102, wM_part_103, wM_part_104, wM_part_105, wM_part_106, wM_part_107, wM_part_110, wM_part_111, mM_is h' hs, hv, hw, am_b] using sp_gt hK (c := -1) (s' := s) (by simp [sp_part, hv, hw]) h' f0
    | some p =>
      obtain ⟨rfl, hlp, hp20⟩ := ts_id_some hw
      have lo : tq_lo s n = (!(ts_kd s n == 0) && !(ts_kd s n == 6) && !(tq_pt s n)) := rfl
      have hb : tq_hb s p 4 = (!(ts_kd s p == 0) && !(ts_kd s p == 6)) := rfl
      simp only [wM_part_0, wM_part_1, wM_part_2, wM_part_5, wM_part_6, wM_part_7, wM_part_10, wM_part_13, wM_part_14, wM_part_15, wM_part_18, wM_part_21, wM_part_22, wM_part_23, wM_part_24, wM_part_25, wM_part_26, wM_part_29, wM_part_32, wM_part_33, wM_part_34, wM_part_36, wM_part_39, wM_part_42, wM_part_43, wM_part_44, wM_part_45, wM_part_48, wM_part_51, wM_part_52, wM_part_53, wM_part_56, wM_part_59, wM_part_60, wM_part_63, wM_part_64, wM_part_65, wM_part_66, wM_part_69, wM_part_70, wM_part_71, wM_part_72, wM_part_75, wM_part_78, wM_part_79, wM_part_80, wM_part_82, wM_part_85, wM_part_88, wM_part_90, wM_part_91, wM_part_92, wM_part_93, wM_part_94, wM_part_97, wM_part_100, wM_part_102, wM_part_103, wM_part_104, wM_part_105, wM_part_106, wM_part_107, wM_part_110, wM_part_111, mM_is h' hs, hv, hw, Option.isSome_some, true_or, or_true, Option.toList_some, Option.toList_none, List.cons_append, List.nil_append, am_b0, reduceCtorEq, if_false, mM_of0 h' hs hl, mM_of6 h' hs hl, mM_of4 h' hs hl, mM_isPart h' hs hl, mM_of0 h' hs hlp, mM_of6 h' hs hlp, mM_hs h' hs hl hlp]
      by_cases g0 : ts_kd s n = 0
      · simpa [g0] using sp_gt hK (c := -3) (s' := s) (by simp [sp_part, hv, hw, lo, hb, g0]) h' f0
      by_cases g6 : ts_kd s n = 6
      · simpa [g6] using sp_gt hK (c := -3) (s' := s) (by simp [sp_part, hv, hw, lo, hb, g6]) h' f0
      by_cases g4 : ts_kd s n = 4
      · simpa [g4] using sp_gt hK (c := -3) (s' := s) (by simp [sp_part, hv, hw, lo, hb, g4]) h' f0
      cases gp : tq_pt s n with
      | true => simpa [g0, g6, g4, gp] using sp_gt hK (c := -3) (s' := s) (by simp [sp_part, hv, hw, lo, hb, gp]) h' f0
      | false =>
        by_cases q0 : ts_kd s p = 0
        · simpa [g0, g6, g4, gp, q0] using sp_gt hK (c := -3) (s' := s) (by simp [sp_part, hv, hw, lo, hb, q0]) h' f0
        by_cases q6 : ts_kd s p = 6
        · simpa [g0, g6, g4, gp, q6] using sp_gt hK (c := -3) (s' := s) (by simp [sp_part, hv, hw, lo, hb, q6]) h' f0
        cases c4 : tq_in s p n with
        | true => simpa [g0, g6, g4, gp, q0, q6, c4] using sp_gt hK (c := -4) (s' := s) (by simp [sp_part, hv, hw, lo, hb, g0, g6, g4, gp, q0, q6, c4]) h' f0
        | false =>
          have := mM_come (K := fun r M1 => am_wp yM_part 110 [.inr (.inl (4, some N)), .inl (nI n), .inl (nI p), .inl 1] (r.toList ++ []) M1 K) h' hs hl ht hlp (tq_in_f c4) (w := 4) (by decide) (fun M1 h1 f1 => by
            simp only [wM_part_0, wM_part_1, wM_part_2, wM_part_5, wM_part_6, wM_part_7, wM_part_10, wM_part_13, wM_part_14, wM_part_15, wM_part_18, wM_part_21, wM_part_22, wM_part_23, wM_part_24, wM_part_25, wM_part_26, wM_part_29, wM_part_32, wM_part_33, wM_part_34, wM_part_36, wM_part_39, wM_part_42, wM_part_43, wM_part_44, wM_part_45, wM_part_48, wM_part_51, wM_part_52, wM_part_53, wM_part_56, wM_part_59, wM_part_60, wM_part_63, wM_part_64, wM_part_65, wM_part_66, wM_part_69, wM_part_70, wM_part_71, wM_part_72, wM_part_75, wM_part_78, wM_part_79, wM_part_80, wM_part_82, wM_part_85, wM_part_88, wM_part_90, wM_part_91, wM_part_92, wM_part_93, wM_part_94, wM_part_97, wM_part_100, wM_part_102, wM_part_103, wM_part_104, wM_part_105, wM_part_106, wM_part_107, wM_part_110, wM_part_111, true_or, or_true, Option.toList_some, Option.toList_none, List.cons_append, List.nil_append]
            exact sp_gt hK (by simp [sp_part, hv, hw, lo, hb, g0, g6, g4, gp, q0, q6, c4]) h1 (fx_cm f0 f1))
          simpa [g0, g6, g4, gp, q0, q6, c4, wM_part_0, wM_part_1, wM_part_2, wM_part_5, wM_part_6, wM_part_7, wM_part_10, wM_part_13, wM_part_14, wM_part_15, wM_part_18, wM_part_21, wM_part_22, wM_part_23, wM_part_24, wM_part_25, wM_part_26, wM_part_29, wM_part_32, wM_part_33, wM_part_34, wM_part_36, wM_part_39, wM_part_42, wM_part_43, wM_part_44, wM_part_45, wM_part_48, wM_part_51, wM_part_52, wM_part_53, wM_part_56, wM_part_59, wM_part_60, wM_part_63, wM_part_64, wM_part_65, wM_part_66, wM_part_69, wM_part_70, wM_part_71, wM_part_72, wM_part_75, wM_part_78, wM_part_79, wM_part_80, wM_part_82, wM_part_85, wM_part_88, wM_part_90, wM_part_91, wM_part_92, wM_part_93, wM_part_94, wM_part_97, wM_part_100, wM_part_102, wM_part_103, wM_part_104, wM_part_105, wM_part_106, wM_part_107, wM_part_110, wM_part_111] using this
end MX
