-- THE REFERENCE: light; whether a thing is full
section MS
variable {N : Nat} {s : ts_S} {M M' : am_M} {K : Option am_V → am_M → Prop} {n p t : Nat}
theorem r0_neg (s : ts_S) (p t : Nat) (sg : Bool) : (tq_r0 s p t sg < 0) = (tq_ro s p t sg < 0) := by
  unfold tq_r0
  split
  · rename_i h; simp [h]
  · rename_i h; simp [h]
theorem ro_pos (hs : ts_ok s) (sg : Bool) : tq_ro s p t sg < 0 ∨ tq_ro s p t sg = 1 := by
  have bneg : ∀ x b, ts_pa s x = some b → (-10 : Int32) - nI b < 0 := fun x b hb => bar_neg b (pa_20 hs b hb)
  unfold tq_ro
  split
  · exact Or.inl (by decide)
  · split
    · rename_i hb
      obtain ⟨x, hx⟩ := tq_upl_pa _ _ hb
      exact Or.inl (bneg x _ hx)
    · split
      · rename_i hb
        obtain ⟨x, hx⟩ := tq_dnl_pa _ none _ (fun b hb => by cases hb) hb
        exact Or.inl (bneg x _ hx)
      · exact Or.inr rfl
theorem r0_zero (hs : ts_ok s) (sg : Bool) : (tq_r0 s p t sg = 0) = (0 < tq_ro s p t sg) := by
  unfold tq_r0
  rcases ro_pos (p := p) (t := t) hs sg with h | h
  · rw [if_pos h]
    apply propext
    constructor
    · intro z; rw [z] at h; exact absurd h (by decide)
    · intro z
      rw [Int32.lt_iff_toInt_lt] at h z
      omega
  · rw [h]; decide
theorem mM_touches (h : mp N s M) (hs : ts_ok s) (v w : Int32) (hK : ∀ M', mp N s M' → fx_f (mxR N) M M' → K (some (.inl (sp_touches s v w))) M') : am_wp yM_touches 0 [.inr (.inl (4, some N)), .inl v, .inl w, am_u] [] M K := by
  have h' := mp_th h
  unfold sp_touches at hK
  cases hv : ts_id s v with
  | none =>
    rw [hv] at hK
    simp [wM_touches_0, wM_touches_1, wM_touches_2, wM_touches_5, wM_touches_6, wM_touches_7, wM_touches_10, wM_touches_13, wM_touches_14, wM_touches_15, wM_touches_18, wM_touches_21, wM_touches_22, wM_touches_23, wM_touches_24, wM_touches_25, wM_touches_26, wM_touches_29, wM_touches_32, wM_touches_34, wM_touches_35, wM_touches_36, wM_touches_37, wM_touches_38, wM_touches_39, wM_touches_42, wM_touches_43, wM_touches_44, wM_touches_47, wM_touches_48, wM_touches_51, wM_touches_52, mM_is h' hs, hv, am_b]
    exact hK _ h' fx_th0
  | some p =>
    obtain ⟨rfl, hl, p20⟩ := ts_id_some hv
    cases hw : ts_id s w with
    | none =>
      rw [hv, hw] at hK
      simp [wM_touches_0, wM_touches_1, wM_touches_2, wM_touches_5, wM_touches_6, wM_touches_7, wM_touches_10, wM_touches_13, wM_touches_14, wM_touches_15, wM_touches_18, wM_touches_21, wM_touches_22, wM_touches_23, wM_touches_24, wM_touches_25, wM_touches_26, wM_touches_29, wM_touches_32, wM_touches_34, wM_touches_35, wM_touches_36, wM_touches_37, wM_touches_38, wM_touches_39, wM_touches_42, wM_touches_43, wM_touches_44, wM_touches_47, wM_touches_48, wM_touches_51, wM_touches_52, mM_is h' hs, hv, hw, am_b]
      exact hK _ h' fx_th0
    | some t =>
      obtain ⟨rfl, hm, t20⟩ := ts_id_some hw
      rw [hv, hw] at hK
      simp only at hK
      simp only [wM_touches_0, wM_touches_1, wM_touches_2, wM_touches_5, wM_touches_6, wM_touches_7, wM_touches_10, wM_touches_13, wM_touches_14, wM_touches_15, wM_touches_18, wM_touches_21, wM_touches_22, wM_touches_23, wM_touches_24, wM_touches_25, wM_touches_26, wM_touches_29, wM_touches_32, wM_touches_34, wM_touches_35, wM_touches_36, wM_touches_37, wM_touches_38, wM_touches_39, wM_touches_42, wM_touches_43, wM_touches_44, wM_touches_47, wM_touches_48, wM_touches_51, wM_touches_52, mM_is h' hs, hv, hw, Option.isSome_some, true_or, or_true, Option.toList_some, Option.toList_none, List.cons_append, List.nil_append, am_b0, reduceCtorEq, if_false, mM_of4 h' hs hl]
      cases c4 : ts_kd s p == 4 with
      | false =>
        rw [if_neg (by simpa using c4)] at hK
        simp only [if_true]
        exact hK _ h' fx_th0
      | true =>
        rw [if_pos (by simpa using c4)] at hK
        simp only [reduceCtorEq, if_false]
        refine mM_route h' hs hl hm false (fun M1 g1 f1 => ?_)
        simp only [wM_touches_0, wM_touches_1, wM_touches_2, wM_touches_5, wM_touches_6, wM_touches_7, wM_touches_10, wM_touches_13, wM_touches_14, wM_touches_15, wM_touches_18, wM_touches_21, wM_touches_22, wM_touches_23, wM_touches_24, wM_touches_25, wM_touches_26, wM_touches_29, wM_touches_32, wM_touches_34, wM_touches_35, wM_touches_36, wM_touches_37, wM_touches_38, wM_touches_39, wM_touches_42, wM_touches_43, wM_touches_44, wM_touches_47, wM_touches_48, wM_touches_51, wM_touches_52, true_or, or_true, Option.toList_some, Option.toList_none, List.cons_append, List.nil_append, r0_neg]
        rcases ro_pos (p := p) (t := t) hs false with z | z
        · simp only [z, if_true, wM_touches_0, wM_touches_1, wM_touches_2, wM_touches_5, wM_touches_6, wM_touches_7, wM_touches_10, wM_touches_13, wM_touches_14, wM_touches_15, wM_touches_18, wM_touches_21, wM_touches_22, wM_touches_23, wM_touches_24, wM_touches_25, wM_touches_26, wM_touches_29, wM_touches_32, wM_touches_34, wM_touches_35, wM_touches_36, wM_touches_37, wM_touches_38, wM_touches_39, wM_touches_42, wM_touches_43, wM_touches_44, wM_touches_47, wM_touches_48, wM_touches_51, wM_touches_52]
          rw [show tq_r0 s p t false = tq_ro s p t false by unfold tq_r0; rw [if_pos z]]
          exact hK M1 g1 (fx_f_tr fx_th0 f1)
        · simp only [z, show ¬ (1 : Int32) < 0 by decide, if_false, wM_touches_0, wM_touches_1, wM_touches_2, wM_touches_5, wM_touches_6, wM_touches_7, wM_touches_10, wM_touches_13, wM_touches_14, wM_touches_15, wM_touches_18, wM_touches_21, wM_touches_22, wM_touches_23, wM_touches_24, wM_touches_25, wM_touches_26, wM_touches_29, wM_touches_32, wM_touches_34, wM_touches_35, wM_touches_36, wM_touches_37, wM_touches_38, wM_touches_39, wM_touches_42, wM_touches_43, wM_touches_44, wM_touches_47, wM_touches_48, wM_touches_51, wM_touches_52]
          rw [z] at hK
          exact hK M1 g1 (fx_f_tr fx_th0 f1)
-- light
def tq_lx (s : ts_S) (p : Nat) (q : Nat × Nat) : Bool := ts_sh s q.1 && decide (0 < tq_ro s p q.1 true)
theorem tq_li_L (hs : ts_ok s) (p : Nat) : tq_li s p = (ts_L s).any (tq_lx s p) := by
  unfold tq_li
  apply Bool.eq_iff_iff.mpr
  simp only [List.any_eq_true]
  constructor
  · rintro ⟨x, hx, hq⟩
    unfold tq_ls at hq
    simp only [Bool.and_eq_true, decide_eq_true_eq] at hq
    obtain ⟨⟨h1, h2⟩, h3⟩ := hq
    obtain ⟨q, q1, rfl⟩ := List.mem_map.mp h1
    exact ⟨q, q1, by unfold tq_lx; simp [h2, h3]⟩
  · rintro ⟨q, hq, h1⟩
    have hl : ts_lv s q.1 := List.mem_map_of_mem hq
    unfold tq_lx at h1
    simp only [Bool.and_eq_true, decide_eq_true_eq] at h1
    refine ⟨q.1, List.mem_range.mpr (ts_20 hs hl), ?_⟩
    unfold tq_ls
    have hl' : q.1 ∈ (ts_L s).map (·.1) := hl
    simp [hl', h1.1, h1.2]
theorem mM_lt_l (hs : ts_ok s) (hp : ts_lv s p) : ∀ (L2 L1 : fo_L) (M : am_M) (l4 l5 : am_V), ts_L s = L1 ++ L2 → mp N s M → L1.any (tq_lx s p) = false ∨ L2 = L2 → ∀ b : Bool, b = L1.any (tq_lx s p) → (∀ M', mp N s M' → fx_f (mxR N) M M' → K (some (.inl (am_b (b || L2.any (tq_lx s p))))) M') → am_wp yM_hasLight 4 [.inr (.inl (4, some N)), .inl (nI p), .inl (am_b b), .inl (nI L1.length), l4, l5] [] M K := by
  have ho := ml_ok_of hs
  have h20 := ho.2.1
  intro L2
  induction L2 with
  | nil =>
    intro L1 M l4 l5 hL h _ b hb hK
    have e : (ts_L s).length = L1.length := by rw [hL]; simp
    rw [wM_hasLight_4]
    simp only [wM_hasLight_0, wM_hasLight_1, wM_hasLight_2, wM_hasLight_3, wM_hasLight_5, wM_hasLight_6, wM_hasLight_9, wM_hasLight_12, wM_hasLight_13, wM_hasLight_16, wM_hasLight_17, wM_hasLight_20, wM_hasLight_22, wM_hasLight_24, wM_hasLight_25, wM_hasLight_27, wM_hasLight_28, wM_hasLight_31, wM_hasLight_34, wM_hasLight_35, wM_hasLight_38, wM_hasLight_41, wM_hasLight_44, wM_hasLight_45, wM_hasLight_48, wM_hasLight_49, wM_hasLight_52, wM_hasLight_53, wM_hasLight_56, wM_hasLight_59, wM_hasLight_61, wM_hasLight_63, wM_hasLight_66, wM_hasLight_67, wM_hasLight_68, wM_hasLight_70, wM_hasLight_71, wM_hasLight_74, wM_hasLight_77, wM_hasLight_78, wM_hasLight_81, wM_hasLight_82, wM_hasLight_83, wM_hasLight_86, wM_hasLight_89, h.1.2.1, e, nI_nlt (Nat.le_refl L1.length) (show L1.length < 2 ^ 31 by omega), if_false, wM_hasLight_90 (am_b01 b)]
    have := hK M h (fx_f_rf M)
    simpa using this
  | cons q L2 ih =>
    intro L1 M l4 l5 hL h _ b hb hK
    have e : (ts_L s).length = L1.length + (L2.length + 1) := by rw [hL]; simp
    have hq : (ts_L s)[L1.length]? = some q := by rw [hL]; simp
    have hl : ts_lv s q.1 := List.mem_map_of_mem (ml_mem hq)
    have q20 := ts_20 hs hl
    rw [wM_hasLight_4]
    simp only [wM_hasLight_0, wM_hasLight_1, wM_hasLight_2, wM_hasLight_3, wM_hasLight_5, wM_hasLight_6, wM_hasLight_9, wM_hasLight_12, wM_hasLight_13, wM_hasLight_16, wM_hasLight_17, wM_hasLight_20, wM_hasLight_22, wM_hasLight_24, wM_hasLight_25, wM_hasLight_27, wM_hasLight_28, wM_hasLight_31, wM_hasLight_34, wM_hasLight_35, wM_hasLight_38, wM_hasLight_41, wM_hasLight_44, wM_hasLight_45, wM_hasLight_48, wM_hasLight_49, wM_hasLight_52, wM_hasLight_53, wM_hasLight_56, wM_hasLight_61, wM_hasLight_63, wM_hasLight_66, wM_hasLight_67, wM_hasLight_68, wM_hasLight_70, wM_hasLight_71, wM_hasLight_74, wM_hasLight_77, wM_hasLight_78, wM_hasLight_81, wM_hasLight_82, wM_hasLight_83, wM_hasLight_86, wM_hasLight_89, h.1.2.1, nI_lt (show L1.length < (ts_L s).length by omega) (show (ts_L s).length < 2 ^ 31 by omega), if_true, am_b0, h.1.1.1, h.1.1.2.2.2.2.2.2.2.1, h.1.1.2.2.2.2.2.2.2.2.1, wM_hasLight_21 (am_ok_nI (show L1.length < 20 by omega) (by decide)), nI_clamp (show L1.length < 2 ^ 31 by omega), (h.1.2.2 _ q hq).1, mM_of0 h hs hl, true_or, or_true, Option.toList_some, Option.toList_none, List.cons_append, List.nil_append, wM_hasLight_40 (am_ok_nI q20 (by decide)), wM_hasLight_58 (am_ok_nI q20 (by decide)), nI_clamp (show q.1 < 2 ^ 31 by omega)]
    cases cb : b with
    | true =>
      simp only [reduceCtorEq, if_false, wM_hasLight_89, am_bt, wM_hasLight_90 (show (1 : Int32) = 0 ∨ (1 : Int32) = 1 by decide)]
      have := hK M h (fx_f_rf M)
      rw [cb] at this
      simpa [am_b] using this
    | false =>
      simp only [if_true]
      have nx : ∀ (M' : am_M) (b' : Bool) (l4 l5 : am_V), mp N s M' → fx_f (mxR N) M M' → b' = tq_lx s p q → am_wp yM_hasLight 4 [.inr (.inl (4, some N)), .inl (nI p), .inl (am_b b'), .inl (nI (L1.length + 1)), l4, l5] [] M' K := by
        intro M' b' l4 l5 g f hb'
        have := ih (L1 ++ [q]) M' l4 l5 (by rw [hL]; simp) g (Or.inr rfl) b' (by rw [List.any_append, ← hb, cb, hb']; simp) (fun M2 g2 f2 => by
          have := hK M2 g2 (fx_f_tr f f2)
          rw [cb, List.any_cons, ← hb', Bool.false_or] at this
          exact this)
        rw [List.length_append, List.length_singleton] at this
        exact this
      have shines : ∀ (v : Bool), v = ts_sh s q.1 → am_wp yM_hasLight 59 [.inr (.inl (4, some N)), .inl (nI p), .inl (am_b false), .inl (nI L1.length), .inl (nI q.1), l5] [.inl (am_b v)] M K := by
        intro v hv
        simp only [wM_hasLight_0, wM_hasLight_1, wM_hasLight_2, wM_hasLight_3, wM_hasLight_5, wM_hasLight_6, wM_hasLight_9, wM_hasLight_12, wM_hasLight_13, wM_hasLight_16, wM_hasLight_17, wM_hasLight_20, wM_hasLight_22, wM_hasLight_24, wM_hasLight_25, wM_hasLight_27, wM_hasLight_28, wM_hasLight_31, wM_hasLight_34, wM_hasLight_35, wM_hasLight_38, wM_hasLight_41, wM_hasLight_44, wM_hasLight_45, wM_hasLight_48, wM_hasLight_49, wM_hasLight_52, wM_hasLight_53, wM_hasLight_56, wM_hasLight_59, wM_hasLight_61, wM_hasLight_63, wM_hasLight_66, wM_hasLight_67, wM_hasLight_68, wM_hasLight_70, wM_hasLight_71, wM_hasLight_74, wM_hasLight_77, wM_hasLight_78, wM_hasLight_81, wM_hasLight_82, wM_hasLight_83, wM_hasLight_86, wM_hasLight_89, am_b0]
        cases cv : v with
        | false =>
          simp only [if_true, wM_hasLight_0, wM_hasLight_1, wM_hasLight_2, wM_hasLight_3, wM_hasLight_5, wM_hasLight_6, wM_hasLight_9, wM_hasLight_12, wM_hasLight_13, wM_hasLight_16, wM_hasLight_17, wM_hasLight_20, wM_hasLight_22, wM_hasLight_24, wM_hasLight_25, wM_hasLight_27, wM_hasLight_28, wM_hasLight_31, wM_hasLight_34, wM_hasLight_35, wM_hasLight_38, wM_hasLight_41, wM_hasLight_44, wM_hasLight_45, wM_hasLight_48, wM_hasLight_49, wM_hasLight_52, wM_hasLight_53, wM_hasLight_56, wM_hasLight_59, wM_hasLight_61, wM_hasLight_63, wM_hasLight_66, wM_hasLight_67, wM_hasLight_68, wM_hasLight_70, wM_hasLight_71, wM_hasLight_74, wM_hasLight_77, wM_hasLight_78, wM_hasLight_81, wM_hasLight_82, wM_hasLight_83, wM_hasLight_86, wM_hasLight_89, nI_1]
          exact nx M false _ _ h (fx_f_rf M) (by unfold tq_lx; rw [← hv, cv]; rfl)
        | true =>
          simp only [reduceCtorEq, if_false, wM_hasLight_0, wM_hasLight_1, wM_hasLight_2, wM_hasLight_3, wM_hasLight_5, wM_hasLight_6, wM_hasLight_9, wM_hasLight_12, wM_hasLight_13, wM_hasLight_16, wM_hasLight_17, wM_hasLight_20, wM_hasLight_22, wM_hasLight_24, wM_hasLight_25, wM_hasLight_27, wM_hasLight_28, wM_hasLight_31, wM_hasLight_34, wM_hasLight_35, wM_hasLight_38, wM_hasLight_41, wM_hasLight_44, wM_hasLight_45, wM_hasLight_48, wM_hasLight_49, wM_hasLight_52, wM_hasLight_53, wM_hasLight_56, wM_hasLight_59, wM_hasLight_61, wM_hasLight_63, wM_hasLight_66, wM_hasLight_67, wM_hasLight_68, wM_hasLight_70, wM_hasLight_71, wM_hasLight_74, wM_hasLight_77, wM_hasLight_78, wM_hasLight_81, wM_hasLight_82, wM_hasLight_83, wM_hasLight_86, wM_hasLight_89]
          refine mM_route h hs hp hl true (fun M1 g1 f1 => ?_)
          simp only [wM_hasLight_0, wM_hasLight_1, wM_hasLight_2, wM_hasLight_3, wM_hasLight_5, wM_hasLight_6, wM_hasLight_9, wM_hasLight_12, wM_hasLight_13, wM_hasLight_16, wM_hasLight_17, wM_hasLight_20, wM_hasLight_22, wM_hasLight_24, wM_hasLight_25, wM_hasLight_27, wM_hasLight_28, wM_hasLight_31, wM_hasLight_34, wM_hasLight_35, wM_hasLight_38, wM_hasLight_41, wM_hasLight_44, wM_hasLight_45, wM_hasLight_48, wM_hasLight_49, wM_hasLight_52, wM_hasLight_53, wM_hasLight_56, wM_hasLight_59, wM_hasLight_61, wM_hasLight_63, wM_hasLight_66, wM_hasLight_67, wM_hasLight_68, wM_hasLight_70, wM_hasLight_71, wM_hasLight_74, wM_hasLight_77, wM_hasLight_78, wM_hasLight_81, wM_hasLight_82, wM_hasLight_83, wM_hasLight_86, wM_hasLight_89, true_or, or_true, Option.toList_some, Option.toList_none, List.cons_append, List.nil_append, r0_zero hs]
          by_cases c : 0 < tq_ro s p q.1 true
          · simp only [c, if_true, wM_hasLight_0, wM_hasLight_1, wM_hasLight_2, wM_hasLight_3, wM_hasLight_5, wM_hasLight_6, wM_hasLight_9, wM_hasLight_12, wM_hasLight_13, wM_hasLight_16, wM_hasLight_17, wM_hasLight_20, wM_hasLight_22, wM_hasLight_24, wM_hasLight_25, wM_hasLight_27, wM_hasLight_28, wM_hasLight_31, wM_hasLight_34, wM_hasLight_35, wM_hasLight_38, wM_hasLight_41, wM_hasLight_44, wM_hasLight_45, wM_hasLight_48, wM_hasLight_49, wM_hasLight_52, wM_hasLight_53, wM_hasLight_56, wM_hasLight_59, wM_hasLight_61, wM_hasLight_63, wM_hasLight_66, wM_hasLight_67, wM_hasLight_68, wM_hasLight_70, wM_hasLight_71, wM_hasLight_74, wM_hasLight_77, wM_hasLight_78, wM_hasLight_81, wM_hasLight_82, wM_hasLight_83, wM_hasLight_86, wM_hasLight_89, nI_1]
            exact nx M1 true _ _ g1 f1 (by unfold tq_lx; rw [← hv, cv]; simp [c])
          · simp only [c, if_false, wM_hasLight_0, wM_hasLight_1, wM_hasLight_2, wM_hasLight_3, wM_hasLight_5, wM_hasLight_6, wM_hasLight_9, wM_hasLight_12, wM_hasLight_13, wM_hasLight_16, wM_hasLight_17, wM_hasLight_20, wM_hasLight_22, wM_hasLight_24, wM_hasLight_25, wM_hasLight_27, wM_hasLight_28, wM_hasLight_31, wM_hasLight_34, wM_hasLight_35, wM_hasLight_38, wM_hasLight_41, wM_hasLight_44, wM_hasLight_45, wM_hasLight_48, wM_hasLight_49, wM_hasLight_52, wM_hasLight_53, wM_hasLight_56, wM_hasLight_59, wM_hasLight_61, wM_hasLight_63, wM_hasLight_66, wM_hasLight_67, wM_hasLight_68, wM_hasLight_70, wM_hasLight_71, wM_hasLight_74, wM_hasLight_77, wM_hasLight_78, wM_hasLight_81, wM_hasLight_82, wM_hasLight_83, wM_hasLight_86, wM_hasLight_89, nI_1]
            exact nx M1 false _ _ g1 f1 (by unfold tq_lx; rw [← hv, cv]; simp [c])
      cases c0 : ts_kd s q.1 == 0 with
      | true =>
        have k0 : ts_kd s q.1 = 0 := by simpa using c0
        rw [(h.2.2.2.2 q.1 hl).2.2.2.2.2.1 k0]
        simp only [reduceCtorEq, if_false, am_b0]
        cases csh : ts_sh s q.1 with
        | true => simp only [Bool.not_true, if_true, wM_hasLight_0, wM_hasLight_1, wM_hasLight_2, wM_hasLight_3, wM_hasLight_5, wM_hasLight_6, wM_hasLight_9, wM_hasLight_12, wM_hasLight_13, wM_hasLight_16, wM_hasLight_17, wM_hasLight_20, wM_hasLight_22, wM_hasLight_24, wM_hasLight_25, wM_hasLight_27, wM_hasLight_28, wM_hasLight_31, wM_hasLight_34, wM_hasLight_35, wM_hasLight_38, wM_hasLight_41, wM_hasLight_44, wM_hasLight_45, wM_hasLight_48, wM_hasLight_49, wM_hasLight_52, wM_hasLight_53, wM_hasLight_56, wM_hasLight_61, wM_hasLight_63, wM_hasLight_66, wM_hasLight_67, wM_hasLight_68, wM_hasLight_70, wM_hasLight_71, wM_hasLight_74, wM_hasLight_77, wM_hasLight_78, wM_hasLight_81, wM_hasLight_82, wM_hasLight_83, wM_hasLight_86, wM_hasLight_89]; exact shines true csh.symm
        | false => simp only [Bool.not_false, reduceCtorEq, if_false, wM_hasLight_0, wM_hasLight_1, wM_hasLight_2, wM_hasLight_3, wM_hasLight_5, wM_hasLight_6, wM_hasLight_9, wM_hasLight_12, wM_hasLight_13, wM_hasLight_16, wM_hasLight_17, wM_hasLight_20, wM_hasLight_22, wM_hasLight_24, wM_hasLight_25, wM_hasLight_27, wM_hasLight_28, wM_hasLight_31, wM_hasLight_34, wM_hasLight_35, wM_hasLight_38, wM_hasLight_41, wM_hasLight_44, wM_hasLight_45, wM_hasLight_48, wM_hasLight_49, wM_hasLight_52, wM_hasLight_53, wM_hasLight_56, wM_hasLight_61, wM_hasLight_63, wM_hasLight_66, wM_hasLight_67, wM_hasLight_68, wM_hasLight_70, wM_hasLight_71, wM_hasLight_74, wM_hasLight_77, wM_hasLight_78, wM_hasLight_81, wM_hasLight_82, wM_hasLight_83, wM_hasLight_86, wM_hasLight_89]; exact shines false csh.symm
      | false =>
        have k0 : ¬ ts_kd s q.1 = 0 := by simpa using c0
        rw [(h.2.2.2.2 q.1 hl).2.2.2.2.2.2.1 k0]
        simp only [if_true]
        exact shines _ rfl
theorem mM_hasLight (h : mp N s M) (hs : ts_ok s) (hp : ts_lv s p) (hK : ∀ M', mp N s M' → fx_f (mxR N) M M' → K (some (.inl (am_b (tq_li s p)))) M') : am_wp yM_hasLight 0 [.inr (.inl (4, some N)), .inl (nI p), am_u, am_u, am_u, am_u] [] M K := by
  simp only [wM_hasLight_0, wM_hasLight_1, wM_hasLight_2, wM_hasLight_3, wM_hasLight_5, wM_hasLight_6, wM_hasLight_9, wM_hasLight_12, wM_hasLight_13, wM_hasLight_16, wM_hasLight_17, wM_hasLight_20, wM_hasLight_22, wM_hasLight_24, wM_hasLight_25, wM_hasLight_27, wM_hasLight_28, wM_hasLight_31, wM_hasLight_34, wM_hasLight_35, wM_hasLight_38, wM_hasLight_41, wM_hasLight_44, wM_hasLight_45, wM_hasLight_48, wM_hasLight_49, wM_hasLight_52, wM_hasLight_53, wM_hasLight_56, wM_hasLight_59, wM_hasLight_61, wM_hasLight_63, wM_hasLight_66, wM_hasLight_67, wM_hasLight_68, wM_hasLight_70, wM_hasLight_71, wM_hasLight_74, wM_hasLight_77, wM_hasLight_78, wM_hasLight_81, wM_hasLight_82, wM_hasLight_83, wM_hasLight_86, wM_hasLight_89]
  have := mM_lt_l (K := K) hs hp (ts_L s) [] M am_u am_u rfl h (Or.inr rfl) false rfl (fun M' g f => by
    rw [Bool.false_or, ← tq_li_L hs]
    exact hK M' g f)
  exact this
theorem mM_light (h : mp N s M) (hs : ts_ok s) (v : Int32) (hK : ∀ M', mp N s M' → fx_f (mxR N) M M' → K (some (.inl (sp_light s v))) M') : am_wp yM_light 0 [.inr (.inl (4, some N)), .inl v] [] M K := by
  have h' := mp_th h
  unfold sp_light at hK
  cases hv : ts_id s v with
  | none =>
    rw [hv] at hK
    simp [wM_light_0, wM_light_1, wM_light_2, wM_light_5, wM_light_6, wM_light_7, wM_light_10, wM_light_13, wM_light_14, wM_light_15, wM_light_16, wM_light_17, wM_light_18, wM_light_21, wM_light_24, wM_light_26, wM_light_27, wM_light_28, wM_light_29, wM_light_32, wM_light_35, wM_light_36, wM_light_39, wM_light_40, mM_is h' hs, hv, am_b]
    exact hK _ h' fx_th0
  | some p =>
    obtain ⟨rfl, hl, p20⟩ := ts_id_some hv
    rw [hv] at hK
    simp only at hK
    simp only [wM_light_0, wM_light_1, wM_light_2, wM_light_5, wM_light_6, wM_light_7, wM_light_10, wM_light_13, wM_light_14, wM_light_15, wM_light_16, wM_light_17, wM_light_18, wM_light_21, wM_light_24, wM_light_26, wM_light_27, wM_light_28, wM_light_29, wM_light_32, wM_light_35, wM_light_36, wM_light_39, wM_light_40, mM_is h' hs, hv, Option.isSome_some, true_or, or_true, Option.toList_some, Option.toList_none, List.cons_append, List.nil_append, am_b0, reduceCtorEq, if_false, mM_of4 h' hs hl]
    cases c4 : ts_kd s p == 4 with
    | false =>
      rw [if_neg (by simpa using c4)] at hK
      simp only [if_true]
      exact hK _ h' fx_th0
    | true =>
      rw [if_pos (by simpa using c4)] at hK
      simp only [reduceCtorEq, if_false]
      refine mM_hasLight h' hs hl (fun M1 g1 f1 => ?_)
      simp only [wM_light_0, wM_light_1, wM_light_2, wM_light_5, wM_light_6, wM_light_7, wM_light_10, wM_light_13, wM_light_14, wM_light_15, wM_light_16, wM_light_17, wM_light_18, wM_light_21, wM_light_24, wM_light_26, wM_light_27, wM_light_28, wM_light_29, wM_light_32, wM_light_35, wM_light_36, wM_light_39, wM_light_40, true_or, or_true, Option.toList_some, Option.toList_none, List.cons_append, List.nil_append, am_b0]
      have := hK M1 g1 (fx_f_tr fx_th0 f1)
      cases c : tq_li s p <;> rw [c] at this <;> simpa [wM_light_0, wM_light_1, wM_light_2, wM_light_5, wM_light_6, wM_light_7, wM_light_10, wM_light_13, wM_light_14, wM_light_15, wM_light_16, wM_light_17, wM_light_18, wM_light_21, wM_light_24, wM_light_26, wM_light_27, wM_light_28, wM_light_29, wM_light_32, wM_light_35, wM_light_36, wM_light_39, wM_light_40, am_b] using this
theorem mM_sees (h : mp N s M) (hs : ts_ok s) (v w : Int32) (hK : ∀ M', mp N s M' → fx_f (mxR N) M M' → K (some (.inl (sp_sees s v w))) M') : am_wp yM_sees 0 [.inr (.inl (4, some N)), .inl v, .inl w, am_u] [] M K := by
  have h' := mp_th h
  unfold sp_sees at hK
  cases hv : ts_id s v with
  | none =>
    rw [hv] at hK
    simp [wM_sees_0, wM_sees_1, wM_sees_2, wM_sees_5, wM_sees_6, wM_sees_7, wM_sees_10, wM_sees_13, wM_sees_14, wM_sees_15, wM_sees_18, wM_sees_21, wM_sees_22, wM_sees_23, wM_sees_24, wM_sees_25, wM_sees_26, wM_sees_29, wM_sees_32, wM_sees_34, wM_sees_35, wM_sees_36, wM_sees_37, wM_sees_38, wM_sees_39, wM_sees_42, wM_sees_43, wM_sees_44, wM_sees_47, wM_sees_48, wM_sees_51, wM_sees_52, wM_sees_53, wM_sees_56, wM_sees_59, wM_sees_60, wM_sees_63, wM_sees_65, mM_is h' hs, hv, am_b]
    exact hK _ h' fx_th0
  | some p =>
    obtain ⟨rfl, hl, p20⟩ := ts_id_some hv
    cases hw : ts_id s w with
    | none =>
      rw [hv, hw] at hK
      simp [wM_sees_0, wM_sees_1, wM_sees_2, wM_sees_5, wM_sees_6, wM_sees_7, wM_sees_10, wM_sees_13, wM_sees_14, wM_sees_15, wM_sees_18, wM_sees_21, wM_sees_22, wM_sees_23, wM_sees_24, wM_sees_25, wM_sees_26, wM_sees_29, wM_sees_32, wM_sees_34, wM_sees_35, wM_sees_36, wM_sees_37, wM_sees_38, wM_sees_39, wM_sees_42, wM_sees_43, wM_sees_44, wM_sees_47, wM_sees_48, wM_sees_51, wM_sees_52, wM_sees_53, wM_sees_56, wM_sees_59, wM_sees_60, wM_sees_63, wM_sees_65, mM_is h' hs, hv, hw, am_b]
      exact hK _ h' fx_th0
    | some t =>
      obtain ⟨rfl, hm, t20⟩ := ts_id_some hw
      rw [hv, hw] at hK
      simp only at hK
      simp only [wM_sees_0, wM_sees_1, wM_sees_2, wM_sees_5, wM_sees_6, wM_sees_7, wM_sees_10, wM_sees_13, wM_sees_14, wM_sees_15, wM_sees_18, wM_sees_21, wM_sees_22, wM_sees_23, wM_sees_24, wM_sees_25, wM_sees_26, wM_sees_29, wM_sees_32, wM_sees_34, wM_sees_35, wM_sees_36, wM_sees_37, wM_sees_38, wM_sees_39, wM_sees_42, wM_sees_43, wM_sees_44, wM_sees_47, wM_sees_48, wM_sees_51, wM_sees_52, wM_sees_53, wM_sees_56, wM_sees_59, wM_sees_60, wM_sees_63, wM_sees_65, mM_is h' hs, hv, hw, Option.isSome_some, true_or, or_true, Option.toList_some, Option.toList_none, List.cons_append, List.nil_append, am_b0, reduceCtorEq, if_false, mM_of4 h' hs hl]
      cases c4 : ts_kd s p == 4 with
      | false =>
        rw [if_neg (by simpa using c4)] at hK
        simp only [if_true]
        exact hK _ h' fx_th0
      | true =>
        rw [if_pos (by simpa using c4)] at hK
        simp only [reduceCtorEq, if_false]
        refine mM_route h' hs hl hm true (fun M1 g1 f1 => ?_)
        simp only [wM_sees_0, wM_sees_1, wM_sees_2, wM_sees_5, wM_sees_6, wM_sees_7, wM_sees_10, wM_sees_13, wM_sees_14, wM_sees_15, wM_sees_18, wM_sees_21, wM_sees_22, wM_sees_23, wM_sees_24, wM_sees_25, wM_sees_26, wM_sees_29, wM_sees_32, wM_sees_34, wM_sees_35, wM_sees_36, wM_sees_37, wM_sees_38, wM_sees_39, wM_sees_42, wM_sees_43, wM_sees_44, wM_sees_47, wM_sees_48, wM_sees_51, wM_sees_52, wM_sees_53, wM_sees_56, wM_sees_59, wM_sees_60, wM_sees_63, wM_sees_65, true_or, or_true, Option.toList_some, Option.toList_none, List.cons_append, List.nil_append, r0_neg]
        rcases ro_pos (p := p) (t := t) hs true with z | z
        · simp only [z, if_true, wM_sees_0, wM_sees_1, wM_sees_2, wM_sees_5, wM_sees_6, wM_sees_7, wM_sees_10, wM_sees_13, wM_sees_14, wM_sees_15, wM_sees_18, wM_sees_21, wM_sees_22, wM_sees_23, wM_sees_24, wM_sees_25, wM_sees_26, wM_sees_29, wM_sees_32, wM_sees_34, wM_sees_35, wM_sees_36, wM_sees_37, wM_sees_38, wM_sees_39, wM_sees_42, wM_sees_43, wM_sees_44, wM_sees_47, wM_sees_48, wM_sees_51, wM_sees_52, wM_sees_53, wM_sees_56, wM_sees_59, wM_sees_60, wM_sees_63, wM_sees_65] at hK ⊢
          rw [show tq_r0 s p t true = tq_ro s p t true by unfold tq_r0; rw [if_pos z]]
          exact hK M1 g1 (fx_f_tr fx_th0 f1)
        · simp only [z, show ¬ (1 : Int32) < 0 by decide, if_false, wM_sees_0, wM_sees_1, wM_sees_2, wM_sees_5, wM_sees_6, wM_sees_7, wM_sees_10, wM_sees_13, wM_sees_14, wM_sees_15, wM_sees_18, wM_sees_21, wM_sees_22, wM_sees_23, wM_sees_24, wM_sees_25, wM_sees_26, wM_sees_29, wM_sees_32, wM_sees_34, wM_sees_35, wM_sees_36, wM_sees_37, wM_sees_38, wM_sees_39, wM_sees_42, wM_sees_43, wM_sees_44, wM_sees_47, wM_sees_48, wM_sees_51, wM_sees_52, wM_sees_53, wM_sees_56, wM_sees_59, wM_sees_60, wM_sees_63, wM_sees_65] at hK ⊢
          refine mM_hasLight g1 hs hl (fun M2 g2 f2 => ?_)
          simp only [wM_sees_0, wM_sees_1, wM_sees_2, wM_sees_5, wM_sees_6, wM_sees_7, wM_sees_10, wM_sees_13, wM_sees_14, wM_sees_15, wM_sees_18, wM_sees_21, wM_sees_22, wM_sees_23, wM_sees_24, wM_sees_25, wM_sees_26, wM_sees_29, wM_sees_32, wM_sees_34, wM_sees_35, wM_sees_36, wM_sees_37, wM_sees_38, wM_sees_39, wM_sees_42, wM_sees_43, wM_sees_44, wM_sees_47, wM_sees_48, wM_sees_51, wM_sees_52, wM_sees_53, wM_sees_56, wM_sees_59, wM_sees_60, wM_sees_63, wM_sees_65, true_or, or_true, Option.toList_some, Option.toList_none, List.cons_append, List.nil_append, am_b0]
          have := hK M2 g2 (fx_f_tr (fx_f_tr fx_th0 f1) f2)
          cases c : tq_li s p <;> rw [c] at this <;> simpa [wM_sees_0, wM_sees_1, wM_sees_2, wM_sees_5, wM_sees_6, wM_sees_7, wM_sees_10, wM_sees_13, wM_sees_14, wM_sees_15, wM_sees_18, wM_sees_21, wM_sees_22, wM_sees_23, wM_sees_24, wM_sees_25, wM_sees_26, wM_sees_29, wM_sees_32, wM_sees_34, wM_sees_35, wM_sees_36, wM_sees_37, wM_sees_38, wM_sees_39, wM_sees_42, wM_sees_43, wM_sees_44, wM_sees_47, wM_sees_48, wM_sees_51, wM_sees_52, wM_sees_53, wM_sees_56, wM_sees_59, wM_sees_60, wM_sees_63, wM_sees_65] using this
-- full
theorem mM_full_l (h : mp N s M) (hs : ts_ok s) {A r : fo_L} {d : Nat} (hL : ts_L s = A ++ (n, d) :: r) (hA : n ∉ A.map (·.1)) (l1 : am_V) : ∀ (S2 S1 : fo_L), fo_sg d r = S1 ++ S2 → (∀ l4, am_wp yM_isFull 71 [.inr (.inl (4, some N)), l1, .inl (nI A.length), .inl (nI (tq_cnt s (ts_kk s n))), l4] [] M K = K (some (.inl (am_b (tq_fu s n)))) M) → am_wp yM_isFull 13 [.inr (.inl (4, some N)), l1, .inl (nI A.length), .inl (nI (tq_cnt s ((S1.filter (fun q => q.2 == d + 1)).map (·.1)))), .inl (nI (A.length + 1 + S1.length))] [] M K = K (some (.inl (am_b (tq_fu s n)))) M := by
  have ho := ml_ok_of hs
  have h20 := ho.2.1
  have hn : (ts_L s)[A.length]? = some (n, d) := by rw [hL]; simp
  have hd2 := (ho.2.2 _ (ml_mem hn)).2
  simp at hd2
  have ekk : ts_kk s n = ((fo_sg d r).filter (fun q => q.2 == d + 1)).map (·.1) := by unfold ts_kk; rw [hL, fo_k_at hA]; rfl
  have hsg : A.length + 1 + (fo_sg d r).length ≤ (ts_L s).length := by
    have : r.length = (fo_sg d r).length + (fo_rs d r).length := by rw [← List.length_append, fo_sr]
    rw [hL]; simp; omega
  intro S2
  induction S2 with
  | nil =>
    intro S1 hS hK
    have e : (fo_sg d r).length = S1.length := by rw [hS]; simp
    rw [ekk, hS, List.append_nil] at hK
    rw [wM_isFull_13]
    simp only [wM_isFull_0, wM_isFull_1, wM_isFull_2, wM_isFull_5, wM_isFull_6, wM_isFull_7, wM_isFull_8, wM_isFull_9, wM_isFull_10, wM_isFull_11, wM_isFull_15, wM_isFull_16, wM_isFull_17, wM_isFull_20, wM_isFull_23, wM_isFull_24, wM_isFull_25, wM_isFull_28, wM_isFull_31, wM_isFull_32, wM_isFull_35, wM_isFull_37, wM_isFull_38, wM_isFull_39, wM_isFull_42, wM_isFull_43, wM_isFull_46, wM_isFull_47, wM_isFull_50, wM_isFull_54, wM_isFull_55, wM_isFull_58, wM_isFull_59, wM_isFull_62, wM_isFull_63, wM_isFull_64, wM_isFull_65, wM_isFull_68, wM_isFull_72, wM_isFull_73, wM_isFull_76, wM_isFull_78, wM_isFull_81, wM_isFull_82, wM_isFull_85, mM_end h.1 ho hL, true_or, or_true, Option.toList_some, Option.toList_none, List.cons_append, List.nil_append, e, nI_nlt (Nat.le_refl (A.length + 1 + S1.length)) (show A.length + 1 + S1.length < 2 ^ 31 by omega), if_false]
    exact hK _
  | cons q S2 ih =>
    intro S1 hS hK
    have e : (fo_sg d r).length = S1.length + (S2.length + 1) := by rw [hS]; simp
    have hq := ml_sg hL hS
    have hq2 := (ho.2.2 q (ml_mem hq)).2
    have hq1 := (ho.2.2 q (ml_mem hq)).1
    have hl : ts_lv s q.1 := List.mem_map_of_mem (ml_mem hq)
    have nx := ih (S1 ++ [q]) (by rw [hS]; simp) hK
    rw [show A.length + 1 + (S1 ++ [q]).length = A.length + 1 + S1.length + 1 by simp; omega] at nx
    have add0 : ∀ k, nI k + 0 = nI k := fun k => Int32.add_zero _
    rw [wM_isFull_13]
    simp only [wM_isFull_0, wM_isFull_1, wM_isFull_2, wM_isFull_5, wM_isFull_6, wM_isFull_7, wM_isFull_8, wM_isFull_9, wM_isFull_10, wM_isFull_11, wM_isFull_15, wM_isFull_16, wM_isFull_17, wM_isFull_20, wM_isFull_23, wM_isFull_24, wM_isFull_25, wM_isFull_28, wM_isFull_31, wM_isFull_32, wM_isFull_35, wM_isFull_37, wM_isFull_38, wM_isFull_39, wM_isFull_42, wM_isFull_43, wM_isFull_46, wM_isFull_47, wM_isFull_50, wM_isFull_54, wM_isFull_55, wM_isFull_58, wM_isFull_59, wM_isFull_62, wM_isFull_63, wM_isFull_64, wM_isFull_65, wM_isFull_68, wM_isFull_71, wM_isFull_72, wM_isFull_73, wM_isFull_76, wM_isFull_78, wM_isFull_81, wM_isFull_82, wM_isFull_85, mM_end h.1 ho hL, true_or, or_true, Option.toList_some, Option.toList_none, List.cons_append, List.nil_append, nI_lt (show A.length + 1 + S1.length < A.length + 1 + (fo_sg d r).length by omega) (show A.length + 1 + (fo_sg d r).length < 2 ^ 31 by omega), if_true, h.1.1.1, h.1.1.2.1, h.1.1.2.2.2.2.1, wM_isFull_30 (am_ok_nI (show A.length + 1 + S1.length < 20 by omega) (by decide)), wM_isFull_36 (am_ok_nI (show A.length < 20 by omega) (by decide)), wM_isFull_52 (am_ok_nI (show A.length + 1 + S1.length < 20 by omega) (by decide)), nI_clamp (show A.length + 1 + S1.length < 2 ^ 31 by omega), nI_clamp (show A.length < 2 ^ 31 by omega), (h.1.2.2 _ q hq).1, (h.1.2.2 _ q hq).2, (h.1.2.2 _ _ hn).2, nI_1, nI_eq (show q.2 < 2 ^ 31 by omega) (show d + 1 < 2 ^ 31 by omega), wM_isFull_53 (am_ok_nI hq1 (by decide)), nI_clamp (show q.1 < 2 ^ 31 by omega)]
    by_cases c : q.2 = d + 1
    · have e2 : (S1 ++ [q]).filter (fun q => q.2 == d + 1) = S1.filter (fun q => q.2 == d + 1) ++ [q] := by simp [List.filter_append, c]
      have hk : q.1 ∈ ts_kk s n := by
        rw [ekk, hS]
        refine List.mem_map.mpr ⟨q, ?_, rfl⟩
        rw [List.mem_filter]
        exact ⟨by simp, by simp [c]⟩
      have hp : ts_pa s q.1 = some n := fo_k_of hs.1 hk
      have hw := (h.2.2.2.2 q.1 hl).2.2.1 n hp
      obtain ⟨-, -, hwy⟩ := hs.2.2.2.2 q.1 n hp
      rw [e2, List.map_append, List.map_singleton, tq_cnt_c] at nx
      simp only [c, if_true, hw]
      have hcase : (ts_wy s q.1 < 3) = (ts_wy s q.1 = 0 ∨ ts_wy s q.1 = 1 ∨ ts_wy s q.1 = 2) := by
        rcases hwy with ⟨z, -⟩ | ⟨z, -⟩ | ⟨z | z, -⟩ | ⟨z, -⟩ <;> rw [z] <;> decide
      simp only [hcase]
      by_cases c3 : ts_wy s q.1 = 0 ∨ ts_wy s q.1 = 1 ∨ ts_wy s q.1 = 2
      · rw [if_pos c3] at nx
        simp only [c3, if_true, wM_isFull_0, wM_isFull_1, wM_isFull_2, wM_isFull_5, wM_isFull_6, wM_isFull_7, wM_isFull_8, wM_isFull_9, wM_isFull_10, wM_isFull_11, wM_isFull_15, wM_isFull_16, wM_isFull_17, wM_isFull_20, wM_isFull_23, wM_isFull_24, wM_isFull_25, wM_isFull_28, wM_isFull_31, wM_isFull_32, wM_isFull_35, wM_isFull_37, wM_isFull_38, wM_isFull_39, wM_isFull_42, wM_isFull_43, wM_isFull_46, wM_isFull_47, wM_isFull_50, wM_isFull_54, wM_isFull_55, wM_isFull_58, wM_isFull_59, wM_isFull_62, wM_isFull_63, wM_isFull_64, wM_isFull_65, wM_isFull_68, wM_isFull_71, wM_isFull_72, wM_isFull_73, wM_isFull_76, wM_isFull_78, wM_isFull_81, wM_isFull_82, wM_isFull_85, nI_1]
        exact nx
      · rw [if_neg c3, Nat.add_zero] at nx
        simp only [c3, if_false, wM_isFull_0, wM_isFull_1, wM_isFull_2, wM_isFull_5, wM_isFull_6, wM_isFull_7, wM_isFull_8, wM_isFull_9, wM_isFull_10, wM_isFull_11, wM_isFull_15, wM_isFull_16, wM_isFull_17, wM_isFull_20, wM_isFull_23, wM_isFull_24, wM_isFull_25, wM_isFull_28, wM_isFull_31, wM_isFull_32, wM_isFull_35, wM_isFull_37, wM_isFull_38, wM_isFull_39, wM_isFull_42, wM_isFull_43, wM_isFull_46, wM_isFull_47, wM_isFull_50, wM_isFull_54, wM_isFull_55, wM_isFull_58, wM_isFull_59, wM_isFull_62, wM_isFull_63, wM_isFull_64, wM_isFull_65, wM_isFull_68, wM_isFull_71, wM_isFull_72, wM_isFull_73, wM_isFull_76, wM_isFull_78, wM_isFull_81, wM_isFull_82, wM_isFull_85, nI_1, add0]
        exact nx
    · have e2 : (S1 ++ [q]).filter (fun q => q.2 == d + 1) = S1.filter (fun q => q.2 == d + 1) := by simp [List.filter_append, c]
      rw [e2] at nx
      simp only [c, if_false, wM_isFull_0, wM_isFull_1, wM_isFull_2, wM_isFull_5, wM_isFull_6, wM_isFull_7, wM_isFull_8, wM_isFull_9, wM_isFull_10, wM_isFull_11, wM_isFull_15, wM_isFull_16, wM_isFull_17, wM_isFull_20, wM_isFull_23, wM_isFull_24, wM_isFull_25, wM_isFull_28, wM_isFull_31, wM_isFull_32, wM_isFull_35, wM_isFull_37, wM_isFull_38, wM_isFull_39, wM_isFull_42, wM_isFull_43, wM_isFull_46, wM_isFull_47, wM_isFull_50, wM_isFull_54, wM_isFull_55, wM_isFull_58, wM_isFull_59, wM_isFull_62, wM_isFull_63, wM_isFull_64, wM_isFull_65, wM_isFull_68, wM_isFull_71, wM_isFull_72, wM_isFull_73, wM_isFull_76, wM_isFull_78, wM_isFull_81, wM_isFull_82, wM_isFull_85, nI_1, add0]
      exact nx
theorem mM_isFull (h : mp N s M) (hs : ts_ok s) (hn : ts_lv s n) : am_wp yM_isFull 0 [.inr (.inl (4, some N)), .inl (nI n), am_u, am_u, am_u] [] M K = K (some (.inl (am_b (tq_fu s n)))) M := by
  have ho := ml_ok_of hs
  have n20 := ts_20 hs hn
  obtain ⟨A, d, r, hL, hA⟩ := fo_split hn
  have hi : (ts_L s)[A.length]? = some (n, d) := by rw [hL]; simp
  simp only [wM_isFull_0, wM_isFull_1, wM_isFull_2, wM_isFull_5, wM_isFull_6, wM_isFull_7, wM_isFull_8, wM_isFull_9, wM_isFull_10, wM_isFull_11, wM_isFull_15, wM_isFull_16, wM_isFull_17, wM_isFull_20, wM_isFull_23, wM_isFull_24, wM_isFull_25, wM_isFull_28, wM_isFull_31, wM_isFull_32, wM_isFull_35, wM_isFull_37, wM_isFull_38, wM_isFull_39, wM_isFull_42, wM_isFull_43, wM_isFull_46, wM_isFull_47, wM_isFull_50, wM_isFull_54, wM_isFull_55, wM_isFull_58, wM_isFull_59, wM_isFull_62, wM_isFull_63, wM_isFull_64, wM_isFull_65, wM_isFull_68, wM_isFull_71, wM_isFull_72, wM_isFull_73, wM_isFull_76, wM_isFull_78, wM_isFull_81, wM_isFull_82, wM_isFull_85, mM_at h.1 ho hi, true_or, or_true, Option.toList_some, Option.toList_none, List.cons_append, List.nil_append, nI_1]
  have hms := (hs.2.2.2.1 n hn).2.1
  have hcnt : tq_cnt s (ts_kk s n) ≤ 20 := Nat.le_trans (List.length_filter_le _ _) (ts_kk_len hs n)
  have := mM_full_l (K := K) h hs hL hA (.inl (nI n)) (fo_sg d r) [] rfl (fun l4 => by
    simp only [wM_isFull_0, wM_isFull_1, wM_isFull_2, wM_isFull_5, wM_isFull_6, wM_isFull_7, wM_isFull_8, wM_isFull_9, wM_isFull_10, wM_isFull_11, wM_isFull_15, wM_isFull_16, wM_isFull_17, wM_isFull_20, wM_isFull_23, wM_isFull_24, wM_isFull_25, wM_isFull_28, wM_isFull_31, wM_isFull_32, wM_isFull_35, wM_isFull_37, wM_isFull_38, wM_isFull_39, wM_isFull_42, wM_isFull_43, wM_isFull_46, wM_isFull_47, wM_isFull_50, wM_isFull_54, wM_isFull_55, wM_isFull_58, wM_isFull_59, wM_isFull_62, wM_isFull_63, wM_isFull_64, wM_isFull_65, wM_isFull_68, wM_isFull_71, wM_isFull_72, wM_isFull_73, wM_isFull_76, wM_isFull_78, wM_isFull_81, wM_isFull_82, wM_isFull_85, h.1.1.2.2.2.1, wM_isFull_77 (am_ok_nI n20 (by decide)), nI_clamp (show n < 2 ^ 31 by omega), (h.2.2.2.2 n hn).2.1, nI_ltI (show tq_cnt s (ts_kk s n) < 2 ^ 31 by omega) (show ts_ms s n < 2 ^ 31 by omega)]
    unfold tq_fu
    by_cases c : tq_cnt s (ts_kk s n) < ts_ms s n
    · have : ¬ ts_ms s n ≤ tq_cnt s (ts_kk s n) := by omega
      simp [c, this, wM_isFull_85, wM_isFull_86, am_b]
    · have : ts_ms s n ≤ tq_cnt s (ts_kk s n) := by omega
      simp [c, this, wM_isFull_81, wM_isFull_82, wM_isFull_86, am_b])
  exact this
end MS
