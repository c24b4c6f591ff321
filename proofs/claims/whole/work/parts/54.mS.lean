-- THE REFERENCE: light; whether a thing is full
section MS
variable {N : Nat} {s : ts_S} {M M' : am_M} {K : Option am_V → am_M → Prop} {n p t : Nat}
theorem r0_neg (s : ts_S) (p t : Nat) (sg : Bool) : (tq_r0 s p t sg < 0) = (tq_ro s p t sg < 0) := by
  unfold tq_r0
  split
  · rename_i h; simp [h]
  · rename_i h; simp [h]
theorem ro_pos (hs : ts_ok s) (sg : Bool) : tq_ro s p t sg < 0 ∨ tq_ro s p t sg = 1 := by
  have bneg : ∀ x b, ts_pa s x = some b → (-10 : Int32) - nI b < 0 := fun x b hb => bar_neg b (pa_20 hs b hb)
  unfold tq_ro
  split
  · exact Or.inl (by decide)
  · split
    · rename_i hb
      obtain ⟨x, hx⟩ := tq_upl_pa _ _ hb
      exact Or.inl (bneg x _ hx)
    · split
      · rename_i hb
        obtain ⟨x, hx⟩ := tq_dnl_pa _ none _ (fun b hb => by cases hb) hb
        exact Or.inl (bneg x _ hx)
      · exact Or.inr rfl
theorem r0_zero (hs : ts_ok s) (sg : Bool) : (tq_r0 s p t sg = 0) = (0 < tq_ro s p t sg) := by
  unfold tq_r0
  rcases ro_pos (p := p) (t := t) hs sg with h | h
  · rw [if_pos h]
    apply propext
    constructor
    · intro z; rw [z] at h; exact absurd h (by decide)
    · intro z
      rw [Int32.lt_iff_toInt_lt] at h z
      omega
  · rw [h]; decide
theorem mM_touches (h : mp N s M) (hs : ts_ok s) (v w : Int32) (hK : ∀ M', mp N s M' → fx_f (mxR N) M M' → K (some (.inl (sp_touches s v w))) M') : am_wp yM_touches 0 [.inr (.inl (4, some N)), .inl v, .inl w, am_u] [] M K := by
  have h' := mp_th h
  unfold sp_touches at hK
  cases hv : ts_id s v with
  | none =>
    rw [hv] at hK
    simp [wM_touches_0, wM_touches_1, wM_touches_2, wM_touches_5, wM_touches_6, wM_touches_7, wM_touches_10, wM_touches_13, wM_touches_14, wM_touches_15, wM_touches_18, wM_touches_21, wM_touches_22, wM_touches_23, wM_touches_24, wM_touches_25, wM_touches_26, wM_touches_29, wM_touches_32, wM_touches_34, wM_touches_35, wM_touches_36, wM_touches_37, wM_touches_38, wM_touches_39, wM_touches_42, wM_touches_43, wM_touches_44, wM_touches_47, wM_touches_48, wM_touches_51, wM_touches_52, mM_is h' hs, hv, am_b]
    exact hK _ h' fx_th0
  | some p =>
    obtain ⟨rfl, hl, p20⟩ := ts_id_some hv
    cases hw : ts_id s w with
    | none =>
      rw [hv, hw] at hK
      simp [wM_touches_0, wM_touches_1, wM_touches_2, wM_touches_5, wM_touches_6, wM_touches_7, wM_touches_10, wM_touches_13, wM_touches_14, wM_touches_15, wM_touches_18, wM_touches_21, wM_touches_22, wM_touches_23, wM_touches_24, wM_touches_25, wM_touches_26, wM_touches_29, wM_touches_32, wM_touches_34, wM_touches_35, wM_touches_36, wM_touches_37, wM_touches_38, wM_touches_39, wM_touches_42, wM_touches_43, wM_touches_44, wM_touches_47, wM_touches_48, wM_touches_51, wM_touches_52, mM_is h' hs, hv, hw, am_b]
      exact hK _ h' fx_th0
    | some t =>
      obtain ⟨rfl, hm, t20⟩ := ts_id_some hw
      rw [hv, hw] at hK
      simp only at hK
      simp only [wM_touches_0, wM_touches_1, wM_touches_2, wM_touches_5, wM_touches_6, wM_touches_7, wM_touches_10, wM_touches_13, wM_touches_14, wM_touches_15, wM_touches_18, wM_touches_21, wM_touches_22, wM_touches_23, wM_touches_24, wM_touches_25, wM_touches_26, wM_touches_29, wM_touches_32, wM_touches_34, wM_touches_35, wM_touches_36, wM_touches_37, wM_touches_38, wM_touches_39, wM_touches_42, wM_touches_43, wM_touches_44, wM_touches_47, wM_touches_48, wM_touches_51, wM_touches_52, mM_is h' hs, hv, hw, Option.isSome_some, true_or, or_true, Option.toList_some, Option.toList_none, List.cons_append, List.nil_append, am_b0, reduceCtorEq, if_false, mM_of4 h' hs hl]
      cases c4 : ts_kd s p == 4 with
      | false =>
        rw [if_neg (by simpa using c4)] at hK
        simp only [if_true]
        exact hK _ h' fx_th0
      | true =>
        rw [if_pos (by simpa using c4)] at hK
        simp only [reduceCtorEq, if_false]
        refine mM_route h' hs hl hm false (fun M1 g1 f1 => ?_)
        simp only [wM_touches_0, wM_touches_1, wM_touches_2, wM_touches_5, wM_touches_6, wM_touches_7, wM_touches_10, wM_touches_13, wM_touches_14, wM_touches_15, wM_touches_18, wM_touches_21, wM_touches_22, wM_touches_23, wM_touches_24, wM_touches_25, wM_touches_26, wM_touches_29, wM_touches_32, wM_touches_34, wM_touches_35, wM_touches_36, wM_touches_37, wM_touches_38, wM_touches_39, wM_touches_42, wM_touches_43, wM_touches_44, wM_touches_47, wM_touches_48, wM_touches_51, wM_touches_52, true_or, or_true, Option.toList_some, Option.toList_none, List.cons_append, List.nil_append, r0_neg]
        rcases ro_pos (p := p) (t := t) hs false with z | z
        · simp only [z, if_true, wM_touches_0, wM_touches_1, wM_touches_2, wM_touches_5, wM_touches_6, wM_touches_7, wM_touches_10, wM_touches_13, wM_touches_14, wM_touches_15, wM_touches_18, wM_touches_21, wM_touches_22, wM_touches_23, wM_touches_24, wM_touches_25, wM_touches_26, wM_touches_29, wM_touches_32, wM_touches_34, wM_touches_35, wM_touches_36, wM_touches_37, wM_touches_38, wM_touches_39, wM_touches_42, wM_touches_43, wM_touches_44, wM_touches_47, wM_touches_48, wM_touches_51, wM_touches_52]
          rw [show tq_r0 s p t false = tq_ro s p t false by unfold tq_r0; rw [if_pos z]]
          exact hK M1 g1 (fx_f_tr fx_th0 f1)
        · simp only [z, show ¬ (1 : Int32) < 0 by decide, if_false, wM_touches_0, wM_touches_1, wM_touches_2, wM_touches_5, wM_touches_6, wM_touches_7, wM_touches_10, wM_touches_13, wM_touches_14, wM_touches_15, wM_touches_18, wM_touches_21, wM_touches_22, wM_touches_23, wM_touches_24, wM_touches_25, wM_touches_26, wM_touches_29, wM_touches_32, wM_touches_34, wM_touches_35, wM_touches_36, wM_touches_37, wM_touches_38, wM_touches_39, wM_touches_42, wM_touches_43, wM_touches_44, wM_touches_47, wM_touches_48, wM_touches_51, wM_touches_52]
          rw [z] at hK
          exact hK M1 g1 (fx_f_tr fx_th0 f1)
-- light
def tq_lx (s : ts_S) (p : Nat) (q : Nat × Nat) : Bool := ts_sh s q.1 && decide (0 < tq_ro s p q.1 true)
theorem tq_li_L (hs : ts_ok s) (p : Nat) : tq_li s p = (ts_L s).any (tq_lx s p) := by
  unfold tq_li
  apply Bool.eq_iff_iff.mpr
  simp only [List.any_eq_true]
  constructor
  · rintro ⟨x, hx, hq⟩
    unfold tq_ls at hq
    simp only [Bool.and_eq_true, decide_eq_true_eq] at hq
    obtain ⟨⟨h1, h2⟩, h3⟩ := hq
    obtain ⟨q, q1, rfl⟩ := List.mem_map.mp h1
    exact ⟨q, q1, by unfold tq_lx; simp [h2, h3]⟩
  · rintro ⟨q, hq, h1⟩
    have hl : ts_lv s q.1 := List.mem_map_of_mem hq
    unfold tq_lx at h1
    simp only [Bool.and_eq_true, decide_eq_true_eq] at h1
    refine ⟨q.1, List.mem_range.mpr (ts_20 hs hl), ?_⟩
    unfold tq_ls
    have hl' : q.1 ∈ (ts_L s).map (·.1) := hl
    simp [hl', h1.1, h1.2]
theorem mM_lt_l (hs : ts_ok s) (hp : ts_lv s p) : ∀ (L2 L1 : fo_L) (M : am_M) (l4 l5 : am_V), ts_L s = L1 ++ L2 → mp N s M → L1.any (tq_lx s p) = false ∨ L2 = L2 → ∀ b : Bool, b = L1.any (tq_lx s p) → (∀ M', mp N s M' → fx_f (mxR N) M M' → K (some (.inl (am_b (b || L2.any (tq_lx s p))))) M') → am_wp yM_hasLight 4 [.inr (.inl (4, some N)), .inl (nI p), .inl (am_b b), .inl (nI L1.length), l4, l5] [] M K := by
  have ho := ml_ok_of hs
  have h20 := ho.2.1
  intro L2
  induction L2 with
  | nil =>
    intro L1 M l4 l5 hL h _ b hb hK
    have e : (ts_L s).length = L1.length := by rw [hL]; simp
    rw [wM_hasLight_4]
    simp only [wM_hasLight_0, wM_hasLight_1, wM_hasLight_2, wM_hasLight_3, wM_hasLight_5, wM_hasLight_6, wM_hasLight_9, wM_hasLight_12, wM_hasLight_13, wM_hasLight_16, wM_hasLight_17, wM_hasLight_20, wM_hasLight_22, wM_hasLight_24, wM_hasLight_25, wM_hasLight_27, wM_hasLight_28, wM_hasLight_31, wM_hasLight_34, wM_hasLight_35, wM_hasLight_38, wM_hasLight_41, wM_hasLight_44, wM_hasLight_45, wM_hasLight_48, wM_hasLight_49, wM_hasLight_52, wM_hasLight_53, wM_hasLight_56, wM_hasLight_59, wM_hasLight_61, wM_hasLight_63, wM_hasLight_66, wM_hasLight_67, wM_hasLight_68, wM_hasLight_70, wM_hasLight_71, wM_hasLight_74, wM_hasLight_77, wM_hasLight_78, wM_hasLight_81, wM_hasLight_82, wM_hasLight_83, wM_hasLight_86, wM_hasLight_89, h.1.2.1, e, nI_nlt (Nat.le_refl L1.length) (show L1.length < 2 ^ 31 by omega), if_false, wM_hasLight_90 (am_b01 b)]
    have := hK M h (fx_f_rf M)
    simpa using this
  | cons q L2 ih =>
    intro L1 M l4 l5 hL h _ b hb hK
    have e : (ts_L s).length = L1.length + (L2.length + 1) := by rw [hL]; simp
    have hq : (ts_L s)[L1.length]? = some q := by rw [hL]; simp
    have hl : ts_lv s q.1 := List.mem_map_of_mem (ml_mem hq)
    have q20 := ts_20 hs hl
    rw [wM_hasLight_4]
    simp only [wM_hasLight_0, wM_hasLight_1, wM_hasLight_2, wM_hasLight_3, wM_hasLight_5, wM_hasLight_6, wM_hasLight_9, wM_hasLight_12, wM_hasLight_13, wM_hasLight_16, wM_hasLight_17, wM_hasLight_20, wM_hasLight_22, wM_hasLight_24, wM_hasLight_25, wM_hasLight_27, wM_hasLight_28, wM_hasLight_31, wM_hasLight_34, wM_hasLight_35, wM_hasLight_38, wM_hasLight_41, wM_hasLight_44, wM_hasLight_45, wM_hasLight_48, wM_hasLight_49, wM_hasLight_52, wM_hasLight_53, wM_hasLight_56, wM_hasLight_59, wM_hasLight_61, wM_hasLight_63, wM_hasLight_66, wM_hasLight_67, wM_hasLight_68, wM_hasLight_70, wM_hasLight_71, wM_hasLight_74, wM_hasLight_77, wM_hasLight_78, wM_hasLight_81, wM_hasLight_82, wM_hasLight_83, wM_hasLight_86, wM_hasLight_89, h.1.2.1, nI_lt (show L1.length < (ts_L s).length by omega) (show (ts_L s).length < 2 ^ 31 by omega), if_true, am_b0, h.1.1.1, h.1.1.2.2.2.2.2.2.2.1, h.1.1.2.2.2.2.2.2.2.2.1, wM_hasLight_21 (am_ok_nI (show L1.length < 20 by omega) (by decide)), nI_clamp (show L1.length < 2 ^ 31 by omega), (h.1.2.2 _ q hq).1, mM_of0 h hs hl, true_or, or_true, Option.toList_some, Option.toList_none, List.cons_append, List.nil_append, wM_hasLight_40 (am_ok_nI q20 (by decide)), wM_hasLight_58 (am_ok_nI q20 (by decide)), nI_clamp (show q.1 < 2 ^ 31 by omega)]
    cases cb : b with
    | true =>
      simp only [reduceCtorEq, if_false, wM_hasLight_89, am_bt, wM_hasLight_90 (show (1 : Int32) = 0 ∨ (1 : Int32) = 1 by decide)]
      have := hK M h (fx_f_rf M)
      rw [cb] at this
      simpa [am_b] using this
    | false =>
      simp only [if_true]
      have nx : ∀ (M' : am_M) (b' : Bool) (l4 l5 : am_V), mp N s M' → fx_f (mxR N) M M' → b' = tq_lx s p q → am_wp yM_hasLight 4 [.inr (.inl (4, some N)), .inl (nI p), .inl (am_b b'), .inl (nI (L1.length + 1)), l4, l5] [] M' K := by
        intro M' b' l4 l5 g f hb'
        have := ih (L1 ++ [q]) M' l4 l5 (by rw [hL]; simp) g (Or.inr rfl) b' (by rw [List.any_append, ← hb, cb, hb']; simp) (fun M2 g2 f2 => by
          have := hK M2 g2 (fx_f_tr f f2)
          rw [cb, List.any_cons, ← hb', Bool.false_or] at this
          exact this)
        rw [List.length_append, List.length_singleton] at this
        exact this
      have shines : ∀ (v : Bool), v = ts_sh s q.1 → am_wp yM_hasLight 59 [.inr (.inl (4, some N)), .inl (nI p), .inl (am_b false), .inl (nI L1.length), .inl (nI q.1), l5] [.inl (am_b v)] M K := by
        intro v hv
        simp only [wM_hasLight_0, wM_hasLight_1, wM_hasLight_2, wM_hasLight_3, wM_hasLight_5, wM_hasLight_6, wM_hasLight_9, wM_hasLight_12, wM_hasLight_13, wM_hasLight_16, wM_hasLight_17, wM_hasLight_20, wM_hasLight_22, wM_hasLight_24, wM_hasLight_25, wM_hasLight_27, wM_hasLight_28, wM_hasLight_31, wM_hasLight_34, wM_hasLight_35, wM_hasLight_38, wM_hasLight_41, wM_hasLight_44, wM_hasLight_45, wM_hasLight_48, wM_hasLight_49, wM_hasLight_52, wM_hasLight_53, wM_hasLight_56, wM_hasLight_59, wM_hasLight_61, wM_hasLight_63, wM_hasLight_66, wM_hasLight_67, wM_hasLight_68, wM_hasLight_70, wM_hasLight_71, wM_hasLight_74, wM_hasLight_77, wM_hasLight_78, wM_hasLight_81, wM_hasLight_82, wM_hasLight_83, wM_hasLight_86, wM_hasLight_89, am_b0]
        cases cv : v with
        | false =>
          simp only [if_true, wM_hasLight_0, wM_hasLight_1, wM_hasLight_2, wM_hasLight_3, wM_hasLight_5, wM_hasLight_6, wM_hasLight_9, wM_hasLight_12, wM_hasLight_13, wM_hasLight_16, wM_hasLight_17, wM_hasLight_20, wM_hasLight_22, wM_hasLight_24, wM_hasLight_25, wM_hasLight_27, wM_hasLight_28, wM_hasLight_31, wM_hasLight_34, wM_hasLight_35, wM_hasLight_38, wM_hasLight_41, wM_hasLight_44, wM_hasLight_45, wM_hasLight_48, wM_hasLight_49, wM_hasLight_52, wM_hasLight_53, wM_hasLight_56, wM_hasLight_59, wM_hasLight_61, wM_hasLight_63, wM_hasLight_66, wM_hasLight_67, wM_hasLight_68, wM_hasLight_70, wM_hasLight_71, wM_hasLight_74, wM_hasLight_77, wM_hasLight_78, wM_hasLight_81, wM_hasLight_82, wM_hasLight_83, wM_hasLight_86, wM_hasLight_89, nI_1]
          exact nx M false _ _ h (fx_f_rf M) (by unfold tq_lx; rw [← hv, cv]; rfl)
        | true =>
          simp only [reduceCtorEq, if_false, wM_hasLight_0, wM_hasLight_1, wM_hasLight_2, wM_hasLight_3, wM_hasLight_5, wM_hasLight_6, wM_hasLight_9, wM_hasLight_12, wM_hasLight_13, wM_hasLight_16, wM_hasLight_17, wM_hasLight_20, wM_hasLight_22, wM_hasLight_24, wM_hasLight_25, wM_hasLight_27, wM_hasLight_28, wM_hasLight_31, wM_hasLight_34, wM_hasLight_35, wM_hasLight_38, wM_hasLight_41, wM_hasLight_44, wM_hasLight_45, wM_hasLight_48, wM_hasLight_49, wM_hasLight_52, wM_hasLight_53, wM_hasLight_56, wM_hasLight_59, wM_hasLight_61, wM_hasLight_63, wM_hasLight_66, wM_hasLight_67, wM_hasLight_68, wM_hasLight_70, wM_hasLight_71, wM_hasLight_74, wM_hasLight_77, wM_hasLight_78, wM_hasLight_81, wM_hasLight_82, wM_hasLight_83, wM_hasLight_86, wM_hasLight_89]
          refine mM_route h hs hp hl true (fun M1 g1 f1 => ?_)
          simp only [wM_hasLight_0, wM_hasLight_1, wM_hasLight_2, wM_hasLight_3, wM_hasLight_5, wM_hasLight_6, wM_hasLight_9, wM_hasLight_12, wM_hasLight_13, wM_hasLight_16, wM_hasLight_17, wM_hasLight_20, wM_hasLight_22, wM_hasLight_24, wM_hasLight_25, wM_hasLight_27, wM_hasLight_28, wM_hasLight_31, wM_hasLight_34, wM_hasLight_35, wM_hasLight_38, wM_hasLight_41, wM_hasLight_44, wM_hasLight_45, wM_hasLight_48, wM_hasLight_49, wM_hasLight_52, wM_hasLight_53, wM_hasLight_56, wM_hasLight_59, wM_hasLight_61, wM_hasLight_63, wM_hasLight_66, wM_hasLight_67, wM_hasLight_68, wM_hasLight_70, wM_hasLight_71, wM_hasLight_74, wM_hasLight_77, wM_hasLight_78, wM_hasLight_81, wM_hasLight_82, wM_hasLight_83, wM_hasLight_86, wM_hasLight_89, true_or, or_true, Option.toList_some, Option.toList_none, List.cons_append, List.nil_append, r0_zero hs]
          by_cases c : 0 < tq_ro s p q.1 true
          · simp only [c, if_true, wM_hasLight_0, wM_hasLight_1, wM_hasLight_2, wM_hasLight_3, wM_hasLight_5, wM_hasLight_6, wM_hasLight_9, wM_hasLight_12, wM_hasLight_13, wM_hasLight_16, wM_hasLight_17, wM_hasLight_20, wM_hasLight_22, wM_hasLight_24, wM_hasLight_25, wM_hasLight_27, wM_hasLight_28, wM_hasLight_31, wM_hasLight_34, wM_hasLight_35, wM_hasLight_38, wM_hasLight_41, wM_hasLight_44, wM_hasLight_45, wM_hasLight_48, wM_hasLight_49, wM_hasLight_52, wM_hasLight_53, wM_hasLight_56, wM_hasLight_59, wM_hasLight_61, wM_hasLight_63, wM_hasLight_66, wM_hasLight_67, wM_hasLight_68, wM_hasLight_70, wM_hasLight_71, wM_hasLight_74, wM_hasLight_77, wM_hasLight_78, wM_hasLight_81, wM_hasLight_82, wM_hasLight_83, wM_hasLight_86, wM_hasLight_89, nI_1]
            exact nx M1 true _ _ g1 f1 (by unfold tq_lx; rw [← hv, cv]; simp [c])
          · simp only [c, if_false, wM_hasLight_0, wM_hasLight_1, wM_hasLight_2, wM_hasLight_3, wM_hasLight_5, wM_hasLight_6, wM_hasLight_9, wM_hasLight_12, wM_hasLight_13, wM_hasLight_16, wM_hasLight_17, wM_hasLight_20, wM_hasLight_22, wM_hasLight_24, wM_hasLight_25, wM_hasLight_27, wM_hasLight_28, wM_hasLight_31, wM_hasLight_34, wM_hasLight_35, wM_hasLight_38, wM_hasLight_41, wM_hasLight_44, wM_hasLight_45, wM_hasLight_48, wM_hasLight_49, wM_hasLight_52, wM_hasLight_53, wM_hasLight_56, wM_hasLight_59, wM_hasLight_61, wM_hasLight_63, wM_hasLight_66, wM_hasLight_67, wM_hasLight_68, wM_hasLight_70, wM_hasLight_71, wM_hasLight_74, wM_hasLight_77, wM_hasLight_78, wM_hasLight_81, wM_hasLight_82, wM_hasLight_83, wM_hasLight_86, wM_hasLight_89, nI_1]
            exact nx M1 false _ _ g1 f1 (by unfold tq_lx; rw [← hv, cv]; simp [c])
      cases c0 : ts_kd s q.1 == 0 with
      | true =>
        have k0 : ts_kd s q.1 = 0 := by simpa using c0
        rw [(h.2.2.2.2 q.1 hl).2.2.2.2.2.1 k0]
        simp only [reduceCtorEq, if_false, am_b0]
        cases csh : ts_sh s q.1 with
        | true => simp only [Bool.not_true, if_true, wM_hasLight_0, wM_hasLight_1, wM_hasLight_2, wM_hasLight_3, wM_hasLight_5, wM_hasLight_6, wM_hasLight_9, wM_hasLight_12, wM_hasLight_13, wM_hasLight_16, wM_hasLight_17, wM_hasLight_20, wM_hasLight_22, wM_hasLight_24, wM_hasLight_25, wM_hasLight_27, wM_hasLight_28, wM_hasLight_31, wM_hasLight_34, wM_hasLight_35, wM_hasLight_38, wM_hasLight_41, wM_hasLight_44, wM_hasLight_45, wM_hasLight_48, wM_hasLight_49, wM_hasLight_52, wM_hasLight_53, wM_hasLight_56, wM_hasLight_61, wM_hasLight_63, wM_hasLight_66, wM_hasLight_67, wM_hasLight_68, wM_hasLight_70, wM_hasLight_71, wM_hasLight_74, wM_hasLight_77, wM_hasLight_78, wM_hasLight_81, wM_hasLight_82, wM_hasLight_83, wM_hasLight_86, wM_hasLight_89]; exact shines true csh.symm
        | false => simp only [Bool.not_false, reduceCtorEq, if_false, wM_hasLight_0, wM_hasLight_1, wM_hasLight_2, wM_hasLight_3, wM_hasLight_5, wM_hasLight_6, wM_hasLight_9, wM_hasLight_12, wM_hasLight_13, wM_hasLight_16, wM_hasLight_17, wM_hasLight_20, wM_hasLight_22, wM_hasLight_24, wM_hasLight_25, wM_hasLight_27, wM_hasLight_28, wM_hasLight_31, wM_hasLight_34, wM_hasLight_35, wM_hasLight_38, wM_hasLight_41, wM_hasLight_44, wM_hasLight_45, wM_hasLight_48, wM_hasLight_49, wM_hasLight_52, wM_hasLight_53, wM_hasLight_56, wM_hasLight_61, wM_hasLight_63, wM_hasLight_66, wM_hasLight_67, wM_hasLight_68, wM_hasLight_70, wM_hasLight_71, wM_hasLight_74, wM_hasLight_77, wM_hasLight_78, wM_hasLight_81, wM_hasLight_82, wM_hasLight_83, wM_hasLight_86, wM_hasLight_89]; exact shines false csh.symm
      | false =>
        have k0 : ¬ ts_kd s q.1 = 0 := by simpa using c0
        rw [(h.2.2.2.2 q.1 hl).2.2.2.2.2.2.1 k0]
        simp only [if_true]
        exact shines _ rfl
end MS
