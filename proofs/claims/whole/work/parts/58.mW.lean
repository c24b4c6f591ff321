-- THE REFERENCE: open, clears, lit, glows, spread
section MW
variable {N : Nat} {s : ts_S} {M M' : am_M} {K : Option am_V → am_M → Prop} {n : Nat}
theorem mp_st {s' : ts_S} (h : mp N s M) (e1 : ts_L s' = ts_L s) (e2 : ts_m s' = ts_m s) (e3 : ts_t s' = ts_t s) (e4 : ts_ch s' = ts_ch s) (hM : me (fun b _ => N + 3 ≤ b ∧ b ≤ N + 10) M M') (ho : ∀ x, ts_lv s x → mp_o N s' M' x) : mp N s' M' := by
  have g := hM.2.2.2.2
  refine ⟨⟨me_s hM h.1.1, ?_, fun j q hj => ?_⟩, ?_, ?_, fun j hj => ?_, fun x hx => ?_⟩
  · rw [g N 4 (by omega), e1]; exact h.1.2.1
  · rw [e1] at hj
    rw [g (N + 1) j (by omega), g (N + 2) j (by omega)]; exact h.1.2.2 j q hj
  · rw [g N 1 (by omega), e2]; exact h.2.1
  · rw [g N 15 (by omega), e3]; exact h.2.2.1
  · rw [g (N + 12) j (by omega), e4]; exact h.2.2.2.1 j hj
  · exact ho x (by unfold ts_lv at hx ⊢; rw [e1] at hx; exact hx)
theorem mp_cl (h : mp N s M) (b : Bool) : mp N (ts_setcl s n b) (am_si M (N + 6) n (am_b b)) := by
  refine mp_st (s' := ts_setcl s n b) h rfl rfl rfl rfl (me_si (by omega)) (fun x hx => ?_)
  have o := h.2.2.2.2 x hx
  unfold mp_o at o ⊢
  refine ⟨?_, ?_, ?_, ?_, ?_, ?_, ?_, ?_⟩
  · rw [am_mi_si, if_neg (by omega)]; exact o.1
  · rw [am_mi_si, if_neg (by omega)]; exact o.2.1
  · intro p hp; rw [am_mi_si, if_neg (by omega)]; exact o.2.2.1 p hp
  · rw [am_mi_si]
    show _ = am_b (if x = n then b else ts_cl s x)
    by_cases c : x = n
    · rw [if_pos ⟨rfl, c⟩, if_pos c]
    · rw [if_neg (fun q => c q.2), if_neg c]; exact o.2.2.2.1
  · rw [am_mi_si, if_neg (by omega)]; exact o.2.2.2.2.1
  · intro z; rw [am_mi_si, if_neg (by omega)]; exact o.2.2.2.2.2.1 z
  · intro z; rw [am_mi_si, if_neg (by omega)]; exact o.2.2.2.2.2.2.1 z
  · intro r hr hl; rw [am_mi_si, if_neg (by omega)]; exact o.2.2.2.2.2.2.2 r hr hl
theorem mp_cr (h : mp N s M) (b : Bool) : mp N (ts_setcr s n b) (am_si M (N + 7) n (am_b b)) := by
  refine mp_st (s' := ts_setcr s n b) h rfl rfl rfl rfl (me_si (by omega)) (fun x hx => ?_)
  have o := h.2.2.2.2 x hx
  unfold mp_o at o ⊢
  refine ⟨?_, ?_, ?_, ?_, ?_, ?_, ?_, ?_⟩
  · rw [am_mi_si, if_neg (by omega)]; exact o.1
  · rw [am_mi_si, if_neg (by omega)]; exact o.2.1
  · intro p hp; rw [am_mi_si, if_neg (by omega)]; exact o.2.2.1 p hp
  · rw [am_mi_si, if_neg (by omega)]; exact o.2.2.2.1
  · rw [am_mi_si]
    show _ = am_b (if x = n then b else ts_cr s x)
    by_cases c : x = n
    · rw [if_pos ⟨rfl, c⟩, if_pos c]
    · rw [if_neg (fun q => c q.2), if_neg c]; exact o.2.2.2.2.1
  · intro z; rw [am_mi_si, if_neg (by omega)]; exact o.2.2.2.2.2.1 z
  · intro z; rw [am_mi_si, if_neg (by omega)]; exact o.2.2.2.2.2.2.1 z
  · intro r hr hl; rw [am_mi_si, if_neg (by omega)]; exact o.2.2.2.2.2.2.2 r hr hl
theorem mp_dk (h : mp N s M) (hk : ts_kd s n = 0) (b : Bool) : mp N (ts_setsh s n b) (am_si M (N + 8) n (am_b (!b))) := by
  refine mp_st (s' := ts_setsh s n b) h rfl rfl rfl rfl (me_si (by omega)) (fun x hx => ?_)
  have o := h.2.2.2.2 x hx
  unfold mp_o at o ⊢
  refine ⟨?_, ?_, ?_, ?_, ?_, ?_, ?_, ?_⟩
  · rw [am_mi_si, if_neg (by omega)]; exact o.1
  · rw [am_mi_si, if_neg (by omega)]; exact o.2.1
  · intro p hp; rw [am_mi_si, if_neg (by omega)]; exact o.2.2.1 p hp
  · rw [am_mi_si, if_neg (by omega)]; exact o.2.2.2.1
  · rw [am_mi_si, if_neg (by omega)]; exact o.2.2.2.2.1
  · intro z
    rw [am_mi_si]
    show _ = am_b (!(if x = n then b else ts_sh s x))
    by_cases c : x = n
    · rw [if_pos ⟨rfl, c⟩, if_pos c]
    · rw [if_neg (fun q => c q.2), if_neg c]; exact o.2.2.2.2.2.1 z
  · intro z
    rw [am_mi_si, if_neg (by omega)]
    show _ = am_b (if x = n then b else ts_sh s x)
    rw [if_neg (fun q => z (by rw [q]; exact hk))]; exact o.2.2.2.2.2.2.1 z
  · intro r hr hl; rw [am_mi_si, if_neg (by omega)]; exact o.2.2.2.2.2.2.2 r hr hl
theorem mp_gl (h : mp N s M) (hk : ¬ ts_kd s n = 0) (b : Bool) : mp N (ts_setsh s n b) (am_si M (N + 9) n (am_b b)) := by
  refine mp_st (s' := ts_setsh s n b) h rfl rfl rfl rfl (me_si (by omega)) (fun x hx => ?_)
  have o := h.2.2.2.2 x hx
  unfold mp_o at o ⊢
  refine ⟨?_, ?_, ?_, ?_, ?_, ?_, ?_, ?_⟩
  · rw [am_mi_si, if_neg (by omega)]; exact o.1
  · rw [am_mi_si, if_neg (by omega)]; exact o.2.1
  · intro p hp; rw [am_mi_si, if_neg (by omega)]; exact o.2.2.1 p hp
  · rw [am_mi_si, if_neg (by omega)]; exact o.2.2.2.1
  · rw [am_mi_si, if_neg (by omega)]; exact o.2.2.2.2.1
  · intro z
    rw [am_mi_si, if_neg (by omega)]
    show _ = am_b (!(if x = n then b else ts_sh s x))
    have z' : ts_kd s x = 0 := z
    rw [if_neg (fun q => hk (by rw [← q]; exact z'))]; exact o.2.2.2.2.2.1 z
  · intro z
    rw [am_mi_si]
    show _ = am_b (if x = n then b else ts_sh s x)
    by_cases c : x = n
    · rw [if_pos ⟨rfl, c⟩, if_pos c]
    · rw [if_neg (fun q => c q.2), if_neg c]; exact o.2.2.2.2.2.2.1 z
  · intro r hr hl; rw [am_mi_si, if_neg (by omega)]; exact o.2.2.2.2.2.2.2 r hr hl
theorem mp_spx (h : mp N s M) {l : Nat} (hl20 : l < 20) (hll : ts_lv s l) (hn : ts_lv s n) (x0 : Int32) (hx0 : x0 = am_mi M (N + 10) n) : mp N (ts_setsp s n l (!(ts_sp s n l))) (am_si M (N + 10) n (x0 ^^^ (1 : Int32) <<< (nI l &&& 31))) := by
  refine mp_st (s' := ts_setsp s n l (!(ts_sp s n l))) h rfl rfl rfl rfl (me_si (by omega)) (fun x hx => ?_)
  have o := h.2.2.2.2 x hx
  unfold mp_o at o ⊢
  refine ⟨?_, ?_, ?_, ?_, ?_, ?_, ?_, ?_⟩
  · rw [am_mi_si, if_neg (by omega)]; exact o.1
  · rw [am_mi_si, if_neg (by omega)]; exact o.2.1
  · intro p hp; rw [am_mi_si, if_neg (by omega)]; exact o.2.2.1 p hp
  · rw [am_mi_si, if_neg (by omega)]; exact o.2.2.2.1
  · rw [am_mi_si, if_neg (by omega)]; exact o.2.2.2.2.1
  · intro z; rw [am_mi_si, if_neg (by omega)]; exact o.2.2.2.2.2.1 z
  · intro z; rw [am_mi_si, if_neg (by omega)]; exact o.2.2.2.2.2.2.1 z
  · intro r hr hl
    rw [am_mi_si]
    show _ = (if x = n ∧ r = l then (!(ts_sp s n l)) else ts_sp s x r)
    have o8 := o.2.2.2.2.2.2.2 r hr hl
    by_cases c : x = n
    · rw [if_pos ⟨rfl, c⟩, rb_x hl20 hr, hx0]
      subst c
      rw [o8]
      by_cases c2 : r = l
      · subst c2; simp
      · simp [c2]
    · rw [if_neg (fun q => c q.2), if_neg (fun q => c q.1)]; exact o8
theorem ts_setcl_id {b : Bool} (h : ts_cl s n = b) : ts_setcl s n b = s := by
  obtain ⟨a1, a2, a3, a4, a5, a6, a7⟩ := s
  have h' : a6 n = b := h
  simp only [ts_setcl]
  congr 6
  funext k
  by_cases c : k = n
  · rw [if_pos c, c, h']
  · rw [if_neg c]
theorem ts_setcr_id {b : Bool} (h : ts_cr s n = b) : ts_setcr s n b = s := by
  obtain ⟨a1, a2, a3, a4, a5, a6, a7, a8⟩ := s
  have h' : a7 n = b := h
  simp only [ts_setcr]
  congr 7
  funext k
  by_cases c : k = n
  · rw [if_pos c, c, h']
  · rw [if_neg c]
theorem ts_setsh_id {b : Bool} (h : ts_sh s n = b) : ts_setsh s n b = s := by
  obtain ⟨a1, a2, a3, a4, a5, a6, a7, a8, a9⟩ := s
  have h' : a8 n = b := h
  simp only [ts_setsh]
  congr 8
  funext k
  by_cases c : k = n
  · rw [if_pos c, c, h']
  · rw [if_neg c]
theorem fx_mx {j : Nat} {x : Int32} (b : Nat) (hb : N ≤ b ∧ b ≤ N + 15) : fx_f (mxR N) (am_si M N 0 0) (am_si (am_si M N 0 0) b j x) := fx_f_si hb
theorem mM_open (h : mp N s M) (hs : ts_ok s) (v : Int32) (on : Bool) (hK : ∀ M', mp N (sp_open s v on).2 M' → fx_f (mxR N) M M' → K (some (.inl (sp_open s v on).1)) M') : am_wp yM_open 0 [.inr (.inl (4, some N)), .inl v, .inl (am_b on), am_u] [] M K := by
  have h' := mp_th h
  have f0 : fx_f (mxR N) M (am_si M N 0 0) := fx_th0
  unfold sp_open at hK
  cases hv : ts_id s v with
  | none =>
    rw [hv] at hK
    simpa [wM_open_0, wM_open_1, wM_open_2, wM_open_5, wM_open_6, wM_open_7, wM_open_10, wM_open_13, wM_open_14, wM_open_15, wM_open_16, wM_open_17, wM_open_18, wM_open_21, wM_open_24, wM_open_26, wM_open_27, wM_open_28, wM_open_31, wM_open_33, wM_open_34, wM_open_37, wM_open_38, wM_open_41, wM_open_42, wM_open_43, wM_open_44, wM_open_47, wM_open_48, wM_open_49, wM_open_52, wM_open_53, wM_open_56, wM_open_58, wM_open_59, mM_is h' hs, hv, am_b] using hK _ h' f0
  | some n =>
    obtain ⟨rfl, hl, h20⟩ := ts_id_some hv
    rw [hv] at hK
    have o6 := (h'.2.2.2.2 n hl).2.2.2.1
    simp only [wM_open_0, wM_open_1, wM_open_2, wM_open_5, wM_open_6, wM_open_7, wM_open_10, wM_open_13, wM_open_14, wM_open_15, wM_open_16, wM_open_17, wM_open_18, wM_open_21, wM_open_24, wM_open_26, wM_open_27, wM_open_28, wM_open_31, wM_open_33, wM_open_34, wM_open_37, wM_open_38, wM_open_41, wM_open_42, wM_open_43, wM_open_44, wM_open_47, wM_open_48, wM_open_49, wM_open_52, wM_open_53, wM_open_56, wM_open_58, wM_open_59, mM_is h' hs, hv, Option.isSome_some, true_or, or_true, Option.toList_some, Option.toList_none, List.cons_append, List.nil_append, am_b0, reduceCtorEq, if_false, mM_of2 h' hs hl, h'.1.1.2.2.2.2.2.1, wM_open_32 (am_ok_nI h20 (by decide)), wM_open_57 (am_ok_nI h20 (by decide)) (Or.inr rfl), wM_open_57 (am_ok_nI h20 (by decide)) (Or.inl rfl), nI_clamp (show n < 2 ^ 31 by omega), o6, am_bi]
    by_cases c : ts_kd s n = 2
    · have hm := mp_cl (n := n) h' (!on)
      have f1 := fx_f_tr f0 (fx_mx (j := n) (x := am_b (!on)) (N + 6) (by omega))
      by_cases c2 : ts_cl s n = on
      · simp only [c, if_true, c2] at hK
        have := hK _ hm f1
        cases on <;> simpa [c, c2, wM_open_0, wM_open_1, wM_open_2, wM_open_5, wM_open_6, wM_open_7, wM_open_10, wM_open_13, wM_open_14, wM_open_15, wM_open_16, wM_open_17, wM_open_18, wM_open_21, wM_open_24, wM_open_26, wM_open_27, wM_open_28, wM_open_31, wM_open_33, wM_open_34, wM_open_37, wM_open_38, wM_open_41, wM_open_42, wM_open_43, wM_open_44, wM_open_47, wM_open_48, wM_open_49, wM_open_52, wM_open_53, wM_open_56, wM_open_58, wM_open_59, am_b] using this
      · simp only [c, if_true, c2, if_false] at hK
        rw [ts_setcl_id (by revert c2; cases ts_cl s n <;> cases on <;> simp)] at hm
        have := hK _ hm f1
        cases on <;> simpa [c, c2, wM_open_0, wM_open_1, wM_open_2, wM_open_5, wM_open_6, wM_open_7, wM_open_10, wM_open_13, wM_open_14, wM_open_15, wM_open_16, wM_open_17, wM_open_18, wM_open_21, wM_open_24, wM_open_26, wM_open_27, wM_open_28, wM_open_31, wM_open_33, wM_open_34, wM_open_37, wM_open_38, wM_open_41, wM_open_42, wM_open_43, wM_open_44, wM_open_47, wM_open_48, wM_open_49, wM_open_52, wM_open_53, wM_open_56, wM_open_58, wM_open_59, am_b] using this
    · simp only [c, if_false] at hK
      simpa [c] using hK _ h' f0
theorem mM_clears (h : mp N s M) (hs : ts_ok s) (v : Int32) (on : Bool) (hK : ∀ M', mp N (sp_clears s v on).2 M' → fx_f (mxR N) M M' → K (some (.inl (sp_clears s v on).1)) M') : am_wp yM_clears 0 [.inr (.inl (4, some N)), .inl v, .inl (am_b on), am_u] [] M K := by
  have h' := mp_th h
  have f0 : fx_f (mxR N) M (am_si M N 0 0) := fx_th0
  unfold sp_clears at hK
  cases hv : ts_id s v with
  | none =>
    rw [hv] at hK
    simpa [wM_clears_0, wM_clears_1, wM_clears_2, wM_clears_5, wM_clears_6, wM_clears_7, wM_clears_10, wM_clears_13, wM_clears_14, wM_clears_15, wM_clears_16, wM_clears_17, wM_clears_18, wM_clears_21, wM_clears_24, wM_clears_26, wM_clears_27, wM_clears_28, wM_clears_31, wM_clears_33, wM_clears_34, wM_clears_37, wM_clears_38, wM_clears_41, wM_clears_42, wM_clears_43, wM_clears_44, wM_clears_47, wM_clears_48, wM_clears_50, wM_clears_51, mM_is h' hs, hv, am_b] using hK _ h' f0
  | some n =>
    obtain ⟨rfl, hl, h20⟩ := ts_id_some hv
    rw [hv] at hK
    have o6 := (h'.2.2.2.2 n hl).2.2.2.2.1
    simp only [wM_clears_0, wM_clears_1, wM_clears_2, wM_clears_5, wM_clears_6, wM_clears_7, wM_clears_10, wM_clears_13, wM_clears_14, wM_clears_15, wM_clears_16, wM_clears_17, wM_clears_18, wM_clears_21, wM_clears_24, wM_clears_26, wM_clears_27, wM_clears_28, wM_clears_31, wM_clears_33, wM_clears_34, wM_clears_37, wM_clears_38, wM_clears_41, wM_clears_42, wM_clears_43, wM_clears_44, wM_clears_47, wM_clears_48, wM_clears_50, wM_clears_51, mM_is h' hs, hv, Option.isSome_some, true_or, or_true, Option.toList_some, Option.toList_none, List.cons_append, List.nil_append, am_b0, reduceCtorEq, if_false, mM_of2 h' hs hl, h'.1.1.2.2.2.2.2.2.1, wM_clears_32 (am_ok_nI h20 (by decide)), wM_clears_49 (am_ok_nI h20 (by decide)) (am_b01 on), nI_clamp (show n < 2 ^ 31 by omega), o6, am_bi]
    by_cases c : ts_kd s n = 2
    · have hm := mp_cr (n := n) h' on
      have f1 := fx_f_tr f0 (fx_mx (j := n) (x := am_b on) (N + 7) (by omega))
      by_cases c2 : ts_cr s n = on
      · simp only [c, if_true, c2] at hK
        rw [ts_setcr_id c2] at hm
        have := hK _ hm f1
        simpa [c, c2, wM_clears_0, wM_clears_1, wM_clears_2, wM_clears_5, wM_clears_6, wM_clears_7, wM_clears_10, wM_clears_13, wM_clears_14, wM_clears_15, wM_clears_16, wM_clears_17, wM_clears_18, wM_clears_21, wM_clears_24, wM_clears_26, wM_clears_27, wM_clears_28, wM_clears_31, wM_clears_33, wM_clears_34, wM_clears_37, wM_clears_38, wM_clears_41, wM_clears_42, wM_clears_43, wM_clears_44, wM_clears_47, wM_clears_48, wM_clears_50, wM_clears_51] using this
      · simp only [c, if_true, c2, if_false] at hK
        have := hK _ hm f1
        simpa [c, c2, wM_clears_0, wM_clears_1, wM_clears_2, wM_clears_5, wM_clears_6, wM_clears_7, wM_clears_10, wM_clears_13, wM_clears_14, wM_clears_15, wM_clears_16, wM_clears_17, wM_clears_18, wM_clears_21, wM_clears_24, wM_clears_26, wM_clears_27, wM_clears_28, wM_clears_31, wM_clears_33, wM_clears_34, wM_clears_37, wM_clears_38, wM_clears_41, wM_clears_42, wM_clears_43, wM_clears_44, wM_clears_47, wM_clears_48, wM_clears_50, wM_clears_51] using this
    · simp only [c, if_false] at hK
      simpa [c] using hK _ h' f0
theorem mM_lit (h : mp N s M) (hs : ts_ok s) (v : Int32) (on : Bool) (hK : ∀ M', mp N (sp_lit s v on).2 M' → fx_f (mxR N) M M' → K (some (.inl (sp_lit s v on).1)) M') : am_wp yM_lit 0 [.inr (.inl (4, some N)), .inl v, .inl (am_b on), am_u] [] M K := by
  have h' := mp_th h
  have f0 : fx_f (mxR N) M (am_si M N 0 0) := fx_th0
  unfold sp_lit at hK
  cases hv : ts_id s v with
  | none =>
    rw [hv] at hK
    simpa [wM_lit_0, wM_lit_1, wM_lit_2, wM_lit_5, wM_lit_6, wM_lit_7, wM_lit_10, wM_lit_13, wM_lit_14, wM_lit_15, wM_lit_16, wM_lit_17, wM_lit_18, wM_lit_21, wM_lit_24, wM_lit_26, wM_lit_27, wM_lit_28, wM_lit_31, wM_lit_33, wM_lit_34, wM_lit_37, wM_lit_38, wM_lit_41, wM_lit_42, wM_lit_43, wM_lit_44, wM_lit_47, wM_lit_48, wM_lit_49, wM_lit_52, wM_lit_53, wM_lit_56, wM_lit_58, wM_lit_59, mM_is h' hs, hv, am_b] using hK _ h' f0
  | some n =>
    obtain ⟨rfl, hl, h20⟩ := ts_id_some hv
    rw [hv] at hK
    simp only [wM_lit_0, wM_lit_1, wM_lit_2, wM_lit_5, wM_lit_6, wM_lit_7, wM_lit_10, wM_lit_13, wM_lit_14, wM_lit_15, wM_lit_16, wM_lit_17, wM_lit_18, wM_lit_21, wM_lit_24, wM_lit_26, wM_lit_27, wM_lit_28, wM_lit_31, wM_lit_33, wM_lit_34, wM_lit_37, wM_lit_38, wM_lit_41, wM_lit_42, wM_lit_43, wM_lit_44, wM_lit_47, wM_lit_48, wM_lit_49, wM_lit_52, wM_lit_53, wM_lit_56, wM_lit_58, wM_lit_59, mM_is h' hs, hv, Option.isSome_some, true_or, or_true, Option.toList_some, Option.toList_none, List.cons_append, List.nil_append, am_b0, reduceCtorEq, if_false, mM_of0 h' hs hl, h'.1.1.2.2.2.2.2.2.2.1, wM_lit_32 (am_ok_nI h20 (by decide)), wM_lit_57 (am_ok_nI h20 (by decide)) (Or.inr rfl), wM_lit_57 (am_ok_nI h20 (by decide)) (Or.inl rfl), nI_clamp (show n < 2 ^ 31 by omega)]
    by_cases c : ts_kd s n = 0
    · have o6 := (h'.2.2.2.2 n hl).2.2.2.2.2.1 c
      have hm := mp_dk (n := n) h' c on
      have f1 := fx_f_tr f0 (fx_mx (j := n) (x := am_b (!on)) (N + 8) (by omega))
      simp only [c, if_true, sp_shine] at hK
      by_cases c2 : ts_sh s n = on
      · simp only [c2, if_true] at hK
        rw [ts_setsh_id c2] at hm
        have := hK _ hm f1
        cases on <;> simpa [c, c2, o6, wM_lit_0, wM_lit_1, wM_lit_2, wM_lit_5, wM_lit_6, wM_lit_7, wM_lit_10, wM_lit_13, wM_lit_14, wM_lit_15, wM_lit_16, wM_lit_17, wM_lit_18, wM_lit_21, wM_lit_24, wM_lit_26, wM_lit_27, wM_lit_28, wM_lit_31, wM_lit_33, wM_lit_34, wM_lit_37, wM_lit_38, wM_lit_41, wM_lit_42, wM_lit_43, wM_lit_44, wM_lit_47, wM_lit_48, wM_lit_49, wM_lit_52, wM_lit_53, wM_lit_56, wM_lit_58, wM_lit_59, am_b] using this
      · have c3 : ts_sh s n = !on := by revert c2; cases ts_sh s n <;> cases on <;> simp
        simp only [c2, if_false] at hK
        have := hK _ hm f1
        cases on <;> simpa [c, c3, o6, wM_lit_0, wM_lit_1, wM_lit_2, wM_lit_5, wM_lit_6, wM_lit_7, wM_lit_10, wM_lit_13, wM_lit_14, wM_lit_15, wM_lit_16, wM_lit_17, wM_lit_18, wM_lit_21, wM_lit_24, wM_lit_26, wM_lit_27, wM_lit_28, wM_lit_31, wM_lit_33, wM_lit_34, wM_lit_37, wM_lit_38, wM_lit_41, wM_lit_42, wM_lit_43, wM_lit_44, wM_lit_47, wM_lit_48, wM_lit_49, wM_lit_52, wM_lit_53, wM_lit_56, wM_lit_58, wM_lit_59, am_b] using this
    · simp only [c, if_false] at hK
      simpa [c] using hK _ h' f0
theorem mM_glows (h : mp N s M) (hs : ts_ok s) (v : Int32) (on : Bool) (hK : ∀ M', mp N (sp_glows s v on).2 M' → fx_f (mxR N) M M' → K (some (.inl (sp_glows s v on).1)) M') : am_wp yM_glows 0 [.inr (.inl (4, some N)), .inl v, .inl (am_b on), am_u] [] M K := by
  have h' := mp_th h
  have f0 : fx_f (mxR N) M (am_si M N 0 0) := fx_th0
  unfold sp_glows at hK
  cases hv : ts_id s v with
  | none =>
    rw [hv] at hK
    simpa [wM_glows_0, wM_glows_1, wM_glows_2, wM_glows_5, wM_glows_6, wM_glows_7, wM_glows_10, wM_glows_13, wM_glows_14, wM_glows_15, wM_glows_16, wM_glows_17, wM_glows_18, wM_glows_21, wM_glows_24, wM_glows_26, wM_glows_27, wM_glows_28, wM_glows_31, wM_glows_33, wM_glows_34, wM_glows_37, wM_glows_38, wM_glows_41, wM_glows_42, wM_glows_43, wM_glows_44, wM_glows_47, wM_glows_48, wM_glows_50, wM_glows_51, mM_is h' hs, hv, am_b] using hK _ h' f0
  | some n =>
    obtain ⟨rfl, hl, h20⟩ := ts_id_some hv
    rw [hv] at hK
    simp only [wM_glows_0, wM_glows_1, wM_glows_2, wM_glows_5, wM_glows_6, wM_glows_7, wM_glows_10, wM_glows_13, wM_glows_14, wM_glows_15, wM_glows_16, wM_glows_17, wM_glows_18, wM_glows_21, wM_glows_24, wM_glows_26, wM_glows_27, wM_glows_28, wM_glows_31, wM_glows_33, wM_glows_34, wM_glows_37, wM_glows_38, wM_glows_41, wM_glows_42, wM_glows_43, wM_glows_44, wM_glows_47, wM_glows_48, wM_glows_50, wM_glows_51, mM_is h' hs, hv, Option.isSome_some, true_or, or_true, Option.toList_some, Option.toList_none, List.cons_append, List.nil_append, am_b0, reduceCtorEq, if_false, mM_of0 h' hs hl, h'.1.1.2.2.2.2.2.2.2.2.1, wM_glows_32 (am_ok_nI h20 (by decide)), wM_glows_49 (am_ok_nI h20 (by decide)) (am_b01 on), nI_clamp (show n < 2 ^ 31 by omega)]
    by_cases c : ts_kd s n = 0
    · simp only [c, if_true] at hK
      simpa [c] using hK _ h' f0
    · have o6 := (h'.2.2.2.2 n hl).2.2.2.2.2.2.1 c
      have hm := mp_gl (n := n) h' c on
      have f1 := fx_f_tr f0 (fx_mx (j := n) (x := am_b on) (N + 9) (by omega))
      simp only [c, if_false, sp_shine] at hK
      by_cases c2 : ts_sh s n = on
      · simp only [c2, if_true] at hK
        rw [ts_setsh_id c2] at hm
        have := hK _ hm f1
        simpa [c, c2, o6, wM_glows_0, wM_glows_1, wM_glows_2, wM_glows_5, wM_glows_6, wM_glows_7, wM_glows_10, wM_glows_13, wM_glows_14, wM_glows_15, wM_glows_16, wM_glows_17, wM_glows_18, wM_glows_21, wM_glows_24, wM_glows_26, wM_glows_27, wM_glows_28, wM_glows_31, wM_glows_33, wM_glows_34, wM_glows_37, wM_glows_38, wM_glows_41, wM_glows_42, wM_glows_43, wM_glows_44, wM_glows_47, wM_glows_48, wM_glows_50, wM_glows_51, am_bi] using this
      · simp only [c2, if_false] at hK
        have := hK _ hm f1
        simpa [c, c2, o6, wM_glows_0, wM_glows_1, wM_glows_2, wM_glows_5, wM_glows_6, wM_glows_7, wM_glows_10, wM_glows_13, wM_glows_14, wM_glows_15, wM_glows_16, wM_glows_17, wM_glows_18, wM_glows_21, wM_glows_24, wM_glows_26, wM_glows_27, wM_glows_28, wM_glows_31, wM_glows_33, wM_glows_34, wM_glows_37, wM_glows_38, wM_glows_41, wM_glows_42, wM_glows_43, wM_glows_44, wM_glows_47, wM_glows_48, wM_glows_50, wM_glows_51, am_bi] using this
theorem mM_spread (h : mp N s M) (hs : ts_ok s) (v w : Int32) (on : Bool) (hK : ∀ M', mp N (sp_spread s v w on).2 M' → fx_f (mxR N) M M' → K (some (.inl (sp_spread s v w on).1)) M') : am_wp yM_spread 0 [.inr (.inl (4, some N)), .inl v, .inl w, .inl (am_b on), am_u] [] M K := by
  have h' := mp_th h
  have f0 : fx_f (mxR N) M (am_si M N 0 0) := fx_th0
  unfold sp_spread at hK
  cases hv : ts_id s v with
  | none =>
    rw [hv] at hK
    simpa [wM_spread_0, wM_spread_1, wM_spread_2, wM_spread_5, wM_spread_6, wM_spread_7, wM_spread_10, wM_spread_13, wM_spread_14, wM_spread_15, wM_spread_18, wM_spread_21, wM_spread_22, wM_spread_23, wM_spread_24, wM_spread_25, wM_spread_27, wM_spread_30, wM_spread_33, wM_spread_34, wM_spread_35, wM_spread_36, wM_spread_39, wM_spread_42, wM_spread_44, wM_spread_45, wM_spread_46, wM_spread_49, wM_spread_51, wM_spread_52, wM_spread_53, wM_spread_54, wM_spread_55, wM_spread_56, wM_spread_59, wM_spread_60, wM_spread_63, wM_spread_64, wM_spread_66, wM_spread_68, wM_spread_69, wM_spread_72, wM_spread_73, wM_spread_76, wM_spread_77, wM_spread_79, wM_spread_80, wM_spread_81, wM_spread_82, wM_spread_84, wM_spread_86, wM_spread_87, wM_spread_90, wM_spread_91, wM_spread_94, wM_spread_95, mM_is h' hs, hv, am_b] using hK _ h' f0
  | some n =>
    obtain ⟨rfl, hl, h20⟩ := ts_id_some hv
    cases hw : ts_id s w with
    | none =>
      rw [hv, hw] at hK
      simpa [wM_spread_0, wM_spread_1, wM_spread_2, wM_spread_5, wM_spread_6, wM_spread_7, wM_spread_10, wM_spread_13, wM_spread_14, wM_spread_15, wM_spread_18, wM_spread_21, wM_spread_22, wM_spread_23, wM_spread_24, wM_spread_25, wM_spread_27, wM_spread_30, wM_spread_33, wM_spread_34, wM_spread_35, wM_spread_36, wM_spread_39, wM_spread_42, wM_spread_44, wM_spread_45, wM_spread_46, wM_spread_49, wM_spread_51, wM_spread_52, wM_spread_53, wM_spread_54, wM_spread_55, wM_spread_56, wM_spread_59, wM_spread_60, wM_spread_63, wM_spread_64, wM_spread_66, wM_spread_68, wM_spread_69, wM_spread_72, wM_spread_73, wM_spread_76, wM_spread_77, wM_spread_79, wM_spread_80, wM_spread_81, wM_spread_82, wM_spread_84, wM_spread_86, wM_spread_87, wM_spread_90, wM_spread_91, wM_spread_94, wM_spread_95, mM_is h' hs, hv, hw, am_b] using hK _ h' f0
    | some r =>
      obtain ⟨rfl, hlr, hr20⟩ := ts_id_some hw
      rw [hv, hw] at hK
      have o := (h'.2.2.2.2 n hl).2.2.2.2.2.2.2 r hr20 (Or.inl hlr)
      simp only [wM_spread_0, wM_spread_1, wM_spread_2, wM_spread_5, wM_spread_6, wM_spread_7, wM_spread_10, wM_spread_13, wM_spread_14, wM_spread_15, wM_spread_18, wM_spread_21, wM_spread_22, wM_spread_23, wM_spread_24, wM_spread_25, wM_spread_27, wM_spread_30, wM_spread_33, wM_spread_34, wM_spread_35, wM_spread_36, wM_spread_39, wM_spread_42, wM_spread_44, wM_spread_45, wM_spread_46, wM_spread_49, wM_spread_51, wM_spread_52, wM_spread_53, wM_spread_54, wM_spread_55, wM_spread_56, wM_spread_59, wM_spread_60, wM_spread_63, wM_spread_64, wM_spread_66, wM_spread_68, wM_spread_69, wM_spread_72, wM_spread_73, wM_spread_76, wM_spread_77, wM_spread_79, wM_spread_80, wM_spread_81, wM_spread_82, wM_spread_84, wM_spread_86, wM_spread_87, wM_spread_90, wM_spread_91, wM_spread_94, wM_spread_95, mM_is h' hs, hv, hw, Option.isSome_some, true_or, or_true, Option.toList_some, Option.toList_none, List.cons_append, List.nil_append, am_b0, reduceCtorEq, if_false, mM_of6 h' hs hl, mM_of0 h' hs hlr, h'.1.1.2.2.2.2.2.2.2.2.2.1, wM_spread_50 (am_ok_nI h20 (by decide)), wM_spread_78 (am_ok_nI h20 (by decide)), wM_spread_83 (am_ok_nI h20 (by decide)), nI_clamp (show n < 2 ^ 31 by omega), rb_s hr20, o]
      by_cases c : ts_kd s n = 6
      · by_cases d : ts_kd s r = 0
        · simp only [c, d, and_self, if_true] at hK
          have hm := mp_spx h' hr20 hlr hl _ rfl
          have f1 := fx_f_tr f0 (fx_mx (j := n) (x := am_mi (am_si M N 0 0) (N + 10) n ^^^ (1 : Int32) <<< (nI r &&& 31)) (N + 10) (by omega))
          by_cases c2 : ts_sp s n r = on
          · simp only [c2, if_true] at hK
            have := hK _ h' f0
            cases on <;> simpa [c, d, c2, wM_spread_0, wM_spread_1, wM_spread_2, wM_spread_5, wM_spread_6, wM_spread_7, wM_spread_10, wM_spread_13, wM_spread_14, wM_spread_15, wM_spread_18, wM_spread_21, wM_spread_22, wM_spread_23, wM_spread_24, wM_spread_25, wM_spread_27, wM_spread_30, wM_spread_33, wM_spread_34, wM_spread_35, wM_spread_36, wM_spread_39, wM_spread_42, wM_spread_44, wM_spread_45, wM_spread_46, wM_spread_49, wM_spread_51, wM_spread_52, wM_spread_53, wM_spread_54, wM_spread_55, wM_spread_56, wM_spread_59, wM_spread_60, wM_spread_63, wM_spread_64, wM_spread_66, wM_spread_68, wM_spread_69, wM_spread_72, wM_spread_73, wM_spread_76, wM_spread_77, wM_spread_79, wM_spread_80, wM_spread_81, wM_spread_82, wM_spread_84, wM_spread_86, wM_spread_87, wM_spread_90, wM_spread_91, wM_spread_94, wM_spread_95, am_b] using this
          · have c3 : (!(ts_sp s n r)) = on := by revert c2; cases ts_sp s n r <;> cases on <;> simp
            have c4 : ts_sp s n r = !on := by rw [← c3]; simp
            simp only [c2, if_false] at hK
            rw [c3] at hm
            have := hK _ hm f1
            cases on <;> simpa [c, d, c4, wM_spread_0, wM_spread_1, wM_spread_2, wM_spread_5, wM_spread_6, wM_spread_7, wM_spread_10, wM_spread_13, wM_spread_14, wM_spread_15, wM_spread_18, wM_spread_21, wM_spread_22, wM_spread_23, wM_spread_24, wM_spread_25, wM_spread_27, wM_spread_30, wM_spread_33, wM_spread_34, wM_spread_35, wM_spread_36, wM_spread_39, wM_spread_42, wM_spread_44, wM_spread_45, wM_spread_46, wM_spread_49, wM_spread_51, wM_spread_52, wM_spread_53, wM_spread_54, wM_spread_55, wM_spread_56, wM_spread_59, wM_spread_60, wM_spread_63, wM_spread_64, wM_spread_66, wM_spread_68, wM_spread_69, wM_spread_72, wM_spread_73, wM_spread_76, wM_spread_77, wM_spread_79, wM_spread_80, wM_spread_81, wM_spread_82, wM_spread_84, wM_spread_86, wM_spread_87, wM_spread_90, wM_spread_91, wM_spread_94, wM_spread_95, am_b] using this
        · simp only [d, and_false, if_false] at hK
          simpa [c, d] using hK _ h' f0
      · simp only [c, false_and, if_false] at hK
        simpa [c] using hK _ h' f0
end MW
