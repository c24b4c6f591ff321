-- THE SMALL CHANGES: open, clears, lit, glows, spread
section CS
def rb (x : Int32) (r : Nat) : Bool := x.toBitVec.getLsbD r
theorem rb_1 : ∀ l, l < 20 → ((1 : Int32) <<< (nI l &&& 31)).toBitVec = BitVec.twoPow 32 l := by decide +kernel
theorem rb_n : ∀ l, l < 20 → BitVec.twoPow 32 l ≠ 0#32 := by decide +kernel
theorem rb_z {l : Nat} (hl : l < 20) (x : Int32) : x &&& (1 : Int32) <<< (nI l &&& 31) = 0 ↔ rb x l = false := by
  rw [← Int32.toBitVec_inj, Int32.toBitVec_and, rb_1 l hl, BitVec.and_twoPow]
  unfold rb
  cases hb : x.toBitVec.getLsbD l
  · simp
  · simp only [if_true]
    exact ⟨fun z => absurd z (rb_n l hl), fun z => by cases z⟩
theorem rb_x {l r : Nat} (hl : l < 20) (hr : r < 20) (x : Int32) : rb (x ^^^ (1 : Int32) <<< (nI l &&& 31)) r = (rb x r ^^ decide (r = l)) := by
  unfold rb
  rw [Int32.toBitVec_xor, BitVec.getLsbD_xor, rb_1 l hl, BitVec.getLsbD_twoPow]
  by_cases h : r = l
  · subst h; simp [show r < 32 by omega]
  · simp [h, Ne.symm h]
theorem am_bi (a b : Bool) : (am_b a = am_b b) = (a = b) := by cases a <;> cases b <;> simp [am_b]
variable {X : Nat} {ad : Nat → Option Nat} {s : ts_S} {M : am_M} {K : Option am_V → am_M → Prop} {n a : Nat}
theorem cp_sp (h : cp X ad s M) (ha : ad n = some a) {r : Nat} (hr : r < 20) : cp X ad (ts_setsp s n r (!(ts_sp s n r))) (am_si M a 12 (am_mi M a 12 ^^^ (1 : Int32) <<< (nI r &&& 31))) := by
  refine cp_seti h ha rfl rfl rfl rfl (fun m c hc hne o => ?_) ?_
  · obtain ⟨o0, o1, o2, o3, o4, o5, o6, o7, o8, o9, o10, o11, o12⟩ := o
    refine ⟨o0, o1, o2, o3, o4, o5, o6, o7, o8, o9, o10, o11, fun j hj => ?_⟩
    show _ ↔ (if m = n ∧ j = r then !(ts_sp s n r) else ts_sp s m j) = false
    rw [if_neg (fun q => hne q.1)]
    exact o12 j hj
  · obtain ⟨o0, o1, o2, o3, o4, o5, o6, o7, o8, o9, o10, o11, o12⟩ := cp_at h ha
    have g : ∀ j, j ≠ 12 → am_mi (am_si M a 12 (am_mi M a 12 ^^^ (1 : Int32) <<< (nI r &&& 31))) a j = am_mi M a j := fun j hj => by rw [am_mi_si, if_neg (fun q => hj q.2)]
    refine ⟨(g 0 (by decide)).trans o0, (g 1 (by decide)).trans o1, (g 2 (by decide)).trans o2, o3, (g 4 (by decide)).trans o4, o5, o6, o7, o8, (g 9 (by decide)).trans o9, (g 10 (by decide)).trans o10, (g 11 (by decide)).trans o11, fun j hj => ?_⟩
    rw [am_mi_si, if_pos ⟨rfl, rfl⟩, rb_z hj, rb_x hr hj]
    show _ ↔ (if n = n ∧ j = r then !(ts_sp s n r) else ts_sp s n j) = false
    have := o12 j hj
    rw [rb_z hj] at this
    by_cases q : j = r
    · subst q
      simp
      cases e1 : rb (am_mi M a 12) j <;> cases e2 : ts_sp s n j <;> simp_all
    · simp [q, this]
theorem cx_of (h : cp X ad s M) (ha : ad n = some a) : cxR X a := Or.inr (h.2.2.2.2.2.2.2.1 n a ha).1
-- a thing opens or shuts
def sp_open (s : ts_S) (v : Int32) (on : Bool) : Int32 × ts_S := match ts_id s v with
  | some n => if ts_kd s n = 2 then (if ts_cl s n = on then (1, ts_setcl s n (!on)) else (0, s)) else (-3, s)
  | none => (-1, s)
theorem cX_open (h : cp X ad s M) (hs : ts_ok s) (v : Int32) (on : Bool) (hK : ∀ M', cp X ad (sp_open s v on).2 M' → fx_f (cxR X) M M' → K (some (.inl (sp_open s v on).1)) M') : am_wp yX_open 0 [.inr (.inl (1, some X)), .inl v, .inl (am_b on), am_u] [] M K := by
  unfold sp_open at hK
  cases hv : ts_id s v with
  | none =>
    rw [hv] at hK
    simp [wX_open_0, wX_open_1, wX_open_2, wX_open_5, wX_open_6, wX_open_7, wX_open_10, wX_open_11, wX_open_12, wX_open_13, wX_open_16, wX_open_17, wX_open_20, wX_open_22, wX_open_23, wX_open_24, wX_open_27, wX_open_28, wX_open_31, wX_open_32, wX_open_33, wX_open_34, wX_open_35, wX_open_38, wX_open_39, wX_open_42, wX_open_43, wX_open_46, wX_open_47, cX_fd h, hv]
    exact hK M h (fx_f_rf M)
  | some n =>
    obtain ⟨a, ha, o⟩ := cp_id_ex h hv
    have hk := (hs.2.2.2.1 n (ts_id_some hv).2.1).1
    obtain ⟨-, o1, -, -, -, -, -, -, -, o9, -⟩ := o
    rw [hv] at hK
    simp only [wX_open_0, wX_open_1, wX_open_2, wX_open_5, wX_open_6, wX_open_7, wX_open_10, wX_open_11, wX_open_12, wX_open_13, wX_open_16, wX_open_17, wX_open_20, wX_open_22, wX_open_23, wX_open_24, wX_open_27, wX_open_28, wX_open_31, wX_open_32, wX_open_33, wX_open_34, wX_open_35, wX_open_38, wX_open_39, wX_open_42, wX_open_46, wX_open_47, cX_fd h, hv, ha, true_or, or_true, Option.toList_some, Option.toList_none, List.cons_append, List.nil_append, Option.bind_some, reduceCtorEq, if_false, o1, o9, nk2 (show ts_kd s n < 1000 by omega), am_bi, am_b0]
    by_cases h2 : ts_kd s n = 2
    · by_cases hc : ts_cl s n = on
      · simp only [h2, hc, if_true] at hK ⊢
        have := cp_cl h ha (!on)
        cases on with
        | true => simpa [wX_open_43, wX_open_46, wX_open_47, am_b] using hK _ this (fx_f_si (cx_of h ha))
        | false => simpa [wX_open_43, wX_open_46, wX_open_47, am_b] using hK _ this (fx_f_si (cx_of h ha))
      · simp only [h2, hc, if_true, if_false] at hK ⊢
        exact hK M h (fx_f_rf M)
    · simp only [h2, if_false] at hK ⊢
      exact hK M h (fx_f_rf M)
def sp_clears (s : ts_S) (v : Int32) (on : Bool) : Int32 × ts_S := match ts_id s v with
  | some n => if ts_kd s n = 2 then (if ts_cr s n = on then (0, s) else (1, ts_setcr s n on)) else (-3, s)
  | none => (-1, s)
theorem cX_clears (h : cp X ad s M) (hs : ts_ok s) (v : Int32) (on : Bool) (hK : ∀ M', cp X ad (sp_clears s v on).2 M' → fx_f (cxR X) M M' → K (some (.inl (sp_clears s v on).1)) M') : am_wp yX_clears 0 [.inr (.inl (1, some X)), .inl v, .inl (am_b on), am_u] [] M K := by
  unfold sp_clears at hK
  cases hv : ts_id s v with
  | none =>
    rw [hv] at hK
    simp [wX_clears_0, wX_clears_1, wX_clears_2, wX_clears_5, wX_clears_6, wX_clears_7, wX_clears_10, wX_clears_11, wX_clears_12, wX_clears_13, wX_clears_16, wX_clears_17, wX_clears_20, wX_clears_22, wX_clears_23, wX_clears_24, wX_clears_27, wX_clears_28, wX_clears_31, wX_clears_32, wX_clears_33, wX_clears_34, wX_clears_35, wX_clears_38, wX_clears_39, cX_fd h, hv]
    exact hK M h (fx_f_rf M)
  | some n =>
    obtain ⟨a, ha, o⟩ := cp_id_ex h hv
    have hk := (hs.2.2.2.1 n (ts_id_some hv).2.1).1
    obtain ⟨-, o1, -, -, -, -, -, -, -, -, o10, -⟩ := o
    rw [hv] at hK
    simp only [wX_clears_0, wX_clears_1, wX_clears_2, wX_clears_5, wX_clears_6, wX_clears_7, wX_clears_10, wX_clears_11, wX_clears_12, wX_clears_13, wX_clears_16, wX_clears_17, wX_clears_20, wX_clears_22, wX_clears_23, wX_clears_24, wX_clears_27, wX_clears_28, wX_clears_31, wX_clears_32, wX_clears_33, wX_clears_34, wX_clears_38, wX_clears_39, wX_clears_35 (am_b01 on), cX_fd h, hv, ha, true_or, or_true, Option.toList_some, Option.toList_none, List.cons_append, List.nil_append, Option.bind_some, reduceCtorEq, if_false, o1, o10, nk2 (show ts_kd s n < 1000 by omega), am_bi, am_b0]
    by_cases h2 : ts_kd s n = 2
    · by_cases hc : ts_cr s n = on
      · simp only [h2, hc, if_true] at hK ⊢
        exact hK M h (fx_f_rf M)
      · simp only [h2, hc, if_true, if_false] at hK ⊢
        exact hK _ (cp_cr h ha on) (fx_f_si (cx_of h ha))
    · simp only [h2, if_false] at hK ⊢
      exact hK M h (fx_f_rf M)
def sp_shine (s : ts_S) (n : Nat) (on : Bool) : Int32 × ts_S := if ts_sh s n = on then (0, s) else (1, ts_setsh s n on)
theorem cX_shine (h : cp X ad s M) (ha : ad n = some a) (on : Bool) (hK : ∀ M', cp X ad (sp_shine s n on).2 M' → fx_f (cxR X) M M' → K (some (.inl (sp_shine s n on).1)) M') : am_wp yX_shine 0 [.inr (.inl (2, some a)), .inl (am_b on)] [] M K := by
  unfold sp_shine at hK
  obtain ⟨-, o1, -, -, -, -, -, -, -, -, -, o11, -⟩ := cp_at h ha
  simp only [wX_shine_0, wX_shine_1, wX_shine_4, wX_shine_5, wX_shine_8, wX_shine_9, wX_shine_10, wX_shine_11, wX_shine_15, wX_shine_16, wX_shine_12 (am_b01 on), o11, am_bi]
  by_cases hc : ts_sh s n = on
  · simp only [hc, if_true] at hK ⊢
    exact hK M h (fx_f_rf M)
  · simp only [hc, if_false] at hK ⊢
    exact hK _ (cp_sh h ha on) (fx_f_si (cx_of h ha))
def sp_lit (s : ts_S) (v : Int32) (on : Bool) : Int32 × ts_S := match ts_id s v with
  | some n => if ts_kd s n = 0 then sp_shine s n on else (-3, s)
  | none => (-1, s)
theorem cX_lit (h : cp X ad s M) (hs : ts_ok s) (v : Int32) (on : Bool) (hK : ∀ M', cp X ad (sp_lit s v on).2 M' → fx_f (cxR X) M M' → K (some (.inl (sp_lit s v on).1)) M') : am_wp yX_lit 0 [.inr (.inl (1, some X)), .inl v, .inl (am_b on), am_u] [] M K := by
  unfold sp_lit at hK
  cases hv : ts_id s v with
  | none =>
    rw [hv] at hK
    simp [wX_lit_0, wX_lit_1, wX_lit_2, wX_lit_5, wX_lit_6, wX_lit_7, wX_lit_10, wX_lit_11, wX_lit_12, wX_lit_13, wX_lit_16, wX_lit_19, wX_lit_20, wX_lit_21, wX_lit_24, wX_lit_27, wX_lit_29, cX_fd h, hv]
    exact hK M h (fx_f_rf M)
  | some n =>
    obtain ⟨a, ha, o⟩ := cp_id_ex h hv
    have hk := (hs.2.2.2.1 n (ts_id_some hv).2.1).1
    obtain ⟨-, o1, -⟩ := o
    rw [hv] at hK
    simp only [wX_lit_0, wX_lit_1, wX_lit_2, wX_lit_5, wX_lit_6, wX_lit_7, wX_lit_10, wX_lit_11, wX_lit_12, wX_lit_13, wX_lit_16, wX_lit_19, wX_lit_20, wX_lit_21, wX_lit_24, wX_lit_27, wX_lit_29, cX_fd h, hv, ha, true_or, or_true, Option.toList_some, Option.toList_none, List.cons_append, List.nil_append, Option.bind_some, reduceCtorEq, if_false, o1, nk0 (show ts_kd s n < 1000 by omega)]
    by_cases h2 : ts_kd s n = 0
    · simp only [h2, if_true] at hK ⊢
      refine cX_shine h ha on (fun M1 h1 f1 => ?_)
      simp only [wX_lit_0, wX_lit_1, wX_lit_2, wX_lit_5, wX_lit_6, wX_lit_7, wX_lit_10, wX_lit_11, wX_lit_12, wX_lit_13, wX_lit_16, wX_lit_19, wX_lit_20, wX_lit_21, wX_lit_24, wX_lit_27, wX_lit_29, true_or, or_true, Option.toList_some, Option.toList_none, List.cons_append, List.nil_append]
      exact hK M1 h1 f1
    · simp only [h2, if_false] at hK ⊢
      exact hK M h (fx_f_rf M)
def sp_glows (s : ts_S) (v : Int32) (on : Bool) : Int32 × ts_S := match ts_id s v with
  | some n => if ts_kd s n = 0 then (-3, s) else sp_shine s n on
  | none => (-1, s)
theorem cX_glows (h : cp X ad s M) (hs : ts_ok s) (v : Int32) (on : Bool) (hK : ∀ M', cp X ad (sp_glows s v on).2 M' → fx_f (cxR X) M M' → K (some (.inl (sp_glows s v on).1)) M') : am_wp yX_glows 0 [.inr (.inl (1, some X)), .inl v, .inl (am_b on), am_u] [] M K := by
  unfold sp_glows at hK
  cases hv : ts_id s v with
  | none =>
    rw [hv] at hK
    simp [wX_glows_0, wX_glows_1, wX_glows_2, wX_glows_5, wX_glows_6, wX_glows_7, wX_glows_10, wX_glows_11, wX_glows_12, wX_glows_13, wX_glows_16, wX_glows_19, wX_glows_21, wX_glows_24, wX_glows_25, wX_glows_26, wX_glows_29, cX_fd h, hv]
    exact hK M h (fx_f_rf M)
  | some n =>
    obtain ⟨a, ha, o⟩ := cp_id_ex h hv
    have hk := (hs.2.2.2.1 n (ts_id_some hv).2.1).1
    obtain ⟨-, o1, -⟩ := o
    rw [hv] at hK
    simp only [wX_glows_0, wX_glows_1, wX_glows_2, wX_glows_5, wX_glows_6, wX_glows_7, wX_glows_10, wX_glows_11, wX_glows_12, wX_glows_13, wX_glows_16, wX_glows_19, wX_glows_21, wX_glows_24, wX_glows_25, wX_glows_26, wX_glows_29, cX_fd h, hv, ha, true_or, or_true, Option.toList_some, Option.toList_none, List.cons_append, List.nil_append, Option.bind_some, reduceCtorEq, if_false, o1, nk0 (show ts_kd s n < 1000 by omega)]
    by_cases h2 : ts_kd s n = 0
    · simp only [h2, if_true] at hK ⊢
      exact hK M h (fx_f_rf M)
    · simp only [h2, if_false] at hK ⊢
      refine cX_shine h ha on (fun M1 h1 f1 => ?_)
      simp only [wX_glows_0, wX_glows_1, wX_glows_2, wX_glows_5, wX_glows_6, wX_glows_7, wX_glows_10, wX_glows_11, wX_glows_12, wX_glows_13, wX_glows_16, wX_glows_19, wX_glows_21, wX_glows_24, wX_glows_25, wX_glows_26, wX_glows_29, true_or, or_true, Option.toList_some, Option.toList_none, List.cons_append, List.nil_append]
      exact hK M1 h1 f1
def sp_spread (s : ts_S) (v w : Int32) (on : Bool) : Int32 × ts_S := match ts_id s v, ts_id s w with
  | some n, some r => if ts_kd s n = 6 ∧ ts_kd s r = 0 then (if ts_sp s n r = on then (0, s) else (1, ts_setsp s n r on)) else (-3, s)
  | _, _ => (-1, s)
theorem cX_spread (h : cp X ad s M) (hs : ts_ok s) (v w : Int32) (on : Bool) (hK : ∀ M', cp X ad (sp_spread s v w on).2 M' → fx_f (cxR X) M M' → K (some (.inl (sp_spread s v w on).1)) M') : am_wp yX_spread 0 [.inr (.inl (1, some X)), .inl v, .inl w, .inl (am_b on), am_u, am_u] [] M K := by
  unfold sp_spread at hK
  cases hv : ts_id s v with
  | none =>
    rw [hv] at hK
    simp [wX_spread_0, wX_spread_1, wX_spread_2, wX_spread_5, wX_spread_7, wX_spread_8, wX_spread_9, wX_spread_12, wX_spread_14, wX_spread_16, wX_spread_19, wX_spread_21, wX_spread_24, wX_spread_25, wX_spread_26, wX_spread_28, wX_spread_31, wX_spread_33, wX_spread_36, wX_spread_38, wX_spread_41, wX_spread_44, wX_spread_46, wX_spread_47, wX_spread_49, wX_spread_51, wX_spread_54, wX_spread_55, wX_spread_58, wX_spread_59, wX_spread_60, wX_spread_62, wX_spread_63, wX_spread_66, wX_spread_67, wX_spread_69, wX_spread_72, wX_spread_73, wX_spread_74, wX_spread_77, wX_spread_78, cX_fd h, hv]
    exact hK M h (fx_f_rf M)
  | some n =>
    obtain ⟨a, ha, o⟩ := cp_id_ex h hv
    have hk := (hs.2.2.2.1 n (ts_id_some hv).2.1).1
    obtain ⟨-, o1, -⟩ := o
    cases hw : ts_id s w with
    | none =>
      rw [hv, hw] at hK
      simp [wX_spread_0, wX_spread_1, wX_spread_2, wX_spread_5, wX_spread_7, wX_spread_8, wX_spread_9, wX_spread_12, wX_spread_14, wX_spread_16, wX_spread_19, wX_spread_21, wX_spread_24, wX_spread_25, wX_spread_26, wX_spread_28, wX_spread_31, wX_spread_33, wX_spread_36, wX_spread_38, wX_spread_41, wX_spread_44, wX_spread_46, wX_spread_47, wX_spread_49, wX_spread_51, wX_spread_54, wX_spread_55, wX_spread_58, wX_spread_59, wX_spread_60, wX_spread_62, wX_spread_63, wX_spread_66, wX_spread_67, wX_spread_69, wX_spread_72, wX_spread_73, wX_spread_74, wX_spread_77, wX_spread_78, cX_fd h, hv, hw, ha]
      exact hK M h (fx_f_rf M)
    | some r =>
      obtain ⟨b, hb, q⟩ := cp_id_ex h hw
      obtain ⟨-, hwl, hw20⟩ := ts_id_some hw
      have hkr := (hs.2.2.2.1 r hwl).1
      obtain ⟨q0, q1, -⟩ := q
      rw [hv, hw] at hK
      simp only [wX_spread_0, wX_spread_1, wX_spread_2, wX_spread_5, wX_spread_7, wX_spread_8, wX_spread_9, wX_spread_12, wX_spread_14, wX_spread_16, wX_spread_19, wX_spread_21, wX_spread_24, wX_spread_25, wX_spread_26, wX_spread_28, wX_spread_31, wX_spread_33, wX_spread_36, wX_spread_38, wX_spread_41, wX_spread_44, wX_spread_46, wX_spread_47, wX_spread_49, wX_spread_51, wX_spread_54, wX_spread_55, wX_spread_58, wX_spread_59, wX_spread_60, wX_spread_62, wX_spread_63, wX_spread_66, wX_spread_67, wX_spread_69, wX_spread_72, wX_spread_73, wX_spread_74, wX_spread_77, wX_spread_78, cX_fd h, hv, hw, ha, hb, true_or, or_true, Option.toList_some, Option.toList_none, List.cons_append, List.nil_append, Option.bind_some, reduceCtorEq, if_false, o1, q0, q1, nk6 (show ts_kd s n < 1000 by omega), nk0 (show ts_kd s r < 1000 by omega), cT_isSpreadTo h ha hb hw20, am_bi]
      by_cases h2 : ts_kd s n = 6
      · by_cases h3 : ts_kd s r = 0
        · by_cases hc : ts_sp s n r = on
          · simp only [h2, h3, hc, if_true, and_self] at hK ⊢
            exact hK M h (fx_f_rf M)
          · have e : (!(ts_sp s n r)) = on := by revert hc; cases ts_sp s n r <;> cases on <;> simp
            have := cp_sp h ha hw20
            rw [e] at this
            simp only [h2, h3, hc, if_true, if_false, and_self] at hK ⊢
            exact hK _ this (fx_f_si (cx_of h ha))
        · simp only [h2, h3, if_true, if_false, and_false] at hK ⊢
          exact hK M h (fx_f_rf M)
      · simp only [h2, if_false, false_and] at hK ⊢
        exact hK M h (fx_f_rf M)
end CS
