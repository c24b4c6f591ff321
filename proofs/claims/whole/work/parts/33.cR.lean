-- THE ROUTE
section CR
theorem am_bt : am_b true = 1 := rfl
theorem am_bf : am_b false = 0 := rfl
def tq_bar (s : ts_S) (p : Nat) (sg : Bool) (n : Nat) : Bool := match ts_pa s n with
  | none => false
  | some b => if ts_wy s n = 0 ∧ ts_cl s b = true then !sg || !(ts_cr s b) else !sg && (decide (ts_wy s n = 2) || decide (ts_wy s n = 3)) && !(decide (b = p))
def tq_upl (s : ts_S) (p : Nat) (sg : Bool) : List Nat → Option Nat
  | [] => none
  | x :: l => if tq_bar s p sg x = true then ts_pa s x else tq_upl s p sg l
def tq_dnl (s : ts_S) (p : Nat) (sg : Bool) : List Nat → Option Nat → Option Nat
  | [], acc => acc
  | x :: l, acc => tq_dnl s p sg l (if tq_bar s p sg x = true then ts_pa s x else acc)
def ls_til (u : Nat) : List Nat → List Nat
  | [] => []
  | x :: l => if x = u then [] else x :: ls_til u l
def tq_tn (s : ts_S) (p t : Nat) : Option Nat := if ts_kd s t = 6 then (if ts_kd s (fo_r (ts_L s) p) = 0 ∧ ts_sp s t (fo_r (ts_L s) p) = true then some (fo_r (ts_L s) p) else none) else (fo_c (ts_L s) p).find? (fun x => decide (t ∈ fo_w (ts_L s) x))
def tq_ro (s : ts_S) (p t : Nat) (sg : Bool) : Int32 := match tq_tn s p t with
  | none => -6
  | some u => match tq_upl s p sg (ls_til u (fo_c (ts_L s) p)) with
    | some b => -10 - nI b
    | none => match tq_dnl s p sg (ls_til u (fo_c (ts_L s) t)) none with
      | some b => -10 - nI b
      | none => 1
variable {X : Nat} {ad : Nat → Option Nat} {s : ts_S} {M : am_M} {K : Option am_V → am_M → Prop} {n a p pa : Nat}
theorem ts_way_h {b : Nat} (h : ts_pa s n = some b) : ts_way s n = ts_wy s n := by unfold ts_way; rw [if_neg (by rw [h]; simp)]
theorem cR_isBarred (h : cp X ad s M) (ha : ad n = some a) (hp : ad p = some pa) (sg : Bool) : am_wp yR_isBarred 0 [.inr (.inl (2, some a)), .inr (.inl (2, some pa)), .inl (am_b sg), am_u, am_u] [] M K = K (some (.inl (am_b (tq_bar s p sg n)))) M := by
  obtain ⟨-, -, -, o3, o4, -⟩ := cp_at h ha
  unfold tq_bar
  cases hb : ts_pa s n with
  | none => simp [wR_isBarred_0, wR_isBarred_1, wR_isBarred_4, wR_isBarred_5, wR_isBarred_6, wR_isBarred_9, wR_isBarred_10, wR_isBarred_11, wR_isBarred_12, wR_isBarred_15, wR_isBarred_18, wR_isBarred_19, wR_isBarred_22, wR_isBarred_25, wR_isBarred_26, wR_isBarred_29, wR_isBarred_30, wR_isBarred_33, wR_isBarred_36, wR_isBarred_37, wR_isBarred_40, wR_isBarred_41, wR_isBarred_42, wR_isBarred_43, wR_isBarred_46, wR_isBarred_47, wR_isBarred_50, wR_isBarred_51, wR_isBarred_54, wR_isBarred_55, wR_isBarred_58, wR_isBarred_59, wR_isBarred_62, wR_isBarred_63, wR_isBarred_65, wR_isBarred_66, wR_isBarred_69, wR_isBarred_71, wR_isBarred_74, wR_isBarred_75, wR_isBarred_76, wR_isBarred_79, wR_isBarred_80, wR_isBarred_83, wR_isBarred_84, o3, hb, am_bt, am_bf]
  | some b =>
    obtain ⟨c, hc⟩ := cp_ex h (ts_pa_lv hb)
    obtain ⟨-, -, -, -, -, -, -, -, -, p9, p10, -⟩ := cp_at h hc
    rw [ts_way_h hb] at o4
    have hbp : (c = pa) = (b = p) := propext ⟨fun q => by subst q; exact h.2.2.2.2.2.2.2.2 b p c hc hp, fun q => by subst q; rw [hc] at hp; exact Option.some.inj hp⟩
    simp only [wR_isBarred_0, wR_isBarred_1, wR_isBarred_4, wR_isBarred_5, wR_isBarred_6, wR_isBarred_9, wR_isBarred_10, wR_isBarred_11, wR_isBarred_12, wR_isBarred_15, wR_isBarred_18, wR_isBarred_19, wR_isBarred_22, wR_isBarred_25, wR_isBarred_26, wR_isBarred_29, wR_isBarred_30, wR_isBarred_33, wR_isBarred_36, wR_isBarred_37, wR_isBarred_40, wR_isBarred_41, wR_isBarred_42, wR_isBarred_43, wR_isBarred_46, wR_isBarred_47, wR_isBarred_50, wR_isBarred_51, wR_isBarred_54, wR_isBarred_55, wR_isBarred_58, wR_isBarred_59, wR_isBarred_62, wR_isBarred_63, wR_isBarred_65, wR_isBarred_66, wR_isBarred_69, wR_isBarred_71, wR_isBarred_74, wR_isBarred_75, wR_isBarred_76, wR_isBarred_79, wR_isBarred_80, wR_isBarred_83, wR_isBarred_84, o3, hb, Option.bind_some, hc, o4, p9, p10, true_or, or_true, Option.toList_some, Option.toList_none, List.cons_append, List.nil_append, am_b0, Option.some.injEq, hbp]
    by_cases h0 : ts_wy s n = 0
    · cases hcl : ts_cl s b <;> cases hcr : ts_cr s b <;> cases sg <;> simp [h0, am_bt, am_bf]
    · by_cases h2 : ts_wy s n = 2
      · by_cases hq : b = p <;> cases sg <;> simp [h2, hq, am_bt, am_bf]
      · by_cases h3 : ts_wy s n = 3
        · by_cases hq : b = p <;> cases sg <;> simp [h3, hq, am_bt, am_bf]
        · cases sg <;> simp [h0, h2, h3, am_bt, am_bf]
theorem tq_bar_h {sg : Bool} (h : tq_bar s p sg n = true) : ∃ b, ts_pa s n = some b := by
  unfold tq_bar at h
  cases hb : ts_pa s n with
  | none => rw [hb] at h; cases h
  | some b => exact ⟨b, rfl⟩
theorem cR_up_l (h : cp X ad s M) (hok : fo_ok (ts_L s)) (hp : ad p = some pa) {u ua : Nat} (hu : ad u = some ua) (sg : Bool) : ∀ n, ts_lv s n → ∀ a, ad n = some a → am_wp yR_firstBarUp 2 [.inr (.inl (2, some pa)), .inr (.inl (2, some ua)), .inl (am_b sg), .inr (.inl (2, some a))] [] M K = K (some (.inr (.inl (2, (tq_upl s p sg (ls_til u (fo_c (ts_L s) n))).bind ad)))) M := by
  have step : ∀ n a, ad n = some a → (a = ua) = (n = u) := fun n a ha => propext ⟨fun q => by subst q; exact h.2.2.2.2.2.2.2.2 n u a ha hu, fun q => by subst q; rw [ha] at hu; exact Option.some.inj hu⟩
  refine fo_ind hok ?_ ?_
  · intro n hn hpn a ha
    obtain ⟨-, -, -, o3, -⟩ := cp_at h ha
    have hp' : ts_pa s n = none := hpn
    have hb : tq_bar s p sg n = false := by unfold tq_bar; rw [hp']
    rw [fo_c_none hok hn hpn, wR_firstBarUp_2]
    by_cases hnu : n = u
    · simp [wR_firstBarUp_0, wR_firstBarUp_1, wR_firstBarUp_3, wR_firstBarUp_6, wR_firstBarUp_7, wR_firstBarUp_8, wR_firstBarUp_11, wR_firstBarUp_12, wR_firstBarUp_13, wR_firstBarUp_14, wR_firstBarUp_17, wR_firstBarUp_20, wR_firstBarUp_21, wR_firstBarUp_24, wR_firstBarUp_25, wR_firstBarUp_26, wR_firstBarUp_29, wR_firstBarUp_30, wR_firstBarUp_33, wR_firstBarUp_34, Option.some.injEq, step n a ha, hnu, ls_til, tq_upl]
    · simp [wR_firstBarUp_0, wR_firstBarUp_1, wR_firstBarUp_3, wR_firstBarUp_6, wR_firstBarUp_7, wR_firstBarUp_8, wR_firstBarUp_11, wR_firstBarUp_12, wR_firstBarUp_13, wR_firstBarUp_14, wR_firstBarUp_17, wR_firstBarUp_20, wR_firstBarUp_21, wR_firstBarUp_24, wR_firstBarUp_25, wR_firstBarUp_26, wR_firstBarUp_29, wR_firstBarUp_30, wR_firstBarUp_33, wR_firstBarUp_34, Option.some.injEq, step n a ha, hnu, ls_til, tq_upl, cR_isBarred h ha hp, hb, am_bt, am_bf, o3, hp', wR_firstBarUp_2]
  · intro n q hpq ih a ha
    obtain ⟨-, -, -, o3, -⟩ := cp_at h ha
    have hp' : ts_pa s n = some q := hpq
    obtain ⟨c, hc⟩ := cp_ex h (ts_pa_lv hp')
    rw [fo_c_some hok hpq, wR_firstBarUp_2]
    by_cases hnu : n = u
    · simp [wR_firstBarUp_0, wR_firstBarUp_1, wR_firstBarUp_3, wR_firstBarUp_6, wR_firstBarUp_7, wR_firstBarUp_8, wR_firstBarUp_11, wR_firstBarUp_12, wR_firstBarUp_13, wR_firstBarUp_14, wR_firstBarUp_17, wR_firstBarUp_20, wR_firstBarUp_21, wR_firstBarUp_24, wR_firstBarUp_25, wR_firstBarUp_26, wR_firstBarUp_29, wR_firstBarUp_30, wR_firstBarUp_33, wR_firstBarUp_34, Option.some.injEq, step n a ha, hnu, ls_til, tq_upl]
    · cases hb : tq_bar s p sg n with
      | true => simp [wR_firstBarUp_0, wR_firstBarUp_1, wR_firstBarUp_3, wR_firstBarUp_6, wR_firstBarUp_7, wR_firstBarUp_8, wR_firstBarUp_11, wR_firstBarUp_12, wR_firstBarUp_13, wR_firstBarUp_14, wR_firstBarUp_17, wR_firstBarUp_20, wR_firstBarUp_21, wR_firstBarUp_24, wR_firstBarUp_25, wR_firstBarUp_26, wR_firstBarUp_29, wR_firstBarUp_30, wR_firstBarUp_33, wR_firstBarUp_34, Option.some.injEq, step n a ha, hnu, ls_til, tq_upl, cR_isBarred h ha hp, hb, am_bt, am_bf, o3, hp', hc]
      | false => simp [wR_firstBarUp_0, wR_firstBarUp_1, wR_firstBarUp_3, wR_firstBarUp_6, wR_firstBarUp_7, wR_firstBarUp_8, wR_firstBarUp_11, wR_firstBarUp_12, wR_firstBarUp_13, wR_firstBarUp_14, wR_firstBarUp_17, wR_firstBarUp_20, wR_firstBarUp_21, wR_firstBarUp_24, wR_firstBarUp_25, wR_firstBarUp_26, wR_firstBarUp_29, wR_firstBarUp_30, wR_firstBarUp_33, wR_firstBarUp_34, Option.some.injEq, step n a ha, hnu, ls_til, tq_upl, cR_isBarred h ha hp, hb, am_bt, am_bf, o3, hp', hc, ih c hc]
theorem cR_firstBarUp (h : cp X ad s M) (hok : fo_ok (ts_L s)) (hp : ad p = some pa) {u ua : Nat} (hu : ad u = some ua) (sg : Bool) : am_wp yR_firstBarUp 0 [.inr (.inl (2, some pa)), .inr (.inl (2, some ua)), .inl (am_b sg), am_u] [] M K = K (some (.inr (.inl (2, (tq_upl s p sg (ls_til u (fo_c (ts_L s) p))).bind ad)))) M := by
  rw [wR_firstBarUp_0, wR_firstBarUp_1]
  exact cR_up_l h hok hp hu sg p (cp_lv h hp) pa hp
theorem cR_dn_l (h : cp X ad s M) (hok : fo_ok (ts_L s)) (hp : ad p = some pa) {u ua : Nat} (hu : ad u = some ua) (sg : Bool) (l2 : am_V) : ∀ n, ts_lv s n → ∀ a (acc : Option Nat), ad n = some a → am_wp yR_firstBarDown 6 [.inr (.inl (2, some pa)), .inr (.inl (2, some ua)), l2, .inl (am_b sg), .inr (.inl (2, acc.bind ad)), .inr (.inl (2, some a))] [] M K = K (some (.inr (.inl (2, (tq_dnl s p sg (ls_til u (fo_c (ts_L s) n)) acc).bind ad)))) M := by
  have step : ∀ n a, ad n = some a → (a = ua) = (n = u) := fun n a ha => propext ⟨fun q => by subst q; exact h.2.2.2.2.2.2.2.2 n u a ha hu, fun q => by subst q; rw [ha] at hu; exact Option.some.inj hu⟩
  refine fo_ind hok ?_ ?_
  · intro n hn hpn a acc ha
    obtain ⟨-, -, -, o3, -⟩ := cp_at h ha
    have hp' : ts_pa s n = none := hpn
    have hb : tq_bar s p sg n = false := by unfold tq_bar; rw [hp']
    rw [fo_c_none hok hn hpn, wR_firstBarDown_6]
    by_cases hnu : n = u
    · simp [wR_firstBarDown_0, wR_firstBarDown_1, wR_firstBarDown_3, wR_firstBarDown_4, wR_firstBarDown_8, wR_firstBarDown_11, wR_firstBarDown_13, wR_firstBarDown_14, wR_firstBarDown_17, wR_firstBarDown_19, wR_firstBarDown_20, wR_firstBarDown_21, wR_firstBarDown_24, wR_firstBarDown_27, wR_firstBarDown_29, wR_firstBarDown_32, wR_firstBarDown_34, wR_firstBarDown_36, wR_firstBarDown_39, wR_firstBarDown_41, wR_firstBarDown_44, wR_firstBarDown_46, Option.some.injEq, step n a ha, hnu, ls_til, tq_dnl]
    · simp [wR_firstBarDown_0, wR_firstBarDown_1, wR_firstBarDown_3, wR_firstBarDown_4, wR_firstBarDown_8, wR_firstBarDown_11, wR_firstBarDown_13, wR_firstBarDown_14, wR_firstBarDown_17, wR_firstBarDown_19, wR_firstBarDown_20, wR_firstBarDown_21, wR_firstBarDown_24, wR_firstBarDown_27, wR_firstBarDown_29, wR_firstBarDown_32, wR_firstBarDown_34, wR_firstBarDown_36, wR_firstBarDown_39, wR_firstBarDown_41, wR_firstBarDown_44, wR_firstBarDown_46, Option.some.injEq, step n a ha, hnu, ls_til, tq_dnl, cR_isBarred h ha hp, hb, am_bt, am_bf, o3, hp', wR_firstBarDown_6]
  · intro n q hpq ih a acc ha
    obtain ⟨-, -, -, o3, -⟩ := cp_at h ha
    have hp' : ts_pa s n = some q := hpq
    obtain ⟨c, hc⟩ := cp_ex h (ts_pa_lv hp')
    rw [fo_c_some hok hpq, wR_firstBarDown_6]
    by_cases hnu : n = u
    · simp [wR_firstBarDown_0, wR_firstBarDown_1, wR_firstBarDown_3, wR_firstBarDown_4, wR_firstBarDown_8, wR_firstBarDown_11, wR_firstBarDown_13, wR_firstBarDown_14, wR_firstBarDown_17, wR_firstBarDown_19, wR_firstBarDown_20, wR_firstBarDown_21, wR_firstBarDown_24, wR_firstBarDown_27, wR_firstBarDown_29, wR_firstBarDown_32, wR_firstBarDown_34, wR_firstBarDown_36, wR_firstBarDown_39, wR_firstBarDown_41, wR_firstBarDown_44, wR_firstBarDown_46, Option.some.injEq, step n a ha, hnu, ls_til, tq_dnl]
    · cases hb : tq_bar s p sg n with
      | true =>
        have ih2 := ih c (some q) hc
        rw [Option.bind_some, hc] at ih2
        simp [wR_firstBarDown_0, wR_firstBarDown_1, wR_firstBarDown_3, wR_firstBarDown_4, wR_firstBarDown_8, wR_firstBarDown_11, wR_firstBarDown_13, wR_firstBarDown_14, wR_firstBarDown_17, wR_firstBarDown_19, wR_firstBarDown_20, wR_firstBarDown_21, wR_firstBarDown_24, wR_firstBarDown_27, wR_firstBarDown_29, wR_firstBarDown_32, wR_firstBarDown_34, wR_firstBarDown_36, wR_firstBarDown_39, wR_firstBarDown_41, wR_firstBarDown_44, wR_firstBarDown_46, Option.some.injEq, step n a ha, hnu, ls_til, tq_dnl, cR_isBarred h ha hp, hb, am_bt, am_bf, o3, hp', hc, ← ih2]
      | false => simp [wR_firstBarDown_0, wR_firstBarDown_1, wR_firstBarDown_3, wR_firstBarDown_4, wR_firstBarDown_8, wR_firstBarDown_11, wR_firstBarDown_13, wR_firstBarDown_14, wR_firstBarDown_17, wR_firstBarDown_19, wR_firstBarDown_20, wR_firstBarDown_21, wR_firstBarDown_24, wR_firstBarDown_27, wR_firstBarDown_29, wR_firstBarDown_32, wR_firstBarDown_34, wR_firstBarDown_36, wR_firstBarDown_39, wR_firstBarDown_41, wR_firstBarDown_44, wR_firstBarDown_46, Option.some.injEq, step n a ha, hnu, ls_til, tq_dnl, cR_isBarred h ha hp, hb, am_bt, am_bf, o3, hp', hc, ih c acc hc]
theorem cR_firstBarDown (h : cp X ad s M) (hok : fo_ok (ts_L s)) (hp : ad p = some pa) {u ua t ta : Nat} (hu : ad u = some ua) (ht : ad t = some ta) (sg : Bool) : am_wp yR_firstBarDown 0 [.inr (.inl (2, some pa)), .inr (.inl (2, some ua)), .inr (.inl (2, some ta)), .inl (am_b sg), am_u, am_u] [] M K = K (some (.inr (.inl (2, (tq_dnl s p sg (ls_til u (fo_c (ts_L s) t)) none).bind ad)))) M := by
  rw [wR_firstBarDown_0, wR_firstBarDown_1, wR_firstBarDown_3, wR_firstBarDown_4]
  exact cR_dn_l h hok hp hu sg _ t (cp_lv h ht) ta none ht
theorem cR_tn_l (h : cp X ad s M) (hok : fo_ok (ts_L s)) {t ta : Nat} (ht : ad t = some ta) (l0 : am_V) : ∀ n, ts_lv s n → ∀ a, ad n = some a → am_wp yR_turnOf 37 [l0, .inr (.inl (2, some ta)), .inr (.inl (2, some a))] [] M K = K (some (.inr (.inl (2, ((fo_c (ts_L s) n).find? (fun x => decide (t ∈ fo_w (ts_L s) x))).bind ad)))) M := by
  refine fo_ind hok ?_ ?_
  · intro n hn hpn a ha
    obtain ⟨-, -, -, o3, -⟩ := cp_at h ha
    have hp' : ts_pa s n = none := hpn
    rw [fo_c_none hok hn hpn, wR_turnOf_37]
    by_cases hw : t ∈ fo_w (ts_L s) n
    · simp [wR_turnOf_0, wR_turnOf_1, wR_turnOf_4, wR_turnOf_6, wR_turnOf_9, wR_turnOf_10, wR_turnOf_13, wR_turnOf_14, wR_turnOf_15, wR_turnOf_18, wR_turnOf_21, wR_turnOf_22, wR_turnOf_23, wR_turnOf_26, wR_turnOf_29, wR_turnOf_30, wR_turnOf_33, wR_turnOf_34, wR_turnOf_35, wR_turnOf_36, wR_turnOf_38, wR_turnOf_41, wR_turnOf_42, wR_turnOf_43, wR_turnOf_46, wR_turnOf_49, wR_turnOf_50, wR_turnOf_53, wR_turnOf_54, wR_turnOf_57, wR_turnOf_58, cT_isWithin h hok ht ha, hw, am_bt, am_bf, ha]
    · simp [wR_turnOf_0, wR_turnOf_1, wR_turnOf_4, wR_turnOf_6, wR_turnOf_9, wR_turnOf_10, wR_turnOf_13, wR_turnOf_14, wR_turnOf_15, wR_turnOf_18, wR_turnOf_21, wR_turnOf_22, wR_turnOf_23, wR_turnOf_26, wR_turnOf_29, wR_turnOf_30, wR_turnOf_33, wR_turnOf_34, wR_turnOf_35, wR_turnOf_36, wR_turnOf_38, wR_turnOf_41, wR_turnOf_42, wR_turnOf_43, wR_turnOf_46, wR_turnOf_49, wR_turnOf_50, wR_turnOf_53, wR_turnOf_54, wR_turnOf_57, wR_turnOf_58, cT_isWithin h hok ht ha, hw, am_bt, am_bf, o3, hp', wR_turnOf_37]
  · intro n q hpq ih a ha
    obtain ⟨-, -, -, o3, -⟩ := cp_at h ha
    have hp' : ts_pa s n = some q := hpq
    obtain ⟨c, hc⟩ := cp_ex h (ts_pa_lv hp')
    rw [fo_c_some hok hpq, wR_turnOf_37]
    by_cases hw : t ∈ fo_w (ts_L s) n
    · simp [wR_turnOf_0, wR_turnOf_1, wR_turnOf_4, wR_turnOf_6, wR_turnOf_9, wR_turnOf_10, wR_turnOf_13, wR_turnOf_14, wR_turnOf_15, wR_turnOf_18, wR_turnOf_21, wR_turnOf_22, wR_turnOf_23, wR_turnOf_26, wR_turnOf_29, wR_turnOf_30, wR_turnOf_33, wR_turnOf_34, wR_turnOf_35, wR_turnOf_36, wR_turnOf_38, wR_turnOf_41, wR_turnOf_42, wR_turnOf_43, wR_turnOf_46, wR_turnOf_49, wR_turnOf_50, wR_turnOf_53, wR_turnOf_54, wR_turnOf_57, wR_turnOf_58, cT_isWithin h hok ht ha, hw, am_bt, am_bf, ha]
    · simp [wR_turnOf_0, wR_turnOf_1, wR_turnOf_4, wR_turnOf_6, wR_turnOf_9, wR_turnOf_10, wR_turnOf_13, wR_turnOf_14, wR_turnOf_15, wR_turnOf_18, wR_turnOf_21, wR_turnOf_22, wR_turnOf_23, wR_turnOf_26, wR_turnOf_29, wR_turnOf_30, wR_turnOf_33, wR_turnOf_34, wR_turnOf_35, wR_turnOf_36, wR_turnOf_38, wR_turnOf_41, wR_turnOf_42, wR_turnOf_43, wR_turnOf_46, wR_turnOf_49, wR_turnOf_50, wR_turnOf_53, wR_turnOf_54, wR_turnOf_57, wR_turnOf_58, cT_isWithin h hok ht ha, hw, am_bt, am_bf, o3, hp', hc, ih c hc]
theorem cR_turnOf (h : cp X ad s M) (hs : ts_ok s) (hp : ad p = some pa) {t ta : Nat} (ht : ad t = some ta) : am_wp yR_turnOf 0 [.inr (.inl (2, some pa)), .inr (.inl (2, some ta)), am_u] [] M K = K (some (.inr (.inl (2, (tq_tn s p t).bind ad)))) M := by
  obtain ⟨-, o1, -⟩ := cp_at h ht
  have hk := (hs.2.2.2.1 t (cp_lv h ht)).1
  unfold tq_tn
  simp only [wR_turnOf_0, wR_turnOf_1, wR_turnOf_4, wR_turnOf_6, o1, nk6 (show ts_kd s t < 1000 by omega)]
  by_cases h6 : ts_kd s t = 6
  · have hrl := (fo_r_mem hs.1 p (cp_lv h hp)).1
    obtain ⟨c, hc⟩ := cp_ex h hrl
    obtain ⟨-, q1, -⟩ := cp_at h hc
    have hkr := (hs.2.2.2.1 _ hrl).1
    simp only [if_pos h6, wR_turnOf_0, wR_turnOf_1, wR_turnOf_4, wR_turnOf_6, wR_turnOf_9, wR_turnOf_10, wR_turnOf_13, wR_turnOf_14, wR_turnOf_15, wR_turnOf_18, wR_turnOf_21, wR_turnOf_22, wR_turnOf_23, wR_turnOf_26, wR_turnOf_29, wR_turnOf_30, wR_turnOf_33, wR_turnOf_34, wR_turnOf_35, wR_turnOf_36, wR_turnOf_38, wR_turnOf_41, wR_turnOf_42, wR_turnOf_43, wR_turnOf_46, wR_turnOf_49, wR_turnOf_50, wR_turnOf_53, wR_turnOf_54, wR_turnOf_57, wR_turnOf_58, cT_topmost h hs.1 hp, hc, q1, true_or, or_true, Option.toList_some, Option.toList_none, List.cons_append, List.nil_append, nk0 (show ts_kd s (fo_r (ts_L s) p) < 1000 by omega)]
    by_cases h0 : ts_kd s (fo_r (ts_L s) p) = 0
    · cases hsp : ts_sp s t (fo_r (ts_L s) p) <;> simp [h0, hsp, cT_isSpreadTo h ht hc (show fo_r (ts_L s) p < 20 from Nat.lt_of_lt_of_le (hs.2.1 _ hrl) hs.2.2.1), am_bt, am_bf, hc, wR_turnOf_0, wR_turnOf_1, wR_turnOf_4, wR_turnOf_6, wR_turnOf_9, wR_turnOf_10, wR_turnOf_13, wR_turnOf_14, wR_turnOf_15, wR_turnOf_18, wR_turnOf_21, wR_turnOf_22, wR_turnOf_23, wR_turnOf_26, wR_turnOf_29, wR_turnOf_30, wR_turnOf_33, wR_turnOf_34, wR_turnOf_35, wR_turnOf_36, wR_turnOf_38, wR_turnOf_41, wR_turnOf_42, wR_turnOf_43, wR_turnOf_46, wR_turnOf_49, wR_turnOf_50, wR_turnOf_53, wR_turnOf_54, wR_turnOf_57, wR_turnOf_58]
    · simp [h0]
  · simp only [if_neg h6, wR_turnOf_35, wR_turnOf_36]
    exact cR_tn_l h hs.1 ht _ p (cp_lv h hp) pa hp
theorem tq_upl_lv {sg : Bool} {l : List Nat} {b : Nat} (h : tq_upl s p sg l = some b) : ts_lv s b := by
  induction l with
  | nil => cases h
  | cons x l ih =>
    unfold tq_upl at h
    split at h
    · exact ts_pa_lv h
    · exact ih h
theorem tq_dnl_lv {sg : Bool} {l : List Nat} {b : Nat} : ∀ {acc : Option Nat}, (∀ c, acc = some c → ts_lv s c) → tq_dnl s p sg l acc = some b → ts_lv s b := by
  induction l with
  | nil => intro acc ha h; exact ha b h
  | cons x l ih =>
    intro acc ha h
    unfold tq_dnl at h
    refine ih ?_ h
    intro c hc
    split at hc
    · exact ts_pa_lv hc
    · exact ha c hc
theorem tq_tn_lv (hs : ts_ok s) {t u : Nat} (hp : ts_lv s p) (h : tq_tn s p t = some u) : ts_lv s u := by
  unfold tq_tn at h
  split at h
  · split at h
    · cases h
      exact (fo_r_mem hs.1 p hp).1
    · cases h
  · have h1 := List.find?_some h
    exact (fo_w_mem (by simpa using h1)).1
theorem cR_follow (h : cp X ad s M) (hs : ts_ok s) (hp : ad p = some pa) {t ta : Nat} (ht : ad t = some ta) (sg : Bool) : am_wp yR_follow 0 [.inr (.inl (2, some pa)), .inr (.inl (2, some ta)), .inl (am_b sg), am_u, am_u] [] M K = K (some (.inl (tq_ro s p t sg))) M := by
  unfold tq_ro
  simp only [wR_follow_0, wR_follow_1, wR_follow_2, cR_turnOf h hs hp ht, true_or, or_true, Option.toList_some, Option.toList_none, List.cons_append, List.nil_append]
  cases hu : tq_tn s p t with
  | none => simp [wR_follow_0, wR_follow_1, wR_follow_2, wR_follow_5, wR_follow_6, wR_follow_7, wR_follow_10, wR_follow_12, wR_follow_13, wR_follow_14, wR_follow_15, wR_follow_16, wR_follow_19, wR_follow_21, wR_follow_23, wR_follow_26, wR_follow_27, wR_follow_28, wR_follow_29, wR_follow_30, wR_follow_33, wR_follow_35, wR_follow_37, wR_follow_40, wR_follow_41, wR_follow_44, wR_follow_46, wR_follow_48, wR_follow_51, wR_follow_52]
  | some u =>
    obtain ⟨ua, hua⟩ := cp_ex h (tq_tn_lv hs (cp_lv h hp) hu)
    simp only [wR_follow_0, wR_follow_1, wR_follow_2, wR_follow_5, wR_follow_6, wR_follow_7, wR_follow_10, wR_follow_12, wR_follow_13, wR_follow_14, wR_follow_15, wR_follow_16, wR_follow_19, wR_follow_21, wR_follow_23, wR_follow_26, wR_follow_27, wR_follow_28, wR_follow_29, wR_follow_30, wR_follow_33, wR_follow_35, wR_follow_37, wR_follow_40, wR_follow_41, wR_follow_44, wR_follow_46, wR_follow_48, wR_follow_51, wR_follow_52, Option.bind_some, hua, true_or, or_true, Option.toList_some, Option.toList_none, List.cons_append, List.nil_append, cR_firstBarUp h hs.1 hp hua]
    cases hb : tq_upl s p sg (ls_til u (fo_c (ts_L s) p)) with
    | some b =>
      obtain ⟨c, hc⟩ := cp_ex h (tq_upl_lv hb)
      obtain ⟨q0, -⟩ := cp_at h hc
      simp [hc, q0, wR_follow_0, wR_follow_1, wR_follow_2, wR_follow_5, wR_follow_6, wR_follow_7, wR_follow_10, wR_follow_12, wR_follow_13, wR_follow_14, wR_follow_15, wR_follow_16, wR_follow_19, wR_follow_21, wR_follow_23, wR_follow_26, wR_follow_27, wR_follow_28, wR_follow_29, wR_follow_30, wR_follow_33, wR_follow_35, wR_follow_37, wR_follow_40, wR_follow_41, wR_follow_44, wR_follow_46, wR_follow_48, wR_follow_51, wR_follow_52]
    | none =>
      simp only [Option.bind_none, if_true, cR_firstBarDown h hs.1 hp hua ht, true_or, or_true, Option.toList_some, Option.toList_none, List.cons_append, List.nil_append, wR_follow_0, wR_follow_1, wR_follow_2, wR_follow_5, wR_follow_6, wR_follow_7, wR_follow_10, wR_follow_12, wR_follow_13, wR_follow_14, wR_follow_15, wR_follow_16, wR_follow_19, wR_follow_21, wR_follow_23, wR_follow_26, wR_follow_27, wR_follow_28, wR_follow_29, wR_follow_30, wR_follow_33, wR_follow_35, wR_follow_37, wR_follow_40, wR_follow_41, wR_follow_44, wR_follow_46, wR_follow_48, wR_follow_51, wR_follow_52]
      cases hd : tq_dnl s p sg (ls_til u (fo_c (ts_L s) t)) none with
      | some b =>
        obtain ⟨c, hc⟩ := cp_ex h (tq_dnl_lv (fun _ q => by cases q) hd)
        obtain ⟨q0, -⟩ := cp_at h hc
        simp [hc, q0, wR_follow_0, wR_follow_1, wR_follow_2, wR_follow_5, wR_follow_6, wR_follow_7, wR_follow_10, wR_follow_12, wR_follow_13, wR_follow_14, wR_follow_15, wR_follow_16, wR_follow_19, wR_follow_21, wR_follow_23, wR_follow_26, wR_follow_27, wR_follow_28, wR_follow_29, wR_follow_30, wR_follow_33, wR_follow_35, wR_follow_37, wR_follow_40, wR_follow_41, wR_follow_44, wR_follow_46, wR_follow_48, wR_follow_51, wR_follow_52]
      | none => simp
theorem cR_forTouch (h : cp X ad s M) (hs : ts_ok s) (hp : ad p = some pa) {t ta : Nat} (ht : ad t = some ta) : am_wp yR_forTouch 0 [.inr (.inl (2, some pa)), .inr (.inl (2, some ta))] [] M K = K (some (.inl (tq_ro s p t false))) M := by
  simp only [wR_forTouch_0, wR_forTouch_1, wR_forTouch_2, wR_forTouch_3, wR_forTouch_6, true_or, or_true, Option.toList_some, Option.toList_none, List.cons_append, List.nil_append]
  refine (cR_follow h hs hp ht false).trans ?_
  simp [wR_forTouch_6]
theorem cR_forSight (h : cp X ad s M) (hs : ts_ok s) (hp : ad p = some pa) {t ta : Nat} (ht : ad t = some ta) : am_wp yR_forSight 0 [.inr (.inl (2, some pa)), .inr (.inl (2, some ta))] [] M K = K (some (.inl (tq_ro s p t true))) M := by
  simp only [wR_forSight_0, wR_forSight_1, wR_forSight_2, wR_forSight_3, wR_forSight_6, true_or, or_true, Option.toList_some, Option.toList_none, List.cons_append, List.nil_append]
  refine (cR_follow h hs hp ht true).trans ?_
  simp [wR_forSight_6]
def tq_ri (s : ts_S) (p t : Nat) : Int32 := if 0 < tq_ro s p t false ∧ ts_cl s t = true then -10 - nI t else tq_ro s p t false
theorem cR_forTouchInside (h : cp X ad s M) (hs : ts_ok s) (hp : ad p = some pa) {t ta : Nat} (ht : ad t = some ta) : am_wp yR_forTouchInside 0 [.inr (.inl (2, some pa)), .inr (.inl (2, some ta)), am_u] [] M K = K (some (.inl (tq_ri s p t))) M := by
  obtain ⟨q0, -, -, -, -, -, -, -, -, q9, -⟩ := cp_at h ht
  unfold tq_ri
  simp only [wR_forTouchInside_0, wR_forTouchInside_1, wR_forTouchInside_2, wR_forTouchInside_5, wR_forTouchInside_6, wR_forTouchInside_7, wR_forTouchInside_10, wR_forTouchInside_11, wR_forTouchInside_14, wR_forTouchInside_17, wR_forTouchInside_19, wR_forTouchInside_20, wR_forTouchInside_23, wR_forTouchInside_24, wR_forTouchInside_27, wR_forTouchInside_28, cR_forTouch h hs hp ht, true_or, or_true, Option.toList_some, Option.toList_none, List.cons_append, List.nil_append, q9, am_b0]
  by_cases h0 : 0 < tq_ro s p t false
  · cases hc : ts_cl s t <;> simp [h0, hc, q0, wR_forTouchInside_0, wR_forTouchInside_1, wR_forTouchInside_2, wR_forTouchInside_5, wR_forTouchInside_6, wR_forTouchInside_7, wR_forTouchInside_10, wR_forTouchInside_11, wR_forTouchInside_14, wR_forTouchInside_17, wR_forTouchInside_19, wR_forTouchInside_20, wR_forTouchInside_23, wR_forTouchInside_24, wR_forTouchInside_27, wR_forTouchInside_28]
  · simp [h0]
end CR
