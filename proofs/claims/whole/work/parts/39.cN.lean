section CN
variable {X : Nat} {ad : Nat → Option Nat} {s : ts_S} {M M' : am_M} {K : Option am_V → am_M → Prop} {n a : Nat}
def ts_setw (s : ts_S) (n : Nat) (w : Int32) : ts_S := (s.1, s.2.1, s.2.2.1, s.2.2.2.1, (fun k => if k = n then w else s.2.2.2.2.1 k), s.2.2.2.2.2)
theorem ts_setw_wy (s : ts_S) (n : Nat) (w : Int32) (m : Nat) : ts_wy (ts_setw s n w) m = if m = n then w else ts_wy s m := rfl
theorem cp_setw (h : cp X ad s M) (hp : ts_pa s n = none) (w : Int32) : cp X ad (ts_setw s n w) M := by
  refine ⟨h.1, h.2.1, h.2.2.1, h.2.2.2.1, h.2.2.2.2.1, fun m b hb => ?_, h.2.2.2.2.2.2⟩
  obtain ⟨o0, o1, o2, o3, o4, o5, o6, o7, o8, o9⟩ := cp_at h hb
  refine ⟨o0, o1, o2, o3, ?_, o5, o6, o7, o8, o9⟩
  rw [o4]
  unfold ts_way
  show (if ts_pa s m = none then -8 else ts_wy s m) = if ts_pa s m = none then -8 else if m = n then w else ts_wy s m
  by_cases q : m = n
  · rw [q, hp]; simp
  · simp [q]
-- what coming in does
theorem lnk_post (h : cp X ad s M) (hok : fo_ok (ts_L s)) (ha : ad n = some a) (hn0 : ts_pa s n = none) {p ap : Nat} (hap : ad p = some ap) (hw : p ∉ fo_w (ts_L s) n) (hf : fx_f (fun b => ∃ m, ad m = some b) M M') (hi : ∀ b j, j ≠ 4 → am_mi M' b j = am_mi M b j)
    (H3 : ∀ b, am_mr M' b 3 = if b = a then some ap else am_mr M b 3) (H4 : ∀ b, am_mi M' b 4 = if b = a then ts_wy s n else am_mi M b 4)
    (H5 : ∀ b, am_mr M' b 5 = if b = ap ∧ ts_kk s p = [] then some a else am_mr M b 5) (H6 : ∀ b, am_mr M' b 6 = if b = ap then some a else am_mr M b 6)
    (H7 : ∀ b, am_mr M' b 7 = if b = a then (ts_kk s p).getLast?.bind ad else am_mr M b 7)
    (H8 : ∀ b, am_mr M' b 8 = if (ts_kk s p).getLast?.bind ad = some b then some a else am_mr M b 8) : cp X ad (ts_setL s (fo_mv (ts_L s) n p)) M' := by
  have hln : n ∈ (ts_L s).map (·.1) := cp_lv h ha
  have hlp : p ∈ (ts_L s).map (·.1) := cp_lv h hap
  obtain ⟨u1, u2, u3, u4⟩ := fo_mv_ok hok hln hlp hw
  have nok : ∀ x, n ∉ fo_k (ts_L s) x := fun x q => by
    have := fo_k_of hok q
    rw [show fo_p (ts_L s) n = ts_pa s n from rfl, hn0] at this
    cases this
  have u4' : ∀ x, fo_k (fo_mv (ts_L s) n p) x = if x = p then ts_kk s p ++ [n] else ts_kk s x := fun x => by
    rw [u4 x, List.erase_of_not_mem (nok p), List.erase_of_not_mem (nok x)]
    rfl
  have hnd : (ts_kk s p ++ [n]).Nodup := by
    have := fo_k_nd u1 p
    rw [u4' p, if_pos rfl] at this
    exact this
  have hlive1 : ∀ q, (ts_kk s p).getLast? = some q → ts_lv s q := fun q hq => (fo_p_mem (fo_k_of hok (List.mem_of_getLast? hq))).1
  refine cp_re h (fun x => u2 x) hf hi (fun m b hb => ?_)
  obtain ⟨o0, o1, o2, o3, o4, o5, o6, o7, o8, o9, o10, o11, o12⟩ := cp_at h hb
  have eba : (b = a) = (m = n) := propext ⟨fun q => by subst q; exact h.2.2.2.2.2.2.2.2 m n b hb ha, fun q => by subst q; rw [ha] at hb; exact (Option.some.inj hb).symm⟩
  have ebp : (b = ap) = (m = p) := propext ⟨fun q => by subst q; exact h.2.2.2.2.2.2.2.2 m p b hb hap, fun q => by subst q; rw [hap] at hb; exact (Option.some.inj hb).symm⟩
  have hpm : fo_p (fo_mv (ts_L s) n p) m = if m = n then some p else ts_pa s m := u3 m
  have hkk : ∀ x, ts_kk (ts_setL s (fo_mv (ts_L s) n p)) x = if x = p then ts_kk s p ++ [n] else ts_kk s x := u4'
  refine ⟨?_, ?_, ?_, ?_, ?_, ?_⟩
  · rw [H3, hpm, o3]
    simp only [eba]
    split
    · rw [Option.bind_some, hap]
    · rfl
  · rw [H4, o4]
    unfold ts_way ts_pa
    show _ = if fo_p (fo_mv (ts_L s) n p) m = none then -8 else ts_wy s m
    rw [hpm]
    simp only [eba]
    by_cases q : m = n
    · simp [q]
    · simp only [q, if_false]; rfl
  · rw [H5, u4', o5]
    simp only [ebp]
    by_cases q : m = p
    · subst q
      cases hk : ts_kk s m with
      | nil => simp [ha]
      | cons x l => simp
    · simp [q]
  · rw [H6, u4', o6]
    simp only [ebp]
    by_cases q : m = p
    · simp [q, ha]
    · simp [q]
  · rw [H7, o7]
    have e1 : ts_pv (ts_setL s (fo_mv (ts_L s) n p)) m = if m = n then (ts_kk s p).getLast? else ts_pv s m := by
      unfold ts_pv
      rw [show ts_pa (ts_setL s (fo_mv (ts_L s) n p)) m = fo_p (fo_mv (ts_L s) n p) m from rfl, hpm]
      by_cases q : m = n
      · subst q
        simp only [if_true, Option.bind_some, hkk]
        exact ls_pv_at (ts_kk s p) [] hnd
      · simp only [q, if_false, hkk]
        cases hpa : ts_pa s m with
        | none => rfl
        | some x =>
          simp only [Option.bind_some]
          by_cases q2 : x = p
          · rw [if_pos q2, q2, ls_pv_ap q _ hnd]
          · rw [if_neg q2]
    rw [e1]
    simp only [eba]
    split <;> rfl
  · rw [H8, o8]
    have e1 : ts_nx (ts_setL s (fo_mv (ts_L s) n p)) m = if (ts_kk s p).getLast? = some m then some n else ts_nx s m := by
      unfold ts_nx
      rw [show ts_pa (ts_setL s (fo_mv (ts_L s) n p)) m = fo_p (fo_mv (ts_L s) n p) m from rfl, hpm]
      by_cases q : m = n
      · subst q
        have q3 : ¬ (ts_kk s p).getLast? = some m := fun q4 => nok p (List.mem_of_getLast? q4)
        simp only [if_true, Option.bind_some, hkk, q3, if_false, hn0, Option.bind_none]
        have q5 : m ∉ ts_kk s p := nok p
        exact ls_nx_at q5
      · simp only [q, if_false, hkk]
        cases hpa : ts_pa s m with
        | none =>
          have q3 : ¬ (ts_kk s p).getLast? = some m := fun q4 => by
            have := fo_k_of hok (List.mem_of_getLast? q4)
            rw [show fo_p (ts_L s) m = ts_pa s m from rfl, hpa] at this
            cases this
          simp [q3]
        | some x =>
          simp only [Option.bind_some]
          by_cases q2 : x = p
          · rw [if_pos q2, q2, ls_nx_ap q _ hnd]
          · have q3 : ¬ (ts_kk s p).getLast? = some m := fun q4 => by
              have := fo_k_of hok (List.mem_of_getLast? q4)
              rw [show fo_p (ts_L s) m = ts_pa s m from rfl, hpa] at this
              exact q2 (Option.some.inj this)
            rw [if_neg q2, if_neg q3]
    rw [e1]
    simp only [cp_bind h hb hlive1]
    split
    · rw [Option.bind_some, ha]
    · rfl
theorem cT_link (h : cp X ad s M) (hok : fo_ok (ts_L s)) (ha : ad n = some a) (hn0 : ts_pa s n = none) {p ap : Nat} (hap : ad p = some ap) (hw : p ∉ fo_w (ts_L s) n) (w : Int32) (hK : ∀ M', cp X ad (ts_setL (ts_setw s n w) (fo_mv (ts_L s) n p)) M' → fx_f (fun b => ∃ m, ad m = some b) M M' → K none M') : am_wp yT_link 0 [.inr (.inl (2, some a)), .inr (.inl (2, some ap)), .inl w] [] M K := by
  have h' := cp_setw h hn0 w
  obtain ⟨p0, p1, p2, p3, p4, p5, p6, -⟩ := cp_at h hap
  have hpn : p ≠ n := fun q => hw (by rw [q]; exact fo_w_self (cp_lv h ha))
  have inj : ∀ m b, ad m = some b → m ≠ n → ¬ b = a := fun m b hb hne q => hne (h.2.2.2.2.2.2.2.2 m n b hb (by rw [q]; exact ha))
  have ap_a := inj p ap hap hpn
  cases hl : (ts_kk s p).getLast? with
  | none =>
    have e1 : ts_kk s p = [] := List.getLast?_eq_none_iff.mp hl
    rw [hl, Option.bind_none] at p6
    simp only [wT_link_0, wT_link_1, wT_link_2, wT_link_5, wT_link_6, wT_link_7, wT_link_10, wT_link_11, wT_link_12, wT_link_15, wT_link_18, wT_link_19, wT_link_22, wT_link_25, wT_link_26, wT_link_27, wT_link_30, wT_link_33, wT_link_34, wT_link_37, wT_link_38, wT_link_41, wT_link_42, wT_link_43, wT_link_46, am_mr_sr, am_mr_si, ap_a, false_and, if_false, p6, if_true]
    refine hK _ (lnk_post h' hok ha hn0 hap hw ?_ ?_ ?_ ?_ ?_ ?_ ?_ ?_) ?_
    · exact fx_f_tr (fx_f_tr (fx_f_tr (fx_f_tr (fx_f_sr ⟨n, ha⟩) (fx_f_si ⟨n, ha⟩)) (fx_f_sr ⟨n, ha⟩)) (fx_f_sr ⟨p, hap⟩)) (fx_f_sr ⟨p, hap⟩)
    · intro b j hj; simp [am_mi_si, am_mi_sr, hj]
    · intro b; by_cases q : b = a <;> simp [am_mr_sr, am_mr_si, q]
    · intro b; by_cases q : b = a <;> simp [am_mi_sr, am_mi_si, q, ts_setw_wy]
    · intro b; by_cases q : b = ap <;> simp [am_mr_sr, am_mr_si, q, show ts_kk (ts_setw s n w) p = [] from e1]
    · intro b; by_cases q : b = ap <;> simp [am_mr_sr, am_mr_si, q]
    · intro b; by_cases q : b = a <;> simp [am_mr_sr, am_mr_si, q, show ts_kk (ts_setw s n w) p = [] from e1]
    · intro b; simp [am_mr_sr, am_mr_si, show ts_kk (ts_setw s n w) p = [] from e1]
    · exact fx_f_tr (fx_f_tr (fx_f_tr (fx_f_tr (fx_f_sr ⟨n, ha⟩) (fx_f_si ⟨n, ha⟩)) (fx_f_sr ⟨n, ha⟩)) (fx_f_sr ⟨p, hap⟩)) (fx_f_sr ⟨p, hap⟩)
  | some x =>
    obtain ⟨ax, hax⟩ := cp_ex h (fo_p_mem (fo_k_of hok (List.mem_of_getLast? hl))).1
    have e1 : ¬ ts_kk s p = [] := fun q => by rw [q] at hl; cases hl
    have e1' : ¬ ts_kk (ts_setw s n w) p = [] := e1
    have hl' : (ts_kk (ts_setw s n w) p).getLast? = some x := hl
    rw [hl, Option.bind_some, hax] at p6
    simp only [wT_link_0, wT_link_1, wT_link_2, wT_link_5, wT_link_6, wT_link_7, wT_link_10, wT_link_11, wT_link_12, wT_link_15, wT_link_18, wT_link_19, wT_link_22, wT_link_25, wT_link_26, wT_link_27, wT_link_30, wT_link_33, wT_link_34, wT_link_37, wT_link_38, wT_link_41, wT_link_42, wT_link_43, wT_link_46, am_mr_sr, am_mr_si, ap_a, false_and, if_false, p6, reduceCtorEq]
    refine hK _ (lnk_post h' hok ha hn0 hap hw ?_ ?_ ?_ ?_ ?_ ?_ ?_ ?_) ?_
    · exact fx_f_tr (fx_f_tr (fx_f_tr (fx_f_tr (fx_f_sr ⟨n, ha⟩) (fx_f_si ⟨n, ha⟩)) (fx_f_sr ⟨n, ha⟩)) (fx_f_sr ⟨x, hax⟩)) (fx_f_sr ⟨p, hap⟩)
    · intro b j hj; simp [am_mi_si, am_mi_sr, hj]
    · intro b; by_cases q : b = a <;> simp [am_mr_sr, am_mr_si, q]
    · intro b; by_cases q : b = a <;> simp [am_mi_sr, am_mi_si, q, ts_setw_wy]
    · intro b; by_cases q : b = ap <;> simp [am_mr_sr, am_mr_si, q, e1']
    · intro b; by_cases q : b = ap <;> simp [am_mr_sr, am_mr_si, q]
    · intro b; by_cases q : b = a <;> simp [am_mr_sr, am_mr_si, q, hl', hax]
    · intro b
      by_cases q : b = ax
      · simp [am_mr_sr, am_mr_si, q, hl', hax]
      · simp [am_mr_sr, am_mr_si, q, Ne.symm q, hl', hax]
    · exact fx_f_tr (fx_f_tr (fx_f_tr (fx_f_tr (fx_f_sr ⟨n, ha⟩) (fx_f_si ⟨n, ha⟩)) (fx_f_sr ⟨n, ha⟩)) (fx_f_sr ⟨x, hax⟩)) (fx_f_sr ⟨p, hap⟩)
-- a change is noted
def ts_note (s : ts_S) (v0 v1 v2 v3 : Int32) : ts_S := (s.1, s.2.1, s.2.2.1, s.2.2.2.1, s.2.2.2.2.1, s.2.2.2.2.2.1, s.2.2.2.2.2.2.1, s.2.2.2.2.2.2.2.1, s.2.2.2.2.2.2.2.2.1, ts_t s + 1, fun j => if j = ts_t s % 30 * 4 + 3 then v3 else if j = ts_t s % 30 * 4 + 2 then v2 else if j = ts_t s % 30 * 4 + 1 then v1 else if j = ts_t s % 30 * 4 then v0 else ts_ch s j)
theorem cC_note {aT : Nat → Option Nat} (h : cg X aT ad s M) (ht : ts_t s < 2 ^ 30) (v0 v1 v2 v3 : Int32) (hK : ∀ M', cg X aT ad (ts_note s v0 v1 v2 v3) M' → fx_f (fun b => b = X + 2 ∨ b = X + 3) M M' → K none M') : am_wp yC_note 0 [.inr (.inl (3, some (X + 2))), .inl v0, .inl v1, .inl v2, .inl v3, am_u] [] M K := by
  obtain ⟨s0, s1, s2, s3⟩ := h.1
  have h2 := h.2.2.1
  have h3 := h.2.2.2.1
  have hm : ts_t s % 30 < 30 := Nat.mod_lt _ (by decide)
  have e0 : nI (ts_t s % 30) * 4 = nI (ts_t s % 30 * 4) := by rw [show (4 : Int32) = nI 4 from rfl, pk_mul]
  have e2 : nI (ts_t s % 30 * 4) + 2 = nI (ts_t s % 30 * 4 + 2) := by rw [show (2 : Int32) = nI 2 from rfl, nI_add]
  have e3 : nI (ts_t s % 30 * 4) + 3 = nI (ts_t s % 30 * 4 + 3) := by rw [show (3 : Int32) = nI 3 from rfl, nI_add]
  have k0 := am_ok_nI (show ts_t s % 30 * 4 < 120 by omega) (by decide : 120 < 2 ^ 31)
  have k1 := am_ok_nI (show ts_t s % 30 * 4 + 1 < 120 by omega) (by decide : 120 < 2 ^ 31)
  have k2 := am_ok_nI (show ts_t s % 30 * 4 + 2 < 120 by omega) (by decide : 120 < 2 ^ 31)
  have k3 := am_ok_nI (show ts_t s % 30 * 4 + 3 < 120 by omega) (by decide : 120 < 2 ^ 31)
  have x32 : ¬ X + 3 = X + 2 := by omega
  have x23 : ¬ X + 2 = X + 3 := by omega
  simp only [wC_note_0, wC_note_1, wC_note_4, wC_note_6, wC_note_9, wC_note_10, wC_note_11, wC_note_13, wC_note_14, wC_note_17, wC_note_19, wC_note_21, wC_note_22, wC_note_25, wC_note_27, wC_note_28, wC_note_29, wC_note_31, wC_note_32, wC_note_35, wC_note_37, wC_note_38, wC_note_39, wC_note_41, wC_note_42, wC_note_45, wC_note_47, wC_note_48, wC_note_49, wC_note_52, wC_note_53, wC_note_54, wC_note_57, wC_note_58, wC_note_59, wC_note_62, h2, cJ_floorMod (ts_t s) ht, true_or, or_true, Option.toList_some, Option.toList_none, List.cons_append, List.nil_append, e0, e2, e3, nI_1, s3, wC_note_20 k0, wC_note_30 k1, wC_note_40 k2, wC_note_51 k3, am_mr_si, am_mi_si, x23, false_and, if_false, nI_clamp (show ts_t s % 30 * 4 < 2 ^ 31 by omega), nI_clamp (show ts_t s % 30 * 4 + 1 < 2 ^ 31 by omega), nI_clamp (show ts_t s % 30 * 4 + 2 < 2 ^ 31 by omega), nI_clamp (show ts_t s % 30 * 4 + 3 < 2 ^ 31 by omega)]
  have hfx : fx_f (fun b => b = X + 2 ∨ b = X + 3) M (am_si (am_si (am_si (am_si (am_si M (X + 3) (ts_t s % 30 * 4) v0) (X + 3) (ts_t s % 30 * 4 + 1) v1) (X + 3) (ts_t s % 30 * 4 + 2) v2) (X + 3) (ts_t s % 30 * 4 + 3) v3) (X + 2) 1 (nI (ts_t s + 1))) := fx_f_tr (fx_f_tr (fx_f_tr (fx_f_tr (fx_f_si (Or.inr rfl)) (fx_f_si (Or.inr rfl))) (fx_f_si (Or.inr rfl))) (fx_f_si (Or.inr rfl))) (fx_f_si (Or.inl rfl))
  refine hK _ ?_ hfx
  have far : ∀ c, c ≠ X + 2 → c ≠ X + 3 → _ := fun c q1 q2 => hfx.1 c (fun q => q.elim q1 q2)
  refine ⟨⟨s0, s1, s2, s3⟩, ?_, ?_, ?_, h.2.2.2.2.1, ?_, h.2.2.2.2.2.2⟩
  · rw [(far X (by omega) (by omega)).1]; exact h.2.1
  · simp only [am_mi_si, if_true, and_self]; rfl
  · intro j hj
    have := h3 j hj
    simp only [am_mi_si, x32, false_and, if_false, true_and, this]
    rfl
  · intro m b hb
    have hbX := h.2.2.2.2.2.2.2.1 m b hb
    exact cp_o_fr (s := s) (cp_at h hb) (far b (by omega) (by omega)).1 (far b (by omega) (by omega)).2
end CN
