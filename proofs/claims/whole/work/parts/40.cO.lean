-- COMING, AND SETTING
section CO
def cxR (X b : Nat) : Prop := (X ≤ b ∧ b < X + 5) ∨ X + 20 < b
def ts_come (s : ts_S) (n p : Nat) (w : Int32) : ts_S := ts_setL (ts_setw (ts_note s (nI n) (ts_no (ts_pa s n)) (nI p) w) n w) (fo_mv (ts_L s) n p)
def ts_gone (s : ts_S) (n : Nat) : ts_S := ts_setL (ts_note s (nI n) (ts_no (ts_pa s n)) (-8) (-8)) (fo_out (ts_L s) n)
variable {X : Nat} {ad : Nat → Option Nat} {s : ts_S} {M M' : am_M} {K : Option am_V → am_M → Prop} {n a : Nat}
theorem fx_th {aT : Nat → Option Nat} (h : cg X aT ad s M) {M1 M2 : am_M} (hf : fx_f (fun b => ∃ m, ad m = some b) M1 M2) : fx_f (cxR X) M1 M2 := fx_f_to hf (fun b ⟨m, hm⟩ => Or.inr (h.2.2.2.2.2.2.2.1 m b hm).1)
theorem fx_ch {M1 M2 : am_M} (hf : fx_f (fun b => b = X + 2 ∨ b = X + 3) M1 M2) : fx_f (cxR X) M1 M2 := fx_f_to hf (fun b hb => by unfold cxR; omega)
theorem fx_wk {M1 M2 : am_M} (hf : fx_f (fun b => b = X + 4) M1 M2) : fx_f (cxR X) M1 M2 := fx_f_to hf (fun b hb => by unfold cxR; omega)
theorem cX_comeNowhere {aT : Nat → Option Nat} (h : cg X aT ad s M) (hs : ts_ok s) (ht : ts_t s < 2 ^ 30) (ha : ad n = some a) (hK : ∀ M', cg X aT ad (ts_gone s n) M' → fx_f (cxR X) M M' → K none M') : am_wp yX_comeNowhere 0 [.inr (.inl (1, some X)), .inr (.inl (2, some a))] [] M K := by
  obtain ⟨s0, s1, s2, s3⟩ := h.1
  obtain ⟨o0, o1, o2, o3, -⟩ := cp_at h ha
  simp only [wX_comeNowhere_0, wX_comeNowhere_1, wX_comeNowhere_4, wX_comeNowhere_5, wX_comeNowhere_8, wX_comeNowhere_9, wX_comeNowhere_12, wX_comeNowhere_15, wX_comeNowhere_17, wX_comeNowhere_19, wX_comeNowhere_22, wX_comeNowhere_23, wX_comeNowhere_26, s1, o0, o3, cX_numberOf h (ts_pa s n) (fun q hq => ts_pa_lv hq), true_or, or_true, Option.toList_some, Option.toList_none, List.cons_append, List.nil_append]
  refine cC_note h ht _ _ _ _ (fun M1 h1 f1 => ?_)
  simp only [wX_comeNowhere_0, wX_comeNowhere_1, wX_comeNowhere_4, wX_comeNowhere_5, wX_comeNowhere_8, wX_comeNowhere_9, wX_comeNowhere_12, wX_comeNowhere_15, wX_comeNowhere_17, wX_comeNowhere_19, wX_comeNowhere_22, wX_comeNowhere_23, wX_comeNowhere_26, true_or, or_true, Option.toList_some, Option.toList_none, List.cons_append, List.nil_append]
  refine cT_unlink h1 (show ts_ok (ts_note s _ _ _ _) from hs) ha (fun M2 h2 f2 => ?_)
  simp only [wX_comeNowhere_0, wX_comeNowhere_1, wX_comeNowhere_4, wX_comeNowhere_5, wX_comeNowhere_8, wX_comeNowhere_9, wX_comeNowhere_12, wX_comeNowhere_15, wX_comeNowhere_17, wX_comeNowhere_19, wX_comeNowhere_22, wX_comeNowhere_23, wX_comeNowhere_26, true_or, or_true, Option.toList_some, Option.toList_none, List.cons_append, List.nil_append]
  exact hK M2 h2 (fx_f_tr (fx_ch f1) (fx_th h f2))
theorem cX_come (h : cp X ad s M) (hs : ts_ok s) (ht : ts_t s < 2 ^ 30) (ha : ad n = some a) {p ap : Nat} (hap : ad p = some ap) (hw : p ∉ fo_w (ts_L s) n) (w : Int32) (hK : ∀ M', cp X ad (ts_come s n p w) M' → fx_f (cxR X) M M' → K none M') : am_wp yX_come 0 [.inr (.inl (1, some X)), .inr (.inl (2, some a)), .inr (.inl (2, some ap)), .inl w] [] M K := by
  obtain ⟨s0, s1, s2, s3⟩ := h.1
  obtain ⟨o0, o1, o2, o3, -⟩ := cp_at h ha
  obtain ⟨p0, -⟩ := cp_at h hap
  have hln : n ∈ (ts_L s).map (·.1) := cp_lv h ha
  have hlp : p ∈ (ts_L s).map (·.1) := cp_lv h hap
  obtain ⟨u1, u2, u3, u4⟩ := fo_out_ok hs.1 hln
  simp only [wX_come_0, wX_come_1, wX_come_4, wX_come_5, wX_come_8, wX_come_9, wX_come_12, wX_come_15, wX_come_16, wX_come_19, wX_come_20, wX_come_23, wX_come_24, wX_come_27, wX_come_28, wX_come_29, wX_come_30, wX_come_33, s1, o0, o3, p0, cX_numberOf h (ts_pa s n) (fun q hq => ts_pa_lv hq), true_or, or_true, Option.toList_some, Option.toList_none, List.cons_append, List.nil_append]
  refine cC_note h ht _ _ _ _ (fun M1 h1 f1 => ?_)
  simp only [wX_come_0, wX_come_1, wX_come_4, wX_come_5, wX_come_8, wX_come_9, wX_come_12, wX_come_15, wX_come_16, wX_come_19, wX_come_20, wX_come_23, wX_come_24, wX_come_27, wX_come_28, wX_come_29, wX_come_30, wX_come_33, true_or, or_true, Option.toList_some, Option.toList_none, List.cons_append, List.nil_append]
  refine cT_unlink h1 (show ts_ok (ts_note s _ _ _ _) from hs) ha (fun M2 h2 f2 => ?_)
  simp only [wX_come_0, wX_come_1, wX_come_4, wX_come_5, wX_come_8, wX_come_9, wX_come_12, wX_come_15, wX_come_16, wX_come_19, wX_come_20, wX_come_23, wX_come_24, wX_come_27, wX_come_28, wX_come_29, wX_come_30, wX_come_33, true_or, or_true, Option.toList_some, Option.toList_none, List.cons_append, List.nil_append]
  refine cT_link h2 u1 ha (by show fo_p (fo_out (ts_L s) n) n = none; rw [u3 n, if_pos rfl]) hap (by show p ∉ fo_w (fo_out (ts_L s) n) n; rw [(fo_out_cut hs.1 hln).2.2]; exact hw) w (fun M3 h3 f3 => ?_)
  simp only [wX_come_0, wX_come_1, wX_come_4, wX_come_5, wX_come_8, wX_come_9, wX_come_12, wX_come_15, wX_come_16, wX_come_19, wX_come_20, wX_come_23, wX_come_24, wX_come_27, wX_come_28, wX_come_29, wX_come_30, wX_come_33, true_or, or_true, Option.toList_some, Option.toList_none, List.cons_append, List.nil_append]
  refine hK M3 ?_ (fx_f_tr (fx_f_tr (fx_ch f1) (fx_th h f2)) (fx_th h f3))
  have e := fo_mv_out hs.1 hln hlp hw
  have h4 : cp X ad (ts_setL (ts_setw (ts_note s (nI n) (ts_no (ts_pa s n)) (nI p) w) n w) (fo_mv (fo_out (ts_L s) n) n p)) M3 := h3
  rw [e] at h4
  exact h4
def sp_cuf (s : ts_S) (n p : Nat) (w : Int32) : Int32 × ts_S := if tq_fu s p = true then (-5, s) else (1, ts_come s n p w)
theorem cX_comeUnlessFull (h : cp X ad s M) (hs : ts_ok s) (ht : ts_t s < 2 ^ 30) (ha : ad n = some a) {p ap : Nat} (hap : ad p = some ap) (hw : p ∉ fo_w (ts_L s) n) (w : Int32) (hK : ∀ M', cp X ad (sp_cuf s n p w).2 M' → fx_f (cxR X) M M' → K (some (.inl (sp_cuf s n p w).1)) M') : am_wp yX_comeUnlessFull 0 [.inr (.inl (1, some X)), .inr (.inl (2, some a)), .inr (.inl (2, some ap)), .inl w] [] M K := by
  unfold sp_cuf at hK
  simp only [wX_comeUnlessFull_0, wX_comeUnlessFull_1, wX_comeUnlessFull_4, wX_comeUnlessFull_7, wX_comeUnlessFull_9, wX_comeUnlessFull_10, wX_comeUnlessFull_11, wX_comeUnlessFull_12, wX_comeUnlessFull_13, wX_comeUnlessFull_14, wX_comeUnlessFull_17, wX_comeUnlessFull_18, cT_isFull h hs hap, true_or, or_true, Option.toList_some, Option.toList_none, List.cons_append, List.nil_append, am_b0]
  cases hf : tq_fu s p with
  | true =>
    rw [hf] at hK
    simp only [if_true] at hK
    simp only [reduceCtorEq, if_false, wX_comeUnlessFull_0, wX_comeUnlessFull_1, wX_comeUnlessFull_4, wX_comeUnlessFull_7, wX_comeUnlessFull_9, wX_comeUnlessFull_10, wX_comeUnlessFull_11, wX_comeUnlessFull_12, wX_comeUnlessFull_13, wX_comeUnlessFull_14, wX_comeUnlessFull_17, wX_comeUnlessFull_18]
    exact hK M h (fx_f_rf M)
  | false =>
    rw [hf] at hK
    simp only [reduceCtorEq, if_false] at hK
    simp only [if_true, wX_comeUnlessFull_0, wX_comeUnlessFull_1, wX_comeUnlessFull_4, wX_comeUnlessFull_7, wX_comeUnlessFull_9, wX_comeUnlessFull_10, wX_comeUnlessFull_11, wX_comeUnlessFull_12, wX_comeUnlessFull_13, wX_comeUnlessFull_14, wX_comeUnlessFull_17, wX_comeUnlessFull_18]
    refine cX_come h hs ht ha hap hw w (fun M1 h1 f1 => ?_)
    simp only [wX_comeUnlessFull_0, wX_comeUnlessFull_1, wX_comeUnlessFull_4, wX_comeUnlessFull_7, wX_comeUnlessFull_9, wX_comeUnlessFull_10, wX_comeUnlessFull_11, wX_comeUnlessFull_12, wX_comeUnlessFull_13, wX_comeUnlessFull_14, wX_comeUnlessFull_17, wX_comeUnlessFull_18, true_or, or_true, Option.toList_some, Option.toList_none, List.cons_append, List.nil_append]
    exact hK M1 h1 f1
-- a state after a coming is good
theorem ts_ok_gone (hs : ts_ok s) (hn : ts_lv s n) : ts_ok (ts_gone s n) := by
  obtain ⟨u1, u2, u3, u4⟩ := fo_out_ok hs.1 hn
  refine ⟨u1, fun m hm => hs.2.1 m ((u2 m).mp hm), hs.2.2.1, fun m hm => hs.2.2.2.1 m ((u2 m).mp hm), fun m p hp => ?_⟩
  have hp' : fo_p (fo_out (ts_L s) n) m = some p := hp
  rw [u3 m] at hp'
  split at hp'
  · cases hp'
  · exact hs.2.2.2.2 m p hp'
theorem ts_ok_come (hs : ts_ok s) (hn : ts_lv s n) {p : Nat} (hp : ts_lv s p) (hw : p ∉ fo_w (ts_L s) n) {w : Int32} (hk : ts_kd s n ≠ 0 ∧ ts_kd s n ≠ 6 ∧ ((w = 0 ∧ (ts_kd s p = 0 ∨ ts_kd s p = 2 ∨ ts_kd s p = 5)) ∨ (w = 1 ∧ ts_kd s p = 3) ∨ ((w = 2 ∨ w = 3) ∧ ts_kd s p = 4) ∨ (w = 4 ∧ ts_kd s p ≠ 0 ∧ ts_kd s p ≠ 6))) : ts_ok (ts_come s n p w) := by
  obtain ⟨u1, u2, u3, u4⟩ := fo_mv_ok hs.1 hn hp hw
  refine ⟨u1, fun m hm => hs.2.1 m ((u2 m).mp hm), hs.2.2.1, fun m hm => hs.2.2.2.1 m ((u2 m).mp hm), fun m q hq => ?_⟩
  have hq' : fo_p (fo_mv (ts_L s) n p) m = some q := hq
  rw [u3 m] at hq'
  show ts_kd s m ≠ 0 ∧ ts_kd s m ≠ 6 ∧ (((if m = n then w else ts_wy s m) = 0 ∧ _) ∨ ((if m = n then w else ts_wy s m) = 1 ∧ _) ∨ (((if m = n then w else ts_wy s m) = 2 ∨ (if m = n then w else ts_wy s m) = 3) ∧ _) ∨ ((if m = n then w else ts_wy s m) = 4 ∧ _))
  by_cases e : m = n
  · rw [if_pos e] at hq'
    cases hq'
    simp only [e, if_true]
    exact hk
  · rw [if_neg e] at hq'
    simp only [e, if_false]
    exact hs.2.2.2.2 m q hq'
-- setting
def ts_setcl (s : ts_S) (n : Nat) (b : Bool) : ts_S := (s.1, s.2.1, s.2.2.1, s.2.2.2.1, s.2.2.2.2.1, (fun k => if k = n then b else s.2.2.2.2.2.1 k), s.2.2.2.2.2.2)
def ts_setcr (s : ts_S) (n : Nat) (b : Bool) : ts_S := (s.1, s.2.1, s.2.2.1, s.2.2.2.1, s.2.2.2.2.1, s.2.2.2.2.2.1, (fun k => if k = n then b else s.2.2.2.2.2.2.1 k), s.2.2.2.2.2.2.2)
def ts_setsh (s : ts_S) (n : Nat) (b : Bool) : ts_S := (s.1, s.2.1, s.2.2.1, s.2.2.2.1, s.2.2.2.2.1, s.2.2.2.2.2.1, s.2.2.2.2.2.2.1, (fun k => if k = n then b else s.2.2.2.2.2.2.2.1 k), s.2.2.2.2.2.2.2.2)
def ts_setsp (s : ts_S) (n r : Nat) (b : Bool) : ts_S := (s.1, s.2.1, s.2.2.1, s.2.2.2.1, s.2.2.2.2.1, s.2.2.2.2.2.1, s.2.2.2.2.2.2.1, s.2.2.2.2.2.2.2.1, (fun k j => if k = n ∧ j = r then b else s.2.2.2.2.2.2.2.2.1 k j), s.2.2.2.2.2.2.2.2.2)
theorem cp_seti {s' : ts_S} {k : Nat} {x : Int32} (h : cp X ad s M) (ha : ad n = some a) (e1 : ts_m s' = ts_m s) (e2 : ts_t s' = ts_t s) (e3 : ts_ch s' = ts_ch s) (e4 : ts_L s' = ts_L s) (ho : ∀ m b, ad m = some b → m ≠ n → cp_o ad s M m b → cp_o ad s' M m b) (hn : cp_o ad s' (am_si M a k x) n a) : cp X ad s' (am_si M a k x) := by
  obtain ⟨hs1, h1, h2, h3, h4, h5, h6, h7, h8⟩ := h
  have haX := h7 n a ha
  have far : ∀ c, c ≠ a → ∀ j, am_mi (am_si M a k x) c j = am_mi M c j := fun c hc j => by rw [am_mi_si, if_neg (fun q => hc q.1)]
  refine ⟨hs1, ?_, ?_, ?_, h4, ?_, ?_, h7, h8⟩
  · rw [far X (by omega), e1]; exact h1
  · rw [far (X + 2) (by omega), e2]; exact h2
  · intro j hj; rw [far (X + 3) (by omega), e3]; exact h3 j hj
  · intro m b hb
    by_cases q : m = n
    · subst q
      rw [ha] at hb
      cases hb
      exact hn
    · have hba : b ≠ a := fun q2 => q (h8 m n b hb (by rw [q2]; exact ha))
      exact cp_o_fr (ho m b hb q (h5 m b hb)) (far b hba) (fun _ => rfl)
  · intro m
    unfold ts_lv
    rw [e4]
    exact h6 m
theorem cp_cl (h : cp X ad s M) (ha : ad n = some a) (b : Bool) : cp X ad (ts_setcl s n b) (am_si M a 9 (am_b b)) := by
  refine cp_seti h ha rfl rfl rfl rfl (fun m c hc hne o => ?_) ?_
  · obtain ⟨o0, o1, o2, o3, o4, o5, o6, o7, o8, o9, o10, o11, o12⟩ := o
    exact ⟨o0, o1, o2, o3, o4, o5, o6, o7, o8, by show _ = am_b (if m = n then b else ts_cl s m); rw [if_neg hne]; exact o9, o10, o11, o12⟩
  · obtain ⟨o0, o1, o2, o3, o4, o5, o6, o7, o8, o9, o10, o11, o12⟩ := cp_at h ha
    have g : ∀ j, j ≠ 9 → am_mi (am_si M a 9 (am_b b)) a j = am_mi M a j := fun j hj => by rw [am_mi_si, if_neg (fun q => hj q.2)]
    refine ⟨(g 0 (by decide)).trans o0, (g 1 (by decide)).trans o1, (g 2 (by decide)).trans o2, o3, (g 4 (by decide)).trans o4, o5, o6, o7, o8, ?_, (g 10 (by decide)).trans o10, (g 11 (by decide)).trans o11, ?_⟩
    rotate_left
    · rw [g 12 (by decide)]; exact o12
    show am_mi (am_si M a 9 (am_b b)) a 9 = am_b (if n = n then b else ts_cl s n)
    simp [am_mi_si]
theorem cp_cr (h : cp X ad s M) (ha : ad n = some a) (b : Bool) : cp X ad (ts_setcr s n b) (am_si M a 10 (am_b b)) := by
  refine cp_seti h ha rfl rfl rfl rfl (fun m c hc hne o => ?_) ?_
  · obtain ⟨o0, o1, o2, o3, o4, o5, o6, o7, o8, o9, o10, o11, o12⟩ := o
    exact ⟨o0, o1, o2, o3, o4, o5, o6, o7, o8, o9, by show _ = am_b (if m = n then b else ts_cr s m); rw [if_neg hne]; exact o10, o11, o12⟩
  · obtain ⟨o0, o1, o2, o3, o4, o5, o6, o7, o8, o9, o10, o11, o12⟩ := cp_at h ha
    have g : ∀ j, j ≠ 10 → am_mi (am_si M a 10 (am_b b)) a j = am_mi M a j := fun j hj => by rw [am_mi_si, if_neg (fun q => hj q.2)]
    refine ⟨(g 0 (by decide)).trans o0, (g 1 (by decide)).trans o1, (g 2 (by decide)).trans o2, o3, (g 4 (by decide)).trans o4, o5, o6, o7, o8, (g 9 (by decide)).trans o9, ?_, (g 11 (by decide)).trans o11, ?_⟩
    rotate_left
    · rw [g 12 (by decide)]; exact o12
    show am_mi (am_si M a 10 (am_b b)) a 10 = am_b (if n = n then b else ts_cr s n)
    simp [am_mi_si]
theorem cp_sh (h : cp X ad s M) (ha : ad n = some a) (b : Bool) : cp X ad (ts_setsh s n b) (am_si M a 11 (am_b b)) := by
  refine cp_seti h ha rfl rfl rfl rfl (fun m c hc hne o => ?_) ?_
  · obtain ⟨o0, o1, o2, o3, o4, o5, o6, o7, o8, o9, o10, o11, o12⟩ := o
    exact ⟨o0, o1, o2, o3, o4, o5, o6, o7, o8, o9, o10, by show _ = am_b (if m = n then b else ts_sh s m); rw [if_neg hne]; exact o11, o12⟩
  · obtain ⟨o0, o1, o2, o3, o4, o5, o6, o7, o8, o9, o10, o11, o12⟩ := cp_at h ha
    have g : ∀ j, j ≠ 11 → am_mi (am_si M a 11 (am_b b)) a j = am_mi M a j := fun j hj => by rw [am_mi_si, if_neg (fun q => hj q.2)]
    refine ⟨(g 0 (by decide)).trans o0, (g 1 (by decide)).trans o1, (g 2 (by decide)).trans o2, o3, (g 4 (by decide)).trans o4, o5, o6, o7, o8, (g 9 (by decide)).trans o9, (g 10 (by decide)).trans o10, ?_, ?_⟩
    rotate_left
    · rw [g 12 (by decide)]; exact o12
    show am_mi (am_si M a 11 (am_b b)) a 11 = am_b (if n = n then b else ts_sh s n)
    simp [am_mi_si]
end CO
