-- THE REFERENCE: what it asks of a thing
section MP
def mp_o (N : Nat) (s : ts_S) (M : am_M) (n : Nat) : Prop :=
  am_mi M (N + 3) n = nI (ts_kd s n) ∧ am_mi M (N + 4) n = nI (ts_ms s n) ∧ (∀ p, ts_pa s n = some p → am_mi M (N + 5) n = ts_wy s n) ∧ am_mi M (N + 6) n = am_b (ts_cl s n) ∧ am_mi M (N + 7) n = am_b (ts_cr s n) ∧ (ts_kd s n = 0 → am_mi M (N + 8) n = am_b (!(ts_sh s n))) ∧ (¬ ts_kd s n = 0 → am_mi M (N + 9) n = am_b (ts_sh s n)) ∧ ∀ r, r < 20 → (ts_lv s r ∨ ts_m s ≤ r) → rb (am_mi M (N + 10) n) r = ts_sp s n r
def mp_h (x : Int32) : Int32 := if x < 0 then -8 else x
def mp (N : Nat) (s : ts_S) (M : am_M) : Prop := ml N (ts_L s) M ∧ am_mi M N 1 = nI (ts_m s) ∧ am_mi M N 15 = nI (ts_t s) ∧ (∀ j, j < 120 → mp_h (am_mi M (N + 12) j) = ts_ch s j) ∧ ∀ n, ts_lv s n → mp_o N s M n
variable {N : Nat} {s : ts_S} {M : am_M} {K : Option am_V → am_M → Prop} {n : Nat}
theorem mp_l (h : mp N s M) : ml N (ts_L s) M := h.1
theorem ts_20 (hs : ts_ok s) (hn : ts_lv s n) : n < 20 := Nat.lt_of_lt_of_le (hs.2.1 n hn) hs.2.2.1
theorem mM_is (h : mp N s M) (hs : ts_ok s) (v : Int32) : am_wp yM_is 0 [.inr (.inl (4, some N)), .inl v] [] M K = K (some (.inl (am_b (ts_id s v).isSome))) M := by
  have ho := ml_ok_of hs
  cases hv : ts_id s v with
  | some n =>
    obtain ⟨rfl, hl, h20⟩ := ts_id_some hv
    obtain ⟨q, hq, rfl⟩ := List.mem_map.mp hl
    obtain ⟨i, hi⟩ := List.mem_iff_getElem?.mp hq
    have hlt := ml_lt hi
    have hi' : (ts_L s)[i]? = some (q.1, q.2) := hi
    have := ho.2.1
    simp only [wM_is_0, wM_is_1, wM_is_4, wM_is_5, wM_is_6, wM_is_9, wM_is_12, wM_is_13, wM_is_16, nI_pos (show q.1 < 2 ^ 31 by omega), if_false, mM_at h.1 ho hi', true_or, or_true, Option.toList_some, Option.toList_none, List.cons_append, List.nil_append, nI_pos (show i < 2 ^ 31 by omega)]
    simp [wM_is_17, am_b]
  | none =>
    by_cases c : v < 0
    · simp [wM_is_0, wM_is_1, wM_is_4, wM_is_5, wM_is_6, wM_is_9, wM_is_12, wM_is_13, wM_is_16, c, wM_is_17, am_b]
    · have hno : ∀ q ∈ ts_L s, ¬ nI q.1 = v := fun q hq z => by
        have hl : ts_lv s q.1 := List.mem_map_of_mem hq
        rw [← z, ts_id_nI hl (ts_20 hs hl)] at hv
        cases hv
      simp only [wM_is_0, wM_is_1, wM_is_4, wM_is_5, wM_is_6, wM_is_9, wM_is_12, wM_is_13, wM_is_16, c, if_false, mM_atn h.1 ho hno, true_or, or_true, Option.toList_some, Option.toList_none, List.cons_append, List.nil_append, show (-1 : Int32) < 0 by decide, if_true]
      simp [wM_is_17, am_b]
theorem mM_isOf (h : mp N s M) (hs : ts_ok s) (hn : ts_lv s n) (k : Nat) (hk : k < 7) : am_wp yM_isOf 0 [.inr (.inl (4, some N)), .inl (nI n), .inl (nI k)] [] M K = K (some (.inl (am_b (ts_kd s n == k)))) M := by
  have h20 := ts_20 hs hn
  have hkd := (hs.2.2.2.1 n hn).1
  simp only [wM_isOf_0, wM_isOf_1, wM_isOf_4, wM_isOf_6, wM_isOf_7, wM_isOf_10, wM_isOf_11, wM_isOf_14, h.1.1.2.2.1, wM_isOf_5 (am_ok_nI h20 (by decide)), nI_clamp (show n < 2 ^ 31 by omega), (h.2.2.2.2 n hn).1, nI_eq (show ts_kd s n < 2 ^ 31 by omega) (show k < 2 ^ 31 by omega)]
  by_cases c : ts_kd s n = k
  · simp [c, wM_isOf_10, wM_isOf_11, wM_isOf_15, am_b]
  · simp [c, wM_isOf_14, wM_isOf_15, am_b]
theorem mM_of0 (h : mp N s M) (hs : ts_ok s) (hn : ts_lv s n) : am_wp yM_isOf 0 [.inr (.inl (4, some N)), .inl (nI n), .inl 0] [] M K = K (some (.inl (am_b (ts_kd s n == 0)))) M := mM_isOf h hs hn 0 (by decide)
theorem mM_of1 (h : mp N s M) (hs : ts_ok s) (hn : ts_lv s n) : am_wp yM_isOf 0 [.inr (.inl (4, some N)), .inl (nI n), .inl 1] [] M K = K (some (.inl (am_b (ts_kd s n == 1)))) M := mM_isOf h hs hn 1 (by decide)
theorem mM_of2 (h : mp N s M) (hs : ts_ok s) (hn : ts_lv s n) : am_wp yM_isOf 0 [.inr (.inl (4, some N)), .inl (nI n), .inl 2] [] M K = K (some (.inl (am_b (ts_kd s n == 2)))) M := mM_isOf h hs hn 2 (by decide)
theorem mM_of3 (h : mp N s M) (hs : ts_ok s) (hn : ts_lv s n) : am_wp yM_isOf 0 [.inr (.inl (4, some N)), .inl (nI n), .inl 3] [] M K = K (some (.inl (am_b (ts_kd s n == 3)))) M := mM_isOf h hs hn 3 (by decide)
theorem mM_of4 (h : mp N s M) (hs : ts_ok s) (hn : ts_lv s n) : am_wp yM_isOf 0 [.inr (.inl (4, some N)), .inl (nI n), .inl 4] [] M K = K (some (.inl (am_b (ts_kd s n == 4)))) M := mM_isOf h hs hn 4 (by decide)
theorem mM_of5 (h : mp N s M) (hs : ts_ok s) (hn : ts_lv s n) : am_wp yM_isOf 0 [.inr (.inl (4, some N)), .inl (nI n), .inl 5] [] M K = K (some (.inl (am_b (ts_kd s n == 5)))) M := mM_isOf h hs hn 5 (by decide)
theorem mM_of6 (h : mp N s M) (hs : ts_ok s) (hn : ts_lv s n) : am_wp yM_isOf 0 [.inr (.inl (4, some N)), .inl (nI n), .inl 6] [] M K = K (some (.inl (am_b (ts_kd s n == 6)))) M := mM_isOf h hs hn 6 (by decide)
theorem mM_ov (h : mp N s M) (hs : ts_ok s) (hn : ts_lv s n) : am_wp yM_over 0 [.inr (.inl (4, some N)), .inl (nI n), am_u, am_u] [] M K = K (some (.inl (ts_nm (ts_pa s n)))) M := mM_over h.1 (ml_ok_of hs) hn
theorem mM_tp (h : mp N s M) (hs : ts_ok s) (hn : ts_lv s n) : am_wp yM_top 0 [.inr (.inl (4, some N)), .inl (nI n), am_u] [] M K = K (some (.inl (nI (fo_r (ts_L s) n)))) M := mM_top h.1 (ml_ok_of hs) hn
theorem mM_hs (h : mp N s M) (hs : ts_ok s) (hn : ts_lv s n) {m : Nat} (hm : ts_lv s m) : am_wp yM_has 0 [.inr (.inl (4, some N)), .inl (nI n), .inl (nI m), am_u, am_u] [] M K = K (some (.inl (am_b (tq_in s m n)))) M := mM_has h.1 (ml_ok_of hs) hn hm
theorem nm_lt (p : Option Nat) (hp : ∀ q, p = some q → q < 20) : (ts_nm p < 0) = (p = none) := by
  cases p with
  | none => simp [ts_nm]
  | some q => have := hp q rfl; simp [ts_nm, nI_pos (show q < 2 ^ 31 by omega)]
theorem nm_eq (p : Option Nat) (hp : ∀ q, p = some q → q < 20) {m : Nat} (hm : m < 20) : (ts_nm p = nI m) = (p = some m) := by
  cases p with
  | none =>
    simp only [ts_nm, reduceCtorEq, eq_iff_iff, iff_false]
    intro z
    have := nI_pos (show m < 2 ^ 31 by omega)
    rw [← z] at this
    exact this (by decide)
  | some q =>
    have := hp q rfl
    simp only [ts_nm, Option.some.injEq, eq_iff_iff]
    exact nI_eq (by omega) (by omega)
theorem pa_20 (hs : ts_ok s) : ∀ q, ts_pa s n = some q → q < 20 := fun q hq => ts_20 hs (ts_pa_lv hq)
def tq_pt (s : ts_S) (n : Nat) : Bool := decide (ts_way s n = 4)
theorem mM_isPart (h : mp N s M) (hs : ts_ok s) (hn : ts_lv s n) : am_wp yM_isPart 0 [.inr (.inl (4, some N)), .inl (nI n)] [] M K = K (some (.inl (am_b (tq_pt s n)))) M := by
  have h20 := ts_20 hs hn
  simp only [wM_isPart_0, wM_isPart_1, wM_isPart_2, wM_isPart_5, wM_isPart_8, wM_isPart_9, wM_isPart_12, wM_isPart_14, wM_isPart_15, wM_isPart_18, wM_isPart_19, wM_isPart_22, mM_ov h hs hn, true_or, or_true, Option.toList_some, Option.toList_none, List.cons_append, List.nil_append, nm_lt (ts_pa s n) (pa_20 hs), h.1.1.2.2.2.2.1, wM_isPart_13 (am_ok_nI h20 (by decide)), nI_clamp (show n < 2 ^ 31 by omega)]
  unfold tq_pt
  cases hp : ts_pa s n with
  | none =>
    have : ¬ ts_way s n = 4 := by unfold ts_way; rw [hp]; simp
    simp [this, wM_isPart_23, am_b]
  | some p =>
    have e : ts_way s n = ts_wy s n := ts_way_h hp
    simp only [reduceCtorEq, if_false, (h.2.2.2.2 n hn).2.2.1 p hp, e]
    by_cases c : ts_wy s n = 4
    · simp [c, wM_isPart_18, wM_isPart_19, wM_isPart_23, am_b]
    · simp [c, wM_isPart_22, wM_isPart_23, am_b]
theorem mM_isHeld (h : mp N s M) (hs : ts_ok s) (hn : ts_lv s n) {m : Nat} (hm : m < 20) (v : Int32) : am_wp yM_isHeld 0 [.inr (.inl (4, some N)), .inl (nI n), .inl (nI m), .inl v] [] M K = K (some (.inl (am_b (tq_hl s n m v)))) M := by
  have h20 := ts_20 hs hn
  simp only [wM_isHeld_0, wM_isHeld_1, wM_isHeld_2, wM_isHeld_5, wM_isHeld_6, wM_isHeld_9, wM_isHeld_10, wM_isHeld_13, wM_isHeld_15, wM_isHeld_16, wM_isHeld_19, wM_isHeld_20, wM_isHeld_23, mM_ov h hs hn, true_or, or_true, Option.toList_some, Option.toList_none, List.cons_append, List.nil_append, nm_eq (ts_pa s n) (pa_20 hs) hm, h.1.1.2.2.2.2.1, wM_isHeld_14 (am_ok_nI h20 (by decide)), nI_clamp (show n < 2 ^ 31 by omega)]
  unfold tq_hl
  by_cases hp : ts_pa s n = some m
  · have e : ts_way s n = ts_wy s n := ts_way_h hp
    simp only [hp, if_true, (h.2.2.2.2 n hn).2.2.1 m hp, e]
    by_cases c : ts_wy s n = v
    · simp [c, wM_isHeld_19, wM_isHeld_20, wM_isHeld_24, am_b]
    · simp [c, wM_isHeld_23, wM_isHeld_24, am_b]
  · simp [hp, wM_isHeld_23, wM_isHeld_24, am_b]
def tq_st (s : ts_S) (n : Nat) : Bool := ts_kd s n == 1 || ts_kd s n == 2 || ts_kd s n == 3
theorem mM_isStuff (h : mp N s M) (hs : ts_ok s) (hn : ts_lv s n) : am_wp yM_isStuff 0 [.inr (.inl (4, some N)), .inl (nI n)] [] M K = K (some (.inl (am_b (tq_st s n)))) M := by
  simp only [wM_isStuff_0, wM_isStuff_1, wM_isStuff_2, wM_isStuff_3, wM_isStuff_6, wM_isStuff_9, wM_isStuff_10, wM_isStuff_11, wM_isStuff_12, wM_isStuff_15, wM_isStuff_18, wM_isStuff_19, wM_isStuff_20, wM_isStuff_21, wM_isStuff_24, wM_isStuff_27, wM_isStuff_28, wM_isStuff_31, mM_of1 h hs hn, mM_of2 h hs hn, mM_of3 h hs hn, true_or, or_true, Option.toList_some, Option.toList_none, List.cons_append, List.nil_append, am_b0]
  unfold tq_st
  cases c1 : ts_kd s n == 1 <;> cases c2 : ts_kd s n == 2 <;> cases c3 : ts_kd s n == 3 <;> simp [wM_isStuff_27, wM_isStuff_28, wM_isStuff_31, wM_isStuff_32, am_b]
theorem sw1_k : ∀ k, k < 7 → am_swt 1 (nI k) = (if k = 0 ∨ k = 2 ∨ k = 5 then 44 else if k = 3 then 54 else if k = 4 then 65 else 81) := by decide +kernel
theorem mM_holds (h : mp N s M) (hs : ts_ok s) (hn : ts_lv s n) (w : Nat) (hw : w < 4) : am_wp yM_holds 0 [.inr (.inl (4, some N)), .inl (nI n), .inl (nI w)] [] M K = K (some (.inl (am_b (tq_hb s n w)))) M := by
  have h20 := ts_20 hs hn
  have hkd := (hs.2.2.2.1 n hn).1
  simp only [wM_holds_0, wM_holds_1, wM_holds_4, h.1.1.2.2.1, wM_holds_5 (am_ok_nI h20 (by decide)), nI_clamp (show n < 2 ^ 31 by omega), (h.2.2.2.2 n hn).1, wM_holds_6]
  rw [sw1_k _ hkd]
  unfold tq_hb
  by_cases c0 : ts_kd s n = 0 ∨ ts_kd s n = 2 ∨ ts_kd s n = 5
  · rw [if_pos c0]
    have : ¬ ts_kd s n = 3 ∧ ¬ ts_kd s n = 4 := by omega
    have e : (ts_kd s n == 0 || ts_kd s n == 2 || ts_kd s n == 5) = true := by simp; omega
    match w, hw with
    | 0, _ => simp [wM_holds_0, wM_holds_1, wM_holds_4, wM_holds_6, wM_holds_44, wM_holds_45, wM_holds_48, wM_holds_49, wM_holds_52, wM_holds_54, wM_holds_55, wM_holds_56, wM_holds_59, wM_holds_60, wM_holds_63, wM_holds_65, wM_holds_66, wM_holds_67, wM_holds_70, wM_holds_71, wM_holds_72, wM_holds_75, wM_holds_76, wM_holds_79, wM_holds_81, wM_holds_53, e, am_b, show nI 0 = 0 from rfl]
    | 1, _ => simp [wM_holds_0, wM_holds_1, wM_holds_4, wM_holds_6, wM_holds_44, wM_holds_45, wM_holds_48, wM_holds_49, wM_holds_52, wM_holds_54, wM_holds_55, wM_holds_56, wM_holds_59, wM_holds_60, wM_holds_63, wM_holds_65, wM_holds_66, wM_holds_67, wM_holds_70, wM_holds_71, wM_holds_72, wM_holds_75, wM_holds_76, wM_holds_79, wM_holds_81, wM_holds_53, this.1, am_b, show ¬ nI 1 = 0 by decide]
    | 2, _ => simp [wM_holds_0, wM_holds_1, wM_holds_4, wM_holds_6, wM_holds_44, wM_holds_45, wM_holds_48, wM_holds_49, wM_holds_52, wM_holds_54, wM_holds_55, wM_holds_56, wM_holds_59, wM_holds_60, wM_holds_63, wM_holds_65, wM_holds_66, wM_holds_67, wM_holds_70, wM_holds_71, wM_holds_72, wM_holds_75, wM_holds_76, wM_holds_79, wM_holds_81, wM_holds_53, this.2, am_b, show ¬ nI 2 = 0 by decide]
    | 3, _ => simp [wM_holds_0, wM_holds_1, wM_holds_4, wM_holds_6, wM_holds_44, wM_holds_45, wM_holds_48, wM_holds_49, wM_holds_52, wM_holds_54, wM_holds_55, wM_holds_56, wM_holds_59, wM_holds_60, wM_holds_63, wM_holds_65, wM_holds_66, wM_holds_67, wM_holds_70, wM_holds_71, wM_holds_72, wM_holds_75, wM_holds_76, wM_holds_79, wM_holds_81, wM_holds_53, this.2, am_b, show ¬ nI 3 = 0 by decide]
  · rw [if_neg c0]
    have e : (ts_kd s n == 0 || ts_kd s n == 2 || ts_kd s n == 5) = false := by simp; omega
    by_cases c1 : ts_kd s n = 3
    · rw [if_pos c1]
      match w, hw with
      | 0, _ => simp [wM_holds_0, wM_holds_1, wM_holds_4, wM_holds_6, wM_holds_44, wM_holds_45, wM_holds_48, wM_holds_49, wM_holds_52, wM_holds_54, wM_holds_55, wM_holds_56, wM_holds_59, wM_holds_60, wM_holds_63, wM_holds_65, wM_holds_66, wM_holds_67, wM_holds_70, wM_holds_71, wM_holds_72, wM_holds_75, wM_holds_76, wM_holds_79, wM_holds_81, wM_holds_64, c1, am_b, show ¬ nI 0 = 1 by decide]
      | 1, _ => simp [wM_holds_0, wM_holds_1, wM_holds_4, wM_holds_6, wM_holds_44, wM_holds_45, wM_holds_48, wM_holds_49, wM_holds_52, wM_holds_54, wM_holds_55, wM_holds_56, wM_holds_59, wM_holds_60, wM_holds_63, wM_holds_65, wM_holds_66, wM_holds_67, wM_holds_70, wM_holds_71, wM_holds_72, wM_holds_75, wM_holds_76, wM_holds_79, wM_holds_81, wM_holds_64, c1, am_b, show nI 1 = 1 by decide]
      | 2, _ => simp [wM_holds_0, wM_holds_1, wM_holds_4, wM_holds_6, wM_holds_44, wM_holds_45, wM_holds_48, wM_holds_49, wM_holds_52, wM_holds_54, wM_holds_55, wM_holds_56, wM_holds_59, wM_holds_60, wM_holds_63, wM_holds_65, wM_holds_66, wM_holds_67, wM_holds_70, wM_holds_71, wM_holds_72, wM_holds_75, wM_holds_76, wM_holds_79, wM_holds_81, wM_holds_64, c1, am_b, show ¬ nI 2 = 1 by decide]
      | 3, _ => simp [wM_holds_0, wM_holds_1, wM_holds_4, wM_holds_6, wM_holds_44, wM_holds_45, wM_holds_48, wM_holds_49, wM_holds_52, wM_holds_54, wM_holds_55, wM_holds_56, wM_holds_59, wM_holds_60, wM_holds_63, wM_holds_65, wM_holds_66, wM_holds_67, wM_holds_70, wM_holds_71, wM_holds_72, wM_holds_75, wM_holds_76, wM_holds_79, wM_holds_81, wM_holds_64, c1, am_b, show ¬ nI 3 = 1 by decide]
    · rw [if_neg c1]
      by_cases c2 : ts_kd s n = 4
      · rw [if_pos c2]
        match w, hw with
        | 0, _ => simp [wM_holds_0, wM_holds_1, wM_holds_4, wM_holds_6, wM_holds_44, wM_holds_45, wM_holds_48, wM_holds_49, wM_holds_52, wM_holds_54, wM_holds_55, wM_holds_56, wM_holds_59, wM_holds_60, wM_holds_63, wM_holds_65, wM_holds_66, wM_holds_67, wM_holds_70, wM_holds_71, wM_holds_72, wM_holds_75, wM_holds_76, wM_holds_79, wM_holds_81, wM_holds_80, c2, am_b, show ¬ nI 0 = 2 by decide, show ¬ nI 0 = 3 by decide]
        | 1, _ => simp [wM_holds_0, wM_holds_1, wM_holds_4, wM_holds_6, wM_holds_44, wM_holds_45, wM_holds_48, wM_holds_49, wM_holds_52, wM_holds_54, wM_holds_55, wM_holds_56, wM_holds_59, wM_holds_60, wM_holds_63, wM_holds_65, wM_holds_66, wM_holds_67, wM_holds_70, wM_holds_71, wM_holds_72, wM_holds_75, wM_holds_76, wM_holds_79, wM_holds_81, wM_holds_80, c2, am_b, show ¬ nI 1 = 2 by decide, show ¬ nI 1 = 3 by decide]
        | 2, _ => simp [wM_holds_0, wM_holds_1, wM_holds_4, wM_holds_6, wM_holds_44, wM_holds_45, wM_holds_48, wM_holds_49, wM_holds_52, wM_holds_54, wM_holds_55, wM_holds_56, wM_holds_59, wM_holds_60, wM_holds_63, wM_holds_65, wM_holds_66, wM_holds_67, wM_holds_70, wM_holds_71, wM_holds_72, wM_holds_75, wM_holds_76, wM_holds_79, wM_holds_81, wM_holds_80, c2, am_b, show nI 2 = 2 by decide]
        | 3, _ => simp [wM_holds_0, wM_holds_1, wM_holds_4, wM_holds_6, wM_holds_44, wM_holds_45, wM_holds_48, wM_holds_49, wM_holds_52, wM_holds_54, wM_holds_55, wM_holds_56, wM_holds_59, wM_holds_60, wM_holds_63, wM_holds_65, wM_holds_66, wM_holds_67, wM_holds_70, wM_holds_71, wM_holds_72, wM_holds_75, wM_holds_76, wM_holds_79, wM_holds_81, wM_holds_80, c2, am_b, show ¬ nI 3 = 2 by decide, show nI 3 = 3 by decide]
      · rw [if_neg c2]
        match w, hw with
        | 0, _ => simp [wM_holds_0, wM_holds_1, wM_holds_4, wM_holds_6, wM_holds_44, wM_holds_45, wM_holds_48, wM_holds_49, wM_holds_52, wM_holds_54, wM_holds_55, wM_holds_56, wM_holds_59, wM_holds_60, wM_holds_63, wM_holds_65, wM_holds_66, wM_holds_67, wM_holds_70, wM_holds_71, wM_holds_72, wM_holds_75, wM_holds_76, wM_holds_79, wM_holds_81, wM_holds_82, e, am_b]
        | 1, _ => simp [wM_holds_0, wM_holds_1, wM_holds_4, wM_holds_6, wM_holds_44, wM_holds_45, wM_holds_48, wM_holds_49, wM_holds_52, wM_holds_54, wM_holds_55, wM_holds_56, wM_holds_59, wM_holds_60, wM_holds_63, wM_holds_65, wM_holds_66, wM_holds_67, wM_holds_70, wM_holds_71, wM_holds_72, wM_holds_75, wM_holds_76, wM_holds_79, wM_holds_81, wM_holds_82, c1, am_b]
        | 2, _ => simp [wM_holds_0, wM_holds_1, wM_holds_4, wM_holds_6, wM_holds_44, wM_holds_45, wM_holds_48, wM_holds_49, wM_holds_52, wM_holds_54, wM_holds_55, wM_holds_56, wM_holds_59, wM_holds_60, wM_holds_63, wM_holds_65, wM_holds_66, wM_holds_67, wM_holds_70, wM_holds_71, wM_holds_72, wM_holds_75, wM_holds_76, wM_holds_79, wM_holds_81, wM_holds_82, c2, am_b]
        | 3, _ => simp [wM_holds_0, wM_holds_1, wM_holds_4, wM_holds_6, wM_holds_44, wM_holds_45, wM_holds_48, wM_holds_49, wM_holds_52, wM_holds_54, wM_holds_55, wM_holds_56, wM_holds_59, wM_holds_60, wM_holds_63, wM_holds_65, wM_holds_66, wM_holds_67, wM_holds_70, wM_holds_71, wM_holds_72, wM_holds_75, wM_holds_76, wM_holds_79, wM_holds_81, wM_holds_82, c2, am_b]
-- a bar
theorem mM_isBar (h : mp N s M) (hs : ts_ok s) {b p : Nat} (hp : ts_pa s n = some b) (hpl : p < 20) (sg : Bool) : am_wp yM_isBar 0 [.inr (.inl (4, some N)), .inl (nI p), .inl (nI b), .inl (nI n), .inl (am_b (!sg))] [] M K = K (some (.inl (am_b (tq_bar s p sg n)))) M := by
  have hn : ts_lv s n := (fo_p_mem hp).1
  have hb : ts_lv s b := ts_pa_lv hp
  have n20 := ts_20 hs hn
  have b20 := ts_20 hs hb
  obtain ⟨-, -, w, -⟩ := h.2.2.2.2 n hn
  have w' := w b hp
  obtain ⟨-, -, -, v6, v7, -⟩ := h.2.2.2.2 b hb
  obtain ⟨-, -, hk⟩ := hs.2.2.2.2 n b hp
  have hcl := (hs.2.2.2.1 b hb).2.2
  simp only [wM_isBar_0, wM_isBar_1, wM_isBar_2, wM_isBar_3, wM_isBar_6, wM_isBar_9, wM_isBar_10, wM_isBar_13, wM_isBar_15, wM_isBar_18, wM_isBar_19, wM_isBar_22, wM_isBar_24, wM_isBar_27, wM_isBar_29, wM_isBar_32, wM_isBar_33, wM_isBar_36, wM_isBar_38, wM_isBar_41, wM_isBar_42, wM_isBar_45, wM_isBar_47, wM_isBar_49, wM_isBar_52, wM_isBar_53, wM_isBar_54, wM_isBar_55, wM_isBar_58, wM_isBar_61, wM_isBar_62, wM_isBar_63, wM_isBar_66, wM_isBar_67, wM_isBar_70, wM_isBar_72, wM_isBar_73, wM_isBar_76, wM_isBar_77, wM_isBar_80, wM_isBar_82, wM_isBar_83, wM_isBar_86, wM_isBar_87, wM_isBar_90, mM_of2 h hs hb, mM_of4 h hs hb, true_or, or_true, Option.toList_some, Option.toList_none, List.cons_append, List.nil_append, am_b0, h.1.1.2.2.2.2.1, h.1.1.2.2.2.2.2.1, h.1.1.2.2.2.2.2.2.1, wM_isBar_14 (am_ok_nI n20 (by decide)), wM_isBar_23 (am_ok_nI b20 (by decide)), wM_isBar_37 (am_ok_nI b20 (by decide)), wM_isBar_71 (am_ok_nI n20 (by decide)), wM_isBar_81 (am_ok_nI n20 (by decide)), nI_clamp (show n < 2 ^ 31 by omega), nI_clamp (show b < 2 ^ 31 by omega), w', v6, v7, nI_eq (show b < 2 ^ 31 by omega) (show p < 2 ^ 31 by omega)]
  unfold tq_bar
  rw [hp]
  simp only
  by_cases c0 : ts_wy s n = 0
  · have hkb : ¬ ts_kd s b = 4 := by
      rcases hk with ⟨-, z⟩ | ⟨z, -⟩ | ⟨z, -⟩ | ⟨z, -⟩
      · omega
      · rw [c0] at z; exact absurd z (by decide)
      · rw [c0] at z; rcases z with z | z <;> exact absurd z (by decide)
      · rw [c0] at z; exact absurd z (by decide)
    by_cases c2 : ts_kd s b = 2
    · cases d1 : ts_cl s b <;> cases d2 : ts_cr s b <;> cases sg <;> simp [c0, c2, wM_isBar_41, wM_isBar_42, wM_isBar_45, wM_isBar_46, am_b]
    · have : ts_cl s b = false := by cases z : ts_cl s b; rfl; exact absurd (hcl z) c2
      cases sg <;> simp [c0, c2, hkb, this, wM_isBar_90, wM_isBar_91, am_b]
  · by_cases c3 : ts_wy s n = 2 ∨ ts_wy s n = 3
    · have hkb : ts_kd s b = 4 := by
        rcases hk with ⟨z, -⟩ | ⟨z, -⟩ | ⟨-, z⟩ | ⟨z, -⟩
        · exact absurd z c0
        · rw [z] at c3; rcases c3 with z | z <;> exact absurd z (by decide)
        · exact z
        · rw [z] at c3; rcases c3 with z | z <;> exact absurd z (by decide)
      rcases c3 with c3 | c3
      · by_cases e : b = p <;> cases sg <;> simp [c3, hkb, e, wM_isBar_86, wM_isBar_87, wM_isBar_90, wM_isBar_91, am_b]
      · by_cases e : b = p <;> cases sg <;> simp [c3, hkb, e, wM_isBar_86, wM_isBar_87, wM_isBar_90, wM_isBar_91, am_b]
    · have c32 : ¬ ts_wy s n = 2 := fun z => c3 (Or.inl z)
      have c33 : ¬ ts_wy s n = 3 := fun z => c3 (Or.inr z)
      by_cases e : b = p <;> by_cases c4 : ts_kd s b = 4 <;> cases c5 : ts_kd s b == 2 <;> cases sg <;> simp_all [wM_isBar_90, wM_isBar_91, am_b]
end MP
