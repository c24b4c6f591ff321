-- WHAT A THING ANSWERS
section CT
theorem nk0 {k : Nat} (h : k < 1000) : (nI k = 0) = (k = 0) := propext (nI_eq (a := k) (b := 0) (by omega) (by decide))
theorem nk1 {k : Nat} (h : k < 1000) : (nI k = 1) = (k = 1) := propext (nI_eq (a := k) (b := 1) (by omega) (by decide))
theorem nk2 {k : Nat} (h : k < 1000) : (nI k = 2) = (k = 2) := propext (nI_eq (a := k) (b := 2) (by omega) (by decide))
theorem nk3 {k : Nat} (h : k < 1000) : (nI k = 3) = (k = 3) := propext (nI_eq (a := k) (b := 3) (by omega) (by decide))
theorem nk4 {k : Nat} (h : k < 1000) : (nI k = 4) = (k = 4) := propext (nI_eq (a := k) (b := 4) (by omega) (by decide))
theorem nk5 {k : Nat} (h : k < 1000) : (nI k = 5) = (k = 5) := propext (nI_eq (a := k) (b := 5) (by omega) (by decide))
theorem nk6 {k : Nat} (h : k < 1000) : (nI k = 6) = (k = 6) := propext (nI_eq (a := k) (b := 6) (by omega) (by decide))
def tq_hh (s : ts_S) (n : Nat) : Bool := !(ts_kd s n == 0) && !(ts_kd s n == 6)
def tq_lo (s : ts_S) (n : Nat) : Bool := tq_hh s n && !(decide (ts_way s n = 4))
def tq_en (s : ts_S) (n : Nat) : Bool := ts_kd s n == 2 || ts_kd s n == 5
def tq_ch (s : ts_S) (n : Nat) (w : Int32) : Bool := if w = 2 then !(ts_kd s n == 4) && !(ts_kd s n == 5) else if w = 3 then ts_kd s n == 1 else true
def tq_hb (s : ts_S) (n w : Nat) : Bool := match w with
  | 0 => ts_kd s n == 0 || ts_kd s n == 2 || ts_kd s n == 5
  | 1 => ts_kd s n == 3
  | 2 => ts_kd s n == 4
  | 3 => ts_kd s n == 4
  | 4 => !(ts_kd s n == 0) && !(ts_kd s n == 6)
  | _ => false
variable {X : Nat} {ad : Nat → Option Nat} {s : ts_S} {M : am_M} {K : Option am_V → am_M → Prop} {n a : Nat}
theorem cT_canHaveHolder (o : cp_o ad s M n a) (hk : ts_kd s n < 7) : am_wp yT_canHaveHolder 0 [.inr (.inl (2, some a))] [] M K = K (some (.inl (am_b (tq_hh s n)))) M := by
  obtain ⟨-, o1, -⟩ := o
  have hk' : ts_kd s n < 1000 := by omega
  simp only [wT_canHaveHolder_0, wT_canHaveHolder_1, wT_canHaveHolder_4, wT_canHaveHolder_7, wT_canHaveHolder_8, wT_canHaveHolder_11, wT_canHaveHolder_13, wT_canHaveHolder_16, wT_canHaveHolder_17, wT_canHaveHolder_20, wT_canHaveHolder_21, o1, nk0 hk', nk6 hk', true_or, or_true, Option.toList_some, Option.toList_none, List.cons_append, List.nil_append]
  unfold tq_hh
  by_cases h0 : ts_kd s n = 0 <;> by_cases h6 : ts_kd s n = 6 <;> simp [h0, h6, am_b]
theorem cT_isLoose (o : cp_o ad s M n a) (hk : ts_kd s n < 7) : am_wp yT_isLoose 0 [.inr (.inl (2, some a))] [] M K = K (some (.inl (am_b (tq_lo s n)))) M := by
  have o' := o
  obtain ⟨-, o1, -, -, o4, -⟩ := o
  simp only [wT_isLoose_0, wT_isLoose_1, cT_canHaveHolder o' hk, true_or, or_true, Option.toList_some, Option.toList_none, List.cons_append, List.nil_append]
  unfold tq_lo
  cases h : tq_hh s n <;> by_cases h4 : ts_way s n = 4 <;> simp [wT_isLoose_4, wT_isLoose_7, wT_isLoose_8, wT_isLoose_11, wT_isLoose_12, wT_isLoose_15, wT_isLoose_16, wT_isLoose_19, wT_isLoose_20, true_or, or_true, Option.toList_some, Option.toList_none, List.cons_append, List.nil_append, o4, am_b, h4]
theorem cT_canBeEntered (o : cp_o ad s M n a) (hk : ts_kd s n < 7) : am_wp yT_canBeEntered 0 [.inr (.inl (2, some a))] [] M K = K (some (.inl (am_b (tq_en s n)))) M := by
  obtain ⟨-, o1, -⟩ := o
  have hk' : ts_kd s n < 1000 := by omega
  simp only [wT_canBeEntered_0, wT_canBeEntered_1, wT_canBeEntered_4, wT_canBeEntered_5, wT_canBeEntered_8, wT_canBeEntered_9, wT_canBeEntered_12, wT_canBeEntered_13, wT_canBeEntered_16, wT_canBeEntered_17, wT_canBeEntered_20, wT_canBeEntered_21, o1, nk2 hk', nk5 hk', true_or, or_true, Option.toList_some, Option.toList_none, List.cons_append, List.nil_append]
  unfold tq_en
  by_cases h0 : ts_kd s n = 2 <;> by_cases h6 : ts_kd s n = 5 <;> simp [h0, h6, am_b]
theorem sw2_2 : am_swt 2 2 = 28 := by decide +kernel
theorem sw2_3 : am_swt 2 3 = 50 := by decide +kernel
theorem sw2_d {v : Int32} (h2 : ¬ v = 2) (h3 : ¬ v = 3) : am_swt 2 v = 64 := by
  have e2 : ¬ (2 : Int) = v.toInt := fun q => h2 (Int32.toInt_inj.mp (by rw [← q]; rfl))
  have e3 : ¬ (3 : Int) = v.toInt := fun q => h3 (Int32.toInt_inj.mp (by rw [← q]; rfl))
  simp [am_swt, am_sw, lookupswitch.offset, e2, e3]
theorem cT_canBeHeldBy (o : cp_o ad s M n a) (hk : ts_kd s n < 7) (v : Int32) : am_wp yT_canBeHeldBy 0 [.inr (.inl (2, some a)), .inl v] [] M K = K (some (.inl (am_b (tq_ch s n v)))) M := by
  obtain ⟨-, o1, -⟩ := o
  have hk' : ts_kd s n < 1000 := by omega
  simp only [wT_canBeHeldBy_0, wT_canBeHeldBy_1]
  unfold tq_ch
  by_cases h2 : v = 2
  · subst h2
    simp only [sw2_2, wT_canBeHeldBy_0, wT_canBeHeldBy_1, wT_canBeHeldBy_28, wT_canBeHeldBy_29, wT_canBeHeldBy_32, wT_canBeHeldBy_33, wT_canBeHeldBy_36, wT_canBeHeldBy_37, wT_canBeHeldBy_40, wT_canBeHeldBy_41, wT_canBeHeldBy_44, wT_canBeHeldBy_45, wT_canBeHeldBy_48, wT_canBeHeldBy_49, wT_canBeHeldBy_50, wT_canBeHeldBy_51, wT_canBeHeldBy_54, wT_canBeHeldBy_55, wT_canBeHeldBy_58, wT_canBeHeldBy_59, wT_canBeHeldBy_62, wT_canBeHeldBy_63, wT_canBeHeldBy_64, wT_canBeHeldBy_65, o1, nk4 hk', nk5 hk', true_or, or_true, Option.toList_some, Option.toList_none, List.cons_append, List.nil_append]
    by_cases h0 : ts_kd s n = 4 <;> by_cases h6 : ts_kd s n = 5 <;> simp [h0, h6, am_b]
  · by_cases h3 : v = 3
    · subst h3
      simp only [sw2_3, wT_canBeHeldBy_0, wT_canBeHeldBy_1, wT_canBeHeldBy_28, wT_canBeHeldBy_29, wT_canBeHeldBy_32, wT_canBeHeldBy_33, wT_canBeHeldBy_36, wT_canBeHeldBy_37, wT_canBeHeldBy_40, wT_canBeHeldBy_41, wT_canBeHeldBy_44, wT_canBeHeldBy_45, wT_canBeHeldBy_48, wT_canBeHeldBy_49, wT_canBeHeldBy_50, wT_canBeHeldBy_51, wT_canBeHeldBy_54, wT_canBeHeldBy_55, wT_canBeHeldBy_58, wT_canBeHeldBy_59, wT_canBeHeldBy_62, wT_canBeHeldBy_63, wT_canBeHeldBy_64, wT_canBeHeldBy_65, o1, nk1 hk', true_or, or_true, Option.toList_some, Option.toList_none, List.cons_append, List.nil_append]
      by_cases h0 : ts_kd s n = 1 <;> simp [h0, am_b]
    · simp [sw2_d h2 h3, wT_canBeHeldBy_0, wT_canBeHeldBy_1, wT_canBeHeldBy_28, wT_canBeHeldBy_29, wT_canBeHeldBy_32, wT_canBeHeldBy_33, wT_canBeHeldBy_36, wT_canBeHeldBy_37, wT_canBeHeldBy_40, wT_canBeHeldBy_41, wT_canBeHeldBy_44, wT_canBeHeldBy_45, wT_canBeHeldBy_48, wT_canBeHeldBy_49, wT_canBeHeldBy_50, wT_canBeHeldBy_51, wT_canBeHeldBy_54, wT_canBeHeldBy_55, wT_canBeHeldBy_58, wT_canBeHeldBy_59, wT_canBeHeldBy_62, wT_canBeHeldBy_63, wT_canBeHeldBy_64, wT_canBeHeldBy_65, true_or, or_true, Option.toList_some, Option.toList_none, List.cons_append, List.nil_append, h2, h3, am_b]
theorem sw3_0 : am_swt 3 0 = 36 := by decide +kernel
theorem sw3_1 : am_swt 3 1 = 65 := by decide +kernel
theorem sw3_2 : am_swt 3 2 = 79 := by decide +kernel
theorem sw3_3 : am_swt 3 3 = 79 := by decide +kernel
theorem sw3_4 : am_swt 3 4 = 93 := by decide +kernel
theorem cT_holdsBy (o : cp_o ad s M n a) (hk : ts_kd s n < 7) (w : Nat) (hw : w < 5) : am_wp yT_holdsBy 0 [.inr (.inl (2, some a)), .inl (nI w)] [] M K = K (some (.inl (am_b (tq_hb s n w)))) M := by
  obtain ⟨-, o1, -⟩ := o
  have hk' : ts_kd s n < 1000 := by omega
  simp only [wT_holdsBy_0, wT_holdsBy_1]
  unfold tq_hb
  match w, hw with
  | 0, _ =>
    simp only [show nI 0 = 0 from rfl, sw3_0, wT_holdsBy_0, wT_holdsBy_1, wT_holdsBy_36, wT_holdsBy_37, wT_holdsBy_40, wT_holdsBy_43, wT_holdsBy_44, wT_holdsBy_47, wT_holdsBy_48, wT_holdsBy_51, wT_holdsBy_52, wT_holdsBy_55, wT_holdsBy_56, wT_holdsBy_59, wT_holdsBy_60, wT_holdsBy_63, wT_holdsBy_64, wT_holdsBy_65, wT_holdsBy_66, wT_holdsBy_69, wT_holdsBy_70, wT_holdsBy_73, wT_holdsBy_74, wT_holdsBy_77, wT_holdsBy_78, wT_holdsBy_79, wT_holdsBy_80, wT_holdsBy_83, wT_holdsBy_84, wT_holdsBy_87, wT_holdsBy_88, wT_holdsBy_91, wT_holdsBy_92, wT_holdsBy_93, wT_holdsBy_94, wT_holdsBy_97, wT_holdsBy_100, wT_holdsBy_101, wT_holdsBy_104, wT_holdsBy_106, wT_holdsBy_109, wT_holdsBy_110, wT_holdsBy_113, wT_holdsBy_114, wT_holdsBy_115, wT_holdsBy_116, o1, nk0 hk', nk2 hk', nk5 hk', true_or, or_true, Option.toList_some, Option.toList_none, List.cons_append, List.nil_append]
    by_cases h0 : ts_kd s n = 0 <;> by_cases h2 : ts_kd s n = 2 <;> by_cases h5 : ts_kd s n = 5 <;> simp [h0, h2, h5, am_b]
  | 1, _ =>
    simp only [show nI 1 = 1 from rfl, sw3_1, wT_holdsBy_0, wT_holdsBy_1, wT_holdsBy_36, wT_holdsBy_37, wT_holdsBy_40, wT_holdsBy_43, wT_holdsBy_44, wT_holdsBy_47, wT_holdsBy_48, wT_holdsBy_51, wT_holdsBy_52, wT_holdsBy_55, wT_holdsBy_56, wT_holdsBy_59, wT_holdsBy_60, wT_holdsBy_63, wT_holdsBy_64, wT_holdsBy_65, wT_holdsBy_66, wT_holdsBy_69, wT_holdsBy_70, wT_holdsBy_73, wT_holdsBy_74, wT_holdsBy_77, wT_holdsBy_78, wT_holdsBy_79, wT_holdsBy_80, wT_holdsBy_83, wT_holdsBy_84, wT_holdsBy_87, wT_holdsBy_88, wT_holdsBy_91, wT_holdsBy_92, wT_holdsBy_93, wT_holdsBy_94, wT_holdsBy_97, wT_holdsBy_100, wT_holdsBy_101, wT_holdsBy_104, wT_holdsBy_106, wT_holdsBy_109, wT_holdsBy_110, wT_holdsBy_113, wT_holdsBy_114, wT_holdsBy_115, wT_holdsBy_116, o1, nk3 hk', true_or, or_true, Option.toList_some, Option.toList_none, List.cons_append, List.nil_append]
    by_cases h0 : ts_kd s n = 3 <;> simp [h0, am_b]
  | 2, _ =>
    simp only [show nI 2 = 2 from rfl, sw3_2, wT_holdsBy_0, wT_holdsBy_1, wT_holdsBy_36, wT_holdsBy_37, wT_holdsBy_40, wT_holdsBy_43, wT_holdsBy_44, wT_holdsBy_47, wT_holdsBy_48, wT_holdsBy_51, wT_holdsBy_52, wT_holdsBy_55, wT_holdsBy_56, wT_holdsBy_59, wT_holdsBy_60, wT_holdsBy_63, wT_holdsBy_64, wT_holdsBy_65, wT_holdsBy_66, wT_holdsBy_69, wT_holdsBy_70, wT_holdsBy_73, wT_holdsBy_74, wT_holdsBy_77, wT_holdsBy_78, wT_holdsBy_79, wT_holdsBy_80, wT_holdsBy_83, wT_holdsBy_84, wT_holdsBy_87, wT_holdsBy_88, wT_holdsBy_91, wT_holdsBy_92, wT_holdsBy_93, wT_holdsBy_94, wT_holdsBy_97, wT_holdsBy_100, wT_holdsBy_101, wT_holdsBy_104, wT_holdsBy_106, wT_holdsBy_109, wT_holdsBy_110, wT_holdsBy_113, wT_holdsBy_114, wT_holdsBy_115, wT_holdsBy_116, o1, nk4 hk', true_or, or_true, Option.toList_some, Option.toList_none, List.cons_append, List.nil_append]
    by_cases h0 : ts_kd s n = 4 <;> simp [h0, am_b]
  | 3, _ =>
    simp only [show nI 3 = 3 from rfl, sw3_3, wT_holdsBy_0, wT_holdsBy_1, wT_holdsBy_36, wT_holdsBy_37, wT_holdsBy_40, wT_holdsBy_43, wT_holdsBy_44, wT_holdsBy_47, wT_holdsBy_48, wT_holdsBy_51, wT_holdsBy_52, wT_holdsBy_55, wT_holdsBy_56, wT_holdsBy_59, wT_holdsBy_60, wT_holdsBy_63, wT_holdsBy_64, wT_holdsBy_65, wT_holdsBy_66, wT_holdsBy_69, wT_holdsBy_70, wT_holdsBy_73, wT_holdsBy_74, wT_holdsBy_77, wT_holdsBy_78, wT_holdsBy_79, wT_holdsBy_80, wT_holdsBy_83, wT_holdsBy_84, wT_holdsBy_87, wT_holdsBy_88, wT_holdsBy_91, wT_holdsBy_92, wT_holdsBy_93, wT_holdsBy_94, wT_holdsBy_97, wT_holdsBy_100, wT_holdsBy_101, wT_holdsBy_104, wT_holdsBy_106, wT_holdsBy_109, wT_holdsBy_110, wT_holdsBy_113, wT_holdsBy_114, wT_holdsBy_115, wT_holdsBy_116, o1, nk4 hk', true_or, or_true, Option.toList_some, Option.toList_none, List.cons_append, List.nil_append]
    by_cases h0 : ts_kd s n = 4 <;> simp [h0, am_b]
  | 4, _ =>
    simp only [show nI 4 = 4 from rfl, sw3_4, wT_holdsBy_0, wT_holdsBy_1, wT_holdsBy_36, wT_holdsBy_37, wT_holdsBy_40, wT_holdsBy_43, wT_holdsBy_44, wT_holdsBy_47, wT_holdsBy_48, wT_holdsBy_51, wT_holdsBy_52, wT_holdsBy_55, wT_holdsBy_56, wT_holdsBy_59, wT_holdsBy_60, wT_holdsBy_63, wT_holdsBy_64, wT_holdsBy_65, wT_holdsBy_66, wT_holdsBy_69, wT_holdsBy_70, wT_holdsBy_73, wT_holdsBy_74, wT_holdsBy_77, wT_holdsBy_78, wT_holdsBy_79, wT_holdsBy_80, wT_holdsBy_83, wT_holdsBy_84, wT_holdsBy_87, wT_holdsBy_88, wT_holdsBy_91, wT_holdsBy_92, wT_holdsBy_93, wT_holdsBy_94, wT_holdsBy_97, wT_holdsBy_100, wT_holdsBy_101, wT_holdsBy_104, wT_holdsBy_106, wT_holdsBy_109, wT_holdsBy_110, wT_holdsBy_113, wT_holdsBy_114, wT_holdsBy_115, wT_holdsBy_116, o1, nk0 hk', nk6 hk', true_or, or_true, Option.toList_some, Option.toList_none, List.cons_append, List.nil_append]
    by_cases h0 : ts_kd s n = 0 <;> by_cases h6 : ts_kd s n = 6 <;> simp [h0, h6, am_b]
-- holder and way
theorem cp_bind {aT : Nat → Option Nat} {p : Option Nat} {m b : Nat} (h : cg X aT ad s M) (hb : ad m = some b) (hp : ∀ q, p = some q → ts_lv s q) : (p.bind ad = some b) = (p = some m) := by
  apply propext
  constructor
  · intro h1
    cases p with
    | none => cases h1
    | some q => rw [h.2.2.2.2.2.2.2.2 q m b h1 hb]
  · intro h1
    rw [h1]; exact hb
theorem cp_bindN {aT : Nat → Option Nat} {p : Option Nat} (h : cg X aT ad s M) (hp : ∀ q, p = some q → ts_lv s q) : (p.bind ad = none) = (p = none) := by
  apply propext
  constructor
  · intro h1
    cases p with
    | none => rfl
    | some q =>
      have h2 := (h.2.2.2.2.2.2.1 q).mpr (hp q rfl)
      rw [show (some q).bind ad = ad q from rfl] at h1
      rw [h1] at h2
      cases h2
  · intro h1
    rw [h1]; rfl
theorem ts_pa_lv {n q : Nat} (h : ts_pa s n = some q) : ts_lv s q := (fo_p_mem h).2
theorem cT_isHeldBy (h : cp X ad s M) (ha : ad n = some a) {m b : Nat} (hb : ad m = some b) (v : Int32) : am_wp yT_isHeldBy 0 [.inr (.inl (2, some a)), .inr (.inl (2, some b)), .inl v] [] M K = K (some (.inl (am_b (decide (ts_pa s n = some m) && decide (ts_way s n = v))))) M := by
  obtain ⟨-, -, -, o3, o4, -⟩ := h.2.2.2.2.2.1 n a ha
  simp only [wT_isHeldBy_0, wT_isHeldBy_1, wT_isHeldBy_4, wT_isHeldBy_5, wT_isHeldBy_8, wT_isHeldBy_9, wT_isHeldBy_12, wT_isHeldBy_13, wT_isHeldBy_16, wT_isHeldBy_17, wT_isHeldBy_20, wT_isHeldBy_21, o3, o4, true_or, or_true, Option.toList_some, Option.toList_none, List.cons_append, List.nil_append, cp_bind h hb (fun q hq => ts_pa_lv hq)]
  by_cases h1 : ts_pa s n = some m <;> by_cases h2 : ts_way s n = v <;> simp [h1, h2, am_b]
theorem cX_numberOf {aT : Nat → Option Nat} (h : cg X aT ad s M) (p : Option Nat) (hp : ∀ q, p = some q → ts_lv s q) : am_wp yX_numberOf 0 [.inr (.inl (2, p.bind ad))] [] M K = K (some (.inl (ts_no p))) M := by
  cases p with
  | none => simp [wX_numberOf_0, wX_numberOf_1, wX_numberOf_4, wX_numberOf_6, wX_numberOf_9, wX_numberOf_10, wX_numberOf_13, true_or, or_true, Option.toList_some, Option.toList_none, List.cons_append, List.nil_append, ts_no]
  | some q =>
    have h2 := (h.2.2.2.2.2.2.1 q).mpr (hp q rfl)
    obtain ⟨b, hb⟩ := Option.isSome_iff_exists.mp h2
    obtain ⟨o0, -⟩ := h.2.2.2.2.2.1 q b hb
    simp [wX_numberOf_0, wX_numberOf_1, wX_numberOf_4, wX_numberOf_6, wX_numberOf_9, wX_numberOf_10, wX_numberOf_13, true_or, or_true, Option.toList_some, Option.toList_none, List.cons_append, List.nil_append, hb, o0, ts_no]
-- the climb
theorem cT_isWithin_l (h : cp X ad s M) (hok : fo_ok (ts_L s)) {m b : Nat} (hb : ad m = some b) (l0 : am_V) : ∀ (d n a : Nat), ad n = some a → fo_d (ts_L s) n ≤ d → am_wp yT_isWithin 2 [l0, .inr (.inl (2, some b)), .inr (.inl (2, some a))] [] M K = K (some (.inl (am_b (decide (n ∈ fo_w (ts_L s) m))))) M := by
  have hlm : ts_lv s m := (h.2.2.2.2.2.2.1 m).mp (by rw [hb]; rfl)
  intro d
  induction d with
  | zero =>
    intro n a ha hd
    obtain ⟨-, -, -, o3, -⟩ := h.2.2.2.2.2.1 n a ha
    have hln : ts_lv s n := (h.2.2.2.2.2.2.1 n).mp (by rw [ha]; rfl)
    have hpn : ts_pa s n = none := by
      cases hp : ts_pa s n with
      | none => rfl
      | some p => have := fo_p_deep hok hp; omega
    simp only [wT_isWithin_2, wT_isWithin_0, wT_isWithin_1, wT_isWithin_3, wT_isWithin_6, wT_isWithin_7, wT_isWithin_8, wT_isWithin_11, wT_isWithin_12, wT_isWithin_13, wT_isWithin_14, wT_isWithin_17, wT_isWithin_18, wT_isWithin_21, wT_isWithin_22, o3, hpn, true_or, or_true, Option.toList_some, Option.toList_none, List.cons_append, List.nil_append]
    by_cases hab : a = b
    · subst hab
      have hnm := h.2.2.2.2.2.2.2.2 n m a ha hb
      subst hnm
      simp [fo_w_self hln, am_b]
    · have hnm : ¬ m = n := fun q => hab (by rw [q] at hb; rw [ha] at hb; exact Option.some.inj hb)
      have hnw : ¬ n ∈ fo_w (ts_L s) m := fun q => by
        obtain ⟨p, hp, -⟩ := fo_w_up hok q hnm
        rw [show fo_p (ts_L s) n = ts_pa s n from rfl, hpn] at hp
        cases hp
      simp [hab, hnw, am_b, wT_isWithin_2, wT_isWithin_0, wT_isWithin_1, wT_isWithin_3, wT_isWithin_6, wT_isWithin_7, wT_isWithin_8, wT_isWithin_11, wT_isWithin_12, wT_isWithin_13, wT_isWithin_14, wT_isWithin_17, wT_isWithin_18, wT_isWithin_21, wT_isWithin_22]
  | succ d ih =>
    intro n a ha hd
    obtain ⟨-, -, -, o3, -⟩ := h.2.2.2.2.2.1 n a ha
    have hln : ts_lv s n := (h.2.2.2.2.2.2.1 n).mp (by rw [ha]; rfl)
    rw [wT_isWithin_2]
    simp only [wT_isWithin_0, wT_isWithin_1, wT_isWithin_3, wT_isWithin_6, wT_isWithin_7, wT_isWithin_8, wT_isWithin_11, wT_isWithin_12, wT_isWithin_13, wT_isWithin_14, wT_isWithin_17, wT_isWithin_18, wT_isWithin_21, wT_isWithin_22, o3, true_or, or_true, Option.toList_some, Option.toList_none, List.cons_append, List.nil_append]
    by_cases hab : a = b
    · subst hab
      have hnm := h.2.2.2.2.2.2.2.2 n m a ha hb
      subst hnm
      simp [fo_w_self hln, am_b]
    · have hnm : ¬ m = n := fun q => hab (by rw [q] at hb; rw [ha] at hb; exact Option.some.inj hb)
      cases hp : ts_pa s n with
      | none =>
        have hnw : ¬ n ∈ fo_w (ts_L s) m := fun q => by
          obtain ⟨p, hp', -⟩ := fo_w_up hok q hnm
          rw [show fo_p (ts_L s) n = ts_pa s n from rfl, hp] at hp'
          cases hp'
        simp [hab, hnw, am_b, wT_isWithin_2, wT_isWithin_0, wT_isWithin_1, wT_isWithin_3, wT_isWithin_6, wT_isWithin_7, wT_isWithin_8, wT_isWithin_11, wT_isWithin_12, wT_isWithin_13, wT_isWithin_14, wT_isWithin_17, wT_isWithin_18, wT_isWithin_21, wT_isWithin_22]
      | some p =>
        obtain ⟨c, hc⟩ := Option.isSome_iff_exists.mp ((h.2.2.2.2.2.2.1 p).mpr (ts_pa_lv hp))
        have hdp := fo_p_deep hok hp
        have hiff : (n ∈ fo_w (ts_L s) m) ↔ (p ∈ fo_w (ts_L s) m) := ⟨fun q => by
          obtain ⟨p', hp', h5⟩ := fo_w_up hok q hnm
          rw [show fo_p (ts_L s) n = ts_pa s n from rfl, hp] at hp'
          cases hp'
          exact h5, fun q => fo_w_down hok hp q⟩
        simp only [Option.some.injEq, hab, if_false, Option.bind_some, hc, ih p c hc (by omega), hiff]
        simp
theorem cT_isWithin (h : cp X ad s M) (hok : fo_ok (ts_L s)) (ha : ad n = some a) {m b : Nat} (hb : ad m = some b) : am_wp yT_isWithin 0 [.inr (.inl (2, some a)), .inr (.inl (2, some b)), am_u] [] M K = K (some (.inl (am_b (decide (n ∈ fo_w (ts_L s) m))))) M := by
  rw [wT_isWithin_0, wT_isWithin_1]
  exact cT_isWithin_l h hok hb _ _ n a ha (Nat.le_refl _)
end CT
