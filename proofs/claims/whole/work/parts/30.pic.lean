-- THE STATE, and its picture in the memory
section PIC
theorem am_mi_si (M : am_M) (a k : Nat) (x : Int32) (b j : Nat) : am_mi (am_si M a k x) b j = if b = a ∧ j = k then x else am_mi M b j := rfl
theorem am_mr_si (M : am_M) (a k : Nat) (x : Int32) (b j : Nat) : am_mr (am_si M a k x) b j = am_mr M b j := rfl
theorem am_mi_sr (M : am_M) (a k : Nat) (x : Option Nat) (b j : Nat) : am_mi (am_sr M a k x) b j = am_mi M b j := rfl
theorem am_mr_sr (M : am_M) (a k : Nat) (x : Option Nat) (b j : Nat) : am_mr (am_sr M a k x) b j = if b = a ∧ j = k then x else am_mr M b j := rfl
theorem am_mi_al (M : am_M) (t n b j : Nat) : am_mi (am_al M t n) b j = if b = am_sz M then 0 else am_mi M b j := rfl
theorem am_mr_al (M : am_M) (t n b j : Nat) : am_mr (am_al M t n) b j = if b = am_sz M then none else am_mr M b j := rfl
theorem am_sz_si (M : am_M) (a k : Nat) (x : Int32) : am_sz (am_si M a k x) = am_sz M := rfl
theorem am_sz_sr (M : am_M) (a k : Nat) (x : Option Nat) : am_sz (am_sr M a k x) = am_sz M := rfl
theorem am_sl_si (M : am_M) (a k : Nat) (x : Int32) : am_sl (am_si M a k x) = am_sl M := rfl
theorem am_sl_sr (M : am_M) (a k : Nat) (x : Option Nat) : am_sl (am_sr M a k x) = am_sl M := rfl
theorem am_L_si (M : am_M) (a k : Nat) (x : Int32) : am_L (am_si M a k x) = am_L M := rfl
theorem am_L_sr (M : am_M) (a k : Nat) (x : Option Nat) : am_L (am_sr M a k x) = am_L M := rfl
theorem am_L_al (M : am_M) (t n : Nat) : am_L (am_al M t n) = am_L M := rfl
-- numbers
theorem am_ok_nI {j n : Nat} (h : j < n) (hn : n < 2 ^ 31) : am_ok (nI j) n = true := by
  unfold am_ok
  rw [nI_toInt (by omega)]
  simp
  omega
theorem am_ok_of {v : Int32} {n : Nat} (h0 : ¬ v < 0) (h1 : v < nI n) (hn : n < 2 ^ 31) : am_ok v n = true ∧ v.toNatClampNeg < n ∧ v = nI v.toNatClampNeg := by
  obtain ⟨j, hj, rfl⟩ := nI_of h0
  have hlt : j < n := (nI_ltI hj hn).mp h1
  exact ⟨am_ok_nI hlt hn, by rw [nI_clamp hj]; exact hlt, by rw [nI_clamp hj]⟩
def am_b (b : Bool) : Int32 := if b then 1 else 0
theorem am_b01 (b : Bool) : am_b b = 0 ∨ am_b b = 1 := by cases b <;> simp [am_b]
theorem am_b0 (b : Bool) : am_b b = 0 ↔ b = false := by cases b <;> simp [am_b]
-- the state: made, the forest, kind, most, way, closed, clear, shines, spread, how many changes, what is kept of them
abbrev ts_S : Type := Nat × fo_L × (Nat → Nat) × (Nat → Nat) × (Nat → Int32) × (Nat → Bool) × (Nat → Bool) × (Nat → Bool) × (Nat → Nat → Bool) × Nat × (Nat → Int32)
def ts_m (s : ts_S) : Nat := s.1
def ts_L (s : ts_S) : fo_L := s.2.1
def ts_kd (s : ts_S) : Nat → Nat := s.2.2.1
def ts_ms (s : ts_S) : Nat → Nat := s.2.2.2.1
def ts_wy (s : ts_S) : Nat → Int32 := s.2.2.2.2.1
def ts_cl (s : ts_S) : Nat → Bool := s.2.2.2.2.2.1
def ts_cr (s : ts_S) : Nat → Bool := s.2.2.2.2.2.2.1
def ts_sh (s : ts_S) : Nat → Bool := s.2.2.2.2.2.2.2.1
def ts_sp (s : ts_S) : Nat → Nat → Bool := s.2.2.2.2.2.2.2.2.1
def ts_t (s : ts_S) : Nat := s.2.2.2.2.2.2.2.2.2.1
def ts_ch (s : ts_S) : Nat → Int32 := s.2.2.2.2.2.2.2.2.2.2
def ts_lv (s : ts_S) (n : Nat) : Prop := n ∈ (ts_L s).map (·.1)
def ts_pa (s : ts_S) (n : Nat) : Option Nat := fo_p (ts_L s) n
def ts_kk (s : ts_S) (n : Nat) : List Nat := fo_k (ts_L s) n
def ts_way (s : ts_S) (n : Nat) : Int32 := if ts_pa s n = none then -8 else ts_wy s n
def ts_nx (s : ts_S) (n : Nat) : Option Nat := (ts_pa s n).bind (fun p => ls_nx (ts_kk s p) n)
def ts_pv (s : ts_S) (n : Nat) : Option Nat := (ts_pa s n).bind (fun p => ls_pv (ts_kk s p) n)
-- a holder's number
def ts_no (p : Option Nat) : Int32 := match p with
  | some q => nI q
  | none => -8
-- a thing's cell
def cp_o (ad : Nat → Option Nat) (s : ts_S) (M : am_M) (n a : Nat) : Prop :=
  am_mi M a 0 = nI n ∧ am_mi M a 1 = nI (ts_kd s n) ∧ am_mi M a 2 = nI (ts_ms s n) ∧ am_mr M a 3 = (ts_pa s n).bind ad ∧ am_mi M a 4 = ts_way s n ∧ am_mr M a 5 = (ts_kk s n).head?.bind ad ∧ am_mr M a 6 = (ts_kk s n).getLast?.bind ad ∧ am_mr M a 7 = (ts_pv s n).bind ad ∧ am_mr M a 8 = (ts_nx s n).bind ad ∧ am_mi M a 9 = am_b (ts_cl s n) ∧ am_mi M a 10 = am_b (ts_cr s n) ∧ am_mi M a 11 = am_b (ts_sh s n) ∧ ∀ r, r < 20 → (am_mi M a 12 &&& (1 : Int32) <<< (nI r &&& 31) = 0 ↔ ts_sp s n r = false)
-- the object's cells: X the object, X+1 its things, X+2 its changes, X+3 their cells, X+4 the walk's row
def cp_s (X : Nat) (M : am_M) : Prop := am_mr M X 0 = some (X + 1) ∧ am_mr M X 1 = some (X + 2) ∧ am_mr M X 2 = some (X + 4) ∧ am_mr M (X + 2) 0 = some (X + 3)
def cp_a (X : Nat) (ad : Nat → Option Nat) (s : ts_S) (M : am_M) : Prop := (∀ n, (ad n).isSome = true ↔ ts_lv s n) ∧ (∀ n a, ad n = some a → X + 20 < a ∧ a < am_sz M) ∧ (∀ n m a, ad n = some a → ad m = some a → n = m)
def cg (X : Nat) (aT ad : Nat → Option Nat) (s : ts_S) (M : am_M) : Prop := cp_s X M ∧ am_mi M X 3 = nI (ts_m s) ∧ am_mi M (X + 2) 1 = nI (ts_t s) ∧ (∀ j, j < 120 → am_mi M (X + 3) j = ts_ch s j) ∧ (∀ n, n < 20 → am_mr M (X + 1) n = aT n) ∧ (∀ n a, ad n = some a → cp_o ad s M n a) ∧ cp_a X ad s M
abbrev cp (X : Nat) (ad : Nat → Option Nat) (s : ts_S) (M : am_M) : Prop := cg X ad ad s M
-- a good state
def ts_ok (s : ts_S) : Prop := fo_ok (ts_L s) ∧ (∀ n, ts_lv s n → n < ts_m s) ∧ ts_m s ≤ 20 ∧ (∀ n, ts_lv s n → ts_kd s n < 7 ∧ ts_ms s n ≤ 9 ∧ (ts_cl s n = true → ts_kd s n = 2)) ∧
  (∀ n p, ts_pa s n = some p → ts_kd s n ≠ 0 ∧ ts_kd s n ≠ 6 ∧ ((ts_wy s n = 0 ∧ (ts_kd s p = 0 ∨ ts_kd s p = 2 ∨ ts_kd s p = 5)) ∨ (ts_wy s n = 1 ∧ ts_kd s p = 3) ∨ ((ts_wy s n = 2 ∨ ts_wy s n = 3) ∧ ts_kd s p = 4) ∨ (ts_wy s n = 4 ∧ ts_kd s p ≠ 0 ∧ ts_kd s p ≠ 6)))
section
variable {X : Nat} {ad : Nat → Option Nat} {s : ts_S} {M : am_M} {K : Option am_V → am_M → Prop}
-- which thing a number tells
def cp_f (ad : Nat → Option Nat) (v : Int32) : Option Nat := if v < 0 then none else if v < 20 then ad v.toNatClampNeg else none
theorem cX_find {aT : Nat → Option Nat} (h : cg X aT ad s M) (v : Int32) : am_wp yX_find 0 [.inr (.inl (1, some X)), .inl v] [] M K = K (some (.inr (.inl (2, cp_f aT v)))) M := by
  obtain ⟨⟨h0, -⟩, -, -, -, hT, -⟩ := h
  simp only [wX_find_0, wX_find_1]
  by_cases hv : v < 0
  · simp only [if_pos hv, wX_find_0, wX_find_1, wX_find_4, wX_find_5, wX_find_6, wX_find_9, wX_find_10, wX_find_13, wX_find_14, wX_find_17, wX_find_18, wX_find_21, wX_find_22, wX_find_23, true_or, or_true, Option.toList_some, Option.toList_none, List.cons_append, List.nil_append, cp_f]
  · simp only [if_neg hv, wX_find_4, wX_find_5, wX_find_6, h0, wX_find_9, wX_find_10]
    by_cases hv2 : v < 20
    · obtain ⟨h1, h2, h3⟩ := am_ok_of (n := 20) hv hv2 (by decide)
      simp only [if_pos hv2, wX_find_17, wX_find_18, h0, wX_find_21, wX_find_22 h1, wX_find_23, hT _ h2, cp_f, if_neg hv]
    · simp only [if_neg hv2, wX_find_0, wX_find_1, wX_find_4, wX_find_5, wX_find_6, wX_find_9, wX_find_10, wX_find_13, wX_find_14, wX_find_17, wX_find_18, wX_find_21, wX_find_22, wX_find_23, true_or, or_true, Option.toList_some, Option.toList_none, List.cons_append, List.nil_append, cp_f, if_neg hv]
end
end PIC
