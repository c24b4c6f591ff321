section CT2
variable {X : Nat} {ad : Nat → Option Nat} {s : ts_S} {M : am_M} {K : Option am_V → am_M → Prop} {n a : Nat}
theorem cp_ex {aT : Nat → Option Nat} (h : cg X aT ad s M) (hn : ts_lv s n) : ∃ a, ad n = some a := Option.isSome_iff_exists.mp ((h.2.2.2.2.2.2.1 n).mpr hn)
theorem cp_lv {aT : Nat → Option Nat} (h : cg X aT ad s M) (ha : ad n = some a) : ts_lv s n := (h.2.2.2.2.2.2.1 n).mp (by rw [ha]; rfl)
theorem cp_at {aT : Nat → Option Nat} (h : cg X aT ad s M) (ha : ad n = some a) : cp_o ad s M n a := h.2.2.2.2.2.1 n a ha
theorem cT_topmost_l (h : cp X ad s M) (hok : fo_ok (ts_L s)) (l0 : am_V) : ∀ n, ts_lv s n → ∀ a, ad n = some a → am_wp yT_topmost 2 [l0, .inr (.inl (2, some a))] [] M K = K (some (.inr (.inl (2, ad (fo_r (ts_L s) n))))) M := by
  refine fo_ind hok ?_ ?_
  · intro n hn hp a ha
    obtain ⟨-, -, -, o3, -⟩ := cp_at h ha
    have hp' : ts_pa s n = none := hp
    simp [wT_topmost_2, wT_topmost_0, wT_topmost_1, wT_topmost_3, wT_topmost_6, wT_topmost_9, wT_topmost_10, wT_topmost_13, wT_topmost_14, wT_topmost_17, wT_topmost_18, o3, hp', fo_r_none hok hn hp, ha]
  · intro n p hp ih a ha
    obtain ⟨-, -, -, o3, -⟩ := cp_at h ha
    have hp' : ts_pa s n = some p := hp
    obtain ⟨b, hb⟩ := cp_ex h (ts_pa_lv hp')
    rw [wT_topmost_2]
    simp [wT_topmost_0, wT_topmost_1, wT_topmost_3, wT_topmost_6, wT_topmost_9, wT_topmost_10, wT_topmost_13, wT_topmost_14, wT_topmost_17, wT_topmost_18, o3, hp', hb, fo_r_some hok hp, ih b hb]
theorem cT_topmost (h : cp X ad s M) (hok : fo_ok (ts_L s)) (ha : ad n = some a) : am_wp yT_topmost 0 [.inr (.inl (2, some a)), am_u] [] M K = K (some (.inr (.inl (2, ad (fo_r (ts_L s) n))))) M := by
  rw [wT_topmost_0, wT_topmost_1]
  exact cT_topmost_l h hok _ n (cp_lv h ha) a ha
theorem cT_isSpreadTo (h : cp X ad s M) (ha : ad n = some a) {m b : Nat} (hb : ad m = some b) (hm : m < 20) : am_wp yT_isSpreadTo 0 [.inr (.inl (2, some a)), .inr (.inl (2, some b))] [] M K = K (some (.inl (am_b (ts_sp s n m)))) M := by
  obtain ⟨-, -, -, -, -, -, -, -, -, -, -, -, o12⟩ := cp_at h ha
  obtain ⟨p0, -⟩ := cp_at h hb
  have h1 := o12 m hm
  simp only [wT_isSpreadTo_0, wT_isSpreadTo_1, wT_isSpreadTo_4, wT_isSpreadTo_5, wT_isSpreadTo_6, wT_isSpreadTo_9, wT_isSpreadTo_10, wT_isSpreadTo_11, wT_isSpreadTo_14, wT_isSpreadTo_15, wT_isSpreadTo_18, wT_isSpreadTo_19, p0, true_or, or_true, Option.toList_some, Option.toList_none, List.cons_append, List.nil_append]
  cases hs : ts_sp s n m with
  | false => simp [h1.mpr hs, am_b]
  | true =>
    have h2 : ¬ am_mi M a 12 &&& (1 : Int32) <<< (nI m &&& 31) = 0 := fun q => by rw [h1.mp q] at hs; cases hs
    simp [h2, am_b]
-- neighbours
theorem ts_nx_at {p : Nat} {l1 l2 : List Nat} (hok : fo_ok (ts_L s)) (hk : ts_kk s p = l1 ++ n :: l2) : ts_pa s n = some p ∧ ts_nx s n = l2.head? := by
  have hnd := fo_k_nd hok p
  have hk' : fo_k (ts_L s) p = l1 ++ n :: l2 := hk
  have hp : ts_pa s n = some p := fo_k_of hok (by rw [hk']; simp)
  rw [hk', List.nodup_append] at hnd
  refine ⟨hp, ?_⟩
  unfold ts_nx
  rw [hp]
  show ls_nx (ts_kk s p) n = _
  rw [hk]
  exact ls_nx_at (fun q => hnd.2.2 n q n List.mem_cons_self rfl)
-- how many a thing holds by ways 0 to 2
def tq_cnt (s : ts_S) (l : List Nat) : Nat := (l.filter (fun m => ts_wy s m == 0 || ts_wy s m == 1 || ts_wy s m == 2)).length
def tq_fu (s : ts_S) (n : Nat) : Bool := decide (ts_ms s n ≤ tq_cnt s (ts_kk s n))
theorem tq_cnt_c (s : ts_S) (l : List Nat) (m : Nat) : tq_cnt s (l ++ [m]) = tq_cnt s l + (if ts_wy s m = 0 ∨ ts_wy s m = 1 ∨ ts_wy s m = 2 then 1 else 0) := by
  unfold tq_cnt
  rw [List.filter_append, List.length_append]
  congr 1
  by_cases h0 : ts_wy s m = 0 <;> by_cases h1 : ts_wy s m = 1 <;> by_cases h2 : ts_wy s m = 2 <;> simp [h0, h1, h2]
theorem tq_cnt_le (s : ts_S) (l : List Nat) : tq_cnt s l ≤ l.length := List.length_filter_le _ _
theorem nd_len : ∀ (m : Nat) (l : List Nat), l.Nodup → (∀ x ∈ l, x < m) → l.length ≤ m := by
  intro m
  induction m with
  | zero =>
    intro l _ h
    cases l with
    | nil => exact Nat.le_refl _
    | cons x l => exact absurd (h x List.mem_cons_self) (Nat.not_lt_zero x)
  | succ m ih =>
    intro l hn h
    by_cases hm : m ∈ l
    · have h1 := ih (l.erase m) (hn.erase m) (fun x hx => by
        have h2 := (hn.mem_erase_iff).mp hx
        have h3 := h x h2.2
        have h4 := h2.1
        omega)
      have h5 := List.length_erase_of_mem hm
      omega
    · have h1 := ih l hn (fun x hx => by
        have h3 := h x hx
        have h4 : x ≠ m := fun q => hm (by rw [← q]; exact hx)
        omega)
      omega
theorem fo_len {L : fo_L} (hok : fo_ok L) {m : Nat} (h : ∀ n ∈ L.map (·.1), n < m) : L.length ≤ m := by
  have h1 := nd_len m (L.map (·.1)) hok.1 h
  rw [List.length_map] at h1
  exact h1
theorem ts_kk_len (hs : ts_ok s) (p : Nat) : (ts_kk s p).length ≤ 20 :=
  nd_len 20 _ (fo_k_nd hs.1 p) (fun x hx => Nat.lt_of_lt_of_le (hs.2.1 x (fo_p_mem (fo_k_of hs.1 hx)).1) hs.2.2.1)
theorem cT_isFull_l (h : cp X ad s M) (hs : ts_ok s) (ha : ad n = some a) : ∀ (l2 l1 : List Nat), ts_kk s n = l1 ++ l2 → am_wp yT_isFull 7 [.inr (.inl (2, some a)), .inl (nI (tq_cnt s l1)), .inr (.inl (2, l2.head?.bind ad))] [] M K = K (some (.inl (am_b (tq_fu s n)))) M := by
  intro l2
  induction l2 with
  | nil =>
    intro l1 hk
    obtain ⟨-, -, o2, -⟩ := cp_at h ha
    have hl1 : ts_kk s n = l1 := by rw [hk]; simp
    have hms := (hs.2.2.2.1 n (cp_lv h ha)).2.1
    have hc : tq_cnt s l1 ≤ 20 := by rw [← hl1]; exact Nat.le_trans (tq_cnt_le _ _) (ts_kk_len hs n)
    have hlt : (nI (tq_cnt s l1) < nI (ts_ms s n)) = (tq_cnt s l1 < ts_ms s n) := propext (nI_ltI (by omega) (by omega))
    rw [wT_isFull_7]
    simp only [wT_isFull_0, wT_isFull_1, wT_isFull_2, wT_isFull_3, wT_isFull_6, wT_isFull_8, wT_isFull_11, wT_isFull_12, wT_isFull_15, wT_isFull_18, wT_isFull_19, wT_isFull_22, wT_isFull_23, wT_isFull_26, wT_isFull_27, wT_isFull_30, wT_isFull_31, wT_isFull_34, wT_isFull_37, wT_isFull_38, wT_isFull_41, wT_isFull_42, wT_isFull_45, wT_isFull_46, wT_isFull_47, wT_isFull_50, wT_isFull_53, wT_isFull_54, wT_isFull_57, wT_isFull_58, true_or, or_true, Option.toList_some, Option.toList_none, List.cons_append, List.nil_append, List.head?_nil, Option.bind_none, if_true, o2, hlt]
    unfold tq_fu
    rw [hl1]
    by_cases h1 : tq_cnt s l1 < ts_ms s n
    · have h2 : ¬ ts_ms s n ≤ tq_cnt s l1 := by omega
      simp [h1, h2, am_b]
    · have h2 : ts_ms s n ≤ tq_cnt s l1 := by omega
      simp [h1, h2, am_b]
  | cons m l2 ih =>
    intro l1 hk
    obtain ⟨hp, hx⟩ := ts_nx_at hs.1 hk
    have hlm : ts_lv s m := (fo_p_mem hp).1
    obtain ⟨b, hb⟩ := cp_ex h hlm
    obtain ⟨-, -, -, -, o4, -, -, -, o8, -⟩ := cp_at h hb
    have hw : ts_way s m = ts_wy s m := by unfold ts_way; rw [if_neg (by rw [hp]; simp)]
    rw [hw] at o4
    rw [hx] at o8
    have ih2 := ih (l1 ++ [m]) (by rw [hk]; simp)
    rw [tq_cnt_c] at ih2
    rw [wT_isFull_7]
    simp only [wT_isFull_0, wT_isFull_1, wT_isFull_2, wT_isFull_3, wT_isFull_6, wT_isFull_8, wT_isFull_11, wT_isFull_12, wT_isFull_15, wT_isFull_18, wT_isFull_19, wT_isFull_22, wT_isFull_23, wT_isFull_26, wT_isFull_27, wT_isFull_30, wT_isFull_31, wT_isFull_34, wT_isFull_37, wT_isFull_38, wT_isFull_41, wT_isFull_42, wT_isFull_45, wT_isFull_46, wT_isFull_47, wT_isFull_50, wT_isFull_53, wT_isFull_54, wT_isFull_57, wT_isFull_58, true_or, or_true, Option.toList_some, Option.toList_none, List.cons_append, List.nil_append, List.head?_cons, Option.bind_some, hb, o4, o8]
    by_cases h0 : ts_wy s m = 0
    · simp only [h0, true_or, if_true] at ih2
      simpa [h0, nI_1] using ih2
    · by_cases h1 : ts_wy s m = 1
      · simp only [h1, true_or, or_true, if_true] at ih2
        simpa [h1, nI_1] using ih2
      · by_cases h2 : ts_wy s m = 2
        · simp only [h2, or_true, if_true] at ih2
          simpa [h2, nI_1] using ih2
        · simp only [h0, h1, h2, or_self, if_false, Nat.add_zero] at ih2
          simpa [h0, h1, h2] using ih2
theorem cT_isFull (h : cp X ad s M) (hs : ts_ok s) (ha : ad n = some a) : am_wp yT_isFull 0 [.inr (.inl (2, some a)), am_u, am_u] [] M K = K (some (.inl (am_b (tq_fu s n)))) M := by
  obtain ⟨-, -, -, -, -, o5, -⟩ := cp_at h ha
  simp only [wT_isFull_0, wT_isFull_1, wT_isFull_2, wT_isFull_3, wT_isFull_6, wT_isFull_8, wT_isFull_11, wT_isFull_12, wT_isFull_15, wT_isFull_18, wT_isFull_19, wT_isFull_22, wT_isFull_23, wT_isFull_26, wT_isFull_27, wT_isFull_30, wT_isFull_31, wT_isFull_34, wT_isFull_37, wT_isFull_38, wT_isFull_41, wT_isFull_42, wT_isFull_45, wT_isFull_46, wT_isFull_47, wT_isFull_50, wT_isFull_53, wT_isFull_54, wT_isFull_57, wT_isFull_58, true_or, or_true, Option.toList_some, Option.toList_none, List.cons_append, List.nil_append, o5]
  exact cT_isFull_l h hs ha (ts_kk s n) [] rfl
end CT2
