-- A NEW THING; FORGETTING ALL
section CN2
theorem fo_sg_new {d m : Nat} {r : fo_L} : fo_sg d (r ++ [(m, 0)]) = fo_sg d r := by
  by_cases h : ∀ q ∈ r, d < q.2
  · have h1 := fo_sg_app (B := [(m, 0)]) h
    have h2 := fo_sg_app (B := []) h
    rw [List.append_nil] at h2
    rw [h1, h2]
    simp [fo_sg]
  · exact fo_sg_stop (Classical.byContradiction (fun q => h (fun x hx => Classical.byContradiction (fun q2 => q ⟨x, hx, q2⟩))))
def fo_nw (L : fo_L) (m : Nat) : fo_L := L ++ [(m, 0)]
theorem fo_new {L : fo_L} {m : Nat} (hok : fo_ok L) (hm : m ∉ L.map (·.1)) : fo_ok (fo_nw L m) ∧ (∀ x, x ∈ (fo_nw L m).map (·.1) ↔ x ∈ L.map (·.1) ∨ x = m) ∧ (∀ x, fo_p (fo_nw L m) x = fo_p L x) ∧ ∀ x, fo_k (fo_nw L m) x = fo_k L x := by
  have hmem : ∀ x, x ∈ (fo_nw L m).map (·.1) ↔ x ∈ L.map (·.1) ∨ x = m := by intro x; unfold fo_nw; simp
  refine ⟨⟨?_, ?_⟩, hmem, ?_, ?_⟩
  · unfold fo_nw
    rw [List.map_append, List.nodup_append]
    refine ⟨hok.1, by simp, ?_⟩
    intro a ha b hb q
    simp at hb
    subst hb
    exact hm (q ▸ ha)
  · unfold fo_nw
    rw [fo_v_app]
    exact ⟨hok.2, Nat.zero_le _, trivial⟩
  · intro x
    by_cases hx : x ∈ L.map (·.1)
    · obtain ⟨A, d, r, hL, hA⟩ := fo_split hx
      unfold fo_nw
      rw [hL, fo_p_at hA, List.append_assoc, List.cons_append, fo_p_at hA]
    · rw [show fo_p L x = none by unfold fo_p; rw [fo_sp_none hx]]
      by_cases q : x = m
      · subst q
        rw [show fo_nw L x = L ++ (x, 0) :: [] from rfl, fo_p_at hm]
        cases h : fo_p1 L 0 with
        | none => rfl
        | some p =>
          obtain ⟨-, e, -, -, he, -⟩ := fo_p1_some h
          omega
      · unfold fo_p
        rw [fo_sp_none (fun z => by rcases (hmem x).mp z with z | z; exact hx z; exact q z)]
  · intro x
    by_cases hx : x ∈ L.map (·.1)
    · obtain ⟨A, d, r, hL, hA⟩ := fo_split hx
      unfold fo_nw
      rw [hL, fo_k_at hA, List.append_assoc, List.cons_append, fo_k_at hA]
      unfold fo_k1
      rw [fo_sg_new]
    · rw [show fo_k L x = [] by unfold fo_k; rw [fo_sp_none hx]]
      by_cases q : x = m
      · subst q
        rw [show fo_nw L x = L ++ (x, 0) :: [] from rfl, fo_k_at hm]
        rfl
      · unfold fo_k
        rw [fo_sp_none (fun z => by rcases (hmem x).mp z with z | z; exact hx z; exact q z)]
theorem ls_pv_mem {l : List Nat} {x y : Nat} (h : ls_pv l x = some y) : y ∈ l := by
  induction l with
  | nil => cases h
  | cons a l ih =>
    unfold ls_pv at h
    split at h
    · cases h; exact List.mem_cons_self
    · exact List.mem_cons_of_mem _ (ih h)
theorem ts_pv_lv {s : ts_S} {n m : Nat} (hok : fo_ok (ts_L s)) (h : ts_pv s n = some m) : ts_lv s m := by
  unfold ts_pv at h
  cases hp : ts_pa s n with
  | none => rw [hp] at h; cases h
  | some p =>
    rw [hp] at h
    exact (fo_p_mem (fo_k_of hok (ls_pv_mem h))).1
def ts_new (s : ts_S) (k m : Nat) : ts_S := (ts_m s + 1, fo_nw (ts_L s) (ts_m s), (fun n => if n = ts_m s then k else ts_kd s n), (fun n => if n = ts_m s then m else ts_ms s n), ts_wy s, (fun n => if n = ts_m s then false else ts_cl s n), (fun n => if n = ts_m s then false else ts_cr s n), (fun n => if n = ts_m s then k == 0 else ts_sh s n), (fun n r => if n = ts_m s then false else ts_sp s n r), ts_t s, ts_ch s)
def sp_thing (s : ts_S) (v w : Int32) : Int32 × ts_S := if v < 0 ∨ 6 < v ∨ w < 0 ∨ 9 < w then (-2, s) else if ts_m s = 20 then (-5, s) else (nI (ts_m s), ts_new s v.toNatClampNeg w.toNatClampNeg)
variable {X : Nat} {ad : Nat → Option Nat} {s : ts_S} {M : am_M} {K : Option am_V → am_M → Prop} {n a : Nat}
theorem ts_new_nl (hs : ts_ok s) : ts_m s ∉ (ts_L s).map (·.1) := fun q => Nat.lt_irrefl _ (hs.2.1 _ q)
theorem ts_ok_new (hs : ts_ok s) (hm : ts_m s ≠ 20) {k m : Nat} (hk : k < 7) (hmm : m ≤ 9) : ts_ok (ts_new s k m) := by
  obtain ⟨u1, u2, u3, u4⟩ := fo_new hs.1 (ts_new_nl hs)
  have h20 := hs.2.2.1
  refine ⟨u1, fun x hx => ?_, (show ts_m s + 1 ≤ 20 by omega), fun x hx => ?_, fun x p hp => ?_⟩
  · show x < ts_m s + 1
    rcases (u2 x).mp hx with h | h
    · have := hs.2.1 x h; omega
    · omega
  · show (if x = ts_m s then k else ts_kd s x) < 7 ∧ (if x = ts_m s then m else ts_ms s x) ≤ 9 ∧ ((if x = ts_m s then false else ts_cl s x) = true → (if x = ts_m s then k else ts_kd s x) = 2)
    by_cases q : x = ts_m s
    · simp [q, hk, hmm]
    · simp only [q, if_false]
      rcases (u2 x).mp hx with h | h
      · exact hs.2.2.2.1 x h
      · exact absurd h q
  · have hp' : fo_p (ts_L s) x = some p := by rw [← u3 x]; exact hp
    have hx : x ≠ ts_m s := fun q => ts_new_nl hs (q ▸ (fo_p_mem hp').1)
    have hy : p ≠ ts_m s := fun q => ts_new_nl hs (q ▸ (fo_p_mem hp').2)
    have := hs.2.2.2.2 x p hp'
    show (if x = ts_m s then k else ts_kd s x) ≠ 0 ∧ (if x = ts_m s then k else ts_kd s x) ≠ 6 ∧ ((ts_wy s x = 0 ∧ ((if p = ts_m s then k else ts_kd s p) = 0 ∨ (if p = ts_m s then k else ts_kd s p) = 2 ∨ (if p = ts_m s then k else ts_kd s p) = 5)) ∨ (ts_wy s x = 1 ∧ (if p = ts_m s then k else ts_kd s p) = 3) ∨ ((ts_wy s x = 2 ∨ ts_wy s x = 3) ∧ (if p = ts_m s then k else ts_kd s p) = 4) ∨ (ts_wy s x = 4 ∧ (if p = ts_m s then k else ts_kd s p) ≠ 0 ∧ (if p = ts_m s then k else ts_kd s p) ≠ 6))
    simp only [hx, hy, if_false]
    exact this
-- a frame with a new cell
def fx_n (P : Nat → Prop) (M M' : am_M) : Prop := (∀ b, ¬ P b → (∀ j, am_mi M' b j = am_mi M b j) ∧ ∀ j, am_mr M' b j = am_mr M b j) ∧ am_sz M ≤ am_sz M' ∧ am_sz M' ≤ am_sz M + 1 ∧ am_sl M' ≤ am_sl M + 13 ∧ am_L M' = am_L M
theorem fx_n_of {P : Nat → Prop} {M M' : am_M} (h : fx_f P M M') : fx_n P M M' := ⟨h.1, Nat.le_of_eq h.2.1.symm, by rw [h.2.1]; omega, by rw [h.2.2.1]; omega, h.2.2.2⟩
def ad_new (ad : Nat → Option Nat) (m z : Nat) : Nat → Option Nat := fun n => if n = m then some z else ad n
theorem wT_new_1b {l0 l1 l2 l3 : am_V} {k : Nat} : am_wp yT_new 1 [l0, l1, l2, l3] (.inr (.inl (k, some a)) :: []) M K = am_wp yT_new 4 [l0, l1, l2, l3] [] M K := wT_new_1 (q := (k, none))
theorem cT_new (z : Nat) (v0 v2 : Int32) {k : Nat} (hk : k < 1000) : am_wp yT_new 0 [.inr (.inl (2, some z)), .inl v0, .inl (nI k), .inl v2] [] M K = K none (am_si (am_si (am_si (am_si (am_si M z 0 v0) z 1 (nI k)) z 2 v2) z 4 (-8)) z 11 (am_b (k == 0))) := by
  simp only [wT_new_0, wT_new_4, wT_new_5, wT_new_6, wT_new_9, wT_new_10, wT_new_11, wT_new_14, wT_new_15, wT_new_16, wT_new_19, wT_new_20, wT_new_22, wT_new_25, wT_new_26, wT_new_27, wT_new_30, wT_new_31, wT_new_34, wT_new_38, wT_new_1b, nk0 hk]
  by_cases c : k = 0
  · simp [c, wT_new_35, wT_new_38, am_b]
  · simp [c, wT_new_35, wT_new_38, am_b]
theorem cX_thing (h : cp X ad s M) (hs : ts_ok s) (hX : X + 20 < am_sz M) (v w : Int32) (hK : ∀ ad' M', cp X ad' (sp_thing s v w).2 M' → fx_n (cxR X) M M' → K (some (.inl (sp_thing s v w).1)) M') : am_wp yX_thing 0 [.inr (.inl (1, some X)), .inl v, .inl w, am_u] [] M K := by
  unfold sp_thing at hK
  have h1 : am_mi M X 3 = nI (ts_m s) := h.2.1
  have h20 := hs.2.2.1
  obtain ⟨⟨s0, s1, s2, s3⟩, -⟩ := id h
  by_cases c : v < 0 ∨ 6 < v ∨ w < 0 ∨ 9 < w
  · rw [if_pos c] at hK
    have := hK ad M h (fx_n_of (fx_f_rf M))
    by_cases c1 : v < 0
    · simpa [wX_thing_0, wX_thing_1, wX_thing_4, wX_thing_5, wX_thing_7, wX_thing_10, wX_thing_11, wX_thing_14, wX_thing_15, wX_thing_17, wX_thing_20, wX_thing_22, wX_thing_23, wX_thing_24, wX_thing_27, wX_thing_30, wX_thing_31, wX_thing_34, wX_thing_35, wX_thing_38, wX_thing_39, wX_thing_42, wX_thing_44, wX_thing_45, wX_thing_46, wX_thing_49, wX_thing_50, wX_thing_51, wX_thing_54, wX_thing_55, wX_thing_58, wX_thing_59, wX_thing_60, wX_thing_61, wX_thing_62, wX_thing_66, wX_thing_67, wX_thing_68, wX_thing_71, wX_thing_72, wX_thing_73, wX_thing_76, wX_thing_77, c1] using this
    · by_cases c2 : 6 < v
      · simpa [wX_thing_0, wX_thing_1, wX_thing_4, wX_thing_5, wX_thing_7, wX_thing_10, wX_thing_11, wX_thing_14, wX_thing_15, wX_thing_17, wX_thing_20, wX_thing_22, wX_thing_23, wX_thing_24, wX_thing_27, wX_thing_30, wX_thing_31, wX_thing_34, wX_thing_35, wX_thing_38, wX_thing_39, wX_thing_42, wX_thing_44, wX_thing_45, wX_thing_46, wX_thing_49, wX_thing_50, wX_thing_51, wX_thing_54, wX_thing_55, wX_thing_58, wX_thing_59, wX_thing_60, wX_thing_61, wX_thing_62, wX_thing_66, wX_thing_67, wX_thing_68, wX_thing_71, wX_thing_72, wX_thing_73, wX_thing_76, wX_thing_77, c1, c2] using this
      · by_cases c3 : w < 0
        · simpa [wX_thing_0, wX_thing_1, wX_thing_4, wX_thing_5, wX_thing_7, wX_thing_10, wX_thing_11, wX_thing_14, wX_thing_15, wX_thing_17, wX_thing_20, wX_thing_22, wX_thing_23, wX_thing_24, wX_thing_27, wX_thing_30, wX_thing_31, wX_thing_34, wX_thing_35, wX_thing_38, wX_thing_39, wX_thing_42, wX_thing_44, wX_thing_45, wX_thing_46, wX_thing_49, wX_thing_50, wX_thing_51, wX_thing_54, wX_thing_55, wX_thing_58, wX_thing_59, wX_thing_60, wX_thing_61, wX_thing_62, wX_thing_66, wX_thing_67, wX_thing_68, wX_thing_71, wX_thing_72, wX_thing_73, wX_thing_76, wX_thing_77, c1, c2, c3] using this
        · have c4 : 9 < w := by simpa [c1, c2, c3] using c
          simpa [wX_thing_0, wX_thing_1, wX_thing_4, wX_thing_5, wX_thing_7, wX_thing_10, wX_thing_11, wX_thing_14, wX_thing_15, wX_thing_17, wX_thing_20, wX_thing_22, wX_thing_23, wX_thing_24, wX_thing_27, wX_thing_30, wX_thing_31, wX_thing_34, wX_thing_35, wX_thing_38, wX_thing_39, wX_thing_42, wX_thing_44, wX_thing_45, wX_thing_46, wX_thing_49, wX_thing_50, wX_thing_51, wX_thing_54, wX_thing_55, wX_thing_58, wX_thing_59, wX_thing_60, wX_thing_61, wX_thing_62, wX_thing_66, wX_thing_67, wX_thing_68, wX_thing_71, wX_thing_72, wX_thing_73, wX_thing_76, wX_thing_77, c1, c2, c3, c4] using this
  · rw [if_neg c] at hK
    have c1 : ¬ v < 0 := fun q => c (Or.inl q)
    have c2 : ¬ 6 < v := fun q => c (Or.inr (Or.inl q))
    have c3 : ¬ w < 0 := fun q => c (Or.inr (Or.inr (Or.inl q)))
    have c4 : ¬ 9 < w := fun q => c (Or.inr (Or.inr (Or.inr q)))
    obtain ⟨k, hk1, rfl⟩ := nI_of c1
    obtain ⟨m, hm1, rfl⟩ := nI_of c3
    have hk : k < 7 := Classical.byContradiction (fun q => c2 ((nI_ltI (a := 6) (b := k) (by decide) hk1).mpr (by omega)))
    have hm : m < 10 := Classical.byContradiction (fun q => c4 ((nI_ltI (a := 9) (b := m) (by decide) hm1).mpr (by omega)))
    rw [nI_clamp hk1, nI_clamp hm1] at hK
    have e1 : ¬ nI (ts_m s) < 0 := nI_pos (by omega)
    by_cases c5 : ts_m s = 20
    · rw [if_pos c5] at hK
      have e2 : ¬ nI (ts_m s) < 20 := fun q => by have := (nI_ltI (a := ts_m s) (b := 20) (by omega) (by decide)).mp q; omega
      simp only [wX_thing_0, wX_thing_1, wX_thing_4, wX_thing_5, wX_thing_7, wX_thing_10, wX_thing_11, wX_thing_14, wX_thing_15, wX_thing_17, wX_thing_20, wX_thing_22, wX_thing_23, wX_thing_24, wX_thing_27, wX_thing_30, wX_thing_31, wX_thing_34, wX_thing_35, wX_thing_38, wX_thing_39, wX_thing_42, wX_thing_44, wX_thing_45, wX_thing_46, wX_thing_49, wX_thing_50, wX_thing_51, wX_thing_54, wX_thing_55, wX_thing_58, wX_thing_59, wX_thing_60, wX_thing_61, wX_thing_62, wX_thing_66, wX_thing_67, wX_thing_68, wX_thing_71, wX_thing_72, wX_thing_73, wX_thing_76, wX_thing_77, c1, c2, c3, c4, e1, e2, h1, s0, if_false]
      exact hK ad M h (fx_n_of (fx_f_rf M))
    · rw [if_neg c5] at hK
      have e2 : nI (ts_m s) < 20 := nI_lt (b := 20) (show ts_m s < 20 by omega) (by decide)
      have zX : ¬ X = am_sz M := by omega
      simp only [wX_thing_0, wX_thing_1, wX_thing_4, wX_thing_5, wX_thing_7, wX_thing_10, wX_thing_11, wX_thing_14, wX_thing_15, wX_thing_17, wX_thing_20, wX_thing_22, wX_thing_23, wX_thing_24, wX_thing_27, wX_thing_30, wX_thing_31, wX_thing_34, wX_thing_35, wX_thing_38, wX_thing_39, wX_thing_42, wX_thing_44, wX_thing_45, wX_thing_46, wX_thing_49, wX_thing_50, wX_thing_51, wX_thing_54, wX_thing_55, wX_thing_58, wX_thing_59, wX_thing_60, wX_thing_61, wX_thing_62, wX_thing_66, wX_thing_67, wX_thing_68, wX_thing_71, wX_thing_72, wX_thing_73, wX_thing_76, wX_thing_77, c1, c2, c3, c4, e1, e2, h1, s0, if_true, if_false]
      rw [cT_new _ _ _ (by omega)]
      simp only [wX_thing_0, wX_thing_1, wX_thing_4, wX_thing_5, wX_thing_7, wX_thing_10, wX_thing_11, wX_thing_14, wX_thing_15, wX_thing_17, wX_thing_20, wX_thing_22, wX_thing_23, wX_thing_24, wX_thing_27, wX_thing_30, wX_thing_31, wX_thing_34, wX_thing_35, wX_thing_38, wX_thing_39, wX_thing_42, wX_thing_44, wX_thing_45, wX_thing_46, wX_thing_49, wX_thing_50, wX_thing_51, wX_thing_54, wX_thing_55, wX_thing_58, wX_thing_59, wX_thing_60, wX_thing_61, wX_thing_62, wX_thing_66, wX_thing_67, wX_thing_68, wX_thing_71, wX_thing_72, wX_thing_73, wX_thing_76, wX_thing_77, true_or, or_true, Option.toList_some, Option.toList_none, List.cons_append, List.nil_append]
      have hok : am_ok (nI (ts_m s)) 20 = true := am_ok_nI (by omega) (by decide)
      simp only [wX_thing_65 hok, wX_thing_0, wX_thing_1, wX_thing_4, wX_thing_5, wX_thing_7, wX_thing_10, wX_thing_11, wX_thing_14, wX_thing_15, wX_thing_17, wX_thing_20, wX_thing_22, wX_thing_23, wX_thing_24, wX_thing_27, wX_thing_30, wX_thing_31, wX_thing_34, wX_thing_35, wX_thing_38, wX_thing_39, wX_thing_42, wX_thing_44, wX_thing_45, wX_thing_46, wX_thing_49, wX_thing_50, wX_thing_51, wX_thing_54, wX_thing_55, wX_thing_58, wX_thing_59, wX_thing_60, wX_thing_61, wX_thing_62, wX_thing_66, wX_thing_67, wX_thing_68, wX_thing_71, wX_thing_72, wX_thing_73, wX_thing_76, wX_thing_77, am_mi_sr, am_mi_si, am_mi_al, zX, false_and, if_false, h1, nI_clamp (show ts_m s < 2 ^ 31 by omega), nI_1]
      obtain ⟨-, g1, g2, g3, g4, g5, g6, g7, g8⟩ := h
      obtain ⟨u1, u2, u3, u4⟩ := fo_new hs.1 (ts_new_nl hs)
      have hnl := ts_new_nl hs
      have adn : ad (ts_m s) = none := by
        cases q : ad (ts_m s) with
        | none => rfl
        | some y => exact absurd ((g6 (ts_m s)).mp (by rw [q]; rfl)) hnl
      have hpa : ∀ x, ts_pa (ts_new s k m) x = ts_pa s x := u3
      have hkk : ∀ x, ts_kk (ts_new s k m) x = ts_kk s x := u4
      have hway : ∀ x, ts_way (ts_new s k m) x = ts_way s x := fun x => by unfold ts_way; rw [hpa]; rfl
      have hnx : ∀ x, ts_nx (ts_new s k m) x = ts_nx s x := fun x => by unfold ts_nx; rw [hpa]; simp only [hkk]
      have hpv : ∀ x, ts_pv (ts_new s k m) x = ts_pv s x := fun x => by unfold ts_pv; rw [hpa]; simp only [hkk]
      have p0 : ts_pa s (ts_m s) = none := by
        cases q : ts_pa s (ts_m s) with
        | none => rfl
        | some y => exact absurd (fo_p_mem q).1 hnl
      have k0 : ts_kk s (ts_m s) = [] := by unfold ts_kk fo_k; rw [fo_sp_none hnl]
      have bnd : ∀ (o : Option Nat), (∀ q, o = some q → ts_lv s q) → o.bind (ad_new ad (ts_m s) (am_sz M)) = o.bind ad := fun o ho => by
        cases o with
        | none => rfl
        | some q =>
          have : q ≠ ts_m s := fun z => hnl (z ▸ ho q rfl)
          simp [ad_new, this]
      have z1 : ¬ X + 1 = am_sz M := by omega
      have z2 : ¬ X + 2 = am_sz M := by omega
      have z3 : ¬ X + 3 = am_sz M := by omega
      have x10 : ¬ X + 1 = X := by omega
      have x01 : ¬ X = X + 1 := by omega
      have x20 : ¬ X + 2 = X := by omega
      have x21 : ¬ X + 2 = X + 1 := by omega
      have x30 : ¬ X + 3 = X := by omega
      have x31 : ¬ X + 3 = X + 1 := by omega
      have y0 : ¬ am_sz M = X := by omega
      have y1 : ¬ am_sz M = X + 1 := by omega
      refine hK (ad_new ad (ts_m s) (am_sz M)) _ ?_ ?_
      · refine ⟨⟨?_, ?_, ?_, ?_⟩, ?_, ?_, ?_, ?_, ?_, ?_, ?_, ?_⟩
        · simpa [am_mr_si, am_mr_sr, am_mr_al, zX, x01] using s0
        · simpa [am_mr_si, am_mr_sr, am_mr_al, zX, x01] using s1
        · simpa [am_mr_si, am_mr_sr, am_mr_al, zX, x01] using s2
        · simpa [am_mr_si, am_mr_sr, am_mr_al, z2, x21] using s3
        · rw [am_mi_si, if_pos ⟨rfl, rfl⟩]; rfl
        · show _ = nI (ts_t s)
          simpa [am_mi_si, am_mi_sr, am_mi_al, z2, x20] using g2
        · intro j hj
          have := g3 j hj
          show _ = ts_ch s j
          simpa [am_mi_si, am_mi_sr, am_mi_al, z3, x30] using this
        · intro j hj
          have := g4 j hj
          by_cases q : j = ts_m s
          · simp [am_mr_si, am_mr_sr, q, ad_new]
          · simp [am_mr_si, am_mr_sr, am_mr_al, z1, q, ad_new, this]
        · intro x b hb
          by_cases q : x = ts_m s
          · have eb : b = am_sz M := by simp [ad_new, q] at hb; exact hb.symm
            subst eb
            subst q
            refine ⟨?_, ?_, ?_, ?_, ?_, ?_, ?_, ?_, ?_, ?_, ?_, ?_, ?_⟩
            · simp [am_mi_si, am_mi_sr, am_mi_al, y0]
            · simp [am_mi_si, am_mi_sr, am_mi_al, y0, ts_new, ts_kd]
            · simp [am_mi_si, am_mi_sr, am_mi_al, y0, ts_new, ts_ms]
            · simp [am_mr_si, am_mr_sr, am_mr_al, y1, hpa, p0]
            · simp [am_mi_si, am_mi_sr, am_mi_al, y0, hway]; unfold ts_way; rw [p0]; rfl
            · simp [am_mr_si, am_mr_sr, am_mr_al, y1, hkk, k0]
            · simp [am_mr_si, am_mr_sr, am_mr_al, y1, hkk, k0]
            · simp [am_mr_si, am_mr_sr, am_mr_al, y1, ts_pv, hpa, p0]
            · simp [am_mr_si, am_mr_sr, am_mr_al, y1, ts_nx, hpa, p0]
            · simp [am_mi_si, am_mi_sr, am_mi_al, y0, ts_new, ts_cl, am_b]
            · simp [am_mi_si, am_mi_sr, am_mi_al, y0, ts_new, ts_cr, am_b]
            · simp [am_mi_si, am_mi_sr, am_mi_al, y0, ts_new, ts_sh]
            · intro r hr
              simp [am_mi_si, am_mi_sr, am_mi_al, y0, ts_new, ts_sp]
          · have hb' : ad x = some b := by simpa [ad_new, q] using hb
            have hbX := g7 x b hb'
            have b0 : ¬ b = X := by omega
            have b1 : ¬ b = X + 1 := by omega
            have b2 : ¬ b = am_sz M := by omega
            obtain ⟨o0, o1, o2, o3, o4, o5, o6, o7, o8, o9, o10, o11, o12⟩ := g5 x b hb'
            have fi : ∀ j, am_mi (am_si (am_sr (am_si (am_si (am_si (am_si (am_si (am_al M 2 13) (am_sz M) 0 (nI (ts_m s))) (am_sz M) 1 (nI k)) (am_sz M) 2 (nI m)) (am_sz M) 4 (-8)) (am_sz M) 11 (am_b (k == 0))) (X + 1) (ts_m s) (some (am_sz M))) X 3 (nI (ts_m s + 1))) b j = am_mi M b j := fun j => by simp [am_mi_si, am_mi_sr, am_mi_al, b0, b2]
            have fr : ∀ j, am_mr (am_si (am_sr (am_si (am_si (am_si (am_si (am_si (am_al M 2 13) (am_sz M) 0 (nI (ts_m s))) (am_sz M) 1 (nI k)) (am_sz M) 2 (nI m)) (am_sz M) 4 (-8)) (am_sz M) 11 (am_b (k == 0))) (X + 1) (ts_m s) (some (am_sz M))) X 3 (nI (ts_m s + 1))) b j = am_mr M b j := fun j => by simp [am_mr_si, am_mr_sr, am_mr_al, b1, b2]
            refine ⟨(fi 0).trans o0, (fi 1).trans ?_, (fi 2).trans ?_, (fr 3).trans ?_, (fi 4).trans ?_, (fr 5).trans ?_, (fr 6).trans ?_, (fr 7).trans ?_, (fr 8).trans ?_, (fi 9).trans ?_, (fi 10).trans ?_, (fi 11).trans ?_, ?_⟩
            · rw [o1]; show _ = nI (if x = ts_m s then k else ts_kd s x); rw [if_neg q]
            · rw [o2]; show _ = nI (if x = ts_m s then m else ts_ms s x); rw [if_neg q]
            · rw [hpa, bnd _ (fun y hy => ts_pa_lv hy)]; exact o3
            · rw [hway]; exact o4
            · rw [hkk, bnd (ts_kk s x).head? (fun y hy => (fo_p_mem (fo_k_of hs.1 (hd_mem hy))).1)]; exact o5
            · rw [hkk, bnd (ts_kk s x).getLast? (fun y hy => (fo_p_mem (fo_k_of hs.1 (List.mem_of_getLast? hy))).1)]; exact o6
            · rw [hpv, bnd _ (fun y hy => ts_pv_lv hs.1 hy)]; exact o7
            · rw [hnx, bnd _ (fun y hy => ts_nx_lv hs.1 hy)]; exact o8
            · rw [o9]; show _ = am_b (if x = ts_m s then false else ts_cl s x); rw [if_neg q]
            · rw [o10]; show _ = am_b (if x = ts_m s then false else ts_cr s x); rw [if_neg q]
            · rw [o11]; show _ = am_b (if x = ts_m s then (k == 0) else ts_sh s x); rw [if_neg q]
            · intro r hr
              rw [fi 12]
              show _ ↔ (if x = ts_m s then false else ts_sp s x r) = false
              rw [if_neg q]
              exact o12 r hr
        · intro x
          have e1 : ts_lv (ts_new s k m) x ↔ ts_lv s x ∨ x = ts_m s := u2 x
          rw [e1]
          by_cases q : x = ts_m s
          · simp [ad_new, q]
          · simp [ad_new, q, g6 x]
        · intro x b hb
          by_cases q : x = ts_m s
          · have eb : b = am_sz M := by simp [ad_new, q] at hb; exact hb.symm
            subst eb
            exact ⟨hX, Nat.lt_succ_self _⟩
          · have hb' : ad x = some b := by simpa [ad_new, q] using hb
            have := g7 x b hb'
            exact ⟨this.1, Nat.lt_succ_of_lt this.2⟩
        · intro x y b hb hb2
          by_cases q : x = ts_m s
          · by_cases q2 : y = ts_m s
            · rw [q, q2]
            · have eb : b = am_sz M := by simp [ad_new, q] at hb; exact hb.symm
              have hb' : ad y = some b := by simpa [ad_new, q2] using hb2
              have := g7 y b hb'
              omega
          · have hb' : ad x = some b := by simpa [ad_new, q] using hb
            by_cases q2 : y = ts_m s
            · have eb : b = am_sz M := by simp [ad_new, q2] at hb2; exact hb2.symm
              have := g7 x b hb'
              omega
            · have hb3 : ad y = some b := by simpa [ad_new, q2] using hb2
              exact g8 x y b hb' hb3
      · refine ⟨fun b hb => ⟨fun j => ?_, fun j => ?_⟩, Nat.le_succ _, Nat.le_refl _, Nat.le_refl _, rfl⟩
        · have b0 : ¬ b = X := fun z => hb (by unfold cxR; omega)
          have b2 : ¬ b = am_sz M := fun z => hb (by unfold cxR; omega)
          simp [am_mi_si, am_mi_sr, am_mi_al, b0, b2]
        · have b1 : ¬ b = X + 1 := fun z => hb (by unfold cxR; omega)
          have b2 : ¬ b = am_sz M := fun z => hb (by unfold cxR; omega)
          simp [am_mr_si, am_mr_sr, am_mr_al, b1, b2]
-- all is forgotten
def ts_clear (s : ts_S) : ts_S := (0, [], s.2.2.1, s.2.2.2.1, s.2.2.2.2.1, s.2.2.2.2.2.1, s.2.2.2.2.2.2.1, s.2.2.2.2.2.2.2.1, s.2.2.2.2.2.2.2.2.1, 0, s.2.2.2.2.2.2.2.2.2.2)
theorem ts_ok_clear (s : ts_S) : ts_ok (ts_clear s) := by
  have e : ts_L (ts_clear s) = [] := rfl
  refine ⟨by rw [e]; exact ⟨List.nodup_nil, trivial⟩, fun n hn => ?_, Nat.zero_le _, fun n hn => ?_, fun n p hp => ?_⟩
  · unfold ts_lv at hn; rw [e] at hn; cases hn
  · unfold ts_lv at hn; rw [e] at hn; cases hn
  · unfold ts_pa at hp; rw [e] at hp; cases hp
theorem cX_clear_l : ∀ (d i : Nat) (M : am_M), i + d = 20 → cp_s X M → (∀ j, j < i → am_mr M (X + 1) j = none) → (∀ M' l1, fx_f (fun b => b = X + 1) M M' → (∀ j, j < 20 → am_mr M' (X + 1) j = none) → cp_s X M' → am_wp yX_clear 24 [.inr (.inl (1, some X)), l1] [] M' K) → am_wp yX_clear 2 [.inr (.inl (1, some X)), .inl (nI i)] [] M K := by
  intro d
  induction d with
  | zero =>
    intro i M hi hs hj hK
    have e : i = 20 := by omega
    subst e
    have e2 : ¬ nI 20 < (20 : Int32) := by decide
    rw [wX_clear_2]
    simp only [wX_clear_0, wX_clear_1, wX_clear_3, wX_clear_4, wX_clear_7, wX_clear_8, wX_clear_11, wX_clear_12, wX_clear_15, wX_clear_16, wX_clear_18, wX_clear_21, wX_clear_25, wX_clear_26, wX_clear_29, wX_clear_30, wX_clear_33, wX_clear_36, hs.1, e2, if_false]
    exact hK M _ (fx_f_rf M) hj hs
  | succ d ih =>
    intro i M hi hs hj hK
    have e2 : nI i < (20 : Int32) := nI_lt (b := 20) (show i < 20 by omega) (by decide)
    rw [wX_clear_2]
    simp only [wX_clear_0, wX_clear_1, wX_clear_3, wX_clear_4, wX_clear_7, wX_clear_8, wX_clear_11, wX_clear_12, wX_clear_15, wX_clear_16, wX_clear_18, wX_clear_21, wX_clear_25, wX_clear_26, wX_clear_29, wX_clear_30, wX_clear_33, wX_clear_36, hs.1, e2, if_true, wX_clear_17 (am_ok_nI (show i < 20 by omega) (by decide)), nI_clamp (show i < 2 ^ 31 by omega), nI_1]
    have x01 : ¬ X = X + 1 := by omega
    have x21 : ¬ X + 2 = X + 1 := by omega
    refine ih (i + 1) _ (by omega) ?_ ?_ ?_
    · obtain ⟨s0, s1, s2, s3⟩ := hs
      refine ⟨?_, ?_, ?_, ?_⟩
      · rw [am_mr_sr, if_neg (fun q => x01 q.1)]; exact s0
      · rw [am_mr_sr, if_neg (fun q => x01 q.1)]; exact s1
      · rw [am_mr_sr, if_neg (fun q => x01 q.1)]; exact s2
      · rw [am_mr_sr, if_neg (fun q => x21 q.1)]; exact s3
    · intro j hj2
      rw [am_mr_sr]
      by_cases q : j = i
      · simp [q]
      · simp [q, hj j (by omega)]
    · intro M' l1 f1 g1 g2
      exact hK M' l1 (fx_f_tr (fx_f_sr rfl) f1) g1 g2
theorem cX_clear (h : cp X ad s M) (hK : ∀ M', cp X (fun _ => none) (ts_clear s) M' → fx_f (cxR X) M M' → K none M') : am_wp yX_clear 0 [.inr (.inl (1, some X)), am_u] [] M K := by
  rw [wX_clear_0, wX_clear_1, show (0 : Int32) = nI 0 from rfl]
  refine cX_clear_l 20 0 M (by omega) h.1 (fun j hj => by omega) (fun M1 l1 f1 g1 g2 => ?_)
  obtain ⟨s0, s1, s2, s3⟩ := g2
  have x20 : ¬ X + 2 = X := by omega
  have x02 : ¬ X = X + 2 := by omega
  have x30 : ¬ X + 3 = X := by omega
  have x32 : ¬ X + 3 = X + 2 := by omega
  simp only [wX_clear_0, wX_clear_1, wX_clear_3, wX_clear_4, wX_clear_7, wX_clear_8, wX_clear_11, wX_clear_12, wX_clear_15, wX_clear_16, wX_clear_17, wX_clear_18, wX_clear_21, wX_clear_24, wX_clear_25, wX_clear_26, wX_clear_29, wX_clear_30, wX_clear_33, wX_clear_36, wC_forget_0, wC_forget_1, wC_forget_2, wC_forget_5, true_or, or_true, Option.toList_some, Option.toList_none, List.cons_append, List.nil_append, am_mr_si, s1]
  have f2 : fx_f (cxR X) M (am_si (am_si M1 X 3 0) (X + 2) 1 0) := fx_f_tr (fx_f_tr (fx_f_to f1 (fun b hb => by unfold cxR; omega)) (fx_f_si (by unfold cxR; omega))) (fx_f_si (by unfold cxR; omega))
  refine hK _ ⟨⟨s0, s1, s2, s3⟩, ?_, ?_, ?_, ?_, ?_, ?_, ?_, ?_⟩ f2
  · simp [am_mi_si, x02]; rfl
  · simp [am_mi_si]; rfl
  · intro j hj
    have := h.2.2.2.1 j hj
    rw [am_mi_si, if_neg (fun q => x32 q.1), am_mi_si, if_neg (fun q => x30 q.1), (f1.1 (X + 3) (by omega)).1, this]
    rfl
  · exact g1
  · intro n a ha; cases ha
  · intro n
    constructor
    · intro q; cases q
    · intro q; cases q
  · intro n a ha; cases ha
  · intro n m a ha; cases ha
end CN2
