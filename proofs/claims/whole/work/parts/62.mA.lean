-- THE REFERENCE: thing, clear
section MA
variable {N : Nat} {s : ts_S} {M M' : am_M} {K : Option am_V → am_M → Prop} {n m z : Nat} {v w : Int32}
def th_M (N m z : Nat) (v w : Int32) (M : am_M) : am_M := am_si (am_si (am_si (am_si (am_si (am_si (am_si (am_si (am_si (am_si (am_si (am_si M N 1 (nI (m + 1))) (N + 3) m v) (N + 4) m w) (N + 5) m (-1)) (N + 6) m 0) (N + 7) m 0) (N + 8) m 0) (N + 9) m 0) (N + 10) m 0) (N + 1) z (nI m)) (N + 2) z 0) N 4 (nI (z + 1))
theorem si_4 {a k : Nat} {x : Int32} (h : N ≠ a) : am_mi (am_si M a k x) N 4 = am_mi M N 4 := by rw [am_mi_si, if_neg (fun q => h q.1)]
theorem si_41 {x : Int32} : am_mi (am_si M N 1 x) N 4 = am_mi M N 4 := by rw [am_mi_si, if_neg (by omega)]
theorem mM_thing_w (hp : mp_s N M) (h1 : am_mi M N 1 = nI m) (h4 : am_mi M N 4 = nI z) (hm : m < 20) (hz : z < 20) (l3 : am_V) : am_wp yM_thing 40 [.inr (.inl (4, some N)), .inl v, .inl w, l3] [] M K = K (some (.inl (nI m))) (th_M N m z v w M) := by
  unfold mp_s at hp
  simp only [wM_thing_0, wM_thing_1, wM_thing_2, wM_thing_5, wM_thing_6, wM_thing_9, wM_thing_10, wM_thing_12, wM_thing_15, wM_thing_16, wM_thing_19, wM_thing_20, wM_thing_22, wM_thing_25, wM_thing_27, wM_thing_28, wM_thing_29, wM_thing_32, wM_thing_34, wM_thing_37, wM_thing_39, wM_thing_40, wM_thing_41, wM_thing_44, wM_thing_45, wM_thing_46, wM_thing_47, wM_thing_50, wM_thing_51, wM_thing_52, wM_thing_55, wM_thing_56, wM_thing_59, wM_thing_60, wM_thing_62, wM_thing_63, wM_thing_66, wM_thing_67, wM_thing_69, wM_thing_70, wM_thing_73, wM_thing_74, wM_thing_76, wM_thing_77, wM_thing_80, wM_thing_81, wM_thing_83, wM_thing_84, wM_thing_87, wM_thing_88, wM_thing_90, wM_thing_91, wM_thing_94, wM_thing_95, wM_thing_97, wM_thing_98, wM_thing_101, wM_thing_102, wM_thing_104, wM_thing_105, wM_thing_108, wM_thing_109, wM_thing_111, wM_thing_112, wM_thing_115, wM_thing_116, wM_thing_119, wM_thing_121, wM_thing_122, wM_thing_125, wM_thing_126, wM_thing_129, wM_thing_131, wM_thing_132, wM_thing_133, wM_thing_136, wM_thing_137, wM_thing_138, wM_thing_141, wM_thing_142, h1, am_mr_si, hp, nI_1, si_41, h4,
    si_4 (show N ≠ N + 1 by omega), si_4 (show N ≠ N + 2 by omega), si_4 (show N ≠ N + 3 by omega), si_4 (show N ≠ N + 4 by omega), si_4 (show N ≠ N + 5 by omega), si_4 (show N ≠ N + 6 by omega), si_4 (show N ≠ N + 7 by omega), si_4 (show N ≠ N + 8 by omega), si_4 (show N ≠ N + 9 by omega), si_4 (show N ≠ N + 10 by omega),
    wM_thing_61 (am_ok_nI hm (by decide)), wM_thing_68 (am_ok_nI hm (by decide)), wM_thing_75 (am_ok_nI hm (by decide)), wM_thing_82 (am_ok_nI hm (by decide)) (Or.inl rfl), wM_thing_89 (am_ok_nI hm (by decide)) (Or.inl rfl), wM_thing_96 (am_ok_nI hm (by decide)) (Or.inl rfl), wM_thing_103 (am_ok_nI hm (by decide)) (Or.inl rfl), wM_thing_110 (am_ok_nI hm (by decide)), wM_thing_120 (am_ok_nI hz (by decide)), wM_thing_130 (am_ok_nI hz (by decide)), nI_clamp (show m < 2 ^ 31 by omega), nI_clamp (show z < 2 ^ 31 by omega)]
  rfl
theorem fx_ex {P : Nat → Prop} {M1 : am_M} {a k : Nat} {x : Int32} (h : fx_f P M M1) (hp : P a) : fx_f P M (am_si M1 a k x) := fx_f_tr h (fx_f_si hp)
theorem th_f : fx_f (mxR N) M (th_M N m z v w M) := by
  have g : ∀ b, N ≤ b ∧ b ≤ N + 10 → mxR N b := fun b hb => by unfold mxR; omega
  unfold th_M
  iterate 12 (refine fx_ex ?_ (g _ (by omega)))
  exact fx_f_rf M
theorem th_a : am_mi (th_M N m z v w M) N 1 = nI (m + 1) ∧ am_mi (th_M N m z v w M) N 4 = nI (z + 1) ∧ am_mi (th_M N m z v w M) N 15 = am_mi M N 15 := by
  refine ⟨?_, ?_, ?_⟩ <;> simp [th_M, am_mi_si]
theorem th_b (x : Nat) : am_mi (th_M N m z v w M) (N + 1) x = (if x = z then nI m else am_mi M (N + 1) x) ∧ am_mi (th_M N m z v w M) (N + 2) x = (if x = z then 0 else am_mi M (N + 2) x) ∧ am_mi (th_M N m z v w M) (N + 12) x = am_mi M (N + 12) x := by
  refine ⟨?_, ?_, ?_⟩ <;> simp [th_M, am_mi_si]
theorem th_c (x : Nat) : am_mi (th_M N m z v w M) (N + 3) x = (if x = m then v else am_mi M (N + 3) x) ∧ am_mi (th_M N m z v w M) (N + 4) x = (if x = m then w else am_mi M (N + 4) x) ∧ am_mi (th_M N m z v w M) (N + 5) x = (if x = m then -1 else am_mi M (N + 5) x) ∧ am_mi (th_M N m z v w M) (N + 6) x = (if x = m then 0 else am_mi M (N + 6) x) ∧ am_mi (th_M N m z v w M) (N + 7) x = (if x = m then 0 else am_mi M (N + 7) x) ∧ am_mi (th_M N m z v w M) (N + 8) x = (if x = m then 0 else am_mi M (N + 8) x) ∧ am_mi (th_M N m z v w M) (N + 9) x = (if x = m then 0 else am_mi M (N + 9) x) ∧ am_mi (th_M N m z v w M) (N + 10) x = (if x = m then 0 else am_mi M (N + 10) x) := by
  refine ⟨?_, ?_, ?_, ?_, ?_, ?_, ?_, ?_⟩ <;> simp [th_M, am_mi_si]
theorem rb_0 (r : Nat) : rb 0 r = false := by simp [rb]
theorem mp_new (h : mp N s M) (hs : ts_ok s) {k j : Nat} : mp N (ts_new s k j) (th_M N (ts_m s) (ts_L s).length (nI k) (nI j) M) := by
  have hnl := ts_new_nl hs
  obtain ⟨f1, f2, f3, f4⟩ := fo_new hs.1 hnl
  have hsp : mp_s N (th_M N (ts_m s) (ts_L s).length (nI k) (nI j) M) := h.1.1
  refine ⟨⟨hsp, ?_, fun i q hi => ?_⟩, th_a.1, ?_, fun i hi => ?_, fun x hx => ?_⟩
  · rw [th_a.2.1]
    show _ = nI (ts_L s ++ [(ts_m s, 0)]).length
    congr 1
    simp
  · have hi' : (ts_L s ++ [(ts_m s, 0)])[i]? = some q := hi
    rw [(th_b i).1, (th_b i).2.1]
    by_cases c : i = (ts_L s).length
    · rw [if_pos c, if_pos c]
      subst c
      simp at hi'
      subst hi'
      exact ⟨rfl, nI_0.symm⟩
    · rw [if_neg c, if_neg c]
      have hlt := ml_lt hi'
      rw [List.length_append, List.length_singleton] at hlt
      rw [List.getElem?_append_left (by omega)] at hi'
      exact h.1.2.2 i q hi'
  · rw [th_a.2.2]; exact h.2.2.1
  · rw [(th_b i).2.2]; exact h.2.2.2.1 i hi
  · obtain ⟨c3, c4, c5, c6, c7, c8, c9, c10⟩ := th_c (N := N) (M := M) (m := ts_m s) (z := (ts_L s).length) (v := nI k) (w := nI j) x
    unfold mp_o
    rw [c3, c4, c5, c6, c7, c8, c9, c10]
    have hxx : x ∈ (ts_L s).map (·.1) ∨ x = ts_m s := (f2 x).mp hx
    by_cases c : x = ts_m s
    · simp only [if_pos c]
      have e1 : ts_kd (ts_new s k j) x = k := if_pos c
      have e2 : ts_ms (ts_new s k j) x = j := if_pos c
      have e3 : ts_cl (ts_new s k j) x = false := if_pos c
      have e4 : ts_cr (ts_new s k j) x = false := if_pos c
      have e5 : ts_sh (ts_new s k j) x = (k == 0) := if_pos c
      have e6 : ∀ r, ts_sp (ts_new s k j) x r = false := fun r => if_pos c
      rw [e1, e2, e3, e4, e5]
      refine ⟨rfl, rfl, fun p hp => ?_, rfl, rfl, fun z => ?_, fun z => ?_, fun r _ _ => ?_⟩
      · have hp' : fo_p (ts_L s) x = some p := by rw [← f3]; exact hp
        exact absurd (fo_p_mem hp').1 (by rw [c]; exact hnl)
      · simp [z, am_b]
      · simp [z, am_b]
      · rw [e6, rb_0]
    · simp only [if_neg c]
      have e1 : ts_kd (ts_new s k j) x = ts_kd s x := if_neg c
      have e2 : ts_ms (ts_new s k j) x = ts_ms s x := if_neg c
      have e3 : ts_cl (ts_new s k j) x = ts_cl s x := if_neg c
      have e4 : ts_cr (ts_new s k j) x = ts_cr s x := if_neg c
      have e5 : ts_sh (ts_new s k j) x = ts_sh s x := if_neg c
      have e6 : ∀ r, ts_sp (ts_new s k j) x r = ts_sp s x r := fun r => if_neg c
      have o := h.2.2.2.2 x (hxx.resolve_right c)
      rw [e1, e2, e3, e4, e5]
      refine ⟨o.1, o.2.1, fun p hp => o.2.2.1 p (by rw [← hp]; exact (f3 x).symm), o.2.2.2.1, o.2.2.2.2.1, o.2.2.2.2.2.1, o.2.2.2.2.2.2.1, fun r hr hl => ?_⟩
      rw [e6]
      refine o.2.2.2.2.2.2.2 r hr ?_
      rcases hl with q | q
      · rcases (f2 r).mp q with q2 | q2
        · exact Or.inl q2
        · exact Or.inr (by omega)
      · have q' : ts_m s + 1 ≤ r := q
        exact Or.inr (by omega)
theorem mM_thing (h : mp N s M) (hs : ts_ok s) (v w : Int32) (hK : ∀ M', mp N (sp_thing s v w).2 M' → fx_f (mxR N) M M' → K (some (.inl (sp_thing s v w).1)) M') : am_wp yM_thing 0 [.inr (.inl (4, some N)), .inl v, .inl w, am_u] [] M K := by
  have h' := mp_th h
  have f0 : fx_f (mxR N) M (am_si M N 0 0) := fx_th0
  have h20 := hs.2.2.1
  have h1 : am_mi (am_si M N 0 0) N 1 = nI (ts_m s) := h'.2.1
  have e20 : (nI (ts_m s) = 20) = (ts_m s = 20) := propext (nI_eq (a := ts_m s) (b := 20) (by omega) (by decide))
  by_cases c1 : v < 0
  · simpa [wM_thing_0, wM_thing_1, wM_thing_2, wM_thing_5, wM_thing_6, wM_thing_9, wM_thing_10, wM_thing_12, wM_thing_15, wM_thing_16, wM_thing_19, wM_thing_20, wM_thing_22, wM_thing_25, wM_thing_27, wM_thing_28, wM_thing_29, wM_thing_32, wM_thing_34, wM_thing_37, wM_thing_39, wM_thing_41, wM_thing_44, wM_thing_45, wM_thing_46, wM_thing_47, wM_thing_50, wM_thing_51, wM_thing_52, wM_thing_55, wM_thing_56, wM_thing_59, wM_thing_60, wM_thing_62, wM_thing_63, wM_thing_66, wM_thing_67, wM_thing_69, wM_thing_70, wM_thing_73, wM_thing_74, wM_thing_76, wM_thing_77, wM_thing_80, wM_thing_81, wM_thing_83, wM_thing_84, wM_thing_87, wM_thing_88, wM_thing_90, wM_thing_91, wM_thing_94, wM_thing_95, wM_thing_97, wM_thing_98, wM_thing_101, wM_thing_102, wM_thing_104, wM_thing_105, wM_thing_108, wM_thing_109, wM_thing_111, wM_thing_112, wM_thing_115, wM_thing_116, wM_thing_119, wM_thing_121, wM_thing_122, wM_thing_125, wM_thing_126, wM_thing_129, wM_thing_131, wM_thing_132, wM_thing_133, wM_thing_136, wM_thing_137, wM_thing_138, wM_thing_141, wM_thing_142, c1] using sp_gt hK (c := -2) (s' := s) (by simp [sp_thing, c1]) h' f0
  by_cases c2 : 6 < v
  · simpa [wM_thing_0, wM_thing_1, wM_thing_2, wM_thing_5, wM_thing_6, wM_thing_9, wM_thing_10, wM_thing_12, wM_thing_15, wM_thing_16, wM_thing_19, wM_thing_20, wM_thing_22, wM_thing_25, wM_thing_27, wM_thing_28, wM_thing_29, wM_thing_32, wM_thing_34, wM_thing_37, wM_thing_39, wM_thing_41, wM_thing_44, wM_thing_45, wM_thing_46, wM_thing_47, wM_thing_50, wM_thing_51, wM_thing_52, wM_thing_55, wM_thing_56, wM_thing_59, wM_thing_60, wM_thing_62, wM_thing_63, wM_thing_66, wM_thing_67, wM_thing_69, wM_thing_70, wM_thing_73, wM_thing_74, wM_thing_76, wM_thing_77, wM_thing_80, wM_thing_81, wM_thing_83, wM_thing_84, wM_thing_87, wM_thing_88, wM_thing_90, wM_thing_91, wM_thing_94, wM_thing_95, wM_thing_97, wM_thing_98, wM_thing_101, wM_thing_102, wM_thing_104, wM_thing_105, wM_thing_108, wM_thing_109, wM_thing_111, wM_thing_112, wM_thing_115, wM_thing_116, wM_thing_119, wM_thing_121, wM_thing_122, wM_thing_125, wM_thing_126, wM_thing_129, wM_thing_131, wM_thing_132, wM_thing_133, wM_thing_136, wM_thing_137, wM_thing_138, wM_thing_141, wM_thing_142, c1, c2] using sp_gt hK (c := -2) (s' := s) (by simp [sp_thing, c2]) h' f0
  by_cases c3 : w < 0
  · simpa [wM_thing_0, wM_thing_1, wM_thing_2, wM_thing_5, wM_thing_6, wM_thing_9, wM_thing_10, wM_thing_12, wM_thing_15, wM_thing_16, wM_thing_19, wM_thing_20, wM_thing_22, wM_thing_25, wM_thing_27, wM_thing_28, wM_thing_29, wM_thing_32, wM_thing_34, wM_thing_37, wM_thing_39, wM_thing_41, wM_thing_44, wM_thing_45, wM_thing_46, wM_thing_47, wM_thing_50, wM_thing_51, wM_thing_52, wM_thing_55, wM_thing_56, wM_thing_59, wM_thing_60, wM_thing_62, wM_thing_63, wM_thing_66, wM_thing_67, wM_thing_69, wM_thing_70, wM_thing_73, wM_thing_74, wM_thing_76, wM_thing_77, wM_thing_80, wM_thing_81, wM_thing_83, wM_thing_84, wM_thing_87, wM_thing_88, wM_thing_90, wM_thing_91, wM_thing_94, wM_thing_95, wM_thing_97, wM_thing_98, wM_thing_101, wM_thing_102, wM_thing_104, wM_thing_105, wM_thing_108, wM_thing_109, wM_thing_111, wM_thing_112, wM_thing_115, wM_thing_116, wM_thing_119, wM_thing_121, wM_thing_122, wM_thing_125, wM_thing_126, wM_thing_129, wM_thing_131, wM_thing_132, wM_thing_133, wM_thing_136, wM_thing_137, wM_thing_138, wM_thing_141, wM_thing_142, c1, c2, c3] using sp_gt hK (c := -2) (s' := s) (by simp [sp_thing, c3]) h' f0
  by_cases c4 : 9 < w
  · simpa [wM_thing_0, wM_thing_1, wM_thing_2, wM_thing_5, wM_thing_6, wM_thing_9, wM_thing_10, wM_thing_12, wM_thing_15, wM_thing_16, wM_thing_19, wM_thing_20, wM_thing_22, wM_thing_25, wM_thing_27, wM_thing_28, wM_thing_29, wM_thing_32, wM_thing_34, wM_thing_37, wM_thing_39, wM_thing_41, wM_thing_44, wM_thing_45, wM_thing_46, wM_thing_47, wM_thing_50, wM_thing_51, wM_thing_52, wM_thing_55, wM_thing_56, wM_thing_59, wM_thing_60, wM_thing_62, wM_thing_63, wM_thing_66, wM_thing_67, wM_thing_69, wM_thing_70, wM_thing_73, wM_thing_74, wM_thing_76, wM_thing_77, wM_thing_80, wM_thing_81, wM_thing_83, wM_thing_84, wM_thing_87, wM_thing_88, wM_thing_90, wM_thing_91, wM_thing_94, wM_thing_95, wM_thing_97, wM_thing_98, wM_thing_101, wM_thing_102, wM_thing_104, wM_thing_105, wM_thing_108, wM_thing_109, wM_thing_111, wM_thing_112, wM_thing_115, wM_thing_116, wM_thing_119, wM_thing_121, wM_thing_122, wM_thing_125, wM_thing_126, wM_thing_129, wM_thing_131, wM_thing_132, wM_thing_133, wM_thing_136, wM_thing_137, wM_thing_138, wM_thing_141, wM_thing_142, c1, c2, c3, c4] using sp_gt hK (c := -2) (s' := s) (by simp [sp_thing, c4]) h' f0
  simp only [wM_thing_0, wM_thing_1, wM_thing_2, wM_thing_5, wM_thing_6, wM_thing_9, wM_thing_10, wM_thing_12, wM_thing_15, wM_thing_16, wM_thing_19, wM_thing_20, wM_thing_22, wM_thing_25, wM_thing_27, wM_thing_28, wM_thing_29, wM_thing_32, wM_thing_34, wM_thing_37, wM_thing_39, wM_thing_41, wM_thing_44, wM_thing_45, wM_thing_46, wM_thing_47, wM_thing_50, wM_thing_51, wM_thing_52, wM_thing_55, wM_thing_56, wM_thing_59, wM_thing_60, wM_thing_62, wM_thing_63, wM_thing_66, wM_thing_67, wM_thing_69, wM_thing_70, wM_thing_73, wM_thing_74, wM_thing_76, wM_thing_77, wM_thing_80, wM_thing_81, wM_thing_83, wM_thing_84, wM_thing_87, wM_thing_88, wM_thing_90, wM_thing_91, wM_thing_94, wM_thing_95, wM_thing_97, wM_thing_98, wM_thing_101, wM_thing_102, wM_thing_104, wM_thing_105, wM_thing_108, wM_thing_109, wM_thing_111, wM_thing_112, wM_thing_115, wM_thing_116, wM_thing_119, wM_thing_121, wM_thing_122, wM_thing_125, wM_thing_126, wM_thing_129, wM_thing_131, wM_thing_132, wM_thing_133, wM_thing_136, wM_thing_137, wM_thing_138, wM_thing_141, wM_thing_142, c1, c2, c3, c4, if_false, h1, e20]
  by_cases c5 : ts_m s = 20
  · rw [if_pos c5]
    exact sp_gt hK (by simp [sp_thing, c1, c2, c3, c4, c5]) h' f0
  · rw [if_neg c5]
    obtain ⟨k, hk, rfl⟩ := nI_of c1
    obtain ⟨j, hj, rfl⟩ := nI_of c3
    have hlen : (ts_L s).length ≤ ts_m s := fo_len hs.1 (fun n hn => hs.2.1 n hn)
    rw [mM_thing_w h'.1.1 h1 h'.1.2.1 (by omega) (by omega)]
    exact sp_gt hK (by simp [sp_thing, c1, c2, c3, c4, c5, nI_clamp hk, nI_clamp hj]) (mp_new h' hs) (fx_f_tr f0 th_f)
theorem mM_clear (h : mp N s M) (hK : ∀ M', mp N (ts_clear s) M' → fx_f (mxR N) M M' → K none M') : am_wp yM_clear 0 [.inr (.inl (4, some N))] [] M K := by
  simp only [wM_clear_0, wM_clear_1, wM_clear_2, wM_clear_5, wM_clear_6, wM_clear_7, wM_clear_10, wM_clear_11, wM_clear_12, wM_clear_15, wM_clear_16, wM_clear_17, wM_clear_20]
  have g : ∀ b, N ≤ b ∧ b ≤ N + 10 → mxR N b := fun b hb => by unfold mxR; omega
  refine hK _ ⟨⟨h.1.1, ?_, fun j q hj => ?_⟩, ?_, ?_, fun j hj => ?_, fun x hx => ?_⟩ (fx_f_tr (fx_f_tr (fx_f_tr (fx_f_si (g _ (by omega))) (fx_f_si (g _ (by omega)))) (fx_f_si (g _ (by omega)))) (fx_f_si (g _ (by omega))))
  · simp [am_mi_si]; exact nI_0.symm
  · have hj' : ([] : fo_L)[j]? = some q := hj
    simp at hj'
  · simp [am_mi_si]; exact nI_0.symm
  · simp [am_mi_si]; exact nI_0.symm
  · have := h.2.2.2.1 j hj
    have e : ts_ch (ts_clear s) j = ts_ch s j := rfl
    rw [e]
    simpa [am_mi_si] using this
  · have hx' : x ∈ ([] : fo_L).map (·.1) := hx
    simp at hx'
end MA
