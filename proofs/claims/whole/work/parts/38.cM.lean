-- A THING COMES TO A HOLDER, OR TO NOWHERE
section CM
variable {X : Nat} {aT ad : Nat → Option Nat} {s : ts_S} {M M' : am_M} {K : Option am_V → am_M → Prop} {n a : Nat}
theorem out_root (hok : fo_ok (ts_L s)) (hn : ts_lv s n) (hp : ts_pa s n = none) : (∀ x, fo_p (fo_out (ts_L s) n) x = ts_pa s x) ∧ ∀ x, fo_k (fo_out (ts_L s) n) x = ts_kk s x := by
  obtain ⟨u1, u2, u3, u4⟩ := fo_out_ok hok hn
  refine ⟨fun x => ?_, fun x => ?_⟩
  · rw [u3 x]
    by_cases q : x = n
    · rw [if_pos q, q, hp]
    · rw [if_neg q]; rfl
  · rw [u4 x, List.erase_of_not_mem]
    · rfl
    · intro q
      have := fo_k_of hok q
      rw [show fo_p (ts_L s) n = ts_pa s n from rfl, hp] at this
      cases this
theorem cp_same {L : fo_L} (h : cg X aT ad s M) (hmem : ∀ x, x ∈ L.map (·.1) ↔ ts_lv s x) (h1 : ∀ x, fo_p L x = ts_pa s x) (h2 : ∀ x, fo_k L x = ts_kk s x) : cg X aT ad (ts_setL s L) M := by
  refine cp_re h hmem (fx_f_rf M) (fun _ _ _ => rfl) (fun m b hb => ?_)
  obtain ⟨o0, o1, o2, o3, o4, o5, o6, o7, o8, -⟩ := cp_at h hb
  have e1 : ts_pa (ts_setL s L) m = ts_pa s m := h1 m
  have e2 : ∀ x, ts_kk (ts_setL s L) x = ts_kk s x := h2
  refine ⟨by rw [h1]; exact o3, ?_, by rw [h2]; exact o5, by rw [h2]; exact o6, ?_, ?_⟩
  · rw [o4]
    unfold ts_way
    rw [e1]
    rfl
  · rw [o7]
    unfold ts_pv
    rw [e1]
    simp only [e2]
  · rw [o8]
    unfold ts_nx
    rw [e1]
    simp only [e2]
theorem cT_unlink (h : cg X aT ad s M) (hs : ts_ok s) (ha : ad n = some a) (hK : ∀ M', cg X aT ad (ts_setL s (fo_out (ts_L s) n)) M' → fx_f (fun b => ∃ m, ad m = some b) M M' → K none M') : am_wp yT_unlink 0 [.inr (.inl (2, some a))] [] M K := by
  obtain ⟨o0, o1, o2, o3, o4, o5, o6, o7, o8, -⟩ := cp_at h ha
  have hln : ts_lv s n := cp_lv h ha
  cases hp : ts_pa s n with
  | none =>
    obtain ⟨r1, r2⟩ := out_root hs.1 hln hp
    have := hK M (cp_same h (fo_out_ok hs.1 hln).2.1 r1 r2) (fx_f_rf M)
    simp [wT_unlink_0, wT_unlink_1, wT_unlink_4, wT_unlink_7, wT_unlink_8, wT_unlink_9, wT_unlink_12, wT_unlink_15, wT_unlink_16, wT_unlink_19, wT_unlink_20, wT_unlink_23, wT_unlink_26, wT_unlink_29, wT_unlink_30, wT_unlink_33, wT_unlink_34, wT_unlink_37, wT_unlink_40, wT_unlink_41, wT_unlink_44, wT_unlink_47, wT_unlink_48, wT_unlink_51, wT_unlink_52, wT_unlink_55, wT_unlink_58, wT_unlink_61, wT_unlink_62, wT_unlink_65, wT_unlink_66, wT_unlink_69, wT_unlink_72, wT_unlink_73, wT_unlink_74, wT_unlink_77, wT_unlink_78, wT_unlink_80, wT_unlink_83, wT_unlink_84, wT_unlink_85, wT_unlink_88, wT_unlink_89, wT_unlink_90, wT_unlink_93, o3, hp, this]
  | some p =>
    obtain ⟨ap, hap⟩ := cp_ex h (ts_pa_lv hp)
    obtain ⟨l1, l2, hk⟩ := List.append_of_mem (fo_k_in hs.1 hp)
    have hk' : ts_kk s p = l1 ++ n :: l2 := hk
    have hnd := fo_k_nd hs.1 p
    rw [hk] at hnd
    have hn1 : n ∉ l1 := fun q => (List.nodup_append.mp hnd).2.2 n q n List.mem_cons_self rfl
    have hn2 : n ∉ l2 := (List.nodup_cons.mp (List.nodup_append.mp hnd).2.1).1
    have v7 : ts_pv s n = l1.getLast? := by unfold ts_pv; rw [hp]; show ls_pv (ts_kk s p) n = _; rw [hk']; exact ls_pv_at _ _ hnd
    have v8 : ts_nx s n = l2.head? := by unfold ts_nx; rw [hp]; show ls_nx (ts_kk s p) n = _; rw [hk']; exact ls_nx_at hn1
    rw [v7] at o7
    rw [v8] at o8
    rw [hp, Option.bind_some, hap] at o3
    have inj : ∀ m b, ad m = some b → m ≠ n → ¬ a = b := fun m b hb hne q => hne (h.2.2.2.2.2.2.2.2 m n b hb (by rw [← q]; exact ha))
    have hpn : p ≠ n := fun q => by subst q; have := fo_p_deep hs.1 hp; omega
    have a_ap := inj p ap hap hpn
    cases hl1 : l1.getLast? with
    | none =>
      have e1 : l1 = [] := List.getLast?_eq_none_iff.mp hl1
      subst e1
      rw [hl1, Option.bind_none] at o7
      cases hl2 : l2.head? with
      | none =>
        have e2 : l2 = [] := List.head?_eq_none_iff.mp hl2
        subst e2
        rw [hl2, Option.bind_none] at o8
        simp only [wT_unlink_0, wT_unlink_1, wT_unlink_4, wT_unlink_7, wT_unlink_8, wT_unlink_9, wT_unlink_12, wT_unlink_15, wT_unlink_16, wT_unlink_19, wT_unlink_20, wT_unlink_23, wT_unlink_26, wT_unlink_29, wT_unlink_30, wT_unlink_33, wT_unlink_34, wT_unlink_37, wT_unlink_40, wT_unlink_41, wT_unlink_44, wT_unlink_47, wT_unlink_48, wT_unlink_51, wT_unlink_52, wT_unlink_55, wT_unlink_58, wT_unlink_61, wT_unlink_62, wT_unlink_65, wT_unlink_66, wT_unlink_69, wT_unlink_72, wT_unlink_73, wT_unlink_74, wT_unlink_77, wT_unlink_78, wT_unlink_80, wT_unlink_83, wT_unlink_84, wT_unlink_85, wT_unlink_88, wT_unlink_89, wT_unlink_90, wT_unlink_93, o3, o7, o8, reduceCtorEq, if_true, if_false, am_mr_sr, a_ap, false_and]
        refine hK _ (unl_post h hs ha hp hap hk' ?_ ?_ ?_ ?_ ?_ ?_ ?_ ?_) ?_
        · exact fx_f_tr (fx_f_tr (fx_f_tr (fx_f_tr (fx_f_tr (fx_f_sr ⟨p, hap⟩) (fx_f_sr ⟨p, hap⟩)) (fx_f_sr ⟨n, ha⟩)) (fx_f_si ⟨n, ha⟩)) (fx_f_sr ⟨n, ha⟩)) (fx_f_sr ⟨n, ha⟩)
        · intro b j hj; simp [am_mi_si, am_mi_sr, hj]
        · intro b; by_cases q : b = a <;> simp [am_mr_sr, am_mr_si, q]
        · intro b; by_cases q : b = a <;> simp [am_mi_sr, am_mi_si, q]
        · intro b; by_cases q : b = ap <;> simp [am_mr_sr, am_mr_si, q]
        · intro b; by_cases q : b = ap <;> simp [am_mr_sr, am_mr_si, q]
        · intro b; by_cases q : b = a <;> simp [am_mr_sr, am_mr_si, q]
        · intro b; by_cases q : b = a <;> simp [am_mr_sr, am_mr_si, q]
        · exact fx_f_tr (fx_f_tr (fx_f_tr (fx_f_tr (fx_f_tr (fx_f_sr ⟨p, hap⟩) (fx_f_sr ⟨p, hap⟩)) (fx_f_sr ⟨n, ha⟩)) (fx_f_si ⟨n, ha⟩)) (fx_f_sr ⟨n, ha⟩)) (fx_f_sr ⟨n, ha⟩)
      | some y =>
        obtain ⟨ay, hay⟩ := cp_ex h (fo_p_mem (fo_k_of hs.1 (by rw [hk]; exact List.mem_append_right _ (List.mem_cons_of_mem _ (hd_mem hl2))))).1
        have hyn : y ≠ n := fun q => hn2 (by rw [← q]; exact hd_mem hl2)
        have a_ay := inj y ay hay hyn
        have e2 : ¬ l2 = [] := fun q => by rw [q] at hl2; cases hl2
        rw [hl2, Option.bind_some, hay] at o8
        simp only [wT_unlink_0, wT_unlink_1, wT_unlink_4, wT_unlink_7, wT_unlink_8, wT_unlink_9, wT_unlink_12, wT_unlink_15, wT_unlink_16, wT_unlink_19, wT_unlink_20, wT_unlink_23, wT_unlink_26, wT_unlink_29, wT_unlink_30, wT_unlink_33, wT_unlink_34, wT_unlink_37, wT_unlink_40, wT_unlink_41, wT_unlink_44, wT_unlink_47, wT_unlink_48, wT_unlink_51, wT_unlink_52, wT_unlink_55, wT_unlink_58, wT_unlink_61, wT_unlink_62, wT_unlink_65, wT_unlink_66, wT_unlink_69, wT_unlink_72, wT_unlink_73, wT_unlink_74, wT_unlink_77, wT_unlink_78, wT_unlink_80, wT_unlink_83, wT_unlink_84, wT_unlink_85, wT_unlink_88, wT_unlink_89, wT_unlink_90, wT_unlink_93, o3, o7, o8, reduceCtorEq, if_true, if_false, am_mr_sr, a_ap, a_ay, false_and]
        refine hK _ (unl_post h hs ha hp hap hk' ?_ ?_ ?_ ?_ ?_ ?_ ?_ ?_) ?_
        · exact fx_f_tr (fx_f_tr (fx_f_tr (fx_f_tr (fx_f_tr (fx_f_sr ⟨p, hap⟩) (fx_f_sr ⟨y, hay⟩)) (fx_f_sr ⟨n, ha⟩)) (fx_f_si ⟨n, ha⟩)) (fx_f_sr ⟨n, ha⟩)) (fx_f_sr ⟨n, ha⟩)
        · intro b j hj; simp [am_mi_si, am_mi_sr, hj]
        · intro b; by_cases q : b = a <;> simp [am_mr_sr, am_mr_si, q]
        · intro b; by_cases q : b = a <;> simp [am_mi_sr, am_mi_si, q]
        · intro b; by_cases q : b = ap <;> simp [am_mr_sr, am_mr_si, q, hl2, hay]
        · intro b; by_cases q : b = ap <;> simp [am_mr_sr, am_mr_si, q, e2]
        · intro b
          by_cases q : b = a
          · simp [am_mr_sr, am_mr_si, q]
          · by_cases q2 : b = ay
            · simp [am_mr_sr, am_mr_si, q2, hl2, hay]
            · simp [am_mr_sr, am_mr_si, q, q2, Ne.symm q2, hl2, hay]
        · intro b; by_cases q : b = a <;> simp [am_mr_sr, am_mr_si, q]
        · exact fx_f_tr (fx_f_tr (fx_f_tr (fx_f_tr (fx_f_tr (fx_f_sr ⟨p, hap⟩) (fx_f_sr ⟨y, hay⟩)) (fx_f_sr ⟨n, ha⟩)) (fx_f_si ⟨n, ha⟩)) (fx_f_sr ⟨n, ha⟩)) (fx_f_sr ⟨n, ha⟩)
    | some x =>
      obtain ⟨ax, hax⟩ := cp_ex h (fo_p_mem (fo_k_of hs.1 (by rw [hk]; exact List.mem_append_left _ (List.mem_of_getLast? hl1)))).1
      have hxn : x ≠ n := fun q => hn1 (by rw [← q]; exact List.mem_of_getLast? hl1)
      have a_ax := inj x ax hax hxn
      have e1 : ¬ l1 = [] := fun q => by rw [q] at hl1; cases hl1
      rw [hl1, Option.bind_some, hax] at o7
      cases hl2 : l2.head? with
      | none =>
        have e2 : l2 = [] := List.head?_eq_none_iff.mp hl2
        subst e2
        rw [hl2, Option.bind_none] at o8
        simp only [wT_unlink_0, wT_unlink_1, wT_unlink_4, wT_unlink_7, wT_unlink_8, wT_unlink_9, wT_unlink_12, wT_unlink_15, wT_unlink_16, wT_unlink_19, wT_unlink_20, wT_unlink_23, wT_unlink_26, wT_unlink_29, wT_unlink_30, wT_unlink_33, wT_unlink_34, wT_unlink_37, wT_unlink_40, wT_unlink_41, wT_unlink_44, wT_unlink_47, wT_unlink_48, wT_unlink_51, wT_unlink_52, wT_unlink_55, wT_unlink_58, wT_unlink_61, wT_unlink_62, wT_unlink_65, wT_unlink_66, wT_unlink_69, wT_unlink_72, wT_unlink_73, wT_unlink_74, wT_unlink_77, wT_unlink_78, wT_unlink_80, wT_unlink_83, wT_unlink_84, wT_unlink_85, wT_unlink_88, wT_unlink_89, wT_unlink_90, wT_unlink_93, o3, o7, o8, reduceCtorEq, if_true, if_false, am_mr_sr, a_ap, a_ax, false_and]
        refine hK _ (unl_post h hs ha hp hap hk' ?_ ?_ ?_ ?_ ?_ ?_ ?_ ?_) ?_
        · exact fx_f_tr (fx_f_tr (fx_f_tr (fx_f_tr (fx_f_tr (fx_f_sr ⟨x, hax⟩) (fx_f_sr ⟨p, hap⟩)) (fx_f_sr ⟨n, ha⟩)) (fx_f_si ⟨n, ha⟩)) (fx_f_sr ⟨n, ha⟩)) (fx_f_sr ⟨n, ha⟩)
        · intro b j hj; simp [am_mi_si, am_mi_sr, hj]
        · intro b; by_cases q : b = a <;> simp [am_mr_sr, am_mr_si, q]
        · intro b; by_cases q : b = a <;> simp [am_mi_sr, am_mi_si, q]
        · intro b; by_cases q : b = ap <;> simp [am_mr_sr, am_mr_si, q, e1]
        · intro b; by_cases q : b = ap <;> simp [am_mr_sr, am_mr_si, q, hl1, hax]
        · intro b; by_cases q : b = a <;> simp [am_mr_sr, am_mr_si, q]
        · intro b
          by_cases q : b = a
          · simp [am_mr_sr, am_mr_si, q]
          · by_cases q2 : b = ax
            · simp [am_mr_sr, am_mr_si, q2, hl1, hax]
            · simp [am_mr_sr, am_mr_si, q, q2, Ne.symm q2, hl1, hax]
        · exact fx_f_tr (fx_f_tr (fx_f_tr (fx_f_tr (fx_f_tr (fx_f_sr ⟨x, hax⟩) (fx_f_sr ⟨p, hap⟩)) (fx_f_sr ⟨n, ha⟩)) (fx_f_si ⟨n, ha⟩)) (fx_f_sr ⟨n, ha⟩)) (fx_f_sr ⟨n, ha⟩)
      | some y =>
        obtain ⟨ay, hay⟩ := cp_ex h (fo_p_mem (fo_k_of hs.1 (by rw [hk]; exact List.mem_append_right _ (List.mem_cons_of_mem _ (hd_mem hl2))))).1
        have hyn : y ≠ n := fun q => hn2 (by rw [← q]; exact hd_mem hl2)
        have a_ay := inj y ay hay hyn
        have e2 : ¬ l2 = [] := fun q => by rw [q] at hl2; cases hl2
        rw [hl2, Option.bind_some, hay] at o8
        simp only [wT_unlink_0, wT_unlink_1, wT_unlink_4, wT_unlink_7, wT_unlink_8, wT_unlink_9, wT_unlink_12, wT_unlink_15, wT_unlink_16, wT_unlink_19, wT_unlink_20, wT_unlink_23, wT_unlink_26, wT_unlink_29, wT_unlink_30, wT_unlink_33, wT_unlink_34, wT_unlink_37, wT_unlink_40, wT_unlink_41, wT_unlink_44, wT_unlink_47, wT_unlink_48, wT_unlink_51, wT_unlink_52, wT_unlink_55, wT_unlink_58, wT_unlink_61, wT_unlink_62, wT_unlink_65, wT_unlink_66, wT_unlink_69, wT_unlink_72, wT_unlink_73, wT_unlink_74, wT_unlink_77, wT_unlink_78, wT_unlink_80, wT_unlink_83, wT_unlink_84, wT_unlink_85, wT_unlink_88, wT_unlink_89, wT_unlink_90, wT_unlink_93, o3, o7, o8, reduceCtorEq, if_true, if_false, am_mr_sr, a_ap, a_ax, a_ay, false_and]
        refine hK _ (unl_post h hs ha hp hap hk' ?_ ?_ ?_ ?_ ?_ ?_ ?_ ?_) ?_
        · exact fx_f_tr (fx_f_tr (fx_f_tr (fx_f_tr (fx_f_tr (fx_f_sr ⟨x, hax⟩) (fx_f_sr ⟨y, hay⟩)) (fx_f_sr ⟨n, ha⟩)) (fx_f_si ⟨n, ha⟩)) (fx_f_sr ⟨n, ha⟩)) (fx_f_sr ⟨n, ha⟩)
        · intro b j hj; simp [am_mi_si, am_mi_sr, hj]
        · intro b; by_cases q : b = a <;> simp [am_mr_sr, am_mr_si, q]
        · intro b; by_cases q : b = a <;> simp [am_mi_sr, am_mi_si, q]
        · intro b; by_cases q : b = ap <;> simp [am_mr_sr, am_mr_si, q, e1]
        · intro b; by_cases q : b = ap <;> simp [am_mr_sr, am_mr_si, q, e2]
        · intro b
          by_cases q : b = a
          · simp [am_mr_sr, am_mr_si, q]
          · by_cases q2 : b = ay
            · simp [am_mr_sr, am_mr_si, q2, hl2, hay, hl1, hax]
            · simp [am_mr_sr, am_mr_si, q, q2, Ne.symm q2, hl2, hay]
        · intro b
          by_cases q : b = a
          · simp [am_mr_sr, am_mr_si, q]
          · by_cases q2 : b = ax
            · simp [am_mr_sr, am_mr_si, q2, hl1, hax, hl2, hay]
            · simp [am_mr_sr, am_mr_si, q, q2, Ne.symm q2, hl1, hax]
        · exact fx_f_tr (fx_f_tr (fx_f_tr (fx_f_tr (fx_f_tr (fx_f_sr ⟨x, hax⟩) (fx_f_sr ⟨y, hay⟩)) (fx_f_sr ⟨n, ha⟩)) (fx_f_si ⟨n, ha⟩)) (fx_f_sr ⟨n, ha⟩)) (fx_f_sr ⟨n, ha⟩)
end CM
