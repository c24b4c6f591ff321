-- LOSING A THING: the loop, the call
section CZ2
variable {X : Nat} {ad aT : Nat → Option Nat} {s : ts_S} {M : am_M} {K : Option am_V → am_M → Prop} {n a t : Nat}
theorem cX_lose_l {W : List Nat} (hW : W = fo_w (ts_L s) t) (hWn : W.Nodup) (hW20 : W.length ≤ 20) (hWl : ∀ x ∈ W, x < 20) (l1v l2v : am_V) : ∀ (l l1 D : List Nat) (c : ts_S) (M : am_M) (l6 : am_V), W = l1 ++ l → (∀ j m, W[j]? = some m → am_mi M (X + 4) j = nI m) → cg X (aD ad D) ad c M → ts_ok c → ts_t c + l.length < 2 ^ 30 → D.length ≤ l1.length → (∀ x ∈ D, x ∈ l1) → (∀ x ∈ W, ts_lv c x) → (∀ x ∈ l, ts_pa c x = ts_pa s x) → ts_wy c = ts_wy s →
    (∀ M', cg X (aD ad (lo_g s l D).2) ad ((lo_g s l D).1.foldl ts_gone c) M' → fx_f (cxR X) M M' → K (some (.inl (nI (lo_g s l D).2.length))) M') →
    am_wp yX_lose 33 [.inr (.inl (1, some X)), l1v, l2v, .inl (nI W.length), .inl (nI D.length), .inl (nI l1.length), l6] [] M K := by
  intro l
  induction l with
  | nil =>
    intro l1 D c M l6 hWl1 hmem h hc ht hDl hD hlv hpa hwy hK
    have e : W.length = l1.length := by rw [hWl1]; simp
    have e1 : ¬ nI l1.length < nI l1.length := fun q => by have := (nI_ltI (a := l1.length) (b := l1.length) (by omega) (by omega)).mp q; omega
    rw [wX_lose_33]
    simp only [wX_lose_0, wX_lose_1, wX_lose_2, wX_lose_5, wX_lose_6, wX_lose_7, wX_lose_10, wX_lose_11, wX_lose_12, wX_lose_13, wX_lose_14, wX_lose_17, wX_lose_18, wX_lose_19, wX_lose_22, wX_lose_23, wX_lose_24, wX_lose_27, wX_lose_28, wX_lose_30, wX_lose_31, wX_lose_35, wX_lose_36, wX_lose_39, wX_lose_41, wX_lose_42, wX_lose_45, wX_lose_46, wX_lose_49, wX_lose_50, wX_lose_51, wX_lose_54, wX_lose_57, wX_lose_60, wX_lose_62, wX_lose_64, wX_lose_67, wX_lose_68, wX_lose_70, wX_lose_73, wX_lose_76, wX_lose_78, wX_lose_79, wX_lose_81, wX_lose_84, wX_lose_85, wX_lose_87, wX_lose_90, wX_lose_93, wX_lose_95, e, e1, if_false]
    exact hK M h (fx_f_rf M)
  | cons x l ih =>
    intro l1 D c M l6 hWl1 hmem h hc ht hDl hD hlv hpa hwy hK
    have eW : W.length = l1.length + (l.length + 1) := by rw [hWl1]; simp
    have e1 : nI l1.length < nI W.length := (nI_ltI (by omega) (by omega)).mpr (by omega)
    have e2 : nI l1.length < (20 : Int32) := nI_lt (b := 20) (by omega) (by decide)
    have hxW : x ∈ W := by rw [hWl1]; simp
    have hx20 := hWl x hxW
    have hxl := hlv x hxW
    obtain ⟨b, hb⟩ := cp_ex h hxl
    have hxn : x ∉ l1 := fun q => by rw [hWl1] at hWn; exact (List.nodup_append.mp hWn).2.2 x q x List.mem_cons_self rfl
    have hxD : x ∉ D := fun q => hxn (hD x q)
    have hm : am_mi M (X + 4) l1.length = nI x := hmem l1.length x (by rw [hWl1]; simp)
    have z1 : ¬ nI x < 0 := nI_pos (by omega)
    have z2 : nI x < (20 : Int32) := nI_lt (b := 20) hx20 (by decide)
    have hpx := hpa x List.mem_cons_self
    have hln : l1.length + 1 = (l1 ++ [x]).length := by simp
    have hWl2 : W = (l1 ++ [x]) ++ l := by rw [hWl1]; simp
    have s2 := h.1.2.2.1
    rw [List.length_cons] at ht
    rw [wX_lose_33]
    simp only [wX_lose_0, wX_lose_1, wX_lose_2, wX_lose_5, wX_lose_6, wX_lose_7, wX_lose_10, wX_lose_11, wX_lose_12, wX_lose_13, wX_lose_14, wX_lose_17, wX_lose_18, wX_lose_19, wX_lose_22, wX_lose_23, wX_lose_24, wX_lose_27, wX_lose_28, wX_lose_30, wX_lose_31, wX_lose_35, wX_lose_36, wX_lose_39, wX_lose_41, wX_lose_42, wX_lose_45, wX_lose_46, wX_lose_49, wX_lose_50, wX_lose_51, wX_lose_54, wX_lose_57, wX_lose_60, wX_lose_62, wX_lose_64, wX_lose_67, wX_lose_68, wX_lose_70, wX_lose_73, wX_lose_76, wX_lose_78, wX_lose_79, wX_lose_81, wX_lose_84, wX_lose_85, wX_lose_87, wX_lose_90, wX_lose_93, wX_lose_95, wX_lose_56 (am_ok_nI (show l1.length < 20 by omega) (by decide)), e1, e2, if_true, s2, nI_clamp (show l1.length < 2 ^ 31 by omega), hm, cX_find h, cp_f, z1, z2, if_false, nI_clamp (show x < 2 ^ 31 by omega), aD, hxD, hb, true_or, or_true, Option.toList_some, Option.toList_none, List.cons_append, List.nil_append, reduceCtorEq]
    rw [cX_isHolderGone h hc hb, hpx]
    simp only [true_or, or_true, Option.toList_some, Option.toList_none, List.cons_append, List.nil_append, wX_lose_0, wX_lose_1, wX_lose_2, wX_lose_5, wX_lose_6, wX_lose_7, wX_lose_10, wX_lose_11, wX_lose_12, wX_lose_13, wX_lose_14, wX_lose_17, wX_lose_18, wX_lose_19, wX_lose_22, wX_lose_23, wX_lose_24, wX_lose_27, wX_lose_28, wX_lose_30, wX_lose_31, wX_lose_35, wX_lose_36, wX_lose_39, wX_lose_41, wX_lose_42, wX_lose_45, wX_lose_46, wX_lose_49, wX_lose_50, wX_lose_51, wX_lose_54, wX_lose_57, wX_lose_60, wX_lose_62, wX_lose_64, wX_lose_67, wX_lose_68, wX_lose_70, wX_lose_73, wX_lose_76, wX_lose_78, wX_lose_79, wX_lose_81, wX_lose_84, wX_lose_85, wX_lose_87, wX_lose_90, wX_lose_93, wX_lose_95, am_b0]
    cases hp : ts_pa s x with
    | none =>
      have eg : lo_g s (x :: l) D = lo_g s l D := by rw [lo_g, hp]
      rw [eg] at hK
      simp only [if_true, wX_lose_0, wX_lose_1, wX_lose_2, wX_lose_5, wX_lose_6, wX_lose_7, wX_lose_10, wX_lose_11, wX_lose_12, wX_lose_13, wX_lose_14, wX_lose_17, wX_lose_18, wX_lose_19, wX_lose_22, wX_lose_23, wX_lose_24, wX_lose_27, wX_lose_28, wX_lose_30, wX_lose_31, wX_lose_35, wX_lose_36, wX_lose_39, wX_lose_41, wX_lose_42, wX_lose_45, wX_lose_46, wX_lose_49, wX_lose_50, wX_lose_51, wX_lose_54, wX_lose_57, wX_lose_60, wX_lose_62, wX_lose_64, wX_lose_67, wX_lose_68, wX_lose_70, wX_lose_73, wX_lose_76, wX_lose_78, wX_lose_79, wX_lose_81, wX_lose_84, wX_lose_85, wX_lose_87, wX_lose_90, wX_lose_93, wX_lose_95, nI_1, hln]
      exact ih (l1 ++ [x]) D c M _ hWl2 hmem h hc (by omega) (by simp; omega) (fun y hy => List.mem_append_left _ (hD y hy)) hlv (fun y hy => hpa y (List.mem_cons_of_mem _ hy)) hwy hK
    | some p =>
      by_cases cD : p ∈ D
      · simp only [cD, decide_true, reduceCtorEq, if_false, wX_lose_0, wX_lose_1, wX_lose_2, wX_lose_5, wX_lose_6, wX_lose_7, wX_lose_10, wX_lose_11, wX_lose_12, wX_lose_13, wX_lose_14, wX_lose_17, wX_lose_18, wX_lose_19, wX_lose_22, wX_lose_23, wX_lose_24, wX_lose_27, wX_lose_28, wX_lose_30, wX_lose_31, wX_lose_35, wX_lose_36, wX_lose_39, wX_lose_41, wX_lose_42, wX_lose_45, wX_lose_46, wX_lose_49, wX_lose_50, wX_lose_51, wX_lose_54, wX_lose_57, wX_lose_60, wX_lose_62, wX_lose_64, wX_lose_67, wX_lose_68, wX_lose_70, wX_lose_73, wX_lose_76, wX_lose_78, wX_lose_79, wX_lose_81, wX_lose_84, wX_lose_85, wX_lose_87, wX_lose_90, wX_lose_93, wX_lose_95]
        have hway : ts_way c x = ts_wy s x := by unfold ts_way; rw [hpx, hp, if_neg (by simp), hwy]
        refine cX_loseHeld h hc (by omega) hb hx20 (fun w4 M' g f g4 => ?_) (fun w4 M' g f g4 => ?_)
        · rw [hway] at w4
          have eg : lo_g s (x :: l) D = lo_g s l (x :: D) := by rw [lo_g, hp]; simp [cD, w4]
          rw [eg] at hK
          simp only [wX_lose_0, wX_lose_1, wX_lose_2, wX_lose_5, wX_lose_6, wX_lose_7, wX_lose_10, wX_lose_11, wX_lose_12, wX_lose_13, wX_lose_14, wX_lose_17, wX_lose_18, wX_lose_19, wX_lose_22, wX_lose_23, wX_lose_24, wX_lose_27, wX_lose_28, wX_lose_30, wX_lose_31, wX_lose_35, wX_lose_36, wX_lose_39, wX_lose_41, wX_lose_42, wX_lose_45, wX_lose_46, wX_lose_49, wX_lose_50, wX_lose_51, wX_lose_54, wX_lose_57, wX_lose_60, wX_lose_62, wX_lose_64, wX_lose_67, wX_lose_68, wX_lose_70, wX_lose_73, wX_lose_76, wX_lose_78, wX_lose_79, wX_lose_81, wX_lose_84, wX_lose_85, wX_lose_87, wX_lose_90, wX_lose_93, wX_lose_95, true_or, or_true, Option.toList_some, Option.toList_none, List.cons_append, List.nil_append, nI_1, hln, show D.length + 1 = (x :: D).length from rfl]
          refine ih (l1 ++ [x]) (x :: D) c M' _ hWl2 (fun j m hj => by rw [g4]; exact hmem j m hj) g hc (by omega) (by simp; omega) (fun y hy => ?_) hlv (fun y hy => hpa y (List.mem_cons_of_mem _ hy)) hwy (fun M2 g2 f2 => hK M2 g2 (fx_f_tr f f2))
          rcases List.mem_cons.mp hy with rfl | hy
          · simp
          · exact List.mem_append_left _ (hD y hy)
        · rw [hway] at w4
          have eg : lo_g s (x :: l) D = (x :: (lo_g s l D).1, (lo_g s l D).2) := by rw [lo_g, hp]; simp [cD, w4]
          rw [eg] at hK
          simp only [wX_lose_0, wX_lose_1, wX_lose_2, wX_lose_5, wX_lose_6, wX_lose_7, wX_lose_10, wX_lose_11, wX_lose_12, wX_lose_13, wX_lose_14, wX_lose_17, wX_lose_18, wX_lose_19, wX_lose_22, wX_lose_23, wX_lose_24, wX_lose_27, wX_lose_28, wX_lose_30, wX_lose_31, wX_lose_35, wX_lose_36, wX_lose_39, wX_lose_41, wX_lose_42, wX_lose_45, wX_lose_46, wX_lose_49, wX_lose_50, wX_lose_51, wX_lose_54, wX_lose_57, wX_lose_60, wX_lose_62, wX_lose_64, wX_lose_67, wX_lose_68, wX_lose_70, wX_lose_73, wX_lose_76, wX_lose_78, wX_lose_79, wX_lose_81, wX_lose_84, wX_lose_85, wX_lose_87, wX_lose_90, wX_lose_93, wX_lose_95, true_or, or_true, Option.toList_some, Option.toList_none, List.cons_append, List.nil_append, nI_1, hln, show nI D.length + (0 : Int32) = nI D.length from Int32.add_zero _]
          have hxl2 : x ∉ l := fun q => by rw [hWl1] at hWn; exact (List.nodup_cons.mp (List.nodup_append.mp hWn).2.1).1 q
          refine ih (l1 ++ [x]) D (ts_gone c x) M' _ hWl2 (fun j m hj => by rw [g4]; exact hmem j m hj) g (ts_ok_gone hc hxl) (show ts_t c + 1 + l.length < 2 ^ 30 by omega) (by simp; omega) (fun y hy => List.mem_append_left _ (hD y hy)) (fun y hy => (gone_lv hc.1 hxl y).mpr (hlv y hy)) (fun y hy => ?_) hwy (fun M2 g2 f2 => hK M2 g2 (fx_f_tr f f2))
          rw [gone_pa hc.1 hxl, if_neg (fun (q : y = x) => hxl2 (q ▸ hy))]
          exact hpa y (List.mem_cons_of_mem _ hy)
      · have eg : lo_g s (x :: l) D = lo_g s l D := by rw [lo_g, hp]; simp [cD]
        rw [eg] at hK
        simp only [cD, decide_false, if_true, wX_lose_0, wX_lose_1, wX_lose_2, wX_lose_5, wX_lose_6, wX_lose_7, wX_lose_10, wX_lose_11, wX_lose_12, wX_lose_13, wX_lose_14, wX_lose_17, wX_lose_18, wX_lose_19, wX_lose_22, wX_lose_23, wX_lose_24, wX_lose_27, wX_lose_28, wX_lose_30, wX_lose_31, wX_lose_35, wX_lose_36, wX_lose_39, wX_lose_41, wX_lose_42, wX_lose_45, wX_lose_46, wX_lose_49, wX_lose_50, wX_lose_51, wX_lose_54, wX_lose_57, wX_lose_60, wX_lose_62, wX_lose_64, wX_lose_67, wX_lose_68, wX_lose_70, wX_lose_73, wX_lose_76, wX_lose_78, wX_lose_79, wX_lose_81, wX_lose_84, wX_lose_85, wX_lose_87, wX_lose_90, wX_lose_93, wX_lose_95, nI_1, hln]
        exact ih (l1 ++ [x]) D c M _ hWl2 hmem h hc (by omega) (by simp; omega) (fun y hy => List.mem_append_left _ (hD y hy)) hlv (fun y hy => hpa y (List.mem_cons_of_mem _ hy)) hwy hK
theorem ls_nx_mem {l : List Nat} {x y : Nat} (h : ls_nx l x = some y) : y ∈ l := by
  induction l with
  | nil => cases h
  | cons a l ih =>
    unfold ls_nx at h
    split at h
    · exact List.mem_cons_of_mem _ (hd_mem h)
    · exact List.mem_cons_of_mem _ (ih h)
-- the lost ones leave the picture
theorem cp_cut {D : List Nat} (h : cg X (aD ad D) ad s M) (hs : ts_ok s) (ht : ts_lv s t) (hp : ts_pa s t = none) (hD : ∀ x, x ∈ fo_w (ts_L s) t ↔ x ∈ D) : cp X (aD ad D) (ts_setL s (fo_cut (ts_L s) t)) M := by
  obtain ⟨h0, h1, h2, h3, h4, h5, h6, h7, h8⟩ := h
  have hmem : ∀ x, ts_lv (ts_setL s (fo_cut (ts_L s) t)) x ↔ ts_lv s x ∧ x ∉ D := fun x => by rw [← hD]; exact fo_cut_mem hs.1 ht x
  have inv : ∀ x b, aD ad D x = some b → ad x = some b ∧ x ∉ D := fun x b hb => by
    unfold aD at hb
    by_cases q : x ∈ D
    · rw [if_pos q] at hb; cases hb
    · rw [if_neg q] at hb; exact ⟨hb, q⟩
  refine ⟨h0, h1, h2, h3, h4, ?_, ?_, ?_, ?_⟩
  · intro x b hb
    obtain ⟨hb1, hx⟩ := inv x b hb
    have hxl : ts_lv s x := (h6 x).mp (by rw [hb1]; rfl)
    have hxc : x ∈ (fo_cut (ts_L s) t).map (·.1) := (hmem x).mpr ⟨hxl, hx⟩
    obtain ⟨c1, c2⟩ := fo_cut_o hs.1 ht hxc
    have pa' : ts_pa (ts_setL s (fo_cut (ts_L s) t)) x = ts_pa s x := c1
    have hnt : ∀ y, t ∉ fo_k (ts_L s) y := fun y q => by
      have := fo_k_of hs.1 q
      rw [show fo_p (ts_L s) t = ts_pa s t from rfl, hp] at this
      cases this
    have kk' : ts_kk (ts_setL s (fo_cut (ts_L s) t)) x = ts_kk s x := by
      show fo_k (fo_cut (ts_L s) t) x = _
      rw [c2, List.erase_of_not_mem (hnt x)]
      rfl
    -- the holder is not lost
    have hpD : ∀ p, ts_pa s x = some p → p ∉ D := fun p hq z => hx ((hD x).mp (fo_w_down hs.1 hq ((hD p).mpr z)))
    have kkp : ∀ p, ts_pa s x = some p → ts_kk (ts_setL s (fo_cut (ts_L s) t)) p = ts_kk s p := fun p hq => by
      have hpl : ts_lv s p := ts_pa_lv hq
      obtain ⟨-, c4⟩ := fo_cut_o hs.1 ht (x := p) ((hmem p).mpr ⟨hpl, hpD p hq⟩)
      show fo_k (fo_cut (ts_L s) t) p = _
      rw [c4, List.erase_of_not_mem (hnt p)]
      rfl
    -- what a thing holds that is not lost is not lost
    have kD : ∀ p, p ∉ D → ∀ y ∈ ts_kk s p, y ∉ D := fun p hpd y hy z => by
      have hq := fo_k_of hs.1 hy
      have hyw := (hD y).mpr z
      by_cases e : t = y
      · subst e
        exact hnt p hy
      · obtain ⟨g, g1, g2⟩ := fo_w_up hs.1 hyw e
        rw [hq] at g1
        cases g1
        exact hpd ((hD p).mp g2)
    have bnd : ∀ (o : Option Nat), (∀ q, o = some q → q ∉ D) → o.bind (aD ad D) = o.bind ad := fun o ho => by
      cases o with
      | none => rfl
      | some q => simp [aD, ho q rfl]
    obtain ⟨o0, o1, o2, o3, o4, o5, o6, o7, o8, o9⟩ := h5 x b hb1
    refine ⟨o0, o1, o2, ?_, ?_, ?_, ?_, ?_, ?_, o9⟩
    · rw [pa', bnd _ hpD]; exact o3
    · rw [o4]; unfold ts_way; rw [pa']; rfl
    · rw [kk', bnd (ts_kk s x).head? (fun q hq => kD x hx q (hd_mem hq))]; exact o5
    · rw [kk', bnd (ts_kk s x).getLast? (fun q hq => kD x hx q (List.mem_of_getLast? hq))]; exact o6
    · have e : ts_pv (ts_setL s (fo_cut (ts_L s) t)) x = ts_pv s x := by
        unfold ts_pv
        rw [pa']
        cases hq : ts_pa s x with
        | none => rfl
        | some p => simp only [Option.bind_some]; rw [kkp p hq]
      rw [e, bnd (ts_pv s x) (fun q hq => ?_)]
      · exact o7
      · unfold ts_pv at hq
        cases hq2 : ts_pa s x with
        | none => rw [hq2] at hq; cases hq
        | some p => rw [hq2] at hq; exact kD p (hpD p hq2) q (ls_pv_mem hq)
    · have e : ts_nx (ts_setL s (fo_cut (ts_L s) t)) x = ts_nx s x := by
        unfold ts_nx
        rw [pa']
        cases hq : ts_pa s x with
        | none => rfl
        | some p => simp only [Option.bind_some]; rw [kkp p hq]
      rw [e, bnd (ts_nx s x) (fun q hq => ?_)]
      · exact o8
      · unfold ts_nx at hq
        cases hq2 : ts_pa s x with
        | none => rw [hq2] at hq; cases hq
        | some p => rw [hq2] at hq; exact kD p (hpD p hq2) q (ls_nx_mem hq)
  · intro x
    rw [hmem x]
    unfold aD
    by_cases q : x ∈ D
    · simp [q]
    · simp [q, h6 x]
  · intro x b hb
    exact h7 x b (inv x b hb).1
  · intro x y b hb hb2
    exact h8 x y b (inv x b hb).1 (inv y b hb2).1
def lo_r (s : ts_S) (t : Nat) : List Nat × List Nat := lo_g s (fo_w (ts_L s) t).tail [t]
def lo_s (s : ts_S) (t : Nat) : ts_S := (lo_r s t).1.foldl ts_gone s
def sp_lose (s : ts_S) (v : Int32) : Int32 × ts_S := match ts_id s v with
  | some t => (nI (lo_r s t).2.length, ts_setL (lo_s s t) (fo_cut (ts_L (lo_s s t)) t))
  | none => (-1, s)
theorem fo_w_cons {L : fo_L} (ht : t ∈ L.map (·.1)) : fo_w L t = [t] ++ (fo_w L t).tail := by
  obtain ⟨A, d, r, hL, hA⟩ := fo_split ht
  rw [hL, fo_w_at hA]
  rfl
theorem lo_all (hs : ts_ok s) (ht : ts_lv s t) : t ∈ (lo_r s t).2 ∧ (lo_r s t).2.Nodup ∧ (∀ x ∈ (lo_r s t).2, x ∈ fo_w (ts_L s) t) ∧ (∀ x ∈ (lo_r s t).2, x = t ∨ ∃ h, ts_pa s x = some h ∧ h ∈ (lo_r s t).2) ∧ (∀ x ∈ (lo_r s t).1, x ∈ fo_w (ts_L s) t ∧ x ≠ t ∧ x ∉ (lo_r s t).2) ∧ (lo_r s t).1.Nodup ∧ (∀ x h, x ∈ fo_w (ts_L s) t → x ≠ t → ts_pa s x = some h → h ∈ (lo_r s t).2 → x ∈ (lo_r s t).2 ∨ x ∈ (lo_r s t).1) ∧ (∀ x ∈ (lo_r s t).1, ∃ h, ts_pa s x = some h ∧ h ∈ (lo_r s t).2) := by
  have hw := fo_w_cons ht
  obtain ⟨b1, b2, b3, b4, b5, b6, b7, b8, b9, b10⟩ := lo_g_i hs.1 (fo_w (ts_L s) t).tail [t] [t] hw (by simp) (by simp) (by simp) (fun x hx => hx) (fun x hx => Or.inl (by simpa using hx))
  have hnd := fo_w_nd hs.1 t
  rw [hw] at hnd
  refine ⟨b1, b2, b3, b6, fun x hx => ⟨by rw [hw]; exact List.mem_append_right _ (b7 x hx).1, fun q => ?_, (b7 x hx).2⟩, b8, fun x h hx hne hp hh => ?_, b10⟩
  · exact (List.nodup_append.mp hnd).2.2 x (by simp [q]) x (b7 x hx).1 rfl
  · rw [hw] at hx
    rcases List.mem_append.mp hx with z | z
    · exact absurd (by simpa using z) hne
    · exact b9 x h z hp hh
-- the state of the class's own way, and the other
def lo_u (s : ts_S) (t : Nat) : ts_S := (lo_r s t).1.foldl ts_gone (ts_setL s (fo_out (ts_L s) t))
theorem lo_eq (hs : ts_ok s) (ht : ts_lv s t) : ts_setL (lo_u s t) (fo_cut (ts_L (lo_u s t)) t) = ts_setL (lo_s s t) (fo_cut (ts_L (lo_s s t)) t) ∧ fo_sub (ts_L (lo_u s t)) t = fo_sub (ts_L (lo_s s t)) t := by
  obtain ⟨b1, b2, b3, b4, b5, b6, b7, b8⟩ := lo_all hs ht
  obtain ⟨u1, u2, u3, u4⟩ := fo_out_ok hs.1 ht
  obtain ⟨c1, c2, c3⟩ := fo_out_cut hs.1 ht
  exact lo_same (D := (lo_r s t).2) (lo_r s t).1 (ts_setL s (fo_out (ts_L s) t)) s u1 hs.1 u2 ht rfl (fun x hx => by show fo_p (fo_out (ts_L s) t) x = _; rw [u3, if_neg hx]; rfl) c1 c2 (fun x hx => ⟨(fo_w_mem (b3 x hx)).2, b4 x hx⟩) b6 (fun x hx => ⟨(b5 x hx).2.2, (b5 x hx).2.1, b8 x hx⟩)
theorem ts_ok_out (hs : ts_ok s) (ht : ts_lv s t) : ts_ok (ts_setL s (fo_out (ts_L s) t)) := ts_ok_gone (s := s) hs ht
theorem lo_u_w (hs : ts_ok s) (ht : ts_lv s t) : ts_ok (lo_u s t) ∧ ts_lv (lo_u s t) t ∧ ts_pa (lo_u s t) t = none ∧ ∀ x, x ∈ fo_w (ts_L (lo_u s t)) t ↔ x ∈ (lo_r s t).2 := by
  obtain ⟨b1, b2, b3, b4, b5, b6, b7, b8⟩ := lo_all hs ht
  obtain ⟨u1, u2, u3, u4⟩ := fo_out_ok hs.1 ht
  obtain ⟨d1, d2, d3, -⟩ := gone_fold (lo_r s t).1 (ts_setL s (fo_out (ts_L s) t)) (ts_ok_out hs ht) (fun x hx => (u2 x).mpr (fo_w_mem (b5 x hx).1).2)
  refine ⟨d1, (d2 t).mpr ((u2 t).mpr ht), ?_, ?_⟩
  · show ts_pa (List.foldl ts_gone _ _) t = none
    rw [d3]
    split
    · rfl
    · show fo_p (fo_out (ts_L s) t) t = none
      rw [u3, if_pos rfl]
  · refine lo_set (s := s) (mv := (lo_r s t).1) hs.1 d1.1 rfl (fun x => ?_) (fun x hx => ?_) b1 b3 b4 (fun x hx => (b5 x hx).2.2) b7
    · exact (d2 x).trans (u2 x)
    · show ts_pa (List.foldl ts_gone _ _) x = _
      rw [d3]
      show (if _ then none else fo_p (fo_out (ts_L s) t) x) = _
      rw [u3, if_neg hx]
      rfl
theorem cX_lose (h : cp X ad s M) (hs : ts_ok s) (ht : ts_t s + 20 < 2 ^ 30) (v : Int32) (hK : ∀ ad' M', cp X ad' (sp_lose s v).2 M' → fx_f (cxR X) M M' → K (some (.inl (sp_lose s v).1)) M') : am_wp yX_lose 0 [.inr (.inl (1, some X)), .inl v, am_u, am_u, am_u, am_u, am_u] [] M K := by
  unfold sp_lose at hK
  cases hv : ts_id s v with
  | none =>
    rw [hv] at hK
    simp [wX_lose_0, wX_lose_1, wX_lose_2, wX_lose_5, wX_lose_6, wX_lose_7, wX_lose_10, wX_lose_11, wX_lose_12, wX_lose_13, wX_lose_14, wX_lose_17, wX_lose_18, wX_lose_19, wX_lose_22, wX_lose_23, wX_lose_24, wX_lose_27, wX_lose_28, wX_lose_30, wX_lose_31, wX_lose_35, wX_lose_36, wX_lose_39, wX_lose_41, wX_lose_42, wX_lose_45, wX_lose_46, wX_lose_49, wX_lose_50, wX_lose_51, wX_lose_54, wX_lose_57, wX_lose_60, wX_lose_62, wX_lose_64, wX_lose_67, wX_lose_68, wX_lose_70, wX_lose_73, wX_lose_76, wX_lose_78, wX_lose_79, wX_lose_81, wX_lose_84, wX_lose_85, wX_lose_87, wX_lose_90, wX_lose_93, wX_lose_95, cX_fd h, hv]
    exact hK ad M h (fx_f_rf M)
  | some t =>
    obtain ⟨a, ha, o⟩ := cp_id_ex h hv
    obtain ⟨-, hlt, ht20⟩ := ts_id_some hv
    rw [hv] at hK
    simp only at hK
    simp only [wX_lose_0, wX_lose_1, wX_lose_2, wX_lose_5, wX_lose_6, wX_lose_7, wX_lose_10, wX_lose_11, wX_lose_12, wX_lose_13, wX_lose_14, wX_lose_17, wX_lose_18, wX_lose_19, wX_lose_22, wX_lose_23, wX_lose_24, wX_lose_27, wX_lose_28, wX_lose_30, wX_lose_31, wX_lose_35, wX_lose_36, wX_lose_39, wX_lose_41, wX_lose_42, wX_lose_45, wX_lose_46, wX_lose_49, wX_lose_50, wX_lose_51, wX_lose_54, wX_lose_57, wX_lose_60, wX_lose_62, wX_lose_64, wX_lose_67, wX_lose_68, wX_lose_70, wX_lose_73, wX_lose_76, wX_lose_78, wX_lose_79, wX_lose_81, wX_lose_84, wX_lose_85, wX_lose_87, wX_lose_90, wX_lose_93, wX_lose_95, cX_fd h, hv, ha, true_or, or_true, Option.toList_some, Option.toList_none, List.cons_append, List.nil_append, Option.bind_some, reduceCtorEq, if_false]
    refine cX_fillWalk h hs ha (fun M1 f1 g1 => ?_)
    simp only [wX_lose_0, wX_lose_1, wX_lose_2, wX_lose_5, wX_lose_6, wX_lose_7, wX_lose_10, wX_lose_11, wX_lose_12, wX_lose_13, wX_lose_14, wX_lose_17, wX_lose_18, wX_lose_19, wX_lose_22, wX_lose_23, wX_lose_24, wX_lose_27, wX_lose_28, wX_lose_30, wX_lose_31, wX_lose_35, wX_lose_36, wX_lose_39, wX_lose_41, wX_lose_42, wX_lose_45, wX_lose_46, wX_lose_49, wX_lose_50, wX_lose_51, wX_lose_54, wX_lose_57, wX_lose_60, wX_lose_62, wX_lose_64, wX_lose_67, wX_lose_68, wX_lose_70, wX_lose_73, wX_lose_76, wX_lose_78, wX_lose_79, wX_lose_81, wX_lose_84, wX_lose_85, wX_lose_87, wX_lose_90, wX_lose_93, wX_lose_95, true_or, or_true, Option.toList_some, Option.toList_none, List.cons_append, List.nil_append]
    have h1 := cp_walk h f1
    refine cT_unlink h1 hs ha (fun M2 h2 f2 => ?_)
    simp only [wX_lose_0, wX_lose_1, wX_lose_2, wX_lose_5, wX_lose_6, wX_lose_7, wX_lose_10, wX_lose_11, wX_lose_12, wX_lose_13, wX_lose_14, wX_lose_17, wX_lose_18, wX_lose_19, wX_lose_22, wX_lose_23, wX_lose_24, wX_lose_27, wX_lose_28, wX_lose_30, wX_lose_31, wX_lose_35, wX_lose_36, wX_lose_39, wX_lose_41, wX_lose_42, wX_lose_45, wX_lose_46, wX_lose_49, wX_lose_50, wX_lose_51, wX_lose_54, wX_lose_57, wX_lose_60, wX_lose_62, wX_lose_64, wX_lose_67, wX_lose_68, wX_lose_70, wX_lose_73, wX_lose_76, wX_lose_78, wX_lose_79, wX_lose_81, wX_lose_84, wX_lose_85, wX_lose_87, wX_lose_90, wX_lose_93, wX_lose_95, true_or, or_true, Option.toList_some, Option.toList_none, List.cons_append, List.nil_append]
    have s0ok := ts_ok_out hs hlt
    obtain ⟨u1, u2, u3, u4⟩ := fo_out_ok hs.1 hlt
    have hw := fo_w_cons hlt
    have hnd := fo_w_nd hs.1 t
    have hlen : (fo_w (ts_L s) t).length ≤ 20 := Nat.le_trans (fo_w_len hs.1 (fun n hn => hs.2.1 n hn) t) hs.2.2.1
    refine cX_discard h2 ha ht20 (fun h3 => ?_)
    have h3' : cg X (aD ad [t]) ad (ts_setL s (fo_out (ts_L s) t)) (am_sr M2 (X + 1) t none) := by
      have e : (fun m => if m = t then none else ad m) = aD ad [t] := by funext m; unfold aD; simp
      rw [← e]; exact h3
    simp only [wX_lose_0, wX_lose_1, wX_lose_2, wX_lose_5, wX_lose_6, wX_lose_7, wX_lose_10, wX_lose_11, wX_lose_12, wX_lose_13, wX_lose_14, wX_lose_17, wX_lose_18, wX_lose_19, wX_lose_22, wX_lose_23, wX_lose_24, wX_lose_27, wX_lose_28, wX_lose_30, wX_lose_31, wX_lose_35, wX_lose_36, wX_lose_39, wX_lose_41, wX_lose_42, wX_lose_45, wX_lose_46, wX_lose_49, wX_lose_50, wX_lose_51, wX_lose_54, wX_lose_57, wX_lose_60, wX_lose_62, wX_lose_64, wX_lose_67, wX_lose_68, wX_lose_70, wX_lose_73, wX_lose_76, wX_lose_78, wX_lose_79, wX_lose_81, wX_lose_84, wX_lose_85, wX_lose_87, wX_lose_90, wX_lose_93, wX_lose_95, true_or, or_true, Option.toList_some, Option.toList_none, List.cons_append, List.nil_append]
    have f02 : fx_f (cxR X) M M2 := fx_f_tr (fx_wk f1) (fx_th h1 f2)
    refine cX_lose_l (s := s) (t := t) rfl hnd hlen (fun x hx => Nat.lt_of_lt_of_le (hs.2.1 x (fo_w_mem hx).2) hs.2.2.1) _ _ (fo_w (ts_L s) t).tail [t] [t] (ts_setL s (fo_out (ts_L s) t)) _ _ hw (fun j m hj => ?_) h3' s0ok ?_ (Nat.le_refl _) (fun x hx => hx) (fun x hx => (u2 x).mpr (fo_w_mem hx).2) (fun x hx => ?_) rfl (fun M' g f => ?_)
    · show am_mi M2 (X + 4) j = nI m
      rw [(f2.1 (X + 4) (fun ⟨y, hy⟩ => by have := h.2.2.2.2.2.2.2.1 y _ hy; omega)).1]
      exact g1 j m hj
    · show ts_t s + _ < 2 ^ 30
      rw [List.length_tail]
      omega
    · show fo_p (fo_out (ts_L s) t) x = _
      have : x ≠ t := fun q => by
        rw [hw] at hnd
        exact (List.nodup_append.mp hnd).2.2 x (by simp [q]) x hx rfl
      rw [u3, if_neg this]
      rfl
    · obtain ⟨w1, w2, w3, w4⟩ := lo_u_w hs hlt
      have g' := cp_cut (s := lo_u s t) (t := t) g w1 w2 w3 w4
      rw [(lo_eq hs hlt).1] at g'
      exact hK _ M' g' (fx_f_tr (fx_f_tr f02 fx_x1) f)
end CZ2
