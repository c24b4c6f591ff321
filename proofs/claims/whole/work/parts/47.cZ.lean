-- LOSING A THING
section CZ
variable {X : Nat} {ad aT : Nat → Option Nat} {s : ts_S} {M : am_M} {K : Option am_V → am_M → Prop} {n a t : Nat}
theorem gone_pa (hs : fo_ok (ts_L s)) (hn : ts_lv s n) (m : Nat) : ts_pa (ts_gone s n) m = if m = n then none else ts_pa s m := (fo_out_ok hs hn).2.2.1 m
theorem gone_lv (hs : fo_ok (ts_L s)) (hn : ts_lv s n) (m : Nat) : ts_lv (ts_gone s n) m ↔ ts_lv s m := (fo_out_ok hs hn).2.1 m
-- two states that differ in where the lost one stands
theorem lo_same {D : List Nat} : ∀ (mv : List Nat) (u v : ts_S), fo_ok (ts_L u) → fo_ok (ts_L v) → (∀ x, ts_lv u x ↔ ts_lv v x) → ts_lv v t → u = ts_setL v (ts_L u) → (∀ x, x ≠ t → ts_pa u x = ts_pa v x) → fo_cut (ts_L u) t = fo_cut (ts_L v) t → fo_sub (ts_L u) t = fo_sub (ts_L v) t →
    (∀ x ∈ D, ts_lv v x ∧ (x = t ∨ ∃ h, ts_pa v x = some h ∧ h ∈ D)) → mv.Nodup → (∀ x ∈ mv, x ∉ D ∧ x ≠ t ∧ ∃ h, ts_pa v x = some h ∧ h ∈ D) →
    ts_setL (mv.foldl ts_gone u) (fo_cut (ts_L (mv.foldl ts_gone u)) t) = ts_setL (mv.foldl ts_gone v) (fo_cut (ts_L (mv.foldl ts_gone v)) t) ∧ fo_sub (ts_L (mv.foldl ts_gone u)) t = fo_sub (ts_L (mv.foldl ts_gone v)) t := by
  intro mv
  induction mv with
  | nil =>
    intro u v _ _ _ _ hst _ hcut hsub _ _ _
    refine ⟨?_, hsub⟩
    show ts_setL u (fo_cut (ts_L u) t) = ts_setL v (fo_cut (ts_L v) t)
    rw [hcut, hst]
    rfl
  | cons x mv ih =>
    intro u v hu hv hlv htv hst hpa hcut hsub hD hnd hmv
    obtain ⟨hxD, hxt, h, hph, hhD⟩ := hmv x List.mem_cons_self
    have hxv : ts_lv v x := (fo_p_mem hph).1
    have hxu : ts_lv u x := (hlv x).mpr hxv
    have htu : ts_lv u t := (hlv t).mpr htv
    have hhv : h ∈ fo_w (ts_L v) t := lo_one hv htv (fun y hy => (hD y hy).2) h (hD h hhD).1 hhD
    have hxwv : x ∈ fo_w (ts_L v) t := fo_w_down hv hph hhv
    have hhu : h ∈ fo_w (ts_L u) t := lo_one hu htu (fun y hy => by
      by_cases e : y = t
      · exact Or.inl e
      · rcases (hD y hy).2 with z | ⟨g, g1, g2⟩
        · exact Or.inl z
        · exact Or.inr ⟨g, by rw [show fo_p (ts_L u) y = ts_pa u y from rfl, hpa y e]; exact g1, g2⟩) h ((hlv h).mpr (hD h hhD).1) hhD
    have hxwu : x ∈ fo_w (ts_L u) t := fo_w_down hu (by rw [show fo_p (ts_L u) x = ts_pa u x from rfl, hpa x hxt]; exact hph) hhu
    obtain ⟨T1, e, Tr, a1, a2, a3, a4⟩ := fo_out_in hu htu hxwu hxt
    obtain ⟨T1', e', Tr', b1, b2, b3, b4⟩ := fo_out_in hv htv hxwv hxt
    rw [hsub, b1] at a1
    obtain ⟨rfl, rfl, rfl⟩ : T1' = T1 ∧ e' = e ∧ Tr' = Tr := by
      have := Option.some.inj a1
      simp only [Prod.mk.injEq] at this
      exact this
    rw [List.foldl_cons, List.foldl_cons]
    obtain ⟨p1, p2, p3, p4⟩ := fo_out_ok hu hxu
    obtain ⟨q1, q2, q3, q4⟩ := fo_out_ok hv hxv
    refine ih (ts_gone u x) (ts_gone v x) p1 q1 (fun y => ?_) ((gone_lv hv hxv t).mpr htv) ?_ (fun y hy => ?_) ?_ ?_ (fun y hy => ?_) (List.nodup_cons.mp hnd).2 (fun y hy => ?_)
    · rw [gone_lv hu hxu, gone_lv hv hxv]; exact hlv y
    · have e1 : ts_pa u x = ts_pa v x := hpa x hxt
      unfold ts_gone
      rw [e1, hst]
      rfl
    · rw [gone_pa hu hxu, gone_pa hv hxv, hpa y hy]
    · show fo_cut (fo_out (ts_L u) x) t = fo_cut (fo_out (ts_L v) x) t
      rw [a3, b3, a2, b2, hcut]
    · show fo_sub (fo_out (ts_L u) x) t = fo_sub (fo_out (ts_L v) x) t
      rw [a4, b4]
    · refine ⟨(gone_lv hv hxv y).mpr (hD y hy).1, ?_⟩
      rcases (hD y hy).2 with z | ⟨g, g1, g2⟩
      · exact Or.inl z
      · refine Or.inr ⟨g, ?_, g2⟩
        rw [gone_pa hv hxv, if_neg (fun (q : y = x) => hxD (q ▸ hy))]
        exact g1
    · obtain ⟨c1, c2, g, g1, g2⟩ := hmv y (List.mem_cons_of_mem _ hy)
      refine ⟨c1, c2, g, ?_, g2⟩
      rw [gone_pa hv hxv, if_neg (fun (q : y = x) => (List.nodup_cons.mp hnd).1 (q ▸ hy))]
      exact g1
-- the states on the way
theorem gone_fold : ∀ (mv : List Nat) (u : ts_S), ts_ok u → (∀ x ∈ mv, ts_lv u x) → ts_ok (mv.foldl ts_gone u) ∧ (∀ y, ts_lv (mv.foldl ts_gone u) y ↔ ts_lv u y) ∧ (∀ y, ts_pa (mv.foldl ts_gone u) y = if y ∈ mv then none else ts_pa u y) ∧ ts_wy (mv.foldl ts_gone u) = ts_wy u ∧ ts_m (mv.foldl ts_gone u) = ts_m u ∧ ts_t (mv.foldl ts_gone u) = ts_t u + mv.length ∧ ts_kd (mv.foldl ts_gone u) = ts_kd u := by
  intro mv
  induction mv with
  | nil => intro u hu _; exact ⟨hu, fun _ => Iff.rfl, fun y => by simp, rfl, rfl, rfl, rfl⟩
  | cons x mv ih =>
    intro u hu hl
    have hx := hl x List.mem_cons_self
    obtain ⟨c1, c2, c3, c4, c5, c6, c7⟩ := ih (ts_gone u x) (ts_ok_gone hu hx) (fun y hy => (gone_lv hu.1 hx y).mpr (hl y (List.mem_cons_of_mem _ hy)))
    rw [List.foldl_cons]
    refine ⟨c1, fun y => (c2 y).trans (gone_lv hu.1 hx y), fun y => ?_, c4, c5, ?_, c7⟩
    · rw [c3, gone_pa hu.1 hx]
      by_cases e1 : y ∈ mv
      · simp [e1]
      · by_cases e2 : y = x
        · simp [e2]
        · simp [e1, e2]
    · rw [c6]
      show ts_t u + 1 + mv.length = ts_t u + (mv.length + 1)
      omega
-- a thing leaves the array
theorem cX_discard (h : cg X aT ad s M) (ha : ad n = some a) (hn : n < 20) (hK : cg X (fun m => if m = n then none else aT m) ad s (am_sr M (X + 1) n none) → K none (am_sr M (X + 1) n none)) : am_wp yX_discard 0 [.inr (.inl (1, some X)), .inr (.inl (2, some a))] [] M K := by
  obtain ⟨⟨s0, s1, s2, s3⟩, h1, h2, h3, h4, h5, h6⟩ := id h
  have o0 := (cp_at h ha).1
  have e1 : ¬ nI n < 0 := nI_pos (by omega)
  have e2 : nI n < (20 : Int32) := nI_lt (b := 20) hn (by decide)
  simp only [wX_discard_0, wX_discard_1, wX_discard_4, wX_discard_7, wX_discard_8, wX_discard_11, wX_discard_12, wX_discard_15, wX_discard_16, wX_discard_19, wX_discard_20, wX_discard_23, wX_discard_24, wX_discard_27, wX_discard_29, wX_discard_28 (am_ok_nI hn (by decide)), o0, s0, e1, e2, if_true, if_false, nI_clamp (show n < 2 ^ 31 by omega)]
  have x01 : ¬ X = X + 1 := by omega
  have x21 : ¬ X + 2 = X + 1 := by omega
  refine hK ⟨⟨?_, ?_, ?_, ?_⟩, h1, h2, h3, ?_, ?_, h6⟩
  · rw [am_mr_sr, if_neg (fun q => x01 q.1)]; exact s0
  · rw [am_mr_sr, if_neg (fun q => x01 q.1)]; exact s1
  · rw [am_mr_sr, if_neg (fun q => x01 q.1)]; exact s2
  · rw [am_mr_sr, if_neg (fun q => x21 q.1)]; exact s3
  · intro j hj
    rw [am_mr_sr]
    by_cases q : j = n
    · simp [q]
    · simp [q, h4 j hj]
  · intro m b hb
    have hbX := h6.2.1 m b hb
    exact cp_o_fr (h5 m b hb) (fun _ => rfl) (fun j => by rw [am_mr_sr, if_neg (fun q => by omega)])
def aD (ad : Nat → Option Nat) (D : List Nat) : Nat → Option Nat := fun n => if n ∈ D then none else ad n
theorem aD_c (ad : Nat → Option Nat) (D : List Nat) (x : Nat) : (fun m => if m = x then none else aD ad D m) = aD ad (x :: D) := by
  funext m
  unfold aD
  by_cases e : m = x
  · simp [e]
  · simp [e]
theorem cX_isHolderGone {D : List Nat} (h : cg X (aD ad D) ad s M) (hs : ts_ok s) (ha : ad n = some a) : am_wp yX_isHolderGone 0 [.inr (.inl (1, some X)), .inr (.inl (2, some a))] [] M K = K (some (.inl (am_b (match ts_pa s n with | some p => decide (p ∈ D) | none => false)))) M := by
  have o3 := (cp_at h ha).2.2.2.1
  cases hp : ts_pa s n with
  | none =>
    simp [wX_isHolderGone_0, wX_isHolderGone_1, wX_isHolderGone_4, wX_isHolderGone_7, wX_isHolderGone_8, wX_isHolderGone_9, wX_isHolderGone_12, wX_isHolderGone_15, wX_isHolderGone_18, wX_isHolderGone_21, wX_isHolderGone_22, wX_isHolderGone_25, o3, hp, wX_isHolderGone_26, am_b]
  | some p =>
    have hlp := ts_pa_lv hp
    obtain ⟨b, hb⟩ := cp_ex h hlp
    have p0 := (cp_at h hb).1
    have hp20 : p < 20 := Nat.lt_of_lt_of_le (hs.2.1 p hlp) hs.2.2.1
    have e1 : ¬ nI p < 0 := nI_pos (by omega)
    have e2 : nI p < (20 : Int32) := nI_lt (b := 20) hp20 (by decide)
    simp only [wX_isHolderGone_0, wX_isHolderGone_1, wX_isHolderGone_4, wX_isHolderGone_7, wX_isHolderGone_8, wX_isHolderGone_9, wX_isHolderGone_12, wX_isHolderGone_15, wX_isHolderGone_18, wX_isHolderGone_21, wX_isHolderGone_22, wX_isHolderGone_25, o3, hp, Option.bind_some, hb, reduceCtorEq, if_false, p0, cX_find h, cp_f, e1, e2, if_true, nI_clamp (show p < 2 ^ 31 by omega), true_or, or_true, Option.toList_some, Option.toList_none, List.cons_append, List.nil_append, aD]
    by_cases c : p ∈ D
    · simp [c, wX_isHolderGone_26, wX_isHolderGone_21, wX_isHolderGone_22, am_b]
    · simp [c, hb, wX_isHolderGone_26, wX_isHolderGone_25, am_b]
theorem fx_x1 {M1 : am_M} {o : Option Nat} {j : Nat} : fx_f (cxR X) M1 (am_sr M1 (X + 1) j o) := fx_f_sr (by unfold cxR; omega)
theorem cX_cn4 (h : cg X aT ad s M) (hs : ts_ok s) (ht : ts_t s < 2 ^ 30) (ha : ad n = some a) (hK : ∀ M', cg X aT ad (ts_gone s n) M' → fx_f (cxR X) M M' → (∀ j, am_mi M' (X + 4) j = am_mi M (X + 4) j) → K none M') : am_wp yX_comeNowhere 0 [.inr (.inl (1, some X)), .inr (.inl (2, some a))] [] M K := by
  obtain ⟨s0, s1, s2, s3⟩ := h.1
  obtain ⟨o0, o1, o2, o3, -⟩ := cp_at h ha
  simp only [wX_comeNowhere_0, wX_comeNowhere_1, wX_comeNowhere_4, wX_comeNowhere_5, wX_comeNowhere_8, wX_comeNowhere_9, wX_comeNowhere_12, wX_comeNowhere_15, wX_comeNowhere_17, wX_comeNowhere_19, wX_comeNowhere_22, wX_comeNowhere_23, wX_comeNowhere_26, s1, o0, o3, cX_numberOf h (ts_pa s n) (fun q hq => ts_pa_lv hq), true_or, or_true, Option.toList_some, Option.toList_none, List.cons_append, List.nil_append]
  refine cC_note h ht _ _ _ _ (fun M1 h1 f1 => ?_)
  simp only [wX_comeNowhere_0, wX_comeNowhere_1, wX_comeNowhere_4, wX_comeNowhere_5, wX_comeNowhere_8, wX_comeNowhere_9, wX_comeNowhere_12, wX_comeNowhere_15, wX_comeNowhere_17, wX_comeNowhere_19, wX_comeNowhere_22, wX_comeNowhere_23, wX_comeNowhere_26, true_or, or_true, Option.toList_some, Option.toList_none, List.cons_append, List.nil_append]
  refine cT_unlink h1 (show ts_ok (ts_note s _ _ _ _) from hs) ha (fun M2 h2 f2 => ?_)
  simp only [wX_comeNowhere_0, wX_comeNowhere_1, wX_comeNowhere_4, wX_comeNowhere_5, wX_comeNowhere_8, wX_comeNowhere_9, wX_comeNowhere_12, wX_comeNowhere_15, wX_comeNowhere_17, wX_comeNowhere_19, wX_comeNowhere_22, wX_comeNowhere_23, wX_comeNowhere_26, true_or, or_true, Option.toList_some, Option.toList_none, List.cons_append, List.nil_append]
  refine hK M2 h2 (fx_f_tr (fx_ch f1) (fx_th h f2)) (fun j => ?_)
  rw [(f2.1 (X + 4) (fun ⟨m, hm⟩ => by have := h.2.2.2.2.2.2.2.1 m _ hm; omega)).1, (f1.1 (X + 4) (by omega)).1]
theorem cX_loseHeld {D : List Nat} (h : cg X (aD ad D) ad s M) (hs : ts_ok s) (ht : ts_t s < 2 ^ 30) (ha : ad n = some a) (hn : n < 20)
    (h0 : ts_way s n = 4 → ∀ M', cg X (aD ad (n :: D)) ad s M' → fx_f (cxR X) M M' → (∀ j, am_mi M' (X + 4) j = am_mi M (X + 4) j) → K (some (.inl 1)) M')
    (h1 : ¬ ts_way s n = 4 → ∀ M', cg X (aD ad D) ad (ts_gone s n) M' → fx_f (cxR X) M M' → (∀ j, am_mi M' (X + 4) j = am_mi M (X + 4) j) → K (some (.inl 0)) M') : am_wp yX_loseHeld 0 [.inr (.inl (1, some X)), .inr (.inl (2, some a))] [] M K := by
  have o4 := (cp_at h ha).2.2.2.2.1
  simp only [wX_loseHeld_0, wX_loseHeld_1, wX_loseHeld_4, wX_loseHeld_5, wX_loseHeld_8, wX_loseHeld_9, wX_loseHeld_10, wX_loseHeld_13, wX_loseHeld_14, wX_loseHeld_15, wX_loseHeld_16, wX_loseHeld_17, wX_loseHeld_20, wX_loseHeld_21, o4]
  by_cases c : ts_way s n = 4
  · simp only [if_pos c]
    refine cX_discard h ha hn (fun g => ?_)
    rw [aD_c] at g
    simp only [wX_loseHeld_0, wX_loseHeld_1, wX_loseHeld_4, wX_loseHeld_5, wX_loseHeld_8, wX_loseHeld_9, wX_loseHeld_10, wX_loseHeld_13, wX_loseHeld_14, wX_loseHeld_15, wX_loseHeld_16, wX_loseHeld_17, wX_loseHeld_20, wX_loseHeld_21, true_or, or_true, Option.toList_some, Option.toList_none, List.cons_append, List.nil_append]
    exact h0 c _ g fx_x1 (fun j => rfl)
  · simp only [if_neg c]
    refine cX_cn4 h hs ht ha (fun M' g f g4 => ?_)
    simp only [wX_loseHeld_0, wX_loseHeld_1, wX_loseHeld_4, wX_loseHeld_5, wX_loseHeld_8, wX_loseHeld_9, wX_loseHeld_10, wX_loseHeld_13, wX_loseHeld_14, wX_loseHeld_15, wX_loseHeld_16, wX_loseHeld_17, wX_loseHeld_20, wX_loseHeld_21, true_or, or_true, Option.toList_some, Option.toList_none, List.cons_append, List.nil_append]
    exact h1 c M' g f g4
end CZ
