-- OUT OF A CHAIN, INTO A CHAIN
section CL
theorem hd_mem {l : List Nat} {n : Nat} (q : l.head? = some n) : n ∈ l := List.mem_of_mem_head? q
theorem ls_nx_er {t n : Nat} (hnt : n ≠ t) : ∀ (l1 l2 : List Nat), (l1 ++ t :: l2).Nodup → ls_nx (l1 ++ l2) n = if l1.getLast? = some n then l2.head? else ls_nx (l1 ++ t :: l2) n := by
  intro l1 l2
  induction l1 with
  | nil => intro _; simp [ls_nx, Ne.symm hnt]
  | cons a l1 ih =>
    intro hnd
    rw [List.cons_append] at hnd
    have h1 := List.nodup_cons.mp hnd
    have ih2 := ih h1.2
    rw [List.cons_append, List.cons_append]
    unfold ls_nx
    by_cases han : a = n
    · subst han
      cases l1 with
      | nil => simp
      | cons b l1 =>
        have hne : ¬ (a :: b :: l1).getLast? = some a := fun q => by
          rw [List.getLast?_cons_cons] at q
          exact h1.1 (List.mem_append_left _ (List.mem_of_getLast? q))
        rw [if_pos rfl, if_neg hne, if_pos rfl]
        rfl
    · rw [if_neg han, if_neg han, ih2]
      cases l1 with
      | nil => simp [han]
      | cons b l1 => rw [List.getLast?_cons_cons]
theorem ls_pv_out {n : Nat} : ∀ (l : List Nat), n ∉ l → ls_pv l n = none := by
  intro l
  induction l with
  | nil => intro _; rfl
  | cons a l ih =>
    intro h
    rw [List.mem_cons] at h
    unfold ls_pv
    rw [if_neg (fun q => h (Or.inr (hd_mem q))), ih (fun q => h (Or.inr q))]
theorem ls_pv_at {t : Nat} : ∀ (l1 l2 : List Nat), (l1 ++ t :: l2).Nodup → ls_pv (l1 ++ t :: l2) t = l1.getLast? := by
  intro l1 l2
  induction l1 with
  | nil =>
    intro h
    have h1 := List.nodup_cons.mp h
    rw [List.nil_append]
    unfold ls_pv
    rw [if_neg (fun q => h1.1 (hd_mem q)), ls_pv_out _ h1.1]
    rfl
  | cons a l1 ih =>
    intro h
    rw [List.cons_append] at h
    have h1 := List.nodup_cons.mp h
    rw [List.cons_append]
    unfold ls_pv
    cases l1 with
    | nil => simp
    | cons b l1 =>
      have hbt : b ≠ t := fun q => by
        have h2 := List.nodup_cons.mp h1.2
        exact h2.1 (by rw [q]; simp)
      rw [if_neg (by simp [hbt]), ih h1.2, List.getLast?_cons_cons]
theorem ls_pv_er {t n : Nat} (hnt : n ≠ t) : ∀ (l1 l2 : List Nat), (l1 ++ t :: l2).Nodup → ls_pv (l1 ++ l2) n = if l2.head? = some n then l1.getLast? else ls_pv (l1 ++ t :: l2) n := by
  intro l1 l2
  induction l1 with
  | nil =>
    intro h
    have h1 := List.nodup_cons.mp h
    rw [List.nil_append, List.nil_append]
    by_cases hh : l2.head? = some n
    · rw [if_pos hh]
      cases l2 with
      | nil => rfl
      | cons b l2 =>
        cases hh
        have h2 := List.nodup_cons.mp h1.2
        unfold ls_pv
        rw [if_neg (fun q => h2.1 (hd_mem q)), ls_pv_out _ h2.1]
        rfl
    · rw [if_neg hh]
      conv => rhs; unfold ls_pv
      rw [if_neg hh]
  | cons a l1 ih =>
    intro h
    rw [List.cons_append] at h
    have h1 := List.nodup_cons.mp h
    have ih2 := ih h1.2
    rw [List.cons_append, List.cons_append]
    unfold ls_pv
    cases l1 with
    | nil =>
      by_cases hh : l2.head? = some n
      · simp [hh]
      · rw [List.nil_append, List.nil_append] at ih2
        rw [if_neg hh] at ih2
        simp only [List.nil_append, hh, if_false, List.head?_cons, Option.some.injEq, Ne.symm hnt]
        exact ih2
    | cons b l1 =>
      by_cases hbn : b = n
      · subst hbn
        have hl2 : ¬ l2.head? = some b := fun q => by
          have h2 := List.nodup_append.mp h1.2
          exact h2.2.2 b List.mem_cons_self b (List.mem_cons_of_mem _ (hd_mem q)) rfl
        simp [hl2]
      · have e1 : ¬ (b :: l1 ++ l2).head? = some n := by simp [hbn]
        have e2 : ¬ (b :: l1 ++ t :: l2).head? = some n := by simp [hbn]
        rw [if_neg e1, if_neg e2, ih2, List.getLast?_cons_cons]
theorem ls_nx_ap {t n : Nat} (hnt : n ≠ t) (l : List Nat) (h : (l ++ [t]).Nodup) : ls_nx (l ++ [t]) n = if l.getLast? = some n then some t else ls_nx l n := by
  by_cases hl : l.getLast? = some n
  · rw [if_pos hl]
    obtain ⟨l', rfl⟩ := List.getLast?_eq_some_iff.mp hl
    rw [List.append_assoc]
    have hn : n ∉ l' := by
      have h2 := (List.nodup_append.mp (List.nodup_append.mp h).1).2.2
      exact fun q => h2 n q n List.mem_cons_self rfl
    rw [show l' ++ ([n] ++ [t]) = l' ++ n :: [t] by simp, ls_nx_at hn]
    rfl
  · rw [if_neg hl]
    have h1 := ls_nx_er hnt l [] h
    rw [if_neg hl, List.append_nil] at h1
    exact h1.symm
theorem ls_pv_ap {t n : Nat} (hnt : n ≠ t) (l : List Nat) (h : (l ++ [t]).Nodup) : ls_pv (l ++ [t]) n = ls_pv l n := by
  have h1 := ls_pv_er hnt l [] h
  rw [if_neg (by simp), List.append_nil] at h1
  exact h1.symm
def ts_setL (s : ts_S) (L : fo_L) : ts_S := (s.1, L, s.2.2)
variable {X : Nat} {aT ad : Nat → Option Nat} {s : ts_S} {M M' : am_M} {K : Option am_V → am_M → Prop} {n a : Nat}
-- a change in the chains alone
theorem cp_re {L : fo_L} (h : cg X aT ad s M) (hmem : ∀ x, x ∈ L.map (·.1) ↔ ts_lv s x) (hf : fx_f (fun b => ∃ m, ad m = some b) M M') (hi : ∀ b j, j ≠ 4 → am_mi M' b j = am_mi M b j)
    (ho : ∀ m b, ad m = some b → am_mr M' b 3 = (fo_p L m).bind ad ∧ am_mi M' b 4 = ts_way (ts_setL s L) m ∧ am_mr M' b 5 = (fo_k L m).head?.bind ad ∧ am_mr M' b 6 = (fo_k L m).getLast?.bind ad ∧ am_mr M' b 7 = (ts_pv (ts_setL s L) m).bind ad ∧ am_mr M' b 8 = (ts_nx (ts_setL s L) m).bind ad) : cg X aT ad (ts_setL s L) M' := by
  obtain ⟨⟨s0, s1, s2, s3⟩, h1, h2, h3, h4, h5, h6, h7, h8⟩ := h
  have far : ∀ c, c ≤ X + 20 → (∀ j, am_mi M' c j = am_mi M c j) ∧ ∀ j, am_mr M' c j = am_mr M c j := fun c hc => hf.1 c (fun ⟨m, hm⟩ => by have := h7 m c hm; omega)
  refine ⟨⟨?_, ?_, ?_, ?_⟩, ?_, ?_, ?_, ?_, ?_, ?_, ?_, h8⟩
  · rw [(far X (by omega)).2]; exact s0
  · rw [(far X (by omega)).2]; exact s1
  · rw [(far X (by omega)).2]; exact s2
  · rw [(far (X + 2) (by omega)).2]; exact s3
  · rw [(far X (by omega)).1]; exact h1
  · rw [(far (X + 2) (by omega)).1]; exact h2
  · intro j hj; rw [(far (X + 3) (by omega)).1]; exact h3 j hj
  · intro j hj; rw [(far (X + 1) (by omega)).2]; exact h4 j hj
  · intro m b hb
    obtain ⟨o0, o1, o2, o3, o4, o5, o6, o7, o8, o9, o10, o11, o12⟩ := h5 m b hb
    obtain ⟨g3, g4, g5, g6, g7, g8⟩ := ho m b hb
    refine ⟨?_, ?_, ?_, g3, g4, g5, g6, g7, g8, ?_, ?_, ?_, ?_⟩
    · rw [hi b 0 (by decide)]; exact o0
    · rw [hi b 1 (by decide)]; exact o1
    · rw [hi b 2 (by decide)]; exact o2
    · rw [hi b 9 (by decide)]; exact o9
    · rw [hi b 10 (by decide)]; exact o10
    · rw [hi b 11 (by decide)]; exact o11
    · intro r hr
      rw [hi b 12 (by decide)]
      exact o12 r hr
  · intro m
    rw [h6 m]
    exact (hmem m).symm
  · intro m b hb
    rw [hf.2.1]
    exact h7 m b hb
-- what going out does
theorem unl_post (h : cg X aT ad s M) (hs : ts_ok s) (ha : ad n = some a) {p ap : Nat} (hp : ts_pa s n = some p) (hap : ad p = some ap) {l1 l2 : List Nat} (hk : ts_kk s p = l1 ++ n :: l2) (hf : fx_f (fun b => ∃ m, ad m = some b) M M') (hi : ∀ b j, j ≠ 4 → am_mi M' b j = am_mi M b j)
    (H3 : ∀ b, am_mr M' b 3 = if b = a then none else am_mr M b 3) (H4 : ∀ b, am_mi M' b 4 = if b = a then -8 else am_mi M b 4)
    (H5 : ∀ b, am_mr M' b 5 = if b = ap ∧ l1 = [] then l2.head?.bind ad else am_mr M b 5) (H6 : ∀ b, am_mr M' b 6 = if b = ap ∧ l2 = [] then l1.getLast?.bind ad else am_mr M b 6)
    (H7 : ∀ b, am_mr M' b 7 = if b = a then none else if l2.head?.bind ad = some b then l1.getLast?.bind ad else am_mr M b 7)
    (H8 : ∀ b, am_mr M' b 8 = if b = a then none else if l1.getLast?.bind ad = some b then l2.head?.bind ad else am_mr M b 8) : cg X aT ad (ts_setL s (fo_out (ts_L s) n)) M' := by
  have hok := hs.1
  have hln : n ∈ (ts_L s).map (·.1) := cp_lv h ha
  obtain ⟨u1, u2, u3, u4⟩ := fo_out_ok hok hln
  have hknd := fo_k_nd hok p
  have hk' : fo_k (ts_L s) p = l1 ++ n :: l2 := hk
  rw [hk'] at hknd
  have hn1 : n ∉ l1 := fun q => (List.nodup_append.mp hknd).2.2 n q n List.mem_cons_self rfl
  have hlive1 : ∀ q, l1.getLast? = some q → ts_lv s q := fun q hq => (fo_p_mem (fo_k_of hok (by rw [hk']; exact List.mem_append_left _ (List.mem_of_getLast? hq)))).1
  have hlive2 : ∀ q, l2.head? = some q → ts_lv s q := fun q hq => (fo_p_mem (fo_k_of hok (by rw [hk']; exact List.mem_append_right _ (List.mem_cons_of_mem _ (hd_mem hq))))).1
  refine cp_re h (fun x => u2 x) hf hi (fun m b hb => ?_)
  obtain ⟨o0, o1, o2, o3, o4, o5, o6, o7, o8, o9, o10, o11, o12⟩ := cp_at h hb
  have eba : (b = a) = (m = n) := propext ⟨fun q => by subst q; exact h.2.2.2.2.2.2.2.2 m n b hb ha, fun q => by subst q; rw [ha] at hb; exact (Option.some.inj hb).symm⟩
  have ebp : (b = ap) = (m = p) := propext ⟨fun q => by subst q; exact h.2.2.2.2.2.2.2.2 m p b hb hap, fun q => by subst q; rw [hap] at hb; exact (Option.some.inj hb).symm⟩
  have hpm : fo_p (fo_out (ts_L s) n) m = if m = n then none else ts_pa s m := u3 m
  have hkm : fo_k (fo_out (ts_L s) n) m = if m = p then l1 ++ l2 else ts_kk s m := by
    rw [u4 m]
    by_cases q : m = p
    · rw [if_pos q, q, hk', fo_er hn1]
    · rw [if_neg q, List.erase_of_not_mem]
      · rfl
      · intro q2
        have q3 := fo_k_of hok q2
        rw [show fo_p (ts_L s) n = ts_pa s n from rfl, hp] at q3
        exact q (Option.some.inj q3).symm
  have hkk : ∀ x, ts_kk (ts_setL s (fo_out (ts_L s) n)) x = (fo_k (ts_L s) x).erase n := fun x => u4 x
  refine ⟨?_, ?_, ?_, ?_, ?_, ?_⟩
  · rw [H3, hpm, o3]
    simp only [eba]
    split <;> rfl
  · rw [H4, o4]
    unfold ts_way ts_pa
    show _ = if fo_p (fo_out (ts_L s) n) m = none then -8 else ts_wy s m
    rw [hpm]
    simp only [eba]
    by_cases q : m = n
    · simp [q]
    · simp only [q, if_false]; rfl
  · rw [H5, hkm, o5]
    simp only [ebp]
    by_cases q : m = p
    · subst q
      rw [hk]
      cases l1 with
      | nil => simp
      | cons x l1 => simp
    · simp [q]
  · rw [H6, hkm, o6]
    simp only [ebp]
    by_cases q : m = p
    · subst q
      rw [hk]
      cases l2 with
      | nil => simp
      | cons x l2 => simp [List.getLast?_append, List.getLast?_cons_cons]
    · simp [q]
  · rw [H7, o7]
    have e1 : ts_pv (ts_setL s (fo_out (ts_L s) n)) m = if m = n then none else (ts_pa s m).bind (fun x => ls_pv ((fo_k (ts_L s) x).erase n) m) := by
      unfold ts_pv
      rw [show ts_pa (ts_setL s (fo_out (ts_L s) n)) m = fo_p (fo_out (ts_L s) n) m from rfl, hpm]
      by_cases q : m = n
      · simp [q]
      · simp only [q, if_false, hkk]
    rw [e1]
    simp only [eba, cp_bind h hb hlive2]
    by_cases q : m = n
    · simp [q]
    · simp only [q, if_false]
      unfold ts_pv
      by_cases q2 : ts_pa s m = some p
      · rw [q2]
        simp only [Option.bind_some]
        rw [show fo_k (ts_L s) p = l1 ++ n :: l2 from hk', hk, fo_er hn1, ls_pv_er q _ _ hknd]
        split <;> rfl
      · have q3 : ¬ l2.head? = some m := fun q4 => by
          have q5 : fo_p (ts_L s) m = some p := fo_k_of hok (by rw [hk']; exact List.mem_append_right _ (List.mem_cons_of_mem _ (hd_mem q4)))
          exact q2 q5
        simp only [q3, if_false]
        cases q6 : ts_pa s m with
        | none => rfl
        | some x =>
          have q7 : x ≠ p := fun q8 => q2 (by rw [q6, q8])
          simp only [Option.bind_some]
          rw [List.erase_of_not_mem (fun q8 => q7 (by
            have q9 := fo_k_of hok q8
            rw [show fo_p (ts_L s) n = ts_pa s n from rfl, hp] at q9
            exact (Option.some.inj q9).symm))]
          rfl
  · rw [H8, o8]
    have e1 : ts_nx (ts_setL s (fo_out (ts_L s) n)) m = if m = n then none else (ts_pa s m).bind (fun x => ls_nx ((fo_k (ts_L s) x).erase n) m) := by
      unfold ts_nx
      rw [show ts_pa (ts_setL s (fo_out (ts_L s) n)) m = fo_p (fo_out (ts_L s) n) m from rfl, hpm]
      by_cases q : m = n
      · simp [q]
      · simp only [q, if_false, hkk]
    rw [e1]
    simp only [eba, cp_bind h hb hlive1]
    by_cases q : m = n
    · simp [q]
    · simp only [q, if_false]
      unfold ts_nx
      by_cases q2 : ts_pa s m = some p
      · rw [q2]
        simp only [Option.bind_some]
        rw [show fo_k (ts_L s) p = l1 ++ n :: l2 from hk', hk, fo_er hn1, ls_nx_er q _ _ hknd]
        split <;> rfl
      · have q3 : ¬ l1.getLast? = some m := fun q4 => by
          have q5 : fo_p (ts_L s) m = some p := fo_k_of hok (by rw [hk']; exact List.mem_append_left _ (List.mem_of_getLast? q4))
          exact q2 q5
        simp only [q3, if_false]
        cases q6 : ts_pa s m with
        | none => rfl
        | some x =>
          have q7 : x ≠ p := fun q8 => q2 (by rw [q6, q8])
          simp only [Option.bind_some]
          rw [List.erase_of_not_mem (fun q8 => q7 (by
            have q9 := fo_k_of hok q8
            rw [show fo_p (ts_L s) n = ts_pa s n from rfl, hp] at q9
            exact (Option.some.inj q9).symm))]
          rfl
end CL
