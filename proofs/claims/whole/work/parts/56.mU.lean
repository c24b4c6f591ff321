-- THE REFERENCE: a thing comes to a holder, or to nowhere: the whole
section MU
variable {N : Nat} {s : ts_S} {M : am_M} {K : Option am_V → am_M → Prop}
theorem fo_sh_c (c t : Nat) (T : fo_L) : (t, c) :: fo_sh c T = fo_sh c ((t, 0) :: T) := by simp [fo_sh]
theorem fo_sh_l (c : Nat) (T : fo_L) : (fo_sh c T).length = T.length := by simp [fo_sh]
theorem fo_sh_ix {c : Nat} {T : fo_L} {j : Nat} {q : Nat × Nat} (h : T[j]? = some q) : (fo_sh c T)[j]? = some (q.1, q.2 + c) := by simp [fo_sh, h]
theorem fo_sh_xi {c : Nat} {T : fo_L} {j : Nat} {q : Nat × Nat} (h : (fo_sh c T)[j]? = some q) : ∃ e, T[j]? = some (q.1, e) ∧ q.2 = e + c := by
  unfold fo_sh at h
  rw [List.getElem?_map] at h
  cases hj : T[j]? with
  | none => rw [hj] at h; cases h
  | some p =>
    rw [hj] at h
    have := Option.some.inj h
    subst this
    exact ⟨p.2, rfl, rfl⟩
theorem mM_pull {L A T B : fo_L} {n d : Nat} (h : ml N L M) (ho : ml_ok L) (hL : L = fo_bl A n T d B) (hT : ∀ q ∈ T, 0 < q.2) (hB : fo_hd d B) (l2 l3 l4 : am_V) (hK : ∀ M', me (fun b j => b = N + 1 ∨ b = N + 2 ∨ (b = N ∧ j = 4) ∨ b = N + 13 ∨ b = N + 14) M M' → ml N (A ++ B) M' → (∀ j q, ((n, 0) :: T)[j]? = some q → am_mi M' (N + 13) j = nI q.1 ∧ am_mi M' (N + 14) j = nI q.2) → am_wp yM_come 159 [.inr (.inl (4, some N)), .inl (nI n), l2, l3, l4, .inl (nI A.length), .inl (nI (T.length + 1)), .inl (nI d), .inl (nI (T.length + 1)), am_u, am_u] [] M' K) : am_wp yM_come 71 [.inr (.inl (4, some N)), .inl (nI n), l2, l3, l4, am_u, am_u, am_u, am_u, am_u, am_u] [] M K := by
  have hL1 : L = A ++ (n, d) :: (fo_sh d T ++ B) := by rw [hL]; simp [fo_bl]
  have hL2 : L = A ++ (fo_sh d ((n, 0) :: T) ++ B) := by rw [hL, ← fo_sh_c]; rfl
  have hlen : L.length = A.length + (T.length + 1) + B.length := by rw [hL2]; simp [fo_sh_l]; omega
  have h20 := ho.2.1
  have hi : L[A.length]? = some (n, d) := by rw [hL1]; simp
  have hsg : (fo_sg d (fo_sh d T ++ B)).length = T.length := by
    rw [fo_sg_app (fo_sh_gt hT), fo_sg_hd hB (Nat.le_refl d), List.append_nil, fo_sh_l]
  have hsub : nI (A.length + 1 + T.length) - nI A.length = nI (T.length + 1) := by rw [pk_sub (by omega)]; congr 1; omega
  simp only [wM_come_71, wM_come_72, wM_come_73, mM_at h ho hi, true_or, or_true, Option.toList_some, Option.toList_none, List.cons_append, List.nil_append, wM_come_76, wM_come_78, wM_come_79, wM_come_81, mM_end h ho hL1, wM_come_84, wM_come_86, wM_come_87, wM_come_89, wM_come_90, wM_come_93, h.1.2.1, wM_come_95 (am_ok_nI (show A.length < 20 by omega) (by decide)), nI_clamp (show A.length < 2 ^ 31 by omega), (h.2.2 _ _ hi).2, wM_come_96, wM_come_98, wM_come_99, hsg, hsub]
  rw [show (0 : Int32) = nI 0 from nI_0.symm]
  refine mM_cut_l (by omega) _ _ _ _ _ _ (T.length + 1) 0 M h.1 (by omega) ?_
  intro M1 hM1 h1 h2
  have hml1 : ml N L M1 := by
    refine ⟨me_s hM1 h.1, ?_, fun j q hj => ?_⟩
    · rw [hM1.2.2.2.2 N 4 (by omega)]; exact h.2.1
    · rw [hM1.2.2.2.2 (N + 1) j (by omega), hM1.2.2.2.2 (N + 2) j (by omega)]; exact h.2.2 j q hj
  have e1 : T.length + 1 = (fo_sh d ((n, 0) :: T)).length := by rw [fo_sh_l]; rfl
  simp only [wM_come_151, wM_come_152, wM_come_154, wM_come_156]
  rw [hL2] at hml1
  have hl2 := hlen
  rw [hL2] at hl2
  rw [e1]
  refine mM_close hml1 (by omega) ?_
  intro M2 hM2 hml2
  rw [← e1]
  simp only [true_or, or_true, Option.toList_some, Option.toList_none, List.cons_append, List.nil_append]
  refine hK M2 (me_tr (me_to hM1 (fun b j q => by omega)) (me_to hM2 (fun b j q => by omega))) hml2 (fun j q hj => ?_)
  have hlt : j < T.length + 1 := by have := ml_lt hj; simpa using this
  rw [hM2.2.2.2.2 (N + 13) j (by omega), hM2.2.2.2.2 (N + 14) j (by omega), h1 j, h2 j, if_pos (by omega), if_pos (by omega)]
  have := (ml_app h hL2).2.1 j _ (fo_sh_ix hj)
  rw [this.1, this.2]
  refine ⟨rfl, ?_⟩
  show nI (q.2 + d) - nI d = nI q.2
  rw [pk_sub (by omega)]
  congr 1
  omega
theorem mM_ins {P T Q : fo_L} {n e : Nat} {w : Int32} (h : ml N (P ++ Q) M) (hn : n < 20) (h20 : (P ++ Q).length + T.length ≤ 20) (hc : ∀ j q, T[j]? = some q → am_mi M (N + 13) j = nI q.1 ∧ am_mi M (N + 14) j = nI q.2) (l2 l4 l5 l7 l10 : am_V) (hK : ∀ M', me (fun b j => b = N + 1 ∨ b = N + 2 ∨ (b = N ∧ j = 4) ∨ (b = N + 5 ∧ j = n)) M M' → ml N (P ++ (fo_sh e T ++ Q)) M' → am_mi M' (N + 5) n = w → K none M') : am_wp yM_come 198 [.inr (.inl (4, some N)), .inl (nI n), l2, .inl w, l4, l5, .inl (nI T.length), l7, .inl (nI P.length), .inl (nI e), l10] [] M K := by
  have el : (P ++ Q).length = P.length + Q.length := by simp
  rw [el] at h20
  have h4 : am_mi M N 4 = nI (P.length + Q.length) := by rw [h.2.1, el]
  simp only [wM_come_198, wM_come_199, wM_come_202, wM_come_203, wM_come_204, h4]
  refine mM_shr_l _ _ _ _ _ _ _ Q.length M h.1 (by omega) ?_
  intro M1 hM1 h1
  simp only [wM_come_253, wM_come_254]
  rw [show (0 : Int32) = nI 0 from nI_0.symm]
  refine mM_in_l (by omega) _ _ _ _ _ _ T.length 0 M1 (me_s hM1 h.1) (by omega) ?_
  intro M2 hM2 h2 h3
  have h42 : am_mi M2 N 4 = nI (P.length + Q.length) := by rw [hM2.2.2.2.2 N 4 (by omega), hM1.2.2.2.2 N 4 (by omega), h4]
  have hp2 := me_s hM2 (me_s hM1 h.1)
  simp only [wM_come_306, wM_come_307, wM_come_308, wM_come_311, wM_come_313, wM_come_314, wM_come_317, wM_come_318, wM_come_321, wM_come_322, wM_come_324, h42, nI_add, am_mr_si, hp2.2.2.2.2.1, wM_come_323 (am_ok_nI hn (by decide)), nI_clamp (show n < 2 ^ 31 by omega)]
  have hMe : me (fun b j => b = N + 1 ∨ b = N + 2 ∨ (b = N ∧ j = 4) ∨ (b = N + 5 ∧ j = n)) M (am_si (am_si M2 N 4 (nI (P.length + Q.length + T.length))) (N + 5) n w) := me_tr (me_to hM1 (fun b j q => by omega)) (me_tr (me_to hM2 (fun b j q => by omega)) (me_tr (me_si (by omega)) (me_si (by omega))))
  refine hK _ hMe ?_ (by rw [am_mi_si, if_pos ⟨rfl, rfl⟩])
  obtain ⟨hP, -, hQ⟩ := ml_app h (P := P) (R := []) (Q := Q) rfl
  simp only [List.length_nil, Nat.add_zero] at hQ
  refine ml_of3 (me_s hMe h.1) ?_ ?_ ?_ ?_
  · rw [am_mi_si, if_neg (by omega), am_mi_si, if_pos ⟨rfl, rfl⟩, fo_sh_l]; congr 1; omega
  · intro j q hj
    have hl := ml_lt hj
    rw [am_mi_si, if_neg (by omega), am_mi_si, if_neg (by omega), am_mi_si, if_neg (by omega), am_mi_si, if_neg (by omega), h2 j, h3 j, if_neg (by omega), if_neg (by omega), h1 1 (Or.inl rfl), h1 2 (Or.inr rfl), if_neg (by omega), if_neg (by omega)]
    exact hP j q hj
  · intro j q hj
    have hl := ml_lt hj
    rw [fo_sh_l] at hl
    obtain ⟨f, hf, hq2⟩ := fo_sh_xi hj
    rw [am_mi_si, if_neg (by omega), am_mi_si, if_neg (by omega), am_mi_si, if_neg (by omega), am_mi_si, if_neg (by omega), h2, h3, if_pos (by omega), if_pos (by omega), show P.length + j - P.length = j by omega, hM1.2.2.2.2 (N + 13) j (by omega), hM1.2.2.2.2 (N + 14) j (by omega), (hc j _ hf).1, (hc j _ hf).2, hq2, nI_add]
    exact ⟨rfl, rfl⟩
  · intro j q hj
    have hl := ml_lt hj
    rw [fo_sh_l]
    rw [am_mi_si, if_neg (by omega), am_mi_si, if_neg (by omega), am_mi_si, if_neg (by omega), am_mi_si, if_neg (by omega), h2, h3, if_neg (by omega), if_neg (by omega), h1 1 (Or.inl rfl), h1 2 (Or.inr rfl), if_pos (by omega), if_pos (by omega), show P.length + T.length + j - T.length = P.length + j by omega]
    exact hQ j q hj
theorem ml_ok_g {L : fo_L} (hok : fo_ok L) (hlen : L.length ≤ 20) (hn : ∀ x ∈ L.map (·.1), x < 20) : ml_ok L := by
  refine ⟨hok, hlen, fun q hq => ⟨hn q.1 (List.mem_map_of_mem hq), ?_⟩⟩
  obtain ⟨j, hj⟩ := List.mem_iff_getElem?.mp hq
  have h2 := fo_v_ix hok.2 j q hj
  have h3 := ml_lt hj
  omega
theorem fo_cut_ok {L : fo_L} {t : Nat} (hok : fo_ok L) (h : t ∈ L.map (·.1)) : fo_ok (fo_cut L t) ∧ (fo_cut L t).length + ((fo_sub L t).length + 1) = L.length ∧ ∀ x ∈ (fo_cut L t).map (·.1), x ∈ L.map (·.1) := by
  obtain ⟨A, d, B, h1, h2, h3, h4, h5⟩ := fo_cut_form h
  refine ⟨⟨?_, ?_⟩, ?_, fun x hx => ((fo_cut_mem hok h x).mp hx).1⟩
  · have := hok.1
    rw [h1, fo_bl_n] at this
    rw [h2, List.map_append]
    refine List.Nodup.sublist ?_ this
    exact List.Sublist.append (List.Sublist.refl _) (List.sublist_append_right _ _)
  · have := hok.2
    rw [h1] at this
    rw [h2]
    exact fo_blk_v this h3
  · conv => rhs; rw [h1]
    rw [h2]
    simp [fo_bl, fo_sh_l]
    omega
-- the note
def mu_P (N n b j : Nat) : Prop := b = N + 1 ∨ b = N + 2 ∨ (b = N ∧ j = 4) ∨ b = N + 13 ∨ b = N + 14 ∨ (b = N + 5 ∧ j = n) ∨ b = N + 12 ∨ (b = N ∧ j = 15)
theorem mp_h_p {n : Nat} (h : n < 20) : mp_h (nI n) = nI n := if_neg (nI_pos (by omega))
theorem mp_h_n (p : Option Nat) (hp : ∀ q, p = some q → q < 20) : mp_h (ts_nm p) = ts_no p := by
  cases p with
  | none => decide
  | some q => exact mp_h_p (hp q rfl)
theorem mM_note (h : mp N s M) (hs : ts_ok s) {n : Nat} (hn : ts_lv s n) (ht : ts_t s < 2 ^ 30) {v w : Int32} (hK : ∀ M', me (mu_P N n) M M' → (∀ j, am_mi M' N 4 = am_mi M N 4 ∧ am_mi M' (N + 1) j = am_mi M (N + 1) j ∧ am_mi M' (N + 2) j = am_mi M (N + 2) j ∧ am_mi M' (N + 5) j = am_mi M (N + 5) j) → am_mi M' N 15 = nI (ts_t s + 1) → (∀ j, j < 120 → mp_h (am_mi M' (N + 12) j) = ts_ch (ts_note s (nI n) (ts_no (ts_pa s n)) (mp_h v) (mp_h (if v < 0 then -1 else w))) j) → am_wp yM_come 71 [.inr (.inl (4, some N)), .inl (nI n), .inl v, .inl w, .inl (nI (ts_t s % 30 * 4)), am_u, am_u, am_u, am_u, am_u, am_u] [] M' K) : am_wp yM_come 0 [.inr (.inl (4, some N)), .inl (nI n), .inl v, .inl w, am_u, am_u, am_u, am_u, am_u, am_u, am_u] [] M K := by
  have h20 := ts_20 hs hn
  have hm := Nat.mod_lt (ts_t s) (show 0 < 30 by omega)
  have e1 : (4 : Int32) * (nI (ts_t s) - nI (ts_t s) / 30 * 30) = nI (ts_t s % 30 * 4) := by
    have : nI (ts_t s) - nI (ts_t s) / nI 30 * nI 30 = nI (ts_t s % 30) := pk_rem (by omega) (by omega) (by omega)
    rw [show (30 : Int32) = nI 30 from rfl, this, show (4 : Int32) = nI 4 from rfl, pk_mul, Nat.mul_comm]
  have a1 : nI (ts_t s % 30 * 4) + 1 = nI (ts_t s % 30 * 4 + 1) := nI_1 _
  have a2 : nI (ts_t s % 30 * 4) + 2 = nI (ts_t s % 30 * 4 + 2) := nI_add _ 2
  have a3 : nI (ts_t s % 30 * 4) + 3 = nI (ts_t s % 30 * 4 + 3) := nI_add _ 3
  have q12 : am_mr M N 14 = some (N + 12) := h.1.1.2.2.2.2.2.2.2.2.2.2.2.1
  have hov : ∀ (x : Int32) (K : Option am_V → am_M → Prop), am_wp yM_over 0 [.inr (.inl (4, some N)), .inl (nI n), am_u, am_u] [] (am_si M (N + 12) (ts_t s % 30 * 4) x) K = K (some (.inl (ts_nm (ts_pa s n)))) (am_si M (N + 12) (ts_t s % 30 * 4) x) := fun x K => by
    refine mM_over (L := ts_L s) ⟨me_s (P := fun _ _ => True) (me_si trivial) h.1.1, ?_, fun j q hj => ?_⟩ (ml_ok_of hs) hn
    · rw [am_mi_si, if_neg (by omega)]; exact h.1.2.1
    · rw [am_mi_si, if_neg (by omega), am_mi_si, if_neg (by omega)]; exact h.1.2.2 j q hj
  have e2 : ∀ x1 x2 x3 x4 : Int32, am_mi (am_si (am_si (am_si (am_si M (N + 12) (ts_t s % 30 * 4) x1) (N + 12) (ts_t s % 30 * 4 + 1) x2) (N + 12) (ts_t s % 30 * 4 + 2) x3) (N + 12) (ts_t s % 30 * 4 + 3) x4) N 15 = nI (ts_t s) := fun x1 x2 x3 x4 => by
    rw [am_mi_si, if_neg (by omega), am_mi_si, if_neg (by omega), am_mi_si, if_neg (by omega), am_mi_si, if_neg (by omega)]; exact h.2.2.1
  have fin : ∀ x4 : Int32, x4 = (if v < 0 then -1 else w) → am_wp yM_come 71 [.inr (.inl (4, some N)), .inl (nI n), .inl v, .inl w, .inl (nI (ts_t s % 30 * 4)), am_u, am_u, am_u, am_u, am_u, am_u] [] (am_si (am_si (am_si (am_si (am_si M (N + 12) (ts_t s % 30 * 4) (nI n)) (N + 12) (ts_t s % 30 * 4 + 1) (ts_nm (ts_pa s n))) (N + 12) (ts_t s % 30 * 4 + 2) v) (N + 12) (ts_t s % 30 * 4 + 3) x4) N 15 (nI (ts_t s + 1))) K := fun x4 hx => by
    refine hK _ ?_ (fun j => ?_) ?_ (fun j hj => ?_)
    · unfold mu_P
      exact me_tr (me_si (by omega)) (me_tr (me_si (by omega)) (me_tr (me_si (by omega)) (me_tr (me_si (by omega)) (me_si (by omega)))))
    · refine ⟨?_, ?_, ?_, ?_⟩ <;> rw [am_mi_si, if_neg (by omega), am_mi_si, if_neg (by omega), am_mi_si, if_neg (by omega), am_mi_si, if_neg (by omega), am_mi_si, if_neg (by omega)]
    · rw [am_mi_si, if_pos ⟨rfl, rfl⟩]
    · show _ = (if j = ts_t s % 30 * 4 + 3 then mp_h (if v < 0 then -1 else w) else if j = ts_t s % 30 * 4 + 2 then mp_h v else if j = ts_t s % 30 * 4 + 1 then ts_no (ts_pa s n) else if j = ts_t s % 30 * 4 then nI n else ts_ch s j)
      rw [am_mi_si, if_neg (by omega)]
      simp only [am_mi_si, true_and]
      by_cases c3 : j = ts_t s % 30 * 4 + 3
      · rw [if_pos c3, if_pos c3, hx]
      rw [if_neg c3, if_neg c3]
      by_cases c2 : j = ts_t s % 30 * 4 + 2
      · rw [if_pos c2, if_pos c2]
      rw [if_neg c2, if_neg c2]
      by_cases c1 : j = ts_t s % 30 * 4 + 1
      · rw [if_pos c1, if_pos c1, mp_h_n _ (pa_20 hs)]
      rw [if_neg c1, if_neg c1]
      by_cases c0 : j = ts_t s % 30 * 4
      · rw [if_pos c0, if_pos c0, mp_h_p h20]
      rw [if_neg c0, if_neg c0]
      exact h.2.2.2.1 j hj
  simp only [wM_come_0, wM_come_1, wM_come_2, h.2.2.1, wM_come_5, wM_come_7 (show (30 : Int32) ≠ 0 by decide), wM_come_8, wM_come_9, e1, wM_come_11, wM_come_12, q12, wM_come_15, wM_come_17, wM_come_18 (am_ok_nI (show ts_t s % 30 * 4 < 120 by omega) (by decide)), wM_come_19, wM_come_20, wM_come_23, wM_come_25, wM_come_26, wM_come_27, wM_come_28, wM_come_29, hov, true_or, or_true, Option.toList_some, Option.toList_none, List.cons_append, List.nil_append, am_mr_si, nI_clamp (show ts_t s % 30 * 4 < 2 ^ 31 by omega), a1, wM_come_32 (am_ok_nI (show ts_t s % 30 * 4 + 1 < 120 by omega) (by decide)), nI_clamp (show ts_t s % 30 * 4 + 1 < 2 ^ 31 by omega), wM_come_33, wM_come_34, wM_come_37, wM_come_39, wM_come_40, a2, wM_come_41, wM_come_42 (am_ok_nI (show ts_t s % 30 * 4 + 2 < 120 by omega) (by decide)), nI_clamp (show ts_t s % 30 * 4 + 2 < 2 ^ 31 by omega), wM_come_43, wM_come_44, wM_come_47, wM_come_49, wM_come_50, a3, wM_come_51, wM_come_52]
  by_cases c : v < 0
  · simp only [if_pos c, wM_come_55, wM_come_56, wM_come_60 (am_ok_nI (show ts_t s % 30 * 4 + 3 < 120 by omega) (by decide)), nI_clamp (show ts_t s % 30 * 4 + 3 < 2 ^ 31 by omega), wM_come_61, wM_come_62, wM_come_63, wM_come_66, wM_come_67, wM_come_68, e2, nI_1]
    exact fin (-1) (by rw [if_pos c])
  · simp only [if_neg c, wM_come_59, wM_come_60 (am_ok_nI (show ts_t s % 30 * 4 + 3 < 120 by omega) (by decide)), nI_clamp (show ts_t s % 30 * 4 + 3 < 2 ^ 31 by omega), wM_come_61, wM_come_62, wM_come_63, wM_come_66, wM_come_67, wM_come_68, e2, nI_1]
    exact fin w (by rw [if_neg c])
end MU
