-- THE REFERENCE: lose
section MB
variable {N : Nat} {s : ts_S} {K : Option am_V → am_M → Prop} {t : Nat}
theorem mM_lose0 (l1 l2 l3 l5 l6 l7 : am_V) : ∀ (r i : Nat) (M : am_M), mp_s N M → i + r = 20 → (∀ M' l4, me (fun b _ => b = N + 11) M M' → (∀ j, am_mi M' (N + 11) j = if i ≤ j ∧ j < 20 then 0 else am_mi M (N + 11) j) → am_wp yM_lose 53 [.inr (.inl (4, some N)), l1, l2, l3, l4, l5, l6, l7] [] M' K) → am_wp yM_lose 32 [.inr (.inl (4, some N)), l1, l2, l3, .inl (nI i), l5, l6, l7] [] M K := by
  intro r
  induction r with
  | zero =>
    intro i M hp he hK
    have ei : i = 20 := by omega
    subst ei
    rw [wM_lose_32]
    simp only [wM_lose_34, wM_lose_36, nI_nlt20, if_false]
    exact hK M _ (me_rf M) (fun j => by rw [if_neg (by omega)])
  | succ r ih =>
    intro i M hp he hK
    have q11 : am_mr M N 13 = some (N + 11) := hp.2.2.2.2.2.2.2.2.2.2.1
    rw [wM_lose_32]
    simp only [wM_lose_34, wM_lose_36, nI_lt20 (show i < 20 by omega), if_true, wM_lose_39, wM_lose_40, q11, wM_lose_43, wM_lose_45, wM_lose_46 (am_ok_nI (show i < 20 by omega) (by decide)) (Or.inl rfl), nI_clamp (show i < 2 ^ 31 by omega), wM_lose_47, wM_lose_50, nI_1]
    refine ih (i + 1) _ (me_s (P := fun _ _ => True) (me_si trivial) hp) (by omega) ?_
    intro M' l4 hM h1
    refine hK M' l4 (me_tr (me_si rfl) hM) (fun j => ?_)
    rw [h1 j]
    simp only [am_mi_si, true_and]
    by_cases c1 : i + 1 ≤ j ∧ j < 20
    · rw [if_pos c1, if_pos (by omega)]
    · rw [if_neg c1]
      by_cases c2 : j = i
      · rw [if_pos c2, if_pos (by omega)]
      · rw [if_neg c2, if_neg (by omega)]
theorem mp_gp {M : am_M} (h : mp N s M) {j : Nat} {x : Int32} {b : Nat} (hb : b = N + 11 ∨ b = N + 15) : mp N s (am_si M b j x) := mp_kp h (fun _ _ => rfl) (fun c i => by
  by_cases q : c = b
  · rcases hb with z | z
    · exact Or.inr (Or.inl (by omega))
    · exact Or.inr (Or.inr (Or.inr (Or.inr (Or.inl (by omega)))))
  · exact Or.inr (Or.inr (Or.inr (Or.inr (Or.inr (by rw [am_mi_si, if_neg (fun z => q z.1)]))))))
theorem mM_lose1 (hs : ts_ok s) {A r : fo_L} {d : Nat} (hL : ts_L s = A ++ (t, d) :: r) {W : List Nat} (hW : W = ((t, d) :: fo_sg d r).map (·.1)) (hWl : ∀ x ∈ W, ts_lv s x) : ∀ (l l1 D mv : List Nat) (M : am_M) (l7 : am_V), W = l1 ++ l → mp N s M → (∀ x ∈ l, ∃ h, ts_pa s x = some h) → (∀ x, x < 20 → am_mi M (N + 11) x = am_b (decide (x ∈ D))) → (∀ j x, mv[j]? = some x → am_mi M (N + 15) j = nI x) → D.length ≤ l1.length → mv.length ≤ l1.length → (∀ M' l7', mp N s M' → fx_f (mxR N) M M' → (∀ j x, (mv ++ (lo_g s l D).1)[j]? = some x → am_mi M' (N + 15) j = nI x) → am_wp yM_lose 143 [.inr (.inl (4, some N)), .inl (nI t), .inl (nI A.length), .inl (nI W.length), .inl (nI (lo_g s l D).2.length), .inl (nI (mv ++ (lo_g s l D).1).length), .inl (nI W.length), l7'] [] M' K) → am_wp yM_lose 69 [.inr (.inl (4, some N)), .inl (nI t), .inl (nI A.length), .inl (nI W.length), .inl (nI D.length), .inl (nI mv.length), .inl (nI l1.length), l7] [] M K := by
  have hlen : A.length + W.length ≤ 20 := by
    have := (ml_ok_of hs).2.1
    rw [hL] at this
    have h2 : r.length = (fo_sg d r).length + (fo_rs d r).length := by
      conv => lhs; rw [← fo_sr d r]
      rw [List.length_append]
    rw [hW]
    simp at this ⊢
    omega
  intro l
  induction l with
  | nil =>
    intro l1 D mv M l7 hl h hpa hD hmv hDl hml hK
    have e : W.length = l1.length := by rw [hl]; simp
    rw [wM_lose_69]
    simp only [wM_lose_71, wM_lose_72, e, nI_nlt (Nat.le_refl l1.length) (by omega), if_false]
    have := hK M l7 h (fx_f_rf M) (by simpa [lo_g] using hmv)
    rw [e] at this
    simpa [lo_g] using this
  | cons x l ih =>
    intro l1 D mv M l7 hl h hpa hD hmv hDl hml hK
    have e : W.length = l1.length + (l.length + 1) := by rw [hl]; simp
    have hxW : x ∈ W := by rw [hl]; simp
    have hlx := hWl x hxW
    have x20 := ts_20 hs hlx
    obtain ⟨g, hg⟩ := hpa x List.mem_cons_self
    have g20 := ts_20 hs (ts_pa_lv hg)
    have hix : W[l1.length]? = some x := by rw [hl]; simp
    have hrow : am_mi M (N + 1) (A.length + l1.length) = nI x := by
      rw [hW, List.getElem?_map] at hix
      cases hq : ((t, d) :: fo_sg d r)[l1.length]? with
      | none => rw [hq] at hix; cases hix
      | some q =>
        rw [hq] at hix
        have hq1 : q.1 = x := Option.some.inj hix
        have hL2 : ts_L s = A ++ (((t, d) :: fo_sg d r) ++ fo_rs d r) := by rw [hL, List.cons_append, fo_sr]
        have := ((ml_app h.1 hL2).2.1 _ q hq).1
        rw [hq1] at this
        exact this
    have q11 : am_mr M N 13 = some (N + 11) := h.1.1.2.2.2.2.2.2.2.2.2.2.1
    have q15 : am_mr M N 18 = some (N + 15) := h.1.1.2.2.2.2.2.2.2.2.2.2.2.2.2.2
    have w5 := (h.2.2.2.2 x hlx).2.2.1 g hg
    rw [wM_lose_69]
    simp only [wM_lose_71, wM_lose_72, nI_lt (show l1.length < W.length by omega) (show W.length < 2 ^ 31 by omega), if_true, wM_lose_75, wM_lose_76, h.1.1.1, wM_lose_79, wM_lose_80, wM_lose_82, nI_add, wM_lose_83 (am_ok_nI (show A.length + l1.length < 20 by omega) (by decide)), nI_clamp (show A.length + l1.length < 2 ^ 31 by omega), hrow, wM_lose_84, wM_lose_86, wM_lose_87, q11, wM_lose_90, wM_lose_91, wM_lose_93, mM_ovS h hs hg, true_or, or_true, Option.toList_some, Option.toList_none, List.cons_append, List.nil_append, wM_lose_96 (am_ok_nI g20 (by decide)), nI_clamp (show g < 2 ^ 31 by omega), hD g g20, wM_lose_97, am_b0]
    have hl' : W = (l1 ++ [x]) ++ l := by rw [hl]; simp
    have hpa' : ∀ y ∈ l, ∃ h, ts_pa s y = some h := fun y hy => hpa y (List.mem_cons_of_mem _ hy)
    have e1 : nI l1.length + 1 = nI (l1 ++ [x]).length := by rw [nI_1]; simp
    by_cases c : g ∈ D
    · simp only [c, decide_true, reduceCtorEq, if_false, wM_lose_100, wM_lose_101, h.1.1.2.2.2.2.1, wM_lose_104, wM_lose_106 (am_ok_nI x20 (by decide)), nI_clamp (show x < 2 ^ 31 by omega), w5, wM_lose_107, wM_lose_108]
      by_cases c4 : ts_wy s x = 4
      · have el : lo_g s (x :: l) D = lo_g s l (x :: D) := by simp only [lo_g, hg, c, c4, if_true]
        rw [el] at hK
        simp only [c4, if_true, wM_lose_111, wM_lose_112, q11, wM_lose_115, wM_lose_117, wM_lose_118 (am_ok_nI x20 (by decide)) (Or.inr rfl), nI_clamp (show x < 2 ^ 31 by omega), wM_lose_119, wM_lose_122, wM_lose_137, wM_lose_140, e1]
        rw [show nI D.length + 1 = nI (x :: D).length by rw [nI_1]; rfl]
        refine ih (l1 ++ [x]) (x :: D) mv _ _ hl' (mp_gp h (Or.inl rfl)) hpa' (fun y hy => ?_) (fun j y hj => ?_) (by simp; omega) (by simp; omega) ?_
        · rw [am_mi_si]
          by_cases cy : y = x
          · rw [if_pos ⟨rfl, cy⟩]; simp [cy, am_b]
          · rw [if_neg (fun q => cy q.2), hD y hy]; simp [cy]
        · rw [am_mi_si, if_neg (by omega)]; exact hmv j y hj
        · intro M' l7' m1 m2 m3
          exact hK M' l7' m1 (fx_f_tr (fx_f_si (by unfold mxR; omega)) m2) m3
      · have el : lo_g s (x :: l) D = (x :: (lo_g s l D).1, (lo_g s l D).2) := by simp only [lo_g, hg, c, c4, if_true, if_false]
        rw [el] at hK
        simp only [c4, if_false, wM_lose_125, wM_lose_126, q15, wM_lose_129, wM_lose_131, wM_lose_133 (am_ok_nI (show mv.length < 21 by omega) (by decide)), nI_clamp (show mv.length < 2 ^ 31 by omega), wM_lose_134, wM_lose_137, wM_lose_140, e1]
        rw [show nI mv.length + 1 = nI (mv ++ [x]).length by rw [nI_1]; simp]
        refine ih (l1 ++ [x]) D (mv ++ [x]) _ _ hl' (mp_gp h (Or.inr rfl)) hpa' (fun y hy => ?_) (fun j y hj => ?_) (by simp; omega) (by simp; omega) ?_
        · rw [am_mi_si, if_neg (by omega)]; exact hD y hy
        · rw [am_mi_si]
          by_cases cj : j = mv.length
          · rw [if_pos ⟨rfl, cj⟩]
            subst cj
            simp at hj
            rw [hj]
          · rw [if_neg (fun q => cj q.2)]
            have hjl : j < (mv ++ [x]).length := by
              rcases Nat.lt_or_ge j (mv ++ [x]).length with z | z
              · exact z
              · rw [List.getElem?_eq_none z] at hj; cases hj
            rw [List.length_append, List.length_singleton] at hjl
            rw [List.getElem?_append_left (by omega)] at hj
            exact hmv j y hj
        · intro M' l7' m1 m2 m3
          have ea : mv ++ [x] ++ (lo_g s l D).1 = mv ++ x :: (lo_g s l D).1 := by simp
          rw [ea] at m3 ⊢
          exact hK M' l7' m1 (fx_f_tr (fx_f_si (by unfold mxR; omega)) m2) m3
    · have el : lo_g s (x :: l) D = lo_g s l D := by simp only [lo_g, hg, c, if_false]
      rw [el] at hK
      simp only [c, decide_false, if_true, wM_lose_137, wM_lose_140, e1]
      exact ih (l1 ++ [x]) D mv M _ hl' h hpa' hD hmv (by simp; omega) (by simp; omega) hK
theorem mM_lose2 {mv : List Nat} (hmv20 : mv.length ≤ 20) (v1 v2 v3 v4 l7 : am_V) : ∀ (l l1 : List Nat) (c : ts_S) (M : am_M), mv = l1 ++ l → mp N c M → ts_ok c → (∀ x ∈ l, ts_lv c x) → ts_t c + l.length < 2 ^ 30 → (∀ j x, mv[j]? = some x → am_mi M (N + 15) j = nI x) → (∀ M' l6, mp N (l.foldl ts_gone c) M' → fx_f (mxR N) M M' → am_wp yM_lose 172 [.inr (.inl (4, some N)), v1, v2, v3, v4, .inl (nI mv.length), l6, l7] [] M' K) → am_wp yM_lose 146 [.inr (.inl (4, some N)), v1, v2, v3, v4, .inl (nI mv.length), .inl (nI l1.length), l7] [] M K := by
  intro l
  induction l with
  | nil =>
    intro l1 c M hl h hc hlv ht hpt hK
    have e : mv.length = l1.length := by rw [hl]; simp
    rw [wM_lose_146]
    simp only [wM_lose_148, wM_lose_150, nI_nlt (show mv.length ≤ l1.length by omega) (by omega), if_false]
    exact hK M _ h (fx_f_rf M)
  | cons x l ih =>
    intro l1 c M hl h hc hlv ht hpt hK
    have e : mv.length = l1.length + (l.length + 1) := by rw [hl]; simp
    have hx := hlv x List.mem_cons_self
    have hix : mv[l1.length]? = some x := by rw [hl]; simp
    have q15 : am_mr M N 18 = some (N + 15) := h.1.1.2.2.2.2.2.2.2.2.2.2.2.2.2.2
    rw [List.length_cons] at ht
    rw [wM_lose_146]
    simp only [wM_lose_148, wM_lose_150, nI_lt (show l1.length < mv.length by omega) (by omega), if_true, wM_lose_153, wM_lose_154, wM_lose_155, q15, wM_lose_158, wM_lose_160 (am_ok_nI (show l1.length < 21 by omega) (by decide)), nI_clamp (show l1.length < 2 ^ 31 by omega), hpt _ _ hix, wM_lose_161, wM_lose_162, wM_lose_163]
    refine mM_gone h hc hx (by omega) (fun M1 h1 f1 => ?_)
    simp only [true_or, or_true, Option.toList_some, Option.toList_none, List.cons_append, List.nil_append, wM_lose_166, wM_lose_169]
    rw [show nI l1.length + 1 = nI (l1 ++ [x]).length by rw [nI_1]; simp]
    refine ih (l1 ++ [x]) (ts_gone c x) M1 (by rw [hl]; simp) h1 (ts_ok_gone hc hx) (fun y hy => (gone_lv hc.1 hx y).mpr (hlv y (List.mem_cons_of_mem _ hy))) (by show ts_t c + 1 + l.length < 2 ^ 30; omega) (fun j y hj => ?_) ?_
    · rw [f1.2.2.2.2 (N + 15) j (by unfold mu_P; omega)]; exact hpt j y hj
    · intro M' l6 m1 m2
      exact hK M' l6 m1 (fx_f_tr (mu_fx f1) m2)
theorem rb_m1 : ∀ r, r < 20 → ((-1 : Int32).toBitVec).getLsbD r = true := by decide +kernel
theorem rb_c {l r : Nat} (hl : l < 20) (hr : r < 20) (hne : r ≠ l) (x : Int32) : rb (x &&& ((1 : Int32) <<< (nI l &&& 31) ^^^ (-1))) r = rb x r := by
  unfold rb
  rw [Int32.toBitVec_and, Int32.toBitVec_xor, BitVec.getLsbD_and, BitVec.getLsbD_xor, rb_1 l hl, BitVec.getLsbD_twoPow, rb_m1 r hr]
  simp [Ne.symm hne]
theorem mp_rc {M : am_M} (h : mp N s M) (ht20 : t < 20) (hnl : ¬ ts_lv s t) (htm : t < ts_m s) {i : Nat} : mp N s (am_si M (N + 10) i (am_mi M (N + 10) i &&& ((1 : Int32) <<< (nI t &&& 31) ^^^ (-1)))) := by
  refine mp_st (s' := s) h rfl rfl rfl rfl (me_si (by omega)) (fun x hx => ?_)
  have o := h.2.2.2.2 x hx
  unfold mp_o at o ⊢
  refine ⟨?_, ?_, ?_, ?_, ?_, ?_, ?_, ?_⟩
  · rw [am_mi_si, if_neg (by omega)]; exact o.1
  · rw [am_mi_si, if_neg (by omega)]; exact o.2.1
  · intro p hp; rw [am_mi_si, if_neg (by omega)]; exact o.2.2.1 p hp
  · rw [am_mi_si, if_neg (by omega)]; exact o.2.2.2.1
  · rw [am_mi_si, if_neg (by omega)]; exact o.2.2.2.2.1
  · intro z; rw [am_mi_si, if_neg (by omega)]; exact o.2.2.2.2.2.1 z
  · intro z; rw [am_mi_si, if_neg (by omega)]; exact o.2.2.2.2.2.2.1 z
  · intro r hr hl
    have hne : r ≠ t := fun z => by
      subst z
      rcases hl with q | q
      · exact hnl q
      · omega
    have o8 := o.2.2.2.2.2.2.2 r hr hl
    rw [am_mi_si]
    by_cases c : x = i
    · rw [if_pos ⟨rfl, c⟩, rb_c ht20 hr hne, ← c]; exact o8
    · rw [if_neg (fun q => c q.2)]; exact o8
theorem mM_lose3 (ht20 : t < 20) (hnl : ¬ ts_lv s t) (htm : t < ts_m s) (hm20 : ts_m s ≤ 20) (l2 l3 l4 l5 l7 : am_V) : ∀ (r i : Nat) (M : am_M), mp N s M → i + r = 20 → (∀ M' l6, mp N s M' → fx_f (mxR N) M M' → am_wp yM_lose 244 [.inr (.inl (4, some N)), .inl (nI t), l2, l3, l4, l5, l6, l7] [] M' K) → am_wp yM_lose 186 [.inr (.inl (4, some N)), .inl (nI t), l2, l3, l4, l5, .inl (nI i), l7] [] M K := by
  intro r
  induction r with
  | zero =>
    intro i M h he hK
    have ei : i = 20 := by omega
    subst ei
    rw [wM_lose_186]
    simp only [wM_lose_188, wM_lose_190, nI_nlt20, if_false]
    exact hK M _ h (fx_f_rf M)
  | succ r ih =>
    intro i M h he hK
    have nxt := ih (i + 1) M h (by omega) hK
    have nxt2 := ih (i + 1) _ (mp_rc (i := i) h ht20 hnl htm) (by omega) (fun M' l6 m1 m2 => hK M' l6 m1 (fx_f_tr (fx_f_si (by unfold mxR; omega)) m2))
    have q3 : am_mr M N 5 = some (N + 3) := h.1.1.2.2.1
    have q10 : am_mr M N 12 = some (N + 10) := h.1.1.2.2.2.2.2.2.2.2.2.1
    rw [wM_lose_186]
    simp only [wM_lose_188, wM_lose_190, nI_lt20 (show i < 20 by omega), if_true, wM_lose_193, wM_lose_195, wM_lose_196, h.2.1, wM_lose_199, nI_ltI (show i < 2 ^ 31 by omega) (show ts_m s < 2 ^ 31 by omega), wM_lose_202, wM_lose_203, q3, wM_lose_206, wM_lose_208 (am_ok_nI (show i < 20 by omega) (by decide)), nI_clamp (show i < 2 ^ 31 by omega), wM_lose_209, wM_lose_211, wM_lose_214, wM_lose_215, wM_lose_218, wM_lose_219 (am_ok_nI ht20 (by decide)), nI_clamp (show t < 2 ^ 31 by omega), wM_lose_220, wM_lose_223, wM_lose_224, q10, wM_lose_227, wM_lose_229, wM_lose_230 (am_ok_nI (show i < 20 by omega) (by decide)), wM_lose_231, wM_lose_232, wM_lose_233, wM_lose_234, wM_lose_235, wM_lose_236, wM_lose_237 (am_ok_nI (show i < 20 by omega) (by decide)), wM_lose_238, wM_lose_241, nI_1]
    by_cases c1 : i < ts_m s
    · rw [if_pos c1]
      by_cases c2 : am_mi M (N + 3) i = 6
      · rw [if_pos c2]
        by_cases c3 : am_mi M (N + 3) t = 0
        · rw [if_pos c3]; exact nxt2
        · rw [if_neg c3]; exact nxt
      · rw [if_neg c2]; exact nxt
    · rw [if_neg c1]; exact nxt
theorem lo_len (hs : ts_ok s) (ht : ts_lv s t) : (fo_w (ts_L (lo_s s t)) t).length = (lo_r s t).2.length := by
  obtain ⟨u1, u2, u3, u4⟩ := lo_u_w hs ht
  have hnd := (lo_all hs ht).2.1
  have hw := fo_w_nd u1.1 t
  have e1 : (fo_w (ts_L (lo_u s t)) t).length = (lo_r s t).2.length := ((List.perm_ext_iff_of_nodup hw hnd).mpr u4).length_eq
  have gl : ∀ {L : fo_L}, t ∈ L.map (·.1) → (fo_w L t).length = (fo_sub L t).length + 1 := fun {L} h => by
    obtain ⟨A, d, r, h1, h2⟩ := fo_split h
    have hsp : fo_sp L t = some (A, d, r) := by rw [h1]; exact fo_sp_app h2
    have : fo_sub L t = (fo_sg d r).map (fun q => (q.1, q.2 - d)) := by unfold fo_sub; rw [hsp]
    rw [this, h1, fo_w_at h2]
    simp
  obtain ⟨d1, d2, -⟩ := gone_fold (lo_r s t).1 s hs (fun x hx => (fo_w_mem ((lo_all hs ht).2.2.2.2.1 x hx).1).2)
  have hl3 : ts_lv (lo_s s t) t := (d2 t).mpr ht
  rw [gl hl3, ← (lo_eq hs ht).2, ← gl u2, e1]
theorem mM_lose {M : am_M} (h : mp N s M) (hs : ts_ok s) (ht : ts_t s + 20 < 2 ^ 30) (v : Int32) (hK : ∀ M', mp N (sp_lose s v).2 M' → fx_f (mxR N) M M' → K (some (.inl (sp_lose s v).1)) M') : am_wp yM_lose 0 [.inr (.inl (4, some N)), .inl v, am_u, am_u, am_u, am_u, am_u, am_u] [] M K := by
  have h' := mp_th h
  have f0 : fx_f (mxR N) M (am_si M N 0 0) := fx_th0
  cases hv : ts_id s v with
  | none => simpa [wM_lose_0, wM_lose_1, wM_lose_2, wM_lose_5, wM_lose_6, wM_lose_7, wM_lose_10, wM_lose_13, wM_lose_14, wM_lose_15, wM_lose_16, wM_lose_17, wM_lose_20, wM_lose_21, wM_lose_22, wM_lose_23, wM_lose_26, wM_lose_27, wM_lose_28, wM_lose_29, wM_lose_30, wM_lose_34, wM_lose_36, wM_lose_39, wM_lose_40, wM_lose_43, wM_lose_45, wM_lose_47, wM_lose_50, wM_lose_53, wM_lose_54, wM_lose_57, wM_lose_58, wM_lose_60, wM_lose_61, wM_lose_63, wM_lose_64, wM_lose_66, wM_lose_67, wM_lose_71, wM_lose_72, wM_lose_75, wM_lose_76, wM_lose_79, wM_lose_80, wM_lose_82, wM_lose_84, wM_lose_86, wM_lose_87, wM_lose_90, wM_lose_91, wM_lose_93, wM_lose_97, wM_lose_100, wM_lose_101, wM_lose_104, wM_lose_107, wM_lose_108, wM_lose_111, wM_lose_112, wM_lose_115, wM_lose_117, wM_lose_119, wM_lose_122, wM_lose_125, wM_lose_126, wM_lose_129, wM_lose_131, wM_lose_134, wM_lose_137, wM_lose_140, wM_lose_143, wM_lose_144, wM_lose_148, wM_lose_150, wM_lose_153, wM_lose_154, wM_lose_155, wM_lose_158, wM_lose_161, wM_lose_162, wM_lose_163, wM_lose_166, wM_lose_169, wM_lose_172, wM_lose_173, wM_lose_174, wM_lose_175, wM_lose_178, wM_lose_180, wM_lose_183, wM_lose_184, wM_lose_188, wM_lose_190, wM_lose_193, wM_lose_195, wM_lose_196, wM_lose_199, wM_lose_202, wM_lose_203, wM_lose_206, wM_lose_209, wM_lose_211, wM_lose_214, wM_lose_215, wM_lose_218, wM_lose_220, wM_lose_223, wM_lose_224, wM_lose_227, wM_lose_229, wM_lose_231, wM_lose_232, wM_lose_233, wM_lose_234, wM_lose_235, wM_lose_236, wM_lose_238, wM_lose_241, wM_lose_244, wM_lose_246, mM_is h' hs, hv, am_b] using sp_gt hK (c := -1) (s' := s) (by simp [sp_lose, hv]) h' f0
  | some t =>
    obtain ⟨rfl, hlt, t20⟩ := ts_id_some hv
    have ho := ml_ok_of hs
    obtain ⟨A, d, r, hL, hA⟩ := fo_split hlt
    have hi : (ts_L s)[A.length]? = some (t, d) := by rw [hL]; simp
    have hw : fo_w (ts_L s) t = ((t, d) :: fo_sg d r).map (·.1) := by rw [hL, fo_w_at hA]; rfl
    have hwl : (fo_w (ts_L s) t).length = (fo_sg d r).length + 1 := by rw [hw]; simp
    have hlen := ho.2.1
    have hl2 : A.length + 1 + (fo_sg d r).length ≤ 20 := by
      have h2 : r.length = (fo_sg d r).length + (fo_rs d r).length := by
        conv => lhs; rw [← fo_sr d r]
        rw [List.length_append]
      rw [hL] at hlen
      simp at hlen
      omega
    have hsub : nI (A.length + 1 + (fo_sg d r).length) - nI A.length = nI (fo_w (ts_L s) t).length := by rw [pk_sub (by omega), hwl]; congr 1; omega
    obtain ⟨b1, b2, b3, b4, b5, b6, b7, b8⟩ := lo_all hs hlt
    have hwc := fo_w_cons hlt
    simp only [wM_lose_0, wM_lose_1, wM_lose_2, wM_lose_5, wM_lose_6, wM_lose_7, mM_is h' hs, hv, Option.isSome_some, true_or, or_true, Option.toList_some, Option.toList_none, List.cons_append, List.nil_append, wM_lose_10, am_b0, reduceCtorEq, if_false, wM_lose_15, wM_lose_16, wM_lose_17, mM_at h'.1 ho hi, wM_lose_20, wM_lose_21, wM_lose_22, wM_lose_23, mM_end h'.1 ho hL, wM_lose_26, wM_lose_27, hsub, wM_lose_28, wM_lose_29, wM_lose_30]
    rw [show (0 : Int32) = nI 0 from nI_0.symm]
    refine mM_lose0 _ _ _ _ _ _ 20 0 _ h'.1.1 (by omega) ?_
    intro M1 l4 hM1 k1
    have h1 : mp N s M1 := mp_kp h' hM1.2.2.2.1 (fun b j => by
      by_cases q : b = N + 11
      · exact Or.inr (Or.inl q)
      · exact Or.inr (Or.inr (Or.inr (Or.inr (Or.inr (hM1.2.2.2.2 b j q))))))
    have f1 : fx_f (mxR N) M M1 := fx_f_tr f0 (me_fx hM1 (fun b j q => by unfold mxR; omega))
    have q11 : am_mr M1 N 13 = some (N + 11) := h1.1.1.2.2.2.2.2.2.2.2.2.2.1
    simp only [wM_lose_53, wM_lose_54, q11, wM_lose_57, wM_lose_58, wM_lose_59 (am_ok_nI t20 (by decide)) (Or.inr rfl), nI_clamp (show t < 2 ^ 31 by omega), wM_lose_60, wM_lose_61, wM_lose_63, wM_lose_64, wM_lose_66, wM_lose_67]
    have key := mM_lose1 (K := K) (N := N) (t := t) hs hL hw (fun x hx => (fo_w_mem hx).2) (fo_w (ts_L s) t).tail [t] [t] [] (am_si M1 (N + 11) t 1) am_u hwc (mp_gp h1 (Or.inl rfl)) (fun x hx => ?_) (fun x hx => ?_) (fun j x hj => by cases hj) (by simp) (by simp) ?_
    · exact key
    · have hne : t ≠ x := fun z => by
        have hnd := fo_w_nd hs.1 t
        rw [hwc] at hnd
        exact (List.nodup_append.mp hnd).2.2 t (by simp) x hx z
      have hxw : x ∈ fo_w (ts_L s) t := by rw [hwc]; exact List.mem_append_right _ hx
      obtain ⟨p, hp, -⟩ := fo_w_up hs.1 hxw hne
      exact ⟨p, hp⟩
    · rw [am_mi_si]
      by_cases c : x = t
      · rw [if_pos ⟨rfl, c⟩]; simp [c, am_b]
      · rw [if_neg (fun q => c q.2), k1 x, if_pos (by omega)]; simp [c, am_b]
    · intro M2 l7 h2 f2 k2
      rw [List.nil_append] at k2 ⊢
      have f02 : fx_f (mxR N) M M2 := fx_f_tr (fx_f_tr f1 (fx_f_si (by unfold mxR; omega))) f2
      have hmvl : (lo_r s t).1.length ≤ 20 := nd_len 20 _ b6 (fun x hx => ts_20 hs (fo_w_mem (b5 x hx).1).2)
      have hlvm : ∀ x ∈ (lo_r s t).1, ts_lv s x := fun x hx => (fo_w_mem (b5 x hx).1).2
      simp only [wM_lose_143, wM_lose_144]
      rw [show (0 : Int32) = nI ([] : List Nat).length from nI_0.symm]
      refine mM_lose2 (mv := (lo_r s t).1) hmvl _ _ _ _ _ (lo_r s t).1 [] s M2 rfl h2 hs hlvm (by omega) k2 ?_
      intro M3 l6 h3 f3
      obtain ⟨d1, d2, d3, d4, d5, d6, d7⟩ := gone_fold (lo_r s t).1 s hs hlvm
      have h3' : mp N (lo_s s t) M3 := h3
      have hs3 : ts_ok (lo_s s t) := d1
      have hl3 : ts_lv (lo_s s t) t := (d2 t).mpr hlt
      have ho3 := ml_ok_of hs3
      obtain ⟨A3, e3, r3, hL3, hA3⟩ := fo_split hl3
      have hi3 : (ts_L (lo_s s t))[A3.length]? = some (t, e3) := by rw [hL3]; simp
      have hL3' : ts_L (lo_s s t) = A3 ++ (((t, e3) :: fo_sg e3 r3) ++ fo_rs e3 r3) := by rw [hL3, List.cons_append, fo_sr]
      have hT : (lo_r s t).2.length = ((t, e3) :: fo_sg e3 r3).length := by
        rw [← lo_len hs hlt, hL3, fo_w_at hA3]
        simp
      have hcut : fo_cut (ts_L (lo_s s t)) t = A3 ++ fo_rs e3 r3 := by
        have : fo_sp (ts_L (lo_s s t)) t = some (A3, e3, r3) := by rw [hL3]; exact fo_sp_app hA3
        unfold fo_cut
        rw [this]
      have hlo : (lo_g s (fo_w (ts_L s) t).tail [t]).2.length = (lo_r s t).2.length := rfl
      simp only [wM_lose_172, wM_lose_173, wM_lose_174, wM_lose_175, mM_at h3'.1 ho3 hi3, true_or, or_true, Option.toList_some, Option.toList_none, List.cons_append, List.nil_append, wM_lose_178, wM_lose_180, hlo]
      rw [hT]
      have hml3 := h3'.1
      rw [hL3'] at hml3
      refine mM_close hml3 (by rw [← hL3']; exact ho3.2.1) ?_
      intro M4 hM4 hml4
      rw [← hcut] at hml4
      have hcm := fun x => fo_cut_mem hs3.1 hl3 x
      have h4 : mp N (ts_setL (lo_s s t) (fo_cut (ts_L (lo_s s t)) t)) M4 := by
        have g := hM4.2.2.2.2
        refine ⟨hml4, ?_, ?_, fun j hj => ?_, fun x hx => ?_⟩
        · rw [g N 1 (by omega)]; exact h3'.2.1
        · rw [g N 15 (by omega)]; exact h3'.2.2.1
        · rw [g (N + 12) j (by omega)]; exact h3'.2.2.2.1 j hj
        · have hx' := ((hcm x).mp hx).1
          have o := h3'.2.2.2.2 x hx'
          unfold mp_o at o ⊢
          rw [g (N + 3) x (by omega), g (N + 4) x (by omega), g (N + 5) x (by omega), g (N + 6) x (by omega), g (N + 7) x (by omega), g (N + 8) x (by omega), g (N + 9) x (by omega), g (N + 10) x (by omega)]
          refine ⟨o.1, o.2.1, fun p hp => o.2.2.1 p ?_, o.2.2.2.1, o.2.2.2.2.1, o.2.2.2.2.2.1, o.2.2.2.2.2.2.1, fun r hr hl => o.2.2.2.2.2.2.2 r hr (hl.imp_left (fun q => ((hcm r).mp q).1))⟩
          have := (fo_cut_o hs3.1 hl3 hx).1
          exact this.symm.trans hp
      have hnl4 : ¬ ts_lv (ts_setL (lo_s s t) (fo_cut (ts_L (lo_s s t)) t)) t := fun q => ((hcm t).mp q).2 (fo_w_self hl3)
      simp only [true_or, or_true, Option.toList_some, Option.toList_none, List.cons_append, List.nil_append, wM_lose_183, wM_lose_184]
      rw [show (0 : Int32) = nI 0 from nI_0.symm]
      refine mM_lose3 t20 hnl4 (hs3.2.1 t hl3) hs3.2.2.1 _ _ _ _ _ 20 0 M4 h4 (by omega) ?_
      intro M5 l6' h5 f5
      simp only [wM_lose_244, wM_lose_246]
      rw [← hT]
      exact sp_gt hK (by simp [sp_lose, hv]) h5 (fx_f_tr (fx_f_tr (fx_f_tr f02 f3) (me_fx hM4 (fun b j q => by unfold mxR; omega))) f5)
end MB
