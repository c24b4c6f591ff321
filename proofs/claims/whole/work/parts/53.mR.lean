-- THE REFERENCE: the route
section MR
theorem rb_s {x : Int32} {l : Nat} (hl : l < 20) : (x >>> (nI l &&& 31)) &&& 1 = (if rb x l = true then 1 else 0) := by
  have hs : ∀ l, l < 20 → ((nI l &&& 31).toBitVec.smod 32).toNat = l := by decide +kernel
  apply Int32.toBitVec_inj.mp
  rw [Int32.toBitVec_and, Int32.toBitVec_shiftRight]
  have e : ((x.toBitVec.sshiftRight' ((nI l &&& 31).toBitVec.smod 32)) &&& (1 : Int32).toBitVec).getLsbD 0 = rb x l := by
    unfold rb
    show ((x.toBitVec.sshiftRight ((nI l &&& 31).toBitVec.smod 32).toNat) &&& (1 : Int32).toBitVec).getLsbD 0 = _
    rw [hs l hl, BitVec.getLsbD_and, BitVec.getLsbD_sshiftRight]
    simp [show l < 32 by omega]
  apply BitVec.eq_of_getLsbD_eq
  intro i hi
  cases i with
  | zero =>
    refine e.trans ?_
    cases rb x l <;> decide
  | succ i =>
    rw [BitVec.getLsbD_and]
    have : ∀ i, i + 1 < 32 → (1 : Int32).toBitVec.getLsbD (i + 1) = false ∧ (if true = true then (1 : Int32) else 0).toBitVec.getLsbD (i + 1) = false ∧ (if false = true then (1 : Int32) else 0).toBitVec.getLsbD (i + 1) = false := fun i _ => ⟨by simp [show (1 : Int32).toBitVec = 1#32 from rfl], by simp [show (1 : Int32).toBitVec = 1#32 from rfl], by simp [show (0 : Int32).toBitVec = 0#32 from rfl]⟩
    obtain ⟨t1, t2, t3⟩ := this i hi
    rw [t1, Bool.and_false]
    cases rb x l
    · exact t3.symm
    · exact t2.symm
variable {N : Nat} {s : ts_S} {M M' : am_M} {K : Option am_V → am_M → Prop} {n p t : Nat}
-- roots
theorem fo_w_root {L : fo_L} (hok : fo_ok L) : ∀ t, t ∈ L.map (·.1) → t ∈ fo_w L (fo_r L t) := by
  refine fo_ind hok (fun t ht hp => ?_) (fun t q hp ih => ?_)
  · rw [fo_r_none hok ht hp]; exact fo_w_self ht
  · rw [fo_r_some hok hp]; exact fo_w_down hok hp ih
theorem fo_w_r {L : fo_L} {x : Nat} (hok : fo_ok L) : ∀ t, t ∈ L.map (·.1) → t ∈ fo_w L x → fo_r L t = fo_r L x := by
  refine fo_ind hok (fun t ht hp hw => ?_) (fun t q hp ih hw => ?_)
  · by_cases e : x = t
    · rw [e]
    · obtain ⟨g, g1, -⟩ := fo_w_up hok hw e
      rw [hp] at g1; cases g1
  · by_cases e : x = t
    · rw [e]
    · obtain ⟨g, g1, g2⟩ := fo_w_up hok hw e
      rw [hp] at g1; cases g1
      rw [fo_r_some hok hp]; exact ih g2
theorem fo_c_r {L : fo_L} (hok : fo_ok L) : ∀ x, x ∈ L.map (·.1) → ∀ y ∈ fo_c L x, y ∈ L.map (·.1) ∧ fo_r L y = fo_r L x := by
  refine fo_ind hok (fun x hx hp y hy => ?_) (fun x q hp ih y hy => ?_)
  · rw [fo_c_none hok hx hp] at hy
    rw [List.mem_singleton.mp hy]; exact ⟨hx, rfl⟩
  · rw [fo_c_some hok hp] at hy
    rcases List.mem_cons.mp hy with rfl | hy
    · exact ⟨(fo_p_mem hp).1, rfl⟩
    · rw [fo_r_some hok hp]; exact ih y hy
theorem fo_c_top {L : fo_L} (hok : fo_ok L) : ∀ x, x ∈ L.map (·.1) → fo_r L x ∈ fo_c L x := by
  refine fo_ind hok (fun x hx hp => ?_) (fun x q hp ih => ?_)
  · rw [fo_c_none hok hx hp, fo_r_none hok hx hp]; simp
  · rw [fo_c_some hok hp, fo_r_some hok hp]; exact List.mem_cons_of_mem _ ih
theorem fo_c_len {L : fo_L} (hok : fo_ok L) : ∀ x, x ∈ L.map (·.1) → (fo_c L x).length ≤ fo_d L x + 1 := by
  refine fo_ind hok (fun x hx hp => ?_) (fun x q hp ih => ?_)
  · rw [fo_c_none hok hx hp]; simp
  · rw [fo_c_some hok hp, fo_p_deep hok hp, List.length_cons]; omega
-- holders of t that stand over it are on its chain
theorem fo_w_c {L : fo_L} {u : Nat} (hok : fo_ok L) : ∀ t, t ∈ L.map (·.1) → t ∈ fo_w L u → u ∈ fo_c L t := by
  refine fo_ind hok (fun t ht hp hw => ?_) (fun t q hp ih hw => ?_)
  · by_cases e : u = t
    · rw [fo_c_none hok ht hp, e]; simp
    · obtain ⟨g, g1, -⟩ := fo_w_up hok hw e
      rw [hp] at g1; cases g1
  · rw [fo_c_some hok hp]
    by_cases e : u = t
    · rw [e]; simp
    · obtain ⟨g, g1, g2⟩ := fo_w_up hok hw e
      rw [hp] at g1; cases g1
      exact List.mem_cons_of_mem _ (ih g2)
theorem ls_til_le (u : Nat) (l : List Nat) : (ls_til u l).length ≤ l.length := by
  induction l with
  | nil => simp [ls_til]
  | cons x l ih =>
    unfold ls_til
    split
    · simp
    · simp only [List.length_cons]; omega
theorem tq_dnl_c (s : ts_S) (p : Nat) (sg : Bool) (x : Nat) : ∀ (l : List Nat) (acc : Option Nat), tq_dnl s p sg (l ++ [x]) acc = if tq_bar s p sg x = true then ts_pa s x else tq_dnl s p sg l acc := by
  intro l
  induction l with
  | nil => intro acc; rfl
  | cons y l ih => intro acc; rw [List.cons_append, tq_dnl, ih]; rfl
def tq_r0 (s : ts_S) (p t : Nat) (sg : Bool) : Int32 := if tq_ro s p t sg < 0 then tq_ro s p t sg else 0
theorem bar_neg : ∀ b, b < 20 → (-10 : Int32) - nI b < 0 := by decide +kernel
-- up
theorem mM_up (h : mp N s M) (hs : ts_ok s) (hpl : p < 20) (sg : Bool) (stop : Nat → Bool) (l2 l4 l5 : am_V) (l8 l9 : am_V)
    (hstop : ∀ x, ts_lv s x → ∀ l7, am_wp yM_route 64 [.inr (.inl (4, some N)), .inl (nI p), l2, .inl (am_b (!sg)), l4, l5, .inl (nI x), l7, l8, l9] [] M K = if stop x = true then am_wp yM_route 123 [.inr (.inl (4, some N)), .inl (nI p), l2, .inl (am_b (!sg)), l4, l5, .inl (nI x), l7, l8, l9] [] M K else am_wp yM_route 89 [.inr (.inl (4, some N)), .inl (nI p), l2, .inl (am_b (!sg)), l4, l5, .inl (nI x), l7, l8, l9] [] M K) (u : Nat) :
    ∀ x, x ∈ (ts_L s).map (·.1) → (fo_c (ts_L s) x).find? stop = some u → (∀ b, tq_upl s p sg (ls_til u (fo_c (ts_L s) x)) = some b → K (some (.inl (-10 - nI b))) M) → (tq_upl s p sg (ls_til u (fo_c (ts_L s) x)) = none → ∀ l7, am_wp yM_route 123 [.inr (.inl (4, some N)), .inl (nI p), l2, .inl (am_b (!sg)), l4, l5, .inl (nI u), l7, l8, l9] [] M K) → ∀ l7, am_wp yM_route 64 [.inr (.inl (4, some N)), .inl (nI p), l2, .inl (am_b (!sg)), l4, l5, .inl (nI x), l7, l8, l9] [] M K := by
  refine fo_ind hs.1 (fun x hx hp hf hb hn l7 => ?_) (fun x q hp ih hf hb hn l7 => ?_)
  · rw [fo_c_none hs.1 hx hp] at hf hb hn
    rw [hstop x hx]
    cases c : stop x with
    | true =>
      have e : u = x := by simp [c] at hf; exact hf.symm
      subst e
      simp only [if_true]
      exact hn (by simp [ls_til, tq_upl]) l7
    | false => simp [c] at hf
  · have hx : ts_lv s x := (fo_p_mem hp).1
    have hp' : ts_pa s x = some q := hp
    rw [fo_c_some hs.1 hp] at hf hb hn
    rw [hstop x hx]
    cases c : stop x with
    | true =>
      have e : u = x := by simp [c] at hf; exact hf.symm
      subst e
      simp only [if_true]
      exact hn (by simp [ls_til, tq_upl]) l7
    | false =>
      have hf2 : (fo_c (ts_L s) q).find? stop = some u := by rw [List.find?_cons, c] at hf; exact hf
      have hux : ¬ x = u := fun z => by
        have := List.find?_some hf2
        rw [← z, c] at this; cases this
      rw [ls_til, if_neg hux, tq_upl] at hb hn
      simp only [reduceCtorEq, if_false, wM_route_0, wM_route_1, wM_route_2, wM_route_5, wM_route_7, wM_route_8, wM_route_9, wM_route_11, wM_route_14, wM_route_16, wM_route_18, wM_route_21, wM_route_22, wM_route_24, wM_route_25, wM_route_28, wM_route_31, wM_route_32, wM_route_35, wM_route_37, wM_route_39, wM_route_40, wM_route_41, wM_route_42, wM_route_45, wM_route_48, wM_route_49, wM_route_50, wM_route_53, wM_route_55, wM_route_58, wM_route_60, wM_route_61, wM_route_62, wM_route_66, wM_route_69, wM_route_71, wM_route_73, wM_route_76, wM_route_79, wM_route_80, wM_route_82, wM_route_83, wM_route_86, wM_route_89, wM_route_90, wM_route_92, wM_route_95, wM_route_97, wM_route_98, wM_route_99, wM_route_101, wM_route_103, wM_route_104, wM_route_107, wM_route_110, wM_route_112, wM_route_114, wM_route_115, wM_route_116, wM_route_118, wM_route_120, wM_route_123, wM_route_124, wM_route_126, wM_route_127, wM_route_131, wM_route_134, wM_route_136, wM_route_138, wM_route_141, wM_route_142, wM_route_145, wM_route_147, wM_route_150, wM_route_153, wM_route_154, wM_route_156, wM_route_159, wM_route_161, wM_route_164, wM_route_166, wM_route_167, wM_route_168, wM_route_172, wM_route_175, wM_route_176, wM_route_177, wM_route_180, wM_route_183, wM_route_186, wM_route_188, wM_route_189, wM_route_190, wM_route_192, wM_route_193, wM_route_196, wM_route_199, wM_route_200, wM_route_203, wM_route_206, wM_route_208, wM_route_210, wM_route_211, wM_route_212, wM_route_215, wM_route_218, wM_route_219, mM_ov h hs hx, hp', ts_nm, true_or, or_true, Option.toList_some, Option.toList_none, List.cons_append, List.nil_append, mM_isBar h hs hp' hpl, am_b0]
      cases cb : tq_bar s p sg x with
      | true =>
        simp only [reduceCtorEq, if_false]
        rw [cb, if_pos rfl] at hb
        exact hb q hp'
      | false =>
        simp only [if_true, wM_route_0, wM_route_1, wM_route_2, wM_route_5, wM_route_7, wM_route_8, wM_route_9, wM_route_11, wM_route_14, wM_route_16, wM_route_18, wM_route_21, wM_route_22, wM_route_24, wM_route_25, wM_route_28, wM_route_31, wM_route_32, wM_route_35, wM_route_37, wM_route_39, wM_route_40, wM_route_41, wM_route_42, wM_route_45, wM_route_48, wM_route_49, wM_route_50, wM_route_53, wM_route_55, wM_route_58, wM_route_60, wM_route_61, wM_route_62, wM_route_66, wM_route_69, wM_route_71, wM_route_73, wM_route_76, wM_route_79, wM_route_80, wM_route_82, wM_route_83, wM_route_86, wM_route_89, wM_route_90, wM_route_92, wM_route_95, wM_route_97, wM_route_98, wM_route_99, wM_route_101, wM_route_103, wM_route_104, wM_route_107, wM_route_110, wM_route_112, wM_route_114, wM_route_115, wM_route_116, wM_route_118, wM_route_120, wM_route_123, wM_route_124, wM_route_126, wM_route_127, wM_route_131, wM_route_134, wM_route_136, wM_route_138, wM_route_141, wM_route_142, wM_route_145, wM_route_147, wM_route_150, wM_route_153, wM_route_154, wM_route_156, wM_route_159, wM_route_161, wM_route_164, wM_route_166, wM_route_167, wM_route_168, wM_route_172, wM_route_175, wM_route_176, wM_route_177, wM_route_180, wM_route_183, wM_route_186, wM_route_188, wM_route_189, wM_route_190, wM_route_192, wM_route_193, wM_route_196, wM_route_199, wM_route_200, wM_route_203, wM_route_206, wM_route_208, wM_route_210, wM_route_211, wM_route_212, wM_route_215, wM_route_218, wM_route_219]
        rw [cb, if_neg (by simp)] at hb hn
        exact ih hf2 hb hn _
-- the path is noted
theorem mM_pth (hs : ts_ok s) (u : Nat) (l1 l2 l3 l4 l9 : am_V) : ∀ x, x ∈ (ts_L s).map (·.1) → ∀ (c1 : List Nat) (M : am_M), mp N s M → (∀ i m, c1[i]? = some m → am_mi M (N + 15) i = nI m) → u ∈ fo_c (ts_L s) x → c1.length + (fo_c (ts_L s) x).length ≤ 20 →
    (∀ M' l8, mp N s M' → fx_f (mxR N) M M' → (∀ i m, (c1 ++ ls_til u (fo_c (ts_L s) x))[i]? = some m → am_mi M' (N + 15) i = nI m) → am_wp yM_route 164 [.inr (.inl (4, some N)), l1, l2, l3, l4, .inl 0, .inl (nI u), .inl (nI (c1 ++ ls_til u (fo_c (ts_L s) x)).length), l8, l9] [] M' K) →
    am_wp yM_route 129 [.inr (.inl (4, some N)), l1, l2, l3, l4, .inl 0, .inl (nI u), .inl (nI c1.length), .inl (nI x), l9] [] M K := by
  have stepx : ∀ x, x ∈ (ts_L s).map (·.1) → ∀ (c1 : List Nat) (M : am_M), mp N s M → (∀ i m, c1[i]? = some m → am_mi M (N + 15) i = nI m) → c1.length < 21 → mp N s (am_si M (N + 15) c1.length (nI x)) ∧ fx_f (mxR N) M (am_si M (N + 15) c1.length (nI x)) ∧ ∀ i m, (c1 ++ [x])[i]? = some m → am_mi (am_si M (N + 15) c1.length (nI x)) (N + 15) i = nI m := by
    intro x hx c1 M h hc hl
    refine ⟨mp_kp h (fun _ _ => rfl) (fun b j => ?_), fx_f_si (by unfold mxR; omega), fun i m hi => ?_⟩
    · by_cases e : b = N + 15
      · exact Or.inr (Or.inr (Or.inr (Or.inr (Or.inl e))))
      · exact Or.inr (Or.inr (Or.inr (Or.inr (Or.inr (by rw [am_mi_si, if_neg (fun z => e z.1)])))))
    · rw [am_mi_si]
      rcases Nat.lt_trichotomy i c1.length with z | z | z
      · rw [List.getElem?_append_left z] at hi
        rw [if_neg (by omega)]
        exact hc i m hi
      · subst z
        simp at hi
        simp [hi]
      · rw [List.getElem?_append_right (by omega), List.getElem?_eq_none (by simp; omega)] at hi
        cases hi
  refine fo_ind hs.1 (fun x hx hp c1 M h hc hu hlen hK => ?_) (fun x q hp ih c1 M h hc hu hlen hK => ?_)
  · rw [fo_c_none hs.1 hx hp] at hu hK
    have e : u = x := by simpa using hu
    subst e
    rw [show ls_til u [u] = [] by simp [ls_til], List.append_nil] at hK
    rw [wM_route_129]
    simp only [wM_route_0, wM_route_1, wM_route_2, wM_route_5, wM_route_7, wM_route_8, wM_route_9, wM_route_11, wM_route_14, wM_route_16, wM_route_18, wM_route_21, wM_route_22, wM_route_24, wM_route_25, wM_route_28, wM_route_31, wM_route_32, wM_route_35, wM_route_37, wM_route_39, wM_route_40, wM_route_41, wM_route_42, wM_route_45, wM_route_48, wM_route_49, wM_route_50, wM_route_53, wM_route_55, wM_route_58, wM_route_60, wM_route_61, wM_route_62, wM_route_66, wM_route_69, wM_route_71, wM_route_73, wM_route_76, wM_route_79, wM_route_80, wM_route_82, wM_route_83, wM_route_86, wM_route_89, wM_route_90, wM_route_92, wM_route_95, wM_route_97, wM_route_98, wM_route_99, wM_route_101, wM_route_103, wM_route_104, wM_route_107, wM_route_110, wM_route_112, wM_route_114, wM_route_115, wM_route_116, wM_route_118, wM_route_120, wM_route_123, wM_route_124, wM_route_126, wM_route_127, wM_route_131, wM_route_134, wM_route_136, wM_route_138, wM_route_141, wM_route_142, wM_route_145, wM_route_147, wM_route_150, wM_route_153, wM_route_154, wM_route_156, wM_route_159, wM_route_161, wM_route_166, wM_route_167, wM_route_168, wM_route_172, wM_route_175, wM_route_176, wM_route_177, wM_route_180, wM_route_183, wM_route_186, wM_route_188, wM_route_189, wM_route_190, wM_route_192, wM_route_193, wM_route_196, wM_route_199, wM_route_200, wM_route_203, wM_route_206, wM_route_208, wM_route_210, wM_route_211, wM_route_212, wM_route_215, wM_route_218, wM_route_219, if_true]
    exact hK M _ h (fx_f_rf M) hc
  · have hx : ts_lv s x := (fo_p_mem hp).1
    have hp' : ts_pa s x = some q := hp
    have hq : ts_lv s q := (fo_p_mem hp).2
    have x20 := ts_20 hs hx
    rw [fo_c_some hs.1 hp] at hu hK hlen
    by_cases e : x = u
    · subst e
      rw [show ls_til x (x :: fo_c (ts_L s) q) = [] by simp [ls_til], List.append_nil] at hK
      rw [wM_route_129]
      simp only [wM_route_0, wM_route_1, wM_route_2, wM_route_5, wM_route_7, wM_route_8, wM_route_9, wM_route_11, wM_route_14, wM_route_16, wM_route_18, wM_route_21, wM_route_22, wM_route_24, wM_route_25, wM_route_28, wM_route_31, wM_route_32, wM_route_35, wM_route_37, wM_route_39, wM_route_40, wM_route_41, wM_route_42, wM_route_45, wM_route_48, wM_route_49, wM_route_50, wM_route_53, wM_route_55, wM_route_58, wM_route_60, wM_route_61, wM_route_62, wM_route_66, wM_route_69, wM_route_71, wM_route_73, wM_route_76, wM_route_79, wM_route_80, wM_route_82, wM_route_83, wM_route_86, wM_route_89, wM_route_90, wM_route_92, wM_route_95, wM_route_97, wM_route_98, wM_route_99, wM_route_101, wM_route_103, wM_route_104, wM_route_107, wM_route_110, wM_route_112, wM_route_114, wM_route_115, wM_route_116, wM_route_118, wM_route_120, wM_route_123, wM_route_124, wM_route_126, wM_route_127, wM_route_131, wM_route_134, wM_route_136, wM_route_138, wM_route_141, wM_route_142, wM_route_145, wM_route_147, wM_route_150, wM_route_153, wM_route_154, wM_route_156, wM_route_159, wM_route_161, wM_route_166, wM_route_167, wM_route_168, wM_route_172, wM_route_175, wM_route_176, wM_route_177, wM_route_180, wM_route_183, wM_route_186, wM_route_188, wM_route_189, wM_route_190, wM_route_192, wM_route_193, wM_route_196, wM_route_199, wM_route_200, wM_route_203, wM_route_206, wM_route_208, wM_route_210, wM_route_211, wM_route_212, wM_route_215, wM_route_218, wM_route_219, if_true]
      exact hK M _ h (fx_f_rf M) hc
    · have hu2 : u ∈ fo_c (ts_L s) q := by
        rcases List.mem_cons.mp hu with z | z
        · exact absurd z.symm e
        · exact z
      have hul : ts_lv s u := (fo_c_r hs.1 q hq u hu2).1
      have u20 := ts_20 hs hul
      rw [List.length_cons] at hlen
      have hne : ¬ nI x = nI u := fun z => e ((nI_eq (by omega) (by omega)).mp z)
      rw [ls_til, if_neg e] at hK
      obtain ⟨k1, k2, k3⟩ := stepx x hx c1 M h hc (by omega)
      rw [wM_route_129]
      simp only [wM_route_0, wM_route_1, wM_route_2, wM_route_5, wM_route_7, wM_route_8, wM_route_9, wM_route_11, wM_route_14, wM_route_16, wM_route_18, wM_route_21, wM_route_22, wM_route_24, wM_route_25, wM_route_28, wM_route_31, wM_route_32, wM_route_35, wM_route_37, wM_route_39, wM_route_40, wM_route_41, wM_route_42, wM_route_45, wM_route_48, wM_route_49, wM_route_50, wM_route_53, wM_route_55, wM_route_58, wM_route_60, wM_route_61, wM_route_62, wM_route_66, wM_route_69, wM_route_71, wM_route_73, wM_route_76, wM_route_79, wM_route_80, wM_route_82, wM_route_83, wM_route_86, wM_route_89, wM_route_90, wM_route_92, wM_route_95, wM_route_97, wM_route_98, wM_route_99, wM_route_101, wM_route_103, wM_route_104, wM_route_107, wM_route_110, wM_route_112, wM_route_114, wM_route_115, wM_route_116, wM_route_118, wM_route_120, wM_route_123, wM_route_124, wM_route_126, wM_route_127, wM_route_131, wM_route_134, wM_route_136, wM_route_138, wM_route_141, wM_route_142, wM_route_145, wM_route_147, wM_route_150, wM_route_153, wM_route_154, wM_route_156, wM_route_159, wM_route_161, wM_route_166, wM_route_167, wM_route_168, wM_route_172, wM_route_175, wM_route_176, wM_route_177, wM_route_180, wM_route_183, wM_route_186, wM_route_188, wM_route_189, wM_route_190, wM_route_192, wM_route_193, wM_route_196, wM_route_199, wM_route_200, wM_route_203, wM_route_206, wM_route_208, wM_route_210, wM_route_211, wM_route_212, wM_route_215, wM_route_218, wM_route_219, if_true, hne, if_false, h.1.1.2.2.2.2.2.2.2.2.2.2.2.2.2.2, wM_route_149 (am_ok_nI (show c1.length < 21 by omega) (by decide)), nI_clamp (show c1.length < 2 ^ 31 by omega), mM_ov k1 hs hx, hp', ts_nm, true_or, or_true, Option.toList_some, Option.toList_none, List.cons_append, List.nil_append, nI_1]
      have := ih (c1 ++ [x]) _ k1 k3 hu2 (by simp; omega) (fun M' l8 g1 g2 g3 => by
        have e2 : c1 ++ [x] ++ ls_til u (fo_c (ts_L s) q) = c1 ++ x :: ls_til u (fo_c (ts_L s) q) := by simp
        rw [e2] at g3 ⊢
        exact hK M' l8 g1 (fx_f_tr k2 g2) g3)
      rw [List.length_append, List.length_singleton] at this
      exact this
-- down the path
theorem mM_dwn (h : mp N s M) (hs : ts_ok s) (hpl : p < 20) (sg : Bool) (l2 l4 l5 l6 l7 : am_V) {c : List Nat} (hc : ∀ i m, c[i]? = some m → am_mi M (N + 15) i = nI m) (hl : c.length ≤ 20) (hpa : ∀ x ∈ c, ∃ q, ts_pa s x = some q) (hb : ∀ b, tq_dnl s p sg c none = some b → K (some (.inl (-10 - nI b))) M) (hn : tq_dnl s p sg c none = none → K (some (.inl 0)) M) : ∀ (r1 r2 : List Nat), c = r1 ++ r2 → (∀ x ∈ r2, tq_bar s p sg x = false) → ∀ l9, am_wp yM_route 170 [.inr (.inl (4, some N)), .inl (nI p), l2, .inl (am_b (!sg)), l4, l5, l6, l7, .inl (nI r1.length - 1), l9] [] M K := by
  have dn0 : ∀ (r2 : List Nat), (∀ x ∈ r2, tq_bar s p sg x = false) → ∀ (r1 : List Nat), tq_dnl s p sg (r1 ++ r2) none = tq_dnl s p sg r1 none := by
    intro r2
    induction r2 with
    | nil => intro _ r1; rw [List.append_nil]
    | cons x r2 ih =>
      intro hr r1
      rw [show r1 ++ x :: r2 = (r1 ++ [x]) ++ r2 by simp, ih (fun y hy => hr y (List.mem_cons_of_mem _ hy)) (r1 ++ [x]), tq_dnl_c, hr x List.mem_cons_self, if_neg (by simp)]
  intro r1
  induction hk : r1.length generalizing r1 with
  | zero =>
    intro r2 hcr hr l9
    have e : r1 = [] := List.length_eq_zero_iff.mp hk
    subst e
    have := dn0 r2 hr []
    rw [List.nil_append] at this hcr
    rw [← hcr] at this
    rw [wM_route_170]
    simp only [wM_route_0, wM_route_1, wM_route_2, wM_route_5, wM_route_7, wM_route_8, wM_route_9, wM_route_11, wM_route_14, wM_route_16, wM_route_18, wM_route_21, wM_route_22, wM_route_24, wM_route_25, wM_route_28, wM_route_31, wM_route_32, wM_route_35, wM_route_37, wM_route_39, wM_route_40, wM_route_41, wM_route_42, wM_route_45, wM_route_48, wM_route_49, wM_route_50, wM_route_53, wM_route_55, wM_route_58, wM_route_60, wM_route_61, wM_route_62, wM_route_66, wM_route_69, wM_route_71, wM_route_73, wM_route_76, wM_route_79, wM_route_80, wM_route_82, wM_route_83, wM_route_86, wM_route_89, wM_route_90, wM_route_92, wM_route_95, wM_route_97, wM_route_98, wM_route_99, wM_route_101, wM_route_103, wM_route_104, wM_route_107, wM_route_110, wM_route_112, wM_route_114, wM_route_115, wM_route_116, wM_route_118, wM_route_120, wM_route_123, wM_route_124, wM_route_126, wM_route_127, wM_route_131, wM_route_134, wM_route_136, wM_route_138, wM_route_141, wM_route_142, wM_route_145, wM_route_147, wM_route_150, wM_route_153, wM_route_154, wM_route_156, wM_route_159, wM_route_161, wM_route_164, wM_route_166, wM_route_167, wM_route_168, wM_route_172, wM_route_175, wM_route_176, wM_route_177, wM_route_180, wM_route_183, wM_route_186, wM_route_188, wM_route_189, wM_route_190, wM_route_192, wM_route_193, wM_route_196, wM_route_199, wM_route_200, wM_route_203, wM_route_206, wM_route_208, wM_route_210, wM_route_211, wM_route_212, wM_route_215, wM_route_218, wM_route_219, show nI 0 - 1 < (0 : Int32) by decide, if_true]
    exact hn (by rw [this]; rfl)
  | succ k ih =>
    intro r2 hcr hr l9
    obtain ⟨r0, x, hx⟩ : ∃ r0 x, r1 = r0 ++ [x] := ⟨r1.dropLast, r1.getLast (by intro z; rw [z] at hk; cases hk), (List.dropLast_concat_getLast _).symm⟩
    have hk0 : r0.length = k := by rw [hx] at hk; simpa using hk
    have hxc : c[k]? = some x := by rw [hcr, hx, ← hk0]; simp
    obtain ⟨q, hq⟩ := hpa x (List.mem_of_getElem? hxc)
    have hxl : ts_lv s x := (fo_p_mem hq).1
    have hklt : k < c.length := by
      rcases Nat.lt_or_ge k c.length with z | z
      · exact z
      · rw [List.getElem?_eq_none z] at hxc; cases hxc
    rw [nI_pred, wM_route_170]
    simp only [wM_route_0, wM_route_1, wM_route_2, wM_route_5, wM_route_7, wM_route_8, wM_route_9, wM_route_11, wM_route_14, wM_route_16, wM_route_18, wM_route_21, wM_route_22, wM_route_24, wM_route_25, wM_route_28, wM_route_31, wM_route_32, wM_route_35, wM_route_37, wM_route_39, wM_route_40, wM_route_41, wM_route_42, wM_route_45, wM_route_48, wM_route_49, wM_route_50, wM_route_53, wM_route_55, wM_route_58, wM_route_60, wM_route_61, wM_route_62, wM_route_66, wM_route_69, wM_route_71, wM_route_73, wM_route_76, wM_route_79, wM_route_80, wM_route_82, wM_route_83, wM_route_86, wM_route_89, wM_route_90, wM_route_92, wM_route_95, wM_route_97, wM_route_98, wM_route_99, wM_route_101, wM_route_103, wM_route_104, wM_route_107, wM_route_110, wM_route_112, wM_route_114, wM_route_115, wM_route_116, wM_route_118, wM_route_120, wM_route_123, wM_route_124, wM_route_126, wM_route_127, wM_route_131, wM_route_134, wM_route_136, wM_route_138, wM_route_141, wM_route_142, wM_route_145, wM_route_147, wM_route_150, wM_route_153, wM_route_154, wM_route_156, wM_route_159, wM_route_161, wM_route_164, wM_route_166, wM_route_167, wM_route_168, wM_route_172, wM_route_175, wM_route_176, wM_route_177, wM_route_180, wM_route_183, wM_route_186, wM_route_188, wM_route_189, wM_route_190, wM_route_192, wM_route_193, wM_route_196, wM_route_199, wM_route_200, wM_route_203, wM_route_206, wM_route_208, wM_route_210, wM_route_211, wM_route_212, wM_route_215, wM_route_218, wM_route_219, nI_pos (show k < 2 ^ 31 by omega), if_false, h.1.1.2.2.2.2.2.2.2.2.2.2.2.2.2.2, wM_route_182 (am_ok_nI (show k < 21 by omega) (by decide)), wM_route_198 (am_ok_nI (show k < 21 by omega) (by decide)), nI_clamp (show k < 2 ^ 31 by omega), hc k x hxc, mM_ov h hs hxl, hq, ts_nm, true_or, or_true, Option.toList_some, Option.toList_none, List.cons_append, List.nil_append, mM_isBar h hs hq hpl, am_b0]
    cases cb : tq_bar s p sg x with
    | true =>
      simp only [reduceCtorEq, if_false]
      refine hb q ?_
      rw [hcr, dn0 r2 hr, hx, tq_dnl_c, cb, if_pos rfl, hq]
    | false =>
      simp only [if_true, wM_route_0, wM_route_1, wM_route_2, wM_route_5, wM_route_7, wM_route_8, wM_route_9, wM_route_11, wM_route_14, wM_route_16, wM_route_18, wM_route_21, wM_route_22, wM_route_24, wM_route_25, wM_route_28, wM_route_31, wM_route_32, wM_route_35, wM_route_37, wM_route_39, wM_route_40, wM_route_41, wM_route_42, wM_route_45, wM_route_48, wM_route_49, wM_route_50, wM_route_53, wM_route_55, wM_route_58, wM_route_60, wM_route_61, wM_route_62, wM_route_66, wM_route_69, wM_route_71, wM_route_73, wM_route_76, wM_route_79, wM_route_80, wM_route_82, wM_route_83, wM_route_86, wM_route_89, wM_route_90, wM_route_92, wM_route_95, wM_route_97, wM_route_98, wM_route_99, wM_route_101, wM_route_103, wM_route_104, wM_route_107, wM_route_110, wM_route_112, wM_route_114, wM_route_115, wM_route_116, wM_route_118, wM_route_120, wM_route_123, wM_route_124, wM_route_126, wM_route_127, wM_route_131, wM_route_134, wM_route_136, wM_route_138, wM_route_141, wM_route_142, wM_route_145, wM_route_147, wM_route_150, wM_route_153, wM_route_154, wM_route_156, wM_route_159, wM_route_161, wM_route_164, wM_route_166, wM_route_167, wM_route_168, wM_route_172, wM_route_175, wM_route_176, wM_route_177, wM_route_180, wM_route_183, wM_route_186, wM_route_188, wM_route_189, wM_route_190, wM_route_192, wM_route_193, wM_route_196, wM_route_199, wM_route_200, wM_route_203, wM_route_206, wM_route_208, wM_route_210, wM_route_211, wM_route_212, wM_route_215, wM_route_218, wM_route_219]
      rw [← Int32.sub_eq_add_neg]
      refine ih r0 hk0 (x :: r2) (by rw [hcr, hx]; simp) (fun y hy => ?_) _
      rcases List.mem_cons.mp hy with rfl | hy
      · exact cb
      · exact hr y hy
theorem tq_upl_pa {sg : Bool} : ∀ (l : List Nat) (b : Nat), tq_upl s p sg l = some b → ∃ x, ts_pa s x = some b := by
  intro l
  induction l with
  | nil => intro b h; cases h
  | cons x l ih =>
    intro b h
    unfold tq_upl at h
    split at h
    · exact ⟨x, h⟩
    · exact ih b h
theorem tq_dnl_pa {sg : Bool} : ∀ (l : List Nat) (acc : Option Nat) (b : Nat), (∀ b, acc = some b → ∃ x, ts_pa s x = some b) → tq_dnl s p sg l acc = some b → ∃ x, ts_pa s x = some b := by
  intro l
  induction l with
  | nil => intro acc b ha h; exact ha b h
  | cons x l ih =>
    intro acc b ha h
    refine ih _ b (fun c hc => ?_) h
    split at hc
    · exact ⟨x, hc⟩
    · exact ha c hc
theorem mM_route (h : mp N s M) (hs : ts_ok s) (hp : ts_lv s p) (ht : ts_lv s t) (sg : Bool) (hK : ∀ M', mp N s M' → fx_f (mxR N) M M' → K (some (.inl (tq_r0 s p t sg))) M') : am_wp yM_route 0 [.inr (.inl (4, some N)), .inl (nI p), .inl (nI t), .inl (am_b (!sg)), am_u, am_u, am_u, am_u, am_u, am_u] [] M K := by
  have p20 := ts_20 hs hp
  have t20 := ts_20 hs ht
  have hr := (fo_r_mem hs.1 p hp).1
  have hrl : ts_lv s (fo_r (ts_L s) p) := hr
  have r20 := ts_20 hs hrl
  have htr : ts_lv s (fo_r (ts_L s) t) := (fo_r_mem hs.1 t ht).1
  have tr20 := ts_20 hs htr
  have bneg : ∀ x b, ts_pa s x = some b → (-10 : Int32) - nI b < 0 := fun x b hb => bar_neg b (pa_20 hs b hb)
  have start : ∀ R : Prop, (ts_kd s t = 6 → ¬ (ts_kd s (fo_r (ts_L s) p) = 0 ∧ ts_sp s t (fo_r (ts_L s) p) = true) → R) → (ts_kd s t = 6 → ts_kd s (fo_r (ts_L s) p) = 0 → ts_sp s t (fo_r (ts_L s) p) = true → R) → (¬ ts_kd s t = 6 → ¬ fo_r (ts_L s) t = fo_r (ts_L s) p → R) → (¬ ts_kd s t = 6 → fo_r (ts_L s) t = fo_r (ts_L s) p → R) → R := by
    intro R a1 a2 a3 a4
    by_cases c6 : ts_kd s t = 6
    · by_cases c : ts_kd s (fo_r (ts_L s) p) = 0 ∧ ts_sp s t (fo_r (ts_L s) p) = true
      · exact a2 c6 c.1 c.2
      · exact a1 c6 c
    · by_cases c : fo_r (ts_L s) t = fo_r (ts_L s) p
      · exact a4 c6 c
      · exact a3 c6 c
  have rbt : rb (am_mi M (N + 10) t) (fo_r (ts_L s) p) = ts_sp s t (fo_r (ts_L s) p) := (h.2.2.2.2 t ht).2.2.2.2.2.2.2 _ r20 (Or.inl hrl)
  have h10 := h.1.1.2.2.2.2.2.2.2.2.2.1
  refine start _ (fun c6 c => ?_) (fun c6 c0 csp => ?_) (fun c6 c => ?_) (fun c6 c => ?_)
  · have e6 : (ts_kd s t == 6) = true := by simp [c6]
    have etn : tq_tn s p t = none := by unfold tq_tn; rw [if_pos c6, if_neg c]
    have ero : tq_r0 s p t sg = -6 := by unfold tq_r0 tq_ro; rw [etn]; rfl
    rw [ero] at hK
    simp only [wM_route_0, wM_route_1, wM_route_2, wM_route_5, wM_route_7, wM_route_8, wM_route_9, wM_route_11, wM_route_14, wM_route_16, wM_route_18, wM_route_21, wM_route_22, wM_route_24, wM_route_25, wM_route_28, wM_route_31, wM_route_32, wM_route_35, wM_route_37, wM_route_39, wM_route_40, wM_route_41, wM_route_42, wM_route_45, wM_route_48, wM_route_49, wM_route_50, wM_route_53, wM_route_55, wM_route_58, wM_route_60, wM_route_61, wM_route_62, wM_route_66, wM_route_69, wM_route_71, wM_route_73, wM_route_76, wM_route_79, wM_route_80, wM_route_82, wM_route_83, wM_route_86, wM_route_89, wM_route_90, wM_route_92, wM_route_95, wM_route_97, wM_route_98, wM_route_99, wM_route_101, wM_route_103, wM_route_104, wM_route_107, wM_route_110, wM_route_112, wM_route_114, wM_route_115, wM_route_116, wM_route_118, wM_route_120, wM_route_123, wM_route_124, wM_route_126, wM_route_127, wM_route_131, wM_route_134, wM_route_136, wM_route_138, wM_route_141, wM_route_142, wM_route_145, wM_route_147, wM_route_150, wM_route_153, wM_route_154, wM_route_156, wM_route_159, wM_route_161, wM_route_164, wM_route_166, wM_route_167, wM_route_168, wM_route_172, wM_route_175, wM_route_176, wM_route_177, wM_route_180, wM_route_183, wM_route_186, wM_route_188, wM_route_189, wM_route_190, wM_route_192, wM_route_193, wM_route_196, wM_route_199, wM_route_200, wM_route_203, wM_route_206, wM_route_208, wM_route_210, wM_route_211, wM_route_212, wM_route_215, wM_route_218, wM_route_219, mM_tp h hs hp, mM_of6 h hs ht, e6, true_or, or_true, Option.toList_some, Option.toList_none, List.cons_append, List.nil_append, am_b0, reduceCtorEq, if_false, mM_of0 h hs hrl, h10, wM_route_36 (am_ok_nI t20 (by decide)), nI_clamp (show t < 2 ^ 31 by omega), rb_s r20, rbt]
    cases c0 : ts_kd s (fo_r (ts_L s) p) == 0 with
    | false =>
      simp only [if_true]
      exact hK M h (fx_f_rf M)
    | true =>
      have csp : ts_sp s t (fo_r (ts_L s) p) = false := by
        cases z : ts_sp s t (fo_r (ts_L s) p); rfl
        exact absurd ⟨by simpa using c0, z⟩ c
      simp only [reduceCtorEq, if_false, csp, if_true]
      exact hK M h (fx_f_rf M)
  · have e6 : (ts_kd s t == 6) = true := by simp [c6]
    have e0 : (ts_kd s (fo_r (ts_L s) p) == 0) = true := by simp [c0]
    have etn : tq_tn s p t = some (fo_r (ts_L s) p) := by unfold tq_tn; rw [if_pos c6, if_pos ⟨c0, csp⟩]
    have hpt : ts_pa s t = none := by
      cases z : ts_pa s t with
      | none => rfl
      | some g => exact absurd c6 (hs.2.2.2.2 t g z).2.1
    have hct : fo_c (ts_L s) t = [t] := fo_c_none hs.1 ht hpt
    have htne : ¬ t = fo_r (ts_L s) p := fun z => by rw [← z] at c0; omega
    have hdn : tq_dnl s p sg (ls_til (fo_r (ts_L s) p) (fo_c (ts_L s) t)) none = none := by
      rw [hct]
      simp [ls_til, htne, tq_dnl, tq_bar, hpt]
    simp only [wM_route_0, wM_route_1, wM_route_2, wM_route_5, wM_route_7, wM_route_8, wM_route_9, wM_route_11, wM_route_14, wM_route_16, wM_route_18, wM_route_21, wM_route_22, wM_route_24, wM_route_25, wM_route_28, wM_route_31, wM_route_32, wM_route_35, wM_route_37, wM_route_39, wM_route_40, wM_route_41, wM_route_42, wM_route_45, wM_route_48, wM_route_49, wM_route_50, wM_route_53, wM_route_55, wM_route_58, wM_route_60, wM_route_61, wM_route_62, wM_route_66, wM_route_69, wM_route_71, wM_route_73, wM_route_76, wM_route_79, wM_route_80, wM_route_82, wM_route_83, wM_route_86, wM_route_89, wM_route_90, wM_route_92, wM_route_95, wM_route_97, wM_route_98, wM_route_99, wM_route_101, wM_route_103, wM_route_104, wM_route_107, wM_route_110, wM_route_112, wM_route_114, wM_route_115, wM_route_116, wM_route_118, wM_route_120, wM_route_123, wM_route_124, wM_route_126, wM_route_127, wM_route_131, wM_route_134, wM_route_136, wM_route_138, wM_route_141, wM_route_142, wM_route_145, wM_route_147, wM_route_150, wM_route_153, wM_route_154, wM_route_156, wM_route_159, wM_route_161, wM_route_164, wM_route_166, wM_route_167, wM_route_168, wM_route_172, wM_route_175, wM_route_176, wM_route_177, wM_route_180, wM_route_183, wM_route_186, wM_route_188, wM_route_189, wM_route_190, wM_route_192, wM_route_193, wM_route_196, wM_route_199, wM_route_200, wM_route_203, wM_route_206, wM_route_208, wM_route_210, wM_route_211, wM_route_212, wM_route_215, wM_route_218, wM_route_219, mM_tp h hs hp, mM_of6 h hs ht, e6, true_or, or_true, Option.toList_some, Option.toList_none, List.cons_append, List.nil_append, am_b0, reduceCtorEq, if_false, mM_of0 h hs hrl, h10, wM_route_36 (am_ok_nI t20 (by decide)), nI_clamp (show t < 2 ^ 31 by omega), rb_s r20, rbt, e0, csp, if_true, show ¬ (1 : Int32) = 0 by decide]
    refine mM_up h hs p20 sg (fun x => decide (x = fo_r (ts_L s) p)) _ _ _ _ _ (fun x hx l7 => ?_) (fo_r (ts_L s) p) p hp ?_ (fun b hb => ?_) (fun hb l7 => ?_) _
    · have x20 := ts_20 hs hx
      rw [wM_route_64]
      simp only [wM_route_0, wM_route_1, wM_route_2, wM_route_5, wM_route_7, wM_route_8, wM_route_9, wM_route_11, wM_route_14, wM_route_16, wM_route_18, wM_route_21, wM_route_22, wM_route_24, wM_route_25, wM_route_28, wM_route_31, wM_route_32, wM_route_35, wM_route_37, wM_route_39, wM_route_40, wM_route_41, wM_route_42, wM_route_45, wM_route_48, wM_route_49, wM_route_50, wM_route_53, wM_route_55, wM_route_58, wM_route_60, wM_route_61, wM_route_62, wM_route_66, wM_route_69, wM_route_71, wM_route_73, wM_route_76, wM_route_79, wM_route_80, wM_route_82, wM_route_83, wM_route_86, wM_route_90, wM_route_92, wM_route_95, wM_route_97, wM_route_98, wM_route_99, wM_route_101, wM_route_103, wM_route_104, wM_route_107, wM_route_110, wM_route_112, wM_route_114, wM_route_115, wM_route_116, wM_route_118, wM_route_120, wM_route_124, wM_route_126, wM_route_127, wM_route_131, wM_route_134, wM_route_136, wM_route_138, wM_route_141, wM_route_142, wM_route_145, wM_route_147, wM_route_150, wM_route_153, wM_route_154, wM_route_156, wM_route_159, wM_route_161, wM_route_164, wM_route_166, wM_route_167, wM_route_168, wM_route_172, wM_route_175, wM_route_176, wM_route_177, wM_route_180, wM_route_183, wM_route_186, wM_route_188, wM_route_189, wM_route_190, wM_route_192, wM_route_193, wM_route_196, wM_route_199, wM_route_200, wM_route_203, wM_route_206, wM_route_208, wM_route_210, wM_route_211, wM_route_212, wM_route_215, wM_route_218, wM_route_219, am_bt, show ¬ (1 : Int32) = 0 by decide, if_false, nI_eq (show x < 2 ^ 31 by omega) (show fo_r (ts_L s) p < 2 ^ 31 by omega), decide_eq_true_eq]
    · have := fo_c_top hs.1 p hp
      have : ∃ y ∈ fo_c (ts_L s) p, decide (y = fo_r (ts_L s) p) = true := ⟨_, this, by simp⟩
      cases hf : (fo_c (ts_L s) p).find? (fun x => decide (x = fo_r (ts_L s) p)) with
      | none =>
        obtain ⟨y, y1, y2⟩ := this
        exact absurd y2 (List.find?_eq_none.mp hf y y1)
      | some y => have := List.find?_some hf; simp at this; rw [this]
    · have ero : tq_r0 s p t sg = -10 - nI b := by
        unfold tq_r0 tq_ro
        rw [etn]
        simp only [hb]
        obtain ⟨x, hx⟩ := tq_upl_pa _ b hb
        rw [if_pos (bneg x b hx)]
      rw [ero] at hK
      exact hK M h (fx_f_rf M)
    · have ero : tq_r0 s p t sg = 0 := by
        unfold tq_r0 tq_ro
        rw [etn]
        simp only [hb, hdn]
        rfl
      rw [ero] at hK
      simp only [wM_route_0, wM_route_1, wM_route_2, wM_route_5, wM_route_7, wM_route_8, wM_route_9, wM_route_11, wM_route_14, wM_route_16, wM_route_18, wM_route_21, wM_route_22, wM_route_24, wM_route_25, wM_route_28, wM_route_31, wM_route_32, wM_route_35, wM_route_37, wM_route_39, wM_route_40, wM_route_41, wM_route_42, wM_route_45, wM_route_48, wM_route_49, wM_route_50, wM_route_53, wM_route_55, wM_route_58, wM_route_60, wM_route_61, wM_route_62, wM_route_66, wM_route_69, wM_route_71, wM_route_73, wM_route_76, wM_route_79, wM_route_80, wM_route_82, wM_route_83, wM_route_86, wM_route_89, wM_route_90, wM_route_92, wM_route_95, wM_route_97, wM_route_98, wM_route_99, wM_route_101, wM_route_103, wM_route_104, wM_route_107, wM_route_110, wM_route_112, wM_route_114, wM_route_115, wM_route_116, wM_route_118, wM_route_120, wM_route_123, wM_route_124, wM_route_126, wM_route_127, wM_route_131, wM_route_134, wM_route_136, wM_route_138, wM_route_141, wM_route_142, wM_route_145, wM_route_147, wM_route_150, wM_route_153, wM_route_154, wM_route_156, wM_route_159, wM_route_161, wM_route_164, wM_route_166, wM_route_167, wM_route_168, wM_route_172, wM_route_175, wM_route_176, wM_route_177, wM_route_180, wM_route_183, wM_route_186, wM_route_188, wM_route_189, wM_route_190, wM_route_192, wM_route_193, wM_route_196, wM_route_199, wM_route_200, wM_route_203, wM_route_206, wM_route_208, wM_route_210, wM_route_211, wM_route_212, wM_route_215, wM_route_218, wM_route_219, true_or, or_true, Option.toList_some, Option.toList_none, List.cons_append, List.nil_append]
      rw [wM_route_129]
      simp only [wM_route_0, wM_route_1, wM_route_2, wM_route_5, wM_route_7, wM_route_8, wM_route_9, wM_route_11, wM_route_14, wM_route_16, wM_route_18, wM_route_21, wM_route_22, wM_route_24, wM_route_25, wM_route_28, wM_route_31, wM_route_32, wM_route_35, wM_route_37, wM_route_39, wM_route_40, wM_route_41, wM_route_42, wM_route_45, wM_route_48, wM_route_49, wM_route_50, wM_route_53, wM_route_55, wM_route_58, wM_route_60, wM_route_61, wM_route_62, wM_route_66, wM_route_69, wM_route_71, wM_route_73, wM_route_76, wM_route_79, wM_route_80, wM_route_82, wM_route_83, wM_route_86, wM_route_89, wM_route_90, wM_route_92, wM_route_95, wM_route_97, wM_route_98, wM_route_99, wM_route_101, wM_route_103, wM_route_104, wM_route_107, wM_route_110, wM_route_112, wM_route_114, wM_route_115, wM_route_116, wM_route_118, wM_route_120, wM_route_123, wM_route_124, wM_route_126, wM_route_127, wM_route_131, wM_route_134, wM_route_136, wM_route_138, wM_route_141, wM_route_142, wM_route_145, wM_route_147, wM_route_150, wM_route_153, wM_route_154, wM_route_156, wM_route_159, wM_route_161, wM_route_164, wM_route_166, wM_route_167, wM_route_168, wM_route_172, wM_route_175, wM_route_176, wM_route_177, wM_route_180, wM_route_183, wM_route_186, wM_route_188, wM_route_189, wM_route_190, wM_route_192, wM_route_193, wM_route_196, wM_route_199, wM_route_200, wM_route_203, wM_route_206, wM_route_208, wM_route_210, wM_route_211, wM_route_212, wM_route_215, wM_route_218, wM_route_219, am_bt, show ¬ (1 : Int32) = 0 by decide, if_false]
      rw [wM_route_170]
      simp only [wM_route_0, wM_route_1, wM_route_2, wM_route_5, wM_route_7, wM_route_8, wM_route_9, wM_route_11, wM_route_14, wM_route_16, wM_route_18, wM_route_21, wM_route_22, wM_route_24, wM_route_25, wM_route_28, wM_route_31, wM_route_32, wM_route_35, wM_route_37, wM_route_39, wM_route_40, wM_route_41, wM_route_42, wM_route_45, wM_route_48, wM_route_49, wM_route_50, wM_route_53, wM_route_55, wM_route_58, wM_route_60, wM_route_61, wM_route_62, wM_route_66, wM_route_69, wM_route_71, wM_route_73, wM_route_76, wM_route_79, wM_route_80, wM_route_82, wM_route_83, wM_route_86, wM_route_89, wM_route_90, wM_route_92, wM_route_95, wM_route_97, wM_route_98, wM_route_99, wM_route_101, wM_route_103, wM_route_104, wM_route_107, wM_route_110, wM_route_112, wM_route_114, wM_route_115, wM_route_116, wM_route_118, wM_route_120, wM_route_123, wM_route_124, wM_route_126, wM_route_127, wM_route_131, wM_route_134, wM_route_136, wM_route_138, wM_route_141, wM_route_142, wM_route_145, wM_route_147, wM_route_150, wM_route_153, wM_route_154, wM_route_156, wM_route_159, wM_route_161, wM_route_164, wM_route_166, wM_route_167, wM_route_168, wM_route_172, wM_route_175, wM_route_176, wM_route_177, wM_route_180, wM_route_183, wM_route_186, wM_route_188, wM_route_189, wM_route_190, wM_route_192, wM_route_193, wM_route_196, wM_route_199, wM_route_200, wM_route_203, wM_route_206, wM_route_208, wM_route_210, wM_route_211, wM_route_212, wM_route_215, wM_route_218, wM_route_219, show (0 : Int32) - 1 < 0 by decide, if_true]
      exact hK M h (fx_f_rf M)
  · have e6 : (ts_kd s t == 6) = false := by simp [c6]
    have etn : tq_tn s p t = none := by
      unfold tq_tn
      rw [if_neg c6, List.find?_eq_none]
      intro x hx z
      have hw : t ∈ fo_w (ts_L s) x := by simpa using z
      exact c ((fo_w_r hs.1 t ht hw).trans (fo_c_r hs.1 p hp x hx).2)
    have ero : tq_r0 s p t sg = -6 := by unfold tq_r0 tq_ro; rw [etn]; rfl
    rw [ero] at hK
    simp only [wM_route_0, wM_route_1, wM_route_2, wM_route_5, wM_route_7, wM_route_8, wM_route_9, wM_route_11, wM_route_14, wM_route_16, wM_route_18, wM_route_21, wM_route_22, wM_route_24, wM_route_25, wM_route_28, wM_route_31, wM_route_32, wM_route_35, wM_route_37, wM_route_39, wM_route_40, wM_route_41, wM_route_42, wM_route_45, wM_route_48, wM_route_49, wM_route_50, wM_route_53, wM_route_55, wM_route_58, wM_route_60, wM_route_61, wM_route_62, wM_route_66, wM_route_69, wM_route_71, wM_route_73, wM_route_76, wM_route_79, wM_route_80, wM_route_82, wM_route_83, wM_route_86, wM_route_89, wM_route_90, wM_route_92, wM_route_95, wM_route_97, wM_route_98, wM_route_99, wM_route_101, wM_route_103, wM_route_104, wM_route_107, wM_route_110, wM_route_112, wM_route_114, wM_route_115, wM_route_116, wM_route_118, wM_route_120, wM_route_123, wM_route_124, wM_route_126, wM_route_127, wM_route_131, wM_route_134, wM_route_136, wM_route_138, wM_route_141, wM_route_142, wM_route_145, wM_route_147, wM_route_150, wM_route_153, wM_route_154, wM_route_156, wM_route_159, wM_route_161, wM_route_164, wM_route_166, wM_route_167, wM_route_168, wM_route_172, wM_route_175, wM_route_176, wM_route_177, wM_route_180, wM_route_183, wM_route_186, wM_route_188, wM_route_189, wM_route_190, wM_route_192, wM_route_193, wM_route_196, wM_route_199, wM_route_200, wM_route_203, wM_route_206, wM_route_208, wM_route_210, wM_route_211, wM_route_212, wM_route_215, wM_route_218, wM_route_219, mM_tp h hs hp, mM_of6 h hs ht, e6, true_or, or_true, Option.toList_some, Option.toList_none, List.cons_append, List.nil_append, am_b0, if_true, mM_tp h hs ht, nI_eq (show fo_r (ts_L s) t < 2 ^ 31 by omega) (show fo_r (ts_L s) p < 2 ^ 31 by omega), c, if_false]
    exact hK M h (fx_f_rf M)
  · have e6 : (ts_kd s t == 6) = false := by simp [c6]
    obtain ⟨u, hu⟩ : ∃ u, (fo_c (ts_L s) p).find? (fun x => decide (t ∈ fo_w (ts_L s) x)) = some u := by
      cases hf : (fo_c (ts_L s) p).find? (fun x => decide (t ∈ fo_w (ts_L s) x)) with
      | some u => exact ⟨u, rfl⟩
      | none =>
        have h1 := fo_c_top hs.1 p hp
        have h2 := fo_w_root hs.1 t ht
        rw [c] at h2
        exact absurd (by simpa using h2) (List.find?_eq_none.mp hf _ h1)
    have etn : tq_tn s p t = some u := by unfold tq_tn; rw [if_neg c6, hu]
    have huw : t ∈ fo_w (ts_L s) u := by simpa using List.find?_some hu
    have hul : ts_lv s u := (fo_w_mem huw).1
    have u20 := ts_20 hs hul
    simp only [wM_route_0, wM_route_1, wM_route_2, wM_route_5, wM_route_7, wM_route_8, wM_route_9, wM_route_11, wM_route_14, wM_route_16, wM_route_18, wM_route_21, wM_route_22, wM_route_24, wM_route_25, wM_route_28, wM_route_31, wM_route_32, wM_route_35, wM_route_37, wM_route_39, wM_route_40, wM_route_41, wM_route_42, wM_route_45, wM_route_48, wM_route_49, wM_route_50, wM_route_53, wM_route_55, wM_route_58, wM_route_60, wM_route_61, wM_route_62, wM_route_66, wM_route_69, wM_route_71, wM_route_73, wM_route_76, wM_route_79, wM_route_80, wM_route_82, wM_route_83, wM_route_86, wM_route_89, wM_route_90, wM_route_92, wM_route_95, wM_route_97, wM_route_98, wM_route_99, wM_route_101, wM_route_103, wM_route_104, wM_route_107, wM_route_110, wM_route_112, wM_route_114, wM_route_115, wM_route_116, wM_route_118, wM_route_120, wM_route_123, wM_route_124, wM_route_126, wM_route_127, wM_route_131, wM_route_134, wM_route_136, wM_route_138, wM_route_141, wM_route_142, wM_route_145, wM_route_147, wM_route_150, wM_route_153, wM_route_154, wM_route_156, wM_route_159, wM_route_161, wM_route_164, wM_route_166, wM_route_167, wM_route_168, wM_route_172, wM_route_175, wM_route_176, wM_route_177, wM_route_180, wM_route_183, wM_route_186, wM_route_188, wM_route_189, wM_route_190, wM_route_192, wM_route_193, wM_route_196, wM_route_199, wM_route_200, wM_route_203, wM_route_206, wM_route_208, wM_route_210, wM_route_211, wM_route_212, wM_route_215, wM_route_218, wM_route_219, mM_tp h hs hp, mM_of6 h hs ht, e6, true_or, or_true, Option.toList_some, Option.toList_none, List.cons_append, List.nil_append, am_b0, if_true, mM_tp h hs ht, c]
    refine mM_up h hs p20 sg (fun x => decide (t ∈ fo_w (ts_L s) x)) _ _ _ _ _ (fun x hx l7 => ?_) u p hp hu (fun b hb => ?_) (fun hb l7 => ?_) _
    · rw [wM_route_64]
      simp only [wM_route_0, wM_route_1, wM_route_2, wM_route_5, wM_route_7, wM_route_8, wM_route_9, wM_route_11, wM_route_14, wM_route_16, wM_route_18, wM_route_21, wM_route_22, wM_route_24, wM_route_25, wM_route_28, wM_route_31, wM_route_32, wM_route_35, wM_route_37, wM_route_39, wM_route_40, wM_route_41, wM_route_42, wM_route_45, wM_route_48, wM_route_49, wM_route_50, wM_route_53, wM_route_55, wM_route_58, wM_route_60, wM_route_61, wM_route_62, wM_route_66, wM_route_69, wM_route_71, wM_route_73, wM_route_76, wM_route_79, wM_route_80, wM_route_82, wM_route_83, wM_route_86, wM_route_90, wM_route_92, wM_route_95, wM_route_97, wM_route_98, wM_route_99, wM_route_101, wM_route_103, wM_route_104, wM_route_107, wM_route_110, wM_route_112, wM_route_114, wM_route_115, wM_route_116, wM_route_118, wM_route_120, wM_route_124, wM_route_126, wM_route_127, wM_route_131, wM_route_134, wM_route_136, wM_route_138, wM_route_141, wM_route_142, wM_route_145, wM_route_147, wM_route_150, wM_route_153, wM_route_154, wM_route_156, wM_route_159, wM_route_161, wM_route_164, wM_route_166, wM_route_167, wM_route_168, wM_route_172, wM_route_175, wM_route_176, wM_route_177, wM_route_180, wM_route_183, wM_route_186, wM_route_188, wM_route_189, wM_route_190, wM_route_192, wM_route_193, wM_route_196, wM_route_199, wM_route_200, wM_route_203, wM_route_206, wM_route_208, wM_route_210, wM_route_211, wM_route_212, wM_route_215, wM_route_218, wM_route_219, am_bf, if_true, mM_hs h hs hx ht, true_or, or_true, Option.toList_some, Option.toList_none, List.cons_append, List.nil_append, am_b0]
      show (if tq_in s t x = false then _ else _) = if tq_in s t x = true then _ else _
      cases tq_in s t x <;> simp
    · have ero : tq_r0 s p t sg = -10 - nI b := by
        unfold tq_r0 tq_ro
        rw [etn]
        simp only [hb]
        obtain ⟨x, hx⟩ := tq_upl_pa _ b hb
        rw [if_pos (bneg x b hx)]
      rw [ero] at hK
      exact hK M h (fx_f_rf M)
    · simp only [wM_route_0, wM_route_1, wM_route_2, wM_route_5, wM_route_7, wM_route_8, wM_route_9, wM_route_11, wM_route_14, wM_route_16, wM_route_18, wM_route_21, wM_route_22, wM_route_24, wM_route_25, wM_route_28, wM_route_31, wM_route_32, wM_route_35, wM_route_37, wM_route_39, wM_route_40, wM_route_41, wM_route_42, wM_route_45, wM_route_48, wM_route_49, wM_route_50, wM_route_53, wM_route_55, wM_route_58, wM_route_60, wM_route_61, wM_route_62, wM_route_66, wM_route_69, wM_route_71, wM_route_73, wM_route_76, wM_route_79, wM_route_80, wM_route_82, wM_route_83, wM_route_86, wM_route_89, wM_route_90, wM_route_92, wM_route_95, wM_route_97, wM_route_98, wM_route_99, wM_route_101, wM_route_103, wM_route_104, wM_route_107, wM_route_110, wM_route_112, wM_route_114, wM_route_115, wM_route_116, wM_route_118, wM_route_120, wM_route_123, wM_route_124, wM_route_126, wM_route_127, wM_route_131, wM_route_134, wM_route_136, wM_route_138, wM_route_141, wM_route_142, wM_route_145, wM_route_147, wM_route_150, wM_route_153, wM_route_154, wM_route_156, wM_route_159, wM_route_161, wM_route_164, wM_route_166, wM_route_167, wM_route_168, wM_route_172, wM_route_175, wM_route_176, wM_route_177, wM_route_180, wM_route_183, wM_route_186, wM_route_188, wM_route_189, wM_route_190, wM_route_192, wM_route_193, wM_route_196, wM_route_199, wM_route_200, wM_route_203, wM_route_206, wM_route_208, wM_route_210, wM_route_211, wM_route_212, wM_route_215, wM_route_218, wM_route_219, true_or, or_true, Option.toList_some, Option.toList_none, List.cons_append, List.nil_append, am_bf]
      have hclen := fo_c_len hs.1 t ht
      have hdl : fo_d (ts_L s) t < 20 := by
        obtain ⟨A, d, r, hL, hA⟩ := fo_split ht
        have := ((ml_ok_of hs).2.2 (t, d) (by rw [hL]; simp)).2
        rw [hL, fo_d_at hA]
        exact this
      refine mM_pth hs u _ _ _ _ _ t ht [] M h (fun i m hi => by cases hi) (fo_w_c hs.1 t ht huw) (by simp; omega) (fun M' l8 g1 g2 g3 => ?_)
      rw [List.nil_append] at g3 ⊢
      simp only [wM_route_0, wM_route_1, wM_route_2, wM_route_5, wM_route_7, wM_route_8, wM_route_9, wM_route_11, wM_route_14, wM_route_16, wM_route_18, wM_route_21, wM_route_22, wM_route_24, wM_route_25, wM_route_28, wM_route_31, wM_route_32, wM_route_35, wM_route_37, wM_route_39, wM_route_40, wM_route_41, wM_route_42, wM_route_45, wM_route_48, wM_route_49, wM_route_50, wM_route_53, wM_route_55, wM_route_58, wM_route_60, wM_route_61, wM_route_62, wM_route_66, wM_route_69, wM_route_71, wM_route_73, wM_route_76, wM_route_79, wM_route_80, wM_route_82, wM_route_83, wM_route_86, wM_route_89, wM_route_90, wM_route_92, wM_route_95, wM_route_97, wM_route_98, wM_route_99, wM_route_101, wM_route_103, wM_route_104, wM_route_107, wM_route_110, wM_route_112, wM_route_114, wM_route_115, wM_route_116, wM_route_118, wM_route_120, wM_route_123, wM_route_124, wM_route_126, wM_route_127, wM_route_131, wM_route_134, wM_route_136, wM_route_138, wM_route_141, wM_route_142, wM_route_145, wM_route_147, wM_route_150, wM_route_153, wM_route_154, wM_route_156, wM_route_159, wM_route_161, wM_route_164, wM_route_166, wM_route_167, wM_route_168, wM_route_172, wM_route_175, wM_route_176, wM_route_177, wM_route_180, wM_route_183, wM_route_186, wM_route_188, wM_route_189, wM_route_190, wM_route_192, wM_route_193, wM_route_196, wM_route_199, wM_route_200, wM_route_203, wM_route_206, wM_route_208, wM_route_210, wM_route_211, wM_route_212, wM_route_215, wM_route_218, wM_route_219]
      have hpa : ∀ x ∈ ls_til u (fo_c (ts_L s) t), ∃ q, ts_pa s x = some q := by
        have gen : ∀ t, t ∈ (ts_L s).map (·.1) → u ∈ fo_c (ts_L s) t → ∀ x ∈ ls_til u (fo_c (ts_L s) t), ∃ q, ts_pa s x = some q := by
          refine fo_ind hs.1 (fun x hx hp hux y hy => ?_) (fun x q hp ih hux y hy => ?_)
          · rw [fo_c_none hs.1 hx hp] at hux hy
            have e : u = x := by simpa using hux
            subst e
            simp [ls_til] at hy
          · rw [fo_c_some hs.1 hp] at hux hy
            unfold ls_til at hy
            split at hy
            · cases hy
            · rename_i hne
              rcases List.mem_cons.mp hy with rfl | hy
              · exact ⟨q, hp⟩
              · refine ih ?_ y hy
                rcases List.mem_cons.mp hux with z | z
                · exact absurd z.symm hne
                · exact z
        exact gen t ht (fo_w_c hs.1 t ht huw)
      refine mM_dwn g1 hs p20 sg _ _ _ _ _ g3 (Nat.le_trans (ls_til_le _ _) (by omega)) hpa (fun b hb2 => ?_) (fun hb2 => ?_) (ls_til u (fo_c (ts_L s) t)) [] (by simp) (fun x hx => by cases hx) _
      · have ero : tq_r0 s p t sg = -10 - nI b := by
          unfold tq_r0 tq_ro
          rw [etn]
          simp only [hb, hb2]
          obtain ⟨x, hx⟩ := tq_dnl_pa _ none b (fun b hb => by cases hb) hb2
          rw [if_pos (bneg x b hx)]
        rw [ero] at hK
        exact hK M' g1 g2
      · have ero : tq_r0 s p t sg = 0 := by
          unfold tq_r0 tq_ro
          rw [etn]
          simp only [hb, hb2]
          rfl
        rw [ero] at hK
        exact hK M' g1 g2
end MR
