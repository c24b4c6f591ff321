-- arrays made, fields, objects made
section SND3
variable {p : Program} {l : Launch} {e : Env} {R : Room} {s : State} {m : MethodId} {args : Array Value} {below : List Frame} {meth : Method} {c : Code} {H : Heap} {locs : List Loc} {cells slots : Nat} {Q : State → Prop} {D : va_G} {base y pc : Nat} {lo st : List am_V} {M : am_M}
theorem am_nI_of {n : Nat} (h : n ≤ 1000) : ¬ nI n < 0 ∧ (nI n).toNatClampNeg = n := ⟨nI_pos (by omega), nI_clamp (by omega)⟩
theorem am_wv_new {M : am_M} {x n : Nat} (h0 : x ≠ 0) : am_wv (am_al M x n) (.inr (.inl (x, some (am_sz M)))) := fun t a h => by
  cases h
  exact ⟨by simp [am_tg, am_al], h0⟩
theorem am_ev_al {M : am_M} {x n : Nat} (v : Value) (hv : v = if am_ak x = 3 then Value.null else .int 0) : (fun _ => v) = am_ev (am_al M x n) x (am_sz M) := by
  subst hv
  funext k
  by_cases h : am_ak x = 3 <;> simp [am_ev, h, am_mr, am_mi, am_al, va_rf]
theorem am_s39 (C : am_At p s m args meth c D y) {x : Nat} {at0 : ArrayType} (hd : decode (am_cd y) pc = .ok (.newarray at0, 2)) (hat : newarray.typeOf at0 = am_ty x) (hwd : Jvm.Cond.arrayClass (newarray.typeOf at0) ∈ am_ws) (h0 : x ≠ 0) (hk : am_ak x = 1 ∨ am_ak x = 2) (h1000 : am_ln x 0 ≤ 1000) (hc : cells + 1 ≤ R.cells) (hs : slots + am_ln x 0 ≤ R.slots) (k : am_Ok p l e R s m args below meth c Q D base y (pc + 2) lo (.inr (.inl (x, some (am_sz M))) :: st) (am_al M x (am_ln x 0)) (cells + 1) (slots + am_ln x 0)) : am_Ok p l e R s m args below meth c Q D base y pc lo (.inl (nI (am_ln x 0)) :: st) M cells slots := by
  intro H locs ls hR hL hwl hws hf
  have hn := am_nI_of h1000
  have hty : am_ty x = .int ∨ am_ty x = .boolean := hk.elim (fun h => Or.inl (am_ty1 h)) (fun h => Or.inr (am_ty2 h))
  have h4 : am_ak x ≠ 4 := by rcases hk with h | h <;> rw [h] <;> decide
  have h3 : am_ak x ≠ 3 := by rcases hk with h | h <;> rw [h] <;> decide
  have hz : am_ak x ≠ 0 := by rcases hk with h | h <;> rw [h] <;> decide
  refine va_newaK C.1 C.2.1 (C.2.2.2.2.1 _ hwd) rfl hd rfl hn.1 hn.2 (by rw [hat]; rcases hty with h | h <;> rw [h] <;> simp only [componentBytes] <;> omega) hc hs hR.1 fun H1 cA e1 z1 o1 hAr hNm => ?_
  refine k H1 locs ls (hR.al h0 h4 (by rw [z1, hR.1]) (fun q hq => o1 q (by rw [← hR.1]; exact hq)) ?_) hL (am_wt_to (am_al_tg hR x _) hwl) (am_wt_c (am_wv_new h0) (am_wt_to (am_al_tg hR x _) (am_wt_t hws))) hf
  unfold am_cell
  rw [if_neg hz, if_neg h4]
  rw [hat] at e1 hAr hNm
  refine ⟨cA, ?_, hAr, ?_⟩
  · rw [hR.1, e1, am_lnL (L := am_L (am_al M x (am_ln x 0))) h4]
    congr 2
    rw [← am_ev_al (n := am_ln x 0) (.int 0) (by rw [if_neg h3])]
    funext _
    rcases hty with h | h <;> rw [h] <;> rfl
  · rcases hty with h | h <;> rw [h] at hNm ⊢ <;> exact hNm
theorem am_s40 (C : am_At p s m args meth c D y) {x w : Nat} {C0 : String} (hd : decode (am_cd y) pc = .ok (.anewarray w, 3)) (hat : am_ty x = .object C0) (hcl : Jvm.Cond.classLink (am_nm y).cls w C0 ∈ am_ws) (hov : C0 = am_C1) (h0 : x ≠ 0) (hk : am_ak x = 3) (h1000 : am_ln x 0 ≤ 1000) (hc : cells + 1 ≤ R.cells) (hs : slots + am_ln x 0 ≤ R.slots) (k : am_Ok p l e R s m args below meth c Q D base y (pc + 3) lo (.inr (.inl (x, some (am_sz M))) :: st) (am_al M x (am_ln x 0)) (cells + 1) (slots + am_ln x 0)) : am_Ok p l e R s m args below meth c Q D base y pc lo (.inl (nI (am_ln x 0)) :: st) M cells slots := by
  intro H locs ls hR hL hwl hws hf
  have hn := am_nI_of h1000
  have h4 : am_ak x ≠ 4 := by rw [hk]; decide
  have hz : am_ak x ≠ 0 := by rw [hk]; decide
  refine W.anew C.1 C.2.1 C.2.2.2.1 (C.2.2.2.2.1 _ hcl) (va_AO.use (by rw [hov]; exact C.2.2.2.2.2.2.2.2)) rfl hd rfl hn.1 (by rw [hn.2]; omega) hc (by rw [hn.2]; exact hs) fun cA kA comp f1 f2 f3 f4 => ?_
  rw [hn.2]
  generalize hH1 : H.push ({ cls := cA, slots := Array.replicate (am_ln x 0) .null, vm := .none } : Cell) = H1
  have z1 : H1.size = H.size + 1 := by rw [← hH1, Array.size_push]
  have e1 : H1[H.size]? = some (arrV cA (am_ln x 0) (fun _ => .null)) := by rw [← hH1, Array.getElem?_push_size, ← arrV_new]
  have o1 : ∀ q : Nat, q < H.size → H1[q]? = H[q]? := fun q hq => by rw [← hH1, Array.getElem?_push, if_neg (Nat.ne_of_lt hq)]
  have hAr : ArrOfT s cA (.object C0) := fun N z => ⟨(fun k h => by cases h), kA, f2, comp, f3⟩
  have hst : F0 m (pc + 3) ls (.ref H.size :: st.map am_v) = F0 m (pc + 3) ls ((.inr (.inl (x, some (am_sz M))) :: st : List am_V).map am_v) := by rw [hR.1]; rfl
  refine W.eq hst ?_
  refine k H1 locs ls (hR.al h0 h4 z1 o1 ?_) hL (am_wt_to (am_al_tg hR x _) hwl) (am_wt_c (am_wv_new h0) (am_wt_to (am_al_tg hR x _) (am_wt_t hws))) hf
  unfold am_cell
  rw [if_neg hz, if_neg h4, hat]
  refine ⟨cA, ?_, hAr, kA, comp, f2, f3, f4, f1⟩
  rw [e1, am_lnL (L := am_L (am_al M x (am_ln x 0))) h4, hR.1]
  congr 2
  exact am_ev_al (n := am_ln x 0) .null (by rw [if_pos hk])
theorem am_lkf_spec {y x k w : Nat} {r : vw_C} (h : am_lkf y x k w = true) (hr : am_cl[am_ci x]? = some r) : k < r.2.2 ∧ Jvm.Cond.fieldLink (am_nm y).cls w (r.2.1 k).1 (r.2.1 k).2.1 (r.2.1 k).2.2.1 ∈ am_ws ∧ am_ak x = 0 := by
  unfold am_lkf at h
  rw [hr] at h
  simp only [Bool.and_eq_true, decide_eq_true_eq] at h
  exact ⟨h.1.1, h.1.2, h.2⟩
theorem am_lkf_ak {y x k w : Nat} (h : am_lkf y x k w = true) : am_ak x = 0 := by
  unfold am_lkf at h
  split at h
  · simp only [Bool.and_eq_true, decide_eq_true_eq] at h
    exact h.2
  · cases h
theorem am_fv_si {M : am_M} {t a k : Nat} {x : Int32} (h : am_ft t k ≠ 2) (j : Nat) : updV (am_fv M t a) k (.int x) j = am_fv (am_si M a k x) t a j := by
  by_cases hj : j = k
  · subst hj; simp [updV, am_fv, h, am_mi, am_si]
  · simp [updV, am_fv, am_mi, am_mr, am_si, hj]
theorem am_fv_sr {M : am_M} {t a k : Nat} {o : Option Nat} (h : am_ft t k = 2) (j : Nat) : updV (am_fv M t a) k (va_rf o) j = am_fv (am_sr M a k o) t a j := by
  by_cases hj : j = k
  · subst hj; simp [updV, am_fv, h, am_mr, am_sr]
  · simp [updV, am_fv, am_mi, am_mr, am_sr, hj]
theorem am_s41 (C : am_At p s m args meth c D y) {x k w a : Nat} (hd : decode (am_cd y) pc = .ok (.getfield w, 3)) (hk : am_lkf y x k w = true) (h2 : am_ft x k ≠ 2) (kk : am_Ok p l e R s m args below meth c Q D base y (pc + 3) lo (.inl (am_mi M a k) :: st) M cells slots) : am_Ok p l e R s m args below meth c Q D base y pc lo (.inr (.inl (x, some a)) :: st) M cells slots := by
  intro H locs ls hR hL hwl hws hf
  obtain ⟨hb, htg, r, q1, cell, q2, q3, q4, q5⟩ := am_obj hR (am_wt_h hws) (am_lkf_ak hk)
  obtain ⟨hkN, hlk, -⟩ := am_lkf_spec hk q1
  obtain ⟨hS, hfc, kC, hkC, hkind⟩ := C.2.2.2.2.2.2.1.1 _ _ q1
  obtain ⟨hin, hty, hnm⟩ := am_clk _ _ q1
  obtain ⟨cf, kf, fi, f, hi, hsl⟩ := hS k hkN
  refine W.getf C.1 C.2.1 C.2.2.2.1 (C.2.2.2.2.1 _ hlk) hi (u_facts hfc hkC (u_lays C.2.2.2.2.1 hin hkN) hi).1 q2 (by rw [q4]; exact fun h => by cases h) (v := .int (am_mi M a k)) ?_ rfl rfl hd (kk H locs ls hR hL hwl (am_wt_c (am_wv_i M _) (am_wt_t hws)) hf)
  rw [hsl, q5 k hkN]
  simp [am_fv, h2]
theorem am_s42 (C : am_At p s m args meth c D y) {x k w a : Nat} (hd : decode (am_cd y) pc = .ok (.getfield w, 3)) (hk : am_lkf y x k w = true) (h2 : am_ft x k = 2) (kk : am_Ok p l e R s m args below meth c Q D base y (pc + 3) lo (.inr (.inl (am_fr x k, am_mr M a k)) :: st) M cells slots) : am_Ok p l e R s m args below meth c Q D base y pc lo (.inr (.inl (x, some a)) :: st) M cells slots := by
  intro H locs ls hR hL hwl hws hf
  obtain ⟨hb, htg, r, q1, cell, q2, q3, q4, q5⟩ := am_obj hR (am_wt_h hws) (am_lkf_ak hk)
  obtain ⟨hkN, hlk, -⟩ := am_lkf_spec hk q1
  obtain ⟨hS, hfc, kC, hkC, hkind⟩ := C.2.2.2.2.2.2.1.1 _ _ q1
  obtain ⟨hin, hty, hnm⟩ := am_clk _ _ q1
  obtain ⟨cf, kf, fi, f, hi, hsl⟩ := hS k hkN
  have hv : am_wv M (.inr (.inl (am_fr x k, am_mr M a k))) := fun t' b' q => by
    have q1 := (Prod.mk.inj (Sum.inl.inj (Sum.inr.inj q)))
    have h5 := hR.2.2.2 a k b' q1.2
    rw [htg] at h5
    rw [← q1.1]
    exact ⟨h5.1, by rw [← h5.1]; exact h5.2⟩
  refine W.getf C.1 C.2.1 C.2.2.2.1 (C.2.2.2.2.1 _ hlk) hi (u_facts hfc hkC (u_lays C.2.2.2.2.1 hin hkN) hi).1 q2 (by rw [q4]; exact fun h => by cases h) (v := va_rf (am_mr M a k)) ?_ rfl rfl hd (kk H locs ls hR hL hwl (am_wt_c hv (am_wt_t hws)) hf)
  rw [hsl, q5 k hkN]
  simp [am_fv, h2]
theorem am_s43 (C : am_At p s m args meth c D y) {x k w a : Nat} {v : Int32} (hd : decode (am_cd y) pc = .ok (.putfield w, 3)) (hk : am_lkf y x k w = true) (hfin : ∀ r, am_cl[am_ci x]? = some r → (r.2.1 k).2.2.2 = false) (h2 : am_ft x k = 0) (kk : am_Ok p l e R s m args below meth c Q D base y (pc + 3) lo st (am_si M a k v) cells slots) : am_Ok p l e R s m args below meth c Q D base y pc lo (.inl v :: .inr (.inl (x, some a)) :: st) M cells slots := by
  intro H locs ls hR hL hwl hws hf
  obtain ⟨hb, htg, r, q1, cell, q2, q3, q4, q5⟩ := am_obj hR (am_wt_h (am_wt_t hws)) (am_lkf_ak hk)
  obtain ⟨hkN, hlk, hak⟩ := am_lkf_spec hk q1
  obtain ⟨hS, hfc, kC, hkC, hkind⟩ := C.2.2.2.2.2.2.1.1 _ _ q1
  obtain ⟨hin, hty, hnm⟩ := am_clk _ _ q1
  obtain ⟨C0, T0, N0⟩ := r
  have hap := va_apart (own := C0) C.2.2.2.2.1 hin (am_tf (am_ci x)) hty hnm C.2.2.2.2.2.2.1 q1
  obtain ⟨cf, kf, fi, f, hi, hsl⟩ := hS k hkN
  have hst := (u_facts hfc hkC (u_lays C.2.2.2.2.1 hin hkN) hi).1
  have hlay := C.2.2.2.2.1 _ (hin _ (u_in_lay hkN))
  unfold u_lay at hlay
  rw [if_neg (by rw [hfin _ q1]; decide)] at hlay
  have h6 := u_store (v := (.int v)) hfc hkC hkind hlay hi (hty k hkN) (by rw [am_tf0 h2]; rfl) (by rw [am_tf0 h2]; rfl)
  refine W.putK C.1 C.2.1 (f := f) ⟨C.2.2.2.1, C.2.2.2.2.1 _ hlk, ⟨_, _, _, hi⟩, hst⟩ (by rw [q3]; exact h6) q2 q4 (by rw [hsl]; exact k2_hasslot (q5 k hkN)) rfl rfl hd fun H1 e1 z1 oq => ?_
  rw [hsl] at e1
  refine kk H1 _ ls (hR.set (a := a) z1 oq rfl rfl rfl am_si_o (fun _ _ _ => rfl) ?_ (am_wm_si hR.2.2.2)) hL hwl (am_wt_t (am_wt_t hws)) (am_free hf hb)
  rw [htg]
  unfold am_cell
  rw [if_pos hak]
  exact ⟨_, q1, t_OB.to (V := updV (am_fv M x a) k (.int v)) ⟨_, e1, q3, q4, t_set q5 hap hkN (.int v)⟩ (fun j _ => am_fv_si (by rw [h2]; decide) j)⟩
theorem am_s46 (C : am_At p s m args meth c D y) {x k w a : Nat} {v : Int32} (hd : decode (am_cd y) pc = .ok (.putfield w, 3)) (hk : am_lkf y x k w = true) (hini : (am_nm y).name = "<init>") (hfin : ∀ r, am_cl[am_ci x]? = some r → (r.2.1 k).2.2.2 = true ∧ (r.2.1 k).1 = (am_nm y).cls) (h2 : am_ft x k = 0) (kk : am_Ok p l e R s m args below meth c Q D base y (pc + 3) lo st (am_si M a k v) cells slots) : am_Ok p l e R s m args below meth c Q D base y pc lo (.inl v :: .inr (.inl (x, some a)) :: st) M cells slots := by
  intro H locs ls hR hL hwl hws hf
  obtain ⟨hb, htg, r, q1, cell, q2, q3, q4, q5⟩ := am_obj hR (am_wt_h (am_wt_t hws)) (am_lkf_ak hk)
  obtain ⟨hkN, hlk, hak⟩ := am_lkf_spec hk q1
  obtain ⟨hS, hfc, kC, hkC, hkind⟩ := C.2.2.2.2.2.2.1.1 _ _ q1
  obtain ⟨hin, hty, hnm⟩ := am_clk _ _ q1
  obtain ⟨C0, T0, N0⟩ := r
  have hap := va_apart (own := C0) C.2.2.2.2.1 hin (am_tf (am_ci x)) hty hnm C.2.2.2.2.2.2.1 q1
  obtain ⟨cf, kf, fi, f, hi, hsl⟩ := hS k hkN
  have hst := (u_facts hfc hkC (u_lays C.2.2.2.2.1 hin hkN) hi).1
  have hlay := C.2.2.2.2.1 _ (hin _ (u_in_lay hkN))
  unfold u_lay at hlay
  rw [if_pos (hfin _ q1).1] at hlay
  have hcf : m.cls = cf := by
    obtain ⟨_, _, c', _, _, _, -, -, hf', -, -, -, hown2, -⟩ := Cond.laysFinal_spec hlay
    have e1 : c' = cf := by have := hi.symm.trans hf'; simp at this; exact this.1.symm
    have hdecl : (T0 k).1 = (am_nm y).cls := (hfin _ q1).2
    rw [hdecl] at hown2
    rw [← e1]; exact Option.some.inj (C.2.2.2.1.symm.trans hown2)
  have h6 := u_fits (v := (.int v)) hfc hkC hkind (Or.inr hlay) hi (hty k hkN) (by rw [am_tf0 h2]; rfl) (by rw [am_tf0 h2]; rfl)
  refine W.putFinK C.1 C.2.1 C.2.2.2.1 (C.2.2.2.2.1 _ hlk) hi hst hcf (C.2.2.2.2.2.1 hini) (by rw [q3]; exact h6) q2 q4 (by rw [hsl]; exact k2_hasslot (q5 k hkN)) rfl rfl hd fun H1 e1 z1 oq => ?_
  rw [hsl] at e1
  refine kk H1 _ ls (hR.set (a := a) z1 oq rfl rfl rfl am_si_o (fun _ _ _ => rfl) ?_ (am_wm_si hR.2.2.2)) hL hwl (am_wt_t (am_wt_t hws)) (am_free hf hb)
  rw [htg]
  unfold am_cell
  rw [if_pos hak]
  exact ⟨_, q1, t_OB.to (V := updV (am_fv M x a) k (.int v)) ⟨_, e1, q3, q4, t_set q5 hap hkN (.int v)⟩ (fun j _ => am_fv_si (by rw [h2]; decide) j)⟩
theorem am_s44 (C : am_At p s m args meth c D y) {x k w a : Nat} {v : Int32} (hd : decode (am_cd y) pc = .ok (.putfield w, 3)) (hk : am_lkf y x k w = true) (hfin : ∀ r, am_cl[am_ci x]? = some r → (r.2.1 k).2.2.2 = false) (h2 : am_ft x k = 1) (hv : v = 0 ∨ v = 1) (kk : am_Ok p l e R s m args below meth c Q D base y (pc + 3) lo st (am_si M a k v) cells slots) : am_Ok p l e R s m args below meth c Q D base y pc lo (.inl v :: .inr (.inl (x, some a)) :: st) M cells slots := by
  intro H locs ls hR hL hwl hws hf
  obtain ⟨hb, htg, r, q1, cell, q2, q3, q4, q5⟩ := am_obj hR (am_wt_h (am_wt_t hws)) (am_lkf_ak hk)
  obtain ⟨hkN, hlk, hak⟩ := am_lkf_spec hk q1
  obtain ⟨hS, hfc, kC, hkC, hkind⟩ := C.2.2.2.2.2.2.1.1 _ _ q1
  obtain ⟨hin, hty, hnm⟩ := am_clk _ _ q1
  obtain ⟨C0, T0, N0⟩ := r
  have hap := va_apart (own := C0) C.2.2.2.2.1 hin (am_tf (am_ci x)) hty hnm C.2.2.2.2.2.2.1 q1
  obtain ⟨cf, kf, fi, f, hi, hsl⟩ := hS k hkN
  have hst := (u_facts hfc hkC (u_lays C.2.2.2.2.1 hin hkN) hi).1
  have hlay := C.2.2.2.2.1 _ (hin _ (u_in_lay hkN))
  unfold u_lay at hlay
  rw [if_neg (by rw [hfin _ q1]; decide)] at hlay
  have h6 := u_store (v := (.int v)) hfc hkC hkind hlay hi (hty k hkN) (by rw [am_tf1 h2]; rcases hv with rfl | rfl <;> rfl) (by rw [am_tf1 h2]; rcases hv with rfl | rfl <;> rfl)
  refine W.putK C.1 C.2.1 (f := f) ⟨C.2.2.2.1, C.2.2.2.2.1 _ hlk, ⟨_, _, _, hi⟩, hst⟩ (by rw [q3]; exact h6) q2 q4 (by rw [hsl]; exact k2_hasslot (q5 k hkN)) rfl rfl hd fun H1 e1 z1 oq => ?_
  rw [hsl] at e1
  refine kk H1 _ ls (hR.set (a := a) z1 oq rfl rfl rfl am_si_o (fun _ _ _ => rfl) ?_ (am_wm_si hR.2.2.2)) hL hwl (am_wt_t (am_wt_t hws)) (am_free hf hb)
  rw [htg]
  unfold am_cell
  rw [if_pos hak]
  exact ⟨_, q1, t_OB.to (V := updV (am_fv M x a) k (.int v)) ⟨_, e1, q3, q4, t_set q5 hap hkN (.int v)⟩ (fun j _ => am_fv_si (by rw [h2]; decide) j)⟩
theorem am_s45 (C : am_At p s m args meth c D y) {x k w a : Nat} {o : Option Nat} (hd : decode (am_cd y) pc = .ok (.putfield w, 3)) (hk : am_lkf y x k w = true) (hfin : ∀ r, am_cl[am_ci x]? = some r → (r.2.1 k).2.2.2 = false) (h2 : am_ft x k = 2) (hr2 : am_isr (am_tf (am_ci x) k) = true) (kk : am_Ok p l e R s m args below meth c Q D base y (pc + 3) lo st (am_sr M a k o) cells slots) : am_Ok p l e R s m args below meth c Q D base y pc lo (.inr (.inl (am_fr x k, o)) :: .inr (.inl (x, some a)) :: st) M cells slots := by
  intro H locs ls hR hL hwl hws hf
  obtain ⟨hb, htg, r, q1, cell, q2, q3, q4, q5⟩ := am_obj hR (am_wt_h (am_wt_t hws)) (am_lkf_ak hk)
  obtain ⟨hkN, hlk, hak⟩ := am_lkf_spec hk q1
  obtain ⟨hS, hfc, kC, hkC, hkind⟩ := C.2.2.2.2.2.2.1.1 _ _ q1
  obtain ⟨hin, hty, hnm⟩ := am_clk _ _ q1
  obtain ⟨C0, T0, N0⟩ := r
  have hap := va_apart (own := C0) C.2.2.2.2.1 hin (am_tf (am_ci x)) hty hnm C.2.2.2.2.2.2.1 q1
  obtain ⟨cf, kf, fi, f, hi, hsl⟩ := hS k hkN
  have hst := (u_facts hfc hkC (u_lays C.2.2.2.2.1 hin hkN) hi).1
  have hlay := C.2.2.2.2.1 _ (hin _ (u_in_lay hkN))
  unfold u_lay at hlay
  rw [if_neg (by rw [hfin _ q1]; decide)] at hlay
  have h6 := u_store (v := (va_rf o)) hfc hkC hkind hlay hi (hty k hkN) (am_tf2 hr2 o).1 (am_tf2 hr2 o).2
  refine W.putK C.1 C.2.1 (f := f) ⟨C.2.2.2.1, C.2.2.2.2.1 _ hlk, ⟨_, _, _, hi⟩, hst⟩ (by rw [q3]; exact h6) q2 q4 (by rw [hsl]; exact k2_hasslot (q5 k hkN)) rfl rfl hd fun H1 e1 z1 oq => ?_
  rw [hsl] at e1
  refine kk H1 _ ls (hR.set (a := a) z1 oq rfl rfl rfl (fun _ _ _ => rfl) am_sr_o ?_ (am_wm_sr hR.2.2.2 (fun b hb2 => by subst hb2; have h7 := am_wt_h hws (am_fr x k) b rfl; rw [htg, h7.1]; exact ⟨rfl, h7.2⟩))) hL hwl (am_wt_t (am_wt_t hws)) (am_free hf hb)
  rw [htg]
  unfold am_cell
  rw [if_pos hak]
  exact ⟨_, q1, t_OB.to (V := updV (am_fv M x a) k (va_rf o)) ⟨_, e1, q3, q4, t_set q5 hap hkN (va_rf o)⟩ (fun j _ => am_fv_sr h2 j)⟩
theorem am_s47 (C : am_At p s m args meth c D y) {x k w a : Nat} {o : Option Nat} (hd : decode (am_cd y) pc = .ok (.putfield w, 3)) (hk : am_lkf y x k w = true) (hini : (am_nm y).name = "<init>") (hfin : ∀ r, am_cl[am_ci x]? = some r → (r.2.1 k).2.2.2 = true ∧ (r.2.1 k).1 = (am_nm y).cls) (h2 : am_ft x k = 2) (hr2 : am_isr (am_tf (am_ci x) k) = true) (kk : am_Ok p l e R s m args below meth c Q D base y (pc + 3) lo st (am_sr M a k o) cells slots) : am_Ok p l e R s m args below meth c Q D base y pc lo (.inr (.inl (am_fr x k, o)) :: .inr (.inl (x, some a)) :: st) M cells slots := by
  intro H locs ls hR hL hwl hws hf
  obtain ⟨hb, htg, r, q1, cell, q2, q3, q4, q5⟩ := am_obj hR (am_wt_h (am_wt_t hws)) (am_lkf_ak hk)
  obtain ⟨hkN, hlk, hak⟩ := am_lkf_spec hk q1
  obtain ⟨hS, hfc, kC, hkC, hkind⟩ := C.2.2.2.2.2.2.1.1 _ _ q1
  obtain ⟨hin, hty, hnm⟩ := am_clk _ _ q1
  obtain ⟨C0, T0, N0⟩ := r
  have hap := va_apart (own := C0) C.2.2.2.2.1 hin (am_tf (am_ci x)) hty hnm C.2.2.2.2.2.2.1 q1
  obtain ⟨cf, kf, fi, f, hi, hsl⟩ := hS k hkN
  have hst := (u_facts hfc hkC (u_lays C.2.2.2.2.1 hin hkN) hi).1
  have hlay := C.2.2.2.2.1 _ (hin _ (u_in_lay hkN))
  unfold u_lay at hlay
  rw [if_pos (hfin _ q1).1] at hlay
  have hcf : m.cls = cf := by
    obtain ⟨_, _, c', _, _, _, -, -, hf', -, -, -, hown2, -⟩ := Cond.laysFinal_spec hlay
    have e1 : c' = cf := by have := hi.symm.trans hf'; simp at this; exact this.1.symm
    have hdecl : (T0 k).1 = (am_nm y).cls := (hfin _ q1).2
    rw [hdecl] at hown2
    rw [← e1]; exact Option.some.inj (C.2.2.2.1.symm.trans hown2)
  have h6 := u_fits (v := (va_rf o)) hfc hkC hkind (Or.inr hlay) hi (hty k hkN) (am_tf2 hr2 o).1 (am_tf2 hr2 o).2
  refine W.putFinK C.1 C.2.1 C.2.2.2.1 (C.2.2.2.2.1 _ hlk) hi hst hcf (C.2.2.2.2.2.1 hini) (by rw [q3]; exact h6) q2 q4 (by rw [hsl]; exact k2_hasslot (q5 k hkN)) rfl rfl hd fun H1 e1 z1 oq => ?_
  rw [hsl] at e1
  refine kk H1 _ ls (hR.set (a := a) z1 oq rfl rfl rfl (fun _ _ _ => rfl) am_sr_o ?_ (am_wm_sr hR.2.2.2 (fun b hb2 => by subst hb2; have h7 := am_wt_h hws (am_fr x k) b rfl; rw [htg, h7.1]; exact ⟨rfl, h7.2⟩))) hL hwl (am_wt_t (am_wt_t hws)) (am_free hf hb)
  rw [htg]
  unfold am_cell
  rw [if_pos hak]
  exact ⟨_, q1, t_OB.to (V := updV (am_fv M x a) k (va_rf o)) ⟨_, e1, q3, q4, t_set q5 hap hkN (va_rf o)⟩ (fun j _ => am_fv_sr h2 j)⟩
theorem am_s48 (C : am_At p s m args meth c D y) {x w : Nat} {r : vw_C} (hd : decode (am_cd y) pc = .ok (.new w, 3)) (hr : am_cl[am_ci x]? = some r) (hN : r.2.2 = am_nf x) (hcl : Jvm.Cond.classLink (am_nm y).cls w r.1 ∈ am_ws) (hins : Jvm.Cond.instantiable r.1 r.2.2 ∈ am_ws) (hini : Jvm.Cond.initialized r.1 ∈ am_ws) (h0 : x ≠ 0) (hk : am_ak x = 0) (hfs : ∀ k, k < am_nf x → defaultValue (am_tf (am_ci x) k) = if am_ft x k = 2 then .null else .int 0) (hc : cells + 1 ≤ R.cells) (hs : slots + am_nf x ≤ R.slots) (k : am_Ok p l e R s m args below meth c Q D base y (pc + 3) lo (.inr (.inl (x, some (am_sz M))) :: st) (am_al M x (am_nf x)) (cells + 1) (slots + am_nf x)) : am_Ok p l e R s m args below meth c Q D base y pc lo st M cells slots := by
  intro H locs ls hR hL hwl hws hf
  have h4 : am_ak x ≠ 4 := by rw [hk]; decide
  have hKn := C.2.2.2.2.2.2.1.1 _ _ hr
  obtain ⟨hin, hty, hnm⟩ := am_clk _ _ hr
  rw [← hN] at hs k hfs
  refine W.newcK C.1 C.2.1 C.2.2.2.1 (C.2.2.2.2.1 _ hcl) (C.2.2.2.2.1 _ hins) (C.2.2.2.2.1 _ hini) rfl hd hc hs hKn.2.1 hR.1 fun H1 kC hkC e1 z1 o1 => ?_
  refine k H1 locs ls (hR.al h0 h4 (by rw [z1, hR.1]) (fun q hq => o1 q (by rw [← hR.1]; exact hq)) ?_) hL (am_wt_to (am_al_tg hR x _) hwl) (am_wt_c (am_wv_new h0) (am_wt_to (am_al_tg hR x _) hws)) hf
  unfold am_cell
  rw [if_pos hk, hR.1]
  refine ⟨r, hr, (u_born (am_tf (am_ci x)) C.2.2.2.2.1 hin hKn hkC e1 hty).to (fun j hj => ?_)⟩
  rw [hfs j hj]
  by_cases h2 : am_ft x j = 2 <;> simp [am_fv, h2, am_mi, am_mr, am_al, va_rf]
theorem am_s49 (C : am_At p s m args meth c D y) {w t a : Nat} (hd : decode (am_cd y) pc = .ok (.invokespecial w, 3)) (h1 : Jvm.Cond.methodLink (am_nm y).cls w Lib.objectInit ∈ am_ws) (h2 : Jvm.Cond.instanceMethod Lib.objectInit ∈ am_ws) (h3 : Jvm.Cond.code Lib.objectInit ⟨#[0xb1]⟩ 1 none ∈ am_ws) (h8 : st.length ≤ 8) (hfr : 1 ≤ R.frames) (hlo : 40 ≤ R.locals) (k : am_Ok p l e R s m args below meth c Q D base y (pc + 3) lo st M cells slots) : am_Ok p l e R s m args below meth c Q D base y pc lo (.inr (.inl (t, some a)) :: st) M cells slots := by
  intro H locs ls hR hL hwl hws hf
  exact W.objInit C.1 C.2.1 C.2.2.2.1 (C.2.2.2.2.1 _ h1) (C.2.2.2.2.1 _ h2) (C.2.2.2.2.1 _ h3) rfl (by rw [C.2.2.1]; exact hL.1) rfl hd hfr (by show 2 * 0 + _ + 12 ≤ _; rw [am_v_sum]; omega) (k H locs ls hR hL hwl (am_wt_t hws) hf)
theorem am_s50 (C : am_At p s m args meth c D y) {x : Nat} {v : Int32} {len : Nat} {dflt l0 h0 : Int} {offs : List Int} (hd : decode (am_cd y) pc = .ok (.tableswitch dflt l0 h0 offs.toArray, len)) (hlen : h0 - l0 < (offs.length : Int)) (h1 : ∀ o ∈ dflt :: offs, 0 ≤ (pc : Int) + o) (hx : am_swt x v = ((pc : Int) + (if v.toInt < l0 ∨ h0 < v.toInt then dflt else offs.getD (v.toInt - l0).toNat 0)).toNat) (k : am_Ok p l e R s m args below meth c Q D base y (am_swt x v) lo st M cells slots) : am_Ok p l e R s m args below meth c Q D base y pc lo (.inl v :: st) M cells slots := by
  intro H locs ls hR hL hwl hws hf
  have h2 := k H locs ls hR hL hwl (am_wt_t hws) hf
  by_cases hout : v.toInt < l0 ∨ h0 < v.toInt
  · rw [if_pos hout] at hx
    exact lv_tableOut (tgt := am_swt x v) C.1 C.2.1 hd hout (by rw [hx]; have := h1 dflt List.mem_cons_self; omega) h2
  · rw [if_neg hout] at hx
    have hlt : (v.toInt - l0).toNat < offs.length := by omega
    have hg : offs.toArray[(v.toInt - l0).toNat]? = some (offs.getD (v.toInt - l0).toNat 0) := by
      simp [hlt, List.getD_eq_getElem?_getD]
    have hmem : offs.getD (v.toInt - l0).toNat 0 ∈ dflt :: offs := by
      refine List.mem_cons_of_mem _ ?_
      rw [List.getD_eq_getElem?_getD, List.getElem?_eq_getElem hlt]
      exact List.getElem_mem hlt
    exact lv_tableIn (tgt := am_swt x v) C.1 C.2.1 hd (fun h => hout (Or.inl h)) (fun h => hout (Or.inr h)) hg (by rw [hx]; have := h1 _ hmem; omega) h2
theorem am_s50b (C : am_At p s m args meth c D y) {x : Nat} {v : Int32} {len : Nat} {dflt : Int} {ps : List (Int × Int)} (hd : decode (am_cd y) pc = .ok (.lookupswitch dflt ps.toArray, len)) (hp : (ps.zip (ps.drop 1)).all (fun (a, next) => a.1 < next.1) = true) (h1 : 0 ≤ (pc : Int) + Op.lookupswitch.offset ps dflt v.toInt) (hx : am_swt x v = ((pc : Int) + Op.lookupswitch.offset ps dflt v.toInt).toNat) (k : am_Ok p l e R s m args below meth c Q D base y (am_swt x v) lo st M cells slots) : am_Ok p l e R s m args below meth c Q D base y pc lo (.inl v :: st) M cells slots := by
  intro H locs ls hR hL hwl hws hf
  exact lv_lookup (tgt := am_swt x v) C.1 C.2.1 hd hp rfl (by rw [hx]; show (pc : Int) + Op.lookupswitch.offset ps dflt v.toInt = _; omega) (k H locs ls hR hL hwl (am_wt_t hws) hf)
theorem am_s51 (C : am_At p s m args meth c D y) {w0 : Nat} {v w : Int32} (hd : decode (am_cd y) pc = .ok (.invokestatic w0, 3)) (h1 : Jvm.Cond.methodLink (am_nm y).cls w0 Lib.Math.min.name ∈ am_ws) (h2 : Jvm.Cond.static Lib.Math.min.name ∈ am_ws) (h3 : Jvm.Cond.initialized "java/lang/Math" ∈ am_ws) (h4 : Jvm.Cond.code Lib.Math.min.name Lib.Math.min.code 2 (some .int) ∈ am_ws) (h8 : st.length ≤ 8) (hfr : 1 ≤ R.frames) (hlo : 40 ≤ R.locals) (hc : cells ≤ R.cells) (hs : slots ≤ R.slots) (k : am_Ok p l e R s m args below meth c Q D base y (pc + 3) lo (.inl (if w < v then w else v) :: st) M cells slots) : am_Ok p l e R s m args below meth c Q D base y pc lo (.inl w :: .inl v :: st) M cells slots := by
  intro H locs ls hR hL hwl hws hf
  exact va_mmin C.1 C.2.1 (by rw [C.2.2.1]; exact hL.1.symm) C.2.2.2.1 (C.2.2.2.2.1 _ h1) (C.2.2.2.2.1 _ h2) (C.2.2.2.2.1 _ h3) (C.2.2.2.2.1 _ h4) hfr (by rw [am_v_sum]; omega) hc hs hd (k H locs ls hR hL hwl (am_wt_c (am_wv_i M _) (am_wt_t (am_wt_t hws))) hf)
end SND3
