-- THE WALK
section CW
def fo_bh (L : fo_L) (n : Nat) : fo_L := match fo_sp L n with
  | some q => q.2.2
  | none => []
def fo_wn (L : fo_L) (u n : Nat) : Option Nat := match (fo_bh L n).head? with
  | some q => if fo_d L u < q.2 then some q.1 else none
  | none => none
def fo_wa (L : fo_L) (u n : Nat) : Option Nat := match (fo_a L n).head? with
  | some q => if fo_d L u < q.2 then some q.1 else none
  | none => none
theorem fo_bh_at {A : fo_L} {n d : Nat} {r : fo_L} (h : n ∉ A.map (·.1)) : fo_bh (A ++ (n, d) :: r) n = r := by
  unfold fo_bh; rw [fo_sp_app h]
theorem fo_w_deep {L : fo_L} {u n : Nat} (hok : fo_ok L) (h : n ∈ fo_w L u) (hne : u ≠ n) : fo_d L u < fo_d L n := by
  obtain ⟨A, d, r, h1, h2⟩ := fo_split (fo_w_mem h).1
  subst h1
  rw [fo_w_at h2] at h
  obtain ⟨q, h4, h5⟩ := List.mem_map.mp ((List.mem_cons.mp h).resolve_left (Ne.symm hne))
  obtain ⟨S1, S2, h6⟩ := List.append_of_mem h4
  obtain ⟨n', e⟩ := q
  dsimp only at h5
  subst h5
  have hde : d < e := fo_sg_gt _ h4
  have hL : A ++ (u, d) :: r = (A ++ (u, d) :: S1) ++ (n', e) :: (S2 ++ fo_rs d r) := by
    conv => lhs; rw [← fo_sr d r, h6]
    simp
  have hnb : n' ∉ (A ++ (u, d) :: S1).map (·.1) := fo_nd (d := e) (r := S2 ++ fo_rs d r) (by rw [← hL]; exact hok.1)
  have e1 : fo_d (A ++ (u, d) :: r) n' = e := by rw [hL]; exact fo_d_at hnb
  rw [e1, fo_d_at h2]
  exact hde
theorem fo_w_next {L : fo_L} {u n : Nat} {l1 l2 : List Nat} (hok : fo_ok L) (h : fo_w L u = l1 ++ n :: l2) : fo_wn L u n = l2.head? := by
  have hmem : n ∈ fo_w L u := by rw [h]; simp
  obtain ⟨A, d, r, h1, h2⟩ := fo_split (fo_w_mem hmem).1
  subst h1
  have hd : fo_d (A ++ (u, d) :: r) u = d := fo_d_at h2
  have hrs := fo_hd_rs d r
  unfold fo_wn
  rw [hd]
  rw [fo_w_at h2] at h
  cases l1 with
  | nil =>
    have h3 := List.cons.inj h
    have hu : u = n := h3.1
    subst hu
    rw [fo_bh_at h2, ← h3.2]
    cases hsg : fo_sg d r with
    | nil =>
      have hr : r = fo_rs d r := by
        have := fo_sr d r
        rw [hsg] at this
        exact this.symm
      cases r with
      | nil => rfl
      | cons q r =>
        have hq := hrs q (by rw [← hr]; rfl)
        simp only [List.head?_cons, List.map_nil, List.head?_nil]
        rw [if_neg (by omega)]
    | cons q S =>
      have hq : d < q.2 := fo_sg_gt (d := d) (r := r) q (by rw [hsg]; exact List.mem_cons_self)
      have hr : r = q :: (S ++ fo_rs d r) := by
        have := fo_sr d r
        rw [hsg] at this
        exact this.symm
      rw [hr]
      simp only [List.head?_cons, List.map_cons]
      rw [if_pos hq]
  | cons x l1 =>
    have h3 := List.cons.inj h
    obtain ⟨S1, S2', h4, h5, h6⟩ := List.map_eq_append_iff.mp h3.2
    obtain ⟨q, S2, h7, h8, h9⟩ := List.map_eq_cons_iff.mp h6
    subst h7
    obtain ⟨n', e⟩ := q
    dsimp only at h8
    subst h8
    have hL : A ++ (u, d) :: r = (A ++ (u, d) :: S1) ++ (n', e) :: (S2 ++ fo_rs d r) := by
      conv => lhs; rw [← fo_sr d r, h4]
      simp
    have hnb : n' ∉ (A ++ (u, d) :: S1).map (·.1) := fo_nd (d := e) (r := S2 ++ fo_rs d r) (by rw [← hL]; exact hok.1)
    have hbh : fo_bh (A ++ (u, d) :: r) n' = S2 ++ fo_rs d r := by rw [hL]; exact fo_bh_at hnb
    rw [hbh, ← h9]
    cases S2 with
    | nil =>
      cases hr : fo_rs d r with
      | nil => rfl
      | cons q R =>
        have hq := hrs q (by rw [hr]; rfl)
        simp only [List.nil_append, List.head?_cons, List.map_nil, List.head?_nil]
        rw [if_neg (by omega)]
    | cons q S =>
      have hq : d < q.2 := fo_sg_gt (d := d) (r := r) q (by rw [h4]; simp)
      simp only [List.cons_append, List.head?_cons, List.map_cons]
      rw [if_pos hq]
variable {X : Nat} {ad : Nat → Option Nat} {s : ts_S} {M : am_M} {K : Option am_V → am_M → Prop} {n a : Nat}
theorem ts_nx_lv (hok : fo_ok (ts_L s)) {m : Nat} (h : ts_nx s n = some m) : ts_lv s m := by
  unfold ts_nx at h
  cases hp : ts_pa s n with
  | none => rw [hp] at h; cases h
  | some p =>
    rw [hp] at h
    have h1 : ls_nx (ts_kk s p) n = some m := h
    have h2 : ∀ l : List Nat, ls_nx l n = some m → m ∈ l := by
      intro l
      induction l with
      | nil => intro q; cases q
      | cons x l ih =>
        intro q
        unfold ls_nx at q
        split at q
        · exact List.mem_cons_of_mem _ (List.mem_of_mem_head? q)
        · exact List.mem_cons_of_mem _ (ih q)
    exact (fo_p_mem (fo_k_of hok (h2 _ h1))).1
theorem cT_nw_l (h : cp X ad s M) (hok : fo_ok (ts_L s)) {u ua : Nat} (hu : ad u = some ua) (l0 : am_V) : ∀ n, ts_lv s n → ∀ a, ad n = some a → n ∈ fo_w (ts_L s) u → am_wp yT_nextInWalk 14 [l0, .inr (.inl (2, some ua)), .inr (.inl (2, some a))] [] M K = K (some (.inr (.inl (2, (fo_wa (ts_L s) u n).bind ad)))) M := by
  have step : ∀ n a, ad n = some a → (a = ua) = (n = u) := fun n a ha => propext ⟨fun q => by subst q; exact h.2.2.2.2.2.2.2.2 n u a ha hu, fun q => by subst q; rw [ha] at hu; exact Option.some.inj hu⟩
  have self : fo_wa (ts_L s) u u = none := by
    unfold fo_wa
    have hh := fo_a_hd (L := ts_L s) (n := u)
    cases hr : (fo_a (ts_L s) u).head? with
    | none => rfl
    | some q =>
      have := hh q hr
      dsimp only
      rw [if_neg (by omega)]
  refine fo_ind hok ?_ ?_
  · intro n hn hpn a ha hw
    have hnu : n = u := by
      by_cases q : u = n
      · exact q.symm
      · obtain ⟨p, hp, -⟩ := fo_w_up hok hw q
        rw [hpn] at hp
        cases hp
    rw [wT_nextInWalk_14]
    simp [wT_nextInWalk_0, wT_nextInWalk_1, wT_nextInWalk_4, wT_nextInWalk_7, wT_nextInWalk_8, wT_nextInWalk_11, wT_nextInWalk_12, wT_nextInWalk_13, wT_nextInWalk_15, wT_nextInWalk_18, wT_nextInWalk_19, wT_nextInWalk_20, wT_nextInWalk_23, wT_nextInWalk_24, wT_nextInWalk_27, wT_nextInWalk_30, wT_nextInWalk_31, wT_nextInWalk_34, wT_nextInWalk_35, wT_nextInWalk_36, wT_nextInWalk_39, wT_nextInWalk_40, wT_nextInWalk_43, wT_nextInWalk_44, step n a ha, hnu, self]
  · intro n p hpq ih a ha hw
    obtain ⟨-, -, -, o3, -, -, -, -, o8, -⟩ := cp_at h ha
    have hp' : ts_pa s n = some p := hpq
    obtain ⟨c, hc⟩ := cp_ex h (ts_pa_lv hp')
    rw [wT_nextInWalk_14]
    by_cases hnu : n = u
    · simp [wT_nextInWalk_0, wT_nextInWalk_1, wT_nextInWalk_4, wT_nextInWalk_7, wT_nextInWalk_8, wT_nextInWalk_11, wT_nextInWalk_12, wT_nextInWalk_13, wT_nextInWalk_15, wT_nextInWalk_18, wT_nextInWalk_19, wT_nextInWalk_20, wT_nextInWalk_23, wT_nextInWalk_24, wT_nextInWalk_27, wT_nextInWalk_30, wT_nextInWalk_31, wT_nextInWalk_34, wT_nextInWalk_35, wT_nextInWalk_36, wT_nextInWalk_39, wT_nextInWalk_40, wT_nextInWalk_43, wT_nextInWalk_44, step n a ha, hnu, self]
    · obtain ⟨p', hp2, hw2⟩ := fo_w_up hok hw (fun q => hnu q.symm)
      rw [hpq] at hp2
      cases hp2
      have hdeep := fo_w_deep hok hw (fun q => hnu q.symm)
      have hnx : ts_nx s n = (match (fo_a (ts_L s) n).head? with | some q => if q.2 = fo_d (ts_L s) n then some q.1 else none | none => none) := by
        unfold ts_nx
        rw [hp']
        exact fo_nx_a hok hpq
      have hup := fo_a_up hok hpq
      have hh := fo_a_hd (L := ts_L s) (n := n)
      have hdp := fo_p_deep hok hpq
      have hN := cp_bindN h (p := ts_nx s n) (fun q hq => ts_nx_lv hok hq)
      simp only [wT_nextInWalk_0, wT_nextInWalk_1, wT_nextInWalk_4, wT_nextInWalk_7, wT_nextInWalk_8, wT_nextInWalk_11, wT_nextInWalk_12, wT_nextInWalk_13, wT_nextInWalk_15, wT_nextInWalk_18, wT_nextInWalk_19, wT_nextInWalk_20, wT_nextInWalk_23, wT_nextInWalk_24, wT_nextInWalk_27, wT_nextInWalk_30, wT_nextInWalk_31, wT_nextInWalk_34, wT_nextInWalk_35, wT_nextInWalk_36, wT_nextInWalk_39, wT_nextInWalk_40, wT_nextInWalk_43, wT_nextInWalk_44, Option.some.injEq, step n a ha, hnu, if_false, o3, o8, hp', Option.bind_some, hc, hN, true_or, or_true, Option.toList_some, Option.toList_none, List.cons_append, List.nil_append, reduceCtorEq]
      cases hx : ts_nx s n with
      | some m =>
        simp only [reduceCtorEq, if_false]
        have hwa : fo_wa (ts_L s) u n = some m := by
          unfold fo_wa
          rw [hx] at hnx
          cases hr : (fo_a (ts_L s) n).head? with
          | none => rw [hr] at hnx; cases hnx
          | some q =>
            rw [hr] at hnx
            dsimp only at hnx ⊢
            split at hnx
            · rename_i h5
              rw [if_pos (by omega)]
              exact hnx.symm
            · cases hnx
        rw [hwa]
      | none =>
        simp only [if_true]
        rw [ih c hc hw2]
        have hwa : fo_wa (ts_L s) u p = fo_wa (ts_L s) u n := by
          unfold fo_wa
          rw [hup, fo_rs_hd (d := fo_d (ts_L s) p) ?_ (Nat.le_refl _)]
          intro q hq
          have h6 := hh q hq
          rw [hx, hq] at hnx
          dsimp only at hnx
          split at hnx
          · cases hnx
          · omega
        rw [hwa]
theorem cT_nextInWalk (h : cp X ad s M) (hok : fo_ok (ts_L s)) {u ua : Nat} (hu : ad u = some ua) (ha : ad n = some a) (hw : n ∈ fo_w (ts_L s) u) : am_wp yT_nextInWalk 0 [.inr (.inl (2, some a)), .inr (.inl (2, some ua)), am_u] [] M K = K (some (.inr (.inl (2, (fo_wn (ts_L s) u n).bind ad)))) M := by
  obtain ⟨-, -, -, -, -, o5, -⟩ := cp_at h ha
  obtain ⟨A, d, r, hL, hnA⟩ := fo_split (fo_w_mem hw).2
  have hfirst := fo_k_first hok hL
  have hbh : fo_bh (ts_L s) n = r := by rw [hL]; exact fo_bh_at hnA
  have hd : fo_d (ts_L s) n = d := by rw [hL]; exact fo_d_at hnA
  have hle : fo_d (ts_L s) u ≤ d := by
    by_cases q : u = n
    · subst q; omega
    · have := fo_w_deep hok hw q; omega
  have hkl : ∀ q, (ts_kk s n).head? = some q → ts_lv s q := fun q hq => (fo_p_mem (fo_k_of hok (List.mem_of_mem_head? hq))).1
  have hN := cp_bindN h (p := (ts_kk s n).head?) hkl
  have hka : (ts_kk s n).head? = (match r.head? with | some q => if d < q.2 then some q.1 else none | none => none) := hfirst
  simp only [wT_nextInWalk_0, wT_nextInWalk_1, wT_nextInWalk_4, o5, hN]
  cases hk : (ts_kk s n).head? with
  | some m =>
    have hwn : fo_wn (ts_L s) u n = some m := by
      unfold fo_wn
      rw [hbh]
      rw [hk] at hka
      cases hr : r.head? with
      | none => rw [hr] at hka; cases hka
      | some q =>
        rw [hr] at hka
        dsimp only at hka ⊢
        split at hka
        · rename_i h5
          rw [if_pos (by omega)]
          exact hka.symm
        · cases hka
    rw [hwn]
    simp [wT_nextInWalk_0, wT_nextInWalk_1, wT_nextInWalk_4, wT_nextInWalk_7, wT_nextInWalk_8, wT_nextInWalk_11, wT_nextInWalk_12, wT_nextInWalk_13, wT_nextInWalk_15, wT_nextInWalk_18, wT_nextInWalk_19, wT_nextInWalk_20, wT_nextInWalk_23, wT_nextInWalk_24, wT_nextInWalk_27, wT_nextInWalk_30, wT_nextInWalk_31, wT_nextInWalk_34, wT_nextInWalk_35, wT_nextInWalk_36, wT_nextInWalk_39, wT_nextInWalk_40, wT_nextInWalk_43, wT_nextInWalk_44, o5, hk]
  | none =>
    have hwn : fo_wn (ts_L s) u n = fo_wa (ts_L s) u n := by
      unfold fo_wn fo_wa
      have hrs : fo_a (ts_L s) n = r := by
        rw [hL, fo_a_at hnA]
        refine fo_rs_hd (d := d) ?_ (Nat.le_refl _)
        intro q hq
        rw [hk, hq] at hka
        dsimp only at hka
        split at hka
        · cases hka
        · omega
      rw [hbh, hrs]
    simp only [if_true, wT_nextInWalk_12, wT_nextInWalk_13, hwn]
    exact cT_nw_l h hok hu _ n (cp_lv h ha) a ha hw
-- nothing but some cells has changed
def fx_f (P : Nat → Prop) (M M' : am_M) : Prop := (∀ b, ¬ P b → (∀ j, am_mi M' b j = am_mi M b j) ∧ ∀ j, am_mr M' b j = am_mr M b j) ∧ am_sz M' = am_sz M ∧ am_sl M' = am_sl M ∧ am_L M' = am_L M
theorem fx_f_rf {P : Nat → Prop} (M : am_M) : fx_f P M M := ⟨fun _ _ => ⟨fun _ => rfl, fun _ => rfl⟩, rfl, rfl, rfl⟩
theorem fx_f_tr {P : Nat → Prop} {M1 M2 M3 : am_M} (h1 : fx_f P M1 M2) (h2 : fx_f P M2 M3) : fx_f P M1 M3 := ⟨fun b hb => ⟨fun j => by rw [(h2.1 b hb).1, (h1.1 b hb).1], fun j => by rw [(h2.1 b hb).2, (h1.1 b hb).2]⟩, h2.2.1.trans h1.2.1, h2.2.2.1.trans h1.2.2.1, h2.2.2.2.trans h1.2.2.2⟩
theorem fx_f_to {P P' : Nat → Prop} {M M' : am_M} (h : fx_f P M M') (hp : ∀ b, P b → P' b) : fx_f P' M M' := ⟨fun b hb => h.1 b (fun q => hb (hp b q)), h.2⟩
theorem fx_f_si {P : Nat → Prop} {M : am_M} {a k : Nat} {x : Int32} (h : P a) : fx_f P M (am_si M a k x) := ⟨fun b hb => ⟨fun j => by
  rw [am_mi_si, if_neg (fun q => hb (by rw [q.1]; exact h))], fun j => rfl⟩, rfl, rfl, rfl⟩
theorem fx_f_sr {P : Nat → Prop} {M : am_M} {a k : Nat} {x : Option Nat} (h : P a) : fx_f P M (am_sr M a k x) := ⟨fun b hb => ⟨fun j => rfl, fun j => by
  rw [am_mr_sr, if_neg (fun q => hb (by rw [q.1]; exact h))]⟩, rfl, rfl, rfl⟩
theorem cp_o_fr {M' : am_M} (h : cp_o ad s M n a) (hi : ∀ j, am_mi M' a j = am_mi M a j) (hr : ∀ j, am_mr M' a j = am_mr M a j) : cp_o ad s M' n a := by
  unfold cp_o at h ⊢
  simp only [hi, hr]
  exact h
theorem cp_walk {M' : am_M} (h : cp X ad s M) (hf : fx_f (fun b => b = X + 4) M M') : cp X ad s M' := by
  obtain ⟨⟨s0, s1, s2, s3⟩, h1, h2, h3, h4, h5, h6, h7, h8⟩ := h
  have g : ∀ b, b ≠ X + 4 → (∀ j, am_mi M' b j = am_mi M b j) ∧ ∀ j, am_mr M' b j = am_mr M b j := fun b hb => hf.1 b hb
  refine ⟨⟨?_, ?_, ?_, ?_⟩, ?_, ?_, ?_, ?_, ?_, h6, ?_, h8⟩
  · rw [(g X (by omega)).2]; exact s0
  · rw [(g X (by omega)).2]; exact s1
  · rw [(g X (by omega)).2]; exact s2
  · rw [(g (X + 2) (by omega)).2]; exact s3
  · rw [(g X (by omega)).1]; exact h1
  · rw [(g (X + 2) (by omega)).1]; exact h2
  · intro j hj; rw [(g (X + 3) (by omega)).1]; exact h3 j hj
  · intro j hj; rw [(g (X + 1) (by omega)).2]; exact h4 j hj
  · intro n a ha
    have := h7 n a ha
    exact cp_o_fr (h5 n a ha) (g a (by omega)).1 (g a (by omega)).2
  · intro n a ha
    rw [hf.2.1]
    exact h7 n a ha
theorem fo_w_len {L : fo_L} (hok : fo_ok L) {m : Nat} (h : ∀ n ∈ L.map (·.1), n < m) (u : Nat) : (fo_w L u).length ≤ m := by
  refine nd_len m _ ?_ (fun x hx => h x (fo_w_mem hx).2)
  unfold fo_w
  cases hs : fo_sp L u with
  | none => exact List.nodup_nil
  | some q =>
    obtain ⟨A, d, r⟩ := q
    obtain ⟨h1, h2⟩ := fo_sp_of hs
    dsimp only
    have h3 := hok.1
    rw [h1, List.map_append, List.map_cons, List.nodup_append] at h3
    have h4 := List.nodup_cons.mp h3.2.1
    rw [← fo_sr d r, List.map_append, List.nodup_append] at h4
    refine List.nodup_cons.mpr ⟨fun q => h4.1 (List.mem_append_left _ q), h4.2.1⟩
theorem cX_fw_l (hs : ts_ok s) {u ua : Nat} (hu : ad u = some ua) : ∀ (l2 l1 : List Nat) (M : am_M), fo_w (ts_L s) u = l1 ++ l2 → cp X ad s M → (∀ i m, l1[i]? = some m → am_mi M (X + 4) i = nI m) → (∀ M', fx_f (fun b => b = X + 4) M M' → (∀ i m, (fo_w (ts_L s) u)[i]? = some m → am_mi M' (X + 4) i = nI m) → K (some (.inl (nI (fo_w (ts_L s) u).length))) M') → am_wp yX_fillWalk 4 [.inr (.inl (1, some X)), .inr (.inl (2, some ua)), .inl (nI l1.length), .inr (.inl (2, l2.head?.bind ad))] [] M K := by
  have hlen : (fo_w (ts_L s) u).length ≤ 20 := fo_w_len hs.1 (fun n hn => Nat.lt_of_lt_of_le (hs.2.1 n hn) hs.2.2.1) u
  intro l2
  induction l2 with
  | nil =>
    intro l1 M hw h hpre hK
    rw [List.append_nil] at hw
    rw [wX_fillWalk_4]
    simp only [wX_fillWalk_0, wX_fillWalk_1, wX_fillWalk_2, wX_fillWalk_3, wX_fillWalk_5, wX_fillWalk_8, wX_fillWalk_9, wX_fillWalk_10, wX_fillWalk_13, wX_fillWalk_14, wX_fillWalk_17, wX_fillWalk_18, wX_fillWalk_21, wX_fillWalk_22, wX_fillWalk_23, wX_fillWalk_26, wX_fillWalk_27, wX_fillWalk_30, wX_fillWalk_31, wX_fillWalk_32, wX_fillWalk_35, wX_fillWalk_36, wX_fillWalk_39, wX_fillWalk_40, List.head?_nil, Option.bind_none, if_true, ← hw]
    exact hK M (fx_f_rf M) (by rw [hw]; exact hpre)
  | cons m l2 ih =>
    intro l1 M hw h hpre hK
    have hmem : m ∈ fo_w (ts_L s) u := by rw [hw]; simp
    obtain ⟨a, ha⟩ := cp_ex h (fo_w_mem hmem).2
    obtain ⟨o0, -⟩ := cp_at h ha
    obtain ⟨s0, s1, s2, s3⟩ := h.1
    have hl1 : l1.length < 20 := by
      have h9 := congrArg List.length hw
      rw [List.length_append, List.length_cons] at h9
      omega
    have hlt : (nI l1.length < 20) = True := eq_true (show nI l1.length < nI 20 from nI_lt hl1 (by decide))
    have hok1 := am_ok_nI hl1 (by decide : 20 < 2 ^ 31)
    have hcl : (nI l1.length).toNatClampNeg = l1.length := nI_clamp (by omega)
    have hf1 : fx_f (fun b => b = X + 4) M (am_si M (X + 4) l1.length (nI m)) := fx_f_si rfl
    have h' := cp_walk h hf1
    rw [wX_fillWalk_4]
    simp only [wX_fillWalk_0, wX_fillWalk_1, wX_fillWalk_2, wX_fillWalk_3, wX_fillWalk_5, wX_fillWalk_8, wX_fillWalk_9, wX_fillWalk_10, wX_fillWalk_13, wX_fillWalk_14, wX_fillWalk_17, wX_fillWalk_18, wX_fillWalk_21, wX_fillWalk_23, wX_fillWalk_27, wX_fillWalk_30, wX_fillWalk_31, wX_fillWalk_35, wX_fillWalk_36, wX_fillWalk_39, wX_fillWalk_40, List.head?_cons, Option.bind_some, ha, reduceCtorEq, if_false, s2, hlt, if_true, wX_fillWalk_22, o0]
    rw [wX_fillWalk_26 hok1, hcl]
    simp only [wX_fillWalk_0, wX_fillWalk_1, wX_fillWalk_2, wX_fillWalk_3, wX_fillWalk_5, wX_fillWalk_8, wX_fillWalk_9, wX_fillWalk_10, wX_fillWalk_13, wX_fillWalk_14, wX_fillWalk_17, wX_fillWalk_18, wX_fillWalk_21, wX_fillWalk_22, wX_fillWalk_23, wX_fillWalk_27, wX_fillWalk_30, wX_fillWalk_31, wX_fillWalk_32, wX_fillWalk_35, wX_fillWalk_36, wX_fillWalk_39, wX_fillWalk_40, nI_1]
    rw [cT_nextInWalk h' hs.1 hu ha hmem, fo_w_next hs.1 hw]
    simp only [wX_fillWalk_0, wX_fillWalk_1, wX_fillWalk_2, wX_fillWalk_3, wX_fillWalk_5, wX_fillWalk_8, wX_fillWalk_9, wX_fillWalk_10, wX_fillWalk_13, wX_fillWalk_14, wX_fillWalk_17, wX_fillWalk_18, wX_fillWalk_21, wX_fillWalk_22, wX_fillWalk_23, wX_fillWalk_26, wX_fillWalk_27, wX_fillWalk_30, wX_fillWalk_31, wX_fillWalk_32, wX_fillWalk_35, wX_fillWalk_36, wX_fillWalk_39, wX_fillWalk_40, true_or, or_true, Option.toList_some, Option.toList_none, List.cons_append, List.nil_append]
    have hlen2 : (l1 ++ [m]).length = l1.length + 1 := by simp
    rw [← hlen2]
    refine ih (l1 ++ [m]) _ (by rw [hw]; simp) h' (fun i x hi => ?_) (fun M' hf hw' => hK M' (fx_f_tr hf1 hf) hw')
    rw [am_mi_si]
    by_cases hil : i = l1.length
    · subst hil
      rw [if_pos ⟨rfl, rfl⟩]
      rw [List.getElem?_append_right (Nat.le_refl _), Nat.sub_self] at hi
      cases hi
      rfl
    · rw [if_neg (fun q => hil q.2)]
      refine hpre i x ?_
      have hlt2 := (List.getElem?_eq_some_iff.mp hi).1
      rw [hlen2] at hlt2
      rw [List.getElem?_append_left (by omega)] at hi
      exact hi
theorem cX_fillWalk (h : cp X ad s M) (hs : ts_ok s) {u ua : Nat} (hu : ad u = some ua) (hK : ∀ M', fx_f (fun b => b = X + 4) M M' → (∀ i m, (fo_w (ts_L s) u)[i]? = some m → am_mi M' (X + 4) i = nI m) → K (some (.inl (nI (fo_w (ts_L s) u).length))) M') : am_wp yX_fillWalk 0 [.inr (.inl (1, some X)), .inr (.inl (2, some ua)), am_u, am_u] [] M K := by
  simp only [wX_fillWalk_0, wX_fillWalk_1, wX_fillWalk_2, wX_fillWalk_3, wX_fillWalk_5, wX_fillWalk_8, wX_fillWalk_9, wX_fillWalk_10, wX_fillWalk_13, wX_fillWalk_14, wX_fillWalk_17, wX_fillWalk_18, wX_fillWalk_21, wX_fillWalk_22, wX_fillWalk_23, wX_fillWalk_26, wX_fillWalk_27, wX_fillWalk_30, wX_fillWalk_31, wX_fillWalk_32, wX_fillWalk_35, wX_fillWalk_36, wX_fillWalk_39, wX_fillWalk_40]
  obtain ⟨l, hl⟩ : ∃ l, fo_w (ts_L s) u = u :: l := by
    obtain ⟨A, d, r, h1, h2⟩ := fo_split (cp_lv h hu)
    exact ⟨_, by rw [h1, fo_w_at h2]⟩
  have h9 := cX_fw_l (K := K) hs hu (u :: l) [] M hl h (fun i m hi => by cases hi) hK
  simp only [List.head?_cons, Option.bind_some, hu] at h9
  exact h9
end CW
