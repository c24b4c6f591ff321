-- FORESTS: out and in
section FO5
def fo_sh (c : Nat) (T : fo_L) : fo_L := T.map (fun q => (q.1, q.2 + c))
def fo_bl (P : fo_L) (t : Nat) (T : fo_L) (c : Nat) (Q : fo_L) : fo_L := P ++ ((t, c) :: fo_sh c T ++ Q)
theorem fo_sh_n (c : Nat) (T : fo_L) : (fo_sh c T).map (·.1) = T.map (·.1) := by
  unfold fo_sh; rw [List.map_map]; rfl
theorem fo_bl_n (P : fo_L) (t : Nat) (T : fo_L) (c : Nat) (Q : fo_L) : (fo_bl P t T c Q).map (·.1) = P.map (·.1) ++ (t :: T.map (·.1) ++ Q.map (·.1)) := by
  unfold fo_bl; rw [List.map_append, List.map_append, List.map_cons, fo_sh_n]
variable {P T Q : fo_L} {t c : Nat}
theorem fo_sh_gt (hT : ∀ q ∈ T, 0 < q.2) : ∀ q ∈ fo_sh c T, c < q.2 := fun q hq => by
  obtain ⟨x, h1, rfl⟩ := List.mem_map.mp hq
  have := hT x h1
  show c < x.2 + c
  omega
theorem fo_nd2 {A : fo_L} {n d : Nat} {r : fo_L} (h : ((A ++ (n, d) :: r).map (·.1)).Nodup) : n ∉ A.map (·.1) ∧ n ∉ r.map (·.1) := by
  refine ⟨fo_nd h, ?_⟩
  rw [List.map_append, List.map_cons, List.nodup_append] at h
  exact (List.nodup_cons.mp h.2.1).1
-- the thing itself
theorem fo_bl_t (hT : ∀ q ∈ T, 0 < q.2) (hQ : fo_hd c Q) (hnd : ((fo_bl P t T c Q).map (·.1)).Nodup) : fo_p (fo_bl P t T c Q) t = fo_p1 P c ∧ fo_k (fo_bl P t T c Q) t = fo_k ((t, 0) :: T) t ∧ fo_d (fo_bl P t T c Q) t = c := by
  have e : fo_bl P t T c Q = P ++ (t, c) :: (fo_sh c T ++ Q) := by unfold fo_bl; simp
  have hn := fo_nd (A := P) (n := t) (d := c) (r := fo_sh c T ++ Q) (by rw [← e]; exact hnd)
  rw [e, fo_p_at hn, fo_k_at hn, fo_d_at hn]
  refine ⟨rfl, ?_, rfl⟩
  rw [fo_k1_in (S1 := []) (Nat.le_refl c) hQ]
  have h2 := fo_k_at (A := []) (n := t) (d := 0) (r := T) (by simp)
  rw [List.nil_append] at h2
  rw [h2]
  have h3 := fo_k1_add (c := c) (e := 0) (r := T)
  rw [Nat.zero_add] at h3
  exact h3
-- one under it
theorem fo_bl_T (hT : ∀ q ∈ T, 0 < q.2) (hQ : fo_hd c Q) (hnd : ((fo_bl P t T c Q).map (·.1)).Nodup) {x : Nat} (hx : x ∈ T.map (·.1)) : fo_p (fo_bl P t T c Q) x = fo_p ((t, 0) :: T) x ∧ fo_k (fo_bl P t T c Q) x = fo_k ((t, 0) :: T) x := by
  obtain ⟨T1, e, T2, h1, h2⟩ := fo_split hx
  have h0 := hT (x, e) (by rw [h1]; simp)
  dsimp only at h0
  have eL : fo_bl P t T c Q = (P ++ (t, c) :: fo_sh c T1) ++ (x, e + c) :: (fo_sh c T2 ++ Q) := by unfold fo_bl fo_sh; rw [h1]; simp
  have hn := fo_nd (by rw [← eL]; exact hnd)
  have hxt : t ≠ x := fun q => by
    refine hn ?_
    rw [← q]
    simp
  have hn2 : x ∉ ((t, 0) :: T1).map (·.1) := by
    rw [List.map_cons, List.mem_cons]
    exact fun q => q.elim (fun q => hxt q.symm) h2
  have eT : (t, 0) :: T = ((t, 0) :: T1) ++ (x, e) :: T2 := by rw [h1]; simp
  rw [eL, fo_p_at hn, fo_k_at hn, eT, fo_p_at hn2, fo_k_at hn2]
  constructor
  · rw [fo_p1_in (by omega)]
    have h3 := fo_p1_add (c := c) (e := e) (A := (t, 0) :: T1)
    rw [← h3]
    congr 1
    unfold fo_sh
    simp
  · rw [fo_k1_in (S1 := []) (d := c) (by omega) hQ]
    exact fo_k1_add
-- one before it or behind it
theorem fo_bl_o (hT : ∀ q ∈ T, 0 < q.2) (hQ : fo_hd c Q) (hnd : ((fo_bl P t T c Q).map (·.1)).Nodup) {x : Nat} (hx : x ∈ (P ++ Q).map (·.1)) : fo_p (fo_bl P t T c Q) x = fo_p (P ++ Q) x ∧ (fo_p1 P c ≠ some x → fo_k (fo_bl P t T c Q) x = fo_k (P ++ Q) x) ∧ ∀ e C P1, P = P1 ++ (x, e) :: C → c = e + 1 → (∀ q ∈ C, c ≤ q.2) → fo_k (fo_bl P t T c Q) x = (C.filter (fun q => q.2 == e + 1)).map (·.1) ++ t :: fo_k1 e Q ∧ fo_k (P ++ Q) x = (C.filter (fun q => q.2 == e + 1)).map (·.1) ++ fo_k1 e Q := by
  have hS := fo_sh_gt (c := c) hT
  rw [List.map_append, List.mem_append] at hx
  by_cases hxP : x ∈ P.map (·.1)
  · obtain ⟨P1, e, P2, h1, h2⟩ := fo_split hxP
    have eL : fo_bl P t T c Q = P1 ++ (x, e) :: (P2 ++ ((t, c) :: fo_sh c T ++ Q)) := by unfold fo_bl; rw [h1]; simp
    have e0 : P ++ Q = P1 ++ (x, e) :: (P2 ++ Q) := by rw [h1]; simp
    rw [eL, e0, fo_p_at h2, fo_p_at h2, fo_k_at h2, fo_k_at h2]
    refine ⟨rfl, fun hne => ?_, fun e' C P1' hP he hC => ?_⟩
    · refine fo_k1_blk2 hS hQ (fun hC he => hne ?_)
      rw [h1]
      exact fo_p1_app (by omega) (fun q hq => by have := hC q hq; omega)
    · have hn' : x ∉ P1'.map (·.1) := by
        have h5 : ((P1' ++ (x, e') :: (C ++ ((t, c) :: fo_sh c T ++ Q))).map (·.1)).Nodup := by
          have h6 : fo_bl P t T c Q = P1' ++ (x, e') :: (C ++ ((t, c) :: fo_sh c T ++ Q)) := by unfold fo_bl; rw [hP]; simp
          rw [← h6]; exact hnd
        exact fo_nd h5
      have s1 := fo_sp_app (A := P1) (n := x) (d := e) (r := P2) h2
      have s2 := fo_sp_app (A := P1') (n := x) (d := e') (r := C) hn'
      rw [← h1, hP, s2] at s1
      have s3 := Option.some.inj s1
      have q1 : e' = e := congrArg (fun s => s.2.1) s3
      have q2 : C = P2 := congrArg (fun s => s.2.2) s3
      subst q1
      subst q2
      have hC' : ∀ q ∈ C, e' < q.2 := fun q hq => by have := hC q hq; omega
      rw [fo_k1_app hC', fo_k1_app hC', fo_k1_blk hS hQ, if_pos he]
      exact ⟨by simp, rfl⟩
  · have hxQ := hx.resolve_left hxP
    obtain ⟨Q1, e, Q2, h1, h2⟩ := fo_split hxQ
    have eL : fo_bl P t T c Q = (P ++ ((t, c) :: fo_sh c T ++ Q1)) ++ (x, e) :: Q2 := by unfold fo_bl; rw [h1]; simp
    have e0 : P ++ Q = (P ++ Q1) ++ (x, e) :: Q2 := by rw [h1]; simp
    have hn := fo_nd (by rw [← eL]; exact hnd)
    have hn0 : x ∉ (P ++ Q1).map (·.1) := by
      rw [List.map_append, List.mem_append]
      exact fun q => q.elim hxP h2
    rw [eL, e0, fo_p_at hn, fo_p_at hn0, fo_k_at hn, fo_k_at hn0]
    refine ⟨fo_p1_blk hS (t := x) (by rw [← h1]; exact hQ), fun _ => rfl, fun e' C P1' hP _ _ => ?_⟩
    exact absurd (by rw [hP]; simp) hxP
-- cut, and the part that is cut
def fo_cut (L : fo_L) (t : Nat) : fo_L := match fo_sp L t with
  | some s => s.1 ++ fo_rs s.2.1 s.2.2
  | none => L
def fo_sub (L : fo_L) (t : Nat) : fo_L := match fo_sp L t with
  | some s => (fo_sg s.2.1 s.2.2).map (fun q => (q.1, q.2 - s.2.1))
  | none => []
def fo_out (L : fo_L) (t : Nat) : fo_L := fo_cut L t ++ (t, 0) :: fo_sub L t
def fo_mv (L : fo_L) (t h : Nat) : fo_L := match fo_sp (fo_cut L t) h with
  | some s => fo_bl (s.1 ++ (h, s.2.1) :: fo_sg s.2.1 s.2.2) t (fo_sub L t) (s.2.1 + 1) (fo_rs s.2.1 s.2.2)
  | none => L
theorem fo_cut_form {L : fo_L} {t : Nat} (h : t ∈ L.map (·.1)) : ∃ A d B, L = fo_bl A t (fo_sub L t) d B ∧ fo_cut L t = A ++ B ∧ fo_hd d B ∧ (∀ q ∈ fo_sub L t, 0 < q.2) ∧ (∀ x, x ∈ fo_w L t ↔ x = t ∨ x ∈ (fo_sub L t).map (·.1)) := by
  obtain ⟨A, d, r, h1, h2⟩ := fo_split h
  have hs : fo_sp L t = some (A, d, r) := by rw [h1]; exact fo_sp_app h2
  have hsub : fo_sub L t = (fo_sg d r).map (fun q => (q.1, q.2 - d)) := by unfold fo_sub; rw [hs]
  have hcut : fo_cut L t = A ++ fo_rs d r := by unfold fo_cut; rw [hs]
  refine ⟨A, d, fo_rs d r, ?_, hcut, fo_hd_rs d r, ?_, ?_⟩
  · have h3 : fo_sh d ((fo_sg d r).map (fun q => (q.1, q.2 - d))) = fo_sg d r := by
      unfold fo_sh
      rw [List.map_map]
      have h4 : (fo_sg d r).map ((fun q : Nat × Nat => (q.1, q.2 + d)) ∘ fun q => (q.1, q.2 - d)) = (fo_sg d r).map id := by
        refine List.map_congr_left (fun q hq => ?_)
        have := fo_sg_gt q hq
        show (q.1, q.2 - d + d) = q
        rw [show q.2 - d + d = q.2 by omega]
      rw [h4, List.map_id]
    unfold fo_bl
    rw [hsub, h3, List.cons_append, fo_sr]
    exact h1
  · intro q hq
    rw [hsub] at hq
    obtain ⟨x, h4, rfl⟩ := List.mem_map.mp hq
    have := fo_sg_gt x h4
    show 0 < x.2 - d
    omega
  · intro x
    rw [h1, fo_w_at h2, List.mem_cons, ← h1, hsub, List.map_map]
    rfl
theorem fo_v_bl {A B T : fo_L} {t d : Nat} (h : fo_v 0 (fo_bl A t T d B)) : fo_v 1 T := by
  unfold fo_bl at h
  have h1 := (fo_v_app.mp h).2
  have h2 := ((fo_v_app (A := fo_sh d T)).mp h1.2).1
  have h3 := fo_v_sub (d := d) (p := 1) (S := fo_sh d T) (by rw [Nat.add_comm]; exact h2) (fun q hq => by
    obtain ⟨x, -, rfl⟩ := List.mem_map.mp hq
    show d ≤ x.2 + d
    omega)
  unfold fo_sh at h3
  rw [List.map_map] at h3
  have h4 : T.map ((fun q : Nat × Nat => (q.1, q.2 - d)) ∘ fun q => (q.1, q.2 + d)) = T.map id := by
    refine List.map_congr_left (fun q hq => ?_)
    show (q.1, q.2 + d - d) = q
    rw [Nat.add_sub_cancel]
  rw [h4, List.map_id] at h3
  exact h3
theorem fo_bl_perm (P P' T Q Q' : fo_L) (t c c' : Nat) (h : P ++ Q = P' ++ Q') : ((fo_bl P t T c Q).map (·.1)).Perm ((fo_bl P' t T c' Q').map (·.1)) := by
  rw [fo_bl_n, fo_bl_n]
  have h1 : ∀ (a b x : List Nat), (a ++ (x ++ b)).Perm (x ++ (a ++ b)) := fun a b x => by
    rw [← List.append_assoc, ← List.append_assoc]
    exact List.Perm.append_right b List.perm_append_comm
  refine (h1 _ _ _).trans (List.Perm.trans ?_ (h1 _ _ _).symm)
  rw [← List.map_append, ← List.map_append, h]
theorem fo_out_bl {L : fo_L} {t : Nat} : fo_out L t = fo_bl (fo_cut L t) t (fo_sub L t) 0 [] := by
  unfold fo_out fo_bl fo_sh
  simp
theorem fo_hd_nil (c : Nat) : fo_hd c [] := fun q h => by cases h
theorem fo_p1_0 {A : fo_L} : fo_p1 A 0 = none := by
  unfold fo_p1
  rw [Option.map_eq_none_iff, List.find?_eq_none]
  intro q _
  simp
theorem fo_er {l1 l2 : List Nat} {t : Nat} (h : t ∉ l1) : (l1 ++ t :: l2).erase t = l1 ++ l2 := by
  rw [List.erase_append_right _ h, List.erase_cons_head]
-- what L and its cut say of each other
theorem fo_cut_o {L : fo_L} {t : Nat} (hok : fo_ok L) (h : t ∈ L.map (·.1)) {x : Nat} (hx : x ∈ (fo_cut L t).map (·.1)) : fo_p (fo_cut L t) x = fo_p L x ∧ fo_k (fo_cut L t) x = (fo_k L x).erase t := by
  obtain ⟨A, d, B, h1, h2, h3, h4, h5⟩ := fo_cut_form h
  have hnd : ((fo_bl A t (fo_sub L t) d B).map (·.1)).Nodup := by rw [← h1]; exact hok.1
  rw [h2] at hx ⊢
  obtain ⟨a1, a2, a3⟩ := fo_bl_o h4 h3 hnd hx
  rw [← h1] at a1 a2 a3
  refine ⟨a1.symm, ?_⟩
  by_cases hp : fo_p1 A d = some x
  · obtain ⟨P1, e, C, b1, b2, b3⟩ := fo_p1_some hp
    have hpt : fo_p L t = some x := by
      have := (fo_bl_t h4 h3 hnd).1
      rw [← h1] at this
      rw [this]; exact hp
    have hde : d = e + 1 := by
      have c1 := fo_p_deep hok hpt
      have c2 := (fo_bl_t h4 h3 hnd).2.2
      rw [← h1] at c2
      have hn : x ∉ P1.map (·.1) := by
        have h6 : L = P1 ++ (x, e) :: (C ++ ((t, d) :: fo_sh d (fo_sub L t) ++ B)) := by
          conv => lhs; rw [h1]
          unfold fo_bl
          rw [b1]
          simp
        exact fo_nd (by rw [← h6]; exact hok.1)
      have c3 : fo_d L x = e := by
        have h6 : L = P1 ++ (x, e) :: (C ++ ((t, d) :: fo_sh d (fo_sub L t) ++ B)) := by
          conv => lhs; rw [h1]
          unfold fo_bl
          rw [b1]
          simp
        rw [h6]; exact fo_d_at hn
      omega
    obtain ⟨k1, k2⟩ := a3 e C P1 b1 hde b3
    rw [k1, k2, fo_er]
    have hkn := fo_k_nd hok x
    rw [k1, List.nodup_append] at hkn
    exact fun q => hkn.2.2 t q t List.mem_cons_self rfl
  · rw [a2 hp, List.erase_of_not_mem]
    intro q
    have hpt : fo_p L t = some x := fo_k_of hok (by rw [a2 hp]; exact q)
    have := (fo_bl_t h4 h3 hnd).1
    rw [← h1] at this
    exact hp (by rw [← this]; exact hpt)
theorem fo_k_sub {L : fo_L} {t x : Nat} (hok : fo_ok L) (hx : x ∈ fo_w L t) : t ∉ fo_k L x := fun q => by
  have h1 := fo_k_of hok q
  have h2 := fo_p_deep hok h1
  by_cases h3 : t = x
  · subst h3; omega
  · have h4 : ∀ y, y ∈ fo_w L t → t ≠ y → fo_d L t < fo_d L y := by
      intro y hy hne
      obtain ⟨A, d, r, e1, e2⟩ := fo_split (fo_w_mem hy).1
      subst e1
      rw [fo_w_at e2] at hy
      obtain ⟨z, e4, e5⟩ := List.mem_map.mp ((List.mem_cons.mp hy).resolve_left (Ne.symm hne))
      obtain ⟨S1, S2, e6⟩ := List.append_of_mem e4
      obtain ⟨y', e⟩ := z
      dsimp only at e5
      subst e5
      have hde : d < e := fo_sg_gt _ e4
      have hL : A ++ (t, d) :: r = (A ++ (t, d) :: S1) ++ (y', e) :: (S2 ++ fo_rs d r) := by
        conv => lhs; rw [← fo_sr d r, e6]
        simp
      have hnb := fo_nd (A := A ++ (t, d) :: S1) (n := y') (d := e) (r := S2 ++ fo_rs d r) (by rw [← hL]; exact hok.1)
      have e7 : fo_d (A ++ (t, d) :: r) y' = e := by rw [hL]; exact fo_d_at hnb
      rw [e7, fo_d_at e2]
      exact hde
    have := h4 x hx h3
    omega
theorem fo_bl_names {A B T : fo_L} {t d x : Nat} (h : x ∈ (fo_bl A t T d B).map (·.1)) : x = t ∨ x ∈ T.map (·.1) ∨ x ∈ (A ++ B).map (·.1) := by
  rw [fo_bl_n] at h
  rcases List.mem_append.mp h with h1 | h1
  · exact Or.inr (Or.inr (by rw [List.map_append]; exact List.mem_append_left _ h1))
  · rw [List.cons_append] at h1
    rcases List.mem_cons.mp h1 with h2 | h2
    · exact Or.inl h2
    · rcases List.mem_append.mp h2 with h3 | h3
      · exact Or.inr (Or.inl h3)
      · exact Or.inr (Or.inr (by rw [List.map_append]; exact List.mem_append_right _ h3))
-- a block put anywhere into the cut
theorem fo_put {L : fo_L} {t : Nat} (hok : fo_ok L) (h : t ∈ L.map (·.1)) {P Q : fo_L} {c : Nat} (hPQ : P ++ Q = fo_cut L t) (hQ : fo_hd c Q) (hv : c ≤ fo_nb 0 P) :
    fo_ok (fo_bl P t (fo_sub L t) c Q) ∧ (∀ x, x ∈ (fo_bl P t (fo_sub L t) c Q).map (·.1) ↔ x ∈ L.map (·.1)) ∧ (∀ x, fo_p (fo_bl P t (fo_sub L t) c Q) x = if x = t then fo_p1 P c else fo_p L x) ∧ (∀ x, fo_p1 P c ≠ some x → fo_k (fo_bl P t (fo_sub L t) c Q) x = (fo_k L x).erase t) := by
  obtain ⟨A, d, B, h1, h2, h3, h4, h5⟩ := fo_cut_form h
  have hperm : ((fo_bl A t (fo_sub L t) d B).map (·.1)).Perm ((fo_bl P t (fo_sub L t) c Q).map (·.1)) := fo_bl_perm _ _ _ _ _ _ _ _ (by rw [hPQ, h2])
  have hnd0 : ((fo_bl A t (fo_sub L t) d B).map (·.1)).Nodup := by rw [← h1]; exact hok.1
  have hnd : ((fo_bl P t (fo_sub L t) c Q).map (·.1)).Nodup := hperm.nodup hnd0
  have hv0 : fo_v 0 (fo_bl A t (fo_sub L t) d B) := by rw [← h1]; exact hok.2
  have hcv : fo_v 0 (P ++ Q) := by rw [hPQ, h2]; exact fo_blk_v (A := A) (S := fo_sh d (fo_sub L t)) (t := t) (d := d) hv0 h3
  obtain ⟨c1, c2⟩ := fo_v_app.mp hcv
  have hT1 := fo_v_bl hv0
  have hvv : fo_v 0 (fo_bl P t (fo_sub L t) c Q) := by
    unfold fo_bl
    refine fo_v_app.mpr ⟨c1, hv, ?_⟩
    refine (fo_v_app (A := fo_sh c (fo_sub L t))).mpr ⟨?_, ?_⟩
    · have := fo_v_add (c := c) hT1
      rw [Nat.add_comm] at this
      exact this
    · have h7 : c < fo_nb (c + 1) (fo_sh c (fo_sub L t)) := fo_nb_gt (fo_sh_gt h4) (Nat.lt_succ_self c)
      exact fo_v_le (fo_v_hd c2 hQ) (Nat.le_of_lt h7)
  have hmem : ∀ x, x ∈ (fo_bl P t (fo_sub L t) c Q).map (·.1) ↔ x ∈ L.map (·.1) := fun x => by
    rw [← hperm.mem_iff, ← h1]
  refine ⟨⟨hnd, hvv⟩, hmem, fun x => ?_, fun x hne => ?_⟩
  · by_cases hxt : x = t
    · rw [if_pos hxt, hxt]
      exact (fo_bl_t h4 hQ hnd).1
    · rw [if_neg hxt]
      by_cases hx : x ∈ L.map (·.1)
      · rcases fo_bl_names (by rw [← h1]; exact hx) with q | q | q
        · exact absurd q hxt
        · rw [(fo_bl_T h4 hQ hnd q).1]
          have := (fo_bl_T h4 h3 hnd0 q).1
          rw [← h1] at this
          exact this.symm
        · have g1 := (fo_bl_o h4 hQ hnd (x := x) (by rw [hPQ, h2]; exact q)).1
          rw [g1, hPQ]
          exact (fo_cut_o hok h (by rw [h2]; exact q)).1
      · unfold fo_p
        rw [fo_sp_none hx, fo_sp_none (fun q => hx ((hmem x).mp q))]
  · by_cases hx : x ∈ L.map (·.1)
    · rcases fo_bl_names (by rw [← h1]; exact hx) with q | q | q
      · subst q
        have g1 := (fo_bl_t h4 h3 hnd0).2.1
        rw [← h1] at g1
        rw [(fo_bl_t h4 hQ hnd).2.1, g1, List.erase_of_not_mem]
        rw [← g1]
        exact fo_k_sub hok (fo_w_self h)
      · have g1 := (fo_bl_T h4 h3 hnd0 q).2
        rw [← h1] at g1
        rw [(fo_bl_T h4 hQ hnd q).2, g1, List.erase_of_not_mem]
        rw [← g1]
        exact fo_k_sub hok ((h5 x).mpr (Or.inr q))
      · have g1 := (fo_bl_o h4 hQ hnd (x := x) (by rw [hPQ, h2]; exact q)).2.1 hne
        rw [g1, hPQ]
        exact (fo_cut_o hok h (by rw [h2]; exact q)).2
    · unfold fo_k
      rw [fo_sp_none hx, fo_sp_none (fun q => hx ((hmem x).mp q))]
      rfl
theorem fo_out_ok {L : fo_L} {t : Nat} (hok : fo_ok L) (h : t ∈ L.map (·.1)) : fo_ok (fo_out L t) ∧ (∀ x, x ∈ (fo_out L t).map (·.1) ↔ x ∈ L.map (·.1)) ∧ (∀ x, fo_p (fo_out L t) x = if x = t then none else fo_p L x) ∧ (∀ x, fo_k (fo_out L t) x = (fo_k L x).erase t) := by
  rw [fo_out_bl]
  obtain ⟨a1, a2, a3, a4⟩ := fo_put hok h (P := fo_cut L t) (Q := []) (c := 0) (by simp) (fo_hd_nil 0) (Nat.zero_le _)
  rw [fo_p1_0] at a3 a4
  exact ⟨a1, a2, a3, fun x => a4 x (by simp)⟩
theorem fo_cut_mem {L : fo_L} {t : Nat} (hok : fo_ok L) (h : t ∈ L.map (·.1)) (x : Nat) : x ∈ (fo_cut L t).map (·.1) ↔ x ∈ L.map (·.1) ∧ x ∉ fo_w L t := by
  obtain ⟨A, d, B, h1, h2, h3, h4, h5⟩ := fo_cut_form h
  have hnd0 : ((fo_bl A t (fo_sub L t) d B).map (·.1)).Nodup := by rw [← h1]; exact hok.1
  rw [h2]
  constructor
  · intro hx
    refine ⟨?_, fun q => ?_⟩
    · rw [h1, fo_bl_n]
      rw [List.map_append] at hx
      rcases List.mem_append.mp hx with q | q
      · exact List.mem_append_left _ q
      · exact List.mem_append_right _ (List.mem_append_right _ q)
    · rw [fo_bl_n, List.nodup_append] at hnd0
      have hd2 := List.nodup_append.mp hnd0.2.1
      have hm : x ∈ t :: (fo_sub L t).map (·.1) := by
        rcases (h5 x).mp q with q2 | q2
        · rw [q2]; exact List.mem_cons_self
        · exact List.mem_cons_of_mem _ q2
      rw [List.map_append] at hx
      rcases List.mem_append.mp hx with q1 | q1
      · exact hnd0.2.2 x q1 x (List.mem_append_left _ hm) rfl
      · exact hd2.2.2 x hm x q1 rfl
  · intro hx
    rcases fo_bl_names (by rw [← h1]; exact hx.1) with q | q | q
    · exact absurd ((h5 x).mpr (Or.inl q)) hx.2
    · exact absurd ((h5 x).mpr (Or.inr q)) hx.2
    · exact q
theorem fo_mv_ok {L : fo_L} {t h : Nat} (hok : fo_ok L) (ht : t ∈ L.map (·.1)) (hh : h ∈ L.map (·.1)) (hw : h ∉ fo_w L t) : fo_ok (fo_mv L t h) ∧ (∀ x, x ∈ (fo_mv L t h).map (·.1) ↔ x ∈ L.map (·.1)) ∧ (∀ x, fo_p (fo_mv L t h) x = if x = t then some h else fo_p L x) ∧ (∀ x, fo_k (fo_mv L t h) x = if x = h then (fo_k L h).erase t ++ [t] else (fo_k L x).erase t) := by
  have hcm := (fo_cut_mem hok ht h).mpr ⟨hh, hw⟩
  obtain ⟨A1, e, r, h1, h2⟩ := fo_split hcm
  have hs : fo_sp (fo_cut L t) h = some (A1, e, r) := by rw [h1]; exact fo_sp_app h2
  have hmv : fo_mv L t h = fo_bl (A1 ++ (h, e) :: fo_sg e r) t (fo_sub L t) (e + 1) (fo_rs e r) := by unfold fo_mv; rw [hs]
  have hsg : ∀ q ∈ fo_sg e r, e < q.2 := fun q hq => fo_sg_gt q hq
  have hPQ : (A1 ++ (h, e) :: fo_sg e r) ++ fo_rs e r = fo_cut L t := by
    rw [h1]
    conv => rhs; rw [← fo_sr e r]
    simp
  have hQ : fo_hd (e + 1) (fo_rs e r) := fun q hq => by have := fo_hd_rs e r q hq; omega
  have hp1 : fo_p1 (A1 ++ (h, e) :: fo_sg e r) (e + 1) = some h := fo_p1_app (Nat.lt_succ_self e) hsg
  have hnb : e + 1 ≤ fo_nb 0 (A1 ++ (h, e) :: fo_sg e r) := by
    have g : ∀ (A : fo_L) (p : Nat), fo_nb p (A ++ (h, e) :: fo_sg e r) = fo_nb (e + 1) (fo_sg e r) := by
      intro A
      induction A with
      | nil => intro p; rfl
      | cons q A ih => intro p; exact ih (q.2 + 1)
    rw [g]
    exact fo_nb_gt hsg (Nat.lt_succ_self e)
  obtain ⟨a1, a2, a3, a4⟩ := fo_put hok ht hPQ hQ hnb
  rw [← hmv] at a1 a2 a3 a4
  rw [hp1] at a3 a4
  refine ⟨a1, a2, a3, fun x => ?_⟩
  by_cases hxh : x = h
  · rw [if_pos hxh]
    subst hxh
    obtain ⟨A, d, B, g1, g2, g3, g4, g5⟩ := fo_cut_form ht
    have hnd : ((fo_bl (A1 ++ (x, e) :: fo_sg e r) t (fo_sub L t) (e + 1) (fo_rs e r)).map (·.1)).Nodup := by rw [← hmv]; exact a1.1
    obtain ⟨k1, k2⟩ := (fo_bl_o g4 hQ hnd (x := x) (by rw [hPQ]; exact hcm)).2.2 e (fo_sg e r) A1 rfl rfl (fun q hq => hsg q hq)
    rw [← hmv] at k1
    rw [hPQ, (fo_cut_o hok ht hcm).2] at k2
    rw [k1, k2, fo_k1_hd (fo_hd_rs e r) (Nat.le_refl e)]
    simp
  · rw [if_neg hxh]
    exact a4 x (fun q => hxh (Option.some.inj q).symm)
end FO5
