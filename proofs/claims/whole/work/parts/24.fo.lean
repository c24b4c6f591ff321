-- FORESTS, as the list of (thing, depth) in the order of the walk
section FO
abbrev fo_L : Type := List (Nat × Nat)
-- what is under one of depth d, of what stands behind it; and the rest
def fo_sg (d : Nat) : fo_L → fo_L
  | [] => []
  | q :: r => if d < q.2 then q :: fo_sg d r else []
def fo_rs (d : Nat) : fo_L → fo_L
  | [] => []
  | q :: r => if d < q.2 then fo_rs d r else q :: r
theorem fo_sr (d : Nat) (r : fo_L) : fo_sg d r ++ fo_rs d r = r := by
  induction r with
  | nil => rfl
  | cons q r ih =>
    unfold fo_sg fo_rs
    split
    · rw [List.cons_append, ih]
    · rfl
theorem fo_sg_gt {d : Nat} {r : fo_L} : ∀ q ∈ fo_sg d r, d < q.2 := by
  induction r with
  | nil => intro q h; cases h
  | cons p r ih =>
    intro q h
    unfold fo_sg at h
    split at h
    · rename_i h0
      rcases List.mem_cons.mp h with h1 | h1
      · rw [h1]; exact h0
      · exact ih q h1
    · cases h
theorem fo_sg_app {d : Nat} {A B : fo_L} (h : ∀ q ∈ A, d < q.2) : fo_sg d (A ++ B) = A ++ fo_sg d B := by
  induction A with
  | nil => rfl
  | cons q A ih =>
    have h1 := h q List.mem_cons_self
    rw [List.cons_append]
    conv => lhs; unfold fo_sg
    rw [if_pos h1, ih (fun p hp => h p (List.mem_cons_of_mem _ hp))]
    rfl
theorem fo_rs_app {d : Nat} {A B : fo_L} (h : ∀ q ∈ A, d < q.2) : fo_rs d (A ++ B) = fo_rs d B := by
  induction A with
  | nil => rfl
  | cons q A ih =>
    have h1 := h q List.mem_cons_self
    rw [List.cons_append]
    conv => lhs; unfold fo_rs
    rw [if_pos h1, ih (fun p hp => h p (List.mem_cons_of_mem _ hp))]
theorem fo_sg_stop {d : Nat} {A B : fo_L} (h : ∃ q ∈ A, ¬ d < q.2) : fo_sg d (A ++ B) = fo_sg d A := by
  induction A with
  | nil => obtain ⟨q, h1, -⟩ := h; cases h1
  | cons q A ih =>
    rw [List.cons_append]
    unfold fo_sg
    split
    · rename_i h0
      obtain ⟨p, h1, h2⟩ := h
      rcases List.mem_cons.mp h1 with h3 | h3
      · rw [h3] at h2; exact absurd h0 h2
      · rw [ih ⟨p, h3, h2⟩]
    · rfl
-- what stands first, if any, isn't deeper
def fo_hd (d : Nat) (B : fo_L) : Prop := ∀ q, B.head? = some q → q.2 ≤ d
theorem fo_hd_rs (d : Nat) (r : fo_L) : fo_hd d (fo_rs d r) := by
  induction r with
  | nil => intro q h; cases h
  | cons p r ih =>
    unfold fo_rs
    split
    · exact ih
    · rename_i h0
      intro q h
      cases h
      omega
theorem fo_sg_hd {d e : Nat} {B : fo_L} (h : fo_hd d B) (hde : d ≤ e) : fo_sg e B = [] := by
  cases B with
  | nil => rfl
  | cons q B =>
    have h1 := h q rfl
    unfold fo_sg
    rw [if_neg (by omega)]
theorem fo_rs_hd {d e : Nat} {B : fo_L} (h : fo_hd d B) (hde : d ≤ e) : fo_rs e B = B := by
  cases B with
  | nil => rfl
  | cons q B =>
    have h1 := h q rfl
    unfold fo_rs
    rw [if_neg (by omega)]
-- a thing's place: what stands before it, its depth, what stands behind it
def fo_sp : fo_L → Nat → Option (fo_L × Nat × fo_L)
  | [], _ => none
  | q :: r, n => if q.1 = n then some ([], q.2, r) else (fo_sp r n).map (fun s => (q :: s.1, s.2))
theorem fo_sp_of {L : fo_L} {n : Nat} {A : fo_L} {d : Nat} {r : fo_L} (h : fo_sp L n = some (A, d, r)) : L = A ++ (n, d) :: r ∧ n ∉ A.map (·.1) := by
  induction L generalizing A with
  | nil => cases h
  | cons q L ih =>
    unfold fo_sp at h
    split at h
    · rename_i h0
      cases h
      subst h0
      exact ⟨rfl, by simp⟩
    · rename_i h0
      cases hs : fo_sp L n with
      | none => rw [hs] at h; cases h
      | some s =>
        rw [hs] at h
        obtain ⟨A', d', r'⟩ := s
        cases h
        obtain ⟨h1, h2⟩ := ih hs
        refine ⟨by rw [List.cons_append, ← h1], ?_⟩
        rw [List.map_cons, List.mem_cons]
        exact fun h3 => h3.elim (fun h4 => h0 h4.symm) h2
theorem fo_sp_app {A : fo_L} {n d : Nat} {r : fo_L} (h : n ∉ A.map (·.1)) : fo_sp (A ++ (n, d) :: r) n = some (A, d, r) := by
  induction A with
  | nil => unfold fo_sp; simp
  | cons q A ih =>
    rw [List.map_cons, List.mem_cons] at h
    rw [List.cons_append]
    unfold fo_sp
    rw [if_neg (fun h1 => h (Or.inl h1.symm)), ih (fun h1 => h (Or.inr h1))]
    rfl
theorem fo_sp_some {L : fo_L} {n : Nat} (h : n ∈ L.map (·.1)) : ∃ A d r, fo_sp L n = some (A, d, r) := by
  induction L with
  | nil => cases h
  | cons q L ih =>
    unfold fo_sp
    split
    · exact ⟨_, _, _, rfl⟩
    · rename_i h0
      rw [List.map_cons, List.mem_cons] at h
      obtain ⟨A, d, r, h1⟩ := ih (h.resolve_left (fun h2 => h0 h2.symm))
      exact ⟨q :: A, d, r, by rw [h1]; rfl⟩
theorem fo_sp_none {L : fo_L} {n : Nat} (h : n ∉ L.map (·.1)) : fo_sp L n = none := by
  induction L with
  | nil => rfl
  | cons q L ih =>
    rw [List.map_cons, List.mem_cons] at h
    unfold fo_sp
    rw [if_neg (fun h1 => h (Or.inl h1.symm)), ih (fun h1 => h (Or.inr h1))]
    rfl
-- depth, holder, what it holds, the walk
def fo_d (L : fo_L) (n : Nat) : Nat := match fo_sp L n with
  | some s => s.2.1
  | none => 0
def fo_k1 (d : Nat) (r : fo_L) : List Nat := ((fo_sg d r).filter (fun q => q.2 == d + 1)).map (·.1)
def fo_k (L : fo_L) (n : Nat) : List Nat := match fo_sp L n with
  | some s => fo_k1 s.2.1 s.2.2
  | none => []
def fo_p1 (A : fo_L) (d : Nat) : Option Nat := (A.reverse.find? (fun q => decide (q.2 < d))).map (·.1)
def fo_p (L : fo_L) (n : Nat) : Option Nat := match fo_sp L n with
  | some s => fo_p1 s.1 s.2.1
  | none => none
def fo_w (L : fo_L) (n : Nat) : List Nat := match fo_sp L n with
  | some s => n :: (fo_sg s.2.1 s.2.2).map (·.1)
  | none => []
theorem fo_k_at {A : fo_L} {n d : Nat} {r : fo_L} (h : n ∉ A.map (·.1)) : fo_k (A ++ (n, d) :: r) n = fo_k1 d r := by
  unfold fo_k; rw [fo_sp_app h]
theorem fo_p_at {A : fo_L} {n d : Nat} {r : fo_L} (h : n ∉ A.map (·.1)) : fo_p (A ++ (n, d) :: r) n = fo_p1 A d := by
  unfold fo_p; rw [fo_sp_app h]
theorem fo_d_at {A : fo_L} {n d : Nat} {r : fo_L} (h : n ∉ A.map (·.1)) : fo_d (A ++ (n, d) :: r) n = d := by
  unfold fo_d; rw [fo_sp_app h]
theorem fo_w_at {A : fo_L} {n d : Nat} {r : fo_L} (h : n ∉ A.map (·.1)) : fo_w (A ++ (n, d) :: r) n = n :: (fo_sg d r).map (·.1) := by
  unfold fo_w; rw [fo_sp_app h]
-- a good list: each thing once; none deeper than one below the one before it
def fo_v : Nat → fo_L → Prop
  | _, [] => True
  | p, q :: r => q.2 ≤ p ∧ fo_v (q.2 + 1) r
def fo_ok (L : fo_L) : Prop := (L.map (·.1)).Nodup ∧ fo_v 0 L
theorem fo_v_tail {A : fo_L} {n d : Nat} {r : fo_L} : ∀ {p : Nat}, fo_v p (A ++ (n, d) :: r) → fo_v (d + 1) r := by
  induction A with
  | nil => intro p h; exact h.2
  | cons q A ih => intro p h; exact ih h.2
theorem fo_v_mid {A : fo_L} {n d : Nat} {r : fo_L} : ∀ {p : Nat}, fo_v p (A ++ (n, d) :: r) → fo_v d ((n, d) :: r) := by
  induction A with
  | nil => intro p h; exact ⟨Nat.le_refl _, h.2⟩
  | cons q A ih => intro p h; exact ih h.2
theorem fo_v_le {p p' : Nat} {L : fo_L} (h : fo_v p L) (hp : p ≤ p') : fo_v p' L := by
  cases L with
  | nil => trivial
  | cons q r => exact ⟨Nat.le_trans h.1 hp, h.2⟩
theorem fo_nd {A : fo_L} {n d : Nat} {r : fo_L} (h : ((A ++ (n, d) :: r).map (·.1)).Nodup) : n ∉ A.map (·.1) := by
  rw [List.map_append, List.map_cons, List.nodup_append] at h
  intro h1
  exact h.2.2 n h1 n List.mem_cons_self rfl
theorem fo_split {L : fo_L} {n : Nat} (h : n ∈ L.map (·.1)) : ∃ A d r, L = A ++ (n, d) :: r ∧ n ∉ A.map (·.1) := by
  obtain ⟨A, d, r, h1⟩ := fo_sp_some h
  exact ⟨A, d, r, fo_sp_of h1⟩
-- the holder
theorem fo_p1_some {A : fo_L} {d p : Nat} (h : fo_p1 A d = some p) : ∃ A1 e C, A = A1 ++ (p, e) :: C ∧ e < d ∧ ∀ q ∈ C, d ≤ q.2 := by
  unfold fo_p1 at h
  cases hf : A.reverse.find? (fun q => decide (q.2 < d)) with
  | none => rw [hf] at h; cases h
  | some b =>
    rw [hf] at h
    cases h
    obtain ⟨hb, as, bs, h1, h2⟩ := List.find?_eq_some_iff_append.mp hf
    refine ⟨bs.reverse, b.2, as.reverse, ?_, by simpa using hb, fun q hq => ?_⟩
    · have h3 := congrArg List.reverse h1
      rw [List.reverse_reverse] at h3
      rw [h3]
      simp
    · have h4 := h2 q (List.mem_reverse.mp hq)
      simpa using h4
theorem fo_p1_skip {A C : fo_L} {d : Nat} (h : ∀ q ∈ C, d ≤ q.2) : fo_p1 (A ++ C) d = fo_p1 A d := by
  unfold fo_p1
  rw [List.reverse_append, List.find?_append]
  have h1 : C.reverse.find? (fun q => decide (q.2 < d)) = none := by
    rw [List.find?_eq_none]
    intro q hq
    have := h q (List.mem_reverse.mp hq)
    simp; omega
  rw [h1]
  rfl
theorem fo_p1_hit {A : fo_L} {d p e : Nat} (h : e < d) : fo_p1 (A ++ [(p, e)]) d = some p := by
  unfold fo_p1
  simp [h]
theorem fo_p1_app {A C : fo_L} {d p e : Nat} (he : e < d) (h : ∀ q ∈ C, d ≤ q.2) : fo_p1 (A ++ (p, e) :: C) d = some p := by
  rw [show A ++ (p, e) :: C = (A ++ [(p, e)]) ++ C by simp, fo_p1_skip h, fo_p1_hit he]
theorem fo_p1_none {A : fo_L} {d : Nat} (h : fo_p1 A d = none) : ∀ q ∈ A, d ≤ q.2 := by
  intro q hq
  unfold fo_p1 at h
  rw [Option.map_eq_none_iff, List.find?_eq_none] at h
  have := h q (List.mem_reverse.mpr hq)
  simpa using this
theorem fo_p_mem {L : fo_L} {n p : Nat} (h : fo_p L n = some p) : n ∈ L.map (·.1) ∧ p ∈ L.map (·.1) := by
  unfold fo_p at h
  cases hs : fo_sp L n with
  | none => rw [hs] at h; cases h
  | some s =>
    rw [hs] at h
    obtain ⟨A, d, r⟩ := s
    obtain ⟨h1, -⟩ := fo_sp_of hs
    obtain ⟨A1, e, C, h2, -⟩ := fo_p1_some h
    subst h1
    subst h2
    simp
-- holder and depth
theorem fo_p_form {L : fo_L} {n p : Nat} (hok : fo_ok L) (h : fo_p L n = some p) : ∃ A e C r, L = A ++ (p, e) :: (C ++ (n, e + 1) :: r) ∧ ∀ q ∈ C, e + 1 ≤ q.2 := by
  obtain ⟨A, d, r, h1, h2⟩ := fo_split (fo_p_mem h).1
  subst h1
  rw [fo_p_at h2] at h
  obtain ⟨A1, e, C, h3, h4, h5⟩ := fo_p1_some h
  subst h3
  have hd : d = e + 1 := by
    have hv := hok.2
    rw [List.append_assoc] at hv
    have hv2 := fo_v_tail (A := A1) (n := p) (d := e) (r := C ++ (n, d) :: r) (by simpa using hv)
    cases C with
    | nil => have := hv2.1; simp at this; omega
    | cons q C =>
      have h6 := hv2.1
      have h7 := h5 q List.mem_cons_self
      omega
  subst hd
  exact ⟨A1, e, C, r, by simp, h5⟩
theorem fo_p_root {L : fo_L} {n : Nat} (hok : fo_ok L) (hn : n ∈ L.map (·.1)) (h : fo_p L n = none) : fo_d L n = 0 := by
  obtain ⟨A, d, r, h1, h2⟩ := fo_split hn
  subst h1
  rw [fo_p_at h2] at h
  rw [fo_d_at h2]
  have h3 := fo_p1_none h
  cases A with
  | nil => have := hok.2.1; simp at this; exact this
  | cons q A =>
    have h4 := h3 q List.mem_cons_self
    have h5 := hok.2.1
    omega
theorem fo_p_deep {L : fo_L} {n p : Nat} (hok : fo_ok L) (h : fo_p L n = some p) : fo_d L n = fo_d L p + 1 := by
  obtain ⟨A, e, C, r, h1, h2⟩ := fo_p_form hok h
  have hn1 : p ∉ A.map (·.1) := fo_nd (r := C ++ (n, e + 1) :: r) (d := e) (by rw [← h1]; exact hok.1)
  have e2 : L = (A ++ (p, e) :: C) ++ (n, e + 1) :: r := by rw [h1]; simp
  have hn2 : n ∉ (A ++ (p, e) :: C).map (·.1) := fo_nd (r := r) (d := e + 1) (by rw [← e2]; exact hok.1)
  have h3 : fo_d L n = e + 1 := by rw [e2]; exact fo_d_at hn2
  have h4 : fo_d L p = e := by rw [h1]; exact fo_d_at hn1
  rw [h3, h4]
-- under: itself, or its holder is
theorem fo_w_mem {L : fo_L} {a b : Nat} (h : b ∈ fo_w L a) : a ∈ L.map (·.1) ∧ b ∈ L.map (·.1) := by
  unfold fo_w at h
  cases hs : fo_sp L a with
  | none => rw [hs] at h; cases h
  | some s =>
    rw [hs] at h
    obtain ⟨A, d, r⟩ := s
    obtain ⟨h1, -⟩ := fo_sp_of hs
    subst h1
    refine ⟨by simp, ?_⟩
    rcases List.mem_cons.mp h with h2 | h2
    · subst h2; simp
    · obtain ⟨q, h3, rfl⟩ := List.mem_map.mp h2
      have h4 : q ∈ r := by rw [← fo_sr d r]; exact List.mem_append_left _ h3
      rw [List.map_append, List.map_cons]
      exact List.mem_append_right _ (List.mem_cons_of_mem _ (List.mem_map_of_mem h4))
theorem fo_w_self {L : fo_L} {a : Nat} (h : a ∈ L.map (·.1)) : a ∈ fo_w L a := by
  obtain ⟨A, d, r, h1, h2⟩ := fo_split h
  subst h1
  rw [fo_w_at h2]
  exact List.mem_cons_self
theorem fo_w_up {L : fo_L} {a b : Nat} (hok : fo_ok L) (h : b ∈ fo_w L a) (hne : a ≠ b) : ∃ p, fo_p L b = some p ∧ p ∈ fo_w L a := by
  obtain ⟨A, d, r, h1, h2⟩ := fo_split (fo_w_mem h).1
  subst h1
  rw [fo_w_at h2] at h
  have h3 := (List.mem_cons.mp h).resolve_left (Ne.symm hne)
  obtain ⟨q, h4, h5⟩ := List.mem_map.mp h3
  obtain ⟨S1, S2, h6⟩ := List.append_of_mem h4
  obtain ⟨b', e⟩ := q
  dsimp only at h5
  subst h5
  have hde : d < e := fo_sg_gt _ h4
  have hL : A ++ (a, d) :: r = (A ++ (a, d) :: S1) ++ (b', e) :: (S2 ++ fo_rs d r) := by
    conv => lhs; rw [← fo_sr d r, h6]
    simp
  have hnb : b' ∉ (A ++ (a, d) :: S1).map (·.1) := fo_nd (d := e) (r := S2 ++ fo_rs d r) (by rw [← hL]; exact hok.1)
  have hp : fo_p (A ++ (a, d) :: r) b' = fo_p1 (A ++ (a, d) :: S1) e := by rw [hL]; exact fo_p_at hnb
  cases hc : fo_p1 (A ++ (a, d) :: S1) e with
  | none =>
    have := fo_p1_none hc (a, d) (by simp)
    dsimp only at this
    omega
  | some p =>
    refine ⟨p, by rw [hp, hc], ?_⟩
    rw [fo_w_at h2]
    cases hS : fo_p1 S1 e with
    | none =>
      have h8 : fo_p1 (A ++ (a, d) :: S1) e = some a := fo_p1_app hde (fo_p1_none hS)
      rw [hc] at h8
      cases h8
      exact List.mem_cons_self
    | some p' =>
      obtain ⟨B1, e', B2, h9, h10, h11⟩ := fo_p1_some hS
      have h8 : fo_p1 (A ++ (a, d) :: S1) e = some p' := by
        rw [h9, show A ++ (a, d) :: (B1 ++ (p', e') :: B2) = (A ++ (a, d) :: B1) ++ (p', e') :: B2 by simp]
        exact fo_p1_app h10 h11
      rw [hc] at h8
      cases h8
      refine List.mem_cons_of_mem _ (List.mem_map.mpr ⟨(p, e'), ?_, rfl⟩)
      rw [h6, h9]
      simp
theorem fo_w_down {L : fo_L} {a b p : Nat} (hok : fo_ok L) (hp : fo_p L b = some p) (h : p ∈ fo_w L a) : b ∈ fo_w L a := by
  obtain ⟨A, e, C, r, h1, hC⟩ := fo_p_form hok hp
  obtain ⟨B, d, r2, h2, h3⟩ := fo_split (fo_w_mem h).1
  by_cases hpa : p = a
  · subst hpa
    have hn1 : p ∉ A.map (·.1) := fo_nd (r := C ++ (b, e + 1) :: r) (d := e) (by rw [← h1]; exact hok.1)
    rw [h1, fo_w_at hn1]
    refine List.mem_cons_of_mem _ (List.mem_map.mpr ⟨(b, e + 1), ?_, rfl⟩)
    rw [show C ++ (b, e + 1) :: r = (C ++ [(b, e + 1)]) ++ r by simp, fo_sg_app (fun q hq => by
      rcases List.mem_append.mp hq with h5 | h5
      · have := hC q h5; omega
      · rw [List.mem_singleton.mp h5]; exact Nat.lt_succ_self e)]
    simp
  · rw [h2, fo_w_at h3] at h
    have h4 := (List.mem_cons.mp h).resolve_left hpa
    obtain ⟨q, h5, h6⟩ := List.mem_map.mp h4
    obtain ⟨S1, S2, h7⟩ := List.append_of_mem h5
    obtain ⟨p', e'⟩ := q
    dsimp only at h6
    subst h6
    have hde : d < e' := fo_sg_gt _ h5
    have hL2 : L = (B ++ (a, d) :: S1) ++ (p', e') :: (S2 ++ fo_rs d r2) := by
      rw [h2]
      conv => lhs; rw [← fo_sr d r2, h7]
      simp
    have hn1 : p' ∉ A.map (·.1) := fo_nd (r := C ++ (b, e + 1) :: r) (d := e) (by rw [← h1]; exact hok.1)
    have hn2 : p' ∉ (B ++ (a, d) :: S1).map (·.1) := fo_nd (r := S2 ++ fo_rs d r2) (d := e') (by rw [← hL2]; exact hok.1)
    have s1 := fo_sp_app (A := A) (n := p') (d := e) (r := C ++ (b, e + 1) :: r) hn1
    have s2 := fo_sp_app (A := B ++ (a, d) :: S1) (n := p') (d := e') (r := S2 ++ fo_rs d r2) hn2
    rw [← h1] at s1
    rw [← hL2, s1] at s2
    have s3 := Option.some.inj s2
    have e1 : e = e' := congrArg (fun s => s.2.1) s3
    have e2 : C ++ (b, e + 1) :: r = S2 ++ fo_rs d r2 := congrArg (fun s => s.2.2) s3
    subst e1
    have hS1 : ∀ q ∈ S1, d < q.2 := fun q hq => fo_sg_gt q (by rw [h7]; exact List.mem_append_left _ hq)
    have key : fo_sg d r2 = S1 ++ (p', e) :: (C ++ (b, e + 1) :: fo_sg d r) := by
      have hr2 : r2 = (S1 ++ (p', e) :: (C ++ [(b, e + 1)])) ++ r := by
        rw [← fo_sr d r2, h7, List.append_assoc, List.cons_append, ← e2]
        simp
      rw [hr2, fo_sg_app (fun q hq => by
        rcases List.mem_append.mp hq with h8 | h8
        · exact hS1 q h8
        · rcases List.mem_cons.mp h8 with h9 | h9
          · rw [h9]; exact hde
          · rcases List.mem_append.mp h9 with h10 | h10
            · have := hC q h10; omega
            · rw [List.mem_singleton.mp h10]
              show d < e + 1
              omega)]
      simp
    rw [h2, fo_w_at h3, key]
    simp
end FO
