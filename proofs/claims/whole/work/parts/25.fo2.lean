-- FORESTS: what one holds, chains, roots
section FO2
theorem fo_k_of {L : fo_L} {m p : Nat} (hok : fo_ok L) (h : m ∈ fo_k L p) : fo_p L m = some p := by
  unfold fo_k at h
  cases hs : fo_sp L p with
  | none => rw [hs] at h; cases h
  | some q =>
    rw [hs] at h
    obtain ⟨A, d, r⟩ := q
    obtain ⟨h1, h2⟩ := fo_sp_of hs
    dsimp only at h
    unfold fo_k1 at h
    obtain ⟨x, h3, h4⟩ := List.mem_map.mp h
    obtain ⟨h5, h6⟩ := List.mem_filter.mp h3
    obtain ⟨m', e⟩ := x
    dsimp only at h4 h6
    subst h4
    have he : e = d + 1 := by simpa using h6
    subst he
    obtain ⟨S1, S2, h7⟩ := List.append_of_mem h5
    have hL : L = (A ++ (p, d) :: S1) ++ (m', d + 1) :: (S2 ++ fo_rs d r) := by
      rw [h1]
      conv => lhs; rw [← fo_sr d r, h7]
      simp
    have hn : m' ∉ (A ++ (p, d) :: S1).map (·.1) := fo_nd (d := d + 1) (r := S2 ++ fo_rs d r) (by rw [← hL]; exact hok.1)
    rw [hL, fo_p_at hn]
    exact fo_p1_app (Nat.lt_succ_self d) (fun q hq => by
      have := fo_sg_gt (d := d) (r := r) q (by rw [h7]; exact List.mem_append_left _ hq)
      omega)
theorem fo_k_in {L : fo_L} {m p : Nat} (hok : fo_ok L) (h : fo_p L m = some p) : m ∈ fo_k L p := by
  obtain ⟨A, e, C, r, h1, hC⟩ := fo_p_form hok h
  have hn : p ∉ A.map (·.1) := fo_nd (r := C ++ (m, e + 1) :: r) (d := e) (by rw [← h1]; exact hok.1)
  rw [h1, fo_k_at hn]
  unfold fo_k1
  refine List.mem_map.mpr ⟨(m, e + 1), List.mem_filter.mpr ⟨?_, by simp⟩, rfl⟩
  rw [show C ++ (m, e + 1) :: r = (C ++ [(m, e + 1)]) ++ r by simp, fo_sg_app (fun q hq => by
    rcases List.mem_append.mp hq with h5 | h5
    · have := hC q h5; omega
    · rw [List.mem_singleton.mp h5]; exact Nat.lt_succ_self e)]
  simp
theorem fo_k_nd {L : fo_L} (hok : fo_ok L) (p : Nat) : (fo_k L p).Nodup := by
  unfold fo_k
  cases hs : fo_sp L p with
  | none => exact List.nodup_nil
  | some q =>
    obtain ⟨A, d, r⟩ := q
    obtain ⟨h1, h2⟩ := fo_sp_of hs
    dsimp only
    unfold fo_k1
    have h3 := hok.1
    rw [h1, List.map_append, List.map_cons, List.nodup_append] at h3
    have h4 := (List.nodup_cons.mp h3.2.1).2
    rw [← fo_sr d r, List.map_append, List.nodup_append] at h4
    exact (List.filter_sublist.map _).nodup h4.1
-- the chain of holders
def fo_c1 (L : fo_L) : Nat → Nat → List Nat
  | 0, n => [n]
  | d + 1, n => n :: (match fo_p L n with
    | some p => fo_c1 L d p
    | none => [])
def fo_c (L : fo_L) (n : Nat) : List Nat := fo_c1 L (fo_d L n) n
theorem fo_c_some {L : fo_L} {n p : Nat} (hok : fo_ok L) (h : fo_p L n = some p) : fo_c L n = n :: fo_c L p := by
  unfold fo_c
  rw [fo_p_deep hok h, fo_c1, h]
theorem fo_c_none {L : fo_L} {n : Nat} (hok : fo_ok L) (hn : n ∈ L.map (·.1)) (h : fo_p L n = none) : fo_c L n = [n] := by
  unfold fo_c
  rw [fo_p_root hok hn h, fo_c1]
-- the root
def fo_r1 (L : fo_L) : Nat → Nat → Nat
  | 0, n => n
  | d + 1, n => match fo_p L n with
    | some p => fo_r1 L d p
    | none => n
def fo_r (L : fo_L) (n : Nat) : Nat := fo_r1 L (fo_d L n) n
theorem fo_r_some {L : fo_L} {n p : Nat} (hok : fo_ok L) (h : fo_p L n = some p) : fo_r L n = fo_r L p := by
  unfold fo_r
  rw [fo_p_deep hok h, fo_r1, h]
theorem fo_r_none {L : fo_L} {n : Nat} (hok : fo_ok L) (hn : n ∈ L.map (·.1)) (h : fo_p L n = none) : fo_r L n = n := by
  unfold fo_r
  rw [fo_p_root hok hn h, fo_r1]
-- by the holders, from the roots down
theorem fo_ind {L : fo_L} (hok : fo_ok L) {P : Nat → Prop} (h0 : ∀ n, n ∈ L.map (·.1) → fo_p L n = none → P n) (h1 : ∀ n p, fo_p L n = some p → P p → P n) : ∀ n, n ∈ L.map (·.1) → P n := by
  have key : ∀ d n, n ∈ L.map (·.1) → fo_d L n ≤ d → P n := by
    intro d
    induction d with
    | zero =>
      intro n hn hd
      cases hp : fo_p L n with
      | none => exact h0 n hn hp
      | some p => have := fo_p_deep hok hp; omega
    | succ d ih =>
      intro n hn hd
      cases hp : fo_p L n with
      | none => exact h0 n hn hp
      | some p =>
        have := fo_p_deep hok hp
        exact h1 n p hp (ih p (fo_p_mem hp).2 (by omega))
  intro n hn
  exact key _ n hn (Nat.le_refl _)
theorem fo_r_mem {L : fo_L} (hok : fo_ok L) : ∀ n, n ∈ L.map (·.1) → fo_r L n ∈ L.map (·.1) ∧ fo_p L (fo_r L n) = none :=
  fo_ind hok (fun n hn hp => by rw [fo_r_none hok hn hp]; exact ⟨hn, hp⟩) (fun n p hp ih => by rw [fo_r_some hok hp]; exact ih)
-- neighbours in a list
def ls_nx : List Nat → Nat → Option Nat
  | [], _ => none
  | a :: l, n => if a = n then l.head? else ls_nx l n
def ls_pv : List Nat → Nat → Option Nat
  | [], _ => none
  | a :: l, n => if l.head? = some n then some a else ls_pv l n
theorem ls_nx_at {l1 l2 : List Nat} {n : Nat} (h : n ∉ l1) : ls_nx (l1 ++ n :: l2) n = l2.head? := by
  induction l1 with
  | nil => simp [ls_nx]
  | cons b l1 ih =>
    rw [List.mem_cons] at h
    rw [List.cons_append]
    unfold ls_nx
    rw [if_neg (fun q => h (Or.inl q.symm)), ih (fun q => h (Or.inr q))]
end FO2
