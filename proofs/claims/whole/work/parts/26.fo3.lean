-- FORESTS: the one after, in the walk
section FO3
-- what stands behind a thing and all that is under it
def fo_a (L : fo_L) (n : Nat) : fo_L := match fo_sp L n with
  | some q => fo_rs q.2.1 q.2.2
  | none => []
theorem fo_a_at {A : fo_L} {n d : Nat} {r : fo_L} (h : n ∉ A.map (·.1)) : fo_a (A ++ (n, d) :: r) n = fo_rs d r := by
  unfold fo_a; rw [fo_sp_app h]
theorem fo_a_hd {L : fo_L} {n : Nat} : fo_hd (fo_d L n) (fo_a L n) := by
  unfold fo_a fo_d
  cases hs : fo_sp L n with
  | none => intro q h; cases h
  | some q => exact fo_hd_rs _ _
-- of those that a holder holds: those before a thing, it, those behind it
theorem fo_k_form {L : fo_L} {n p : Nat} (hok : fo_ok L) (h : fo_p L n = some p) : ∃ l1, fo_k L p = l1 ++ n :: ((fo_sg (fo_d L p) (fo_a L n)).filter (fun q => q.2 == fo_d L p + 1)).map (·.1) := by
  obtain ⟨A, e, C, r, h1, hC⟩ := fo_p_form hok h
  have hn1 : p ∉ A.map (·.1) := fo_nd (r := C ++ (n, e + 1) :: r) (d := e) (by rw [← h1]; exact hok.1)
  have e2 : L = (A ++ (p, e) :: C) ++ (n, e + 1) :: r := by rw [h1]; simp
  have hn2 : n ∉ (A ++ (p, e) :: C).map (·.1) := fo_nd (r := r) (d := e + 1) (by rw [← e2]; exact hok.1)
  have hd : fo_d L p = e := by rw [h1]; exact fo_d_at hn1
  have ha : fo_a L n = fo_rs (e + 1) r := by rw [e2]; exact fo_a_at hn2
  rw [hd, ha, h1, fo_k_at hn1]
  unfold fo_k1
  refine ⟨(C.filter (fun q => q.2 == e + 1)).map (·.1), ?_⟩
  rw [fo_sg_app (fun q hq => by have := hC q hq; omega), List.filter_append, List.map_append]
  congr 1
  have h5 : fo_sg e ((n, e + 1) :: r) = (n, e + 1) :: (fo_sg (e + 1) r ++ fo_sg e (fo_rs (e + 1) r)) := by
    conv => lhs; unfold fo_sg
    rw [if_pos (Nat.lt_succ_self e)]
    congr 1
    conv => lhs; rw [← fo_sr (e + 1) r]
    exact fo_sg_app (fun q hq => by have := fo_sg_gt q hq; omega)
  rw [h5, List.filter_cons_of_pos (by simp), List.map_cons, List.filter_append]
  have h6 : (fo_sg (e + 1) r).filter (fun q => q.2 == e + 1) = [] := by
    rw [List.filter_eq_nil_iff]
    intro q hq
    have := fo_sg_gt q hq
    simp; omega
  rw [h6, List.nil_append]
theorem fo_a_up {L : fo_L} {n p : Nat} (hok : fo_ok L) (h : fo_p L n = some p) : fo_a L p = fo_rs (fo_d L p) (fo_a L n) := by
  obtain ⟨A, e, C, r, h1, hC⟩ := fo_p_form hok h
  have hn1 : p ∉ A.map (·.1) := fo_nd (r := C ++ (n, e + 1) :: r) (d := e) (by rw [← h1]; exact hok.1)
  have e2 : L = (A ++ (p, e) :: C) ++ (n, e + 1) :: r := by rw [h1]; simp
  have hn2 : n ∉ (A ++ (p, e) :: C).map (·.1) := fo_nd (r := r) (d := e + 1) (by rw [← e2]; exact hok.1)
  have hd : fo_d L p = e := by rw [h1]; exact fo_d_at hn1
  have ha : fo_a L n = fo_rs (e + 1) r := by rw [e2]; exact fo_a_at hn2
  have hp : fo_a L p = fo_rs e (C ++ (n, e + 1) :: r) := by rw [h1]; exact fo_a_at hn1
  rw [hd, ha, hp, show C ++ (n, e + 1) :: r = (C ++ [(n, e + 1)]) ++ r by simp, fo_rs_app (fun q hq => by
    rcases List.mem_append.mp hq with h5 | h5
    · have := hC q h5; omega
    · rw [List.mem_singleton.mp h5]; exact Nat.lt_succ_self e)]
  conv => lhs; rw [← fo_sr (e + 1) r]
  exact fo_rs_app (fun q hq => by have := fo_sg_gt q hq; omega)
-- the first that a thing holds stands right behind it
theorem fo_k_first {L : fo_L} {n : Nat} {A : fo_L} {d : Nat} {r : fo_L} (hok : fo_ok L) (hL : L = A ++ (n, d) :: r) : (fo_k L n).head? = (match r.head? with | some q => if d < q.2 then some q.1 else none | none => none) := by
  subst hL
  have hn := fo_nd hok.1
  rw [fo_k_at hn]
  unfold fo_k1
  cases r with
  | nil => rfl
  | cons q r =>
    have hv := fo_v_tail hok.2
    have hq : q.2 ≤ d + 1 := hv.1
    unfold fo_sg
    simp only [List.head?_cons]
    by_cases h : d < q.2
    · rw [if_pos h, if_pos h, List.filter_cons_of_pos (by simp; omega)]
      rfl
    · rw [if_neg h, if_neg h]
      rfl
-- where the walk of u goes on behind n, when nothing is under n: up to the first with one behind it
theorem fo_nx_a {L : fo_L} {n p : Nat} (hok : fo_ok L) (h : fo_p L n = some p) : ls_nx (fo_k L p) n = (match (fo_a L n).head? with | some q => if q.2 = fo_d L n then some q.1 else none | none => none) := by
  obtain ⟨l1, h1⟩ := fo_k_form hok h
  have hnd := fo_k_nd hok p
  rw [h1, List.nodup_append] at hnd
  have hn1 : n ∉ l1 := fun q => hnd.2.2 n q n List.mem_cons_self rfl
  rw [h1, ls_nx_at hn1]
  have hd := fo_p_deep hok h
  have hh := fo_a_hd (L := L) (n := n)
  cases hr : fo_a L n with
  | nil => rfl
  | cons q r =>
    rw [hr] at hh
    have hq := hh q rfl
    simp only [List.head?_cons]
    conv => lhs; unfold fo_sg
    by_cases h2 : q.2 = fo_d L n
    · rw [if_pos h2, if_pos (by omega), List.filter_cons_of_pos (by simp; omega)]
      rfl
    · rw [if_neg h2, if_neg (by omega)]
      rfl
end FO3
