-- FORESTS: a thing goes out, with all that is under it; a thing comes in
section FO4
def fo_nb : Nat → fo_L → Nat
  | p, [] => p
  | _, q :: r => fo_nb (q.2 + 1) r
theorem fo_v_app {A B : fo_L} : ∀ {p : Nat}, fo_v p (A ++ B) ↔ fo_v p A ∧ fo_v (fo_nb p A) B := by
  induction A with
  | nil => intro p; exact ⟨fun h => ⟨trivial, h⟩, fun h => h.2⟩
  | cons q A ih =>
    intro p
    constructor
    · intro h
      have h1 := ih.mp h.2
      exact ⟨⟨h.1, h1.1⟩, h1.2⟩
    · intro h
      exact ⟨h.1.1, ih.mpr ⟨h.1.2, h.2⟩⟩
theorem fo_nb_gt {d : Nat} {A : fo_L} : ∀ {p : Nat}, (∀ q ∈ A, d < q.2) → d < p → d < fo_nb p A := by
  induction A with
  | nil => intro p _ h; exact h
  | cons q A ih =>
    intro p h hp
    exact ih (fun x hx => h x (List.mem_cons_of_mem _ hx)) (by have := h q List.mem_cons_self; omega)
theorem fo_v_hd {p d : Nat} {B : fo_L} (h : fo_v p B) (hd : fo_hd d B) : fo_v d B := by
  cases B with
  | nil => trivial
  | cons q B => exact ⟨hd q rfl, h.2⟩
theorem fo_v_add {c : Nat} {S : fo_L} : ∀ {p : Nat}, fo_v p S → fo_v (p + c) (S.map (fun q => (q.1, q.2 + c))) := by
  induction S with
  | nil => intro p _; trivial
  | cons q S ih =>
    intro p h
    refine ⟨Nat.add_le_add_right h.1 c, ?_⟩
    have h1 := ih h.2
    rw [show q.2 + 1 + c = q.2 + c + 1 by omega] at h1
    exact h1
theorem fo_v_sub {d : Nat} {S : fo_L} : ∀ {p : Nat}, fo_v (p + d) S → (∀ q ∈ S, d ≤ q.2) → fo_v p (S.map (fun q => (q.1, q.2 - d))) := by
  induction S with
  | nil => intro p _ _; trivial
  | cons q S ih =>
    intro p h hd
    have h0 := hd q List.mem_cons_self
    have h1 := h.1
    refine ⟨by show q.2 - d ≤ p; omega, ?_⟩
    refine ih (p := q.2 - d + 1) ?_ (fun x hx => hd x (List.mem_cons_of_mem _ hx))
    rw [show q.2 - d + 1 + d = q.2 + 1 by omega]
    exact h.2
-- a block: a thing of depth d with what is under it, and what stands behind isn't deeper
variable {A S B : fo_L} {t d : Nat}
theorem fo_blk_v (h : fo_v 0 (A ++ ((t, d) :: S ++ B))) (hB : fo_hd d B) : fo_v 0 (A ++ B) := by
  obtain ⟨h1, h2⟩ := fo_v_app.mp h
  refine fo_v_app.mpr ⟨h1, ?_⟩
  have h3 : d ≤ fo_nb 0 A := h2.1
  have h4 := ((fo_v_app (A := S)).mp h2.2).2
  exact fo_v_le (fo_v_hd h4 hB) h3
-- what the others hold
theorem fo_blk_kB {x e : Nat} {B1 B2 P : fo_L} (hx : x ∉ (P ++ B1).map (·.1)) : fo_k (P ++ (B1 ++ (x, e) :: B2)) x = fo_k1 e B2 := by
  rw [← List.append_assoc]; exact fo_k_at hx
theorem fo_k1_app {e : Nat} {C r : fo_L} (h : ∀ q ∈ C, e < q.2) : fo_k1 e (C ++ r) = (C.filter (fun q => q.2 == e + 1)).map (·.1) ++ fo_k1 e r := by
  unfold fo_k1
  rw [fo_sg_app h, List.filter_append, List.map_append]
theorem fo_k1_stop {e : Nat} {C r : fo_L} (h : ∃ q ∈ C, ¬ e < q.2) : fo_k1 e (C ++ r) = fo_k1 e C := by
  unfold fo_k1
  rw [fo_sg_stop h]
theorem fo_k1_hd {d e : Nat} {B : fo_L} (h : fo_hd d B) (hde : d ≤ e) : fo_k1 e B = [] := by
  unfold fo_k1
  rw [fo_sg_hd h hde]; rfl
-- a block inside what is under one of depth e
theorem fo_k1_blk {e : Nat} (hS : ∀ q ∈ S, d < q.2) (hB : fo_hd d B) : fo_k1 e ((t, d) :: S ++ B) = (if d = e + 1 then [t] else []) ++ fo_k1 e B := by
  by_cases h : e < d
  · have h1 : ∀ q ∈ (t, d) :: S, e < q.2 := fun q hq => by
      rcases List.mem_cons.mp hq with h2 | h2
      · rw [h2]; exact h
      · have := hS q h2; omega
    rw [fo_k1_app h1]
    congr 1
    have h3 : S.filter (fun q => q.2 == e + 1) = [] := by
      rw [List.filter_eq_nil_iff]
      intro q hq
      have := hS q hq
      simp; omega
    by_cases h4 : d = e + 1
    · rw [if_pos h4, List.filter_cons_of_pos (by simp [h4]), h3]
      rfl
    · rw [if_neg h4, List.filter_cons_of_neg (by simp [h4]), h3]
      rfl
  · rw [if_neg (by omega), fo_k1_hd hB (by omega), List.append_nil, List.cons_append]
    unfold fo_k1 fo_sg
    rw [if_neg h]
    rfl
theorem fo_k1_blk2 {e : Nat} {C : fo_L} (hS : ∀ q ∈ S, d < q.2) (hB : fo_hd d B) (hC : (∀ q ∈ C, e < q.2) → ¬ d = e + 1) : fo_k1 e (C ++ ((t, d) :: S ++ B)) = fo_k1 e (C ++ B) := by
  by_cases h : ∀ q ∈ C, e < q.2
  · rw [fo_k1_app h, fo_k1_app h, fo_k1_blk hS hB, if_neg (hC h), List.nil_append]
  · have h2 : ∃ q ∈ C, ¬ e < q.2 := by
      refine Classical.byContradiction (fun h3 => h (fun q hq => Classical.byContradiction (fun h4 => h3 ⟨q, hq, h4⟩)))
    rw [fo_k1_stop h2, fo_k1_stop h2]
theorem fo_k1_in {e : Nat} {S1 S2 : fo_L} (hde : d ≤ e) (hB : fo_hd d B) : fo_k1 e (S2 ++ B) = fo_k1 e S2 := by
  by_cases h : ∀ q ∈ S2, e < q.2
  · rw [fo_k1_app h, fo_k1_hd hB hde, List.append_nil]
    have := fo_k1_app (r := []) h
    rw [List.append_nil] at this
    rw [this]
    unfold fo_k1 fo_sg
    simp
  · have h2 : ∃ q ∈ S2, ¬ e < q.2 := by
      refine Classical.byContradiction (fun h3 => h (fun q hq => Classical.byContradiction (fun h4 => h3 ⟨q, hq, h4⟩)))
    exact fo_k1_stop h2
-- shifts
theorem fo_k1_add {c : Nat} : ∀ {e : Nat} {r : fo_L}, fo_k1 (e + c) (r.map (fun q => (q.1, q.2 + c))) = fo_k1 e r := by
  intro e r
  have hsg : fo_sg (e + c) (r.map (fun q => (q.1, q.2 + c))) = (fo_sg e r).map (fun q => (q.1, q.2 + c)) := by
    induction r with
    | nil => rfl
    | cons q r ih =>
      rw [List.map_cons]
      unfold fo_sg
      by_cases h : e < q.2
      · rw [if_pos (show e + c < q.2 + c by omega), if_pos h, ih]; rfl
      · rw [if_neg (show ¬ e + c < q.2 + c by omega), if_neg h]; rfl
  unfold fo_k1
  rw [hsg, List.filter_map, List.map_map]
  congr 1
  congr 1
  funext q
  show (q.2 + c == e + c + 1) = (q.2 == e + 1)
  rw [Bool.eq_iff_iff, beq_iff_eq, beq_iff_eq]
  constructor <;> intro h <;> omega
theorem fo_k1_sub {c : Nat} : ∀ {e : Nat} {r : fo_L}, c ≤ e → (∀ q ∈ r, c ≤ q.2) → fo_k1 (e - c) (r.map (fun q => (q.1, q.2 - c))) = fo_k1 e r := by
  intro e r hce hr
  have h1 := fo_k1_add (c := c) (e := e - c) (r := r.map (fun q => (q.1, q.2 - c)))
  rw [show e - c + c = e by omega, List.map_map] at h1
  rw [← h1]
  congr 1
  have h2 : r.map ((fun q : Nat × Nat => (q.1, q.2 + c)) ∘ fun q => (q.1, q.2 - c)) = r.map id := by
    refine List.map_congr_left (fun q hq => ?_)
    have := hr q hq
    show (q.1, q.2 - c + c) = q
    rw [show q.2 - c + c = q.2 by omega]
  rw [h2, List.map_id]
-- holders
theorem fo_p1_blk {e : Nat} {B1 B2 : fo_L} (hS : ∀ q ∈ S, d < q.2) (hB : fo_hd d (B1 ++ (t, e) :: B2)) {u : Nat} : fo_p1 (A ++ ((u, d) :: S ++ B1)) e = fo_p1 (A ++ B1) e := by
  cases hf : fo_p1 B1 e with
  | some p =>
    obtain ⟨C1, f, C2, h1, h2, h3⟩ := fo_p1_some hf
    subst h1
    rw [show A ++ ((u, d) :: S ++ (C1 ++ (p, f) :: C2)) = (A ++ ((u, d) :: S ++ C1)) ++ (p, f) :: C2 by simp, fo_p1_app h2 h3, show A ++ (C1 ++ (p, f) :: C2) = (A ++ C1) ++ (p, f) :: C2 by simp, fo_p1_app h2 h3]
  | none =>
    have h1 := fo_p1_none hf
    have hed : e ≤ d := by
      cases B1 with
      | nil => exact hB (t, e) rfl
      | cons q B1 => have a1 := hB q rfl; have a2 := h1 q List.mem_cons_self; omega
    rw [show A ++ ((u, d) :: S ++ B1) = (A ++ (u, d) :: S) ++ B1 by simp, fo_p1_skip h1, fo_p1_skip h1]
    exact fo_p1_skip (fun q hq => by
      rcases List.mem_cons.mp hq with h2 | h2
      · rw [h2]; exact hed
      · have := hS q h2; omega)
theorem fo_p1_in {e : Nat} {S1 : fo_L} (h : d < e) {P : fo_L} : fo_p1 (P ++ (t, d) :: S1) e = fo_p1 ((t, d) :: S1) e := by
  cases hf : fo_p1 ((t, d) :: S1) e with
  | some p =>
    obtain ⟨C1, f, C2, h1, h2, h3⟩ := fo_p1_some hf
    rw [h1, ← List.append_assoc, fo_p1_app h2 h3]
  | none =>
    have := fo_p1_none hf (t, d) List.mem_cons_self
    dsimp only at this
    omega
theorem fo_p1_add {c e : Nat} : fo_p1 (A.map (fun q => (q.1, q.2 + c))) (e + c) = fo_p1 A e := by
  unfold fo_p1
  rw [← List.map_reverse, List.find?_map, Option.map_map]
  congr 1
  congr 1
  funext q
  simp
theorem fo_p1_sub {c e : Nat} (hce : c ≤ e) (hA : ∀ q ∈ A, c ≤ q.2) : fo_p1 (A.map (fun q => (q.1, q.2 - c))) (e - c) = fo_p1 A e := by
  have h1 := fo_p1_add (c := c) (e := e - c) (A := A.map (fun q => (q.1, q.2 - c)))
  rw [show e - c + c = e by omega, List.map_map] at h1
  rw [← h1]
  congr 1
  have h2 : A.map ((fun q : Nat × Nat => (q.1, q.2 + c)) ∘ fun q => (q.1, q.2 - c)) = A.map id := by
    refine List.map_congr_left (fun q hq => ?_)
    have := hA q hq
    show (q.1, q.2 - c + c) = q
    rw [show q.2 - c + c = q.2 by omega]
  rw [h2, List.map_id]
end FO4
