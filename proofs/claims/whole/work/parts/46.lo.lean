-- WHAT IS LOST WITH A THING: the walk's rest is gone through; who moves out, who is gone
section LO
def lo_g (s : ts_S) : List Nat → List Nat → List Nat × List Nat
  | [], D => ([], D)
  | x :: l, D => match ts_pa s x with
    | some h => if h ∈ D then (if ts_wy s x = 4 then lo_g s l (x :: D) else (x :: (lo_g s l D).1, (lo_g s l D).2)) else lo_g s l D
    | none => lo_g s l D
variable {s : ts_S} {t : Nat}
-- a holder stands before what it holds
theorem fo_w_before {L : fo_L} {l1 l2 : List Nat} {x y : Nat} (hok : fo_ok L) (h : fo_w L t = l1 ++ x :: l2) (hy : y ∈ l1) : fo_p L y ≠ some x := fun q => by
  obtain ⟨A, e, C, r, hL, -⟩ := fo_p_form hok q
  have hnd := hok.1
  have hw : ∃ P Q, L.map (·.1) = P ++ fo_w L t ++ Q := by
    by_cases ht : t ∈ L.map (·.1)
    · obtain ⟨A', d, r', hL', hA'⟩ := fo_split ht
      rw [hL', fo_w_at hA']
      refine ⟨A'.map (·.1), (fo_rs d r').map (·.1), ?_⟩
      have := fo_sr d r'
      simp only [List.map_append, List.map_cons, List.append_assoc, List.cons_append]
      rw [← List.map_append, this]
    · exfalso
      have : fo_w L t = [] := by unfold fo_w; rw [fo_sp_none ht]
      rw [this] at h
      cases l1 <;> cases h
  obtain ⟨P, Q, hPQ⟩ := hw
  rw [h] at hPQ
  obtain ⟨m1, m2, rfl⟩ := List.append_of_mem hy
  rw [hL] at hPQ hnd
  rw [hPQ] at hnd
  simp only [List.map_append, List.map_cons] at hPQ
  -- in the list x stands before y, by the form; and y before x, by the walk
  have e1 : (A.map (·.1)) ++ x :: (C.map (·.1) ++ y :: r.map (·.1)) = (P ++ m1) ++ y :: (m2 ++ x :: (l2 ++ Q)) := by
    rw [hPQ]; simp
  have nd2 : ((P ++ m1) ++ y :: (m2 ++ x :: (l2 ++ Q))).Nodup := by
    have : P ++ (m1 ++ y :: m2 ++ x :: l2) ++ Q = (P ++ m1) ++ y :: (m2 ++ x :: (l2 ++ Q)) := by simp
    rw [← this]; exact hnd
  have hyA : y ∉ A.map (·.1) := by
    rw [← e1] at nd2
    intro z
    exact (List.nodup_append.mp nd2).2.2 y z y (by simp) rfl
  have hxA : x ∉ P ++ m1 := by
    intro z
    exact (List.nodup_append.mp nd2).2.2 x z x (by simp) rfl
  have i1 : List.idxOf x ((A.map (·.1)) ++ x :: (C.map (·.1) ++ y :: r.map (·.1))) ≤ (A.map (·.1)).length := by
    rw [List.idxOf_append]
    split
    · exact Nat.le_of_lt (List.idxOf_lt_length_iff.mpr (by assumption))
    · simp
  have i2 : (A.map (·.1)).length < List.idxOf y ((A.map (·.1)) ++ x :: (C.map (·.1) ++ y :: r.map (·.1))) := by
    have hyx : y ≠ x := fun z => by subst z; have := fo_p_deep hok q; omega
    rw [List.idxOf_append, if_neg hyA, List.idxOf_cons, show (x == y) = false from beq_eq_false_iff_ne.mpr (Ne.symm hyx)]
    simp only [cond_false]
    omega
  have i3 : List.idxOf y ((P ++ m1) ++ y :: (m2 ++ x :: (l2 ++ Q))) ≤ (P ++ m1).length := by
    rw [List.idxOf_append]
    split
    · exact Nat.le_of_lt (List.idxOf_lt_length_iff.mpr (by assumption))
    · simp
  have i4 : (P ++ m1).length < List.idxOf x ((P ++ m1) ++ y :: (m2 ++ x :: (l2 ++ Q))) := by
    have hyx : y ≠ x := fun z => by subst z; have := fo_p_deep hok q; omega
    rw [List.idxOf_append, if_neg hxA, List.idxOf_cons, show (y == x) = false from beq_eq_false_iff_ne.mpr hyx]
    simp only [cond_false]
    omega
  rw [← e1] at i3 i4
  omega
theorem fo_w_nd {L : fo_L} (hok : fo_ok L) (t : Nat) : (fo_w L t).Nodup := by
  by_cases ht : t ∈ L.map (·.1)
  · obtain ⟨A', d, r', hL', hA'⟩ := fo_split ht
    have := hok.1
    rw [hL'] at this
    rw [hL', fo_w_at hA']
    rw [← fo_sr d r'] at this
    simp only [List.map_append, List.map_cons] at this
    have h2 := (List.nodup_append.mp this).2.1
    have h3 : ((t :: (fo_sg d r').map (·.1)) ++ (fo_rs d r').map (·.1)).Nodup := h2
    exact (List.nodup_append.mp h3).1
  · have : fo_w L t = [] := by unfold fo_w; rw [fo_sp_none ht]
    rw [this]; exact List.nodup_nil
-- what the going through gives
theorem lo_g_i (hok : fo_ok (ts_L s)) : ∀ (l l1 D : List Nat), fo_w (ts_L s) t = l1 ++ l → l1 ≠ [] → t ∈ D → D.Nodup → (∀ x ∈ D, x ∈ l1) → (∀ x ∈ D, x = t ∨ ∃ h, ts_pa s x = some h ∧ h ∈ D) →
    t ∈ (lo_g s l D).2 ∧ (lo_g s l D).2.Nodup ∧ (∀ x ∈ (lo_g s l D).2, x ∈ fo_w (ts_L s) t) ∧ (∀ x ∈ D, x ∈ (lo_g s l D).2) ∧ (∀ x ∈ (lo_g s l D).2, x ∈ D ∨ x ∈ l) ∧ (∀ x ∈ (lo_g s l D).2, x = t ∨ ∃ h, ts_pa s x = some h ∧ h ∈ (lo_g s l D).2) ∧ (∀ x ∈ (lo_g s l D).1, x ∈ l ∧ x ∉ (lo_g s l D).2) ∧ (lo_g s l D).1.Nodup ∧ (∀ x h, x ∈ l → ts_pa s x = some h → h ∈ (lo_g s l D).2 → x ∈ (lo_g s l D).2 ∨ x ∈ (lo_g s l D).1) ∧ (∀ x ∈ (lo_g s l D).1, ∃ h, ts_pa s x = some h ∧ h ∈ (lo_g s l D).2) := by
  intro l
  induction l with
  | nil =>
    intro l1 D hw h1 ht hd hsub hch
    refine ⟨ht, hd, fun x hx => by rw [hw]; simpa using hsub x hx, fun x hx => hx, fun x hx => Or.inl hx, hch, fun x hx => (by cases hx), List.nodup_nil, fun x h hx => (by cases hx), fun x hx => (by cases hx)⟩
  | cons x l ih =>
    intro l1 D hw h1 ht hd hsub hch
    have hwnd := fo_w_nd hok t
    rw [hw] at hwnd
    have hxl1 : x ∉ l1 := fun q => (List.nodup_append.mp hwnd).2.2 x q x List.mem_cons_self rfl
    have hxl : x ∉ l := (List.nodup_cons.mp (List.nodup_append.mp hwnd).2.1).1
    have hxD : x ∉ D := fun q => hxl1 (hsub x q)
    have hw2 : fo_w (ts_L s) t = (l1 ++ [x]) ++ l := by rw [hw]; simp
    have hl2 : l1 ++ [x] ≠ [] := by simp
    -- what is not touched
    have skip : ∀ (hno : ∀ h, ts_pa s x = some h → h ∉ D), lo_g s (x :: l) D = lo_g s l D := fun hno => by
      rw [lo_g]
      cases hp : ts_pa s x with
      | none => rfl
      | some h => simp [hno h hp]
    have base := ih (l1 ++ [x]) D hw2 hl2 ht hd (fun y hy => List.mem_append_left _ (hsub y hy)) hch
    -- a later dead one is not the holder of x
    have later : ∀ (h : Nat) (D' : List Nat), (∀ y ∈ D', y ∈ D ∨ y ∈ l) → ts_pa s x = some h → h ∉ D → h ∉ D' := fun h D' hD' hp hnD q => by
      rcases hD' h q with z | z
      · exact hnD z
      · obtain ⟨m1, m2, rfl⟩ := List.append_of_mem z
        exact fo_w_before (l1 := l1 ++ x :: m1) (x := h) (l2 := m2) (y := x) hok (by rw [hw]; simp) (by simp) hp
    by_cases hno : ∀ h, ts_pa s x = some h → h ∉ D
    · rw [skip hno]
      obtain ⟨b1, b2, b3, b4, b5, b6, b7, b8, b9, b10⟩ := base
      refine ⟨b1, b2, b3, b4, fun y hy => (b5 y hy).imp id (List.mem_cons_of_mem _), b6, fun y hy => ⟨List.mem_cons_of_mem _ (b7 y hy).1, (b7 y hy).2⟩, b8, fun y h hy hp hh => ?_, b10⟩
      rcases List.mem_cons.mp hy with rfl | hy
      · exact absurd hh (later h _ b5 hp (hno h hp))
      · exact b9 y h hy hp hh
    · obtain ⟨h, hp, hD⟩ : ∃ h, ts_pa s x = some h ∧ h ∈ D := Classical.byContradiction (fun q => hno (fun h h1 h2 => q ⟨h, h1, h2⟩))
      by_cases h4 : ts_wy s x = 4
      · have e : lo_g s (x :: l) D = lo_g s l (x :: D) := by rw [lo_g, hp]; simp [hD, h4]
        rw [e]
        obtain ⟨b1, b2, b3, b4, b5, b6, b7, b8, b9, b10⟩ := ih (l1 ++ [x]) (x :: D) hw2 hl2 (List.mem_cons_of_mem _ ht) (List.nodup_cons.mpr ⟨hxD, hd⟩) (fun y hy => by
          rcases List.mem_cons.mp hy with rfl | hy
          · simp
          · exact List.mem_append_left _ (hsub y hy)) (fun y hy => by
          rcases List.mem_cons.mp hy with rfl | hy
          · exact Or.inr ⟨h, hp, List.mem_cons_of_mem _ hD⟩
          · rcases hch y hy with z | ⟨g, g1, g2⟩
            · exact Or.inl z
            · exact Or.inr ⟨g, g1, List.mem_cons_of_mem _ g2⟩)
        refine ⟨b1, b2, b3, fun y hy => b4 y (List.mem_cons_of_mem _ hy), fun y hy => ?_, b6, fun y hy => ⟨List.mem_cons_of_mem _ (b7 y hy).1, (b7 y hy).2⟩, b8, fun y g hy hp2 hh => ?_, b10⟩
        · rcases b5 y hy with z | z
          · rcases List.mem_cons.mp z with rfl | z
            · exact Or.inr List.mem_cons_self
            · exact Or.inl z
          · exact Or.inr (List.mem_cons_of_mem _ z)
        · rcases List.mem_cons.mp hy with rfl | hy
          · exact Or.inl (b4 y List.mem_cons_self)
          · exact b9 y g hy hp2 hh
      · have e : lo_g s (x :: l) D = (x :: (lo_g s l D).1, (lo_g s l D).2) := by rw [lo_g, hp]; simp [hD, h4]
        rw [e]
        obtain ⟨b1, b2, b3, b4, b5, b6, b7, b8, b9, b10⟩ := base
        have hxn : x ∉ (lo_g s l D).2 := fun q => by
          rcases b5 x q with z | z
          · exact hxD z
          · exact hxl z
        refine ⟨b1, b2, b3, b4, fun y hy => (b5 y hy).imp id (List.mem_cons_of_mem _), b6, fun y hy => ?_, ?_, fun y g hy hp2 hh => ?_, fun y hy => ?_⟩
        · rcases List.mem_cons.mp hy with rfl | hy
          · exact ⟨List.mem_cons_self, hxn⟩
          · exact ⟨List.mem_cons_of_mem _ (b7 y hy).1, (b7 y hy).2⟩
        · exact List.nodup_cons.mpr ⟨fun q => hxl (b7 x q).1, b8⟩
        · rcases List.mem_cons.mp hy with rfl | hy
          · exact Or.inr List.mem_cons_self
          · exact (b9 y g hy hp2 hh).imp id (List.mem_cons_of_mem _)
        · rcases List.mem_cons.mp hy with rfl | hy
          · exact ⟨h, hp, b4 h hD⟩
          · exact b10 y hy
theorem lo_one {Lc : fo_L} {D : List Nat} (hc : fo_ok Lc) (htl : t ∈ Lc.map (·.1)) (hD : ∀ x ∈ D, x = t ∨ ∃ h, fo_p Lc x = some h ∧ h ∈ D) : ∀ x, x ∈ Lc.map (·.1) → x ∈ D → x ∈ fo_w Lc t := by
  refine fo_ind hc (P := fun x => x ∈ D → x ∈ fo_w Lc t) (fun x hx hp hxD => ?_) (fun x p hp ih hxD => ?_)
  · by_cases e : x = t
    · rw [e]; exact fo_w_self htl
    · rcases hD x hxD with z | ⟨h, z1, z2⟩
      · exact absurd z e
      · rw [z1] at hp
        cases hp
  · by_cases e : x = t
    · rw [e]; exact fo_w_self htl
    · rcases hD x hxD with z | ⟨h, z1, z2⟩
      · exact absurd z e
      · rw [z1] at hp
        cases hp
        exact fo_w_down hc z1 (ih z2)
-- the gone ones are what is left under it
theorem lo_set {Lc : fo_L} {W D mv : List Nat} (hok : fo_ok (ts_L s)) (hc : fo_ok Lc) (hW : W = fo_w (ts_L s) t) (hmem : ∀ x, x ∈ Lc.map (·.1) ↔ ts_lv s x) (hpa : ∀ x, x ≠ t → fo_p Lc x = if x ∈ mv then none else ts_pa s x)
    (htD : t ∈ D) (hDW : ∀ x ∈ D, x ∈ W) (hD : ∀ x ∈ D, x = t ∨ ∃ h, ts_pa s x = some h ∧ h ∈ D) (hmv : ∀ x ∈ mv, x ∉ D) (hcl : ∀ x h, x ∈ W → x ≠ t → ts_pa s x = some h → h ∈ D → x ∈ D ∨ x ∈ mv) : ∀ x, x ∈ fo_w Lc t ↔ x ∈ D := by
  have htl : t ∈ Lc.map (·.1) := (hmem t).mpr (by have := hDW t htD; rw [hW] at this; exact (fo_w_mem this).2)
  have one : ∀ x, x ∈ Lc.map (·.1) → x ∈ D → x ∈ fo_w Lc t := by
    refine fo_ind hc (P := fun x => x ∈ D → x ∈ fo_w Lc t) (fun x hx hp hxD => ?_) (fun x p hp ih hxD => ?_)
    · by_cases e : x = t
      · rw [e]; exact fo_w_self htl
      · rcases hD x hxD with z | ⟨h, z1, z2⟩
        · exact absurd z e
        · rw [hpa x e, if_neg (fun q => hmv x q hxD), z1] at hp
          cases hp
    · by_cases e : x = t
      · rw [e]; exact fo_w_self htl
      · rcases hD x hxD with z | ⟨h, z1, z2⟩
        · exact absurd z e
        · have hp2 := hp
          rw [hpa x e, if_neg (fun q => hmv x q hxD), z1] at hp2
          cases hp2
          exact fo_w_down hc hp (ih z2)
  have two : ∀ x, x ∈ Lc.map (·.1) → x ∈ fo_w Lc t → x ∈ D := by
    refine fo_ind hc (P := fun x => x ∈ fo_w Lc t → x ∈ D) (fun x hx hp hxw => ?_) (fun x p hp ih hxw => ?_)
    · by_cases e : t = x
      · rw [← e]; exact htD
      · obtain ⟨p, hp2, -⟩ := fo_w_up hc hxw e
        rw [hp2] at hp; cases hp
    · by_cases e : t = x
      · rw [← e]; exact htD
      · obtain ⟨p', hp2, hpw⟩ := fo_w_up hc hxw e
        rw [hp2] at hp; cases hp
        have hpD := ih hpw
        have e' : x ≠ t := fun q => e q.symm
        have hp3 := hp2
        rw [hpa x e'] at hp3
        by_cases q : x ∈ mv
        · rw [if_pos q] at hp3; cases hp3
        · rw [if_neg q] at hp3
          have hxW : x ∈ W := by
            have := hDW _ hpD
            rw [hW] at this ⊢
            exact fo_w_down hok hp3 this
          exact (hcl x _ hxW e' hp3 hpD).resolve_right q
  exact fun x => ⟨fun h => two x (fo_w_mem h).2 h, fun h => one x ((hmem x).mpr (by have := hDW x h; rw [hW] at this; exact (fo_w_mem this).2)) h⟩
-- moving out of what is lost, seen from the lost one
theorem fo_rs_hd2 {e d : Nat} {B : fo_L} (hB : fo_hd d B) (hde : d ≤ e) : ∀ C : fo_L, fo_rs e (C ++ B) = fo_rs e C ++ B ∧ fo_sg e (C ++ B) = fo_sg e C := by
  intro C
  induction C with
  | nil => exact ⟨by rw [List.nil_append, fo_rs_hd hB hde]; rfl, by rw [List.nil_append, fo_sg_hd hB hde]; rfl⟩
  | cons q C ih =>
    rw [List.cons_append]
    unfold fo_rs fo_sg
    split
    · exact ⟨ih.1, by rw [ih.2]⟩
    · exact ⟨rfl, rfl⟩
theorem fo_rs_mp {d : Nat} : ∀ (e : Nat) (C : fo_L), (∀ q ∈ C, d < q.2) → fo_rs e (C.map (fun q => (q.1, q.2 - d))) = (fo_rs (e + d) C).map (fun q => (q.1, q.2 - d)) ∧ fo_sg e (C.map (fun q => (q.1, q.2 - d))) = (fo_sg (e + d) C).map (fun q => (q.1, q.2 - d)) := by
  intro e C
  induction C with
  | nil => intro _; exact ⟨rfl, rfl⟩
  | cons q C ih =>
    intro h
    have h1 := h q List.mem_cons_self
    have h2 := ih (fun z hz => h z (List.mem_cons_of_mem _ hz))
    rw [List.map_cons]
    unfold fo_rs fo_sg
    by_cases c : e + d < q.2
    · rw [if_pos (show e < (q.1, q.2 - d).2 by show e < q.2 - d; omega), if_pos c, if_pos (show e < (q.1, q.2 - d).2 by show e < q.2 - d; omega), if_pos c]
      exact ⟨h2.1, by rw [h2.2]; rfl⟩
    · rw [if_neg (show ¬ e < (q.1, q.2 - d).2 by show ¬ e < q.2 - d; omega), if_neg c, if_neg (show ¬ e < (q.1, q.2 - d).2 by show ¬ e < q.2 - d; omega), if_neg c]
      exact ⟨rfl, rfl⟩
theorem fo_rs_gt {e d : Nat} {C : fo_L} (h : ∀ q ∈ C, d < q.2) : ∀ q ∈ fo_rs e C, d < q.2 := fun q hq => h q (by
  have := fo_sr e C
  rw [← this]
  exact List.mem_append_right _ hq)
theorem fo_out_in {L : fo_L} {x : Nat} (hok : fo_ok L) (ht : t ∈ L.map (·.1)) (hx : x ∈ fo_w L t) (hne : x ≠ t) : ∃ T1 e Tr, fo_sp (fo_sub L t) x = some (T1, e, Tr) ∧ fo_sub L x = (fo_sg e Tr).map (fun q => (q.1, q.2 - e)) ∧ fo_cut (fo_out L x) t = fo_cut L t ++ (x, 0) :: fo_sub L x ∧ fo_sub (fo_out L x) t = T1 ++ fo_rs e Tr := by
  obtain ⟨A, d, r, hsp⟩ := fo_sp_some ht
  obtain ⟨hL, hA⟩ := fo_sp_of hsp
  have hT : fo_sub L t = (fo_sg d r).map (fun q => (q.1, q.2 - d)) := by unfold fo_sub; rw [hsp]
  have hC : fo_cut L t = A ++ fo_rs d r := by unfold fo_cut; rw [hsp]
  have hSB := fo_sr d r
  have hB := fo_hd_rs d r
  have hgt := fo_sg_gt (d := d) (r := r)
  generalize fo_sg d r = S at *
  generalize fo_rs d r = B at *
  subst hSB
  have hxS : x ∈ S.map (·.1) := by
    rw [hL, fo_w_at hA] at hx
    rcases List.mem_cons.mp hx with z | z
    · exact absurd z hne
    · rw [(fo_rs_hd2 hB (Nat.le_refl d) S).2] at z
      have hall : fo_sg d S = S := by have := fo_sg_app (B := []) hgt; simpa [fo_sg] using this
      rw [hall] at z
      exact z
  obtain ⟨S1, e', Sr, hS, hS1⟩ := fo_split hxS
  have he' : d < e' := hgt (x, e') (by rw [hS]; simp)
  have hg1 : ∀ q ∈ S1, d < q.2 := fun q hq => hgt q (by rw [hS]; exact List.mem_append_left _ hq)
  have hgr : ∀ q ∈ Sr, d < q.2 := fun q hq => hgt q (by rw [hS]; exact List.mem_append_right _ (List.mem_cons_of_mem _ hq))
  have hnd := hok.1
  have hL2 : L = (A ++ (t, d) :: S1) ++ (x, e') :: (Sr ++ B) := by rw [hL, hS]; simp
  have hxn : x ∉ (A ++ (t, d) :: S1).map (·.1) := by
    rw [hL2] at hnd
    exact fo_nd hnd
  have hspx : fo_sp L x = some (A ++ (t, d) :: S1, e', Sr ++ B) := by rw [hL2]; exact fo_sp_app hxn
  have hde : d ≤ e' := by omega
  have hsubx : fo_sub L x = (fo_sg e' Sr).map (fun q => (q.1, q.2 - e')) := by
    unfold fo_sub; rw [hspx]
    show (fo_sg e' (Sr ++ B)).map _ = _
    rw [(fo_rs_hd2 hB hde Sr).2]
  have hcutx : fo_cut L x = (A ++ (t, d) :: S1) ++ (fo_rs e' Sr ++ B) := by
    unfold fo_cut; rw [hspx]
    show (A ++ (t, d) :: S1) ++ fo_rs e' (Sr ++ B) = _
    rw [(fo_rs_hd2 hB hde Sr).1]
  have hout : fo_out L x = A ++ (t, d) :: ((S1 ++ fo_rs e' Sr) ++ (B ++ (x, 0) :: fo_sub L x)) := by
    unfold fo_out; rw [hcutx]; simp
  have hspt : fo_sp (fo_out L x) t = some (A, d, (S1 ++ fo_rs e' Sr) ++ (B ++ (x, 0) :: fo_sub L x)) := by rw [hout]; exact fo_sp_app hA
  have hgS' : ∀ q ∈ S1 ++ fo_rs e' Sr, d < q.2 := fun q hq => by
    rcases List.mem_append.mp hq with z | z
    · exact hg1 q z
    · exact fo_rs_gt hgr q z
  have hB' : fo_hd d (B ++ (x, 0) :: fo_sub L x) := by
    intro q hq
    cases B with
    | nil => cases hq; exact Nat.zero_le _
    | cons b B => exact hB q hq
  have hall : ∀ C : fo_L, (∀ q ∈ C, d < q.2) → fo_sg d C = C ∧ fo_rs d C = [] := fun C hC2 => ⟨by have := fo_sg_app (B := []) hC2; simpa [fo_sg] using this, by have := fo_rs_app (B := []) hC2; simpa [fo_rs] using this⟩
  refine ⟨S1.map (fun q => (q.1, q.2 - d)), e' - d, Sr.map (fun q => (q.1, q.2 - d)), ?_, ?_, ?_, ?_⟩
  · rw [hT, hS, List.map_append, List.map_cons]
    refine fo_sp_app ?_
    rw [List.map_map]
    exact hS1
  · rw [hsubx, (fo_rs_mp (e' - d) Sr hgr).2, Nat.sub_add_cancel hde, List.map_map]
    refine List.map_congr_left (fun q hq => ?_)
    have := fo_sg_gt q hq
    show (q.1, q.2 - e') = (q.1, q.2 - d - (e' - d))
    rw [show q.2 - d - (e' - d) = q.2 - e' by omega]
  · unfold fo_cut
    rw [hspt]
    show A ++ fo_rs d ((S1 ++ fo_rs e' Sr) ++ (B ++ (x, 0) :: fo_sub L x)) = _
    rw [(fo_rs_hd2 hB' (Nat.le_refl d) _).1, (hall _ hgS').2, hsp]
    show A ++ ([] ++ (B ++ (x, 0) :: fo_sub L x)) = (A ++ fo_rs d (S ++ B)) ++ (x, 0) :: fo_sub L x
    rw [(fo_rs_hd2 hB (Nat.le_refl d) S).1, (hall _ hgt).2]
    simp
  · unfold fo_sub
    rw [hspt]
    show (fo_sg d ((S1 ++ fo_rs e' Sr) ++ (B ++ (x, 0) :: fo_sub L x))).map (fun q => (q.1, q.2 - d)) = _
    rw [(fo_rs_hd2 hB' (Nat.le_refl d) _).2, (hall _ hgS').1, List.map_append, (fo_rs_mp (e' - d) Sr hgr).1, Nat.sub_add_cancel hde]
end LO
