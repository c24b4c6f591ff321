-- THE REAL MACHINE DOES WHAT THE SMALL ONE DOES
section SND1
def am_v (v : am_V) : Value := match v with
  | .inl x => .int x
  | .inr (.inl q) => va_rf q.2
  | .inr (.inr _) => .null
theorem am_v_cat (v : am_V) : (am_v v).category = 1 := by
  rcases v with x | ⟨t, _ | a⟩ | u <;> rfl
theorem am_v_sum (st : List am_V) : ((st.map am_v).map fun v => v.category).sum = st.length := by
  induction st with
  | nil => rfl
  | cons v st ih => simp only [List.map_cons, List.sum_cons, ih, am_v_cat, List.length_cons]; omega
-- the locals: what is known of each
def am_lo (ls : Array Slot) (lo : List am_V) (n : Nat) : Prop := ls.size = n ∧ lv_wf ls ∧ lo.length = n ∧ ∀ (i : Nat) (v : am_V), lo[i]? = some v → v ≠ am_u → ls[i]? = some (.val (am_v v))
def am_kl (lo : List am_V) : List (Nat × Value) := (List.range lo.length).filterMap (fun (j : Nat) => match (lo[j]? : Option am_V) with
  | some (.inl x) => some (j, .int x)
  | some (.inr (.inl q)) => some (j, va_rf q.2)
  | _ => none)
theorem am_kl_mem {lo : List am_V} {j : Nat} {v : am_V} (h : lo[j]? = some v) (hv : v ≠ am_u) : (j, am_v v) ∈ am_kl lo := by
  refine List.mem_filterMap.mpr ⟨j, List.mem_range.mpr (List.getElem?_eq_some_iff.mp h).1, ?_⟩
  rw [h]
  rcases v with x | q | u
  · rfl
  · rfl
  · exact absurd rfl hv
theorem am_kl_of {lo : List am_V} {q : Nat × Value} (h : q ∈ am_kl lo) : ∃ v, lo[q.1]? = some v ∧ v ≠ am_u ∧ q.2 = am_v v := by
  obtain ⟨j, -, hj⟩ := List.mem_filterMap.mp h
  cases hl : lo[j]? with
  | none => rw [hl] at hj; cases hj
  | some v =>
    rw [hl] at hj
    rcases v with x | r | u
    · cases hj; exact ⟨_, hl, by simp, rfl⟩
    · cases hj; exact ⟨_, hl, by simp, rfl⟩
    · cases hj
theorem am_lo.has {ls : Array Slot} {lo : List am_V} {n : Nat} (h : am_lo ls lo n) : lv_has ls n (am_kl lo) :=
  ⟨h.1, h.2.1, fun q hq => by
    obtain ⟨v, h1, h2, h3⟩ := am_kl_of hq
    rw [h3]
    exact h.2.2.2 _ _ h1 h2⟩
theorem am_lo.set {ls ls' : Array Slot} {lo : List am_V} {n i : Nat} {v : am_V} (h : am_lo ls lo n) (h' : lv_has ls' n ((i, am_v v) :: (am_kl lo).filter (fun q => !(q.1 == i) && !(q.1 + 1 == i && q.2.category == 2)))) : am_lo ls' (lo.set i v) n := by
  refine ⟨h'.1, h'.2.1, by rw [List.length_set]; exact h.2.2.1, fun j w hj hw => ?_⟩
  by_cases hji : j = i
  · subst hji
    have hlt : j < lo.length := by
      have := (List.getElem?_eq_some_iff.mp hj).1
      rwa [List.length_set] at this
    rw [List.getElem?_set_self hlt] at hj
    cases hj
    exact h'.2.2 (j, am_v v) List.mem_cons_self
  · rw [List.getElem?_set_ne (Ne.symm hji)] at hj
    refine h'.2.2 (j, am_v w) (List.mem_cons_of_mem _ (List.mem_filter.mpr ⟨am_kl_mem hj hw, ?_⟩))
    simp [hji, am_v_cat]
theorem am_lo.at {ls : Array Slot} {lo : List am_V} {n i : Nat} {v : am_V} (h : am_lo ls lo n) (hl : lo[i]? = some v) (hv : v ≠ am_u) : ls[i]? = some (.val (am_v v)) := h.2.2.2 i v hl hv
-- the memory
def am_fv (M : am_M) (t a k : Nat) : Value := if am_ft t k = 2 then va_rf (am_mr M a k) else .int (am_mi M a k)
def am_ev (M : am_M) (t a k : Nat) : Value := if am_ak t = 3 then va_rf (am_mr M a k) else .int (am_mi M a k)
def am_cell (D : va_G) (s : State) (M : am_M) (H : Heap) (a t : Nat) : Prop :=
  if am_ak t = 0 then ∃ r : vw_C, am_cl[am_ci t]? = some r ∧ t_OB a (D.1 (am_ci t)) r.2.2 (D.2 (am_ci t)) H (am_fv M t a)
  else if am_ak t = 4 then ∃ scr : Cell, H[a]? = some scr ∧ s.isArrayOf scr .int ∧ scr.vm ≠ .unknown ∧ scr.slots.size = am_L M ∧ ∀ j : Nat, j < am_L M → scr.slots[j]? = some (.int (am_mi M a j))
  else ∃ cA : ClassId, H[a]? = some (arrV cA (am_ln t (am_L M)) (am_ev M t a)) ∧ ArrOfT s cA (am_ty t) ∧ va_RA s cA (am_ty t)
def am_wm (M : am_M) : Prop := ∀ (a k b : Nat), am_mr M a k = some b → am_tg M b = am_fr (am_tg M a) k ∧ am_tg M b ≠ 0
def am_Rep (D : va_G) (s : State) (base : Nat) (M : am_M) (H : Heap) : Prop := H.size = am_sz M ∧ base ≤ am_sz M ∧ (∀ a : Nat, am_tg M a ≠ 0 → (am_ak (am_tg M a) ≠ 4 → base ≤ a) ∧ am_cell D s M H a (am_tg M a)) ∧ am_wm M
def am_wv (M : am_M) (v : am_V) : Prop := ∀ (t a : Nat), v = .inr (.inl (t, some a)) → am_tg M a = t ∧ t ≠ 0
def am_wt (M : am_M) (l : List am_V) : Prop := ∀ v ∈ l, am_wv M v
theorem am_wv_i (M : am_M) (x : Int32) : am_wv M (.inl x) := fun t a h => by cases h
theorem am_wv_n (M : am_M) (t : Nat) : am_wv M (.inr (.inl (t, none))) := fun t a h => by cases h
theorem am_wv_u (M : am_M) : am_wv M (.inr (.inr ())) := fun t a h => by cases h
theorem am_wt_c {M : am_M} {v : am_V} {l : List am_V} (h1 : am_wv M v) (h2 : am_wt M l) : am_wt M (v :: l) := fun w hw => by
  rcases List.mem_cons.mp hw with h | h
  · rw [h]; exact h1
  · exact h2 w h
theorem am_wt_h {M : am_M} {v : am_V} {l : List am_V} (h : am_wt M (v :: l)) : am_wv M v := h v List.mem_cons_self
theorem am_wt_t {M : am_M} {v : am_V} {l : List am_V} (h : am_wt M (v :: l)) : am_wt M l := fun w hw => h w (List.mem_cons_of_mem _ hw)
theorem am_wt_at {M : am_M} {l : List am_V} {i : Nat} {v : am_V} (h : am_wt M l) (hl : l[i]? = some v) : am_wv M v := h v (List.mem_of_getElem? hl)
theorem am_wt_set {M : am_M} {l : List am_V} {i : Nat} {v : am_V} (h : am_wt M l) (hv : am_wv M v) : am_wt M (l.set i v) := fun w hw => by
  rcases List.mem_or_eq_of_mem_set hw with h1 | h1
  · exact h w h1
  · rw [h1]; exact hv
theorem am_wt_to {M M' : am_M} {l : List am_V} (ht : ∀ a : Nat, am_tg M a ≠ 0 → am_tg M' a = am_tg M a) (h : am_wt M l) : am_wt M' l := fun v hv t a e => by
  have h1 := h v hv t a e
  refine ⟨by rw [ht a (by rw [h1.1]; exact h1.2)]; exact h1.1, h1.2⟩
theorem am_cell_lt {D : va_G} {s : State} {M : am_M} {H : Heap} {a t : Nat} (h : am_cell D s M H a t) : a < H.size := by
  unfold am_cell at h
  split at h
  · obtain ⟨r, -, cell, h1, -⟩ := h
    exact (Array.getElem?_eq_some_iff.mp h1).1
  · split at h
    · obtain ⟨scr, h1, -⟩ := h
      exact (Array.getElem?_eq_some_iff.mp h1).1
    · obtain ⟨cA, h1, -⟩ := h
      exact (Array.getElem?_eq_some_iff.mp h1).1
theorem am_cell_other {D : va_G} {s : State} {M M' : am_M} {H H' : Heap} {a t : Nat} (hL : am_L M' = am_L M) (hi : ∀ k, am_mi M' a k = am_mi M a k) (hr : ∀ k, am_mr M' a k = am_mr M a k) (hq : H'[a]? = H[a]?) (h : am_cell D s M H a t) : am_cell D s M' H' a t := by
  have e1 : am_fv M' t a = am_fv M t a := by funext k; unfold am_fv; rw [hi, hr]
  have e2 : am_ev M' t a = am_ev M t a := by funext k; unfold am_ev; rw [hi, hr]
  unfold am_cell at h ⊢
  rw [e1, e2, hL]
  split
  · rename_i h0
    rw [if_pos h0] at h
    obtain ⟨r, h1, h2⟩ := h
    exact ⟨r, h1, h2.kept hq⟩
  · rename_i h0
    rw [if_neg h0] at h
    split
    · rename_i h4
      rw [if_pos h4] at h
      obtain ⟨scr, h1, h2, h3, h5, h6⟩ := h
      exact ⟨scr, by rw [hq]; exact h1, h2, h3, h5, fun j hj => by rw [hi]; exact h6 j hj⟩
    · rename_i h4
      rw [if_neg h4] at h
      obtain ⟨cA, h1, h2⟩ := h
      exact ⟨cA, by rw [hq]; exact h1, h2⟩
theorem am_cell_moved {D : va_G} {u U : State} {M : am_M} {H : Heap} {a t : Nat} (hvm : u.vm.Alike U.vm) (h : am_cell D u M H a t) : am_cell D U M H a t := by
  unfold am_cell at h ⊢
  split
  · rename_i h0
    rw [if_pos h0] at h
    exact h
  · rename_i h0
    rw [if_neg h0] at h
    split
    · rename_i h4
      rw [if_pos h4] at h
      obtain ⟨scr, h1, h2, h3⟩ := h
      exact ⟨scr, h1, State.isArrayOf_alike hvm h2, h3⟩
    · rename_i h4
      rw [if_neg h4] at h
      obtain ⟨cA, h1, h2, h3⟩ := h
      exact ⟨cA, h1, arrOfT_moved hvm h2, h3.moved hvm⟩
theorem am_Rep.moved {D : va_G} {u U : State} {base : Nat} {M : am_M} {H : Heap} (hvm : u.vm.Alike U.vm) (h : am_Rep D u base M H) : am_Rep D U base M H :=
  ⟨h.1, h.2.1, fun a ha => ⟨(h.2.2.1 a ha).1, am_cell_moved hvm (h.2.2.1 a ha).2⟩, h.2.2.2⟩
-- one cell has changed
theorem am_Rep.set {D : va_G} {s : State} {base : Nat} {M M' : am_M} {H H' : Heap} {a : Nat} (h : am_Rep D s base M H) (hz : H'.size = H.size) (oq : ∀ q : Nat, q ≠ a → H'[q]? = H[q]?) (h1 : am_sz M' = am_sz M) (hL : am_L M' = am_L M) (ht : am_tg M' = am_tg M) (hi : ∀ b, b ≠ a → ∀ k, am_mi M' b k = am_mi M b k) (hr : ∀ b, b ≠ a → ∀ k, am_mr M' b k = am_mr M b k) (hc : am_cell D s M' H' a (am_tg M a)) (hw : am_wm M') : am_Rep D s base M' H' := by
  refine ⟨by rw [hz, h1]; exact h.1, by rw [h1]; exact h.2.1, fun b hb => ?_, hw⟩
  rw [ht] at hb ⊢
  refine ⟨(h.2.2.1 b hb).1, ?_⟩
  by_cases hba : b = a
  · subst hba; exact hc
  · exact am_cell_other hL (hi b hba) (hr b hba) (oq b hba) (h.2.2.1 b hb).2
-- a cell has been made
theorem am_Rep.al {D : va_G} {s : State} {base : Nat} {M : am_M} {H H' : Heap} {t n : Nat} (h : am_Rep D s base M H) (h0 : t ≠ 0) (h4 : am_ak t ≠ 4) (hz : H'.size = H.size + 1) (oq : ∀ q : Nat, q < H.size → H'[q]? = H[q]?) (hc : am_cell D s (am_al M t n) H' H.size t) : am_Rep D s base (am_al M t n) H' := by
  have hs : am_sz (am_al M t n) = am_sz M + 1 := rfl
  have tgn : am_tg (am_al M t n) (am_sz M) = t := by simp [am_tg, am_al]
  have tgo : ∀ b, b ≠ am_sz M → am_tg (am_al M t n) b = am_tg M b := fun b hb => by simp [am_tg, am_al, hb]
  refine ⟨by rw [hz, hs, h.1], by rw [hs]; exact Nat.le_trans h.2.1 (Nat.le_succ _), fun b hb => ?_, fun a k b hab => ?_⟩
  · by_cases hbs : b = am_sz M
    · subst hbs
      rw [tgn]
      refine ⟨fun _ => h.2.1, ?_⟩
      rw [← h.1]; exact hc
    · rw [tgo b hbs] at hb ⊢
      have h2 := h.2.2.1 b hb
      refine ⟨h2.1, am_cell_other (M := M) (H := H) rfl (fun k => by simp [am_mi, am_al, hbs]) (fun k => by simp [am_mr, am_al, hbs]) (oq b (am_cell_lt h2.2)) h2.2⟩
  · have hne : a ≠ am_sz M := fun q => by
      subst q
      simp [am_mr, am_al] at hab
    have hab' : am_mr M a k = some b := by
      simpa [am_mr, am_al, hne] using hab
    have h2 := h.2.2.2 a k b hab'
    have hb : b ≠ am_sz M := fun q => by
      have h3 := am_cell_lt (h.2.2.1 b h2.2).2
      rw [h.1, q] at h3
      exact Nat.lt_irrefl _ h3
    rw [tgo b hb, tgo a hne]
    exact h2
theorem am_wm_si {M : am_M} {a k : Nat} {x : Int32} (h : am_wm M) : am_wm (am_si M a k x) := h
theorem am_wm_sr {M : am_M} {a k : Nat} {o : Option Nat} (h : am_wm M) (ho : ∀ b, o = some b → am_tg M b = am_fr (am_tg M a) k ∧ am_tg M b ≠ 0) : am_wm (am_sr M a k o) := by
  intro a' k' b hb
  show am_tg M b = am_fr (am_tg M a') k' ∧ am_tg M b ≠ 0
  by_cases hk : a' = a ∧ k' = k
  · obtain ⟨rfl, rfl⟩ := hk
    simp [am_mr, am_sr] at hb
    exact ho b hb
  · simp only [am_mr, am_sr, if_neg hk] at hb
    exact h a' k' b hb
theorem am_al_sz (M : am_M) (t n : Nat) : am_sz (am_al M t n) = am_sz M + 1 := rfl
theorem am_al_sl (M : am_M) (t n : Nat) : am_sl (am_al M t n) = am_sl M + n := rfl
theorem am_al_tg {D : va_G} {s : State} {base : Nat} {M : am_M} {H : Heap} (h : am_Rep D s base M H) (t n : Nat) : ∀ a : Nat, am_tg M a ≠ 0 → am_tg (am_al M t n) a = am_tg M a := fun a ha => by
  have hne : a ≠ am_sz M := fun q => by
    have h3 := am_cell_lt (h.2.2.1 a ha).2
    rw [h.1, q] at h3
    exact Nat.lt_irrefl _ h3
  simp [am_tg, am_al, hne]
theorem am_ok_in {j : Int32} {n : Nat} (h : am_ok j n = true) : ¬ (j < 0 ∨ n ≤ j.toNatClampNeg) := by
  unfold am_ok at h
  rw [Bool.and_eq_true, decide_eq_true_eq, decide_eq_true_eq] at h
  intro q
  rcases q with q | q
  · rw [Int32.lt_iff_toInt_lt] at q
    have : (0 : Int32).toInt = 0 := rfl
    omega
  · have : j.toNatClampNeg = j.toInt.toNat := rfl
    omega
theorem am_ok_lt {j : Int32} {n : Nat} (h : am_ok j n = true) : j.toNatClampNeg < n := Nat.not_le.mp fun q => am_ok_in h (Or.inr q)
-- the classes' numbers, and the nest mates' links
def am_K (D : va_G) (U : State) : Prop := va_K D am_cl [] U ∧ (∀ q ∈ am_nw, va_Nw (.methodLinkNest q.1 q.2.1 q.2.2.1 q.2.2.2) U) ∧ va_AO am_C1 U
theorem am_K.moved {D : va_G} {s U : State} (hW : s.WarmedH U.vm) (h : am_K D s) : am_K D U := ⟨va_K.moved hW.alike h.1, fun q hq => va_Nw.warmM hW (h.2.1 q hq), va_AO.moved hW.alike h.2.2⟩
theorem am_K.calling {D : va_G} {U : State} {g : JFrame} {mk : MethodId} {a : Array Value} (h : am_K D U) : am_K D (U.calling g mk a) := ⟨va_K.moved (u := U) (U := U.calling g mk a) (Vm.Alike.refl U.vm) h.1, fun q hq => va_Nw.same (u := U) (U := U.calling g mk a) rfl rfl (h.2.1 q hq), va_AO.moved (u := U) (U := U.calling g mk a) (Vm.Alike.refl U.vm) h.2.2⟩
-- what holds at a method's body
def am_At (p : Program) (s : State) (m : MethodId) (args : Array Value) (meth : Method) (c : Code) (D : va_G) (y : Nat) : Prop :=
  p.tables.exec = Jvm.exec ∧ c.code = am_cd y ∧ c.maxLocals = am_mx y ∧ s.vm.findClass (am_nm y).cls = some m.cls ∧ (∀ w ∈ am_ws, w.before args s = true) ∧ ((am_nm y).name = "<init>" → meth.name = "<init>") ∧ am_K D s
def am_Ok (p : Program) (l : Launch) (e : Env) (R : Room) (s : State) (m : MethodId) (args : Array Value) (below : List Frame) (meth : Method) (c : Code) (Q : State → Prop) (D : va_G) (base y pc : Nat) (lo st : List am_V) (M : am_M) (cells slots : Nat) : Prop :=
  ∀ (H : Heap) (locs : List Loc) (ls : Array Slot), am_Rep D s base M H → am_lo ls lo (am_mx y) → am_wt M lo → am_wt M st → (∀ q ∈ locs, base ≤ q.base) → W p l e R s m args below meth c H locs cells slots Q (F0 m pc ls (st.map am_v))
end SND1

section SND2
variable {p : Program} {l : Launch} {e : Env} {R : Room} {s : State} {m : MethodId} {args : Array Value} {below : List Frame} {meth : Method} {c : Code} {H : Heap} {locs : List Loc} {cells slots : Nat} {Q : State → Prop} {D : va_G} {base y pc : Nat} {lo st : List am_V} {M : am_M}
theorem am_s1 (C : am_At p s m args meth c D y) {k4 : Fin 4} {v : Int32} (hd : decode (am_cd y) pc = .ok (.iload_n k4, 1)) (hl : lo[(k4 : Nat)]? = some (.inl v)) (k : am_Ok p l e R s m args below meth c Q D base y (pc + 1) lo (.inl v :: st) M cells slots) : am_Ok p l e R s m args below meth c Q D base y pc lo st M cells slots := by
  intro H locs ls hR hL hwl hws hf
  exact lv_iload_n C.1 C.2.1 hd rfl (hL.at hl (by simp)) (k H locs ls hR hL hwl (am_wt_c (am_wv_i M v) hws) hf)
theorem am_s2 (C : am_At p s m args meth c D y) {x : Nat} {v : Int32} (hd : decode (am_cd y) pc = .ok (.iload x, 2)) (hl : lo[x]? = some (.inl v)) (k : am_Ok p l e R s m args below meth c Q D base y (pc + 2) lo (.inl v :: st) M cells slots) : am_Ok p l e R s m args below meth c Q D base y pc lo st M cells slots := by
  intro H locs ls hR hL hwl hws hf
  exact lv_iload C.1 C.2.1 hd (hL.at hl (by simp)) (k H locs ls hR hL hwl (am_wt_c (am_wv_i M v) hws) hf)
theorem am_s3 (C : am_At p s m args meth c D y) {k4 : Fin 4} {q : Nat × Option Nat} (hd : decode (am_cd y) pc = .ok (.aload_n k4, 1)) (hl : lo[(k4 : Nat)]? = some (.inr (.inl q))) (k : am_Ok p l e R s m args below meth c Q D base y (pc + 1) lo (.inr (.inl q) :: st) M cells slots) : am_Ok p l e R s m args below meth c Q D base y pc lo st M cells slots := by
  intro H locs ls hR hL hwl hws hf
  have h1 := hL.at hl (by simp)
  have h2 := k H locs ls hR hL hwl (am_wt_c (am_wt_at hwl hl) hws) hf
  obtain ⟨t, o⟩ := q
  cases o with
  | none => exact lv_aload_nN C.1 C.2.1 hd rfl h1 h2
  | some a => exact lv_aload_n C.1 C.2.1 hd rfl h1 h2
theorem am_s4 (C : am_At p s m args meth c D y) {x : Nat} {q : Nat × Option Nat} (hd : decode (am_cd y) pc = .ok (.aload x, 2)) (hl : lo[x]? = some (.inr (.inl q))) (k : am_Ok p l e R s m args below meth c Q D base y (pc + 2) lo (.inr (.inl q) :: st) M cells slots) : am_Ok p l e R s m args below meth c Q D base y pc lo st M cells slots := by
  intro H locs ls hR hL hwl hws hf
  have h1 := hL.at hl (by simp)
  have h2 := k H locs ls hR hL hwl (am_wt_c (am_wt_at hwl hl) hws) hf
  obtain ⟨t, o⟩ := q
  cases o with
  | none => exact lv_aloadN C.1 C.2.1 hd h1 h2
  | some a => exact lv_aload C.1 C.2.1 hd h1 h2
theorem am_s5 (C : am_At p s m args meth c D y) {k4 : Fin 4} {v : Int32} (hd : decode (am_cd y) pc = .ok (.istore_n k4, 1)) (hx : (k4 : Nat) < lo.length) (k : am_Ok p l e R s m args below meth c Q D base y (pc + 1) (lo.set (k4 : Nat) (.inl v)) st M cells slots) : am_Ok p l e R s m args below meth c Q D base y pc lo (.inl v :: st) M cells slots := by
  intro H locs ls hR hL hwl hws hf
  exact lv_istore_n C.1 C.2.1 hd rfl hL.has (by rw [← hL.2.2.1]; exact hx) rfl (fun ls' h' => k H locs ls' hR (hL.set (v := .inl v) h') (am_wt_set hwl (am_wv_i M v)) (am_wt_t hws) hf)
theorem am_s6 (C : am_At p s m args meth c D y) {x : Nat} {v : Int32} (hd : decode (am_cd y) pc = .ok (.istore x, 2)) (hx : x < lo.length) (k : am_Ok p l e R s m args below meth c Q D base y (pc + 2) (lo.set x (.inl v)) st M cells slots) : am_Ok p l e R s m args below meth c Q D base y pc lo (.inl v :: st) M cells slots := by
  intro H locs ls hR hL hwl hws hf
  exact lv_istore C.1 C.2.1 hd hL.has (by rw [← hL.2.2.1]; exact hx) rfl (fun ls' h' => k H locs ls' hR (hL.set (v := .inl v) h') (am_wt_set hwl (am_wv_i M v)) (am_wt_t hws) hf)
theorem am_s7 (C : am_At p s m args meth c D y) {k4 : Fin 4} {q : Nat × Option Nat} (hd : decode (am_cd y) pc = .ok (.astore_n k4, 1)) (hx : (k4 : Nat) < lo.length) (k : am_Ok p l e R s m args below meth c Q D base y (pc + 1) (lo.set (k4 : Nat) (.inr (.inl q))) st M cells slots) : am_Ok p l e R s m args below meth c Q D base y pc lo (.inr (.inl q) :: st) M cells slots := by
  intro H locs ls hR hL hwl hws hf
  obtain ⟨t, o⟩ := q
  cases o with
  | none => exact lv_astore_nN C.1 C.2.1 hd rfl hL.has (by rw [← hL.2.2.1]; exact hx) rfl (fun ls' h' => k H locs ls' hR (hL.set (v := .inr (.inl (t, none))) h') (am_wt_set hwl (am_wt_h hws)) (am_wt_t hws) hf)
  | some a => exact lv_astore_n C.1 C.2.1 hd rfl hL.has (by rw [← hL.2.2.1]; exact hx) rfl (fun ls' h' => k H locs ls' hR (hL.set (v := .inr (.inl (t, some a))) h') (am_wt_set hwl (am_wt_h hws)) (am_wt_t hws) hf)
theorem am_s8 (C : am_At p s m args meth c D y) {x : Nat} {q : Nat × Option Nat} (hd : decode (am_cd y) pc = .ok (.astore x, 2)) (hx : x < lo.length) (k : am_Ok p l e R s m args below meth c Q D base y (pc + 2) (lo.set x (.inr (.inl q))) st M cells slots) : am_Ok p l e R s m args below meth c Q D base y pc lo (.inr (.inl q) :: st) M cells slots := by
  intro H locs ls hR hL hwl hws hf
  obtain ⟨t, o⟩ := q
  cases o with
  | none => exact lv_astoreN C.1 C.2.1 hd hL.has (by rw [← hL.2.2.1]; exact hx) rfl (fun ls' h' => k H locs ls' hR (hL.set (v := .inr (.inl (t, none))) h') (am_wt_set hwl (am_wt_h hws)) (am_wt_t hws) hf)
  | some a => exact lv_astore C.1 C.2.1 hd hL.has (by rw [← hL.2.2.1]; exact hx) rfl (fun ls' h' => k H locs ls' hR (hL.set (v := .inr (.inl (t, some a))) h') (am_wt_set hwl (am_wt_h hws)) (am_wt_t hws) hf)
theorem am_s9 (C : am_At p s m args meth c D y) {x : Nat} {d : Int} {v : Int32} (hd : decode (am_cd y) pc = .ok (.iinc x d, 3)) (hl : lo[x]? = some (.inl v)) (k : am_Ok p l e R s m args below meth c Q D base y (pc + 3) (lo.set x (.inl (v + Int32.ofInt d))) st M cells slots) : am_Ok p l e R s m args below meth c Q D base y pc lo st M cells slots := by
  intro H locs ls hR hL hwl hws hf
  obtain ⟨j, hj⟩ := List.getElem?_of_mem (am_kl_mem hl (by simp))
  exact lv_iinc C.1 C.2.1 hd hL.has hj rfl (by rw [← hL.2.2.1]; exact (List.getElem?_eq_some_iff.mp hl).1) rfl (fun ls' h' => k H locs ls' hR (hL.set (v := .inl (v + Int32.ofInt d)) h') (am_wt_set hwl (am_wv_i M _)) hws hf)
theorem am_s10 (C : am_At p s m args meth c D y) {d : Int} (hd : decode (am_cd y) pc = .ok (.iconst d, 1)) (k : am_Ok p l e R s m args below meth c Q D base y (pc + 1) lo (.inl (Int32.ofInt d) :: st) M cells slots) : am_Ok p l e R s m args below meth c Q D base y pc lo st M cells slots := by
  intro H locs ls hR hL hwl hws hf
  exact lv_iconst C.1 C.2.1 hd rfl (k H locs ls hR hL hwl (am_wt_c (am_wv_i M _) hws) hf)
theorem am_s11 (C : am_At p s m args meth c D y) {d : Int} (hd : decode (am_cd y) pc = .ok (.bipush d, 2)) (k : am_Ok p l e R s m args below meth c Q D base y (pc + 2) lo (.inl (Int8.ofInt d).toInt32 :: st) M cells slots) : am_Ok p l e R s m args below meth c Q D base y pc lo st M cells slots := by
  intro H locs ls hR hL hwl hws hf
  exact lv_bipush C.1 C.2.1 hd rfl (k H locs ls hR hL hwl (am_wt_c (am_wv_i M _) hws) hf)
theorem am_s13 (C : am_At p s m args meth c D y) {v w : Int32} (hd : decode (am_cd y) pc = .ok (.iadd, 1)) (k : am_Ok p l e R s m args below meth c Q D base y (pc + 1) lo (.inl (v + w) :: st) M cells slots) : am_Ok p l e R s m args below meth c Q D base y pc lo (.inl w :: .inl v :: st) M cells slots := by
  intro H locs ls hR hL hwl hws hf
  exact lv_iadd C.1 C.2.1 hd (k H locs ls hR hL hwl (am_wt_c (am_wv_i M _) (am_wt_t (am_wt_t hws))) hf)
theorem am_s14 (C : am_At p s m args meth c D y) {v w : Int32} (hd : decode (am_cd y) pc = .ok (.isub, 1)) (k : am_Ok p l e R s m args below meth c Q D base y (pc + 1) lo (.inl (v - w) :: st) M cells slots) : am_Ok p l e R s m args below meth c Q D base y pc lo (.inl w :: .inl v :: st) M cells slots := by
  intro H locs ls hR hL hwl hws hf
  exact lv_isub C.1 C.2.1 hd (k H locs ls hR hL hwl (am_wt_c (am_wv_i M _) (am_wt_t (am_wt_t hws))) hf)
theorem am_s15 (C : am_At p s m args meth c D y) {v w : Int32} (hd : decode (am_cd y) pc = .ok (.imul, 1)) (k : am_Ok p l e R s m args below meth c Q D base y (pc + 1) lo (.inl (v * w) :: st) M cells slots) : am_Ok p l e R s m args below meth c Q D base y pc lo (.inl w :: .inl v :: st) M cells slots := by
  intro H locs ls hR hL hwl hws hf
  exact lv_imul C.1 C.2.1 hd (k H locs ls hR hL hwl (am_wt_c (am_wv_i M _) (am_wt_t (am_wt_t hws))) hf)
theorem am_s16 (C : am_At p s m args meth c D y) {v w : Int32} (hd : decode (am_cd y) pc = .ok (.irem, 1)) (hne : ¬ w = 0) (k : am_Ok p l e R s m args below meth c Q D base y (pc + 1) lo (.inl (v - v / w * w) :: st) M cells slots) : am_Ok p l e R s m args below meth c Q D base y pc lo (.inl w :: .inl v :: st) M cells slots := by
  intro H locs ls hR hL hwl hws hf
  exact lv_irem C.1 C.2.1 hd hne (k H locs ls hR hL hwl (am_wt_c (am_wv_i M _) (am_wt_t (am_wt_t hws))) hf)
theorem am_s17 (C : am_At p s m args meth c D y) {v w : Int32} (hd : decode (am_cd y) pc = .ok (.iand, 1)) (k : am_Ok p l e R s m args below meth c Q D base y (pc + 1) lo (.inl (v &&& w) :: st) M cells slots) : am_Ok p l e R s m args below meth c Q D base y pc lo (.inl w :: .inl v :: st) M cells slots := by
  intro H locs ls hR hL hwl hws hf
  exact lv_iand C.1 C.2.1 hd (k H locs ls hR hL hwl (am_wt_c (am_wv_i M _) (am_wt_t (am_wt_t hws))) hf)
theorem am_s18 (C : am_At p s m args meth c D y) {v w : Int32} (hd : decode (am_cd y) pc = .ok (.ixor, 1)) (k : am_Ok p l e R s m args below meth c Q D base y (pc + 1) lo (.inl (v ^^^ w) :: st) M cells slots) : am_Ok p l e R s m args below meth c Q D base y pc lo (.inl w :: .inl v :: st) M cells slots := by
  intro H locs ls hR hL hwl hws hf
  exact lv_ixor C.1 C.2.1 hd (k H locs ls hR hL hwl (am_wt_c (am_wv_i M _) (am_wt_t (am_wt_t hws))) hf)
theorem am_s19 (C : am_At p s m args meth c D y) {v w : Int32} (hd : decode (am_cd y) pc = .ok (.ishl, 1)) (k : am_Ok p l e R s m args below meth c Q D base y (pc + 1) lo (.inl (v <<< (w &&& 31)) :: st) M cells slots) : am_Ok p l e R s m args below meth c Q D base y pc lo (.inl w :: .inl v :: st) M cells slots := by
  intro H locs ls hR hL hwl hws hf
  exact lv_ishl C.1 C.2.1 hd (k H locs ls hR hL hwl (am_wt_c (am_wv_i M _) (am_wt_t (am_wt_t hws))) hf)
theorem am_s20 (C : am_At p s m args meth c D y) {v w : Int32} (hd : decode (am_cd y) pc = .ok (.ishr, 1)) (k : am_Ok p l e R s m args below meth c Q D base y (pc + 1) lo (.inl (v >>> (w &&& 31)) :: st) M cells slots) : am_Ok p l e R s m args below meth c Q D base y pc lo (.inl w :: .inl v :: st) M cells slots := by
  intro H locs ls hR hL hwl hws hf
  exact lv_ishr C.1 C.2.1 hd (k H locs ls hR hL hwl (am_wt_c (am_wv_i M _) (am_wt_t (am_wt_t hws))) hf)
theorem am_s21 (C : am_At p s m args meth c D y) {v : am_V} (hd : decode (am_cd y) pc = .ok (.dup, 1)) (k : am_Ok p l e R s m args below meth c Q D base y (pc + 1) lo (v :: v :: st) M cells slots) : am_Ok p l e R s m args below meth c Q D base y pc lo (v :: st) M cells slots := by
  intro H locs ls hR hL hwl hws hf
  exact lv_dup C.1 C.2.1 hd (am_v_cat v) (k H locs ls hR hL hwl (am_wt_c (am_wt_h hws) hws) hf)
theorem am_s22 (C : am_At p s m args meth c D y) {v w : am_V} (hd : decode (am_cd y) pc = .ok (.dup2, 1)) (k : am_Ok p l e R s m args below meth c Q D base y (pc + 1) lo (v :: w :: v :: w :: st) M cells slots) : am_Ok p l e R s m args below meth c Q D base y pc lo (v :: w :: st) M cells slots := by
  intro H locs ls hR hL hwl hws hf
  exact lv_dup2_11 C.1 C.2.1 hd (am_v_cat v) (am_v_cat w) (k H locs ls hR hL hwl (am_wt_c (am_wt_h hws) (am_wt_c (am_wt_h (am_wt_t hws)) hws)) hf)
theorem am_s24 (C : am_At p s m args meth c D y) {x : Nat} (hd : decode (am_cd y) pc = .ok (.goto ((x : Int) - (pc : Int)), 3)) (k : am_Ok p l e R s m args below meth c Q D base y x lo st M cells slots) : am_Ok p l e R s m args below meth c Q D base y pc lo st M cells slots := by
  intro H locs ls hR hL hwl hws hf
  exact lv_goto (tgt := x) C.1 C.2.1 hd (by omega) (k H locs ls hR hL hwl hws hf)
theorem am_lt_le {x y : Int32} : ¬ x < y ↔ y ≤ x := Int32.not_lt

theorem am_s25 (C : am_At p s m args meth c D y) {x kc : Nat} {v w : Int32} (hd : decode (am_cd y) pc = .ok (.ifCond (am_cd6 kc) ((x : Int) - (pc : Int)), 3)) (k : am_br kc v 0 (am_Ok p l e R s m args below meth c Q D base y x lo st M cells slots) (am_Ok p l e R s m args below meth c Q D base y (pc + 3) lo st M cells slots)) : am_Ok p l e R s m args below meth c Q D base y pc lo (.inl v :: st) M cells slots := by
  intro H locs ls hR hL hwl hws hf
  have go : ∀ {pc' : Nat}, am_Ok p l e R s m args below meth c Q D base y pc' lo st M cells slots → W p l e R s m args below meth c H locs cells slots Q (F0 m pc' ls (st.map am_v)) := fun h => h H locs ls hR hL hwl (am_wt_t hws) hf
  have ht : (pc : Int) + ((x : Int) - (pc : Int)) = (x : Int) := by omega
  match kc, hd, k with
  | 0, hd, k => exact lv_if_eq C.1 C.2.1 hd ht (fun h => go (by rw [am_br, if_pos h] at k; exact k)) (fun h => go (by rw [am_br, if_neg h] at k; exact k))
  | 1, hd, k => exact lv_if_ne C.1 C.2.1 hd ht (fun h => go (by rw [am_br, if_neg h] at k; exact k)) (fun h => go (by rw [am_br, if_pos h] at k; exact k))
  | 2, hd, k => exact lv_if_lt C.1 C.2.1 hd ht (fun h => go (by rw [am_br, if_pos h] at k; exact k)) (fun h => go (by rw [am_br, if_neg h] at k; exact k))
  | 3, hd, k => exact lv_if_ge C.1 C.2.1 hd ht (fun h => go (by rw [am_br, if_neg (am_lt_le.mpr h)] at k; exact k)) (fun h => go (by rw [am_br, if_pos (Int32.not_le.mp h)] at k; exact k))
  | 4, hd, k => exact lv_if_gt C.1 C.2.1 hd ht (fun h => go (by rw [am_br, if_pos h] at k; exact k)) (fun h => go (by rw [am_br, if_neg h] at k; exact k))
  | kc + 5, hd, k =>
    have k3 : (if 0 < v then (am_Ok p l e R s m args below meth c Q D base y (pc + 3) lo st M cells slots) else (am_Ok p l e R s m args below meth c Q D base y x lo st M cells slots)) := k
    exact lv_if_le C.1 C.2.1 hd ht (fun h => go (by rw [if_neg (am_lt_le.mpr h)] at k3; exact k3)) (fun h => go (by rw [if_pos (Int32.not_le.mp h)] at k3; exact k3))
theorem am_s26 (C : am_At p s m args meth c D y) {x kc : Nat} {v w : Int32} (hd : decode (am_cd y) pc = .ok (.if_icmp (am_cd6 kc) ((x : Int) - (pc : Int)), 3)) (k : am_br kc v w (am_Ok p l e R s m args below meth c Q D base y x lo st M cells slots) (am_Ok p l e R s m args below meth c Q D base y (pc + 3) lo st M cells slots)) : am_Ok p l e R s m args below meth c Q D base y pc lo (.inl w :: .inl v :: st) M cells slots := by
  intro H locs ls hR hL hwl hws hf
  have go : ∀ {pc' : Nat}, am_Ok p l e R s m args below meth c Q D base y pc' lo st M cells slots → W p l e R s m args below meth c H locs cells slots Q (F0 m pc' ls (st.map am_v)) := fun h => h H locs ls hR hL hwl (am_wt_t (am_wt_t hws)) hf
  have ht : (pc : Int) + ((x : Int) - (pc : Int)) = (x : Int) := by omega
  match kc, hd, k with
  | 0, hd, k => exact lv_icmp_eq C.1 C.2.1 hd ht (fun h => go (by rw [am_br, if_pos h] at k; exact k)) (fun h => go (by rw [am_br, if_neg h] at k; exact k))
  | 1, hd, k => exact lv_icmp_ne C.1 C.2.1 hd ht (fun h => go (by rw [am_br, if_neg h] at k; exact k)) (fun h => go (by rw [am_br, if_pos h] at k; exact k))
  | 2, hd, k => exact lv_icmp_lt C.1 C.2.1 hd ht (fun h => go (by rw [am_br, if_pos h] at k; exact k)) (fun h => go (by rw [am_br, if_neg h] at k; exact k))
  | 3, hd, k => exact lv_icmp_ge C.1 C.2.1 hd ht (fun h => go (by rw [am_br, if_neg (am_lt_le.mpr h)] at k; exact k)) (fun h => go (by rw [am_br, if_pos (Int32.not_le.mp h)] at k; exact k))
  | 4, hd, k => exact lv_icmp_gt C.1 C.2.1 hd ht (fun h => go (by rw [am_br, if_pos h] at k; exact k)) (fun h => go (by rw [am_br, if_neg h] at k; exact k))
  | kc + 5, hd, k =>
    have k3 : (if w < v then (am_Ok p l e R s m args below meth c Q D base y (pc + 3) lo st M cells slots) else (am_Ok p l e R s m args below meth c Q D base y x lo st M cells slots)) := k
    exact lv_icmp_le C.1 C.2.1 hd ht (fun h => go (by rw [if_neg (am_lt_le.mpr h)] at k3; exact k3)) (fun h => go (by rw [if_pos (Int32.not_le.mp h)] at k3; exact k3))
theorem am_s27 (C : am_At p s m args meth c D y) {x : Nat} {q1 q2 : Nat × Option Nat} (hd : decode (am_cd y) pc = .ok (.if_acmp .eq ((x : Int) - (pc : Int)), 3)) (k1 : q1.2 = q2.2 → am_Ok p l e R s m args below meth c Q D base y x lo st M cells slots) (k2 : ¬ q1.2 = q2.2 → am_Ok p l e R s m args below meth c Q D base y (pc + 3) lo st M cells slots) : am_Ok p l e R s m args below meth c Q D base y pc lo (.inr (.inl q2) :: .inr (.inl q1) :: st) M cells slots := by
  intro H locs ls hR hL hwl hws hf
  have go : ∀ {pc' : Nat}, am_Ok p l e R s m args below meth c Q D base y pc' lo st M cells slots → W p l e R s m args below meth c H locs cells slots Q (F0 m pc' ls (st.map am_v)) := fun h => h H locs ls hR hL hwl (am_wt_t (am_wt_t hws)) hf
  exact lv_acmp_eq (tgt := x) C.1 C.2.1 hd (by omega) (fun h => go (k1 h)) (fun h => go (k2 h))
theorem am_s28 (C : am_At p s m args meth c D y) {x : Nat} {q1 q2 : Nat × Option Nat} (hd : decode (am_cd y) pc = .ok (.if_acmp .ne ((x : Int) - (pc : Int)), 3)) (k1 : q1.2 = q2.2 → am_Ok p l e R s m args below meth c Q D base y (pc + 3) lo st M cells slots) (k2 : ¬ q1.2 = q2.2 → am_Ok p l e R s m args below meth c Q D base y x lo st M cells slots) : am_Ok p l e R s m args below meth c Q D base y pc lo (.inr (.inl q2) :: .inr (.inl q1) :: st) M cells slots := by
  intro H locs ls hR hL hwl hws hf
  have go : ∀ {pc' : Nat}, am_Ok p l e R s m args below meth c Q D base y pc' lo st M cells slots → W p l e R s m args below meth c H locs cells slots Q (F0 m pc' ls (st.map am_v)) := fun h => h H locs ls hR hL hwl (am_wt_t (am_wt_t hws)) hf
  exact lv_acmp_ne (tgt := x) C.1 C.2.1 hd (by omega) (fun h => go (k2 h)) (fun h => go (k1 h))
theorem am_s29 (C : am_At p s m args meth c D y) {x : Nat} {q : Nat × Option Nat} (hd : decode (am_cd y) pc = .ok (.ifnull ((x : Int) - (pc : Int)), 3)) (k1 : q.2 = none → am_Ok p l e R s m args below meth c Q D base y x lo st M cells slots) (k2 : ¬ q.2 = none → am_Ok p l e R s m args below meth c Q D base y (pc + 3) lo st M cells slots) : am_Ok p l e R s m args below meth c Q D base y pc lo (.inr (.inl q) :: st) M cells slots := by
  intro H locs ls hR hL hwl hws hf
  have go : ∀ {pc' : Nat}, am_Ok p l e R s m args below meth c Q D base y pc' lo st M cells slots → W p l e R s m args below meth c H locs cells slots Q (F0 m pc' ls (st.map am_v)) := fun h => h H locs ls hR hL hwl (am_wt_t hws) hf
  obtain ⟨t, o⟩ := q
  cases o with
  | none => exact lv_ifnullN (tgt := x) C.1 C.2.1 hd (by omega) (go (k1 rfl))
  | some a => exact lv_ifnull C.1 C.2.1 hd (go (k2 (by simp)))
theorem am_s30 (C : am_At p s m args meth c D y) {x : Nat} {q : Nat × Option Nat} (hd : decode (am_cd y) pc = .ok (.ifnonnull ((x : Int) - (pc : Int)), 3)) (k1 : q.2 = none → am_Ok p l e R s m args below meth c Q D base y (pc + 3) lo st M cells slots) (k2 : ¬ q.2 = none → am_Ok p l e R s m args below meth c Q D base y x lo st M cells slots) : am_Ok p l e R s m args below meth c Q D base y pc lo (.inr (.inl q) :: st) M cells slots := by
  intro H locs ls hR hL hwl hws hf
  have go : ∀ {pc' : Nat}, am_Ok p l e R s m args below meth c Q D base y pc' lo st M cells slots → W p l e R s m args below meth c H locs cells slots Q (F0 m pc' ls (st.map am_v)) := fun h => h H locs ls hR hL hwl (am_wt_t hws) hf
  obtain ⟨t, o⟩ := q
  cases o with
  | none => exact lv_ifnonnullN C.1 C.2.1 hd (go (k1 rfl))
  | some a => exact lv_ifnonnull (tgt := x) C.1 C.2.1 hd (by omega) (go (k2 (by simp)))
theorem am_s31 (C : am_At p s m args meth c D y) {x : Nat} (hd : decode (am_cd y) pc = .ok (.aconst_null, 1)) (k : am_Ok p l e R s m args below meth c Q D base y (pc + 1) lo (.inr (.inl (x, none)) :: st) M cells slots) : am_Ok p l e R s m args below meth c Q D base y pc lo st M cells slots := by
  intro H locs ls hR hL hwl hws hf
  exact lv_null C.1 C.2.1 hd (k H locs ls hR hL hwl (am_wt_c (am_wv_n M x) hws) hf)
theorem am_arr {D : va_G} {s : State} {base : Nat} {M : am_M} {H : Heap} {t a : Nat} (hR : am_Rep D s base M H) (hv : am_wv M (.inr (.inl (t, some a)))) (h0 : am_ak t ≠ 0) (h4 : am_ak t ≠ 4) : base ≤ a ∧ am_tg M a = t ∧ ∃ cA : ClassId, H[a]? = some (arrV cA (am_ln t (am_L M)) (am_ev M t a)) ∧ ArrOfT s cA (am_ty t) ∧ va_RA s cA (am_ty t) := by
  have h1 := hv t a rfl
  have h2 := hR.2.2.1 a (by rw [h1.1]; exact h1.2)
  rw [h1.1] at h2
  refine ⟨h2.1 h4, h1.1, ?_⟩
  have h3 := h2.2
  unfold am_cell at h3
  rw [if_neg h0, if_neg h4] at h3
  exact h3
theorem am_scr {D : va_G} {s : State} {base : Nat} {M : am_M} {H : Heap} {t a : Nat} (hR : am_Rep D s base M H) (hv : am_wv M (.inr (.inl (t, some a)))) (h4 : am_ak t = 4) : ∃ scr : Cell, H[a]? = some scr ∧ s.isArrayOf scr .int ∧ scr.vm ≠ .unknown ∧ scr.slots.size = am_L M ∧ ∀ j : Nat, j < am_L M → scr.slots[j]? = some (.int (am_mi M a j)) := by
  have h1 := hv t a rfl
  have h2 := hR.2.2.1 a (by rw [h1.1]; exact h1.2)
  rw [h1.1] at h2
  have h3 := h2.2
  unfold am_cell at h3
  rw [if_neg (by rw [h4]; decide), if_pos h4] at h3
  exact h3
theorem am_obj {D : va_G} {s : State} {base : Nat} {M : am_M} {H : Heap} {t a : Nat} (hR : am_Rep D s base M H) (hv : am_wv M (.inr (.inl (t, some a)))) (h0 : am_ak t = 0) : base ≤ a ∧ am_tg M a = t ∧ ∃ r : vw_C, am_cl[am_ci t]? = some r ∧ t_OB a (D.1 (am_ci t)) r.2.2 (D.2 (am_ci t)) H (am_fv M t a) := by
  have h1 := hv t a rfl
  have h2 := hR.2.2.1 a (by rw [h1.1]; exact h1.2)
  rw [h1.1] at h2
  refine ⟨h2.1 (by rw [h0]; decide), h1.1, ?_⟩
  have h3 := h2.2
  unfold am_cell at h3
  rw [if_pos h0] at h3
  exact h3
theorem am_s32 (C : am_At p s m args meth c D y) {t a : Nat} (hd : decode (am_cd y) pc = .ok (.arraylength, 1)) (h0 : am_ak t ≠ 0) (k : am_Ok p l e R s m args below meth c Q D base y (pc + 1) lo (.inl (nI (am_ln t (am_L M))) :: st) M cells slots) : am_Ok p l e R s m args below meth c Q D base y pc lo (.inr (.inl (t, some a)) :: st) M cells slots := by
  intro H locs ls hR hL hwl hws hf
  have h2 := k H locs ls hR hL hwl (am_wt_c (am_wv_i M _) (am_wt_t hws)) hf
  by_cases h4 : am_ak t = 4
  · obtain ⟨scr, g1, g2, g3, g4, g5⟩ := am_scr hR (am_wt_h hws) h4
    exact W.alen C.1 C.2.1 g1 g2 (by rw [g4, am_ln4 h4]; rfl) rfl rfl hd h2
  · obtain ⟨-, -, cA, g1, g2, g3⟩ := am_arr hR (am_wt_h hws) h0 h4
    exact W.alen C.1 C.2.1 g1 (g2 _ _) (by rw [arrV_size]; rfl) rfl rfl hd h2
theorem am_s33 (C : am_At p s m args meth c D y) {t a : Nat} {j : Int32} (hd : decode (am_cd y) pc = .ok (.iaload, 1)) (ht : am_ak t = 1 ∨ am_ak t = 4) (hj : am_ok j (am_ln t (am_L M)) = true) (k : am_Ok p l e R s m args below meth c Q D base y (pc + 1) lo (.inl (am_mi M a j.toNatClampNeg) :: st) M cells slots) : am_Ok p l e R s m args below meth c Q D base y pc lo (.inl j :: .inr (.inl (t, some a)) :: st) M cells slots := by
  intro H locs ls hR hL hwl hws hf
  have h2 := k H locs ls hR hL hwl (am_wt_c (am_wv_i M _) (am_wt_t (am_wt_t hws))) hf
  rcases ht with h1 | h4
  · obtain ⟨-, -, cA, g1, g2, g3⟩ := am_arr hR (am_wt_h (am_wt_t hws)) (by rw [h1]; decide) (by rw [h1]; decide)
    rw [am_ty1 h1] at g2
    exact W.iald (v := .int (am_mi M a j.toNatClampNeg)) C.1 C.2.1 g1 (g2 _ _) (fun q => by cases q) (by rw [arrV_size]; exact am_ok_in hj) (by rw [arrV_read _ _ (am_ok_lt hj)]; simp [am_ev, h1]) rfl rfl hd h2
  · obtain ⟨scr, g1, g2, g3, g4, g5⟩ := am_scr hR (am_wt_h (am_wt_t hws)) h4
    rw [am_ln4 h4] at hj
    exact W.iald (v := .int (am_mi M a j.toNatClampNeg)) C.1 C.2.1 g1 g2 g3 (by rw [g4]; exact am_ok_in hj) (g5 _ (am_ok_lt hj)) rfl rfl hd h2
theorem am_s35 (C : am_At p s m args meth c D y) {t a : Nat} {j : Int32} (hd : decode (am_cd y) pc = .ok (.baload, 1)) (ht : am_ak t = 2) (hj : am_ok j (am_ln t (am_L M)) = true) (k : am_Ok p l e R s m args below meth c Q D base y (pc + 1) lo (.inl (am_mi M a j.toNatClampNeg) :: st) M cells slots) : am_Ok p l e R s m args below meth c Q D base y pc lo (.inl j :: .inr (.inl (t, some a)) :: st) M cells slots := by
  intro H locs ls hR hL hwl hws hf
  have h2 := k H locs ls hR hL hwl (am_wt_c (am_wv_i M _) (am_wt_t (am_wt_t hws))) hf
  obtain ⟨-, -, cA, g1, g2, g3⟩ := am_arr hR (am_wt_h (am_wt_t hws)) (by rw [ht]; decide) (by rw [ht]; decide)
  rw [am_ty2 ht] at g2
  exact W.zald (v := .int (am_mi M a j.toNatClampNeg)) C.1 C.2.1 g1 (g2 _ _) (fun q => by cases q) (by rw [arrV_size]; exact am_ok_in hj) (by rw [arrV_read _ _ (am_ok_lt hj)]; simp [am_ev, ht]) rfl rfl hd h2
theorem am_s37 (C : am_At p s m args meth c D y) {t a : Nat} {j : Int32} (hd : decode (am_cd y) pc = .ok (.aaload, 1)) (ht : am_ak t = 3) (hj : am_ok j (am_ln t (am_L M)) = true) (k : am_Ok p l e R s m args below meth c Q D base y (pc + 1) lo (.inr (.inl (am_fr t 0, am_mr M a j.toNatClampNeg)) :: st) M cells slots) : am_Ok p l e R s m args below meth c Q D base y pc lo (.inl j :: .inr (.inl (t, some a)) :: st) M cells slots := by
  intro H locs ls hR hL hwl hws hf
  obtain ⟨hb, htg, cA, g1, g2, g3⟩ := am_arr hR (am_wt_h (am_wt_t hws)) (by rw [ht]; decide) (by rw [ht]; decide)
  have hv : am_wv M (.inr (.inl (am_fr t 0, am_mr M a j.toNatClampNeg))) := fun t' b' q => by
    have q1 := (Prod.mk.inj (Sum.inl.inj (Sum.inr.inj q)))
    have h5 := hR.2.2.2 a j.toNatClampNeg b' q1.2
    rw [htg, am_fr3 ht j.toNatClampNeg] at h5
    rw [← q1.1]
    exact ⟨h5.1, by rw [← h5.1]; exact h5.2⟩
  have h2 := k H locs ls hR hL hwl (am_wt_c hv (am_wt_t (am_wt_t hws))) hf
  obtain ⟨C0, hC0⟩ := am_ty3 ht
  rw [hC0] at g2
  exact W.aald (v := va_rf (am_mr M a j.toNatClampNeg)) (ty := .object C0) C.1 C.2.1 g1 (g2 _ _) rfl (fun q => by cases q) (by rw [arrV_size]; exact am_ok_in hj) (by rw [arrV_read _ _ (am_ok_lt hj)]; simp [am_ev, ht]) rfl rfl hd h2
theorem am_ev_si {M : am_M} {t a k : Nat} {x : Int32} (h : am_ak t ≠ 3) : updV (am_ev M t a) k (.int x) = am_ev (am_si M a k x) t a := by
  funext j
  by_cases hj : j = k
  · subst hj; simp [updV, am_ev, h, am_mi, am_si]
  · simp [updV, am_ev, h, am_mi, am_si, hj]
theorem am_ev_sr {M : am_M} {t a k : Nat} {o : Option Nat} (h : am_ak t = 3) : updV (am_ev M t a) k (va_rf o) = am_ev (am_sr M a k o) t a := by
  funext j
  by_cases hj : j = k
  · subst hj; simp [updV, am_ev, h, am_mr, am_sr]
  · simp [updV, am_ev, h, am_mr, am_sr, hj]
theorem am_si_o {M : am_M} {a k : Nat} {x : Int32} : ∀ b, b ≠ a → ∀ j, am_mi (am_si M a k x) b j = am_mi M b j := fun b hb j => by simp [am_mi, am_si, hb]
theorem am_sr_o {M : am_M} {a k : Nat} {x : Option Nat} : ∀ b, b ≠ a → ∀ j, am_mr (am_sr M a k x) b j = am_mr M b j := fun b hb j => by simp [am_mr, am_sr, hb]
theorem am_free {locs : List Loc} {base a k : Nat} (hf : ∀ q ∈ locs, base ≤ q.base) (ha : base ≤ a) : ∀ q ∈ locs ++ [(⟨a, k⟩ : Loc)], base ≤ q.base := fun q hq => by
  rcases List.mem_append.mp hq with h | h
  · exact hf q h
  · rw [List.mem_singleton.mp h]; exact ha
theorem am_s34 (C : am_At p s m args meth c D y) {t a : Nat} {v j : Int32} (hd : decode (am_cd y) pc = .ok (.iastore, 1)) (ht : am_ak t = 1) (hj : am_ok j (am_ln t (am_L M)) = true) (k : am_Ok p l e R s m args below meth c Q D base y (pc + 1) lo st (am_si M a j.toNatClampNeg v) cells slots) : am_Ok p l e R s m args below meth c Q D base y pc lo (.inl v :: .inl j :: .inr (.inl (t, some a)) :: st) M cells slots := by
  intro H locs ls hR hL hwl hws hf
  obtain ⟨hb, htg, cA, g1, g2, g3⟩ := am_arr hR (am_wt_h (am_wt_t (am_wt_t hws))) (by rw [ht]; decide) (by rw [ht]; decide)
  refine W.iast C.1 C.2.1 g1 (by have g4 := g2; rw [am_ty1 ht] at g4; exact g4 _ _) (fun q => by cases q) (by rw [arrV_size]; exact am_ok_in hj) rfl rfl hd fun H1 e1 z1 oq => ?_
  refine k H1 _ ls (hR.set (a := a) z1 oq rfl rfl rfl am_si_o (fun _ _ _ => rfl) ?_ (am_wm_si hR.2.2.2)) hL hwl (am_wt_t (am_wt_t (am_wt_t hws))) (am_free hf hb)
  rw [htg]
  unfold am_cell
  rw [if_neg (by rw [ht]; decide), if_neg (by rw [ht]; decide)]
  exact ⟨cA, by rw [e1, arrV_store, am_ev_si (by rw [ht]; decide)]; rfl, g2, g3⟩
theorem am_s36 (C : am_At p s m args meth c D y) {t a : Nat} {v j : Int32} (hd : decode (am_cd y) pc = .ok (.bastore, 1)) (hv : v = 0 ∨ v = 1) (ht : am_ak t = 2) (hj : am_ok j (am_ln t (am_L M)) = true) (k : am_Ok p l e R s m args below meth c Q D base y (pc + 1) lo st (am_si M a j.toNatClampNeg v) cells slots) : am_Ok p l e R s m args below meth c Q D base y pc lo (.inl v :: .inl j :: .inr (.inl (t, some a)) :: st) M cells slots := by
  intro H locs ls hR hL hwl hws hf
  obtain ⟨hb, htg, cA, g1, g2, g3⟩ := am_arr hR (am_wt_h (am_wt_t (am_wt_t hws))) (by rw [ht]; decide) (by rw [ht]; decide)
  have hnv : narrow .boolean (.int v) = .int v := by rcases hv with rfl | rfl <;> rfl
  refine W.zast C.1 C.2.1 g1 (by have g4 := g2; rw [am_ty2 ht] at g4; exact g4 _ _) (fun q => by cases q) (by rw [arrV_size]; exact am_ok_in hj) rfl rfl hd fun H1 e1 z1 oq => ?_
  rw [hnv] at e1
  refine k H1 _ ls (hR.set (a := a) z1 oq rfl rfl rfl am_si_o (fun _ _ _ => rfl) ?_ (am_wm_si hR.2.2.2)) hL hwl (am_wt_t (am_wt_t (am_wt_t hws))) (am_free hf hb)
  rw [htg]
  unfold am_cell
  rw [if_neg (by rw [ht]; decide), if_neg (by rw [ht]; decide)]
  exact ⟨cA, by rw [e1, arrV_store, am_ev_si (by rw [ht]; decide)]; rfl, g2, g3⟩
theorem am_s38 (C : am_At p s m args meth c D y) {t a : Nat} {o : Option Nat} {j : Int32} (hd : decode (am_cd y) pc = .ok (.aastore, 1)) (ht : am_ak t = 3) (hj : am_ok j (am_ln t (am_L M)) = true) (k : am_Ok p l e R s m args below meth c Q D base y (pc + 1) lo st (am_sr M a j.toNatClampNeg o) cells slots) : am_Ok p l e R s m args below meth c Q D base y pc lo (.inr (.inl (am_fr t 0, o)) :: .inl j :: .inr (.inl (t, some a)) :: st) M cells slots := by
  intro H locs ls hR hL hwl hws hf
  obtain ⟨hb, htg, cA, g1, g2, g3⟩ := am_arr hR (am_wt_h (am_wt_t (am_wt_t hws))) (by rw [ht]; decide) (by rw [ht]; decide)
  have hwv := am_wt_h hws
  have fin : ∀ (H1 : Heap) (x : Value), x = va_rf o → H1[a]? = some ((arrV cA (am_ln t (am_L M)) (am_ev M t a)).setSlot j.toNatClampNeg x) → H1.size = H.size → (∀ q, q ≠ a → H1[q]? = H[q]?) → W p l e R s m args below meth c H1 (locs ++ [⟨a, j.toNatClampNeg⟩]) cells slots Q (F0 m (pc + 1) ls (st.map am_v)) := by
    intro H1 x hx e1 z1 oq
    subst hx
    refine k H1 _ ls (hR.set (a := a) z1 oq rfl rfl rfl (fun _ _ _ => rfl) am_sr_o ?_ (am_wm_sr hR.2.2.2 (fun b hb2 => ?_))) hL hwl (am_wt_t (am_wt_t (am_wt_t hws))) (am_free hf hb)
    · rw [htg]
      unfold am_cell
      rw [if_neg (by rw [ht]; decide), if_neg (by rw [ht]; decide)]
      exact ⟨cA, by rw [e1, arrV_store, am_ev_sr ht]; rfl, g2, g3⟩
    · subst hb2
      have h7 := hwv (am_fr t 0) b rfl
      rw [htg, am_fr3 ht j.toNatClampNeg, h7.1]
      exact ⟨rfl, h7.2⟩
  have hj2 := am_ok_in hj
  cases o with
  | none =>
    obtain ⟨C0, hC0⟩ := am_ty3 ht
    exact va_WaastN (C := C0) C.1 C.2.1 g1 (by have g4 := g2; rw [hC0] at g4; exact g4 _ _) (fun q => by cases q) (by rw [arrV_size]; exact hj2) rfl rfl hd fun H1 e1 z1 oq => fin H1 _ rfl e1 z1 oq
  | some b =>
    have h7 := hwv (am_fr t 0) b rfl
    obtain ⟨h8, h9⟩ := am_fr3o ht
    obtain ⟨-, -, r, q1, cellV, q2, q3, q4, -⟩ := am_obj hR hwv h8
    obtain ⟨hKn, hcls⟩ := C.2.2.2.2.2.2.1.1 _ _ q1
    have g4 := g3
    rw [h9 r q1] at g4
    obtain ⟨kA, comp, k1, k2, k3, -⟩ := g4
    have hcomp : comp = D.1 (am_ci (am_fr t 0)) := Option.some.inj (k3.symm.trans hcls.1)
    subst hcomp
    obtain ⟨kC, hkC, -⟩ := hcls.2
    exact W.aast C.1 C.2.1 g1 (fun q h => by cases h) (fun h => by cases h) k1 k2 rfl hkC ⟨fun h => hj2 (Or.inl h), by rw [arrV_size]; exact am_ok_lt hj⟩ q2 (fun q h => by rw [q4] at h; cases h) (by rw [q3]; exact hkC) (by rw [q3]; exact va_assign hcls) rfl rfl hd fun H1 e1 z1 oq => fin H1 _ rfl e1 z1 oq
end SND2
