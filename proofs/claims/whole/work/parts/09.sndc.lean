-- THE STEPS TOGETHER
section SND4
variable {p : Program} {l : Launch} {e : Env} {R : Room} {s : State} {m : MethodId} {args : Array Value} {below : List Frame} {meth : Method} {c : Code} {H : Heap} {locs : List Loc} {cells slots : Nat} {Q : State → Prop} {D : va_G} {base y pc : Nat} {lo st : List am_V} {M : am_M}
theorem am_c0 (n a : Nat) : n + (a - a) = n := by omega
theorem am_c1 (n a k : Nat) : n + (a + k - a) = n + k := by omega
theorem am_chk_of {y pc : Nat} {i : am_I} (h : am_ins y pc = some i) : decode (am_cd y) pc = .ok (am_enc i pc) ∧ am_lk y pc i = true := am_chk y pc i h
theorem am_bin_c {op : Nat} {x y v : Int32} (h : am_bin op x y = some v) : (op = 13 ∧ v = x + y) ∨ (op = 14 ∧ v = x - y) ∨ (op = 15 ∧ v = x * y) ∨ (op = 16 ∧ ¬ y = 0 ∧ v = x - x / y * y) ∨ (op = 17 ∧ v = x &&& y) ∨ (op = 18 ∧ v = x ^^^ y) ∨ (op = 19 ∧ v = x <<< (y &&& 31)) ∨ (op = 20 ∧ v = x >>> (y &&& 31)) := by
  unfold am_bin at h
  split at h
  · cases h; exact Or.inl ⟨rfl, rfl⟩
  · cases h; exact Or.inr (Or.inl ⟨rfl, rfl⟩)
  · cases h; exact Or.inr (Or.inr (Or.inl ⟨rfl, rfl⟩))
  · split at h
    · cases h
    · rename_i h0
      cases h
      exact Or.inr (Or.inr (Or.inr (Or.inl ⟨rfl, h0, rfl⟩)))
  · cases h; exact Or.inr (Or.inr (Or.inr (Or.inr (Or.inl ⟨rfl, rfl⟩))))
  · cases h; exact Or.inr (Or.inr (Or.inr (Or.inr (Or.inr (Or.inl ⟨rfl, rfl⟩)))))
  · cases h; exact Or.inr (Or.inr (Or.inr (Or.inr (Or.inr (Or.inr (Or.inl ⟨rfl, rfl⟩))))))
  · cases h; exact Or.inr (Or.inr (Or.inr (Or.inr (Or.inr (Or.inr (Or.inr ⟨rfl, rfl⟩))))))
  · cases h
theorem am_off_mem (ps : List (Int × Int)) (d k : Int) : Op.lookupswitch.offset ps d k ∈ d :: ps.map (·.2) := by
  induction ps with
  | nil => exact List.mem_cons_self
  | cons q ps ih =>
    obtain ⟨a, o⟩ := q
    rw [lookupswitch.offset_cons]
    split
    · simp
    · rcases List.mem_cons.mp ih with h | h
      · rw [h]; exact List.mem_cons_self
      · exact List.mem_cons_of_mem _ (List.mem_cons_of_mem _ h)
theorem am_s50x {x : Nat} {v : Int32} (C : am_At p s m args meth c D y) (hd : decode (am_cd y) pc = .ok (am_esw x)) (hk : am_lsw x pc = true) (k : am_Ok p l e R s m args below meth c Q D base y (am_swt x v) lo st M cells slots) : am_Ok p l e R s m args below meth c Q D base y pc lo (.inl v :: st) M cells slots := by
  have hx : am_swt x v = am_swt x v := rfl
  unfold am_esw at hd
  unfold am_lsw at hk
  split at hd
  · rename_i b p0 d l0 h0 os ps len hsw
    rw [hsw] at hk
    simp only [Bool.and_eq_true, decide_eq_true_eq, List.all_eq_true] at hk
    obtain ⟨⟨rfl, h2⟩, h3⟩ := hk
    exact am_s50 C hd h2 (fun o ho => h3 o ho) (by unfold am_swt; rw [hsw]) k
  · rename_i b p0 d l0 h0 os ps len hsw
    rw [hsw] at hk
    simp only [Bool.and_eq_true, decide_eq_true_eq] at hk
    obtain ⟨⟨rfl, h2⟩, h3⟩ := hk
    have h4 := List.all_eq_true.mp h3 _ (am_off_mem ps d v.toInt)
    exact am_s50b C hd h2 (by simpa using h4) (by unfold am_swt; rw [hsw]) k
set_option maxHeartbeats 4000000 in
theorem am_tls (C : am_At p s m args meth c D y) {i : am_I} {q : am_S} (hi : am_ins y pc = some i) (hs : am_tl i pc lo st M = some q) (hfr : 1 ≤ R.frames) (hlo : 40 ≤ R.locals) (hc : cells + (am_sz q.2.2.2 - am_sz M) ≤ R.cells) (hsl : slots + (am_sl q.2.2.2 - am_sl M) ≤ R.slots)
    (k : ∀ cells' slots', cells' = cells + (am_sz q.2.2.2 - am_sz M) → slots' = slots + (am_sl q.2.2.2 - am_sl M) → am_Ok p l e R s m args below meth c Q D base y q.1 q.2.1 q.2.2.1 q.2.2.2 cells' slots') : am_Ok p l e R s m args below meth c Q D base y pc lo st M cells slots := by
  unfold am_tl at hs
  split at hs
  · have hk := am_chk_of hi
    unfold am_f1 at hs
    split at hs
    · rename_i h0
      cases hs
      exact am_s1 C hk.1 h0 (k cells slots (am_c0 cells (am_sz M)).symm (am_c0 slots (am_sl M)).symm)
    · cases hs
  · have hk := am_chk_of hi
    unfold am_f1 at hs
    split at hs
    · rename_i h0
      cases hs
      exact am_s2 C hk.1 h0 (k cells slots (am_c0 cells (am_sz M)).symm (am_c0 slots (am_sl M)).symm)
    · cases hs
  · have hk := am_chk_of hi
    unfold am_f3 at hs
    split at hs
    · rename_i h0
      cases hs
      exact am_s3 C hk.1 h0 (k cells slots (am_c0 cells (am_sz M)).symm (am_c0 slots (am_sl M)).symm)
    · cases hs
  · have hk := am_chk_of hi
    unfold am_f3 at hs
    split at hs
    · rename_i h0
      cases hs
      exact am_s4 C hk.1 h0 (k cells slots (am_c0 cells (am_sz M)).symm (am_c0 slots (am_sl M)).symm)
    · cases hs
  · have hk := am_chk_of hi
    unfold am_f5 at hs
    split at hs
    · split at hs
      · rename_i h0
        cases hs
        exact am_s5 C hk.1 h0 (k cells slots (am_c0 cells (am_sz M)).symm (am_c0 slots (am_sl M)).symm)
      · cases hs
    · cases hs
  · have hk := am_chk_of hi
    unfold am_f5 at hs
    split at hs
    · split at hs
      · rename_i h0
        cases hs
        exact am_s6 C hk.1 h0 (k cells slots (am_c0 cells (am_sz M)).symm (am_c0 slots (am_sl M)).symm)
      · cases hs
    · cases hs
  · have hk := am_chk_of hi
    unfold am_f7 at hs
    split at hs
    · split at hs
      · rename_i h0
        cases hs
        exact am_s7 C hk.1 h0 (k cells slots (am_c0 cells (am_sz M)).symm (am_c0 slots (am_sl M)).symm)
      · cases hs
    · cases hs
  · have hk := am_chk_of hi
    unfold am_f7 at hs
    split at hs
    · split at hs
      · rename_i h0
        cases hs
        exact am_s8 C hk.1 h0 (k cells slots (am_c0 cells (am_sz M)).symm (am_c0 slots (am_sl M)).symm)
      · cases hs
    · cases hs
  · have hk := am_chk_of hi
    unfold am_f9 at hs
    split at hs
    · rename_i h0
      cases hs
      exact am_s9 C hk.1 h0 (k cells slots (am_c0 cells (am_sz M)).symm (am_c0 slots (am_sl M)).symm)
    · cases hs
  · have hk := am_chk_of hi
    cases hs
    exact am_s10 C hk.1 (k cells slots (am_c0 cells (am_sz M)).symm (am_c0 slots (am_sl M)).symm)
  · have hk := am_chk_of hi
    cases hs
    exact am_s11 C hk.1 (k cells slots (am_c0 cells (am_sz M)).symm (am_c0 slots (am_sl M)).symm)
  · have hk := am_chk_of hi
    unfold am_f13 at hs
    split at hs
    · split at hs
      · rename_i hu
        cases hs
        rcases am_bin_c hu with ⟨rfl, rfl⟩ | ⟨rfl, rfl⟩ | ⟨rfl, rfl⟩ | ⟨rfl, h1, rfl⟩ | ⟨rfl, rfl⟩ | ⟨rfl, rfl⟩ | ⟨rfl, rfl⟩ | ⟨rfl, rfl⟩
        · exact am_s13 C hk.1 (k cells slots (am_c0 cells (am_sz M)).symm (am_c0 slots (am_sl M)).symm)
        · exact am_s14 C hk.1 (k cells slots (am_c0 cells (am_sz M)).symm (am_c0 slots (am_sl M)).symm)
        · exact am_s15 C hk.1 (k cells slots (am_c0 cells (am_sz M)).symm (am_c0 slots (am_sl M)).symm)
        · exact am_s16 C hk.1 h1 (k cells slots (am_c0 cells (am_sz M)).symm (am_c0 slots (am_sl M)).symm)
        · exact am_s17 C hk.1 (k cells slots (am_c0 cells (am_sz M)).symm (am_c0 slots (am_sl M)).symm)
        · exact am_s18 C hk.1 (k cells slots (am_c0 cells (am_sz M)).symm (am_c0 slots (am_sl M)).symm)
        · exact am_s19 C hk.1 (k cells slots (am_c0 cells (am_sz M)).symm (am_c0 slots (am_sl M)).symm)
        · exact am_s20 C hk.1 (k cells slots (am_c0 cells (am_sz M)).symm (am_c0 slots (am_sl M)).symm)
      · cases hs
    · cases hs
  · have hk := am_chk_of hi
    unfold am_f21 at hs
    split at hs
    · cases hs; exact am_s21 C hk.1 (k cells slots (am_c0 cells (am_sz M)).symm (am_c0 slots (am_sl M)).symm)
    · cases hs
  · have hk := am_chk_of hi
    unfold am_f22 at hs
    split at hs
    · cases hs; exact am_s22 C hk.1 (k cells slots (am_c0 cells (am_sz M)).symm (am_c0 slots (am_sl M)).symm)
    · cases hs
  · have hk := am_chk_of hi
    cases hs
    exact am_s24 C hk.1 (k cells slots (am_c0 cells (am_sz M)).symm (am_c0 slots (am_sl M)).symm)
  · have hk := am_chk_of hi
    unfold am_f25 at hs
    split at hs
    · refine am_s25 (w := 0) C hk.1 ?_
      unfold am_br at hs ⊢
      split at hs <;> split at hs <;> rename_i h0 <;> cases hs <;> simp only [h0, if_true, if_false] <;> exact (k cells slots (am_c0 cells (am_sz M)).symm (am_c0 slots (am_sl M)).symm)
    · cases hs
  · have hk := am_chk_of hi
    unfold am_f26 at hs
    split at hs
    · refine am_s26 C hk.1 ?_
      unfold am_br at hs ⊢
      split at hs <;> split at hs <;> rename_i h0 <;> cases hs <;> simp only [h0, if_true, if_false] <;> exact (k cells slots (am_c0 cells (am_sz M)).symm (am_c0 slots (am_sl M)).symm)
    · cases hs
  · have hk := am_chk_of hi
    unfold am_f27 at hs
    split at hs
    · split at hs
      · rename_i h0
        cases hs
        exact am_s27 C hk.1 (fun _ => (k cells slots (am_c0 cells (am_sz M)).symm (am_c0 slots (am_sl M)).symm)) (fun h => absurd h0 h)
      · rename_i h0
        cases hs
        exact am_s27 C hk.1 (fun h => absurd h h0) (fun _ => (k cells slots (am_c0 cells (am_sz M)).symm (am_c0 slots (am_sl M)).symm))
    · cases hs
  · have hk := am_chk_of hi
    unfold am_f28 at hs
    split at hs
    · split at hs
      · rename_i h0
        cases hs
        exact am_s28 C hk.1 (fun _ => (k cells slots (am_c0 cells (am_sz M)).symm (am_c0 slots (am_sl M)).symm)) (fun h => absurd h0 h)
      · rename_i h0
        cases hs
        exact am_s28 C hk.1 (fun h => absurd h h0) (fun _ => (k cells slots (am_c0 cells (am_sz M)).symm (am_c0 slots (am_sl M)).symm))
    · cases hs
  · have hk := am_chk_of hi
    unfold am_f29 at hs
    split at hs
    · split at hs
      · rename_i h0
        cases hs
        exact am_s29 C hk.1 (fun _ => (k cells slots (am_c0 cells (am_sz M)).symm (am_c0 slots (am_sl M)).symm)) (fun h => absurd h0 h)
      · rename_i h0
        cases hs
        exact am_s29 C hk.1 (fun h => absurd h h0) (fun _ => (k cells slots (am_c0 cells (am_sz M)).symm (am_c0 slots (am_sl M)).symm))
    · cases hs
  · have hk := am_chk_of hi
    unfold am_f30 at hs
    split at hs
    · split at hs
      · rename_i h0
        cases hs
        exact am_s30 C hk.1 (fun _ => (k cells slots (am_c0 cells (am_sz M)).symm (am_c0 slots (am_sl M)).symm)) (fun h => absurd h0 h)
      · rename_i h0
        cases hs
        exact am_s30 C hk.1 (fun h => absurd h h0) (fun _ => (k cells slots (am_c0 cells (am_sz M)).symm (am_c0 slots (am_sl M)).symm))
    · cases hs
  · have hk := am_chk_of hi
    cases hs
    exact am_s31 C hk.1 (k cells slots (am_c0 cells (am_sz M)).symm (am_c0 slots (am_sl M)).symm)
  · have hk := am_chk_of hi
    unfold am_f32 at hs
    split at hs
    · split at hs
      · cases hs
      · rename_i h0
        cases hs
        exact am_s32 C hk.1 h0 (k cells slots (am_c0 cells (am_sz M)).symm (am_c0 slots (am_sl M)).symm)
    · cases hs
  · have hk := am_chk_of hi
    unfold am_f33 at hs
    split at hs
    · split at hs
      · rename_i h0
        obtain ⟨h1, h2⟩ := h0
        cases hs
        exact am_s33 C hk.1 h1 h2 (k cells slots (am_c0 cells (am_sz M)).symm (am_c0 slots (am_sl M)).symm)
      · cases hs
    · cases hs
  · have hk := am_chk_of hi
    unfold am_f34 at hs
    split at hs
    · split at hs
      · rename_i h0
        obtain ⟨rfl, h1, h2⟩ := h0
        cases hs
        exact am_s34 C hk.1 h1 h2 (k cells slots (am_c0 cells (am_sz M)).symm (am_c0 slots (am_sl M)).symm)
      · cases hs
    · cases hs
  · have hk := am_chk_of hi
    unfold am_f35 at hs
    split at hs
    · split at hs
      · rename_i h0
        obtain ⟨h1, h2⟩ := h0
        cases hs
        exact am_s35 C hk.1 h1 h2 (k cells slots (am_c0 cells (am_sz M)).symm (am_c0 slots (am_sl M)).symm)
      · cases hs
    · cases hs
  · have hk := am_chk_of hi
    unfold am_f36 at hs
    split at hs
    · split at hs
      · rename_i h0
        obtain ⟨h3, rfl, h1, h2⟩ := h0
        cases hs
        exact am_s36 C hk.1 h3 h1 h2 (k cells slots (am_c0 cells (am_sz M)).symm (am_c0 slots (am_sl M)).symm)
      · cases hs
    · cases hs
  · have hk := am_chk_of hi
    unfold am_f37 at hs
    split at hs
    · split at hs
      · rename_i h0
        obtain ⟨h1, h2⟩ := h0
        cases hs
        exact am_s37 C hk.1 h1 h2 (k cells slots (am_c0 cells (am_sz M)).symm (am_c0 slots (am_sl M)).symm)
      · cases hs
    · cases hs
  · have hk := am_chk_of hi
    unfold am_f38 at hs
    split at hs
    · split at hs
      · rename_i h0
        obtain ⟨rfl, rfl, h1, h2⟩ := h0
        cases hs
        exact am_s38 C hk.1 h1 h2 (k cells slots (am_c0 cells (am_sz M)).symm (am_c0 slots (am_sl M)).symm)
      · cases hs
    · cases hs
  · have hk := am_chk_of hi
    unfold am_f39 at hs
    split at hs
    · split at hs
      · rename_i h0
        obtain ⟨rfl, h1⟩ := h0
        cases hs
        have hq := hk.2
        simp only [am_lk, Bool.and_eq_true, decide_eq_true_eq] at hq
        exact am_s39 C hk.1 hq.1.1.1 hq.1.1.2 hq.1.2 h1 hq.2 (by have h9 : cells + (am_sz M + 1 - am_sz M) ≤ R.cells := hc; omega) (by have h9 : slots + (am_sl M + am_ln _ 0 - am_sl M) ≤ R.slots := hsl; omega) (k (cells + 1) (slots + am_ln _ 0) (am_c1 cells (am_sz M) 1).symm (am_c1 slots (am_sl M) (am_ln _ 0)).symm)
      · cases hs
    · cases hs
  · have hk := am_chk_of hi
    unfold am_f40 at hs
    split at hs
    · split at hs
      · rename_i h0
        obtain ⟨rfl, h1⟩ := h0
        cases hs
        have hq := hk.2
        simp only [am_lk] at hq
        split at hq
        · rename_i C0 hC0
          simp only [Bool.and_eq_true, decide_eq_true_eq] at hq
          exact am_s40 C hk.1 hC0 hq.1.1.1 hq.1.1.2 hq.1.2 h1 hq.2 (by have h9 : cells + (am_sz M + 1 - am_sz M) ≤ R.cells := hc; omega) (by have h9 : slots + (am_sl M + am_ln _ 0 - am_sl M) ≤ R.slots := hsl; omega) (k (cells + 1) (slots + am_ln _ 0) (am_c1 cells (am_sz M) 1).symm (am_c1 slots (am_sl M) (am_ln _ 0)).symm)
        · cases hq
      · cases hs
    · cases hs
  · have hk := am_chk_of hi
    unfold am_f41 at hs
    split at hs
    · split at hs
      · rename_i h0
        subst h0
        cases hs
        have hq := hk.2
        simp only [am_lk, Bool.and_eq_true, decide_eq_true_eq] at hq
        exact am_s41 C hk.1 hq.1 hq.2 (k cells slots (am_c0 cells (am_sz M)).symm (am_c0 slots (am_sl M)).symm)
      · cases hs
    · cases hs
  · have hk := am_chk_of hi
    unfold am_f42 at hs
    split at hs
    · split at hs
      · rename_i h0
        subst h0
        cases hs
        have hq := hk.2
        simp only [am_lk, Bool.and_eq_true, decide_eq_true_eq] at hq
        exact am_s42 C hk.1 hq.1 hq.2 (k cells slots (am_c0 cells (am_sz M)).symm (am_c0 slots (am_sl M)).symm)
      · cases hs
    · cases hs
  · have hk := am_chk_of hi
    unfold am_f43 at hs
    split at hs
    · split at hs
      · rename_i h0
        subst h0
        cases hs
        have hq := hk.2
        simp only [am_lk, Bool.and_eq_true, decide_eq_true_eq] at hq
        exact am_s43 C hk.1 hq.1.1 (fun r hr => am_fin0 hr hq.2) hq.1.2 (k cells slots (am_c0 cells (am_sz M)).symm (am_c0 slots (am_sl M)).symm)
      · cases hs
    · cases hs
  · have hk := am_chk_of hi
    unfold am_f44 at hs
    split at hs
    · split at hs
      · rename_i h0
        obtain ⟨h1, rfl⟩ := h0
        cases hs
        have hq := hk.2
        simp only [am_lk, Bool.and_eq_true, decide_eq_true_eq] at hq
        exact am_s44 C hk.1 hq.1.1 (fun r hr => am_fin0 hr hq.2) hq.1.2 h1 (k cells slots (am_c0 cells (am_sz M)).symm (am_c0 slots (am_sl M)).symm)
      · cases hs
    · cases hs
  · have hk := am_chk_of hi
    unfold am_f45 at hs
    split at hs
    · split at hs
      · rename_i h0
        obtain ⟨rfl, rfl⟩ := h0
        cases hs
        have hq := hk.2
        simp only [am_lk, Bool.and_eq_true, decide_eq_true_eq] at hq
        exact am_s45 C hk.1 hq.1.1.1 (fun r hr => am_fin0 hr hq.2) hq.1.1.2 hq.1.2 (k cells slots (am_c0 cells (am_sz M)).symm (am_c0 slots (am_sl M)).symm)
      · cases hs
    · cases hs
  · have hk := am_chk_of hi
    unfold am_f43 at hs
    split at hs
    · split at hs
      · rename_i h0
        subst h0
        cases hs
        have hq := hk.2
        simp only [am_lk, Bool.and_eq_true, decide_eq_true_eq] at hq
        exact am_s46 C hk.1 hq.1.1.1 hq.1.1.2 (fun r hr => am_fin1 hr hq.2) hq.1.2 (k cells slots (am_c0 cells (am_sz M)).symm (am_c0 slots (am_sl M)).symm)
      · cases hs
    · cases hs
  · have hk := am_chk_of hi
    unfold am_f45 at hs
    split at hs
    · split at hs
      · rename_i h0
        obtain ⟨rfl, rfl⟩ := h0
        cases hs
        have hq := hk.2
        simp only [am_lk, Bool.and_eq_true, decide_eq_true_eq] at hq
        exact am_s47 C hk.1 hq.1.1.1.1 hq.1.1.1.2 (fun r hr => am_fin1 hr hq.2) hq.1.1.2 hq.1.2 (k cells slots (am_c0 cells (am_sz M)).symm (am_c0 slots (am_sl M)).symm)
      · cases hs
    · cases hs
  · have hk := am_chk_of hi
    cases hs
    have hq := hk.2
    simp only [am_lk] at hq
    split at hq
    · rename_i r hr
      simp only [Bool.and_eq_true, decide_eq_true_eq] at hq
      obtain ⟨⟨⟨⟨⟨⟨q1, q2⟩, q3⟩, q4⟩, q5⟩, q6⟩, q7⟩ := hq
      exact am_s48 C hk.1 hr q1 q2 q3 q4 q5 q6 (am_nf_df q7) (by have h9 : cells + (am_sz M + 1 - am_sz M) ≤ R.cells := hc; omega) (by have h9 : slots + (am_sl M + am_nf _ - am_sl M) ≤ R.slots := hsl; omega) (k (cells + 1) (slots + am_nf _) (am_c1 cells (am_sz M) 1).symm (am_c1 slots (am_sl M) (am_nf _)).symm)
    · cases hq
  · have hk := am_chk_of hi
    unfold am_f49 at hs
    split at hs
    · split at hs
      · rename_i h0
        cases hs
        have hq := hk.2
        simp only [am_lk, Bool.and_eq_true, decide_eq_true_eq] at hq
        exact am_s49 C hk.1 hq.1 hq.2 am_oi h0 hfr hlo (k cells slots (am_c0 cells (am_sz M)).symm (am_c0 slots (am_sl M)).symm)
      · cases hs
    · cases hs
  · have hk := am_chk_of hi
    unfold am_f50 at hs
    split at hs
    · cases hs
      exact am_s50x C hk.1 hk.2 (k cells slots (am_c0 cells (am_sz M)).symm (am_c0 slots (am_sl M)).symm)
    · cases hs
  · have hk := am_chk_of hi
    unfold am_f51 at hs
    split at hs
    · split at hs
      · rename_i h0
        cases hs
        have hq := hk.2
        simp only [am_lk, Bool.and_eq_true, decide_eq_true_eq] at hq
        exact am_s51 C hk.1 hq.1.1 hq.1.2 hq.2 am_mi0 h0 hfr hlo (by have h9 : cells + (am_sz M - am_sz M) ≤ R.cells := hc; omega) (by have h9 : slots + (am_sl M - am_sl M) ≤ R.slots := hsl; omega) (k cells slots (am_c0 cells (am_sz M)).symm (am_c0 slots (am_sl M)).symm)
      · cases hs
    · cases hs
  · cases hs
def am_le (M M' : am_M) : Prop := am_sz M ≤ am_sz M' ∧ am_sl M ≤ am_sl M' ∧ ((∀ a, am_tg M a ≠ 0 → a < am_sz M) → (∀ a, am_tg M' a ≠ 0 → a < am_sz M') ∧ ∀ a, am_tg M a ≠ 0 → am_tg M' a = am_tg M a)
theorem am_le_rf (M : am_M) : am_le M M := ⟨Nat.le_refl _, Nat.le_refl _, fun h => ⟨h, fun _ _ => rfl⟩⟩
theorem am_le_tr {M1 M2 M3 : am_M} (h1 : am_le M1 M2) (h2 : am_le M2 M3) : am_le M1 M3 := ⟨Nat.le_trans h1.1 h2.1, Nat.le_trans h1.2.1 h2.2.1, fun h => ⟨(h2.2.2 (h1.2.2 h).1).1, fun a ha => by
  have g := (h1.2.2 h).2 a ha
  rw [(h2.2.2 (h1.2.2 h).1).2 a (by rw [g]; exact ha), g]⟩⟩
theorem am_le_al (M : am_M) (t n : Nat) : am_le M (am_al M t n) := ⟨Nat.le_add_right _ _, Nat.le_add_right _ _, fun h => ⟨fun a ha => by
  show a < am_sz M + 1
  by_cases hs : a = am_sz M
  · omega
  · have h1 : am_tg (am_al M t n) a = am_tg M a := by simp [am_tg, am_al, hs]
    rw [h1] at ha
    have := h a ha
    omega, fun a ha => by
  have hs : a ≠ am_sz M := fun q => by have := h a ha; omega
  simp [am_tg, am_al, hs]⟩⟩
theorem am_le_wt {D : va_G} {s : State} {base : Nat} {M M' : am_M} {H : Heap} {l : List am_V} (h : am_le M M') (hR : am_Rep D s base M H) (hw : am_wt M l) : am_wt M' l :=
  am_wt_to (h.2.2 (fun a ha => by rw [← hR.1]; exact am_cell_lt (hR.2.2.1 a ha).2)).2 hw
set_option maxHeartbeats 4000000 in
theorem am_tl_le {i : am_I} {q : am_S} (hs : am_tl i pc lo st M = some q) : am_le M q.2.2.2 := by
  unfold am_tl at hs
  split at hs <;> (try unfold am_f1 at hs) <;> (try unfold am_f3 at hs) <;> (try unfold am_f5 at hs) <;> (try unfold am_f7 at hs) <;> (try unfold am_f9 at hs) <;> (try unfold am_f13 at hs) <;> (try unfold am_f21 at hs) <;> (try unfold am_f22 at hs) <;> (try unfold am_f25 am_br at hs) <;> (try unfold am_f26 am_br at hs) <;> (try unfold am_f27 at hs) <;> (try unfold am_f28 at hs) <;> (try unfold am_f29 at hs) <;> (try unfold am_f30 at hs) <;> (try unfold am_f32 at hs) <;> (try unfold am_f33 at hs) <;> (try unfold am_f34 at hs) <;> (try unfold am_f35 at hs) <;> (try unfold am_f36 at hs) <;> (try unfold am_f37 at hs) <;> (try unfold am_f38 at hs) <;> (try unfold am_f39 at hs) <;> (try unfold am_f40 at hs) <;> (try unfold am_f41 at hs) <;> (try unfold am_f42 at hs) <;> (try unfold am_f43 at hs) <;> (try unfold am_f44 at hs) <;> (try unfold am_f45 at hs) <;> (try unfold am_f49 at hs) <;> (try unfold am_f50 at hs) <;> (try unfold am_f51 at hs) <;> (try split at hs) <;> (try split at hs) <;> (try split at hs) <;> cases hs <;> first | exact am_le_rf M | exact am_le_al M _ _
theorem am_run_le (n : Nat) : ∀ (y pc : Nat) (lo st : List am_V) (M : am_M) (r : Option am_V) (M' : am_M), am_run n y pc lo st M = some (r, M') → am_le M M' := by
  induction n with
  | zero => intro y pc lo st M r M' h; simp [am_run] at h
  | succ n ih =>
    intro y pc lo st M r M' h
    rw [am_run] at h
    cases hi : am_ins y pc with
    | none => rw [hi] at h; cases h
    | some i =>
      rw [hi] at h
      dsimp only at h
      by_cases h1 : i.1 < 60
      · rw [if_pos h1] at h
        cases ht : am_tl i pc lo st M with
        | none => rw [ht] at h; cases h
        | some q =>
          rw [ht] at h
          exact am_le_tr (am_tl_le ht) (ih _ _ _ _ _ _ _ h)
      · rw [if_neg h1] at h
        by_cases h2 : i.1 < 70
        · rw [if_pos h2] at h
          cases hc : am_ca i st with
          | none => rw [hc] at h; cases h
          | some q =>
            rw [hc] at h
            dsimp only at h
            cases hr : am_run n q.1 0 q.2.1 [] M with
            | none => rw [hr] at h; cases h
            | some r1 =>
              rw [hr] at h
              exact am_le_tr (ih _ _ _ _ _ _ _ hr) (ih _ _ _ _ _ _ _ h)
        · rw [if_neg h2] at h
          cases hc : am_rf i.1 st with
          | none => rw [hc] at h; cases h
          | some r1 => rw [hc] at h; cases h; exact am_le_rf M
-- an end
def am_re (y : Nat) (r : Option am_V) (pc : Nat) : Prop := match r with
  | none => decode (am_cd y) pc = .ok (.return_, 1) ∧ am_rt y = none
  | some (.inl v) => decode (am_cd y) pc = .ok (.ireturn, 1) ∧ ∃ ty, am_rt y = some ty ∧ narrow ty (.int v) = .int v
  | some (.inr _) => decode (am_cd y) pc = .ok (.areturn, 1) ∧ ∃ n, am_rt y = some (.object n)
def am_Fin (p : Program) (l : Launch) (e : Env) (R : Room) (s : State) (m : MethodId) (args : Array Value) (below : List Frame) (meth : Method) (c : Code) (Q : State → Prop) (D : va_G) (base y : Nat) (r : Option am_V) (M : am_M) (cells slots : Nat) : Prop :=
  ∀ (H : Heap) (locs : List Loc) (ls : Array Slot) (pc : Nat), am_Rep D s base M H → (∀ q ∈ locs, base ≤ q.base) → am_re y r pc → am_wt M r.toList → W p l e R s m args below meth c H locs cells slots Q (F0 m pc ls (r.toList.map am_v))
def am_Snd (n : Nat) : Prop := ∀ (y pc : Nat) (lo st : List am_V) (M : am_M) (r : Option am_V) (M' : am_M), am_run n y pc lo st M = some (r, M') → ∀ (p : Program) (l : Launch) (e : Env) (R : Room) (s : State) (m : MethodId) (args : Array Value) (below : List Frame) (meth : Method) (c : Code) (Q : State → Prop) (D : va_G) (base cells slots : Nat), am_At p s m args meth c D y → am_lv y ≤ R.frames → 40 * am_lv y ≤ R.locals → cells + (am_sz M' - am_sz M) ≤ R.cells → slots + (am_sl M' - am_sl M) ≤ R.slots →
  am_Fin p l e R s m args below meth c Q D base y r M' (cells + (am_sz M' - am_sz M)) (slots + (am_sl M' - am_sl M)) → am_Ok p l e R s m args below meth c Q D base y pc lo st M cells slots
theorem am_rfs {i : am_I} {r : Option am_V} (hi : am_ins y pc = some i) (h6 : ¬ i.1 < 60) (h7 : ¬ i.1 < 70) (hs : am_rf i.1 st = some r) : am_re y r pc ∧ st = r.toList := by
  have hk := am_chk_of hi
  obtain ⟨op, x, k1, z, w, v⟩ := i
  dsimp only at hs h6 h7
  unfold am_rf at hs
  split at hs
  · cases hs
    have hq := hk.2
    simp only [am_lk, decide_eq_true_eq] at hq
    exact ⟨⟨hk.1, _, hq, rfl⟩, rfl⟩
  · split at hs
    · rename_i h0
      cases hs
      have hq := hk.2
      simp only [am_lk, decide_eq_true_eq] at hq
      exact ⟨⟨hk.1, _, hq, by rcases h0 with rfl | rfl <;> rfl⟩, rfl⟩
    · cases hs
  · cases hs
    have hq := hk.2
    simp only [am_lk] at hq
    split at hq
    · rename_i n hn
      exact ⟨⟨hk.1, n, hn⟩, rfl⟩
    · cases hq
  · cases hs
    have hq := hk.2
    simp only [am_lk, decide_eq_true_eq] at hq
    exact ⟨⟨hk.1, hq⟩, rfl⟩
  · cases hs
-- a method's contract out of its run
def am_wy (y : Nat) : List Jvm.Cond := .code (am_nm y) (am_cd y) (am_mx y) (am_rt y) :: am_ws
def am_rm (y mc ms : Nat) : Room := { frames := am_lv y, cells := mc, slots := ms, locals := 40 * am_lv y }
def am_Pc (D : va_G) (base : Nat) (M : am_M) (av : List am_V) : Array Value → State → Prop := va_Pc (av.map am_v) (fun U => am_Rep D U base M U.heap ∧ am_K D U)
def am_Qc (D : va_G) (base : Nat) (M : am_M) (r : Option am_V) : Array Value → State → Outcome → State → Prop := fun _ _ oc t => oc = .returned (r.map am_v) ∧ am_Rep D t base M t.heap
theorem am_args_mem (av : List am_V) : ∀ (k i : Nat) (v : am_V), av[i]? = some v → (k + i, am_v v) ∈ lv_args k (av.map am_v) := by
  induction av with
  | nil => intro k i v h; simp at h
  | cons w av ih =>
    intro k i v h
    rw [List.map_cons, lv_args, if_neg (by rw [am_v_cat]; decide)]
    cases i with
    | zero =>
      rw [List.getElem?_cons_zero] at h
      cases h
      exact List.mem_cons_self
    | succ i =>
      rw [List.getElem?_cons_succ] at h
      have h1 := ih (k + 1) i v h
      rw [show k + 1 + i = k + (i + 1) by omega] at h1
      exact List.mem_cons_of_mem _ h1
theorem am_sl_len (av : List am_V) : (lg_sl (av.map am_v)).length = av.length := by
  induction av with
  | nil => rfl
  | cons w av ih =>
    have h1 : lg_sl (am_v w :: av.map am_v) = [.val (am_v w)] ++ lg_sl (av.map am_v) := by
      simp only [lg_sl, List.flatMap_cons]
      rw [if_neg (by rw [am_v_cat]; decide)]
    rw [List.map_cons, h1, List.length_append, ih, List.length_cons]
    simp; omega
theorem am_entry {av : List am_V} {n : Nat} (h : av.length ≤ n) : am_lo ((lg_sl (av.map am_v) ++ List.replicate (n - (lg_sl (av.map am_v)).length) Slot.unset).toArray) (av ++ List.replicate (n - av.length) am_u) n := by
  have hl := lv_entry (av.map am_v) (n := n) (by rw [am_sl_len]; exact h)
  refine ⟨hl.1, hl.2.1, by simp; omega, fun i v hi hv => ?_⟩
  by_cases hlt : i < av.length
  · rw [List.getElem?_append_left hlt] at hi
    have h1 := am_args_mem av 0 i v hi
    rw [Nat.zero_add] at h1
    exact hl.2.2 _ h1
  · rw [List.getElem?_append_right (by omega)] at hi
    exact absurd (List.eq_of_mem_replicate (List.mem_of_getElem? hi)) hv
theorem am_wt_rep {M : am_M} {av : List am_V} {n : Nat} (h : am_wt M av) : am_wt M (av ++ List.replicate n am_u) := fun v hv => by
  rcases List.mem_append.mp hv with h1 | h1
  · exact h v h1
  · rw [List.eq_of_mem_replicate h1]
    exact am_wv_u M
theorem am_ofW {l : Launch} {y : MethodName} {ws ws' : List Jvm.Cond} {rm : Room} {Pc : Array Value → State → Prop} {Qc : Array Value → State → Outcome → State → Prop} {mc ms : Nat} {free : Addr → Prop} {cc : ByteArray} {maxL : Nat} {ret : Option FieldType}
    (hy : plainFor y = true) (hw : ws = Jvm.Cond.code y cc maxL ret :: ws')
    (body : ∀ p e s m args below meth c s₁, BodyLoose p l y (headSpec ws rm) cc maxL ret e s m args below meth c s₁ → c.maxLocals = maxL → Pc args s →
      W p l e (headSpec ws rm).room s m args below meth c s.heap [] 0 0 (MQ below Qc args s mc ms free) (entryFrame m args maxL)) : Met l y ws rm Pc Qc mc ms free := by
  refine MetFree.of_bodySF (code := cc) (maxLocals := maxL) (ret := ret) hy ?_ ?_
  · intro args s m h hn
    obtain ⟨meth, c, h1, h2, h3, h4, h5, h6, -, -⟩ := Cond.code_spec hn (atoms_spec (ws := ws) h _ (by rw [hw]; exact List.mem_cons_self))
    exact ⟨meth, c, h1, h2, h3, h4, h5, h6⟩
  · intro p e s m args below meth c s₁ B hml hP _
    have hh0 : s₁.heap = s.heap := by rw [B.state]; rfl
    obtain ⟨t, a1, o, b1, b2, b3⟩ := body p e s m args below meth c s₁ B hml hP s₁ hh0 (Stand.of_body B)
    exact ⟨t, o, a1, b1, b2, ⟨b3.1, b3.2⟩⟩
set_option maxHeartbeats 4000000 in
theorem am_met {n : Nat} (IH : am_Snd n) {y : Nat} {av : List am_V} {M M' : am_M} {r : Option am_V} {D : va_G} {base : Nat} (l : Launch) (hpl : plainFor (am_nm y) = true) (hlen : av.length ≤ am_mx y) (hwt : am_wt M av) (hrun : am_run n y 0 (av ++ List.replicate (am_mx y - av.length) am_u) [] M = some (r, M')) :
    Met l (am_nm y) (am_wy y) (am_rm y (am_sz M' - am_sz M) (am_sl M' - am_sl M)) (am_Pc D base M av) (fun a st oc t => am_Qc D base M' r a st oc t ∧ am_wt M' r.toList) (am_sz M' - am_sz M) (am_sl M' - am_sl M) (fun q => base ≤ q) := by
  refine am_ofW (cc := am_cd y) (maxL := am_mx y) (ret := am_rt y) hpl rfl ?_
  intro p e s m args below meth c s₁ B hml hv
  obtain ⟨rfl, hRep, hK⟩ := hv
  have hts := atoms_spec (ws := am_wy y) B.pre
  have hlocks := B.notSynchronized
  have C : am_At p s m (av.map am_v).toArray meth c D y := ⟨B.exec, B.bytes, hml, findClass_of_methodNamed B.named, fun w hw => hts w (List.mem_cons_of_mem _ hw), fun h => by rw [(name_of_methodNamed B.named B.method).1]; exact h, hK⟩
  have hr := B.returns
  rw [lg_entry_eq]
  refine IH y 0 _ [] M r M' hrun p l e _ s m _ below meth c _ D base 0 0 C (Nat.le_refl _) (Nat.le_refl _) (by show 0 + _ ≤ _; rw [Nat.zero_add]; exact Nat.le_refl _) (by show 0 + _ ≤ _; rw [Nat.zero_add]; exact Nat.le_refl _) ?_ s.heap [] _ hRep (am_entry hlen) (am_wt_rep hwt) (fun v hv => by cases hv) (fun q hq => by cases hq)
  rw [Nat.zero_add, Nat.zero_add]
  intro H locs ls pc hR hf hre hwr
  have hq : ∀ t : State, t.heap = H → s.WarmedH t.vm → am_Qc D base M' r (av.map am_v).toArray s (.returned (r.map am_v)) t ∧ am_wt M' r.toList := fun t ht hW => ⟨⟨rfl, by rw [ht]; exact hR.moved hW.alike⟩, hwr⟩
  match r, hre, hq with
  | none, hre, hq => exact W.vret C.1 C.2.1 (by rw [hr]; exact hre.2) hq hf hre.1 hlocks
  | some (.inl v), hre, hq =>
    obtain ⟨h1, ty, h2, h3⟩ := hre
    exact W.zret C.1 C.2.1 (by rw [hr]; exact h2) h3 hq hf h1 hlocks
  | some (.inr (.inl q)), hre, hq =>
    obtain ⟨h1, n0, h2⟩ := hre
    refine W.aret C.1 C.2.1 (by rw [hr]; exact h2) (Or.inl ⟨n0, rfl⟩) ?_ hq hf h1 hlocks
    obtain ⟨t0, o⟩ := q
    cases o with
    | none => exact Or.inl rfl
    | some a => exact Or.inr ⟨a, rfl⟩
  | some (.inr (.inr u)), hre, hq =>
    obtain ⟨h1, n0, h2⟩ := hre
    exact W.aret C.1 C.2.1 (by rw [hr]; exact h2) (Or.inl ⟨n0, rfl⟩) (Or.inl rfl) hq hf h1 hlocks
theorem am_good_ws {y : Nat} (h : Jvm.Cond.code (am_nm y) (am_cd y) (am_mx y) (am_rt y) ∈ am_ws) : GoodIn am_ws (am_wy y) := fun w hw => by
  have hm : w ∈ am_ws := by
    rcases List.mem_cons.mp hw with h1 | h1
    · rw [h1]; exact h
    · exact h1
  exact ⟨hm, am_ws_good w hm⟩
theorem am_blind {D : va_G} {base : Nat} {M : am_M} {av : List am_V} : FrameBlind (am_Pc D base M av) := fun a U g mk q => by
  obtain ⟨h1, h2, h3⟩ := q
  exact ⟨h1, am_Rep.moved (u := U) (U := U.calling g mk a) (Vm.Alike.refl U.vm) h2, h3.calling⟩
set_option maxHeartbeats 4000000 in
theorem am_back {r : Option am_V} {M' : am_M} {st' : List am_V} {H0 : Heap} {a : Array Value} {locs : List Loc} {ls : Array Slot} {st0 : List Value} {mc ms : Nat} {lo : List am_V} (hf : ∀ q ∈ locs, base ≤ q.base) (hL : am_lo ls lo (am_mx y)) (hwl : am_wt M' lo) (hws : am_wt M' st')
    (hr : va_Run p l e R s m args below meth c H0 locs cells slots mc ms (F0 m pc ls st0) (st'.map am_v) (fun st oc t => am_Qc D base M' r a st oc t ∧ am_wt M' r.toList) (fun q => base ≤ q))
    (k : am_Ok p l e R s m args below meth c Q D base y (pc + 3) lo (r.toList ++ st') M' (cells + mc) (slots + ms)) : W p l e R s m args below meth c H0 locs cells slots Q (F0 m pc ls st0) := by
  intro T hT X
  obtain ⟨v, st₀, t, T', L, h0, X', hLq, e1, e2, ⟨⟨hv, hR⟩, hwr⟩, stp⟩ := hr T hT X
  have hv' : v = r.map am_v := by cases hv; rfl
  subst hv'
  have hR' : am_Rep D s base M' T'.heap := by
    rw [e1]
    exact hR.moved (by rw [← e2]; exact X'.warmed.alike.symm)
  obtain ⟨t2, a1, b1⟩ := k T'.heap (locs ++ L) ls hR' hL hwl (fun w hw => by
      rcases List.mem_append.mp hw with h | h
      · exact hwr w h
      · exact hws w h) (fun q hq => by
      rcases List.mem_append.mp hq with h | h
      · exact hf q h
      · exact hLq q h) T' rfl X'
  refine ⟨t2, stp t2 ?_, b1⟩
  have e3 : (r.toList ++ st').map am_v = (r.map am_v).toList ++ st'.map am_v := by
    rw [List.map_append]
    cases r <;> rfl
  rw [e3] at a1
  exact a1

theorem am_callB {x k z w n mc ms : Nat} (C : am_At p s m args meth c D y) (h : am_lkc y x k z w n = true) (hfr : am_lv y ≤ R.frames) (hlo : 40 * am_lv y ≤ R.locals) : CallB R s args (am_nm y).cls w (am_nm x) (am_cd x) (am_mx x) (am_rt x) (am_wy x) (am_rm x mc ms) mc ms n := by
  simp only [am_lkc, Bool.and_eq_true, decide_eq_true_eq] at h
  obtain ⟨⟨⟨⟨⟨⟨⟨⟨⟨⟨h1, h2⟩, h3⟩, h4⟩, h5⟩, h6⟩, h7⟩, h8⟩, h9⟩, h10⟩, h11⟩ := h
  exact callB_of n C.2.2.2.2.1 (am_good_ws (am_code x h6)) rfl rfl rfl (C.2.2.2.2.1 _ h8) (C.2.2.2.2.1 _ h7) ⟨h9, h10, h11⟩ ⟨by show am_lv x + 1 ≤ R.frames; omega, by show 8 + (am_mx x + 11) + 40 * am_lv x ≤ R.locals; omega⟩
theorem am_callN {x k z w n mc ms : Nat} (C : am_At p s m args meth c D y) (h : am_lkd y x k z n = true) (hnw : ((am_nm y).cls, w, am_nm x, am_host) ∈ am_nw) (hfr : am_lv y ≤ R.frames) (hlo : 40 * am_lv y ≤ R.locals) : va_CN R s args (am_nm y).cls w (am_nm x) am_host (am_cd x) (am_mx x) (am_rt x) (am_wy x) (am_rm x mc ms) mc ms n := by
  simp only [am_lkd, Bool.and_eq_true, decide_eq_true_eq] at h
  obtain ⟨⟨⟨⟨⟨⟨⟨⟨⟨h1, h2⟩, h3⟩, h4⟩, h5⟩, h6⟩, h8⟩, h9⟩, h10⟩, h11⟩ := h
  exact va_cnB n C.2.2.2.2.1 (am_good_ws (am_code x h6)) rfl rfl rfl (C.2.2.2.2.2.2.2.1 _ hnw) (C.2.2.2.2.1 _ h8) ⟨h9, h10, h11⟩ ⟨by show am_lv x + 1 ≤ R.frames; omega, by show 8 + (am_mx x + 11) + 40 * am_lv x ≤ R.locals; omega⟩
theorem am_cfs {i : am_I} {q : Nat × List am_V × List am_V} (h : am_cf i st = some q) : q.1 = i.2.1 ∧ q.2.1 = (st.take i.2.2.1).reverse ++ List.replicate (i.2.2.2.1 - i.2.2.1) am_u ∧ q.2.2 = st.drop i.2.2.1 ∧ i.2.2.1 ≤ st.length ∧ q.2.2.length ≤ 8 := by
  unfold am_cf at h
  split at h
  · rename_i h0
    cases h
    exact ⟨rfl, rfl, rfl, h0.1, h0.2⟩
  · cases h
theorem am_wt_app {M : am_M} {a b : List am_V} (h : am_wt M (a ++ b)) : am_wt M a ∧ am_wt M b := ⟨fun v hv => h v (List.mem_append_left _ hv), fun v hv => h v (List.mem_append_right _ hv)⟩
theorem am_wt_rev {M : am_M} {a : List am_V} (h : am_wt M a.reverse) : am_wt M a := fun v hv => h v (List.mem_reverse.mpr hv)
set_option maxHeartbeats 4000000 in
theorem am_s61 {n x k z w : Nat} {st' av : List am_V} {r : Option am_V} {M' : am_M} (IH : am_Snd n) (C : am_At p s m args meth c D y) (hd : decode (am_cd y) pc = .ok (.invokestatic w, 3)) (hlk : am_lkc y x k z w k = true) (hst : Jvm.Cond.static (am_nm x) ∈ am_ws) (hav : av.length = k) (h8 : st'.length ≤ 8) (hrun : am_run n x 0 (av ++ List.replicate (z - k) am_u) [] M = some (r, M')) (hfr : am_lv y ≤ R.frames) (hlo : 40 * am_lv y ≤ R.locals) (hc : cells + (am_sz M' - am_sz M) ≤ R.cells) (hs : slots + (am_sl M' - am_sl M) ≤ R.slots)
    (kk : am_Ok p l e R s m args below meth c Q D base y (pc + 3) lo (r.toList ++ st') M' (cells + (am_sz M' - am_sz M)) (slots + (am_sl M' - am_sl M))) : am_Ok p l e R s m args below meth c Q D base y pc lo (av.reverse ++ st') M cells slots := by
  have hq := hlk
  simp only [am_lkc, Bool.and_eq_true, decide_eq_true_eq] at hq
  obtain ⟨⟨⟨⟨⟨⟨⟨⟨⟨⟨h1, h2⟩, h3⟩, h4⟩, h5⟩, h6⟩, h7⟩, h8'⟩, h9⟩, h10⟩, h11⟩ := hq
  subst h2
  subst hav
  intro H locs ls hR hL hwl hws hf
  have hle := am_run_le _ _ _ _ _ _ _ _ hrun
  have hw2 := am_wt_app hws
  refine am_back (M' := M') (st' := st') hf hL (am_le_wt hle hR hwl) (am_le_wt hle hR hw2.2) (va_runS (As := av.map am_v) ⟨C.1, C.2.1, C.2.2.1, C.2.2.2.1, C.2.2.2.2.1⟩ (am_met IH l h1 h3 (am_wt_rev hw2.1) hrun) ⟨am_callB C hlk hfr hlo, C.2.2.2.2.1 _ hst⟩ ⟨am_blind, fun U hU hW => ⟨rfl, by rw [hU]; exact hR.moved hW.alike, C.2.2.2.2.2.2.moved hW⟩⟩ rfl (by rw [List.length_map]) hL.1 (by show (av.reverse ++ st').map am_v = _; rw [List.map_append, List.map_reverse]) (lv_room (by rw [am_v_sum]; exact h8)) hd ⟨hc, hs⟩) kk
set_option maxHeartbeats 4000000 in
theorem am_s60 {n x k z w v a : Nat} {st' av : List am_V} {r : Option am_V} {M' : am_M} {C0 : vw_C} (IH : am_Snd n) (C : am_At p s m args meth c D y) (hd : decode (am_cd y) pc = .ok (.invokevirtual w, 3)) (hlk : am_lkc y x (k + 1) z w k = true) (hin : Jvm.Cond.instanceMethod (am_nm x) ∈ am_ws) (hsel : Jvm.Cond.selects (am_nm x).cls (am_nm x) (am_nm x) ∈ am_ws) (hcl : am_cl[am_ci v]? = some C0) (hC0 : C0.1 = (am_nm x).cls) (hak : am_ak v = 0) (hav : av.length = k) (h8 : st'.length ≤ 8) (hrun : am_run n x 0 (.inr (.inl (v, some a)) :: av ++ List.replicate (z - (k + 1)) am_u) [] M = some (r, M')) (hfr : am_lv y ≤ R.frames) (hlo : 40 * am_lv y ≤ R.locals) (hc : cells + (am_sz M' - am_sz M) ≤ R.cells) (hs : slots + (am_sl M' - am_sl M) ≤ R.slots)
    (kk : am_Ok p l e R s m args below meth c Q D base y (pc + 3) lo (r.toList ++ st') M' (cells + (am_sz M' - am_sz M)) (slots + (am_sl M' - am_sl M))) : am_Ok p l e R s m args below meth c Q D base y pc lo ((.inr (.inl (v, some a)) :: av : List am_V).reverse ++ st') M cells slots := by
  have hq := hlk
  simp only [am_lkc, Bool.and_eq_true, decide_eq_true_eq] at hq
  obtain ⟨⟨⟨⟨⟨⟨⟨⟨⟨⟨h1, h2⟩, h3⟩, h4⟩, h5⟩, h6⟩, h7⟩, h8'⟩, h9⟩, h10⟩, h11⟩ := hq
  subst h2
  subst hav
  intro H locs ls hR hL hwl hws hf
  have hle := am_run_le _ _ _ _ _ _ _ _ hrun
  have hw2 := am_wt_app hws
  have hw3 := am_wt_rev hw2.1
  obtain ⟨hb, htg, r0, q1, cell, q2, q3, q4, q5⟩ := am_obj hR (am_wt_h hw3) hak
  have hr0 : r0 = C0 := Option.some.inj (q1.symm.trans hcl)
  subst hr0
  refine am_back (M' := M') (st' := st') hf hL (am_le_wt hle hR hwl) (am_le_wt hle hR hw2.2) (va_runV (C := (am_nm x).cls) (b := a) (As := av.map am_v) ⟨C.1, C.2.1, C.2.2.1, C.2.2.2.1, C.2.2.2.2.1⟩ (am_met (av := .inr (.inl (v, some a)) :: av) IH l h1 h3 hw3 hrun) ⟨am_callB C hlk hfr hlo, C.2.2.2.2.1 _ hin, C.2.2.2.2.1 _ hsel⟩ ⟨am_blind, ⟨cell, q2, by rw [q4]; rfl, ?_⟩, fun U hU hW => ⟨rfl, by rw [hU]; exact hR.moved hW.alike, C.2.2.2.2.2.2.moved hW⟩⟩ rfl (by rw [List.length_map]) hL.1 ?_ (lv_room (by rw [am_v_sum]; exact h8)) hd ⟨hc, hs⟩) kk
  · rw [← hC0, q3]
    exact (C.2.2.2.2.2.2.1.1 _ _ q1).2.1
  · show ((.inr (.inl (v, some a)) :: av : List am_V).reverse ++ st').map am_v = _
    rw [List.reverse_cons, List.append_assoc, List.map_append, List.map_reverse]
    rfl
set_option maxHeartbeats 4000000 in
theorem am_s62 {n x k z w v a : Nat} {st' av : List am_V} {r : Option am_V} {M' : am_M} (IH : am_Snd n) (C : am_At p s m args meth c D y) (hd : decode (am_cd y) pc = .ok (.invokespecial w, 3)) (hlk : am_lkc y x (k + 1) z w k = true) (hin : Jvm.Cond.instanceMethod (am_nm x) ∈ am_ws) (hnm : (am_nm x).name = "<init>") (hrt : am_rt x = none) (hav : av.length = k) (h8 : st'.length ≤ 8) (hrun : am_run n x 0 (.inr (.inl (v, some a)) :: av ++ List.replicate (z - (k + 1)) am_u) [] M = some (r, M')) (hfr : am_lv y ≤ R.frames) (hlo : 40 * am_lv y ≤ R.locals) (hc : cells + (am_sz M' - am_sz M) ≤ R.cells) (hs : slots + (am_sl M' - am_sl M) ≤ R.slots)
    (kk : am_Ok p l e R s m args below meth c Q D base y (pc + 3) lo (r.toList ++ st') M' (cells + (am_sz M' - am_sz M)) (slots + (am_sl M' - am_sl M))) : am_Ok p l e R s m args below meth c Q D base y pc lo ((.inr (.inl (v, some a)) :: av : List am_V).reverse ++ st') M cells slots := by
  have hq := hlk
  simp only [am_lkc, Bool.and_eq_true, decide_eq_true_eq] at hq
  obtain ⟨⟨⟨⟨⟨⟨⟨⟨⟨⟨h1, h2⟩, h3⟩, h4⟩, h5⟩, h6⟩, h7⟩, h8'⟩, h9⟩, h10⟩, h11⟩ := hq
  subst h2
  subst hav
  intro H locs ls hR hL hwl hws hf
  have hle := am_run_le _ _ _ _ _ _ _ _ hrun
  have hw2 := am_wt_app hws
  have hw3 := am_wt_rev hw2.1
  have hcb := am_callB (R := R) (mc := am_sz M' - am_sz M) (ms := am_sl M' - am_sl M) C hlk hfr hlo
  rw [hrt] at hcb
  refine am_back (M' := M') (st' := st') hf hL (am_le_wt hle hR hwl) (am_le_wt hle hR hw2.2) (va_runI (b := a) (As := av.map am_v) ⟨C.1, C.2.1, C.2.2.1, C.2.2.2.1, C.2.2.2.2.1⟩ (am_met (av := .inr (.inl (v, some a)) :: av) IH l h1 h3 hw3 hrun) ⟨hcb, hnm, C.2.2.2.2.1 _ hin⟩ ⟨am_blind, fun U hU hW => ⟨rfl, by rw [hU]; exact hR.moved hW.alike, C.2.2.2.2.2.2.moved hW⟩⟩ rfl (by rw [List.length_map]) hL.1 ?_ (lv_room (by rw [am_v_sum]; exact h8)) hd ⟨hc, hs⟩) kk
  show ((.inr (.inl (v, some a)) :: av : List am_V).reverse ++ st').map am_v = _
  rw [List.reverse_cons, List.append_assoc, List.map_append, List.map_reverse]
  rfl
set_option maxHeartbeats 4000000 in
theorem am_s63 {n x k z w v a : Nat} {st' av : List am_V} {r : Option am_V} {M' : am_M} (IH : am_Snd n) (C : am_At p s m args meth c D y) (hd : decode (am_cd y) pc = .ok (.invokespecial w, 3)) (hlk : am_lkd y x (k + 1) z k = true) (hnw : ((am_nm y).cls, w, am_nm x, am_host) ∈ am_nw) (hin : Jvm.Cond.instanceMethod (am_nm x) ∈ am_ws) (hnm : (am_nm x).name = "<init>") (hrt : am_rt x = none) (hav : av.length = k) (h8 : st'.length ≤ 8) (hrun : am_run n x 0 (.inr (.inl (v, some a)) :: av ++ List.replicate (z - (k + 1)) am_u) [] M = some (r, M')) (hfr : am_lv y ≤ R.frames) (hlo : 40 * am_lv y ≤ R.locals) (hc : cells + (am_sz M' - am_sz M) ≤ R.cells) (hs : slots + (am_sl M' - am_sl M) ≤ R.slots)
    (kk : am_Ok p l e R s m args below meth c Q D base y (pc + 3) lo (r.toList ++ st') M' (cells + (am_sz M' - am_sz M)) (slots + (am_sl M' - am_sl M))) : am_Ok p l e R s m args below meth c Q D base y pc lo ((.inr (.inl (v, some a)) :: av : List am_V).reverse ++ st') M cells slots := by
  have hq := hlk
  simp only [am_lkd, Bool.and_eq_true, decide_eq_true_eq] at hq
  obtain ⟨⟨⟨⟨⟨⟨⟨⟨⟨h1, h2⟩, h3⟩, h4⟩, h5⟩, h6⟩, h8'⟩, h9⟩, h10⟩, h11⟩ := hq
  subst h2
  subst hav
  intro H locs ls hR hL hwl hws hf
  have hle := am_run_le _ _ _ _ _ _ _ _ hrun
  have hw2 := am_wt_app hws
  have hw3 := am_wt_rev hw2.1
  have hcb := am_callN (R := R) (mc := am_sz M' - am_sz M) (ms := am_sl M' - am_sl M) C hlk hnw hfr hlo
  rw [hrt] at hcb
  refine am_back (M' := M') (st' := st') hf hL (am_le_wt hle hR hwl) (am_le_wt hle hR hw2.2) (va_runIN (b := a) (As := av.map am_v) ⟨C.1, C.2.1, C.2.2.1, C.2.2.2.1, C.2.2.2.2.1⟩ (am_met (av := .inr (.inl (v, some a)) :: av) IH l h1 h3 hw3 hrun) ⟨hcb, hnm, C.2.2.2.2.1 _ hin⟩ ⟨am_blind, fun U hU hW => ⟨rfl, by rw [hU]; exact hR.moved hW.alike, C.2.2.2.2.2.2.moved hW⟩⟩ rfl (by rw [List.length_map]) hL.1 ?_ (lv_room (by rw [am_v_sum]; exact h8)) hd ⟨hc, hs⟩) kk
  show ((.inr (.inl (v, some a)) :: av : List am_V).reverse ++ st').map am_v = _
  rw [List.reverse_cons, List.append_assoc, List.map_append, List.map_reverse]
  rfl
set_option maxHeartbeats 4000000 in
theorem am_cas {n : Nat} (IH : am_Snd n) (C : am_At p s m args meth c D y) {i : am_I} {q : Nat × List am_V × List am_V} {r : Option am_V} {M' : am_M} (hi : am_ins y pc = some i) (h6 : ¬ i.1 < 60) (h7 : i.1 < 70) (hca : am_ca i st = some q) (hrun : am_run n q.1 0 q.2.1 [] M = some (r, M')) (hfr : am_lv y ≤ R.frames) (hlo : 40 * am_lv y ≤ R.locals) (hc : cells + (am_sz M' - am_sz M) ≤ R.cells) (hs : slots + (am_sl M' - am_sl M) ≤ R.slots)
    (kk : am_Ok p l e R s m args below meth c Q D base y (pc + 3) lo (r.toList ++ q.2.2) M' (cells + (am_sz M' - am_sz M)) (slots + (am_sl M' - am_sl M))) : am_Ok p l e R s m args below meth c Q D base y pc lo st M cells slots := by
  have hk := am_chk_of hi
  obtain ⟨op, x, k, z, w, v⟩ := i
  obtain ⟨y1, lo1, st'⟩ := q
  dsimp only at h6 h7 hrun kk
  have hop : op = 60 ∨ op = 61 ∨ op = 62 ∨ op = 63 := by
    have hq := hk.2
    unfold am_lk at hq
    split at hq <;> first | (exfalso; simp at h6; done) | (exfalso; simp at h7; done) | (simp_all; done) | (simp_all; omega)
  rcases hop with rfl | rfl | rfl | rfl
  · have hca : (match (st.take k).reverse with | .inr (.inl (t, some _)) :: _ => if t = v then am_cf (60, x, k, z, w, v) st else none | _ => none) = some (y1, lo1, st') := hca
    split at hca
    · rename_i t a av hrev
      split at hca
      · rename_i ht
        subst ht
        obtain ⟨e1, e2, e3, e4, e5⟩ := am_cfs hca
        dsimp only at e1 e2 e3 e4 e5
        subst e1
        have hst : st = (.inr (.inl (t, some a)) :: av : List am_V).reverse ++ st' := by rw [← hrev, List.reverse_reverse, e3, List.take_append_drop]
        have hlen : av.length + 1 = k := by
          have h1 : (st.take k).reverse.length = k := by rw [List.length_reverse, List.length_take]; omega
          rw [hrev] at h1
          exact h1
        rw [hrev] at e2
        subst e2
        have hq := hk.2
        simp only [am_lk] at hq
        split at hq
        · rename_i C0 hC0
          simp only [Bool.and_eq_true, decide_eq_true_eq] at hq
          obtain ⟨⟨⟨⟨q1, q2⟩, q3⟩, q4⟩, q5⟩ := hq
          subst hlen
          rw [hst]
          exact am_s60 IH C hk.1 q1 q2 q3 hC0 q4 q5 rfl e5 hrun hfr hlo hc hs kk
        · cases hq
      · cases hca
    · cases hca
  · have hca : am_cf (61, x, k, z, w, v) st = some (y1, lo1, st') := hca
    obtain ⟨e1, e2, e3, e4, e5⟩ := am_cfs hca
    dsimp only at e1 e2 e3 e4 e5
    subst e1
    subst e2
    have hst : st = ((st.take k).reverse : List am_V).reverse ++ st' := by rw [List.reverse_reverse, e3, List.take_append_drop]
    have hlen : (st.take k).reverse.length = k := by rw [List.length_reverse, List.length_take]; omega
    have hq := hk.2
    simp only [am_lk, Bool.and_eq_true, decide_eq_true_eq] at hq
    rw [hst]
    exact am_s61 IH C hk.1 hq.1 hq.2 hlen e5 hrun hfr hlo hc hs kk
  · have hca : (match (st.take k).reverse with | .inr (.inl (t, some _)) :: _ => if t = v then am_cf (62, x, k, z, w, v) st else none | _ => none) = some (y1, lo1, st') := hca
    split at hca
    · rename_i t a av hrev
      split at hca
      · rename_i ht
        subst ht
        obtain ⟨e1, e2, e3, e4, e5⟩ := am_cfs hca
        dsimp only at e1 e2 e3 e4 e5
        subst e1
        have hst : st = (.inr (.inl (t, some a)) :: av : List am_V).reverse ++ st' := by rw [← hrev, List.reverse_reverse, e3, List.take_append_drop]
        have hlen : av.length + 1 = k := by
          have h1 : (st.take k).reverse.length = k := by rw [List.length_reverse, List.length_take]; omega
          rw [hrev] at h1
          exact h1
        rw [hrev] at e2
        subst e2
        have hq := hk.2
        simp only [am_lk, Bool.and_eq_true, decide_eq_true_eq] at hq
        obtain ⟨⟨⟨q1, q2⟩, q3⟩, q4⟩ := hq
        subst hlen
        rw [hst]
        exact am_s62 IH C hk.1 q1 q2 q3 q4 rfl e5 hrun hfr hlo hc hs kk
      · cases hca
    · cases hca
  · have hca : (match (st.take k).reverse with | .inr (.inl (t, some _)) :: _ => if t = v then am_cf (63, x, k, z, w, v) st else none | _ => none) = some (y1, lo1, st') := hca
    split at hca
    · rename_i t a av hrev
      split at hca
      · rename_i ht
        subst ht
        obtain ⟨e1, e2, e3, e4, e5⟩ := am_cfs hca
        dsimp only at e1 e2 e3 e4 e5
        subst e1
        have hst : st = (.inr (.inl (t, some a)) :: av : List am_V).reverse ++ st' := by rw [← hrev, List.reverse_reverse, e3, List.take_append_drop]
        have hlen : av.length + 1 = k := by
          have h1 : (st.take k).reverse.length = k := by rw [List.length_reverse, List.length_take]; omega
          rw [hrev] at h1
          exact h1
        rw [hrev] at e2
        subst e2
        have hq := hk.2
        simp only [am_lk, Bool.and_eq_true, decide_eq_true_eq] at hq
        obtain ⟨⟨⟨⟨q1, q5⟩, q2⟩, q3⟩, q4⟩ := hq
        subst hlen
        rw [hst]
        exact am_s63 IH C hk.1 q1 q5 q2 q3 q4 rfl e5 hrun hfr hlo hc hs kk
      · cases hca
    · cases hca
set_option maxHeartbeats 4000000 in
theorem am_snd (n : Nat) : am_Snd n := by
  induction n with
  | zero => intro y pc lo st M r M' h; simp [am_run] at h
  | succ n ih =>
    intro y pc lo st M r M' h p l e R s m args below meth c Q D base cells slots C hfr hlo hc hs hF
    rw [am_run] at h
    cases hi : am_ins y pc with
    | none => rw [hi] at h; cases h
    | some i =>
      rw [hi] at h
      dsimp only at h
      have hlv := am_lv1 y pc i hi
      by_cases h1 : i.1 < 60
      · rw [if_pos h1] at h
        cases ht : am_tl i pc lo st M with
        | none => rw [ht] at h; cases h
        | some q =>
          rw [ht] at h
          dsimp only at h
          have g1 := am_tl_le ht
          have g2 := am_run_le _ _ _ _ _ _ _ _ h
          refine am_tls C hi ht (by omega) (by omega) (by have := g1.1; have := g2.1; omega) (by have := g1.2.1; have := g2.2.1; omega) (fun cells' slots' e1 e2 => ?_)
          refine ih _ _ _ _ _ _ _ h p l e R s m args below meth c Q D base cells' slots' C hfr hlo (by have := g1.1; have := g2.1; omega) (by have := g1.2.1; have := g2.2.1; omega) ?_
          rw [show cells' + (am_sz M' - am_sz q.2.2.2) = cells + (am_sz M' - am_sz M) by have := g1.1; have := g2.1; omega, show slots' + (am_sl M' - am_sl q.2.2.2) = slots + (am_sl M' - am_sl M) by have := g1.2.1; have := g2.2.1; omega]
          exact hF
      · rw [if_neg h1] at h
        by_cases h2 : i.1 < 70
        · rw [if_pos h2] at h
          cases hca : am_ca i st with
          | none => rw [hca] at h; cases h
          | some q =>
            rw [hca] at h
            dsimp only at h
            cases hr : am_run n q.1 0 q.2.1 [] M with
            | none => rw [hr] at h; cases h
            | some r1 =>
              rw [hr] at h
              dsimp only at h
              obtain ⟨r1, M1⟩ := r1
              dsimp only at h
              have g1 := am_run_le _ _ _ _ _ _ _ _ hr
              have g2 := am_run_le _ _ _ _ _ _ _ _ h
              refine am_cas ih C hi h1 h2 hca hr hfr hlo (by have := g1.1; have := g2.1; omega) (by have := g1.2.1; have := g2.2.1; omega) ?_
              refine ih _ _ _ _ _ _ _ h p l e R s m args below meth c Q D base _ _ C hfr hlo (by have := g1.1; have := g2.1; omega) (by have := g1.2.1; have := g2.2.1; omega) ?_
              rw [show cells + (am_sz M1 - am_sz M) + (am_sz M' - am_sz M1) = cells + (am_sz M' - am_sz M) by have := g1.1; have := g2.1; omega, show slots + (am_sl M1 - am_sl M) + (am_sl M' - am_sl M1) = slots + (am_sl M' - am_sl M) by have := g1.2.1; have := g2.2.1; omega]
              exact hF
        · rw [if_neg h2] at h
          cases hc2 : am_rf i.1 st with
          | none => rw [hc2] at h; cases h
          | some r1 =>
            rw [hc2] at h
            cases h
            obtain ⟨g1, g2⟩ := am_rfs hi h1 h2 hc2
            intro H locs ls hR hL hwl hws hf
            rw [g2] at hws ⊢
            rw [am_c0, am_c0] at hF
            exact hF H locs ls pc hR hf g1 hws
end SND4
