-- what the tables say of each instruction: its bytes, and the words that it needs
section CHK
def am_f4 (x : Nat) : Fin 4 := ⟨x % 4, Nat.mod_lt _ (by decide)⟩
def am_cd6 (k : Nat) : ClassFile.Cond := match k with
  | 0 => .eq
  | 1 => .ne
  | 2 => .lt
  | 3 => .ge
  | 4 => .gt
  | _ => .le
def am_op2 (op : Nat) : Instr := match op with
  | 13 => .iadd
  | 14 => .isub
  | 15 => .imul
  | 16 => .irem
  | 17 => .iand
  | 18 => .ixor
  | 19 => .ishl
  | _ => .ishr
def am_esw (x : Nat) : Instr × Nat := match am_sw x with
  | (true, _, d, l, h, os, _, len) => (.tableswitch d l h os.toArray, len)
  | (false, _, d, _, _, _, ps, len) => (.lookupswitch d ps.toArray, len)
def am_enc (i : am_I) (pc : Nat) : Instr × Nat := match i with
  | (1, x, _, _, _, _) => (.iload_n (am_f4 x), 1)
  | (2, x, _, _, _, _) => (.iload x, 2)
  | (3, x, _, _, _, _) => (.aload_n (am_f4 x), 1)
  | (4, x, _, _, _, _) => (.aload x, 2)
  | (5, x, _, _, _, _) => (.istore_n (am_f4 x), 1)
  | (6, x, _, _, _, _) => (.istore x, 2)
  | (7, x, _, _, _, _) => (.astore_n (am_f4 x), 1)
  | (8, x, _, _, _, _) => (.astore x, 2)
  | (9, x, y, z, _, _) => (.iinc x ((y : Int) - (z : Int)), 3)
  | (10, _, y, z, _, _) => (.iconst ((y : Int) - (z : Int)), 1)
  | (11, _, y, z, _, _) => (.bipush ((y : Int) - (z : Int)), 2)
  | (12, op, _, _, _, _) => (am_op2 op, 1)
  | (21, _, _, _, _, _) => (.dup, 1)
  | (22, _, _, _, _, _) => (.dup2, 1)
  | (24, x, _, _, _, _) => (.goto ((x : Int) - (pc : Int)), 3)
  | (25, x, k, _, _, _) => (.ifCond (am_cd6 k) ((x : Int) - (pc : Int)), 3)
  | (26, x, k, _, _, _) => (.if_icmp (am_cd6 k) ((x : Int) - (pc : Int)), 3)
  | (27, x, _, _, _, _) => (.if_acmp .eq ((x : Int) - (pc : Int)), 3)
  | (28, x, _, _, _, _) => (.if_acmp .ne ((x : Int) - (pc : Int)), 3)
  | (29, x, _, _, _, _) => (.ifnull ((x : Int) - (pc : Int)), 3)
  | (30, x, _, _, _, _) => (.ifnonnull ((x : Int) - (pc : Int)), 3)
  | (31, _, _, _, _, _) => (.aconst_null, 1)
  | (32, _, _, _, _, _) => (.arraylength, 1)
  | (33, _, _, _, _, _) => (.iaload, 1)
  | (34, _, _, _, _, _) => (.iastore, 1)
  | (35, _, _, _, _, _) => (.baload, 1)
  | (36, _, _, _, _, _) => (.bastore, 1)
  | (37, _, _, _, _, _) => (.aaload, 1)
  | (38, _, _, _, _, _) => (.aastore, 1)
  | (39, x, _, _, _, _) => (.newarray (am_at x), 2)
  | (40, _, _, _, w, _) => (.anewarray w, 3)
  | (41, _, _, _, w, _) => (.getfield w, 3)
  | (42, _, _, _, w, _) => (.getfield w, 3)
  | (43, _, _, _, w, _) => (.putfield w, 3)
  | (44, _, _, _, w, _) => (.putfield w, 3)
  | (45, _, _, _, w, _) => (.putfield w, 3)
  | (46, _, _, _, w, _) => (.putfield w, 3)
  | (47, _, _, _, w, _) => (.putfield w, 3)
  | (48, _, _, _, w, _) => (.new w, 3)
  | (49, _, _, _, w, _) => (.invokespecial w, 3)
  | (50, x, _, _, _, _) => am_esw x
  | (51, _, _, _, w, _) => (.invokestatic w, 3)
  | (60, _, _, _, w, _) => (.invokevirtual w, 3)
  | (61, _, _, _, w, _) => (.invokestatic w, 3)
  | (62, _, _, _, w, _) => (.invokespecial w, 3)
  | (63, _, _, _, w, _) => (.invokespecial w, 3)
  | (70, _, _, _, _, _) => (.ireturn, 1)
  | (71, _, _, _, _, _) => (.ireturn, 1)
  | (72, _, _, _, _, _) => (.areturn, 1)
  | _ => (.return_, 1)
def am_lkf (y x k w : Nat) : Bool := match am_cl[am_ci x]? with
  | some r => decide (k < r.2.2) && decide (Jvm.Cond.fieldLink (am_nm y).cls w (r.2.1 k).1 (r.2.1 k).2.1 (r.2.1 k).2.2.1 ∈ am_ws) && decide (am_ak x = 0)
  | none => false
def am_lkc (y x k z w n : Nat) : Bool := decide (plainFor (am_nm x) = true) && decide (am_mx x = z) && decide (k ≤ z) && decide (am_lv x + 1 ≤ am_lv y) && decide (z ≤ 20) && decide (x < am_N) && decide (Jvm.Cond.methodLink (am_nm y).cls w (am_nm x) ∈ am_ws) && decide (Jvm.Cond.initialized (am_nm x).cls ∈ am_ws) && decide ((am_nm x).cls ≠ "java/lang/invoke/MethodHandle") && decide ((am_nm x).cls ≠ "java/lang/invoke/VarHandle") && decide ((parseMethodDescriptor (am_nm x).desc).map (fun d => d.parameters.length) = some n)
def am_lkd (y x k z n : Nat) : Bool := decide (plainFor (am_nm x) = true) && decide (am_mx x = z) && decide (k ≤ z) && decide (am_lv x + 1 ≤ am_lv y) && decide (z ≤ 20) && decide (x < am_N) && decide (Jvm.Cond.initialized (am_nm x).cls ∈ am_ws) && decide ((am_nm x).cls ≠ "java/lang/invoke/MethodHandle") && decide ((am_nm x).cls ≠ "java/lang/invoke/VarHandle") && decide ((parseMethodDescriptor (am_nm x).desc).map (fun d => d.parameters.length) = some n)
def am_finb (x k : Nat) : Bool := match am_cl[am_ci x]? with
  | some r => (r.2.1 k).2.2.2
  | none => true
def am_finc (y x k : Nat) : Bool := match am_cl[am_ci x]? with
  | some r => (r.2.1 k).2.2.2 && decide ((r.2.1 k).1 = (am_nm y).cls)
  | none => false
def am_dfb (x : Nat) : Bool := (List.range (am_nf x)).all (fun k => decide (defaultValue (am_tf (am_ci x) k) = if am_ft x k = 2 then .null else .int 0))
def am_lsw (x pc : Nat) : Bool := match am_sw x with
  | (true, p, d, l, h, os, _, _) => decide (p = pc) && decide (h - l < (os.length : Int)) && (d :: os).all (fun o => decide (0 ≤ (pc : Int) + o))
  | (false, p, d, _, _, _, ps, _) => decide (p = pc) && (ps.zip (ps.drop 1)).all (fun (a, next) => a.1 < next.1) && (d :: ps.map (·.2)).all (fun o => decide (0 ≤ (pc : Int) + o))
def am_lk (y pc : Nat) (i : am_I) : Bool := match i with
  | (39, x, _, _, _, _) => decide (newarray.typeOf (am_at x) = am_ty x) && decide (Jvm.Cond.arrayClass (newarray.typeOf (am_at x)) ∈ am_ws) && decide (x ≠ 0) && decide (am_ln x 0 ≤ 1000)
  | (40, x, _, _, w, _) => match am_ty x with
    | .object C0 => decide (Jvm.Cond.classLink (am_nm y).cls w C0 ∈ am_ws) && decide (C0 = am_C1) && decide (x ≠ 0) && decide (am_ln x 0 ≤ 1000)
    | _ => false
  | (41, x, k, _, w, _) => am_lkf y x k w && decide (am_ft x k ≠ 2)
  | (42, x, k, _, w, _) => am_lkf y x k w && decide (am_ft x k = 2)
  | (43, x, k, _, w, _) => am_lkf y x k w && decide (am_ft x k = 0) && decide (am_finb x k = false)
  | (44, x, k, _, w, _) => am_lkf y x k w && decide (am_ft x k = 1) && decide (am_finb x k = false)
  | (45, x, k, _, w, _) => am_lkf y x k w && decide (am_ft x k = 2) && am_isr (am_tf (am_ci x) k) && decide (am_finb x k = false)
  | (46, x, k, _, w, _) => am_lkf y x k w && decide ((am_nm y).name = "<init>") && decide (am_ft x k = 0) && am_finc y x k
  | (47, x, k, _, w, _) => am_lkf y x k w && decide ((am_nm y).name = "<init>") && decide (am_ft x k = 2) && am_isr (am_tf (am_ci x) k) && am_finc y x k
  | (48, x, _, _, w, _) => match am_cl[am_ci x]? with
    | some r => decide (r.2.2 = am_nf x) && decide (Jvm.Cond.classLink (am_nm y).cls w r.1 ∈ am_ws) && decide (Jvm.Cond.instantiable r.1 r.2.2 ∈ am_ws) && decide (Jvm.Cond.initialized r.1 ∈ am_ws) && decide (x ≠ 0) && decide (am_ak x = 0) && am_dfb x
    | none => false
  | (49, _, _, _, w, _) => decide (Jvm.Cond.methodLink (am_nm y).cls w Lib.objectInit ∈ am_ws) && decide (Jvm.Cond.instanceMethod Lib.objectInit ∈ am_ws)
  | (50, x, _, _, _, _) => am_lsw x pc
  | (51, _, _, _, w, _) => decide (Jvm.Cond.methodLink (am_nm y).cls w Lib.Math.min.name ∈ am_ws) && decide (Jvm.Cond.static Lib.Math.min.name ∈ am_ws) && decide (Jvm.Cond.initialized "java/lang/Math" ∈ am_ws)
  | (60, x, k, z, w, v) => match am_cl[am_ci v]? with
    | some C0 => am_lkc y x k z w (k - 1) && decide (Jvm.Cond.instanceMethod (am_nm x) ∈ am_ws) && decide (Jvm.Cond.selects (am_nm x).cls (am_nm x) (am_nm x) ∈ am_ws) && decide (C0.1 = (am_nm x).cls) && decide (am_ak v = 0)
    | none => false
  | (61, x, k, z, w, _) => am_lkc y x k z w k && decide (Jvm.Cond.static (am_nm x) ∈ am_ws)
  | (62, x, k, z, w, _) => am_lkc y x k z w (k - 1) && decide (Jvm.Cond.instanceMethod (am_nm x) ∈ am_ws) && decide ((am_nm x).name = "<init>") && decide (am_rt x = none)
  | (63, x, k, z, w, _) => am_lkd y x k z (k - 1) && decide (((am_nm y).cls, w, am_nm x, am_host) ∈ am_nw) && decide (Jvm.Cond.instanceMethod (am_nm x) ∈ am_ws) && decide ((am_nm x).name = "<init>") && decide (am_rt x = none)
  | (70, _, _, _, _, _) => decide (am_rt y = some .int)
  | (71, _, _, _, _, _) => decide (am_rt y = some .boolean)
  | (72, _, _, _, _, _) => match am_rt y with
    | some (.object _) => true
    | _ => false
  | (73, _, _, _, _, _) => decide (am_rt y = none)
  | (op, _, _, _, _, _) => decide (op < 52)
def am_gd (y : Nat) (e : Nat × am_I) : Bool := decide (decode (am_cd y) e.1 = .ok (am_enc e.2 e.1)) && am_lk y e.1 e.2
theorem am_fd_mem {t : List (Nat × am_I)} {pc : Nat} {i : am_I} (h : am_fd t pc = some i) : (pc, i) ∈ t := by
  induction t with
  | nil => cases h
  | cons e t ih =>
    unfold am_fd at h
    split at h
    · rename_i h0
      cases h
      rw [← h0]
      exact List.mem_cons_self
    · exact List.mem_cons_of_mem _ (ih h)
theorem am_gd_of {y : Nat} (h : (am_tab y).all (am_gd y) = true) {pc : Nat} {i : am_I} (hi : am_ins y pc = some i) : decode (am_cd y) pc = .ok (am_enc i pc) ∧ am_lk y pc i = true := by
  have h1 := List.all_eq_true.mp h _ (am_fd_mem hi)
  simp only [am_gd, Bool.and_eq_true, decide_eq_true_eq] at h1
  exact h1
-- the kinds
theorem am_ln4 {t L : Nat} (h : am_ak t = 4) : am_ln t L = L := by
  unfold am_ak at h
  split at h <;> first | rfl | cases h
theorem am_lnL {t L : Nat} (h : am_ak t ≠ 4) : am_ln t L = am_ln t 0 := by
  unfold am_ak at h
  split at h <;> first | rfl | (exfalso; exact h rfl) | (unfold am_ln; split <;> first | rfl | (exfalso; simp_all; done))
theorem am_ty1 {t : Nat} (h : am_ak t = 1) : am_ty t = .int := by
  unfold am_ak at h
  split at h <;> first | rfl | cases h
theorem am_ty2 {t : Nat} (h : am_ak t = 2) : am_ty t = .boolean := by
  unfold am_ak at h
  split at h <;> first | rfl | cases h
theorem am_ty3 {t : Nat} (h : am_ak t = 3) : ∃ C0, am_ty t = .object C0 := by
  unfold am_ak at h
  split at h <;> first | exact ⟨_, rfl⟩ | cases h
theorem am_fr3 {t : Nat} (h : am_ak t = 3) (k : Nat) : am_fr t k = am_fr t 0 := by
  unfold am_ak at h
  split at h <;> first | rfl | cases h
theorem am_fr3o {t : Nat} (h : am_ak t = 3) : am_ak (am_fr t 0) = 0 ∧ ∀ r, am_cl[am_ci (am_fr t 0)]? = some r → am_ty t = .object r.1 := by
  unfold am_ak at h
  split at h <;> first | (exact ⟨rfl, fun r hr => by cases hr; rfl⟩) | cases h
theorem am_tf0 {x k : Nat} (h : am_ft x k = 0) : am_tf (am_ci x) k = .int := by
  unfold am_ft at h
  split at h <;> first | assumption | cases h
theorem am_tf1 {x k : Nat} (h : am_ft x k = 1) : am_tf (am_ci x) k = .boolean := by
  unfold am_ft at h
  split at h <;> first | assumption | cases h
theorem am_tf2 {ty : FieldType} (h : am_isr ty = true) (o : Option Nat) : narrow ty (va_rf o) = va_rf o ∧ fits ty (va_rf o) = true := by
  unfold am_isr at h
  split at h
  · cases o <;> exact ⟨rfl, rfl⟩
  · cases o <;> exact ⟨rfl, rfl⟩
  · cases h
theorem am_fin0 {x k : Nat} {r : vw_C} (hr : am_cl[am_ci x]? = some r) (h : am_finb x k = false) : (r.2.1 k).2.2.2 = false := by
  unfold am_finb at h
  rw [hr] at h
  exact h
theorem am_fin1 {y x k : Nat} {r : vw_C} (hr : am_cl[am_ci x]? = some r) (h : am_finc y x k = true) : (r.2.1 k).2.2.2 = true ∧ (r.2.1 k).1 = (am_nm y).cls := by
  unfold am_finc at h
  rw [hr] at h
  simp only [Bool.and_eq_true, decide_eq_true_eq] at h
  exact h
theorem am_nf_df {x : Nat} (h : am_dfb x = true) : ∀ k, k < am_nf x → defaultValue (am_tf (am_ci x) k) = if am_ft x k = 2 then .null else .int 0 := fun k hk => by
  have h1 := List.all_eq_true.mp h k (List.mem_range.mpr hk)
  simpa using h1
theorem am_ws_good (w : Jvm.Cond) (h : w ∈ am_ws) : (w.onTables && w.keeps) = true ∨ ∃ ty, w = .arrayClass ty := by
  have h1 := (List.mem_filter.mp h).2
  rw [Bool.or_eq_true] at h1
  rcases h1 with h1 | h1
  · cases w <;> first | (simp [k2_isCode] at h1; done) | exact Or.inl rfl
  · exact good_of_word h1
theorem am_ws_code {w : Jvm.Cond} (h : w ∈ lw_tbl) (hc : k2_isCode w = true) : w ∈ am_ws := List.mem_filter.mpr ⟨h, by rw [hc]; rfl⟩
end CHK
