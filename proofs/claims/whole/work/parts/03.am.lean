-- THE SMALL MACHINE: what the class, the reference and the law do, over ints and typed references alone.
-- a value: an int; a reference of a kind (t, address or null); an unset local
section AM1
abbrev am_V : Type := Int32 ⊕ (Nat × Option Nat) ⊕ Unit
-- a memory: (cells made so far, slots made so far, the script's length), kind of each cell, its ints, its references
abbrev am_M : Type := (Nat × Nat × Nat) × (Nat → Nat) × (Nat → Nat → Int32) × (Nat → Nat → Option Nat)
abbrev am_i (x : Int32) : am_V := .inl x
abbrev am_r (t : Nat) (o : Option Nat) : am_V := .inr (.inl (t, o))
abbrev am_u : am_V := .inr (.inr ())
def am_sz (M : am_M) : Nat := M.1.1
def am_sl (M : am_M) : Nat := M.1.2.1
def am_L (M : am_M) : Nat := M.1.2.2
def am_tg (M : am_M) (a : Nat) : Nat := M.2.1 a
def am_mi (M : am_M) (a k : Nat) : Int32 := M.2.2.1 a k
def am_mr (M : am_M) (a k : Nat) : Option Nat := M.2.2.2 a k
def am_si (M : am_M) (a k : Nat) (x : Int32) : am_M := (M.1, M.2.1, (fun b j => if b = a ∧ j = k then x else M.2.2.1 b j), M.2.2.2)
def am_sr (M : am_M) (a k : Nat) (x : Option Nat) : am_M := (M.1, M.2.1, M.2.2.1, (fun b j => if b = a ∧ j = k then x else M.2.2.2 b j))
def am_al (M : am_M) (t n : Nat) : am_M := ((am_sz M + 1, am_sl M + n, am_L M), (fun b => if b = am_sz M then t else M.2.1 b), (fun b j => if b = am_sz M then 0 else M.2.2.1 b j), (fun b j => if b = am_sz M then none else M.2.2.2 b j))
-- an index within
def am_ok (j : Int32) (n : Nat) : Bool := decide (0 ≤ j.toInt) && decide (j.toInt < (n : Int))
-- a branch, by its condition
def am_br {α : Type} (k : Nat) (x y : Int32) (J F : α) : α := match k with
  | 0 => if x = y then J else F
  | 1 => if x = y then F else J
  | 2 => if x < y then J else F
  | 3 => if x < y then F else J
  | 4 => if y < x then J else F
  | _ => if y < x then F else J
def am_bin (op : Nat) (x y : Int32) : Option Int32 := match op with
  | 13 => some (x + y)
  | 14 => some (x - y)
  | 15 => some (x * y)
  | 16 => if y = 0 then none else some (x - x / y * y)
  | 17 => some (x &&& y)
  | 18 => some (x ^^^ y)
  | 19 => some (x <<< (y &&& 31))
  | 20 => some (x >>> (y &&& 31))
  | _ => none
abbrev am_S : Type := Nat × List am_V × List am_V × am_M
def am_f1 (x k pc : Nat) (lo st : List am_V) (M : am_M) : Option am_S := match lo[x]? with
  | some (.inl v) => some (pc + k, lo, .inl v :: st, M)
  | _ => none
def am_f3 (x k pc : Nat) (lo st : List am_V) (M : am_M) : Option am_S := match lo[x]? with
  | some (.inr (.inl q)) => some (pc + k, lo, .inr (.inl q) :: st, M)
  | _ => none
def am_f5 (x k pc : Nat) (lo st : List am_V) (M : am_M) : Option am_S := match st with
  | .inl v :: s => if x < lo.length then some (pc + k, lo.set x (.inl v), s, M) else none
  | _ => none
def am_f7 (x k pc : Nat) (lo st : List am_V) (M : am_M) : Option am_S := match st with
  | .inr (.inl q) :: s => if x < lo.length then some (pc + k, lo.set x (.inr (.inl q)), s, M) else none
  | _ => none
def am_f9 (x : Nat) (d : Int) (pc : Nat) (lo st : List am_V) (M : am_M) : Option am_S := match lo[x]? with
  | some (.inl v) => some (pc + 3, lo.set x (.inl (v + Int32.ofInt d)), st, M)
  | _ => none
def am_f13 (op pc : Nat) (lo st : List am_V) (M : am_M) : Option am_S := match st with
  | .inl y :: .inl x :: s => match am_bin op x y with
    | some v => some (pc + 1, lo, .inl v :: s, M)
    | none => none
  | _ => none
def am_f21 (pc : Nat) (lo st : List am_V) (M : am_M) : Option am_S := match st with
  | v :: s => some (pc + 1, lo, v :: v :: s, M)
  | _ => none
def am_f22 (pc : Nat) (lo st : List am_V) (M : am_M) : Option am_S := match st with
  | v :: w :: s => some (pc + 1, lo, v :: w :: v :: w :: s, M)
  | _ => none
def am_f25 (x k pc : Nat) (lo st : List am_V) (M : am_M) : Option am_S := match st with
  | .inl v :: s => am_br k v 0 (some (x, lo, s, M)) (some (pc + 3, lo, s, M))
  | _ => none
def am_f26 (x k pc : Nat) (lo st : List am_V) (M : am_M) : Option am_S := match st with
  | .inl w :: .inl v :: s => am_br k v w (some (x, lo, s, M)) (some (pc + 3, lo, s, M))
  | _ => none
def am_f27 (x pc : Nat) (lo st : List am_V) (M : am_M) : Option am_S := match st with
  | .inr (.inl q2) :: .inr (.inl q1) :: s => if q1.2 = q2.2 then some (x, lo, s, M) else some (pc + 3, lo, s, M)
  | _ => none
def am_f28 (x pc : Nat) (lo st : List am_V) (M : am_M) : Option am_S := match st with
  | .inr (.inl q2) :: .inr (.inl q1) :: s => if q1.2 = q2.2 then some (pc + 3, lo, s, M) else some (x, lo, s, M)
  | _ => none
def am_f29 (x pc : Nat) (lo st : List am_V) (M : am_M) : Option am_S := match st with
  | .inr (.inl q) :: s => if q.2 = none then some (x, lo, s, M) else some (pc + 3, lo, s, M)
  | _ => none
def am_f30 (x pc : Nat) (lo st : List am_V) (M : am_M) : Option am_S := match st with
  | .inr (.inl q) :: s => if q.2 = none then some (pc + 3, lo, s, M) else some (x, lo, s, M)
  | _ => none
def am_f32 (pc : Nat) (lo st : List am_V) (M : am_M) : Option am_S := match st with
  | .inr (.inl (t, some _)) :: s => if am_ak t = 0 then none else some (pc + 1, lo, .inl (nI (am_ln t (am_L M))) :: s, M)
  | _ => none
def am_f33 (pc : Nat) (lo st : List am_V) (M : am_M) : Option am_S := match st with
  | .inl j :: .inr (.inl (t, some a)) :: s => if (am_ak t = 1 ∨ am_ak t = 4) ∧ am_ok j (am_ln t (am_L M)) = true then some (pc + 1, lo, .inl (am_mi M a j.toNatClampNeg) :: s, M) else none
  | _ => none
def am_f34 (x pc : Nat) (lo st : List am_V) (M : am_M) : Option am_S := match st with
  | .inl v :: .inl j :: .inr (.inl (t, some a)) :: s => if t = x ∧ am_ak t = 1 ∧ am_ok j (am_ln t (am_L M)) = true then some (pc + 1, lo, s, am_si M a j.toNatClampNeg v) else none
  | _ => none
def am_f35 (pc : Nat) (lo st : List am_V) (M : am_M) : Option am_S := match st with
  | .inl j :: .inr (.inl (t, some a)) :: s => if am_ak t = 2 ∧ am_ok j (am_ln t (am_L M)) = true then some (pc + 1, lo, .inl (am_mi M a j.toNatClampNeg) :: s, M) else none
  | _ => none
def am_f36 (x pc : Nat) (lo st : List am_V) (M : am_M) : Option am_S := match st with
  | .inl v :: .inl j :: .inr (.inl (t, some a)) :: s => if (v = 0 ∨ v = 1) ∧ t = x ∧ am_ak t = 2 ∧ am_ok j (am_ln t (am_L M)) = true then some (pc + 1, lo, s, am_si M a j.toNatClampNeg v) else none
  | _ => none
def am_f37 (pc : Nat) (lo st : List am_V) (M : am_M) : Option am_S := match st with
  | .inl j :: .inr (.inl (t, some a)) :: s => if am_ak t = 3 ∧ am_ok j (am_ln t (am_L M)) = true then some (pc + 1, lo, .inr (.inl (am_fr t 0, am_mr M a j.toNatClampNeg)) :: s, M) else none
  | _ => none
def am_f38 (x pc : Nat) (lo st : List am_V) (M : am_M) : Option am_S := match st with
  | .inr (.inl (t2, o)) :: .inl j :: .inr (.inl (t, some a)) :: s => if t2 = am_fr t 0 ∧ t = x ∧ am_ak t = 3 ∧ am_ok j (am_ln t (am_L M)) = true then some (pc + 1, lo, s, am_sr M a j.toNatClampNeg o) else none
  | _ => none
def am_f39 (x pc : Nat) (lo st : List am_V) (M : am_M) : Option am_S := match st with
  | .inl n :: s => if n = nI (am_ln x 0) ∧ (am_ak x = 1 ∨ am_ak x = 2) then some (pc + 2, lo, .inr (.inl (x, some (am_sz M))) :: s, am_al M x (am_ln x 0)) else none
  | _ => none
def am_f40 (x pc : Nat) (lo st : List am_V) (M : am_M) : Option am_S := match st with
  | .inl n :: s => if n = nI (am_ln x 0) ∧ am_ak x = 3 then some (pc + 3, lo, .inr (.inl (x, some (am_sz M))) :: s, am_al M x (am_ln x 0)) else none
  | _ => none
def am_f41 (x k pc : Nat) (lo st : List am_V) (M : am_M) : Option am_S := match st with
  | .inr (.inl (t, some a)) :: s => if t = x then some (pc + 3, lo, .inl (am_mi M a k) :: s, M) else none
  | _ => none
def am_f42 (x k pc : Nat) (lo st : List am_V) (M : am_M) : Option am_S := match st with
  | .inr (.inl (t, some a)) :: s => if t = x then some (pc + 3, lo, .inr (.inl (am_fr x k, am_mr M a k)) :: s, M) else none
  | _ => none
def am_f43 (x k pc : Nat) (lo st : List am_V) (M : am_M) : Option am_S := match st with
  | .inl v :: .inr (.inl (t, some a)) :: s => if t = x then some (pc + 3, lo, s, am_si M a k v) else none
  | _ => none
def am_f44 (x k pc : Nat) (lo st : List am_V) (M : am_M) : Option am_S := match st with
  | .inl v :: .inr (.inl (t, some a)) :: s => if (v = 0 ∨ v = 1) ∧ t = x then some (pc + 3, lo, s, am_si M a k v) else none
  | _ => none
def am_f45 (x k pc : Nat) (lo st : List am_V) (M : am_M) : Option am_S := match st with
  | .inr (.inl (t2, o)) :: .inr (.inl (t, some a)) :: s => if t2 = am_fr x k ∧ t = x then some (pc + 3, lo, s, am_sr M a k o) else none
  | _ => none
def am_f49 (pc : Nat) (lo st : List am_V) (M : am_M) : Option am_S := match st with
  | .inr (.inl (_, some _)) :: s => if s.length ≤ 8 then some (pc + 3, lo, s, M) else none
  | _ => none
def am_f50 (x pc : Nat) (lo st : List am_V) (M : am_M) : Option am_S := match st with
  | .inl v :: s => some (am_swt x v, lo, s, M)
  | _ => none
def am_f51 (pc : Nat) (lo st : List am_V) (M : am_M) : Option am_S := match st with
  | .inl y :: .inl x :: s => if s.length ≤ 8 then some (pc + 3, lo, .inl (if y < x then y else x) :: s, M) else none
  | _ => none
-- one instruction that stays in the method: (op, x, y, z, index in the pool, kind)
def am_tl (i : am_I) (pc : Nat) (lo st : List am_V) (M : am_M) : Option am_S := match i with
  | (1, x, _, _, _, _) => am_f1 (x % 4) 1 pc lo st M
  | (2, x, _, _, _, _) => am_f1 x 2 pc lo st M
  | (3, x, _, _, _, _) => am_f3 (x % 4) 1 pc lo st M
  | (4, x, _, _, _, _) => am_f3 x 2 pc lo st M
  | (5, x, _, _, _, _) => am_f5 (x % 4) 1 pc lo st M
  | (6, x, _, _, _, _) => am_f5 x 2 pc lo st M
  | (7, x, _, _, _, _) => am_f7 (x % 4) 1 pc lo st M
  | (8, x, _, _, _, _) => am_f7 x 2 pc lo st M
  | (9, x, y, z, _, _) => am_f9 x ((y : Int) - (z : Int)) pc lo st M
  | (10, _, y, z, _, _) => some (pc + 1, lo, .inl (Int32.ofInt ((y : Int) - (z : Int))) :: st, M)
  | (11, _, y, z, _, _) => some (pc + 2, lo, .inl (Int8.ofInt ((y : Int) - (z : Int))).toInt32 :: st, M)
  | (12, op, _, _, _, _) => am_f13 op pc lo st M
  | (21, _, _, _, _, _) => am_f21 pc lo st M
  | (22, _, _, _, _, _) => am_f22 pc lo st M
  | (24, x, _, _, _, _) => some (x, lo, st, M)
  | (25, x, k, _, _, _) => am_f25 x k pc lo st M
  | (26, x, k, _, _, _) => am_f26 x k pc lo st M
  | (27, x, _, _, _, _) => am_f27 x pc lo st M
  | (28, x, _, _, _, _) => am_f28 x pc lo st M
  | (29, x, _, _, _, _) => am_f29 x pc lo st M
  | (30, x, _, _, _, _) => am_f30 x pc lo st M
  | (31, x, _, _, _, _) => some (pc + 1, lo, .inr (.inl (x, none)) :: st, M)
  | (32, _, _, _, _, _) => am_f32 pc lo st M
  | (33, _, _, _, _, _) => am_f33 pc lo st M
  | (34, x, _, _, _, _) => am_f34 x pc lo st M
  | (35, _, _, _, _, _) => am_f35 pc lo st M
  | (36, x, _, _, _, _) => am_f36 x pc lo st M
  | (37, _, _, _, _, _) => am_f37 pc lo st M
  | (38, x, _, _, _, _) => am_f38 x pc lo st M
  | (39, x, _, _, _, _) => am_f39 x pc lo st M
  | (40, x, _, _, _, _) => am_f40 x pc lo st M
  | (41, x, k, _, _, _) => am_f41 x k pc lo st M
  | (42, x, k, _, _, _) => am_f42 x k pc lo st M
  | (43, x, k, _, _, _) => am_f43 x k pc lo st M
  | (44, x, k, _, _, _) => am_f44 x k pc lo st M
  | (45, x, k, _, _, _) => am_f45 x k pc lo st M
  | (46, x, k, _, _, _) => am_f43 x k pc lo st M
  | (47, x, k, _, _, _) => am_f45 x k pc lo st M
  | (48, x, _, _, _, _) => some (pc + 3, lo, .inr (.inl (x, some (am_sz M))) :: st, am_al M x (am_nf x))
  | (49, _, _, _, _, _) => am_f49 pc lo st M
  | (50, x, _, _, _, _) => am_f50 x pc lo st M
  | (51, _, _, _, _, _) => am_f51 pc lo st M
  | _ => none
-- a call: (callee, its locals, what stays on the stack)
def am_cf (i : am_I) (st : List am_V) : Option (Nat × List am_V × List am_V) :=
  if i.2.2.1 ≤ st.length ∧ (st.drop i.2.2.1).length ≤ 8 then some (i.2.1, (st.take i.2.2.1).reverse ++ List.replicate (i.2.2.2.1 - i.2.2.1) am_u, st.drop i.2.2.1) else none
def am_ca (i : am_I) (st : List am_V) : Option (Nat × List am_V × List am_V) := match i.1 with
  | 61 => am_cf i st
  | _ => match (st.take i.2.2.1).reverse with
    | .inr (.inl (t, some _)) :: _ => if t = i.2.2.2.2.2 then am_cf i st else none
    | _ => none
-- an end
def am_rf (op : Nat) (st : List am_V) : Option (Option am_V) := match op, st with
  | 70, [.inl v] => some (some (.inl v))
  | 71, [.inl v] => if v = 0 ∨ v = 1 then some (some (.inl v)) else none
  | 72, [.inr (.inl q)] => some (some (.inr (.inl q)))
  | 73, [] => some none
  | _, _ => none
def am_run : Nat → Nat → Nat → List am_V → List am_V → am_M → Option (Option am_V × am_M)
  | 0, _, _, _, _, _ => none
  | n + 1, y, pc, lo, st, M => match am_ins y pc with
    | none => none
    | some i => if i.1 < 60 then (match am_tl i pc lo st M with
        | none => none
        | some q => am_run n y q.1 q.2.1 q.2.2.1 q.2.2.2)
      else if i.1 < 70 then (match am_ca i st with
        | none => none
        | some q => match am_run n q.1 0 q.2.1 [] M with
          | none => none
          | some r => am_run n y (pc + 3) lo (r.1.toList ++ q.2.2) r.2)
      else (match am_rf i.1 st with
        | none => none
        | some r => some (r, M))
def am_wp (y pc : Nat) (lo st : List am_V) (M : am_M) (Q : Option am_V → am_M → Prop) : Prop := ∃ (n : Nat) (r : Option am_V) (M' : am_M), am_run n y pc lo st M = some (r, M') ∧ Q r M'
theorem am_mono (n : Nat) : ∀ (y pc : Nat) (lo st : List am_V) (M : am_M) (q : Option am_V × am_M), am_run n y pc lo st M = some q → am_run (n + 1) y pc lo st M = some q := by
  induction n with
  | zero => intro y pc lo st M q h; simp [am_run] at h
  | succ n ih =>
    intro y pc lo st M q h
    rw [am_run] at h ⊢
    cases hi : am_ins y pc with
    | none => rw [hi] at h; cases h
    | some i =>
      rw [hi] at h
      dsimp only at h ⊢
      by_cases h1 : i.1 < 60
      · rw [if_pos h1] at h ⊢
        cases ht : am_tl i pc lo st M with
        | none => rw [ht] at h; cases h
        | some s => rw [ht] at h; dsimp only at h ⊢; exact ih _ _ _ _ _ _ h
      · rw [if_neg h1] at h ⊢
        by_cases h2 : i.1 < 70
        · rw [if_pos h2] at h ⊢
          cases hc : am_ca i st with
          | none => rw [hc] at h; cases h
          | some s =>
            rw [hc] at h
            dsimp only at h ⊢
            cases hr : am_run n s.1 0 s.2.1 [] M with
            | none => rw [hr] at h; cases h
            | some r =>
              rw [hr] at h
              rw [ih _ _ _ _ _ _ hr]
              dsimp only at h ⊢
              exact ih _ _ _ _ _ _ h
        · rw [if_neg h2] at h ⊢
          exact h
theorem am_mono2 {n m : Nat} (hnm : n ≤ m) {y pc : Nat} {lo st : List am_V} {M : am_M} {q : Option am_V × am_M} (h : am_run n y pc lo st M = some q) : am_run m y pc lo st M = some q := by
  induction m with
  | zero => have : n = 0 := by omega
            subst this; exact h
  | succ m ih =>
    by_cases hm : n = m + 1
    · subst hm; exact h
    · exact am_mono m _ _ _ _ _ _ (ih (by omega))
theorem am_wp_t {y pc : Nat} {lo st : List am_V} {M : am_M} {Q : Option am_V → am_M → Prop} {i : am_I} {pc' : Nat} {lo' st' : List am_V} {M' : am_M} (hi : am_ins y pc = some i) (h6 : i.1 < 60) (hs : am_tl i pc lo st M = some (pc', lo', st', M')) : am_wp y pc lo st M Q = am_wp y pc' lo' st' M' Q := by
  have h : ∀ n, am_run (n + 1) y pc lo st M = am_run n y pc' lo' st' M' := fun n => by
    rw [am_run, hi]
    dsimp only
    rw [if_pos h6, hs]
  apply propext
  constructor
  · intro ⟨n, r, M1, h1, h2⟩
    cases n with
    | zero => simp [am_run] at h1
    | succ n => exact ⟨n, r, M1, by rw [← h]; exact h1, h2⟩
  · intro ⟨n, r, M1, h1, h2⟩
    exact ⟨n + 1, r, M1, by rw [h]; exact h1, h2⟩
theorem am_wp_c {y pc : Nat} {lo st : List am_V} {M : am_M} {Q : Option am_V → am_M → Prop} {i : am_I} {y' : Nat} {lo1 st' : List am_V} (hi : am_ins y pc = some i) (h6 : ¬ i.1 < 60) (h7 : i.1 < 70) (hs : am_ca i st = some (y', lo1, st')) : am_wp y pc lo st M Q = am_wp y' 0 lo1 [] M (fun r M1 => am_wp y (pc + 3) lo (r.toList ++ st') M1 Q) := by
  have h : ∀ n, am_run (n + 1) y pc lo st M = (match am_run n y' 0 lo1 [] M with | none => none | some r => am_run n y (pc + 3) lo (r.1.toList ++ st') r.2) := fun n => by
    rw [am_run, hi]
    dsimp only
    rw [if_neg h6, if_pos h7, hs]
  apply propext
  constructor
  · intro ⟨n, r, M1, h1, h2⟩
    cases n with
    | zero => simp [am_run] at h1
    | succ n =>
      rw [h] at h1
      cases hr : am_run n y' 0 lo1 [] M with
      | none => rw [hr] at h1; cases h1
      | some q => rw [hr] at h1; exact ⟨n, q.1, q.2, hr, n, r, M1, h1, h2⟩
  · intro ⟨n1, r1, M1, h1, n2, r2, M2, h2, h3⟩
    refine ⟨n1 + n2 + 1, r2, M2, ?_, h3⟩
    rw [h, am_mono2 (Nat.le_add_right n1 n2) h1]
    exact am_mono2 (Nat.le_add_left n2 n1) h2
theorem am_wp_e {y pc : Nat} {lo st : List am_V} {M : am_M} {Q : Option am_V → am_M → Prop} {i : am_I} {r : Option am_V} (hi : am_ins y pc = some i) (h6 : ¬ i.1 < 60) (h7 : ¬ i.1 < 70) (hs : am_rf i.1 st = some r) : am_wp y pc lo st M Q = Q r M := by
  have h : ∀ n, am_run (n + 1) y pc lo st M = some (r, M) := fun n => by
    rw [am_run, hi]
    dsimp only
    rw [if_neg h6, if_neg h7, hs]
  apply propext
  constructor
  · intro ⟨n, r1, M1, h1, h2⟩
    cases n with
    | zero => simp [am_run] at h1
    | succ n => rw [h] at h1; cases h1; exact h2
  · intro h2
    exact ⟨1, r, M, h 0, h2⟩
theorem am_wp_if {y pc : Nat} {lo st : List am_V} {M : am_M} {Q : Option am_V → am_M → Prop} {x k z w e : Nat} {v : Int32} (hi : am_ins y pc = some (25, x, k, z, w, e)) : am_wp y pc lo (.inl v :: st) M Q = am_br k v 0 (am_wp y x lo st M Q) (am_wp y (pc + 3) lo st M Q) := by
  have hs : am_tl (25, x, k, z, w, e) pc lo (.inl v :: st) M = am_br k v 0 (some (x, lo, st, M)) (some (pc + 3, lo, st, M)) := rfl
  unfold am_br at hs ⊢
  split at hs <;> split at hs <;> rename_i hc <;> first | (rw [if_pos hc]; exact am_wp_t hi (Nat.le_of_ble_eq_true rfl) hs) | (rw [if_neg hc]; exact am_wp_t hi (Nat.le_of_ble_eq_true rfl) hs)
theorem am_wp_ic {y pc : Nat} {lo st : List am_V} {M : am_M} {Q : Option am_V → am_M → Prop} {x k z w e : Nat} {v1 v2 : Int32} (hi : am_ins y pc = some (26, x, k, z, w, e)) : am_wp y pc lo (.inl v2 :: .inl v1 :: st) M Q = am_br k v1 v2 (am_wp y x lo st M Q) (am_wp y (pc + 3) lo st M Q) := by
  have hs : am_tl (26, x, k, z, w, e) pc lo (.inl v2 :: .inl v1 :: st) M = am_br k v1 v2 (some (x, lo, st, M)) (some (pc + 3, lo, st, M)) := rfl
  unfold am_br at hs ⊢
  split at hs <;> split at hs <;> rename_i hc <;> first | (rw [if_pos hc]; exact am_wp_t hi (Nat.le_of_ble_eq_true rfl) hs) | (rw [if_neg hc]; exact am_wp_t hi (Nat.le_of_ble_eq_true rfl) hs)
theorem am_wp_mono {y pc : Nat} {lo st : List am_V} {M : am_M} {Q Q' : Option am_V → am_M → Prop} (h : am_wp y pc lo st M Q) (hq : ∀ r M', Q r M' → Q' r M') : am_wp y pc lo st M Q' := by
  obtain ⟨n, r, M', h1, h2⟩ := h
  exact ⟨n, r, M', h1, hq r M' h2⟩
end AM1
section AM2
variable {y pc : Nat} {lo st : List am_V} {M : am_M} {Q : Option am_V → am_M → Prop} {v w : Int32} {q q2 : Nat × Option Nat} {o : Option Nat} {a x t k1 w1 : Nat}
theorem am_wp_rem (hi : am_ins y pc = some (12, 16, 0, 0, 0, 0)) (h : w ≠ 0) : am_wp y pc lo (.inl w :: .inl v :: st) M Q = am_wp y (pc + 1) lo (.inl (v - v / w * w) :: st) M Q :=
  am_wp_t hi (Nat.le_of_ble_eq_true rfl) (by show am_f13 16 pc lo (.inl w :: .inl v :: st) M = _; simp [am_f13, am_bin, h])
theorem am_wp_ae (hi : am_ins y pc = some (27, x, 0, 0, 0, 0)) : am_wp y pc lo (.inr (.inl q2) :: .inr (.inl q) :: st) M Q = if q.2 = q2.2 then am_wp y x lo st M Q else am_wp y (pc + 3) lo st M Q := by
  by_cases h : q.2 = q2.2
  · rw [if_pos h]; exact am_wp_t hi (Nat.le_of_ble_eq_true rfl) (if_pos h)
  · rw [if_neg h]; exact am_wp_t hi (Nat.le_of_ble_eq_true rfl) (if_neg h)
theorem am_wp_an (hi : am_ins y pc = some (28, x, 0, 0, 0, 0)) : am_wp y pc lo (.inr (.inl q2) :: .inr (.inl q) :: st) M Q = if q.2 = q2.2 then am_wp y (pc + 3) lo st M Q else am_wp y x lo st M Q := by
  by_cases h : q.2 = q2.2
  · rw [if_pos h]; exact am_wp_t hi (Nat.le_of_ble_eq_true rfl) (if_pos h)
  · rw [if_neg h]; exact am_wp_t hi (Nat.le_of_ble_eq_true rfl) (if_neg h)
theorem am_wp_nu (hi : am_ins y pc = some (29, x, 0, 0, 0, 0)) : am_wp y pc lo (.inr (.inl q) :: st) M Q = if q.2 = none then am_wp y x lo st M Q else am_wp y (pc + 3) lo st M Q := by
  by_cases h : q.2 = none
  · rw [if_pos h]; exact am_wp_t hi (Nat.le_of_ble_eq_true rfl) (if_pos h)
  · rw [if_neg h]; exact am_wp_t hi (Nat.le_of_ble_eq_true rfl) (if_neg h)
theorem am_wp_nn (hi : am_ins y pc = some (30, x, 0, 0, 0, 0)) : am_wp y pc lo (.inr (.inl q) :: st) M Q = if q.2 = none then am_wp y (pc + 3) lo st M Q else am_wp y x lo st M Q := by
  by_cases h : q.2 = none
  · rw [if_pos h]; exact am_wp_t hi (Nat.le_of_ble_eq_true rfl) (if_pos h)
  · rw [if_neg h]; exact am_wp_t hi (Nat.le_of_ble_eq_true rfl) (if_neg h)
theorem am_wp_il (hi : am_ins y pc = some (33, x, 0, 0, 0, 0)) (ht : am_ak t = 1 ∨ am_ak t = 4) (h : am_ok v (am_ln t (am_L M)) = true) : am_wp y pc lo (.inl v :: .inr (.inl (t, some a)) :: st) M Q = am_wp y (pc + 1) lo (.inl (am_mi M a v.toNatClampNeg) :: st) M Q :=
  am_wp_t hi (Nat.le_of_ble_eq_true rfl) (if_pos ⟨ht, h⟩)
theorem am_wp_bl (hi : am_ins y pc = some (35, x, 0, 0, 0, 0)) (ht : am_ak t = 2) (h : am_ok v (am_ln t (am_L M)) = true) : am_wp y pc lo (.inl v :: .inr (.inl (t, some a)) :: st) M Q = am_wp y (pc + 1) lo (.inl (am_mi M a v.toNatClampNeg) :: st) M Q :=
  am_wp_t hi (Nat.le_of_ble_eq_true rfl) (if_pos ⟨ht, h⟩)
theorem am_wp_al (hi : am_ins y pc = some (37, x, 0, 0, 0, 0)) (ht : am_ak t = 3) (h : am_ok v (am_ln t (am_L M)) = true) : am_wp y pc lo (.inl v :: .inr (.inl (t, some a)) :: st) M Q = am_wp y (pc + 1) lo (.inr (.inl (am_fr t 0, am_mr M a v.toNatClampNeg)) :: st) M Q :=
  am_wp_t hi (Nat.le_of_ble_eq_true rfl) (if_pos ⟨ht, h⟩)
theorem am_wp_is (hi : am_ins y pc = some (34, x, 0, 0, 0, 0)) (ht : am_ak x = 1) (h : am_ok v (am_ln x (am_L M)) = true) : am_wp y pc lo (.inl w :: .inl v :: .inr (.inl (x, some a)) :: st) M Q = am_wp y (pc + 1) lo st (am_si M a v.toNatClampNeg w) Q :=
  am_wp_t hi (Nat.le_of_ble_eq_true rfl) (if_pos ⟨rfl, ht, h⟩)
theorem am_wp_bs (hi : am_ins y pc = some (36, x, 0, 0, 0, 0)) (ht : am_ak x = 2) (h : am_ok v (am_ln x (am_L M)) = true) (hw : w = 0 ∨ w = 1) : am_wp y pc lo (.inl w :: .inl v :: .inr (.inl (x, some a)) :: st) M Q = am_wp y (pc + 1) lo st (am_si M a v.toNatClampNeg w) Q :=
  am_wp_t hi (Nat.le_of_ble_eq_true rfl) (if_pos ⟨hw, rfl, ht, h⟩)
theorem am_wp_as (hi : am_ins y pc = some (38, x, 0, 0, 0, 0)) (ht : am_ak x = 3) (h : am_ok v (am_ln x (am_L M)) = true) : am_wp y pc lo (.inr (.inl (am_fr x 0, o)) :: .inl v :: .inr (.inl (x, some a)) :: st) M Q = am_wp y (pc + 1) lo st (am_sr M a v.toNatClampNeg o) Q :=
  am_wp_t hi (Nat.le_of_ble_eq_true rfl) (if_pos ⟨rfl, rfl, ht, h⟩)
theorem am_wp_pz (hi : am_ins y pc = some (44, x, k1, 0, w1, 0)) (h : v = 0 ∨ v = 1) : am_wp y pc lo (.inl v :: .inr (.inl (x, some a)) :: st) M Q = am_wp y (pc + 3) lo st (am_si M a k1 v) Q :=
  am_wp_t hi (Nat.le_of_ble_eq_true rfl) (if_pos ⟨h, rfl⟩)
end AM2
