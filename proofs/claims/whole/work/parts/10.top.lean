/-! THE CLAIM OUT OF ONE WALK OF THE LAW'S BODY. Your part is whole_start (and what it stands on); all else here is the same for every law, but numbers. -/
def R_law : String := "ThingTreesLaw"
def lw_P (b : Addr) (xs : List Int32) (args : Array Value) (s : State) : Prop := args = #[.ref b] ∧ s.IntsAt b xs ∧ xs.length ≤ 2048 ∧ (Jvm.Cond.and given_1 narrow_1).before args s = true
def lw_Q (_ : Array Value) (s : State) (o : Outcome) (t : State) : Prop := o = .returned (some (.int 1)) ∧ Framed s o t [] 600000 7302250
def lw_Z (below : List Frame) (a : Array Value) (s : State) : State → Prop := fun t => ∃ o, t.status = .running ∧ Ended t below o ∧ lw_Q a s o t
/-- the law's own end, with 1 on the stack, nothing written that was there before, its room as the claim has it -/
theorem lw_ret {p : Program} {l : Launch} {e : Env} {s : State} {m : MethodId} {below : List Frame} {meth : Method} {c : Code} {b : Nat} (hx : p.tables.exec = Jvm.exec) (hb : c.code = code) (hr : meth.sig.returnType = ret) (hlocks : meth.locks = false) {pc : Nat} {H : Heap} {ls : Array Slot} (hdg : decode code pc = .ok (.ireturn, 1)) : W p l e room_1 s m #[Value.ref b] below meth c H [] 600000 7302250 (lw_Z below #[Value.ref b] s) (F0 m pc ls [.int 1]) := by
  intro T hT X
  obtain ⟨fs, hret, hrun, hended, hW, hframe⟩ := X.leave (v := some (.int 1)) (hlocks := hlocks) (fun h => by rw [hr] at h; cases h)
  have hmeth' : T.vm.method? m = some meth := X.method'
  refine ⟨T.setFrames fs, ?_, .returned (some (.int 1)), hrun, hended, rfl, ⟨_, rfl⟩, hW, hframe⟩
  jvm_step X.here [X.here.top, hx, hb, hdg, hmeth', hr, ret, narrow_b1]
  (try refine ⟨rfl, ?_⟩); (try refine ⟨rfl, ?_⟩)
  first | (intro acts; rw [hret _ acts rfl rfl rfl]) | rw [hret _ _ rfl rfl rfl]
  exact Steps.refl _
/-- what holds at the law's entry: the machine, the code, the tables' words (any of lw_tbl by 'hts w (by decide +kernel)'), the script of L ints xs at the cell b, what the Statement gives of the start (any of its parts by flat_of_before) -/
def lw_At (p : Program) (s : State) (m : MethodId) (meth : Method) (c : Code) (b L : Nat) (xs : Nat → Int32) : Prop :=
  p.tables.exec = Jvm.exec ∧ c.code = code ∧ meth.sig.returnType = ret ∧ c.maxLocals = 4 ∧ s.vm.findClass R_law = some m.cls ∧ (∀ w ∈ lw_tbl, w.before #[Value.ref b] s = true) ∧ va_X b L xs s s.heap ∧ b < s.heap.size ∧ meth.locks = false ∧ (Jvm.Cond.and given_1 narrow_1).before #[Value.ref b] s = true
section TOP
def am_M0 (hs b L : Nat) (xs : Nat → Int32) : am_M := ((hs, 0, L), (fun a => if a = b then 15 else 0), (fun a k => if a = b then xs k else 0), fun _ _ => none)
def am_Goal : Prop := ∀ (hs b L : Nat) (xs : Nat → Int32), L ≤ 2048 → b < hs → am_wp yL_law 0 [.inr (.inl (15, some b)), am_u, am_u, am_u] [] (am_M0 hs b L xs) (fun r M' => r = some (.inl 1) ∧ am_sz M' ≤ hs + 600000 ∧ am_sl M' ≤ 7302250)
theorem am_ws_in (w : Jvm.Cond) (h : w ∈ am_ws) : w ∈ lw_tbl := (List.mem_filter.mp h).1
set_option maxRecDepth 100000 in
theorem am_K_of {s : State} {A : Array Value} (hts : ∀ w ∈ lw_tbl, w.before A s = true) : ∃ D : va_G, am_K D s := by
  have hw : ∀ w ∈ am_ws, w.before A s = true := fun w h => hts w (am_ws_in w h)
  obtain ⟨c0, i0, k0⟩ := u_known (C := am_C0) (T := am_T0) (N := 4) (n := 4) hw (am_clk 0 _ rfl).1 (hts (.instantiable am_C0 4) (by decide +kernel))
  obtain ⟨c1, i1, k1⟩ := u_known (C := am_C1) (T := am_T1) (N := 13) (n := 13) hw (am_clk 1 _ rfl).1 (hts (.instantiable am_C1 13) (by decide +kernel))
  obtain ⟨c2, i2, k2⟩ := u_known (C := am_C2) (T := am_T2) (N := 2) (n := 2) hw (am_clk 2 _ rfl).1 (hts (.instantiable am_C2 2) (by decide +kernel))
  obtain ⟨c3, i3, k3⟩ := u_known (C := am_C3) (T := am_T3) (N := 19) (n := 19) hw (am_clk 3 _ rfl).1 (hts (.instantiable am_C3 19) (by decide +kernel))
  refine ⟨(fun k => if k = 0 then c0 else if k = 1 then c1 else if k = 2 then c2 else c3, fun k => if k = 0 then i0 else if k = 1 then i1 else if k = 2 then i2 else i3), ⟨?_, fun k q h => by simp at h⟩, ?_, ?_⟩
  · intro k q hq
    match k, hq with
    | 0, hq => cases hq; exact k0
    | 1, hq => cases hq; exact k1
    | 2, hq => cases hq; exact k2
    | 3, hq => cases hq; exact k3
    | k + 4, hq => simp [am_cl] at hq
  · intro q hq
    have h1 : q = ("ThingTrees", 17, ⟨"ThingTrees$Changes", "<init>", "()V"⟩, am_host) := by simpa [am_nw] using hq
    subst h1
    exact va_Nw.of rfl (hts (.methodLinkNest "ThingTrees" 17 ⟨"ThingTrees$Changes", "<init>", "()V"⟩ am_host) (by decide +kernel))
  · exact va_AO.of (hts (.arrayOver (.object am_C1)) (by decide +kernel))
theorem am_Rep0 {D : va_G} {s : State} {b L : Nat} {xs : Nat → Int32} (hX : va_X b L xs s s.heap) : am_Rep D s s.heap.size (am_M0 s.heap.size b L xs) s.heap := by
  have tgb : am_tg (am_M0 s.heap.size b L xs) b = 15 := by simp [am_tg, am_M0]
  refine ⟨rfl, Nat.le_refl _, fun a ha => ?_, fun a k c h => by cases h⟩
  have hab : a = b := by
    by_cases h : a = b
    · exact h
    · exact absurd (by simp [am_tg, am_M0, h]) ha
  subst hab
  rw [tgb]
  refine ⟨fun h => absurd rfl h, ?_⟩
  obtain ⟨scr, h1, h2, h3, h4, h5⟩ := hX
  show ∃ scr : Cell, _
  exact ⟨scr, h1, h2, h3, h4, fun j hj => by rw [h5 j hj]; simp [am_mi, am_M0]⟩
set_option maxHeartbeats 4000000 in
theorem am_start (G : am_Goal) {p : Program} {e : Env} {s : State} {m : MethodId} {below : List Frame} {meth : Method} {c : Code} (l : Launch) {b L : Nat} {xs : Nat → Int32} (hL : L ≤ 2048) (C0 : lw_At p s m meth c b L xs) : W p l e room_1 s m #[Value.ref b] below meth c s.heap [] 0 0 (lw_Z below #[Value.ref b] s) (entryFrame m ([Value.ref b] : List Value).toArray 4) := by
  obtain ⟨hx, hb, hr, hml, hown, hts, hX, hbl, hlocks, hgv⟩ := C0
  obtain ⟨D, hK⟩ := am_K_of hts
  obtain ⟨n, r, M', hrun, hr1, hz, hsl⟩ := G s.heap.size b L xs hL hbl
  subst hr1
  have C : am_At p s m #[Value.ref b] meth c D yL_law := ⟨hx, hb, hml, hown, fun w h => hts w (am_ws_in w h), fun h => absurd h (by decide +kernel), hK⟩
  have e1 : (#[Value.ref b] : Array Value) = (([.inr (.inl (15, some b))] : List am_V).map am_v).toArray := rfl
  have hent := am_entry (av := [.inr (.inl (15, some b))]) (n := 4) (Nat.le_of_ble_eq_true rfl)
  rw [show ([Value.ref b] : List Value).toArray = (([.inr (.inl (15, some b))] : List am_V).map am_v).toArray from rfl, lg_entry_eq]
  refine am_snd n yL_law 0 _ [] (am_M0 s.heap.size b L xs) _ M' hrun p l e room_1 s m _ below meth c _ D s.heap.size 0 0 C (by decide +kernel) (by decide +kernel) ?_ ?_ ?_ s.heap [] _ (am_Rep0 hX) hent ?_ (fun v hv => by cases hv) (fun q hq => by cases hq)
  · show 0 + (am_sz M' - s.heap.size) ≤ 600000
    omega
  · show 0 + (am_sl M' - 0) ≤ 7302250
    omega
  · intro H locs ls pc hR hf hre hwr
    refine va_forget (fun q hq => hf q hq) ?_
    refine W.widen (k := 600000) (n := 7302250) (by show 0 + (am_sz M' - s.heap.size) ≤ 600000; omega) (by show 0 + (am_sl M' - 0) ≤ 7302250; omega) ?_
    exact lw_ret hx hb hr hlocks hre.1
  · intro v hv
    rcases List.mem_cons.mp hv with h | h
    · rw [h]
      intro t a hta
      cases hta
      exact ⟨by simp [am_tg, am_M0], by decide⟩
    · have h2 : v = am_u := by simpa using h
      rw [h2]
      exact am_wv_u _
end TOP
