/-! contracts and calls -/
def Qs (G : Gc) (h : Hp) (K : Option Value → Hp → Prop) : Array Value → State → Outcome → State → Prop := fun _ st o t => ∃ (v : Option Value) (h' : Hp), o = .returned v ∧ va_P (gD G) vcl (hpw (gA G) (gB G) h') t.heap ∧ t.heap.size = kX h' ∧ K v h' ∧ kX h ≤ kX h' ∧ kS h ≤ kS h' ∧ hok (gB G) h' ∧ va_F (fun q => gB G ≤ q) st t ∧ szs st.heap t.heap ∧ ssum t.heap st.heap.size ≤ kS h' - kS h
def Ps (G : Gc) (h : Hp) (av : List Value) : Array Value → State → Prop := va_Pc av (fun U => va_P (gD G) vcl (hpw (gA G) (gB G) h) U.heap ∧ U.heap.size = kX h ∧ (gS G).WarmedH U.vm)
/-- A CONTRACT: the method r, called with av at the store h, returns, and K holds of what comes back -/
def sem (G : Gc) (r : Mr) (av : List Value) (h : Hp) (K : Option Value → Hp → Prop) : Prop :=
  hok (gB G) h → Met (gL G) (rY r) [.code (rY r) (rB r) (rL r) (rT r)] { frames := rF r, cells := gB G + capC - kX h, slots := capS - kS h, locals := rW r } (Ps G h av) (Qs G h K) (gB G + capC - kX h) (capS - kS h) (fun q => gB G ≤ q)
section XC
variable {G : Gc} {M : Mc} {r : Mr} {Q : State → Prop} {K : Option Value → Hp → Prop} {pc : Nat} {lv : List (Nat × Value)} {st : List Value} {h : Hp}
/-- what holds where a method returns -/
theorem qs_of {s : State} {below : List Frame} {v : Option Value} {h2 : Hp} {H : Heap} {locs : List Loc} {t : State} (hh : hok (gB G) h) (hs : s.heap.size = kX h) (a1 : s.heap.size ≤ kX h2) (a2 : kS h ≤ kS h2) (a3 : hok (gB G) h2) (hP : va_P (gD G) vcl (hpw (gA G) (gB G) h2) H) (hS : va_S (fun q => gB G ≤ q) s.heap H locs) (f1 : s.heap.size ≤ H.size) (f2 : H.size ≤ s.heap.size + (kX h2 - s.heap.size)) (f3 : ssum H s.heap.size ≤ kS h2 - kS h) (f4 : szs s.heap H) (k : K v h2) (ht : t.heap = H) (a : Array Value) : Qs G h K a s (.returned v) t := by
  refine ⟨v, h2, rfl, by rw [ht]; exact hP, ?_, k, by omega, a2, a3, hS.F ht, by rw [ht]; exact f4, by rw [ht]; exact f3⟩
  rw [ht]
  exact hsz hP (by have := hh.1; omega) f1 (by omega) a1
theorem sem_intro {av : List Value} (hy : plainName (rY r).cls = true) (hlen : (lg_sl av).length ≤ rL r) (body : ∀ (M : Mc) (Q : State → Prop), mok G M r Q K → X G M Q 0 (lv_args 0 av) [] h) : sem G r av h K := by
  intro hh
  refine Met.ofW (cc := rB r) (maxL := rL r) (ret := rT r) hy rfl ?_
  intro p e s m args below meth c s₁ B hml hv
  obtain ⟨rfl, hP, hz, hW⟩ := hv
  have c0 := hh.2.1
  have c1 := hh.2.2.1
  have hlocks := B.notSynchronized
  let M : Mc := (p, e, { frames := rF r, cells := gB G + capC - kX h, slots := capS - kS h, locals := rW r }, s, m, av.toArray, below, meth, c, kS h)
  have hM : mok G M r (MQ below (Qs G h K) av.toArray s (gB G + capC - kX h) (capS - kS h) (fun q => gB G ≤ q)) K := by
    refine ⟨B.exec, B.bytes, hml, B.returns, findClass_of_methodNamed B.named, B.notSynchronized, hW, by show gB G ≤ s.heap.size; rw [hz]; exact hh.1, rfl, by show gB G + capC - kX h + s.heap.size = _; omega, by show capS - kS h + kS h = _; omega, rfl, (name_of_methodNamed B.named B.method).1, ?_, ?_, ?_, ?_⟩
    · intro pc lv h2 v hd ht k a1 a2 a3 H locs ls hP hS hl
      have b1 := a3.2.1
      have b2 := a3.2.2.1
      have a1' : s.heap.size ≤ kX h2 := a1
      have a2' : kS h ≤ kS h2 := a2
      refine W_facts (fun f1 f2 f3 f4 => ?_)
      refine W.widen (k := gB G + capC - kX h) (n := capS - kS h) (by show kX h2 - s.heap.size ≤ _; omega) (by show kS h2 - kS h ≤ _; omega) ?_
      rcases ht with ht | ⟨ht, hn⟩
      · exact W.iret B.exec B.bytes (B.returns.trans ht) (fun t ht hW => qs_of (below := below) hh hz a1' a2' a3 hP hS f1 f2 f3 f4 k ht _) hS.2.2 hd hlocks
      · exact W.zret B.exec B.bytes (B.returns.trans ht) (by rcases hn with rfl | rfl <;> rfl) (fun t ht hW => qs_of (below := below) hh hz a1' a2' a3 hP hS f1 f2 f3 f4 k ht _) hS.2.2 hd hlocks
    · intro pc lv h2 v hd ht k a1 a2 a3 H locs ls hP hS hl
      have b1 := a3.2.1
      have b2 := a3.2.2.1
      have a1' : s.heap.size ≤ kX h2 := a1
      have a2' : kS h ≤ kS h2 := a2
      refine W_facts (fun f1 f2 f3 f4 => ?_)
      refine W.widen (k := gB G + capC - kX h) (n := capS - kS h) (by show kX h2 - s.heap.size ≤ _; omega) (by show kS h2 - kS h ≤ _; omega) ?_
      exact W.lret B.exec B.bytes (B.returns.trans ht) (fun t ht hW => qs_of (below := below) hh hz a1' a2' a3 hP hS f1 f2 f3 f4 k ht _) hS.2.2 hd hlocks
    · intro pc lv h2 v hd ht k a1 a2 a3 H locs ls hP hS hl
      have b1 := a3.2.1
      have b2 := a3.2.2.1
      have a1' : s.heap.size ≤ kX h2 := a1
      have a2' : kS h ≤ kS h2 := a2
      obtain ⟨t0, ht, hr⟩ := ht
      refine W_facts (fun f1 f2 f3 f4 => ?_)
      refine W.widen (k := gB G + capC - kX h) (n := capS - kS h) (by show kX h2 - s.heap.size ≤ _; omega) (by show kS h2 - kS h ≤ _; omega) ?_
      exact W.aret B.exec B.bytes (B.returns.trans ht) hr (Or.inr ⟨v, rfl⟩) (fun t ht hW => qs_of (below := below) hh hz a1' a2' a3 hP hS f1 f2 f3 f4 k ht _) hS.2.2 hd hlocks
    · intro pc lv h2 hd ht k a1 a2 a3 H locs ls hP hS hl
      have b1 := a3.2.1
      have b2 := a3.2.2.1
      have a1' : s.heap.size ≤ kX h2 := a1
      have a2' : kS h ≤ kS h2 := a2
      refine W_facts (fun f1 f2 f3 f4 => ?_)
      refine W.widen (k := gB G + capC - kX h) (n := capS - kS h) (by show kX h2 - s.heap.size ≤ _; omega) (by show kS h2 - kS h ≤ _; omega) ?_
      exact W.vret B.exec B.bytes (B.returns.trans ht) (fun t ht hW => qs_of (below := below) hh hz a1' a2' a3 hP hS f1 f2 f3 f4 k ht _) hS.2.2 hd hlocks
  have hl := lv_entry av (n := rL r) hlen
  rw [lg_entry_eq]
  generalize (lg_sl av ++ List.replicate (rL r - (lg_sl av).length) Slot.unset).toArray = ls at hl ⊢
  have hX := body M _ hM (by show s.heap.size ≤ kX h; omega) (Nat.le_refl _) hh s.heap [] ls hP va_S.rf (by show lv_has ls c.maxLocals _; rw [hml]; exact hl)
  have e1 : kX h - s.heap.size = 0 := by omega
  have e2 : kS h - kS h = 0 := Nat.sub_self _
  have hX : W p (gL G) e { frames := rF r, cells := gB G + capC - kX h, slots := capS - kS h, locals := rW r } s m av.toArray below meth c s.heap [] (kX h - s.heap.size) (kS h - kS h) (MQ below (Qs G h K) av.toArray s (gB G + capC - kX h) (capS - kS h) (fun q => gB G ≤ q)) (F0 m 0 ls []) := hX
  rw [e1, e2] at hX
  exact hX
theorem sem_mono {av : List Value} {K2 : Option Value → Hp → Prop} (hs : sem G r av h K) (hk : ∀ v h', K v h' → K2 v h') : sem G r av h K2 := by
  intro hh p e ha hc hk2 s m args below hf hpre hP hx
  obtain ⟨n, o, h1, h2, h3, ⟨v, h', q1, q2, q3, q4, q5⟩, q6⟩ := hs hh p e ha hc hk2 s m args below hf hpre hP hx
  exact ⟨n, o, h1, h2, h3, ⟨v, h', q1, q2, q3, hk v h' q4, q5⟩, q6⟩
/-- behind a call -/
theorem x_run (hM : mok G M r Q K) {rest st0 : List Value} {a : Array Value} {H : Heap} {locs : List Loc} {ls : Array Slot} {mc ms : Nat} (a1 : (mS M).heap.size ≤ kX h) (a2 : mZ M ≤ kS h) (hS : va_S (fun q => gB G ≤ q) (mS M).heap H locs) (hl : lv_has ls (mC M).maxLocals lv) (hr : va_Run (mP M) (gL G) (mE M) (mR M) (mS M) (mI M) (mA M) (mB M) (mM M) (mC M) H locs (kX h - (mS M).heap.size) (kS h - mZ M) mc ms (F0 (mI M) pc ls st0) rest (Qs G h (fun v h' => X G M Q (pc + 3) lv (v.toList ++ rest) h') a) (fun q => gB G ≤ q)) : Wx G M H locs (kX h - (mS M).heap.size) (kS h - mZ M) Q (F0 (mI M) pc ls st0) := by
  intro T hT Y
  obtain ⟨-, f1, f2, -, f4, f5⟩ := Y.same
  have f1 : (mS M).heap.size ≤ T.heap.size := f1
  have f4 : ssum T.heap (mS M).heap.size ≤ kS h - mZ M := f4
  obtain ⟨v, st₀, t, T', L, h0, Y', hL, e1, e2, ⟨v', h', hv, hP', hz', hK, x1, x2, x3, hF, hsz1, hsum⟩, go⟩ := hr T hT Y
  cases hv
  subst hT
  rw [h0] at hsz1 hsum
  have e3 : ssum T'.heap (mS M).heap.size ≤ kS h' - mZ M := by
    rw [e1, ssum_split hsz1 f1]
    omega
  have Y2 := stand_tight Y' (k := kX h' - (mS M).heap.size) (n := kS h' - mZ M) (by rw [e1, hz']; omega) e3
  have hS2 : va_S (fun q => gB G ≤ q) (mS M).heap T'.heap (locs ++ L) := by
    refine ⟨by rw [e1, hz']; omega, fun q q1 q2 => ?_, fun q hq => ?_⟩
    · rw [e1, hF.2 q (by rw [h0]; omega) q2, h0]
      exact hS.2.1 q q1 q2
    · rcases List.mem_append.mp hq with q1 | q1
      · exact hS.2.2 q q1
      · exact hL q q1
  obtain ⟨t2, b1, b2⟩ := hK (by omega) (by omega) x3 T'.heap (locs ++ L) ls (by rw [e1]; exact hP') hS2 hl T' rfl Y2
  exact ⟨t2, go t2 b1, b2⟩
end XC
