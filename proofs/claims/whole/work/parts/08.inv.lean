/-! the call instructions -/
/-- a method that may be called: n parameters -/
def yok (r : Mr) (n : Nat) : Prop := Cond.code (rY r) (rB r) (rL r) (rT r) ∈ lw_tbl ∧ Cond.initialized (rY r).cls ∈ lw_tbl ∧ ((rY r).cls ≠ "java/lang/invoke/MethodHandle" ∧ (rY r).cls ≠ "java/lang/invoke/VarHandle") ∧ (parseMethodDescriptor (rY r).desc).map (fun d => d.parameters.length) = some n ∧ plainName (rY r).cls = true
/-- the callee's room within the caller's -/
def rok (r r' : Mr) : Prop := rF r' + 1 ≤ rF r ∧ 8 + (rL r' + 11) + rW r' ≤ rW r
section XD
variable {G : Gc} {M : Mc} {r r' : Mr} {Q : State → Prop} {K : Option Value → Hp → Prop} {pc : Nat} {lv : List (Nat × Value)} {st : List Value} {h : Hp}
theorem ps_blind {av : List Value} : FrameBlind (Ps G h av) := fun _ _ _ _ q => q
theorem ps_at (hM : mok G M r Q K) {av : List Value} {H : Heap} (hP : va_P (gD G) vcl (hpw (gA G) (gB G) h) H) (hz : H.size = kX h) (U : State) (hU : U.heap = H) (hW : (mS M).WarmedH U.vm) : Ps G h av av.toArray U := ⟨rfl, by rw [hU]; exact hP, by rw [hU]; exact hz, State.WarmedH.trans (mw hM) hW⟩
theorem code_ws (hG : gok G) (hM : mok G M r Q K) (hw : Cond.code (rY r') (rB r') (rL r') (rT r') ∈ lw_tbl) : ∀ w ∈ [Cond.code (rY r') (rB r') (rL r') (rT r')], ∀ (a' : Array Value) (U : State), (mS M).WarmedH U.vm → w.before a' U = true := by
  intro w h1 a' U hW
  rw [List.mem_singleton.mp h1]
  exact word_at (State.WarmedH.trans (mw hM) hW) (good_of_word rfl) (hG.1 _ hw)
theorem call_B (hG : gok G) (hM : mok G M r Q K) {n i : Nat} {own : String} (hy : yok r' n) (hr : rok r r') (hw : Cond.methodLink own i (rY r') ∈ lw_tbl) : CallB (mR M) (mS M) (mA M) own i (rY r') (rB r') (rL r') (rT r') [.code (rY r') (rB r') (rL r') (rT r')] { frames := rF r', cells := gB G + capC - kX h, slots := capS - kS h, locals := rW r' } (gB G + capC - kX h) (capS - kS h) n := by
  obtain ⟨y1, y2, y3, y4, -⟩ := hy
  have m1 := mfr hM
  have m2 := mlo hM
  refine ⟨rfl, rfl, by rw [m1]; exact hr.1, by rw [m2]; exact hr.2, code_ws hG hM y1, List.mem_singleton.mpr rfl, wd hG hM y1 rfl, wd hG hM y2 rfl, y3, fun sig h => ?_, wd hG hM hw rfl⟩
  rw [h] at y4
  exact (Option.some.inj y4).symm
theorem call_N (hG : gok G) (hM : mok G M r Q K) {n i : Nat} {own host : String} (hy : yok r' n) (hr : rok r r') (hw : Cond.methodLinkNest own i (rY r') host ∈ lw_tbl) : va_CN (mR M) (mS M) (mA M) own i (rY r') host (rB r') (rL r') (rT r') [.code (rY r') (rB r') (rL r') (rT r')] { frames := rF r', cells := gB G + capC - kX h, slots := capS - kS h, locals := rW r' } (gB G + capC - kX h) (capS - kS h) n := by
  obtain ⟨y1, y2, y3, y4, -⟩ := hy
  have m1 := mfr hM
  have m2 := mlo hM
  refine ⟨⟨rfl, rfl, by rw [m1]; exact hr.1, by rw [m2]; exact hr.2, code_ws hG hM y1, List.mem_singleton.mpr rfl⟩, wd hG hM y1 rfl, wd hG hM y2 rfl, y3, fun sig h => ?_, va_Nw.use rfl (va_Nw.warmM (mw hM) (va_Nw.of rfl (hG.1 _ hw)))⟩
  rw [h] at y4
  exact (Option.some.inj y4).symm
theorem call_f (hM : mok G M r Q K) (a1 : (mS M).heap.size ≤ kX h) (a2 : mZ M ≤ kS h) (a3 : hok (gB G) h) : kX h - (mS M).heap.size + (gB G + capC - kX h) ≤ (mR M).cells ∧ kS h - mZ M + (capS - kS h) ≤ (mR M).slots := by
  have m1 := mcl hM
  have m2 := msl hM
  have b1 := a3.2.1
  have b2 := a3.2.2.1
  exact ⟨by omega, by omega⟩
theorem x_callS (hG : gok G) (hM : mok G M r Q K) {n i : Nat} {own : String} {st0 : List Value} (As : List Value) (ho : (rY r).cls = own) (hy : yok r' n) (hr : rok r r') (hw : Cond.methodLink own i (rY r') ∈ lw_tbl) (hw2 : Cond.static (rY r') ∈ lw_tbl) (hn : As.length = n) (hst : st0 = As.reverse ++ st) (hcat : (st.map fun v => v.category).sum ≤ 8) (hd : decode (rB r) pc = .ok (.invokestatic i, 3)) (hs : sem G r' As h (fun v h' => X G M Q (pc + 3) lv (v.toList ++ st) h')) : X G M Q pc lv st0 h := by
  intro a1 a2 a3 H locs ls hP hS hl
  refine W_facts (fun f1 f2 _ _ => ?_)
  have hz := hsz hP (mbase hM) f1 (by omega) a1
  exact x_run hM a1 a2 hS hl (va_runS (nL := rL r) (Ts := []) ⟨mx hM, mb hM, ml hM, by rw [← ho]; exact mo hM, fun w hw => absurd hw List.not_mem_nil⟩ (hs a3) ⟨call_B hG hM hy hr hw, wd hG hM hw2 rfl⟩ ⟨ps_blind, ps_at hM hP hz⟩ rfl hn (by rw [← ml hM]; exact hl.1) hst (lv_room hcat) hd (call_f hM a1 a2 a3))
theorem x_callSN (hG : gok G) (hM : mok G M r Q K) {n i : Nat} {own host : String} {st0 : List Value} (As : List Value) (ho : (rY r).cls = own) (hy : yok r' n) (hr : rok r r') (hw : Cond.methodLinkNest own i (rY r') host ∈ lw_tbl) (hw2 : Cond.static (rY r') ∈ lw_tbl) (hn : As.length = n) (hst : st0 = As.reverse ++ st) (hcat : (st.map fun v => v.category).sum ≤ 8) (hd : decode (rB r) pc = .ok (.invokestatic i, 3)) (hs : sem G r' As h (fun v h' => X G M Q (pc + 3) lv (v.toList ++ st) h')) : X G M Q pc lv st0 h := by
  intro a1 a2 a3 H locs ls hP hS hl
  refine W_facts (fun f1 f2 _ _ => ?_)
  have hz := hsz hP (mbase hM) f1 (by omega) a1
  exact x_run hM a1 a2 hS hl (va_runSN (nL := rL r) (Ts := []) ⟨mx hM, mb hM, ml hM, by rw [← ho]; exact mo hM, fun w hw => absurd hw List.not_mem_nil⟩ (hs a3) ⟨call_N hG hM hy hr hw, wd hG hM hw2 rfl, trivial⟩ ⟨ps_blind, ps_at hM hP hz⟩ rfl hn (by rw [← ml hM]; exact hl.1) hst (lv_room hcat) hd (call_f hM a1 a2 a3))
theorem x_recv (hG : gok G) (hM : mok G M r Q K) {ci N b : Nat} {C : String} {T : u_T} {H : Heap} (a3 : hok (gB G) h) (hP : va_P (gD G) vcl (hpw (gA G) (gB G) h) H) (hc : vcl[ci]? = some (C, T, N)) (hci : ci < 49) (ht : kT h b = ci + 1) : ∃ cell : Cell, H[b]? = some cell ∧ cell.vm.isStatics = false ∧ (mS M).vm.findClass C = some cell.cls := by
  have hb := hin a3 ht (by omega)
  have hg := hpw_get (cA := gA G) hb.1 hb.2
  rw [ek_o ht hci] at hg
  exact va_recv (gK hG hM) hP hc hg
theorem x_callV (hG : gok G) (hM : mok G M r Q K) {ci N n i b : Nat} {own C : String} {T : u_T} {st0 : List Value} (As : List Value) (ho : (rY r).cls = own) (hc : vcl[ci]? = some (C, T, N)) (hci : ci < 49) (hy : yok r' n) (hr : rok r r') (hw : Cond.methodLink own i (rY r') ∈ lw_tbl) (hw2 : Cond.instanceMethod (rY r') ∈ lw_tbl) (hw3 : Cond.selects C (rY r') (rY r') ∈ lw_tbl) (hn : As.length = n) (hst : st0 = As.reverse ++ .ref b :: st) (hcat : (st.map fun v => v.category).sum ≤ 8) (hd : decode (rB r) pc = .ok (.invokevirtual i, 3)) (ht : kT h b = ci + 1) (hs : sem G r' (.ref b :: As) h (fun v h' => X G M Q (pc + 3) lv (v.toList ++ st) h')) : X G M Q pc lv st0 h := by
  intro a1 a2 a3 H locs ls hP hS hl
  refine W_facts (fun f1 f2 _ _ => ?_)
  have hz := hsz hP (mbase hM) f1 (by omega) a1
  exact x_run hM a1 a2 hS hl (va_runV (nL := rL r) (Ts := []) (C := C) ⟨mx hM, mb hM, ml hM, by rw [← ho]; exact mo hM, fun w hw => absurd hw List.not_mem_nil⟩ (hs a3) ⟨call_B hG hM hy hr hw, wd hG hM hw2 rfl, wd hG hM hw3 rfl⟩ ⟨ps_blind, x_recv hG hM a3 hP hc hci ht, ps_at hM hP hz⟩ rfl hn (by rw [← ml hM]; exact hl.1) hst (lv_room hcat) hd (call_f hM a1 a2 a3))
theorem x_callI (hG : gok G) (hM : mok G M r Q K) {n i b : Nat} {own : String} {st0 : List Value} (As : List Value) (ho : (rY r).cls = own) (hy : yok r' n) (hnm : (rY r').name = "<init>") (hrt : rT r' = none) (hr : rok r r') (hw : Cond.methodLink own i (rY r') ∈ lw_tbl) (hw2 : Cond.instanceMethod (rY r') ∈ lw_tbl) (hn : As.length = n) (hst : st0 = As.reverse ++ .ref b :: st) (hcat : (st.map fun v => v.category).sum ≤ 8) (hd : decode (rB r) pc = .ok (.invokespecial i, 3)) (hs : sem G r' (.ref b :: As) h (fun v h' => X G M Q (pc + 3) lv (v.toList ++ st) h')) : X G M Q pc lv st0 h := by
  intro a1 a2 a3 H locs ls hP hS hl
  refine W_facts (fun f1 f2 _ _ => ?_)
  have hz := hsz hP (mbase hM) f1 (by omega) a1
  have hB := call_B (h := h) hG hM hy hr hw
  have hs' := hs a3
  rw [hrt] at hB hs'
  exact x_run hM a1 a2 hS hl (va_runI (nL := rL r) (Ts := []) ⟨mx hM, mb hM, ml hM, by rw [← ho]; exact mo hM, fun w hw => absurd hw List.not_mem_nil⟩ hs' ⟨hB, hnm, wd hG hM hw2 rfl⟩ ⟨ps_blind, ps_at hM hP hz⟩ rfl hn (by rw [← ml hM]; exact hl.1) hst (lv_room hcat) hd (call_f hM a1 a2 a3))
theorem x_callIN (hG : gok G) (hM : mok G M r Q K) {n i b : Nat} {own host : String} {st0 : List Value} (As : List Value) (ho : (rY r).cls = own) (hy : yok r' n) (hnm : (rY r').name = "<init>") (hrt : rT r' = none) (hr : rok r r') (hw : Cond.methodLinkNest own i (rY r') host ∈ lw_tbl) (hw2 : Cond.instanceMethod (rY r') ∈ lw_tbl) (hn : As.length = n) (hst : st0 = As.reverse ++ .ref b :: st) (hcat : (st.map fun v => v.category).sum ≤ 8) (hd : decode (rB r) pc = .ok (.invokespecial i, 3)) (hs : sem G r' (.ref b :: As) h (fun v h' => X G M Q (pc + 3) lv (v.toList ++ st) h')) : X G M Q pc lv st0 h := by
  intro a1 a2 a3 H locs ls hP hS hl
  refine W_facts (fun f1 f2 _ _ => ?_)
  have hz := hsz hP (mbase hM) f1 (by omega) a1
  have hB := call_N (h := h) hG hM hy hr hw
  have hs' := hs a3
  rw [hrt] at hB hs'
  exact x_run hM a1 a2 hS hl (va_runIN (nL := rL r) (Ts := []) ⟨mx hM, mb hM, ml hM, by rw [← ho]; exact mo hM, fun w hw => absurd hw List.not_mem_nil⟩ hs' ⟨hB, hnm, wd hG hM hw2 rfl⟩ ⟨ps_blind, ps_at hM hP hz⟩ rfl hn (by rw [← ml hM]; exact hl.1) hst (lv_room hcat) hd (call_f hM a1 a2 a3))
theorem x_objInit (hG : gok G) (hM : mok G M r Q K) {i a : Nat} {own : String} (ho : (rY r).cls = own) (hw : Cond.methodLink own i objectInit ∈ lw_tbl) (hw2 : Cond.instanceMethod objectInit ∈ lw_tbl) (hw3 : Cond.code objectInit ⟨#[0xb1]⟩ 1 none ∈ lw_tbl) (hd : decode (rB r) pc = .ok (.invokespecial i, 3)) (hcat : (st.map fun v => v.category).sum ≤ 8) (hf : 1 ≤ rF r) (hlo : 20 ≤ rW r) (kk : X G M Q (pc + 3) lv st h) : X G M Q pc lv (.ref a :: st) h := by
  intro a1 a2 a3 H locs ls hP hS hl
  have m1 := mfr hM
  have m2 := mlo hM
  have hroom := lv_room (m := mI M) (pc := pc) (ls := ls) (rest := .ref a :: st) hcat
  refine W.objInit (mx hM) (mb hM) (by rw [← ho]; exact mo hM) (wd hG hM hw rfl) (wd hG hM hw2 rfl) (wd hG hM hw3 rfl) rfl hl.1 rfl hd (by omega) ?_ (kk a1 a2 a3 H locs ls hP hS hl)
  omega
end XD
