/-! what the tables give at the law's start -/
def okW : Cond → Bool
  | .arrayOver _ => true
  | w => goodWord w || w.onTables
theorem okW_spec {w : Cond} {args : Array Value} {s : State} (h : okW w = true) (hb : w.before args s = true) : w.before #[] s = true := by
  unfold okW at h
  split at h
  · exact hb
  · rw [Bool.or_eq_true] at h
    rcases h with h | h
    · exact word_at (State.WarmedH.refl s) (good_of_word h) hb
    · exact va_Nw.of h hb
theorem w_17 : Cond.instantiable "WinProofs" (11 : Nat) ∈ lw_tbl := List.mem_append_right _ (List.mem_of_getElem? (i := 17) (by decide +kernel))
theorem w_886 : Cond.instantiable "WinProofsModel" (37 : Nat) ∈ lw_tbl := List.mem_append_right _ (List.mem_of_getElem? (i := 886) (by decide +kernel))
theorem tbl_good : ∀ w ∈ lw_tbl, okW w = true := by decide +kernel
theorem arr_K {s : State} {ty : FieldType} (h : (Cond.arrayClass ty).before #[] s = true) : ∃ cA : ClassId, ArrOfT s cA ty ∧ s.vm.findClass ("[" ++ ty.toString) = some cA := by
  obtain ⟨cA, kA, comp, hfind, hk, hkind⟩ := Cond.arrayClass_spec h
  exact ⟨cA, fun n z => ⟨fun k h => (by cases h), kA, hk, comp, hkind⟩, hfind⟩
theorem arr_O {s : State} {C : String} (h : (Cond.arrayOver (.object C)).before #[] s = true) : ∃ cA : ClassId, ArrOfT s cA (.object C) ∧ va_RA s cA (.object C) := by
  obtain ⟨comp, c, k, h1, h2, h3, h4, h5⟩ := Cond.arrayOver_spec h
  exact ⟨c, fun n z => ⟨fun k h => (by cases h), k, h3, comp, h4⟩, k, comp, h3, h4, h1, h5⟩
theorem gok_ex (l : Launch) {s : State} {args : Array Value} (base : Nat) (hts : ∀ w ∈ lw_tbl, w.before args s = true) : ∃ (D : va_G) (cA : Nat → ClassId), gok (l, s, D, cA, base) := by
  have h0 : ∀ w ∈ lw_tbl, w.before #[] s = true := by
    intro w hw
    exact okW_spec (tbl_good w hw) (hts w hw)
  have hcl : ∀ c : Nat, ∃ (cC : ClassId) (iS : Nat → Nat), ∀ q : vw_C, vcl[c]? = some q → u_Kn s q.1 q.2.1 q.2.2 cC iS := by
    intro c
    match c with
    | 0 =>
      obtain ⟨cC, iS, h⟩ := u_known (C := "WinProofs") (T := TC_WP) (N := 11) (n := 11) h0 (fun w hw => (ck_WP.2.1 w hw).1) (h0 _ w_17)
      exact ⟨cC, iS, fun q hq => by cases hq; exact h⟩
    | 1 =>
      obtain ⟨cC, iS, h⟩ := u_known (C := "WinProofs$World") (T := TC_Wo) (N := 10) (n := 10) h0 (fun w hw => (ck_Wo.2.1 w hw).1) (h0 _ w_25)
      exact ⟨cC, iS, fun q hq => by cases hq; exact h⟩
    | 2 =>
      obtain ⟨cC, iS, h⟩ := u_known (C := "WinProofs$Act") (T := TC_Ac) (N := 4) (n := 4) h0 (fun w hw => (ck_Ac.2.1 w hw).1) (h0 _ w_32)
      exact ⟨cC, iS, fun q hq => by cases hq; exact h⟩
    | 3 =>
      obtain ⟨cC, iS, h⟩ := u_known (C := "WinProofs$Outcome") (T := TC_Ou) (N := 3) (n := 3) h0 (fun w hw => (ck_Ou.2.1 w hw).1) (h0 _ w_66)
      exact ⟨cC, iS, fun q hq => by cases hq; exact h⟩
    | 4 =>
      obtain ⟨cC, iS, h⟩ := u_known (C := "WinProofs$Clauses") (T := TC_Cl) (N := 4) (n := 4) h0 (fun w hw => (ck_Cl.2.1 w hw).1) (h0 _ w_38)
      exact ⟨cC, iS, fun q hq => by cases hq; exact h⟩
    | 5 =>
      obtain ⟨cC, iS, h⟩ := u_known (C := "WinProofs$Cover") (T := TC_Co) (N := 8) (n := 8) h0 (fun w hw => (ck_Co.2.1 w hw).1) (h0 _ w_186)
      exact ⟨cC, iS, fun q hq => by cases hq; exact h⟩
    | 6 =>
      obtain ⟨cC, iS, h⟩ := u_known (C := "WinProofs$Changes") (T := TC_Ch) (N := 4) (n := 4) h0 (fun w hw => (ck_Ch.2.1 w hw).1) (h0 _ w_228)
      exact ⟨cC, iS, fun q hq => by cases hq; exact h⟩
    | 7 =>
      obtain ⟨cC, iS, h⟩ := u_known (C := "WinProofs$Reach") (T := TC_Re) (N := 5) (n := 5) h0 (fun w hw => (ck_Re.2.1 w hw).1) (h0 _ w_251)
      exact ⟨cC, iS, fun q hq => by cases hq; exact h⟩
    | 8 =>
      obtain ⟨cC, iS, h⟩ := u_known (C := "WinProofs$Wins") (T := TC_Wi) (N := 9) (n := 9) h0 (fun w hw => (ck_Wi.2.1 w hw).1) (h0 _ w_278)
      exact ⟨cC, iS, fun q hq => by cases hq; exact h⟩
    | 9 =>
      obtain ⟨cC, iS, h⟩ := u_known (C := "WinProofs$Kinds") (T := TC_Ki) (N := 18) (n := 18) h0 (fun w hw => (ck_Ki.2.1 w hw).1) (h0 _ w_316)
      exact ⟨cC, iS, fun q hq => by cases hq; exact h⟩
    | 10 =>
      obtain ⟨cC, iS, h⟩ := u_known (C := "WinProofs$Search") (T := TC_Se) (N := 5) (n := 5) h0 (fun w hw => (ck_Se.2.1 w hw).1) (h0 _ w_381)
      exact ⟨cC, iS, fun q hq => by cases hq; exact h⟩
    | 11 =>
      obtain ⟨cC, iS, h⟩ := u_known (C := "WinProofsModel") (T := TC_Mo) (N := 37) (n := 37) h0 (fun w hw => (ck_Mo.2.1 w hw).1) (h0 _ w_886)
      exact ⟨cC, iS, fun q hq => by cases hq; exact h⟩
    | k + 12 => exact ⟨0, fun _ => 0, fun q hq => by simp [vcl] at hq⟩
  obtain ⟨a0, i0, r0⟩ := arr_K (h0 _ w_63)
  obtain ⟨a1, i1, r1⟩ := arr_K (h0 _ w_226)
  obtain ⟨a2, i2, r2⟩ := arr_K (h0 _ w_276)
  obtain ⟨a3, i3, r3⟩ := arr_O (h0 _ w_31)
  obtain ⟨a4, i4, r4⟩ := arr_O (h0 _ w_65)
  obtain ⟨a5, i5, r5⟩ := arr_O (h0 _ w_192)
  refine ⟨(fun c => Classical.choose (hcl c), fun c => Classical.choose (Classical.choose_spec (hcl c))), fun k => if k = 0 then a0 else if k = 1 then a1 else if k = 2 then a2 else if k = 3 then a3 else if k = 4 then a4 else a5, h0, fun c q hq => Classical.choose_spec (Classical.choose_spec (hcl c)) q hq, fun k q hq => ?_⟩
  match k, hq with
  | 0, hq => cases hq; exact ⟨i0, r0⟩
  | 1, hq => cases hq; exact ⟨i1, r1⟩
  | 2, hq => cases hq; exact ⟨i2, r2⟩
  | 3, hq => cases hq; exact ⟨i3, r3⟩
  | 4, hq => cases hq; exact ⟨i4, r4⟩
  | 5, hq => cases hq; exact ⟨i5, r5⟩
  | k + 6, hq => simp [tyz] at hq
