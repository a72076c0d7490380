theorem mem_to {a k : Nat} (ha : a < 12) (hk : k < 3) : ((23, a, k) : Ro) ∈ dynL := (by decide : ∀ a, a < 12 → ∀ k, k < 3 → ((23, a, k) : Ro) ∈ dynL) a ha k hk
theorem mem_nx {a k : Nat} (ha : a < 12) (hk : k < 3) : ((24, a, k) : Ro) ∈ dynL := (by decide : ∀ a, a < 12 → ∀ k, k < 3 → ((24, a, k) : Ro) ∈ dynL) a ha k hk
theorem semV_intro {G : Gc} {r : Mr} {mv : List Nat} {av : (Ro → Nat) → List Value} {ρ : Rs} {K : (Ro → Nat) → Option Value → Rs → Prop} (hy : plainName (rY r).cls = true) (hlen : ∀ ad, (lg_sl (av ad)).length ≤ rL r) (body : ∀ (M : Mc) (Q : State → Prop) (ad0 : Ro → Nat), mok G M r Q (KV G mv ad0 K) → Y G mv ad0 M Q 0 (fun ad => lv_args 0 (av ad)) (fun _ => []) ρ) : semV G r mv av ρ K :=
  fun ad h V => sem_intro hy (hlen ad) (fun M Q hM => body M Q ad hM ad h St_rf V)
theorem semV_mono {G : Gc} {r : Mr} {mv : List Nat} {av : (Ro → Nat) → List Value} {ρ : Rs} {K K2 : (Ro → Nat) → Option Value → Rs → Prop} (hs : semV G r mv av ρ K) (hk : ∀ ad v ρ', K ad v ρ' → K2 ad v ρ') : semV G r mv av ρ K2 :=
  fun ad h V => sem_mono (hs ad h V) (fun v h' ⟨ad', ρ', a, b, c⟩ => ⟨ad', ρ', a, b, hk _ _ _ c⟩)
