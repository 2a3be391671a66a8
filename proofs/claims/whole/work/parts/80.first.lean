/-! BOTH SYSTEMS ANEW HOLD THE SAME STATE -/
def B0l : List Nat := [102, 117, 114, 116, 104, 101, 114, 32, 48, 32, 59, 32, 112, 97, 115, 115, 101, 115, 32, 48, 32, 59, 32, 112, 97, 121, 115, 32, 49, 32, 59, 32]
def B0f (j : Nat) : Nat := B0l.getD j 32
def T0f (p : Nat) : List Nat := if p = 0 then [100] else if p = 1 then [100] else [101]
def mz : Mm := (fun _ _ => 0, fun _ _ => 0)
def m0 : Mm := M_RX7 (zr 44 (M_RX6 (zr 0 mz)))
theorem hok_T0 : ∀ p, p < 3 → hok 0 (T0f p) := fun p hp => by
  match p, hp with
  | 0, _ => exact Or.inl ⟨Or.inr ⟨by decide, by decide⟩, by decide, rfl⟩
  | 1, _ => exact Or.inl ⟨Or.inr ⟨by decide, by decide⟩, by decide, rfl⟩
  | 2, _ => exact Or.inl ⟨Or.inr ⟨by decide, by decide⟩, by decide, rfl⟩
theorem GT_0 : GT 32 B0f T0f := ⟨by decide +kernel, hok_T0⟩
theorem TX_0 : TX m0 18 T0f := ⟨by decide +kernel, by decide +kernel, fun p j hp hj => (by decide +kernel : ∀ p, p < 3 → ∀ j, j < (T0f p).length → m0.1 (18 + 1) (off T0f p + j) = nI ((T0f p).getD j 0)) p hp j hj, hok_T0⟩
theorem CI_0 : CI m0 (0, fun _ => 0) 0 (1, fun _ => 32, fun _ => B0f, fun _ => T0f) (0, fun _ => 0) (0, 0, fun _ => 0, 0) (fun _ => 0, fun _ => 0, fun _ _ => 0) := by
  refine ⟨⟨by decide +kernel, by decide, fun i hi => absurd hi (Nat.not_lt_zero i)⟩, ⟨by decide +kernel, by decide, by decide, fun k hk => ?_⟩, ⟨by decide +kernel, by decide⟩, ⟨by decide +kernel, by decide, fun i hi => absurd hi (Nat.not_lt_zero i)⟩, ⟨by decide +kernel, by decide, fun z => absurd z (by decide)⟩, fun k hk => ?_⟩
  · have e : k = 0 := by
      have h1 : k < 1 := hk
      omega
    subst e
    exact TX_0
  · exact ⟨(by decide +kernel : ∀ k, k < 4 → m0.1 (36 + 2 * k) 1 = so1 0) k hk, by show 0 ≤ 3; decide, (by decide +kernel : ∀ k, k < 4 → m0.1 (36 + 2 * k) 2 = nI 0) k hk, by show 0 ≤ 40; decide, fun j hj => absurd hj (Nat.not_lt_zero j)⟩
theorem MI_0 : MI m0 (0, fun _ => 0) 0 (1, fun _ => 32, fun _ => B0f, fun _ => T0f) (0, fun _ => 0) (0, 0, fun _ => 0, 0) (fun _ => 0, fun _ => 0, fun _ _ => 0) := by
  refine ⟨⟨by decide +kernel, by decide, fun i hi => absurd hi (Nat.not_lt_zero i)⟩, ⟨by decide +kernel, by decide, by decide, fun k hk => ?_⟩, ⟨by decide +kernel, by decide⟩, ⟨by decide +kernel, by decide, fun i hi => absurd hi (Nat.not_lt_zero i)⟩, ⟨by decide +kernel, by decide, fun z => absurd z (by decide)⟩, fun k hk => ?_⟩
  · have e : k = 0 := by
      have h1 : k < 1 := hk
      omega
    subst e
    exact ⟨by show 32 ≤ 160; decide, by decide +kernel, (by decide +kernel : ∀ j, j < 32 → B0f j < 256 ∧ m0.1 45 (160 * 0 + j) = nI (B0f j)), GT_0⟩
  · exact ⟨by show 0 ≤ 3; decide, (by decide +kernel : ∀ k, k < 4 → m0.1 54 k = 0) k hk, fun z => absurd rfl z, fun z => absurd rfl z⟩
theorem INV_0 : INV m0 := ⟨_, _, _, _, _, _, CI_0, MI_0⟩
