/-! both sides agree at the start -/
theorem st_AL : AL st_m st_m := by
  have no : ∀ {P : Prop} (j : Nat), j < 0 → P := fun j h => absurd h (Nat.not_lt_zero j)
  have hh : ∀ s, s < 6 → st_h s = -1 := by decide +kernel
  refine ⟨⟨0, 0, fun _ _ => 0, 0, fun _ => (0, fun _ => 0), 0, 0, fun _ => (0, 0, 0, 0), fun _ => 0, ?_, ?_, ?_, ?_, fun j h => no j h, ?_, ?_, fun _ _ _ => rfl⟩, ⟨0, fun _ => 0, by omega, rfl, rfl, fun j h => no j h⟩, ⟨0, fun _ => 0, 0, ⟨by omega, rfl, rfl, fun j h => no j h⟩, ⟨by omega, rfl, rfl, fun j h => no j h⟩, fun s hs => Or.inl ⟨hh s hs, hh s hs⟩⟩⟩
  · exact ⟨⟨by omega, by omega, by omega, fun i => ⟨Nat.zero_le _, Nat.zero_le _, Nat.zero_le _, Nat.zero_le _, Nat.zero_le _, Nat.zero_le _, Nat.zero_le _, Nat.zero_le _⟩, fun s h => no s h⟩, rfl, rfl, rfl, fun c i _ h => no i h, fun c i _ _ h => no i h, fun w h => no w h, fun t _ => rfl⟩
  · exact ⟨⟨by omega, by omega, by omega, fun i => ⟨Nat.zero_le _, Nat.zero_le _, Nat.zero_le _, Nat.zero_le _, Nat.zero_le _, Nat.zero_le _, Nat.zero_le _, Nat.zero_le _⟩, fun s h => no s h⟩, rfl, rfl, rfl, fun i h => no i h, fun s h => no s h, fun w h => no w h, rfl⟩
  · exact ⟨rfl, rfl, by omega, fun j h => no j h⟩
  · exact ⟨rfl, rfl, by omega, fun j h => no j h⟩
  · exact fun s _ => ⟨(by decide : (0 : Nat) < 4 ^ 0), rfl⟩
  · exact fun s _ => ⟨(by decide : (0 : Nat) < 4 ^ 0), rfl⟩
theorem st_adh {z : Nat} {st : Nat → Nat} {j : Nat} : st_ad z st (900 + j) 0 = st j := by
  unfold st_ad
  rw [if_neg (by omega), show 900 + j - 900 = j by omega]
theorem st_loop {L : Nat} {xs : Nat → Int32} (hL : L ≤ 3072) : ∃ μ', f_L_law_18_lp L xs 10000 601 (nI 0) st_m = some (nI 1, μ') :=
  law_lp 10000 (by omega) hL 600 601 0 st_m (by omega) (by omega) (by omega) st_AL
