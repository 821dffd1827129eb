theorem sgA_ok : sgA.isSome = true := by decide +kernel
theorem sg1_0 : R0 sg1 := by
  refine ⟨?_, ?_, ?_, ?_, ?_, ?_, ?_, ?_, ?_, ?_, ?_, ?_, ?_, ?_, ?_, ?_, ?_, ?_, ?_, ?_, ?_, ?_⟩ <;> decide +kernel
theorem sg1_1 : R1 sg1 := by decide +kernel
theorem sg1_2 : R2 sg1 := by decide +kernel
theorem sg1_3 : R3 sg1 := by decide +kernel
theorem sg1_4a : ∀ g, g < 20 → sI sg1 (56 + 2 * g) 3 = sI sg1 216 g ∧ sI sg1 (56 + 2 * g) 4 = sI sg1 217 g ∧ sI sg1 (56 + 2 * g) 5 = sI sg1 218 g ∧ sI sg1 (56 + 2 * g) 6 = sI sg1 219 g ∧ sI sg1 (56 + 2 * g) 2 = sI sg1 220 g := by decide +kernel
theorem sg1_4b : ∀ g, g < 20 → sI sg1 216 g = 0 ∧ sI sg1 217 g = 0 ∧ sI sg1 218 g = 0 ∧ sI sg1 219 g = 0 ∧ sI sg1 220 g = 0 := by decide +kernel
theorem sg1_4 : R4 sg1 := by
  refine ⟨by decide +kernel, 0, by decide, by decide +kernel, fun g hg => ?_⟩
  obtain ⟨a1, a2, a3, a4, a5⟩ := sg1_4a g hg
  obtain ⟨b1, b2, b3, b4, b5⟩ := sg1_4b g hg
  refine ⟨a1, a2, a3, a4, a5, ?_, ?_, ?_, ?_, fun h => absurd h (Nat.not_lt_zero g), fun _ => b5, 0, by decide, b5, fun k hk => absurd hk (Nat.not_lt_zero k)⟩
  · rw [b1]; decide
  · rw [b2]; decide
  · rw [b3]; decide
  · rw [b4]; decide
theorem sg1_5 : R5 sg1 := by decide +kernel
theorem sg1_6 : R6 sg1 := by decide +kernel
theorem sg1_8 : R8 sg1 := by decide +kernel
theorem sg1_7a : ∀ l, l < 12 → sI sg1 (99 + 7 * l) 6 = sI sg1 228 l ∧ sI sg1 (99 + 7 * l) 7 = sI sg1 231 l ∧ sI sg1 (99 + 7 * l) 8 = sI sg1 232 l := by decide +kernel
theorem sg1_7b : ∀ l, l < 12 → sI sg1 228 l = 0 ∧ sI sg1 231 l = 0 ∧ sI sg1 232 l = 0 ∧ sI sg1 227 l = 0 := by decide +kernel
theorem sg1_7 : R7 sg1 := by
  refine ⟨by decide +kernel, 0, by decide, by decide +kernel, fun l hl => ?_⟩
  obtain ⟨a1, a2, a3⟩ := sg1_7a l hl
  obtain ⟨b1, b2, b3, b4⟩ := sg1_7b l hl
  refine ⟨a1, a2, a3, by rw [b2]; decide, ⟨0, by decide, b4, Or.inl ⟨b3, Or.inl (Nat.zero_le l)⟩⟩, 0, by decide, b1, fun _ => rfl, fun i hi => absurd hi (Nat.not_lt_zero i)⟩
theorem rel_first : Rel sg1 := ⟨sg1_0, sg1_1, sg1_2, sg1_3, sg1_4, sg1_5, sg1_6, sg1_7, sg1_8⟩
