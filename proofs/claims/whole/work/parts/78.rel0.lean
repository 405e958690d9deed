theorem ww_Rel0 : ∃ s d, ww_Rel 0 ww_zAll s d := by
  refine ⟨(0, 1, 0, fun _ => 0, fun _ => 0, fun _ => 0), (0, 4, 1, 0, fun _ => 0, fun _ => 0, fun _ _ => 0, fun _ _ => 0, fun _ _ => 0, fun _ => false, fun _ => 0), ?_⟩
  have n3 : ∀ b : Nat, ¬ b < 0 := fun b => Nat.not_lt_zero b
  refine ⟨⟨by decide, by decide, by decide, by decide, fun j hj => by show (0 : Nat) ≤ 9; omega, fun b hb => absurd hb (n3 b), fun b c hb => absurd hb (n3 b)⟩, ⟨⟨by decide, by decide, by decide, by decide, by decide, by decide, fun i hi => absurd hi (n3 i), fun b hb => absurd hb (n3 b), fun b hb => rfl⟩, by decide, fun b hb => absurd hb (n3 b)⟩, ?_, ?_, ?_, ?_, ?_, ?_, ?_, ?_, ?_, ?_, ?_, ?_⟩
  · refine ⟨⟨rfl, rfl, rfl⟩, ⟨rfl, rfl, rfl, rfl, rfl⟩, fun i hi => absurd hi (n3 i), fun j hj => ?_, fun b hb => absurd hb (n3 b), fun b hb => absurd hb (n3 b), fun k hk => ?_⟩
    · have e : j = 0 := by have : j < 1 := hj; omega
      subst e; rfl
    · rcases (show k = 0 ∨ k = 1 ∨ k = 2 ∨ k = 3 by omega) with rfl | rfl | rfl | rfl <;> rfl
  · refine ⟨rfl, rfl, rfl, fun j hj => ?_, fun b hb => absurd hb (n3 b)⟩
    have e : j = 0 := by have : j < 1 := hj; omega
    subst e; rfl
  · refine ⟨⟨rfl, rfl, rfl, rfl⟩, fun b hb => ?_, fun i hi => absurd hi (n3 i), fun b hb => absurd hb (n3 b), fun k hk => ?_⟩
    · rcases (show b = 0 ∨ b = 1 ∨ b = 2 by omega) with rfl | rfl | rfl <;> rfl
    · rcases (show k = 0 ∨ k = 1 ∨ k = 2 ∨ k = 3 by omega) with rfl | rfl | rfl | rfl <;> rfl
  · exact ⟨0, by decide, rfl, rfl, fun i hi => absurd hi (n3 i)⟩
  · rfl
  · exact ⟨0, by decide, rfl, rfl, fun i hi => absurd hi (n3 i)⟩
  · exact ⟨0, by decide, rfl, fun i hi => ⟨0, by decide, rfl⟩⟩
  · refine ⟨0, by decide, rfl, fun j hj => ⟨?_, fun h => absurd h (by simp)⟩⟩
    rcases (show j = 0 ∨ j = 1 by omega) with rfl | rfl <;> rfl
  · intro j hj
    refine Or.inl ?_
    rcases (show j = 0 ∨ j = 1 ∨ j = 2 ∨ j = 3 by omega) with rfl | rfl | rfl | rfl <;> exact ⟨rfl, rfl⟩
  · rfl
  · rfl
  · rfl
