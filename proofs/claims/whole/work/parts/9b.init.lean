/-! the memory that the constructors leave: the invariant holds there -/
def M00 : Mm := (fun a k => if 10 ≤ a ∧ a ≤ 15 ∧ k = 1 then -1 else if 23 ≤ a ∧ a ≤ 26 ∧ k = 1 then -1 else if 23 ≤ a ∧ a ≤ 26 ∧ (k = 2 ∨ k = 3 ∨ k = 4) then 1 else if a = 85 then -9 else 0, fun a k => if (a = 7 ∨ a = 8 ∨ a = 9) ∧ k = 1 then 1 else if a = 1 ∧ k = 4 then 1 else 0)
theorem mI_M00 (a k : Nat) : mI M00 a k = if 10 ≤ a ∧ a ≤ 15 ∧ k = 1 then -1 else if 23 ≤ a ∧ a ≤ 26 ∧ k = 1 then -1 else if 23 ≤ a ∧ a ≤ 26 ∧ (k = 2 ∨ k = 3 ∨ k = 4) then 1 else if a = 85 then -9 else 0 := rfl
theorem mJ_M00 (a k : Nat) : mJ M00 a k = if (a = 7 ∨ a = 8 ∨ a = 9) ∧ k = 1 then 1 else if a = 1 ∧ k = 4 then 1 else 0 := rfl
/-- any memory that agrees with M00 where it lasts -/
theorem inv_0 : Inv M00 := by
  have z : ∀ a k, ¬ (10 ≤ a ∧ a ≤ 15 ∧ k = 1) → ¬ (23 ≤ a ∧ a ≤ 26 ∧ k = 1) → ¬ (23 ≤ a ∧ a ≤ 26 ∧ (k = 2 ∨ k = 3 ∨ k = 4)) → ¬ a = 85 → mI M00 a k = 0 := fun a k h1 h2 h3 h4 => by rw [mI_M00, if_neg h1, if_neg h2, if_neg h3, if_neg h4]
  refine ⟨⟨fun _ => 9, fun _ => 1, fun _ => 1, fun _ => 1, fun _ => 0, fun _ _ => 0, fun c _ => ⟨Or.inr rfl, Or.inl rfl, Or.inl rfl, ⟨(show 1 ≤ 1 by omega), (show 1 ≤ 6 by omega)⟩, (show 0 ≤ 9 by omega), fun _ => ⟨rfl, fun _ _ => ⟨rfl, rfl⟩⟩, (show 0 + 0 + 0 + 0 ≤ 4 by omega)⟩, ⟨fun c hc => ⟨?_, ?_, ?_, ?_, ?_⟩, fun c k hc hk => ?_⟩, ⟨fun c hc => ⟨?_, fun hz => absurd rfl hz, ?_⟩, fun c k hc hk => ?_⟩⟩, ⟨fun _ => 41, fun _ _ => 0, fun r _ => (show 41 ≤ 41 by omega), fun r hr => ⟨?_, fun hz => absurd rfl hz⟩, fun r hr => ⟨?_, fun hz => absurd rfl hz⟩⟩, ⟨fun _ => 0, 0, 0, 0, 1, ⟨fun f h1 h5 => ?_, ?_, ?_, ?_, ?_⟩, ⟨fun f h1 h5 => ?_, ?_, ?_, ?_, ?_⟩⟩⟩
  · rw [mI_M00, if_neg (by omega), if_pos (by omega), if_pos rfl]
  · rw [mI_M00, if_neg (by omega), if_neg (by omega), if_pos (by omega)]; rfl
  · rw [mI_M00, if_neg (by omega), if_neg (by omega), if_pos (by omega)]; rfl
  · rw [mI_M00, if_neg (by omega), if_neg (by omega), if_pos (by omega)]; rfl
  · exact z _ _ (by omega) (by omega) (by omega) (by omega)
  · exact z _ _ (by omega) (by omega) (by omega) (by omega)
  · rw [if_pos rfl]; exact z _ _ (by omega) (by omega) (by omega) (by omega)
  · exact z _ _ (by omega) (by omega) (by omega) (by omega)
  · exact z _ _ (by omega) (by omega) (by omega) (by omega)
  · rw [mI_M00, if_pos (by omega), if_pos rfl]
  · rw [mI_M00, if_neg (by omega), if_neg (by omega), if_neg (by omega), if_pos rfl, if_pos rfl]
  · exact z _ _ (by omega) (by omega) (by omega) (by omega)
  · exact z _ _ (by omega) (by omega) (by omega) (by omega)
  · exact z _ _ (by omega) (by omega) (by omega) (by omega)
  · rfl
  · rfl
  · exact z _ _ (by omega) (by omega) (by omega) (by omega)
  · exact z _ _ (by omega) (by omega) (by omega) (by omega)
  · exact z _ _ (by omega) (by omega) (by omega) (by omega)
  · rfl
  · rfl
