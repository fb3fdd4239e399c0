/-! at the start no tray is laid -/
theorem RT_start (G : GG) (a b : Nat → Nat) : RT (sW G a) (rW G b) := fun t ht => by
  rcases (show t = 0 ∨ t = 1 ∨ t = 2 ∨ t = 3 by omega) with rfl | rfl | rfl | rfl
  · exact Or.inl ⟨(by decide : (-1 : Int32).toInt < 0), (by decide : (-1 : Int32).toInt = -1)⟩
  · exact Or.inl ⟨(by decide : (-1 : Int32).toInt < 0), (by decide : (-1 : Int32).toInt = -1)⟩
  · exact Or.inl ⟨(by decide : (-1 : Int32).toInt < 0), (by decide : (-1 : Int32).toInt = -1)⟩
  · exact Or.inl ⟨(by decide : (-1 : Int32).toInt < 0), (by decide : (-1 : Int32).toInt = -1)⟩
