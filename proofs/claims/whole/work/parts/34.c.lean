/-! at the start the two agree -/
theorem lay0 {s1 s2 s3 s4 s5 s6 : Int → Int} {st wk pc wd : Int} : LayN 0 0 0 s1 s2 0 s3 0 s4 0 st wk pc wd 0 s5 s6 zF zF zF zF zF zF := by
  refine ⟨⟨rfl, by decide, by decide⟩, ⟨rfl, by decide, by decide⟩, ⟨rfl, by decide, by decide⟩, ⟨rfl, by decide, by decide⟩, ⟨rfl, by decide, by decide⟩, ⟨rfl, by decide, by decide⟩, Or.inl ⟨rfl, rfl⟩, fun i h0 h1 => absurd h1 (by omega), fun i h0 h1 => absurd h1 (by omega), fun i h0 h1 => absurd h1 (by omega), fun k h => absurd h (by omega), fun i h0 h1 => absurd h1 (by omega)⟩
theorem img0 {f1 f2 f3 f4 f5 f6 f7 f8 f9 f10 f11 l h p a b c : Int → Int} {j1 j2 j3 j4 j5 j6 : Int → Int → Int} : ImgR zF f1 f2 f3 f4 f5 f6 f7 f8 f9 f10 f11 j1 j2 j3 j4 j5 j6 zF l h p a b c := fun k _ _ => Or.inl ⟨rfl, rfl⟩
theorem slot0 {f1 f2 f3 f4 : Int → Int} {n : Int → Int → Int} : SlotR zF f1 f2 n (up (up (up (up zF 0 (-1)) 1 (-1)) 2 (-1)) 3 (-1)) f3 f4 := by
  intro s h0 h4
  refine Or.inl ⟨rfl, ?_⟩
  unfold up
  rcases (show s = 0 ∨ s = 1 ∨ s = 2 ∨ s = 3 by omega) with rfl | rfl | rfl | rfl <;> decide
theorem rl0 : Rl ci0 cf0 cg0 := ⟨lay0, fun h => absurd h (by decide), img0, slot0, TapeR.zero⟩
