/-! images stay where only what isn't theirs is changed -/
theorem ImgR.keep {im iL iO iP iW iB iS iT iK iC iD iA kept l h p a b c h' a' c' : Int → Int} {jP jS jC jW jV jT : Int → Int → Int} (I : ImgR im iL iO iP iW iB iS iT iK iC iD iA jP jS jC jW jV jT kept l h p a b c)
    (hh : ∀ i, 9 ≤ i → h' i = h i) (ha : ∀ i, 8 ≤ i → a' i = a i) (hc : ∀ i, 120 ≤ i → c' i = c i) : ImgR im iL iO iP iW iB iS iT iK iC iD iA jP jS jC jW jV jT kept l h' p a' b c' := by
  intro k k0 k3
  rcases I k k0 k3 with h0 | ⟨h1, h2, h3, h4⟩
  · exact Or.inl h0
  · refine Or.inr ⟨h1, h2, ?_, h4⟩
    exact Lay.congr h3 (fun i i0 i1 => hh _ (by omega)) (fun i i0 i1 => rfl) (fun i i0 i1 => ha _ (by omega)) (fun i i0 i1 => rfl) (fun i i0 i1 => hc _ (by omega))
theorem TapeR.zero {f g : Int → Int} : TapeR 0 f g := ⟨⟨by decide, by decide⟩, fun i h0 h1 => by omega⟩
theorem orJ_in (a b : Int) : r64 (orJ a b) := by
  have h1 := Int64.le_toInt (wJ a ||| wJ b)
  have h2 := Int64.toInt_lt (wJ a ||| wJ b)
  unfold orJ
  omega
