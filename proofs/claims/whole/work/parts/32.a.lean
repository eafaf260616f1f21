/-! THE LAW: its script -/
def Scr (E : EE) (b Ln : Nat) (xs : Nat → Int32) : Prop := va_X b Ln xs (eS E) (eS E).heap ∧ b < (eS E).heap.size ∧ ¬ eA E b ∧ Ln ≤ 3072
def xv (xs : Nat → Int32) (j : Int) : Int := (xs j.toNat).toInt
theorem xv_in (xs : Nat → Int32) (j : Int) : r32 (xv xs j) := by
  have h1 := Int32.le_toInt (xs j.toNat)
  have h2 := Int32.toInt_lt (xs j.toNat)
  unfold xv
  omega
section SCR
variable {E : EE} {cc : ByteArray} {own : String} {rm : Room} {k n pc : Nat} {ws : va_W} {L : List (Option Value)} {st : List Value} {b Ln : Nat} {xs : Nat → Int32}
theorem g_sld {j : Int} (C : Cx E cc own rm) (S : Scr E b Ln xs) (hj : 0 ≤ j ∧ j < (Ln : Int)) (d : decode cc pc = .ok (.iaload, 1)) (kk : GG E k n ws L (pc + 1) (.int (wI (xv xs j)) :: st)) : GG E k n ws L pc (.int (wI j) :: .ref b :: st) := by
  intro H locs ls hP hD hS hl
  have hL : Ln < 2147483648 := by have := S.2.2.2; omega
  have e : wI (xv xs j) = xs j.toNat := wI_of _
  refine va_sld C.x C.b S.1 S.2.1 S.2.2.1 hS (wI_in hj hL) d ?_
  rw [wI_clamp hj hL, ← e]
  exact kk H locs ls hP hD hS hl
theorem g_slen (C : Cx E cc own rm) (S : Scr E b Ln xs) (d : decode cc pc = .ok (.arraylength, 1)) (kk : GG E k n ws L (pc + 1) (.int (wI (Ln : Int)) :: st)) : GG E k n ws L pc (.ref b :: st) := by
  intro H locs ls hP hD hS hl
  refine va_slen C.x C.b S.1 S.2.1 S.2.2.1 hS d ?_
  exact kk H locs ls hP hD hS hl
end SCR
