section INITC
variable {E : EE} {cc : ByteArray} {own : String} {rm : Room} {k n pc : Nat} {ws : va_W} {L : List (Option Value)} {st : List Value}
theorem last_C (ws : va_W) (x : Nat × va_E) : [ws.length].map (fun i => (ws ++ [x])[i]?) = [x].map some := by
  simp
theorem last_R (ws : va_W) (x : Nat × va_E) : (List.range ws.length).map (fun i => (ws ++ [x])[i]?) = ws.map some := by
  refine List.ext_getElem? (fun i => ?_)
  rw [List.getElem?_map, List.getElem?_map]
  by_cases h : i < ws.length
  · rw [List.getElem?_range h, Option.map_some, List.getElem?_append_left h, List.getElem?_eq_getElem h]
    rfl
  · rw [List.getElem?_eq_none (by simpa using h), List.getElem?_eq_none (by simpa using h)]
    rfl
theorem nd_of : ∀ l : List Nat, l.Nodup → va_nd l = true
  | [], _ => rfl
  | a :: l, h => by
    have h1 := List.nodup_cons.mp h
    unfold va_nd
    rw [nd_of l h1.2, decide_eq_true h1.1]
    rfl
theorem nd_range (m : Nat) : va_nd (List.range m) = true := nd_of _ List.nodup_range
def roomOKi (rc rm : Room) (mL k n : Nat) : Bool := Nat.ble (rc.frames + 1) rm.frames && (Nat.ble (8 + (mL + 11) + rc.locals) rm.locals && (Nat.ble (k + rc.cells) rm.cells && Nat.ble (n + rc.slots) rm.slots))
theorem roomOKi_spec {rc rm : Room} {mL k n : Nat} (h : roomOKi rc rm mL k n = true) : rc.frames + 1 ≤ rm.frames ∧ 8 + (mL + 11) + rc.locals ≤ rm.locals ∧ k + rc.cells ≤ rm.cells ∧ n + rc.slots ≤ rm.slots := by
  unfold roomOKi at h
  simp only [Bool.and_eq_true] at h
  exact ⟨Nat.ble_eq.mp h.1, Nat.ble_eq.mp h.2.1, Nat.ble_eq.mp h.2.2.1, Nat.ble_eq.mp h.2.2.2⟩
/-- behind a constructor -/
theorem g_afterI {rest : List Value} {b : Nat} {e : va_E} {P1 : va_W → Prop} {mc ms : Nat} {av : Array Value} {H : Heap} {locs : List Loc} {ls : Array Slot} (C : Cx E cc own rm)
    (hP : va_P (eD E) vwCl (ws ++ [(b, e)]) H) (hD : va_D (eA E) (ws ++ [(b, e)])) (hS : va_S (eA E) (eS E).heap H locs) (hl : lh ls (eN E) L)
    (hr : va_Run (eP E) (eL E) (eE E) (eR E) (eS E) (eM E) (eAr E) (eB E) (eMt E) (eC E) H locs k n mc ms (F0 (eM E) pc ls st) rest (QSn (eD E) [(b, e)] P1 H.size av) (va_A [(b, e)] H.size))
    (kk : ∀ w1, P1 w1 → GG E (k + mc) (n + ms) (ws ++ w1) L (pc + 3) rest) : W (eP E) (eL E) (eE E) (eR E) (eS E) (eM E) (eAr E) (eB E) (eMt E) (eC E) H locs k n (eQ E) (F0 (eM E) pc ls st) := by
  have hF := va_free (wc := [(b, e)]) hD hS C.a [ws.length] (last_C ws (b, e))
  intro T hT X
  obtain ⟨v, st₀, t, T', LL, h0, X', hL, e1, e2, ⟨⟨hv, w1, hw1, hP1, hD1⟩, hz, hk⟩, stp⟩ := hr T hT X
  cases hv
  rw [h0] at hz hk
  rw [← e1] at hP1 hz hk
  obtain ⟨jP, jD⟩ := va_join (wr := ws) (w1 := w1) hP hD [ws.length] (List.range ws.length) (last_C ws (b, e)) (last_R ws (b, e)) (nd_range _) (fun i hi => by
    have := List.mem_range.mp hi
    simp
    omega) hk hF hP1 hD1
  have jS : va_S (eA E) (eS E).heap T'.heap (locs ++ LL) := ⟨Nat.le_trans hS.1 hz, fun q h1 h2 => by rw [hk q (Nat.lt_of_lt_of_le h1 hS.1) (fun z => h2 (hF q z))]; exact hS.2.1 q h1 h2, fun q hq => by
    rcases List.mem_append.mp hq with h | h
    · exact hS.2.2 q h
    · exact hF _ (hL q h)⟩
  obtain ⟨t2, a1, b1⟩ := kk w1 hw1 T'.heap (locs ++ LL) ls jP jD jS hl T' rfl X'
  exact ⟨t2, stp t2 a1, b1⟩
theorem cut_last {b : Nat} {e : va_E} {A : Nat → Prop} {D : va_G} {H : Heap} (hP : va_P D vwCl (ws ++ [(b, e)]) H) (hD : va_D A (ws ++ [(b, e)])) : va_P D vwCl [(b, e)] H ∧ va_D (fun _ => True) [(b, e)] := by
  refine ⟨hP.sub [ws.length] ?_, (hD.sub [ws.length] rfl (last_C ws (b, e))).weaken (fun _ _ _ _ => trivial)⟩
  simp
/-- a constructor of a nest mate -/
theorem g_initN {y : MethodName} {cb : ByteArray} {mL nA index b : Nat} {host : String} {rc : Room} {As rest : List Value} {e : va_E} {X : State → Prop} {P1 : va_W → Prop} (C : Cx E cc own rm) (M : MtB own y cb mL none nA) (hi : y.name = "<init>") (hins : Cond.instanceMethod y ∈ WL) (hnest : Cond.methodLinkNest own index y host ∈ nestL)
    (hc : Ci (eL E) y cb mL rc (eD E) (eCy E) (eAd E) (.ref b :: As) [(b, e)] X P1) (hX : Mvd X) (hXs : X (eS E))
    (hnA : As.length = nA) (hst : st = As.reverse ++ .ref b :: rest) (hcat : Nat.ble (rest.map fun v => v.category).sum 8 = true) (hrm : roomOKi rc rm mL k n = true) (d : decode cc pc = .ok (.invokespecial index, 3)) (kk : ∀ w1, P1 w1 → GG E (k + rc.cells) (n + rc.slots) (ws ++ w1) L (pc + 3) rest) : GG E k n (ws ++ [(b, e)]) L pc st := by
  intro H locs ls hP hD hS hl
  obtain ⟨r3, r4, r5, r6⟩ := roomOKi_spec hrm
  have hF := va_free (wc := [(b, e)]) hD hS C.a [ws.length] (last_C ws (b, e))
  obtain ⟨hPc, hDc⟩ := cut_last hP hD
  have hB := va_cnB (R := rm) (mc := rc.cells) (ms := rc.slots) nA C.ts (wl_GoodIn M.1) rfl rfl rfl (C.kk.2.1 _ hnest) (C.ts _ M.2.1) M.2.2 ⟨r3, r4⟩
  rw [← C.r] at hB
  exact g_afterI C hP hD hS hl (va_runIN (As := As) (rest := rest) ⟨C.x, C.b, C.ml, C.ow, C.ts⟩ (hc H.size) ⟨hB, hi, C.ts _ hins⟩ ⟨PcX_blind hX, fun U hU hW => ⟨rfl, by rw [hU], by rw [hU]; exact hPc, KK.warm hW C.kk, hDc, SX.to C.sx hS hW hU hF, hX hW.alike hXs⟩⟩ rfl hnA hl.1 hst (lv_room (Nat.ble_eq.mp hcat)) d ⟨by rw [C.r]; exact r5, by rw [C.r]; exact r6⟩) kk
/-- a constructor that is linked as usual -/
theorem g_initS {y : MethodName} {cb : ByteArray} {mL nA index b : Nat} {rc : Room} {As rest : List Value} {e : va_E} {X : State → Prop} {P1 : va_W → Prop} (C : Cx E cc own rm) (M : MtB own y cb mL none nA) (hi : y.name = "<init>") (hins : Cond.instanceMethod y ∈ WL) (hlk : Cond.methodLink own index y ∈ WL)
    (hc : Ci (eL E) y cb mL rc (eD E) (eCy E) (eAd E) (.ref b :: As) [(b, e)] X P1) (hX : Mvd X) (hXs : X (eS E))
    (hnA : As.length = nA) (hst : st = As.reverse ++ .ref b :: rest) (hcat : Nat.ble (rest.map fun v => v.category).sum 8 = true) (hrm : roomOKi rc rm mL k n = true) (d : decode cc pc = .ok (.invokespecial index, 3)) (kk : ∀ w1, P1 w1 → GG E (k + rc.cells) (n + rc.slots) (ws ++ w1) L (pc + 3) rest) : GG E k n (ws ++ [(b, e)]) L pc st := by
  intro H locs ls hP hD hS hl
  obtain ⟨r3, r4, r5, r6⟩ := roomOKi_spec hrm
  have hF := va_free (wc := [(b, e)]) hD hS C.a [ws.length] (last_C ws (b, e))
  obtain ⟨hPc, hDc⟩ := cut_last hP hD
  have hB := callB_of (R := rm) (mc := rc.cells) (ms := rc.slots) nA C.ts (wl_GoodIn M.1) rfl rfl rfl (C.ts _ M.2.1) (C.ts _ hlk) M.2.2 ⟨r3, r4⟩
  rw [← C.r] at hB
  exact g_afterI C hP hD hS hl (va_runI (As := As) (rest := rest) ⟨C.x, C.b, C.ml, C.ow, C.ts⟩ (hc H.size) ⟨hB, hi, C.ts _ hins⟩ ⟨PcX_blind hX, fun U hU hW => ⟨rfl, by rw [hU], by rw [hU]; exact hPc, KK.warm hW C.kk, hDc, SX.to C.sx hS hW hU hF, hX hW.alike hXs⟩⟩ rfl hnA hl.1 hst (lv_room (Nat.ble_eq.mp hcat)) d ⟨by rw [C.r]; exact r5, by rw [C.r]; exact r6⟩) kk
def XT : State → Prop := fun _ => True
theorem XT_mvd : Mvd XT := fun _ _ => trivial
end INITC
