/-! the plan at its place p -/
set_option maxRecDepth 20000 in
set_option maxHeartbeats 4000000 in
theorem pl_f {V H : Hp} {p : Int} (hH : Vw V H) (hp : p = 5 ∨ p = 25) (q : Ptr V) : shc p = 5 ∧ H p = V p ∧ V p 1 = p + 1 ∧ sht (p + 1) = 1 ∧ shl (p + 1) = 12 ∧ H (p + 1) = V (p + 1) ∧ V p 2 = p + 2 ∧ sht (p + 2) = 1 ∧ shl (p + 2) = 12 ∧ H (p + 2) = V (p + 2) ∧ V p 3 = p + 3 ∧ sht (p + 3) = 2 ∧ shl (p + 3) = 48 ∧ H (p + 3) = V (p + 3) ∧ V p 7 = p + 4 ∧ sht (p + 4) = 1 ∧ shl (p + 4) = 72 ∧ H (p + 4) = V (p + 4) ∧ V p 8 = p + 5 ∧ sht (p + 5) = 1 ∧ shl (p + 5) = 12 ∧ H (p + 5) = V (p + 5) ∧ V p 9 = p + 6 ∧ sht (p + 6) = 1 ∧ shl (p + 6) = 12 ∧ H (p + 6) = V (p + 6) ∧ V p 11 = p + 7 ∧ sht (p + 7) = 2 ∧ shl (p + 7) = 4 ∧ H (p + 7) = V (p + 7) ∧ V p 14 = p + 8 ∧ sht (p + 8) = 1 ∧ shl (p + 8) = 96 ∧ H (p + 8) = V (p + 8) ∧ V p 15 = p + 9 ∧ sht (p + 9) = 1 ∧ shl (p + 9) = 8 ∧ H (p + 9) = V (p + 9) ∧ V p 16 = p + 10 ∧ sht (p + 10) = 1 ∧ shl (p + 10) = 8 ∧ H (p + 10) = V (p + 10) ∧ V p 18 = p + 11 ∧ sht (p + 11) = 1 ∧ shl (p + 11) = 12 ∧ H (p + 11) = V (p + 11) ∧ V p 19 = p + 12 ∧ sht (p + 12) = 1 ∧ shl (p + 12) = 12 ∧ H (p + 12) = V (p + 12) := by
  have h5 := (Vw.rf (V := V)).f q
  have hf := hH.f q
  rcases hp with rfl | rfl
  · refine ⟨?_, ?_, ?_, ?_, ?_, ?_, ?_, ?_, ?_, ?_, ?_, ?_, ?_, ?_, ?_, ?_, ?_, ?_, ?_, ?_, ?_, ?_, ?_, ?_, ?_, ?_, ?_, ?_, ?_, ?_, ?_, ?_, ?_, ?_, ?_, ?_, ?_, ?_, ?_, ?_, ?_, ?_, ?_, ?_, ?_, ?_, ?_, ?_, ?_, ?_⟩ <;> first | rfl | (simp only [h5, Int.reduceAdd]; done) | (funext b; exact hH _ _ rfl)
  · refine ⟨?_, ?_, ?_, ?_, ?_, ?_, ?_, ?_, ?_, ?_, ?_, ?_, ?_, ?_, ?_, ?_, ?_, ?_, ?_, ?_, ?_, ?_, ?_, ?_, ?_, ?_, ?_, ?_, ?_, ?_, ?_, ?_, ?_, ?_, ?_, ?_, ?_, ?_, ?_, ?_, ?_, ?_, ?_, ?_, ?_, ?_, ?_, ?_, ?_, ?_⟩ <;> first | rfl | (simp only [h5, Int.reduceAdd]; done) | (funext b; exact hH _ _ rfl)
section PL
variable {d : Nat} {V H : Hp} {Q : AV → Hp → Prop} {p : Int}
theorem PlanC.seats (h : PlanC V p) : V p 0 = nS V := h.1
theorem PlanC.rowers (h : PlanC V p) : V p 6 = nR V := h.2.1
theorem PlanC.runs (h : PlanC V p) : V p 13 = nU V := h.2.2.1
theorem PlanC.pays (h : PlanC V p) : V p 17 = nY V := h.2.2.2.1
theorem PlanC.left (h : PlanC V p) : V p 10 = eaV V := h.2.2.2.2.1
theorem PlanC.near (h : PlanC V p) : V p 12 = V 99 1 := h.2.2.2.2.2.1
theorem PlanC.place (h : PlanC V p) : ∀ k : Nat, k < nS V → V (p + 1) k = V 92 (12 + k) := h.2.2.2.2.2.2.1
theorem PlanC.arm (h : PlanC V p) : ∀ k : Nat, k < nS V → V (p + 2) k = V 93 (12 + k) := h.2.2.2.2.2.2.2.1
theorem PlanC.lever (h : PlanC V p) : ∀ q k : Nat, q < 4 → k < nS V → V (p + 3) (12 * q + k) = V 93 (12 + k) * V 92 (12 + k) ^ q := h.2.2.2.2.2.2.2.2.1
theorem PlanC.fixed (h : PlanC V p) : ∃ f g : Nat, V p 4 = f ∧ V p 5 = g ∧ f < 2 ^ nS V ∧ g < 2 ^ nS V ∧ ∀ k : Nat, k < nS V → (f.testBit k = decide (V 94 (12 + k) = 1) ∧ g.testBit k = decide (V 94 (12 + k) = 2)) := h.2.2.2.2.2.2.2.2.2.1
theorem PlanC.str (h : PlanC V p) : ∀ k : Nat, k < nR V → V (p + 5) k = V 96 (12 + k) := h.2.2.2.2.2.2.2.2.2.2.1
theorem PlanC.tire (h : PlanC V p) : ∀ k : Nat, k < nR V → V (p + 6) k = V 97 (12 + k) := h.2.2.2.2.2.2.2.2.2.2.2.1
theorem PlanC.want (h : PlanC V p) : ∀ q : Nat, q < 4 → V (p + 7) q = if V 100 (4 + q) = 1 then V 101 (4 + q) else -1000000000000000 := h.2.2.2.2.2.2.2.2.2.2.2.2.1
theorem PlanC.side (h : PlanC V p) : ∀ r k : Nat, r < nU V → k < 12 → V (p + 8) (12 * r + k) = if V 102 (96 + 12 * r + k) = 2 then 1 else if V 102 (96 + 12 * r + k) = 1 then -1 else 0 := h.2.2.2.2.2.2.2.2.2.2.2.2.2.1
theorem PlanC.rpow (h : PlanC V p) : ∀ r : Nat, r < nU V → V (p + 9) r = V 103 (8 + r) := h.2.2.2.2.2.2.2.2.2.2.2.2.2.2.1
theorem PlanC.rsw (h : PlanC V p) : ∀ r : Nat, r < nU V → V (p + 10) r = V 104 (8 + r) := h.2.2.2.2.2.2.2.2.2.2.2.2.2.2.2.1
theorem PlanC.paid (h : PlanC V p) : ∀ k : Nat, k < nY V → V (p + 11) k = V 105 (12 + k) := h.2.2.2.2.2.2.2.2.2.2.2.2.2.2.2.2.1
theorem PlanC.paidOn (h : PlanC V p) : ∀ k : Nat, k < nY V → V (p + 12) k = V 106 (12 + k) := h.2.2.2.2.2.2.2.2.2.2.2.2.2.2.2.2.2
theorem BoatM.s (h : BoatM V) : V 91 4 = nS V ∧ nS V ≤ 12 := h.1
theorem BoatM.r (h : BoatM V) : V 91 5 = nR V ∧ nR V ≤ 12 := h.2.1
theorem BoatM.u (h : BoatM V) : V 91 6 = nU V ∧ nU V ≤ 8 := h.2.2.1
theorem BoatM.y (h : BoatM V) : V 91 7 = nY V ∧ nY V ≤ 12 := h.2.2.2.1
theorem BoatM.place (h : BoatM V) : ∀ k : Nat, k < nS V → 1 ≤ V 92 (12 + k) ∧ V 92 (12 + k) ≤ 99 := h.2.2.2.2.1
theorem BoatM.arm (h : BoatM V) : ∀ k : Nat, k < nS V → 1 ≤ V 93 (12 + k) ∧ V 93 (12 + k) ≤ 99 := h.2.2.2.2.2.1
theorem BoatM.fix (h : BoatM V) : ∀ k : Nat, k < nS V → 0 ≤ V 94 (12 + k) ∧ V 94 (12 + k) ≤ 2 := h.2.2.2.2.2.2.1
theorem BoatM.str (h : BoatM V) : ∀ k : Nat, k < nR V → 1 ≤ V 96 (12 + k) ∧ V 96 (12 + k) ≤ 99 := h.2.2.2.2.2.2.2.1
theorem BoatM.tire (h : BoatM V) : ∀ k : Nat, k < nR V → 0 ≤ V 97 (12 + k) ∧ V 97 (12 + k) ≤ 9 := h.2.2.2.2.2.2.2.2.1
theorem BoatM.told (h : BoatM V) : V 71 46 = 0 ∨ V 71 46 = 1 := h.2.2.2.2.2.2.2.2.2.1
theorem BoatM.each (h : BoatM V) : -1 ≤ eaV V ∧ eaV V ≤ 12 := h.2.2.2.2.2.2.2.2.2.2.1
theorem BoatM.near (h : BoatM V) : 0 ≤ V 99 1 ∧ V 99 1 ≤ 9999 := h.2.2.2.2.2.2.2.2.2.2.2.1
theorem BoatM.isw (h : BoatM V) : ∀ q : Nat, q < 4 → V 100 (4 + q) = 0 ∨ V 100 (4 + q) = 1 := h.2.2.2.2.2.2.2.2.2.2.2.2.1
theorem BoatM.want (h : BoatM V) : ∀ q : Nat, q < 4 → V 100 (4 + q) = 1 → -9999 ≤ V 101 (4 + q) ∧ V 101 (4 + q) ≤ 9999 := h.2.2.2.2.2.2.2.2.2.2.2.2.2.1
theorem BoatM.rpow (h : BoatM V) : ∀ r : Nat, r < nU V → 0 ≤ V 103 (8 + r) ∧ V 103 (8 + r) ≤ 3 := h.2.2.2.2.2.2.2.2.2.2.2.2.2.2.1
theorem BoatM.rsw (h : BoatM V) : ∀ r : Nat, r < nU V → -99999 ≤ V 104 (8 + r) ∧ V 104 (8 + r) ≤ 99999 := h.2.2.2.2.2.2.2.2.2.2.2.2.2.2.2.1
theorem BoatM.paid (h : BoatM V) : ∀ k : Nat, k < nY V → 1 ≤ V 105 (12 + k) ∧ V 105 (12 + k) ≤ 999 := h.2.2.2.2.2.2.2.2.2.2.2.2.2.2.2.2.1
theorem BoatM.paidOn (h : BoatM V) : ∀ k : Nat, k < nY V → 0 ≤ V 106 (12 + k) ∧ V 106 (12 + k) ≤ 999 := h.2.2.2.2.2.2.2.2.2.2.2.2.2.2.2.2.2
theorem CrewM.stroke (h : CrewM V) : 0 ≤ V 71 47 ∧ V 71 47 ≤ 9999 := h.1
theorem CrewM.sides (h : CrewM V) : V 71 49 = sdV V ∧ sdV V < 2 ^ nS V := h.2.1
theorem CrewM.sits (h : CrewM V) : ∀ k : Nat, k < nS V → -1 ≤ V 107 k ∧ V 107 k < nR V := h.2.2.1
theorem CrewM.off (h : CrewM V) : ∀ k : Nat, nS V ≤ k → k < 12 → V 107 k = -1 ∨ (nS V = 0 ∧ V 107 k = 0 ∧ V 96 12 = 0 ∧ V 97 12 = 0) := h.2.2.2.1
theorem CrewM.seed (h : CrewM V) : 0 ≤ V 71 57 ∧ V 71 57 < 2147483648 := h.2.2.2.2.1
theorem Inq.ptr (h : Inq V) : Ptr V := h.1
theorem Inq.boat (h : Inq V) : BoatM V := h.2.1
theorem Inq.crew (h : Inq V) : CrewM V := h.2.2.1
theorem Inq.plan (h : Inq V) : PlanC V (V 4 0) := h.2.2.2.1
theorem Inq.cc (h : Inq V) : CrewC V := h.2.2.2.2
theorem Inq.pp (h : Inq V) : V 4 0 = 5 ∨ V 4 0 = 25 := h.2.2.2.2.1
theorem CrewC.stroke (h : CrewC V) : V 4 3 = V 71 47 := h.2.2.1
theorem CrewC.heading (h : CrewC V) : V 4 4 = V 71 48 := h.2.2.2.1
theorem CrewC.drawn (h : CrewC V) : V 4 5 = V 71 57 := h.2.2.2.2.1
theorem CrewC.sits (h : CrewC V) : ∀ k : Nat, k < nS V → V 18 k = V 107 k := h.2.2.2.2.2.1
theorem CrewC.right (h : CrewC V) : ∀ k : Nat, k < nS V → V 19 k = if (sdV V).testBit k then 1 else 0 := h.2.2.2.2.2.2
end PL
