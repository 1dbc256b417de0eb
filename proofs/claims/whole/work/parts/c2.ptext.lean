/-! text: the state behind it; the pair -/
def sER (p a b : Int) : Bool := sCE p a b || (sTxR a b || ((decide (a = 71) && (decide (b = 7) || decide (b = 8))) || decide (a = 73)))
def sOK (p a b : Int) : Bool := sCO p a b || (sTxR a b || ((decide (a = 71) && (decide (b = 7) || (decide (b = 8) || (decide (b = 46) || (decide (b = 47) || (decide (b = 48) || (decide (b = 49) || decide (b = 55)))))))) || (decide (91 ≤ a) && decide (a ≤ 107))))
section PY1
variable {V W P : Hp} {p : Int}
theorem sTxR_o {a b : Int} (h : a ≠ 71) (h2 : a < 91 ∨ 106 < a) : sTxR a b = false := by
  unfold sTxR sTS sTM
  rw [if_neg h, decide_eq_false h, show fh a b = false from decide_eq_false (by omega)]
  rfl
theorem sER_n (hp : p = 5 ∨ p = 25) {a b : Int} (h1 : ¬ (a = 2 ∧ 1 ≤ b ∧ b ≤ 7)) (h2 : ¬ (5 ≤ a ∧ a ≤ 17)) (h3 : ¬ (25 ≤ a ∧ a ≤ 37)) (h4 : a ≠ 70 ∧ a ≠ 73) (h5 : ¬ (a = 1 ∧ (b = 11 ∨ b = 12))) (h6 : sTxR a b = false) (h7 : ¬ (a = 71 ∧ (b = 7 ∨ b = 8))) : sER p a b = false := by
  cases hx : sER p a b with
  | false => rfl
  | true =>
    unfold sER sCE at hx
    rw [sCX_n hp (by omega) h2 h3, h6] at hx
    simp only [Bool.false_or, Bool.or_eq_true, Bool.and_eq_true, decide_eq_true_eq] at hx
    omega
theorem sER_pl (hp : p = 5 ∨ p = 25) {a b : Int} (h : 30 - p ≤ a ∧ a ≤ 30 - p + 12) : sER p a b = false := by
  cases hx : sER p a b with
  | false => rfl
  | true =>
    unfold sER sCE sCX at hx
    rw [sPX_o (by omega), sTxR_o (by omega) (by omega)] at hx
    unfold sLX at hx
    rw [if_neg (by omega)] at hx
    simp only [Bool.false_or, Bool.or_eq_true, Bool.and_eq_true, decide_eq_true_eq] at hx
    omega
theorem inv_er (h : Inv0 V) (hp : p = 5 ∨ p = 25) (h40 : V 4 0 = 30 - p) (F : Fx (sER p) V W) (f1 : W 1 11 = W 71 7) (f2 : W 1 12 = W 71 8) (t1 : W 2 1 = 0) (t2 : W 71 1 = 0) (r : ∀ k : Nat, k < 6 → W 70 k = W 73 k) : Inv0 W := by
  obtain ⟨hI, hT, hFl, hR, hIm, hA, hH, hWd, hN, hTr⟩ := h
  have hP' : Ptr W := by
    rcases hp with rfl | rfl
    · exact ptr_fx hI.ptr F (by decide +kernel)
    · exact ptr_fx hI.ptr F (by decide +kernel)
  have hW' : Wds W := by
    rcases hp with rfl | rfl
    · exact wds_fx hWd F (by decide +kernel)
    · exact wds_fx hWd F (by decide +kernel)
  have ec : ∀ a : Int, (17 < a ∧ a < 25) ∨ (37 < a ∧ a < 70) ∨ 106 < a → W a = V a := fun a ha => F.cell a (fun b => sER_n hp (by omega) (by omega) (by omega) (by omega) (by omega) (sTxR_o (by omega) (by omega)) (by omega))
  have e4 : ∀ b, W 4 b = V 4 b := fun b => F 4 b (sER_n hp (by omega) (by omega) (by omega) (by omega) (by omega) (sTxR_o (by omega) (by omega)) (by omega))
  have e12 : W 1 2 = V 1 2 := F 1 2 (sER_n hp (by omega) (by omega) (by omega) (by omega) (by omega) (sTxR_o (by omega) (by omega)) (by omega))
  have m : ∀ b : Int, 46 ≤ b → W 71 b = V 71 b := fun b hb => F 71 b (sER_n hp (by omega) (by omega) (by omega) (by omega) (by omega) (by
    unfold sTxR sTS sTM
    rw [if_pos rfl, decide_eq_false (show ¬ b = 2 by omega), decide_eq_false (show ¬ b = 4 by omega), decide_eq_false (show ¬ b = 5 by omega), decide_eq_false (show ¬ b = 6 by omega), decide_eq_false (show ¬ b = 10 by omega), decide_eq_false (show ¬ b = 28 by omega), decide_eq_false (show ¬ b = 45 by omega), decide_eq_false (show ¬ b = 1 by omega), decide_eq_false (show ¬ b = 3 by omega)]
    rfl) (by omega))
  have s : S2h V W := fun a b h1 h2 h3 => F a b (sER_n hp (by omega) (by omega) (by omega) (by omega) (by omega) (by
    unfold sTxR sTS sTM
    rw [if_neg (by omega), h3, decide_eq_false (show ¬ a = 71 by omega)]; rfl) (by omega))
  obtain ⟨u0, u1, u2, u3⟩ := s.t
  have epl : ∀ a, V 4 0 ≤ a → a ≤ V 4 0 + 12 → W a = V a := fun a h1 h2 => F.cell a (fun b => sER_pl hp (by omega))
  have hCC := hI.2.2.2.2
  refine ⟨⟨hP', hI.boat.half s (m 46 (by decide)), hI.crew.half s (ec 107 (by decide)) (m 47 (by decide)) (m 48 (by decide)) (m 49 (by decide)) (m 57 (by decide)), ?_, ?_⟩, ?_, ⟨f1, f2⟩, r, ?_, ?_, ?_, hW', ?_, ?_⟩
  · rw [e4 0]
    exact hI.plan.half s (m 46 (by decide)) epl
  · unfold CrewC at hCC ⊢
    have ed : sdV W = sdV V := by unfold sdV; rw [m 49 (by decide)]
    rw [u0, ed, e4 0, e12, e4 3, e4 4, e4 5, m 47 (by decide), m 48 (by decide), m 57 (by decide), ec 18 (by decide), ec 19 (by decide), ec 107 (by decide)]
    exact hCC
  · exact ⟨by rw [t1]; decide, by rw [t1, t2], fun k hk => by rw [t1] at hk; exact absurd hk (by omega)⟩
  · unfold ImgR at hIm ⊢
    rw [e4 13, m 98 (by decide), ec 24 (by decide), ec 139 (by decide)]
    exact hIm
  · exact hA.half s (fun b hb => e4 b) (fun b h1 h2 => m b (by omega)) (ec 107 (by decide)) (ec 20 (by decide)) (ec 21 (by decide)) (ec 22 (by decide)) (ec 23 (by decide)) (ec 108 (by decide)) (ec 109 (by decide)) (ec 110 (by decide)) (ec 111 (by decide))
  · unfold HvOk at hH ⊢
    rw [ec 66 (by decide), ec 67 (by decide), ec 68 (by decide)]
    exact hH
  · exact hN.half s (e4 0) (epl _ (by omega) (by omega))
  · exact hTr.half s (by rw [ec 58 (by decide)]) (by rw [ec 58 (by decide)]) (ec 64 (by decide)) (ec 65 (by decide))
theorem sOK_n (hp : p = 5 ∨ p = 25) {a b : Int} (h1 : ¬ (a = 2 ∧ 1 ≤ b ∧ b ≤ 7)) (h2 : ¬ (5 ≤ a ∧ a ≤ 19)) (h3 : ¬ (25 ≤ a ∧ a ≤ 37)) (h4 : ¬ (a = 4 ∧ (b = 0 ∨ b = 3 ∨ b = 4 ∨ b = 11))) (h5 : ¬ (a = 1 ∧ (b = 2 ∨ b = 11 ∨ b = 12))) (h6 : sTxR a b = false) (h7 : ¬ (a = 71 ∧ (b = 7 ∨ b = 8 ∨ (46 ≤ b ∧ b ≤ 49) ∨ b = 55))) (h8 : a ≠ 58) (h9 : a < 91 ∨ 107 < a) : sOK p a b = false := by
  cases hx : sOK p a b with
  | false => rfl
  | true =>
    unfold sOK sCO sBD at hx
    rw [sCX_n hp (by omega) (by omega) h3, h6] at hx
    simp only [Bool.false_or, Bool.or_eq_true, Bool.and_eq_true, decide_eq_true_eq] at hx
    omega
theorem inv_okT (h : Inv0 V) (hp : p = 5 ∨ p = 25) (h40 : V 4 0 = 30 - p) (hB : TxB P) (F : Fx (sOK p) V W) (f1 : W 1 11 = W 71 7) (f2 : W 1 12 = W 71 8) (t1 : W 2 1 = 0) (t2 : W 71 1 = 0)
    (w12 : W 1 2 = V 4 0) (w40 : W 4 0 = p) (w43 : W 4 3 = 0) (w44 : W 4 4 = 0) (w411 : W 4 11 = 0) (w58 : W 58 7 = 0) (wk : ∀ i : Nat, i < 12 → W 18 i = siT P i ∧ (i < sTx P → W 19 i = if rgB P i = true then 1 else 0)) (hL : PlT P W p)
    (hi : ∀ (a : Int) (k : Nat), k < limF 4 12 1 4 96 8 a → ∀ b, b = offT a + k → W a b = P a k)
    (m46 : W 71 46 = 1) (m47 : W 71 47 = 0) (m48 : W 71 48 = 0) (m49 : W 71 49 = (sdB P 12 : Int)) (m55 : W 71 55 = 0) (w107 : ∀ i : Nat, i < 12 → W 107 i = siT P i) : Inv0 W := by
  obtain ⟨hI, hT, hFl, hR, hIm, hA, hH, hWd, hN, hTr⟩ := h
  have hP' : Ptr W := by
    rcases hp with rfl | rfl
    · exact ptr_fx hI.ptr F (by decide +kernel)
    · exact ptr_fx hI.ptr F (by decide +kernel)
  have hW' : Wds W := by
    rcases hp with rfl | rfl
    · exact wds_fx hWd F (by decide +kernel)
    · exact wds_fx hWd F (by decide +kernel)
  have ec : ∀ a : Int, (19 < a ∧ a < 25) ∨ (58 < a ∧ a ≤ 70) ∨ 71 < a ∧ a ≤ 73 ∨ 107 < a → W a = V a := fun a ha => F.cell a (fun b => sOK_n hp (by omega) (by omega) (by omega) (by omega) (by omega) (sTxR_o (by omega) (by omega)) (by omega) (by omega) (by omega))
  have e4 : ∀ b, b = 5 ∨ b = 10 ∨ b = 13 → W 4 b = V 4 b := fun b hb => F 4 b (sOK_n hp (by omega) (by omega) (by omega) (by omega) (by omega) (sTxR_o (by omega) (by omega)) (by omega) (by omega) (by omega))
  have m : ∀ b : Int, 56 ≤ b → W 71 b = V 71 b := fun b hb => F 71 b (sOK_n hp (by omega) (by omega) (by omega) (by omega) (by omega) (by
    unfold sTxR sTS sTM
    rw [if_pos rfl, decide_eq_false (show ¬ b = 2 by omega), decide_eq_false (show ¬ b = 4 by omega), decide_eq_false (show ¬ b = 5 by omega), decide_eq_false (show ¬ b = 6 by omega), decide_eq_false (show ¬ b = 10 by omega), decide_eq_false (show ¬ b = 28 by omega), decide_eq_false (show ¬ b = 45 by omega), decide_eq_false (show ¬ b = 1 by omega), decide_eq_false (show ¬ b = 3 by omega)]
    rfl) (by omega) (by omega) (by omega))
  obtain ⟨⟨b0, b0'⟩, ⟨b1, b1'⟩, ⟨b2, b2'⟩, ⟨b3, b3'⟩, b4, b5, b6, b7, b8, b9, b10, b11, b12, b13, b14, b15, b16⟩ := id hB
  have n4 : W 91 4 = sTx P := (hi 91 0 (by decide) 4 rfl).trans b0
  have n5 : W 91 5 = rTx P := (hi 91 1 (by decide) 5 rfl).trans b1
  have n6 : W 91 6 = uTx P := (hi 91 2 (by decide) 6 rfl).trans b2
  have n7 : W 91 7 = yTx P := (hi 91 3 (by decide) 7 rfl).trans b3
  have u0 : nS W = sTx P := by unfold nS nN; rw [n4]; rfl
  have u1 : nR W = rTx P := by unfold nR nN; rw [n5]; rfl
  have u2 : nU W = uTx P := by unfold nU nN; rw [n6]; rfl
  have u3 : nY W = yTx P := by unfold nY nN; rw [n7]; rfl
  have w98 : W 98 1 = P 98 0 := hi 98 0 (by decide) 1 rfl
  have w99 : W 99 1 = P 99 0 := hi 99 0 (by decide) 1 rfl
  have ea : eaV W = P 98 0 := by unfold eaV; rw [m46, if_neg (by decide), w98]
  have k92 : ∀ k : Nat, k < 12 → W 92 (12 + k) = P 92 k := fun k hk => hi 92 k hk _ rfl
  have k93 : ∀ k : Nat, k < 12 → W 93 (12 + k) = P 93 k := fun k hk => hi 93 k hk _ rfl
  have k94 : ∀ k : Nat, k < 12 → W 94 (12 + k) = P 94 k := fun k hk => hi 94 k hk _ rfl
  have k95 : ∀ k : Nat, k < 12 → W 95 (12 + k) = P 95 k := fun k hk => hi 95 k hk _ rfl
  have k96 : ∀ k : Nat, k < 12 → W 96 (12 + k) = P 96 k := fun k hk => hi 96 k hk _ rfl
  have k97 : ∀ k : Nat, k < 12 → W 97 (12 + k) = P 97 k := fun k hk => hi 97 k hk _ rfl
  have k105 : ∀ k : Nat, k < 12 → W 105 (12 + k) = P 105 k := fun k hk => hi 105 k hk _ rfl
  have k106 : ∀ k : Nat, k < 12 → W 106 (12 + k) = P 106 k := fun k hk => hi 106 k hk _ rfl
  have q100 : ∀ k : Nat, k < 4 → W 100 (4 + k) = P 100 k := fun k hk => hi 100 k hk _ rfl
  have q101 : ∀ k : Nat, k < 4 → W 101 (4 + k) = P 101 k := fun k hk => hi 101 k hk _ rfl
  have r103 : ∀ k : Nat, k < 8 → W 103 (8 + k) = P 103 k := fun k hk => hi 103 k hk _ rfl
  have r104 : ∀ k : Nat, k < 8 → W 104 (8 + k) = P 104 k := fun k hk => hi 104 k hk _ rfl
  have d102 : ∀ r k : Nat, r < 8 → k < 12 → W 102 (96 + 12 * r + k) = P 102 ((12 * r + k : Nat) : Int) := fun r k hr hk => hi 102 (12 * r + k) (show 12 * r + k < 96 by omega) _ (by show _ = (96 : Int) + _; omega)
  have sd : sdV W = sdB P 12 := by unfold sdV; rw [m49]; rfl
  have m56 := m 56 (by decide)
  have m57 := m 57 (by decide)
  have hCM := hI.crew
  have hCC := hI.2.2.2.2
  refine ⟨⟨hP', ?_, ?_, ?_, ?_⟩, ?_, ⟨f1, f2⟩, fun k hk => ?_, ?_, ?_, ?_, hW', ?_, Or.inl w58⟩
  · unfold BoatM
    rw [u0, u1, u2, u3, ea, n4, n5, n6, n7, m46, w99]
    exact ⟨⟨rfl, b0'⟩, ⟨rfl, b1'⟩, ⟨rfl, b2'⟩, ⟨rfl, b3'⟩, fun k hk => by rw [k92 k (Nat.lt_of_lt_of_le hk b0')]; exact b4 k hk, fun k hk => by rw [k93 k (Nat.lt_of_lt_of_le hk b0')]; exact b5 k hk, fun k hk => by rw [k94 k (Nat.lt_of_lt_of_le hk b0')]; exact b6 k hk, fun k hk => by rw [k96 k (Nat.lt_of_lt_of_le hk b1')]; exact b7 k hk, fun k hk => by rw [k97 k (Nat.lt_of_lt_of_le hk b1')]; exact b8 k hk, Or.inr rfl, b9, b10, fun q hq => by rw [q100 q hq]; exact b11 q hq, fun q hq h1 => by rw [q100 q hq] at h1; rw [q101 q hq]; exact b12 q hq h1, fun k hk => by rw [r103 k (Nat.lt_of_lt_of_le hk b2')]; exact b13 k hk, fun k hk => by rw [r104 k (Nat.lt_of_lt_of_le hk b2')]; exact b14 k hk, fun k hk => by rw [k105 k (Nat.lt_of_lt_of_le hk b3')]; exact b15 k hk, fun k hk => by rw [k106 k (Nat.lt_of_lt_of_le hk b3')]; exact b16 k hk⟩
  · unfold CrewM
    rw [u0, u1, sd, m47, m48, m49, m57]
    refine ⟨by decide, ⟨rfl, sdB_lt⟩, fun k hk => ?_, fun k h1 h2 => Or.inl ?_, hCM.2.2.2.2.1, by decide⟩
    · rw [w107 k (Nat.lt_of_lt_of_le hk b0')]
      unfold siT
      split
      · next c => exact ⟨by omega, by omega⟩
      · exact ⟨by decide, by omega⟩
    · rw [w107 k h2]
      unfold siT
      rw [if_neg (fun z => absurd z.1 (Nat.not_lt.mpr h1))]
  · rw [w40]
    obtain ⟨⟨a0, a1, a2, a3, a4, a5⟩, ⟨s1, s2, s3⟩, ⟨f, g, g1, g2, g3, g4, g5⟩, ⟨c1, c2⟩, cw, ⟨cu, -⟩, ⟨v1, v2⟩, ⟨y1, y2⟩, -⟩ := hL
    unfold PlanC
    rw [u0, u1, u2, u3, ea, w99]
    refine ⟨a0, a1, a2, a3, a4, a5, fun k hk => ?_, fun k hk => ?_, fun q k hq hk => ?_, ⟨f, g, g1, g2, g3, g4, fun k hk => ?_⟩, fun k hk => ?_, fun k hk => ?_, fun q hq => ?_, fun r k hr hk => ?_, fun r hr => ?_, fun r hr => ?_, fun k hk => ?_, fun k hk => ?_⟩
    · rw [k92 k (Nat.lt_of_lt_of_le hk b0')]; exact s1 k hk
    · rw [k93 k (Nat.lt_of_lt_of_le hk b0')]; exact s2 k hk
    · rw [k92 k (Nat.lt_of_lt_of_le hk b0'), k93 k (Nat.lt_of_lt_of_le hk b0')]; exact s3 q k hq hk
    · rw [k94 k (Nat.lt_of_lt_of_le hk b0')]; exact g5 k hk
    · rw [k96 k (Nat.lt_of_lt_of_le hk b1')]; exact c1 k hk
    · rw [k97 k (Nat.lt_of_lt_of_le hk b1')]; exact c2 k hk
    · rw [q100 q hq, q101 q hq]; exact cw q hq
    · rw [d102 r k (Nat.lt_of_lt_of_le hr b2') hk]; exact cu r k hr hk
    · rw [r103 r (Nat.lt_of_lt_of_le hr b2')]; exact v1 r hr
    · rw [r104 r (Nat.lt_of_lt_of_le hr b2')]; exact v2 r hr
    · rw [k105 k (Nat.lt_of_lt_of_le hk b3')]; exact y1 k hk
    · rw [k106 k (Nat.lt_of_lt_of_le hk b3')]; exact y2 k hk
  · unfold CrewC
    rw [u0, sd, w40, w12, w43, w44, e4 5 (Or.inl rfl), m47, m48, m57]
    refine ⟨hp, h40, rfl, rfl, hCC.2.2.2.2.1, fun k hk => ?_, fun k hk => ?_⟩
    · rw [(wk k (Nat.lt_of_lt_of_le hk b0')).1, w107 k (Nat.lt_of_lt_of_le hk b0')]
    · rw [(wk k (Nat.lt_of_lt_of_le hk b0')).2 hk, sdB_tb, decide_eq_true (Nat.lt_of_lt_of_le hk b0'), decide_eq_true hk, Bool.true_and, Bool.true_and]
  · exact ⟨by rw [t1]; decide, by rw [t1, t2], fun k hk => by rw [t1] at hk; exact absurd hk (by omega)⟩
  · rw [ec 70 (by decide), ec 73 (by decide)]
    exact hR k hk
  · unfold ImgR at hIm ⊢
    rw [e4 13 (by decide), m 98 (by decide), ec 24 (by decide), ec 139 (by decide)]
    exact hIm
  · obtain ⟨r1, r2, -⟩ := hA
    refine ⟨by rw [m56]; exact r1, by rw [e4 10 (by decide), m56]; exact r2, by rw [w411, m55], 0, by rw [m55]; rfl, by decide, fun i hi => absurd hi (Nat.not_lt_zero i)⟩
  · unfold HvOk at hH ⊢
    rw [ec 66 (by decide), ec 67 (by decide), ec 68 (by decide)]
    exact hH
  · intro r hr
    rw [u1] at hr
    obtain ⟨n, q1, q2, q3, q4, q5⟩ := hL.2.2.2.2.2.2.2.2.1 r hr
    rw [w40, k95 r (Nat.lt_of_lt_of_le hr b1')]
    exact ⟨n, q1, q2, q3, q4, q5⟩
end PY1
