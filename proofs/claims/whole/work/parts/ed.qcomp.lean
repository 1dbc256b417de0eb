/-! QUESTIONS: comparisons in lockstep -/
section QU2
variable {V : Hp} {a : Nat} {j : Int} {o : Nat}
theorem fk_of (hT : TapeR V) (hk : skE V a = a) (ho6 : o ≤ 6) (n9 : ¬ wrI V a j QW = 9) (n8 : ¬ wrI V a j QW = 8) (n91 : ¬ bz V a = 91) {out : QO} (hC : CQ V QU_comparison (kpQ o + 9) a j o out) (hF : RFq V a j o out) (hQ : QF V a (22 + 2 * (6 - o)) true out) : FactOK V a j o :=
  ⟨out, c_fact (k := kpQ o + 4) (outC := .error (1, 0)) (outN := .error (1, 0)) (outT := .error (1, 0)) hT hk (fun z => absurd z n9) (fun z => absurd z n8) (fun z => absurd z n8) (fun _ _ z => absurd z n91) (fun _ _ z => absurd z n91) (fun _ _ _ => hC), rf_of hT hF hQ.1 n91 n8 ho6, hQ⟩
theorem fk_comp (hT : TapeR V) (hB : BoatM V) (hk : skE V a = a) (hn : a ≤ tpN V) (ho6 : o ≤ 6) (n9 : ¬ wrI V a j QW = 9) (n8 : ¬ wrI V a j QW = 8) (n91 : ¬ bz V a = 91) : FactOK V a j o := by
  obtain ⟨outA, hCA, hRA, hQA, hopA⟩ := sum_all (j := j) hT hB hn hk ho6
  cases eA : outA with
  | error x =>
    have hN : ∀ {a' j' cs'}, ¬ outA = .ok (a', j', cs') := fun z => by rw [eA] at z; cases z
    exact fk_of (out := outA) hT hk ho6 n9 n8 n91 (c_comp (k := kpQ o + 1) hT hCA (fun _ z => z) (fun a2 j2 cs1 z => absurd z hN) (fun a2 j2 cs1 z => absurd z hN)) (f_comp hT n9 hRA hQA hopA (fun _ z => z) (fun a2 j2 cs1 z => absurd z hN) (fun a2 j2 cs1 z => absurd z hN)) ⟨hQA.1, fun a' j' cs z => absurd z hN⟩
  | ok t =>
    obtain ⟨a2, j2, cs1⟩ := t
    have hN : ∀ {x}, ¬ outA = .error x := fun z => by rw [eA] at z; cases z
    obtain ⟨l1, l2, l3, l4, l5⟩ := hQA.2 _ _ _ eA
    by_cases c : bz V a2 = 60 ∨ bz V a2 = 62 ∨ bz V a2 = 61
    · have lt := bz_in' (V := V) (k := a2) rfl (by omega)
      have sk := skE_rng (V := V) (a := a2 + 1) lt
      obtain ⟨outB, hCB, hRB, hQB, hopB⟩ := sum_all (j := j2) hT hB sk.2 (skE_sk lt) ho6
      have key : ∃ e : Int, (bz V a2 = 60 ∧ e = -22) ∨ (bz V a2 = 62 ∧ e = -23) ∨ (bz V a2 = 61 ∧ e = -24) := by
        rcases c with c | c | c
        · exact ⟨-22, Or.inl ⟨c, rfl⟩⟩
        · exact ⟨-23, Or.inr (Or.inl ⟨c, rfl⟩)⟩
        · exact ⟨-24, Or.inr (Or.inr ⟨c, rfl⟩)⟩
      obtain ⟨e, he⟩ := key
      have ee : ∀ e' : Int, (bz V a2 = 60 ∧ e' = -22) ∨ (bz V a2 = 62 ∧ e' = -23) ∨ (bz V a2 = 61 ∧ e' = -24) → e' = e := fun e' he' => by omega
      refine fk_of (out := quF (fun c => cs1 ++ (c ++ [e])) outB) hT hk ho6 n9 n8 n91 (c_comp (k := kpQ o + 1) hT hCA (fun _ z => absurd z hN) (fun b2 k2 ds z y => ?_) (fun b2 k2 ds z e' he' => ?_)) (f_comp hT n9 hRA hQA hopA (fun _ z => absurd z hN) (fun b2 k2 ds z y => ?_) (fun b2 k2 ds z e' he' => ?_)) ⟨?_, ?_⟩
      · rw [eA] at z
        obtain ⟨z1, z2, z3⟩ := ok_inj z
        subst z1
        exact absurd c y
      · rw [eA] at z
        obtain ⟨z1, z2, z3⟩ := ok_inj z
        subst z1 z2 z3
        rw [ee e' he']
        exact ⟨outB, hCB, rfl, fun a3 j3 cs2 y => by have := (hQB.2 _ _ _ y).2.2.2.1; omega⟩
      · rw [eA] at z
        obtain ⟨z1, z2, z3⟩ := ok_inj z
        subst z1
        exact absurd c y
      · rw [eA] at z
        obtain ⟨z1, z2, z3⟩ := ok_inj z
        subst z1 z2 z3
        rw [ee e' he']
        exact ⟨outB, hRB, hQB, hopB, rfl⟩
      · intro kk pl z
        cases eo : outB with
        | error x => rw [eo] at z hQB; exact hQB.1 kk pl z
        | ok t => rw [eo] at z; cases z
      · intro a' j' cs z
        cases eo : outB with
        | error x => rw [eo] at z; cases z
        | ok t =>
          obtain ⟨a3, j3, cs2⟩ := t
          rw [eo] at z
          obtain ⟨z1, z2, z3⟩ := ok_inj z
          obtain ⟨m1, m2, m3, m4, m5⟩ := hQB.2 _ _ _ eo
          subst z1 z2 z3
          exact ⟨by omega, m2, m3, by rw [List.length_append, len_s]; omega, WFq.bin l5 m5 (by omega) (by omega) (by omega) (Or.inl (by omega)) (fun _ => Or.inl (by omega))⟩
    · refine fk_of (out := .error (1, (a2 : Int))) hT hk ho6 n9 n8 n91 (c_comp (k := kpQ o + 1) hT hCA (fun _ z => absurd z hN) (fun b2 k2 ds z y => ?_) (fun b2 k2 ds z e' he' => ?_)) (f_comp hT n9 hRA hQA hopA (fun _ z => absurd z hN) (fun b2 k2 ds z y => ?_) (fun b2 k2 ds z e' he' => ?_)) (qf_er (by decide))
      · rw [eA] at z
        obtain ⟨z1, z2, z3⟩ := ok_inj z
        rw [z1]
      · rw [eA] at z
        obtain ⟨z1, z2, z3⟩ := ok_inj z
        subst z1
        omega
      · rw [eA] at z
        obtain ⟨z1, z2, z3⟩ := ok_inj z
        rw [z1]
      · rw [eA] at z
        obtain ⟨z1, z2, z3⟩ := ok_inj z
        subst z1
        omega
theorem fact_ok (hT : TapeR V) (hB : BoatM V) (hk : skE V a = a) (hn : a ≤ tpN V) (ho6 : o ≤ 6) (hF : o < 6 → ∀ (a' : Nat) (j' : Int), a < a' → a' ≤ tpN V → skE V a' = a' → FactOK V a' j' (o + 1)) (hS : o < 6 → ∀ (a' : Nat) (j' : Int), a < a' → a' ≤ tpN V → skE V a' = a' → TestOK V a' j' (o + 1)) : FactOK V a j o := by
  by_cases w9 : wrI V a j QW = 9
  · exact fk_all hT hk hn ho6 w9
  · by_cases w8 : wrI V a j QW = 8
    · by_cases ho : o < 6
      · have lt := wr_gt hT hn hk w8 (by decide)
        have rg := enE_rng hn
        have sk := skE_rng rg.2.1
        exact fk_not hT hk hn w8 ho (hF ho _ _ (by omega) sk.2 (skE_sk rg.2.1))
      · exact fk_notN hT hk ho6 w8 ho
    · by_cases b91 : bz V a = 91
      · by_cases ho : o < 6
        · have lt := bz_in' (V := V) (k := a) rfl (by rw [b91]; decide)
          have sk := skE_rng (V := V) (a := a + 1) lt
          exact fk_sq hT hk hn w9 w8 b91 ho (hS ho _ j (by omega) sk.2 (skE_sk lt))
        · exact fk_sqN hT hk ho6 w9 w8 b91 ho
      · exact fk_comp hT hB hk hn ho6 w9 w8 b91
end QU2
