/-! QUESTIONS: min, max in lockstep -/
section QL6
variable {V : Hp} {a : Nat} {j : Int} {o : Nat}
theorem p_pair (hT : TapeR V) (hk : skE V a = a) (hn : a ≤ tpN V) (ho6 : o ≤ 6) {w : Int} (hw : wrI V a j QW = w) (h3 : w = 15 ∨ w = 16) (hS : o < 6 → ∀ (a' : Nat) (j' : Int), a < a' → a' ≤ tpN V → skE V a' = a' → SumOK V a' j' (o + 1)) : PartOK V a j o := by
  by_cases h40 : bz V (skE V (enE V a)) = 40
  · by_cases ho : o < 6
    · have lt := wr_gt hT hn hk hw (by omega)
      have rg := enE_rng hn
      have sk := skE_rng rg.2.1
      have lt2 := bz_in' (V := V) (k := skE V (enE V a)) rfl (by rw [h40]; decide)
      have sk2 := skE_rng (V := V) (a := skE V (enE V a) + 1) lt2
      obtain ⟨outA, hCA, hR, hQ, hop⟩ := hS ho _ (enE V a) (by omega) sk2.2 (skE_sk lt2)
      cases eA : outA with
      | error x =>
        have h := p_pairE (out := outA) hT hk ho6 hw h3 h40 ho hCA hR hop (fun _ z => z) (fun a2 j2 c z => by rw [eA] at z; cases z) (fun a2 j2 c z => by rw [eA] at z; cases z)
        exact ⟨outA, h.1, h.2, hQ.1, fun a2 j2 c z => by rw [eA] at z; cases z⟩
      | ok t =>
        obtain ⟨a2, j2, cs1⟩ := t
        obtain ⟨l1, l2, l3, l4, l5⟩ := hQ.2 _ _ _ eA
        by_cases c : bz V a2 = 44
        · have lt3 := bz_in' (V := V) (k := a2) rfl (by rw [c]; decide)
          have sk3 := skE_rng (V := V) (a := a2 + 1) lt3
          obtain ⟨outB, hCB, hRB, hQB, hopB⟩ := hS ho (skE V (a2 + 1)) j2 (by omega) sk3.2 (skE_sk lt3)
          have h := p_pairB (out := quS V 41 (fun c => cs1 ++ (c ++ [-1 - w])) outB) hT hk ho6 hw h3 h40 ho hCA hR eA c hCB hRB hopB (fun a3 j3 cs2 z => by have := (hQB.2 _ _ _ z).2.2.2.1; omega) rfl
          refine ⟨_, h.1, h.2, qs_er hQB, fun a' j' cs z => ?_⟩
          obtain ⟨a3, j3, cs2, eo, c3, e1, e2, e3⟩ := qs_ok z
          obtain ⟨m1, m2, m3, m4, m5⟩ := hQB.2 _ _ _ eo
          have lt4 := bz_in' (V := V) (k := a3) rfl (by rw [c3]; decide)
          have sk4 := skE_rng (V := V) (a := a3 + 1) lt4
          subst e1 e2 e3
          exact ⟨by omega, sk4.2, skE_sk lt4, by rw [List.length_append, List.length_append]; show _ + (_ + (_ + 1)) ≤ _; omega, WFq.bin l5 m5 (by omega) (by omega) (by omega) (Or.inl (by omega)) (fun z => by cases z)⟩
        · have e : ∀ {b2 : Nat} {k2 : Int} {ds : List Int}, outA = .ok (b2, k2, ds) → b2 = a2 := fun z => by
            rw [eA] at z
            exact (Prod.mk.inj (Except.ok.inj z)).1.symm
          have h := p_pairE (out := .error (1, (a2 : Int))) hT hk ho6 hw h3 h40 ho hCA hR hop (fun x z => by rw [eA] at z; cases z) (fun b2 k2 ds z => by rw [e z]) (fun b2 k2 ds z => by rw [e z]; exact c)
          exact ⟨_, h.1, h.2, qf_er (by decide)⟩
    · exact p_pairN hT hk ho6 hw h3 h40 ho
  · exact p_pair0 hT hk ho6 hw h3 h40
end QL6
