/-! QUESTIONS: both read alike -/
def KoC (H : Hp) (cs : List Int) : Prop := H 38 2 = (cs.length : Nat) ∧ ∀ k : Nat, k < cs.length → H 39 k = cs.getD k 0
def KoM (H : Hp) (cs : List Int) : Prop := H 71 88 = (cs.length : Nat) ∧ ∀ k : Nat, k < cs.length → H 136 k = rco (cs.getD k 0)
def QErM (V : Hp) (kk pl : Int) : Prop := ∀ (d : Nat) (H : Hp) (Q : AV → Hp → Prop), Ptr H → Wds H → H 72 = V 72 → H 71 1 = tpN V → (∀ (H' : Hp) (w : Int), Fx sQN H H' → H' 71 5 = kk → H' 71 6 = pl → H' 71 1 = 0 → R (d + 10) MO_ask (blk MO_ask 3) [va 71, vi w, vu, vu] [] H' Q) → CC (d + 10) MO_ask [va 71] H Q
def QOkM (V : Hp) (w : Nat) (cs : List Int) : Prop := ∀ (d : Nat) (H : Hp) (Q : AV → Hp → Prop), Ptr H → Wds H → H 72 = V 72 → H 71 1 = tpN V → (∀ H' : Hp, Fx sQN H H' → KoM H' cs → H' 71 5 = 0 → H' 71 6 = -1 → H' 71 1 = 0 → R (d + 10) MO_ask (blk MO_ask 3) [va 71, vi w, vu, vu] [] H' Q) → CC (d + 10) MO_ask [va 71] H Q
def QOkC' (V : Hp) (w : Nat) (cs : List Int) : Prop := ∀ (d : Nat) (Q : AV → Hp → Prop), (∀ H', Fx sQR V H' → H' 38 0 = w → KoC H' cs → H' 2 6 = 0 → H' 2 7 = -1 → Q (vi 1) H') → CC (d + 100) QU_read [va 38, va 2] V Q
section QR4
variable {V : Hp}
theorem mapD {cs : List Int} {k : Nat} (hk : k < cs.length) : (cs.map rco).getD k 0 = rco (cs.getD k 0) := by
  rw [List.getD_eq_getElem?_getD, List.getD_eq_getElem?_getD, List.getElem?_map, List.getElem?_eq_getElem hk]
  rfl
theorem read_of (hT : TapeR V) (hP : Ptr V) {w : Nat} (hw : wrI V (skE V 0) (-1) QW = w) (h5 : w ≤ 5) {out : QO} {n : Nat} {b : Bool} {a1 : Nat} (hQ : QF V a1 n b out)
    (hS : w ≤ 2 → CQ V QU_test 90 (skE V (enE V (skE V 0))) (enE V (skE V 0)) 0 out) (hS2 : ¬ w ≤ 2 → CQ V QU_sum 90 (skE V (enE V (skE V 0))) (enE V (skE V 0)) 0 out)
    (hR : w ≤ 2 → RTest V (skE V (enE V (skE V 0))) (enE V (skE V 0)) 0 out ∧ ∀ a' j' cs, out = .ok (a', j', cs) → ¬ wrI V a' j' QW = 7 ∧ ¬ wrI V a' j' QW = 6)
    (hR2 : ¬ w ≤ 2 → RSum V (skE V (enE V (skE V 0))) (enE V (skE V 0)) 0 out ∧ ∀ a' j' cs, out = .ok (a', j', cs) → ¬ bz V a' = 42 ∧ ¬ bz V a' = 47 ∧ ¬ bz V a' = 43 ∧ ¬ bz V a' = 45) :
    (∃ kk pl, kk ≠ 0 ∧ QErC V kk pl ∧ QErM V kk pl) ∨ ∃ cs, (cs.length ≤ 1600 ∧ WFq V cs n b) ∧ QOkC' V w cs ∧ QOkM V w cs := by
  cases eo : out with
  | error x =>
    obtain ⟨kk, pl⟩ := x
    have e1 : ∀ kk' pl', out = .error (kk', pl') → kk' = kk ∧ pl' = pl := fun kk' pl' z => by
      rw [eo] at z
      have := Prod.mk.inj (Except.error.inj z)
      exact ⟨this.1.symm, this.2.symm⟩
    have eN : ∀ {a j cs}, ¬ out = .ok (a, j, cs) := fun z => by rw [eo] at z; cases z
    refine Or.inl ⟨kk, pl, hQ.1 _ _ eo, ?_, ?_⟩
    · intro d Q hq
      exact c_readQ hT hP hw h5 hS hS2 (fun kk' pl' z H' F q6 q7 => by
        obtain ⟨rfl, rfl⟩ := e1 _ _ z
        exact hq H' F q6 q7) (fun _ _ _ z => absurd z eN) (fun _ _ _ z => absurd z eN)
    · intro d H Q h1 h2 h3 h4 hq
      exact c_askM hT h1 h2 h3 h4 hw h5 hQ.1 hR hR2 (fun kk' pl' z H' F q5 q6 q1 => by
        obtain ⟨rfl, rfl⟩ := e1 _ _ z
        exact hq H' w F q5 q6 q1) (fun _ _ _ z => absurd z eN) (fun _ _ _ z => absurd z eN)
  | ok t =>
    obtain ⟨a2, j2, cs⟩ := t
    have eN : ∀ {x}, ¬ out = .error x := fun z => by rw [eo] at z; cases z
    have e1 : ∀ {a j c}, out = .ok (a, j, c) → a = a2 ∧ j = j2 ∧ c = cs := fun z => by
      rw [eo] at z
      obtain ⟨z1, z2, z3⟩ := ok_inj z
      exact ⟨z1.symm, z2.symm, z3.symm⟩
    by_cases c : bz V a2 = -1
    · have hq0 := hQ.2 _ _ _ eo
      have n16 := tpN_le hT
      refine Or.inr ⟨cs, ⟨by omega, hq0.2.2.2.2⟩, ?_, ?_⟩
      · intro d Q hq
        refine c_readQ hT hP hw h5 hS hS2 (fun _ _ z => absurd z eN) (fun a j c' z q => ?_) (fun a j c' z q H' F q0 hC => ?_)
        · obtain ⟨rfl, rfl, rfl⟩ := e1 z
          exact absurd c q
        · obtain ⟨rfl, rfl, rfl⟩ := e1 z
          obtain ⟨⟨p, h1, -⟩, h2, h3, -⟩ := hC
          exact hq H' F q0 ⟨h2, h3⟩ h1.2.2.2.1 h1.2.2.2.2.1
      · intro d H Q h1 h2 h3 h4 hq
        refine c_askM hT h1 h2 h3 h4 hw h5 hQ.1 hR hR2 (fun _ _ z => absurd z eN) (fun a j c' z q => ?_) (fun a j c' z q H' F hC q1 => ?_)
        · obtain ⟨rfl, rfl, rfl⟩ := e1 z
          exact absurd c q
        · obtain ⟨rfl, rfl, rfl⟩ := e1 z
          obtain ⟨⟨p, m1, -⟩, ⟨m2, m3⟩, -⟩ := hC
          rw [List.length_map] at m2 m3
          exact hq H' F ⟨m2, fun k hk => by rw [m3 k hk, mapD hk]⟩ m1.2.2.2.1 m1.2.2.2.2.1 q1
    · refine Or.inl ⟨1, a2, by decide, ?_, ?_⟩
      · intro d Q hq
        refine c_readQ hT hP hw h5 hS hS2 (fun _ _ z => absurd z eN) (fun a j c' z q H' F q6 q7 => ?_) (fun a j c' z q => ?_)
        · obtain ⟨rfl, rfl, rfl⟩ := e1 z
          exact hq H' F q6 q7
        · obtain ⟨rfl, rfl, rfl⟩ := e1 z
          exact absurd q c
      · intro d H Q h1 h2 h3 h4 hq
        refine c_askM hT h1 h2 h3 h4 hw h5 hQ.1 hR hR2 (fun _ _ z => absurd z eN) (fun a j c' z q H' F q5 q6 q1 => ?_) (fun a j c' z q => ?_)
        · obtain ⟨rfl, rfl, rfl⟩ := e1 z
          exact hq H' w F q5 q6 q1
        · obtain ⟨rfl, rfl, rfl⟩ := e1 z
          exact absurd q c
theorem ask_read (hT : TapeR V) (hP : Ptr V) (hB : BoatM V) : (∃ kk pl, kk ≠ 0 ∧ QErC V kk pl ∧ QErM V kk pl) ∨ ∃ (w : Nat) (cs : List Int), w ≤ 5 ∧ (cs.length ≤ 1600 ∧ ∃ n, n ≤ 40 ∧ WFq V cs n (decide (w ≤ 2))) ∧ QOkC' V w cs ∧ QOkM V w cs := by
  by_cases c : 0 ≤ wrI V (skE V 0) (-1) QW ∧ wrI V (skE V 0) (-1) QW ≤ 5
  · obtain ⟨w, hw⟩ := Int.eq_ofNat_of_zero_le c.1
    have h5 : w ≤ 5 := by have := c.2; rw [hw] at this; exact Int.ofNat_le.mp this
    have s0 := skE_rng (V := V) (a := 0) (Nat.zero_le _)
    have rg := enE_rng s0.2
    have sk := skE_rng rg.2.1
    by_cases c3 : w ≤ 2
    · obtain ⟨out, h1, h2, h3, h4⟩ := test_all (j := (enE V (skE V 0) : Int)) hT hB sk.2 (skE_sk rg.2.1) (Nat.zero_le 6)
      rcases read_of hT hP hw h5 h3 (fun _ => h1.up (by decide)) (fun z => absurd c3 z) (fun _ => ⟨h2, h4⟩) (fun z => absurd c3 z) with h | ⟨cs, k1, k2, k3⟩
      · exact Or.inl h
      · exact Or.inr ⟨w, cs, h5, ⟨k1.1, 36, by decide, by rw [decide_eq_true c3]; exact k1.2⟩, k2, k3⟩
    · obtain ⟨out, h1, h2, h3, h4⟩ := sum_all (j := (enE V (skE V 0) : Int)) hT hB sk.2 (skE_sk rg.2.1) (Nat.zero_le 6)
      rcases read_of hT hP hw h5 h3 (fun z => absurd z c3) (fun _ => h1.up (by decide)) (fun z => absurd z c3) (fun _ => ⟨h2, h4⟩) with h | ⟨cs, k1, k2, k3⟩
      · exact Or.inl h
      · exact Or.inr ⟨w, cs, h5, ⟨k1.1, 21, by decide, by rw [decide_eq_false c3]; exact k1.2⟩, k2, k3⟩
  · have hn : wrI V (skE V 0) (-1) QW < 0 ∨ 5 < wrI V (skE V 0) (-1) QW := by omega
    exact Or.inl ⟨1, skE V 0, by decide, q_readN hT hP rfl hn, fun d H Q h1 h2 h3 h4 hq => c_askN hT h1 h2 h3 h4 rfl hn (fun H' F q5 q6 q1 => hq H' 5 F q5 q6 q1)⟩
end QR4
