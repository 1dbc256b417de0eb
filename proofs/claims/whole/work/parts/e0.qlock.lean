/-! QUESTIONS: both sides walk one outcome -/
/-- a code of the class as the reference writes it -/
def rco (e : Int) : Int := if 0 ≤ e then 1000 + e else if e = -7 then 11 else if e = -8 then 10 else if e = -9 then 12 else if e = -10 then 13 else if e = -11 then 40 else if e = -12 then 41 else if e = -13 then 42 else if e = -14 then 60 else if e = -15 then 61 else if e = -16 then 5 else if e = -17 then 6 else if e = -18 then 1 else if e = -19 then 2 else if e = -20 then 3 else if e = -21 then 4 else if e = -22 then 7 else if e = -23 then 8 else 9
def RPart (V : Hp) (a : Nat) (j : Int) (o : Nat) (out : QO) : Prop := ∀ (B : Hp) (d : Nat) (K : Hp → Prop) (L : AV → Hp → Prop) (E : Hp → Prop) (C W0 r : List Int) (o' b : Nat), Ptr B → Wds B → KCtx (d + 6) K L E → o = o' + r.length → (∀ x ∈ r, 60 ≤ x) → b ≤ W0.length → tpW W0 b (fun x => x < 60) →
  (∀ kk pl, out = .error (kk, pl) → ErQ B E kk pl) → (∀ a' j' cs, out = .ok (a', j', cs) → GKq V B (d + 6) L a' j' (C ++ cs.map rco ++ r) W0 o' b) → PKq V B (d + 6) K a j C (W0 ++ r.reverse) o b
def isOp (x : Int) : Prop := x = 3 ∨ x = 4 ∨ x = 1 ∨ x = 2
def RSum (V : Hp) (a : Nat) (j : Int) (o : Nat) (out : QO) : Prop := ∀ (B : Hp) (d : Nat) (K : Hp → Prop) (L : AV → Hp → Prop) (E : Hp → Prop) (C W : List Int) (b : Nat), Ptr B → Wds B → KCtx (d + 6) K L E → b ≤ W.length → (tpW W b isBr ∧ (W.length = b → tpN' W isOp)) →
  (∀ kk pl, out = .error (kk, pl) → ErQ B E kk pl) → (∀ a' j' cs, out = .ok (a', j', cs) → ∀ cs1 s, cs.map rco = cs1 ++ s → (∀ x ∈ s, isOp x) → GKq V B (d + 6) L a' j' (C ++ cs1) (W ++ s.reverse) o b) → PKq V B (d + 6) K a j C W o b
def kpQ (o : Nat) : Nat := 10 + 10 * (6 - o)
def PartOK (V : Hp) (a : Nat) (j : Int) (o : Nat) : Prop := ∃ out, CQ V QU_part (kpQ o) a j o out ∧ RPart V a j o out ∧ QF V a (1 + 3 * (6 - o)) false out
def SumOK (V : Hp) (a : Nat) (j : Int) (o : Nat) : Prop := ∃ out, CQ V QU_sum (kpQ o + 6) a j o out ∧ RSum V a j o out ∧ QF V a (3 + 3 * (6 - o)) false out ∧ ∀ a' j' cs, out = .ok (a', j', cs) → ¬ bz V a' = 42 ∧ ¬ bz V a' = 47 ∧ ¬ bz V a' = 43 ∧ ¬ bz V a' = 45
section QL1
variable {V : Hp} {a : Nat} {j : Int} {o : Nat}
theorem op_nb {x : Int} (h : isOp x) : ¬ isBr x := by unfold isOp at h; unfold isBr; omega
theorem kp_s (ho : o < 6) : kpQ (o + 1) + 10 = kpQ o := by unfold kpQ; omega
theorem qf_er {n : Nat} {b : Bool} {kk pl : Int} (h : kk ≠ 0) : QF V a n b (.error (kk, pl)) := ⟨fun k p z => by cases z; exact h, fun a' j' cs z => by cases z⟩
theorem qs_er {n : Nat} {b : Bool} {c : Int} {f : List Int → List Int} {out : QO} {a0 : Nat} (h : QF V a0 n b out) : ∀ kk pl, quS V c f out = .error (kk, pl) → kk ≠ 0 := by
  intro kk pl z
  cases eo : out with
  | error x =>
    rw [eo] at z h
    exact h.1 kk pl z
  | ok t =>
    obtain ⟨a2, j2, cs2⟩ := t
    rw [eo] at z
    have z : (if bz V a2 = c then (.ok (skE V (a2 + 1), j2, f cs2) : QO) else .error (1, (a2 : Int))) = .error (kk, pl) := z
    by_cases q : bz V a2 = c
    · rw [if_pos q] at z; cases z
    · rw [if_neg q] at z; cases z; decide
theorem qs_ok {c : Int} {f : List Int → List Int} {out : QO} {a' : Nat} {j' : Int} {cs : List Int} (z : quS V c f out = .ok (a', j', cs)) : ∃ a2 j2 cs2, out = .ok (a2, j2, cs2) ∧ bz V a2 = c ∧ a' = skE V (a2 + 1) ∧ j' = j2 ∧ cs = f cs2 := by
  cases eo : out with
  | error x => rw [eo] at z; cases z
  | ok t =>
    obtain ⟨a2, j2, cs2⟩ := t
    rw [eo] at z
    have z : (if bz V a2 = c then (.ok (skE V (a2 + 1), j2, f cs2) : QO) else .error (1, (a2 : Int))) = .ok (a', j', cs) := z
    by_cases q : bz V a2 = c
    · rw [if_pos q] at z
      have z := Except.ok.inj z
      obtain ⟨z1, z2⟩ := Prod.mk.inj z
      obtain ⟨z2, z3⟩ := Prod.mk.inj z2
      exact ⟨a2, j2, cs2, rfl, q, z1.symm, z2.symm, z3.symm⟩
    · rw [if_neg q] at z; cases z
theorem p_parenN (hT : TapeR V) (ho6 : o ≤ 6) (ho : ¬ o < 6) (hb : bz V a = 40) : PartOK V a j o := by
  have o6 : o = 6 := by omega
  refine ⟨.error (4, (a : Int)), (c_parenN (k := kpQ o - 8) hT ho hb).up (by unfold kpQ; omega), ?_, qf_er (by decide)⟩
  intro B d K L E C W0 r o' b hPB hWB hc h1 h2 h3 h4 he hk
  exact k_parenN hT hPB hWB hc hb o6 (he _ _ rfl)
theorem p_paren (hT : TapeR V) (hB : BoatM V) (hn : a ≤ tpN V) (ho : o < 6) (hb : bz V a = 40) (hS : SumOK V (skE V (a + 1)) j (o + 1)) : PartOK V a j o := by
  obtain ⟨out, hC, hR, hQ, hop⟩ := hS
  have lt := bz_in' (V := V) (k := a) rfl (by rw [hb]; decide)
  have sk := skE_rng (V := V) (a := a + 1) lt
  have kp := kp_s ho
  refine ⟨quS V 41 (fun c => c) out, (c_paren (k := kpQ (o + 1) + 1) hT ho hb hC).up (by omega), ?_, ?_, ?_⟩
  · intro B d K L E C W0 r o' b hPB hWB hc h1 h2 h3 h4 he hk
    refine k_paren hT hPB hWB hc hb ho (hR B d K L E C _ b hPB hWB hc (by rw [len_s, List.length_append]; omega) ⟨Or.inr ⟨_, 20, rfl, ⟨by decide, by decide⟩⟩, fun z => by rw [len_s, List.length_append] at z; omega⟩ (fun kk pl z => he kk pl (by unfold quS; rw [z]; try rfl)) (fun a' j' cs z cs1 s hm hs' => ?_))
    have nb : ∀ x ∈ s, ¬ isBr x := fun x hx => op_nb (hs' x hx)
    by_cases c : bz V a' = 41
    · refine g_close hT hPB (o' := o') (Or.inl ⟨rfl, rfl⟩) nb h3 h4 h2 (by omega) (by omega) c ?_
      have := hk _ _ _ (by unfold quS; rw [z]; exact if_pos c)
      rw [hm] at this
      rw [List.append_nil, List.append_assoc C cs1 s]
      exact this
    · obtain ⟨q1, q2, q3, q4⟩ := hop _ _ _ z
      exact g_failR hT hPB hc (Or.inl rfl) (BrW.mk (by rw [List.length_append]; omega) ⟨by decide, by decide⟩ nb) q1 q2 q3 q4 c (he _ _ (by unfold quS; rw [z]; exact if_neg c))
  · exact qs_er hQ
  · intro a' j' cs z
    obtain ⟨a2, j2, cs2, eo, c, e1, e2, e3⟩ := qs_ok z
    obtain ⟨l1, l2, l3, l4, l5⟩ := hQ.2 _ _ _ eo
    have lt2 := bz_in' (V := V) (k := a2) rfl (by rw [c]; decide)
    have sk2 := skE_rng (V := V) (a := a2 + 1) lt2
    subst e1 e2 e3
    exact ⟨by omega, sk2.2, skE_sk lt2, by omega, l5.up (by omega)⟩
end QL1
