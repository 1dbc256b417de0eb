/-! QUESTIONS: products in lockstep -/
def isTm (x : Int) : Prop := x = 3 ∨ x = 4
def RProd (V : Hp) (a : Nat) (j : Int) (o : Nat) (out : QO) : Prop := ∀ (B : Hp) (d : Nat) (K : Hp → Prop) (L : AV → Hp → Prop) (E : Hp → Prop) (C W : List Int) (b : Nat), Ptr B → Wds B → KCtx (d + 6) K L E → b ≤ W.length → tpW W b (fun x => x < 60) → tpN' W isTm →
  (∀ kk pl, out = .error (kk, pl) → ErQ B E kk pl) → (∀ a' j' cs, out = .ok (a', j', cs) → ∀ cs1 s, cs.map rco = cs1 ++ s → (∀ x ∈ s, isTm x) → GKq V B (d + 6) L a' j' (C ++ cs1) (W ++ s.reverse) o b) → PKq V B (d + 6) K a j C W o b
/-- the same, from a loop's head on -/
def RLp (V : Hp) (a : Nat) (j : Int) (o : Nat) (cs0 : List Int) (out : QO) : Prop := ∀ (B : Hp) (d : Nat) (K : Hp → Prop) (L : AV → Hp → Prop) (E : Hp → Prop) (C W : List Int) (b : Nat), Ptr B → Wds B → KCtx (d + 6) K L E → b ≤ W.length → tpW W b (fun x => x < 60) → tpN' W isTm →
  (∀ kk pl, out = .error (kk, pl) → ErQ B E kk pl) → (∀ a' j' cs, out = .ok (a', j', cs) → ∀ cs1 s, cs.map rco = cs1 ++ s → (∀ x ∈ s, isTm x) → GKq V B (d + 6) L a' j' (C ++ cs1) (W ++ s.reverse) o b) → ∀ cs1 s, cs0.map rco = cs1 ++ s → (∀ x ∈ s, isTm x) → GKq V B (d + 6) L a j (C ++ cs1) (W ++ s.reverse) o b
/-- an outcome of a loop that began at a0, is at a -/
def QL (V : Hp) (a0 a n : Nat) (b : Bool) (out : QO) : Prop := (∀ kk pl, out = .error (kk, pl) → kk ≠ 0) ∧ ∀ a' j' cs, out = .ok (a', j', cs) → a ≤ a' ∧ a' ≤ tpN V ∧ skE V a' = a' ∧ a0 + cs.length ≤ a' ∧ WFq V cs n b
def PLk (V : Hp) (k a0 a : Nat) (j : Int) (o : Nat) (cs : List Int) : Prop := ∃ out, CLproduct V (k + 8) a j o cs out ∧ RLp V a j o cs out ∧ QL V a0 a (2 + 3 * (6 - o)) false out ∧ ∀ a' j' cs', out = .ok (a', j', cs') → ¬ bz V a' = 42 ∧ ¬ bz V a' = 47
def ProdOK (V : Hp) (a : Nat) (j : Int) (o : Nat) : Prop := ∃ out, CQ V QU_product (kpQ o + 3) a j o out ∧ RProd V a j o out ∧ QF V a (2 + 3 * (6 - o)) false out ∧ ∀ a' j' cs, out = .ok (a', j', cs) → ¬ bz V a' = 42 ∧ ¬ bz V a' = 47
section QL7
variable {V : Hp} {a : Nat} {j : Int} {o : Nat}
theorem part_ok (hT : TapeR V) (hB : BoatM V) (hk : skE V a = a) (hn : a ≤ tpN V) (ho6 : o ≤ 6) (hP : o < 6 → ∀ (a' : Nat) (j' : Int), a < a' → a' ≤ tpN V → skE V a' = a' → PartOK V a' j' (o + 1)) (hS : o < 6 → ∀ (a' : Nat) (j' : Int), a < a' → a' ≤ tpN V → skE V a' = a' → SumOK V a' j' (o + 1)) : PartOK V a j o := by
  by_cases h40 : bz V a = 40
  · by_cases ho : o < 6
    · have lt := bz_in' (V := V) (k := a) rfl (by rw [h40]; decide)
      have sk := skE_rng (V := V) (a := a + 1) lt
      exact p_paren hT hB hn ho h40 (hS ho _ j (by omega) sk.2 (skE_sk lt))
    · exact p_parenN hT ho6 ho h40
  · cases hd : dgB (bz V a) with
    | true => exact p_digit hT hk ho6 hd
    | false =>
      have hi := wrQ_hi V a j
      by_cases w10 : 10 ≤ wrI V a j QW
      · obtain ⟨w, hw⟩ := Int.eq_ofNat_of_zero_le (Int.le_trans (by decide) w10)
        rw [hw] at hi w10
        by_cases c1 : w = 10 ∨ w = 11 ∨ w = 12
        · exact p_leaf hT hk hn ho6 hw c1
        · by_cases c2 : w = 13 ∨ w = 14
          · by_cases ho : o < 6
            · have lt := wr_gt hT hn hk hw (by omega)
              have rg := enE_rng hn
              have sk := skE_rng rg.2.1
              exact p_of hT hB hk hn ho hw c2 (hP ho _ _ (by omega) sk.2 (skE_sk rg.2.1))
            · exact p_ofN' hT hk ho6 ho hw c2
          · exact p_pair hT hk hn ho6 hw (by omega) hS
      · exact p_none hT hk ho6 h40 hd w10
theorem ok_inj {a a' : Nat} {j j' : Int} {c c' : List Int} (h : (Except.ok (a, j, c) : QO) = .ok (a', j', c')) : a = a' ∧ j = j' ∧ c = c' := by
  have z := Except.ok.inj h
  obtain ⟨z1, z2⟩ := Prod.mk.inj z
  obtain ⟨z2, z3⟩ := Prod.mk.inj z2
  exact ⟨z1, z2, z3⟩
theorem rp_part {B : Hp} {d : Nat} {K : Hp → Prop} {L : AV → Hp → Prop} {E : Hp → Prop} {C W : List Int} {b : Nat} {out : QO} (hR : RPart V a j o out) (hPB : Ptr B) (hWB : Wds B) (hc : KCtx (d + 6) K L E) (hb : b ≤ W.length) (ht : tpW W b (fun x => x < 60)) (he : ∀ kk pl, out = .error (kk, pl) → ErQ B E kk pl)
    (hg : ∀ a' j' cs, out = .ok (a', j', cs) → GKq V B (d + 6) L a' j' (C ++ cs.map rco) W o b) : PKq V B (d + 6) K a j C W o b := by
  have := hR B d K L E C W [] o b hPB hWB hc rfl (fun x hx => by cases hx) hb ht he (fun a' j' cs z => by rw [List.append_nil]; exact hg a' j' cs z)
  rw [List.reverse_nil, List.append_nil] at this
  exact this
theorem prod_go (hT : TapeR V) {k a0 : Nat} (hkp : kpQ o = k + 5) (h0 : a0 ≤ a) {cs : List Int} (hl : a0 + cs.length ≤ a) (hw : WFq V cs (2 + 3 * (6 - o)) false) (hP : ∀ (a' : Nat) (j' : Int), a < a' → a' ≤ tpN V → skE V a' = a' → PartOK V a' j' o)
    (ih : ∀ (a2 : Nat) (j2 : Int) (cs2 : List Int), a < a2 → a2 ≤ tpN V → skE V a2 = a2 → a0 + cs2.length ≤ a2 → WFq V cs2 (2 + 3 * (6 - o)) false → PLk V k a0 a2 j2 o cs2)
    {s e x : Int} (hs' : (s = 42 ∧ e = -20 ∧ x = 3) ∨ (s = 47 ∧ e = -21 ∧ x = 4)) (hb : bz V a = s) : PLk V k a0 a j o cs := by
  have lt := bz_in' (V := V) (k := a) rfl (by omega)
  have sk := skE_rng (V := V) (a := a + 1) lt
  obtain ⟨outp, hCp, hRp, hQp⟩ := hP (skE V (a + 1)) j (by omega) sk.2 (skE_sk lt)
  rw [hkp] at hCp
  have s1 : (s = 42 ∧ e = -20) ∨ (s = 47 ∧ e = -21) := by omega
  have s2 : (bz V a = 42 ∧ x = 3) ∨ (bz V a = 47 ∧ x = 4) := by omega
  have ex : [e].map rco = [x] := by rcases hs' with ⟨-, rfl, rfl⟩ | ⟨-, rfl, rfl⟩ <;> rfl
  have hlen : ∀ a' j' cs', outp = .ok (a', j', cs') → skE V (a + 1) < a' ∧ skE V (a + 1) + cs'.length ≤ a' := fun a' j' cs' z => ⟨(hQp.2 _ _ _ z).1, (hQp.2 _ _ _ z).2.2.2.1⟩
  cases eo : outp with
  | error y =>
    have hE : ∀ x, outp = .error x → (.error y : QO) = .error x := fun x z => by rw [eo] at z; exact z
    have hN : ∀ {a' j' cs'}, ¬ outp = .ok (a', j', cs') := fun z => by rw [eo] at z; cases z
    refine ⟨.error y, CLproduct.go hT s1 hb hlen hCp hE (fun a' j' cs' z => absurd z hN), ?_, ⟨fun kk pl z => hQp.1 kk pl (eo.trans z), fun a' j' cs' z => by cases z⟩, fun a' j' cs' z => by cases z⟩
    intro B d K L E C W b hPB hWB hc hb1 ht ht' he hg cs1 s3 hm hs3
    exact g_times hT hPB hc s2 hs3 ht' (rp_part hRp hPB hWB hc (by rw [len_s]; omega) (Or.inr ⟨W, x, rfl, by omega⟩) (fun kk pl z => he kk pl (hE _ z)) (fun a' j' cs' z => absurd z hN))
  | ok t =>
    obtain ⟨a2, j2, cs2⟩ := t
    obtain ⟨l1, l2, l3, l4, l5⟩ := hQp.2 _ _ _ eo
    obtain ⟨out, hC, hR, hQ, hop⟩ := ih a2 j2 (cs ++ (cs2 ++ [e])) (by omega) l2 l3 (by rw [List.length_append, len_s]; omega) (WFq.bin hw l5 (by omega) (by omega) (by omega) (Or.inl (by omega)) (fun z => by cases z))
    have hN : ∀ {x}, ¬ outp = .error x := fun z => by rw [eo] at z; cases z
    refine ⟨out, CLproduct.go hT s1 hb hlen hCp (fun x z => absurd z hN) (fun a' j' cs' z => ?_), ?_, ⟨hQ.1, fun a' j' cs' z => ?_⟩, hop⟩
    · rw [eo] at z
      obtain ⟨z1, z2, z3⟩ := ok_inj z
      subst z1 z2 z3
      exact hC
    · intro B d K L E C W b hPB hWB hc hb1 ht ht' he hg cs1 s3 hm hs3
      refine g_times hT hPB hc s2 hs3 ht' (rp_part hRp hPB hWB hc (by rw [len_s]; omega) (Or.inr ⟨W, x, rfl, by omega⟩) (fun kk pl z => absurd z hN) (fun a' j' cs' z => ?_))
      rw [eo] at z
      obtain ⟨z1, z2, z3⟩ := ok_inj z
      subst z1 z2 z3
      have := hR B d K L E C W b hPB hWB hc hb1 ht ht' he hg (cs1 ++ s3 ++ cs2.map rco) [x] (by rw [List.map_append, List.map_append, ex, hm]; simp only [List.append_assoc]) (fun y hy => by
        rw [List.mem_singleton] at hy
        subst hy
        unfold isTm
        omega)
      rw [← List.append_assoc, ← List.append_assoc] at this
      exact this
    · have r := hQ.2 _ _ _ z
      exact ⟨by omega, r.2⟩
theorem prod_end (hT : TapeR V) {k a0 : Nat} {cs : List Int} (h1 : a ≤ tpN V) (h2 : skE V a = a) (hl : a0 + cs.length ≤ a) (hw : WFq V cs (2 + 3 * (6 - o)) false) (n42 : ¬ bz V a = 42) (n47 : ¬ bz V a = 47) : PLk V k a0 a j o cs := by
  refine ⟨.ok (a, j, cs), CLproduct.out hT n42 n47, ?_, ⟨fun kk pl z => (by cases z), fun a' j' cs' z => ?_⟩, fun a' j' cs' z => ?_⟩
  · intro B d K L E C W b hPB hWB hc hb1 ht ht' he hg cs1 s3 hm hs3
    exact hg _ _ _ rfl cs1 s3 hm hs3
  · obtain ⟨z1, z2, z3⟩ := ok_inj z
    subst z1 z2 z3
    exact ⟨Nat.le_refl _, h1, h2, hl, hw⟩
  · obtain ⟨z1, z2, z3⟩ := ok_inj z
    subst z1
    exact ⟨n42, n47⟩
theorem prod_loop (hT : TapeR V) {k a0 : Nat} (hkp : kpQ o = k + 5) (hP : ∀ (a' : Nat) (j' : Int), a0 < a' → a' ≤ tpN V → skE V a' = a' → PartOK V a' j' o) : ∀ (n a : Nat) (j : Int) (cs : List Int), tpN V - a ≤ n → a0 ≤ a → a ≤ tpN V → skE V a = a → a0 + cs.length ≤ a → WFq V cs (2 + 3 * (6 - o)) false → PLk V k a0 a j o cs := by
  intro n
  induction n with
  | zero =>
    intro a j cs hn h0 h1 h2 hl hw
    have ge : ∀ x : Int, 0 ≤ x → ¬ bz V a = x := fun x hx z => by
      have := bz_in' (V := V) (k := a) z hx
      omega
    exact prod_end hT h1 h2 hl hw (ge 42 (by decide)) (ge 47 (by decide))
  | succ n ih =>
    intro a j cs hn h0 h1 h2 hl hw
    have go := fun {s e x : Int} => prod_go (V := V) (a := a) (j := j) (o := o) (s := s) (e := e) (x := x) hT hkp h0 hl hw (fun a' j' g => hP a' j' (Nat.lt_of_le_of_lt h0 g)) (fun a2 j2 cs2 g g1 g2 g3 g4 => ih a2 j2 cs2 (by omega) (by omega) g1 g2 g3 g4)
    by_cases n42 : bz V a = 42
    · exact go (Or.inl ⟨rfl, rfl, rfl⟩) n42
    · by_cases n47 : bz V a = 47
      · exact go (Or.inr ⟨rfl, rfl, rfl⟩) n47
      · exact prod_end hT h1 h2 hl hw n42 n47
theorem prod_ok (hT : TapeR V) (hp : PartOK V a j o) (hP : ∀ (a' : Nat) (j' : Int), a < a' → a' ≤ tpN V → skE V a' = a' → PartOK V a' j' o) : ProdOK V a j o := by
  obtain ⟨outp, hCp, hRp, hQp⟩ := hp
  obtain ⟨k, hkp⟩ : ∃ k, kpQ o = k + 5 := ⟨5 + 10 * (6 - o), by unfold kpQ; omega⟩
  have ek : kpQ o + 3 = k + 8 := by omega
  rw [hkp] at hCp
  unfold ProdOK
  rw [ek]
  cases eo : outp with
  | error y =>
    have hE : ∀ x, outp = .error x → (.error y : QO) = .error x := fun x z => by rw [eo] at z; exact z
    have hN : ∀ {a' j' cs'}, ¬ outp = .ok (a', j', cs') := fun z => by rw [eo] at z; cases z
    refine ⟨.error y, c_product hT hCp hE (fun a' j' cs' z => absurd z hN), ?_, ⟨fun kk pl z => hQp.1 kk pl (eo.trans z), fun a' j' cs' z => by cases z⟩, fun a' j' cs' z => by cases z⟩
    intro B d K L E C W b hPB hWB hc hb1 ht ht' he hg
    exact rp_part hRp hPB hWB hc hb1 ht (fun kk pl z => he kk pl (hE _ z)) (fun a' j' cs' z => absurd z hN)
  | ok t =>
    obtain ⟨a2, j2, cs2⟩ := t
    obtain ⟨l1, l2, l3, l4, l5⟩ := hQp.2 _ _ _ eo
    obtain ⟨out, hC, hR, hQ, hop⟩ := prod_loop (k := k) (a0 := a) hT hkp hP (tpN V - a2) a2 j2 cs2 (Nat.le_refl _) (by omega) l2 l3 (by omega) (l5.up (by omega))
    have hN : ∀ {x}, ¬ outp = .error x := fun z => by rw [eo] at z; cases z
    refine ⟨out, c_product hT hCp (fun x z => absurd z hN) (fun a' j' cs' z => ?_), ?_, ⟨hQ.1, fun a' j' cs' z => ?_⟩, hop⟩
    · rw [eo] at z
      obtain ⟨z1, z2, z3⟩ := ok_inj z
      subst z1 z2 z3
      exact hC
    · intro B d K L E C W b hPB hWB hc hb1 ht ht' he hg
      refine rp_part hRp hPB hWB hc hb1 ht (fun kk pl z => absurd z hN) (fun a' j' cs' z => ?_)
      rw [eo] at z
      obtain ⟨z1, z2, z3⟩ := ok_inj z
      subst z1 z2 z3
      have := hR B d K L E C W b hPB hWB hc hb1 ht ht' he hg (cs2.map rco) [] (List.append_nil _).symm (fun y hy => by cases hy)
      rw [List.reverse_nil, List.append_nil] at this
      exact this
    · have r := hQ.2 _ _ _ z
      exact ⟨by omega, r.2⟩
end QL7
