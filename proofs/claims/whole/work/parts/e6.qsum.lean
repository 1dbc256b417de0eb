/-! QUESTIONS: sums in lockstep; all sums -/
def RLs (V : Hp) (a : Nat) (j : Int) (o : Nat) (cs0 : List Int) (out : QO) : Prop := ∀ (B : Hp) (d : Nat) (K : Hp → Prop) (L : AV → Hp → Prop) (E : Hp → Prop) (C W : List Int) (b : Nat), Ptr B → Wds B → KCtx (d + 6) K L E → b ≤ W.length → tpN' W isOp →
  (∀ kk pl, out = .error (kk, pl) → ErQ B E kk pl) → (∀ a' j' cs, out = .ok (a', j', cs) → ∀ cs1 s, cs.map rco = cs1 ++ s → (∀ x ∈ s, isOp x) → GKq V B (d + 6) L a' j' (C ++ cs1) (W ++ s.reverse) o b) → ∀ cs1 s, cs0.map rco = cs1 ++ s → (∀ x ∈ s, isOp x) → GKq V B (d + 6) L a j (C ++ cs1) (W ++ s.reverse) o b
def noSg (V : Hp) (a : Nat) : Prop := ¬ bz V a = 42 ∧ ¬ bz V a = 47 ∧ ¬ bz V a = 43 ∧ ¬ bz V a = 45
def SLk (V : Hp) (k a0 a : Nat) (j : Int) (o : Nat) (cs : List Int) : Prop := ∃ out, CLsum V (k + 8) a j o cs out ∧ RLs V a j o cs out ∧ QL V a0 a (3 + 3 * (6 - o)) false out ∧ ∀ a' j' cs', out = .ok (a', j', cs') → noSg V a'
section QL8
variable {V : Hp} {a : Nat} {j : Int} {o : Nat}
theorem tm_op {x : Int} (h : isTm x) : isOp x := by unfold isTm at h; unfold isOp; omega
theorem tpN_mono {W : List Int} {p q : Int → Prop} (h : tpN' W p) (hq : ∀ x, q x → p x) : tpN' W q := by
  rcases h with h | ⟨W1, x, e, hx⟩
  · exact Or.inl h
  · exact Or.inr ⟨W1, x, e, fun z => hx (hq x z)⟩
theorem tpW_mono {W : List Int} {b : Nat} {p q : Int → Prop} (h : tpW W b p) (hq : ∀ x, p x → q x) : tpW W b q := by
  rcases h with h | ⟨W1, x, e, hx⟩
  · exact Or.inl h
  · exact Or.inr ⟨W1, x, e, hq x hx⟩
theorem br_no {W : List Int} {b : Nat} (h : tpW W b isBr ∧ (W.length = b → tpN' W isOp)) : tpN' W isOp := by
  rcases h.1 with z | ⟨W1, x, e, hx⟩
  · exact h.2 z
  · exact Or.inr ⟨W1, x, e, fun z => op_nb z hx⟩
theorem sum_go (hT : TapeR V) {k a0 : Nat} (hkp : kpQ o + 3 = k + 5) (h0 : a0 ≤ a) {cs : List Int} (hl : a0 + cs.length ≤ a) (hw : WFq V cs (3 + 3 * (6 - o)) false) (hP : ∀ (a' : Nat) (j' : Int), a < a' → a' ≤ tpN V → skE V a' = a' → ProdOK V a' j' o)
    (ih : ∀ (a2 : Nat) (j2 : Int) (cs2 : List Int), a < a2 → a2 ≤ tpN V → skE V a2 = a2 → a0 + cs2.length ≤ a2 → WFq V cs2 (3 + 3 * (6 - o)) false → ¬ bz V a2 = 42 ∧ ¬ bz V a2 = 47 → SLk V k a0 a2 j2 o cs2)
    {s e x : Int} (hs' : (s = 43 ∧ e = -18 ∧ x = 1) ∨ (s = 45 ∧ e = -19 ∧ x = 2)) (hb : bz V a = s) : SLk V k a0 a j o cs := by
  have lt := bz_in' (V := V) (k := a) rfl (by omega)
  have sk := skE_rng (V := V) (a := a + 1) lt
  obtain ⟨outp, hCp, hRp, hQp, hopp⟩ := hP (skE V (a + 1)) j (by omega) sk.2 (skE_sk lt)
  rw [hkp] at hCp
  have s1 : (s = 43 ∧ e = -18) ∨ (s = 45 ∧ e = -19) := by omega
  have s2 : (bz V a = 43 ∧ x = 1) ∨ (bz V a = 45 ∧ x = 2) := by omega
  have ex : [e].map rco = [x] := by rcases hs' with ⟨-, rfl, rfl⟩ | ⟨-, rfl, rfl⟩ <;> rfl
  have ox : isOp x := by unfold isOp; omega
  have hlen : ∀ a' j' cs', outp = .ok (a', j', cs') → skE V (a + 1) < a' ∧ skE V (a + 1) + cs'.length ≤ a' := fun a' j' cs' z => ⟨(hQp.2 _ _ _ z).1, (hQp.2 _ _ _ z).2.2.2.1⟩
  cases eo : outp with
  | error y =>
    have hE : ∀ x, outp = .error x → (.error y : QO) = .error x := fun x z => by rw [eo] at z; exact z
    have hN : ∀ {a' j' cs'}, ¬ outp = .ok (a', j', cs') := fun z => by rw [eo] at z; cases z
    refine ⟨.error y, CLsum.go hT s1 hb hlen hCp hE (fun a' j' cs' z => absurd z hN), ?_, ⟨fun kk pl z => hQp.1 kk pl (eo.trans z), fun a' j' cs' z => by cases z⟩, fun a' j' cs' z => by cases z⟩
    intro B d K L E C W b hPB hWB hc hb1 ht he hg cs1 s3 hm hs3
    exact g_plus hT hPB hc s2 hs3 ht (hRp B d K L E _ _ b hPB hWB hc (by rw [len_s]; omega) (Or.inr ⟨W, x, rfl, by omega⟩) (Or.inr ⟨W, x, rfl, by unfold isTm; omega⟩) (fun kk pl z => he kk pl (hE _ z)) (fun a' j' cs' z => absurd z hN))
  | ok t =>
    obtain ⟨a2, j2, cs2⟩ := t
    obtain ⟨l1, l2, l3, l4, l5⟩ := hQp.2 _ _ _ eo
    obtain ⟨out, hC, hR, hQ, hop⟩ := ih a2 j2 (cs ++ (cs2 ++ [e])) (by omega) l2 l3 (by rw [List.length_append, len_s]; omega) (WFq.bin hw l5 (by omega) (by omega) (by omega) (Or.inl (by omega)) (fun z => by cases z)) (hopp _ _ _ eo)
    have hN : ∀ {x}, ¬ outp = .error x := fun z => by rw [eo] at z; cases z
    refine ⟨out, CLsum.go hT s1 hb hlen hCp (fun x z => absurd z hN) (fun a' j' cs' z => ?_), ?_, ⟨hQ.1, fun a' j' cs' z => ?_⟩, hop⟩
    · rw [eo] at z
      obtain ⟨z1, z2, z3⟩ := ok_inj z
      subst z1 z2 z3
      exact hC
    · intro B d K L E C W b hPB hWB hc hb1 ht he hg cs1 s3 hm hs3
      refine g_plus hT hPB hc s2 hs3 ht (hRp B d K L E _ _ b hPB hWB hc (by rw [len_s]; omega) (Or.inr ⟨W, x, rfl, by omega⟩) (Or.inr ⟨W, x, rfl, by unfold isTm; omega⟩) (fun kk pl z => absurd z hN) (fun a' j' cs' z ca t2 hm2 ht2 => ?_))
      rw [eo] at z
      obtain ⟨z1, z2, z3⟩ := ok_inj z
      subst z1 z2 z3
      have := hR B d K L E C W b hPB hWB hc hb1 ht he hg (cs1 ++ s3 ++ ca) (t2 ++ [x]) (by rw [List.map_append, List.map_append, ex, hm, hm2]; simp only [List.append_assoc]) (fun y hy => by
        rcases List.mem_append.mp hy with h | h
        · exact tm_op (ht2 y h)
        · rw [List.mem_singleton] at h
          subst h
          exact ox)
      rw [List.reverse_append, List.reverse_singleton] at this
      simp only [List.append_assoc] at this ⊢
      exact this
    · have r := hQ.2 _ _ _ z
      exact ⟨by omega, r.2⟩
theorem sum_end (hT : TapeR V) {k a0 : Nat} {cs : List Int} (h1 : a ≤ tpN V) (h2 : skE V a = a) (hl : a0 + cs.length ≤ a) (hw : WFq V cs (3 + 3 * (6 - o)) false) (n : ¬ bz V a = 42 ∧ ¬ bz V a = 47) (n43 : ¬ bz V a = 43) (n45 : ¬ bz V a = 45) : SLk V k a0 a j o cs := by
  refine ⟨.ok (a, j, cs), CLsum.out hT n43 n45, ?_, ⟨fun kk pl z => (by cases z), fun a' j' cs' z => ?_⟩, fun a' j' cs' z => ?_⟩
  · intro B d K L E C W b hPB hWB hc hb1 ht he hg cs1 s3 hm hs3
    exact hg _ _ _ rfl cs1 s3 hm hs3
  · obtain ⟨z1, z2, z3⟩ := ok_inj z
    subst z1 z2 z3
    exact ⟨Nat.le_refl _, h1, h2, hl, hw⟩
  · obtain ⟨z1, z2, z3⟩ := ok_inj z
    subst z1
    exact ⟨n.1, n.2, n43, n45⟩
theorem sum_loop (hT : TapeR V) {k a0 : Nat} (hkp : kpQ o + 3 = k + 5) (hP : ∀ (a' : Nat) (j' : Int), a0 < a' → a' ≤ tpN V → skE V a' = a' → ProdOK V a' j' o) : ∀ (n a : Nat) (j : Int) (cs : List Int), tpN V - a ≤ n → a0 ≤ a → a ≤ tpN V → skE V a = a → a0 + cs.length ≤ a → WFq V cs (3 + 3 * (6 - o)) false → ¬ bz V a = 42 ∧ ¬ bz V a = 47 → SLk V k a0 a j o cs := by
  intro n
  induction n with
  | zero =>
    intro a j cs hn h0 h1 h2 hl hw hq
    have ge : ∀ x : Int, 0 ≤ x → ¬ bz V a = x := fun x hx z => by
      have := bz_in' (V := V) (k := a) z hx
      omega
    exact sum_end hT h1 h2 hl hw hq (ge 43 (by decide)) (ge 45 (by decide))
  | succ n ih =>
    intro a j cs hn h0 h1 h2 hl hw hq
    have go := fun {s e x : Int} => sum_go (V := V) (a := a) (j := j) (o := o) (s := s) (e := e) (x := x) hT hkp h0 hl hw (fun a' j' g => hP a' j' (Nat.lt_of_le_of_lt h0 g)) (fun a2 j2 cs2 g g1 g2 g3 g4 g5 => ih a2 j2 cs2 (by omega) (by omega) g1 g2 g3 g4 g5)
    by_cases n43 : bz V a = 43
    · exact go (Or.inl ⟨rfl, rfl, rfl⟩) n43
    · by_cases n45 : bz V a = 45
      · exact go (Or.inr ⟨rfl, rfl, rfl⟩) n45
      · exact sum_end hT h1 h2 hl hw hq n43 n45
theorem sum_ok (hT : TapeR V) (hp : ProdOK V a j o) (hP : ∀ (a' : Nat) (j' : Int), a < a' → a' ≤ tpN V → skE V a' = a' → ProdOK V a' j' o) : SumOK V a j o := by
  obtain ⟨outp, hCp, hRp, hQp, hopp⟩ := hp
  obtain ⟨k, hkp⟩ : ∃ k, kpQ o + 3 = k + 5 := ⟨8 + 10 * (6 - o), by unfold kpQ; omega⟩
  have ek : kpQ o + 6 = k + 8 := by omega
  rw [hkp] at hCp
  unfold SumOK
  rw [ek]
  cases eo : outp with
  | error y =>
    have hE : ∀ x, outp = .error x → (.error y : QO) = .error x := fun x z => by rw [eo] at z; exact z
    have hN : ∀ {a' j' cs'}, ¬ outp = .ok (a', j', cs') := fun z => by rw [eo] at z; cases z
    refine ⟨.error y, c_sum hT hCp hE (fun a' j' cs' z => absurd z hN), ?_, ⟨fun kk pl z => hQp.1 kk pl (eo.trans z), fun a' j' cs' z => by cases z⟩, fun a' j' cs' z => by cases z⟩
    intro B d K L E C W b hPB hWB hc hb1 ht he hg
    exact hRp B d K L E C W b hPB hWB hc hb1 (tpW_mono ht.1 (fun x hx => by unfold isBr at hx; omega)) (tpN_mono (br_no ht) (fun x => tm_op)) (fun kk pl z => he kk pl (hE _ z)) (fun a' j' cs' z => absurd z hN)
  | ok t =>
    obtain ⟨a2, j2, cs2⟩ := t
    obtain ⟨l1, l2, l3, l4, l5⟩ := hQp.2 _ _ _ eo
    obtain ⟨out, hC, hR, hQ, hop⟩ := sum_loop (k := k) (a0 := a) hT hkp hP (tpN V - a2) a2 j2 cs2 (Nat.le_refl _) (by omega) l2 l3 (by omega) (l5.up (by omega)) (hopp _ _ _ eo)
    have hN : ∀ {x}, ¬ outp = .error x := fun z => by rw [eo] at z; cases z
    refine ⟨out, c_sum hT hCp (fun x z => absurd z hN) (fun a' j' cs' z => ?_), ?_, ⟨hQ.1, fun a' j' cs' z => ?_⟩, hop⟩
    · rw [eo] at z
      obtain ⟨z1, z2, z3⟩ := ok_inj z
      subst z1 z2 z3
      exact hC
    · intro B d K L E C W b hPB hWB hc hb1 ht he hg
      refine hRp B d K L E C W b hPB hWB hc hb1 (tpW_mono ht.1 (fun x hx => by unfold isBr at hx; omega)) (tpN_mono (br_no ht) (fun x => tm_op)) (fun kk pl z => absurd z hN) (fun a' j' cs' z ca t2 hm2 ht2 => ?_)
      rw [eo] at z
      obtain ⟨z1, z2, z3⟩ := ok_inj z
      subst z1 z2 z3
      exact hR B d K L E C W b hPB hWB hc hb1 (br_no ht) he hg ca t2 hm2 (fun y hy => tm_op (ht2 y hy))
    · have r := hQ.2 _ _ _ z
      exact ⟨by omega, r.2⟩
/-- all parts, all sums -/
theorem sums_all (hT : TapeR V) (hB : BoatM V) : ∀ (n a : Nat) (j : Int) (o : Nat), tpN V - a ≤ n → a ≤ tpN V → skE V a = a → o ≤ 6 → PartOK V a j o ∧ SumOK V a j o := by
  intro n
  induction n with
  | zero =>
    intro a j o hn h1 h2 ho
    have np := fun (a' : Nat) (h : a < a') (h' : a' ≤ tpN V) => (by omega : False)
    have p1 : PartOK V a j o := part_ok hT hB h2 h1 ho (fun _ a' j' g g1 _ => (np a' g g1).elim) (fun _ a' j' g g1 _ => (np a' g g1).elim)
    exact ⟨p1, sum_ok hT (prod_ok hT p1 (fun a' j' g g1 _ => (np a' g g1).elim)) (fun a' j' g g1 _ => (np a' g g1).elim)⟩
  | succ n ih =>
    intro a j o hn h1 h2 ho
    have p1 : PartOK V a j o := part_ok hT hB h2 h1 ho (fun h a' j' g g1 g2 => (ih a' j' (o + 1) (by omega) g1 g2 h).1) (fun h a' j' g g1 g2 => (ih a' j' (o + 1) (by omega) g1 g2 h).2)
    have pr : ∀ (a' : Nat) (j' : Int), a < a' → a' ≤ tpN V → skE V a' = a' → ProdOK V a' j' o := fun a' j' g g1 g2 => prod_ok hT (ih a' j' o (by omega) g1 g2 ho).1 (fun a2 j2 h h3 h4 => (ih a2 j2 o (by omega) h3 h4 ho).1)
    exact ⟨p1, sum_ok hT (prod_ok hT p1 (fun a' j' g g1 g2 => (ih a' j' o (by omega) g1 g2 ho).1)) pr⟩
theorem sum_all (hT : TapeR V) (hB : BoatM V) (h1 : a ≤ tpN V) (h2 : skE V a = a) (ho : o ≤ 6) : SumOK V a j o := (sums_all hT hB _ a j o (Nat.le_refl _) h1 h2 ho).2
end QL8
