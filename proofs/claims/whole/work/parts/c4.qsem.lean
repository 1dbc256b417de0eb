/-! QUESTIONS: what codes tell, and that they may be told (codes as the class writes them) -/
def qcl (x : Int) : Int := max (-1000000) (min 1000000 x)
def qOf (V : Hp) (i : Int) : Int := qcl (offV V (sdV V) i)
def qGd (V : Hp) (i : Int) : Int := if goodB V (sdV V) i = true then 1 else 0
def qSw (V : Hp) (i x : Int) : Int := if 0 ≤ x ∧ x < 4 then qcl (w64 (sww V x.toNat (sdV V) i)) else 0
def qFr (V : Hp) (i x : Int) : Int := if 0 ≤ x ∧ x < nR V then stg V x i else 0
/-- the greatest whole number not above; by 0 it is 0 -/
def qFl (l r : Int) : Int := if r = 0 then 0 else if Int.tmod l r ≠ 0 ∧ ((l < 0 ∧ ¬ r < 0) ∨ (¬ l < 0 ∧ r < 0)) then Int.tdiv l r - 1 else Int.tdiv l r
def qJn (e l r : Int) : Int :=
  if e = -7 then max l r else if e = -8 then min l r else if e = -16 then min l r else if e = -17 then max l r
  else if e = -18 then qcl (l + r) else if e = -19 then qcl (l - r) else if e = -20 then qcl (l * r)
  else if e = -21 then qFl l r else if e = -22 then (if l < r then 1 else 0)
  else if e = -23 then (if r < l then 1 else 0) else (if l = r then 1 else 0)
def qUn (V : Hp) (i e x : Int) : Int := if e = -9 then (if x = 0 then 1 else 0) else if e = -14 then qSw V i x else qFr V i x
def qLf (V : Hp) (i e : Int) : Int := if 0 ≤ e then e else if e = -10 then 1 else if e = -11 then i else if e = -12 then qOf V i else qGd V i
/-- 0: a leaf, 1: of one, 2: of two -/
def qAr (e : Int) : Nat := if 0 ≤ e ∨ e = -10 ∨ e = -11 ∨ e = -12 ∨ e = -13 then 0 else if e = -9 ∨ e = -14 ∨ e = -15 then 1 else 2
def qst (V : Hp) (i e : Int) (s : List Int) : List Int :=
  if qAr e = 0 then qLf V i e :: s else if qAr e = 1 then qUn V i e (s.headD 0) :: s.tail else qJn e (s.tail.headD 0) (s.headD 0) :: s.tail.tail
def isBl (x : Int) : Prop := x = 0 ∨ x = 1
def okE (e : Int) (s : List Int) : Prop := -24 ≤ e ∧ e ≤ 99999 ∧ e ≠ -1 ∧ e ≠ -2 ∧ e ≠ -3 ∧ e ≠ -4 ∧ e ≠ -5 ∧ e ≠ -6 ∧ qAr e ≤ s.length ∧ (e = -9 → isBl (s.headD 0)) ∧ ((e = -7 ∨ e = -8) → isBl (s.headD 0) ∧ isBl (s.tail.headD 0))
def Sfe (V : Hp) (i : Int) : List Int → List Int → Prop
  | [], _ => True
  | e :: es, s => okE e s ∧ (qst V i e s).length ≤ 60 ∧ Sfe V i es (qst V i e s)
def qrun (V : Hp) (i : Int) : List Int → List Int → List Int
  | [], s => s
  | e :: es, s => qrun V i es (qst V i e s)
def BdQ (x : Int) : Prop := -1000000 ≤ x ∧ x ≤ 1000000
def BdS (s : List Int) : Prop := ∀ x ∈ s, BdQ x
/-- codes that tell one value, on n places of the pile -/
def WFq (V : Hp) (cs : List Int) (n : Nat) (b : Bool) : Prop := ∀ i : Int, 0 ≤ i → i ≤ 9999 → ∀ s : List Int, BdS s → s.length + n ≤ 60 → Sfe V i cs s ∧ ∃ v, qrun V i cs s = v :: s ∧ BdQ v ∧ (b = true → isBl v)
theorem qrun_app {V : Hp} {i : Int} : ∀ (a b s : List Int), qrun V i (a ++ b) s = qrun V i b (qrun V i a s)
  | [], _, _ => rfl
  | e :: a, b, s => qrun_app a b (qst V i e s)
theorem Sfe_app {V : Hp} {i : Int} : ∀ (a b s : List Int), Sfe V i a s → Sfe V i b (qrun V i a s) → Sfe V i (a ++ b) s
  | [], _, _, _, h => h
  | e :: a, b, s, h, h2 => ⟨h.1, h.2.1, Sfe_app a b (qst V i e s) h.2.2 h2⟩
theorem bdQ0 : BdQ 0 := ⟨by decide, by decide⟩
theorem bdQ1 : BdQ 1 := ⟨by decide, by decide⟩
theorem bdQi {c : Prop} [Decidable c] : BdQ (if c then 1 else 0) := by split; exact bdQ1; exact bdQ0
theorem blQi {c : Prop} [Decidable c] : isBl (if c then 1 else 0) := by split; exact Or.inr rfl; exact Or.inl rfl
theorem qcl_bd (x : Int) : BdQ (qcl x) := by unfold BdQ qcl; omega
theorem qcl_id {x : Int} (h : BdQ x) : qcl x = x := by unfold BdQ at h; unfold qcl; omega
theorem BdS.cons {x : Int} {s : List Int} (h : BdQ x) (hs : BdS s) : BdS (x :: s) := fun y hy => by
  rcases List.mem_cons.mp hy with rfl | hm
  · exact h
  · exact hs y hm
theorem WFq.up {V : Hp} {cs : List Int} {n m : Nat} {b : Bool} (h : WFq V cs n b) (hm : n ≤ m) : WFq V cs m b := fun i h0 h1 s hs hl => h i h0 h1 s hs (by omega)
theorem WFq.nb {V : Hp} {cs : List Int} {n : Nat} (h : WFq V cs n true) : WFq V cs n false := fun i h0 h1 s hs hl => by
  obtain ⟨a, v, b, c, d⟩ := h i h0 h1 s hs hl
  exact ⟨a, v, b, c, fun z => by cases z⟩
theorem WFq.leaf {V : Hp} {e : Int} (h : (0 ≤ e ∧ e ≤ 99999) ∨ e = -11 ∨ e = -12 ∨ e = -13) : WFq V [e] 1 false := by
  intro i h0 h1 s hs hl
  have ha : qAr e = 0 := if_pos (by omega)
  have eq : qst V i e s = qLf V i e :: s := if_pos ha
  have bd : BdQ (qLf V i e) := by
    unfold qLf
    split
    · unfold BdQ; omega
    · split
      · exact bdQ1
      · split
        · unfold BdQ; omega
        · split
          · exact qcl_bd _
          · exact bdQi
  refine ⟨⟨⟨by omega, by omega, by omega, by omega, by omega, by omega, by omega, by omega, by rw [ha]; exact Nat.zero_le _, fun z => by omega, fun z => by omega⟩, ?_, trivial⟩, _, eq, bd, fun z => by cases z⟩
  rw [eq, List.length_cons]; omega
theorem WFq.all {V : Hp} : WFq V [-10] 1 true := by
  intro i h0 h1 s hs hl
  refine ⟨⟨⟨by decide, by decide, by decide, by decide, by decide, by decide, by decide, by decide, Nat.zero_le _, fun z => absurd z (by decide), fun z => absurd z (by decide)⟩, ?_, trivial⟩, 1, rfl, bdQ1, fun _ => Or.inr rfl⟩
  show (1 :: s).length ≤ 60
  rw [List.length_cons]; omega
theorem stg_bd {V : Hp} (hB : BoatM V) {x i : Int} (h : 0 ≤ x ∧ x < nR V) (h0 : 0 ≤ i) : BdQ (stg V x i) := by
  obtain ⟨k, rfl⟩ := Int.eq_ofNat_of_zero_le h.1
  have hk : k < nR V := by omega
  have h1 := hB.str k hk
  have h2 := hB.tire k hk
  have h3 : 0 ≤ i / 10 := by omega
  have h4 : 0 ≤ V 97 (12 + k) * (i / 10) := Int.mul_nonneg h2.1 h3
  unfold stg BdQ
  generalize V 97 (12 + (k : Int)) * (i / 10) = y at *
  generalize V 96 (12 + (k : Int)) = z at *
  omega
theorem WFq.un {V : Hp} (hB : BoatM V) {cs : List Int} {n : Nat} {b : Bool} {e : Int} (h : WFq V cs n b) (hn : 1 ≤ n) (he : e = -14 ∨ e = -15) : WFq V (cs ++ [e]) n false := by
  intro i h0 h1 s hs hl
  obtain ⟨a, v, hv, bv, -⟩ := h i h0 h1 s hs hl
  have ha : qAr e = 1 := by rcases he with rfl | rfl <;> rfl
  have eq : qst V i e (v :: s) = qUn V i e v :: s := by unfold qst; rw [ha]; rfl
  have bd : BdQ (qUn V i e v) := by
    unfold qUn
    rw [if_neg (by omega)]
    split
    · unfold qSw
      split
      · exact qcl_bd _
      · exact bdQ0
    · unfold qFr
      split
      · next c => exact stg_bd hB c h0
      · exact bdQ0
  refine ⟨Sfe_app cs [e] s a ?_, qUn V i e v, by rw [qrun_app, hv]; exact eq, bd, fun z => by cases z⟩
  rw [hv]
  refine ⟨⟨by omega, by omega, by omega, by omega, by omega, by omega, by omega, by omega, by rw [ha, List.length_cons]; omega, fun z => by omega, fun z => by omega⟩, ?_, trivial⟩
  rw [eq, List.length_cons]; omega
theorem WFq.not {V : Hp} {cs : List Int} {n : Nat} (h : WFq V cs n true) (hn : 1 ≤ n) : WFq V (cs ++ [-9]) n true := by
  intro i h0 h1 s hs hl
  obtain ⟨a, v, hv, bv, bl⟩ := h i h0 h1 s hs hl
  have bl := bl rfl
  have eq : qst V i (-9) (v :: s) = (if v = 0 then 1 else 0) :: s := rfl
  refine ⟨Sfe_app cs [-9] s a ?_, _, by rw [qrun_app, hv]; exact eq, bdQi, fun _ => blQi⟩
  rw [hv]
  refine ⟨⟨by decide, by decide, by decide, by decide, by decide, by decide, by decide, by decide, by show 1 ≤ (v :: s).length; rw [List.length_cons]; omega, fun _ => bl, fun z => by omega⟩, ?_, trivial⟩
  rw [eq, List.length_cons]; omega
theorem qFl_bd {l r : Int} (hl : BdQ l) : BdQ (qFl l r) := by
  have h1 := Int.natAbs_tdiv l r
  have h2 := Int.natAbs_tmod l r
  unfold qFl
  split
  · exact bdQ0
  · next hr =>
    have h0 : l.natAbs / r.natAbs ≤ l.natAbs := Nat.div_le_self _ _
    have h1 : (l.tdiv r).natAbs = l.natAbs / r.natAbs := h1
    split
    · next c =>
      have r2 : 2 ≤ r.natAbs := by
        apply Classical.byContradiction
        intro z
        have : r.natAbs = 1 := by omega
        rw [this, Nat.mod_one] at h2
        exact c.1 (Int.natAbs_eq_zero.mp h2)
      have h3 : l.natAbs / r.natAbs ≤ l.natAbs / 2 := Nat.div_le_div_left r2 (by decide)
      generalize l.tdiv r = q at *
      generalize l.natAbs / r.natAbs = y at *
      unfold BdQ at *
      clear h2 c
      omega
    · generalize l.tdiv r = q at *
      generalize l.natAbs / r.natAbs = y at *
      unfold BdQ at *
      clear h2
      omega
theorem WFq.bin {V : Hp} {c1 c2 : List Int} {n1 n2 n : Nat} {b1 b2 b : Bool} {e : Int} (h1 : WFq V c1 n1 b1) (h2 : WFq V c2 n2 b2) (k1 : n1 ≤ n) (k2 : n2 + 1 ≤ n) (k0 : 1 ≤ n1)
    (he : (-24 ≤ e ∧ e ≤ -16) ∨ ((e = -7 ∨ e = -8) ∧ b1 = true ∧ b2 = true)) (hb : b = true → (-24 ≤ e ∧ e ≤ -22) ∨ e = -7 ∨ e = -8) : WFq V (c1 ++ (c2 ++ [e])) n b := by
  intro i h0 h9 s hs hl
  obtain ⟨a1, v1, w1, bd1, bl1⟩ := h1 i h0 h9 s hs (by omega)
  obtain ⟨a2, v2, w2, bd2, bl2⟩ := h2 i h0 h9 (v1 :: s) (BdS.cons bd1 hs) (by rw [List.length_cons]; omega)
  have ha : qAr e = 2 := by
    unfold qAr
    rw [if_neg (by omega), if_neg (by omega)]
  have eq : qst V i e (v2 :: v1 :: s) = qJn e v1 v2 :: s := by unfold qst; rw [ha]; rfl
  have bl : b = true → isBl (qJn e v1 v2) := by
    intro z
    have hb := hb z
    unfold qJn isBl
    rcases he with he | ⟨he, q1, q2⟩
    · rw [if_neg (by omega), if_neg (by omega), if_neg (by omega), if_neg (by omega), if_neg (by omega), if_neg (by omega), if_neg (by omega), if_neg (by omega)]
      split
      · exact blQi
      · split
        · exact blQi
        · exact blQi
    · have g1 := bl1 q1
      have g2 := bl2 q2
      unfold isBl at g1 g2
      rcases he with rfl | rfl
      · rw [if_pos rfl]; omega
      · rw [if_neg (by decide), if_pos rfl]; omega
  have bd : BdQ (qJn e v1 v2) := by
    unfold qJn
    split
    · unfold BdQ at *; omega
    · split
      · unfold BdQ at *; omega
      · split
        · unfold BdQ at *; omega
        · split
          · unfold BdQ at *; omega
          · split
            · exact qcl_bd _
            · split
              · exact qcl_bd _
              · split
                · exact qcl_bd _
                · split
                  · exact qFl_bd bd1
                  · split
                    · exact bdQi
                    · split
                      · exact bdQi
                      · exact bdQi
  refine ⟨Sfe_app c1 _ s a1 ?_, qJn e v1 v2, by rw [qrun_app, w1, qrun_app, w2]; exact eq, bd, bl⟩
  rw [w1]
  refine Sfe_app c2 [e] _ a2 ?_
  rw [w2]
  refine ⟨⟨by omega, by omega, by omega, by omega, by omega, by omega, by omega, by omega, by rw [ha, List.length_cons, List.length_cons]; omega, fun z => by omega, fun z => ?_⟩, ?_, trivial⟩
  · rcases he with he | ⟨he, q1, q2⟩
    · omega
    · exact ⟨bl2 q2, bl1 q1⟩
  · rw [eq, List.length_cons]; omega
