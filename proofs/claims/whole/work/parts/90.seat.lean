/-! seated: orders of rowers as numbers; both ways through them -/
def dgt (n w p k : Nat) : Nat := p / n ^ (w - 1 - k) % n
def dupf (n w p : Nat) : Prop := ∀ a b, a < b → b < w → dgt n w p a ≠ dgt n w p b
theorem dgt_lo {n w p r k : Nat} (hn : 0 < n) (hr : r < n) (hk : k < w) : dgt n (w + 1) (p * n + r) k = dgt n w p k := by
  unfold dgt
  obtain ⟨e, he⟩ : ∃ e, w = k + 1 + e := ⟨w - (k + 1), by omega⟩
  rw [show w + 1 - 1 - k = e + 1 by omega, show w - 1 - k = e by omega, Nat.pow_succ, Nat.mul_comm (n ^ e) n, ← Nat.div_div_eq_div_mul, Nat.mul_comm p n, Nat.mul_add_div hn, Nat.div_eq_of_lt hr, Nat.add_zero]
theorem dgt_hi {n w p r : Nat} (hr : r < n) : dgt n (w + 1) (p * n + r) w = r := by
  unfold dgt
  rw [show w + 1 - 1 - w = 0 by omega, Nat.pow_zero, Nat.div_one, Nat.mul_comm, Nat.mul_add_mod, Nat.mod_eq_of_lt hr]
section FO
variable {S : Type}
def foldR (g : Nat → S → S) (st : S) : Nat → S
  | 0 => st
  | r + 1 => g r (foldR g st r)
def allF (n : Nat) (leaf : Nat → S → S) : Nat → Nat → S → S
  | 0, p, st => leaf p st
  | j + 1, p, st => foldR (fun r s => allF n leaf j (p * n + r) s) st n
def stN (leaf : Nat → S → S) (st : S) : Nat → S
  | 0 => st
  | m + 1 => leaf m (stN leaf st m)
theorem stN_all (n : Nat) (leaf : Nat → S → S) (st : S) : ∀ j p, stN leaf st ((p + 1) * n ^ j) = allF n leaf j p (stN leaf st (p * n ^ j)) := by
  intro j
  induction j with
  | zero => intro p; rw [Nat.pow_zero, Nat.mul_one, Nat.mul_one]; rfl
  | succ j ih =>
    intro p
    have key : ∀ r, stN leaf st ((p * n + r) * n ^ j) = foldR (fun r s => allF n leaf j (p * n + r) s) (stN leaf st (p * n ^ (j + 1))) r := by
      intro r
      induction r with
      | zero => rw [Nat.add_zero, Nat.pow_succ, Nat.mul_assoc, Nat.mul_comm n]; rfl
      | succ r ihr =>
        rw [show p * n + (r + 1) = p * n + r + 1 by omega, ih (p * n + r), ihr]
        rfl
    have := key n
    rw [show (p * n + n) * n ^ j = (p + 1) * n ^ (j + 1) by rw [← Nat.succ_mul, Nat.pow_succ, Nat.mul_comm (n ^ j) n, ← Nat.mul_assoc]] at this
    exact this
/-- only rowers that do not sit yet are tried -/
def arrF (n : Nat) (leaf : Nat → S → S) (tk : Nat → Nat → Nat → Bool) : Nat → Nat → Nat → S → S
  | 0, _, p, st => leaf p st
  | j + 1, w, p, st => foldR (fun r s => if tk w p r = true then s else arrF n leaf tk j (w + 1) (p * n + r) s) st n
theorem foldR_cg {g h : Nat → S → S} {st : S} : ∀ {n : Nat}, (∀ r, r < n → ∀ s, g r s = h r s) → foldR g st n = foldR h st n
  | 0, _ => rfl
  | n + 1, e => by
    show g n (foldR g st n) = h n (foldR h st n)
    rw [foldR_cg (fun r hr => e r (Nat.lt_succ_of_lt hr)), e n (Nat.lt_succ_self n)]
theorem foldR_id {st : S} {g : Nat → S → S} : ∀ {n : Nat}, (∀ r, r < n → ∀ s, g r s = s) → foldR g st n = st
  | 0, _ => rfl
  | n + 1, e => by
    show g n (foldR g st n) = st
    rw [foldR_id (fun r hr => e r (Nat.lt_succ_of_lt hr)), e n (Nat.lt_succ_self n)]
def tkD (n w p r : Nat) : Bool := decide (∃ k, k < w ∧ dgt n w p k = r)
theorem allF_dup {n : Nat} {leaf : Nat → S → S} (hn : 0 < n) (hl : ∀ m s, ¬ dupf n n m → leaf m s = s) : ∀ j w p st, w + j = n → ¬ dupf n w p → allF n leaf j p st = st := by
  intro j
  induction j with
  | zero =>
    intro w p st hw hd
    have hw : w = n := hw
    subst hw
    exact hl p st hd
  | succ j ih =>
    intro w p st hw hd
    refine foldR_id fun r hr s => ih (w + 1) _ s (by omega) fun hd2 => hd fun a b hab hb => ?_
    have := hd2 a b hab (Nat.lt_succ_of_lt hb)
    rwa [dgt_lo hn hr (Nat.lt_trans hab hb), dgt_lo hn hr hb] at this
theorem arr_all {n : Nat} {leaf : Nat → S → S} (hn : 0 < n) (hl : ∀ m s, ¬ dupf n n m → leaf m s = s) : ∀ j w p st, w + j = n → dupf n w p → arrF n leaf (tkD n) j w p st = allF n leaf j p st := by
  intro j
  induction j with
  | zero => intro w p st _ _; rfl
  | succ j ih =>
    intro w p st hw hd
    refine foldR_cg fun r hr s => ?_
    by_cases h : tkD n w p r = true
    · rw [if_pos h]
      obtain ⟨k, k1, k2⟩ := of_decide_eq_true h
      refine (allF_dup hn hl j (w + 1) _ s (by omega) fun hd2 => ?_).symm
      have := hd2 k w k1 (Nat.lt_succ_self w)
      rw [dgt_lo hn hr k1, dgt_hi hr] at this
      exact this k2
    · rw [if_neg h]
      refine ih (w + 1) _ s (by omega) fun a b hab hb => ?_
      by_cases e : b = w
      · subst e
        rw [dgt_lo hn hr hab, dgt_hi hr]
        exact fun z => h (decide_eq_true ⟨a, hab, z⟩)
      · have hb' : b < w := Nat.lt_of_le_of_ne (Nat.le_of_lt_succ hb) e
        rw [dgt_lo hn hr (Nat.lt_trans hab hb'), dgt_lo hn hr hb']
        exact hd a b hab hb'
end FO
/-- the bits that sitting by a number sets -/
def setF (n m : Nat) : Nat → Nat
  | 0 => 0
  | j + 1 => setF n m j ||| 1 * 2 ^ (m / n ^ j % n)
def dupB (n m : Nat) : Bool := (List.range n).all (fun b => (List.range b).all (fun a => decide (dgt n n m a ≠ dgt n n m b)))
theorem dupB_iff (n m : Nat) : dupB n m = true ↔ dupf n n m := by
  unfold dupB dupf
  simp only [List.all_eq_true, List.mem_range, decide_eq_true_eq]
  exact ⟨fun h a b h1 h2 => h b h2 a h1, fun h b hb a ha => h a b ha hb⟩
theorem perm_ok : (List.range 6).all (fun n => (List.range (n ^ n)).all (fun m => decide (setF n m n = 2 ^ n - 1) == dupB n m)) = true := by decide +kernel
theorem set_perm {n m : Nat} (hn : n ≤ 5) (hm : m < n ^ n) : (setF n m n = 2 ^ n - 1) ↔ dupf n n m := by
  have := List.all_eq_true.mp (List.all_eq_true.mp perm_ok n (List.mem_range.mpr (by omega))) m (List.mem_range.mpr hm)
  rw [← dupB_iff]
  cases h : dupB n m
  · rw [h] at this
    have h2 : ¬ (setF n m n = 2 ^ n - 1) := by simpa using this
    exact ⟨fun z => absurd z h2, fun z => by cases z⟩
  · rw [h] at this
    have h2 : setF n m n = 2 ^ n - 1 := by simpa using this
    exact ⟨fun _ => rfl, fun _ => h2⟩
/-- the best order so far: its number, sides, off -/
def ordF (V : Hp) (m : Nat) : Nat → Int := fun k => stg V ((dgt (nS V) (nS V) m k : Nat) : Int) (V 71 47)
def ordV (V : Hp) (m : Nat) : Option (Nat × Int) := nbF (lawB V) (offF V (ordF V m)) (2 ^ nS V)
def updS (V : Hp) (m : Nat) (st : Option (Nat × Nat × Int)) : Option (Nat × Nat × Int) := match ordV V m with
  | none => st
  | some q => match st with
    | none => some (m, q.1, q.2)
    | some s => if q.2 < s.2.2 then some (m, q.1, q.2) else some s
def leafS (V : Hp) (m : Nat) (st : Option (Nat × Nat × Int)) : Option (Nat × Nat × Int) := if dupB (nS V) m = true then updS V m st else st
def bestS (V : Hp) : Option (Nat × Nat × Int) := stN (leafS V) none (nS V ^ nS V)
theorem best_arr (V : Hp) (hn : 0 < nS V) : bestS V = arrF (nS V) (updS V) (tkD (nS V)) (nS V) 0 0 none := by
  have h1 := stN_all (nS V) (leafS V) none (nS V) 0
  rw [Nat.zero_mul, Nat.zero_add, Nat.one_mul] at h1
  have h1 : bestS V = allF (nS V) (leafS V) (nS V) 0 none := h1
  rw [h1, ← arr_all hn (fun m s h => by unfold leafS; rw [if_neg (fun z => h ((dupB_iff _ _).mp z))]) (nS V) 0 0 none (Nat.zero_add _) (fun a b _ hb => absurd hb (Nat.not_lt_zero b))]
  have key : ∀ j w p st, w + j = nS V → dupf (nS V) w p → arrF (nS V) (leafS V) (tkD (nS V)) j w p st = arrF (nS V) (updS V) (tkD (nS V)) j w p st := by
    intro j
    induction j with
    | zero =>
      intro w p st hw hd
      have hw : w = nS V := hw
      rw [hw] at hd
      show leafS V p st = updS V p st
      unfold leafS
      rw [if_pos ((dupB_iff _ _).mpr hd)]
    | succ j ih =>
      intro w p st hw hd
      refine foldR_cg fun r hr s => ?_
      by_cases h : tkD (nS V) w p r = true
      · rw [if_pos h, if_pos h]
      · rw [if_neg h, if_neg h]
        refine ih (w + 1) _ s (by omega) fun a b hab hb => ?_
        by_cases e : b = w
        · subst e
          rw [dgt_lo hn hr hab, dgt_hi hr]
          exact fun z => h (decide_eq_true ⟨a, hab, z⟩)
        · have hb' : b < w := Nat.lt_of_le_of_ne (Nat.le_of_lt_succ hb) e
          rw [dgt_lo hn hr (Nat.lt_trans hab hb'), dgt_lo hn hr hb']
          exact hd a b hab hb'
  exact key (nS V) 0 0 none (Nat.zero_add _) (fun a b _ hb => absurd hb (Nat.not_lt_zero b))
def seatA (V : Hp) (st : Option (Nat × Nat × Int)) (k : Int) : Int := match st with
  | none => -1
  | some s => if k = -1 then s.2.2 else if k = 20 then s.2.1 else ((dgt (nS V) (nS V) s.1 k.toNat : Nat) : Int)
def seatedS (V : Hp) (k : Int) : Int := if (nS V = nR V ∧ nS V ≤ 5) ∧ (k = -1 ∨ k = 20 ∨ (0 ≤ k ∧ k < nS V)) then seatA V (bestS V) k else -1
