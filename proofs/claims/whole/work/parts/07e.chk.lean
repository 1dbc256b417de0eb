/-- the place behind a row of instructions -/
def chkE (m : Nat) : Nat → List AI → Option Nat
  | pc, [] => some pc
  | pc, i :: is => if i.1 = 17 then none else match decode (bM m) pc with
    | .error _ => none
    | .ok (o, len) => match ck1 m pc i o len with
      | none => none
      | some pc' => chkE m pc' is
theorem chk_app {m : Nat} : ∀ (a b : List AI) (pc pc' : Nat), chkE m pc a = some pc' → chk m pc (a ++ b) = chk m pc' b
  | [], b, pc, pc', h => by
    have : pc = pc' := Option.some.inj h
    subst this
    rfl
  | i :: a, b, pc, pc', h => by
    show chk m pc (i :: (a ++ b)) = _
    unfold chkE at h
    conv => lhs; unfold chk
    by_cases c : i.1 = 17
    · rw [if_pos c] at h; cases h
    · rw [if_neg c] at h ⊢
      cases e : decode (bM m) pc with
      | error x => rw [e] at h; cases h
      | ok t =>
        obtain ⟨o, len⟩ := t
        rw [e] at h
        cases e2 : ck1 m pc i o len with
        | none => simp only [e2] at h; cases h
        | some p2 =>
          simp only [e2] at h ⊢
          exact chk_app a b p2 pc' h
theorem chk_drop {m pc pc' : Nat} {l : List AI} (n : Nat) (h : chkE m pc (l.take n) = some pc') : chk m pc l = chk m pc' (l.drop n) := by
  have := chk_app (l.take n) (l.drop n) pc pc' h
  rw [List.take_append_drop] at this
  exact this
theorem chkM_of {m N : Nat} (hN : (bkT.getD m []).length = N) (h : ∀ n, n < N → chk m (lpc m n) (blk m n) = true) : chkM m = true := by
  unfold chkM
  rw [hN]
  exact List.all_eq_true.mpr (fun n hn => h n (List.mem_range.mp hn))
theorem ltP_0 {P : Nat → Prop} : ∀ a, a < 0 → P a := fun a h => absurd h (Nat.not_lt_zero a)
theorem ltP_s {P : Nat → Prop} {k : Nat} (h : ∀ a, a < k → P a) (hk : P k) : ∀ a, a < k + 1 → P a := fun a ha => by
  rcases Nat.lt_or_ge a k with g | g
  · exact h a g
  · have : a = k := Nat.le_antisymm (Nat.lt_succ_iff.mp ha) g
    subst this
    exact hk
