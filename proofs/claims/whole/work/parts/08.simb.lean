/-! THE SIMULATION, first part: how the abstract machine's values, locals, stacks and heaps are held by the machine -/
theorem length_lst1 : ∀ (ls : List AV) (i : Nat) (v : AV), (lst1 ls i v).length = ls.length
  | [], _, _ => rfl
  | _ :: _, 0, _ => rfl
  | a :: l, 1, v => by show (lst1 l 0 v).length + 1 = l.length + 1; rw [length_lst1]
  | a :: l, n + 2, v => by show (lst1 l (n + 1) v).length + 1 = l.length + 1; rw [length_lst1]
theorem length_lst2 : ∀ (ls : List AV) (i : Nat) (v : AV), i + 1 < ls.length → (lst2 ls i v).length = ls.length
  | [], _, _, h => by simp at h
  | [_], _, _, h => by simp at h
  | _ :: _ :: _, 0, _, _ => rfl
  | a :: b :: l, 1, v, h => by
    show (lst2 (b :: l) 0 v).length + 1 = (b :: l).length + 1
    rw [length_lst2 (b :: l) 0 v (by simp at h ⊢; omega)]
  | a :: b :: l, n + 2, v, h => by
    show (lst2 (b :: l) (n + 1) v).length + 1 = (b :: l).length + 1
    rw [length_lst2 (b :: l) (n + 1) v (by simp at h ⊢; omega)]
theorem lget_nil (j : Nat) : lget [] j = vu := by cases j <;> rfl
theorem lget_lst1 : ∀ (ls : List AV) (i : Nat) (v : AV), i < ls.length → ∀ j, lget (lst1 ls i v) j = if j = i then v else if j + 1 = i ∧ (lget ls j).1 = 1 then vu else lget ls j
  | [], _, _, h, _ => by simp at h
  | a :: l, 0, v, _, j => by
    cases j with
    | zero => rfl
    | succ j => simp [lst1, lget]
  | a :: l, 1, v, h, j => by
    have ih := lget_lst1 l 0 v (by simp at h; omega)
    cases j with
    | zero => by_cases ha : a.1 = 1 <;> simp [lst1, lget, ha]
    | succ j => 
      show lget (lst1 l 0 v) j = _
      rw [ih j]
      by_cases hj : j = 0
      · subst hj; simp
      · simp [hj, lget]
  | a :: l, n + 2, v, h, j => by
    have ih := lget_lst1 l (n + 1) v (by simp at h; omega)
    cases j with
    | zero => simp [lst1, lget]
    | succ j =>
      show lget (lst1 l (n + 1) v) j = _
      rw [ih j]
      simp [lget]
theorem lget_lst2 : ∀ (ls : List AV) (i : Nat) (v : AV), i + 1 < ls.length → ∀ j, lget (lst2 ls i v) j = if j = i then v else if j = i + 1 then vu else if j + 1 = i ∧ (lget ls j).1 = 1 then vu else lget ls j
  | [], _, _, h, _ => by simp at h
  | [_], _, _, h, _ => by simp at h
  | a :: b :: l, 0, v, _, j => by
    cases j with
    | zero => rfl
    | succ j =>
      cases j with
      | zero => rfl
      | succ j => simp [lst2, lget]
  | a :: b :: l, 1, v, h, j => by
    have ih := lget_lst2 (b :: l) 0 v (by simp at h ⊢; omega)
    cases j with
    | zero => by_cases ha : a.1 = 1 <;> simp [lst2, lget, ha]
    | succ j =>
      show lget (lst2 (b :: l) 0 v) j = _
      rw [ih j]
      by_cases hj : j = 0
      · subst hj; simp
      · simp [hj, lget]
  | a :: b :: l, n + 2, v, h, j => by
    have ih := lget_lst2 (b :: l) (n + 1) v (by simp at h ⊢; omega)
    cases j with
    | zero => simp [lst2, lget]
    | succ j =>
      show lget (lst2 (b :: l) (n + 1) v) j = _
      rw [ih j]
      simp [lget]
theorem lget_lt : ∀ {ls : List AV} {j : Nat}, (lget ls j).1 ≠ 3 → j < ls.length
  | [], j, h => by rw [lget_nil] at h; exact absurd rfl h
  | a :: l, 0, _ => by simp
  | a :: l, j + 1, h => by have := lget_lt (ls := l) (j := j) h; simp; omega
/-! values -/
def okr (n k : Int) : Prop := (1 ≤ k ∧ k ≤ n) ∨ k = 901 ∨ k = 902 ∨ k = 999
def vrel (f : Int → Nat) (n : Int) (a : AV) (v : Value) : Prop := (a.1 = 0 ∧ ∃ x : Int32, v = .int x ∧ x.toInt = a.2) ∨ (a.1 = 1 ∧ ∃ x : Int64, v = .long x ∧ x.toInt = a.2) ∨ (a.1 = 2 ∧ ((a.2 = 0 ∧ v = .null) ∨ (okr n a.2 ∧ v = .ref (f a.2))))
section V
variable {f f' : Int → Nat} {n n' : Int}
theorem okr.mono {k : Int} (h : okr n k) (hn : n ≤ n') : okr n' k := by unfold okr at *; omega
theorem vrel.mono {a : AV} {v : Value} (h : vrel f n a v) (hn : n ≤ n') (hf : ∀ k, okr n k → f' k = f k) : vrel f' n' a v := by
  rcases h with h | h | ⟨h1, h | ⟨h2, h3⟩⟩
  · exact Or.inl h
  · exact Or.inr (Or.inl h)
  · exact Or.inr (Or.inr ⟨h1, Or.inl h⟩)
  · exact Or.inr (Or.inr ⟨h1, Or.inr ⟨h2.mono hn, by rw [hf _ h2]; exact h3⟩⟩)
theorem vrel_i {x : Int} {v : Value} : vrel f n (0, x) v ↔ ∃ y : Int32, v = .int y ∧ y.toInt = x := by
  constructor
  · rintro (⟨-, h⟩ | ⟨h, -⟩ | ⟨h, -⟩)
    · exact h
    · cases h
    · cases h
  · exact fun h => Or.inl ⟨rfl, h⟩
theorem vrel_l {x : Int} {v : Value} : vrel f n (1, x) v ↔ ∃ y : Int64, v = .long y ∧ y.toInt = x := by
  constructor
  · rintro (⟨h, -⟩ | ⟨-, h⟩ | ⟨h, -⟩)
    · cases h
    · exact h
    · cases h
  · exact fun h => Or.inr (Or.inl ⟨rfl, h⟩)
theorem vrel_a {x : Int} {v : Value} : vrel f n (2, x) v ↔ (x = 0 ∧ v = .null) ∨ (okr n x ∧ v = .ref (f x)) := by
  constructor
  · rintro (⟨h, -⟩ | ⟨h, -⟩ | ⟨-, h⟩)
    · cases h
    · cases h
    · exact h
  · exact fun h => Or.inr (Or.inr ⟨rfl, h⟩)
theorem vrel.cat {a : AV} {v : Value} (h : vrel f n a v) : (a.1 = 1 → v.category = 2) ∧ (a.1 ≠ 1 → v.category = 1) := by
  rcases h with ⟨h, x, rfl, -⟩ | ⟨h, x, rfl, -⟩ | ⟨h, ⟨-, rfl⟩ | ⟨-, rfl⟩⟩ <;> simp [h, Value.category]
theorem vrel.ne3 {a : AV} {v : Value} (h : vrel f n a v) : a.1 ≠ 3 := by
  rcases h with ⟨h, -⟩ | ⟨h, -⟩ | ⟨h, -⟩ <;> omega
/-- stacks -/
def srel (f : Int → Nat) (n : Int) : List AV → List Value → Prop
  | [], [] => True
  | a :: st, v :: sv => vrel f n a v ∧ srel f n st sv
  | _, _ => False
theorem srel.mono : ∀ {st : List AV} {sv : List Value}, srel f n st sv → n ≤ n' → (∀ k, okr n k → f' k = f k) → srel f' n' st sv
  | [], [], _, _, _ => trivial
  | _ :: _, _ :: _, h, hn, hf => ⟨h.1.mono hn hf, srel.mono h.2 hn hf⟩
  | [], _ :: _, h, _, _ => h.elim
  | _ :: _, [], h, _, _ => h.elim
theorem srel_nil {sv : List Value} (h : srel f n [] sv) : sv = [] := by
  cases sv with
  | nil => rfl
  | cons => exact h.elim
theorem srel_cons {a : AV} {st : List AV} {sv : List Value} (h : srel f n (a :: st) sv) : ∃ v sv', sv = v :: sv' ∧ vrel f n a v ∧ srel f n st sv' := by
  cases sv with
  | nil => exact h.elim
  | cons v sv' => exact ⟨v, sv', rfl, h.1, h.2⟩
theorem srel_i {x : Int} {st : List AV} {sv : List Value} (h : srel f n ((0, x) :: st) sv) : ∃ (y : Int32) (sv' : List Value), sv = .int y :: sv' ∧ y.toInt = x ∧ srel f n st sv' := by
  obtain ⟨v, sv', rfl, h1, h2⟩ := srel_cons h
  obtain ⟨y, rfl, hy⟩ := vrel_i.mp h1
  exact ⟨y, sv', rfl, hy, h2⟩
theorem srel_l {x : Int} {st : List AV} {sv : List Value} (h : srel f n ((1, x) :: st) sv) : ∃ (y : Int64) (sv' : List Value), sv = .long y :: sv' ∧ y.toInt = x ∧ srel f n st sv' := by
  obtain ⟨v, sv', rfl, h1, h2⟩ := srel_cons h
  obtain ⟨y, rfl, hy⟩ := vrel_l.mp h1
  exact ⟨y, sv', rfl, hy, h2⟩
/-- a reference that isn't null -/
theorem srel_a {x : Int} {st : List AV} {sv : List Value} (h : srel f n ((2, x) :: st) sv) (hx : x ≠ 0) : ∃ (sv' : List Value), sv = .ref (f x) :: sv' ∧ okr n x ∧ srel f n st sv' := by
  obtain ⟨v, sv', rfl, h1, h2⟩ := srel_cons h
  rcases vrel_a.mp h1 with ⟨h3, -⟩ | ⟨h3, rfl⟩
  · exact absurd h3 hx
  · exact ⟨sv', rfl, h3, h2⟩
theorem srel_wds : ∀ {st : List AV} {sv : List Value}, srel f n st sv → (sv.map fun v => v.category).sum = wds st
  | [], [], _ => rfl
  | a :: st, v :: sv, h => by
    have ih := srel_wds h.2
    have hc := h.1.cat
    simp only [List.map_cons, List.sum_cons, ih, wds]
    by_cases ha : a.1 = 1
    · rw [hc.1 ha, if_pos ha]; omega
    · rw [hc.2 ha, if_neg ha]; omega
  | [], _ :: _, h => h.elim
  | _ :: _, [], h => h.elim
/-- locals -/
def lrel (f : Int → Nat) (n : Int) (ls : List AV) (la : Array Slot) : Prop := ∃ lv, lv_has la ls.length lv ∧ ∀ j, (lget ls j).1 ≠ 3 → ∃ v, (j, v) ∈ lv ∧ vrel f n (lget ls j) v
theorem lrel.mono {ls : List AV} {la : Array Slot} (h : lrel f n ls la) (hn : n ≤ n') (hf : ∀ k, okr n k → f' k = f k) : lrel f' n' ls la := by
  obtain ⟨lv, h1, h2⟩ := h
  exact ⟨lv, h1, fun j hj => by obtain ⟨v, h3, h4⟩ := h2 j hj; exact ⟨v, h3, h4.mono hn hf⟩⟩
theorem lrel.at {ls : List AV} {la : Array Slot} {j : Nat} {a : AV} (h : lrel f n ls la) (ha : lget ls j = a) (h3 : a.1 ≠ 3) : ∃ v, la[j]? = some (.val v) ∧ vrel f n a v := by
  obtain ⟨lv, h1, h2⟩ := h
  subst ha
  obtain ⟨v, h4, h5⟩ := h2 j h3
  exact ⟨v, h1.2.2 _ h4, h5⟩
theorem lrel.size {ls : List AV} {la : Array Slot} (h : lrel f n ls la) : la.size = ls.length := by
  obtain ⟨lv, h1, -⟩ := h
  exact h1.1
theorem lrel.st1 {ls : List AV} {la : Array Slot} {i : Nat} {a : AV} {v : Value} {lv : List (Nat × Value)} (h2 : ∀ j, (lget ls j).1 ≠ 3 → ∃ v, (j, v) ∈ lv ∧ vrel f n (lget ls j) v) (hi : i < ls.length) (hv : vrel f n a v) (h : lv_has la ls.length ((i, v) :: lv.filter (fun q => !(q.1 == i) && !(q.1 + 1 == i && q.2.category == 2)))) : lrel f n (lst1 ls i a) la := by
  refine ⟨_, by rw [length_lst1]; exact h, fun j hj => ?_⟩
  rw [lget_lst1 ls i a hi j] at hj ⊢
  by_cases e : j = i
  · subst e
    rw [if_pos rfl] at hj ⊢
    exact ⟨v, List.mem_cons_self, hv⟩
  · rw [if_neg e] at hj ⊢
    by_cases g : j + 1 = i ∧ (lget ls j).1 = 1
    · rw [if_pos g] at hj; exact absurd rfl hj
    · rw [if_neg g] at hj ⊢
      obtain ⟨w, h3, h4⟩ := h2 j hj
      refine ⟨w, List.mem_cons_of_mem _ (List.mem_filter.mpr ⟨h3, ?_⟩), h4⟩
      have hc := h4.cat
      by_cases t : (lget ls j).1 = 1
      · have hn : ¬ j + 1 = i := fun q => g ⟨q, t⟩
        simp [e, hn]
      · simp [e, hc.2 t]
theorem lrel.st2 {ls : List AV} {la : Array Slot} {i : Nat} {a : AV} {v : Value} {lv : List (Nat × Value)} (h2 : ∀ j, (lget ls j).1 ≠ 3 → ∃ v, (j, v) ∈ lv ∧ vrel f n (lget ls j) v) (hi : i + 1 < ls.length) (hv : vrel f n a v) (h : lv_has la ls.length ((i, v) :: lv.filter (fun q => !(q.1 == i) && (!(q.1 == i + 1) && !(q.1 + 1 == i && q.2.category == 2))))) : lrel f n (lst2 ls i a) la := by
  refine ⟨_, by rw [length_lst2 _ _ _ hi]; exact h, fun j hj => ?_⟩
  rw [lget_lst2 ls i a hi j] at hj ⊢
  by_cases e : j = i
  · subst e
    rw [if_pos rfl] at hj ⊢
    exact ⟨v, List.mem_cons_self, hv⟩
  · rw [if_neg e] at hj ⊢
    by_cases e2 : j = i + 1
    · rw [if_pos e2] at hj; exact absurd rfl hj
    · rw [if_neg e2] at hj ⊢
      by_cases g : j + 1 = i ∧ (lget ls j).1 = 1
      · rw [if_pos g] at hj; exact absurd rfl hj
      · rw [if_neg g] at hj ⊢
        obtain ⟨w, h3, h4⟩ := h2 j hj
        refine ⟨w, List.mem_cons_of_mem _ (List.mem_filter.mpr ⟨h3, ?_⟩), h4⟩
        have hc := h4.cat
        by_cases t : (lget ls j).1 = 1
        · have hn : ¬ j + 1 = i := fun q => g ⟨q, t⟩
          simp [e, e2, hn]
        · simp [e, e2, hc.2 t]
end V
/-! numbers -/
theorem w32_of {x : Int32} : w32 x.toInt = x.toInt := by
  have h1 := Int32.le_toInt x
  have h2 := Int32.toInt_lt x
  unfold w32
  omega
theorem w32_bmod (z : Int) : w32 z = z.bmod (2 ^ 32) := by unfold w32; rw [Int.bmod_def]; split <;> omega
theorem w64_bmod (z : Int) : w64 z = z.bmod (2 ^ 64) := by unfold w64; rw [Int.bmod_def]; split <;> omega
theorem i32_of (x : Int32) : Int32.ofInt x.toInt = x := Int32.ofInt_toInt x
theorem i64_of (x : Int64) : Int64.ofInt x.toInt = x := Int64.ofInt_toInt x
theorem toInt_ofInt32 {z : Int} (h : i32 z = true) : (Int32.ofInt z).toInt = z := by
  unfold i32 at h
  have h := of_decide_eq_true h
  rw [Int32.toInt_ofInt, show Int32.size = 4294967296 from rfl, Int.bmod_def]
  split <;> omega
theorem toInt_ofInt64 {z : Int} (h : i64 z = true) : (Int64.ofInt z).toInt = z := by
  unfold i64 at h
  have h := of_decide_eq_true h
  rw [Int64.toInt_ofInt, show Int64.size = 18446744073709551616 from rfl, Int.bmod_def]
  split <;> omega
theorem opi_add (x y : Int32) : (x + y).toInt = w32 (x.toInt + y.toInt) := by rw [w32_bmod, Int32.toInt_add]
theorem opi_sub (x y : Int32) : (x - y).toInt = w32 (x.toInt - y.toInt) := by rw [w32_bmod, Int32.toInt_sub]
theorem opi_mul (x y : Int32) : (x * y).toInt = w32 (x.toInt * y.toInt) := by rw [w32_bmod, Int32.toInt_mul]
theorem opi_neg (x : Int32) : (-x).toInt = w32 (-x.toInt) := by rw [w32_bmod, Int32.toInt_neg]
theorem opi_div (x y : Int32) : (x / y).toInt = w32 (Int.tdiv x.toInt y.toInt) := by rw [w32_bmod, Int32.toInt_div]
theorem opl_add (x y : Int64) : (x + y).toInt = w64 (x.toInt + y.toInt) := by rw [w64_bmod, Int64.toInt_add]
theorem opl_sub (x y : Int64) : (x - y).toInt = w64 (x.toInt - y.toInt) := by rw [w64_bmod, Int64.toInt_sub]
theorem opl_mul (x y : Int64) : (x * y).toInt = w64 (x.toInt * y.toInt) := by rw [w64_bmod, Int64.toInt_mul]
theorem opl_neg (x : Int64) : (-x).toInt = w64 (-x.toInt) := by rw [w64_bmod, Int64.toInt_neg]
theorem opl_div (x y : Int64) : (x / y).toInt = w64 (Int.tdiv x.toInt y.toInt) := by rw [w64_bmod, Int64.toInt_div]
theorem w32_cong {a b : Int} (h : ∃ k, a - b = k * 4294967296) : w32 a = w32 b := by obtain ⟨k, h⟩ := h; unfold w32; omega
theorem w64_cong {a b : Int} (h : ∃ k, a - b = k * 18446744073709551616) : w64 a = w64 b := by obtain ⟨k, h⟩ := h; unfold w64; omega
theorem w32_k (a : Int) : ∃ k, w32 a = a + k * 4294967296 := ⟨-((a + 2147483648) / 4294967296), by unfold w32; omega⟩
theorem w64_k (a : Int) : ∃ k, w64 a = a + k * 18446744073709551616 := ⟨-((a + 9223372036854775808) / 18446744073709551616), by unfold w64; omega⟩
theorem opi_rem (x y : Int32) : (x - x / y * y).toInt = w32 (Int.tmod x.toInt y.toInt) := by
  rw [opi_sub, opi_mul, opi_div]
  obtain ⟨k1, h1⟩ := w32_k (x.toInt.tdiv y.toInt)
  obtain ⟨k2, h2⟩ := w32_k (w32 (x.toInt.tdiv y.toInt) * y.toInt)
  refine w32_cong ⟨-(k1 * y.toInt) - k2, ?_⟩
  rw [h2, h1]
  have := Int.tmod_add_mul_tdiv x.toInt y.toInt
  grind
theorem opl_rem (x y : Int64) : (x - x / y * y).toInt = w64 (Int.tmod x.toInt y.toInt) := by
  rw [opl_sub, opl_mul, opl_div]
  obtain ⟨k1, h1⟩ := w64_k (x.toInt.tdiv y.toInt)
  obtain ⟨k2, h2⟩ := w64_k (w64 (x.toInt.tdiv y.toInt) * y.toInt)
  refine w64_cong ⟨-(k1 * y.toInt) - k2, ?_⟩
  rw [h2, h1]
  have := Int.tmod_add_mul_tdiv x.toInt y.toInt
  grind
theorem cv_i2l (x : Int32) : x.toInt64.toInt = x.toInt := Int32.toInt_toInt64 x
theorem cv_l2i (x : Int64) : x.toInt32.toInt = w32 x.toInt := by rw [w32_bmod, Int64.toInt_toInt32]
theorem cv_i2b (x : Int32) : x.toInt8.toInt32.toInt = w8 x.toInt := by
  rw [Int8.toInt_toInt32, Int32.toInt_toInt8, Int.bmod_def]
  unfold w8
  split <;> omega
theorem lg_cmp_3 (x y : Int64) : (lg_cmp x y).toInt = cmp3 x.toInt y.toInt := by
  unfold lg_cmp cmp3
  by_cases h1 : x > y
  · rw [if_pos h1, if_pos (Int64.lt_iff_toInt_lt.mp h1)]; rfl
  · have h1' : ¬ x.toInt > y.toInt := fun h => h1 (Int64.lt_iff_toInt_lt.mpr h)
    rw [if_neg h1, if_neg h1']
    by_cases h2 : x = y
    · rw [if_pos h2, if_pos (by rw [h2])]; rfl
    · rw [if_neg h2, if_neg (fun h => h2 (Int64.toInt_inj.mp h))]; rfl
theorem vp_in_of_int {x : Int32} {z : Int} {n : Nat} (hx : x.toInt = z) (h0 : 0 ≤ z) (h1 : z < n) : vp_in x n ∧ x.toNatClampNeg = z.toNat := by
  have e : x.toNatClampNeg = z.toNat := by show x.toInt.toNat = _; rw [hx]
  refine ⟨fun h => ?_, e⟩
  rcases h with h | h
  · have := Int32.lt_iff_toInt_lt.mp h
    rw [hx] at this
    simp at this
    omega
  · rw [e] at h; omega
