/-! THE START: the constructors behind one another, from the empty heap; the state they leave is a state between calls -/
def wl0 : List (Int × Int × Int) := wl_MO_71 ++ ((0, 0, 71) :: (wl_EO_1 ++ [(0, 0, 1)]))
def hlf : List (Int × Int × Int) → Int → Int → Int
  | [], _, _ => 0
  | (c, j, v) :: l, a, b => if a = c ∧ b = j then v else hlf l a b
theorem hl_f {H : Hp} {a b : Int} (h : H a b = 0) : ∀ l, hl l H a b = hlf l a b
  | [] => h
  | (c, j, v) :: l => by
    show (if a = c ∧ b = j then v else hl l H a b) = if a = c ∧ b = j then v else hlf l a b
    rw [hl_f h l]
theorem hlf_z {c b : Int} : ∀ l : List (Int × Int × Int), l.all (fun e => decide (e.1 ≠ c)) = true → hlf l c b = 0
  | [], _ => rfl
  | (a, j, v) :: l, h => by
    rw [List.all_cons, Bool.and_eq_true] at h
    have h1 := of_decide_eq_true h.1
    show (if c = a ∧ b = j then v else hlf l c b) = 0
    rw [if_neg (fun z => h1 z.1.symm)]
    exact hlf_z l h.2
theorem Hz_0 {L : Nat} {xs : Nat → Int32} {a b : Int} (h : 1 ≤ a) (h2 : a ≤ 139) : Hz L xs a b = 0 := by
  unfold Hz
  rw [if_neg (by omega), if_neg (by omega)]
set_option maxRecDepth 20000 in
theorem ck_ptr : ptL.all (fun q => decide (1 ≤ q.1 ∧ q.1 ≤ 139 ∧ hlf wl0 q.1 q.2.1 = q.2.2)) = true := by decide +kernel
set_option maxRecDepth 20000 in
theorem ck_wds : wdL.all (fun q => decide (1 ≤ q.1 ∧ q.1 ≤ 139 ∧ hlf wl0 q.1 q.2.1 = q.2.2)) = true := by decide +kernel
set_option maxRecDepth 20000 in
theorem inv_0 {L : Nat} {xs : Nat → Int32} : Inv0 (hl wl0 (Hz L xs)) := by
  generalize hV : hl wl0 (Hz L xs) = V
  have z : ∀ a b : Int, 1 ≤ a → a ≤ 139 → V a b = hlf wl0 a b := fun a b h1 h2 => by rw [← hV]; exact hl_f (Hz_0 h1 h2) wl0
  have zc : ∀ c : Int, 1 ≤ c → c ≤ 139 → wl0.all (fun e => decide (e.1 ≠ c)) = true → ∀ b, V c b = 0 := fun c h1 h2 h b => (z c b h1 h2).trans (hlf_z wl0 h)
  clear hV
  have hP : Ptr V := fun q hq => by
    have h := of_decide_eq_true (List.all_eq_true.mp ck_ptr q hq)
    rw [z _ _ h.1 h.2.1]; exact h.2.2
  have hW : Wds V := fun q hq => by
    have h := of_decide_eq_true (List.all_eq_true.mp ck_wds q hq)
    rw [z _ _ h.1 h.2.1]; exact h.2.2
  have v91 := zc 91 (by decide) (by decide) (by decide +kernel)
  have v96 := zc 96 (by decide) (by decide) (by decide +kernel)
  have v97 := zc 97 (by decide) (by decide) (by decide +kernel)
  have v99 := zc 99 (by decide) (by decide) (by decide +kernel)
  have v100 := zc 100 (by decide) (by decide) (by decide +kernel)
  have v101 := zc 101 (by decide) (by decide) (by decide +kernel)
  have v107 := zc 107 (by decide) (by decide) (by decide +kernel)
  have v70 := zc 70 (by decide) (by decide) (by decide +kernel)
  have v73 := zc 73 (by decide) (by decide) (by decide +kernel)
  have v67 := zc 67 (by decide) (by decide) (by decide +kernel)
  have v68 := zc 68 (by decide) (by decide) (by decide +kernel)
  have m1 : V 71 1 = 0 := (z _ _ (by decide) (by decide)).trans (by decide +kernel)
  have m7 : V 71 7 = 0 := (z _ _ (by decide) (by decide)).trans (by decide +kernel)
  have m8 : V 71 8 = -1 := (z _ _ (by decide) (by decide)).trans (by decide +kernel)
  have m46 : V 71 46 = 0 := (z _ _ (by decide) (by decide)).trans (by decide +kernel)
  have m47 : V 71 47 = 0 := (z _ _ (by decide) (by decide)).trans (by decide +kernel)
  have m48 : V 71 48 = 0 := (z _ _ (by decide) (by decide)).trans (by decide +kernel)
  have m49 : V 71 49 = 0 := (z _ _ (by decide) (by decide)).trans (by decide +kernel)
  have m55 : V 71 55 = 0 := (z _ _ (by decide) (by decide)).trans (by decide +kernel)
  have m56 : V 71 56 = 0 := (z _ _ (by decide) (by decide)).trans (by decide +kernel)
  have m57 : V 71 57 = 1 := (z _ _ (by decide) (by decide)).trans (by decide +kernel)
  have m98 : V 71 98 = 0 := (z _ _ (by decide) (by decide)).trans (by decide +kernel)
  have c40 : V 4 0 = 5 := (z _ _ (by decide) (by decide)).trans (by decide +kernel)
  have c43 : V 4 3 = 0 := (z _ _ (by decide) (by decide)).trans (by decide +kernel)
  have c44 : V 4 4 = 0 := (z _ _ (by decide) (by decide)).trans (by decide +kernel)
  have c45 : V 4 5 = 1 := (z _ _ (by decide) (by decide)).trans (by decide +kernel)
  have c410 : V 4 10 = 0 := (z _ _ (by decide) (by decide)).trans (by decide +kernel)
  have c411 : V 4 11 = 0 := (z _ _ (by decide) (by decide)).trans (by decide +kernel)
  have c413 : V 4 13 = 0 := (z _ _ (by decide) (by decide)).trans (by decide +kernel)
  have c12 : V 1 2 = 25 := (z _ _ (by decide) (by decide)).trans (by decide +kernel)
  have c111 : V 1 11 = 0 := (z _ _ (by decide) (by decide)).trans (by decide +kernel)
  have c112 : V 1 12 = -1 := (z _ _ (by decide) (by decide)).trans (by decide +kernel)
  have c21 : V 2 1 = 0 := (z _ _ (by decide) (by decide)).trans (by decide +kernel)
  have c50 : V 5 0 = 0 := (z _ _ (by decide) (by decide)).trans (by decide +kernel)
  have c54 : V 5 4 = 0 := (z _ _ (by decide) (by decide)).trans (by decide +kernel)
  have c55 : V 5 5 = 0 := (z _ _ (by decide) (by decide)).trans (by decide +kernel)
  have c56 : V 5 6 = 0 := (z _ _ (by decide) (by decide)).trans (by decide +kernel)
  have c510 : V 5 10 = -1 := (z _ _ (by decide) (by decide)).trans (by decide +kernel)
  have c512 : V 5 12 = 0 := (z _ _ (by decide) (by decide)).trans (by decide +kernel)
  have c513 : V 5 13 = 0 := (z _ _ (by decide) (by decide)).trans (by decide +kernel)
  have c517 : V 5 17 = 0 := (z _ _ (by decide) (by decide)).trans (by decide +kernel)
  have c587 : V 58 7 = 0 := (z _ _ (by decide) (by decide)).trans (by decide +kernel)
  have c662 : V 66 2 = 0 := (z _ _ (by decide) (by decide)).trans (by decide +kernel)
  have w12 : ∀ q : Nat, q < 4 → V 12 q = -1000000000000000 := fun q hq => by
    have h : ∀ q : Nat, q < 4 → hlf wl0 12 q = -1000000000000000 := by decide +kernel
    exact (z _ _ (by decide) (by decide)).trans (h q hq)
  have s0 : nS V = 0 := by unfold nS nN; rw [v91]; rfl
  have r0 : nR V = 0 := by unfold nR nN; rw [v91]; rfl
  have u0 : nU V = 0 := by unfold nU nN; rw [v91]; rfl
  have y0 : nY V = 0 := by unfold nY nN; rw [v91]; rfl
  have e0 : eaV V = -1 := by unfold eaV; rw [if_pos m46]
  have d0 : sdV V = 0 := by unfold sdV; rw [m49]; rfl
  have vs : ∀ {p : Prop} (k : Nat), k < nS V → p := fun k hk => absurd (by rwa [s0] at hk) (Nat.not_lt_zero k)
  have vr : ∀ {p : Prop} (k : Nat), k < nR V → p := fun k hk => absurd (by rwa [r0] at hk) (Nat.not_lt_zero k)
  have vu' : ∀ {p : Prop} (k : Nat), k < nU V → p := fun k hk => absurd (by rwa [u0] at hk) (Nat.not_lt_zero k)
  have vy : ∀ {p : Prop} (k : Nat), k < nY V → p := fun k hk => absurd (by rwa [y0] at hk) (Nat.not_lt_zero k)
  refine ⟨⟨hP, ?_, ?_, ?_, ?_⟩, ?_, ?_, ?_, ?_, ?_, ?_, hW, ?_, ?_⟩
  · refine ⟨⟨by rw [s0, v91]; rfl, by rw [s0]; decide⟩, ⟨by rw [r0, v91]; rfl, by rw [r0]; decide⟩, ⟨by rw [u0, v91]; rfl, by rw [u0]; decide⟩, ⟨by rw [y0, v91]; rfl, by rw [y0]; decide⟩, fun k hk => vs k hk, fun k hk => vs k hk, fun k hk => vs k hk, fun k hk => vr k hk, fun k hk => vr k hk, Or.inl m46, by rw [e0]; decide, by rw [v99]; decide, fun q _ => Or.inl (v100 _), fun q _ _ => by rw [v101]; decide, fun k hk => vu' k hk, fun k hk => vu' k hk, fun k hk => vy k hk, fun k hk => vy k hk⟩
  · refine ⟨by rw [m47]; decide, ⟨by rw [m49, d0]; rfl, by rw [d0, s0]; decide⟩, fun k hk => vs k hk, fun k _ _ => Or.inr ⟨s0, v107 _, v96 _, v97 _⟩, by rw [m57]; decide, by rw [m48]; decide⟩
  · rw [c40]
    refine ⟨by rw [c50, s0]; rfl, by rw [c56, r0]; rfl, by rw [c513, u0]; rfl, by rw [c517, y0]; rfl, by rw [c510, e0], by rw [c512, v99], fun k hk => vs k hk, fun k hk => vs k hk, fun q k _ hk => vs k hk, ⟨0, 0, c54, c55, by rw [s0]; decide, by rw [s0]; decide, fun k hk => vs k hk⟩, fun k hk => vr k hk, fun k hk => vr k hk, fun q hq => ?_, fun r k hr _ => vu' r hr, fun k hk => vu' k hk, fun k hk => vu' k hk, fun k hk => vy k hk, fun k hk => vy k hk⟩
    rw [v100, if_neg (by decide)]
    exact w12 q hq
  · exact ⟨Or.inl c40, by rw [c40, c12]; rfl, by rw [c43, m47], by rw [c44, m48], by rw [c45, m57], fun k hk => vs k hk, fun k hk => vs k hk⟩
  · exact ⟨by rw [c21]; decide, by rw [c21, m1], fun k hk => by rw [c21] at hk; exact absurd hk (by omega)⟩
  · exact ⟨by rw [c111, m7], by rw [c112, m8]⟩
  · exact fun k _ => by rw [v70, v73]
  · exact ⟨by rw [m98]; decide, by rw [c413, m98], fun k hk => by rw [m98] at hk; exact absurd hk (by omega)⟩
  · exact ⟨by rw [m56]; decide, by rw [c410, m56], by rw [c411, m55], 0, by rw [m55]; rfl, by decide, fun i hi => absurd hi (Nat.not_lt_zero i)⟩
  · exact Or.inl ⟨c662, fun j _ => v67 _, fun m _ => v68 _⟩
  · exact fun r hr => vr r hr
  · exact Or.inl c587
