/-! THE RUN of the abstract machine, by fuel n and depth of calls d; R: it comes to an end with Q; a row an instruction -/
def am_bool (x : Int) : Prop := x = 0 ∨ x = 1
def rcv : List AV → Int
  | (2, c) :: _ => c
  | _ => -1
def fk (i : AI) : Int := match i.2.2.2 with
  | q :: _ => q.1
  | [] => 0
/-- one instruction that neither jumps nor calls -/
def am1 (i : AI) (ls st : List AV) (H : Hp) : Option (List AV × List AV × Hp) :=
  match i.1 with
  | 1 => some (ls, vi i.2.2.1 :: st, H)
  | 2 => some (ls, vl i.2.2.1 :: st, H)
  | 3 => match lget ls i.2.1 with
    | (0, x) => some (ls, vi x :: st, H)
    | _ => none
  | 53 => match lget ls i.2.1 with
    | (1, x) => some (ls, vl x :: st, H)
    | _ => none
  | 54 => match lget ls i.2.1 with
    | (2, x) => some (ls, va x :: st, H)
    | _ => none
  | 4 => match st with
    | (0, x) :: st' => if i.2.1 < ls.length then some (lst1 ls i.2.1 (vi x), st', H) else none
    | _ => none
  | 55 => match st with
    | (2, x) :: st' => if i.2.1 < ls.length then some (lst1 ls i.2.1 (va x), st', H) else none
    | _ => none
  | 5 => match st with
    | (1, x) :: st' => if i.2.1 + 1 < ls.length then some (lst2 ls i.2.1 (vl x), st', H) else none
    | _ => none
  | 6 => match lget ls i.2.1 with
    | (0, x) => if i.2.1 < ls.length then some (lst1 ls i.2.1 (vi (w32 (x + i.2.2.1))), st, H) else none
    | _ => none
  | 7 => match st with
    | (0, y) :: (0, x) :: st' => some (ls, vi (am_bi i.2.1 x y) :: st', H)
    | _ => none
  | 8 => match st with
    | (1, y) :: (1, x) :: st' => some (ls, vl (am_bl i.2.1 x y) :: st', H)
    | _ => none
  | 9 => match st with
    | (0, y) :: (1, x) :: st' => some (ls, vl (if i.2.1 = 0 then l_shl x y else l_shr x y) :: st', H)
    | _ => none
  | 10 => match st with
    | (0, y) :: (0, x) :: st' => if y ≠ 0 then some (ls, vi (am_bi i.2.1 x y) :: st', H) else none
    | _ => none
  | 11 => match st with
    | (1, y) :: (1, x) :: st' => if y ≠ 0 then some (ls, vl (am_bl i.2.1 x y) :: st', H) else none
    | _ => none
  | 60 => match st with
    | (0, x) :: st' => some (ls, vi (w32 (-x)) :: st', H)
    | _ => none
  | 61 => match st with
    | (1, x) :: st' => some (ls, vl (w64 (-x)) :: st', H)
    | _ => none
  | 62 => match st with
    | (0, x) :: st' => some (ls, vl x :: st', H)
    | _ => none
  | 63 => match st with
    | (1, x) :: st' => some (ls, vi (w32 x) :: st', H)
    | _ => none
  | 64 => match st with
    | (0, x) :: st' => some (ls, vi (w8 x) :: st', H)
    | _ => none
  | 65 => match st with
    | (0, x) :: st' => some (ls, vi (w16u x) :: st', H)
    | _ => none
  | 13 => match st with
    | (1, y) :: (1, x) :: st' => some (ls, vi (cmp3 x y) :: st', H)
    | _ => none
  | 18 => match st with
    | (2, c) :: st' => if shc c = i.2.2.1 then some (ls, vi (H c (fk i)) :: st', H) else none
    | _ => none
  | 19 => match st with
    | (2, c) :: st' => if shc c = i.2.2.1 then some (ls, vl (H c (fk i)) :: st', H) else none
    | _ => none
  | 20 => match st with
    | (2, c) :: st' => if shc c = i.2.2.1 then some (ls, va (H c (fk i)) :: st', H) else none
    | _ => none
  | 21 => match st with
    | (0, x) :: (2, c) :: st' => if shc c = i.2.2.1 then some (ls, st', hs H c (fk i) x) else none
    | _ => none
  | 22 => match st with
    | (1, x) :: (2, c) :: st' => if shc c = i.2.2.1 then some (ls, st', hs H c (fk i) x) else none
    | _ => none
  | 23 => match st with
    | (2, x) :: (2, c) :: st' => if shc c = i.2.2.1 then some (ls, st', hs H c (fk i) x) else none
    | _ => none
  | 24 => match st with
    | (0, x) :: (2, c) :: st' => if shc c = i.2.2.1 ∧ (x = 0 ∨ x = 1) then some (ls, st', hs H c (fk i) x) else none
    | _ => none
  | 25 => match st with
    | (0, j) :: (2, c) :: st' => if sht c = 1 ∧ 0 ≤ j ∧ j < shl c then some (ls, vi (H c j) :: st', H) else none
    | _ => none
  | 26 => match st with
    | (0, j) :: (2, c) :: st' => if sht c = 2 ∧ 0 ≤ j ∧ j < shl c then some (ls, vl (H c j) :: st', H) else none
    | _ => none
  | 27 => match st with
    | (0, j) :: (2, c) :: st' => if sht c = 3 ∧ 0 ≤ j ∧ j < shl c then some (ls, vi (H c j) :: st', H) else none
    | _ => none
  | 28 => match st with
    | (0, j) :: (2, c) :: st' => if sht c = 4 ∧ 0 ≤ j ∧ j < shl c then some (ls, vi (H c j) :: st', H) else none
    | _ => none
  | 29 => match st with
    | (0, x) :: (0, j) :: (2, c) :: st' => if sht c = 1 ∧ 0 ≤ j ∧ j < shl c then some (ls, st', hs H c j x) else none
    | _ => none
  | 30 => match st with
    | (1, x) :: (0, j) :: (2, c) :: st' => if sht c = 2 ∧ 0 ≤ j ∧ j < shl c then some (ls, st', hs H c j x) else none
    | _ => none
  | 31 => match st with
    | (0, x) :: (0, j) :: (2, c) :: st' => if sht c = 3 ∧ 0 ≤ j ∧ j < shl c then some (ls, st', hs H c j (w8 x)) else none
    | _ => none
  | 32 => match st with
    | (0, x) :: (0, j) :: (2, c) :: st' => if sht c = 4 ∧ 0 ≤ j ∧ j < shl c then some (ls, st', hs H c j (w16u x)) else none
    | _ => none
  | 33 => match st with
    | (2, c) :: st' => if sht c ≠ 0 then some (ls, vi (shl c) :: st', H) else none
    | _ => none
  | 34 => match st with
    | (0, x) :: st' => some (ls, vi x :: vi x :: st', H)
    | (2, x) :: st' => some (ls, va x :: va x :: st', H)
    | _ => none
  | 66 => match st with
    | (0, x) :: (2, y) :: st' => some (ls, vi x :: va y :: vi x :: va y :: st', H)
    | (1, x) :: st' => some (ls, vl x :: vl x :: st', H)
    | _ => none
  | 67 => match st with
    | (0, _) :: st' => some (ls, st', H)
    | _ => none
  | 43 => if shc (H 0 0 + 1) = i.2.2.1 then some (ls, va (H 0 0 + 1) :: st, hs H 0 0 (H 0 0 + 1)) else none
  | 44 => match st with
    | (0, x) :: st' => if sht (H 0 0 + 1) = i.2.1 ∧ shl (H 0 0 + 1) = x then some (ls, va (H 0 0 + 1) :: st', hs H 0 0 (H 0 0 + 1)) else none
    | _ => none
  | 46 => some (ls, va i.2.2.1 :: st, H)
  | 47 => match st with
    | (0, n) :: (0, dp) :: (2, e) :: (0, sp) :: (2, c) :: st' => if c ≠ e ∧ sht c = 1 ∧ sht e = 1 ∧ 0 ≤ n ∧ 0 ≤ dp ∧ 0 ≤ sp ∧ sp + n ≤ shl c ∧ dp + n ≤ shl e ∧ wds st' ≤ 8 then some (ls, st', fun a b => if a = e ∧ dp ≤ b ∧ b < dp + n then H c (sp + (b - dp)) else H a b) else none
    | _ => none
  | 48 => match st with
    | (0, j) :: (2, y) :: st' => if y = 999 ∧ 0 ≤ j ∧ j < H 0 1 then some (ls, vi (H 999 j) :: st', H) else none
    | _ => none
  | 49 => match st with
    | (2, y) :: st' => if y = 999 then some (ls, vi (H 0 1) :: st', H) else none
    | _ => none
  | 50 => match st with
    | (2, z) :: st' => if (z = 901 ∨ z = 902) ∧ wds st' ≤ 8 then some (ls, vi ((stx z).length : Nat) :: st', H) else none
    | _ => none
  | 51 => match st with
    | (0, j) :: (2, z) :: st' => if (z = 901 ∨ z = 902) ∧ 0 ≤ j ∧ j < ((stx z).length : Nat) ∧ wds st' ≤ 8 then some (ls, vi ((stx z).getD j.toNat 0) :: st', H) else none
    | _ => none
  | 52 => match st with
    | (2, y) :: st' => if y ≠ 0 ∧ wds st' ≤ 8 then some (ls, st', H) else none
    | _ => none
  | _ => none
def stp (rec : Nat → Nat → List AI → List AV → List AV → Hp → Option (AV × Hp)) (d m : Nat) (is : List AI) (ls st : List AV) (H : Hp) : Option (AV × Hp) :=
  match is with
  | [] => none
  | i :: is' =>
    match i.1 with
    | 14 => match st with
      | (0, x) :: st' => if am_cn i.2.2.1 x 0 = true then rec d m (blk m i.2.1) ls st' H else rec d m is' ls st' H
      | _ => none
    | 15 => match st with
      | (0, y) :: (0, x) :: st' => if am_cn i.2.2.1 x y = true then rec d m (blk m i.2.1) ls st' H else rec d m is' ls st' H
      | _ => none
    | 16 => rec d m (blk m i.2.1) ls st H
    | 17 => rec d m (blk m i.2.1) ls st H
    | 35 => match d with
      | 0 => none
      | d' + 1 => if (i.2.2.1.toNat ≤ st.length ∧ wds (dpr i.2.2.1.toNat st) ≤ 8) ∧ wds (tkr i.2.2.1.toNat st []) ≤ mxl i.2.1 then (match rec d' i.2.1 (blk i.2.1 0) (lcs (mxl i.2.1) (tkr i.2.2.1.toNat st [])) [] H with
        | some (r, H1) => rec d m is' ls (r :: dpr i.2.2.1.toNat st) H1
        | none => none) else none
    | 36 => match d with
      | 0 => none
      | d' + 1 => if ([shc (rcv (tkr i.2.2.1.toNat st []))] = i.2.2.2.map Prod.fst ∧ i.2.2.1.toNat ≤ st.length ∧ wds (dpr i.2.2.1.toNat st) ≤ 8) ∧ wds (tkr i.2.2.1.toNat st []) ≤ mxl i.2.1 then (match rec d' i.2.1 (blk i.2.1 0) (lcs (mxl i.2.1) (tkr i.2.2.1.toNat st [])) [] H with
        | some (r, H1) => rec d m is' ls (r :: dpr i.2.2.1.toNat st) H1
        | none => none) else none
    | 37 => match d with
      | 0 => none
      | d' + 1 => if (i.2.2.1.toNat ≤ st.length ∧ wds (dpr i.2.2.1.toNat st) ≤ 8) ∧ wds (tkr i.2.2.1.toNat st []) ≤ mxl i.2.1 then (match rec d' i.2.1 (blk i.2.1 0) (lcs (mxl i.2.1) (tkr i.2.2.1.toNat st [])) [] H with
        | some (_, H1) => rec d m is' ls (dpr i.2.2.1.toNat st) H1
        | none => none) else none
    | 38 => match d with
      | 0 => none
      | d' + 1 => if ([shc (rcv (tkr i.2.2.1.toNat st []))] = i.2.2.2.map Prod.fst ∧ i.2.2.1.toNat ≤ st.length ∧ wds (dpr i.2.2.1.toNat st) ≤ 8) ∧ wds (tkr i.2.2.1.toNat st []) ≤ mxl i.2.1 then (match rec d' i.2.1 (blk i.2.1 0) (lcs (mxl i.2.1) (tkr i.2.2.1.toNat st [])) [] H with
        | some (_, H1) => rec d m is' ls (dpr i.2.2.1.toNat st) H1
        | none => none) else none
    | 39 => match st with
      | [] => some (vu, H)
      | _ => none
    | 40 => match st with
      | [(0, x)] => some (vi x, H)
      | _ => none
    | 41 => match st with
      | [(1, x)] => some (vl x, H)
      | _ => none
    | 42 => match st with
      | [(0, x)] => if x = 0 ∨ x = 1 then some (vi x, H) else none
      | _ => none
    | 45 => match st with
      | (0, x) :: st' => rec d m (blk m (swl x i.2.1 i.2.2.2)) ls st' H
      | _ => none
    | _ => match am1 i ls st H with
      | some (ls', st', H') => rec d m is' ls' st' H'
      | none => none
def ex : Nat → Nat → Nat → List AI → List AV → List AV → Hp → Option (AV × Hp)
  | 0 => fun _ _ _ _ _ _ => none
  | n + 1 => stp (ex n)
theorem stp_mono {f g : Nat → Nat → List AI → List AV → List AV → Hp → Option (AV × Hp)} (hfg : ∀ d m is ls st H v, f d m is ls st H = some v → g d m is ls st H = some v) {d m : Nat} {is : List AI} {ls st : List AV} {H : Hp} {v : AV × Hp} (h : stp f d m is ls st H = some v) : stp g d m is ls st H = some v := by
  have key : ∀ (d' c : Nat) (l : List AV) (k : AV → List AV) (is' : List AI), (match f d' c (blk c 0) l [] H with
        | some (r, H1) => f d m is' ls (k r) H1
        | none => none) = some v → (match g d' c (blk c 0) l [] H with
        | some (r, H1) => g d m is' ls (k r) H1
        | none => none) = some v := by
    intro d' c l k is' hh
    cases hx : f d' c (blk c 0) l [] H with
    | none => rw [hx] at hh; cases hh
    | some q =>
      obtain ⟨r, H1⟩ := q
      rw [hx] at hh
      rw [hfg _ _ _ _ _ _ _ hx]
      exact hfg _ _ _ _ _ _ _ hh
  unfold stp at h ⊢
  cases is with
  | nil => cases h
  | cons i is' =>
    dsimp only at h ⊢
    split at h
    all_goals first
      | exact h
      | (split at h
         all_goals first
           | exact h
           | (exact hfg _ _ _ _ _ _ _ h)
           | (split at h
              · first | (rename_i hc; rw [if_pos hc]; first | exact hfg _ _ _ _ _ _ _ h | exact key _ _ _ (fun r => r :: _) _ h | exact key _ _ _ (fun _ => _) _ h)
              · first | (rename_i hc; rw [if_neg hc]; exact hfg _ _ _ _ _ _ _ h) | cases h)
           | cases h)
      | exact hfg _ _ _ _ _ _ _ h
theorem ex_mono {n : Nat} : ∀ {d m : Nat} {is : List AI} {ls st : List AV} {H : Hp} {v : AV × Hp}, ex n d m is ls st H = some v → ex (n + 1) d m is ls st H = some v := by
  induction n with
  | zero => intro d m is ls st H v h; cases h
  | succ n ih => intro d m is ls st H v h; exact stp_mono (fun d m is ls st H v hh => ih hh) h
theorem ex_le {n k : Nat} (hk : n ≤ k) {d m : Nat} {is : List AI} {ls st : List AV} {H : Hp} {v : AV × Hp} (h : ex n d m is ls st H = some v) : ex k d m is ls st H = some v := by
  induction hk with
  | refl => exact h
  | step _ ih => exact ex_mono ih
def R (d m : Nat) (is : List AI) (ls st : List AV) (H : Hp) (Q : AV → Hp → Prop) : Prop := ∃ n r H1, ex n d m is ls st H = some (r, H1) ∧ Q r H1
def CC (d m : Nat) (args : List AV) (H : Hp) (Q : AV → Hp → Prop) : Prop := wds args ≤ mxl m ∧ R d m (blk m 0) (lcs (mxl m) args) [] H Q
theorem R.mono {d m : Nat} {is : List AI} {ls st : List AV} {H : Hp} {Q Q' : AV → Hp → Prop} (h : R d m is ls st H Q) (hq : ∀ r H1, Q r H1 → Q' r H1) : R d m is ls st H Q' := by
  obtain ⟨n, r, H1, e, q⟩ := h
  exact ⟨n, r, H1, e, hq _ _ q⟩
theorem CC.mono {d m : Nat} {args : List AV} {H : Hp} {Q Q' : AV → Hp → Prop} (h : CC d m args H Q) (hq : ∀ r H1, Q r H1 → Q' r H1) : CC d m args H Q' := ⟨h.1, R.mono h.2 hq⟩
theorem ite_iff {c c' : Prop} [Decidable c] [Decidable c'] {a b : Prop} (h : c ↔ c') : (if c then a else b) = if c' then a else b := by
  by_cases hc : c
  · rw [if_pos hc, if_pos (h.mp hc)]
  · rw [if_neg hc, if_neg (fun q => hc (h.mpr q))]
section RW
variable {d m : Nat} {is : List AI} {ls st : List AV} {H : Hp} {Q : AV → Hp → Prop}
theorem R_st {d' m' : Nat} {is' : List AI} {ls' st' : List AV} {H' : Hp} (h : ∀ n, ex (n + 1) d m is ls st H = ex n d' m' is' ls' st' H') : R d m is ls st H Q = R d' m' is' ls' st' H' Q := by
  refine propext ⟨fun ⟨n, r, H1, e, q⟩ => ?_, fun ⟨n, r, H1, e, q⟩ => ⟨n + 1, r, H1, (h n).trans e, q⟩⟩
  cases n with
  | zero => cases e
  | succ n => exact ⟨n, r, H1, (h n).symm.trans e, q⟩
theorem R_end {r : AV} {H' : Hp} (h : ∀ n, ex (n + 1) d m is ls st H = some (r, H')) : R d m is ls st H Q = Q r H' := by
  refine propext ⟨fun ⟨n, r1, H1, e, q⟩ => ?_, fun q => ⟨1, r, H', h 0, q⟩⟩
  cases n with
  | zero => cases e
  | succ n =>
    rw [h n] at e
    cases e
    exact q
theorem R_no (h : ∀ n, ex (n + 1) d m is ls st H = none) : R d m is ls st H Q = False := by
  refine propext ⟨fun ⟨n, r1, H1, e, q⟩ => ?_, fun q => q.elim⟩
  cases n with
  | zero => cases e
  | succ n => rw [h n] at e; cases e
theorem R_if {c : Prop} [Decidable c] {is1 is2 : List AI} {st1 st2 : List AV} (h : ∀ n, ex (n + 1) d m is ls st H = if c then ex n d m is1 ls st1 H else ex n d m is2 ls st2 H) : R d m is ls st H Q = if c then R d m is1 ls st1 H Q else R d m is2 ls st2 H Q := by
  by_cases hc : c
  · rw [if_pos hc]; exact R_st (fun n => (h n).trans (if_pos hc))
  · rw [if_neg hc]; exact R_st (fun n => (h n).trans (if_neg hc))
theorem R_and {c : Prop} [Decidable c] {is1 : List AI} {ls1 st1 : List AV} {H1 : Hp} (h : ∀ n, ex (n + 1) d m is ls st H = if c then ex n d m is1 ls1 st1 H1 else none) : R d m is ls st H Q = (c ∧ R d m is1 ls1 st1 H1 Q) := by
  by_cases hc : c
  · rw [R_st (fun n => (h n).trans (if_pos hc))]
    exact propext ⟨fun q => ⟨hc, q⟩, fun q => q.2⟩
  · rw [R_no (fun n => (h n).trans (if_neg hc))]
    exact propext ⟨fun q => q.elim, fun q => hc q.1⟩
theorem R_am {c : Prop} [Decidable c] {i : AI} {is0 : List AI} {ls1 st1 : List AV} {H1 : Hp} (h : ∀ n, ex (n + 1) d m (i :: is0) ls st H = match am1 i ls st H with
      | some (ls', st', H') => ex n d m is0 ls' st' H'
      | none => none) (ha : am1 i ls st H = if c then some (ls1, st1, H1) else none) : R d m (i :: is0) ls st H Q = (c ∧ R d m is0 ls1 st1 H1 Q) := by
  refine R_and (fun n => ?_)
  rw [h, ha]
  by_cases hc : c
  · rw [if_pos hc, if_pos hc]
  · rw [if_neg hc, if_neg hc]
theorem R_call {c d' : Nat} {g : Prop} [Decidable g] {l : List AV} {k : AV → List AV} {is1 : List AI} (h : ∀ n, ex (n + 1) d m is ls st H = if g ∧ wds l ≤ mxl c then (match ex n d' c (blk c 0) (lcs (mxl c) l) [] H with
        | some (r, H1) => ex n d m is1 ls (k r) H1
        | none => none) else none) : R d m is ls st H Q = (g ∧ CC d' c l H (fun r H1 => R d m is1 ls (k r) H1 Q)) := by
  refine propext ⟨fun ⟨n, r, H1, e, q⟩ => ?_, fun ⟨hg, hm, n, r, H1, e, n2, r2, H2, e2, q⟩ => ?_⟩
  · cases n with
    | zero => cases e
    | succ n =>
      rw [h n] at e
      by_cases hg : g ∧ wds l ≤ mxl c
      · rw [if_pos hg] at e
        refine ⟨hg.1, hg.2, ?_⟩
        cases hx : ex n d' c (blk c 0) (lcs (mxl c) l) [] H with
        | none => rw [hx] at e; cases e
        | some w =>
          obtain ⟨r1, H3⟩ := w
          rw [hx] at e
          exact ⟨n, r1, H3, hx, n, r, H1, e, q⟩
      · rw [if_neg hg] at e; cases e
  · refine ⟨n + n2 + 1, r2, H2, ?_, q⟩
    rw [h, if_pos ⟨hg, hm⟩, ex_le (Nat.le_add_right n n2) e]
    exact ex_le (Nat.le_add_left n2 n) e2
theorem r_ic {z : Int} : R d m (x_ic z :: is) ls (st) H Q = R d m is ls (vi z :: st) (H) Q := R_st (fun _ => rfl)
theorem r_lc {z : Int} : R d m (x_lc z :: is) ls (st) H Q = R d m is ls (vl z :: st) (H) Q := R_st (fun _ => rfl)
theorem r_str {z : Int} : R d m (x_str z :: is) ls (st) H Q = R d m is ls (va z :: st) (H) Q := R_st (fun _ => rfl)
theorem r_ld0vi {x : Int} {l : List AV} : R d m (x_ldi 0 :: is) (vi x :: l) st H Q = R d m is (vi x :: l) (vi x :: st) H Q := R_st (fun _ => rfl)
theorem r_ld0vl {x : Int} {l : List AV} : R d m (x_ldl 0 :: is) (vl x :: l) st H Q = R d m is (vl x :: l) (vl x :: st) H Q := R_st (fun _ => rfl)
theorem r_ld0va {x : Int} {l : List AV} : R d m (x_lda 0 :: is) (va x :: l) st H Q = R d m is (va x :: l) (va x :: st) H Q := R_st (fun _ => rfl)
theorem r_ld1vi {a0 : AV} {x : Int} {l : List AV} : R d m (x_ldi 1 :: is) (a0 :: vi x :: l) st H Q = R d m is (a0 :: vi x :: l) (vi x :: st) H Q := R_st (fun _ => rfl)
theorem r_ld1vl {a0 : AV} {x : Int} {l : List AV} : R d m (x_ldl 1 :: is) (a0 :: vl x :: l) st H Q = R d m is (a0 :: vl x :: l) (vl x :: st) H Q := R_st (fun _ => rfl)
theorem r_ld1va {a0 : AV} {x : Int} {l : List AV} : R d m (x_lda 1 :: is) (a0 :: va x :: l) st H Q = R d m is (a0 :: va x :: l) (va x :: st) H Q := R_st (fun _ => rfl)
theorem r_ld2vi {a0 a1 : AV} {x : Int} {l : List AV} : R d m (x_ldi 2 :: is) (a0 :: a1 :: vi x :: l) st H Q = R d m is (a0 :: a1 :: vi x :: l) (vi x :: st) H Q := R_st (fun _ => rfl)
theorem r_ld2vl {a0 a1 : AV} {x : Int} {l : List AV} : R d m (x_ldl 2 :: is) (a0 :: a1 :: vl x :: l) st H Q = R d m is (a0 :: a1 :: vl x :: l) (vl x :: st) H Q := R_st (fun _ => rfl)
theorem r_ld2va {a0 a1 : AV} {x : Int} {l : List AV} : R d m (x_lda 2 :: is) (a0 :: a1 :: va x :: l) st H Q = R d m is (a0 :: a1 :: va x :: l) (va x :: st) H Q := R_st (fun _ => rfl)
theorem r_ld3vi {a0 a1 a2 : AV} {x : Int} {l : List AV} : R d m (x_ldi 3 :: is) (a0 :: a1 :: a2 :: vi x :: l) st H Q = R d m is (a0 :: a1 :: a2 :: vi x :: l) (vi x :: st) H Q := R_st (fun _ => rfl)
theorem r_ld3vl {a0 a1 a2 : AV} {x : Int} {l : List AV} : R d m (x_ldl 3 :: is) (a0 :: a1 :: a2 :: vl x :: l) st H Q = R d m is (a0 :: a1 :: a2 :: vl x :: l) (vl x :: st) H Q := R_st (fun _ => rfl)
theorem r_ld3va {a0 a1 a2 : AV} {x : Int} {l : List AV} : R d m (x_lda 3 :: is) (a0 :: a1 :: a2 :: va x :: l) st H Q = R d m is (a0 :: a1 :: a2 :: va x :: l) (va x :: st) H Q := R_st (fun _ => rfl)
theorem r_ld4vi {a0 a1 a2 a3 : AV} {x : Int} {l : List AV} : R d m (x_ldi 4 :: is) (a0 :: a1 :: a2 :: a3 :: vi x :: l) st H Q = R d m is (a0 :: a1 :: a2 :: a3 :: vi x :: l) (vi x :: st) H Q := R_st (fun _ => rfl)
theorem r_ld4vl {a0 a1 a2 a3 : AV} {x : Int} {l : List AV} : R d m (x_ldl 4 :: is) (a0 :: a1 :: a2 :: a3 :: vl x :: l) st H Q = R d m is (a0 :: a1 :: a2 :: a3 :: vl x :: l) (vl x :: st) H Q := R_st (fun _ => rfl)
theorem r_ld4va {a0 a1 a2 a3 : AV} {x : Int} {l : List AV} : R d m (x_lda 4 :: is) (a0 :: a1 :: a2 :: a3 :: va x :: l) st H Q = R d m is (a0 :: a1 :: a2 :: a3 :: va x :: l) (va x :: st) H Q := R_st (fun _ => rfl)
theorem r_ld5vi {a0 a1 a2 a3 a4 : AV} {x : Int} {l : List AV} : R d m (x_ldi 5 :: is) (a0 :: a1 :: a2 :: a3 :: a4 :: vi x :: l) st H Q = R d m is (a0 :: a1 :: a2 :: a3 :: a4 :: vi x :: l) (vi x :: st) H Q := R_st (fun _ => rfl)
theorem r_ld5vl {a0 a1 a2 a3 a4 : AV} {x : Int} {l : List AV} : R d m (x_ldl 5 :: is) (a0 :: a1 :: a2 :: a3 :: a4 :: vl x :: l) st H Q = R d m is (a0 :: a1 :: a2 :: a3 :: a4 :: vl x :: l) (vl x :: st) H Q := R_st (fun _ => rfl)
theorem r_ld5va {a0 a1 a2 a3 a4 : AV} {x : Int} {l : List AV} : R d m (x_lda 5 :: is) (a0 :: a1 :: a2 :: a3 :: a4 :: va x :: l) st H Q = R d m is (a0 :: a1 :: a2 :: a3 :: a4 :: va x :: l) (va x :: st) H Q := R_st (fun _ => rfl)
theorem r_ld6vi {a0 a1 a2 a3 a4 a5 : AV} {x : Int} {l : List AV} : R d m (x_ldi 6 :: is) (a0 :: a1 :: a2 :: a3 :: a4 :: a5 :: vi x :: l) st H Q = R d m is (a0 :: a1 :: a2 :: a3 :: a4 :: a5 :: vi x :: l) (vi x :: st) H Q := R_st (fun _ => rfl)
theorem r_ld6vl {a0 a1 a2 a3 a4 a5 : AV} {x : Int} {l : List AV} : R d m (x_ldl 6 :: is) (a0 :: a1 :: a2 :: a3 :: a4 :: a5 :: vl x :: l) st H Q = R d m is (a0 :: a1 :: a2 :: a3 :: a4 :: a5 :: vl x :: l) (vl x :: st) H Q := R_st (fun _ => rfl)
theorem r_ld6va {a0 a1 a2 a3 a4 a5 : AV} {x : Int} {l : List AV} : R d m (x_lda 6 :: is) (a0 :: a1 :: a2 :: a3 :: a4 :: a5 :: va x :: l) st H Q = R d m is (a0 :: a1 :: a2 :: a3 :: a4 :: a5 :: va x :: l) (va x :: st) H Q := R_st (fun _ => rfl)
theorem r_ld7vi {a0 a1 a2 a3 a4 a5 a6 : AV} {x : Int} {l : List AV} : R d m (x_ldi 7 :: is) (a0 :: a1 :: a2 :: a3 :: a4 :: a5 :: a6 :: vi x :: l) st H Q = R d m is (a0 :: a1 :: a2 :: a3 :: a4 :: a5 :: a6 :: vi x :: l) (vi x :: st) H Q := R_st (fun _ => rfl)
theorem r_ld7vl {a0 a1 a2 a3 a4 a5 a6 : AV} {x : Int} {l : List AV} : R d m (x_ldl 7 :: is) (a0 :: a1 :: a2 :: a3 :: a4 :: a5 :: a6 :: vl x :: l) st H Q = R d m is (a0 :: a1 :: a2 :: a3 :: a4 :: a5 :: a6 :: vl x :: l) (vl x :: st) H Q := R_st (fun _ => rfl)
theorem r_ld7va {a0 a1 a2 a3 a4 a5 a6 : AV} {x : Int} {l : List AV} : R d m (x_lda 7 :: is) (a0 :: a1 :: a2 :: a3 :: a4 :: a5 :: a6 :: va x :: l) st H Q = R d m is (a0 :: a1 :: a2 :: a3 :: a4 :: a5 :: a6 :: va x :: l) (va x :: st) H Q := R_st (fun _ => rfl)
theorem r_ld8vi {a0 a1 a2 a3 a4 a5 a6 a7 : AV} {x : Int} {l : List AV} : R d m (x_ldi 8 :: is) (a0 :: a1 :: a2 :: a3 :: a4 :: a5 :: a6 :: a7 :: vi x :: l) st H Q = R d m is (a0 :: a1 :: a2 :: a3 :: a4 :: a5 :: a6 :: a7 :: vi x :: l) (vi x :: st) H Q := R_st (fun _ => rfl)
theorem r_ld8vl {a0 a1 a2 a3 a4 a5 a6 a7 : AV} {x : Int} {l : List AV} : R d m (x_ldl 8 :: is) (a0 :: a1 :: a2 :: a3 :: a4 :: a5 :: a6 :: a7 :: vl x :: l) st H Q = R d m is (a0 :: a1 :: a2 :: a3 :: a4 :: a5 :: a6 :: a7 :: vl x :: l) (vl x :: st) H Q := R_st (fun _ => rfl)
theorem r_ld8va {a0 a1 a2 a3 a4 a5 a6 a7 : AV} {x : Int} {l : List AV} : R d m (x_lda 8 :: is) (a0 :: a1 :: a2 :: a3 :: a4 :: a5 :: a6 :: a7 :: va x :: l) st H Q = R d m is (a0 :: a1 :: a2 :: a3 :: a4 :: a5 :: a6 :: a7 :: va x :: l) (va x :: st) H Q := R_st (fun _ => rfl)
theorem r_ld9vi {a0 a1 a2 a3 a4 a5 a6 a7 a8 : AV} {x : Int} {l : List AV} : R d m (x_ldi 9 :: is) (a0 :: a1 :: a2 :: a3 :: a4 :: a5 :: a6 :: a7 :: a8 :: vi x :: l) st H Q = R d m is (a0 :: a1 :: a2 :: a3 :: a4 :: a5 :: a6 :: a7 :: a8 :: vi x :: l) (vi x :: st) H Q := R_st (fun _ => rfl)
theorem r_ld9vl {a0 a1 a2 a3 a4 a5 a6 a7 a8 : AV} {x : Int} {l : List AV} : R d m (x_ldl 9 :: is) (a0 :: a1 :: a2 :: a3 :: a4 :: a5 :: a6 :: a7 :: a8 :: vl x :: l) st H Q = R d m is (a0 :: a1 :: a2 :: a3 :: a4 :: a5 :: a6 :: a7 :: a8 :: vl x :: l) (vl x :: st) H Q := R_st (fun _ => rfl)
theorem r_ld9va {a0 a1 a2 a3 a4 a5 a6 a7 a8 : AV} {x : Int} {l : List AV} : R d m (x_lda 9 :: is) (a0 :: a1 :: a2 :: a3 :: a4 :: a5 :: a6 :: a7 :: a8 :: va x :: l) st H Q = R d m is (a0 :: a1 :: a2 :: a3 :: a4 :: a5 :: a6 :: a7 :: a8 :: va x :: l) (va x :: st) H Q := R_st (fun _ => rfl)
theorem r_ld10vi {a0 a1 a2 a3 a4 a5 a6 a7 a8 a9 : AV} {x : Int} {l : List AV} : R d m (x_ldi 10 :: is) (a0 :: a1 :: a2 :: a3 :: a4 :: a5 :: a6 :: a7 :: a8 :: a9 :: vi x :: l) st H Q = R d m is (a0 :: a1 :: a2 :: a3 :: a4 :: a5 :: a6 :: a7 :: a8 :: a9 :: vi x :: l) (vi x :: st) H Q := R_st (fun _ => rfl)
theorem r_ld10vl {a0 a1 a2 a3 a4 a5 a6 a7 a8 a9 : AV} {x : Int} {l : List AV} : R d m (x_ldl 10 :: is) (a0 :: a1 :: a2 :: a3 :: a4 :: a5 :: a6 :: a7 :: a8 :: a9 :: vl x :: l) st H Q = R d m is (a0 :: a1 :: a2 :: a3 :: a4 :: a5 :: a6 :: a7 :: a8 :: a9 :: vl x :: l) (vl x :: st) H Q := R_st (fun _ => rfl)
theorem r_ld10va {a0 a1 a2 a3 a4 a5 a6 a7 a8 a9 : AV} {x : Int} {l : List AV} : R d m (x_lda 10 :: is) (a0 :: a1 :: a2 :: a3 :: a4 :: a5 :: a6 :: a7 :: a8 :: a9 :: va x :: l) st H Q = R d m is (a0 :: a1 :: a2 :: a3 :: a4 :: a5 :: a6 :: a7 :: a8 :: a9 :: va x :: l) (va x :: st) H Q := R_st (fun _ => rfl)
theorem r_ld11vi {a0 a1 a2 a3 a4 a5 a6 a7 a8 a9 a10 : AV} {x : Int} {l : List AV} : R d m (x_ldi 11 :: is) (a0 :: a1 :: a2 :: a3 :: a4 :: a5 :: a6 :: a7 :: a8 :: a9 :: a10 :: vi x :: l) st H Q = R d m is (a0 :: a1 :: a2 :: a3 :: a4 :: a5 :: a6 :: a7 :: a8 :: a9 :: a10 :: vi x :: l) (vi x :: st) H Q := R_st (fun _ => rfl)
theorem r_ld11vl {a0 a1 a2 a3 a4 a5 a6 a7 a8 a9 a10 : AV} {x : Int} {l : List AV} : R d m (x_ldl 11 :: is) (a0 :: a1 :: a2 :: a3 :: a4 :: a5 :: a6 :: a7 :: a8 :: a9 :: a10 :: vl x :: l) st H Q = R d m is (a0 :: a1 :: a2 :: a3 :: a4 :: a5 :: a6 :: a7 :: a8 :: a9 :: a10 :: vl x :: l) (vl x :: st) H Q := R_st (fun _ => rfl)
theorem r_ld11va {a0 a1 a2 a3 a4 a5 a6 a7 a8 a9 a10 : AV} {x : Int} {l : List AV} : R d m (x_lda 11 :: is) (a0 :: a1 :: a2 :: a3 :: a4 :: a5 :: a6 :: a7 :: a8 :: a9 :: a10 :: va x :: l) st H Q = R d m is (a0 :: a1 :: a2 :: a3 :: a4 :: a5 :: a6 :: a7 :: a8 :: a9 :: a10 :: va x :: l) (va x :: st) H Q := R_st (fun _ => rfl)
theorem r_ld12vi {a0 a1 a2 a3 a4 a5 a6 a7 a8 a9 a10 a11 : AV} {x : Int} {l : List AV} : R d m (x_ldi 12 :: is) (a0 :: a1 :: a2 :: a3 :: a4 :: a5 :: a6 :: a7 :: a8 :: a9 :: a10 :: a11 :: vi x :: l) st H Q = R d m is (a0 :: a1 :: a2 :: a3 :: a4 :: a5 :: a6 :: a7 :: a8 :: a9 :: a10 :: a11 :: vi x :: l) (vi x :: st) H Q := R_st (fun _ => rfl)
theorem r_ld12vl {a0 a1 a2 a3 a4 a5 a6 a7 a8 a9 a10 a11 : AV} {x : Int} {l : List AV} : R d m (x_ldl 12 :: is) (a0 :: a1 :: a2 :: a3 :: a4 :: a5 :: a6 :: a7 :: a8 :: a9 :: a10 :: a11 :: vl x :: l) st H Q = R d m is (a0 :: a1 :: a2 :: a3 :: a4 :: a5 :: a6 :: a7 :: a8 :: a9 :: a10 :: a11 :: vl x :: l) (vl x :: st) H Q := R_st (fun _ => rfl)
theorem r_ld12va {a0 a1 a2 a3 a4 a5 a6 a7 a8 a9 a10 a11 : AV} {x : Int} {l : List AV} : R d m (x_lda 12 :: is) (a0 :: a1 :: a2 :: a3 :: a4 :: a5 :: a6 :: a7 :: a8 :: a9 :: a10 :: a11 :: va x :: l) st H Q = R d m is (a0 :: a1 :: a2 :: a3 :: a4 :: a5 :: a6 :: a7 :: a8 :: a9 :: a10 :: a11 :: va x :: l) (va x :: st) H Q := R_st (fun _ => rfl)
theorem r_ld13vi {a0 a1 a2 a3 a4 a5 a6 a7 a8 a9 a10 a11 a12 : AV} {x : Int} {l : List AV} : R d m (x_ldi 13 :: is) (a0 :: a1 :: a2 :: a3 :: a4 :: a5 :: a6 :: a7 :: a8 :: a9 :: a10 :: a11 :: a12 :: vi x :: l) st H Q = R d m is (a0 :: a1 :: a2 :: a3 :: a4 :: a5 :: a6 :: a7 :: a8 :: a9 :: a10 :: a11 :: a12 :: vi x :: l) (vi x :: st) H Q := R_st (fun _ => rfl)
theorem r_ld13vl {a0 a1 a2 a3 a4 a5 a6 a7 a8 a9 a10 a11 a12 : AV} {x : Int} {l : List AV} : R d m (x_ldl 13 :: is) (a0 :: a1 :: a2 :: a3 :: a4 :: a5 :: a6 :: a7 :: a8 :: a9 :: a10 :: a11 :: a12 :: vl x :: l) st H Q = R d m is (a0 :: a1 :: a2 :: a3 :: a4 :: a5 :: a6 :: a7 :: a8 :: a9 :: a10 :: a11 :: a12 :: vl x :: l) (vl x :: st) H Q := R_st (fun _ => rfl)
theorem r_ld13va {a0 a1 a2 a3 a4 a5 a6 a7 a8 a9 a10 a11 a12 : AV} {x : Int} {l : List AV} : R d m (x_lda 13 :: is) (a0 :: a1 :: a2 :: a3 :: a4 :: a5 :: a6 :: a7 :: a8 :: a9 :: a10 :: a11 :: a12 :: va x :: l) st H Q = R d m is (a0 :: a1 :: a2 :: a3 :: a4 :: a5 :: a6 :: a7 :: a8 :: a9 :: a10 :: a11 :: a12 :: va x :: l) (va x :: st) H Q := R_st (fun _ => rfl)
theorem r_ld14vi {a0 a1 a2 a3 a4 a5 a6 a7 a8 a9 a10 a11 a12 a13 : AV} {x : Int} {l : List AV} : R d m (x_ldi 14 :: is) (a0 :: a1 :: a2 :: a3 :: a4 :: a5 :: a6 :: a7 :: a8 :: a9 :: a10 :: a11 :: a12 :: a13 :: vi x :: l) st H Q = R d m is (a0 :: a1 :: a2 :: a3 :: a4 :: a5 :: a6 :: a7 :: a8 :: a9 :: a10 :: a11 :: a12 :: a13 :: vi x :: l) (vi x :: st) H Q := R_st (fun _ => rfl)
theorem r_ld14vl {a0 a1 a2 a3 a4 a5 a6 a7 a8 a9 a10 a11 a12 a13 : AV} {x : Int} {l : List AV} : R d m (x_ldl 14 :: is) (a0 :: a1 :: a2 :: a3 :: a4 :: a5 :: a6 :: a7 :: a8 :: a9 :: a10 :: a11 :: a12 :: a13 :: vl x :: l) st H Q = R d m is (a0 :: a1 :: a2 :: a3 :: a4 :: a5 :: a6 :: a7 :: a8 :: a9 :: a10 :: a11 :: a12 :: a13 :: vl x :: l) (vl x :: st) H Q := R_st (fun _ => rfl)
theorem r_ld14va {a0 a1 a2 a3 a4 a5 a6 a7 a8 a9 a10 a11 a12 a13 : AV} {x : Int} {l : List AV} : R d m (x_lda 14 :: is) (a0 :: a1 :: a2 :: a3 :: a4 :: a5 :: a6 :: a7 :: a8 :: a9 :: a10 :: a11 :: a12 :: a13 :: va x :: l) st H Q = R d m is (a0 :: a1 :: a2 :: a3 :: a4 :: a5 :: a6 :: a7 :: a8 :: a9 :: a10 :: a11 :: a12 :: a13 :: va x :: l) (va x :: st) H Q := R_st (fun _ => rfl)
theorem r_ld15vi {a0 a1 a2 a3 a4 a5 a6 a7 a8 a9 a10 a11 a12 a13 a14 : AV} {x : Int} {l : List AV} : R d m (x_ldi 15 :: is) (a0 :: a1 :: a2 :: a3 :: a4 :: a5 :: a6 :: a7 :: a8 :: a9 :: a10 :: a11 :: a12 :: a13 :: a14 :: vi x :: l) st H Q = R d m is (a0 :: a1 :: a2 :: a3 :: a4 :: a5 :: a6 :: a7 :: a8 :: a9 :: a10 :: a11 :: a12 :: a13 :: a14 :: vi x :: l) (vi x :: st) H Q := R_st (fun _ => rfl)
theorem r_ld15vl {a0 a1 a2 a3 a4 a5 a6 a7 a8 a9 a10 a11 a12 a13 a14 : AV} {x : Int} {l : List AV} : R d m (x_ldl 15 :: is) (a0 :: a1 :: a2 :: a3 :: a4 :: a5 :: a6 :: a7 :: a8 :: a9 :: a10 :: a11 :: a12 :: a13 :: a14 :: vl x :: l) st H Q = R d m is (a0 :: a1 :: a2 :: a3 :: a4 :: a5 :: a6 :: a7 :: a8 :: a9 :: a10 :: a11 :: a12 :: a13 :: a14 :: vl x :: l) (vl x :: st) H Q := R_st (fun _ => rfl)
theorem r_ld15va {a0 a1 a2 a3 a4 a5 a6 a7 a8 a9 a10 a11 a12 a13 a14 : AV} {x : Int} {l : List AV} : R d m (x_lda 15 :: is) (a0 :: a1 :: a2 :: a3 :: a4 :: a5 :: a6 :: a7 :: a8 :: a9 :: a10 :: a11 :: a12 :: a13 :: a14 :: va x :: l) st H Q = R d m is (a0 :: a1 :: a2 :: a3 :: a4 :: a5 :: a6 :: a7 :: a8 :: a9 :: a10 :: a11 :: a12 :: a13 :: a14 :: va x :: l) (va x :: st) H Q := R_st (fun _ => rfl)
theorem r_ld16vi {a0 a1 a2 a3 a4 a5 a6 a7 a8 a9 a10 a11 a12 a13 a14 a15 : AV} {x : Int} {l : List AV} : R d m (x_ldi 16 :: is) (a0 :: a1 :: a2 :: a3 :: a4 :: a5 :: a6 :: a7 :: a8 :: a9 :: a10 :: a11 :: a12 :: a13 :: a14 :: a15 :: vi x :: l) st H Q = R d m is (a0 :: a1 :: a2 :: a3 :: a4 :: a5 :: a6 :: a7 :: a8 :: a9 :: a10 :: a11 :: a12 :: a13 :: a14 :: a15 :: vi x :: l) (vi x :: st) H Q := R_st (fun _ => rfl)
theorem r_ld16vl {a0 a1 a2 a3 a4 a5 a6 a7 a8 a9 a10 a11 a12 a13 a14 a15 : AV} {x : Int} {l : List AV} : R d m (x_ldl 16 :: is) (a0 :: a1 :: a2 :: a3 :: a4 :: a5 :: a6 :: a7 :: a8 :: a9 :: a10 :: a11 :: a12 :: a13 :: a14 :: a15 :: vl x :: l) st H Q = R d m is (a0 :: a1 :: a2 :: a3 :: a4 :: a5 :: a6 :: a7 :: a8 :: a9 :: a10 :: a11 :: a12 :: a13 :: a14 :: a15 :: vl x :: l) (vl x :: st) H Q := R_st (fun _ => rfl)
theorem r_ld16va {a0 a1 a2 a3 a4 a5 a6 a7 a8 a9 a10 a11 a12 a13 a14 a15 : AV} {x : Int} {l : List AV} : R d m (x_lda 16 :: is) (a0 :: a1 :: a2 :: a3 :: a4 :: a5 :: a6 :: a7 :: a8 :: a9 :: a10 :: a11 :: a12 :: a13 :: a14 :: a15 :: va x :: l) st H Q = R d m is (a0 :: a1 :: a2 :: a3 :: a4 :: a5 :: a6 :: a7 :: a8 :: a9 :: a10 :: a11 :: a12 :: a13 :: a14 :: a15 :: va x :: l) (va x :: st) H Q := R_st (fun _ => rfl)
theorem r_ld17vi {a0 a1 a2 a3 a4 a5 a6 a7 a8 a9 a10 a11 a12 a13 a14 a15 a16 : AV} {x : Int} {l : List AV} : R d m (x_ldi 17 :: is) (a0 :: a1 :: a2 :: a3 :: a4 :: a5 :: a6 :: a7 :: a8 :: a9 :: a10 :: a11 :: a12 :: a13 :: a14 :: a15 :: a16 :: vi x :: l) st H Q = R d m is (a0 :: a1 :: a2 :: a3 :: a4 :: a5 :: a6 :: a7 :: a8 :: a9 :: a10 :: a11 :: a12 :: a13 :: a14 :: a15 :: a16 :: vi x :: l) (vi x :: st) H Q := R_st (fun _ => rfl)
theorem r_ld17vl {a0 a1 a2 a3 a4 a5 a6 a7 a8 a9 a10 a11 a12 a13 a14 a15 a16 : AV} {x : Int} {l : List AV} : R d m (x_ldl 17 :: is) (a0 :: a1 :: a2 :: a3 :: a4 :: a5 :: a6 :: a7 :: a8 :: a9 :: a10 :: a11 :: a12 :: a13 :: a14 :: a15 :: a16 :: vl x :: l) st H Q = R d m is (a0 :: a1 :: a2 :: a3 :: a4 :: a5 :: a6 :: a7 :: a8 :: a9 :: a10 :: a11 :: a12 :: a13 :: a14 :: a15 :: a16 :: vl x :: l) (vl x :: st) H Q := R_st (fun _ => rfl)
theorem r_ld17va {a0 a1 a2 a3 a4 a5 a6 a7 a8 a9 a10 a11 a12 a13 a14 a15 a16 : AV} {x : Int} {l : List AV} : R d m (x_lda 17 :: is) (a0 :: a1 :: a2 :: a3 :: a4 :: a5 :: a6 :: a7 :: a8 :: a9 :: a10 :: a11 :: a12 :: a13 :: a14 :: a15 :: a16 :: va x :: l) st H Q = R d m is (a0 :: a1 :: a2 :: a3 :: a4 :: a5 :: a6 :: a7 :: a8 :: a9 :: a10 :: a11 :: a12 :: a13 :: a14 :: a15 :: a16 :: va x :: l) (va x :: st) H Q := R_st (fun _ => rfl)
theorem lt_of_dec {a b : Nat} (h : a < b) {α : Type} {x y : α} : (if a < b then x else y) = x := if_pos h
theorem r_s1i {n : Nat} {x : Int} : R d m (x_s1i n :: is) ls (vi x :: st) H Q = (n < ls.length ∧ R d m is (lst1 ls n (vi x)) st H Q) := R_am (fun _ => rfl) rfl
theorem r_s1a {n : Nat} {x : Int} : R d m (x_s1a n :: is) ls (va x :: st) H Q = (n < ls.length ∧ R d m is (lst1 ls n (va x)) st H Q) := R_am (fun _ => rfl) rfl
theorem r_s2 {n : Nat} {x : Int} : R d m (x_s2 n :: is) ls (vl x :: st) H Q = (n + 1 < ls.length ∧ R d m is (lst2 ls n (vl x)) st H Q) := R_am (fun _ => rfl) rfl
theorem r_inc0 {x z : Int} {l : List AV} : R d m (x_inc 0 z :: is) (vi x :: l) st H Q = (0 < (vi x :: l).length ∧ R d m is (lst1 (vi x :: l) 0 (vi (w32 (x + z)))) st H Q) := R_am (fun _ => rfl) rfl
theorem r_inc1 {a0 : AV} {x z : Int} {l : List AV} : R d m (x_inc 1 z :: is) (a0 :: vi x :: l) st H Q = (1 < (a0 :: vi x :: l).length ∧ R d m is (lst1 (a0 :: vi x :: l) 1 (vi (w32 (x + z)))) st H Q) := R_am (fun _ => rfl) rfl
theorem r_inc2 {a0 a1 : AV} {x z : Int} {l : List AV} : R d m (x_inc 2 z :: is) (a0 :: a1 :: vi x :: l) st H Q = (2 < (a0 :: a1 :: vi x :: l).length ∧ R d m is (lst1 (a0 :: a1 :: vi x :: l) 2 (vi (w32 (x + z)))) st H Q) := R_am (fun _ => rfl) rfl
theorem r_inc3 {a0 a1 a2 : AV} {x z : Int} {l : List AV} : R d m (x_inc 3 z :: is) (a0 :: a1 :: a2 :: vi x :: l) st H Q = (3 < (a0 :: a1 :: a2 :: vi x :: l).length ∧ R d m is (lst1 (a0 :: a1 :: a2 :: vi x :: l) 3 (vi (w32 (x + z)))) st H Q) := R_am (fun _ => rfl) rfl
theorem r_inc4 {a0 a1 a2 a3 : AV} {x z : Int} {l : List AV} : R d m (x_inc 4 z :: is) (a0 :: a1 :: a2 :: a3 :: vi x :: l) st H Q = (4 < (a0 :: a1 :: a2 :: a3 :: vi x :: l).length ∧ R d m is (lst1 (a0 :: a1 :: a2 :: a3 :: vi x :: l) 4 (vi (w32 (x + z)))) st H Q) := R_am (fun _ => rfl) rfl
theorem r_inc5 {a0 a1 a2 a3 a4 : AV} {x z : Int} {l : List AV} : R d m (x_inc 5 z :: is) (a0 :: a1 :: a2 :: a3 :: a4 :: vi x :: l) st H Q = (5 < (a0 :: a1 :: a2 :: a3 :: a4 :: vi x :: l).length ∧ R d m is (lst1 (a0 :: a1 :: a2 :: a3 :: a4 :: vi x :: l) 5 (vi (w32 (x + z)))) st H Q) := R_am (fun _ => rfl) rfl
theorem r_inc6 {a0 a1 a2 a3 a4 a5 : AV} {x z : Int} {l : List AV} : R d m (x_inc 6 z :: is) (a0 :: a1 :: a2 :: a3 :: a4 :: a5 :: vi x :: l) st H Q = (6 < (a0 :: a1 :: a2 :: a3 :: a4 :: a5 :: vi x :: l).length ∧ R d m is (lst1 (a0 :: a1 :: a2 :: a3 :: a4 :: a5 :: vi x :: l) 6 (vi (w32 (x + z)))) st H Q) := R_am (fun _ => rfl) rfl
theorem r_inc7 {a0 a1 a2 a3 a4 a5 a6 : AV} {x z : Int} {l : List AV} : R d m (x_inc 7 z :: is) (a0 :: a1 :: a2 :: a3 :: a4 :: a5 :: a6 :: vi x :: l) st H Q = (7 < (a0 :: a1 :: a2 :: a3 :: a4 :: a5 :: a6 :: vi x :: l).length ∧ R d m is (lst1 (a0 :: a1 :: a2 :: a3 :: a4 :: a5 :: a6 :: vi x :: l) 7 (vi (w32 (x + z)))) st H Q) := R_am (fun _ => rfl) rfl
theorem r_inc8 {a0 a1 a2 a3 a4 a5 a6 a7 : AV} {x z : Int} {l : List AV} : R d m (x_inc 8 z :: is) (a0 :: a1 :: a2 :: a3 :: a4 :: a5 :: a6 :: a7 :: vi x :: l) st H Q = (8 < (a0 :: a1 :: a2 :: a3 :: a4 :: a5 :: a6 :: a7 :: vi x :: l).length ∧ R d m is (lst1 (a0 :: a1 :: a2 :: a3 :: a4 :: a5 :: a6 :: a7 :: vi x :: l) 8 (vi (w32 (x + z)))) st H Q) := R_am (fun _ => rfl) rfl
theorem r_inc9 {a0 a1 a2 a3 a4 a5 a6 a7 a8 : AV} {x z : Int} {l : List AV} : R d m (x_inc 9 z :: is) (a0 :: a1 :: a2 :: a3 :: a4 :: a5 :: a6 :: a7 :: a8 :: vi x :: l) st H Q = (9 < (a0 :: a1 :: a2 :: a3 :: a4 :: a5 :: a6 :: a7 :: a8 :: vi x :: l).length ∧ R d m is (lst1 (a0 :: a1 :: a2 :: a3 :: a4 :: a5 :: a6 :: a7 :: a8 :: vi x :: l) 9 (vi (w32 (x + z)))) st H Q) := R_am (fun _ => rfl) rfl
theorem r_inc10 {a0 a1 a2 a3 a4 a5 a6 a7 a8 a9 : AV} {x z : Int} {l : List AV} : R d m (x_inc 10 z :: is) (a0 :: a1 :: a2 :: a3 :: a4 :: a5 :: a6 :: a7 :: a8 :: a9 :: vi x :: l) st H Q = (10 < (a0 :: a1 :: a2 :: a3 :: a4 :: a5 :: a6 :: a7 :: a8 :: a9 :: vi x :: l).length ∧ R d m is (lst1 (a0 :: a1 :: a2 :: a3 :: a4 :: a5 :: a6 :: a7 :: a8 :: a9 :: vi x :: l) 10 (vi (w32 (x + z)))) st H Q) := R_am (fun _ => rfl) rfl
theorem r_inc11 {a0 a1 a2 a3 a4 a5 a6 a7 a8 a9 a10 : AV} {x z : Int} {l : List AV} : R d m (x_inc 11 z :: is) (a0 :: a1 :: a2 :: a3 :: a4 :: a5 :: a6 :: a7 :: a8 :: a9 :: a10 :: vi x :: l) st H Q = (11 < (a0 :: a1 :: a2 :: a3 :: a4 :: a5 :: a6 :: a7 :: a8 :: a9 :: a10 :: vi x :: l).length ∧ R d m is (lst1 (a0 :: a1 :: a2 :: a3 :: a4 :: a5 :: a6 :: a7 :: a8 :: a9 :: a10 :: vi x :: l) 11 (vi (w32 (x + z)))) st H Q) := R_am (fun _ => rfl) rfl
theorem r_inc12 {a0 a1 a2 a3 a4 a5 a6 a7 a8 a9 a10 a11 : AV} {x z : Int} {l : List AV} : R d m (x_inc 12 z :: is) (a0 :: a1 :: a2 :: a3 :: a4 :: a5 :: a6 :: a7 :: a8 :: a9 :: a10 :: a11 :: vi x :: l) st H Q = (12 < (a0 :: a1 :: a2 :: a3 :: a4 :: a5 :: a6 :: a7 :: a8 :: a9 :: a10 :: a11 :: vi x :: l).length ∧ R d m is (lst1 (a0 :: a1 :: a2 :: a3 :: a4 :: a5 :: a6 :: a7 :: a8 :: a9 :: a10 :: a11 :: vi x :: l) 12 (vi (w32 (x + z)))) st H Q) := R_am (fun _ => rfl) rfl
theorem r_inc13 {a0 a1 a2 a3 a4 a5 a6 a7 a8 a9 a10 a11 a12 : AV} {x z : Int} {l : List AV} : R d m (x_inc 13 z :: is) (a0 :: a1 :: a2 :: a3 :: a4 :: a5 :: a6 :: a7 :: a8 :: a9 :: a10 :: a11 :: a12 :: vi x :: l) st H Q = (13 < (a0 :: a1 :: a2 :: a3 :: a4 :: a5 :: a6 :: a7 :: a8 :: a9 :: a10 :: a11 :: a12 :: vi x :: l).length ∧ R d m is (lst1 (a0 :: a1 :: a2 :: a3 :: a4 :: a5 :: a6 :: a7 :: a8 :: a9 :: a10 :: a11 :: a12 :: vi x :: l) 13 (vi (w32 (x + z)))) st H Q) := R_am (fun _ => rfl) rfl
theorem r_inc14 {a0 a1 a2 a3 a4 a5 a6 a7 a8 a9 a10 a11 a12 a13 : AV} {x z : Int} {l : List AV} : R d m (x_inc 14 z :: is) (a0 :: a1 :: a2 :: a3 :: a4 :: a5 :: a6 :: a7 :: a8 :: a9 :: a10 :: a11 :: a12 :: a13 :: vi x :: l) st H Q = (14 < (a0 :: a1 :: a2 :: a3 :: a4 :: a5 :: a6 :: a7 :: a8 :: a9 :: a10 :: a11 :: a12 :: a13 :: vi x :: l).length ∧ R d m is (lst1 (a0 :: a1 :: a2 :: a3 :: a4 :: a5 :: a6 :: a7 :: a8 :: a9 :: a10 :: a11 :: a12 :: a13 :: vi x :: l) 14 (vi (w32 (x + z)))) st H Q) := R_am (fun _ => rfl) rfl
theorem r_inc15 {a0 a1 a2 a3 a4 a5 a6 a7 a8 a9 a10 a11 a12 a13 a14 : AV} {x z : Int} {l : List AV} : R d m (x_inc 15 z :: is) (a0 :: a1 :: a2 :: a3 :: a4 :: a5 :: a6 :: a7 :: a8 :: a9 :: a10 :: a11 :: a12 :: a13 :: a14 :: vi x :: l) st H Q = (15 < (a0 :: a1 :: a2 :: a3 :: a4 :: a5 :: a6 :: a7 :: a8 :: a9 :: a10 :: a11 :: a12 :: a13 :: a14 :: vi x :: l).length ∧ R d m is (lst1 (a0 :: a1 :: a2 :: a3 :: a4 :: a5 :: a6 :: a7 :: a8 :: a9 :: a10 :: a11 :: a12 :: a13 :: a14 :: vi x :: l) 15 (vi (w32 (x + z)))) st H Q) := R_am (fun _ => rfl) rfl
theorem r_inc16 {a0 a1 a2 a3 a4 a5 a6 a7 a8 a9 a10 a11 a12 a13 a14 a15 : AV} {x z : Int} {l : List AV} : R d m (x_inc 16 z :: is) (a0 :: a1 :: a2 :: a3 :: a4 :: a5 :: a6 :: a7 :: a8 :: a9 :: a10 :: a11 :: a12 :: a13 :: a14 :: a15 :: vi x :: l) st H Q = (16 < (a0 :: a1 :: a2 :: a3 :: a4 :: a5 :: a6 :: a7 :: a8 :: a9 :: a10 :: a11 :: a12 :: a13 :: a14 :: a15 :: vi x :: l).length ∧ R d m is (lst1 (a0 :: a1 :: a2 :: a3 :: a4 :: a5 :: a6 :: a7 :: a8 :: a9 :: a10 :: a11 :: a12 :: a13 :: a14 :: a15 :: vi x :: l) 16 (vi (w32 (x + z)))) st H Q) := R_am (fun _ => rfl) rfl
theorem r_inc17 {a0 a1 a2 a3 a4 a5 a6 a7 a8 a9 a10 a11 a12 a13 a14 a15 a16 : AV} {x z : Int} {l : List AV} : R d m (x_inc 17 z :: is) (a0 :: a1 :: a2 :: a3 :: a4 :: a5 :: a6 :: a7 :: a8 :: a9 :: a10 :: a11 :: a12 :: a13 :: a14 :: a15 :: a16 :: vi x :: l) st H Q = (17 < (a0 :: a1 :: a2 :: a3 :: a4 :: a5 :: a6 :: a7 :: a8 :: a9 :: a10 :: a11 :: a12 :: a13 :: a14 :: a15 :: a16 :: vi x :: l).length ∧ R d m is (lst1 (a0 :: a1 :: a2 :: a3 :: a4 :: a5 :: a6 :: a7 :: a8 :: a9 :: a10 :: a11 :: a12 :: a13 :: a14 :: a15 :: a16 :: vi x :: l) 17 (vi (w32 (x + z)))) st H Q) := R_am (fun _ => rfl) rfl
theorem r_iadd {x y : Int} : R d m (x_iadd :: is) ls (vi y :: vi x :: st) H Q = R d m is ls (vi (w32 (x + y)) :: st) (H) Q := R_st (fun _ => rfl)
theorem r_isub {x y : Int} : R d m (x_isub :: is) ls (vi y :: vi x :: st) H Q = R d m is ls (vi (w32 (x - y)) :: st) (H) Q := R_st (fun _ => rfl)
theorem r_imul {x y : Int} : R d m (x_imul :: is) ls (vi y :: vi x :: st) H Q = R d m is ls (vi (w32 (x * y)) :: st) (H) Q := R_st (fun _ => rfl)
theorem r_iand {x y : Int} : R d m (x_iand :: is) ls (vi y :: vi x :: st) H Q = R d m is ls (vi (b_and x y) :: st) (H) Q := R_st (fun _ => rfl)
theorem r_ior {x y : Int} : R d m (x_ior :: is) ls (vi y :: vi x :: st) H Q = R d m is ls (vi (b_or x y) :: st) (H) Q := R_st (fun _ => rfl)
theorem r_ixor {x y : Int} : R d m (x_ixor :: is) ls (vi y :: vi x :: st) H Q = R d m is ls (vi (b_xor x y) :: st) (H) Q := R_st (fun _ => rfl)
theorem r_ishl {x y : Int} : R d m (x_ishl :: is) ls (vi y :: vi x :: st) H Q = R d m is ls (vi (b_shl x y) :: st) (H) Q := R_st (fun _ => rfl)
theorem r_ishr {x y : Int} : R d m (x_ishr :: is) ls (vi y :: vi x :: st) H Q = R d m is ls (vi (b_shr x y) :: st) (H) Q := R_st (fun _ => rfl)
theorem r_iushr {x y : Int} : R d m (x_iushr :: is) ls (vi y :: vi x :: st) H Q = R d m is ls (vi (b_ushr x y) :: st) (H) Q := R_st (fun _ => rfl)
theorem r_ladd {x y : Int} : R d m (x_ladd :: is) ls (vl y :: vl x :: st) H Q = R d m is ls (vl (w64 (x + y)) :: st) (H) Q := R_st (fun _ => rfl)
theorem r_lsub {x y : Int} : R d m (x_lsub :: is) ls (vl y :: vl x :: st) H Q = R d m is ls (vl (w64 (x - y)) :: st) (H) Q := R_st (fun _ => rfl)
theorem r_lmul {x y : Int} : R d m (x_lmul :: is) ls (vl y :: vl x :: st) H Q = R d m is ls (vl (w64 (x * y)) :: st) (H) Q := R_st (fun _ => rfl)
theorem r_land {x y : Int} : R d m (x_land :: is) ls (vl y :: vl x :: st) H Q = R d m is ls (vl (l_and x y) :: st) (H) Q := R_st (fun _ => rfl)
theorem r_lor {x y : Int} : R d m (x_lor :: is) ls (vl y :: vl x :: st) H Q = R d m is ls (vl (l_or x y) :: st) (H) Q := R_st (fun _ => rfl)
theorem r_lxor {x y : Int} : R d m (x_lxor :: is) ls (vl y :: vl x :: st) H Q = R d m is ls (vl (l_xor x y) :: st) (H) Q := R_st (fun _ => rfl)
theorem r_lshl {x y : Int} : R d m (x_lshl :: is) ls (vi y :: vl x :: st) H Q = R d m is ls (vl (l_shl x y) :: st) (H) Q := R_st (fun _ => rfl)
theorem r_lshr {x y : Int} : R d m (x_lshr :: is) ls (vi y :: vl x :: st) H Q = R d m is ls (vl (l_shr x y) :: st) (H) Q := R_st (fun _ => rfl)
theorem r_idiv {x y : Int} : R d m (x_idiv :: is) ls (vi y :: vi x :: st) H Q = ((y ≠ 0) ∧ R d m is ls (vi (w32 (Int.tdiv x y)) :: st) (H) Q) := R_am (fun _ => rfl) rfl
theorem r_irem {x y : Int} : R d m (x_irem :: is) ls (vi y :: vi x :: st) H Q = ((y ≠ 0) ∧ R d m is ls (vi (w32 (Int.tmod x y)) :: st) (H) Q) := R_am (fun _ => rfl) rfl
theorem r_ldiv {x y : Int} : R d m (x_ldiv :: is) ls (vl y :: vl x :: st) H Q = ((y ≠ 0) ∧ R d m is ls (vl (w64 (Int.tdiv x y)) :: st) (H) Q) := R_am (fun _ => rfl) rfl
theorem r_lrem {x y : Int} : R d m (x_lrem :: is) ls (vl y :: vl x :: st) H Q = ((y ≠ 0) ∧ R d m is ls (vl (w64 (Int.tmod x y)) :: st) (H) Q) := R_am (fun _ => rfl) rfl
theorem r_ineg {x : Int} : R d m (x_ineg :: is) ls (vi x :: st) H Q = R d m is ls (vi (w32 (-x)) :: st) (H) Q := R_st (fun _ => rfl)
theorem r_lneg {x : Int} : R d m (x_lneg :: is) ls (vl x :: st) H Q = R d m is ls (vl (w64 (-x)) :: st) (H) Q := R_st (fun _ => rfl)
theorem r_i2l {x : Int} : R d m (x_i2l :: is) ls (vi x :: st) H Q = R d m is ls (vl x :: st) (H) Q := R_st (fun _ => rfl)
theorem r_l2i {x : Int} : R d m (x_l2i :: is) ls (vl x :: st) H Q = R d m is ls (vi (w32 x) :: st) (H) Q := R_st (fun _ => rfl)
theorem r_i2b {x : Int} : R d m (x_i2b :: is) ls (vi x :: st) H Q = R d m is ls (vi (w8 x) :: st) (H) Q := R_st (fun _ => rfl)
theorem r_i2c {x : Int} : R d m (x_i2c :: is) ls (vi x :: st) H Q = R d m is ls (vi (w16u x) :: st) (H) Q := R_st (fun _ => rfl)
theorem r_lcmp {x y : Int} : R d m (x_lcmp :: is) ls (vl y :: vl x :: st) H Q = R d m is ls (vi (cmp3 x y) :: st) (H) Q := R_st (fun _ => rfl)
theorem r_ifeq {n : Nat} {x : Int} : R d m (x_ifeq n :: is) ls (vi x :: st) H Q = if x = 0 then R d m (blk m n) ls st H Q else R d m is ls st H Q := (R_if (c := am_cn 0 x 0 = true) (fun _ => rfl)).trans (ite_iff (show am_cn 0 x 0 = true ↔ x = 0 from ⟨fun h => of_decide_eq_true h, fun h => decide_eq_true h⟩))
theorem r_iceq {n : Nat} {x y : Int} : R d m (x_iceq n :: is) ls (vi y :: vi x :: st) H Q = if x = y then R d m (blk m n) ls st H Q else R d m is ls st H Q := (R_if (c := am_cn 0 x y = true) (fun _ => rfl)).trans (ite_iff (show am_cn 0 x y = true ↔ x = y from ⟨fun h => of_decide_eq_true h, fun h => decide_eq_true h⟩))
theorem r_ifne {n : Nat} {x : Int} : R d m (x_ifne n :: is) ls (vi x :: st) H Q = if x ≠ 0 then R d m (blk m n) ls st H Q else R d m is ls st H Q := (R_if (c := am_cn 1 x 0 = true) (fun _ => rfl)).trans (ite_iff (show am_cn 1 x 0 = true ↔ x ≠ 0 from ⟨fun h => of_decide_eq_true h, fun h => decide_eq_true h⟩))
theorem r_icne {n : Nat} {x y : Int} : R d m (x_icne n :: is) ls (vi y :: vi x :: st) H Q = if x ≠ y then R d m (blk m n) ls st H Q else R d m is ls st H Q := (R_if (c := am_cn 1 x y = true) (fun _ => rfl)).trans (ite_iff (show am_cn 1 x y = true ↔ x ≠ y from ⟨fun h => of_decide_eq_true h, fun h => decide_eq_true h⟩))
theorem r_iflt {n : Nat} {x : Int} : R d m (x_iflt n :: is) ls (vi x :: st) H Q = if x < 0 then R d m (blk m n) ls st H Q else R d m is ls st H Q := (R_if (c := am_cn 2 x 0 = true) (fun _ => rfl)).trans (ite_iff (show am_cn 2 x 0 = true ↔ x < 0 from ⟨fun h => of_decide_eq_true h, fun h => decide_eq_true h⟩))
theorem r_iclt {n : Nat} {x y : Int} : R d m (x_iclt n :: is) ls (vi y :: vi x :: st) H Q = if x < y then R d m (blk m n) ls st H Q else R d m is ls st H Q := (R_if (c := am_cn 2 x y = true) (fun _ => rfl)).trans (ite_iff (show am_cn 2 x y = true ↔ x < y from ⟨fun h => of_decide_eq_true h, fun h => decide_eq_true h⟩))
theorem r_ifge {n : Nat} {x : Int} : R d m (x_ifge n :: is) ls (vi x :: st) H Q = if 0 ≤ x then R d m (blk m n) ls st H Q else R d m is ls st H Q := (R_if (c := am_cn 3 x 0 = true) (fun _ => rfl)).trans (ite_iff (show am_cn 3 x 0 = true ↔ 0 ≤ x from ⟨fun h => of_decide_eq_true h, fun h => decide_eq_true h⟩))
theorem r_icge {n : Nat} {x y : Int} : R d m (x_icge n :: is) ls (vi y :: vi x :: st) H Q = if y ≤ x then R d m (blk m n) ls st H Q else R d m is ls st H Q := (R_if (c := am_cn 3 x y = true) (fun _ => rfl)).trans (ite_iff (show am_cn 3 x y = true ↔ y ≤ x from ⟨fun h => of_decide_eq_true h, fun h => decide_eq_true h⟩))
theorem r_ifgt {n : Nat} {x : Int} : R d m (x_ifgt n :: is) ls (vi x :: st) H Q = if 0 < x then R d m (blk m n) ls st H Q else R d m is ls st H Q := (R_if (c := am_cn 4 x 0 = true) (fun _ => rfl)).trans (ite_iff (show am_cn 4 x 0 = true ↔ 0 < x from ⟨fun h => of_decide_eq_true h, fun h => decide_eq_true h⟩))
theorem r_icgt {n : Nat} {x y : Int} : R d m (x_icgt n :: is) ls (vi y :: vi x :: st) H Q = if y < x then R d m (blk m n) ls st H Q else R d m is ls st H Q := (R_if (c := am_cn 4 x y = true) (fun _ => rfl)).trans (ite_iff (show am_cn 4 x y = true ↔ y < x from ⟨fun h => of_decide_eq_true h, fun h => decide_eq_true h⟩))
theorem r_ifle {n : Nat} {x : Int} : R d m (x_ifle n :: is) ls (vi x :: st) H Q = if x ≤ 0 then R d m (blk m n) ls st H Q else R d m is ls st H Q := (R_if (c := am_cn 5 x 0 = true) (fun _ => rfl)).trans (ite_iff (show am_cn 5 x 0 = true ↔ x ≤ 0 from ⟨fun h => of_decide_eq_true h, fun h => decide_eq_true h⟩))
theorem r_icle {n : Nat} {x y : Int} : R d m (x_icle n :: is) ls (vi y :: vi x :: st) H Q = if x ≤ y then R d m (blk m n) ls st H Q else R d m is ls st H Q := (R_if (c := am_cn 5 x y = true) (fun _ => rfl)).trans (ite_iff (show am_cn 5 x y = true ↔ x ≤ y from ⟨fun h => of_decide_eq_true h, fun h => decide_eq_true h⟩))
theorem r_go {n : Nat} : R d m (x_go n :: is) ls st H Q = R d m (blk m n) ls st H Q := R_st (fun _ => rfl)
theorem r_fall {n : Nat} : R d m (x_fall n :: is) ls st H Q = R d m (blk m n) ls st H Q := R_st (fun _ => rfl)
theorem r_gi {k e c : Int} : R d m (x_gi k e :: is) ls (va c :: st) H Q = ((shc c = e) ∧ R d m is ls (vi (H c k) :: st) (H) Q) := R_am (fun _ => rfl) rfl
theorem r_gl {k e c : Int} : R d m (x_gl k e :: is) ls (va c :: st) H Q = ((shc c = e) ∧ R d m is ls (vl (H c k) :: st) (H) Q) := R_am (fun _ => rfl) rfl
theorem r_ga {k e c : Int} : R d m (x_ga k e :: is) ls (va c :: st) H Q = ((shc c = e) ∧ R d m is ls (va (H c k) :: st) (H) Q) := R_am (fun _ => rfl) rfl
theorem r_pi {k e c x : Int} : R d m (x_pi k e :: is) ls (vi x :: va c :: st) H Q = ((shc c = e) ∧ R d m is ls (st) (hs H c k x) Q) := R_am (fun _ => rfl) rfl
theorem r_pl {k e c x : Int} : R d m (x_pl k e :: is) ls (vl x :: va c :: st) H Q = ((shc c = e) ∧ R d m is ls (st) (hs H c k x) Q) := R_am (fun _ => rfl) rfl
theorem r_pa {k e c x : Int} : R d m (x_pa k e :: is) ls (va x :: va c :: st) H Q = ((shc c = e) ∧ R d m is ls (st) (hs H c k x) Q) := R_am (fun _ => rfl) rfl
theorem r_pz {k e c x : Int} : R d m (x_pz k e :: is) ls (vi x :: va c :: st) H Q = ((shc c = e ∧ (x = 0 ∨ x = 1)) ∧ R d m is ls (st) (hs H c k x) Q) := R_am (fun _ => rfl) rfl
theorem r_ali {j c : Int} : R d m (x_ali :: is) ls (vi j :: va c :: st) H Q = ((sht c = 1 ∧ 0 ≤ j ∧ j < shl c) ∧ R d m is ls (vi (H c j) :: st) (H) Q) := R_am (fun _ => rfl) rfl
theorem r_all {j c : Int} : R d m (x_all :: is) ls (vi j :: va c :: st) H Q = ((sht c = 2 ∧ 0 ≤ j ∧ j < shl c) ∧ R d m is ls (vl (H c j) :: st) (H) Q) := R_am (fun _ => rfl) rfl
theorem r_alb {j c : Int} : R d m (x_alb :: is) ls (vi j :: va c :: st) H Q = ((sht c = 3 ∧ 0 ≤ j ∧ j < shl c) ∧ R d m is ls (vi (H c j) :: st) (H) Q) := R_am (fun _ => rfl) rfl
theorem r_alc {j c : Int} : R d m (x_alc :: is) ls (vi j :: va c :: st) H Q = ((sht c = 4 ∧ 0 ≤ j ∧ j < shl c) ∧ R d m is ls (vi (H c j) :: st) (H) Q) := R_am (fun _ => rfl) rfl
theorem r_asi {j c x : Int} : R d m (x_asi :: is) ls (vi x :: vi j :: va c :: st) H Q = ((sht c = 1 ∧ 0 ≤ j ∧ j < shl c) ∧ R d m is ls (st) (hs H c j x) Q) := R_am (fun _ => rfl) rfl
theorem r_asl {j c x : Int} : R d m (x_asl :: is) ls (vl x :: vi j :: va c :: st) H Q = ((sht c = 2 ∧ 0 ≤ j ∧ j < shl c) ∧ R d m is ls (st) (hs H c j x) Q) := R_am (fun _ => rfl) rfl
theorem r_asb {j c x : Int} : R d m (x_asb :: is) ls (vi x :: vi j :: va c :: st) H Q = ((sht c = 3 ∧ 0 ≤ j ∧ j < shl c) ∧ R d m is ls (st) (hs H c j (w8 x)) Q) := R_am (fun _ => rfl) rfl
theorem r_asc {j c x : Int} : R d m (x_asc :: is) ls (vi x :: vi j :: va c :: st) H Q = ((sht c = 4 ∧ 0 ≤ j ∧ j < shl c) ∧ R d m is ls (st) (hs H c j (w16u x)) Q) := R_am (fun _ => rfl) rfl
theorem r_len {c : Int} : R d m (x_len :: is) ls (va c :: st) H Q = ((sht c ≠ 0) ∧ R d m is ls (vi (shl c) :: st) (H) Q) := R_am (fun _ => rfl) rfl
theorem r_dupi {x : Int} : R d m (x_dup :: is) ls (vi x :: st) H Q = R d m is ls (vi x :: vi x :: st) (H) Q := R_st (fun _ => rfl)
theorem r_dupa {x : Int} : R d m (x_dup :: is) ls (va x :: st) H Q = R d m is ls (va x :: va x :: st) (H) Q := R_st (fun _ => rfl)
theorem r_dup2 {x y : Int} : R d m (x_dup2 :: is) ls (vi x :: va y :: st) H Q = R d m is ls (vi x :: va y :: vi x :: va y :: st) (H) Q := R_st (fun _ => rfl)
theorem r_dup2l {x : Int} : R d m (x_dup2 :: is) ls (vl x :: st) H Q = R d m is ls (vl x :: vl x :: st) (H) Q := R_st (fun _ => rfl)
theorem r_pop {x : Int} : R d m (x_pop :: is) ls (vi x :: st) H Q = R d m is ls (st) (H) Q := R_st (fun _ => rfl)
theorem r_new {e : Int} : R d m (x_new e :: is) ls (st) H Q = ((shc (H 0 0 + 1) = e) ∧ R d m is ls (va (H 0 0 + 1) :: st) (hs H 0 0 (H 0 0 + 1)) Q) := R_am (fun _ => rfl) rfl
theorem r_nw {t : Nat} {x : Int} : R d m (x_nw t :: is) ls (vi x :: st) H Q = ((sht (H 0 0 + 1) = t ∧ shl (H 0 0 + 1) = x) ∧ R d m is ls (va (H 0 0 + 1) :: st) (hs H 0 0 (H 0 0 + 1)) Q) := R_am (fun _ => rfl) rfl
theorem r_acp {n dp e sp c : Int} : R d m (x_acp :: is) ls (vi n :: vi dp :: va e :: vi sp :: va c :: st) H Q = ((c ≠ e ∧ sht c = 1 ∧ sht e = 1 ∧ 0 ≤ n ∧ 0 ≤ dp ∧ 0 ≤ sp ∧ sp + n ≤ shl c ∧ dp + n ≤ shl e ∧ wds st ≤ 8) ∧ R d m is ls (st) (fun a b => if a = e ∧ dp ≤ b ∧ b < dp + n then H c (sp + (b - dp)) else H a b) Q) := R_am (fun _ => rfl) rfl
theorem r_scl {j c : Int} : R d m (x_scl :: is) ls (vi j :: va c :: st) H Q = ((c = 999 ∧ 0 ≤ j ∧ j < H 0 1) ∧ R d m is ls (vi (H 999 j) :: st) (H) Q) := R_am (fun _ => rfl) rfl
theorem r_scn {c : Int} : R d m (x_scn :: is) ls (va c :: st) H Q = ((c = 999) ∧ R d m is ls (vi (H 0 1) :: st) (H) Q) := R_am (fun _ => rfl) rfl
theorem r_sln {z : Int} : R d m (x_sln :: is) ls (va z :: st) H Q = (((z = 901 ∨ z = 902) ∧ wds st ≤ 8) ∧ R d m is ls (vi ((stx z).length : Nat) :: st) (H) Q) := R_am (fun _ => rfl) rfl
theorem r_sch {j z : Int} : R d m (x_sch :: is) ls (vi j :: va z :: st) H Q = (((z = 901 ∨ z = 902) ∧ 0 ≤ j ∧ j < ((stx z).length : Nat) ∧ wds st ≤ 8) ∧ R d m is ls (vi ((stx z).getD j.toNat 0) :: st) (H) Q) := R_am (fun _ => rfl) rfl
theorem r_obj {x : Int} : R d m (x_obj :: is) ls (va x :: st) H Q = ((x ≠ 0 ∧ wds st ≤ 8) ∧ R d m is ls (st) (H) Q) := R_am (fun _ => rfl) rfl
theorem r_ret : R d m (x_ret :: is) ls [] H Q = Q vu H := R_end (fun _ => rfl)
theorem r_ri {x : Int} : R d m (x_ri :: is) ls [vi x] H Q = Q (vi x) H := R_end (fun _ => rfl)
theorem r_rl {x : Int} : R d m (x_rl :: is) ls [vl x] H Q = Q (vl x) H := R_end (fun _ => rfl)
theorem r_rz {x : Int} : R d m (x_rz :: is) ls [vi x] H Q = ((x = 0 ∨ x = 1) ∧ Q (vi x) H) := by
  by_cases hc : x = 0 ∨ x = 1
  · rw [R_end (is := x_rz :: is) (ls := ls) (st := [vi x]) (H := H) (r := vi x) (H' := H) (fun n => (show ex (n + 1) d m (x_rz :: is) ls [vi x] H = if x = 0 ∨ x = 1 then some (vi x, H) else none from rfl).trans (if_pos hc))]
    exact propext ⟨fun q => ⟨hc, q⟩, fun q => q.2⟩
  · rw [R_no (is := x_rz :: is) (ls := ls) (st := [vi x]) (H := H) (fun n => (show ex (n + 1) d m (x_rz :: is) ls [vi x] H = if x = 0 ∨ x = 1 then some (vi x, H) else none from rfl).trans (if_neg hc))]
    exact propext ⟨fun q => q.elim, fun q => hc q.1⟩
/-- a switch -/
def RSW (d m : Nat) (ls st : List AV) (H : Hp) (Q : AV → Hp → Prop) (x : Int) (n : Nat) : List (Int × Nat) → Prop
  | [] => R d m (blk m n) ls st H Q
  | q :: l => if x = q.1 then R d m (blk m q.2) ls st H Q else RSW d m ls st H Q x n l
theorem RSW_eq {x : Int} {n : Nat} : ∀ l : List (Int × Nat), R d m (blk m (swl x n l)) ls st H Q = RSW d m ls st H Q x n l
  | [] => rfl
  | q :: l => by
    unfold swl RSW
    by_cases hx : x = q.1
    · rw [if_pos hx, if_pos hx]
    · rw [if_neg hx, if_neg hx]; exact RSW_eq l
theorem RSW_n {x : Int} {n : Nat} : RSW d m ls st H Q x n [] = R d m (blk m n) ls st H Q := rfl
theorem RSW_c {x a : Int} {n k : Nat} {l : List (Int × Nat)} : RSW d m ls st H Q x n ((a, k) :: l) = if x = a then R d m (blk m k) ls st H Q else RSW d m ls st H Q x n l := rfl
theorem r_sw {x : Int} {n : Nat} {q : List (Int × Nat)} : R d m (x_sw n q :: is) ls (vi x :: st) H Q = RSW d m ls st H Q x n q := (R_st (fun _ => rfl)).trans (RSW_eq q)
theorem r_lsw {x : Int} {n : Nat} {q : List (Int × Nat)} : R d m (x_lsw n q :: is) ls (vi x :: st) H Q = RSW d m ls st H Q x n q := (R_st (fun _ => rfl)).trans (RSW_eq q)
theorem r_call {c z : Nat} : R (d + 1) m (x_call c z :: is) ls st H Q = ((z ≤ st.length ∧ wds (dpr z st) ≤ 8) ∧ CC d c (tkr z st []) H (fun r H1 => R (d + 1) m is ls (r :: dpr z st) H1 Q)) := R_call (fun _ => rfl)
theorem r_call0 {c z : Nat} : R (d + 1) m (x_call0 c z :: is) ls st H Q = ((z ≤ st.length ∧ wds (dpr z st) ≤ 8) ∧ CC d c (tkr z st []) H (fun _ H1 => R (d + 1) m is ls (dpr z st) H1 Q)) := R_call (k := fun _ => dpr z st) (fun _ => rfl)
theorem sing_eq {a b : Int} {P : Prop} : ([a] = [b] ∧ P) = (a = b ∧ P) := propext ⟨fun h => ⟨(List.cons.inj h.1).1, h.2⟩, fun h => ⟨by rw [h.1], h.2⟩⟩
theorem r_calv {c z : Nat} {e : Int} : R (d + 1) m (x_calv c z e :: is) ls st H Q = ((shc (rcv (tkr z st [])) = e ∧ z ≤ st.length ∧ wds (dpr z st) ≤ 8) ∧ CC d c (tkr z st []) H (fun r H1 => R (d + 1) m is ls (r :: dpr z st) H1 Q)) := (R_call (fun _ => rfl)).trans (by rw [← sing_eq]; rfl)
theorem r_cals {c z : Nat} {e : Int} : R (d + 1) m (x_cals c z e :: is) ls st H Q = ((shc (rcv (tkr z st [])) = e ∧ z ≤ st.length ∧ wds (dpr z st) ≤ 8) ∧ CC d c (tkr z st []) H (fun r H1 => R (d + 1) m is ls (r :: dpr z st) H1 Q)) := (R_call (fun _ => rfl)).trans (by rw [← sing_eq]; rfl)
theorem r_calv0 {c z : Nat} {e : Int} : R (d + 1) m (x_calv0 c z e :: is) ls st H Q = ((shc (rcv (tkr z st [])) = e ∧ z ≤ st.length ∧ wds (dpr z st) ≤ 8) ∧ CC d c (tkr z st []) H (fun _ H1 => R (d + 1) m is ls (dpr z st) H1 Q)) := (R_call (k := fun _ => dpr z st) (fun _ => rfl)).trans (by rw [← sing_eq]; rfl)
theorem r_cals0 {c z : Nat} {e : Int} : R (d + 1) m (x_cals0 c z e :: is) ls st H Q = ((shc (rcv (tkr z st [])) = e ∧ z ≤ st.length ∧ wds (dpr z st) ≤ 8) ∧ CC d c (tkr z st []) H (fun _ H1 => R (d + 1) m is ls (dpr z st) H1 Q)) := (R_call (k := fun _ => dpr z st) (fun _ => rfl)).trans (by rw [← sing_eq]; rfl)
end RW
theorem wds_0 : wds [] = 0 := rfl
theorem wds_i {x : Int} {l : List AV} : wds (vi x :: l) = wds l + 1 := rfl
theorem wds_a {x : Int} {l : List AV} : wds (va x :: l) = wds l + 1 := rfl
theorem wds_l {x : Int} {l : List AV} : wds (vl x :: l) = wds l + 2 := rfl
theorem tkr_0 {st acc : List AV} : tkr 0 st acc = acc := by cases st <;> rfl
theorem tkr_s {n : Nat} {a : AV} {st acc : List AV} : tkr (n + 1) (a :: st) acc = tkr n st (a :: acc) := rfl
theorem dpr_0 {st : List AV} : dpr 0 st = st := by cases st <;> rfl
theorem dpr_s {n : Nat} {a : AV} {st : List AV} : dpr (n + 1) (a :: st) = dpr n st := rfl
theorem rcv_c {x : Int} {l : List AV} : rcv (va x :: l) = x := rfl
theorem lst1_0 {a v : AV} {l : List AV} : lst1 (a :: l) 0 v = v :: l := rfl
theorem lst1_1i {x : Int} {v : AV} {l : List AV} : lst1 (vi x :: l) 1 v = vi x :: lst1 l 0 v := rfl
theorem lst1_1a {x : Int} {v : AV} {l : List AV} : lst1 (va x :: l) 1 v = va x :: lst1 l 0 v := rfl
theorem lst1_1u {v : AV} {l : List AV} : lst1 (vu :: l) 1 v = vu :: lst1 l 0 v := rfl
theorem lst1_1l {x : Int} {v : AV} {l : List AV} : lst1 (vl x :: l) 1 v = vu :: lst1 l 0 v := rfl
theorem lst1_s {n : Nat} {a v : AV} {l : List AV} : lst1 (a :: l) (n + 2) v = a :: lst1 l (n + 1) v := rfl
theorem lst2_0 {a b v : AV} {l : List AV} : lst2 (a :: b :: l) 0 v = v :: vu :: l := rfl
theorem lst2_1i {x : Int} {b v : AV} {l : List AV} : lst2 (vi x :: b :: l) 1 v = vi x :: lst2 (b :: l) 0 v := rfl
theorem lst2_1a {x : Int} {b v : AV} {l : List AV} : lst2 (va x :: b :: l) 1 v = va x :: lst2 (b :: l) 0 v := rfl
theorem lst2_1u {b v : AV} {l : List AV} : lst2 (vu :: b :: l) 1 v = vu :: lst2 (b :: l) 0 v := rfl
theorem lst2_1l {x : Int} {b v : AV} {l : List AV} : lst2 (vl x :: b :: l) 1 v = vu :: lst2 (b :: l) 0 v := rfl
theorem lst2_s {n : Nat} {a b v : AV} {l : List AV} : lst2 (a :: b :: l) (n + 2) v = a :: lst2 (b :: l) (n + 1) v := rfl
theorem c3_lt {x y : Int} : (cmp3 x y < 0) = (x < y) := by unfold cmp3; apply propext; split <;> (try split) <;> omega
theorem c3_ge {x y : Int} : (0 ≤ cmp3 x y) = (y ≤ x) := by unfold cmp3; apply propext; split <;> (try split) <;> omega
theorem c3_gt {x y : Int} : (0 < cmp3 x y) = (y < x) := by unfold cmp3; apply propext; split <;> (try split) <;> omega
theorem c3_le {x y : Int} : (cmp3 x y ≤ 0) = (x ≤ y) := by unfold cmp3; apply propext; split <;> (try split) <;> omega
theorem c3_eq {x y : Int} : (cmp3 x y = 0) = (x = y) := by unfold cmp3; apply propext; split <;> (try split) <;> omega
theorem hs_same {H : Hp} {c j v : Int} : hs H c j v c j = v := if_pos ⟨rfl, rfl⟩
theorem hs_app {H : Hp} {c j v a b : Int} : hs H c j v a b = if a = c ∧ b = j then v else H a b := rfl
theorem en_JK_bitCount {d : Nat} {p0 : Int} {H : Hp} {Q : AV → Hp → Prop} : CC d JK_bitCount [vi p0] H Q = R d JK_bitCount k_JK_bitCount_0 [vi p0] [] H Q := propext ⟨fun h => h.2, fun h => ⟨Nat.le_of_ble_eq_true rfl, h⟩⟩
theorem en_JK_floorDiv {d : Nat} {p0 p1 : Int} {H : Hp} {Q : AV → Hp → Prop} : CC d JK_floorDiv [vl p0, vl p1] H Q = R d JK_floorDiv k_JK_floorDiv_0 [vl p0, vu, vl p1, vu, vu, vu] [] H Q := propext ⟨fun h => h.2, fun h => ⟨Nat.le_of_ble_eq_true rfl, h⟩⟩
theorem en_JK_absI {d : Nat} {p0 : Int} {H : Hp} {Q : AV → Hp → Prop} : CC d JK_absI [vi p0] H Q = R d JK_absI k_JK_absI_0 [vi p0] [] H Q := propext ⟨fun h => h.2, fun h => ⟨Nat.le_of_ble_eq_true rfl, h⟩⟩
theorem en_JK_absL {d : Nat} {p0 : Int} {H : Hp} {Q : AV → Hp → Prop} : CC d JK_absL [vl p0] H Q = R d JK_absL k_JK_absL_0 [vl p0, vu] [] H Q := propext ⟨fun h => h.2, fun h => ⟨Nat.le_of_ble_eq_true rfl, h⟩⟩
theorem en_JK_maxI {d : Nat} {p0 p1 : Int} {H : Hp} {Q : AV → Hp → Prop} : CC d JK_maxI [vi p0, vi p1] H Q = R d JK_maxI k_JK_maxI_0 [vi p0, vi p1] [] H Q := propext ⟨fun h => h.2, fun h => ⟨Nat.le_of_ble_eq_true rfl, h⟩⟩
theorem en_JK_maxL {d : Nat} {p0 p1 : Int} {H : Hp} {Q : AV → Hp → Prop} : CC d JK_maxL [vl p0, vl p1] H Q = R d JK_maxL k_JK_maxL_0 [vl p0, vu, vl p1, vu] [] H Q := propext ⟨fun h => h.2, fun h => ⟨Nat.le_of_ble_eq_true rfl, h⟩⟩
theorem en_JK_minI {d : Nat} {p0 p1 : Int} {H : Hp} {Q : AV → Hp → Prop} : CC d JK_minI [vi p0, vi p1] H Q = R d JK_minI k_JK_minI_0 [vi p0, vi p1] [] H Q := propext ⟨fun h => h.2, fun h => ⟨Nat.le_of_ble_eq_true rfl, h⟩⟩
theorem en_JK_minL {d : Nat} {p0 p1 : Int} {H : Hp} {Q : AV → Hp → Prop} : CC d JK_minL [vl p0, vl p1] H Q = R d JK_minL k_JK_minL_0 [vl p0, vu, vl p1, vu] [] H Q := propext ⟨fun h => h.2, fun h => ⟨Nat.le_of_ble_eq_true rfl, h⟩⟩
theorem en_JK_fillL {d : Nat} {p0 p1 : Int} {H : Hp} {Q : AV → Hp → Prop} : CC d JK_fillL [va p0, vl p1] H Q = R d JK_fillL k_JK_fillL_0 [va p0, vl p1, vu, vu, vu] [] H Q := propext ⟨fun h => h.2, fun h => ⟨Nat.le_of_ble_eq_true rfl, h⟩⟩
theorem en_JK_fillI {d : Nat} {p0 p1 : Int} {H : Hp} {Q : AV → Hp → Prop} : CC d JK_fillI [va p0, vi p1] H Q = R d JK_fillI k_JK_fillI_0 [va p0, vi p1, vu, vu] [] H Q := propext ⟨fun h => h.2, fun h => ⟨Nat.le_of_ble_eq_true rfl, h⟩⟩
theorem en_BT_read {d : Nat} {p0 p1 : Int} {H : Hp} {Q : AV → Hp → Prop} : CC d BT_read [va p0, va p1] H Q = R d BT_read k_BT_read_0 [va p0, va p1, vu] [] H Q := propext ⟨fun h => h.2, fun h => ⟨Nat.le_of_ble_eq_true rfl, h⟩⟩
theorem en_BT_statement {d : Nat} {p0 p1 : Int} {H : Hp} {Q : AV → Hp → Prop} : CC d BT_statement [va p0, va p1] H Q = R d BT_statement k_BT_statement_0 [va p0, va p1, vu, vu] [] H Q := propext ⟨fun h => h.2, fun h => ⟨Nat.le_of_ble_eq_true rfl, h⟩⟩
theorem en_BT_isOneTooMany {d : Nat} {p0 p1 : Int} {H : Hp} {Q : AV → Hp → Prop} : CC d BT_isOneTooMany [va p0, vi p1] H Q = R d BT_isOneTooMany k_BT_isOneTooMany_0 [va p0, vi p1] [] H Q := propext ⟨fun h => h.2, fun h => ⟨Nat.le_of_ble_eq_true rfl, h⟩⟩
theorem en_BT_seatTold {d : Nat} {p0 p1 : Int} {H : Hp} {Q : AV → Hp → Prop} : CC d BT_seatTold [va p0, va p1] H Q = R d BT_seatTold k_BT_seatTold_0 [va p0, va p1, vu] [] H Q := propext ⟨fun h => h.2, fun h => ⟨Nat.le_of_ble_eq_true rfl, h⟩⟩
theorem en_BT_rowerTold {d : Nat} {p0 p1 : Int} {H : Hp} {Q : AV → Hp → Prop} : CC d BT_rowerTold [va p0, va p1] H Q = R d BT_rowerTold k_BT_rowerTold_0 [va p0, va p1, vu] [] H Q := propext ⟨fun h => h.2, fun h => ⟨Nat.le_of_ble_eq_true rfl, h⟩⟩
theorem en_BT_nameTold {d : Nat} {p0 p1 : Int} {H : Hp} {Q : AV → Hp → Prop} : CC d BT_nameTold [va p0, va p1] H Q = R d BT_nameTold k_BT_nameTold_0 [va p0, va p1, vu, vu, vu, vu] [] H Q := propext ⟨fun h => h.2, fun h => ⟨Nat.le_of_ble_eq_true rfl, h⟩⟩
theorem en_BT_isName {d : Nat} {p0 p1 p2 p3 : Int} {H : Hp} {Q : AV → Hp → Prop} : CC d BT_isName [va p0, va p1, vi p2, vi p3] H Q = R d BT_isName k_BT_isName_0 [va p0, va p1, vi p2, vi p3, vu, vu] [] H Q := propext ⟨fun h => h.2, fun h => ⟨Nat.le_of_ble_eq_true rfl, h⟩⟩
theorem en_BT_eachTold {d : Nat} {p0 p1 : Int} {H : Hp} {Q : AV → Hp → Prop} : CC d BT_eachTold [va p0, va p1] H Q = R d BT_eachTold k_BT_eachTold_0 [va p0, va p1] [] H Q := propext ⟨fun h => h.2, fun h => ⟨Nat.le_of_ble_eq_true rfl, h⟩⟩
theorem en_BT_fixTold {d : Nat} {p0 p1 : Int} {H : Hp} {Q : AV → Hp → Prop} : CC d BT_fixTold [va p0, va p1] H Q = R d BT_fixTold k_BT_fixTold_0 [va p0, va p1, vu, vu] [] H Q := propext ⟨fun h => h.2, fun h => ⟨Nat.le_of_ble_eq_true rfl, h⟩⟩
theorem en_BT_wantTold {d : Nat} {p0 p1 : Int} {H : Hp} {Q : AV → Hp → Prop} : CC d BT_wantTold [va p0, va p1] H Q = R d BT_wantTold k_BT_wantTold_0 [va p0, va p1, vu] [] H Q := propext ⟨fun h => h.2, fun h => ⟨Nat.le_of_ble_eq_true rfl, h⟩⟩
theorem en_BT_nearTold {d : Nat} {p0 p1 : Int} {H : Hp} {Q : AV → Hp → Prop} : CC d BT_nearTold [va p0, va p1] H Q = R d BT_nearTold k_BT_nearTold_0 [va p0, va p1] [] H Q := propext ⟨fun h => h.2, fun h => ⟨Nat.le_of_ble_eq_true rfl, h⟩⟩
theorem en_BT_runTold {d : Nat} {p0 p1 : Int} {H : Hp} {Q : AV → Hp → Prop} : CC d BT_runTold [va p0, va p1] H Q = R d BT_runTold k_BT_runTold_0 [va p0, va p1, vu] [] H Q := propext ⟨fun h => h.2, fun h => ⟨Nat.le_of_ble_eq_true rfl, h⟩⟩
theorem en_BT_sidesTold {d : Nat} {p0 p1 : Int} {H : Hp} {Q : AV → Hp → Prop} : CC d BT_sidesTold [va p0, va p1] H Q = R d BT_sidesTold k_BT_sidesTold_0 [va p0, va p1, vu, vu, vu, vu] [] H Q := propext ⟨fun h => h.2, fun h => ⟨Nat.le_of_ble_eq_true rfl, h⟩⟩
theorem en_BT_payTold {d : Nat} {p0 p1 : Int} {H : Hp} {Q : AV → Hp → Prop} : CC d BT_payTold [va p0, va p1] H Q = R d BT_payTold k_BT_payTold_0 [va p0, va p1, vu] [] H Q := propext ⟨fun h => h.2, fun h => ⟨Nat.le_of_ble_eq_true rfl, h⟩⟩
theorem en_CH_init {d : Nat} {p0 : Int} {H : Hp} {Q : AV → Hp → Prop} : CC d CH_init [va p0] H Q = R d CH_init k_CH_init_0 [va p0] [] H Q := propext ⟨fun h => h.2, fun h => ⟨Nat.le_of_ble_eq_true rfl, h⟩⟩
theorem en_CH_fewest {d : Nat} {p0 p1 : Int} {H : Hp} {Q : AV → Hp → Prop} : CC d CH_fewest [va p0, va p1] H Q = R d CH_fewest k_CH_fewest_0 [va p0, va p1, vu, vu] [] H Q := propext ⟨fun h => h.2, fun h => ⟨Nat.le_of_ble_eq_true rfl, h⟩⟩
theorem en_CH_load {d : Nat} {p0 p1 : Int} {H : Hp} {Q : AV → Hp → Prop} : CC d CH_load [va p0, va p1] H Q = R d CH_load k_CH_load_0 [va p0, va p1, vu, vu, vu, vu] [] H Q := propext ⟨fun h => h.2, fun h => ⟨Nat.le_of_ble_eq_true rfl, h⟩⟩
theorem en_CH_canBeLawful {d : Nat} {p0 p1 p2 : Int} {H : Hp} {Q : AV → Hp → Prop} : CC d CH_canBeLawful [va p0, va p1, vi p2] H Q = R d CH_canBeLawful k_CH_canBeLawful_0 [va p0, va p1, vi p2, vu] [] H Q := propext ⟨fun h => h.2, fun h => ⟨Nat.le_of_ble_eq_true rfl, h⟩⟩
theorem en_CH_bySwaps {d : Nat} {p0 p1 p2 p3 p4 : Int} {H : Hp} {Q : AV → Hp → Prop} : CC d CH_bySwaps [va p0, va p1, vi p2, vi p3, vi p4] H Q = R d CH_bySwaps k_CH_bySwaps_0 [va p0, va p1, vi p2, vi p3, vi p4, vu, vu, vu] [] H Q := propext ⟨fun h => h.2, fun h => ⟨Nat.le_of_ble_eq_true rfl, h⟩⟩
theorem en_CH_byTurns {d : Nat} {p0 p1 p2 p3 : Int} {H : Hp} {Q : AV → Hp → Prop} : CC d CH_byTurns [va p0, va p1, vi p2, vi p3] H Q = R d CH_byTurns k_CH_byTurns_0 [va p0, va p1, vi p2, vi p3, vu, vu] [] H Q := propext ⟨fun h => h.2, fun h => ⟨Nat.le_of_ble_eq_true rfl, h⟩⟩
theorem en_CH_isGood {d : Nat} {p0 p1 : Int} {H : Hp} {Q : AV → Hp → Prop} : CC d CH_isGood [va p0, vi p1] H Q = R d CH_isGood k_CH_isGood_0 [va p0, vi p1, vu] [] H Q := propext ⟨fun h => h.2, fun h => ⟨Nat.le_of_ble_eq_true rfl, h⟩⟩
theorem en_CH_exchange {d : Nat} {p0 p1 p2 : Int} {H : Hp} {Q : AV → Hp → Prop} : CC d CH_exchange [va p0, vi p1, vi p2] H Q = R d CH_exchange k_CH_exchange_0 [va p0, vi p1, vi p2, vu, vu, vu, vu] [] H Q := propext ⟨fun h => h.2, fun h => ⟨Nat.le_of_ble_eq_true rfl, h⟩⟩
theorem en_CH_flip {d : Nat} {p0 p1 : Int} {H : Hp} {Q : AV → Hp → Prop} : CC d CH_flip [va p0, vi p1] H Q = R d CH_flip k_CH_flip_0 [va p0, vi p1, vu, vu] [] H Q := propext ⟨fun h => h.2, fun h => ⟨Nat.le_of_ble_eq_true rfl, h⟩⟩
theorem en_CW_init {d : Nat} {p0 : Int} {H : Hp} {Q : AV → Hp → Prop} : CC d CW_init [va p0] H Q = R d CW_init k_CW_init_0 [va p0] [] H Q := propext ⟨fun h => h.2, fun h => ⟨Nat.le_of_ble_eq_true rfl, h⟩⟩
theorem en_CW_board {d : Nat} {p0 p1 : Int} {H : Hp} {Q : AV → Hp → Prop} : CC d CW_board [va p0, va p1] H Q = R d CW_board k_CW_board_0 [va p0, va p1, vu] [] H Q := propext ⟨fun h => h.2, fun h => ⟨Nat.le_of_ble_eq_true rfl, h⟩⟩
theorem en_CW_seatOf {d : Nat} {p0 p1 : Int} {H : Hp} {Q : AV → Hp → Prop} : CC d CW_seatOf [va p0, vi p1] H Q = R d CW_seatOf k_CW_seatOf_0 [va p0, vi p1, vu] [] H Q := propext ⟨fun h => h.2, fun h => ⟨Nat.le_of_ble_eq_true rfl, h⟩⟩
theorem en_CW_sides {d : Nat} {p0 : Int} {H : Hp} {Q : AV → Hp → Prop} : CC d CW_sides [va p0] H Q = R d CW_sides k_CW_sides_0 [va p0, vu, vu] [] H Q := propext ⟨fun h => h.2, fun h => ⟨Nat.le_of_ble_eq_true rfl, h⟩⟩
theorem en_CW_strengthAt {d : Nat} {p0 p1 p2 : Int} {H : Hp} {Q : AV → Hp → Prop} : CC d CW_strengthAt [va p0, vi p1, vi p2] H Q = R d CW_strengthAt k_CW_strengthAt_0 [va p0, vi p1, vi p2] [] H Q := propext ⟨fun h => h.2, fun h => ⟨Nat.le_of_ble_eq_true rfl, h⟩⟩
theorem en_CW_forceIn {d : Nat} {p0 p1 p2 : Int} {H : Hp} {Q : AV → Hp → Prop} : CC d CW_forceIn [va p0, vi p1, vi p2] H Q = R d CW_forceIn k_CW_forceIn_0 [va p0, vi p1, vi p2] [] H Q := propext ⟨fun h => h.2, fun h => ⟨Nat.le_of_ble_eq_true rfl, h⟩⟩
theorem en_CW_leverToSide {d : Nat} {p0 p1 p2 : Int} {H : Hp} {Q : AV → Hp → Prop} : CC d CW_leverToSide [va p0, vi p1, vi p2] H Q = R d CW_leverToSide k_CW_leverToSide_0 [va p0, vi p1, vi p2, vu, vu] [] H Q := propext ⟨fun h => h.2, fun h => ⟨Nat.le_of_ble_eq_true rfl, h⟩⟩
theorem en_CW_swingAt {d : Nat} {p0 p1 p2 : Int} {H : Hp} {Q : AV → Hp → Prop} : CC d CW_swingAt [va p0, vi p1, vi p2] H Q = R d CW_swingAt k_CW_swingAt_0 [va p0, vi p1, vi p2, vu, vu, vu] [] H Q := propext ⟨fun h => h.2, fun h => ⟨Nat.le_of_ble_eq_true rfl, h⟩⟩
theorem en_CW_offAt {d : Nat} {p0 p1 : Int} {H : Hp} {Q : AV → Hp → Prop} : CC d CW_offAt [va p0, vi p1] H Q = R d CW_offAt k_CW_offAt_0 [va p0, vi p1, vu, vu, vu] [] H Q := propext ⟨fun h => h.2, fun h => ⟨Nat.le_of_ble_eq_true rfl, h⟩⟩
theorem en_CW_isGoodAt {d : Nat} {p0 p1 : Int} {H : Hp} {Q : AV → Hp → Prop} : CC d CW_isGoodAt [va p0, vi p1] H Q = R d CW_isGoodAt k_CW_isGoodAt_0 [va p0, vi p1, vu] [] H Q := propext ⟨fun h => h.2, fun h => ⟨Nat.le_of_ble_eq_true rfl, h⟩⟩
theorem en_CW_turnSeat {d : Nat} {p0 p1 : Int} {H : Hp} {Q : AV → Hp → Prop} : CC d CW_turnSeat [va p0, vi p1] H Q = R d CW_turnSeat k_CW_turnSeat_0 [va p0, vi p1] [] H Q := propext ⟨fun h => h.2, fun h => ⟨Nat.le_of_ble_eq_true rfl, h⟩⟩
theorem en_CW_swapRowers {d : Nat} {p0 p1 p2 : Int} {H : Hp} {Q : AV → Hp → Prop} : CC d CW_swapRowers [va p0, vi p1, vi p2] H Q = R d CW_swapRowers k_CW_swapRowers_0 [va p0, vi p1, vi p2] [] H Q := propext ⟨fun h => h.2, fun h => ⟨Nat.le_of_ble_eq_true rfl, h⟩⟩
theorem en_CW_passBy {d : Nat} {p0 p1 : Int} {H : Hp} {Q : AV → Hp → Prop} : CC d CW_passBy [va p0, vi p1] H Q = R d CW_passBy k_CW_passBy_0 [va p0, vi p1] [] H Q := propext ⟨fun h => h.2, fun h => ⟨Nat.le_of_ble_eq_true rfl, h⟩⟩
theorem en_CW_rowOn {d : Nat} {p0 p1 : Int} {H : Hp} {Q : AV → Hp → Prop} : CC d CW_rowOn [va p0, vi p1] H Q = R d CW_rowOn k_CW_rowOn_0 [va p0, vi p1, vu] [] H Q := propext ⟨fun h => h.2, fun h => ⟨Nat.le_of_ble_eq_true rfl, h⟩⟩
theorem en_CW_undoAct {d : Nat} {p0 : Int} {H : Hp} {Q : AV → Hp → Prop} : CC d CW_undoAct [va p0] H Q = R d CW_undoAct k_CW_undoAct_0 [va p0, vu] [] H Q := propext ⟨fun h => h.2, fun h => ⟨Nat.le_of_ble_eq_true rfl, h⟩⟩
theorem en_CW_writeImage {d : Nat} {p0 : Int} {H : Hp} {Q : AV → Hp → Prop} : CC d CW_writeImage [va p0] H Q = R d CW_writeImage k_CW_writeImage_0 [va p0, vu, vu] [] H Q := propext ⟨fun h => h.2, fun h => ⟨Nat.le_of_ble_eq_true rfl, h⟩⟩
theorem en_CW_takeImage {d : Nat} {p0 p1 : Int} {H : Hp} {Q : AV → Hp → Prop} : CC d CW_takeImage [va p0, va p1] H Q = R d CW_takeImage k_CW_takeImage_0 [va p0, va p1, vu] [] H Q := propext ⟨fun h => h.2, fun h => ⟨Nat.le_of_ble_eq_true rfl, h⟩⟩
theorem en_CW_isImage {d : Nat} {p0 p1 : Int} {H : Hp} {Q : AV → Hp → Prop} : CC d CW_isImage [va p0, va p1] H Q = R d CW_isImage k_CW_isImage_0 [va p0, va p1, vu, vu, vu] [] H Q := propext ⟨fun h => h.2, fun h => ⟨Nat.le_of_ble_eq_true rfl, h⟩⟩
theorem en_CW_rowersCanSitSo {d : Nat} {p0 p1 : Int} {H : Hp} {Q : AV → Hp → Prop} : CC d CW_rowersCanSitSo [va p0, va p1] H Q = R d CW_rowersCanSitSo k_CW_rowersCanSitSo_0 [va p0, va p1, vu, vu, vu] [] H Q := propext ⟨fun h => h.2, fun h => ⟨Nat.le_of_ble_eq_true rfl, h⟩⟩
theorem en_CW_sidesCanBeSo {d : Nat} {p0 p1 : Int} {H : Hp} {Q : AV → Hp → Prop} : CC d CW_sidesCanBeSo [va p0, va p1] H Q = R d CW_sidesCanBeSo k_CW_sidesCanBeSo_0 [va p0, va p1, vu, vu] [] H Q := propext ⟨fun h => h.2, fun h => ⟨Nat.le_of_ble_eq_true rfl, h⟩⟩
theorem en_CW_strokeIn {d : Nat} {p0 : Int} {H : Hp} {Q : AV → Hp → Prop} : CC d CW_strokeIn [va p0] H Q = R d CW_strokeIn k_CW_strokeIn_0 [va p0] [] H Q := propext ⟨fun h => h.2, fun h => ⟨Nat.le_of_ble_eq_true rfl, h⟩⟩
theorem en_CW_checkOn {d : Nat} {p0 p1 : Int} {H : Hp} {Q : AV → Hp → Prop} : CC d CW_checkOn [vi p0, vi p1] H Q = R d CW_checkOn k_CW_checkOn_0 [vi p0, vi p1] [] H Q := propext ⟨fun h => h.2, fun h => ⟨Nat.le_of_ble_eq_true rfl, h⟩⟩
theorem en_CW_writeOctet {d : Nat} {p0 p1 : Int} {H : Hp} {Q : AV → Hp → Prop} : CC d CW_writeOctet [va p0, vi p1] H Q = R d CW_writeOctet k_CW_writeOctet_0 [va p0, vi p1] [] H Q := propext ⟨fun h => h.2, fun h => ⟨Nat.le_of_ble_eq_true rfl, h⟩⟩
theorem en_CW_noteAct {d : Nat} {p0 p1 p2 p3 : Int} {H : Hp} {Q : AV → Hp → Prop} : CC d CW_noteAct [va p0, vi p1, vi p2, vi p3] H Q = R d CW_noteAct k_CW_noteAct_0 [va p0, vi p1, vi p2, vi p3] [] H Q := propext ⟨fun h => h.2, fun h => ⟨Nat.le_of_ble_eq_true rfl, h⟩⟩
theorem en_CW_flip {d : Nat} {p0 p1 : Int} {H : Hp} {Q : AV → Hp → Prop} : CC d CW_flip [va p0, vi p1] H Q = R d CW_flip k_CW_flip_0 [va p0, vi p1] [] H Q := propext ⟨fun h => h.2, fun h => ⟨Nat.le_of_ble_eq_true rfl, h⟩⟩
theorem en_CW_exchange {d : Nat} {p0 p1 p2 : Int} {H : Hp} {Q : AV → Hp → Prop} : CC d CW_exchange [va p0, vi p1, vi p2] H Q = R d CW_exchange k_CW_exchange_0 [va p0, vi p1, vi p2, vu] [] H Q := propext ⟨fun h => h.2, fun h => ⟨Nat.le_of_ble_eq_true rfl, h⟩⟩
theorem en_CW_drawnSwing {d : Nat} {p0 : Int} {H : Hp} {Q : AV → Hp → Prop} : CC d CW_drawnSwing [va p0] H Q = R d CW_drawnSwing k_CW_drawnSwing_0 [va p0, vu, vu, vu, vu] [] H Q := propext ⟨fun h => h.2, fun h => ⟨Nat.le_of_ble_eq_true rfl, h⟩⟩
theorem en_CW_drawOfThree {d : Nat} {p0 : Int} {H : Hp} {Q : AV → Hp → Prop} : CC d CW_drawOfThree [va p0] H Q = R d CW_drawOfThree k_CW_drawOfThree_0 [va p0] [] H Q := propext ⟨fun h => h.2, fun h => ⟨Nat.le_of_ble_eq_true rfl, h⟩⟩
theorem en_HV_init {d : Nat} {p0 : Int} {H : Hp} {Q : AV → Hp → Prop} : CC d HV_init [va p0] H Q = R d HV_init k_HV_init_0 [va p0] [] H Q := propext ⟨fun h => h.2, fun h => ⟨Nat.le_of_ble_eq_true rfl, h⟩⟩
theorem en_HV_waysFor {d : Nat} {p0 p1 : Int} {H : Hp} {Q : AV → Hp → Prop} : CC d HV_waysFor [va p0, vi p1] H Q = R d HV_waysFor k_HV_waysFor_0 [va p0, vi p1] [] H Q := propext ⟨fun h => h.2, fun h => ⟨Nat.le_of_ble_eq_true rfl, h⟩⟩
theorem en_HV_countWays {d : Nat} {p0 : Int} {H : Hp} {Q : AV → Hp → Prop} : CC d HV_countWays [va p0] H Q = R d HV_countWays k_HV_countWays_0 [va p0, vu, vu, vu, vu] [] H Q := propext ⟨fun h => h.2, fun h => ⟨Nat.le_of_ble_eq_true rfl, h⟩⟩
theorem en_HV_wayAt {d : Nat} {p0 p1 p2 : Int} {H : Hp} {Q : AV → Hp → Prop} : CC d HV_wayAt [va p0, vi p1, vi p2] H Q = R d HV_wayAt k_HV_wayAt_0 [va p0, vi p1, vi p2] [] H Q := propext ⟨fun h => h.2, fun h => ⟨Nat.le_of_ble_eq_true rfl, h⟩⟩
theorem en_HV_choose {d : Nat} {p0 p1 p2 p3 p4 : Int} {H : Hp} {Q : AV → Hp → Prop} : CC d HV_choose [va p0, vi p1, vi p2, vi p3, vi p4] H Q = R d HV_choose k_HV_choose_0 [va p0, vi p1, vi p2, vi p3, vi p4, vu] [] H Q := propext ⟨fun h => h.2, fun h => ⟨Nat.le_of_ble_eq_true rfl, h⟩⟩
theorem en_HV_canBe {d : Nat} {p0 p1 p2 : Int} {H : Hp} {Q : AV → Hp → Prop} : CC d HV_canBe [vi p0, vi p1, vi p2] H Q = R d HV_canBe k_HV_canBe_0 [vi p0, vi p1, vi p2] [] H Q := propext ⟨fun h => h.2, fun h => ⟨Nat.le_of_ble_eq_true rfl, h⟩⟩
theorem en_HV_sumDoubled {d : Nat} {p0 p1 : Int} {H : Hp} {Q : AV → Hp → Prop} : CC d HV_sumDoubled [vi p0, vi p1] H Q = R d HV_sumDoubled k_HV_sumDoubled_0 [vi p0, vi p1, vu, vu, vu, vu, vu] [] H Q := propext ⟨fun h => h.2, fun h => ⟨Nat.le_of_ble_eq_true rfl, h⟩⟩
theorem en_HV_stillUpTo {d : Nat} {p0 p1 : Int} {H : Hp} {Q : AV → Hp → Prop} : CC d HV_stillUpTo [vi p0, vi p1] H Q = R d HV_stillUpTo k_HV_stillUpTo_0 [vi p0, vi p1, vu, vu, vu, vu, vu, vu] [] H Q := propext ⟨fun h => h.2, fun h => ⟨Nat.le_of_ble_eq_true rfl, h⟩⟩
theorem en_HV_power {d : Nat} {p0 p1 : Int} {H : Hp} {Q : AV → Hp → Prop} : CC d HV_power [vl p0, vi p1] H Q = R d HV_power k_HV_power_0 [vl p0, vu, vi p1, vu, vu, vu] [] H Q := propext ⟨fun h => h.2, fun h => ⟨Nat.le_of_ble_eq_true rfl, h⟩⟩
theorem en_HV_partPayments {d : Nat} {p0 p1 p2 : Int} {H : Hp} {Q : AV → Hp → Prop} : CC d HV_partPayments [va p0, va p1, va p2] H Q = R d HV_partPayments k_HV_partPayments_0 [va p0, va p1, va p2, vu, vu] [] H Q := propext ⟨fun h => h.2, fun h => ⟨Nat.le_of_ble_eq_true rfl, h⟩⟩
theorem en_HV_addPayments {d : Nat} {p0 p1 p2 p3 : Int} {H : Hp} {Q : AV → Hp → Prop} : CC d HV_addPayments [va p0, va p1, va p2, vi p3] H Q = R d HV_addPayments k_HV_addPayments_0 [va p0, va p1, va p2, vi p3, vu] [] H Q := propext ⟨fun h => h.2, fun h => ⟨Nat.le_of_ble_eq_true rfl, h⟩⟩
theorem en_HV_heirsApart {d : Nat} {p0 p1 p2 : Int} {H : Hp} {Q : AV → Hp → Prop} : CC d HV_heirsApart [va p0, vi p1, vi p2] H Q = R d HV_heirsApart k_HV_heirsApart_0 [va p0, vi p1, vi p2, vu, vu, vu, vu, vu] [] H Q := propext ⟨fun h => h.2, fun h => ⟨Nat.le_of_ble_eq_true rfl, h⟩⟩
theorem en_LN_init {d : Nat} {p0 : Int} {H : Hp} {Q : AV → Hp → Prop} : CC d LN_init [va p0] H Q = R d LN_init k_LN_init_0 [va p0] [] H Q := propext ⟨fun h => h.2, fun h => ⟨Nat.le_of_ble_eq_true rfl, h⟩⟩
theorem en_LN_clear {d : Nat} {p0 : Int} {H : Hp} {Q : AV → Hp → Prop} : CC d LN_clear [va p0] H Q = R d LN_clear k_LN_clear_0 [va p0] [] H Q := propext ⟨fun h => h.2, fun h => ⟨Nat.le_of_ble_eq_true rfl, h⟩⟩
theorem en_LN_add {d : Nat} {p0 p1 p2 p3 : Int} {H : Hp} {Q : AV → Hp → Prop} : CC d LN_add [va p0, vl p1, va p2, vi p3] H Q = R d LN_add k_LN_add_0 [va p0, vl p1, vu, va p2, vi p3, vu, vu, vu] [] H Q := propext ⟨fun h => h.2, fun h => ⟨Nat.le_of_ble_eq_true rfl, h⟩⟩
theorem en_LN_advanceTo {d : Nat} {p0 p1 : Int} {H : Hp} {Q : AV → Hp → Prop} : CC d LN_advanceTo [va p0, vi p1] H Q = R d LN_advanceTo k_LN_advanceTo_0 [va p0, vi p1, vu, vu] [] H Q := propext ⟨fun h => h.2, fun h => ⟨Nat.le_of_ble_eq_true rfl, h⟩⟩
theorem en_NE_init {d : Nat} {p0 : Int} {H : Hp} {Q : AV → Hp → Prop} : CC d NE_init [va p0] H Q = R d NE_init k_NE_init_0 [va p0] [] H Q := propext ⟨fun h => h.2, fun h => ⟨Nat.le_of_ble_eq_true rfl, h⟩⟩
theorem en_NE_findAsTheySit {d : Nat} {p0 p1 p2 : Int} {H : Hp} {Q : AV → Hp → Prop} : CC d NE_findAsTheySit [va p0, va p1, va p2] H Q = R d NE_findAsTheySit k_NE_findAsTheySit_0 [va p0, va p1, va p2, vu] [] H Q := propext ⟨fun h => h.2, fun h => ⟨Nat.le_of_ble_eq_true rfl, h⟩⟩
theorem en_NE_findOrder {d : Nat} {p0 p1 p2 : Int} {H : Hp} {Q : AV → Hp → Prop} : CC d NE_findOrder [va p0, va p1, va p2] H Q = R d NE_findOrder k_NE_findOrder_0 [va p0, va p1, va p2, vu] [] H Q := propext ⟨fun h => h.2, fun h => ⟨Nat.le_of_ble_eq_true rfl, h⟩⟩
theorem en_NE_bestRower {d : Nat} {p0 p1 : Int} {H : Hp} {Q : AV → Hp → Prop} : CC d NE_bestRower [va p0, vi p1] H Q = R d NE_bestRower k_NE_bestRower_0 [va p0, vi p1] [] H Q := propext ⟨fun h => h.2, fun h => ⟨Nat.le_of_ble_eq_true rfl, h⟩⟩
theorem en_NE_arrange {d : Nat} {p0 p1 p2 p3 p4 : Int} {H : Hp} {Q : AV → Hp → Prop} : CC d NE_arrange [va p0, va p1, va p2, vi p3, vi p4] H Q = R d NE_arrange k_NE_arrange_0 [va p0, va p1, va p2, vi p3, vi p4, vu, vu] [] H Q := propext ⟨fun h => h.2, fun h => ⟨Nat.le_of_ble_eq_true rfl, h⟩⟩
theorem en_NE_keepOrder {d : Nat} {p0 : Int} {H : Hp} {Q : AV → Hp → Prop} : CC d NE_keepOrder [va p0] H Q = R d NE_keepOrder k_NE_keepOrder_0 [va p0] [] H Q := propext ⟨fun h => h.2, fun h => ⟨Nat.le_of_ble_eq_true rfl, h⟩⟩
theorem en_NE_scan {d : Nat} {p0 p1 p2 : Int} {H : Hp} {Q : AV → Hp → Prop} : CC d NE_scan [va p0, va p1, va p2] H Q = R d NE_scan k_NE_scan_0 [va p0, va p1, va p2, vu, vu] [] H Q := propext ⟨fun h => h.2, fun h => ⟨Nat.le_of_ble_eq_true rfl, h⟩⟩
theorem en_NE_setLanes {d : Nat} {p0 p1 p2 : Int} {H : Hp} {Q : AV → Hp → Prop} : CC d NE_setLanes [va p0, va p1, va p2] H Q = R d NE_setLanes k_NE_setLanes_0 [va p0, va p1, va p2, vu, vu] [] H Q := propext ⟨fun h => h.2, fun h => ⟨Nat.le_of_ble_eq_true rfl, h⟩⟩
theorem en_NE_weigh {d : Nat} {p0 p1 p2 p3 : Int} {H : Hp} {Q : AV → Hp → Prop} : CC d NE_weigh [va p0, va p1, vi p2, vi p3] H Q = R d NE_weigh k_NE_weigh_0 [va p0, va p1, vi p2, vi p3, vu, vu, vu, vu, vu, vu] [] H Q := propext ⟨fun h => h.2, fun h => ⟨Nat.le_of_ble_eq_true rfl, h⟩⟩
theorem en_PL_init {d : Nat} {p0 : Int} {H : Hp} {Q : AV → Hp → Prop} : CC d PL_init [va p0] H Q = R d PL_init k_PL_init_0 [va p0] [] H Q := propext ⟨fun h => h.2, fun h => ⟨Nat.le_of_ble_eq_true rfl, h⟩⟩
theorem en_PL_clear {d : Nat} {p0 : Int} {H : Hp} {Q : AV → Hp → Prop} : CC d PL_clear [va p0] H Q = R d PL_clear k_PL_clear_0 [va p0] [] H Q := propext ⟨fun h => h.2, fun h => ⟨Nat.le_of_ble_eq_true rfl, h⟩⟩
theorem en_PL_isSeat {d : Nat} {p0 p1 : Int} {H : Hp} {Q : AV → Hp → Prop} : CC d PL_isSeat [va p0, vi p1] H Q = R d PL_isSeat k_PL_isSeat_0 [va p0, vi p1] [] H Q := propext ⟨fun h => h.2, fun h => ⟨Nat.le_of_ble_eq_true rfl, h⟩⟩
theorem en_PL_isRower {d : Nat} {p0 p1 : Int} {H : Hp} {Q : AV → Hp → Prop} : CC d PL_isRower [va p0, vi p1] H Q = R d PL_isRower k_PL_isRower_0 [va p0, vi p1] [] H Q := propext ⟨fun h => h.2, fun h => ⟨Nat.le_of_ble_eq_true rfl, h⟩⟩
theorem en_PL_isPower {d : Nat} {p0 : Int} {H : Hp} {Q : AV → Hp → Prop} : CC d PL_isPower [vi p0] H Q = R d PL_isPower k_PL_isPower_0 [vi p0] [] H Q := propext ⟨fun h => h.2, fun h => ⟨Nat.le_of_ble_eq_true rfl, h⟩⟩
theorem en_PL_isFixed {d : Nat} {p0 p1 : Int} {H : Hp} {Q : AV → Hp → Prop} : CC d PL_isFixed [va p0, vi p1] H Q = R d PL_isFixed k_PL_isFixed_0 [va p0, vi p1] [] H Q := propext ⟨fun h => h.2, fun h => ⟨Nat.le_of_ble_eq_true rfl, h⟩⟩
theorem en_PL_seatAtPlace {d : Nat} {p0 p1 : Int} {H : Hp} {Q : AV → Hp → Prop} : CC d PL_seatAtPlace [va p0, vi p1] H Q = R d PL_seatAtPlace k_PL_seatAtPlace_0 [va p0, vi p1, vu] [] H Q := propext ⟨fun h => h.2, fun h => ⟨Nat.le_of_ble_eq_true rfl, h⟩⟩
theorem en_PL_addSeat {d : Nat} {p0 p1 p2 : Int} {H : Hp} {Q : AV → Hp → Prop} : CC d PL_addSeat [va p0, vi p1, vi p2] H Q = R d PL_addSeat k_PL_addSeat_0 [va p0, vi p1, vi p2, vu, vu, vu] [] H Q := propext ⟨fun h => h.2, fun h => ⟨Nat.le_of_ble_eq_true rfl, h⟩⟩
theorem en_PL_fixSeat {d : Nat} {p0 p1 p2 : Int} {H : Hp} {Q : AV → Hp → Prop} : CC d PL_fixSeat [va p0, vi p1, vi p2] H Q = R d PL_fixSeat k_PL_fixSeat_0 [va p0, vi p1, vi p2, vu] [] H Q := propext ⟨fun h => h.2, fun h => ⟨Nat.le_of_ble_eq_true rfl, h⟩⟩
theorem en_PL_addRower {d : Nat} {p0 p1 p2 : Int} {H : Hp} {Q : AV → Hp → Prop} : CC d PL_addRower [va p0, vi p1, vi p2] H Q = R d PL_addRower k_PL_addRower_0 [va p0, vi p1, vi p2] [] H Q := propext ⟨fun h => h.2, fun h => ⟨Nat.le_of_ble_eq_true rfl, h⟩⟩
theorem en_PL_wantSwing {d : Nat} {p0 p1 p2 : Int} {H : Hp} {Q : AV → Hp → Prop} : CC d PL_wantSwing [va p0, vi p1, vi p2] H Q = R d PL_wantSwing k_PL_wantSwing_0 [va p0, vi p1, vi p2] [] H Q := propext ⟨fun h => h.2, fun h => ⟨Nat.le_of_ble_eq_true rfl, h⟩⟩
theorem en_PL_addRun {d : Nat} {p0 p1 p2 : Int} {H : Hp} {Q : AV → Hp → Prop} : CC d PL_addRun [va p0, vi p1, vi p2] H Q = R d PL_addRun k_PL_addRun_0 [va p0, vi p1, vi p2] [] H Q := propext ⟨fun h => h.2, fun h => ⟨Nat.le_of_ble_eq_true rfl, h⟩⟩
theorem en_PL_setRunSide {d : Nat} {p0 p1 p2 : Int} {H : Hp} {Q : AV → Hp → Prop} : CC d PL_setRunSide [va p0, vi p1, vi p2] H Q = R d PL_setRunSide k_PL_setRunSide_0 [va p0, vi p1, vi p2] [] H Q := propext ⟨fun h => h.2, fun h => ⟨Nat.le_of_ble_eq_true rfl, h⟩⟩
theorem en_PL_addPayment {d : Nat} {p0 p1 p2 : Int} {H : Hp} {Q : AV → Hp → Prop} : CC d PL_addPayment [va p0, vi p1, vi p2] H Q = R d PL_addPayment k_PL_addPayment_0 [va p0, vi p1, vi p2] [] H Q := propext ⟨fun h => h.2, fun h => ⟨Nat.le_of_ble_eq_true rfl, h⟩⟩
theorem en_PL_wants {d : Nat} {p0 : Int} {H : Hp} {Q : AV → Hp → Prop} : CC d PL_wants [va p0] H Q = R d PL_wants k_PL_wants_0 [va p0, vu, vu] [] H Q := propext ⟨fun h => h.2, fun h => ⟨Nat.le_of_ble_eq_true rfl, h⟩⟩
theorem en_PL_leverOf {d : Nat} {p0 p1 p2 : Int} {H : Hp} {Q : AV → Hp → Prop} : CC d PL_leverOf [va p0, vi p1, vi p2] H Q = R d PL_leverOf k_PL_leverOf_0 [va p0, vi p1, vi p2, vu] [] H Q := propext ⟨fun h => h.2, fun h => ⟨Nat.le_of_ble_eq_true rfl, h⟩⟩
theorem en_PL_allows {d : Nat} {p0 p1 : Int} {H : Hp} {Q : AV → Hp → Prop} : CC d PL_allows [va p0, vi p1] H Q = R d PL_allows k_PL_allows_0 [va p0, vi p1] [] H Q := propext ⟨fun h => h.2, fun h => ⟨Nat.le_of_ble_eq_true rfl, h⟩⟩
theorem en_PL_sideAtFirst {d : Nat} {p0 p1 : Int} {H : Hp} {Q : AV → Hp → Prop} : CC d PL_sideAtFirst [va p0, vi p1] H Q = R d PL_sideAtFirst k_PL_sideAtFirst_0 [va p0, vi p1] [] H Q := propext ⟨fun h => h.2, fun h => ⟨Nat.le_of_ble_eq_true rfl, h⟩⟩
theorem en_PL_seatedAtFirst {d : Nat} {p0 : Int} {H : Hp} {Q : AV → Hp → Prop} : CC d PL_seatedAtFirst [va p0] H Q = R d PL_seatedAtFirst k_PL_seatedAtFirst_0 [va p0] [] H Q := propext ⟨fun h => h.2, fun h => ⟨Nat.le_of_ble_eq_true rfl, h⟩⟩
theorem en_PL_runLever {d : Nat} {p0 p1 p2 : Int} {H : Hp} {Q : AV → Hp → Prop} : CC d PL_runLever [va p0, vi p1, vi p2] H Q = R d PL_runLever k_PL_runLever_0 [va p0, vi p1, vi p2] [] H Q := propext ⟨fun h => h.2, fun h => ⟨Nat.le_of_ble_eq_true rfl, h⟩⟩
theorem en_PL_swungOf {d : Nat} {p0 p1 : Int} {H : Hp} {Q : AV → Hp → Prop} : CC d PL_swungOf [va p0, vi p1] H Q = R d PL_swungOf k_PL_swungOf_0 [va p0, vi p1] [] H Q := propext ⟨fun h => h.2, fun h => ⟨Nat.le_of_ble_eq_true rfl, h⟩⟩
theorem en_PL_payment {d : Nat} {p0 p1 p2 : Int} {H : Hp} {Q : AV → Hp → Prop} : CC d PL_payment [va p0, vi p1, vi p2] H Q = R d PL_payment k_PL_payment_0 [va p0, vi p1, vi p2] [] H Q := propext ⟨fun h => h.2, fun h => ⟨Nat.le_of_ble_eq_true rfl, h⟩⟩
theorem en_QU_init {d : Nat} {p0 : Int} {H : Hp} {Q : AV → Hp → Prop} : CC d QU_init [va p0] H Q = R d QU_init k_QU_init_0 [va p0] [] H Q := propext ⟨fun h => h.2, fun h => ⟨Nat.le_of_ble_eq_true rfl, h⟩⟩
theorem en_QU_read {d : Nat} {p0 p1 : Int} {H : Hp} {Q : AV → Hp → Prop} : CC d QU_read [va p0, va p1] H Q = R d QU_read k_QU_read_0 [va p0, va p1, vu] [] H Q := propext ⟨fun h => h.2, fun h => ⟨Nat.le_of_ble_eq_true rfl, h⟩⟩
theorem en_QU_test {d : Nat} {p0 p1 p2 : Int} {H : Hp} {Q : AV → Hp → Prop} : CC d QU_test [va p0, va p1, vi p2] H Q = R d QU_test k_QU_test_0 [va p0, va p1, vi p2, vu] [] H Q := propext ⟨fun h => h.2, fun h => ⟨Nat.le_of_ble_eq_true rfl, h⟩⟩
theorem en_QU_both {d : Nat} {p0 p1 p2 : Int} {H : Hp} {Q : AV → Hp → Prop} : CC d QU_both [va p0, va p1, vi p2] H Q = R d QU_both k_QU_both_0 [va p0, va p1, vi p2, vu] [] H Q := propext ⟨fun h => h.2, fun h => ⟨Nat.le_of_ble_eq_true rfl, h⟩⟩
theorem en_QU_fact {d : Nat} {p0 p1 p2 : Int} {H : Hp} {Q : AV → Hp → Prop} : CC d QU_fact [va p0, va p1, vi p2] H Q = R d QU_fact k_QU_fact_0 [va p0, va p1, vi p2, vu, vu] [] H Q := propext ⟨fun h => h.2, fun h => ⟨Nat.le_of_ble_eq_true rfl, h⟩⟩
theorem en_QU_comparison {d : Nat} {p0 p1 p2 : Int} {H : Hp} {Q : AV → Hp → Prop} : CC d QU_comparison [va p0, va p1, vi p2] H Q = R d QU_comparison k_QU_comparison_0 [va p0, va p1, vi p2, vu, vu] [] H Q := propext ⟨fun h => h.2, fun h => ⟨Nat.le_of_ble_eq_true rfl, h⟩⟩
theorem en_QU_sum {d : Nat} {p0 p1 p2 : Int} {H : Hp} {Q : AV → Hp → Prop} : CC d QU_sum [va p0, va p1, vi p2] H Q = R d QU_sum k_QU_sum_0 [va p0, va p1, vi p2, vu, vu] [] H Q := propext ⟨fun h => h.2, fun h => ⟨Nat.le_of_ble_eq_true rfl, h⟩⟩
theorem en_QU_product {d : Nat} {p0 p1 p2 : Int} {H : Hp} {Q : AV → Hp → Prop} : CC d QU_product [va p0, va p1, vi p2] H Q = R d QU_product k_QU_product_0 [va p0, va p1, vi p2, vu, vu] [] H Q := propext ⟨fun h => h.2, fun h => ⟨Nat.le_of_ble_eq_true rfl, h⟩⟩
theorem en_QU_part {d : Nat} {p0 p1 p2 : Int} {H : Hp} {Q : AV → Hp → Prop} : CC d QU_part [va p0, va p1, vi p2] H Q = R d QU_part k_QU_part_0 [va p0, va p1, vi p2, vu, vu] [] H Q := propext ⟨fun h => h.2, fun h => ⟨Nat.le_of_ble_eq_true rfl, h⟩⟩
theorem en_QU_partOf {d : Nat} {p0 p1 p2 p3 : Int} {H : Hp} {Q : AV → Hp → Prop} : CC d QU_partOf [va p0, va p1, vi p2, vi p3] H Q = R d QU_partOf k_QU_partOf_0 [va p0, va p1, vi p2, vi p3, vu] [] H Q := propext ⟨fun h => h.2, fun h => ⟨Nat.le_of_ble_eq_true rfl, h⟩⟩
theorem en_QU_pair {d : Nat} {p0 p1 p2 p3 : Int} {H : Hp} {Q : AV → Hp → Prop} : CC d QU_pair [va p0, va p1, vi p2, vi p3] H Q = R d QU_pair k_QU_pair_0 [va p0, va p1, vi p2, vi p3, vu] [] H Q := propext ⟨fun h => h.2, fun h => ⟨Nat.le_of_ble_eq_true rfl, h⟩⟩
theorem en_QU_mayOpen {d : Nat} {p0 p1 : Int} {H : Hp} {Q : AV → Hp → Prop} : CC d QU_mayOpen [va p0, vi p1] H Q = R d QU_mayOpen k_QU_mayOpen_0 [va p0, vi p1] [] H Q := propext ⟨fun h => h.2, fun h => ⟨Nat.le_of_ble_eq_true rfl, h⟩⟩
theorem en_QU_code {d : Nat} {p0 p1 : Int} {H : Hp} {Q : AV → Hp → Prop} : CC d QU_code [va p0, vi p1] H Q = R d QU_code k_QU_code_0 [va p0, vi p1] [] H Q := propext ⟨fun h => h.2, fun h => ⟨Nat.le_of_ble_eq_true rfl, h⟩⟩
theorem en_QU_keep {d : Nat} {p0 p1 : Int} {H : Hp} {Q : AV → Hp → Prop} : CC d QU_keep [va p0, vi p1] H Q = R d QU_keep k_QU_keep_0 [va p0, vi p1] [] H Q := propext ⟨fun h => h.2, fun h => ⟨Nat.le_of_ble_eq_true rfl, h⟩⟩
theorem en_QU_answer {d : Nat} {p0 p1 : Int} {H : Hp} {Q : AV → Hp → Prop} : CC d QU_answer [va p0, va p1] H Q = R d QU_answer k_QU_answer_0 [va p0, va p1, vu, vu] [] H Q := propext ⟨fun h => h.2, fun h => ⟨Nat.le_of_ble_eq_true rfl, h⟩⟩
theorem en_QU_answerTest {d : Nat} {p0 p1 p2 p3 : Int} {H : Hp} {Q : AV → Hp → Prop} : CC d QU_answerTest [va p0, va p1, vi p2, vi p3] H Q = R d QU_answerTest k_QU_answerTest_0 [va p0, va p1, vi p2, vi p3, vu, vu, vu, vu] [] H Q := propext ⟨fun h => h.2, fun h => ⟨Nat.le_of_ble_eq_true rfl, h⟩⟩
theorem en_QU_answerSum {d : Nat} {p0 p1 p2 p3 : Int} {H : Hp} {Q : AV → Hp → Prop} : CC d QU_answerSum [va p0, va p1, vi p2, vi p3] H Q = R d QU_answerSum k_QU_answerSum_0 [va p0, va p1, vi p2, vi p3, vu, vu, vu, vu, vu, vu, vu, vu, vu] [] H Q := propext ⟨fun h => h.2, fun h => ⟨Nat.le_of_ble_eq_true rfl, h⟩⟩
theorem en_QU_valueAt {d : Nat} {p0 p1 p2 : Int} {H : Hp} {Q : AV → Hp → Prop} : CC d QU_valueAt [va p0, va p1, vi p2] H Q = R d QU_valueAt k_QU_valueAt_0 [va p0, va p1, vi p2, vu, vu] [] H Q := propext ⟨fun h => h.2, fun h => ⟨Nat.le_of_ble_eq_true rfl, h⟩⟩
theorem en_QU_keepTen {d : Nat} {p0 p1 p2 : Int} {H : Hp} {Q : AV → Hp → Prop} : CC d QU_keepTen [va p0, va p1, vi p2] H Q = R d QU_keepTen k_QU_keepTen_0 [va p0, va p1, vi p2, vu] [] H Q := propext ⟨fun h => h.2, fun h => ⟨Nat.le_of_ble_eq_true rfl, h⟩⟩
theorem en_QU_apply {d : Nat} {p0 p1 p2 p3 : Int} {H : Hp} {Q : AV → Hp → Prop} : CC d QU_apply [va p0, va p1, vi p2, vi p3] H Q = R d QU_apply k_QU_apply_0 [va p0, va p1, vi p2, vi p3] [] H Q := propext ⟨fun h => h.2, fun h => ⟨Nat.le_of_ble_eq_true rfl, h⟩⟩
theorem en_QU_applyToTwo {d : Nat} {p0 p1 : Int} {H : Hp} {Q : AV → Hp → Prop} : CC d QU_applyToTwo [va p0, vi p1] H Q = R d QU_applyToTwo k_QU_applyToTwo_0 [va p0, vi p1, vu, vu, vu, vu] [] H Q := propext ⟨fun h => h.2, fun h => ⟨Nat.le_of_ble_eq_true rfl, h⟩⟩
theorem en_QU_swingOf {d : Nat} {p0 p1 : Int} {H : Hp} {Q : AV → Hp → Prop} : CC d QU_swingOf [va p0, vl p1] H Q = R d QU_swingOf k_QU_swingOf_0 [va p0, vl p1, vu] [] H Q := propext ⟨fun h => h.2, fun h => ⟨Nat.le_of_ble_eq_true rfl, h⟩⟩
theorem en_QU_forceOf {d : Nat} {p0 p1 p2 : Int} {H : Hp} {Q : AV → Hp → Prop} : CC d QU_forceOf [va p0, vl p1, vi p2] H Q = R d QU_forceOf k_QU_forceOf_0 [va p0, vl p1, vu, vi p2] [] H Q := propext ⟨fun h => h.2, fun h => ⟨Nat.le_of_ble_eq_true rfl, h⟩⟩
theorem en_QU_joined {d : Nat} {p0 p1 p2 : Int} {H : Hp} {Q : AV → Hp → Prop} : CC d QU_joined [vi p0, vl p1, vl p2] H Q = R d QU_joined k_QU_joined_0 [vi p0, vl p1, vu, vl p2, vu] [] H Q := propext ⟨fun h => h.2, fun h => ⟨Nat.le_of_ble_eq_true rfl, h⟩⟩
theorem en_QU_held {d : Nat} {p0 : Int} {H : Hp} {Q : AV → Hp → Prop} : CC d QU_held [vl p0] H Q = R d QU_held k_QU_held_0 [vl p0, vu] [] H Q := propext ⟨fun h => h.2, fun h => ⟨Nat.le_of_ble_eq_true rfl, h⟩⟩
theorem en_QU_push {d : Nat} {p0 p1 : Int} {H : Hp} {Q : AV → Hp → Prop} : CC d QU_push [va p0, vl p1] H Q = R d QU_push k_QU_push_0 [va p0, vl p1, vu] [] H Q := propext ⟨fun h => h.2, fun h => ⟨Nat.le_of_ble_eq_true rfl, h⟩⟩
theorem en_QU_pop {d : Nat} {p0 : Int} {H : Hp} {Q : AV → Hp → Prop} : CC d QU_pop [va p0] H Q = R d QU_pop k_QU_pop_0 [va p0] [] H Q := propext ⟨fun h => h.2, fun h => ⟨Nat.le_of_ble_eq_true rfl, h⟩⟩
theorem en_RA_init {d : Nat} {p0 : Int} {H : Hp} {Q : AV → Hp → Prop} : CC d RA_init [va p0] H Q = R d RA_init k_RA_init_0 [va p0] [] H Q := propext ⟨fun h => h.2, fun h => ⟨Nat.le_of_ble_eq_true rfl, h⟩⟩
theorem en_RA_greatest {d : Nat} {p0 p1 : Int} {H : Hp} {Q : AV → Hp → Prop} : CC d RA_greatest [va p0, vi p1] H Q = R d RA_greatest k_RA_greatest_0 [va p0, vi p1, vu, vu, vu] [] H Q := propext ⟨fun h => h.2, fun h => ⟨Nat.le_of_ble_eq_true rfl, h⟩⟩
theorem en_RA_findStillest {d : Nat} {p0 p1 p2 p3 : Int} {H : Hp} {Q : AV → Hp → Prop} : CC d RA_findStillest [va p0, va p1, va p2, vi p3] H Q = R d RA_findStillest k_RA_findStillest_0 [va p0, va p1, va p2, vi p3, vu, vu, vu, vu, vu, vu] [] H Q := propext ⟨fun h => h.2, fun h => ⟨Nat.le_of_ble_eq_true rfl, h⟩⟩
theorem en_RA_findUnderWay {d : Nat} {p0 p1 p2 : Int} {H : Hp} {Q : AV → Hp → Prop} : CC d RA_findUnderWay [va p0, va p1, vi p2] H Q = R d RA_findUnderWay k_RA_findUnderWay_0 [va p0, va p1, vi p2, vu, vu] [] H Q := propext ⟨fun h => h.2, fun h => ⟨Nat.le_of_ble_eq_true rfl, h⟩⟩
theorem en_RA_sailAsTheySit {d : Nat} {p0 p1 p2 : Int} {H : Hp} {Q : AV → Hp → Prop} : CC d RA_sailAsTheySit [va p0, va p1, vi p2] H Q = R d RA_sailAsTheySit k_RA_sailAsTheySit_0 [va p0, va p1, vi p2, vu, vu, vu, vu] [] H Q := propext ⟨fun h => h.2, fun h => ⟨Nat.le_of_ble_eq_true rfl, h⟩⟩
theorem en_RA_tryChange {d : Nat} {p0 p1 p2 p3 p4 : Int} {H : Hp} {Q : AV → Hp → Prop} : CC d RA_tryChange [va p0, va p1, vi p2, vi p3, vi p4] H Q = R d RA_tryChange k_RA_tryChange_0 [va p0, va p1, vi p2, vi p3, vi p4, vu, vu, vu, vu, vu, vu, vu, vu, vu, vu, vu, vu, vu] [] H Q := propext ⟨fun h => h.2, fun h => ⟨Nat.le_of_ble_eq_true rfl, h⟩⟩
theorem en_RA_setLanes {d : Nat} {p0 p1 p2 p3 : Int} {H : Hp} {Q : AV → Hp → Prop} : CC d RA_setLanes [va p0, va p1, va p2, vi p3] H Q = R d RA_setLanes k_RA_setLanes_0 [va p0, va p1, va p2, vi p3, vu, vu] [] H Q := propext ⟨fun h => h.2, fun h => ⟨Nat.le_of_ble_eq_true rfl, h⟩⟩
theorem en_RA_greatestOf {d : Nat} {p0 : Int} {H : Hp} {Q : AV → Hp → Prop} : CC d RA_greatestOf [va p0] H Q = R d RA_greatestOf k_RA_greatestOf_0 [va p0, vu, vu, vu] [] H Q := propext ⟨fun h => h.2, fun h => ⟨Nat.le_of_ble_eq_true rfl, h⟩⟩
theorem en_RA_firstTen {d : Nat} {p0 : Int} {H : Hp} {Q : AV → Hp → Prop} : CC d RA_firstTen [va p0] H Q = R d RA_firstTen k_RA_firstTen_0 [va p0] [] H Q := propext ⟨fun h => h.2, fun h => ⟨Nat.le_of_ble_eq_true rfl, h⟩⟩
theorem en_RA_lastTen {d : Nat} {p0 p1 : Int} {H : Hp} {Q : AV → Hp → Prop} : CC d RA_lastTen [va p0, vi p1] H Q = R d RA_lastTen k_RA_lastTen_0 [va p0, vi p1] [] H Q := propext ⟨fun h => h.2, fun h => ⟨Nat.le_of_ble_eq_true rfl, h⟩⟩
theorem en_TP_init {d : Nat} {p0 : Int} {H : Hp} {Q : AV → Hp → Prop} : CC d TP_init [va p0] H Q = R d TP_init k_TP_init_0 [va p0] [] H Q := propext ⟨fun h => h.2, fun h => ⟨Nat.le_of_ble_eq_true rfl, h⟩⟩
theorem en_TP_hasRoomForFive {d : Nat} {p0 : Int} {H : Hp} {Q : AV → Hp → Prop} : CC d TP_hasRoomForFive [va p0] H Q = R d TP_hasRoomForFive k_TP_hasRoomForFive_0 [va p0] [] H Q := propext ⟨fun h => h.2, fun h => ⟨Nat.le_of_ble_eq_true rfl, h⟩⟩
theorem en_TP_put {d : Nat} {p0 p1 : Int} {H : Hp} {Q : AV → Hp → Prop} : CC d TP_put [va p0, vi p1] H Q = R d TP_put k_TP_put_0 [va p0, vi p1, vu] [] H Q := propext ⟨fun h => h.2, fun h => ⟨Nat.le_of_ble_eq_true rfl, h⟩⟩
theorem en_TP_cut {d : Nat} {p0 p1 : Int} {H : Hp} {Q : AV → Hp → Prop} : CC d TP_cut [va p0, vi p1] H Q = R d TP_cut k_TP_cut_0 [va p0, vi p1] [] H Q := propext ⟨fun h => h.2, fun h => ⟨Nat.le_of_ble_eq_true rfl, h⟩⟩
theorem en_TP_clear {d : Nat} {p0 : Int} {H : Hp} {Q : AV → Hp → Prop} : CC d TP_clear [va p0] H Q = R d TP_clear k_TP_clear_0 [va p0] [] H Q := propext ⟨fun h => h.2, fun h => ⟨Nat.le_of_ble_eq_true rfl, h⟩⟩
theorem en_TP_byteAt {d : Nat} {p0 p1 : Int} {H : Hp} {Q : AV → Hp → Prop} : CC d TP_byteAt [va p0, vi p1] H Q = R d TP_byteAt k_TP_byteAt_0 [va p0, vi p1] [] H Q := propext ⟨fun h => h.2, fun h => ⟨Nat.le_of_ble_eq_true rfl, h⟩⟩
theorem en_TP_begin {d : Nat} {p0 : Int} {H : Hp} {Q : AV → Hp → Prop} : CC d TP_begin [va p0] H Q = R d TP_begin k_TP_begin_0 [va p0] [] H Q := propext ⟨fun h => h.2, fun h => ⟨Nat.le_of_ble_eq_true rfl, h⟩⟩
theorem en_TP_fail {d : Nat} {p0 p1 p2 : Int} {H : Hp} {Q : AV → Hp → Prop} : CC d TP_fail [va p0, vi p1, vi p2] H Q = R d TP_fail k_TP_fail_0 [va p0, vi p1, vi p2] [] H Q := propext ⟨fun h => h.2, fun h => ⟨Nat.le_of_ble_eq_true rfl, h⟩⟩
theorem en_TP_failHere {d : Nat} {p0 : Int} {H : Hp} {Q : AV → Hp → Prop} : CC d TP_failHere [va p0] H Q = R d TP_failHere k_TP_failHere_0 [va p0] [] H Q := propext ⟨fun h => h.2, fun h => ⟨Nat.le_of_ble_eq_true rfl, h⟩⟩
theorem en_TP_next {d : Nat} {p0 : Int} {H : Hp} {Q : AV → Hp → Prop} : CC d TP_next [va p0] H Q = R d TP_next k_TP_next_0 [va p0] [] H Q := propext ⟨fun h => h.2, fun h => ⟨Nat.le_of_ble_eq_true rfl, h⟩⟩
theorem en_TP_takeSign {d : Nat} {p0 p1 : Int} {H : Hp} {Q : AV → Hp → Prop} : CC d TP_takeSign [va p0, vi p1] H Q = R d TP_takeSign k_TP_takeSign_0 [va p0, vi p1] [] H Q := propext ⟨fun h => h.2, fun h => ⟨Nat.le_of_ble_eq_true rfl, h⟩⟩
theorem en_TP_wordHere {d : Nat} {p0 p1 : Int} {H : Hp} {Q : AV → Hp → Prop} : CC d TP_wordHere [va p0, va p1] H Q = R d TP_wordHere k_TP_wordHere_0 [va p0, va p1] [] H Q := propext ⟨fun h => h.2, fun h => ⟨Nat.le_of_ble_eq_true rfl, h⟩⟩
theorem en_TP_passWord {d : Nat} {p0 : Int} {H : Hp} {Q : AV → Hp → Prop} : CC d TP_passWord [va p0] H Q = R d TP_passWord k_TP_passWord_0 [va p0] [] H Q := propext ⟨fun h => h.2, fun h => ⟨Nat.le_of_ble_eq_true rfl, h⟩⟩
theorem en_TP_takeWord {d : Nat} {p0 p1 p2 : Int} {H : Hp} {Q : AV → Hp → Prop} : CC d TP_takeWord [va p0, va p1, vi p2] H Q = R d TP_takeWord k_TP_takeWord_0 [va p0, va p1, vi p2] [] H Q := propext ⟨fun h => h.2, fun h => ⟨Nat.le_of_ble_eq_true rfl, h⟩⟩
theorem en_TP_anyWordEnd {d : Nat} {p0 : Int} {H : Hp} {Q : AV → Hp → Prop} : CC d TP_anyWordEnd [va p0] H Q = R d TP_anyWordEnd k_TP_anyWordEnd_0 [va p0] [] H Q := propext ⟨fun h => h.2, fun h => ⟨Nat.le_of_ble_eq_true rfl, h⟩⟩
theorem en_TP_placeIn {d : Nat} {p0 p1 p2 : Int} {H : Hp} {Q : AV → Hp → Prop} : CC d TP_placeIn [va p0, va p1, vi p2] H Q = R d TP_placeIn k_TP_placeIn_0 [va p0, va p1, vi p2, vu, vu, vu, vu, vu] [] H Q := propext ⟨fun h => h.2, fun h => ⟨Nat.le_of_ble_eq_true rfl, h⟩⟩
theorem en_TP_takeNumber {d : Nat} {p0 p1 p2 : Int} {H : Hp} {Q : AV → Hp → Prop} : CC d TP_takeNumber [va p0, vi p1, vi p2] H Q = R d TP_takeNumber k_TP_takeNumber_0 [va p0, vi p1, vi p2, vu, vu] [] H Q := propext ⟨fun h => h.2, fun h => ⟨Nat.le_of_ble_eq_true rfl, h⟩⟩
theorem en_TP_takeSignedNumber {d : Nat} {p0 p1 : Int} {H : Hp} {Q : AV → Hp → Prop} : CC d TP_takeSignedNumber [va p0, vi p1] H Q = R d TP_takeSignedNumber k_TP_takeSignedNumber_0 [va p0, vi p1, vu, vu] [] H Q := propext ⟨fun h => h.2, fun h => ⟨Nat.le_of_ble_eq_true rfl, h⟩⟩
theorem en_TP_wordEnd {d : Nat} {p0 : Int} {H : Hp} {Q : AV → Hp → Prop} : CC d TP_wordEnd [va p0] H Q = R d TP_wordEnd k_TP_wordEnd_0 [va p0, vu] [] H Q := propext ⟨fun h => h.2, fun h => ⟨Nat.le_of_ble_eq_true rfl, h⟩⟩
theorem en_TP_isLetter {d : Nat} {p0 : Int} {H : Hp} {Q : AV → Hp → Prop} : CC d TP_isLetter [vi p0] H Q = R d TP_isLetter k_TP_isLetter_0 [vi p0] [] H Q := propext ⟨fun h => h.2, fun h => ⟨Nat.le_of_ble_eq_true rfl, h⟩⟩
theorem en_TP_isDigit {d : Nat} {p0 : Int} {H : Hp} {Q : AV → Hp → Prop} : CC d TP_isDigit [vi p0] H Q = R d TP_isDigit k_TP_isDigit_0 [vi p0] [] H Q := propext ⟨fun h => h.2, fun h => ⟨Nat.le_of_ble_eq_true rfl, h⟩⟩
theorem en_TP_isBlank {d : Nat} {p0 : Int} {H : Hp} {Q : AV → Hp → Prop} : CC d TP_isBlank [vi p0] H Q = R d TP_isBlank k_TP_isBlank_0 [vi p0] [] H Q := propext ⟨fun h => h.2, fun h => ⟨Nat.le_of_ble_eq_true rfl, h⟩⟩
theorem en_TR_init {d : Nat} {p0 : Int} {H : Hp} {Q : AV → Hp → Prop} : CC d TR_init [va p0] H Q = R d TR_init k_TR_init_0 [va p0] [] H Q := propext ⟨fun h => h.2, fun h => ⟨Nat.le_of_ble_eq_true rfl, h⟩⟩
theorem en_TR_forget {d : Nat} {p0 : Int} {H : Hp} {Q : AV → Hp → Prop} : CC d TR_forget [va p0] H Q = R d TR_forget k_TR_forget_0 [va p0] [] H Q := propext ⟨fun h => h.2, fun h => ⟨Nat.le_of_ble_eq_true rfl, h⟩⟩
theorem en_TR_firstUnfit {d : Nat} {p0 : Int} {H : Hp} {Q : AV → Hp → Prop} : CC d TR_firstUnfit [va p0] H Q = R d TR_firstUnfit k_TR_firstUnfit_0 [va p0, vu] [] H Q := propext ⟨fun h => h.2, fun h => ⟨Nat.le_of_ble_eq_true rfl, h⟩⟩
theorem en_TR_told {d : Nat} {p0 p1 p2 p3 : Int} {H : Hp} {Q : AV → Hp → Prop} : CC d TR_told [va p0, va p1, vi p2, vi p3] H Q = R d TR_told k_TR_told_0 [va p0, va p1, vi p2, vi p3] [] H Q := propext ⟨fun h => h.2, fun h => ⟨Nat.le_of_ble_eq_true rfl, h⟩⟩
theorem en_TR_crookedSeats {d : Nat} {p0 p1 : Int} {H : Hp} {Q : AV → Hp → Prop} : CC d TR_crookedSeats [va p0, va p1] H Q = R d TR_crookedSeats k_TR_crookedSeats_0 [va p0, va p1, vu, vu] [] H Q := propext ⟨fun h => h.2, fun h => ⟨Nat.le_of_ble_eq_true rfl, h⟩⟩
theorem en_TR_gapAsTold {d : Nat} {p0 p1 : Int} {H : Hp} {Q : AV → Hp → Prop} : CC d TR_gapAsTold [va p0, vi p1] H Q = R d TR_gapAsTold k_TR_gapAsTold_0 [va p0, vi p1, vu, vu, vu] [] H Q := propext ⟨fun h => h.2, fun h => ⟨Nat.le_of_ble_eq_true rfl, h⟩⟩
theorem en_TR_canBeCrooked {d : Nat} {p0 p1 p2 : Int} {H : Hp} {Q : AV → Hp → Prop} : CC d TR_canBeCrooked [va p0, va p1, vi p2] H Q = R d TR_canBeCrooked k_TR_canBeCrooked_0 [va p0, va p1, vi p2, vu, vu] [] H Q := propext ⟨fun h => h.2, fun h => ⟨Nat.le_of_ble_eq_true rfl, h⟩⟩
theorem en_TR_allFitWith {d : Nat} {p0 p1 p2 : Int} {H : Hp} {Q : AV → Hp → Prop} : CC d TR_allFitWith [va p0, va p1, vi p2] H Q = R d TR_allFitWith k_TR_allFitWith_0 [va p0, va p1, vi p2, vu] [] H Q := propext ⟨fun h => h.2, fun h => ⟨Nat.le_of_ble_eq_true rfl, h⟩⟩
theorem en_TR_countRows {d : Nat} {p0 p1 : Int} {H : Hp} {Q : AV → Hp → Prop} : CC d TR_countRows [va p0, va p1] H Q = R d TR_countRows k_TR_countRows_0 [va p0, va p1, vu] [] H Q := propext ⟨fun h => h.2, fun h => ⟨Nat.le_of_ble_eq_true rfl, h⟩⟩
theorem en_TR_setBounds {d : Nat} {p0 p1 p2 : Int} {H : Hp} {Q : AV → Hp → Prop} : CC d TR_setBounds [va p0, va p1, vi p2] H Q = R d TR_setBounds k_TR_setBounds_0 [va p0, va p1, vi p2, vu, vu, vu, vu] [] H Q := propext ⟨fun h => h.2, fun h => ⟨Nat.le_of_ble_eq_true rfl, h⟩⟩
theorem en_TR_rowsFrom {d : Nat} {p0 p1 p2 : Int} {H : Hp} {Q : AV → Hp → Prop} : CC d TR_rowsFrom [va p0, va p1, vi p2] H Q = R d TR_rowsFrom k_TR_rowsFrom_0 [va p0, va p1, vi p2, vu, vu, vu, vu] [] H Q := propext ⟨fun h => h.2, fun h => ⟨Nat.le_of_ble_eq_true rfl, h⟩⟩
theorem en_TR_verdictFrom {d : Nat} {p0 p1 p2 : Int} {H : Hp} {Q : AV → Hp → Prop} : CC d TR_verdictFrom [va p0, va p1, vi p2] H Q = R d TR_verdictFrom k_TR_verdictFrom_0 [va p0, va p1, vi p2, vu, vu, vu, vu, vu, vu, vu, vu, vu] [] H Q := propext ⟨fun h => h.2, fun h => ⟨Nat.le_of_ble_eq_true rfl, h⟩⟩
theorem en_TR_allRowsFrom {d : Nat} {p0 p1 p2 : Int} {H : Hp} {Q : AV → Hp → Prop} : CC d TR_allRowsFrom [va p0, va p1, vi p2] H Q = R d TR_allRowsFrom k_TR_allRowsFrom_0 [va p0, va p1, vi p2, vu, vu] [] H Q := propext ⟨fun h => h.2, fun h => ⟨Nat.le_of_ble_eq_true rfl, h⟩⟩
theorem en_TR_rowsOfLast {d : Nat} {p0 p1 p2 : Int} {H : Hp} {Q : AV → Hp → Prop} : CC d TR_rowsOfLast [va p0, va p1, vi p2] H Q = R d TR_rowsOfLast k_TR_rowsOfLast_0 [va p0, va p1, vi p2, vu, vu, vu, vu, vu, vu, vu, vu, vu, vu, vu] [] H Q := propext ⟨fun h => h.2, fun h => ⟨Nat.le_of_ble_eq_true rfl, h⟩⟩
theorem en_TR_tryMore {d : Nat} {p0 p1 p2 p3 : Int} {H : Hp} {Q : AV → Hp → Prop} : CC d TR_tryMore [va p0, va p1, vi p2, vi p3] H Q = R d TR_tryMore k_TR_tryMore_0 [va p0, va p1, vi p2, vi p3, vu] [] H Q := propext ⟨fun h => h.2, fun h => ⟨Nat.le_of_ble_eq_true rfl, h⟩⟩
theorem en_TR_noteStrengths {d : Nat} {p0 p1 p2 p3 : Int} {H : Hp} {Q : AV → Hp → Prop} : CC d TR_noteStrengths [va p0, vi p1, vi p2, vi p3] H Q = R d TR_noteStrengths k_TR_noteStrengths_0 [va p0, vi p1, vi p2, vi p3] [] H Q := propext ⟨fun h => h.2, fun h => ⟨Nat.le_of_ble_eq_true rfl, h⟩⟩
theorem en_EO_init {d : Nat} {p0 : Int} {H : Hp} {Q : AV → Hp → Prop} : CC d EO_init [va p0] H Q = R d EO_init k_EO_init_0 [va p0] [] H Q := propext ⟨fun h => h.2, fun h => ⟨Nat.le_of_ble_eq_true rfl, h⟩⟩
theorem en_EO_feed {d : Nat} {p0 p1 p2 p3 p4 p5 : Int} {H : Hp} {Q : AV → Hp → Prop} : CC d EO_feed [va p0, vi p1, vi p2, vi p3, vi p4, vi p5] H Q = R d EO_feed k_EO_feed_0 [va p0, vi p1, vi p2, vi p3, vi p4, vi p5] [] H Q := propext ⟨fun h => h.2, fun h => ⟨Nat.le_of_ble_eq_true rfl, h⟩⟩
theorem en_EO_end {d : Nat} {p0 p1 : Int} {H : Hp} {Q : AV → Hp → Prop} : CC d EO_end [va p0, vi p1] H Q = R d EO_end k_EO_end_0 [va p0, vi p1] [] H Q := propext ⟨fun h => h.2, fun h => ⟨Nat.le_of_ble_eq_true rfl, h⟩⟩
theorem en_EO_text {d : Nat} {p0 : Int} {H : Hp} {Q : AV → Hp → Prop} : CC d EO_text [va p0] H Q = R d EO_text k_EO_text_0 [va p0, vu, vu] [] H Q := propext ⟨fun h => h.2, fun h => ⟨Nat.le_of_ble_eq_true rfl, h⟩⟩
theorem en_EO_fault {d : Nat} {p0 p1 : Int} {H : Hp} {Q : AV → Hp → Prop} : CC d EO_fault [va p0, vi p1] H Q = R d EO_fault k_EO_fault_0 [va p0, vi p1] [] H Q := propext ⟨fun h => h.2, fun h => ⟨Nat.le_of_ble_eq_true rfl, h⟩⟩
theorem en_EO_boat {d : Nat} {p0 p1 : Int} {H : Hp} {Q : AV → Hp → Prop} : CC d EO_boat [va p0, vi p1] H Q = R d EO_boat k_EO_boat_0 [va p0, vi p1, vu] [] H Q := propext ⟨fun h => h.2, fun h => ⟨Nat.le_of_ble_eq_true rfl, h⟩⟩
theorem en_EO_letter {d : Nat} {p0 p1 p2 : Int} {H : Hp} {Q : AV → Hp → Prop} : CC d EO_letter [va p0, vi p1, vi p2] H Q = R d EO_letter k_EO_letter_0 [va p0, vi p1, vi p2] [] H Q := propext ⟨fun h => h.2, fun h => ⟨Nat.le_of_ble_eq_true rfl, h⟩⟩
theorem en_EO_seat {d : Nat} {p0 p1 p2 : Int} {H : Hp} {Q : AV → Hp → Prop} : CC d EO_seat [va p0, vi p1, vi p2] H Q = R d EO_seat k_EO_seat_0 [va p0, vi p1, vi p2, vu] [] H Q := propext ⟨fun h => h.2, fun h => ⟨Nat.le_of_ble_eq_true rfl, h⟩⟩
theorem en_EO_rower {d : Nat} {p0 p1 p2 : Int} {H : Hp} {Q : AV → Hp → Prop} : CC d EO_rower [va p0, vi p1, vi p2] H Q = R d EO_rower k_EO_rower_0 [va p0, vi p1, vi p2, vu] [] H Q := propext ⟨fun h => h.2, fun h => ⟨Nat.le_of_ble_eq_true rfl, h⟩⟩
theorem en_EO_want {d : Nat} {p0 p1 : Int} {H : Hp} {Q : AV → Hp → Prop} : CC d EO_want [va p0, vi p1] H Q = R d EO_want k_EO_want_0 [va p0, vi p1] [] H Q := propext ⟨fun h => h.2, fun h => ⟨Nat.le_of_ble_eq_true rfl, h⟩⟩
theorem en_EO_swing {d : Nat} {p0 p1 p2 : Int} {H : Hp} {Q : AV → Hp → Prop} : CC d EO_swing [va p0, vi p1, vi p2] H Q = R d EO_swing k_EO_swing_0 [va p0, vi p1, vi p2] [] H Q := propext ⟨fun h => h.2, fun h => ⟨Nat.le_of_ble_eq_true rfl, h⟩⟩
theorem en_EO_off {d : Nat} {p0 : Int} {H : Hp} {Q : AV → Hp → Prop} : CC d EO_off [va p0] H Q = R d EO_off k_EO_off_0 [va p0] [] H Q := propext ⟨fun h => h.2, fun h => ⟨Nat.le_of_ble_eq_true rfl, h⟩⟩
theorem en_EO_good {d : Nat} {p0 : Int} {H : Hp} {Q : AV → Hp → Prop} : CC d EO_good [va p0] H Q = R d EO_good k_EO_good_0 [va p0] [] H Q := propext ⟨fun h => h.2, fun h => ⟨Nat.le_of_ble_eq_true rfl, h⟩⟩
theorem en_EO_lawful {d : Nat} {p0 : Int} {H : Hp} {Q : AV → Hp → Prop} : CC d EO_lawful [va p0] H Q = R d EO_lawful k_EO_lawful_0 [va p0] [] H Q := propext ⟨fun h => h.2, fun h => ⟨Nat.le_of_ble_eq_true rfl, h⟩⟩
theorem en_EO_heading {d : Nat} {p0 : Int} {H : Hp} {Q : AV → Hp → Prop} : CC d EO_heading [va p0] H Q = R d EO_heading k_EO_heading_0 [va p0] [] H Q := propext ⟨fun h => h.2, fun h => ⟨Nat.le_of_ble_eq_true rfl, h⟩⟩
theorem en_EO_turn {d : Nat} {p0 p1 : Int} {H : Hp} {Q : AV → Hp → Prop} : CC d EO_turn [va p0, vi p1] H Q = R d EO_turn k_EO_turn_0 [va p0, vi p1] [] H Q := propext ⟨fun h => h.2, fun h => ⟨Nat.le_of_ble_eq_true rfl, h⟩⟩
theorem en_EO_swap {d : Nat} {p0 p1 p2 : Int} {H : Hp} {Q : AV → Hp → Prop} : CC d EO_swap [va p0, vi p1, vi p2] H Q = R d EO_swap k_EO_swap_0 [va p0, vi p1, vi p2] [] H Q := propext ⟨fun h => h.2, fun h => ⟨Nat.le_of_ble_eq_true rfl, h⟩⟩
theorem en_EO_stroke {d : Nat} {p0 p1 : Int} {H : Hp} {Q : AV → Hp → Prop} : CC d EO_stroke [va p0, vi p1] H Q = R d EO_stroke k_EO_stroke_0 [va p0, vi p1] [] H Q := propext ⟨fun h => h.2, fun h => ⟨Nat.le_of_ble_eq_true rfl, h⟩⟩
theorem en_EO_row {d : Nat} {p0 p1 : Int} {H : Hp} {Q : AV → Hp → Prop} : CC d EO_row [va p0, vi p1] H Q = R d EO_row k_EO_row_0 [va p0, vi p1] [] H Q := propext ⟨fun h => h.2, fun h => ⟨Nat.le_of_ble_eq_true rfl, h⟩⟩
theorem en_EO_undo {d : Nat} {p0 : Int} {H : Hp} {Q : AV → Hp → Prop} : CC d EO_undo [va p0] H Q = R d EO_undo k_EO_undo_0 [va p0] [] H Q := propext ⟨fun h => h.2, fun h => ⟨Nat.le_of_ble_eq_true rfl, h⟩⟩
theorem en_EO_seed {d : Nat} {p0 p1 : Int} {H : Hp} {Q : AV → Hp → Prop} : CC d EO_seed [va p0, vi p1] H Q = R d EO_seed k_EO_seed_0 [va p0, vi p1] [] H Q := propext ⟨fun h => h.2, fun h => ⟨Nat.le_of_ble_eq_true rfl, h⟩⟩
theorem en_EO_ways {d : Nat} {p0 p1 : Int} {H : Hp} {Q : AV → Hp → Prop} : CC d EO_ways [va p0, vi p1] H Q = R d EO_ways k_EO_ways_0 [va p0, vi p1] [] H Q := propext ⟨fun h => h.2, fun h => ⟨Nat.le_of_ble_eq_true rfl, h⟩⟩
theorem en_EO_made {d : Nat} {p0 p1 p2 : Int} {H : Hp} {Q : AV → Hp → Prop} : CC d EO_made [va p0, vi p1, vi p2] H Q = R d EO_made k_EO_made_0 [va p0, vi p1, vi p2] [] H Q := propext ⟨fun h => h.2, fun h => ⟨Nat.le_of_ble_eq_true rfl, h⟩⟩
theorem en_EO_doubled {d : Nat} {p0 p1 p2 : Int} {H : Hp} {Q : AV → Hp → Prop} : CC d EO_doubled [va p0, vi p1, vi p2] H Q = R d EO_doubled k_EO_doubled_0 [va p0, vi p1, vi p2] [] H Q := propext ⟨fun h => h.2, fun h => ⟨Nat.le_of_ble_eq_true rfl, h⟩⟩
theorem en_EO_still {d : Nat} {p0 p1 p2 : Int} {H : Hp} {Q : AV → Hp → Prop} : CC d EO_still [va p0, vi p1, vi p2] H Q = R d EO_still k_EO_still_0 [va p0, vi p1, vi p2] [] H Q := propext ⟨fun h => h.2, fun h => ⟨Nat.le_of_ble_eq_true rfl, h⟩⟩
theorem en_EO_nearest {d : Nat} {p0 p1 : Int} {H : Hp} {Q : AV → Hp → Prop} : CC d EO_nearest [va p0, vi p1] H Q = R d EO_nearest k_EO_nearest_0 [va p0, vi p1] [] H Q := propext ⟨fun h => h.2, fun h => ⟨Nat.le_of_ble_eq_true rfl, h⟩⟩
theorem en_EO_seated {d : Nat} {p0 p1 : Int} {H : Hp} {Q : AV → Hp → Prop} : CC d EO_seated [va p0, vi p1] H Q = R d EO_seated k_EO_seated_0 [va p0, vi p1, vu] [] H Q := propext ⟨fun h => h.2, fun h => ⟨Nat.le_of_ble_eq_true rfl, h⟩⟩
theorem en_EO_changes {d : Nat} {p0 : Int} {H : Hp} {Q : AV → Hp → Prop} : CC d EO_changes [va p0] H Q = R d EO_changes k_EO_changes_0 [va p0] [] H Q := propext ⟨fun h => h.2, fun h => ⟨Nat.le_of_ble_eq_true rfl, h⟩⟩
theorem en_EO_race {d : Nat} {p0 p1 : Int} {H : Hp} {Q : AV → Hp → Prop} : CC d EO_race [va p0, vi p1] H Q = R d EO_race k_EO_race_0 [va p0, vi p1] [] H Q := propext ⟨fun h => h.2, fun h => ⟨Nat.le_of_ble_eq_true rfl, h⟩⟩
theorem en_EO_stillest {d : Nat} {p0 p1 p2 : Int} {H : Hp} {Q : AV → Hp → Prop} : CC d EO_stillest [va p0, vi p1, vi p2] H Q = R d EO_stillest k_EO_stillest_0 [va p0, vi p1, vi p2] [] H Q := propext ⟨fun h => h.2, fun h => ⟨Nat.le_of_ble_eq_true rfl, h⟩⟩
theorem en_EO_under {d : Nat} {p0 p1 p2 : Int} {H : Hp} {Q : AV → Hp → Prop} : CC d EO_under [va p0, vi p1, vi p2] H Q = R d EO_under k_EO_under_0 [va p0, vi p1, vi p2] [] H Q := propext ⟨fun h => h.2, fun h => ⟨Nat.le_of_ble_eq_true rfl, h⟩⟩
theorem en_EO_fits {d : Nat} {p0 : Int} {H : Hp} {Q : AV → Hp → Prop} : CC d EO_fits [va p0] H Q = R d EO_fits k_EO_fits_0 [va p0] [] H Q := propext ⟨fun h => h.2, fun h => ⟨Nat.le_of_ble_eq_true rfl, h⟩⟩
theorem en_EO_strengths {d : Nat} {p0 p1 p2 : Int} {H : Hp} {Q : AV → Hp → Prop} : CC d EO_strengths [va p0, vi p1, vi p2] H Q = R d EO_strengths k_EO_strengths_0 [va p0, vi p1, vi p2] [] H Q := propext ⟨fun h => h.2, fun h => ⟨Nat.le_of_ble_eq_true rfl, h⟩⟩
theorem en_EO_crooked {d : Nat} {p0 : Int} {H : Hp} {Q : AV → Hp → Prop} : CC d EO_crooked [va p0] H Q = R d EO_crooked k_EO_crooked_0 [va p0] [] H Q := propext ⟨fun h => h.2, fun h => ⟨Nat.le_of_ble_eq_true rfl, h⟩⟩
theorem en_EO_heirs {d : Nat} {p0 p1 : Int} {H : Hp} {Q : AV → Hp → Prop} : CC d EO_heirs [va p0, vi p1] H Q = R d EO_heirs k_EO_heirs_0 [va p0, vi p1] [] H Q := propext ⟨fun h => h.2, fun h => ⟨Nat.le_of_ble_eq_true rfl, h⟩⟩
theorem en_EO_apart {d : Nat} {p0 p1 p2 : Int} {H : Hp} {Q : AV → Hp → Prop} : CC d EO_apart [va p0, vi p1, vi p2] H Q = R d EO_apart k_EO_apart_0 [va p0, vi p1, vi p2] [] H Q := propext ⟨fun h => h.2, fun h => ⟨Nat.le_of_ble_eq_true rfl, h⟩⟩
theorem en_EO_ask {d : Nat} {p0 : Int} {H : Hp} {Q : AV → Hp → Prop} : CC d EO_ask [va p0] H Q = R d EO_ask k_EO_ask_0 [va p0, vu] [] H Q := propext ⟨fun h => h.2, fun h => ⟨Nat.le_of_ble_eq_true rfl, h⟩⟩
theorem en_EO_image {d : Nat} {p0 : Int} {H : Hp} {Q : AV → Hp → Prop} : CC d EO_image [va p0] H Q = R d EO_image k_EO_image_0 [va p0] [] H Q := propext ⟨fun h => h.2, fun h => ⟨Nat.le_of_ble_eq_true rfl, h⟩⟩
theorem en_EO_octet {d : Nat} {p0 p1 : Int} {H : Hp} {Q : AV → Hp → Prop} : CC d EO_octet [va p0, vi p1] H Q = R d EO_octet k_EO_octet_0 [va p0, vi p1] [] H Q := propext ⟨fun h => h.2, fun h => ⟨Nat.le_of_ble_eq_true rfl, h⟩⟩
theorem en_EO_on {d : Nat} {p0 : Int} {H : Hp} {Q : AV → Hp → Prop} : CC d EO_on [va p0] H Q = R d EO_on k_EO_on_0 [va p0, vu] [] H Q := propext ⟨fun h => h.2, fun h => ⟨Nat.le_of_ble_eq_true rfl, h⟩⟩
theorem en_EO_status {d : Nat} {p0 p1 : Int} {H : Hp} {Q : AV → Hp → Prop} : CC d EO_status [va p0, vi p1] H Q = R d EO_status k_EO_status_0 [va p0, vi p1] [] H Q := propext ⟨fun h => h.2, fun h => ⟨Nat.le_of_ble_eq_true rfl, h⟩⟩
theorem en_EO_refuse {d : Nat} {p0 p1 : Int} {H : Hp} {Q : AV → Hp → Prop} : CC d EO_refuse [va p0, vi p1] H Q = R d EO_refuse k_EO_refuse_0 [va p0, vi p1] [] H Q := propext ⟨fun h => h.2, fun h => ⟨Nat.le_of_ble_eq_true rfl, h⟩⟩
theorem en_EO_canGoBy {d : Nat} {p0 p1 : Int} {H : Hp} {Q : AV → Hp → Prop} : CC d EO_canGoBy [va p0, vi p1] H Q = R d EO_canGoBy k_EO_canGoBy_0 [va p0, vi p1] [] H Q := propext ⟨fun h => h.2, fun h => ⟨Nat.le_of_ble_eq_true rfl, h⟩⟩
theorem en_EO_keepFault {d : Nat} {p0 : Int} {H : Hp} {Q : AV → Hp → Prop} : CC d EO_keepFault [va p0] H Q = R d EO_keepFault k_EO_keepFault_0 [va p0] [] H Q := propext ⟨fun h => h.2, fun h => ⟨Nat.le_of_ble_eq_true rfl, h⟩⟩
theorem en_MO_init {d : Nat} {p0 : Int} {H : Hp} {Q : AV → Hp → Prop} : CC d MO_init [va p0] H Q = R d MO_init k_MO_init_0 [va p0] [] H Q := propext ⟨fun h => h.2, fun h => ⟨Nat.le_of_ble_eq_true rfl, h⟩⟩
theorem en_MO_isIn {d : Nat} {p0 p1 p2 : Int} {H : Hp} {Q : AV → Hp → Prop} : CC d MO_isIn [vl p0, vl p1, vl p2] H Q = R d MO_isIn k_MO_isIn_0 [vl p0, vu, vl p1, vu, vl p2, vu] [] H Q := propext ⟨fun h => h.2, fun h => ⟨Nat.le_of_ble_eq_true rfl, h⟩⟩
theorem en_MO_feed {d : Nat} {p0 p1 p2 p3 p4 p5 : Int} {H : Hp} {Q : AV → Hp → Prop} : CC d MO_feed [va p0, vi p1, vi p2, vi p3, vi p4, vi p5] H Q = R d MO_feed k_MO_feed_0 [va p0, vi p1, vi p2, vi p3, vi p4, vi p5, vu, vu] [] H Q := propext ⟨fun h => h.2, fun h => ⟨Nat.le_of_ble_eq_true rfl, h⟩⟩
theorem en_MO_end {d : Nat} {p0 p1 : Int} {H : Hp} {Q : AV → Hp → Prop} : CC d MO_end [va p0, vi p1] H Q = R d MO_end k_MO_end_0 [va p0, vi p1] [] H Q := propext ⟨fun h => h.2, fun h => ⟨Nat.le_of_ble_eq_true rfl, h⟩⟩
theorem en_MO_fail {d : Nat} {p0 p1 p2 : Int} {H : Hp} {Q : AV → Hp → Prop} : CC d MO_fail [va p0, vi p1, vi p2] H Q = R d MO_fail k_MO_fail_0 [va p0, vi p1, vi p2] [] H Q := propext ⟨fun h => h.2, fun h => ⟨Nat.le_of_ble_eq_true rfl, h⟩⟩
theorem en_MO_isLetter {d : Nat} {p0 : Int} {H : Hp} {Q : AV → Hp → Prop} : CC d MO_isLetter [vi p0] H Q = R d MO_isLetter k_MO_isLetter_0 [vi p0] [] H Q := propext ⟨fun h => h.2, fun h => ⟨Nat.le_of_ble_eq_true rfl, h⟩⟩
theorem en_MO_isDigit {d : Nat} {p0 : Int} {H : Hp} {Q : AV → Hp → Prop} : CC d MO_isDigit [vi p0] H Q = R d MO_isDigit k_MO_isDigit_0 [vi p0] [] H Q := propext ⟨fun h => h.2, fun h => ⟨Nat.le_of_ble_eq_true rfl, h⟩⟩
theorem en_MO_look {d : Nat} {p0 : Int} {H : Hp} {Q : AV → Hp → Prop} : CC d MO_look [va p0] H Q = R d MO_look k_MO_look_0 [va p0] [] H Q := propext ⟨fun h => h.2, fun h => ⟨Nat.le_of_ble_eq_true rfl, h⟩⟩
theorem en_MO_isHere {d : Nat} {p0 p1 : Int} {H : Hp} {Q : AV → Hp → Prop} : CC d MO_isHere [va p0, va p1] H Q = R d MO_isHere k_MO_isHere_0 [va p0, va p1, vu, vu] [] H Q := propext ⟨fun h => h.2, fun h => ⟨Nat.le_of_ble_eq_true rfl, h⟩⟩
theorem en_MO_takes {d : Nat} {p0 p1 : Int} {H : Hp} {Q : AV → Hp → Prop} : CC d MO_takes [va p0, va p1] H Q = R d MO_takes k_MO_takes_0 [va p0, va p1] [] H Q := propext ⟨fun h => h.2, fun h => ⟨Nat.le_of_ble_eq_true rfl, h⟩⟩
theorem en_MO_asks {d : Nat} {p0 p1 : Int} {H : Hp} {Q : AV → Hp → Prop} : CC d MO_asks [va p0, va p1] H Q = R d MO_asks k_MO_asks_0 [va p0, va p1] [] H Q := propext ⟨fun h => h.2, fun h => ⟨Nat.le_of_ble_eq_true rfl, h⟩⟩
theorem en_MO_takesSign {d : Nat} {p0 p1 : Int} {H : Hp} {Q : AV → Hp → Prop} : CC d MO_takesSign [va p0, vi p1] H Q = R d MO_takesSign k_MO_takesSign_0 [va p0, vi p1] [] H Q := propext ⟨fun h => h.2, fun h => ⟨Nat.le_of_ble_eq_true rfl, h⟩⟩
theorem en_MO_asksSign {d : Nat} {p0 p1 : Int} {H : Hp} {Q : AV → Hp → Prop} : CC d MO_asksSign [va p0, vi p1] H Q = R d MO_asksSign k_MO_asksSign_0 [va p0, vi p1] [] H Q := propext ⟨fun h => h.2, fun h => ⟨Nat.le_of_ble_eq_true rfl, h⟩⟩
theorem en_MO_number {d : Nat} {p0 p1 p2 : Int} {H : Hp} {Q : AV → Hp → Prop} : CC d MO_number [va p0, vi p1, vi p2] H Q = R d MO_number k_MO_number_0 [va p0, vi p1, vi p2, vu, vu] [] H Q := propext ⟨fun h => h.2, fun h => ⟨Nat.le_of_ble_eq_true rfl, h⟩⟩
theorem en_MO_signed {d : Nat} {p0 p1 : Int} {H : Hp} {Q : AV → Hp → Prop} : CC d MO_signed [va p0, vi p1] H Q = R d MO_signed k_MO_signed_0 [va p0, vi p1, vu, vu, vu] [] H Q := propext ⟨fun h => h.2, fun h => ⟨Nat.le_of_ble_eq_true rfl, h⟩⟩
theorem en_MO_isOwnHere {d : Nat} {p0 : Int} {H : Hp} {Q : AV → Hp → Prop} : CC d MO_isOwnHere [va p0] H Q = R d MO_isOwnHere k_MO_isOwnHere_0 [va p0, vu] [] H Q := propext ⟨fun h => h.2, fun h => ⟨Nat.le_of_ble_eq_true rfl, h⟩⟩
theorem en_MO_name {d : Nat} {p0 : Int} {H : Hp} {Q : AV → Hp → Prop} : CC d MO_name [va p0] H Q = R d MO_name k_MO_name_0 [va p0, vu, vu] [] H Q := propext ⟨fun h => h.2, fun h => ⟨Nat.le_of_ble_eq_true rfl, h⟩⟩
theorem en_MO_isFull {d : Nat} {p0 p1 p2 p3 : Int} {H : Hp} {Q : AV → Hp → Prop} : CC d MO_isFull [va p0, vi p1, vi p2, vi p3] H Q = R d MO_isFull k_MO_isFull_0 [va p0, vi p1, vi p2, vi p3] [] H Q := propext ⟨fun h => h.2, fun h => ⟨Nat.le_of_ble_eq_true rfl, h⟩⟩
theorem en_MO_seatAt {d : Nat} {p0 p1 : Int} {H : Hp} {Q : AV → Hp → Prop} : CC d MO_seatAt [va p0, vi p1] H Q = R d MO_seatAt k_MO_seatAt_0 [va p0, vi p1, vu] [] H Q := propext ⟨fun h => h.2, fun h => ⟨Nat.le_of_ble_eq_true rfl, h⟩⟩
theorem en_MO_seatTold {d : Nat} {p0 p1 : Int} {H : Hp} {Q : AV → Hp → Prop} : CC d MO_seatTold [va p0, vi p1] H Q = R d MO_seatTold k_MO_seatTold_0 [va p0, vi p1, vu, vu, vu] [] H Q := propext ⟨fun h => h.2, fun h => ⟨Nat.le_of_ble_eq_true rfl, h⟩⟩
theorem en_MO_rowerTold {d : Nat} {p0 p1 : Int} {H : Hp} {Q : AV → Hp → Prop} : CC d MO_rowerTold [va p0, vi p1] H Q = R d MO_rowerTold k_MO_rowerTold_0 [va p0, vi p1, vu, vu, vu, vu, vu] [] H Q := propext ⟨fun h => h.2, fun h => ⟨Nat.le_of_ble_eq_true rfl, h⟩⟩
theorem en_MO_fixTold {d : Nat} {p0 : Int} {H : Hp} {Q : AV → Hp → Prop} : CC d MO_fixTold [va p0] H Q = R d MO_fixTold k_MO_fixTold_0 [va p0, vu, vu, vu] [] H Q := propext ⟨fun h => h.2, fun h => ⟨Nat.le_of_ble_eq_true rfl, h⟩⟩
theorem en_MO_wantTold {d : Nat} {p0 : Int} {H : Hp} {Q : AV → Hp → Prop} : CC d MO_wantTold [va p0] H Q = R d MO_wantTold k_MO_wantTold_0 [va p0, vu, vu] [] H Q := propext ⟨fun h => h.2, fun h => ⟨Nat.le_of_ble_eq_true rfl, h⟩⟩
theorem en_MO_sidesTold {d : Nat} {p0 p1 : Int} {H : Hp} {Q : AV → Hp → Prop} : CC d MO_sidesTold [va p0, vi p1] H Q = R d MO_sidesTold k_MO_sidesTold_0 [va p0, vi p1, vu, vu, vu] [] H Q := propext ⟨fun h => h.2, fun h => ⟨Nat.le_of_ble_eq_true rfl, h⟩⟩
theorem en_MO_runTold {d : Nat} {p0 p1 : Int} {H : Hp} {Q : AV → Hp → Prop} : CC d MO_runTold [va p0, vi p1] H Q = R d MO_runTold k_MO_runTold_0 [va p0, vi p1, vu, vu, vu] [] H Q := propext ⟨fun h => h.2, fun h => ⟨Nat.le_of_ble_eq_true rfl, h⟩⟩
theorem en_MO_payTold {d : Nat} {p0 p1 : Int} {H : Hp} {Q : AV → Hp → Prop} : CC d MO_payTold [va p0, vi p1] H Q = R d MO_payTold k_MO_payTold_0 [va p0, vi p1, vu, vu] [] H Q := propext ⟨fun h => h.2, fun h => ⟨Nat.le_of_ble_eq_true rfl, h⟩⟩
theorem en_MO_statementTold {d : Nat} {p0 : Int} {H : Hp} {Q : AV → Hp → Prop} : CC d MO_statementTold [va p0] H Q = R d MO_statementTold k_MO_statementTold_0 [va p0, vu] [] H Q := propext ⟨fun h => h.2, fun h => ⟨Nat.le_of_ble_eq_true rfl, h⟩⟩
theorem en_MO_text {d : Nat} {p0 : Int} {H : Hp} {Q : AV → Hp → Prop} : CC d MO_text [va p0] H Q = R d MO_text k_MO_text_0 [va p0, vu] [] H Q := propext ⟨fun h => h.2, fun h => ⟨Nat.le_of_ble_eq_true rfl, h⟩⟩
theorem en_MO_stands {d : Nat} {p0 : Int} {H : Hp} {Q : AV → Hp → Prop} : CC d MO_stands [va p0] H Q = R d MO_stands k_MO_stands_0 [va p0, vu, vu] [] H Q := propext ⟨fun h => h.2, fun h => ⟨Nat.le_of_ble_eq_true rfl, h⟩⟩
theorem en_MO_fault {d : Nat} {p0 p1 : Int} {H : Hp} {Q : AV → Hp → Prop} : CC d MO_fault [va p0, vi p1] H Q = R d MO_fault k_MO_fault_0 [va p0, vi p1] [] H Q := propext ⟨fun h => h.2, fun h => ⟨Nat.le_of_ble_eq_true rfl, h⟩⟩
theorem en_MO_seats {d : Nat} {p0 : Int} {H : Hp} {Q : AV → Hp → Prop} : CC d MO_seats [va p0] H Q = R d MO_seats k_MO_seats_0 [va p0] [] H Q := propext ⟨fun h => h.2, fun h => ⟨Nat.le_of_ble_eq_true rfl, h⟩⟩
theorem en_MO_rowers {d : Nat} {p0 : Int} {H : Hp} {Q : AV → Hp → Prop} : CC d MO_rowers [va p0] H Q = R d MO_rowers k_MO_rowers_0 [va p0] [] H Q := propext ⟨fun h => h.2, fun h => ⟨Nat.le_of_ble_eq_true rfl, h⟩⟩
theorem en_MO_runs {d : Nat} {p0 : Int} {H : Hp} {Q : AV → Hp → Prop} : CC d MO_runs [va p0] H Q = R d MO_runs k_MO_runs_0 [va p0] [] H Q := propext ⟨fun h => h.2, fun h => ⟨Nat.le_of_ble_eq_true rfl, h⟩⟩
theorem en_MO_each {d : Nat} {p0 : Int} {H : Hp} {Q : AV → Hp → Prop} : CC d MO_each [va p0] H Q = R d MO_each k_MO_each_0 [va p0] [] H Q := propext ⟨fun h => h.2, fun h => ⟨Nat.le_of_ble_eq_true rfl, h⟩⟩
theorem en_MO_near {d : Nat} {p0 : Int} {H : Hp} {Q : AV → Hp → Prop} : CC d MO_near [va p0] H Q = R d MO_near k_MO_near_0 [va p0] [] H Q := propext ⟨fun h => h.2, fun h => ⟨Nat.le_of_ble_eq_true rfl, h⟩⟩
theorem en_MO_isSeat {d : Nat} {p0 p1 : Int} {H : Hp} {Q : AV → Hp → Prop} : CC d MO_isSeat [va p0, vi p1] H Q = R d MO_isSeat k_MO_isSeat_0 [va p0, vi p1] [] H Q := propext ⟨fun h => h.2, fun h => ⟨Nat.le_of_ble_eq_true rfl, h⟩⟩
theorem en_MO_isRower {d : Nat} {p0 p1 : Int} {H : Hp} {Q : AV → Hp → Prop} : CC d MO_isRower [va p0, vi p1] H Q = R d MO_isRower k_MO_isRower_0 [va p0, vi p1] [] H Q := propext ⟨fun h => h.2, fun h => ⟨Nat.le_of_ble_eq_true rfl, h⟩⟩
theorem en_MO_isFixed {d : Nat} {p0 p1 : Int} {H : Hp} {Q : AV → Hp → Prop} : CC d MO_isFixed [va p0, vi p1] H Q = R d MO_isFixed k_MO_isFixed_0 [va p0, vi p1] [] H Q := propext ⟨fun h => h.2, fun h => ⟨Nat.le_of_ble_eq_true rfl, h⟩⟩
theorem en_MO_strengthAt {d : Nat} {p0 p1 p2 : Int} {H : Hp} {Q : AV → Hp → Prop} : CC d MO_strengthAt [va p0, vi p1, vi p2] H Q = R d MO_strengthAt k_MO_strengthAt_0 [va p0, vi p1, vi p2, vu] [] H Q := propext ⟨fun h => h.2, fun h => ⟨Nat.le_of_ble_eq_true rfl, h⟩⟩
theorem en_MO_pullOf {d : Nat} {p0 p1 p2 : Int} {H : Hp} {Q : AV → Hp → Prop} : CC d MO_pullOf [va p0, vi p1, vi p2] H Q = R d MO_pullOf k_MO_pullOf_0 [va p0, vi p1, vi p2] [] H Q := propext ⟨fun h => h.2, fun h => ⟨Nat.le_of_ble_eq_true rfl, h⟩⟩
theorem en_MO_raised {d : Nat} {p0 p1 : Int} {H : Hp} {Q : AV → Hp → Prop} : CC d MO_raised [vi p0, vi p1] H Q = R d MO_raised k_MO_raised_0 [vi p0, vi p1, vu, vu, vu] [] H Q := propext ⟨fun h => h.2, fun h => ⟨Nat.le_of_ble_eq_true rfl, h⟩⟩
theorem en_MO_swingBy {d : Nat} {p0 p1 p2 p3 : Int} {H : Hp} {Q : AV → Hp → Prop} : CC d MO_swingBy [va p0, vi p1, vi p2, vi p3] H Q = R d MO_swingBy k_MO_swingBy_0 [va p0, vi p1, vi p2, vi p3, vu, vu, vu, vu, vu] [] H Q := propext ⟨fun h => h.2, fun h => ⟨Nat.le_of_ble_eq_true rfl, h⟩⟩
theorem en_MO_size {d : Nat} {p0 : Int} {H : Hp} {Q : AV → Hp → Prop} : CC d MO_size [vl p0] H Q = R d MO_size k_MO_size_0 [vl p0, vu] [] H Q := propext ⟨fun h => h.2, fun h => ⟨Nat.le_of_ble_eq_true rfl, h⟩⟩
theorem en_MO_isWantedOf {d : Nat} {p0 p1 : Int} {H : Hp} {Q : AV → Hp → Prop} : CC d MO_isWantedOf [va p0, vi p1] H Q = R d MO_isWantedOf k_MO_isWantedOf_0 [va p0, vi p1] [] H Q := propext ⟨fun h => h.2, fun h => ⟨Nat.le_of_ble_eq_true rfl, h⟩⟩
theorem en_MO_offBy {d : Nat} {p0 p1 : Int} {H : Hp} {Q : AV → Hp → Prop} : CC d MO_offBy [va p0, vi p1] H Q = R d MO_offBy k_MO_offBy_0 [va p0, vi p1, vu, vu, vu] [] H Q := propext ⟨fun h => h.2, fun h => ⟨Nat.le_of_ble_eq_true rfl, h⟩⟩
theorem en_MO_isGood {d : Nat} {p0 p1 : Int} {H : Hp} {Q : AV → Hp → Prop} : CC d MO_isGood [va p0, vi p1] H Q = R d MO_isGood k_MO_isGood_0 [va p0, vi p1, vu] [] H Q := propext ⟨fun h => h.2, fun h => ⟨Nat.le_of_ble_eq_true rfl, h⟩⟩
theorem en_MO_bits {d : Nat} {p0 : Int} {H : Hp} {Q : AV → Hp → Prop} : CC d MO_bits [vi p0] H Q = R d MO_bits k_MO_bits_0 [vi p0, vu, vu] [] H Q := propext ⟨fun h => h.2, fun h => ⟨Nat.le_of_ble_eq_true rfl, h⟩⟩
theorem en_MO_isLawful {d : Nat} {p0 p1 : Int} {H : Hp} {Q : AV → Hp → Prop} : CC d MO_isLawful [va p0, vi p1] H Q = R d MO_isLawful k_MO_isLawful_0 [va p0, vi p1, vu] [] H Q := propext ⟨fun h => h.2, fun h => ⟨Nat.le_of_ble_eq_true rfl, h⟩⟩
theorem en_MO_fixedMany {d : Nat} {p0 : Int} {H : Hp} {Q : AV → Hp → Prop} : CC d MO_fixedMany [va p0] H Q = R d MO_fixedMany k_MO_fixedMany_0 [va p0, vu, vu] [] H Q := propext ⟨fun h => h.2, fun h => ⟨Nat.le_of_ble_eq_true rfl, h⟩⟩
theorem en_MO_wants {d : Nat} {p0 : Int} {H : Hp} {Q : AV → Hp → Prop} : CC d MO_wants [va p0] H Q = R d MO_wants k_MO_wants_0 [va p0, vu, vu] [] H Q := propext ⟨fun h => h.2, fun h => ⟨Nat.le_of_ble_eq_true rfl, h⟩⟩
theorem en_MO_boat {d : Nat} {p0 p1 : Int} {H : Hp} {Q : AV → Hp → Prop} : CC d MO_boat [va p0, vi p1] H Q = R d MO_boat k_MO_boat_0 [va p0, vi p1] [] H Q := propext ⟨fun h => h.2, fun h => ⟨Nat.le_of_ble_eq_true rfl, h⟩⟩
theorem en_MO_letter {d : Nat} {p0 p1 p2 : Int} {H : Hp} {Q : AV → Hp → Prop} : CC d MO_letter [va p0, vi p1, vi p2] H Q = R d MO_letter k_MO_letter_0 [va p0, vi p1, vi p2, vu, vu, vu, vu, vu] [] H Q := propext ⟨fun h => h.2, fun h => ⟨Nat.le_of_ble_eq_true rfl, h⟩⟩
theorem en_MO_seat {d : Nat} {p0 p1 p2 : Int} {H : Hp} {Q : AV → Hp → Prop} : CC d MO_seat [va p0, vi p1, vi p2] H Q = R d MO_seat k_MO_seat_0 [va p0, vi p1, vi p2] [] H Q := propext ⟨fun h => h.2, fun h => ⟨Nat.le_of_ble_eq_true rfl, h⟩⟩
theorem en_MO_seatOf {d : Nat} {p0 p1 : Int} {H : Hp} {Q : AV → Hp → Prop} : CC d MO_seatOf [va p0, vi p1] H Q = R d MO_seatOf k_MO_seatOf_0 [va p0, vi p1, vu] [] H Q := propext ⟨fun h => h.2, fun h => ⟨Nat.le_of_ble_eq_true rfl, h⟩⟩
theorem en_MO_rower {d : Nat} {p0 p1 p2 : Int} {H : Hp} {Q : AV → Hp → Prop} : CC d MO_rower [va p0, vi p1, vi p2] H Q = R d MO_rower k_MO_rower_0 [va p0, vi p1, vi p2] [] H Q := propext ⟨fun h => h.2, fun h => ⟨Nat.le_of_ble_eq_true rfl, h⟩⟩
theorem en_MO_isPower {d : Nat} {p0 : Int} {H : Hp} {Q : AV → Hp → Prop} : CC d MO_isPower [vi p0] H Q = R d MO_isPower k_MO_isPower_0 [vi p0] [] H Q := propext ⟨fun h => h.2, fun h => ⟨Nat.le_of_ble_eq_true rfl, h⟩⟩
theorem en_MO_want {d : Nat} {p0 p1 : Int} {H : Hp} {Q : AV → Hp → Prop} : CC d MO_want [va p0, vi p1] H Q = R d MO_want k_MO_want_0 [va p0, vi p1] [] H Q := propext ⟨fun h => h.2, fun h => ⟨Nat.le_of_ble_eq_true rfl, h⟩⟩
theorem en_MO_swing {d : Nat} {p0 p1 p2 : Int} {H : Hp} {Q : AV → Hp → Prop} : CC d MO_swing [va p0, vi p1, vi p2] H Q = R d MO_swing k_MO_swing_0 [va p0, vi p1, vi p2] [] H Q := propext ⟨fun h => h.2, fun h => ⟨Nat.le_of_ble_eq_true rfl, h⟩⟩
theorem en_MO_off {d : Nat} {p0 : Int} {H : Hp} {Q : AV → Hp → Prop} : CC d MO_off [va p0] H Q = R d MO_off k_MO_off_0 [va p0] [] H Q := propext ⟨fun h => h.2, fun h => ⟨Nat.le_of_ble_eq_true rfl, h⟩⟩
theorem en_MO_good {d : Nat} {p0 : Int} {H : Hp} {Q : AV → Hp → Prop} : CC d MO_good [va p0] H Q = R d MO_good k_MO_good_0 [va p0] [] H Q := propext ⟨fun h => h.2, fun h => ⟨Nat.le_of_ble_eq_true rfl, h⟩⟩
theorem en_MO_lawful {d : Nat} {p0 : Int} {H : Hp} {Q : AV → Hp → Prop} : CC d MO_lawful [va p0] H Q = R d MO_lawful k_MO_lawful_0 [va p0] [] H Q := propext ⟨fun h => h.2, fun h => ⟨Nat.le_of_ble_eq_true rfl, h⟩⟩
theorem en_MO_heading {d : Nat} {p0 : Int} {H : Hp} {Q : AV → Hp → Prop} : CC d MO_heading [va p0] H Q = R d MO_heading k_MO_heading_0 [va p0] [] H Q := propext ⟨fun h => h.2, fun h => ⟨Nat.le_of_ble_eq_true rfl, h⟩⟩
theorem en_MO_keeps {d : Nat} {p0 : Int} {H : Hp} {Q : AV → Hp → Prop} : CC d MO_keeps [va p0] H Q = R d MO_keeps k_MO_keeps_0 [va p0, vu] [] H Q := propext ⟨fun h => h.2, fun h => ⟨Nat.le_of_ble_eq_true rfl, h⟩⟩
theorem en_MO_undo {d : Nat} {p0 : Int} {H : Hp} {Q : AV → Hp → Prop} : CC d MO_undo [va p0] H Q = R d MO_undo k_MO_undo_0 [va p0, vu] [] H Q := propext ⟨fun h => h.2, fun h => ⟨Nat.le_of_ble_eq_true rfl, h⟩⟩
theorem en_MO_turn {d : Nat} {p0 p1 : Int} {H : Hp} {Q : AV → Hp → Prop} : CC d MO_turn [va p0, vi p1] H Q = R d MO_turn k_MO_turn_0 [va p0, vi p1] [] H Q := propext ⟨fun h => h.2, fun h => ⟨Nat.le_of_ble_eq_true rfl, h⟩⟩
theorem en_MO_changesSeats {d : Nat} {p0 p1 p2 : Int} {H : Hp} {Q : AV → Hp → Prop} : CC d MO_changesSeats [va p0, vi p1, vi p2] H Q = R d MO_changesSeats k_MO_changesSeats_0 [va p0, vi p1, vi p2, vu] [] H Q := propext ⟨fun h => h.2, fun h => ⟨Nat.le_of_ble_eq_true rfl, h⟩⟩
theorem en_MO_canSwap {d : Nat} {p0 p1 p2 : Int} {H : Hp} {Q : AV → Hp → Prop} : CC d MO_canSwap [va p0, vi p1, vi p2] H Q = R d MO_canSwap k_MO_canSwap_0 [va p0, vi p1, vi p2] [] H Q := propext ⟨fun h => h.2, fun h => ⟨Nat.le_of_ble_eq_true rfl, h⟩⟩
theorem en_MO_swap {d : Nat} {p0 p1 p2 : Int} {H : Hp} {Q : AV → Hp → Prop} : CC d MO_swap [va p0, vi p1, vi p2] H Q = R d MO_swap k_MO_swap_0 [va p0, vi p1, vi p2] [] H Q := propext ⟨fun h => h.2, fun h => ⟨Nat.le_of_ble_eq_true rfl, h⟩⟩
theorem en_MO_canGo {d : Nat} {p0 p1 : Int} {H : Hp} {Q : AV → Hp → Prop} : CC d MO_canGo [va p0, vi p1] H Q = R d MO_canGo k_MO_canGo_0 [va p0, vi p1] [] H Q := propext ⟨fun h => h.2, fun h => ⟨Nat.le_of_ble_eq_true rfl, h⟩⟩
theorem en_MO_stroke {d : Nat} {p0 p1 : Int} {H : Hp} {Q : AV → Hp → Prop} : CC d MO_stroke [va p0, vi p1] H Q = R d MO_stroke k_MO_stroke_0 [va p0, vi p1] [] H Q := propext ⟨fun h => h.2, fun h => ⟨Nat.le_of_ble_eq_true rfl, h⟩⟩
theorem en_MO_seed {d : Nat} {p0 p1 : Int} {H : Hp} {Q : AV → Hp → Prop} : CC d MO_seed [va p0, vi p1] H Q = R d MO_seed k_MO_seed_0 [va p0, vi p1] [] H Q := propext ⟨fun h => h.2, fun h => ⟨Nat.le_of_ble_eq_true rfl, h⟩⟩
theorem en_MO_drawOf {d : Nat} {p0 p1 : Int} {H : Hp} {Q : AV → Hp → Prop} : CC d MO_drawOf [va p0, vi p1] H Q = R d MO_drawOf k_MO_drawOf_0 [va p0, vi p1] [] H Q := propext ⟨fun h => h.2, fun h => ⟨Nat.le_of_ble_eq_true rfl, h⟩⟩
theorem en_MO_rows {d : Nat} {p0 : Int} {H : Hp} {Q : AV → Hp → Prop} : CC d MO_rows [va p0] H Q = R d MO_rows k_MO_rows_0 [va p0, vu, vu, vu, vu] [] H Q := propext ⟨fun h => h.2, fun h => ⟨Nat.le_of_ble_eq_true rfl, h⟩⟩
theorem en_MO_row {d : Nat} {p0 p1 : Int} {H : Hp} {Q : AV → Hp → Prop} : CC d MO_row [va p0, vi p1] H Q = R d MO_row k_MO_row_0 [va p0, vi p1, vu] [] H Q := propext ⟨fun h => h.2, fun h => ⟨Nat.le_of_ble_eq_true rfl, h⟩⟩
theorem en_MO_ways {d : Nat} {p0 p1 : Int} {H : Hp} {Q : AV → Hp → Prop} : CC d MO_ways [va p0, vi p1] H Q = R d MO_ways k_MO_ways_0 [va p0, vi p1, vu, vu, vu, vu, vu] [] H Q := propext ⟨fun h => h.2, fun h => ⟨Nat.le_of_ble_eq_true rfl, h⟩⟩
theorem en_MO_sumBy {d : Nat} {p0 p1 p2 : Int} {H : Hp} {Q : AV → Hp → Prop} : CC d MO_sumBy [vi p0, vi p1, vi p2] H Q = R d MO_sumBy k_MO_sumBy_0 [vi p0, vi p1, vi p2, vu, vu, vu] [] H Q := propext ⟨fun h => h.2, fun h => ⟨Nat.le_of_ble_eq_true rfl, h⟩⟩
theorem en_MO_made {d : Nat} {p0 p1 p2 : Int} {H : Hp} {Q : AV → Hp → Prop} : CC d MO_made [va p0, vi p1, vi p2] H Q = R d MO_made k_MO_made_0 [va p0, vi p1, vi p2, vu, vu] [] H Q := propext ⟨fun h => h.2, fun h => ⟨Nat.le_of_ble_eq_true rfl, h⟩⟩
theorem en_MO_doubled {d : Nat} {p0 p1 p2 : Int} {H : Hp} {Q : AV → Hp → Prop} : CC d MO_doubled [va p0, vi p1, vi p2] H Q = R d MO_doubled k_MO_doubled_0 [va p0, vi p1, vi p2, vu, vu, vu] [] H Q := propext ⟨fun h => h.2, fun h => ⟨Nat.le_of_ble_eq_true rfl, h⟩⟩
theorem en_MO_still {d : Nat} {p0 p1 p2 : Int} {H : Hp} {Q : AV → Hp → Prop} : CC d MO_still [va p0, vi p1, vi p2] H Q = R d MO_still k_MO_still_0 [va p0, vi p1, vi p2, vu] [] H Q := propext ⟨fun h => h.2, fun h => ⟨Nat.le_of_ble_eq_true rfl, h⟩⟩
theorem en_MO_isNearest {d : Nat} {p0 : Int} {H : Hp} {Q : AV → Hp → Prop} : CC d MO_isNearest [va p0] H Q = R d MO_isNearest k_MO_isNearest_0 [va p0, vu, vu, vu] [] H Q := propext ⟨fun h => h.2, fun h => ⟨Nat.le_of_ble_eq_true rfl, h⟩⟩
theorem en_MO_nearest {d : Nat} {p0 p1 : Int} {H : Hp} {Q : AV → Hp → Prop} : CC d MO_nearest [va p0, vi p1] H Q = R d MO_nearest k_MO_nearest_0 [va p0, vi p1, vu, vu] [] H Q := propext ⟨fun h => h.2, fun h => ⟨Nat.le_of_ble_eq_true rfl, h⟩⟩
theorem en_MO_putsAside {d : Nat} {p0 : Int} {H : Hp} {Q : AV → Hp → Prop} : CC d MO_putsAside [va p0] H Q = R d MO_putsAside k_MO_putsAside_0 [va p0, vu] [] H Q := propext ⟨fun h => h.2, fun h => ⟨Nat.le_of_ble_eq_true rfl, h⟩⟩
theorem en_MO_takesBack {d : Nat} {p0 : Int} {H : Hp} {Q : AV → Hp → Prop} : CC d MO_takesBack [va p0] H Q = R d MO_takesBack k_MO_takesBack_0 [va p0, vu] [] H Q := propext ⟨fun h => h.2, fun h => ⟨Nat.le_of_ble_eq_true rfl, h⟩⟩
theorem en_MO_sitBy {d : Nat} {p0 p1 : Int} {H : Hp} {Q : AV → Hp → Prop} : CC d MO_sitBy [va p0, vi p1] H Q = R d MO_sitBy k_MO_sitBy_0 [va p0, vi p1, vu, vu, vu] [] H Q := propext ⟨fun h => h.2, fun h => ⟨Nat.le_of_ble_eq_true rfl, h⟩⟩
theorem en_MO_seated {d : Nat} {p0 p1 : Int} {H : Hp} {Q : AV → Hp → Prop} : CC d MO_seated [va p0, vi p1] H Q = R d MO_seated k_MO_seated_0 [va p0, vi p1, vu, vu, vu, vu, vu, vu, vu] [] H Q := propext ⟨fun h => h.2, fun h => ⟨Nat.le_of_ble_eq_true rfl, h⟩⟩
theorem en_MO_actMany {d : Nat} {p0 : Int} {H : Hp} {Q : AV → Hp → Prop} : CC d MO_actMany [va p0] H Q = R d MO_actMany k_MO_actMany_0 [va p0] [] H Q := propext ⟨fun h => h.2, fun h => ⟨Nat.le_of_ble_eq_true rfl, h⟩⟩
theorem en_MO_acts {d : Nat} {p0 p1 : Int} {H : Hp} {Q : AV → Hp → Prop} : CC d MO_acts [va p0, vi p1] H Q = R d MO_acts k_MO_acts_0 [va p0, vi p1, vu, vu, vu] [] H Q := propext ⟨fun h => h.2, fun h => ⟨Nat.le_of_ble_eq_true rfl, h⟩⟩
theorem en_MO_isRight {d : Nat} {p0 : Int} {H : Hp} {Q : AV → Hp → Prop} : CC d MO_isRight [va p0] H Q = R d MO_isRight k_MO_isRight_0 [va p0] [] H Q := propext ⟨fun h => h.2, fun h => ⟨Nat.le_of_ble_eq_true rfl, h⟩⟩
theorem en_MO_isOneOff {d : Nat} {p0 : Int} {H : Hp} {Q : AV → Hp → Prop} : CC d MO_isOneOff [va p0] H Q = R d MO_isOneOff k_MO_isOneOff_0 [va p0, vu, vu, vu] [] H Q := propext ⟨fun h => h.2, fun h => ⟨Nat.le_of_ble_eq_true rfl, h⟩⟩
theorem en_MO_isTwoOff {d : Nat} {p0 : Int} {H : Hp} {Q : AV → Hp → Prop} : CC d MO_isTwoOff [va p0] H Q = R d MO_isTwoOff k_MO_isTwoOff_0 [va p0, vu, vu, vu] [] H Q := propext ⟨fun h => h.2, fun h => ⟨Nat.le_of_ble_eq_true rfl, h⟩⟩
theorem en_MO_isThreeOff {d : Nat} {p0 : Int} {H : Hp} {Q : AV → Hp → Prop} : CC d MO_isThreeOff [va p0] H Q = R d MO_isThreeOff k_MO_isThreeOff_0 [va p0, vu, vu, vu] [] H Q := propext ⟨fun h => h.2, fun h => ⟨Nat.le_of_ble_eq_true rfl, h⟩⟩
theorem en_MO_changes {d : Nat} {p0 : Int} {H : Hp} {Q : AV → Hp → Prop} : CC d MO_changes [va p0] H Q = R d MO_changes k_MO_changes_0 [va p0] [] H Q := propext ⟨fun h => h.2, fun h => ⟨Nat.le_of_ble_eq_true rfl, h⟩⟩
theorem en_MO_greater {d : Nat} {p0 p1 : Int} {H : Hp} {Q : AV → Hp → Prop} : CC d MO_greater [vl p0, vl p1] H Q = R d MO_greater k_MO_greater_0 [vl p0, vu, vl p1, vu] [] H Q := propext ⟨fun h => h.2, fun h => ⟨Nat.le_of_ble_eq_true rfl, h⟩⟩
theorem en_MO_greatest {d : Nat} {p0 p1 p2 p3 : Int} {H : Hp} {Q : AV → Hp → Prop} : CC d MO_greatest [va p0, vi p1, vi p2, vi p3] H Q = R d MO_greatest k_MO_greatest_0 [va p0, vi p1, vi p2, vi p3, vu, vu, vu] [] H Q := propext ⟨fun h => h.2, fun h => ⟨Nat.le_of_ble_eq_true rfl, h⟩⟩
theorem en_MO_race {d : Nat} {p0 p1 : Int} {H : Hp} {Q : AV → Hp → Prop} : CC d MO_race [va p0, vi p1] H Q = R d MO_race k_MO_race_0 [va p0, vi p1] [] H Q := propext ⟨fun h => h.2, fun h => ⟨Nat.le_of_ble_eq_true rfl, h⟩⟩
theorem en_MO_stillest {d : Nat} {p0 p1 p2 : Int} {H : Hp} {Q : AV → Hp → Prop} : CC d MO_stillest [va p0, vi p1, vi p2] H Q = R d MO_stillest k_MO_stillest_0 [va p0, vi p1, vi p2, vu, vu, vu, vu, vu, vu] [] H Q := propext ⟨fun h => h.2, fun h => ⟨Nat.le_of_ble_eq_true rfl, h⟩⟩
theorem en_MO_underBy {d : Nat} {p0 p1 p2 p3 : Int} {H : Hp} {Q : AV → Hp → Prop} : CC d MO_underBy [va p0, vi p1, vi p2, vi p3] H Q = R d MO_underBy k_MO_underBy_0 [va p0, vi p1, vi p2, vi p3, vu, vu, vu, vu, vu, vu, vu] [] H Q := propext ⟨fun h => h.2, fun h => ⟨Nat.le_of_ble_eq_true rfl, h⟩⟩
theorem en_MO_under {d : Nat} {p0 p1 p2 : Int} {H : Hp} {Q : AV → Hp → Prop} : CC d MO_under [va p0, vi p1, vi p2] H Q = R d MO_under k_MO_under_0 [va p0, vi p1, vi p2, vu, vu] [] H Q := propext ⟨fun h => h.2, fun h => ⟨Nat.le_of_ble_eq_true rfl, h⟩⟩
theorem en_MO_triesTold {d : Nat} {p0 : Int} {H : Hp} {Q : AV → Hp → Prop} : CC d MO_triesTold [va p0] H Q = R d MO_triesTold k_MO_triesTold_0 [va p0, vu] [] H Q := propext ⟨fun h => h.2, fun h => ⟨Nat.le_of_ble_eq_true rfl, h⟩⟩
theorem en_MO_isFit {d : Nat} {p0 p1 : Int} {H : Hp} {Q : AV → Hp → Prop} : CC d MO_isFit [va p0, vi p1] H Q = R d MO_isFit k_MO_isFit_0 [va p0, vi p1, vu, vu, vu, vu, vu, vu] [] H Q := propext ⟨fun h => h.2, fun h => ⟨Nat.le_of_ble_eq_true rfl, h⟩⟩
theorem en_MO_firstUnfit {d : Nat} {p0 : Int} {H : Hp} {Q : AV → Hp → Prop} : CC d MO_firstUnfit [va p0] H Q = R d MO_firstUnfit k_MO_firstUnfit_0 [va p0, vu] [] H Q := propext ⟨fun h => h.2, fun h => ⟨Nat.le_of_ble_eq_true rfl, h⟩⟩
theorem en_MO_fits {d : Nat} {p0 : Int} {H : Hp} {Q : AV → Hp → Prop} : CC d MO_fits [va p0] H Q = R d MO_fits k_MO_fits_0 [va p0] [] H Q := propext ⟨fun h => h.2, fun h => ⟨Nat.le_of_ble_eq_true rfl, h⟩⟩
theorem en_MO_fittingRows {d : Nat} {p0 : Int} {H : Hp} {Q : AV → Hp → Prop} : CC d MO_fittingRows [va p0] H Q = R d MO_fittingRows k_MO_fittingRows_0 [va p0, vu, vu, vu, vu, vu, vu] [] H Q := propext ⟨fun h => h.2, fun h => ⟨Nat.le_of_ble_eq_true rfl, h⟩⟩
theorem en_MO_strengths {d : Nat} {p0 p1 p2 : Int} {H : Hp} {Q : AV → Hp → Prop} : CC d MO_strengths [va p0, vi p1, vi p2] H Q = R d MO_strengths k_MO_strengths_0 [va p0, vi p1, vi p2, vu] [] H Q := propext ⟨fun h => h.2, fun h => ⟨Nat.le_of_ble_eq_true rfl, h⟩⟩
theorem en_MO_crooked {d : Nat} {p0 : Int} {H : Hp} {Q : AV → Hp → Prop} : CC d MO_crooked [va p0] H Q = R d MO_crooked k_MO_crooked_0 [va p0, vu, vu, vu] [] H Q := propext ⟨fun h => h.2, fun h => ⟨Nat.le_of_ble_eq_true rfl, h⟩⟩
theorem en_MO_payments {d : Nat} {p0 : Int} {H : Hp} {Q : AV → Hp → Prop} : CC d MO_payments [va p0] H Q = R d MO_payments k_MO_payments_0 [va p0] [] H Q := propext ⟨fun h => h.2, fun h => ⟨Nat.le_of_ble_eq_true rfl, h⟩⟩
theorem en_MO_apartBy {d : Nat} {p0 p1 p2 : Int} {H : Hp} {Q : AV → Hp → Prop} : CC d MO_apartBy [va p0, vi p1, vi p2] H Q = R d MO_apartBy k_MO_apartBy_0 [va p0, vi p1, vi p2, vu, vu, vu, vu, vu] [] H Q := propext ⟨fun h => h.2, fun h => ⟨Nat.le_of_ble_eq_true rfl, h⟩⟩
theorem en_MO_heirs {d : Nat} {p0 p1 : Int} {H : Hp} {Q : AV → Hp → Prop} : CC d MO_heirs [va p0, vi p1] H Q = R d MO_heirs k_MO_heirs_0 [va p0, vi p1, vu, vu] [] H Q := propext ⟨fun h => h.2, fun h => ⟨Nat.le_of_ble_eq_true rfl, h⟩⟩
theorem en_MO_apart {d : Nat} {p0 p1 p2 : Int} {H : Hp} {Q : AV → Hp → Prop} : CC d MO_apart [va p0, vi p1, vi p2] H Q = R d MO_apart k_MO_apart_0 [va p0, vi p1, vi p2] [] H Q := propext ⟨fun h => h.2, fun h => ⟨Nat.le_of_ble_eq_true rfl, h⟩⟩
theorem en_MO_qCode {d : Nat} {p0 p1 : Int} {H : Hp} {Q : AV → Hp → Prop} : CC d MO_qCode [va p0, vi p1] H Q = R d MO_qCode k_MO_qCode_0 [va p0, vi p1] [] H Q := propext ⟨fun h => h.2, fun h => ⟨Nat.le_of_ble_eq_true rfl, h⟩⟩
theorem en_MO_qOpens {d : Nat} {p0 p1 p2 : Int} {H : Hp} {Q : AV → Hp → Prop} : CC d MO_qOpens [va p0, vi p1, vi p2] H Q = R d MO_qOpens k_MO_qOpens_0 [va p0, vi p1, vi p2] [] H Q := propext ⟨fun h => h.2, fun h => ⟨Nat.le_of_ble_eq_true rfl, h⟩⟩
theorem en_MO_qIsOn {d : Nat} {p0 p1 : Int} {H : Hp} {Q : AV → Hp → Prop} : CC d MO_qIsOn [va p0, vi p1] H Q = R d MO_qIsOn k_MO_qIsOn_0 [va p0, vi p1] [] H Q := propext ⟨fun h => h.2, fun h => ⟨Nat.le_of_ble_eq_true rfl, h⟩⟩
theorem en_MO_qDrops {d : Nat} {p0 : Int} {H : Hp} {Q : AV → Hp → Prop} : CC d MO_qDrops [va p0] H Q = R d MO_qDrops k_MO_qDrops_0 [va p0] [] H Q := propext ⟨fun h => h.2, fun h => ⟨Nat.le_of_ble_eq_true rfl, h⟩⟩
theorem en_MO_qIsBracket {d : Nat} {p0 : Int} {H : Hp} {Q : AV → Hp → Prop} : CC d MO_qIsBracket [vi p0] H Q = R d MO_qIsBracket k_MO_qIsBracket_0 [vi p0] [] H Q := propext ⟨fun h => h.2, fun h => ⟨Nat.le_of_ble_eq_true rfl, h⟩⟩
theorem en_MO_qBracket {d : Nat} {p0 : Int} {H : Hp} {Q : AV → Hp → Prop} : CC d MO_qBracket [va p0] H Q = R d MO_qBracket k_MO_qBracket_0 [va p0, vu] [] H Q := propext ⟨fun h => h.2, fun h => ⟨Nat.le_of_ble_eq_true rfl, h⟩⟩
theorem en_MO_qDropsToBracket {d : Nat} {p0 : Int} {H : Hp} {Q : AV → Hp → Prop} : CC d MO_qDropsToBracket [va p0] H Q = R d MO_qDropsToBracket k_MO_qDropsToBracket_0 [va p0] [] H Q := propext ⟨fun h => h.2, fun h => ⟨Nat.le_of_ble_eq_true rfl, h⟩⟩
theorem en_MO_qWordHere {d : Nat} {p0 : Int} {H : Hp} {Q : AV → Hp → Prop} : CC d MO_qWordHere [va p0] H Q = R d MO_qWordHere k_MO_qWordHere_0 [va p0] [] H Q := propext ⟨fun h => h.2, fun h => ⟨Nat.le_of_ble_eq_true rfl, h⟩⟩
theorem en_MO_qWordOf {d : Nat} {p0 p1 p2 : Int} {H : Hp} {Q : AV → Hp → Prop} : CC d MO_qWordOf [va p0, vi p1, vi p2] H Q = R d MO_qWordOf k_MO_qWordOf_0 [va p0, vi p1, vi p2, vu] [] H Q := propext ⟨fun h => h.2, fun h => ⟨Nat.le_of_ble_eq_true rfl, h⟩⟩
theorem en_MO_qAsksWord {d : Nat} {p0 p1 : Int} {H : Hp} {Q : AV → Hp → Prop} : CC d MO_qAsksWord [va p0, vi p1] H Q = R d MO_qAsksWord k_MO_qAsksWord_0 [va p0, vi p1] [] H Q := propext ⟨fun h => h.2, fun h => ⟨Nat.le_of_ble_eq_true rfl, h⟩⟩
theorem en_MO_qEndsPart {d : Nat} {p0 : Int} {H : Hp} {Q : AV → Hp → Prop} : CC d MO_qEndsPart [va p0] H Q = R d MO_qEndsPart k_MO_qEndsPart_0 [va p0] [] H Q := propext ⟨fun h => h.2, fun h => ⟨Nat.le_of_ble_eq_true rfl, h⟩⟩
theorem en_MO_qPartTold {d : Nat} {p0 : Int} {H : Hp} {Q : AV → Hp → Prop} : CC d MO_qPartTold [va p0] H Q = R d MO_qPartTold k_MO_qPartTold_0 [va p0, vu, vu, vu, vu, vu] [] H Q := propext ⟨fun h => h.2, fun h => ⟨Nat.le_of_ble_eq_true rfl, h⟩⟩
theorem en_MO_qGoesOn {d : Nat} {p0 : Int} {H : Hp} {Q : AV → Hp → Prop} : CC d MO_qGoesOn [va p0] H Q = R d MO_qGoesOn k_MO_qGoesOn_0 [va p0, vu] [] H Q := propext ⟨fun h => h.2, fun h => ⟨Nat.le_of_ble_eq_true rfl, h⟩⟩
theorem en_MO_qSums {d : Nat} {p0 : Int} {H : Hp} {Q : AV → Hp → Prop} : CC d MO_qSums [va p0] H Q = R d MO_qSums k_MO_qSums_0 [va p0, vu, vu] [] H Q := propext ⟨fun h => h.2, fun h => ⟨Nat.le_of_ble_eq_true rfl, h⟩⟩
theorem en_MO_qFact {d : Nat} {p0 : Int} {H : Hp} {Q : AV → Hp → Prop} : CC d MO_qFact [va p0] H Q = R d MO_qFact k_MO_qFact_0 [va p0, vu] [] H Q := propext ⟨fun h => h.2, fun h => ⟨Nat.le_of_ble_eq_true rfl, h⟩⟩
theorem en_MO_qHasSquare {d : Nat} {p0 : Int} {H : Hp} {Q : AV → Hp → Prop} : CC d MO_qHasSquare [va p0] H Q = R d MO_qHasSquare k_MO_qHasSquare_0 [va p0, vu] [] H Q := propext ⟨fun h => h.2, fun h => ⟨Nat.le_of_ble_eq_true rfl, h⟩⟩
theorem en_MO_qDropsNots {d : Nat} {p0 : Int} {H : Hp} {Q : AV → Hp → Prop} : CC d MO_qDropsNots [va p0] H Q = R d MO_qDropsNots k_MO_qDropsNots_0 [va p0] [] H Q := propext ⟨fun h => h.2, fun h => ⟨Nat.le_of_ble_eq_true rfl, h⟩⟩
theorem en_MO_qTest {d : Nat} {p0 : Int} {H : Hp} {Q : AV → Hp → Prop} : CC d MO_qTest [va p0] H Q = R d MO_qTest k_MO_qTest_0 [va p0, vu, vu] [] H Q := propext ⟨fun h => h.2, fun h => ⟨Nat.le_of_ble_eq_true rfl, h⟩⟩
theorem en_MO_qGoesOnTest {d : Nat} {p0 : Int} {H : Hp} {Q : AV → Hp → Prop} : CC d MO_qGoesOnTest [va p0] H Q = R d MO_qGoesOnTest k_MO_qGoesOnTest_0 [va p0] [] H Q := propext ⟨fun h => h.2, fun h => ⟨Nat.le_of_ble_eq_true rfl, h⟩⟩
theorem en_MO_qClip {d : Nat} {p0 : Int} {H : Hp} {Q : AV → Hp → Prop} : CC d MO_qClip [vl p0] H Q = R d MO_qClip k_MO_qClip_0 [vl p0, vu] [] H Q := propext ⟨fun h => h.2, fun h => ⟨Nat.le_of_ble_eq_true rfl, h⟩⟩
theorem en_MO_qFloor {d : Nat} {p0 p1 : Int} {H : Hp} {Q : AV → Hp → Prop} : CC d MO_qFloor [vl p0, vl p1] H Q = R d MO_qFloor k_MO_qFloor_0 [vl p0, vu, vl p1, vu, vu, vu] [] H Q := propext ⟨fun h => h.2, fun h => ⟨Nat.le_of_ble_eq_true rfl, h⟩⟩
theorem en_MO_qPuts {d : Nat} {p0 p1 : Int} {H : Hp} {Q : AV → Hp → Prop} : CC d MO_qPuts [va p0, vl p1] H Q = R d MO_qPuts k_MO_qPuts_0 [va p0, vl p1, vu] [] H Q := propext ⟨fun h => h.2, fun h => ⟨Nat.le_of_ble_eq_true rfl, h⟩⟩
theorem en_MO_qJoins {d : Nat} {p0 p1 : Int} {H : Hp} {Q : AV → Hp → Prop} : CC d MO_qJoins [va p0, vi p1] H Q = R d MO_qJoins k_MO_qJoins_0 [va p0, vi p1, vu, vu, vu, vu] [] H Q := propext ⟨fun h => h.2, fun h => ⟨Nat.le_of_ble_eq_true rfl, h⟩⟩
theorem en_MO_qPartOf {d : Nat} {p0 p1 p2 : Int} {H : Hp} {Q : AV → Hp → Prop} : CC d MO_qPartOf [va p0, vi p1, vi p2] H Q = R d MO_qPartOf k_MO_qPartOf_0 [va p0, vi p1, vi p2] [] H Q := propext ⟨fun h => h.2, fun h => ⟨Nat.le_of_ble_eq_true rfl, h⟩⟩
theorem en_MO_qOf {d : Nat} {p0 p1 p2 p3 : Int} {H : Hp} {Q : AV → Hp → Prop} : CC d MO_qOf [va p0, vi p1, vl p2, vi p3] H Q = R d MO_qOf k_MO_qOf_0 [va p0, vi p1, vl p2, vu, vi p3] [] H Q := propext ⟨fun h => h.2, fun h => ⟨Nat.le_of_ble_eq_true rfl, h⟩⟩
theorem en_MO_qTold {d : Nat} {p0 p1 : Int} {H : Hp} {Q : AV → Hp → Prop} : CC d MO_qTold [va p0, vi p1] H Q = R d MO_qTold k_MO_qTold_0 [va p0, vi p1, vu, vu] [] H Q := propext ⟨fun h => h.2, fun h => ⟨Nat.le_of_ble_eq_true rfl, h⟩⟩
theorem en_MO_qKind {d : Nat} {p0 : Int} {H : Hp} {Q : AV → Hp → Prop} : CC d MO_qKind [va p0] H Q = R d MO_qKind k_MO_qKind_0 [va p0, vu] [] H Q := propext ⟨fun h => h.2, fun h => ⟨Nat.le_of_ble_eq_true rfl, h⟩⟩
theorem en_MO_qTakes {d : Nat} {p0 p1 p2 p3 : Int} {H : Hp} {Q : AV → Hp → Prop} : CC d MO_qTakes [va p0, vi p1, vl p2, vi p3] H Q = R d MO_qTakes k_MO_qTakes_0 [va p0, vi p1, vl p2, vu, vi p3, vu] [] H Q := propext ⟨fun h => h.2, fun h => ⟨Nat.le_of_ble_eq_true rfl, h⟩⟩
theorem en_MO_ask {d : Nat} {p0 : Int} {H : Hp} {Q : AV → Hp → Prop} : CC d MO_ask [va p0] H Q = R d MO_ask k_MO_ask_0 [va p0, vu, vu, vu] [] H Q := propext ⟨fun h => h.2, fun h => ⟨Nat.le_of_ble_eq_true rfl, h⟩⟩
theorem en_MO_qOffAt {d : Nat} {p0 p1 : Int} {H : Hp} {Q : AV → Hp → Prop} : CC d MO_qOffAt [va p0, vi p1] H Q = R d MO_qOffAt k_MO_qOffAt_0 [va p0, vi p1, vu, vu, vu] [] H Q := propext ⟨fun h => h.2, fun h => ⟨Nat.le_of_ble_eq_true rfl, h⟩⟩
theorem en_MO_qIsGoodAt {d : Nat} {p0 p1 : Int} {H : Hp} {Q : AV → Hp → Prop} : CC d MO_qIsGoodAt [va p0, vi p1] H Q = R d MO_qIsGoodAt k_MO_qIsGoodAt_0 [va p0, vi p1, vu, vu] [] H Q := propext ⟨fun h => h.2, fun h => ⟨Nat.le_of_ble_eq_true rfl, h⟩⟩
theorem en_MO_checked {d : Nat} {p0 p1 : Int} {H : Hp} {Q : AV → Hp → Prop} : CC d MO_checked [va p0, vi p1] H Q = R d MO_checked k_MO_checked_0 [va p0, vi p1, vu, vu] [] H Q := propext ⟨fun h => h.2, fun h => ⟨Nat.le_of_ble_eq_true rfl, h⟩⟩
theorem en_MO_image {d : Nat} {p0 : Int} {H : Hp} {Q : AV → Hp → Prop} : CC d MO_image [va p0] H Q = R d MO_image k_MO_image_0 [va p0, vu] [] H Q := propext ⟨fun h => h.2, fun h => ⟨Nat.le_of_ble_eq_true rfl, h⟩⟩
theorem en_MO_octet {d : Nat} {p0 p1 : Int} {H : Hp} {Q : AV → Hp → Prop} : CC d MO_octet [va p0, vi p1] H Q = R d MO_octet k_MO_octet_0 [va p0, vi p1] [] H Q := propext ⟨fun h => h.2, fun h => ⟨Nat.le_of_ble_eq_true rfl, h⟩⟩
theorem en_MO_isImage {d : Nat} {p0 p1 : Int} {H : Hp} {Q : AV → Hp → Prop} : CC d MO_isImage [va p0, vi p1] H Q = R d MO_isImage k_MO_isImage_0 [va p0, vi p1, vu, vu, vu, vu, vu] [] H Q := propext ⟨fun h => h.2, fun h => ⟨Nat.le_of_ble_eq_true rfl, h⟩⟩
theorem en_MO_on {d : Nat} {p0 : Int} {H : Hp} {Q : AV → Hp → Prop} : CC d MO_on [va p0] H Q = R d MO_on k_MO_on_0 [va p0, vu, vu] [] H Q := propext ⟨fun h => h.2, fun h => ⟨Nat.le_of_ble_eq_true rfl, h⟩⟩
theorem en_MO_status {d : Nat} {p0 p1 : Int} {H : Hp} {Q : AV → Hp → Prop} : CC d MO_status [va p0, vi p1] H Q = R d MO_status k_MO_status_0 [va p0, vi p1] [] H Q := propext ⟨fun h => h.2, fun h => ⟨Nat.le_of_ble_eq_true rfl, h⟩⟩
theorem en_LW_law {d : Nat} {p0 : Int} {H : Hp} {Q : AV → Hp → Prop} : CC d LW_law [va p0] H Q = R d LW_law k_LW_law_0 [va p0, vu, vu, vu] [] H Q := propext ⟨fun h => h.2, fun h => ⟨Nat.le_of_ble_eq_true rfl, h⟩⟩
