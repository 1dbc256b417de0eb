/-! THE TYPES of answers: a method whose blocks all end by an int's (a long's) return answers an int (a long) -/
def okT (t : Nat) (i : AI) : Bool := i.1 != 39 && (if t = 0 then i.1 != 41 else (i.1 != 40 && i.1 != 42))
def RtT (t m : Nat) : Bool := (bkT.getD m []).all (fun is => is.all (okT t))
theorem RtT_blk {t m : Nat} (hm : RtT t m = true) (b : Nat) : ∀ i ∈ blk m b, okT t i = true := getD_in (P := fun l => ∀ i ∈ l, okT t i = true) (fun i hi => by cases hi) _ _ (fun l hl => List.all_eq_true.mp (List.all_eq_true.mp hm l hl))
theorem ex_ty {t : Nat} (ht : t = 0 ∨ t = 1) : ∀ (n : Nat) {d m : Nat} {is : List AI} {ls st : List AV} {H : Hp} {r : AV} {H' : Hp}, RtT t m = true → (∀ i ∈ is, okT t i = true) → ex n d m is ls st H = some (r, H') → r.1 = t
  | 0, _, _, _, _, _, _, _, _, _, _, h => by cases h
  | n + 1, d, m, is, ls, st, H, r, H', hm, hk, h => by
    have jmp : ∀ {k : Nat} {ls st : List AV} {H : Hp}, ex n d m (blk m k) ls st H = some (r, H') → r.1 = t := fun {k ls st H} h => ex_ty ht n hm (RtT_blk hm k) h
    have cal : ∀ {c d' : Nat} {l : List AV} {kk : AV → List AV} {is' : List AI}, (∀ i ∈ is', okT t i = true) → (match ex n d' c (blk c 0) l [] H with
        | some (r1, H1) => ex n d m is' ls (kk r1) H1
        | none => none) = some (r, H') → r.1 = t := by
      intro c d' l kk is' hk2 h
      cases hx : ex n d' c (blk c 0) l [] H with
      | none => rw [hx] at h; cases h
      | some q =>
        obtain ⟨r1, H1⟩ := q
        rw [hx] at h
        exact ex_ty ht n hm hk2 h
    have h : stp (ex n) d m is ls st H = some (r, H') := h
    cases is with
    | nil => cases h
    | cons i is' =>
      have hk1 : okT t i = true := hk i (List.mem_cons_self ..)
      have hk' : ∀ i ∈ is', okT t i = true := fun j hj => hk j (List.mem_cons_of_mem _ hj)
      obtain ⟨op, k, z, tb⟩ := i
      have h39 : op ≠ 39 := by
        intro hz
        subst hz
        simp [okT] at hk1
      have h41 : op = 41 → t = 1 := by
        intro hz
        subst hz
        rcases ht with rfl | rfl
        · simp [okT] at hk1
        · rfl
      have h40 : (op = 40 ∨ op = 42) → t = 0 := by
        intro hz
        rcases ht with rfl | rfl
        · rfl
        · rcases hz with hz | hz <;> (subst hz; simp [okT] at hk1)
      unfold stp at h
      dsimp only at h
      split at h
      · split at h
        · split at h
          · exact jmp h
          · exact ex_ty ht n hm hk' h
        · cases h
      · split at h
        · split at h
          · exact jmp h
          · exact ex_ty ht n hm hk' h
        · cases h
      · exact jmp h
      · exact jmp h
      · split at h
        · cases h
        · split at h
          · exact cal (kk := fun r1 => r1 :: _) hk' h
          · cases h
      · split at h
        · cases h
        · split at h
          · exact cal (kk := fun r1 => r1 :: _) hk' h
          · cases h
      · split at h
        · cases h
        · split at h
          · exact cal (kk := fun _ => _) hk' h
          · cases h
      · split at h
        · cases h
        · split at h
          · exact cal (kk := fun _ => _) hk' h
          · cases h
      · exact absurd rfl h39
      · split at h
        · cases h; exact (h40 (Or.inl rfl)).symm
        · cases h
      · split at h
        · cases h; exact (h41 rfl).symm
        · cases h
      · split at h
        · split at h
          · cases h; exact (h40 (Or.inr rfl)).symm
          · cases h
        · cases h
      · split at h
        · exact jmp h
        · cases h
      · split at h
        · exact ex_ty ht n hm hk' h
        · cases h
theorem CC_ty {t d m : Nat} {a : List AV} {H : Hp} {Q : AV → Hp → Prop} (ht : t = 0 ∨ t = 1) (hm : RtT t m = true) (h : CC d m a H Q) : CC d m a H (fun r H1 => r.1 = t ∧ Q r H1) := by
  obtain ⟨hw, n, r, H1, e, q⟩ := h
  exact ⟨hw, n, r, H1, e, ex_ty ht n hm (RtT_blk hm 0) e, q⟩
theorem CC_mn {d m : Nat} {a : List AV} {H : Hp} {Q Q' : AV → Hp → Prop} (h : CC d m a H Q) (hq : ∀ r H1, Q r H1 → Q' r H1) : CC d m a H Q' := CC.mono h hq
theorem pair_i {V : Hp} {d me mo : Nat} {a b : List AV} (h : Pair V d me mo a b) (n1 : NA.contains me = false) (n2 : NA.contains mo = false) (t1 : RtT 0 me = true) {Q : AV → Hp → Prop} (hQ : ∀ x H1, Fr V H1 → CC d mo b H1 (fun r2 H2 => Fr V H2 ∧ r2 = vi x ∧ Inv0 H2) → Q (vi x) H1) : CC d me a V Q := by
  refine CC_mn (CC_ty (Or.inl rfl) t1 (CC_fr n1 h)) ?_
  rintro ⟨t, x⟩ H1 ⟨ht, hF, h2⟩
  have ht : t = 0 := ht
  subst ht
  exact hQ x H1 hF (CC_mn (CC_fr n2 h2) (fun r2 H2 q => ⟨hF.trans q.1, q.2.1.symm, q.2.2⟩))
theorem pair_l {V : Hp} {d me mo : Nat} {a b : List AV} (h : Pair V d me mo a b) (n1 : NA.contains me = false) (n2 : NA.contains mo = false) (t1 : RtT 1 me = true) {Q : AV → Hp → Prop} (hQ : ∀ x H1, Fr V H1 → CC d mo b H1 (fun r2 H2 => Fr V H2 ∧ r2 = vl x ∧ Inv0 H2) → Q (vl x) H1) : CC d me a V Q := by
  refine CC_mn (CC_ty (Or.inr rfl) t1 (CC_fr n1 h)) ?_
  rintro ⟨t, x⟩ H1 ⟨ht, hF, h2⟩
  have ht : t = 1 := ht
  subst ht
  exact hQ x H1 hF (CC_mn (CC_fr n2 h2) (fun r2 H2 q => ⟨hF.trans q.1, q.2.1.symm, q.2.2⟩))
