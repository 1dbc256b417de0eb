/-! THE FRAME: a run of a method that makes no cell leaves what lies past the cells 1..139 (the script, the counts) -/
def NA : List Nat := [24, 33, 61, 73, 77, 86, 108, 135, 145, 167, 183, 227, 373]
def okF (i : AI) : Bool := (i.1 != 43 && i.1 != 44) && ((if 35 ≤ i.1 ∧ i.1 ≤ 38 then !NA.contains i.2.1 else true) && (if 21 ≤ i.1 ∧ i.1 ≤ 24 then decide (0 ≤ i.2.2.1) else true))
def Fr (H H' : Hp) : Prop := ∀ a, (a < 1 ∨ 139 < a) → H' a = H a
theorem Fr.refl {H : Hp} : Fr H H := fun _ _ => rfl
theorem Fr.trans {H H1 H2 : Hp} (h : Fr H H1) (g : Fr H1 H2) : Fr H H2 := fun a ha => (g a ha).trans (h a ha)
theorem Fr.hs {H : Hp} {c j x : Int} (h : 0 ≤ shc c ∨ sht c ≠ 0) : Fr H (hs H c j x) := by
  intro a ha
  have q := (sh_all c).2.2.2.2.1 h
  exact hs_ne (by omega)
theorem okF_all : (List.range 374).all (fun m => NA.contains m || (bkT.getD m []).all (fun is => is.all okF)) = true := by decide +kernel
theorem getD_in {α : Type} {P : α → Prop} {z : α} (hz : P z) : ∀ (l : List α) (n : Nat), (∀ x ∈ l, P x) → P (l.getD n z)
  | [], _, _ => hz
  | x :: _, 0, h => h x (List.mem_cons_self ..)
  | _ :: l, n + 1, h => getD_in hz l n (fun y hy => h y (List.mem_cons_of_mem _ hy))
theorem bkT_len : bkT.length = 374 := by decide +kernel
theorem getD_past {α : Type} {z : α} : ∀ (l : List α) (n : Nat), l.length ≤ n → l.getD n z = z
  | [], _, _ => rfl
  | _ :: _, 0, h => by simp at h
  | _ :: l, n + 1, h => getD_past l n (by simp at h; omega)
theorem okF_blk {m : Nat} (hm : NA.contains m = false) (b : Nat) : ∀ i ∈ blk m b, okF i = true := by
  by_cases h : m < 374
  · have this := List.all_eq_true.mp okF_all m (List.mem_range.mpr h)
    rw [hm, Bool.false_or] at this
    exact getD_in (P := fun l => ∀ i ∈ l, okF i = true) (fun i hi => by cases hi) _ _ (fun l hl => List.all_eq_true.mp (List.all_eq_true.mp this l hl))
  · have h2 : bkT.getD m [] = [] := getD_past _ _ (by rw [bkT_len]; omega)
    unfold blk
    rw [h2]
    intro i hi
    cases hi
theorem am1_fr {i : AI} {ls st : List AV} {H : Hp} {ls' st' : List AV} {H' : Hp} (hk : okF i = true) (h : am1 i ls st H = some (ls', st', H')) : Fr H H' := by
  obtain ⟨op, k, z, tb⟩ := i
  unfold am1 at h
  dsimp only at h
  split at h
  all_goals (try (repeat' split at h))
  all_goals (first
    | (cases h; done)
    | (simp only [Option.some.injEq, Prod.mk.injEq] at h
       obtain ⟨-, -, rfl⟩ := h
       first
         | exact Fr.refl
         | (refine Fr.hs (Or.inl ?_)
            have hz : 0 ≤ z := by simpa [okF] using hk
            omega)
         | (refine Fr.hs (Or.inr ?_)
            omega)
         | (exfalso; revert hk; simp [okF]; done)
         | (rename_i hc
            intro a ha
            have q := (sh_all _).2.2.2.2.1 (Or.inr (show sht _ ≠ 0 by rw [hc.2.2.1]; omega))
            funext b
            show (if _ ∧ _ ∧ _ then _ else _) = _
            rw [if_neg (by omega)])))
theorem ex_fr : ∀ (n : Nat) {d m : Nat} {is : List AI} {ls st : List AV} {H : Hp} {r : AV} {H' : Hp}, NA.contains m = false → (∀ i ∈ is, okF i = true) → ex n d m is ls st H = some (r, H') → Fr H H'
  | 0, _, _, _, _, _, _, _, _, _, _, h => by cases h
  | n + 1, d, m, is, ls, st, H, r, H', hm, hk, h => by
    have jmp : ∀ {k : Nat} {ls st : List AV} {H : Hp}, ex n d m (blk m k) ls st H = some (r, H') → Fr H H' := fun {k ls st H} h => ex_fr n hm (okF_blk hm k) h
    have cal : ∀ {c d' : Nat} {l : List AV} {kk : AV → List AV} {is' : List AI}, NA.contains c = false → (∀ i ∈ is', okF i = true) → (match ex n d' c (blk c 0) l [] H with
        | some (r1, H1) => ex n d m is' ls (kk r1) H1
        | none => none) = some (r, H') → Fr H H' := by
      intro c d' l kk is' hc hk2 h
      cases hx : ex n d' c (blk c 0) l [] H with
      | none => rw [hx] at h; cases h
      | some q =>
        obtain ⟨r1, H1⟩ := q
        rw [hx] at h
        exact Fr.trans (ex_fr n hc (okF_blk hc 0) hx) (ex_fr n hm hk2 h)
    have h : stp (ex n) d m is ls st H = some (r, H') := h
    cases is with
    | nil => cases h
    | cons i is' =>
      have hk1 : okF i = true := hk i (List.mem_cons_self ..)
      have hk' : ∀ i ∈ is', okF i = true := fun j hj => hk j (List.mem_cons_of_mem _ hj)
      obtain ⟨op, k, z, tb⟩ := i
      have hna : 35 ≤ op → op ≤ 38 → NA.contains k = false := by
        intro h1 h2
        simp only [okF, Bool.and_eq_true] at hk1
        have h3 := hk1.2.1
        rw [if_pos ⟨h1, h2⟩] at h3
        simpa using h3
      unfold stp at h
      dsimp only at h
      split at h
      · split at h
        · split at h
          · exact jmp h
          · exact ex_fr n hm hk' h
        · cases h
      · split at h
        · split at h
          · exact jmp h
          · exact ex_fr n hm hk' h
        · cases h
      · exact jmp h
      · exact jmp h
      · split at h
        · cases h
        · split at h
          · exact cal (kk := fun r1 => r1 :: _) (hna (by decide) (by decide)) hk' h
          · cases h
      · split at h
        · cases h
        · split at h
          · exact cal (kk := fun r1 => r1 :: _) (hna (by decide) (by decide)) hk' h
          · cases h
      · split at h
        · cases h
        · split at h
          · exact cal (kk := fun _ => _) (hna (by decide) (by decide)) hk' h
          · cases h
      · split at h
        · cases h
        · split at h
          · exact cal (kk := fun _ => _) (hna (by decide) (by decide)) hk' h
          · cases h
      all_goals first
        | (split at h
           all_goals first
             | (cases h; done)
             | (cases h; exact Fr.refl)
             | exact jmp h
             | (split at h
                all_goals first
                  | (cases h; done)
                  | (cases h; exact Fr.refl))
             | (rename_i hx
                exact Fr.trans (am1_fr hk1 hx) (ex_fr n hm hk' h)))
theorem CC_fr {d m : Nat} {a : List AV} {H : Hp} {Q : AV → Hp → Prop} (hm : NA.contains m = false) (h : CC d m a H Q) : CC d m a H (fun r H1 => Fr H H1 ∧ Q r H1) := by
  obtain ⟨hw, n, r, H1, e, q⟩ := h
  exact ⟨hw, n, r, H1, e, ex_fr n hm (okF_blk hm 0) e, q⟩
