theorem s1_all : S_all I1 := ⟨s1_default, s1_sort, s1_symbol, s1_variable, s1_draft, s1_term, s1_assume, s1_cut, s1_widen, s1_meaning, s1_same, s1_chain, s1_turn, s1_replace, s1_instance, s1_open, s1_close, s1_clause, s1_scope, s1_empty, s1_look, s1_text⟩
theorem p1_start {p : Program} {e : Env} {s : State} {m : MethodId} {below : List Frame} {meth : Method} {c : Code} (l : Launch) (hlt : l.stackTraces = false) {b L : Nat} {xs : Nat → Int32} (hL : L ≤ 7) (C0 : lw_At p s m meth c b L xs) : W p l e room_1 s m #[Value.ref b] below meth c s.heap [] 0 0 (lw_Z below #[Value.ref b] s) (entryFrame m ([Value.ref b] : List Value).toArray 7) := by
  have h0 : I1 (L / 7) σ0 () τ0 := by
    have h9 : L / 7 = 0 ∨ L / 7 = 1 := by omega
    rcases h9 with h9 | h9
    · exact Or.inl h9
    · exact Or.inr ⟨h9, rfl, rfl⟩
  refine la_start l hlt (by omega) C0 (β := Unit) (PX := fun ty u _ => px0 ty u) (cst := fun _ => 0) (sst := fun _ => 0) (B0 := ()) (fun _ _ => rfl) (Nat.zero_le _) (Nat.zero_le _) (I := I1) s1_all h0 ?_
  intro sa D ty u g q ho C hKA n i σ B τ o H locs ls cells slots hi hI hcl hsl hl hP hD hS K
  obtain ⟨rfl, rfl, hJ⟩ := hI.use
  obtain ⟨h1, h2, h3, h4⟩ := p1_linear (xs (i + 1)) (xs (i + 2)) (xs (i + 3)) (xs (i + 4)) (xs (i + 5)) (xs (i + 6))
  have hAg : Ag (f_CL_linear (xs (i + 1)) (xs (i + 2)) (xs (i + 3)) (xs (i + 4)) (xs (i + 5)) (xs (i + 6)) σ0) (f_Mo_linear (xs (i + 1)) (xs (i + 2)) (xs (i + 3)) (xs (i + 4)) (xs (i + 5)) (xs (i + 6)) τ0) cd_linear := by
    rw [h2, h4]; exact ⟨fun x hx => (by cases hx), fun E hE => by cases hE; exact ⟨rfl, by decide⟩⟩
  obtain ⟨hA1, hA2, hst⟩ := ag_linear (o := o) hAg
  exact la_13 hlt C hi (by omega) (by omega) (by omega) hl hP hD hS h1 (fun E hE => by rw [h2] at hE; cases hE; decide) h3 hA1 hA2 (fun H locs ls hl hP hD hS => K _ B _ _ H locs ls _ _ (hJ _ _) (by omega) (by omega) hl hP hD hS)
