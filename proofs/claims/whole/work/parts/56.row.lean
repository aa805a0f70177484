-- the row that a rule puts together
def RW (r : Nat) (σ τ : St) : Prop := r ≤ 68 ∧ σ.1 25 1 = nI r ∧ τ.1 0 28 = nI r ∧ ∀ j, j < r → σ.1 26 j = τ.1 20 j
theorem rj_hit {σ : St} {r m : Nat} {a : Int32} (hr : r < 68) (h : σ.1 25 1 = nI r) (hm : m < r) (hM : σ.1 26 m = a) (hno : ∀ i, i < m → ¬ σ.1 26 i = a) : ∀ (d i fuel : Nat), i + d = m → d < fuel → k_Ro_join_20 fuel a (nI i) σ ∧ f_Ro_join_20 fuel a (nI i) σ = σ := by
  intro d
  induction d with
  | zero =>
    intro i fuel hi hf
    obtain ⟨fuel, rfl⟩ : ∃ k, fuel = k + 1 := ⟨fuel - 1, by omega⟩
    obtain rfl : i = m := by omega
    have h1 : ¬ σ.1 25 1 ≤ nI i := fun h9 => by rw [h, nI_le_iff (by omega) (by omega)] at h9; omega
    have h2 : σ.1 26 (nI i).toNatClampNeg = a := by rw [nI_clamp (by omega)]; exact hM
    refine ⟨⟨fun h => absurd h h1, fun _ => ⟨by rw [in_iff, i_nI (by omega)]; omega, fun _ => trivial, fun h => absurd h2 h⟩⟩, ?_⟩
    show (if σ.1 25 1 ≤ nI i then _ else (if σ.1 26 (nI i).toNatClampNeg = a then σ else _)) = _
    rw [if_neg h1, if_pos h2]
  | succ d ih =>
    intro i fuel hi hf
    obtain ⟨fuel, rfl⟩ : ∃ k, fuel = k + 1 := ⟨fuel - 1, by omega⟩
    have h1 : ¬ σ.1 25 1 ≤ nI i := fun h9 => by rw [h, nI_le_iff (by omega) (by omega)] at h9; omega
    have h2 : ¬ σ.1 26 (nI i).toNatClampNeg = a := by rw [nI_clamp (by omega)]; exact hno i (by omega)
    obtain ⟨g1, g2⟩ := ih (i + 1) fuel (by omega) (by omega)
    rw [nI_succ] at g1 g2
    refine ⟨⟨fun h => absurd h h1, fun _ => ⟨by rw [in_iff, i_nI (by omega)]; omega, fun h => absurd h h2, fun _ => g1⟩⟩, ?_⟩
    show (if σ.1 25 1 ≤ nI i then _ else (if σ.1 26 (nI i).toNatClampNeg = a then _ else f_Ro_join_20 fuel a (nI i + 1) σ)) = _
    rw [if_neg h1, if_neg h2]; exact g2
theorem rj_miss {σ : St} {r : Nat} {a : Int32} (hr : r < 68) (h : σ.1 25 1 = nI r) (hno : ∀ i, i < r → ¬ σ.1 26 i = a) : ∀ (d i fuel : Nat), i + d = r → d < fuel → k_Ro_join_20 fuel a (nI i) σ ∧ f_Ro_join_20 fuel a (nI i) σ = sF (sA σ 26 (nI r) a) 25 1 (nI r + 1) := by
  intro d
  induction d with
  | zero =>
    intro i fuel hi hf
    obtain ⟨fuel, rfl⟩ : ∃ k, fuel = k + 1 := ⟨fuel - 1, by omega⟩
    have h1 : σ.1 25 1 ≤ nI i := by rw [h, nI_le_iff (by omega) (by omega)]; omega
    refine ⟨⟨fun _ => ⟨by rw [h, in_iff, i_nI (by omega)]; omega, trivial⟩, fun h => absurd h1 h⟩, ?_⟩
    show (if σ.1 25 1 ≤ nI i then sF (sA σ 26 (σ.1 25 1) a) 25 1 (σ.1 25 1 + 1) else _) = _
    rw [if_pos h1, h]
  | succ d ih =>
    intro i fuel hi hf
    obtain ⟨fuel, rfl⟩ : ∃ k, fuel = k + 1 := ⟨fuel - 1, by omega⟩
    have h1 : ¬ σ.1 25 1 ≤ nI i := fun h9 => by rw [h, nI_le_iff (by omega) (by omega)] at h9; omega
    have h2 : ¬ σ.1 26 (nI i).toNatClampNeg = a := by rw [nI_clamp (by omega)]; exact hno i (by omega)
    obtain ⟨g1, g2⟩ := ih (i + 1) fuel (by omega) (by omega)
    rw [nI_succ] at g1 g2
    refine ⟨⟨fun h => absurd h h1, fun _ => ⟨by rw [in_iff, i_nI (by omega)]; omega, fun h => absurd h h2, fun _ => g1⟩⟩, ?_⟩
    show (if σ.1 25 1 ≤ nI i then _ else (if σ.1 26 (nI i).toNatClampNeg = a then _ else f_Ro_join_20 fuel a (nI i + 1) σ)) = _
    rw [if_neg h1, if_neg h2]; exact g2
/-- the reference's join, by whether the truth is there: x says whether it was seen before i -/
theorem mj_all {τ : St} {r : Nat} {a : Int32} (hr : r < 100) (h : τ.1 0 28 = nI r) : ∀ (d i fuel : Nat) (x : Int32), i + d = r → d < fuel → ((x = 1 ∧ ∃ j, j < r ∧ τ.1 20 j = a) ∨ (x = 0 ∧ ∀ j, j < i → ¬ τ.1 20 j = a)) →
    k_Mo_join_4 fuel a x (nI i) τ ∧ ((∃ j, j < r ∧ τ.1 20 j = a) → f_Mo_join_4 fuel a x (nI i) τ = τ) ∧ ((∀ j, j < r → ¬ τ.1 20 j = a) → f_Mo_join_4 fuel a x (nI i) τ = sF (sA τ 20 (nI r) a) 0 28 (nI r + 1)) := by
  intro d
  induction d with
  | zero =>
    intro i fuel x hi hf hx
    obtain ⟨fuel, rfl⟩ : ∃ k, fuel = k + 1 := ⟨fuel - 1, by omega⟩
    have h1 : τ.1 0 28 ≤ nI i := by rw [h, nI_le_iff (by omega) (by omega)]; omega
    have e : f_Mo_join_4 (fuel + 1) a x (nI i) τ = if x = 0 then sF (sA τ 20 (nI r) a) 0 28 (nI r + 1) else τ := by
      show (if τ.1 0 28 ≤ nI i then (if x = 0 then sF (sA τ 20 (τ.1 0 28) a) 0 28 (τ.1 0 28 + 1) else τ) else _) = _
      rw [if_pos h1, h]
    refine ⟨⟨fun _ => ⟨fun _ => ⟨by rw [h, in_iff, i_nI (by omega)]; omega, trivial⟩, fun _ => trivial⟩, fun h => absurd h1 h⟩, fun hy => ?_, fun hn => ?_⟩
    · rw [e]
      rcases hx with ⟨rfl, -⟩ | ⟨rfl, h0⟩
      · rw [if_neg (by decide)]
      · obtain ⟨j, hj, hj2⟩ := hy
        exact absurd hj2 (h0 j (by omega))
    · rw [e]
      rcases hx with ⟨rfl, j, hj, hj2⟩ | ⟨rfl, -⟩
      · exact absurd hj2 (hn j hj)
      · rw [if_pos rfl]
  | succ d ih =>
    intro i fuel x hi hf hx
    obtain ⟨fuel, rfl⟩ : ∃ k, fuel = k + 1 := ⟨fuel - 1, by omega⟩
    have h1 : ¬ τ.1 0 28 ≤ nI i := fun h9 => by rw [h, nI_le_iff (by omega) (by omega)] at h9; omega
    have hin : vp_in (nI i) 100 := by rw [in_iff, i_nI (by omega)]; omega
    have hcl : (nI i).toNatClampNeg = i := nI_clamp (by omega)
    have e : f_Mo_join_4 (fuel + 1) a x (nI i) τ = if x = 0 then (if τ.1 20 i = a then f_Mo_join_4 fuel a 1 (nI (i + 1)) τ else f_Mo_join_4 fuel a 0 (nI (i + 1)) τ) else f_Mo_join_4 fuel a 1 (nI (i + 1)) τ := by
      show (if τ.1 0 28 ≤ nI i then _ else (if x = 0 then (if τ.1 20 (nI i).toNatClampNeg = a then f_Mo_join_4 fuel a 1 (nI i + 1) τ else f_Mo_join_4 fuel a 0 (nI i + 1) τ) else f_Mo_join_4 fuel a 1 (nI i + 1) τ)) = _
      rw [if_neg h1, hcl, nI_succ]
    have kk : ((x = 0 → ((τ.1 20 i = a → k_Mo_join_4 fuel a 1 (nI (i + 1)) τ) ∧ (¬ τ.1 20 i = a → k_Mo_join_4 fuel a 0 (nI (i + 1)) τ))) ∧ (¬ x = 0 → k_Mo_join_4 fuel a 1 (nI (i + 1)) τ)) → k_Mo_join_4 (fuel + 1) a x (nI i) τ := fun hk => by
      rw [nI_succ] at hk
      refine ⟨fun h => absurd h h1, fun _ => ⟨fun hx0 => ⟨hin, fun h2 => ?_, fun h2 => ?_⟩, fun hx0 => hk.2 hx0⟩⟩
      · rw [hcl] at h2; exact (hk.1 hx0).1 h2
      · rw [hcl] at h2; exact (hk.1 hx0).2 h2
    rcases hx with ⟨rfl, hj⟩ | ⟨rfl, h0⟩
    · obtain ⟨g1, g2, g3⟩ := ih (i + 1) fuel 1 (by omega) (by omega) (Or.inl ⟨rfl, hj⟩)
      rw [e, if_neg (by decide)]
      exact ⟨kk ⟨fun h => absurd h (by decide), fun _ => g1⟩, g2, g3⟩
    · rw [e, if_pos rfl]
      by_cases h2 : τ.1 20 i = a
      · obtain ⟨g1, g2, g3⟩ := ih (i + 1) fuel 1 (by omega) (by omega) (Or.inl ⟨rfl, i, by omega, h2⟩)
        rw [if_pos h2]
        exact ⟨kk ⟨fun _ => ⟨fun _ => g1, fun h => absurd h2 h⟩, fun h => absurd rfl h⟩, g2, g3⟩
      · obtain ⟨g1, g2, g3⟩ := ih (i + 1) fuel 0 (by omega) (by omega) (Or.inr ⟨rfl, fun j hj => by
          by_cases e2 : j = i
          · rw [e2]; exact h2
          · exact h0 j (by omega)⟩)
        rw [if_neg h2]
        exact ⟨kk ⟨fun _ => ⟨fun h => absurd h h2, fun _ => g1⟩, fun h => absurd rfl h⟩, g2, g3⟩
/-- join: both leave the row as it is, or both put the truth behind it -/
theorem join_sim {σ τ : St} {r : Nat} {a : Int32} (h : RW r σ τ) (hr : r < 68) (ha : ¬ a = -1) :
    k_Ro_join a σ ∧ k_Mo_join a τ ∧ ((f_Ro_join a σ = σ ∧ f_Mo_join a τ = τ ∧ ∃ j, j < r ∧ τ.1 20 j = a) ∨
      (f_Ro_join a σ = sF (sA σ 26 (nI r) a) 25 1 (nI r + 1) ∧ f_Mo_join a τ = sF (sA τ 20 (nI r) a) 0 28 (nI r + 1) ∧ RW (r + 1) (f_Ro_join a σ) (f_Mo_join a τ))) := by
  obtain ⟨-, h1, h2, h3⟩ := h
  have c1 : σ.1 25 1 < 68 := by rw [h1]; exact (nI_lt_iff (b := 68) (by omega) (by omega)).mpr hr
  have eC : f_Ro_join a σ = f_Ro_join_20 1000 a (nI 0) σ := by
    show (if a = -1 then σ else (if σ.1 25 1 < 68 then f_Ro_join_20 1000 a 0 σ else σ)) = _
    rw [if_neg ha, if_pos c1, nI_0]
  have kC : k_Ro_join_20 1000 a (nI 0) σ → k_Ro_join a σ := fun h => ⟨fun h9 => absurd h9 ha, fun _ => ⟨fun _ => by rw [nI_0] at h; exact h, fun h9 => absurd c1 h9⟩⟩
  have eM : f_Mo_join a τ = f_Mo_join_4 1000 a 0 (nI 0) τ := by rw [nI_0]; rfl
  have kM : k_Mo_join_4 1000 a 0 (nI 0) τ → k_Mo_join a τ := fun h => by rw [nI_0] at h; exact h
  obtain ⟨m1, m2, m3⟩ := mj_all (a := a) (by omega) h2 r 0 1000 0 (by omega) (by omega) (Or.inr ⟨rfl, fun j hj => absurd hj (Nat.not_lt_zero j)⟩)
  rcases first_of (fun j => τ.1 20 j = a) r with ⟨m, hm, g1, g2⟩ | hno
  · obtain ⟨k1, k2⟩ := rj_hit hr h1 hm ((h3 m hm).trans g1) (fun i hi => by rw [h3 i (by omega)]; exact g2 i hi) m 0 1000 (by omega) (by omega)
    exact ⟨kC k1, kM m1, Or.inl ⟨eC.trans k2, eM.trans (m2 ⟨m, hm, g1⟩), m, hm, g1⟩⟩
  · obtain ⟨k1, k2⟩ := rj_miss hr h1 (fun i hi => by rw [h3 i hi]; exact hno i hi) r 0 1000 (by omega) (by omega)
    have f1 := eC.trans k2
    have f2 := eM.trans (m3 hno)
    refine ⟨kC k1, kM m1, Or.inr ⟨f1, f2, ?_⟩⟩
    rw [f1, f2]
    have hcl : (nI r).toNatClampNeg = r := nI_clamp (by omega)
    refine ⟨by omega, by rw [nI_succ]; rfl, by rw [nI_succ]; rfl, fun j hj => ?_⟩
    show upd (σ.1 26) (nI r).toNatClampNeg a j = upd (τ.1 20) (nI r).toNatClampNeg a j
    rw [upd_at, upd_at, hcl]
    by_cases e : j = r
    · rw [if_pos e, if_pos e]
    · rw [if_neg e, if_neg e]; exact h3 j (by omega)
