-- which steps stand
theorem chn_mem {A : Nat → Int32} (hA : ∀ k, 1 ≤ k → k ≤ 20 → ∃ a, a < k ∧ A k = nI a) : ∀ (fu k s : Nat), k < fu → k ≤ 20 → s ∈ chn A fu k → 1 ≤ s ∧ s ≤ k ∧ ∃ a, a < s ∧ A s = nI a ∧ (a = 0 ∨ a ∈ chn A fu k) := by
  intro fu
  induction fu with
  | zero => intro k s h; omega
  | succ fu ih =>
    intro k s hk h20 hs
    have e : chn A (fu + 1) k = if k = 0 then [] else k :: chn A fu (A k).toNatClampNeg := rfl
    rw [e] at hs ⊢
    by_cases h0 : k = 0
    · rw [if_pos h0] at hs; cases hs
    · rw [if_neg h0] at hs ⊢
      obtain ⟨a, ha, eA⟩ := hA k (by omega) h20
      have ec : (A k).toNatClampNeg = a := by rw [eA]; exact nI_clamp (by omega)
      rw [ec] at hs ⊢
      rcases List.mem_cons.mp hs with rfl | hs
      · refine ⟨by omega, Nat.le_refl _, a, ha, eA, ?_⟩
        by_cases a0 : a = 0
        · exact Or.inl a0
        · refine Or.inr (List.mem_cons_of_mem _ ?_)
          obtain ⟨fu2, rfl⟩ : ∃ z, fu = z + 1 := ⟨fu - 1, by omega⟩
          show a ∈ (if a = 0 then [] else a :: chn A fu2 (A a).toNatClampNeg)
          rw [if_neg a0]; exact List.mem_cons_self
      · obtain ⟨q1, q2, b, q3, q4, q5⟩ := ih a s (by omega) (by omega) hs
        refine ⟨q1, by omega, b, q3, q4, ?_⟩
        rcases q5 with q5 | q5
        · exact Or.inl q5
        · exact Or.inr (List.mem_cons_of_mem _ q5)
section STD
variable {q c : Nat} {σ τ : St}
theorem st_step {s x fuel : Nat} {y y2 : Int32} (hs : s ≤ 20) (hs1 : 1 ≤ s) (hx : x < 21) (hy : y2 = if y = 0 then 0 else (if τ.1 19 s = 0 then 1 else 0)) : (k_Mo_stands_26 fuel y2 (τ.1 18 s) (nI (x + 1)) τ → k_Mo_stands_26 (fuel + 1) y (nI s) (nI x) τ) ∧ f_Mo_stands_26 (fuel + 1) y (nI s) (nI x) τ = f_Mo_stands_26 fuel y2 (τ.1 18 s) (nI (x + 1)) τ := by
  have h1 : ¬ (21 : Int32) ≤ nI x := fun h => by have := (nI_le_iff (a := 21) (by omega) (by omega)).mp h; omega
  have h2 : ¬ nI s ≤ 0 := nI_nle (by omega) (by omega)
  have hcl : (nI s).toNatClampNeg = s := nI_clamp (by omega)
  have hin : vp_in (nI s) 21 := by rw [in_iff, i_nI (by omega)]; omega
  rw [nI_succ]
  refine ⟨fun hk => ⟨fun z => absurd z h1, fun _ => ⟨fun z => absurd z h2, fun _ => ⟨fun z => ?_, fun z => ⟨hin, fun z2 => ?_, fun z2 => ?_⟩⟩⟩⟩, ?_⟩
  · refine ⟨hin, ?_⟩
    show k_Mo_stands_26 fuel 0 (τ.1 18 (nI s).toNatClampNeg) (nI x + 1) τ
    rw [hcl]; rw [hy, if_pos z] at hk; exact hk
  · rw [hcl] at z2
    refine ⟨hin, ?_⟩
    show k_Mo_stands_26 fuel 1 (τ.1 18 (nI s).toNatClampNeg) (nI x + 1) τ
    rw [hcl]; rw [hy, if_neg z, if_pos z2] at hk; exact hk
  · rw [hcl] at z2
    refine ⟨hin, ?_⟩
    show k_Mo_stands_26 fuel 0 (τ.1 18 (nI s).toNatClampNeg) (nI x + 1) τ
    rw [hcl]; rw [hy, if_neg z, if_neg z2] at hk; exact hk
  · show (if (21 : Int32) ≤ nI x then _ else (if nI s ≤ 0 then _ else (if y = 0 then f_Mo_stands_26 fuel 0 (τ.1 18 (nI s).toNatClampNeg) (nI x + 1) τ else (if τ.1 19 (nI s).toNatClampNeg = 0 then f_Mo_stands_26 fuel 1 (τ.1 18 (nI s).toNatClampNeg) (nI x + 1) τ else f_Mo_stands_26 fuel 0 (τ.1 18 (nI s).toNatClampNeg) (nI x + 1) τ)))) = _
    rw [if_neg h1, if_neg h2, hcl, hy]
    by_cases z : y = 0
    · rw [if_pos z, if_pos z]
    · rw [if_neg z, if_neg z]
      by_cases z2 : τ.1 19 s = 0
      · rw [if_pos z2, if_pos z2]
      · rw [if_neg z2, if_neg z2]
theorem st_end {x fuel : Nat} {y : Int32} (hx : x < 21) (hy : y = 0 ∨ y = 1) : k_Mo_stands_26 (fuel + 1) y (nI 0) (nI x) τ ∧ f_Mo_stands_26 (fuel + 1) y (nI 0) (nI x) τ = y := by
  have h1 : ¬ (21 : Int32) ≤ nI x := fun h => by have := (nI_le_iff (a := 21) (by omega) (by omega)).mp h; omega
  have h2 : nI 0 ≤ 0 := by rw [nI_0]; decide
  refine ⟨⟨fun z => absurd z h1, fun _ => ⟨fun _ => ⟨by rcases hy with rfl | rfl <;> rfl, trivial⟩, fun z => absurd h2 z⟩⟩, ?_⟩
  show (if (21 : Int32) ≤ nI x then _ else (if nI 0 ≤ 0 then y else _)) = _
  rw [if_neg h1, if_pos h2]
theorem st_zero (hA : ∀ k, 1 ≤ k → k ≤ q → ∃ a, a < k ∧ τ.1 18 k = nI a) (hq : q ≤ 20) : ∀ (d s x fuel : Nat), s ≤ d → s ≤ q → x + s ≤ 20 → s < fuel → k_Mo_stands_26 fuel 0 (nI s) (nI x) τ ∧ f_Mo_stands_26 fuel 0 (nI s) (nI x) τ = 0 := by
  intro d
  induction d with
  | zero =>
    intro s x fuel h1 h2 h3 h4
    obtain ⟨fuel, rfl⟩ : ∃ k, fuel = k + 1 := ⟨fuel - 1, by omega⟩
    obtain rfl : s = 0 := by omega
    exact st_end (by omega) (Or.inl rfl)
  | succ d ih =>
    intro s x fuel h1 h2 h3 h4
    obtain ⟨fuel, rfl⟩ : ∃ k, fuel = k + 1 := ⟨fuel - 1, by omega⟩
    by_cases hs : s = 0
    · subst hs; exact st_end (by omega) (Or.inl rfl)
    · obtain ⟨a, ha, eA⟩ := hA s (by omega) h2
      obtain ⟨g1, g2⟩ := ih a (x + 1) fuel (by omega) (by omega) (by omega) (by omega)
      obtain ⟨p1, p2⟩ := st_step (τ := τ) (s := s) (x := x) (fuel := fuel) (y := 0) (y2 := 0) (by omega) (by omega) (by omega) (by rw [if_pos rfl])
      rw [eA] at p1 p2
      exact ⟨p1 g1, p2.trans g2⟩
theorem st_open (hA : ∀ k, 1 ≤ k → k ≤ q → ∃ a, a < k ∧ τ.1 18 k = nI a) (hq : q ≤ 20) (hc : c ≤ q) (hO : ∀ k, 1 ≤ k → k ≤ q → (τ.1 19 k = 0 ↔ k ∈ chn (τ.1 18) 21 c)) (hA2 : ∀ k, k ∈ chn (τ.1 18) 21 c → ∃ a, a < k ∧ τ.1 18 k = nI a ∧ (a = 0 ∨ a ∈ chn (τ.1 18) 21 c)) :
    ∀ (d s x fuel : Nat), s ≤ d → s ≤ q → x + s ≤ 20 → s < fuel → (s = 0 ∨ s ∈ chn (τ.1 18) 21 c) → k_Mo_stands_26 fuel 1 (nI s) (nI x) τ ∧ f_Mo_stands_26 fuel 1 (nI s) (nI x) τ = 1 := by
  intro d
  induction d with
  | zero =>
    intro s x fuel h1 h2 h3 h4 h5
    obtain ⟨fuel, rfl⟩ : ∃ k, fuel = k + 1 := ⟨fuel - 1, by omega⟩
    obtain rfl : s = 0 := by omega
    exact st_end (by omega) (Or.inr rfl)
  | succ d ih =>
    intro s x fuel h1 h2 h3 h4 h5
    obtain ⟨fuel, rfl⟩ : ∃ k, fuel = k + 1 := ⟨fuel - 1, by omega⟩
    by_cases hs : s = 0
    · subst hs; exact st_end (by omega) (Or.inr rfl)
    · have hm := h5.resolve_left hs
      obtain ⟨a, ha, eA, h6⟩ := hA2 s hm
      have ho : τ.1 19 s = 0 := (hO s (by omega) h2).mpr hm
      obtain ⟨g1, g2⟩ := ih a (x + 1) fuel (by omega) (by omega) (by omega) (by omega) h6
      obtain ⟨p1, p2⟩ := st_step (τ := τ) (s := s) (x := x) (fuel := fuel) (y := 1) (y2 := 1) (by omega) (by omega) (by omega) (by rw [if_neg (by decide), if_pos ho])
      rw [eA] at p1 p2
      exact ⟨p1 g1, p2.trans g2⟩
/-- a step's scope: the class looks at it alone, the reference at all around it -/
theorem scope_sim {s : Nat} (h : SC q c σ τ) (hs : s ≤ q) : k_Sc_isClosed (nI s) σ ∧ k_Mo_stands_26 1000 1 (nI s) 0 τ ∧ ((f_Sc_isClosed (nI s) σ = 0 ∧ f_Mo_stands_26 1000 1 (nI s) 0 τ = 1) ∨ (¬ f_Sc_isClosed (nI s) σ = 0 ∧ f_Mo_stands_26 1000 1 (nI s) 0 τ = 0)) := by
  obtain ⟨hq, hc, e3, -, -, -, -, c0, hA, hO⟩ := h
  have hcl : (nI s).toNatClampNeg = s := nI_clamp (by omega)
  have h1 : ¬ nI s < 0 := nI_pos (by omega)
  have h2 : ¬ σ.1 27 3 ≤ nI s := fun z => by rw [e3, nI_le_iff (by omega) (by omega)] at z; omega
  have hh : ¬ f_Sc_has (nI s) σ = 0 := by
    show ¬ (if nI s < 0 then (0 : Int32) else (if σ.1 27 3 ≤ nI s then 0 else 1)) = 0
    rw [if_neg h1, if_neg h2]; decide
  have kh : k_Sc_has (nI s) σ := ⟨fun _ => ⟨rfl, trivial⟩, fun _ => ⟨fun _ => ⟨rfl, trivial⟩, fun _ => ⟨rfl, trivial⟩⟩⟩
  have kC : k_Sc_isClosed (nI s) σ := ⟨kh, fun z => absurd z hh, fun _ => ⟨by rw [in_iff, i_nI (by omega)]; omega, fun _ => ⟨rfl, trivial⟩, fun _ => ⟨rfl, trivial⟩⟩⟩
  have eC : f_Sc_isClosed (nI s) σ = if σ.1 30 s = 0 then 0 else 1 := by
    show (if f_Sc_has (nI s) σ = 0 then (0 : Int32) else (if σ.1 30 (nI s).toNatClampNeg = 0 then 0 else 1)) = _
    rw [if_neg hh, hcl]
  have hA' : ∀ k, 1 ≤ k → k ≤ q → ∃ a, a < k ∧ τ.1 18 k = nI a := fun k q1 q2 => by
    obtain ⟨-, -, -, a, d, q3, q4, -⟩ := hA k q1 q2
    exact ⟨a, q3, q4⟩
  have hm : ∀ s, s ∈ chn (τ.1 18) 21 c → 1 ≤ s ∧ s ≤ c ∧ ∃ a, a < s ∧ τ.1 18 s = nI a ∧ (a = 0 ∨ a ∈ chn (τ.1 18) 21 c) := by
    -- beyond q the arounds are not looked at: take 0 for them
    have key : ∀ (fu k : Nat), k ≤ q → chn (τ.1 18) fu k = chn (fun j => if j ≤ q then τ.1 18 j else nI 0) fu k := by
      intro fu
      induction fu with
      | zero => intro k _; rfl
      | succ fu ih =>
        intro k hk
        show (if k = 0 then [] else k :: chn (τ.1 18) fu (τ.1 18 k).toNatClampNeg) = (if k = 0 then [] else k :: chn (fun j => if j ≤ q then τ.1 18 j else nI 0) fu (if k ≤ q then τ.1 18 k else nI 0).toNatClampNeg)
        rw [if_pos hk]
        by_cases k0 : k = 0
        · rw [if_pos k0, if_pos k0]
        · rw [if_neg k0, if_neg k0]
          obtain ⟨a, ha, eA⟩ := hA' k (by omega) hk
          rw [eA, nI_clamp (by omega), ih a (by omega)]
    intro s hs
    rw [key 21 c hc] at hs ⊢
    obtain ⟨q1, q2, a, q3, q4, q5⟩ := chn_mem (A := fun j => if j ≤ q then τ.1 18 j else nI 0) (fun k z1 z2 => by
      by_cases hk : k ≤ q
      · obtain ⟨a, ha, eA⟩ := hA' k z1 hk
        exact ⟨a, ha, by rw [if_pos hk]; exact eA⟩
      · exact ⟨0, by omega, by rw [if_neg hk]⟩) 21 c s (by omega) (by omega) hs
    rw [if_pos (by omega)] at q4
    exact ⟨q1, q2, a, q3, q4, q5⟩
  by_cases s0 : s = 0
  · subst s0
    obtain ⟨g1, g2⟩ := st_end (τ := τ) (x := 0) (fuel := 999) (y := 1) (by omega) (Or.inr rfl)
    rw [nI_0] at g1 g2 ⊢
    refine ⟨by rw [nI_0] at kC; exact kC, g1, Or.inl ⟨?_, g2⟩⟩
    rw [nI_0] at eC
    rw [eC, if_pos c0.1]
  · obtain ⟨-, e30, e19, -⟩ := hA s (by omega) hs
    rw [eC, e30]
    by_cases ho : τ.1 19 s = 0
    · obtain ⟨g1, g2⟩ := st_open (c := c) hA' hq hc hO (fun k hk => (hm k hk).2.2) s s 0 1000 (Nat.le_refl s) hs (by omega) (by omega) (Or.inr ((hO s (by omega) hs).mp ho))
      rw [nI_0] at g1 g2
      exact ⟨kC, g1, Or.inl ⟨by rw [if_pos ho], g2⟩⟩
    · obtain ⟨a, ha, eA⟩ := hA' s (by omega) hs
      obtain ⟨g1, g2⟩ := st_zero hA' hq a a 1 999 (Nat.le_refl a) (by omega) (by omega) (by omega)
      obtain ⟨p1, p2⟩ := st_step (τ := τ) (s := s) (x := 0) (fuel := 999) (y := 1) (y2 := 0) (by omega) (by omega) (by omega) (by rw [if_neg (by decide), if_neg ho])
      rw [eA] at p1 p2
      rw [nI_0] at p1 p2
      exact ⟨kC, p1 g1, Or.inr ⟨by rw [if_neg ho]; decide, p2.trans g2⟩⟩
/-- stands: both sides alike -/
theorem stands_sim {n k : Nat} (hC : SC q c σ τ) (hP : SP n q k σ τ) (a : Int32) : k_CL_stands a σ ∧ k_Mo_stands a τ ∧ ((f_CL_stands a σ = 0 ∧ f_Mo_stands a τ = 0) ∨ (¬ f_CL_stands a σ = 0 ∧ ¬ f_Mo_stands a τ = 0 ∧ ∃ i, i < k ∧ a = nI i)) := by
  obtain ⟨p1, p2, p3, p4⟩ := hP
  have khas : k_St_has a σ := ⟨fun _ => ⟨rfl, trivial⟩, fun _ => ⟨fun _ => ⟨rfl, trivial⟩, fun _ => ⟨rfl, trivial⟩⟩⟩
  have ehas : f_St_has a σ = if a < 0 then 0 else (if σ.1 31 4 ≤ a then 0 else 1) := rfl
  rcases arg_cases a k with ha | ⟨i, hi, rfl⟩
  · have h0 : f_St_has a σ = 0 := by
      rw [ehas, p2]
      by_cases z : a < 0
      · rw [if_pos z]
      · rw [if_neg z, if_pos]
        rw [Int32.le_iff_toInt_le, i_nI (by omega)]
        rw [Int32.lt_iff_toInt_lt, Int32.toInt_zero] at z
        omega
    have h1 : ¬ a < 0 → ¬ a < τ.1 0 19 := fun z z2 => by
      rw [p3, Int32.lt_iff_toInt_lt, i_nI (by omega)] at z2
      rw [Int32.lt_iff_toInt_lt, Int32.toInt_zero] at z
      omega
    refine ⟨⟨khas, fun _ => ⟨rfl, trivial⟩, fun z => absurd h0 z⟩, ⟨fun _ => trivial, fun z => ⟨fun z2 => absurd z2 (h1 z), fun _ => trivial⟩⟩, Or.inl ⟨?_, ?_⟩⟩
    · show (if f_St_has a σ = 0 then (0 : Int32) else _) = 0
      rw [if_pos h0]
    · show (if a < 0 then (0 : Int32) else (if a < τ.1 0 19 then _ else 0)) = 0
      by_cases z : a < 0
      · rw [if_pos z]
      · rw [if_neg z, if_neg (h1 z)]
  · have hcl : (nI i).toNatClampNeg = i := nI_clamp (by omega)
    have hin : vp_in (nI i) 60 := by rw [in_iff, i_nI (by omega)]; omega
    have z0 : ¬ nI i < 0 := nI_pos (by omega)
    have z1 : ¬ σ.1 31 4 ≤ nI i := fun z => by rw [p2, nI_le_iff (by omega) (by omega)] at z; omega
    have z2 : nI i < τ.1 0 19 := by rw [p3]; exact (nI_lt_iff (by omega) (by omega)).mpr hi
    have h0 : ¬ f_St_has (nI i) σ = 0 := by rw [ehas, if_neg z0, if_neg z1]; decide
    obtain ⟨r1, ⟨s, r2, r3⟩, -⟩ := p4 i hi
    have es : f_St_scopeOf (nI i) σ = nI s := by
      show (if f_St_has (nI i) σ = 0 then (-1 : Int32) else σ.1 34 (nI i).toNatClampNeg) = _
      rw [if_neg h0, hcl, r1, r3]
    obtain ⟨g1, g2, g3⟩ := scope_sim hC r2
    have eC : f_CL_stands (nI i) σ = if f_Sc_isClosed (nI s) σ = 0 then 1 else 0 := by
      show (if f_St_has (nI i) σ = 0 then (0 : Int32) else (if f_Sc_isClosed (f_St_scopeOf (nI i) σ) σ = 0 then 1 else 0)) = _
      rw [if_neg h0, es]
    have eM : f_Mo_stands (nI i) τ = f_Mo_stands_26 1000 1 (nI s) 0 τ := by
      show (if nI i < 0 then (0 : Int32) else (if nI i < τ.1 0 19 then f_Mo_stands_26 1000 1 (τ.1 16 (nI i).toNatClampNeg) 0 τ else 0)) = _
      rw [if_neg z0, if_pos z2, hcl, r3]
    refine ⟨⟨khas, fun z => absurd z h0, fun _ => ⟨⟨khas, fun z => absurd z h0, fun _ => ⟨hin, trivial⟩⟩, by rw [es]; exact g1, fun _ => ⟨rfl, trivial⟩, fun _ => ⟨rfl, trivial⟩⟩⟩, ⟨fun z => absurd z z0, fun _ => ⟨fun _ => ⟨hin, ?_⟩, fun z => absurd z2 z⟩⟩, ?_⟩
    · show k_Mo_stands_26 1000 1 (τ.1 16 (nI i).toNatClampNeg) 0 τ
      rw [hcl, r3]; exact g2
    · rw [eC, eM]
      rcases g3 with ⟨a1, a2⟩ | ⟨a1, a2⟩
      · exact Or.inr ⟨by rw [if_pos a1]; decide, by rw [a2]; decide, i, hi, rfl⟩
      · exact Or.inl ⟨by rw [if_neg a1], a2⟩
end STD
