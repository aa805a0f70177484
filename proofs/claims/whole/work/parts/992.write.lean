-- a text as the reference writes it
def fmT (X X' : St) : Prop := (∀ c, ¬ c = 0 → ¬ c = 23 → ¬ c = 24 → X'.1 c = X.1 c) ∧ (∀ j, ¬ j = 34 → ¬ j = 46 → ¬ j = 48 → X'.1 0 j = X.1 0 j) ∧ X'.2 = X.2
theorem fmT.rf (X : St) : fmT X X := ⟨fun _ _ _ _ => rfl, fun _ _ _ _ => rfl, rfl⟩
theorem fmT.tr {a b d : St} (h1 : fmT a b) (h2 : fmT b d) : fmT a d := ⟨fun c q1 q2 q3 => (h2.1 c q1 q2 q3).trans (h1.1 c q1 q2 q3), fun j q1 q2 q3 => (h2.2.1 j q1 q2 q3).trans (h1.2.1 j q1 q2 q3), h2.2.2.trans h1.2.2⟩
theorem write_at (c : Int32) (X : St) : (∀ k, ¬ k = 0 → (f_Mo_write c X).1 k = X.1 k) ∧ (∀ j, ¬ j = 46 → ¬ j = 48 → (f_Mo_write c X).1 0 j = X.1 0 j) ∧ (f_Mo_write c X).2 = X.2 ∧ (f_Mo_write c X).1 0 46 = X.1 0 46 + 1 ∧ (f_Mo_write c X).1 0 48 = if X.1 0 46 = X.1 0 47 then c else X.1 0 48 := by
  have e : f_Mo_write c X = if X.1 0 46 = X.1 0 47 then sF (sF X 0 48 c) 0 46 (X.1 0 46 + 1) else sF X 0 46 (X.1 0 46 + 1) := rfl
  rw [e]
  by_cases h : X.1 0 46 = X.1 0 47
  · rw [if_pos h, if_pos h]
    refine ⟨fun k hk => ?_, fun j q1 q2 => ?_, rfl, rfl, rfl⟩
    · show pu (pu X.1 0 _) 0 _ k = _
      rw [pu_at, if_neg hk, pu_at, if_neg hk]
    · show pu (pu (X.1 0) 48 _) 46 _ j = _
      rw [pu_at, if_neg q1, pu_at, if_neg q2]
  · rw [if_neg h, if_neg h]
    refine ⟨fun k hk => ?_, fun j q1 q2 => ?_, rfl, rfl, rfl⟩
    · show pu X.1 0 _ k = _
      rw [pu_at, if_neg hk]
    · show pu (X.1 0) 46 _ j = _
      rw [pu_at, if_neg q1]
theorem wr_at (L : List Int32) : ∀ X : St, (∀ k, ¬ k = 0 → (wr L X).1 k = X.1 k) ∧ (∀ j, ¬ j = 46 → ¬ j = 48 → (wr L X).1 0 j = X.1 0 j) ∧ (wr L X).2 = X.2 := by
  induction L with
  | nil => intro X; exact ⟨fun _ _ => rfl, fun _ _ _ => rfl, rfl⟩
  | cons c L ih =>
    intro X
    obtain ⟨w1, w2, w3, -, -⟩ := write_at c X
    obtain ⟨g1, g2, g3⟩ := ih (f_Mo_write c X)
    exact ⟨fun k hk => (g1 k hk).trans (w1 k hk), fun j q1 q2 => (g2 j q1 q2).trans (w2 j q1 q2), g3.trans w3⟩
theorem wr_fm (L : List Int32) (X : St) : fmT X (wr L X) := by
  obtain ⟨g1, g2, g3⟩ := wr_at L X
  exact ⟨fun c q1 _ _ => g1 c q1, fun j _ q2 q3 => g2 j q2 q3, g3⟩
/-- what is counted and caught hangs on what was counted and caught -/
theorem wr_dep (L : List Int32) : ∀ X Y : St, Y.1 0 46 = X.1 0 46 → Y.1 0 47 = X.1 0 47 → Y.1 0 48 = X.1 0 48 → (wr L Y).1 0 46 = (wr L X).1 0 46 ∧ (wr L Y).1 0 48 = (wr L X).1 0 48 := by
  induction L with
  | nil => intro X Y h1 h2 h3; exact ⟨h1, h3⟩
  | cons c L ih =>
    intro X Y h1 h2 h3
    obtain ⟨-, x2, -, x4, x5⟩ := write_at c X
    obtain ⟨-, y2, -, y4, y5⟩ := write_at c Y
    refine ih (f_Mo_write c X) (f_Mo_write c Y) ?_ ?_ ?_
    · rw [x4, y4, h1]
    · rw [x2 47 (by omega) (by omega), y2 47 (by omega) (by omega), h2]
    · rw [x5, y5, h1, h2, h3]
/-- X' has counted and caught as if L had been written -/
def WE (L : List Int32) (X X' : St) : Prop := X'.1 0 46 = (wr L X).1 0 46 ∧ X'.1 0 48 = (wr L X).1 0 48 ∧ X'.1 0 47 = X.1 0 47
theorem WE.wr (L : List Int32) (X : St) : WE L X (wr L X) := ⟨rfl, rfl, (wr_at L X).2.1 47 (by omega) (by omega)⟩
theorem WE.app {L M : List Int32} {X Y Z : St} (h1 : WE L X Y) (h2 : WE M Y Z) : WE (L ++ M) X Z := by
  obtain ⟨a1, a2, a3⟩ := h1
  obtain ⟨b1, b2, b3⟩ := h2
  have e47 := (wr_at L X).2.1 47 (by omega) (by omega)
  obtain ⟨d1, d2⟩ := wr_dep M (L.foldl (fun s c => f_Mo_write c s) X) Y a1 (a3.trans e47.symm) a2
  unfold WE
  rw [wr_app]
  exact ⟨b1.trans d1, b2.trans d2, b3.trans a3⟩
theorem WE.cell {L : List Int32} {X Y Z : St} (h : WE L X Y) (e1 : Z.1 0 46 = Y.1 0 46) (e2 : Z.1 0 47 = Y.1 0 47) (e3 : Z.1 0 48 = Y.1 0 48) : WE L X Z := ⟨e1.trans h.1, e3.trans h.2.1, e2.trans h.2.2⟩
theorem WE.same {X Y : St} (e1 : Y.1 0 46 = X.1 0 46) (e2 : Y.1 0 47 = X.1 0 47) (e3 : Y.1 0 48 = X.1 0 48) : WE [] X Y := ⟨e1, e3, e2⟩
/-- what has been counted and caught, in numbers -/
theorem wr_num (L : List Int32) : ∀ (X : St) (w : Nat), X.1 0 46 = nI w → w + L.length < 1000000 → (wr L X).1 0 46 = nI (w + L.length) ∧ ∀ x : Nat, X.1 0 47 = nI x → x < 2147483648 → (w ≤ x → x < w + L.length → (wr L X).1 0 48 = L.getD (x - w) 0) ∧ ((x < w ∨ w + L.length ≤ x) → (wr L X).1 0 48 = X.1 0 48) := by
  induction L with
  | nil =>
    intro X w h1 h2
    refine ⟨h1, fun x _ _ => ⟨fun q1 q2 => ?_, fun _ => rfl⟩⟩
    have : ([] : List Int32).length = 0 := rfl
    omega
  | cons c L ih =>
    intro X w h1 h2
    rw [List.length_cons] at h2
    obtain ⟨-, x2, -, x4, x5⟩ := write_at c X
    obtain ⟨g1, g2⟩ := ih (f_Mo_write c X) (w + 1) (by rw [x4, h1, nI_succ]) (by omega)
    refine ⟨?_, fun x e hx => ?_⟩
    · show (wr L (f_Mo_write c X)).1 0 46 = _
      rw [g1, List.length_cons, show w + 1 + L.length = w + (L.length + 1) by omega]
    · obtain ⟨g3, g4⟩ := g2 x (by rw [x2 47 (by omega) (by omega)]; exact e) hx
      have ee : X.1 0 46 = X.1 0 47 ↔ w = x := by rw [h1, e]; exact nI_inj (by omega) hx
      rw [List.length_cons]
      refine ⟨fun q1 q2 => ?_, fun q => ?_⟩
      · show (wr L (f_Mo_write c X)).1 0 48 = _
        by_cases z : w = x
        · rw [g4 (Or.inl (by omega)), x5, if_pos (ee.mpr z), z, Nat.sub_self]; rfl
        · rw [g3 (by omega) (by omega), show x - w = (x - (w + 1)) + 1 by omega]; rfl
      · show (wr L (f_Mo_write c X)).1 0 48 = _
        rw [g4 (by omega), x5, if_neg (fun z => by have := ee.mp z; omega)]
def hd2 (k l : Int32) : List Int32 := 40 :: mkL k l :: (if k = 10 then [32, 120 + l] else [])
theorem hdT_eq (k l : Int32) : hdT k l = hd2 k l ++ [32] := by
  unfold hdT hd2
  by_cases w : k = 10
  · rw [if_pos w, if_pos w]; rfl
  · rw [if_neg w, if_neg w]; rfl
section WRT
variable {n t : Nat} {τ X : St}
theorem w218 {s0 x2 : Int32} (ht : t < 400) : k_Mo_writeHead_218 (nI t) x2 s0 X ∧ f_Mo_writeHead_218 (nI t) x2 s0 X = wr (s0 :: (if x2 = 10 then [32, 120 + X.1 10 t] else [])) X := by
  have hcl : (nI t).toNatClampNeg = t := nI_clamp (by omega)
  have hin : vp_in (nI t) 400 := by rw [in_iff, i_nI (by omega)]; omega
  have c1 : (f_Mo_write 32 (f_Mo_write s0 X)).1 10 = X.1 10 := ((write_at 32 _).1 10 (by omega)).trans ((write_at s0 X).1 10 (by omega))
  refine ⟨⟨kW _ _, fun _ => ⟨kW _ _, hin, kW _ _, trivial⟩, fun _ => trivial⟩, ?_⟩
  show (if x2 = 10 then f_Mo_write (120 + (f_Mo_write 32 (f_Mo_write s0 X)).1 10 (nI t).toNatClampNeg) (f_Mo_write 32 (f_Mo_write s0 X)) else f_Mo_write s0 X) = _
  rw [hcl, c1]
  by_cases w : x2 = 10
  · rw [if_pos w, if_pos w]; rfl
  · rw [if_neg w, if_neg w]; rfl
theorem w108 {k : Int32} (ht : t < 400) : k_Mo_writeHead_108 (nI t) k X ∧ f_Mo_writeHead_108 (nI t) k X = wr (mkL k (X.1 10 t) :: (if k = 10 then [32, 120 + X.1 10 t] else [])) X := by
  have hcl : (nI t).toNatClampNeg = t := nI_clamp (by omega)
  have hin : vp_in (nI t) 400 := by rw [in_iff, i_nI (by omega)]; omega
  have K := fun s : Int32 => (w218 (X := X) (t := t) (s0 := s) (x2 := k) ht).1
  have E := fun s : Int32 => (w218 (X := X) (t := t) (s0 := s) (x2 := k) ht).2
  refine ⟨⟨fun _ => ⟨hin, K _⟩, fun _ => ⟨fun _ => ⟨hin, K _⟩, fun _ => ⟨fun _ => K _, fun _ => ⟨fun _ => K _, fun _ => ⟨fun _ => K _, fun _ => ⟨fun _ => K _, fun _ => ⟨fun _ => K _, fun _ => ⟨fun _ => K _, fun _ => ⟨fun _ => K _, fun _ => K _⟩⟩⟩⟩⟩⟩⟩⟩⟩, ?_⟩
  rw [f_Mo_writeHead_108, hcl, E, E, E, E, E, E, E, E, E, E]
  unfold mkL
  by_cases z0 : k = 0
  · rw [if_pos z0, if_pos z0]
  rw [if_neg z0, if_neg z0]
  by_cases z1 : k = 1
  · rw [if_pos z1, if_pos z1]
  rw [if_neg z1, if_neg z1]
  by_cases z3 : k = 3
  · rw [if_pos z3, if_pos z3]
  rw [if_neg z3, if_neg z3]
  by_cases z4 : k = 4
  · rw [if_pos z4, if_pos z4]
  rw [if_neg z4, if_neg z4]
  by_cases z5 : k = 5
  · rw [if_pos z5, if_pos z5]
  rw [if_neg z5, if_neg z5]
  by_cases z6 : k = 6
  · rw [if_pos z6, if_pos z6]
  rw [if_neg z6, if_neg z6]
  by_cases z7 : k = 7
  · rw [if_pos z7, if_pos z7]
  rw [if_neg z7, if_neg z7]
  by_cases z8 : k = 8
  · rw [if_pos z8, if_pos z8]
  rw [if_neg z8, if_neg z8]
  by_cases z9 : k = 9
  · rw [if_pos z9, if_pos z9]
  rw [if_neg z9, if_neg z9]
/-- what a row's head is -/
def hdW (τ : St) (t : Nat) : List Int32 := if τ.1 5 t = 2 then cT (τ.1 11 t) (τ.1 12 t) else (if τ.1 8 t = -1 then [mkL (τ.1 5 t) (τ.1 10 t)] else hd2 (τ.1 5 t) (τ.1 10 t))
theorem whead (hW : tmW X t) (h10 : X.1 5 t = 10 → ¬ X.1 8 t = -1) (ht : t < 400) : k_Mo_writeHead (nI t) X ∧ f_Mo_writeHead (nI t) X = wr (hdW X t) X := by
  have hcl : (nI t).toNatClampNeg = t := nI_clamp (by omega)
  have hin : vp_in (nI t) 400 := by rw [in_iff, i_nI (by omega)]; omega
  have e0 : f_Mo_writeHead (nI t) X = f_Mo_writeHead_7 (nI t) (X.1 5 t) X := by
    show f_Mo_writeHead_7 (nI t) (X.1 5 (nI t).toNatClampNeg) X = _
    rw [hcl]
  have k0 : k_Mo_writeHead_7 (nI t) (X.1 5 t) X → k_Mo_writeHead (nI t) X := fun w => ⟨hin, by rw [hcl]; exact w⟩
  rw [e0]
  unfold hdW
  by_cases k2 : X.1 5 t = 2
  · rw [if_pos k2]
    obtain ⟨-, -, -, hp, hq⟩ := hW.2.2.2.2.2.2.1 k2
    have zp : (0 ≤ X.1 11 t) ↔ 0 ≤ (X.1 11 t).toInt := by rw [Int32.le_iff_toInt_le, Int32.toInt_zero]
    have zq : (X.1 12 t ≤ 1) ↔ X.1 12 t = 1 := by
      rw [Int32.le_iff_toInt_le, ← Int32.toInt_inj, show (1 : Int32).toInt = 1 from by decide]; omega
    -- behind the sign
    have r27 : ∀ Y : St, Y.1 11 = X.1 11 → Y.1 12 = X.1 12 → k_Mo_writeHead_27 (nI t) Y ∧ f_Mo_writeHead_27 (nI t) Y = wr (numT (plc (X.1 11 t).toInt.natAbs) (X.1 11 t).toInt.natAbs ++ (if X.1 12 t = 1 then [] else 47 :: numT (plc (X.1 12 t).toInt.natAbs) (X.1 12 t).toInt.natAbs)) Y := fun Y h11 h12 => by
      obtain ⟨n1, n2⟩ := wnum (v := (X.1 11 t).toInt.natAbs) (by omega) Y
      have ea : (if 0 ≤ X.1 11 t then X.1 11 t else -(X.1 11 t)) = nI (X.1 11 t).toInt.natAbs := by
        apply Int32.toInt_inj.mp
        rw [i_nI (by omega)]
        by_cases w : 0 ≤ X.1 11 t
        · rw [if_pos w]; rw [zp] at w; omega
        · rw [if_neg w, Int32.toInt_neg, Int.bmod_def]; rw [zp] at w; omega
      -- the part below
      have r56 : ∀ Z : St, Z.1 12 = X.1 12 → k_Mo_writeHead_56 (nI t) Z ∧ f_Mo_writeHead_56 (nI t) Z = wr (if X.1 12 t = 1 then [] else 47 :: numT (plc (X.1 12 t).toInt.natAbs) (X.1 12 t).toInt.natAbs) Z := fun Z hZ => by
        have hZ2 : (f_Mo_write 47 Z).1 12 = X.1 12 := ((write_at 47 Z).1 12 (by omega)).trans hZ
        obtain ⟨m1, m2⟩ := wnum (v := (X.1 12 t).toInt.natAbs) (by omega) (f_Mo_write 47 Z)
        rw [← qI hq] at m1 m2
        have e56 : f_Mo_writeHead_56 (nI t) Z = if X.1 12 t ≤ 1 then (if X.1 12 t ≤ 1 then Z else f_Mo_writeNumber (X.1 12 t) Z) else (if X.1 12 t ≤ 1 then f_Mo_write 47 Z else f_Mo_writeNumber (X.1 12 t) (f_Mo_write 47 Z)) := by
          show (if Z.1 12 (nI t).toNatClampNeg ≤ 1 then (if Z.1 12 (nI t).toNatClampNeg ≤ 1 then Z else f_Mo_writeNumber (Z.1 12 (nI t).toNatClampNeg) Z) else (if (f_Mo_write 47 Z).1 12 (nI t).toNatClampNeg ≤ 1 then f_Mo_write 47 Z else f_Mo_writeNumber ((f_Mo_write 47 Z).1 12 (nI t).toNatClampNeg) (f_Mo_write 47 Z))) = _
          rw [hcl, hZ, hZ2]
        refine ⟨⟨hin, ?_⟩, ?_⟩
        · rw [hcl, hZ]
          refine ⟨fun z => ⟨hin, ?_⟩, fun z => ⟨kW _ _, hin, ?_⟩⟩
          · rw [hcl, hZ]
            exact ⟨fun _ => trivial, fun w => absurd z w⟩
          · rw [hcl, hZ2]
            exact ⟨fun _ => trivial, fun _ => ⟨hin, m1, trivial⟩⟩
        · rw [e56]
          by_cases w : X.1 12 t = 1
          · rw [if_pos (zq.mpr w), if_pos (zq.mpr w), if_pos w]; rfl
          · rw [if_neg (fun z => w (zq.mp z)), if_neg (fun z => w (zq.mp z)), if_neg w, m2]; rfl
      have hY12 : (wr (numT (plc (X.1 11 t).toInt.natAbs) (X.1 11 t).toInt.natAbs) Y).1 12 = X.1 12 := ((wr_at _ Y).1 12 (by omega)).trans h12
      obtain ⟨s1, s2⟩ := r56 _ hY12
      have e27 : f_Mo_writeHead_27 (nI t) Y = f_Mo_writeHead_56 (nI t) (f_Mo_writeNumber (nI (X.1 11 t).toInt.natAbs) Y) := by
        show (if 0 ≤ Y.1 11 (nI t).toNatClampNeg then f_Mo_writeHead_53 (nI t) (Y.1 11 (nI t).toNatClampNeg) Y else f_Mo_writeHead_53 (nI t) (-(Y.1 11 (nI t).toNatClampNeg)) Y) = _
        rw [hcl, h11, ← ea]
        by_cases w : 0 ≤ X.1 11 t
        · rw [if_pos w, if_pos w]; rfl
        · rw [if_neg w, if_neg w]; rfl
      refine ⟨⟨hin, ?_⟩, ?_⟩
      · rw [hcl, h11]
        have kk : k_Mo_writeHead_53 (nI t) (nI (X.1 11 t).toInt.natAbs) Y := ⟨n1, by rw [n2]; exact s1⟩
        rw [← ea] at kk
        refine ⟨fun w => ⟨hin, ?_⟩, fun w => ⟨hin, ?_⟩⟩
        · rw [if_pos w] at kk; exact kk
        · rw [if_neg w] at kk; exact kk
      · rw [e27, n2, s2, wr_app]
    have e7 : f_Mo_writeHead_7 (nI t) (X.1 5 t) X = if 0 ≤ X.1 11 t then f_Mo_writeHead_27 (nI t) X else f_Mo_writeHead_27 (nI t) (f_Mo_write 45 X) := by
      rw [f_Mo_writeHead_7, if_pos k2, hcl]
    obtain ⟨a1, a2⟩ := r27 X rfl rfl
    obtain ⟨b1, b2⟩ := r27 (f_Mo_write 45 X) ((write_at 45 X).1 11 (by omega)) ((write_at 45 X).1 12 (by omega))
    refine ⟨k0 ⟨fun _ => ⟨hin, fun _ => a1, fun _ => ⟨kW _ _, b1⟩⟩, fun z => absurd k2 z⟩, ?_⟩
    rw [e7]
    unfold cT
    by_cases w : 0 ≤ X.1 11 t
    · rw [if_pos w, if_pos w, a2]; rfl
    · rw [if_neg w, if_neg w, b2]; rfl
  · rw [if_neg k2]
    have neg8 : X.1 8 t < 0 ↔ X.1 8 t = -1 := i_neg (n := t) (by omega) hW.1
    have c10 : (f_Mo_write 40 X).1 10 = X.1 10 := (write_at 40 X).1 10 (by omega)
    obtain ⟨a1, a2⟩ := w108 (X := X) (k := X.1 5 t) ht
    obtain ⟨b1, b2⟩ := w108 (X := f_Mo_write 40 X) (k := X.1 5 t) ht
    rw [c10] at b2
    have e7 : f_Mo_writeHead_7 (nI t) (X.1 5 t) X = if X.1 8 t < 0 then f_Mo_writeHead_108 (nI t) (X.1 5 t) X else f_Mo_writeHead_108 (nI t) (X.1 5 t) (f_Mo_write 40 X) := by
      rw [f_Mo_writeHead_7, if_neg k2, hcl]
    refine ⟨k0 ⟨fun z => absurd z k2, fun _ => ⟨hin, fun _ => a1, fun _ => ⟨kW _ _, b1⟩⟩⟩, ?_⟩
    rw [e7]
    by_cases w : X.1 8 t = -1
    · rw [if_pos (neg8.mpr w), if_pos w, a2]
      rw [if_neg (fun z => h10 z w)]
    · rw [if_neg (fun z => w (neg8.mp z)), if_neg w, b2]
      rfl
/-- what the machine does with the frame on top -/
theorem wact {b g : Nat} {fuel : Nat} (hb : b < 39) (h34 : X.1 0 34 = nI (b + 1)) (h24 : X.1 24 b = nI t) (h23 : X.1 23 b = nI g) (hg : g ≤ 2) (ht : t < 400) (hW : tmW X t) :
    (∀ a : Nat, ((g = 0 ∧ X.1 8 t = nI a) ∨ (g = 1 ∧ X.1 9 t = nI a)) → a < t → f_Mo_writeAll_73 (f_Mo_writeAll_12 fuel) (-1) X = f_Mo_writeAll_12 fuel (nI a) (f_Mo_write 32 (sA X 23 (nI b) (nI (g + 1)))) ∧ (k_Mo_writeAll_12 fuel (nI a) (f_Mo_write 32 (sA X 23 (nI b) (nI (g + 1)))) → k_Mo_writeAll_73 (k_Mo_writeAll_12 fuel) (-1) X)) ∧
    (((g = 1 ∧ X.1 9 t = -1) ∨ g = 2) → f_Mo_writeAll_73 (f_Mo_writeAll_12 fuel) (-1) X = f_Mo_writeAll_12 fuel (-1) (sF (f_Mo_write 41 (sA X 23 (nI b) (nI (g + 1)))) 0 34 (nI b)) ∧ (k_Mo_writeAll_12 fuel (-1) (sF (f_Mo_write 41 (sA X 23 (nI b) (nI (g + 1)))) 0 34 (nI b)) → k_Mo_writeAll_73 (k_Mo_writeAll_12 fuel) (-1) X)) := by
  have hcl : (nI b).toNatClampNeg = b := nI_clamp (by omega)
  have hct : (nI t).toNatClampNeg = t := nI_clamp (by omega)
  have hin : vp_in (nI b) 40 := by rw [in_iff, i_nI (by omega)]; omega
  have hit : vp_in (nI t) 400 := by rw [in_iff, i_nI (by omega)]; omega
  have n34 : ¬ X.1 0 34 = 0 := fun z => by
    have := (nI_inj (a := b + 1) (b := 0) (by omega) (by omega)).mp (by rw [nI_0, ← h34]; exact z)
    omega
  have g0 : nI g = 0 ↔ g = 0 := by
    have := nI_inj (a := g) (b := 0) (by omega) (by omega)
    rw [nI_0] at this; exact this
  have g1 : nI g = 1 ↔ g = 1 := nI_inj (b := 1) (by omega) (by omega)
  -- the part that comes next
  let P : Int32 := if g = 0 then X.1 8 t else (if g = 1 then X.1 9 t else -1)
  have e73 : f_Mo_writeAll_73 (f_Mo_writeAll_12 fuel) (-1) X = f_Mo_writeAll_160 (f_Mo_writeAll_12 fuel) (-1) P (sA X 23 (nI b) (nI (g + 1))) := by
    rw [f_Mo_writeAll_73, if_neg n34, h34, nI_pred, hcl, h24, f_Mo_writeAll_95, h34, nI_pred, hcl, h23, hct, f_Mo_writeAll_143, f_Mo_writeAll_143, f_Mo_writeAll_143, h34, nI_pred, hcl, h23, ← nI_succ]
    show _ = f_Mo_writeAll_160 (f_Mo_writeAll_12 fuel) (-1) (if g = 0 then X.1 8 t else (if g = 1 then X.1 9 t else -1)) (sA X 23 (nI b) (nI (g + 1)))
    by_cases z0 : g = 0
    · rw [if_pos (g0.mpr z0), if_pos z0]
    · rw [if_neg (fun w => z0 (g0.mp w)), if_neg z0]
      by_cases z1 : g = 1
      · rw [if_pos (g1.mpr z1), if_pos z1]
      · rw [if_neg (fun w => z1 (g1.mp w)), if_neg z1]
  have k73 : k_Mo_writeAll_160 (k_Mo_writeAll_12 fuel) (-1) P (sA X 23 (nI b) (nI (g + 1))) → k_Mo_writeAll_73 (k_Mo_writeAll_12 fuel) (-1) X := fun w => by
    have k143 : ∀ s : Int32, P = s → k_Mo_writeAll_143 (k_Mo_writeAll_12 fuel) (-1) s X := fun s hs => by
      subst hs
      show vp_in (X.1 0 34 - 1) 40 ∧ vp_in (X.1 0 34 - 1) 40 ∧ k_Mo_writeAll_160 (k_Mo_writeAll_12 fuel) (-1) P (sA X 23 (X.1 0 34 - 1) (X.1 23 (X.1 0 34 - 1).toNatClampNeg + 1))
      rw [h34, nI_pred, hcl, h23, ← nI_succ]
      exact ⟨hin, hin, w⟩
    refine ⟨fun z => absurd z n34, fun _ => ?_⟩
    rw [h34, nI_pred, hcl, h24]
    refine ⟨hin, ?_⟩
    show vp_in (X.1 0 34 - 1) 40 ∧ (X.1 23 (X.1 0 34 - 1).toNatClampNeg = 0 → vp_in (nI t) 400 ∧ k_Mo_writeAll_143 (k_Mo_writeAll_12 fuel) (-1) (X.1 8 (nI t).toNatClampNeg) X) ∧ (¬ X.1 23 (X.1 0 34 - 1).toNatClampNeg = 0 → vp_in (X.1 0 34 - 1) 40 ∧ (X.1 23 (X.1 0 34 - 1).toNatClampNeg = 1 → vp_in (nI t) 400 ∧ k_Mo_writeAll_143 (k_Mo_writeAll_12 fuel) (-1) (X.1 9 (nI t).toNatClampNeg) X) ∧ (¬ X.1 23 (X.1 0 34 - 1).toNatClampNeg = 1 → k_Mo_writeAll_143 (k_Mo_writeAll_12 fuel) (-1) (-1) X))
    rw [h34, nI_pred, hcl, h23, hct]
    refine ⟨hin, fun z => ⟨hit, k143 _ ?_⟩, fun z => ⟨hin, fun z2 => ⟨hit, k143 _ ?_⟩, fun z2 => k143 _ ?_⟩⟩
    · show (if g = 0 then _ else _) = _
      rw [if_pos (g0.mp z)]
    · show (if g = 0 then _ else (if g = 1 then _ else _)) = _
      rw [if_neg (fun w => z (g0.mpr w)), if_pos (g1.mp z2)]
    · show (if g = 0 then _ else (if g = 1 then _ else _)) = _
      rw [if_neg (fun w => z (g0.mpr w)), if_neg (fun w => z2 (g1.mpr w))]
  refine ⟨fun a ha hat => ?_, fun ha => ?_⟩
  · have eP : P = nI a := by
      show (if g = 0 then X.1 8 t else (if g = 1 then X.1 9 t else -1)) = _
      rcases ha with ⟨z, w⟩ | ⟨z, w⟩
      · rw [if_pos z, w]
      · rw [if_neg (by omega), if_pos z, w]
    have np : ¬ nI a < 0 := nI_pos (by omega)
    rw [e73, eP, f_Mo_writeAll_160, if_neg np]
    rw [eP] at k73
    exact ⟨rfl, fun w => k73 ⟨fun z => absurd z np, fun _ => ⟨kW _ _, w⟩⟩⟩
  · have eP : P = -1 := by
      show (if g = 0 then X.1 8 t else (if g = 1 then X.1 9 t else -1)) = _
      rcases ha with ⟨z, w⟩ | z
      · rw [if_neg (by omega), if_pos z, w]
      · rw [if_neg (by omega), if_neg (by omega)]
    have lp : (-1 : Int32) < 0 := by decide
    have e34 : (f_Mo_write 41 (sA X 23 (nI b) (nI (g + 1)))).1 0 34 - 1 = nI b := by
      rw [(write_at 41 _).2.1 34 (by omega) (by omega)]
      show X.1 0 34 - 1 = _
      rw [h34, nI_pred]
    rw [e73, eP, f_Mo_writeAll_160, if_pos lp, f_Mo_writeAll_183, e34]
    rw [eP] at k73
    refine ⟨rfl, fun w => k73 ⟨fun _ => ⟨kW _ _, ?_⟩, fun z => absurd lp z⟩⟩
    show k_Mo_writeAll_12 fuel (-1) (sF (f_Mo_write 41 (sA X 23 (nI b) (nI (g + 1)))) 0 34 ((f_Mo_write 41 (sA X 23 (nI b) (nI (g + 1)))).1 0 34 - 1))
    rw [e34]; exact w
end WRT
