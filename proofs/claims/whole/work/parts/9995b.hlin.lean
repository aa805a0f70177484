-- the first states, and linear's call in the law
theorem IV_0 : IV 0 0 0 0 0 σ0 τ0 := by
  have e0 : nI 0 = 0 := nI_0
  refine ⟨by omega, ⟨e0.symm, e0.symm, fun t ht => absurd ht (Nat.not_lt_zero t)⟩, fun t ht => absurd ht (Nat.not_lt_zero t), ⟨fun t ht => absurd ht (Nat.not_lt_zero t), 0, by omega, e0.symm, fun t ht => absurd ht (Nat.not_lt_zero t)⟩, e0.symm, rfl, fun t ht => absurd ht (Nat.not_lt_zero t), ?_⟩
  refine ⟨⟨2, 0, by omega, by omega, by omega, rfl, rfl, e0.symm, e0.symm, fun j hj => absurd hj (Nat.not_lt_zero j), fun j hj => ⟨rfl, 1, by omega, ?_⟩⟩, ⟨0, by omega, e0.symm, e0.symm, fun j hj => absurd hj (Nat.not_lt_zero j)⟩, ⟨by omega, by omega, rfl, e0.symm, e0.symm, e0.symm, rfl, ⟨rfl, fun j _ => ⟨rfl, rfl⟩⟩, fun k h1 h2 => by omega, fun k h1 h2 => by omega⟩, ⟨by omega, e0.symm, e0.symm, fun i hi => absurd hi (Nat.not_lt_zero i)⟩, ⟨by omega, e0.symm, e0.symm⟩⟩
  have hs : j = 0 ∨ j = 1 ∨ j = 2 := by omega
  rcases hs with rfl | rfl | rfl
  · rfl
  · rfl
  · rfl
def B_0 : BS := (fun _ => none, s0 101, s0 101, [])
theorem IB_0 (m : Nat) : IB m σ0 B_0 τ0 := ⟨0, 0, 0, 0, 0, IV_0, fun t a e => (by have e : (none : Option Nat) = some a := e; cases e), fun j hj => (by have hj : false = true := hj; cases hj), rfl, rfl⟩
/-- the balance's cells, where the law made them -/
def PXB (ty u : Nat → Nat) (B : BS) : va_W := PXf ty (fun _ => u 24) (u 25) B.1 ((fun k => u (26 + k), s0 0) :: (fun k => u (30 + k), B.2.1) :: (fun k => u (34 + k), B.2.2.1) :: B.2.2.2)
theorem PXB_0 (ty u : Nat → Nat) : PXB ty u B_0 = px0 ty u := by
  have e : ∀ n, n ≤ 101 → ((s0 n).1 99 0).toNatClampNeg = n := fun n hn => nI_clamp (by omega)
  show @Eq va_W ((u 24, _) :: (u 26, _) :: (u 27, .inl (ty 0, ((s0 0).1 99 0).toNatClampNeg, _)) :: (u 28, .inl (ty 1, ((s0 0).1 99 0).toNatClampNeg, _)) :: (u 29, .inl (ty 1, ((s0 0).1 99 0).toNatClampNeg, _)) :: (u 30, _) :: (u 31, .inl (ty 0, ((s0 101).1 99 0).toNatClampNeg, _)) :: (u 32, .inl (ty 1, ((s0 101).1 99 0).toNatClampNeg, _)) :: (u 33, .inl (ty 1, ((s0 101).1 99 0).toNatClampNeg, _)) :: (u 34, _) :: (u 35, .inl (ty 0, ((s0 101).1 99 0).toNatClampNeg, _)) :: (u 36, .inl (ty 1, ((s0 101).1 99 0).toNatClampNeg, _)) :: (u 37, .inl (ty 1, ((s0 101).1 99 0).toNatClampNeg, _)) :: []) _
  rw [e 0 (by omega), e 101 (by omega)]; rfl
def cstB (B : BS) : Nat := 4 * (100 - cn (dom B.1) 100)
def sstB (B : BS) : Nat := 308 * (100 - cn (dom B.1) 100)
theorem ag_gB {v : XR} {w : Int32 × St} {o : Nat → Int64} (h : Ag v w cd_linear) : f_Mo_thrown w.2 = (gB v o).1 ∧ ((gB v o).1 = 0 → (gB v o).2.2 0 = w.1.toInt64) ∧ (gB v o).2.1 = v.2 := by
  cases hz : v.1 with
  | inl x =>
    have h1 := h.1 x hz
    simp only [gB, hz]
    exact ⟨h1.1, fun _ => by rw [h1.2]; rfl, trivial⟩
  | inr E =>
    have h1 := h.2 E hz
    simp only [gB, hz]
    exact ⟨h1.1, fun h2 => absurd h2 h1.2, trivial⟩
theorem HL_ok {p : Program} {l : Launch} {e : Env} {s : State} {m : MethodId} {args : Array Value} {below : List Frame} {meth : Method} {c : Code} {Q : State → Prop} {b L ho : Nat} {xs : Nat → Int32} {D : va_G} {ty sa u g : Nat → Nat} {q : Nat} (hlt : l.stackTraces = false) (C : lwC p s m args c b L xs D ty sa) (hL : L < 2 ^ 31) (hKA : va_K D classes (TA ty (u 25)) s) : H_linear (PXB ty u) cstB sstB IB p l e s m args below meth c Q b L ho D ty (aC q u) g := by
  intro n i σ B τ o H locs ls cells slots hi hI hcl hsl hl hP hD hS K
  obtain ⟨nn, q', c', k', f', h, hb⟩ := hI
  by_cases hR : RCH nn f' σ (xs (i + 1)) (xs (i + 2)) (xs (i + 3)) (xs (i + 4)) (xs (i + 5)) (xs (i + 6))
  · obtain ⟨c1, c2, c3, v, l1, l2, l3, k2, R, hfin, hkE, hdm⟩ := op_linR h hR
    obtain ⟨hf, A1, A2, A3, A23, T1, T2, T3⟩ := hR
    obtain ⟨hBI, hdom, he, ht⟩ := hb
    have hn := h.1
    obtain ⟨e1, -⟩ := (op_shut h).1 hf
    have hac : ∀ x, k_Te_kindOf x σ ∧ k_Te_firstOf x σ ∧ k_Te_secondOf x σ ∧ k_Te_topOf x σ ∧ k_Te_bottomOf x σ := fun x => by
      have ka := k_acc h.2.1.1 (by omega) x
      exact ⟨ka, ka, ka, ka, ka⟩
    have hh1 : ¬ f_Te_has (xs (i + 1)) σ = 0 := by
      obtain ⟨t, ht, e⟩ := A1
      rw [e]; exact ((op_has h (nI t)).2 (nI_arg ht hn)).1
    obtain ⟨w1, w2⟩ := wp_ok ht
    let dm : Nat → Bool := dmL σ (xs (i + 3)) (dmL σ (xs (i + 2)) (dmL σ (xs (i + 1)) (dom B.1)))
    have m1 : cn (dom B.1) 100 ≤ cn dm 100 := Nat.le_trans (dm_mono σ (xs (i + 1)) (dom B.1)) (Nat.le_trans (dm_mono σ (xs (i + 2)) _) (dm_mono σ (xs (i + 3)) _))
    have m2 : cn dm 100 ≤ 100 := cn_le dm 100
    have hcl : cells + (n + 1) + 4 * (100 - cn (dom B.1) 100) ≤ room_1.cells := hcl
    have hsl : slots + 6 * (n + 1) + 308 * (100 - cn (dom B.1) 100) ≤ room_1.slots := hsl
    obtain ⟨g1, g2, g3⟩ := ag_gB (o := o) R.1
    refine la_13B (px := PXB ty u B) (gl := gB v o) (KK := cn dm 100 - cn (dom B.1) 100) (cA := u 25) hlt C hi hL (by omega) (by omega) hl hP hD hS hKA (fun sz => c_La_linearB l hlt D ty (aC q u) (u 25) (Wm ty g τ []) sa σ (GG nn τ) (Sp τ) hac (cl_ok h.2.1 h.2.2.2.1 hn) B.1 (fun k => u (26 + k), s0 0) (fun k => u (30 + k), B.2.1) (fun k => u (34 + k), B.2.2.1) B.2.2.2 sz ho o (xs (i + 1)) (xs (i + 2)) (xs (i + 3)) (xs (i + 4)) (xs (i + 5)) (xs (i + 6)) (cn dm 100 - cn (dom B.1) 100) (fun e => e.1 99 0 = nI 101) (PT c0F) (PT c1) (PT c2) (PT c3) v rfl rfl (BI3 hBI) he ⟨0, w1, w2⟩ l1 l2 l3 rfl ⟨k_shut σ, e1⟩ ⟨k_has _ σ, hh1⟩ ⟨(ton h _).2.2.1, (ton h _).1 A2⟩ ⟨(ton h _).2.2.1, (ton h _).1 A3⟩ A23 ⟨(fm_ok h _ (Or.inr A1)).1, T1⟩ ⟨(fm_ok h _ A2).1, T2⟩ ⟨(fm_ok h _ A3).1, T3⟩ hfin hkE R.2.1) k2 g1 g2 (fun px1 hGd H locs ls hl hP hD hS => ?_)
    obtain ⟨w, rfl, -, hB', hd', hPe', m', hQ', -⟩ := hGd
    rw [g3] at hP hD
    have hd2 : cn (dom w.1) 100 = cn dm 100 := by rw [hd']
    refine K v.2 w _ _ H locs ls _ _ ?_ ?_ ?_ hl hP hD hS
    · obtain ⟨-, -, ⟨n', q2, c2', k2', f2, hle, h'⟩, hr⟩ := R
      refine ⟨n', q2, c2', k2', f2, h', ?_⟩
      have hb' : IBr nn w τ := ⟨BI3 hB', fun j hj => by
        rw [hd'] at hj
        rcases hdm _ j hj with z | ⟨d, z⟩
        · exact hdom j z
        · exact z.1, hPe', hQ'.1.2.2.2⟩
      exact hb'.cong h hle hr
    · show cells + (4 * (cn dm 100 - cn (dom B.1) 100) + 1) + n + 4 * (100 - cn (dom w.1) 100) ≤ room_1.cells
      rw [hd2]; omega
    · show slots + (308 * (cn dm 100 - cn (dom B.1) 100) + 6) + 6 * n + 308 * (100 - cn (dom w.1) 100) ≤ room_1.slots
      rw [hd2]; omega
  · obtain ⟨k1, k2, R⟩ := op_linN h hR
    obtain ⟨g1, g2, g3⟩ := ag_linear (o := o) R.1
    refine la_13 (px := PXB ty u B) hlt C hi hL (by omega) (by omega) hl hP hD hS k1 R.2.1 k2 g1 g2 (fun H locs ls hl hP hD hS => ?_)
    rw [g3] at hP hD
    exact K _ B _ _ H locs ls _ _ (IB.res h hb R) (by omega) (by omega) hl hP hD hS
