-- text
def keep (b : Nat) (X X' : St) : Prop := ∀ j, j < b → X'.1 23 j = X.1 23 j ∧ X'.1 24 j = X.1 24 j
theorem keep.rf (b : Nat) (X : St) : keep b X X := fun _ _ => ⟨rfl, rfl⟩
theorem keep.tr {b d : Nat} {X Y Z : St} (h1 : keep b X Y) (h2 : keep d Y Z) (hd : b ≤ d) : keep b X Z := fun j hj => ⟨(h2 j (by omega)).1.trans (h1 j hj).1, (h2 j (by omega)).2.trans (h1 j hj).2⟩
theorem wr_keep (L : List Int32) (b : Nat) (X : St) : keep b X (wr L X) := fun j _ => by
  rw [(wr_at L X).1 23 (by omega), (wr_at L X).1 24 (by omega)]; exact ⟨rfl, rfl⟩
section WALL
variable {n : Nat} {σ τ : St}
def rows (τ X : St) : Prop := ∀ c, 5 ≤ c → c ≤ 13 → X.1 c = τ.1 c
theorem rows.fm {τ X Y : St} (h : rows τ X) (h2 : fmT X Y) : rows τ Y := fun c q1 q2 => (h2.1 c (by omega) (by omega) (by omega)).trans (h c q1 q2)
theorem rows.tmW {τ X : St} {t : Nat} (h : rows τ X) (ht : t < 400) (hW : tmW τ t) : tmW X t := hW.cong (n := 400) ht (by omega) (fun c q1 q2 j _ => by rw [h c q1 q2])
/-- what is left behind a term is written -/
theorem fin12 {b F : Nat} {X : St} (h34 : X.1 0 34 = nI b) (hb : b ≤ 39) (hF : 1 ≤ F) : f_Mo_writeAll_12 (F + 1) (-1) X = f_Mo_writeAll_73 (f_Mo_writeAll_12 F) (-1) X ∧ (k_Mo_writeAll_73 (k_Mo_writeAll_12 F) (-1) X → k_Mo_writeAll_12 (F + 1) (-1) X) := by
  have n0 : ¬ (0 : Int32) ≤ -1 := by decide
  have p0 : (-1 : Int32) < 0 := by decide
  have z34 : (X.1 0 34 ≤ 0) ↔ b = 0 := by
    rw [h34, Int32.le_iff_toInt_le, i_nI (by omega), Int32.toInt_zero]; omega
  have e : f_Mo_writeAll_12 (F + 1) (-1) X = if X.1 0 34 ≤ 0 then X else f_Mo_writeAll_73 (f_Mo_writeAll_12 F) (-1) X := by
    rw [f_Mo_writeAll_12, if_neg n0, f_Mo_writeAll_23, if_pos p0]
  refine ⟨?_, fun w => ⟨fun z => absurd z n0, fun _ => ⟨fun _ => trivial, fun _ => ⟨fun _ => w, fun z => absurd p0 z⟩⟩⟩⟩
  rw [e]
  by_cases w : b = 0
  · obtain ⟨F, rfl⟩ : ∃ k, F = k + 1 := ⟨F - 1, by omega⟩
    rw [if_pos (z34.mpr w), f_Mo_writeAll_73, if_pos (by rw [h34, w, nI_0]), f_Mo_writeAll_12, if_neg n0, if_pos (z34.mpr w)]
  · rw [if_neg (fun z => w (z34.mp z))]
theorem wall (hT : TM n σ τ) (hK : KD n τ) (hn : n ≤ 100) : ∀ (d t b fuel : Nat) (X : St), t < n → (τ.1 7 t).toInt ≤ d → X.1 0 34 = nI b → b + d ≤ 39 → rows τ X → 2 ^ (d + 1) ≤ fuel →
    ∃ fuel' X', fuel + 2 ≤ fuel' + 2 ^ (d + 1) ∧ f_Mo_writeAll_12 fuel (nI t) X = f_Mo_writeAll_73 (f_Mo_writeAll_12 fuel') (-1) X' ∧ (k_Mo_writeAll_73 (k_Mo_writeAll_12 fuel') (-1) X' → k_Mo_writeAll_12 fuel (nI t) X) ∧ fmT X X' ∧ X'.1 0 34 = nI b ∧ keep b X X' ∧ WE (txt τ d t) X X' := by
  have hD : ∀ j, j < n → 1 ≤ (τ.1 7 j).toInt ∧ (τ.1 7 j).toInt ≤ 1000 := fun j hj => by
    have := (hT.2.2 j hj).2.2.2.2.2.2.2.2.2.2.2
    omega
  intro d
  induction d with
  | zero =>
    intro t b fuel X ht hd
    have := hD t ht
    omega
  | succ d ih =>
    intro t b fuel X ht hd h34 hbd hX hf
    have p2 : 2 ^ (d + 1 + 1) = 2 * 2 ^ (d + 1) := by rw [Nat.pow_succ, Nat.mul_comm]
    have p1 : 2 ^ (d + 1) = 2 * 2 ^ d := by rw [Nat.pow_succ, Nat.mul_comm]
    have p0 : 1 ≤ 2 ^ d := Nat.one_le_pow _ _ (by omega)
    obtain ⟨fuel, rfl⟩ : ∃ k, fuel = k + 1 := ⟨fuel - 1, by omega⟩
    have hW := (hT.2.2 t ht).2
    have hKt := hK.1 t ht
    have hWX : tmW X t := hX.tmW (by omega) hW
    have c5 : X.1 5 t = τ.1 5 t := by rw [hX 5 (by omega) (by omega)]
    have c8 : X.1 8 t = τ.1 8 t := by rw [hX 8 (by omega) (by omega)]
    have c10 : X.1 10 t = τ.1 10 t := by rw [hX 10 (by omega) (by omega)]
    have hin : vp_in (nI t) 400 := by rw [in_iff, i_nI (by omega)]; omega
    have hinb : vp_in (nI b) 40 := by rw [in_iff, i_nI (by omega)]; omega
    have hcb : (nI b).toNatClampNeg = b := nI_clamp (by omega)
    obtain ⟨kH, eH⟩ := whead (X := X) (t := t) hWX (fun z w => by
      rw [c5] at z; rw [c8] at w
      exact (hKt.2.2.2.2.2.2.2.2.2 z).1 w) (by omega)
    have ehW : hdW X t = hdW τ t := by
      unfold hdW
      rw [c5, c8, c10, hX 11 (by omega) (by omega), hX 12 (by omega) (by omega)]
    rw [ehW] at eH
    have nt : ¬ nI t < 0 := nI_pos (by omega)
    have pt : (0 : Int32) ≤ nI t := by rw [Int32.le_iff_toInt_le, Int32.toInt_zero, i_nI (by omega)]; omega
    have hct : (nI t).toNatClampNeg = t := nI_clamp (by omega)
    have e8 : (wr (hdW τ t) X).1 8 t = τ.1 8 t := by rw [(wr_at _ X).1 8 (by omega), c8]
    have e34 : (wr (hdW τ t) X).1 0 34 = nI b := ((wr_at _ X).2.1 34 (by omega) (by omega)).trans h34
    have neg8 : τ.1 8 t < 0 ↔ τ.1 8 t = -1 := i_neg (n := t) (by omega) hW.1
    have e12 : f_Mo_writeAll_12 (fuel + 1) (nI t) X = f_Mo_writeAll_32 (f_Mo_writeAll_12 fuel) (nI t) (wr (hdW τ t) X) := by
      rw [f_Mo_writeAll_12, if_pos pt, f_Mo_writeAll_23, if_neg nt, eH]
    have k12 : k_Mo_writeAll_32 (k_Mo_writeAll_12 fuel) (nI t) (wr (hdW τ t) X) → k_Mo_writeAll_12 (fuel + 1) (nI t) X := fun w => ⟨fun _ => ⟨fun z => absurd z nt, fun _ => ⟨kH, by rw [eH]; exact w⟩⟩, fun z => absurd pt z⟩
    by_cases h8 : τ.1 8 t = -1
    · refine ⟨fuel, wr (hdW τ t) X, by omega, ?_, fun w => k12 ⟨hin, fun _ => w, fun z => absurd (by rw [hct, e8]; exact neg8.mpr h8) z⟩, wr_fm _ X, e34, wr_keep _ b X, ?_⟩
      · rw [e12, f_Mo_writeAll_32, hct, e8, if_pos (neg8.mpr h8)]; rfl
      · have : txt τ (d + 1) t = hdW τ t := by
          show (if τ.1 5 t = 2 then _ else (if τ.1 8 t = -1 then _ else _)) = (if τ.1 5 t = 2 then _ else (if τ.1 8 t = -1 then _ else _))
          rw [if_pos h8, if_pos h8]
        rw [this]
        exact WE.wr _ X
    · have n2 : ¬ τ.1 5 t = 2 := fun z => h8 (hW.2.2.2.2.2.2.1 z).1
      have et : txt τ (d + 1) t = hdT (τ.1 5 t) (τ.1 10 t) ++ (txt τ d (τ.1 8 t).toNatClampNeg ++ ((if τ.1 9 t = -1 then [] else 32 :: txt τ d (τ.1 9 t).toNatClampNeg) ++ [41])) := by
        show (if τ.1 5 t = 2 then _ else (if τ.1 8 t = -1 then _ else _)) = _
        rw [if_neg n2, if_neg h8]
      have eh : hdW τ t = hd2 (τ.1 5 t) (τ.1 10 t) := by
        unfold hdW
        rw [if_neg n2, if_neg h8]
      obtain ⟨a, a1, a2⟩ := hW.1.resolve_left h8
      have hca : (nI a).toNatClampNeg = a := nI_clamp (by omega)
      have da := dep_part hW (by omega) (fun j hj => hD j (by omega)) a1 (Or.inl a2)
      rw [a2, hca] at et
      -- the frame pushed
      generalize hXh : wr (hdW τ t) X = Xh at e12 k12 e8 e34
      have fh : fmT X Xh := by rw [← hXh]; exact wr_fm _ X
      have kh : keep b X Xh := by rw [← hXh]; exact wr_keep _ b X
      have wh : WE (hdW τ t) X Xh := by rw [← hXh]; exact WE.wr _ X
      let X1 : St := sF (sA (sA Xh 24 (nI b) (nI t)) 23 (nI b) 0) 0 34 (nI (b + 1))
      have e32 : f_Mo_writeAll_32 (f_Mo_writeAll_12 fuel) (nI t) Xh = f_Mo_writeAll_73 (f_Mo_writeAll_12 fuel) (-1) X1 := by
        rw [f_Mo_writeAll_32, hct, e8, if_neg (fun z => h8 (neg8.mp z)), f_Mo_writeAll_51, f_Mo_writeAll_61]
        show f_Mo_writeAll_73 (f_Mo_writeAll_12 fuel) (-1) (sF (sA (sA Xh 24 (Xh.1 0 34) (nI t)) 23 (Xh.1 0 34) 0) 0 34 (Xh.1 0 34 + 1)) = _
        rw [e34, ← nI_succ]
      have k32 : k_Mo_writeAll_73 (k_Mo_writeAll_12 fuel) (-1) X1 → k_Mo_writeAll_32 (k_Mo_writeAll_12 fuel) (nI t) Xh := fun w => by
        refine ⟨hin, fun z => absurd (by rw [hct, e8] at z; exact neg8.mp z) h8, fun _ => ?_⟩
        show vp_in (Xh.1 0 34) 40 ∧ vp_in (Xh.1 0 34) 40 ∧ k_Mo_writeAll_73 (k_Mo_writeAll_12 fuel) (-1) (sF (sA (sA Xh 24 (Xh.1 0 34) (nI t)) 23 (Xh.1 0 34) 0) 0 34 (Xh.1 0 34 + 1))
        rw [e34, ← nI_succ]
        exact ⟨hinb, hinb, w⟩
      have f1 : fmT Xh X1 := by
        refine ⟨fun c q1 q2 q3 => ?_, fun j q1 _ _ => ?_, rfl⟩
        · show pu (pu (pu Xh.1 24 _) 23 _) 0 _ c = _
          rw [pu_at, if_neg q1, pu_at, if_neg q2, pu_at, if_neg q3]
        · show pu (Xh.1 0) 34 _ j = _
          rw [pu_at, if_neg q1]
      have a24 : ∀ j, X1.1 24 j = if j = b then nI t else Xh.1 24 j := fun j => by
        show (sA (sA Xh 24 (nI b) (nI t)) 23 (nI b) 0).1 24 j = _
        rw [sA1, if_neg (by omega), sA1, if_pos rfl, hcb]
      have a23 : ∀ j, X1.1 23 j = if j = b then 0 else Xh.1 23 j := fun j => by
        show (sA (sA Xh 24 (nI b) (nI t)) 23 (nI b) 0).1 23 j = _
        rw [sA1, if_pos rfl, hcb]; rfl
      have kp1 : keep b Xh X1 := fun j hj => by
        rw [a23, a24, if_neg (by omega), if_neg (by omega)]; exact ⟨rfl, rfl⟩
      have w1 : WE [] Xh X1 := WE.same rfl rfl rfl
      have hX1 : rows τ X1 := (hX.fm fh).fm f1
      -- what a frame's next step leaves
      have act : ∀ (Y : St) (v w : Int32), (∀ j, j < b → (f_Mo_write w (sA Y 23 (nI b) v)).1 23 j = Y.1 23 j ∧ (f_Mo_write w (sA Y 23 (nI b) v)).1 24 j = Y.1 24 j) ∧ (f_Mo_write w (sA Y 23 (nI b) v)).1 23 b = v ∧ (f_Mo_write w (sA Y 23 (nI b) v)).1 24 b = Y.1 24 b ∧ fmT Y (f_Mo_write w (sA Y 23 (nI b) v)) ∧ WE [w] Y (f_Mo_write w (sA Y 23 (nI b) v)) ∧ (f_Mo_write w (sA Y 23 (nI b) v)).1 0 34 = Y.1 0 34 := fun Y v w => by
        obtain ⟨u1, u2, u3, u4, u5⟩ := write_at w (sA Y 23 (nI b) v)
        have v23 : ∀ j, (sA Y 23 (nI b) v).1 23 j = if j = b then v else Y.1 23 j := fun j => by
          rw [sA1, if_pos rfl, hcb]
        have v24 : (sA Y 23 (nI b) v).1 24 = Y.1 24 := rfl
        refine ⟨fun j hj => ?_, ?_, ?_, ⟨fun c q1 q2 q3 => ?_, fun j q1 q2 q3 => ?_, u3⟩, ?_, ?_⟩
        · rw [u1 23 (by omega), u1 24 (by omega), v23, if_neg (by omega), v24]; exact ⟨rfl, rfl⟩
        · rw [u1 23 (by omega), v23, if_pos rfl]
        · rw [u1 24 (by omega), v24]
        · rw [u1 c q1]
          show pu Y.1 23 _ c = _
          rw [pu_at, if_neg q2]
        · rw [u2 j q2 q3]; rfl
        · exact WE.app (L := []) (Y := sA Y 23 (nI b) v) (WE.same rfl rfl rfl) (WE.wr [w] _)
        · rw [u2 34 (by omega) (by omega)]; rfl
      -- first part
      have hX1c : ∀ c, 5 ≤ c → c ≤ 13 → X1.1 c t = τ.1 c t := fun c q1 q2 => by rw [hX1 c q1 q2]
      obtain ⟨g0, g0k⟩ := (wact (X := X1) (t := t) (b := b) (g := 0) (fuel := fuel) (by omega) rfl (by rw [a24, if_pos rfl]) (by rw [a23, if_pos rfl, nI_0]) (by omega) (by omega) (hX1.tmW (by omega) hW)).1 a (Or.inl ⟨rfl, by rw [hX1c 8 (by omega) (by omega), a2]⟩) a1
      obtain ⟨s1, s2, s3, s4, s5, s6⟩ := act X1 (nI (0 + 1)) 32
      generalize hY1 : f_Mo_write 32 (sA X1 23 (nI b) (nI (0 + 1))) = Y1 at g0 g0k s1 s2 s3 s4 s5 s6
      have hY1r : rows τ Y1 := hX1.fm s4
      obtain ⟨F1, Z1, i1, i2, i3, i4, i5, i6, i7⟩ := ih a (b + 1) fuel Y1 (by omega) (by omega) (s6.trans rfl) (by omega) hY1r (by omega)
      have hZ1r : rows τ Z1 := hY1r.fm i4
      have hZ1c : ∀ c, 5 ≤ c → c ≤ 13 → Z1.1 c t = τ.1 c t := fun c q1 q2 => by rw [hZ1r c q1 q2]
      have z23 : Z1.1 23 b = nI 1 := (i6 b (by omega)).1.trans s2
      have z24 : Z1.1 24 b = nI t := by rw [(i6 b (by omega)).2, s3, a24, if_pos rfl]
      have kZ1 : keep b X Z1 := ((kh.tr kp1 (Nat.le_refl b)).tr (Z := Y1) (d := b) s1 (Nat.le_refl b)).tr i6 (by omega)
      have fZ1 : fmT X Z1 := ((fh.tr f1).tr s4).tr i4
      have wZ1 : WE (hdT (τ.1 5 t) (τ.1 10 t) ++ txt τ d a) X Z1 := by
        have := WE.app (WE.app (WE.app wh w1) s5) i7
        rw [eh, List.append_nil, ← hdT_eq] at this
        exact this
      obtain ⟨wA, wB⟩ := wact (X := Z1) (t := t) (b := b) (g := 1) (fuel := F1) (by omega) i5 z24 z23 (by omega) (by omega) (hZ1r.tmW (by omega) hW)
      have kk1 : k_Mo_writeAll_73 (k_Mo_writeAll_12 F1) (-1) Z1 → k_Mo_writeAll_12 (fuel + 1) (nI t) X := fun w => k12 (k32 (g0k (i3 w)))
      have ee1 : f_Mo_writeAll_12 (fuel + 1) (nI t) X = f_Mo_writeAll_73 (f_Mo_writeAll_12 F1) (-1) Z1 := by rw [e12, e32, g0, i2]
      -- closing
      have clo : ∀ (Z : St) (F g : Nat) (M : List Int32), 2 ≤ F → fuel + 1 + 3 ≤ F + 2 ^ (d + 1 + 1) → f_Mo_writeAll_12 (fuel + 1) (nI t) X = f_Mo_writeAll_12 F (-1) (sF (f_Mo_write 41 (sA Z 23 (nI b) (nI (g + 1)))) 0 34 (nI b)) → (k_Mo_writeAll_12 F (-1) (sF (f_Mo_write 41 (sA Z 23 (nI b) (nI (g + 1)))) 0 34 (nI b)) → k_Mo_writeAll_12 (fuel + 1) (nI t) X) → fmT X Z → keep b X Z → WE M X Z → txt τ (d + 1) t = M ++ [41] → ∃ fuel' X', fuel + 1 + 2 ≤ fuel' + 2 ^ (d + 1 + 1) ∧ f_Mo_writeAll_12 (fuel + 1) (nI t) X = f_Mo_writeAll_73 (f_Mo_writeAll_12 fuel') (-1) X' ∧ (k_Mo_writeAll_73 (k_Mo_writeAll_12 fuel') (-1) X' → k_Mo_writeAll_12 (fuel + 1) (nI t) X) ∧ fmT X X' ∧ X'.1 0 34 = nI b ∧ keep b X X' ∧ WE (txt τ (d + 1) t) X X' := fun Z F g M hF hF2 he hk hf hkp hw hm => by
        obtain ⟨F, rfl⟩ : ∃ k, F = k + 1 := ⟨F - 1, by omega⟩
        obtain ⟨c1, c2, c3, c4, c5, c6⟩ := act Z (nI (g + 1)) 41
        generalize hV : f_Mo_write 41 (sA Z 23 (nI b) (nI (g + 1))) = V at he hk c1 c2 c3 c4 c5 c6
        obtain ⟨x1, x2⟩ := fin12 (X := sF V 0 34 (nI b)) (b := b) (F := F) rfl (by omega) (by omega)
        refine ⟨F, sF V 0 34 (nI b), by omega, he.trans x1, fun w => hk (x2 w), (hf.tr c4).tr ⟨fun c q1 _ _ => ?_, fun j q1 _ _ => ?_, rfl⟩, rfl, (hkp.tr (Z := V) (d := b) c1 (Nat.le_refl b)).tr (d := b) (fun j _ => ⟨rfl, rfl⟩) (Nat.le_refl b), ?_⟩
        · show pu V.1 0 _ c = _
          rw [pu_at, if_neg q1]
        · show pu (V.1 0) 34 _ j = _
          rw [pu_at, if_neg q1]
        · rw [hm]
          exact (WE.app hw c5).cell rfl rfl rfl
      by_cases h9 : τ.1 9 t = -1
      · rw [if_pos h9] at et
        obtain ⟨x1, x2⟩ := wB (Or.inl ⟨rfl, by rw [hZ1c 9 (by omega) (by omega)]; exact h9⟩)
        exact clo Z1 F1 1 _ (by omega) (by omega) (ee1.trans x1) (fun w => kk1 (x2 w)) fZ1 kZ1 wZ1 (by rw [et, List.append_assoc]; rfl)
      · obtain ⟨e, b1, b2⟩ := hW.2.1.resolve_left h9
        have hce : (nI e).toNatClampNeg = e := nI_clamp (by omega)
        have db := dep_part hW (by omega) (fun j hj => hD j (by omega)) b1 (Or.inr b2)
        rw [if_neg h9, b2, hce] at et
        obtain ⟨x1, x2⟩ := wA e (Or.inr ⟨rfl, by rw [hZ1c 9 (by omega) (by omega)]; exact b2⟩) b1
        obtain ⟨r1, r2, r3, r4, r5, r6⟩ := act Z1 (nI (1 + 1)) 32
        generalize hY2 : f_Mo_write 32 (sA Z1 23 (nI b) (nI (1 + 1))) = Y2 at x1 x2 r1 r2 r3 r4 r5 r6
        have hY2r : rows τ Y2 := hZ1r.fm r4
        obtain ⟨F2, Z2, j1, j2, j3, j4, j5, j6, j7⟩ := ih e (b + 1) F1 Y2 (by omega) (by omega) (r6.trans i5) (by omega) hY2r (by omega)
        have hZ2r : rows τ Z2 := hY2r.fm j4
        have y23 : Z2.1 23 b = nI 2 := (j6 b (by omega)).1.trans r2
        have y24 : Z2.1 24 b = nI t := by rw [(j6 b (by omega)).2, r3, z24]
        obtain ⟨-, vB⟩ := wact (X := Z2) (t := t) (b := b) (g := 2) (fuel := F2) (by omega) j5 y24 y23 (by omega) (by omega) (hZ2r.tmW (by omega) hW)
        obtain ⟨v1, v2⟩ := vB (Or.inr rfl)
        refine clo Z2 F2 2 _ (by omega) (by omega) (ee1.trans (x1.trans (j2.trans v1))) (fun w => kk1 (x2 (j3 (v2 w)))) ((fZ1.tr r4).tr j4) ((kZ1.tr (Z := Y2) (d := b) r1 (Nat.le_refl b)).tr j6 (by omega)) (WE.app (WE.app wZ1 r5) j7) ?_
        rw [et]
        simp only [List.append_assoc, List.cons_append, List.nil_append]
theorem IV.congT {q c k f : Nat} {X : St} (h : IV n q c k f σ τ) (e1 : ∀ x, ¬ x = 0 → ¬ x = 23 → ¬ x = 24 → X.1 x = τ.1 x) (e2 : ∀ j, ¬ j = 0 → ¬ j = 34 → ¬ j = 46 → ¬ j = 47 → ¬ j = 48 → X.1 0 j = τ.1 0 j) : IV n q c k f σ X := by
  obtain ⟨h1, hT, hL, hK, h2, h3, h4, hR⟩ := h
  have rw5 : ∀ c, 5 ≤ c → c ≤ 13 → X.1 c = τ.1 c := fun c q1 q2 => e1 c (by omega) (by omega) (by omega)
  refine ⟨h1, hT.cong (fun _ _ _ => rfl) rfl (e2 8 (by omega) (by omega) (by omega) (by omega) (by omega)) rw5, hL.cong rfl rw5, hK.cong rw5 (fun c q1 q2 => e1 c (by omega) (by omega) (by omega)) (e2 3 (by omega) (by omega) (by omega) (by omega) (by omega)), h2, h3, fun t ht => by rw [rw5 7 (by omega) (by omega)]; exact h4 t ht, ?_⟩
  refine hR.cong3 (fun _ _ => rfl) (fun x hx => e1 x (by omega) (by omega) (by omega)) (fun j hj => e2 j (by omega) (by omega) (by omega) (by omega) (by omega)) (fun c q1 q2 j _ => by rw [rw5 c q1 q2]) ?_
  exact hR.2.1.cong rfl rfl (e2 30 (by omega) (by omega) (by omega) (by omega) (by omega)) (e1 21 (by omega) (by omega) (by omega))
theorem op_text {q c k f : Nat} (a b : Int32) (h : IV n q c k f σ τ) : k_CL_text a b σ ∧ k_Mo_text a b τ ∧ f_CL_text a b σ = (f_Mo_text a b τ).1 ∧ IV n q c k f σ (f_Mo_text a b τ).2 ∧ (∀ c, 5 ≤ c → c ≤ 13 → (f_Mo_text a b τ).2.1 c = τ.1 c) := by
  have hn := h.1
  have hT := h.2.1
  have hL := h.2.2.1
  have hK := h.2.2.2.1
  have a0 : (a < 0) ↔ a.toInt < 0 := by rw [Int32.lt_iff_toInt_lt, Int32.toInt_zero]
  have a8 : (τ.1 0 8 ≤ a) ↔ (n : Int) ≤ a.toInt := by rw [hT.2.1, Int32.le_iff_toInt_le, i_nI (by omega)]
  have b0 : (b < 0) ↔ b.toInt < 0 := by rw [Int32.lt_iff_toInt_lt, Int32.toInt_zero]
  have b1 : ((-1 : Int32) ≤ b) ↔ -1 ≤ b.toInt := by rw [Int32.le_iff_toInt_le]; rfl
  have b2 : ((0 : Int32) ≤ b) ↔ 0 ≤ b.toInt := by rw [Int32.le_iff_toInt_le, Int32.toInt_zero]
  have eC : f_CL_text a b σ = if f_Te_has a σ = 0 then -2 else (if b = -1 then f_Te_lengthOf a σ else (if b < 0 then -2 else (if b < f_Te_lengthOf a σ then f_Wr_letter a b σ else -2))) := rfl
  let τ1 : St := sF (sF τ 0 0 0) 0 47 b
  have eM : f_Mo_text a b τ = if a < 0 then (-2, sF τ 0 0 0) else (if τ.1 0 8 ≤ a then (-2, sF τ 0 0 0) else (if -1 ≤ b then f_Mo_text_35 b (f_Mo_writeAll a τ1) else (-2, sF τ 0 0 0))) := rfl
  have iv0 : IV n q c k f σ (sF τ 0 0 0) ∧ ∀ c, 5 ≤ c → c ≤ 13 → (sF τ 0 0 0).1 c = τ.1 c := by
    have e : ∀ x, ¬ x = 0 → (sF τ 0 0 0).1 x = τ.1 x := fun x hx => by
      show pu τ.1 0 _ x = _
      rw [pu_at, if_neg hx]
    exact ⟨h.congT (fun x hx _ _ => e x hx) (fun j hj _ _ _ _ => by show pu (τ.1 0) 0 _ j = _; rw [pu_at, if_neg hj]), fun c q1 q2 => e c (by omega)⟩
  rcases arg_cases a n with ha | ⟨t, ht, rfl⟩
  · have h0 : f_Te_has a σ = 0 := (has_iff hT.1 (by omega) _).mpr ha
    have hm : a < 0 ∨ τ.1 0 8 ≤ a := by rw [a0, a8]; omega
    have eM2 : f_Mo_text a b τ = (-2, sF τ 0 0 0) := by
      rw [eM]
      by_cases z : a < 0
      · rw [if_pos z]
      · rw [if_neg z, if_pos (hm.resolve_left z)]
    rw [eC, eM2, if_pos h0]
    exact ⟨⟨k_has a σ, fun _ => trivial, fun z => absurd h0 z⟩, ⟨fun _ => trivial, fun z => ⟨fun _ => trivial, fun z2 => absurd (hm.resolve_left z) z2⟩⟩, rfl, iv0⟩
  · have hh : ¬ f_Te_has (nI t) σ = 0 := fun z => (has_iff hT.1 (by omega) _).mp z (by rw [i_nI (by omega)]; omega)
    have na : ¬ nI t < 0 := nI_pos (by omega)
    have nb : ¬ τ.1 0 8 ≤ nI t := by rw [a8, i_nI (by omega)]; omega
    have hd : (τ.1 7 t).toInt ≤ (12 : Nat) := by
      have := h.2.2.2.2.2.2.1 t ht
      rw [Int32.le_iff_toInt_le] at this
      exact this
    obtain ⟨ln1, ln2, ln3⟩ := txt_len hT hL hn 12 t (Nat.le_refl 12) ht hd
    have p12 : (2 : Nat) ^ 12 = 4096 := rfl
    obtain ⟨⟨-, -, -, -, el, -⟩, -, -, -, -, kl, -⟩ := tacc hT hn ht
    rw [ln1] at el
    generalize hLL : txt τ 12 t = L at *
    by_cases wb : -1 ≤ b.toInt
    · -- the reference writes
      let X0 : St := sF (sF τ1 0 46 0) 0 34 0
      obtain ⟨F, X', i1, i2, i3, i4, i5, i6, i7⟩ := wall hT hK hn 12 t 0 100000 X0 ht hd (by rw [nI_0]; rfl) (by omega) (fun c q1 q2 => by
        show pu (pu (pu (pu τ.1 0 _) 0 _) 0 _) 0 _ c = _
        rw [pu_at, if_neg (by omega), pu_at, if_neg (by omega), pu_at, if_neg (by omega), pu_at, if_neg (by omega)]) (by decide)
      rw [hLL] at i7
      have p13 : (2 : Nat) ^ (12 + 1) = 8192 := rfl
      obtain ⟨F, rfl⟩ : ∃ k, F = k + 1 := ⟨F - 1, by omega⟩
      have n0 : ¬ (0 : Int32) ≤ -1 := by decide
      have z34 : X'.1 0 34 = 0 := by rw [i5, nI_0]
      have l34 : X'.1 0 34 ≤ 0 := by rw [z34]; exact Int32.le_refl 0
      have eW : f_Mo_writeAll (nI t) τ1 = X' := by
        show f_Mo_writeAll_12 100000 (nI t) X0 = _
        rw [i2, f_Mo_writeAll_73, if_pos z34, f_Mo_writeAll_12, if_neg n0, if_pos l34]
      have kW : k_Mo_writeAll (nI t) τ1 := i3 ⟨fun _ => ⟨fun z => absurd z n0, fun _ => ⟨fun _ => trivial, fun z => absurd l34 z⟩⟩, fun z => absurd z34 z⟩
      obtain ⟨w1, w2⟩ := wr_num L X0 0 (by rw [nI_0]; rfl) (by omega)
      rw [Nat.zero_add] at w1
      have c46 : X'.1 0 46 = nI L.length := i7.1.trans w1
      have eT : f_Mo_text (nI t) b τ = if 0 ≤ b then (if nI L.length ≤ b then (-2, X') else (X'.1 0 48, X')) else (nI L.length, X') := by
        rw [eM, if_neg na, if_neg nb, if_pos (b1.mpr wb), eW]
        show (if 0 ≤ b then (if X'.1 0 46 ≤ b then ((-2 : Int32), X') else (X'.1 0 48, X')) else (X'.1 0 46, X')) = _
        rw [c46]
      have ivX : IV n q c k f σ X' ∧ ∀ c, 5 ≤ c → c ≤ 13 → X'.1 c = τ.1 c := by
        have e : ∀ x, ¬ x = 0 → ¬ x = 23 → ¬ x = 24 → X'.1 x = τ.1 x := fun x q1 q2 q3 => by
          rw [i4.1 x q1 q2 q3]
          show pu (pu (pu (pu τ.1 0 _) 0 _) 0 _) 0 _ x = _
          rw [pu_at, if_neg q1, pu_at, if_neg q1, pu_at, if_neg q1, pu_at, if_neg q1]
        refine ⟨h.congT e (fun j q0 q1 q2 q3 q4 => ?_), fun c q1 q2 => e c (by omega) (by omega) (by omega)⟩
        rw [i4.2.1 j q1 q2 q4]
        show pu (pu (pu (pu (τ.1 0) 0 _) 47 _) 46 _) 34 _ j = _
        rw [pu_at, if_neg q1, pu_at, if_neg q2, pu_at, if_neg q3, pu_at, if_neg q0]
      have kM : k_Mo_text (nI t) b τ := ⟨fun z => absurd z na, fun _ => ⟨fun z => absurd z nb, fun _ => ⟨fun _ => ⟨kW, ⟨fun _ => ⟨fun _ => trivial, fun _ => trivial⟩, fun _ => trivial⟩⟩, fun _ => trivial⟩⟩⟩
      have e2 : (f_Mo_text (nI t) b τ).2 = X' := by
        rw [eT]
        by_cases z : 0 ≤ b
        · rw [if_pos z]
          by_cases z2 : nI L.length ≤ b
          · rw [if_pos z2]
          · rw [if_neg z2]
        · rw [if_neg z]
      rw [e2]
      by_cases wm : b = -1
      · have wi : b.toInt = -1 := (m1_iff b).mp wm
        refine ⟨⟨k_has _ σ, fun z => absurd z hh, fun _ => ⟨fun _ => ⟨kl, trivial⟩, fun z => absurd wm z⟩⟩, kM, ?_, ivX⟩
        rw [eC, eT, if_neg hh, if_pos wm, if_neg (by rw [b2]; omega), el]
      · have wi : ¬ b.toInt = -1 := fun z => wm ((m1_iff b).mpr z)
        have nb0 : ¬ b < 0 := by rw [b0]; omega
        obtain ⟨i, hi, rfl⟩ : ∃ i : Nat, i < 2147483648 ∧ b = nI i := ⟨b.toInt.toNat, by have := b.toInt_lt; omega, nJ_of (by omega)⟩
        have pb : (0 : Int32) ≤ nI i := by rw [b2, i_nI hi]; omega
        have le : (nI L.length ≤ nI i) ↔ L.length ≤ i := nI_le_iff (by omega) hi
        have lt : (nI i < nI L.length) ↔ i < L.length := nI_lt_iff hi (by omega)
        rw [eC, eT, if_neg hh, if_neg wm, if_neg nb0, if_pos pb, el]
        by_cases w : i < L.length
        · obtain ⟨g1, g2⟩ := let8 hT hL hK hn 12 t i 0 1000 (Nat.le_refl 12) ht hd (by omega) (by rw [hLL]; exact w) (by omega)
          rw [nI_0] at g1 g2
          rw [if_pos (lt.mpr w), if_neg (fun z => by have := le.mp z; omega)]
          refine ⟨⟨k_has _ σ, fun z => absurd z hh, fun _ => ⟨fun z => absurd z wm, fun _ => ⟨fun z => absurd z nb0, fun _ => ⟨kl, fun _ => ⟨g1, trivial⟩, fun _ => trivial⟩⟩⟩⟩, kM, ?_, ivX⟩
          show f_Wr_letter_8 1000 (nI t) (nI i) 0 σ = X'.1 0 48
          rw [g2, hLL, i7.2.1, ((w2 i rfl hi).1 (by omega) (by omega))]
          rfl
        · rw [if_neg (fun z => w (lt.mp z)), if_pos (le.mpr (by omega))]
          exact ⟨⟨k_has _ σ, fun z => absurd z hh, fun _ => ⟨fun z => absurd z wm, fun _ => ⟨fun z => absurd z nb0, fun _ => ⟨kl, fun z => absurd (lt.mp (by rw [el] at z; exact z)) w, fun _ => trivial⟩⟩⟩⟩, kM, rfl, ivX⟩
    · have eM2 : f_Mo_text (nI t) b τ = (-2, sF τ 0 0 0) := by
        rw [eM, if_neg na, if_neg nb, if_neg (fun z => wb (b1.mp z))]
      have nm : ¬ b = -1 := fun z => wb (by rw [(m1_iff b).mp z]; omega)
      have lb : b < 0 := b0.mpr (by omega)
      rw [eC, eM2, if_neg hh, if_neg nm, if_pos lb]
      exact ⟨⟨k_has _ σ, fun z => absurd z hh, fun _ => ⟨fun z => absurd z nm, fun _ => ⟨fun _ => trivial, fun z => absurd lb z⟩⟩⟩, ⟨fun z => absurd z na, fun _ => ⟨fun z => absurd z nb, fun _ => ⟨fun z => absurd (b1.mp z) wb, fun _ => trivial⟩⟩⟩, rfl, iv0⟩
end WALL
