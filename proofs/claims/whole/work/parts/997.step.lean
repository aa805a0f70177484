-- the reference's machine that puts: one step
def PM (t0 s : Nat) (x4 : Int32) (X : St) : Int32 × St := f_Mo_put_68 (100000 - s) (nI t0) x4 (nI s) X
def KPM (t0 s : Nat) (x4 : Int32) (X : St) : Prop := k_Mo_put_68 (100000 - s) (nI t0) x4 (nI s) X
def psh (X : St) (t : Nat) : St := sF (sA X 24 (X.1 0 34) (nI t)) 0 34 (X.1 0 34 + 1)
section STP
variable {t0 s t b : Nat} {X : St}
theorem m1neg : ¬ (0 : Int32) ≤ -1 := by decide
theorem nIge {m : Nat} (h : m < 2147483648) : (0 : Int32) ≤ nI m := by rw [Int32.le_iff_toInt_le, Int32.toInt_zero, i_nI h]; omega
/-- into a step -/
theorem pm_in (hs : s < 4000) (ht0 : t0 < 400) (ht : t < 400) (h0 : X.1 26 t0 = -1) : PM t0 s (nI t) X = f_Mo_put_103 (f_Mo_put_68 (100000 - (s + 1))) (nI t0) (nI t) (nI s) (X.1 8 t) (X.1 9 t) X ∧ (k_Mo_put_103 (k_Mo_put_68 (100000 - (s + 1))) (nI t0) (nI t) (nI s) (X.1 8 t) (X.1 9 t) X → KPM t0 s (nI t) X) := by
  have e : 100000 - s = (100000 - (s + 1)) + 1 := by omega
  have n4 : ¬ (4000 : Int32) ≤ nI s := fun z => by
    have := (nI_le_iff (a := 4000) (by omega) (by omega)).mp z; omega
  have hc0 : (nI t0).toNatClampNeg = t0 := nI_clamp (by omega)
  have hct : (nI t).toNatClampNeg = t := nI_clamp (by omega)
  have hi0 : vp_in (nI t0) 400 := by rw [in_iff, i_nI (by omega)]; omega
  have hit : vp_in (nI t) 400 := by rw [in_iff, i_nI (by omega)]; omega
  have nz : ¬ 0 ≤ X.1 26 (nI t0).toNatClampNeg := by rw [hc0, h0]; exact m1neg
  refine ⟨?_, fun w => ?_⟩
  · unfold PM
    rw [e, f_Mo_put_68, if_neg n4, if_neg nz, f_Mo_put_94, hct]
  · unfold KPM
    rw [e]
    refine ⟨fun z => absurd z n4, fun _ => ⟨hi0, fun z => absurd z nz, fun _ => ⟨hit, hit, ?_⟩⟩⟩
    rw [hct]; exact w
theorem pm_nx (x4 : Int32) (Y : St) : f_Mo_put_312 (f_Mo_put_68 (100000 - (s + 1))) (nI t0) x4 (nI s) Y = PM t0 (s + 1) x4 Y ∧ k_Mo_put_312 (k_Mo_put_68 (100000 - (s + 1))) (nI t0) x4 (nI s) Y = KPM t0 (s + 1) x4 Y := by
  unfold PM KPM
  rw [nI_succ]; exact ⟨rfl, rfl⟩
theorem psh_26 (X : St) (t : Nat) : (psh X t).1 26 = X.1 26 := rfl
/-- first to the first part -/
theorem pm_A {a : Nat} (hs : s < 4000) (ht0 : t0 < 400) (ht : t < 400) (h0 : X.1 26 t0 = -1) (hb : b < 40) (h34 : X.1 0 34 = nI b) (ha : a < 400) (h8 : X.1 8 t = nI a) (ra : X.1 26 a = -1) : PM t0 s (nI t) X = PM t0 (s + 1) (nI a) (psh X t) ∧ (KPM t0 (s + 1) (nI a) (psh X t) → KPM t0 s (nI t) X) := by
  obtain ⟨e1, e2⟩ := pm_in hs ht0 ht h0
  have na : ¬ nI a < 0 := nI_pos (by omega)
  have hca : (nI a).toNatClampNeg = a := nI_clamp (by omega)
  have hia : vp_in (nI a) 400 := by rw [in_iff, i_nI (by omega)]; omega
  have hib : vp_in (X.1 0 34) 40 := by rw [h34, in_iff, i_nI (by omega)]; omega
  have lt : X.1 26 (nI a).toNatClampNeg < 0 := by rw [hca, ra]; decide
  have ge : ¬ 0 ≤ (psh X t).1 26 (nI a).toNatClampNeg := by rw [psh_26, hca, ra]; exact m1neg
  have e154 : f_Mo_put_103 (f_Mo_put_68 (100000 - (s + 1))) (nI t0) (nI t) (nI s) (nI a) (X.1 9 t) X = f_Mo_put_154 (f_Mo_put_68 (100000 - (s + 1))) (nI t0) (nI s) (nI a) (X.1 9 t) (psh X t) := by
    rw [f_Mo_put_103, if_neg na, if_pos lt]; rfl
  refine ⟨?_, fun w => e2 ?_⟩
  · rw [e1, h8, e154, f_Mo_put_154, if_neg na, if_neg ge, f_Mo_put_176, (pm_nx _ _).1]
  · rw [h8]
    refine ⟨fun z => absurd z na, fun _ => ⟨hia, fun _ => ⟨hib, ?_⟩, fun z => absurd lt z⟩⟩
    show k_Mo_put_154 (k_Mo_put_68 (100000 - (s + 1))) (nI t0) (nI s) (nI a) (X.1 9 t) (psh X t)
    refine ⟨fun z => absurd z na, fun _ => ⟨hia, fun z => absurd z ge, fun _ => ?_⟩⟩
    show k_Mo_put_312 (k_Mo_put_68 (100000 - (s + 1))) (nI t0) (nI a) (nI s) (psh X t)
    rw [(pm_nx _ _).2]; exact w
/-- then to the second -/
theorem pm_B {a e m : Nat} (hs : s < 4000) (ht0 : t0 < 400) (ht : t < 400) (h0 : X.1 26 t0 = -1) (hb : b < 40) (h34 : X.1 0 34 = nI b) (ha : a < 400) (h8 : X.1 8 t = nI a) (ra : X.1 26 a = nI m) (hm : m < 400) (he : e < 400) (h9 : X.1 9 t = nI e) (re : X.1 26 e = -1) : PM t0 s (nI t) X = PM t0 (s + 1) (nI e) (psh X t) ∧ (KPM t0 (s + 1) (nI e) (psh X t) → KPM t0 s (nI t) X) := by
  obtain ⟨e1, e2⟩ := pm_in hs ht0 ht h0
  have na : ¬ nI a < 0 := nI_pos (by omega)
  have ne : ¬ nI e < 0 := nI_pos (by omega)
  have hca : (nI a).toNatClampNeg = a := nI_clamp (by omega)
  have hce : (nI e).toNatClampNeg = e := nI_clamp (by omega)
  have hia : vp_in (nI a) 400 := by rw [in_iff, i_nI (by omega)]; omega
  have hie : vp_in (nI e) 400 := by rw [in_iff, i_nI (by omega)]; omega
  have hib : vp_in (X.1 0 34) 40 := by rw [h34, in_iff, i_nI (by omega)]; omega
  have lt : ¬ X.1 26 (nI a).toNatClampNeg < 0 := by rw [hca, ra]; exact nI_pos (by omega)
  have le : ¬ 0 ≤ X.1 26 (nI e).toNatClampNeg := by rw [hce, re]; exact m1neg
  have ge : 0 ≤ (psh X t).1 26 (nI a).toNatClampNeg := by rw [psh_26, hca, ra]; exact nIge (by omega)
  have e154 : f_Mo_put_103 (f_Mo_put_68 (100000 - (s + 1))) (nI t0) (nI t) (nI s) (nI a) (nI e) X = f_Mo_put_154 (f_Mo_put_68 (100000 - (s + 1))) (nI t0) (nI s) (nI a) (nI e) (psh X t) := by
    rw [f_Mo_put_103, if_neg na, if_neg lt, f_Mo_put_118, if_neg ne, if_neg le]; rfl
  refine ⟨?_, fun w => e2 ?_⟩
  · rw [e1, h8, h9, e154, f_Mo_put_154, if_neg na, if_pos ge, f_Mo_put_174, f_Mo_put_176, (pm_nx _ _).1]
  · rw [h8, h9]
    have k154 : k_Mo_put_154 (k_Mo_put_68 (100000 - (s + 1))) (nI t0) (nI s) (nI a) (nI e) (psh X t) := by
      refine ⟨fun z => absurd z na, fun _ => ⟨hia, fun _ => ?_, fun z => absurd ge z⟩⟩
      show k_Mo_put_312 (k_Mo_put_68 (100000 - (s + 1))) (nI t0) (nI e) (nI s) (psh X t)
      rw [(pm_nx _ _).2]; exact w
    exact ⟨fun z => absurd z na, fun _ => ⟨hia, fun z => absurd z lt, fun _ => ⟨fun z => absurd z ne, fun _ => ⟨hie, fun z => absurd z le, fun _ => ⟨hib, k154⟩⟩⟩⟩⟩
/-- what is stored, and back -/
def pop (t : Nat) (P : Int32 × St) (b : Nat) : St := sF (sA P.2 26 (nI t) P.1) 0 34 (nI (b - 1))
theorem pm_C {a m : Nat} {v : Int32} (hs : s < 4000) (ht0 : t0 < 400) (ht : t < 400) (h0 : X.1 26 t0 = -1) (hb : b < 40) (ha : a < 400) (h8 : X.1 8 t = nI a) (ra : X.1 26 a = nI m) (hm : m < 400) (h11 : X.1 11 t = 0) (h12 : X.1 12 t = 0)
    (hv : (X.1 9 t = -1 ∧ v = -1) ∨ ∃ e m', e < 400 ∧ m' < 400 ∧ X.1 9 t = nI e ∧ X.1 26 e = nI m' ∧ v = nI m') {P : Int32 × St} (hP : f_Mo_found (X.1 5 t) (X.1 6 t) (nI m) v (X.1 10 t) 0 0 X = P) (kP : k_Mo_found (X.1 5 t) (X.1 6 t) (nI m) v (X.1 10 t) 0 0 X) {r : Nat} (hr : P.1 = nI r) (hr4 : r < 400) (p26 : P.2.1 26 = X.1 26) (p34 : P.2.1 0 34 = nI b) (p24 : P.2.1 24 = X.1 24) (hbt : (t = t0 ∧ b = 0) ∨ (¬ t = t0 ∧ 1 ≤ b)) :
    PM t0 s (nI t) X = PM t0 (s + 1) (if t = t0 then nI t0 else X.1 24 (b - 1)) (pop t P b) ∧ (KPM t0 (s + 1) (if t = t0 then nI t0 else X.1 24 (b - 1)) (pop t P b) → KPM t0 s (nI t) X) := by
  obtain ⟨e1, e2⟩ := pm_in hs ht0 ht h0
  have na : ¬ nI a < 0 := nI_pos (by omega)
  have pa : (0 : Int32) ≤ nI a := nIge (by omega)
  have hca : (nI a).toNatClampNeg = a := nI_clamp (by omega)
  have hct : (nI t).toNatClampNeg = t := nI_clamp (by omega)
  have hc0 : (nI t0).toNatClampNeg = t0 := nI_clamp (by omega)
  have hia : vp_in (nI a) 400 := by rw [in_iff, i_nI (by omega)]; omega
  have hit : vp_in (nI t) 400 := by rw [in_iff, i_nI (by omega)]; omega
  have hi0 : vp_in (nI t0) 400 := by rw [in_iff, i_nI (by omega)]; omega
  have lt : ¬ X.1 26 (nI a).toNatClampNeg < 0 := by rw [hca, ra]; exact nI_pos (by omega)
  -- behind the storing
  have r267 : ∀ Y : St, Y = sA P.2 26 (nI t) P.1 → f_Mo_put_267 (f_Mo_put_68 (100000 - (s + 1))) (nI t0) (nI s) Y = PM t0 (s + 1) (if t = t0 then nI t0 else X.1 24 (b - 1)) (pop t P b) ∧ (KPM t0 (s + 1) (if t = t0 then nI t0 else X.1 24 (b - 1)) (pop t P b) → k_Mo_put_267 (k_Mo_put_68 (100000 - (s + 1))) (nI t0) (nI s) Y) := fun Y hY => by
    have y34 : Y.1 0 34 = nI b := by rw [hY]; exact p34
    have y26 : ∀ j, Y.1 26 j = if j = t then nI r else X.1 26 j := fun j => by rw [hY, sA1, if_pos rfl, hct, hr, p26]
    have y24 : Y.1 24 = X.1 24 := by
      rw [hY]; exact p24
    have epop : ∀ v : Int32, v = nI (b - 1) → sF Y 0 34 v = pop t P b := fun v hv => by rw [hv, hY]; rfl
    have r288 : f_Mo_put_288 (f_Mo_put_68 (100000 - (s + 1))) (nI t0) (nI s) (pop t P b) = PM t0 (s + 1) (if t = t0 then nI t0 else X.1 24 (b - 1)) (pop t P b) ∧ (KPM t0 (s + 1) (if t = t0 then nI t0 else X.1 24 (b - 1)) (pop t P b) → k_Mo_put_288 (k_Mo_put_68 (100000 - (s + 1))) (nI t0) (nI s) (pop t P b)) := by
      have z26 : (pop t P b).1 26 t0 = if t0 = t then nI r else X.1 26 t0 := by
        rw [← y26 t0, hY]; rfl
      have z34 : (pop t P b).1 0 34 = nI (b - 1) := rfl
      have z24 : (pop t P b).1 24 = X.1 24 := by
        rw [← y24, hY]; rfl
      have hcb : (nI (b - 1)).toNatClampNeg = b - 1 := nI_clamp (by omega)
      have hib : vp_in (nI (b - 1)) 40 := by rw [in_iff, i_nI (by omega)]; omega
      rcases hbt with ⟨w1, w2⟩ | ⟨w1, w2⟩
      · have ge : 0 ≤ (pop t P b).1 26 (nI t0).toNatClampNeg := by rw [hc0, z26, if_pos w1.symm]; exact nIge (by omega)
        rw [f_Mo_put_288, if_pos ge, f_Mo_put_310, (pm_nx _ _).1, if_pos w1]
        refine ⟨rfl, fun w => ⟨hi0, fun _ => ?_, fun z => absurd ge z⟩⟩
        show k_Mo_put_312 (k_Mo_put_68 (100000 - (s + 1))) (nI t0) (nI t0) (nI s) (pop t P b)
        rw [(pm_nx _ _).2]; exact w
      · have ge : ¬ 0 ≤ (pop t P b).1 26 (nI t0).toNatClampNeg := by rw [hc0, z26, if_neg (fun z => w1 z.symm), h0]; exact m1neg
        rw [f_Mo_put_288, if_neg ge, f_Mo_put_310, z34, hcb, z24, (pm_nx _ _).1, if_neg w1]
        refine ⟨rfl, fun w => ⟨hi0, fun z => absurd z ge, fun _ => ?_⟩⟩
        rw [z34, hcb, z24]
        refine ⟨hib, ?_⟩
        show k_Mo_put_312 (k_Mo_put_68 (100000 - (s + 1))) (nI t0) (X.1 24 (b - 1)) (nI s) (pop t P b)
        rw [(pm_nx _ _).2]; exact w
    have le0 : (Y.1 0 34 ≤ 0) ↔ b = 0 := by rw [y34, Int32.le_iff_toInt_le, i_nI (by omega), Int32.toInt_zero]; omega
    by_cases w : b = 0
    · have ev : Y.1 0 34 - 0 = nI (b - 1) := by rw [y34, w, nI_0]; rfl
      rw [f_Mo_put_267, if_pos (le0.mpr w), f_Mo_put_284, epop _ ev]
      refine ⟨r288.1, fun g => ⟨fun _ => ?_, fun z => absurd (le0.mpr w) z⟩⟩
      show k_Mo_put_288 (k_Mo_put_68 (100000 - (s + 1))) (nI t0) (nI s) (sF Y 0 34 (Y.1 0 34 - 0))
      rw [epop _ ev]; exact r288.2 g
    · have ev : Y.1 0 34 - 1 = nI (b - 1) := by
        obtain ⟨b', rfl⟩ : ∃ k, b = k + 1 := ⟨b - 1, by omega⟩
        rw [y34, nI_pred]; rfl
      rw [f_Mo_put_267, if_neg (fun z => w (le0.mp z)), f_Mo_put_284, epop _ ev]
      refine ⟨r288.1, fun g => ⟨fun z => absurd (le0.mp z) w, fun _ => ?_⟩⟩
      show k_Mo_put_288 (k_Mo_put_68 (100000 - (s + 1))) (nI t0) (nI s) (sF Y 0 34 (Y.1 0 34 - 1))
      rw [epop _ ev]; exact r288.2 g
  obtain ⟨g1, g2⟩ := r267 _ rfl
  have r215 : f_Mo_put_215 (f_Mo_put_68 (100000 - (s + 1))) (nI t0) (nI t) (nI s) (nI m) v X = PM t0 (s + 1) (if t = t0 then nI t0 else X.1 24 (b - 1)) (pop t P b) := by
    rw [f_Mo_put_215, hct, h11, h12, hP, f_Mo_put_266, g1]
  have k215 : KPM t0 (s + 1) (if t = t0 then nI t0 else X.1 24 (b - 1)) (pop t P b) → k_Mo_put_215 (k_Mo_put_68 (100000 - (s + 1))) (nI t0) (nI t) (nI s) (nI m) v X := fun w => by
    refine ⟨hit, hit, hit, hit, hit, ?_⟩
    rw [hct, h11, h12, hP]
    exact ⟨kP, hit, g2 w⟩
  rcases hv with ⟨h9, rfl⟩ | ⟨e, m', he, hm', h9, re, rfl⟩
  · have l9 : (-1 : Int32) < 0 := by decide
    refine ⟨?_, fun w => e2 ?_⟩
    · rw [e1, h8, h9, f_Mo_put_103, if_neg na, if_neg lt, f_Mo_put_118, if_pos l9, f_Mo_put_181, if_pos pa, hca, ra, f_Mo_put_197, if_neg m1neg, r215]
    · rw [h8, h9]
      refine ⟨fun z => absurd z na, fun _ => ⟨hia, fun z => absurd z lt, fun _ => ⟨fun _ => ⟨fun _ => ⟨hia, ?_⟩, fun z => absurd pa z⟩, fun z => absurd l9 z⟩⟩⟩
      rw [hca, ra]
      exact ⟨fun z => absurd z m1neg, fun _ => k215 w⟩
  · have ne : ¬ nI e < 0 := nI_pos (by omega)
    have pe : (0 : Int32) ≤ nI e := nIge (by omega)
    have hce : (nI e).toNatClampNeg = e := nI_clamp (by omega)
    have hie : vp_in (nI e) 400 := by rw [in_iff, i_nI (by omega)]; omega
    have le : 0 ≤ X.1 26 (nI e).toNatClampNeg := by rw [hce, re]; exact nIge (by omega)
    refine ⟨?_, fun w => e2 ?_⟩
    · rw [e1, h8, h9, f_Mo_put_103, if_neg na, if_neg lt, f_Mo_put_118, if_neg ne, if_pos le, f_Mo_put_181, if_pos pa, hca, ra, f_Mo_put_197, if_pos pe, hce, re, r215]
    · rw [h8, h9]
      refine ⟨fun z => absurd z na, fun _ => ⟨hia, fun z => absurd z lt, fun _ => ⟨fun z => absurd z ne, fun _ => ⟨hie, fun _ => ⟨fun _ => ⟨hia, ?_⟩, fun z => absurd pa z⟩, fun z => absurd le z⟩⟩⟩⟩
      rw [hca, ra]
      refine ⟨fun _ => ⟨hie, ?_⟩, fun z => absurd pe z⟩
      rw [hce, re]; exact k215 w
/-- the end -/
theorem pm_E {m : Nat} {x4 : Int32} (hs : s < 4000) (ht0 : t0 < 400) (h0 : X.1 26 t0 = nI m) (hm : m < 400) : PM t0 s x4 X = (nI m, X) ∧ KPM t0 s x4 X := by
  have e : 100000 - s = (100000 - (s + 1)) + 1 := by omega
  have n4 : ¬ (4000 : Int32) ≤ nI s := fun z => by
    have := (nI_le_iff (a := 4000) (by omega) (by omega)).mp z; omega
  have hc0 : (nI t0).toNatClampNeg = t0 := nI_clamp (by omega)
  have hi0 : vp_in (nI t0) 400 := by rw [in_iff, i_nI (by omega)]; omega
  have pz : 0 ≤ X.1 26 (nI t0).toNatClampNeg := by rw [hc0, h0]; exact nIge (by omega)
  refine ⟨?_, ?_⟩
  · unfold PM
    rw [e, f_Mo_put_68, if_neg n4, if_pos pz, f_Mo_put_318, hc0, h0]
  · unfold KPM
    rw [e]
    exact ⟨fun z => absurd z n4, fun _ => ⟨hi0, fun _ => ⟨hi0, trivial⟩, fun z => absurd pz z⟩⟩
end STP
