-- what is thrown: the ends of refused calls, on both sides
theorem sF_sF (σ : St) (k j : Nat) (v w : Int32) : sF (sF σ k j v) k j w = sF σ k j w := by
  have h : (sF (sF σ k j v) k j w).1 = (sF σ k j w).1 := by
    funext a b
    rw [sF1, sF1, sF1, sF1]
    by_cases ha : a = k
    · rw [if_pos ha, if_pos ha, if_pos rfl]
      by_cases hb : b = j
      · rw [if_pos hb, if_pos hb]
      · rw [if_neg hb, if_neg hb, if_neg hb]
    · rw [if_neg ha, if_neg ha, if_neg ha]
  exact Prod.ext h rfl
theorem shut_eq (σ : St) : f_CL_isShut σ = if σ.1 0 10 < 60 then 0 else 1 := rfl
theorem k_shut (σ : St) : k_CL_isShut σ := ⟨fun _ => ⟨rfl, trivial⟩, fun _ => ⟨rfl, trivial⟩⟩
def bg (τ : St) : St := sF (sF (sF τ 0 0 0) 0 9 (τ.1 0 8)) 0 28 0
theorem begin_eq (τ : St) : f_Mo_begin τ = (if τ.1 0 1 < 60 then 0 else 1, bg τ) := by
  show (if τ.1 0 1 < 60 then ((0 : Int32), bg τ) else ((1 : Int32), bg τ)) = _
  by_cases h : τ.1 0 1 < 60
  · rw [if_pos h, if_pos h]
  · rw [if_neg h, if_neg h]
theorem k_begin (τ : St) : k_Mo_begin τ := ⟨fun _ => ⟨rfl, trivial⟩, fun _ => ⟨rfl, trivial⟩⟩
def un (σ : St) : St := sF (sF (sF σ 0 10 (σ.1 0 10 + 1)) 6 11 (σ.1 6 12)) 6 13 0
theorem thr1 (σ : St) : f_CL_throwMissing σ = (.inr 1, un σ) := rfl
theorem thr2 (σ : St) : f_CL_throwWrong σ = (.inr 2, un σ) := rfl
theorem thr3 (σ : St) : f_CL_throwTooGreat σ = (.inr 3, un σ) := rfl
theorem thr4 (σ : St) : f_CL_throwNoRoom σ = (.inr 4, un σ) := rfl
theorem kthr1 (σ : St) : k_CL_throwMissing σ := ⟨⟨trivial, trivial⟩, trivial⟩
theorem kthr2 (σ : St) : k_CL_throwWrong σ := ⟨⟨trivial, trivial⟩, trivial⟩
theorem kthr3 (σ : St) : k_CL_throwTooGreat σ := ⟨⟨trivial, trivial⟩, trivial⟩
theorem kthr4 (σ : St) : k_CL_throwNoRoom σ := ⟨⟨trivial, trivial⟩, trivial⟩
def fl (c : Int32) (τ : St) : St := sF (sF (sF τ 0 8 (τ.1 0 9)) 0 1 (τ.1 0 1 + 1)) 0 0 c
theorem fails_n {w nm : Int32} {c : Nat} (hc : c ≤ 4) (hne : ∀ i, i < c → 1 ≤ i → ¬ ((nm >>> (((4 * nI i) - 4) &&& 31)) &&& 15) = w) (he : ((nm >>> (((4 * nI c) - 4) &&& 31)) &&& 15) = w) (X : St) :
    ∀ (m i n : Nat), i + m = c → 1 ≤ i → m < n → k_Mo_fails_23 n w nm (sF X 0 0 (nI i)) ∧ f_Mo_fails_23 n w nm (sF X 0 0 (nI i)) = (0, sF X 0 0 (nI c)) := by
  intro m
  induction m with
  | zero =>
    intro i n hi h1 h2
    obtain ⟨n, rfl⟩ : ∃ k, n = k + 1 := ⟨n - 1, by omega⟩
    have e : i = c := by omega
    subst e
    refine ⟨⟨fun _ => trivial, fun h => absurd he h⟩, ?_⟩
    show (if ((nm >>> (((4 * nI i) - 4) &&& 31)) &&& 15) = w then ((0 : Int32), sF X 0 0 (nI i)) else _) = _
    rw [if_pos he]
  | succ m ih =>
    intro i n hi h1 h2
    obtain ⟨n, rfl⟩ : ∃ k, n = k + 1 := ⟨n - 1, by omega⟩
    have hn := hne i (by omega) h1
    obtain ⟨g1, g2⟩ := ih (i + 1) n (by omega) (by omega) (by omega)
    have e : sF (sF X 0 0 (nI i)) 0 0 (nI i + 1) = sF X 0 0 (nI (i + 1)) := by rw [sF_sF, nI_succ]
    refine ⟨⟨fun h => absurd h hn, fun _ => ?_⟩, ?_⟩
    · show k_Mo_fails_23 n w nm (sF (sF X 0 0 (nI i)) 0 0 (nI i + 1))
      rw [e]; exact g1
    · show (if ((nm >>> (((4 * nI i) - 4) &&& 31)) &&& 15) = w then _ else f_Mo_fails_23 n w nm (sF (sF X 0 0 (nI i)) 0 0 (nI i + 1))) = _
      rw [if_neg hn, e]; exact g2
theorem fails_c {w nm : Int32} (c : Nat) (hc : c ≤ 4) (h1 : 1 ≤ c) (hne : ∀ i, i < c → 1 ≤ i → ¬ ((nm >>> (((4 * nI i) - 4) &&& 31)) &&& 15) = w) (he : ((nm >>> (((4 * nI c) - 4) &&& 31)) &&& 15) = w) (τ : St) : k_Mo_fails w nm τ ∧ f_Mo_fails w nm τ = (0, fl (nI c) τ) :=
  fails_n hc hne he (sF (sF τ 0 8 (τ.1 0 9)) 0 1 (τ.1 0 1 + 1)) (c - 1) 1 1000 (by omega) (by omega) (by omega)
theorem fs_2_1074 (τ : St) : k_Mo_fails 2 1074 τ ∧ f_Mo_fails 2 1074 τ = (0, fl 1 τ) := fails_c 1 (by omega) (by omega) (by decide +kernel) (by decide +kernel) τ
theorem fs_3_1074 (τ : St) : k_Mo_fails 3 1074 τ ∧ f_Mo_fails 3 1074 τ = (0, fl 2 τ) := fails_c 2 (by omega) (by omega) (by decide +kernel) (by decide +kernel) τ
theorem fs_4_1074 (τ : St) : k_Mo_fails 4 1074 τ ∧ f_Mo_fails 4 1074 τ = (0, fl 3 τ) := fails_c 3 (by omega) (by omega) (by decide +kernel) (by decide +kernel) τ
theorem fs_1_1057 (τ : St) : k_Mo_fails 1 1057 τ ∧ f_Mo_fails 1 1057 τ = (0, fl 1 τ) := fails_c 1 (by omega) (by omega) (by decide +kernel) (by decide +kernel) τ
theorem fs_2_1057 (τ : St) : k_Mo_fails 2 1057 τ ∧ f_Mo_fails 2 1057 τ = (0, fl 2 τ) := fails_c 2 (by omega) (by omega) (by decide +kernel) (by decide +kernel) τ
theorem fs_4_1057 (τ : St) : k_Mo_fails 4 1057 τ ∧ f_Mo_fails 4 1057 τ = (0, fl 3 τ) := fails_c 3 (by omega) (by omega) (by decide +kernel) (by decide +kernel) τ
theorem fs_1_17185 (τ : St) : k_Mo_fails 1 17185 τ ∧ f_Mo_fails 1 17185 τ = (0, fl 1 τ) := fails_c 1 (by omega) (by omega) (by decide +kernel) (by decide +kernel) τ
theorem fs_2_17185 (τ : St) : k_Mo_fails 2 17185 τ ∧ f_Mo_fails 2 17185 τ = (0, fl 2 τ) := fails_c 2 (by omega) (by omega) (by decide +kernel) (by decide +kernel) τ
theorem fs_3_17185 (τ : St) : k_Mo_fails 3 17185 τ ∧ f_Mo_fails 3 17185 τ = (0, fl 3 τ) := fails_c 3 (by omega) (by omega) (by decide +kernel) (by decide +kernel) τ
theorem fs_4_17185 (τ : St) : k_Mo_fails 4 17185 τ ∧ f_Mo_fails 4 17185 τ = (0, fl 4 τ) := fails_c 4 (by omega) (by omega) (by decide +kernel) (by decide +kernel) τ
theorem fs_1_1073 (τ : St) : k_Mo_fails 1 1073 τ ∧ f_Mo_fails 1 1073 τ = (0, fl 1 τ) := fails_c 1 (by omega) (by omega) (by decide +kernel) (by decide +kernel) τ
theorem fs_3_1073 (τ : St) : k_Mo_fails 3 1073 τ ∧ f_Mo_fails 3 1073 τ = (0, fl 2 τ) := fails_c 2 (by omega) (by omega) (by decide +kernel) (by decide +kernel) τ
theorem fs_4_1073 (τ : St) : k_Mo_fails 4 1073 τ ∧ f_Mo_fails 4 1073 τ = (0, fl 3 τ) := fails_c 3 (by omega) (by omega) (by decide +kernel) (by decide +kernel) τ
theorem fs_4_4 (τ : St) : k_Mo_fails 4 4 τ ∧ f_Mo_fails 4 4 τ = (0, fl 1 τ) := fails_c 1 (by omega) (by omega) (by decide +kernel) (by decide +kernel) τ
