-- free variables, as bits; what is in the way
def B8 (v : Int32) : Prop := v = 0 ∨ v = 1 ∨ v = 2 ∨ v = 3 ∨ v = 4 ∨ v = 5 ∨ v = 6 ∨ v = 7
theorem B8.or {a b : Int32} (ha : B8 a) (hb : B8 b) : B8 (a ||| b) := by
  unfold B8 at ha hb ⊢
  rcases ha with rfl | rfl | rfl | rfl | rfl | rfl | rfl | rfl <;> rcases hb with rfl | rfl | rfl | rfl | rfl | rfl | rfl | rfl <;> decide
def X3 (l : Int32) : Prop := l = 0 ∨ l = 1 ∨ l = 2
theorem X3.of {l : Int32} (h1 : 0 ≤ l.toInt) (h2 : l.toInt ≤ 2) : X3 l := by
  unfold X3
  rw [← Int32.toInt_inj, ← Int32.toInt_inj, ← Int32.toInt_inj, show (0 : Int32).toInt = 0 from rfl, show (1 : Int32).toInt = 1 from rfl, show (2 : Int32).toInt = 2 from rfl]
  omega
theorem B8.sub {a l : Int32} (ha : B8 a) (hl : X3 l) : B8 (a &&& ((1 <<< (l &&& 31)) ^^^ (-1))) := by
  unfold B8 at ha ⊢
  rcases hl with rfl | rfl | rfl <;> rcases ha with rfl | rfl | rfl | rfl | rfl | rfl | rfl | rfl <;> decide
theorem B8.one {l : Int32} (hl : X3 l) : B8 (1 <<< (l &&& 31)) := by
  unfold B8
  rcases hl with rfl | rfl | rfl <;> decide
/-- the two ways of looking at a bit -/
theorem B8.bit {a l : Int32} (ha : B8 a) (hl : X3 l) : ((a &&& (1 <<< (l &&& 31))) = 0 ↔ ¬ ((a >>> (l &&& 31)) &&& 1) = 1) ∧ (((a >>> (l &&& 31)) &&& 1) = 0 ↔ ¬ ((a >>> (l &&& 31)) &&& 1) = 1) := by
  unfold B8 at ha
  rcases hl with rfl | rfl | rfl <;> rcases ha with rfl | rfl | rfl | rfl | rfl | rfl | rfl | rfl <;> decide
theorem B8.gone {a l : Int32} (ha : B8 a) (hl : X3 l) : ¬ (((a &&& ((1 <<< (l &&& 31)) ^^^ (-1))) >>> (l &&& 31)) &&& 1) = 1 := by
  unfold B8 at ha
  rcases hl with rfl | rfl | rfl <;> rcases ha with rfl | rfl | rfl | rfl | rfl | rfl | rfl | rfl <;> decide
/-- x is free in t -/
def fr (τ : St) (x : Int32) (t : Nat) : Prop := ((τ.1 13 t >>> (x &&& 31)) &&& 1) = 1
/-- p is a part of t -/
def prt (τ : St) (t p : Nat) : Prop := p < 400 ∧ (τ.1 8 t = nI p ∨ τ.1 9 t = nI p)
/-- t binds what u has free -/
def cau (τ : St) (u t : Nat) : Prop := τ.1 5 t = 10 ∧ fr τ (τ.1 10 t) u
/-- nothing is in the way in t -/
def cln (τ : St) (x : Int32) (u t : Nat) : Prop := ∃ S : Nat → Prop, S t ∧ ∀ j, S j → fr τ x j → ¬ cau τ u j ∧ ∀ p, prt τ j p → S p
theorem cln.un {τ : St} {x : Int32} {u t : Nat} (h : cln τ x u t) (hf : fr τ x t) : ¬ cau τ u t ∧ ∀ p, prt τ t p → cln τ x u p := by
  obtain ⟨S, h1, h2⟩ := h
  obtain ⟨a, b⟩ := h2 t h1 hf
  exact ⟨a, fun p hp => ⟨S, b p hp, h2⟩⟩
theorem cln.in {τ : St} {x : Int32} {u t : Nat} (h : fr τ x t → ¬ cau τ u t ∧ ∀ p, prt τ t p → cln τ x u p) : cln τ x u t := by
  refine ⟨fun j => j = t ∨ cln τ x u j, Or.inl rfl, fun j hj hf => ?_⟩
  rcases hj with rfl | hj
  · obtain ⟨a, b⟩ := h hf
    exact ⟨a, fun p hp => Or.inr (b p hp)⟩
  · obtain ⟨a, b⟩ := hj.un hf
    exact ⟨a, fun p hp => Or.inr (b p hp)⟩
section FRE
variable {n : Nat} {σ τ : St}
theorem free8 (hW : ∀ t, t < n → tmW τ t) (hK : ∀ t, t < n → kdW τ t) (hn : n ≤ 400) : ∀ t, t < n → B8 (τ.1 13 t) := by
  intro t
  induction t using Nat.strongRecOn with
  | ind t ih =>
    intro ht
    obtain ⟨h1, h2, -, -, -, -, -, -, -, h10, -⟩ := hW t ht
    have hk := hK t ht
    have pb : ∀ y : Int32, tmO y t → B8 (pO (τ.1 13) y) := fun y hy => by
      unfold pO
      rcases hy with rfl | ⟨j, q1, rfl⟩
      · rw [if_pos rfl]; exact Or.inl rfl
      · rw [if_neg (nI_ne_m1 (by omega)), nI_clamp (by omega)]
        exact ih j q1 (by omega)
    rw [h10]
    unfold frW
    by_cases k1 : τ.1 5 t = 1
    · rw [if_pos k1]
      obtain ⟨-, l1, l2⟩ := hk.2.1 k1
      exact B8.one (X3.of l1 l2)
    · rw [if_neg k1]
      by_cases k10 : τ.1 5 t = 10
      · rw [if_pos k10]
        obtain ⟨-, -, l1, l2, -⟩ := hk.2.2.2.2.2.2.2.2.2 k10
        exact B8.sub ((pb _ h1).or (pb _ h2)) (X3.of l1 l2)
      · rw [if_neg k10]
        exact (pb _ h1).or (pb _ h2)
/-- what has a free variable and isn't one has parts; what binds it hasn't it free -/
theorem fr_inn {t : Nat} {x : Int32} (hW : ∀ t, t < n → tmW τ t) (hK : ∀ t, t < n → kdW τ t) (hn : n ≤ 400) (ht : t < n) (hf : fr τ x t) (hx : X3 x) : (¬ τ.1 5 t = 1 → ¬ τ.1 8 t = -1 ∧ ¬ τ.1 5 t = 2) ∧ ¬ (τ.1 5 t = 10 ∧ τ.1 10 t = x) := by
  obtain ⟨h1, h2, h3, -, -, -, h7, -, -, h10, -⟩ := hW t ht
  have hk := hK t ht
  have z8 : ¬ τ.1 5 t = 1 → ¬ τ.1 8 t = -1 := fun k1 z => by
    have k10 : ¬ τ.1 5 t = 10 := fun w => (hk.2.2.2.2.2.2.2.2.2 w).1 z
    unfold fr at hf
    rw [h10] at hf
    unfold frW at hf
    rw [if_neg k1, if_neg k10, z, h3 z] at hf
    revert hf
    show ((((0 : Int32) ||| 0) >>> (x &&& 31)) &&& 1) = 1 → False
    rcases hx with rfl | rfl | rfl <;> decide
  refine ⟨fun k1 => ⟨z8 k1, fun k2 => ?_⟩, fun ⟨k10, hl⟩ => ?_⟩
  · exact z8 k1 (h7 k2).1
  · have k1 : ¬ τ.1 5 t = 1 := by rw [k10]; decide
    have pb : ∀ y : Int32, tmO y t → B8 (pO (τ.1 13) y) := fun y hy => by
      unfold pO
      rcases hy with rfl | ⟨j, q1, rfl⟩
      · rw [if_pos rfl]; exact Or.inl rfl
      · rw [if_neg (nI_ne_m1 (by omega)), nI_clamp (by omega)]
        exact free8 hW hK hn j (by omega)
    unfold fr at hf
    rw [h10] at hf
    unfold frW at hf
    rw [if_neg k1, if_pos k10, hl] at hf
    exact ((pb _ h1).or (pb _ h2)).gone hx hf
/-- the class's look at a bit -/
theorem free_C {t : Nat} {x : Int32} (hT : TM n σ τ) (hK : KD n τ) (hn : n ≤ 208) (ht : t < n) (hx : X3 x) : k_Te_isFree x (nI t) σ ∧ (f_Te_isFree x (nI t) σ = 0 ↔ ¬ fr τ x t) := by
  have hb := free8 (fun t ht => (hT.2.2 t ht).2) hK.1 (by omega) t ht
  have e16 := (hT.2.2 t ht).1.2.2.2.2.2.2.1
  have ef : f_Te_freeOf (nI t) σ = τ.1 13 t := by
    have := acc_eq hT.1 hn (x := nI t) (Or.inr ⟨t, ht, rfl⟩) (σ.1 16) 0
    rw [if_neg (show ¬ nI t = -1 from nI_ne_m1 (by omega))] at this
    refine Eq.trans this ?_
    rw [nI_clamp (by omega)]
    exact e16
  have eF : f_Te_isFree x (nI t) σ = if (τ.1 13 t &&& (1 <<< (x &&& 31))) = 0 then 0 else 1 := by
    show (if (f_Te_freeOf (nI t) σ &&& (1 <<< (x &&& 31))) = 0 then (0 : Int32) else 1) = _
    rw [ef]
  refine ⟨⟨k_acc hT.1 hn (nI t), fun _ => ⟨nb0, trivial⟩, fun _ => ⟨nb1, trivial⟩⟩, ?_⟩
  rw [eF]
  by_cases w : (τ.1 13 t &&& (1 <<< (x &&& 31))) = 0
  · rw [if_pos w]
    exact ⟨fun _ => (hb.bit hx).1.mp w, fun _ => rfl⟩
  · rw [if_neg w]
    exact ⟨fun z => absurd z (by decide), fun z => absurd ((hb.bit hx).1.mpr z) w⟩
theorem free_no {x : Int32} (hT : TM n σ τ) (hn : n ≤ 208) : k_Te_isFree x (-1) σ ∧ f_Te_isFree x (-1) σ = 0 := by
  have ef : f_Te_freeOf (-1) σ = 0 := by
    have := acc_eq hT.1 hn (x := -1) (Or.inl rfl) (σ.1 16) 0
    rw [if_pos rfl] at this
    exact this
  refine ⟨⟨k_acc hT.1 hn (-1), fun _ => ⟨nb0, trivial⟩, fun _ => ⟨nb1, trivial⟩⟩, ?_⟩
  show (if (f_Te_freeOf (-1) σ &&& (1 <<< (x &&& 31))) = 0 then (0 : Int32) else 1) = 0
  rw [ef, Int32.zero_and, if_pos rfl]
end FRE
